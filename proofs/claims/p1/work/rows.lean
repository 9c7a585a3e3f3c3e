section
-- ===== PART A: goes FIRST, ahead of the names: the tables' words, and 'selects' of the private methods out of them =====
/-- a private method of a class that the tables say can be made, by its rows of tables_1 -/
def lw_okq (q : MethodName × Nat) : Prop := (q.1.cls ≠ "java/lang/invoke/MethodHandle" ∧ q.1.cls ≠ "java/lang/invoke/VarHandle") ∧ Cond.instantiable q.1.cls q.2 ∈ tables_1 ∧ Cond.privateMethod q.1 ∈ tables_1 ∧ Cond.instanceMethod q.1 ∈ tables_1
theorem lw_p0 : lw_okq (⟨"RuleForge$CriticalPairs", "isOpen", "(I)Z"⟩, 14) := ⟨⟨by decide +kernel, by decide +kernel⟩, List.mem_of_getElem? (i := 510) (by decide +kernel), List.mem_of_getElem? (i := 626) (by decide +kernel), List.mem_of_getElem? (i := 627) (by decide +kernel)⟩
theorem lw_p1 : lw_okq (⟨"RuleForge$CriticalPairs", "make", "(III)Z"⟩, 14) := ⟨⟨by decide +kernel, by decide +kernel⟩, List.mem_of_getElem? (i := 510) (by decide +kernel), List.mem_of_getElem? (i := 637) (by decide +kernel), List.mem_of_getElem? (i := 638) (by decide +kernel)⟩
theorem lw_p2 : lw_okq (⟨"RuleForge$Terms", "rebuild", "(I)I"⟩, 11) := ⟨⟨by decide +kernel, by decide +kernel⟩, List.mem_of_getElem? (i := 110) (by decide +kernel), List.mem_of_getElem? (i := 642) (by decide +kernel), List.mem_of_getElem? (i := 643) (by decide +kernel)⟩
theorem lw_p3 : lw_okq (⟨"RuleForge$Terms", "write", "(II)I"⟩, 11) := ⟨⟨by decide +kernel, by decide +kernel⟩, List.mem_of_getElem? (i := 110) (by decide +kernel), List.mem_of_getElem? (i := 661) (by decide +kernel), List.mem_of_getElem? (i := 662) (by decide +kernel)⟩
theorem lw_p4 : lw_okq (⟨"RuleForge$CriticalPairs", "unify", "(II)Z"⟩, 14) := ⟨⟨by decide +kernel, by decide +kernel⟩, List.mem_of_getElem? (i := 510) (by decide +kernel), List.mem_of_getElem? (i := 668) (by decide +kernel), List.mem_of_getElem? (i := 669) (by decide +kernel)⟩
theorem lw_p5 : lw_okq (⟨"RuleForge$CriticalPairs", "giveOne", "(II)Z"⟩, 14) := ⟨⟨by decide +kernel, by decide +kernel⟩, List.mem_of_getElem? (i := 510) (by decide +kernel), List.mem_of_getElem? (i := 673) (by decide +kernel), List.mem_of_getElem? (i := 674) (by decide +kernel)⟩
theorem lw_p6 : lw_okq (⟨"RuleForge$Reducer", "normalForm", "(II)I"⟩, 10) := ⟨⟨by decide +kernel, by decide +kernel⟩, List.mem_of_getElem? (i := 330) (by decide +kernel), List.mem_of_getElem? (i := 691) (by decide +kernel), List.mem_of_getElem? (i := 692) (by decide +kernel)⟩
theorem lw_p7 : lw_okq (⟨"RuleForge$Reducer", "begin", "(I)I"⟩, 10) := ⟨⟨by decide +kernel, by decide +kernel⟩, List.mem_of_getElem? (i := 330) (by decide +kernel), List.mem_of_getElem? (i := 695) (by decide +kernel), List.mem_of_getElem? (i := 696) (by decide +kernel)⟩
theorem lw_p8 : lw_okq (⟨"RuleForge$Reducer", "look", "(II)V"⟩, 10) := ⟨⟨by decide +kernel, by decide +kernel⟩, List.mem_of_getElem? (i := 330) (by decide +kernel), List.mem_of_getElem? (i := 699) (by decide +kernel), List.mem_of_getElem? (i := 700) (by decide +kernel)⟩
theorem lw_p9 : lw_okq (⟨"RuleForge$Reducer", "finish", "(III)I"⟩, 10) := ⟨⟨by decide +kernel, by decide +kernel⟩, List.mem_of_getElem? (i := 330) (by decide +kernel), List.mem_of_getElem? (i := 705) (by decide +kernel), List.mem_of_getElem? (i := 706) (by decide +kernel)⟩
theorem lw_p10 : lw_okq (⟨"RuleForge$Reducer", "rewritten", "(II)I"⟩, 10) := ⟨⟨by decide +kernel, by decide +kernel⟩, List.mem_of_getElem? (i := 330) (by decide +kernel), List.mem_of_getElem? (i := 711) (by decide +kernel), List.mem_of_getElem? (i := 712) (by decide +kernel)⟩
theorem lw_p11 : lw_okq (⟨"RuleForge$Laws", "argumentFits", "(II)Z"⟩, 5) := ⟨⟨by decide +kernel, by decide +kernel⟩, List.mem_of_getElem? (i := 175) (by decide +kernel), List.mem_of_getElem? (i := 721) (by decide +kernel), List.mem_of_getElem? (i := 722) (by decide +kernel)⟩
theorem lw_p12 : lw_okq (⟨"RuleForge$Pieces", "add", "(IIII)I"⟩, 16) := ⟨⟨by decide +kernel, by decide +kernel⟩, List.mem_of_getElem? (i := 213) (by decide +kernel), List.mem_of_getElem? (i := 736) (by decide +kernel), List.mem_of_getElem? (i := 737) (by decide +kernel)⟩
theorem lw_p13 : lw_okq (⟨"RuleForge$Pieces", "writePart", "(II)V"⟩, 16) := ⟨⟨by decide +kernel, by decide +kernel⟩, List.mem_of_getElem? (i := 213) (by decide +kernel), List.mem_of_getElem? (i := 757) (by decide +kernel), List.mem_of_getElem? (i := 758) (by decide +kernel)⟩
theorem lw_p14 : lw_okq (⟨"RuleForge$Terms", "sortAt", "(I)I"⟩, 11) := ⟨⟨by decide +kernel, by decide +kernel⟩, List.mem_of_getElem? (i := 110) (by decide +kernel), List.mem_of_getElem? (i := 771) (by decide +kernel), List.mem_of_getElem? (i := 772) (by decide +kernel)⟩
theorem lw_p15 : lw_okq (⟨"RuleForge$Matcher", "addDuty", "(III)I"⟩, 16) := ⟨⟨by decide +kernel, by decide +kernel⟩, List.mem_of_getElem? (i := 207) (by decide +kernel), List.mem_of_getElem? (i := 782) (by decide +kernel), List.mem_of_getElem? (i := 783) (by decide +kernel)⟩
def lw_privs_1 : List (MethodName × Nat) := [(⟨"RuleForge$CriticalPairs", "isOpen", "(I)Z"⟩, 14), (⟨"RuleForge$CriticalPairs", "make", "(III)Z"⟩, 14), (⟨"RuleForge$Terms", "rebuild", "(I)I"⟩, 11), (⟨"RuleForge$Terms", "write", "(II)I"⟩, 11), (⟨"RuleForge$CriticalPairs", "unify", "(II)Z"⟩, 14), (⟨"RuleForge$CriticalPairs", "giveOne", "(II)Z"⟩, 14), (⟨"RuleForge$Reducer", "normalForm", "(II)I"⟩, 10), (⟨"RuleForge$Reducer", "begin", "(I)I"⟩, 10), (⟨"RuleForge$Reducer", "look", "(II)V"⟩, 10), (⟨"RuleForge$Reducer", "finish", "(III)I"⟩, 10), (⟨"RuleForge$Reducer", "rewritten", "(II)I"⟩, 10), (⟨"RuleForge$Laws", "argumentFits", "(II)Z"⟩, 5), (⟨"RuleForge$Pieces", "add", "(IIII)I"⟩, 16), (⟨"RuleForge$Pieces", "writePart", "(II)V"⟩, 16), (⟨"RuleForge$Terms", "sortAt", "(I)I"⟩, 11), (⟨"RuleForge$Matcher", "addDuty", "(III)I"⟩, 16)]
theorem lw_r1 : ∀ q ∈ lw_privs_1, lw_okq q := List.forall_mem_cons.mpr ⟨lw_p0, List.forall_mem_cons.mpr ⟨lw_p1, List.forall_mem_cons.mpr ⟨lw_p2, List.forall_mem_cons.mpr ⟨lw_p3, List.forall_mem_cons.mpr ⟨lw_p4, List.forall_mem_cons.mpr ⟨lw_p5, List.forall_mem_cons.mpr ⟨lw_p6, List.forall_mem_cons.mpr ⟨lw_p7, List.forall_mem_cons.mpr ⟨lw_p8, List.forall_mem_cons.mpr ⟨lw_p9, List.forall_mem_cons.mpr ⟨lw_p10, List.forall_mem_cons.mpr ⟨lw_p11, List.forall_mem_cons.mpr ⟨lw_p12, List.forall_mem_cons.mpr ⟨lw_p13, List.forall_mem_cons.mpr ⟨lw_p14, List.forall_mem_cons.mpr ⟨lw_p15, fun _ h => absurd h List.not_mem_nil⟩⟩⟩⟩⟩⟩⟩⟩⟩⟩⟩⟩⟩⟩⟩⟩
theorem lw_p16 : lw_okq (⟨"RuleForge$Matcher", "solve", "(I)V"⟩, 16) := ⟨⟨by decide +kernel, by decide +kernel⟩, List.mem_of_getElem? (i := 207) (by decide +kernel), List.mem_of_getElem? (i := 786) (by decide +kernel), List.mem_of_getElem? (i := 787) (by decide +kernel)⟩
theorem lw_p17 : lw_okq (⟨"RuleForge$Matcher", "noteMatch", "()V"⟩, 16) := ⟨⟨by decide +kernel, by decide +kernel⟩, List.mem_of_getElem? (i := 207) (by decide +kernel), List.mem_of_getElem? (i := 790) (by decide +kernel), List.mem_of_getElem? (i := 791) (by decide +kernel)⟩
theorem lw_p18 : lw_okq (⟨"RuleForge$Matcher", "share", "(I)V"⟩, 16) := ⟨⟨by decide +kernel, by decide +kernel⟩, List.mem_of_getElem? (i := 207) (by decide +kernel), List.mem_of_getElem? (i := 795) (by decide +kernel), List.mem_of_getElem? (i := 796) (by decide +kernel)⟩
theorem lw_p19 : lw_okq (⟨"RuleForge$Matcher", "bind", "(I)V"⟩, 16) := ⟨⟨by decide +kernel, by decide +kernel⟩, List.mem_of_getElem? (i := 207) (by decide +kernel), List.mem_of_getElem? (i := 810) (by decide +kernel), List.mem_of_getElem? (i := 811) (by decide +kernel)⟩
theorem lw_p20 : lw_okq (⟨"RuleForge$Matcher", "meet", "(I)V"⟩, 16) := ⟨⟨by decide +kernel, by decide +kernel⟩, List.mem_of_getElem? (i := 207) (by decide +kernel), List.mem_of_getElem? (i := 818) (by decide +kernel), List.mem_of_getElem? (i := 819) (by decide +kernel)⟩
theorem lw_p21 : lw_okq (⟨"RuleForge$Matcher", "meetArguments", "(IIZ)V"⟩, 16) := ⟨⟨by decide +kernel, by decide +kernel⟩, List.mem_of_getElem? (i := 207) (by decide +kernel), List.mem_of_getElem? (i := 827) (by decide +kernel), List.mem_of_getElem? (i := 828) (by decide +kernel)⟩
theorem lw_p22 : lw_okq (⟨"RuleForge$Reducer", "decide", "(IIII)I"⟩, 10) := ⟨⟨by decide +kernel, by decide +kernel⟩, List.mem_of_getElem? (i := 330) (by decide +kernel), List.mem_of_getElem? (i := 835) (by decide +kernel), List.mem_of_getElem? (i := 836) (by decide +kernel)⟩
theorem lw_p23 : lw_okq (⟨"RuleForge$CriticalPairs", "addValue", "(IJ)V"⟩, 14) := ⟨⟨by decide +kernel, by decide +kernel⟩, List.mem_of_getElem? (i := 510) (by decide +kernel), List.mem_of_getElem? (i := 864) (by decide +kernel), List.mem_of_getElem? (i := 865) (by decide +kernel)⟩
theorem lw_p24 : lw_okq (⟨"RuleForge$CriticalPairs", "giveNewNumbers", "(I)Z"⟩, 14) := ⟨⟨by decide +kernel, by decide +kernel⟩, List.mem_of_getElem? (i := 510) (by decide +kernel), List.mem_of_getElem? (i := 889) (by decide +kernel), List.mem_of_getElem? (i := 890) (by decide +kernel)⟩
theorem lw_p25 : lw_okq (⟨"java/lang/Throwable", "fillInStackTrace", "(I)Ljava/lang/Throwable;"⟩, 6) := ⟨⟨by decide +kernel, by decide +kernel⟩, List.mem_of_getElem? (i := 948) (by decide +kernel), List.mem_of_getElem? (i := 946) (by decide +kernel), List.mem_of_getElem? (i := 947) (by decide +kernel)⟩
theorem lw_p26 : lw_okq (⟨"RuleForge", "push", "(I)I"⟩, 10) := ⟨⟨by decide +kernel, by decide +kernel⟩, List.mem_of_getElem? (i := 36) (by decide +kernel), List.mem_of_getElem? (i := 1086) (by decide +kernel), List.mem_of_getElem? (i := 1087) (by decide +kernel)⟩
theorem lw_p27 : lw_okq (⟨"RuleForge", "topAt", "()I"⟩, 10) := ⟨⟨by decide +kernel, by decide +kernel⟩, List.mem_of_getElem? (i := 36) (by decide +kernel), List.mem_of_getElem? (i := 1131) (by decide +kernel), List.mem_of_getElem? (i := 1132) (by decide +kernel)⟩
theorem lw_p28 : lw_okq (⟨"RuleForge", "hasPatternAndSubject", "()Z"⟩, 10) := ⟨⟨by decide +kernel, by decide +kernel⟩, List.mem_of_getElem? (i := 36) (by decide +kernel), List.mem_of_getElem? (i := 1153) (by decide +kernel), List.mem_of_getElem? (i := 1154) (by decide +kernel)⟩
theorem lw_p29 : lw_okq (⟨"RuleForge$Matcher", "giveWay", "(II)Z"⟩, 16) := ⟨⟨by decide +kernel, by decide +kernel⟩, List.mem_of_getElem? (i := 207) (by decide +kernel), List.mem_of_getElem? (i := 1171) (by decide +kernel), List.mem_of_getElem? (i := 1172) (by decide +kernel)⟩
theorem lw_p30 : lw_okq (⟨"RuleForge$Explorer", "enter", "(III)V"⟩, 9) := ⟨⟨by decide +kernel, by decide +kernel⟩, List.mem_of_getElem? (i := 436) (by decide +kernel), List.mem_of_getElem? (i := 1236) (by decide +kernel), List.mem_of_getElem? (i := 1237) (by decide +kernel)⟩
theorem lw_p31 : lw_okq (⟨"RuleForge$Explorer", "stateAt", "(I)I"⟩, 9) := ⟨⟨by decide +kernel, by decide +kernel⟩, List.mem_of_getElem? (i := 436) (by decide +kernel), List.mem_of_getElem? (i := 1240) (by decide +kernel), List.mem_of_getElem? (i := 1241) (by decide +kernel)⟩
def lw_privs_2 : List (MethodName × Nat) := [(⟨"RuleForge$Matcher", "solve", "(I)V"⟩, 16), (⟨"RuleForge$Matcher", "noteMatch", "()V"⟩, 16), (⟨"RuleForge$Matcher", "share", "(I)V"⟩, 16), (⟨"RuleForge$Matcher", "bind", "(I)V"⟩, 16), (⟨"RuleForge$Matcher", "meet", "(I)V"⟩, 16), (⟨"RuleForge$Matcher", "meetArguments", "(IIZ)V"⟩, 16), (⟨"RuleForge$Reducer", "decide", "(IIII)I"⟩, 10), (⟨"RuleForge$CriticalPairs", "addValue", "(IJ)V"⟩, 14), (⟨"RuleForge$CriticalPairs", "giveNewNumbers", "(I)Z"⟩, 14), (⟨"java/lang/Throwable", "fillInStackTrace", "(I)Ljava/lang/Throwable;"⟩, 6), (⟨"RuleForge", "push", "(I)I"⟩, 10), (⟨"RuleForge", "topAt", "()I"⟩, 10), (⟨"RuleForge", "hasPatternAndSubject", "()Z"⟩, 10), (⟨"RuleForge$Matcher", "giveWay", "(II)Z"⟩, 16), (⟨"RuleForge$Explorer", "enter", "(III)V"⟩, 9), (⟨"RuleForge$Explorer", "stateAt", "(I)I"⟩, 9)]
theorem lw_r2 : ∀ q ∈ lw_privs_2, lw_okq q := List.forall_mem_cons.mpr ⟨lw_p16, List.forall_mem_cons.mpr ⟨lw_p17, List.forall_mem_cons.mpr ⟨lw_p18, List.forall_mem_cons.mpr ⟨lw_p19, List.forall_mem_cons.mpr ⟨lw_p20, List.forall_mem_cons.mpr ⟨lw_p21, List.forall_mem_cons.mpr ⟨lw_p22, List.forall_mem_cons.mpr ⟨lw_p23, List.forall_mem_cons.mpr ⟨lw_p24, List.forall_mem_cons.mpr ⟨lw_p25, List.forall_mem_cons.mpr ⟨lw_p26, List.forall_mem_cons.mpr ⟨lw_p27, List.forall_mem_cons.mpr ⟨lw_p28, List.forall_mem_cons.mpr ⟨lw_p29, List.forall_mem_cons.mpr ⟨lw_p30, List.forall_mem_cons.mpr ⟨lw_p31, fun _ h => absurd h List.not_mem_nil⟩⟩⟩⟩⟩⟩⟩⟩⟩⟩⟩⟩⟩⟩⟩⟩
theorem lw_p32 : lw_okq (⟨"RuleForge$Explorer", "expand", "(I)Z"⟩, 9) := ⟨⟨by decide +kernel, by decide +kernel⟩, List.mem_of_getElem? (i := 436) (by decide +kernel), List.mem_of_getElem? (i := 1245) (by decide +kernel), List.mem_of_getElem? (i := 1246) (by decide +kernel)⟩
theorem lw_p33 : lw_okq (⟨"RuleForge$Explorer", "reach", "(III)Z"⟩, 9) := ⟨⟨by decide +kernel, by decide +kernel⟩, List.mem_of_getElem? (i := 436) (by decide +kernel), List.mem_of_getElem? (i := 1270) (by decide +kernel), List.mem_of_getElem? (i := 1271) (by decide +kernel)⟩
theorem lw_p34 : lw_okq (⟨"RuleForge", "hasPattern", "()Z"⟩, 10) := ⟨⟨by decide +kernel, by decide +kernel⟩, List.mem_of_getElem? (i := 36) (by decide +kernel), List.mem_of_getElem? (i := 1298) (by decide +kernel), List.mem_of_getElem? (i := 1299) (by decide +kernel)⟩
theorem lw_p35 : lw_okq (⟨"RuleForge$Plans", "addPart", "(II)V"⟩, 9) := ⟨⟨by decide +kernel, by decide +kernel⟩, List.mem_of_getElem? (i := 474) (by decide +kernel), List.mem_of_getElem? (i := 1334) (by decide +kernel), List.mem_of_getElem? (i := 1335) (by decide +kernel)⟩
theorem lw_p36 : lw_okq (⟨"RuleForge$Plans", "testAt", "(I)I"⟩, 9) := ⟨⟨by decide +kernel, by decide +kernel⟩, List.mem_of_getElem? (i := 474) (by decide +kernel), List.mem_of_getElem? (i := 1356) (by decide +kernel), List.mem_of_getElem? (i := 1357) (by decide +kernel)⟩
theorem lw_p37 : lw_okq (⟨"RuleForge$Plans", "perform", "(II)I"⟩, 9) := ⟨⟨by decide +kernel, by decide +kernel⟩, List.mem_of_getElem? (i := 474) (by decide +kernel), List.mem_of_getElem? (i := 1406) (by decide +kernel), List.mem_of_getElem? (i := 1407) (by decide +kernel)⟩
theorem lw_p38 : lw_okq (⟨"RuleForge$Plans", "useOnce", "(II)I"⟩, 9) := ⟨⟨by decide +kernel, by decide +kernel⟩, List.mem_of_getElem? (i := 474) (by decide +kernel), List.mem_of_getElem? (i := 1410) (by decide +kernel), List.mem_of_getElem? (i := 1411) (by decide +kernel)⟩
theorem lw_p39 : lw_okq (⟨"RuleForge$Plans", "passes", "(II)Z"⟩, 9) := ⟨⟨by decide +kernel, by decide +kernel⟩, List.mem_of_getElem? (i := 474) (by decide +kernel), List.mem_of_getElem? (i := 1418) (by decide +kernel), List.mem_of_getElem? (i := 1419) (by decide +kernel)⟩
theorem lw_p40 : lw_okq (⟨"RuleForge$Plans", "performAgain", "(II)I"⟩, 9) := ⟨⟨by decide +kernel, by decide +kernel⟩, List.mem_of_getElem? (i := 474) (by decide +kernel), List.mem_of_getElem? (i := 1423) (by decide +kernel), List.mem_of_getElem? (i := 1424) (by decide +kernel)⟩
theorem lw_p41 : lw_okq (⟨"RuleForge$Plans", "performTwo", "(II)I"⟩, 9) := ⟨⟨by decide +kernel, by decide +kernel⟩, List.mem_of_getElem? (i := 474) (by decide +kernel), List.mem_of_getElem? (i := 1428) (by decide +kernel), List.mem_of_getElem? (i := 1429) (by decide +kernel)⟩
theorem lw_p42 : lw_okq (⟨"RuleForge", "copyParts", "(II)Z"⟩, 10) := ⟨⟨by decide +kernel, by decide +kernel⟩, List.mem_of_getElem? (i := 36) (by decide +kernel), List.mem_of_getElem? (i := 1475) (by decide +kernel), List.mem_of_getElem? (i := 1476) (by decide +kernel)⟩
theorem lw_p43 : lw_okq (⟨"RuleForgeModel", "pop", "()LRuleForgeModel$Term;"⟩, 45) := ⟨⟨by decide +kernel, by decide +kernel⟩, List.mem_of_getElem? (i := 1481) (by decide +kernel), List.mem_of_getElem? (i := 1708) (by decide +kernel), List.mem_of_getElem? (i := 1709) (by decide +kernel)⟩
theorem lw_p44 : lw_okq (⟨"java/util/ArrayList", "fastRemove", "([Ljava/lang/Object;I)V"⟩, 3) := ⟨⟨by decide +kernel, by decide +kernel⟩, List.mem_of_getElem? (i := 1487) (by decide +kernel), List.mem_of_getElem? (i := 1736) (by decide +kernel), List.mem_of_getElem? (i := 1737) (by decide +kernel)⟩
theorem lw_p45 : lw_okq (⟨"RuleForgeModel", "reduced", "(LRuleForgeModel$Term;)LRuleForgeModel$Term;"⟩, 45) := ⟨⟨by decide +kernel, by decide +kernel⟩, List.mem_of_getElem? (i := 1481) (by decide +kernel), List.mem_of_getElem? (i := 1741) (by decide +kernel), List.mem_of_getElem? (i := 1742) (by decide +kernel)⟩
theorem lw_p46 : lw_okq (⟨"RuleForgeModel", "reduced", "(LRuleForgeModel$Term;LRuleForgeModel$Steps;I)LRuleForgeModel$Term;"⟩, 45) := ⟨⟨by decide +kernel, by decide +kernel⟩, List.mem_of_getElem? (i := 1481) (by decide +kernel), List.mem_of_getElem? (i := 1755) (by decide +kernel), List.mem_of_getElem? (i := 1756) (by decide +kernel)⟩
theorem lw_p47 : lw_okq (⟨"RuleForgeModel", "stamp", "()I"⟩, 45) := ⟨⟨by decide +kernel, by decide +kernel⟩, List.mem_of_getElem? (i := 1481) (by decide +kernel), List.mem_of_getElem? (i := 1763) (by decide +kernel), List.mem_of_getElem? (i := 1764) (by decide +kernel)⟩
def lw_privs_3 : List (MethodName × Nat) := [(⟨"RuleForge$Explorer", "expand", "(I)Z"⟩, 9), (⟨"RuleForge$Explorer", "reach", "(III)Z"⟩, 9), (⟨"RuleForge", "hasPattern", "()Z"⟩, 10), (⟨"RuleForge$Plans", "addPart", "(II)V"⟩, 9), (⟨"RuleForge$Plans", "testAt", "(I)I"⟩, 9), (⟨"RuleForge$Plans", "perform", "(II)I"⟩, 9), (⟨"RuleForge$Plans", "useOnce", "(II)I"⟩, 9), (⟨"RuleForge$Plans", "passes", "(II)Z"⟩, 9), (⟨"RuleForge$Plans", "performAgain", "(II)I"⟩, 9), (⟨"RuleForge$Plans", "performTwo", "(II)I"⟩, 9), (⟨"RuleForge", "copyParts", "(II)Z"⟩, 10), (⟨"RuleForgeModel", "pop", "()LRuleForgeModel$Term;"⟩, 45), (⟨"java/util/ArrayList", "fastRemove", "([Ljava/lang/Object;I)V"⟩, 3), (⟨"RuleForgeModel", "reduced", "(LRuleForgeModel$Term;)LRuleForgeModel$Term;"⟩, 45), (⟨"RuleForgeModel", "reduced", "(LRuleForgeModel$Term;LRuleForgeModel$Steps;I)LRuleForgeModel$Term;"⟩, 45), (⟨"RuleForgeModel", "stamp", "()I"⟩, 45)]
theorem lw_r3 : ∀ q ∈ lw_privs_3, lw_okq q := List.forall_mem_cons.mpr ⟨lw_p32, List.forall_mem_cons.mpr ⟨lw_p33, List.forall_mem_cons.mpr ⟨lw_p34, List.forall_mem_cons.mpr ⟨lw_p35, List.forall_mem_cons.mpr ⟨lw_p36, List.forall_mem_cons.mpr ⟨lw_p37, List.forall_mem_cons.mpr ⟨lw_p38, List.forall_mem_cons.mpr ⟨lw_p39, List.forall_mem_cons.mpr ⟨lw_p40, List.forall_mem_cons.mpr ⟨lw_p41, List.forall_mem_cons.mpr ⟨lw_p42, List.forall_mem_cons.mpr ⟨lw_p43, List.forall_mem_cons.mpr ⟨lw_p44, List.forall_mem_cons.mpr ⟨lw_p45, List.forall_mem_cons.mpr ⟨lw_p46, List.forall_mem_cons.mpr ⟨lw_p47, fun _ h => absurd h List.not_mem_nil⟩⟩⟩⟩⟩⟩⟩⟩⟩⟩⟩⟩⟩⟩⟩⟩
theorem lw_p48 : lw_okq (⟨"RuleForgeModel", "beneath", "(LRuleForgeModel$Term;LRuleForgeModel$Steps;I)LRuleForgeModel$Term;"⟩, 45) := ⟨⟨by decide +kernel, by decide +kernel⟩, List.mem_of_getElem? (i := 1481) (by decide +kernel), List.mem_of_getElem? (i := 1767) (by decide +kernel), List.mem_of_getElem? (i := 1768) (by decide +kernel)⟩
theorem lw_p49 : lw_okq (⟨"RuleForgeModel", "put", "(I[LRuleForgeModel$Term;)LRuleForgeModel$Term;"⟩, 45) := ⟨⟨by decide +kernel, by decide +kernel⟩, List.mem_of_getElem? (i := 1481) (by decide +kernel), List.mem_of_getElem? (i := 1774) (by decide +kernel), List.mem_of_getElem? (i := 1775) (by decide +kernel)⟩
theorem lw_p50 : lw_okq (⟨"RuleForgeModel", "gathered", "(I[LRuleForgeModel$Term;)LRuleForgeModel$Term;"⟩, 45) := ⟨⟨by decide +kernel, by decide +kernel⟩, List.mem_of_getElem? (i := 1481) (by decide +kernel), List.mem_of_getElem? (i := 1810) (by decide +kernel), List.mem_of_getElem? (i := 1811) (by decide +kernel)⟩
theorem lw_p51 : lw_okq (⟨"RuleForgeModel", "brings", "(ILRuleForgeModel$Term;)I"⟩, 45) := ⟨⟨by decide +kernel, by decide +kernel⟩, List.mem_of_getElem? (i := 1481) (by decide +kernel), List.mem_of_getElem? (i := 1814) (by decide +kernel), List.mem_of_getElem? (i := 1815) (by decide +kernel)⟩
theorem lw_p52 : lw_okq (⟨"RuleForgeModel", "isIdentityOf", "(ILRuleForgeModel$Term;)Z"⟩, 45) := ⟨⟨by decide +kernel, by decide +kernel⟩, List.mem_of_getElem? (i := 1481) (by decide +kernel), List.mem_of_getElem? (i := 1818) (by decide +kernel), List.mem_of_getElem? (i := 1819) (by decide +kernel)⟩
theorem lw_p53 : lw_okq (⟨"RuleForgeModel", "used", "(LRuleForgeModel$Term;LRuleForgeModel$Steps;I)LRuleForgeModel$Term;"⟩, 45) := ⟨⟨by decide +kernel, by decide +kernel⟩, List.mem_of_getElem? (i := 1481) (by decide +kernel), List.mem_of_getElem? (i := 1822) (by decide +kernel), List.mem_of_getElem? (i := 1823) (by decide +kernel)⟩
theorem lw_p54 : lw_okq (⟨"RuleForgeModel", "found", "(LRuleForgeModel$Term;LRuleForgeModel$Term;I)I"⟩, 45) := ⟨⟨by decide +kernel, by decide +kernel⟩, List.mem_of_getElem? (i := 1481) (by decide +kernel), List.mem_of_getElem? (i := 1840) (by decide +kernel), List.mem_of_getElem? (i := 1841) (by decide +kernel)⟩
theorem lw_p55 : lw_okq (⟨"RuleForgeModel", "lays", "(ILRuleForgeModel$Term;LRuleForgeModel$Term;II)V"⟩, 45) := ⟨⟨by decide +kernel, by decide +kernel⟩, List.mem_of_getElem? (i := 1481) (by decide +kernel), List.mem_of_getElem? (i := 1849) (by decide +kernel), List.mem_of_getElem? (i := 1850) (by decide +kernel)⟩
theorem lw_p56 : lw_okq (⟨"RuleForgeModel", "isEnough", "(I)Z"⟩, 45) := ⟨⟨by decide +kernel, by decide +kernel⟩, List.mem_of_getElem? (i := 1481) (by decide +kernel), List.mem_of_getElem? (i := 1853) (by decide +kernel), List.mem_of_getElem? (i := 1854) (by decide +kernel)⟩
theorem lw_p57 : lw_okq (⟨"RuleForgeModel", "isLast", "()Z"⟩, 45) := ⟨⟨by decide +kernel, by decide +kernel⟩, List.mem_of_getElem? (i := 1481) (by decide +kernel), List.mem_of_getElem? (i := 1857) (by decide +kernel), List.mem_of_getElem? (i := 1858) (by decide +kernel)⟩
theorem lw_p58 : lw_okq (⟨"RuleForgeModel", "order", "(I)I"⟩, 45) := ⟨⟨by decide +kernel, by decide +kernel⟩, List.mem_of_getElem? (i := 1481) (by decide +kernel), List.mem_of_getElem? (i := 1861) (by decide +kernel), List.mem_of_getElem? (i := 1862) (by decide +kernel)⟩
theorem lw_p59 : lw_okq (⟨"RuleForgeModel", "isShared", "(ILRuleForgeModel$Term;LRuleForgeModel$Term;II)Z"⟩, 45) := ⟨⟨by decide +kernel, by decide +kernel⟩, List.mem_of_getElem? (i := 1481) (by decide +kernel), List.mem_of_getElem? (i := 1865) (by decide +kernel), List.mem_of_getElem? (i := 1866) (by decide +kernel)⟩
theorem lw_p60 : lw_okq (⟨"RuleForgeModel", "isPart", "(ILRuleForgeModel$Term;LRuleForgeModel$Term;III)Z"⟩, 45) := ⟨⟨by decide +kernel, by decide +kernel⟩, List.mem_of_getElem? (i := 1481) (by decide +kernel), List.mem_of_getElem? (i := 1869) (by decide +kernel), List.mem_of_getElem? (i := 1870) (by decide +kernel)⟩
theorem lw_p61 : lw_okq (⟨"RuleForgeModel", "part", "(ILRuleForgeModel$Term;I)LRuleForgeModel$Term;"⟩, 45) := ⟨⟨by decide +kernel, by decide +kernel⟩, List.mem_of_getElem? (i := 1481) (by decide +kernel), List.mem_of_getElem? (i := 1873) (by decide +kernel), List.mem_of_getElem? (i := 1874) (by decide +kernel)⟩
theorem lw_p62 : lw_okq (⟨"RuleForgeModel", "isGiven", "(IILRuleForgeModel$Term;)Z"⟩, 45) := ⟨⟨by decide +kernel, by decide +kernel⟩, List.mem_of_getElem? (i := 1481) (by decide +kernel), List.mem_of_getElem? (i := 1883) (by decide +kernel), List.mem_of_getElem? (i := 1884) (by decide +kernel)⟩
theorem lw_p63 : lw_okq (⟨"RuleForgeModel", "sortAt", "(LRuleForgeModel$Term;)I"⟩, 45) := ⟨⟨by decide +kernel, by decide +kernel⟩, List.mem_of_getElem? (i := 1481) (by decide +kernel), List.mem_of_getElem? (i := 1891) (by decide +kernel), List.mem_of_getElem? (i := 1892) (by decide +kernel)⟩
def lw_privs_4 : List (MethodName × Nat) := [(⟨"RuleForgeModel", "beneath", "(LRuleForgeModel$Term;LRuleForgeModel$Steps;I)LRuleForgeModel$Term;"⟩, 45), (⟨"RuleForgeModel", "put", "(I[LRuleForgeModel$Term;)LRuleForgeModel$Term;"⟩, 45), (⟨"RuleForgeModel", "gathered", "(I[LRuleForgeModel$Term;)LRuleForgeModel$Term;"⟩, 45), (⟨"RuleForgeModel", "brings", "(ILRuleForgeModel$Term;)I"⟩, 45), (⟨"RuleForgeModel", "isIdentityOf", "(ILRuleForgeModel$Term;)Z"⟩, 45), (⟨"RuleForgeModel", "used", "(LRuleForgeModel$Term;LRuleForgeModel$Steps;I)LRuleForgeModel$Term;"⟩, 45), (⟨"RuleForgeModel", "found", "(LRuleForgeModel$Term;LRuleForgeModel$Term;I)I"⟩, 45), (⟨"RuleForgeModel", "lays", "(ILRuleForgeModel$Term;LRuleForgeModel$Term;II)V"⟩, 45), (⟨"RuleForgeModel", "isEnough", "(I)Z"⟩, 45), (⟨"RuleForgeModel", "isLast", "()Z"⟩, 45), (⟨"RuleForgeModel", "order", "(I)I"⟩, 45), (⟨"RuleForgeModel", "isShared", "(ILRuleForgeModel$Term;LRuleForgeModel$Term;II)Z"⟩, 45), (⟨"RuleForgeModel", "isPart", "(ILRuleForgeModel$Term;LRuleForgeModel$Term;III)Z"⟩, 45), (⟨"RuleForgeModel", "part", "(ILRuleForgeModel$Term;I)LRuleForgeModel$Term;"⟩, 45), (⟨"RuleForgeModel", "isGiven", "(IILRuleForgeModel$Term;)Z"⟩, 45), (⟨"RuleForgeModel", "sortAt", "(LRuleForgeModel$Term;)I"⟩, 45)]
theorem lw_r4 : ∀ q ∈ lw_privs_4, lw_okq q := List.forall_mem_cons.mpr ⟨lw_p48, List.forall_mem_cons.mpr ⟨lw_p49, List.forall_mem_cons.mpr ⟨lw_p50, List.forall_mem_cons.mpr ⟨lw_p51, List.forall_mem_cons.mpr ⟨lw_p52, List.forall_mem_cons.mpr ⟨lw_p53, List.forall_mem_cons.mpr ⟨lw_p54, List.forall_mem_cons.mpr ⟨lw_p55, List.forall_mem_cons.mpr ⟨lw_p56, List.forall_mem_cons.mpr ⟨lw_p57, List.forall_mem_cons.mpr ⟨lw_p58, List.forall_mem_cons.mpr ⟨lw_p59, List.forall_mem_cons.mpr ⟨lw_p60, List.forall_mem_cons.mpr ⟨lw_p61, List.forall_mem_cons.mpr ⟨lw_p62, List.forall_mem_cons.mpr ⟨lw_p63, fun _ h => absurd h List.not_mem_nil⟩⟩⟩⟩⟩⟩⟩⟩⟩⟩⟩⟩⟩⟩⟩⟩
theorem lw_p64 : lw_okq (⟨"RuleForgeModel", "sortOfOperator", "(IIII)I"⟩, 45) := ⟨⟨by decide +kernel, by decide +kernel⟩, List.mem_of_getElem? (i := 1481) (by decide +kernel), List.mem_of_getElem? (i := 1895) (by decide +kernel), List.mem_of_getElem? (i := 1896) (by decide +kernel)⟩
theorem lw_p65 : lw_okq (⟨"RuleForgeModel", "isAt", "(II)Z"⟩, 45) := ⟨⟨by decide +kernel, by decide +kernel⟩, List.mem_of_getElem? (i := 1481) (by decide +kernel), List.mem_of_getElem? (i := 1899) (by decide +kernel), List.mem_of_getElem? (i := 1900) (by decide +kernel)⟩
theorem lw_p66 : lw_okq (⟨"RuleForgeModel", "isBeneath", "(ILRuleForgeModel$Term;LRuleForgeModel$Term;)Z"⟩, 45) := ⟨⟨by decide +kernel, by decide +kernel⟩, List.mem_of_getElem? (i := 1481) (by decide +kernel), List.mem_of_getElem? (i := 1903) (by decide +kernel), List.mem_of_getElem? (i := 1904) (by decide +kernel)⟩
theorem lw_p67 : lw_okq (⟨"RuleForgeModel", "laid", "(ILRuleForgeModel$Term;LRuleForgeModel$Term;Z)I"⟩, 45) := ⟨⟨by decide +kernel, by decide +kernel⟩, List.mem_of_getElem? (i := 1481) (by decide +kernel), List.mem_of_getElem? (i := 1907) (by decide +kernel), List.mem_of_getElem? (i := 1908) (by decide +kernel)⟩
theorem lw_p68 : lw_okq (⟨"RuleForgeModel", "rank", "(LRuleForgeModel$Term;)I"⟩, 45) := ⟨⟨by decide +kernel, by decide +kernel⟩, List.mem_of_getElem? (i := 1481) (by decide +kernel), List.mem_of_getElem? (i := 1911) (by decide +kernel), List.mem_of_getElem? (i := 1912) (by decide +kernel)⟩
theorem lw_p69 : lw_okq (⟨"RuleForgeModel", "keeps", "(I)[LRuleForgeModel$Term;"⟩, 45) := ⟨⟨by decide +kernel, by decide +kernel⟩, List.mem_of_getElem? (i := 1481) (by decide +kernel), List.mem_of_getElem? (i := 1915) (by decide +kernel), List.mem_of_getElem? (i := 1916) (by decide +kernel)⟩
theorem lw_p70 : lw_okq (⟨"RuleForgeModel", "isHeld", "(LRuleForgeModel$Law;[LRuleForgeModel$Term;LRuleForgeModel$Steps;I)Z"⟩, 45) := ⟨⟨by decide +kernel, by decide +kernel⟩, List.mem_of_getElem? (i := 1481) (by decide +kernel), List.mem_of_getElem? (i := 1922) (by decide +kernel), List.mem_of_getElem? (i := 1923) (by decide +kernel)⟩
theorem lw_p71 : lw_okq (⟨"RuleForgeModel", "placed", "(LRuleForgeModel$Term;[LRuleForgeModel$Term;)LRuleForgeModel$Term;"⟩, 45) := ⟨⟨by decide +kernel, by decide +kernel⟩, List.mem_of_getElem? (i := 1481) (by decide +kernel), List.mem_of_getElem? (i := 1926) (by decide +kernel), List.mem_of_getElem? (i := 1927) (by decide +kernel)⟩
theorem lw_p72 : lw_okq (⟨"java/util/ArrayList", "add", "(Ljava/lang/Object;[Ljava/lang/Object;I)V"⟩, 3) := ⟨⟨by decide +kernel, by decide +kernel⟩, List.mem_of_getElem? (i := 1487) (by decide +kernel), List.mem_of_getElem? (i := 1939) (by decide +kernel), List.mem_of_getElem? (i := 1940) (by decide +kernel)⟩
theorem lw_p73 : lw_okq (⟨"java/util/ArrayList", "grow", "()[Ljava/lang/Object;"⟩, 3) := ⟨⟨by decide +kernel, by decide +kernel⟩, List.mem_of_getElem? (i := 1487) (by decide +kernel), List.mem_of_getElem? (i := 1943) (by decide +kernel), List.mem_of_getElem? (i := 1944) (by decide +kernel)⟩
theorem lw_p74 : lw_okq (⟨"java/util/ArrayList", "grow", "(I)[Ljava/lang/Object;"⟩, 3) := ⟨⟨by decide +kernel, by decide +kernel⟩, List.mem_of_getElem? (i := 1487) (by decide +kernel), List.mem_of_getElem? (i := 1947) (by decide +kernel), List.mem_of_getElem? (i := 1948) (by decide +kernel)⟩
theorem lw_p75 : lw_okq (⟨"RuleForgeModel", "isDone", "(I)Z"⟩, 45) := ⟨⟨by decide +kernel, by decide +kernel⟩, List.mem_of_getElem? (i := 1481) (by decide +kernel), List.mem_of_getElem? (i := 1998) (by decide +kernel), List.mem_of_getElem? (i := 1999) (by decide +kernel)⟩
theorem lw_p76 : lw_okq (⟨"RuleForgeModel", "goes", "(LRuleForgeModel$Term;LRuleForgeModel$Law;I[LRuleForgeModel$Term;)LRuleForgeModel$Term;"⟩, 45) := ⟨⟨by decide +kernel, by decide +kernel⟩, List.mem_of_getElem? (i := 1481) (by decide +kernel), List.mem_of_getElem? (i := 2005) (by decide +kernel), List.mem_of_getElem? (i := 2006) (by decide +kernel)⟩
theorem lw_p77 : lw_okq (⟨"RuleForgeModel", "replaced", "(LRuleForgeModel$Term;ILRuleForgeModel$Term;)LRuleForgeModel$Term;"⟩, 45) := ⟨⟨by decide +kernel, by decide +kernel⟩, List.mem_of_getElem? (i := 1481) (by decide +kernel), List.mem_of_getElem? (i := 2009) (by decide +kernel), List.mem_of_getElem? (i := 2010) (by decide +kernel)⟩
theorem lw_p78 : lw_okq (⟨"RuleForgeModel", "stateOf", "(LRuleForgeModel$Term;)I"⟩, 45) := ⟨⟨by decide +kernel, by decide +kernel⟩, List.mem_of_getElem? (i := 1481) (by decide +kernel), List.mem_of_getElem? (i := 2013) (by decide +kernel), List.mem_of_getElem? (i := 2014) (by decide +kernel)⟩
theorem lw_p79 : lw_okq (⟨"RuleForgeModel", "top", "()LRuleForgeModel$Term;"⟩, 45) := ⟨⟨by decide +kernel, by decide +kernel⟩, List.mem_of_getElem? (i := 1481) (by decide +kernel), List.mem_of_getElem? (i := 2036) (by decide +kernel), List.mem_of_getElem? (i := 2037) (by decide +kernel)⟩
def lw_privs_5 : List (MethodName × Nat) := [(⟨"RuleForgeModel", "sortOfOperator", "(IIII)I"⟩, 45), (⟨"RuleForgeModel", "isAt", "(II)Z"⟩, 45), (⟨"RuleForgeModel", "isBeneath", "(ILRuleForgeModel$Term;LRuleForgeModel$Term;)Z"⟩, 45), (⟨"RuleForgeModel", "laid", "(ILRuleForgeModel$Term;LRuleForgeModel$Term;Z)I"⟩, 45), (⟨"RuleForgeModel", "rank", "(LRuleForgeModel$Term;)I"⟩, 45), (⟨"RuleForgeModel", "keeps", "(I)[LRuleForgeModel$Term;"⟩, 45), (⟨"RuleForgeModel", "isHeld", "(LRuleForgeModel$Law;[LRuleForgeModel$Term;LRuleForgeModel$Steps;I)Z"⟩, 45), (⟨"RuleForgeModel", "placed", "(LRuleForgeModel$Term;[LRuleForgeModel$Term;)LRuleForgeModel$Term;"⟩, 45), (⟨"java/util/ArrayList", "add", "(Ljava/lang/Object;[Ljava/lang/Object;I)V"⟩, 3), (⟨"java/util/ArrayList", "grow", "()[Ljava/lang/Object;"⟩, 3), (⟨"java/util/ArrayList", "grow", "(I)[Ljava/lang/Object;"⟩, 3), (⟨"RuleForgeModel", "isDone", "(I)Z"⟩, 45), (⟨"RuleForgeModel", "goes", "(LRuleForgeModel$Term;LRuleForgeModel$Law;I[LRuleForgeModel$Term;)LRuleForgeModel$Term;"⟩, 45), (⟨"RuleForgeModel", "replaced", "(LRuleForgeModel$Term;ILRuleForgeModel$Term;)LRuleForgeModel$Term;"⟩, 45), (⟨"RuleForgeModel", "stateOf", "(LRuleForgeModel$Term;)I"⟩, 45), (⟨"RuleForgeModel", "top", "()LRuleForgeModel$Term;"⟩, 45)]
theorem lw_r5 : ∀ q ∈ lw_privs_5, lw_okq q := List.forall_mem_cons.mpr ⟨lw_p64, List.forall_mem_cons.mpr ⟨lw_p65, List.forall_mem_cons.mpr ⟨lw_p66, List.forall_mem_cons.mpr ⟨lw_p67, List.forall_mem_cons.mpr ⟨lw_p68, List.forall_mem_cons.mpr ⟨lw_p69, List.forall_mem_cons.mpr ⟨lw_p70, List.forall_mem_cons.mpr ⟨lw_p71, List.forall_mem_cons.mpr ⟨lw_p72, List.forall_mem_cons.mpr ⟨lw_p73, List.forall_mem_cons.mpr ⟨lw_p74, List.forall_mem_cons.mpr ⟨lw_p75, List.forall_mem_cons.mpr ⟨lw_p76, List.forall_mem_cons.mpr ⟨lw_p77, List.forall_mem_cons.mpr ⟨lw_p78, List.forall_mem_cons.mpr ⟨lw_p79, fun _ h => absurd h List.not_mem_nil⟩⟩⟩⟩⟩⟩⟩⟩⟩⟩⟩⟩⟩⟩⟩⟩
theorem lw_p80 : lw_okq (⟨"RuleForgeModel", "isFound", "(LRuleForgeModel$Term;LRuleForgeModel$Term;)Z"⟩, 45) := ⟨⟨by decide +kernel, by decide +kernel⟩, List.mem_of_getElem? (i := 1481) (by decide +kernel), List.mem_of_getElem? (i := 2043) (by decide +kernel), List.mem_of_getElem? (i := 2044) (by decide +kernel)⟩
theorem lw_p81 : lw_okq (⟨"RuleForgeModel", "avoids", "([Z)Z"⟩, 45) := ⟨⟨by decide +kernel, by decide +kernel⟩, List.mem_of_getElem? (i := 1481) (by decide +kernel), List.mem_of_getElem? (i := 2051) (by decide +kernel), List.mem_of_getElem? (i := 2052) (by decide +kernel)⟩
theorem lw_p82 : lw_okq (⟨"RuleForgeModel", "adds", "(LRuleForgeModel$Plan;)I"⟩, 45) := ⟨⟨by decide +kernel, by decide +kernel⟩, List.mem_of_getElem? (i := 1481) (by decide +kernel), List.mem_of_getElem? (i := 2090) (by decide +kernel), List.mem_of_getElem? (i := 2091) (by decide +kernel)⟩
theorem lw_p83 : lw_okq (⟨"RuleForgeModel", "gone", "(LRuleForgeModel$Plan;LRuleForgeModel$Term;)LRuleForgeModel$Term;"⟩, 45) := ⟨⟨by decide +kernel, by decide +kernel⟩, List.mem_of_getElem? (i := 1481) (by decide +kernel), List.mem_of_getElem? (i := 2114) (by decide +kernel), List.mem_of_getElem? (i := 2115) (by decide +kernel)⟩
theorem lw_p84 : lw_okq (⟨"RuleForgeModel", "usedBy", "(LRuleForgeModel$Law;LRuleForgeModel$Term;)LRuleForgeModel$Term;"⟩, 45) := ⟨⟨by decide +kernel, by decide +kernel⟩, List.mem_of_getElem? (i := 1481) (by decide +kernel), List.mem_of_getElem? (i := 2118) (by decide +kernel), List.mem_of_getElem? (i := 2119) (by decide +kernel)⟩
theorem lw_p85 : lw_okq (⟨"RuleForgeModel", "again", "(LRuleForgeModel$Plan;LRuleForgeModel$Term;)LRuleForgeModel$Term;"⟩, 45) := ⟨⟨by decide +kernel, by decide +kernel⟩, List.mem_of_getElem? (i := 1481) (by decide +kernel), List.mem_of_getElem? (i := 2122) (by decide +kernel), List.mem_of_getElem? (i := 2123) (by decide +kernel)⟩
theorem lw_p86 : lw_okq (⟨"RuleForgeModel", "allPairs", "()Ljava/util/List;"⟩, 45) := ⟨⟨by decide +kernel, by decide +kernel⟩, List.mem_of_getElem? (i := 1481) (by decide +kernel), List.mem_of_getElem? (i := 2130) (by decide +kernel), List.mem_of_getElem? (i := 2131) (by decide +kernel)⟩
theorem lw_p87 : lw_okq (⟨"RuleForgeModel", "canPair", "(LRuleForgeModel$Law;)Z"⟩, 45) := ⟨⟨by decide +kernel, by decide +kernel⟩, List.mem_of_getElem? (i := 1481) (by decide +kernel), List.mem_of_getElem? (i := 2134) (by decide +kernel), List.mem_of_getElem? (i := 2135) (by decide +kernel)⟩
theorem lw_p88 : lw_okq (⟨"RuleForgeModel", "isFree", "(LRuleForgeModel$Term;)Z"⟩, 45) := ⟨⟨by decide +kernel, by decide +kernel⟩, List.mem_of_getElem? (i := 1481) (by decide +kernel), List.mem_of_getElem? (i := 2138) (by decide +kernel), List.mem_of_getElem? (i := 2139) (by decide +kernel)⟩
theorem lw_p89 : lw_okq (⟨"RuleForgeModel", "pairAt", "(LRuleForgeModel$Law;LRuleForgeModel$Law;I)LRuleForgeModel$Both;"⟩, 45) := ⟨⟨by decide +kernel, by decide +kernel⟩, List.mem_of_getElem? (i := 1481) (by decide +kernel), List.mem_of_getElem? (i := 2142) (by decide +kernel), List.mem_of_getElem? (i := 2143) (by decide +kernel)⟩
theorem lw_p90 : lw_okq (⟨"RuleForgeModel", "resolved", "(LRuleForgeModel$Term;[LRuleForgeModel$Term;)LRuleForgeModel$Term;"⟩, 45) := ⟨⟨by decide +kernel, by decide +kernel⟩, List.mem_of_getElem? (i := 1481) (by decide +kernel), List.mem_of_getElem? (i := 2158) (by decide +kernel), List.mem_of_getElem? (i := 2159) (by decide +kernel)⟩
theorem lw_p91 : lw_okq (⟨"RuleForgeModel", "normal", "(LRuleForgeModel$Both;)LRuleForgeModel$Both;"⟩, 45) := ⟨⟨by decide +kernel, by decide +kernel⟩, List.mem_of_getElem? (i := 1481) (by decide +kernel), List.mem_of_getElem? (i := 2184) (by decide +kernel), List.mem_of_getElem? (i := 2185) (by decide +kernel)⟩
theorem lw_p92 : lw_okq (⟨"RuleForgeModel", "isAbove", "(LRuleForgeModel$Term;LRuleForgeModel$Term;)Z"⟩, 45) := ⟨⟨by decide +kernel, by decide +kernel⟩, List.mem_of_getElem? (i := 1481) (by decide +kernel), List.mem_of_getElem? (i := 2196) (by decide +kernel), List.mem_of_getElem? (i := 2197) (by decide +kernel)⟩
theorem lw_p93 : lw_okq (⟨"RuleForgeModel", "valueOf", "(LRuleForgeModel$Term;)[J"⟩, 45) := ⟨⟨by decide +kernel, by decide +kernel⟩, List.mem_of_getElem? (i := 1481) (by decide +kernel), List.mem_of_getElem? (i := 2200) (by decide +kernel), List.mem_of_getElem? (i := 2201) (by decide +kernel)⟩
theorem lw_p94 : lw_okq (⟨"RuleForgeModel", "joined", "(I[J[J[JI)[J"⟩, 45) := ⟨⟨by decide +kernel, by decide +kernel⟩, List.mem_of_getElem? (i := 1481) (by decide +kernel), List.mem_of_getElem? (i := 2204) (by decide +kernel), List.mem_of_getElem? (i := 2205) (by decide +kernel)⟩
theorem lw_p95 : lw_okq (⟨"RuleForgeModel", "open", "()LRuleForgeModel$Both;"⟩, 45) := ⟨⟨by decide +kernel, by decide +kernel⟩, List.mem_of_getElem? (i := 1481) (by decide +kernel), List.mem_of_getElem? (i := 2212) (by decide +kernel), List.mem_of_getElem? (i := 2213) (by decide +kernel)⟩
def lw_privs_6 : List (MethodName × Nat) := [(⟨"RuleForgeModel", "isFound", "(LRuleForgeModel$Term;LRuleForgeModel$Term;)Z"⟩, 45), (⟨"RuleForgeModel", "avoids", "([Z)Z"⟩, 45), (⟨"RuleForgeModel", "adds", "(LRuleForgeModel$Plan;)I"⟩, 45), (⟨"RuleForgeModel", "gone", "(LRuleForgeModel$Plan;LRuleForgeModel$Term;)LRuleForgeModel$Term;"⟩, 45), (⟨"RuleForgeModel", "usedBy", "(LRuleForgeModel$Law;LRuleForgeModel$Term;)LRuleForgeModel$Term;"⟩, 45), (⟨"RuleForgeModel", "again", "(LRuleForgeModel$Plan;LRuleForgeModel$Term;)LRuleForgeModel$Term;"⟩, 45), (⟨"RuleForgeModel", "allPairs", "()Ljava/util/List;"⟩, 45), (⟨"RuleForgeModel", "canPair", "(LRuleForgeModel$Law;)Z"⟩, 45), (⟨"RuleForgeModel", "isFree", "(LRuleForgeModel$Term;)Z"⟩, 45), (⟨"RuleForgeModel", "pairAt", "(LRuleForgeModel$Law;LRuleForgeModel$Law;I)LRuleForgeModel$Both;"⟩, 45), (⟨"RuleForgeModel", "resolved", "(LRuleForgeModel$Term;[LRuleForgeModel$Term;)LRuleForgeModel$Term;"⟩, 45), (⟨"RuleForgeModel", "normal", "(LRuleForgeModel$Both;)LRuleForgeModel$Both;"⟩, 45), (⟨"RuleForgeModel", "isAbove", "(LRuleForgeModel$Term;LRuleForgeModel$Term;)Z"⟩, 45), (⟨"RuleForgeModel", "valueOf", "(LRuleForgeModel$Term;)[J"⟩, 45), (⟨"RuleForgeModel", "joined", "(I[J[J[JI)[J"⟩, 45), (⟨"RuleForgeModel", "open", "()LRuleForgeModel$Both;"⟩, 45)]
theorem lw_r6 : ∀ q ∈ lw_privs_6, lw_okq q := List.forall_mem_cons.mpr ⟨lw_p80, List.forall_mem_cons.mpr ⟨lw_p81, List.forall_mem_cons.mpr ⟨lw_p82, List.forall_mem_cons.mpr ⟨lw_p83, List.forall_mem_cons.mpr ⟨lw_p84, List.forall_mem_cons.mpr ⟨lw_p85, List.forall_mem_cons.mpr ⟨lw_p86, List.forall_mem_cons.mpr ⟨lw_p87, List.forall_mem_cons.mpr ⟨lw_p88, List.forall_mem_cons.mpr ⟨lw_p89, List.forall_mem_cons.mpr ⟨lw_p90, List.forall_mem_cons.mpr ⟨lw_p91, List.forall_mem_cons.mpr ⟨lw_p92, List.forall_mem_cons.mpr ⟨lw_p93, List.forall_mem_cons.mpr ⟨lw_p94, List.forall_mem_cons.mpr ⟨lw_p95, fun _ h => absurd h List.not_mem_nil⟩⟩⟩⟩⟩⟩⟩⟩⟩⟩⟩⟩⟩⟩⟩⟩
theorem lw_p96 : lw_okq (⟨"RuleForgeModel", "isAdded", "(LRuleForgeModel$Term;LRuleForgeModel$Term;)Z"⟩, 45) := ⟨⟨by decide +kernel, by decide +kernel⟩, List.mem_of_getElem? (i := 1481) (by decide +kernel), List.mem_of_getElem? (i := 2216) (by decide +kernel), List.mem_of_getElem? (i := 2217) (by decide +kernel)⟩
theorem lw_p97 : lw_okq (⟨"RuleForgeModel", "numbered", "(LRuleForgeModel$Term;)[LRuleForgeModel$Term;"⟩, 45) := ⟨⟨by decide +kernel, by decide +kernel⟩, List.mem_of_getElem? (i := 1481) (by decide +kernel), List.mem_of_getElem? (i := 2223) (by decide +kernel), List.mem_of_getElem? (i := 2224) (by decide +kernel)⟩
theorem lw_p98 : lw_okq (⟨"RuleForgeModel", "viewed", "(LRuleForgeModel$Term;)LRuleForgeModel$Term;"⟩, 45) := ⟨⟨by decide +kernel, by decide +kernel⟩, List.mem_of_getElem? (i := 1481) (by decide +kernel), List.mem_of_getElem? (i := 2259) (by decide +kernel), List.mem_of_getElem? (i := 2260) (by decide +kernel)⟩
theorem lw_p99 : lw_okq (⟨"RuleForgeModel", "canFit", "(LRuleForgeModel$Term;LRuleForgeModel$Term;)Z"⟩, 45) := ⟨⟨by decide +kernel, by decide +kernel⟩, List.mem_of_getElem? (i := 1481) (by decide +kernel), List.mem_of_getElem? (i := 2270) (by decide +kernel), List.mem_of_getElem? (i := 2271) (by decide +kernel)⟩
theorem lw_p100 : lw_okq (⟨"RuleForgeModel", "canBe", "(LRuleForgeModel$Term;LRuleForgeModel$Term;)Z"⟩, 45) := ⟨⟨by decide +kernel, by decide +kernel⟩, List.mem_of_getElem? (i := 1481) (by decide +kernel), List.mem_of_getElem? (i := 2274) (by decide +kernel), List.mem_of_getElem? (i := 2275) (by decide +kernel)⟩
theorem lw_p101 : lw_okq (⟨"RuleForgeModel", "isSort", "(I)Z"⟩, 45) := ⟨⟨by decide +kernel, by decide +kernel⟩, List.mem_of_getElem? (i := 1481) (by decide +kernel), List.mem_of_getElem? (i := 2290) (by decide +kernel), List.mem_of_getElem? (i := 2291) (by decide +kernel)⟩
theorem lw_p102 : lw_okq (⟨"RuleForgeModel", "isOpen", "()Z"⟩, 45) := ⟨⟨by decide +kernel, by decide +kernel⟩, List.mem_of_getElem? (i := 1481) (by decide +kernel), List.mem_of_getElem? (i := 2298) (by decide +kernel), List.mem_of_getElem? (i := 2299) (by decide +kernel)⟩
theorem lw_p103 : lw_okq (⟨"RuleForgeModel", "hasBoth", "()Z"⟩, 45) := ⟨⟨by decide +kernel, by decide +kernel⟩, List.mem_of_getElem? (i := 1481) (by decide +kernel), List.mem_of_getElem? (i := 2342) (by decide +kernel), List.mem_of_getElem? (i := 2343) (by decide +kernel)⟩
theorem lw_p104 : lw_okq (⟨"RuleForgeModel", "underTop", "()LRuleForgeModel$Term;"⟩, 45) := ⟨⟨by decide +kernel, by decide +kernel⟩, List.mem_of_getElem? (i := 1481) (by decide +kernel), List.mem_of_getElem? (i := 2346) (by decide +kernel), List.mem_of_getElem? (i := 2347) (by decide +kernel)⟩
theorem lw_p105 : lw_okq (⟨"RuleForgeModel", "tried", "(LRuleForgeModel$Term;)Ljava/util/List;"⟩, 45) := ⟨⟨by decide +kernel, by decide +kernel⟩, List.mem_of_getElem? (i := 1481) (by decide +kernel), List.mem_of_getElem? (i := 2355) (by decide +kernel), List.mem_of_getElem? (i := 2356) (by decide +kernel)⟩
theorem lw_p106 : lw_okq (⟨"RuleForgeModel", "ways", "(LRuleForgeModel$Term;LRuleForgeModel$Term;I[LRuleForgeModel$Term;Ljava/util/List;)I"⟩, 45) := ⟨⟨by decide +kernel, by decide +kernel⟩, List.mem_of_getElem? (i := 1481) (by decide +kernel), List.mem_of_getElem? (i := 2365) (by decide +kernel), List.mem_of_getElem? (i := 2366) (by decide +kernel)⟩
theorem lw_p107 : lw_okq (⟨"RuleForgeModel", "isLike", "(LRuleForgeModel$Term;LRuleForgeModel$Term;[LRuleForgeModel$Term;)Z"⟩, 45) := ⟨⟨by decide +kernel, by decide +kernel⟩, List.mem_of_getElem? (i := 1481) (by decide +kernel), List.mem_of_getElem? (i := 2369) (by decide +kernel), List.mem_of_getElem? (i := 2370) (by decide +kernel)⟩
theorem lw_p108 : lw_okq (⟨"RuleForgeModel", "isMatch", "(LRuleForgeModel$Term;LRuleForgeModel$Term;[LRuleForgeModel$Term;)Z"⟩, 45) := ⟨⟨by decide +kernel, by decide +kernel⟩, List.mem_of_getElem? (i := 1481) (by decide +kernel), List.mem_of_getElem? (i := 2373) (by decide +kernel), List.mem_of_getElem? (i := 2374) (by decide +kernel)⟩
theorem lw_p109 : lw_okq (⟨"RuleForgeModel", "isGathered", "(LRuleForgeModel$Term;LRuleForgeModel$Term;[LRuleForgeModel$Term;)Z"⟩, 45) := ⟨⟨by decide +kernel, by decide +kernel⟩, List.mem_of_getElem? (i := 1481) (by decide +kernel), List.mem_of_getElem? (i := 2377) (by decide +kernel), List.mem_of_getElem? (i := 2378) (by decide +kernel)⟩
theorem lw_p110 : lw_okq (⟨"RuleForgeModel", "weighs", "(ILRuleForgeModel$Term;)I"⟩, 45) := ⟨⟨by decide +kernel, by decide +kernel⟩, List.mem_of_getElem? (i := 1481) (by decide +kernel), List.mem_of_getElem? (i := 2381) (by decide +kernel), List.mem_of_getElem? (i := 2382) (by decide +kernel)⟩
def lw_privs_7 : List (MethodName × Nat) := [(⟨"RuleForgeModel", "isAdded", "(LRuleForgeModel$Term;LRuleForgeModel$Term;)Z"⟩, 45), (⟨"RuleForgeModel", "numbered", "(LRuleForgeModel$Term;)[LRuleForgeModel$Term;"⟩, 45), (⟨"RuleForgeModel", "viewed", "(LRuleForgeModel$Term;)LRuleForgeModel$Term;"⟩, 45), (⟨"RuleForgeModel", "canFit", "(LRuleForgeModel$Term;LRuleForgeModel$Term;)Z"⟩, 45), (⟨"RuleForgeModel", "canBe", "(LRuleForgeModel$Term;LRuleForgeModel$Term;)Z"⟩, 45), (⟨"RuleForgeModel", "isSort", "(I)Z"⟩, 45), (⟨"RuleForgeModel", "isOpen", "()Z"⟩, 45), (⟨"RuleForgeModel", "hasBoth", "()Z"⟩, 45), (⟨"RuleForgeModel", "underTop", "()LRuleForgeModel$Term;"⟩, 45), (⟨"RuleForgeModel", "tried", "(LRuleForgeModel$Term;)Ljava/util/List;"⟩, 45), (⟨"RuleForgeModel", "ways", "(LRuleForgeModel$Term;LRuleForgeModel$Term;I[LRuleForgeModel$Term;Ljava/util/List;)I"⟩, 45), (⟨"RuleForgeModel", "isLike", "(LRuleForgeModel$Term;LRuleForgeModel$Term;[LRuleForgeModel$Term;)Z"⟩, 45), (⟨"RuleForgeModel", "isMatch", "(LRuleForgeModel$Term;LRuleForgeModel$Term;[LRuleForgeModel$Term;)Z"⟩, 45), (⟨"RuleForgeModel", "isGathered", "(LRuleForgeModel$Term;LRuleForgeModel$Term;[LRuleForgeModel$Term;)Z"⟩, 45), (⟨"RuleForgeModel", "weighs", "(ILRuleForgeModel$Term;)I"⟩, 45)]
theorem lw_r7 : ∀ q ∈ lw_privs_7, lw_okq q := List.forall_mem_cons.mpr ⟨lw_p96, List.forall_mem_cons.mpr ⟨lw_p97, List.forall_mem_cons.mpr ⟨lw_p98, List.forall_mem_cons.mpr ⟨lw_p99, List.forall_mem_cons.mpr ⟨lw_p100, List.forall_mem_cons.mpr ⟨lw_p101, List.forall_mem_cons.mpr ⟨lw_p102, List.forall_mem_cons.mpr ⟨lw_p103, List.forall_mem_cons.mpr ⟨lw_p104, List.forall_mem_cons.mpr ⟨lw_p105, List.forall_mem_cons.mpr ⟨lw_p106, List.forall_mem_cons.mpr ⟨lw_p107, List.forall_mem_cons.mpr ⟨lw_p108, List.forall_mem_cons.mpr ⟨lw_p109, List.forall_mem_cons.mpr ⟨lw_p110, fun _ h => absurd h List.not_mem_nil⟩⟩⟩⟩⟩⟩⟩⟩⟩⟩⟩⟩⟩⟩⟩
def lw_privs : List (MethodName × Nat) := lw_privs_1 ++ (lw_privs_2 ++ (lw_privs_3 ++ (lw_privs_4 ++ (lw_privs_5 ++ (lw_privs_6 ++ (lw_privs_7))))))
def lw_tbl : List Cond := k2_sels lw_privs ++ tables_1
theorem lw_privs_ok : ∀ q ∈ lw_privs, lw_okq q := by
  show ∀ q ∈ lw_privs_1 ++ (lw_privs_2 ++ (lw_privs_3 ++ (lw_privs_4 ++ (lw_privs_5 ++ (lw_privs_6 ++ (lw_privs_7)))))), lw_okq q
  exact List.forall_mem_append.mpr ⟨lw_r1, List.forall_mem_append.mpr ⟨lw_r2, List.forall_mem_append.mpr ⟨lw_r3, List.forall_mem_append.mpr ⟨lw_r4, List.forall_mem_append.mpr ⟨lw_r5, List.forall_mem_append.mpr ⟨lw_r6, lw_r7⟩⟩⟩⟩⟩⟩
-- ===== end of PART A; then your names; then what follows =====
end
section
/-! ===== BEGIN words of one list among another's, by their places ===== -/
theorem goodIn_r {big : List Cond} (ws : List Cond) (ps : List Nat) (hp : ws = ps.filterMap (fun i => big[i]?)) (h : ws.all goodWord = true) : GoodIn big ws := by
  intro w hw
  have h1 := List.all_eq_true.mp h w hw
  rw [hp] at hw
  obtain ⟨i, -, hi⟩ := List.mem_filterMap.mp hw
  have hm : w ∈ big := by first | exact List.mem_of_getElem? hi | exact List.getElem?_mem hi
  exact ⟨hm, good_of_word h1⟩
theorem goodIn_app {big a b : List Cond} (ha : GoodIn big a) (hb : GoodIn big b) : GoodIn big (a ++ b) := fun w h => (List.mem_append.mp h).elim (ha w) (hb w)
theorem goodIn_ca {big a b : List Cond} {c : Cond} (ha : GoodIn big (c :: a)) (hb : GoodIn big b) : GoodIn big (c :: (a ++ b)) := fun w h => (List.mem_cons.mp h).elim (fun e => ha w (List.mem_cons.mpr (Or.inl e))) (fun h => (List.mem_append.mp h).elim (fun h => ha w (List.mem_cons.mpr (Or.inr h))) (hb w))
theorem goodIn_sub {big ws : List Cond} (hm : ∀ w ∈ ws, w ∈ big) (h : ws.all goodWord = true) : GoodIn big ws := fun w hw => ⟨hm w hw, good_of_word (List.all_eq_true.mp h w hw)⟩
/-! ===== END ===== -/

/-! ===== BEGIN exceptions that leave a method, and their catching by the caller (launches without stack traces) ===== -/
section VXA
/-! The laws vx_back, vx_callV, vx_callS, vx_callSW, vx_throw0, vx_throwS follow proofs of the library, with one case more: JvmDerived/Free/Laws.lean (Back.of_free), Shelf42/LK1.lean (callV, callS), Shelf/KitTraced.lean (throwNew0V, throwNewS). -/
/-- where a method has thrown q: the class by its name, the cell, what was written, the world -/
def vx_T (XC : String → State → State → Prop) (st : State) (q : Addr) (t : State) (mc ms : Nat) (free : Addr → Prop) : Prop :=
  ∃ (E : String) (ce : Cell) (L : List Loc), XC E st t ∧ t.heap[q]? = some ce ∧ ce.vm = .none ∧ st.vm.findClass E = some ce.cls ∧ st.WarmedH t.vm ∧ st.sameButNew ({ t with vm := st.vm } : State) L mc ms ∧ ∀ z ∈ L, free z.base
def vx_Q (Qc : Array Value → State → Outcome → State → Prop) (XC : String → State → State → Prop) (mc ms : Nat) (free : Addr → Prop) : Array Value → State → Outcome → State → Prop := fun a st o t =>
  (Qc a st o t ∧ ∃ L, FrameEnd st o t L mc ms ∧ ∀ q ∈ L, free q.base) ∨ ∃ q, o = .threw q ∧ vx_T XC st q t mc ms free
/-- a callee that returns or throws -/
def vx_Met (l : Launch) (y : MethodName) (ws : List Cond) (rm : Room) (Pc : Array Value → State → Prop) (Qc : Array Value → State → Outcome → State → Prop) (XC : String → State → State → Prop) (mc ms : Nat) (free : Addr → Prop) : Prop :=
  MetFree l y (headSpec ws rm) Pc (fun _ _ _ _ _ => True) (vx_Q Qc XC mc ms free)
def vx_Post (XC : String → State → State → Prop) (mc ms : Nat) (free : Addr → Prop) : Pt → Array Value → Addr → Pt → Prop := fun A a q B =>
  ∃ (g : JFrame) (mk : MethodId) (t : State) (L : List Loc) (E : String) (ce : Cell), B.U.heap = t.heap ∧ B.U.vm = t.vm ∧ XC E (A.U.calling g mk a) t ∧ t.heap[q]? = some ce ∧ ce.vm = .none ∧ A.U.vm.findClass E = some ce.cls ∧ B.locs = A.locs ++ L ∧ (∀ z ∈ L, free z.base) ∧ B.cells = A.cells + mc ∧ B.slots = A.slots + ms
def vx_Back (l : Launch) (R : Room) (p : Program) (e : Env) (below : List Frame) (s : State) (sargs : Array Value) (y : MethodName) (len W9 : Nat)
    (Pre : Pt → Array Value → Prop) (Post : Pt → Array Value → Option Value → Pt → Prop) (PostX : Pt → Array Value → Addr → Pt → Prop) : Prop :=
  ∀ (m : MethodId) (meth : Method) (c : Code) (A : Pt) (g : JFrame) (ig : Instr) (mk : MethodId) (a : Array Value),
    Stand p l e R s m sargs below meth c A.U A.locs A.cells A.slots → g.method = m → g.locals.size = c.maxLocals → decode c.code g.pc = .ok (ig, len) →
    2 * g.monitorRoom + (g.stack.map fun v => v.category).sum ≤ W9 → A.U.methodNamed? y = some mk → Pre A a →
    (∃ (v : Option Value) (B : Pt), Stand p l e R s m sargs below meth c B.U B.locs B.cells B.slots ∧ Post A a v B ∧
      Steps p.tables e below (doInvoke e (A.U.setTop g) [] mk a).1 (B.U.setTop { g with pc := g.pc + len, stack := v.toList ++ g.stack })) ∨
    (∃ (q : Addr) (B : Pt), Stand p l e R s m sargs below meth c B.U B.locs B.cells B.slots ∧ PostX A a q B ∧
      Steps p.tables e below (doInvoke e (A.U.setTop g) [] mk a).1 ((B.U.setTop g).pushFrame (.throwing q)))
section Payer
variable {l : Launch} {R : Room} {p : Program} {e : Env} {below : List Frame} {s : State} {sargs : Array Value} {y : MethodName} {len W9 : Nat}
theorem vx_back {ws : List Cond} {rm : Room} {Pc : Array Value → State → Prop} {Qc : Array Value → State → Outcome → State → Prop} {XC : String → State → State → Prop} {mc ms : Nat} {free : Addr → Prop} {bytes : ByteArray} {maxL : Nat} {ret : Option FieldType}
    (hM : vx_Met l y ws rm Pc Qc XC mc ms free) (hblind : FrameBlind Pc) (hrc : rm.cells = mc) (hrs : rm.slots = ms)
    (hframes : rm.frames + 1 ≤ R.frames) (hlocals : W9 + (maxL + 11) + rm.locals ≤ R.locals)
    (hws : ∀ w ∈ ws, ∀ a' U, s.WarmedH U.vm → w.before a' U = true) (hcode : Cond.code y bytes maxL ret ∈ ws) (hinit : ∀ a' U, s.WarmedH U.vm → (Cond.initialized y.cls).before a' U = true) :
    vx_Back l R p e below s sargs y len W9 (PreOf R mc ms Pc) (PostOf Qc mc ms free) (vx_Post XC mc ms free) := by
  intro m meth c A g ig mk a X hg hsize hdg hW hn hp
  have h1 : (headSpec ws rm).pre.before a A.U = true := atoms_intro fun w hw => hws w hw _ _ X.warmed
  have h2 : (Cond.code y bytes maxL ret).before a A.U = true := hws _ hcode _ _ X.warmed
  have h3 : (Cond.initialized y.cls).before a A.U = true := hinit _ _ X.warmed
  have h4 : A.cells + (headSpec ws rm).room.cells ≤ R.cells := by rw [show (headSpec ws rm).room.cells = mc from hrc]; exact hp.1
  have h5 : A.slots + (headSpec ws rm).room.slots ≤ R.slots := by rw [show (headSpec ws rm).room.slots = ms from hrs]; exact hp.2.1
  have hPc : Pc a (A.U.calling g mk a) := hblind _ _ _ _ hp.2.2
  obtain ⟨U, Ls, c0, s0⟩ := A
  dsimp only [Pt.U, Pt.locs, Pt.cells, Pt.slots] at h1 h2 h3 h4 h5 X hn hPc ⊢
  obtain ⟨methY, cY, hmY, hcY, -, hlY, -, -, -, -⟩ := Cond.code_spec hn h2
  obtain ⟨kY, hkY, -⟩ := className_of_methodNamed hn
  have hinitY : kY.init = .initialized := Cond.initialized_spec (findClass_of_methodNamed hn) hkY h3
  have h : At U g.method c below := by rw [hg]; exact X.here
  have hlocals9 : W9 + (maxL + 11) + (headSpec ws rm).room.locals ≤ R.locals := hlocals
  have happ : (headSpec ws rm).appliesLoose y e.platform (U.calling g mk a) = true :=
    Spec.appliesLoose_calling (g := g) h hdg hn hkY hinitY
      (X.room_calling (g := g) (R' := (headSpec ws rm).room) hsize hmY hcY hframes (by rw [hlY]; omega) h4 h5) h1
  obtain ⟨mid, hmid⟩ := h.above
  have hfr : (U.setTop g).frames = (.java g :: mid) ++ below := by rw [State.frames_setTop' g h.top, hmid]; rfl
  obtain ⟨o, s₂, hsteps, -, hend, hq⟩ := Steps.callFree hM p X.admits X.cas X.clock (acts := []) hfr happ hPc trivial
  have hq' : vx_Q Qc XC mc ms free a (U.calling g mk a) o s₂ := hq
  rw [State.frames_setTop' g h.top] at hend
  obtain ⟨g₀, hg0⟩ := Option.isSome_iff_exists.mp h.top
  obtain ⟨r, hr⟩ := State.topJava?_eq_some.mp hg0
  have hr' : (({ U with heap := s₂.heap, slotsUsed := s₂.slotsUsed } : State).setVm s₂.vm).frames = .java g₀ :: r := hr
  rcases hq' with ⟨hqc, L, hfe, hL⟩ | ⟨q, rfl, E, ce, L, hx, hce, hcv, hcl, hW₂, hsm, hL⟩
  · obtain ⟨⟨v, rfl⟩, hW₂, e2, q2, q3, q4, q5, q6⟩ := id hfe
    have e3 : s₂ = ({ (U.calling g mk a).setFrames s₂.frames with heap := s₂.heap, slotsUsed := s₂.slotsUsed } : State).setVm s₂.vm := by
      have : s₂ = ({ s₂ with vm := (U.calling g mk a).vm } : State).setVm s₂.vm := rfl
      rw [e2] at this
      exact this
    obtain ⟨c₂, i₂, len₂, hc₂, hd₂, hf₂⟩ := hend
    have hW' : U.WarmedH s₂.vm := hW₂
    have hcc : c₂ = c := by
      have h1 : s₂.code? g.method = U.code? g.method := by
        rw [State.code?_eq, State.code?_eq, hW'.alike.method?]
      exact Option.some.inj (hc₂.symm.trans (h1.trans h.code))
    subst hcc
    have hlen : len₂ = len := by rw [hdg] at hd₂; cases hd₂; rfl
    subst hlen
    have hs₂ : s₂ = (({ U with heap := s₂.heap, slotsUsed := s₂.slotsUsed } : State).setVm s₂.vm).setTop { g with pc := g.pc + len₂, stack := v.toList ++ g.stack } := by
      refine e3.trans ?_
      rw [hf₂, State.calling_eq h.top, State.setFrames_setFrames, State.setTop_of_frames _ hr', hr]
      rfl
    have hsame : U.sameButNew ({ U with heap := s₂.heap, slotsUsed := s₂.slotsUsed } : State) L mc ms := by
      refine ⟨?_, q2, q3, q4, q5, q6⟩
      obtain ⟨t, ht, -⟩ := State.frames_cons hr
      show ({ U with heap := s₂.heap, slotsUsed := s₂.slotsUsed } : State) = { U.setFrames U.frames with heap := s₂.heap, slotsUsed := s₂.slotsUsed }
      rw [State.setFrames_self ht]
    subst hg
    refine Or.inl ⟨v, ⟨(({ U with heap := s₂.heap, slotsUsed := s₂.slotsUsed } : State).setVm s₂.vm), Ls ++ L, c0 + mc, s0 + ms⟩,
      ⟨X.admits, X.cas, X.clock, X.frames, X.room, X.hears, X.method, X.code, (X.here.setHeapUsed s₂.heap s₂.slotsUsed).setVm hW'.alike, X.tail, State.WarmedH.trans X.warmed hW', X.limits, X.bytes, X.same.trans (hsame.setVm s.vm)⟩,
      ⟨g, mk, s₂, L, rfl, rfl, hqc, rfl, hL, rfl, rfl⟩, ?_⟩
    show Steps p.tables e below _ ((({ U with heap := s₂.heap, slotsUsed := s₂.slotsUsed } : State).setVm s₂.vm).setTop { g with pc := g.pc + len₂, stack := v.toList ++ g.stack })
    rw [← hs₂]
    exact hsteps
  · obtain ⟨e2, q2, q3, q4, q5, q6⟩ := id hsm
    have e3 : s₂ = ({ (U.calling g mk a).setFrames s₂.frames with heap := s₂.heap, slotsUsed := s₂.slotsUsed } : State).setVm s₂.vm := by
      have : s₂ = ({ s₂ with vm := (U.calling g mk a).vm } : State).setVm s₂.vm := rfl
      rw [e2] at this
      exact this
    have hf₂ : s₂.frames = .throwing q :: .java g :: U.frames.tail := hend
    have hW' : U.WarmedH s₂.vm := hW₂
    have hs₂ : s₂ = ((({ U with heap := s₂.heap, slotsUsed := s₂.slotsUsed } : State).setVm s₂.vm).setTop g).pushFrame (.throwing q) := by
      refine e3.trans ?_
      rw [hf₂, State.calling_eq h.top, State.setFrames_setFrames, State.pushFrame, State.frames_setTop _ hr', State.setTop_of_frames _ hr', State.setFrames_setFrames, hr]
      rfl
    have hsame : U.sameButNew ({ U with heap := s₂.heap, slotsUsed := s₂.slotsUsed } : State) L mc ms := by
      refine ⟨?_, q2, q3, q4, q5, q6⟩
      obtain ⟨t, ht, -⟩ := State.frames_cons hr
      show ({ U with heap := s₂.heap, slotsUsed := s₂.slotsUsed } : State) = { U.setFrames U.frames with heap := s₂.heap, slotsUsed := s₂.slotsUsed }
      rw [State.setFrames_self ht]
    subst hg
    refine Or.inr ⟨q, ⟨(({ U with heap := s₂.heap, slotsUsed := s₂.slotsUsed } : State).setVm s₂.vm), Ls ++ L, c0 + mc, s0 + ms⟩,
      ⟨X.admits, X.cas, X.clock, X.frames, X.room, X.hears, X.method, X.code, (X.here.setHeapUsed s₂.heap s₂.slotsUsed).setVm hW'.alike, X.tail, State.WarmedH.trans X.warmed hW', X.limits, X.bytes, X.same.trans (hsame.setVm s.vm)⟩,
      ⟨g, mk, s₂, L, E, ce, rfl, rfl, hx, hce, hcv, hcl, rfl, hL, rfl, rfl⟩, ?_⟩
    show Steps p.tables e below _ (((({ U with heap := s₂.heap, slotsUsed := s₂.slotsUsed } : State).setVm s₂.vm).setTop g).pushFrame (.throwing q))
    rw [← hs₂]
    exact hsteps
end Payer
section Calls
variable {p : Program} {l : Launch} {e : Env} {R : Room} {s : State} {m : MethodId} {args : Array Value} {below : List Frame} {meth : Method} {c : Code} {T : State} {locs : List Loc} {cells slots : Nat}
theorem vx_callV (X : Stand p l e R s m args below meth c T locs cells slots) (hexec : p.tables.exec = Jvm.exec) {own C : String} {index : Nat} {y : MethodName} {bytes : ByteArray} {maxL : Nat} {ret : Option FieldType}
    (hown : s.vm.findClass own = some m.cls) (hlink : (Cond.methodLink own index y).before args s = true) (hinst : (Cond.instanceMethod y).before args s = true) (hsel : (Cond.selects C y y).before args s = true)
    (hcode : (Cond.code y bytes maxL ret).before args s = true) (hy : y.cls ≠ "java/lang/invoke/MethodHandle" ∧ y.cls ≠ "java/lang/invoke/VarHandle")
    {W9 : Nat} {Pre : Pt → Array Value → Prop} {Post : Pt → Array Value → Option Value → Pt → Prop} {PostX : Pt → Array Value → Addr → Pt → Prop} (hK : vx_Back l R p e below s args y 3 W9 Pre Post PostX)
    {b : Addr} {cellB : Cell} (hcell : T.heap[b]? = some cellB) (hobj : cellB.vm.isStatics = false) (hcls : s.vm.findClass C = some cellB.cls)
    {g : JFrame} (hg : g.method = m) (hsize : g.locals.size = c.maxLocals) {argsL rest : List Value} (hlen : ∀ sig, parseMethodDescriptor y.desc = some sig → argsL.length = sig.parameters.length)
    (hstack : g.stack = argsL.reverse ++ .ref b :: rest) (hW : 2 * g.monitorRoom + (rest.map fun v => v.category).sum ≤ W9) (hdg : decode c.code g.pc = .ok (.invokevirtual index, 3))
    (hpre : ∀ vm₁, s.WarmedH vm₁ → Pre ⟨T.setVm vm₁, locs, cells, slots⟩ (Value.ref b :: argsL).toArray) :
    (∃ (v : Option Value) (vm₁ : Vm) (B : Pt), s.WarmedH vm₁ ∧ Stand p l e R s m args below meth c B.U B.locs B.cells B.slots ∧ Post ⟨T.setVm vm₁, locs, cells, slots⟩ (Value.ref b :: argsL).toArray v B ∧
      ∀ target, Steps p.tables e below (B.U.setTop { g with pc := g.pc + 3, stack := v.toList ++ rest }) target → Steps p.tables e below (T.setTop g) target) ∨
    (∃ (q : Addr) (vm₁ : Vm) (B : Pt), s.WarmedH vm₁ ∧ Stand p l e R s m args below meth c B.U B.locs B.cells B.slots ∧ PostX ⟨T.setVm vm₁, locs, cells, slots⟩ (Value.ref b :: argsL).toArray q B ∧
      Steps p.tables e below (T.setTop g) ((B.U.setTop { g with stack := rest }).pushFrame (.throwing q))) := by
  obtain ⟨mk, methM, hnamed, hmethM, hstM, habM⟩ := Cond.instanceMethod_spec hinst
  obtain ⟨methM', cM, hmethM', -, -, -, -, -, -, hsigM⟩ := Cond.code_spec hnamed hcode
  cases hmethM.symm.trans hmethM'
  obtain ⟨c2, r2, m2, q1, q2, q3, q4, kP, hkP, hkPi⟩ := Cond.selects_spec hsel
  cases hcls.symm.trans q1
  cases (State.methodFound?_of_named hnamed hy).symm.trans q2
  cases hnamed.symm.trans q3
  have hselP : selectMethod e.platform s.vm cellB.cls mk = .method mk := by rw [Launch.admits_selectMethod X.admits]; exact q4
  obtain ⟨vm₁, X₁, hstep₁⟩ := X.invokevirtual hexec hown hlink hnamed hmethM hstM hkP hkPi hy (a := b) (cell := cellB) hcell
    (fun z h => by rw [h] at hobj; cases hobj) hselP hmethM habM hkP hkPi (g := g) hg (argsL := argsL) (rest := rest) (hlen _ hsigM) hstack hdg
  rcases hK m meth c ⟨T.setVm vm₁, locs, cells, slots⟩ { g with stack := rest } (.invokevirtual index) mk (Value.ref b :: argsL).toArray X₁ hg hsize hdg hW (X₁.named hnamed) (hpre vm₁ X₁.warmed) with ⟨v, B, X', hpost, hsteps⟩ | ⟨q, B, X', hpost, hsteps⟩
  · exact Or.inl ⟨v, vm₁, B, X₁.warmed, X', hpost, fun target h => hstep₁ _ fun acts => by rw [doInvoke_state]; exact hsteps.trans h⟩
  · exact Or.inr ⟨q, vm₁, B, X₁.warmed, X', hpost, hstep₁ _ fun acts => by rw [doInvoke_state]; exact hsteps⟩
theorem vx_callS (X : Stand p l e R s m args below meth c T locs cells slots) (hexec : p.tables.exec = Jvm.exec) {own : String} {index : Nat} {y : MethodName} {bytes : ByteArray} {maxL : Nat} {ret : Option FieldType}
    (hown : s.vm.findClass own = some m.cls) (hlink : (Cond.methodLink own index y).before args s = true) (hstat : (Cond.static y).before args s = true) (hinit : (Cond.initialized y.cls).before args s = true)
    (hcode : (Cond.code y bytes maxL ret).before args s = true) (hy : y.cls ≠ "java/lang/invoke/MethodHandle" ∧ y.cls ≠ "java/lang/invoke/VarHandle")
    {W9 : Nat} {Pre : Pt → Array Value → Prop} {Post : Pt → Array Value → Option Value → Pt → Prop} {PostX : Pt → Array Value → Addr → Pt → Prop} (hK : vx_Back l R p e below s args y 3 W9 Pre Post PostX)
    {g : JFrame} (hg : g.method = m) (hsize : g.locals.size = c.maxLocals) {argsL rest : List Value} (hlen : ∀ sig, parseMethodDescriptor y.desc = some sig → argsL.length = sig.parameters.length)
    (hstack : g.stack = argsL.reverse ++ rest) (hW : 2 * g.monitorRoom + (rest.map fun v => v.category).sum ≤ W9) (hdg : decode c.code g.pc = .ok (.invokestatic index, 3))
    (hpre : ∀ vm₁, s.WarmedH vm₁ → Pre ⟨T.setVm vm₁, locs, cells, slots⟩ argsL.toArray) :
    (∃ (v : Option Value) (vm₁ : Vm) (B : Pt), s.WarmedH vm₁ ∧ Stand p l e R s m args below meth c B.U B.locs B.cells B.slots ∧ Post ⟨T.setVm vm₁, locs, cells, slots⟩ argsL.toArray v B ∧
      ∀ target, Steps p.tables e below (B.U.setTop { g with pc := g.pc + 3, stack := v.toList ++ rest }) target → Steps p.tables e below (T.setTop g) target) ∨
    (∃ (q : Addr) (vm₁ : Vm) (B : Pt), s.WarmedH vm₁ ∧ Stand p l e R s m args below meth c B.U B.locs B.cells B.slots ∧ PostX ⟨T.setVm vm₁, locs, cells, slots⟩ argsL.toArray q B ∧
      Steps p.tables e below (T.setTop g) ((B.U.setTop { g with stack := rest }).pushFrame (.throwing q))) := by
  obtain ⟨mk, hnamed⟩ := Cond.code_named hcode
  obtain ⟨methM, cM, hmethM, -, -, -, -, -, -, hsigM⟩ := Cond.code_spec hnamed hcode
  have hstatic : methM.isStatic = true := Cond.static_spec hnamed hmethM hstat
  obtain ⟨kP, hkP, -⟩ := className_of_methodNamed hnamed
  have hinitP : kP.init = .initialized := Cond.initialized_spec (findClass_of_methodNamed hnamed) hkP hinit
  obtain ⟨vm₁, X₁, hstep₁⟩ := X.invokestatic hexec hown hlink hnamed hmethM hstatic hkP hinitP hy (g := g) hg (argsL := argsL) (rest := rest) (hlen _ hsigM) hstack hdg
  rcases hK m meth c ⟨T.setVm vm₁, locs, cells, slots⟩ { g with stack := rest } (.invokestatic index) mk argsL.toArray X₁ hg hsize hdg hW (X₁.named hnamed) (hpre vm₁ X₁.warmed) with ⟨v, B, X', hpost, hsteps⟩ | ⟨q, B, X', hpost, hsteps⟩
  · exact Or.inl ⟨v, vm₁, B, X₁.warmed, X', hpost, fun target h => hstep₁ _ fun acts => by rw [doInvoke_state]; exact hsteps.trans h⟩
  · exact Or.inr ⟨q, vm₁, B, X₁.warmed, X', hpost, hstep₁ _ fun acts => by rw [doInvoke_state]; exact hsteps⟩
end Calls
theorem vx_cls {s : State} {T : State} {vm₁ : Vm} {E : String} {k : ClassId} (hW : s.WarmedH vm₁) (h : (T.setVm vm₁).vm.findClass E = some k) : s.vm.findClass E = some k := by
  have h1 : vm₁.findClass E = some k := h
  rw [hW.alike.findClass] at h1
  exact h1
/-- the method's frame g, with q thrown over it -/
def vx_W (p : Program) (l : Launch) (e : Env) (R : Room) (s : State) (m : MethodId) (args : Array Value) (below : List Frame) (meth : Method) (c : Code) (H : Heap) (locs : List Loc) (cells slots : Nat) (Q : State → Prop) (g : JFrame) (q : Addr) : Prop :=
  ∀ T : State, T.heap = H → Stand p l e R s m args below meth c T locs cells slots → ∃ t, Steps p.tables e below ((T.setTop g).pushFrame (.throwing q)) t ∧ Q t
def vx_Run (p : Program) (l : Launch) (e : Env) (R : Room) (s : State) (m : MethodId) (args : Array Value) (below : List Frame) (meth : Method) (c : Code) (H : Heap) (locs : List Loc) (cells slots mc ms : Nat) (g : JFrame) (rest : List Value) (Qa : State → Outcome → State → Prop) (XC : String → State → State → Prop) (free : Addr → Prop) : Prop :=
  ∀ T : State, T.heap = H → Stand p l e R s m args below meth c T locs cells slots →
    (∃ (v : Option Value) (st₀ t T' : State) (L : List Loc), st₀.heap = H ∧ Stand p l e R s m args below meth c T' (locs ++ L) (cells + mc) (slots + ms) ∧ (∀ q ∈ L, free q.base) ∧ T'.heap = t.heap ∧ T'.vm = t.vm ∧ Qa st₀ (.returned v) t ∧
      Goes p e below T g T' { g with pc := g.pc + 3, stack := v.toList ++ rest }) ∨
    (∃ (q : Addr) (st₀ t T' : State) (L : List Loc) (E : String) (ce : Cell), st₀.heap = H ∧ Stand p l e R s m args below meth c T' (locs ++ L) (cells + mc) (slots + ms) ∧ (∀ z ∈ L, free z.base) ∧ T'.heap = t.heap ∧ T'.vm = t.vm ∧ XC E st₀ t ∧ t.heap[q]? = some ce ∧ ce.vm = .none ∧ s.vm.findClass E = some ce.cls ∧
      Steps p.tables e below (T.setTop g) ((T'.setTop { g with stack := rest }).pushFrame (.throwing q)))
def vx_X {S : Type} (px : S → Prop) (B : String → S → State → Prop) (A : Nat → Prop) : String → State → State → Prop := fun E st t => ∃ u : S, px u ∧ B E u t ∧ va_F A st t
section Runs
variable {p : Program} {l : Launch} {e : Env} {R : Room} {s : State} {m : MethodId} {args : Array Value} {below : List Frame} {meth : Method} {c : Code} {H : Heap} {locs : List Loc} {cells slots : Nat}
variable {y : MethodName} {bytes cc : ByteArray} {maxL nL mc ms n index : Nat} {ret : Option FieldType} {ws : List Cond} {rm : Room} {Pc : Array Value → State → Prop} {Qc : Array Value → State → Outcome → State → Prop} {XC : String → State → State → Prop} {free : Addr → Prop} {Ts : List Cond} {own C : String} {b : Addr} {As rest : List Value} {g : JFrame}
theorem vx_callBack (cb : CallB R s args own index y bytes maxL ret ws rm mc ms n) (hM : vx_Met l y ws rm Pc Qc XC mc ms free) (hbl : FrameBlind Pc) : vx_Back l R p e below s args y 3 8 (PreOf R mc ms Pc) (PostOf Qc mc ms free) (vx_Post XC mc ms free) := by
  obtain ⟨hrc, hrs, hfr, hlo, hws, hcw, -, hini, -⟩ := cb
  exact vx_back (bytes := bytes) (maxL := maxL) (ret := ret) hM hbl hrc hrs hfr hlo hws hcw (fun a' U hW => word_at hW (Or.inl (by first | rfl | simp [Cond.onTables, Cond.keeps, Cond.steady])) hini)
theorem vx_runV (S : CallFix p m c cc nL s args Ts own) (hM : vx_Met l y ws rm Pc Qc XC mc ms free) (cw : CallW R s args own C index y bytes maxL ret ws rm mc ms n) (hp : PreV s H C b Pc As)
    (hg : g.method = m) (hn : As.length = n) (hsize : g.locals.size = nL) (hstack : g.stack = As.reverse ++ .ref b :: rest) (hW : 2 * g.monitorRoom + (rest.map fun v => v.category).sum ≤ 8) (hdg : decode cc g.pc = .ok (.invokevirtual index, 3)) (hf : cells + mc ≤ R.cells ∧ slots + ms ≤ R.slots) :
    vx_Run p l e R s m args below meth c H locs cells slots mc ms g rest (Qc (Value.ref b :: As).toArray) XC free := by
  have hK : vx_Back l R p e below s args y 3 8 (PreOf R mc ms Pc) (PostOf Qc mc ms free) (vx_Post XC mc ms free) := vx_callBack cw.1 hM hp.1
  obtain ⟨⟨-, -, -, -, -, -, hcode, -, hy, hlen, hl⟩, hin, hse⟩ := cw
  obtain ⟨hx, hb, hml, ho, -⟩ := S
  obtain ⟨-, ⟨cellB, hcB, hoB, hclB⟩, hPc⟩ := hp
  intro T hT X
  rcases vx_callV X hx (C := C) (bytes := bytes) (maxL := maxL) (ret := ret) ho hl hin hse hcode hy hK (by rw [hT]; exact hcB) hoB hclB hg (hsize.trans hml.symm) (argsL := As) (rest := rest) (fun sig h => hn.trans (hlen sig h)) hstack hW (by rw [hb]; exact hdg)
    (fun vm₁ hW₁ => ⟨hf.1, hf.2, hPc (T.setVm vm₁) hT hW₁⟩) with ⟨v, vm₁, ⟨U', l2, c2, s2⟩, hW₁, X', ⟨g', mk, t, L, e1, e2, hq, h1, hL, h2, h3⟩, st⟩ | ⟨q, vm₁, ⟨U', l2, c2, s2⟩, hW₁, X', ⟨g', mk, t, L, E, ce, e1, e2, hq, hce, hcv, hcl, h1, hL, h2, h3⟩, st⟩
  · dsimp only [Pt.U, Pt.locs, Pt.cells, Pt.slots] at X' e1 e2 h1 h2 h3 st
    subst h1; subst h2; subst h3
    exact Or.inl ⟨v, (T.setVm vm₁).calling g' mk (Value.ref b :: As).toArray, t, U', L, hT, X', hL, e1, e2, hq, st⟩
  · dsimp only [Pt.U, Pt.locs, Pt.cells, Pt.slots] at X' e1 e2 h1 h2 h3 st hcl
    subst h1; subst h2; subst h3
    exact Or.inr ⟨q, (T.setVm vm₁).calling g' mk (Value.ref b :: As).toArray, t, U', L, E, ce, hT, X', hL, e1, e2, hq, hce, hcv, vx_cls hW₁ hcl, st⟩
theorem vx_runS (S : CallFix p m c cc nL s args Ts own) (hM : vx_Met l y ws rm Pc Qc XC mc ms free) (cw : CallB R s args own index y bytes maxL ret ws rm mc ms n ∧ (Cond.static y).before args s = true) (hp : PreS s H Pc As)
    (hg : g.method = m) (hn : As.length = n) (hsize : g.locals.size = nL) (hstack : g.stack = As.reverse ++ rest) (hW : 2 * g.monitorRoom + (rest.map fun v => v.category).sum ≤ 8) (hdg : decode cc g.pc = .ok (.invokestatic index, 3)) (hf : cells + mc ≤ R.cells ∧ slots + ms ≤ R.slots) :
    vx_Run p l e R s m args below meth c H locs cells slots mc ms g rest (Qc As.toArray) XC free := by
  have hK : vx_Back l R p e below s args y 3 8 (PreOf R mc ms Pc) (PostOf Qc mc ms free) (vx_Post XC mc ms free) := vx_callBack cw.1 hM hp.1
  obtain ⟨⟨-, -, -, -, -, -, hcode, hini, hy, hlen, hl⟩, hstt⟩ := cw
  obtain ⟨hx, hb, hml, ho, -⟩ := S
  intro T hT X
  rcases vx_callS X hx (bytes := bytes) (maxL := maxL) (ret := ret) ho hl hstt hini hcode hy hK hg (hsize.trans hml.symm) (argsL := As) (rest := rest) (fun sig h => hn.trans (hlen sig h)) hstack hW (by rw [hb]; exact hdg)
    (fun vm₁ hW₁ => ⟨hf.1, hf.2, hp.2 (T.setVm vm₁) hT hW₁⟩) with ⟨v, vm₁, ⟨U', l2, c2, s2⟩, hW₁, X', ⟨g', mk, t, L, e1, e2, hq, h1, hL, h2, h3⟩, st⟩ | ⟨q, vm₁, ⟨U', l2, c2, s2⟩, hW₁, X', ⟨g', mk, t, L, E, ce, e1, e2, hq, hce, hcv, hcl, h1, hL, h2, h3⟩, st⟩
  · dsimp only [Pt.U, Pt.locs, Pt.cells, Pt.slots] at X' e1 e2 h1 h2 h3 st
    subst h1; subst h2; subst h3
    exact Or.inl ⟨v, (T.setVm vm₁).calling g' mk As.toArray, t, U', L, hT, X', hL, e1, e2, hq, st⟩
  · dsimp only [Pt.U, Pt.locs, Pt.cells, Pt.slots] at X' e1 e2 h1 h2 h3 st hcl
    subst h1; subst h2; subst h3
    exact Or.inr ⟨q, (T.setVm vm₁).calling g' mk As.toArray, t, U', L, E, ce, hT, X', hL, e1, e2, hq, hce, hcv, vx_cls hW₁ hcl, st⟩
end Runs
section Rows
variable {p : Program} {l : Launch} {e : Env} {R : Room} {s : State} {m : MethodId} {args : Array Value} {below : List Frame} {meth : Method} {c : Code} {H : Heap} {locs : List Loc} {cells slots : Nat} {Q : State → Prop}
variable {mc ms : Nat} {free : Addr → Prop} {A0 A1 : Nat → Prop} {H0 : Heap} {a : Array Value} {pc : Nat} {ls : Array Slot} {st0 rest : List Value}
theorem vx_keep {st₀ t T' : State} {L : List Loc} (h0 : st₀.heap = H) (e1 : T'.heap = t.heap) (hS : va_S A0 H0 H locs) (hA : ∀ q, q < H.size → A1 q → A0 q) (hf : ∀ q, free q → A0 q) (hL : ∀ q ∈ L, free q.base) (hF : va_F A1 st₀ t) :
    H.size ≤ T'.heap.size ∧ (∀ q : Nat, q < H.size → ¬ A1 q → T'.heap[q]? = H[q]?) ∧ va_S A0 H0 T'.heap (locs ++ L) := by
  obtain ⟨hz, hk⟩ := hF
  rw [h0] at hz hk
  exact ⟨by rw [e1]; exact hz, fun q h1 h2 => by rw [e1]; exact hk q h1 h2,
    ⟨Nat.le_trans hS.1 (by rw [e1]; exact hz), fun q h1 h2 => by rw [e1, hk q (Nat.lt_of_lt_of_le h1 hS.1) (fun z => h2 (hA q (Nat.lt_of_lt_of_le h1 hS.1) z))]; exact hS.2.1 q h1 h2, fun q hq => by
      rcases List.mem_append.mp hq with h | h
      · exact hS.2.2 q h
      · exact hf _ (hL q h)⟩⟩
theorem vx_calli {S SX : Type} {post : Int32 → S → Prop} {px : SX → Prop} {B : S → State → Prop} {BX : String → SX → State → Prop} {AX : Nat → Prop} (hr : vx_Run p l e R s m args below meth c H locs cells slots mc ms (F0 m pc ls st0) rest (va_Qi post B A1 a) (vx_X px BX AX) free) (hS : va_S A0 H0 H locs) (hA : ∀ q, q < H.size → A1 q → A0 q) (hf : ∀ q, free q → A0 q) (hAX : ∀ q, q < H.size → AX q → A0 q)
    (kx : ∀ (E : String) (ce : Cell) (q9 : Addr) (u : SX) (t : State) (H1 : Heap) (locs1 : List Loc), t.heap = H1 → s.vm.Alike t.vm → px u → BX E u t → H.size ≤ H1.size → (∀ q : Nat, q < H.size → ¬ AX q → H1[q]? = H[q]?) → va_S A0 H0 H1 locs1 → H1[q9]? = some ce → ce.vm = .none → s.vm.findClass E = some ce.cls → vx_W p l e R s m args below meth c H1 locs1 (cells + mc) (slots + ms) Q (F0 m pc ls rest) q9)
    (kk : ∀ (r : Int32) (u : S) (t : State) (H1 : Heap) (locs1 : List Loc), t.heap = H1 → s.vm.Alike t.vm → post r u → B u t → H.size ≤ H1.size → (∀ q : Nat, q < H.size → ¬ A1 q → H1[q]? = H[q]?) → va_S A0 H0 H1 locs1 → W p l e R s m args below meth c H1 locs1 (cells + mc) (slots + ms) Q (F0 m (pc + 3) ls (.int r :: rest))) : W p l e R s m args below meth c H locs cells slots Q (F0 m pc ls st0) := by
  intro T hT X
  rcases hr T hT X with ⟨v, st₀, t, T', L, h0, X', hL, e1, e2, ⟨⟨r, u, hv, hp, hb⟩, hF⟩, st⟩ | ⟨q, st₀, t, T', L, E, ce, h0, X', hL, e1, e2, ⟨u, hp, hb, hF⟩, hce, hcv, hcl, st⟩
  · cases hv
    obtain ⟨k1, k2, k3⟩ := vx_keep h0 e1 hS hA hf hL hF
    obtain ⟨t2, a1, b1⟩ := kk r u t T'.heap (locs ++ L) e1.symm (by rw [← e2]; exact X'.warmed.alike) hp hb k1 k2 k3 T' rfl X'
    exact ⟨t2, st t2 a1, b1⟩
  · obtain ⟨k1, k2, k3⟩ := vx_keep h0 e1 hS hAX hf hL hF
    obtain ⟨t2, a1, b1⟩ := kx E ce q u t T'.heap (locs ++ L) e1.symm (by rw [← e2]; exact X'.warmed.alike) hp hb k1 k2 k3 (by rw [e1]; exact hce) hcv hcl T' rfl X'
    exact ⟨t2, st.trans a1, b1⟩
theorem vx_calll {S SX : Type} {post : Int64 → S → Prop} {px : SX → Prop} {B : S → State → Prop} {BX : String → SX → State → Prop} {AX : Nat → Prop} (hr : vx_Run p l e R s m args below meth c H locs cells slots mc ms (F0 m pc ls st0) rest (va_Ql post B A1 a) (vx_X px BX AX) free) (hS : va_S A0 H0 H locs) (hA : ∀ q, q < H.size → A1 q → A0 q) (hf : ∀ q, free q → A0 q) (hAX : ∀ q, q < H.size → AX q → A0 q)
    (kx : ∀ (E : String) (ce : Cell) (q9 : Addr) (u : SX) (t : State) (H1 : Heap) (locs1 : List Loc), t.heap = H1 → s.vm.Alike t.vm → px u → BX E u t → H.size ≤ H1.size → (∀ q : Nat, q < H.size → ¬ AX q → H1[q]? = H[q]?) → va_S A0 H0 H1 locs1 → H1[q9]? = some ce → ce.vm = .none → s.vm.findClass E = some ce.cls → vx_W p l e R s m args below meth c H1 locs1 (cells + mc) (slots + ms) Q (F0 m pc ls rest) q9)
    (kk : ∀ (r : Int64) (u : S) (t : State) (H1 : Heap) (locs1 : List Loc), t.heap = H1 → s.vm.Alike t.vm → post r u → B u t → H.size ≤ H1.size → (∀ q : Nat, q < H.size → ¬ A1 q → H1[q]? = H[q]?) → va_S A0 H0 H1 locs1 → W p l e R s m args below meth c H1 locs1 (cells + mc) (slots + ms) Q (F0 m (pc + 3) ls (.long r :: rest))) : W p l e R s m args below meth c H locs cells slots Q (F0 m pc ls st0) := by
  intro T hT X
  rcases hr T hT X with ⟨v, st₀, t, T', L, h0, X', hL, e1, e2, ⟨⟨r, u, hv, hp, hb⟩, hF⟩, st⟩ | ⟨q, st₀, t, T', L, E, ce, h0, X', hL, e1, e2, ⟨u, hp, hb, hF⟩, hce, hcv, hcl, st⟩
  · cases hv
    obtain ⟨k1, k2, k3⟩ := vx_keep h0 e1 hS hA hf hL hF
    obtain ⟨t2, a1, b1⟩ := kk r u t T'.heap (locs ++ L) e1.symm (by rw [← e2]; exact X'.warmed.alike) hp hb k1 k2 k3 T' rfl X'
    exact ⟨t2, st t2 a1, b1⟩
  · obtain ⟨k1, k2, k3⟩ := vx_keep h0 e1 hS hAX hf hL hF
    obtain ⟨t2, a1, b1⟩ := kx E ce q u t T'.heap (locs ++ L) e1.symm (by rw [← e2]; exact X'.warmed.alike) hp hb k1 k2 k3 (by rw [e1]; exact hce) hcv hcl T' rfl X'
    exact ⟨t2, st.trans a1, b1⟩
theorem vx_callf {S SX : Type} {post : UInt32 → S → Prop} {px : SX → Prop} {B : S → State → Prop} {BX : String → SX → State → Prop} {AX : Nat → Prop} (hr : vx_Run p l e R s m args below meth c H locs cells slots mc ms (F0 m pc ls st0) rest (va_Qf post B A1 a) (vx_X px BX AX) free) (hS : va_S A0 H0 H locs) (hA : ∀ q, q < H.size → A1 q → A0 q) (hf : ∀ q, free q → A0 q) (hAX : ∀ q, q < H.size → AX q → A0 q)
    (kx : ∀ (E : String) (ce : Cell) (q9 : Addr) (u : SX) (t : State) (H1 : Heap) (locs1 : List Loc), t.heap = H1 → s.vm.Alike t.vm → px u → BX E u t → H.size ≤ H1.size → (∀ q : Nat, q < H.size → ¬ AX q → H1[q]? = H[q]?) → va_S A0 H0 H1 locs1 → H1[q9]? = some ce → ce.vm = .none → s.vm.findClass E = some ce.cls → vx_W p l e R s m args below meth c H1 locs1 (cells + mc) (slots + ms) Q (F0 m pc ls rest) q9)
    (kk : ∀ (r : UInt32) (u : S) (t : State) (H1 : Heap) (locs1 : List Loc), t.heap = H1 → s.vm.Alike t.vm → post r u → B u t → H.size ≤ H1.size → (∀ q : Nat, q < H.size → ¬ A1 q → H1[q]? = H[q]?) → va_S A0 H0 H1 locs1 → W p l e R s m args below meth c H1 locs1 (cells + mc) (slots + ms) Q (F0 m (pc + 3) ls (.float r :: rest))) : W p l e R s m args below meth c H locs cells slots Q (F0 m pc ls st0) := by
  intro T hT X
  rcases hr T hT X with ⟨v, st₀, t, T', L, h0, X', hL, e1, e2, ⟨⟨r, u, hv, hp, hb⟩, hF⟩, st⟩ | ⟨q, st₀, t, T', L, E, ce, h0, X', hL, e1, e2, ⟨u, hp, hb, hF⟩, hce, hcv, hcl, st⟩
  · cases hv
    obtain ⟨k1, k2, k3⟩ := vx_keep h0 e1 hS hA hf hL hF
    obtain ⟨t2, a1, b1⟩ := kk r u t T'.heap (locs ++ L) e1.symm (by rw [← e2]; exact X'.warmed.alike) hp hb k1 k2 k3 T' rfl X'
    exact ⟨t2, st t2 a1, b1⟩
  · obtain ⟨k1, k2, k3⟩ := vx_keep h0 e1 hS hAX hf hL hF
    obtain ⟨t2, a1, b1⟩ := kx E ce q u t T'.heap (locs ++ L) e1.symm (by rw [← e2]; exact X'.warmed.alike) hp hb k1 k2 k3 (by rw [e1]; exact hce) hcv hcl T' rfl X'
    exact ⟨t2, st.trans a1, b1⟩
theorem vx_calld {S SX : Type} {post : UInt64 → S → Prop} {px : SX → Prop} {B : S → State → Prop} {BX : String → SX → State → Prop} {AX : Nat → Prop} (hr : vx_Run p l e R s m args below meth c H locs cells slots mc ms (F0 m pc ls st0) rest (va_Qd post B A1 a) (vx_X px BX AX) free) (hS : va_S A0 H0 H locs) (hA : ∀ q, q < H.size → A1 q → A0 q) (hf : ∀ q, free q → A0 q) (hAX : ∀ q, q < H.size → AX q → A0 q)
    (kx : ∀ (E : String) (ce : Cell) (q9 : Addr) (u : SX) (t : State) (H1 : Heap) (locs1 : List Loc), t.heap = H1 → s.vm.Alike t.vm → px u → BX E u t → H.size ≤ H1.size → (∀ q : Nat, q < H.size → ¬ AX q → H1[q]? = H[q]?) → va_S A0 H0 H1 locs1 → H1[q9]? = some ce → ce.vm = .none → s.vm.findClass E = some ce.cls → vx_W p l e R s m args below meth c H1 locs1 (cells + mc) (slots + ms) Q (F0 m pc ls rest) q9)
    (kk : ∀ (r : UInt64) (u : S) (t : State) (H1 : Heap) (locs1 : List Loc), t.heap = H1 → s.vm.Alike t.vm → post r u → B u t → H.size ≤ H1.size → (∀ q : Nat, q < H.size → ¬ A1 q → H1[q]? = H[q]?) → va_S A0 H0 H1 locs1 → W p l e R s m args below meth c H1 locs1 (cells + mc) (slots + ms) Q (F0 m (pc + 3) ls (.double r :: rest))) : W p l e R s m args below meth c H locs cells slots Q (F0 m pc ls st0) := by
  intro T hT X
  rcases hr T hT X with ⟨v, st₀, t, T', L, h0, X', hL, e1, e2, ⟨⟨r, u, hv, hp, hb⟩, hF⟩, st⟩ | ⟨q, st₀, t, T', L, E, ce, h0, X', hL, e1, e2, ⟨u, hp, hb, hF⟩, hce, hcv, hcl, st⟩
  · cases hv
    obtain ⟨k1, k2, k3⟩ := vx_keep h0 e1 hS hA hf hL hF
    obtain ⟨t2, a1, b1⟩ := kk r u t T'.heap (locs ++ L) e1.symm (by rw [← e2]; exact X'.warmed.alike) hp hb k1 k2 k3 T' rfl X'
    exact ⟨t2, st t2 a1, b1⟩
  · obtain ⟨k1, k2, k3⟩ := vx_keep h0 e1 hS hAX hf hL hF
    obtain ⟨t2, a1, b1⟩ := kx E ce q u t T'.heap (locs ++ L) e1.symm (by rw [← e2]; exact X'.warmed.alike) hp hb k1 k2 k3 (by rw [e1]; exact hce) hcv hcl T' rfl X'
    exact ⟨t2, st.trans a1, b1⟩
theorem vx_callv {S SX : Type} {post : S → Prop} {px : SX → Prop} {B : S → State → Prop} {BX : String → SX → State → Prop} {AX : Nat → Prop} (hr : vx_Run p l e R s m args below meth c H locs cells slots mc ms (F0 m pc ls st0) rest (va_Qv post B A1 a) (vx_X px BX AX) free) (hS : va_S A0 H0 H locs) (hA : ∀ q, q < H.size → A1 q → A0 q) (hf : ∀ q, free q → A0 q) (hAX : ∀ q, q < H.size → AX q → A0 q)
    (kx : ∀ (E : String) (ce : Cell) (q9 : Addr) (u : SX) (t : State) (H1 : Heap) (locs1 : List Loc), t.heap = H1 → s.vm.Alike t.vm → px u → BX E u t → H.size ≤ H1.size → (∀ q : Nat, q < H.size → ¬ AX q → H1[q]? = H[q]?) → va_S A0 H0 H1 locs1 → H1[q9]? = some ce → ce.vm = .none → s.vm.findClass E = some ce.cls → vx_W p l e R s m args below meth c H1 locs1 (cells + mc) (slots + ms) Q (F0 m pc ls rest) q9)
    (kk : ∀ (u : S) (t : State) (H1 : Heap) (locs1 : List Loc), t.heap = H1 → s.vm.Alike t.vm → post u → B u t → H.size ≤ H1.size → (∀ q : Nat, q < H.size → ¬ A1 q → H1[q]? = H[q]?) → va_S A0 H0 H1 locs1 → W p l e R s m args below meth c H1 locs1 (cells + mc) (slots + ms) Q (F0 m (pc + 3) ls (rest))) : W p l e R s m args below meth c H locs cells slots Q (F0 m pc ls st0) := by
  intro T hT X
  rcases hr T hT X with ⟨v, st₀, t, T', L, h0, X', hL, e1, e2, ⟨⟨u, hv, hp, hb⟩, hF⟩, st⟩ | ⟨q, st₀, t, T', L, E, ce, h0, X', hL, e1, e2, ⟨u, hp, hb, hF⟩, hce, hcv, hcl, st⟩
  · cases hv
    obtain ⟨k1, k2, k3⟩ := vx_keep h0 e1 hS hA hf hL hF
    obtain ⟨t2, a1, b1⟩ := kk u t T'.heap (locs ++ L) e1.symm (by rw [← e2]; exact X'.warmed.alike) hp hb k1 k2 k3 T' rfl X'
    exact ⟨t2, st t2 a1, b1⟩
  · obtain ⟨k1, k2, k3⟩ := vx_keep h0 e1 hS hAX hf hL hF
    obtain ⟨t2, a1, b1⟩ := kx E ce q u t T'.heap (locs ++ L) e1.symm (by rw [← e2]; exact X'.warmed.alike) hp hb k1 k2 k3 (by rw [e1]; exact hce) hcv hcl T' rfl X'
    exact ⟨t2, st.trans a1, b1⟩
/-- caught by the row x of this method's table; the rows ahead don't take it -/
theorem vx_catch {own name : String} {E : String} {ce : Cell} {q : Addr} (hown : s.vm.findClass own = some m.cls) (pre : List ExceptionTableEntry) (x : ExceptionTableEntry) (suf : List ExceptionTableEntry) (hsplit : c.exceptionTable.toList = pre ++ x :: suf)
    (hpass : ∀ z ∈ pre, covers z pc = false ∨ (z.catchType ≠ 0 ∧ ∃ nm : String, (Cond.classLink own z.catchType nm).before args s = true ∧ va_Nc E nm s)) (hx : covers x pc = true) (h0 : x.catchType ≠ 0)
    (hlink : (Cond.classLink own x.catchType name).before args s = true) (hcast : (Cond.castable E name).before args s = true) (hcell : H[q]? = some ce) (hv : ce.vm = .none) (hcl : s.vm.findClass E = some ce.cls)
    (kk : W p l e R s m args below meth c H locs cells slots Q (F0 m x.handlerPc ls [.ref q])) : vx_W p l e R s m args below meth c H locs cells slots Q (F0 m pc ls rest) q := by
  intro T hT X
  have hpl : e.platform.magicAccessors = ({} : Platform).magicAccessors := by rw [X.admits.platform]
  obtain ⟨c3, c4, hc3, hc4, hasg⟩ := Cond.castable_spec hcast
  cases Option.some.inj (hc3.symm.trans hcl)
  obtain ⟨c5, hc5, hcl5⟩ := Cond.classLink_spec hown hlink e.platform hpl
  cases Option.some.inj (hc4.symm.trans hc5)
  obtain ⟨vm', X', st⟩ := X.thenCaughtThrough q (g := F0 m pc ls rest) rfl (Steps.refl _) (by rw [hT]; exact hcell) (by rw [hv]; rfl) (by obtain ⟨k9, h9, -⟩ := Vm.findClass_spec hcl; exact ⟨k9, h9⟩) pre x suf hsplit
    (fun z hz => by
      rcases hpass z hz with h | ⟨hz0, nm, hl1, hn1⟩
      · exact Or.inl h
      · obtain ⟨c6, hc6, hcl6⟩ := Cond.classLink_spec hown hl1 e.platform hpl
        obtain ⟨a8, b8, h1, h2, h3⟩ := hn1
        cases Option.some.inj (h1.symm.trans hcl)
        cases Option.some.inj (h2.symm.trans hc6)
        exact Or.inr ⟨hz0, _, hcl6, h3⟩) hx (Or.inr ⟨h0, c4, hcl5, hasg⟩)
  obtain ⟨t, a1, b1⟩ := kk (T.setVm vm') hT X'
  exact ⟨t, st.trans a1, b1⟩
end Rows
section Ends
variable {p : Program} {l : Launch} {e : Env} {R : Room} {s : State} {m : MethodId} {args : Array Value} {below : List Frame} {meth : Method} {c : Code} {H : Heap} {locs : List Loc} {cells slots : Nat} {Q : State → Prop}
variable {mc ms : Nat} {free : Addr → Prop} {A0 A1 : Nat → Prop} {H0 : Heap} {a : Array Value} {ls : Array Slot} {st0 rest : List Value}
variable {Qc : Array Value → State → Outcome → State → Prop} {XC : String → State → State → Prop}
/-- what a body that may throw owes at its end -/
def vx_MQ (below : List Frame) (Qc : Array Value → State → Outcome → State → Prop) (XC : String → State → State → Prop) (a : Array Value) (s : State) (mc ms : Nat) (free : Addr → Prop) : State → Prop := fun t =>
  ∃ o, t.status = .running ∧ Ended t below o ∧ vx_Q Qc XC mc ms free a s o t
theorem vx_ret {g : JFrame} {mc ms : Nat} (k : W p l e R s m args below meth c H locs cells slots (MQ below Qc args s mc ms free) g) : W p l e R s m args below meth c H locs cells slots (vx_MQ below Qc XC args s mc ms free) g := by
  intro T hT X
  obtain ⟨t, a1, o, b1, b2, b3, b4⟩ := k T hT X
  exact ⟨t, a1, o, b1, b2, Or.inl ⟨b3, b4⟩⟩
/-- not caught here: it goes on to the caller -/
theorem vx_widen {g : JFrame} {q : Addr} {k n : Nat} (h1 : cells ≤ k) (h2 : slots ≤ n) (kk : vx_W p l e R s m args below meth c H locs k n Q g q) : vx_W p l e R s m args below meth c H locs cells slots Q g q := fun T hT X => kk T hT (stand_widen X h1 h2)
theorem vx_out {pc : Nat} {E : String} {ce : Cell} {q : Addr} {mc ms : Nat} (hout : ∀ x ∈ c.exceptionTable.toList, covers x pc = false) (hlocks : meth.locks = false) (hcell : H[q]? = some ce) (hv : ce.vm = .none) (hcl : s.vm.findClass E = some ce.cls)
    (hx : ∀ t : State, t.heap = H → s.vm.Alike t.vm → XC E s t) (hf : ∀ z ∈ locs, free z.base) (hc : cells ≤ mc) (hs : slots ≤ ms) :
    vx_W p l e R s m args below meth c H locs cells slots (vx_MQ below Qc XC args s mc ms free) (F0 m pc ls rest) q := by
  intro T hT X
  obtain ⟨st1, hrun, hend, hW, hsm⟩ := X.leaveThrown q (g := F0 m pc ls rest) rfl rfl rfl hout hlocks
  have hcell9 : (T.setFrames (.throwing q :: below)).heap[q]? = some ce := by
    show T.heap[q]? = some ce
    rw [hT]; exact hcell
  exact ⟨_, st1, .threw q, hrun, hend, Or.inr ⟨q, rfl, E, ce, locs, hx _ hT hW.alike, hcell9, hv, hcl, hW, hsm.mono hc hs, hf⟩⟩
theorem vx_frame {U : State} {k n : Nat} (h : s.sameButNew ({ U with vm := s.vm } : State) locs k n) : s.heap.size ≤ U.heap.size ∧ ∀ q : Nat, q < s.heap.size → (∀ z ∈ locs, z.base ≠ q) → U.heap[q]? = s.heap[q]? := by
  obtain ⟨-, h2, -, -, -, h6⟩ := h
  refine ⟨h2, fun q hq hz => ?_⟩
  obtain ⟨c9, e1, e2, e3, e4⟩ := h6 q _ (Array.getElem?_eq_getElem hq)
  have hs : c9.slots = (s.heap[q]).slots := Array.ext_getElem? fun i => e4 i fun hm => hz _ hm rfl
  have h9 : c9 = s.heap[q] := by
    rw [hs] at e2
    exact e2
  have e5 : U.heap[q]? = some c9 := e1
  rw [e5, h9, Array.getElem?_eq_getElem hq]
/-- the words of a throw but the four that speak of the heap -/
def vx_no (w : Cond) : Bool := decide (w ≠ .isRef (.static Bundle.tN "UNASSIGNED_STACK" Bundle.steD)) && decide (w ≠ .isRef (.static Bundle.tN "SUPPRESSED_SENTINEL" Bundle.listD)) && decide (w ≠ .laysStatic Bundle.tN "UNASSIGNED_STACK" Bundle.steD) && decide (w ≠ .laysStatic Bundle.tN "SUPPRESSED_SENTINEL" Bundle.listD)
def vx_at0 (own : String) (ic : Nat) (X : String) (names : List String) : List Cond := (Bundle.ownAtoms0 own ic X names).filter vx_no
def vx_atS (own : String) (ic : Nat) (X : String) (names : List String) : List Cond := (Bundle.ownAtoms own ic X names).filter vx_no
/-- a word that the tables alone decide, or a good one -/
def vx_ot (w : Cond) : Bool := w.onTables || goodWord w
theorem vx_ot_at {args a' : Array Value} {s U : State} {w : Cond} (hW : s.WarmedH U.vm) (hvm : s.vm = U.vm) (hg : vx_ot w = true) (h : w.before args s = true) : w.before a' U = true := by
  simp only [vx_ot, Bool.or_eq_true] at hg
  rcases hg with hg | hg
  · exact va_tabs hg hvm h
  · exact word_at hW (good_of_word hg) h
/-- a list's words: the good ones out of the method's own list, the others by premises of their own -/
theorem vx_hat {args : Array Value} {s : State} {L B : List Cond} (h1 : ∀ w ∈ L.filter goodWord, w.before args s = true) (h2 : ∀ w ∈ L.filter (fun w => !goodWord w), w ∈ B) (h3 : ∀ w ∈ B, w.before args s = true) : ∀ w ∈ L, w.before args s = true := by
  intro w hw
  by_cases g : goodWord w = true
  · exact h1 w (List.mem_filter.mpr ⟨hw, g⟩)
  · refine h3 w (h2 w (List.mem_filter.mpr ⟨hw, ?_⟩))
    show (!goodWord w) = true
    cases hgw : goodWord w
    · rfl
    · exact absurd hgw g
theorem vx_c {args : Array Value} {s : State} {w : Cond} {B : List Cond} (h : w.before args s = true) (t : ∀ w ∈ B, w.before args s = true) : ∀ w' ∈ w :: B, w'.before args s = true := fun w' h' => (List.mem_cons.mp h').elim (fun e => by rw [e]; exact h) (t w')
theorem vx_n {args : Array Value} {s : State} : ∀ w ∈ ([] : List Cond), w.before args s = true := fun _ h => nomatch h
theorem vx_own {args : Array Value} {s : State} {L : List Cond} (h1 : ∀ w ∈ L.filter vx_no, w.before args s = true)
    (hU : (Cond.isRef (.static Bundle.tN "UNASSIGNED_STACK" Bundle.steD)).before args s = true) (hN : (Cond.isRef (.static Bundle.tN "SUPPRESSED_SENTINEL" Bundle.listD)).before args s = true)
    (lU : (Cond.laysStatic Bundle.tN "UNASSIGNED_STACK" Bundle.steD).before args s = true) (lN : (Cond.laysStatic Bundle.tN "SUPPRESSED_SENTINEL" Bundle.listD).before args s = true) : ∀ w ∈ L, w.before args s = true := by
  intro w hw
  by_cases e1 : w = .isRef (.static Bundle.tN "UNASSIGNED_STACK" Bundle.steD)
  · rw [e1]; exact hU
  · by_cases e2 : w = .isRef (.static Bundle.tN "SUPPRESSED_SENTINEL" Bundle.listD)
    · rw [e2]; exact hN
    · by_cases e3 : w = .laysStatic Bundle.tN "UNASSIGNED_STACK" Bundle.steD
      · rw [e3]; exact lU
      · by_cases e4 : w = .laysStatic Bundle.tN "SUPPRESSED_SENTINEL" Bundle.listD
        · rw [e4]; exact lN
        · exact h1 w (List.mem_filter.mpr ⟨hw, by unfold vx_no; rw [decide_eq_true e1, decide_eq_true e2, decide_eq_true e3, decide_eq_true e4]; rfl⟩)
/-- where a static field lies, its class's statics cell in H -/
def vx_L (C n d : String) (A : Nat → Prop) (U : State) (H : Heap) : Prop := ∃ (c : ClassId) (k : Class) (i : Nat) (f : Field) (a : Nat) (cell : Cell), U.vm.findClass C = some c ∧ U.fieldFound? C n d = some (c, k, i, f) ∧ f.isStatic = true ∧ k.statics = some a ∧ H[a]? = some cell ∧ cell.vm.isStatics = true ∧ cell.cls = c ∧ f.slot < cell.slots.size ∧ k.staticTypes[f.slot]? = some f.type ∧ ¬ A a
theorem vx_L.moved {C n d : String} {A : Nat → Prop} {u U : State} {H : Heap} (hvm : u.vm.Alike U.vm) (h : vx_L C n d A u H) : vx_L C n d A U H := by
  obtain ⟨c, k, i, f, a, cell, h1, h2, h3, h4, h5, h6, h7, h8, h9, h10⟩ := h
  obtain ⟨k', hi', he⟩ := State.fieldFound?_setVm hvm h2
  exact ⟨c, k', i, f, a, cell, by rw [hvm.findClass]; exact h1, hi', h3, by rw [he]; exact h4, h5, h6, h7, h8, by rw [he]; exact h9, h10⟩
theorem vx_L.kept {C n d : String} {A : Nat → Prop} {U : State} {H H1 : Heap} (h : vx_L C n d A U H) (hq : ∀ a : Nat, a < H.size → ¬ A a → H1[a]? = H[a]?) : vx_L C n d A U H1 := by
  obtain ⟨c, k, i, f, a, cell, h1, h2, h3, h4, h5, h6, h7, h8, h9, h10⟩ := h
  exact ⟨c, k, i, f, a, cell, h1, h2, h3, h4, by rw [hq a (Array.getElem?_eq_some_iff.mp h5).1 h10]; exact h5, h6, h7, h8, h9, h10⟩
theorem vx_L.narrow {C n d : String} {A B : Nat → Prop} {U : State} {H : Heap} (h : vx_L C n d A U H) (hAB : ∀ q, B q → A q) : vx_L C n d B U H := by
  obtain ⟨c, k, i, f, a, cell, h1, h2, h3, h4, h5, h6, h7, h8, h9, h10⟩ := h
  exact ⟨c, k, i, f, a, cell, h1, h2, h3, h4, h5, h6, h7, h8, h9, fun z => h10 (hAB _ z)⟩
theorem vx_L.word {C n d : String} {A : Nat → Prop} {s : State} {args : Array Value} (h : vx_L C n d A s s.heap) : (Cond.laysStatic C n d).before args s = true := by
  obtain ⟨c, k, i, f, a, cell, h1, h2, h3, h4, h5, h6, h7, h8, h9, -⟩ := h
  show (Cond.laysStatic C n d).holds args s none s [] = true
  exact Cond.laysStatic_of h1 h2 h3 h4 h5 h6 h7 h8 h9
/-- .. and what it holds: null or some reference -/
def vx_Zq (C n d : String) (A : Nat → Prop) (U : State) (H : Heap) : Prop := va_Zq C n d A U H ∧ vx_L C n d A U H
theorem vx_Zq.moved {C n d : String} {A : Nat → Prop} {u U : State} {H : Heap} (hvm : u.vm.Alike U.vm) (h : vx_Zq C n d A u H) : vx_Zq C n d A U H := ⟨va_Zq.moved hvm h.1, vx_L.moved hvm h.2⟩
theorem vx_Zq.kept {C n d : String} {A : Nat → Prop} {U : State} {H H1 : Heap} (h : vx_Zq C n d A U H) (hq : ∀ a : Nat, a < H.size → ¬ A a → H1[a]? = H[a]?) : vx_Zq C n d A U H1 := ⟨va_Zq.kept h.1 hq, vx_L.kept h.2 hq⟩
theorem vx_Zq.narrow {C n d : String} {A B : Nat → Prop} {U : State} {H : Heap} (h : vx_Zq C n d A U H) (hAB : ∀ q, B q → A q) : vx_Zq C n d B U H := ⟨va_Zq.narrow h.1 hAB, vx_L.narrow h.2 hAB⟩
theorem vx_Zqof {args : Array Value} {s : State} {C n d : String} {A : Nat → Prop} (hl : (Cond.laysStatic C n d).before args s = true) (hini : (Cond.initialized C).before args s = true) (h : (Cond.isRef (.static C n d)).before args s = true) (hA : ∀ a : Nat, a < s.heap.size → ¬ A a) : vx_Zq C n d A s s.heap := by
  refine ⟨va_Zqof hl hini h hA, ?_⟩
  obtain ⟨c, k, i, f, a, cell, h1, h2, h3, h4, h5, h6, h7, h8, h9⟩ := Cond.laysStatic_spec hl
  exact ⟨c, k, i, f, a, cell, h1, h2, h3, h4, h5, h6, h7, h8, h9, hA a (Array.getElem?_eq_some_iff.mp h5).1⟩
theorem vx_isRef {C n d : String} {v : Value} {A : Nat → Prop} {s : State} {args : Array Value} (h : va_Z C n d v A s s.heap) (hv : v.isRef = true) : (Cond.isRef (.static C n d)).before args s = true := by
  obtain ⟨cf, kf, fi, f, a, cell, h1, h2, h3, h4, h5, h6, h7, -⟩ := h
  have he : (Term.static C n d).eval args s none [] s = some v := by
    simp [Term.eval, State.fieldNamed?, h1, h2, h4, h5, h6, h7]
  simp only [Cond.before, Cond.holds, Cond.value, he]
  cases v <;> simp_all [Value.isRef]
theorem vx_isRefq {C n d : String} {A : Nat → Prop} {s : State} {args : Array Value} (h : va_Zq C n d A s s.heap) : (Cond.isRef (.static C n d)).before args s = true := by
  rcases h with h | ⟨t, h⟩
  · exact vx_isRef h rfl
  · exact vx_isRef h rfl
/-- the same frame, seen from here: as if the method were called anew in this heap -/
theorem vx_rebase {T : State} (X : Stand p l e R s m args below meth c T locs cells slots) {R' : Room} (hf : R'.frames ≤ R.frames) (hl : R'.locals ≤ R.locals) (hc : cells + R'.cells ≤ R.cells) (hs : slots + R'.slots ≤ R.slots) :
    Stand p l e R' ((T.setVm s.vm).setFrames (.invoking m args :: below)) m args below meth c T [] 0 0 := by
  have htop : (T.setVm s.vm).topJava?.isSome := X.here.top
  have hF : ((T.setVm s.vm).setFrames (.invoking m args :: below)).frames = .invoking m args :: below := State.frames_setFrames _ (State.cur_lt_of_top htop)
  obtain ⟨g₀, hg0⟩ := Option.isSome_iff_exists.mp htop
  obtain ⟨r, hr⟩ := State.topJava?_eq_some.mp hg0
  have hl9 : e.platform.stackLimits (T.setVm s.vm).me = e.platform.stackLimits s.me := X.limits
  have hb9 : (T.setVm s.vm).me.stackBytes = s.me.stackBytes := X.bytes
  refine ⟨X.admits, X.cas, X.clock, hF, ?_, X.hears, X.method, X.code, X.here, X.tail, X.warmed, ?_, ?_, ?_⟩
  · have h := X.room
    have hU : ((T.setVm s.vm).setFrames (.invoking m args :: below)).localsInUse = s.localsInUse := by
      rw [State.localsInUse_invoking hF (meth := meth) (c := c) X.method X.code, State.localsInUse_invoking X.frames X.method X.code]
    simp only [State.hasRoom, Bool.and_eq_true, decide_eq_true_eq] at h ⊢
    obtain ⟨⟨⟨⟨h1, h2, h3, h4, h5, h6⟩, h7⟩, h8⟩, h9⟩ := h
    rw [X.frames, List.length_cons] at h2 h3
    have q1 := X.heapSize
    have q2 := X.used
    simp only [hF, hU, List.length_cons, State.stackLimits_setFrames, State.stackBytes_setFrames, hl9, hb9]
    refine ⟨⟨⟨⟨by omega, by omega, by omega, by omega, by omega, h6⟩, ?_⟩, ?_⟩, X.book⟩
    · show T.heap.size + R'.cells ≤ e.platform.maxCells
      omega
    · show T.slotsUsed + R'.slots ≤ e.platform.maxSlots
      omega
  · rw [State.stackLimits_setFrames]; rfl
  · rw [State.stackBytes_setFrames]; rfl
  · refine ⟨?_, Nat.le_refl _, Nat.le_refl _, ?_, ?_, fun a c9 h9 => ⟨c9, h9, rfl, rfl, fun _ _ => rfl⟩⟩
    · obtain ⟨t, ht, -⟩ := State.frames_cons hr
      show T.setVm s.vm = { ((T.setVm s.vm).setFrames (.invoking m args :: below)).setFrames (T.setVm s.vm).frames with heap := T.heap, slotsUsed := T.slotsUsed }
      rw [State.setFrames_setFrames, State.setFrames_self ht]
      rfl
    · show T.slotsUsed = T.slotsUsed + ((T.heap.toList.drop T.heap.size).map (·.slots.size)).sum
      rw [List.drop_eq_nil_of_le (Nat.le_of_eq Array.length_toList)]
      rfl
    · show ((T.heap.toList.drop T.heap.size).map (·.slots.size)).sum ≤ 0
      rw [List.drop_eq_nil_of_le (Nat.le_of_eq Array.length_toList)]
      exact Nat.le_refl _
/-- 'throw new E()': new; dup; invokespecial; athrow -/
theorem vx_throw0 {cc : ByteArray} {pc : Nat} (hexec : p.tables.exec = Jvm.exec) (hb : c.code = cc) (hl : l.stackTraces = false) {own cls : String} {names : List String} {ik ic mc ms : Nat} {A : Nat → Prop}
    (hown : s.vm.findClass own = some m.cls) (hcls : Bundle.fit cls = true) (hnames : ∀ n ∈ names, Bundle.fit n = true)
    (hk : (Cond.classLink own ik cls).before args s = true) (hini : (Cond.initialized cls).before args s = true) (hat : ∀ w ∈ vx_at0 own ic cls names, w.before args s = true)
    (hgood : ∀ w ∈ Cond.classLink own ik cls :: Cond.initialized cls :: vx_at0 own ic cls names, vx_ot w = true)
    (hU : vx_Zq Bundle.tN "UNASSIGNED_STACK" Bundle.steD A s s.heap) (hN : vx_Zq Bundle.tN "SUPPRESSED_SENTINEL" Bundle.listD A s s.heap) (hS : va_S A s.heap H locs) (hsize : ls.size = c.maxLocals)
    (d0 : decode cc pc = .ok (.new ik, 3)) (d3 : decode cc (pc + 3) = .ok (.dup, 1)) (d4 : decode cc (pc + 4) = .ok (.invokespecial ic, 3)) (d7 : decode cc (pc + 7) = .ok (.athrow, 1))
    (hout : ∀ x ∈ c.exceptionTable.toList, covers x (pc + 7) = false)
    (hRframes : names.length + 3 < R.frames) (hRlocals : (rest.map fun v => v.category).sum + (13 * (names.length + 1) + 42) ≤ R.locals) (hRcells : cells + 1 ≤ R.cells) (hRslots : slots + 6 ≤ R.slots) (hlocks : meth.locks = false)
    (hx : ∀ t : State, s.vm.Alike t.vm → H.size ≤ t.heap.size → (∀ q : Nat, q < H.size → t.heap[q]? = H[q]?) → XC cls s t)
    (hf : ∀ z ∈ locs, free z.base) (hc : cells + 1 ≤ mc) (hs : slots + 6 ≤ ms) :
    W p l e R s m args below meth c H locs cells slots (vx_MQ below Qc XC args s mc ms free) (F0 m pc ls rest) := by
  intro T hT X
  have htr : e.platform.stackTraces = false := (show e.platform.stackTraces = l.stackTraces by rw [X.admits.platform]).trans hl
  have Y := vx_rebase X (R' := { frames := R.frames, locals := R.locals, cells := 1, slots := 6 }) (Nat.le_refl _) (Nat.le_refl _) hRcells hRslots
  obtain ⟨s', hA⟩ : ∃ z, z = (T.setVm s.vm).setFrames (.invoking m args :: below) := ⟨_, rfl⟩
  rw [← hA] at Y
  have hvm : s'.vm = s.vm := by rw [hA]; rfl
  have hhp : s'.heap = H := by rw [hA]; exact hT
  have hW0 : s.WarmedH s'.vm := by rw [hvm]; exact State.WarmedH.refl s
  have hat' : ∀ w ∈ vx_at0 own ic cls names, w.before args s' = true := fun w hw => vx_ot_at hW0 hvm.symm (hgood w (List.mem_cons_of_mem _ (List.mem_cons_of_mem _ hw))) (hat w hw)
  have hk' : (Cond.classLink own ik cls).before args s' = true := vx_ot_at hW0 hvm.symm (hgood _ List.mem_cons_self) hk
  have hini' : (Cond.initialized cls).before args s' = true := vx_ot_at hW0 hvm.symm (hgood _ (List.mem_cons_of_mem _ List.mem_cons_self)) hini
  have hU' : vx_Zq Bundle.tN "UNASSIGNED_STACK" Bundle.steD A s' s'.heap := by rw [hhp]; exact vx_Zq.moved hW0.alike (hU.kept hS.2.1)
  have hN' : vx_Zq Bundle.tN "SUPPRESSED_SENTINEL" Bundle.listD A s' s'.heap := by rw [hhp]; exact vx_Zq.moved hW0.alike (hN.kept hS.2.1)
  have h : ∀ w ∈ Bundle.ownAtoms0 own ic cls names, w.before args s' = true := vx_own hat' (vx_isRefq hU'.1) (vx_isRefq hN'.1) hU'.2.word hN'.2.word
  have hown' : s'.vm.findClass own = some m.cls := by rw [hvm]; exact hown
  have hins : (Cond.instantiable cls 6).before args s' = true := h _ (by simp [Bundle.ownAtoms0])
  obtain ⟨vm₁, cX, kX, hfX, hkX, -, -, X₁, st1⟩ := Y.newCold hexec (own := own) (C := cls) (index := ik) (n := 6) hown' hk' hins hini'
    (g := F0 m pc ls rest) rfl (by rw [hb]; exact d0) (Nat.le_refl _) (Nat.le_refl _)
  generalize hT1 : (T.setVm vm₁).pushCell { cls := cX, slots := kX.instanceTypes.map defaultValue, vm := .none } = T1 at X₁ st1
  have hcat : (Value.ref T.heap.size).category = 1 := rfl
  have hcellA : T1.heap[T.heap.size]? = some (freshCell cX kX) := by rw [← hT1]; exact State.heap_pushCell_size _ _
  have d3' : decode c.code (pc + 3) = .ok (.dup, 1) := by rw [hb]; exact d3
  obtain ⟨U, hsteps, hrun, hend, hW, hsame, ce, hce, hO⟩ := X₁.ctorThrow0 hexec htr (own := own) (cls := cls) (names := names) (ic := ic) hown' hcls hnames h (fun x hx => nomatch hx) hfX hkX hcellA (by rw [hhp, hT]; exact Nat.le_refl _)
    (g := { method := m, pc := pc + 4, locals := ls, stack := .ref T.heap.size :: .ref T.heap.size :: rest, locked := none }) rfl hsize rfl rfl (rest := rest) rfl
    (by rw [hb]; exact d4) (by rw [hb]; exact d7) hout hRframes (by simp only [List.map_cons, List.sum_cons, hcat]; omega) hlocks
  obtain ⟨f1, f2⟩ := vx_frame hsame
  rw [hhp] at f1 f2
  have hWs : s.WarmedH U.vm := State.WarmedH.trans hW0 hW
  have hcl : s.vm.findClass cls = some ce.cls := by
    have h9 := hO.cls
    rw [hvm] at h9
    exact h9
  have hall : s.sameButNew ({ U with vm := s.vm } : State) locs mc ms := by
    subst hA
    obtain ⟨e1, e2⟩ := hsame
    rw [State.setFrames_setFrames] at e1
    have h2 : (T.setVm s.vm).sameButNew ({ U with vm := s.vm } : State) [] (0 + 1) (0 + 6) := ⟨e1, e2⟩
    have h3 := X.same.trans h2
    rw [List.append_nil] at h3
    exact h3.mono hc hs
  refine ⟨U, ?_, .threw T.heap.size, hrun, hend, Or.inr ⟨T.heap.size, rfl, cls, ce, locs, hx U hWs.alike f1 (fun q hq => f2 q hq (fun z hz => nomatch hz)), hce, hO.vm, hcl, hWs, hall, hf⟩⟩
  refine st1 _ ?_
  show Steps p.tables e below (T1.setTop { method := m, pc := pc + 3, locals := ls, stack := .ref T.heap.size :: rest, locked := none }) _
  jvm_step X₁.here [X₁.here.top, hexec, d3', Value.category]
  exact hsteps
/-- 'throw new E("text")': new; dup; ldc; invokespecial; athrow -/
theorem vx_throwS {cc : ByteArray} {pc : Nat} (hexec : p.tables.exec = Jvm.exec) (hb : c.code = cc) (hl : l.stackTraces = false) {own cls text : String} {names : List String} {ik is ic mc ms sa : Nat} {A : Nat → Prop}
    (hown : s.vm.findClass own = some m.cls) (hcls : Bundle.fit cls = true) (hnames : ∀ n ∈ names, Bundle.fit n = true)
    (hk : (Cond.classLink own ik cls).before args s = true) (hini : (Cond.initialized cls).before args s = true) (hstr : vk_R own is text sa s) (hat : ∀ w ∈ vx_atS own ic cls names, w.before args s = true)
    (hgood : ∀ w ∈ Cond.classLink own ik cls :: Cond.initialized cls :: vx_atS own ic cls names, vx_ot w = true)
    (hU : vx_Zq Bundle.tN "UNASSIGNED_STACK" Bundle.steD A s s.heap) (hN : vx_Zq Bundle.tN "SUPPRESSED_SENTINEL" Bundle.listD A s s.heap) (hS : va_S A s.heap H locs) (hsize : ls.size = c.maxLocals)
    (d0 : decode cc pc = .ok (.new ik, 3)) (d3 : decode cc (pc + 3) = .ok (.dup, 1)) (d4 : decode cc (pc + 4) = .ok (.ldc is, 2)) (d6 : decode cc (pc + 6) = .ok (.invokespecial ic, 3)) (d9 : decode cc (pc + 9) = .ok (.athrow, 1))
    (hout : ∀ x ∈ c.exceptionTable.toList, covers x (pc + 9) = false)
    (hRframes : names.length + 3 < R.frames) (hRlocals : (rest.map fun v => v.category).sum + (13 * (names.length + 1) + 43) ≤ R.locals) (hRcells : cells + 1 ≤ R.cells) (hRslots : slots + 6 ≤ R.slots) (hlocks : meth.locks = false)
    (hx : ∀ t : State, s.vm.Alike t.vm → H.size ≤ t.heap.size → (∀ q : Nat, q < H.size → t.heap[q]? = H[q]?) → XC cls s t)
    (hf : ∀ z ∈ locs, free z.base) (hc : cells + 1 ≤ mc) (hs : slots + 6 ≤ ms) :
    W p l e R s m args below meth c H locs cells slots (vx_MQ below Qc XC args s mc ms free) (F0 m pc ls rest) := by
  intro T hT X
  have htr : e.platform.stackTraces = false := (show e.platform.stackTraces = l.stackTraces by rw [X.admits.platform]).trans hl
  have Y := vx_rebase X (R' := { frames := R.frames, locals := R.locals, cells := 1, slots := 6 }) (Nat.le_refl _) (Nat.le_refl _) hRcells hRslots
  obtain ⟨s', hA⟩ : ∃ z, z = (T.setVm s.vm).setFrames (.invoking m args :: below) := ⟨_, rfl⟩
  rw [← hA] at Y
  have hvm : s'.vm = s.vm := by rw [hA]; rfl
  have hhp : s'.heap = H := by rw [hA]; exact hT
  have hW0 : s.WarmedH s'.vm := by rw [hvm]; exact State.WarmedH.refl s
  have hat' : ∀ w ∈ vx_atS own ic cls names, w.before args s' = true := fun w hw => vx_ot_at hW0 hvm.symm (hgood w (List.mem_cons_of_mem _ (List.mem_cons_of_mem _ hw))) (hat w hw)
  have hk' : (Cond.classLink own ik cls).before args s' = true := vx_ot_at hW0 hvm.symm (hgood _ List.mem_cons_self) hk
  have hini' : (Cond.initialized cls).before args s' = true := vx_ot_at hW0 hvm.symm (hgood _ (List.mem_cons_of_mem _ List.mem_cons_self)) hini
  have hU' : vx_Zq Bundle.tN "UNASSIGNED_STACK" Bundle.steD A s' s'.heap := by rw [hhp]; exact vx_Zq.moved hW0.alike (hU.kept hS.2.1)
  have hN' : vx_Zq Bundle.tN "SUPPRESSED_SENTINEL" Bundle.listD A s' s'.heap := by rw [hhp]; exact vx_Zq.moved hW0.alike (hN.kept hS.2.1)
  have h : ∀ w ∈ Bundle.ownAtoms own ic cls names, w.before args s' = true := vx_own hat' (vx_isRefq hU'.1) (vx_isRefq hN'.1) hU'.2.word hN'.2.word
  have hown' : s'.vm.findClass own = some m.cls := by rw [hvm]; exact hown
  have hins : (Cond.instantiable cls 6).before args s' = true := h _ (by simp [Bundle.ownAtoms])
  obtain ⟨vm₁, cX, kX, hfX, hkX, -, -, X₁, st1⟩ := Y.newCold hexec (own := own) (C := cls) (index := ik) (n := 6) hown' hk' hins hini'
    (g := F0 m pc ls rest) rfl (by rw [hb]; exact d0) (Nat.le_refl _) (Nat.le_refl _)
  generalize hT1 : (T.setVm vm₁).pushCell { cls := cX, slots := kX.instanceTypes.map defaultValue, vm := .none } = T1 at X₁ st1
  have hcat : (Value.ref T.heap.size).category = 1 := rfl
  have hcellA : T1.heap[T.heap.size]? = some (freshCell cX kX) := by rw [← hT1]; exact State.heap_pushCell_size _ _
  have d3' : decode c.code (pc + 3) = .ok (.dup, 1) := by rw [hb]; exact d3
  have d4' : decode c.code (pc + 4) = .ok (.ldc is, 2) := by rw [hb]; exact d4
  have hstr' : vk_R own is text sa s' := vk_R.warm hW0 hstr
  obtain ⟨U, hsteps, hrun, hend, hW, hsame, ce, hce, hO⟩ := X₁.ctorThrowS hexec htr (own := own) (cls := cls) (names := names) (ic := ic) hown' hcls hnames h (fun x hx => nomatch hx) hfX hkX hcellA (by rw [hhp, hT]; exact Nat.le_refl _) (msg := .ref sa) rfl
    (g := { method := m, pc := pc + 6, locals := ls, stack := .ref sa :: .ref T.heap.size :: .ref T.heap.size :: rest, locked := none }) rfl hsize rfl rfl (rest := rest) rfl
    (by rw [hb]; exact d6) (by rw [hb]; exact d9) hout hRframes (by simp only [List.map_cons, List.sum_cons, hcat]; omega) hlocks
  obtain ⟨f1, f2⟩ := vx_frame hsame
  rw [hhp] at f1 f2
  have hWs : s.WarmedH U.vm := State.WarmedH.trans hW0 hW
  have hcl : s.vm.findClass cls = some ce.cls := by
    have h9 := hO.cls
    rw [hvm] at h9
    exact h9
  have hall : s.sameButNew ({ U with vm := s.vm } : State) locs mc ms := by
    subst hA
    obtain ⟨e1, e2⟩ := hsame
    rw [State.setFrames_setFrames] at e1
    have h2 : (T.setVm s.vm).sameButNew ({ U with vm := s.vm } : State) [] (0 + 1) (0 + 6) := ⟨e1, e2⟩
    have h3 := X.same.trans h2
    rw [List.append_nil] at h3
    exact h3.mono hc hs
  refine ⟨U, ?_, .threw T.heap.size, hrun, hend, Or.inr ⟨T.heap.size, rfl, cls, ce, locs, hx U hWs.alike f1 (fun q hq => f2 q hq (fun z hz => nomatch hz)), hce, hO.vm, hcl, hWs, hall, hf⟩⟩
  refine st1 _ ?_
  show Steps p.tables e below (T1.setTop { method := m, pc := pc + 3, locals := ls, stack := .ref T.heap.size :: rest, locked := none }) _
  jvm_step X₁.here [X₁.here.top, hexec, d3', Value.category]
  exact X₁.ldcString hexec (own := own) (text := text) (index := is) (a := sa) hown' hstr'.1 hstr'.2
    (g := { method := m, pc := pc + 4, locals := ls, stack := .ref T.heap.size :: .ref T.heap.size :: rest, locked := none }) rfl d4' _ hsteps
/-- 'throw new E("text")', the text by a wide index -/
theorem vx_throwSW {cc : ByteArray} {pc : Nat} (hexec : p.tables.exec = Jvm.exec) (hb : c.code = cc) (hl : l.stackTraces = false) {own cls text : String} {names : List String} {ik is ic mc ms sa : Nat} {A : Nat → Prop}
    (hown : s.vm.findClass own = some m.cls) (hcls : Bundle.fit cls = true) (hnames : ∀ n ∈ names, Bundle.fit n = true)
    (hk : (Cond.classLink own ik cls).before args s = true) (hini : (Cond.initialized cls).before args s = true) (hstr : vk_R own is text sa s) (hat : ∀ w ∈ vx_atS own ic cls names, w.before args s = true)
    (hgood : ∀ w ∈ Cond.classLink own ik cls :: Cond.initialized cls :: vx_atS own ic cls names, vx_ot w = true)
    (hU : vx_Zq Bundle.tN "UNASSIGNED_STACK" Bundle.steD A s s.heap) (hN : vx_Zq Bundle.tN "SUPPRESSED_SENTINEL" Bundle.listD A s s.heap) (hS : va_S A s.heap H locs) (hsize : ls.size = c.maxLocals)
    (d0 : decode cc pc = .ok (.new ik, 3)) (d3 : decode cc (pc + 3) = .ok (.dup, 1)) (d4 : decode cc (pc + 4) = .ok (.ldc_w is, 3)) (d7 : decode cc (pc + 7) = .ok (.invokespecial ic, 3)) (d10 : decode cc (pc + 10) = .ok (.athrow, 1))
    (hout : ∀ x ∈ c.exceptionTable.toList, covers x (pc + 10) = false)
    (hRframes : names.length + 3 < R.frames) (hRlocals : (rest.map fun v => v.category).sum + (13 * (names.length + 1) + 43) ≤ R.locals) (hRcells : cells + 1 ≤ R.cells) (hRslots : slots + 6 ≤ R.slots) (hlocks : meth.locks = false)
    (hx : ∀ t : State, s.vm.Alike t.vm → H.size ≤ t.heap.size → (∀ q : Nat, q < H.size → t.heap[q]? = H[q]?) → XC cls s t)
    (hf : ∀ z ∈ locs, free z.base) (hc : cells + 1 ≤ mc) (hs : slots + 6 ≤ ms) :
    W p l e R s m args below meth c H locs cells slots (vx_MQ below Qc XC args s mc ms free) (F0 m pc ls rest) := by
  intro T hT X
  have htr : e.platform.stackTraces = false := (show e.platform.stackTraces = l.stackTraces by rw [X.admits.platform]).trans hl
  have Y := vx_rebase X (R' := { frames := R.frames, locals := R.locals, cells := 1, slots := 6 }) (Nat.le_refl _) (Nat.le_refl _) hRcells hRslots
  obtain ⟨s', hA⟩ : ∃ z, z = (T.setVm s.vm).setFrames (.invoking m args :: below) := ⟨_, rfl⟩
  rw [← hA] at Y
  have hvm : s'.vm = s.vm := by rw [hA]; rfl
  have hhp : s'.heap = H := by rw [hA]; exact hT
  have hW0 : s.WarmedH s'.vm := by rw [hvm]; exact State.WarmedH.refl s
  have hat' : ∀ w ∈ vx_atS own ic cls names, w.before args s' = true := fun w hw => vx_ot_at hW0 hvm.symm (hgood w (List.mem_cons_of_mem _ (List.mem_cons_of_mem _ hw))) (hat w hw)
  have hk' : (Cond.classLink own ik cls).before args s' = true := vx_ot_at hW0 hvm.symm (hgood _ List.mem_cons_self) hk
  have hini' : (Cond.initialized cls).before args s' = true := vx_ot_at hW0 hvm.symm (hgood _ (List.mem_cons_of_mem _ List.mem_cons_self)) hini
  have hU' : vx_Zq Bundle.tN "UNASSIGNED_STACK" Bundle.steD A s' s'.heap := by rw [hhp]; exact vx_Zq.moved hW0.alike (hU.kept hS.2.1)
  have hN' : vx_Zq Bundle.tN "SUPPRESSED_SENTINEL" Bundle.listD A s' s'.heap := by rw [hhp]; exact vx_Zq.moved hW0.alike (hN.kept hS.2.1)
  have h : ∀ w ∈ Bundle.ownAtoms own ic cls names, w.before args s' = true := vx_own hat' (vx_isRefq hU'.1) (vx_isRefq hN'.1) hU'.2.word hN'.2.word
  have hown' : s'.vm.findClass own = some m.cls := by rw [hvm]; exact hown
  have hins : (Cond.instantiable cls 6).before args s' = true := h _ (by simp [Bundle.ownAtoms])
  obtain ⟨vm₁, cX, kX, hfX, hkX, -, -, X₁, st1⟩ := Y.newCold hexec (own := own) (C := cls) (index := ik) (n := 6) hown' hk' hins hini'
    (g := F0 m pc ls rest) rfl (by rw [hb]; exact d0) (Nat.le_refl _) (Nat.le_refl _)
  generalize hT1 : (T.setVm vm₁).pushCell { cls := cX, slots := kX.instanceTypes.map defaultValue, vm := .none } = T1 at X₁ st1
  have hcat : (Value.ref T.heap.size).category = 1 := rfl
  have hcellA : T1.heap[T.heap.size]? = some (freshCell cX kX) := by rw [← hT1]; exact State.heap_pushCell_size _ _
  have d3' : decode c.code (pc + 3) = .ok (.dup, 1) := by rw [hb]; exact d3
  have d4' : decode c.code (pc + 4) = .ok (.ldc_w is, 3) := by rw [hb]; exact d4
  have hstr' : vk_R own is text sa s' := vk_R.warm hW0 hstr
  obtain ⟨U, hsteps, hrun, hend, hW, hsame, ce, hce, hO⟩ := X₁.ctorThrowS hexec htr (own := own) (cls := cls) (names := names) (ic := ic) hown' hcls hnames h (fun x hx => nomatch hx) hfX hkX hcellA (by rw [hhp, hT]; exact Nat.le_refl _) (msg := .ref sa) rfl
    (g := { method := m, pc := pc + 7, locals := ls, stack := .ref sa :: .ref T.heap.size :: .ref T.heap.size :: rest, locked := none }) rfl hsize rfl rfl (rest := rest) rfl
    (by rw [hb]; exact d7) (by rw [hb]; exact d10) hout hRframes (by simp only [List.map_cons, List.sum_cons, hcat]; omega) hlocks
  obtain ⟨f1, f2⟩ := vx_frame hsame
  rw [hhp] at f1 f2
  have hWs : s.WarmedH U.vm := State.WarmedH.trans hW0 hW
  have hcl : s.vm.findClass cls = some ce.cls := by
    have h9 := hO.cls
    rw [hvm] at h9
    exact h9
  have hall : s.sameButNew ({ U with vm := s.vm } : State) locs mc ms := by
    subst hA
    obtain ⟨e1, e2⟩ := hsame
    rw [State.setFrames_setFrames] at e1
    have h2 : (T.setVm s.vm).sameButNew ({ U with vm := s.vm } : State) [] (0 + 1) (0 + 6) := ⟨e1, e2⟩
    have h3 := X.same.trans h2
    rw [List.append_nil] at h3
    exact h3.mono hc hs
  refine ⟨U, ?_, .threw T.heap.size, hrun, hend, Or.inr ⟨T.heap.size, rfl, cls, ce, locs, hx U hWs.alike f1 (fun q hq => f2 q hq (fun z hz => nomatch hz)), hce, hO.vm, hcl, hWs, hall, hf⟩⟩
  refine st1 _ ?_
  show Steps p.tables e below (T1.setTop { method := m, pc := pc + 3, locals := ls, stack := .ref T.heap.size :: rest, locked := none }) _
  jvm_step X₁.here [X₁.here.top, hexec, d3', Value.category]
  exact X₁.ldcStringW hexec (own := own) (text := text) (index := is) (a := sa) hown' hstr'.1 hstr'.2
    (g := { method := m, pc := pc + 4, locals := ls, stack := .ref T.heap.size :: .ref T.heap.size :: rest, locked := none }) rfl d4' _ hsteps
end Ends
section Bodies
variable {l : Launch}
theorem vx_ofW {y : MethodName} {ws ws' : List Cond} {rm : Room} {Pc : Array Value → State → Prop} {Qc : Array Value → State → Outcome → State → Prop} {XC : String → State → State → Prop} {mc ms : Nat} {free : Addr → Prop} {cc : ByteArray} {maxL : Nat} {ret : Option FieldType}
    (hy : plainName y.cls = true) (hw : ws = Cond.code y cc maxL ret :: ws')
    (body : ∀ p e s m args below meth c s₁, BodyLoose p l y (headSpec ws rm) cc maxL ret e s m args below meth c s₁ → c.maxLocals = maxL → (∀ x ∈ c.exceptionTable.toList, False) → Pc args s →
      W p l e (headSpec ws rm).room s m args below meth c s.heap [] 0 0 (vx_MQ below Qc XC args s mc ms free) (entryFrame m args maxL)) : vx_Met l y ws rm Pc Qc XC mc ms free := by
  refine MetFree.of_bodyS (code := cc) (maxLocals := maxL) (ret := ret) hy ?_ ?_
  · intro args s m h hn
    obtain ⟨meth, c, h1, h2, h3, h4, h5, h6, -, -⟩ := Cond.code_spec hn (atoms_spec (ws := ws) h _ (by rw [hw]; exact List.mem_cons_self))
    exact ⟨meth, c, h1, h2, h3, h4, h5, h6⟩
  · intro p e s m args below meth c s₁ B hml hP _
    have hh0 : s₁.heap = s.heap := by rw [B.state]; rfl
    have ht : ∀ x ∈ c.exceptionTable.toList, False := by
      obtain ⟨meth9, c9, h1, h2, -, -, -, -, h7, -⟩ := Cond.code_spec B.named (atoms_spec (ws := ws) B.pre _ (by rw [hw]; exact List.mem_cons_self))
      cases Option.some.inj (h1.symm.trans B.method)
      cases Option.some.inj (h2.symm.trans (Stand.of_body B).code)
      intro x hx
      rw [Array.isEmpty_iff.mp h7] at hx
      cases hx
    obtain ⟨t, a1, o, b1, b2, b3⟩ := body p e s m args below meth c s₁ B hml ht hP s₁ hh0 (Stand.of_body B)
    exact ⟨t, o, a1, b1, b2, b3⟩
/-- the table of a body with handlers -/
theorem vx_table {p : Program} {x y : MethodName} {S : Spec} {cc bytes : ByteArray} {maxL maxL' : Nat} {ret ret' : Option FieldType} {e : Env} {s s₁ : State} {m : MethodId} {args : Array Value} {below : List Frame} {meth : Method} {c : Code} {hh : List (Nat × Nat × Nat × Nat)}
    (B : BodyLoose p l y S cc maxL ret e s m args below meth c s₁) (h : (Cond.codeWith y bytes maxL' ret' hh).before args s = true) : c.exceptionTable.toList = tableOf hh := by
  obtain ⟨m9, meth9, c9, hn9, h1, h2, -, -, h6, -⟩ := Cond.codeWith_spec h
  cases Option.some.inj (hn9.symm.trans B.named)
  cases Option.some.inj (h1.symm.trans B.method)
  cases Option.some.inj (h2.symm.trans (Stand.of_body B).code)
  rw [← h6, table_eq]
end Bodies
end VXA
/-! ===== END ===== -/
/-! ===== BEGIN a static call of a method with an exception table ===== -/
section VXS
variable {p : Program} {l : Launch} {e : Env} {R : Room} {s : State} {m : MethodId} {args : Array Value} {below : List Frame} {meth : Method} {c : Code} {T : State} {H : Heap} {locs : List Loc} {cells slots : Nat}
abbrev vx_CSW (R : Room) (s : State) (args : Array Value) (own : String) (index : Nat) (y : MethodName) (bytes : ByteArray) (maxL : Nat) (ret : Option FieldType) (hh : List (Nat × Nat × Nat × Nat)) (ws : List Cond) (rm : Room) (mc ms n : Nat) : Prop :=
  (rm.cells = mc ∧ rm.slots = ms ∧ rm.frames + 1 ≤ R.frames ∧ 8 + (maxL + 11) + rm.locals ≤ R.locals ∧ (∀ w ∈ ws, ∀ (a' : Array Value) (U : State), s.WarmedH U.vm → w.before a' U = true) ∧ Cond.codeWith y bytes maxL ret hh ∈ ws) ∧
  (Cond.codeWith y bytes maxL ret hh).before args s = true ∧ (Cond.initialized y.cls).before args s = true ∧ (y.cls ≠ "java/lang/invoke/MethodHandle" ∧ y.cls ≠ "java/lang/invoke/VarHandle") ∧
  (∀ sig, parseMethodDescriptor y.desc = some sig → n = sig.parameters.length) ∧ (Cond.methodLink own index y).before args s = true ∧ (Cond.static y).before args s = true
theorem vx_cwSW {own : String} {index maxL mc ms : Nat} {y : MethodName} {bytes : ByteArray} {ret : Option FieldType} {hh : List (Nat × Nat × Nat × Nat)} {Ts ws ws' : List Cond} {rm : Room} (n : Nat) (ht : ∀ w ∈ Ts, w.before args s = true) (hT : GoodIn Ts (va_wsS own index y ws)) (hw : ws = Cond.codeWith y bytes maxL ret hh :: ws') (hrc : rm.cells = mc) (hrs : rm.slots = ms)
    (hd : y.cls ≠ "java/lang/invoke/MethodHandle" ∧ y.cls ≠ "java/lang/invoke/VarHandle" ∧ (parseMethodDescriptor y.desc).map (fun d => d.parameters.length) = some n) (hR : rm.frames + 1 ≤ R.frames ∧ 8 + (maxL + 11) + rm.locals ≤ R.locals) :
    vx_CSW R s args own index y bytes maxL ret hh ws rm mc ms n := by
  have ok : ∀ w ∈ va_wsS own index y ws, w.before args s = true := fun w h => ht w (hT w h).1
  have hG : GoodIn Ts ws := fun w h => hT w (by unfold va_wsS; exact List.mem_append_right _ h)
  have hc : Cond.codeWith y bytes maxL ret hh ∈ ws := by rw [hw]; exact List.mem_cons_self
  refine ⟨⟨hrc, hrs, hR.1, hR.2, pay_in ht hG, hc⟩, ht _ (hG _ hc).1, ok _ (by simp [va_wsS]), ⟨hd.1, hd.2.1⟩, fun sig h => ?_, ok _ (by simp [va_wsS]), ok _ (by simp [va_wsS])⟩
  have h2 := hd.2.2
  rw [h] at h2
  exact (Option.some.inj h2).symm
theorem vx_callSW (X : Stand p l e R s m args below meth c T locs cells slots) (hexec : p.tables.exec = Jvm.exec) {own : String} {index : Nat} {y : MethodName} {bytes : ByteArray} {maxL : Nat} {ret : Option FieldType} {hh : List (Nat × Nat × Nat × Nat)}
    (hown : s.vm.findClass own = some m.cls) (hlink : (Cond.methodLink own index y).before args s = true) (hstat : (Cond.static y).before args s = true) (hinit : (Cond.initialized y.cls).before args s = true)
    (hcode : (Cond.codeWith y bytes maxL ret hh).before args s = true) (hy : y.cls ≠ "java/lang/invoke/MethodHandle" ∧ y.cls ≠ "java/lang/invoke/VarHandle")
    {W9 : Nat} {Pre : Pt → Array Value → Prop} {Post : Pt → Array Value → Option Value → Pt → Prop} (hK : Back l R p e below s args y 3 W9 Pre Post)
    {g : JFrame} (hg : g.method = m) (hsize : g.locals.size = c.maxLocals) {argsL rest : List Value} (hlen : ∀ sig, parseMethodDescriptor y.desc = some sig → argsL.length = sig.parameters.length)
    (hstack : g.stack = argsL.reverse ++ rest) (hW : 2 * g.monitorRoom + (rest.map fun v => v.category).sum ≤ W9) (hdg : decode c.code g.pc = .ok (.invokestatic index, 3))
    (hpre : ∀ vm₁, s.WarmedH vm₁ → Pre ⟨T.setVm vm₁, locs, cells, slots⟩ argsL.toArray) :
    ∃ (v : Option Value) (vm₁ : Vm) (B : Pt), s.WarmedH vm₁ ∧ Stand p l e R s m args below meth c B.U B.locs B.cells B.slots ∧ Post ⟨T.setVm vm₁, locs, cells, slots⟩ argsL.toArray v B ∧
      ∀ target, Steps p.tables e below (B.U.setTop { g with pc := g.pc + 3, stack := v.toList ++ rest }) target → Steps p.tables e below (T.setTop g) target := by
  obtain ⟨mk, methM, cM, hnamed, hmethM, -, -, -, -, -, -, hsigM⟩ := Cond.codeWith_spec hcode
  have hstatic : methM.isStatic = true := Cond.static_spec hnamed hmethM hstat
  obtain ⟨kP, hkP, -⟩ := className_of_methodNamed hnamed
  have hinitP : kP.init = .initialized := Cond.initialized_spec (findClass_of_methodNamed hnamed) hkP hinit
  obtain ⟨vm₁, X₁, hstep₁⟩ := X.invokestatic hexec hown hlink hnamed hmethM hstatic hkP hinitP hy (g := g) hg (argsL := argsL) (rest := rest) (hlen _ hsigM) hstack hdg
  obtain ⟨v, B, X', hpost, hsteps⟩ := hK m meth c ⟨T.setVm vm₁, locs, cells, slots⟩ { g with stack := rest } (.invokestatic index) mk argsL.toArray X₁ hg hsize hdg hW (X₁.named hnamed) (hpre vm₁ X₁.warmed)
  exact ⟨v, vm₁, B, X₁.warmed, X', hpost, fun target h => hstep₁ _ fun acts => by rw [doInvoke_state]; exact hsteps.trans h⟩
theorem vx_runSW {y : MethodName} {bytes cc : ByteArray} {maxL nL mc ms n index : Nat} {ret : Option FieldType} {hh : List (Nat × Nat × Nat × Nat)} {ws : List Cond} {rm : Room} {Pc : Array Value → State → Prop} {Qc : Array Value → State → Outcome → State → Prop} {free : Addr → Prop} {Ts : List Cond} {own : String} {As rest : List Value} {g : JFrame}
    (S : CallFix p m c cc nL s args Ts own) (hM : Met l y ws rm Pc Qc mc ms free) (cw : vx_CSW R s args own index y bytes maxL ret hh ws rm mc ms n) (hp : PreS s H Pc As)
    (hg : g.method = m) (hn : As.length = n) (hsize : g.locals.size = nL) (hstack : g.stack = As.reverse ++ rest) (hW : 2 * g.monitorRoom + (rest.map fun v => v.category).sum ≤ 8) (hdg : decode cc g.pc = .ok (.invokestatic index, 3)) (hf : cells + mc ≤ R.cells ∧ slots + ms ≤ R.slots) :
    va_Run p l e R s m args below meth c H locs cells slots mc ms g rest (Qc As.toArray) (free) := by
  obtain ⟨⟨hrc, hrs, hfr, hlo, hws, hcw⟩, hcode, hini, hy, hlen, hl, hstt⟩ := cw
  have hK : Back l R p e below s args y 3 8 (PreOf R mc ms Pc) (PostOf Qc mc ms free) := va_backW (hh := hh) (bytes := bytes) (maxL := maxL) (ret := ret) hM hp.1 hrc hrs hfr hlo hws hcw (fun a' U hW => word_at hW (Or.inl (by first | rfl | simp [Cond.onTables, Cond.keeps, Cond.steady])) hini)
  obtain ⟨hx, hb, hml, ho, -⟩ := S
  intro T hT X
  obtain ⟨v, vm₁, ⟨U', l2, c2, s2⟩, hW₁, X', ⟨g', mk, t, L, e1, e2, hq, h1, hL, h2, h3⟩, st⟩ := vx_callSW X hx (hh := hh) (bytes := bytes) (maxL := maxL) (ret := ret) ho hl hstt hini hcode hy hK hg (hsize.trans hml.symm) (argsL := As) (rest := rest) (fun sig h => hn.trans (hlen sig h)) hstack hW (by rw [hb]; exact hdg)
    (fun vm₁ hW₁ => ⟨hf.1, hf.2, hp.2 (T.setVm vm₁) hT hW₁⟩)
  dsimp only [Pt.U, Pt.locs, Pt.cells, Pt.slots] at X' e1 e2 h1 h2 h3 st
  subst h1; subst h2; subst h3
  exact ⟨v, (T.setVm vm₁).calling g' mk As.toArray, t, U', L, hT, X', hL, e1, e2, hq, st⟩
/-- not caught here, past rows that name other classes: it goes on to the caller -/
theorem vx_outP {p : Program} {l : Launch} {e : Env} {R : Room} {s : State} {m : MethodId} {args : Array Value} {below : List Frame} {meth : Method} {c : Code} {H : Heap} {locs : List Loc} {cells slots : Nat} {free : Addr → Prop} {ls : Array Slot} {rest : List Value} {Qc : Array Value → State → Outcome → State → Prop} {XC : String → State → State → Prop}
    {pc : Nat} {own E : String} {ce : Cell} {q : Addr} {mc ms : Nat} (hown : s.vm.findClass own = some m.cls) (hlocks : meth.locks = false)
    (hpass : ∀ z ∈ c.exceptionTable.toList, covers z pc = false ∨ (z.catchType ≠ 0 ∧ ∃ nm : String, (Cond.classLink own z.catchType nm).before args s = true ∧ va_Nc E nm s)) (hcell : H[q]? = some ce) (hv : ce.vm = .none) (hcl : s.vm.findClass E = some ce.cls)
    (hx : ∀ t : State, t.heap = H → s.vm.Alike t.vm → XC E s t) (hf : ∀ z ∈ locs, free z.base) (hc : cells ≤ mc) (hs : slots ≤ ms) :
    vx_W p l e R s m args below meth c H locs cells slots (vx_MQ below Qc XC args s mc ms free) (F0 m pc ls rest) q := by
  intro T hT X
  have hpl : e.platform.magicAccessors = ({} : Platform).magicAccessors := by rw [X.admits.platform]
  obtain ⟨vm', hW', X', st⟩ := X.outThrough hlocks q (g := F0 m pc ls rest) rfl rfl rfl (cell := ce) (by rw [hT]; exact hcell) (by rw [hv]; rfl)
    (by obtain ⟨k9, h9, -⟩ := Vm.findClass_spec hcl; exact ⟨k9, h9⟩) (fun z hz => by
      rcases hpass z hz with h | ⟨hz0, nm, hl1, hn1⟩
      · exact Or.inl h
      · obtain ⟨c6, hc6, hcl6⟩ := Cond.classLink_spec hown hl1 e.platform hpl
        obtain ⟨a8, b8, h1, h2, h3⟩ := hn1
        cases Option.some.inj (h1.symm.trans hcl)
        cases Option.some.inj (h2.symm.trans hc6)
        exact Or.inr ⟨hz0, _, hcl6, h3⟩)
  obtain ⟨g₀, hfr⟩ := X'.frames_eq
  have hcell9 : ((T.setVm vm').setFrames (.throwing q :: below)).heap[q]? = some ce := by
    show T.heap[q]? = some ce
    rw [hT]; exact hcell
  have hend : Ended ((T.setVm vm').setFrames (.throwing q :: below)) below (.threw q) := State.frames_setFrames _ (State.cur_lt_of_frames hfr)
  refine ⟨(T.setVm vm').setFrames (.throwing q :: below), ?_, .threw q, X'.here.running, hend, Or.inr ⟨q, rfl, E, ce, locs, hx _ hT (X'.ends _).1.alike, hcell9, hv, hcl, (X'.ends _).1, (X'.ends _).2.mono hc hs, hf⟩⟩
  rw [X.pushThrowing_eq]
  exact st
/-- a thing of a world lies in the heap -/
theorem vx_lt {D : va_G} {cl : List vw_C} {ws : va_W} {H1 : Heap} (h : va_P D cl ws H1) {k : Nat} {q : Nat × va_E} (hk : ws[k]? = some q) : q.1 < H1.size := (h k q hk).lt
end VXS
/-! ===== END ===== -/
/-! ===== BEGIN methods with a table of their own: called by a name, returning or throwing ===== -/
section VXH
/-! vx_backW, vx_callVX, vx_callSX, vx_callVW, vx_runVW, vx_runVX, vx_runSX, vx_ofWH follow the same proofs as their sisters above (Free/Laws.lean, Shelf42/LK1.lean); vx_outP calls Shelf42/NT130.lean (outThrough). -/
section
variable {l : Launch} {R : Room} {p : Program} {e : Env} {below : List Frame} {s : State} {sargs : Array Value} {y : MethodName} {len W9 : Nat}
theorem vx_backW {ws : List Cond} {rm : Room} {Pc : Array Value → State → Prop} {Qc : Array Value → State → Outcome → State → Prop} {XC : String → State → State → Prop} {mc ms : Nat} {free : Addr → Prop} {bytes : ByteArray} {maxL : Nat} {ret : Option FieldType} {hh : List (Nat × Nat × Nat × Nat)}
    (hM : vx_Met l y ws rm Pc Qc XC mc ms free) (hblind : FrameBlind Pc) (hrc : rm.cells = mc) (hrs : rm.slots = ms)
    (hframes : rm.frames + 1 ≤ R.frames) (hlocals : W9 + (maxL + 11) + rm.locals ≤ R.locals)
    (hws : ∀ w ∈ ws, ∀ a' U, s.WarmedH U.vm → w.before a' U = true) (hcode : Cond.codeWith y bytes maxL ret hh ∈ ws) (hinit : ∀ a' U, s.WarmedH U.vm → (Cond.initialized y.cls).before a' U = true) :
    vx_Back l R p e below s sargs y len W9 (PreOf R mc ms Pc) (PostOf Qc mc ms free) (vx_Post XC mc ms free) := by
  intro m meth c A g ig mk a X hg hsize hdg hW hn hp
  have h1 : (headSpec ws rm).pre.before a A.U = true := atoms_intro fun w hw => hws w hw _ _ X.warmed
  have h2 : (Cond.codeWith y bytes maxL ret hh).before a A.U = true := hws _ hcode _ _ X.warmed
  have h3 : (Cond.initialized y.cls).before a A.U = true := hinit _ _ X.warmed
  have h4 : A.cells + (headSpec ws rm).room.cells ≤ R.cells := by rw [show (headSpec ws rm).room.cells = mc from hrc]; exact hp.1
  have h5 : A.slots + (headSpec ws rm).room.slots ≤ R.slots := by rw [show (headSpec ws rm).room.slots = ms from hrs]; exact hp.2.1
  have hPc : Pc a (A.U.calling g mk a) := hblind _ _ _ _ hp.2.2
  obtain ⟨U, Ls, c0, s0⟩ := A
  dsimp only [Pt.U, Pt.locs, Pt.cells, Pt.slots] at h1 h2 h3 h4 h5 X hn hPc ⊢
  obtain ⟨m9, methY, cY, hn9, hmY, hcY, -, hlY, -⟩ := Cond.codeWith_spec h2
  cases Option.some.inj (hn9.symm.trans hn)
  obtain ⟨kY, hkY, -⟩ := className_of_methodNamed hn
  have hinitY : kY.init = .initialized := Cond.initialized_spec (findClass_of_methodNamed hn) hkY h3
  have h : At U g.method c below := by rw [hg]; exact X.here
  have hlocals9 : W9 + (maxL + 11) + (headSpec ws rm).room.locals ≤ R.locals := hlocals
  have happ : (headSpec ws rm).appliesLoose y e.platform (U.calling g mk a) = true :=
    Spec.appliesLoose_calling (g := g) h hdg hn hkY hinitY
      (X.room_calling (g := g) (R' := (headSpec ws rm).room) hsize hmY hcY hframes (by rw [hlY]; omega) h4 h5) h1
  obtain ⟨mid, hmid⟩ := h.above
  have hfr : (U.setTop g).frames = (.java g :: mid) ++ below := by rw [State.frames_setTop' g h.top, hmid]; rfl
  obtain ⟨o, s₂, hsteps, -, hend, hq⟩ := Steps.callFree hM p X.admits X.cas X.clock (acts := []) hfr happ hPc trivial
  have hq' : vx_Q Qc XC mc ms free a (U.calling g mk a) o s₂ := hq
  rw [State.frames_setTop' g h.top] at hend
  obtain ⟨g₀, hg0⟩ := Option.isSome_iff_exists.mp h.top
  obtain ⟨r, hr⟩ := State.topJava?_eq_some.mp hg0
  have hr' : (({ U with heap := s₂.heap, slotsUsed := s₂.slotsUsed } : State).setVm s₂.vm).frames = .java g₀ :: r := hr
  rcases hq' with ⟨hqc, L, hfe, hL⟩ | ⟨q, rfl, E, ce, L, hx, hce, hcv, hcl, hW₂, hsm, hL⟩
  · obtain ⟨⟨v, rfl⟩, hW₂, e2, q2, q3, q4, q5, q6⟩ := id hfe
    have e3 : s₂ = ({ (U.calling g mk a).setFrames s₂.frames with heap := s₂.heap, slotsUsed := s₂.slotsUsed } : State).setVm s₂.vm := by
      have : s₂ = ({ s₂ with vm := (U.calling g mk a).vm } : State).setVm s₂.vm := rfl
      rw [e2] at this
      exact this
    obtain ⟨c₂, i₂, len₂, hc₂, hd₂, hf₂⟩ := hend
    have hW' : U.WarmedH s₂.vm := hW₂
    have hcc : c₂ = c := by
      have h1 : s₂.code? g.method = U.code? g.method := by
        rw [State.code?_eq, State.code?_eq, hW'.alike.method?]
      exact Option.some.inj (hc₂.symm.trans (h1.trans h.code))
    subst hcc
    have hlen : len₂ = len := by rw [hdg] at hd₂; cases hd₂; rfl
    subst hlen
    have hs₂ : s₂ = (({ U with heap := s₂.heap, slotsUsed := s₂.slotsUsed } : State).setVm s₂.vm).setTop { g with pc := g.pc + len₂, stack := v.toList ++ g.stack } := by
      refine e3.trans ?_
      rw [hf₂, State.calling_eq h.top, State.setFrames_setFrames, State.setTop_of_frames _ hr', hr]
      rfl
    have hsame : U.sameButNew ({ U with heap := s₂.heap, slotsUsed := s₂.slotsUsed } : State) L mc ms := by
      refine ⟨?_, q2, q3, q4, q5, q6⟩
      obtain ⟨t, ht, -⟩ := State.frames_cons hr
      show ({ U with heap := s₂.heap, slotsUsed := s₂.slotsUsed } : State) = { U.setFrames U.frames with heap := s₂.heap, slotsUsed := s₂.slotsUsed }
      rw [State.setFrames_self ht]
    subst hg
    refine Or.inl ⟨v, ⟨(({ U with heap := s₂.heap, slotsUsed := s₂.slotsUsed } : State).setVm s₂.vm), Ls ++ L, c0 + mc, s0 + ms⟩,
      ⟨X.admits, X.cas, X.clock, X.frames, X.room, X.hears, X.method, X.code, (X.here.setHeapUsed s₂.heap s₂.slotsUsed).setVm hW'.alike, X.tail, State.WarmedH.trans X.warmed hW', X.limits, X.bytes, X.same.trans (hsame.setVm s.vm)⟩,
      ⟨g, mk, s₂, L, rfl, rfl, hqc, rfl, hL, rfl, rfl⟩, ?_⟩
    show Steps p.tables e below _ ((({ U with heap := s₂.heap, slotsUsed := s₂.slotsUsed } : State).setVm s₂.vm).setTop { g with pc := g.pc + len₂, stack := v.toList ++ g.stack })
    rw [← hs₂]
    exact hsteps
  · obtain ⟨e2, q2, q3, q4, q5, q6⟩ := id hsm
    have e3 : s₂ = ({ (U.calling g mk a).setFrames s₂.frames with heap := s₂.heap, slotsUsed := s₂.slotsUsed } : State).setVm s₂.vm := by
      have : s₂ = ({ s₂ with vm := (U.calling g mk a).vm } : State).setVm s₂.vm := rfl
      rw [e2] at this
      exact this
    have hf₂ : s₂.frames = .throwing q :: .java g :: U.frames.tail := hend
    have hW' : U.WarmedH s₂.vm := hW₂
    have hs₂ : s₂ = ((({ U with heap := s₂.heap, slotsUsed := s₂.slotsUsed } : State).setVm s₂.vm).setTop g).pushFrame (.throwing q) := by
      refine e3.trans ?_
      rw [hf₂, State.calling_eq h.top, State.setFrames_setFrames, State.pushFrame, State.frames_setTop _ hr', State.setTop_of_frames _ hr', State.setFrames_setFrames, hr]
      rfl
    have hsame : U.sameButNew ({ U with heap := s₂.heap, slotsUsed := s₂.slotsUsed } : State) L mc ms := by
      refine ⟨?_, q2, q3, q4, q5, q6⟩
      obtain ⟨t, ht, -⟩ := State.frames_cons hr
      show ({ U with heap := s₂.heap, slotsUsed := s₂.slotsUsed } : State) = { U.setFrames U.frames with heap := s₂.heap, slotsUsed := s₂.slotsUsed }
      rw [State.setFrames_self ht]
    subst hg
    refine Or.inr ⟨q, ⟨(({ U with heap := s₂.heap, slotsUsed := s₂.slotsUsed } : State).setVm s₂.vm), Ls ++ L, c0 + mc, s0 + ms⟩,
      ⟨X.admits, X.cas, X.clock, X.frames, X.room, X.hears, X.method, X.code, (X.here.setHeapUsed s₂.heap s₂.slotsUsed).setVm hW'.alike, X.tail, State.WarmedH.trans X.warmed hW', X.limits, X.bytes, X.same.trans (hsame.setVm s.vm)⟩,
      ⟨g, mk, s₂, L, E, ce, rfl, rfl, hx, hce, hcv, hcl, rfl, hL, rfl, rfl⟩, ?_⟩
    show Steps p.tables e below _ (((({ U with heap := s₂.heap, slotsUsed := s₂.slotsUsed } : State).setVm s₂.vm).setTop g).pushFrame (.throwing q))
    rw [← hs₂]
    exact hsteps
end
variable {p : Program} {l : Launch} {e : Env} {R : Room} {s : State} {m : MethodId} {args : Array Value} {below : List Frame} {meth : Method} {c : Code} {T : State} {H : Heap} {locs : List Loc} {cells slots : Nat}
theorem vx_callVX (X : Stand p l e R s m args below meth c T locs cells slots) (hexec : p.tables.exec = Jvm.exec) {own C : String} {index : Nat} {y : MethodName} {bytes : ByteArray} {maxL : Nat} {ret : Option FieldType} {hh : List (Nat × Nat × Nat × Nat)}
    (hown : s.vm.findClass own = some m.cls) (hlink : (Cond.methodLink own index y).before args s = true) (hinst : (Cond.instanceMethod y).before args s = true) (hsel : (Cond.selects C y y).before args s = true)
    (hcode : (Cond.codeWith y bytes maxL ret hh).before args s = true) (hy : y.cls ≠ "java/lang/invoke/MethodHandle" ∧ y.cls ≠ "java/lang/invoke/VarHandle")
    {W9 : Nat} {Pre : Pt → Array Value → Prop} {Post : Pt → Array Value → Option Value → Pt → Prop} {PostX : Pt → Array Value → Addr → Pt → Prop} (hK : vx_Back l R p e below s args y 3 W9 Pre Post PostX)
    {b : Addr} {cellB : Cell} (hcell : T.heap[b]? = some cellB) (hobj : cellB.vm.isStatics = false) (hcls : s.vm.findClass C = some cellB.cls)
    {g : JFrame} (hg : g.method = m) (hsize : g.locals.size = c.maxLocals) {argsL rest : List Value} (hlen : ∀ sig, parseMethodDescriptor y.desc = some sig → argsL.length = sig.parameters.length)
    (hstack : g.stack = argsL.reverse ++ .ref b :: rest) (hW : 2 * g.monitorRoom + (rest.map fun v => v.category).sum ≤ W9) (hdg : decode c.code g.pc = .ok (.invokevirtual index, 3))
    (hpre : ∀ vm₁, s.WarmedH vm₁ → Pre ⟨T.setVm vm₁, locs, cells, slots⟩ (Value.ref b :: argsL).toArray) :
    (∃ (v : Option Value) (vm₁ : Vm) (B : Pt), s.WarmedH vm₁ ∧ Stand p l e R s m args below meth c B.U B.locs B.cells B.slots ∧ Post ⟨T.setVm vm₁, locs, cells, slots⟩ (Value.ref b :: argsL).toArray v B ∧
      ∀ target, Steps p.tables e below (B.U.setTop { g with pc := g.pc + 3, stack := v.toList ++ rest }) target → Steps p.tables e below (T.setTop g) target) ∨
    (∃ (q : Addr) (vm₁ : Vm) (B : Pt), s.WarmedH vm₁ ∧ Stand p l e R s m args below meth c B.U B.locs B.cells B.slots ∧ PostX ⟨T.setVm vm₁, locs, cells, slots⟩ (Value.ref b :: argsL).toArray q B ∧
      Steps p.tables e below (T.setTop g) ((B.U.setTop { g with stack := rest }).pushFrame (.throwing q))) := by
  obtain ⟨mk, methM, hnamed, hmethM, hstM, habM⟩ := Cond.instanceMethod_spec hinst
  obtain ⟨m8, methM', cM, hn8, hmethM', -, -, -, -, -, -, hsigM⟩ := Cond.codeWith_spec hcode
  cases Option.some.inj (hn8.symm.trans hnamed)
  cases hmethM.symm.trans hmethM'
  obtain ⟨c2, r2, m2, q1, q2, q3, q4, kP, hkP, hkPi⟩ := Cond.selects_spec hsel
  cases hcls.symm.trans q1
  cases (State.methodFound?_of_named hnamed hy).symm.trans q2
  cases hnamed.symm.trans q3
  have hselP : selectMethod e.platform s.vm cellB.cls mk = .method mk := by rw [Launch.admits_selectMethod X.admits]; exact q4
  obtain ⟨vm₁, X₁, hstep₁⟩ := X.invokevirtual hexec hown hlink hnamed hmethM hstM hkP hkPi hy (a := b) (cell := cellB) hcell
    (fun z h => by rw [h] at hobj; cases hobj) hselP hmethM habM hkP hkPi (g := g) hg (argsL := argsL) (rest := rest) (hlen _ hsigM) hstack hdg
  rcases hK m meth c ⟨T.setVm vm₁, locs, cells, slots⟩ { g with stack := rest } (.invokevirtual index) mk (Value.ref b :: argsL).toArray X₁ hg hsize hdg hW (X₁.named hnamed) (hpre vm₁ X₁.warmed) with ⟨v, B, X', hpost, hsteps⟩ | ⟨q, B, X', hpost, hsteps⟩
  · exact Or.inl ⟨v, vm₁, B, X₁.warmed, X', hpost, fun target h => hstep₁ _ fun acts => by rw [doInvoke_state]; exact hsteps.trans h⟩
  · exact Or.inr ⟨q, vm₁, B, X₁.warmed, X', hpost, hstep₁ _ fun acts => by rw [doInvoke_state]; exact hsteps⟩
theorem vx_callSX (X : Stand p l e R s m args below meth c T locs cells slots) (hexec : p.tables.exec = Jvm.exec) {own : String} {index : Nat} {y : MethodName} {bytes : ByteArray} {maxL : Nat} {ret : Option FieldType} {hh : List (Nat × Nat × Nat × Nat)}
    (hown : s.vm.findClass own = some m.cls) (hlink : (Cond.methodLink own index y).before args s = true) (hstat : (Cond.static y).before args s = true) (hinit : (Cond.initialized y.cls).before args s = true)
    (hcode : (Cond.codeWith y bytes maxL ret hh).before args s = true) (hy : y.cls ≠ "java/lang/invoke/MethodHandle" ∧ y.cls ≠ "java/lang/invoke/VarHandle")
    {W9 : Nat} {Pre : Pt → Array Value → Prop} {Post : Pt → Array Value → Option Value → Pt → Prop} {PostX : Pt → Array Value → Addr → Pt → Prop} (hK : vx_Back l R p e below s args y 3 W9 Pre Post PostX)
    {g : JFrame} (hg : g.method = m) (hsize : g.locals.size = c.maxLocals) {argsL rest : List Value} (hlen : ∀ sig, parseMethodDescriptor y.desc = some sig → argsL.length = sig.parameters.length)
    (hstack : g.stack = argsL.reverse ++ rest) (hW : 2 * g.monitorRoom + (rest.map fun v => v.category).sum ≤ W9) (hdg : decode c.code g.pc = .ok (.invokestatic index, 3))
    (hpre : ∀ vm₁, s.WarmedH vm₁ → Pre ⟨T.setVm vm₁, locs, cells, slots⟩ argsL.toArray) :
    (∃ (v : Option Value) (vm₁ : Vm) (B : Pt), s.WarmedH vm₁ ∧ Stand p l e R s m args below meth c B.U B.locs B.cells B.slots ∧ Post ⟨T.setVm vm₁, locs, cells, slots⟩ argsL.toArray v B ∧
      ∀ target, Steps p.tables e below (B.U.setTop { g with pc := g.pc + 3, stack := v.toList ++ rest }) target → Steps p.tables e below (T.setTop g) target) ∨
    (∃ (q : Addr) (vm₁ : Vm) (B : Pt), s.WarmedH vm₁ ∧ Stand p l e R s m args below meth c B.U B.locs B.cells B.slots ∧ PostX ⟨T.setVm vm₁, locs, cells, slots⟩ argsL.toArray q B ∧
      Steps p.tables e below (T.setTop g) ((B.U.setTop { g with stack := rest }).pushFrame (.throwing q))) := by
  obtain ⟨mk, methM, cM, hnamed, hmethM, -, -, -, -, -, -, hsigM⟩ := Cond.codeWith_spec hcode
  have hstatic : methM.isStatic = true := Cond.static_spec hnamed hmethM hstat
  obtain ⟨kP, hkP, -⟩ := className_of_methodNamed hnamed
  have hinitP : kP.init = .initialized := Cond.initialized_spec (findClass_of_methodNamed hnamed) hkP hinit
  obtain ⟨vm₁, X₁, hstep₁⟩ := X.invokestatic hexec hown hlink hnamed hmethM hstatic hkP hinitP hy (g := g) hg (argsL := argsL) (rest := rest) (hlen _ hsigM) hstack hdg
  rcases hK m meth c ⟨T.setVm vm₁, locs, cells, slots⟩ { g with stack := rest } (.invokestatic index) mk argsL.toArray X₁ hg hsize hdg hW (X₁.named hnamed) (hpre vm₁ X₁.warmed) with ⟨v, B, X', hpost, hsteps⟩ | ⟨q, B, X', hpost, hsteps⟩
  · exact Or.inl ⟨v, vm₁, B, X₁.warmed, X', hpost, fun target h => hstep₁ _ fun acts => by rw [doInvoke_state]; exact hsteps.trans h⟩
  · exact Or.inr ⟨q, vm₁, B, X₁.warmed, X', hpost, hstep₁ _ fun acts => by rw [doInvoke_state]; exact hsteps⟩
theorem vx_callVW (X : Stand p l e R s m args below meth c T locs cells slots) (hexec : p.tables.exec = Jvm.exec) {own C : String} {index : Nat} {y : MethodName} {bytes : ByteArray} {maxL : Nat} {ret : Option FieldType} {hh : List (Nat × Nat × Nat × Nat)}
    (hown : s.vm.findClass own = some m.cls) (hlink : (Cond.methodLink own index y).before args s = true) (hinst : (Cond.instanceMethod y).before args s = true) (hsel : (Cond.selects C y y).before args s = true)
    (hcode : (Cond.codeWith y bytes maxL ret hh).before args s = true) (hy : y.cls ≠ "java/lang/invoke/MethodHandle" ∧ y.cls ≠ "java/lang/invoke/VarHandle")
    {W9 : Nat} {Pre : Pt → Array Value → Prop} {Post : Pt → Array Value → Option Value → Pt → Prop} (hK : Back l R p e below s args y 3 W9 Pre Post)
    {b : Addr} {cellB : Cell} (hcell : T.heap[b]? = some cellB) (hobj : cellB.vm.isStatics = false) (hcls : s.vm.findClass C = some cellB.cls)
    {g : JFrame} (hg : g.method = m) (hsize : g.locals.size = c.maxLocals) {argsL rest : List Value} (hlen : ∀ sig, parseMethodDescriptor y.desc = some sig → argsL.length = sig.parameters.length)
    (hstack : g.stack = argsL.reverse ++ .ref b :: rest) (hW : 2 * g.monitorRoom + (rest.map fun v => v.category).sum ≤ W9) (hdg : decode c.code g.pc = .ok (.invokevirtual index, 3))
    (hpre : ∀ vm₁, s.WarmedH vm₁ → Pre ⟨T.setVm vm₁, locs, cells, slots⟩ (Value.ref b :: argsL).toArray) :
    ∃ (v : Option Value) (vm₁ : Vm) (B : Pt), s.WarmedH vm₁ ∧ Stand p l e R s m args below meth c B.U B.locs B.cells B.slots ∧ Post ⟨T.setVm vm₁, locs, cells, slots⟩ (Value.ref b :: argsL).toArray v B ∧
      ∀ target, Steps p.tables e below (B.U.setTop { g with pc := g.pc + 3, stack := v.toList ++ rest }) target → Steps p.tables e below (T.setTop g) target := by
  obtain ⟨mk, methM, hnamed, hmethM, hstM, habM⟩ := Cond.instanceMethod_spec hinst
  obtain ⟨m8, methM', cM, hn8, hmethM', -, -, -, -, -, -, hsigM⟩ := Cond.codeWith_spec hcode
  cases Option.some.inj (hn8.symm.trans hnamed)
  cases hmethM.symm.trans hmethM'
  obtain ⟨c2, r2, m2, q1, q2, q3, q4, kP, hkP, hkPi⟩ := Cond.selects_spec hsel
  cases hcls.symm.trans q1
  cases (State.methodFound?_of_named hnamed hy).symm.trans q2
  cases hnamed.symm.trans q3
  have hselP : selectMethod e.platform s.vm cellB.cls mk = .method mk := by rw [Launch.admits_selectMethod X.admits]; exact q4
  obtain ⟨vm₁, X₁, hstep₁⟩ := X.invokevirtual hexec hown hlink hnamed hmethM hstM hkP hkPi hy (a := b) (cell := cellB) hcell
    (fun z h => by rw [h] at hobj; cases hobj) hselP hmethM habM hkP hkPi (g := g) hg (argsL := argsL) (rest := rest) (hlen _ hsigM) hstack hdg
  obtain ⟨v, B, X', hpost, hsteps⟩ := hK m meth c ⟨T.setVm vm₁, locs, cells, slots⟩ { g with stack := rest } (.invokevirtual index) mk (Value.ref b :: argsL).toArray X₁ hg hsize hdg hW (X₁.named hnamed) (hpre vm₁ X₁.warmed)
  exact ⟨v, vm₁, B, X₁.warmed, X', hpost, fun target h => hstep₁ _ fun acts => by rw [doInvoke_state]; exact hsteps.trans h⟩
abbrev vx_CVW (R : Room) (s : State) (args : Array Value) (own C : String) (index : Nat) (y : MethodName) (bytes : ByteArray) (maxL : Nat) (ret : Option FieldType) (hh : List (Nat × Nat × Nat × Nat)) (ws : List Cond) (rm : Room) (mc ms n : Nat) : Prop :=
  (rm.cells = mc ∧ rm.slots = ms ∧ rm.frames + 1 ≤ R.frames ∧ 8 + (maxL + 11) + rm.locals ≤ R.locals ∧ (∀ w ∈ ws, ∀ (a' : Array Value) (U : State), s.WarmedH U.vm → w.before a' U = true) ∧ Cond.codeWith y bytes maxL ret hh ∈ ws) ∧
  (Cond.codeWith y bytes maxL ret hh).before args s = true ∧ (Cond.initialized y.cls).before args s = true ∧ (y.cls ≠ "java/lang/invoke/MethodHandle" ∧ y.cls ≠ "java/lang/invoke/VarHandle") ∧
  (∀ sig, parseMethodDescriptor y.desc = some sig → n = sig.parameters.length) ∧ (Cond.methodLink own index y).before args s = true ∧ (Cond.instanceMethod y).before args s = true ∧ (Cond.selects C y y).before args s = true
theorem vx_cwVW {own C : String} {index maxL mc ms : Nat} {y : MethodName} {bytes : ByteArray} {ret : Option FieldType} {hh : List (Nat × Nat × Nat × Nat)} {Ts ws ws' : List Cond} {rm : Room} (n : Nat) (ht : ∀ w ∈ Ts, w.before args s = true) (hT : GoodIn Ts (wsV own index C y ws)) (hw : ws = Cond.codeWith y bytes maxL ret hh :: ws') (hrc : rm.cells = mc) (hrs : rm.slots = ms)
    (hd : y.cls = C ∧ y.cls ≠ "java/lang/invoke/MethodHandle" ∧ y.cls ≠ "java/lang/invoke/VarHandle" ∧ (parseMethodDescriptor y.desc).map (fun d => d.parameters.length) = some n) (hR : rm.frames + 1 ≤ R.frames ∧ 8 + (maxL + 11) + rm.locals ≤ R.locals) :
    vx_CVW R s args own C index y bytes maxL ret hh ws rm mc ms n := by
  obtain ⟨hC, hd⟩ := hd
  subst hC
  have ok : ∀ w ∈ wsV own index y.cls y ws, w.before args s = true := fun w h => ht w (hT w h).1
  have hG : GoodIn Ts ws := fun w h => hT w (by unfold wsV; exact List.mem_append_right _ h)
  have hc : Cond.codeWith y bytes maxL ret hh ∈ ws := by rw [hw]; exact List.mem_cons_self
  refine ⟨⟨hrc, hrs, hR.1, hR.2, pay_in ht hG, hc⟩, ht _ (hG _ hc).1, ok _ (by simp [wsV]), ⟨hd.1, hd.2.1⟩, fun sig h => ?_, ok _ (by simp [wsV]), ok _ (by simp [wsV]), ok _ (by simp [wsV])⟩
  have h2 := hd.2.2
  rw [h] at h2
  exact (Option.some.inj h2).symm
theorem vx_runVW {y : MethodName} {bytes cc : ByteArray} {maxL nL mc ms n index : Nat} {ret : Option FieldType} {hh : List (Nat × Nat × Nat × Nat)} {ws : List Cond} {rm : Room} {Pc : Array Value → State → Prop} {Qc : Array Value → State → Outcome → State → Prop} {free : Addr → Prop} {Ts : List Cond} {own C : String} {b : Addr} {As rest : List Value} {g : JFrame}
    (S : CallFix p m c cc nL s args Ts own) (hM : Met l y ws rm Pc Qc mc ms free) (cw : vx_CVW R s args own C index y bytes maxL ret hh ws rm mc ms n) (hp : PreV s H C b Pc As)
    (hg : g.method = m) (hn : As.length = n) (hsize : g.locals.size = nL) (hstack : g.stack = As.reverse ++ .ref b :: rest) (hW : 2 * g.monitorRoom + (rest.map fun v => v.category).sum ≤ 8) (hdg : decode cc g.pc = .ok (.invokevirtual index, 3)) (hf : cells + mc ≤ R.cells ∧ slots + ms ≤ R.slots) :
    va_Run p l e R s m args below meth c H locs cells slots mc ms g rest (Qc (Value.ref b :: As).toArray) free := by
  obtain ⟨⟨hrc, hrs, hfr, hlo, hws, hcw⟩, hcode, hini, hy, hlen, hl, hin, hse⟩ := cw
  have hK : Back l R p e below s args y 3 8 (PreOf R mc ms Pc) (PostOf Qc mc ms free) := va_backW (hh := hh) (bytes := bytes) (maxL := maxL) (ret := ret) hM hp.1 hrc hrs hfr hlo hws hcw (fun a' U hW => word_at hW (Or.inl (by first | rfl | simp [Cond.onTables, Cond.keeps, Cond.steady])) hini)
  obtain ⟨hx, hb, hml, ho, -⟩ := S
  obtain ⟨-, ⟨cellB, hcB, hoB, hclB⟩, hPc⟩ := hp
  intro T hT X
  obtain ⟨v, vm₁, ⟨U', l2, c2, s2⟩, hW₁, X', ⟨g', mk, t, L, e1, e2, hq, h1, hL, h2, h3⟩, st⟩ := vx_callVW X hx (C := C) (hh := hh) (bytes := bytes) (maxL := maxL) (ret := ret) ho hl hin hse hcode hy hK (by rw [hT]; exact hcB) hoB hclB hg (hsize.trans hml.symm) (argsL := As) (rest := rest) (fun sig h => hn.trans (hlen sig h)) hstack hW (by rw [hb]; exact hdg)
    (fun vm₁ hW₁ => ⟨hf.1, hf.2, hPc (T.setVm vm₁) hT hW₁⟩)
  dsimp only [Pt.U, Pt.locs, Pt.cells, Pt.slots] at X' e1 e2 h1 h2 h3 st
  subst h1; subst h2; subst h3
  exact ⟨v, (T.setVm vm₁).calling g' mk (Value.ref b :: As).toArray, t, U', L, hT, X', hL, e1, e2, hq, st⟩
section
variable {y : MethodName} {bytes cc : ByteArray} {maxL nL mc ms n index : Nat} {ret : Option FieldType} {ws : List Cond} {rm : Room} {Pc : Array Value → State → Prop} {Qc : Array Value → State → Outcome → State → Prop} {XC : String → State → State → Prop} {free : Addr → Prop} {Ts : List Cond} {own C : String} {b : Addr} {As rest : List Value} {g : JFrame}
theorem vx_runVX {hh : List (Nat × Nat × Nat × Nat)} (S : CallFix p m c cc nL s args Ts own) (hM : vx_Met l y ws rm Pc Qc XC mc ms free) (cw : vx_CVW R s args own C index y bytes maxL ret hh ws rm mc ms n) (hp : PreV s H C b Pc As)
    (hg : g.method = m) (hn : As.length = n) (hsize : g.locals.size = nL) (hstack : g.stack = As.reverse ++ .ref b :: rest) (hW : 2 * g.monitorRoom + (rest.map fun v => v.category).sum ≤ 8) (hdg : decode cc g.pc = .ok (.invokevirtual index, 3)) (hf : cells + mc ≤ R.cells ∧ slots + ms ≤ R.slots) :
    vx_Run p l e R s m args below meth c H locs cells slots mc ms g rest (Qc (Value.ref b :: As).toArray) XC free := by
  obtain ⟨⟨hrc, hrs, hfr, hlo, hws, hcw⟩, hcode, hini, hy, hlen, hl, hin, hse⟩ := cw
  have hK : vx_Back l R p e below s args y 3 8 (PreOf R mc ms Pc) (PostOf Qc mc ms free) (vx_Post XC mc ms free) := vx_backW (hh := hh) (bytes := bytes) (maxL := maxL) (ret := ret) hM hp.1 hrc hrs hfr hlo hws hcw (fun a' U hW => word_at hW (Or.inl (by first | rfl | simp [Cond.onTables, Cond.keeps, Cond.steady])) hini)
  obtain ⟨hx, hb, hml, ho, -⟩ := S
  obtain ⟨-, ⟨cellB, hcB, hoB, hclB⟩, hPc⟩ := hp
  intro T hT X
  rcases vx_callVX X hx (C := C) (hh := hh) (bytes := bytes) (maxL := maxL) (ret := ret) ho hl hin hse hcode hy hK (by rw [hT]; exact hcB) hoB hclB hg (hsize.trans hml.symm) (argsL := As) (rest := rest) (fun sig h => hn.trans (hlen sig h)) hstack hW (by rw [hb]; exact hdg)
    (fun vm₁ hW₁ => ⟨hf.1, hf.2, hPc (T.setVm vm₁) hT hW₁⟩) with ⟨v, vm₁, ⟨U', l2, c2, s2⟩, hW₁, X', ⟨g', mk, t, L, e1, e2, hq, h1, hL, h2, h3⟩, st⟩ | ⟨q, vm₁, ⟨U', l2, c2, s2⟩, hW₁, X', ⟨g', mk, t, L, E, ce, e1, e2, hq, hce, hcv, hcl, h1, hL, h2, h3⟩, st⟩
  · dsimp only [Pt.U, Pt.locs, Pt.cells, Pt.slots] at X' e1 e2 h1 h2 h3 st
    subst h1; subst h2; subst h3
    exact Or.inl ⟨v, (T.setVm vm₁).calling g' mk (Value.ref b :: As).toArray, t, U', L, hT, X', hL, e1, e2, hq, st⟩
  · dsimp only [Pt.U, Pt.locs, Pt.cells, Pt.slots] at X' e1 e2 h1 h2 h3 st hcl
    subst h1; subst h2; subst h3
    exact Or.inr ⟨q, (T.setVm vm₁).calling g' mk (Value.ref b :: As).toArray, t, U', L, E, ce, hT, X', hL, e1, e2, hq, hce, hcv, vx_cls hW₁ hcl, st⟩
theorem vx_runSX {hh : List (Nat × Nat × Nat × Nat)} (S : CallFix p m c cc nL s args Ts own) (hM : vx_Met l y ws rm Pc Qc XC mc ms free) (cw : vx_CSW R s args own index y bytes maxL ret hh ws rm mc ms n) (hp : PreS s H Pc As)
    (hg : g.method = m) (hn : As.length = n) (hsize : g.locals.size = nL) (hstack : g.stack = As.reverse ++ rest) (hW : 2 * g.monitorRoom + (rest.map fun v => v.category).sum ≤ 8) (hdg : decode cc g.pc = .ok (.invokestatic index, 3)) (hf : cells + mc ≤ R.cells ∧ slots + ms ≤ R.slots) :
    vx_Run p l e R s m args below meth c H locs cells slots mc ms g rest (Qc As.toArray) XC free := by
  obtain ⟨⟨hrc, hrs, hfr, hlo, hws, hcw⟩, hcode, hini, hy, hlen, hl, hstt⟩ := cw
  have hK : vx_Back l R p e below s args y 3 8 (PreOf R mc ms Pc) (PostOf Qc mc ms free) (vx_Post XC mc ms free) := vx_backW (hh := hh) (bytes := bytes) (maxL := maxL) (ret := ret) hM hp.1 hrc hrs hfr hlo hws hcw (fun a' U hW => word_at hW (Or.inl (by first | rfl | simp [Cond.onTables, Cond.keeps, Cond.steady])) hini)
  obtain ⟨hx, hb, hml, ho, -⟩ := S
  intro T hT X
  rcases vx_callSX X hx (hh := hh) (bytes := bytes) (maxL := maxL) (ret := ret) ho hl hstt hini hcode hy hK hg (hsize.trans hml.symm) (argsL := As) (rest := rest) (fun sig h => hn.trans (hlen sig h)) hstack hW (by rw [hb]; exact hdg)
    (fun vm₁ hW₁ => ⟨hf.1, hf.2, hp.2 (T.setVm vm₁) hT hW₁⟩) with ⟨v, vm₁, ⟨U', l2, c2, s2⟩, hW₁, X', ⟨g', mk, t, L, e1, e2, hq, h1, hL, h2, h3⟩, st⟩ | ⟨q, vm₁, ⟨U', l2, c2, s2⟩, hW₁, X', ⟨g', mk, t, L, E, ce, e1, e2, hq, hce, hcv, hcl, h1, hL, h2, h3⟩, st⟩
  · dsimp only [Pt.U, Pt.locs, Pt.cells, Pt.slots] at X' e1 e2 h1 h2 h3 st
    subst h1; subst h2; subst h3
    exact Or.inl ⟨v, (T.setVm vm₁).calling g' mk As.toArray, t, U', L, hT, X', hL, e1, e2, hq, st⟩
  · dsimp only [Pt.U, Pt.locs, Pt.cells, Pt.slots] at X' e1 e2 h1 h2 h3 st hcl
    subst h1; subst h2; subst h3
    exact Or.inr ⟨q, (T.setVm vm₁).calling g' mk As.toArray, t, U', L, E, ce, hT, X', hL, e1, e2, hq, hce, hcv, vx_cls hW₁ hcl, st⟩
end
end VXH
theorem vx_ofWH {l : Launch} {y : MethodName} {ws ws' : List Cond} {rm : Room} {Pc : Array Value → State → Prop} {Qc : Array Value → State → Outcome → State → Prop} {XC : String → State → State → Prop} {mc ms : Nat} {free : Addr → Prop} {cc : ByteArray} {maxL : Nat} {ret : Option FieldType} {hh : List (Nat × Nat × Nat × Nat)}
    (hy : plainName y.cls = true) (hw : ws = Cond.codeWith y cc maxL ret hh :: ws')
    (body : ∀ p e s m args below meth c s₁, BodyLoose p l y (headSpec ws rm) cc maxL ret e s m args below meth c s₁ → c.maxLocals = maxL → Pc args s →
      W p l e (headSpec ws rm).room s m args below meth c s.heap [] 0 0 (vx_MQ below Qc XC args s mc ms free) (entryFrame m args maxL)) : vx_Met l y ws rm Pc Qc XC mc ms free := by
  refine MetFree.of_bodyS (code := cc) (maxLocals := maxL) (ret := ret) hy ?_ ?_
  · intro args s m h hn
    obtain ⟨m9, meth, c, hn9, h1, h2, h3, h4, -, h5, h6, -⟩ := Cond.codeWith_spec (atoms_spec (ws := ws) h _ (by rw [hw]; exact List.mem_cons_self))
    cases hn.symm.trans hn9
    exact ⟨meth, c, h1, h2, h3, h4, h5, h6⟩
  · intro p e s m args below meth c s₁ B hml hP _
    have hh0 : s₁.heap = s.heap := by rw [B.state]; rfl
    obtain ⟨t, a1, o, b1, b2, b3⟩ := body p e s m args below meth c s₁ B hml hP s₁ hh0 (Stand.of_body B)
    exact ⟨t, o, a1, b1, b2, b3⟩
/-! ===== END ===== -/
end
section
/-! ===== BEGIN printed: names, fields, word lists, decode rows ===== -/
def RX0 : String := "RuleForge$CriticalPairs"
def TX0 : u_T := fun k => match k with
  | 0 => ("RuleForge$CriticalPairs", "terms", "LRuleForge$Terms;", true)
  | 1 => ("RuleForge$CriticalPairs", "signature", "LRuleForge$Signature;", true)
  | 2 => ("RuleForge$CriticalPairs", "laws", "LRuleForge$Laws;", true)
  | 3 => ("RuleForge$CriticalPairs", "reducer", "LRuleForge$Reducer;", true)
  | 4 => ("RuleForge$CriticalPairs", "count", "I", false)
  | 5 => ("RuleForge$CriticalPairs", "firsts", "[I", true)
  | 6 => ("RuleForge$CriticalPairs", "seconds", "[I", true)
  | 7 => ("RuleForge$CriticalPairs", "places", "[I", true)
  | 8 => ("RuleForge$CriticalPairs", "upTo", "I", false)
  | 9 => ("RuleForge$CriticalPairs", "unifier", "[I", true)
  | 10 => ("RuleForge$CriticalPairs", "one", "I", false)
  | 11 => ("RuleForge$CriticalPairs", "other", "I", false)
  | 12 => ("RuleForge$CriticalPairs", "taken", "I", false)
  | _ => ("RuleForge$CriticalPairs", "difference", "[J", true)
def tyX0 : Nat → FieldType := fun k => match k with
  | 0 => .object "RuleForge$Terms"
  | 1 => .object "RuleForge$Signature"
  | 2 => .object "RuleForge$Laws"
  | 3 => .object "RuleForge$Reducer"
  | 4 => .int
  | 5 => .array .int
  | 6 => .array .int
  | 7 => .array .int
  | 8 => .int
  | 9 => .array .int
  | 10 => .int
  | 11 => .int
  | 12 => .int
  | _ => .array .long
theorem nmX0 : ∀ a, a < 14 → ∀ b, b < 14 → a ≠ b → (TX0 a).2.1 ≠ (TX0 b).2.1 := by decide +kernel
theorem tyX0_ok : ∀ k, k < 14 → parseFieldDescriptor (TX0 k).2.2.1 = some (tyX0 k) := by decide +kernel
abbrev cX0_init : ByteArray := prog_2_method_1_code
def yX0_init : MethodName := ⟨RX0, "<init>", "(LRuleForge$Reducer;)V"⟩
abbrev cX0_bringUpToDate : ByteArray := prog_2_method_2_code
def yX0_bringUpToDate : MethodName := ⟨RX0, "bringUpToDate", "()V"⟩
abbrev cX0_isOpen : ByteArray := prog_2_method_3_code
def yX0_isOpen : MethodName := ⟨RX0, "isOpen", "(I)Z"⟩
abbrev cX0_make : ByteArray := prog_2_method_4_code
def yX0_make : MethodName := ⟨RX0, "make", "(III)Z"⟩
abbrev cX0_unify : ByteArray := prog_2_method_5_code
def yX0_unify : MethodName := ⟨RX0, "unify", "(II)Z"⟩
abbrev cX0_giveOne : ByteArray := prog_2_method_6_code
def yX0_giveOne : MethodName := ⟨RX0, "giveOne", "(II)Z"⟩
abbrev cX0_compare : ByteArray := prog_2_method_7_code
def yX0_compare : MethodName := ⟨RX0, "compare", "(I)I"⟩
abbrev cX0_becomesEquation : ByteArray := prog_2_method_8_code
def yX0_becomesEquation : MethodName := ⟨RX0, "becomesEquation", "()Z"⟩
abbrev cX0_giveNewNumbers : ByteArray := prog_2_method_9_code
def yX0_giveNewNumbers : MethodName := ⟨RX0, "giveNewNumbers", "(I)Z"⟩
abbrev cX0_weigh : ByteArray := prog_2_method_10_code
def yX0_weigh : MethodName := ⟨RX0, "weigh", "(II)V"⟩
abbrev cX0_isAbove : ByteArray := prog_2_method_11_code
def yX0_isAbove : MethodName := ⟨RX0, "isAbove", "(I)Z"⟩
abbrev cX0_addValue : ByteArray := prog_2_method_12_code
def yX0_addValue : MethodName := ⟨RX0, "addValue", "(IJ)V"⟩
def RX1 : String := "RuleForge$Explorer"
def TX1 : u_T := fun k => match k with
  | 0 => ("RuleForge$Explorer", "terms", "LRuleForge$Terms;", true)
  | 1 => ("RuleForge$Explorer", "walker", "LRuleForge$Walker;", true)
  | 2 => ("RuleForge$Explorer", "states", "I", false)
  | 3 => ("RuleForge$Explorer", "cut", "Z", false)
  | 4 => ("RuleForge$Explorer", "from", "[I", true)
  | 5 => ("RuleForge$Explorer", "by", "[I", true)
  | 6 => ("RuleForge$Explorer", "ahead", "[I", true)
  | 7 => ("RuleForge$Explorer", "used", "I", false)
  | _ => ("RuleForge$Explorer", "taken", "I", false)
def tyX1 : Nat → FieldType := fun k => match k with
  | 0 => .object "RuleForge$Terms"
  | 1 => .object "RuleForge$Walker"
  | 2 => .int
  | 3 => .boolean
  | 4 => .array .int
  | 5 => .array .int
  | 6 => .array .int
  | 7 => .int
  | _ => .int
theorem nmX1 : ∀ a, a < 9 → ∀ b, b < 9 → a ≠ b → (TX1 a).2.1 ≠ (TX1 b).2.1 := by decide +kernel
theorem tyX1_ok : ∀ k, k < 9 → parseFieldDescriptor (TX1 k).2.2.1 = some (tyX1 k) := by decide +kernel
abbrev cX1_init : ByteArray := prog_3_method_1_code
def yX1_init : MethodName := ⟨RX1, "<init>", "(LRuleForge$Walker;)V"⟩
abbrev cX1_explore : ByteArray := prog_3_method_2_code
def yX1_explore : MethodName := ⟨RX1, "explore", "(I)I"⟩
abbrev cX1_stateAt : ByteArray := prog_3_method_3_code
def yX1_stateAt : MethodName := ⟨RX1, "stateAt", "(I)I"⟩
abbrev cX1_enter : ByteArray := prog_3_method_4_code
def yX1_enter : MethodName := ⟨RX1, "enter", "(III)V"⟩
abbrev cX1_expand : ByteArray := prog_3_method_5_code
def yX1_expand : MethodName := ⟨RX1, "expand", "(I)Z"⟩
abbrev cX1_reach : ByteArray := prog_3_method_6_code
def yX1_reach : MethodName := ⟨RX1, "reach", "(III)Z"⟩
abbrev cX1_statesWith : ByteArray := prog_3_method_7_code
def yX1_statesWith : MethodName := ⟨RX1, "statesWith", "(I)I"⟩
abbrev cX1_surelyComeTo : ByteArray := prog_3_method_8_code
def yX1_surelyComeTo : MethodName := ⟨RX1, "surelyComeTo", "(I)I"⟩
def RX2 : String := "RuleForge$Laws"
def TX2 : u_T := fun k => match k with
  | 0 => ("RuleForge$Laws", "terms", "LRuleForge$Terms;", true)
  | 1 => ("RuleForge$Laws", "signature", "LRuleForge$Signature;", true)
  | 2 => ("RuleForge$Laws", "equations", "I", false)
  | 3 => ("RuleForge$Laws", "rules", "I", false)
  | _ => ("RuleForge$Laws", "hasCondition", "[Z", true)
def tyX2 : Nat → FieldType := fun k => match k with
  | 0 => .object "RuleForge$Terms"
  | 1 => .object "RuleForge$Signature"
  | 2 => .int
  | 3 => .int
  | _ => .array .boolean
theorem nmX2 : ∀ a, a < 5 → ∀ b, b < 5 → a ≠ b → (TX2 a).2.1 ≠ (TX2 b).2.1 := by decide +kernel
theorem tyX2_ok : ∀ k, k < 5 → parseFieldDescriptor (TX2 k).2.2.1 = some (tyX2 k) := by decide +kernel
abbrev cX2_init : ByteArray := prog_4_method_1_code
def yX2_init : MethodName := ⟨RX2, "<init>", "(LRuleForge$Terms;)V"⟩
abbrev cX2_areTold : ByteArray := prog_4_method_2_code
def yX2_areTold : MethodName := ⟨RX2, "areTold", "()Z"⟩
abbrev cX2_partAt : ByteArray := prog_4_method_3_code
def yX2_partAt : MethodName := ⟨RX2, "partAt", "(II)I"⟩
abbrev cX2_add : ByteArray := prog_4_method_4_code
def yX2_add : MethodName := ⟨RX2, "add", "(ZZ)I"⟩
abbrev cX2_canFit : ByteArray := prog_4_method_5_code
def yX2_canFit : MethodName := ⟨RX2, "canFit", "(II)Z"⟩
abbrev cX2_argumentFits : ByteArray := prog_4_method_6_code
def yX2_argumentFits : MethodName := ⟨RX2, "argumentFits", "(II)Z"⟩
def RX3 : String := "RuleForge$Matcher"
def TX3 : u_T := fun k => match k with
  | 0 => ("RuleForge$Matcher", "terms", "LRuleForge$Terms;", true)
  | 1 => ("RuleForge$Matcher", "signature", "LRuleForge$Signature;", true)
  | 2 => ("RuleForge$Matcher", "pieces", "LRuleForge$Pieces;", true)
  | 3 => ("RuleForge$Matcher", "sorts", "[I", true)
  | 4 => ("RuleForge$Matcher", "bound", "[I", true)
  | 5 => ("RuleForge$Matcher", "variables", "I", false)
  | 6 => ("RuleForge$Matcher", "dutyAt", "[I", true)
  | 7 => ("RuleForge$Matcher", "dutyPiece", "[I", true)
  | 8 => ("RuleForge$Matcher", "dutyOperator", "[I", true)
  | 9 => ("RuleForge$Matcher", "dutyLeft", "[I", true)
  | 10 => ("RuleForge$Matcher", "dutyMask", "[I", true)
  | 11 => ("RuleForge$Matcher", "dutyNext", "[I", true)
  | 12 => ("RuleForge$Matcher", "duties", "I", false)
  | 13 => ("RuleForge$Matcher", "listAt", "I", false)
  | 14 => ("RuleForge$Matcher", "rankedAt", "I", false)
  | _ => ("RuleForge$Matcher", "found", "I", false)
def tyX3 : Nat → FieldType := fun k => match k with
  | 0 => .object "RuleForge$Terms"
  | 1 => .object "RuleForge$Signature"
  | 2 => .object "RuleForge$Pieces"
  | 3 => .array .int
  | 4 => .array .int
  | 5 => .int
  | 6 => .array .int
  | 7 => .array .int
  | 8 => .array .int
  | 9 => .array .int
  | 10 => .array .int
  | 11 => .array .int
  | 12 => .int
  | 13 => .int
  | 14 => .int
  | _ => .int
theorem nmX3 : ∀ a, a < 16 → ∀ b, b < 16 → a ≠ b → (TX3 a).2.1 ≠ (TX3 b).2.1 := by decide +kernel
theorem tyX3_ok : ∀ k, k < 16 → parseFieldDescriptor (TX3 k).2.2.1 = some (tyX3 k) := by decide +kernel
abbrev cX3_init : ByteArray := prog_5_method_1_code
def yX3_init : MethodName := ⟨RX3, "<init>", "(LRuleForge$Terms;)V"⟩
abbrev cX3_list : ByteArray := prog_5_method_2_code
def yX3_list : MethodName := ⟨RX3, "list", "(II)I"⟩
abbrev cX3_countByTrying : ByteArray := prog_5_method_3_code
def yX3_countByTrying : MethodName := ⟨RX3, "countByTrying", "(II)I"⟩
abbrev cX3_giveWay : ByteArray := prog_5_method_4_code
def yX3_giveWay : MethodName := ⟨RX3, "giveWay", "(II)Z"⟩
abbrev cX3_giveMatch : ByteArray := prog_5_method_5_code
def yX3_giveMatch : MethodName := ⟨RX3, "giveMatch", "(III)V"⟩
abbrev cX3_addDuty : ByteArray := prog_5_method_6_code
def yX3_addDuty : MethodName := ⟨RX3, "addDuty", "(III)I"⟩
abbrev cX3_solve : ByteArray := prog_5_method_7_code
def yX3_solve : MethodName := ⟨RX3, "solve", "(I)V"⟩
abbrev cX3_bind : ByteArray := prog_5_method_8_code
def yX3_bind : MethodName := ⟨RX3, "bind", "(I)V"⟩
abbrev cX3_meet : ByteArray := prog_5_method_9_code
def yX3_meet : MethodName := ⟨RX3, "meet", "(I)V"⟩
abbrev cX3_meetArguments : ByteArray := prog_5_method_10_code
def yX3_meetArguments : MethodName := ⟨RX3, "meetArguments", "(IIZ)V"⟩
abbrev cX3_share : ByteArray := prog_5_method_11_code
def yX3_share : MethodName := ⟨RX3, "share", "(I)V"⟩
abbrev cX3_noteMatch : ByteArray := prog_5_method_12_code
def yX3_noteMatch : MethodName := ⟨RX3, "noteMatch", "()V"⟩
def RX4 : String := "RuleForge$Pieces"
def TX4 : u_T := fun k => match k with
  | 0 => ("RuleForge$Pieces", "terms", "LRuleForge$Terms;", true)
  | 1 => ("RuleForge$Pieces", "signature", "LRuleForge$Signature;", true)
  | 2 => ("RuleForge$Pieces", "count", "I", false)
  | 3 => ("RuleForge$Pieces", "where", "[I", true)
  | 4 => ("RuleForge$Pieces", "sizes", "[I", true)
  | 5 => ("RuleForge$Pieces", "heads", "[I", true)
  | 6 => ("RuleForge$Pieces", "nodes", "[I", true)
  | 7 => ("RuleForge$Pieces", "masks", "[I", true)
  | 8 => ("RuleForge$Pieces", "same", "[I", true)
  | 9 => ("RuleForge$Pieces", "different", "I", false)
  | 10 => ("RuleForge$Pieces", "sorted", "[I", true)
  | 11 => ("RuleForge$Pieces", "rank", "[I", true)
  | 12 => ("RuleForge$Pieces", "child", "[I", true)
  | 13 => ("RuleForge$Pieces", "part", "[I", true)
  | 14 => ("RuleForge$Pieces", "unit", "[I", true)
  | _ => ("RuleForge$Pieces", "rankedAt", "I", false)
def tyX4 : Nat → FieldType := fun k => match k with
  | 0 => .object "RuleForge$Terms"
  | 1 => .object "RuleForge$Signature"
  | 2 => .int
  | 3 => .array .int
  | 4 => .array .int
  | 5 => .array .int
  | 6 => .array .int
  | 7 => .array .int
  | 8 => .array .int
  | 9 => .int
  | 10 => .array .int
  | 11 => .array .int
  | 12 => .array .int
  | 13 => .array .int
  | 14 => .array .int
  | _ => .int
theorem nmX4 : ∀ a, a < 16 → ∀ b, b < 16 → a ≠ b → (TX4 a).2.1 ≠ (TX4 b).2.1 := by decide +kernel
theorem tyX4_ok : ∀ k, k < 16 → parseFieldDescriptor (TX4 k).2.2.1 = some (tyX4 k) := by decide +kernel
abbrev cX4_init : ByteArray := prog_6_method_1_code
def yX4_init : MethodName := ⟨RX4, "<init>", "(LRuleForge$Terms;)V"⟩
abbrev cX4_add : ByteArray := prog_6_method_2_code
def yX4_add : MethodName := ⟨RX4, "add", "(IIII)I"⟩
abbrev cX4_collect : ByteArray := prog_6_method_3_code
def yX4_collect : MethodName := ⟨RX4, "collect", "(I)V"⟩
abbrev cX4_addParts : ByteArray := prog_6_method_4_code
def yX4_addParts : MethodName := ⟨RX4, "addParts", "()V"⟩
abbrev cX4_writePart : ByteArray := prog_6_method_5_code
def yX4_writePart : MethodName := ⟨RX4, "writePart", "(II)V"⟩
abbrev cX4_addIdentities : ByteArray := prog_6_method_6_code
def yX4_addIdentities : MethodName := ⟨RX4, "addIdentities", "()V"⟩
abbrev cX4_rankAll : ByteArray := prog_6_method_7_code
def yX4_rankAll : MethodName := ⟨RX4, "rankAll", "()V"⟩
abbrev cX4_argument : ByteArray := prog_6_method_8_code
def yX4_argument : MethodName := ⟨RX4, "argument", "(II)I"⟩
abbrev cX4_maskFor : ByteArray := prog_6_method_9_code
def yX4_maskFor : MethodName := ⟨RX4, "maskFor", "(II)I"⟩
abbrev cX4_passesOver : ByteArray := prog_6_method_10_code
def yX4_passesOver : MethodName := ⟨RX4, "passesOver", "(III)Z"⟩
abbrev cX4_partFor : ByteArray := prog_6_method_11_code
def yX4_partFor : MethodName := ⟨RX4, "partFor", "(III)I"⟩
def RX5 : String := "RuleForge$Plans"
def TX5 : u_T := fun k => match k with
  | 0 => ("RuleForge$Plans", "terms", "LRuleForge$Terms;", true)
  | 1 => ("RuleForge$Plans", "walker", "LRuleForge$Walker;", true)
  | 2 => ("RuleForge$Plans", "count", "I", false)
  | 3 => ("RuleForge$Plans", "parts", "I", false)
  | 4 => ("RuleForge$Plans", "kinds", "[I", true)
  | 5 => ("RuleForge$Plans", "rules", "[I", true)
  | 6 => ("RuleForge$Plans", "sizes", "[I", true)
  | 7 => ("RuleForge$Plans", "uses", "I", false)
  | _ => ("RuleForge$Plans", "taken", "I", false)
def tyX5 : Nat → FieldType := fun k => match k with
  | 0 => .object "RuleForge$Terms"
  | 1 => .object "RuleForge$Walker"
  | 2 => .int
  | 3 => .int
  | 4 => .array .int
  | 5 => .array .int
  | 6 => .array .int
  | 7 => .int
  | _ => .int
theorem nmX5 : ∀ a, a < 9 → ∀ b, b < 9 → a ≠ b → (TX5 a).2.1 ≠ (TX5 b).2.1 := by decide +kernel
theorem tyX5_ok : ∀ k, k < 9 → parseFieldDescriptor (TX5 k).2.2.1 = some (tyX5 k) := by decide +kernel
abbrev cX5_init : ByteArray := prog_7_method_1_code
def yX5_init : MethodName := ⟨RX5, "<init>", "(LRuleForge$Walker;)V"⟩
abbrev cX5_addOne : ByteArray := prog_7_method_2_code
def yX5_addOne : MethodName := ⟨RX5, "addOne", "(II)I"⟩
abbrev cX5_addPart : ByteArray := prog_7_method_3_code
def yX5_addPart : MethodName := ⟨RX5, "addPart", "(II)V"⟩
abbrev cX5_testAt : ByteArray := prog_7_method_4_code
def yX5_testAt : MethodName := ⟨RX5, "testAt", "(I)I"⟩
abbrev cX5_nextTestAt : ByteArray := prog_7_method_5_code
def yX5_nextTestAt : MethodName := ⟨RX5, "nextTestAt", "()I"⟩
abbrev cX5_partsOfLast : ByteArray := prog_7_method_6_code
def yX5_partsOfLast : MethodName := ⟨RX5, "partsOfLast", "()I"⟩
abbrev cX5_partsOfLastTwo : ByteArray := prog_7_method_7_code
def yX5_partsOfLastTwo : MethodName := ⟨RX5, "partsOfLastTwo", "()I"⟩
abbrev cX5_joinLastTwo : ByteArray := prog_7_method_8_code
def yX5_joinLastTwo : MethodName := ⟨RX5, "joinLastTwo", "(I)I"⟩
abbrev cX5_repeatLast : ByteArray := prog_7_method_9_code
def yX5_repeatLast : MethodName := ⟨RX5, "repeatLast", "()I"⟩
abbrev cX5_takeLast : ByteArray := prog_7_method_10_code
def yX5_takeLast : MethodName := ⟨RX5, "takeLast", "()I"⟩
abbrev cX5_perform : ByteArray := prog_7_method_11_code
def yX5_perform : MethodName := ⟨RX5, "perform", "(II)I"⟩
abbrev cX5_performTwo : ByteArray := prog_7_method_12_code
def yX5_performTwo : MethodName := ⟨RX5, "performTwo", "(II)I"⟩
abbrev cX5_performAgain : ByteArray := prog_7_method_13_code
def yX5_performAgain : MethodName := ⟨RX5, "performAgain", "(II)I"⟩
abbrev cX5_passes : ByteArray := prog_7_method_14_code
def yX5_passes : MethodName := ⟨RX5, "passes", "(II)Z"⟩
abbrev cX5_useOnce : ByteArray := prog_7_method_15_code
def yX5_useOnce : MethodName := ⟨RX5, "useOnce", "(II)I"⟩
def RX6 : String := "RuleForge$Reducer"
def TX6 : u_T := fun k => match k with
  | 0 => ("RuleForge$Reducer", "terms", "LRuleForge$Terms;", true)
  | 1 => ("RuleForge$Reducer", "laws", "LRuleForge$Laws;", true)
  | 2 => ("RuleForge$Reducer", "matcher", "LRuleForge$Matcher;", true)
  | 3 => ("RuleForge$Reducer", "steps", "I", false)
  | 4 => ("RuleForge$Reducer", "open", "I", false)
  | 5 => ("RuleForge$Reducer", "openAt", "[I", true)
  | 6 => ("RuleForge$Reducer", "marks", "[I", true)
  | 7 => ("RuleForge$Reducer", "nexts", "[I", true)
  | 8 => ("RuleForge$Reducer", "lefts", "[I", true)
  | _ => ("RuleForge$Reducer", "bases", "[I", true)
def tyX6 : Nat → FieldType := fun k => match k with
  | 0 => .object "RuleForge$Terms"
  | 1 => .object "RuleForge$Laws"
  | 2 => .object "RuleForge$Matcher"
  | 3 => .int
  | 4 => .int
  | 5 => .array .int
  | 6 => .array .int
  | 7 => .array .int
  | 8 => .array .int
  | _ => .array .int
theorem nmX6 : ∀ a, a < 10 → ∀ b, b < 10 → a ≠ b → (TX6 a).2.1 ≠ (TX6 b).2.1 := by decide +kernel
theorem tyX6_ok : ∀ k, k < 10 → parseFieldDescriptor (TX6 k).2.2.1 = some (tyX6 k) := by decide +kernel
abbrev cX6_init : ByteArray := prog_8_method_1_code
def yX6_init : MethodName := ⟨RX6, "<init>", "(LRuleForge$Laws;LRuleForge$Matcher;)V"⟩
abbrev cX6_normalForm : ByteArray := prog_8_method_2_code
def yX6_normalForm : MethodName := ⟨RX6, "normalForm", "(II)I"⟩
abbrev cX6_begin : ByteArray := prog_8_method_3_code
def yX6_begin : MethodName := ⟨RX6, "begin", "(I)I"⟩
abbrev cX6_look : ByteArray := prog_8_method_4_code
def yX6_look : MethodName := ⟨RX6, "look", "(II)V"⟩
abbrev cX6_finish : ByteArray := prog_8_method_5_code
def yX6_finish : MethodName := ⟨RX6, "finish", "(III)I"⟩
abbrev cX6_rewritten : ByteArray := prog_8_method_6_code
def yX6_rewritten : MethodName := ⟨RX6, "rewritten", "(II)I"⟩
abbrev cX6_decide : ByteArray := prog_8_method_7_code
def yX6_decide : MethodName := ⟨RX6, "decide", "(IIII)I"⟩
def RX7 : String := "RuleForge$Signature"
def TX7 : u_T := fun k => match k with
  | 0 => ("RuleForge$Signature", "sorts", "I", false)
  | 1 => ("RuleForge$Signature", "operators", "I", false)
  | 2 => ("RuleForge$Signature", "reached", "[I", true)
  | 3 => ("RuleForge$Signature", "variableSort", "[I", true)
  | 4 => ("RuleForge$Signature", "arity", "[I", true)
  | 5 => ("RuleForge$Signature", "axioms", "[I", true)
  | 6 => ("RuleForge$Signature", "identity", "[I", true)
  | 7 => ("RuleForge$Signature", "declarations", "[I", true)
  | 8 => ("RuleForge$Signature", "declared", "[I", true)
  | 9 => ("RuleForge$Signature", "weights", "[I", true)
  | _ => ("RuleForge$Signature", "views", "[I", true)
def tyX7 : Nat → FieldType := fun k => match k with
  | 0 => .int
  | 1 => .int
  | 2 => .array .int
  | 3 => .array .int
  | 4 => .array .int
  | 5 => .array .int
  | 6 => .array .int
  | 7 => .array .int
  | 8 => .array .int
  | 9 => .array .int
  | _ => .array .int
theorem nmX7 : ∀ a, a < 11 → ∀ b, b < 11 → a ≠ b → (TX7 a).2.1 ≠ (TX7 b).2.1 := by decide +kernel
theorem tyX7_ok : ∀ k, k < 11 → parseFieldDescriptor (TX7 k).2.2.1 = some (tyX7 k) := by decide +kernel
abbrev cX7_init : ByteArray := prog_9_method_1_code
def yX7_init : MethodName := ⟨RX7, "<init>", "()V"⟩
abbrev cX7_hasSort : ByteArray := prog_9_method_2_code
def yX7_hasSort : MethodName := ⟨RX7, "hasSort", "(I)Z"⟩
abbrev cX7_hasOperator : ByteArray := prog_9_method_3_code
def yX7_hasOperator : MethodName := ⟨RX7, "hasOperator", "(I)Z"⟩
abbrev cX7_reaches : ByteArray := prog_9_method_4_code
def yX7_reaches : MethodName := ⟨RX7, "reaches", "(II)Z"⟩
abbrev cX7_putBelow : ByteArray := prog_9_method_5_code
def yX7_putBelow : MethodName := ⟨RX7, "putBelow", "(II)V"⟩
abbrev cX7_addOperator : ByteArray := prog_9_method_6_code
def yX7_addOperator : MethodName := ⟨RX7, "addOperator", "(III)I"⟩
abbrev cX7_addDeclaration : ByteArray := prog_9_method_7_code
def yX7_addDeclaration : MethodName := ⟨RX7, "addDeclaration", "(IIIII)I"⟩
abbrev cX7_resultOf : ByteArray := prog_9_method_8_code
def yX7_resultOf : MethodName := ⟨RX7, "resultOf", "(IIII)I"⟩
def RX8 : String := "RuleForge$Terms"
def TX8 : u_T := fun k => match k with
  | 0 => ("RuleForge$Terms", "signature", "LRuleForge$Signature;", true)
  | 1 => ("RuleForge$Terms", "cells", "[I", true)
  | 2 => ("RuleForge$Terms", "top", "I", false)
  | 3 => ("RuleForge$Terms", "waiting", "[I", true)
  | 4 => ("RuleForge$Terms", "awaited", "I", false)
  | 5 => ("RuleForge$Terms", "spread", "[I", true)
  | 6 => ("RuleForge$Terms", "spreadSize", "[I", true)
  | 7 => ("RuleForge$Terms", "given", "[I", true)
  | 8 => ("RuleForge$Terms", "hole", "I", false)
  | 9 => ("RuleForge$Terms", "filling", "I", false)
  | _ => ("RuleForge$Terms", "isViewed", "Z", false)
def tyX8 : Nat → FieldType := fun k => match k with
  | 0 => .object "RuleForge$Signature"
  | 1 => .array .int
  | 2 => .int
  | 3 => .array .int
  | 4 => .int
  | 5 => .array .int
  | 6 => .array .int
  | 7 => .array .int
  | 8 => .int
  | 9 => .int
  | _ => .boolean
theorem nmX8 : ∀ a, a < 11 → ∀ b, b < 11 → a ≠ b → (TX8 a).2.1 ≠ (TX8 b).2.1 := by decide +kernel
theorem tyX8_ok : ∀ k, k < 11 → parseFieldDescriptor (TX8 k).2.2.1 = some (tyX8 k) := by decide +kernel
abbrev cX8_init : ByteArray := prog_10_method_1_code
def yX8_init : MethodName := ⟨RX8, "<init>", "(LRuleForge$Signature;)V"⟩
abbrev cX8_startAnew : ByteArray := prog_10_method_2_code
def yX8_startAnew : MethodName := ⟨RX8, "startAnew", "()V"⟩
abbrev cX8_giveNothing : ByteArray := prog_10_method_3_code
def yX8_giveNothing : MethodName := ⟨RX8, "giveNothing", "()V"⟩
abbrev cX8_await : ByteArray := prog_10_method_4_code
def yX8_await : MethodName := ⟨RX8, "await", "(I)V"⟩
abbrev cX8_end : ByteArray := prog_10_method_5_code
def yX8_end : MethodName := ⟨RX8, "end", "(I)I"⟩
abbrev cX8_order : ByteArray := prog_10_method_6_code
def yX8_order : MethodName := ⟨RX8, "order", "(II)I"⟩
abbrev cX8_store : ByteArray := prog_10_method_7_code
def yX8_store : MethodName := ⟨RX8, "store", "(II)V"⟩
abbrev cX8_settle : ByteArray := prog_10_method_8_code
def yX8_settle : MethodName := ⟨RX8, "settle", "(II)I"⟩
abbrev cX8_variablesAt : ByteArray := prog_10_method_9_code
def yX8_variablesAt : MethodName := ⟨RX8, "variablesAt", "(I)I"⟩
abbrev cX8_canBePattern : ByteArray := prog_10_method_10_code
def yX8_canBePattern : MethodName := ⟨RX8, "canBePattern", "(I)Z"⟩
abbrev cX8_canBeLeft : ByteArray := prog_10_method_11_code
def yX8_canBeLeft : MethodName := ⟨RX8, "canBeLeft", "(I)Z"⟩
abbrev cX8_sortAt : ByteArray := prog_10_method_12_code
def yX8_sortAt : MethodName := ⟨RX8, "sortAt", "(I)I"⟩
abbrev cX8_putOn : ByteArray := prog_10_method_13_code
def yX8_putOn : MethodName := ⟨RX8, "putOn", "(II)I"⟩
abbrev cX8_write : ByteArray := prog_10_method_14_code
def yX8_write : MethodName := ⟨RX8, "write", "(II)I"⟩
abbrev cX8_rebuild : ByteArray := prog_10_method_15_code
def yX8_rebuild : MethodName := ⟨RX8, "rebuild", "(I)I"⟩
def RX9 : String := "RuleForge$Walker"
def TX9 : u_T := fun k => match k with
  | 0 => ("RuleForge$Walker", "terms", "LRuleForge$Terms;", true)
  | 1 => ("RuleForge$Walker", "reducer", "LRuleForge$Reducer;", true)
  | 2 => ("RuleForge$Walker", "laws", "LRuleForge$Laws;", true)
  | 3 => ("RuleForge$Walker", "matcher", "LRuleForge$Matcher;", true)
  | 4 => ("RuleForge$Walker", "term", "I", false)
  | 5 => ("RuleForge$Walker", "end", "I", false)
  | 6 => ("RuleForge$Walker", "law", "I", false)
  | 7 => ("RuleForge$Walker", "place", "I", false)
  | 8 => ("RuleForge$Walker", "mark", "I", false)
  | 9 => ("RuleForge$Walker", "list", "I", false)
  | 10 => ("RuleForge$Walker", "ranks", "I", false)
  | 11 => ("RuleForge$Walker", "count", "I", false)
  | 12 => ("RuleForge$Walker", "next", "I", false)
  | 13 => ("RuleForge$Walker", "listEnd", "I", false)
  | _ => ("RuleForge$Walker", "taken", "I", false)
def tyX9 : Nat → FieldType := fun k => match k with
  | 0 => .object "RuleForge$Terms"
  | 1 => .object "RuleForge$Reducer"
  | 2 => .object "RuleForge$Laws"
  | 3 => .object "RuleForge$Matcher"
  | 4 => .int
  | 5 => .int
  | 6 => .int
  | 7 => .int
  | 8 => .int
  | 9 => .int
  | 10 => .int
  | 11 => .int
  | 12 => .int
  | 13 => .int
  | _ => .int
theorem nmX9 : ∀ a, a < 15 → ∀ b, b < 15 → a ≠ b → (TX9 a).2.1 ≠ (TX9 b).2.1 := by decide +kernel
theorem tyX9_ok : ∀ k, k < 15 → parseFieldDescriptor (TX9 k).2.2.1 = some (tyX9 k) := by decide +kernel
abbrev cX9_init : ByteArray := prog_11_method_1_code
def yX9_init : MethodName := ⟨RX9, "<init>", "(LRuleForge$Reducer;)V"⟩
abbrev cX9_begin : ByteArray := prog_11_method_2_code
def yX9_begin : MethodName := ⟨RX9, "begin", "(II)V"⟩
abbrev cX9_advance : ByteArray := prog_11_method_3_code
def yX9_advance : MethodName := ⟨RX9, "advance", "()Z"⟩
abbrev cX9_outcome : ByteArray := prog_11_method_4_code
def yX9_outcome : MethodName := ⟨RX9, "outcome", "()I"⟩
def RX10 : String := "RuleForge"
def TX10 : u_T := fun k => match k with
  | 0 => ("RuleForge", "signature", "LRuleForge$Signature;", true)
  | 1 => ("RuleForge", "terms", "LRuleForge$Terms;", true)
  | 2 => ("RuleForge", "laws", "LRuleForge$Laws;", true)
  | 3 => ("RuleForge", "matcher", "LRuleForge$Matcher;", true)
  | 4 => ("RuleForge", "reducer", "LRuleForge$Reducer;", true)
  | 5 => ("RuleForge", "explorer", "LRuleForge$Explorer;", true)
  | 6 => ("RuleForge", "plans", "LRuleForge$Plans;", true)
  | 7 => ("RuleForge", "criticalPairs", "LRuleForge$CriticalPairs;", true)
  | 8 => ("RuleForge", "stacked", "I", false)
  | _ => ("RuleForge", "kept", "I", false)
def tyX10 : Nat → FieldType := fun k => match k with
  | 0 => .object "RuleForge$Signature"
  | 1 => .object "RuleForge$Terms"
  | 2 => .object "RuleForge$Laws"
  | 3 => .object "RuleForge$Matcher"
  | 4 => .object "RuleForge$Reducer"
  | 5 => .object "RuleForge$Explorer"
  | 6 => .object "RuleForge$Plans"
  | 7 => .object "RuleForge$CriticalPairs"
  | 8 => .int
  | _ => .int
theorem nmX10 : ∀ a, a < 10 → ∀ b, b < 10 → a ≠ b → (TX10 a).2.1 ≠ (TX10 b).2.1 := by decide +kernel
theorem tyX10_ok : ∀ k, k < 10 → parseFieldDescriptor (TX10 k).2.2.1 = some (tyX10 k) := by decide +kernel
abbrev cX10_init : ByteArray := prog_1_method_1_code
def yX10_init : MethodName := ⟨RX10, "<init>", "()V"⟩
abbrev cX10_sort : ByteArray := prog_1_method_2_code
def yX10_sort : MethodName := ⟨RX10, "sort", "()I"⟩
abbrev cX10_below : ByteArray := prog_1_method_3_code
def yX10_below : MethodName := ⟨RX10, "below", "(II)Z"⟩
abbrev cX10_variable : ByteArray := prog_1_method_4_code
def yX10_variable : MethodName := ⟨RX10, "variable", "(II)I"⟩
abbrev cX10_operator : ByteArray := prog_1_method_5_code
def yX10_operator : MethodName := ⟨RX10, "operator", "(III)I"⟩
abbrev cX10_declare : ByteArray := prog_1_method_6_code
def yX10_declare : MethodName := ⟨RX10, "declare", "(IIIII)I"⟩
abbrev cX10_term : ByteArray := prog_1_method_7_code
def yX10_term : MethodName := ⟨RX10, "term", "(I)I"⟩
abbrev cX10_apply : ByteArray := prog_1_method_8_code
def yX10_apply : MethodName := ⟨RX10, "apply", "(I)I"⟩
abbrev cX10_keep : ByteArray := prog_1_method_9_code
def yX10_keep : MethodName := ⟨RX10, "keep", "(I)I"⟩
abbrev cX10_load : ByteArray := prog_1_method_10_code
def yX10_load : MethodName := ⟨RX10, "load", "(I)I"⟩
abbrev cX10_drop : ByteArray := prog_1_method_11_code
def yX10_drop : MethodName := ⟨RX10, "drop", "()I"⟩
abbrev cX10_sortOf : ByteArray := prog_1_method_12_code
def yX10_sortOf : MethodName := ⟨RX10, "sortOf", "()I"⟩
abbrev cX10_code : ByteArray := prog_1_method_13_code
def yX10_code : MethodName := ⟨RX10, "code", "(I)I"⟩
abbrev cX10_matches : ByteArray := prog_1_method_14_code
def yX10_matches : MethodName := ⟨RX10, "matches", "()I"⟩
abbrev cX10_matchesAnew : ByteArray := prog_1_method_15_code
def yX10_matchesAnew : MethodName := ⟨RX10, "matchesAnew", "()I"⟩
abbrev cX10_match : ByteArray := prog_1_method_16_code
def yX10_match : MethodName := ⟨RX10, "match", "(II)I"⟩
abbrev cX10_tell : ByteArray := prog_1_method_17_code
def yX10_tell : MethodName := ⟨RX10, "tell", "(ZZ)I"⟩
abbrev cX10_equations : ByteArray := prog_1_method_18_code
def yX10_equations : MethodName := ⟨RX10, "equations", "()I"⟩
abbrev cX10_reduce : ByteArray := prog_1_method_19_code
def yX10_reduce : MethodName := ⟨RX10, "reduce", "()I"⟩
abbrev cX10_fitting : ByteArray := prog_1_method_20_code
def yX10_fitting : MethodName := ⟨RX10, "fitting", "()I"⟩
abbrev cX10_matching : ByteArray := prog_1_method_21_code
def yX10_matching : MethodName := ⟨RX10, "matching", "()I"⟩
abbrev cX10_search : ByteArray := prog_1_method_22_code
def yX10_search : MethodName := ⟨RX10, "search", "()I"⟩
abbrev cX10_isCut : ByteArray := prog_1_method_23_code
def yX10_isCut : MethodName := ⟨RX10, "isCut", "()Z"⟩
abbrev cX10_state : ByteArray := prog_1_method_24_code
def yX10_state : MethodName := ⟨RX10, "state", "(I)I"⟩
abbrev cX10_cameBy : ByteArray := prog_1_method_25_code
def yX10_cameBy : MethodName := ⟨RX10, "cameBy", "(I)I"⟩
abbrev cX10_finds : ByteArray := prog_1_method_26_code
def yX10_finds : MethodName := ⟨RX10, "finds", "(I)I"⟩
abbrev cX10_holds : ByteArray := prog_1_method_27_code
def yX10_holds : MethodName := ⟨RX10, "holds", "(I)Z"⟩
abbrev cX10_use : ByteArray := prog_1_method_28_code
def yX10_use : MethodName := ⟨RX10, "use", "(I)I"⟩
abbrev cX10_idle : ByteArray := prog_1_method_29_code
def yX10_idle : MethodName := ⟨RX10, "idle", "()I"⟩
abbrev cX10_test : ByteArray := prog_1_method_30_code
def yX10_test : MethodName := ⟨RX10, "test", "()I"⟩
abbrev cX10_both : ByteArray := prog_1_method_31_code
def yX10_both : MethodName := ⟨RX10, "both", "(Z)I"⟩
abbrev cX10_many : ByteArray := prog_1_method_32_code
def yX10_many : MethodName := ⟨RX10, "many", "()I"⟩
abbrev cX10_run : ByteArray := prog_1_method_33_code
def yX10_run : MethodName := ⟨RX10, "run", "()I"⟩
abbrev cX10_pairs : ByteArray := prog_1_method_34_code
def yX10_pairs : MethodName := ⟨RX10, "pairs", "()I"⟩
abbrev cX10_joins : ByteArray := prog_1_method_35_code
def yX10_joins : MethodName := ⟨RX10, "joins", "(I)I"⟩
abbrev cX10_weight : ByteArray := prog_1_method_36_code
def yX10_weight : MethodName := ⟨RX10, "weight", "(III)I"⟩
abbrev cX10_descends : ByteArray := prog_1_method_37_code
def yX10_descends : MethodName := ⟨RX10, "descends", "(I)Z"⟩
abbrev cX10_complete : ByteArray := prog_1_method_38_code
def yX10_complete : MethodName := ⟨RX10, "complete", "()I"⟩
abbrev cX10_view : ByteArray := prog_1_method_39_code
def yX10_view : MethodName := ⟨RX10, "view", "(II)I"⟩
abbrev cX10_copy : ByteArray := prog_1_method_40_code
def yX10_copy : MethodName := ⟨RX10, "copy", "(I)I"⟩
abbrev cX10_copyParts : ByteArray := prog_1_method_41_code
def yX10_copyParts : MethodName := ⟨RX10, "copyParts", "(II)Z"⟩
abbrev cX10_push : ByteArray := prog_1_method_42_code
def yX10_push : MethodName := ⟨RX10, "push", "(I)I"⟩
abbrev cX10_topAt : ByteArray := prog_1_method_43_code
def yX10_topAt : MethodName := ⟨RX10, "topAt", "()I"⟩
abbrev cX10_hasPattern : ByteArray := prog_1_method_44_code
def yX10_hasPattern : MethodName := ⟨RX10, "hasPattern", "()Z"⟩
abbrev cX10_hasPatternAndSubject : ByteArray := prog_1_method_45_code
def yX10_hasPatternAndSubject : MethodName := ⟨RX10, "hasPatternAndSubject", "()Z"⟩
abbrev cX10_stackAt : ByteArray := prog_1_method_46_code
def yX10_stackAt : MethodName := ⟨RX10, "stackAt", "(I)I"⟩
abbrev cX10_isVariableNumber : ByteArray := prog_1_method_47_code
def yX10_isVariableNumber : MethodName := ⟨RX10, "isVariableNumber", "(I)Z"⟩
abbrev cX10_operatorIn : ByteArray := prog_1_method_48_code
def yX10_operatorIn : MethodName := ⟨RX10, "operatorIn", "(I)I"⟩
def RX11 : String := "RuleForgeModel$Both"
def TX11 : u_T := fun k => match k with
  | 0 => ("RuleForgeModel$Both", "one", "LRuleForgeModel$Term;", true)
  | _ => ("RuleForgeModel$Both", "other", "LRuleForgeModel$Term;", true)
def tyX11 : Nat → FieldType := fun k => match k with
  | 0 => .object "RuleForgeModel$Term"
  | _ => .object "RuleForgeModel$Term"
theorem nmX11 : ∀ a, a < 2 → ∀ b, b < 2 → a ≠ b → (TX11 a).2.1 ≠ (TX11 b).2.1 := by decide +kernel
theorem tyX11_ok : ∀ k, k < 2 → parseFieldDescriptor (TX11 k).2.2.1 = some (tyX11 k) := by decide +kernel
abbrev cX11_init : ByteArray := prog_14_method_1_code
def yX11_init : MethodName := ⟨RX11, "<init>", "(LRuleForgeModel$Term;LRuleForgeModel$Term;)V"⟩
def RX12 : String := "RuleForgeModel$Fails"
def TX12 : u_T := fun k => match k with
  | 0 => ("java/lang/Throwable", "cause", "Ljava/lang/Throwable;", false)
  | 1 => ("java/lang/Throwable", "stackTrace", "[Ljava/lang/StackTraceElement;", false)
  | 2 => ("java/lang/Throwable", "suppressedExceptions", "Ljava/util/List;", false)
  | 3 => ("java/lang/Throwable", "detailMessage", "Ljava/lang/String;", false)
  | 4 => ("java/lang/Throwable", "backtrace", "Ljava/lang/Object;", false)
  | _ => ("java/lang/Throwable", "depth", "I", false)
def tyX12 : Nat → FieldType := fun k => match k with
  | 0 => .object "java/lang/Throwable"
  | 1 => .array (.object "java/lang/StackTraceElement")
  | 2 => .object "java/util/List"
  | 3 => .object "java/lang/String"
  | 4 => .object "java/lang/Object"
  | _ => .int
theorem nmX12 : ∀ a, a < 6 → ∀ b, b < 6 → a ≠ b → (TX12 a).2.1 ≠ (TX12 b).2.1 := by decide +kernel
theorem tyX12_ok : ∀ k, k < 6 → parseFieldDescriptor (TX12 k).2.2.1 = some (tyX12 k) := by decide +kernel
abbrev cX12_init : ByteArray := prog_15_method_1_code
def yX12_init : MethodName := ⟨RX12, "<init>", "()V"⟩
def RX13 : String := "RuleForgeModel$Law"
def TX13 : u_T := fun k => match k with
  | 0 => ("RuleForgeModel$Law", "left", "LRuleForgeModel$Term;", false)
  | 1 => ("RuleForgeModel$Law", "right", "LRuleForgeModel$Term;", false)
  | 2 => ("RuleForgeModel$Law", "one", "LRuleForgeModel$Term;", false)
  | 3 => ("RuleForgeModel$Law", "other", "LRuleForgeModel$Term;", false)
  | 4 => ("RuleForgeModel$Law", "leftMoved", "LRuleForgeModel$Term;", false)
  | _ => ("RuleForgeModel$Law", "rightMoved", "LRuleForgeModel$Term;", false)
def tyX13 : Nat → FieldType := fun k => match k with
  | 0 => .object "RuleForgeModel$Term"
  | 1 => .object "RuleForgeModel$Term"
  | 2 => .object "RuleForgeModel$Term"
  | 3 => .object "RuleForgeModel$Term"
  | 4 => .object "RuleForgeModel$Term"
  | _ => .object "RuleForgeModel$Term"
theorem nmX13 : ∀ a, a < 6 → ∀ b, b < 6 → a ≠ b → (TX13 a).2.1 ≠ (TX13 b).2.1 := by decide +kernel
theorem tyX13_ok : ∀ k, k < 6 → parseFieldDescriptor (TX13 k).2.2.1 = some (tyX13 k) := by decide +kernel
abbrev cX13_init : ByteArray := prog_16_method_1_code
def yX13_init : MethodName := ⟨RX13, "<init>", "()V"⟩
def RX14 : String := "RuleForgeModel$Plan"
def TX14 : u_T := fun k => match k with
  | 0 => ("RuleForgeModel$Plan", "kind", "I", true)
  | 1 => ("RuleForgeModel$Plan", "rule", "I", true)
  | 2 => ("RuleForgeModel$Plan", "pattern", "LRuleForgeModel$Term;", true)
  | 3 => ("RuleForgeModel$Plan", "first", "LRuleForgeModel$Plan;", true)
  | 4 => ("RuleForgeModel$Plan", "second", "LRuleForgeModel$Plan;", true)
  | _ => ("RuleForgeModel$Plan", "parts", "I", true)
def tyX14 : Nat → FieldType := fun k => match k with
  | 0 => .int
  | 1 => .int
  | 2 => .object "RuleForgeModel$Term"
  | 3 => .object "RuleForgeModel$Plan"
  | 4 => .object "RuleForgeModel$Plan"
  | _ => .int
theorem nmX14 : ∀ a, a < 6 → ∀ b, b < 6 → a ≠ b → (TX14 a).2.1 ≠ (TX14 b).2.1 := by decide +kernel
theorem tyX14_ok : ∀ k, k < 6 → parseFieldDescriptor (TX14 k).2.2.1 = some (tyX14 k) := by decide +kernel
abbrev cX14_init : ByteArray := prog_17_method_1_code
def yX14_init : MethodName := ⟨RX14, "<init>", "(IILRuleForgeModel$Term;LRuleForgeModel$Plan;LRuleForgeModel$Plan;)V"⟩
def RX15 : String := "RuleForgeModel$Steps"
def TX15 : u_T := fun k => match k with
  | _ => ("RuleForgeModel$Steps", "many", "I", false)
def tyX15 : Nat → FieldType := fun k => match k with
  | _ => .int
theorem nmX15 : ∀ a, a < 1 → ∀ b, b < 1 → a ≠ b → (TX15 a).2.1 ≠ (TX15 b).2.1 := by decide +kernel
theorem tyX15_ok : ∀ k, k < 1 → parseFieldDescriptor (TX15 k).2.2.1 = some (tyX15 k) := by decide +kernel
abbrev cX15_init : ByteArray := prog_18_method_1_code
def yX15_init : MethodName := ⟨RX15, "<init>", "()V"⟩
def RX16 : String := "RuleForgeModel$Term"
def TX16 : u_T := fun k => match k with
  | 0 => ("RuleForgeModel$Term", "variable", "I", true)
  | 1 => ("RuleForgeModel$Term", "operator", "I", true)
  | 2 => ("RuleForgeModel$Term", "args", "[LRuleForgeModel$Term;", true)
  | 3 => ("RuleForgeModel$Term", "size", "I", true)
  | 4 => ("RuleForgeModel$Term", "normal", "I", false)
  | _ => ("RuleForgeModel$Term", "parts", "[LRuleForgeModel$Term;", false)
def tyX16 : Nat → FieldType := fun k => match k with
  | 0 => .int
  | 1 => .int
  | 2 => .array (.object "RuleForgeModel$Term")
  | 3 => .int
  | 4 => .int
  | _ => .array (.object "RuleForgeModel$Term")
theorem nmX16 : ∀ a, a < 6 → ∀ b, b < 6 → a ≠ b → (TX16 a).2.1 ≠ (TX16 b).2.1 := by decide +kernel
theorem tyX16_ok : ∀ k, k < 6 → parseFieldDescriptor (TX16 k).2.2.1 = some (tyX16 k) := by decide +kernel
abbrev cX16_init : ByteArray := prog_19_method_1_code
def yX16_init : MethodName := ⟨RX16, "<init>", "(I[LRuleForgeModel$Term;)V"⟩
abbrev cX16_init_ : ByteArray := prog_19_method_2_code
def yX16_init_ : MethodName := ⟨RX16, "<init>", "(I[LRuleForgeModel$Term;I)V"⟩
abbrev cX16_isVariable : ByteArray := prog_19_method_3_code
def yX16_isVariable : MethodName := ⟨RX16, "isVariable", "()Z"⟩
abbrev cX16_isSame : ByteArray := prog_19_method_4_code
def yX16_isSame : MethodName := ⟨RX16, "isSame", "(LRuleForgeModel$Term;)Z"⟩
abbrev cX16_compare : ByteArray := prog_19_method_5_code
def yX16_compare : MethodName := ⟨RX16, "compare", "(LRuleForgeModel$Term;)I"⟩
abbrev cX16_variables : ByteArray := prog_19_method_6_code
def yX16_variables : MethodName := ⟨RX16, "variables", "()I"⟩
def RX17 : String := "RuleForgeModel"
def TX17 : u_T := fun k => match k with
  | 0 => ("RuleForgeModel", "thrown", "I", false)
  | 1 => ("RuleForgeModel", "sorts", "I", false)
  | 2 => ("RuleForgeModel", "isBelow", "[Z", true)
  | 3 => ("RuleForgeModel", "sortOfVariable", "[I", true)
  | 4 => ("RuleForgeModel", "operators", "I", false)
  | 5 => ("RuleForgeModel", "arity", "[I", true)
  | 6 => ("RuleForgeModel", "axioms", "[I", true)
  | 7 => ("RuleForgeModel", "identity", "[I", true)
  | 8 => ("RuleForgeModel", "declared", "[I", true)
  | 9 => ("RuleForgeModel", "result", "[I", true)
  | 10 => ("RuleForgeModel", "needs", "[I", true)
  | 11 => ("RuleForgeModel", "weights", "[I", true)
  | 12 => ("RuleForgeModel", "view", "[I", true)
  | 13 => ("RuleForgeModel", "stack", "Ljava/util/List;", true)
  | 14 => ("RuleForgeModel", "slots", "[LRuleForgeModel$Term;", true)
  | 15 => ("RuleForgeModel", "equations", "Ljava/util/List;", true)
  | 16 => ("RuleForgeModel", "rules", "Ljava/util/List;", true)
  | 17 => ("RuleForgeModel", "plans", "Ljava/util/List;", true)
  | 18 => ("RuleForgeModel", "isSearch", "Z", false)
  | 19 => ("RuleForgeModel", "isCut", "Z", false)
  | 20 => ("RuleForgeModel", "states", "Ljava/util/List;", true)
  | 21 => ("RuleForgeModel", "cameFrom", "[I", true)
  | 22 => ("RuleForgeModel", "ways", "[Z", true)
  | 23 => ("RuleForgeModel", "looked", "I", false)
  | 24 => ("RuleForgeModel", "uses", "I", false)
  | 25 => ("RuleForgeModel", "areConditions", "Z", false)
  | 26 => ("RuleForgeModel", "belows", "I", false)
  | 27 => ("RuleForgeModel", "taken", "I", false)
  | 28 => ("RuleForgeModel", "noTerms", "[LRuleForgeModel$Term;", true)
  | 29 => ("RuleForgeModel", "variables", "[LRuleForgeModel$Term;", true)
  | 30 => ("RuleForgeModel", "moved", "[LRuleForgeModel$Term;", true)
  | 31 => ("RuleForgeModel", "identities", "[LRuleForgeModel$Term;", true)
  | 32 => ("RuleForgeModel", "patterns", "[LRuleForgeModel$Term;", true)
  | 33 => ("RuleForgeModel", "subjects", "[LRuleForgeModel$Term;", true)
  | 34 => ("RuleForgeModel", "nexts", "[I", true)
  | 35 => ("RuleForgeModel", "lefts", "[I", true)
  | 36 => ("RuleForgeModel", "bound", "[LRuleForgeModel$Term;", true)
  | 37 => ("RuleForgeModel", "names", "[I", true)
  | 38 => ("RuleForgeModel", "named", "I", false)
  | 39 => ("RuleForgeModel", "most", "I", false)
  | 40 => ("RuleForgeModel", "kept", "I", false)
  | 41 => ("RuleForgeModel", "rows", "[LRuleForgeModel$Term;", false)
  | 42 => ("RuleForgeModel", "critical", "Ljava/util/List;", true)
  | 43 => ("RuleForgeModel", "criticalOf", "I", false)
  | _ => ("RuleForgeModel", "resolving", "[LRuleForgeModel$Term;", true)
def tyX17 : Nat → FieldType := fun k => match k with
  | 0 => .int
  | 1 => .int
  | 2 => .array .boolean
  | 3 => .array .int
  | 4 => .int
  | 5 => .array .int
  | 6 => .array .int
  | 7 => .array .int
  | 8 => .array .int
  | 9 => .array .int
  | 10 => .array .int
  | 11 => .array .int
  | 12 => .array .int
  | 13 => .object "java/util/List"
  | 14 => .array (.object "RuleForgeModel$Term")
  | 15 => .object "java/util/List"
  | 16 => .object "java/util/List"
  | 17 => .object "java/util/List"
  | 18 => .boolean
  | 19 => .boolean
  | 20 => .object "java/util/List"
  | 21 => .array .int
  | 22 => .array .boolean
  | 23 => .int
  | 24 => .int
  | 25 => .boolean
  | 26 => .int
  | 27 => .int
  | 28 => .array (.object "RuleForgeModel$Term")
  | 29 => .array (.object "RuleForgeModel$Term")
  | 30 => .array (.object "RuleForgeModel$Term")
  | 31 => .array (.object "RuleForgeModel$Term")
  | 32 => .array (.object "RuleForgeModel$Term")
  | 33 => .array (.object "RuleForgeModel$Term")
  | 34 => .array .int
  | 35 => .array .int
  | 36 => .array (.object "RuleForgeModel$Term")
  | 37 => .array .int
  | 38 => .int
  | 39 => .int
  | 40 => .int
  | 41 => .array (.object "RuleForgeModel$Term")
  | 42 => .object "java/util/List"
  | 43 => .int
  | _ => .array (.object "RuleForgeModel$Term")
theorem nmX17 : ∀ a, a < 45 → ∀ b, b < 45 → a ≠ b → (TX17 a).2.1 ≠ (TX17 b).2.1 := by decide +kernel
theorem tyX17_ok : ∀ k, k < 45 → parseFieldDescriptor (TX17 k).2.2.1 = some (tyX17 k) := by decide +kernel
abbrev cX17_init : ByteArray := prog_13_method_1_code
def yX17_init : MethodName := ⟨RX17, "<init>", "()V"⟩
abbrev cX17_thrown : ByteArray := prog_13_method_2_code
def yX17_thrown : MethodName := ⟨RX17, "thrown", "()I"⟩
abbrev cX17_isIn : ByteArray := prog_13_method_3_code
def yX17_isIn : MethodName := ⟨RX17, "isIn", "(III)Z"⟩
abbrev cX17_isIdentityOf : ByteArray := prog_13_method_4_code
def yX17_isIdentityOf : MethodName := ⟨RX17, "isIdentityOf", "(ILRuleForgeModel$Term;)Z"⟩
abbrev cX17_inOrder : ByteArray := prog_13_method_5_code
def yX17_inOrder : MethodName := ⟨RX17, "inOrder", "([LRuleForgeModel$Term;)V"⟩
abbrev cX17_copied : ByteArray := prog_13_method_6_code
def yX17_copied : MethodName := ⟨RX17, "copied", "([LRuleForgeModel$Term;)[LRuleForgeModel$Term;"⟩
abbrev cX17_brings : ByteArray := prog_13_method_7_code
def yX17_brings : MethodName := ⟨RX17, "brings", "(ILRuleForgeModel$Term;)I"⟩
abbrev cX17_made : ByteArray := prog_13_method_8_code
def yX17_made : MethodName := ⟨RX17, "made", "(I[LRuleForgeModel$Term;)LRuleForgeModel$Term;"⟩
abbrev cX17_put : ByteArray := prog_13_method_9_code
def yX17_put : MethodName := ⟨RX17, "put", "(I[LRuleForgeModel$Term;)LRuleForgeModel$Term;"⟩
abbrev cX17_gathered : ByteArray := prog_13_method_10_code
def yX17_gathered : MethodName := ⟨RX17, "gathered", "(I[LRuleForgeModel$Term;)LRuleForgeModel$Term;"⟩
abbrev cX17_part : ByteArray := prog_13_method_11_code
def yX17_part : MethodName := ⟨RX17, "part", "(ILRuleForgeModel$Term;I)LRuleForgeModel$Term;"⟩
abbrev cX17_partOf : ByteArray := prog_13_method_12_code
def yX17_partOf : MethodName := ⟨RX17, "partOf", "(LRuleForgeModel$Term;I)LRuleForgeModel$Term;"⟩
abbrev cX17_isAt : ByteArray := prog_13_method_13_code
def yX17_isAt : MethodName := ⟨RX17, "isAt", "(II)Z"⟩
abbrev cX17_sortOfOperator : ByteArray := prog_13_method_14_code
def yX17_sortOfOperator : MethodName := ⟨RX17, "sortOfOperator", "(IIII)I"⟩
abbrev cX17_sortAt : ByteArray := prog_13_method_15_code
def yX17_sortAt : MethodName := ⟨RX17, "sortAt", "(LRuleForgeModel$Term;)I"⟩
abbrev cX17_lays : ByteArray := prog_13_method_16_code
def yX17_lays : MethodName := ⟨RX17, "lays", "(ILRuleForgeModel$Term;LRuleForgeModel$Term;II)V"⟩
abbrev cX17_isEnough : ByteArray := prog_13_method_17_code
def yX17_isEnough : MethodName := ⟨RX17, "isEnough", "(I)Z"⟩
abbrev cX17_isGiven : ByteArray := prog_13_method_18_code
def yX17_isGiven : MethodName := ⟨RX17, "isGiven", "(IILRuleForgeModel$Term;)Z"⟩
abbrev cX17_isBeneath : ByteArray := prog_13_method_19_code
def yX17_isBeneath : MethodName := ⟨RX17, "isBeneath", "(ILRuleForgeModel$Term;LRuleForgeModel$Term;)Z"⟩
abbrev cX17_rank : ByteArray := prog_13_method_20_code
def yX17_rank : MethodName := ⟨RX17, "rank", "(LRuleForgeModel$Term;)I"⟩
abbrev cX17_laid : ByteArray := prog_13_method_21_code
def yX17_laid : MethodName := ⟨RX17, "laid", "(ILRuleForgeModel$Term;LRuleForgeModel$Term;Z)I"⟩
abbrev cX17_isShared : ByteArray := prog_13_method_22_code
def yX17_isShared : MethodName := ⟨RX17, "isShared", "(ILRuleForgeModel$Term;LRuleForgeModel$Term;II)Z"⟩
abbrev cX17_isPart : ByteArray := prog_13_method_23_code
def yX17_isPart : MethodName := ⟨RX17, "isPart", "(ILRuleForgeModel$Term;LRuleForgeModel$Term;III)Z"⟩
abbrev cX17_order : ByteArray := prog_13_method_24_code
def yX17_order : MethodName := ⟨RX17, "order", "(I)I"⟩
abbrev cX17_isLast : ByteArray := prog_13_method_25_code
def yX17_isLast : MethodName := ⟨RX17, "isLast", "()Z"⟩
abbrev cX17_found : ByteArray := prog_13_method_26_code
def yX17_found : MethodName := ⟨RX17, "found", "(LRuleForgeModel$Term;LRuleForgeModel$Term;I)I"⟩
abbrev cX17_isFound : ByteArray := prog_13_method_27_code
def yX17_isFound : MethodName := ⟨RX17, "isFound", "(LRuleForgeModel$Term;LRuleForgeModel$Term;)Z"⟩
abbrev cX17_keeps : ByteArray := prog_13_method_28_code
def yX17_keeps : MethodName := ⟨RX17, "keeps", "(I)[LRuleForgeModel$Term;"⟩
abbrev cX17_givenBy : ByteArray := prog_13_method_29_code
def yX17_givenBy : MethodName := ⟨RX17, "givenBy", "(LRuleForgeModel$Term;[LRuleForgeModel$Term;I)[LRuleForgeModel$Term;"⟩
abbrev cX17_placed : ByteArray := prog_13_method_30_code
def yX17_placed : MethodName := ⟨RX17, "placed", "(LRuleForgeModel$Term;[LRuleForgeModel$Term;)LRuleForgeModel$Term;"⟩
abbrev cX17_isHeld : ByteArray := prog_13_method_31_code
def yX17_isHeld : MethodName := ⟨RX17, "isHeld", "(LRuleForgeModel$Law;[LRuleForgeModel$Term;LRuleForgeModel$Steps;I)Z"⟩
abbrev cX17_used : ByteArray := prog_13_method_32_code
def yX17_used : MethodName := ⟨RX17, "used", "(LRuleForgeModel$Term;LRuleForgeModel$Steps;I)LRuleForgeModel$Term;"⟩
abbrev cX17_stamp : ByteArray := prog_13_method_33_code
def yX17_stamp : MethodName := ⟨RX17, "stamp", "()I"⟩
abbrev cX17_beneath : ByteArray := prog_13_method_34_code
def yX17_beneath : MethodName := ⟨RX17, "beneath", "(LRuleForgeModel$Term;LRuleForgeModel$Steps;I)LRuleForgeModel$Term;"⟩
abbrev cX17_reduced : ByteArray := prog_13_method_35_code
def yX17_reduced : MethodName := ⟨RX17, "reduced", "(LRuleForgeModel$Term;LRuleForgeModel$Steps;I)LRuleForgeModel$Term;"⟩
abbrev cX17_reduced_ : ByteArray := prog_13_method_36_code
def yX17_reduced_ : MethodName := ⟨RX17, "reduced", "(LRuleForgeModel$Term;)LRuleForgeModel$Term;"⟩
abbrev cX17_at : ByteArray := prog_13_method_37_code
def yX17_at : MethodName := ⟨RX17, "at", "(LRuleForgeModel$Term;I)LRuleForgeModel$Term;"⟩
abbrev cX17_replaced : ByteArray := prog_13_method_38_code
def yX17_replaced : MethodName := ⟨RX17, "replaced", "(LRuleForgeModel$Term;ILRuleForgeModel$Term;)LRuleForgeModel$Term;"⟩
abbrev cX17_goes : ByteArray := prog_13_method_39_code
def yX17_goes : MethodName := ⟨RX17, "goes", "(LRuleForgeModel$Term;LRuleForgeModel$Law;I[LRuleForgeModel$Term;)LRuleForgeModel$Term;"⟩
abbrev cX17_stateOf : ByteArray := prog_13_method_40_code
def yX17_stateOf : MethodName := ⟨RX17, "stateOf", "(LRuleForgeModel$Term;)I"⟩
abbrev cX17_isDone : ByteArray := prog_13_method_41_code
def yX17_isDone : MethodName := ⟨RX17, "isDone", "(I)Z"⟩
abbrev cX17_pop : ByteArray := prog_13_method_42_code
def yX17_pop : MethodName := ⟨RX17, "pop", "()LRuleForgeModel$Term;"⟩
abbrev cX17_top : ByteArray := prog_13_method_43_code
def yX17_top : MethodName := ⟨RX17, "top", "()LRuleForgeModel$Term;"⟩
abbrev cX17_search : ByteArray := prog_13_method_44_code
def yX17_search : MethodName := ⟨RX17, "search", "()I"⟩
abbrev cX17_isCut : ByteArray := prog_13_method_45_code
def yX17_isCut : MethodName := ⟨RX17, "isCut", "()Z"⟩
abbrev cX17_state : ByteArray := prog_13_method_46_code
def yX17_state : MethodName := ⟨RX17, "state", "(I)I"⟩
abbrev cX17_cameBy : ByteArray := prog_13_method_47_code
def yX17_cameBy : MethodName := ⟨RX17, "cameBy", "(I)I"⟩
abbrev cX17_count : ByteArray := prog_13_method_48_code
def yX17_count : MethodName := ⟨RX17, "count", "(I)I"⟩
abbrev cX17_isPattern : ByteArray := prog_13_method_49_code
def yX17_isPattern : MethodName := ⟨RX17, "isPattern", "(LRuleForgeModel$Term;)Z"⟩
abbrev cX17_finds : ByteArray := prog_13_method_50_code
def yX17_finds : MethodName := ⟨RX17, "finds", "(I)I"⟩
abbrev cX17_avoids : ByteArray := prog_13_method_51_code
def yX17_avoids : MethodName := ⟨RX17, "avoids", "([Z)Z"⟩
abbrev cX17_holds : ByteArray := prog_13_method_52_code
def yX17_holds : MethodName := ⟨RX17, "holds", "(I)Z"⟩
abbrev cX17_usedBy : ByteArray := prog_13_method_53_code
def yX17_usedBy : MethodName := ⟨RX17, "usedBy", "(LRuleForgeModel$Law;LRuleForgeModel$Term;)LRuleForgeModel$Term;"⟩
abbrev cX17_again : ByteArray := prog_13_method_54_code
def yX17_again : MethodName := ⟨RX17, "again", "(LRuleForgeModel$Plan;LRuleForgeModel$Term;)LRuleForgeModel$Term;"⟩
abbrev cX17_gone : ByteArray := prog_13_method_55_code
def yX17_gone : MethodName := ⟨RX17, "gone", "(LRuleForgeModel$Plan;LRuleForgeModel$Term;)LRuleForgeModel$Term;"⟩
abbrev cX17_adds : ByteArray := prog_13_method_56_code
def yX17_adds : MethodName := ⟨RX17, "adds", "(LRuleForgeModel$Plan;)I"⟩
abbrev cX17_use : ByteArray := prog_13_method_57_code
def yX17_use : MethodName := ⟨RX17, "use", "(I)I"⟩
abbrev cX17_idle : ByteArray := prog_13_method_58_code
def yX17_idle : MethodName := ⟨RX17, "idle", "()I"⟩
abbrev cX17_test : ByteArray := prog_13_method_59_code
def yX17_test : MethodName := ⟨RX17, "test", "()I"⟩
abbrev cX17_both : ByteArray := prog_13_method_60_code
def yX17_both : MethodName := ⟨RX17, "both", "(Z)I"⟩
abbrev cX17_many : ByteArray := prog_13_method_61_code
def yX17_many : MethodName := ⟨RX17, "many", "()I"⟩
abbrev cX17_run : ByteArray := prog_13_method_62_code
def yX17_run : MethodName := ⟨RX17, "run", "()I"⟩
abbrev cX17_isFree : ByteArray := prog_13_method_63_code
def yX17_isFree : MethodName := ⟨RX17, "isFree", "(LRuleForgeModel$Term;)Z"⟩
abbrev cX17_occurs : ByteArray := prog_13_method_64_code
def yX17_occurs : MethodName := ⟨RX17, "occurs", "(ILRuleForgeModel$Term;[LRuleForgeModel$Term;)Z"⟩
abbrev cX17_walked : ByteArray := prog_13_method_65_code
def yX17_walked : MethodName := ⟨RX17, "walked", "(LRuleForgeModel$Term;[LRuleForgeModel$Term;)LRuleForgeModel$Term;"⟩
abbrev cX17_isMade : ByteArray := prog_13_method_66_code
def yX17_isMade : MethodName := ⟨RX17, "isMade", "(LRuleForgeModel$Term;LRuleForgeModel$Term;[LRuleForgeModel$Term;)Z"⟩
abbrev cX17_resolved : ByteArray := prog_13_method_67_code
def yX17_resolved : MethodName := ⟨RX17, "resolved", "(LRuleForgeModel$Term;[LRuleForgeModel$Term;)LRuleForgeModel$Term;"⟩
abbrev cX17_sizeOf : ByteArray := prog_13_method_68_code
def yX17_sizeOf : MethodName := ⟨RX17, "sizeOf", "(LRuleForgeModel$Term;[LRuleForgeModel$Term;I)I"⟩
abbrev cX17_pairAt : ByteArray := prog_13_method_69_code
def yX17_pairAt : MethodName := ⟨RX17, "pairAt", "(LRuleForgeModel$Law;LRuleForgeModel$Law;I)LRuleForgeModel$Both;"⟩
abbrev cX17_newPlace : ByteArray := prog_13_method_70_code
def yX17_newPlace : MethodName := ⟨RX17, "newPlace", "(LRuleForgeModel$Term;I[LRuleForgeModel$Term;)I"⟩
abbrev cX17_canPair : ByteArray := prog_13_method_71_code
def yX17_canPair : MethodName := ⟨RX17, "canPair", "(LRuleForgeModel$Law;)Z"⟩
abbrev cX17_allPairs : ByteArray := prog_13_method_72_code
def yX17_allPairs : MethodName := ⟨RX17, "allPairs", "()Ljava/util/List;"⟩
abbrev cX17_pairs : ByteArray := prog_13_method_73_code
def yX17_pairs : MethodName := ⟨RX17, "pairs", "()I"⟩
abbrev cX17_normal : ByteArray := prog_13_method_74_code
def yX17_normal : MethodName := ⟨RX17, "normal", "(LRuleForgeModel$Both;)LRuleForgeModel$Both;"⟩
abbrev cX17_joins : ByteArray := prog_13_method_75_code
def yX17_joins : MethodName := ⟨RX17, "joins", "(I)I"⟩
abbrev cX17_joined : ByteArray := prog_13_method_76_code
def yX17_joined : MethodName := ⟨RX17, "joined", "(I[J[J[JI)[J"⟩
abbrev cX17_valueOf : ByteArray := prog_13_method_77_code
def yX17_valueOf : MethodName := ⟨RX17, "valueOf", "(LRuleForgeModel$Term;)[J"⟩
abbrev cX17_isAbove : ByteArray := prog_13_method_78_code
def yX17_isAbove : MethodName := ⟨RX17, "isAbove", "(LRuleForgeModel$Term;LRuleForgeModel$Term;)Z"⟩
abbrev cX17_weight : ByteArray := prog_13_method_79_code
def yX17_weight : MethodName := ⟨RX17, "weight", "(III)I"⟩
abbrev cX17_descends : ByteArray := prog_13_method_80_code
def yX17_descends : MethodName := ⟨RX17, "descends", "(I)Z"⟩
abbrev cX17_numbered : ByteArray := prog_13_method_81_code
def yX17_numbered : MethodName := ⟨RX17, "numbered", "(LRuleForgeModel$Term;)[LRuleForgeModel$Term;"⟩
abbrev cX17_canTell : ByteArray := prog_13_method_82_code
def yX17_canTell : MethodName := ⟨RX17, "canTell", "(LRuleForgeModel$Term;I)Z"⟩
abbrev cX17_isAdded : ByteArray := prog_13_method_83_code
def yX17_isAdded : MethodName := ⟨RX17, "isAdded", "(LRuleForgeModel$Term;LRuleForgeModel$Term;)Z"⟩
abbrev cX17_open : ByteArray := prog_13_method_84_code
def yX17_open : MethodName := ⟨RX17, "open", "()LRuleForgeModel$Both;"⟩
abbrev cX17_complete : ByteArray := prog_13_method_85_code
def yX17_complete : MethodName := ⟨RX17, "complete", "()I"⟩
abbrev cX17_view : ByteArray := prog_13_method_86_code
def yX17_view : MethodName := ⟨RX17, "view", "(II)I"⟩
abbrev cX17_viewed : ByteArray := prog_13_method_87_code
def yX17_viewed : MethodName := ⟨RX17, "viewed", "(LRuleForgeModel$Term;)LRuleForgeModel$Term;"⟩
abbrev cX17_othersOf : ByteArray := prog_13_method_88_code
def yX17_othersOf : MethodName := ⟨RX17, "othersOf", "(LRuleForgeModel$Law;)I"⟩
abbrev cX17_copy : ByteArray := prog_13_method_89_code
def yX17_copy : MethodName := ⟨RX17, "copy", "(I)I"⟩
abbrev cX17_canBe : ByteArray := prog_13_method_90_code
def yX17_canBe : MethodName := ⟨RX17, "canBe", "(LRuleForgeModel$Term;LRuleForgeModel$Term;)Z"⟩
abbrev cX17_canFit : ByteArray := prog_13_method_91_code
def yX17_canFit : MethodName := ⟨RX17, "canFit", "(LRuleForgeModel$Term;LRuleForgeModel$Term;)Z"⟩
abbrev cX17_fitting : ByteArray := prog_13_method_92_code
def yX17_fitting : MethodName := ⟨RX17, "fitting", "()I"⟩
abbrev cX17_matching : ByteArray := prog_13_method_93_code
def yX17_matching : MethodName := ⟨RX17, "matching", "()I"⟩
abbrev cX17_sort : ByteArray := prog_13_method_94_code
def yX17_sort : MethodName := ⟨RX17, "sort", "()I"⟩
abbrev cX17_isSort : ByteArray := prog_13_method_95_code
def yX17_isSort : MethodName := ⟨RX17, "isSort", "(I)Z"⟩
abbrev cX17_below : ByteArray := prog_13_method_96_code
def yX17_below : MethodName := ⟨RX17, "below", "(II)Z"⟩
abbrev cX17_isOpen : ByteArray := prog_13_method_97_code
def yX17_isOpen : MethodName := ⟨RX17, "isOpen", "()Z"⟩
abbrev cX17_variable : ByteArray := prog_13_method_98_code
def yX17_variable : MethodName := ⟨RX17, "variable", "(II)I"⟩
abbrev cX17_operator : ByteArray := prog_13_method_99_code
def yX17_operator : MethodName := ⟨RX17, "operator", "(III)I"⟩
abbrev cX17_declare : ByteArray := prog_13_method_100_code
def yX17_declare : MethodName := ⟨RX17, "declare", "(IIIII)I"⟩
abbrev cX17_term : ByteArray := prog_13_method_101_code
def yX17_term : MethodName := ⟨RX17, "term", "(I)I"⟩
abbrev cX17_apply : ByteArray := prog_13_method_102_code
def yX17_apply : MethodName := ⟨RX17, "apply", "(I)I"⟩
abbrev cX17_keep : ByteArray := prog_13_method_103_code
def yX17_keep : MethodName := ⟨RX17, "keep", "(I)I"⟩
abbrev cX17_load : ByteArray := prog_13_method_104_code
def yX17_load : MethodName := ⟨RX17, "load", "(I)I"⟩
abbrev cX17_drop : ByteArray := prog_13_method_105_code
def yX17_drop : MethodName := ⟨RX17, "drop", "()I"⟩
abbrev cX17_sortOf : ByteArray := prog_13_method_106_code
def yX17_sortOf : MethodName := ⟨RX17, "sortOf", "()I"⟩
abbrev cX17_code : ByteArray := prog_13_method_107_code
def yX17_code : MethodName := ⟨RX17, "code", "(I)I"⟩
abbrev cX17_hasBoth : ByteArray := prog_13_method_108_code
def yX17_hasBoth : MethodName := ⟨RX17, "hasBoth", "()Z"⟩
abbrev cX17_underTop : ByteArray := prog_13_method_109_code
def yX17_underTop : MethodName := ⟨RX17, "underTop", "()LRuleForgeModel$Term;"⟩
abbrev cX17_matches : ByteArray := prog_13_method_110_code
def yX17_matches : MethodName := ⟨RX17, "matches", "()I"⟩
abbrev cX17_addNew : ByteArray := prog_13_method_111_code
def yX17_addNew : MethodName := ⟨RX17, "addNew", "(Ljava/util/List;LRuleForgeModel$Term;)V"⟩
abbrev cX17_isSideBySide : ByteArray := prog_13_method_112_code
def yX17_isSideBySide : MethodName := ⟨RX17, "isSideBySide", "(I)Z"⟩
abbrev cX17_tried : ByteArray := prog_13_method_113_code
def yX17_tried : MethodName := ⟨RX17, "tried", "(LRuleForgeModel$Term;)Ljava/util/List;"⟩
abbrev cX17_weighs : ByteArray := prog_13_method_114_code
def yX17_weighs : MethodName := ⟨RX17, "weighs", "(ILRuleForgeModel$Term;)I"⟩
abbrev cX17_isGathered : ByteArray := prog_13_method_115_code
def yX17_isGathered : MethodName := ⟨RX17, "isGathered", "(LRuleForgeModel$Term;LRuleForgeModel$Term;[LRuleForgeModel$Term;)Z"⟩
abbrev cX17_isMatch : ByteArray := prog_13_method_116_code
def yX17_isMatch : MethodName := ⟨RX17, "isMatch", "(LRuleForgeModel$Term;LRuleForgeModel$Term;[LRuleForgeModel$Term;)Z"⟩
abbrev cX17_isLike : ByteArray := prog_13_method_117_code
def yX17_isLike : MethodName := ⟨RX17, "isLike", "(LRuleForgeModel$Term;LRuleForgeModel$Term;[LRuleForgeModel$Term;)Z"⟩
abbrev cX17_ways : ByteArray := prog_13_method_118_code
def yX17_ways : MethodName := ⟨RX17, "ways", "(LRuleForgeModel$Term;LRuleForgeModel$Term;I[LRuleForgeModel$Term;Ljava/util/List;)I"⟩
abbrev cX17_matchesAnew : ByteArray := prog_13_method_119_code
def yX17_matchesAnew : MethodName := ⟨RX17, "matchesAnew", "()I"⟩
abbrev cX17_match : ByteArray := prog_13_method_120_code
def yX17_match : MethodName := ⟨RX17, "match", "(II)I"⟩
abbrev cX17_tell : ByteArray := prog_13_method_121_code
def yX17_tell : MethodName := ⟨RX17, "tell", "(ZZ)I"⟩
abbrev cX17_equations : ByteArray := prog_13_method_122_code
def yX17_equations : MethodName := ⟨RX17, "equations", "()I"⟩
abbrev cX17_reduce : ByteArray := prog_13_method_123_code
def yX17_reduce : MethodName := ⟨RX17, "reduce", "()I"⟩
def RJx145de : String := "java/io/Serializable"
def TJx145de : u_T := fun k => match k with
  | _ => ("", "", "", false)
def tyJx145de : Nat → FieldType := fun k => match k with
  | _ => .int
theorem nmJx145de : ∀ a, a < 0 → ∀ b, b < 0 → a ≠ b → (TJx145de a).2.1 ≠ (TJx145de b).2.1 := by decide +kernel
theorem tyJx145de_ok : ∀ k, k < 0 → parseFieldDescriptor (TJx145de k).2.2.1 = some (tyJx145de k) := by decide +kernel
def RJx8e188 : String := "java/lang/Cloneable"
def TJx8e188 : u_T := fun k => match k with
  | _ => ("", "", "", false)
def tyJx8e188 : Nat → FieldType := fun k => match k with
  | _ => .int
theorem nmJx8e188 : ∀ a, a < 0 → ∀ b, b < 0 → a ≠ b → (TJx8e188 a).2.1 ≠ (TJx8e188 b).2.1 := by decide +kernel
theorem tyJx8e188_ok : ∀ k, k < 0 → parseFieldDescriptor (TJx8e188 k).2.2.1 = some (tyJx8e188 k) := by decide +kernel
def RJ6 : String := "java/lang/Integer"
def TJ6 : u_T := fun k => match k with
  | _ => ("", "", "", false)
def tyJ6 : Nat → FieldType := fun k => match k with
  | _ => .int
theorem nmJ6 : ∀ a, a < 0 → ∀ b, b < 0 → a ≠ b → (TJ6 a).2.1 ≠ (TJ6 b).2.1 := by decide +kernel
theorem tyJ6_ok : ∀ k, k < 0 → parseFieldDescriptor (TJ6 k).2.2.1 = some (tyJ6 k) := by decide +kernel
abbrev cJ6_lowestOneBit_0f7a4 : ByteArray := prog_26_method_46_code
def yJ6_lowestOneBit_0f7a4 : MethodName := ⟨RJ6, "lowestOneBit", "(I)I"⟩
abbrev cJ6_numberOfTrailingZeros_0f7a4 : ByteArray := prog_26_method_48_code
def yJ6_numberOfTrailingZeros_0f7a4 : MethodName := ⟨RJ6, "numberOfTrailingZeros", "(I)I"⟩
abbrev cJ6_bitCount_0f7a4 : ByteArray := prog_26_method_49_code
def yJ6_bitCount_0f7a4 : MethodName := ⟨RJ6, "bitCount", "(I)I"⟩
def RJxab1ab : String := "java/lang/Iterable"
def TJxab1ab : u_T := fun k => match k with
  | _ => ("", "", "", false)
def tyJxab1ab : Nat → FieldType := fun k => match k with
  | _ => .int
theorem nmJxab1ab : ∀ a, a < 0 → ∀ b, b < 0 → a ≠ b → (TJxab1ab a).2.1 ≠ (TJxab1ab b).2.1 := by decide +kernel
theorem tyJxab1ab_ok : ∀ k, k < 0 → parseFieldDescriptor (TJxab1ab k).2.2.1 = some (tyJxab1ab k) := by decide +kernel
def RJ9 : String := "java/lang/Math"
def TJ9 : u_T := fun k => match k with
  | _ => ("", "", "", false)
def tyJ9 : Nat → FieldType := fun k => match k with
  | _ => .int
theorem nmJ9 : ∀ a, a < 0 → ∀ b, b < 0 → a ≠ b → (TJ9 a).2.1 ≠ (TJ9 b).2.1 := by decide +kernel
theorem tyJ9_ok : ∀ k, k < 0 → parseFieldDescriptor (TJ9 k).2.2.1 = some (tyJ9 k) := by decide +kernel
abbrev cJ9_max_7cf53 : ByteArray := prog_28_method_65_code
def yJ9_max_7cf53 : MethodName := ⟨RJ9, "max", "(II)I"⟩
abbrev cJ9_min_7cf53 : ByteArray := prog_28_method_69_code
def yJ9_min_7cf53 : MethodName := ⟨RJ9, "min", "(II)I"⟩
def RJ0 : String := "java/lang/String"
def TJ0 : u_T := fun k => match k with
  | _ => ("", "", "", false)
def tyJ0 : Nat → FieldType := fun k => match k with
  | _ => .int
theorem nmJ0 : ∀ a, a < 0 → ∀ b, b < 0 → a ≠ b → (TJ0 a).2.1 ≠ (TJ0 b).2.1 := by decide +kernel
theorem tyJ0_ok : ∀ k, k < 0 → parseFieldDescriptor (TJ0 k).2.2.1 = some (tyJ0 k) := by decide +kernel
def RJ10 : String := "java/lang/System"
def TJ10 : u_T := fun k => match k with
  | _ => ("", "", "", false)
def tyJ10 : Nat → FieldType := fun k => match k with
  | _ => .int
theorem nmJ10 : ∀ a, a < 0 → ∀ b, b < 0 → a ≠ b → (TJ10 a).2.1 ≠ (TJ10 b).2.1 := by decide +kernel
theorem tyJ10_ok : ∀ k, k < 0 → parseFieldDescriptor (TJ10 k).2.2.1 = some (tyJ10 k) := by decide +kernel
def RJxa1e45 : String := "java/util/AbstractCollection"
def TJxa1e45 : u_T := fun k => match k with
  | _ => ("", "", "", false)
def tyJxa1e45 : Nat → FieldType := fun k => match k with
  | _ => .int
theorem nmJxa1e45 : ∀ a, a < 0 → ∀ b, b < 0 → a ≠ b → (TJxa1e45 a).2.1 ≠ (TJxa1e45 b).2.1 := by decide +kernel
theorem tyJxa1e45_ok : ∀ k, k < 0 → parseFieldDescriptor (TJxa1e45 k).2.2.1 = some (tyJxa1e45 k) := by decide +kernel
abbrev cJxa1e45_init_da8c8 : ByteArray := prog_33_method_1_code
def yJxa1e45_init_da8c8 : MethodName := ⟨RJxa1e45, "<init>", "()V"⟩
def RJxc12de : String := "java/util/AbstractList"
def TJxc12de : u_T := fun k => match k with
  | _ => ("", "", "", false)
def tyJxc12de : Nat → FieldType := fun k => match k with
  | _ => .int
theorem nmJxc12de : ∀ a, a < 0 → ∀ b, b < 0 → a ≠ b → (TJxc12de a).2.1 ≠ (TJxc12de b).2.1 := by decide +kernel
theorem tyJxc12de_ok : ∀ k, k < 0 → parseFieldDescriptor (TJxc12de k).2.2.1 = some (tyJxc12de k) := by decide +kernel
abbrev cJxc12de_init_da8c8 : ByteArray := prog_34_method_1_code
def yJxc12de_init_da8c8 : MethodName := ⟨RJxc12de, "<init>", "()V"⟩
def RJx4a65c : String := "java/util/ArrayList"
def TJx4a65c : u_T := fun k => match k with
  | 0 => ("java/util/AbstractList", "modCount", "I", false)
  | 1 => ("java/util/ArrayList", "elementData", "[Ljava/lang/Object;", false)
  | _ => ("java/util/ArrayList", "size", "I", false)
def tyJx4a65c : Nat → FieldType := fun k => match k with
  | 0 => .int
  | 1 => .array (.object "java/lang/Object")
  | _ => .int
theorem nmJx4a65c : ∀ a, a < 3 → ∀ b, b < 3 → a ≠ b → (TJx4a65c a).2.1 ≠ (TJx4a65c b).2.1 := by decide +kernel
theorem tyJx4a65c_ok : ∀ k, k < 3 → parseFieldDescriptor (TJx4a65c k).2.2.1 = some (tyJx4a65c k) := by decide +kernel
abbrev cJx4a65c_init_da8c8 : ByteArray := prog_35_method_2_code
def yJx4a65c_init_da8c8 : MethodName := ⟨RJx4a65c, "<init>", "()V"⟩
abbrev cJx4a65c_grow_92f84 : ByteArray := prog_35_method_6_code
def yJx4a65c_grow_92f84 : MethodName := ⟨RJx4a65c, "grow", "(I)[Ljava/lang/Object;"⟩
abbrev cJx4a65c_grow_d5877 : ByteArray := prog_35_method_7_code
def yJx4a65c_grow_d5877 : MethodName := ⟨RJx4a65c, "grow", "()[Ljava/lang/Object;"⟩
abbrev cJx4a65c_size_8abf5 : ByteArray := prog_35_method_8_code
def yJx4a65c_size_8abf5 : MethodName := ⟨RJx4a65c, "size", "()I"⟩
abbrev cJx4a65c_isEmpty_aae02 : ByteArray := prog_35_method_9_code
def yJx4a65c_isEmpty_aae02 : MethodName := ⟨RJx4a65c, "isEmpty", "()Z"⟩
abbrev cJx4a65c_elementData_915e3 : ByteArray := prog_35_method_18_code
def yJx4a65c_elementData_915e3 : MethodName := ⟨RJx4a65c, "elementData", "(I)Ljava/lang/Object;"⟩
abbrev cJx4a65c_get_915e3 : ByteArray := prog_35_method_20_code
def yJx4a65c_get_915e3 : MethodName := ⟨RJx4a65c, "get", "(I)Ljava/lang/Object;"⟩
abbrev cJx4a65c_add_72be8 : ByteArray := prog_35_method_24_code
def yJx4a65c_add_72be8 : MethodName := ⟨RJx4a65c, "add", "(Ljava/lang/Object;[Ljava/lang/Object;I)V"⟩
abbrev cJx4a65c_add_9ea2d : ByteArray := prog_35_method_25_code
def yJx4a65c_add_9ea2d : MethodName := ⟨RJx4a65c, "add", "(Ljava/lang/Object;)Z"⟩
abbrev cJx4a65c_remove_915e3 : ByteArray := prog_35_method_29_code
def yJx4a65c_remove_915e3 : MethodName := ⟨RJx4a65c, "remove", "(I)Ljava/lang/Object;"⟩
abbrev cJx4a65c_fastRemove_b59b0 : ByteArray := prog_35_method_39_code
def yJx4a65c_fastRemove_b59b0 : MethodName := ⟨RJx4a65c, "fastRemove", "([Ljava/lang/Object;I)V"⟩
abbrev cJx4a65c_clear_da8c8 : ByteArray := prog_35_method_40_code
def yJx4a65c_clear_da8c8 : MethodName := ⟨RJx4a65c, "clear", "()V"⟩
def RJ7 : String := "java/util/Arrays"
def TJ7 : u_T := fun k => match k with
  | _ => ("", "", "", false)
def tyJ7 : Nat → FieldType := fun k => match k with
  | _ => .int
theorem nmJ7 : ∀ a, a < 0 → ∀ b, b < 0 → a ≠ b → (TJ7 a).2.1 ≠ (TJ7 b).2.1 := by decide +kernel
theorem tyJ7_ok : ∀ k, k < 0 → parseFieldDescriptor (TJ7 k).2.2.1 = some (tyJ7 k) := by decide +kernel
abbrev cJ7_fill_d0a16 : ByteArray := prog_36_method_101_code
def yJ7_fill_d0a16 : MethodName := ⟨RJ7, "fill", "([JJ)V"⟩
abbrev cJ7_fill_53178 : ByteArray := prog_36_method_103_code
def yJ7_fill_53178 : MethodName := ⟨RJ7, "fill", "([II)V"⟩
abbrev cJ7_copyOf_1904c : ByteArray := prog_36_method_119_code
def yJ7_copyOf_1904c : MethodName := ⟨RJ7, "copyOf", "([Ljava/lang/Object;I)[Ljava/lang/Object;"⟩
abbrev cJ7_copyOf_6403c : ByteArray := prog_36_method_120_code
def yJ7_copyOf_6403c : MethodName := ⟨RJ7, "copyOf", "([Ljava/lang/Object;ILjava/lang/Class;)[Ljava/lang/Object;"⟩
def RJx5ef63 : String := "java/util/Collection"
def TJx5ef63 : u_T := fun k => match k with
  | _ => ("", "", "", false)
def tyJx5ef63 : Nat → FieldType := fun k => match k with
  | _ => .int
theorem nmJx5ef63 : ∀ a, a < 0 → ∀ b, b < 0 → a ≠ b → (TJx5ef63 a).2.1 ≠ (TJx5ef63 b).2.1 := by decide +kernel
theorem tyJx5ef63_ok : ∀ k, k < 0 → parseFieldDescriptor (TJx5ef63 k).2.2.1 = some (tyJx5ef63 k) := by decide +kernel
def RJxbd725 : String := "java/util/List"
def TJxbd725 : u_T := fun k => match k with
  | _ => ("", "", "", false)
def tyJxbd725 : Nat → FieldType := fun k => match k with
  | _ => .int
theorem nmJxbd725 : ∀ a, a < 0 → ∀ b, b < 0 → a ≠ b → (TJxbd725 a).2.1 ≠ (TJxbd725 b).2.1 := by decide +kernel
theorem tyJxbd725_ok : ∀ k, k < 0 → parseFieldDescriptor (TJxbd725 k).2.2.1 = some (tyJxbd725 k) := by decide +kernel
def RJ15 : String := "java/util/Objects"
def TJ15 : u_T := fun k => match k with
  | _ => ("", "", "", false)
def tyJ15 : Nat → FieldType := fun k => match k with
  | _ => .int
theorem nmJ15 : ∀ a, a < 0 → ∀ b, b < 0 → a ≠ b → (TJ15 a).2.1 ≠ (TJ15 b).2.1 := by decide +kernel
theorem tyJ15_ok : ∀ k, k < 0 → parseFieldDescriptor (TJ15 k).2.2.1 = some (tyJ15 k) := by decide +kernel
abbrev cJ15_checkIndex_7cf53 : ByteArray := prog_39_method_17_code
def yJ15_checkIndex_7cf53 : MethodName := ⟨RJ15, "checkIndex", "(II)I"⟩
def RJxf0a74 : String := "java/util/RandomAccess"
def TJxf0a74 : u_T := fun k => match k with
  | _ => ("", "", "", false)
def tyJxf0a74 : Nat → FieldType := fun k => match k with
  | _ => .int
theorem nmJxf0a74 : ∀ a, a < 0 → ∀ b, b < 0 → a ≠ b → (TJxf0a74 a).2.1 ≠ (TJxf0a74 b).2.1 := by decide +kernel
theorem tyJxf0a74_ok : ∀ k, k < 0 → parseFieldDescriptor (TJxf0a74 k).2.2.1 = some (tyJxf0a74 k) := by decide +kernel
def RJxa66e6 : String := "java/util/SequencedCollection"
def TJxa66e6 : u_T := fun k => match k with
  | _ => ("", "", "", false)
def tyJxa66e6 : Nat → FieldType := fun k => match k with
  | _ => .int
theorem nmJxa66e6 : ∀ a, a < 0 → ∀ b, b < 0 → a ≠ b → (TJxa66e6 a).2.1 ≠ (TJxa66e6 b).2.1 := by decide +kernel
theorem tyJxa66e6_ok : ∀ k, k < 0 → parseFieldDescriptor (TJxa66e6 k).2.2.1 = some (tyJxa66e6 k) := by decide +kernel
def RJ8 : String := "jdk/internal/util/ArraysSupport"
def TJ8 : u_T := fun k => match k with
  | _ => ("", "", "", false)
def tyJ8 : Nat → FieldType := fun k => match k with
  | _ => .int
theorem nmJ8 : ∀ a, a < 0 → ∀ b, b < 0 → a ≠ b → (TJ8 a).2.1 ≠ (TJ8 b).2.1 := by decide +kernel
theorem tyJ8_ok : ∀ k, k < 0 → parseFieldDescriptor (TJ8 k).2.2.1 = some (tyJ8 k) := by decide +kernel
abbrev cJ8_newLength_cabcc : ByteArray := prog_42_method_27_code
def yJ8_newLength_cabcc : MethodName := ⟨RJ8, "newLength", "(III)I"⟩
abbrev cJ8_hugeLength_7cf53 : ByteArray := prog_42_method_28_code
def yJ8_hugeLength_7cf53 : MethodName := ⟨RJ8, "hugeLength", "(II)I"⟩
def RJ3 : String := "jdk/internal/util/Preconditions"
def TJ3 : u_T := fun k => match k with
  | _ => ("", "", "", false)
def tyJ3 : Nat → FieldType := fun k => match k with
  | _ => .int
theorem nmJ3 : ∀ a, a < 0 → ∀ b, b < 0 → a ≠ b → (TJ3 a).2.1 ≠ (TJ3 b).2.1 := by decide +kernel
theorem tyJ3_ok : ∀ k, k < 0 → parseFieldDescriptor (TJ3 k).2.2.1 = some (tyJ3 k) := by decide +kernel
abbrev cJ3_checkIndex_8e157 : ByteArray := prog_43_method_11_code
def yJ3_checkIndex_8e157 : MethodName := ⟨RJ3, "checkIndex", "(IILjava/util/function/BiFunction;)I"⟩
def RL : String := "RuleForgeLaw"
abbrev cL_sort : ByteArray := method_3_code
def yL_sort : MethodName := ⟨RL, "sort", "(LRuleForge;[J)I"⟩
abbrev cL_below : ByteArray := method_4_code
def yL_below : MethodName := ⟨RL, "below", "(LRuleForge;II[J)I"⟩
abbrev cL_variable : ByteArray := method_5_code
def yL_variable : MethodName := ⟨RL, "variable", "(LRuleForge;II[J)I"⟩
abbrev cL_operator : ByteArray := method_6_code
def yL_operator : MethodName := ⟨RL, "operator", "(LRuleForge;III[J)I"⟩
abbrev cL_declare : ByteArray := method_7_code
def yL_declare : MethodName := ⟨RL, "declare", "(LRuleForge;IIIII[J)I"⟩
abbrev cL_term : ByteArray := method_8_code
def yL_term : MethodName := ⟨RL, "term", "(LRuleForge;I[J)I"⟩
abbrev cL_apply : ByteArray := method_9_code
def yL_apply : MethodName := ⟨RL, "apply", "(LRuleForge;I[J)I"⟩
abbrev cL_keep : ByteArray := method_10_code
def yL_keep : MethodName := ⟨RL, "keep", "(LRuleForge;I[J)I"⟩
abbrev cL_load : ByteArray := method_11_code
def yL_load : MethodName := ⟨RL, "load", "(LRuleForge;I[J)I"⟩
abbrev cL_sortOf : ByteArray := method_12_code
def yL_sortOf : MethodName := ⟨RL, "sortOf", "(LRuleForge;[J)I"⟩
abbrev cL_code : ByteArray := method_13_code
def yL_code : MethodName := ⟨RL, "code", "(LRuleForge;I[J)I"⟩
abbrev cL_matches : ByteArray := method_14_code
def yL_matches : MethodName := ⟨RL, "matches", "(LRuleForge;[J)I"⟩
abbrev cL_matchesAnew : ByteArray := method_15_code
def yL_matchesAnew : MethodName := ⟨RL, "matchesAnew", "(LRuleForge;[J)I"⟩
abbrev cL_match : ByteArray := method_16_code
def yL_match : MethodName := ⟨RL, "match", "(LRuleForge;II[J)I"⟩
abbrev cL_tell : ByteArray := method_17_code
def yL_tell : MethodName := ⟨RL, "tell", "(LRuleForge;ZZ[J)I"⟩
abbrev cL_reduce : ByteArray := method_18_code
def yL_reduce : MethodName := ⟨RL, "reduce", "(LRuleForge;[J)I"⟩
abbrev cL_fitting : ByteArray := method_19_code
def yL_fitting : MethodName := ⟨RL, "fitting", "(LRuleForge;[J)I"⟩
abbrev cL_matching : ByteArray := method_20_code
def yL_matching : MethodName := ⟨RL, "matching", "(LRuleForge;[J)I"⟩
abbrev cL_search : ByteArray := method_21_code
def yL_search : MethodName := ⟨RL, "search", "(LRuleForge;[J)I"⟩
abbrev cL_state : ByteArray := method_22_code
def yL_state : MethodName := ⟨RL, "state", "(LRuleForge;I[J)I"⟩
abbrev cL_cameBy : ByteArray := method_23_code
def yL_cameBy : MethodName := ⟨RL, "cameBy", "(LRuleForge;I[J)I"⟩
abbrev cL_finds : ByteArray := method_24_code
def yL_finds : MethodName := ⟨RL, "finds", "(LRuleForge;I[J)I"⟩
abbrev cL_holds : ByteArray := method_25_code
def yL_holds : MethodName := ⟨RL, "holds", "(LRuleForge;I[J)I"⟩
abbrev cL_use : ByteArray := method_26_code
def yL_use : MethodName := ⟨RL, "use", "(LRuleForge;I[J)I"⟩
abbrev cL_idle : ByteArray := method_27_code
def yL_idle : MethodName := ⟨RL, "idle", "(LRuleForge;[J)I"⟩
abbrev cL_test : ByteArray := method_28_code
def yL_test : MethodName := ⟨RL, "test", "(LRuleForge;[J)I"⟩
abbrev cL_both : ByteArray := method_29_code
def yL_both : MethodName := ⟨RL, "both", "(LRuleForge;Z[J)I"⟩
abbrev cL_many : ByteArray := method_30_code
def yL_many : MethodName := ⟨RL, "many", "(LRuleForge;[J)I"⟩
abbrev cL_run : ByteArray := method_31_code
def yL_run : MethodName := ⟨RL, "run", "(LRuleForge;[J)I"⟩
abbrev cL_joins : ByteArray := method_32_code
def yL_joins : MethodName := ⟨RL, "joins", "(LRuleForge;I[J)I"⟩
abbrev cL_weight : ByteArray := method_33_code
def yL_weight : MethodName := ⟨RL, "weight", "(LRuleForge;III[J)I"⟩
abbrev cL_descends : ByteArray := method_34_code
def yL_descends : MethodName := ⟨RL, "descends", "(LRuleForge;I[J)I"⟩
abbrev cL_view : ByteArray := method_35_code
def yL_view : MethodName := ⟨RL, "view", "(LRuleForge;II[J)I"⟩
abbrev cL_copy : ByteArray := method_36_code
def yL_copy : MethodName := ⟨RL, "copy", "(LRuleForge;I[J)I"⟩
abbrev cL_law : ByteArray := code
def yL_law : MethodName := ⟨RL, "law", "([I)Z"⟩
abbrev vwCl : List vw_C := [(RJx4a65c, TJx4a65c, 3), (RX0, TX0, 14), (RX1, TX1, 9), (RX2, TX2, 5), (RX3, TX3, 16), (RX4, TX4, 16), (RX5, TX5, 9), (RX6, TX6, 10), (RX7, TX7, 11), (RX8, TX8, 11), (RX9, TX9, 15), (RX10, TX10, 10), (RX11, TX11, 2), (RX12, TX12, 6), (RX13, TX13, 6), (RX14, TX14, 6), (RX15, TX15, 1), (RX16, TX16, 6), (RX17, TX17, 45)]
end
section
/-! two lists, place by place -/
def F2 {α β : Type} (R : α → β → Prop) : List α → List β → Prop
  | [], [] => True
  | a :: l, b :: m => R a b ∧ F2 R l m
  | [], _ :: _ => False
  | _ :: _, [] => False
theorem F2_nil {α β : Type} {R : α → β → Prop} {m : List β} (h : F2 R [] m) : m = [] := by
  cases m with
  | nil => rfl
  | cons b m => exact (show False from h).elim
theorem F2_nilR {α β : Type} {R : α → β → Prop} {l : List α} (h : F2 R l []) : l = [] := by
  cases l with
  | nil => rfl
  | cons b m => exact (show False from h).elim
theorem F2_cons {α β : Type} {R : α → β → Prop} {a : α} {l : List α} {m : List β} (h : F2 R (a :: l) m) : ∃ b m', m = b :: m' ∧ R a b ∧ F2 R l m' := by
  cases m with
  | nil => exact (show False from h).elim
  | cons b m => exact ⟨b, m, rfl, (show R a b ∧ F2 R l m from h).1, (show R a b ∧ F2 R l m from h).2⟩
theorem F2_mk {α β : Type} {R : α → β → Prop} {a : α} {b : β} {l : List α} {m : List β} (h1 : R a b) (h2 : F2 R l m) : F2 R (a :: l) (b :: m) := (show R a b ∧ F2 R l m from ⟨h1, h2⟩)
theorem F2_0 {α β : Type} {R : α → β → Prop} : F2 R [] [] := trivial
theorem F2_get {α β : Type} {R : α → β → Prop} {l : List α} {m : List β} (h : F2 R l m) {i : Nat} {a : α} (hi : l[i]? = some a) : ∃ b, m[i]? = some b ∧ R a b := by
  induction l generalizing m i with
  | nil => simp at hi
  | cons x l ih =>
    obtain ⟨b, m', rfl, h1, h2⟩ := F2_cons h
    cases i with
    | zero => simp at hi; subst hi; exact ⟨b, rfl, h1⟩
    | succ i => simp at hi; obtain ⟨b', hb, hr⟩ := ih h2 hi; exact ⟨b', by simpa using hb, hr⟩
theorem F2_len {α β : Type} {R : α → β → Prop} {l : List α} {m : List β} (h : F2 R l m) : l.length = m.length := by
  induction l generalizing m with
  | nil => rw [F2_nil h]; rfl
  | cons x l ih =>
    obtain ⟨b, m', rfl, h1, h2⟩ := F2_cons h
    simp [ih h2]
theorem F2_mono {α β : Type} {R R' : α → β → Prop} (hR : ∀ a b, R a b → R' a b) {l : List α} {m : List β} (h : F2 R l m) : F2 R' l m := by
  induction l generalizing m with
  | nil => rw [F2_nil h]; trivial
  | cons x l ih =>
    obtain ⟨b, m', rfl, h1, h2⟩ := F2_cons h
    exact F2_mk (hR _ _ h1) (ih h2)
theorem F2_set {α β : Type} {R : α → β → Prop} {l : List α} {m : List β} (h : F2 R l m) (i : Nat) {a : α} {b : β} (hab : R a b) : F2 R (l.set i a) (m.set i b) := by
  induction l generalizing m i with
  | nil => rw [F2_nil h]; exact F2_0
  | cons x l ih =>
    obtain ⟨b', m', rfl, h1, h2⟩ := F2_cons h
    cases i with
    | zero => exact F2_mk hab h2
    | succ i => exact F2_mk h1 (ih h2 i)
theorem F2_app {α β : Type} {R : α → β → Prop} {l l' : List α} {m m' : List β} (h : F2 R l m) (h' : F2 R l' m') : F2 R (l ++ l') (m ++ m') := by
  induction l generalizing m with
  | nil => rw [F2_nil h]; exact h'
  | cons x l ih =>
    obtain ⟨b, m', rfl, h1, h2⟩ := F2_cons h
    exact F2_mk h1 (ih h2)
theorem F2_rev {α β : Type} {R : α → β → Prop} {l : List α} {m : List β} (h : F2 R l m) : F2 R l.reverse m.reverse := by
  induction l generalizing m with
  | nil => rw [F2_nil h]; exact F2_0
  | cons x l ih =>
    obtain ⟨b, m', rfl, h1, h2⟩ := F2_cons h
    simp only [List.reverse_cons]
    exact F2_app (ih h2) (F2_mk h1 F2_0)
theorem F2_take {α β : Type} {R : α → β → Prop} {l : List α} {m : List β} (h : F2 R l m) (n : Nat) : F2 R (l.take n) (m.take n) ∧ F2 R (l.drop n) (m.drop n) := by
  induction l generalizing m n with
  | nil => rw [F2_nil h]; simp [F2]
  | cons x l ih =>
    obtain ⟨b, m', rfl, h1, h2⟩ := F2_cons h
    cases n with
    | zero => exact ⟨F2_0, F2_mk h1 h2⟩
    | succ n => exact ⟨F2_mk h1 (ih h2 n).1, (ih h2 n).2⟩
theorem F2_filter {α β : Type} {R : α → β → Prop} {p : α → Bool} {q : β → Bool} (hpq : ∀ a b, R a b → p a = q b) {l : List α} {m : List β} (h : F2 R l m) : F2 R (l.filter p) (m.filter q) := by
  induction l generalizing m with
  | nil => rw [F2_nil h]; exact F2_0
  | cons x l ih =>
    obtain ⟨b, m', rfl, h1, h2⟩ := F2_cons h
    have e := hpq _ _ h1
    cases hq : q b with
    | true => rw [List.filter_cons_of_pos (e.trans hq), List.filter_cons_of_pos hq]; exact F2_mk h1 (ih h2)
    | false =>
      rw [List.filter_cons_of_neg (by rw [e, hq]; decide), List.filter_cons_of_neg (by rw [hq]; decide)]; exact ih h2
/-! numbers -/
def m32 : Nat := 4294967296
def h31 : Nat := 2147483648
theorem nI_tn (n : Nat) : (nI n).toBitVec.toNat = n % 4294967296 := by
  show (BitVec.ofNat 32 n).toNat = n % 4294967296
  rw [BitVec.toNat_ofNat]
theorem nI_mod (n : Nat) : nI (n % 4294967296) = nI n := by
  apply Int32.toBitVec_inj.mp
  apply BitVec.eq_of_toNat_eq
  rw [nI_tn, nI_tn, Nat.mod_mod]
theorem nI_of_tn {x : Int32} {n : Nat} (h : x.toBitVec.toNat = n % 4294967296) : x = nI n := by
  apply Int32.toBitVec_inj.mp
  apply BitVec.eq_of_toNat_eq
  rw [h, nI_tn]
theorem nI_subG (a b : Nat) : nI a - nI b = nI ((a + (4294967296 - b % 4294967296)) % 4294967296) := by
  apply nI_of_tn
  have h : (nI a - nI b).toBitVec = (nI a).toBitVec - (nI b).toBitVec := rfl
  rw [h, BitVec.toNat_sub, nI_tn, nI_tn]
  omega
theorem nI_addG (a b : Nat) : nI a + nI b = nI ((a + b) % 4294967296) := by rw [nI_mod, nI_add]
theorem nI_mulG (a b : Nat) : nI a * nI b = nI ((a * b) % 4294967296) := by rw [nI_mod, pk_mul]
/-- where an int lies among all, from the least on -/
def off (x : Int32) : Nat := (x.toInt + 2147483648).toNat
theorem off_lt (x : Int32) : off x < 4294967296 := by
  have h1 := Int32.toInt_lt x
  have h2 := Int32.le_toInt x
  unfold off; omega
theorem off_le (x y : Int32) : x ≤ y ↔ off x ≤ off y := by
  have h1 := Int32.le_toInt x
  have h2 := Int32.le_toInt y
  rw [Int32.le_iff_toInt_le]; unfold off; omega
theorem off_ltI (x y : Int32) : x < y ↔ off x < off y := by
  have h1 := Int32.le_toInt x
  have h2 := Int32.le_toInt y
  rw [Int32.lt_iff_toInt_lt]; unfold off; omega
theorem off_eq (x y : Int32) : x = y ↔ off x = off y := by
  have h1 := Int32.le_toInt x
  have h2 := Int32.le_toInt y
  rw [← Int32.toInt_inj]; unfold off; omega
theorem off_nI (n : Nat) : off (nI n) = (n + 2147483648) % 4294967296 := by
  have h : (nI n).toInt = (n : Int).bmod 4294967296 := by simp [nI, Int32.toInt_ofNat]
  unfold off; rw [h, Int.bmod_def]
  split <;> omega
end
section
/-! values as the run by numbers sees them: inl n: the int n; then: the k-th symbol; the cell i; null, or the long n; 0 some reference, 1 some int, 2 the script, 3 the library's empty row -/
abbrev AV : Type := Nat ⊕ Nat ⊕ Nat ⊕ Option Nat ⊕ Nat
abbrev GV : Type := List Int32 × Nat × Nat
abbrev Als : Type := List (Nat × AV)
def vrel (g : GV) (ρ : List Nat) : AV → Value → Prop
  | .inl n, v => v = .int (nI n)
  | .inr (.inl k), v => ∃ x, g.1[k]? = some x ∧ v = .int x
  | .inr (.inr (.inl i)), v => ∃ a, ρ[i]? = some a ∧ v = .ref a
  | .inr (.inr (.inr (.inl none))), v => v = .null
  | .inr (.inr (.inr (.inl (some n)))), v => v = .long (lN n)
  | .inr (.inr (.inr (.inr 0))), v => ∃ a, v = .ref a
  | .inr (.inr (.inr (.inr 1))), v => ∃ x, v = .int x
  | .inr (.inr (.inr (.inr 2))), v => v = .ref g.2.1
  | .inr (.inr (.inr (.inr 3))), v => v = .ref g.2.2
  | .inr (.inr (.inr (.inr _))), _ => False
def isI : AV → Bool
  | .inl _ => true
  | .inr (.inl _) => true
  | .inr (.inr (.inr (.inr 1))) => true
  | _ => false
def isR : AV → Bool
  | .inr (.inr (.inl _)) => true
  | .inr (.inr (.inr (.inr 0))) => true
  | .inr (.inr (.inr (.inr 2))) => true
  | .inr (.inr (.inr (.inr 3))) => true
  | _ => false
def isN : AV → Bool
  | .inr (.inr (.inr (.inl none))) => true
  | _ => false
def acat : AV → Nat
  | .inr (.inr (.inr (.inl (some _)))) => 2
  | _ => 1
theorem vint {g : GV} {ρ : List Nat} {a : AV} {v : Value} (h : isI a = true) (hr : vrel g ρ a v) : ∃ x, v = .int x := by
  match a, h, hr with
  | .inl n, _, hr => exact ⟨_, hr⟩
  | .inr (.inl k), _, hr => obtain ⟨x, -, e⟩ := hr; exact ⟨x, e⟩
  | .inr (.inr (.inr (.inr 1))), _, hr => exact hr
theorem vref {g : GV} {ρ : List Nat} {a : AV} {v : Value} (h : isR a = true) (hr : vrel g ρ a v) : ∃ x, v = .ref x := by
  match a, h, hr with
  | .inr (.inr (.inl k)), _, hr => obtain ⟨x, -, e⟩ := hr; exact ⟨x, e⟩
  | .inr (.inr (.inr (.inr 0))), _, hr => exact hr
  | .inr (.inr (.inr (.inr 2))), _, hr => exact ⟨_, hr⟩
  | .inr (.inr (.inr (.inr 3))), _, hr => exact ⟨_, hr⟩
theorem vnul {g : GV} {ρ : List Nat} {a : AV} {v : Value} (h : isN a = true) (hr : vrel g ρ a v) : v = .null := by
  match a, h, hr with
  | .inr (.inr (.inr (.inl none))), _, hr => exact hr
theorem vcat {g : GV} {ρ : List Nat} {a : AV} {v : Value} (hr : vrel g ρ a v) : v.category = acat a := by
  match a, hr with
  | .inl n, hr => rw [show v = _ from hr]; rfl
  | .inr (.inl k), hr => obtain ⟨x, -, rfl⟩ := hr; rfl
  | .inr (.inr (.inl k)), hr => obtain ⟨x, -, rfl⟩ := hr; rfl
  | .inr (.inr (.inr (.inl none))), hr => rw [show v = _ from hr]; rfl
  | .inr (.inr (.inr (.inl (some n)))), hr => rw [show v = _ from hr]; rfl
  | .inr (.inr (.inr (.inr 0))), hr => obtain ⟨x, rfl⟩ := hr; rfl
  | .inr (.inr (.inr (.inr 1))), hr => obtain ⟨x, rfl⟩ := hr; rfl
  | .inr (.inr (.inr (.inr 2))), hr => rw [show v = _ from hr]; rfl
  | .inr (.inr (.inr (.inr 3))), hr => rw [show v = _ from hr]; rfl
  | .inr (.inr (.inr (.inr (n + 4)))), hr => exact (show False from hr).elim
/-- more cells don't change what is said of a value -/
theorem vrel_more {g : GV} {ρ ρ' : List Nat} (h : ∀ (i a : Nat), ρ[i]? = some a → ρ'[i]? = some a) {a : AV} {v : Value} (hr : vrel g ρ a v) : vrel g ρ' a v := by
  match a, hr with
  | .inl n, hr => exact hr
  | .inr (.inl k), hr => exact hr
  | .inr (.inr (.inl k)), hr => obtain ⟨x, e, rfl⟩ := hr; exact ⟨x, h _ _ e, rfl⟩
  | .inr (.inr (.inr (.inl none))), hr => exact hr
  | .inr (.inr (.inr (.inl (some n)))), hr => exact hr
  | .inr (.inr (.inr (.inr 0))), hr => exact hr
  | .inr (.inr (.inr (.inr 1))), hr => exact hr
  | .inr (.inr (.inr (.inr 2))), hr => exact hr
  | .inr (.inr (.inr (.inr 3))), hr => exact hr
  | .inr (.inr (.inr (.inr (n + 4)))), hr => exact (show False from hr).elim
/-! the bounds of an int -/
def ivl (bnd : List (Nat × Nat)) : AV → Option (Nat × Nat)
  | .inl n => some ((n + 2147483648) % 4294967296, (n + 2147483648) % 4294967296)
  | .inr (.inl k) => bnd[k]?
  | .inr (.inr (.inr (.inr 1))) => some (0, 4294967295)
  | _ => none
def Bd (g : GV) (bnd : List (Nat × Nat)) : Prop := ∀ (k : Nat) (q : Nat × Nat), bnd[k]? = some q → ∀ x, g.1[k]? = some x → q.1 ≤ off x ∧ off x ≤ q.2
theorem ivl_ok {g : GV} {ρ : List Nat} {bnd : List (Nat × Nat)} (hB : Bd g bnd) {a : AV} {v : Value} {q : Nat × Nat} (h : ivl bnd a = some q) (hr : vrel g ρ a v) : ∃ x, v = .int x ∧ q.1 ≤ off x ∧ off x ≤ q.2 := by
  match a, h, hr with
  | .inl n, h, hr =>
    have h : some ((n + 2147483648) % 4294967296, (n + 2147483648) % 4294967296) = some q := h
    have e := Option.some.inj h
    refine ⟨_, hr, ?_⟩
    rw [off_nI, ← e]; exact ⟨Nat.le_refl _, Nat.le_refl _⟩
  | .inr (.inl k), h, hr => obtain ⟨x, e, rfl⟩ := hr; exact ⟨x, rfl, hB k q h x e⟩
  | .inr (.inr (.inr (.inr 1))), h, hr =>
    have h : some (0, 4294967295) = some q := h
    have e := Option.some.inj h
    obtain ⟨x, rfl⟩ := hr
    have := off_lt x
    rw [← e]
    exact ⟨x, rfl, Nat.zero_le _, by show off x ≤ 4294967295; omega⟩
def ilt (i j : Nat × Nat) : Option Bool := if i.2 < j.1 then some true else if j.2 ≤ i.1 then some false else none
def ieq (i j : Nat × Nat) : Option Bool := if i.2 < j.1 then some false else if j.2 < i.1 then some false else if i.1 = i.2 then (if j.1 = j.2 then (if i.1 = j.1 then some true else none) else none) else none
def icmp (c : Jvm.ClassFile.Cond) (i j : Nat × Nat) : Option Bool :=
  match c with
  | .eq => ieq i j
  | .ne => (ieq i j).map (fun b => !b)
  | .lt => ilt i j
  | .ge => (ilt i j).map (fun b => !b)
  | .gt => ilt j i
  | .le => (ilt j i).map (fun b => !b)
def cprop (c : Jvm.ClassFile.Cond) (x y : Int32) : Prop :=
  match c with
  | .eq => x = y
  | .ne => ¬ x = y
  | .lt => x < y
  | .ge => y ≤ x
  | .gt => y < x
  | .le => x ≤ y
theorem ilt_ok {i j : Nat × Nat} {x y : Int32} (hx : i.1 ≤ off x ∧ off x ≤ i.2) (hy : j.1 ≤ off y ∧ off y ≤ j.2) {r : Bool} (h : ilt i j = some r) : x < y ↔ r = true := by
  rw [off_ltI]
  unfold ilt at h
  split at h
  · cases h; simp; omega
  · split at h
    · cases h; simp; omega
    · cases h
theorem ieq_ok {i j : Nat × Nat} {x y : Int32} (hx : i.1 ≤ off x ∧ off x ≤ i.2) (hy : j.1 ≤ off y ∧ off y ≤ j.2) {r : Bool} (h : ieq i j = some r) : x = y ↔ r = true := by
  rw [off_eq]
  unfold ieq at h
  split at h
  · cases h; simp; omega
  · split at h
    · cases h; simp; omega
    · split at h
      · split at h
        · split at h
          · cases h; simp; omega
          · cases h
        · cases h
      · cases h
theorem not_lt32 (x y : Int32) : ¬ x < y ↔ y ≤ x := by rw [off_ltI, off_le]; omega
theorem map_not {o : Option Bool} {r : Bool} (h : o.map (fun b => !b) = some r) : o = some (!r) := by
  cases o with
  | none => cases h
  | some b => simp at h; simp [← h]
theorem icmp_ok {i j : Nat × Nat} {x y : Int32} (hx : i.1 ≤ off x ∧ off x ≤ i.2) (hy : j.1 ≤ off y ∧ off y ≤ j.2) {c : Jvm.ClassFile.Cond} {r : Bool} (h : icmp c i j = some r) : cprop c x y ↔ r = true := by
  cases c with
  | eq => exact ieq_ok hx hy h
  | ne =>
    have := ieq_ok hx hy (map_not h)
    show ¬ x = y ↔ _
    rw [this]; simp
  | lt => exact ilt_ok hx hy h
  | ge =>
    have := ilt_ok hx hy (map_not h)
    show y ≤ x ↔ _
    rw [← not_lt32, this]; simp
  | gt => exact ilt_ok hy hx h
  | le =>
    have := ilt_ok hy hx (map_not h)
    show x ≤ y ↔ _
    rw [← not_lt32, this]; simp
/-! locals -/
def llk : Als → Nat → Option AV
  | [], _ => none
  | q :: l, i => match Nat.beq q.1 i with
    | true => some q.2
    | false => llk l i
def lst (l : Als) (i : Nat) (a : AV) : Als := (i, a) :: l.filter (fun q => !(q.1 == i) && !(q.1 + 1 == i && acat q.2 == 2))
def LR (g : GV) (ρ : List Nat) (nL : Nat) (als : Als) (ls : Array Slot) : Prop := ∃ lv : List (Nat × Value), lv_has ls nL lv ∧ F2 (fun (a : Nat × AV) (q : Nat × Value) => a.1 = q.1 ∧ vrel g ρ a.2 q.2) als lv
theorem llk_mem {als : Als} {i : Nat} {a : AV} (h : llk als i = some a) : ∃ k : Nat, als[k]? = some (i, a) := by
  induction als with
  | nil => cases h
  | cons q l ih =>
    unfold llk at h
    cases hb : Nat.beq q.1 i with
    | true =>
      rw [hb] at h
      have h : some q.2 = some a := h
      cases h
      exact ⟨0, by simp [← Nat.eq_of_beq_eq_true hb]⟩
    | false =>
      rw [hb] at h
      obtain ⟨k, hk⟩ := ih h
      exact ⟨k + 1, by simpa using hk⟩
theorem LR_at {g : GV} {ρ : List Nat} {nL : Nat} {als : Als} {ls : Array Slot} (hL : LR g ρ nL als ls) {i : Nat} {a : AV} (h : llk als i = some a) : ∃ v, ls[i]? = some (.val v) ∧ vrel g ρ a v := by
  obtain ⟨lv, h1, h2⟩ := hL
  obtain ⟨k, hk⟩ := llk_mem h
  obtain ⟨q, hq, e, hr⟩ := F2_get h2 hk
  refine ⟨q.2, lv_at h1 k (i := i) ?_, hr⟩
  rw [hq]
  have e : i = q.1 := e
  rw [e]
theorem LR_st {g : GV} {ρ : List Nat} {als : Als} {lv : List (Nat × Value)} (h : F2 (fun (a : Nat × AV) (q : Nat × Value) => a.1 = q.1 ∧ vrel g ρ a.2 q.2) als lv) (i : Nat) {a : AV} {v : Value} (hr : vrel g ρ a v) :
    F2 (fun (a : Nat × AV) (q : Nat × Value) => a.1 = q.1 ∧ vrel g ρ a.2 q.2) (lst als i a) ((i, v) :: lv.filter (fun q => !(q.1 == i) && !(q.1 + 1 == i && q.2.category == 2))) := by
  refine F2_mk ⟨rfl, hr⟩ (F2_filter (fun x y hxy => ?_) h)
  rw [hxy.1, vcat hxy.2]
theorem LR_more {g : GV} {ρ ρ' : List Nat} (h : ∀ (i a : Nat), ρ[i]? = some a → ρ'[i]? = some a) {nL : Nat} {als : Als} {ls : Array Slot} (hL : LR g ρ nL als ls) : LR g ρ' nL als ls := by
  obtain ⟨lv, h1, h2⟩ := hL
  exact ⟨lv, h1, F2_mono (fun _ _ q => ⟨q.1, vrel_more h q.2⟩) h2⟩
end
section
/-! the instructions that leave the heap alone -/
def i2n (n : Int) : Nat := (n % 4294967296).toNat
theorem i2n_ok (n : Int) : Int32.ofInt n = nI (i2n n) := by
  apply nI_of_tn
  show (BitVec.ofInt 32 n).toNat = _
  rw [BitVec.toNat_ofInt]
  unfold i2n
  show (n % 4294967296).toNat = _
  have h1 := Int.emod_nonneg n (show (4294967296 : Int) ≠ 0 by decide)
  have h2 := Int.emod_lt_of_pos n (show (0 : Int) < 4294967296 by decide)
  omega
theorem ti_nI {x : Int32} {n : Int} (h1 : -2147483648 ≤ n) (h2 : n < 2147483648) (h : x.toInt = n) : x = nI (i2n n) := by
  rw [← i2n_ok, ← Int32.toInt_inj, h, Int32.toInt_ofInt, Int.bmod_def]
  have h3 := Int.emod_nonneg n (show (4294967296 : Int) ≠ 0 by decide)
  have h4 := Int.emod_lt_of_pos n (show (0 : Int) < 4294967296 by decide)
  have h5 := Int.emod_add_mul_ediv n 4294967296
  show n = if n % 4294967296 < (4294967296 + 1) / 2 then n % 4294967296 else n % 4294967296 - 4294967296
  split <;> omega
theorem bi_ok {n : Int} (h1 : -128 ≤ n) (h2 : n < 128) : (Int8.ofInt n).toInt32 = nI (i2n n) := by
  refine ti_nI (by omega) (by omega) ?_
  rw [Int8.toInt_toInt32, Int8.toInt_ofInt, Int.bmod_def]
  show (if n % 256 < (256 + 1) / 2 then n % 256 else n % 256 - 256) = n
  split <;> omega
theorem si_ok {n : Int} (h1 : -32768 ≤ n) (h2 : n < 32768) : (Int16.ofInt n).toInt32 = nI (i2n n) := by
  refine ti_nI (by omega) (by omega) ?_
  rw [Int16.toInt_toInt32, Int16.toInt_ofInt, Int.bmod_def]
  show (if n % 65536 < (65536 + 1) / 2 then n % 65536 else n % 65536 - 65536) = n
  split <;> omega
theorem and31 (b : Nat) : nI b &&& 31 = nI (b % 32) := by
  have h : (31 : Int32).toBitVec.toNat = 2 ^ 5 - 1 := by decide
  have h2 := pk_and (nI b) 5 h
  rw [h2, nI_tn]
  congr 1
  omega
theorem smod32 : ∀ n, n < 32 → (((nI n).toBitVec).smod 32).toNat = n := by decide +kernel
theorem shl_ok (a b : Nat) : nI a <<< (nI b &&& 31) = nI (a * 2 ^ (b % 32) % 4294967296) := by
  rw [and31]
  apply nI_of_tn
  rw [pk_shl (nI a) (nI (b % 32)) (b % 32) (smod32 _ (Nat.mod_lt _ (by decide))), nI_tn, Nat.mod_mod]
  show a % 4294967296 * 2 ^ (b % 32) % 4294967296 = _
  rw [Nat.mod_mul_mod]
theorem shr_ok {a b : Nat} (h : a < 2147483648) : nI a >>> (nI b &&& 31) = nI (a / 2 ^ (b % 32)) := by
  rw [and31]
  exact pk_shrN h (nI (b % 32)) (b % 32) (smod32 _ (Nat.mod_lt _ (by decide)))
theorem nbit (f : Nat → Nat → Nat) (op : Int32 → Int32 → Int32) (h : ∀ x y : Int32, (op x y).toBitVec.toNat = f x.toBitVec.toNat y.toBitVec.toNat) (hm : ∀ a b : Nat, f (a % 4294967296) (b % 4294967296) % 4294967296 = f (a % 4294967296) (b % 4294967296)) (a b : Nat) : op (nI a) (nI b) = nI (f (a % 4294967296) (b % 4294967296)) := by
  apply nI_of_tn
  rw [h, nI_tn, nI_tn, hm]
theorem and_ok (a b : Nat) : nI a &&& nI b = nI (a % 4294967296 &&& b % 4294967296) := nbit (fun a b => a &&& b) (fun x y => x &&& y) (fun _ _ => BitVec.toNat_and _ _) (fun a b => Nat.mod_eq_of_lt (Nat.lt_of_le_of_lt Nat.and_le_left (Nat.mod_lt _ (by decide)))) a b
theorem or_ok (a b : Nat) : nI a ||| nI b = nI (a % 4294967296 ||| b % 4294967296) := nbit (fun a b => a ||| b) (fun x y => x ||| y) (fun _ _ => BitVec.toNat_or _ _) (fun a b => Nat.mod_eq_of_lt (Nat.or_lt_two_pow (n := 32) (Nat.mod_lt _ (by decide)) (Nat.mod_lt _ (by decide)))) a b
theorem xor_ok (a b : Nat) : nI a ^^^ nI b = nI (a % 4294967296 ^^^ b % 4294967296) := nbit (fun a b => a ^^^ b) (fun x y => x ^^^ y) (fun _ _ => BitVec.toNat_xor _ _) (fun a b => Nat.mod_eq_of_lt (Nat.xor_lt_two_pow (n := 32) (Nat.mod_lt _ (by decide)) (Nat.mod_lt _ (by decide)))) a b
theorem i2l_ok {n : Nat} (h : n < 2147483648) : (nI n).toInt64 = lN n := nI_l h
theorem lcmp_self (x : Int64) : lg_cmp x x = 0 := by simp [lg_cmp]
/-! the run of one of them -/
abbrev P1 : Type := Option (Nat × Als × List AV)
def isRN (a : AV) : Bool := isR a || isN a
def pld (als : Als) (i pc' : Nat) (ast : List AV) (ok : AV → Bool) : P1 :=
  match llk als i with
  | some a => match ok a with
    | true => some (pc', als, a :: ast)
    | false => none
  | none => none
def pst (nL : Nat) (als : Als) (i pc' : Nat) (ast : List AV) (ok : AV → Bool) : P1 :=
  match ast with
  | a :: rest => match ok a with
    | true => if i < nL then some (pc', lst als i a, rest) else none
    | false => none
  | [] => none
def ar2 (f : Nat → Nat → AV) (pc' : Nat) (als : Als) (ast : List AV) : P1 :=
  match ast with
  | .inl b :: .inl a :: rest => some (pc', als, f a b :: rest)
  | b :: a :: rest => match isI a && isI b with
    | true => some (pc', als, .inr (.inr (.inr (.inr 1))) :: rest)
    | false => none
  | _ => none
def unk : AV := .inr (.inr (.inr (.inr 1)))
def tgt (pc : Nat) (o : Int) : Option Nat := if 0 ≤ (pc : Int) + o then some ((pc : Int) + o).toNat else none
def jmp (r : Option Bool) (pc len : Nat) (o : Int) (als : Als) (ast : List AV) : P1 :=
  match tgt pc o with
  | some t => match r with
    | some true => some (t, als, ast)
    | some false => some (pc + len, als, ast)
    | none => none
  | none => none
def cmp2 (bnd : List (Nat × Nat)) (c : Jvm.ClassFile.Cond) (a b : AV) : Option Bool :=
  match ivl bnd a with
  | some i => match ivl bnd b with
    | some j => icmp c i j
    | none => none
  | none => none
def rsame (a b : AV) : Option Bool :=
  match a, b with
  | .inr (.inr (.inl i)), .inr (.inr (.inl j)) => match Nat.beq i j with
    | true => some true
    | false => none
  | .inr (.inr (.inr (.inr 3))), .inr (.inr (.inr (.inr 3))) => some true
  | _, _ => none
def ps1 (bnd : List (Nat × Nat)) (msk nL : Nat) (ins : Instr) (pc : Nat) (als : Als) (ast : List AV) : P1 :=
  match ins with
  | .iconst n => some (pc + 1, als, .inl (i2n n) :: ast)
  | .bipush n => if -128 ≤ n then (if n < 128 then some (pc + 2, als, .inl (i2n n) :: ast) else none) else none
  | .sipush n => if -32768 ≤ n then (if n < 32768 then some (pc + 3, als, .inl (i2n n) :: ast) else none) else none
  | .aconst_null => some (pc + 1, als, .inr (.inr (.inr (.inl none))) :: ast)
  | .iload_n k => pld als k.val (pc + 1) ast isI
  | .iload i => pld als i (pc + 2) ast isI
  | .aload_n k => pld als k.val (pc + 1) ast isRN
  | .aload i => pld als i (pc + 2) ast isRN
  | .istore_n k => pst nL als k.val (pc + 1) ast isI
  | .istore i => pst nL als i (pc + 2) ast isI
  | .astore_n k => pst nL als k.val (pc + 1) ast isRN
  | .astore i => pst nL als i (pc + 2) ast isRN
  | .iinc i c => match llk als i with
    | some (.inl n) => if i < nL then some (pc + 3, lst als i (.inl ((n + i2n c) % 4294967296)), ast) else none
    | _ => none
  | .iadd => ar2 (fun a b => .inl ((a + b) % 4294967296)) (pc + 1) als ast
  | .isub => ar2 (fun a b => .inl ((a + (4294967296 - b % 4294967296)) % 4294967296)) (pc + 1) als ast
  | .imul => ar2 (fun a b => .inl ((a * b) % 4294967296)) (pc + 1) als ast
  | .iand => match ast with
    | .inl 63 :: .inr (.inl 0) :: rest => if msk < 64 then some (pc + 1, als, .inl msk :: rest) else none
    | _ => ar2 (fun a b => .inl (a % 4294967296 &&& b % 4294967296)) (pc + 1) als ast
  | .ior => ar2 (fun a b => .inl (a % 4294967296 ||| b % 4294967296)) (pc + 1) als ast
  | .ixor => ar2 (fun a b => .inl (a % 4294967296 ^^^ b % 4294967296)) (pc + 1) als ast
  | .ishl => ar2 (fun a b => .inl (a * 2 ^ (b % 32) % 4294967296)) (pc + 1) als ast
  | .ishr => ar2 (fun a b => if a < 2147483648 then .inl (a / 2 ^ (b % 32)) else unk) (pc + 1) als ast
  | .idiv => match ast with
    | .inl b :: .inl a :: rest => if a < 2147483648 then (if b < 2147483648 then (if 0 < b then some (pc + 1, als, .inl (a / b) :: rest) else none) else none) else none
    | _ => none
  | .irem => match ast with
    | .inl b :: .inl a :: rest => if a < 2147483648 then (if b < 2147483648 then (if 0 < b then some (pc + 1, als, .inl (a % b) :: rest) else none) else none) else none
    | _ => none
  | .i2l => match ast with
    | .inl a :: rest => if a < 2147483648 then some (pc + 1, als, .inr (.inr (.inr (.inl (some a)))) :: rest) else none
    | _ => none
  | .lcmp => match ast with
    | .inr (.inr (.inr (.inl (some b)))) :: .inr (.inr (.inr (.inl (some a)))) :: rest => if a = b then some (pc + 1, als, .inl 0 :: rest) else none
    | _ => none
  | .dup => match ast with
    | a :: rest => match Nat.beq (acat a) 1 with
      | true => some (pc + 1, als, a :: a :: rest)
      | false => none
    | _ => none
  | .dup_x1 => match ast with
    | a :: b :: rest => match Nat.beq (acat a) 1 && Nat.beq (acat b) 1 with
      | true => some (pc + 1, als, a :: b :: a :: rest)
      | false => none
    | _ => none
  | .dup2 => match ast with
    | a :: b :: rest => match Nat.beq (acat a) 1 && Nat.beq (acat b) 1 with
      | true => some (pc + 1, als, a :: b :: a :: b :: rest)
      | false => none
    | _ => none
  | .pop => match ast with
    | a :: rest => match Nat.beq (acat a) 1 with
      | true => some (pc + 1, als, rest)
      | false => none
    | _ => none
  | .goto o => jmp (some true) pc 3 o als ast
  | .ifCond c o => match ast with
    | a :: rest => jmp (cmp2 bnd c a (.inl 0)) pc 3 o als rest
    | _ => none
  | .if_icmp c o => match ast with
    | b :: a :: rest => jmp (cmp2 bnd c a b) pc 3 o als rest
    | _ => none
  | .ifnull o => match ast with
    | a :: rest => jmp (match isN a with | true => some true | false => match isR a with | true => some false | false => none) pc 3 o als rest
    | _ => none
  | .ifnonnull o => match ast with
    | a :: rest => jmp (match isN a with | true => some false | false => match isR a with | true => some true | false => none) pc 3 o als rest
    | _ => none
  | .if_acmp .eq o => match ast with
    | b :: a :: rest => jmp (rsame a b) pc 3 o als rest
    | _ => none
  | .if_acmp .ne o => match ast with
    | b :: a :: rest => jmp ((rsame a b).map (fun x => !x)) pc 3 o als rest
    | _ => none
  | _ => none
end
section
def ilen : Instr → Nat
  | .bipush _ | .iload _ | .aload _ | .istore _ | .astore _ | .lload _ | .lstore _ | .ldc _ | .newarray _ => 2
  | .sipush _ | .iinc _ _ | .goto _ | .ifCond _ _ | .if_icmp _ _ | .ifnull _ | .ifnonnull _ | .if_acmp _ _ | .getfield _ | .putfield _ | .getstatic _ | .invokevirtual _ | .invokespecial _ | .invokestatic _ | .new _ | .anewarray _ | .checkcast _ | .instanceof _ => 3
  | .invokeinterface _ _ => 5
  | _ => 1
theorem sj {α : Type} {a r : α} (h : some a = some r) : a = r := Option.some.inj h
theorem pld_ok {als : Als} {i pc' : Nat} {ast : List AV} {ok : AV → Bool} {r : Nat × Als × List AV} (h : pld als i pc' ast ok = some r) : ∃ a, llk als i = some a ∧ ok a = true ∧ (pc', als, a :: ast) = r := by
  unfold pld at h
  cases e : llk als i with
  | none => rw [e] at h; cases h
  | some a =>
    rw [e] at h
    cases e2 : ok a with
    | false => simp only [e2] at h; cases h
    | true => simp only [e2] at h; exact ⟨a, rfl, e2, sj h⟩
theorem pst_ok {nL : Nat} {als : Als} {i pc' : Nat} {ast : List AV} {ok : AV → Bool} {r : Nat × Als × List AV} (h : pst nL als i pc' ast ok = some r) : ∃ a rest, ast = a :: rest ∧ ok a = true ∧ i < nL ∧ (pc', lst als i a, rest) = r := by
  unfold pst at h
  cases ast with
  | nil => cases h
  | cons a rest =>
    cases e2 : ok a with
    | false => simp only [e2] at h; cases h
    | true =>
      simp only [e2] at h
      split at h
      · exact ⟨a, rest, rfl, e2, by assumption, sj h⟩
      · cases h
theorem jmp_ok {r : Option Bool} {pc len : Nat} {o : Int} {als : Als} {ast : List AV} {q : Nat × Als × List AV} (h : jmp r pc len o als ast = some q) :
    ∃ t : Nat, (pc : Int) + o = (t : Int) ∧ ((r = some true ∧ (t, als, ast) = q) ∨ (r = some false ∧ (pc + len, als, ast) = q)) := by
  unfold jmp at h
  unfold tgt at h
  by_cases h0 : 0 ≤ (pc : Int) + o
  · rw [if_pos h0] at h
    refine ⟨((pc : Int) + o).toNat, by omega, ?_⟩
    match r, h with
    | none, h => cases h
    | some false, h => exact Or.inr ⟨rfl, sj h⟩
    | some true, h => exact Or.inl ⟨rfl, sj h⟩
  · rw [if_neg h0] at h; cases h
theorem beq1 {n : Nat} (h : Nat.beq n 1 = true) : n = 1 := Nat.eq_of_beq_eq_true h
section OK
variable {p : Program} {l : Launch} {e : Env} {R : Room} {s : State} {m : MethodId} {args : Array Value} {below : List Frame} {meth : Method} {c : Code} {H : Heap} {locs : List Loc} {cells slots : Nat} {Q : State → Prop} {cc : ByteArray} {pc : Nat} {ls : Array Slot} {st : List Value}
variable {g : GV} {ρ : List Nat} {bnd : List (Nat × Nat)} {msk nL : Nat} {als : Als} {ast : List AV} {r : Nat × Als × List AV}
theorem ar2_ok {f : Nat → Nat → AV} {pc' : Nat} (op : Int32 → Int32 → Int32) (h : ar2 f pc' als ast = some r) (hf : ∀ a b : Nat, vrel g ρ (f a b) (.int (op (nI a) (nI b)))) (hS : F2 (vrel g ρ) ast st) (row : ∀ (x y : Int32) (rest : List Value), W p l e R s m args below meth c H locs cells slots Q (F0 m pc' ls (.int (op x y) :: rest)) → W p l e R s m args below meth c H locs cells slots Q (F0 m pc ls (.int y :: .int x :: rest)))
    (k : ∀ st', r.1 = pc' → r.2.1 = als → F2 (vrel g ρ) r.2.2 st' → W p l e R s m args below meth c H locs cells slots Q (F0 m pc' ls st')) : W p l e R s m args below meth c H locs cells slots Q (F0 m pc ls st) := by
  have key : ∀ (b a : AV) (rest : List AV), ast = b :: a :: rest → ar2 f pc' als ast = some r → ∃ (x y : Int32) (vs : List Value) (d : AV), st = .int y :: .int x :: vs ∧ (pc', als, d :: rest) = r ∧ vrel g ρ d (.int (op x y)) ∧ F2 (vrel g ρ) rest vs := by
    intro b a rest e1 h
    subst e1
    obtain ⟨vb, st1, rfl, hb1, hS1⟩ := F2_cons hS
    obtain ⟨va, vs, rfl, ha1, hS2⟩ := F2_cons hS1
    have gen : ∀ (u : isI a = true) (v : isI b = true), (pc', als, .inr (.inr (.inr (.inr 1))) :: rest) = r → ∃ (x y : Int32) (ws : List Value) (d : AV), vb :: va :: vs = .int y :: .int x :: ws ∧ (pc', als, d :: rest) = r ∧ vrel g ρ d (.int (op x y)) ∧ F2 (vrel g ρ) rest ws := by
      intro u v e
      obtain ⟨x, rfl⟩ := vint u ha1
      obtain ⟨y, rfl⟩ := vint v hb1
      exact ⟨x, y, vs, _, rfl, e, ⟨_, rfl⟩, hS2⟩
    have gen2 : (match isI a && isI b with | true => some (pc', als, (.inr (.inr (.inr (.inr 1))) : AV) :: rest) | false => none) = some r → ∃ (x y : Int32) (ws : List Value) (d : AV), vb :: va :: vs = .int y :: .int x :: ws ∧ (pc', als, d :: rest) = r ∧ vrel g ρ d (.int (op x y)) ∧ F2 (vrel g ρ) rest ws := by
      intro h
      cases u : isI a <;> cases v : isI b <;> simp only [u, v] at h
      · cases h
      · cases h
      · cases h
      · exact gen u v (sj h)
    match b, a, h, hb1, ha1, gen2 with
    | .inl b, .inl a, h, hb1, ha1, _ =>
      rw [show vb = _ from hb1, show va = _ from ha1]
      exact ⟨_, _, _, _, rfl, sj h, hf a b, hS2⟩
    | .inl b, .inr a, h, _, _, gen2 => exact gen2 h
    | .inr b, .inl a, h, _, _, gen2 => exact gen2 h
    | .inr b, .inr a, h, _, _, gen2 => exact gen2 h
  match ast, h, key with
  | [], h, _ => cases h
  | [.inl b], h, _ => cases h
  | [.inr b], h, _ => cases h
  | b :: a :: rest, h, key =>
    obtain ⟨x, y, vs, d, rfl, e, hd, hr⟩ := key b a rest rfl h
    subst e
    exact row x y vs (k _ rfl rfl (F2_mk hd hr))
end OK
end
section
section OK2
variable {p : Program} {l : Launch} {e : Env} {R : Room} {s : State} {m : MethodId} {args : Array Value} {below : List Frame} {meth : Method} {c : Code} {H : Heap} {locs : List Loc} {cells slots : Nat} {Q : State → Prop} {cc : ByteArray} {pc : Nat} {ls : Array Slot} {st : List Value}
variable {g : GV} {ρ : List Nat} {bnd : List (Nat × Nat)} {msk nL : Nat} {als : Als} {ast : List AV} {r : Nat × Als × List AV}
theorem rn_ok {a : AV} {v : Value} (h : isRN a = true) (hr : vrel g ρ a v) : v = .null ∨ ∃ x, v = .ref x := by
  unfold isRN at h
  cases u : isR a with
  | true => exact Or.inr (vref u hr)
  | false => rw [u] at h; exact Or.inl (vnul (by simpa using h) hr)
theorem cmp2_ok (hB : Bd g bnd) {cd : Jvm.ClassFile.Cond} {a b : AV} {v w : Value} {q : Bool} (h : cmp2 bnd cd a b = some q) (ha : vrel g ρ a v) (hb : vrel g ρ b w) : ∃ x y, v = .int x ∧ w = .int y ∧ (cprop cd x y ↔ q = true) := by
  unfold cmp2 at h
  cases e1 : ivl bnd a with
  | none => rw [e1] at h; cases h
  | some i =>
    rw [e1] at h
    cases e2 : ivl bnd b with
    | none => simp only [e2] at h; cases h
    | some j =>
      simp only [e2] at h
      obtain ⟨x, rfl, hx⟩ := ivl_ok hB e1 ha
      obtain ⟨y, rfl, hy⟩ := ivl_ok hB e2 hb
      exact ⟨x, y, rfl, rfl, icmp_ok hx hy h⟩
theorem icmp_row (hx : p.tables.exec = Jvm.exec) (hb : c.code = cc) {cd : Jvm.ClassFile.Cond} {o : Int} (hd : decode cc pc = .ok (.if_icmp cd o, 3)) {x y : Int32} {q : Bool} (hq : cprop cd x y ↔ q = true) {rest : List Value} {t : Nat} (ht : (pc : Int) + o = (t : Int))
    (kt : q = true → W p l e R s m args below meth c H locs cells slots Q (F0 m t ls rest)) (kf : q = false → W p l e R s m args below meth c H locs cells slots Q (F0 m (pc + 3) ls rest)) : W p l e R s m args below meth c H locs cells slots Q (F0 m pc ls (.int y :: .int x :: rest)) := by
  have nf : ¬ cprop cd x y → q = false := fun h => by
    cases q with
    | true => exact absurd (hq.mpr rfl) h
    | false => rfl
  by_cases hc : cprop cd x y
  · have kt := kt (hq.mp hc)
    cases cd with
    | eq => exact lv_icmp_eq hx hb hd ht (fun _ => kt) (fun h => absurd hc h)
    | ne => exact lv_icmp_ne hx hb hd ht (fun _ => kt) (fun h => absurd h hc)
    | lt => exact lv_icmp_lt hx hb hd ht (fun _ => kt) (fun h => absurd hc h)
    | ge => exact lv_icmp_ge hx hb hd ht (fun _ => kt) (fun h => absurd hc h)
    | gt => exact lv_icmp_gt hx hb hd ht (fun _ => kt) (fun h => absurd hc h)
    | le => exact lv_icmp_le hx hb hd ht (fun _ => kt) (fun h => absurd hc h)
  · have kf := kf (nf hc)
    cases cd with
    | eq => exact lv_icmp_eq hx hb hd ht (fun h => absurd h hc) (fun _ => kf)
    | ne => exact lv_icmp_ne hx hb hd ht (fun h => absurd h hc) (fun _ => kf)
    | lt => exact lv_icmp_lt hx hb hd ht (fun h => absurd h hc) (fun _ => kf)
    | ge => exact lv_icmp_ge hx hb hd ht (fun h => absurd h hc) (fun _ => kf)
    | gt => exact lv_icmp_gt hx hb hd ht (fun h => absurd h hc) (fun _ => kf)
    | le => exact lv_icmp_le hx hb hd ht (fun h => absurd h hc) (fun _ => kf)
theorem if_row (hx : p.tables.exec = Jvm.exec) (hb : c.code = cc) {cd : Jvm.ClassFile.Cond} {o : Int} (hd : decode cc pc = .ok (.ifCond cd o, 3)) {x : Int32} {q : Bool} (hq : cprop cd x 0 ↔ q = true) {rest : List Value} {t : Nat} (ht : (pc : Int) + o = (t : Int))
    (kt : q = true → W p l e R s m args below meth c H locs cells slots Q (F0 m t ls rest)) (kf : q = false → W p l e R s m args below meth c H locs cells slots Q (F0 m (pc + 3) ls rest)) : W p l e R s m args below meth c H locs cells slots Q (F0 m pc ls (.int x :: rest)) := by
  have nf : ¬ cprop cd x 0 → q = false := fun h => by
    cases q with
    | true => exact absurd (hq.mpr rfl) h
    | false => rfl
  by_cases hc : cprop cd x 0
  · have kt := kt (hq.mp hc)
    cases cd with
    | eq => exact lv_if_eq hx hb hd ht (fun _ => kt) (fun h => absurd hc h)
    | ne => exact lv_if_ne hx hb hd ht (fun _ => kt) (fun h => absurd h hc)
    | lt => exact lv_if_lt hx hb hd ht (fun _ => kt) (fun h => absurd hc h)
    | ge => exact lv_if_ge hx hb hd ht (fun _ => kt) (fun h => absurd hc h)
    | gt => exact lv_if_gt hx hb hd ht (fun _ => kt) (fun h => absurd hc h)
    | le => exact lv_if_le hx hb hd ht (fun _ => kt) (fun h => absurd hc h)
  · have kf := kf (nf hc)
    cases cd with
    | eq => exact lv_if_eq hx hb hd ht (fun h => absurd h hc) (fun _ => kf)
    | ne => exact lv_if_ne hx hb hd ht (fun h => absurd h hc) (fun _ => kf)
    | lt => exact lv_if_lt hx hb hd ht (fun h => absurd h hc) (fun _ => kf)
    | ge => exact lv_if_ge hx hb hd ht (fun h => absurd h hc) (fun _ => kf)
    | gt => exact lv_if_gt hx hb hd ht (fun h => absurd h hc) (fun _ => kf)
    | le => exact lv_if_le hx hb hd ht (fun h => absurd h hc) (fun _ => kf)
theorem and_cases {a b : Bool} (h : (a && b) = true) : a = true ∧ b = true := by simpa using h
set_option maxHeartbeats 1000000 in
theorem ps1_ok (hx : p.tables.exec = Jvm.exec) (hb : c.code = cc) (hB : Bd g bnd) (hM : msk < 64 → ∀ x, g.1[0]? = some x → x &&& 63 = nI msk) (hL : LR g ρ nL als ls) (hS : F2 (vrel g ρ) ast st) (ins : Instr) (hd : decode cc pc = .ok (ins, ilen ins)) (h : ps1 bnd msk nL ins pc als ast = some r)
    (k : ∀ ls' st', LR g ρ nL r.2.1 ls' → F2 (vrel g ρ) r.2.2 st' → W p l e R s m args below meth c H locs cells slots Q (F0 m r.1 ls' st')) : W p l e R s m args below meth c H locs cells slots Q (F0 m pc ls st) := by
  cases ins
  case iconst n =>
    have h := sj h
    subst h
    exact lv_iconst hx hb hd (i2n_ok n) (k ls _ hL (F2_mk rfl hS))
  case bipush n =>
    have h : (if -128 ≤ n then (if n < 128 then some (pc + 2, als, (.inl (i2n n) : AV) :: ast) else none) else none) = some r := h
    split at h
    · split at h
      · have h := sj h
        subst h
        exact lv_bipush hx hb hd (bi_ok (by assumption) (by assumption)) (k ls _ hL (F2_mk rfl hS))
      · cases h
    · cases h
  case sipush n =>
    have h : (if -32768 ≤ n then (if n < 32768 then some (pc + 3, als, (.inl (i2n n) : AV) :: ast) else none) else none) = some r := h
    split at h
    · split at h
      · have h := sj h
        subst h
        exact lv_sipush hx hb hd (si_ok (by assumption) (by assumption)) (k ls _ hL (F2_mk rfl hS))
      · cases h
    · cases h
  case aconst_null =>
    have h := sj h
    subst h
    exact lv_null hx hb hd (k ls _ hL (F2_mk rfl hS))
  case iload_n i =>
    obtain ⟨a, h1, h2, h3⟩ := pld_ok h
    subst h3
    obtain ⟨v, hv, hr⟩ := LR_at hL h1
    obtain ⟨x, rfl⟩ := vint h2 hr
    exact lv_iload_n hx hb hd rfl hv (k ls _ hL (F2_mk hr hS))
  case iload i =>
    obtain ⟨a, h1, h2, h3⟩ := pld_ok h
    subst h3
    obtain ⟨v, hv, hr⟩ := LR_at hL h1
    obtain ⟨x, rfl⟩ := vint h2 hr
    exact lv_iload hx hb hd hv (k ls _ hL (F2_mk hr hS))
  case aload_n i =>
    obtain ⟨a, h1, h2, h3⟩ := pld_ok h
    subst h3
    obtain ⟨v, hv, hr⟩ := LR_at hL h1
    rcases rn_ok h2 hr with rfl | ⟨x, rfl⟩
    · exact lv_aload_nN hx hb hd rfl hv (k ls _ hL (F2_mk hr hS))
    · exact lv_aload_n hx hb hd rfl hv (k ls _ hL (F2_mk hr hS))
  case aload i =>
    obtain ⟨a, h1, h2, h3⟩ := pld_ok h
    subst h3
    obtain ⟨v, hv, hr⟩ := LR_at hL h1
    rcases rn_ok h2 hr with rfl | ⟨x, rfl⟩
    · exact lv_aloadN hx hb hd hv (k ls _ hL (F2_mk hr hS))
    · exact lv_aload hx hb hd hv (k ls _ hL (F2_mk hr hS))
  case istore_n i =>
    obtain ⟨a, rest, rfl, h1, h2, h3⟩ := pst_ok h
    subst h3
    obtain ⟨v, vs, rfl, hr, hS1⟩ := F2_cons hS
    obtain ⟨x, rfl⟩ := vint h1 hr
    obtain ⟨lv, hl, hF⟩ := hL
    exact lv_istore_n hx hb hd rfl hl h2 rfl (fun ls' hl' => k ls' _ ⟨_, hl', LR_st hF _ hr⟩ hS1)
  case istore i =>
    obtain ⟨a, rest, rfl, h1, h2, h3⟩ := pst_ok h
    subst h3
    obtain ⟨v, vs, rfl, hr, hS1⟩ := F2_cons hS
    obtain ⟨x, rfl⟩ := vint h1 hr
    obtain ⟨lv, hl, hF⟩ := hL
    exact lv_istore hx hb hd hl h2 rfl (fun ls' hl' => k ls' _ ⟨_, hl', LR_st hF _ hr⟩ hS1)
  case astore_n i =>
    obtain ⟨a, rest, rfl, h1, h2, h3⟩ := pst_ok h
    subst h3
    obtain ⟨v, vs, rfl, hr, hS1⟩ := F2_cons hS
    obtain ⟨lv, hl, hF⟩ := hL
    rcases rn_ok h1 hr with rfl | ⟨x, rfl⟩
    · exact lv_astore_nN hx hb hd rfl hl h2 rfl (fun ls' hl' => k ls' _ ⟨_, hl', LR_st hF _ hr⟩ hS1)
    · exact lv_astore_n hx hb hd rfl hl h2 rfl (fun ls' hl' => k ls' _ ⟨_, hl', LR_st hF _ hr⟩ hS1)
  case astore i =>
    obtain ⟨a, rest, rfl, h1, h2, h3⟩ := pst_ok h
    subst h3
    obtain ⟨v, vs, rfl, hr, hS1⟩ := F2_cons hS
    obtain ⟨lv, hl, hF⟩ := hL
    rcases rn_ok h1 hr with rfl | ⟨x, rfl⟩
    · exact lv_astoreN hx hb hd hl h2 rfl (fun ls' hl' => k ls' _ ⟨_, hl', LR_st hF _ hr⟩ hS1)
    · exact lv_astore hx hb hd hl h2 rfl (fun ls' hl' => k ls' _ ⟨_, hl', LR_st hF _ hr⟩ hS1)
  case iinc i cst =>
    have h : (match (generalizing := false) llk als i with
      | some (.inl n) => if i < nL then some (pc + 3, lst als i (.inl ((n + i2n cst) % 4294967296)), ast) else none
      | _ => none) = some r := h
    split at h
    · rename_i n he
      split at h
      · have h := sj h
        subst h
        obtain ⟨lv, hl, hF⟩ := hL
        obtain ⟨kx, hk⟩ := llk_mem he
        obtain ⟨q, hq, e1, hr⟩ := F2_get hF hk
        obtain ⟨q1, q2⟩ := q
        have e1 : i = q1 := e1
        subst e1
        have hr : q2 = .int (nI n) := hr
        subst hr
        exact lv_iinc (v := nI ((n + i2n cst) % 4294967296)) hx hb hd hl hq (by rw [i2n_ok, nI_addG]) (by assumption) rfl (fun ls' hl' => k ls' _ ⟨_, hl', LR_st hF _ rfl⟩ hS)
      · cases h
    · cases h
  case iadd =>
    exact ar2_ok (fun x y => x + y) h (fun a b => by show _ = _; rw [nI_addG]) hS (fun x y rest kk => lv_iadd hx hb hd kk) (fun st' e1 e2 hS' => by have := k ls st' (by rw [e2]; exact hL) hS'; rw [e1] at this; exact this)
  case isub =>
    exact ar2_ok (fun x y => x - y) h (fun a b => by show _ = _; rw [nI_subG]) hS (fun x y rest kk => lv_isub hx hb hd kk) (fun st' e1 e2 hS' => by have := k ls st' (by rw [e2]; exact hL) hS'; rw [e1] at this; exact this)
  case imul =>
    exact ar2_ok (fun x y => x * y) h (fun a b => by show _ = _; rw [nI_mulG]) hS (fun x y rest kk => lv_imul hx hb hd kk) (fun st' e1 e2 hS' => by have := k ls st' (by rw [e2]; exact hL) hS'; rw [e1] at this; exact this)
  case ior =>
    exact ar2_ok (fun x y => x ||| y) h (fun a b => by show _ = _; rw [or_ok]) hS (fun x y rest kk => lv_ior hx hb hd kk) (fun st' e1 e2 hS' => by have := k ls st' (by rw [e2]; exact hL) hS'; rw [e1] at this; exact this)
  case ixor =>
    exact ar2_ok (fun x y => x ^^^ y) h (fun a b => by show _ = _; rw [xor_ok]) hS (fun x y rest kk => lv_ixor hx hb hd kk) (fun st' e1 e2 hS' => by have := k ls st' (by rw [e2]; exact hL) hS'; rw [e1] at this; exact this)
  case ishl =>
    exact ar2_ok (fun x y => x <<< (y &&& 31)) h (fun a b => by show _ = _; rw [shl_ok]) hS (fun x y rest kk => lv_ishl hx hb hd kk) (fun st' e1 e2 hS' => by have := k ls st' (by rw [e2]; exact hL) hS'; rw [e1] at this; exact this)
  case ishr =>
    refine ar2_ok (fun x y => x >>> (y &&& 31)) h (fun a b => ?_) hS (fun x y rest kk => lv_ishr hx hb hd kk) (fun st' e1 e2 hS' => by have := k ls st' (by rw [e2]; exact hL) hS'; rw [e1] at this; exact this)
    by_cases ha : a < 2147483648
    · rw [if_pos ha]; show _ = _; rw [shr_ok ha]
    · rw [if_neg ha]; exact ⟨_, rfl⟩
  case iand =>
    have hand := fun (h : ar2 (fun a b => .inl (a % 4294967296 &&& b % 4294967296)) (pc + 1) als ast = some r) =>
      ar2_ok (p := p) (l := l) (e := e) (R := R) (s := s) (m := m) (args := args) (below := below) (meth := meth) (c := c) (H := H) (locs := locs) (cells := cells) (slots := slots) (Q := Q) (pc := pc) (ls := ls) (g := g) (ρ := ρ) (fun x y => x &&& y) h (fun a b => by show _ = _; rw [and_ok]) hS (fun x y rest kk => lv_iand hx hb hd kk) (fun st' e1 e2 hS' => by have := k ls st' (by rw [e2]; exact hL) hS'; rw [e1] at this; exact this)
    have h : (match (generalizing := false) ast with
      | .inl 63 :: .inr (.inl 0) :: rest => if msk < 64 then some (pc + 1, als, (.inl msk : AV) :: rest) else none
      | _ => ar2 (fun a b => .inl (a % 4294967296 &&& b % 4294967296)) (pc + 1) als ast) = some r := h
    split at h
    · split at h
      · rename_i hmk
        have h := sj h
        subst h
        obtain ⟨v, st1, rfl, h1, hS1⟩ := F2_cons hS
        obtain ⟨w, st2, rfl, h2, hS2⟩ := F2_cons hS1
        obtain ⟨x, hx0, rfl⟩ := h2
        rw [show v = .int 63 from h1]
        refine lv_iand hx hb hd ?_
        rw [hM hmk x hx0]
        exact k ls _ hL (F2_mk rfl hS2)
      · cases h
    · exact hand h
  case idiv =>
    have h : (match (generalizing := false) ast with
      | .inl b :: .inl a :: rest => if a < 2147483648 then (if b < 2147483648 then (if 0 < b then some (pc + 1, als, (.inl (a / b) : AV) :: rest) else none) else none) else none
      | _ => none) = some r := h
    split at h
    · split at h
      · split at h
        · split at h
          · rename_i b a rest h1 h2 h3
            have h := sj h
            subst h
            obtain ⟨v, st1, rfl, hb1, hS1⟩ := F2_cons hS
            obtain ⟨w, st2, rfl, ha1, hS2⟩ := F2_cons hS1
            rw [show v = _ from hb1, show w = _ from ha1]
            exact lv_idiv hx hb hd (nI_ne0 h3 h2) (k ls _ hL (F2_mk (by show _ = _; rw [pk_div h1 h3 h2]) hS2))
          · cases h
        · cases h
      · cases h
    · cases h
  case irem =>
    have h : (match (generalizing := false) ast with
      | .inl b :: .inl a :: rest => if a < 2147483648 then (if b < 2147483648 then (if 0 < b then some (pc + 1, als, (.inl (a % b) : AV) :: rest) else none) else none) else none
      | _ => none) = some r := h
    split at h
    · split at h
      · split at h
        · split at h
          · rename_i b a rest h1 h2 h3
            have h := sj h
            subst h
            obtain ⟨v, st1, rfl, hb1, hS1⟩ := F2_cons hS
            obtain ⟨w, st2, rfl, ha1, hS2⟩ := F2_cons hS1
            rw [show v = _ from hb1, show w = _ from ha1]
            exact lv_irem hx hb hd (nI_ne0 h3 h2) (k ls _ hL (F2_mk (by show _ = _; rw [pk_rem h1 h3 h2]) hS2))
          · cases h
        · cases h
      · cases h
    · cases h
  case i2l =>
    have h : (match (generalizing := false) ast with
      | .inl a :: rest => if a < 2147483648 then some (pc + 1, als, (.inr (.inr (.inr (.inl (some a)))) : AV) :: rest) else none
      | _ => none) = some r := h
    split at h
    · split at h
      · rename_i a rest h1
        have h := sj h
        subst h
        obtain ⟨v, st1, rfl, hb1, hS1⟩ := F2_cons hS
        rw [show v = _ from hb1]
        exact lv_i2l hx hb hd (i2l_ok h1) (k ls _ hL (F2_mk rfl hS1))
      · cases h
    · cases h
  case lcmp =>
    have h : (match (generalizing := false) ast with
      | .inr (.inr (.inr (.inl (some b)))) :: .inr (.inr (.inr (.inl (some a)))) :: rest => if a = b then some (pc + 1, als, (.inl 0 : AV) :: rest) else none
      | _ => none) = some r := h
    split at h
    · split at h
      · rename_i b a rest h1
        have h := sj h
        subst h1
        subst h
        obtain ⟨v, st1, rfl, hb1, hS1⟩ := F2_cons hS
        obtain ⟨w, st2, rfl, ha1, hS2⟩ := F2_cons hS1
        rw [show v = _ from hb1, show w = _ from ha1]
        exact W.lcmp hx hb hd (k ls _ hL (F2_mk (by show _ = _; rw [lcmp_self]; rfl) hS2))
      · cases h
    · cases h
  case dup =>
    have h : (match (generalizing := false) ast with
      | a :: rest => match Nat.beq (acat a) 1 with
        | true => some (pc + 1, als, a :: a :: rest)
        | false => none
      | _ => none) = some r := h
    split at h
    · split at h
      · rename_i a rest _ h1
        have h := sj h
        subst h
        obtain ⟨v, st1, rfl, hb1, hS1⟩ := F2_cons hS
        exact lv_dup hx hb hd ((vcat hb1).trans (beq1 h1)) (k ls _ hL (F2_mk hb1 (F2_mk hb1 hS1)))
      · cases h
    · cases h
  case dup_x1 =>
    have h : (match (generalizing := false) ast with
      | a :: b :: rest => match Nat.beq (acat a) 1 && Nat.beq (acat b) 1 with
        | true => some (pc + 1, als, a :: b :: a :: rest)
        | false => none
      | _ => none) = some r := h
    split at h
    · split at h
      · rename_i a b rest _ h1
        have h := sj h
        subst h
        obtain ⟨v, st1, rfl, hb1, hS1⟩ := F2_cons hS
        obtain ⟨w, st2, rfl, hb2, hS2⟩ := F2_cons hS1
        have h1 := and_cases h1
        exact lv_dup_x1 hx hb hd ((vcat hb1).trans (beq1 h1.1)) ((vcat hb2).trans (beq1 h1.2)) (k ls _ hL (F2_mk hb1 (F2_mk hb2 (F2_mk hb1 hS2))))
      · cases h
    · cases h
  case dup2 =>
    have h : (match (generalizing := false) ast with
      | a :: b :: rest => match Nat.beq (acat a) 1 && Nat.beq (acat b) 1 with
        | true => some (pc + 1, als, a :: b :: a :: b :: rest)
        | false => none
      | _ => none) = some r := h
    split at h
    · split at h
      · rename_i a b rest _ h1
        have h := sj h
        subst h
        obtain ⟨v, st1, rfl, hb1, hS1⟩ := F2_cons hS
        obtain ⟨w, st2, rfl, hb2, hS2⟩ := F2_cons hS1
        have h1 := and_cases h1
        exact lv_dup2_11 hx hb hd ((vcat hb1).trans (beq1 h1.1)) ((vcat hb2).trans (beq1 h1.2)) (k ls _ hL (F2_mk hb1 (F2_mk hb2 (F2_mk hb1 (F2_mk hb2 hS2)))))
      · cases h
    · cases h
  case pop =>
    have h : (match (generalizing := false) ast with
      | a :: rest => match Nat.beq (acat a) 1 with
        | true => some (pc + 1, als, rest)
        | false => none
      | _ => none) = some r := h
    split at h
    · split at h
      · rename_i a rest _ h1
        have h := sj h
        subst h
        obtain ⟨v, st1, rfl, hb1, hS1⟩ := F2_cons hS
        exact lv_pop hx hb hd ((vcat hb1).trans (beq1 h1)) (k ls _ hL hS1)
      · cases h
    · cases h
  case goto o =>
    obtain ⟨t, ht, h1⟩ := jmp_ok (show jmp (some true) pc 3 o als ast = some r from h)
    rcases h1 with ⟨-, h1⟩ | ⟨h1, -⟩
    · subst h1
      exact lv_goto hx hb hd ht (k ls _ hL hS)
    · cases h1
  case ifCond cd o =>
    have h : (match (generalizing := false) ast with
      | a :: rest => jmp (cmp2 bnd cd a (.inl 0)) pc 3 o als rest
      | _ => none) = some r := h
    split at h
    · obtain ⟨v, st1, rfl, hb1, hS1⟩ := F2_cons hS
      obtain ⟨t, ht, ⟨h1, h⟩ | ⟨h1, h⟩⟩ := jmp_ok h
      · subst h
        obtain ⟨x, y, rfl, e2, hq⟩ := cmp2_ok (w := .int 0) hB h1 hb1 rfl
        cases e2
        exact if_row hx hb hd hq ht (fun _ => k ls _ hL hS1) (fun h => nomatch h)
      · subst h
        obtain ⟨x, y, rfl, e2, hq⟩ := cmp2_ok (w := .int 0) hB h1 hb1 rfl
        cases e2
        exact if_row hx hb hd hq ht (fun h => nomatch h) (fun _ => k ls _ hL hS1)
    · cases h
  case if_icmp cd o =>
    have h : (match (generalizing := false) ast with
      | b :: a :: rest => jmp (cmp2 bnd cd a b) pc 3 o als rest
      | _ => none) = some r := h
    split at h
    · obtain ⟨v, st1, rfl, hb1, hS1⟩ := F2_cons hS
      obtain ⟨w, st2, rfl, hb2, hS2⟩ := F2_cons hS1
      obtain ⟨t, ht, ⟨h1, h⟩ | ⟨h1, h⟩⟩ := jmp_ok h
      · subst h
        obtain ⟨x, y, rfl, rfl, hq⟩ := cmp2_ok hB h1 hb2 hb1
        exact icmp_row hx hb hd hq ht (fun _ => k ls _ hL hS2) (fun h => nomatch h)
      · subst h
        obtain ⟨x, y, rfl, rfl, hq⟩ := cmp2_ok hB h1 hb2 hb1
        exact icmp_row hx hb hd hq ht (fun h => nomatch h) (fun _ => k ls _ hL hS2)
    · cases h
  case ifnull o =>
    have h : (match (generalizing := false) ast with
      | a :: rest => jmp (match isN a with | true => some true | false => match isR a with | true => some false | false => none) pc 3 o als rest
      | _ => none) = some r := h
    split at h
    · rename_i a rest _
      obtain ⟨v, st1, rfl, hb1, hS1⟩ := F2_cons hS
      obtain ⟨t, ht, h⟩ := jmp_ok h
      cases u : isN a with
      | true =>
        simp only [u] at h
        have := vnul u hb1
        subst this
        rcases h with ⟨h1, h⟩ | ⟨h1, h⟩
        · subst h
          exact lv_ifnullN hx hb hd ht (k ls _ hL hS1)
        · cases h1
      | false =>
        simp only [u] at h
        cases u2 : isR a with
        | false =>
          simp only [u2] at h
          rcases h with ⟨h1, h⟩ | ⟨h1, h⟩ <;> cases h1
        | true =>
          simp only [u2] at h
          obtain ⟨x, rfl⟩ := vref u2 hb1
          rcases h with ⟨h1, h⟩ | ⟨h1, h⟩
          · cases h1
          · subst h
            exact lv_ifnull hx hb hd (k ls _ hL hS1)
    · cases h
  case ifnonnull o =>
    have h : (match (generalizing := false) ast with
      | a :: rest => jmp (match isN a with | true => some false | false => match isR a with | true => some true | false => none) pc 3 o als rest
      | _ => none) = some r := h
    split at h
    · rename_i a rest _
      obtain ⟨v, st1, rfl, hb1, hS1⟩ := F2_cons hS
      obtain ⟨t, ht, h⟩ := jmp_ok h
      cases u : isN a with
      | true =>
        simp only [u] at h
        have := vnul u hb1
        subst this
        rcases h with ⟨h1, h⟩ | ⟨h1, h⟩
        · cases h1
        · subst h
          exact lv_ifnonnullN hx hb hd (k ls _ hL hS1)
      | false =>
        simp only [u] at h
        cases u2 : isR a with
        | false =>
          simp only [u2] at h
          rcases h with ⟨h1, h⟩ | ⟨h1, h⟩ <;> cases h1
        | true =>
          simp only [u2] at h
          obtain ⟨x, rfl⟩ := vref u2 hb1
          rcases h with ⟨h1, h⟩ | ⟨h1, h⟩
          · subst h
            exact lv_ifnonnull hx hb hd ht (k ls _ hL hS1)
          · cases h1
    · cases h
  case if_acmp cd o =>
    have same : ∀ (b a : AV) (w v : Value), rsame a b = some true → vrel g ρ b w → vrel g ρ a v → ∃ x : Nat, w = .ref x ∧ v = .ref x := by
      intro b a w v h hb1 ha1
      match a, b, h, hb1, ha1 with
      | .inr (.inr (.inl i)), .inr (.inr (.inl j)), h, hb1, ha1 =>
        have h : (match Nat.beq i j with | true => some true | false => (none : Option Bool)) = some true := h
        cases u : Nat.beq i j with
        | false => rw [u] at h; cases h
        | true =>
          have u := Nat.eq_of_beq_eq_true u
          subst u
          obtain ⟨x, e1, rfl⟩ := hb1
          obtain ⟨y, e2, rfl⟩ := ha1
          cases e1.symm.trans e2
          exact ⟨x, rfl, rfl⟩
      | .inr (.inr (.inr (.inr 3))), .inr (.inr (.inr (.inr 3))), h, hb1, ha1 => exact ⟨_, hb1, ha1⟩
    have sfal : ∀ (b a : AV), rsame a b ≠ some false := by
      intro b a h
      unfold rsame at h
      split at h
      · split at h <;> cases h
      · cases h
      · cases h
    cases cd with
    | eq =>
      have h : (match (generalizing := false) ast with
        | b :: a :: rest => jmp (rsame a b) pc 3 o als rest
        | _ => none) = some r := h
      split at h
      · rename_i b a rest _
        obtain ⟨v, st1, rfl, hb1, hS1⟩ := F2_cons hS
        obtain ⟨w, st2, rfl, hb2, hS2⟩ := F2_cons hS1
        obtain ⟨t, ht, ⟨h1, h⟩ | ⟨h1, h⟩⟩ := jmp_ok h
        · subst h
          obtain ⟨x, rfl, rfl⟩ := same _ _ _ _ h1 hb1 hb2
          exact lv_acmp_eq (rx := some x) (ry := some x) hx hb hd ht (fun _ => k ls _ hL hS2) (fun h => absurd rfl h)
        · exact absurd h1 (sfal _ _)
      · cases h
    | ne =>
      have h : (match (generalizing := false) ast with
        | b :: a :: rest => jmp ((rsame a b).map (fun x => !x)) pc 3 o als rest
        | _ => none) = some r := h
      split at h
      · rename_i b a rest _
        obtain ⟨v, st1, rfl, hb1, hS1⟩ := F2_cons hS
        obtain ⟨w, st2, rfl, hb2, hS2⟩ := F2_cons hS1
        obtain ⟨t, ht, ⟨h1, h⟩ | ⟨h1, h⟩⟩ := jmp_ok h
        · exact absurd (map_not h1) (sfal _ _)
        · subst h
          obtain ⟨x, rfl, rfl⟩ := same _ _ _ _ (map_not h1) hb1 hb2
          exact lv_acmp_ne (rx := some x) (ry := some x) hx hb hd ht (fun h => absurd rfl h) (fun _ => k ls _ hL hS2)
      · cases h
  all_goals exact absurd h (by intro h; cases (show (none : P1) = some r from h))
end OK2
end
section
/-! cells: an object (class, fields), or an array (kind, its place among the array types, length, what was stored, what stands elsewhere) -/
abbrev AC : Type := (Nat × List AV) ⊕ (Nat × Nat × Nat × Als × AV)
abbrev TY : Type := List (ClassId × FieldType)
def ecls : Nat → String
  | 0 => "RuleForgeModel$Term"
  | _ => "java/lang/Object"
def kty : Nat → FieldType
  | 0 => .int
  | 1 => .boolean
  | 2 => .long
  | k + 3 => .object (ecls k)
def alk (d : AV) : Als → Nat → AV
  | [], _ => d
  | q :: l, i => match Nat.beq q.1 i with
    | true => q.2
    | false => alk d l i
def arel (g : GV) (ρ : List Nat) (kind : Nat) (cA : ClassId) (len : Nat) (c : Nat → AV) (e : va_E) : Prop :=
  match kind with
  | 0 => ∃ f : Nat → Int32, e = .inl (cA, len, .inl f) ∧ ∀ i, i < len → vrel g ρ (c i) (.int (f i))
  | 1 => ∃ f : Nat → Int32, e = .inl (cA, len, .inl f) ∧ ∀ i, i < len → vrel g ρ (c i) (.int (f i))
  | 2 => ∃ f : Nat → Int64, e = .inl (cA, len, .inr (.inl f)) ∧ ∀ i, i < len → vrel g ρ (c i) (.long (f i))
  | _ + 3 => ∃ f : Nat → Option Nat, e = .inl (cA, len, .inr (.inr (.inr (.inr f)))) ∧ ∀ i, i < len → vrel g ρ (c i) (va_rf (f i))
def crel (g : GV) (ρ : List Nat) (tys : TY) : AC → va_E → Prop
  | .inl o, e => ∃ vs, F2 (vrel g ρ) o.2 vs ∧ e = .inr (o.1, vs)
  | .inr (kind, t, len, ups, d), e => ∃ cA, tys[t]? = some (cA, kty kind) ∧ arel g ρ kind cA len (alk d ups) e
theorem crel_more {g : GV} {ρ ρ' : List Nat} {tys tys' : TY} (h : ∀ (i a : Nat), ρ[i]? = some a → ρ'[i]? = some a) (ht : ∀ (i : Nat) (a : ClassId × FieldType), tys[i]? = some a → tys'[i]? = some a) {c : AC} {e : va_E} (hr : crel g ρ tys c e) : crel g ρ' tys' c e := by
  match c, hr with
  | .inl o, hr =>
    obtain ⟨vs, h1, h2⟩ := hr
    exact ⟨vs, F2_mono (fun _ _ q => vrel_more h q) h1, h2⟩
  | .inr (0, t, len, ups, d), hr =>
    obtain ⟨cA, h1, f, h2, h3⟩ := hr
    exact ⟨cA, ht _ _ h1, f, h2, fun i hi => vrel_more h (h3 i hi)⟩
  | .inr (1, t, len, ups, d), hr =>
    obtain ⟨cA, h1, f, h2, h3⟩ := hr
    exact ⟨cA, ht _ _ h1, f, h2, fun i hi => vrel_more h (h3 i hi)⟩
  | .inr (2, t, len, ups, d), hr =>
    obtain ⟨cA, h1, f, h2, h3⟩ := hr
    exact ⟨cA, ht _ _ h1, f, h2, fun i hi => vrel_more h (h3 i hi)⟩
  | .inr (k + 3, t, len, ups, d), hr =>
    obtain ⟨cA, h1, f, h2, h3⟩ := hr
    exact ⟨cA, ht _ _ h1, f, h2, fun i hi => vrel_more h (h3 i hi)⟩
/-- the world behind the numbers -/
def HR (g : GV) (D : va_G) (A : Nat → Prop) (s : State) (ρ : List Nat) (tys : TY) (ah : List AC) (H : Heap) (locs : List Loc) : Prop :=
  va_K D vwCl tys s ∧ ∃ ws : va_W, ρ = ws.map Prod.fst ∧ va_P D vwCl ws H ∧ va_D A ws ∧ va_S A s.heap H locs ∧ F2 (fun (c : AC) (q : Nat × va_E) => crel g ρ tys c q.2) ah ws
theorem ws_at {ws : va_W} {ρ : List Nat} (h : ρ = ws.map Prod.fst) {g : GV} {tys : TY} {ah : List AC} (hF : F2 (fun (c : AC) (q : Nat × va_E) => crel g ρ tys c q.2) ah ws) {i a : Nat} (hi : ρ[i]? = some a) {c : AC} (hc : ah[i]? = some c) : ∃ e, ws[i]? = some (a, e) ∧ crel g ρ tys c e := by
  obtain ⟨q, hq, hr⟩ := F2_get hF hc
  obtain ⟨q1, q2⟩ := q
  subst h
  rw [List.getElem?_map, hq] at hi
  have e : q1 = a := Option.some.inj hi
  subst e
  exact ⟨q2, hq, hr⟩
theorem set_fst {ws : va_W} {i a : Nat} {e e' : va_E} (h : ws[i]? = some (a, e)) : (ws.set i (a, e')).map Prod.fst = ws.map Prod.fst := by
  apply List.ext_getElem?
  intro j
  rw [List.getElem?_map, List.getElem?_map, List.getElem?_set]
  by_cases hj : i = j
  · subst hj
    obtain ⟨hlt, he⟩ := List.getElem?_eq_some_iff.mp h
    simp [hlt, he]
  · simp [hj]
/-! fields -/
def FOK (WB : List Jvm.Cond) (own : String) (idx x y : Nat) : Prop := ∃ (C : String) (T : u_T) (N : Nat) (ref : String), vwCl[x]? = some (C, T, N) ∧ (∀ w ∈ u_ws C T N, w ∈ WB) ∧ y < N ∧ Jvm.Cond.fieldLink own idx ref (T y).2.1 (T y).2.2.1 ∈ WB ∧ (ref = (T y).1 ∨ Jvm.Cond.sameField ref (T y).1 (T y).2.1 (T y).2.2.1 ∈ WB)
def kindok (z : Nat) (ty : FieldType) : Bool :=
  match z, ty with
  | 0, .int => true
  | 1, .boolean => true
  | 2, .object _ => true
  | 2, .array _ => true
  | 3, .long => true
  | _, _ => false
def fitk (z : Nat) (a : AV) : Bool :=
  match z with
  | 0 => isI a
  | 1 => match a with
    | .inl 0 => true
    | .inl 1 => true
    | _ => false
  | 2 => isRN a
  | 3 => match a with
    | .inr (.inr (.inr (.inl (some _)))) => true
    | _ => false
  | _ => false
def POK (own : String) (isInit : Bool) (x y z : Nat) : Prop := ∃ (C : String) (T : u_T) (N : Nat) (ty0 : Nat → FieldType), vwCl[x]? = some (C, T, N) ∧ (∀ k, k < N → parseFieldDescriptor (T k).2.2.1 = some (ty0 k)) ∧ (∀ a, a < N → ∀ b, b < N → a ≠ b → (T a).2.1 ≠ (T b).2.1) ∧ kindok z (ty0 y) = true ∧ ((T y).2.2.2 = false ∨ ((T y).2.2.2 = true ∧ isInit = true ∧ (T y).1 = own))
theorem fitk_ok {g : GV} {ρ : List Nat} {z : Nat} {ty : FieldType} {a : AV} {v : Value} (h : kindok z ty = true) (h2 : fitk z a = true) (hr : vrel g ρ a v) : narrow ty v = v ∧ fits ty v = true := by
  match z, ty, h with
  | 0, .int, _ =>
    obtain ⟨x, rfl⟩ := vint h2 hr
    exact ⟨rfl, rfl⟩
  | 1, .boolean, _ =>
    match a, h2, hr with
    | .inl 0, _, hr => rw [show v = .int (nI 0) from hr]; decide
    | .inl 1, _, hr => rw [show v = .int (nI 1) from hr]; decide
  | 2, .object C, _ => rcases rn_ok h2 hr with rfl | ⟨x, rfl⟩ <;> exact ⟨rfl, rfl⟩
  | 2, .array C, _ => rcases rn_ok h2 hr with rfl | ⟨x, rfl⟩ <;> exact ⟨rfl, rfl⟩
  | 3, .long, _ =>
    match a, h2, hr with
    | .inr (.inr (.inr (.inl (some n)))), _, hr => rw [show v = .long (lN n) from hr]; exact ⟨rfl, rfl⟩
def pgf (x y : Nat) (ah : List AC) (ast : List AV) : Option (List AV) :=
  match ast with
  | .inr (.inr (.inl i)) :: rest => match ah[i]? with
    | some (.inl o) => match Nat.beq o.1 x with
      | true => match o.2[y]? with
        | some a => some (a :: rest)
        | none => none
      | false => none
    | _ => none
  | _ => none
def ppf (x y z : Nat) (ah : List AC) (ast : List AV) : Option (List AC × List AV) :=
  match ast with
  | a :: .inr (.inr (.inl i)) :: rest => match ah[i]? with
    | some (.inl o) => match Nat.beq o.1 x with
      | true => match fitk z a with
        | true => if y < o.2.length then some (ah.set i (.inl (o.1, o.2.set y a)), rest) else none
        | false => none
      | false => none
    | _ => none
  | _ => none
section HOK
variable {p : Program} {l : Launch} {e : Env} {R : Room} {s : State} {m : MethodId} {args : Array Value} {below : List Frame} {meth : Method} {c : Code} {H : Heap} {locs : List Loc} {cells slots : Nat} {Q : State → Prop} {cc : ByteArray} {pc : Nat} {ls : Array Slot} {st : List Value}
variable {g : GV} {D : va_G} {A : Nat → Prop} {ρ : List Nat} {tys : TY} {ah : List AC} {ast : List AV} {WB : List Jvm.Cond} {own : String}
theorem gf_ok (hx : p.tables.exec = Jvm.exec) (hb : c.code = cc) (hts : ∀ w ∈ WB, w.before args s = true) (hown : s.vm.findClass own = some m.cls) {idx x y : Nat} (hF : FOK WB own idx x y) (hR : HR g D A s ρ tys ah H locs) (hS : F2 (vrel g ρ) ast st) (hd : decode cc pc = .ok (.getfield idx, 3)) {r : List AV} (h : pgf x y ah ast = some r)
    (k : ∀ st', F2 (vrel g ρ) r st' → W p l e R s m args below meth c H locs cells slots Q (F0 m (pc + 3) ls st')) : W p l e R s m args below meth c H locs cells slots Q (F0 m pc ls st) := by
  obtain ⟨C, T, N, ref, f1, f2, f3, f4, f5⟩ := hF
  obtain ⟨hK, ws, e1, hP, hDD, hSS, hW⟩ := hR
  unfold pgf at h
  split at h
  · rename_i i rest
    split at h
    · rename_i o ho
      split at h
      · rename_i hbq
        split at h
        · rename_i a ha
          have h := sj h
          subst h
          obtain ⟨v, st1, rfl, hr1, hS1⟩ := F2_cons hS
          obtain ⟨q, hq, rfl⟩ := hr1
          obtain ⟨en, hen, vs, hvs, rfl⟩ := ws_at e1 hW hq ho
          obtain ⟨v, hv, hvr⟩ := F2_get hvs ha
          have hbq := Nat.eq_of_beq_eq_true hbq
          rw [hbq] at hen
          refine va_get (D := D) hx hb hts f2 hown hK hP i hen f1 y f3 (hts _ f4) ?_ hv hd (k _ (F2_mk hvr hS1))
          rcases f5 with rfl | f5
          · exact fun _ h9 => h9
          · exact fun x9 h9 => u_same (hts _ f5) x9 h9
        · cases h
      · cases h
    · cases h
  · cases h
theorem pf_ok (hx : p.tables.exec = Jvm.exec) (hb : c.code = cc) (hts : ∀ w ∈ WB, w.before args s = true) (hown : s.vm.findClass own = some m.cls) {isInit : Bool} (hin : isInit = true → meth.name = "<init>") {idx x y z : Nat} (hF : FOK WB own idx x y) (hP0 : POK own isInit x y z) (hR : HR g D A s ρ tys ah H locs) (hS : F2 (vrel g ρ) ast st) (hd : decode cc pc = .ok (.putfield idx, 3)) {r : List AC × List AV} (h : ppf x y z ah ast = some r)
    (k : ∀ (H' : Heap) (locs' : List Loc) st', HR g D A s ρ tys r.1 H' locs' → F2 (vrel g ρ) r.2 st' → W p l e R s m args below meth c H' locs' cells slots Q (F0 m (pc + 3) ls st')) : W p l e R s m args below meth c H locs cells slots Q (F0 m pc ls st) := by
  obtain ⟨C, T, N, ref, f1, f2, f3, f4, f5⟩ := hF
  obtain ⟨C', T', N', ty0, p1, p2, p3, p4, p5⟩ := hP0
  cases f1.symm.trans p1
  obtain ⟨hK, ws, e1, hP, hDD, hSS, hW⟩ := hR
  unfold ppf at h
  split at h
  · rename_i a i rest
    split at h
    · rename_i o ho
      split at h
      · rename_i hbq
        split at h
        · rename_i hfk
          split at h
          · rename_i hlen
            have h := sj h
            subst h
            obtain ⟨v, st1, rfl, hr1, hS1⟩ := F2_cons hS
            obtain ⟨w, st2, rfl, hr2, hS2⟩ := F2_cons hS1
            obtain ⟨q, hq, rfl⟩ := hr2
            obtain ⟨en, hen, vs, hvs, rfl⟩ := ws_at e1 hW hq ho
            have hbq := Nat.eq_of_beq_eq_true hbq
            obtain ⟨n1, n2⟩ := fitk_ok p4 hfk hr1
            have hsame : ∀ x9, s.fieldFound? (T y).1 (T y).2.1 (T y).2.2.1 = some x9 → s.fieldFound? ref (T y).2.1 (T y).2.2.1 = some x9 := by
              rcases f5 with rfl | f5
              · exact fun _ h9 => h9
              · exact fun x9 h9 => u_same (hts _ f5) x9 h9
            have hen0 := hen
            rw [hbq] at hen
            have kk : ∀ (H1 : Heap) (locs1 : List Loc), va_P D vwCl (ws.set i (q, .inr (x, vs.set y v))) H1 → va_D A (ws.set i (q, .inr (x, vs.set y v))) → va_S A s.heap H1 locs1 → W p l e R s m args below meth c H1 locs1 cells slots Q (F0 m (pc + 3) ls st2) := by
              intro H1 locs1 hP1 hD1 hS9
              refine k H1 locs1 st2 ⟨hK, ws.set i (q, .inr (x, vs.set y v)), ?_, hP1, hD1, hS9, ?_⟩ hS2
              · rw [set_fst hen]; exact e1
              · refine F2_set hW i ?_
                exact ⟨vs.set y v, F2_set hvs y hr1, by rw [hbq]⟩
            have hvl : y < vs.length := by rw [← F2_len hvs]; exact hlen
            rcases p5 with p5 | ⟨p5, p6, p7⟩
            · exact va_put (D := D) hx hb hts f2 ty0 p2 p3 hown hK hP hDD hSS i hen f1 y f3 (hts _ f4) hsame p5 (p2 y f3) n1 n2 hvl hd kk
            · exact va_putF (D := D) hx hb hts f2 ty0 p2 p3 hown hK hP hDD hSS i hen f1 y f3 (hts _ f4) hsame p5 (hin p6) p7 (p2 y f3) n1 n2 hvl hd kk
          · cases h
        · cases h
      · cases h
    · cases h
  · cases h
end HOK
end
section
def pald (kt : Nat → Bool) (ah : List AC) (ast : List AV) : Option (List AV) :=
  match ast with
  | .inl n :: .inr (.inr (.inl i)) :: rest => match ah[i]? with
    | some (.inr w) => match kt w.1 with
      | true => if n < w.2.2.1 then (if w.2.2.1 < 2147483648 then some (alk w.2.2.2.2 w.2.2.2.1 n :: rest) else none) else none
      | false => none
    | _ => none
  | _ => none
def past (kt : Nat → AV → Bool) (ah : List AC) (ast : List AV) : Option (List AC × List AV) :=
  match ast with
  | a :: .inl n :: .inr (.inr (.inl i)) :: rest => match ah[i]? with
    | some (.inr w) => match kt w.1 a with
      | true => if n < w.2.2.1 then (if w.2.2.1 < 2147483648 then some (ah.set i (.inr (w.1, w.2.1, w.2.2.1, (n, a) :: w.2.2.2.1, w.2.2.2.2)), rest) else none) else none
      | false => none
    | _ => none
  | _ => none
def palen (ah : List AC) (ast : List AV) : Option (List AV) :=
  match ast with
  | .inr (.inr (.inl i)) :: rest => match ah[i]? with
    | some (.inr w) => some (.inl w.2.2.1 :: rest)
    | _ => none
  | .inr (.inr (.inr (.inr 3))) :: rest => some (.inl 0 :: rest)
  | _ => none
theorem alk_here (d : AV) (l : Als) (n : Nat) (a : AV) : alk d ((n, a) :: l) n = a := by
  unfold alk
  rw [show Nat.beq n n = true from Nat.beq_refl n]
theorem alk_there (d : AV) (l : Als) {n j : Nat} (a : AV) (h : j ≠ n) : alk d ((n, a) :: l) j = alk d l j := by
  show (match Nat.beq n j with | true => a | false => alk d l j) = alk d l j
  cases hb : Nat.beq n j with
  | true => exact absurd (Nat.eq_of_beq_eq_true hb).symm h
  | false => rfl
theorem vp_nar_01 {a : AV} {g : GV} {ρ : List Nat} {x : Int32} (h : fitk 1 a = true) (hr : vrel g ρ a (.int x)) : vp_nar .boolean x = x := by
  match a, h, hr with
  | .inl 0, _, hr => have e : Value.int x = .int (nI 0) := hr; injection e with e; rw [e]; decide
  | .inl 1, _, hr => have e : Value.int x = .int (nI 1) := hr; injection e with e; rw [e]; decide
section AOK
variable {p : Program} {l : Launch} {e : Env} {R : Room} {s : State} {m : MethodId} {args : Array Value} {below : List Frame} {meth : Method} {c : Code} {H : Heap} {locs : List Loc} {cells slots : Nat} {Q : State → Prop} {cc : ByteArray} {pc : Nat} {ls : Array Slot} {st : List Value}
variable {g : GV} {D : va_G} {A : Nat → Prop} {ρ : List Nat} {tys : TY} {ah : List AC} {ast : List AV}
theorem pald_in {kt : Nat → Bool} {r : List AV} (h : pald kt ah ast = some r) (hR : HR g D A s ρ tys ah H locs) (hS : F2 (vrel g ρ) ast st) :
    ∃ (n q i t kind len : Nat) (ups : Als) (d : AV) (cA : ClassId) (en : va_E) (rest : List AV) (vs : List Value) (ws : va_W), va_K D vwCl tys s ∧ va_P D vwCl ws H ∧ va_S A s.heap H locs ∧ st = .int (nI n) :: .ref q :: vs ∧ F2 (vrel g ρ) rest vs ∧ kt kind = true ∧ n < len ∧ len < 2147483648 ∧ ws[i]? = some (q, en) ∧ tys[t]? = some (cA, kty kind) ∧ arel g ρ kind cA len (alk d ups) en ∧ r = alk d ups n :: rest := by
  obtain ⟨hK, ws, e1, hP, hDD, hSS, hW⟩ := hR
  unfold pald at h
  split at h
  · rename_i n i rest
    split at h
    · rename_i w ho
      split at h
      · rename_i hk
        split at h
        · split at h
          · rename_i h1 h2
            obtain ⟨kind, t, len, ups, d⟩ := w
            obtain ⟨v, st1, rfl, hr1, hS1⟩ := F2_cons hS
            obtain ⟨w, vs, rfl, hr2, hS2⟩ := F2_cons hS1
            obtain ⟨q, hq, rfl⟩ := hr2
            obtain ⟨en, hen, cA, ht, ha⟩ := ws_at e1 hW hq ho
            exact ⟨n, q, i, t, kind, len, ups, d, cA, en, rest, vs, ws, hK, hP, hSS, by rw [show v = _ from hr1], hS2, hk, h1, h2, hen, ht, ha, (sj h).symm⟩
          · cases h
        · cases h
      · cases h
    · cases h
  · cases h
def k0 (k : Nat) : Bool := match k with | 0 => true | _ => false
def k1 (k : Nat) : Bool := match k with | 1 => true | _ => false
def k2 (k : Nat) : Bool := match k with | 2 => true | _ => false
def k3 (k : Nat) : Bool := match k with | _ + 3 => true | _ => false
theorem iald_ok (hx : p.tables.exec = Jvm.exec) (hb : c.code = cc) (hR : HR g D A s ρ tys ah H locs) (hS : F2 (vrel g ρ) ast st) (hd : decode cc pc = .ok (.iaload, 1)) {r : List AV} (h : pald k0 ah ast = some r)
    (k : ∀ st', F2 (vrel g ρ) r st' → W p l e R s m args below meth c H locs cells slots Q (F0 m (pc + 1) ls st')) : W p l e R s m args below meth c H locs cells slots Q (F0 m pc ls st) := by
  obtain ⟨n, q, i, t, kind, len, ups, d, cA, en, rest, vs, ws, hK, hP, hSS, rfl, hS2, hk, h1, h2, hen, ht, ha, rfl⟩ := pald_in h hR hS
  match kind, hk, ht, ha with
  | 0, _, ht, ha =>
    obtain ⟨f, rfl, hf⟩ := ha
    refine va_iald (D := D) hx hb hK hP i t hen ht (vp_in_nI h1 h2) hd ?_
    rw [nI_clamp (by omega)]
    exact k _ (F2_mk (hf n h1) hS2)
theorem bald_ok (hx : p.tables.exec = Jvm.exec) (hb : c.code = cc) (hR : HR g D A s ρ tys ah H locs) (hS : F2 (vrel g ρ) ast st) (hd : decode cc pc = .ok (.baload, 1)) {r : List AV} (h : pald k1 ah ast = some r)
    (k : ∀ st', F2 (vrel g ρ) r st' → W p l e R s m args below meth c H locs cells slots Q (F0 m (pc + 1) ls st')) : W p l e R s m args below meth c H locs cells slots Q (F0 m pc ls st) := by
  obtain ⟨n, q, i, t, kind, len, ups, d, cA, en, rest, vs, ws, hK, hP, hSS, rfl, hS2, hk, h1, h2, hen, ht, ha, rfl⟩ := pald_in h hR hS
  match kind, hk, ht, ha with
  | 1, _, ht, ha =>
    obtain ⟨f, rfl, hf⟩ := ha
    refine va_zald (D := D) hx hb hK hP i t hen ht (vp_in_nI h1 h2) hd ?_
    rw [nI_clamp (by omega)]
    exact k _ (F2_mk (hf n h1) hS2)
theorem lald_ok (hx : p.tables.exec = Jvm.exec) (hb : c.code = cc) (hR : HR g D A s ρ tys ah H locs) (hS : F2 (vrel g ρ) ast st) (hd : decode cc pc = .ok (.laload, 1)) {r : List AV} (h : pald k2 ah ast = some r)
    (k : ∀ st', F2 (vrel g ρ) r st' → W p l e R s m args below meth c H locs cells slots Q (F0 m (pc + 1) ls st')) : W p l e R s m args below meth c H locs cells slots Q (F0 m pc ls st) := by
  obtain ⟨n, q, i, t, kind, len, ups, d, cA, en, rest, vs, ws, hK, hP, hSS, rfl, hS2, hk, h1, h2, hen, ht, ha, rfl⟩ := pald_in h hR hS
  match kind, hk, ht, ha with
  | 2, _, ht, ha =>
    obtain ⟨f, rfl, hf⟩ := ha
    refine va_lald (D := D) hx hb hK hP i t hen ht (vp_in_nI h1 h2) hd ?_
    rw [nI_clamp (by omega)]
    exact k _ (F2_mk (hf n h1) hS2)
theorem aald_ok (hx : p.tables.exec = Jvm.exec) (hb : c.code = cc) (hR : HR g D A s ρ tys ah H locs) (hS : F2 (vrel g ρ) ast st) (hd : decode cc pc = .ok (.aaload, 1)) {r : List AV} (h : pald k3 ah ast = some r)
    (k : ∀ st', F2 (vrel g ρ) r st' → W p l e R s m args below meth c H locs cells slots Q (F0 m (pc + 1) ls st')) : W p l e R s m args below meth c H locs cells slots Q (F0 m pc ls st) := by
  obtain ⟨n, q, i, t, kind, len, ups, d, cA, en, rest, vs, ws, hK, hP, hSS, rfl, hS2, hk, h1, h2, hen, ht, ha, rfl⟩ := pald_in h hR hS
  match kind, hk, ht, ha with
  | kk + 3, _, ht, ha =>
    obtain ⟨f, rfl, hf⟩ := ha
    refine va_aldq (D := D) hx hb hK hP i t hen ht (vp_in_nI h1 h2) hd ?_
    rw [nI_clamp (by omega)]
    exact k _ (F2_mk (hf n h1) hS2)
theorem past_in {kt : Nat → AV → Bool} {r : List AC × List AV} (h : past kt ah ast = some r) (hR : HR g D A s ρ tys ah H locs) (hS : F2 (vrel g ρ) ast st) :
    ∃ (a : AV) (v : Value) (n q i t kind len : Nat) (ups : Als) (d : AV) (cA : ClassId) (en : va_E) (rest : List AV) (vs : List Value) (ws : va_W), va_K D vwCl tys s ∧ ρ = ws.map Prod.fst ∧ va_P D vwCl ws H ∧ va_D A ws ∧ va_S A s.heap H locs ∧ F2 (fun (c : AC) (q : Nat × va_E) => crel g ρ tys c q.2) ah ws ∧
      st = v :: .int (nI n) :: .ref q :: vs ∧ vrel g ρ a v ∧ F2 (vrel g ρ) rest vs ∧ kt kind a = true ∧ n < len ∧ len < 2147483648 ∧ ws[i]? = some (q, en) ∧ tys[t]? = some (cA, kty kind) ∧ arel g ρ kind cA len (alk d ups) en ∧ r = (ah.set i (.inr (kind, t, len, (n, a) :: ups, d)), rest) := by
  obtain ⟨hK, ws, e1, hP, hDD, hSS, hW⟩ := hR
  unfold past at h
  split at h
  · rename_i a n i rest
    split at h
    · rename_i w ho
      split at h
      · rename_i hk
        split at h
        · split at h
          · rename_i h1 h2
            obtain ⟨kind, t, len, ups, d⟩ := w
            obtain ⟨v0, st0, rfl, hr0, hS0⟩ := F2_cons hS
            obtain ⟨v, st1, rfl, hr1, hS1⟩ := F2_cons hS0
            obtain ⟨w, vs, rfl, hr2, hS2⟩ := F2_cons hS1
            obtain ⟨q, hq, rfl⟩ := hr2
            obtain ⟨en, hen, cA, ht, ha⟩ := ws_at e1 hW hq ho
            exact ⟨a, v0, n, q, i, t, kind, len, ups, d, cA, en, rest, vs, ws, hK, e1, hP, hDD, hSS, hW, by rw [show v = _ from hr1], hr0, hS2, hk, h1, h2, hen, ht, ha, (sj h).symm⟩
          · cases h
        · cases h
      · cases h
    · cases h
  · cases h
/-- the world with one array's content changed -/
theorem HR_set {ws : va_W} {q i t kind len n : Nat} {ups : Als} {d a : AV} {cA : ClassId} {en en' : va_E} {H1 : Heap} {locs1 : List Loc} (hK : va_K D vwCl tys s) (e1 : ρ = ws.map Prod.fst) (hW : F2 (fun (c : AC) (q : Nat × va_E) => crel g ρ tys c q.2) ah ws) (hen : ws[i]? = some (q, en)) (ht : tys[t]? = some (cA, kty kind)) (ha : arel g ρ kind cA len (alk d ((n, a) :: ups)) en')
    (hP1 : va_P D vwCl (ws.set i (q, en')) H1) (hD1 : va_D A (ws.set i (q, en'))) (hS1 : va_S A s.heap H1 locs1) : HR g D A s ρ tys (ah.set i (.inr (kind, t, len, (n, a) :: ups, d))) H1 locs1 :=
  ⟨hK, ws.set i (q, en'), by rw [set_fst hen]; exact e1, hP1, hD1, hS1, F2_set hW i ⟨cA, ht, ha⟩⟩
def s0 (k : Nat) (a : AV) : Bool := match k with | 0 => isI a | _ => false
def s1 (k : Nat) (a : AV) : Bool := match k with | 1 => fitk 1 a | _ => false
def s2 (k : Nat) (a : AV) : Bool := match k with | 2 => fitk 3 a | _ => false
theorem iast_ok (hx : p.tables.exec = Jvm.exec) (hb : c.code = cc) (hR : HR g D A s ρ tys ah H locs) (hS : F2 (vrel g ρ) ast st) (hd : decode cc pc = .ok (.iastore, 1)) {r : List AC × List AV} (h : past s0 ah ast = some r)
    (k : ∀ (H' : Heap) (locs' : List Loc) st', HR g D A s ρ tys r.1 H' locs' → F2 (vrel g ρ) r.2 st' → W p l e R s m args below meth c H' locs' cells slots Q (F0 m (pc + 1) ls st')) : W p l e R s m args below meth c H locs cells slots Q (F0 m pc ls st) := by
  obtain ⟨a, v, n, q, i, t, kind, len, ups, d, cA, en, rest, vs, ws, hK, e1, hP, hDD, hSS, hW, rfl, hr, hS2, hk, h1, h2, hen, ht, ha, rfl⟩ := past_in h hR hS
  match kind, hk, ht, ha with
  | 0, hk, ht, ha =>
    obtain ⟨x, rfl⟩ := vint hk hr
    obtain ⟨f, rfl, hf⟩ := ha
    refine va_iast (D := D) hx hb hK hP hDD hSS i t hen ht (vp_in_nI h1 h2) hd (fun H1 locs1 hP1 hD1 hS1 => ?_)
    rw [nI_clamp (by omega)] at hP1 hD1
    refine k H1 locs1 vs (HR_set (kind := 0) hK e1 hW hen ht ⟨_, rfl, fun j hj => ?_⟩ hP1 hD1 hS1) hS2
    by_cases hjn : j = n
    · subst hjn; rw [alk_here, pk_us]; exact hr
    · rw [alk_there _ _ _ hjn, pk_un hjn]; exact hf j hj
theorem bast_ok (hx : p.tables.exec = Jvm.exec) (hb : c.code = cc) (hR : HR g D A s ρ tys ah H locs) (hS : F2 (vrel g ρ) ast st) (hd : decode cc pc = .ok (.bastore, 1)) {r : List AC × List AV} (h : past s1 ah ast = some r)
    (k : ∀ (H' : Heap) (locs' : List Loc) st', HR g D A s ρ tys r.1 H' locs' → F2 (vrel g ρ) r.2 st' → W p l e R s m args below meth c H' locs' cells slots Q (F0 m (pc + 1) ls st')) : W p l e R s m args below meth c H locs cells slots Q (F0 m pc ls st) := by
  obtain ⟨a, v, n, q, i, t, kind, len, ups, d, cA, en, rest, vs, ws, hK, e1, hP, hDD, hSS, hW, rfl, hr, hS2, hk, h1, h2, hen, ht, ha, rfl⟩ := past_in h hR hS
  match kind, hk, ht, ha with
  | 1, hk, ht, ha =>
    obtain ⟨x, rfl⟩ := vint (show isI a = true by
      match a, hk with
      | .inl 0, _ => rfl
      | .inl 1, _ => rfl) hr
    obtain ⟨f, rfl, hf⟩ := ha
    refine va_zast (D := D) hx hb hK hP hDD hSS i t hen ht (vp_in_nI h1 h2) hd (fun H1 locs1 hP1 hD1 hS1 => ?_)
    rw [nI_clamp (by omega), vp_nar_01 hk hr] at hP1 hD1
    refine k H1 locs1 vs (HR_set (kind := 1) hK e1 hW hen ht ⟨_, rfl, fun j hj => ?_⟩ hP1 hD1 hS1) hS2
    by_cases hjn : j = n
    · subst hjn; rw [alk_here, pk_us]; exact hr
    · rw [alk_there _ _ _ hjn, pk_un hjn]; exact hf j hj
theorem last_ok (hx : p.tables.exec = Jvm.exec) (hb : c.code = cc) (hR : HR g D A s ρ tys ah H locs) (hS : F2 (vrel g ρ) ast st) (hd : decode cc pc = .ok (.lastore, 1)) {r : List AC × List AV} (h : past s2 ah ast = some r)
    (k : ∀ (H' : Heap) (locs' : List Loc) st', HR g D A s ρ tys r.1 H' locs' → F2 (vrel g ρ) r.2 st' → W p l e R s m args below meth c H' locs' cells slots Q (F0 m (pc + 1) ls st')) : W p l e R s m args below meth c H locs cells slots Q (F0 m pc ls st) := by
  obtain ⟨a, v, n, q, i, t, kind, len, ups, d, cA, en, rest, vs, ws, hK, e1, hP, hDD, hSS, hW, rfl, hr, hS2, hk, h1, h2, hen, ht, ha, rfl⟩ := past_in h hR hS
  match kind, hk, ht, ha with
  | 2, hk, ht, ha =>
    obtain ⟨x, rfl⟩ : ∃ x, v = .long x := by
      match a, hk, hr with
      | .inr (.inr (.inr (.inl (some n)))), _, hr => exact ⟨_, hr⟩
    obtain ⟨f, rfl, hf⟩ := ha
    refine va_last (D := D) hx hb hK hP hDD hSS i t hen ht (vp_in_nI h1 h2) hd (fun H1 locs1 hP1 hD1 hS1 => ?_)
    rw [nI_clamp (by omega)] at hP1 hD1
    refine k H1 locs1 vs (HR_set (kind := 2) hK e1 hW hen ht ⟨_, rfl, fun j hj => ?_⟩ hP1 hD1 hS1) hS2
    by_cases hjn : j = n
    · subst hjn; rw [alk_here, pk_uLs]; exact hr
    · rw [alk_there _ _ _ hjn, pk_uLn hjn]; exact hf j hj
/-- the classes whose objects go into rows of objects -/
def aok (ah : List AC) (k : Nat) (a : AV) : Bool :=
  match k with
  | kk + 3 => match isN a with
    | true => true
    | false => match a with
      | .inr (.inr (.inl j)) => match ah[j]? with
        | some (.inl o) => match kk with
          | 0 => Nat.beq o.1 17
          | _ => Nat.beq o.1 17 || Nat.beq o.1 15 || Nat.beq o.1 14
        | _ => false
      | _ => false
  | _ => false
def EOK (s : State) : Prop := ∀ (cj : Nat) (r : vw_C), vwCl[cj]? = some r → (cj = 17 ∨ cj = 15 ∨ cj = 14) → va_Nw (.castable r.1 "java/lang/Object") s
theorem aast_ok (hx : p.tables.exec = Jvm.exec) (hb : c.code = cc) (hE : EOK s) (hR : HR g D A s ρ tys ah H locs) (hS : F2 (vrel g ρ) ast st) (hd : decode cc pc = .ok (.aastore, 1)) {r : List AC × List AV} (h : past (aok ah) ah ast = some r)
    (k : ∀ (H' : Heap) (locs' : List Loc) st', HR g D A s ρ tys r.1 H' locs' → F2 (vrel g ρ) r.2 st' → W p l e R s m args below meth c H' locs' cells slots Q (F0 m (pc + 1) ls st')) : W p l e R s m args below meth c H locs cells slots Q (F0 m pc ls st) := by
  obtain ⟨a, v, n, q, i, t, kind, len, ups, d, cA, en, rest, vs, ws, hK, e1, hP, hDD, hSS, hW, rfl, hr, hS2, hk, h1, h2, hen, ht, ha, rfl⟩ := past_in h hR hS
  match kind, hk, ht, ha with
  | kk + 3, hk, ht, ha =>
    obtain ⟨f, rfl, hf⟩ := ha
    have fin : ∀ (o : Option Nat) (H1 : Heap) (locs1 : List Loc), vrel g ρ a (va_rf o) → va_P D vwCl (ws.set i (q, .inl (cA, len, .inr (.inr (.inr (.inr (va_up f n o))))))) H1 → va_D A (ws.set i (q, .inl (cA, len, .inr (.inr (.inr (.inr (va_up f n o))))))) → va_S A s.heap H1 locs1 → W p l e R s m args below meth c H1 locs1 cells slots Q (F0 m (pc + 1) ls vs) := by
      intro o H1 locs1 ho hP1 hD1 hS1
      refine k H1 locs1 vs (HR_set (kind := kk + 3) hK e1 hW hen ht ⟨_, rfl, fun j hj => ?_⟩ hP1 hD1 hS1) hS2
      by_cases hjn : j = n
      · subst hjn; rw [alk_here, show va_up f j o j = o from if_pos rfl]; exact ho
      · rw [alk_there _ _ _ hjn, show va_up f n o j = f j from if_neg hjn]; exact hf j hj
    cases hN : isN a with
    | true =>
      have e := vnul hN hr
      subst e
      refine va_astqN (D := D) hx hb hK hP hDD hSS i t hen ht (vp_in_nI h1 h2) hd (fun H1 locs1 hP1 hD1 hS1 => ?_)
      rw [nI_clamp (by omega)] at hP1 hD1
      exact fin none H1 locs1 hr hP1 hD1 hS1
    | false =>
      unfold aok at hk
      simp only [hN] at hk
      split at hk
      · rename_i j _
        split at hk
        · rename_i o ho
          obtain ⟨qv, hqv, rfl⟩ := hr
          obtain ⟨ev, hev, vs0, hvs0, rfl⟩ := ws_at e1 hW hqv ho
          have hr' : vrel g ρ (.inr (.inr (.inl j))) (va_rf (some qv)) := ⟨qv, hqv, rfl⟩
          match kk, hk, ht, fin with
          | 0, hk, ht, fin =>
            have hk := Nat.eq_of_beq_eq_true hk
            rw [hk] at hev
            refine va_astq (D := D) (r := (RX16, TX16, 6)) hx hb hK hP hDD hSS i t j 17 hen ht hev rfl (vp_in_nI h1 h2) hd (fun H1 locs1 hP1 hD1 hS1 => ?_)
            rw [nI_clamp (by omega)] at hP1 hD1
            exact fin (some qv) H1 locs1 hr' hP1 hD1 hS1
          | kk + 1, hk, ht, fin =>
            have hk : (Nat.beq o.1 17 || Nat.beq o.1 15 || Nat.beq o.1 14) = true := hk
            have hk2 : o.1 = 17 ∨ o.1 = 15 ∨ o.1 = 14 := by
              simp only [Bool.or_eq_true] at hk
              rcases hk with (hk | hk) | hk
              · exact Or.inl (Nat.eq_of_beq_eq_true hk)
              · exact Or.inr (Or.inl (Nat.eq_of_beq_eq_true hk))
              · exact Or.inr (Or.inr (Nat.eq_of_beq_eq_true hk))
            obtain ⟨rr, hrr⟩ : ∃ rr, vwCl[o.1]? = some rr := by
              rcases hk2 with e | e | e <;> rw [e] <;> exact ⟨_, rfl⟩
            refine va_astqO (D := D) (r := rr) hx hb hK hP hDD hSS i t j o.1 hen ht (hE o.1 rr hrr hk2) hev hrr (vp_in_nI h1 h2) hd (fun H1 locs1 hP1 hD1 hS1 => ?_)
            rw [nI_clamp (by omega)] at hP1 hD1
            exact fin (some qv) H1 locs1 hr' hP1 hD1 hS1
        · cases hk
      · cases hk
theorem alen_ok (hx : p.tables.exec = Jvm.exec) (hb : c.code = cc) (hT : ∃ (ty : FieldType) (f : Nat → Value), va_T ty g.2.2 0 f A s s.heap) (hR : HR g D A s ρ tys ah H locs) (hS : F2 (vrel g ρ) ast st) (hd : decode cc pc = .ok (.arraylength, 1)) {r : List AV} (h : palen ah ast = some r)
    (k : ∀ st', F2 (vrel g ρ) r st' → W p l e R s m args below meth c H locs cells slots Q (F0 m (pc + 1) ls st')) : W p l e R s m args below meth c H locs cells slots Q (F0 m pc ls st) := by
  obtain ⟨hK, ws, e1, hP, hDD, hSS, hW⟩ := hR
  unfold palen at h
  split at h
  · rename_i i rest
    split at h
    · rename_i w ho
      obtain ⟨kind, t, len, ups, d⟩ := w
      have h := sj h
      subst h
      obtain ⟨v, vs, rfl, hr2, hS2⟩ := F2_cons hS
      obtain ⟨q, hq, rfl⟩ := hr2
      obtain ⟨en, hen, cA, ht, ha⟩ := ws_at e1 hW hq ho
      obtain ⟨x, rfl, hx1⟩ : ∃ x : vp_A, en = .inl (cA, x) ∧ x.1 = len := by
        match kind, ha with
        | 0, ha => obtain ⟨f, h1, -⟩ := ha; exact ⟨_, h1, rfl⟩
        | 1, ha => obtain ⟨f, h1, -⟩ := ha; exact ⟨_, h1, rfl⟩
        | 2, ha => obtain ⟨f, h1, -⟩ := ha; exact ⟨_, h1, rfl⟩
        | _ + 3, ha => obtain ⟨f, h1, -⟩ := ha; exact ⟨_, h1, rfl⟩
      exact va_alen (D := D) (v := nI len) hx hb hK hP i t hen ht (by rw [hx1]; rfl) hd (k _ (F2_mk rfl hS2))
    · cases h
  · have h := sj h
    subst h
    obtain ⟨v, vs, rfl, hr2, hS2⟩ := F2_cons hS
    rw [show v = .ref g.2.2 from hr2]
    obtain ⟨ty, f, hT⟩ := hT
    exact va_tlen (v := nI 0) hx hb hT hSS rfl hd (k _ (F2_mk rfl hS2))
  · cases h
end AOK
end
section
def kdef : Nat → AV
  | 2 => .inr (.inr (.inr (.inl none)))
  | 3 => .inr (.inr (.inr (.inl (some 0))))
  | _ => .inl 0
def akdef : Nat → AV
  | 0 => .inl 0
  | 1 => .inl 0
  | 2 => .inr (.inr (.inr (.inl (some 0))))
  | _ => .inr (.inr (.inr (.inl none)))
def pmka (kind : Nat) (ah : List AC) (nt : Nat) (ast : List AV) : Option (List AC × List AV × Nat) :=
  match ast with
  | .inl n :: rest => if n ≤ 100000 then some (ah ++ [.inr (kind, nt, n, [], akdef kind)], .inr (.inr (.inl ah.length)) :: rest, n) else none
  | _ => none
def pmko (x : Nat) (fk : List Nat) (ah : List AC) (ast : List AV) : List AC × List AV := (ah ++ [.inl (x, fk.map kdef)], .inr (.inr (.inl ah.length)) :: ast)
def NOK (WB : List Jvm.Cond) (own : String) (idx x : Nat) (fk : List Nat) : Prop := ∃ (C : String) (T : u_T) (N : Nat) (ty : Nat → FieldType), vwCl[x]? = some (C, T, N) ∧ (∀ w ∈ u_ws C T N, w ∈ WB) ∧ (∀ k, k < N → parseFieldDescriptor (T k).2.2.1 = some (ty k)) ∧ Jvm.Cond.classLink own idx C ∈ WB ∧ Jvm.Cond.instantiable C N ∈ WB ∧ Jvm.Cond.initialized C ∈ WB ∧ fk.length = N ∧ ∀ j, j < N → ∃ z, fk[j]? = some z ∧ kindok z (ty j) = true
theorem F2_of {α β : Type} {R : α → β → Prop} {l : List α} {m : List β} (hl : l.length = m.length) (h : ∀ (i : Nat) (a : α) (b : β), l[i]? = some a → m[i]? = some b → R a b) : F2 R l m := by
  induction l generalizing m with
  | nil =>
    cases m with
    | nil => exact F2_0
    | cons b m => simp at hl
  | cons x l ih =>
    cases m with
    | nil => simp at hl
    | cons b m => exact F2_mk (h 0 x b rfl rfl) (ih (by simpa using hl) (fun i a b ha hb => h (i + 1) a b (by simpa using ha) (by simpa using hb)))
theorem kdef_ok {g : GV} {ρ : List Nat} {z : Nat} {ty : FieldType} (h : kindok z ty = true) : vrel g ρ (kdef z) (defaultValue ty) := by
  match z, ty, h with
  | 0, .int, _ => exact (rfl : defaultValue .int = .int (nI 0))
  | 1, .boolean, _ => exact (rfl : defaultValue .boolean = .int (nI 0))
  | 2, .object C, _ => exact (rfl : defaultValue (.object C) = .null)
  | 2, .array C, _ => exact (rfl : defaultValue (.array C) = .null)
  | 3, .long, _ => exact (rfl : defaultValue .long = .long (lN 0))
section MOK
variable {p : Program} {l : Launch} {e : Env} {R : Room} {s : State} {m : MethodId} {args : Array Value} {below : List Frame} {meth : Method} {c : Code} {H : Heap} {locs : List Loc} {cells slots : Nat} {Q : State → Prop} {cc : ByteArray} {pc : Nat} {ls : Array Slot} {st : List Value}
variable {g : GV} {D : va_G} {A : Nat → Prop} {ρ : List Nat} {tys : TY} {ah : List AC} {ast : List AV} {WB : List Jvm.Cond} {own : String}
theorem app_old {α : Type} {l : List α} {x : List α} (i : Nat) (a : α) (h : l[i]? = some a) : (l ++ x)[i]? = some a := by
  rw [List.getElem?_append_left (List.getElem?_eq_some_iff.mp h).1]; exact h
theorem app_new {α : Type} (l : List α) (a : α) : (l ++ [a])[l.length]? = some a := by simp
theorem HR_app {ws : va_W} {q : Nat} {en : va_E} {ac : AC} {ex : TY} {H1 : Heap} {locs1 : List Loc} (e1 : ρ = ws.map Prod.fst) (hW : F2 (fun (c : AC) (q : Nat × va_E) => crel g ρ tys c q.2) ah ws) (hK : va_K D vwCl (tys ++ ex) s) (hc : crel g (ρ ++ [q]) (tys ++ ex) ac en) (hP1 : va_P D vwCl (ws ++ [(q, en)]) H1) (hD1 : va_D A (ws ++ [(q, en)])) (hS1 : va_S A s.heap H1 locs1) : HR g D A s (ρ ++ [q]) (tys ++ ex) (ah ++ [ac]) H1 locs1 :=
  ⟨hK, ws ++ [(q, en)], by rw [e1]; simp, hP1, hD1, hS1, F2_app (F2_mono (fun _ _ h => crel_more (fun i a h => app_old i a h) (fun i a h => app_old i a h) h) hW) (F2_mk hc F2_0)⟩
theorem newa_ok (hx : p.tables.exec = Jvm.exec) (hb : c.code = cc) (hts : ∀ w ∈ WB, w.before args s = true) (hA : ∀ q, s.heap.size ≤ q → A q) {kind : Nat} {aty : ArrayType} (hka : (kind = 0 ∧ aty = .int) ∨ (kind = 1 ∧ aty = .boolean) ∨ (kind = 2 ∧ aty = .long)) (hwd : Jvm.Cond.arrayClass (newarray.typeOf aty) ∈ WB) (hR : HR g D A s ρ tys ah H locs) (hS : F2 (vrel g ρ) ast st) (hd : decode cc pc = .ok (.newarray aty, 2)) {r : List AC × List AV × Nat} (h : pmka kind ah tys.length ast = some r)
    (hcl : cells + 1 ≤ R.cells) (hsl : slots + r.2.2 ≤ R.slots)
    (k : ∀ (ρ' : List Nat) (tys' : TY) (H' : Heap) (locs' : List Loc) st', (∀ (i a : Nat), ρ[i]? = some a → ρ'[i]? = some a) → tys'.length = tys.length + 1 → HR g D A s ρ' tys' r.1 H' locs' → F2 (vrel g ρ') r.2.1 st' → W p l e R s m args below meth c H' locs' (cells + 1) (slots + r.2.2) Q (F0 m (pc + 2) ls st')) : W p l e R s m args below meth c H locs cells slots Q (F0 m pc ls st) := by
  obtain ⟨hK, ws, e1, hP, hDD, hSS, hW⟩ := hR
  unfold pmka at h
  split at h
  · rename_i n rest
    split at h
    · rename_i hn
      have h := sj h
      subst h
      obtain ⟨v, vs, rfl, hr1, hS1⟩ := F2_cons hS
      rw [show v = .int (nI n) from hr1]
      have hlen : ah.length = ws.length := F2_len hW
      have hρl : ρ.length = ws.length := by rw [e1]; simp
      have fin : ∀ (en : ClassId → va_E) (q : Nat) (cA : ClassId) (H1 : Heap), (∀ ρ' : List Nat, arel g ρ' kind cA n (alk (akdef kind) []) (en cA)) → va_K D vwCl (tys ++ [(cA, kty kind)]) s → va_P D vwCl (ws ++ [(q, en cA)]) H1 → va_D A (ws ++ [(q, en cA)]) → va_S A s.heap H1 locs → W p l e R s m args below meth c H1 locs (cells + 1) (slots + n) Q (F0 m (pc + 2) ls (.ref q :: vs)) := by
        intro en q cA H1 ha hK1 hP1 hD1 hS2
        refine k (ρ ++ [q]) (tys ++ [(cA, kty kind)]) H1 locs _ (fun i a h => app_old i a h) (by simp) (HR_app e1 hW hK1 ⟨cA, app_new _ _, ha _⟩ hP1 hD1 hS2) (F2_mk ⟨q, ?_, rfl⟩ (F2_mono (fun _ _ h => vrel_more (fun i a h => app_old i a h) h) hS1))
        rw [hlen, ← hρl]; exact app_new _ _
      have hn0 : ¬ nI n < 0 := nI_pos (by omega)
      have hcn : (nI n).toNatClampNeg = n := nI_clamp (by omega)
      rcases hka with ⟨rfl, rfl⟩ | ⟨rfl, rfl⟩ | ⟨rfl, rfl⟩
      · exact va_newa (D := D) (atype := .int) (ty := .int) (a0 := (n, .inl (fun _ => 0))) hx hb (hts _ hwd) rfl hK hP hDD hSS hA (fun cA => rfl) hn0 hcn (by show n * 4 ≤ 536870912; omega) hcl hsl hd (fun q cA H1 => fin (fun cA => .inl (cA, n, .inl (fun _ => 0))) q cA H1 (fun _ => ⟨_, rfl, fun _ _ => rfl⟩))
      · exact va_newa (D := D) (atype := .boolean) (ty := .boolean) (a0 := (n, .inl (fun _ => 0))) hx hb (hts _ hwd) rfl hK hP hDD hSS hA (fun cA => rfl) hn0 hcn (by show n * 1 ≤ 536870912; omega) hcl hsl hd (fun q cA H1 => fin (fun cA => .inl (cA, n, .inl (fun _ => 0))) q cA H1 (fun _ => ⟨_, rfl, fun _ _ => rfl⟩))
      · exact va_newa (D := D) (atype := .long) (ty := .long) (a0 := (n, .inr (.inl (fun _ => 0)))) hx hb (hts _ hwd) rfl hK hP hDD hSS hA (fun cA => rfl) hn0 hcn (by show n * 8 ≤ 536870912; omega) hcl hsl hd (fun q cA H1 => fin (fun cA => .inl (cA, n, .inr (.inl (fun _ => 0)))) q cA H1 (fun _ => ⟨_, rfl, fun _ _ => rfl⟩))
    · cases h
  · cases h
theorem newq_ok (hx : p.tables.exec = Jvm.exec) (hb : c.code = cc) (hts : ∀ w ∈ WB, w.before args s = true) (hown : s.vm.findClass own = some m.cls) (hA : ∀ q, s.heap.size ≤ q → A q) {kk idx : Nat} (hcl0 : Jvm.Cond.classLink own idx (ecls kk) ∈ WB) (hover : va_AO (ecls kk) s) (hR : HR g D A s ρ tys ah H locs) (hS : F2 (vrel g ρ) ast st) (hd : decode cc pc = .ok (.anewarray idx, 3)) {r : List AC × List AV × Nat} (h : pmka (kk + 3) ah tys.length ast = some r)
    (hcl : cells + 1 ≤ R.cells) (hsl : slots + r.2.2 ≤ R.slots)
    (k : ∀ (ρ' : List Nat) (tys' : TY) (H' : Heap) (locs' : List Loc) st', (∀ (i a : Nat), ρ[i]? = some a → ρ'[i]? = some a) → tys'.length = tys.length + 1 → HR g D A s ρ' tys' r.1 H' locs' → F2 (vrel g ρ') r.2.1 st' → W p l e R s m args below meth c H' locs' (cells + 1) (slots + r.2.2) Q (F0 m (pc + 3) ls st')) : W p l e R s m args below meth c H locs cells slots Q (F0 m pc ls st) := by
  obtain ⟨hK, ws, e1, hP, hDD, hSS, hW⟩ := hR
  unfold pmka at h
  split at h
  · rename_i n rest
    split at h
    · rename_i hn
      have h := sj h
      subst h
      obtain ⟨v, vs, rfl, hr1, hS1⟩ := F2_cons hS
      rw [show v = .int (nI n) from hr1]
      have hlen : ah.length = ws.length := F2_len hW
      have hρl : ρ.length = ws.length := by rw [e1]; simp
      have hn0 : ¬ nI n < 0 := nI_pos (by omega)
      have hcn : (nI n).toNatClampNeg = n := nI_clamp (by omega)
      refine va_newq (D := D) hx hb hown (hts _ hcl0) hover hK hP hDD hSS hA hn0 hcn (by omega) hcl hsl hd (fun q cA H1 hK1 hP1 hD1 hS2 => ?_)
      refine k (ρ ++ [q]) (tys ++ [(cA, kty (kk + 3))]) H1 locs _ (fun i a h => app_old i a h) (by simp) (HR_app e1 hW hK1 ⟨cA, app_new _ _, ⟨_, rfl, fun _ _ => (rfl : va_rf none = .null)⟩⟩ hP1 hD1 hS2) (F2_mk ⟨q, ?_, rfl⟩ (F2_mono (fun _ _ h => vrel_more (fun i a h => app_old i a h) h) hS1))
      rw [hlen, ← hρl]; exact app_new _ _
    · cases h
  · cases h
theorem new_ok (hx : p.tables.exec = Jvm.exec) (hb : c.code = cc) (hts : ∀ w ∈ WB, w.before args s = true) (hown : s.vm.findClass own = some m.cls) (hA : ∀ q, s.heap.size ≤ q → A q) {idx x : Nat} {fk : List Nat} (hN : NOK WB own idx x fk) (hR : HR g D A s ρ tys ah H locs) (hS : F2 (vrel g ρ) ast st) (hd : decode cc pc = .ok (.new idx, 3))
    (hcl : cells + 1 ≤ R.cells) (hsl : slots + fk.length ≤ R.slots)
    (k : ∀ (ρ' : List Nat) (H' : Heap) (locs' : List Loc) st', (∀ (i a : Nat), ρ[i]? = some a → ρ'[i]? = some a) → HR g D A s ρ' tys (pmko x fk ah ast).1 H' locs' → F2 (vrel g ρ') (pmko x fk ah ast).2 st' → W p l e R s m args below meth c H' locs' (cells + 1) (slots + fk.length) Q (F0 m (pc + 3) ls st')) : W p l e R s m args below meth c H locs cells slots Q (F0 m pc ls st) := by
  obtain ⟨C, T, N, ty, f1, f2, f3, f4, f5, f6, f7, f8⟩ := hN
  obtain ⟨hK, ws, e1, hP, hDD, hSS, hW⟩ := hR
  have hlen : ah.length = ws.length := F2_len hW
  have hρl : ρ.length = ws.length := by rw [e1]; simp
  subst f7
  have hfs : ∀ j, j < fk.length → defaultValue (ty j) = vp_V ((List.range fk.length).map (fun j => defaultValue (ty j))) j := by
    intro j hj
    unfold vp_V
    rw [List.getD_eq_getElem?_getD, List.getElem?_map, List.getElem?_range hj]
    rfl
  have hFv : ∀ ρ' : List Nat, F2 (vrel g ρ') (fk.map kdef) ((List.range fk.length).map (fun j => defaultValue (ty j))) := by
    intro ρ'
    refine F2_of (by simp) (fun i a b ha hb => ?_)
    rw [List.getElem?_map] at ha hb
    cases hz : fk[i]? with
    | none => rw [hz] at ha; cases ha
    | some z =>
      rw [hz] at ha
      have hi : i < fk.length := (List.getElem?_eq_some_iff.mp hz).1
      rw [List.getElem?_range hi] at hb
      have ha := Option.some.inj ha
      have hb := Option.some.inj hb
      subst ha
      subst hb
      obtain ⟨z', hz', hk⟩ := f8 i hi
      cases hz.symm.trans hz'
      exact kdef_ok hk
  refine va_new (D := D) hx hb hts f2 ty f3 hown (hts _ f4) (hts _ f5) (hts _ f6) hK hP hDD hSS hA f1 hfs hcl hsl hd (fun q H1 hP1 hD1 hS2 => ?_)
  have hK' : va_K D vwCl (tys ++ []) s := by rw [List.append_nil]; exact hK
  have key := HR_app (ex := []) (ac := .inl (x, fk.map kdef)) e1 hW hK' ⟨_, hFv (ρ ++ [q]), rfl⟩ hP1 hD1 hS2
  rw [List.append_nil] at key
  refine k (ρ ++ [q]) H1 locs _ (fun i a h => app_old i a h) key (F2_mk ⟨q, ?_, rfl⟩ (F2_mono (fun _ _ h => vrel_more (fun i a h => app_old i a h) h) hS))
  rw [hlen, ← hρl]; exact app_new _ _
theorem gets_ok (hx : p.tables.exec = Jvm.exec) (hb : c.code = cc) (hts : ∀ w ∈ WB, w.before args s = true) (hown : s.vm.findClass own = some m.cls) {C n d : String} (hZ : va_Z C n d (.ref g.2.2) A s s.heap) {idx : Nat} (hlink : Jvm.Cond.fieldLink own idx C n d ∈ WB) (hR : HR g D A s ρ tys ah H locs) (hS : F2 (vrel g ρ) ast st) (hd : decode cc pc = .ok (.getstatic idx, 3))
    (k : ∀ st', F2 (vrel g ρ) (.inr (.inr (.inr (.inr 3))) :: ast) st' → W p l e R s m args below meth c H locs cells slots Q (F0 m (pc + 3) ls st')) : W p l e R s m args below meth c H locs cells slots Q (F0 m pc ls st) := by
  obtain ⟨hK, ws, e1, hP, hDD, hSS, hW⟩ := hR
  exact va_gets hx hb hZ hSS hown (hts _ hlink) (fun _ h9 => h9) hd (k _ (F2_mk rfl hS))
end MOK
end
section
/-! the run of a method by numbers -/
abbrev IE : Type := Instr × Nat × Nat × Nat × List Nat
abbrev MD : Type := MethodName × ByteArray × Nat × Option FieldType × Nat × String × Bool × List (Nat × Nat × Nat × Nat × Nat)
abbrev MT : Type := MD × List (Nat × IE)
/-- the case: the symbols' bounds, the first one's low bits, the script's length -/
abbrev EV : Type := List (Nat × Nat) × Nat × Nat
abbrev Fin9 : Type := Nat × Nat × AV × List AC × Nat × Nat × Nat
def mY (d : MD) : MethodName := d.1
def mC (d : MD) : ByteArray := d.2.1
def mL (d : MD) : Nat := d.2.2.1
def mR (d : MD) : Option FieldType := d.2.2.2.1
def mN (d : MD) : Nat := d.2.2.2.2.1
def mO (d : MD) : String := d.2.2.2.2.2.1
def mI (d : MD) : Bool := d.2.2.2.2.2.2.1
def mH (d : MD) : List (Nat × Nat × Nat × Nat × Nat) := d.2.2.2.2.2.2.2
def lkp {α : Type} : List (Nat × α) → Nat → Option α
  | [], _ => none
  | q :: l, i => match Nat.beq q.1 i with
    | true => some q.2
    | false => lkp l i
theorem lkp_mem {α : Type} {l : List (Nat × α)} {i : Nat} {e : α} (h : lkp l i = some e) : (i, e) ∈ l := by
  induction l with
  | nil => cases h
  | cons q l ih =>
    unfold lkp at h
    cases hb : Nat.beq q.1 i with
    | true =>
      rw [hb] at h
      have h := sj h
      subst h
      rw [← Nat.eq_of_beq_eq_true hb]
      exact List.mem_cons_self
    | false =>
      rw [hb] at h
      exact List.mem_cons_of_mem _ (ih h)
def addu (uc us : Nat) (f : Option Fin9) : Option Fin9 :=
  match f with
  | some (rk, pc, a, ah, nt, u, v) => some (rk, pc, a, ah, nt, uc + u, us + v)
  | none => none
def aargs : Nat → List AV → Als
  | _, [] => []
  | i, v :: vs => (i, v) :: aargs (if acat v = 2 then i + 2 else i + 1) vs
def rkind (ty : FieldType) : Nat :=
  match ty with
  | .int => 0
  | .boolean => 1
  | _ => 9
def retok (r : Option FieldType) (a : AV) : Bool :=
  match r with
  | some ty => fitk (rkind ty) a
  | none => false
def acats : List AV → Nat
  | [] => 0
  | a :: l => acat a + acats l
def hfind : List (Nat × Nat × Nat × Nat × Nat) → Nat → Nat → Option Nat
  | [], _, _ => none
  | q :: l, pc, ec => match Nat.ble q.1 pc && Nat.blt pc q.2.1 with
    | true => match Nat.beq q.2.2.2.2 ec with
      | true => some q.2.2.1
      | false => match Nat.blt q.2.2.2.2 3 with
        | true => hfind l pc ec
        | false => none
    | false => hfind l pc ec
def isObj (ah : List AC) (y : Nat) (args : List AV) : Bool :=
  match args with
  | .inr (.inr (.inl i)) :: _ => match ah[i]? with
    | some (.inl o) => Nat.beq o.1 y
    | _ => false
  | _ => false
def isRv (args : List AV) : Bool :=
  match args with
  | a :: _ => isR a
  | _ => false
def rcv (vk : Nat) (ah : List AC) (y : Nat) (args : List AV) : Bool :=
  match vk with
  | 0 => true
  | 2 => isRv args
  | _ => isObj ah y args
/-! numbers and lists laid out at once, so that the kernel need not do it again and again: each of these is 'k x' -/
def fN {β : Type} (n : Nat) (k : Nat → β) : β :=
  match n with
  | 0 => k 0
  | m + 1 => k (Nat.succ m)
def fV {β : Type} (a : AV) (k : AV → β) : β :=
  match a with
  | .inl n => fN n (fun n => k (.inl n))
  | .inr (.inl n) => fN n (fun n => k (.inr (.inl n)))
  | .inr (.inr (.inl n)) => fN n (fun n => k (.inr (.inr (.inl n))))
  | .inr (.inr (.inr (.inl none))) => k (.inr (.inr (.inr (.inl none))))
  | .inr (.inr (.inr (.inl (some n)))) => fN n (fun n => k (.inr (.inr (.inr (.inl (some n))))))
  | .inr (.inr (.inr (.inr n))) => fN n (fun n => k (.inr (.inr (.inr (.inr n)))))
def fL {β : Type} : List AV → (List AV → β) → β
  | [], k => k []
  | a :: l, k => fV a (fun a' => fL l (fun l' => k (a' :: l')))
def fA {β : Type} : Als → (Als → β) → β
  | [], k => k []
  | a :: l, k => fN a.1 (fun i => fV a.2 (fun a' => fA l (fun l' => k ((i, a') :: l'))))
def fC {β : Type} (c : AC) (k : AC → β) : β :=
  match c with
  | .inl o => fN o.1 (fun i => fL o.2 (fun l => k (.inl (i, l))))
  | .inr w => match w with
    | (kind, t, len, (n, a) :: ups, d) => fN n (fun n' => fV a (fun a' => k (.inr (kind, t, len, (n', a') :: ups, d))))
    | w => k (.inr w)
def fH {β : Type} : Nat → List AC → (List AC → β) → β
  | _, [], k => k []
  | 0, c :: l, k => fC c (fun c' => k (c' :: l))
  | i + 1, c :: l, k => fH i l (fun l' => k (c :: l'))
theorem fN_eq {β : Type} (n : Nat) (k : Nat → β) : fN n k = k n := by cases n <;> rfl
theorem fV_eq {β : Type} (a : AV) (k : AV → β) : fV a k = k a := by
  match a with
  | .inl n => exact fN_eq n (fun n => k (.inl n))
  | .inr (.inl n) => exact fN_eq n (fun n => k (.inr (.inl n)))
  | .inr (.inr (.inl n)) => exact fN_eq n (fun n => k (.inr (.inr (.inl n))))
  | .inr (.inr (.inr (.inl none))) => rfl
  | .inr (.inr (.inr (.inl (some n)))) => exact fN_eq n (fun n => k (.inr (.inr (.inr (.inl (some n))))))
  | .inr (.inr (.inr (.inr n))) => exact fN_eq n (fun n => k (.inr (.inr (.inr (.inr n)))))
theorem fL_eq {β : Type} (l : List AV) (k : List AV → β) : fL l k = k l := by
  induction l generalizing k with
  | nil => rfl
  | cons a l ih =>
    show fV a (fun a' => fL l (fun l' => k (a' :: l'))) = _
    rw [fV_eq, ih]
theorem fA_eq {β : Type} (l : Als) (k : Als → β) : fA l k = k l := by
  induction l generalizing k with
  | nil => rfl
  | cons a l ih =>
    show fN a.1 (fun i => fV a.2 (fun a' => fA l (fun l' => k ((i, a') :: l')))) = _
    rw [fN_eq, fV_eq, ih]
theorem fC_eq {β : Type} (c : AC) (k : AC → β) : fC c k = k c := by
  match c with
  | .inl o =>
    show fN o.1 (fun i => fL o.2 (fun l => k (.inl (i, l)))) = _
    rw [fN_eq, fL_eq]
  | .inr (kind, t, len, (n, a) :: ups, d) =>
    show fN n (fun n' => fV a (fun a' => k (.inr (kind, t, len, (n', a') :: ups, d)))) = _
    rw [fN_eq, fV_eq]
  | .inr (kind, t, len, [], d) => rfl
theorem fH_eq {β : Type} (i : Nat) (l : List AC) (k : List AC → β) : fH i l k = k l := by
  induction l generalizing i k with
  | nil => unfold fH; rfl
  | cons c l ih =>
    cases i with
    | zero => exact fC_eq c _
    | succ i =>
      show fH i l (fun l' => k (c :: l')) = _
      rw [ih]
def ref2 (ast : List AV) : Nat :=
  match ast with
  | _ :: .inr (.inr (.inl i)) :: _ => i
  | _ => 0
def ref3 (ast : List AV) : Nat :=
  match ast with
  | _ :: _ :: .inr (.inr (.inl i)) :: _ => i
  | _ => 0
def tsw (n : Nat) (pc : Nat) (dflt lo hi : Int) (offs : Array Int) : Option Nat :=
  if (n : Int) < lo then tgt pc dflt else if hi < (n : Int) then tgt pc dflt else match offs[((n : Int) - lo).toNat]? with
    | some o => tgt pc o
    | none => none
def copyA (x : AC) (y : AC) (sp dp n : Nat) : Option AC :=
  match x, y with
  | .inr (0, _, ln, ups, d), .inr (0, t2, ln2, ups2, d2) => if sp + n ≤ ln then (if dp + n ≤ ln2 then some (.inr (0, t2, ln2, ((List.range n).map fun i => (dp + i, alk d ups (sp + i))) ++ ups2, d2)) else none) else none
  | _, _ => none
abbrev RC : Type := Nat → Nat → Nat → Als → List AV → List AC → Nat → Option Fin9
abbrev Step : Type := EV → RC → Nat → Nat → Nat → Als → List AV → List AC → Nat → Option Fin9
def aRet (r : Option FieldType) : Step := fun _ _ _ _ pc _ ast ah nt =>
  match ast with
  | [a] => match retok r a with
    | true => some (0, pc, a, ah, nt, 0, 0)
    | false => none
  | _ => none
def aVoid : Step := fun _ _ _ _ pc _ ast ah nt =>
  match ast with
  | [] => some (1, pc, .inl 0, ah, nt, 0, 0)
  | _ => none
def aARet : Step := fun _ _ _ _ pc _ ast ah nt =>
  match ast with
  | [a] => match isRN a with
    | true => some (2, pc, a, ah, nt, 0, 0)
    | false => none
  | _ => none
/-- a new stack alone -/
def aSt (len : Nat) (f : List AC → List AV → Option (List AV)) : Step := fun _ rc dep mi pc als ast ah nt =>
  match f ah ast with
  | some st => fN (pc + len) (fun pc' => fL st (fun st' => rc dep mi pc' als st' ah nt))
  | none => none
/-- a cell written -/
def aWr (len : Nat) (w : List AV → Nat) (f : List AC → List AV → Option (List AC × List AV)) : Step := fun _ rc dep mi pc als ast ah nt =>
  match f ah ast with
  | some r => fH (w ast) r.1 (fun h => fN (pc + len) (fun pc' => rc dep mi pc' als r.2 h nt))
  | none => none
/-- the script's ints -/
def scrI (ev : EV) (mi : Nat) (ast : List AV) : Option (List AV) :=
  match ast with
  | .inl j :: .inr (.inr (.inr (.inr 2))) :: rest => match mi with
    | 0 => if j < ev.2.2 then (match ev.1[j]? with
      | some b => if b.1 = b.2 then some (.inl ((b.1 + 2147483648) % 4294967296) :: rest) else some (.inr (.inl j) :: rest)
      | none => none) else none
    | _ => none
  | _ => none
def scrL (ev : EV) (mi : Nat) (ast : List AV) : Option (List AV) :=
  match ast with
  | .inr (.inr (.inr (.inr 2))) :: rest => match mi with
    | 0 => match ev.1 with
      | [] => none
      | _ :: _ => some (.inl ev.2.2 :: rest)
    | _ => none
  | _ => none
def aIald : Step := fun ev rc dep mi pc als ast ah nt =>
  match scrI ev mi ast with
  | some st => fN (pc + 1) (fun pc' => fL st (fun st' => rc dep mi pc' als st' ah nt))
  | none => aSt 1 (pald k0) ev rc dep mi pc als ast ah nt
def aAlen : Step := fun ev rc dep mi pc als ast ah nt =>
  match scrL ev mi ast with
  | some st => fN (pc + 1) (fun pc' => fL st (fun st' => rc dep mi pc' als st' ah nt))
  | none => aSt 1 palen ev rc dep mi pc als ast ah nt
def aMka (len kind : Nat) : Step := fun _ rc dep mi pc als ast ah nt =>
  match pmka kind ah nt ast with
  | some r => addu 1 r.2.2 (fH ah.length r.1 (fun h => fN (pc + len) (fun pc' => fN (nt + 1) (fun nt' => fL r.2.1 (fun st => rc dep mi pc' als st h nt')))))
  | none => none
def aThr (ec : Nat) : Step := fun _ _ _ _ pc _ ast ah nt =>
  match ast with
  | [] => some (ec + 3, pc, .inl 0, ah, nt, 1, 6)
  | _ => none
def aNew (x : Nat) (fk : List Nat) : Step := fun _ rc dep mi pc als ast ah nt =>
  addu 1 fk.length (fH ah.length (pmko x fk ah ast).1 (fun h => fN (pc + 3) (fun pc' => fL (pmko x fk ah ast).2 (fun st => rc dep mi pc' als st h nt))))
def aGets : Step := fun _ rc dep mi pc als ast ah nt => fN (pc + 3) (fun pc' => rc dep mi pc' als (.inr (.inr (.inr (.inr 3))) :: ast) ah nt)
def aTsw (dflt lo hi : Int) (offs : Array Int) : Step := fun _ rc dep mi pc als ast ah nt =>
  match ast with
  | .inl n :: rest => if n < 2147483648 then (match tsw n pc dflt lo hi offs with
    | some t => fN t (fun t' => rc dep mi t' als rest ah nt)
    | none => none) else none
  | _ => none
def aObj : Step := fun _ rc dep mi pc als ast ah nt =>
  match ast with
  | a :: rest => match isR a && Nat.ble (acats rest) 8 with
    | true => fN (pc + 3) (fun pc' => rc dep mi pc' als rest ah nt)
    | false => none
  | _ => none
def pcopy (ah : List AC) (ast : List AV) : Option (List AC × List AV) :=
  match ast with
  | .inl n :: .inl dp :: .inr (.inr (.inl j)) :: .inl sp :: .inr (.inr (.inl i)) :: rest => match ah[i]? with
    | some ci => match ah[j]? with
      | some cj => if n < 100000 then (if dp < 100000 then (if sp < 100000 then (match copyA ci cj sp dp n with
        | some c' => match Nat.ble (acats rest) 8 with
          | true => some (ah.set j c', rest)
          | false => none
        | none => none) else none) else none) else none
      | none => none
    | none => none
  | _ => none
def pmax (_ : List AC) (ast : List AV) : Option (List AV) :=
  match ast with
  | .inl b :: .inl a :: rest => match Nat.ble (acats rest) 8 with
    | true => if a < 2147483648 then (if b < 2147483648 then some (.inl (if a ≤ b then b else a) :: rest) else none) else none
    | false => none
  | _ => none
/-- what comes behind a call -/
def aft (rc : RC) (vk : Nat) (hh : List (Nat × Nat × Nat × Nat × Nat)) (len d mi pc : Nat) (als : Als) (rest : List AV) (f : Fin9) : Option Fin9 :=
  match f with
  | (0, _, a, ah, nt, u, v) => addu u v (fN (pc + len) (fun pc' => fN nt (fun nt' => fL (a :: rest) (fun st => rc d mi pc' als st ah nt'))))
  | (1, _, _, ah, nt, u, v) => addu u v (fN (pc + len) (fun pc' => fN nt (fun nt' => rc d mi pc' als rest ah nt')))
  | (2, _, a, ah, nt, u, v) => addu u v (fN (pc + len) (fun pc' => fN nt (fun nt' => fL (a :: rest) (fun st => rc d mi pc' als st ah nt'))))
  | (ec + 3, _, _, ah, nt, u, v) => match Nat.beq vk 1 && Nat.blt ec 3 with
    | true => match hfind hh pc ec with
      | some hp => addu u v (fN nt (fun nt' => rc d mi hp als [.inr (.inr (.inr (.inr 0)))] ah nt'))
      | none => none
    | false => none
/-- a call: which kind (0 static, 1 virtual, 2 special, 3 by an interface; at 1 and 3 the receiver's class y is looked at), how long the instruction, of the method x with so many arguments -/
def aCall (vk len x y np : Nat) (hh : List (Nat × Nat × Nat × Nat × Nat)) : Step := fun _ rc dep mi pc als ast ah nt =>
  match dep with
  | 0 => none
  | d + 1 => match Nat.ble np ast.length && (Nat.ble (acats (ast.drop np)) 8 && Nat.beq (acats (ast.take np)) np) with
    | false => none
    | true => match rcv vk ah y (ast.take np).reverse with
      | false => none
      | true => match fA (aargs 0 (ast.take np).reverse) (fun als' => rc d x 0 als' [] ah nt) with
        | none => none
        | some f => fL (ast.drop np) (fun rest => aft rc vk hh len (d + 1) mi pc als rest f)
def aPs (f : EV → Nat → Als → List AV → P1) : Step := fun ev rc dep mi pc als ast ah nt =>
  match f ev pc als ast with
  | some r => fN r.1 (fun pc' => fA r.2.1 (fun als' => fL r.2.2 (fun st => rc dep mi pc' als' st ah nt)))
  | none => none
def aNo : Step := fun _ _ _ _ _ _ _ _ _ => none
def stepOf (NP : Nat → Nat) (md : MD) (ie : IE) : Step :=
  match ie.1 with
  | .ireturn => aRet (mR md)
  | .return_ => aVoid
  | .areturn => aARet
  | .getfield _ => aSt 3 (pgf ie.2.1 ie.2.2.1)
  | .putfield _ => aWr 3 ref2 (ppf ie.2.1 ie.2.2.1 ie.2.2.2.1)
  | .iaload => aIald
  | .baload => aSt 1 (pald k1)
  | .laload => aSt 1 (pald k2)
  | .aaload => aSt 1 (pald k3)
  | .iastore => aWr 1 ref3 (past s0)
  | .bastore => aWr 1 ref3 (past s1)
  | .lastore => aWr 1 ref3 (past s2)
  | .aastore => aWr 1 ref3 (fun ah => past (aok ah) ah)
  | .arraylength => aAlen
  | .newarray _ => aMka 2 ie.2.1
  | .anewarray _ => aMka 3 (ie.2.1 + 3)
  | .new _ => match Nat.ble 100 ie.2.1 with
    | true => aThr (ie.2.1 - 100)
    | false => aNew ie.2.1 ie.2.2.2.2
  | .getstatic _ => aGets
  | .tableswitch dflt lo hi offs => aTsw dflt lo hi offs
  | .invokespecial _ => match Nat.beq ie.2.1 1000 with
    | true => aObj
    | false => match ie.2.1 with
      | 0 => aNo
      | x + 1 => aCall 2 3 (x + 1) ie.2.2.1 (NP (x + 1)) (mH md)
  | .invokestatic _ => match Nat.beq ie.2.1 1000 with
    | true => aWr 3 ref3 pcopy
    | false => match Nat.beq ie.2.1 1001 with
      | true => aSt 3 pmax
      | false => match ie.2.1 with
        | 0 => aNo
        | x + 1 => aCall 0 3 (x + 1) ie.2.2.1 (NP (x + 1)) (mH md)
  | .invokevirtual _ => match ie.2.1 with
    | 0 => aNo
    | x + 1 => aCall 1 3 (x + 1) ie.2.2.1 (NP (x + 1)) (mH md)
  | .invokeinterface _ _ => match ie.2.1 with
    | 0 => aNo
    | x + 1 => aCall 3 5 (x + 1) ie.2.2.1 (NP (x + 1)) (mH md)
  | ins => aPs (fun ev pc als ast => ps1 ev.1 ev.2.1 (mL md) ins pc als ast)
def run (TF : List (List (Nat × Step))) (ev : EV) : Nat → RC
  | 0 => fun _ _ _ _ _ _ _ => none
  | n + 1 => fun dep mi pc als ast ah nt => match TF[mi]? with
    | none => none
    | some t => match lkp t pc with
      | none => none
      | some f => f ev (run TF ev n) dep mi pc als ast ah nt
def ename : Nat → String
  | 0 => "java/lang/IllegalStateException"
  | 1 => "java/lang/IndexOutOfBoundsException"
  | _ => "java/lang/IllegalArgumentException"
def XN : List String := ["java/lang/RuntimeException", "java/lang/Exception"]
def ALn : String := "java/util/ArrayList"
def FRM (d : Nat) : Nat := d + 8
def LOC (d : Nat) : Nat := 100 * d + 300
end
section
/-! the plain instructions one by one, so that a table can name what it runs -/
abbrev QF : Type := EV → Nat → Als → List AV → P1
def qC (n : Int) : QF := fun _ pc als ast => some (pc + 1, als, .inl (i2n n) :: ast)
def qB (n : Int) : QF := fun _ pc als ast => if -128 ≤ n then (if n < 128 then some (pc + 2, als, .inl (i2n n) :: ast) else none) else none
def qS (n : Int) : QF := fun _ pc als ast => if -32768 ≤ n then (if n < 32768 then some (pc + 3, als, .inl (i2n n) :: ast) else none) else none
def qLd (i len : Nat) (ok : AV → Bool) : QF := fun _ pc als ast => pld als i (pc + len) ast ok
def qSt (nL i len : Nat) (ok : AV → Bool) : QF := fun _ pc als ast => pst nL als i (pc + len) ast ok
def qInc (nL i : Nat) (c : Int) : QF := fun _ pc als ast => match llk als i with
  | some (.inl n) => if i < nL then some (pc + 3, lst als i (.inl ((n + i2n c) % 4294967296)), ast) else none
  | _ => none
def qAdd : QF := fun _ pc als ast => ar2 (fun a b => .inl ((a + b) % 4294967296)) (pc + 1) als ast
def qSub : QF := fun _ pc als ast => ar2 (fun a b => .inl ((a + (4294967296 - b % 4294967296)) % 4294967296)) (pc + 1) als ast
def qMul : QF := fun _ pc als ast => ar2 (fun a b => .inl ((a * b) % 4294967296)) (pc + 1) als ast
def qOr : QF := fun _ pc als ast => ar2 (fun a b => .inl (a % 4294967296 ||| b % 4294967296)) (pc + 1) als ast
def qShl : QF := fun _ pc als ast => ar2 (fun a b => .inl (a * 2 ^ (b % 32) % 4294967296)) (pc + 1) als ast
def qShr : QF := fun _ pc als ast => ar2 (fun a b => if a < 2147483648 then .inl (a / 2 ^ (b % 32)) else unk) (pc + 1) als ast
def qDup : QF := fun _ pc als ast => match ast with
  | a :: rest => match Nat.beq (acat a) 1 with
    | true => some (pc + 1, als, a :: a :: rest)
    | false => none
  | _ => none
def qGo (o : Int) : QF := fun _ pc als ast => jmp (some true) pc 3 o als ast
def qIf (c : Jvm.ClassFile.Cond) (o : Int) : QF := fun ev pc als ast => match ast with
  | a :: rest => jmp (cmp2 ev.1 c a (.inl 0)) pc 3 o als rest
  | _ => none
def qIc (c : Jvm.ClassFile.Cond) (o : Int) : QF := fun ev pc als ast => match ast with
  | b :: a :: rest => jmp (cmp2 ev.1 c a b) pc 3 o als rest
  | _ => none
end
section
/-! what holds around every method -/
def Amb (SR : List (String × Nat × String)) (AD : List Jvm.Cond) (FW : List (String × MethodName × MethodName)) (g : GV) (A : Nat → Prop) (s : State) : Prop :=
  va_Z ALn "DEFAULTCAPACITY_EMPTY_ELEMENTDATA" "[Ljava/lang/Object;" (.ref g.2.2) A s s.heap ∧ (∃ (ty : FieldType) (f : Nat → Value), va_T ty g.2.2 0 f A s s.heap) ∧ (∀ w ∈ AD, va_Nw w s) ∧ (va_AO (ecls 0) s ∧ va_AO (ecls 1) s) ∧ (∀ q ∈ FW, va_Fw q.1 q.2.1 q.2.2 s) ∧ (∀ q ∈ SR, ∃ a, vk_R q.1 q.2.1 q.2.2 a s) ∧
  vx_Zq Bundle.tN "UNASSIGNED_STACK" Bundle.steD A s s.heap ∧ vx_Zq Bundle.tN "SUPPRESSED_SENTINEL" Bundle.listD A s s.heap ∧ (∀ i j, i < 3 → j < 3 → i ≠ j → va_Nc (ename i) (ename j) s)
def ADok (AD : List Jvm.Cond) : Prop := ∀ w ∈ AD, (∃ x, w = .declares x) ∨ ∃ C T, w = .castable C T
def FWok (FW : List (String × MethodName × MethodName)) : Prop := ∀ q ∈ FW, q.2.1.cls ≠ "java/lang/invoke/MethodHandle" ∧ q.2.1.cls ≠ "java/lang/invoke/VarHandle"
theorem Amb.warm {SR : List (String × Nat × String)} {AD : List Jvm.Cond} {FW : List (String × MethodName × MethodName)} (hAD : ADok AD) (hFW : FWok FW) {g : GV} {A A1 : Nat → Prop} {s U : State} {H : Heap} {locs : List Loc} (h : Amb SR AD FW g A s) (hS : va_S A s.heap H locs) (hU : U.heap = H) (hW : s.WarmedH U.vm) (hsub : ∀ q, A1 q → A q) : Amb SR AD FW g A1 U := by
  obtain ⟨h1, ⟨ty, f, h2⟩, h3, ⟨h4, h5⟩, h6, h7, h8, h9, h10⟩ := h
  have hk : ∀ a : Nat, a < s.heap.size → ¬ A a → U.heap[a]? = s.heap[a]? := fun a h1 h2 => by rw [hU]; exact hS.2.1 a h1 h2
  have hv := hW.alike
  refine ⟨((h1.kept hk).moved hv).narrow hsub, ⟨ty, f, ((h2.kept hk).moved hv).narrow hsub⟩, fun w hw => ?_, ⟨h4.moved hv, h5.moved hv⟩, fun q hq => (h6 q hq).moved (hFW q hq) hv, fun q hq => ?_, ((h8.kept hk).moved hv).narrow hsub, ((h9.kept hk).moved hv).narrow hsub, fun i j hi hj hij => (h10 i j hi hj hij).moved hv⟩
  · rcases hAD w hw with ⟨x, rfl⟩ | ⟨C, T, rfl⟩
    · exact va_Nw.warmD hW (h3 _ hw)
    · exact va_Nw.warmC hW (h3 _ hw)
  · obtain ⟨a, ha⟩ := h7 q hq
    exact ⟨a, ha.warm hW⟩
theorem Amb.same {SR : List (String × Nat × String)} {AD : List Jvm.Cond} {FW : List (String × MethodName × MethodName)} (hAD : ADok AD) (hFW : FWok FW) {g : GV} {A : Nat → Prop} {s U : State} (h : Amb SR AD FW g A s) (hU : U.heap = s.heap) (hv : U.vm = s.vm) : Amb SR AD FW g A U := by
  obtain ⟨h1, ⟨ty, f, h2⟩, h3, ⟨h4, h5⟩, h6, h7, h8, h9, h10⟩ := h
  have ha : s.vm.Alike U.vm := by rw [hv]; exact Vm.Alike.refl _
  have e1 := h1.moved ha
  have e2 := h2.moved ha
  have e8 := h8.moved ha
  have e9 := h9.moved ha
  rw [← hU] at e1 e2 e8 e9
  refine ⟨e1, ⟨ty, f, e2⟩, fun w hw => ?_, ⟨h4.moved ha, h5.moved ha⟩, fun q hq => (h6 q hq).moved (hFW q hq) ha, fun q hq => ?_, e8, e9, fun i j hi hj hij => (h10 i j hi hj hij).moved ha⟩
  · rcases hAD w hw with ⟨x, rfl⟩ | ⟨C, T, rfl⟩
    · exact va_Nw.same rfl hv.symm (h3 _ hw)
    · exact va_Nw.same rfl hv.symm (h3 _ hw)
  · obtain ⟨a, ha⟩ := h7 q hq
    exact ⟨a, vk_R.same hv ha⟩
def d4 (q : Nat × Nat × Nat × Nat × Nat) : Nat × Nat × Nat × Nat := (q.1, q.2.1, q.2.2.1, q.2.2.2.1)
/-- a throw: the words and the instructions behind 'new' -/
def THK (WB AD : List Jvm.Cond) (SR : List (String × Nat × String)) (md : MD) (pc ec : Nat) : Prop :=
  ∃ (idx is ic : Nat) (text : String) (w : Bool), (mO md, is, text) ∈ SR ∧ ec < 3 ∧ decode (mC md) pc = .ok (.new idx, 3) ∧ decode (mC md) (pc + 3) = .ok (.dup, 1) ∧
    (match w with
      | false => decode (mC md) (pc + 4) = .ok (.ldc is, 2) ∧ decode (mC md) (pc + 6) = .ok (.invokespecial ic, 3) ∧ decode (mC md) (pc + 9) = .ok (.athrow, 1)
      | true => decode (mC md) (pc + 4) = .ok (.ldc_w is, 3) ∧ decode (mC md) (pc + 7) = .ok (.invokespecial ic, 3) ∧ decode (mC md) (pc + 10) = .ok (.athrow, 1)) ∧
    Jvm.Cond.classLink (mO md) idx (ename ec) ∈ WB ∧ Jvm.Cond.initialized (ename ec) ∈ WB ∧ (∀ v ∈ vx_atS (mO md) ic (ename ec) XN, v ∈ WB ∨ v ∈ AD) ∧ mH md = []
/-- a method's own words -/
def cwd (md : MD) : Jvm.Cond := match (mH md).map d4 with
  | [] => .code (mY md) (mC md) (mL md) (mR md)
  | hh => .codeWith (mY md) (mC md) (mL md) (mR md) hh
/-- how a call's link is made -/
def LOK (WB : List Jvm.Cond) (FW : List (String × MethodName × MethodName)) (TB : List MT) (md : MD) (ie : IE) : Prop :=
  match ie.1 with
  | .invokespecial idx => ie.2.1 = 1000 ∧ Jvm.Cond.methodLink (mO md) idx objectInit ∈ WB ∧ Jvm.Cond.instanceMethod objectInit ∈ WB ∧ Jvm.Cond.code objectInit ⟨#[0xb1]⟩ 1 none ∈ WB ∨ ie.2.1 = 0 ∨
      ∃ mt, TB[ie.2.1]? = some mt ∧ Jvm.Cond.methodLink (mO md) idx (mY mt.1) ∈ WB ∧ Jvm.Cond.instanceMethod (mY mt.1) ∈ WB ∧ (mY mt.1).name = "<init>" ∧ mR mt.1 = none ∧ mH mt.1 = [] ∧ (parseMethodDescriptor (mY mt.1).desc).map (fun d => d.parameters.length) = some (mN mt.1 - 1) ∧ 0 < mN mt.1
  | .invokestatic idx => ie.2.1 = 1000 ∧ Jvm.Cond.methodLink (mO md) idx arraycopyName ∈ WB ∧ Jvm.Cond.native arraycopyName ∈ WB ∧ Jvm.Cond.static arraycopyName ∈ WB ∧ Jvm.Cond.initialized "java/lang/System" ∈ WB ∨
      ie.2.1 = 1001 ∧ Jvm.Cond.methodLink (mO md) idx Lib.Math.max.name ∈ WB ∧ Jvm.Cond.static Lib.Math.max.name ∈ WB ∧ Jvm.Cond.initialized "java/lang/Math" ∈ WB ∧ Jvm.Cond.code Lib.Math.max.name Lib.Math.max.code 2 (some .int) ∈ WB ∨ ie.2.1 = 0 ∨
      ∃ mt, TB[ie.2.1]? = some mt ∧ Jvm.Cond.methodLink (mO md) idx (mY mt.1) ∈ WB ∧ Jvm.Cond.static (mY mt.1) ∈ WB ∧ (parseMethodDescriptor (mY mt.1).desc).map (fun d => d.parameters.length) = some (mN mt.1)
  | .invokevirtual idx => ie.2.1 = 0 ∨
      ∃ mt, TB[ie.2.1]? = some mt ∧ Jvm.Cond.methodLink (mO md) idx (mY mt.1) ∈ WB ∧ Jvm.Cond.instanceMethod (mY mt.1) ∈ WB ∧ Jvm.Cond.selects (mY mt.1).cls (mY mt.1) (mY mt.1) ∈ WB ∧ (∃ q, vwCl[ie.2.2.1]? = some q ∧ q.1 = (mY mt.1).cls) ∧ (parseMethodDescriptor (mY mt.1).desc).map (fun d => d.parameters.length) = some (mN mt.1 - 1) ∧ 0 < mN mt.1
  | .invokeinterface idx _ => ie.2.1 = 0 ∨
      ∃ mt x, TB[ie.2.1]? = some mt ∧ (ALn, x, mY mt.1) ∈ FW ∧ Jvm.Cond.methodLink (mO md) idx x ∈ WB ∧ Jvm.Cond.instanceMethod (mY mt.1) ∈ WB ∧ Jvm.Cond.selects ALn x (mY mt.1) ∈ WB ∧ (mY mt.1).cls = ALn ∧ ie.2.2.1 = 0 ∧ mH mt.1 = [] ∧ (parseMethodDescriptor x.desc).map (fun d => d.parameters.length) = some (mN mt.1 - 1) ∧ 0 < mN mt.1
  | _ => True
def rtk (r : Option FieldType) : Bool :=
  match r with
  | some (.object _) => true
  | some (.array _) => true
  | _ => false
/-- what a row of the table stands on -/
def IOK (WB AD : List Jvm.Cond) (SR : List (String × Nat × String)) (FW : List (String × MethodName × MethodName)) (TB : List MT) (md : MD) (pc : Nat) (ie : IE) : Prop :=
  (match ie.1 with
    | .tableswitch _ _ _ _ => ∃ n, decode (mC md) pc = .ok (ie.1, n)
    | i => decode (mC md) pc = .ok (i, ilen i)) ∧
  (match ie.1 with
    | .getfield idx => FOK WB (mO md) idx ie.2.1 ie.2.2.1
    | .putfield idx => FOK WB (mO md) idx ie.2.1 ie.2.2.1 ∧ POK (mO md) (mI md) ie.2.1 ie.2.2.1 ie.2.2.2.1
    | .newarray aty => ((ie.2.1 = 0 ∧ aty = .int) ∨ (ie.2.1 = 1 ∧ aty = .boolean) ∨ (ie.2.1 = 2 ∧ aty = .long)) ∧ Jvm.Cond.arrayClass (newarray.typeOf aty) ∈ WB
    | .anewarray idx => ie.2.1 < 2 ∧ Jvm.Cond.classLink (mO md) idx (ecls ie.2.1) ∈ WB
    | .new idx => match Nat.ble 100 ie.2.1 with
      | true => THK WB AD SR md pc (ie.2.1 - 100)
      | false => NOK WB (mO md) idx ie.2.1 ie.2.2.2.2
    | .return_ => mR md = none
    | .areturn => rtk (mR md) = true
    | .getstatic idx => Jvm.Cond.fieldLink (mO md) idx ALn "DEFAULTCAPACITY_EMPTY_ELEMENTDATA" "[Ljava/lang/Object;" ∈ WB
    | _ => True) ∧ LOK WB FW TB md ie
def HOK (WB : List Jvm.Cond) (md : MD) : Prop := ∀ q ∈ mH md, q.2.2.2.2 < 3 → q.2.2.2.1 ≠ 0 ∧ Jvm.Cond.classLink (mO md) q.2.2.2.1 (ename q.2.2.2.2) ∈ WB
def MOK (WB : List Jvm.Cond) (md : MD) : Prop := mN md ≤ mL md ∧ cwd md ∈ WB ∧ Jvm.Cond.initialized (mY md).cls ∈ WB ∧ plainName (mY md).cls = true ∧ ((mY md).cls ≠ "java/lang/invoke/MethodHandle" ∧ (mY md).cls ≠ "java/lang/invoke/VarHandle") ∧ mO md = (mY md).cls ∧ (mI md = true → (mY md).name = "<init>") ∧ mL md ≤ 60 ∧ HOK WB md
end
section
/-! each instruction of the run by numbers is sound -/
def fu (f : Fin9) : Nat := f.2.2.2.2.2.1
def fv (f : Fin9) : Nat := f.2.2.2.2.2.2
def fh (f : Fin9) : List AC := f.2.2.2.1
def ft (f : Fin9) : Nat := f.2.2.2.2.1
def bump (u v : Nat) (f : Fin9) : Fin9 := (f.1, f.2.1, f.2.2.1, f.2.2.2.1, f.2.2.2.2.1, u + fu f, v + fv f)
def Ext (ρ ρ' : List Nat) : Prop := ∀ (i a : Nat), ρ[i]? = some a → ρ'[i]? = some a
theorem Ext.rf {ρ : List Nat} : Ext ρ ρ := fun _ _ h => h
theorem Ext.tr {ρ ρ' ρ2 : List Nat} (h : Ext ρ ρ') (h' : Ext ρ' ρ2) : Ext ρ ρ2 := fun i a q => h' i a (h i a q)
def Ctx (WB AD : List Jvm.Cond) (SR : List (String × Nat × String)) (FW : List (String × MethodName × MethodName)) (g : GV) (sl : Nat) (md : MD) (dep mi : Nat) (p : Program) (l : Launch) (R : Room) (s : State) (m : MethodId) (args : Array Value) (meth : Method) (c : Code) (A : Nat → Prop) : Prop :=
  p.tables.exec = Jvm.exec ∧ c.code = mC md ∧ c.maxLocals = mL md ∧ (∀ w ∈ WB, w.before args s = true) ∧ s.vm.findClass (mO md) = some m.cls ∧ (mI md = true → meth.name = "<init>") ∧ (∀ q, s.heap.size ≤ q → A q) ∧ Amb SR AD FW g A s ∧ (FRM dep ≤ R.frames ∧ LOC dep ≤ R.locals) ∧ l.stackTraces = false ∧ meth.locks = false ∧ ((mi = 0 → mH md = []) ∧ (mi ≠ 0 → c.exceptionTable.toList = tableOf ((mH md).map d4))) ∧ meth.sig.returnType = mR md ∧
  (mi = 0 → ∃ xs : Nat → Int32, va_X g.2.1 sl xs s s.heap ∧ g.2.1 < s.heap.size ∧ ¬ A g.2.1 ∧ ∀ j, j < sl → g.1[j]? = some (xs j))
/-- where a run of numbers stops -/
def FinS (WB AD : List Jvm.Cond) (SR : List (String × Nat × String)) (STP : Als) (g : GV) (md : MD) (f : Fin9) (ρ : List Nat) (ls : Array Slot) (st : List Value) : Prop :=
  match f.1 with
  | 0 => ∃ v, st = [v] ∧ vrel g ρ f.2.2.1 v ∧ retok (mR md) f.2.2.1 = true ∧ decode (mC md) f.2.1 = .ok (.ireturn, 1)
  | 1 => st = [] ∧ mR md = none ∧ decode (mC md) f.2.1 = .ok (.return_, 1)
  | 2 => ∃ v, st = [v] ∧ vrel g ρ f.2.2.1 v ∧ isRN f.2.2.1 = true ∧ rtk (mR md) = true ∧ decode (mC md) f.2.1 = .ok (.areturn, 1)
  | ec + 3 => st = [] ∧ ls.size = mL md ∧ ((ec < 3 ∧ THK WB AD SR md f.2.1 ec) ∨ (ec = 6 ∧ LR g ρ (mL md) STP ls))
/-- what comes behind -/
def Kont (WB AD : List Jvm.Cond) (SR : List (String × Nat × String)) (STP : Als) (g : GV) (D : va_G) (md : MD) (f : Fin9) (p : Program) (l : Launch) (e : Env) (R : Room) (s : State) (m : MethodId) (args : Array Value) (below : List Frame) (meth : Method) (c : Code) (cells slots : Nat) (Q : State → Prop) (A : Nat → Prop) (ρ : List Nat) : Prop :=
  ∀ (ρ' : List Nat) (tys' : TY) (H' : Heap) (locs' : List Loc) (ls' : Array Slot) (st' : List Value) (k n : Nat), Ext ρ ρ' → HR g D A s ρ' tys' (fh f) H' locs' → tys'.length = ft f → FinS WB AD SR STP g md f ρ' ls' st' → (f.1 < 3 ∨ f.1 = 9 ∨ (k + 1 ≤ cells + fu f ∧ n + 6 ≤ slots + fv f)) → k ≤ cells + fu f → n ≤ slots + fv f → W p l e R s m args below meth c H' locs' k n Q (F0 m f.2.1 ls' st')
/-- what a run of numbers says of the machine -/
def Snd (WB AD : List Jvm.Cond) (SR : List (String × Nat × String)) (FW : List (String × MethodName × MethodName)) (STP : Als) (l : Launch) (g : GV) (D : va_G) (sl : Nat) (md : MD) (dep mi pc : Nat) (als : Als) (ast : List AV) (ah : List AC) (nt : Nat) (f : Fin9) : Prop :=
  ∀ (p : Program) (e : Env) (R : Room) (s : State) (m : MethodId) (args : Array Value) (below : List Frame) (meth : Method) (c : Code) (H : Heap) (locs : List Loc) (cells slots : Nat) (Q : State → Prop) (A : Nat → Prop) (ρ : List Nat) (tys : TY) (ls : Array Slot) (st : List Value),
    Ctx WB AD SR FW g sl md dep mi p l R s m args meth c A → HR g D A s ρ tys ah H locs → tys.length = nt → LR g ρ (mL md) als ls → F2 (vrel g ρ) ast st → cells + fu f ≤ R.cells → slots + fv f ≤ R.slots →
    Kont WB AD SR STP g D md f p l e R s m args below meth c cells slots Q A ρ →
    W p l e R s m args below meth c H locs cells slots Q (F0 m pc ls st)
def RSnd (TB : List MT) (WB AD : List Jvm.Cond) (SR : List (String × Nat × String)) (FW : List (String × MethodName × MethodName)) (STP : Als) (l : Launch) (g : GV) (D : va_G) (sl : Nat) (rc : RC) : Prop :=
  ∀ (dep mi pc : Nat) (als : Als) (ast : List AV) (ah : List AC) (nt : Nat) (f : Fin9) (mt : MT), TB[mi]? = some mt → rc dep mi pc als ast ah nt = some f → Snd WB AD SR FW STP l g D sl mt.1 dep mi pc als ast ah nt f
theorem addu_in {u v : Nat} {o : Option Fin9} {f : Fin9} (h : addu u v o = some f) : ∃ f', o = some f' ∧ f = bump u v f' := by
  match o, h with
  | some (rk, pc, a, ah, nt, x, y), h => exact ⟨_, rfl, (sj h).symm⟩
theorem aSt_in {len : Nat} {F : List AC → List AV → Option (List AV)} {ev : EV} {rc : RC} {dep mi pc : Nat} {als : Als} {ast : List AV} {ah : List AC} {nt : Nat} {f : Fin9} (h : aSt len F ev rc dep mi pc als ast ah nt = some f) : ∃ st, F ah ast = some st ∧ rc dep mi (pc + len) als st ah nt = some f := by
  unfold aSt at h
  split at h
  · rename_i st hst
    rw [fN_eq, fL_eq] at h
    exact ⟨st, hst, h⟩
  · cases h
theorem aWr_in {len : Nat} {w : List AV → Nat} {F : List AC → List AV → Option (List AC × List AV)} {ev : EV} {rc : RC} {dep mi pc : Nat} {als : Als} {ast : List AV} {ah : List AC} {nt : Nat} {f : Fin9} (h : aWr len w F ev rc dep mi pc als ast ah nt = some f) : ∃ r, F ah ast = some r ∧ rc dep mi (pc + len) als r.2 r.1 nt = some f := by
  unfold aWr at h
  split at h
  · rename_i r hr
    rw [fH_eq, fN_eq] at h
    exact ⟨r, hr, h⟩
  · cases h
theorem aMka_in {len kind : Nat} {ev : EV} {rc : RC} {dep mi pc : Nat} {als : Als} {ast : List AV} {ah : List AC} {nt : Nat} {f : Fin9} (h : aMka len kind ev rc dep mi pc als ast ah nt = some f) : ∃ r f', pmka kind ah nt ast = some r ∧ rc dep mi (pc + len) als r.2.1 r.1 (nt + 1) = some f' ∧ f = bump 1 r.2.2 f' := by
  unfold aMka at h
  split at h
  · rename_i r hr
    rw [fH_eq, fN_eq, fN_eq, fL_eq] at h
    obtain ⟨f', h1, h2⟩ := addu_in h
    exact ⟨r, f', hr, h1, h2⟩
  · cases h
theorem aPs_in {F : EV → Nat → Als → List AV → P1} {ev : EV} {rc : RC} {dep mi pc : Nat} {als : Als} {ast : List AV} {ah : List AC} {nt : Nat} {f : Fin9} (h : aPs F ev rc dep mi pc als ast ah nt = some f) : ∃ r, F ev pc als ast = some r ∧ rc dep mi r.1 r.2.1 r.2.2 ah nt = some f := by
  unfold aPs at h
  split at h
  · rename_i r hr
    rw [fN_eq, fA_eq, fL_eq] at h
    exact ⟨r, hr, h⟩
  · cases h
theorem LR_size {g : GV} {ρ : List Nat} {nL : Nat} {als : Als} {ls : Array Slot} (hL : LR g ρ nL als ls) : ls.size = nL := by
  obtain ⟨lv, h1, h2⟩ := hL
  exact h1.1
theorem F2_cats {g : GV} {ρ : List Nat} {l : List AV} {vs : List Value} (h : F2 (vrel g ρ) l vs) : (vs.map fun v => v.category).sum = acats l := by
  induction l generalizing vs with
  | nil => rw [F2_nil h]; rfl
  | cons a l ih =>
    obtain ⟨v, ws, rfl, h1, h2⟩ := F2_cons h
    show v.category + (ws.map fun v => v.category).sum = acat a + acats l
    rw [vcat h1, ih h2]
theorem F2_more {g : GV} {ρ ρ' : List Nat} (h : Ext ρ ρ') {l : List AV} {vs : List Value} (hS : F2 (vrel g ρ) l vs) : F2 (vrel g ρ') l vs := F2_mono (fun _ _ q => vrel_more h q) hS
section ARMS
variable {TB : List MT} {WB AD : List Jvm.Cond} {SR : List (String × Nat × String)} {FW : List (String × MethodName × MethodName)} {STP : Als} {l : Launch} {g : GV} {D : va_G} {sl : Nat} {mt : MT} {dep mi pc : Nat} {als : Als} {ast : List AV} {ah : List AC} {nt : Nat} {f : Fin9} {ev : EV} {rc : RC}
theorem go_bump (IH : RSnd TB WB AD SR FW STP l g D sl rc) (hmt : TB[mi]? = some mt) {u v pc' nt' : Nat} {als' : Als} {ast' : List AV} {ah' : List AC} {f' : Fin9} (h2 : rc dep mi pc' als' ast' ah' nt' = some f') (hf : f = bump u v f')
    {p : Program} {e : Env} {R : Room} {s : State} {m : MethodId} {args : Array Value} {below : List Frame} {meth : Method} {c : Code} {H' : Heap} {locs' : List Loc} {cells slots : Nat} {Q : State → Prop} {A : Nat → Prop} {ρ ρ' : List Nat} {tys' : TY} {ls' : Array Slot} {st' : List Value}
    (C : Ctx WB AD SR FW g sl mt.1 dep mi p l R s m args meth c A) (hR : HR g D A s ρ' tys' ah' H' locs') (hnt : tys'.length = nt') (hL : LR g ρ' (mL mt.1) als' ls') (hS : F2 (vrel g ρ') ast' st') (hx : Ext ρ ρ') (hu : cells + fu f ≤ R.cells) (hv : slots + fv f ≤ R.slots)
    (K : Kont WB AD SR STP g D mt.1 f p l e R s m args below meth c cells slots Q A ρ) : W p l e R s m args below meth c H' locs' (cells + u) (slots + v) Q (F0 m pc' ls' st') := by
  subst hf
  have e1 : fu (bump u v f') = u + fu f' := rfl
  have e2 : fv (bump u v f') = v + fv f' := rfl
  have e3 : (bump u v f').1 = f'.1 := rfl
  rw [e1] at hu
  rw [e2] at hv
  refine IH dep mi pc' als' ast' ah' nt' f' mt hmt h2 p e R s m args below meth c H' locs' (cells + u) (slots + v) Q A ρ' tys' ls' st' C hR hnt hL hS (by omega) (by omega) ?_
  intro ρ2 tys2 H2 locs2 ls2 st2 k n hE hR2 hft hF hc hk hn
  refine K ρ2 tys2 H2 locs2 ls2 st2 k n (hx.tr hE) hR2 hft hF ?_ (by rw [e1]; omega) (by rw [e2]; omega)
  rw [e1, e2, e3]
  rcases hc with hc | hc | ⟨hc, hc'⟩
  · exact Or.inl hc
  · exact Or.inr (Or.inl hc)
  · exact Or.inr (Or.inr ⟨by omega, by omega⟩)
theorem s_st (IH : RSnd TB WB AD SR FW STP l g D sl rc) (hmt : TB[mi]? = some mt) {len : Nat} {F : List AC → List AV → Option (List AV)} (h : aSt len F ev rc dep mi pc als ast ah nt = some f)
    (row : ∀ (p : Program) (e : Env) (R : Room) (s : State) (m : MethodId) (args : Array Value) (below : List Frame) (meth : Method) (c : Code) (H : Heap) (locs : List Loc) (cells slots : Nat) (Q : State → Prop) (A : Nat → Prop) (ρ : List Nat) (tys : TY) (ls : Array Slot) (st : List Value) (st0 : List AV),
      Ctx WB AD SR FW g sl mt.1 dep mi p l R s m args meth c A → HR g D A s ρ tys ah H locs → ls.size = mL mt.1 → F2 (vrel g ρ) ast st → cells ≤ R.cells → slots ≤ R.slots → F ah ast = some st0 → (∀ st', F2 (vrel g ρ) st0 st' → W p l e R s m args below meth c H locs cells slots Q (F0 m (pc + len) ls st')) → W p l e R s m args below meth c H locs cells slots Q (F0 m pc ls st)) :
    Snd WB AD SR FW STP l g D sl mt.1 dep mi pc als ast ah nt f := by
  obtain ⟨st0, h1, h2⟩ := aSt_in h
  intro p e R s m args below meth c H locs cells slots Q A ρ tys ls st C hR hnt hL hS hu hv k
  exact row p e R s m args below meth c H locs cells slots Q A ρ tys ls st st0 C hR (LR_size hL) hS (Nat.le_trans (Nat.le_add_right _ _) hu) (Nat.le_trans (Nat.le_add_right _ _) hv) h1 (fun st' hS' => IH _ _ _ _ _ _ _ _ _ hmt h2 p e R s m args below meth c H locs cells slots Q A ρ tys ls st' C hR hnt hL hS' hu hv k)
theorem s_wr (IH : RSnd TB WB AD SR FW STP l g D sl rc) (hmt : TB[mi]? = some mt) {len : Nat} {w : List AV → Nat} {F : List AC → List AV → Option (List AC × List AV)} (h : aWr len w F ev rc dep mi pc als ast ah nt = some f)
    (row : ∀ (p : Program) (e : Env) (R : Room) (s : State) (m : MethodId) (args : Array Value) (below : List Frame) (meth : Method) (c : Code) (H : Heap) (locs : List Loc) (cells slots : Nat) (Q : State → Prop) (A : Nat → Prop) (ρ : List Nat) (tys : TY) (ls : Array Slot) (st : List Value) (r : List AC × List AV),
      Ctx WB AD SR FW g sl mt.1 dep mi p l R s m args meth c A → HR g D A s ρ tys ah H locs → ls.size = mL mt.1 → F2 (vrel g ρ) ast st → F ah ast = some r → (∀ (H' : Heap) (locs' : List Loc) st', HR g D A s ρ tys r.1 H' locs' → F2 (vrel g ρ) r.2 st' → W p l e R s m args below meth c H' locs' cells slots Q (F0 m (pc + len) ls st')) → W p l e R s m args below meth c H locs cells slots Q (F0 m pc ls st)) :
    Snd WB AD SR FW STP l g D sl mt.1 dep mi pc als ast ah nt f := by
  obtain ⟨r, h1, h2⟩ := aWr_in h
  intro p e R s m args below meth c H locs cells slots Q A ρ tys ls st C hR hnt hL hS hu hv k
  exact row p e R s m args below meth c H locs cells slots Q A ρ tys ls st r C hR (LR_size hL) hS h1 (fun H' locs' st' hR' hS' => IH _ _ _ _ _ _ _ _ _ hmt h2 p e R s m args below meth c H' locs' cells slots Q A ρ tys ls st' C hR' hnt hL hS' hu hv k)
theorem s_get (IH : RSnd TB WB AD SR FW STP l g D sl rc) (hmt : TB[mi]? = some mt) {idx x y : Nat} (hd : decode (mC mt.1) pc = .ok (.getfield idx, 3)) (hF : FOK WB (mO mt.1) idx x y) (h : aSt 3 (pgf x y) ev rc dep mi pc als ast ah nt = some f) : Snd WB AD SR FW STP l g D sl mt.1 dep mi pc als ast ah nt f := by
  refine s_st IH hmt h ?_
  intro p e R s m args below meth c H locs cells slots Q A ρ tys ls st st0 C hR hsz hS hcl hsl h1 k
  obtain ⟨hx, hb, hml, hts, hown, hin, hA, hAmb, hRR, hlt, hlk, htab, hret, hscr⟩ := id C
  exact gf_ok hx hb hts hown hF hR hS hd h1 k
theorem s_put (IH : RSnd TB WB AD SR FW STP l g D sl rc) (hmt : TB[mi]? = some mt) {idx x y z : Nat} (hd : decode (mC mt.1) pc = .ok (.putfield idx, 3)) (hF : FOK WB (mO mt.1) idx x y) (hP : POK (mO mt.1) (mI mt.1) x y z) (h : aWr 3 ref2 (ppf x y z) ev rc dep mi pc als ast ah nt = some f) : Snd WB AD SR FW STP l g D sl mt.1 dep mi pc als ast ah nt f := by
  refine s_wr IH hmt h ?_
  intro p e R s m args below meth c H locs cells slots Q A ρ tys ls st r C hR hsz hS h1 k
  obtain ⟨hx, hb, hml, hts, hown, hin, hA, hAmb, hRR, hlt, hlk, htab, hret, hscr⟩ := id C
  exact pf_ok hx hb hts hown hin hF hP hR hS hd h1 k
theorem s_bald (IH : RSnd TB WB AD SR FW STP l g D sl rc) (hmt : TB[mi]? = some mt) (hd : decode (mC mt.1) pc = .ok (.baload, 1)) (h : aSt 1 (pald k1) ev rc dep mi pc als ast ah nt = some f) : Snd WB AD SR FW STP l g D sl mt.1 dep mi pc als ast ah nt f := by
  refine s_st IH hmt h ?_
  intro p e R s m args below meth c H locs cells slots Q A ρ tys ls st st0 C hR hsz hS hcl hsl h1 k
  obtain ⟨hx, hb, hml, hts, hown, hin, hA, hAmb, hRR, hlt, hlk, htab, hret, hscr⟩ := id C
  exact bald_ok hx hb hR hS hd h1 k
theorem s_lald (IH : RSnd TB WB AD SR FW STP l g D sl rc) (hmt : TB[mi]? = some mt) (hd : decode (mC mt.1) pc = .ok (.laload, 1)) (h : aSt 1 (pald k2) ev rc dep mi pc als ast ah nt = some f) : Snd WB AD SR FW STP l g D sl mt.1 dep mi pc als ast ah nt f := by
  refine s_st IH hmt h ?_
  intro p e R s m args below meth c H locs cells slots Q A ρ tys ls st st0 C hR hsz hS hcl hsl h1 k
  obtain ⟨hx, hb, hml, hts, hown, hin, hA, hAmb, hRR, hlt, hlk, htab, hret, hscr⟩ := id C
  exact lald_ok hx hb hR hS hd h1 k
theorem s_aald (IH : RSnd TB WB AD SR FW STP l g D sl rc) (hmt : TB[mi]? = some mt) (hd : decode (mC mt.1) pc = .ok (.aaload, 1)) (h : aSt 1 (pald k3) ev rc dep mi pc als ast ah nt = some f) : Snd WB AD SR FW STP l g D sl mt.1 dep mi pc als ast ah nt f := by
  refine s_st IH hmt h ?_
  intro p e R s m args below meth c H locs cells slots Q A ρ tys ls st st0 C hR hsz hS hcl hsl h1 k
  obtain ⟨hx, hb, hml, hts, hown, hin, hA, hAmb, hRR, hlt, hlk, htab, hret, hscr⟩ := id C
  exact aald_ok hx hb hR hS hd h1 k
theorem s_iast (IH : RSnd TB WB AD SR FW STP l g D sl rc) (hmt : TB[mi]? = some mt) (hd : decode (mC mt.1) pc = .ok (.iastore, 1)) (h : aWr 1 ref3 (past s0) ev rc dep mi pc als ast ah nt = some f) : Snd WB AD SR FW STP l g D sl mt.1 dep mi pc als ast ah nt f := by
  refine s_wr IH hmt h ?_
  intro p e R s m args below meth c H locs cells slots Q A ρ tys ls st r C hR hsz hS h1 k
  obtain ⟨hx, hb, hml, hts, hown, hin, hA, hAmb, hRR, hlt, hlk, htab, hret, hscr⟩ := id C
  exact iast_ok hx hb hR hS hd h1 k
theorem s_bast (IH : RSnd TB WB AD SR FW STP l g D sl rc) (hmt : TB[mi]? = some mt) (hd : decode (mC mt.1) pc = .ok (.bastore, 1)) (h : aWr 1 ref3 (past s1) ev rc dep mi pc als ast ah nt = some f) : Snd WB AD SR FW STP l g D sl mt.1 dep mi pc als ast ah nt f := by
  refine s_wr IH hmt h ?_
  intro p e R s m args below meth c H locs cells slots Q A ρ tys ls st r C hR hsz hS h1 k
  obtain ⟨hx, hb, hml, hts, hown, hin, hA, hAmb, hRR, hlt, hlk, htab, hret, hscr⟩ := id C
  exact bast_ok hx hb hR hS hd h1 k
theorem s_last (IH : RSnd TB WB AD SR FW STP l g D sl rc) (hmt : TB[mi]? = some mt) (hd : decode (mC mt.1) pc = .ok (.lastore, 1)) (h : aWr 1 ref3 (past s2) ev rc dep mi pc als ast ah nt = some f) : Snd WB AD SR FW STP l g D sl mt.1 dep mi pc als ast ah nt f := by
  refine s_wr IH hmt h ?_
  intro p e R s m args below meth c H locs cells slots Q A ρ tys ls st r C hR hsz hS h1 k
  obtain ⟨hx, hb, hml, hts, hown, hin, hA, hAmb, hRR, hlt, hlk, htab, hret, hscr⟩ := id C
  exact last_ok hx hb hR hS hd h1 k
theorem s_aast (IH : RSnd TB WB AD SR FW STP l g D sl rc) (hmt : TB[mi]? = some mt) (hd : decode (mC mt.1) pc = .ok (.aastore, 1)) (hAO : ∀ (cj : Nat) (r : vw_C), vwCl[cj]? = some r → (cj = 17 ∨ cj = 15 ∨ cj = 14) → Jvm.Cond.castable r.1 "java/lang/Object" ∈ AD) (h : aWr 1 ref3 (fun ah => past (aok ah) ah) ev rc dep mi pc als ast ah nt = some f) : Snd WB AD SR FW STP l g D sl mt.1 dep mi pc als ast ah nt f := by
  refine s_wr IH hmt h ?_
  intro p e R s m args below meth c H locs cells slots Q A ρ tys ls st r C hR hsz hS h1 k
  obtain ⟨hx, hb, hml, hts, hown, hin, hA, hAmb, hRR, hlt, hlk, htab, hret, hscr⟩ := id C
  exact aast_ok hx hb (fun cj r q1 q2 => hAmb.2.2.1 _ (hAO cj r q1 q2)) hR hS hd h1 k
theorem s_iald (IH : RSnd TB WB AD SR FW STP l g D sl rc) (hmt : TB[mi]? = some mt) (hd : decode (mC mt.1) pc = .ok (.iaload, 1)) (hev : ev.1 ≠ [] → ev.2.2 = sl) (hsl : sl < 2 ^ 31) (hB : Bd g ev.1) (h : aIald ev rc dep mi pc als ast ah nt = some f) : Snd WB AD SR FW STP l g D sl mt.1 dep mi pc als ast ah nt f := by
  unfold aIald at h
  split at h
  · rename_i st0 h1
    rw [fN_eq, fL_eq] at h
    intro p e R s m args below meth c H locs cells slots Q A ρ tys ls st C hR hnt hL hS hu hv k
    obtain ⟨hx, hb, hml, hts, hown, hin, hA, hAmb, hRR, hlt, hlk, htab, hret, hscr⟩ := id C
    unfold scrI at h1
    split at h1
    · rename_i j rest
      match mi, hscr, h1, C, hmt, h with
      | 0, hscr, h1, C, hmt, h =>
        obtain ⟨xs, hX, hbl, hbA, hxs⟩ := hscr rfl
        have h1 : (if j < ev.2.2 then (match ev.1[j]? with
          | some b => if b.1 = b.2 then some ((.inl ((b.1 + 2147483648) % 4294967296) : AV) :: rest) else some (.inr (.inl j) :: rest)
          | none => none) else none) = some st0 := h1
        split at h1
        · rename_i hj
          have hne : ev.1 ≠ [] := by
            intro h0
            rw [h0] at h1
            cases h1
          have hev := hev hne
          rw [hev] at hj
          obtain ⟨v, st1, rfl, hr1, hS1⟩ := F2_cons hS
          obtain ⟨w, vs, rfl, hr2, hS2⟩ := F2_cons hS1
          rw [show v = .int (nI j) from hr1, show w = .ref g.2.1 from hr2]
          refine va_sld hx hb hX hbl hbA hR.2.choose_spec.2.2.2.1 (vp_in_nI hj hsl) hd ?_
          rw [nI_clamp (by omega)]
          have hgj := hxs j hj
          split at h1
          · rename_i b hbj
            have hbd := hB j b hbj _ hgj
            split at h1
            · rename_i hbe
              have h1 := sj h1
              subst h1
              refine IH _ _ _ _ _ _ _ _ _ hmt h p e R s m args below meth c H locs cells slots Q A ρ tys ls _ C hR hnt hL (F2_mk ?_ hS2) hu hv k
              refine congrArg Value.int ?_
              have := off_lt (xs j)
              rw [off_eq, off_nI]
              omega
            · have h1 := sj h1
              subst h1
              exact IH _ _ _ _ _ _ _ _ _ hmt h p e R s m args below meth c H locs cells slots Q A ρ tys ls _ C hR hnt hL (F2_mk ⟨_, hgj, rfl⟩ hS2) hu hv k
          · cases h1
        · cases h1
    · cases h1
  · refine s_st IH hmt h ?_
    intro p e R s m args below meth c H locs cells slots Q A ρ tys ls st st0 C hR hsz hS hcl hsl h1 k
    obtain ⟨hx, hb, hml, hts, hown, hin, hA, hAmb, hRR, hlt, hlk, htab, hret, hscr⟩ := id C
    exact iald_ok hx hb hR hS hd h1 k
theorem s_alen (IH : RSnd TB WB AD SR FW STP l g D sl rc) (hmt : TB[mi]? = some mt) (hd : decode (mC mt.1) pc = .ok (.arraylength, 1)) (hev : ev.1 ≠ [] → ev.2.2 = sl) (h : aAlen ev rc dep mi pc als ast ah nt = some f) : Snd WB AD SR FW STP l g D sl mt.1 dep mi pc als ast ah nt f := by
  unfold aAlen at h
  split at h
  · rename_i st0 h1
    rw [fN_eq, fL_eq] at h
    intro p e R s m args below meth c H locs cells slots Q A ρ tys ls st C hR hnt hL hS hu hv k
    obtain ⟨hx, hb, hml, hts, hown, hin, hA, hAmb, hRR, hlt, hlk, htab, hret, hscr⟩ := id C
    unfold scrL at h1
    split at h1
    · rename_i rest
      match mi, hscr, h1, C, hmt, h with
      | 0, hscr, h1, C, hmt, h =>
        obtain ⟨xs, hX, hbl, hbA, hxs⟩ := hscr rfl
        have h1 : (match ev.1 with
          | [] => none
          | _ :: _ => some ((.inl ev.2.2 : AV) :: rest)) = some st0 := h1
        have hne : ev.1 ≠ [] := by
          intro h0
          rw [h0] at h1
          cases h1
        have hev := hev hne
        split at h1
        · cases h1
        have h1 := sj h1
        subst h1
        obtain ⟨w, vs, rfl, hr2, hS2⟩ := F2_cons hS
        rw [show w = .ref g.2.1 from hr2]
        refine va_slen hx hb hX hbl hbA hR.2.choose_spec.2.2.2.1 hd ?_
        refine IH _ _ _ _ _ _ _ _ _ hmt h p e R s m args below meth c H locs cells slots Q A ρ tys ls _ C hR hnt hL (F2_mk ?_ hS2) hu hv k
        show Value.int (Int32.ofNat sl) = .int (nI ev.2.2)
        rw [hev]; rfl
    · cases h1
  · refine s_st IH hmt h ?_
    intro p e R s m args below meth c H locs cells slots Q A ρ tys ls st st0 C hR hsz hS hcl hsl h1 k
    obtain ⟨hx, hb, hml, hts, hown, hin, hA, hAmb, hRR, hlt, hlk, htab, hret, hscr⟩ := id C
    exact alen_ok hx hb hAmb.2.1 hR hS hd h1 k
theorem s_newa (IH : RSnd TB WB AD SR FW STP l g D sl rc) (hmt : TB[mi]? = some mt) {kind : Nat} {aty : ArrayType} (hd : decode (mC mt.1) pc = .ok (.newarray aty, 2)) (hka : (kind = 0 ∧ aty = .int) ∨ (kind = 1 ∧ aty = .boolean) ∨ (kind = 2 ∧ aty = .long)) (hwd : Jvm.Cond.arrayClass (newarray.typeOf aty) ∈ WB) (h : aMka 2 kind ev rc dep mi pc als ast ah nt = some f) : Snd WB AD SR FW STP l g D sl mt.1 dep mi pc als ast ah nt f := by
  obtain ⟨r, f', h1, h2, hf⟩ := aMka_in h
  intro p e R s m args below meth c H locs cells slots Q A ρ tys ls st C hR hnt hL hS hu hv k
  obtain ⟨hx, hb, hml, hts, hown, hin, hA, hAmb, hRR, hlt, hlk, htab, hret, hscr⟩ := id C
  have e1 : fu f = 1 + fu f' := by rw [hf]; rfl
  have e2 : fv f = r.2.2 + fv f' := by rw [hf]; rfl
  subst hnt
  exact newa_ok hx hb hts hA hka hwd hR hS hd h1 (by omega) (by omega) (fun ρ' tys' H' locs' st' hE hlen hR' hS' => go_bump IH hmt h2 hf C hR' hlen (LR_more hE hL) hS' hE hu hv k)
theorem s_newq (IH : RSnd TB WB AD SR FW STP l g D sl rc) (hmt : TB[mi]? = some mt) {kk idx : Nat} (hd : decode (mC mt.1) pc = .ok (.anewarray idx, 3)) (hkk : kk < 2) (hcl0 : Jvm.Cond.classLink (mO mt.1) idx (ecls kk) ∈ WB) (h : aMka 3 (kk + 3) ev rc dep mi pc als ast ah nt = some f) : Snd WB AD SR FW STP l g D sl mt.1 dep mi pc als ast ah nt f := by
  obtain ⟨r, f', h1, h2, hf⟩ := aMka_in h
  intro p e R s m args below meth c H locs cells slots Q A ρ tys ls st C hR hnt hL hS hu hv k
  obtain ⟨hx, hb, hml, hts, hown, hin, hA, hAmb, hRR, hlt, hlk, htab, hret, hscr⟩ := id C
  have e1 : fu f = 1 + fu f' := by rw [hf]; rfl
  have e2 : fv f = r.2.2 + fv f' := by rw [hf]; rfl
  have hov : va_AO (ecls kk) s := by
    match kk, hkk with
    | 0, _ => exact hAmb.2.2.2.1.1
    | 1, _ => exact hAmb.2.2.2.1.2
  subst hnt
  exact newq_ok hx hb hts hown hA hcl0 hov hR hS hd h1 (by omega) (by omega) (fun ρ' tys' H' locs' st' hE hlen hR' hS' => go_bump IH hmt h2 hf C hR' hlen (LR_more hE hL) hS' hE hu hv k)
theorem s_new (IH : RSnd TB WB AD SR FW STP l g D sl rc) (hmt : TB[mi]? = some mt) {idx x : Nat} {fk : List Nat} (hd : decode (mC mt.1) pc = .ok (.new idx, 3)) (hN : NOK WB (mO mt.1) idx x fk) (h : aNew x fk ev rc dep mi pc als ast ah nt = some f) : Snd WB AD SR FW STP l g D sl mt.1 dep mi pc als ast ah nt f := by
  unfold aNew at h
  obtain ⟨f', h2, hf⟩ := addu_in h
  rw [fH_eq, fN_eq, fL_eq] at h2
  intro p e R s m args below meth c H locs cells slots Q A ρ tys ls st C hR hnt hL hS hu hv k
  obtain ⟨hx, hb, hml, hts, hown, hin, hA, hAmb, hRR, hlt, hlk, htab, hret, hscr⟩ := id C
  have e1 : fu f = 1 + fu f' := by rw [hf]; rfl
  have e2 : fv f = fk.length + fv f' := by rw [hf]; rfl
  exact new_ok hx hb hts hown hA hN hR hS hd (by omega) (by omega) (fun ρ' H' locs' st' hE hR' hS' => go_bump IH hmt h2 hf C hR' hnt (LR_more hE hL) hS' hE hu hv k)
theorem s_thr {ec : Nat} (hT : THK WB AD SR mt.1 pc ec) (h : aThr ec ev rc dep mi pc als ast ah nt = some f) : Snd WB AD SR FW STP l g D sl mt.1 dep mi pc als ast ah nt f := by
  unfold aThr at h
  match ast, h with
  | [], h =>
    have h := sj h
    intro p e R s m args below meth c H locs cells slots Q A ρ tys ls st C hR hnt hL hS hu hv k
    rw [F2_nil hS]
    subst h
    exact k ρ tys H locs ls [] cells slots Ext.rf hR hnt ⟨rfl, LR_size hL, Or.inl ⟨hT.choose_spec.choose_spec.choose_spec.choose_spec.choose_spec.2.1, hT⟩⟩ (Or.inr (Or.inr ⟨Nat.le_refl _, Nat.le_refl _⟩)) (Nat.le_add_right _ _) (Nat.le_add_right _ _)
theorem s_gets (IH : RSnd TB WB AD SR FW STP l g D sl rc) (hmt : TB[mi]? = some mt) {idx : Nat} (hd : decode (mC mt.1) pc = .ok (.getstatic idx, 3)) (hlink : Jvm.Cond.fieldLink (mO mt.1) idx ALn "DEFAULTCAPACITY_EMPTY_ELEMENTDATA" "[Ljava/lang/Object;" ∈ WB) (h : aGets ev rc dep mi pc als ast ah nt = some f) : Snd WB AD SR FW STP l g D sl mt.1 dep mi pc als ast ah nt f := by
  unfold aGets at h
  rw [fN_eq] at h
  intro p e R s m args below meth c H locs cells slots Q A ρ tys ls st C hR hnt hL hS hu hv k
  obtain ⟨hx, hb, hml, hts, hown, hin, hA, hAmb, hRR, hlt, hlk, htab, hret, hscr⟩ := id C
  exact gets_ok hx hb hts hown hAmb.1 hlink hR hS hd (fun st' hS' => IH _ _ _ _ _ _ _ _ _ hmt h p e R s m args below meth c H locs cells slots Q A ρ tys ls st' C hR hnt hL hS' hu hv k)
theorem tgt_ok {pc t : Nat} {o : Int} (h : tgt pc o = some t) : (pc : Int) + o = (t : Int) := by
  unfold tgt at h
  split at h
  · have := sj h; omega
  · cases h
theorem toInt_nI {n : Nat} (h : n < 2147483648) : (nI n).toInt = (n : Int) := by
  have h0 : (nI n).toInt = (n : Int).bmod 4294967296 := by simp [nI, Int32.toInt_ofNat]
  rw [h0, Int.bmod_def]
  split <;> omega
theorem s_tsw (IH : RSnd TB WB AD SR FW STP l g D sl rc) (hmt : TB[mi]? = some mt) {dflt lo hi : Int} {offs : Array Int} {len : Nat} (hd : decode (mC mt.1) pc = .ok (.tableswitch dflt lo hi offs, len)) (h : aTsw dflt lo hi offs ev rc dep mi pc als ast ah nt = some f) : Snd WB AD SR FW STP l g D sl mt.1 dep mi pc als ast ah nt f := by
  unfold aTsw at h
  split at h
  · rename_i n rest
    split at h
    · rename_i hn
      split at h
      · rename_i t ht
        rw [fN_eq] at h
        intro p e R s m args below meth c H locs cells slots Q A ρ tys ls st C hR hnt hL hS hu hv k
        obtain ⟨hx, hb, hml, hts, hown, hin, hA, hAmb, hRR, hlt, hlk, htab, hret, hscr⟩ := id C
        obtain ⟨v, vs, rfl, hr1, hS1⟩ := F2_cons hS
        rw [show v = .int (nI n) from hr1]
        have kk : W p l e R s m args below meth c H locs cells slots Q (F0 m t ls vs) := IH _ _ _ _ _ _ _ _ _ hmt h p e R s m args below meth c H locs cells slots Q A ρ tys ls vs C hR hnt hL hS1 hu hv k
        have en := toInt_nI hn
        unfold tsw at ht
        split at ht
        · rename_i h3
          exact lv_tableOut hx hb hd (Or.inl (by rw [en]; exact h3)) (tgt_ok ht) kk
        · rename_i h3
          split at ht
          · rename_i h4
            exact lv_tableOut hx hb hd (Or.inr (by rw [en]; exact h4)) (tgt_ok ht) kk
          · rename_i h4
            split at ht
            · rename_i o ho
              exact lv_tableIn hx hb hd (by rw [en]; exact h3) (by rw [en]; exact h4) (by rw [en]; exact ho) (tgt_ok ht) kk
            · cases ht
      · cases h
    · cases h
  · cases h
theorem s_obj (IH : RSnd TB WB AD SR FW STP l g D sl rc) (hmt : TB[mi]? = some mt) {idx : Nat} (hd : decode (mC mt.1) pc = .ok (.invokespecial idx, 3)) (hl1 : Jvm.Cond.methodLink (mO mt.1) idx objectInit ∈ WB) (hl2 : Jvm.Cond.instanceMethod objectInit ∈ WB) (hl3 : Jvm.Cond.code objectInit ⟨#[0xb1]⟩ 1 none ∈ WB) (h : aObj ev rc dep mi pc als ast ah nt = some f) : Snd WB AD SR FW STP l g D sl mt.1 dep mi pc als ast ah nt f := by
  unfold aObj at h
  split at h
  · rename_i a rest
    split at h
    · rename_i h0
      rw [fN_eq] at h
      have h0 := and_cases h0
      intro p e R s m args below meth c H locs cells slots Q A ρ tys ls st C hR hnt hL hS hu hv k
      obtain ⟨hx, hb, hml, hts, hown, hin, hA, hAmb, hRR, hlt, hlk, htab, hret, hscr⟩ := id C
      obtain ⟨v, vs, rfl, hr1, hS1⟩ := F2_cons hS
      obtain ⟨x, rfl⟩ := vref h0.1 hr1
      have hc := F2_cats hS1
      have h9 := Nat.le_of_ble_eq_true h0.2
      obtain ⟨hf1, hf2⟩ := hRR
      unfold FRM at hf1
      unfold LOC at hf2
      exact W.objInit hx hb hown (hts _ hl1) (hts _ hl2) (hts _ hl3) rfl ((LR_size hL).trans hml.symm) rfl hd (by omega) (by show 2 * 0 + _ + 12 ≤ _; omega) (IH _ _ _ _ _ _ _ _ _ hmt h p e R s m args below meth c H locs cells slots Q A ρ tys ls vs C hR hnt hL hS1 hu hv k)
    · cases h
  · cases h
theorem s_ps (IH : RSnd TB WB AD SR FW STP l g D sl rc) (hmt : TB[mi]? = some mt) (hev : ev.1 ≠ [] → ev.2.2 = sl) (hB : Bd g ev.1) (hM : ev.2.1 < 64 → ∀ x, g.1[0]? = some x → x &&& 63 = nI ev.2.1) {ins : Instr} (hd : decode (mC mt.1) pc = .ok (ins, ilen ins)) (h : aPs (fun ev pc als ast => ps1 ev.1 ev.2.1 (mL mt.1) ins pc als ast) ev rc dep mi pc als ast ah nt = some f) : Snd WB AD SR FW STP l g D sl mt.1 dep mi pc als ast ah nt f := by
  obtain ⟨r, h1, h2⟩ := aPs_in h
  intro p e R s m args below meth c H locs cells slots Q A ρ tys ls st C hR hnt hL hS hu hv k
  obtain ⟨hx, hb, hml, hts, hown, hin, hA, hAmb, hRR, hlt, hlk, htab, hret, hscr⟩ := id C
  exact ps1_ok hx hb hB hM hL hS ins hd h1 (fun ls' st' hL' hS' => IH _ _ _ _ _ _ _ _ _ hmt h2 p e R s m args below meth c H locs cells slots Q A ρ tys ls' st' C hR hnt hL' hS' hu hv k)
theorem s_ret (hd : decode (mC mt.1) pc = .ok (.ireturn, 1)) (h : aRet (mR mt.1) ev rc dep mi pc als ast ah nt = some f) : Snd WB AD SR FW STP l g D sl mt.1 dep mi pc als ast ah nt f := by
  unfold aRet at h
  split at h
  · rename_i a
    split at h
    · rename_i hr
      have h := sj h
      intro p e R s m args below meth c H locs cells slots Q A ρ tys ls st C hR hnt hL hS hu hv k
      obtain ⟨v, vs, rfl, hr1, hS1⟩ := F2_cons hS
      rw [F2_nil hS1]
      subst h
      exact k ρ tys H locs ls [v] cells slots Ext.rf hR hnt ⟨v, rfl, hr1, hr, hd⟩ (Or.inl (show (0 : Nat) < 3 by decide)) (Nat.le_add_right _ _) (Nat.le_add_right _ _)
    · cases h
  · cases h
theorem s_void (hd : decode (mC mt.1) pc = .ok (.return_, 1)) (hr0 : mR mt.1 = none) (h : aVoid ev rc dep mi pc als ast ah nt = some f) : Snd WB AD SR FW STP l g D sl mt.1 dep mi pc als ast ah nt f := by
  unfold aVoid at h
  split at h
  · have h := sj h
    intro p e R s m args below meth c H locs cells slots Q A ρ tys ls st C hR hnt hL hS hu hv k
    rw [F2_nil hS]
    subst h
    exact k ρ tys H locs ls [] cells slots Ext.rf hR hnt ⟨rfl, hr0, hd⟩ (Or.inl (show (1 : Nat) < 3 by decide)) (Nat.le_add_right _ _) (Nat.le_add_right _ _)
  · cases h
theorem s_aret (hd : decode (mC mt.1) pc = .ok (.areturn, 1)) (hr0 : rtk (mR mt.1) = true) (h : aARet ev rc dep mi pc als ast ah nt = some f) : Snd WB AD SR FW STP l g D sl mt.1 dep mi pc als ast ah nt f := by
  unfold aARet at h
  split at h
  · rename_i a
    split at h
    · rename_i hr
      have h := sj h
      intro p e R s m args below meth c H locs cells slots Q A ρ tys ls st C hR hnt hL hS hu hv k
      obtain ⟨v, vs, rfl, hr1, hS1⟩ := F2_cons hS
      rw [F2_nil hS1]
      subst h
      exact k ρ tys H locs ls [v] cells slots Ext.rf hR hnt ⟨v, rfl, hr1, hr, hr0, hd⟩ (Or.inl (show (2 : Nat) < 3 by decide)) (Nat.le_add_right _ _) (Nat.le_add_right _ _)
    · cases h
  · cases h
theorem s_max (IH : RSnd TB WB AD SR FW STP l g D sl rc) (hmt : TB[mi]? = some mt) {idx : Nat} (hd : decode (mC mt.1) pc = .ok (.invokestatic idx, 3)) (hl1 : Jvm.Cond.methodLink (mO mt.1) idx Lib.Math.max.name ∈ WB) (hl2 : Jvm.Cond.static Lib.Math.max.name ∈ WB) (hl3 : Jvm.Cond.initialized "java/lang/Math" ∈ WB) (hl4 : Jvm.Cond.code Lib.Math.max.name Lib.Math.max.code 2 (some .int) ∈ WB) (h : aSt 3 pmax ev rc dep mi pc als ast ah nt = some f) : Snd WB AD SR FW STP l g D sl mt.1 dep mi pc als ast ah nt f := by
  refine s_st IH hmt h ?_
  intro p e R s m args below meth c H locs cells slots Q A ρ tys ls st st0 C hR hsz hS hcl hsl h1 k
  obtain ⟨hx, hb, hml, hts, hown, hin, hA, hAmb, hRR, hlt, hlk, htab, hret, hscr⟩ := id C
  unfold pmax at h1
  split at h1
  · rename_i b a rest
    split at h1
    · rename_i h9
      split at h1
      · rename_i ha
        split at h1
        · rename_i hbb
          have h1 := sj h1
          subst h1
          obtain ⟨v, vs, rfl, hr1, hS1⟩ := F2_cons hS
          obtain ⟨w, us, rfl, hr2, hS2⟩ := F2_cons hS1
          rw [show v = .int (nI b) from hr1, show w = .int (nI a) from hr2]
          have hc := F2_cats hS2
          have h9 := Nat.le_of_ble_eq_true h9
          obtain ⟨hf1, hf2⟩ := hRR
          unfold FRM at hf1
          unfold LOC at hf2
          refine va_mmax hx hb (hml.trans hsz.symm) hown (hts _ hl1) (hts _ hl2) (hts _ hl3) (hts _ hl4) (by omega) (by omega) hcl hsl hd (k _ (F2_mk ?_ hS2))
          show Value.int (if nI a < nI b then nI b else nI a) = .int (nI (if a ≤ b then b else a))
          congr 1
          have q1 := off_ltI (nI a) (nI b)
          rw [off_nI, off_nI] at q1
          by_cases hab : a < b
          · rw [if_pos (q1.mpr (by omega)), if_pos (by omega)]
          · rw [if_neg (fun z => hab (by have := q1.mp z; omega))]
            by_cases hab2 : a ≤ b
            · rw [if_pos hab2]
              have : a = b := by omega
              rw [this]
            · rw [if_neg hab2]
        · cases h1
      · cases h1
    · cases h1
  · cases h1
theorem alk_run (d : AV) (a : Nat → AV) (l : Als) (dp k : Nat) (is : List Nat) : alk d (is.map (fun i => (dp + i, a i)) ++ l) k = if dp ≤ k ∧ k - dp ∈ is then a (k - dp) else alk d l k := by
  induction is with
  | nil => simp
  | cons i is ih =>
    show alk d ((dp + i, a i) :: (is.map (fun i => (dp + i, a i)) ++ l)) k = _
    by_cases hk : k = dp + i
    · subst hk
      rw [alk_here, if_pos ⟨by omega, by simp⟩]
      congr 1; omega
    · rw [alk_there d _ _ hk, ih]
      by_cases h2 : dp ≤ k ∧ k - dp ∈ is
      · rw [if_pos h2, if_pos ⟨h2.1, List.mem_cons_of_mem _ h2.2⟩]
      · rw [if_neg h2, if_neg]
        intro h3
        rcases List.mem_cons.mp h3.2 with h4 | h4
        · omega
        · exact h2 ⟨h3.1, h4⟩
theorem s_copy (IH : RSnd TB WB AD SR FW STP l g D sl rc) (hmt : TB[mi]? = some mt) {idx : Nat} (hd : decode (mC mt.1) pc = .ok (.invokestatic idx, 3)) (hl1 : Jvm.Cond.methodLink (mO mt.1) idx arraycopyName ∈ WB) (hl2 : Jvm.Cond.native arraycopyName ∈ WB) (hl3 : Jvm.Cond.static arraycopyName ∈ WB) (hl4 : Jvm.Cond.initialized "java/lang/System" ∈ WB) (h : aWr 3 ref3 pcopy ev rc dep mi pc als ast ah nt = some f) : Snd WB AD SR FW STP l g D sl mt.1 dep mi pc als ast ah nt f := by
  refine s_wr IH hmt h ?_
  intro p e R s m args below meth c H locs cells slots Q A ρ tys ls st r C hR hsz hS h1 k
  obtain ⟨hx, hb, hml, hts, hown, hin, hA, hAmb, hRR, hlt, hlk, htab, hret, hscr⟩ := id C
  unfold pcopy at h1
  split at h1
  · rename_i n dp j sp i rest
    split at h1
    · rename_i ci hci
      split at h1
      · rename_i cj hcj
        split at h1
        · rename_i hn
          split at h1
          · rename_i hdp
            split at h1
            · rename_i hsp
              split at h1
              · rename_i c' hc'
                split at h1
                · rename_i h9
                  have h1 := sj h1
                  subst h1
                  unfold copyA at hc'
                  split at hc'
                  · rename_i t0 ln ups d t2 ln2 ups2 d2
                    split at hc'
                    · rename_i hs1
                      split at hc'
                      · rename_i hs2
                        have hc' := sj hc'
                        obtain ⟨v1, s1, rfl, hr1, hS1⟩ := F2_cons hS
                        obtain ⟨v2, s2, rfl, hr2, hS2⟩ := F2_cons hS1
                        obtain ⟨v3, s3, rfl, hr3, hS3⟩ := F2_cons hS2
                        obtain ⟨v4, s4, rfl, hr4, hS4⟩ := F2_cons hS3
                        obtain ⟨v5, s5, rfl, hr5, hS5⟩ := F2_cons hS4
                        obtain ⟨qj, hqj, rfl⟩ := hr3
                        obtain ⟨qi, hqi, rfl⟩ := hr5
                        rw [show v1 = .int (nI n) from hr1, show v2 = .int (nI dp) from hr2, show v4 = .int (nI sp) from hr4]
                        obtain ⟨hK, ws, e1, hP, hDD, hSS, hW⟩ := hR
                        obtain ⟨eni, heni, cAi, hti, fi, rfl, hfi⟩ := ws_at e1 hW hqi hci
                        obtain ⟨enj, henj, cAj, htj, fj, rfl, hfj⟩ := ws_at e1 hW hqj hcj
                        have hc := F2_cats hS5
                        have h9 := Nat.le_of_ble_eq_true h9
                        obtain ⟨hf1, hf2⟩ := hRR
                        unfold FRM at hf1
                        unfold LOC at hf2
                        have cn := nI_clamp (n := n) (by omega)
                        have cd := nI_clamp (n := dp) (by omega)
                        have cs := nI_clamp (n := sp) (by omega)
                        have hnf : nativeFrameWords "java/lang/System" "arraycopy" 5 ≤ 100 := by decide +kernel
                        have nn : ∀ z : Nat, z < 100000 → ¬ nI z < 0 := by
                          intro z hz h0
                          have := (off_ltI (nI z) 0).mp h0
                          rw [off_nI, show off 0 = 2147483648 from rfl] at this
                          omega
                        refine va_copyi (D := D) hx hb (hml.trans hsz.symm) hown (hts _ hl1) (hts _ hl2) (hts _ hl3) (hts _ hl4) hK hP hDD hSS i j t0 t2 heni henj hti htj rfl (nn sp hsp) (nn dp hdp) (nn n hn) (by rw [cs, cn]; exact hs1) (by rw [cd, cn]; exact hs2) (fun _ _ => rfl) (by omega) (by omega) hd ?_
                        intro H1 locs1 hP1 hD1 hS9
                        refine k H1 locs1 s5 ⟨hK, _, ?_, hP1, hD1, hS9, ?_⟩ hS5
                        · rw [set_fst henj]; exact e1
                        · rw [← hc']
                          refine F2_set hW j ⟨cAj, htj, _, rfl, ?_⟩
                          intro q hq
                          rw [alk_run, cn, cd, cs]
                          unfold va_cpy
                          by_cases hin2 : dp ≤ q ∧ q < dp + n
                          · rw [if_pos hin2, if_pos ⟨hin2.1, List.mem_range.mpr (by omega)⟩]
                            exact hfi _ (by omega)
                          · rw [if_neg hin2, if_neg (fun z => hin2 ⟨z.1, by have := List.mem_range.mp z.2; omega⟩)]
                            exact hfj _ hq
                      · cases hc'
                    · cases hc'
                  · cases hc'
                · cases h1
              · cases h1
            · cases h1
          · cases h1
        · cases h1
      · cases h1
    · cases h1
  · cases h1
end ARMS
end
section
/-! calls of the run by numbers -/
def HRw (g : GV) (D : va_G) (A : Nat → Prop) (ρ : List Nat) (tys : TY) (ah : List AC) (H : Heap) : Prop := ∃ ws : va_W, ρ = ws.map Prod.fst ∧ va_P D vwCl ws H ∧ va_D A ws ∧ F2 (fun (c : AC) (q : Nat × va_E) => crel g ρ tys c q.2) ah ws
theorem HR_w {g : GV} {D : va_G} {A : Nat → Prop} {s : State} {ρ : List Nat} {tys : TY} {ah : List AC} {H : Heap} {locs : List Loc} (h : HR g D A s ρ tys ah H locs) : HRw g D A ρ tys ah H := by
  obtain ⟨hK, ws, e1, hP, hDD, hSS, hW⟩ := h
  exact ⟨ws, e1, hP, hDD, hW⟩
theorem HR_of {g : GV} {D : va_G} {A : Nat → Prop} {s : State} {ρ : List Nat} {tys : TY} {ah : List AC} {H : Heap} {locs : List Loc} (hK : va_K D vwCl tys s) (h : HRw g D A ρ tys ah H) (hS : va_S A s.heap H locs) : HR g D A s ρ tys ah H locs := by
  obtain ⟨ws, e1, hP, hDD, hW⟩ := h
  exact ⟨hK, ws, e1, hP, hDD, hS, hW⟩
theorem HR_S {g : GV} {D : va_G} {A : Nat → Prop} {s : State} {ρ : List Nat} {tys : TY} {ah : List AC} {H : Heap} {locs : List Loc} (h : HR g D A s ρ tys ah H locs) : va_S A s.heap H locs := by
  obtain ⟨hK, ws, e1, hP, hDD, hSS, hW⟩ := h
  exact hSS
theorem HRw_grow {g : GV} {D : va_G} {A : Nat → Prop} {ρ : List Nat} {tys : TY} {ah : List AC} {H H1 : Heap} (h : HRw g D A ρ tys ah H) (hk : ∀ q : Nat, q < H.size → H1[q]? = H[q]?) : HRw g D A ρ tys ah H1 := by
  obtain ⟨ws, e1, hP, hDD, hW⟩ := h
  exact ⟨ws, e1, hP.kept (fun k q hq => hk _ (vx_lt hP hq)), hDD, hW⟩
def vres (g : GV) (ρ : List Nat) (f : Fin9) (v : Option Value) : Prop :=
  match f.1 with
  | 1 => v = none
  | _ => ∃ x, v = some x ∧ vrel g ρ f.2.2.1 x
def rst (f : Fin9) (rest : List AV) : List AV :=
  match f.1 with
  | 1 => rest
  | _ => f.2.2.1 :: rest
theorem vres_F2 {g : GV} {ρ : List Nat} {f : Fin9} {v : Option Value} {rest : List AV} {vs : List Value} (h : vres g ρ f v) (hS : F2 (vrel g ρ) rest vs) : F2 (vrel g ρ) (rst f rest) (v.toList ++ vs) := by
  unfold vres at h
  unfold rst
  split at h
  · subst h; exact hS
  · obtain ⟨x, rfl, hx⟩ := h
    exact F2_mk hx hS
def CP (SR : List (String × Nat × String)) (AD : List Jvm.Cond) (FW : List (String × MethodName × MethodName)) (g : GV) (D : va_G) (A : Nat → Prop) (tys : TY) (vs : List Value) (H : Heap) : Array Value → State → Prop := fun v U => v = vs.toArray ∧ U.heap = H ∧ Amb SR AD FW g A U ∧ va_K D vwCl tys U
def CQ (g : GV) (D : va_G) (A : Nat → Prop) (ρ : List Nat) (f : Fin9) : Array Value → State → Outcome → State → Prop := fun _ st oc t => (∃ (v : Option Value) (ρ' : List Nat) (tys' : TY), oc = .returned v ∧ vres g ρ' f v ∧ Ext ρ ρ' ∧ tys'.length = ft f ∧ va_K D vwCl tys' t ∧ HRw g D A ρ' tys' (fh f) t.heap) ∧ va_F A st t
def CX (g : GV) (D : va_G) (A : Nat → Prop) (ρ : List Nat) (f : Fin9) (ec : Nat) : String → State → State → Prop := fun E st t => (∃ (ρ' : List Nat) (tys' : TY), E = ename ec ∧ Ext ρ ρ' ∧ tys'.length = ft f ∧ va_K D vwCl tys' t ∧ HRw g D A ρ' tys' (fh f) t.heap) ∧ va_F A st t
def CN : Array Value → State → Outcome → State → Prop := fun _ _ _ _ => False
theorem cwd_spec {md : MD} {args : Array Value} {s : State} {m : MethodId} (h : (cwd md).before args s = true) (hn : s.methodNamed? (mY md) = some m) : ∃ meth c, s.vm.method? m = some meth ∧ meth.code = some c ∧ c.code = mC md ∧ c.maxLocals = mL md ∧ meth.sig.returnType = mR md ∧ meth.locks = false ∧ c.exceptionTable.toList = tableOf ((mH md).map d4) := by
  unfold cwd at h
  cases e : (mH md).map d4 with
  | nil =>
    rw [e] at h
    obtain ⟨meth, c, h1, h2, h3, h4, h5, h6, h7, -⟩ := Cond.code_spec hn h
    exact ⟨meth, c, h1, h2, h3, h4, h5, h6, by rw [Array.isEmpty_iff.mp h7]; rfl⟩
  | cons q qs =>
    rw [e] at h
    obtain ⟨m9, meth, c, hn9, h1, h2, h3, h4, h6, h5, h7, -⟩ := Cond.codeWith_spec h
    cases hn.symm.trans hn9
    exact ⟨meth, c, h1, h2, h3, h4, h5, h7, by rw [← h6, table_eq]⟩
theorem F2_args {g : GV} {ρ : List Nat} {avs : List AV} {vs : List Value} (h : F2 (vrel g ρ) avs vs) (i : Nat) : F2 (fun (a : Nat × AV) (q : Nat × Value) => a.1 = q.1 ∧ vrel g ρ a.2 q.2) (aargs i avs) (lv_args i vs) := by
  induction avs generalizing vs i with
  | nil => rw [F2_nil h]; exact F2_0
  | cons a l ih =>
    obtain ⟨v, ws, rfl, h1, h2⟩ := F2_cons h
    show F2 _ ((i, a) :: aargs (if acat a = 2 then i + 2 else i + 1) l) ((i, v) :: lv_args (if v.category = 2 then i + 2 else i + 1) ws)
    rw [vcat h1]
    exact F2_mk ⟨rfl, h1⟩ (ih h2 _)
theorem lg_len (vs : List Value) : (lg_sl vs).length ≤ (vs.map fun v => v.category).sum := by
  induction vs with
  | nil => exact Nat.le_refl _
  | cons v vs ih =>
    have e : lg_sl (v :: vs) = (if v.category = 2 then [.val v, .second] else [.val v]) ++ lg_sl vs := by simp [lg_sl]
    rw [e, List.length_append]
    show _ ≤ v.category + (vs.map fun v => v.category).sum
    split
    · rename_i h; rw [h]; simp; omega
    · have : 1 ≤ v.category := by cases v <;> simp [Value.category]
      simp; omega
theorem retok_ok {g : GV} {ρ : List Nat} {r : Option FieldType} {a : AV} {v : Value} (h : retok r a = true) (hr : vrel g ρ a v) : ∃ ty x, r = some ty ∧ v = .int x ∧ narrow ty (.int x) = .int x := by
  match r, h with
  | some .int, h =>
    obtain ⟨x, rfl⟩ := vint (show isI a = true from h) hr
    exact ⟨.int, x, rfl, rfl, rfl⟩
  | some .boolean, h =>
    have h : fitk 1 a = true := h
    match a, h, hr with
    | .inl 0, _, hr => exact ⟨.boolean, nI 0, rfl, hr, by decide⟩
    | .inl 1, _, hr => exact ⟨.boolean, nI 1, rfl, hr, by decide⟩
theorem rtk_ok {r : Option FieldType} (h : rtk r = true) : ∃ rt, r = some rt ∧ ((∃ n, rt = .object n) ∨ ∃ t, rt = .array t) := by
  match r, h with
  | some (.object n), _ => exact ⟨_, rfl, Or.inl ⟨n, rfl⟩⟩
  | some (.array n), _ => exact ⟨_, rfl, Or.inr ⟨n, rfl⟩⟩
section CALLS
variable {TB : List MT} {WB AD : List Jvm.Cond} {SR : List (String × Nat × String)} {FW : List (String × MethodName × MethodName)} {STP : Als} {l : Launch} {g : GV} {D : va_G} {sl : Nat} {A : Nat → Prop}
theorem blind_CP (hAD : ADok AD) (hFW : FWok FW) {tys : TY} {vs : List Value} {H : Heap} : FrameBlind (CP SR AD FW g D A tys vs H) := fun _ U _ _ h => ⟨h.1, h.2.1, h.2.2.1.same hAD hFW rfl rfl, h.2.2.2.moved (Vm.Alike.refl _)⟩
theorem pre_CP (hAD : ADok AD) (hFW : FWok FW) {tys : TY} {vs : List Value} {s : State} {H : Heap} {locs : List Loc} {ah : List AC} {ρ : List Nat} (hAmb : Amb SR AD FW g A s) (hR : HR g D A s ρ tys ah H locs) : ∀ U : State, U.heap = H → s.WarmedH U.vm → CP SR AD FW g D A tys vs H vs.toArray U := fun U hU hW => ⟨rfl, hU, hAmb.warm hAD hFW (HR_S hR) hU hW (fun _ h => h), hR.1.moved hW.alike⟩
theorem entry_ok {x d : Nat} (hx0 : x ≠ 0) {mt : MT} (hM : MOK WB mt.1) {ρ : List Nat} {tys : TY} {ah : List AC} {H0 : Heap} {vs : List Value} {avs : List AV} (hav : F2 (vrel g ρ) avs vs) (hcat : acats avs ≤ mL mt.1) (hl : l.stackTraces = false) (hA : ∀ q, H0.size ≤ q → A q) (hw : HRw g D A ρ tys ah H0) {rm : Room} (hrm : FRM d ≤ rm.frames ∧ LOC d ≤ rm.locals)
    {p : Program} {e : Env} {s : State} {m : MethodId} {args : Array Value} {below : List Frame} {meth : Method} {c : Code} {s₁ : State} (B : BodyLoose p l (mY mt.1) (headSpec (cwd mt.1 :: WB) rm) (mC mt.1) (mL mt.1) (mR mt.1) e s m args below meth c s₁) (hml : c.maxLocals = mL mt.1) (hP : CP SR AD FW g D A tys vs H0 args s) :
    Ctx WB AD SR FW g sl mt.1 d x p l (headSpec (cwd mt.1 :: WB) rm).room s m args meth c A ∧ HR g D A s ρ tys ah s.heap [] ∧ ∃ ls, entryFrame m args (mL mt.1) = F0 m 0 ls [] ∧ LR g ρ (mL mt.1) (aargs 0 avs) ls := by
  obtain ⟨ha, hH, hAmb, hK⟩ := hP
  have hts0 := atoms_spec (ws := cwd mt.1 :: WB) B.pre
  obtain ⟨m1, m2, m3, m4, m5, m6, m7, m8, m9⟩ := hM
  obtain ⟨meth9, c9, h1, h2, -, -, -, -, h7⟩ := cwd_spec (hts0 _ List.mem_cons_self) B.named
  cases Option.some.inj (h1.symm.trans B.method)
  cases Option.some.inj (h2.symm.trans (Stand.of_body B).code)
  have hln := Nat.le_trans (lg_len vs) (by rw [F2_cats hav]; exact hcat)
  refine ⟨⟨B.exec, B.bytes, hml, fun w hw => hts0 w (List.mem_cons_of_mem _ hw), by rw [m6]; exact findClass_of_methodNamed B.named, fun hi => (name_of_methodNamed B.named B.method).1.trans (m7 hi), fun q hq => hA q (by rw [← hH]; exact hq), hAmb, hrm, hl, B.notSynchronized, ⟨fun h0 => absurd h0 hx0, fun _ => h7⟩, B.returns, fun h0 => absurd h0 hx0⟩, HR_of hK (by rw [hH]; exact hw) va_S.rf, _, by rw [ha]; exact lg_entry_eq m vs (mL mt.1), ⟨_, lv_entry vs hln, F2_args hav 0⟩⟩
theorem fin_ret {md : MD} {f : Fin9} (hf : f.1 < 3) {p : Program} {e : Env} {R : Room} {s : State} {m : MethodId} {args : Array Value} {below : List Frame} {meth : Method} {c : Code} {d x : Nat} (C : Ctx WB AD SR FW g sl md d x p l R s m args meth c A) {ρ ρ' : List Nat} {tys' : TY} {H' : Heap} {locs' : List Loc} {ls' : Array Slot} {st' : List Value} (hE : Ext ρ ρ') (hR' : HR g D A s ρ' tys' (fh f) H' locs') (hft : tys'.length = ft f) (hF : FinS WB AD SR STP g md f ρ' ls' st') :
    W p l e R s m args below meth c H' locs' (fu f) (fv f) (MQ below (CQ g D A ρ f) args s (fu f) (fv f) A) (F0 m f.2.1 ls' st') := by
  obtain ⟨hx, hb, hml, hts, hown, hin, hA, hAmb, hRR, hlt, hlk, htab, hret, hscr⟩ := C
  have hw := HR_w hR'
  have hS' := HR_S hR'
  have fin : ∀ (v : Option Value), vres g ρ' f v → ∀ t : State, t.heap = H' → s.WarmedH t.vm → CQ g D A ρ f args s (.returned v) t := fun v hv t ht hW => ⟨⟨v, ρ', tys', rfl, hv, hE, hft, hR'.1.moved hW.alike, by rw [ht]; exact hw⟩, hS'.F ht⟩
  obtain ⟨rk, pcf, a, ahf, ntf, u, w⟩ := f
  match rk, hf, hF, fin with
  | 0, _, hF, fin =>
    obtain ⟨v, rfl, hvr, hro, hd⟩ := hF
    obtain ⟨ty, x, hr1, rfl, hr3⟩ := retok_ok hro hvr
    exact W.zret hx hb (hret.trans hr1) hr3 (fin _ ⟨_, rfl, hvr⟩) hS'.2.2 hd hlk
  | 1, _, hF, fin =>
    obtain ⟨rfl, hr0, hd⟩ := hF
    exact W.vret hx hb (hret.trans hr0) (fin _ rfl) hS'.2.2 hd hlk
  | 2, _, hF, fin =>
    obtain ⟨v, rfl, hvr, hrn, hr0, hd⟩ := hF
    obtain ⟨rt, hr1, hr2⟩ := rtk_ok hr0
    exact W.aret hx hb (hret.trans hr1) hr2 (rn_ok hrn hvr) (fin _ ⟨_, rfl, hvr⟩) hS'.2.2 hd hlk
theorem met_ret {rc : RC} (IH : RSnd TB WB AD SR FW STP l g D sl rc) {x d : Nat} (hx0 : x ≠ 0) {mt : MT} (hmt : TB[x]? = some mt) (hM : MOK WB mt.1) {ρ : List Nat} {tys : TY} {ah : List AC} {nt : Nat} {H0 : Heap} {vs : List Value} {avs : List AV} {f : Fin9} (hrun : rc d x 0 (aargs 0 avs) [] ah nt = some f) (hf : f.1 < 3) (hnt : tys.length = nt) (hav : F2 (vrel g ρ) avs vs) (hcat : acats avs ≤ mL mt.1) (hl : l.stackTraces = false) (hA : ∀ q, H0.size ≤ q → A q) (hw : HRw g D A ρ tys ah H0) :
    Met l (mY mt.1) (cwd mt.1 :: WB) ({ frames := FRM d, cells := fu f, slots := fv f, locals := LOC d } : Room) (CP SR AD FW g D A tys vs H0) (CQ g D A ρ f) (fu f) (fv f) A := by
  refine MetFree.of_bodyS (code := mC mt.1) (maxLocals := mL mt.1) (ret := mR mt.1) hM.2.2.2.1 ?_ ?_
  · intro args s m h hn
    obtain ⟨meth, c, h1, h2, h3, h4, h5, h6, -⟩ := cwd_spec (atoms_spec (ws := cwd mt.1 :: WB) h _ List.mem_cons_self) hn
    exact ⟨meth, c, h1, h2, h3, h4, h5, h6⟩
  · intro p e s m args below meth c s₁ B hml hP _
    have hh0 : s₁.heap = s.heap := by rw [B.state]; rfl
    obtain ⟨C, hR, ls, els, hL⟩ := entry_ok (sl := sl) hx0 hM hav hcat hl hA hw (rm := { frames := FRM d, cells := fu f, slots := fv f, locals := LOC d }) ⟨Nat.le_refl _, Nat.le_refl _⟩ B hml hP
    have K : W p l e (headSpec (cwd mt.1 :: WB) ({ frames := FRM d, cells := fu f, slots := fv f, locals := LOC d } : Room)).room s m args below meth c s.heap [] 0 0 (MQ below (CQ g D A ρ f) args s (fu f) (fv f) A) (entryFrame m args (mL mt.1)) := by
      rw [els]
      refine IH d x 0 _ [] ah nt f mt hmt hrun p e _ s m args below meth c s.heap [] 0 0 _ A ρ tys ls [] C hR hnt hL F2_0 (by rw [Nat.zero_add]; exact Nat.le_refl _) (by rw [Nat.zero_add]; exact Nat.le_refl _) ?_
      intro ρ' tys' H' locs' ls' st' k n hE hR' hft hF hc hk hn
      exact W.widen (k := fu f) (n := fv f) (by omega) (by omega) (fin_ret hf C hE hR' hft hF)
    obtain ⟨t, a1, o, b1, b2, b3⟩ := K s₁ hh0 (Stand.of_body B)
    exact ⟨t, o, a1, b1, b2, ⟨b3.1, b3.2⟩⟩
theorem tab_nil {md : MD} (h : mH md = []) : tableOf ((mH md).map d4) = [] := by rw [h]; rfl
theorem fin_thr (hWB : ∀ w ∈ WB, goodWord w = true) (hAD : ADok AD) {md : MD} {f : Fin9} {ec : Nat} (hf : f.1 = ec + 3) (hec : ec < 3) {p : Program} {e : Env} {R : Room} {s : State} {m : MethodId} {args : Array Value} {below : List Frame} {meth : Method} {c : Code} {d x : Nat} (hx0 : x ≠ 0) (C : Ctx WB AD SR FW g sl md d x p l R s m args meth c A) {ρ ρ' : List Nat} {tys' : TY} {H' : Heap} {locs' : List Loc} {ls' : Array Slot} {st' : List Value} {k n : Nat} (hE : Ext ρ ρ') (hR' : HR g D A s ρ' tys' (fh f) H' locs') (hft : tys'.length = ft f) (hF : FinS WB AD SR STP g md f ρ' ls' st') (hk : k + 1 ≤ fu f) (hn : n + 6 ≤ fv f) (hkc : fu f ≤ R.cells) (hks : fv f ≤ R.slots) :
    W p l e R s m args below meth c H' locs' k n (vx_MQ below CN (CX g D A ρ f ec) args s (fu f) (fv f) A) (F0 m f.2.1 ls' st') := by
  obtain ⟨hx, hb, hml, hts, hown, hin, hA, hAmb, hRR, hlt, hlk, htab, hret, hscr⟩ := C
  have hw := HR_w hR'
  have hS' := HR_S hR'
  unfold FinS at hF
  rw [hf] at hF
  obtain ⟨rfl, hsz, ⟨-, hT⟩ | ⟨h6, -⟩⟩ := hF
  · obtain ⟨idx, is, ic, text, w, t1, t2, t3, t4, t5, t6, t7, t8, t9⟩ := hT
    obtain ⟨sa, hstr⟩ := hAmb.2.2.2.2.2.1 _ t1
    have hfit : Bundle.fit (ename ec) = true := by
      match ec, hec with
      | 0, _ => decide
      | 1, _ => decide
      | 2, _ => decide
    have hnm : ∀ n ∈ XN, Bundle.fit n = true := by decide
    have hat : ∀ w ∈ vx_atS (mO md) ic (ename ec) XN, w.before args s = true := by
      intro w hw
      rcases t8 w hw with h | h
      · exact hts w h
      · rcases hAD w h with ⟨y, rfl⟩ | ⟨C, T, rfl⟩
        · exact va_Nw.use rfl (hAmb.2.2.1 _ h)
        · exact va_Nw.use rfl (hAmb.2.2.1 _ h)
    have hot : ∀ w, w ∈ WB → vx_ot w = true := fun w h => by unfold vx_ot; rw [hWB w h]; simp
    have hgood : ∀ w ∈ Cond.classLink (mO md) idx (ename ec) :: Cond.initialized (ename ec) :: vx_atS (mO md) ic (ename ec) XN, vx_ot w = true := by
      intro w hw
      rcases List.mem_cons.mp hw with rfl | hw
      · exact hot _ t6
      · rcases List.mem_cons.mp hw with rfl | hw
        · exact hot _ t7
        · rcases t8 w hw with h | h
          · exact hot w h
          · rcases hAD w h with ⟨y, rfl⟩ | ⟨C, T, rfl⟩ <;> rfl
    have htn : ∀ z : Nat, ∀ x ∈ c.exceptionTable.toList, covers x z = false := by
      intro z x hx
      rw [htab.2 hx0, tab_nil t9] at hx
      cases hx
    have hX : ∀ t : State, s.vm.Alike t.vm → H'.size ≤ t.heap.size → (∀ q : Nat, q < H'.size → t.heap[q]? = H'[q]?) → CX g D A ρ f ec (ename ec) s t := fun t ha h1 h2 =>
      ⟨⟨ρ', tys', rfl, hE, hft, hR'.1.moved ha, HRw_grow hw h2⟩, Nat.le_trans hS'.1 h1, fun q hq hnA => by rw [h2 q (Nat.lt_of_lt_of_le hq hS'.1)]; exact hS'.2.1 q hq hnA⟩
    obtain ⟨hf1, hf2⟩ := hRR
    unfold FRM at hf1
    unfold LOC at hf2
    have hfr : XN.length + 3 < R.frames := by show 2 + 3 < R.frames; omega
    have hlo : (([] : List Value).map fun v => v.category).sum + (13 * (XN.length + 1) + 43) ≤ R.locals := by show 0 + (13 * (2 + 1) + 43) ≤ R.locals; omega
    cases w with
    | false =>
      exact vx_throwS hx hb hlt hown hfit hnm (hts _ t6) (hts _ t7) hstr hat hgood hAmb.2.2.2.2.2.2.1 hAmb.2.2.2.2.2.2.2.1 hS' (hsz.trans hml.symm) t3 t4 t5.1 t5.2.1 t5.2.2 (htn _) hfr hlo (by omega) (by omega) hlk hX hS'.2.2 hk hn
    | true =>
      exact vx_throwSW hx hb hlt hown hfit hnm (hts _ t6) (hts _ t7) hstr hat hgood hAmb.2.2.2.2.2.2.1 hAmb.2.2.2.2.2.2.2.1 hS' (hsz.trans hml.symm) t3 t4 t5.1 t5.2.1 t5.2.2 (htn _) hfr hlo (by omega) (by omega) hlk hX hS'.2.2 hk hn
  · omega
theorem met_thr {rc : RC} (hWB : ∀ w ∈ WB, goodWord w = true) (hAD : ADok AD) (IH : RSnd TB WB AD SR FW STP l g D sl rc) {x d : Nat} (hx0 : x ≠ 0) {mt : MT} (hmt : TB[x]? = some mt) (hM : MOK WB mt.1) {ρ : List Nat} {tys : TY} {ah : List AC} {nt : Nat} {H0 : Heap} {vs : List Value} {avs : List AV} {f : Fin9} {ec : Nat} (hrun : rc d x 0 (aargs 0 avs) [] ah nt = some f) (hf : f.1 = ec + 3) (hec : ec < 3) (hnt : tys.length = nt) (hav : F2 (vrel g ρ) avs vs) (hcat : acats avs ≤ mL mt.1) (hl : l.stackTraces = false) (hA : ∀ q, H0.size ≤ q → A q) (hw : HRw g D A ρ tys ah H0) :
    vx_Met l (mY mt.1) (cwd mt.1 :: WB) ({ frames := FRM d, cells := fu f, slots := fv f, locals := LOC d } : Room) (CP SR AD FW g D A tys vs H0) CN (CX g D A ρ f ec) (fu f) (fv f) A := by
  refine MetFree.of_bodyS (code := mC mt.1) (maxLocals := mL mt.1) (ret := mR mt.1) hM.2.2.2.1 ?_ ?_
  · intro args s m h hn
    obtain ⟨meth, c, h1, h2, h3, h4, h5, h6, -⟩ := cwd_spec (atoms_spec (ws := cwd mt.1 :: WB) h _ List.mem_cons_self) hn
    exact ⟨meth, c, h1, h2, h3, h4, h5, h6⟩
  · intro p e s m args below meth c s₁ B hml hP _
    have hh0 : s₁.heap = s.heap := by rw [B.state]; rfl
    obtain ⟨C, hR, ls, els, hL⟩ := entry_ok (sl := sl) hx0 hM hav hcat hl hA hw (rm := { frames := FRM d, cells := fu f, slots := fv f, locals := LOC d }) ⟨Nat.le_refl _, Nat.le_refl _⟩ B hml hP
    have K : W p l e (headSpec (cwd mt.1 :: WB) ({ frames := FRM d, cells := fu f, slots := fv f, locals := LOC d } : Room)).room s m args below meth c s.heap [] 0 0 (vx_MQ below CN (CX g D A ρ f ec) args s (fu f) (fv f) A) (entryFrame m args (mL mt.1)) := by
      rw [els]
      refine IH d x 0 _ [] ah nt f mt hmt hrun p e _ s m args below meth c s.heap [] 0 0 _ A ρ tys ls [] C hR hnt hL F2_0 (by rw [Nat.zero_add]; exact Nat.le_refl _) (by rw [Nat.zero_add]; exact Nat.le_refl _) ?_
      intro ρ' tys' H' locs' ls' st' k n hE hR' hft hF hc hk hn
      refine fin_thr hWB hAD hf hec hx0 C hE hR' hft hF ?_ ?_ (Nat.le_refl _) (Nat.le_refl _)
      · rcases hc with h | h | h <;> omega
      · rcases hc with h | h | h <;> omega
    obtain ⟨t, a1, o, b1, b2, b3⟩ := K s₁ hh0 (Stand.of_body B)
    exact ⟨t, o, a1, b1, b2, b3⟩
section GO
variable {p : Program} {e : Env} {R : Room} {s : State} {m : MethodId} {args : Array Value} {below : List Frame} {meth : Method} {c : Code} {H : Heap} {locs : List Loc} {cells slots mc ms pc : Nat} {Q : State → Prop} {ls : Array Slot} {st0 rest : List Value} {ρ : List Nat} {f : Fin9} {a : Array Value}
theorem call_go (hr : va_Run p l e R s m args below meth c H locs cells slots mc ms (F0 m pc ls st0) rest (CQ g D A ρ f a) A) (hS : va_S A s.heap H locs)
    (kk : ∀ (v : Option Value) (ρ' : List Nat) (tys' : TY) (H1 : Heap) (locs1 : List Loc), vres g ρ' f v → Ext ρ ρ' → tys'.length = ft f → HR g D A s ρ' tys' (fh f) H1 locs1 → W p l e R s m args below meth c H1 locs1 (cells + mc) (slots + ms) Q (F0 m (pc + 3) ls (v.toList ++ rest))) : W p l e R s m args below meth c H locs cells slots Q (F0 m pc ls st0) := by
  intro T hT X
  obtain ⟨v, st₀, t, T', L, h0, X', hL, e1, e2, ⟨⟨v', ρ', tys', hv, hvr, hE, hft, hK, hw⟩, hz, hk⟩, st⟩ := hr T hT X
  cases hv
  rw [h0] at hz hk
  have hal : s.vm.Alike t.vm := by rw [← e2]; exact X'.warmed.alike
  obtain ⟨t2, a1, b1⟩ := kk v ρ' tys' T'.heap (locs ++ L) hvr hE hft (HR_of (hK.moved hal.symm) (by rw [e1]; exact hw) ⟨Nat.le_trans hS.1 (by rw [e1]; exact hz), fun q h1 h2 => by rw [e1, hk q (Nat.lt_of_lt_of_le h1 hS.1) h2]; exact hS.2.1 q h1 h2, fun q hq => (List.mem_append.mp hq).elim (hS.2.2 q) (hL q)⟩) T' rfl X'
  exact ⟨t2, st t2 a1, b1⟩
theorem call_go5 (hr : va_Run5 p l e R s m args below meth c H locs cells slots mc ms (F0 m pc ls st0) rest (CQ g D A ρ f a) A) (hS : va_S A s.heap H locs)
    (kk : ∀ (v : Option Value) (ρ' : List Nat) (tys' : TY) (H1 : Heap) (locs1 : List Loc), vres g ρ' f v → Ext ρ ρ' → tys'.length = ft f → HR g D A s ρ' tys' (fh f) H1 locs1 → W p l e R s m args below meth c H1 locs1 (cells + mc) (slots + ms) Q (F0 m (pc + 5) ls (v.toList ++ rest))) : W p l e R s m args below meth c H locs cells slots Q (F0 m pc ls st0) := by
  intro T hT X
  obtain ⟨v, st₀, t, T', L, h0, X', hL, e1, e2, ⟨⟨v', ρ', tys', hv, hvr, hE, hft, hK, hw⟩, hz, hk⟩, st⟩ := hr T hT X
  cases hv
  rw [h0] at hz hk
  have hal : s.vm.Alike t.vm := by rw [← e2]; exact X'.warmed.alike
  obtain ⟨t2, a1, b1⟩ := kk v ρ' tys' T'.heap (locs ++ L) hvr hE hft (HR_of (hK.moved hal.symm) (by rw [e1]; exact hw) ⟨Nat.le_trans hS.1 (by rw [e1]; exact hz), fun q h1 h2 => by rw [e1, hk q (Nat.lt_of_lt_of_le h1 hS.1) h2]; exact hS.2.1 q h1 h2, fun q hq => (List.mem_append.mp hq).elim (hS.2.2 q) (hL q)⟩) T' rfl X'
  exact ⟨t2, st t2 a1, b1⟩
theorem call_x {ec : Nat} (hr : vx_Run p l e R s m args below meth c H locs cells slots mc ms (F0 m pc ls st0) rest (CN a) (CX g D A ρ f ec) A) (hS : va_S A s.heap H locs)
    (kx : ∀ (ce : Cell) (q9 : Addr) (ρ' : List Nat) (tys' : TY) (H1 : Heap) (locs1 : List Loc), Ext ρ ρ' → tys'.length = ft f → HR g D A s ρ' tys' (fh f) H1 locs1 → H1[q9]? = some ce → ce.vm = .none → s.vm.findClass (ename ec) = some ce.cls → vx_W p l e R s m args below meth c H1 locs1 (cells + mc) (slots + ms) Q (F0 m pc ls rest) q9) : W p l e R s m args below meth c H locs cells slots Q (F0 m pc ls st0) := by
  intro T hT X
  rcases hr T hT X with ⟨v, st₀, t, T', L, h0, X', hL, e1, e2, hF, st⟩ | ⟨q, st₀, t, T', L, E, ce, h0, X', hL, e1, e2, ⟨⟨ρ', tys', rfl, hE, hft, hK, hw⟩, hz, hk⟩, hce, hcv, hcl, st⟩
  · exact (show False from hF).elim
  · rw [h0] at hz hk
    have hal : s.vm.Alike t.vm := by rw [← e2]; exact X'.warmed.alike
    obtain ⟨t2, a1, b1⟩ := kx ce q ρ' tys' T'.heap (locs ++ L) hE hft (HR_of (hK.moved hal.symm) (by rw [e1]; exact hw) ⟨Nat.le_trans hS.1 (by rw [e1]; exact hz), fun q h1 h2 => by rw [e1, hk q (Nat.lt_of_lt_of_le h1 hS.1) h2]; exact hS.2.1 q h1 h2, fun q hq => (List.mem_append.mp hq).elim (hS.2.2 q) (hL q)⟩) (by rw [e1]; exact hce) hcv hcl T' rfl X'
    exact ⟨t2, st.trans a1, b1⟩
end GO
end CALLS
end
section
/-! calls as instructions, and each row of a table -/
theorem aCall_in {vk len x y np : Nat} {hh : List (Nat × Nat × Nat × Nat × Nat)} {ev : EV} {rc : RC} {dep mi pc : Nat} {als : Als} {ast : List AV} {ah : List AC} {nt : Nat} {f : Fin9} (h : aCall vk len x y np hh ev rc dep mi pc als ast ah nt = some f) :
    ∃ (d : Nat) (f1 : Fin9), dep = d + 1 ∧ np ≤ ast.length ∧ acats (ast.drop np) ≤ 8 ∧ acats (ast.take np) = np ∧ rcv vk ah y (ast.take np).reverse = true ∧ rc d x 0 (aargs 0 (ast.take np).reverse) [] ah nt = some f1 ∧ aft rc vk hh len (d + 1) mi pc als (ast.drop np) f1 = some f := by
  unfold aCall at h
  split at h
  · cases h
  · rename_i d
    split at h
    · cases h
    · rename_i h1
      have h1 := and_cases h1
      have h2 := and_cases h1.2
      split at h
      · cases h
      · rename_i h3
        split at h
        · cases h
        · rename_i f1 h4
          rw [fA_eq] at h4
          rw [fL_eq] at h
          exact ⟨d, f1, rfl, Nat.le_of_ble_eq_true h1.1, Nat.le_of_ble_eq_true h2.1, Nat.eq_of_beq_eq_true h2.2, h3, h4, h⟩
theorem aft_in {rc : RC} {vk len d mi pc : Nat} {hh : List (Nat × Nat × Nat × Nat × Nat)} {als : Als} {rest : List AV} {f1 f : Fin9} (h : aft rc vk hh len d mi pc als rest f1 = some f) :
    (f1.1 < 3 ∧ ∃ f2, rc d mi (pc + len) als (rst f1 rest) (fh f1) (ft f1) = some f2 ∧ f = bump (fu f1) (fv f1) f2) ∨
    (∃ (ec hp : Nat) (f2 : Fin9), f1.1 = ec + 3 ∧ (vk = 1 ∧ ec < 3) ∧ hfind hh pc ec = some hp ∧ rc d mi hp als [.inr (.inr (.inr (.inr 0)))] (fh f1) (ft f1) = some f2 ∧ f = bump (fu f1) (fv f1) f2) := by
  obtain ⟨rk, pcf, a, ahf, ntf, u, v⟩ := f1
  match rk, h with
  | 0, h =>
    obtain ⟨f2, h1, h2⟩ := addu_in (show addu u v (fN (pc + len) (fun pc' => fN ntf (fun nt' => fL (a :: rest) (fun st => rc d mi pc' als st ahf nt')))) = some f from h)
    rw [fN_eq, fN_eq, fL_eq] at h1
    exact Or.inl ⟨by show (0 : Nat) < 3; decide, f2, h1, h2⟩
  | 1, h =>
    obtain ⟨f2, h1, h2⟩ := addu_in (show addu u v (fN (pc + len) (fun pc' => fN ntf (fun nt' => rc d mi pc' als rest ahf nt'))) = some f from h)
    rw [fN_eq, fN_eq] at h1
    exact Or.inl ⟨by show (1 : Nat) < 3; decide, f2, h1, h2⟩
  | 2, h =>
    obtain ⟨f2, h1, h2⟩ := addu_in (show addu u v (fN (pc + len) (fun pc' => fN ntf (fun nt' => fL (a :: rest) (fun st => rc d mi pc' als st ahf nt')))) = some f from h)
    rw [fN_eq, fN_eq, fL_eq] at h1
    exact Or.inl ⟨by show (2 : Nat) < 3; decide, f2, h1, h2⟩
  | ec + 3, h =>
    have h : (match Nat.beq vk 1 && Nat.blt ec 3 with
      | true => match hfind hh pc ec with
        | some hp => addu u v (fN ntf (fun nt' => rc d mi hp als [.inr (.inr (.inr (.inr 0)))] ahf nt'))
        | none => none
      | false => none) = some f := h
    split at h
    · rename_i hv
      split at h
      · rename_i hp hhp
        obtain ⟨f2, h1, h2⟩ := addu_in h
        rw [fN_eq] at h1
        exact Or.inr ⟨ec, hp, f2, rfl, ⟨Nat.eq_of_beq_eq_true (and_cases hv).1, Nat.le_of_ble_eq_true (and_cases hv).2⟩, hhp, h1, h2⟩
      · cases h
    · cases h
theorem hfind_in {hh : List (Nat × Nat × Nat × Nat × Nat)} {pc ec hp : Nat} (h : hfind hh pc ec = some hp) : ∃ (pre : List (Nat × Nat × Nat × Nat × Nat)) (q : Nat × Nat × Nat × Nat × Nat) (suf : List (Nat × Nat × Nat × Nat × Nat)), hh = pre ++ q :: suf ∧ q.1 ≤ pc ∧ pc < q.2.1 ∧ q.2.2.2.2 = ec ∧ q.2.2.1 = hp ∧ ∀ z ∈ pre, ¬ (z.1 ≤ pc ∧ pc < z.2.1) ∨ (z.2.2.2.2 ≠ ec ∧ z.2.2.2.2 < 3) := by
  induction hh with
  | nil => cases h
  | cons q l ih =>
    unfold hfind at h
    split at h
    · rename_i h1
      have h1 := and_cases h1
      split at h
      · rename_i h2
        exact ⟨[], q, l, rfl, Nat.le_of_ble_eq_true h1.1, Nat.le_of_ble_eq_true h1.2, Nat.eq_of_beq_eq_true h2, sj h, fun z hz => by cases hz⟩
      · rename_i h2
        split at h
        · rename_i h3
          obtain ⟨pre, q', suf, e, r1, r2, r3, r4, r5⟩ := ih h
          refine ⟨q :: pre, q', suf, by rw [e]; rfl, r1, r2, r3, r4, fun z hz => ?_⟩
          rcases List.mem_cons.mp hz with rfl | hz
          · exact Or.inr ⟨(fun z => by rw [z, Nat.beq_refl] at h2; cases h2), Nat.le_of_ble_eq_true h3⟩
          · exact r5 z hz
        · cases h
    · rename_i h1
      obtain ⟨pre, q', suf, e, r1, r2, r3, r4, r5⟩ := ih h
      refine ⟨q :: pre, q', suf, by rw [e]; rfl, r1, r2, r3, r4, fun z hz => ?_⟩
      rcases List.mem_cons.mp hz with rfl | hz
      · refine Or.inl (fun y => ?_)
        have e1 : Nat.ble z.1 pc = true := Nat.ble_eq_true_of_le y.1
        have e2 : Nat.blt pc z.2.1 = true := Nat.ble_eq_true_of_le y.2
        rw [e1, e2] at h1
        cases h1
      · exact r5 z hz
theorem covers_of {q : Nat × Nat × Nat × Nat} {pc : Nat} : covers ⟨q.1, q.2.1, q.2.2.1, q.2.2.2⟩ pc = true ↔ (q.1 ≤ pc ∧ pc < q.2.1) := by
  simp [covers]
section STEP
variable {TB : List MT} {WB AD : List Jvm.Cond} {SR : List (String × Nat × String)} {FW : List (String × MethodName × MethodName)} {STP : Als} {l : Launch} {g : GV} {D : va_G} {sl : Nat} {mt : MT} {dep mi pc : Nat} {als : Als} {ast : List AV} {ah : List AC} {nt : Nat} {f : Fin9} {ev : EV} {rc : RC}
/-- behind a call that came back -/
theorem go_ret (IH : RSnd TB WB AD SR FW STP l g D sl rc) (hmt : TB[mi]? = some mt) {f1 f2 : Fin9} {pc' : Nat} {rest : List AV} (h2 : rc dep mi pc' als (rst f1 rest) (fh f1) (ft f1) = some f2) (hf : f = bump (fu f1) (fv f1) f2)
    {p : Program} {e : Env} {R : Room} {s : State} {m : MethodId} {args : Array Value} {below : List Frame} {meth : Method} {c : Code} {cells slots : Nat} {Q : State → Prop} {A : Nat → Prop} {ρ : List Nat} {ls : Array Slot} {vs : List Value}
    (C : Ctx WB AD SR FW g sl mt.1 dep mi p l R s m args meth c A) (hL : LR g ρ (mL mt.1) als ls) (hS : F2 (vrel g ρ) rest vs) (hu : cells + fu f ≤ R.cells) (hv : slots + fv f ≤ R.slots)
    (K : Kont WB AD SR STP g D mt.1 f p l e R s m args below meth c cells slots Q A ρ) :
    ∀ (v : Option Value) (ρ' : List Nat) (tys' : TY) (H1 : Heap) (locs1 : List Loc), vres g ρ' f1 v → Ext ρ ρ' → tys'.length = ft f1 → HR g D A s ρ' tys' (fh f1) H1 locs1 → W p l e R s m args below meth c H1 locs1 (cells + fu f1) (slots + fv f1) Q (F0 m pc' ls (v.toList ++ vs)) :=
  fun _ _ _ _ _ hvr hE hft hR' => go_bump IH hmt h2 hf C hR' hft (LR_more hE hL) (vres_F2 hvr (F2_more hE hS)) hE hu hv K
theorem gi (hWB : ∀ w ∈ WB, goodWord w = true) {ws : List Jvm.Cond} (h : ∀ w ∈ ws, w ∈ WB) : GoodIn WB ws := fun w hw => ⟨h w hw, good_of_word (hWB w (h w hw))⟩
theorem cwd_nil {md : MD} (h : mH md = []) : cwd md = Cond.code (mY md) (mC md) (mL md) (mR md) := by unfold cwd; rw [h]; rfl
theorem cwd_cons {md : MD} (h : mH md ≠ []) : cwd md = Cond.codeWith (mY md) (mC md) (mL md) (mR md) ((mH md).map d4) := by
  unfold cwd
  cases e : mH md with
  | nil => exact absurd e h
  | cons q l => rfl
theorem take_len {n : Nat} {st : List Value} (h : n ≤ st.length) : (st.take n).reverse.length = n := by rw [List.length_reverse, List.length_take]; omega
theorem stk_eq (n : Nat) (st : List Value) : st = (st.take n).reverse.reverse ++ st.drop n := by rw [List.reverse_reverse, List.take_append_drop]
theorem stk_rcv {n : Nat} {st As : List Value} {b : Nat} (h : (st.take n).reverse = .ref b :: As) : st = As.reverse ++ .ref b :: st.drop n := by
  have h2 := congrArg List.reverse h
  rw [List.reverse_reverse, List.reverse_cons] at h2
  have h3 := (List.take_append_drop n st).symm
  rw [h2] at h3
  rw [List.append_assoc] at h3
  exact h3
theorem acats_app (a b : List AV) : acats (a ++ b) = acats a + acats b := by
  induction a with
  | nil => simp [acats]
  | cons x l ih => show acat x + acats (l ++ b) = acat x + acats l + acats b; omega
theorem acats_rev (a : List AV) : acats a.reverse = acats a := by
  induction a with
  | nil => rfl
  | cons x l ih =>
    rw [List.reverse_cons, acats_app, ih]
    show acats l + (acat x + 0) = acat x + acats l
    omega

set_option maxRecDepth 100000 in
theorem call_pre (hWB : ∀ w ∈ WB, goodWord w = true) {d np : Nat} {hmd : MD} (hM : MOK WB hmd) (hnp : np = mN hmd) {p : Program} {R : Room} {s : State} {m : MethodId} {args : Array Value} {meth : Method} {c : Code} {A : Nat → Prop} {ρ : List Nat} {st : List Value}
    (C : Ctx WB AD SR FW g sl mt.1 (d + 1) mi p l R s m args meth c A) (hS : F2 (vrel g ρ) ast st) (h1 : np ≤ ast.length) (h2 : acats (ast.drop np) ≤ 8) (h3 : acats (ast.take np) = np) :
    F2 (vrel g ρ) (ast.take np).reverse (st.take np).reverse ∧ F2 (vrel g ρ) (ast.drop np) (st.drop np) ∧ np ≤ st.length ∧ acats (ast.take np).reverse ≤ mL hmd ∧ 2 * 0 + ((st.drop np).map fun v => v.category).sum ≤ 8 ∧ (FRM d + 1 ≤ R.frames ∧ 8 + (mL hmd + 11) + LOC d ≤ R.locals) := by
  obtain ⟨t1, t2⟩ := F2_take hS np
  obtain ⟨m1, m2, m3, m4, m5, m6, m7, m8, m9⟩ := hM
  obtain ⟨hf1, hf2⟩ := C.2.2.2.2.2.2.2.2.1
  unfold FRM at hf1
  unfold LOC at hf2
  refine ⟨F2_rev t1, t2, by rw [← F2_len hS]; exact h1, by rw [acats_rev, h3, hnp]; exact m1, by rw [F2_cats t2]; omega, ?_, ?_⟩
  · unfold FRM; omega
  · exact (show ∀ a b z : Nat, z ≤ 60 → 100 * (a + 1) + 300 ≤ b → 8 + (z + 11) + (100 * a + 300) ≤ b from fun a b z q1 q2 => by omega) d _ _ m8 hf2
theorem s_stat (hWB : ∀ w ∈ WB, goodWord w = true) (hAD : ADok AD) (hFW : FWok FW) (IH : RSnd TB WB AD SR FW STP l g D sl rc) (hmt : TB[mi]? = some mt) {idx x y np : Nat} (hx0 : x ≠ 0) (hd : decode (mC mt.1) pc = .ok (.invokestatic idx, 3)) {mu : MT} (hmu : TB[x]? = some mu) (hM : MOK WB mu.1) (hnp : np = mN mu.1) (hl1 : Jvm.Cond.methodLink (mO mt.1) idx (mY mu.1) ∈ WB) (hl2 : Jvm.Cond.static (mY mu.1) ∈ WB) (hl3 : (parseMethodDescriptor (mY mu.1).desc).map (fun d => d.parameters.length) = some (mN mu.1)) (h : aCall 0 3 x y np (mH mt.1) ev rc dep mi pc als ast ah nt = some f) : Snd WB AD SR FW STP l g D sl mt.1 dep mi pc als ast ah nt f := by
  obtain ⟨d, f1, rfl, h1, h2, h3, h4, h5, h6⟩ := aCall_in h
  intro p e R s m args below meth c H locs cells slots Q A ρ tys ls st C hR hnt hL hS hu hv k
  obtain ⟨hx, hb, hml, hts, hown, hin, hA, hAmb, hRR, hlt, hlk, htab, hret, hscr⟩ := id C
  obtain ⟨r1, r2, r3, r4, r5, r6⟩ := call_pre hWB hM hnp C hS h1 h2 h3
  have hSS := HR_S hR
  have hA' : ∀ q, H.size ≤ q → A q := fun q hq => hA q (Nat.le_trans hSS.1 hq)
  rcases aft_in h6 with ⟨hf1, f2, h7, h8⟩ | ⟨ec, hp, f2, -, ⟨h8, -⟩, -⟩
  · have e1 : fu f = fu f1 + fu f2 := by rw [h8]; rfl
    have e2 : fv f = fv f1 + fv f2 := by rw [h8]; rfl
    have hMet := met_ret IH hx0 hmu hM h5 hf1 hnt r1 r4 hlt hA' (HR_w hR)
    have hpre : PreS s H (CP SR AD FW g D A tys (st.take np).reverse H) (st.take np).reverse := ⟨blind_CP hAD hFW, pre_CP hAD hFW hAmb hR⟩
    have hgo := go_ret (f1 := f1) IH hmt h7 h8 C hL r2 hu hv k
    have hcw : cwd mu.1 ∈ WB := hM.2.1
    by_cases hh : mH mu.1 = []
    · refine call_go (f := f1) (va_runS (As := (st.take np).reverse) (rest := st.drop np) (cc := mC mt.1) (own := mO mt.1) ⟨hx, hb, hml, hown, hts⟩ hMet
        ⟨callB_of (mN mu.1) hts (gi hWB (fun w hw => by
          rcases List.mem_cons.mp hw with rfl | hw
          · exact hcw
          · exact hw)) (by rw [cwd_nil hh]) rfl rfl (hts _ hM.2.2.1) (hts _ hl1) ⟨hM.2.2.2.2.1.1, hM.2.2.2.2.1.2, hl3⟩ r6, hts _ hl2⟩ hpre rfl ((take_len r3).trans hnp) ((LR_size hL)) (stk_eq np st) r5 hd ⟨by omega, by omega⟩) hSS hgo
    · refine call_go (f := f1) (vx_runSW (As := (st.take np).reverse) (rest := st.drop np) (cc := mC mt.1) (own := mO mt.1) (hh := (mH mu.1).map d4) ⟨hx, hb, hml, hown, hts⟩ hMet
        (vx_cwSW (mN mu.1) hts (gi hWB (fun w hw => by
          rcases List.mem_append.mp hw with hw | hw
          · rcases List.mem_cons.mp hw with rfl | hw
            · exact hl1
            · rcases List.mem_cons.mp hw with rfl | hw
              · exact hl2
              · rcases List.mem_cons.mp hw with rfl | hw
                · exact hM.2.2.1
                · cases hw
          · rcases List.mem_cons.mp hw with rfl | hw
            · exact hcw
            · exact hw)) (by rw [cwd_cons hh]) rfl rfl ⟨hM.2.2.2.2.1.1, hM.2.2.2.2.1.2, hl3⟩ r6) hpre rfl ((take_len r3).trans hnp) ((LR_size hL)) (stk_eq np st) r5 hd ⟨by omega, by omega⟩) hSS hgo
  · cases h8
theorem rcv_obj {vk y : Nat} {args : List AV} (h0 : vk ≠ 0) (h2 : vk ≠ 2) (h : rcv vk ah y args = true) : isObj ah y args = true := by
  match vk, h0, h2, h with
  | 1, _, _, h => exact h
  | n + 3, _, _, h => exact h
theorem isObj_in {y : Nat} {args : List AV} (h : isObj ah y args = true) : ∃ (i : Nat) (o : Nat × List AV) (r : List AV), args = .inr (.inr (.inl i)) :: r ∧ ah[i]? = some (.inl o) ∧ o.1 = y := by
  unfold isObj at h
  split at h
  · rename_i i r
    split at h
    · rename_i o ho
      exact ⟨i, o, r, rfl, ho, Nat.eq_of_beq_eq_true h⟩
    · cases h
  · cases h
/-- a receiver of a known class -/
theorem recv_ok {y : Nat} {args : List AV} (h : isObj ah y args = true) {s : State} {A : Nat → Prop} {ρ : List Nat} {tys : TY} {H : Heap} {locs : List Loc} {As : List Value} (hR : HR g D A s ρ tys ah H locs) (hS : F2 (vrel g ρ) args As) {q : vw_C} (hq : vwCl[y]? = some q) : ∃ (b : Nat) (Bs : List Value), As = .ref b :: Bs ∧ ∃ cell : Cell, H[b]? = some cell ∧ cell.vm.isStatics = false ∧ s.vm.findClass q.1 = some cell.cls := by
  obtain ⟨i, o, r, rfl, ho, rfl⟩ := isObj_in h
  obtain ⟨v, vs, rfl, hr1, hS1⟩ := F2_cons hS
  obtain ⟨b, hb, rfl⟩ := hr1
  obtain ⟨hK, ws, e1, hP, hDD, hSS, hW⟩ := hR
  obtain ⟨en, hen, us, hus, rfl⟩ := ws_at e1 hW hb ho
  exact ⟨b, vs, rfl, va_recv hK hP hq hen⟩
theorem s_virt (hWB : ∀ w ∈ WB, goodWord w = true) (hAD : ADok AD) (hFW : FWok FW) (hAC : ∀ i, i < 3 → Jvm.Cond.castable (ename i) (ename i) ∈ AD) (hMt : HOK WB mt.1) (IH : RSnd TB WB AD SR FW STP l g D sl rc) (hmt : TB[mi]? = some mt) {idx x y np : Nat} (hx0 : x ≠ 0) (hd : decode (mC mt.1) pc = .ok (.invokevirtual idx, 3)) {mu : MT} (hmu : TB[x]? = some mu) (hM : MOK WB mu.1) (hnp : np = mN mu.1) (hnp1 : 0 < mN mu.1) (hl1 : Jvm.Cond.methodLink (mO mt.1) idx (mY mu.1) ∈ WB) (hl2 : Jvm.Cond.instanceMethod (mY mu.1) ∈ WB) (hl4 : Jvm.Cond.selects (mY mu.1).cls (mY mu.1) (mY mu.1) ∈ WB) (hq : ∃ q, vwCl[y]? = some q ∧ q.1 = (mY mu.1).cls) (hl3 : (parseMethodDescriptor (mY mu.1).desc).map (fun d => d.parameters.length) = some (mN mu.1 - 1)) (h : aCall 1 3 x y np (mH mt.1) ev rc dep mi pc als ast ah nt = some f) : Snd WB AD SR FW STP l g D sl mt.1 dep mi pc als ast ah nt f := by
  obtain ⟨d, f1, rfl, h1, h2, h3, h4, h5, h6⟩ := aCall_in h
  intro p e R s m args below meth c H locs cells slots Q A ρ tys ls st C hR hnt hL hS hu hv k
  obtain ⟨hx, hb, hml, hts, hown, hin, hA, hAmb, hRR, hlt, hlk, htab, hret, hscr⟩ := id C
  obtain ⟨r1, r2, r3, r4, r5, r6⟩ := call_pre hWB hM hnp C hS h1 h2 h3
  have hSS := HR_S hR
  have hA' : ∀ q, H.size ≤ q → A q := fun q hq => hA q (Nat.le_trans hSS.1 hq)
  obtain ⟨q, hq1, hq2⟩ := hq
  obtain ⟨b, Bs, hBs, cell, c1, c2, c3⟩ := recv_ok (rcv_obj (by decide) (by decide) h4) hR r1 hq1
  rw [hq2] at c3
  have hlen : Bs.length = mN mu.1 - 1 := by
    have := take_len r3
    rw [hBs, hnp] at this
    rw [List.length_cons] at this
    omega
  have hcw : cwd mu.1 ∈ WB := hM.2.1
  have hpr := pre_CP (vs := (st.take np).reverse) hAD hFW hAmb hR
  rw [hBs] at hpr
  have hpre : PreV s H (mY mu.1).cls b (CP SR AD FW g D A tys (.ref b :: Bs) H) Bs := ⟨blind_CP hAD hFW, ⟨cell, c1, c2, c3⟩, hpr⟩
  have hgi : GoodIn WB (wsV (mO mt.1) idx (mY mu.1).cls (mY mu.1) (cwd mu.1 :: WB)) := gi hWB (fun w hw => by
    rcases List.mem_append.mp hw with hw | hw
    · rcases List.mem_cons.mp hw with rfl | hw
      · exact hl1
      · rcases List.mem_cons.mp hw with rfl | hw
        · exact hl2
        · rcases List.mem_cons.mp hw with rfl | hw
          · exact hl4
          · rcases List.mem_cons.mp hw with rfl | hw
            · exact hM.2.2.1
            · cases hw
    · rcases List.mem_cons.mp hw with rfl | hw
      · exact hcw
      · exact hw)
  have hrr : ∀ (Qc : Array Value → State → Outcome → State → Prop), Met l (mY mu.1) (cwd mu.1 :: WB) ({ frames := FRM d, cells := fu f1, slots := fv f1, locals := LOC d } : Room) (CP SR AD FW g D A tys (.ref b :: Bs) H) Qc (fu f1) (fv f1) A → cells + fu f1 ≤ R.cells → slots + fv f1 ≤ R.slots → va_Run p l e R s m args below meth c H locs cells slots (fu f1) (fv f1) (F0 m pc ls st) (st.drop np) (Qc (Value.ref b :: Bs).toArray) A := by
    intro Qc hMet q1 q2
    by_cases hh : mH mu.1 = []
    · exact va_runV (As := Bs) (rest := st.drop np) (cc := mC mt.1) (own := mO mt.1) ⟨hx, hb, hml, hown, hts⟩ hMet (cwV (own := mO mt.1) (index := idx) (C := (mY mu.1).cls) (R := R) (mN mu.1 - 1) hts hgi (by rw [cwd_nil hh]) rfl rfl ⟨rfl, hM.2.2.2.2.1.1, hM.2.2.2.2.1.2, hl3⟩ r6) hpre rfl hlen (LR_size hL) (stk_rcv hBs) r5 hd ⟨q1, q2⟩
    · exact vx_runVW (As := Bs) (rest := st.drop np) (cc := mC mt.1) (own := mO mt.1) (hh := (mH mu.1).map d4) ⟨hx, hb, hml, hown, hts⟩ hMet (vx_cwVW (own := mO mt.1) (index := idx) (C := (mY mu.1).cls) (R := R) (mN mu.1 - 1) hts hgi (by rw [cwd_cons hh]) rfl rfl ⟨rfl, hM.2.2.2.2.1.1, hM.2.2.2.2.1.2, hl3⟩ r6) hpre rfl hlen (LR_size hL) (stk_rcv hBs) r5 hd ⟨q1, q2⟩
  have hrx : ∀ (XC : String → State → State → Prop), vx_Met l (mY mu.1) (cwd mu.1 :: WB) ({ frames := FRM d, cells := fu f1, slots := fv f1, locals := LOC d } : Room) (CP SR AD FW g D A tys (.ref b :: Bs) H) CN XC (fu f1) (fv f1) A → cells + fu f1 ≤ R.cells → slots + fv f1 ≤ R.slots → vx_Run p l e R s m args below meth c H locs cells slots (fu f1) (fv f1) (F0 m pc ls st) (st.drop np) (CN (Value.ref b :: Bs).toArray) XC A := by
    intro XC hMet q1 q2
    by_cases hh : mH mu.1 = []
    · exact vx_runV (As := Bs) (rest := st.drop np) (cc := mC mt.1) (own := mO mt.1) ⟨hx, hb, hml, hown, hts⟩ hMet (cwV (own := mO mt.1) (index := idx) (C := (mY mu.1).cls) (R := R) (mN mu.1 - 1) hts hgi (by rw [cwd_nil hh]) rfl rfl ⟨rfl, hM.2.2.2.2.1.1, hM.2.2.2.2.1.2, hl3⟩ r6) hpre rfl hlen (LR_size hL) (stk_rcv hBs) r5 hd ⟨q1, q2⟩
    · exact vx_runVX (As := Bs) (rest := st.drop np) (cc := mC mt.1) (own := mO mt.1) (hh := (mH mu.1).map d4) ⟨hx, hb, hml, hown, hts⟩ hMet (vx_cwVW (own := mO mt.1) (index := idx) (C := (mY mu.1).cls) (R := R) (mN mu.1 - 1) hts hgi (by rw [cwd_cons hh]) rfl rfl ⟨rfl, hM.2.2.2.2.1.1, hM.2.2.2.2.1.2, hl3⟩ r6) hpre rfl hlen (LR_size hL) (stk_rcv hBs) r5 hd ⟨q1, q2⟩
  rcases aft_in h6 with ⟨hf1, f2, h7, h8⟩ | ⟨ec, hp, f2, hf1, ⟨-, hec⟩, h9, h7, h8⟩
  · have e1 : fu f = fu f1 + fu f2 := by rw [h8]; rfl
    have e2 : fv f = fv f1 + fv f2 := by rw [h8]; rfl
    have hMet := met_ret IH hx0 hmu hM h5 hf1 hnt r1 r4 hlt hA' (HR_w hR)
    rw [hBs] at hMet
    exact call_go (f := f1) (hrr _ hMet (by omega) (by omega)) hSS (go_ret (f1 := f1) IH hmt h7 h8 C hL r2 hu hv k)
  · have e1 : fu f = fu f1 + fu f2 := by rw [h8]; rfl
    have e2 : fv f = fv f1 + fv f2 := by rw [h8]; rfl
    obtain ⟨pre, qh, suf, hsp, w1, w2, w3, w4, w5⟩ := hfind_in h9
    have hMh := hMt
    obtain ⟨y1, y3⟩ := hMh qh (by rw [hsp]; simp) (by rw [w3]; exact hec)
    have hMet := met_thr hWB hAD IH hx0 hmu hM h5 hf1 hec hnt r1 r4 hlt hA' (HR_w hR)
    rw [hBs] at hMet
    refine call_x (f := f1) (hrx _ hMet (by omega) (by omega)) hSS ?_
    intro ce q9 ρ' tys' H1 locs1 hE hft hR' hce hcv hcl
    rw [w3] at y3
    refine vx_catch hown (pre.map fun q => ⟨(d4 q).1, (d4 q).2.1, (d4 q).2.2.1, (d4 q).2.2.2⟩) ⟨qh.1, qh.2.1, qh.2.2.1, qh.2.2.2.1⟩ (suf.map fun q => ⟨(d4 q).1, (d4 q).2.1, (d4 q).2.2.1, (d4 q).2.2.2⟩) ?_ ?_ ?_ y1 (hts _ y3) (va_Nw.use rfl (hAmb.2.2.1 _ (hAC ec hec))) hce hcv hcl ?_
    · have hmi : mi ≠ 0 := fun h0 => by
        have h9 := htab.1 h0
        rw [hsp] at h9
        simp at h9
      rw [htab.2 hmi, hsp]
      unfold tableOf
      rw [List.map_append, List.map_append, List.map_cons, List.map_cons, List.map_map, List.map_map]
      rfl
    · intro z hz
      obtain ⟨z0, hz0, rfl⟩ := List.mem_map.mp hz
      rcases w5 z0 hz0 with h | ⟨h, x2⟩
      · refine Or.inl ?_
        cases hcv9 : covers ⟨(d4 z0).1, (d4 z0).2.1, (d4 z0).2.2.1, (d4 z0).2.2.2⟩ pc with
        | false => rfl
        | true => exact absurd (covers_of.mp hcv9) h
      · obtain ⟨x1, x3⟩ := hMh z0 (by rw [hsp]; exact List.mem_append_left _ hz0) x2
        exact Or.inr ⟨x1, ename z0.2.2.2.2, hts _ x3, hAmb.2.2.2.2.2.2.2.2 ec _ hec x2 (fun z => h z.symm)⟩
    · exact covers_of (q := d4 qh).mpr ⟨w1, w2⟩
    · show W p l e R s m args below meth c H1 locs1 (cells + fu f1) (slots + fv f1) Q (F0 m qh.2.2.1 ls [.ref q9])
      rw [w4]
      exact go_bump IH hmt h7 h8 C hR' hft (LR_more hE hL) (F2_mk ⟨q9, rfl⟩ F2_0) hE hu hv k
theorem s_spec (hWB : ∀ w ∈ WB, goodWord w = true) (hAD : ADok AD) (hFW : FWok FW) (IH : RSnd TB WB AD SR FW STP l g D sl rc) (hmt : TB[mi]? = some mt) {idx x y np : Nat} (hx0 : x ≠ 0) (hd : decode (mC mt.1) pc = .ok (.invokespecial idx, 3)) {mu : MT} (hmu : TB[x]? = some mu) (hM : MOK WB mu.1) (hnp : np = mN mu.1) (hnp1 : 0 < mN mu.1) (hl1 : Jvm.Cond.methodLink (mO mt.1) idx (mY mu.1) ∈ WB) (hl2 : Jvm.Cond.instanceMethod (mY mu.1) ∈ WB) (hini : (mY mu.1).name = "<init>") (hrn : mR mu.1 = none) (hh : mH mu.1 = []) (hl3 : (parseMethodDescriptor (mY mu.1).desc).map (fun d => d.parameters.length) = some (mN mu.1 - 1)) (h : aCall 2 3 x y np (mH mt.1) ev rc dep mi pc als ast ah nt = some f) : Snd WB AD SR FW STP l g D sl mt.1 dep mi pc als ast ah nt f := by
  obtain ⟨d, f1, rfl, h1, h2, h3, h4, h5, h6⟩ := aCall_in h
  intro p e R s m args below meth c H locs cells slots Q A ρ tys ls st C hR hnt hL hS hu hv k
  obtain ⟨hx, hb, hml, hts, hown, hin, hA, hAmb, hRR, hlt, hlk, htab, hret, hscr⟩ := id C
  obtain ⟨r1, r2, r3, r4, r5, r6⟩ := call_pre hWB hM hnp C hS h1 h2 h3
  have hSS := HR_S hR
  have hA' : ∀ q, H.size ≤ q → A q := fun q hq => hA q (Nat.le_trans hSS.1 hq)
  have hrv : ∃ (b : Nat) (Bs : List Value), (st.take np).reverse = .ref b :: Bs := by
    have h4 : isRv (ast.take np).reverse = true := h4
    unfold isRv at h4
    split at h4
    · rename_i a r ea
      rw [ea] at r1
      obtain ⟨v, vs, ev, hv1, hv2⟩ := F2_cons r1
      obtain ⟨b, rfl⟩ := vref h4 hv1
      exact ⟨b, vs, ev⟩
    · cases h4
  obtain ⟨b, Bs, hBs⟩ := hrv
  have hlen : Bs.length = mN mu.1 - 1 := by
    have := take_len r3
    rw [hBs, hnp] at this
    rw [List.length_cons] at this
    omega
  have hcw : cwd mu.1 ∈ WB := hM.2.1
  have hpr := pre_CP (vs := (st.take np).reverse) hAD hFW hAmb hR
  rw [hBs] at hpr
  have hpre : PreS s H (CP SR AD FW g D A tys (.ref b :: Bs) H) (.ref b :: Bs) := ⟨blind_CP hAD hFW, hpr⟩
  rcases aft_in h6 with ⟨hf1, f2, h7, h8⟩ | ⟨ec, hp, f2, -, ⟨h8, -⟩, -⟩
  · have e1 : fu f = fu f1 + fu f2 := by rw [h8]; rfl
    have e2 : fv f = fv f1 + fv f2 := by rw [h8]; rfl
    have hMet := met_ret IH hx0 hmu hM h5 hf1 hnt r1 r4 hlt hA' (HR_w hR)
    rw [hBs] at hMet
    have hcall := cwI (own := mO mt.1) (index := idx) (rm := { frames := FRM d, cells := fu f1, slots := fv f1, locals := LOC d }) (R := R) (ws := cwd mu.1 :: WB) (mN mu.1 - 1) hts (gi hWB (fun w hw => by
          rcases List.mem_cons.mp hw with rfl | hw
          · exact hcw
          · exact hw)) (by rw [cwd_nil hh, hrn]) rfl rfl (hts _ hM.2.2.1) (hts _ hl1) (hts _ hl2) hini ⟨hM.2.2.2.2.1.1, hM.2.2.2.2.1.2, hl3⟩ r6
    exact call_go (f := f1) (va_runI (As := Bs) (rest := st.drop np) (cc := mC mt.1) (own := mO mt.1) ⟨hx, hb, hml, hown, hts⟩ hMet hcall hpre rfl hlen (LR_size hL) (stk_rcv hBs) r5 hd ⟨by omega, by omega⟩) hSS (go_ret (f1 := f1) IH hmt h7 h8 C hL r2 hu hv k)
  · cases h8
theorem s_face (hWB : ∀ w ∈ WB, goodWord w = true) (hAD : ADok AD) (hFW : FWok FW) (hAL : ∃ q, vwCl[0]? = some q ∧ q.1 = ALn) (IH : RSnd TB WB AD SR FW STP l g D sl rc) (hmt : TB[mi]? = some mt) {idx cnt x np : Nat} (hx0 : x ≠ 0) (hd : decode (mC mt.1) pc = .ok (.invokeinterface idx cnt, 5)) {mu : MT} {xn : MethodName} (hmu : TB[x]? = some mu) (hM : MOK WB mu.1) (hnp : np = mN mu.1) (hnp1 : 0 < mN mu.1) (hfw : (ALn, xn, mY mu.1) ∈ FW) (hl1 : Jvm.Cond.methodLink (mO mt.1) idx xn ∈ WB) (hl2 : Jvm.Cond.instanceMethod (mY mu.1) ∈ WB) (hl4 : Jvm.Cond.selects ALn xn (mY mu.1) ∈ WB) (hcl : (mY mu.1).cls = ALn) (hh : mH mu.1 = []) (hl3 : (parseMethodDescriptor xn.desc).map (fun d => d.parameters.length) = some (mN mu.1 - 1)) (h : aCall 3 5 x 0 np (mH mt.1) ev rc dep mi pc als ast ah nt = some f) : Snd WB AD SR FW STP l g D sl mt.1 dep mi pc als ast ah nt f := by
  obtain ⟨d, f1, rfl, h1, h2, h3, h4, h5, h6⟩ := aCall_in h
  intro p e R s m args below meth c H locs cells slots Q A ρ tys ls st C hR hnt hL hS hu hv k
  obtain ⟨hx, hb, hml, hts, hown, hin, hA, hAmb, hRR, hlt, hlk, htab, hret, hscr⟩ := id C
  obtain ⟨r1, r2, r3, r4, r5, r6⟩ := call_pre hWB hM hnp C hS h1 h2 h3
  have hSS := HR_S hR
  have hA' : ∀ q, H.size ≤ q → A q := fun q hq => hA q (Nat.le_trans hSS.1 hq)
  obtain ⟨q, hq1, hq2⟩ := hAL
  obtain ⟨b, Bs, hBs, cell, c1, c2, c3⟩ := recv_ok (rcv_obj (by decide) (by decide) h4) hR r1 hq1
  rw [hq2] at c3
  have hlen : Bs.length = mN mu.1 - 1 := by
    have := take_len r3
    rw [hBs, hnp] at this
    rw [List.length_cons] at this
    omega
  have hcw : cwd mu.1 ∈ WB := hM.2.1
  have hpr := pre_CP (vs := (st.take np).reverse) hAD hFW hAmb hR
  rw [hBs] at hpr
  have hpre : PreV s H ALn b (CP SR AD FW g D A tys (.ref b :: Bs) H) Bs := ⟨blind_CP hAD hFW, ⟨cell, c1, c2, c3⟩, hpr⟩
  have hgi : GoodIn WB (va_wsF (mO mt.1) idx ALn xn (mY mu.1) (cwd mu.1 :: WB)) := gi hWB (fun w hw => by
    rcases List.mem_append.mp hw with hw | hw
    · rcases List.mem_cons.mp hw with rfl | hw
      · exact hl1
      · rcases List.mem_cons.mp hw with rfl | hw
        · exact hl4
        · rcases List.mem_cons.mp hw with rfl | hw
          · exact hl2
          · rcases List.mem_cons.mp hw with rfl | hw
            · exact hM.2.2.1
            · cases hw
    · rcases List.mem_cons.mp hw with rfl | hw
      · exact hcw
      · exact hw)
  have hat : ClassAt s ALn (D.1 0) := by
    have := (hR.1.1 0 q hq1).2
    rw [hq2] at this
    exact this
  rcases aft_in h6 with ⟨hf1, f2, h7, h8⟩ | ⟨ec, hp, f2, -, ⟨h8, -⟩, -⟩
  · have e1 : fu f = fu f1 + fu f2 := by rw [h8]; rfl
    have e2 : fv f = fv f1 + fv f2 := by rw [h8]; rfl
    have hMet := met_ret IH hx0 hmu hM h5 hf1 hnt r1 r4 hlt hA' (HR_w hR)
    rw [hBs] at hMet
    have hno := hFW _ hfw
    have hcall := va_cwF (own := mO mt.1) (index := idx) (C := ALn) (x := xn) (rm := { frames := FRM d, cells := fu f1, slots := fv f1, locals := LOC d }) (R := R) (mN mu.1 - 1) hts hgi (by rw [cwd_nil hh]) rfl rfl (hAmb.2.2.2.2.1 _ hfw) ⟨hno.1, hno.2, hl3⟩ r6
    exact call_go5 (f := f1) (va_runF (As := Bs) (rest := st.drop np) (cc := mC mt.1) (own := mO mt.1) hat ⟨hx, hb, hml, hown, hts⟩ hMet hcall hpre rfl hlen (LR_size hL) (stk_rcv hBs) r5 hd ⟨by omega, by omega⟩) hSS (go_ret (f1 := f1) IH hmt h7 h8 C hL r2 hu hv k)
  · cases h8
end STEP
end
section
/-! a whole run is sound -/
def SOK (TB : List MT) (WB AD : List Jvm.Cond) (SR : List (String × Nat × String)) (FW : List (String × MethodName × MethodName)) (STP : Als) (l : Launch) (g : GV) (D : va_G) (sl : Nat) (ev : EV) (mt : MT) (mi pc : Nat) (F : Step) : Prop :=
  ∀ (rc : RC), RSnd TB WB AD SR FW STP l g D sl rc → ∀ (dep : Nat) (als : Als) (ast : List AV) (ah : List AC) (nt : Nat) (f : Fin9), F ev rc dep mi pc als ast ah nt = some f → Snd WB AD SR FW STP l g D sl mt.1 dep mi pc als ast ah nt f
/-- the stop of a run, with all its locals -/
def aStop (chk : Als → Bool) : Step := fun _ _ _ _ pc als ast ah nt =>
  match ast with
  | [] => match chk als with
    | true => some (9, pc, .inl 0, ah, nt, 0, 0)
    | false => none
  | _ => none
section RUN
variable {TB : List MT} {WB AD : List Jvm.Cond} {SR : List (String × Nat × String)} {FW : List (String × MethodName × MethodName)} {STP : Als} {l : Launch} {g : GV} {D : va_G} {sl : Nat} {ev : EV}
theorem stop_ok {mt : MT} {mi pc : Nat} {chk : Als → Bool} (hc : ∀ als, chk als = true → als = STP) : SOK TB WB AD SR FW STP l g D sl ev mt mi pc (aStop chk) := by
  intro rc IH dep als ast ah nt f h
  unfold aStop at h
  split at h
  · split at h
    · rename_i h1
      have h := sj h
      subst h
      have e := hc _ h1
      subst e
      intro p e R s m args below meth c H locs cells slots Q A ρ tys ls st C hR hnt hL hS hu hv k
      rw [F2_nil hS]
      exact k ρ tys H locs ls [] cells slots Ext.rf hR hnt ⟨rfl, LR_size hL, Or.inr ⟨rfl, hL⟩⟩ (Or.inr (Or.inl rfl)) (Nat.le_add_right _ _) (Nat.le_add_right _ _)
    · cases h
  · cases h
theorem run_ok {TF : List (List (Nat × Step))} (hT : ∀ (mi : Nat) (t : List (Nat × Step)) (mt : MT), TF[mi]? = some t → TB[mi]? = some mt → ∀ q ∈ t, SOK TB WB AD SR FW STP l g D sl ev mt mi q.1 q.2) (n : Nat) : RSnd TB WB AD SR FW STP l g D sl (run TF ev n) := by
  induction n with
  | zero => intro dep mi pc als ast ah nt f mt hmt h; cases h
  | succ n ih =>
    intro dep mi pc als ast ah nt f mt hmt h
    unfold run at h
    split at h
    · cases h
    · rename_i t ht
      split at h
      · cases h
      · rename_i F hF
        exact hT mi t mt ht hmt _ (lkp_mem hF) _ ih dep als ast ah nt f h
theorem beq_t {a b : Nat} (h : Nat.beq a b = true) : a = b := Nat.eq_of_beq_eq_true h
theorem step_ok (hWB : ∀ w ∈ WB, goodWord w = true) (hAD : ADok AD) (hFW : FWok FW) (hAC : ∀ i, i < 3 → Jvm.Cond.castable (ename i) (ename i) ∈ AD) (hAO : ∀ (cj : Nat) (r : vw_C), vwCl[cj]? = some r → (cj = 17 ∨ cj = 15 ∨ cj = 14) → Jvm.Cond.castable r.1 "java/lang/Object" ∈ AD) (hAL : ∃ q, vwCl[0]? = some q ∧ q.1 = ALn) (hTL : TB.length < 1000) {NP : Nat → Nat} (hNP : ∀ (x : Nat) (mt : MT), TB[x]? = some mt → NP x = mN mt.1) (hMO : ∀ (x : Nat) (mt : MT), x ≠ 0 → TB[x]? = some mt → MOK WB mt.1) (hMH : ∀ (x : Nat) (mt : MT), TB[x]? = some mt → HOK WB mt.1)
    (hev : ev.1 ≠ [] → ev.2.2 = sl) (hsl : sl < 2 ^ 31) (hB : Bd g ev.1) (hM : ev.2.1 < 64 → ∀ x, g.1[0]? = some x → x &&& 63 = nI ev.2.1) {mi : Nat} {mt : MT} (hmt : TB[mi]? = some mt) {pc : Nat} {ie : IE} (hI : IOK WB AD SR FW TB mt.1 pc ie) : SOK TB WB AD SR FW STP l g D sl ev mt mi pc (stepOf NP mt.1 ie) := by
  intro rc IH dep als ast ah nt f h
  obtain ⟨ins, x, y, z, fk⟩ := ie
  obtain ⟨i1, i2, i3⟩ := hI
  cases ins
  case ireturn => exact s_ret (ev := ev) (rc := rc) i1 h
  case return_ => exact s_void (ev := ev) (rc := rc) i1 i2 h
  case areturn => exact s_aret (ev := ev) (rc := rc) i1 i2 h
  case getfield idx => exact s_get (ev := ev) IH hmt i1 i2 h
  case putfield idx => exact s_put (ev := ev) IH hmt i1 i2.1 i2.2 h
  case iaload => exact s_iald (ev := ev) IH hmt i1 hev hsl hB h
  case baload => exact s_bald (ev := ev) IH hmt i1 h
  case laload => exact s_lald (ev := ev) IH hmt i1 h
  case aaload => exact s_aald (ev := ev) IH hmt i1 h
  case iastore => exact s_iast (ev := ev) IH hmt i1 h
  case bastore => exact s_bast (ev := ev) IH hmt i1 h
  case lastore => exact s_last (ev := ev) IH hmt i1 h
  case aastore => exact s_aast (ev := ev) IH hmt i1 hAO h
  case arraylength => exact s_alen (ev := ev) IH hmt i1 hev h
  case newarray aty => exact s_newa (ev := ev) IH hmt i1 i2.1 i2.2 h
  case anewarray idx => exact s_newq (ev := ev) IH hmt i1 i2.1 i2.2 h
  case getstatic idx => exact s_gets (ev := ev) IH hmt i1 i2 h
  case tableswitch dflt lo hi offs =>
    obtain ⟨len, i1⟩ := i1
    exact s_tsw (ev := ev) IH hmt i1 h
  case new idx =>
    have i2 : (match (generalizing := false) Nat.ble 100 x with
      | true => THK WB AD SR mt.1 pc (x - 100)
      | false => NOK WB (mO mt.1) idx x fk) := i2
    have h : (match (generalizing := false) Nat.ble 100 x with
      | true => aThr (x - 100)
      | false => aNew x fk) ev rc dep mi pc als ast ah nt = some f := h
    cases e : Nat.ble 100 x with
    | true =>
      rw [e] at i2 h
      exact s_thr (ev := ev) (rc := rc) i2 h
    | false =>
      rw [e] at i2 h
      exact s_new (ev := ev) IH hmt i1 i2 h
  case invokespecial idx =>
    have h : (match (generalizing := false) Nat.beq x 1000 with
      | true => aObj
      | false => match (generalizing := false) x with
        | 0 => aNo
        | x + 1 => aCall 2 3 (x + 1) y (NP (x + 1)) (mH mt.1)) ev rc dep mi pc als ast ah nt = some f := h
    rcases i3 with ⟨e, a1, a2, a3⟩ | e | ⟨mu, b1, b2, b3, b4, b5, b6, b7, b8⟩
    · have e : x = 1000 := e
      subst e
      exact s_obj (ev := ev) IH hmt i1 a1 a2 a3 h
    · have e : x = 0 := e
      subst e
      cases (show (none : Option Fin9) = some f from h)
    · have b1 : TB[x]? = some mu := b1
      have hlt := (List.getElem?_eq_some_iff.mp b1).1
      cases e : Nat.beq x 1000 with
      | true =>
        have := beq_t e
        omega
      | false =>
        rw [e] at h
        match x, b1, h with
        | 0, _, h => cases (show (none : Option Fin9) = some f from h)
        | x + 1, b1, h => exact s_spec (ev := ev) hWB hAD hFW IH hmt (Nat.succ_ne_zero x) i1 b1 (hMO _ _ (Nat.succ_ne_zero x) b1) (hNP _ _ b1) b8 b2 b3 b4 b5 b6 b7 h
  case invokestatic idx =>
    have h : (match (generalizing := false) Nat.beq x 1000 with
      | true => aWr 3 ref3 pcopy
      | false => match (generalizing := false) Nat.beq x 1001 with
        | true => aSt 3 pmax
        | false => match (generalizing := false) x with
          | 0 => aNo
          | x + 1 => aCall 0 3 (x + 1) y (NP (x + 1)) (mH mt.1)) ev rc dep mi pc als ast ah nt = some f := h
    rcases i3 with ⟨e, a1, a2, a3, a4⟩ | ⟨e, a1, a2, a3, a4⟩ | e | ⟨mu, b1, b2, b3, b4⟩
    · have e : x = 1000 := e
      subst e
      exact s_copy (ev := ev) IH hmt i1 a1 a2 a3 a4 h
    · have e : x = 1001 := e
      subst e
      exact s_max (ev := ev) IH hmt i1 a1 a2 a3 a4 h
    · have e : x = 0 := e
      subst e
      cases (show (none : Option Fin9) = some f from h)
    · have b1 : TB[x]? = some mu := b1
      have hlt := (List.getElem?_eq_some_iff.mp b1).1
      cases e : Nat.beq x 1000 with
      | true =>
        have := beq_t e
        omega
      | false =>
        rw [e] at h
        cases e1 : Nat.beq x 1001 with
        | true =>
          have := beq_t e1
          omega
        | false =>
          rw [e1] at h
          match x, b1, h with
          | 0, _, h => cases (show (none : Option Fin9) = some f from h)
          | x + 1, b1, h => exact s_stat (ev := ev) hWB hAD hFW IH hmt (Nat.succ_ne_zero x) i1 b1 (hMO _ _ (Nat.succ_ne_zero x) b1) (hNP _ _ b1) b2 b3 b4 h
  case invokevirtual idx =>
    have h : (match (generalizing := false) x with
      | 0 => aNo
      | x + 1 => aCall 1 3 (x + 1) y (NP (x + 1)) (mH mt.1)) ev rc dep mi pc als ast ah nt = some f := h
    rcases i3 with e | ⟨mu, b1, b2, b3, b4, b5, b6, b7⟩
    · have e : x = 0 := e
      subst e
      cases (show (none : Option Fin9) = some f from h)
    · have b1 : TB[x]? = some mu := b1
      match x, b1, h with
      | 0, _, h => cases (show (none : Option Fin9) = some f from h)
      | x + 1, b1, h => exact s_virt (ev := ev) hWB hAD hFW hAC (hMH _ _ hmt) IH hmt (Nat.succ_ne_zero x) i1 b1 (hMO _ _ (Nat.succ_ne_zero x) b1) (hNP _ _ b1) b7 b2 b3 b4 b5 b6 h
  case invokeinterface idx cnt =>
    have h : (match (generalizing := false) x with
      | 0 => aNo
      | x + 1 => aCall 3 5 (x + 1) y (NP (x + 1)) (mH mt.1)) ev rc dep mi pc als ast ah nt = some f := h
    rcases i3 with e | ⟨mu, xn, b1, b0, b2, b3, b4, b5, b9, b6, b7, b8⟩
    · have e : x = 0 := e
      subst e
      cases (show (none : Option Fin9) = some f from h)
    · have b1 : TB[x]? = some mu := b1
      have b9 : y = 0 := b9
      subst b9
      match x, b1, h with
      | 0, _, h => cases (show (none : Option Fin9) = some f from h)
      | x + 1, b1, h => exact s_face (ev := ev) hWB hAD hFW hAL IH hmt (Nat.succ_ne_zero x) i1 b1 (hMO _ _ (Nat.succ_ne_zero x) b1) (hNP _ _ b1) b8 b0 b2 b3 b4 b5 b6 b7 h
  all_goals exact s_ps (ev := ev) IH hmt hev hB hM i1 h
end RUN
end
section
def mh_L_law : List (Nat × Nat × Nat × Nat × Nat) := []
def md_L_law : MD := (yL_law, cL_law, 7, (some .boolean), 2, RL, false, mh_L_law)
def tf_L_law_0 : List (Nat × Step) := [(0, aNew 11 [2, 2, 2, 2, 2, 2, 2, 2, 0, 0]), (3, aPs qDup), (4, aCall 2 3 6 11 1 mh_L_law), (7, aPs (qSt 7 1 1 isRN)), (8, aNew 18 [0, 0, 2, 2, 0, 2, 2, 2, 2, 2, 2, 2, 2, 2, 2, 2, 2, 2, 1, 1, 2, 2, 2, 0, 0, 1, 0, 0, 2, 2, 2, 2, 2, 2, 2, 2, 2, 2, 0, 0, 0, 2, 2, 0, 2]), (11, aPs qDup), (12, aCall 2 3 1 18 1 mh_L_law), (15, aPs (qSt 7 2 1 isRN)), (16, aPs (qC 1)), (17, aMka 2 2), (19, aPs (qSt 7 3 1 isRN)), (20, aPs (qC 0)), (21, aPs (qSt 7 4 2 isI)), (23, aPs (qLd 4 2 isI)), (25, aPs (qLd 0 1 isRN)), (26, aAlen), (27, aPs (qB 6)), (29, aPs qSub), (30, aPs (qIc .gt 2238)), (33, aPs (qLd 0 1 isRN)), (34, aPs (qLd 4 2 isI)), (36, aIald), (37, aPs (qB 63)), (39, aPs (fun ev pc als ast => ps1 ev.1 ev.2.1 7 (.iand) pc als ast)), (40, aTsw 2222 0 38 #[172, 216, 291, 359, 439, 543, 599, 655, 711, 767, 780, 824, 880, 924, 968, 1036, 1136, 1149, 1193, 1237, 1281, 1325, 1338, 1394, 1450, 1506, 1569, 1625, 1669, 1713, 1785, 1829, 1873, 1886, 1942, 2022, 2085, 2098, 2166]), (212, aPs (qLd 1 1 isRN)), (213, aPs (qLd 3 1 isRN)), (214, aCall 0 3 126 0 2 mh_L_law), (217, aPs (qSt 7 5 2 isI)), (219, aPs (qLd 2 1 isRN)), (220, aCall 1 3 68 18 1 mh_L_law), (223, aPs (qSt 7 6 2 isI)), (225, aPs (qLd 2 1 isRN)), (226, aCall 1 3 22 18 1 mh_L_law), (229, aPs (qLd 5 2 isI)), (231, aPs (qIc .eq 5)), (236, aPs (qLd 5 2 isI)), (238, aPs (qIf .ne 15)), (241, aPs (qLd 3 1 isRN)), (242, aPs (qC 0))]
def tl_L_law_0 : List (Nat × IE) := [(0, (.new 8, 11, 0, 0, [2, 2, 2, 2, 2, 2, 2, 2, 0, 0])), (3, (.dup, 0, 0, 0, [])), (4, (.invokespecial 126, 6, 11, 0, [])), (7, (.astore_n 1, 0, 0, 0, [])), (8, (.new 127, 18, 0, 0, [0, 0, 2, 2, 0, 2, 2, 2, 2, 2, 2, 2, 2, 2, 2, 2, 2, 2, 1, 1, 2, 2, 2, 0, 0, 1, 0, 0, 2, 2, 2, 2, 2, 2, 2, 2, 2, 2, 0, 0, 0, 2, 2, 0, 2])), (11, (.dup, 0, 0, 0, [])), (12, (.invokespecial 129, 1, 18, 0, [])), (15, (.astore_n 2, 0, 0, 0, [])), (16, (.iconst 1, 0, 0, 0, [])), (17, (.newarray .long, 2, 0, 0, [])), (19, (.astore_n 3, 0, 0, 0, [])), (20, (.iconst 0, 0, 0, 0, [])), (21, (.istore 4, 0, 0, 0, [])), (23, (.iload 4, 0, 0, 0, [])), (25, (.aload_n 0, 0, 0, 0, [])), (26, (.arraylength, 0, 0, 0, [])), (27, (.bipush 6, 0, 0, 0, [])), (29, (.isub, 0, 0, 0, [])), (30, (.if_icmp .gt 2238, 0, 0, 0, [])), (33, (.aload_n 0, 0, 0, 0, [])), (34, (.iload 4, 0, 0, 0, [])), (36, (.iaload, 0, 0, 0, [])), (37, (.bipush 63, 0, 0, 0, [])), (39, (.iand, 0, 0, 0, [])), (40, (.tableswitch 2222 0 38 #[172, 216, 291, 359, 439, 543, 599, 655, 711, 767, 780, 824, 880, 924, 968, 1036, 1136, 1149, 1193, 1237, 1281, 1325, 1338, 1394, 1450, 1506, 1569, 1625, 1669, 1713, 1785, 1829, 1873, 1886, 1942, 2022, 2085, 2098, 2166], 0, 0, 0, [])), (212, (.aload_n 1, 0, 0, 0, [])), (213, (.aload_n 3, 0, 0, 0, [])), (214, (.invokestatic 130, 126, 0, 0, [])), (217, (.istore 5, 0, 0, 0, [])), (219, (.aload_n 2, 0, 0, 0, [])), (220, (.invokevirtual 135, 68, 18, 0, [])), (223, (.istore 6, 0, 0, 0, [])), (225, (.aload_n 2, 0, 0, 0, [])), (226, (.invokevirtual 136, 22, 18, 0, [])), (229, (.iload 5, 0, 0, 0, [])), (231, (.if_icmp .eq 5, 0, 0, 0, [])), (236, (.iload 5, 0, 0, 0, [])), (238, (.ifCond .ne 15, 0, 0, 0, [])), (241, (.aload_n 3, 0, 0, 0, [])), (242, (.iconst 0, 0, 0, 0, []))]
def tf_L_law_1 : List (Nat × Step) := [(243, aSt 1 (pald k2)), (244, aPs (qLd 6 2 isI)), (246, aPs (fun ev pc als ast => ps1 ev.1 ev.2.1 7 (.i2l) pc als ast)), (247, aPs (fun ev pc als ast => ps1 ev.1 ev.2.1 7 (.lcmp) pc als ast)), (248, aPs (qIf .eq 5)), (253, aPs (qGo 2009)), (256, aPs (qLd 1 1 isRN)), (257, aPs (qLd 0 1 isRN)), (258, aPs (qLd 4 2 isI)), (260, aPs (qC 1)), (261, aPs qAdd), (262, aIald), (263, aPs (qLd 0 1 isRN)), (264, aPs (qLd 4 2 isI)), (266, aPs (qC 2)), (267, aPs qAdd), (268, aIald), (269, aPs (qLd 3 1 isRN)), (270, aCall 0 3 88 0 4 mh_L_law), (273, aPs (qSt 7 5 2 isI)), (275, aPs (qLd 2 1 isRN)), (276, aPs (qLd 0 1 isRN)), (277, aPs (qLd 4 2 isI)), (279, aPs (qC 1)), (280, aPs qAdd), (281, aIald), (282, aPs (qLd 0 1 isRN)), (283, aPs (qLd 4 2 isI)), (285, aPs (qC 2)), (286, aPs qAdd), (287, aIald), (288, aCall 1 3 65 18 3 mh_L_law), (291, aPs (qSt 7 6 2 isI)), (293, aPs (qLd 2 1 isRN)), (294, aCall 1 3 22 18 1 mh_L_law), (297, aPs (qLd 5 2 isI)), (299, aPs (qIc .eq 5)), (304, aPs (qLd 5 2 isI)), (306, aPs (qIf .ne 22)), (328, aPs (qGo 1934))]
def tl_L_law_1 : List (Nat × IE) := [(243, (.laload, 0, 0, 0, [])), (244, (.iload 6, 0, 0, 0, [])), (246, (.i2l, 0, 0, 0, [])), (247, (.lcmp, 0, 0, 0, [])), (248, (.ifCond .eq 5, 0, 0, 0, [])), (253, (.goto 2009, 0, 0, 0, [])), (256, (.aload_n 1, 0, 0, 0, [])), (257, (.aload_n 0, 0, 0, 0, [])), (258, (.iload 4, 0, 0, 0, [])), (260, (.iconst 1, 0, 0, 0, [])), (261, (.iadd, 0, 0, 0, [])), (262, (.iaload, 0, 0, 0, [])), (263, (.aload_n 0, 0, 0, 0, [])), (264, (.iload 4, 0, 0, 0, [])), (266, (.iconst 2, 0, 0, 0, [])), (267, (.iadd, 0, 0, 0, [])), (268, (.iaload, 0, 0, 0, [])), (269, (.aload_n 3, 0, 0, 0, [])), (270, (.invokestatic 139, 88, 0, 0, [])), (273, (.istore 5, 0, 0, 0, [])), (275, (.aload_n 2, 0, 0, 0, [])), (276, (.aload_n 0, 0, 0, 0, [])), (277, (.iload 4, 0, 0, 0, [])), (279, (.iconst 1, 0, 0, 0, [])), (280, (.iadd, 0, 0, 0, [])), (281, (.iaload, 0, 0, 0, [])), (282, (.aload_n 0, 0, 0, 0, [])), (283, (.iload 4, 0, 0, 0, [])), (285, (.iconst 2, 0, 0, 0, [])), (286, (.iadd, 0, 0, 0, [])), (287, (.iaload, 0, 0, 0, [])), (288, (.invokevirtual 142, 65, 18, 0, [])), (291, (.istore 6, 0, 0, 0, [])), (293, (.aload_n 2, 0, 0, 0, [])), (294, (.invokevirtual 136, 22, 18, 0, [])), (297, (.iload 5, 0, 0, 0, [])), (299, (.if_icmp .eq 5, 0, 0, 0, [])), (304, (.iload 5, 0, 0, 0, [])), (306, (.ifCond .ne 22, 0, 0, 0, [])), (328, (.goto 1934, 0, 0, 0, []))]
def tf_L_law_2 : List (Nat × Step) := [(331, aPs (qLd 1 1 isRN)), (332, aPs (qLd 0 1 isRN)), (333, aPs (qLd 4 2 isI)), (335, aPs (qC 1)), (336, aPs qAdd), (337, aIald), (338, aPs (qLd 0 1 isRN)), (339, aPs (qLd 4 2 isI)), (341, aPs (qC 2)), (342, aPs qAdd), (343, aIald), (344, aPs (qLd 3 1 isRN)), (345, aCall 0 3 89 0 4 mh_L_law), (348, aPs (qSt 7 5 2 isI)), (350, aPs (qLd 2 1 isRN)), (351, aPs (qLd 0 1 isRN)), (352, aPs (qLd 4 2 isI)), (354, aPs (qC 1)), (355, aPs qAdd), (356, aIald), (357, aPs (qLd 0 1 isRN)), (358, aPs (qLd 4 2 isI)), (360, aPs (qC 2)), (361, aPs qAdd), (362, aIald), (363, aCall 1 3 66 18 3 mh_L_law), (366, aPs (qSt 7 6 2 isI)), (368, aPs (qLd 2 1 isRN)), (369, aCall 1 3 22 18 1 mh_L_law), (372, aPs (qLd 5 2 isI)), (374, aPs (qIc .eq 5)), (379, aPs (qLd 5 2 isI)), (381, aPs (qIf .ne 15)), (396, aPs (qGo 1866)), (399, aPs (qLd 1 1 isRN)), (400, aPs (qLd 0 1 isRN)), (401, aPs (qLd 4 2 isI)), (403, aPs (qC 1)), (404, aPs qAdd), (405, aIald)]
def tl_L_law_2 : List (Nat × IE) := [(331, (.aload_n 1, 0, 0, 0, [])), (332, (.aload_n 0, 0, 0, 0, [])), (333, (.iload 4, 0, 0, 0, [])), (335, (.iconst 1, 0, 0, 0, [])), (336, (.iadd, 0, 0, 0, [])), (337, (.iaload, 0, 0, 0, [])), (338, (.aload_n 0, 0, 0, 0, [])), (339, (.iload 4, 0, 0, 0, [])), (341, (.iconst 2, 0, 0, 0, [])), (342, (.iadd, 0, 0, 0, [])), (343, (.iaload, 0, 0, 0, [])), (344, (.aload_n 3, 0, 0, 0, [])), (345, (.invokestatic 143, 89, 0, 0, [])), (348, (.istore 5, 0, 0, 0, [])), (350, (.aload_n 2, 0, 0, 0, [])), (351, (.aload_n 0, 0, 0, 0, [])), (352, (.iload 4, 0, 0, 0, [])), (354, (.iconst 1, 0, 0, 0, [])), (355, (.iadd, 0, 0, 0, [])), (356, (.iaload, 0, 0, 0, [])), (357, (.aload_n 0, 0, 0, 0, [])), (358, (.iload 4, 0, 0, 0, [])), (360, (.iconst 2, 0, 0, 0, [])), (361, (.iadd, 0, 0, 0, [])), (362, (.iaload, 0, 0, 0, [])), (363, (.invokevirtual 145, 66, 18, 0, [])), (366, (.istore 6, 0, 0, 0, [])), (368, (.aload_n 2, 0, 0, 0, [])), (369, (.invokevirtual 136, 22, 18, 0, [])), (372, (.iload 5, 0, 0, 0, [])), (374, (.if_icmp .eq 5, 0, 0, 0, [])), (379, (.iload 5, 0, 0, 0, [])), (381, (.ifCond .ne 15, 0, 0, 0, [])), (396, (.goto 1866, 0, 0, 0, [])), (399, (.aload_n 1, 0, 0, 0, [])), (400, (.aload_n 0, 0, 0, 0, [])), (401, (.iload 4, 0, 0, 0, [])), (403, (.iconst 1, 0, 0, 0, [])), (404, (.iadd, 0, 0, 0, [])), (405, (.iaload, 0, 0, 0, []))]
def tf_L_law_3 : List (Nat × Step) := [(406, aPs (qLd 0 1 isRN)), (407, aPs (qLd 4 2 isI)), (409, aPs (qC 2)), (410, aPs qAdd), (411, aIald), (412, aPs (qLd 0 1 isRN)), (413, aPs (qLd 4 2 isI)), (415, aPs (qC 3)), (416, aPs qAdd), (417, aIald), (418, aPs (qLd 3 1 isRN)), (419, aCall 0 3 21 0 5 mh_L_law), (422, aPs (qSt 7 5 2 isI)), (424, aPs (qLd 2 1 isRN)), (425, aPs (qLd 0 1 isRN)), (426, aPs (qLd 4 2 isI)), (428, aPs (qC 1)), (429, aPs qAdd), (430, aIald), (431, aPs (qLd 0 1 isRN)), (432, aPs (qLd 4 2 isI)), (434, aPs (qC 2)), (435, aPs qAdd), (436, aIald), (437, aPs (qLd 0 1 isRN)), (438, aPs (qLd 4 2 isI)), (440, aPs (qC 3)), (441, aPs qAdd), (442, aIald), (443, aCall 1 3 17 18 4 mh_L_law), (446, aPs (qSt 7 6 2 isI)), (448, aPs (qLd 2 1 isRN)), (449, aCall 1 3 22 18 1 mh_L_law), (452, aPs (qLd 5 2 isI)), (454, aPs (qIc .eq 5)), (459, aPs (qLd 5 2 isI)), (461, aPs (qIf .ne 15)), (464, aPs (qLd 3 1 isRN)), (465, aPs (qC 0)), (466, aSt 1 (pald k2))]
def tl_L_law_3 : List (Nat × IE) := [(406, (.aload_n 0, 0, 0, 0, [])), (407, (.iload 4, 0, 0, 0, [])), (409, (.iconst 2, 0, 0, 0, [])), (410, (.iadd, 0, 0, 0, [])), (411, (.iaload, 0, 0, 0, [])), (412, (.aload_n 0, 0, 0, 0, [])), (413, (.iload 4, 0, 0, 0, [])), (415, (.iconst 3, 0, 0, 0, [])), (416, (.iadd, 0, 0, 0, [])), (417, (.iaload, 0, 0, 0, [])), (418, (.aload_n 3, 0, 0, 0, [])), (419, (.invokestatic 146, 21, 0, 0, [])), (422, (.istore 5, 0, 0, 0, [])), (424, (.aload_n 2, 0, 0, 0, [])), (425, (.aload_n 0, 0, 0, 0, [])), (426, (.iload 4, 0, 0, 0, [])), (428, (.iconst 1, 0, 0, 0, [])), (429, (.iadd, 0, 0, 0, [])), (430, (.iaload, 0, 0, 0, [])), (431, (.aload_n 0, 0, 0, 0, [])), (432, (.iload 4, 0, 0, 0, [])), (434, (.iconst 2, 0, 0, 0, [])), (435, (.iadd, 0, 0, 0, [])), (436, (.iaload, 0, 0, 0, [])), (437, (.aload_n 0, 0, 0, 0, [])), (438, (.iload 4, 0, 0, 0, [])), (440, (.iconst 3, 0, 0, 0, [])), (441, (.iadd, 0, 0, 0, [])), (442, (.iaload, 0, 0, 0, [])), (443, (.invokevirtual 149, 17, 18, 0, [])), (446, (.istore 6, 0, 0, 0, [])), (448, (.aload_n 2, 0, 0, 0, [])), (449, (.invokevirtual 136, 22, 18, 0, [])), (452, (.iload 5, 0, 0, 0, [])), (454, (.if_icmp .eq 5, 0, 0, 0, [])), (459, (.iload 5, 0, 0, 0, [])), (461, (.ifCond .ne 15, 0, 0, 0, [])), (464, (.aload_n 3, 0, 0, 0, [])), (465, (.iconst 0, 0, 0, 0, [])), (466, (.laload, 0, 0, 0, []))]
def tf_L_law_4 : List (Nat × Step) := [(467, aPs (qLd 6 2 isI)), (469, aPs (fun ev pc als ast => ps1 ev.1 ev.2.1 7 (.i2l) pc als ast)), (470, aPs (fun ev pc als ast => ps1 ev.1 ev.2.1 7 (.lcmp) pc als ast)), (471, aPs (qIf .eq 5)), (476, aPs (qGo 1786)), (479, aPs (qLd 1 1 isRN)), (480, aPs (qLd 0 1 isRN)), (481, aPs (qLd 4 2 isI)), (483, aPs (qC 1)), (484, aPs qAdd), (485, aIald), (486, aPs (qLd 0 1 isRN)), (487, aPs (qLd 4 2 isI)), (489, aPs (qC 2)), (490, aPs qAdd), (491, aIald), (492, aPs (qLd 0 1 isRN)), (493, aPs (qLd 4 2 isI)), (495, aPs (qC 3)), (496, aPs qAdd), (497, aIald), (498, aPs (qLd 0 1 isRN)), (499, aPs (qLd 4 2 isI)), (501, aPs (qC 4)), (502, aPs qAdd), (503, aIald), (504, aPs (qLd 0 1 isRN)), (505, aPs (qLd 4 2 isI)), (507, aPs (qC 5)), (508, aPs qAdd), (509, aIald), (510, aPs (qLd 3 1 isRN)), (511, aCall 0 3 69 0 7 mh_L_law), (514, aPs (qSt 7 5 2 isI)), (516, aPs (qLd 2 1 isRN)), (517, aPs (qLd 0 1 isRN)), (518, aPs (qLd 4 2 isI)), (520, aPs (qC 1)), (521, aPs qAdd), (522, aIald)]
def tl_L_law_4 : List (Nat × IE) := [(467, (.iload 6, 0, 0, 0, [])), (469, (.i2l, 0, 0, 0, [])), (470, (.lcmp, 0, 0, 0, [])), (471, (.ifCond .eq 5, 0, 0, 0, [])), (476, (.goto 1786, 0, 0, 0, [])), (479, (.aload_n 1, 0, 0, 0, [])), (480, (.aload_n 0, 0, 0, 0, [])), (481, (.iload 4, 0, 0, 0, [])), (483, (.iconst 1, 0, 0, 0, [])), (484, (.iadd, 0, 0, 0, [])), (485, (.iaload, 0, 0, 0, [])), (486, (.aload_n 0, 0, 0, 0, [])), (487, (.iload 4, 0, 0, 0, [])), (489, (.iconst 2, 0, 0, 0, [])), (490, (.iadd, 0, 0, 0, [])), (491, (.iaload, 0, 0, 0, [])), (492, (.aload_n 0, 0, 0, 0, [])), (493, (.iload 4, 0, 0, 0, [])), (495, (.iconst 3, 0, 0, 0, [])), (496, (.iadd, 0, 0, 0, [])), (497, (.iaload, 0, 0, 0, [])), (498, (.aload_n 0, 0, 0, 0, [])), (499, (.iload 4, 0, 0, 0, [])), (501, (.iconst 4, 0, 0, 0, [])), (502, (.iadd, 0, 0, 0, [])), (503, (.iaload, 0, 0, 0, [])), (504, (.aload_n 0, 0, 0, 0, [])), (505, (.iload 4, 0, 0, 0, [])), (507, (.iconst 5, 0, 0, 0, [])), (508, (.iadd, 0, 0, 0, [])), (509, (.iaload, 0, 0, 0, [])), (510, (.aload_n 3, 0, 0, 0, [])), (511, (.invokestatic 150, 69, 0, 0, [])), (514, (.istore 5, 0, 0, 0, [])), (516, (.aload_n 2, 0, 0, 0, [])), (517, (.aload_n 0, 0, 0, 0, [])), (518, (.iload 4, 0, 0, 0, [])), (520, (.iconst 1, 0, 0, 0, [])), (521, (.iadd, 0, 0, 0, [])), (522, (.iaload, 0, 0, 0, []))]
def tf_L_law_5 : List (Nat × Step) := [(523, aPs (qLd 0 1 isRN)), (524, aPs (qLd 4 2 isI)), (526, aPs (qC 2)), (527, aPs qAdd), (528, aIald), (529, aPs (qLd 0 1 isRN)), (530, aPs (qLd 4 2 isI)), (532, aPs (qC 3)), (533, aPs qAdd), (534, aIald), (535, aPs (qLd 0 1 isRN)), (536, aPs (qLd 4 2 isI)), (538, aPs (qC 4)), (539, aPs qAdd), (540, aIald), (541, aPs (qLd 0 1 isRN)), (542, aPs (qLd 4 2 isI)), (544, aPs (qC 5)), (545, aPs qAdd), (546, aIald), (547, aCall 1 3 46 18 6 mh_L_law), (550, aPs (qSt 7 6 2 isI)), (552, aPs (qLd 2 1 isRN)), (553, aCall 1 3 22 18 1 mh_L_law), (556, aPs (qLd 5 2 isI)), (558, aPs (qIc .eq 5)), (563, aPs (qLd 5 2 isI)), (565, aPs (qIf .ne 15)), (580, aPs (qGo 1682)), (583, aPs (qLd 1 1 isRN)), (584, aPs (qLd 0 1 isRN)), (585, aPs (qLd 4 2 isI)), (587, aPs (qC 1)), (588, aPs qAdd), (589, aIald), (590, aPs (qLd 3 1 isRN)), (591, aCall 0 3 38 0 3 mh_L_law), (594, aPs (qSt 7 5 2 isI)), (596, aPs (qLd 2 1 isRN)), (597, aPs (qLd 0 1 isRN))]
def tl_L_law_5 : List (Nat × IE) := [(523, (.aload_n 0, 0, 0, 0, [])), (524, (.iload 4, 0, 0, 0, [])), (526, (.iconst 2, 0, 0, 0, [])), (527, (.iadd, 0, 0, 0, [])), (528, (.iaload, 0, 0, 0, [])), (529, (.aload_n 0, 0, 0, 0, [])), (530, (.iload 4, 0, 0, 0, [])), (532, (.iconst 3, 0, 0, 0, [])), (533, (.iadd, 0, 0, 0, [])), (534, (.iaload, 0, 0, 0, [])), (535, (.aload_n 0, 0, 0, 0, [])), (536, (.iload 4, 0, 0, 0, [])), (538, (.iconst 4, 0, 0, 0, [])), (539, (.iadd, 0, 0, 0, [])), (540, (.iaload, 0, 0, 0, [])), (541, (.aload_n 0, 0, 0, 0, [])), (542, (.iload 4, 0, 0, 0, [])), (544, (.iconst 5, 0, 0, 0, [])), (545, (.iadd, 0, 0, 0, [])), (546, (.iaload, 0, 0, 0, [])), (547, (.invokevirtual 153, 46, 18, 0, [])), (550, (.istore 6, 0, 0, 0, [])), (552, (.aload_n 2, 0, 0, 0, [])), (553, (.invokevirtual 136, 22, 18, 0, [])), (556, (.iload 5, 0, 0, 0, [])), (558, (.if_icmp .eq 5, 0, 0, 0, [])), (563, (.iload 5, 0, 0, 0, [])), (565, (.ifCond .ne 15, 0, 0, 0, [])), (580, (.goto 1682, 0, 0, 0, [])), (583, (.aload_n 1, 0, 0, 0, [])), (584, (.aload_n 0, 0, 0, 0, [])), (585, (.iload 4, 0, 0, 0, [])), (587, (.iconst 1, 0, 0, 0, [])), (588, (.iadd, 0, 0, 0, [])), (589, (.iaload, 0, 0, 0, [])), (590, (.aload_n 3, 0, 0, 0, [])), (591, (.invokestatic 154, 38, 0, 0, [])), (594, (.istore 5, 0, 0, 0, [])), (596, (.aload_n 2, 0, 0, 0, [])), (597, (.aload_n 0, 0, 0, 0, []))]
def tf_L_law_6 : List (Nat × Step) := [(598, aPs (qLd 4 2 isI)), (600, aPs (qC 1)), (601, aPs qAdd), (602, aIald), (603, aCall 1 3 25 18 2 mh_L_law), (606, aPs (qSt 7 6 2 isI)), (608, aPs (qLd 2 1 isRN)), (609, aCall 1 3 22 18 1 mh_L_law), (612, aPs (qLd 5 2 isI)), (614, aPs (qIc .eq 5)), (619, aPs (qLd 5 2 isI)), (621, aPs (qIf .ne 15)), (624, aPs (qLd 3 1 isRN)), (625, aPs (qC 0)), (626, aSt 1 (pald k2)), (627, aPs (qLd 6 2 isI)), (629, aPs (fun ev pc als ast => ps1 ev.1 ev.2.1 7 (.i2l) pc als ast)), (630, aPs (fun ev pc als ast => ps1 ev.1 ev.2.1 7 (.lcmp) pc als ast)), (631, aPs (qIf .eq 5)), (636, aPs (qGo 1626)), (639, aPs (qLd 1 1 isRN)), (640, aPs (qLd 0 1 isRN)), (641, aPs (qLd 4 2 isI)), (643, aPs (qC 1)), (644, aPs qAdd), (645, aIald), (646, aPs (qLd 3 1 isRN)), (647, aCall 0 3 92 0 3 mh_L_law), (650, aPs (qSt 7 5 2 isI)), (652, aPs (qLd 2 1 isRN)), (653, aPs (qLd 0 1 isRN)), (654, aPs (qLd 4 2 isI)), (656, aPs (qC 1)), (657, aPs qAdd), (658, aIald), (659, aCall 1 3 62 18 2 mh_L_law), (662, aPs (qSt 7 6 2 isI)), (664, aPs (qLd 2 1 isRN)), (665, aCall 1 3 22 18 1 mh_L_law), (668, aPs (qLd 5 2 isI))]
def tl_L_law_6 : List (Nat × IE) := [(598, (.iload 4, 0, 0, 0, [])), (600, (.iconst 1, 0, 0, 0, [])), (601, (.iadd, 0, 0, 0, [])), (602, (.iaload, 0, 0, 0, [])), (603, (.invokevirtual 157, 25, 18, 0, [])), (606, (.istore 6, 0, 0, 0, [])), (608, (.aload_n 2, 0, 0, 0, [])), (609, (.invokevirtual 136, 22, 18, 0, [])), (612, (.iload 5, 0, 0, 0, [])), (614, (.if_icmp .eq 5, 0, 0, 0, [])), (619, (.iload 5, 0, 0, 0, [])), (621, (.ifCond .ne 15, 0, 0, 0, [])), (624, (.aload_n 3, 0, 0, 0, [])), (625, (.iconst 0, 0, 0, 0, [])), (626, (.laload, 0, 0, 0, [])), (627, (.iload 6, 0, 0, 0, [])), (629, (.i2l, 0, 0, 0, [])), (630, (.lcmp, 0, 0, 0, [])), (631, (.ifCond .eq 5, 0, 0, 0, [])), (636, (.goto 1626, 0, 0, 0, [])), (639, (.aload_n 1, 0, 0, 0, [])), (640, (.aload_n 0, 0, 0, 0, [])), (641, (.iload 4, 0, 0, 0, [])), (643, (.iconst 1, 0, 0, 0, [])), (644, (.iadd, 0, 0, 0, [])), (645, (.iaload, 0, 0, 0, [])), (646, (.aload_n 3, 0, 0, 0, [])), (647, (.invokestatic 158, 92, 0, 0, [])), (650, (.istore 5, 0, 0, 0, [])), (652, (.aload_n 2, 0, 0, 0, [])), (653, (.aload_n 0, 0, 0, 0, [])), (654, (.iload 4, 0, 0, 0, [])), (656, (.iconst 1, 0, 0, 0, [])), (657, (.iadd, 0, 0, 0, [])), (658, (.iaload, 0, 0, 0, [])), (659, (.invokevirtual 160, 62, 18, 0, [])), (662, (.istore 6, 0, 0, 0, [])), (664, (.aload_n 2, 0, 0, 0, [])), (665, (.invokevirtual 136, 22, 18, 0, [])), (668, (.iload 5, 0, 0, 0, []))]
def tf_L_law_7 : List (Nat × Step) := [(670, aPs (qIc .eq 5)), (675, aPs (qLd 5 2 isI)), (677, aPs (qIf .ne 15)), (692, aPs (qGo 1570)), (695, aPs (qLd 1 1 isRN)), (696, aPs (qLd 0 1 isRN)), (697, aPs (qLd 4 2 isI)), (699, aPs (qC 1)), (700, aPs qAdd), (701, aIald), (702, aPs (qLd 3 1 isRN)), (703, aCall 0 3 70 0 3 mh_L_law), (706, aPs (qSt 7 5 2 isI)), (708, aPs (qLd 2 1 isRN)), (709, aPs (qLd 0 1 isRN)), (710, aPs (qLd 4 2 isI)), (712, aPs (qC 1)), (713, aPs qAdd), (714, aIald), (715, aCall 1 3 50 18 2 mh_L_law), (718, aPs (qSt 7 6 2 isI)), (720, aPs (qLd 2 1 isRN)), (721, aCall 1 3 22 18 1 mh_L_law), (724, aPs (qLd 5 2 isI)), (726, aPs (qIc .eq 5)), (731, aPs (qLd 5 2 isI)), (733, aPs (qIf .ne 15)), (748, aPs (qGo 1514)), (751, aPs (qLd 1 1 isRN)), (752, aPs (qLd 0 1 isRN)), (753, aPs (qLd 4 2 isI)), (755, aPs (qC 1)), (756, aPs qAdd), (757, aIald), (758, aPs (qLd 3 1 isRN)), (759, aCall 0 3 32 0 3 mh_L_law), (762, aPs (qSt 7 5 2 isI)), (764, aPs (qLd 2 1 isRN)), (765, aPs (qLd 0 1 isRN)), (766, aPs (qLd 4 2 isI))]
def tl_L_law_7 : List (Nat × IE) := [(670, (.if_icmp .eq 5, 0, 0, 0, [])), (675, (.iload 5, 0, 0, 0, [])), (677, (.ifCond .ne 15, 0, 0, 0, [])), (692, (.goto 1570, 0, 0, 0, [])), (695, (.aload_n 1, 0, 0, 0, [])), (696, (.aload_n 0, 0, 0, 0, [])), (697, (.iload 4, 0, 0, 0, [])), (699, (.iconst 1, 0, 0, 0, [])), (700, (.iadd, 0, 0, 0, [])), (701, (.iaload, 0, 0, 0, [])), (702, (.aload_n 3, 0, 0, 0, [])), (703, (.invokestatic 161, 70, 0, 0, [])), (706, (.istore 5, 0, 0, 0, [])), (708, (.aload_n 2, 0, 0, 0, [])), (709, (.aload_n 0, 0, 0, 0, [])), (710, (.iload 4, 0, 0, 0, [])), (712, (.iconst 1, 0, 0, 0, [])), (713, (.iadd, 0, 0, 0, [])), (714, (.iaload, 0, 0, 0, [])), (715, (.invokevirtual 163, 50, 18, 0, [])), (718, (.istore 6, 0, 0, 0, [])), (720, (.aload_n 2, 0, 0, 0, [])), (721, (.invokevirtual 136, 22, 18, 0, [])), (724, (.iload 5, 0, 0, 0, [])), (726, (.if_icmp .eq 5, 0, 0, 0, [])), (731, (.iload 5, 0, 0, 0, [])), (733, (.ifCond .ne 15, 0, 0, 0, [])), (748, (.goto 1514, 0, 0, 0, [])), (751, (.aload_n 1, 0, 0, 0, [])), (752, (.aload_n 0, 0, 0, 0, [])), (753, (.iload 4, 0, 0, 0, [])), (755, (.iconst 1, 0, 0, 0, [])), (756, (.iadd, 0, 0, 0, [])), (757, (.iaload, 0, 0, 0, [])), (758, (.aload_n 3, 0, 0, 0, [])), (759, (.invokestatic 164, 32, 0, 0, [])), (762, (.istore 5, 0, 0, 0, [])), (764, (.aload_n 2, 0, 0, 0, [])), (765, (.aload_n 0, 0, 0, 0, [])), (766, (.iload 4, 0, 0, 0, []))]
def tf_L_law_8 : List (Nat × Step) := [(768, aPs (qC 1)), (769, aPs qAdd), (770, aIald), (771, aCall 1 3 23 18 2 mh_L_law), (774, aPs (qSt 7 6 2 isI)), (776, aPs (qLd 2 1 isRN)), (777, aCall 1 3 22 18 1 mh_L_law), (780, aPs (qLd 5 2 isI)), (782, aPs (qIc .eq 5)), (787, aPs (qLd 5 2 isI)), (789, aPs (qIf .ne 15)), (804, aPs (qGo 1458)), (807, aPs (qLd 1 1 isRN)), (808, aCall 1 3 129 11 1 mh_L_law), (811, aPs (qLd 2 1 isRN)), (812, aCall 1 3 113 18 1 mh_L_law), (815, aPs (qIc .eq 1447)), (820, aPs (qLd 1 1 isRN)), (821, aPs (qLd 3 1 isRN)), (822, aCall 0 3 134 0 2 mh_L_law), (825, aPs (qSt 7 5 2 isI)), (827, aPs (qLd 2 1 isRN)), (828, aCall 1 3 101 18 1 mh_L_law), (831, aPs (qSt 7 6 2 isI)), (833, aPs (qLd 2 1 isRN)), (834, aCall 1 3 22 18 1 mh_L_law), (837, aPs (qLd 5 2 isI)), (839, aPs (qIc .eq 5)), (844, aPs (qLd 5 2 isI)), (846, aPs (qIf .ne 15)), (861, aPs (qGo 1401)), (864, aPs (qLd 1 1 isRN)), (865, aPs (qLd 0 1 isRN)), (866, aPs (qLd 4 2 isI)), (868, aPs (qC 1)), (869, aPs qAdd), (870, aIald), (871, aPs (qLd 3 1 isRN)), (872, aCall 0 3 130 0 3 mh_L_law), (875, aPs (qSt 7 5 2 isI))]
def tl_L_law_8 : List (Nat × IE) := [(768, (.iconst 1, 0, 0, 0, [])), (769, (.iadd, 0, 0, 0, [])), (770, (.iaload, 0, 0, 0, [])), (771, (.invokevirtual 166, 23, 18, 0, [])), (774, (.istore 6, 0, 0, 0, [])), (776, (.aload_n 2, 0, 0, 0, [])), (777, (.invokevirtual 136, 22, 18, 0, [])), (780, (.iload 5, 0, 0, 0, [])), (782, (.if_icmp .eq 5, 0, 0, 0, [])), (787, (.iload 5, 0, 0, 0, [])), (789, (.ifCond .ne 15, 0, 0, 0, [])), (804, (.goto 1458, 0, 0, 0, [])), (807, (.aload_n 1, 0, 0, 0, [])), (808, (.invokevirtual 167, 129, 11, 0, [])), (811, (.aload_n 2, 0, 0, 0, [])), (812, (.invokevirtual 170, 113, 18, 0, [])), (815, (.if_icmp .eq 1447, 0, 0, 0, [])), (820, (.aload_n 1, 0, 0, 0, [])), (821, (.aload_n 3, 0, 0, 0, [])), (822, (.invokestatic 171, 134, 0, 0, [])), (825, (.istore 5, 0, 0, 0, [])), (827, (.aload_n 2, 0, 0, 0, [])), (828, (.invokevirtual 173, 101, 18, 0, [])), (831, (.istore 6, 0, 0, 0, [])), (833, (.aload_n 2, 0, 0, 0, [])), (834, (.invokevirtual 136, 22, 18, 0, [])), (837, (.iload 5, 0, 0, 0, [])), (839, (.if_icmp .eq 5, 0, 0, 0, [])), (844, (.iload 5, 0, 0, 0, [])), (846, (.ifCond .ne 15, 0, 0, 0, [])), (861, (.goto 1401, 0, 0, 0, [])), (864, (.aload_n 1, 0, 0, 0, [])), (865, (.aload_n 0, 0, 0, 0, [])), (866, (.iload 4, 0, 0, 0, [])), (868, (.iconst 1, 0, 0, 0, [])), (869, (.iadd, 0, 0, 0, [])), (870, (.iaload, 0, 0, 0, [])), (871, (.aload_n 3, 0, 0, 0, [])), (872, (.invokestatic 174, 130, 0, 0, [])), (875, (.istore 5, 0, 0, 0, []))]
def tf_L_law_9 : List (Nat × Step) := [(877, aPs (qLd 2 1 isRN)), (878, aPs (qLd 0 1 isRN)), (879, aPs (qLd 4 2 isI)), (881, aPs (qC 1)), (882, aPs qAdd), (883, aIald), (884, aCall 1 3 105 18 2 mh_L_law), (887, aPs (qSt 7 6 2 isI)), (889, aPs (qLd 2 1 isRN)), (890, aCall 1 3 22 18 1 mh_L_law), (893, aPs (qLd 5 2 isI)), (895, aPs (qIc .eq 5)), (900, aPs (qLd 5 2 isI)), (902, aPs (qIf .ne 15)), (917, aPs (qGo 1345)), (920, aPs (qLd 1 1 isRN)), (921, aPs (qLd 3 1 isRN)), (922, aCall 0 3 135 0 2 mh_L_law), (925, aPs (qSt 7 5 2 isI)), (927, aPs (qLd 2 1 isRN)), (928, aCall 1 3 114 18 1 mh_L_law), (931, aPs (qSt 7 6 2 isI)), (933, aPs (qLd 2 1 isRN)), (934, aCall 1 3 22 18 1 mh_L_law), (937, aPs (qLd 5 2 isI)), (939, aPs (qIc .eq 5)), (944, aPs (qLd 5 2 isI)), (946, aPs (qIf .ne 15)), (961, aPs (qGo 1301)), (964, aPs (qLd 1 1 isRN)), (965, aPs (qLd 3 1 isRN)), (966, aCall 0 3 136 0 2 mh_L_law), (969, aPs (qSt 7 5 2 isI)), (971, aPs (qLd 2 1 isRN)), (972, aCall 1 3 122 18 1 mh_L_law), (975, aPs (qSt 7 6 2 isI)), (977, aPs (qLd 2 1 isRN)), (978, aCall 1 3 22 18 1 mh_L_law), (981, aPs (qLd 5 2 isI)), (983, aPs (qIc .eq 5))]
def tl_L_law_9 : List (Nat × IE) := [(877, (.aload_n 2, 0, 0, 0, [])), (878, (.aload_n 0, 0, 0, 0, [])), (879, (.iload 4, 0, 0, 0, [])), (881, (.iconst 1, 0, 0, 0, [])), (882, (.iadd, 0, 0, 0, [])), (883, (.iaload, 0, 0, 0, [])), (884, (.invokevirtual 176, 105, 18, 0, [])), (887, (.istore 6, 0, 0, 0, [])), (889, (.aload_n 2, 0, 0, 0, [])), (890, (.invokevirtual 136, 22, 18, 0, [])), (893, (.iload 5, 0, 0, 0, [])), (895, (.if_icmp .eq 5, 0, 0, 0, [])), (900, (.iload 5, 0, 0, 0, [])), (902, (.ifCond .ne 15, 0, 0, 0, [])), (917, (.goto 1345, 0, 0, 0, [])), (920, (.aload_n 1, 0, 0, 0, [])), (921, (.aload_n 3, 0, 0, 0, [])), (922, (.invokestatic 177, 135, 0, 0, [])), (925, (.istore 5, 0, 0, 0, [])), (927, (.aload_n 2, 0, 0, 0, [])), (928, (.invokevirtual 179, 114, 18, 0, [])), (931, (.istore 6, 0, 0, 0, [])), (933, (.aload_n 2, 0, 0, 0, [])), (934, (.invokevirtual 136, 22, 18, 0, [])), (937, (.iload 5, 0, 0, 0, [])), (939, (.if_icmp .eq 5, 0, 0, 0, [])), (944, (.iload 5, 0, 0, 0, [])), (946, (.ifCond .ne 15, 0, 0, 0, [])), (961, (.goto 1301, 0, 0, 0, [])), (964, (.aload_n 1, 0, 0, 0, [])), (965, (.aload_n 3, 0, 0, 0, [])), (966, (.invokestatic 180, 136, 0, 0, [])), (969, (.istore 5, 0, 0, 0, [])), (971, (.aload_n 2, 0, 0, 0, [])), (972, (.invokevirtual 182, 122, 18, 0, [])), (975, (.istore 6, 0, 0, 0, [])), (977, (.aload_n 2, 0, 0, 0, [])), (978, (.invokevirtual 136, 22, 18, 0, [])), (981, (.iload 5, 0, 0, 0, [])), (983, (.if_icmp .eq 5, 0, 0, 0, []))]
def tf_L_law_10 : List (Nat × Step) := [(988, aPs (qLd 5 2 isI)), (990, aPs (qIf .ne 15)), (1005, aPs (qGo 1257)), (1008, aPs (qLd 1 1 isRN)), (1009, aPs (qLd 0 1 isRN)), (1010, aPs (qLd 4 2 isI)), (1012, aPs (qC 1)), (1013, aPs qAdd), (1014, aIald), (1015, aPs (qLd 0 1 isRN)), (1016, aPs (qLd 4 2 isI)), (1018, aPs (qC 2)), (1019, aPs qAdd), (1020, aIald), (1021, aPs (qLd 3 1 isRN)), (1022, aCall 0 3 127 0 4 mh_L_law), (1025, aPs (qSt 7 5 2 isI)), (1027, aPs (qLd 2 1 isRN)), (1028, aPs (qLd 0 1 isRN)), (1029, aPs (qLd 4 2 isI)), (1031, aPs (qC 1)), (1032, aPs qAdd), (1033, aIald), (1034, aPs (qLd 0 1 isRN)), (1035, aPs (qLd 4 2 isI)), (1037, aPs (qC 2)), (1038, aPs qAdd), (1039, aIald), (1040, aCall 1 3 123 18 3 mh_L_law), (1043, aPs (qSt 7 6 2 isI)), (1045, aPs (qLd 2 1 isRN)), (1046, aCall 1 3 22 18 1 mh_L_law), (1049, aPs (qLd 5 2 isI)), (1051, aPs (qIc .eq 5)), (1056, aPs (qLd 5 2 isI)), (1058, aPs (qIf .ne 15)), (1073, aPs (qGo 1189)), (1076, aPs (qLd 1 1 isRN)), (1077, aPs (qLd 0 1 isRN)), (1078, aPs (qLd 4 2 isI))]
def tl_L_law_10 : List (Nat × IE) := [(988, (.iload 5, 0, 0, 0, [])), (990, (.ifCond .ne 15, 0, 0, 0, [])), (1005, (.goto 1257, 0, 0, 0, [])), (1008, (.aload_n 1, 0, 0, 0, [])), (1009, (.aload_n 0, 0, 0, 0, [])), (1010, (.iload 4, 0, 0, 0, [])), (1012, (.iconst 1, 0, 0, 0, [])), (1013, (.iadd, 0, 0, 0, [])), (1014, (.iaload, 0, 0, 0, [])), (1015, (.aload_n 0, 0, 0, 0, [])), (1016, (.iload 4, 0, 0, 0, [])), (1018, (.iconst 2, 0, 0, 0, [])), (1019, (.iadd, 0, 0, 0, [])), (1020, (.iaload, 0, 0, 0, [])), (1021, (.aload_n 3, 0, 0, 0, [])), (1022, (.invokestatic 183, 127, 0, 0, [])), (1025, (.istore 5, 0, 0, 0, [])), (1027, (.aload_n 2, 0, 0, 0, [])), (1028, (.aload_n 0, 0, 0, 0, [])), (1029, (.iload 4, 0, 0, 0, [])), (1031, (.iconst 1, 0, 0, 0, [])), (1032, (.iadd, 0, 0, 0, [])), (1033, (.iaload, 0, 0, 0, [])), (1034, (.aload_n 0, 0, 0, 0, [])), (1035, (.iload 4, 0, 0, 0, [])), (1037, (.iconst 2, 0, 0, 0, [])), (1038, (.iadd, 0, 0, 0, [])), (1039, (.iaload, 0, 0, 0, [])), (1040, (.invokevirtual 185, 123, 18, 0, [])), (1043, (.istore 6, 0, 0, 0, [])), (1045, (.aload_n 2, 0, 0, 0, [])), (1046, (.invokevirtual 136, 22, 18, 0, [])), (1049, (.iload 5, 0, 0, 0, [])), (1051, (.if_icmp .eq 5, 0, 0, 0, [])), (1056, (.iload 5, 0, 0, 0, [])), (1058, (.ifCond .ne 15, 0, 0, 0, [])), (1073, (.goto 1189, 0, 0, 0, [])), (1076, (.aload_n 1, 0, 0, 0, [])), (1077, (.aload_n 0, 0, 0, 0, [])), (1078, (.iload 4, 0, 0, 0, []))]
def tf_L_law_11 : List (Nat × Step) := [(1080, aPs (qC 1)), (1081, aPs qAdd), (1082, aIald), (1083, aPs (qIf .eq 7)), (1086, aPs (qC 1)), (1087, aPs (qGo 4)), (1090, aPs (qC 0)), (1091, aPs (qLd 0 1 isRN)), (1092, aPs (qLd 4 2 isI)), (1094, aPs (qC 2)), (1095, aPs qAdd), (1096, aIald), (1097, aPs (qIf .eq 7)), (1100, aPs (qC 1)), (1101, aPs (qGo 4)), (1104, aPs (qC 0)), (1105, aPs (qLd 3 1 isRN)), (1106, aCall 0 3 41 0 4 mh_L_law), (1109, aPs (qSt 7 5 2 isI)), (1111, aPs (qLd 2 1 isRN)), (1112, aPs (qLd 0 1 isRN)), (1113, aPs (qLd 4 2 isI)), (1115, aPs (qC 1)), (1116, aPs qAdd), (1117, aIald), (1118, aPs (qIf .eq 7)), (1121, aPs (qC 1)), (1122, aPs (qGo 4)), (1125, aPs (qC 0)), (1126, aPs (qLd 0 1 isRN)), (1127, aPs (qLd 4 2 isI)), (1129, aPs (qC 2)), (1130, aPs qAdd), (1131, aIald), (1132, aPs (qIf .eq 7)), (1135, aPs (qC 1)), (1136, aPs (qGo 4)), (1139, aPs (qC 0)), (1140, aCall 1 3 28 18 3 mh_L_law), (1143, aPs (qSt 7 6 2 isI))]
def tl_L_law_11 : List (Nat × IE) := [(1080, (.iconst 1, 0, 0, 0, [])), (1081, (.iadd, 0, 0, 0, [])), (1082, (.iaload, 0, 0, 0, [])), (1083, (.ifCond .eq 7, 0, 0, 0, [])), (1086, (.iconst 1, 0, 0, 0, [])), (1087, (.goto 4, 0, 0, 0, [])), (1090, (.iconst 0, 0, 0, 0, [])), (1091, (.aload_n 0, 0, 0, 0, [])), (1092, (.iload 4, 0, 0, 0, [])), (1094, (.iconst 2, 0, 0, 0, [])), (1095, (.iadd, 0, 0, 0, [])), (1096, (.iaload, 0, 0, 0, [])), (1097, (.ifCond .eq 7, 0, 0, 0, [])), (1100, (.iconst 1, 0, 0, 0, [])), (1101, (.goto 4, 0, 0, 0, [])), (1104, (.iconst 0, 0, 0, 0, [])), (1105, (.aload_n 3, 0, 0, 0, [])), (1106, (.invokestatic 186, 41, 0, 0, [])), (1109, (.istore 5, 0, 0, 0, [])), (1111, (.aload_n 2, 0, 0, 0, [])), (1112, (.aload_n 0, 0, 0, 0, [])), (1113, (.iload 4, 0, 0, 0, [])), (1115, (.iconst 1, 0, 0, 0, [])), (1116, (.iadd, 0, 0, 0, [])), (1117, (.iaload, 0, 0, 0, [])), (1118, (.ifCond .eq 7, 0, 0, 0, [])), (1121, (.iconst 1, 0, 0, 0, [])), (1122, (.goto 4, 0, 0, 0, [])), (1125, (.iconst 0, 0, 0, 0, [])), (1126, (.aload_n 0, 0, 0, 0, [])), (1127, (.iload 4, 0, 0, 0, [])), (1129, (.iconst 2, 0, 0, 0, [])), (1130, (.iadd, 0, 0, 0, [])), (1131, (.iaload, 0, 0, 0, [])), (1132, (.ifCond .eq 7, 0, 0, 0, [])), (1135, (.iconst 1, 0, 0, 0, [])), (1136, (.goto 4, 0, 0, 0, [])), (1139, (.iconst 0, 0, 0, 0, [])), (1140, (.invokevirtual 189, 28, 18, 0, [])), (1143, (.istore 6, 0, 0, 0, []))]
def tf_L_law_12 : List (Nat × Step) := [(1145, aPs (qLd 2 1 isRN)), (1146, aCall 1 3 22 18 1 mh_L_law), (1149, aPs (qLd 5 2 isI)), (1151, aPs (qIc .eq 5)), (1156, aPs (qLd 5 2 isI)), (1158, aPs (qIf .ne 15)), (1173, aPs (qGo 1089)), (1176, aPs (qLd 1 1 isRN)), (1177, aCall 1 3 152 11 1 mh_L_law), (1180, aPs (qLd 2 1 isRN)), (1181, aCall 1 3 133 18 1 mh_L_law), (1184, aPs (qIc .eq 1078)), (1189, aPs (qLd 1 1 isRN)), (1190, aPs (qLd 3 1 isRN)), (1191, aCall 0 3 137 0 2 mh_L_law), (1194, aPs (qSt 7 5 2 isI)), (1196, aPs (qLd 2 1 isRN)), (1197, aCall 1 3 106 18 1 mh_L_law), (1200, aPs (qSt 7 6 2 isI)), (1202, aPs (qLd 2 1 isRN)), (1203, aCall 1 3 22 18 1 mh_L_law), (1206, aPs (qLd 5 2 isI)), (1208, aPs (qIc .eq 5)), (1213, aPs (qLd 5 2 isI)), (1215, aPs (qIf .ne 15)), (1230, aPs (qGo 1032)), (1233, aPs (qLd 1 1 isRN)), (1234, aPs (qLd 3 1 isRN)), (1235, aCall 0 3 138 0 2 mh_L_law), (1238, aPs (qSt 7 5 2 isI)), (1240, aPs (qLd 2 1 isRN)), (1241, aCall 1 3 81 18 1 mh_L_law), (1244, aPs (qSt 7 6 2 isI)), (1246, aPs (qLd 2 1 isRN)), (1247, aCall 1 3 22 18 1 mh_L_law), (1250, aPs (qLd 5 2 isI)), (1252, aPs (qIc .eq 5)), (1257, aPs (qLd 5 2 isI)), (1259, aPs (qIf .ne 15)), (1274, aPs (qGo 988))]
def tl_L_law_12 : List (Nat × IE) := [(1145, (.aload_n 2, 0, 0, 0, [])), (1146, (.invokevirtual 136, 22, 18, 0, [])), (1149, (.iload 5, 0, 0, 0, [])), (1151, (.if_icmp .eq 5, 0, 0, 0, [])), (1156, (.iload 5, 0, 0, 0, [])), (1158, (.ifCond .ne 15, 0, 0, 0, [])), (1173, (.goto 1089, 0, 0, 0, [])), (1176, (.aload_n 1, 0, 0, 0, [])), (1177, (.invokevirtual 190, 152, 11, 0, [])), (1180, (.aload_n 2, 0, 0, 0, [])), (1181, (.invokevirtual 193, 133, 18, 0, [])), (1184, (.if_icmp .eq 1078, 0, 0, 0, [])), (1189, (.aload_n 1, 0, 0, 0, [])), (1190, (.aload_n 3, 0, 0, 0, [])), (1191, (.invokestatic 194, 137, 0, 0, [])), (1194, (.istore 5, 0, 0, 0, [])), (1196, (.aload_n 2, 0, 0, 0, [])), (1197, (.invokevirtual 196, 106, 18, 0, [])), (1200, (.istore 6, 0, 0, 0, [])), (1202, (.aload_n 2, 0, 0, 0, [])), (1203, (.invokevirtual 136, 22, 18, 0, [])), (1206, (.iload 5, 0, 0, 0, [])), (1208, (.if_icmp .eq 5, 0, 0, 0, [])), (1213, (.iload 5, 0, 0, 0, [])), (1215, (.ifCond .ne 15, 0, 0, 0, [])), (1230, (.goto 1032, 0, 0, 0, [])), (1233, (.aload_n 1, 0, 0, 0, [])), (1234, (.aload_n 3, 0, 0, 0, [])), (1235, (.invokestatic 197, 138, 0, 0, [])), (1238, (.istore 5, 0, 0, 0, [])), (1240, (.aload_n 2, 0, 0, 0, [])), (1241, (.invokevirtual 199, 81, 18, 0, [])), (1244, (.istore 6, 0, 0, 0, [])), (1246, (.aload_n 2, 0, 0, 0, [])), (1247, (.invokevirtual 136, 22, 18, 0, [])), (1250, (.iload 5, 0, 0, 0, [])), (1252, (.if_icmp .eq 5, 0, 0, 0, [])), (1257, (.iload 5, 0, 0, 0, [])), (1259, (.ifCond .ne 15, 0, 0, 0, [])), (1274, (.goto 988, 0, 0, 0, []))]
def tf_L_law_13 : List (Nat × Step) := [(1277, aPs (qLd 1 1 isRN)), (1278, aPs (qLd 3 1 isRN)), (1279, aCall 0 3 139 0 2 mh_L_law), (1282, aPs (qSt 7 5 2 isI)), (1284, aPs (qLd 2 1 isRN)), (1285, aCall 1 3 82 18 1 mh_L_law), (1288, aPs (qSt 7 6 2 isI)), (1290, aPs (qLd 2 1 isRN)), (1291, aCall 1 3 22 18 1 mh_L_law), (1294, aPs (qLd 5 2 isI)), (1296, aPs (qIc .eq 5)), (1301, aPs (qLd 5 2 isI)), (1303, aPs (qIf .ne 15)), (1318, aPs (qGo 944)), (1321, aPs (qLd 1 1 isRN)), (1322, aPs (qLd 3 1 isRN)), (1323, aCall 0 3 140 0 2 mh_L_law), (1326, aPs (qSt 7 5 2 isI)), (1328, aPs (qLd 2 1 isRN)), (1329, aCall 1 3 102 18 1 mh_L_law), (1332, aPs (qSt 7 6 2 isI)), (1334, aPs (qLd 2 1 isRN)), (1335, aCall 1 3 22 18 1 mh_L_law), (1338, aPs (qLd 5 2 isI)), (1340, aPs (qIc .eq 5)), (1345, aPs (qLd 5 2 isI)), (1347, aPs (qIf .ne 15)), (1362, aPs (qGo 900)), (1365, aPs (qLd 1 1 isRN)), (1366, aCall 1 3 157 11 1 mh_L_law), (1369, aPs (qLd 2 1 isRN)), (1370, aCall 1 3 146 18 1 mh_L_law), (1373, aPs (qIc .eq 889)), (1378, aPs (qLd 1 1 isRN)), (1379, aPs (qLd 0 1 isRN)), (1380, aPs (qLd 4 2 isI)), (1382, aPs (qC 1)), (1383, aPs qAdd), (1384, aIald), (1385, aPs (qLd 3 1 isRN))]
def tl_L_law_13 : List (Nat × IE) := [(1277, (.aload_n 1, 0, 0, 0, [])), (1278, (.aload_n 3, 0, 0, 0, [])), (1279, (.invokestatic 200, 139, 0, 0, [])), (1282, (.istore 5, 0, 0, 0, [])), (1284, (.aload_n 2, 0, 0, 0, [])), (1285, (.invokevirtual 202, 82, 18, 0, [])), (1288, (.istore 6, 0, 0, 0, [])), (1290, (.aload_n 2, 0, 0, 0, [])), (1291, (.invokevirtual 136, 22, 18, 0, [])), (1294, (.iload 5, 0, 0, 0, [])), (1296, (.if_icmp .eq 5, 0, 0, 0, [])), (1301, (.iload 5, 0, 0, 0, [])), (1303, (.ifCond .ne 15, 0, 0, 0, [])), (1318, (.goto 944, 0, 0, 0, [])), (1321, (.aload_n 1, 0, 0, 0, [])), (1322, (.aload_n 3, 0, 0, 0, [])), (1323, (.invokestatic 203, 140, 0, 0, [])), (1326, (.istore 5, 0, 0, 0, [])), (1328, (.aload_n 2, 0, 0, 0, [])), (1329, (.invokevirtual 205, 102, 18, 0, [])), (1332, (.istore 6, 0, 0, 0, [])), (1334, (.aload_n 2, 0, 0, 0, [])), (1335, (.invokevirtual 136, 22, 18, 0, [])), (1338, (.iload 5, 0, 0, 0, [])), (1340, (.if_icmp .eq 5, 0, 0, 0, [])), (1345, (.iload 5, 0, 0, 0, [])), (1347, (.ifCond .ne 15, 0, 0, 0, [])), (1362, (.goto 900, 0, 0, 0, [])), (1365, (.aload_n 1, 0, 0, 0, [])), (1366, (.invokevirtual 206, 157, 11, 0, [])), (1369, (.aload_n 2, 0, 0, 0, [])), (1370, (.invokevirtual 210, 146, 18, 0, [])), (1373, (.if_icmp .eq 889, 0, 0, 0, [])), (1378, (.aload_n 1, 0, 0, 0, [])), (1379, (.aload_n 0, 0, 0, 0, [])), (1380, (.iload 4, 0, 0, 0, [])), (1382, (.iconst 1, 0, 0, 0, [])), (1383, (.iadd, 0, 0, 0, [])), (1384, (.iaload, 0, 0, 0, [])), (1385, (.aload_n 3, 0, 0, 0, []))]
def tf_L_law_14 : List (Nat × Step) := [(1386, aCall 0 3 93 0 3 mh_L_law), (1389, aPs (qSt 7 5 2 isI)), (1391, aPs (qLd 2 1 isRN)), (1392, aPs (qLd 0 1 isRN)), (1393, aPs (qLd 4 2 isI)), (1395, aPs (qC 1)), (1396, aPs qAdd), (1397, aIald), (1398, aCall 1 3 56 18 2 mh_L_law), (1401, aPs (qSt 7 6 2 isI)), (1403, aPs (qLd 2 1 isRN)), (1404, aCall 1 3 22 18 1 mh_L_law), (1407, aPs (qLd 5 2 isI)), (1409, aPs (qIc .eq 5)), (1414, aPs (qLd 5 2 isI)), (1416, aPs (qIf .ne 15)), (1431, aPs (qGo 831)), (1434, aPs (qLd 1 1 isRN)), (1435, aPs (qLd 0 1 isRN)), (1436, aPs (qLd 4 2 isI)), (1438, aPs (qC 1)), (1439, aPs qAdd), (1440, aIald), (1441, aPs (qLd 3 1 isRN)), (1442, aCall 0 3 94 0 3 mh_L_law), (1445, aPs (qSt 7 5 2 isI)), (1447, aPs (qLd 2 1 isRN)), (1448, aPs (qLd 0 1 isRN)), (1449, aPs (qLd 4 2 isI)), (1451, aPs (qC 1)), (1452, aPs qAdd), (1453, aIald), (1454, aCall 1 3 57 18 2 mh_L_law), (1457, aPs (qSt 7 6 2 isI)), (1459, aPs (qLd 2 1 isRN)), (1460, aCall 1 3 22 18 1 mh_L_law), (1463, aPs (qLd 5 2 isI)), (1465, aPs (qIc .eq 5)), (1470, aPs (qLd 5 2 isI)), (1472, aPs (qIf .ne 15))]
def tl_L_law_14 : List (Nat × IE) := [(1386, (.invokestatic 211, 93, 0, 0, [])), (1389, (.istore 5, 0, 0, 0, [])), (1391, (.aload_n 2, 0, 0, 0, [])), (1392, (.aload_n 0, 0, 0, 0, [])), (1393, (.iload 4, 0, 0, 0, [])), (1395, (.iconst 1, 0, 0, 0, [])), (1396, (.iadd, 0, 0, 0, [])), (1397, (.iaload, 0, 0, 0, [])), (1398, (.invokevirtual 213, 56, 18, 0, [])), (1401, (.istore 6, 0, 0, 0, [])), (1403, (.aload_n 2, 0, 0, 0, [])), (1404, (.invokevirtual 136, 22, 18, 0, [])), (1407, (.iload 5, 0, 0, 0, [])), (1409, (.if_icmp .eq 5, 0, 0, 0, [])), (1414, (.iload 5, 0, 0, 0, [])), (1416, (.ifCond .ne 15, 0, 0, 0, [])), (1431, (.goto 831, 0, 0, 0, [])), (1434, (.aload_n 1, 0, 0, 0, [])), (1435, (.aload_n 0, 0, 0, 0, [])), (1436, (.iload 4, 0, 0, 0, [])), (1438, (.iconst 1, 0, 0, 0, [])), (1439, (.iadd, 0, 0, 0, [])), (1440, (.iaload, 0, 0, 0, [])), (1441, (.aload_n 3, 0, 0, 0, [])), (1442, (.invokestatic 214, 94, 0, 0, [])), (1445, (.istore 5, 0, 0, 0, [])), (1447, (.aload_n 2, 0, 0, 0, [])), (1448, (.aload_n 0, 0, 0, 0, [])), (1449, (.iload 4, 0, 0, 0, [])), (1451, (.iconst 1, 0, 0, 0, [])), (1452, (.iadd, 0, 0, 0, [])), (1453, (.iaload, 0, 0, 0, [])), (1454, (.invokevirtual 216, 57, 18, 0, [])), (1457, (.istore 6, 0, 0, 0, [])), (1459, (.aload_n 2, 0, 0, 0, [])), (1460, (.invokevirtual 136, 22, 18, 0, [])), (1463, (.iload 5, 0, 0, 0, [])), (1465, (.if_icmp .eq 5, 0, 0, 0, [])), (1470, (.iload 5, 0, 0, 0, [])), (1472, (.ifCond .ne 15, 0, 0, 0, []))]
def tf_L_law_15 : List (Nat × Step) := [(1487, aPs (qGo 775)), (1490, aPs (qLd 1 1 isRN)), (1491, aPs (qLd 0 1 isRN)), (1492, aPs (qLd 4 2 isI)), (1494, aPs (qC 1)), (1495, aPs qAdd), (1496, aIald), (1497, aPs (qLd 3 1 isRN)), (1498, aCall 0 3 131 0 3 mh_L_law), (1501, aPs (qSt 7 5 2 isI)), (1503, aPs (qLd 2 1 isRN)), (1504, aPs (qLd 0 1 isRN)), (1505, aPs (qLd 4 2 isI)), (1507, aPs (qC 1)), (1508, aPs qAdd), (1509, aIald), (1510, aCall 1 3 103 18 2 mh_L_law), (1513, aPs (qSt 7 6 2 isI)), (1515, aPs (qLd 2 1 isRN)), (1516, aCall 1 3 22 18 1 mh_L_law), (1519, aPs (qLd 5 2 isI)), (1521, aPs (qIc .eq 5)), (1526, aPs (qLd 5 2 isI)), (1528, aPs (qIf .ne 15)), (1543, aPs (qGo 719)), (1546, aPs (qLd 1 1 isRN)), (1547, aPs (qLd 0 1 isRN)), (1548, aPs (qLd 4 2 isI)), (1550, aPs (qC 1)), (1551, aPs qAdd), (1552, aIald), (1553, aPs (qLd 3 1 isRN)), (1554, aCall 0 3 71 0 3 mh_L_law), (1557, aPs (qSt 7 5 2 isI)), (1559, aPs (qLd 2 1 isRN)), (1560, aPs (qLd 0 1 isRN)), (1561, aPs (qLd 4 2 isI)), (1563, aPs (qC 1)), (1564, aPs qAdd), (1565, aIald)]
def tl_L_law_15 : List (Nat × IE) := [(1487, (.goto 775, 0, 0, 0, [])), (1490, (.aload_n 1, 0, 0, 0, [])), (1491, (.aload_n 0, 0, 0, 0, [])), (1492, (.iload 4, 0, 0, 0, [])), (1494, (.iconst 1, 0, 0, 0, [])), (1495, (.iadd, 0, 0, 0, [])), (1496, (.iaload, 0, 0, 0, [])), (1497, (.aload_n 3, 0, 0, 0, [])), (1498, (.invokestatic 217, 131, 0, 0, [])), (1501, (.istore 5, 0, 0, 0, [])), (1503, (.aload_n 2, 0, 0, 0, [])), (1504, (.aload_n 0, 0, 0, 0, [])), (1505, (.iload 4, 0, 0, 0, [])), (1507, (.iconst 1, 0, 0, 0, [])), (1508, (.iadd, 0, 0, 0, [])), (1509, (.iaload, 0, 0, 0, [])), (1510, (.invokevirtual 219, 103, 18, 0, [])), (1513, (.istore 6, 0, 0, 0, [])), (1515, (.aload_n 2, 0, 0, 0, [])), (1516, (.invokevirtual 136, 22, 18, 0, [])), (1519, (.iload 5, 0, 0, 0, [])), (1521, (.if_icmp .eq 5, 0, 0, 0, [])), (1526, (.iload 5, 0, 0, 0, [])), (1528, (.ifCond .ne 15, 0, 0, 0, [])), (1543, (.goto 719, 0, 0, 0, [])), (1546, (.aload_n 1, 0, 0, 0, [])), (1547, (.aload_n 0, 0, 0, 0, [])), (1548, (.iload 4, 0, 0, 0, [])), (1550, (.iconst 1, 0, 0, 0, [])), (1551, (.iadd, 0, 0, 0, [])), (1552, (.iaload, 0, 0, 0, [])), (1553, (.aload_n 3, 0, 0, 0, [])), (1554, (.invokestatic 220, 71, 0, 0, [])), (1557, (.istore 5, 0, 0, 0, [])), (1559, (.aload_n 2, 0, 0, 0, [])), (1560, (.aload_n 0, 0, 0, 0, [])), (1561, (.iload 4, 0, 0, 0, [])), (1563, (.iconst 1, 0, 0, 0, [])), (1564, (.iadd, 0, 0, 0, [])), (1565, (.iaload, 0, 0, 0, []))]
def tf_L_law_16 : List (Nat × Step) := [(1566, aCall 1 3 49 18 2 mh_L_law), (1569, aPs (qSt 7 6 2 isI)), (1571, aPs (qLd 2 1 isRN)), (1572, aCall 1 3 22 18 1 mh_L_law), (1575, aPs (qLd 5 2 isI)), (1577, aPs (qIc .eq 5)), (1582, aPs (qLd 5 2 isI)), (1584, aPs (qIf .ne 22)), (1606, aPs (qGo 656)), (1609, aPs (qLd 1 1 isRN)), (1610, aPs (qLd 0 1 isRN)), (1611, aPs (qLd 4 2 isI)), (1613, aPs (qC 1)), (1614, aPs qAdd), (1615, aIald), (1616, aPs (qLd 3 1 isRN)), (1617, aCall 0 3 95 0 3 mh_L_law), (1620, aPs (qSt 7 5 2 isI)), (1622, aPs (qLd 2 1 isRN)), (1623, aPs (qLd 0 1 isRN)), (1624, aPs (qLd 4 2 isI)), (1626, aPs (qC 1)), (1627, aPs qAdd), (1628, aIald), (1629, aCall 1 3 54 18 2 mh_L_law), (1632, aPs (qSt 7 6 2 isI)), (1634, aPs (qLd 2 1 isRN)), (1635, aCall 1 3 22 18 1 mh_L_law), (1638, aPs (qLd 5 2 isI)), (1640, aPs (qIc .eq 5)), (1645, aPs (qLd 5 2 isI)), (1647, aPs (qIf .ne 15)), (1662, aPs (qGo 600)), (1665, aPs (qLd 1 1 isRN)), (1666, aPs (qLd 3 1 isRN)), (1667, aCall 0 3 128 0 2 mh_L_law), (1670, aPs (qSt 7 5 2 isI)), (1672, aPs (qLd 2 1 isRN)), (1673, aCall 1 3 74 18 1 mh_L_law), (1676, aPs (qSt 7 6 2 isI))]
def tl_L_law_16 : List (Nat × IE) := [(1566, (.invokevirtual 222, 49, 18, 0, [])), (1569, (.istore 6, 0, 0, 0, [])), (1571, (.aload_n 2, 0, 0, 0, [])), (1572, (.invokevirtual 136, 22, 18, 0, [])), (1575, (.iload 5, 0, 0, 0, [])), (1577, (.if_icmp .eq 5, 0, 0, 0, [])), (1582, (.iload 5, 0, 0, 0, [])), (1584, (.ifCond .ne 22, 0, 0, 0, [])), (1606, (.goto 656, 0, 0, 0, [])), (1609, (.aload_n 1, 0, 0, 0, [])), (1610, (.aload_n 0, 0, 0, 0, [])), (1611, (.iload 4, 0, 0, 0, [])), (1613, (.iconst 1, 0, 0, 0, [])), (1614, (.iadd, 0, 0, 0, [])), (1615, (.iaload, 0, 0, 0, [])), (1616, (.aload_n 3, 0, 0, 0, [])), (1617, (.invokestatic 223, 95, 0, 0, [])), (1620, (.istore 5, 0, 0, 0, [])), (1622, (.aload_n 2, 0, 0, 0, [])), (1623, (.aload_n 0, 0, 0, 0, [])), (1624, (.iload 4, 0, 0, 0, [])), (1626, (.iconst 1, 0, 0, 0, [])), (1627, (.iadd, 0, 0, 0, [])), (1628, (.iaload, 0, 0, 0, [])), (1629, (.invokevirtual 225, 54, 18, 0, [])), (1632, (.istore 6, 0, 0, 0, [])), (1634, (.aload_n 2, 0, 0, 0, [])), (1635, (.invokevirtual 136, 22, 18, 0, [])), (1638, (.iload 5, 0, 0, 0, [])), (1640, (.if_icmp .eq 5, 0, 0, 0, [])), (1645, (.iload 5, 0, 0, 0, [])), (1647, (.ifCond .ne 15, 0, 0, 0, [])), (1662, (.goto 600, 0, 0, 0, [])), (1665, (.aload_n 1, 0, 0, 0, [])), (1666, (.aload_n 3, 0, 0, 0, [])), (1667, (.invokestatic 226, 128, 0, 0, [])), (1670, (.istore 5, 0, 0, 0, [])), (1672, (.aload_n 2, 0, 0, 0, [])), (1673, (.invokevirtual 228, 74, 18, 0, [])), (1676, (.istore 6, 0, 0, 0, []))]
def tf_L_law_17 : List (Nat × Step) := [(1678, aPs (qLd 2 1 isRN)), (1679, aCall 1 3 22 18 1 mh_L_law), (1682, aPs (qLd 5 2 isI)), (1684, aPs (qIc .eq 5)), (1689, aPs (qLd 5 2 isI)), (1691, aPs (qIf .ne 15)), (1694, aPs (qLd 3 1 isRN)), (1695, aPs (qC 0)), (1696, aSt 1 (pald k2)), (1697, aPs (qLd 6 2 isI)), (1699, aPs (fun ev pc als ast => ps1 ev.1 ev.2.1 7 (.i2l) pc als ast)), (1700, aPs (fun ev pc als ast => ps1 ev.1 ev.2.1 7 (.lcmp) pc als ast)), (1701, aPs (qIf .eq 5)), (1706, aPs (qGo 556)), (1709, aPs (qLd 1 1 isRN)), (1710, aPs (qLd 3 1 isRN)), (1711, aCall 0 3 141 0 2 mh_L_law), (1714, aPs (qSt 7 5 2 isI)), (1716, aPs (qLd 2 1 isRN)), (1717, aCall 1 3 100 18 1 mh_L_law), (1720, aPs (qSt 7 6 2 isI)), (1722, aPs (qLd 2 1 isRN)), (1723, aCall 1 3 22 18 1 mh_L_law), (1726, aPs (qLd 5 2 isI)), (1728, aPs (qIc .eq 5)), (1733, aPs (qLd 5 2 isI)), (1735, aPs (qIf .ne 15)), (1750, aPs (qGo 512)), (1753, aPs (qLd 1 1 isRN)), (1754, aPs (qLd 0 1 isRN)), (1755, aPs (qLd 4 2 isI)), (1757, aPs (qC 1)), (1758, aPs qAdd), (1759, aIald), (1760, aPs (qIf .eq 7)), (1763, aPs (qC 1)), (1764, aPs (qGo 4)), (1767, aPs (qC 0)), (1768, aPs (qLd 3 1 isRN)), (1769, aCall 0 3 72 0 3 mh_L_law)]
def tl_L_law_17 : List (Nat × IE) := [(1678, (.aload_n 2, 0, 0, 0, [])), (1679, (.invokevirtual 136, 22, 18, 0, [])), (1682, (.iload 5, 0, 0, 0, [])), (1684, (.if_icmp .eq 5, 0, 0, 0, [])), (1689, (.iload 5, 0, 0, 0, [])), (1691, (.ifCond .ne 15, 0, 0, 0, [])), (1694, (.aload_n 3, 0, 0, 0, [])), (1695, (.iconst 0, 0, 0, 0, [])), (1696, (.laload, 0, 0, 0, [])), (1697, (.iload 6, 0, 0, 0, [])), (1699, (.i2l, 0, 0, 0, [])), (1700, (.lcmp, 0, 0, 0, [])), (1701, (.ifCond .eq 5, 0, 0, 0, [])), (1706, (.goto 556, 0, 0, 0, [])), (1709, (.aload_n 1, 0, 0, 0, [])), (1710, (.aload_n 3, 0, 0, 0, [])), (1711, (.invokestatic 229, 141, 0, 0, [])), (1714, (.istore 5, 0, 0, 0, [])), (1716, (.aload_n 2, 0, 0, 0, [])), (1717, (.invokevirtual 231, 100, 18, 0, [])), (1720, (.istore 6, 0, 0, 0, [])), (1722, (.aload_n 2, 0, 0, 0, [])), (1723, (.invokevirtual 136, 22, 18, 0, [])), (1726, (.iload 5, 0, 0, 0, [])), (1728, (.if_icmp .eq 5, 0, 0, 0, [])), (1733, (.iload 5, 0, 0, 0, [])), (1735, (.ifCond .ne 15, 0, 0, 0, [])), (1750, (.goto 512, 0, 0, 0, [])), (1753, (.aload_n 1, 0, 0, 0, [])), (1754, (.aload_n 0, 0, 0, 0, [])), (1755, (.iload 4, 0, 0, 0, [])), (1757, (.iconst 1, 0, 0, 0, [])), (1758, (.iadd, 0, 0, 0, [])), (1759, (.iaload, 0, 0, 0, [])), (1760, (.ifCond .eq 7, 0, 0, 0, [])), (1763, (.iconst 1, 0, 0, 0, [])), (1764, (.goto 4, 0, 0, 0, [])), (1767, (.iconst 0, 0, 0, 0, [])), (1768, (.aload_n 3, 0, 0, 0, [])), (1769, (.invokestatic 232, 72, 0, 0, []))]
def tf_L_law_18 : List (Nat × Step) := [(1772, aPs (qSt 7 5 2 isI)), (1774, aPs (qLd 2 1 isRN)), (1775, aPs (qLd 0 1 isRN)), (1776, aPs (qLd 4 2 isI)), (1778, aPs (qC 1)), (1779, aPs qAdd), (1780, aIald), (1781, aPs (qIf .eq 7)), (1784, aPs (qC 1)), (1785, aPs (qGo 4)), (1788, aPs (qC 0)), (1789, aCall 1 3 48 18 2 mh_L_law), (1792, aPs (qSt 7 6 2 isI)), (1794, aPs (qLd 2 1 isRN)), (1795, aCall 1 3 22 18 1 mh_L_law), (1798, aPs (qLd 5 2 isI)), (1800, aPs (qIc .eq 5)), (1805, aPs (qLd 5 2 isI)), (1807, aPs (qIf .ne 15)), (1822, aPs (qGo 440)), (1825, aPs (qLd 1 1 isRN)), (1826, aPs (qLd 3 1 isRN)), (1827, aCall 0 3 142 0 2 mh_L_law), (1830, aPs (qSt 7 5 2 isI)), (1832, aPs (qLd 2 1 isRN)), (1833, aCall 1 3 91 18 1 mh_L_law), (1836, aPs (qSt 7 6 2 isI)), (1838, aPs (qLd 2 1 isRN)), (1839, aCall 1 3 22 18 1 mh_L_law), (1842, aPs (qLd 5 2 isI)), (1844, aPs (qIc .eq 5)), (1849, aPs (qLd 5 2 isI)), (1851, aPs (qIf .ne 15)), (1866, aPs (qGo 396)), (1869, aPs (qLd 1 1 isRN)), (1870, aPs (qLd 3 1 isRN)), (1871, aCall 0 3 143 0 2 mh_L_law), (1874, aPs (qSt 7 5 2 isI)), (1876, aPs (qLd 2 1 isRN)), (1877, aCall 1 3 104 18 1 mh_L_law)]
def tl_L_law_18 : List (Nat × IE) := [(1772, (.istore 5, 0, 0, 0, [])), (1774, (.aload_n 2, 0, 0, 0, [])), (1775, (.aload_n 0, 0, 0, 0, [])), (1776, (.iload 4, 0, 0, 0, [])), (1778, (.iconst 1, 0, 0, 0, [])), (1779, (.iadd, 0, 0, 0, [])), (1780, (.iaload, 0, 0, 0, [])), (1781, (.ifCond .eq 7, 0, 0, 0, [])), (1784, (.iconst 1, 0, 0, 0, [])), (1785, (.goto 4, 0, 0, 0, [])), (1788, (.iconst 0, 0, 0, 0, [])), (1789, (.invokevirtual 235, 48, 18, 0, [])), (1792, (.istore 6, 0, 0, 0, [])), (1794, (.aload_n 2, 0, 0, 0, [])), (1795, (.invokevirtual 136, 22, 18, 0, [])), (1798, (.iload 5, 0, 0, 0, [])), (1800, (.if_icmp .eq 5, 0, 0, 0, [])), (1805, (.iload 5, 0, 0, 0, [])), (1807, (.ifCond .ne 15, 0, 0, 0, [])), (1822, (.goto 440, 0, 0, 0, [])), (1825, (.aload_n 1, 0, 0, 0, [])), (1826, (.aload_n 3, 0, 0, 0, [])), (1827, (.invokestatic 236, 142, 0, 0, [])), (1830, (.istore 5, 0, 0, 0, [])), (1832, (.aload_n 2, 0, 0, 0, [])), (1833, (.invokevirtual 238, 91, 18, 0, [])), (1836, (.istore 6, 0, 0, 0, [])), (1838, (.aload_n 2, 0, 0, 0, [])), (1839, (.invokevirtual 136, 22, 18, 0, [])), (1842, (.iload 5, 0, 0, 0, [])), (1844, (.if_icmp .eq 5, 0, 0, 0, [])), (1849, (.iload 5, 0, 0, 0, [])), (1851, (.ifCond .ne 15, 0, 0, 0, [])), (1866, (.goto 396, 0, 0, 0, [])), (1869, (.aload_n 1, 0, 0, 0, [])), (1870, (.aload_n 3, 0, 0, 0, [])), (1871, (.invokestatic 239, 143, 0, 0, [])), (1874, (.istore 5, 0, 0, 0, [])), (1876, (.aload_n 2, 0, 0, 0, [])), (1877, (.invokevirtual 241, 104, 18, 0, []))]
def tf_L_law_19 : List (Nat × Step) := [(1880, aPs (qSt 7 6 2 isI)), (1882, aPs (qLd 2 1 isRN)), (1883, aCall 1 3 22 18 1 mh_L_law), (1886, aPs (qLd 5 2 isI)), (1888, aPs (qIc .eq 5)), (1893, aPs (qLd 5 2 isI)), (1895, aPs (qIf .ne 15)), (1910, aPs (qGo 352)), (1913, aPs (qLd 1 1 isRN)), (1914, aCall 1 3 124 11 1 mh_L_law), (1917, aPs (qLd 2 1 isRN)), (1918, aCall 1 3 132 18 1 mh_L_law), (1921, aPs (qIc .eq 341)), (1926, aPs (qLd 1 1 isRN)), (1927, aPs (qLd 0 1 isRN)), (1928, aPs (qLd 4 2 isI)), (1930, aPs (qC 1)), (1931, aPs qAdd), (1932, aIald), (1933, aPs (qLd 3 1 isRN)), (1934, aCall 0 3 96 0 3 mh_L_law), (1937, aPs (qSt 7 5 2 isI)), (1939, aPs (qLd 2 1 isRN)), (1940, aPs (qLd 0 1 isRN)), (1941, aPs (qLd 4 2 isI)), (1943, aPs (qC 1)), (1944, aPs qAdd), (1945, aIald), (1946, aCall 1 3 55 18 2 mh_L_law), (1949, aPs (qSt 7 6 2 isI)), (1951, aPs (qLd 2 1 isRN)), (1952, aCall 1 3 22 18 1 mh_L_law), (1955, aPs (qLd 5 2 isI)), (1957, aPs (qIc .eq 5)), (1962, aPs (qLd 5 2 isI)), (1964, aPs (qIf .ne 15)), (1979, aPs (qGo 283)), (1982, aPs (qLd 1 1 isRN)), (1983, aPs (qLd 0 1 isRN)), (1984, aPs (qLd 4 2 isI))]
def tl_L_law_19 : List (Nat × IE) := [(1880, (.istore 6, 0, 0, 0, [])), (1882, (.aload_n 2, 0, 0, 0, [])), (1883, (.invokevirtual 136, 22, 18, 0, [])), (1886, (.iload 5, 0, 0, 0, [])), (1888, (.if_icmp .eq 5, 0, 0, 0, [])), (1893, (.iload 5, 0, 0, 0, [])), (1895, (.ifCond .ne 15, 0, 0, 0, [])), (1910, (.goto 352, 0, 0, 0, [])), (1913, (.aload_n 1, 0, 0, 0, [])), (1914, (.invokevirtual 242, 124, 11, 0, [])), (1917, (.aload_n 2, 0, 0, 0, [])), (1918, (.invokevirtual 245, 132, 18, 0, [])), (1921, (.if_icmp .eq 341, 0, 0, 0, [])), (1926, (.aload_n 1, 0, 0, 0, [])), (1927, (.aload_n 0, 0, 0, 0, [])), (1928, (.iload 4, 0, 0, 0, [])), (1930, (.iconst 1, 0, 0, 0, [])), (1931, (.iadd, 0, 0, 0, [])), (1932, (.iaload, 0, 0, 0, [])), (1933, (.aload_n 3, 0, 0, 0, [])), (1934, (.invokestatic 246, 96, 0, 0, [])), (1937, (.istore 5, 0, 0, 0, [])), (1939, (.aload_n 2, 0, 0, 0, [])), (1940, (.aload_n 0, 0, 0, 0, [])), (1941, (.iload 4, 0, 0, 0, [])), (1943, (.iconst 1, 0, 0, 0, [])), (1944, (.iadd, 0, 0, 0, [])), (1945, (.iaload, 0, 0, 0, [])), (1946, (.invokevirtual 248, 55, 18, 0, [])), (1949, (.istore 6, 0, 0, 0, [])), (1951, (.aload_n 2, 0, 0, 0, [])), (1952, (.invokevirtual 136, 22, 18, 0, [])), (1955, (.iload 5, 0, 0, 0, [])), (1957, (.if_icmp .eq 5, 0, 0, 0, [])), (1962, (.iload 5, 0, 0, 0, [])), (1964, (.ifCond .ne 15, 0, 0, 0, [])), (1979, (.goto 283, 0, 0, 0, [])), (1982, (.aload_n 1, 0, 0, 0, [])), (1983, (.aload_n 0, 0, 0, 0, [])), (1984, (.iload 4, 0, 0, 0, []))]
def tf_L_law_20 : List (Nat × Step) := [(1986, aPs (qC 1)), (1987, aPs qAdd), (1988, aIald), (1989, aPs (qLd 0 1 isRN)), (1990, aPs (qLd 4 2 isI)), (1992, aPs (qC 2)), (1993, aPs qAdd), (1994, aIald), (1995, aPs (qLd 0 1 isRN)), (1996, aPs (qLd 4 2 isI)), (1998, aPs (qC 3)), (1999, aPs qAdd), (2000, aIald), (2001, aPs (qLd 3 1 isRN)), (2002, aCall 0 3 79 0 5 mh_L_law), (2005, aPs (qSt 7 5 2 isI)), (2007, aPs (qLd 2 1 isRN)), (2008, aPs (qLd 0 1 isRN)), (2009, aPs (qLd 4 2 isI)), (2011, aPs (qC 1)), (2012, aPs qAdd), (2013, aIald), (2014, aPs (qLd 0 1 isRN)), (2015, aPs (qLd 4 2 isI)), (2017, aPs (qC 2)), (2018, aPs qAdd), (2019, aIald), (2020, aPs (qLd 0 1 isRN)), (2021, aPs (qLd 4 2 isI)), (2023, aPs (qC 3)), (2024, aPs qAdd), (2025, aIald), (2026, aCall 1 3 51 18 4 mh_L_law), (2029, aPs (qSt 7 6 2 isI)), (2031, aPs (qLd 2 1 isRN)), (2032, aCall 1 3 22 18 1 mh_L_law), (2035, aPs (qLd 5 2 isI)), (2037, aPs (qIc .eq 5)), (2042, aPs (qLd 5 2 isI)), (2044, aPs (qIf .ne 15))]
def tl_L_law_20 : List (Nat × IE) := [(1986, (.iconst 1, 0, 0, 0, [])), (1987, (.iadd, 0, 0, 0, [])), (1988, (.iaload, 0, 0, 0, [])), (1989, (.aload_n 0, 0, 0, 0, [])), (1990, (.iload 4, 0, 0, 0, [])), (1992, (.iconst 2, 0, 0, 0, [])), (1993, (.iadd, 0, 0, 0, [])), (1994, (.iaload, 0, 0, 0, [])), (1995, (.aload_n 0, 0, 0, 0, [])), (1996, (.iload 4, 0, 0, 0, [])), (1998, (.iconst 3, 0, 0, 0, [])), (1999, (.iadd, 0, 0, 0, [])), (2000, (.iaload, 0, 0, 0, [])), (2001, (.aload_n 3, 0, 0, 0, [])), (2002, (.invokestatic 249, 79, 0, 0, [])), (2005, (.istore 5, 0, 0, 0, [])), (2007, (.aload_n 2, 0, 0, 0, [])), (2008, (.aload_n 0, 0, 0, 0, [])), (2009, (.iload 4, 0, 0, 0, [])), (2011, (.iconst 1, 0, 0, 0, [])), (2012, (.iadd, 0, 0, 0, [])), (2013, (.iaload, 0, 0, 0, [])), (2014, (.aload_n 0, 0, 0, 0, [])), (2015, (.iload 4, 0, 0, 0, [])), (2017, (.iconst 2, 0, 0, 0, [])), (2018, (.iadd, 0, 0, 0, [])), (2019, (.iaload, 0, 0, 0, [])), (2020, (.aload_n 0, 0, 0, 0, [])), (2021, (.iload 4, 0, 0, 0, [])), (2023, (.iconst 3, 0, 0, 0, [])), (2024, (.iadd, 0, 0, 0, [])), (2025, (.iaload, 0, 0, 0, [])), (2026, (.invokevirtual 251, 51, 18, 0, [])), (2029, (.istore 6, 0, 0, 0, [])), (2031, (.aload_n 2, 0, 0, 0, [])), (2032, (.invokevirtual 136, 22, 18, 0, [])), (2035, (.iload 5, 0, 0, 0, [])), (2037, (.if_icmp .eq 5, 0, 0, 0, [])), (2042, (.iload 5, 0, 0, 0, [])), (2044, (.ifCond .ne 15, 0, 0, 0, []))]
def tf_L_law_21 : List (Nat × Step) := [(2059, aPs (qGo 203)), (2062, aPs (qLd 1 1 isRN)), (2063, aPs (qLd 0 1 isRN)), (2064, aPs (qLd 4 2 isI)), (2066, aPs (qC 1)), (2067, aPs qAdd), (2068, aIald), (2069, aPs (qLd 3 1 isRN)), (2070, aCall 0 3 97 0 3 mh_L_law), (2073, aPs (qSt 7 5 2 isI)), (2075, aPs (qLd 2 1 isRN)), (2076, aPs (qLd 0 1 isRN)), (2077, aPs (qLd 4 2 isI)), (2079, aPs (qC 1)), (2080, aPs qAdd), (2081, aIald), (2082, aCall 1 3 60 18 2 mh_L_law), (2085, aPs (qSt 7 6 2 isI)), (2087, aPs (qLd 2 1 isRN)), (2088, aCall 1 3 22 18 1 mh_L_law), (2091, aPs (qLd 5 2 isI)), (2093, aPs (qIc .eq 5)), (2098, aPs (qLd 5 2 isI)), (2100, aPs (qIf .ne 22)), (2122, aPs (qGo 140)), (2125, aPs (qLd 1 1 isRN)), (2126, aCall 1 3 47 11 1 mh_L_law), (2129, aPs (qLd 2 1 isRN)), (2130, aCall 1 3 52 18 1 mh_L_law), (2133, aPs (qIc .eq 129)), (2138, aPs (qLd 1 1 isRN)), (2139, aPs (qLd 0 1 isRN)), (2140, aPs (qLd 4 2 isI)), (2142, aPs (qC 1)), (2143, aPs qAdd), (2144, aIald), (2145, aPs (qLd 0 1 isRN)), (2146, aPs (qLd 4 2 isI)), (2148, aPs (qC 2)), (2149, aPs qAdd)]
def tl_L_law_21 : List (Nat × IE) := [(2059, (.goto 203, 0, 0, 0, [])), (2062, (.aload_n 1, 0, 0, 0, [])), (2063, (.aload_n 0, 0, 0, 0, [])), (2064, (.iload 4, 0, 0, 0, [])), (2066, (.iconst 1, 0, 0, 0, [])), (2067, (.iadd, 0, 0, 0, [])), (2068, (.iaload, 0, 0, 0, [])), (2069, (.aload_n 3, 0, 0, 0, [])), (2070, (.invokestatic 252, 97, 0, 0, [])), (2073, (.istore 5, 0, 0, 0, [])), (2075, (.aload_n 2, 0, 0, 0, [])), (2076, (.aload_n 0, 0, 0, 0, [])), (2077, (.iload 4, 0, 0, 0, [])), (2079, (.iconst 1, 0, 0, 0, [])), (2080, (.iadd, 0, 0, 0, [])), (2081, (.iaload, 0, 0, 0, [])), (2082, (.invokevirtual 254, 60, 18, 0, [])), (2085, (.istore 6, 0, 0, 0, [])), (2087, (.aload_n 2, 0, 0, 0, [])), (2088, (.invokevirtual 136, 22, 18, 0, [])), (2091, (.iload 5, 0, 0, 0, [])), (2093, (.if_icmp .eq 5, 0, 0, 0, [])), (2098, (.iload 5, 0, 0, 0, [])), (2100, (.ifCond .ne 22, 0, 0, 0, [])), (2122, (.goto 140, 0, 0, 0, [])), (2125, (.aload_n 1, 0, 0, 0, [])), (2126, (.invokevirtual 255, 47, 11, 0, [])), (2129, (.aload_n 2, 0, 0, 0, [])), (2130, (.invokevirtual 258, 52, 18, 0, [])), (2133, (.if_icmp .eq 129, 0, 0, 0, [])), (2138, (.aload_n 1, 0, 0, 0, [])), (2139, (.aload_n 0, 0, 0, 0, [])), (2140, (.iload 4, 0, 0, 0, [])), (2142, (.iconst 1, 0, 0, 0, [])), (2143, (.iadd, 0, 0, 0, [])), (2144, (.iaload, 0, 0, 0, [])), (2145, (.aload_n 0, 0, 0, 0, [])), (2146, (.iload 4, 0, 0, 0, [])), (2148, (.iconst 2, 0, 0, 0, [])), (2149, (.iadd, 0, 0, 0, []))]
def tf_L_law_22 : List (Nat × Step) := [(2150, aIald), (2151, aPs (qLd 3 1 isRN)), (2152, aCall 0 3 90 0 4 mh_L_law), (2155, aPs (qSt 7 5 2 isI)), (2157, aPs (qLd 2 1 isRN)), (2158, aPs (qLd 0 1 isRN)), (2159, aPs (qLd 4 2 isI)), (2161, aPs (qC 1)), (2162, aPs qAdd), (2163, aIald), (2164, aPs (qLd 0 1 isRN)), (2165, aPs (qLd 4 2 isI)), (2167, aPs (qC 2)), (2168, aPs qAdd), (2169, aIald), (2170, aCall 1 3 53 18 3 mh_L_law), (2173, aPs (qSt 7 6 2 isI)), (2175, aPs (qLd 2 1 isRN)), (2176, aCall 1 3 22 18 1 mh_L_law), (2179, aPs (qLd 5 2 isI)), (2181, aPs (qIc .eq 5)), (2186, aPs (qLd 5 2 isI)), (2188, aPs (qIf .ne 15)), (2203, aPs (qGo 59)), (2206, aPs (qLd 1 1 isRN)), (2207, aPs (qLd 0 1 isRN)), (2208, aPs (qLd 4 2 isI)), (2210, aPs (qC 1)), (2211, aPs qAdd), (2212, aIald), (2213, aPs (qLd 3 1 isRN)), (2214, aCall 0 3 98 0 3 mh_L_law), (2217, aPs (qSt 7 5 2 isI)), (2219, aPs (qLd 2 1 isRN)), (2220, aPs (qLd 0 1 isRN)), (2221, aPs (qLd 4 2 isI)), (2223, aPs (qC 1)), (2224, aPs qAdd), (2225, aIald), (2226, aCall 1 3 59 18 2 mh_L_law)]
def tl_L_law_22 : List (Nat × IE) := [(2150, (.iaload, 0, 0, 0, [])), (2151, (.aload_n 3, 0, 0, 0, [])), (2152, (.invokestatic 259, 90, 0, 0, [])), (2155, (.istore 5, 0, 0, 0, [])), (2157, (.aload_n 2, 0, 0, 0, [])), (2158, (.aload_n 0, 0, 0, 0, [])), (2159, (.iload 4, 0, 0, 0, [])), (2161, (.iconst 1, 0, 0, 0, [])), (2162, (.iadd, 0, 0, 0, [])), (2163, (.iaload, 0, 0, 0, [])), (2164, (.aload_n 0, 0, 0, 0, [])), (2165, (.iload 4, 0, 0, 0, [])), (2167, (.iconst 2, 0, 0, 0, [])), (2168, (.iadd, 0, 0, 0, [])), (2169, (.iaload, 0, 0, 0, [])), (2170, (.invokevirtual 261, 53, 18, 0, [])), (2173, (.istore 6, 0, 0, 0, [])), (2175, (.aload_n 2, 0, 0, 0, [])), (2176, (.invokevirtual 136, 22, 18, 0, [])), (2179, (.iload 5, 0, 0, 0, [])), (2181, (.if_icmp .eq 5, 0, 0, 0, [])), (2186, (.iload 5, 0, 0, 0, [])), (2188, (.ifCond .ne 15, 0, 0, 0, [])), (2203, (.goto 59, 0, 0, 0, [])), (2206, (.aload_n 1, 0, 0, 0, [])), (2207, (.aload_n 0, 0, 0, 0, [])), (2208, (.iload 4, 0, 0, 0, [])), (2210, (.iconst 1, 0, 0, 0, [])), (2211, (.iadd, 0, 0, 0, [])), (2212, (.iaload, 0, 0, 0, [])), (2213, (.aload_n 3, 0, 0, 0, [])), (2214, (.invokestatic 262, 98, 0, 0, [])), (2217, (.istore 5, 0, 0, 0, [])), (2219, (.aload_n 2, 0, 0, 0, [])), (2220, (.aload_n 0, 0, 0, 0, [])), (2221, (.iload 4, 0, 0, 0, [])), (2223, (.iconst 1, 0, 0, 0, [])), (2224, (.iadd, 0, 0, 0, [])), (2225, (.iaload, 0, 0, 0, [])), (2226, (.invokevirtual 264, 59, 18, 0, []))]
def tf_L_law_23 : List (Nat × Step) := [(2229, aPs (qSt 7 6 2 isI)), (2231, aPs (qLd 2 1 isRN)), (2232, aCall 1 3 22 18 1 mh_L_law), (2235, aPs (qLd 5 2 isI)), (2237, aPs (qIc .eq 5)), (2242, aPs (qLd 5 2 isI)), (2244, aPs (qIf .ne 15)), (2259, aPs (qGo 3)), (2262, aPs (qInc 7 4 6)), (2265, aPs (qGo (-2242))), (2268, aPs (qC 1)), (2269, aRet (some .boolean))]
def tl_L_law_23 : List (Nat × IE) := [(2229, (.istore 6, 0, 0, 0, [])), (2231, (.aload_n 2, 0, 0, 0, [])), (2232, (.invokevirtual 136, 22, 18, 0, [])), (2235, (.iload 5, 0, 0, 0, [])), (2237, (.if_icmp .eq 5, 0, 0, 0, [])), (2242, (.iload 5, 0, 0, 0, [])), (2244, (.ifCond .ne 15, 0, 0, 0, [])), (2259, (.goto 3, 0, 0, 0, [])), (2262, (.iinc 4 6, 0, 0, 0, [])), (2265, (.goto (-2242), 0, 0, 0, [])), (2268, (.iconst 1, 0, 0, 0, [])), (2269, (.ireturn, 0, 0, 0, []))]
def tf_L_law : List (Nat × Step) := tf_L_law_0 ++ (tf_L_law_1 ++ (tf_L_law_2 ++ (tf_L_law_3 ++ (tf_L_law_4 ++ (tf_L_law_5 ++ (tf_L_law_6 ++ (tf_L_law_7 ++ (tf_L_law_8 ++ (tf_L_law_9 ++ (tf_L_law_10 ++ (tf_L_law_11 ++ (tf_L_law_12 ++ (tf_L_law_13 ++ (tf_L_law_14 ++ (tf_L_law_15 ++ (tf_L_law_16 ++ (tf_L_law_17 ++ (tf_L_law_18 ++ (tf_L_law_19 ++ (tf_L_law_20 ++ (tf_L_law_21 ++ (tf_L_law_22 ++ (tf_L_law_23)))))))))))))))))))))))
def tl_L_law : List (Nat × IE) := tl_L_law_0 ++ (tl_L_law_1 ++ (tl_L_law_2 ++ (tl_L_law_3 ++ (tl_L_law_4 ++ (tl_L_law_5 ++ (tl_L_law_6 ++ (tl_L_law_7 ++ (tl_L_law_8 ++ (tl_L_law_9 ++ (tl_L_law_10 ++ (tl_L_law_11 ++ (tl_L_law_12 ++ (tl_L_law_13 ++ (tl_L_law_14 ++ (tl_L_law_15 ++ (tl_L_law_16 ++ (tl_L_law_17 ++ (tl_L_law_18 ++ (tl_L_law_19 ++ (tl_L_law_20 ++ (tl_L_law_21 ++ (tl_L_law_22 ++ (tl_L_law_23)))))))))))))))))))))))
def mh_X17_init : List (Nat × Nat × Nat × Nat × Nat) := []
def md_X17_init : MD := (yX17_init, cX17_init, 2, none, 1, RX17, true, mh_X17_init)
def tf_X17_init_0 : List (Nat × Step) := [(0, aPs (qLd 0 1 isRN)), (1, aObj), (4, aPs (qLd 0 1 isRN)), (5, aPs (qB 64)), (7, aMka 2 1), (9, aWr 3 ref2 (ppf 18 2 2)), (12, aPs (qLd 0 1 isRN)), (13, aPs (qB 10)), (15, aMka 2 0), (17, aWr 3 ref2 (ppf 18 3 2)), (20, aPs (qLd 0 1 isRN)), (21, aPs (qB 16)), (23, aMka 2 0), (25, aWr 3 ref2 (ppf 18 5 2)), (28, aPs (qLd 0 1 isRN)), (29, aPs (qB 16)), (31, aMka 2 0), (33, aWr 3 ref2 (ppf 18 6 2)), (36, aPs (qLd 0 1 isRN)), (37, aPs (qB 16)), (39, aMka 2 0), (41, aWr 3 ref2 (ppf 18 7 2)), (44, aPs (qLd 0 1 isRN)), (45, aPs (qB 16)), (47, aMka 2 0), (49, aWr 3 ref2 (ppf 18 8 2)), (52, aPs (qLd 0 1 isRN)), (53, aPs (qB 48)), (55, aMka 2 0), (57, aWr 3 ref2 (ppf 18 9 2)), (60, aPs (qLd 0 1 isRN)), (61, aPs (qS 144)), (64, aMka 2 0), (66, aWr 3 ref2 (ppf 18 10 2)), (69, aPs (qLd 0 1 isRN)), (70, aPs (qB 64)), (72, aMka 2 0), (74, aWr 3 ref2 (ppf 18 11 2)), (77, aPs (qLd 0 1 isRN)), (78, aPs (qB 16))]
def tl_X17_init_0 : List (Nat × IE) := [(0, (.aload_n 0, 0, 0, 0, [])), (1, (.invokespecial 1, 1000, 0, 0, [])), (4, (.aload_n 0, 0, 0, 0, [])), (5, (.bipush 64, 0, 0, 0, [])), (7, (.newarray .boolean, 1, 0, 0, [])), (9, (.putfield 7, 18, 2, 2, [])), (12, (.aload_n 0, 0, 0, 0, [])), (13, (.bipush 10, 0, 0, 0, [])), (15, (.newarray .int, 0, 0, 0, [])), (17, (.putfield 13, 18, 3, 2, [])), (20, (.aload_n 0, 0, 0, 0, [])), (21, (.bipush 16, 0, 0, 0, [])), (23, (.newarray .int, 0, 0, 0, [])), (25, (.putfield 17, 18, 5, 2, [])), (28, (.aload_n 0, 0, 0, 0, [])), (29, (.bipush 16, 0, 0, 0, [])), (31, (.newarray .int, 0, 0, 0, [])), (33, (.putfield 20, 18, 6, 2, [])), (36, (.aload_n 0, 0, 0, 0, [])), (37, (.bipush 16, 0, 0, 0, [])), (39, (.newarray .int, 0, 0, 0, [])), (41, (.putfield 23, 18, 7, 2, [])), (44, (.aload_n 0, 0, 0, 0, [])), (45, (.bipush 16, 0, 0, 0, [])), (47, (.newarray .int, 0, 0, 0, [])), (49, (.putfield 26, 18, 8, 2, [])), (52, (.aload_n 0, 0, 0, 0, [])), (53, (.bipush 48, 0, 0, 0, [])), (55, (.newarray .int, 0, 0, 0, [])), (57, (.putfield 29, 18, 9, 2, [])), (60, (.aload_n 0, 0, 0, 0, [])), (61, (.sipush 144, 0, 0, 0, [])), (64, (.newarray .int, 0, 0, 0, [])), (66, (.putfield 32, 18, 10, 2, [])), (69, (.aload_n 0, 0, 0, 0, [])), (70, (.bipush 64, 0, 0, 0, [])), (72, (.newarray .int, 0, 0, 0, [])), (74, (.putfield 35, 18, 11, 2, [])), (77, (.aload_n 0, 0, 0, 0, [])), (78, (.bipush 16, 0, 0, 0, []))]
def tf_X17_init_1 : List (Nat × Step) := [(80, aMka 2 0), (82, aWr 3 ref2 (ppf 18 12 2)), (85, aPs (qLd 0 1 isRN)), (86, aNew 0 [0, 2, 0]), (89, aPs qDup), (90, aCall 2 3 11 0 1 mh_X17_init), (93, aWr 3 ref2 (ppf 18 13 2)), (96, aPs (qLd 0 1 isRN)), (97, aPs (qB 20)), (99, aMka 3 3), (102, aWr 3 ref2 (ppf 18 14 2)), (105, aPs (qLd 0 1 isRN)), (106, aNew 0 [0, 2, 0]), (109, aPs qDup), (110, aCall 2 3 11 0 1 mh_X17_init), (113, aWr 3 ref2 (ppf 18 15 2)), (116, aPs (qLd 0 1 isRN)), (117, aNew 0 [0, 2, 0]), (120, aPs qDup), (121, aCall 2 3 11 0 1 mh_X17_init), (124, aWr 3 ref2 (ppf 18 16 2)), (127, aPs (qLd 0 1 isRN)), (128, aNew 0 [0, 2, 0]), (131, aPs qDup), (132, aCall 2 3 11 0 1 mh_X17_init), (135, aWr 3 ref2 (ppf 18 17 2)), (138, aPs (qLd 0 1 isRN)), (139, aNew 0 [0, 2, 0]), (142, aPs qDup), (143, aCall 2 3 11 0 1 mh_X17_init), (146, aWr 3 ref2 (ppf 18 20 2)), (149, aPs (qLd 0 1 isRN)), (150, aPs (qB 24)), (152, aMka 2 0), (154, aWr 3 ref2 (ppf 18 21 2)), (157, aPs (qLd 0 1 isRN)), (158, aPs (qS 576)), (161, aMka 2 1), (163, aWr 3 ref2 (ppf 18 22 2)), (166, aPs (qLd 0 1 isRN))]
def tl_X17_init_1 : List (Nat × IE) := [(80, (.newarray .int, 0, 0, 0, [])), (82, (.putfield 38, 18, 12, 2, [])), (85, (.aload_n 0, 0, 0, 0, [])), (86, (.new 41, 0, 0, 0, [0, 2, 0])), (89, (.dup, 0, 0, 0, [])), (90, (.invokespecial 43, 11, 0, 0, [])), (93, (.putfield 44, 18, 13, 2, [])), (96, (.aload_n 0, 0, 0, 0, [])), (97, (.bipush 20, 0, 0, 0, [])), (99, (.anewarray 48, 0, 0, 0, [])), (102, (.putfield 50, 18, 14, 2, [])), (105, (.aload_n 0, 0, 0, 0, [])), (106, (.new 41, 0, 0, 0, [0, 2, 0])), (109, (.dup, 0, 0, 0, [])), (110, (.invokespecial 43, 11, 0, 0, [])), (113, (.putfield 54, 18, 15, 2, [])), (116, (.aload_n 0, 0, 0, 0, [])), (117, (.new 41, 0, 0, 0, [0, 2, 0])), (120, (.dup, 0, 0, 0, [])), (121, (.invokespecial 43, 11, 0, 0, [])), (124, (.putfield 57, 18, 16, 2, [])), (127, (.aload_n 0, 0, 0, 0, [])), (128, (.new 41, 0, 0, 0, [0, 2, 0])), (131, (.dup, 0, 0, 0, [])), (132, (.invokespecial 43, 11, 0, 0, [])), (135, (.putfield 60, 18, 17, 2, [])), (138, (.aload_n 0, 0, 0, 0, [])), (139, (.new 41, 0, 0, 0, [0, 2, 0])), (142, (.dup, 0, 0, 0, [])), (143, (.invokespecial 43, 11, 0, 0, [])), (146, (.putfield 63, 18, 20, 2, [])), (149, (.aload_n 0, 0, 0, 0, [])), (150, (.bipush 24, 0, 0, 0, [])), (152, (.newarray .int, 0, 0, 0, [])), (154, (.putfield 66, 18, 21, 2, [])), (157, (.aload_n 0, 0, 0, 0, [])), (158, (.sipush 576, 0, 0, 0, [])), (161, (.newarray .boolean, 1, 0, 0, [])), (163, (.putfield 69, 18, 22, 2, [])), (166, (.aload_n 0, 0, 0, 0, []))]
def tf_X17_init_2 : List (Nat × Step) := [(167, aPs (qC 0)), (168, aMka 3 3), (171, aWr 3 ref2 (ppf 18 28 2)), (174, aPs (qLd 0 1 isRN)), (175, aPs (qB 20)), (177, aMka 3 3), (180, aWr 3 ref2 (ppf 18 29 2)), (183, aPs (qLd 0 1 isRN)), (184, aPs (qB 20)), (186, aMka 3 3), (189, aWr 3 ref2 (ppf 18 30 2)), (192, aPs (qLd 0 1 isRN)), (193, aPs (qB 16)), (195, aMka 3 3), (198, aWr 3 ref2 (ppf 18 31 2)), (201, aPs (qLd 0 1 isRN)), (202, aPs (qB 32)), (204, aMka 3 3), (207, aWr 3 ref2 (ppf 18 32 2)), (210, aPs (qLd 0 1 isRN)), (211, aPs (qB 32)), (213, aMka 3 3), (216, aWr 3 ref2 (ppf 18 33 2)), (219, aPs (qLd 0 1 isRN)), (220, aPs (qB 32)), (222, aMka 2 0), (224, aWr 3 ref2 (ppf 18 34 2)), (227, aPs (qLd 0 1 isRN)), (228, aPs (qB 32)), (230, aMka 2 0), (232, aWr 3 ref2 (ppf 18 35 2)), (235, aPs (qLd 0 1 isRN)), (236, aPs (qB 10)), (238, aMka 3 3), (241, aWr 3 ref2 (ppf 18 36 2)), (244, aPs (qLd 0 1 isRN)), (245, aPs (qB 10)), (247, aMka 2 0), (249, aWr 3 ref2 (ppf 18 37 2)), (252, aPs (qLd 0 1 isRN))]
def tl_X17_init_2 : List (Nat × IE) := [(167, (.iconst 0, 0, 0, 0, [])), (168, (.anewarray 48, 0, 0, 0, [])), (171, (.putfield 72, 18, 28, 2, [])), (174, (.aload_n 0, 0, 0, 0, [])), (175, (.bipush 20, 0, 0, 0, [])), (177, (.anewarray 48, 0, 0, 0, [])), (180, (.putfield 75, 18, 29, 2, [])), (183, (.aload_n 0, 0, 0, 0, [])), (184, (.bipush 20, 0, 0, 0, [])), (186, (.anewarray 48, 0, 0, 0, [])), (189, (.putfield 78, 18, 30, 2, [])), (192, (.aload_n 0, 0, 0, 0, [])), (193, (.bipush 16, 0, 0, 0, [])), (195, (.anewarray 48, 0, 0, 0, [])), (198, (.putfield 81, 18, 31, 2, [])), (201, (.aload_n 0, 0, 0, 0, [])), (202, (.bipush 32, 0, 0, 0, [])), (204, (.anewarray 48, 0, 0, 0, [])), (207, (.putfield 84, 18, 32, 2, [])), (210, (.aload_n 0, 0, 0, 0, [])), (211, (.bipush 32, 0, 0, 0, [])), (213, (.anewarray 48, 0, 0, 0, [])), (216, (.putfield 87, 18, 33, 2, [])), (219, (.aload_n 0, 0, 0, 0, [])), (220, (.bipush 32, 0, 0, 0, [])), (222, (.newarray .int, 0, 0, 0, [])), (224, (.putfield 90, 18, 34, 2, [])), (227, (.aload_n 0, 0, 0, 0, [])), (228, (.bipush 32, 0, 0, 0, [])), (230, (.newarray .int, 0, 0, 0, [])), (232, (.putfield 93, 18, 35, 2, [])), (235, (.aload_n 0, 0, 0, 0, [])), (236, (.bipush 10, 0, 0, 0, [])), (238, (.anewarray 48, 0, 0, 0, [])), (241, (.putfield 96, 18, 36, 2, [])), (244, (.aload_n 0, 0, 0, 0, [])), (245, (.bipush 10, 0, 0, 0, [])), (247, (.newarray .int, 0, 0, 0, [])), (249, (.putfield 99, 18, 37, 2, [])), (252, (.aload_n 0, 0, 0, 0, []))]
def tf_X17_init_3 : List (Nat × Step) := [(253, aPs (qB 96)), (255, aMka 3 3), (258, aWr 3 ref2 (ppf 18 41 2)), (261, aPs (qLd 0 1 isRN)), (262, aNew 0 [0, 2, 0]), (265, aPs qDup), (266, aCall 2 3 11 0 1 mh_X17_init), (269, aWr 3 ref2 (ppf 18 42 2)), (272, aPs (qLd 0 1 isRN)), (273, aPs (qB 20)), (275, aMka 3 3), (278, aWr 3 ref2 (ppf 18 44 2)), (281, aPs (qC 0)), (282, aPs (qSt 2 1 1 isI)), (283, aPs (qLd 1 1 isI)), (284, aPs (qB 16)), (286, aPs (qIc .ge 16)), (289, aPs (qLd 0 1 isRN)), (290, aSt 3 (pgf 18 7)), (293, aPs (qLd 1 1 isI)), (294, aPs (qC (-1))), (295, aWr 1 ref3 (past s0)), (296, aPs (qInc 2 1 1)), (299, aPs (qGo (-16))), (302, aPs (qC 0)), (303, aPs (qSt 2 1 1 isI)), (304, aPs (qLd 1 1 isI)), (305, aPs (qB 20)), (307, aPs (qIc .ge 27)), (310, aPs (qLd 0 1 isRN)), (311, aSt 3 (pgf 18 29)), (314, aPs (qLd 1 1 isI)), (315, aNew 17 [0, 0, 2, 0, 0, 2]), (318, aPs qDup), (319, aPs (qLd 1 1 isI)), (320, aPs (qLd 0 1 isRN)), (321, aSt 3 (pgf 18 28)), (324, aCall 2 3 3 17 3 mh_X17_init), (327, aWr 1 ref3 (fun ah => past (aok ah) ah)), (328, aPs (qInc 2 1 1))]
def tl_X17_init_3 : List (Nat × IE) := [(253, (.bipush 96, 0, 0, 0, [])), (255, (.anewarray 48, 0, 0, 0, [])), (258, (.putfield 102, 18, 41, 2, [])), (261, (.aload_n 0, 0, 0, 0, [])), (262, (.new 41, 0, 0, 0, [0, 2, 0])), (265, (.dup, 0, 0, 0, [])), (266, (.invokespecial 43, 11, 0, 0, [])), (269, (.putfield 105, 18, 42, 2, [])), (272, (.aload_n 0, 0, 0, 0, [])), (273, (.bipush 20, 0, 0, 0, [])), (275, (.anewarray 48, 0, 0, 0, [])), (278, (.putfield 108, 18, 44, 2, [])), (281, (.iconst 0, 0, 0, 0, [])), (282, (.istore_n 1, 0, 0, 0, [])), (283, (.iload_n 1, 0, 0, 0, [])), (284, (.bipush 16, 0, 0, 0, [])), (286, (.if_icmp .ge 16, 0, 0, 0, [])), (289, (.aload_n 0, 0, 0, 0, [])), (290, (.getfield 23, 18, 7, 2, [])), (293, (.iload_n 1, 0, 0, 0, [])), (294, (.iconst (-1), 0, 0, 0, [])), (295, (.iastore, 0, 0, 0, [])), (296, (.iinc 1 1, 0, 0, 0, [])), (299, (.goto (-16), 0, 0, 0, [])), (302, (.iconst 0, 0, 0, 0, [])), (303, (.istore_n 1, 0, 0, 0, [])), (304, (.iload_n 1, 0, 0, 0, [])), (305, (.bipush 20, 0, 0, 0, [])), (307, (.if_icmp .ge 27, 0, 0, 0, [])), (310, (.aload_n 0, 0, 0, 0, [])), (311, (.getfield 75, 18, 29, 2, [])), (314, (.iload_n 1, 0, 0, 0, [])), (315, (.new 48, 17, 0, 0, [0, 0, 2, 0, 0, 2])), (318, (.dup, 0, 0, 0, [])), (319, (.iload_n 1, 0, 0, 0, [])), (320, (.aload_n 0, 0, 0, 0, [])), (321, (.getfield 72, 18, 28, 2, [])), (324, (.invokespecial 111, 3, 17, 0, [])), (327, (.aastore, 0, 0, 0, [])), (328, (.iinc 1 1, 0, 0, 0, []))]
def tf_X17_init_4 : List (Nat × Step) := [(331, aPs (qGo (-27))), (334, aPs (qC 0)), (335, aPs (qSt 2 1 1 isI)), (336, aPs (qLd 1 1 isI)), (337, aPs (qB 10)), (339, aPs (qIc .ge 24)), (342, aPs (qLd 0 1 isRN)), (343, aSt 3 (pgf 18 30)), (346, aPs (qLd 1 1 isI)), (347, aPs (qLd 0 1 isRN)), (348, aSt 3 (pgf 18 29)), (351, aPs (qB 10)), (353, aPs (qLd 1 1 isI)), (354, aPs qAdd), (355, aSt 1 (pald k3)), (356, aWr 1 ref3 (fun ah => past (aok ah) ah)), (357, aPs (qInc 2 1 1)), (360, aPs (qGo (-24))), (363, aVoid)]
def tl_X17_init_4 : List (Nat × IE) := [(331, (.goto (-27), 0, 0, 0, [])), (334, (.iconst 0, 0, 0, 0, [])), (335, (.istore_n 1, 0, 0, 0, [])), (336, (.iload_n 1, 0, 0, 0, [])), (337, (.bipush 10, 0, 0, 0, [])), (339, (.if_icmp .ge 24, 0, 0, 0, [])), (342, (.aload_n 0, 0, 0, 0, [])), (343, (.getfield 78, 18, 30, 2, [])), (346, (.iload_n 1, 0, 0, 0, [])), (347, (.aload_n 0, 0, 0, 0, [])), (348, (.getfield 75, 18, 29, 2, [])), (351, (.bipush 10, 0, 0, 0, [])), (353, (.iload_n 1, 0, 0, 0, [])), (354, (.iadd, 0, 0, 0, [])), (355, (.aaload, 0, 0, 0, [])), (356, (.aastore, 0, 0, 0, [])), (357, (.iinc 1 1, 0, 0, 0, [])), (360, (.goto (-24), 0, 0, 0, [])), (363, (.return_, 0, 0, 0, []))]
def tf_X17_init : List (Nat × Step) := tf_X17_init_0 ++ (tf_X17_init_1 ++ (tf_X17_init_2 ++ (tf_X17_init_3 ++ (tf_X17_init_4))))
def tl_X17_init : List (Nat × IE) := tl_X17_init_0 ++ (tl_X17_init_1 ++ (tl_X17_init_2 ++ (tl_X17_init_3 ++ (tl_X17_init_4))))
def mh_J7_fill_53178 : List (Nat × Nat × Nat × Nat × Nat) := []
def md_J7_fill_53178 : MD := (yJ7_fill_53178, cJ7_fill_53178, 4, none, 2, RJ7, false, mh_J7_fill_53178)
def tf_J7_fill_53178 : List (Nat × Step) := [(0, aPs (qC 0)), (1, aPs (qSt 4 2 1 isI)), (2, aPs (qLd 0 1 isRN)), (3, aAlen), (4, aPs (qSt 4 3 1 isI)), (5, aPs (qLd 2 1 isI)), (6, aPs (qLd 3 1 isI)), (7, aPs (qIc .ge 13)), (10, aPs (qLd 0 1 isRN)), (11, aPs (qLd 2 1 isI)), (12, aPs (qLd 1 1 isI)), (13, aWr 1 ref3 (past s0)), (14, aPs (qInc 4 2 1)), (17, aPs (qGo (-12))), (20, aVoid)]
def tl_J7_fill_53178 : List (Nat × IE) := [(0, (.iconst 0, 0, 0, 0, [])), (1, (.istore_n 2, 0, 0, 0, [])), (2, (.aload_n 0, 0, 0, 0, [])), (3, (.arraylength, 0, 0, 0, [])), (4, (.istore_n 3, 0, 0, 0, [])), (5, (.iload_n 2, 0, 0, 0, [])), (6, (.iload_n 3, 0, 0, 0, [])), (7, (.if_icmp .ge 13, 0, 0, 0, [])), (10, (.aload_n 0, 0, 0, 0, [])), (11, (.iload_n 2, 0, 0, 0, [])), (12, (.iload_n 1, 0, 0, 0, [])), (13, (.iastore, 0, 0, 0, [])), (14, (.iinc 2 1, 0, 0, 0, [])), (17, (.goto (-12), 0, 0, 0, [])), (20, (.return_, 0, 0, 0, []))]
def mh_X16_init : List (Nat × Nat × Nat × Nat × Nat) := []
def md_X16_init : MD := (yX16_init, cX16_init, 3, none, 3, RX16, true, mh_X16_init)
def tf_X16_init : List (Nat × Step) := [(0, aPs (qLd 0 1 isRN)), (1, aObj), (4, aPs (qLd 0 1 isRN)), (5, aPs (qC (-1))), (6, aWr 3 ref2 (ppf 17 4 0)), (9, aPs (qLd 0 1 isRN)), (10, aPs (qLd 1 1 isI)), (11, aWr 3 ref2 (ppf 17 0 0)), (14, aPs (qLd 0 1 isRN)), (15, aPs (qC (-1))), (16, aWr 3 ref2 (ppf 17 1 0)), (19, aPs (qLd 0 1 isRN)), (20, aPs (qLd 2 1 isRN)), (21, aWr 3 ref2 (ppf 17 2 2)), (24, aPs (qLd 0 1 isRN)), (25, aPs (qC 1)), (26, aWr 3 ref2 (ppf 17 3 0)), (29, aVoid)]
def tl_X16_init : List (Nat × IE) := [(0, (.aload_n 0, 0, 0, 0, [])), (1, (.invokespecial 3, 1000, 0, 0, [])), (4, (.aload_n 0, 0, 0, 0, [])), (5, (.iconst (-1), 0, 0, 0, [])), (6, (.putfield 9, 17, 4, 0, [])), (9, (.aload_n 0, 0, 0, 0, [])), (10, (.iload_n 1, 0, 0, 0, [])), (11, (.putfield 15, 17, 0, 0, [])), (14, (.aload_n 0, 0, 0, 0, [])), (15, (.iconst (-1), 0, 0, 0, [])), (16, (.putfield 18, 17, 1, 0, [])), (19, (.aload_n 0, 0, 0, 0, [])), (20, (.aload_n 2, 0, 0, 0, [])), (21, (.putfield 21, 17, 2, 2, [])), (24, (.aload_n 0, 0, 0, 0, [])), (25, (.iconst 1, 0, 0, 0, [])), (26, (.putfield 25, 17, 3, 0, [])), (29, (.return_, 0, 0, 0, []))]
def mh_X8_init : List (Nat × Nat × Nat × Nat × Nat) := []
def md_X8_init : MD := (yX8_init, cX8_init, 3, none, 2, RX8, true, mh_X8_init)
def tf_X8_init_0 : List (Nat × Step) := [(0, aPs (qLd 0 1 isRN)), (1, aObj), (4, aPs (qLd 0 1 isRN)), (5, aPs (qS 27500)), (8, aMka 2 0), (10, aWr 3 ref2 (ppf 9 1 2)), (13, aPs (qLd 0 1 isRN)), (14, aPs (qS 7500)), (17, aWr 3 ref2 (ppf 9 2 0)), (20, aPs (qLd 0 1 isRN)), (21, aPs (qS 1280)), (24, aMka 2 0), (26, aWr 3 ref2 (ppf 9 3 2)), (29, aPs (qLd 0 1 isRN)), (30, aPs (qC 5)), (31, aMka 2 0), (33, aWr 3 ref2 (ppf 9 5 2)), (36, aPs (qLd 0 1 isRN)), (37, aPs (qC 5)), (38, aMka 2 0), (40, aWr 3 ref2 (ppf 9 6 2)), (43, aPs (qLd 0 1 isRN)), (44, aPs (qB 20)), (46, aMka 2 0), (48, aWr 3 ref2 (ppf 9 7 2)), (51, aPs (qLd 0 1 isRN)), (52, aPs (qC (-1))), (53, aWr 3 ref2 (ppf 9 8 0)), (56, aPs (qLd 0 1 isRN)), (57, aPs (qC (-1))), (58, aWr 3 ref2 (ppf 9 9 0)), (61, aPs (qLd 0 1 isRN)), (62, aPs (qLd 1 1 isRN)), (63, aWr 3 ref2 (ppf 9 0 2)), (66, aPs (qC 0)), (67, aPs (qSt 3 2 1 isI)), (68, aPs (qLd 2 1 isI)), (69, aPs (qB 20)), (71, aPs (qIc .ge 16)), (74, aPs (qLd 0 1 isRN))]
def tl_X8_init_0 : List (Nat × IE) := [(0, (.aload_n 0, 0, 0, 0, [])), (1, (.invokespecial 3, 1000, 0, 0, [])), (4, (.aload_n 0, 0, 0, 0, [])), (5, (.sipush 27500, 0, 0, 0, [])), (8, (.newarray .int, 0, 0, 0, [])), (10, (.putfield 9, 9, 1, 2, [])), (13, (.aload_n 0, 0, 0, 0, [])), (14, (.sipush 7500, 0, 0, 0, [])), (17, (.putfield 15, 9, 2, 0, [])), (20, (.aload_n 0, 0, 0, 0, [])), (21, (.sipush 1280, 0, 0, 0, [])), (24, (.newarray .int, 0, 0, 0, [])), (26, (.putfield 19, 9, 3, 2, [])), (29, (.aload_n 0, 0, 0, 0, [])), (30, (.iconst 5, 0, 0, 0, [])), (31, (.newarray .int, 0, 0, 0, [])), (33, (.putfield 22, 9, 5, 2, [])), (36, (.aload_n 0, 0, 0, 0, [])), (37, (.iconst 5, 0, 0, 0, [])), (38, (.newarray .int, 0, 0, 0, [])), (40, (.putfield 25, 9, 6, 2, [])), (43, (.aload_n 0, 0, 0, 0, [])), (44, (.bipush 20, 0, 0, 0, [])), (46, (.newarray .int, 0, 0, 0, [])), (48, (.putfield 28, 9, 7, 2, [])), (51, (.aload_n 0, 0, 0, 0, [])), (52, (.iconst (-1), 0, 0, 0, [])), (53, (.putfield 31, 9, 8, 0, [])), (56, (.aload_n 0, 0, 0, 0, [])), (57, (.iconst (-1), 0, 0, 0, [])), (58, (.putfield 34, 9, 9, 0, [])), (61, (.aload_n 0, 0, 0, 0, [])), (62, (.aload_n 1, 0, 0, 0, [])), (63, (.putfield 37, 9, 0, 2, [])), (66, (.iconst 0, 0, 0, 0, [])), (67, (.istore_n 2, 0, 0, 0, [])), (68, (.iload_n 2, 0, 0, 0, [])), (69, (.bipush 20, 0, 0, 0, [])), (71, (.if_icmp .ge 16, 0, 0, 0, [])), (74, (.aload_n 0, 0, 0, 0, []))]
def tf_X8_init_1 : List (Nat × Step) := [(75, aSt 3 (pgf 9 1)), (78, aPs (qLd 2 1 isI)), (79, aPs (qLd 2 1 isI)), (80, aWr 1 ref3 (past s0)), (81, aPs (qInc 3 2 1)), (84, aPs (qGo (-16))), (87, aVoid)]
def tl_X8_init_1 : List (Nat × IE) := [(75, (.getfield 9, 9, 1, 2, [])), (78, (.iload_n 2, 0, 0, 0, [])), (79, (.iload_n 2, 0, 0, 0, [])), (80, (.iastore, 0, 0, 0, [])), (81, (.iinc 2 1, 0, 0, 0, [])), (84, (.goto (-16), 0, 0, 0, [])), (87, (.return_, 0, 0, 0, []))]
def tf_X8_init : List (Nat × Step) := tf_X8_init_0 ++ (tf_X8_init_1)
def tl_X8_init : List (Nat × IE) := tl_X8_init_0 ++ (tl_X8_init_1)
def mh_X7_init : List (Nat × Nat × Nat × Nat × Nat) := []
def md_X7_init : MD := (yX7_init, cX7_init, 2, none, 1, RX7, true, mh_X7_init)
def tf_X7_init_0 : List (Nat × Step) := [(0, aPs (qLd 0 1 isRN)), (1, aObj), (4, aPs (qLd 0 1 isRN)), (5, aPs (qB 9)), (7, aMka 2 0), (9, aWr 3 ref2 (ppf 8 2 2)), (12, aPs (qLd 0 1 isRN)), (13, aPs (qB 10)), (15, aMka 2 0), (17, aWr 3 ref2 (ppf 8 3 2)), (20, aPs (qLd 0 1 isRN)), (21, aPs (qB 16)), (23, aMka 2 0), (25, aWr 3 ref2 (ppf 8 4 2)), (28, aPs (qLd 0 1 isRN)), (29, aPs (qB 16)), (31, aMka 2 0), (33, aWr 3 ref2 (ppf 8 5 2)), (36, aPs (qLd 0 1 isRN)), (37, aPs (qB 16)), (39, aMka 2 0), (41, aWr 3 ref2 (ppf 8 6 2)), (44, aPs (qLd 0 1 isRN)), (45, aPs (qB 16)), (47, aMka 2 0), (49, aWr 3 ref2 (ppf 8 7 2)), (52, aPs (qLd 0 1 isRN)), (53, aPs (qS 192)), (56, aMka 2 0), (58, aWr 3 ref2 (ppf 8 8 2)), (61, aPs (qLd 0 1 isRN)), (62, aPs (qB 64)), (64, aMka 2 0), (66, aWr 3 ref2 (ppf 8 9 2)), (69, aPs (qLd 0 1 isRN)), (70, aPs (qB 16)), (72, aMka 2 0), (74, aWr 3 ref2 (ppf 8 10 2)), (77, aPs (qC 0)), (78, aPs (qSt 2 1 1 isI))]
def tl_X7_init_0 : List (Nat × IE) := [(0, (.aload_n 0, 0, 0, 0, [])), (1, (.invokespecial 3, 1000, 0, 0, [])), (4, (.aload_n 0, 0, 0, 0, [])), (5, (.bipush 9, 0, 0, 0, [])), (7, (.newarray .int, 0, 0, 0, [])), (9, (.putfield 9, 8, 2, 2, [])), (12, (.aload_n 0, 0, 0, 0, [])), (13, (.bipush 10, 0, 0, 0, [])), (15, (.newarray .int, 0, 0, 0, [])), (17, (.putfield 15, 8, 3, 2, [])), (20, (.aload_n 0, 0, 0, 0, [])), (21, (.bipush 16, 0, 0, 0, [])), (23, (.newarray .int, 0, 0, 0, [])), (25, (.putfield 18, 8, 4, 2, [])), (28, (.aload_n 0, 0, 0, 0, [])), (29, (.bipush 16, 0, 0, 0, [])), (31, (.newarray .int, 0, 0, 0, [])), (33, (.putfield 21, 8, 5, 2, [])), (36, (.aload_n 0, 0, 0, 0, [])), (37, (.bipush 16, 0, 0, 0, [])), (39, (.newarray .int, 0, 0, 0, [])), (41, (.putfield 24, 8, 6, 2, [])), (44, (.aload_n 0, 0, 0, 0, [])), (45, (.bipush 16, 0, 0, 0, [])), (47, (.newarray .int, 0, 0, 0, [])), (49, (.putfield 27, 8, 7, 2, [])), (52, (.aload_n 0, 0, 0, 0, [])), (53, (.sipush 192, 0, 0, 0, [])), (56, (.newarray .int, 0, 0, 0, [])), (58, (.putfield 30, 8, 8, 2, [])), (61, (.aload_n 0, 0, 0, 0, [])), (62, (.bipush 64, 0, 0, 0, [])), (64, (.newarray .int, 0, 0, 0, [])), (66, (.putfield 33, 8, 9, 2, [])), (69, (.aload_n 0, 0, 0, 0, [])), (70, (.bipush 16, 0, 0, 0, [])), (72, (.newarray .int, 0, 0, 0, [])), (74, (.putfield 36, 8, 10, 2, [])), (77, (.iconst 0, 0, 0, 0, [])), (78, (.istore_n 1, 0, 0, 0, []))]
def tf_X7_init_1 : List (Nat × Step) := [(79, aPs (qLd 1 1 isI)), (80, aPs (qB 8)), (82, aPs (qIc .ge 20)), (85, aPs (qLd 0 1 isRN)), (86, aSt 3 (pgf 8 2)), (89, aPs (qLd 1 1 isI)), (90, aPs (qC 1)), (91, aPs qAdd), (92, aPs (qC 1)), (93, aPs (qLd 1 1 isI)), (94, aPs qShl), (95, aWr 1 ref3 (past s0)), (96, aPs (qInc 2 1 1)), (99, aPs (qGo (-20))), (102, aPs (qLd 0 1 isRN)), (103, aSt 3 (pgf 8 9)), (106, aPs (qC 1)), (107, aCall 0 3 2 0 2 mh_X7_init), (110, aVoid)]
def tl_X7_init_1 : List (Nat × IE) := [(79, (.iload_n 1, 0, 0, 0, [])), (80, (.bipush 8, 0, 0, 0, [])), (82, (.if_icmp .ge 20, 0, 0, 0, [])), (85, (.aload_n 0, 0, 0, 0, [])), (86, (.getfield 9, 8, 2, 2, [])), (89, (.iload_n 1, 0, 0, 0, [])), (90, (.iconst 1, 0, 0, 0, [])), (91, (.iadd, 0, 0, 0, [])), (92, (.iconst 1, 0, 0, 0, [])), (93, (.iload_n 1, 0, 0, 0, [])), (94, (.ishl, 0, 0, 0, [])), (95, (.iastore, 0, 0, 0, [])), (96, (.iinc 1 1, 0, 0, 0, [])), (99, (.goto (-20), 0, 0, 0, [])), (102, (.aload_n 0, 0, 0, 0, [])), (103, (.getfield 33, 8, 9, 2, [])), (106, (.iconst 1, 0, 0, 0, [])), (107, (.invokestatic 39, 2, 0, 0, [])), (110, (.return_, 0, 0, 0, []))]
def tf_X7_init : List (Nat × Step) := tf_X7_init_0 ++ (tf_X7_init_1)
def tl_X7_init : List (Nat × IE) := tl_X7_init_0 ++ (tl_X7_init_1)
def mh_X10_init : List (Nat × Nat × Nat × Nat × Nat) := []
def md_X10_init : MD := (yX10_init, cX10_init, 2, none, 1, RX10, true, mh_X10_init)
def tf_X10_init_0 : List (Nat × Step) := [(0, aPs (qLd 0 1 isRN)), (1, aObj), (4, aPs (qLd 0 1 isRN)), (5, aNew 8 [0, 0, 2, 2, 2, 2, 2, 2, 2, 2, 2]), (8, aPs qDup), (9, aCall 2 3 5 8 1 mh_X10_init), (12, aWr 3 ref2 (ppf 11 0 2)), (15, aPs (qLd 0 1 isRN)), (16, aNew 9 [2, 2, 0, 2, 0, 2, 2, 2, 0, 0, 1]), (19, aPs qDup), (20, aPs (qLd 0 1 isRN)), (21, aSt 3 (pgf 11 0)), (24, aCall 2 3 4 9 2 mh_X10_init), (27, aWr 3 ref2 (ppf 11 1 2)), (30, aPs (qLd 0 1 isRN)), (31, aNew 3 [2, 2, 0, 0, 2]), (34, aPs qDup), (35, aPs (qLd 0 1 isRN)), (36, aSt 3 (pgf 11 1)), (39, aCall 2 3 18 3 2 mh_X10_init), (42, aWr 3 ref2 (ppf 11 2 2)), (45, aPs (qLd 0 1 isRN)), (46, aNew 4 [2, 2, 2, 2, 2, 0, 2, 2, 2, 2, 2, 2, 0, 0, 0, 0]), (49, aPs qDup), (50, aPs (qLd 0 1 isRN)), (51, aSt 3 (pgf 11 1)), (54, aCall 2 3 8 4 2 mh_X10_init), (57, aWr 3 ref2 (ppf 11 3 2)), (60, aPs (qLd 0 1 isRN)), (61, aNew 7 [2, 2, 2, 0, 0, 2, 2, 2, 2, 2]), (64, aPs qDup), (65, aPs (qLd 0 1 isRN)), (66, aSt 3 (pgf 11 2)), (69, aPs (qLd 0 1 isRN)), (70, aSt 3 (pgf 11 3)), (73, aCall 2 3 12 7 3 mh_X10_init), (76, aWr 3 ref2 (ppf 11 4 2)), (79, aNew 10 [2, 2, 2, 2, 0, 0, 0, 0, 0, 0, 0, 0, 0, 0, 0]), (82, aPs qDup), (83, aPs (qLd 0 1 isRN))]
def tl_X10_init_0 : List (Nat × IE) := [(0, (.aload_n 0, 0, 0, 0, [])), (1, (.invokespecial 3, 1000, 0, 0, [])), (4, (.aload_n 0, 0, 0, 0, [])), (5, (.new 9, 8, 0, 0, [0, 0, 2, 2, 2, 2, 2, 2, 2, 2, 2])), (8, (.dup, 0, 0, 0, [])), (9, (.invokespecial 11, 5, 8, 0, [])), (12, (.putfield 12, 11, 0, 2, [])), (15, (.aload_n 0, 0, 0, 0, [])), (16, (.new 16, 9, 0, 0, [2, 2, 0, 2, 0, 2, 2, 2, 0, 0, 1])), (19, (.dup, 0, 0, 0, [])), (20, (.aload_n 0, 0, 0, 0, [])), (21, (.getfield 12, 11, 0, 2, [])), (24, (.invokespecial 18, 4, 9, 0, [])), (27, (.putfield 21, 11, 1, 2, [])), (30, (.aload_n 0, 0, 0, 0, [])), (31, (.new 25, 3, 0, 0, [2, 2, 0, 0, 2])), (34, (.dup, 0, 0, 0, [])), (35, (.aload_n 0, 0, 0, 0, [])), (36, (.getfield 21, 11, 1, 2, [])), (39, (.invokespecial 27, 18, 3, 0, [])), (42, (.putfield 30, 11, 2, 2, [])), (45, (.aload_n 0, 0, 0, 0, [])), (46, (.new 34, 4, 0, 0, [2, 2, 2, 2, 2, 0, 2, 2, 2, 2, 2, 2, 0, 0, 0, 0])), (49, (.dup, 0, 0, 0, [])), (50, (.aload_n 0, 0, 0, 0, [])), (51, (.getfield 21, 11, 1, 2, [])), (54, (.invokespecial 36, 8, 4, 0, [])), (57, (.putfield 37, 11, 3, 2, [])), (60, (.aload_n 0, 0, 0, 0, [])), (61, (.new 41, 7, 0, 0, [2, 2, 2, 0, 0, 2, 2, 2, 2, 2])), (64, (.dup, 0, 0, 0, [])), (65, (.aload_n 0, 0, 0, 0, [])), (66, (.getfield 30, 11, 2, 2, [])), (69, (.aload_n 0, 0, 0, 0, [])), (70, (.getfield 37, 11, 3, 2, [])), (73, (.invokespecial 43, 12, 7, 0, [])), (76, (.putfield 46, 11, 4, 2, [])), (79, (.new 50, 10, 0, 0, [2, 2, 2, 2, 0, 0, 0, 0, 0, 0, 0, 0, 0, 0, 0])), (82, (.dup, 0, 0, 0, [])), (83, (.aload_n 0, 0, 0, 0, []))]
def tf_X10_init_1 : List (Nat × Step) := [(84, aSt 3 (pgf 11 4)), (87, aCall 2 3 15 10 2 mh_X10_init), (90, aPs (qSt 2 1 1 isRN)), (91, aPs (qLd 0 1 isRN)), (92, aNew 2 [2, 2, 0, 1, 2, 2, 2, 0, 0]), (95, aPs qDup), (96, aPs (qLd 1 1 isRN)), (97, aCall 2 3 13 2 2 mh_X10_init), (100, aWr 3 ref2 (ppf 11 5 2)), (103, aPs (qLd 0 1 isRN)), (104, aNew 6 [2, 2, 0, 0, 2, 2, 2, 0, 0]), (107, aPs qDup), (108, aPs (qLd 1 1 isRN)), (109, aCall 2 3 14 6 2 mh_X10_init), (112, aWr 3 ref2 (ppf 11 6 2)), (115, aPs (qLd 0 1 isRN)), (116, aNew 1 [2, 2, 2, 2, 0, 2, 2, 2, 0, 2, 0, 0, 0, 2]), (119, aPs qDup), (120, aPs (qLd 0 1 isRN)), (121, aSt 3 (pgf 11 4)), (124, aCall 2 3 9 1 2 mh_X10_init), (127, aWr 3 ref2 (ppf 11 7 2)), (130, aVoid)]
def tl_X10_init_1 : List (Nat × IE) := [(84, (.getfield 46, 11, 4, 2, [])), (87, (.invokespecial 52, 15, 10, 0, [])), (90, (.astore_n 1, 0, 0, 0, [])), (91, (.aload_n 0, 0, 0, 0, [])), (92, (.new 55, 2, 0, 0, [2, 2, 0, 1, 2, 2, 2, 0, 0])), (95, (.dup, 0, 0, 0, [])), (96, (.aload_n 1, 0, 0, 0, [])), (97, (.invokespecial 57, 13, 2, 0, [])), (100, (.putfield 60, 11, 5, 2, [])), (103, (.aload_n 0, 0, 0, 0, [])), (104, (.new 64, 6, 0, 0, [2, 2, 0, 0, 2, 2, 2, 0, 0])), (107, (.dup, 0, 0, 0, [])), (108, (.aload_n 1, 0, 0, 0, [])), (109, (.invokespecial 66, 14, 6, 0, [])), (112, (.putfield 67, 11, 6, 2, [])), (115, (.aload_n 0, 0, 0, 0, [])), (116, (.new 71, 1, 0, 0, [2, 2, 2, 2, 0, 2, 2, 2, 0, 2, 0, 0, 0, 2])), (119, (.dup, 0, 0, 0, [])), (120, (.aload_n 0, 0, 0, 0, [])), (121, (.getfield 46, 11, 4, 2, [])), (124, (.invokespecial 73, 9, 1, 0, [])), (127, (.putfield 74, 11, 7, 2, [])), (130, (.return_, 0, 0, 0, []))]
def tf_X10_init : List (Nat × Step) := tf_X10_init_0 ++ (tf_X10_init_1)
def tl_X10_init : List (Nat × IE) := tl_X10_init_0 ++ (tl_X10_init_1)
def mh_X4_init : List (Nat × Nat × Nat × Nat × Nat) := []
def md_X4_init : MD := (yX4_init, cX4_init, 2, none, 2, RX4, true, mh_X4_init)
def tf_X4_init_0 : List (Nat × Step) := [(0, aPs (qLd 0 1 isRN)), (1, aObj), (4, aPs (qLd 0 1 isRN)), (5, aPs (qS 256)), (8, aMka 2 0), (10, aWr 3 ref2 (ppf 5 3 2)), (13, aPs (qLd 0 1 isRN)), (14, aPs (qS 256)), (17, aMka 2 0), (19, aWr 3 ref2 (ppf 5 4 2)), (22, aPs (qLd 0 1 isRN)), (23, aPs (qS 256)), (26, aMka 2 0), (28, aWr 3 ref2 (ppf 5 5 2)), (31, aPs (qLd 0 1 isRN)), (32, aPs (qS 256)), (35, aMka 2 0), (37, aWr 3 ref2 (ppf 5 6 2)), (40, aPs (qLd 0 1 isRN)), (41, aPs (qS 256)), (44, aMka 2 0), (46, aWr 3 ref2 (ppf 5 7 2)), (49, aPs (qLd 0 1 isRN)), (50, aPs (qS 256)), (53, aMka 2 0), (55, aWr 3 ref2 (ppf 5 8 2)), (58, aPs (qLd 0 1 isRN)), (59, aPs (qS 256)), (62, aMka 2 0), (64, aWr 3 ref2 (ppf 5 10 2)), (67, aPs (qLd 0 1 isRN)), (68, aPs (qS 256)), (71, aMka 2 0), (73, aWr 3 ref2 (ppf 5 11 2)), (76, aPs (qLd 0 1 isRN)), (77, aPs (qB 100)), (79, aMka 2 0), (81, aWr 3 ref2 (ppf 5 12 2)), (84, aPs (qLd 0 1 isRN)), (85, aPs (qS 640))]
def tl_X4_init_0 : List (Nat × IE) := [(0, (.aload_n 0, 0, 0, 0, [])), (1, (.invokespecial 3, 1000, 0, 0, [])), (4, (.aload_n 0, 0, 0, 0, [])), (5, (.sipush 256, 0, 0, 0, [])), (8, (.newarray .int, 0, 0, 0, [])), (10, (.putfield 11, 5, 3, 2, [])), (13, (.aload_n 0, 0, 0, 0, [])), (14, (.sipush 256, 0, 0, 0, [])), (17, (.newarray .int, 0, 0, 0, [])), (19, (.putfield 15, 5, 4, 2, [])), (22, (.aload_n 0, 0, 0, 0, [])), (23, (.sipush 256, 0, 0, 0, [])), (26, (.newarray .int, 0, 0, 0, [])), (28, (.putfield 18, 5, 5, 2, [])), (31, (.aload_n 0, 0, 0, 0, [])), (32, (.sipush 256, 0, 0, 0, [])), (35, (.newarray .int, 0, 0, 0, [])), (37, (.putfield 21, 5, 6, 2, [])), (40, (.aload_n 0, 0, 0, 0, [])), (41, (.sipush 256, 0, 0, 0, [])), (44, (.newarray .int, 0, 0, 0, [])), (46, (.putfield 24, 5, 7, 2, [])), (49, (.aload_n 0, 0, 0, 0, [])), (50, (.sipush 256, 0, 0, 0, [])), (53, (.newarray .int, 0, 0, 0, [])), (55, (.putfield 27, 5, 8, 2, [])), (58, (.aload_n 0, 0, 0, 0, [])), (59, (.sipush 256, 0, 0, 0, [])), (62, (.newarray .int, 0, 0, 0, [])), (64, (.putfield 30, 5, 10, 2, [])), (67, (.aload_n 0, 0, 0, 0, [])), (68, (.sipush 256, 0, 0, 0, [])), (71, (.newarray .int, 0, 0, 0, [])), (73, (.putfield 33, 5, 11, 2, [])), (76, (.aload_n 0, 0, 0, 0, [])), (77, (.bipush 100, 0, 0, 0, [])), (79, (.newarray .int, 0, 0, 0, [])), (81, (.putfield 36, 5, 12, 2, [])), (84, (.aload_n 0, 0, 0, 0, [])), (85, (.sipush 640, 0, 0, 0, []))]
def tf_X4_init_1 : List (Nat × Step) := [(88, aMka 2 0), (90, aWr 3 ref2 (ppf 5 13 2)), (93, aPs (qLd 0 1 isRN)), (94, aPs (qB 16)), (96, aMka 2 0), (98, aWr 3 ref2 (ppf 5 14 2)), (101, aPs (qLd 0 1 isRN)), (102, aPs (qLd 1 1 isRN)), (103, aWr 3 ref2 (ppf 5 0 2)), (106, aPs (qLd 0 1 isRN)), (107, aPs (qLd 1 1 isRN)), (108, aSt 3 (pgf 9 0)), (111, aWr 3 ref2 (ppf 5 1 2)), (114, aVoid)]
def tl_X4_init_1 : List (Nat × IE) := [(88, (.newarray .int, 0, 0, 0, [])), (90, (.putfield 39, 5, 13, 2, [])), (93, (.aload_n 0, 0, 0, 0, [])), (94, (.bipush 16, 0, 0, 0, [])), (96, (.newarray .int, 0, 0, 0, [])), (98, (.putfield 42, 5, 14, 2, [])), (101, (.aload_n 0, 0, 0, 0, [])), (102, (.aload_n 1, 0, 0, 0, [])), (103, (.putfield 45, 5, 0, 2, [])), (106, (.aload_n 0, 0, 0, 0, [])), (107, (.aload_n 1, 0, 0, 0, [])), (108, (.getfield 49, 9, 0, 2, [])), (111, (.putfield 55, 5, 1, 2, [])), (114, (.return_, 0, 0, 0, []))]
def tf_X4_init : List (Nat × Step) := tf_X4_init_0 ++ (tf_X4_init_1)
def tl_X4_init : List (Nat × IE) := tl_X4_init_0 ++ (tl_X4_init_1)
def mh_X3_init : List (Nat × Nat × Nat × Nat × Nat) := []
def md_X3_init : MD := (yX3_init, cX3_init, 2, none, 2, RX3, true, mh_X3_init)
def tf_X3_init_0 : List (Nat × Step) := [(0, aPs (qLd 0 1 isRN)), (1, aObj), (4, aPs (qLd 0 1 isRN)), (5, aPs (qS 256)), (8, aMka 2 0), (10, aWr 3 ref2 (ppf 4 3 2)), (13, aPs (qLd 0 1 isRN)), (14, aPs (qB 20)), (16, aMka 2 0), (18, aWr 3 ref2 (ppf 4 4 2)), (21, aPs (qLd 0 1 isRN)), (22, aPs (qB 64)), (24, aMka 2 0), (26, aWr 3 ref2 (ppf 4 6 2)), (29, aPs (qLd 0 1 isRN)), (30, aPs (qB 64)), (32, aMka 2 0), (34, aWr 3 ref2 (ppf 4 7 2)), (37, aPs (qLd 0 1 isRN)), (38, aPs (qB 64)), (40, aMka 2 0), (42, aWr 3 ref2 (ppf 4 8 2)), (45, aPs (qLd 0 1 isRN)), (46, aPs (qB 64)), (48, aMka 2 0), (50, aWr 3 ref2 (ppf 4 9 2)), (53, aPs (qLd 0 1 isRN)), (54, aPs (qB 64)), (56, aMka 2 0), (58, aWr 3 ref2 (ppf 4 10 2)), (61, aPs (qLd 0 1 isRN)), (62, aPs (qB 64)), (64, aMka 2 0), (66, aWr 3 ref2 (ppf 4 11 2)), (69, aPs (qLd 0 1 isRN)), (70, aPs (qLd 1 1 isRN)), (71, aWr 3 ref2 (ppf 4 0 2)), (74, aPs (qLd 0 1 isRN)), (75, aPs (qLd 1 1 isRN)), (76, aSt 3 (pgf 9 0))]
def tl_X3_init_0 : List (Nat × IE) := [(0, (.aload_n 0, 0, 0, 0, [])), (1, (.invokespecial 3, 1000, 0, 0, [])), (4, (.aload_n 0, 0, 0, 0, [])), (5, (.sipush 256, 0, 0, 0, [])), (8, (.newarray .int, 0, 0, 0, [])), (10, (.putfield 11, 4, 3, 2, [])), (13, (.aload_n 0, 0, 0, 0, [])), (14, (.bipush 20, 0, 0, 0, [])), (16, (.newarray .int, 0, 0, 0, [])), (18, (.putfield 17, 4, 4, 2, [])), (21, (.aload_n 0, 0, 0, 0, [])), (22, (.bipush 64, 0, 0, 0, [])), (24, (.newarray .int, 0, 0, 0, [])), (26, (.putfield 20, 4, 6, 2, [])), (29, (.aload_n 0, 0, 0, 0, [])), (30, (.bipush 64, 0, 0, 0, [])), (32, (.newarray .int, 0, 0, 0, [])), (34, (.putfield 23, 4, 7, 2, [])), (37, (.aload_n 0, 0, 0, 0, [])), (38, (.bipush 64, 0, 0, 0, [])), (40, (.newarray .int, 0, 0, 0, [])), (42, (.putfield 26, 4, 8, 2, [])), (45, (.aload_n 0, 0, 0, 0, [])), (46, (.bipush 64, 0, 0, 0, [])), (48, (.newarray .int, 0, 0, 0, [])), (50, (.putfield 29, 4, 9, 2, [])), (53, (.aload_n 0, 0, 0, 0, [])), (54, (.bipush 64, 0, 0, 0, [])), (56, (.newarray .int, 0, 0, 0, [])), (58, (.putfield 32, 4, 10, 2, [])), (61, (.aload_n 0, 0, 0, 0, [])), (62, (.bipush 64, 0, 0, 0, [])), (64, (.newarray .int, 0, 0, 0, [])), (66, (.putfield 35, 4, 11, 2, [])), (69, (.aload_n 0, 0, 0, 0, [])), (70, (.aload_n 1, 0, 0, 0, [])), (71, (.putfield 38, 4, 0, 2, [])), (74, (.aload_n 0, 0, 0, 0, [])), (75, (.aload_n 1, 0, 0, 0, [])), (76, (.getfield 42, 9, 0, 2, []))]
def tf_X3_init_1 : List (Nat × Step) := [(79, aWr 3 ref2 (ppf 4 1 2)), (82, aPs (qLd 0 1 isRN)), (83, aNew 5 [2, 2, 0, 2, 2, 2, 2, 2, 2, 0, 2, 2, 2, 2, 2, 0]), (86, aPs qDup), (87, aPs (qLd 1 1 isRN)), (88, aCall 2 3 7 5 2 mh_X3_init), (91, aWr 3 ref2 (ppf 4 2 2)), (94, aVoid)]
def tl_X3_init_1 : List (Nat × IE) := [(79, (.putfield 48, 4, 1, 2, [])), (82, (.aload_n 0, 0, 0, 0, [])), (83, (.new 9, 5, 0, 0, [2, 2, 0, 2, 2, 2, 2, 2, 2, 0, 2, 2, 2, 2, 2, 0])), (86, (.dup, 0, 0, 0, [])), (87, (.aload_n 1, 0, 0, 0, [])), (88, (.invokespecial 49, 7, 5, 0, [])), (91, (.putfield 52, 4, 2, 2, [])), (94, (.return_, 0, 0, 0, []))]
def tf_X3_init : List (Nat × Step) := tf_X3_init_0 ++ (tf_X3_init_1)
def tl_X3_init : List (Nat × IE) := tl_X3_init_0 ++ (tl_X3_init_1)
def mh_X0_init : List (Nat × Nat × Nat × Nat × Nat) := []
def md_X0_init : MD := (yX0_init, cX0_init, 2, none, 2, RX0, true, mh_X0_init)
def tf_X0_init : List (Nat × Step) := [(0, aPs (qLd 0 1 isRN)), (1, aObj), (4, aPs (qLd 0 1 isRN)), (5, aPs (qB 60)), (7, aMka 2 0), (9, aWr 3 ref2 (ppf 1 5 2)), (12, aPs (qLd 0 1 isRN)), (13, aPs (qB 60)), (15, aMka 2 0), (17, aWr 3 ref2 (ppf 1 6 2)), (20, aPs (qLd 0 1 isRN)), (21, aPs (qB 60)), (23, aMka 2 0), (25, aWr 3 ref2 (ppf 1 7 2)), (28, aPs (qLd 0 1 isRN)), (29, aPs (qB 20)), (31, aMka 2 0), (33, aWr 3 ref2 (ppf 1 9 2)), (36, aPs (qLd 0 1 isRN)), (37, aPs (qB 21)), (39, aMka 2 2), (41, aWr 3 ref2 (ppf 1 13 2)), (44, aPs (qLd 0 1 isRN)), (45, aPs (qLd 1 1 isRN)), (46, aSt 3 (pgf 7 0)), (49, aWr 3 ref2 (ppf 1 0 2)), (52, aPs (qLd 0 1 isRN)), (53, aPs (qLd 0 1 isRN)), (54, aSt 3 (pgf 1 0)), (57, aSt 3 (pgf 9 0)), (60, aWr 3 ref2 (ppf 1 1 2)), (63, aPs (qLd 0 1 isRN)), (64, aPs (qLd 1 1 isRN)), (65, aSt 3 (pgf 7 1)), (68, aWr 3 ref2 (ppf 1 2 2)), (71, aPs (qLd 0 1 isRN)), (72, aPs (qLd 1 1 isRN)), (73, aWr 3 ref2 (ppf 1 3 2)), (76, aVoid)]
def tl_X0_init : List (Nat × IE) := [(0, (.aload_n 0, 0, 0, 0, [])), (1, (.invokespecial 3, 1000, 0, 0, [])), (4, (.aload_n 0, 0, 0, 0, [])), (5, (.bipush 60, 0, 0, 0, [])), (7, (.newarray .int, 0, 0, 0, [])), (9, (.putfield 9, 1, 5, 2, [])), (12, (.aload_n 0, 0, 0, 0, [])), (13, (.bipush 60, 0, 0, 0, [])), (15, (.newarray .int, 0, 0, 0, [])), (17, (.putfield 15, 1, 6, 2, [])), (20, (.aload_n 0, 0, 0, 0, [])), (21, (.bipush 60, 0, 0, 0, [])), (23, (.newarray .int, 0, 0, 0, [])), (25, (.putfield 18, 1, 7, 2, [])), (28, (.aload_n 0, 0, 0, 0, [])), (29, (.bipush 20, 0, 0, 0, [])), (31, (.newarray .int, 0, 0, 0, [])), (33, (.putfield 21, 1, 9, 2, [])), (36, (.aload_n 0, 0, 0, 0, [])), (37, (.bipush 21, 0, 0, 0, [])), (39, (.newarray .long, 2, 0, 0, [])), (41, (.putfield 24, 1, 13, 2, [])), (44, (.aload_n 0, 0, 0, 0, [])), (45, (.aload_n 1, 0, 0, 0, [])), (46, (.getfield 28, 7, 0, 2, [])), (49, (.putfield 34, 1, 0, 2, [])), (52, (.aload_n 0, 0, 0, 0, [])), (53, (.aload_n 0, 0, 0, 0, [])), (54, (.getfield 34, 1, 0, 2, [])), (57, (.getfield 35, 9, 0, 2, [])), (60, (.putfield 41, 1, 1, 2, [])), (63, (.aload_n 0, 0, 0, 0, [])), (64, (.aload_n 1, 0, 0, 0, [])), (65, (.getfield 42, 7, 1, 2, [])), (68, (.putfield 46, 1, 2, 2, [])), (71, (.aload_n 0, 0, 0, 0, [])), (72, (.aload_n 1, 0, 0, 0, [])), (73, (.putfield 47, 1, 3, 2, [])), (76, (.return_, 0, 0, 0, []))]
def mh_Jxc12de_init_da8c8 : List (Nat × Nat × Nat × Nat × Nat) := []
def md_Jxc12de_init_da8c8 : MD := (yJxc12de_init_da8c8, cJxc12de_init_da8c8, 1, none, 1, RJxc12de, true, mh_Jxc12de_init_da8c8)
def tf_Jxc12de_init_da8c8 : List (Nat × Step) := [(0, aPs (qLd 0 1 isRN)), (1, aCall 2 3 16 0 1 mh_Jxc12de_init_da8c8), (4, aPs (qLd 0 1 isRN)), (5, aPs (qC 0)), (6, aWr 3 ref2 (ppf 0 0 0)), (9, aVoid)]
def tl_Jxc12de_init_da8c8 : List (Nat × IE) := [(0, (.aload_n 0, 0, 0, 0, [])), (1, (.invokespecial 1, 16, 0, 0, [])), (4, (.aload_n 0, 0, 0, 0, [])), (5, (.iconst 0, 0, 0, 0, [])), (6, (.putfield 7, 0, 0, 0, [])), (9, (.return_, 0, 0, 0, []))]
def mh_Jx4a65c_init_da8c8 : List (Nat × Nat × Nat × Nat × Nat) := []
def md_Jx4a65c_init_da8c8 : MD := (yJx4a65c_init_da8c8, cJx4a65c_init_da8c8, 1, none, 1, RJx4a65c, true, mh_Jx4a65c_init_da8c8)
def tf_Jx4a65c_init_da8c8 : List (Nat × Step) := [(0, aPs (qLd 0 1 isRN)), (1, aCall 2 3 10 0 1 mh_Jx4a65c_init_da8c8), (4, aPs (qLd 0 1 isRN)), (5, aGets), (8, aWr 3 ref2 (ppf 0 1 2)), (11, aVoid)]
def tl_Jx4a65c_init_da8c8 : List (Nat × IE) := [(0, (.aload_n 0, 0, 0, 0, [])), (1, (.invokespecial 1, 10, 0, 0, [])), (4, (.aload_n 0, 0, 0, 0, [])), (5, (.getstatic 39, 0, 0, 0, [])), (8, (.putfield 9, 0, 1, 2, [])), (11, (.return_, 0, 0, 0, []))]
def mh_X6_init : List (Nat × Nat × Nat × Nat × Nat) := []
def md_X6_init : MD := (yX6_init, cX6_init, 3, none, 3, RX6, true, mh_X6_init)
def tf_X6_init : List (Nat × Step) := [(0, aPs (qLd 0 1 isRN)), (1, aObj), (4, aPs (qLd 0 1 isRN)), (5, aPs (qS 1240)), (8, aMka 2 0), (10, aWr 3 ref2 (ppf 7 5 2)), (13, aPs (qLd 0 1 isRN)), (14, aPs (qS 1240)), (17, aMka 2 0), (19, aWr 3 ref2 (ppf 7 6 2)), (22, aPs (qLd 0 1 isRN)), (23, aPs (qS 1240)), (26, aMka 2 0), (28, aWr 3 ref2 (ppf 7 7 2)), (31, aPs (qLd 0 1 isRN)), (32, aPs (qS 1240)), (35, aMka 2 0), (37, aWr 3 ref2 (ppf 7 8 2)), (40, aPs (qLd 0 1 isRN)), (41, aPs (qS 1240)), (44, aMka 2 0), (46, aWr 3 ref2 (ppf 7 9 2)), (49, aPs (qLd 0 1 isRN)), (50, aPs (qLd 1 1 isRN)), (51, aSt 3 (pgf 3 0)), (54, aWr 3 ref2 (ppf 7 0 2)), (57, aPs (qLd 0 1 isRN)), (58, aPs (qLd 1 1 isRN)), (59, aWr 3 ref2 (ppf 7 1 2)), (62, aPs (qLd 0 1 isRN)), (63, aPs (qLd 2 1 isRN)), (64, aWr 3 ref2 (ppf 7 2 2)), (67, aVoid)]
def tl_X6_init : List (Nat × IE) := [(0, (.aload_n 0, 0, 0, 0, [])), (1, (.invokespecial 3, 1000, 0, 0, [])), (4, (.aload_n 0, 0, 0, 0, [])), (5, (.sipush 1240, 0, 0, 0, [])), (8, (.newarray .int, 0, 0, 0, [])), (10, (.putfield 11, 7, 5, 2, [])), (13, (.aload_n 0, 0, 0, 0, [])), (14, (.sipush 1240, 0, 0, 0, [])), (17, (.newarray .int, 0, 0, 0, [])), (19, (.putfield 15, 7, 6, 2, [])), (22, (.aload_n 0, 0, 0, 0, [])), (23, (.sipush 1240, 0, 0, 0, [])), (26, (.newarray .int, 0, 0, 0, [])), (28, (.putfield 18, 7, 7, 2, [])), (31, (.aload_n 0, 0, 0, 0, [])), (32, (.sipush 1240, 0, 0, 0, [])), (35, (.newarray .int, 0, 0, 0, [])), (37, (.putfield 21, 7, 8, 2, [])), (40, (.aload_n 0, 0, 0, 0, [])), (41, (.sipush 1240, 0, 0, 0, [])), (44, (.newarray .int, 0, 0, 0, [])), (46, (.putfield 24, 7, 9, 2, [])), (49, (.aload_n 0, 0, 0, 0, [])), (50, (.aload_n 1, 0, 0, 0, [])), (51, (.getfield 27, 3, 0, 2, [])), (54, (.putfield 33, 7, 0, 2, [])), (57, (.aload_n 0, 0, 0, 0, [])), (58, (.aload_n 1, 0, 0, 0, [])), (59, (.putfield 34, 7, 1, 2, [])), (62, (.aload_n 0, 0, 0, 0, [])), (63, (.aload_n 2, 0, 0, 0, [])), (64, (.putfield 38, 7, 2, 2, [])), (67, (.return_, 0, 0, 0, []))]
def mh_X1_init : List (Nat × Nat × Nat × Nat × Nat) := []
def md_X1_init : MD := (yX1_init, cX1_init, 2, none, 2, RX1, true, mh_X1_init)
def tf_X1_init : List (Nat × Step) := [(0, aPs (qLd 0 1 isRN)), (1, aObj), (4, aPs (qLd 0 1 isRN)), (5, aPs (qB 24)), (7, aMka 2 0), (9, aWr 3 ref2 (ppf 2 4 2)), (12, aPs (qLd 0 1 isRN)), (13, aPs (qB 24)), (15, aMka 2 0), (17, aWr 3 ref2 (ppf 2 5 2)), (20, aPs (qLd 0 1 isRN)), (21, aPs (qB 24)), (23, aMka 2 0), (25, aWr 3 ref2 (ppf 2 6 2)), (28, aPs (qLd 0 1 isRN)), (29, aPs (qLd 1 1 isRN)), (30, aSt 3 (pgf 10 0)), (33, aWr 3 ref2 (ppf 2 0 2)), (36, aPs (qLd 0 1 isRN)), (37, aPs (qLd 1 1 isRN)), (38, aWr 3 ref2 (ppf 2 1 2)), (41, aVoid)]
def tl_X1_init : List (Nat × IE) := [(0, (.aload_n 0, 0, 0, 0, [])), (1, (.invokespecial 3, 1000, 0, 0, [])), (4, (.aload_n 0, 0, 0, 0, [])), (5, (.bipush 24, 0, 0, 0, [])), (7, (.newarray .int, 0, 0, 0, [])), (9, (.putfield 9, 2, 4, 2, [])), (12, (.aload_n 0, 0, 0, 0, [])), (13, (.bipush 24, 0, 0, 0, [])), (15, (.newarray .int, 0, 0, 0, [])), (17, (.putfield 15, 2, 5, 2, [])), (20, (.aload_n 0, 0, 0, 0, [])), (21, (.bipush 24, 0, 0, 0, [])), (23, (.newarray .int, 0, 0, 0, [])), (25, (.putfield 18, 2, 6, 2, [])), (28, (.aload_n 0, 0, 0, 0, [])), (29, (.aload_n 1, 0, 0, 0, [])), (30, (.getfield 21, 10, 0, 2, [])), (33, (.putfield 27, 2, 0, 2, [])), (36, (.aload_n 0, 0, 0, 0, [])), (37, (.aload_n 1, 0, 0, 0, [])), (38, (.putfield 28, 2, 1, 2, [])), (41, (.return_, 0, 0, 0, []))]
def mh_X5_init : List (Nat × Nat × Nat × Nat × Nat) := []
def md_X5_init : MD := (yX5_init, cX5_init, 2, none, 2, RX5, true, mh_X5_init)
def tf_X5_init : List (Nat × Step) := [(0, aPs (qLd 0 1 isRN)), (1, aObj), (4, aPs (qLd 0 1 isRN)), (5, aPs (qS 240)), (8, aMka 2 0), (10, aWr 3 ref2 (ppf 6 4 2)), (13, aPs (qLd 0 1 isRN)), (14, aPs (qS 240)), (17, aMka 2 0), (19, aWr 3 ref2 (ppf 6 5 2)), (22, aPs (qLd 0 1 isRN)), (23, aPs (qS 240)), (26, aMka 2 0), (28, aWr 3 ref2 (ppf 6 6 2)), (31, aPs (qLd 0 1 isRN)), (32, aPs (qLd 1 1 isRN)), (33, aSt 3 (pgf 10 0)), (36, aWr 3 ref2 (ppf 6 0 2)), (39, aPs (qLd 0 1 isRN)), (40, aPs (qLd 1 1 isRN)), (41, aWr 3 ref2 (ppf 6 1 2)), (44, aVoid)]
def tl_X5_init : List (Nat × IE) := [(0, (.aload_n 0, 0, 0, 0, [])), (1, (.invokespecial 3, 1000, 0, 0, [])), (4, (.aload_n 0, 0, 0, 0, [])), (5, (.sipush 240, 0, 0, 0, [])), (8, (.newarray .int, 0, 0, 0, [])), (10, (.putfield 11, 6, 4, 2, [])), (13, (.aload_n 0, 0, 0, 0, [])), (14, (.sipush 240, 0, 0, 0, [])), (17, (.newarray .int, 0, 0, 0, [])), (19, (.putfield 15, 6, 5, 2, [])), (22, (.aload_n 0, 0, 0, 0, [])), (23, (.sipush 240, 0, 0, 0, [])), (26, (.newarray .int, 0, 0, 0, [])), (28, (.putfield 18, 6, 6, 2, [])), (31, (.aload_n 0, 0, 0, 0, [])), (32, (.aload_n 1, 0, 0, 0, [])), (33, (.getfield 21, 10, 0, 2, [])), (36, (.putfield 27, 6, 0, 2, [])), (39, (.aload_n 0, 0, 0, 0, [])), (40, (.aload_n 1, 0, 0, 0, [])), (41, (.putfield 28, 6, 1, 2, [])), (44, (.return_, 0, 0, 0, []))]
def mh_X9_init : List (Nat × Nat × Nat × Nat × Nat) := []
def md_X9_init : MD := (yX9_init, cX9_init, 2, none, 2, RX9, true, mh_X9_init)
def tf_X9_init : List (Nat × Step) := [(0, aPs (qLd 0 1 isRN)), (1, aObj), (4, aPs (qLd 0 1 isRN)), (5, aPs (qLd 1 1 isRN)), (6, aSt 3 (pgf 7 0)), (9, aWr 3 ref2 (ppf 10 0 2)), (12, aPs (qLd 0 1 isRN)), (13, aPs (qLd 1 1 isRN)), (14, aWr 3 ref2 (ppf 10 1 2)), (17, aPs (qLd 0 1 isRN)), (18, aPs (qLd 1 1 isRN)), (19, aSt 3 (pgf 7 1)), (22, aWr 3 ref2 (ppf 10 2 2)), (25, aPs (qLd 0 1 isRN)), (26, aPs (qLd 1 1 isRN)), (27, aSt 3 (pgf 7 2)), (30, aWr 3 ref2 (ppf 10 3 2)), (33, aVoid)]
def tl_X9_init : List (Nat × IE) := [(0, (.aload_n 0, 0, 0, 0, [])), (1, (.invokespecial 3, 1000, 0, 0, [])), (4, (.aload_n 0, 0, 0, 0, [])), (5, (.aload_n 1, 0, 0, 0, [])), (6, (.getfield 9, 7, 0, 2, [])), (9, (.putfield 15, 10, 0, 2, [])), (12, (.aload_n 0, 0, 0, 0, [])), (13, (.aload_n 1, 0, 0, 0, [])), (14, (.putfield 18, 10, 1, 2, [])), (17, (.aload_n 0, 0, 0, 0, [])), (18, (.aload_n 1, 0, 0, 0, [])), (19, (.getfield 22, 7, 1, 2, [])), (22, (.putfield 26, 10, 2, 2, [])), (25, (.aload_n 0, 0, 0, 0, [])), (26, (.aload_n 1, 0, 0, 0, [])), (27, (.getfield 27, 7, 2, 2, [])), (30, (.putfield 31, 10, 3, 2, [])), (33, (.return_, 0, 0, 0, []))]
def mh_Jxa1e45_init_da8c8 : List (Nat × Nat × Nat × Nat × Nat) := []
def md_Jxa1e45_init_da8c8 : MD := (yJxa1e45_init_da8c8, cJxa1e45_init_da8c8, 1, none, 1, RJxa1e45, true, mh_Jxa1e45_init_da8c8)
def tf_Jxa1e45_init_da8c8 : List (Nat × Step) := [(0, aPs (qLd 0 1 isRN)), (1, aObj), (4, aVoid)]
def tl_Jxa1e45_init_da8c8 : List (Nat × IE) := [(0, (.aload_n 0, 0, 0, 0, [])), (1, (.invokespecial 1, 1000, 0, 0, [])), (4, (.return_, 0, 0, 0, []))]
def mh_X17_operator : List (Nat × Nat × Nat × Nat × Nat) := []
def md_X17_operator : MD := (yX17_operator, cX17_operator, 7, (some .int), 4, RX17, false, mh_X17_operator)
def tf_X17_operator_0 : List (Nat × Step) := [(0, aPs (qLd 3 1 isI)), (1, aPs (qC (-1))), (2, aPs (qIc .eq 17)), (5, aPs (qLd 3 1 isI)), (6, aPs (qC 0)), (7, aPs (qLd 0 1 isRN)), (8, aSt 3 (pgf 18 4)), (11, aPs (qC 1)), (12, aPs qSub), (13, aCall 0 3 19 18 3 mh_X17_operator), (16, aPs (qIf .eq 7)), (19, aPs (qC 1)), (20, aPs (qGo 4)), (23, aPs (qC 0)), (24, aPs (qSt 7 4 2 isI)), (26, aPs (qLd 1 1 isI)), (27, aPs (qC 0)), (28, aPs (qC 3)), (29, aCall 0 3 19 18 3 mh_X17_operator), (32, aPs (qIf .eq 25)), (35, aPs (qLd 2 1 isI)), (36, aPs (qC 0)), (37, aPs (qC 3)), (38, aCall 0 3 19 18 3 mh_X17_operator), (41, aPs (qIf .eq 16)), (44, aPs (qLd 2 1 isI)), (45, aPs (qIf .eq 8)), (48, aPs (qLd 1 1 isI)), (49, aPs (qC 2)), (50, aPs (qIc .ne 7)), (53, aPs (qC 1)), (54, aPs (qGo 4)), (57, aPs (qC 0)), (58, aPs (qSt 7 5 2 isI)), (60, aPs (qLd 5 2 isI)), (62, aPs (qIf .eq 31)), (65, aPs (qLd 3 1 isI)), (66, aPs (qC (-1))), (67, aPs (qIc .eq 22)), (70, aPs (qLd 2 1 isI))]
def tl_X17_operator_0 : List (Nat × IE) := [(0, (.iload_n 3, 0, 0, 0, [])), (1, (.iconst (-1), 0, 0, 0, [])), (2, (.if_icmp .eq 17, 0, 0, 0, [])), (5, (.iload_n 3, 0, 0, 0, [])), (6, (.iconst 0, 0, 0, 0, [])), (7, (.aload_n 0, 0, 0, 0, [])), (8, (.getfield 493, 18, 4, 0, [])), (11, (.iconst 1, 0, 0, 0, [])), (12, (.isub, 0, 0, 0, [])), (13, (.invokestatic 370, 19, 18, 0, [])), (16, (.ifCond .eq 7, 0, 0, 0, [])), (19, (.iconst 1, 0, 0, 0, [])), (20, (.goto 4, 0, 0, 0, [])), (23, (.iconst 0, 0, 0, 0, [])), (24, (.istore 4, 0, 0, 0, [])), (26, (.iload_n 1, 0, 0, 0, [])), (27, (.iconst 0, 0, 0, 0, [])), (28, (.iconst 3, 0, 0, 0, [])), (29, (.invokestatic 370, 19, 18, 0, [])), (32, (.ifCond .eq 25, 0, 0, 0, [])), (35, (.iload_n 2, 0, 0, 0, [])), (36, (.iconst 0, 0, 0, 0, [])), (37, (.iconst 3, 0, 0, 0, [])), (38, (.invokestatic 370, 19, 18, 0, [])), (41, (.ifCond .eq 16, 0, 0, 0, [])), (44, (.iload_n 2, 0, 0, 0, [])), (45, (.ifCond .eq 8, 0, 0, 0, [])), (48, (.iload_n 1, 0, 0, 0, [])), (49, (.iconst 2, 0, 0, 0, [])), (50, (.if_icmp .ne 7, 0, 0, 0, [])), (53, (.iconst 1, 0, 0, 0, [])), (54, (.goto 4, 0, 0, 0, [])), (57, (.iconst 0, 0, 0, 0, [])), (58, (.istore 5, 0, 0, 0, [])), (60, (.iload 5, 0, 0, 0, [])), (62, (.ifCond .eq 31, 0, 0, 0, [])), (65, (.iload_n 3, 0, 0, 0, [])), (66, (.iconst (-1), 0, 0, 0, [])), (67, (.if_icmp .eq 22, 0, 0, 0, [])), (70, (.iload_n 2, 0, 0, 0, []))]
def tf_X17_operator_1 : List (Nat × Step) := [(71, aPs (qC 2)), (72, aPs (qIc .lt 21)), (75, aPs (qLd 4 2 isI)), (77, aPs (qIf .eq 16)), (89, aPs (qC 1)), (90, aPs (qGo 4)), (93, aPs (qC 0)), (94, aPs (qSt 7 5 2 isI)), (96, aPs (qLd 0 1 isRN)), (97, aPs (qLd 4 2 isI)), (99, aPs (qIf .ne 7)), (102, aPs (qC 1)), (103, aPs (qGo 26)), (106, aPs (qLd 5 2 isI)), (108, aPs (qIf .ne 7)), (111, aPs (qC 2)), (112, aPs (qGo 17)), (115, aPs (qLd 0 1 isRN)), (116, aSt 3 (pgf 18 4)), (119, aPs (qB 16)), (121, aPs (qIc .ne 7)), (128, aPs (qC 0)), (129, aWr 3 ref2 (ppf 18 0 0)), (132, aPs (qLd 0 1 isRN)), (133, aSt 3 (pgf 18 0)), (136, aPs (qIf .le 5)), (139, aPs (qC 0)), (140, aRet (some .int)), (141, aPs (qLd 0 1 isRN)), (142, aSt 3 (pgf 18 5)), (145, aPs (qLd 0 1 isRN)), (146, aSt 3 (pgf 18 4)), (149, aPs (qLd 1 1 isI)), (150, aWr 1 ref3 (past s0)), (151, aPs (qLd 0 1 isRN)), (152, aSt 3 (pgf 18 6)), (155, aPs (qLd 0 1 isRN)), (156, aSt 3 (pgf 18 4)), (159, aPs (qLd 2 1 isI)), (160, aWr 1 ref3 (past s0))]
def tl_X17_operator_1 : List (Nat × IE) := [(71, (.iconst 2, 0, 0, 0, [])), (72, (.if_icmp .lt 21, 0, 0, 0, [])), (75, (.iload 4, 0, 0, 0, [])), (77, (.ifCond .eq 16, 0, 0, 0, [])), (89, (.iconst 1, 0, 0, 0, [])), (90, (.goto 4, 0, 0, 0, [])), (93, (.iconst 0, 0, 0, 0, [])), (94, (.istore 5, 0, 0, 0, [])), (96, (.aload_n 0, 0, 0, 0, [])), (97, (.iload 4, 0, 0, 0, [])), (99, (.ifCond .ne 7, 0, 0, 0, [])), (102, (.iconst 1, 0, 0, 0, [])), (103, (.goto 26, 0, 0, 0, [])), (106, (.iload 5, 0, 0, 0, [])), (108, (.ifCond .ne 7, 0, 0, 0, [])), (111, (.iconst 2, 0, 0, 0, [])), (112, (.goto 17, 0, 0, 0, [])), (115, (.aload_n 0, 0, 0, 0, [])), (116, (.getfield 493, 18, 4, 0, [])), (119, (.bipush 16, 0, 0, 0, [])), (121, (.if_icmp .ne 7, 0, 0, 0, [])), (128, (.iconst 0, 0, 0, 0, [])), (129, (.putfield 114, 18, 0, 0, [])), (132, (.aload_n 0, 0, 0, 0, [])), (133, (.getfield 114, 18, 0, 0, [])), (136, (.ifCond .le 5, 0, 0, 0, [])), (139, (.iconst 0, 0, 0, 0, [])), (140, (.ireturn, 0, 0, 0, [])), (141, (.aload_n 0, 0, 0, 0, [])), (142, (.getfield 17, 18, 5, 2, [])), (145, (.aload_n 0, 0, 0, 0, [])), (146, (.getfield 493, 18, 4, 0, [])), (149, (.iload_n 1, 0, 0, 0, [])), (150, (.iastore, 0, 0, 0, [])), (151, (.aload_n 0, 0, 0, 0, [])), (152, (.getfield 20, 18, 6, 2, [])), (155, (.aload_n 0, 0, 0, 0, [])), (156, (.getfield 493, 18, 4, 0, [])), (159, (.iload_n 2, 0, 0, 0, [])), (160, (.iastore, 0, 0, 0, []))]
def tf_X17_operator_2 : List (Nat × Step) := [(161, aPs (qLd 0 1 isRN)), (162, aSt 3 (pgf 18 7)), (165, aPs (qLd 0 1 isRN)), (166, aSt 3 (pgf 18 4)), (169, aPs (qLd 3 1 isI)), (170, aWr 1 ref3 (past s0)), (171, aPs (qLd 0 1 isRN)), (172, aSt 3 (pgf 18 31)), (175, aPs (qLd 0 1 isRN)), (176, aSt 3 (pgf 18 4)), (179, aPs (qLd 3 1 isI)), (180, aPs (qC (-1))), (181, aPs (qIc .ne 7)), (184, aPs (fun ev pc als ast => ps1 ev.1 ev.2.1 7 (.aconst_null) pc als ast)), (185, aPs (qGo 16)), (201, aWr 1 ref3 (fun ah => past (aok ah) ah)), (202, aPs (qLd 0 1 isRN)), (203, aSt 3 (pgf 18 12)), (206, aPs (qLd 0 1 isRN)), (207, aSt 3 (pgf 18 4)), (210, aPs (qLd 0 1 isRN)), (211, aSt 3 (pgf 18 4)), (214, aWr 1 ref3 (past s0)), (215, aPs (qC 0)), (216, aPs (qSt 7 6 2 isI)), (218, aPs (qLd 6 2 isI)), (220, aPs (qC 4)), (221, aPs (qIc .ge 24)), (224, aPs (qLd 0 1 isRN)), (225, aSt 3 (pgf 18 11)), (228, aPs (qC 4)), (229, aPs (qLd 0 1 isRN)), (230, aSt 3 (pgf 18 4)), (233, aPs qMul), (234, aPs (qLd 6 2 isI)), (236, aPs qAdd), (237, aPs (qC 1)), (238, aWr 1 ref3 (past s0)), (239, aPs (qInc 7 6 1)), (242, aPs (qGo (-24)))]
def tl_X17_operator_2 : List (Nat × IE) := [(161, (.aload_n 0, 0, 0, 0, [])), (162, (.getfield 23, 18, 7, 2, [])), (165, (.aload_n 0, 0, 0, 0, [])), (166, (.getfield 493, 18, 4, 0, [])), (169, (.iload_n 3, 0, 0, 0, [])), (170, (.iastore, 0, 0, 0, [])), (171, (.aload_n 0, 0, 0, 0, [])), (172, (.getfield 81, 18, 31, 2, [])), (175, (.aload_n 0, 0, 0, 0, [])), (176, (.getfield 493, 18, 4, 0, [])), (179, (.iload_n 3, 0, 0, 0, [])), (180, (.iconst (-1), 0, 0, 0, [])), (181, (.if_icmp .ne 7, 0, 0, 0, [])), (184, (.aconst_null, 0, 0, 0, [])), (185, (.goto 16, 0, 0, 0, [])), (201, (.aastore, 0, 0, 0, [])), (202, (.aload_n 0, 0, 0, 0, [])), (203, (.getfield 38, 18, 12, 2, [])), (206, (.aload_n 0, 0, 0, 0, [])), (207, (.getfield 493, 18, 4, 0, [])), (210, (.aload_n 0, 0, 0, 0, [])), (211, (.getfield 493, 18, 4, 0, [])), (214, (.iastore, 0, 0, 0, [])), (215, (.iconst 0, 0, 0, 0, [])), (216, (.istore 6, 0, 0, 0, [])), (218, (.iload 6, 0, 0, 0, [])), (220, (.iconst 4, 0, 0, 0, [])), (221, (.if_icmp .ge 24, 0, 0, 0, [])), (224, (.aload_n 0, 0, 0, 0, [])), (225, (.getfield 35, 18, 11, 2, [])), (228, (.iconst 4, 0, 0, 0, [])), (229, (.aload_n 0, 0, 0, 0, [])), (230, (.getfield 493, 18, 4, 0, [])), (233, (.imul, 0, 0, 0, [])), (234, (.iload 6, 0, 0, 0, [])), (236, (.iadd, 0, 0, 0, [])), (237, (.iconst 1, 0, 0, 0, [])), (238, (.iastore, 0, 0, 0, [])), (239, (.iinc 6 1, 0, 0, 0, [])), (242, (.goto (-24), 0, 0, 0, []))]
def tf_X17_operator_3 : List (Nat × Step) := [(245, aPs (qLd 0 1 isRN)), (246, aPs qDup), (247, aSt 3 (pgf 18 4)), (250, aPs (qC 1)), (251, aPs qAdd), (252, aWr 3 ref2 (ppf 18 4 0)), (255, aPs (qLd 0 1 isRN)), (256, aSt 3 (pgf 18 4)), (259, aPs (qC 1)), (260, aPs qSub), (261, aRet (some .int))]
def tl_X17_operator_3 : List (Nat × IE) := [(245, (.aload_n 0, 0, 0, 0, [])), (246, (.dup, 0, 0, 0, [])), (247, (.getfield 493, 18, 4, 0, [])), (250, (.iconst 1, 0, 0, 0, [])), (251, (.iadd, 0, 0, 0, [])), (252, (.putfield 493, 18, 4, 0, [])), (255, (.aload_n 0, 0, 0, 0, [])), (256, (.getfield 493, 18, 4, 0, [])), (259, (.iconst 1, 0, 0, 0, [])), (260, (.isub, 0, 0, 0, [])), (261, (.ireturn, 0, 0, 0, []))]
def tf_X17_operator : List (Nat × Step) := tf_X17_operator_0 ++ (tf_X17_operator_1 ++ (tf_X17_operator_2 ++ (tf_X17_operator_3)))
def tl_X17_operator : List (Nat × IE) := tl_X17_operator_0 ++ (tl_X17_operator_1 ++ (tl_X17_operator_2 ++ (tl_X17_operator_3)))
def mh_X2_init : List (Nat × Nat × Nat × Nat × Nat) := []
def md_X2_init : MD := (yX2_init, cX2_init, 2, none, 2, RX2, true, mh_X2_init)
def tf_X2_init : List (Nat × Step) := [(0, aPs (qLd 0 1 isRN)), (1, aObj), (4, aPs (qLd 0 1 isRN)), (5, aPs (qB 20)), (7, aMka 2 1), (9, aWr 3 ref2 (ppf 3 4 2)), (12, aPs (qLd 0 1 isRN)), (13, aPs (qLd 1 1 isRN)), (14, aWr 3 ref2 (ppf 3 0 2)), (17, aPs (qLd 0 1 isRN)), (18, aPs (qLd 1 1 isRN)), (19, aSt 3 (pgf 9 0)), (22, aWr 3 ref2 (ppf 3 1 2)), (25, aVoid)]
def tl_X2_init : List (Nat × IE) := [(0, (.aload_n 0, 0, 0, 0, [])), (1, (.invokespecial 3, 1000, 0, 0, [])), (4, (.aload_n 0, 0, 0, 0, [])), (5, (.bipush 20, 0, 0, 0, [])), (7, (.newarray .boolean, 1, 0, 0, [])), (9, (.putfield 9, 3, 4, 2, [])), (12, (.aload_n 0, 0, 0, 0, [])), (13, (.aload_n 1, 0, 0, 0, [])), (14, (.putfield 15, 3, 0, 2, [])), (17, (.aload_n 0, 0, 0, 0, [])), (18, (.aload_n 1, 0, 0, 0, [])), (19, (.getfield 19, 9, 0, 2, [])), (22, (.putfield 25, 3, 1, 2, [])), (25, (.return_, 0, 0, 0, []))]
def mh_X17_isIn : List (Nat × Nat × Nat × Nat × Nat) := []
def md_X17_isIn : MD := (yX17_isIn, cX17_isIn, 3, (some .boolean), 3, RX17, false, mh_X17_isIn)
def tf_X17_isIn : List (Nat × Step) := [(0, aPs (qLd 0 1 isI)), (1, aPs (qLd 1 1 isI)), (2, aPs (qIc .lt 12)), (5, aPs (qLd 0 1 isI)), (6, aPs (qLd 2 1 isI)), (7, aPs (qIc .gt 7)), (10, aPs (qC 1)), (11, aPs (qGo 4)), (14, aPs (qC 0)), (15, aRet (some .boolean))]
def tl_X17_isIn : List (Nat × IE) := [(0, (.iload_n 0, 0, 0, 0, [])), (1, (.iload_n 1, 0, 0, 0, [])), (2, (.if_icmp .lt 12, 0, 0, 0, [])), (5, (.iload_n 0, 0, 0, 0, [])), (6, (.iload_n 2, 0, 0, 0, [])), (7, (.if_icmp .gt 7, 0, 0, 0, [])), (10, (.iconst 1, 0, 0, 0, [])), (11, (.goto 4, 0, 0, 0, [])), (14, (.iconst 0, 0, 0, 0, [])), (15, (.ireturn, 0, 0, 0, []))]
def mh_X10_operator : List (Nat × Nat × Nat × Nat × Nat) := []
def md_X10_operator : MD := (yX10_operator, cX10_operator, 4, (some .int), 4, RX10, false, mh_X10_operator)
def tf_X10_operator_0 : List (Nat × Step) := [(0, aPs (qLd 3 1 isI)), (1, aPs (qC (-1))), (2, aPs (qIc .eq 24)), (5, aPs (qLd 0 1 isRN)), (6, aSt 3 (pgf 11 0)), (9, aPs (qLd 3 1 isI)), (10, aCall 1 3 24 8 2 mh_X10_operator), (13, aPs (qIf .ne 13)), (16, aThr 1), (19, aPs qDup), (26, aPs (qLd 1 1 isI)), (27, aPs (qIf .lt 17)), (30, aPs (qLd 1 1 isI)), (31, aPs (qC 3)), (32, aPs (qIc .gt 12)), (35, aPs (qLd 2 1 isI)), (36, aPs (qIf .lt 8)), (39, aPs (qLd 2 1 isI)), (40, aPs (qC 3)), (41, aPs (qIc .le 13)), (44, aThr 2), (47, aPs qDup), (54, aPs (qLd 2 1 isI)), (55, aPs (qIf .eq 18)), (58, aPs (qLd 1 1 isI)), (59, aPs (qC 2)), (60, aPs (qIc .eq 13)), (63, aThr 2), (66, aPs qDup), (73, aPs (qLd 3 1 isI)), (74, aPs (qC (-1))), (75, aPs (qIc .eq 30)), (105, aPs (qLd 0 1 isRN)), (106, aSt 3 (pgf 11 0)), (109, aSt 3 (pgf 8 1)), (112, aPs (qB 16)), (114, aPs (qIc .lt 13)), (127, aPs (qLd 0 1 isRN)), (128, aSt 3 (pgf 11 0)), (131, aPs (qLd 1 1 isI))]
def tl_X10_operator_0 : List (Nat × IE) := [(0, (.iload_n 3, 0, 0, 0, [])), (1, (.iconst (-1), 0, 0, 0, [])), (2, (.if_icmp .eq 24, 0, 0, 0, [])), (5, (.aload_n 0, 0, 0, 0, [])), (6, (.getfield 12, 11, 0, 2, [])), (9, (.iload_n 3, 0, 0, 0, [])), (10, (.invokevirtual 126, 24, 8, 0, [])), (13, (.ifCond .ne 13, 0, 0, 0, [])), (16, (.new 93, 101, 129, 97, [])), (19, (.dup, 0, 0, 0, [])), (26, (.iload_n 1, 0, 0, 0, [])), (27, (.ifCond .lt 17, 0, 0, 0, [])), (30, (.iload_n 1, 0, 0, 0, [])), (31, (.iconst 3, 0, 0, 0, [])), (32, (.if_icmp .gt 12, 0, 0, 0, [])), (35, (.iload_n 2, 0, 0, 0, [])), (36, (.ifCond .lt 8, 0, 0, 0, [])), (39, (.iload_n 2, 0, 0, 0, [])), (40, (.iconst 3, 0, 0, 0, [])), (41, (.if_icmp .le 13, 0, 0, 0, [])), (44, (.new 111, 102, 131, 115, [])), (47, (.dup, 0, 0, 0, [])), (54, (.iload_n 2, 0, 0, 0, [])), (55, (.ifCond .eq 18, 0, 0, 0, [])), (58, (.iload_n 1, 0, 0, 0, [])), (59, (.iconst 2, 0, 0, 0, [])), (60, (.if_icmp .eq 13, 0, 0, 0, [])), (63, (.new 111, 102, 133, 115, [])), (66, (.dup, 0, 0, 0, [])), (73, (.iload_n 3, 0, 0, 0, [])), (74, (.iconst (-1), 0, 0, 0, [])), (75, (.if_icmp .eq 30, 0, 0, 0, [])), (105, (.aload_n 0, 0, 0, 0, [])), (106, (.getfield 12, 11, 0, 2, [])), (109, (.getfield 140, 8, 1, 0, [])), (112, (.bipush 16, 0, 0, 0, [])), (114, (.if_icmp .lt 13, 0, 0, 0, [])), (127, (.aload_n 0, 0, 0, 0, [])), (128, (.getfield 12, 11, 0, 2, [])), (131, (.iload_n 1, 0, 0, 0, []))]
def tf_X10_operator_1 : List (Nat × Step) := [(132, aPs (qLd 2 1 isI)), (133, aPs (qLd 3 1 isI)), (134, aCall 1 3 35 8 4 mh_X10_operator), (137, aRet (some .int))]
def tl_X10_operator_1 : List (Nat × IE) := [(132, (.iload_n 2, 0, 0, 0, [])), (133, (.iload_n 3, 0, 0, 0, [])), (134, (.invokevirtual 145, 35, 8, 0, [])), (137, (.ireturn, 0, 0, 0, []))]
def tf_X10_operator : List (Nat × Step) := tf_X10_operator_0 ++ (tf_X10_operator_1)
def tl_X10_operator : List (Nat × IE) := tl_X10_operator_0 ++ (tl_X10_operator_1)
def mh_L_operator : List (Nat × Nat × Nat × Nat × Nat) := [(0, 12, 15, 19, 1), (0, 12, 19, 25, 2), (0, 12, 23, 13, 0)]
def md_L_operator : MD := (yL_operator, cL_operator, 6, (some .int), 5, RL, false, mh_L_operator)
def tf_L_operator : List (Nat × Step) := [(0, aPs (qLd 4 2 isRN)), (2, aPs (qC 0)), (3, aPs (qLd 0 1 isRN)), (4, aPs (qLd 1 1 isI)), (5, aPs (qLd 2 1 isI)), (6, aPs (qLd 3 1 isI)), (7, aCall 1 3 20 11 4 mh_L_operator), (10, aPs (fun ev pc als ast => ps1 ev.1 ev.2.1 6 (.i2l) pc als ast)), (11, aWr 1 ref3 (past s2)), (12, aPs (qGo 15)), (15, aPs (qSt 6 5 2 isRN)), (17, aPs (qC 1)), (18, aRet (some .int)), (19, aPs (qSt 6 5 2 isRN)), (21, aPs (qC 2)), (22, aRet (some .int)), (27, aPs (qC 0)), (28, aRet (some .int))]
def tl_L_operator : List (Nat × IE) := [(0, (.aload 4, 0, 0, 0, [])), (2, (.iconst 0, 0, 0, 0, [])), (3, (.aload_n 0, 0, 0, 0, [])), (4, (.iload_n 1, 0, 0, 0, [])), (5, (.iload_n 2, 0, 0, 0, [])), (6, (.iload_n 3, 0, 0, 0, [])), (7, (.invokevirtual 27, 20, 11, 0, [])), (10, (.i2l, 0, 0, 0, [])), (11, (.lastore, 0, 0, 0, [])), (12, (.goto 15, 0, 0, 0, [])), (15, (.astore 5, 0, 0, 0, [])), (17, (.iconst 1, 0, 0, 0, [])), (18, (.ireturn, 0, 0, 0, [])), (19, (.astore 5, 0, 0, 0, [])), (21, (.iconst 2, 0, 0, 0, [])), (22, (.ireturn, 0, 0, 0, [])), (27, (.iconst 0, 0, 0, 0, [])), (28, (.ireturn, 0, 0, 0, []))]
def mh_X17_thrown : List (Nat × Nat × Nat × Nat × Nat) := []
def md_X17_thrown : MD := (yX17_thrown, cX17_thrown, 1, (some .int), 1, RX17, false, mh_X17_thrown)
def tf_X17_thrown : List (Nat × Step) := [(0, aPs (qLd 0 1 isRN)), (1, aSt 3 (pgf 18 0)), (4, aRet (some .int))]
def tl_X17_thrown : List (Nat × IE) := [(0, (.aload_n 0, 0, 0, 0, [])), (1, (.getfield 114, 18, 0, 0, [])), (4, (.ireturn, 0, 0, 0, []))]
def mh_X17_load : List (Nat × Nat × Nat × Nat × Nat) := []
def md_X17_load : MD := (yX17_load, cX17_load, 2, (some .int), 2, RX17, false, mh_X17_load)
def tf_X17_load : List (Nat × Step) := [(0, aPs (qLd 0 1 isRN)), (1, aPs (qLd 1 1 isI)), (2, aPs (qC 0)), (3, aPs (qB 19)), (5, aCall 0 3 19 18 3 mh_X17_load), (8, aPs (qIf .ne 7)), (11, aPs (qC 1)), (12, aPs (qGo 31)), (15, aPs (qLd 0 1 isRN)), (16, aSt 3 (pgf 18 14)), (19, aPs (qLd 1 1 isI)), (20, aSt 1 (pald k3)), (21, aPs (fun ev pc als ast => ps1 ev.1 ev.2.1 2 (.ifnull 17) pc als ast)), (38, aPs (qC 2)), (39, aPs (qGo 4)), (43, aWr 3 ref2 (ppf 18 0 0)), (46, aPs (qLd 0 1 isRN)), (47, aSt 3 (pgf 18 0)), (50, aPs (qIf .le 5)), (53, aPs (qC 0)), (54, aRet (some .int))]
def tl_X17_load : List (Nat × IE) := [(0, (.aload_n 0, 0, 0, 0, [])), (1, (.iload_n 1, 0, 0, 0, [])), (2, (.iconst 0, 0, 0, 0, [])), (3, (.bipush 19, 0, 0, 0, [])), (5, (.invokestatic 370, 19, 18, 0, [])), (8, (.ifCond .ne 7, 0, 0, 0, [])), (11, (.iconst 1, 0, 0, 0, [])), (12, (.goto 31, 0, 0, 0, [])), (15, (.aload_n 0, 0, 0, 0, [])), (16, (.getfield 50, 18, 14, 2, [])), (19, (.iload_n 1, 0, 0, 0, [])), (20, (.aaload, 0, 0, 0, [])), (21, (.ifnull 17, 0, 0, 0, [])), (38, (.iconst 2, 0, 0, 0, [])), (39, (.goto 4, 0, 0, 0, [])), (43, (.putfield 114, 18, 0, 0, [])), (46, (.aload_n 0, 0, 0, 0, [])), (47, (.getfield 114, 18, 0, 0, [])), (50, (.ifCond .le 5, 0, 0, 0, [])), (53, (.iconst 0, 0, 0, 0, [])), (54, (.ireturn, 0, 0, 0, []))]
def mh_X7_hasOperator : List (Nat × Nat × Nat × Nat × Nat) := []
def md_X7_hasOperator : MD := (yX7_hasOperator, cX7_hasOperator, 2, (some .boolean), 2, RX7, false, mh_X7_hasOperator)
def tf_X7_hasOperator : List (Nat × Step) := [(0, aPs (qLd 1 1 isI)), (1, aPs (qIf .lt 15)), (4, aPs (qLd 1 1 isI)), (5, aPs (qLd 0 1 isRN)), (6, aSt 3 (pgf 8 1)), (9, aPs (qIc .ge 7)), (16, aPs (qC 0)), (17, aRet (some .boolean))]
def tl_X7_hasOperator : List (Nat × IE) := [(0, (.iload_n 1, 0, 0, 0, [])), (1, (.ifCond .lt 15, 0, 0, 0, [])), (4, (.iload_n 1, 0, 0, 0, [])), (5, (.aload_n 0, 0, 0, 0, [])), (6, (.getfield 49, 8, 1, 0, [])), (9, (.if_icmp .ge 7, 0, 0, 0, [])), (16, (.iconst 0, 0, 0, 0, [])), (17, (.ireturn, 0, 0, 0, []))]
def mh_X17_term : List (Nat × Nat × Nat × Nat × Nat) := []
def md_X17_term : MD := (yX17_term, cX17_term, 2, (some .int), 2, RX17, false, mh_X17_term)
def tf_X17_term : List (Nat × Step) := [(0, aPs (qLd 0 1 isRN)), (1, aPs (qLd 1 1 isI)), (2, aPs (qC 0)), (3, aPs (qB 9)), (5, aCall 0 3 19 18 3 mh_X17_term), (8, aPs (qIf .ne 7)), (11, aPs (qC 1)), (12, aPs (qGo 22)), (15, aPs (qLd 0 1 isRN)), (16, aSt 3 (pgf 18 13)), (19, aCall 3 5 30 0 1 mh_X17_term), (24, aPs (qB 10)), (26, aPs (qIc .ne 7)), (33, aPs (qC 0)), (34, aWr 3 ref2 (ppf 18 0 0)), (37, aPs (qLd 0 1 isRN)), (38, aSt 3 (pgf 18 0)), (41, aPs (qIf .le 5)), (44, aPs (qC 0)), (45, aRet (some .int)), (46, aPs (qLd 0 1 isRN)), (47, aSt 3 (pgf 18 13)), (50, aPs (qLd 0 1 isRN)), (51, aSt 3 (pgf 18 29)), (54, aPs (qLd 1 1 isI)), (55, aSt 1 (pald k3)), (56, aCall 3 5 33 0 2 mh_X17_term), (61, aPs (fun ev pc als ast => ps1 ev.1 ev.2.1 2 (.pop) pc als ast)), (62, aPs (qLd 0 1 isRN)), (63, aSt 3 (pgf 18 13)), (66, aCall 3 5 30 0 1 mh_X17_term), (71, aRet (some .int))]
def tl_X17_term : List (Nat × IE) := [(0, (.aload_n 0, 0, 0, 0, [])), (1, (.iload_n 1, 0, 0, 0, [])), (2, (.iconst 0, 0, 0, 0, [])), (3, (.bipush 9, 0, 0, 0, [])), (5, (.invokestatic 370, 19, 18, 0, [])), (8, (.ifCond .ne 7, 0, 0, 0, [])), (11, (.iconst 1, 0, 0, 0, [])), (12, (.goto 22, 0, 0, 0, [])), (15, (.aload_n 0, 0, 0, 0, [])), (16, (.getfield 44, 18, 13, 2, [])), (19, (.invokeinterface 271 1, 30, 0, 0, [])), (24, (.bipush 10, 0, 0, 0, [])), (26, (.if_icmp .ne 7, 0, 0, 0, [])), (33, (.iconst 0, 0, 0, 0, [])), (34, (.putfield 114, 18, 0, 0, [])), (37, (.aload_n 0, 0, 0, 0, [])), (38, (.getfield 114, 18, 0, 0, [])), (41, (.ifCond .le 5, 0, 0, 0, [])), (44, (.iconst 0, 0, 0, 0, [])), (45, (.ireturn, 0, 0, 0, [])), (46, (.aload_n 0, 0, 0, 0, [])), (47, (.getfield 44, 18, 13, 2, [])), (50, (.aload_n 0, 0, 0, 0, [])), (51, (.getfield 75, 18, 29, 2, [])), (54, (.iload_n 1, 0, 0, 0, [])), (55, (.aaload, 0, 0, 0, [])), (56, (.invokeinterface 344 2, 33, 0, 0, [])), (61, (.pop, 0, 0, 0, [])), (62, (.aload_n 0, 0, 0, 0, [])), (63, (.getfield 44, 18, 13, 2, [])), (66, (.invokeinterface 271 1, 30, 0, 0, [])), (71, (.ireturn, 0, 0, 0, []))]
def mh_X8_end : List (Nat × Nat × Nat × Nat × Nat) := []
def md_X8_end : MD := (yX8_end, cX8_end, 5, (some .int), 2, RX8, false, mh_X8_end)
def tf_X8_end : List (Nat × Step) := [(0, aPs (qC 1)), (1, aPs (qSt 5 2 1 isI)), (2, aPs (qLd 1 1 isI)), (3, aPs (qSt 5 3 1 isI)), (4, aPs (qLd 2 1 isI)), (5, aPs (qIf .le 45)), (8, aPs (qLd 3 1 isI)), (9, aPs (qS 27500)), (12, aPs (qIc .ge 38)), (15, aPs (qLd 0 1 isRN)), (16, aSt 3 (pgf 9 1)), (19, aPs (qLd 3 1 isI)), (20, aIald), (21, aPs (qSt 5 4 2 isI)), (23, aPs (qLd 2 1 isI)), (24, aPs (qLd 4 2 isI)), (26, aPs (qB 32)), (28, aPs (qIc .ge 7)), (31, aPs (qC (-1))), (32, aPs (qGo 10)), (42, aPs qAdd), (43, aPs (qSt 5 2 1 isI)), (44, aPs (qInc 5 3 1)), (47, aPs (qGo (-43))), (50, aPs (qLd 3 1 isI)), (51, aRet (some .int))]
def tl_X8_end : List (Nat × IE) := [(0, (.iconst 1, 0, 0, 0, [])), (1, (.istore_n 2, 0, 0, 0, [])), (2, (.iload_n 1, 0, 0, 0, [])), (3, (.istore_n 3, 0, 0, 0, [])), (4, (.iload_n 2, 0, 0, 0, [])), (5, (.ifCond .le 45, 0, 0, 0, [])), (8, (.iload_n 3, 0, 0, 0, [])), (9, (.sipush 27500, 0, 0, 0, [])), (12, (.if_icmp .ge 38, 0, 0, 0, [])), (15, (.aload_n 0, 0, 0, 0, [])), (16, (.getfield 9, 9, 1, 2, [])), (19, (.iload_n 3, 0, 0, 0, [])), (20, (.iaload, 0, 0, 0, [])), (21, (.istore 4, 0, 0, 0, [])), (23, (.iload_n 2, 0, 0, 0, [])), (24, (.iload 4, 0, 0, 0, [])), (26, (.bipush 32, 0, 0, 0, [])), (28, (.if_icmp .ge 7, 0, 0, 0, [])), (31, (.iconst (-1), 0, 0, 0, [])), (32, (.goto 10, 0, 0, 0, [])), (42, (.iadd, 0, 0, 0, [])), (43, (.istore_n 2, 0, 0, 0, [])), (44, (.iinc 3 1, 0, 0, 0, [])), (47, (.goto (-43), 0, 0, 0, [])), (50, (.iload_n 3, 0, 0, 0, [])), (51, (.ireturn, 0, 0, 0, []))]
def mh_X10_load : List (Nat × Nat × Nat × Nat × Nat) := []
def md_X10_load : MD := (yX10_load, cX10_load, 2, (some .int), 2, RX10, false, mh_X10_load)
def tf_X10_load : List (Nat × Step) := [(0, aPs (qLd 1 1 isI)), (1, aPs (qIf .lt 9)), (4, aPs (qLd 1 1 isI)), (5, aPs (qB 20)), (7, aPs (qIc .lt 13)), (10, aThr 2), (13, aPs qDup), (20, aPs (qLd 0 1 isRN)), (21, aSt 3 (pgf 11 9)), (24, aPs (qLd 1 1 isI)), (25, aPs qShr), (26, aPs (qC 1)), (27, aPs (fun ev pc als ast => ps1 ev.1 ev.2.1 2 (.iand) pc als ast)), (28, aPs (qIf .eq 12)), (40, aThr 0), (43, aPs qDup), (50, aPs (qLd 0 1 isRN))]
def tl_X10_load : List (Nat × IE) := [(0, (.iload_n 1, 0, 0, 0, [])), (1, (.ifCond .lt 9, 0, 0, 0, [])), (4, (.iload_n 1, 0, 0, 0, [])), (5, (.bipush 20, 0, 0, 0, [])), (7, (.if_icmp .lt 13, 0, 0, 0, [])), (10, (.new 111, 102, 189, 115, [])), (13, (.dup, 0, 0, 0, [])), (20, (.aload_n 0, 0, 0, 0, [])), (21, (.getfield 196, 11, 9, 0, [])), (24, (.iload_n 1, 0, 0, 0, [])), (25, (.ishr, 0, 0, 0, [])), (26, (.iconst 1, 0, 0, 0, [])), (27, (.iand, 0, 0, 0, [])), (28, (.ifCond .eq 12, 0, 0, 0, [])), (40, (.new 82, 100, 199, 86, [])), (43, (.dup, 0, 0, 0, [])), (50, (.aload_n 0, 0, 0, 0, []))]
def mh_X17_tell : List (Nat × Nat × Nat × Nat × Nat) := []
def md_X17_tell : MD := (yX17_tell, cX17_tell, 8, (some .int), 3, RX17, false, mh_X17_tell)
def tf_X17_tell : List (Nat × Step) := [(0, aPs (qLd 2 1 isI)), (1, aPs (qIf .eq 7)), (4, aPs (qC 4)), (5, aPs (qGo 4)), (8, aPs (qC 2)), (9, aPs (qSt 8 3 1 isI)), (10, aPs (qLd 0 1 isRN)), (11, aSt 3 (pgf 18 13)), (14, aCall 3 5 30 0 1 mh_X17_tell), (19, aPs (qLd 3 1 isI)), (20, aPs qSub), (21, aPs (qSt 8 4 2 isI)), (23, aPs (qLd 1 1 isI)), (24, aPs (qIf .eq 10)), (27, aPs (qLd 0 1 isRN)), (28, aSt 3 (pgf 18 16)), (31, aPs (qGo 7)), (34, aPs (qLd 0 1 isRN)), (35, aSt 3 (pgf 18 15)), (38, aPs (qSt 8 5 2 isRN)), (40, aPs (qLd 0 1 isRN)), (41, aPs (qLd 4 2 isI)), (43, aPs (qIf .lt 24)), (67, aPs (qC 1)), (68, aPs (qGo 4)), (72, aWr 3 ref2 (ppf 18 0 0)), (75, aPs (qLd 0 1 isRN)), (76, aSt 3 (pgf 18 0)), (79, aPs (qIf .le 5)), (82, aPs (qC 0)), (83, aRet (some .int))]
def tl_X17_tell : List (Nat × IE) := [(0, (.iload_n 2, 0, 0, 0, [])), (1, (.ifCond .eq 7, 0, 0, 0, [])), (4, (.iconst 4, 0, 0, 0, [])), (5, (.goto 4, 0, 0, 0, [])), (8, (.iconst 2, 0, 0, 0, [])), (9, (.istore_n 3, 0, 0, 0, [])), (10, (.aload_n 0, 0, 0, 0, [])), (11, (.getfield 44, 18, 13, 2, [])), (14, (.invokeinterface 271 1, 30, 0, 0, [])), (19, (.iload_n 3, 0, 0, 0, [])), (20, (.isub, 0, 0, 0, [])), (21, (.istore 4, 0, 0, 0, [])), (23, (.iload_n 1, 0, 0, 0, [])), (24, (.ifCond .eq 10, 0, 0, 0, [])), (27, (.aload_n 0, 0, 0, 0, [])), (28, (.getfield 57, 18, 16, 2, [])), (31, (.goto 7, 0, 0, 0, [])), (34, (.aload_n 0, 0, 0, 0, [])), (35, (.getfield 54, 18, 15, 2, [])), (38, (.astore 5, 0, 0, 0, [])), (40, (.aload_n 0, 0, 0, 0, [])), (41, (.iload 4, 0, 0, 0, [])), (43, (.ifCond .lt 24, 0, 0, 0, [])), (67, (.iconst 1, 0, 0, 0, [])), (68, (.goto 4, 0, 0, 0, [])), (72, (.putfield 114, 18, 0, 0, [])), (75, (.aload_n 0, 0, 0, 0, [])), (76, (.getfield 114, 18, 0, 0, [])), (79, (.ifCond .le 5, 0, 0, 0, [])), (82, (.iconst 0, 0, 0, 0, [])), (83, (.ireturn, 0, 0, 0, []))]
def mh_Jx4a65c_grow_92f84 : List (Nat × Nat × Nat × Nat × Nat) := []
def md_Jx4a65c_grow_92f84 : MD := (yJx4a65c_grow_92f84, cJx4a65c_grow_92f84, 4, (some (.array (.object "java/lang/Object"))), 2, RJx4a65c, false, mh_Jx4a65c_grow_92f84)
def tf_Jx4a65c_grow_92f84 : List (Nat × Step) := [(0, aPs (qLd 0 1 isRN)), (1, aSt 3 (pgf 0 1)), (4, aAlen), (5, aPs (qSt 4 2 1 isI)), (6, aPs (qLd 2 1 isI)), (7, aPs (qIf .gt 13)), (10, aPs (qLd 0 1 isRN)), (11, aSt 3 (pgf 0 1)), (14, aGets), (17, aPs (fun ev pc als ast => ps1 ev.1 ev.2.1 4 (.if_acmp .eq 28) pc als ast)), (45, aPs (qLd 0 1 isRN)), (46, aPs (qB 10)), (48, aPs (qLd 1 1 isI)), (49, aSt 3 pmax), (52, aMka 3 4), (55, aPs (fun ev pc als ast => ps1 ev.1 ev.2.1 4 (.dup_x1) pc als ast)), (56, aWr 3 ref2 (ppf 0 1 2)), (59, aARet)]
def tl_Jx4a65c_grow_92f84 : List (Nat × IE) := [(0, (.aload_n 0, 0, 0, 0, [])), (1, (.getfield 9, 0, 1, 2, [])), (4, (.arraylength, 0, 0, 0, [])), (5, (.istore_n 2, 0, 0, 0, [])), (6, (.iload_n 2, 0, 0, 0, [])), (7, (.ifCond .gt 13, 0, 0, 0, [])), (10, (.aload_n 0, 0, 0, 0, [])), (11, (.getfield 9, 0, 1, 2, [])), (14, (.getstatic 39, 0, 0, 0, [])), (17, (.if_acmp .eq 28, 0, 0, 0, [])), (45, (.aload_n 0, 0, 0, 0, [])), (46, (.bipush 10, 0, 0, 0, [])), (48, (.iload_n 1, 0, 0, 0, [])), (49, (.invokestatic 79, 1001, 0, 0, [])), (52, (.anewarray 7, 1, 0, 0, [])), (55, (.dup_x1, 0, 0, 0, [])), (56, (.putfield 9, 0, 1, 2, [])), (59, (.areturn, 0, 0, 0, []))]
def mh_Jx4a65c_size_8abf5 : List (Nat × Nat × Nat × Nat × Nat) := []
def md_Jx4a65c_size_8abf5 : MD := (yJx4a65c_size_8abf5, cJx4a65c_size_8abf5, 1, (some .int), 1, RJx4a65c, false, mh_Jx4a65c_size_8abf5)
def tf_Jx4a65c_size_8abf5 : List (Nat × Step) := [(0, aPs (qLd 0 1 isRN)), (1, aSt 3 (pgf 0 2)), (4, aRet (some .int))]
def tl_Jx4a65c_size_8abf5 : List (Nat × IE) := [(0, (.aload_n 0, 0, 0, 0, [])), (1, (.getfield 48, 0, 2, 0, [])), (4, (.ireturn, 0, 0, 0, []))]
def mh_Jx4a65c_add_72be8 : List (Nat × Nat × Nat × Nat × Nat) := []
def md_Jx4a65c_add_72be8 : MD := (yJx4a65c_add_72be8, cJx4a65c_add_72be8, 4, none, 4, RJx4a65c, false, mh_Jx4a65c_add_72be8)
def tf_Jx4a65c_add_72be8 : List (Nat × Step) := [(0, aPs (qLd 3 1 isI)), (1, aPs (qLd 2 1 isRN)), (2, aAlen), (3, aPs (qIc .ne 8)), (6, aPs (qLd 0 1 isRN)), (7, aCall 1 3 42 0 1 mh_Jx4a65c_add_72be8), (10, aPs (qSt 4 2 1 isRN)), (11, aPs (qLd 2 1 isRN)), (12, aPs (qLd 3 1 isI)), (13, aPs (qLd 1 1 isRN)), (14, aWr 1 ref3 (fun ah => past (aok ah) ah)), (15, aPs (qLd 0 1 isRN)), (16, aPs (qLd 3 1 isI)), (17, aPs (qC 1)), (18, aPs qAdd), (19, aWr 3 ref2 (ppf 0 2 0)), (22, aVoid)]
def tl_Jx4a65c_add_72be8 : List (Nat × IE) := [(0, (.iload_n 3, 0, 0, 0, [])), (1, (.aload_n 2, 0, 0, 0, [])), (2, (.arraylength, 0, 0, 0, [])), (3, (.if_icmp .ne 8, 0, 0, 0, [])), (6, (.aload_n 0, 0, 0, 0, [])), (7, (.invokevirtual 129, 42, 0, 0, [])), (10, (.astore_n 2, 0, 0, 0, [])), (11, (.aload_n 2, 0, 0, 0, [])), (12, (.iload_n 3, 0, 0, 0, [])), (13, (.aload_n 1, 0, 0, 0, [])), (14, (.aastore, 0, 0, 0, [])), (15, (.aload_n 0, 0, 0, 0, [])), (16, (.iload_n 3, 0, 0, 0, [])), (17, (.iconst 1, 0, 0, 0, [])), (18, (.iadd, 0, 0, 0, [])), (19, (.putfield 48, 0, 2, 0, [])), (22, (.return_, 0, 0, 0, []))]
def mh_L_load : List (Nat × Nat × Nat × Nat × Nat) := [(0, 9, 12, 25, 2), (0, 9, 15, 13, 0)]
def md_L_load : MD := (yL_load, cL_load, 4, (some .int), 3, RL, false, mh_L_load)
def tf_L_load : List (Nat × Step) := [(0, aPs (qLd 2 1 isRN)), (1, aPs (qC 0)), (2, aPs (qLd 0 1 isRN)), (3, aPs (qLd 1 1 isI)), (4, aCall 1 3 27 11 2 mh_L_load), (12, aPs (qSt 4 3 1 isRN)), (13, aPs (qC 1)), (14, aRet (some .int)), (15, aPs (qSt 4 3 1 isRN)), (16, aPs (qC 2)), (17, aRet (some .int))]
def tl_L_load : List (Nat × IE) := [(0, (.aload_n 2, 0, 0, 0, [])), (1, (.iconst 0, 0, 0, 0, [])), (2, (.aload_n 0, 0, 0, 0, [])), (3, (.iload_n 1, 0, 0, 0, [])), (4, (.invokevirtual 45, 27, 11, 0, [])), (12, (.astore_n 3, 0, 0, 0, [])), (13, (.iconst 1, 0, 0, 0, [])), (14, (.ireturn, 0, 0, 0, [])), (15, (.astore_n 3, 0, 0, 0, [])), (16, (.iconst 2, 0, 0, 0, [])), (17, (.ireturn, 0, 0, 0, []))]
def mh_Jx4a65c_add_9ea2d : List (Nat × Nat × Nat × Nat × Nat) := []
def md_Jx4a65c_add_9ea2d : MD := (yJx4a65c_add_9ea2d, cJx4a65c_add_9ea2d, 2, (some .boolean), 2, RJx4a65c, false, mh_Jx4a65c_add_9ea2d)
def tf_Jx4a65c_add_9ea2d : List (Nat × Step) := [(0, aPs (qLd 0 1 isRN)), (1, aPs qDup), (2, aSt 3 (pgf 0 0)), (5, aPs (qC 1)), (6, aPs qAdd), (7, aWr 3 ref2 (ppf 0 0 0)), (10, aPs (qLd 0 1 isRN)), (11, aPs (qLd 1 1 isRN)), (12, aPs (qLd 0 1 isRN)), (13, aSt 3 (pgf 0 1)), (16, aPs (qLd 0 1 isRN)), (17, aSt 3 (pgf 0 2)), (20, aCall 1 3 31 0 4 mh_Jx4a65c_add_9ea2d), (23, aPs (qC 1)), (24, aRet (some .boolean))]
def tl_Jx4a65c_add_9ea2d : List (Nat × IE) := [(0, (.aload_n 0, 0, 0, 0, [])), (1, (.dup, 0, 0, 0, [])), (2, (.getfield 63, 0, 0, 0, [])), (5, (.iconst 1, 0, 0, 0, [])), (6, (.iadd, 0, 0, 0, [])), (7, (.putfield 63, 0, 0, 0, [])), (10, (.aload_n 0, 0, 0, 0, [])), (11, (.aload_n 1, 0, 0, 0, [])), (12, (.aload_n 0, 0, 0, 0, [])), (13, (.getfield 9, 0, 1, 2, [])), (16, (.aload_n 0, 0, 0, 0, [])), (17, (.getfield 48, 0, 2, 0, [])), (20, (.invokevirtual 131, 31, 0, 0, [])), (23, (.iconst 1, 0, 0, 0, [])), (24, (.ireturn, 0, 0, 0, []))]
def mh_X10_push : List (Nat × Nat × Nat × Nat × Nat) := []
def md_X10_push : MD := (yX10_push, cX10_push, 2, (some .int), 2, RX10, false, mh_X10_push)
def tf_X10_push : List (Nat × Step) := [(0, aPs (qLd 0 1 isRN)), (1, aSt 3 (pgf 11 1)), (4, aPs (qLd 1 1 isI)), (5, aPs (qLd 0 1 isRN)), (6, aSt 3 (pgf 11 8)), (9, aCall 0 3 45 11 1 mh_X10_push), (12, aCall 1 3 36 9 3 mh_X10_push), (15, aPs (qLd 0 1 isRN)), (16, aPs qDup), (17, aSt 3 (pgf 11 8)), (20, aPs (qC 1)), (21, aPs qAdd), (22, aWr 3 ref2 (ppf 11 8 0)), (25, aPs (qLd 0 1 isRN)), (26, aSt 3 (pgf 11 8)), (29, aRet (some .int))]
def tl_X10_push : List (Nat × IE) := [(0, (.aload_n 0, 0, 0, 0, [])), (1, (.getfield 21, 11, 1, 2, [])), (4, (.iload_n 1, 0, 0, 0, [])), (5, (.aload_n 0, 0, 0, 0, [])), (6, (.getfield 160, 11, 8, 0, [])), (9, (.invokestatic 176, 45, 11, 0, [])), (12, (.invokevirtual 193, 36, 9, 0, [])), (15, (.aload_n 0, 0, 0, 0, [])), (16, (.dup, 0, 0, 0, [])), (17, (.getfield 160, 11, 8, 0, [])), (20, (.iconst 1, 0, 0, 0, [])), (21, (.iadd, 0, 0, 0, [])), (22, (.putfield 160, 11, 8, 0, [])), (25, (.aload_n 0, 0, 0, 0, [])), (26, (.getfield 160, 11, 8, 0, [])), (29, (.ireturn, 0, 0, 0, []))]
def mh_X7_addOperator : List (Nat × Nat × Nat × Nat × Nat) := []
def md_X7_addOperator : MD := (yX7_addOperator, cX7_addOperator, 5, (some .int), 4, RX7, false, mh_X7_addOperator)
def tf_X7_addOperator : List (Nat × Step) := [(0, aPs (qLd 0 1 isRN)), (1, aSt 3 (pgf 8 1)), (4, aPs (qSt 5 4 2 isI)), (6, aPs (qLd 0 1 isRN)), (7, aSt 3 (pgf 8 4)), (10, aPs (qLd 4 2 isI)), (12, aPs (qLd 1 1 isI)), (13, aWr 1 ref3 (past s0)), (14, aPs (qLd 0 1 isRN)), (15, aSt 3 (pgf 8 5)), (18, aPs (qLd 4 2 isI)), (20, aPs (qLd 2 1 isI)), (21, aWr 1 ref3 (past s0)), (22, aPs (qLd 0 1 isRN)), (23, aSt 3 (pgf 8 6)), (26, aPs (qLd 4 2 isI)), (28, aPs (qLd 3 1 isI)), (29, aWr 1 ref3 (past s0)), (30, aPs (qLd 0 1 isRN)), (31, aSt 3 (pgf 8 10)), (34, aPs (qLd 4 2 isI)), (36, aPs (qLd 4 2 isI)), (38, aWr 1 ref3 (past s0)), (39, aPs (qLd 0 1 isRN)), (40, aPs qDup), (41, aSt 3 (pgf 8 1)), (44, aPs (qC 1)), (45, aPs qAdd), (46, aWr 3 ref2 (ppf 8 1 0)), (49, aPs (qLd 4 2 isI)), (51, aRet (some .int))]
def tl_X7_addOperator : List (Nat × IE) := [(0, (.aload_n 0, 0, 0, 0, [])), (1, (.getfield 49, 8, 1, 0, [])), (4, (.istore 4, 0, 0, 0, [])), (6, (.aload_n 0, 0, 0, 0, [])), (7, (.getfield 18, 8, 4, 2, [])), (10, (.iload 4, 0, 0, 0, [])), (12, (.iload_n 1, 0, 0, 0, [])), (13, (.iastore, 0, 0, 0, [])), (14, (.aload_n 0, 0, 0, 0, [])), (15, (.getfield 21, 8, 5, 2, [])), (18, (.iload 4, 0, 0, 0, [])), (20, (.iload_n 2, 0, 0, 0, [])), (21, (.iastore, 0, 0, 0, [])), (22, (.aload_n 0, 0, 0, 0, [])), (23, (.getfield 24, 8, 6, 2, [])), (26, (.iload 4, 0, 0, 0, [])), (28, (.iload_n 3, 0, 0, 0, [])), (29, (.iastore, 0, 0, 0, [])), (30, (.aload_n 0, 0, 0, 0, [])), (31, (.getfield 36, 8, 10, 2, [])), (34, (.iload 4, 0, 0, 0, [])), (36, (.iload 4, 0, 0, 0, [])), (38, (.iastore, 0, 0, 0, [])), (39, (.aload_n 0, 0, 0, 0, [])), (40, (.dup, 0, 0, 0, [])), (41, (.getfield 49, 8, 1, 0, [])), (44, (.iconst 1, 0, 0, 0, [])), (45, (.iadd, 0, 0, 0, [])), (46, (.putfield 49, 8, 1, 0, [])), (49, (.iload 4, 0, 0, 0, [])), (51, (.ireturn, 0, 0, 0, []))]
def mh_X8_store : List (Nat × Nat × Nat × Nat × Nat) := []
def md_X8_store : MD := (yX8_store, cX8_store, 3, none, 3, RX8, false, mh_X8_store)
def tf_X8_store : List (Nat × Step) := [(0, aPs (qLd 0 1 isRN)), (1, aSt 3 (pgf 9 1)), (4, aPs (qLd 1 1 isI)), (5, aPs (qLd 0 1 isRN)), (6, aSt 3 (pgf 9 1)), (9, aPs (qLd 2 1 isI)), (10, aPs (qLd 0 1 isRN)), (11, aPs (qLd 1 1 isI)), (12, aCall 1 3 26 9 2 mh_X8_store), (15, aPs (qLd 1 1 isI)), (16, aPs qSub), (17, aWr 3 ref3 pcopy), (20, aVoid)]
def tl_X8_store : List (Nat × IE) := [(0, (.aload_n 0, 0, 0, 0, [])), (1, (.getfield 9, 9, 1, 2, [])), (4, (.iload_n 1, 0, 0, 0, [])), (5, (.aload_n 0, 0, 0, 0, [])), (6, (.getfield 9, 9, 1, 2, [])), (9, (.iload_n 2, 0, 0, 0, [])), (10, (.aload_n 0, 0, 0, 0, [])), (11, (.iload_n 1, 0, 0, 0, [])), (12, (.invokevirtual 57, 26, 9, 0, [])), (15, (.iload_n 1, 0, 0, 0, [])), (16, (.isub, 0, 0, 0, [])), (17, (.invokestatic 61, 1000, 0, 0, [])), (20, (.return_, 0, 0, 0, []))]
def mh_X10_term : List (Nat × Nat × Nat × Nat × Nat) := []
def md_X10_term : MD := (yX10_term, cX10_term, 2, (some .int), 2, RX10, false, mh_X10_term)
def tf_X10_term : List (Nat × Step) := [(0, aPs (qLd 1 1 isI)), (1, aCall 0 3 39 11 1 mh_X10_term), (4, aPs (qIf .ne 13)), (7, aThr 2), (10, aPs qDup), (17, aPs (qLd 0 1 isRN)), (18, aSt 3 (pgf 11 8)), (21, aPs (qB 10)), (23, aPs (qIc .lt 13)), (36, aPs (qLd 0 1 isRN)), (37, aPs (qLd 1 1 isI)), (38, aCall 1 3 34 11 2 mh_X10_term), (41, aRet (some .int))]
def tl_X10_term : List (Nat × IE) := [(0, (.iload_n 1, 0, 0, 0, [])), (1, (.invokestatic 108, 39, 11, 0, [])), (4, (.ifCond .ne 13, 0, 0, 0, [])), (7, (.new 111, 102, 113, 115, [])), (10, (.dup, 0, 0, 0, [])), (17, (.aload_n 0, 0, 0, 0, [])), (18, (.getfield 160, 11, 8, 0, [])), (21, (.bipush 10, 0, 0, 0, [])), (23, (.if_icmp .lt 13, 0, 0, 0, [])), (36, (.aload_n 0, 0, 0, 0, [])), (37, (.iload_n 1, 0, 0, 0, [])), (38, (.invokevirtual 165, 34, 11, 0, [])), (41, (.ireturn, 0, 0, 0, []))]
def mh_L_term : List (Nat × Nat × Nat × Nat × Nat) := [(0, 9, 12, 25, 2), (0, 9, 15, 13, 0)]
def md_L_term : MD := (yL_term, cL_term, 4, (some .int), 3, RL, false, mh_L_term)
def tf_L_term : List (Nat × Step) := [(0, aPs (qLd 2 1 isRN)), (1, aPs (qC 0)), (2, aPs (qLd 0 1 isRN)), (3, aPs (qLd 1 1 isI)), (4, aCall 1 3 37 11 2 mh_L_term), (7, aPs (fun ev pc als ast => ps1 ev.1 ev.2.1 4 (.i2l) pc als ast)), (8, aWr 1 ref3 (past s2)), (9, aPs (qGo 9)), (12, aPs (qSt 4 3 1 isRN)), (13, aPs (qC 1)), (14, aRet (some .int)), (18, aPs (qC 0)), (19, aRet (some .int))]
def tl_L_term : List (Nat × IE) := [(0, (.aload_n 2, 0, 0, 0, [])), (1, (.iconst 0, 0, 0, 0, [])), (2, (.aload_n 0, 0, 0, 0, [])), (3, (.iload_n 1, 0, 0, 0, [])), (4, (.invokevirtual 35, 37, 11, 0, [])), (7, (.i2l, 0, 0, 0, [])), (8, (.lastore, 0, 0, 0, [])), (9, (.goto 9, 0, 0, 0, [])), (12, (.astore_n 3, 0, 0, 0, [])), (13, (.iconst 1, 0, 0, 0, [])), (14, (.ireturn, 0, 0, 0, [])), (18, (.iconst 0, 0, 0, 0, [])), (19, (.ireturn, 0, 0, 0, []))]
def mh_X10_isVariableNumber : List (Nat × Nat × Nat × Nat × Nat) := []
def md_X10_isVariableNumber : MD := (yX10_isVariableNumber, cX10_isVariableNumber, 1, (some .boolean), 1, RX10, false, mh_X10_isVariableNumber)
def tf_X10_isVariableNumber : List (Nat × Step) := [(0, aPs (qLd 0 1 isI)), (1, aPs (qIf .lt 13)), (4, aPs (qLd 0 1 isI)), (5, aPs (qB 10)), (7, aPs (qIc .ge 7)), (10, aPs (qC 1)), (11, aPs (qGo 4)), (14, aPs (qC 0)), (15, aRet (some .boolean))]
def tl_X10_isVariableNumber : List (Nat × IE) := [(0, (.iload_n 0, 0, 0, 0, [])), (1, (.ifCond .lt 13, 0, 0, 0, [])), (4, (.iload_n 0, 0, 0, 0, [])), (5, (.bipush 10, 0, 0, 0, [])), (7, (.if_icmp .ge 7, 0, 0, 0, [])), (10, (.iconst 1, 0, 0, 0, [])), (11, (.goto 4, 0, 0, 0, [])), (14, (.iconst 0, 0, 0, 0, [])), (15, (.ireturn, 0, 0, 0, []))]
def mh_X10_tell : List (Nat × Nat × Nat × Nat × Nat) := []
def md_X10_tell : MD := (yX10_tell, cX10_tell, 8, (some .int), 3, RX10, false, mh_X10_tell)
def tf_X10_tell : List (Nat × Step) := [(0, aPs (qLd 2 1 isI)), (1, aPs (qIf .eq 7)), (4, aPs (qC 4)), (5, aPs (qGo 4)), (8, aPs (qC 2)), (9, aPs (qSt 8 3 1 isI)), (10, aPs (qLd 0 1 isRN)), (11, aSt 3 (pgf 11 8)), (14, aPs (qLd 3 1 isI)), (15, aPs (qIc .ge 13)), (18, aThr 0), (21, aPs qDup), (28, aPs (qLd 0 1 isRN))]
def tl_X10_tell : List (Nat × IE) := [(0, (.iload_n 2, 0, 0, 0, [])), (1, (.ifCond .eq 7, 0, 0, 0, [])), (4, (.iconst 4, 0, 0, 0, [])), (5, (.goto 4, 0, 0, 0, [])), (8, (.iconst 2, 0, 0, 0, [])), (9, (.istore_n 3, 0, 0, 0, [])), (10, (.aload_n 0, 0, 0, 0, [])), (11, (.getfield 160, 11, 8, 0, [])), (14, (.iload_n 3, 0, 0, 0, [])), (15, (.if_icmp .ge 13, 0, 0, 0, [])), (18, (.new 82, 100, 250, 86, [])), (21, (.dup, 0, 0, 0, [])), (28, (.aload_n 0, 0, 0, 0, []))]
def mh_L_tell : List (Nat × Nat × Nat × Nat × Nat) := [(0, 10, 13, 13, 0)]
def md_L_tell : MD := (yL_tell, cL_tell, 5, (some .int), 4, RL, false, mh_L_tell)
def tf_L_tell : List (Nat × Step) := [(0, aPs (qLd 3 1 isRN)), (1, aPs (qC 0)), (2, aPs (qLd 0 1 isRN)), (3, aPs (qLd 1 1 isI)), (4, aPs (qLd 2 1 isI)), (5, aCall 1 3 40 11 3 mh_L_tell), (13, aPs (qSt 5 4 2 isRN)), (15, aPs (qC 1)), (16, aRet (some .int))]
def tl_L_tell : List (Nat × IE) := [(0, (.aload_n 3, 0, 0, 0, [])), (1, (.iconst 0, 0, 0, 0, [])), (2, (.aload_n 0, 0, 0, 0, [])), (3, (.iload_n 1, 0, 0, 0, [])), (4, (.iload_n 2, 0, 0, 0, [])), (5, (.invokevirtual 63, 40, 11, 0, [])), (13, (.astore 4, 0, 0, 0, [])), (15, (.iconst 1, 0, 0, 0, [])), (16, (.ireturn, 0, 0, 0, []))]
def mh_Jx4a65c_grow_d5877 : List (Nat × Nat × Nat × Nat × Nat) := []
def md_Jx4a65c_grow_d5877 : MD := (yJx4a65c_grow_d5877, cJx4a65c_grow_d5877, 1, (some (.array (.object "java/lang/Object"))), 1, RJx4a65c, false, mh_Jx4a65c_grow_d5877)
def tf_Jx4a65c_grow_d5877 : List (Nat × Step) := [(0, aPs (qLd 0 1 isRN)), (1, aPs (qLd 0 1 isRN)), (2, aSt 3 (pgf 0 2)), (5, aPs (qC 1)), (6, aPs qAdd), (7, aCall 1 3 29 0 2 mh_Jx4a65c_grow_d5877), (10, aARet)]
def tl_Jx4a65c_grow_d5877 : List (Nat × IE) := [(0, (.aload_n 0, 0, 0, 0, [])), (1, (.aload_n 0, 0, 0, 0, [])), (2, (.getfield 48, 0, 2, 0, [])), (5, (.iconst 1, 0, 0, 0, [])), (6, (.iadd, 0, 0, 0, [])), (7, (.invokevirtual 69, 29, 0, 0, [])), (10, (.areturn, 0, 0, 0, []))]
def mh_Jx4a65c_isEmpty_aae02 : List (Nat × Nat × Nat × Nat × Nat) := []
def md_Jx4a65c_isEmpty_aae02 : MD := (yJx4a65c_isEmpty_aae02, cJx4a65c_isEmpty_aae02, 1, (some .boolean), 1, RJx4a65c, false, mh_Jx4a65c_isEmpty_aae02)
def tf_Jx4a65c_isEmpty_aae02 : List (Nat × Step) := [(0, aPs (qLd 0 1 isRN)), (1, aSt 3 (pgf 0 2)), (4, aPs (qIf .ne 7)), (7, aPs (qC 1)), (8, aPs (qGo 4)), (12, aRet (some .boolean))]
def tl_Jx4a65c_isEmpty_aae02 : List (Nat × IE) := [(0, (.aload_n 0, 0, 0, 0, [])), (1, (.getfield 48, 0, 2, 0, [])), (4, (.ifCond .ne 7, 0, 0, 0, [])), (7, (.iconst 1, 0, 0, 0, [])), (8, (.goto 4, 0, 0, 0, [])), (12, (.ireturn, 0, 0, 0, []))]
def mh_X8_startAnew : List (Nat × Nat × Nat × Nat × Nat) := []
def md_X8_startAnew : MD := (yX8_startAnew, cX8_startAnew, 1, none, 1, RX8, false, mh_X8_startAnew)
def tf_X8_startAnew : List (Nat × Step) := [(0, aPs (qLd 0 1 isRN)), (1, aPs (qS 7500)), (4, aWr 3 ref2 (ppf 9 2 0)), (7, aPs (qLd 0 1 isRN)), (8, aPs (qC 0)), (9, aWr 3 ref2 (ppf 9 4 0)), (12, aPs (qLd 0 1 isRN)), (13, aPs (qC (-1))), (14, aWr 3 ref2 (ppf 9 8 0)), (17, aPs (qLd 0 1 isRN)), (18, aPs (qC 0)), (19, aWr 3 ref2 (ppf 9 10 1)), (22, aPs (qLd 0 1 isRN)), (23, aCall 1 3 78 9 1 mh_X8_startAnew), (26, aVoid)]
def tl_X8_startAnew : List (Nat × IE) := [(0, (.aload_n 0, 0, 0, 0, [])), (1, (.sipush 7500, 0, 0, 0, [])), (4, (.putfield 15, 9, 2, 0, [])), (7, (.aload_n 0, 0, 0, 0, [])), (8, (.iconst 0, 0, 0, 0, [])), (9, (.putfield 41, 9, 4, 0, [])), (12, (.aload_n 0, 0, 0, 0, [])), (13, (.iconst (-1), 0, 0, 0, [])), (14, (.putfield 31, 9, 8, 0, [])), (17, (.aload_n 0, 0, 0, 0, [])), (18, (.iconst 0, 0, 0, 0, [])), (19, (.putfield 44, 9, 10, 1, [])), (22, (.aload_n 0, 0, 0, 0, [])), (23, (.invokevirtual 48, 78, 9, 0, [])), (26, (.return_, 0, 0, 0, []))]
def mh_X10_stackAt : List (Nat × Nat × Nat × Nat × Nat) := []
def md_X10_stackAt : MD := (yX10_stackAt, cX10_stackAt, 1, (some .int), 1, RX10, false, mh_X10_stackAt)
def tf_X10_stackAt : List (Nat × Step) := [(0, aPs (qB 20)), (2, aPs (qLd 0 1 isI)), (3, aPs (qB 20)), (5, aPs qMul), (6, aPs qAdd), (7, aRet (some .int))]
def tl_X10_stackAt : List (Nat × IE) := [(0, (.bipush 20, 0, 0, 0, [])), (2, (.iload_n 0, 0, 0, 0, [])), (3, (.bipush 20, 0, 0, 0, [])), (5, (.imul, 0, 0, 0, [])), (6, (.iadd, 0, 0, 0, [])), (7, (.ireturn, 0, 0, 0, []))]
def mh_X17_declare : List (Nat × Nat × Nat × Nat × Nat) := []
def md_X17_declare : MD := (yX17_declare, cX17_declare, 9, (some .int), 6, RX17, false, mh_X17_declare)
def tf_X17_declare : List (Nat × Step) := [(0, aPs (qLd 1 1 isI)), (1, aPs (qC 0)), (2, aPs (qLd 0 1 isRN)), (3, aSt 3 (pgf 18 4)), (6, aPs (qC 1)), (7, aPs qSub), (8, aCall 0 3 19 18 3 mh_X17_declare), (11, aPs (qIf .eq 15)), (26, aPs (qC 0)), (27, aPs (qSt 9 6 2 isI)), (29, aPs (qLd 6 2 isI)), (31, aPs (qIf .eq 12)), (43, aPs (qC 0)), (44, aPs (qSt 9 7 2 isI)), (46, aPs (qLd 6 2 isI)), (48, aPs (qIf .eq 51)), (99, aPs (qC 0)), (100, aPs (qSt 9 6 2 isI)), (102, aPs (qLd 0 1 isRN)), (103, aPs (qLd 6 2 isI)), (105, aPs (qIf .ne 7)), (108, aPs (qC 1)), (109, aPs (qGo 25)), (134, aWr 3 ref2 (ppf 18 0 0)), (137, aPs (qLd 0 1 isRN)), (138, aSt 3 (pgf 18 0)), (141, aPs (qIf .le 5)), (144, aPs (qC 0)), (145, aRet (some .int))]
def tl_X17_declare : List (Nat × IE) := [(0, (.iload_n 1, 0, 0, 0, [])), (1, (.iconst 0, 0, 0, 0, [])), (2, (.aload_n 0, 0, 0, 0, [])), (3, (.getfield 493, 18, 4, 0, [])), (6, (.iconst 1, 0, 0, 0, [])), (7, (.isub, 0, 0, 0, [])), (8, (.invokestatic 370, 19, 18, 0, [])), (11, (.ifCond .eq 15, 0, 0, 0, [])), (26, (.iconst 0, 0, 0, 0, [])), (27, (.istore 6, 0, 0, 0, [])), (29, (.iload 6, 0, 0, 0, [])), (31, (.ifCond .eq 12, 0, 0, 0, [])), (43, (.iconst 0, 0, 0, 0, [])), (44, (.istore 7, 0, 0, 0, [])), (46, (.iload 6, 0, 0, 0, [])), (48, (.ifCond .eq 51, 0, 0, 0, [])), (99, (.iconst 0, 0, 0, 0, [])), (100, (.istore 6, 0, 0, 0, [])), (102, (.aload_n 0, 0, 0, 0, [])), (103, (.iload 6, 0, 0, 0, [])), (105, (.ifCond .ne 7, 0, 0, 0, [])), (108, (.iconst 1, 0, 0, 0, [])), (109, (.goto 25, 0, 0, 0, [])), (134, (.putfield 114, 18, 0, 0, [])), (137, (.aload_n 0, 0, 0, 0, [])), (138, (.getfield 114, 18, 0, 0, [])), (141, (.ifCond .le 5, 0, 0, 0, [])), (144, (.iconst 0, 0, 0, 0, [])), (145, (.ireturn, 0, 0, 0, []))]
def mh_X10_complete : List (Nat × Nat × Nat × Nat × Nat) := []
def md_X10_complete : MD := (yX10_complete, cX10_complete, 6, (some .int), 1, RX10, false, mh_X10_complete)
def tf_X10_complete_0 : List (Nat × Step) := [(0, aPs (qC 0)), (1, aPs (qSt 6 1 1 isI)), (2, aPs (qC 1)), (3, aPs (qSt 6 2 1 isI)), (4, aPs (qLd 0 1 isRN)), (5, aSt 3 (pgf 11 7)), (8, aPs (qC 0)), (9, aWr 3 ref2 (ppf 1 12 0)), (12, aPs (qC 0)), (13, aPs (qSt 6 3 1 isI)), (14, aPs (qLd 3 1 isI)), (15, aPs (qB 12)), (17, aPs (qIc .gt 138)), (20, aPs (qLd 2 1 isI)), (21, aPs (qIf .eq 134)), (24, aPs (qLd 0 1 isRN)), (25, aSt 3 (pgf 11 1)), (28, aCall 1 3 44 9 1 mh_X10_complete), (31, aPs (qLd 0 1 isRN)), (32, aSt 3 (pgf 11 7)), (35, aCall 1 3 64 1 1 mh_X10_complete), (38, aPs (qC 1)), (39, aPs (qSt 6 4 2 isI)), (41, aPs (qC 0)), (42, aPs (qSt 6 5 2 isI)), (44, aPs (qLd 5 2 isI)), (46, aPs (qLd 0 1 isRN)), (47, aSt 3 (pgf 11 7)), (50, aSt 3 (pgf 1 4)), (53, aPs (qIc .ge 51)), (104, aPs (qLd 4 2 isI)), (106, aPs (qIf .ne 29)), (135, aPs (qC 0)), (136, aPs (qSt 6 2 1 isI)), (137, aPs (qLd 1 1 isI)), (138, aPs (qLd 2 1 isI)), (139, aPs (qIf .eq 7)), (146, aPs (qC 0)), (147, aPs qAdd), (148, aPs (qSt 6 1 1 isI))]
def tl_X10_complete_0 : List (Nat × IE) := [(0, (.iconst 0, 0, 0, 0, [])), (1, (.istore_n 1, 0, 0, 0, [])), (2, (.iconst 1, 0, 0, 0, [])), (3, (.istore_n 2, 0, 0, 0, [])), (4, (.aload_n 0, 0, 0, 0, [])), (5, (.getfield 74, 11, 7, 2, [])), (8, (.iconst 0, 0, 0, 0, [])), (9, (.putfield 382, 1, 12, 0, [])), (12, (.iconst 0, 0, 0, 0, [])), (13, (.istore_n 3, 0, 0, 0, [])), (14, (.iload_n 3, 0, 0, 0, [])), (15, (.bipush 12, 0, 0, 0, [])), (17, (.if_icmp .gt 138, 0, 0, 0, [])), (20, (.iload_n 2, 0, 0, 0, [])), (21, (.ifCond .eq 134, 0, 0, 0, [])), (24, (.aload_n 0, 0, 0, 0, [])), (25, (.getfield 21, 11, 1, 2, [])), (28, (.invokevirtual 173, 44, 9, 0, [])), (31, (.aload_n 0, 0, 0, 0, [])), (32, (.getfield 74, 11, 7, 2, [])), (35, (.invokevirtual 358, 64, 1, 0, [])), (38, (.iconst 1, 0, 0, 0, [])), (39, (.istore 4, 0, 0, 0, [])), (41, (.iconst 0, 0, 0, 0, [])), (42, (.istore 5, 0, 0, 0, [])), (44, (.iload 5, 0, 0, 0, [])), (46, (.aload_n 0, 0, 0, 0, [])), (47, (.getfield 74, 11, 7, 2, [])), (50, (.getfield 361, 1, 4, 0, [])), (53, (.if_icmp .ge 51, 0, 0, 0, [])), (104, (.iload 4, 0, 0, 0, [])), (106, (.ifCond .ne 29, 0, 0, 0, [])), (135, (.iconst 0, 0, 0, 0, [])), (136, (.istore_n 2, 0, 0, 0, [])), (137, (.iload_n 1, 0, 0, 0, [])), (138, (.iload_n 2, 0, 0, 0, [])), (139, (.ifCond .eq 7, 0, 0, 0, [])), (146, (.iconst 0, 0, 0, 0, [])), (147, (.iadd, 0, 0, 0, [])), (148, (.istore_n 1, 0, 0, 0, []))]
def tf_X10_complete_1 : List (Nat × Step) := [(149, aPs (qInc 6 3 1)), (152, aPs (qGo (-138))), (155, aPs (qLd 1 1 isI)), (156, aRet (some .int))]
def tl_X10_complete_1 : List (Nat × IE) := [(149, (.iinc 3 1, 0, 0, 0, [])), (152, (.goto (-138), 0, 0, 0, [])), (155, (.iload_n 1, 0, 0, 0, [])), (156, (.ireturn, 0, 0, 0, []))]
def tf_X10_complete : List (Nat × Step) := tf_X10_complete_0 ++ (tf_X10_complete_1)
def tl_X10_complete : List (Nat × IE) := tl_X10_complete_0 ++ (tl_X10_complete_1)
def mh_X17_both : List (Nat × Nat × Nat × Nat × Nat) := []
def md_X17_both : MD := (yX17_both, cX17_both, 4, (some .int), 2, RX17, false, mh_X17_both)
def tf_X17_both : List (Nat × Step) := [(0, aPs (qLd 0 1 isRN)), (1, aSt 3 (pgf 18 17)), (4, aCall 3 5 30 0 1 mh_X17_both), (9, aPs (qSt 4 2 1 isI)), (10, aPs (qLd 0 1 isRN)), (11, aPs (qLd 2 1 isI)), (12, aPs (qC 2)), (13, aPs (qIc .lt 47)), (60, aPs (qC 1)), (61, aPs (qGo 4)), (65, aWr 3 ref2 (ppf 18 0 0)), (68, aPs (qLd 0 1 isRN)), (69, aSt 3 (pgf 18 0)), (72, aPs (qIf .le 5)), (75, aPs (qC 0)), (76, aRet (some .int))]
def tl_X17_both : List (Nat × IE) := [(0, (.aload_n 0, 0, 0, 0, [])), (1, (.getfield 60, 18, 17, 2, [])), (4, (.invokeinterface 271 1, 30, 0, 0, [])), (9, (.istore_n 2, 0, 0, 0, [])), (10, (.aload_n 0, 0, 0, 0, [])), (11, (.iload_n 2, 0, 0, 0, [])), (12, (.iconst 2, 0, 0, 0, [])), (13, (.if_icmp .lt 47, 0, 0, 0, [])), (60, (.iconst 1, 0, 0, 0, [])), (61, (.goto 4, 0, 0, 0, [])), (65, (.putfield 114, 18, 0, 0, [])), (68, (.aload_n 0, 0, 0, 0, [])), (69, (.getfield 114, 18, 0, 0, [])), (72, (.ifCond .le 5, 0, 0, 0, [])), (75, (.iconst 0, 0, 0, 0, [])), (76, (.ireturn, 0, 0, 0, []))]
def mh_X17_holds : List (Nat × Nat × Nat × Nat × Nat) := []
def md_X17_holds : MD := (yX17_holds, cX17_holds, 6, (some .boolean), 2, RX17, false, mh_X17_holds)
def tf_X17_holds : List (Nat × Step) := [(0, aPs (qLd 0 1 isRN)), (1, aPs (qLd 1 1 isI)), (2, aPs (qC 0)), (3, aPs (qC 2)), (4, aCall 0 3 19 18 3 mh_X17_holds), (7, aPs (qIf .ne 7)), (10, aPs (qC 1)), (11, aPs (qGo 44)), (14, aPs (qLd 0 1 isRN)), (15, aSt 3 (pgf 18 13)), (18, aCall 3 5 43 0 1 mh_X17_holds), (23, aPs (qIf .ne 27)), (50, aPs (qC 2)), (51, aPs (qGo 4)), (55, aWr 3 ref2 (ppf 18 0 0)), (58, aPs (qLd 0 1 isRN)), (59, aSt 3 (pgf 18 0)), (62, aPs (qIf .le 5)), (65, aPs (qC 0)), (66, aRet (some .boolean))]
def tl_X17_holds : List (Nat × IE) := [(0, (.aload_n 0, 0, 0, 0, [])), (1, (.iload_n 1, 0, 0, 0, [])), (2, (.iconst 0, 0, 0, 0, [])), (3, (.iconst 2, 0, 0, 0, [])), (4, (.invokestatic 370, 19, 18, 0, [])), (7, (.ifCond .ne 7, 0, 0, 0, [])), (10, (.iconst 1, 0, 0, 0, [])), (11, (.goto 44, 0, 0, 0, [])), (14, (.aload_n 0, 0, 0, 0, [])), (15, (.getfield 44, 18, 13, 2, [])), (18, (.invokeinterface 351 1, 43, 0, 0, [])), (23, (.ifCond .ne 27, 0, 0, 0, [])), (50, (.iconst 2, 0, 0, 0, [])), (51, (.goto 4, 0, 0, 0, [])), (55, (.putfield 114, 18, 0, 0, [])), (58, (.aload_n 0, 0, 0, 0, [])), (59, (.getfield 114, 18, 0, 0, [])), (62, (.ifCond .le 5, 0, 0, 0, [])), (65, (.iconst 0, 0, 0, 0, [])), (66, (.ireturn, 0, 0, 0, []))]
def mh_X17_keep : List (Nat × Nat × Nat × Nat × Nat) := []
def md_X17_keep : MD := (yX17_keep, cX17_keep, 2, (some .int), 2, RX17, false, mh_X17_keep)
def tf_X17_keep : List (Nat × Step) := [(0, aPs (qLd 0 1 isRN)), (1, aPs (qLd 1 1 isI)), (2, aPs (qC 0)), (3, aPs (qB 19)), (5, aCall 0 3 19 18 3 mh_X17_keep), (8, aPs (qIf .ne 7)), (11, aPs (qC 1)), (12, aPs (qGo 20)), (15, aPs (qLd 0 1 isRN)), (16, aSt 3 (pgf 18 13)), (19, aCall 3 5 43 0 1 mh_X17_keep), (24, aPs (qIf .eq 7)), (27, aPs (qC 2)), (28, aPs (qGo 4)), (32, aWr 3 ref2 (ppf 18 0 0)), (35, aPs (qLd 0 1 isRN)), (36, aSt 3 (pgf 18 0)), (39, aPs (qIf .le 5)), (42, aPs (qC 0)), (43, aRet (some .int))]
def tl_X17_keep : List (Nat × IE) := [(0, (.aload_n 0, 0, 0, 0, [])), (1, (.iload_n 1, 0, 0, 0, [])), (2, (.iconst 0, 0, 0, 0, [])), (3, (.bipush 19, 0, 0, 0, [])), (5, (.invokestatic 370, 19, 18, 0, [])), (8, (.ifCond .ne 7, 0, 0, 0, [])), (11, (.iconst 1, 0, 0, 0, [])), (12, (.goto 20, 0, 0, 0, [])), (15, (.aload_n 0, 0, 0, 0, [])), (16, (.getfield 44, 18, 13, 2, [])), (19, (.invokeinterface 351 1, 43, 0, 0, [])), (24, (.ifCond .eq 7, 0, 0, 0, [])), (27, (.iconst 2, 0, 0, 0, [])), (28, (.goto 4, 0, 0, 0, [])), (32, (.putfield 114, 18, 0, 0, [])), (35, (.aload_n 0, 0, 0, 0, [])), (36, (.getfield 114, 18, 0, 0, [])), (39, (.ifCond .le 5, 0, 0, 0, [])), (42, (.iconst 0, 0, 0, 0, [])), (43, (.ireturn, 0, 0, 0, []))]
def mh_X17_weight : List (Nat × Nat × Nat × Nat × Nat) := []
def md_X17_weight : MD := (yX17_weight, cX17_weight, 6, (some .int), 4, RX17, false, mh_X17_weight)
def tf_X17_weight : List (Nat × Step) := [(0, aPs (qLd 1 1 isI)), (1, aPs (qC 0)), (2, aPs (qLd 0 1 isRN)), (3, aSt 3 (pgf 18 4)), (6, aPs (qC 1)), (7, aPs qSub), (8, aCall 0 3 19 18 3 mh_X17_weight), (11, aPs (qIf .eq 35)), (46, aPs (qC 0)), (47, aPs (qSt 6 4 2 isI)), (49, aPs (qLd 0 1 isRN)), (50, aPs (qLd 4 2 isI)), (52, aPs (qIf .ne 7)), (55, aPs (qC 1)), (56, aPs (qGo 34)), (90, aWr 3 ref2 (ppf 18 0 0)), (93, aPs (qLd 0 1 isRN)), (94, aSt 3 (pgf 18 0)), (97, aPs (qIf .le 5)), (100, aPs (qC 0)), (101, aRet (some .int))]
def tl_X17_weight : List (Nat × IE) := [(0, (.iload_n 1, 0, 0, 0, [])), (1, (.iconst 0, 0, 0, 0, [])), (2, (.aload_n 0, 0, 0, 0, [])), (3, (.getfield 493, 18, 4, 0, [])), (6, (.iconst 1, 0, 0, 0, [])), (7, (.isub, 0, 0, 0, [])), (8, (.invokestatic 370, 19, 18, 0, [])), (11, (.ifCond .eq 35, 0, 0, 0, [])), (46, (.iconst 0, 0, 0, 0, [])), (47, (.istore 4, 0, 0, 0, [])), (49, (.aload_n 0, 0, 0, 0, [])), (50, (.iload 4, 0, 0, 0, [])), (52, (.ifCond .ne 7, 0, 0, 0, [])), (55, (.iconst 1, 0, 0, 0, [])), (56, (.goto 34, 0, 0, 0, [])), (90, (.putfield 114, 18, 0, 0, [])), (93, (.aload_n 0, 0, 0, 0, [])), (94, (.getfield 114, 18, 0, 0, [])), (97, (.ifCond .le 5, 0, 0, 0, [])), (100, (.iconst 0, 0, 0, 0, [])), (101, (.ireturn, 0, 0, 0, []))]
def mh_X17_complete : List (Nat × Nat × Nat × Nat × Nat) := [(22, 134, 137, 135, 9)]
def md_X17_complete : MD := (yX17_complete, cX17_complete, 5, (some .int), 1, RX17, false, mh_X17_complete)
def tf_X17_complete : List (Nat × Step) := [(0, aPs (qLd 0 1 isRN)), (1, aPs (qC 0)), (2, aWr 3 ref2 (ppf 18 0 0)), (5, aPs (qLd 0 1 isRN)), (6, aSt 3 (pgf 18 15)), (9, aCall 3 5 30 0 1 mh_X17_complete), (14, aPs (qSt 5 1 1 isI)), (15, aPs (qLd 0 1 isRN)), (16, aPs (qC 0)), (17, aWr 3 ref2 (ppf 18 27 0)), (20, aPs (qC 1)), (21, aPs (qSt 5 2 1 isI)), (22, aPs (qLd 2 1 isI)), (23, aPs (qIf .eq 111)), (26, aPs (qLd 0 1 isRN)), (27, aSt 3 (pgf 18 15)), (30, aCall 3 5 30 0 1 mh_X17_complete), (35, aPs (qB 12)), (37, aPs (qIc .ge 97)), (40, aPs (qLd 0 1 isRN)), (41, aCall 1 3 121 18 1 mh_X17_complete), (44, aPs (qSt 5 3 1 isRN)), (45, aPs (qLd 3 1 isRN)), (46, aPs (fun ev pc als ast => ps1 ev.1 ev.2.1 5 (.ifnull 22) pc als ast)), (68, aPs (qC 0)), (69, aPs (qSt 5 4 2 isI)), (71, aPs (qLd 4 2 isI)), (73, aPs (qIf .eq 18)), (91, aPs (qLd 3 1 isRN)), (92, aPs (fun ev pc als ast => ps1 ev.1 ev.2.1 5 (.ifnull 37) pc als ast)), (129, aPs (qC 0)), (130, aPs (qSt 5 2 1 isI)), (131, aPs (qGo (-109))), (134, aPs (qGo 6)), (140, aPs (qLd 0 1 isRN)), (141, aSt 3 (pgf 18 15)), (144, aCall 3 5 30 0 1 mh_X17_complete), (149, aPs (qLd 1 1 isI)), (150, aPs qSub), (151, aRet (some .int))]
def tl_X17_complete : List (Nat × IE) := [(0, (.aload_n 0, 0, 0, 0, [])), (1, (.iconst 0, 0, 0, 0, [])), (2, (.putfield 114, 18, 0, 0, [])), (5, (.aload_n 0, 0, 0, 0, [])), (6, (.getfield 54, 18, 15, 2, [])), (9, (.invokeinterface 271 1, 30, 0, 0, [])), (14, (.istore_n 1, 0, 0, 0, [])), (15, (.aload_n 0, 0, 0, 0, [])), (16, (.iconst 0, 0, 0, 0, [])), (17, (.putfield 321, 18, 27, 0, [])), (20, (.iconst 1, 0, 0, 0, [])), (21, (.istore_n 2, 0, 0, 0, [])), (22, (.iload_n 2, 0, 0, 0, [])), (23, (.ifCond .eq 111, 0, 0, 0, [])), (26, (.aload_n 0, 0, 0, 0, [])), (27, (.getfield 54, 18, 15, 2, [])), (30, (.invokeinterface 271 1, 30, 0, 0, [])), (35, (.bipush 12, 0, 0, 0, [])), (37, (.if_icmp .ge 97, 0, 0, 0, [])), (40, (.aload_n 0, 0, 0, 0, [])), (41, (.invokevirtual 508, 121, 18, 0, [])), (44, (.astore_n 3, 0, 0, 0, [])), (45, (.aload_n 3, 0, 0, 0, [])), (46, (.ifnull 22, 0, 0, 0, [])), (68, (.iconst 0, 0, 0, 0, [])), (69, (.istore 4, 0, 0, 0, [])), (71, (.iload 4, 0, 0, 0, [])), (73, (.ifCond .eq 18, 0, 0, 0, [])), (91, (.aload_n 3, 0, 0, 0, [])), (92, (.ifnull 37, 0, 0, 0, [])), (129, (.iconst 0, 0, 0, 0, [])), (130, (.istore_n 2, 0, 0, 0, [])), (131, (.goto (-109), 0, 0, 0, [])), (134, (.goto 6, 0, 0, 0, [])), (140, (.aload_n 0, 0, 0, 0, [])), (141, (.getfield 54, 18, 15, 2, [])), (144, (.invokeinterface 271 1, 30, 0, 0, [])), (149, (.iload_n 1, 0, 0, 0, [])), (150, (.isub, 0, 0, 0, [])), (151, (.ireturn, 0, 0, 0, []))]
def mh_X17_view : List (Nat × Nat × Nat × Nat × Nat) := []
def md_X17_view : MD := (yX17_view, cX17_view, 5, (some .int), 3, RX17, false, mh_X17_view)
def tf_X17_view : List (Nat × Step) := [(0, aPs (qLd 1 1 isI)), (1, aPs (qC 0)), (2, aPs (qLd 0 1 isRN)), (3, aSt 3 (pgf 18 4)), (6, aPs (qC 1)), (7, aPs qSub), (8, aCall 0 3 19 18 3 mh_X17_view), (11, aPs (qIf .eq 21)), (32, aPs (qC 0)), (33, aPs (qSt 5 3 1 isI)), (34, aPs (qLd 0 1 isRN)), (35, aPs (qLd 3 1 isI)), (36, aPs (qIf .ne 7)), (39, aPs (qC 1)), (40, aPs (qGo 38)), (78, aWr 3 ref2 (ppf 18 0 0)), (81, aPs (qLd 0 1 isRN)), (82, aSt 3 (pgf 18 0)), (85, aPs (qIf .le 5)), (88, aPs (qC 0)), (89, aRet (some .int))]
def tl_X17_view : List (Nat × IE) := [(0, (.iload_n 1, 0, 0, 0, [])), (1, (.iconst 0, 0, 0, 0, [])), (2, (.aload_n 0, 0, 0, 0, [])), (3, (.getfield 493, 18, 4, 0, [])), (6, (.iconst 1, 0, 0, 0, [])), (7, (.isub, 0, 0, 0, [])), (8, (.invokestatic 370, 19, 18, 0, [])), (11, (.ifCond .eq 21, 0, 0, 0, [])), (32, (.iconst 0, 0, 0, 0, [])), (33, (.istore_n 3, 0, 0, 0, [])), (34, (.aload_n 0, 0, 0, 0, [])), (35, (.iload_n 3, 0, 0, 0, [])), (36, (.ifCond .ne 7, 0, 0, 0, [])), (39, (.iconst 1, 0, 0, 0, [])), (40, (.goto 38, 0, 0, 0, [])), (78, (.putfield 114, 18, 0, 0, [])), (81, (.aload_n 0, 0, 0, 0, [])), (82, (.getfield 114, 18, 0, 0, [])), (85, (.ifCond .le 5, 0, 0, 0, [])), (88, (.iconst 0, 0, 0, 0, [])), (89, (.ireturn, 0, 0, 0, []))]
def mh_X17_use : List (Nat × Nat × Nat × Nat × Nat) := []
def md_X17_use : MD := (yX17_use, cX17_use, 2, (some .int), 2, RX17, false, mh_X17_use)
def tf_X17_use : List (Nat × Step) := [(0, aPs (qLd 0 1 isRN)), (1, aPs (qLd 1 1 isI)), (2, aPs (qC 0)), (3, aPs (qLd 0 1 isRN)), (4, aSt 3 (pgf 18 16)), (7, aCall 3 5 30 0 1 mh_X17_use), (12, aPs (qC 1)), (13, aPs qSub), (14, aCall 0 3 19 18 3 mh_X17_use), (17, aPs (qIf .ne 7)), (20, aPs (qC 1)), (21, aPs (qGo 22)), (43, aWr 3 ref2 (ppf 18 0 0)), (46, aPs (qLd 0 1 isRN)), (47, aSt 3 (pgf 18 0)), (50, aPs (qIf .le 7)), (53, aPs (qC 0)), (54, aPs (qGo 19)), (73, aRet (some .int))]
def tl_X17_use : List (Nat × IE) := [(0, (.aload_n 0, 0, 0, 0, [])), (1, (.iload_n 1, 0, 0, 0, [])), (2, (.iconst 0, 0, 0, 0, [])), (3, (.aload_n 0, 0, 0, 0, [])), (4, (.getfield 57, 18, 16, 2, [])), (7, (.invokeinterface 271 1, 30, 0, 0, [])), (12, (.iconst 1, 0, 0, 0, [])), (13, (.isub, 0, 0, 0, [])), (14, (.invokestatic 370, 19, 18, 0, [])), (17, (.ifCond .ne 7, 0, 0, 0, [])), (20, (.iconst 1, 0, 0, 0, [])), (21, (.goto 22, 0, 0, 0, [])), (43, (.putfield 114, 18, 0, 0, [])), (46, (.aload_n 0, 0, 0, 0, [])), (47, (.getfield 114, 18, 0, 0, [])), (50, (.ifCond .le 7, 0, 0, 0, [])), (53, (.iconst 0, 0, 0, 0, [])), (54, (.goto 19, 0, 0, 0, [])), (73, (.ireturn, 0, 0, 0, []))]
def mh_X17_joins : List (Nat × Nat × Nat × Nat × Nat) := [(39, 73, 74, 135, 9)]
def md_X17_joins : MD := (yX17_joins, cX17_joins, 4, (some .int), 2, RX17, false, mh_X17_joins)
def tf_X17_joins : List (Nat × Step) := [(0, aPs (qLd 0 1 isRN)), (1, aCall 1 3 58 18 1 mh_X17_joins), (4, aPs (qSt 4 2 1 isRN)), (5, aPs (qLd 0 1 isRN)), (6, aPs (qLd 1 1 isI)), (7, aPs (qC 0)), (8, aPs (qLd 2 1 isRN)), (9, aCall 3 5 30 0 1 mh_X17_joins), (14, aPs (qC 1)), (15, aPs qSub), (16, aCall 0 3 19 18 3 mh_X17_joins), (19, aPs (qIf .eq 7)), (26, aPs (qC 1)), (27, aWr 3 ref2 (ppf 18 0 0)), (30, aPs (qLd 0 1 isRN)), (31, aSt 3 (pgf 18 0)), (34, aPs (qIf .le 5)), (37, aPs (qC 0)), (38, aRet (some .int))]
def tl_X17_joins : List (Nat × IE) := [(0, (.aload_n 0, 0, 0, 0, [])), (1, (.invokevirtual 476, 58, 18, 0, [])), (4, (.astore_n 2, 0, 0, 0, [])), (5, (.aload_n 0, 0, 0, 0, [])), (6, (.iload_n 1, 0, 0, 0, [])), (7, (.iconst 0, 0, 0, 0, [])), (8, (.aload_n 2, 0, 0, 0, [])), (9, (.invokeinterface 271 1, 30, 0, 0, [])), (14, (.iconst 1, 0, 0, 0, [])), (15, (.isub, 0, 0, 0, [])), (16, (.invokestatic 370, 19, 18, 0, [])), (19, (.ifCond .eq 7, 0, 0, 0, [])), (26, (.iconst 1, 0, 0, 0, [])), (27, (.putfield 114, 18, 0, 0, [])), (30, (.aload_n 0, 0, 0, 0, [])), (31, (.getfield 114, 18, 0, 0, [])), (34, (.ifCond .le 5, 0, 0, 0, [])), (37, (.iconst 0, 0, 0, 0, [])), (38, (.ireturn, 0, 0, 0, []))]
def mh_X17_state : List (Nat × Nat × Nat × Nat × Nat) := []
def md_X17_state : MD := (yX17_state, cX17_state, 2, (some .int), 2, RX17, false, mh_X17_state)
def tf_X17_state : List (Nat × Step) := [(0, aPs (qLd 0 1 isRN)), (1, aPs (qLd 1 1 isI)), (2, aPs (qC 0)), (3, aPs (qLd 0 1 isRN)), (4, aSt 3 (pgf 18 20)), (7, aCall 3 5 30 0 1 mh_X17_state), (12, aPs (qC 1)), (13, aPs qSub), (14, aCall 0 3 19 18 3 mh_X17_state), (17, aPs (qIf .ne 7)), (20, aPs (qC 1)), (21, aPs (qGo 22)), (43, aWr 3 ref2 (ppf 18 0 0)), (46, aPs (qLd 0 1 isRN)), (47, aSt 3 (pgf 18 0)), (50, aPs (qIf .le 5)), (53, aPs (qC 0)), (54, aRet (some .int))]
def tl_X17_state : List (Nat × IE) := [(0, (.aload_n 0, 0, 0, 0, [])), (1, (.iload_n 1, 0, 0, 0, [])), (2, (.iconst 0, 0, 0, 0, [])), (3, (.aload_n 0, 0, 0, 0, [])), (4, (.getfield 63, 18, 20, 2, [])), (7, (.invokeinterface 271 1, 30, 0, 0, [])), (12, (.iconst 1, 0, 0, 0, [])), (13, (.isub, 0, 0, 0, [])), (14, (.invokestatic 370, 19, 18, 0, [])), (17, (.ifCond .ne 7, 0, 0, 0, [])), (20, (.iconst 1, 0, 0, 0, [])), (21, (.goto 22, 0, 0, 0, [])), (43, (.putfield 114, 18, 0, 0, [])), (46, (.aload_n 0, 0, 0, 0, [])), (47, (.getfield 114, 18, 0, 0, [])), (50, (.ifCond .le 5, 0, 0, 0, [])), (53, (.iconst 0, 0, 0, 0, [])), (54, (.ireturn, 0, 0, 0, []))]
def mh_X17_cameBy : List (Nat × Nat × Nat × Nat × Nat) := []
def md_X17_cameBy : MD := (yX17_cameBy, cX17_cameBy, 2, (some .int), 2, RX17, false, mh_X17_cameBy)
def tf_X17_cameBy : List (Nat × Step) := [(0, aPs (qLd 0 1 isRN)), (1, aPs (qLd 1 1 isI)), (2, aPs (qC 1)), (3, aPs (qLd 0 1 isRN)), (4, aSt 3 (pgf 18 20)), (7, aCall 3 5 30 0 1 mh_X17_cameBy), (12, aPs (qC 1)), (13, aPs qSub), (14, aCall 0 3 19 18 3 mh_X17_cameBy), (17, aPs (qIf .eq 7)), (24, aPs (qC 1)), (25, aWr 3 ref2 (ppf 18 0 0)), (28, aPs (qLd 0 1 isRN)), (29, aSt 3 (pgf 18 0)), (32, aPs (qIf .le 7)), (35, aPs (qC 0)), (36, aPs (qGo 9)), (45, aRet (some .int))]
def tl_X17_cameBy : List (Nat × IE) := [(0, (.aload_n 0, 0, 0, 0, [])), (1, (.iload_n 1, 0, 0, 0, [])), (2, (.iconst 1, 0, 0, 0, [])), (3, (.aload_n 0, 0, 0, 0, [])), (4, (.getfield 63, 18, 20, 2, [])), (7, (.invokeinterface 271 1, 30, 0, 0, [])), (12, (.iconst 1, 0, 0, 0, [])), (13, (.isub, 0, 0, 0, [])), (14, (.invokestatic 370, 19, 18, 0, [])), (17, (.ifCond .eq 7, 0, 0, 0, [])), (24, (.iconst 1, 0, 0, 0, [])), (25, (.putfield 114, 18, 0, 0, [])), (28, (.aload_n 0, 0, 0, 0, [])), (29, (.getfield 114, 18, 0, 0, [])), (32, (.ifCond .le 7, 0, 0, 0, [])), (35, (.iconst 0, 0, 0, 0, [])), (36, (.goto 9, 0, 0, 0, [])), (45, (.ireturn, 0, 0, 0, []))]
def mh_X17_allPairs : List (Nat × Nat × Nat × Nat × Nat) := []
def md_X17_allPairs : MD := (yX17_allPairs, cX17_allPairs, 8, (some (.object "java/util/List")), 1, RX17, false, mh_X17_allPairs)
def tf_X17_allPairs : List (Nat × Step) := [(0, aPs (qLd 0 1 isRN)), (1, aSt 3 (pgf 18 43)), (4, aPs (qLd 0 1 isRN)), (5, aSt 3 (pgf 18 15)), (8, aCall 3 5 30 0 1 mh_X17_allPairs), (13, aPs (qIc .ne 8)), (16, aPs (qLd 0 1 isRN)), (17, aSt 3 (pgf 18 42)), (20, aARet)]
def tl_X17_allPairs : List (Nat × IE) := [(0, (.aload_n 0, 0, 0, 0, [])), (1, (.getfield 465, 18, 43, 0, [])), (4, (.aload_n 0, 0, 0, 0, [])), (5, (.getfield 54, 18, 15, 2, [])), (8, (.invokeinterface 271 1, 30, 0, 0, [])), (13, (.if_icmp .ne 8, 0, 0, 0, [])), (16, (.aload_n 0, 0, 0, 0, [])), (17, (.getfield 105, 18, 42, 2, [])), (20, (.areturn, 0, 0, 0, []))]
def mh_X17_copy : List (Nat × Nat × Nat × Nat × Nat) := [(77, 148, 151, 135, 9)]
def md_X17_copy : MD := (yX17_copy, cX17_copy, 5, (some .int), 2, RX17, false, mh_X17_copy)
def tf_X17_copy : List (Nat × Step) := [(0, aPs (qLd 0 1 isRN)), (1, aPs (qLd 1 1 isI)), (2, aPs (qC 0)), (3, aPs (qLd 0 1 isRN)), (4, aSt 3 (pgf 18 15)), (7, aCall 3 5 30 0 1 mh_X17_copy), (12, aPs (qC 1)), (13, aPs qSub), (14, aCall 0 3 19 18 3 mh_X17_copy), (17, aPs (qIf .ne 7)), (20, aPs (qC 1)), (21, aPs (qGo 22)), (43, aWr 3 ref2 (ppf 18 0 0)), (46, aPs (qLd 0 1 isRN)), (47, aSt 3 (pgf 18 0)), (50, aPs (qIf .le 5)), (53, aPs (qC 0)), (54, aRet (some .int))]
def tl_X17_copy : List (Nat × IE) := [(0, (.aload_n 0, 0, 0, 0, [])), (1, (.iload_n 1, 0, 0, 0, [])), (2, (.iconst 0, 0, 0, 0, [])), (3, (.aload_n 0, 0, 0, 0, [])), (4, (.getfield 54, 18, 15, 2, [])), (7, (.invokeinterface 271 1, 30, 0, 0, [])), (12, (.iconst 1, 0, 0, 0, [])), (13, (.isub, 0, 0, 0, [])), (14, (.invokestatic 370, 19, 18, 0, [])), (17, (.ifCond .ne 7, 0, 0, 0, [])), (20, (.iconst 1, 0, 0, 0, [])), (21, (.goto 22, 0, 0, 0, [])), (43, (.putfield 114, 18, 0, 0, [])), (46, (.aload_n 0, 0, 0, 0, [])), (47, (.getfield 114, 18, 0, 0, [])), (50, (.ifCond .le 5, 0, 0, 0, [])), (53, (.iconst 0, 0, 0, 0, [])), (54, (.ireturn, 0, 0, 0, []))]
def mh_X17_descends : List (Nat × Nat × Nat × Nat × Nat) := []
def md_X17_descends : MD := (yX17_descends, cX17_descends, 2, (some .boolean), 2, RX17, false, mh_X17_descends)
def tf_X17_descends : List (Nat × Step) := [(0, aPs (qLd 0 1 isRN)), (1, aPs (qLd 1 1 isI)), (2, aPs (qC 0)), (3, aPs (qLd 0 1 isRN)), (4, aSt 3 (pgf 18 15)), (7, aCall 3 5 30 0 1 mh_X17_descends), (12, aPs (qC 1)), (13, aPs qSub), (14, aCall 0 3 19 18 3 mh_X17_descends), (17, aPs (qIf .eq 7)), (24, aPs (qC 1)), (25, aWr 3 ref2 (ppf 18 0 0)), (28, aPs (qLd 0 1 isRN)), (29, aSt 3 (pgf 18 0)), (32, aPs (qIf .ne 46)), (78, aPs (qC 0)), (79, aRet (some .boolean))]
def tl_X17_descends : List (Nat × IE) := [(0, (.aload_n 0, 0, 0, 0, [])), (1, (.iload_n 1, 0, 0, 0, [])), (2, (.iconst 0, 0, 0, 0, [])), (3, (.aload_n 0, 0, 0, 0, [])), (4, (.getfield 54, 18, 15, 2, [])), (7, (.invokeinterface 271 1, 30, 0, 0, [])), (12, (.iconst 1, 0, 0, 0, [])), (13, (.isub, 0, 0, 0, [])), (14, (.invokestatic 370, 19, 18, 0, [])), (17, (.ifCond .eq 7, 0, 0, 0, [])), (24, (.iconst 1, 0, 0, 0, [])), (25, (.putfield 114, 18, 0, 0, [])), (28, (.aload_n 0, 0, 0, 0, [])), (29, (.getfield 114, 18, 0, 0, [])), (32, (.ifCond .ne 46, 0, 0, 0, [])), (78, (.iconst 0, 0, 0, 0, [])), (79, (.ireturn, 0, 0, 0, []))]
def mh_X17_isSort : List (Nat × Nat × Nat × Nat × Nat) := []
def md_X17_isSort : MD := (yX17_isSort, cX17_isSort, 2, (some .boolean), 2, RX17, false, mh_X17_isSort)
def tf_X17_isSort : List (Nat × Step) := [(0, aPs (qLd 1 1 isI)), (1, aPs (qC 0)), (2, aPs (qLd 0 1 isRN)), (3, aSt 3 (pgf 18 1)), (6, aPs (qC 1)), (7, aPs qSub), (8, aCall 0 3 19 18 3 mh_X17_isSort), (11, aRet (some .boolean))]
def tl_X17_isSort : List (Nat × IE) := [(0, (.iload_n 1, 0, 0, 0, [])), (1, (.iconst 0, 0, 0, 0, [])), (2, (.aload_n 0, 0, 0, 0, [])), (3, (.getfield 528, 18, 1, 0, [])), (6, (.iconst 1, 0, 0, 0, [])), (7, (.isub, 0, 0, 0, [])), (8, (.invokestatic 370, 19, 18, 0, [])), (11, (.ireturn, 0, 0, 0, []))]
def mh_X17_apply : List (Nat × Nat × Nat × Nat × Nat) := [(126, 134, 137, 135, 9)]
def md_X17_apply : MD := (yX17_apply, cX17_apply, 6, (some .int), 2, RX17, false, mh_X17_apply)
def tf_X17_apply : List (Nat × Step) := [(0, aPs (qLd 0 1 isRN)), (1, aPs (qLd 1 1 isI)), (2, aPs (qC 0)), (3, aPs (qLd 0 1 isRN)), (4, aSt 3 (pgf 18 4)), (7, aPs (qC 1)), (8, aPs qSub), (9, aCall 0 3 19 18 3 mh_X17_apply), (12, aPs (qIf .eq 7)), (19, aPs (qC 1)), (20, aWr 3 ref2 (ppf 18 0 0)), (23, aPs (qLd 0 1 isRN)), (24, aSt 3 (pgf 18 0)), (27, aPs (qIf .le 5)), (30, aPs (qC 0)), (31, aRet (some .int))]
def tl_X17_apply : List (Nat × IE) := [(0, (.aload_n 0, 0, 0, 0, [])), (1, (.iload_n 1, 0, 0, 0, [])), (2, (.iconst 0, 0, 0, 0, [])), (3, (.aload_n 0, 0, 0, 0, [])), (4, (.getfield 493, 18, 4, 0, [])), (7, (.iconst 1, 0, 0, 0, [])), (8, (.isub, 0, 0, 0, [])), (9, (.invokestatic 370, 19, 18, 0, [])), (12, (.ifCond .eq 7, 0, 0, 0, [])), (19, (.iconst 1, 0, 0, 0, [])), (20, (.putfield 114, 18, 0, 0, [])), (23, (.aload_n 0, 0, 0, 0, [])), (24, (.getfield 114, 18, 0, 0, [])), (27, (.ifCond .le 5, 0, 0, 0, [])), (30, (.iconst 0, 0, 0, 0, [])), (31, (.ireturn, 0, 0, 0, []))]
def mh_X14_init : List (Nat × Nat × Nat × Nat × Nat) := []
def md_X14_init : MD := (yX14_init, cX14_init, 6, none, 6, RX14, true, mh_X14_init)
def tf_X14_init : List (Nat × Step) := [(0, aPs (qLd 0 1 isRN)), (1, aObj), (4, aPs (qLd 0 1 isRN)), (5, aPs (qLd 1 1 isI)), (6, aWr 3 ref2 (ppf 15 0 0)), (9, aPs (qLd 0 1 isRN)), (10, aPs (qLd 2 1 isI)), (11, aWr 3 ref2 (ppf 15 1 0)), (14, aPs (qLd 0 1 isRN)), (15, aPs (qLd 3 1 isRN)), (16, aWr 3 ref2 (ppf 15 2 2)), (19, aPs (qLd 0 1 isRN)), (20, aPs (qLd 4 2 isRN)), (22, aWr 3 ref2 (ppf 15 3 2)), (25, aPs (qLd 0 1 isRN)), (26, aPs (qLd 5 2 isRN)), (28, aWr 3 ref2 (ppf 15 4 2)), (31, aPs (qLd 0 1 isRN)), (32, aPs (qC 1)), (33, aPs (qLd 4 2 isRN)), (35, aPs (fun ev pc als ast => ps1 ev.1 ev.2.1 6 (.ifnonnull 7) pc als ast)), (38, aPs (qC 0)), (39, aPs (qGo 8)), (47, aPs qAdd), (48, aPs (qLd 5 2 isRN)), (50, aPs (fun ev pc als ast => ps1 ev.1 ev.2.1 6 (.ifnonnull 7) pc als ast)), (53, aPs (qC 0)), (54, aPs (qGo 8)), (62, aPs qAdd), (63, aWr 3 ref2 (ppf 15 5 0)), (66, aVoid)]
def tl_X14_init : List (Nat × IE) := [(0, (.aload_n 0, 0, 0, 0, [])), (1, (.invokespecial 1, 1000, 0, 0, [])), (4, (.aload_n 0, 0, 0, 0, [])), (5, (.iload_n 1, 0, 0, 0, [])), (6, (.putfield 7, 15, 0, 0, [])), (9, (.aload_n 0, 0, 0, 0, [])), (10, (.iload_n 2, 0, 0, 0, [])), (11, (.putfield 13, 15, 1, 0, [])), (14, (.aload_n 0, 0, 0, 0, [])), (15, (.aload_n 3, 0, 0, 0, [])), (16, (.putfield 16, 15, 2, 2, [])), (19, (.aload_n 0, 0, 0, 0, [])), (20, (.aload 4, 0, 0, 0, [])), (22, (.putfield 20, 15, 3, 2, [])), (25, (.aload_n 0, 0, 0, 0, [])), (26, (.aload 5, 0, 0, 0, [])), (28, (.putfield 24, 15, 4, 2, [])), (31, (.aload_n 0, 0, 0, 0, [])), (32, (.iconst 1, 0, 0, 0, [])), (33, (.aload 4, 0, 0, 0, [])), (35, (.ifnonnull 7, 0, 0, 0, [])), (38, (.iconst 0, 0, 0, 0, [])), (39, (.goto 8, 0, 0, 0, [])), (47, (.iadd, 0, 0, 0, [])), (48, (.aload 5, 0, 0, 0, [])), (50, (.ifnonnull 7, 0, 0, 0, [])), (53, (.iconst 0, 0, 0, 0, [])), (54, (.goto 8, 0, 0, 0, [])), (62, (.iadd, 0, 0, 0, [])), (63, (.putfield 27, 15, 5, 0, [])), (66, (.return_, 0, 0, 0, []))]
def mh_X0_bringUpToDate : List (Nat × Nat × Nat × Nat × Nat) := []
def md_X0_bringUpToDate : MD := (yX0_bringUpToDate, cX0_bringUpToDate, 7, none, 1, RX0, false, mh_X0_bringUpToDate)
def tf_X0_bringUpToDate : List (Nat × Step) := [(0, aPs (qLd 0 1 isRN)), (1, aSt 3 (pgf 1 8)), (4, aPs (qLd 0 1 isRN)), (5, aSt 3 (pgf 1 2)), (8, aSt 3 (pgf 3 2)), (11, aPs (qIc .ne 4)), (14, aVoid)]
def tl_X0_bringUpToDate : List (Nat × IE) := [(0, (.aload_n 0, 0, 0, 0, [])), (1, (.getfield 51, 1, 8, 0, [])), (4, (.aload_n 0, 0, 0, 0, [])), (5, (.getfield 46, 1, 2, 2, [])), (8, (.getfield 55, 3, 2, 0, [])), (11, (.if_icmp .ne 4, 0, 0, 0, [])), (14, (.return_, 0, 0, 0, []))]
def mh_X17_below : List (Nat × Nat × Nat × Nat × Nat) := []
def md_X17_below : MD := (yX17_below, cX17_below, 7, (some .boolean), 3, RX17, false, mh_X17_below)
def tf_X17_below : List (Nat × Step) := [(0, aPs (qLd 0 1 isRN)), (1, aPs (qLd 0 1 isRN)), (2, aPs (qLd 1 1 isI)), (3, aCall 1 3 61 18 2 mh_X17_below), (6, aPs (qIf .eq 11)), (17, aPs (qC 1)), (18, aPs (qGo 17)), (35, aWr 3 ref2 (ppf 18 0 0)), (38, aPs (qLd 0 1 isRN)), (39, aSt 3 (pgf 18 0)), (42, aPs (qIf .le 5)), (45, aPs (qC 0)), (46, aRet (some .boolean))]
def tl_X17_below : List (Nat × IE) := [(0, (.aload_n 0, 0, 0, 0, [])), (1, (.aload_n 0, 0, 0, 0, [])), (2, (.iload_n 1, 0, 0, 0, [])), (3, (.invokevirtual 531, 61, 18, 0, [])), (6, (.ifCond .eq 11, 0, 0, 0, [])), (17, (.iconst 1, 0, 0, 0, [])), (18, (.goto 17, 0, 0, 0, [])), (35, (.putfield 114, 18, 0, 0, [])), (38, (.aload_n 0, 0, 0, 0, [])), (39, (.getfield 114, 18, 0, 0, [])), (42, (.ifCond .le 5, 0, 0, 0, [])), (45, (.iconst 0, 0, 0, 0, [])), (46, (.ireturn, 0, 0, 0, []))]
def mh_X17_variable : List (Nat × Nat × Nat × Nat × Nat) := []
def md_X17_variable : MD := (yX17_variable, cX17_variable, 4, (some .int), 3, RX17, false, mh_X17_variable)
def tf_X17_variable : List (Nat × Step) := [(0, aPs (qLd 0 1 isRN)), (1, aPs (qLd 0 1 isRN)), (2, aPs (qLd 2 1 isI)), (3, aCall 1 3 61 18 2 mh_X17_variable), (6, aPs (qIf .ne 7)), (9, aPs (qC 1)), (10, aPs (qGo 29)), (39, aWr 3 ref2 (ppf 18 0 0)), (42, aPs (qLd 0 1 isRN)), (43, aSt 3 (pgf 18 0)), (46, aPs (qIf .le 5)), (49, aPs (qC 0)), (50, aRet (some .int))]
def tl_X17_variable : List (Nat × IE) := [(0, (.aload_n 0, 0, 0, 0, [])), (1, (.aload_n 0, 0, 0, 0, [])), (2, (.iload_n 2, 0, 0, 0, [])), (3, (.invokevirtual 531, 61, 18, 0, [])), (6, (.ifCond .ne 7, 0, 0, 0, [])), (9, (.iconst 1, 0, 0, 0, [])), (10, (.goto 29, 0, 0, 0, [])), (39, (.putfield 114, 18, 0, 0, [])), (42, (.aload_n 0, 0, 0, 0, [])), (43, (.getfield 114, 18, 0, 0, [])), (46, (.ifCond .le 5, 0, 0, 0, [])), (49, (.iconst 0, 0, 0, 0, [])), (50, (.ireturn, 0, 0, 0, []))]
def mh_X7_hasSort : List (Nat × Nat × Nat × Nat × Nat) := []
def md_X7_hasSort : MD := (yX7_hasSort, cX7_hasSort, 2, (some .boolean), 2, RX7, false, mh_X7_hasSort)
def tf_X7_hasSort : List (Nat × Step) := [(0, aPs (qLd 1 1 isI)), (1, aPs (qIf .lt 15)), (4, aPs (qLd 1 1 isI)), (5, aPs (qLd 0 1 isRN)), (6, aSt 3 (pgf 8 0)), (9, aPs (qIc .ge 7)), (16, aPs (qC 0)), (17, aRet (some .boolean))]
def tl_X7_hasSort : List (Nat × IE) := [(0, (.iload_n 1, 0, 0, 0, [])), (1, (.ifCond .lt 15, 0, 0, 0, [])), (4, (.iload_n 1, 0, 0, 0, [])), (5, (.aload_n 0, 0, 0, 0, [])), (6, (.getfield 45, 8, 0, 0, [])), (9, (.if_icmp .ge 7, 0, 0, 0, [])), (16, (.iconst 0, 0, 0, 0, [])), (17, (.ireturn, 0, 0, 0, []))]
def mh_X17_sort : List (Nat × Nat × Nat × Nat × Nat) := []
def md_X17_sort : MD := (yX17_sort, cX17_sort, 1, (some .int), 1, RX17, false, mh_X17_sort)
def tf_X17_sort : List (Nat × Step) := [(0, aPs (qLd 0 1 isRN)), (1, aPs (qLd 0 1 isRN)), (2, aSt 3 (pgf 18 1)), (5, aPs (qB 8)), (7, aPs (qIc .ne 7)), (14, aPs (qC 0)), (15, aWr 3 ref2 (ppf 18 0 0)), (18, aPs (qLd 0 1 isRN)), (19, aPs qDup), (20, aSt 3 (pgf 18 1)), (23, aPs (qLd 0 1 isRN)), (24, aSt 3 (pgf 18 0)), (27, aPs (qIf .le 7)), (34, aPs (qC 1)), (35, aPs qAdd), (36, aWr 3 ref2 (ppf 18 1 0)), (39, aPs (qLd 0 1 isRN)), (40, aSt 3 (pgf 18 0)), (43, aPs (qIf .le 7)), (50, aPs (qLd 0 1 isRN)), (51, aSt 3 (pgf 18 1)), (54, aPs (qC 1)), (55, aPs qSub), (56, aRet (some .int))]
def tl_X17_sort : List (Nat × IE) := [(0, (.aload_n 0, 0, 0, 0, [])), (1, (.aload_n 0, 0, 0, 0, [])), (2, (.getfield 528, 18, 1, 0, [])), (5, (.bipush 8, 0, 0, 0, [])), (7, (.if_icmp .ne 7, 0, 0, 0, [])), (14, (.iconst 0, 0, 0, 0, [])), (15, (.putfield 114, 18, 0, 0, [])), (18, (.aload_n 0, 0, 0, 0, [])), (19, (.dup, 0, 0, 0, [])), (20, (.getfield 528, 18, 1, 0, [])), (23, (.aload_n 0, 0, 0, 0, [])), (24, (.getfield 114, 18, 0, 0, [])), (27, (.ifCond .le 7, 0, 0, 0, [])), (34, (.iconst 1, 0, 0, 0, [])), (35, (.iadd, 0, 0, 0, [])), (36, (.putfield 528, 18, 1, 0, [])), (39, (.aload_n 0, 0, 0, 0, [])), (40, (.getfield 114, 18, 0, 0, [])), (43, (.ifCond .le 7, 0, 0, 0, [])), (50, (.aload_n 0, 0, 0, 0, [])), (51, (.getfield 528, 18, 1, 0, [])), (54, (.iconst 1, 0, 0, 0, [])), (55, (.isub, 0, 0, 0, [])), (56, (.ireturn, 0, 0, 0, []))]
def mh_L_declare : List (Nat × Nat × Nat × Nat × Nat) := [(0, 16, 19, 19, 1), (0, 16, 23, 13, 0)]
def md_L_declare : MD := (yL_declare, cL_declare, 8, (some .int), 7, RL, false, mh_L_declare)
def tf_L_declare : List (Nat × Step) := [(0, aPs (qLd 6 2 isRN)), (2, aPs (qC 0)), (3, aPs (qLd 0 1 isRN)), (4, aPs (qLd 1 1 isI)), (5, aPs (qLd 2 1 isI)), (6, aPs (qLd 3 1 isI)), (7, aPs (qLd 4 2 isI)), (9, aPs (qLd 5 2 isI)), (11, aCall 1 3 109 11 6 mh_L_declare), (19, aPs (qSt 8 7 2 isRN)), (21, aPs (qC 1)), (22, aRet (some .int))]
def tl_L_declare : List (Nat × IE) := [(0, (.aload 6, 0, 0, 0, [])), (2, (.iconst 0, 0, 0, 0, [])), (3, (.aload_n 0, 0, 0, 0, [])), (4, (.iload_n 1, 0, 0, 0, [])), (5, (.iload_n 2, 0, 0, 0, [])), (6, (.iload_n 3, 0, 0, 0, [])), (7, (.iload 4, 0, 0, 0, [])), (9, (.iload 5, 0, 0, 0, [])), (11, (.invokevirtual 31, 109, 11, 0, [])), (19, (.astore 7, 0, 0, 0, [])), (21, (.iconst 1, 0, 0, 0, [])), (22, (.ireturn, 0, 0, 0, []))]
def mh_L_keep : List (Nat × Nat × Nat × Nat × Nat) := [(0, 9, 12, 25, 2), (0, 9, 15, 13, 0)]
def md_L_keep : MD := (yL_keep, cL_keep, 4, (some .int), 3, RL, false, mh_L_keep)
def tf_L_keep : List (Nat × Step) := [(0, aPs (qLd 2 1 isRN)), (1, aPs (qC 0)), (2, aPs (qLd 0 1 isRN)), (3, aPs (qLd 1 1 isI)), (4, aCall 1 3 84 11 2 mh_L_keep), (12, aPs (qSt 4 3 1 isRN)), (13, aPs (qC 1)), (14, aRet (some .int)), (15, aPs (qSt 4 3 1 isRN)), (16, aPs (qC 2)), (17, aRet (some .int))]
def tl_L_keep : List (Nat × IE) := [(0, (.aload_n 2, 0, 0, 0, [])), (1, (.iconst 0, 0, 0, 0, [])), (2, (.aload_n 0, 0, 0, 0, [])), (3, (.iload_n 1, 0, 0, 0, [])), (4, (.invokevirtual 42, 84, 11, 0, [])), (12, (.astore_n 3, 0, 0, 0, [])), (13, (.iconst 1, 0, 0, 0, [])), (14, (.ireturn, 0, 0, 0, [])), (15, (.astore_n 3, 0, 0, 0, [])), (16, (.iconst 2, 0, 0, 0, [])), (17, (.ireturn, 0, 0, 0, []))]
def mh_L_holds : List (Nat × Nat × Nat × Nat × Nat) := [(0, 16, 19, 25, 2), (0, 16, 22, 13, 0)]
def md_L_holds : MD := (yL_holds, cL_holds, 4, (some .int), 3, RL, false, mh_L_holds)
def tf_L_holds : List (Nat × Step) := [(0, aPs (qLd 2 1 isRN)), (1, aPs (qC 0)), (2, aPs (qLd 0 1 isRN)), (3, aPs (qLd 1 1 isI)), (4, aCall 1 3 85 11 2 mh_L_holds), (19, aPs (qSt 4 3 1 isRN)), (20, aPs (qC 1)), (21, aRet (some .int)), (22, aPs (qSt 4 3 1 isRN)), (23, aPs (qC 2)), (24, aRet (some .int))]
def tl_L_holds : List (Nat × IE) := [(0, (.aload_n 2, 0, 0, 0, [])), (1, (.iconst 0, 0, 0, 0, [])), (2, (.aload_n 0, 0, 0, 0, [])), (3, (.iload_n 1, 0, 0, 0, [])), (4, (.invokevirtual 88, 85, 11, 0, [])), (19, (.astore_n 3, 0, 0, 0, [])), (20, (.iconst 1, 0, 0, 0, [])), (21, (.ireturn, 0, 0, 0, [])), (22, (.astore_n 3, 0, 0, 0, [])), (23, (.iconst 2, 0, 0, 0, [])), (24, (.ireturn, 0, 0, 0, []))]
def mh_L_both : List (Nat × Nat × Nat × Nat × Nat) := [(0, 9, 12, 13, 0)]
def md_L_both : MD := (yL_both, cL_both, 4, (some .int), 3, RL, false, mh_L_both)
def tf_L_both : List (Nat × Step) := [(0, aPs (qLd 2 1 isRN)), (1, aPs (qC 0)), (2, aPs (qLd 0 1 isRN)), (3, aPs (qLd 1 1 isI)), (4, aCall 1 3 86 11 2 mh_L_both), (12, aPs (qSt 4 3 1 isRN)), (13, aPs (qC 1)), (14, aRet (some .int))]
def tl_L_both : List (Nat × IE) := [(0, (.aload_n 2, 0, 0, 0, [])), (1, (.iconst 0, 0, 0, 0, [])), (2, (.aload_n 0, 0, 0, 0, [])), (3, (.iload_n 1, 0, 0, 0, [])), (4, (.invokevirtual 101, 86, 11, 0, [])), (12, (.astore_n 3, 0, 0, 0, [])), (13, (.iconst 1, 0, 0, 0, [])), (14, (.ireturn, 0, 0, 0, []))]
def mh_X10_joins : List (Nat × Nat × Nat × Nat × Nat) := []
def md_X10_joins : MD := (yX10_joins, cX10_joins, 2, (some .int), 2, RX10, false, mh_X10_joins)
def tf_X10_joins : List (Nat × Step) := [(0, aPs (qLd 0 1 isRN)), (1, aSt 3 (pgf 11 1)), (4, aCall 1 3 44 9 1 mh_X10_joins), (7, aPs (qLd 0 1 isRN)), (8, aSt 3 (pgf 11 7)), (11, aCall 1 3 64 1 1 mh_X10_joins), (14, aPs (qLd 1 1 isI)), (15, aPs (qIf .lt 14)), (18, aPs (qLd 1 1 isI)), (19, aPs (qLd 0 1 isRN)), (20, aSt 3 (pgf 11 7)), (23, aSt 3 (pgf 1 4)), (26, aPs (qIc .lt 14)), (29, aThr 1), (32, aPs qDup)]
def tl_X10_joins : List (Nat × IE) := [(0, (.aload_n 0, 0, 0, 0, [])), (1, (.getfield 21, 11, 1, 2, [])), (4, (.invokevirtual 173, 44, 9, 0, [])), (7, (.aload_n 0, 0, 0, 0, [])), (8, (.getfield 74, 11, 7, 2, [])), (11, (.invokevirtual 358, 64, 1, 0, [])), (14, (.iload_n 1, 0, 0, 0, [])), (15, (.ifCond .lt 14, 0, 0, 0, [])), (18, (.iload_n 1, 0, 0, 0, [])), (19, (.aload_n 0, 0, 0, 0, [])), (20, (.getfield 74, 11, 7, 2, [])), (23, (.getfield 361, 1, 4, 0, [])), (26, (.if_icmp .lt 14, 0, 0, 0, [])), (29, (.new 93, 101, 362, 97, [1])), (32, (.dup, 0, 0, 0, []))]
def mh_X17_idle : List (Nat × Nat × Nat × Nat × Nat) := []
def md_X17_idle : MD := (yX17_idle, cX17_idle, 1, (some .int), 1, RX17, false, mh_X17_idle)
def tf_X17_idle : List (Nat × Step) := [(0, aPs (qLd 0 1 isRN)), (1, aPs (qLd 0 1 isRN)), (2, aSt 3 (pgf 18 17)), (5, aCall 3 5 30 0 1 mh_X17_idle), (10, aPs (qB 8)), (12, aPs (qIc .ne 7)), (19, aPs (qC 0)), (20, aWr 3 ref2 (ppf 18 0 0)), (23, aPs (qLd 0 1 isRN)), (24, aSt 3 (pgf 18 0)), (27, aPs (qIf .le 7)), (34, aPs (qLd 0 1 isRN)), (35, aNew 15 [0, 0, 2, 2, 2, 0]), (38, aPs qDup), (39, aPs (qC 1)), (40, aPs (qC 0)), (41, aPs (fun ev pc als ast => ps1 ev.1 ev.2.1 1 (.aconst_null) pc als ast)), (42, aPs (fun ev pc als ast => ps1 ev.1 ev.2.1 1 (.aconst_null) pc als ast)), (43, aPs (fun ev pc als ast => ps1 ev.1 ev.2.1 1 (.aconst_null) pc als ast)), (44, aCall 2 3 63 15 6 mh_X17_idle), (47, aCall 1 3 125 18 2 mh_X17_idle), (50, aRet (some .int))]
def tl_X17_idle : List (Nat × IE) := [(0, (.aload_n 0, 0, 0, 0, [])), (1, (.aload_n 0, 0, 0, 0, [])), (2, (.getfield 60, 18, 17, 2, [])), (5, (.invokeinterface 271 1, 30, 0, 0, [])), (10, (.bipush 8, 0, 0, 0, [])), (12, (.if_icmp .ne 7, 0, 0, 0, [])), (19, (.iconst 0, 0, 0, 0, [])), (20, (.putfield 114, 18, 0, 0, [])), (23, (.aload_n 0, 0, 0, 0, [])), (24, (.getfield 114, 18, 0, 0, [])), (27, (.ifCond .le 7, 0, 0, 0, [])), (34, (.aload_n 0, 0, 0, 0, [])), (35, (.new 393, 15, 0, 0, [0, 0, 2, 2, 2, 0])), (38, (.dup, 0, 0, 0, [])), (39, (.iconst 1, 0, 0, 0, [])), (40, (.iconst 0, 0, 0, 0, [])), (41, (.aconst_null, 0, 0, 0, [])), (42, (.aconst_null, 0, 0, 0, [])), (43, (.aconst_null, 0, 0, 0, [])), (44, (.invokespecial 420, 63, 15, 0, [])), (47, (.invokevirtual 423, 125, 18, 0, [])), (50, (.ireturn, 0, 0, 0, []))]
def mh_X5_addOne : List (Nat × Nat × Nat × Nat × Nat) := []
def md_X5_addOne : MD := (yX5_addOne, cX5_addOne, 3, (some .int), 3, RX5, false, mh_X5_addOne)
def tf_X5_addOne : List (Nat × Step) := [(0, aPs (qLd 0 1 isRN)), (1, aPs (qLd 1 1 isI)), (2, aPs (qC 1)), (3, aCall 1 3 80 6 3 mh_X5_addOne), (6, aPs (qLd 0 1 isRN)), (7, aSt 3 (pgf 6 5)), (10, aPs (qLd 0 1 isRN)), (11, aSt 3 (pgf 6 3)), (14, aPs (qC 1)), (15, aPs qSub), (16, aPs (qLd 2 1 isI)), (17, aWr 1 ref3 (past s0)), (18, aPs (qLd 0 1 isRN)), (19, aPs qDup), (20, aSt 3 (pgf 6 2)), (23, aPs (qC 1)), (24, aPs qAdd), (25, aWr 3 ref2 (ppf 6 2 0)), (28, aPs (qLd 0 1 isRN)), (29, aSt 3 (pgf 6 2)), (32, aRet (some .int))]
def tl_X5_addOne : List (Nat × IE) := [(0, (.aload_n 0, 0, 0, 0, [])), (1, (.iload_n 1, 0, 0, 0, [])), (2, (.iconst 1, 0, 0, 0, [])), (3, (.invokevirtual 32, 80, 6, 0, [])), (6, (.aload_n 0, 0, 0, 0, [])), (7, (.getfield 15, 6, 5, 2, [])), (10, (.aload_n 0, 0, 0, 0, [])), (11, (.getfield 36, 6, 3, 0, [])), (14, (.iconst 1, 0, 0, 0, [])), (15, (.isub, 0, 0, 0, [])), (16, (.iload_n 2, 0, 0, 0, [])), (17, (.iastore, 0, 0, 0, [])), (18, (.aload_n 0, 0, 0, 0, [])), (19, (.dup, 0, 0, 0, [])), (20, (.getfield 40, 6, 2, 0, [])), (23, (.iconst 1, 0, 0, 0, [])), (24, (.iadd, 0, 0, 0, [])), (25, (.putfield 40, 6, 2, 0, [])), (28, (.aload_n 0, 0, 0, 0, [])), (29, (.getfield 40, 6, 2, 0, [])), (32, (.ireturn, 0, 0, 0, []))]
def mh_X17_hasBoth : List (Nat × Nat × Nat × Nat × Nat) := []
def md_X17_hasBoth : MD := (yX17_hasBoth, cX17_hasBoth, 1, (some .boolean), 1, RX17, false, mh_X17_hasBoth)
def tf_X17_hasBoth : List (Nat × Step) := [(0, aPs (qLd 0 1 isRN)), (1, aSt 3 (pgf 18 13)), (4, aCall 3 5 30 0 1 mh_X17_hasBoth), (9, aPs (qC 2)), (10, aPs (qIc .lt 17)), (27, aPs (qC 0)), (28, aRet (some .boolean))]
def tl_X17_hasBoth : List (Nat × IE) := [(0, (.aload_n 0, 0, 0, 0, [])), (1, (.getfield 44, 18, 13, 2, [])), (4, (.invokeinterface 271 1, 30, 0, 0, [])), (9, (.iconst 2, 0, 0, 0, [])), (10, (.if_icmp .lt 17, 0, 0, 0, [])), (27, (.iconst 0, 0, 0, 0, [])), (28, (.ireturn, 0, 0, 0, []))]
def mh_Jx4a65c_clear_da8c8 : List (Nat × Nat × Nat × Nat × Nat) := []
def md_Jx4a65c_clear_da8c8 : MD := (yJx4a65c_clear_da8c8, cJx4a65c_clear_da8c8, 4, none, 1, RJx4a65c, false, mh_Jx4a65c_clear_da8c8)
def tf_Jx4a65c_clear_da8c8 : List (Nat × Step) := [(0, aPs (qLd 0 1 isRN)), (1, aPs qDup), (2, aSt 3 (pgf 0 0)), (5, aPs (qC 1)), (6, aPs qAdd), (7, aWr 3 ref2 (ppf 0 0 0)), (10, aPs (qLd 0 1 isRN)), (11, aSt 3 (pgf 0 1)), (14, aPs (qSt 4 1 1 isRN)), (15, aPs (qLd 0 1 isRN)), (16, aSt 3 (pgf 0 2)), (19, aPs (qSt 4 2 1 isI)), (20, aPs (qLd 0 1 isRN)), (21, aPs (qC 0)), (22, aPs (fun ev pc als ast => ps1 ev.1 ev.2.1 4 (.dup_x1) pc als ast)), (23, aWr 3 ref2 (ppf 0 2 0)), (26, aPs (qSt 4 3 1 isI)), (27, aPs (qLd 3 1 isI)), (28, aPs (qLd 2 1 isI)), (29, aPs (qIc .ge 13)), (42, aVoid)]
def tl_Jx4a65c_clear_da8c8 : List (Nat × IE) := [(0, (.aload_n 0, 0, 0, 0, [])), (1, (.dup, 0, 0, 0, [])), (2, (.getfield 63, 0, 0, 0, [])), (5, (.iconst 1, 0, 0, 0, [])), (6, (.iadd, 0, 0, 0, [])), (7, (.putfield 63, 0, 0, 0, [])), (10, (.aload_n 0, 0, 0, 0, [])), (11, (.getfield 9, 0, 1, 2, [])), (14, (.astore_n 1, 0, 0, 0, [])), (15, (.aload_n 0, 0, 0, 0, [])), (16, (.getfield 48, 0, 2, 0, [])), (19, (.istore_n 2, 0, 0, 0, [])), (20, (.aload_n 0, 0, 0, 0, [])), (21, (.iconst 0, 0, 0, 0, [])), (22, (.dup_x1, 0, 0, 0, [])), (23, (.putfield 48, 0, 2, 0, [])), (26, (.istore_n 3, 0, 0, 0, [])), (27, (.iload_n 3, 0, 0, 0, [])), (28, (.iload_n 2, 0, 0, 0, [])), (29, (.if_icmp .ge 13, 0, 0, 0, [])), (42, (.return_, 0, 0, 0, []))]
def mh_X8_giveNothing : List (Nat × Nat × Nat × Nat × Nat) := []
def md_X8_giveNothing : MD := (yX8_giveNothing, cX8_giveNothing, 1, none, 1, RX8, false, mh_X8_giveNothing)
def tf_X8_giveNothing : List (Nat × Step) := [(0, aPs (qLd 0 1 isRN)), (1, aSt 3 (pgf 9 7)), (4, aPs (qC (-1))), (5, aCall 0 3 2 0 2 mh_X8_giveNothing), (8, aVoid)]
def tl_X8_giveNothing : List (Nat × IE) := [(0, (.aload_n 0, 0, 0, 0, [])), (1, (.getfield 28, 9, 7, 2, [])), (4, (.iconst (-1), 0, 0, 0, [])), (5, (.invokestatic 51, 2, 0, 0, [])), (8, (.return_, 0, 0, 0, []))]
def mh_L_weight : List (Nat × Nat × Nat × Nat × Nat) := [(0, 12, 15, 19, 1), (0, 12, 19, 25, 2)]
def md_L_weight : MD := (yL_weight, cL_weight, 6, (some .int), 5, RL, false, mh_L_weight)
def tf_L_weight : List (Nat × Step) := [(0, aPs (qLd 4 2 isRN)), (2, aPs (qC 0)), (3, aPs (qLd 0 1 isRN)), (4, aPs (qLd 1 1 isI)), (5, aPs (qLd 2 1 isI)), (6, aPs (qLd 3 1 isI)), (7, aCall 1 3 111 11 4 mh_L_weight), (15, aPs (qSt 6 5 2 isRN)), (17, aPs (qC 1)), (18, aRet (some .int))]
def tl_L_weight : List (Nat × IE) := [(0, (.aload 4, 0, 0, 0, [])), (2, (.iconst 0, 0, 0, 0, [])), (3, (.aload_n 0, 0, 0, 0, [])), (4, (.iload_n 1, 0, 0, 0, [])), (5, (.iload_n 2, 0, 0, 0, [])), (6, (.iload_n 3, 0, 0, 0, [])), (7, (.invokevirtual 114, 111, 11, 0, [])), (15, (.astore 5, 0, 0, 0, [])), (17, (.iconst 1, 0, 0, 0, [])), (18, (.ireturn, 0, 0, 0, []))]
def mh_X5_addPart : List (Nat × Nat × Nat × Nat × Nat) := []
def md_X5_addPart : MD := (yX5_addPart, cX5_addPart, 3, none, 3, RX5, false, mh_X5_addPart)
def tf_X5_addPart : List (Nat × Step) := [(0, aPs (qLd 0 1 isRN)), (1, aSt 3 (pgf 6 4)), (4, aPs (qLd 0 1 isRN)), (5, aSt 3 (pgf 6 3)), (8, aPs (qLd 1 1 isI)), (9, aWr 1 ref3 (past s0)), (10, aPs (qLd 0 1 isRN)), (11, aSt 3 (pgf 6 6)), (14, aPs (qLd 0 1 isRN)), (15, aSt 3 (pgf 6 3)), (18, aPs (qLd 2 1 isI)), (19, aWr 1 ref3 (past s0)), (20, aPs (qLd 0 1 isRN)), (21, aPs qDup), (22, aSt 3 (pgf 6 3)), (25, aPs (qC 1)), (26, aPs qAdd), (27, aWr 3 ref2 (ppf 6 3 0)), (30, aVoid)]
def tl_X5_addPart : List (Nat × IE) := [(0, (.aload_n 0, 0, 0, 0, [])), (1, (.getfield 11, 6, 4, 2, [])), (4, (.aload_n 0, 0, 0, 0, [])), (5, (.getfield 36, 6, 3, 0, [])), (8, (.iload_n 1, 0, 0, 0, [])), (9, (.iastore, 0, 0, 0, [])), (10, (.aload_n 0, 0, 0, 0, [])), (11, (.getfield 18, 6, 6, 2, [])), (14, (.aload_n 0, 0, 0, 0, [])), (15, (.getfield 36, 6, 3, 0, [])), (18, (.iload_n 2, 0, 0, 0, [])), (19, (.iastore, 0, 0, 0, [])), (20, (.aload_n 0, 0, 0, 0, [])), (21, (.dup, 0, 0, 0, [])), (22, (.getfield 36, 6, 3, 0, [])), (25, (.iconst 1, 0, 0, 0, [])), (26, (.iadd, 0, 0, 0, [])), (27, (.putfield 36, 6, 3, 0, [])), (30, (.return_, 0, 0, 0, []))]
def mh_X17_fitting : List (Nat × Nat × Nat × Nat × Nat) := []
def md_X17_fitting : MD := (yX17_fitting, cX17_fitting, 3, (some .int), 1, RX17, false, mh_X17_fitting)
def tf_X17_fitting : List (Nat × Step) := [(0, aPs (qLd 0 1 isRN)), (1, aPs (qLd 0 1 isRN)), (2, aSt 3 (pgf 18 13)), (5, aCall 3 5 43 0 1 mh_X17_fitting), (10, aPs (qIf .eq 7)), (13, aPs (qC 1)), (14, aPs (qGo 4)), (18, aWr 3 ref2 (ppf 18 0 0)), (21, aPs (qC 0)), (22, aPs (qSt 3 1 1 isI)), (23, aPs (qC 0)), (24, aPs (qSt 3 2 1 isI)), (25, aPs (qLd 2 1 isI)), (26, aPs (qLd 0 1 isRN)), (27, aSt 3 (pgf 18 15)), (30, aCall 3 5 30 0 1 mh_X17_fitting), (35, aPs (qIc .ge 53)), (88, aPs (qLd 1 1 isI)), (89, aRet (some .int))]
def tl_X17_fitting : List (Nat × IE) := [(0, (.aload_n 0, 0, 0, 0, [])), (1, (.aload_n 0, 0, 0, 0, [])), (2, (.getfield 44, 18, 13, 2, [])), (5, (.invokeinterface 351 1, 43, 0, 0, [])), (10, (.ifCond .eq 7, 0, 0, 0, [])), (13, (.iconst 1, 0, 0, 0, [])), (14, (.goto 4, 0, 0, 0, [])), (18, (.putfield 114, 18, 0, 0, [])), (21, (.iconst 0, 0, 0, 0, [])), (22, (.istore_n 1, 0, 0, 0, [])), (23, (.iconst 0, 0, 0, 0, [])), (24, (.istore_n 2, 0, 0, 0, [])), (25, (.iload_n 2, 0, 0, 0, [])), (26, (.aload_n 0, 0, 0, 0, [])), (27, (.getfield 54, 18, 15, 2, [])), (30, (.invokeinterface 271 1, 30, 0, 0, [])), (35, (.if_icmp .ge 53, 0, 0, 0, [])), (88, (.iload_n 1, 0, 0, 0, [])), (89, (.ireturn, 0, 0, 0, []))]
def mh_X17_matching : List (Nat × Nat × Nat × Nat × Nat) := []
def md_X17_matching : MD := (yX17_matching, cX17_matching, 3, (some .int), 1, RX17, false, mh_X17_matching)
def tf_X17_matching : List (Nat × Step) := [(0, aPs (qLd 0 1 isRN)), (1, aPs (qLd 0 1 isRN)), (2, aSt 3 (pgf 18 13)), (5, aCall 3 5 43 0 1 mh_X17_matching), (10, aPs (qIf .eq 7)), (13, aPs (qC 1)), (14, aPs (qGo 4)), (18, aWr 3 ref2 (ppf 18 0 0)), (21, aPs (qC 0)), (22, aPs (qSt 3 1 1 isI)), (23, aPs (qC 0)), (24, aPs (qSt 3 2 1 isI)), (25, aPs (qLd 2 1 isI)), (26, aPs (qLd 0 1 isRN)), (27, aSt 3 (pgf 18 15)), (30, aCall 3 5 30 0 1 mh_X17_matching), (35, aPs (qIc .ge 53)), (88, aPs (qLd 1 1 isI)), (89, aRet (some .int))]
def tl_X17_matching : List (Nat × IE) := [(0, (.aload_n 0, 0, 0, 0, [])), (1, (.aload_n 0, 0, 0, 0, [])), (2, (.getfield 44, 18, 13, 2, [])), (5, (.invokeinterface 351 1, 43, 0, 0, [])), (10, (.ifCond .eq 7, 0, 0, 0, [])), (13, (.iconst 1, 0, 0, 0, [])), (14, (.goto 4, 0, 0, 0, [])), (18, (.putfield 114, 18, 0, 0, [])), (21, (.iconst 0, 0, 0, 0, [])), (22, (.istore_n 1, 0, 0, 0, [])), (23, (.iconst 0, 0, 0, 0, [])), (24, (.istore_n 2, 0, 0, 0, [])), (25, (.iload_n 2, 0, 0, 0, [])), (26, (.aload_n 0, 0, 0, 0, [])), (27, (.getfield 54, 18, 15, 2, [])), (30, (.invokeinterface 271 1, 30, 0, 0, [])), (35, (.if_icmp .ge 53, 0, 0, 0, [])), (88, (.iload_n 1, 0, 0, 0, [])), (89, (.ireturn, 0, 0, 0, []))]
def mh_X10_sort : List (Nat × Nat × Nat × Nat × Nat) := []
def md_X10_sort : MD := (yX10_sort, cX10_sort, 1, (some .int), 1, RX10, false, mh_X10_sort)
def tf_X10_sort : List (Nat × Step) := [(0, aPs (qLd 0 1 isRN)), (1, aSt 3 (pgf 11 0)), (4, aSt 3 (pgf 8 0)), (7, aPs (qB 8)), (9, aPs (qIc .lt 13)), (22, aPs (qLd 0 1 isRN)), (23, aSt 3 (pgf 11 0)), (26, aPs qDup), (27, aSt 3 (pgf 8 0)), (30, aPs (qC 1)), (31, aPs qAdd), (32, aWr 3 ref2 (ppf 8 0 0)), (35, aPs (qLd 0 1 isRN)), (36, aSt 3 (pgf 11 0)), (39, aSt 3 (pgf 8 0)), (42, aPs (qC 1)), (43, aPs qSub), (44, aRet (some .int))]
def tl_X10_sort : List (Nat × IE) := [(0, (.aload_n 0, 0, 0, 0, [])), (1, (.getfield 12, 11, 0, 2, [])), (4, (.getfield 78, 8, 0, 0, [])), (7, (.bipush 8, 0, 0, 0, [])), (9, (.if_icmp .lt 13, 0, 0, 0, [])), (22, (.aload_n 0, 0, 0, 0, [])), (23, (.getfield 12, 11, 0, 2, [])), (26, (.dup, 0, 0, 0, [])), (27, (.getfield 78, 8, 0, 0, [])), (30, (.iconst 1, 0, 0, 0, [])), (31, (.iadd, 0, 0, 0, [])), (32, (.putfield 78, 8, 0, 0, [])), (35, (.aload_n 0, 0, 0, 0, [])), (36, (.getfield 12, 11, 0, 2, [])), (39, (.getfield 78, 8, 0, 0, [])), (42, (.iconst 1, 0, 0, 0, [])), (43, (.isub, 0, 0, 0, [])), (44, (.ireturn, 0, 0, 0, []))]
def mh_X10_keep : List (Nat × Nat × Nat × Nat × Nat) := []
def md_X10_keep : MD := (yX10_keep, cX10_keep, 2, (some .int), 2, RX10, false, mh_X10_keep)
def tf_X10_keep : List (Nat × Step) := [(0, aPs (qLd 1 1 isI)), (1, aPs (qIf .lt 9)), (4, aPs (qLd 1 1 isI)), (5, aPs (qB 20)), (7, aPs (qIc .lt 13)), (10, aThr 2), (13, aPs qDup), (20, aPs (qLd 0 1 isRN)), (21, aSt 3 (pgf 11 8)), (24, aPs (qIf .ne 13)), (27, aThr 0), (30, aPs qDup), (37, aPs (qLd 0 1 isRN))]
def tl_X10_keep : List (Nat × IE) := [(0, (.iload_n 1, 0, 0, 0, [])), (1, (.ifCond .lt 9, 0, 0, 0, [])), (4, (.iload_n 1, 0, 0, 0, [])), (5, (.bipush 20, 0, 0, 0, [])), (7, (.if_icmp .lt 13, 0, 0, 0, [])), (10, (.new 111, 102, 189, 115, [])), (13, (.dup, 0, 0, 0, [])), (20, (.aload_n 0, 0, 0, 0, [])), (21, (.getfield 160, 11, 8, 0, [])), (24, (.ifCond .ne 13, 0, 0, 0, [])), (27, (.new 82, 100, 191, 86, [])), (30, (.dup, 0, 0, 0, [])), (37, (.aload_n 0, 0, 0, 0, []))]
def mh_X10_holds : List (Nat × Nat × Nat × Nat × Nat) := []
def md_X10_holds : MD := (yX10_holds, cX10_holds, 3, (some .boolean), 2, RX10, false, mh_X10_holds)
def tf_X10_holds : List (Nat × Step) := [(0, aPs (qLd 1 1 isI)), (1, aPs (qIf .lt 8)), (4, aPs (qLd 1 1 isI)), (5, aPs (qC 2)), (6, aPs (qIc .le 14)), (9, aThr 2), (12, aPs qDup), (20, aPs (qLd 0 1 isRN)), (21, aCall 1 3 99 11 1 mh_X10_holds), (24, aPs (qIf .eq 23)), (47, aThr 0), (50, aPs qDup)]
def tl_X10_holds : List (Nat × IE) := [(0, (.iload_n 1, 0, 0, 0, [])), (1, (.ifCond .lt 8, 0, 0, 0, [])), (4, (.iload_n 1, 0, 0, 0, [])), (5, (.iconst 2, 0, 0, 0, [])), (6, (.if_icmp .le 14, 0, 0, 0, [])), (9, (.new 111, 102, 311, 115, [1])), (12, (.dup, 0, 0, 0, [])), (20, (.aload_n 0, 0, 0, 0, [])), (21, (.invokevirtual 303, 99, 11, 0, [])), (24, (.ifCond .eq 23, 0, 0, 0, [])), (47, (.new 82, 100, 313, 86, [1])), (50, (.dup, 0, 0, 0, []))]
def mh_X10_both : List (Nat × Nat × Nat × Nat × Nat) := []
def md_X10_both : MD := (yX10_both, cX10_both, 2, (some .int), 2, RX10, false, mh_X10_both)
def tf_X10_both : List (Nat × Step) := [(0, aPs (qLd 0 1 isRN)), (1, aSt 3 (pgf 11 6)), (4, aSt 3 (pgf 6 2)), (7, aPs (qC 2)), (8, aPs (qIc .lt 15)), (23, aThr 0), (26, aPs qDup)]
def tl_X10_both : List (Nat × IE) := [(0, (.aload_n 0, 0, 0, 0, [])), (1, (.getfield 67, 11, 6, 2, [])), (4, (.getfield 320, 6, 2, 0, [])), (7, (.iconst 2, 0, 0, 0, [])), (8, (.if_icmp .lt 15, 0, 0, 0, [])), (23, (.new 82, 100, 334, 86, [1])), (26, (.dup, 0, 0, 0, []))]
def mh_X10_hasPatternAndSubject : List (Nat × Nat × Nat × Nat × Nat) := []
def md_X10_hasPatternAndSubject : MD := (yX10_hasPatternAndSubject, cX10_hasPatternAndSubject, 1, (some .boolean), 1, RX10, false, mh_X10_hasPatternAndSubject)
def tf_X10_hasPatternAndSubject : List (Nat × Step) := [(0, aPs (qLd 0 1 isRN)), (1, aSt 3 (pgf 11 8)), (4, aPs (qC 1)), (5, aPs (qIc .le 26)), (31, aPs (qC 0)), (32, aRet (some .boolean))]
def tl_X10_hasPatternAndSubject : List (Nat × IE) := [(0, (.aload_n 0, 0, 0, 0, [])), (1, (.getfield 160, 11, 8, 0, [])), (4, (.iconst 1, 0, 0, 0, [])), (5, (.if_icmp .le 26, 0, 0, 0, [])), (31, (.iconst 0, 0, 0, 0, [])), (32, (.ireturn, 0, 0, 0, []))]
def mh_L_below : List (Nat × Nat × Nat × Nat × Nat) := [(0, 17, 20, 19, 1), (0, 17, 24, 13, 0)]
def md_L_below : MD := (yL_below, cL_below, 5, (some .int), 4, RL, false, mh_L_below)
def tf_L_below : List (Nat × Step) := [(0, aPs (qLd 3 1 isRN)), (1, aPs (qC 0)), (2, aPs (qLd 0 1 isRN)), (3, aPs (qLd 1 1 isI)), (4, aPs (qLd 2 1 isI)), (5, aCall 1 3 107 11 3 mh_L_below), (20, aPs (qSt 5 4 2 isRN)), (22, aPs (qC 1)), (23, aRet (some .int))]
def tl_L_below : List (Nat × IE) := [(0, (.aload_n 3, 0, 0, 0, [])), (1, (.iconst 0, 0, 0, 0, [])), (2, (.aload_n 0, 0, 0, 0, [])), (3, (.iload_n 1, 0, 0, 0, [])), (4, (.iload_n 2, 0, 0, 0, [])), (5, (.invokevirtual 15, 107, 11, 0, [])), (20, (.astore 4, 0, 0, 0, [])), (22, (.iconst 1, 0, 0, 0, [])), (23, (.ireturn, 0, 0, 0, []))]
def mh_L_variable : List (Nat × Nat × Nat × Nat × Nat) := [(0, 10, 13, 19, 1), (0, 10, 17, 25, 2), (0, 10, 21, 13, 0)]
def md_L_variable : MD := (yL_variable, cL_variable, 5, (some .int), 4, RL, false, mh_L_variable)
def tf_L_variable : List (Nat × Step) := [(0, aPs (qLd 3 1 isRN)), (1, aPs (qC 0)), (2, aPs (qLd 0 1 isRN)), (3, aPs (qLd 1 1 isI)), (4, aPs (qLd 2 1 isI)), (5, aCall 1 3 108 11 3 mh_L_variable), (13, aPs (qSt 5 4 2 isRN)), (15, aPs (qC 1)), (16, aRet (some .int))]
def tl_L_variable : List (Nat × IE) := [(0, (.aload_n 3, 0, 0, 0, [])), (1, (.iconst 0, 0, 0, 0, [])), (2, (.aload_n 0, 0, 0, 0, [])), (3, (.iload_n 1, 0, 0, 0, [])), (4, (.iload_n 2, 0, 0, 0, [])), (5, (.invokevirtual 21, 108, 11, 0, [])), (13, (.astore 4, 0, 0, 0, [])), (15, (.iconst 1, 0, 0, 0, [])), (16, (.ireturn, 0, 0, 0, []))]
def mh_L_view : List (Nat × Nat × Nat × Nat × Nat) := [(0, 10, 13, 19, 1), (0, 10, 17, 25, 2)]
def md_L_view : MD := (yL_view, cL_view, 5, (some .int), 4, RL, false, mh_L_view)
def tf_L_view : List (Nat × Step) := [(0, aPs (qLd 3 1 isRN)), (1, aPs (qC 0)), (2, aPs (qLd 0 1 isRN)), (3, aPs (qLd 1 1 isI)), (4, aPs (qLd 2 1 isI)), (5, aCall 1 3 112 11 3 mh_L_view), (13, aPs (qSt 5 4 2 isRN)), (15, aPs (qC 1)), (16, aRet (some .int))]
def tl_L_view : List (Nat × IE) := [(0, (.aload_n 3, 0, 0, 0, [])), (1, (.iconst 0, 0, 0, 0, [])), (2, (.aload_n 0, 0, 0, 0, [])), (3, (.iload_n 1, 0, 0, 0, [])), (4, (.iload_n 2, 0, 0, 0, [])), (5, (.invokevirtual 120, 112, 11, 0, [])), (13, (.astore 4, 0, 0, 0, [])), (15, (.iconst 1, 0, 0, 0, [])), (16, (.ireturn, 0, 0, 0, []))]
def mh_X17_many : List (Nat × Nat × Nat × Nat × Nat) := []
def md_X17_many : MD := (yX17_many, cX17_many, 2, (some .int), 1, RX17, false, mh_X17_many)
def tf_X17_many : List (Nat × Step) := [(0, aPs (qLd 0 1 isRN)), (1, aSt 3 (pgf 18 17)), (4, aCall 3 5 30 0 1 mh_X17_many), (9, aPs (qSt 2 1 1 isI)), (10, aPs (qLd 0 1 isRN)), (11, aPs (qLd 1 1 isI)), (12, aPs (qC 1)), (13, aPs (qIc .lt 28)), (41, aPs (qC 1)), (42, aPs (qGo 4)), (46, aWr 3 ref2 (ppf 18 0 0)), (49, aPs (qLd 0 1 isRN)), (50, aSt 3 (pgf 18 0)), (53, aPs (qIf .le 7)), (56, aPs (qC 0)), (57, aPs (qGo 33)), (90, aRet (some .int))]
def tl_X17_many : List (Nat × IE) := [(0, (.aload_n 0, 0, 0, 0, [])), (1, (.getfield 60, 18, 17, 2, [])), (4, (.invokeinterface 271 1, 30, 0, 0, [])), (9, (.istore_n 1, 0, 0, 0, [])), (10, (.aload_n 0, 0, 0, 0, [])), (11, (.iload_n 1, 0, 0, 0, [])), (12, (.iconst 1, 0, 0, 0, [])), (13, (.if_icmp .lt 28, 0, 0, 0, [])), (41, (.iconst 1, 0, 0, 0, [])), (42, (.goto 4, 0, 0, 0, [])), (46, (.putfield 114, 18, 0, 0, [])), (49, (.aload_n 0, 0, 0, 0, [])), (50, (.getfield 114, 18, 0, 0, [])), (53, (.ifCond .le 7, 0, 0, 0, [])), (56, (.iconst 0, 0, 0, 0, [])), (57, (.goto 33, 0, 0, 0, [])), (90, (.ireturn, 0, 0, 0, []))]
def mh_L_apply : List (Nat × Nat × Nat × Nat × Nat) := [(0, 9, 12, 19, 1), (0, 9, 15, 13, 0)]
def md_L_apply : MD := (yL_apply, cL_apply, 4, (some .int), 3, RL, false, mh_L_apply)
def tf_L_apply : List (Nat × Step) := [(0, aPs (qLd 2 1 isRN)), (1, aPs (qC 0)), (2, aPs (qLd 0 1 isRN)), (3, aPs (qLd 1 1 isI)), (4, aCall 1 3 110 11 2 mh_L_apply), (12, aPs (qSt 4 3 1 isRN)), (13, aPs (qC 1)), (14, aRet (some .int))]
def tl_L_apply : List (Nat × IE) := [(0, (.aload_n 2, 0, 0, 0, [])), (1, (.iconst 0, 0, 0, 0, [])), (2, (.aload_n 0, 0, 0, 0, [])), (3, (.iload_n 1, 0, 0, 0, [])), (4, (.invokevirtual 39, 110, 11, 0, [])), (12, (.astore_n 3, 0, 0, 0, [])), (13, (.iconst 1, 0, 0, 0, [])), (14, (.ireturn, 0, 0, 0, []))]
def mh_L_state : List (Nat × Nat × Nat × Nat × Nat) := [(0, 9, 12, 19, 1), (0, 9, 15, 13, 0)]
def md_L_state : MD := (yL_state, cL_state, 4, (some .int), 3, RL, false, mh_L_state)
def tf_L_state : List (Nat × Step) := [(0, aPs (qLd 2 1 isRN)), (1, aPs (qC 0)), (2, aPs (qLd 0 1 isRN)), (3, aPs (qLd 1 1 isI)), (4, aCall 1 3 115 11 2 mh_L_state), (12, aPs (qSt 4 3 1 isRN)), (13, aPs (qC 1)), (14, aRet (some .int))]
def tl_L_state : List (Nat × IE) := [(0, (.aload_n 2, 0, 0, 0, [])), (1, (.iconst 0, 0, 0, 0, [])), (2, (.aload_n 0, 0, 0, 0, [])), (3, (.iload_n 1, 0, 0, 0, [])), (4, (.invokevirtual 79, 115, 11, 0, [])), (12, (.astore_n 3, 0, 0, 0, [])), (13, (.iconst 1, 0, 0, 0, [])), (14, (.ireturn, 0, 0, 0, []))]
def mh_L_cameBy : List (Nat × Nat × Nat × Nat × Nat) := [(0, 9, 12, 19, 1)]
def md_L_cameBy : MD := (yL_cameBy, cL_cameBy, 4, (some .int), 3, RL, false, mh_L_cameBy)
def tf_L_cameBy : List (Nat × Step) := [(0, aPs (qLd 2 1 isRN)), (1, aPs (qC 0)), (2, aPs (qLd 0 1 isRN)), (3, aPs (qLd 1 1 isI)), (4, aCall 1 3 116 11 2 mh_L_cameBy), (12, aPs (qSt 4 3 1 isRN)), (13, aPs (qC 1)), (14, aRet (some .int))]
def tl_L_cameBy : List (Nat × IE) := [(0, (.aload_n 2, 0, 0, 0, [])), (1, (.iconst 0, 0, 0, 0, [])), (2, (.aload_n 0, 0, 0, 0, [])), (3, (.iload_n 1, 0, 0, 0, [])), (4, (.invokevirtual 82, 116, 11, 0, [])), (12, (.astore_n 3, 0, 0, 0, [])), (13, (.iconst 1, 0, 0, 0, [])), (14, (.ireturn, 0, 0, 0, []))]
def mh_L_use : List (Nat × Nat × Nat × Nat × Nat) := [(0, 9, 12, 19, 1), (0, 9, 15, 13, 0)]
def md_L_use : MD := (yL_use, cL_use, 4, (some .int), 3, RL, false, mh_L_use)
def tf_L_use : List (Nat × Step) := [(0, aPs (qLd 2 1 isRN)), (1, aPs (qC 0)), (2, aPs (qLd 0 1 isRN)), (3, aPs (qLd 1 1 isI)), (4, aCall 1 3 117 11 2 mh_L_use), (12, aPs (qSt 4 3 1 isRN)), (13, aPs (qC 1)), (14, aRet (some .int))]
def tl_L_use : List (Nat × IE) := [(0, (.aload_n 2, 0, 0, 0, [])), (1, (.iconst 0, 0, 0, 0, [])), (2, (.aload_n 0, 0, 0, 0, [])), (3, (.iload_n 1, 0, 0, 0, [])), (4, (.invokevirtual 92, 117, 11, 0, [])), (12, (.astore_n 3, 0, 0, 0, [])), (13, (.iconst 1, 0, 0, 0, [])), (14, (.ireturn, 0, 0, 0, []))]
def mh_L_joins : List (Nat × Nat × Nat × Nat × Nat) := [(0, 9, 12, 19, 1)]
def md_L_joins : MD := (yL_joins, cL_joins, 4, (some .int), 3, RL, false, mh_L_joins)
def tf_L_joins : List (Nat × Step) := [(0, aPs (qLd 2 1 isRN)), (1, aPs (qC 0)), (2, aPs (qLd 0 1 isRN)), (3, aPs (qLd 1 1 isI)), (4, aCall 1 3 73 11 2 mh_L_joins), (12, aPs (qSt 4 3 1 isRN)), (13, aPs (qC 1)), (14, aRet (some .int))]
def tl_L_joins : List (Nat × IE) := [(0, (.aload_n 2, 0, 0, 0, [])), (1, (.iconst 0, 0, 0, 0, [])), (2, (.aload_n 0, 0, 0, 0, [])), (3, (.iload_n 1, 0, 0, 0, [])), (4, (.invokevirtual 111, 73, 11, 0, [])), (12, (.astore_n 3, 0, 0, 0, [])), (13, (.iconst 1, 0, 0, 0, [])), (14, (.ireturn, 0, 0, 0, []))]
def mh_L_descends : List (Nat × Nat × Nat × Nat × Nat) := [(0, 16, 19, 19, 1)]
def md_L_descends : MD := (yL_descends, cL_descends, 4, (some .int), 3, RL, false, mh_L_descends)
def tf_L_descends : List (Nat × Step) := [(0, aPs (qLd 2 1 isRN)), (1, aPs (qC 0)), (2, aPs (qLd 0 1 isRN)), (3, aPs (qLd 1 1 isI)), (4, aCall 1 3 119 11 2 mh_L_descends), (19, aPs (qSt 4 3 1 isRN)), (20, aPs (qC 1)), (21, aRet (some .int))]
def tl_L_descends : List (Nat × IE) := [(0, (.aload_n 2, 0, 0, 0, [])), (1, (.iconst 0, 0, 0, 0, [])), (2, (.aload_n 0, 0, 0, 0, [])), (3, (.iload_n 1, 0, 0, 0, [])), (4, (.invokevirtual 117, 119, 11, 0, [])), (19, (.astore_n 3, 0, 0, 0, [])), (20, (.iconst 1, 0, 0, 0, [])), (21, (.ireturn, 0, 0, 0, []))]
def mh_L_copy : List (Nat × Nat × Nat × Nat × Nat) := [(0, 9, 12, 19, 1), (0, 9, 15, 13, 0)]
def md_L_copy : MD := (yL_copy, cL_copy, 4, (some .int), 3, RL, false, mh_L_copy)
def tf_L_copy : List (Nat × Step) := [(0, aPs (qLd 2 1 isRN)), (1, aPs (qC 0)), (2, aPs (qLd 0 1 isRN)), (3, aPs (qLd 1 1 isI)), (4, aCall 1 3 120 11 2 mh_L_copy), (12, aPs (qSt 4 3 1 isRN)), (13, aPs (qC 1)), (14, aRet (some .int))]
def tl_L_copy : List (Nat × IE) := [(0, (.aload_n 2, 0, 0, 0, [])), (1, (.iconst 0, 0, 0, 0, [])), (2, (.aload_n 0, 0, 0, 0, [])), (3, (.iload_n 1, 0, 0, 0, [])), (4, (.invokevirtual 123, 120, 11, 0, [])), (12, (.astore_n 3, 0, 0, 0, [])), (13, (.iconst 1, 0, 0, 0, [])), (14, (.ireturn, 0, 0, 0, []))]
def mh_X10_hasPattern : List (Nat × Nat × Nat × Nat × Nat) := []
def md_X10_hasPattern : MD := (yX10_hasPattern, cX10_hasPattern, 1, (some .boolean), 1, RX10, false, mh_X10_hasPattern)
def tf_X10_hasPattern : List (Nat × Step) := [(0, aPs (qLd 0 1 isRN)), (1, aSt 3 (pgf 11 8)), (4, aPs (qIf .le 21)), (25, aPs (qC 0)), (26, aRet (some .boolean))]
def tl_X10_hasPattern : List (Nat × IE) := [(0, (.aload_n 0, 0, 0, 0, [])), (1, (.getfield 160, 11, 8, 0, [])), (4, (.ifCond .le 21, 0, 0, 0, [])), (25, (.iconst 0, 0, 0, 0, [])), (26, (.ireturn, 0, 0, 0, []))]
def mh_X17_test : List (Nat × Nat × Nat × Nat × Nat) := []
def md_X17_test : MD := (yX17_test, cX17_test, 1, (some .int), 1, RX17, false, mh_X17_test)
def tf_X17_test : List (Nat × Step) := [(0, aPs (qLd 0 1 isRN)), (1, aPs (qLd 0 1 isRN)), (2, aSt 3 (pgf 18 13)), (5, aCall 3 5 43 0 1 mh_X17_test), (10, aPs (qIf .ne 27)), (37, aPs (qC 1)), (38, aPs (qGo 4)), (42, aWr 3 ref2 (ppf 18 0 0)), (45, aPs (qLd 0 1 isRN)), (46, aSt 3 (pgf 18 0)), (49, aPs (qIf .le 7)), (52, aPs (qC 0)), (53, aPs (qGo 22)), (75, aRet (some .int))]
def tl_X17_test : List (Nat × IE) := [(0, (.aload_n 0, 0, 0, 0, [])), (1, (.aload_n 0, 0, 0, 0, [])), (2, (.getfield 44, 18, 13, 2, [])), (5, (.invokeinterface 351 1, 43, 0, 0, [])), (10, (.ifCond .ne 27, 0, 0, 0, [])), (37, (.iconst 1, 0, 0, 0, [])), (38, (.goto 4, 0, 0, 0, [])), (42, (.putfield 114, 18, 0, 0, [])), (45, (.aload_n 0, 0, 0, 0, [])), (46, (.getfield 114, 18, 0, 0, [])), (49, (.ifCond .le 7, 0, 0, 0, [])), (52, (.iconst 0, 0, 0, 0, [])), (53, (.goto 22, 0, 0, 0, [])), (75, (.ireturn, 0, 0, 0, []))]
def mh_X17_sortOf : List (Nat × Nat × Nat × Nat × Nat) := []
def md_X17_sortOf : MD := (yX17_sortOf, cX17_sortOf, 1, (some .int), 1, RX17, false, mh_X17_sortOf)
def tf_X17_sortOf : List (Nat × Step) := [(0, aPs (qLd 0 1 isRN)), (1, aPs (qLd 0 1 isRN)), (2, aSt 3 (pgf 18 13)), (5, aCall 3 5 43 0 1 mh_X17_sortOf), (10, aPs (qIf .eq 7)), (13, aPs (qC 1)), (14, aPs (qGo 4)), (18, aWr 3 ref2 (ppf 18 0 0)), (21, aPs (qLd 0 1 isRN)), (22, aSt 3 (pgf 18 0)), (25, aPs (qIf .le 7)), (28, aPs (qC 0)), (29, aPs (qGo 11)), (40, aRet (some .int))]
def tl_X17_sortOf : List (Nat × IE) := [(0, (.aload_n 0, 0, 0, 0, [])), (1, (.aload_n 0, 0, 0, 0, [])), (2, (.getfield 44, 18, 13, 2, [])), (5, (.invokeinterface 351 1, 43, 0, 0, [])), (10, (.ifCond .eq 7, 0, 0, 0, [])), (13, (.iconst 1, 0, 0, 0, [])), (14, (.goto 4, 0, 0, 0, [])), (18, (.putfield 114, 18, 0, 0, [])), (21, (.aload_n 0, 0, 0, 0, [])), (22, (.getfield 114, 18, 0, 0, [])), (25, (.ifCond .le 7, 0, 0, 0, [])), (28, (.iconst 0, 0, 0, 0, [])), (29, (.goto 11, 0, 0, 0, [])), (40, (.ireturn, 0, 0, 0, []))]
def mh_X17_search : List (Nat × Nat × Nat × Nat × Nat) := [(81, 144, 147, 135, 9)]
def md_X17_search : MD := (yX17_search, cX17_search, 2, (some .int), 1, RX17, false, mh_X17_search)
def tf_X17_search : List (Nat × Step) := [(0, aPs (qLd 0 1 isRN)), (1, aPs (qLd 0 1 isRN)), (2, aSt 3 (pgf 18 13)), (5, aCall 3 5 43 0 1 mh_X17_search), (10, aPs (qIf .eq 7)), (13, aPs (qC 1)), (14, aPs (qGo 4)), (18, aWr 3 ref2 (ppf 18 0 0)), (21, aPs (qLd 0 1 isRN)), (22, aSt 3 (pgf 18 0)), (25, aPs (qIf .le 5)), (28, aPs (qC 0)), (29, aRet (some .int))]
def tl_X17_search : List (Nat × IE) := [(0, (.aload_n 0, 0, 0, 0, [])), (1, (.aload_n 0, 0, 0, 0, [])), (2, (.getfield 44, 18, 13, 2, [])), (5, (.invokeinterface 351 1, 43, 0, 0, [])), (10, (.ifCond .eq 7, 0, 0, 0, [])), (13, (.iconst 1, 0, 0, 0, [])), (14, (.goto 4, 0, 0, 0, [])), (18, (.putfield 114, 18, 0, 0, [])), (21, (.aload_n 0, 0, 0, 0, [])), (22, (.getfield 114, 18, 0, 0, [])), (25, (.ifCond .le 5, 0, 0, 0, [])), (28, (.iconst 0, 0, 0, 0, [])), (29, (.ireturn, 0, 0, 0, []))]
def mh_X17_finds : List (Nat × Nat × Nat × Nat × Nat) := []
def md_X17_finds : MD := (yX17_finds, cX17_finds, 5, (some .int), 2, RX17, false, mh_X17_finds)
def tf_X17_finds : List (Nat × Step) := [(0, aPs (qLd 0 1 isRN)), (1, aPs (qLd 0 1 isRN)), (2, aSt 3 (pgf 18 13)), (5, aCall 3 5 43 0 1 mh_X17_finds), (10, aPs (qIf .ne 13)), (23, aPs (qC 2)), (24, aPs (qGo 12)), (36, aWr 3 ref2 (ppf 18 0 0)), (39, aPs (qLd 0 1 isRN)), (40, aSt 3 (pgf 18 0)), (43, aPs (qIf .le 5)), (46, aPs (qC 0)), (47, aRet (some .int))]
def tl_X17_finds : List (Nat × IE) := [(0, (.aload_n 0, 0, 0, 0, [])), (1, (.aload_n 0, 0, 0, 0, [])), (2, (.getfield 44, 18, 13, 2, [])), (5, (.invokeinterface 351 1, 43, 0, 0, [])), (10, (.ifCond .ne 13, 0, 0, 0, [])), (23, (.iconst 2, 0, 0, 0, [])), (24, (.goto 12, 0, 0, 0, [])), (36, (.putfield 114, 18, 0, 0, [])), (39, (.aload_n 0, 0, 0, 0, [])), (40, (.getfield 114, 18, 0, 0, [])), (43, (.ifCond .le 5, 0, 0, 0, [])), (46, (.iconst 0, 0, 0, 0, [])), (47, (.ireturn, 0, 0, 0, []))]
def mh_X17_run : List (Nat × Nat × Nat × Nat × Nat) := [(71, 97, 119, 135, 9), (98, 118, 119, 135, 9)]
def md_X17_run : MD := (yX17_run, cX17_run, 4, (some .int), 1, RX17, false, mh_X17_run)
def tf_X17_run : List (Nat × Step) := [(0, aPs (qLd 0 1 isRN)), (1, aPs (qLd 0 1 isRN)), (2, aSt 3 (pgf 18 13)), (5, aCall 3 5 43 0 1 mh_X17_run), (10, aPs (qIf .ne 15)), (25, aPs (qC 1)), (26, aPs (qGo 4)), (30, aWr 3 ref2 (ppf 18 0 0)), (33, aPs (qLd 0 1 isRN)), (34, aSt 3 (pgf 18 0)), (37, aPs (qIf .le 5)), (40, aPs (qC 0)), (41, aRet (some .int))]
def tl_X17_run : List (Nat × IE) := [(0, (.aload_n 0, 0, 0, 0, [])), (1, (.aload_n 0, 0, 0, 0, [])), (2, (.getfield 44, 18, 13, 2, [])), (5, (.invokeinterface 351 1, 43, 0, 0, [])), (10, (.ifCond .ne 15, 0, 0, 0, [])), (25, (.iconst 1, 0, 0, 0, [])), (26, (.goto 4, 0, 0, 0, [])), (30, (.putfield 114, 18, 0, 0, [])), (33, (.aload_n 0, 0, 0, 0, [])), (34, (.getfield 114, 18, 0, 0, [])), (37, (.ifCond .le 5, 0, 0, 0, [])), (40, (.iconst 0, 0, 0, 0, [])), (41, (.ireturn, 0, 0, 0, []))]
def mh_X17_code : List (Nat × Nat × Nat × Nat × Nat) := []
def md_X17_code : MD := (yX17_code, cX17_code, 3, (some .int), 2, RX17, false, mh_X17_code)
def tf_X17_code : List (Nat × Step) := [(0, aPs (qLd 0 1 isRN)), (1, aPs (qLd 0 1 isRN)), (2, aSt 3 (pgf 18 13)), (5, aCall 3 5 43 0 1 mh_X17_code), (10, aPs (qIf .eq 7)), (13, aPs (qC 2)), (14, aPs (qGo 25)), (39, aWr 3 ref2 (ppf 18 0 0)), (42, aPs (qLd 0 1 isRN)), (43, aSt 3 (pgf 18 0)), (46, aPs (qIf .le 5)), (49, aPs (qC 0)), (50, aRet (some .int))]
def tl_X17_code : List (Nat × IE) := [(0, (.aload_n 0, 0, 0, 0, [])), (1, (.aload_n 0, 0, 0, 0, [])), (2, (.getfield 44, 18, 13, 2, [])), (5, (.invokeinterface 351 1, 43, 0, 0, [])), (10, (.ifCond .eq 7, 0, 0, 0, [])), (13, (.iconst 2, 0, 0, 0, [])), (14, (.goto 25, 0, 0, 0, [])), (39, (.putfield 114, 18, 0, 0, [])), (42, (.aload_n 0, 0, 0, 0, [])), (43, (.getfield 114, 18, 0, 0, [])), (46, (.ifCond .le 5, 0, 0, 0, [])), (49, (.iconst 0, 0, 0, 0, [])), (50, (.ireturn, 0, 0, 0, []))]
def mh_X17_reduce : List (Nat × Nat × Nat × Nat × Nat) := [(38, 69, 70, 135, 9)]
def md_X17_reduce : MD := (yX17_reduce, cX17_reduce, 3, (some .int), 1, RX17, false, mh_X17_reduce)
def tf_X17_reduce : List (Nat × Step) := [(0, aPs (qLd 0 1 isRN)), (1, aPs (qLd 0 1 isRN)), (2, aSt 3 (pgf 18 13)), (5, aCall 3 5 43 0 1 mh_X17_reduce), (10, aPs (qIf .eq 7)), (13, aPs (qC 1)), (14, aPs (qGo 4)), (18, aWr 3 ref2 (ppf 18 0 0)), (21, aPs (qLd 0 1 isRN)), (22, aSt 3 (pgf 18 0)), (25, aPs (qIf .le 5)), (28, aPs (qC 0)), (29, aRet (some .int))]
def tl_X17_reduce : List (Nat × IE) := [(0, (.aload_n 0, 0, 0, 0, [])), (1, (.aload_n 0, 0, 0, 0, [])), (2, (.getfield 44, 18, 13, 2, [])), (5, (.invokeinterface 351 1, 43, 0, 0, [])), (10, (.ifCond .eq 7, 0, 0, 0, [])), (13, (.iconst 1, 0, 0, 0, [])), (14, (.goto 4, 0, 0, 0, [])), (18, (.putfield 114, 18, 0, 0, [])), (21, (.aload_n 0, 0, 0, 0, [])), (22, (.getfield 114, 18, 0, 0, [])), (25, (.ifCond .le 5, 0, 0, 0, [])), (28, (.iconst 0, 0, 0, 0, [])), (29, (.ireturn, 0, 0, 0, []))]
def mh_X10_below : List (Nat × Nat × Nat × Nat × Nat) := []
def md_X10_below : MD := (yX10_below, cX10_below, 4, (some .boolean), 3, RX10, false, mh_X10_below)
def tf_X10_below : List (Nat × Step) := [(0, aPs (qLd 0 1 isRN)), (1, aSt 3 (pgf 11 0)), (4, aPs (qLd 1 1 isI)), (5, aCall 1 3 67 8 2 mh_X10_below), (8, aPs (qIf .eq 14)), (22, aThr 1), (25, aPs qDup), (32, aPs (qLd 0 1 isRN))]
def tl_X10_below : List (Nat × IE) := [(0, (.aload_n 0, 0, 0, 0, [])), (1, (.getfield 12, 11, 0, 2, [])), (4, (.iload_n 1, 0, 0, 0, [])), (5, (.invokevirtual 89, 67, 8, 0, [])), (8, (.ifCond .eq 14, 0, 0, 0, [])), (22, (.new 93, 101, 95, 97, [])), (25, (.dup, 0, 0, 0, [])), (32, (.aload_n 0, 0, 0, 0, []))]
def mh_X10_variable : List (Nat × Nat × Nat × Nat × Nat) := []
def md_X10_variable : MD := (yX10_variable, cX10_variable, 4, (some .int), 3, RX10, false, mh_X10_variable)
def tf_X10_variable : List (Nat × Step) := [(0, aPs (qLd 0 1 isRN)), (1, aSt 3 (pgf 11 0)), (4, aPs (qLd 2 1 isI)), (5, aCall 1 3 67 8 2 mh_X10_variable), (8, aPs (qIf .ne 13)), (11, aThr 1), (14, aPs qDup), (21, aPs (qLd 1 1 isI))]
def tl_X10_variable : List (Nat × IE) := [(0, (.aload_n 0, 0, 0, 0, [])), (1, (.getfield 12, 11, 0, 2, [])), (4, (.iload_n 2, 0, 0, 0, [])), (5, (.invokevirtual 89, 67, 8, 0, [])), (8, (.ifCond .ne 13, 0, 0, 0, [])), (11, (.new 93, 101, 95, 97, [])), (14, (.dup, 0, 0, 0, [])), (21, (.iload_n 1, 0, 0, 0, []))]
def mh_X10_declare : List (Nat × Nat × Nat × Nat × Nat) := []
def md_X10_declare : MD := (yX10_declare, cX10_declare, 7, (some .int), 6, RX10, false, mh_X10_declare)
def tf_X10_declare : List (Nat × Step) := [(0, aPs (qLd 0 1 isRN)), (1, aSt 3 (pgf 11 0)), (4, aPs (qLd 1 1 isI)), (5, aCall 1 3 24 8 2 mh_X10_declare), (8, aPs (qIf .eq 14)), (22, aThr 1), (25, aPs qDup), (32, aPs (qLd 0 1 isRN))]
def tl_X10_declare : List (Nat × IE) := [(0, (.aload_n 0, 0, 0, 0, [])), (1, (.getfield 12, 11, 0, 2, [])), (4, (.iload_n 1, 0, 0, 0, [])), (5, (.invokevirtual 126, 24, 8, 0, [])), (8, (.ifCond .eq 14, 0, 0, 0, [])), (22, (.new 93, 101, 149, 97, [])), (25, (.dup, 0, 0, 0, [])), (32, (.aload_n 0, 0, 0, 0, []))]
def mh_X10_apply : List (Nat × Nat × Nat × Nat × Nat) := []
def md_X10_apply : MD := (yX10_apply, cX10_apply, 4, (some .int), 2, RX10, false, mh_X10_apply)
def tf_X10_apply : List (Nat × Step) := [(0, aPs (qLd 0 1 isRN)), (1, aSt 3 (pgf 11 0)), (4, aPs (qLd 1 1 isI)), (5, aCall 1 3 24 8 2 mh_X10_apply), (8, aPs (qIf .ne 13)), (11, aThr 1), (14, aPs qDup), (21, aPs (qLd 0 1 isRN))]
def tl_X10_apply : List (Nat × IE) := [(0, (.aload_n 0, 0, 0, 0, [])), (1, (.getfield 12, 11, 0, 2, [])), (4, (.iload_n 1, 0, 0, 0, [])), (5, (.invokevirtual 126, 24, 8, 0, [])), (8, (.ifCond .ne 13, 0, 0, 0, [])), (11, (.new 93, 101, 169, 97, [])), (14, (.dup, 0, 0, 0, [])), (21, (.aload_n 0, 0, 0, 0, []))]
def mh_X10_weight : List (Nat × Nat × Nat × Nat × Nat) := []
def md_X10_weight : MD := (yX10_weight, cX10_weight, 6, (some .int), 4, RX10, false, mh_X10_weight)
def tf_X10_weight : List (Nat × Step) := [(0, aPs (qLd 0 1 isRN)), (1, aSt 3 (pgf 11 0)), (4, aPs (qLd 1 1 isI)), (5, aCall 1 3 24 8 2 mh_X10_weight), (8, aPs (qIf .eq 20)), (28, aThr 1), (31, aPs qDup)]
def tl_X10_weight : List (Nat × IE) := [(0, (.aload_n 0, 0, 0, 0, [])), (1, (.getfield 12, 11, 0, 2, [])), (4, (.iload_n 1, 0, 0, 0, [])), (5, (.invokevirtual 126, 24, 8, 0, [])), (8, (.ifCond .eq 20, 0, 0, 0, [])), (28, (.new 93, 101, 367, 97, [1])), (31, (.dup, 0, 0, 0, []))]
def mh_X10_view : List (Nat × Nat × Nat × Nat × Nat) := []
def md_X10_view : MD := (yX10_view, cX10_view, 4, (some .int), 3, RX10, false, mh_X10_view)
def tf_X10_view : List (Nat × Step) := [(0, aPs (qLd 0 1 isRN)), (1, aSt 3 (pgf 11 0)), (4, aPs (qLd 1 1 isI)), (5, aCall 1 3 24 8 2 mh_X10_view), (8, aPs (qIf .eq 14)), (22, aThr 1), (25, aPs qDup), (32, aPs (qLd 0 1 isRN))]
def tl_X10_view : List (Nat × IE) := [(0, (.aload_n 0, 0, 0, 0, [])), (1, (.getfield 12, 11, 0, 2, [])), (4, (.iload_n 1, 0, 0, 0, [])), (5, (.invokevirtual 126, 24, 8, 0, [])), (8, (.ifCond .eq 14, 0, 0, 0, [])), (22, (.new 93, 101, 169, 97, [])), (25, (.dup, 0, 0, 0, [])), (32, (.aload_n 0, 0, 0, 0, []))]
def mh_X17_drop : List (Nat × Nat × Nat × Nat × Nat) := []
def md_X17_drop : MD := (yX17_drop, cX17_drop, 2, (some .int), 1, RX17, false, mh_X17_drop)
def tf_X17_drop : List (Nat × Step) := [(0, aPs (qLd 0 1 isRN)), (1, aPs (qC 0)), (2, aWr 3 ref2 (ppf 18 0 0)), (5, aPs (qLd 0 1 isRN)), (6, aSt 3 (pgf 18 13)), (9, aCall 3 5 30 0 1 mh_X17_drop), (14, aPs (qSt 2 1 1 isI)), (15, aPs (qLd 0 1 isRN)), (16, aSt 3 (pgf 18 13)), (19, aCall 3 5 77 0 1 mh_X17_drop), (24, aPs (qLd 1 1 isI)), (25, aRet (some .int))]
def tl_X17_drop : List (Nat × IE) := [(0, (.aload_n 0, 0, 0, 0, [])), (1, (.iconst 0, 0, 0, 0, [])), (2, (.putfield 114, 18, 0, 0, [])), (5, (.aload_n 0, 0, 0, 0, [])), (6, (.getfield 44, 18, 13, 2, [])), (9, (.invokeinterface 271 1, 30, 0, 0, [])), (14, (.istore_n 1, 0, 0, 0, [])), (15, (.aload_n 0, 0, 0, 0, [])), (16, (.getfield 44, 18, 13, 2, [])), (19, (.invokeinterface 354 1, 77, 0, 0, [])), (24, (.iload_n 1, 0, 0, 0, [])), (25, (.ireturn, 0, 0, 0, []))]
def mh_X17_matches : List (Nat × Nat × Nat × Nat × Nat) := []
def md_X17_matches : MD := (yX17_matches, cX17_matches, 1, (some .int), 1, RX17, false, mh_X17_matches)
def tf_X17_matches : List (Nat × Step) := [(0, aPs (qLd 0 1 isRN)), (1, aPs (qLd 0 1 isRN)), (2, aCall 1 3 76 18 1 mh_X17_matches), (5, aPs (qIf .eq 7)), (12, aPs (qC 1)), (13, aWr 3 ref2 (ppf 18 0 0)), (16, aPs (qLd 0 1 isRN)), (17, aSt 3 (pgf 18 0)), (20, aPs (qIf .le 7)), (23, aPs (qC 0)), (24, aPs (qGo 18)), (42, aRet (some .int))]
def tl_X17_matches : List (Nat × IE) := [(0, (.aload_n 0, 0, 0, 0, [])), (1, (.aload_n 0, 0, 0, 0, [])), (2, (.invokevirtual 540, 76, 18, 0, [])), (5, (.ifCond .eq 7, 0, 0, 0, [])), (12, (.iconst 1, 0, 0, 0, [])), (13, (.putfield 114, 18, 0, 0, [])), (16, (.aload_n 0, 0, 0, 0, [])), (17, (.getfield 114, 18, 0, 0, [])), (20, (.ifCond .le 7, 0, 0, 0, [])), (23, (.iconst 0, 0, 0, 0, [])), (24, (.goto 18, 0, 0, 0, [])), (42, (.ireturn, 0, 0, 0, []))]
def mh_X10_state : List (Nat × Nat × Nat × Nat × Nat) := []
def md_X10_state : MD := (yX10_state, cX10_state, 2, (some .int), 2, RX10, false, mh_X10_state)
def tf_X10_state : List (Nat × Step) := [(0, aPs (qLd 1 1 isI)), (1, aPs (qIf .lt 14)), (4, aPs (qLd 1 1 isI)), (5, aPs (qLd 0 1 isRN)), (6, aSt 3 (pgf 11 5)), (9, aSt 3 (pgf 2 2)), (12, aPs (qIc .lt 14)), (15, aThr 1), (18, aPs qDup)]
def tl_X10_state : List (Nat × IE) := [(0, (.iload_n 1, 0, 0, 0, [])), (1, (.ifCond .lt 14, 0, 0, 0, [])), (4, (.iload_n 1, 0, 0, 0, [])), (5, (.aload_n 0, 0, 0, 0, [])), (6, (.getfield 60, 11, 5, 2, [])), (9, (.getfield 290, 2, 2, 0, [])), (12, (.if_icmp .lt 14, 0, 0, 0, [])), (15, (.new 93, 101, 293, 97, [1])), (18, (.dup, 0, 0, 0, []))]
def mh_X10_cameBy : List (Nat × Nat × Nat × Nat × Nat) := []
def md_X10_cameBy : MD := (yX10_cameBy, cX10_cameBy, 2, (some .int), 2, RX10, false, mh_X10_cameBy)
def tf_X10_cameBy : List (Nat × Step) := [(0, aPs (qLd 1 1 isI)), (1, aPs (qIf .le 14)), (4, aPs (qLd 1 1 isI)), (5, aPs (qLd 0 1 isRN)), (6, aSt 3 (pgf 11 5)), (9, aSt 3 (pgf 2 2)), (12, aPs (qIc .lt 14)), (15, aThr 1), (18, aPs qDup)]
def tl_X10_cameBy : List (Nat × IE) := [(0, (.iload_n 1, 0, 0, 0, [])), (1, (.ifCond .le 14, 0, 0, 0, [])), (4, (.iload_n 1, 0, 0, 0, [])), (5, (.aload_n 0, 0, 0, 0, [])), (6, (.getfield 60, 11, 5, 2, [])), (9, (.getfield 290, 2, 2, 0, [])), (12, (.if_icmp .lt 14, 0, 0, 0, [])), (15, (.new 93, 101, 295, 97, [1])), (18, (.dup, 0, 0, 0, []))]
def mh_X10_use : List (Nat × Nat × Nat × Nat × Nat) := []
def md_X10_use : MD := (yX10_use, cX10_use, 2, (some .int), 2, RX10, false, mh_X10_use)
def tf_X10_use : List (Nat × Step) := [(0, aPs (qLd 1 1 isI)), (1, aPs (qIf .lt 14)), (4, aPs (qLd 1 1 isI)), (5, aPs (qLd 0 1 isRN)), (6, aSt 3 (pgf 11 2)), (9, aSt 3 (pgf 3 3)), (12, aPs (qIc .lt 14)), (15, aThr 1), (18, aPs qDup)]
def tl_X10_use : List (Nat × IE) := [(0, (.iload_n 1, 0, 0, 0, [])), (1, (.ifCond .lt 14, 0, 0, 0, [])), (4, (.iload_n 1, 0, 0, 0, [])), (5, (.aload_n 0, 0, 0, 0, [])), (6, (.getfield 30, 11, 2, 2, [])), (9, (.getfield 259, 3, 3, 0, [])), (12, (.if_icmp .lt 14, 0, 0, 0, [])), (15, (.new 93, 101, 318, 97, [1])), (18, (.dup, 0, 0, 0, []))]
def mh_X10_idle : List (Nat × Nat × Nat × Nat × Nat) := []
def md_X10_idle : MD := (yX10_idle, cX10_idle, 1, (some .int), 1, RX10, false, mh_X10_idle)
def tf_X10_idle : List (Nat × Step) := [(0, aPs (qLd 0 1 isRN)), (1, aSt 3 (pgf 11 6)), (4, aSt 3 (pgf 6 2)), (7, aPs (qB 8)), (9, aPs (qIc .lt 14)), (23, aPs (qLd 0 1 isRN)), (24, aSt 3 (pgf 11 6)), (27, aPs (qC 1)), (28, aPs (qC 0)), (29, aCall 1 3 75 6 3 mh_X10_idle), (32, aRet (some .int))]
def tl_X10_idle : List (Nat × IE) := [(0, (.aload_n 0, 0, 0, 0, [])), (1, (.getfield 67, 11, 6, 2, [])), (4, (.getfield 320, 6, 2, 0, [])), (7, (.bipush 8, 0, 0, 0, [])), (9, (.if_icmp .lt 14, 0, 0, 0, [])), (23, (.aload_n 0, 0, 0, 0, [])), (24, (.getfield 67, 11, 6, 2, [])), (27, (.iconst 1, 0, 0, 0, [])), (28, (.iconst 0, 0, 0, 0, [])), (29, (.invokevirtual 325, 75, 6, 0, [])), (32, (.ireturn, 0, 0, 0, []))]
def mh_X10_descends : List (Nat × Nat × Nat × Nat × Nat) := []
def md_X10_descends : MD := (yX10_descends, cX10_descends, 2, (some .boolean), 2, RX10, false, mh_X10_descends)
def tf_X10_descends : List (Nat × Step) := [(0, aPs (qLd 1 1 isI)), (1, aPs (qIf .lt 14)), (4, aPs (qLd 1 1 isI)), (5, aPs (qLd 0 1 isRN)), (6, aSt 3 (pgf 11 2)), (9, aSt 3 (pgf 3 2)), (12, aPs (qIc .lt 14)), (15, aThr 1), (18, aPs qDup)]
def tl_X10_descends : List (Nat × IE) := [(0, (.iload_n 1, 0, 0, 0, [])), (1, (.ifCond .lt 14, 0, 0, 0, [])), (4, (.iload_n 1, 0, 0, 0, [])), (5, (.aload_n 0, 0, 0, 0, [])), (6, (.getfield 30, 11, 2, 2, [])), (9, (.getfield 262, 3, 2, 0, [])), (12, (.if_icmp .lt 14, 0, 0, 0, [])), (15, (.new 93, 101, 374, 97, [1])), (18, (.dup, 0, 0, 0, []))]
def mh_X10_copy : List (Nat × Nat × Nat × Nat × Nat) := []
def md_X10_copy : MD := (yX10_copy, cX10_copy, 2, (some .int), 2, RX10, false, mh_X10_copy)
def tf_X10_copy : List (Nat × Step) := [(0, aPs (qLd 1 1 isI)), (1, aPs (qIf .lt 14)), (4, aPs (qLd 1 1 isI)), (5, aPs (qLd 0 1 isRN)), (6, aSt 3 (pgf 11 2)), (9, aSt 3 (pgf 3 2)), (12, aPs (qIc .lt 14)), (15, aThr 1), (18, aPs qDup)]
def tl_X10_copy : List (Nat × IE) := [(0, (.iload_n 1, 0, 0, 0, [])), (1, (.ifCond .lt 14, 0, 0, 0, [])), (4, (.iload_n 1, 0, 0, 0, [])), (5, (.aload_n 0, 0, 0, 0, [])), (6, (.getfield 30, 11, 2, 2, [])), (9, (.getfield 262, 3, 2, 0, [])), (12, (.if_icmp .lt 14, 0, 0, 0, [])), (15, (.new 93, 101, 374, 97, [1])), (18, (.dup, 0, 0, 0, []))]
def mh_X17_open : List (Nat × Nat × Nat × Nat × Nat) := []
def md_X17_open : MD := (yX17_open, cX17_open, 4, (some (.object "RuleForgeModel$Both")), 1, RX17, false, mh_X17_open)
def tf_X17_open : List (Nat × Step) := [(0, aPs (qLd 0 1 isRN)), (1, aCall 1 3 58 18 1 mh_X17_open), (4, aPs (qSt 4 1 1 isRN)), (5, aPs (qC 0)), (6, aPs (qSt 4 2 1 isI)), (7, aPs (qLd 2 1 isI)), (8, aPs (qLd 1 1 isRN)), (9, aCall 3 5 30 0 1 mh_X17_open), (14, aPs (qIc .ge 52)), (66, aPs (fun ev pc als ast => ps1 ev.1 ev.2.1 4 (.aconst_null) pc als ast)), (67, aARet)]
def tl_X17_open : List (Nat × IE) := [(0, (.aload_n 0, 0, 0, 0, [])), (1, (.invokevirtual 476, 58, 18, 0, [])), (4, (.astore_n 1, 0, 0, 0, [])), (5, (.iconst 0, 0, 0, 0, [])), (6, (.istore_n 2, 0, 0, 0, [])), (7, (.iload_n 2, 0, 0, 0, [])), (8, (.aload_n 1, 0, 0, 0, [])), (9, (.invokeinterface 271 1, 30, 0, 0, [])), (14, (.if_icmp .ge 52, 0, 0, 0, [])), (66, (.aconst_null, 0, 0, 0, [])), (67, (.areturn, 0, 0, 0, []))]
def mh_X17_matchesAnew : List (Nat × Nat × Nat × Nat × Nat) := []
def md_X17_matchesAnew : MD := (yX17_matchesAnew, cX17_matchesAnew, 2, (some .int), 1, RX17, false, mh_X17_matchesAnew)
def tf_X17_matchesAnew : List (Nat × Step) := [(0, aPs (qLd 0 1 isRN)), (1, aPs (qLd 0 1 isRN)), (2, aCall 1 3 76 18 1 mh_X17_matchesAnew), (5, aPs (qIf .eq 7)), (12, aPs (qC 1)), (13, aWr 3 ref2 (ppf 18 0 0)), (16, aPs (qLd 0 1 isRN)), (17, aSt 3 (pgf 18 0)), (20, aPs (qIf .le 5)), (23, aPs (qC 0)), (24, aRet (some .int))]
def tl_X17_matchesAnew : List (Nat × IE) := [(0, (.aload_n 0, 0, 0, 0, [])), (1, (.aload_n 0, 0, 0, 0, [])), (2, (.invokevirtual 540, 76, 18, 0, [])), (5, (.ifCond .eq 7, 0, 0, 0, [])), (12, (.iconst 1, 0, 0, 0, [])), (13, (.putfield 114, 18, 0, 0, [])), (16, (.aload_n 0, 0, 0, 0, [])), (17, (.getfield 114, 18, 0, 0, [])), (20, (.ifCond .le 5, 0, 0, 0, [])), (23, (.iconst 0, 0, 0, 0, [])), (24, (.ireturn, 0, 0, 0, []))]
def mh_X17_match : List (Nat × Nat × Nat × Nat × Nat) := []
def md_X17_match : MD := (yX17_match, cX17_match, 6, (some .int), 3, RX17, false, mh_X17_match)
def tf_X17_match : List (Nat × Step) := [(0, aPs (qLd 0 1 isRN)), (1, aPs (qLd 0 1 isRN)), (2, aCall 1 3 76 18 1 mh_X17_match), (5, aPs (qIf .eq 7)), (12, aPs (qC 2)), (13, aWr 3 ref2 (ppf 18 0 0)), (16, aPs (qLd 0 1 isRN)), (17, aSt 3 (pgf 18 0)), (20, aPs (qIf .le 5)), (23, aPs (qC 0)), (24, aRet (some .int))]
def tl_X17_match : List (Nat × IE) := [(0, (.aload_n 0, 0, 0, 0, [])), (1, (.aload_n 0, 0, 0, 0, [])), (2, (.invokevirtual 540, 76, 18, 0, [])), (5, (.ifCond .eq 7, 0, 0, 0, [])), (12, (.iconst 2, 0, 0, 0, [])), (13, (.putfield 114, 18, 0, 0, [])), (16, (.aload_n 0, 0, 0, 0, [])), (17, (.getfield 114, 18, 0, 0, [])), (20, (.ifCond .le 5, 0, 0, 0, [])), (23, (.iconst 0, 0, 0, 0, [])), (24, (.ireturn, 0, 0, 0, []))]
def mh_X10_pairs : List (Nat × Nat × Nat × Nat × Nat) := []
def md_X10_pairs : MD := (yX10_pairs, cX10_pairs, 1, (some .int), 1, RX10, false, mh_X10_pairs)
def tf_X10_pairs : List (Nat × Step) := [(0, aPs (qLd 0 1 isRN)), (1, aSt 3 (pgf 11 1)), (4, aCall 1 3 44 9 1 mh_X10_pairs), (7, aPs (qLd 0 1 isRN)), (8, aSt 3 (pgf 11 7)), (11, aCall 1 3 64 1 1 mh_X10_pairs), (14, aPs (qLd 0 1 isRN)), (15, aSt 3 (pgf 11 7)), (18, aSt 3 (pgf 1 4)), (21, aRet (some .int))]
def tl_X10_pairs : List (Nat × IE) := [(0, (.aload_n 0, 0, 0, 0, [])), (1, (.getfield 21, 11, 1, 2, [])), (4, (.invokevirtual 173, 44, 9, 0, [])), (7, (.aload_n 0, 0, 0, 0, [])), (8, (.getfield 74, 11, 7, 2, [])), (11, (.invokevirtual 358, 64, 1, 0, [])), (14, (.aload_n 0, 0, 0, 0, [])), (15, (.getfield 74, 11, 7, 2, [])), (18, (.getfield 361, 1, 4, 0, [])), (21, (.ireturn, 0, 0, 0, []))]
def mh_X17_adds : List (Nat × Nat × Nat × Nat × Nat) := []
def md_X17_adds : MD := (yX17_adds, cX17_adds, 2, (some .int), 2, RX17, false, mh_X17_adds)
def tf_X17_adds : List (Nat × Step) := [(0, aPs (qLd 0 1 isRN)), (1, aSt 3 (pgf 18 17)), (4, aPs (qLd 1 1 isRN)), (5, aCall 3 5 33 0 2 mh_X17_adds), (10, aPs (fun ev pc als ast => ps1 ev.1 ev.2.1 2 (.pop) pc als ast)), (11, aPs (qLd 0 1 isRN)), (12, aSt 3 (pgf 18 17)), (15, aCall 3 5 30 0 1 mh_X17_adds), (20, aRet (some .int))]
def tl_X17_adds : List (Nat × IE) := [(0, (.aload_n 0, 0, 0, 0, [])), (1, (.getfield 60, 18, 17, 2, [])), (4, (.aload_n 1, 0, 0, 0, [])), (5, (.invokeinterface 344 2, 33, 0, 0, [])), (10, (.pop, 0, 0, 0, [])), (11, (.aload_n 0, 0, 0, 0, [])), (12, (.getfield 60, 18, 17, 2, [])), (15, (.invokeinterface 271 1, 30, 0, 0, [])), (20, (.ireturn, 0, 0, 0, []))]
def mh_L_sort : List (Nat × Nat × Nat × Nat × Nat) := [(0, 8, 11, 13, 0)]
def md_L_sort : MD := (yL_sort, cL_sort, 3, (some .int), 2, RL, false, mh_L_sort)
def tf_L_sort : List (Nat × Step) := [(0, aPs (qLd 1 1 isRN)), (1, aPs (qC 0)), (2, aPs (qLd 0 1 isRN)), (3, aCall 1 3 83 11 1 mh_L_sort), (6, aPs (fun ev pc als ast => ps1 ev.1 ev.2.1 3 (.i2l) pc als ast)), (7, aWr 1 ref3 (past s2)), (8, aPs (qGo 6)), (14, aPs (qC 0)), (15, aRet (some .int))]
def tl_L_sort : List (Nat × IE) := [(0, (.aload_n 1, 0, 0, 0, [])), (1, (.iconst 0, 0, 0, 0, [])), (2, (.aload_n 0, 0, 0, 0, [])), (3, (.invokevirtual 7, 83, 11, 0, [])), (6, (.i2l, 0, 0, 0, [])), (7, (.lastore, 0, 0, 0, [])), (8, (.goto 6, 0, 0, 0, [])), (14, (.iconst 0, 0, 0, 0, [])), (15, (.ireturn, 0, 0, 0, []))]
def mh_L_match : List (Nat × Nat × Nat × Nat × Nat) := [(0, 10, 13, 19, 1), (0, 10, 17, 13, 0)]
def md_L_match : MD := (yL_match, cL_match, 5, (some .int), 4, RL, false, mh_L_match)
def tf_L_match : List (Nat × Step) := [(0, aPs (qLd 3 1 isRN)), (1, aPs (qC 0)), (2, aPs (qLd 0 1 isRN)), (3, aPs (qLd 1 1 isI)), (4, aPs (qLd 2 1 isI)), (5, aCall 1 3 151 11 3 mh_L_match), (17, aPs (qSt 5 4 2 isRN)), (19, aPs (qC 2)), (20, aRet (some .int))]
def tl_L_match : List (Nat × IE) := [(0, (.aload_n 3, 0, 0, 0, [])), (1, (.iconst 0, 0, 0, 0, [])), (2, (.aload_n 0, 0, 0, 0, [])), (3, (.iload_n 1, 0, 0, 0, [])), (4, (.iload_n 2, 0, 0, 0, [])), (5, (.invokevirtual 60, 151, 11, 0, [])), (17, (.astore 4, 0, 0, 0, [])), (19, (.iconst 2, 0, 0, 0, [])), (20, (.ireturn, 0, 0, 0, []))]
def mh_L_idle : List (Nat × Nat × Nat × Nat × Nat) := [(0, 8, 11, 13, 0)]
def md_L_idle : MD := (yL_idle, cL_idle, 3, (some .int), 2, RL, false, mh_L_idle)
def tf_L_idle : List (Nat × Step) := [(0, aPs (qLd 1 1 isRN)), (1, aPs (qC 0)), (2, aPs (qLd 0 1 isRN)), (3, aCall 1 3 118 11 1 mh_L_idle), (6, aPs (fun ev pc als ast => ps1 ev.1 ev.2.1 3 (.i2l) pc als ast)), (7, aWr 1 ref3 (past s2)), (8, aPs (qGo 6)), (14, aPs (qC 0)), (15, aRet (some .int))]
def tl_L_idle : List (Nat × IE) := [(0, (.aload_n 1, 0, 0, 0, [])), (1, (.iconst 0, 0, 0, 0, [])), (2, (.aload_n 0, 0, 0, 0, [])), (3, (.invokevirtual 95, 118, 11, 0, [])), (6, (.i2l, 0, 0, 0, [])), (7, (.lastore, 0, 0, 0, [])), (8, (.goto 6, 0, 0, 0, [])), (14, (.iconst 0, 0, 0, 0, [])), (15, (.ireturn, 0, 0, 0, []))]
def mh_X10_drop : List (Nat × Nat × Nat × Nat × Nat) := []
def md_X10_drop : MD := (yX10_drop, cX10_drop, 2, (some .int), 1, RX10, false, mh_X10_drop)
def tf_X10_drop : List (Nat × Step) := [(0, aPs (qLd 0 1 isRN)), (1, aSt 3 (pgf 11 8)), (4, aPs (qSt 2 1 1 isI)), (5, aPs (qLd 0 1 isRN)), (6, aPs (qC 0)), (7, aWr 3 ref2 (ppf 11 8 0)), (10, aPs (qLd 1 1 isI)), (11, aRet (some .int))]
def tl_X10_drop : List (Nat × IE) := [(0, (.aload_n 0, 0, 0, 0, [])), (1, (.getfield 160, 11, 8, 0, [])), (4, (.istore_n 1, 0, 0, 0, [])), (5, (.aload_n 0, 0, 0, 0, [])), (6, (.iconst 0, 0, 0, 0, [])), (7, (.putfield 160, 11, 8, 0, [])), (10, (.iload_n 1, 0, 0, 0, [])), (11, (.ireturn, 0, 0, 0, []))]
def mh_L_code : List (Nat × Nat × Nat × Nat × Nat) := [(0, 9, 12, 19, 1), (0, 9, 15, 13, 0)]
def md_L_code : MD := (yL_code, cL_code, 4, (some .int), 3, RL, false, mh_L_code)
def tf_L_code : List (Nat × Step) := [(0, aPs (qLd 2 1 isRN)), (1, aPs (qC 0)), (2, aPs (qLd 0 1 isRN)), (3, aPs (qLd 1 1 isI)), (4, aCall 1 3 148 11 2 mh_L_code), (15, aPs (qSt 4 3 1 isRN)), (16, aPs (qC 2)), (17, aRet (some .int))]
def tl_L_code : List (Nat × IE) := [(0, (.aload_n 2, 0, 0, 0, [])), (1, (.iconst 0, 0, 0, 0, [])), (2, (.aload_n 0, 0, 0, 0, [])), (3, (.iload_n 1, 0, 0, 0, [])), (4, (.invokevirtual 51, 148, 11, 0, [])), (15, (.astore_n 3, 0, 0, 0, [])), (16, (.iconst 2, 0, 0, 0, [])), (17, (.ireturn, 0, 0, 0, []))]
def mh_L_finds : List (Nat × Nat × Nat × Nat × Nat) := [(0, 9, 12, 19, 1), (0, 9, 15, 13, 0)]
def md_L_finds : MD := (yL_finds, cL_finds, 4, (some .int), 3, RL, false, mh_L_finds)
def tf_L_finds : List (Nat × Step) := [(0, aPs (qLd 2 1 isRN)), (1, aPs (qC 0)), (2, aPs (qLd 0 1 isRN)), (3, aPs (qLd 1 1 isI)), (4, aCall 1 3 158 11 2 mh_L_finds), (15, aPs (qSt 4 3 1 isRN)), (16, aPs (qC 2)), (17, aRet (some .int))]
def tl_L_finds : List (Nat × IE) := [(0, (.aload_n 2, 0, 0, 0, [])), (1, (.iconst 0, 0, 0, 0, [])), (2, (.aload_n 0, 0, 0, 0, [])), (3, (.iload_n 1, 0, 0, 0, [])), (4, (.invokevirtual 85, 158, 11, 0, [])), (15, (.astore_n 3, 0, 0, 0, [])), (16, (.iconst 2, 0, 0, 0, [])), (17, (.ireturn, 0, 0, 0, []))]
def mh_X17_pairs : List (Nat × Nat × Nat × Nat × Nat) := []
def md_X17_pairs : MD := (yX17_pairs, cX17_pairs, 1, (some .int), 1, RX17, false, mh_X17_pairs)
def tf_X17_pairs : List (Nat × Step) := [(0, aPs (qLd 0 1 isRN)), (1, aPs (qC 0)), (2, aWr 3 ref2 (ppf 18 0 0)), (5, aPs (qLd 0 1 isRN)), (6, aCall 1 3 58 18 1 mh_X17_pairs), (9, aCall 3 5 30 0 1 mh_X17_pairs), (14, aRet (some .int))]
def tl_X17_pairs : List (Nat × IE) := [(0, (.aload_n 0, 0, 0, 0, [])), (1, (.iconst 0, 0, 0, 0, [])), (2, (.putfield 114, 18, 0, 0, [])), (5, (.aload_n 0, 0, 0, 0, [])), (6, (.invokevirtual 476, 58, 18, 0, [])), (9, (.invokeinterface 271 1, 30, 0, 0, [])), (14, (.ireturn, 0, 0, 0, []))]
def mh_X17_equations : List (Nat × Nat × Nat × Nat × Nat) := []
def md_X17_equations : MD := (yX17_equations, cX17_equations, 1, (some .int), 1, RX17, false, mh_X17_equations)
def tf_X17_equations : List (Nat × Step) := [(0, aPs (qLd 0 1 isRN)), (1, aPs (qC 0)), (2, aWr 3 ref2 (ppf 18 0 0)), (5, aPs (qLd 0 1 isRN)), (6, aSt 3 (pgf 18 15)), (9, aCall 3 5 30 0 1 mh_X17_equations), (14, aRet (some .int))]
def tl_X17_equations : List (Nat × IE) := [(0, (.aload_n 0, 0, 0, 0, [])), (1, (.iconst 0, 0, 0, 0, [])), (2, (.putfield 114, 18, 0, 0, [])), (5, (.aload_n 0, 0, 0, 0, [])), (6, (.getfield 54, 18, 15, 2, [])), (9, (.invokeinterface 271 1, 30, 0, 0, [])), (14, (.ireturn, 0, 0, 0, []))]
def mh_L_sortOf : List (Nat × Nat × Nat × Nat × Nat) := [(0, 8, 11, 13, 0)]
def md_L_sortOf : MD := (yL_sortOf, cL_sortOf, 3, (some .int), 2, RL, false, mh_L_sortOf)
def tf_L_sortOf : List (Nat × Step) := [(0, aPs (qLd 1 1 isRN)), (1, aPs (qC 0)), (2, aPs (qLd 0 1 isRN)), (3, aCall 1 3 147 11 1 mh_L_sortOf), (11, aPs (qSt 3 2 1 isRN)), (12, aPs (qC 1)), (13, aRet (some .int))]
def tl_L_sortOf : List (Nat × IE) := [(0, (.aload_n 1, 0, 0, 0, [])), (1, (.iconst 0, 0, 0, 0, [])), (2, (.aload_n 0, 0, 0, 0, [])), (3, (.invokevirtual 48, 147, 11, 0, [])), (11, (.astore_n 2, 0, 0, 0, [])), (12, (.iconst 1, 0, 0, 0, [])), (13, (.ireturn, 0, 0, 0, []))]
def mh_L_matches : List (Nat × Nat × Nat × Nat × Nat) := [(0, 8, 11, 13, 0)]
def md_L_matches : MD := (yL_matches, cL_matches, 3, (some .int), 2, RL, false, mh_L_matches)
def tf_L_matches : List (Nat × Step) := [(0, aPs (qLd 1 1 isRN)), (1, aPs (qC 0)), (2, aPs (qLd 0 1 isRN)), (3, aCall 1 3 149 11 1 mh_L_matches), (11, aPs (qSt 3 2 1 isRN)), (12, aPs (qC 1)), (13, aRet (some .int))]
def tl_L_matches : List (Nat × IE) := [(0, (.aload_n 1, 0, 0, 0, [])), (1, (.iconst 0, 0, 0, 0, [])), (2, (.aload_n 0, 0, 0, 0, [])), (3, (.invokevirtual 54, 149, 11, 0, [])), (11, (.astore_n 2, 0, 0, 0, [])), (12, (.iconst 1, 0, 0, 0, [])), (13, (.ireturn, 0, 0, 0, []))]
def mh_L_matchesAnew : List (Nat × Nat × Nat × Nat × Nat) := [(0, 8, 11, 13, 0)]
def md_L_matchesAnew : MD := (yL_matchesAnew, cL_matchesAnew, 3, (some .int), 2, RL, false, mh_L_matchesAnew)
def tf_L_matchesAnew : List (Nat × Step) := [(0, aPs (qLd 1 1 isRN)), (1, aPs (qC 0)), (2, aPs (qLd 0 1 isRN)), (3, aCall 1 3 150 11 1 mh_L_matchesAnew), (11, aPs (qSt 3 2 1 isRN)), (12, aPs (qC 1)), (13, aRet (some .int))]
def tl_L_matchesAnew : List (Nat × IE) := [(0, (.aload_n 1, 0, 0, 0, [])), (1, (.iconst 0, 0, 0, 0, [])), (2, (.aload_n 0, 0, 0, 0, [])), (3, (.invokevirtual 57, 150, 11, 0, [])), (11, (.astore_n 2, 0, 0, 0, [])), (12, (.iconst 1, 0, 0, 0, [])), (13, (.ireturn, 0, 0, 0, []))]
def mh_L_reduce : List (Nat × Nat × Nat × Nat × Nat) := [(0, 8, 11, 13, 0)]
def md_L_reduce : MD := (yL_reduce, cL_reduce, 3, (some .int), 2, RL, false, mh_L_reduce)
def tf_L_reduce : List (Nat × Step) := [(0, aPs (qLd 1 1 isRN)), (1, aPs (qC 0)), (2, aPs (qLd 0 1 isRN)), (3, aCall 1 3 153 11 1 mh_L_reduce), (11, aPs (qSt 3 2 1 isRN)), (12, aPs (qC 1)), (13, aRet (some .int))]
def tl_L_reduce : List (Nat × IE) := [(0, (.aload_n 1, 0, 0, 0, [])), (1, (.iconst 0, 0, 0, 0, [])), (2, (.aload_n 0, 0, 0, 0, [])), (3, (.invokevirtual 67, 153, 11, 0, [])), (11, (.astore_n 2, 0, 0, 0, [])), (12, (.iconst 1, 0, 0, 0, [])), (13, (.ireturn, 0, 0, 0, []))]
def mh_L_fitting : List (Nat × Nat × Nat × Nat × Nat) := [(0, 8, 11, 13, 0)]
def md_L_fitting : MD := (yL_fitting, cL_fitting, 3, (some .int), 2, RL, false, mh_L_fitting)
def tf_L_fitting : List (Nat × Step) := [(0, aPs (qLd 1 1 isRN)), (1, aPs (qC 0)), (2, aPs (qLd 0 1 isRN)), (3, aCall 1 3 154 11 1 mh_L_fitting), (11, aPs (qSt 3 2 1 isRN)), (12, aPs (qC 1)), (13, aRet (some .int))]
def tl_L_fitting : List (Nat × IE) := [(0, (.aload_n 1, 0, 0, 0, [])), (1, (.iconst 0, 0, 0, 0, [])), (2, (.aload_n 0, 0, 0, 0, [])), (3, (.invokevirtual 70, 154, 11, 0, [])), (11, (.astore_n 2, 0, 0, 0, [])), (12, (.iconst 1, 0, 0, 0, [])), (13, (.ireturn, 0, 0, 0, []))]
def mh_L_matching : List (Nat × Nat × Nat × Nat × Nat) := [(0, 8, 11, 13, 0)]
def md_L_matching : MD := (yL_matching, cL_matching, 3, (some .int), 2, RL, false, mh_L_matching)
def tf_L_matching : List (Nat × Step) := [(0, aPs (qLd 1 1 isRN)), (1, aPs (qC 0)), (2, aPs (qLd 0 1 isRN)), (3, aCall 1 3 155 11 1 mh_L_matching), (11, aPs (qSt 3 2 1 isRN)), (12, aPs (qC 1)), (13, aRet (some .int))]
def tl_L_matching : List (Nat × IE) := [(0, (.aload_n 1, 0, 0, 0, [])), (1, (.iconst 0, 0, 0, 0, [])), (2, (.aload_n 0, 0, 0, 0, [])), (3, (.invokevirtual 73, 155, 11, 0, [])), (11, (.astore_n 2, 0, 0, 0, [])), (12, (.iconst 1, 0, 0, 0, [])), (13, (.ireturn, 0, 0, 0, []))]
def mh_L_search : List (Nat × Nat × Nat × Nat × Nat) := [(0, 8, 11, 13, 0)]
def md_L_search : MD := (yL_search, cL_search, 3, (some .int), 2, RL, false, mh_L_search)
def tf_L_search : List (Nat × Step) := [(0, aPs (qLd 1 1 isRN)), (1, aPs (qC 0)), (2, aPs (qLd 0 1 isRN)), (3, aCall 1 3 156 11 1 mh_L_search), (11, aPs (qSt 3 2 1 isRN)), (12, aPs (qC 1)), (13, aRet (some .int))]
def tl_L_search : List (Nat × IE) := [(0, (.aload_n 1, 0, 0, 0, [])), (1, (.iconst 0, 0, 0, 0, [])), (2, (.aload_n 0, 0, 0, 0, [])), (3, (.invokevirtual 76, 156, 11, 0, [])), (11, (.astore_n 2, 0, 0, 0, [])), (12, (.iconst 1, 0, 0, 0, [])), (13, (.ireturn, 0, 0, 0, []))]
def mh_L_test : List (Nat × Nat × Nat × Nat × Nat) := [(0, 8, 11, 13, 0)]
def md_L_test : MD := (yL_test, cL_test, 3, (some .int), 2, RL, false, mh_L_test)
def tf_L_test : List (Nat × Step) := [(0, aPs (qLd 1 1 isRN)), (1, aPs (qC 0)), (2, aPs (qLd 0 1 isRN)), (3, aCall 1 3 159 11 1 mh_L_test), (11, aPs (qSt 3 2 1 isRN)), (12, aPs (qC 1)), (13, aRet (some .int))]
def tl_L_test : List (Nat × IE) := [(0, (.aload_n 1, 0, 0, 0, [])), (1, (.iconst 0, 0, 0, 0, [])), (2, (.aload_n 0, 0, 0, 0, [])), (3, (.invokevirtual 98, 159, 11, 0, [])), (11, (.astore_n 2, 0, 0, 0, [])), (12, (.iconst 1, 0, 0, 0, [])), (13, (.ireturn, 0, 0, 0, []))]
def mh_L_many : List (Nat × Nat × Nat × Nat × Nat) := [(0, 8, 11, 13, 0)]
def md_L_many : MD := (yL_many, cL_many, 3, (some .int), 2, RL, false, mh_L_many)
def tf_L_many : List (Nat × Step) := [(0, aPs (qLd 1 1 isRN)), (1, aPs (qC 0)), (2, aPs (qLd 0 1 isRN)), (3, aCall 1 3 144 11 1 mh_L_many), (11, aPs (qSt 3 2 1 isRN)), (12, aPs (qC 1)), (13, aRet (some .int))]
def tl_L_many : List (Nat × IE) := [(0, (.aload_n 1, 0, 0, 0, [])), (1, (.iconst 0, 0, 0, 0, [])), (2, (.aload_n 0, 0, 0, 0, [])), (3, (.invokevirtual 105, 144, 11, 0, [])), (11, (.astore_n 2, 0, 0, 0, [])), (12, (.iconst 1, 0, 0, 0, [])), (13, (.ireturn, 0, 0, 0, []))]
def mh_L_run : List (Nat × Nat × Nat × Nat × Nat) := [(0, 8, 11, 13, 0)]
def md_L_run : MD := (yL_run, cL_run, 3, (some .int), 2, RL, false, mh_L_run)
def tf_L_run : List (Nat × Step) := [(0, aPs (qLd 1 1 isRN)), (1, aPs (qC 0)), (2, aPs (qLd 0 1 isRN)), (3, aCall 1 3 145 11 1 mh_L_run), (11, aPs (qSt 3 2 1 isRN)), (12, aPs (qC 1)), (13, aRet (some .int))]
def tl_L_run : List (Nat × IE) := [(0, (.aload_n 1, 0, 0, 0, [])), (1, (.iconst 0, 0, 0, 0, [])), (2, (.aload_n 0, 0, 0, 0, [])), (3, (.invokevirtual 108, 145, 11, 0, [])), (11, (.astore_n 2, 0, 0, 0, [])), (12, (.iconst 1, 0, 0, 0, [])), (13, (.ireturn, 0, 0, 0, []))]
def mh_X10_many : List (Nat × Nat × Nat × Nat × Nat) := []
def md_X10_many : MD := (yX10_many, cX10_many, 1, (some .int), 1, RX10, false, mh_X10_many)
def tf_X10_many : List (Nat × Step) := [(0, aPs (qLd 0 1 isRN)), (1, aSt 3 (pgf 11 6)), (4, aSt 3 (pgf 6 2)), (7, aPs (qC 1)), (8, aPs (qIc .lt 15)), (23, aThr 0), (26, aPs qDup)]
def tl_X10_many : List (Nat × IE) := [(0, (.aload_n 0, 0, 0, 0, [])), (1, (.getfield 67, 11, 6, 2, [])), (4, (.getfield 320, 6, 2, 0, [])), (7, (.iconst 1, 0, 0, 0, [])), (8, (.if_icmp .lt 15, 0, 0, 0, [])), (23, (.new 82, 100, 342, 86, [1])), (26, (.dup, 0, 0, 0, []))]
def mh_X10_run : List (Nat × Nat × Nat × Nat × Nat) := []
def md_X10_run : MD := (yX10_run, cX10_run, 4, (some .int), 1, RX10, false, mh_X10_run)
def tf_X10_run : List (Nat × Step) := [(0, aPs (qLd 0 1 isRN)), (1, aSt 3 (pgf 11 6)), (4, aSt 3 (pgf 6 2)), (7, aPs (qC 1)), (8, aPs (qIc .lt 10)), (18, aThr 0), (21, aPs qDup)]
def tl_X10_run : List (Nat × IE) := [(0, (.aload_n 0, 0, 0, 0, [])), (1, (.getfield 67, 11, 6, 2, [])), (4, (.getfield 320, 6, 2, 0, [])), (7, (.iconst 1, 0, 0, 0, [])), (8, (.if_icmp .lt 10, 0, 0, 0, [])), (18, (.new 82, 100, 347, 86, [1])), (21, (.dup, 0, 0, 0, []))]
def mh_X17_isCut : List (Nat × Nat × Nat × Nat × Nat) := []
def md_X17_isCut : MD := (yX17_isCut, cX17_isCut, 1, (some .boolean), 1, RX17, false, mh_X17_isCut)
def tf_X17_isCut : List (Nat × Step) := [(0, aPs (qLd 0 1 isRN)), (1, aPs (qC 0)), (2, aWr 3 ref2 (ppf 18 0 0)), (5, aPs (qLd 0 1 isRN)), (6, aSt 3 (pgf 18 19)), (9, aRet (some .boolean))]
def tl_X17_isCut : List (Nat × IE) := [(0, (.aload_n 0, 0, 0, 0, [])), (1, (.iconst 0, 0, 0, 0, [])), (2, (.putfield 114, 18, 0, 0, [])), (5, (.aload_n 0, 0, 0, 0, [])), (6, (.getfield 357, 18, 19, 1, [])), (9, (.ireturn, 0, 0, 0, []))]
def mh_X10_sortOf : List (Nat × Nat × Nat × Nat × Nat) := []
def md_X10_sortOf : MD := (yX10_sortOf, cX10_sortOf, 1, (some .int), 1, RX10, false, mh_X10_sortOf)
def tf_X10_sortOf : List (Nat × Step) := [(0, aPs (qLd 0 1 isRN)), (1, aSt 3 (pgf 11 8)), (4, aPs (qIf .ne 13)), (7, aThr 0), (10, aPs qDup), (17, aPs (qLd 0 1 isRN))]
def tl_X10_sortOf : List (Nat × IE) := [(0, (.aload_n 0, 0, 0, 0, [])), (1, (.getfield 160, 11, 8, 0, [])), (4, (.ifCond .ne 13, 0, 0, 0, [])), (7, (.new 82, 100, 201, 86, [])), (10, (.dup, 0, 0, 0, [])), (17, (.aload_n 0, 0, 0, 0, []))]
def mh_X10_code : List (Nat × Nat × Nat × Nat × Nat) := []
def md_X10_code : MD := (yX10_code, cX10_code, 4, (some .int), 2, RX10, false, mh_X10_code)
def tf_X10_code : List (Nat × Step) := [(0, aPs (qLd 0 1 isRN)), (1, aSt 3 (pgf 11 8)), (4, aPs (qIf .ne 13)), (7, aThr 0), (10, aPs qDup), (17, aPs (qLd 0 1 isRN))]
def tl_X10_code : List (Nat × IE) := [(0, (.aload_n 0, 0, 0, 0, [])), (1, (.getfield 160, 11, 8, 0, [])), (4, (.ifCond .ne 13, 0, 0, 0, [])), (7, (.new 82, 100, 201, 86, [])), (10, (.dup, 0, 0, 0, [])), (17, (.aload_n 0, 0, 0, 0, []))]
def mh_X10_matches : List (Nat × Nat × Nat × Nat × Nat) := []
def md_X10_matches : MD := (yX10_matches, cX10_matches, 1, (some .int), 1, RX10, false, mh_X10_matches)
def tf_X10_matches : List (Nat × Step) := [(0, aPs (qLd 0 1 isRN)), (1, aCall 1 3 87 11 1 mh_X10_matches), (4, aPs (qIf .ne 13)), (7, aThr 0), (10, aPs qDup), (17, aPs (qLd 0 1 isRN))]
def tl_X10_matches : List (Nat × IE) := [(0, (.aload_n 0, 0, 0, 0, [])), (1, (.invokevirtual 221, 87, 11, 0, [])), (4, (.ifCond .ne 13, 0, 0, 0, [])), (7, (.new 82, 100, 224, 86, [])), (10, (.dup, 0, 0, 0, [])), (17, (.aload_n 0, 0, 0, 0, []))]
def mh_X10_matchesAnew : List (Nat × Nat × Nat × Nat × Nat) := []
def md_X10_matchesAnew : MD := (yX10_matchesAnew, cX10_matchesAnew, 1, (some .int), 1, RX10, false, mh_X10_matchesAnew)
def tf_X10_matchesAnew : List (Nat × Step) := [(0, aPs (qLd 0 1 isRN)), (1, aCall 1 3 87 11 1 mh_X10_matchesAnew), (4, aPs (qIf .ne 13)), (7, aThr 0), (10, aPs qDup), (17, aPs (qLd 0 1 isRN))]
def tl_X10_matchesAnew : List (Nat × IE) := [(0, (.aload_n 0, 0, 0, 0, [])), (1, (.invokevirtual 221, 87, 11, 0, [])), (4, (.ifCond .ne 13, 0, 0, 0, [])), (7, (.new 82, 100, 224, 86, [])), (10, (.dup, 0, 0, 0, [])), (17, (.aload_n 0, 0, 0, 0, []))]
def mh_X10_match : List (Nat × Nat × Nat × Nat × Nat) := []
def md_X10_match : MD := (yX10_match, cX10_match, 5, (some .int), 3, RX10, false, mh_X10_match)
def tf_X10_match : List (Nat × Step) := [(0, aPs (qLd 0 1 isRN)), (1, aCall 1 3 87 11 1 mh_X10_match), (4, aPs (qIf .ne 13)), (7, aThr 0), (10, aPs qDup), (17, aPs (qLd 0 1 isRN))]
def tl_X10_match : List (Nat × IE) := [(0, (.aload_n 0, 0, 0, 0, [])), (1, (.invokevirtual 221, 87, 11, 0, [])), (4, (.ifCond .ne 13, 0, 0, 0, [])), (7, (.new 82, 100, 224, 86, [])), (10, (.dup, 0, 0, 0, [])), (17, (.aload_n 0, 0, 0, 0, []))]
def mh_X10_equations : List (Nat × Nat × Nat × Nat × Nat) := []
def md_X10_equations : MD := (yX10_equations, cX10_equations, 1, (some .int), 1, RX10, false, mh_X10_equations)
def tf_X10_equations : List (Nat × Step) := [(0, aPs (qLd 0 1 isRN)), (1, aSt 3 (pgf 11 2)), (4, aSt 3 (pgf 3 2)), (7, aRet (some .int))]
def tl_X10_equations : List (Nat × IE) := [(0, (.aload_n 0, 0, 0, 0, [])), (1, (.getfield 30, 11, 2, 2, [])), (4, (.getfield 262, 3, 2, 0, [])), (7, (.ireturn, 0, 0, 0, []))]
def mh_X10_reduce : List (Nat × Nat × Nat × Nat × Nat) := []
def md_X10_reduce : MD := (yX10_reduce, cX10_reduce, 2, (some .int), 1, RX10, false, mh_X10_reduce)
def tf_X10_reduce : List (Nat × Step) := [(0, aPs (qLd 0 1 isRN)), (1, aSt 3 (pgf 11 8)), (4, aPs (qIf .ne 13)), (7, aThr 0), (10, aPs qDup), (17, aPs (qLd 0 1 isRN))]
def tl_X10_reduce : List (Nat × IE) := [(0, (.aload_n 0, 0, 0, 0, [])), (1, (.getfield 160, 11, 8, 0, [])), (4, (.ifCond .ne 13, 0, 0, 0, [])), (7, (.new 82, 100, 201, 86, [])), (10, (.dup, 0, 0, 0, [])), (17, (.aload_n 0, 0, 0, 0, []))]
def mh_X10_fitting : List (Nat × Nat × Nat × Nat × Nat) := []
def md_X10_fitting : MD := (yX10_fitting, cX10_fitting, 3, (some .int), 1, RX10, false, mh_X10_fitting)
def tf_X10_fitting : List (Nat × Step) := [(0, aPs (qLd 0 1 isRN)), (1, aSt 3 (pgf 11 8)), (4, aPs (qIf .ne 13)), (7, aThr 0), (10, aPs qDup), (17, aPs (qC 0))]
def tl_X10_fitting : List (Nat × IE) := [(0, (.aload_n 0, 0, 0, 0, [])), (1, (.getfield 160, 11, 8, 0, [])), (4, (.ifCond .ne 13, 0, 0, 0, [])), (7, (.new 82, 100, 201, 86, [])), (10, (.dup, 0, 0, 0, [])), (17, (.iconst 0, 0, 0, 0, []))]
def mh_X10_matching : List (Nat × Nat × Nat × Nat × Nat) := []
def md_X10_matching : MD := (yX10_matching, cX10_matching, 3, (some .int), 1, RX10, false, mh_X10_matching)
def tf_X10_matching : List (Nat × Step) := [(0, aPs (qLd 0 1 isRN)), (1, aSt 3 (pgf 11 8)), (4, aPs (qIf .ne 13)), (7, aThr 0), (10, aPs qDup), (17, aPs (qC 0))]
def tl_X10_matching : List (Nat × IE) := [(0, (.aload_n 0, 0, 0, 0, [])), (1, (.getfield 160, 11, 8, 0, [])), (4, (.ifCond .ne 13, 0, 0, 0, [])), (7, (.new 82, 100, 201, 86, [])), (10, (.dup, 0, 0, 0, [])), (17, (.iconst 0, 0, 0, 0, []))]
def mh_X10_search : List (Nat × Nat × Nat × Nat × Nat) := []
def md_X10_search : MD := (yX10_search, cX10_search, 1, (some .int), 1, RX10, false, mh_X10_search)
def tf_X10_search : List (Nat × Step) := [(0, aPs (qLd 0 1 isRN)), (1, aSt 3 (pgf 11 8)), (4, aPs (qIf .ne 13)), (7, aThr 0), (10, aPs qDup), (17, aPs (qLd 0 1 isRN))]
def tl_X10_search : List (Nat × IE) := [(0, (.aload_n 0, 0, 0, 0, [])), (1, (.getfield 160, 11, 8, 0, [])), (4, (.ifCond .ne 13, 0, 0, 0, [])), (7, (.new 82, 100, 201, 86, [])), (10, (.dup, 0, 0, 0, [])), (17, (.aload_n 0, 0, 0, 0, []))]
def mh_X10_isCut : List (Nat × Nat × Nat × Nat × Nat) := []
def md_X10_isCut : MD := (yX10_isCut, cX10_isCut, 1, (some .boolean), 1, RX10, false, mh_X10_isCut)
def tf_X10_isCut : List (Nat × Step) := [(0, aPs (qLd 0 1 isRN)), (1, aSt 3 (pgf 11 5)), (4, aSt 3 (pgf 2 3)), (7, aRet (some .boolean))]
def tl_X10_isCut : List (Nat × IE) := [(0, (.aload_n 0, 0, 0, 0, [])), (1, (.getfield 60, 11, 5, 2, [])), (4, (.getfield 286, 2, 3, 1, [])), (7, (.ireturn, 0, 0, 0, []))]
def mh_X10_finds : List (Nat × Nat × Nat × Nat × Nat) := []
def md_X10_finds : MD := (yX10_finds, cX10_finds, 5, (some .int), 2, RX10, false, mh_X10_finds)
def tf_X10_finds : List (Nat × Step) := [(0, aPs (qLd 0 1 isRN)), (1, aCall 1 3 99 11 1 mh_X10_finds), (4, aPs (qIf .ne 14)), (7, aThr 0), (10, aPs qDup)]
def tl_X10_finds : List (Nat × IE) := [(0, (.aload_n 0, 0, 0, 0, [])), (1, (.invokevirtual 303, 99, 11, 0, [])), (4, (.ifCond .ne 14, 0, 0, 0, [])), (7, (.new 82, 100, 306, 86, [1])), (10, (.dup, 0, 0, 0, []))]
def mh_X10_test : List (Nat × Nat × Nat × Nat × Nat) := []
def md_X10_test : MD := (yX10_test, cX10_test, 1, (some .int), 1, RX10, false, mh_X10_test)
def tf_X10_test : List (Nat × Step) := [(0, aPs (qLd 0 1 isRN)), (1, aCall 1 3 99 11 1 mh_X10_test), (4, aPs (qIf .ne 14)), (7, aThr 0), (10, aPs qDup)]
def tl_X10_test : List (Nat × IE) := [(0, (.aload_n 0, 0, 0, 0, [])), (1, (.invokevirtual 303, 99, 11, 0, [])), (4, (.ifCond .ne 14, 0, 0, 0, [])), (7, (.new 82, 100, 306, 86, [1])), (10, (.dup, 0, 0, 0, []))]
def NPL : List Nat := [2, 1, 2, 3, 2, 1, 1, 2, 2, 2, 1, 1, 3, 2, 2, 2, 1, 4, 2, 3, 4, 5, 1, 2, 2, 2, 2, 2, 3, 2, 1, 4, 3, 2, 2, 4, 3, 2, 3, 1, 3, 4, 1, 1, 1, 1, 6, 1, 2, 2, 2, 4, 1, 3, 2, 2, 2, 2, 1, 2, 2, 2, 2, 6, 1, 3, 3, 2, 1, 7, 3, 3, 3, 2, 1, 3, 1, 1, 1, 5, 3, 1, 1, 1, 2, 2, 2, 1, 4, 4, 4, 1, 3, 3, 3, 3, 3, 3, 3, 1, 1, 1, 1, 2, 1, 2, 1, 3, 3, 6, 2, 4, 3, 1, 1, 2, 2, 2, 1, 2, 2, 1, 1, 3, 1, 2, 2, 4, 2, 1, 3, 3, 1, 1, 2, 2, 2, 2, 2, 2, 2, 2, 2, 2, 1, 1, 1, 1, 2, 1, 1, 3, 1, 1, 1, 1, 1, 1, 2, 1]
def TF : List (List (Nat × Step)) := [tf_L_law, tf_X17_init, tf_J7_fill_53178, tf_X16_init, tf_X8_init, tf_X7_init, tf_X10_init, tf_X4_init, tf_X3_init, tf_X0_init, tf_Jxc12de_init_da8c8, tf_Jx4a65c_init_da8c8, tf_X6_init, tf_X1_init, tf_X5_init, tf_X9_init, tf_Jxa1e45_init_da8c8, tf_X17_operator, tf_X2_init, tf_X17_isIn, tf_X10_operator, tf_L_operator, tf_X17_thrown, tf_X17_load, tf_X7_hasOperator, tf_X17_term, tf_X8_end, tf_X10_load, tf_X17_tell, tf_Jx4a65c_grow_92f84, tf_Jx4a65c_size_8abf5, tf_Jx4a65c_add_72be8, tf_L_load, tf_Jx4a65c_add_9ea2d, tf_X10_push, tf_X7_addOperator, tf_X8_store, tf_X10_term, tf_L_term, tf_X10_isVariableNumber, tf_X10_tell, tf_L_tell, tf_Jx4a65c_grow_d5877, tf_Jx4a65c_isEmpty_aae02, tf_X8_startAnew, tf_X10_stackAt, tf_X17_declare, tf_X10_complete, tf_X17_both, tf_X17_holds, tf_X17_keep, tf_X17_weight, tf_X17_complete, tf_X17_view, tf_X17_use, tf_X17_joins, tf_X17_state, tf_X17_cameBy, tf_X17_allPairs, tf_X17_copy, tf_X17_descends, tf_X17_isSort, tf_X17_apply, tf_X14_init, tf_X0_bringUpToDate, tf_X17_below, tf_X17_variable, tf_X7_hasSort, tf_X17_sort, tf_L_declare, tf_L_keep, tf_L_holds, tf_L_both, tf_X10_joins, tf_X17_idle, tf_X5_addOne, tf_X17_hasBoth, tf_Jx4a65c_clear_da8c8, tf_X8_giveNothing, tf_L_weight, tf_X5_addPart, tf_X17_fitting, tf_X17_matching, tf_X10_sort, tf_X10_keep, tf_X10_holds, tf_X10_both, tf_X10_hasPatternAndSubject, tf_L_below, tf_L_variable, tf_L_view, tf_X17_many, tf_L_apply, tf_L_state, tf_L_cameBy, tf_L_use, tf_L_joins, tf_L_descends, tf_L_copy, tf_X10_hasPattern, tf_X17_test, tf_X17_sortOf, tf_X17_search, tf_X17_finds, tf_X17_run, tf_X17_code, tf_X17_reduce, tf_X10_below, tf_X10_variable, tf_X10_declare, tf_X10_apply, tf_X10_weight, tf_X10_view, tf_X17_drop, tf_X17_matches, tf_X10_state, tf_X10_cameBy, tf_X10_use, tf_X10_idle, tf_X10_descends, tf_X10_copy, tf_X17_open, tf_X17_matchesAnew, tf_X17_match, tf_X10_pairs, tf_X17_adds, tf_L_sort, tf_L_match, tf_L_idle, tf_X10_drop, tf_L_code, tf_L_finds, tf_X17_pairs, tf_X17_equations, tf_L_sortOf, tf_L_matches, tf_L_matchesAnew, tf_L_reduce, tf_L_fitting, tf_L_matching, tf_L_search, tf_L_test, tf_L_many, tf_L_run, tf_X10_many, tf_X10_run, tf_X17_isCut, tf_X10_sortOf, tf_X10_code, tf_X10_matches, tf_X10_matchesAnew, tf_X10_match, tf_X10_equations, tf_X10_reduce, tf_X10_fitting, tf_X10_matching, tf_X10_search, tf_X10_isCut, tf_X10_finds, tf_X10_test]
def TB : List MT := [(md_L_law, tl_L_law), (md_X17_init, tl_X17_init), (md_J7_fill_53178, tl_J7_fill_53178), (md_X16_init, tl_X16_init), (md_X8_init, tl_X8_init), (md_X7_init, tl_X7_init), (md_X10_init, tl_X10_init), (md_X4_init, tl_X4_init), (md_X3_init, tl_X3_init), (md_X0_init, tl_X0_init), (md_Jxc12de_init_da8c8, tl_Jxc12de_init_da8c8), (md_Jx4a65c_init_da8c8, tl_Jx4a65c_init_da8c8), (md_X6_init, tl_X6_init), (md_X1_init, tl_X1_init), (md_X5_init, tl_X5_init), (md_X9_init, tl_X9_init), (md_Jxa1e45_init_da8c8, tl_Jxa1e45_init_da8c8), (md_X17_operator, tl_X17_operator), (md_X2_init, tl_X2_init), (md_X17_isIn, tl_X17_isIn), (md_X10_operator, tl_X10_operator), (md_L_operator, tl_L_operator), (md_X17_thrown, tl_X17_thrown), (md_X17_load, tl_X17_load), (md_X7_hasOperator, tl_X7_hasOperator), (md_X17_term, tl_X17_term), (md_X8_end, tl_X8_end), (md_X10_load, tl_X10_load), (md_X17_tell, tl_X17_tell), (md_Jx4a65c_grow_92f84, tl_Jx4a65c_grow_92f84), (md_Jx4a65c_size_8abf5, tl_Jx4a65c_size_8abf5), (md_Jx4a65c_add_72be8, tl_Jx4a65c_add_72be8), (md_L_load, tl_L_load), (md_Jx4a65c_add_9ea2d, tl_Jx4a65c_add_9ea2d), (md_X10_push, tl_X10_push), (md_X7_addOperator, tl_X7_addOperator), (md_X8_store, tl_X8_store), (md_X10_term, tl_X10_term), (md_L_term, tl_L_term), (md_X10_isVariableNumber, tl_X10_isVariableNumber), (md_X10_tell, tl_X10_tell), (md_L_tell, tl_L_tell), (md_Jx4a65c_grow_d5877, tl_Jx4a65c_grow_d5877), (md_Jx4a65c_isEmpty_aae02, tl_Jx4a65c_isEmpty_aae02), (md_X8_startAnew, tl_X8_startAnew), (md_X10_stackAt, tl_X10_stackAt), (md_X17_declare, tl_X17_declare), (md_X10_complete, tl_X10_complete), (md_X17_both, tl_X17_both), (md_X17_holds, tl_X17_holds), (md_X17_keep, tl_X17_keep), (md_X17_weight, tl_X17_weight), (md_X17_complete, tl_X17_complete), (md_X17_view, tl_X17_view), (md_X17_use, tl_X17_use), (md_X17_joins, tl_X17_joins), (md_X17_state, tl_X17_state), (md_X17_cameBy, tl_X17_cameBy), (md_X17_allPairs, tl_X17_allPairs), (md_X17_copy, tl_X17_copy), (md_X17_descends, tl_X17_descends), (md_X17_isSort, tl_X17_isSort), (md_X17_apply, tl_X17_apply), (md_X14_init, tl_X14_init), (md_X0_bringUpToDate, tl_X0_bringUpToDate), (md_X17_below, tl_X17_below), (md_X17_variable, tl_X17_variable), (md_X7_hasSort, tl_X7_hasSort), (md_X17_sort, tl_X17_sort), (md_L_declare, tl_L_declare), (md_L_keep, tl_L_keep), (md_L_holds, tl_L_holds), (md_L_both, tl_L_both), (md_X10_joins, tl_X10_joins), (md_X17_idle, tl_X17_idle), (md_X5_addOne, tl_X5_addOne), (md_X17_hasBoth, tl_X17_hasBoth), (md_Jx4a65c_clear_da8c8, tl_Jx4a65c_clear_da8c8), (md_X8_giveNothing, tl_X8_giveNothing), (md_L_weight, tl_L_weight), (md_X5_addPart, tl_X5_addPart), (md_X17_fitting, tl_X17_fitting), (md_X17_matching, tl_X17_matching), (md_X10_sort, tl_X10_sort), (md_X10_keep, tl_X10_keep), (md_X10_holds, tl_X10_holds), (md_X10_both, tl_X10_both), (md_X10_hasPatternAndSubject, tl_X10_hasPatternAndSubject), (md_L_below, tl_L_below), (md_L_variable, tl_L_variable), (md_L_view, tl_L_view), (md_X17_many, tl_X17_many), (md_L_apply, tl_L_apply), (md_L_state, tl_L_state), (md_L_cameBy, tl_L_cameBy), (md_L_use, tl_L_use), (md_L_joins, tl_L_joins), (md_L_descends, tl_L_descends), (md_L_copy, tl_L_copy), (md_X10_hasPattern, tl_X10_hasPattern), (md_X17_test, tl_X17_test), (md_X17_sortOf, tl_X17_sortOf), (md_X17_search, tl_X17_search), (md_X17_finds, tl_X17_finds), (md_X17_run, tl_X17_run), (md_X17_code, tl_X17_code), (md_X17_reduce, tl_X17_reduce), (md_X10_below, tl_X10_below), (md_X10_variable, tl_X10_variable), (md_X10_declare, tl_X10_declare), (md_X10_apply, tl_X10_apply), (md_X10_weight, tl_X10_weight), (md_X10_view, tl_X10_view), (md_X17_drop, tl_X17_drop), (md_X17_matches, tl_X17_matches), (md_X10_state, tl_X10_state), (md_X10_cameBy, tl_X10_cameBy), (md_X10_use, tl_X10_use), (md_X10_idle, tl_X10_idle), (md_X10_descends, tl_X10_descends), (md_X10_copy, tl_X10_copy), (md_X17_open, tl_X17_open), (md_X17_matchesAnew, tl_X17_matchesAnew), (md_X17_match, tl_X17_match), (md_X10_pairs, tl_X10_pairs), (md_X17_adds, tl_X17_adds), (md_L_sort, tl_L_sort), (md_L_match, tl_L_match), (md_L_idle, tl_L_idle), (md_X10_drop, tl_X10_drop), (md_L_code, tl_L_code), (md_L_finds, tl_L_finds), (md_X17_pairs, tl_X17_pairs), (md_X17_equations, tl_X17_equations), (md_L_sortOf, tl_L_sortOf), (md_L_matches, tl_L_matches), (md_L_matchesAnew, tl_L_matchesAnew), (md_L_reduce, tl_L_reduce), (md_L_fitting, tl_L_fitting), (md_L_matching, tl_L_matching), (md_L_search, tl_L_search), (md_L_test, tl_L_test), (md_L_many, tl_L_many), (md_L_run, tl_L_run), (md_X10_many, tl_X10_many), (md_X10_run, tl_X10_run), (md_X17_isCut, tl_X17_isCut), (md_X10_sortOf, tl_X10_sortOf), (md_X10_code, tl_X10_code), (md_X10_matches, tl_X10_matches), (md_X10_matchesAnew, tl_X10_matchesAnew), (md_X10_match, tl_X10_match), (md_X10_equations, tl_X10_equations), (md_X10_reduce, tl_X10_reduce), (md_X10_fitting, tl_X10_fitting), (md_X10_matching, tl_X10_matching), (md_X10_search, tl_X10_search), (md_X10_isCut, tl_X10_isCut), (md_X10_finds, tl_X10_finds), (md_X10_test, tl_X10_test)]
def NPf (x : Nat) : Nat := match NPL[x]? with
  | some n => n
  | none => 0
end
section
def adk (w : Jvm.Cond) : Bool := match w with
  | .declares _ => true
  | .castable _ _ => true
  | _ => false
def WB : List Jvm.Cond := lw_tbl.filter goodWord
def AD : List Jvm.Cond := lw_tbl.filter adk
theorem wb_of {w : Jvm.Cond} (h : w ∈ lw_tbl) (hg : goodWord w = true) : w ∈ WB := List.mem_filter.mpr ⟨h, hg⟩
theorem ad_of {w : Jvm.Cond} (h : w ∈ lw_tbl) (hg : adk w = true) : w ∈ AD := List.mem_filter.mpr ⟨h, hg⟩
theorem WB_good : ∀ w ∈ WB, goodWord w = true := fun w h => (List.mem_filter.mp h).2
theorem AD_ok : ADok AD := fun w h => by
  have h2 := (List.mem_filter.mp h).2
  unfold adk at h2
  split at h2
  · exact Or.inl ⟨_, rfl⟩
  · exact Or.inr ⟨_, _, rfl⟩
  · cases h2
theorem li_0 {w : Jvm.Cond} (j : Nat) (h : (k2_sels lw_privs)[j]? = some w) : w ∈ lw_tbl := List.mem_append_left _ (List.mem_of_getElem? h)
theorem wb_0 {w : Jvm.Cond} (j : Nat) (h : (k2_sels lw_privs)[j]? = some w) (hg : goodWord w = true) : w ∈ WB := wb_of (li_0 j h) hg
theorem li_1 {w : Jvm.Cond} (j : Nat) (h : tables_1_1[j]? = some w) : w ∈ lw_tbl := by
  have h := List.mem_of_getElem? h
  exact List.mem_append_right _ (show w ∈ tables_1_1 ++ (tables_1_2 ++ (tables_1_3 ++ (tables_1_4 ++ (tables_1_5 ++ (tables_1_6 ++ (tables_1_7 ++ (tables_1_8 ++ (tables_1_9 ++ (tables_1_10 ++ tables_1_11))))))))) from List.mem_append_left _ h)
theorem wb_1 {w : Jvm.Cond} (j : Nat) (h : tables_1_1[j]? = some w) (hg : goodWord w = true) : w ∈ WB := wb_of (li_1 j h) hg
theorem li_2 {w : Jvm.Cond} (j : Nat) (h : tables_1_2[j]? = some w) : w ∈ lw_tbl := by
  have h := List.mem_of_getElem? h
  exact List.mem_append_right _ (show w ∈ tables_1_1 ++ (tables_1_2 ++ (tables_1_3 ++ (tables_1_4 ++ (tables_1_5 ++ (tables_1_6 ++ (tables_1_7 ++ (tables_1_8 ++ (tables_1_9 ++ (tables_1_10 ++ tables_1_11))))))))) from List.mem_append_right _ (List.mem_append_left _ h))
theorem wb_2 {w : Jvm.Cond} (j : Nat) (h : tables_1_2[j]? = some w) (hg : goodWord w = true) : w ∈ WB := wb_of (li_2 j h) hg
theorem li_3 {w : Jvm.Cond} (j : Nat) (h : tables_1_3[j]? = some w) : w ∈ lw_tbl := by
  have h := List.mem_of_getElem? h
  exact List.mem_append_right _ (show w ∈ tables_1_1 ++ (tables_1_2 ++ (tables_1_3 ++ (tables_1_4 ++ (tables_1_5 ++ (tables_1_6 ++ (tables_1_7 ++ (tables_1_8 ++ (tables_1_9 ++ (tables_1_10 ++ tables_1_11))))))))) from List.mem_append_right _ (List.mem_append_right _ (List.mem_append_left _ h)))
theorem wb_3 {w : Jvm.Cond} (j : Nat) (h : tables_1_3[j]? = some w) (hg : goodWord w = true) : w ∈ WB := wb_of (li_3 j h) hg
theorem li_4 {w : Jvm.Cond} (j : Nat) (h : tables_1_4[j]? = some w) : w ∈ lw_tbl := by
  have h := List.mem_of_getElem? h
  exact List.mem_append_right _ (show w ∈ tables_1_1 ++ (tables_1_2 ++ (tables_1_3 ++ (tables_1_4 ++ (tables_1_5 ++ (tables_1_6 ++ (tables_1_7 ++ (tables_1_8 ++ (tables_1_9 ++ (tables_1_10 ++ tables_1_11))))))))) from List.mem_append_right _ (List.mem_append_right _ (List.mem_append_right _ (List.mem_append_left _ h))))
theorem wb_4 {w : Jvm.Cond} (j : Nat) (h : tables_1_4[j]? = some w) (hg : goodWord w = true) : w ∈ WB := wb_of (li_4 j h) hg
theorem li_5 {w : Jvm.Cond} (j : Nat) (h : tables_1_5[j]? = some w) : w ∈ lw_tbl := by
  have h := List.mem_of_getElem? h
  exact List.mem_append_right _ (show w ∈ tables_1_1 ++ (tables_1_2 ++ (tables_1_3 ++ (tables_1_4 ++ (tables_1_5 ++ (tables_1_6 ++ (tables_1_7 ++ (tables_1_8 ++ (tables_1_9 ++ (tables_1_10 ++ tables_1_11))))))))) from List.mem_append_right _ (List.mem_append_right _ (List.mem_append_right _ (List.mem_append_right _ (List.mem_append_left _ h)))))
theorem wb_5 {w : Jvm.Cond} (j : Nat) (h : tables_1_5[j]? = some w) (hg : goodWord w = true) : w ∈ WB := wb_of (li_5 j h) hg
theorem li_6 {w : Jvm.Cond} (j : Nat) (h : tables_1_6[j]? = some w) : w ∈ lw_tbl := by
  have h := List.mem_of_getElem? h
  exact List.mem_append_right _ (show w ∈ tables_1_1 ++ (tables_1_2 ++ (tables_1_3 ++ (tables_1_4 ++ (tables_1_5 ++ (tables_1_6 ++ (tables_1_7 ++ (tables_1_8 ++ (tables_1_9 ++ (tables_1_10 ++ tables_1_11))))))))) from List.mem_append_right _ (List.mem_append_right _ (List.mem_append_right _ (List.mem_append_right _ (List.mem_append_right _ (List.mem_append_left _ h))))))
theorem wb_6 {w : Jvm.Cond} (j : Nat) (h : tables_1_6[j]? = some w) (hg : goodWord w = true) : w ∈ WB := wb_of (li_6 j h) hg
theorem li_7 {w : Jvm.Cond} (j : Nat) (h : tables_1_7[j]? = some w) : w ∈ lw_tbl := by
  have h := List.mem_of_getElem? h
  exact List.mem_append_right _ (show w ∈ tables_1_1 ++ (tables_1_2 ++ (tables_1_3 ++ (tables_1_4 ++ (tables_1_5 ++ (tables_1_6 ++ (tables_1_7 ++ (tables_1_8 ++ (tables_1_9 ++ (tables_1_10 ++ tables_1_11))))))))) from List.mem_append_right _ (List.mem_append_right _ (List.mem_append_right _ (List.mem_append_right _ (List.mem_append_right _ (List.mem_append_right _ (List.mem_append_left _ h)))))))
theorem wb_7 {w : Jvm.Cond} (j : Nat) (h : tables_1_7[j]? = some w) (hg : goodWord w = true) : w ∈ WB := wb_of (li_7 j h) hg
theorem li_8 {w : Jvm.Cond} (j : Nat) (h : tables_1_8[j]? = some w) : w ∈ lw_tbl := by
  have h := List.mem_of_getElem? h
  exact List.mem_append_right _ (show w ∈ tables_1_1 ++ (tables_1_2 ++ (tables_1_3 ++ (tables_1_4 ++ (tables_1_5 ++ (tables_1_6 ++ (tables_1_7 ++ (tables_1_8 ++ (tables_1_9 ++ (tables_1_10 ++ tables_1_11))))))))) from List.mem_append_right _ (List.mem_append_right _ (List.mem_append_right _ (List.mem_append_right _ (List.mem_append_right _ (List.mem_append_right _ (List.mem_append_right _ (List.mem_append_left _ h))))))))
theorem wb_8 {w : Jvm.Cond} (j : Nat) (h : tables_1_8[j]? = some w) (hg : goodWord w = true) : w ∈ WB := wb_of (li_8 j h) hg
theorem li_9 {w : Jvm.Cond} (j : Nat) (h : tables_1_9[j]? = some w) : w ∈ lw_tbl := by
  have h := List.mem_of_getElem? h
  exact List.mem_append_right _ (show w ∈ tables_1_1 ++ (tables_1_2 ++ (tables_1_3 ++ (tables_1_4 ++ (tables_1_5 ++ (tables_1_6 ++ (tables_1_7 ++ (tables_1_8 ++ (tables_1_9 ++ (tables_1_10 ++ tables_1_11))))))))) from List.mem_append_right _ (List.mem_append_right _ (List.mem_append_right _ (List.mem_append_right _ (List.mem_append_right _ (List.mem_append_right _ (List.mem_append_right _ (List.mem_append_right _ (List.mem_append_left _ h)))))))))
theorem wb_9 {w : Jvm.Cond} (j : Nat) (h : tables_1_9[j]? = some w) (hg : goodWord w = true) : w ∈ WB := wb_of (li_9 j h) hg
theorem li_10 {w : Jvm.Cond} (j : Nat) (h : tables_1_10[j]? = some w) : w ∈ lw_tbl := by
  have h := List.mem_of_getElem? h
  exact List.mem_append_right _ (show w ∈ tables_1_1 ++ (tables_1_2 ++ (tables_1_3 ++ (tables_1_4 ++ (tables_1_5 ++ (tables_1_6 ++ (tables_1_7 ++ (tables_1_8 ++ (tables_1_9 ++ (tables_1_10 ++ tables_1_11))))))))) from List.mem_append_right _ (List.mem_append_right _ (List.mem_append_right _ (List.mem_append_right _ (List.mem_append_right _ (List.mem_append_right _ (List.mem_append_right _ (List.mem_append_right _ (List.mem_append_right _ (List.mem_append_left _ h))))))))))
theorem wb_10 {w : Jvm.Cond} (j : Nat) (h : tables_1_10[j]? = some w) (hg : goodWord w = true) : w ∈ WB := wb_of (li_10 j h) hg
theorem li_11 {w : Jvm.Cond} (j : Nat) (h : tables_1_11[j]? = some w) : w ∈ lw_tbl := by
  have h := List.mem_of_getElem? h
  exact List.mem_append_right _ (show w ∈ tables_1_1 ++ (tables_1_2 ++ (tables_1_3 ++ (tables_1_4 ++ (tables_1_5 ++ (tables_1_6 ++ (tables_1_7 ++ (tables_1_8 ++ (tables_1_9 ++ (tables_1_10 ++ tables_1_11))))))))) from List.mem_append_right _ (List.mem_append_right _ (List.mem_append_right _ (List.mem_append_right _ (List.mem_append_right _ (List.mem_append_right _ (List.mem_append_right _ (List.mem_append_right _ (List.mem_append_right _ (List.mem_append_right _ (h)))))))))))
theorem wb_11 {w : Jvm.Cond} (j : Nat) (h : tables_1_11[j]? = some w) (hg : goodWord w = true) : w ∈ WB := wb_of (li_11 j h) hg
def FW : List (String × MethodName × MethodName) := [(ALn, (⟨"java/util/List", "size", "()I"⟩ : MethodName), yJx4a65c_size_8abf5), (ALn, (⟨"java/util/List", "add", "(Ljava/lang/Object;)Z"⟩ : MethodName), yJx4a65c_add_9ea2d), (ALn, (⟨"java/util/List", "isEmpty", "()Z"⟩ : MethodName), yJx4a65c_isEmpty_aae02), (ALn, (⟨"java/util/List", "clear", "()V"⟩ : MethodName), yJx4a65c_clear_da8c8)]
theorem FW_ok : FWok FW := by unfold FWok; decide +kernel
def SR : List (String × Nat × String) := [(RX10, 129, "there is no such identity"), (RX10, 131, "arity or axioms are out of range"), (RX10, 133, "axioms go with the arity 2 only"), (RX10, 189, "there is no such slot"), (RX10, 199, "nothing was kept there, or there are 10 terms"), (RX10, 113, "there is no such variable"), (RX10, 250, "there are not so many terms"), (RX10, 362, "there is no such pair"), (RX10, 191, "there are no terms"), (RX10, 311, "there is no such claim"), (RX10, 313, "there is no pattern, or no search that is not cut"), (RX10, 334, "there are not two strategies, or too many parts"), (RX10, 95, "there is no such sort"), (RX10, 149, "there is no such operator or sort"), (RX10, 169, "there is no such operator"), (RX10, 367, "there is no such operator or place"), (RX10, 293, "there is no such state"), (RX10, 295, "there is no such state, or it is the first one"), (RX10, 318, "there is no such rule"), (RX10, 374, "there is no such equation"), (RX10, 342, "there is no strategy, or it has too many parts"), (RX10, 347, "there is no strategy, or no top"), (RX10, 201, "there is no top"), (RX10, 224, "there are not two terms, or too many variables"), (RX10, 306, "there is no top, or it has too many variables")]
set_option maxRecDepth 100000 in
theorem uw_0 : ∀ w ∈ u_ws RJx4a65c TJx4a65c 3, w ∈ WB := List.forall_mem_cons.mpr ⟨wb_of (li_7 69 rfl) rfl, List.forall_mem_cons.mpr ⟨wb_of (li_7 65 rfl) rfl, List.forall_mem_cons.mpr ⟨wb_of (li_7 67 rfl) rfl, fun _ h => absurd h List.not_mem_nil⟩⟩⟩
set_option maxRecDepth 100000 in
theorem uw_1 : ∀ w ∈ u_ws RX0 TX0 14, w ∈ WB := List.forall_mem_cons.mpr ⟨wb_of (li_3 51 rfl) rfl, List.forall_mem_cons.mpr ⟨wb_of (li_3 53 rfl) rfl, List.forall_mem_cons.mpr ⟨wb_of (li_3 55 rfl) rfl, List.forall_mem_cons.mpr ⟨wb_of (li_3 57 rfl) rfl, List.forall_mem_cons.mpr ⟨wb_of (li_3 59 rfl) rfl, List.forall_mem_cons.mpr ⟨wb_of (li_3 61 rfl) rfl, List.forall_mem_cons.mpr ⟨wb_of (li_3 63 rfl) rfl, List.forall_mem_cons.mpr ⟨wb_of (li_3 65 rfl) rfl, List.forall_mem_cons.mpr ⟨wb_of (li_3 67 rfl) rfl, List.forall_mem_cons.mpr ⟨wb_of (li_3 69 rfl) rfl, List.forall_mem_cons.mpr ⟨wb_of (li_3 71 rfl) rfl, List.forall_mem_cons.mpr ⟨wb_of (li_3 73 rfl) rfl, List.forall_mem_cons.mpr ⟨wb_of (li_3 75 rfl) rfl, List.forall_mem_cons.mpr ⟨wb_of (li_3 77 rfl) rfl, fun _ h => absurd h List.not_mem_nil⟩⟩⟩⟩⟩⟩⟩⟩⟩⟩⟩⟩⟩⟩
set_option maxRecDepth 100000 in
theorem uw_2 : ∀ w ∈ u_ws RX1 TX1 9, w ∈ WB := List.forall_mem_cons.mpr ⟨wb_of (li_2 214 rfl) rfl, List.forall_mem_cons.mpr ⟨wb_of (li_2 216 rfl) rfl, List.forall_mem_cons.mpr ⟨wb_of (li_2 218 rfl) rfl, List.forall_mem_cons.mpr ⟨wb_of (li_2 220 rfl) rfl, List.forall_mem_cons.mpr ⟨wb_of (li_2 222 rfl) rfl, List.forall_mem_cons.mpr ⟨wb_of (li_2 224 rfl) rfl, List.forall_mem_cons.mpr ⟨wb_of (li_2 226 rfl) rfl, List.forall_mem_cons.mpr ⟨wb_of (li_2 228 rfl) rfl, List.forall_mem_cons.mpr ⟨wb_of (li_2 230 rfl) rfl, fun _ h => absurd h List.not_mem_nil⟩⟩⟩⟩⟩⟩⟩⟩⟩
set_option maxRecDepth 100000 in
theorem uw_3 : ∀ w ∈ u_ws RX2 TX2 5, w ∈ WB := List.forall_mem_cons.mpr ⟨wb_of (li_1 194 rfl) rfl, List.forall_mem_cons.mpr ⟨wb_of (li_1 196 rfl) rfl, List.forall_mem_cons.mpr ⟨wb_of (li_1 198 rfl) rfl, List.forall_mem_cons.mpr ⟨wb_of (li_1 200 rfl) rfl, List.forall_mem_cons.mpr ⟨wb_of (li_1 202 rfl) rfl, fun _ h => absurd h List.not_mem_nil⟩⟩⟩⟩⟩
set_option maxRecDepth 100000 in
theorem uw_4 : ∀ w ∈ u_ws RX3 TX3 16, w ∈ WB := List.forall_mem_cons.mpr ⟨wb_of (li_2 56 rfl) rfl, List.forall_mem_cons.mpr ⟨wb_of (li_2 58 rfl) rfl, List.forall_mem_cons.mpr ⟨wb_of (li_2 60 rfl) rfl, List.forall_mem_cons.mpr ⟨wb_of (li_2 62 rfl) rfl, List.forall_mem_cons.mpr ⟨wb_of (li_2 64 rfl) rfl, List.forall_mem_cons.mpr ⟨wb_of (li_2 66 rfl) rfl, List.forall_mem_cons.mpr ⟨wb_of (li_2 68 rfl) rfl, List.forall_mem_cons.mpr ⟨wb_of (li_2 70 rfl) rfl, List.forall_mem_cons.mpr ⟨wb_of (li_2 72 rfl) rfl, List.forall_mem_cons.mpr ⟨wb_of (li_2 74 rfl) rfl, List.forall_mem_cons.mpr ⟨wb_of (li_2 76 rfl) rfl, List.forall_mem_cons.mpr ⟨wb_of (li_2 78 rfl) rfl, List.forall_mem_cons.mpr ⟨wb_of (li_2 80 rfl) rfl, List.forall_mem_cons.mpr ⟨wb_of (li_2 82 rfl) rfl, List.forall_mem_cons.mpr ⟨wb_of (li_2 84 rfl) rfl, List.forall_mem_cons.mpr ⟨wb_of (li_2 86 rfl) rfl, fun _ h => absurd h List.not_mem_nil⟩⟩⟩⟩⟩⟩⟩⟩⟩⟩⟩⟩⟩⟩⟩⟩
set_option maxRecDepth 100000 in
theorem uw_5 : ∀ w ∈ u_ws RX4 TX4 16, w ∈ WB := List.forall_mem_cons.mpr ⟨wb_of (li_2 1 rfl) rfl, List.forall_mem_cons.mpr ⟨wb_of (li_2 3 rfl) rfl, List.forall_mem_cons.mpr ⟨wb_of (li_2 5 rfl) rfl, List.forall_mem_cons.mpr ⟨wb_of (li_2 7 rfl) rfl, List.forall_mem_cons.mpr ⟨wb_of (li_2 9 rfl) rfl, List.forall_mem_cons.mpr ⟨wb_of (li_2 11 rfl) rfl, List.forall_mem_cons.mpr ⟨wb_of (li_2 13 rfl) rfl, List.forall_mem_cons.mpr ⟨wb_of (li_2 15 rfl) rfl, List.forall_mem_cons.mpr ⟨wb_of (li_2 17 rfl) rfl, List.forall_mem_cons.mpr ⟨wb_of (li_2 19 rfl) rfl, List.forall_mem_cons.mpr ⟨wb_of (li_2 21 rfl) rfl, List.forall_mem_cons.mpr ⟨wb_of (li_2 23 rfl) rfl, List.forall_mem_cons.mpr ⟨wb_of (li_2 25 rfl) rfl, List.forall_mem_cons.mpr ⟨wb_of (li_2 27 rfl) rfl, List.forall_mem_cons.mpr ⟨wb_of (li_2 29 rfl) rfl, List.forall_mem_cons.mpr ⟨wb_of (li_2 31 rfl) rfl, fun _ h => absurd h List.not_mem_nil⟩⟩⟩⟩⟩⟩⟩⟩⟩⟩⟩⟩⟩⟩⟩⟩
set_option maxRecDepth 100000 in
theorem uw_6 : ∀ w ∈ u_ws RX5 TX5 9, w ∈ WB := List.forall_mem_cons.mpr ⟨wb_of (li_3 10 rfl) rfl, List.forall_mem_cons.mpr ⟨wb_of (li_3 12 rfl) rfl, List.forall_mem_cons.mpr ⟨wb_of (li_3 14 rfl) rfl, List.forall_mem_cons.mpr ⟨wb_of (li_3 16 rfl) rfl, List.forall_mem_cons.mpr ⟨wb_of (li_3 18 rfl) rfl, List.forall_mem_cons.mpr ⟨wb_of (li_3 20 rfl) rfl, List.forall_mem_cons.mpr ⟨wb_of (li_3 22 rfl) rfl, List.forall_mem_cons.mpr ⟨wb_of (li_3 24 rfl) rfl, List.forall_mem_cons.mpr ⟨wb_of (li_3 26 rfl) rfl, fun _ h => absurd h List.not_mem_nil⟩⟩⟩⟩⟩⟩⟩⟩⟩
set_option maxRecDepth 100000 in
theorem uw_7 : ∀ w ∈ u_ws RX6 TX6 10, w ∈ WB := List.forall_mem_cons.mpr ⟨wb_of (li_2 114 rfl) rfl, List.forall_mem_cons.mpr ⟨wb_of (li_2 116 rfl) rfl, List.forall_mem_cons.mpr ⟨wb_of (li_2 118 rfl) rfl, List.forall_mem_cons.mpr ⟨wb_of (li_2 120 rfl) rfl, List.forall_mem_cons.mpr ⟨wb_of (li_2 122 rfl) rfl, List.forall_mem_cons.mpr ⟨wb_of (li_2 124 rfl) rfl, List.forall_mem_cons.mpr ⟨wb_of (li_2 126 rfl) rfl, List.forall_mem_cons.mpr ⟨wb_of (li_2 128 rfl) rfl, List.forall_mem_cons.mpr ⟨wb_of (li_2 130 rfl) rfl, List.forall_mem_cons.mpr ⟨wb_of (li_2 132 rfl) rfl, fun _ h => absurd h List.not_mem_nil⟩⟩⟩⟩⟩⟩⟩⟩⟩⟩
set_option maxRecDepth 100000 in
theorem uw_8 : ∀ w ∈ u_ws RX7 TX7 11, w ∈ WB := List.forall_mem_cons.mpr ⟨wb_of (li_1 85 rfl) rfl, List.forall_mem_cons.mpr ⟨wb_of (li_1 87 rfl) rfl, List.forall_mem_cons.mpr ⟨wb_of (li_1 89 rfl) rfl, List.forall_mem_cons.mpr ⟨wb_of (li_1 91 rfl) rfl, List.forall_mem_cons.mpr ⟨wb_of (li_1 93 rfl) rfl, List.forall_mem_cons.mpr ⟨wb_of (li_1 95 rfl) rfl, List.forall_mem_cons.mpr ⟨wb_of (li_1 97 rfl) rfl, List.forall_mem_cons.mpr ⟨wb_of (li_1 99 rfl) rfl, List.forall_mem_cons.mpr ⟨wb_of (li_1 101 rfl) rfl, List.forall_mem_cons.mpr ⟨wb_of (li_1 103 rfl) rfl, List.forall_mem_cons.mpr ⟨wb_of (li_1 105 rfl) rfl, fun _ h => absurd h List.not_mem_nil⟩⟩⟩⟩⟩⟩⟩⟩⟩⟩⟩
set_option maxRecDepth 100000 in
theorem uw_9 : ∀ w ∈ u_ws RX8 TX8 11, w ∈ WB := List.forall_mem_cons.mpr ⟨wb_of (li_1 151 rfl) rfl, List.forall_mem_cons.mpr ⟨wb_of (li_1 153 rfl) rfl, List.forall_mem_cons.mpr ⟨wb_of (li_1 155 rfl) rfl, List.forall_mem_cons.mpr ⟨wb_of (li_1 157 rfl) rfl, List.forall_mem_cons.mpr ⟨wb_of (li_1 159 rfl) rfl, List.forall_mem_cons.mpr ⟨wb_of (li_1 161 rfl) rfl, List.forall_mem_cons.mpr ⟨wb_of (li_1 163 rfl) rfl, List.forall_mem_cons.mpr ⟨wb_of (li_1 165 rfl) rfl, List.forall_mem_cons.mpr ⟨wb_of (li_1 167 rfl) rfl, List.forall_mem_cons.mpr ⟨wb_of (li_1 169 rfl) rfl, List.forall_mem_cons.mpr ⟨wb_of (li_1 171 rfl) rfl, fun _ h => absurd h List.not_mem_nil⟩⟩⟩⟩⟩⟩⟩⟩⟩⟩⟩
set_option maxRecDepth 100000 in
theorem uw_10 : ∀ w ∈ u_ws RX9 TX9 15, w ∈ WB := List.forall_mem_cons.mpr ⟨wb_of (li_2 164 rfl) rfl, List.forall_mem_cons.mpr ⟨wb_of (li_2 166 rfl) rfl, List.forall_mem_cons.mpr ⟨wb_of (li_2 168 rfl) rfl, List.forall_mem_cons.mpr ⟨wb_of (li_2 170 rfl) rfl, List.forall_mem_cons.mpr ⟨wb_of (li_2 172 rfl) rfl, List.forall_mem_cons.mpr ⟨wb_of (li_2 174 rfl) rfl, List.forall_mem_cons.mpr ⟨wb_of (li_2 176 rfl) rfl, List.forall_mem_cons.mpr ⟨wb_of (li_2 178 rfl) rfl, List.forall_mem_cons.mpr ⟨wb_of (li_2 180 rfl) rfl, List.forall_mem_cons.mpr ⟨wb_of (li_2 182 rfl) rfl, List.forall_mem_cons.mpr ⟨wb_of (li_2 184 rfl) rfl, List.forall_mem_cons.mpr ⟨wb_of (li_2 186 rfl) rfl, List.forall_mem_cons.mpr ⟨wb_of (li_2 188 rfl) rfl, List.forall_mem_cons.mpr ⟨wb_of (li_2 190 rfl) rfl, List.forall_mem_cons.mpr ⟨wb_of (li_2 192 rfl) rfl, fun _ h => absurd h List.not_mem_nil⟩⟩⟩⟩⟩⟩⟩⟩⟩⟩⟩⟩⟩⟩⟩
set_option maxRecDepth 100000 in
theorem uw_11 : ∀ w ∈ u_ws RX10 TX10 10, w ∈ WB := List.forall_mem_cons.mpr ⟨wb_of (li_3 91 rfl) rfl, List.forall_mem_cons.mpr ⟨wb_of (li_3 93 rfl) rfl, List.forall_mem_cons.mpr ⟨wb_of (li_3 95 rfl) rfl, List.forall_mem_cons.mpr ⟨wb_of (li_3 97 rfl) rfl, List.forall_mem_cons.mpr ⟨wb_of (li_3 99 rfl) rfl, List.forall_mem_cons.mpr ⟨wb_of (li_3 101 rfl) rfl, List.forall_mem_cons.mpr ⟨wb_of (li_3 103 rfl) rfl, List.forall_mem_cons.mpr ⟨wb_of (li_3 105 rfl) rfl, List.forall_mem_cons.mpr ⟨wb_of (li_3 107 rfl) rfl, List.forall_mem_cons.mpr ⟨wb_of (li_3 109 rfl) rfl, fun _ h => absurd h List.not_mem_nil⟩⟩⟩⟩⟩⟩⟩⟩⟩⟩
set_option maxRecDepth 100000 in
theorem uw_12 : ∀ w ∈ u_ws RX11 TX11 2, w ∈ WB := List.forall_mem_cons.mpr ⟨wb_of (li_10 14 rfl) rfl, List.forall_mem_cons.mpr ⟨wb_of (li_10 16 rfl) rfl, fun _ h => absurd h List.not_mem_nil⟩⟩
set_option maxRecDepth 100000 in
theorem uw_13 : ∀ w ∈ u_ws RX12 TX12 6, w ∈ WB := List.forall_mem_cons.mpr ⟨wb_of (li_8 112 rfl) rfl, List.forall_mem_cons.mpr ⟨wb_of (li_8 113 rfl) rfl, List.forall_mem_cons.mpr ⟨wb_of (li_8 114 rfl) rfl, List.forall_mem_cons.mpr ⟨wb_of (li_8 115 rfl) rfl, List.forall_mem_cons.mpr ⟨wb_of (li_8 116 rfl) rfl, List.forall_mem_cons.mpr ⟨wb_of (li_8 124 rfl) rfl, fun _ h => absurd h List.not_mem_nil⟩⟩⟩⟩⟩⟩
set_option maxRecDepth 100000 in
theorem uw_14 : ∀ w ∈ u_ws RX13 TX13 6, w ∈ WB := List.forall_mem_cons.mpr ⟨wb_of (li_10 77 rfl) rfl, List.forall_mem_cons.mpr ⟨wb_of (li_10 79 rfl) rfl, List.forall_mem_cons.mpr ⟨wb_of (li_10 81 rfl) rfl, List.forall_mem_cons.mpr ⟨wb_of (li_10 83 rfl) rfl, List.forall_mem_cons.mpr ⟨wb_of (li_10 85 rfl) rfl, List.forall_mem_cons.mpr ⟨wb_of (li_10 87 rfl) rfl, fun _ h => absurd h List.not_mem_nil⟩⟩⟩⟩⟩⟩
set_option maxRecDepth 100000 in
theorem uw_15 : ∀ w ∈ u_ws RX14 TX14 6, w ∈ WB := List.forall_mem_cons.mpr ⟨wb_of (li_9 156 rfl) rfl, List.forall_mem_cons.mpr ⟨wb_of (li_9 158 rfl) rfl, List.forall_mem_cons.mpr ⟨wb_of (li_9 160 rfl) rfl, List.forall_mem_cons.mpr ⟨wb_of (li_9 162 rfl) rfl, List.forall_mem_cons.mpr ⟨wb_of (li_9 164 rfl) rfl, List.forall_mem_cons.mpr ⟨wb_of (li_9 166 rfl) rfl, fun _ h => absurd h List.not_mem_nil⟩⟩⟩⟩⟩⟩
set_option maxRecDepth 100000 in
theorem uw_16 : ∀ w ∈ u_ws RX15 TX15 1, w ∈ WB := List.forall_mem_cons.mpr ⟨wb_of (li_8 71 rfl) rfl, fun _ h => absurd h List.not_mem_nil⟩
set_option maxRecDepth 100000 in
theorem uw_17 : ∀ w ∈ u_ws RX16 TX16 6, w ∈ WB := List.forall_mem_cons.mpr ⟨wb_of (li_7 90 rfl) rfl, List.forall_mem_cons.mpr ⟨wb_of (li_7 92 rfl) rfl, List.forall_mem_cons.mpr ⟨wb_of (li_7 94 rfl) rfl, List.forall_mem_cons.mpr ⟨wb_of (li_7 96 rfl) rfl, List.forall_mem_cons.mpr ⟨wb_of (li_7 98 rfl) rfl, List.forall_mem_cons.mpr ⟨wb_of (li_7 100 rfl) rfl, fun _ h => absurd h List.not_mem_nil⟩⟩⟩⟩⟩⟩
set_option maxRecDepth 100000 in
theorem uw_18 : ∀ w ∈ u_ws RX17 TX17 45, w ∈ WB := List.forall_mem_cons.mpr ⟨wb_of (li_7 148 rfl) rfl, List.forall_mem_cons.mpr ⟨wb_of (li_7 150 rfl) rfl, List.forall_mem_cons.mpr ⟨wb_of (li_7 152 rfl) rfl, List.forall_mem_cons.mpr ⟨wb_of (li_7 154 rfl) rfl, List.forall_mem_cons.mpr ⟨wb_of (li_7 156 rfl) rfl, List.forall_mem_cons.mpr ⟨wb_of (li_7 158 rfl) rfl, List.forall_mem_cons.mpr ⟨wb_of (li_7 160 rfl) rfl, List.forall_mem_cons.mpr ⟨wb_of (li_7 162 rfl) rfl, List.forall_mem_cons.mpr ⟨wb_of (li_7 164 rfl) rfl, List.forall_mem_cons.mpr ⟨wb_of (li_7 166 rfl) rfl, List.forall_mem_cons.mpr ⟨wb_of (li_7 168 rfl) rfl, List.forall_mem_cons.mpr ⟨wb_of (li_7 170 rfl) rfl, List.forall_mem_cons.mpr ⟨wb_of (li_7 172 rfl) rfl, List.forall_mem_cons.mpr ⟨wb_of (li_7 174 rfl) rfl, List.forall_mem_cons.mpr ⟨wb_of (li_7 176 rfl) rfl, List.forall_mem_cons.mpr ⟨wb_of (li_7 178 rfl) rfl, List.forall_mem_cons.mpr ⟨wb_of (li_7 180 rfl) rfl, List.forall_mem_cons.mpr ⟨wb_of (li_7 182 rfl) rfl, List.forall_mem_cons.mpr ⟨wb_of (li_7 184 rfl) rfl, List.forall_mem_cons.mpr ⟨wb_of (li_7 186 rfl) rfl, List.forall_mem_cons.mpr ⟨wb_of (li_7 188 rfl) rfl, List.forall_mem_cons.mpr ⟨wb_of (li_7 190 rfl) rfl, List.forall_mem_cons.mpr ⟨wb_of (li_7 192 rfl) rfl, List.forall_mem_cons.mpr ⟨wb_of (li_7 194 rfl) rfl, List.forall_mem_cons.mpr ⟨wb_of (li_7 196 rfl) rfl, List.forall_mem_cons.mpr ⟨wb_of (li_7 198 rfl) rfl, List.forall_mem_cons.mpr ⟨wb_of (li_7 200 rfl) rfl, List.forall_mem_cons.mpr ⟨wb_of (li_7 202 rfl) rfl, List.forall_mem_cons.mpr ⟨wb_of (li_7 204 rfl) rfl, List.forall_mem_cons.mpr ⟨wb_of (li_7 206 rfl) rfl, List.forall_mem_cons.mpr ⟨wb_of (li_7 208 rfl) rfl, List.forall_mem_cons.mpr ⟨wb_of (li_7 210 rfl) rfl, List.forall_mem_cons.mpr ⟨wb_of (li_7 212 rfl) rfl, List.forall_mem_cons.mpr ⟨wb_of (li_7 214 rfl) rfl, List.forall_mem_cons.mpr ⟨wb_of (li_7 216 rfl) rfl, List.forall_mem_cons.mpr ⟨wb_of (li_7 218 rfl) rfl, List.forall_mem_cons.mpr ⟨wb_of (li_7 220 rfl) rfl, List.forall_mem_cons.mpr ⟨wb_of (li_7 222 rfl) rfl, List.forall_mem_cons.mpr ⟨wb_of (li_7 224 rfl) rfl, List.forall_mem_cons.mpr ⟨wb_of (li_7 226 rfl) rfl, List.forall_mem_cons.mpr ⟨wb_of (li_7 228 rfl) rfl, List.forall_mem_cons.mpr ⟨wb_of (li_7 230 rfl) rfl, List.forall_mem_cons.mpr ⟨wb_of (li_7 232 rfl) rfl, List.forall_mem_cons.mpr ⟨wb_of (li_7 234 rfl) rfl, List.forall_mem_cons.mpr ⟨wb_of (li_7 236 rfl) rfl, fun _ h => absurd h List.not_mem_nil⟩⟩⟩⟩⟩⟩⟩⟩⟩⟩⟩⟩⟩⟩⟩⟩⟩⟩⟩⟩⟩⟩⟩⟩⟩⟩⟩⟩⟩⟩⟩⟩⟩⟩⟩⟩⟩⟩⟩⟩⟩⟩⟩⟩⟩
end
section
/-! rows of the tables, kind by kind -/
def plainI (i : Instr) : Bool :=
  match i with
  | .return_ | .areturn | .getfield _ | .putfield _ | .getstatic _ | .newarray _ | .anewarray _ | .new _ | .tableswitch _ _ _ _ | .invokespecial _ | .invokestatic _ | .invokevirtual _ | .invokeinterface _ _ => false
  | _ => true
section IO
variable {WB AD : List Jvm.Cond} {SR : List (String × Nat × String)} {FW : List (String × MethodName × MethodName)} {TB : List MT} {md : MD} {pc x y z : Nat} {fk : List Nat}
theorem io_plain {ins : Instr} (hd : decode (mC md) pc = .ok (ins, ilen ins)) (h : plainI ins = true) : IOK WB AD SR FW TB md pc (ins, x, y, z, fk) := by
  cases ins <;> first | exact ⟨hd, trivial, trivial⟩ | cases (show false = true from h)
theorem io_void (hd : decode (mC md) pc = .ok (.return_, 1)) (h : mR md = none) : IOK WB AD SR FW TB md pc (.return_, x, y, z, fk) := ⟨hd, h, trivial⟩
theorem io_aret (hd : decode (mC md) pc = .ok (.areturn, 1)) (h : rtk (mR md) = true) : IOK WB AD SR FW TB md pc (.areturn, x, y, z, fk) := ⟨hd, h, trivial⟩
theorem io_get {idx : Nat} (hd : decode (mC md) pc = .ok (.getfield idx, 3)) (h : FOK WB (mO md) idx x y) : IOK WB AD SR FW TB md pc (.getfield idx, x, y, z, fk) := ⟨hd, h, trivial⟩
theorem io_put {idx : Nat} (hd : decode (mC md) pc = .ok (.putfield idx, 3)) (h : FOK WB (mO md) idx x y) (h2 : POK (mO md) (mI md) x y z) : IOK WB AD SR FW TB md pc (.putfield idx, x, y, z, fk) := ⟨hd, ⟨h, h2⟩, trivial⟩
theorem io_gets {idx : Nat} (hd : decode (mC md) pc = .ok (.getstatic idx, 3)) (h : Jvm.Cond.fieldLink (mO md) idx ALn "DEFAULTCAPACITY_EMPTY_ELEMENTDATA" "[Ljava/lang/Object;" ∈ WB) : IOK WB AD SR FW TB md pc (.getstatic idx, x, y, z, fk) := ⟨hd, h, trivial⟩
theorem io_newa {aty : ArrayType} (hd : decode (mC md) pc = .ok (.newarray aty, 2)) (h : (x = 0 ∧ aty = .int) ∨ (x = 1 ∧ aty = .boolean) ∨ (x = 2 ∧ aty = .long)) (h2 : Jvm.Cond.arrayClass (newarray.typeOf aty) ∈ WB) : IOK WB AD SR FW TB md pc (.newarray aty, x, y, z, fk) := ⟨hd, ⟨h, h2⟩, trivial⟩
theorem io_newq {idx : Nat} (hd : decode (mC md) pc = .ok (.anewarray idx, 3)) (h : x < 2) (h2 : Jvm.Cond.classLink (mO md) idx (ecls x) ∈ WB) : IOK WB AD SR FW TB md pc (.anewarray idx, x, y, z, fk) := ⟨hd, ⟨h, h2⟩, trivial⟩
theorem io_new {idx : Nat} (hd : decode (mC md) pc = .ok (.new idx, 3)) (h : Nat.ble 100 x = false) (h2 : NOK WB (mO md) idx x fk) : IOK WB AD SR FW TB md pc (.new idx, x, y, z, fk) := by
  refine ⟨hd, ?_, trivial⟩
  show (match Nat.ble 100 x with
    | true => THK WB AD SR md pc (x - 100)
    | false => NOK WB (mO md) idx x fk)
  rw [h]
  exact h2
theorem io_thr {idx : Nat} (h : Nat.ble 100 x = true) (h2 : THK WB AD SR md pc (x - 100)) (hd : decode (mC md) pc = .ok (.new idx, 3)) : IOK WB AD SR FW TB md pc (.new idx, x, y, z, fk) := by
  refine ⟨hd, ?_, trivial⟩
  show (match Nat.ble 100 x with
    | true => THK WB AD SR md pc (x - 100)
    | false => NOK WB (mO md) idx x fk)
  rw [h]
  exact h2
theorem io_thx {idx : Nat} (ec : Nat) (hx : x = ec + 100) (h2 : THK WB AD SR md pc ec) (hd : decode (mC md) pc = .ok (.new idx, 3)) : IOK WB AD SR FW TB md pc (.new idx, x, y, z, fk) := by
  subst hx
  have e : ec + 100 - 100 = ec := by omega
  exact io_thr (Nat.ble_eq_true_of_le (by omega)) (by rw [e]; exact h2) hd
theorem thk_mk (own : String) (ho : mO md = own) (idx is ic ec : Nat) (text : String) (w : Bool) (h1 : (own, is, text) ∈ SR) (h2 : ec < 3) (h3 : decode (mC md) pc = .ok (.new idx, 3)) (h4 : decode (mC md) (pc + 3) = .ok (.dup, 1))
    (h5 : match w with
      | false => decode (mC md) (pc + 4) = .ok (.ldc is, 2) ∧ decode (mC md) (pc + 6) = .ok (.invokespecial ic, 3) ∧ decode (mC md) (pc + 9) = .ok (.athrow, 1)
      | true => decode (mC md) (pc + 4) = .ok (.ldc_w is, 3) ∧ decode (mC md) (pc + 7) = .ok (.invokespecial ic, 3) ∧ decode (mC md) (pc + 10) = .ok (.athrow, 1))
    (h6 : Jvm.Cond.classLink own idx (ename ec) ∈ WB) (h7 : Jvm.Cond.initialized (ename ec) ∈ WB) (h8 : ∀ v ∈ vx_atS own ic (ename ec) XN, v ∈ WB ∨ v ∈ AD) (h9 : mH md = []) : THK WB AD SR md pc ec := by
  subst ho
  exact ⟨idx, is, ic, text, w, h1, h2, h3, h4, h5, h6, h7, h8, h9⟩
theorem io_tsw {d lo hi : Int} {offs : Array Int} (hd : ∃ n, decode (mC md) pc = .ok (.tableswitch d lo hi offs, n)) : IOK WB AD SR FW TB md pc (.tableswitch d lo hi offs, x, y, z, fk) := ⟨hd, trivial, trivial⟩
theorem io_obj {idx : Nat} (hd : decode (mC md) pc = .ok (.invokespecial idx, 3)) (h1 : Jvm.Cond.methodLink (mO md) idx objectInit ∈ WB) (h2 : Jvm.Cond.instanceMethod objectInit ∈ WB) (h3 : Jvm.Cond.code objectInit ⟨#[0xb1]⟩ 1 none ∈ WB) : IOK WB AD SR FW TB md pc (.invokespecial idx, 1000, y, z, fk) := ⟨hd, trivial, Or.inl ⟨rfl, h1, h2, h3⟩⟩
theorem io_copy {idx : Nat} (hd : decode (mC md) pc = .ok (.invokestatic idx, 3)) (h1 : Jvm.Cond.methodLink (mO md) idx arraycopyName ∈ WB) (h2 : Jvm.Cond.native arraycopyName ∈ WB) (h3 : Jvm.Cond.static arraycopyName ∈ WB) (h4 : Jvm.Cond.initialized "java/lang/System" ∈ WB) : IOK WB AD SR FW TB md pc (.invokestatic idx, 1000, y, z, fk) := ⟨hd, trivial, Or.inl ⟨rfl, h1, h2, h3, h4⟩⟩
theorem io_max {idx : Nat} (hd : decode (mC md) pc = .ok (.invokestatic idx, 3)) (h1 : Jvm.Cond.methodLink (mO md) idx Lib.Math.max.name ∈ WB) (h2 : Jvm.Cond.static Lib.Math.max.name ∈ WB) (h3 : Jvm.Cond.initialized "java/lang/Math" ∈ WB) (h4 : Jvm.Cond.code Lib.Math.max.name Lib.Math.max.code 2 (some .int) ∈ WB) : IOK WB AD SR FW TB md pc (.invokestatic idx, 1001, y, z, fk) := ⟨hd, trivial, Or.inr (Or.inl ⟨rfl, h1, h2, h3, h4⟩)⟩
theorem io_spec {idx : Nat} {mt : MT} (hd : decode (mC md) pc = .ok (.invokespecial idx, 3)) (ht : TB[x]? = some mt) (h1 : Jvm.Cond.methodLink (mO md) idx (mY mt.1) ∈ WB) (h2 : Jvm.Cond.instanceMethod (mY mt.1) ∈ WB) (h3 : (mY mt.1).name = "<init>") (h4 : mR mt.1 = none) (h5 : mH mt.1 = []) (h6 : (parseMethodDescriptor (mY mt.1).desc).map (fun d => d.parameters.length) = some (mN mt.1 - 1)) (h7 : 0 < mN mt.1) : IOK WB AD SR FW TB md pc (.invokespecial idx, x, y, z, fk) := ⟨hd, trivial, Or.inr (Or.inr ⟨mt, ht, h1, h2, h3, h4, h5, h6, h7⟩)⟩
theorem io_stat {idx : Nat} {mt : MT} (hd : decode (mC md) pc = .ok (.invokestatic idx, 3)) (ht : TB[x]? = some mt) (h1 : Jvm.Cond.methodLink (mO md) idx (mY mt.1) ∈ WB) (h2 : Jvm.Cond.static (mY mt.1) ∈ WB) (h6 : (parseMethodDescriptor (mY mt.1).desc).map (fun d => d.parameters.length) = some (mN mt.1)) : IOK WB AD SR FW TB md pc (.invokestatic idx, x, y, z, fk) := ⟨hd, trivial, Or.inr (Or.inr (Or.inr ⟨mt, ht, h1, h2, h6⟩))⟩
theorem io_virt {idx : Nat} {mt : MT} (hd : decode (mC md) pc = .ok (.invokevirtual idx, 3)) (ht : TB[x]? = some mt) (h1 : Jvm.Cond.methodLink (mO md) idx (mY mt.1) ∈ WB) (h2 : Jvm.Cond.instanceMethod (mY mt.1) ∈ WB) (h3 : Jvm.Cond.selects (mY mt.1).cls (mY mt.1) (mY mt.1) ∈ WB) (h4 : ∃ q, vwCl[y]? = some q ∧ q.1 = (mY mt.1).cls) (h6 : (parseMethodDescriptor (mY mt.1).desc).map (fun d => d.parameters.length) = some (mN mt.1 - 1)) (h7 : 0 < mN mt.1) : IOK WB AD SR FW TB md pc (.invokevirtual idx, x, y, z, fk) := ⟨hd, trivial, Or.inr ⟨mt, ht, h1, h2, h3, h4, h6, h7⟩⟩
theorem io_face {idx cnt : Nat} {mt : MT} {xn : MethodName} (hd : decode (mC md) pc = .ok (.invokeinterface idx cnt, 5)) (ht : TB[x]? = some mt) (h0 : (ALn, xn, mY mt.1) ∈ FW) (h1 : Jvm.Cond.methodLink (mO md) idx xn ∈ WB) (h2 : Jvm.Cond.instanceMethod (mY mt.1) ∈ WB) (h3 : Jvm.Cond.selects ALn xn (mY mt.1) ∈ WB) (h4 : (mY mt.1).cls = ALn) (h8 : y = 0) (h5 : mH mt.1 = []) (h6 : (parseMethodDescriptor xn.desc).map (fun d => d.parameters.length) = some (mN mt.1 - 1)) (h7 : 0 < mN mt.1) : IOK WB AD SR FW TB md pc (.invokeinterface idx cnt, x, y, z, fk) := ⟨hd, trivial, Or.inr ⟨mt, xn, ht, h0, h1, h2, h3, h4, h8, h5, h6, h7⟩⟩
end IO
theorem nok_fk {fk : List Nat} {N : Nat} {ty : Nat → FieldType} (h : ((List.range N).all fun j => match fk[j]? with | some z => kindok z (ty j) | none => false) = true) : ∀ j, j < N → ∃ z, fk[j]? = some z ∧ kindok z (ty j) = true := by
  intro j hj
  have h2 := List.all_eq_true.mp h j (List.mem_range.mpr hj)
  cases e : fk[j]? with
  | none => simp [e] at h2
  | some z => simp [e] at h2; exact ⟨z, rfl, h2⟩
theorem at_of {L : List Jvm.Cond} (h : ∀ w ∈ L, w ∈ lw_tbl) (h2 : L.all (fun w => goodWord w || adk w) = true) : ∀ v ∈ L, v ∈ WB ∨ v ∈ AD := by
  intro v hv
  have h3 := List.all_eq_true.mp h2 v hv
  cases hg : goodWord v with
  | true => exact Or.inl (wb_of (h v hv) hg)
  | false => rw [hg] at h3; exact Or.inr (ad_of (h v hv) (by simpa using h3))
def RowsOK (mt : MT) (tf : List (Nat × Step)) : Prop := tf = mt.2.map (fun q => (q.1, stepOf NPf mt.1 q.2)) ∧ ∀ q ∈ mt.2, IOK WB AD SR FW TB mt.1 q.1 q.2
theorem rows_app {md : MD} {a b : List (Nat × IE)} {ta tb : List (Nat × Step)} (h1 : RowsOK (md, a) ta) (h2 : RowsOK (md, b) tb) : RowsOK (md, a ++ b) (ta ++ tb) := ⟨by rw [h1.1, h2.1]; exact (List.map_append).symm, List.forall_mem_append.mpr ⟨h1.2, h2.2⟩⟩
theorem no_RL_8 : NOK WB RL 8 11 [2, 2, 2, 2, 2, 2, 2, 2, 0, 0] := ⟨RX10, TX10, 10, tyX10, rfl, uw_11, tyX10_ok, (wb_1 35 rfl rfl), (wb_1 36 rfl rfl), (wb_1 1 rfl rfl), rfl, nok_fk rfl⟩
theorem no_RL_127 : NOK WB RL 127 18 [0, 0, 2, 2, 0, 2, 2, 2, 2, 2, 2, 2, 2, 2, 2, 2, 2, 2, 1, 1, 2, 2, 2, 0, 0, 1, 0, 0, 2, 2, 2, 2, 2, 2, 2, 2, 2, 2, 0, 0, 0, 2, 2, 0, 2] := ⟨RX17, TX17, 45, tyX17, rfl, uw_18, tyX17_ok, (wb_7 40 rfl rfl), (wb_7 41 rfl rfl), (wb_1 13 rfl rfl), rfl, nok_fk rfl⟩
theorem fo_RX17_7 : FOK WB RX17 7 18 2 := ⟨RX17, TX17, 45, "RuleForgeModel", rfl, uw_18, by decide, (wb_7 105 rfl rfl), Or.inl rfl⟩
theorem po_RX17_1_18_2_2 : POK RX17 true 18 2 2 := ⟨RX17, TX17, 45, tyX17, rfl, tyX17_ok, nmX17, rfl, Or.inr ⟨rfl, rfl, rfl⟩⟩
theorem fo_RX17_13 : FOK WB RX17 13 18 3 := ⟨RX17, TX17, 45, "RuleForgeModel", rfl, uw_18, by decide, (wb_7 106 rfl rfl), Or.inl rfl⟩
theorem po_RX17_1_18_3_2 : POK RX17 true 18 3 2 := ⟨RX17, TX17, 45, tyX17, rfl, tyX17_ok, nmX17, rfl, Or.inr ⟨rfl, rfl, rfl⟩⟩
theorem fo_RX17_17 : FOK WB RX17 17 18 5 := ⟨RX17, TX17, 45, "RuleForgeModel", rfl, uw_18, by decide, (wb_7 108 rfl rfl), Or.inl rfl⟩
theorem po_RX17_1_18_5_2 : POK RX17 true 18 5 2 := ⟨RX17, TX17, 45, tyX17, rfl, tyX17_ok, nmX17, rfl, Or.inr ⟨rfl, rfl, rfl⟩⟩
theorem fo_RX17_20 : FOK WB RX17 20 18 6 := ⟨RX17, TX17, 45, "RuleForgeModel", rfl, uw_18, by decide, (wb_7 109 rfl rfl), Or.inl rfl⟩
theorem po_RX17_1_18_6_2 : POK RX17 true 18 6 2 := ⟨RX17, TX17, 45, tyX17, rfl, tyX17_ok, nmX17, rfl, Or.inr ⟨rfl, rfl, rfl⟩⟩
theorem fo_RX17_23 : FOK WB RX17 23 18 7 := ⟨RX17, TX17, 45, "RuleForgeModel", rfl, uw_18, by decide, (wb_7 110 rfl rfl), Or.inl rfl⟩
theorem po_RX17_1_18_7_2 : POK RX17 true 18 7 2 := ⟨RX17, TX17, 45, tyX17, rfl, tyX17_ok, nmX17, rfl, Or.inr ⟨rfl, rfl, rfl⟩⟩
theorem fo_RX17_26 : FOK WB RX17 26 18 8 := ⟨RX17, TX17, 45, "RuleForgeModel", rfl, uw_18, by decide, (wb_7 111 rfl rfl), Or.inl rfl⟩
theorem po_RX17_1_18_8_2 : POK RX17 true 18 8 2 := ⟨RX17, TX17, 45, tyX17, rfl, tyX17_ok, nmX17, rfl, Or.inr ⟨rfl, rfl, rfl⟩⟩
theorem fo_RX17_29 : FOK WB RX17 29 18 9 := ⟨RX17, TX17, 45, "RuleForgeModel", rfl, uw_18, by decide, (wb_7 112 rfl rfl), Or.inl rfl⟩
theorem po_RX17_1_18_9_2 : POK RX17 true 18 9 2 := ⟨RX17, TX17, 45, tyX17, rfl, tyX17_ok, nmX17, rfl, Or.inr ⟨rfl, rfl, rfl⟩⟩
theorem fo_RX17_32 : FOK WB RX17 32 18 10 := ⟨RX17, TX17, 45, "RuleForgeModel", rfl, uw_18, by decide, (wb_7 113 rfl rfl), Or.inl rfl⟩
theorem po_RX17_1_18_10_2 : POK RX17 true 18 10 2 := ⟨RX17, TX17, 45, tyX17, rfl, tyX17_ok, nmX17, rfl, Or.inr ⟨rfl, rfl, rfl⟩⟩
theorem fo_RX17_35 : FOK WB RX17 35 18 11 := ⟨RX17, TX17, 45, "RuleForgeModel", rfl, uw_18, by decide, (wb_7 114 rfl rfl), Or.inl rfl⟩
theorem po_RX17_1_18_11_2 : POK RX17 true 18 11 2 := ⟨RX17, TX17, 45, tyX17, rfl, tyX17_ok, nmX17, rfl, Or.inr ⟨rfl, rfl, rfl⟩⟩
theorem fo_RX17_38 : FOK WB RX17 38 18 12 := ⟨RX17, TX17, 45, "RuleForgeModel", rfl, uw_18, by decide, (wb_7 115 rfl rfl), Or.inl rfl⟩
theorem po_RX17_1_18_12_2 : POK RX17 true 18 12 2 := ⟨RX17, TX17, 45, tyX17, rfl, tyX17_ok, nmX17, rfl, Or.inr ⟨rfl, rfl, rfl⟩⟩
theorem no_RX17_41 : NOK WB RX17 41 0 [0, 2, 0] := ⟨RJx4a65c, TJx4a65c, 3, tyJx4a65c, rfl, uw_0, tyJx4a65c_ok, (wb_7 46 rfl rfl), (wb_7 47 rfl rfl), (wb_1 16 rfl rfl), rfl, nok_fk rfl⟩
theorem fo_RX17_44 : FOK WB RX17 44 18 13 := ⟨RX17, TX17, 45, "RuleForgeModel", rfl, uw_18, by decide, (wb_7 116 rfl rfl), Or.inl rfl⟩
theorem po_RX17_1_18_13_2 : POK RX17 true 18 13 2 := ⟨RX17, TX17, 45, tyX17, rfl, tyX17_ok, nmX17, rfl, Or.inr ⟨rfl, rfl, rfl⟩⟩
theorem fo_RX17_50 : FOK WB RX17 50 18 14 := ⟨RX17, TX17, 45, "RuleForgeModel", rfl, uw_18, by decide, (wb_7 117 rfl rfl), Or.inl rfl⟩
theorem po_RX17_1_18_14_2 : POK RX17 true 18 14 2 := ⟨RX17, TX17, 45, tyX17, rfl, tyX17_ok, nmX17, rfl, Or.inr ⟨rfl, rfl, rfl⟩⟩
theorem fo_RX17_54 : FOK WB RX17 54 18 15 := ⟨RX17, TX17, 45, "RuleForgeModel", rfl, uw_18, by decide, (wb_7 118 rfl rfl), Or.inl rfl⟩
theorem po_RX17_1_18_15_2 : POK RX17 true 18 15 2 := ⟨RX17, TX17, 45, tyX17, rfl, tyX17_ok, nmX17, rfl, Or.inr ⟨rfl, rfl, rfl⟩⟩
theorem fo_RX17_57 : FOK WB RX17 57 18 16 := ⟨RX17, TX17, 45, "RuleForgeModel", rfl, uw_18, by decide, (wb_7 119 rfl rfl), Or.inl rfl⟩
theorem po_RX17_1_18_16_2 : POK RX17 true 18 16 2 := ⟨RX17, TX17, 45, tyX17, rfl, tyX17_ok, nmX17, rfl, Or.inr ⟨rfl, rfl, rfl⟩⟩
theorem fo_RX17_60 : FOK WB RX17 60 18 17 := ⟨RX17, TX17, 45, "RuleForgeModel", rfl, uw_18, by decide, (wb_7 120 rfl rfl), Or.inl rfl⟩
theorem po_RX17_1_18_17_2 : POK RX17 true 18 17 2 := ⟨RX17, TX17, 45, tyX17, rfl, tyX17_ok, nmX17, rfl, Or.inr ⟨rfl, rfl, rfl⟩⟩
theorem fo_RX17_63 : FOK WB RX17 63 18 20 := ⟨RX17, TX17, 45, "RuleForgeModel", rfl, uw_18, by decide, (wb_7 123 rfl rfl), Or.inl rfl⟩
theorem po_RX17_1_18_20_2 : POK RX17 true 18 20 2 := ⟨RX17, TX17, 45, tyX17, rfl, tyX17_ok, nmX17, rfl, Or.inr ⟨rfl, rfl, rfl⟩⟩
theorem fo_RX17_66 : FOK WB RX17 66 18 21 := ⟨RX17, TX17, 45, "RuleForgeModel", rfl, uw_18, by decide, (wb_7 124 rfl rfl), Or.inl rfl⟩
theorem po_RX17_1_18_21_2 : POK RX17 true 18 21 2 := ⟨RX17, TX17, 45, tyX17, rfl, tyX17_ok, nmX17, rfl, Or.inr ⟨rfl, rfl, rfl⟩⟩
theorem fo_RX17_69 : FOK WB RX17 69 18 22 := ⟨RX17, TX17, 45, "RuleForgeModel", rfl, uw_18, by decide, (wb_7 125 rfl rfl), Or.inl rfl⟩
theorem po_RX17_1_18_22_2 : POK RX17 true 18 22 2 := ⟨RX17, TX17, 45, tyX17, rfl, tyX17_ok, nmX17, rfl, Or.inr ⟨rfl, rfl, rfl⟩⟩
theorem fo_RX17_72 : FOK WB RX17 72 18 28 := ⟨RX17, TX17, 45, "RuleForgeModel", rfl, uw_18, by decide, (wb_7 131 rfl rfl), Or.inl rfl⟩
theorem po_RX17_1_18_28_2 : POK RX17 true 18 28 2 := ⟨RX17, TX17, 45, tyX17, rfl, tyX17_ok, nmX17, rfl, Or.inr ⟨rfl, rfl, rfl⟩⟩
theorem fo_RX17_75 : FOK WB RX17 75 18 29 := ⟨RX17, TX17, 45, "RuleForgeModel", rfl, uw_18, by decide, (wb_7 132 rfl rfl), Or.inl rfl⟩
theorem po_RX17_1_18_29_2 : POK RX17 true 18 29 2 := ⟨RX17, TX17, 45, tyX17, rfl, tyX17_ok, nmX17, rfl, Or.inr ⟨rfl, rfl, rfl⟩⟩
theorem fo_RX17_78 : FOK WB RX17 78 18 30 := ⟨RX17, TX17, 45, "RuleForgeModel", rfl, uw_18, by decide, (wb_7 133 rfl rfl), Or.inl rfl⟩
theorem po_RX17_1_18_30_2 : POK RX17 true 18 30 2 := ⟨RX17, TX17, 45, tyX17, rfl, tyX17_ok, nmX17, rfl, Or.inr ⟨rfl, rfl, rfl⟩⟩
theorem fo_RX17_81 : FOK WB RX17 81 18 31 := ⟨RX17, TX17, 45, "RuleForgeModel", rfl, uw_18, by decide, (wb_7 134 rfl rfl), Or.inl rfl⟩
theorem po_RX17_1_18_31_2 : POK RX17 true 18 31 2 := ⟨RX17, TX17, 45, tyX17, rfl, tyX17_ok, nmX17, rfl, Or.inr ⟨rfl, rfl, rfl⟩⟩
theorem fo_RX17_84 : FOK WB RX17 84 18 32 := ⟨RX17, TX17, 45, "RuleForgeModel", rfl, uw_18, by decide, (wb_7 135 rfl rfl), Or.inl rfl⟩
theorem po_RX17_1_18_32_2 : POK RX17 true 18 32 2 := ⟨RX17, TX17, 45, tyX17, rfl, tyX17_ok, nmX17, rfl, Or.inr ⟨rfl, rfl, rfl⟩⟩
theorem fo_RX17_87 : FOK WB RX17 87 18 33 := ⟨RX17, TX17, 45, "RuleForgeModel", rfl, uw_18, by decide, (wb_7 136 rfl rfl), Or.inl rfl⟩
theorem po_RX17_1_18_33_2 : POK RX17 true 18 33 2 := ⟨RX17, TX17, 45, tyX17, rfl, tyX17_ok, nmX17, rfl, Or.inr ⟨rfl, rfl, rfl⟩⟩
theorem fo_RX17_90 : FOK WB RX17 90 18 34 := ⟨RX17, TX17, 45, "RuleForgeModel", rfl, uw_18, by decide, (wb_7 137 rfl rfl), Or.inl rfl⟩
theorem po_RX17_1_18_34_2 : POK RX17 true 18 34 2 := ⟨RX17, TX17, 45, tyX17, rfl, tyX17_ok, nmX17, rfl, Or.inr ⟨rfl, rfl, rfl⟩⟩
theorem fo_RX17_93 : FOK WB RX17 93 18 35 := ⟨RX17, TX17, 45, "RuleForgeModel", rfl, uw_18, by decide, (wb_7 138 rfl rfl), Or.inl rfl⟩
theorem po_RX17_1_18_35_2 : POK RX17 true 18 35 2 := ⟨RX17, TX17, 45, tyX17, rfl, tyX17_ok, nmX17, rfl, Or.inr ⟨rfl, rfl, rfl⟩⟩
theorem fo_RX17_96 : FOK WB RX17 96 18 36 := ⟨RX17, TX17, 45, "RuleForgeModel", rfl, uw_18, by decide, (wb_7 139 rfl rfl), Or.inl rfl⟩
theorem po_RX17_1_18_36_2 : POK RX17 true 18 36 2 := ⟨RX17, TX17, 45, tyX17, rfl, tyX17_ok, nmX17, rfl, Or.inr ⟨rfl, rfl, rfl⟩⟩
theorem fo_RX17_99 : FOK WB RX17 99 18 37 := ⟨RX17, TX17, 45, "RuleForgeModel", rfl, uw_18, by decide, (wb_7 140 rfl rfl), Or.inl rfl⟩
theorem po_RX17_1_18_37_2 : POK RX17 true 18 37 2 := ⟨RX17, TX17, 45, tyX17, rfl, tyX17_ok, nmX17, rfl, Or.inr ⟨rfl, rfl, rfl⟩⟩
theorem fo_RX17_102 : FOK WB RX17 102 18 41 := ⟨RX17, TX17, 45, "RuleForgeModel", rfl, uw_18, by decide, (wb_7 144 rfl rfl), Or.inl rfl⟩
theorem po_RX17_1_18_41_2 : POK RX17 true 18 41 2 := ⟨RX17, TX17, 45, tyX17, rfl, tyX17_ok, nmX17, rfl, Or.inl rfl⟩
theorem fo_RX17_105 : FOK WB RX17 105 18 42 := ⟨RX17, TX17, 45, "RuleForgeModel", rfl, uw_18, by decide, (wb_7 145 rfl rfl), Or.inl rfl⟩
theorem po_RX17_1_18_42_2 : POK RX17 true 18 42 2 := ⟨RX17, TX17, 45, tyX17, rfl, tyX17_ok, nmX17, rfl, Or.inr ⟨rfl, rfl, rfl⟩⟩
theorem fo_RX17_108 : FOK WB RX17 108 18 44 := ⟨RX17, TX17, 45, "RuleForgeModel", rfl, uw_18, by decide, (wb_7 147 rfl rfl), Or.inl rfl⟩
theorem po_RX17_1_18_44_2 : POK RX17 true 18 44 2 := ⟨RX17, TX17, 45, tyX17, rfl, tyX17_ok, nmX17, rfl, Or.inr ⟨rfl, rfl, rfl⟩⟩
theorem no_RX17_48 : NOK WB RX17 48 17 [0, 0, 2, 0, 0, 2] := ⟨RX16, TX16, 6, tyX16, rfl, uw_17, tyX16_ok, (wb_7 72 rfl rfl), (wb_7 74 rfl rfl), (wb_1 17 rfl rfl), rfl, nok_fk rfl⟩
theorem fo_RX16_9 : FOK WB RX16 9 17 4 := ⟨RX16, TX16, 6, "RuleForgeModel$Term", rfl, uw_17, by decide, (wb_7 87 rfl rfl), Or.inl rfl⟩
theorem po_RX16_1_17_4_0 : POK RX16 true 17 4 0 := ⟨RX16, TX16, 6, tyX16, rfl, tyX16_ok, nmX16, rfl, Or.inl rfl⟩
theorem fo_RX16_15 : FOK WB RX16 15 17 0 := ⟨RX16, TX16, 6, "RuleForgeModel$Term", rfl, uw_17, by decide, (wb_7 79 rfl rfl), Or.inl rfl⟩
theorem po_RX16_1_17_0_0 : POK RX16 true 17 0 0 := ⟨RX16, TX16, 6, tyX16, rfl, tyX16_ok, nmX16, rfl, Or.inr ⟨rfl, rfl, rfl⟩⟩
theorem fo_RX16_18 : FOK WB RX16 18 17 1 := ⟨RX16, TX16, 6, "RuleForgeModel$Term", rfl, uw_17, by decide, (wb_7 81 rfl rfl), Or.inl rfl⟩
theorem po_RX16_1_17_1_0 : POK RX16 true 17 1 0 := ⟨RX16, TX16, 6, tyX16, rfl, tyX16_ok, nmX16, rfl, Or.inr ⟨rfl, rfl, rfl⟩⟩
theorem fo_RX16_21 : FOK WB RX16 21 17 2 := ⟨RX16, TX16, 6, "RuleForgeModel$Term", rfl, uw_17, by decide, (wb_7 83 rfl rfl), Or.inl rfl⟩
theorem po_RX16_1_17_2_2 : POK RX16 true 17 2 2 := ⟨RX16, TX16, 6, tyX16, rfl, tyX16_ok, nmX16, rfl, Or.inr ⟨rfl, rfl, rfl⟩⟩
theorem fo_RX16_25 : FOK WB RX16 25 17 3 := ⟨RX16, TX16, 6, "RuleForgeModel$Term", rfl, uw_17, by decide, (wb_7 85 rfl rfl), Or.inl rfl⟩
theorem po_RX16_1_17_3_0 : POK RX16 true 17 3 0 := ⟨RX16, TX16, 6, tyX16, rfl, tyX16_ok, nmX16, rfl, Or.inr ⟨rfl, rfl, rfl⟩⟩
theorem fo_RX8_9 : FOK WB RX8 9 9 1 := ⟨RX8, TX8, 11, "RuleForge$Terms", rfl, uw_9, by decide, (wb_1 120 rfl rfl), Or.inl rfl⟩
theorem po_RX8_1_9_1_2 : POK RX8 true 9 1 2 := ⟨RX8, TX8, 11, tyX8, rfl, tyX8_ok, nmX8, rfl, Or.inr ⟨rfl, rfl, rfl⟩⟩
theorem fo_RX8_15 : FOK WB RX8 15 9 2 := ⟨RX8, TX8, 11, "RuleForge$Terms", rfl, uw_9, by decide, (wb_1 127 rfl rfl), Or.inl rfl⟩
theorem po_RX8_1_9_2_0 : POK RX8 true 9 2 0 := ⟨RX8, TX8, 11, tyX8, rfl, tyX8_ok, nmX8, rfl, Or.inl rfl⟩
theorem fo_RX8_19 : FOK WB RX8 19 9 3 := ⟨RX8, TX8, 11, "RuleForge$Terms", rfl, uw_9, by decide, (wb_1 134 rfl rfl), Or.inl rfl⟩
theorem po_RX8_1_9_3_2 : POK RX8 true 9 3 2 := ⟨RX8, TX8, 11, tyX8, rfl, tyX8_ok, nmX8, rfl, Or.inr ⟨rfl, rfl, rfl⟩⟩
theorem fo_RX8_22 : FOK WB RX8 22 9 5 := ⟨RX8, TX8, 11, "RuleForge$Terms", rfl, uw_9, by decide, (wb_1 137 rfl rfl), Or.inl rfl⟩
theorem po_RX8_1_9_5_2 : POK RX8 true 9 5 2 := ⟨RX8, TX8, 11, tyX8, rfl, tyX8_ok, nmX8, rfl, Or.inr ⟨rfl, rfl, rfl⟩⟩
theorem fo_RX8_25 : FOK WB RX8 25 9 6 := ⟨RX8, TX8, 11, "RuleForge$Terms", rfl, uw_9, by decide, (wb_1 138 rfl rfl), Or.inl rfl⟩
theorem po_RX8_1_9_6_2 : POK RX8 true 9 6 2 := ⟨RX8, TX8, 11, tyX8, rfl, tyX8_ok, nmX8, rfl, Or.inr ⟨rfl, rfl, rfl⟩⟩
theorem fo_RX8_28 : FOK WB RX8 28 9 7 := ⟨RX8, TX8, 11, "RuleForge$Terms", rfl, uw_9, by decide, (wb_1 139 rfl rfl), Or.inl rfl⟩
theorem po_RX8_1_9_7_2 : POK RX8 true 9 7 2 := ⟨RX8, TX8, 11, tyX8, rfl, tyX8_ok, nmX8, rfl, Or.inr ⟨rfl, rfl, rfl⟩⟩
theorem fo_RX8_31 : FOK WB RX8 31 9 8 := ⟨RX8, TX8, 11, "RuleForge$Terms", rfl, uw_9, by decide, (wb_1 143 rfl rfl), Or.inl rfl⟩
theorem po_RX8_1_9_8_0 : POK RX8 true 9 8 0 := ⟨RX8, TX8, 11, tyX8, rfl, tyX8_ok, nmX8, rfl, Or.inl rfl⟩
theorem fo_RX8_34 : FOK WB RX8 34 9 9 := ⟨RX8, TX8, 11, "RuleForge$Terms", rfl, uw_9, by decide, (wb_1 146 rfl rfl), Or.inl rfl⟩
theorem po_RX8_1_9_9_0 : POK RX8 true 9 9 0 := ⟨RX8, TX8, 11, tyX8, rfl, tyX8_ok, nmX8, rfl, Or.inl rfl⟩
theorem fo_RX8_37 : FOK WB RX8 37 9 0 := ⟨RX8, TX8, 11, "RuleForge$Terms", rfl, uw_9, by decide, (wb_1 117 rfl rfl), Or.inl rfl⟩
theorem po_RX8_1_9_0_2 : POK RX8 true 9 0 2 := ⟨RX8, TX8, 11, tyX8, rfl, tyX8_ok, nmX8, rfl, Or.inr ⟨rfl, rfl, rfl⟩⟩
theorem fo_RX7_9 : FOK WB RX7 9 8 2 := ⟨RX7, TX7, 11, "RuleForge$Signature", rfl, uw_8, by decide, (wb_1 57 rfl rfl), Or.inl rfl⟩
theorem po_RX7_1_8_2_2 : POK RX7 true 8 2 2 := ⟨RX7, TX7, 11, tyX7, rfl, tyX7_ok, nmX7, rfl, Or.inr ⟨rfl, rfl, rfl⟩⟩
theorem fo_RX7_15 : FOK WB RX7 15 8 3 := ⟨RX7, TX7, 11, "RuleForge$Signature", rfl, uw_8, by decide, (wb_1 58 rfl rfl), Or.inl rfl⟩
theorem po_RX7_1_8_3_2 : POK RX7 true 8 3 2 := ⟨RX7, TX7, 11, tyX7, rfl, tyX7_ok, nmX7, rfl, Or.inr ⟨rfl, rfl, rfl⟩⟩
theorem fo_RX7_18 : FOK WB RX7 18 8 4 := ⟨RX7, TX7, 11, "RuleForge$Signature", rfl, uw_8, by decide, (wb_1 63 rfl rfl), Or.inl rfl⟩
theorem po_RX7_1_8_4_2 : POK RX7 true 8 4 2 := ⟨RX7, TX7, 11, tyX7, rfl, tyX7_ok, nmX7, rfl, Or.inr ⟨rfl, rfl, rfl⟩⟩
theorem fo_RX7_21 : FOK WB RX7 21 8 5 := ⟨RX7, TX7, 11, "RuleForge$Signature", rfl, uw_8, by decide, (wb_1 65 rfl rfl), Or.inl rfl⟩
theorem po_RX7_1_8_5_2 : POK RX7 true 8 5 2 := ⟨RX7, TX7, 11, tyX7, rfl, tyX7_ok, nmX7, rfl, Or.inr ⟨rfl, rfl, rfl⟩⟩
theorem fo_RX7_24 : FOK WB RX7 24 8 6 := ⟨RX7, TX7, 11, "RuleForge$Signature", rfl, uw_8, by decide, (wb_1 72 rfl rfl), Or.inl rfl⟩
theorem po_RX7_1_8_6_2 : POK RX7 true 8 6 2 := ⟨RX7, TX7, 11, tyX7, rfl, tyX7_ok, nmX7, rfl, Or.inr ⟨rfl, rfl, rfl⟩⟩
theorem fo_RX7_27 : FOK WB RX7 27 8 7 := ⟨RX7, TX7, 11, "RuleForge$Signature", rfl, uw_8, by decide, (wb_1 76 rfl rfl), Or.inl rfl⟩
theorem po_RX7_1_8_7_2 : POK RX7 true 8 7 2 := ⟨RX7, TX7, 11, tyX7, rfl, tyX7_ok, nmX7, rfl, Or.inr ⟨rfl, rfl, rfl⟩⟩
theorem fo_RX7_30 : FOK WB RX7 30 8 8 := ⟨RX7, TX7, 11, "RuleForge$Signature", rfl, uw_8, by decide, (wb_1 78 rfl rfl), Or.inl rfl⟩
theorem po_RX7_1_8_8_2 : POK RX7 true 8 8 2 := ⟨RX7, TX7, 11, tyX7, rfl, tyX7_ok, nmX7, rfl, Or.inr ⟨rfl, rfl, rfl⟩⟩
theorem fo_RX7_33 : FOK WB RX7 33 8 9 := ⟨RX7, TX7, 11, "RuleForge$Signature", rfl, uw_8, by decide, (wb_1 79 rfl rfl), Or.inl rfl⟩
theorem po_RX7_1_8_9_2 : POK RX7 true 8 9 2 := ⟨RX7, TX7, 11, tyX7, rfl, tyX7_ok, nmX7, rfl, Or.inr ⟨rfl, rfl, rfl⟩⟩
theorem fo_RX7_36 : FOK WB RX7 36 8 10 := ⟨RX7, TX7, 11, "RuleForge$Signature", rfl, uw_8, by decide, (wb_1 82 rfl rfl), Or.inl rfl⟩
theorem po_RX7_1_8_10_2 : POK RX7 true 8 10 2 := ⟨RX7, TX7, 11, tyX7, rfl, tyX7_ok, nmX7, rfl, Or.inr ⟨rfl, rfl, rfl⟩⟩
theorem no_RX10_9 : NOK WB RX10 9 8 [0, 0, 2, 2, 2, 2, 2, 2, 2, 2, 2] := ⟨RX7, TX7, 11, tyX7, rfl, uw_8, tyX7_ok, (wb_1 43 rfl rfl), (wb_1 44 rfl rfl), (wb_1 2 rfl rfl), rfl, nok_fk rfl⟩
theorem fo_RX10_12 : FOK WB RX10 12 11 0 := ⟨RX10, TX10, 10, "RuleForge", rfl, uw_11, by decide, (wb_3 81 rfl rfl), Or.inl rfl⟩
theorem po_RX10_1_11_0_2 : POK RX10 true 11 0 2 := ⟨RX10, TX10, 10, tyX10, rfl, tyX10_ok, nmX10, rfl, Or.inr ⟨rfl, rfl, rfl⟩⟩
theorem no_RX10_16 : NOK WB RX10 16 9 [2, 2, 0, 2, 0, 2, 2, 2, 0, 0, 1] := ⟨RX8, TX8, 11, tyX8, rfl, uw_9, tyX8_ok, (wb_1 109 rfl rfl), (wb_1 110 rfl rfl), (wb_1 4 rfl rfl), rfl, nok_fk rfl⟩
theorem fo_RX10_21 : FOK WB RX10 21 11 1 := ⟨RX10, TX10, 10, "RuleForge", rfl, uw_11, by decide, (wb_3 82 rfl rfl), Or.inl rfl⟩
theorem po_RX10_1_11_1_2 : POK RX10 true 11 1 2 := ⟨RX10, TX10, 10, tyX10, rfl, tyX10_ok, nmX10, rfl, Or.inr ⟨rfl, rfl, rfl⟩⟩
theorem no_RX10_25 : NOK WB RX10 25 3 [2, 2, 0, 0, 2] := ⟨RX2, TX2, 5, tyX2, rfl, uw_3, tyX2_ok, (wb_1 174 rfl rfl), (wb_1 175 rfl rfl), (wb_1 5 rfl rfl), rfl, nok_fk rfl⟩
theorem fo_RX10_30 : FOK WB RX10 30 11 2 := ⟨RX10, TX10, 10, "RuleForge", rfl, uw_11, by decide, (wb_3 83 rfl rfl), Or.inl rfl⟩
theorem po_RX10_1_11_2_2 : POK RX10 true 11 2 2 := ⟨RX10, TX10, 10, tyX10, rfl, tyX10_ok, nmX10, rfl, Or.inr ⟨rfl, rfl, rfl⟩⟩
theorem no_RX10_34 : NOK WB RX10 34 4 [2, 2, 2, 2, 2, 0, 2, 2, 2, 2, 2, 2, 0, 0, 0, 0] := ⟨RX3, TX3, 16, tyX3, rfl, uw_4, tyX3_ok, (wb_1 206 rfl rfl), (wb_1 207 rfl rfl), (wb_1 6 rfl rfl), rfl, nok_fk rfl⟩
theorem fo_RX10_37 : FOK WB RX10 37 11 3 := ⟨RX10, TX10, 10, "RuleForge", rfl, uw_11, by decide, (wb_3 84 rfl rfl), Or.inl rfl⟩
theorem po_RX10_1_11_3_2 : POK RX10 true 11 3 2 := ⟨RX10, TX10, 10, tyX10, rfl, tyX10_ok, nmX10, rfl, Or.inr ⟨rfl, rfl, rfl⟩⟩
theorem no_RX10_41 : NOK WB RX10 41 7 [2, 2, 2, 0, 0, 2, 2, 2, 2, 2] := ⟨RX6, TX6, 10, tyX6, rfl, uw_7, tyX6_ok, (wb_2 89 rfl rfl), (wb_2 90 rfl rfl), (wb_1 8 rfl rfl), rfl, nok_fk rfl⟩
theorem fo_RX10_46 : FOK WB RX10 46 11 4 := ⟨RX10, TX10, 10, "RuleForge", rfl, uw_11, by decide, (wb_3 85 rfl rfl), Or.inl rfl⟩
theorem po_RX10_1_11_4_2 : POK RX10 true 11 4 2 := ⟨RX10, TX10, 10, tyX10, rfl, tyX10_ok, nmX10, rfl, Or.inr ⟨rfl, rfl, rfl⟩⟩
theorem no_RX10_50 : NOK WB RX10 50 10 [2, 2, 2, 2, 0, 0, 0, 0, 0, 0, 0, 0, 0, 0, 0] := ⟨RX9, TX9, 15, tyX9, rfl, uw_10, tyX9_ok, (wb_2 135 rfl rfl), (wb_2 136 rfl rfl), (wb_1 9 rfl rfl), rfl, nok_fk rfl⟩
theorem no_RX10_55 : NOK WB RX10 55 2 [2, 2, 0, 1, 2, 2, 2, 0, 0] := ⟨RX1, TX1, 9, tyX1, rfl, uw_2, tyX1_ok, (wb_2 195 rfl rfl), (wb_2 196 rfl rfl), (wb_1 10 rfl rfl), rfl, nok_fk rfl⟩
theorem fo_RX10_60 : FOK WB RX10 60 11 5 := ⟨RX10, TX10, 10, "RuleForge", rfl, uw_11, by decide, (wb_3 86 rfl rfl), Or.inl rfl⟩
theorem po_RX10_1_11_5_2 : POK RX10 true 11 5 2 := ⟨RX10, TX10, 10, tyX10, rfl, tyX10_ok, nmX10, rfl, Or.inr ⟨rfl, rfl, rfl⟩⟩
theorem no_RX10_64 : NOK WB RX10 64 6 [2, 2, 0, 0, 2, 2, 2, 0, 0] := ⟨RX5, TX5, 9, tyX5, rfl, uw_6, tyX5_ok, (wb_2 233 rfl rfl), (wb_2 234 rfl rfl), (wb_1 11 rfl rfl), rfl, nok_fk rfl⟩
theorem fo_RX10_67 : FOK WB RX10 67 11 6 := ⟨RX10, TX10, 10, "RuleForge", rfl, uw_11, by decide, (wb_3 87 rfl rfl), Or.inl rfl⟩
theorem po_RX10_1_11_6_2 : POK RX10 true 11 6 2 := ⟨RX10, TX10, 10, tyX10, rfl, tyX10_ok, nmX10, rfl, Or.inr ⟨rfl, rfl, rfl⟩⟩
theorem no_RX10_71 : NOK WB RX10 71 1 [2, 2, 2, 2, 0, 2, 2, 2, 0, 2, 0, 0, 0, 2] := ⟨RX0, TX0, 14, tyX0, rfl, uw_1, tyX0_ok, (wb_3 29 rfl rfl), (wb_3 30 rfl rfl), (wb_1 12 rfl rfl), rfl, nok_fk rfl⟩
theorem fo_RX10_74 : FOK WB RX10 74 11 7 := ⟨RX10, TX10, 10, "RuleForge", rfl, uw_11, by decide, (wb_3 88 rfl rfl), Or.inl rfl⟩
theorem po_RX10_1_11_7_2 : POK RX10 true 11 7 2 := ⟨RX10, TX10, 10, tyX10, rfl, tyX10_ok, nmX10, rfl, Or.inr ⟨rfl, rfl, rfl⟩⟩
theorem fo_RX4_11 : FOK WB RX4 11 5 3 := ⟨RX4, TX4, 16, "RuleForge$Pieces", rfl, uw_5, by decide, (wb_1 221 rfl rfl), Or.inl rfl⟩
theorem po_RX4_1_5_3_2 : POK RX4 true 5 3 2 := ⟨RX4, TX4, 16, tyX4, rfl, tyX4_ok, nmX4, rfl, Or.inr ⟨rfl, rfl, rfl⟩⟩
theorem fo_RX4_15 : FOK WB RX4 15 5 4 := ⟨RX4, TX4, 16, "RuleForge$Pieces", rfl, uw_5, by decide, (wb_1 223 rfl rfl), Or.inl rfl⟩
theorem po_RX4_1_5_4_2 : POK RX4 true 5 4 2 := ⟨RX4, TX4, 16, tyX4, rfl, tyX4_ok, nmX4, rfl, Or.inr ⟨rfl, rfl, rfl⟩⟩
theorem fo_RX4_18 : FOK WB RX4 18 5 5 := ⟨RX4, TX4, 16, "RuleForge$Pieces", rfl, uw_5, by decide, (wb_1 224 rfl rfl), Or.inl rfl⟩
theorem po_RX4_1_5_5_2 : POK RX4 true 5 5 2 := ⟨RX4, TX4, 16, tyX4, rfl, tyX4_ok, nmX4, rfl, Or.inr ⟨rfl, rfl, rfl⟩⟩
theorem fo_RX4_21 : FOK WB RX4 21 5 6 := ⟨RX4, TX4, 16, "RuleForge$Pieces", rfl, uw_5, by decide, (wb_1 226 rfl rfl), Or.inl rfl⟩
theorem po_RX4_1_5_6_2 : POK RX4 true 5 6 2 := ⟨RX4, TX4, 16, tyX4, rfl, tyX4_ok, nmX4, rfl, Or.inr ⟨rfl, rfl, rfl⟩⟩
theorem fo_RX4_24 : FOK WB RX4 24 5 7 := ⟨RX4, TX4, 16, "RuleForge$Pieces", rfl, uw_5, by decide, (wb_1 227 rfl rfl), Or.inl rfl⟩
theorem po_RX4_1_5_7_2 : POK RX4 true 5 7 2 := ⟨RX4, TX4, 16, tyX4, rfl, tyX4_ok, nmX4, rfl, Or.inr ⟨rfl, rfl, rfl⟩⟩
theorem fo_RX4_27 : FOK WB RX4 27 5 8 := ⟨RX4, TX4, 16, "RuleForge$Pieces", rfl, uw_5, by decide, (wb_1 228 rfl rfl), Or.inl rfl⟩
theorem po_RX4_1_5_8_2 : POK RX4 true 5 8 2 := ⟨RX4, TX4, 16, tyX4, rfl, tyX4_ok, nmX4, rfl, Or.inr ⟨rfl, rfl, rfl⟩⟩
theorem fo_RX4_30 : FOK WB RX4 30 5 10 := ⟨RX4, TX4, 16, "RuleForge$Pieces", rfl, uw_5, by decide, (wb_1 232 rfl rfl), Or.inl rfl⟩
theorem po_RX4_1_5_10_2 : POK RX4 true 5 10 2 := ⟨RX4, TX4, 16, tyX4, rfl, tyX4_ok, nmX4, rfl, Or.inr ⟨rfl, rfl, rfl⟩⟩
theorem fo_RX4_33 : FOK WB RX4 33 5 11 := ⟨RX4, TX4, 16, "RuleForge$Pieces", rfl, uw_5, by decide, (wb_1 234 rfl rfl), Or.inl rfl⟩
theorem po_RX4_1_5_11_2 : POK RX4 true 5 11 2 := ⟨RX4, TX4, 16, tyX4, rfl, tyX4_ok, nmX4, rfl, Or.inr ⟨rfl, rfl, rfl⟩⟩
theorem fo_RX4_36 : FOK WB RX4 36 5 12 := ⟨RX4, TX4, 16, "RuleForge$Pieces", rfl, uw_5, by decide, (wb_1 236 rfl rfl), Or.inl rfl⟩
theorem po_RX4_1_5_12_2 : POK RX4 true 5 12 2 := ⟨RX4, TX4, 16, tyX4, rfl, tyX4_ok, nmX4, rfl, Or.inr ⟨rfl, rfl, rfl⟩⟩
theorem fo_RX4_39 : FOK WB RX4 39 5 13 := ⟨RX4, TX4, 16, "RuleForge$Pieces", rfl, uw_5, by decide, (wb_1 237 rfl rfl), Or.inl rfl⟩
theorem po_RX4_1_5_13_2 : POK RX4 true 5 13 2 := ⟨RX4, TX4, 16, tyX4, rfl, tyX4_ok, nmX4, rfl, Or.inr ⟨rfl, rfl, rfl⟩⟩
theorem fo_RX4_42 : FOK WB RX4 42 5 14 := ⟨RX4, TX4, 16, "RuleForge$Pieces", rfl, uw_5, by decide, (wb_1 238 rfl rfl), Or.inl rfl⟩
theorem po_RX4_1_5_14_2 : POK RX4 true 5 14 2 := ⟨RX4, TX4, 16, tyX4, rfl, tyX4_ok, nmX4, rfl, Or.inr ⟨rfl, rfl, rfl⟩⟩
theorem fo_RX4_45 : FOK WB RX4 45 5 0 := ⟨RX4, TX4, 16, "RuleForge$Pieces", rfl, uw_5, by decide, (wb_1 218 rfl rfl), Or.inl rfl⟩
theorem po_RX4_1_5_0_2 : POK RX4 true 5 0 2 := ⟨RX4, TX4, 16, tyX4, rfl, tyX4_ok, nmX4, rfl, Or.inr ⟨rfl, rfl, rfl⟩⟩
theorem fo_RX4_49 : FOK WB RX4 49 9 0 := ⟨RX8, TX8, 11, "RuleForge$Terms", rfl, uw_9, by decide, (wb_1 119 rfl rfl), Or.inl rfl⟩
theorem fo_RX4_55 : FOK WB RX4 55 5 1 := ⟨RX4, TX4, 16, "RuleForge$Pieces", rfl, uw_5, by decide, (wb_1 219 rfl rfl), Or.inl rfl⟩
theorem po_RX4_1_5_1_2 : POK RX4 true 5 1 2 := ⟨RX4, TX4, 16, tyX4, rfl, tyX4_ok, nmX4, rfl, Or.inr ⟨rfl, rfl, rfl⟩⟩
theorem fo_RX3_11 : FOK WB RX3 11 4 3 := ⟨RX3, TX3, 16, "RuleForge$Matcher", rfl, uw_4, by decide, (wb_2 37 rfl rfl), Or.inl rfl⟩
theorem po_RX3_1_4_3_2 : POK RX3 true 4 3 2 := ⟨RX3, TX3, 16, tyX3, rfl, tyX3_ok, nmX3, rfl, Or.inr ⟨rfl, rfl, rfl⟩⟩
theorem fo_RX3_17 : FOK WB RX3 17 4 4 := ⟨RX3, TX3, 16, "RuleForge$Matcher", rfl, uw_4, by decide, (wb_2 38 rfl rfl), Or.inl rfl⟩
theorem po_RX3_1_4_4_2 : POK RX3 true 4 4 2 := ⟨RX3, TX3, 16, tyX3, rfl, tyX3_ok, nmX3, rfl, Or.inr ⟨rfl, rfl, rfl⟩⟩
theorem fo_RX3_20 : FOK WB RX3 20 4 6 := ⟨RX3, TX3, 16, "RuleForge$Matcher", rfl, uw_4, by decide, (wb_2 40 rfl rfl), Or.inl rfl⟩
theorem po_RX3_1_4_6_2 : POK RX3 true 4 6 2 := ⟨RX3, TX3, 16, tyX3, rfl, tyX3_ok, nmX3, rfl, Or.inr ⟨rfl, rfl, rfl⟩⟩
theorem fo_RX3_23 : FOK WB RX3 23 4 7 := ⟨RX3, TX3, 16, "RuleForge$Matcher", rfl, uw_4, by decide, (wb_2 41 rfl rfl), Or.inl rfl⟩
theorem po_RX3_1_4_7_2 : POK RX3 true 4 7 2 := ⟨RX3, TX3, 16, tyX3, rfl, tyX3_ok, nmX3, rfl, Or.inr ⟨rfl, rfl, rfl⟩⟩
theorem fo_RX3_26 : FOK WB RX3 26 4 8 := ⟨RX3, TX3, 16, "RuleForge$Matcher", rfl, uw_4, by decide, (wb_2 42 rfl rfl), Or.inl rfl⟩
theorem po_RX3_1_4_8_2 : POK RX3 true 4 8 2 := ⟨RX3, TX3, 16, tyX3, rfl, tyX3_ok, nmX3, rfl, Or.inr ⟨rfl, rfl, rfl⟩⟩
theorem fo_RX3_29 : FOK WB RX3 29 4 9 := ⟨RX3, TX3, 16, "RuleForge$Matcher", rfl, uw_4, by decide, (wb_2 43 rfl rfl), Or.inl rfl⟩
theorem po_RX3_1_4_9_2 : POK RX3 true 4 9 2 := ⟨RX3, TX3, 16, tyX3, rfl, tyX3_ok, nmX3, rfl, Or.inr ⟨rfl, rfl, rfl⟩⟩
theorem fo_RX3_32 : FOK WB RX3 32 4 10 := ⟨RX3, TX3, 16, "RuleForge$Matcher", rfl, uw_4, by decide, (wb_2 44 rfl rfl), Or.inl rfl⟩
theorem po_RX3_1_4_10_2 : POK RX3 true 4 10 2 := ⟨RX3, TX3, 16, tyX3, rfl, tyX3_ok, nmX3, rfl, Or.inr ⟨rfl, rfl, rfl⟩⟩
theorem fo_RX3_35 : FOK WB RX3 35 4 11 := ⟨RX3, TX3, 16, "RuleForge$Matcher", rfl, uw_4, by decide, (wb_2 45 rfl rfl), Or.inl rfl⟩
theorem po_RX3_1_4_11_2 : POK RX3 true 4 11 2 := ⟨RX3, TX3, 16, tyX3, rfl, tyX3_ok, nmX3, rfl, Or.inr ⟨rfl, rfl, rfl⟩⟩
theorem fo_RX3_38 : FOK WB RX3 38 4 0 := ⟨RX3, TX3, 16, "RuleForge$Matcher", rfl, uw_4, by decide, (wb_2 34 rfl rfl), Or.inl rfl⟩
theorem po_RX3_1_4_0_2 : POK RX3 true 4 0 2 := ⟨RX3, TX3, 16, tyX3, rfl, tyX3_ok, nmX3, rfl, Or.inr ⟨rfl, rfl, rfl⟩⟩
theorem fo_RX3_42 : FOK WB RX3 42 9 0 := ⟨RX8, TX8, 11, "RuleForge$Terms", rfl, uw_9, by decide, (wb_1 118 rfl rfl), Or.inl rfl⟩
theorem fo_RX3_48 : FOK WB RX3 48 4 1 := ⟨RX3, TX3, 16, "RuleForge$Matcher", rfl, uw_4, by decide, (wb_2 35 rfl rfl), Or.inl rfl⟩
theorem po_RX3_1_4_1_2 : POK RX3 true 4 1 2 := ⟨RX3, TX3, 16, tyX3, rfl, tyX3_ok, nmX3, rfl, Or.inr ⟨rfl, rfl, rfl⟩⟩
theorem no_RX3_9 : NOK WB RX3 9 5 [2, 2, 0, 2, 2, 2, 2, 2, 2, 0, 2, 2, 2, 2, 2, 0] := ⟨RX4, TX4, 16, tyX4, rfl, uw_5, tyX4_ok, (wb_1 212 rfl rfl), (wb_1 213 rfl rfl), (wb_1 7 rfl rfl), rfl, nok_fk rfl⟩
theorem fo_RX3_52 : FOK WB RX3 52 4 2 := ⟨RX3, TX3, 16, "RuleForge$Matcher", rfl, uw_4, by decide, (wb_2 36 rfl rfl), Or.inl rfl⟩
theorem po_RX3_1_4_2_2 : POK RX3 true 4 2 2 := ⟨RX3, TX3, 16, tyX3, rfl, tyX3_ok, nmX3, rfl, Or.inr ⟨rfl, rfl, rfl⟩⟩
theorem fo_RX0_9 : FOK WB RX0 9 1 5 := ⟨RX0, TX0, 14, "RuleForge$CriticalPairs", rfl, uw_1, by decide, (wb_3 41 rfl rfl), Or.inl rfl⟩
theorem po_RX0_1_1_5_2 : POK RX0 true 1 5 2 := ⟨RX0, TX0, 14, tyX0, rfl, tyX0_ok, nmX0, rfl, Or.inr ⟨rfl, rfl, rfl⟩⟩
theorem fo_RX0_15 : FOK WB RX0 15 1 6 := ⟨RX0, TX0, 14, "RuleForge$CriticalPairs", rfl, uw_1, by decide, (wb_3 42 rfl rfl), Or.inl rfl⟩
theorem po_RX0_1_1_6_2 : POK RX0 true 1 6 2 := ⟨RX0, TX0, 14, tyX0, rfl, tyX0_ok, nmX0, rfl, Or.inr ⟨rfl, rfl, rfl⟩⟩
theorem fo_RX0_18 : FOK WB RX0 18 1 7 := ⟨RX0, TX0, 14, "RuleForge$CriticalPairs", rfl, uw_1, by decide, (wb_3 43 rfl rfl), Or.inl rfl⟩
theorem po_RX0_1_1_7_2 : POK RX0 true 1 7 2 := ⟨RX0, TX0, 14, tyX0, rfl, tyX0_ok, nmX0, rfl, Or.inr ⟨rfl, rfl, rfl⟩⟩
theorem fo_RX0_21 : FOK WB RX0 21 1 9 := ⟨RX0, TX0, 14, "RuleForge$CriticalPairs", rfl, uw_1, by decide, (wb_3 45 rfl rfl), Or.inl rfl⟩
theorem po_RX0_1_1_9_2 : POK RX0 true 1 9 2 := ⟨RX0, TX0, 14, tyX0, rfl, tyX0_ok, nmX0, rfl, Or.inr ⟨rfl, rfl, rfl⟩⟩
theorem fo_RX0_24 : FOK WB RX0 24 1 13 := ⟨RX0, TX0, 14, "RuleForge$CriticalPairs", rfl, uw_1, by decide, (wb_3 50 rfl rfl), Or.inl rfl⟩
theorem po_RX0_1_1_13_2 : POK RX0 true 1 13 2 := ⟨RX0, TX0, 14, tyX0, rfl, tyX0_ok, nmX0, rfl, Or.inr ⟨rfl, rfl, rfl⟩⟩
theorem fo_RX0_28 : FOK WB RX0 28 7 0 := ⟨RX6, TX6, 10, "RuleForge$Reducer", rfl, uw_7, by decide, (wb_2 96 rfl rfl), Or.inl rfl⟩
theorem fo_RX0_34 : FOK WB RX0 34 1 0 := ⟨RX0, TX0, 14, "RuleForge$CriticalPairs", rfl, uw_1, by decide, (wb_3 35 rfl rfl), Or.inl rfl⟩
theorem po_RX0_1_1_0_2 : POK RX0 true 1 0 2 := ⟨RX0, TX0, 14, tyX0, rfl, tyX0_ok, nmX0, rfl, Or.inr ⟨rfl, rfl, rfl⟩⟩
theorem fo_RX0_35 : FOK WB RX0 35 9 0 := ⟨RX8, TX8, 11, "RuleForge$Terms", rfl, uw_9, by decide, (wb_1 116 rfl rfl), Or.inl rfl⟩
theorem fo_RX0_41 : FOK WB RX0 41 1 1 := ⟨RX0, TX0, 14, "RuleForge$CriticalPairs", rfl, uw_1, by decide, (wb_3 36 rfl rfl), Or.inl rfl⟩
theorem po_RX0_1_1_1_2 : POK RX0 true 1 1 2 := ⟨RX0, TX0, 14, tyX0, rfl, tyX0_ok, nmX0, rfl, Or.inr ⟨rfl, rfl, rfl⟩⟩
theorem fo_RX0_42 : FOK WB RX0 42 7 1 := ⟨RX6, TX6, 10, "RuleForge$Reducer", rfl, uw_7, by decide, (wb_2 100 rfl rfl), Or.inl rfl⟩
theorem fo_RX0_46 : FOK WB RX0 46 1 2 := ⟨RX0, TX0, 14, "RuleForge$CriticalPairs", rfl, uw_1, by decide, (wb_3 37 rfl rfl), Or.inl rfl⟩
theorem po_RX0_1_1_2_2 : POK RX0 true 1 2 2 := ⟨RX0, TX0, 14, tyX0, rfl, tyX0_ok, nmX0, rfl, Or.inr ⟨rfl, rfl, rfl⟩⟩
theorem fo_RX0_47 : FOK WB RX0 47 1 3 := ⟨RX0, TX0, 14, "RuleForge$CriticalPairs", rfl, uw_1, by decide, (wb_3 38 rfl rfl), Or.inl rfl⟩
theorem po_RX0_1_1_3_2 : POK RX0 true 1 3 2 := ⟨RX0, TX0, 14, tyX0, rfl, tyX0_ok, nmX0, rfl, Or.inr ⟨rfl, rfl, rfl⟩⟩
theorem fo_RJxc12de_7 : FOK WB RJxc12de 7 0 0 := ⟨RJx4a65c, TJx4a65c, 3, "java/util/AbstractList", rfl, uw_0, by decide, (wb_7 62 rfl rfl), Or.inl rfl⟩
theorem po_RJxc12de_1_0_0_0 : POK RJxc12de true 0 0 0 := ⟨RJx4a65c, TJx4a65c, 3, tyJx4a65c, rfl, tyJx4a65c_ok, nmJx4a65c, rfl, Or.inl rfl⟩
theorem fo_RJx4a65c_9 : FOK WB RJx4a65c 9 0 1 := ⟨RJx4a65c, TJx4a65c, 3, "java/util/ArrayList", rfl, uw_0, by decide, (wb_7 60 rfl rfl), Or.inl rfl⟩
theorem po_RJx4a65c_1_0_1_2 : POK RJx4a65c true 0 1 2 := ⟨RJx4a65c, TJx4a65c, 3, tyJx4a65c, rfl, tyJx4a65c_ok, nmJx4a65c, rfl, Or.inl rfl⟩
theorem fo_RX6_11 : FOK WB RX6 11 7 5 := ⟨RX6, TX6, 10, "RuleForge$Reducer", rfl, uw_7, by decide, (wb_2 109 rfl rfl), Or.inl rfl⟩
theorem po_RX6_1_7_5_2 : POK RX6 true 7 5 2 := ⟨RX6, TX6, 10, tyX6, rfl, tyX6_ok, nmX6, rfl, Or.inr ⟨rfl, rfl, rfl⟩⟩
theorem fo_RX6_15 : FOK WB RX6 15 7 6 := ⟨RX6, TX6, 10, "RuleForge$Reducer", rfl, uw_7, by decide, (wb_2 110 rfl rfl), Or.inl rfl⟩
theorem po_RX6_1_7_6_2 : POK RX6 true 7 6 2 := ⟨RX6, TX6, 10, tyX6, rfl, tyX6_ok, nmX6, rfl, Or.inr ⟨rfl, rfl, rfl⟩⟩
theorem fo_RX6_18 : FOK WB RX6 18 7 7 := ⟨RX6, TX6, 10, "RuleForge$Reducer", rfl, uw_7, by decide, (wb_2 111 rfl rfl), Or.inl rfl⟩
theorem po_RX6_1_7_7_2 : POK RX6 true 7 7 2 := ⟨RX6, TX6, 10, tyX6, rfl, tyX6_ok, nmX6, rfl, Or.inr ⟨rfl, rfl, rfl⟩⟩
theorem fo_RX6_21 : FOK WB RX6 21 7 8 := ⟨RX6, TX6, 10, "RuleForge$Reducer", rfl, uw_7, by decide, (wb_2 112 rfl rfl), Or.inl rfl⟩
theorem po_RX6_1_7_8_2 : POK RX6 true 7 8 2 := ⟨RX6, TX6, 10, tyX6, rfl, tyX6_ok, nmX6, rfl, Or.inr ⟨rfl, rfl, rfl⟩⟩
theorem fo_RX6_24 : FOK WB RX6 24 7 9 := ⟨RX6, TX6, 10, "RuleForge$Reducer", rfl, uw_7, by decide, (wb_2 113 rfl rfl), Or.inl rfl⟩
theorem po_RX6_1_7_9_2 : POK RX6 true 7 9 2 := ⟨RX6, TX6, 10, tyX6, rfl, tyX6_ok, nmX6, rfl, Or.inr ⟨rfl, rfl, rfl⟩⟩
theorem fo_RX6_27 : FOK WB RX6 27 3 0 := ⟨RX2, TX2, 5, "RuleForge$Laws", rfl, uw_3, by decide, (wb_1 181 rfl rfl), Or.inl rfl⟩
theorem fo_RX6_33 : FOK WB RX6 33 7 0 := ⟨RX6, TX6, 10, "RuleForge$Reducer", rfl, uw_7, by decide, (wb_2 97 rfl rfl), Or.inl rfl⟩
theorem po_RX6_1_7_0_2 : POK RX6 true 7 0 2 := ⟨RX6, TX6, 10, tyX6, rfl, tyX6_ok, nmX6, rfl, Or.inr ⟨rfl, rfl, rfl⟩⟩
theorem fo_RX6_34 : FOK WB RX6 34 7 1 := ⟨RX6, TX6, 10, "RuleForge$Reducer", rfl, uw_7, by decide, (wb_2 99 rfl rfl), Or.inl rfl⟩
theorem po_RX6_1_7_1_2 : POK RX6 true 7 1 2 := ⟨RX6, TX6, 10, tyX6, rfl, tyX6_ok, nmX6, rfl, Or.inr ⟨rfl, rfl, rfl⟩⟩
theorem fo_RX6_38 : FOK WB RX6 38 7 2 := ⟨RX6, TX6, 10, "RuleForge$Reducer", rfl, uw_7, by decide, (wb_2 102 rfl rfl), Or.inl rfl⟩
theorem po_RX6_1_7_2_2 : POK RX6 true 7 2 2 := ⟨RX6, TX6, 10, tyX6, rfl, tyX6_ok, nmX6, rfl, Or.inr ⟨rfl, rfl, rfl⟩⟩
theorem fo_RX1_9 : FOK WB RX1 9 2 4 := ⟨RX1, TX1, 9, "RuleForge$Explorer", rfl, uw_2, by decide, (wb_2 207 rfl rfl), Or.inl rfl⟩
theorem po_RX1_1_2_4_2 : POK RX1 true 2 4 2 := ⟨RX1, TX1, 9, tyX1, rfl, tyX1_ok, nmX1, rfl, Or.inr ⟨rfl, rfl, rfl⟩⟩
theorem fo_RX1_15 : FOK WB RX1 15 2 5 := ⟨RX1, TX1, 9, "RuleForge$Explorer", rfl, uw_2, by decide, (wb_2 209 rfl rfl), Or.inl rfl⟩
theorem po_RX1_1_2_5_2 : POK RX1 true 2 5 2 := ⟨RX1, TX1, 9, tyX1, rfl, tyX1_ok, nmX1, rfl, Or.inr ⟨rfl, rfl, rfl⟩⟩
theorem fo_RX1_18 : FOK WB RX1 18 2 6 := ⟨RX1, TX1, 9, "RuleForge$Explorer", rfl, uw_2, by decide, (wb_2 211 rfl rfl), Or.inl rfl⟩
theorem po_RX1_1_2_6_2 : POK RX1 true 2 6 2 := ⟨RX1, TX1, 9, tyX1, rfl, tyX1_ok, nmX1, rfl, Or.inr ⟨rfl, rfl, rfl⟩⟩
theorem fo_RX1_21 : FOK WB RX1 21 10 0 := ⟨RX9, TX9, 15, "RuleForge$Walker", rfl, uw_10, by decide, (wb_2 142 rfl rfl), Or.inl rfl⟩
theorem fo_RX1_27 : FOK WB RX1 27 2 0 := ⟨RX1, TX1, 9, "RuleForge$Explorer", rfl, uw_2, by decide, (wb_2 201 rfl rfl), Or.inl rfl⟩
theorem po_RX1_1_2_0_2 : POK RX1 true 2 0 2 := ⟨RX1, TX1, 9, tyX1, rfl, tyX1_ok, nmX1, rfl, Or.inr ⟨rfl, rfl, rfl⟩⟩
theorem fo_RX1_28 : FOK WB RX1 28 2 1 := ⟨RX1, TX1, 9, "RuleForge$Explorer", rfl, uw_2, by decide, (wb_2 202 rfl rfl), Or.inl rfl⟩
theorem po_RX1_1_2_1_2 : POK RX1 true 2 1 2 := ⟨RX1, TX1, 9, tyX1, rfl, tyX1_ok, nmX1, rfl, Or.inr ⟨rfl, rfl, rfl⟩⟩
theorem fo_RX5_11 : FOK WB RX5 11 6 4 := ⟨RX5, TX5, 9, "RuleForge$Plans", rfl, uw_6, by decide, (wb_3 4 rfl rfl), Or.inl rfl⟩
theorem po_RX5_1_6_4_2 : POK RX5 true 6 4 2 := ⟨RX5, TX5, 9, tyX5, rfl, tyX5_ok, nmX5, rfl, Or.inr ⟨rfl, rfl, rfl⟩⟩
theorem fo_RX5_15 : FOK WB RX5 15 6 5 := ⟨RX5, TX5, 9, "RuleForge$Plans", rfl, uw_6, by decide, (wb_3 5 rfl rfl), Or.inl rfl⟩
theorem po_RX5_1_6_5_2 : POK RX5 true 6 5 2 := ⟨RX5, TX5, 9, tyX5, rfl, tyX5_ok, nmX5, rfl, Or.inr ⟨rfl, rfl, rfl⟩⟩
theorem fo_RX5_18 : FOK WB RX5 18 6 6 := ⟨RX5, TX5, 9, "RuleForge$Plans", rfl, uw_6, by decide, (wb_3 6 rfl rfl), Or.inl rfl⟩
theorem po_RX5_1_6_6_2 : POK RX5 true 6 6 2 := ⟨RX5, TX5, 9, tyX5, rfl, tyX5_ok, nmX5, rfl, Or.inr ⟨rfl, rfl, rfl⟩⟩
theorem fo_RX5_21 : FOK WB RX5 21 10 0 := ⟨RX9, TX9, 15, "RuleForge$Walker", rfl, uw_10, by decide, (wb_2 143 rfl rfl), Or.inl rfl⟩
theorem fo_RX5_27 : FOK WB RX5 27 6 0 := ⟨RX5, TX5, 9, "RuleForge$Plans", rfl, uw_6, by decide, (wb_2 239 rfl rfl), Or.inl rfl⟩
theorem po_RX5_1_6_0_2 : POK RX5 true 6 0 2 := ⟨RX5, TX5, 9, tyX5, rfl, tyX5_ok, nmX5, rfl, Or.inr ⟨rfl, rfl, rfl⟩⟩
theorem fo_RX5_28 : FOK WB RX5 28 6 1 := ⟨RX5, TX5, 9, "RuleForge$Plans", rfl, uw_6, by decide, (wb_3 0 rfl rfl), Or.inl rfl⟩
theorem po_RX5_1_6_1_2 : POK RX5 true 6 1 2 := ⟨RX5, TX5, 9, tyX5, rfl, tyX5_ok, nmX5, rfl, Or.inr ⟨rfl, rfl, rfl⟩⟩
theorem fo_RX9_9 : FOK WB RX9 9 7 0 := ⟨RX6, TX6, 10, "RuleForge$Reducer", rfl, uw_7, by decide, (wb_2 95 rfl rfl), Or.inl rfl⟩
theorem fo_RX9_15 : FOK WB RX9 15 10 0 := ⟨RX9, TX9, 15, "RuleForge$Walker", rfl, uw_10, by decide, (wb_2 141 rfl rfl), Or.inl rfl⟩
theorem po_RX9_1_10_0_2 : POK RX9 true 10 0 2 := ⟨RX9, TX9, 15, tyX9, rfl, tyX9_ok, nmX9, rfl, Or.inr ⟨rfl, rfl, rfl⟩⟩
theorem fo_RX9_18 : FOK WB RX9 18 10 1 := ⟨RX9, TX9, 15, "RuleForge$Walker", rfl, uw_10, by decide, (wb_2 144 rfl rfl), Or.inl rfl⟩
theorem po_RX9_1_10_1_2 : POK RX9 true 10 1 2 := ⟨RX9, TX9, 15, tyX9, rfl, tyX9_ok, nmX9, rfl, Or.inr ⟨rfl, rfl, rfl⟩⟩
theorem fo_RX9_22 : FOK WB RX9 22 7 1 := ⟨RX6, TX6, 10, "RuleForge$Reducer", rfl, uw_7, by decide, (wb_2 98 rfl rfl), Or.inl rfl⟩
theorem fo_RX9_26 : FOK WB RX9 26 10 2 := ⟨RX9, TX9, 15, "RuleForge$Walker", rfl, uw_10, by decide, (wb_2 146 rfl rfl), Or.inl rfl⟩
theorem po_RX9_1_10_2_2 : POK RX9 true 10 2 2 := ⟨RX9, TX9, 15, tyX9, rfl, tyX9_ok, nmX9, rfl, Or.inr ⟨rfl, rfl, rfl⟩⟩
theorem fo_RX9_27 : FOK WB RX9 27 7 2 := ⟨RX6, TX6, 10, "RuleForge$Reducer", rfl, uw_7, by decide, (wb_2 101 rfl rfl), Or.inl rfl⟩
theorem fo_RX9_31 : FOK WB RX9 31 10 3 := ⟨RX9, TX9, 15, "RuleForge$Walker", rfl, uw_10, by decide, (wb_2 148 rfl rfl), Or.inl rfl⟩
theorem po_RX9_1_10_3_2 : POK RX9 true 10 3 2 := ⟨RX9, TX9, 15, tyX9, rfl, tyX9_ok, nmX9, rfl, Or.inr ⟨rfl, rfl, rfl⟩⟩
theorem fo_RX17_493 : FOK WB RX17 493 18 4 := ⟨RX17, TX17, 45, "RuleForgeModel", rfl, uw_18, by decide, (wb_7 107 rfl rfl), Or.inl rfl⟩
theorem fo_RX17_114 : FOK WB RX17 114 18 0 := ⟨RX17, TX17, 45, "RuleForgeModel", rfl, uw_18, by decide, (wb_7 103 rfl rfl), Or.inl rfl⟩
theorem po_RX17_0_18_0_0 : POK RX17 false 18 0 0 := ⟨RX17, TX17, 45, tyX17, rfl, tyX17_ok, nmX17, rfl, Or.inl rfl⟩
theorem po_RX17_0_18_4_0 : POK RX17 false 18 4 0 := ⟨RX17, TX17, 45, tyX17, rfl, tyX17_ok, nmX17, rfl, Or.inl rfl⟩
theorem fo_RX2_9 : FOK WB RX2 9 3 4 := ⟨RX2, TX2, 5, "RuleForge$Laws", rfl, uw_3, by decide, (wb_1 190 rfl rfl), Or.inl rfl⟩
theorem po_RX2_1_3_4_2 : POK RX2 true 3 4 2 := ⟨RX2, TX2, 5, tyX2, rfl, tyX2_ok, nmX2, rfl, Or.inr ⟨rfl, rfl, rfl⟩⟩
theorem fo_RX2_15 : FOK WB RX2 15 3 0 := ⟨RX2, TX2, 5, "RuleForge$Laws", rfl, uw_3, by decide, (wb_1 180 rfl rfl), Or.inl rfl⟩
theorem po_RX2_1_3_0_2 : POK RX2 true 3 0 2 := ⟨RX2, TX2, 5, tyX2, rfl, tyX2_ok, nmX2, rfl, Or.inr ⟨rfl, rfl, rfl⟩⟩
theorem fo_RX2_19 : FOK WB RX2 19 9 0 := ⟨RX8, TX8, 11, "RuleForge$Terms", rfl, uw_9, by decide, (wb_1 115 rfl rfl), Or.inl rfl⟩
theorem fo_RX2_25 : FOK WB RX2 25 3 1 := ⟨RX2, TX2, 5, "RuleForge$Laws", rfl, uw_3, by decide, (wb_1 182 rfl rfl), Or.inl rfl⟩
theorem po_RX2_1_3_1_2 : POK RX2 true 3 1 2 := ⟨RX2, TX2, 5, tyX2, rfl, tyX2_ok, nmX2, rfl, Or.inr ⟨rfl, rfl, rfl⟩⟩
theorem at_RX10_97_1 : ∀ v ∈ vx_atS RX10 97 (ename 1) XN, v ∈ WB ∨ v ∈ AD := at_of (by decide +kernel) (by decide +kernel)
theorem at_RX10_115_2 : ∀ v ∈ vx_atS RX10 115 (ename 2) XN, v ∈ WB ∨ v ∈ AD := at_of (by decide +kernel) (by decide +kernel)
theorem fo_RX10_140 : FOK WB RX10 140 8 1 := ⟨RX7, TX7, 11, "RuleForge$Signature", rfl, uw_8, by decide, (wb_1 55 rfl rfl), Or.inl rfl⟩
theorem fo_RX7_49 : FOK WB RX7 49 8 1 := ⟨RX7, TX7, 11, "RuleForge$Signature", rfl, uw_8, by decide, (wb_1 54 rfl rfl), Or.inl rfl⟩
theorem fo_RX10_196 : FOK WB RX10 196 11 9 := ⟨RX10, TX10, 10, "RuleForge", rfl, uw_11, by decide, (wb_3 90 rfl rfl), Or.inl rfl⟩
theorem at_RX10_86_0 : ∀ v ∈ vx_atS RX10 86 (ename 0) XN, v ∈ WB ∨ v ∈ AD := at_of (by decide +kernel) (by decide +kernel)
theorem po_RJx4a65c_0_0_1_2 : POK RJx4a65c false 0 1 2 := ⟨RJx4a65c, TJx4a65c, 3, tyJx4a65c, rfl, tyJx4a65c_ok, nmJx4a65c, rfl, Or.inl rfl⟩
theorem fo_RJx4a65c_48 : FOK WB RJx4a65c 48 0 2 := ⟨RJx4a65c, TJx4a65c, 3, "java/util/ArrayList", rfl, uw_0, by decide, (wb_7 61 rfl rfl), Or.inl rfl⟩
theorem po_RJx4a65c_0_0_2_0 : POK RJx4a65c false 0 2 0 := ⟨RJx4a65c, TJx4a65c, 3, tyJx4a65c, rfl, tyJx4a65c_ok, nmJx4a65c, rfl, Or.inl rfl⟩
theorem fo_RJx4a65c_63 : FOK WB RJx4a65c 63 0 0 := ⟨RJx4a65c, TJx4a65c, 3, "java/util/ArrayList", rfl, uw_0, by decide, (wb_7 63 rfl rfl), Or.inr (wb_7 64 rfl rfl)⟩
theorem po_RJx4a65c_0_0_0_0 : POK RJx4a65c false 0 0 0 := ⟨RJx4a65c, TJx4a65c, 3, tyJx4a65c, rfl, tyJx4a65c_ok, nmJx4a65c, rfl, Or.inl rfl⟩
theorem fo_RX10_160 : FOK WB RX10 160 11 8 := ⟨RX10, TX10, 10, "RuleForge", rfl, uw_11, by decide, (wb_3 89 rfl rfl), Or.inl rfl⟩
theorem po_RX10_0_11_8_0 : POK RX10 false 11 8 0 := ⟨RX10, TX10, 10, tyX10, rfl, tyX10_ok, nmX10, rfl, Or.inl rfl⟩
theorem po_RX7_0_8_1_0 : POK RX7 false 8 1 0 := ⟨RX7, TX7, 11, tyX7, rfl, tyX7_ok, nmX7, rfl, Or.inl rfl⟩
theorem po_RX8_0_9_2_0 : POK RX8 false 9 2 0 := ⟨RX8, TX8, 11, tyX8, rfl, tyX8_ok, nmX8, rfl, Or.inl rfl⟩
theorem fo_RX8_41 : FOK WB RX8 41 9 4 := ⟨RX8, TX8, 11, "RuleForge$Terms", rfl, uw_9, by decide, (wb_1 135 rfl rfl), Or.inl rfl⟩
theorem po_RX8_0_9_4_0 : POK RX8 false 9 4 0 := ⟨RX8, TX8, 11, tyX8, rfl, tyX8_ok, nmX8, rfl, Or.inl rfl⟩
theorem po_RX8_0_9_8_0 : POK RX8 false 9 8 0 := ⟨RX8, TX8, 11, tyX8, rfl, tyX8_ok, nmX8, rfl, Or.inl rfl⟩
theorem fo_RX8_44 : FOK WB RX8 44 9 10 := ⟨RX8, TX8, 11, "RuleForge$Terms", rfl, uw_9, by decide, (wb_1 149 rfl rfl), Or.inl rfl⟩
theorem po_RX8_0_9_10_1 : POK RX8 false 9 10 1 := ⟨RX8, TX8, 11, tyX8, rfl, tyX8_ok, nmX8, rfl, Or.inl rfl⟩
theorem fo_RX10_382 : FOK WB RX10 382 1 12 := ⟨RX0, TX0, 14, "RuleForge$CriticalPairs", rfl, uw_1, by decide, (wb_3 49 rfl rfl), Or.inl rfl⟩
theorem po_RX10_0_1_12_0 : POK RX10 false 1 12 0 := ⟨RX0, TX0, 14, tyX0, rfl, tyX0_ok, nmX0, rfl, Or.inl rfl⟩
theorem fo_RX10_361 : FOK WB RX10 361 1 4 := ⟨RX0, TX0, 14, "RuleForge$CriticalPairs", rfl, uw_1, by decide, (wb_3 40 rfl rfl), Or.inl rfl⟩
theorem fo_RX17_321 : FOK WB RX17 321 18 27 := ⟨RX17, TX17, 45, "RuleForgeModel", rfl, uw_18, by decide, (wb_7 130 rfl rfl), Or.inl rfl⟩
theorem po_RX17_0_18_27_0 : POK RX17 false 18 27 0 := ⟨RX17, TX17, 45, tyX17, rfl, tyX17_ok, nmX17, rfl, Or.inl rfl⟩
theorem fo_RX17_465 : FOK WB RX17 465 18 43 := ⟨RX17, TX17, 45, "RuleForgeModel", rfl, uw_18, by decide, (wb_7 146 rfl rfl), Or.inl rfl⟩
theorem fo_RX17_528 : FOK WB RX17 528 18 1 := ⟨RX17, TX17, 45, "RuleForgeModel", rfl, uw_18, by decide, (wb_7 104 rfl rfl), Or.inl rfl⟩
theorem fo_RX14_7 : FOK WB RX14 7 15 0 := ⟨RX14, TX14, 6, "RuleForgeModel$Plan", rfl, uw_15, by decide, (wb_9 144 rfl rfl), Or.inl rfl⟩
theorem po_RX14_1_15_0_0 : POK RX14 true 15 0 0 := ⟨RX14, TX14, 6, tyX14, rfl, tyX14_ok, nmX14, rfl, Or.inr ⟨rfl, rfl, rfl⟩⟩
theorem fo_RX14_13 : FOK WB RX14 13 15 1 := ⟨RX14, TX14, 6, "RuleForgeModel$Plan", rfl, uw_15, by decide, (wb_9 146 rfl rfl), Or.inl rfl⟩
theorem po_RX14_1_15_1_0 : POK RX14 true 15 1 0 := ⟨RX14, TX14, 6, tyX14, rfl, tyX14_ok, nmX14, rfl, Or.inr ⟨rfl, rfl, rfl⟩⟩
theorem fo_RX14_16 : FOK WB RX14 16 15 2 := ⟨RX14, TX14, 6, "RuleForgeModel$Plan", rfl, uw_15, by decide, (wb_9 148 rfl rfl), Or.inl rfl⟩
theorem po_RX14_1_15_2_2 : POK RX14 true 15 2 2 := ⟨RX14, TX14, 6, tyX14, rfl, tyX14_ok, nmX14, rfl, Or.inr ⟨rfl, rfl, rfl⟩⟩
theorem fo_RX14_20 : FOK WB RX14 20 15 3 := ⟨RX14, TX14, 6, "RuleForgeModel$Plan", rfl, uw_15, by decide, (wb_9 150 rfl rfl), Or.inl rfl⟩
theorem po_RX14_1_15_3_2 : POK RX14 true 15 3 2 := ⟨RX14, TX14, 6, tyX14, rfl, tyX14_ok, nmX14, rfl, Or.inr ⟨rfl, rfl, rfl⟩⟩
theorem fo_RX14_24 : FOK WB RX14 24 15 4 := ⟨RX14, TX14, 6, "RuleForgeModel$Plan", rfl, uw_15, by decide, (wb_9 152 rfl rfl), Or.inl rfl⟩
theorem po_RX14_1_15_4_2 : POK RX14 true 15 4 2 := ⟨RX14, TX14, 6, tyX14, rfl, tyX14_ok, nmX14, rfl, Or.inr ⟨rfl, rfl, rfl⟩⟩
theorem fo_RX14_27 : FOK WB RX14 27 15 5 := ⟨RX14, TX14, 6, "RuleForgeModel$Plan", rfl, uw_15, by decide, (wb_9 154 rfl rfl), Or.inl rfl⟩
theorem po_RX14_1_15_5_0 : POK RX14 true 15 5 0 := ⟨RX14, TX14, 6, tyX14, rfl, tyX14_ok, nmX14, rfl, Or.inr ⟨rfl, rfl, rfl⟩⟩
theorem fo_RX0_51 : FOK WB RX0 51 1 8 := ⟨RX0, TX0, 14, "RuleForge$CriticalPairs", rfl, uw_1, by decide, (wb_3 44 rfl rfl), Or.inl rfl⟩
theorem fo_RX0_55 : FOK WB RX0 55 3 2 := ⟨RX2, TX2, 5, "RuleForge$Laws", rfl, uw_3, by decide, (wb_1 184 rfl rfl), Or.inl rfl⟩
theorem fo_RX7_45 : FOK WB RX7 45 8 0 := ⟨RX7, TX7, 11, "RuleForge$Signature", rfl, uw_8, by decide, (wb_1 53 rfl rfl), Or.inl rfl⟩
theorem po_RX17_0_18_1_0 : POK RX17 false 18 1 0 := ⟨RX17, TX17, 45, tyX17, rfl, tyX17_ok, nmX17, rfl, Or.inl rfl⟩
theorem no_RX17_393 : NOK WB RX17 393 15 [0, 0, 2, 2, 2, 0] := ⟨RX14, TX14, 6, tyX14, rfl, uw_15, tyX14_ok, (wb_9 138 rfl rfl), (wb_9 139 rfl rfl), (wb_1 33 rfl rfl), rfl, nok_fk rfl⟩
theorem fo_RX5_36 : FOK WB RX5 36 6 3 := ⟨RX5, TX5, 9, "RuleForge$Plans", rfl, uw_6, by decide, (wb_3 3 rfl rfl), Or.inl rfl⟩
theorem fo_RX5_40 : FOK WB RX5 40 6 2 := ⟨RX5, TX5, 9, "RuleForge$Plans", rfl, uw_6, by decide, (wb_3 1 rfl rfl), Or.inl rfl⟩
theorem po_RX5_0_6_2_0 : POK RX5 false 6 2 0 := ⟨RX5, TX5, 9, tyX5, rfl, tyX5_ok, nmX5, rfl, Or.inl rfl⟩
theorem po_RX5_0_6_3_0 : POK RX5 false 6 3 0 := ⟨RX5, TX5, 9, tyX5, rfl, tyX5_ok, nmX5, rfl, Or.inl rfl⟩
theorem fo_RX10_78 : FOK WB RX10 78 8 0 := ⟨RX7, TX7, 11, "RuleForge$Signature", rfl, uw_8, by decide, (wb_1 52 rfl rfl), Or.inl rfl⟩
theorem po_RX10_0_8_0_0 : POK RX10 false 8 0 0 := ⟨RX7, TX7, 11, tyX7, rfl, tyX7_ok, nmX7, rfl, Or.inl rfl⟩
theorem fo_RX10_320 : FOK WB RX10 320 6 2 := ⟨RX5, TX5, 9, "RuleForge$Plans", rfl, uw_6, by decide, (wb_3 2 rfl rfl), Or.inl rfl⟩
theorem fo_RX10_290 : FOK WB RX10 290 2 2 := ⟨RX1, TX1, 9, "RuleForge$Explorer", rfl, uw_2, by decide, (wb_2 204 rfl rfl), Or.inl rfl⟩
theorem fo_RX10_259 : FOK WB RX10 259 3 3 := ⟨RX2, TX2, 5, "RuleForge$Laws", rfl, uw_3, by decide, (wb_1 189 rfl rfl), Or.inl rfl⟩
theorem fo_RX10_262 : FOK WB RX10 262 3 2 := ⟨RX2, TX2, 5, "RuleForge$Laws", rfl, uw_3, by decide, (wb_1 186 rfl rfl), Or.inl rfl⟩
theorem fo_RX17_357 : FOK WB RX17 357 18 19 := ⟨RX17, TX17, 45, "RuleForgeModel", rfl, uw_18, by decide, (wb_7 122 rfl rfl), Or.inl rfl⟩
theorem fo_RX10_286 : FOK WB RX10 286 2 3 := ⟨RX1, TX1, 9, "RuleForge$Explorer", rfl, uw_2, by decide, (wb_2 206 rfl rfl), Or.inl rfl⟩
theorem ac_int : Jvm.Cond.arrayClass (newarray.typeOf .int) ∈ WB := (wb_1 108 rfl rfl)
theorem ac_boolean : Jvm.Cond.arrayClass (newarray.typeOf .boolean) ∈ WB := (wb_1 205 rfl rfl)
theorem ac_long : Jvm.Cond.arrayClass (newarray.typeOf .long) ∈ WB := (wb_3 80 rfl rfl)
theorem ob_1 : Jvm.Cond.instanceMethod objectInit ∈ WB := (wb_1 41 rfl rfl)
theorem ob_2 : Jvm.Cond.code objectInit ⟨#[0xb1]⟩ 1 none ∈ WB := (wb_1 42 rfl rfl)
theorem cp_1 : Jvm.Cond.native arraycopyName ∈ WB := (wb_3 186 rfl rfl)
theorem cp_2 : Jvm.Cond.static arraycopyName ∈ WB := (wb_3 185 rfl rfl)
theorem cp_3 : Jvm.Cond.initialized "java/lang/System" ∈ WB := (wb_1 24 rfl rfl)
theorem mx_1 : Jvm.Cond.static Lib.Math.max.name ∈ WB := (wb_4 148 rfl rfl)
theorem mx_2 : Jvm.Cond.initialized "java/lang/Math" ∈ WB := (wb_1 26 rfl rfl)
theorem mx_3 : Jvm.Cond.code Lib.Math.max.name Lib.Math.max.code 2 (some .int) ∈ WB := (wb_4 149 rfl rfl)
theorem tb_L_law : TB[0]? = some (md_L_law, tl_L_law) := rfl
theorem ho_L_law : HOK WB md_L_law := fun _ h => absurd h List.not_mem_nil
theorem tb_X17_init : TB[1]? = some (md_X17_init, tl_X17_init) := rfl
theorem pr_X17_init : (parseMethodDescriptor (mY md_X17_init).desc).map (fun d => d.parameters.length) = some (mN md_X17_init - 1) := by decide +kernel
theorem in_X17_init : Jvm.Cond.instanceMethod (mY md_X17_init) ∈ WB := (wb_7 43 rfl rfl)
theorem ho_X17_init : HOK WB md_X17_init := fun _ h => absurd h List.not_mem_nil
theorem mo_X17_init : MOK WB md_X17_init := ⟨by decide, (wb_7 44 rfl rfl), (wb_1 13 rfl rfl), by decide +kernel, ⟨by decide +kernel, by decide +kernel⟩, rfl, (fun _ => rfl), by decide, ho_X17_init⟩
theorem tb_J7_fill_53178 : TB[2]? = some (md_J7_fill_53178, tl_J7_fill_53178) := rfl
theorem pr_J7_fill_53178 : (parseMethodDescriptor (mY md_J7_fill_53178).desc).map (fun d => d.parameters.length) = some (mN md_J7_fill_53178) := by decide +kernel
theorem st_J7_fill_53178 : Jvm.Cond.static (mY md_J7_fill_53178) ∈ WB := (wb_1 50 rfl rfl)
theorem ho_J7_fill_53178 : HOK WB md_J7_fill_53178 := fun _ h => absurd h List.not_mem_nil
theorem mo_J7_fill_53178 : MOK WB md_J7_fill_53178 := ⟨by decide, (wb_1 51 rfl rfl), (wb_1 3 rfl rfl), by decide +kernel, ⟨by decide +kernel, by decide +kernel⟩, rfl, (fun h => by cases h), by decide, ho_J7_fill_53178⟩
theorem tb_X16_init : TB[3]? = some (md_X16_init, tl_X16_init) := rfl
theorem pr_X16_init : (parseMethodDescriptor (mY md_X16_init).desc).map (fun d => d.parameters.length) = some (mN md_X16_init - 1) := by decide +kernel
theorem in_X16_init : Jvm.Cond.instanceMethod (mY md_X16_init) ∈ WB := (wb_7 76 rfl rfl)
theorem ho_X16_init : HOK WB md_X16_init := fun _ h => absurd h List.not_mem_nil
theorem mo_X16_init : MOK WB md_X16_init := ⟨by decide, (wb_7 77 rfl rfl), (wb_1 17 rfl rfl), by decide +kernel, ⟨by decide +kernel, by decide +kernel⟩, rfl, (fun _ => rfl), by decide, ho_X16_init⟩
theorem tb_X8_init : TB[4]? = some (md_X8_init, tl_X8_init) := rfl
theorem pr_X8_init : (parseMethodDescriptor (mY md_X8_init).desc).map (fun d => d.parameters.length) = some (mN md_X8_init - 1) := by decide +kernel
theorem in_X8_init : Jvm.Cond.instanceMethod (mY md_X8_init) ∈ WB := (wb_1 112 rfl rfl)
theorem ho_X8_init : HOK WB md_X8_init := fun _ h => absurd h List.not_mem_nil
theorem mo_X8_init : MOK WB md_X8_init := ⟨by decide, (wb_1 113 rfl rfl), (wb_1 4 rfl rfl), by decide +kernel, ⟨by decide +kernel, by decide +kernel⟩, rfl, (fun _ => rfl), by decide, ho_X8_init⟩
theorem tb_X7_init : TB[5]? = some (md_X7_init, tl_X7_init) := rfl
theorem pr_X7_init : (parseMethodDescriptor (mY md_X7_init).desc).map (fun d => d.parameters.length) = some (mN md_X7_init - 1) := by decide +kernel
theorem in_X7_init : Jvm.Cond.instanceMethod (mY md_X7_init) ∈ WB := (wb_1 46 rfl rfl)
theorem ho_X7_init : HOK WB md_X7_init := fun _ h => absurd h List.not_mem_nil
theorem mo_X7_init : MOK WB md_X7_init := ⟨by decide, (wb_1 47 rfl rfl), (wb_1 2 rfl rfl), by decide +kernel, ⟨by decide +kernel, by decide +kernel⟩, rfl, (fun _ => rfl), by decide, ho_X7_init⟩
theorem tb_X10_init : TB[6]? = some (md_X10_init, tl_X10_init) := rfl
theorem pr_X10_init : (parseMethodDescriptor (mY md_X10_init).desc).map (fun d => d.parameters.length) = some (mN md_X10_init - 1) := by decide +kernel
theorem in_X10_init : Jvm.Cond.instanceMethod (mY md_X10_init) ∈ WB := (wb_1 38 rfl rfl)
theorem ho_X10_init : HOK WB md_X10_init := fun _ h => absurd h List.not_mem_nil
theorem mo_X10_init : MOK WB md_X10_init := ⟨by decide, (wb_1 39 rfl rfl), (wb_1 1 rfl rfl), by decide +kernel, ⟨by decide +kernel, by decide +kernel⟩, rfl, (fun _ => rfl), by decide, ho_X10_init⟩
theorem tb_X4_init : TB[7]? = some (md_X4_init, tl_X4_init) := rfl
theorem pr_X4_init : (parseMethodDescriptor (mY md_X4_init).desc).map (fun d => d.parameters.length) = some (mN md_X4_init - 1) := by decide +kernel
theorem in_X4_init : Jvm.Cond.instanceMethod (mY md_X4_init) ∈ WB := (wb_1 215 rfl rfl)
theorem ho_X4_init : HOK WB md_X4_init := fun _ h => absurd h List.not_mem_nil
theorem mo_X4_init : MOK WB md_X4_init := ⟨by decide, (wb_1 216 rfl rfl), (wb_1 7 rfl rfl), by decide +kernel, ⟨by decide +kernel, by decide +kernel⟩, rfl, (fun _ => rfl), by decide, ho_X4_init⟩
theorem tb_X3_init : TB[8]? = some (md_X3_init, tl_X3_init) := rfl
theorem pr_X3_init : (parseMethodDescriptor (mY md_X3_init).desc).map (fun d => d.parameters.length) = some (mN md_X3_init - 1) := by decide +kernel
theorem in_X3_init : Jvm.Cond.instanceMethod (mY md_X3_init) ∈ WB := (wb_1 209 rfl rfl)
theorem ho_X3_init : HOK WB md_X3_init := fun _ h => absurd h List.not_mem_nil
theorem mo_X3_init : MOK WB md_X3_init := ⟨by decide, (wb_1 210 rfl rfl), (wb_1 6 rfl rfl), by decide +kernel, ⟨by decide +kernel, by decide +kernel⟩, rfl, (fun _ => rfl), by decide, ho_X3_init⟩
theorem tb_X0_init : TB[9]? = some (md_X0_init, tl_X0_init) := rfl
theorem pr_X0_init : (parseMethodDescriptor (mY md_X0_init).desc).map (fun d => d.parameters.length) = some (mN md_X0_init - 1) := by decide +kernel
theorem in_X0_init : Jvm.Cond.instanceMethod (mY md_X0_init) ∈ WB := (wb_3 32 rfl rfl)
theorem ho_X0_init : HOK WB md_X0_init := fun _ h => absurd h List.not_mem_nil
theorem mo_X0_init : MOK WB md_X0_init := ⟨by decide, (wb_3 33 rfl rfl), (wb_1 12 rfl rfl), by decide +kernel, ⟨by decide +kernel, by decide +kernel⟩, rfl, (fun _ => rfl), by decide, ho_X0_init⟩
theorem tb_Jxc12de_init_da8c8 : TB[10]? = some (md_Jxc12de_init_da8c8, tl_Jxc12de_init_da8c8) := rfl
theorem pr_Jxc12de_init_da8c8 : (parseMethodDescriptor (mY md_Jxc12de_init_da8c8).desc).map (fun d => d.parameters.length) = some (mN md_Jxc12de_init_da8c8 - 1) := by decide +kernel
theorem in_Jxc12de_init_da8c8 : Jvm.Cond.instanceMethod (mY md_Jxc12de_init_da8c8) ∈ WB := (wb_7 52 rfl rfl)
theorem ho_Jxc12de_init_da8c8 : HOK WB md_Jxc12de_init_da8c8 := fun _ h => absurd h List.not_mem_nil
theorem mo_Jxc12de_init_da8c8 : MOK WB md_Jxc12de_init_da8c8 := ⟨by decide, (wb_7 53 rfl rfl), (wb_1 15 rfl rfl), by decide +kernel, ⟨by decide +kernel, by decide +kernel⟩, rfl, (fun _ => rfl), by decide, ho_Jxc12de_init_da8c8⟩
theorem tb_Jx4a65c_init_da8c8 : TB[11]? = some (md_Jx4a65c_init_da8c8, tl_Jx4a65c_init_da8c8) := rfl
theorem pr_Jx4a65c_init_da8c8 : (parseMethodDescriptor (mY md_Jx4a65c_init_da8c8).desc).map (fun d => d.parameters.length) = some (mN md_Jx4a65c_init_da8c8 - 1) := by decide +kernel
theorem in_Jx4a65c_init_da8c8 : Jvm.Cond.instanceMethod (mY md_Jx4a65c_init_da8c8) ∈ WB := (wb_7 49 rfl rfl)
theorem ho_Jx4a65c_init_da8c8 : HOK WB md_Jx4a65c_init_da8c8 := fun _ h => absurd h List.not_mem_nil
theorem mo_Jx4a65c_init_da8c8 : MOK WB md_Jx4a65c_init_da8c8 := ⟨by decide, (wb_7 50 rfl rfl), (wb_1 16 rfl rfl), by decide +kernel, ⟨by decide +kernel, by decide +kernel⟩, rfl, (fun _ => rfl), by decide, ho_Jx4a65c_init_da8c8⟩
theorem tb_X6_init : TB[12]? = some (md_X6_init, tl_X6_init) := rfl
theorem pr_X6_init : (parseMethodDescriptor (mY md_X6_init).desc).map (fun d => d.parameters.length) = some (mN md_X6_init - 1) := by decide +kernel
theorem in_X6_init : Jvm.Cond.instanceMethod (mY md_X6_init) ∈ WB := (wb_2 92 rfl rfl)
theorem ho_X6_init : HOK WB md_X6_init := fun _ h => absurd h List.not_mem_nil
theorem mo_X6_init : MOK WB md_X6_init := ⟨by decide, (wb_2 93 rfl rfl), (wb_1 8 rfl rfl), by decide +kernel, ⟨by decide +kernel, by decide +kernel⟩, rfl, (fun _ => rfl), by decide, ho_X6_init⟩
theorem tb_X1_init : TB[13]? = some (md_X1_init, tl_X1_init) := rfl
theorem pr_X1_init : (parseMethodDescriptor (mY md_X1_init).desc).map (fun d => d.parameters.length) = some (mN md_X1_init - 1) := by decide +kernel
theorem in_X1_init : Jvm.Cond.instanceMethod (mY md_X1_init) ∈ WB := (wb_2 198 rfl rfl)
theorem ho_X1_init : HOK WB md_X1_init := fun _ h => absurd h List.not_mem_nil
theorem mo_X1_init : MOK WB md_X1_init := ⟨by decide, (wb_2 199 rfl rfl), (wb_1 10 rfl rfl), by decide +kernel, ⟨by decide +kernel, by decide +kernel⟩, rfl, (fun _ => rfl), by decide, ho_X1_init⟩
theorem tb_X5_init : TB[14]? = some (md_X5_init, tl_X5_init) := rfl
theorem pr_X5_init : (parseMethodDescriptor (mY md_X5_init).desc).map (fun d => d.parameters.length) = some (mN md_X5_init - 1) := by decide +kernel
theorem in_X5_init : Jvm.Cond.instanceMethod (mY md_X5_init) ∈ WB := (wb_2 236 rfl rfl)
theorem ho_X5_init : HOK WB md_X5_init := fun _ h => absurd h List.not_mem_nil
theorem mo_X5_init : MOK WB md_X5_init := ⟨by decide, (wb_2 237 rfl rfl), (wb_1 11 rfl rfl), by decide +kernel, ⟨by decide +kernel, by decide +kernel⟩, rfl, (fun _ => rfl), by decide, ho_X5_init⟩
theorem tb_X9_init : TB[15]? = some (md_X9_init, tl_X9_init) := rfl
theorem pr_X9_init : (parseMethodDescriptor (mY md_X9_init).desc).map (fun d => d.parameters.length) = some (mN md_X9_init - 1) := by decide +kernel
theorem in_X9_init : Jvm.Cond.instanceMethod (mY md_X9_init) ∈ WB := (wb_2 138 rfl rfl)
theorem ho_X9_init : HOK WB md_X9_init := fun _ h => absurd h List.not_mem_nil
theorem mo_X9_init : MOK WB md_X9_init := ⟨by decide, (wb_2 139 rfl rfl), (wb_1 9 rfl rfl), by decide +kernel, ⟨by decide +kernel, by decide +kernel⟩, rfl, (fun _ => rfl), by decide, ho_X9_init⟩
theorem tb_Jxa1e45_init_da8c8 : TB[16]? = some (md_Jxa1e45_init_da8c8, tl_Jxa1e45_init_da8c8) := rfl
theorem pr_Jxa1e45_init_da8c8 : (parseMethodDescriptor (mY md_Jxa1e45_init_da8c8).desc).map (fun d => d.parameters.length) = some (mN md_Jxa1e45_init_da8c8 - 1) := by decide +kernel
theorem in_Jxa1e45_init_da8c8 : Jvm.Cond.instanceMethod (mY md_Jxa1e45_init_da8c8) ∈ WB := (wb_7 55 rfl rfl)
theorem ho_Jxa1e45_init_da8c8 : HOK WB md_Jxa1e45_init_da8c8 := fun _ h => absurd h List.not_mem_nil
theorem mo_Jxa1e45_init_da8c8 : MOK WB md_Jxa1e45_init_da8c8 := ⟨by decide, (wb_7 56 rfl rfl), (wb_1 14 rfl rfl), by decide +kernel, ⟨by decide +kernel, by decide +kernel⟩, rfl, (fun _ => rfl), by decide, ho_Jxa1e45_init_da8c8⟩
theorem tb_X17_operator : TB[17]? = some (md_X17_operator, tl_X17_operator) := rfl
theorem pr_X17_operator : (parseMethodDescriptor (mY md_X17_operator).desc).map (fun d => d.parameters.length) = some (mN md_X17_operator - 1) := by decide +kernel
theorem in_X17_operator : Jvm.Cond.instanceMethod (mY md_X17_operator) ∈ WB := (wb_10 142 rfl rfl)
theorem se_X17_operator : Jvm.Cond.selects (mY md_X17_operator).cls (mY md_X17_operator) (mY md_X17_operator) ∈ WB := (wb_10 143 rfl rfl)
theorem ho_X17_operator : HOK WB md_X17_operator := fun _ h => absurd h List.not_mem_nil
theorem mo_X17_operator : MOK WB md_X17_operator := ⟨by decide, (wb_10 144 rfl rfl), (wb_1 13 rfl rfl), by decide +kernel, ⟨by decide +kernel, by decide +kernel⟩, rfl, (fun h => by cases h), by decide, ho_X17_operator⟩
theorem tb_X2_init : TB[18]? = some (md_X2_init, tl_X2_init) := rfl
theorem pr_X2_init : (parseMethodDescriptor (mY md_X2_init).desc).map (fun d => d.parameters.length) = some (mN md_X2_init - 1) := by decide +kernel
theorem in_X2_init : Jvm.Cond.instanceMethod (mY md_X2_init) ∈ WB := (wb_1 177 rfl rfl)
theorem ho_X2_init : HOK WB md_X2_init := fun _ h => absurd h List.not_mem_nil
theorem mo_X2_init : MOK WB md_X2_init := ⟨by decide, (wb_1 178 rfl rfl), (wb_1 5 rfl rfl), by decide +kernel, ⟨by decide +kernel, by decide +kernel⟩, rfl, (fun _ => rfl), by decide, ho_X2_init⟩
theorem tb_X17_isIn : TB[19]? = some (md_X17_isIn, tl_X17_isIn) := rfl
theorem pr_X17_isIn : (parseMethodDescriptor (mY md_X17_isIn).desc).map (fun d => d.parameters.length) = some (mN md_X17_isIn) := by decide +kernel
theorem st_X17_isIn : Jvm.Cond.static (mY md_X17_isIn) ∈ WB := (wb_9 105 rfl rfl)
theorem ho_X17_isIn : HOK WB md_X17_isIn := fun _ h => absurd h List.not_mem_nil
theorem mo_X17_isIn : MOK WB md_X17_isIn := ⟨by decide, (wb_9 106 rfl rfl), (wb_1 13 rfl rfl), by decide +kernel, ⟨by decide +kernel, by decide +kernel⟩, rfl, (fun h => by cases h), by decide, ho_X17_isIn⟩
theorem tb_X10_operator : TB[20]? = some (md_X10_operator, tl_X10_operator) := rfl
theorem pr_X10_operator : (parseMethodDescriptor (mY md_X10_operator).desc).map (fun d => d.parameters.length) = some (mN md_X10_operator - 1) := by decide +kernel
theorem in_X10_operator : Jvm.Cond.instanceMethod (mY md_X10_operator) ∈ WB := (wb_5 88 rfl rfl)
theorem se_X10_operator : Jvm.Cond.selects (mY md_X10_operator).cls (mY md_X10_operator) (mY md_X10_operator) ∈ WB := (wb_5 89 rfl rfl)
theorem ho_X10_operator : HOK WB md_X10_operator := fun _ h => absurd h List.not_mem_nil
theorem mo_X10_operator : MOK WB md_X10_operator := ⟨by decide, (wb_5 90 rfl rfl), (wb_1 1 rfl rfl), by decide +kernel, ⟨by decide +kernel, by decide +kernel⟩, rfl, (fun h => by cases h), by decide, ho_X10_operator⟩
theorem tb_L_operator : TB[21]? = some (md_L_operator, tl_L_operator) := rfl
theorem pr_L_operator : (parseMethodDescriptor (mY md_L_operator).desc).map (fun d => d.parameters.length) = some (mN md_L_operator) := by decide +kernel
theorem st_L_operator : Jvm.Cond.static (mY md_L_operator) ∈ WB := (wb_5 85 rfl rfl)
theorem ho_L_operator : HOK WB md_L_operator := List.forall_mem_cons.mpr ⟨fun _ => ⟨by decide, (wb_5 20 rfl rfl)⟩, List.forall_mem_cons.mpr ⟨fun _ => ⟨by decide, (wb_5 55 rfl rfl)⟩, List.forall_mem_cons.mpr ⟨fun _ => ⟨by decide, (wb_4 183 rfl rfl)⟩, fun _ h => absurd h List.not_mem_nil⟩⟩⟩
theorem mo_L_operator : MOK WB md_L_operator := ⟨by decide, (wb_5 86 rfl rfl), (wb_1 0 rfl rfl), by decide +kernel, ⟨by decide +kernel, by decide +kernel⟩, rfl, (fun h => by cases h), by decide, ho_L_operator⟩
theorem tb_X17_thrown : TB[22]? = some (md_X17_thrown, tl_X17_thrown) := rfl
theorem pr_X17_thrown : (parseMethodDescriptor (mY md_X17_thrown).desc).map (fun d => d.parameters.length) = some (mN md_X17_thrown - 1) := by decide +kernel
theorem in_X17_thrown : Jvm.Cond.instanceMethod (mY md_X17_thrown) ∈ WB := (wb_8 0 rfl rfl)
theorem se_X17_thrown : Jvm.Cond.selects (mY md_X17_thrown).cls (mY md_X17_thrown) (mY md_X17_thrown) ∈ WB := (wb_8 1 rfl rfl)
theorem ho_X17_thrown : HOK WB md_X17_thrown := fun _ h => absurd h List.not_mem_nil
theorem mo_X17_thrown : MOK WB md_X17_thrown := ⟨by decide, (wb_8 2 rfl rfl), (wb_1 13 rfl rfl), by decide +kernel, ⟨by decide +kernel, by decide +kernel⟩, rfl, (fun h => by cases h), by decide, ho_X17_thrown⟩
theorem tb_X17_load : TB[23]? = some (md_X17_load, tl_X17_load) := rfl
theorem pr_X17_load : (parseMethodDescriptor (mY md_X17_load).desc).map (fun d => d.parameters.length) = some (mN md_X17_load - 1) := by decide +kernel
theorem in_X17_load : Jvm.Cond.instanceMethod (mY md_X17_load) ∈ WB := (wb_10 162 rfl rfl)
theorem se_X17_load : Jvm.Cond.selects (mY md_X17_load).cls (mY md_X17_load) (mY md_X17_load) ∈ WB := (wb_10 163 rfl rfl)
theorem ho_X17_load : HOK WB md_X17_load := fun _ h => absurd h List.not_mem_nil
theorem mo_X17_load : MOK WB md_X17_load := ⟨by decide, (wb_10 164 rfl rfl), (wb_1 13 rfl rfl), by decide +kernel, ⟨by decide +kernel, by decide +kernel⟩, rfl, (fun h => by cases h), by decide, ho_X17_load⟩
theorem tb_X7_hasOperator : TB[24]? = some (md_X7_hasOperator, tl_X7_hasOperator) := rfl
theorem pr_X7_hasOperator : (parseMethodDescriptor (mY md_X7_hasOperator).desc).map (fun d => d.parameters.length) = some (mN md_X7_hasOperator - 1) := by decide +kernel
theorem in_X7_hasOperator : Jvm.Cond.instanceMethod (mY md_X7_hasOperator) ∈ WB := (wb_5 92 rfl rfl)
theorem se_X7_hasOperator : Jvm.Cond.selects (mY md_X7_hasOperator).cls (mY md_X7_hasOperator) (mY md_X7_hasOperator) ∈ WB := (wb_5 93 rfl rfl)
theorem ho_X7_hasOperator : HOK WB md_X7_hasOperator := fun _ h => absurd h List.not_mem_nil
theorem mo_X7_hasOperator : MOK WB md_X7_hasOperator := ⟨by decide, (wb_5 94 rfl rfl), (wb_1 2 rfl rfl), by decide +kernel, ⟨by decide +kernel, by decide +kernel⟩, rfl, (fun h => by cases h), by decide, ho_X7_hasOperator⟩
theorem tb_X17_term : TB[25]? = some (md_X17_term, tl_X17_term) := rfl
theorem pr_X17_term : (parseMethodDescriptor (mY md_X17_term).desc).map (fun d => d.parameters.length) = some (mN md_X17_term - 1) := by decide +kernel
theorem in_X17_term : Jvm.Cond.instanceMethod (mY md_X17_term) ∈ WB := (wb_10 150 rfl rfl)
theorem se_X17_term : Jvm.Cond.selects (mY md_X17_term).cls (mY md_X17_term) (mY md_X17_term) ∈ WB := (wb_10 151 rfl rfl)
theorem ho_X17_term : HOK WB md_X17_term := fun _ h => absurd h List.not_mem_nil
theorem mo_X17_term : MOK WB md_X17_term := ⟨by decide, (wb_10 152 rfl rfl), (wb_1 13 rfl rfl), by decide +kernel, ⟨by decide +kernel, by decide +kernel⟩, rfl, (fun h => by cases h), by decide, ho_X17_term⟩
theorem tb_X8_end : TB[26]? = some (md_X8_end, tl_X8_end) := rfl
theorem pr_X8_end : (parseMethodDescriptor (mY md_X8_end).desc).map (fun d => d.parameters.length) = some (mN md_X8_end - 1) := by decide +kernel
theorem in_X8_end : Jvm.Cond.instanceMethod (mY md_X8_end) ∈ WB := (wb_3 150 rfl rfl)
theorem se_X8_end : Jvm.Cond.selects (mY md_X8_end).cls (mY md_X8_end) (mY md_X8_end) ∈ WB := (wb_3 151 rfl rfl)
theorem ho_X8_end : HOK WB md_X8_end := fun _ h => absurd h List.not_mem_nil
theorem mo_X8_end : MOK WB md_X8_end := ⟨by decide, (wb_3 152 rfl rfl), (wb_1 4 rfl rfl), by decide +kernel, ⟨by decide +kernel, by decide +kernel⟩, rfl, (fun h => by cases h), by decide, ho_X8_end⟩
theorem tb_X10_load : TB[27]? = some (md_X10_load, tl_X10_load) := rfl
theorem pr_X10_load : (parseMethodDescriptor (mY md_X10_load).desc).map (fun d => d.parameters.length) = some (mN md_X10_load - 1) := by decide +kernel
theorem in_X10_load : Jvm.Cond.instanceMethod (mY md_X10_load) ∈ WB := (wb_5 158 rfl rfl)
theorem se_X10_load : Jvm.Cond.selects (mY md_X10_load).cls (mY md_X10_load) (mY md_X10_load) ∈ WB := (wb_5 159 rfl rfl)
theorem ho_X10_load : HOK WB md_X10_load := fun _ h => absurd h List.not_mem_nil
theorem mo_X10_load : MOK WB md_X10_load := ⟨by decide, (wb_5 160 rfl rfl), (wb_1 1 rfl rfl), by decide +kernel, ⟨by decide +kernel, by decide +kernel⟩, rfl, (fun h => by cases h), by decide, ho_X10_load⟩
theorem tb_X17_tell : TB[28]? = some (md_X17_tell, tl_X17_tell) := rfl
theorem pr_X17_tell : (parseMethodDescriptor (mY md_X17_tell).desc).map (fun d => d.parameters.length) = some (mN md_X17_tell - 1) := by decide +kernel
theorem in_X17_tell : Jvm.Cond.instanceMethod (mY md_X17_tell) ∈ WB := (wb_10 229 rfl rfl)
theorem se_X17_tell : Jvm.Cond.selects (mY md_X17_tell).cls (mY md_X17_tell) (mY md_X17_tell) ∈ WB := (wb_10 230 rfl rfl)
theorem ho_X17_tell : HOK WB md_X17_tell := fun _ h => absurd h List.not_mem_nil
theorem mo_X17_tell : MOK WB md_X17_tell := ⟨by decide, (wb_10 231 rfl rfl), (wb_1 13 rfl rfl), by decide +kernel, ⟨by decide +kernel, by decide +kernel⟩, rfl, (fun h => by cases h), by decide, ho_X17_tell⟩
theorem tb_Jx4a65c_grow_92f84 : TB[29]? = some (md_Jx4a65c_grow_92f84, tl_Jx4a65c_grow_92f84) := rfl
theorem pr_Jx4a65c_grow_92f84 : (parseMethodDescriptor (mY md_Jx4a65c_grow_92f84).desc).map (fun d => d.parameters.length) = some (mN md_Jx4a65c_grow_92f84 - 1) := by decide +kernel
theorem in_Jx4a65c_grow_92f84 : Jvm.Cond.instanceMethod (mY md_Jx4a65c_grow_92f84) ∈ WB := (wb_9 28 rfl rfl)
theorem se_Jx4a65c_grow_92f84 : Jvm.Cond.selects (mY md_Jx4a65c_grow_92f84).cls (mY md_Jx4a65c_grow_92f84) (mY md_Jx4a65c_grow_92f84) ∈ WB := (wb_0 74 rfl rfl)
theorem ho_Jx4a65c_grow_92f84 : HOK WB md_Jx4a65c_grow_92f84 := fun _ h => absurd h List.not_mem_nil
theorem mo_Jx4a65c_grow_92f84 : MOK WB md_Jx4a65c_grow_92f84 := ⟨by decide, (wb_9 29 rfl rfl), (wb_1 16 rfl rfl), by decide +kernel, ⟨by decide +kernel, by decide +kernel⟩, rfl, (fun h => by cases h), by decide, ho_Jx4a65c_grow_92f84⟩
theorem tb_Jx4a65c_size_8abf5 : TB[30]? = some (md_Jx4a65c_size_8abf5, tl_Jx4a65c_size_8abf5) := rfl
theorem pr_Jx4a65c_size_8abf5 : (parseMethodDescriptor (mY md_Jx4a65c_size_8abf5).desc).map (fun d => d.parameters.length) = some (mN md_Jx4a65c_size_8abf5 - 1) := by decide +kernel
theorem in_Jx4a65c_size_8abf5 : Jvm.Cond.instanceMethod (mY md_Jx4a65c_size_8abf5) ∈ WB := (wb_8 37 rfl rfl)
theorem ho_Jx4a65c_size_8abf5 : HOK WB md_Jx4a65c_size_8abf5 := fun _ h => absurd h List.not_mem_nil
theorem mo_Jx4a65c_size_8abf5 : MOK WB md_Jx4a65c_size_8abf5 := ⟨by decide, (wb_8 39 rfl rfl), (wb_1 16 rfl rfl), by decide +kernel, ⟨by decide +kernel, by decide +kernel⟩, rfl, (fun h => by cases h), by decide, ho_Jx4a65c_size_8abf5⟩
theorem tb_Jx4a65c_add_72be8 : TB[31]? = some (md_Jx4a65c_add_72be8, tl_Jx4a65c_add_72be8) := rfl
theorem pr_Jx4a65c_add_72be8 : (parseMethodDescriptor (mY md_Jx4a65c_add_72be8).desc).map (fun d => d.parameters.length) = some (mN md_Jx4a65c_add_72be8 - 1) := by decide +kernel
theorem in_Jx4a65c_add_72be8 : Jvm.Cond.instanceMethod (mY md_Jx4a65c_add_72be8) ∈ WB := (wb_9 20 rfl rfl)
theorem se_Jx4a65c_add_72be8 : Jvm.Cond.selects (mY md_Jx4a65c_add_72be8).cls (mY md_Jx4a65c_add_72be8) (mY md_Jx4a65c_add_72be8) ∈ WB := (wb_0 72 rfl rfl)
theorem ho_Jx4a65c_add_72be8 : HOK WB md_Jx4a65c_add_72be8 := fun _ h => absurd h List.not_mem_nil
theorem mo_Jx4a65c_add_72be8 : MOK WB md_Jx4a65c_add_72be8 := ⟨by decide, (wb_9 21 rfl rfl), (wb_1 16 rfl rfl), by decide +kernel, ⟨by decide +kernel, by decide +kernel⟩, rfl, (fun h => by cases h), by decide, ho_Jx4a65c_add_72be8⟩
theorem tb_L_load : TB[32]? = some (md_L_load, tl_L_load) := rfl
theorem pr_L_load : (parseMethodDescriptor (mY md_L_load).desc).map (fun d => d.parameters.length) = some (mN md_L_load) := by decide +kernel
theorem st_L_load : Jvm.Cond.static (mY md_L_load) ∈ WB := (wb_5 155 rfl rfl)
theorem ho_L_load : HOK WB md_L_load := List.forall_mem_cons.mpr ⟨fun _ => ⟨by decide, (wb_5 55 rfl rfl)⟩, List.forall_mem_cons.mpr ⟨fun _ => ⟨by decide, (wb_4 183 rfl rfl)⟩, fun _ h => absurd h List.not_mem_nil⟩⟩
theorem mo_L_load : MOK WB md_L_load := ⟨by decide, (wb_5 156 rfl rfl), (wb_1 0 rfl rfl), by decide +kernel, ⟨by decide +kernel, by decide +kernel⟩, rfl, (fun h => by cases h), by decide, ho_L_load⟩
theorem tb_Jx4a65c_add_9ea2d : TB[33]? = some (md_Jx4a65c_add_9ea2d, tl_Jx4a65c_add_9ea2d) := rfl
theorem pr_Jx4a65c_add_9ea2d : (parseMethodDescriptor (mY md_Jx4a65c_add_9ea2d).desc).map (fun d => d.parameters.length) = some (mN md_Jx4a65c_add_9ea2d - 1) := by decide +kernel
theorem in_Jx4a65c_add_9ea2d : Jvm.Cond.instanceMethod (mY md_Jx4a65c_add_9ea2d) ∈ WB := (wb_9 15 rfl rfl)
theorem ho_Jx4a65c_add_9ea2d : HOK WB md_Jx4a65c_add_9ea2d := fun _ h => absurd h List.not_mem_nil
theorem mo_Jx4a65c_add_9ea2d : MOK WB md_Jx4a65c_add_9ea2d := ⟨by decide, (wb_9 17 rfl rfl), (wb_1 16 rfl rfl), by decide +kernel, ⟨by decide +kernel, by decide +kernel⟩, rfl, (fun h => by cases h), by decide, ho_Jx4a65c_add_9ea2d⟩
theorem tb_X10_push : TB[34]? = some (md_X10_push, tl_X10_push) := rfl
theorem pr_X10_push : (parseMethodDescriptor (mY md_X10_push).desc).map (fun d => d.parameters.length) = some (mN md_X10_push - 1) := by decide +kernel
theorem in_X10_push : Jvm.Cond.instanceMethod (mY md_X10_push) ∈ WB := (wb_5 127 rfl rfl)
theorem se_X10_push : Jvm.Cond.selects (mY md_X10_push).cls (mY md_X10_push) (mY md_X10_push) ∈ WB := (wb_0 26 rfl rfl)
theorem ho_X10_push : HOK WB md_X10_push := fun _ h => absurd h List.not_mem_nil
theorem mo_X10_push : MOK WB md_X10_push := ⟨by decide, (wb_5 128 rfl rfl), (wb_1 1 rfl rfl), by decide +kernel, ⟨by decide +kernel, by decide +kernel⟩, rfl, (fun h => by cases h), by decide, ho_X10_push⟩
theorem tb_X7_addOperator : TB[35]? = some (md_X7_addOperator, tl_X7_addOperator) := rfl
theorem pr_X7_addOperator : (parseMethodDescriptor (mY md_X7_addOperator).desc).map (fun d => d.parameters.length) = some (mN md_X7_addOperator - 1) := by decide +kernel
theorem in_X7_addOperator : Jvm.Cond.instanceMethod (mY md_X7_addOperator) ∈ WB := (wb_5 101 rfl rfl)
theorem se_X7_addOperator : Jvm.Cond.selects (mY md_X7_addOperator).cls (mY md_X7_addOperator) (mY md_X7_addOperator) ∈ WB := (wb_5 102 rfl rfl)
theorem ho_X7_addOperator : HOK WB md_X7_addOperator := fun _ h => absurd h List.not_mem_nil
theorem mo_X7_addOperator : MOK WB md_X7_addOperator := ⟨by decide, (wb_5 103 rfl rfl), (wb_1 2 rfl rfl), by decide +kernel, ⟨by decide +kernel, by decide +kernel⟩, rfl, (fun h => by cases h), by decide, ho_X7_addOperator⟩
theorem tb_X8_store : TB[36]? = some (md_X8_store, tl_X8_store) := rfl
theorem pr_X8_store : (parseMethodDescriptor (mY md_X8_store).desc).map (fun d => d.parameters.length) = some (mN md_X8_store - 1) := by decide +kernel
theorem in_X8_store : Jvm.Cond.instanceMethod (mY md_X8_store) ∈ WB := (wb_4 173 rfl rfl)
theorem se_X8_store : Jvm.Cond.selects (mY md_X8_store).cls (mY md_X8_store) (mY md_X8_store) ∈ WB := (wb_4 174 rfl rfl)
theorem ho_X8_store : HOK WB md_X8_store := fun _ h => absurd h List.not_mem_nil
theorem mo_X8_store : MOK WB md_X8_store := ⟨by decide, (wb_4 175 rfl rfl), (wb_1 4 rfl rfl), by decide +kernel, ⟨by decide +kernel, by decide +kernel⟩, rfl, (fun h => by cases h), by decide, ho_X8_store⟩
theorem tb_X10_term : TB[37]? = some (md_X10_term, tl_X10_term) := rfl
theorem pr_X10_term : (parseMethodDescriptor (mY md_X10_term).desc).map (fun d => d.parameters.length) = some (mN md_X10_term - 1) := by decide +kernel
theorem in_X10_term : Jvm.Cond.instanceMethod (mY md_X10_term) ∈ WB := (wb_5 121 rfl rfl)
theorem se_X10_term : Jvm.Cond.selects (mY md_X10_term).cls (mY md_X10_term) (mY md_X10_term) ∈ WB := (wb_5 122 rfl rfl)
theorem ho_X10_term : HOK WB md_X10_term := fun _ h => absurd h List.not_mem_nil
theorem mo_X10_term : MOK WB md_X10_term := ⟨by decide, (wb_5 123 rfl rfl), (wb_1 1 rfl rfl), by decide +kernel, ⟨by decide +kernel, by decide +kernel⟩, rfl, (fun h => by cases h), by decide, ho_X10_term⟩
theorem tb_L_term : TB[38]? = some (md_L_term, tl_L_term) := rfl
theorem pr_L_term : (parseMethodDescriptor (mY md_L_term).desc).map (fun d => d.parameters.length) = some (mN md_L_term) := by decide +kernel
theorem st_L_term : Jvm.Cond.static (mY md_L_term) ∈ WB := (wb_5 118 rfl rfl)
theorem ho_L_term : HOK WB md_L_term := List.forall_mem_cons.mpr ⟨fun _ => ⟨by decide, (wb_5 55 rfl rfl)⟩, List.forall_mem_cons.mpr ⟨fun _ => ⟨by decide, (wb_4 183 rfl rfl)⟩, fun _ h => absurd h List.not_mem_nil⟩⟩
theorem mo_L_term : MOK WB md_L_term := ⟨by decide, (wb_5 119 rfl rfl), (wb_1 0 rfl rfl), by decide +kernel, ⟨by decide +kernel, by decide +kernel⟩, rfl, (fun h => by cases h), by decide, ho_L_term⟩
theorem tb_X10_isVariableNumber : TB[39]? = some (md_X10_isVariableNumber, tl_X10_isVariableNumber) := rfl
theorem pr_X10_isVariableNumber : (parseMethodDescriptor (mY md_X10_isVariableNumber).desc).map (fun d => d.parameters.length) = some (mN md_X10_isVariableNumber) := by decide +kernel
theorem st_X10_isVariableNumber : Jvm.Cond.static (mY md_X10_isVariableNumber) ∈ WB := (wb_5 61 rfl rfl)
theorem ho_X10_isVariableNumber : HOK WB md_X10_isVariableNumber := fun _ h => absurd h List.not_mem_nil
theorem mo_X10_isVariableNumber : MOK WB md_X10_isVariableNumber := ⟨by decide, (wb_5 62 rfl rfl), (wb_1 1 rfl rfl), by decide +kernel, ⟨by decide +kernel, by decide +kernel⟩, rfl, (fun h => by cases h), by decide, ho_X10_isVariableNumber⟩
theorem tb_X10_tell : TB[40]? = some (md_X10_tell, tl_X10_tell) := rfl
theorem pr_X10_tell : (parseMethodDescriptor (mY md_X10_tell).desc).map (fun d => d.parameters.length) = some (mN md_X10_tell - 1) := by decide +kernel
theorem in_X10_tell : Jvm.Cond.instanceMethod (mY md_X10_tell) ∈ WB := (wb_5 230 rfl rfl)
theorem se_X10_tell : Jvm.Cond.selects (mY md_X10_tell).cls (mY md_X10_tell) (mY md_X10_tell) ∈ WB := (wb_5 231 rfl rfl)
theorem ho_X10_tell : HOK WB md_X10_tell := fun _ h => absurd h List.not_mem_nil
theorem mo_X10_tell : MOK WB md_X10_tell := ⟨by decide, (wb_5 232 rfl rfl), (wb_1 1 rfl rfl), by decide +kernel, ⟨by decide +kernel, by decide +kernel⟩, rfl, (fun h => by cases h), by decide, ho_X10_tell⟩
theorem tb_L_tell : TB[41]? = some (md_L_tell, tl_L_tell) := rfl
theorem pr_L_tell : (parseMethodDescriptor (mY md_L_tell).desc).map (fun d => d.parameters.length) = some (mN md_L_tell) := by decide +kernel
theorem st_L_tell : Jvm.Cond.static (mY md_L_tell) ∈ WB := (wb_5 227 rfl rfl)
theorem ho_L_tell : HOK WB md_L_tell := List.forall_mem_cons.mpr ⟨fun _ => ⟨by decide, (wb_4 183 rfl rfl)⟩, fun _ h => absurd h List.not_mem_nil⟩
theorem mo_L_tell : MOK WB md_L_tell := ⟨by decide, (wb_5 228 rfl rfl), (wb_1 0 rfl rfl), by decide +kernel, ⟨by decide +kernel, by decide +kernel⟩, rfl, (fun h => by cases h), by decide, ho_L_tell⟩
theorem tb_Jx4a65c_grow_d5877 : TB[42]? = some (md_Jx4a65c_grow_d5877, tl_Jx4a65c_grow_d5877) := rfl
theorem pr_Jx4a65c_grow_d5877 : (parseMethodDescriptor (mY md_Jx4a65c_grow_d5877).desc).map (fun d => d.parameters.length) = some (mN md_Jx4a65c_grow_d5877 - 1) := by decide +kernel
theorem in_Jx4a65c_grow_d5877 : Jvm.Cond.instanceMethod (mY md_Jx4a65c_grow_d5877) ∈ WB := (wb_9 24 rfl rfl)
theorem se_Jx4a65c_grow_d5877 : Jvm.Cond.selects (mY md_Jx4a65c_grow_d5877).cls (mY md_Jx4a65c_grow_d5877) (mY md_Jx4a65c_grow_d5877) ∈ WB := (wb_0 73 rfl rfl)
theorem ho_Jx4a65c_grow_d5877 : HOK WB md_Jx4a65c_grow_d5877 := fun _ h => absurd h List.not_mem_nil
theorem mo_Jx4a65c_grow_d5877 : MOK WB md_Jx4a65c_grow_d5877 := ⟨by decide, (wb_9 25 rfl rfl), (wb_1 16 rfl rfl), by decide +kernel, ⟨by decide +kernel, by decide +kernel⟩, rfl, (fun h => by cases h), by decide, ho_Jx4a65c_grow_d5877⟩
theorem tb_Jx4a65c_isEmpty_aae02 : TB[43]? = some (md_Jx4a65c_isEmpty_aae02, tl_Jx4a65c_isEmpty_aae02) := rfl
theorem pr_Jx4a65c_isEmpty_aae02 : (parseMethodDescriptor (mY md_Jx4a65c_isEmpty_aae02).desc).map (fun d => d.parameters.length) = some (mN md_Jx4a65c_isEmpty_aae02 - 1) := by decide +kernel
theorem in_Jx4a65c_isEmpty_aae02 : Jvm.Cond.instanceMethod (mY md_Jx4a65c_isEmpty_aae02) ∈ WB := (wb_8 15 rfl rfl)
theorem ho_Jx4a65c_isEmpty_aae02 : HOK WB md_Jx4a65c_isEmpty_aae02 := fun _ h => absurd h List.not_mem_nil
theorem mo_Jx4a65c_isEmpty_aae02 : MOK WB md_Jx4a65c_isEmpty_aae02 := ⟨by decide, (wb_8 17 rfl rfl), (wb_1 16 rfl rfl), by decide +kernel, ⟨by decide +kernel, by decide +kernel⟩, rfl, (fun h => by cases h), by decide, ho_Jx4a65c_isEmpty_aae02⟩
theorem tb_X8_startAnew : TB[44]? = some (md_X8_startAnew, tl_X8_startAnew) := rfl
theorem pr_X8_startAnew : (parseMethodDescriptor (mY md_X8_startAnew).desc).map (fun d => d.parameters.length) = some (mN md_X8_startAnew - 1) := by decide +kernel
theorem in_X8_startAnew : Jvm.Cond.instanceMethod (mY md_X8_startAnew) ∈ WB := (wb_3 129 rfl rfl)
theorem se_X8_startAnew : Jvm.Cond.selects (mY md_X8_startAnew).cls (mY md_X8_startAnew) (mY md_X8_startAnew) ∈ WB := (wb_3 130 rfl rfl)
theorem ho_X8_startAnew : HOK WB md_X8_startAnew := fun _ h => absurd h List.not_mem_nil
theorem mo_X8_startAnew : MOK WB md_X8_startAnew := ⟨by decide, (wb_3 131 rfl rfl), (wb_1 4 rfl rfl), by decide +kernel, ⟨by decide +kernel, by decide +kernel⟩, rfl, (fun h => by cases h), by decide, ho_X8_startAnew⟩
theorem tb_X10_stackAt : TB[45]? = some (md_X10_stackAt, tl_X10_stackAt) := rfl
theorem pr_X10_stackAt : (parseMethodDescriptor (mY md_X10_stackAt).desc).map (fun d => d.parameters.length) = some (mN md_X10_stackAt) := by decide +kernel
theorem st_X10_stackAt : Jvm.Cond.static (mY md_X10_stackAt) ∈ WB := (wb_5 130 rfl rfl)
theorem ho_X10_stackAt : HOK WB md_X10_stackAt := fun _ h => absurd h List.not_mem_nil
theorem mo_X10_stackAt : MOK WB md_X10_stackAt := ⟨by decide, (wb_5 131 rfl rfl), (wb_1 1 rfl rfl), by decide +kernel, ⟨by decide +kernel, by decide +kernel⟩, rfl, (fun h => by cases h), by decide, ho_X10_stackAt⟩
theorem tb_X17_declare : TB[46]? = some (md_X17_declare, tl_X17_declare) := rfl
theorem pr_X17_declare : (parseMethodDescriptor (mY md_X17_declare).desc).map (fun d => d.parameters.length) = some (mN md_X17_declare - 1) := by decide +kernel
theorem in_X17_declare : Jvm.Cond.instanceMethod (mY md_X17_declare) ∈ WB := (wb_10 146 rfl rfl)
theorem se_X17_declare : Jvm.Cond.selects (mY md_X17_declare).cls (mY md_X17_declare) (mY md_X17_declare) ∈ WB := (wb_10 147 rfl rfl)
theorem ho_X17_declare : HOK WB md_X17_declare := fun _ h => absurd h List.not_mem_nil
theorem mo_X17_declare : MOK WB md_X17_declare := ⟨by decide, (wb_10 148 rfl rfl), (wb_1 13 rfl rfl), by decide +kernel, ⟨by decide +kernel, by decide +kernel⟩, rfl, (fun h => by cases h), by decide, ho_X17_declare⟩
theorem tb_X10_complete : TB[47]? = some (md_X10_complete, tl_X10_complete) := rfl
theorem pr_X10_complete : (parseMethodDescriptor (mY md_X10_complete).desc).map (fun d => d.parameters.length) = some (mN md_X10_complete - 1) := by decide +kernel
theorem in_X10_complete : Jvm.Cond.instanceMethod (mY md_X10_complete) ∈ WB := (wb_3 203 rfl rfl)
theorem se_X10_complete : Jvm.Cond.selects (mY md_X10_complete).cls (mY md_X10_complete) (mY md_X10_complete) ∈ WB := (wb_3 204 rfl rfl)
theorem ho_X10_complete : HOK WB md_X10_complete := fun _ h => absurd h List.not_mem_nil
theorem mo_X10_complete : MOK WB md_X10_complete := ⟨by decide, (wb_3 205 rfl rfl), (wb_1 1 rfl rfl), by decide +kernel, ⟨by decide +kernel, by decide +kernel⟩, rfl, (fun h => by cases h), by decide, ho_X10_complete⟩
theorem tb_X17_both : TB[48]? = some (md_X17_both, tl_X17_both) := rfl
theorem pr_X17_both : (parseMethodDescriptor (mY md_X17_both).desc).map (fun d => d.parameters.length) = some (mN md_X17_both - 1) := by decide +kernel
theorem in_X17_both : Jvm.Cond.instanceMethod (mY md_X17_both) ∈ WB := (wb_9 182 rfl rfl)
theorem se_X17_both : Jvm.Cond.selects (mY md_X17_both).cls (mY md_X17_both) (mY md_X17_both) ∈ WB := (wb_9 183 rfl rfl)
theorem ho_X17_both : HOK WB md_X17_both := fun _ h => absurd h List.not_mem_nil
theorem mo_X17_both : MOK WB md_X17_both := ⟨by decide, (wb_9 184 rfl rfl), (wb_1 13 rfl rfl), by decide +kernel, ⟨by decide +kernel, by decide +kernel⟩, rfl, (fun h => by cases h), by decide, ho_X17_both⟩
theorem tb_X17_holds : TB[49]? = some (md_X17_holds, tl_X17_holds) := rfl
theorem pr_X17_holds : (parseMethodDescriptor (mY md_X17_holds).desc).map (fun d => d.parameters.length) = some (mN md_X17_holds - 1) := by decide +kernel
theorem in_X17_holds : Jvm.Cond.instanceMethod (mY md_X17_holds) ∈ WB := (wb_9 127 rfl rfl)
theorem se_X17_holds : Jvm.Cond.selects (mY md_X17_holds).cls (mY md_X17_holds) (mY md_X17_holds) ∈ WB := (wb_9 128 rfl rfl)
theorem ho_X17_holds : HOK WB md_X17_holds := fun _ h => absurd h List.not_mem_nil
theorem mo_X17_holds : MOK WB md_X17_holds := ⟨by decide, (wb_9 129 rfl rfl), (wb_1 13 rfl rfl), by decide +kernel, ⟨by decide +kernel, by decide +kernel⟩, rfl, (fun h => by cases h), by decide, ho_X17_holds⟩
theorem tb_X17_keep : TB[50]? = some (md_X17_keep, tl_X17_keep) := rfl
theorem pr_X17_keep : (parseMethodDescriptor (mY md_X17_keep).desc).map (fun d => d.parameters.length) = some (mN md_X17_keep - 1) := by decide +kernel
theorem in_X17_keep : Jvm.Cond.instanceMethod (mY md_X17_keep) ∈ WB := (wb_10 158 rfl rfl)
theorem se_X17_keep : Jvm.Cond.selects (mY md_X17_keep).cls (mY md_X17_keep) (mY md_X17_keep) ∈ WB := (wb_10 159 rfl rfl)
theorem ho_X17_keep : HOK WB md_X17_keep := fun _ h => absurd h List.not_mem_nil
theorem mo_X17_keep : MOK WB md_X17_keep := ⟨by decide, (wb_10 160 rfl rfl), (wb_1 13 rfl rfl), by decide +kernel, ⟨by decide +kernel, by decide +kernel⟩, rfl, (fun h => by cases h), by decide, ho_X17_keep⟩
theorem tb_X17_weight : TB[51]? = some (md_X17_weight, tl_X17_weight) := rfl
theorem pr_X17_weight : (parseMethodDescriptor (mY md_X17_weight).desc).map (fun d => d.parameters.length) = some (mN md_X17_weight - 1) := by decide +kernel
theorem in_X17_weight : Jvm.Cond.instanceMethod (mY md_X17_weight) ∈ WB := (wb_10 28 rfl rfl)
theorem se_X17_weight : Jvm.Cond.selects (mY md_X17_weight).cls (mY md_X17_weight) (mY md_X17_weight) ∈ WB := (wb_10 29 rfl rfl)
theorem ho_X17_weight : HOK WB md_X17_weight := fun _ h => absurd h List.not_mem_nil
theorem mo_X17_weight : MOK WB md_X17_weight := ⟨by decide, (wb_10 30 rfl rfl), (wb_1 13 rfl rfl), by decide +kernel, ⟨by decide +kernel, by decide +kernel⟩, rfl, (fun h => by cases h), by decide, ho_X17_weight⟩
theorem tb_X17_complete : TB[52]? = some (md_X17_complete, tl_X17_complete) := rfl
theorem pr_X17_complete : (parseMethodDescriptor (mY md_X17_complete).desc).map (fun d => d.parameters.length) = some (mN md_X17_complete - 1) := by decide +kernel
theorem in_X17_complete : Jvm.Cond.instanceMethod (mY md_X17_complete) ∈ WB := (wb_10 48 rfl rfl)
theorem se_X17_complete : Jvm.Cond.selects (mY md_X17_complete).cls (mY md_X17_complete) (mY md_X17_complete) ∈ WB := (wb_10 49 rfl rfl)
theorem ho_X17_complete : HOK WB md_X17_complete := List.forall_mem_cons.mpr ⟨fun h => absurd h (by decide), fun _ h => absurd h List.not_mem_nil⟩
theorem mo_X17_complete : MOK WB md_X17_complete := ⟨by decide, (wb_10 50 rfl rfl), (wb_1 13 rfl rfl), by decide +kernel, ⟨by decide +kernel, by decide +kernel⟩, rfl, (fun h => by cases h), by decide, ho_X17_complete⟩
theorem tb_X17_view : TB[53]? = some (md_X17_view, tl_X17_view) := rfl
theorem pr_X17_view : (parseMethodDescriptor (mY md_X17_view).desc).map (fun d => d.parameters.length) = some (mN md_X17_view - 1) := by decide +kernel
theorem in_X17_view : Jvm.Cond.instanceMethod (mY md_X17_view) ∈ WB := (wb_10 91 rfl rfl)
theorem se_X17_view : Jvm.Cond.selects (mY md_X17_view).cls (mY md_X17_view) (mY md_X17_view) ∈ WB := (wb_10 92 rfl rfl)
theorem ho_X17_view : HOK WB md_X17_view := fun _ h => absurd h List.not_mem_nil
theorem mo_X17_view : MOK WB md_X17_view := ⟨by decide, (wb_10 93 rfl rfl), (wb_1 13 rfl rfl), by decide +kernel, ⟨by decide +kernel, by decide +kernel⟩, rfl, (fun h => by cases h), by decide, ho_X17_view⟩
theorem tb_X17_use : TB[54]? = some (md_X17_use, tl_X17_use) := rfl
theorem pr_X17_use : (parseMethodDescriptor (mY md_X17_use).desc).map (fun d => d.parameters.length) = some (mN md_X17_use - 1) := by decide +kernel
theorem in_X17_use : Jvm.Cond.instanceMethod (mY md_X17_use) ∈ WB := (wb_9 135 rfl rfl)
theorem se_X17_use : Jvm.Cond.selects (mY md_X17_use).cls (mY md_X17_use) (mY md_X17_use) ∈ WB := (wb_9 136 rfl rfl)
theorem ho_X17_use : HOK WB md_X17_use := fun _ h => absurd h List.not_mem_nil
theorem mo_X17_use : MOK WB md_X17_use := ⟨by decide, (wb_9 137 rfl rfl), (wb_1 13 rfl rfl), by decide +kernel, ⟨by decide +kernel, by decide +kernel⟩, rfl, (fun h => by cases h), by decide, ho_X17_use⟩
theorem tb_X17_joins : TB[55]? = some (md_X17_joins, tl_X17_joins) := rfl
theorem pr_X17_joins : (parseMethodDescriptor (mY md_X17_joins).desc).map (fun d => d.parameters.length) = some (mN md_X17_joins - 1) := by decide +kernel
theorem in_X17_joins : Jvm.Cond.instanceMethod (mY md_X17_joins) ∈ WB := (wb_10 20 rfl rfl)
theorem se_X17_joins : Jvm.Cond.selects (mY md_X17_joins).cls (mY md_X17_joins) (mY md_X17_joins) ∈ WB := (wb_10 21 rfl rfl)
theorem ho_X17_joins : HOK WB md_X17_joins := List.forall_mem_cons.mpr ⟨fun h => absurd h (by decide), fun _ h => absurd h List.not_mem_nil⟩
theorem mo_X17_joins : MOK WB md_X17_joins := ⟨by decide, (wb_10 22 rfl rfl), (wb_1 13 rfl rfl), by decide +kernel, ⟨by decide +kernel, by decide +kernel⟩, rfl, (fun h => by cases h), by decide, ho_X17_joins⟩
theorem tb_X17_state : TB[56]? = some (md_X17_state, tl_X17_state) := rfl
theorem pr_X17_state : (parseMethodDescriptor (mY md_X17_state).desc).map (fun d => d.parameters.length) = some (mN md_X17_state - 1) := by decide +kernel
theorem in_X17_state : Jvm.Cond.instanceMethod (mY md_X17_state) ∈ WB := (wb_9 101 rfl rfl)
theorem se_X17_state : Jvm.Cond.selects (mY md_X17_state).cls (mY md_X17_state) (mY md_X17_state) ∈ WB := (wb_9 102 rfl rfl)
theorem ho_X17_state : HOK WB md_X17_state := fun _ h => absurd h List.not_mem_nil
theorem mo_X17_state : MOK WB md_X17_state := ⟨by decide, (wb_9 103 rfl rfl), (wb_1 13 rfl rfl), by decide +kernel, ⟨by decide +kernel, by decide +kernel⟩, rfl, (fun h => by cases h), by decide, ho_X17_state⟩
theorem tb_X17_cameBy : TB[57]? = some (md_X17_cameBy, tl_X17_cameBy) := rfl
theorem pr_X17_cameBy : (parseMethodDescriptor (mY md_X17_cameBy).desc).map (fun d => d.parameters.length) = some (mN md_X17_cameBy - 1) := by decide +kernel
theorem in_X17_cameBy : Jvm.Cond.instanceMethod (mY md_X17_cameBy) ∈ WB := (wb_9 108 rfl rfl)
theorem se_X17_cameBy : Jvm.Cond.selects (mY md_X17_cameBy).cls (mY md_X17_cameBy) (mY md_X17_cameBy) ∈ WB := (wb_9 109 rfl rfl)
theorem ho_X17_cameBy : HOK WB md_X17_cameBy := fun _ h => absurd h List.not_mem_nil
theorem mo_X17_cameBy : MOK WB md_X17_cameBy := ⟨by decide, (wb_9 110 rfl rfl), (wb_1 13 rfl rfl), by decide +kernel, ⟨by decide +kernel, by decide +kernel⟩, rfl, (fun h => by cases h), by decide, ho_X17_cameBy⟩
theorem tb_X17_allPairs : TB[58]? = some (md_X17_allPairs, tl_X17_allPairs) := rfl
theorem pr_X17_allPairs : (parseMethodDescriptor (mY md_X17_allPairs).desc).map (fun d => d.parameters.length) = some (mN md_X17_allPairs - 1) := by decide +kernel
theorem in_X17_allPairs : Jvm.Cond.instanceMethod (mY md_X17_allPairs) ∈ WB := (wb_9 211 rfl rfl)
theorem se_X17_allPairs : Jvm.Cond.selects (mY md_X17_allPairs).cls (mY md_X17_allPairs) (mY md_X17_allPairs) ∈ WB := (wb_0 86 rfl rfl)
theorem ho_X17_allPairs : HOK WB md_X17_allPairs := fun _ h => absurd h List.not_mem_nil
theorem mo_X17_allPairs : MOK WB md_X17_allPairs := ⟨by decide, (wb_9 212 rfl rfl), (wb_1 13 rfl rfl), by decide +kernel, ⟨by decide +kernel, by decide +kernel⟩, rfl, (fun h => by cases h), by decide, ho_X17_allPairs⟩
theorem tb_X17_copy : TB[59]? = some (md_X17_copy, tl_X17_copy) := rfl
theorem pr_X17_copy : (parseMethodDescriptor (mY md_X17_copy).desc).map (fun d => d.parameters.length) = some (mN md_X17_copy - 1) := by decide +kernel
theorem in_X17_copy : Jvm.Cond.instanceMethod (mY md_X17_copy) ∈ WB := (wb_10 95 rfl rfl)
theorem se_X17_copy : Jvm.Cond.selects (mY md_X17_copy).cls (mY md_X17_copy) (mY md_X17_copy) ∈ WB := (wb_10 96 rfl rfl)
theorem ho_X17_copy : HOK WB md_X17_copy := List.forall_mem_cons.mpr ⟨fun h => absurd h (by decide), fun _ h => absurd h List.not_mem_nil⟩
theorem mo_X17_copy : MOK WB md_X17_copy := ⟨by decide, (wb_10 97 rfl rfl), (wb_1 13 rfl rfl), by decide +kernel, ⟨by decide +kernel, by decide +kernel⟩, rfl, (fun h => by cases h), by decide, ho_X17_copy⟩
theorem tb_X17_descends : TB[60]? = some (md_X17_descends, tl_X17_descends) := rfl
theorem pr_X17_descends : (parseMethodDescriptor (mY md_X17_descends).desc).map (fun d => d.parameters.length) = some (mN md_X17_descends - 1) := by decide +kernel
theorem in_X17_descends : Jvm.Cond.instanceMethod (mY md_X17_descends) ∈ WB := (wb_10 32 rfl rfl)
theorem se_X17_descends : Jvm.Cond.selects (mY md_X17_descends).cls (mY md_X17_descends) (mY md_X17_descends) ∈ WB := (wb_10 33 rfl rfl)
theorem ho_X17_descends : HOK WB md_X17_descends := fun _ h => absurd h List.not_mem_nil
theorem mo_X17_descends : MOK WB md_X17_descends := ⟨by decide, (wb_10 34 rfl rfl), (wb_1 13 rfl rfl), by decide +kernel, ⟨by decide +kernel, by decide +kernel⟩, rfl, (fun h => by cases h), by decide, ho_X17_descends⟩
theorem tb_X17_isSort : TB[61]? = some (md_X17_isSort, tl_X17_isSort) := rfl
theorem pr_X17_isSort : (parseMethodDescriptor (mY md_X17_isSort).desc).map (fun d => d.parameters.length) = some (mN md_X17_isSort - 1) := by decide +kernel
theorem in_X17_isSort : Jvm.Cond.instanceMethod (mY md_X17_isSort) ∈ WB := (wb_10 131 rfl rfl)
theorem se_X17_isSort : Jvm.Cond.selects (mY md_X17_isSort).cls (mY md_X17_isSort) (mY md_X17_isSort) ∈ WB := (wb_0 101 rfl rfl)
theorem ho_X17_isSort : HOK WB md_X17_isSort := fun _ h => absurd h List.not_mem_nil
theorem mo_X17_isSort : MOK WB md_X17_isSort := ⟨by decide, (wb_10 132 rfl rfl), (wb_1 13 rfl rfl), by decide +kernel, ⟨by decide +kernel, by decide +kernel⟩, rfl, (fun h => by cases h), by decide, ho_X17_isSort⟩
theorem tb_X17_apply : TB[62]? = some (md_X17_apply, tl_X17_apply) := rfl
theorem pr_X17_apply : (parseMethodDescriptor (mY md_X17_apply).desc).map (fun d => d.parameters.length) = some (mN md_X17_apply - 1) := by decide +kernel
theorem in_X17_apply : Jvm.Cond.instanceMethod (mY md_X17_apply) ∈ WB := (wb_10 154 rfl rfl)
theorem se_X17_apply : Jvm.Cond.selects (mY md_X17_apply).cls (mY md_X17_apply) (mY md_X17_apply) ∈ WB := (wb_10 155 rfl rfl)
theorem ho_X17_apply : HOK WB md_X17_apply := List.forall_mem_cons.mpr ⟨fun h => absurd h (by decide), fun _ h => absurd h List.not_mem_nil⟩
theorem mo_X17_apply : MOK WB md_X17_apply := ⟨by decide, (wb_10 156 rfl rfl), (wb_1 13 rfl rfl), by decide +kernel, ⟨by decide +kernel, by decide +kernel⟩, rfl, (fun h => by cases h), by decide, ho_X17_apply⟩
theorem tb_X14_init : TB[63]? = some (md_X14_init, tl_X14_init) := rfl
theorem pr_X14_init : (parseMethodDescriptor (mY md_X14_init).desc).map (fun d => d.parameters.length) = some (mN md_X14_init - 1) := by decide +kernel
theorem in_X14_init : Jvm.Cond.instanceMethod (mY md_X14_init) ∈ WB := (wb_9 141 rfl rfl)
theorem ho_X14_init : HOK WB md_X14_init := fun _ h => absurd h List.not_mem_nil
theorem mo_X14_init : MOK WB md_X14_init := ⟨by decide, (wb_9 142 rfl rfl), (wb_1 33 rfl rfl), by decide +kernel, ⟨by decide +kernel, by decide +kernel⟩, rfl, (fun _ => rfl), by decide, ho_X14_init⟩
theorem tb_X0_bringUpToDate : TB[64]? = some (md_X0_bringUpToDate, tl_X0_bringUpToDate) := rfl
theorem pr_X0_bringUpToDate : (parseMethodDescriptor (mY md_X0_bringUpToDate).desc).map (fun d => d.parameters.length) = some (mN md_X0_bringUpToDate - 1) := by decide +kernel
theorem in_X0_bringUpToDate : Jvm.Cond.instanceMethod (mY md_X0_bringUpToDate) ∈ WB := (wb_3 138 rfl rfl)
theorem se_X0_bringUpToDate : Jvm.Cond.selects (mY md_X0_bringUpToDate).cls (mY md_X0_bringUpToDate) (mY md_X0_bringUpToDate) ∈ WB := (wb_3 139 rfl rfl)
theorem ho_X0_bringUpToDate : HOK WB md_X0_bringUpToDate := fun _ h => absurd h List.not_mem_nil
theorem mo_X0_bringUpToDate : MOK WB md_X0_bringUpToDate := ⟨by decide, (wb_3 140 rfl rfl), (wb_1 12 rfl rfl), by decide +kernel, ⟨by decide +kernel, by decide +kernel⟩, rfl, (fun h => by cases h), by decide, ho_X0_bringUpToDate⟩
theorem tb_X17_below : TB[65]? = some (md_X17_below, tl_X17_below) := rfl
theorem pr_X17_below : (parseMethodDescriptor (mY md_X17_below).desc).map (fun d => d.parameters.length) = some (mN md_X17_below - 1) := by decide +kernel
theorem in_X17_below : Jvm.Cond.instanceMethod (mY md_X17_below) ∈ WB := (wb_10 126 rfl rfl)
theorem se_X17_below : Jvm.Cond.selects (mY md_X17_below).cls (mY md_X17_below) (mY md_X17_below) ∈ WB := (wb_10 127 rfl rfl)
theorem ho_X17_below : HOK WB md_X17_below := fun _ h => absurd h List.not_mem_nil
theorem mo_X17_below : MOK WB md_X17_below := ⟨by decide, (wb_10 128 rfl rfl), (wb_1 13 rfl rfl), by decide +kernel, ⟨by decide +kernel, by decide +kernel⟩, rfl, (fun h => by cases h), by decide, ho_X17_below⟩
theorem tb_X17_variable : TB[66]? = some (md_X17_variable, tl_X17_variable) := rfl
theorem pr_X17_variable : (parseMethodDescriptor (mY md_X17_variable).desc).map (fun d => d.parameters.length) = some (mN md_X17_variable - 1) := by decide +kernel
theorem in_X17_variable : Jvm.Cond.instanceMethod (mY md_X17_variable) ∈ WB := (wb_10 134 rfl rfl)
theorem se_X17_variable : Jvm.Cond.selects (mY md_X17_variable).cls (mY md_X17_variable) (mY md_X17_variable) ∈ WB := (wb_10 135 rfl rfl)
theorem ho_X17_variable : HOK WB md_X17_variable := fun _ h => absurd h List.not_mem_nil
theorem mo_X17_variable : MOK WB md_X17_variable := ⟨by decide, (wb_10 136 rfl rfl), (wb_1 13 rfl rfl), by decide +kernel, ⟨by decide +kernel, by decide +kernel⟩, rfl, (fun h => by cases h), by decide, ho_X17_variable⟩
theorem tb_X7_hasSort : TB[67]? = some (md_X7_hasSort, tl_X7_hasSort) := rfl
theorem pr_X7_hasSort : (parseMethodDescriptor (mY md_X7_hasSort).desc).map (fun d => d.parameters.length) = some (mN md_X7_hasSort - 1) := by decide +kernel
theorem in_X7_hasSort : Jvm.Cond.instanceMethod (mY md_X7_hasSort) ∈ WB := (wb_5 26 rfl rfl)
theorem se_X7_hasSort : Jvm.Cond.selects (mY md_X7_hasSort).cls (mY md_X7_hasSort) (mY md_X7_hasSort) ∈ WB := (wb_5 27 rfl rfl)
theorem ho_X7_hasSort : HOK WB md_X7_hasSort := fun _ h => absurd h List.not_mem_nil
theorem mo_X7_hasSort : MOK WB md_X7_hasSort := ⟨by decide, (wb_5 28 rfl rfl), (wb_1 2 rfl rfl), by decide +kernel, ⟨by decide +kernel, by decide +kernel⟩, rfl, (fun h => by cases h), by decide, ho_X7_hasSort⟩
theorem tb_X17_sort : TB[68]? = some (md_X17_sort, tl_X17_sort) := rfl
theorem pr_X17_sort : (parseMethodDescriptor (mY md_X17_sort).desc).map (fun d => d.parameters.length) = some (mN md_X17_sort - 1) := by decide +kernel
theorem in_X17_sort : Jvm.Cond.instanceMethod (mY md_X17_sort) ∈ WB := (wb_10 122 rfl rfl)
theorem se_X17_sort : Jvm.Cond.selects (mY md_X17_sort).cls (mY md_X17_sort) (mY md_X17_sort) ∈ WB := (wb_10 123 rfl rfl)
theorem ho_X17_sort : HOK WB md_X17_sort := fun _ h => absurd h List.not_mem_nil
theorem mo_X17_sort : MOK WB md_X17_sort := ⟨by decide, (wb_10 124 rfl rfl), (wb_1 13 rfl rfl), by decide +kernel, ⟨by decide +kernel, by decide +kernel⟩, rfl, (fun h => by cases h), by decide, ho_X17_sort⟩
theorem tb_L_declare : TB[69]? = some (md_L_declare, tl_L_declare) := rfl
theorem pr_L_declare : (parseMethodDescriptor (mY md_L_declare).desc).map (fun d => d.parameters.length) = some (mN md_L_declare) := by decide +kernel
theorem st_L_declare : Jvm.Cond.static (mY md_L_declare) ∈ WB := (wb_5 105 rfl rfl)
theorem ho_L_declare : HOK WB md_L_declare := List.forall_mem_cons.mpr ⟨fun _ => ⟨by decide, (wb_5 20 rfl rfl)⟩, List.forall_mem_cons.mpr ⟨fun _ => ⟨by decide, (wb_4 183 rfl rfl)⟩, fun _ h => absurd h List.not_mem_nil⟩⟩
theorem mo_L_declare : MOK WB md_L_declare := ⟨by decide, (wb_5 106 rfl rfl), (wb_1 0 rfl rfl), by decide +kernel, ⟨by decide +kernel, by decide +kernel⟩, rfl, (fun h => by cases h), by decide, ho_L_declare⟩
theorem tb_L_keep : TB[70]? = some (md_L_keep, tl_L_keep) := rfl
theorem pr_L_keep : (parseMethodDescriptor (mY md_L_keep).desc).map (fun d => d.parameters.length) = some (mN md_L_keep) := by decide +kernel
theorem st_L_keep : Jvm.Cond.static (mY md_L_keep) ∈ WB := (wb_5 146 rfl rfl)
theorem ho_L_keep : HOK WB md_L_keep := List.forall_mem_cons.mpr ⟨fun _ => ⟨by decide, (wb_5 55 rfl rfl)⟩, List.forall_mem_cons.mpr ⟨fun _ => ⟨by decide, (wb_4 183 rfl rfl)⟩, fun _ h => absurd h List.not_mem_nil⟩⟩
theorem mo_L_keep : MOK WB md_L_keep := ⟨by decide, (wb_5 147 rfl rfl), (wb_1 0 rfl rfl), by decide +kernel, ⟨by decide +kernel, by decide +kernel⟩, rfl, (fun h => by cases h), by decide, ho_L_keep⟩
theorem tb_L_holds : TB[71]? = some (md_L_holds, tl_L_holds) := rfl
theorem pr_L_holds : (parseMethodDescriptor (mY md_L_holds).desc).map (fun d => d.parameters.length) = some (mN md_L_holds) := by decide +kernel
theorem st_L_holds : Jvm.Cond.static (mY md_L_holds) ∈ WB := (wb_6 108 rfl rfl)
theorem ho_L_holds : HOK WB md_L_holds := List.forall_mem_cons.mpr ⟨fun _ => ⟨by decide, (wb_5 55 rfl rfl)⟩, List.forall_mem_cons.mpr ⟨fun _ => ⟨by decide, (wb_4 183 rfl rfl)⟩, fun _ h => absurd h List.not_mem_nil⟩⟩
theorem mo_L_holds : MOK WB md_L_holds := ⟨by decide, (wb_6 109 rfl rfl), (wb_1 0 rfl rfl), by decide +kernel, ⟨by decide +kernel, by decide +kernel⟩, rfl, (fun h => by cases h), by decide, ho_L_holds⟩
theorem tb_L_both : TB[72]? = some (md_L_both, tl_L_both) := rfl
theorem pr_L_both : (parseMethodDescriptor (mY md_L_both).desc).map (fun d => d.parameters.length) = some (mN md_L_both) := by decide +kernel
theorem st_L_both : Jvm.Cond.static (mY md_L_both) ∈ WB := (wb_6 160 rfl rfl)
theorem ho_L_both : HOK WB md_L_both := List.forall_mem_cons.mpr ⟨fun _ => ⟨by decide, (wb_4 183 rfl rfl)⟩, fun _ h => absurd h List.not_mem_nil⟩
theorem mo_L_both : MOK WB md_L_both := ⟨by decide, (wb_6 161 rfl rfl), (wb_1 0 rfl rfl), by decide +kernel, ⟨by decide +kernel, by decide +kernel⟩, rfl, (fun h => by cases h), by decide, ho_L_both⟩
theorem tb_X10_joins : TB[73]? = some (md_X10_joins, tl_X10_joins) := rfl
theorem pr_X10_joins : (parseMethodDescriptor (mY md_X10_joins).desc).map (fun d => d.parameters.length) = some (mN md_X10_joins - 1) := by decide +kernel
theorem in_X10_joins : Jvm.Cond.instanceMethod (mY md_X10_joins) ∈ WB := (wb_6 235 rfl rfl)
theorem se_X10_joins : Jvm.Cond.selects (mY md_X10_joins).cls (mY md_X10_joins) (mY md_X10_joins) ∈ WB := (wb_6 236 rfl rfl)
theorem ho_X10_joins : HOK WB md_X10_joins := fun _ h => absurd h List.not_mem_nil
theorem mo_X10_joins : MOK WB md_X10_joins := ⟨by decide, (wb_6 237 rfl rfl), (wb_1 1 rfl rfl), by decide +kernel, ⟨by decide +kernel, by decide +kernel⟩, rfl, (fun h => by cases h), by decide, ho_X10_joins⟩
theorem tb_X17_idle : TB[74]? = some (md_X17_idle, tl_X17_idle) := rfl
theorem pr_X17_idle : (parseMethodDescriptor (mY md_X17_idle).desc).map (fun d => d.parameters.length) = some (mN md_X17_idle - 1) := by decide +kernel
theorem in_X17_idle : Jvm.Cond.instanceMethod (mY md_X17_idle) ∈ WB := (wb_9 174 rfl rfl)
theorem se_X17_idle : Jvm.Cond.selects (mY md_X17_idle).cls (mY md_X17_idle) (mY md_X17_idle) ∈ WB := (wb_9 175 rfl rfl)
theorem ho_X17_idle : HOK WB md_X17_idle := fun _ h => absurd h List.not_mem_nil
theorem mo_X17_idle : MOK WB md_X17_idle := ⟨by decide, (wb_9 176 rfl rfl), (wb_1 13 rfl rfl), by decide +kernel, ⟨by decide +kernel, by decide +kernel⟩, rfl, (fun h => by cases h), by decide, ho_X17_idle⟩
theorem tb_X5_addOne : TB[75]? = some (md_X5_addOne, tl_X5_addOne) := rfl
theorem pr_X5_addOne : (parseMethodDescriptor (mY md_X5_addOne).desc).map (fun d => d.parameters.length) = some (mN md_X5_addOne - 1) := by decide +kernel
theorem in_X5_addOne : Jvm.Cond.instanceMethod (mY md_X5_addOne) ∈ WB := (wb_6 130 rfl rfl)
theorem se_X5_addOne : Jvm.Cond.selects (mY md_X5_addOne).cls (mY md_X5_addOne) (mY md_X5_addOne) ∈ WB := (wb_6 131 rfl rfl)
theorem ho_X5_addOne : HOK WB md_X5_addOne := fun _ h => absurd h List.not_mem_nil
theorem mo_X5_addOne : MOK WB md_X5_addOne := ⟨by decide, (wb_6 132 rfl rfl), (wb_1 11 rfl rfl), by decide +kernel, ⟨by decide +kernel, by decide +kernel⟩, rfl, (fun h => by cases h), by decide, ho_X5_addOne⟩
theorem tb_X17_hasBoth : TB[76]? = some (md_X17_hasBoth, tl_X17_hasBoth) := rfl
theorem pr_X17_hasBoth : (parseMethodDescriptor (mY md_X17_hasBoth).desc).map (fun d => d.parameters.length) = some (mN md_X17_hasBoth - 1) := by decide +kernel
theorem in_X17_hasBoth : Jvm.Cond.instanceMethod (mY md_X17_hasBoth) ∈ WB := (wb_10 183 rfl rfl)
theorem se_X17_hasBoth : Jvm.Cond.selects (mY md_X17_hasBoth).cls (mY md_X17_hasBoth) (mY md_X17_hasBoth) ∈ WB := (wb_0 103 rfl rfl)
theorem ho_X17_hasBoth : HOK WB md_X17_hasBoth := fun _ h => absurd h List.not_mem_nil
theorem mo_X17_hasBoth : MOK WB md_X17_hasBoth := ⟨by decide, (wb_10 184 rfl rfl), (wb_1 13 rfl rfl), by decide +kernel, ⟨by decide +kernel, by decide +kernel⟩, rfl, (fun h => by cases h), by decide, ho_X17_hasBoth⟩
theorem tb_Jx4a65c_clear_da8c8 : TB[77]? = some (md_Jx4a65c_clear_da8c8, tl_Jx4a65c_clear_da8c8) := rfl
theorem pr_Jx4a65c_clear_da8c8 : (parseMethodDescriptor (mY md_Jx4a65c_clear_da8c8).desc).map (fun d => d.parameters.length) = some (mN md_Jx4a65c_clear_da8c8 - 1) := by decide +kernel
theorem in_Jx4a65c_clear_da8c8 : Jvm.Cond.instanceMethod (mY md_Jx4a65c_clear_da8c8) ∈ WB := (wb_8 24 rfl rfl)
theorem ho_Jx4a65c_clear_da8c8 : HOK WB md_Jx4a65c_clear_da8c8 := fun _ h => absurd h List.not_mem_nil
theorem mo_Jx4a65c_clear_da8c8 : MOK WB md_Jx4a65c_clear_da8c8 := ⟨by decide, (wb_8 26 rfl rfl), (wb_1 16 rfl rfl), by decide +kernel, ⟨by decide +kernel, by decide +kernel⟩, rfl, (fun h => by cases h), by decide, ho_Jx4a65c_clear_da8c8⟩
theorem tb_X8_giveNothing : TB[78]? = some (md_X8_giveNothing, tl_X8_giveNothing) := rfl
theorem pr_X8_giveNothing : (parseMethodDescriptor (mY md_X8_giveNothing).desc).map (fun d => d.parameters.length) = some (mN md_X8_giveNothing - 1) := by decide +kernel
theorem in_X8_giveNothing : Jvm.Cond.instanceMethod (mY md_X8_giveNothing) ∈ WB := (wb_3 133 rfl rfl)
theorem se_X8_giveNothing : Jvm.Cond.selects (mY md_X8_giveNothing).cls (mY md_X8_giveNothing) (mY md_X8_giveNothing) ∈ WB := (wb_3 134 rfl rfl)
theorem ho_X8_giveNothing : HOK WB md_X8_giveNothing := fun _ h => absurd h List.not_mem_nil
theorem mo_X8_giveNothing : MOK WB md_X8_giveNothing := ⟨by decide, (wb_3 135 rfl rfl), (wb_1 4 rfl rfl), by decide +kernel, ⟨by decide +kernel, by decide +kernel⟩, rfl, (fun h => by cases h), by decide, ho_X8_giveNothing⟩
theorem tb_L_weight : TB[79]? = some (md_L_weight, tl_L_weight) := rfl
theorem pr_L_weight : (parseMethodDescriptor (mY md_L_weight).desc).map (fun d => d.parameters.length) = some (mN md_L_weight) := by decide +kernel
theorem st_L_weight : Jvm.Cond.static (mY md_L_weight) ∈ WB := (wb_7 0 rfl rfl)
theorem ho_L_weight : HOK WB md_L_weight := List.forall_mem_cons.mpr ⟨fun _ => ⟨by decide, (wb_5 20 rfl rfl)⟩, List.forall_mem_cons.mpr ⟨fun _ => ⟨by decide, (wb_5 55 rfl rfl)⟩, fun _ h => absurd h List.not_mem_nil⟩⟩
theorem mo_L_weight : MOK WB md_L_weight := ⟨by decide, (wb_7 1 rfl rfl), (wb_1 0 rfl rfl), by decide +kernel, ⟨by decide +kernel, by decide +kernel⟩, rfl, (fun h => by cases h), by decide, ho_L_weight⟩
theorem tb_X5_addPart : TB[80]? = some (md_X5_addPart, tl_X5_addPart) := rfl
theorem pr_X5_addPart : (parseMethodDescriptor (mY md_X5_addPart).desc).map (fun d => d.parameters.length) = some (mN md_X5_addPart - 1) := by decide +kernel
theorem in_X5_addPart : Jvm.Cond.instanceMethod (mY md_X5_addPart) ∈ WB := (wb_6 135 rfl rfl)
theorem se_X5_addPart : Jvm.Cond.selects (mY md_X5_addPart).cls (mY md_X5_addPart) (mY md_X5_addPart) ∈ WB := (wb_0 35 rfl rfl)
theorem ho_X5_addPart : HOK WB md_X5_addPart := fun _ h => absurd h List.not_mem_nil
theorem mo_X5_addPart : MOK WB md_X5_addPart := ⟨by decide, (wb_6 136 rfl rfl), (wb_1 11 rfl rfl), by decide +kernel, ⟨by decide +kernel, by decide +kernel⟩, rfl, (fun h => by cases h), by decide, ho_X5_addPart⟩
theorem tb_X17_fitting : TB[81]? = some (md_X17_fitting, tl_X17_fitting) := rfl
theorem pr_X17_fitting : (parseMethodDescriptor (mY md_X17_fitting).desc).map (fun d => d.parameters.length) = some (mN md_X17_fitting - 1) := by decide +kernel
theorem in_X17_fitting : Jvm.Cond.instanceMethod (mY md_X17_fitting) ∈ WB := (wb_10 106 rfl rfl)
theorem se_X17_fitting : Jvm.Cond.selects (mY md_X17_fitting).cls (mY md_X17_fitting) (mY md_X17_fitting) ∈ WB := (wb_10 107 rfl rfl)
theorem ho_X17_fitting : HOK WB md_X17_fitting := fun _ h => absurd h List.not_mem_nil
theorem mo_X17_fitting : MOK WB md_X17_fitting := ⟨by decide, (wb_10 108 rfl rfl), (wb_1 13 rfl rfl), by decide +kernel, ⟨by decide +kernel, by decide +kernel⟩, rfl, (fun h => by cases h), by decide, ho_X17_fitting⟩
theorem tb_X17_matching : TB[82]? = some (md_X17_matching, tl_X17_matching) := rfl
theorem pr_X17_matching : (parseMethodDescriptor (mY md_X17_matching).desc).map (fun d => d.parameters.length) = some (mN md_X17_matching - 1) := by decide +kernel
theorem in_X17_matching : Jvm.Cond.instanceMethod (mY md_X17_matching) ∈ WB := (wb_10 118 rfl rfl)
theorem se_X17_matching : Jvm.Cond.selects (mY md_X17_matching).cls (mY md_X17_matching) (mY md_X17_matching) ∈ WB := (wb_10 119 rfl rfl)
theorem ho_X17_matching : HOK WB md_X17_matching := fun _ h => absurd h List.not_mem_nil
theorem mo_X17_matching : MOK WB md_X17_matching := ⟨by decide, (wb_10 120 rfl rfl), (wb_1 13 rfl rfl), by decide +kernel, ⟨by decide +kernel, by decide +kernel⟩, rfl, (fun h => by cases h), by decide, ho_X17_matching⟩
theorem tb_X10_sort : TB[83]? = some (md_X10_sort, tl_X10_sort) := rfl
theorem pr_X10_sort : (parseMethodDescriptor (mY md_X10_sort).desc).map (fun d => d.parameters.length) = some (mN md_X10_sort - 1) := by decide +kernel
theorem in_X10_sort : Jvm.Cond.instanceMethod (mY md_X10_sort) ∈ WB := (wb_4 185 rfl rfl)
theorem se_X10_sort : Jvm.Cond.selects (mY md_X10_sort).cls (mY md_X10_sort) (mY md_X10_sort) ∈ WB := (wb_4 186 rfl rfl)
theorem ho_X10_sort : HOK WB md_X10_sort := fun _ h => absurd h List.not_mem_nil
theorem mo_X10_sort : MOK WB md_X10_sort := ⟨by decide, (wb_4 187 rfl rfl), (wb_1 1 rfl rfl), by decide +kernel, ⟨by decide +kernel, by decide +kernel⟩, rfl, (fun h => by cases h), by decide, ho_X10_sort⟩
theorem tb_X10_keep : TB[84]? = some (md_X10_keep, tl_X10_keep) := rfl
theorem pr_X10_keep : (parseMethodDescriptor (mY md_X10_keep).desc).map (fun d => d.parameters.length) = some (mN md_X10_keep - 1) := by decide +kernel
theorem in_X10_keep : Jvm.Cond.instanceMethod (mY md_X10_keep) ∈ WB := (wb_5 149 rfl rfl)
theorem se_X10_keep : Jvm.Cond.selects (mY md_X10_keep).cls (mY md_X10_keep) (mY md_X10_keep) ∈ WB := (wb_5 150 rfl rfl)
theorem ho_X10_keep : HOK WB md_X10_keep := fun _ h => absurd h List.not_mem_nil
theorem mo_X10_keep : MOK WB md_X10_keep := ⟨by decide, (wb_5 151 rfl rfl), (wb_1 1 rfl rfl), by decide +kernel, ⟨by decide +kernel, by decide +kernel⟩, rfl, (fun h => by cases h), by decide, ho_X10_keep⟩
theorem tb_X10_holds : TB[85]? = some (md_X10_holds, tl_X10_holds) := rfl
theorem pr_X10_holds : (parseMethodDescriptor (mY md_X10_holds).desc).map (fun d => d.parameters.length) = some (mN md_X10_holds - 1) := by decide +kernel
theorem in_X10_holds : Jvm.Cond.instanceMethod (mY md_X10_holds) ∈ WB := (wb_6 111 rfl rfl)
theorem se_X10_holds : Jvm.Cond.selects (mY md_X10_holds).cls (mY md_X10_holds) (mY md_X10_holds) ∈ WB := (wb_6 112 rfl rfl)
theorem ho_X10_holds : HOK WB md_X10_holds := fun _ h => absurd h List.not_mem_nil
theorem mo_X10_holds : MOK WB md_X10_holds := ⟨by decide, (wb_6 113 rfl rfl), (wb_1 1 rfl rfl), by decide +kernel, ⟨by decide +kernel, by decide +kernel⟩, rfl, (fun h => by cases h), by decide, ho_X10_holds⟩
theorem tb_X10_both : TB[86]? = some (md_X10_both, tl_X10_both) := rfl
theorem pr_X10_both : (parseMethodDescriptor (mY md_X10_both).desc).map (fun d => d.parameters.length) = some (mN md_X10_both - 1) := by decide +kernel
theorem in_X10_both : Jvm.Cond.instanceMethod (mY md_X10_both) ∈ WB := (wb_6 163 rfl rfl)
theorem se_X10_both : Jvm.Cond.selects (mY md_X10_both).cls (mY md_X10_both) (mY md_X10_both) ∈ WB := (wb_6 164 rfl rfl)
theorem ho_X10_both : HOK WB md_X10_both := fun _ h => absurd h List.not_mem_nil
theorem mo_X10_both : MOK WB md_X10_both := ⟨by decide, (wb_6 165 rfl rfl), (wb_1 1 rfl rfl), by decide +kernel, ⟨by decide +kernel, by decide +kernel⟩, rfl, (fun h => by cases h), by decide, ho_X10_both⟩
theorem tb_X10_hasPatternAndSubject : TB[87]? = some (md_X10_hasPatternAndSubject, tl_X10_hasPatternAndSubject) := rfl
theorem pr_X10_hasPatternAndSubject : (parseMethodDescriptor (mY md_X10_hasPatternAndSubject).desc).map (fun d => d.parameters.length) = some (mN md_X10_hasPatternAndSubject - 1) := by decide +kernel
theorem in_X10_hasPatternAndSubject : Jvm.Cond.instanceMethod (mY md_X10_hasPatternAndSubject) ∈ WB := (wb_5 194 rfl rfl)
theorem se_X10_hasPatternAndSubject : Jvm.Cond.selects (mY md_X10_hasPatternAndSubject).cls (mY md_X10_hasPatternAndSubject) (mY md_X10_hasPatternAndSubject) ∈ WB := (wb_0 28 rfl rfl)
theorem ho_X10_hasPatternAndSubject : HOK WB md_X10_hasPatternAndSubject := fun _ h => absurd h List.not_mem_nil
theorem mo_X10_hasPatternAndSubject : MOK WB md_X10_hasPatternAndSubject := ⟨by decide, (wb_5 195 rfl rfl), (wb_1 1 rfl rfl), by decide +kernel, ⟨by decide +kernel, by decide +kernel⟩, rfl, (fun h => by cases h), by decide, ho_X10_hasPatternAndSubject⟩
theorem tb_L_below : TB[88]? = some (md_L_below, tl_L_below) := rfl
theorem pr_L_below : (parseMethodDescriptor (mY md_L_below).desc).map (fun d => d.parameters.length) = some (mN md_L_below) := by decide +kernel
theorem st_L_below : Jvm.Cond.static (mY md_L_below) ∈ WB := (wb_5 18 rfl rfl)
theorem ho_L_below : HOK WB md_L_below := List.forall_mem_cons.mpr ⟨fun _ => ⟨by decide, (wb_5 20 rfl rfl)⟩, List.forall_mem_cons.mpr ⟨fun _ => ⟨by decide, (wb_4 183 rfl rfl)⟩, fun _ h => absurd h List.not_mem_nil⟩⟩
theorem mo_L_below : MOK WB md_L_below := ⟨by decide, (wb_5 19 rfl rfl), (wb_1 0 rfl rfl), by decide +kernel, ⟨by decide +kernel, by decide +kernel⟩, rfl, (fun h => by cases h), by decide, ho_L_below⟩
theorem tb_L_variable : TB[89]? = some (md_L_variable, tl_L_variable) := rfl
theorem pr_L_variable : (parseMethodDescriptor (mY md_L_variable).desc).map (fun d => d.parameters.length) = some (mN md_L_variable) := by decide +kernel
theorem st_L_variable : Jvm.Cond.static (mY md_L_variable) ∈ WB := (wb_5 53 rfl rfl)
theorem ho_L_variable : HOK WB md_L_variable := List.forall_mem_cons.mpr ⟨fun _ => ⟨by decide, (wb_5 20 rfl rfl)⟩, List.forall_mem_cons.mpr ⟨fun _ => ⟨by decide, (wb_5 55 rfl rfl)⟩, List.forall_mem_cons.mpr ⟨fun _ => ⟨by decide, (wb_4 183 rfl rfl)⟩, fun _ h => absurd h List.not_mem_nil⟩⟩⟩
theorem mo_L_variable : MOK WB md_L_variable := ⟨by decide, (wb_5 54 rfl rfl), (wb_1 0 rfl rfl), by decide +kernel, ⟨by decide +kernel, by decide +kernel⟩, rfl, (fun h => by cases h), by decide, ho_L_variable⟩
theorem tb_L_view : TB[90]? = some (md_L_view, tl_L_view) := rfl
theorem pr_L_view : (parseMethodDescriptor (mY md_L_view).desc).map (fun d => d.parameters.length) = some (mN md_L_view) := by decide +kernel
theorem st_L_view : Jvm.Cond.static (mY md_L_view) ∈ WB := (wb_7 19 rfl rfl)
theorem ho_L_view : HOK WB md_L_view := List.forall_mem_cons.mpr ⟨fun _ => ⟨by decide, (wb_5 20 rfl rfl)⟩, List.forall_mem_cons.mpr ⟨fun _ => ⟨by decide, (wb_5 55 rfl rfl)⟩, fun _ h => absurd h List.not_mem_nil⟩⟩
theorem mo_L_view : MOK WB md_L_view := ⟨by decide, (wb_7 20 rfl rfl), (wb_1 0 rfl rfl), by decide +kernel, ⟨by decide +kernel, by decide +kernel⟩, rfl, (fun h => by cases h), by decide, ho_L_view⟩
theorem tb_X17_many : TB[91]? = some (md_X17_many, tl_X17_many) := rfl
theorem pr_X17_many : (parseMethodDescriptor (mY md_X17_many).desc).map (fun d => d.parameters.length) = some (mN md_X17_many - 1) := by decide +kernel
theorem in_X17_many : Jvm.Cond.instanceMethod (mY md_X17_many) ∈ WB := (wb_9 186 rfl rfl)
theorem se_X17_many : Jvm.Cond.selects (mY md_X17_many).cls (mY md_X17_many) (mY md_X17_many) ∈ WB := (wb_9 187 rfl rfl)
theorem ho_X17_many : HOK WB md_X17_many := fun _ h => absurd h List.not_mem_nil
theorem mo_X17_many : MOK WB md_X17_many := ⟨by decide, (wb_9 188 rfl rfl), (wb_1 13 rfl rfl), by decide +kernel, ⟨by decide +kernel, by decide +kernel⟩, rfl, (fun h => by cases h), by decide, ho_X17_many⟩
theorem tb_L_apply : TB[92]? = some (md_L_apply, tl_L_apply) := rfl
theorem pr_L_apply : (parseMethodDescriptor (mY md_L_apply).desc).map (fun d => d.parameters.length) = some (mN md_L_apply) := by decide +kernel
theorem st_L_apply : Jvm.Cond.static (mY md_L_apply) ∈ WB := (wb_5 134 rfl rfl)
theorem ho_L_apply : HOK WB md_L_apply := List.forall_mem_cons.mpr ⟨fun _ => ⟨by decide, (wb_5 20 rfl rfl)⟩, List.forall_mem_cons.mpr ⟨fun _ => ⟨by decide, (wb_4 183 rfl rfl)⟩, fun _ h => absurd h List.not_mem_nil⟩⟩
theorem mo_L_apply : MOK WB md_L_apply := ⟨by decide, (wb_5 135 rfl rfl), (wb_1 0 rfl rfl), by decide +kernel, ⟨by decide +kernel, by decide +kernel⟩, rfl, (fun h => by cases h), by decide, ho_L_apply⟩
theorem tb_L_state : TB[93]? = some (md_L_state, tl_L_state) := rfl
theorem pr_L_state : (parseMethodDescriptor (mY md_L_state).desc).map (fun d => d.parameters.length) = some (mN md_L_state) := by decide +kernel
theorem st_L_state : Jvm.Cond.static (mY md_L_state) ∈ WB := (wb_6 75 rfl rfl)
theorem ho_L_state : HOK WB md_L_state := List.forall_mem_cons.mpr ⟨fun _ => ⟨by decide, (wb_5 20 rfl rfl)⟩, List.forall_mem_cons.mpr ⟨fun _ => ⟨by decide, (wb_4 183 rfl rfl)⟩, fun _ h => absurd h List.not_mem_nil⟩⟩
theorem mo_L_state : MOK WB md_L_state := ⟨by decide, (wb_6 76 rfl rfl), (wb_1 0 rfl rfl), by decide +kernel, ⟨by decide +kernel, by decide +kernel⟩, rfl, (fun h => by cases h), by decide, ho_L_state⟩
theorem tb_L_cameBy : TB[94]? = some (md_L_cameBy, tl_L_cameBy) := rfl
theorem pr_L_cameBy : (parseMethodDescriptor (mY md_L_cameBy).desc).map (fun d => d.parameters.length) = some (mN md_L_cameBy) := by decide +kernel
theorem st_L_cameBy : Jvm.Cond.static (mY md_L_cameBy) ∈ WB := (wb_6 83 rfl rfl)
theorem ho_L_cameBy : HOK WB md_L_cameBy := List.forall_mem_cons.mpr ⟨fun _ => ⟨by decide, (wb_5 20 rfl rfl)⟩, fun _ h => absurd h List.not_mem_nil⟩
theorem mo_L_cameBy : MOK WB md_L_cameBy := ⟨by decide, (wb_6 84 rfl rfl), (wb_1 0 rfl rfl), by decide +kernel, ⟨by decide +kernel, by decide +kernel⟩, rfl, (fun h => by cases h), by decide, ho_L_cameBy⟩
theorem tb_L_use : TB[95]? = some (md_L_use, tl_L_use) := rfl
theorem pr_L_use : (parseMethodDescriptor (mY md_L_use).desc).map (fun d => d.parameters.length) = some (mN md_L_use) := by decide +kernel
theorem st_L_use : Jvm.Cond.static (mY md_L_use) ∈ WB := (wb_6 121 rfl rfl)
theorem ho_L_use : HOK WB md_L_use := List.forall_mem_cons.mpr ⟨fun _ => ⟨by decide, (wb_5 20 rfl rfl)⟩, List.forall_mem_cons.mpr ⟨fun _ => ⟨by decide, (wb_4 183 rfl rfl)⟩, fun _ h => absurd h List.not_mem_nil⟩⟩
theorem mo_L_use : MOK WB md_L_use := ⟨by decide, (wb_6 122 rfl rfl), (wb_1 0 rfl rfl), by decide +kernel, ⟨by decide +kernel, by decide +kernel⟩, rfl, (fun h => by cases h), by decide, ho_L_use⟩
theorem tb_L_joins : TB[96]? = some (md_L_joins, tl_L_joins) := rfl
theorem pr_L_joins : (parseMethodDescriptor (mY md_L_joins).desc).map (fun d => d.parameters.length) = some (mN md_L_joins) := by decide +kernel
theorem st_L_joins : Jvm.Cond.static (mY md_L_joins) ∈ WB := (wb_6 232 rfl rfl)
theorem ho_L_joins : HOK WB md_L_joins := List.forall_mem_cons.mpr ⟨fun _ => ⟨by decide, (wb_5 20 rfl rfl)⟩, fun _ h => absurd h List.not_mem_nil⟩
theorem mo_L_joins : MOK WB md_L_joins := ⟨by decide, (wb_6 233 rfl rfl), (wb_1 0 rfl rfl), by decide +kernel, ⟨by decide +kernel, by decide +kernel⟩, rfl, (fun h => by cases h), by decide, ho_L_joins⟩
theorem tb_L_descends : TB[97]? = some (md_L_descends, tl_L_descends) := rfl
theorem pr_L_descends : (parseMethodDescriptor (mY md_L_descends).desc).map (fun d => d.parameters.length) = some (mN md_L_descends) := by decide +kernel
theorem st_L_descends : Jvm.Cond.static (mY md_L_descends) ∈ WB := (wb_7 9 rfl rfl)
theorem ho_L_descends : HOK WB md_L_descends := List.forall_mem_cons.mpr ⟨fun _ => ⟨by decide, (wb_5 20 rfl rfl)⟩, fun _ h => absurd h List.not_mem_nil⟩
theorem mo_L_descends : MOK WB md_L_descends := ⟨by decide, (wb_7 10 rfl rfl), (wb_1 0 rfl rfl), by decide +kernel, ⟨by decide +kernel, by decide +kernel⟩, rfl, (fun h => by cases h), by decide, ho_L_descends⟩
theorem tb_L_copy : TB[98]? = some (md_L_copy, tl_L_copy) := rfl
theorem pr_L_copy : (parseMethodDescriptor (mY md_L_copy).desc).map (fun d => d.parameters.length) = some (mN md_L_copy) := by decide +kernel
theorem st_L_copy : Jvm.Cond.static (mY md_L_copy) ∈ WB := (wb_7 27 rfl rfl)
theorem ho_L_copy : HOK WB md_L_copy := List.forall_mem_cons.mpr ⟨fun _ => ⟨by decide, (wb_5 20 rfl rfl)⟩, List.forall_mem_cons.mpr ⟨fun _ => ⟨by decide, (wb_4 183 rfl rfl)⟩, fun _ h => absurd h List.not_mem_nil⟩⟩
theorem mo_L_copy : MOK WB md_L_copy := ⟨by decide, (wb_7 28 rfl rfl), (wb_1 0 rfl rfl), by decide +kernel, ⟨by decide +kernel, by decide +kernel⟩, rfl, (fun h => by cases h), by decide, ho_L_copy⟩
theorem tb_X10_hasPattern : TB[99]? = some (md_X10_hasPattern, tl_X10_hasPattern) := rfl
theorem pr_X10_hasPattern : (parseMethodDescriptor (mY md_X10_hasPattern).desc).map (fun d => d.parameters.length) = some (mN md_X10_hasPattern - 1) := by decide +kernel
theorem in_X10_hasPattern : Jvm.Cond.instanceMethod (mY md_X10_hasPattern) ∈ WB := (wb_6 99 rfl rfl)
theorem se_X10_hasPattern : Jvm.Cond.selects (mY md_X10_hasPattern).cls (mY md_X10_hasPattern) (mY md_X10_hasPattern) ∈ WB := (wb_0 34 rfl rfl)
theorem ho_X10_hasPattern : HOK WB md_X10_hasPattern := fun _ h => absurd h List.not_mem_nil
theorem mo_X10_hasPattern : MOK WB md_X10_hasPattern := ⟨by decide, (wb_6 100 rfl rfl), (wb_1 1 rfl rfl), by decide +kernel, ⟨by decide +kernel, by decide +kernel⟩, rfl, (fun h => by cases h), by decide, ho_X10_hasPattern⟩
theorem tb_X17_test : TB[100]? = some (md_X17_test, tl_X17_test) := rfl
theorem pr_X17_test : (parseMethodDescriptor (mY md_X17_test).desc).map (fun d => d.parameters.length) = some (mN md_X17_test - 1) := by decide +kernel
theorem in_X17_test : Jvm.Cond.instanceMethod (mY md_X17_test) ∈ WB := (wb_9 178 rfl rfl)
theorem se_X17_test : Jvm.Cond.selects (mY md_X17_test).cls (mY md_X17_test) (mY md_X17_test) ∈ WB := (wb_9 179 rfl rfl)
theorem ho_X17_test : HOK WB md_X17_test := fun _ h => absurd h List.not_mem_nil
theorem mo_X17_test : MOK WB md_X17_test := ⟨by decide, (wb_9 180 rfl rfl), (wb_1 13 rfl rfl), by decide +kernel, ⟨by decide +kernel, by decide +kernel⟩, rfl, (fun h => by cases h), by decide, ho_X17_test⟩
theorem tb_X17_sortOf : TB[101]? = some (md_X17_sortOf, tl_X17_sortOf) := rfl
theorem pr_X17_sortOf : (parseMethodDescriptor (mY md_X17_sortOf).desc).map (fun d => d.parameters.length) = some (mN md_X17_sortOf - 1) := by decide +kernel
theorem in_X17_sortOf : Jvm.Cond.instanceMethod (mY md_X17_sortOf) ∈ WB := (wb_10 170 rfl rfl)
theorem se_X17_sortOf : Jvm.Cond.selects (mY md_X17_sortOf).cls (mY md_X17_sortOf) (mY md_X17_sortOf) ∈ WB := (wb_10 171 rfl rfl)
theorem ho_X17_sortOf : HOK WB md_X17_sortOf := fun _ h => absurd h List.not_mem_nil
theorem mo_X17_sortOf : MOK WB md_X17_sortOf := ⟨by decide, (wb_10 172 rfl rfl), (wb_1 13 rfl rfl), by decide +kernel, ⟨by decide +kernel, by decide +kernel⟩, rfl, (fun h => by cases h), by decide, ho_X17_sortOf⟩
theorem tb_X17_search : TB[102]? = some (md_X17_search, tl_X17_search) := rfl
theorem pr_X17_search : (parseMethodDescriptor (mY md_X17_search).desc).map (fun d => d.parameters.length) = some (mN md_X17_search - 1) := by decide +kernel
theorem in_X17_search : Jvm.Cond.instanceMethod (mY md_X17_search) ∈ WB := (wb_8 4 rfl rfl)
theorem se_X17_search : Jvm.Cond.selects (mY md_X17_search).cls (mY md_X17_search) (mY md_X17_search) ∈ WB := (wb_8 5 rfl rfl)
theorem ho_X17_search : HOK WB md_X17_search := List.forall_mem_cons.mpr ⟨fun h => absurd h (by decide), fun _ h => absurd h List.not_mem_nil⟩
theorem mo_X17_search : MOK WB md_X17_search := ⟨by decide, (wb_8 6 rfl rfl), (wb_1 13 rfl rfl), by decide +kernel, ⟨by decide +kernel, by decide +kernel⟩, rfl, (fun h => by cases h), by decide, ho_X17_search⟩
theorem tb_X17_finds : TB[103]? = some (md_X17_finds, tl_X17_finds) := rfl
theorem pr_X17_finds : (parseMethodDescriptor (mY md_X17_finds).desc).map (fun d => d.parameters.length) = some (mN md_X17_finds - 1) := by decide +kernel
theorem in_X17_finds : Jvm.Cond.instanceMethod (mY md_X17_finds) ∈ WB := (wb_9 112 rfl rfl)
theorem se_X17_finds : Jvm.Cond.selects (mY md_X17_finds).cls (mY md_X17_finds) (mY md_X17_finds) ∈ WB := (wb_9 113 rfl rfl)
theorem ho_X17_finds : HOK WB md_X17_finds := fun _ h => absurd h List.not_mem_nil
theorem mo_X17_finds : MOK WB md_X17_finds := ⟨by decide, (wb_9 114 rfl rfl), (wb_1 13 rfl rfl), by decide +kernel, ⟨by decide +kernel, by decide +kernel⟩, rfl, (fun h => by cases h), by decide, ho_X17_finds⟩
theorem tb_X17_run : TB[104]? = some (md_X17_run, tl_X17_run) := rfl
theorem pr_X17_run : (parseMethodDescriptor (mY md_X17_run).desc).map (fun d => d.parameters.length) = some (mN md_X17_run - 1) := by decide +kernel
theorem in_X17_run : Jvm.Cond.instanceMethod (mY md_X17_run) ∈ WB := (wb_9 190 rfl rfl)
theorem se_X17_run : Jvm.Cond.selects (mY md_X17_run).cls (mY md_X17_run) (mY md_X17_run) ∈ WB := (wb_9 191 rfl rfl)
theorem ho_X17_run : HOK WB md_X17_run := List.forall_mem_cons.mpr ⟨fun h => absurd h (by decide), List.forall_mem_cons.mpr ⟨fun h => absurd h (by decide), fun _ h => absurd h List.not_mem_nil⟩⟩
theorem mo_X17_run : MOK WB md_X17_run := ⟨by decide, (wb_9 192 rfl rfl), (wb_1 13 rfl rfl), by decide +kernel, ⟨by decide +kernel, by decide +kernel⟩, rfl, (fun h => by cases h), by decide, ho_X17_run⟩
theorem tb_X17_code : TB[105]? = some (md_X17_code, tl_X17_code) := rfl
theorem pr_X17_code : (parseMethodDescriptor (mY md_X17_code).desc).map (fun d => d.parameters.length) = some (mN md_X17_code - 1) := by decide +kernel
theorem in_X17_code : Jvm.Cond.instanceMethod (mY md_X17_code) ∈ WB := (wb_10 174 rfl rfl)
theorem se_X17_code : Jvm.Cond.selects (mY md_X17_code).cls (mY md_X17_code) (mY md_X17_code) ∈ WB := (wb_10 175 rfl rfl)
theorem ho_X17_code : HOK WB md_X17_code := fun _ h => absurd h List.not_mem_nil
theorem mo_X17_code : MOK WB md_X17_code := ⟨by decide, (wb_10 176 rfl rfl), (wb_1 13 rfl rfl), by decide +kernel, ⟨by decide +kernel, by decide +kernel⟩, rfl, (fun h => by cases h), by decide, ho_X17_code⟩
theorem tb_X17_reduce : TB[106]? = some (md_X17_reduce, tl_X17_reduce) := rfl
theorem pr_X17_reduce : (parseMethodDescriptor (mY md_X17_reduce).desc).map (fun d => d.parameters.length) = some (mN md_X17_reduce - 1) := by decide +kernel
theorem in_X17_reduce : Jvm.Cond.instanceMethod (mY md_X17_reduce) ∈ WB := (wb_10 237 rfl rfl)
theorem se_X17_reduce : Jvm.Cond.selects (mY md_X17_reduce).cls (mY md_X17_reduce) (mY md_X17_reduce) ∈ WB := (wb_10 238 rfl rfl)
theorem ho_X17_reduce : HOK WB md_X17_reduce := List.forall_mem_cons.mpr ⟨fun h => absurd h (by decide), fun _ h => absurd h List.not_mem_nil⟩
theorem mo_X17_reduce : MOK WB md_X17_reduce := ⟨by decide, (wb_10 239 rfl rfl), (wb_1 13 rfl rfl), by decide +kernel, ⟨by decide +kernel, by decide +kernel⟩, rfl, (fun h => by cases h), by decide, ho_X17_reduce⟩
theorem tb_X10_below : TB[107]? = some (md_X10_below, tl_X10_below) := rfl
theorem pr_X10_below : (parseMethodDescriptor (mY md_X10_below).desc).map (fun d => d.parameters.length) = some (mN md_X10_below - 1) := by decide +kernel
theorem in_X10_below : Jvm.Cond.instanceMethod (mY md_X10_below) ∈ WB := (wb_5 22 rfl rfl)
theorem se_X10_below : Jvm.Cond.selects (mY md_X10_below).cls (mY md_X10_below) (mY md_X10_below) ∈ WB := (wb_5 23 rfl rfl)
theorem ho_X10_below : HOK WB md_X10_below := fun _ h => absurd h List.not_mem_nil
theorem mo_X10_below : MOK WB md_X10_below := ⟨by decide, (wb_5 24 rfl rfl), (wb_1 1 rfl rfl), by decide +kernel, ⟨by decide +kernel, by decide +kernel⟩, rfl, (fun h => by cases h), by decide, ho_X10_below⟩
theorem tb_X10_variable : TB[108]? = some (md_X10_variable, tl_X10_variable) := rfl
theorem pr_X10_variable : (parseMethodDescriptor (mY md_X10_variable).desc).map (fun d => d.parameters.length) = some (mN md_X10_variable - 1) := by decide +kernel
theorem in_X10_variable : Jvm.Cond.instanceMethod (mY md_X10_variable) ∈ WB := (wb_5 57 rfl rfl)
theorem se_X10_variable : Jvm.Cond.selects (mY md_X10_variable).cls (mY md_X10_variable) (mY md_X10_variable) ∈ WB := (wb_5 58 rfl rfl)
theorem ho_X10_variable : HOK WB md_X10_variable := fun _ h => absurd h List.not_mem_nil
theorem mo_X10_variable : MOK WB md_X10_variable := ⟨by decide, (wb_5 59 rfl rfl), (wb_1 1 rfl rfl), by decide +kernel, ⟨by decide +kernel, by decide +kernel⟩, rfl, (fun h => by cases h), by decide, ho_X10_variable⟩
theorem tb_X10_declare : TB[109]? = some (md_X10_declare, tl_X10_declare) := rfl
theorem pr_X10_declare : (parseMethodDescriptor (mY md_X10_declare).desc).map (fun d => d.parameters.length) = some (mN md_X10_declare - 1) := by decide +kernel
theorem in_X10_declare : Jvm.Cond.instanceMethod (mY md_X10_declare) ∈ WB := (wb_5 108 rfl rfl)
theorem se_X10_declare : Jvm.Cond.selects (mY md_X10_declare).cls (mY md_X10_declare) (mY md_X10_declare) ∈ WB := (wb_5 109 rfl rfl)
theorem ho_X10_declare : HOK WB md_X10_declare := fun _ h => absurd h List.not_mem_nil
theorem mo_X10_declare : MOK WB md_X10_declare := ⟨by decide, (wb_5 110 rfl rfl), (wb_1 1 rfl rfl), by decide +kernel, ⟨by decide +kernel, by decide +kernel⟩, rfl, (fun h => by cases h), by decide, ho_X10_declare⟩
theorem tb_X10_apply : TB[110]? = some (md_X10_apply, tl_X10_apply) := rfl
theorem pr_X10_apply : (parseMethodDescriptor (mY md_X10_apply).desc).map (fun d => d.parameters.length) = some (mN md_X10_apply - 1) := by decide +kernel
theorem in_X10_apply : Jvm.Cond.instanceMethod (mY md_X10_apply) ∈ WB := (wb_5 137 rfl rfl)
theorem se_X10_apply : Jvm.Cond.selects (mY md_X10_apply).cls (mY md_X10_apply) (mY md_X10_apply) ∈ WB := (wb_5 138 rfl rfl)
theorem ho_X10_apply : HOK WB md_X10_apply := fun _ h => absurd h List.not_mem_nil
theorem mo_X10_apply : MOK WB md_X10_apply := ⟨by decide, (wb_5 139 rfl rfl), (wb_1 1 rfl rfl), by decide +kernel, ⟨by decide +kernel, by decide +kernel⟩, rfl, (fun h => by cases h), by decide, ho_X10_apply⟩
theorem tb_X10_weight : TB[111]? = some (md_X10_weight, tl_X10_weight) := rfl
theorem pr_X10_weight : (parseMethodDescriptor (mY md_X10_weight).desc).map (fun d => d.parameters.length) = some (mN md_X10_weight - 1) := by decide +kernel
theorem in_X10_weight : Jvm.Cond.instanceMethod (mY md_X10_weight) ∈ WB := (wb_7 3 rfl rfl)
theorem se_X10_weight : Jvm.Cond.selects (mY md_X10_weight).cls (mY md_X10_weight) (mY md_X10_weight) ∈ WB := (wb_7 4 rfl rfl)
theorem ho_X10_weight : HOK WB md_X10_weight := fun _ h => absurd h List.not_mem_nil
theorem mo_X10_weight : MOK WB md_X10_weight := ⟨by decide, (wb_7 5 rfl rfl), (wb_1 1 rfl rfl), by decide +kernel, ⟨by decide +kernel, by decide +kernel⟩, rfl, (fun h => by cases h), by decide, ho_X10_weight⟩
theorem tb_X10_view : TB[112]? = some (md_X10_view, tl_X10_view) := rfl
theorem pr_X10_view : (parseMethodDescriptor (mY md_X10_view).desc).map (fun d => d.parameters.length) = some (mN md_X10_view - 1) := by decide +kernel
theorem in_X10_view : Jvm.Cond.instanceMethod (mY md_X10_view) ∈ WB := (wb_7 22 rfl rfl)
theorem se_X10_view : Jvm.Cond.selects (mY md_X10_view).cls (mY md_X10_view) (mY md_X10_view) ∈ WB := (wb_7 23 rfl rfl)
theorem ho_X10_view : HOK WB md_X10_view := fun _ h => absurd h List.not_mem_nil
theorem mo_X10_view : MOK WB md_X10_view := ⟨by decide, (wb_7 24 rfl rfl), (wb_1 1 rfl rfl), by decide +kernel, ⟨by decide +kernel, by decide +kernel⟩, rfl, (fun h => by cases h), by decide, ho_X10_view⟩
theorem tb_X17_drop : TB[113]? = some (md_X17_drop, tl_X17_drop) := rfl
theorem pr_X17_drop : (parseMethodDescriptor (mY md_X17_drop).desc).map (fun d => d.parameters.length) = some (mN md_X17_drop - 1) := by decide +kernel
theorem in_X17_drop : Jvm.Cond.instanceMethod (mY md_X17_drop) ∈ WB := (wb_10 166 rfl rfl)
theorem se_X17_drop : Jvm.Cond.selects (mY md_X17_drop).cls (mY md_X17_drop) (mY md_X17_drop) ∈ WB := (wb_10 167 rfl rfl)
theorem ho_X17_drop : HOK WB md_X17_drop := fun _ h => absurd h List.not_mem_nil
theorem mo_X17_drop : MOK WB md_X17_drop := ⟨by decide, (wb_10 168 rfl rfl), (wb_1 13 rfl rfl), by decide +kernel, ⟨by decide +kernel, by decide +kernel⟩, rfl, (fun h => by cases h), by decide, ho_X17_drop⟩
theorem tb_X17_matches : TB[114]? = some (md_X17_matches, tl_X17_matches) := rfl
theorem pr_X17_matches : (parseMethodDescriptor (mY md_X17_matches).desc).map (fun d => d.parameters.length) = some (mN md_X17_matches - 1) := by decide +kernel
theorem in_X17_matches : Jvm.Cond.instanceMethod (mY md_X17_matches) ∈ WB := (wb_10 178 rfl rfl)
theorem se_X17_matches : Jvm.Cond.selects (mY md_X17_matches).cls (mY md_X17_matches) (mY md_X17_matches) ∈ WB := (wb_10 179 rfl rfl)
theorem ho_X17_matches : HOK WB md_X17_matches := fun _ h => absurd h List.not_mem_nil
theorem mo_X17_matches : MOK WB md_X17_matches := ⟨by decide, (wb_10 180 rfl rfl), (wb_1 13 rfl rfl), by decide +kernel, ⟨by decide +kernel, by decide +kernel⟩, rfl, (fun h => by cases h), by decide, ho_X17_matches⟩
theorem tb_X10_state : TB[115]? = some (md_X10_state, tl_X10_state) := rfl
theorem pr_X10_state : (parseMethodDescriptor (mY md_X10_state).desc).map (fun d => d.parameters.length) = some (mN md_X10_state - 1) := by decide +kernel
theorem in_X10_state : Jvm.Cond.instanceMethod (mY md_X10_state) ∈ WB := (wb_6 78 rfl rfl)
theorem se_X10_state : Jvm.Cond.selects (mY md_X10_state).cls (mY md_X10_state) (mY md_X10_state) ∈ WB := (wb_6 79 rfl rfl)
theorem ho_X10_state : HOK WB md_X10_state := fun _ h => absurd h List.not_mem_nil
theorem mo_X10_state : MOK WB md_X10_state := ⟨by decide, (wb_6 80 rfl rfl), (wb_1 1 rfl rfl), by decide +kernel, ⟨by decide +kernel, by decide +kernel⟩, rfl, (fun h => by cases h), by decide, ho_X10_state⟩
theorem tb_X10_cameBy : TB[116]? = some (md_X10_cameBy, tl_X10_cameBy) := rfl
theorem pr_X10_cameBy : (parseMethodDescriptor (mY md_X10_cameBy).desc).map (fun d => d.parameters.length) = some (mN md_X10_cameBy - 1) := by decide +kernel
theorem in_X10_cameBy : Jvm.Cond.instanceMethod (mY md_X10_cameBy) ∈ WB := (wb_6 86 rfl rfl)
theorem se_X10_cameBy : Jvm.Cond.selects (mY md_X10_cameBy).cls (mY md_X10_cameBy) (mY md_X10_cameBy) ∈ WB := (wb_6 87 rfl rfl)
theorem ho_X10_cameBy : HOK WB md_X10_cameBy := fun _ h => absurd h List.not_mem_nil
theorem mo_X10_cameBy : MOK WB md_X10_cameBy := ⟨by decide, (wb_6 88 rfl rfl), (wb_1 1 rfl rfl), by decide +kernel, ⟨by decide +kernel, by decide +kernel⟩, rfl, (fun h => by cases h), by decide, ho_X10_cameBy⟩
theorem tb_X10_use : TB[117]? = some (md_X10_use, tl_X10_use) := rfl
theorem pr_X10_use : (parseMethodDescriptor (mY md_X10_use).desc).map (fun d => d.parameters.length) = some (mN md_X10_use - 1) := by decide +kernel
theorem in_X10_use : Jvm.Cond.instanceMethod (mY md_X10_use) ∈ WB := (wb_6 124 rfl rfl)
theorem se_X10_use : Jvm.Cond.selects (mY md_X10_use).cls (mY md_X10_use) (mY md_X10_use) ∈ WB := (wb_6 125 rfl rfl)
theorem ho_X10_use : HOK WB md_X10_use := fun _ h => absurd h List.not_mem_nil
theorem mo_X10_use : MOK WB md_X10_use := ⟨by decide, (wb_6 126 rfl rfl), (wb_1 1 rfl rfl), by decide +kernel, ⟨by decide +kernel, by decide +kernel⟩, rfl, (fun h => by cases h), by decide, ho_X10_use⟩
theorem tb_X10_idle : TB[118]? = some (md_X10_idle, tl_X10_idle) := rfl
theorem pr_X10_idle : (parseMethodDescriptor (mY md_X10_idle).desc).map (fun d => d.parameters.length) = some (mN md_X10_idle - 1) := by decide +kernel
theorem in_X10_idle : Jvm.Cond.instanceMethod (mY md_X10_idle) ∈ WB := (wb_6 141 rfl rfl)
theorem se_X10_idle : Jvm.Cond.selects (mY md_X10_idle).cls (mY md_X10_idle) (mY md_X10_idle) ∈ WB := (wb_6 142 rfl rfl)
theorem ho_X10_idle : HOK WB md_X10_idle := fun _ h => absurd h List.not_mem_nil
theorem mo_X10_idle : MOK WB md_X10_idle := ⟨by decide, (wb_6 143 rfl rfl), (wb_1 1 rfl rfl), by decide +kernel, ⟨by decide +kernel, by decide +kernel⟩, rfl, (fun h => by cases h), by decide, ho_X10_idle⟩
theorem tb_X10_descends : TB[119]? = some (md_X10_descends, tl_X10_descends) := rfl
theorem pr_X10_descends : (parseMethodDescriptor (mY md_X10_descends).desc).map (fun d => d.parameters.length) = some (mN md_X10_descends - 1) := by decide +kernel
theorem in_X10_descends : Jvm.Cond.instanceMethod (mY md_X10_descends) ∈ WB := (wb_7 12 rfl rfl)
theorem se_X10_descends : Jvm.Cond.selects (mY md_X10_descends).cls (mY md_X10_descends) (mY md_X10_descends) ∈ WB := (wb_7 13 rfl rfl)
theorem ho_X10_descends : HOK WB md_X10_descends := fun _ h => absurd h List.not_mem_nil
theorem mo_X10_descends : MOK WB md_X10_descends := ⟨by decide, (wb_7 14 rfl rfl), (wb_1 1 rfl rfl), by decide +kernel, ⟨by decide +kernel, by decide +kernel⟩, rfl, (fun h => by cases h), by decide, ho_X10_descends⟩
theorem tb_X10_copy : TB[120]? = some (md_X10_copy, tl_X10_copy) := rfl
theorem pr_X10_copy : (parseMethodDescriptor (mY md_X10_copy).desc).map (fun d => d.parameters.length) = some (mN md_X10_copy - 1) := by decide +kernel
theorem in_X10_copy : Jvm.Cond.instanceMethod (mY md_X10_copy) ∈ WB := (wb_7 30 rfl rfl)
theorem se_X10_copy : Jvm.Cond.selects (mY md_X10_copy).cls (mY md_X10_copy) (mY md_X10_copy) ∈ WB := (wb_7 31 rfl rfl)
theorem ho_X10_copy : HOK WB md_X10_copy := fun _ h => absurd h List.not_mem_nil
theorem mo_X10_copy : MOK WB md_X10_copy := ⟨by decide, (wb_7 32 rfl rfl), (wb_1 1 rfl rfl), by decide +kernel, ⟨by decide +kernel, by decide +kernel⟩, rfl, (fun h => by cases h), by decide, ho_X10_copy⟩
theorem tb_X17_open : TB[121]? = some (md_X17_open, tl_X17_open) := rfl
theorem pr_X17_open : (parseMethodDescriptor (mY md_X17_open).desc).map (fun d => d.parameters.length) = some (mN md_X17_open - 1) := by decide +kernel
theorem in_X17_open : Jvm.Cond.instanceMethod (mY md_X17_open) ∈ WB := (wb_10 53 rfl rfl)
theorem se_X17_open : Jvm.Cond.selects (mY md_X17_open).cls (mY md_X17_open) (mY md_X17_open) ∈ WB := (wb_0 95 rfl rfl)
theorem ho_X17_open : HOK WB md_X17_open := fun _ h => absurd h List.not_mem_nil
theorem mo_X17_open : MOK WB md_X17_open := ⟨by decide, (wb_10 54 rfl rfl), (wb_1 13 rfl rfl), by decide +kernel, ⟨by decide +kernel, by decide +kernel⟩, rfl, (fun h => by cases h), by decide, ho_X17_open⟩
theorem tb_X17_matchesAnew : TB[122]? = some (md_X17_matchesAnew, tl_X17_matchesAnew) := rfl
theorem pr_X17_matchesAnew : (parseMethodDescriptor (mY md_X17_matchesAnew).desc).map (fun d => d.parameters.length) = some (mN md_X17_matchesAnew - 1) := by decide +kernel
theorem in_X17_matchesAnew : Jvm.Cond.instanceMethod (mY md_X17_matchesAnew) ∈ WB := (wb_10 191 rfl rfl)
theorem se_X17_matchesAnew : Jvm.Cond.selects (mY md_X17_matchesAnew).cls (mY md_X17_matchesAnew) (mY md_X17_matchesAnew) ∈ WB := (wb_10 192 rfl rfl)
theorem ho_X17_matchesAnew : HOK WB md_X17_matchesAnew := fun _ h => absurd h List.not_mem_nil
theorem mo_X17_matchesAnew : MOK WB md_X17_matchesAnew := ⟨by decide, (wb_10 193 rfl rfl), (wb_1 13 rfl rfl), by decide +kernel, ⟨by decide +kernel, by decide +kernel⟩, rfl, (fun h => by cases h), by decide, ho_X17_matchesAnew⟩
theorem tb_X17_match : TB[123]? = some (md_X17_match, tl_X17_match) := rfl
theorem pr_X17_match : (parseMethodDescriptor (mY md_X17_match).desc).map (fun d => d.parameters.length) = some (mN md_X17_match - 1) := by decide +kernel
theorem in_X17_match : Jvm.Cond.instanceMethod (mY md_X17_match) ∈ WB := (wb_10 225 rfl rfl)
theorem se_X17_match : Jvm.Cond.selects (mY md_X17_match).cls (mY md_X17_match) (mY md_X17_match) ∈ WB := (wb_10 226 rfl rfl)
theorem ho_X17_match : HOK WB md_X17_match := fun _ h => absurd h List.not_mem_nil
theorem mo_X17_match : MOK WB md_X17_match := ⟨by decide, (wb_10 227 rfl rfl), (wb_1 13 rfl rfl), by decide +kernel, ⟨by decide +kernel, by decide +kernel⟩, rfl, (fun h => by cases h), by decide, ho_X17_match⟩
theorem tb_X10_pairs : TB[124]? = some (md_X10_pairs, tl_X10_pairs) := rfl
theorem pr_X10_pairs : (parseMethodDescriptor (mY md_X10_pairs).desc).map (fun d => d.parameters.length) = some (mN md_X10_pairs - 1) := by decide +kernel
theorem in_X10_pairs : Jvm.Cond.instanceMethod (mY md_X10_pairs) ∈ WB := (wb_3 125 rfl rfl)
theorem se_X10_pairs : Jvm.Cond.selects (mY md_X10_pairs).cls (mY md_X10_pairs) (mY md_X10_pairs) ∈ WB := (wb_3 126 rfl rfl)
theorem ho_X10_pairs : HOK WB md_X10_pairs := fun _ h => absurd h List.not_mem_nil
theorem mo_X10_pairs : MOK WB md_X10_pairs := ⟨by decide, (wb_3 127 rfl rfl), (wb_1 1 rfl rfl), by decide +kernel, ⟨by decide +kernel, by decide +kernel⟩, rfl, (fun h => by cases h), by decide, ho_X10_pairs⟩
theorem tb_X17_adds : TB[125]? = some (md_X17_adds, tl_X17_adds) := rfl
theorem pr_X17_adds : (parseMethodDescriptor (mY md_X17_adds).desc).map (fun d => d.parameters.length) = some (mN md_X17_adds - 1) := by decide +kernel
theorem in_X17_adds : Jvm.Cond.instanceMethod (mY md_X17_adds) ∈ WB := (wb_9 171 rfl rfl)
theorem se_X17_adds : Jvm.Cond.selects (mY md_X17_adds).cls (mY md_X17_adds) (mY md_X17_adds) ∈ WB := (wb_0 82 rfl rfl)
theorem ho_X17_adds : HOK WB md_X17_adds := fun _ h => absurd h List.not_mem_nil
theorem mo_X17_adds : MOK WB md_X17_adds := ⟨by decide, (wb_9 172 rfl rfl), (wb_1 13 rfl rfl), by decide +kernel, ⟨by decide +kernel, by decide +kernel⟩, rfl, (fun h => by cases h), by decide, ho_X17_adds⟩
theorem tb_L_sort : TB[126]? = some (md_L_sort, tl_L_sort) := rfl
theorem pr_L_sort : (parseMethodDescriptor (mY md_L_sort).desc).map (fun d => d.parameters.length) = some (mN md_L_sort) := by decide +kernel
theorem st_L_sort : Jvm.Cond.static (mY md_L_sort) ∈ WB := (wb_4 181 rfl rfl)
theorem ho_L_sort : HOK WB md_L_sort := List.forall_mem_cons.mpr ⟨fun _ => ⟨by decide, (wb_4 183 rfl rfl)⟩, fun _ h => absurd h List.not_mem_nil⟩
theorem mo_L_sort : MOK WB md_L_sort := ⟨by decide, (wb_4 182 rfl rfl), (wb_1 0 rfl rfl), by decide +kernel, ⟨by decide +kernel, by decide +kernel⟩, rfl, (fun h => by cases h), by decide, ho_L_sort⟩
theorem tb_L_match : TB[127]? = some (md_L_match, tl_L_match) := rfl
theorem pr_L_match : (parseMethodDescriptor (mY md_L_match).desc).map (fun d => d.parameters.length) = some (mN md_L_match) := by decide +kernel
theorem st_L_match : Jvm.Cond.static (mY md_L_match) ∈ WB := (wb_5 217 rfl rfl)
theorem ho_L_match : HOK WB md_L_match := List.forall_mem_cons.mpr ⟨fun _ => ⟨by decide, (wb_5 20 rfl rfl)⟩, List.forall_mem_cons.mpr ⟨fun _ => ⟨by decide, (wb_4 183 rfl rfl)⟩, fun _ h => absurd h List.not_mem_nil⟩⟩
theorem mo_L_match : MOK WB md_L_match := ⟨by decide, (wb_5 218 rfl rfl), (wb_1 0 rfl rfl), by decide +kernel, ⟨by decide +kernel, by decide +kernel⟩, rfl, (fun h => by cases h), by decide, ho_L_match⟩
theorem tb_L_idle : TB[128]? = some (md_L_idle, tl_L_idle) := rfl
theorem pr_L_idle : (parseMethodDescriptor (mY md_L_idle).desc).map (fun d => d.parameters.length) = some (mN md_L_idle) := by decide +kernel
theorem st_L_idle : Jvm.Cond.static (mY md_L_idle) ∈ WB := (wb_6 138 rfl rfl)
theorem ho_L_idle : HOK WB md_L_idle := List.forall_mem_cons.mpr ⟨fun _ => ⟨by decide, (wb_4 183 rfl rfl)⟩, fun _ h => absurd h List.not_mem_nil⟩
theorem mo_L_idle : MOK WB md_L_idle := ⟨by decide, (wb_6 139 rfl rfl), (wb_1 0 rfl rfl), by decide +kernel, ⟨by decide +kernel, by decide +kernel⟩, rfl, (fun h => by cases h), by decide, ho_L_idle⟩
theorem tb_X10_drop : TB[129]? = some (md_X10_drop, tl_X10_drop) := rfl
theorem pr_X10_drop : (parseMethodDescriptor (mY md_X10_drop).desc).map (fun d => d.parameters.length) = some (mN md_X10_drop - 1) := by decide +kernel
theorem in_X10_drop : Jvm.Cond.instanceMethod (mY md_X10_drop) ∈ WB := (wb_3 113 rfl rfl)
theorem se_X10_drop : Jvm.Cond.selects (mY md_X10_drop).cls (mY md_X10_drop) (mY md_X10_drop) ∈ WB := (wb_3 114 rfl rfl)
theorem ho_X10_drop : HOK WB md_X10_drop := fun _ h => absurd h List.not_mem_nil
theorem mo_X10_drop : MOK WB md_X10_drop := ⟨by decide, (wb_3 115 rfl rfl), (wb_1 1 rfl rfl), by decide +kernel, ⟨by decide +kernel, by decide +kernel⟩, rfl, (fun h => by cases h), by decide, ho_X10_drop⟩
theorem tb_L_code : TB[130]? = some (md_L_code, tl_L_code) := rfl
theorem pr_L_code : (parseMethodDescriptor (mY md_L_code).desc).map (fun d => d.parameters.length) = some (mN md_L_code) := by decide +kernel
theorem st_L_code : Jvm.Cond.static (mY md_L_code) ∈ WB := (wb_5 176 rfl rfl)
theorem ho_L_code : HOK WB md_L_code := List.forall_mem_cons.mpr ⟨fun _ => ⟨by decide, (wb_5 20 rfl rfl)⟩, List.forall_mem_cons.mpr ⟨fun _ => ⟨by decide, (wb_4 183 rfl rfl)⟩, fun _ h => absurd h List.not_mem_nil⟩⟩
theorem mo_L_code : MOK WB md_L_code := ⟨by decide, (wb_5 177 rfl rfl), (wb_1 0 rfl rfl), by decide +kernel, ⟨by decide +kernel, by decide +kernel⟩, rfl, (fun h => by cases h), by decide, ho_L_code⟩
theorem tb_L_finds : TB[131]? = some (md_L_finds, tl_L_finds) := rfl
theorem pr_L_finds : (parseMethodDescriptor (mY md_L_finds).desc).map (fun d => d.parameters.length) = some (mN md_L_finds) := by decide +kernel
theorem st_L_finds : Jvm.Cond.static (mY md_L_finds) ∈ WB := (wb_6 91 rfl rfl)
theorem ho_L_finds : HOK WB md_L_finds := List.forall_mem_cons.mpr ⟨fun _ => ⟨by decide, (wb_5 20 rfl rfl)⟩, List.forall_mem_cons.mpr ⟨fun _ => ⟨by decide, (wb_4 183 rfl rfl)⟩, fun _ h => absurd h List.not_mem_nil⟩⟩
theorem mo_L_finds : MOK WB md_L_finds := ⟨by decide, (wb_6 92 rfl rfl), (wb_1 0 rfl rfl), by decide +kernel, ⟨by decide +kernel, by decide +kernel⟩, rfl, (fun h => by cases h), by decide, ho_L_finds⟩
theorem tb_X17_pairs : TB[132]? = some (md_X17_pairs, tl_X17_pairs) := rfl
theorem pr_X17_pairs : (parseMethodDescriptor (mY md_X17_pairs).desc).map (fun d => d.parameters.length) = some (mN md_X17_pairs - 1) := by decide +kernel
theorem in_X17_pairs : Jvm.Cond.instanceMethod (mY md_X17_pairs) ∈ WB := (wb_9 206 rfl rfl)
theorem se_X17_pairs : Jvm.Cond.selects (mY md_X17_pairs).cls (mY md_X17_pairs) (mY md_X17_pairs) ∈ WB := (wb_9 207 rfl rfl)
theorem ho_X17_pairs : HOK WB md_X17_pairs := fun _ h => absurd h List.not_mem_nil
theorem mo_X17_pairs : MOK WB md_X17_pairs := ⟨by decide, (wb_9 208 rfl rfl), (wb_1 13 rfl rfl), by decide +kernel, ⟨by decide +kernel, by decide +kernel⟩, rfl, (fun h => by cases h), by decide, ho_X17_pairs⟩
theorem tb_X17_equations : TB[133]? = some (md_X17_equations, tl_X17_equations) := rfl
theorem pr_X17_equations : (parseMethodDescriptor (mY md_X17_equations).desc).map (fun d => d.parameters.length) = some (mN md_X17_equations - 1) := by decide +kernel
theorem in_X17_equations : Jvm.Cond.instanceMethod (mY md_X17_equations) ∈ WB := (wb_10 233 rfl rfl)
theorem se_X17_equations : Jvm.Cond.selects (mY md_X17_equations).cls (mY md_X17_equations) (mY md_X17_equations) ∈ WB := (wb_10 234 rfl rfl)
theorem ho_X17_equations : HOK WB md_X17_equations := fun _ h => absurd h List.not_mem_nil
theorem mo_X17_equations : MOK WB md_X17_equations := ⟨by decide, (wb_10 235 rfl rfl), (wb_1 13 rfl rfl), by decide +kernel, ⟨by decide +kernel, by decide +kernel⟩, rfl, (fun h => by cases h), by decide, ho_X17_equations⟩
theorem tb_L_sortOf : TB[134]? = some (md_L_sortOf, tl_L_sortOf) := rfl
theorem pr_L_sortOf : (parseMethodDescriptor (mY md_L_sortOf).desc).map (fun d => d.parameters.length) = some (mN md_L_sortOf) := by decide +kernel
theorem st_L_sortOf : Jvm.Cond.static (mY md_L_sortOf) ∈ WB := (wb_5 163 rfl rfl)
theorem ho_L_sortOf : HOK WB md_L_sortOf := List.forall_mem_cons.mpr ⟨fun _ => ⟨by decide, (wb_4 183 rfl rfl)⟩, fun _ h => absurd h List.not_mem_nil⟩
theorem mo_L_sortOf : MOK WB md_L_sortOf := ⟨by decide, (wb_5 164 rfl rfl), (wb_1 0 rfl rfl), by decide +kernel, ⟨by decide +kernel, by decide +kernel⟩, rfl, (fun h => by cases h), by decide, ho_L_sortOf⟩
theorem tb_L_matches : TB[135]? = some (md_L_matches, tl_L_matches) := rfl
theorem pr_L_matches : (parseMethodDescriptor (mY md_L_matches).desc).map (fun d => d.parameters.length) = some (mN md_L_matches) := by decide +kernel
theorem st_L_matches : Jvm.Cond.static (mY md_L_matches) ∈ WB := (wb_5 186 rfl rfl)
theorem ho_L_matches : HOK WB md_L_matches := List.forall_mem_cons.mpr ⟨fun _ => ⟨by decide, (wb_4 183 rfl rfl)⟩, fun _ h => absurd h List.not_mem_nil⟩
theorem mo_L_matches : MOK WB md_L_matches := ⟨by decide, (wb_5 187 rfl rfl), (wb_1 0 rfl rfl), by decide +kernel, ⟨by decide +kernel, by decide +kernel⟩, rfl, (fun h => by cases h), by decide, ho_L_matches⟩
theorem tb_L_matchesAnew : TB[136]? = some (md_L_matchesAnew, tl_L_matchesAnew) := rfl
theorem pr_L_matchesAnew : (parseMethodDescriptor (mY md_L_matchesAnew).desc).map (fun d => d.parameters.length) = some (mN md_L_matchesAnew) := by decide +kernel
theorem st_L_matchesAnew : Jvm.Cond.static (mY md_L_matchesAnew) ∈ WB := (wb_5 200 rfl rfl)
theorem ho_L_matchesAnew : HOK WB md_L_matchesAnew := List.forall_mem_cons.mpr ⟨fun _ => ⟨by decide, (wb_4 183 rfl rfl)⟩, fun _ h => absurd h List.not_mem_nil⟩
theorem mo_L_matchesAnew : MOK WB md_L_matchesAnew := ⟨by decide, (wb_5 201 rfl rfl), (wb_1 0 rfl rfl), by decide +kernel, ⟨by decide +kernel, by decide +kernel⟩, rfl, (fun h => by cases h), by decide, ho_L_matchesAnew⟩
theorem tb_L_reduce : TB[137]? = some (md_L_reduce, tl_L_reduce) := rfl
theorem pr_L_reduce : (parseMethodDescriptor (mY md_L_reduce).desc).map (fun d => d.parameters.length) = some (mN md_L_reduce) := by decide +kernel
theorem st_L_reduce : Jvm.Cond.static (mY md_L_reduce) ∈ WB := (wb_6 1 rfl rfl)
theorem ho_L_reduce : HOK WB md_L_reduce := List.forall_mem_cons.mpr ⟨fun _ => ⟨by decide, (wb_4 183 rfl rfl)⟩, fun _ h => absurd h List.not_mem_nil⟩
theorem mo_L_reduce : MOK WB md_L_reduce := ⟨by decide, (wb_6 2 rfl rfl), (wb_1 0 rfl rfl), by decide +kernel, ⟨by decide +kernel, by decide +kernel⟩, rfl, (fun h => by cases h), by decide, ho_L_reduce⟩
theorem tb_L_fitting : TB[138]? = some (md_L_fitting, tl_L_fitting) := rfl
theorem pr_L_fitting : (parseMethodDescriptor (mY md_L_fitting).desc).map (fun d => d.parameters.length) = some (mN md_L_fitting) := by decide +kernel
theorem st_L_fitting : Jvm.Cond.static (mY md_L_fitting) ∈ WB := (wb_6 9 rfl rfl)
theorem ho_L_fitting : HOK WB md_L_fitting := List.forall_mem_cons.mpr ⟨fun _ => ⟨by decide, (wb_4 183 rfl rfl)⟩, fun _ h => absurd h List.not_mem_nil⟩
theorem mo_L_fitting : MOK WB md_L_fitting := ⟨by decide, (wb_6 10 rfl rfl), (wb_1 0 rfl rfl), by decide +kernel, ⟨by decide +kernel, by decide +kernel⟩, rfl, (fun h => by cases h), by decide, ho_L_fitting⟩
theorem tb_L_matching : TB[139]? = some (md_L_matching, tl_L_matching) := rfl
theorem pr_L_matching : (parseMethodDescriptor (mY md_L_matching).desc).map (fun d => d.parameters.length) = some (mN md_L_matching) := by decide +kernel
theorem st_L_matching : Jvm.Cond.static (mY md_L_matching) ∈ WB := (wb_6 17 rfl rfl)
theorem ho_L_matching : HOK WB md_L_matching := List.forall_mem_cons.mpr ⟨fun _ => ⟨by decide, (wb_4 183 rfl rfl)⟩, fun _ h => absurd h List.not_mem_nil⟩
theorem mo_L_matching : MOK WB md_L_matching := ⟨by decide, (wb_6 18 rfl rfl), (wb_1 0 rfl rfl), by decide +kernel, ⟨by decide +kernel, by decide +kernel⟩, rfl, (fun h => by cases h), by decide, ho_L_matching⟩
theorem tb_L_search : TB[140]? = some (md_L_search, tl_L_search) := rfl
theorem pr_L_search : (parseMethodDescriptor (mY md_L_search).desc).map (fun d => d.parameters.length) = some (mN md_L_search) := by decide +kernel
theorem st_L_search : Jvm.Cond.static (mY md_L_search) ∈ WB := (wb_6 24 rfl rfl)
theorem ho_L_search : HOK WB md_L_search := List.forall_mem_cons.mpr ⟨fun _ => ⟨by decide, (wb_4 183 rfl rfl)⟩, fun _ h => absurd h List.not_mem_nil⟩
theorem mo_L_search : MOK WB md_L_search := ⟨by decide, (wb_6 25 rfl rfl), (wb_1 0 rfl rfl), by decide +kernel, ⟨by decide +kernel, by decide +kernel⟩, rfl, (fun h => by cases h), by decide, ho_L_search⟩
theorem tb_L_test : TB[141]? = some (md_L_test, tl_L_test) := rfl
theorem pr_L_test : (parseMethodDescriptor (mY md_L_test).desc).map (fun d => d.parameters.length) = some (mN md_L_test) := by decide +kernel
theorem st_L_test : Jvm.Cond.static (mY md_L_test) ∈ WB := (wb_6 145 rfl rfl)
theorem ho_L_test : HOK WB md_L_test := List.forall_mem_cons.mpr ⟨fun _ => ⟨by decide, (wb_4 183 rfl rfl)⟩, fun _ h => absurd h List.not_mem_nil⟩
theorem mo_L_test : MOK WB md_L_test := ⟨by decide, (wb_6 146 rfl rfl), (wb_1 0 rfl rfl), by decide +kernel, ⟨by decide +kernel, by decide +kernel⟩, rfl, (fun h => by cases h), by decide, ho_L_test⟩
theorem tb_L_many : TB[142]? = some (md_L_many, tl_L_many) := rfl
theorem pr_L_many : (parseMethodDescriptor (mY md_L_many).desc).map (fun d => d.parameters.length) = some (mN md_L_many) := by decide +kernel
theorem st_L_many : Jvm.Cond.static (mY md_L_many) ∈ WB := (wb_6 181 rfl rfl)
theorem ho_L_many : HOK WB md_L_many := List.forall_mem_cons.mpr ⟨fun _ => ⟨by decide, (wb_4 183 rfl rfl)⟩, fun _ h => absurd h List.not_mem_nil⟩
theorem mo_L_many : MOK WB md_L_many := ⟨by decide, (wb_6 182 rfl rfl), (wb_1 0 rfl rfl), by decide +kernel, ⟨by decide +kernel, by decide +kernel⟩, rfl, (fun h => by cases h), by decide, ho_L_many⟩
theorem tb_L_run : TB[143]? = some (md_L_run, tl_L_run) := rfl
theorem pr_L_run : (parseMethodDescriptor (mY md_L_run).desc).map (fun d => d.parameters.length) = some (mN md_L_run) := by decide +kernel
theorem st_L_run : Jvm.Cond.static (mY md_L_run) ∈ WB := (wb_6 194 rfl rfl)
theorem ho_L_run : HOK WB md_L_run := List.forall_mem_cons.mpr ⟨fun _ => ⟨by decide, (wb_4 183 rfl rfl)⟩, fun _ h => absurd h List.not_mem_nil⟩
theorem mo_L_run : MOK WB md_L_run := ⟨by decide, (wb_6 195 rfl rfl), (wb_1 0 rfl rfl), by decide +kernel, ⟨by decide +kernel, by decide +kernel⟩, rfl, (fun h => by cases h), by decide, ho_L_run⟩
theorem tb_X10_many : TB[144]? = some (md_X10_many, tl_X10_many) := rfl
theorem pr_X10_many : (parseMethodDescriptor (mY md_X10_many).desc).map (fun d => d.parameters.length) = some (mN md_X10_many - 1) := by decide +kernel
theorem in_X10_many : Jvm.Cond.instanceMethod (mY md_X10_many) ∈ WB := (wb_6 184 rfl rfl)
theorem se_X10_many : Jvm.Cond.selects (mY md_X10_many).cls (mY md_X10_many) (mY md_X10_many) ∈ WB := (wb_6 185 rfl rfl)
theorem ho_X10_many : HOK WB md_X10_many := fun _ h => absurd h List.not_mem_nil
theorem mo_X10_many : MOK WB md_X10_many := ⟨by decide, (wb_6 186 rfl rfl), (wb_1 1 rfl rfl), by decide +kernel, ⟨by decide +kernel, by decide +kernel⟩, rfl, (fun h => by cases h), by decide, ho_X10_many⟩
theorem tb_X10_run : TB[145]? = some (md_X10_run, tl_X10_run) := rfl
theorem pr_X10_run : (parseMethodDescriptor (mY md_X10_run).desc).map (fun d => d.parameters.length) = some (mN md_X10_run - 1) := by decide +kernel
theorem in_X10_run : Jvm.Cond.instanceMethod (mY md_X10_run) ∈ WB := (wb_6 197 rfl rfl)
theorem se_X10_run : Jvm.Cond.selects (mY md_X10_run).cls (mY md_X10_run) (mY md_X10_run) ∈ WB := (wb_6 198 rfl rfl)
theorem ho_X10_run : HOK WB md_X10_run := fun _ h => absurd h List.not_mem_nil
theorem mo_X10_run : MOK WB md_X10_run := ⟨by decide, (wb_6 199 rfl rfl), (wb_1 1 rfl rfl), by decide +kernel, ⟨by decide +kernel, by decide +kernel⟩, rfl, (fun h => by cases h), by decide, ho_X10_run⟩
theorem tb_X17_isCut : TB[146]? = some (md_X17_isCut, tl_X17_isCut) := rfl
theorem pr_X17_isCut : (parseMethodDescriptor (mY md_X17_isCut).desc).map (fun d => d.parameters.length) = some (mN md_X17_isCut - 1) := by decide +kernel
theorem in_X17_isCut : Jvm.Cond.instanceMethod (mY md_X17_isCut) ∈ WB := (wb_9 97 rfl rfl)
theorem se_X17_isCut : Jvm.Cond.selects (mY md_X17_isCut).cls (mY md_X17_isCut) (mY md_X17_isCut) ∈ WB := (wb_9 98 rfl rfl)
theorem ho_X17_isCut : HOK WB md_X17_isCut := fun _ h => absurd h List.not_mem_nil
theorem mo_X17_isCut : MOK WB md_X17_isCut := ⟨by decide, (wb_9 99 rfl rfl), (wb_1 13 rfl rfl), by decide +kernel, ⟨by decide +kernel, by decide +kernel⟩, rfl, (fun h => by cases h), by decide, ho_X17_isCut⟩
theorem tb_X10_sortOf : TB[147]? = some (md_X10_sortOf, tl_X10_sortOf) := rfl
theorem pr_X10_sortOf : (parseMethodDescriptor (mY md_X10_sortOf).desc).map (fun d => d.parameters.length) = some (mN md_X10_sortOf - 1) := by decide +kernel
theorem in_X10_sortOf : Jvm.Cond.instanceMethod (mY md_X10_sortOf) ∈ WB := (wb_5 166 rfl rfl)
theorem se_X10_sortOf : Jvm.Cond.selects (mY md_X10_sortOf).cls (mY md_X10_sortOf) (mY md_X10_sortOf) ∈ WB := (wb_5 167 rfl rfl)
theorem ho_X10_sortOf : HOK WB md_X10_sortOf := fun _ h => absurd h List.not_mem_nil
theorem mo_X10_sortOf : MOK WB md_X10_sortOf := ⟨by decide, (wb_5 168 rfl rfl), (wb_1 1 rfl rfl), by decide +kernel, ⟨by decide +kernel, by decide +kernel⟩, rfl, (fun h => by cases h), by decide, ho_X10_sortOf⟩
theorem tb_X10_code : TB[148]? = some (md_X10_code, tl_X10_code) := rfl
theorem pr_X10_code : (parseMethodDescriptor (mY md_X10_code).desc).map (fun d => d.parameters.length) = some (mN md_X10_code - 1) := by decide +kernel
theorem in_X10_code : Jvm.Cond.instanceMethod (mY md_X10_code) ∈ WB := (wb_5 179 rfl rfl)
theorem se_X10_code : Jvm.Cond.selects (mY md_X10_code).cls (mY md_X10_code) (mY md_X10_code) ∈ WB := (wb_5 180 rfl rfl)
theorem ho_X10_code : HOK WB md_X10_code := fun _ h => absurd h List.not_mem_nil
theorem mo_X10_code : MOK WB md_X10_code := ⟨by decide, (wb_5 181 rfl rfl), (wb_1 1 rfl rfl), by decide +kernel, ⟨by decide +kernel, by decide +kernel⟩, rfl, (fun h => by cases h), by decide, ho_X10_code⟩
theorem tb_X10_matches : TB[149]? = some (md_X10_matches, tl_X10_matches) := rfl
theorem pr_X10_matches : (parseMethodDescriptor (mY md_X10_matches).desc).map (fun d => d.parameters.length) = some (mN md_X10_matches - 1) := by decide +kernel
theorem in_X10_matches : Jvm.Cond.instanceMethod (mY md_X10_matches) ∈ WB := (wb_5 189 rfl rfl)
theorem se_X10_matches : Jvm.Cond.selects (mY md_X10_matches).cls (mY md_X10_matches) (mY md_X10_matches) ∈ WB := (wb_5 190 rfl rfl)
theorem ho_X10_matches : HOK WB md_X10_matches := fun _ h => absurd h List.not_mem_nil
theorem mo_X10_matches : MOK WB md_X10_matches := ⟨by decide, (wb_5 191 rfl rfl), (wb_1 1 rfl rfl), by decide +kernel, ⟨by decide +kernel, by decide +kernel⟩, rfl, (fun h => by cases h), by decide, ho_X10_matches⟩
theorem tb_X10_matchesAnew : TB[150]? = some (md_X10_matchesAnew, tl_X10_matchesAnew) := rfl
theorem pr_X10_matchesAnew : (parseMethodDescriptor (mY md_X10_matchesAnew).desc).map (fun d => d.parameters.length) = some (mN md_X10_matchesAnew - 1) := by decide +kernel
theorem in_X10_matchesAnew : Jvm.Cond.instanceMethod (mY md_X10_matchesAnew) ∈ WB := (wb_5 203 rfl rfl)
theorem se_X10_matchesAnew : Jvm.Cond.selects (mY md_X10_matchesAnew).cls (mY md_X10_matchesAnew) (mY md_X10_matchesAnew) ∈ WB := (wb_5 204 rfl rfl)
theorem ho_X10_matchesAnew : HOK WB md_X10_matchesAnew := fun _ h => absurd h List.not_mem_nil
theorem mo_X10_matchesAnew : MOK WB md_X10_matchesAnew := ⟨by decide, (wb_5 205 rfl rfl), (wb_1 1 rfl rfl), by decide +kernel, ⟨by decide +kernel, by decide +kernel⟩, rfl, (fun h => by cases h), by decide, ho_X10_matchesAnew⟩
theorem tb_X10_match : TB[151]? = some (md_X10_match, tl_X10_match) := rfl
theorem pr_X10_match : (parseMethodDescriptor (mY md_X10_match).desc).map (fun d => d.parameters.length) = some (mN md_X10_match - 1) := by decide +kernel
theorem in_X10_match : Jvm.Cond.instanceMethod (mY md_X10_match) ∈ WB := (wb_5 220 rfl rfl)
theorem se_X10_match : Jvm.Cond.selects (mY md_X10_match).cls (mY md_X10_match) (mY md_X10_match) ∈ WB := (wb_5 221 rfl rfl)
theorem ho_X10_match : HOK WB md_X10_match := fun _ h => absurd h List.not_mem_nil
theorem mo_X10_match : MOK WB md_X10_match := ⟨by decide, (wb_5 222 rfl rfl), (wb_1 1 rfl rfl), by decide +kernel, ⟨by decide +kernel, by decide +kernel⟩, rfl, (fun h => by cases h), by decide, ho_X10_match⟩
theorem tb_X10_equations : TB[152]? = some (md_X10_equations, tl_X10_equations) := rfl
theorem pr_X10_equations : (parseMethodDescriptor (mY md_X10_equations).desc).map (fun d => d.parameters.length) = some (mN md_X10_equations - 1) := by decide +kernel
theorem in_X10_equations : Jvm.Cond.instanceMethod (mY md_X10_equations) ∈ WB := (wb_3 117 rfl rfl)
theorem se_X10_equations : Jvm.Cond.selects (mY md_X10_equations).cls (mY md_X10_equations) (mY md_X10_equations) ∈ WB := (wb_3 118 rfl rfl)
theorem ho_X10_equations : HOK WB md_X10_equations := fun _ h => absurd h List.not_mem_nil
theorem mo_X10_equations : MOK WB md_X10_equations := ⟨by decide, (wb_3 119 rfl rfl), (wb_1 1 rfl rfl), by decide +kernel, ⟨by decide +kernel, by decide +kernel⟩, rfl, (fun h => by cases h), by decide, ho_X10_equations⟩
theorem tb_X10_reduce : TB[153]? = some (md_X10_reduce, tl_X10_reduce) := rfl
theorem pr_X10_reduce : (parseMethodDescriptor (mY md_X10_reduce).desc).map (fun d => d.parameters.length) = some (mN md_X10_reduce - 1) := by decide +kernel
theorem in_X10_reduce : Jvm.Cond.instanceMethod (mY md_X10_reduce) ∈ WB := (wb_6 4 rfl rfl)
theorem se_X10_reduce : Jvm.Cond.selects (mY md_X10_reduce).cls (mY md_X10_reduce) (mY md_X10_reduce) ∈ WB := (wb_6 5 rfl rfl)
theorem ho_X10_reduce : HOK WB md_X10_reduce := fun _ h => absurd h List.not_mem_nil
theorem mo_X10_reduce : MOK WB md_X10_reduce := ⟨by decide, (wb_6 6 rfl rfl), (wb_1 1 rfl rfl), by decide +kernel, ⟨by decide +kernel, by decide +kernel⟩, rfl, (fun h => by cases h), by decide, ho_X10_reduce⟩
theorem tb_X10_fitting : TB[154]? = some (md_X10_fitting, tl_X10_fitting) := rfl
theorem pr_X10_fitting : (parseMethodDescriptor (mY md_X10_fitting).desc).map (fun d => d.parameters.length) = some (mN md_X10_fitting - 1) := by decide +kernel
theorem in_X10_fitting : Jvm.Cond.instanceMethod (mY md_X10_fitting) ∈ WB := (wb_6 12 rfl rfl)
theorem se_X10_fitting : Jvm.Cond.selects (mY md_X10_fitting).cls (mY md_X10_fitting) (mY md_X10_fitting) ∈ WB := (wb_6 13 rfl rfl)
theorem ho_X10_fitting : HOK WB md_X10_fitting := fun _ h => absurd h List.not_mem_nil
theorem mo_X10_fitting : MOK WB md_X10_fitting := ⟨by decide, (wb_6 14 rfl rfl), (wb_1 1 rfl rfl), by decide +kernel, ⟨by decide +kernel, by decide +kernel⟩, rfl, (fun h => by cases h), by decide, ho_X10_fitting⟩
theorem tb_X10_matching : TB[155]? = some (md_X10_matching, tl_X10_matching) := rfl
theorem pr_X10_matching : (parseMethodDescriptor (mY md_X10_matching).desc).map (fun d => d.parameters.length) = some (mN md_X10_matching - 1) := by decide +kernel
theorem in_X10_matching : Jvm.Cond.instanceMethod (mY md_X10_matching) ∈ WB := (wb_6 20 rfl rfl)
theorem se_X10_matching : Jvm.Cond.selects (mY md_X10_matching).cls (mY md_X10_matching) (mY md_X10_matching) ∈ WB := (wb_6 21 rfl rfl)
theorem ho_X10_matching : HOK WB md_X10_matching := fun _ h => absurd h List.not_mem_nil
theorem mo_X10_matching : MOK WB md_X10_matching := ⟨by decide, (wb_6 22 rfl rfl), (wb_1 1 rfl rfl), by decide +kernel, ⟨by decide +kernel, by decide +kernel⟩, rfl, (fun h => by cases h), by decide, ho_X10_matching⟩
theorem tb_X10_search : TB[156]? = some (md_X10_search, tl_X10_search) := rfl
theorem pr_X10_search : (parseMethodDescriptor (mY md_X10_search).desc).map (fun d => d.parameters.length) = some (mN md_X10_search - 1) := by decide +kernel
theorem in_X10_search : Jvm.Cond.instanceMethod (mY md_X10_search) ∈ WB := (wb_6 27 rfl rfl)
theorem se_X10_search : Jvm.Cond.selects (mY md_X10_search).cls (mY md_X10_search) (mY md_X10_search) ∈ WB := (wb_6 28 rfl rfl)
theorem ho_X10_search : HOK WB md_X10_search := fun _ h => absurd h List.not_mem_nil
theorem mo_X10_search : MOK WB md_X10_search := ⟨by decide, (wb_6 29 rfl rfl), (wb_1 1 rfl rfl), by decide +kernel, ⟨by decide +kernel, by decide +kernel⟩, rfl, (fun h => by cases h), by decide, ho_X10_search⟩
theorem tb_X10_isCut : TB[157]? = some (md_X10_isCut, tl_X10_isCut) := rfl
theorem pr_X10_isCut : (parseMethodDescriptor (mY md_X10_isCut).desc).map (fun d => d.parameters.length) = some (mN md_X10_isCut - 1) := by decide +kernel
theorem in_X10_isCut : Jvm.Cond.instanceMethod (mY md_X10_isCut) ∈ WB := (wb_3 121 rfl rfl)
theorem se_X10_isCut : Jvm.Cond.selects (mY md_X10_isCut).cls (mY md_X10_isCut) (mY md_X10_isCut) ∈ WB := (wb_3 122 rfl rfl)
theorem ho_X10_isCut : HOK WB md_X10_isCut := fun _ h => absurd h List.not_mem_nil
theorem mo_X10_isCut : MOK WB md_X10_isCut := ⟨by decide, (wb_3 123 rfl rfl), (wb_1 1 rfl rfl), by decide +kernel, ⟨by decide +kernel, by decide +kernel⟩, rfl, (fun h => by cases h), by decide, ho_X10_isCut⟩
theorem tb_X10_finds : TB[158]? = some (md_X10_finds, tl_X10_finds) := rfl
theorem pr_X10_finds : (parseMethodDescriptor (mY md_X10_finds).desc).map (fun d => d.parameters.length) = some (mN md_X10_finds - 1) := by decide +kernel
theorem in_X10_finds : Jvm.Cond.instanceMethod (mY md_X10_finds) ∈ WB := (wb_6 94 rfl rfl)
theorem se_X10_finds : Jvm.Cond.selects (mY md_X10_finds).cls (mY md_X10_finds) (mY md_X10_finds) ∈ WB := (wb_6 95 rfl rfl)
theorem ho_X10_finds : HOK WB md_X10_finds := fun _ h => absurd h List.not_mem_nil
theorem mo_X10_finds : MOK WB md_X10_finds := ⟨by decide, (wb_6 96 rfl rfl), (wb_1 1 rfl rfl), by decide +kernel, ⟨by decide +kernel, by decide +kernel⟩, rfl, (fun h => by cases h), by decide, ho_X10_finds⟩
theorem tb_X10_test : TB[159]? = some (md_X10_test, tl_X10_test) := rfl
theorem pr_X10_test : (parseMethodDescriptor (mY md_X10_test).desc).map (fun d => d.parameters.length) = some (mN md_X10_test - 1) := by decide +kernel
theorem in_X10_test : Jvm.Cond.instanceMethod (mY md_X10_test) ∈ WB := (wb_6 148 rfl rfl)
theorem se_X10_test : Jvm.Cond.selects (mY md_X10_test).cls (mY md_X10_test) (mY md_X10_test) ∈ WB := (wb_6 149 rfl rfl)
theorem ho_X10_test : HOK WB md_X10_test := fun _ h => absurd h List.not_mem_nil
theorem mo_X10_test : MOK WB md_X10_test := ⟨by decide, (wb_6 150 rfl rfl), (wb_1 1 rfl rfl), by decide +kernel, ⟨by decide +kernel, by decide +kernel⟩, rfl, (fun h => by cases h), by decide, ho_X10_test⟩
end
section
theorem r_X10_operator_0 : IOK WB AD SR FW TB md_X10_operator 0 (.iload_n 3, 0, 0, 0, []) := io_plain (by decide +kernel) rfl
theorem r_X10_operator_1 : IOK WB AD SR FW TB md_X10_operator 1 (.iconst (-1), 0, 0, 0, []) := io_plain (by decide +kernel) rfl
theorem r_X10_operator_2 : IOK WB AD SR FW TB md_X10_operator 2 (.if_icmp .eq 24, 0, 0, 0, []) := io_plain (by decide +kernel) rfl
theorem r_X10_operator_5 : IOK WB AD SR FW TB md_X10_operator 5 (.aload_n 0, 0, 0, 0, []) := io_plain (by decide +kernel) rfl
theorem r_X10_operator_6 : IOK WB AD SR FW TB md_X10_operator 6 (.getfield 12, 11, 0, 2, []) := io_get (by decide +kernel) fo_RX10_12
theorem r_X10_operator_9 : IOK WB AD SR FW TB md_X10_operator 9 (.iload_n 3, 0, 0, 0, []) := io_plain (by decide +kernel) rfl
theorem r_X10_operator_10 : IOK WB AD SR FW TB md_X10_operator 10 (.invokevirtual 126, 24, 8, 0, []) := io_virt (by decide +kernel) tb_X7_hasOperator (wb_5 91 rfl rfl) in_X7_hasOperator se_X7_hasOperator ⟨_, rfl, rfl⟩ pr_X7_hasOperator (by decide)
theorem r_X10_operator_13 : IOK WB AD SR FW TB md_X10_operator 13 (.ifCond .ne 13, 0, 0, 0, []) := io_plain (by decide +kernel) rfl
set_option maxRecDepth 100000 in
theorem r_X10_operator_16 : IOK WB AD SR FW TB md_X10_operator 16 (.new 93, 101, 129, 97, []) := io_thx 1 rfl (thk_mk RX10 rfl 93 129 97 1 "there is no such identity" false (List.mem_of_getElem? (i := 0) rfl) (by decide) (by decide +kernel) (by decide +kernel) ⟨by decide +kernel, by decide +kernel, by decide +kernel⟩ (wb_5 29 rfl rfl) (wb_1 22 rfl rfl) at_RX10_97_1 rfl) (by decide +kernel)
theorem r_X10_operator_19 : IOK WB AD SR FW TB md_X10_operator 19 (.dup, 0, 0, 0, []) := io_plain (by decide +kernel) rfl
theorem r_X10_operator_26 : IOK WB AD SR FW TB md_X10_operator 26 (.iload_n 1, 0, 0, 0, []) := io_plain (by decide +kernel) rfl
theorem r_X10_operator_27 : IOK WB AD SR FW TB md_X10_operator 27 (.ifCond .lt 17, 0, 0, 0, []) := io_plain (by decide +kernel) rfl
theorem r_X10_operator_30 : IOK WB AD SR FW TB md_X10_operator 30 (.iload_n 1, 0, 0, 0, []) := io_plain (by decide +kernel) rfl
theorem r_X10_operator_31 : IOK WB AD SR FW TB md_X10_operator 31 (.iconst 3, 0, 0, 0, []) := io_plain (by decide +kernel) rfl
theorem r_X10_operator_32 : IOK WB AD SR FW TB md_X10_operator 32 (.if_icmp .gt 12, 0, 0, 0, []) := io_plain (by decide +kernel) rfl
theorem r_X10_operator_35 : IOK WB AD SR FW TB md_X10_operator 35 (.iload_n 2, 0, 0, 0, []) := io_plain (by decide +kernel) rfl
theorem r_X10_operator_36 : IOK WB AD SR FW TB md_X10_operator 36 (.ifCond .lt 8, 0, 0, 0, []) := io_plain (by decide +kernel) rfl
theorem r_X10_operator_39 : IOK WB AD SR FW TB md_X10_operator 39 (.iload_n 2, 0, 0, 0, []) := io_plain (by decide +kernel) rfl
theorem r_X10_operator_40 : IOK WB AD SR FW TB md_X10_operator 40 (.iconst 3, 0, 0, 0, []) := io_plain (by decide +kernel) rfl
theorem r_X10_operator_41 : IOK WB AD SR FW TB md_X10_operator 41 (.if_icmp .le 13, 0, 0, 0, []) := io_plain (by decide +kernel) rfl
set_option maxRecDepth 100000 in
theorem r_X10_operator_44 : IOK WB AD SR FW TB md_X10_operator 44 (.new 111, 102, 131, 115, []) := io_thx 2 rfl (thk_mk RX10 rfl 111 131 115 2 "arity or axioms are out of range" false (List.mem_of_getElem? (i := 1) rfl) (by decide) (by decide +kernel) (by decide +kernel) ⟨by decide +kernel, by decide +kernel, by decide +kernel⟩ (wb_5 63 rfl rfl) (wb_1 23 rfl rfl) at_RX10_115_2 rfl) (by decide +kernel)
theorem r_X10_operator_47 : IOK WB AD SR FW TB md_X10_operator 47 (.dup, 0, 0, 0, []) := io_plain (by decide +kernel) rfl
theorem r_X10_operator_54 : IOK WB AD SR FW TB md_X10_operator 54 (.iload_n 2, 0, 0, 0, []) := io_plain (by decide +kernel) rfl
theorem r_X10_operator_55 : IOK WB AD SR FW TB md_X10_operator 55 (.ifCond .eq 18, 0, 0, 0, []) := io_plain (by decide +kernel) rfl
theorem r_X10_operator_58 : IOK WB AD SR FW TB md_X10_operator 58 (.iload_n 1, 0, 0, 0, []) := io_plain (by decide +kernel) rfl
theorem r_X10_operator_59 : IOK WB AD SR FW TB md_X10_operator 59 (.iconst 2, 0, 0, 0, []) := io_plain (by decide +kernel) rfl
theorem r_X10_operator_60 : IOK WB AD SR FW TB md_X10_operator 60 (.if_icmp .eq 13, 0, 0, 0, []) := io_plain (by decide +kernel) rfl
set_option maxRecDepth 100000 in
theorem r_X10_operator_63 : IOK WB AD SR FW TB md_X10_operator 63 (.new 111, 102, 133, 115, []) := io_thx 2 rfl (thk_mk RX10 rfl 111 133 115 2 "axioms go with the arity 2 only" false (List.mem_of_getElem? (i := 2) rfl) (by decide) (by decide +kernel) (by decide +kernel) ⟨by decide +kernel, by decide +kernel, by decide +kernel⟩ (wb_5 63 rfl rfl) (wb_1 23 rfl rfl) at_RX10_115_2 rfl) (by decide +kernel)
theorem r_X10_operator_66 : IOK WB AD SR FW TB md_X10_operator 66 (.dup, 0, 0, 0, []) := io_plain (by decide +kernel) rfl
theorem r_X10_operator_73 : IOK WB AD SR FW TB md_X10_operator 73 (.iload_n 3, 0, 0, 0, []) := io_plain (by decide +kernel) rfl
theorem r_X10_operator_74 : IOK WB AD SR FW TB md_X10_operator 74 (.iconst (-1), 0, 0, 0, []) := io_plain (by decide +kernel) rfl
theorem r_X10_operator_75 : IOK WB AD SR FW TB md_X10_operator 75 (.if_icmp .eq 30, 0, 0, 0, []) := io_plain (by decide +kernel) rfl
theorem r_X10_operator_105 : IOK WB AD SR FW TB md_X10_operator 105 (.aload_n 0, 0, 0, 0, []) := io_plain (by decide +kernel) rfl
theorem r_X10_operator_106 : IOK WB AD SR FW TB md_X10_operator 106 (.getfield 12, 11, 0, 2, []) := io_get (by decide +kernel) fo_RX10_12
theorem r_X10_operator_109 : IOK WB AD SR FW TB md_X10_operator 109 (.getfield 140, 8, 1, 0, []) := io_get (by decide +kernel) fo_RX10_140
theorem r_X10_operator_112 : IOK WB AD SR FW TB md_X10_operator 112 (.bipush 16, 0, 0, 0, []) := io_plain (by decide +kernel) rfl
theorem r_X10_operator_114 : IOK WB AD SR FW TB md_X10_operator 114 (.if_icmp .lt 13, 0, 0, 0, []) := io_plain (by decide +kernel) rfl
theorem r_X10_operator_127 : IOK WB AD SR FW TB md_X10_operator 127 (.aload_n 0, 0, 0, 0, []) := io_plain (by decide +kernel) rfl
theorem r_X10_operator_128 : IOK WB AD SR FW TB md_X10_operator 128 (.getfield 12, 11, 0, 2, []) := io_get (by decide +kernel) fo_RX10_12
theorem r_X10_operator_131 : IOK WB AD SR FW TB md_X10_operator 131 (.iload_n 1, 0, 0, 0, []) := io_plain (by decide +kernel) rfl
set_option maxRecDepth 100000 in
theorem ok_X10_operator_0 : ∀ q ∈ tl_X10_operator_0, IOK WB AD SR FW TB md_X10_operator q.1 q.2 := List.forall_mem_cons.mpr ⟨r_X10_operator_0, List.forall_mem_cons.mpr ⟨r_X10_operator_1, List.forall_mem_cons.mpr ⟨r_X10_operator_2, List.forall_mem_cons.mpr ⟨r_X10_operator_5, List.forall_mem_cons.mpr ⟨r_X10_operator_6, List.forall_mem_cons.mpr ⟨r_X10_operator_9, List.forall_mem_cons.mpr ⟨r_X10_operator_10, List.forall_mem_cons.mpr ⟨r_X10_operator_13, List.forall_mem_cons.mpr ⟨r_X10_operator_16, List.forall_mem_cons.mpr ⟨r_X10_operator_19, List.forall_mem_cons.mpr ⟨r_X10_operator_26, List.forall_mem_cons.mpr ⟨r_X10_operator_27, List.forall_mem_cons.mpr ⟨r_X10_operator_30, List.forall_mem_cons.mpr ⟨r_X10_operator_31, List.forall_mem_cons.mpr ⟨r_X10_operator_32, List.forall_mem_cons.mpr ⟨r_X10_operator_35, List.forall_mem_cons.mpr ⟨r_X10_operator_36, List.forall_mem_cons.mpr ⟨r_X10_operator_39, List.forall_mem_cons.mpr ⟨r_X10_operator_40, List.forall_mem_cons.mpr ⟨r_X10_operator_41, List.forall_mem_cons.mpr ⟨r_X10_operator_44, List.forall_mem_cons.mpr ⟨r_X10_operator_47, List.forall_mem_cons.mpr ⟨r_X10_operator_54, List.forall_mem_cons.mpr ⟨r_X10_operator_55, List.forall_mem_cons.mpr ⟨r_X10_operator_58, List.forall_mem_cons.mpr ⟨r_X10_operator_59, List.forall_mem_cons.mpr ⟨r_X10_operator_60, List.forall_mem_cons.mpr ⟨r_X10_operator_63, List.forall_mem_cons.mpr ⟨r_X10_operator_66, List.forall_mem_cons.mpr ⟨r_X10_operator_73, List.forall_mem_cons.mpr ⟨r_X10_operator_74, List.forall_mem_cons.mpr ⟨r_X10_operator_75, List.forall_mem_cons.mpr ⟨r_X10_operator_105, List.forall_mem_cons.mpr ⟨r_X10_operator_106, List.forall_mem_cons.mpr ⟨r_X10_operator_109, List.forall_mem_cons.mpr ⟨r_X10_operator_112, List.forall_mem_cons.mpr ⟨r_X10_operator_114, List.forall_mem_cons.mpr ⟨r_X10_operator_127, List.forall_mem_cons.mpr ⟨r_X10_operator_128, List.forall_mem_cons.mpr ⟨r_X10_operator_131, fun _ h => absurd h List.not_mem_nil⟩⟩⟩⟩⟩⟩⟩⟩⟩⟩⟩⟩⟩⟩⟩⟩⟩⟩⟩⟩⟩⟩⟩⟩⟩⟩⟩⟩⟩⟩⟩⟩⟩⟩⟩⟩⟩⟩⟩⟩
set_option maxRecDepth 100000 in
theorem tq_X10_operator_0 : tf_X10_operator_0 = tl_X10_operator_0.map (fun q => (q.1, stepOf NPf md_X10_operator q.2)) := rfl
theorem r_X10_operator_132 : IOK WB AD SR FW TB md_X10_operator 132 (.iload_n 2, 0, 0, 0, []) := io_plain (by decide +kernel) rfl
theorem r_X10_operator_133 : IOK WB AD SR FW TB md_X10_operator 133 (.iload_n 3, 0, 0, 0, []) := io_plain (by decide +kernel) rfl
theorem r_X10_operator_134 : IOK WB AD SR FW TB md_X10_operator 134 (.invokevirtual 145, 35, 8, 0, []) := io_virt (by decide +kernel) tb_X7_addOperator (wb_5 100 rfl rfl) in_X7_addOperator se_X7_addOperator ⟨_, rfl, rfl⟩ pr_X7_addOperator (by decide)
theorem r_X10_operator_137 : IOK WB AD SR FW TB md_X10_operator 137 (.ireturn, 0, 0, 0, []) := io_plain (by decide +kernel) rfl
set_option maxRecDepth 100000 in
theorem ok_X10_operator_1 : ∀ q ∈ tl_X10_operator_1, IOK WB AD SR FW TB md_X10_operator q.1 q.2 := List.forall_mem_cons.mpr ⟨r_X10_operator_132, List.forall_mem_cons.mpr ⟨r_X10_operator_133, List.forall_mem_cons.mpr ⟨r_X10_operator_134, List.forall_mem_cons.mpr ⟨r_X10_operator_137, fun _ h => absurd h List.not_mem_nil⟩⟩⟩⟩
set_option maxRecDepth 100000 in
theorem tq_X10_operator_1 : tf_X10_operator_1 = tl_X10_operator_1.map (fun q => (q.1, stepOf NPf md_X10_operator q.2)) := rfl
theorem ro_X10_operator : RowsOK (md_X10_operator, tl_X10_operator) tf_X10_operator := rows_app ⟨tq_X10_operator_0, ok_X10_operator_0⟩ (⟨tq_X10_operator_1, ok_X10_operator_1⟩)
theorem r_L_operator_7 : IOK WB AD SR FW TB md_L_operator 7 (.invokevirtual 27, 20, 11, 0, []) := io_virt (by decide +kernel) tb_X10_operator (wb_5 87 rfl rfl) in_X10_operator se_X10_operator ⟨_, rfl, rfl⟩ pr_X10_operator (by decide)
end
