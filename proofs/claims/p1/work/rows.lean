section
-- ===== PART A: goes FIRST, ahead of the names: the tables' words, and 'selects' of the private methods out of them =====
/-- a private method of a class that the tables say can be made, by its rows of tables_1 -/
def lw_okq (q : MethodName × Nat) : Prop := (q.1.cls ≠ "java/lang/invoke/MethodHandle" ∧ q.1.cls ≠ "java/lang/invoke/VarHandle") ∧ Cond.instantiable q.1.cls q.2 ∈ tables_1 ∧ Cond.privateMethod q.1 ∈ tables_1 ∧ Cond.instanceMethod q.1 ∈ tables_1
theorem lw_p0 : lw_okq (⟨"Tollgate", "whyNotPosted", "()I"⟩, 10) := ⟨⟨by decide +kernel, by decide +kernel⟩, List.mem_of_getElem? (i := 40) (by decide +kernel), List.mem_of_getElem? (i := 307) (by decide +kernel), List.mem_of_getElem? (i := 308) (by decide +kernel)⟩
theorem lw_p1 : lw_okq (⟨"Tollgate", "canBeExchanged", "()Z"⟩, 10) := ⟨⟨by decide +kernel, by decide +kernel⟩, List.mem_of_getElem? (i := 40) (by decide +kernel), List.mem_of_getElem? (i := 323) (by decide +kernel), List.mem_of_getElem? (i := 324) (by decide +kernel)⟩
theorem lw_p2 : lw_okq (⟨"Tollgate", "draftHasTwoCurrencies", "()Z"⟩, 10) := ⟨⟨by decide +kernel, by decide +kernel⟩, List.mem_of_getElem? (i := 40) (by decide +kernel), List.mem_of_getElem? (i := 327) (by decide +kernel), List.mem_of_getElem? (i := 328) (by decide +kernel)⟩
theorem lw_p3 : lw_okq (⟨"Tollgate", "planDraft", "()V"⟩, 10) := ⟨⟨by decide +kernel, by decide +kernel⟩, List.mem_of_getElem? (i := 40) (by decide +kernel), List.mem_of_getElem? (i := 334) (by decide +kernel), List.mem_of_getElem? (i := 335) (by decide +kernel)⟩
theorem lw_p4 : lw_okq (⟨"Tollgate", "planLeg", "(IJ)V"⟩, 10) := ⟨⟨by decide +kernel, by decide +kernel⟩, List.mem_of_getElem? (i := 40) (by decide +kernel), List.mem_of_getElem? (i := 342) (by decide +kernel), List.mem_of_getElem? (i := 343) (by decide +kernel)⟩
theorem lw_p5 : lw_okq (⟨"Tollgate", "planKeepsFloors", "(I)Z"⟩, 10) := ⟨⟨by decide +kernel, by decide +kernel⟩, List.mem_of_getElem? (i := 40) (by decide +kernel), List.mem_of_getElem? (i := 353) (by decide +kernel), List.mem_of_getElem? (i := 354) (by decide +kernel)⟩
theorem lw_p6 : lw_okq (⟨"java/lang/Throwable", "fillInStackTrace", "(I)Ljava/lang/Throwable;"⟩, 6) := ⟨⟨by decide +kernel, by decide +kernel⟩, List.mem_of_getElem? (i := 452) (by decide +kernel), List.mem_of_getElem? (i := 450) (by decide +kernel), List.mem_of_getElem? (i := 451) (by decide +kernel)⟩
theorem lw_p7 : lw_okq (⟨"Tollgate", "mixAccount", "(JI)J"⟩, 10) := ⟨⟨by decide +kernel, by decide +kernel⟩, List.mem_of_getElem? (i := 40) (by decide +kernel), List.mem_of_getElem? (i := 486) (by decide +kernel), List.mem_of_getElem? (i := 487) (by decide +kernel)⟩
theorem lw_p8 : lw_okq (⟨"Tollgate", "needAccount", "(I)V"⟩, 10) := ⟨⟨by decide +kernel, by decide +kernel⟩, List.mem_of_getElem? (i := 40) (by decide +kernel), List.mem_of_getElem? (i := 494) (by decide +kernel), List.mem_of_getElem? (i := 495) (by decide +kernel)⟩
theorem lw_p9 : lw_okq (⟨"Tollgate", "standOf", "(I)J"⟩, 10) := ⟨⟨by decide +kernel, by decide +kernel⟩, List.mem_of_getElem? (i := 40) (by decide +kernel), List.mem_of_getElem? (i := 514) (by decide +kernel), List.mem_of_getElem? (i := 515) (by decide +kernel)⟩
theorem lw_p10 : lw_okq (⟨"Tollgate", "hadIf", "(II)J"⟩, 10) := ⟨⟨by decide +kernel, by decide +kernel⟩, List.mem_of_getElem? (i := 40) (by decide +kernel), List.mem_of_getElem? (i := 522) (by decide +kernel), List.mem_of_getElem? (i := 523) (by decide +kernel)⟩
theorem lw_p11 : lw_okq (⟨"Tollgate$Matching", "isLeft", "(II)Z"⟩, 5) := ⟨⟨by decide +kernel, by decide +kernel⟩, List.mem_of_getElem? (i := 246) (by decide +kernel), List.mem_of_getElem? (i := 539) (by decide +kernel), List.mem_of_getElem? (i := 540) (by decide +kernel)⟩
theorem lw_p12 : lw_okq (⟨"Tollgate$Matching", "isLegLeft", "(II)Z"⟩, 5) := ⟨⟨by decide +kernel, by decide +kernel⟩, List.mem_of_getElem? (i := 246) (by decide +kernel), List.mem_of_getElem? (i := 547) (by decide +kernel), List.mem_of_getElem? (i := 548) (by decide +kernel)⟩
theorem lw_p13 : lw_okq (⟨"Tollgate$Matching", "freeLine", "(I)V"⟩, 5) := ⟨⟨by decide +kernel, by decide +kernel⟩, List.mem_of_getElem? (i := 246) (by decide +kernel), List.mem_of_getElem? (i := 564) (by decide +kernel), List.mem_of_getElem? (i := 565) (by decide +kernel)⟩
theorem lw_p14 : lw_okq (⟨"Tollgate$Matching", "bindNearest", "(II)V"⟩, 5) := ⟨⟨by decide +kernel, by decide +kernel⟩, List.mem_of_getElem? (i := 246) (by decide +kernel), List.mem_of_getElem? (i := 568) (by decide +kernel), List.mem_of_getElem? (i := 569) (by decide +kernel)⟩
theorem lw_p15 : lw_okq (⟨"Tollgate$Matching", "away", "(II)I"⟩, 5) := ⟨⟨by decide +kernel, by decide +kernel⟩, List.mem_of_getElem? (i := 246) (by decide +kernel), List.mem_of_getElem? (i := 572) (by decide +kernel), List.mem_of_getElem? (i := 573) (by decide +kernel)⟩
def lw_privs_1 : List (MethodName × Nat) := [(⟨"Tollgate", "whyNotPosted", "()I"⟩, 10), (⟨"Tollgate", "canBeExchanged", "()Z"⟩, 10), (⟨"Tollgate", "draftHasTwoCurrencies", "()Z"⟩, 10), (⟨"Tollgate", "planDraft", "()V"⟩, 10), (⟨"Tollgate", "planLeg", "(IJ)V"⟩, 10), (⟨"Tollgate", "planKeepsFloors", "(I)Z"⟩, 10), (⟨"java/lang/Throwable", "fillInStackTrace", "(I)Ljava/lang/Throwable;"⟩, 6), (⟨"Tollgate", "mixAccount", "(JI)J"⟩, 10), (⟨"Tollgate", "needAccount", "(I)V"⟩, 10), (⟨"Tollgate", "standOf", "(I)J"⟩, 10), (⟨"Tollgate", "hadIf", "(II)J"⟩, 10), (⟨"Tollgate$Matching", "isLeft", "(II)Z"⟩, 5), (⟨"Tollgate$Matching", "isLegLeft", "(II)Z"⟩, 5), (⟨"Tollgate$Matching", "freeLine", "(I)V"⟩, 5), (⟨"Tollgate$Matching", "bindNearest", "(II)V"⟩, 5), (⟨"Tollgate$Matching", "away", "(II)I"⟩, 5)]
theorem lw_r1 : ∀ q ∈ lw_privs_1, lw_okq q := List.forall_mem_cons.mpr ⟨lw_p0, List.forall_mem_cons.mpr ⟨lw_p1, List.forall_mem_cons.mpr ⟨lw_p2, List.forall_mem_cons.mpr ⟨lw_p3, List.forall_mem_cons.mpr ⟨lw_p4, List.forall_mem_cons.mpr ⟨lw_p5, List.forall_mem_cons.mpr ⟨lw_p6, List.forall_mem_cons.mpr ⟨lw_p7, List.forall_mem_cons.mpr ⟨lw_p8, List.forall_mem_cons.mpr ⟨lw_p9, List.forall_mem_cons.mpr ⟨lw_p10, List.forall_mem_cons.mpr ⟨lw_p11, List.forall_mem_cons.mpr ⟨lw_p12, List.forall_mem_cons.mpr ⟨lw_p13, List.forall_mem_cons.mpr ⟨lw_p14, List.forall_mem_cons.mpr ⟨lw_p15, fun _ h => absurd h List.not_mem_nil⟩⟩⟩⟩⟩⟩⟩⟩⟩⟩⟩⟩⟩⟩⟩⟩
theorem lw_p16 : lw_okq (⟨"Tollgate$Matching", "isNearer", "(III)Z"⟩, 5) := ⟨⟨by decide +kernel, by decide +kernel⟩, List.mem_of_getElem? (i := 246) (by decide +kernel), List.mem_of_getElem? (i := 580) (by decide +kernel), List.mem_of_getElem? (i := 581) (by decide +kernel)⟩
theorem lw_p17 : lw_okq (⟨"Tollgate$Matching", "bind", "(III)V"⟩, 5) := ⟨⟨by decide +kernel, by decide +kernel⟩, List.mem_of_getElem? (i := 246) (by decide +kernel), List.mem_of_getElem? (i := 584) (by decide +kernel), List.mem_of_getElem? (i := 585) (by decide +kernel)⟩
theorem lw_p18 : lw_okq (⟨"Tollgate$Matching", "bindFirstTwo", "(II)V"⟩, 5) := ⟨⟨by decide +kernel, by decide +kernel⟩, List.mem_of_getElem? (i := 246) (by decide +kernel), List.mem_of_getElem? (i := 588) (by decide +kernel), List.mem_of_getElem? (i := 589) (by decide +kernel)⟩
theorem lw_p19 : lw_okq (⟨"Tollgate$Matching", "secondBehind", "(II)I"⟩, 5) := ⟨⟨by decide +kernel, by decide +kernel⟩, List.mem_of_getElem? (i := 246) (by decide +kernel), List.mem_of_getElem? (i := 592) (by decide +kernel), List.mem_of_getElem? (i := 593) (by decide +kernel)⟩
theorem lw_p20 : lw_okq (⟨"Tollgate", "mixEntry", "(JI)J"⟩, 10) := ⟨⟨by decide +kernel, by decide +kernel⟩, List.mem_of_getElem? (i := 40) (by decide +kernel), List.mem_of_getElem? (i := 598) (by decide +kernel), List.mem_of_getElem? (i := 599) (by decide +kernel)⟩
theorem lw_p21 : lw_okq (⟨"Tollgate", "needEntry", "(I)V"⟩, 10) := ⟨⟨by decide +kernel, by decide +kernel⟩, List.mem_of_getElem? (i := 40) (by decide +kernel), List.mem_of_getElem? (i := 606) (by decide +kernel), List.mem_of_getElem? (i := 607) (by decide +kernel)⟩
theorem lw_p22 : lw_okq (⟨"Tollgate", "planClosing", "(I)V"⟩, 10) := ⟨⟨by decide +kernel, by decide +kernel⟩, List.mem_of_getElem? (i := 40) (by decide +kernel), List.mem_of_getElem? (i := 639) (by decide +kernel), List.mem_of_getElem? (i := 640) (by decide +kernel)⟩
theorem lw_p23 : lw_okq (⟨"Tollgate$Journal", "addLeg", "(IIJJ)V"⟩, 12) := ⟨⟨by decide +kernel, by decide +kernel⟩, List.mem_of_getElem? (i := 133) (by decide +kernel), List.mem_of_getElem? (i := 756) (by decide +kernel), List.mem_of_getElem? (i := 757) (by decide +kernel)⟩
theorem lw_p24 : lw_okq (⟨"Tollgate", "planTurnedBack", "(I)V"⟩, 10) := ⟨⟨by decide +kernel, by decide +kernel⟩, List.mem_of_getElem? (i := 40) (by decide +kernel), List.mem_of_getElem? (i := 772) (by decide +kernel), List.mem_of_getElem? (i := 773) (by decide +kernel)⟩
theorem lw_p25 : lw_okq (⟨"Tollgate", "needPlanToday", "(I)V"⟩, 10) := ⟨⟨by decide +kernel, by decide +kernel⟩, List.mem_of_getElem? (i := 40) (by decide +kernel), List.mem_of_getElem? (i := 776) (by decide +kernel), List.mem_of_getElem? (i := 777) (by decide +kernel)⟩
theorem lw_p26 : lw_okq (⟨"Tollgate", "needHold", "(I)V"⟩, 10) := ⟨⟨by decide +kernel, by decide +kernel⟩, List.mem_of_getElem? (i := 40) (by decide +kernel), List.mem_of_getElem? (i := 810) (by decide +kernel), List.mem_of_getElem? (i := 811) (by decide +kernel)⟩
theorem lw_p27 : lw_okq (⟨"Tollgate", "needOpenHold", "(I)V"⟩, 10) := ⟨⟨by decide +kernel, by decide +kernel⟩, List.mem_of_getElem? (i := 40) (by decide +kernel), List.mem_of_getElem? (i := 816) (by decide +kernel), List.mem_of_getElem? (i := 817) (by decide +kernel)⟩
theorem lw_p28 : lw_okq (⟨"Tollgate", "planTaking", "(III)V"⟩, 10) := ⟨⟨by decide +kernel, by decide +kernel⟩, List.mem_of_getElem? (i := 40) (by decide +kernel), List.mem_of_getElem? (i := 822) (by decide +kernel), List.mem_of_getElem? (i := 823) (by decide +kernel)⟩
theorem lw_p29 : lw_okq (⟨"Tollgate$Lines", "sortIn", "(I)V"⟩, 5) := ⟨⟨by decide +kernel, by decide +kernel⟩, List.mem_of_getElem? (i := 218) (by decide +kernel), List.mem_of_getElem? (i := 867) (by decide +kernel), List.mem_of_getElem? (i := 868) (by decide +kernel)⟩
theorem lw_p30 : lw_okq (⟨"TollgateModel", "start", "(ZI)Z"⟩, 15) := ⟨⟨by decide +kernel, by decide +kernel⟩, List.mem_of_getElem? (i := 939) (by decide +kernel), List.mem_of_getElem? (i := 1029) (by decide +kernel), List.mem_of_getElem? (i := 1030) (by decide +kernel)⟩
theorem lw_p31 : lw_okq (⟨"TollgateModel", "refuse", "(ZI)Z"⟩, 15) := ⟨⟨by decide +kernel, by decide +kernel⟩, List.mem_of_getElem? (i := 939) (by decide +kernel), List.mem_of_getElem? (i := 1033) (by decide +kernel), List.mem_of_getElem? (i := 1034) (by decide +kernel)⟩
def lw_privs_2 : List (MethodName × Nat) := [(⟨"Tollgate$Matching", "isNearer", "(III)Z"⟩, 5), (⟨"Tollgate$Matching", "bind", "(III)V"⟩, 5), (⟨"Tollgate$Matching", "bindFirstTwo", "(II)V"⟩, 5), (⟨"Tollgate$Matching", "secondBehind", "(II)I"⟩, 5), (⟨"Tollgate", "mixEntry", "(JI)J"⟩, 10), (⟨"Tollgate", "needEntry", "(I)V"⟩, 10), (⟨"Tollgate", "planClosing", "(I)V"⟩, 10), (⟨"Tollgate$Journal", "addLeg", "(IIJJ)V"⟩, 12), (⟨"Tollgate", "planTurnedBack", "(I)V"⟩, 10), (⟨"Tollgate", "needPlanToday", "(I)V"⟩, 10), (⟨"Tollgate", "needHold", "(I)V"⟩, 10), (⟨"Tollgate", "needOpenHold", "(I)V"⟩, 10), (⟨"Tollgate", "planTaking", "(III)V"⟩, 10), (⟨"Tollgate$Lines", "sortIn", "(I)V"⟩, 5), (⟨"TollgateModel", "start", "(ZI)Z"⟩, 15), (⟨"TollgateModel", "refuse", "(ZI)Z"⟩, 15)]
theorem lw_r2 : ∀ q ∈ lw_privs_2, lw_okq q := List.forall_mem_cons.mpr ⟨lw_p16, List.forall_mem_cons.mpr ⟨lw_p17, List.forall_mem_cons.mpr ⟨lw_p18, List.forall_mem_cons.mpr ⟨lw_p19, List.forall_mem_cons.mpr ⟨lw_p20, List.forall_mem_cons.mpr ⟨lw_p21, List.forall_mem_cons.mpr ⟨lw_p22, List.forall_mem_cons.mpr ⟨lw_p23, List.forall_mem_cons.mpr ⟨lw_p24, List.forall_mem_cons.mpr ⟨lw_p25, List.forall_mem_cons.mpr ⟨lw_p26, List.forall_mem_cons.mpr ⟨lw_p27, List.forall_mem_cons.mpr ⟨lw_p28, List.forall_mem_cons.mpr ⟨lw_p29, List.forall_mem_cons.mpr ⟨lw_p30, List.forall_mem_cons.mpr ⟨lw_p31, fun _ h => absurd h List.not_mem_nil⟩⟩⟩⟩⟩⟩⟩⟩⟩⟩⟩⟩⟩⟩⟩⟩
theorem lw_p32 : lw_okq (⟨"java/util/ArrayList", "add", "(Ljava/lang/Object;[Ljava/lang/Object;I)V"⟩, 3) := ⟨⟨by decide +kernel, by decide +kernel⟩, List.mem_of_getElem? (i := 945) (by decide +kernel), List.mem_of_getElem? (i := 1088) (by decide +kernel), List.mem_of_getElem? (i := 1089) (by decide +kernel)⟩
theorem lw_p33 : lw_okq (⟨"java/util/ArrayList", "grow", "()[Ljava/lang/Object;"⟩, 3) := ⟨⟨by decide +kernel, by decide +kernel⟩, List.mem_of_getElem? (i := 945) (by decide +kernel), List.mem_of_getElem? (i := 1092) (by decide +kernel), List.mem_of_getElem? (i := 1093) (by decide +kernel)⟩
theorem lw_p34 : lw_okq (⟨"java/util/ArrayList", "grow", "(I)[Ljava/lang/Object;"⟩, 3) := ⟨⟨by decide +kernel, by decide +kernel⟩, List.mem_of_getElem? (i := 945) (by decide +kernel), List.mem_of_getElem? (i := 1096) (by decide +kernel), List.mem_of_getElem? (i := 1097) (by decide +kernel)⟩
theorem lw_p35 : lw_okq (⟨"TollgateModel", "isNoAccount", "(I)Z"⟩, 15) := ⟨⟨by decide +kernel, by decide +kernel⟩, List.mem_of_getElem? (i := 939) (by decide +kernel), List.mem_of_getElem? (i := 1157) (by decide +kernel), List.mem_of_getElem? (i := 1158) (by decide +kernel)⟩
theorem lw_p36 : lw_okq (⟨"TollgateModel", "isNo", "(I)Z"⟩, 15) := ⟨⟨by decide +kernel, by decide +kernel⟩, List.mem_of_getElem? (i := 939) (by decide +kernel), List.mem_of_getElem? (i := 1161) (by decide +kernel), List.mem_of_getElem? (i := 1162) (by decide +kernel)⟩
theorem lw_p37 : lw_okq (⟨"TollgateModel", "stand", "(LTollgateModel$Account;)J"⟩, 15) := ⟨⟨by decide +kernel, by decide +kernel⟩, List.mem_of_getElem? (i := 939) (by decide +kernel), List.mem_of_getElem? (i := 1166) (by decide +kernel), List.mem_of_getElem? (i := 1167) (by decide +kernel)⟩
theorem lw_p38 : lw_okq (⟨"TollgateModel", "until", "(LTollgateModel$Account;I)J"⟩, 15) := ⟨⟨by decide +kernel, by decide +kernel⟩, List.mem_of_getElem? (i := 939) (by decide +kernel), List.mem_of_getElem? (i := 1170) (by decide +kernel), List.mem_of_getElem? (i := 1171) (by decide +kernel)⟩
theorem lw_p39 : lw_okq (⟨"TollgateModel", "held", "(LTollgateModel$Account;I)J"⟩, 15) := ⟨⟨by decide +kernel, by decide +kernel⟩, List.mem_of_getElem? (i := 939) (by decide +kernel), List.mem_of_getElem? (i := 1183) (by decide +kernel), List.mem_of_getElem? (i := 1184) (by decide +kernel)⟩
theorem lw_p40 : lw_okq (⟨"TollgateModel", "worths", "(Ljava/util/ArrayList;)J"⟩, 15) := ⟨⟨by decide +kernel, by decide +kernel⟩, List.mem_of_getElem? (i := 939) (by decide +kernel), List.mem_of_getElem? (i := 1230) (by decide +kernel), List.mem_of_getElem? (i := 1231) (by decide +kernel)⟩
theorem lw_p41 : lw_okq (⟨"TollgateModel", "worth", "(LTollgateModel$Leg;)J"⟩, 15) := ⟨⟨by decide +kernel, by decide +kernel⟩, List.mem_of_getElem? (i := 939) (by decide +kernel), List.mem_of_getElem? (i := 1234) (by decide +kernel), List.mem_of_getElem? (i := 1235) (by decide +kernel)⟩
theorem lw_p42 : lw_okq (⟨"TollgateModel", "worth", "(JI)J"⟩, 15) := ⟨⟨by decide +kernel, by decide +kernel⟩, List.mem_of_getElem? (i := 939) (by decide +kernel), List.mem_of_getElem? (i := 1238) (by decide +kernel), List.mem_of_getElem? (i := 1239) (by decide +kernel)⟩
theorem lw_p43 : lw_okq (⟨"TollgateModel", "reasonNow", "()I"⟩, 15) := ⟨⟨by decide +kernel, by decide +kernel⟩, List.mem_of_getElem? (i := 939) (by decide +kernel), List.mem_of_getElem? (i := 1249) (by decide +kernel), List.mem_of_getElem? (i := 1250) (by decide +kernel)⟩
theorem lw_p44 : lw_okq (⟨"TollgateModel", "areMixed", "()Z"⟩, 15) := ⟨⟨by decide +kernel, by decide +kernel⟩, List.mem_of_getElem? (i := 939) (by decide +kernel), List.mem_of_getElem? (i := 1253) (by decide +kernel), List.mem_of_getElem? (i := 1254) (by decide +kernel)⟩
theorem lw_p45 : lw_okq (⟨"TollgateModel", "whole", "()Ljava/util/ArrayList;"⟩, 15) := ⟨⟨by decide +kernel, by decide +kernel⟩, List.mem_of_getElem? (i := 939) (by decide +kernel), List.mem_of_getElem? (i := 1257) (by decide +kernel), List.mem_of_getElem? (i := 1258) (by decide +kernel)⟩
theorem lw_p46 : lw_okq (⟨"TollgateModel", "keeps", "(Ljava/util/ArrayList;)Z"⟩, 15) := ⟨⟨by decide +kernel, by decide +kernel⟩, List.mem_of_getElem? (i := 939) (by decide +kernel), List.mem_of_getElem? (i := 1285) (by decide +kernel), List.mem_of_getElem? (i := 1286) (by decide +kernel)⟩
theorem lw_p47 : lw_okq (⟨"TollgateModel", "had", "(LTollgateModel$Account;I)J"⟩, 15) := ⟨⟨by decide +kernel, by decide +kernel⟩, List.mem_of_getElem? (i := 939) (by decide +kernel), List.mem_of_getElem? (i := 1289) (by decide +kernel), List.mem_of_getElem? (i := 1290) (by decide +kernel)⟩
def lw_privs_3 : List (MethodName × Nat) := [(⟨"java/util/ArrayList", "add", "(Ljava/lang/Object;[Ljava/lang/Object;I)V"⟩, 3), (⟨"java/util/ArrayList", "grow", "()[Ljava/lang/Object;"⟩, 3), (⟨"java/util/ArrayList", "grow", "(I)[Ljava/lang/Object;"⟩, 3), (⟨"TollgateModel", "isNoAccount", "(I)Z"⟩, 15), (⟨"TollgateModel", "isNo", "(I)Z"⟩, 15), (⟨"TollgateModel", "stand", "(LTollgateModel$Account;)J"⟩, 15), (⟨"TollgateModel", "until", "(LTollgateModel$Account;I)J"⟩, 15), (⟨"TollgateModel", "held", "(LTollgateModel$Account;I)J"⟩, 15), (⟨"TollgateModel", "worths", "(Ljava/util/ArrayList;)J"⟩, 15), (⟨"TollgateModel", "worth", "(LTollgateModel$Leg;)J"⟩, 15), (⟨"TollgateModel", "worth", "(JI)J"⟩, 15), (⟨"TollgateModel", "reasonNow", "()I"⟩, 15), (⟨"TollgateModel", "areMixed", "()Z"⟩, 15), (⟨"TollgateModel", "whole", "()Ljava/util/ArrayList;"⟩, 15), (⟨"TollgateModel", "keeps", "(Ljava/util/ArrayList;)Z"⟩, 15), (⟨"TollgateModel", "had", "(LTollgateModel$Account;I)J"⟩, 15)]
theorem lw_r3 : ∀ q ∈ lw_privs_3, lw_okq q := List.forall_mem_cons.mpr ⟨lw_p32, List.forall_mem_cons.mpr ⟨lw_p33, List.forall_mem_cons.mpr ⟨lw_p34, List.forall_mem_cons.mpr ⟨lw_p35, List.forall_mem_cons.mpr ⟨lw_p36, List.forall_mem_cons.mpr ⟨lw_p37, List.forall_mem_cons.mpr ⟨lw_p38, List.forall_mem_cons.mpr ⟨lw_p39, List.forall_mem_cons.mpr ⟨lw_p40, List.forall_mem_cons.mpr ⟨lw_p41, List.forall_mem_cons.mpr ⟨lw_p42, List.forall_mem_cons.mpr ⟨lw_p43, List.forall_mem_cons.mpr ⟨lw_p44, List.forall_mem_cons.mpr ⟨lw_p45, List.forall_mem_cons.mpr ⟨lw_p46, List.forall_mem_cons.mpr ⟨lw_p47, fun _ h => absurd h List.not_mem_nil⟩⟩⟩⟩⟩⟩⟩⟩⟩⟩⟩⟩⟩⟩⟩⟩
theorem lw_p48 : lw_okq (⟨"TollgateModel", "write", "(IILjava/util/ArrayList;Z)I"⟩, 15) := ⟨⟨by decide +kernel, by decide +kernel⟩, List.mem_of_getElem? (i := 939) (by decide +kernel), List.mem_of_getElem? (i := 1297) (by decide +kernel), List.mem_of_getElem? (i := 1298) (by decide +kernel)⟩
theorem lw_p49 : lw_okq (⟨"TollgateModel", "isNoEntry", "(I)Z"⟩, 15) := ⟨⟨by decide +kernel, by decide +kernel⟩, List.mem_of_getElem? (i := 939) (by decide +kernel), List.mem_of_getElem? (i := 1334) (by decide +kernel), List.mem_of_getElem? (i := 1335) (by decide +kernel)⟩
theorem lw_p50 : lw_okq (⟨"TollgateModel", "of", "(LTollgateModel$Leg;I)J"⟩, 15) := ⟨⟨by decide +kernel, by decide +kernel⟩, List.mem_of_getElem? (i := 939) (by decide +kernel), List.mem_of_getElem? (i := 1349) (by decide +kernel), List.mem_of_getElem? (i := 1350) (by decide +kernel)⟩
theorem lw_p51 : lw_okq (⟨"TollgateModel", "isNoHold", "(I)Z"⟩, 15) := ⟨⟨by decide +kernel, by decide +kernel⟩, List.mem_of_getElem? (i := 939) (by decide +kernel), List.mem_of_getElem? (i := 1383) (by decide +kernel), List.mem_of_getElem? (i := 1384) (by decide +kernel)⟩
theorem lw_p52 : lw_okq (⟨"TollgateModel", "results", "(I)Ljava/util/ArrayList;"⟩, 15) := ⟨⟨by decide +kernel, by decide +kernel⟩, List.mem_of_getElem? (i := 939) (by decide +kernel), List.mem_of_getElem? (i := 1395) (by decide +kernel), List.mem_of_getElem? (i := 1396) (by decide +kernel)⟩
theorem lw_p53 : lw_okq (⟨"java/util/ArrayList", "fastRemove", "([Ljava/lang/Object;I)V"⟩, 3) := ⟨⟨by decide +kernel, by decide +kernel⟩, List.mem_of_getElem? (i := 945) (by decide +kernel), List.mem_of_getElem? (i := 1435) (by decide +kernel), List.mem_of_getElem? (i := 1436) (by decide +kernel)⟩
theorem lw_p54 : lw_okq (⟨"TollgateModel", "unmatch", "(LTollgateModel$Line;)V"⟩, 15) := ⟨⟨by decide +kernel, by decide +kernel⟩, List.mem_of_getElem? (i := 939) (by decide +kernel), List.mem_of_getElem? (i := 1440) (by decide +kernel), List.mem_of_getElem? (i := 1441) (by decide +kernel)⟩
theorem lw_p55 : lw_okq (⟨"TollgateModel", "linesOf", "(LTollgateModel$Account;)Ljava/util/ArrayList;"⟩, 15) := ⟨⟨by decide +kernel, by decide +kernel⟩, List.mem_of_getElem? (i := 939) (by decide +kernel), List.mem_of_getElem? (i := 1480) (by decide +kernel), List.mem_of_getElem? (i := 1481) (by decide +kernel)⟩
theorem lw_p56 : lw_okq (⟨"java/util/ArrayList", "rangeCheckForAdd", "(I)V"⟩, 3) := ⟨⟨by decide +kernel, by decide +kernel⟩, List.mem_of_getElem? (i := 945) (by decide +kernel), List.mem_of_getElem? (i := 1492) (by decide +kernel), List.mem_of_getElem? (i := 1493) (by decide +kernel)⟩
theorem lw_p57 : lw_okq (⟨"java/util/ArrayList", "outOfBoundsMsg", "(I)Ljava/lang/String;"⟩, 3) := ⟨⟨by decide +kernel, by decide +kernel⟩, List.mem_of_getElem? (i := 945) (by decide +kernel), List.mem_of_getElem? (i := 1497) (by decide +kernel), List.mem_of_getElem? (i := 1498) (by decide +kernel)⟩
theorem lw_p58 : lw_okq (⟨"TollgateModel", "legsOf", "(LTollgateModel$Account;)Ljava/util/ArrayList;"⟩, 15) := ⟨⟨by decide +kernel, by decide +kernel⟩, List.mem_of_getElem? (i := 939) (by decide +kernel), List.mem_of_getElem? (i := 1733) (by decide +kernel), List.mem_of_getElem? (i := 1734) (by decide +kernel)⟩
theorem lw_p59 : lw_okq (⟨"TollgateModel", "leftNow", "(LTollgateModel$Account;I)J"⟩, 15) := ⟨⟨by decide +kernel, by decide +kernel⟩, List.mem_of_getElem? (i := 939) (by decide +kernel), List.mem_of_getElem? (i := 1767) (by decide +kernel), List.mem_of_getElem? (i := 1768) (by decide +kernel)⟩
theorem lw_p60 : lw_okq (⟨"TollgateModel", "entryOf", "(LTollgateModel$Line;)LTollgateModel$Entry;"⟩, 15) := ⟨⟨by decide +kernel, by decide +kernel⟩, List.mem_of_getElem? (i := 939) (by decide +kernel), List.mem_of_getElem? (i := 1771) (by decide +kernel), List.mem_of_getElem? (i := 1772) (by decide +kernel)⟩
theorem lw_p61 : lw_okq (⟨"TollgateModel", "matchedNow", "(LTollgateModel$Line;)I"⟩, 15) := ⟨⟨by decide +kernel, by decide +kernel⟩, List.mem_of_getElem? (i := 939) (by decide +kernel), List.mem_of_getElem? (i := 1779) (by decide +kernel), List.mem_of_getElem? (i := 1780) (by decide +kernel)⟩
theorem lw_p62 : lw_okq (⟨"TollgateModel", "count", "(I)I"⟩, 15) := ⟨⟨by decide +kernel, by decide +kernel⟩, List.mem_of_getElem? (i := 939) (by decide +kernel), List.mem_of_getElem? (i := 1787) (by decide +kernel), List.mem_of_getElem? (i := 1788) (by decide +kernel)⟩
theorem lw_p63 : lw_okq (⟨"TollgateModel", "toldNow", "(LTollgateModel$Account;I)J"⟩, 15) := ⟨⟨by decide +kernel, by decide +kernel⟩, List.mem_of_getElem? (i := 939) (by decide +kernel), List.mem_of_getElem? (i := 1795) (by decide +kernel), List.mem_of_getElem? (i := 1796) (by decide +kernel)⟩
def lw_privs_4 : List (MethodName × Nat) := [(⟨"TollgateModel", "write", "(IILjava/util/ArrayList;Z)I"⟩, 15), (⟨"TollgateModel", "isNoEntry", "(I)Z"⟩, 15), (⟨"TollgateModel", "of", "(LTollgateModel$Leg;I)J"⟩, 15), (⟨"TollgateModel", "isNoHold", "(I)Z"⟩, 15), (⟨"TollgateModel", "results", "(I)Ljava/util/ArrayList;"⟩, 15), (⟨"java/util/ArrayList", "fastRemove", "([Ljava/lang/Object;I)V"⟩, 3), (⟨"TollgateModel", "unmatch", "(LTollgateModel$Line;)V"⟩, 15), (⟨"TollgateModel", "linesOf", "(LTollgateModel$Account;)Ljava/util/ArrayList;"⟩, 15), (⟨"java/util/ArrayList", "rangeCheckForAdd", "(I)V"⟩, 3), (⟨"java/util/ArrayList", "outOfBoundsMsg", "(I)Ljava/lang/String;"⟩, 3), (⟨"TollgateModel", "legsOf", "(LTollgateModel$Account;)Ljava/util/ArrayList;"⟩, 15), (⟨"TollgateModel", "leftNow", "(LTollgateModel$Account;I)J"⟩, 15), (⟨"TollgateModel", "entryOf", "(LTollgateModel$Line;)LTollgateModel$Entry;"⟩, 15), (⟨"TollgateModel", "matchedNow", "(LTollgateModel$Line;)I"⟩, 15), (⟨"TollgateModel", "count", "(I)I"⟩, 15), (⟨"TollgateModel", "toldNow", "(LTollgateModel$Account;I)J"⟩, 15)]
theorem lw_r4 : ∀ q ∈ lw_privs_4, lw_okq q := List.forall_mem_cons.mpr ⟨lw_p48, List.forall_mem_cons.mpr ⟨lw_p49, List.forall_mem_cons.mpr ⟨lw_p50, List.forall_mem_cons.mpr ⟨lw_p51, List.forall_mem_cons.mpr ⟨lw_p52, List.forall_mem_cons.mpr ⟨lw_p53, List.forall_mem_cons.mpr ⟨lw_p54, List.forall_mem_cons.mpr ⟨lw_p55, List.forall_mem_cons.mpr ⟨lw_p56, List.forall_mem_cons.mpr ⟨lw_p57, List.forall_mem_cons.mpr ⟨lw_p58, List.forall_mem_cons.mpr ⟨lw_p59, List.forall_mem_cons.mpr ⟨lw_p60, List.forall_mem_cons.mpr ⟨lw_p61, List.forall_mem_cons.mpr ⟨lw_p62, List.forall_mem_cons.mpr ⟨lw_p63, fun _ h => absurd h List.not_mem_nil⟩⟩⟩⟩⟩⟩⟩⟩⟩⟩⟩⟩⟩⟩⟩⟩
theorem lw_p64 : lw_okq (⟨"TollgateModel", "worthsOf", "(LTollgateModel$Account;)J"⟩, 15) := ⟨⟨by decide +kernel, by decide +kernel⟩, List.mem_of_getElem? (i := 939) (by decide +kernel), List.mem_of_getElem? (i := 1799) (by decide +kernel), List.mem_of_getElem? (i := 1800) (by decide +kernel)⟩
theorem lw_p65 : lw_okq (⟨"TollgateModel", "ofKindNow", "(I)J"⟩, 15) := ⟨⟨by decide +kernel, by decide +kernel⟩, List.mem_of_getElem? (i := 939) (by decide +kernel), List.mem_of_getElem? (i := 1814) (by decide +kernel), List.mem_of_getElem? (i := 1815) (by decide +kernel)⟩
theorem lw_p66 : lw_okq (⟨"TollgateModel", "wouldMatchNow", "(LTollgateModel$Account;I)I"⟩, 15) := ⟨⟨by decide +kernel, by decide +kernel⟩, List.mem_of_getElem? (i := 939) (by decide +kernel), List.mem_of_getElem? (i := 1830) (by decide +kernel), List.mem_of_getElem? (i := 1831) (by decide +kernel)⟩
def lw_privs_5 : List (MethodName × Nat) := [(⟨"TollgateModel", "worthsOf", "(LTollgateModel$Account;)J"⟩, 15), (⟨"TollgateModel", "ofKindNow", "(I)J"⟩, 15), (⟨"TollgateModel", "wouldMatchNow", "(LTollgateModel$Account;I)I"⟩, 15)]
theorem lw_r5 : ∀ q ∈ lw_privs_5, lw_okq q := List.forall_mem_cons.mpr ⟨lw_p64, List.forall_mem_cons.mpr ⟨lw_p65, List.forall_mem_cons.mpr ⟨lw_p66, fun _ h => absurd h List.not_mem_nil⟩⟩⟩
def lw_privs : List (MethodName × Nat) := lw_privs_1 ++ (lw_privs_2 ++ (lw_privs_3 ++ (lw_privs_4 ++ (lw_privs_5))))
def lw_tbl : List Cond := k2_sels lw_privs ++ tables_1
theorem lw_privs_ok : ∀ q ∈ lw_privs, lw_okq q := by
  show ∀ q ∈ lw_privs_1 ++ (lw_privs_2 ++ (lw_privs_3 ++ (lw_privs_4 ++ (lw_privs_5)))), lw_okq q
  exact List.forall_mem_append.mpr ⟨lw_r1, List.forall_mem_append.mpr ⟨lw_r2, List.forall_mem_append.mpr ⟨lw_r3, List.forall_mem_append.mpr ⟨lw_r4, lw_r5⟩⟩⟩⟩
/-- the streams that the claim lets the run draw from -/
abbrev lw_cs : List Choice := [Jvm.Choice.named "NaN.bits"]
theorem lw_bits : nanBits ∈ lw_cs := by first | decide | exact List.mem_cons_self | simp [lw_cs, nanBits]
-- ===== end of PART A; then your names; then what follows =====
end
section
/-! ===== BEGIN words of one list among another's, by their places ===== -/
theorem goodIn_r {big : List Cond} (ws : List Cond) (ps : List Nat) (hp : ws = ps.filterMap (fun i => big[i]?)) (h : ws.all goodWord = true) : GoodIn big ws := by
  intro w hw
  have h1 := List.all_eq_true.mp h w hw
  rw [hp] at hw
  obtain ⟨i, -, hi⟩ := List.mem_filterMap.mp hw
  have hm : w ∈ big := by first | exact List.mem_of_getElem? hi | exact List.getElem?_mem hi
  exact ⟨hm, good_of_word h1⟩
theorem goodIn_app {big a b : List Cond} (ha : GoodIn big a) (hb : GoodIn big b) : GoodIn big (a ++ b) := fun w h => (List.mem_append.mp h).elim (ha w) (hb w)
theorem goodIn_ca {big a b : List Cond} {c : Cond} (ha : GoodIn big (c :: a)) (hb : GoodIn big b) : GoodIn big (c :: (a ++ b)) := fun w h => (List.mem_cons.mp h).elim (fun e => ha w (List.mem_cons.mpr (Or.inl e))) (fun h => (List.mem_append.mp h).elim (fun h => ha w (List.mem_cons.mpr (Or.inr h))) (hb w))
theorem goodIn_sub {big ws : List Cond} (hm : ∀ w ∈ ws, w ∈ big) (h : ws.all goodWord = true) : GoodIn big ws := fun w hw => ⟨hm w hw, good_of_word (List.all_eq_true.mp h w hw)⟩
/-! ===== END ===== -/
/-! ===== BEGIN exceptions that leave a method, and their catching by the caller (launches without stack traces) ===== -/
section VXA
/-! The laws vx_back, vx_callV, vx_callS, vx_callSW, vx_throw0, vx_throwS follow proofs of the library, with one case more: JvmDerived/Free/Laws.lean (Back.of_free), Shelf42/LK1.lean (callV, callS), Shelf/KitTraced.lean (throwNew0V, throwNewS). -/
/-- where a method has thrown q: the class by its name, the cell, what was written, the world -/
def vx_T (XC : String → State → State → Prop) (st : State) (q : Addr) (t : State) (mc ms : Nat) (free : Addr → Prop) : Prop :=
  ∃ (E : String) (ce : Cell) (L : List Loc), XC E st t ∧ t.heap[q]? = some ce ∧ ce.vm = .none ∧ st.vm.findClass E = some ce.cls ∧ st.WarmedH t.vm ∧ st.sameButNew ({ t with vm := st.vm } : State) L mc ms ∧ ∀ z ∈ L, free z.base
def vx_Q (Qc : Array Value → State → Outcome → State → Prop) (XC : String → State → State → Prop) (mc ms : Nat) (free : Addr → Prop) : Array Value → State → Outcome → State → Prop := fun a st o t =>
  (Qc a st o t ∧ ∃ L, FrameEnd st o t L mc ms ∧ ∀ q ∈ L, free q.base) ∨ ∃ q, o = .threw q ∧ vx_T XC st q t mc ms free
/-- a callee that returns or throws -/
def vx_Met (l : Launch) (y : MethodName) (ws : List Cond) (rm : Room) (Pc : Array Value → State → Prop) (Qc : Array Value → State → Outcome → State → Prop) (XC : String → State → State → Prop) (mc ms : Nat) (free : Addr → Prop) : Prop :=
  MetFree l y (headSpec ws rm) Pc (fun _ _ _ _ _ => True) (vx_Q Qc XC mc ms free)
def vx_Post (XC : String → State → State → Prop) (mc ms : Nat) (free : Addr → Prop) : Pt → Array Value → Addr → Pt → Prop := fun A a q B =>
  ∃ (g : JFrame) (mk : MethodId) (t : State) (L : List Loc) (E : String) (ce : Cell), B.U.heap = t.heap ∧ B.U.vm = t.vm ∧ XC E (A.U.calling g mk a) t ∧ t.heap[q]? = some ce ∧ ce.vm = .none ∧ A.U.vm.findClass E = some ce.cls ∧ B.locs = A.locs ++ L ∧ (∀ z ∈ L, free z.base) ∧ B.cells = A.cells + mc ∧ B.slots = A.slots + ms
def vx_Back (l : Launch) (R : Room) (p : Program) (e : Env) (below : List Frame) (s : State) (sargs : Array Value) (y : MethodName) (len W9 : Nat)
    (Pre : Pt → Array Value → Prop) (Post : Pt → Array Value → Option Value → Pt → Prop) (PostX : Pt → Array Value → Addr → Pt → Prop) : Prop :=
  ∀ (m : MethodId) (meth : Method) (c : Code) (A : Pt) (g : JFrame) (ig : Instr) (mk : MethodId) (a : Array Value),
    Stand p l e R s m sargs below meth c A.U A.locs A.cells A.slots → g.method = m → g.locals.size = c.maxLocals → decode c.code g.pc = .ok (ig, len) →
    2 * g.monitorRoom + (g.stack.map fun v => v.category).sum ≤ W9 → A.U.methodNamed? y = some mk → Pre A a →
    (∃ (v : Option Value) (B : Pt), Stand p l e R s m sargs below meth c B.U B.locs B.cells B.slots ∧ Post A a v B ∧
      Steps p.tables e below (doInvoke e (A.U.setTop g) [] mk a).1 (B.U.setTop { g with pc := g.pc + len, stack := v.toList ++ g.stack })) ∨
    (∃ (q : Addr) (B : Pt), Stand p l e R s m sargs below meth c B.U B.locs B.cells B.slots ∧ PostX A a q B ∧
      Steps p.tables e below (doInvoke e (A.U.setTop g) [] mk a).1 ((B.U.setTop g).pushFrame (.throwing q)))
section Payer
variable {l : Launch} {R : Room} {p : Program} {e : Env} {below : List Frame} {s : State} {sargs : Array Value} {y : MethodName} {len W9 : Nat}
theorem vx_back {ws : List Cond} {rm : Room} {Pc : Array Value → State → Prop} {Qc : Array Value → State → Outcome → State → Prop} {XC : String → State → State → Prop} {mc ms : Nat} {free : Addr → Prop} {bytes : ByteArray} {maxL : Nat} {ret : Option FieldType}
    (hM : vx_Met l y ws rm Pc Qc XC mc ms free) (hblind : FrameBlind Pc) (hrc : rm.cells = mc) (hrs : rm.slots = ms)
    (hframes : rm.frames + 1 ≤ R.frames) (hlocals : W9 + (maxL + 11) + rm.locals ≤ R.locals)
    (hws : ∀ w ∈ ws, ∀ a' U, s.WarmedH U.vm → w.before a' U = true) (hcode : Cond.code y bytes maxL ret ∈ ws) (hinit : ∀ a' U, s.WarmedH U.vm → (Cond.initialized y.cls).before a' U = true) :
    vx_Back l R p e below s sargs y len W9 (PreOf R mc ms Pc) (PostOf Qc mc ms free) (vx_Post XC mc ms free) := by
  intro m meth c A g ig mk a X hg hsize hdg hW hn hp
  have h1 : (headSpec ws rm).pre.before a A.U = true := atoms_intro fun w hw => hws w hw _ _ X.warmed
  have h2 : (Cond.code y bytes maxL ret).before a A.U = true := hws _ hcode _ _ X.warmed
  have h3 : (Cond.initialized y.cls).before a A.U = true := hinit _ _ X.warmed
  have h4 : A.cells + (headSpec ws rm).room.cells ≤ R.cells := by rw [show (headSpec ws rm).room.cells = mc from hrc]; exact hp.1
  have h5 : A.slots + (headSpec ws rm).room.slots ≤ R.slots := by rw [show (headSpec ws rm).room.slots = ms from hrs]; exact hp.2.1
  have hPc : Pc a (A.U.calling g mk a) := hblind _ _ _ _ hp.2.2
  obtain ⟨U, Ls, c0, s0⟩ := A
  dsimp only [Pt.U, Pt.locs, Pt.cells, Pt.slots] at h1 h2 h3 h4 h5 X hn hPc ⊢
  obtain ⟨methY, cY, hmY, hcY, -, hlY, -, -, -, -⟩ := Cond.code_spec hn h2
  obtain ⟨kY, hkY, -⟩ := className_of_methodNamed hn
  have hinitY : kY.init = .initialized := Cond.initialized_spec (findClass_of_methodNamed hn) hkY h3
  have h : At U g.method c below := by rw [hg]; exact X.here
  have hlocals9 : W9 + (maxL + 11) + (headSpec ws rm).room.locals ≤ R.locals := hlocals
  have happ : (headSpec ws rm).appliesLoose y e.platform (U.calling g mk a) = true :=
    Spec.appliesLoose_calling (g := g) h hdg hn hkY hinitY
      (X.room_calling (g := g) (R' := (headSpec ws rm).room) hsize hmY hcY hframes (by rw [hlY]; omega) h4 h5) h1
  obtain ⟨mid, hmid⟩ := h.above
  have hfr : (U.setTop g).frames = (.java g :: mid) ++ below := by rw [State.frames_setTop' g h.top, hmid]; rfl
  obtain ⟨o, s₂, hsteps, -, hend, hq⟩ := Steps.callFree hM p X.admits X.cas X.clock (acts := []) hfr happ hPc trivial
  have hq' : vx_Q Qc XC mc ms free a (U.calling g mk a) o s₂ := hq
  rw [State.frames_setTop' g h.top] at hend
  obtain ⟨g₀, hg0⟩ := Option.isSome_iff_exists.mp h.top
  obtain ⟨r, hr⟩ := State.topJava?_eq_some.mp hg0
  have hr' : (({ U with heap := s₂.heap, slotsUsed := s₂.slotsUsed } : State).setVm s₂.vm).frames = .java g₀ :: r := hr
  rcases hq' with ⟨hqc, L, hfe, hL⟩ | ⟨q, rfl, E, ce, L, hx, hce, hcv, hcl, hW₂, hsm, hL⟩
  · obtain ⟨⟨v, rfl⟩, hW₂, e2, q2, q3, q4, q5, q6⟩ := id hfe
    have e3 : s₂ = ({ (U.calling g mk a).setFrames s₂.frames with heap := s₂.heap, slotsUsed := s₂.slotsUsed } : State).setVm s₂.vm := by
      have : s₂ = ({ s₂ with vm := (U.calling g mk a).vm } : State).setVm s₂.vm := rfl
      rw [e2] at this
      exact this
    obtain ⟨c₂, i₂, len₂, hc₂, hd₂, hf₂⟩ := hend
    have hW' : U.WarmedH s₂.vm := hW₂
    have hcc : c₂ = c := by
      have h1 : s₂.code? g.method = U.code? g.method := by
        rw [State.code?_eq, State.code?_eq, hW'.alike.method?]
      exact Option.some.inj (hc₂.symm.trans (h1.trans h.code))
    subst hcc
    have hlen : len₂ = len := by rw [hdg] at hd₂; cases hd₂; rfl
    subst hlen
    have hs₂ : s₂ = (({ U with heap := s₂.heap, slotsUsed := s₂.slotsUsed } : State).setVm s₂.vm).setTop { g with pc := g.pc + len₂, stack := v.toList ++ g.stack } := by
      refine e3.trans ?_
      rw [hf₂, State.calling_eq h.top, State.setFrames_setFrames, State.setTop_of_frames _ hr', hr]
      rfl
    have hsame : U.sameButNew ({ U with heap := s₂.heap, slotsUsed := s₂.slotsUsed } : State) L mc ms := by
      refine ⟨?_, q2, q3, q4, q5, q6⟩
      obtain ⟨t, ht, -⟩ := State.frames_cons hr
      show ({ U with heap := s₂.heap, slotsUsed := s₂.slotsUsed } : State) = { U.setFrames U.frames with heap := s₂.heap, slotsUsed := s₂.slotsUsed }
      rw [State.setFrames_self ht]
    subst hg
    refine Or.inl ⟨v, ⟨(({ U with heap := s₂.heap, slotsUsed := s₂.slotsUsed } : State).setVm s₂.vm), Ls ++ L, c0 + mc, s0 + ms⟩,
      ⟨X.admits, X.cas, X.clock, X.frames, X.room, X.hears, X.method, X.code, (X.here.setHeapUsed s₂.heap s₂.slotsUsed).setVm hW'.alike, X.tail, State.WarmedH.trans X.warmed hW', X.limits, X.bytes, X.same.trans (hsame.setVm s.vm)⟩,
      ⟨g, mk, s₂, L, rfl, rfl, hqc, rfl, hL, rfl, rfl⟩, ?_⟩
    show Steps p.tables e below _ ((({ U with heap := s₂.heap, slotsUsed := s₂.slotsUsed } : State).setVm s₂.vm).setTop { g with pc := g.pc + len₂, stack := v.toList ++ g.stack })
    rw [← hs₂]
    exact hsteps
  · obtain ⟨e2, q2, q3, q4, q5, q6⟩ := id hsm
    have e3 : s₂ = ({ (U.calling g mk a).setFrames s₂.frames with heap := s₂.heap, slotsUsed := s₂.slotsUsed } : State).setVm s₂.vm := by
      have : s₂ = ({ s₂ with vm := (U.calling g mk a).vm } : State).setVm s₂.vm := rfl
      rw [e2] at this
      exact this
    have hf₂ : s₂.frames = .throwing q :: .java g :: U.frames.tail := hend
    have hW' : U.WarmedH s₂.vm := hW₂
    have hs₂ : s₂ = ((({ U with heap := s₂.heap, slotsUsed := s₂.slotsUsed } : State).setVm s₂.vm).setTop g).pushFrame (.throwing q) := by
      refine e3.trans ?_
      rw [hf₂, State.calling_eq h.top, State.setFrames_setFrames, State.pushFrame, State.frames_setTop _ hr', State.setTop_of_frames _ hr', State.setFrames_setFrames, hr]
      rfl
    have hsame : U.sameButNew ({ U with heap := s₂.heap, slotsUsed := s₂.slotsUsed } : State) L mc ms := by
      refine ⟨?_, q2, q3, q4, q5, q6⟩
      obtain ⟨t, ht, -⟩ := State.frames_cons hr
      show ({ U with heap := s₂.heap, slotsUsed := s₂.slotsUsed } : State) = { U.setFrames U.frames with heap := s₂.heap, slotsUsed := s₂.slotsUsed }
      rw [State.setFrames_self ht]
    subst hg
    refine Or.inr ⟨q, ⟨(({ U with heap := s₂.heap, slotsUsed := s₂.slotsUsed } : State).setVm s₂.vm), Ls ++ L, c0 + mc, s0 + ms⟩,
      ⟨X.admits, X.cas, X.clock, X.frames, X.room, X.hears, X.method, X.code, (X.here.setHeapUsed s₂.heap s₂.slotsUsed).setVm hW'.alike, X.tail, State.WarmedH.trans X.warmed hW', X.limits, X.bytes, X.same.trans (hsame.setVm s.vm)⟩,
      ⟨g, mk, s₂, L, E, ce, rfl, rfl, hx, hce, hcv, hcl, rfl, hL, rfl, rfl⟩, ?_⟩
    show Steps p.tables e below _ (((({ U with heap := s₂.heap, slotsUsed := s₂.slotsUsed } : State).setVm s₂.vm).setTop g).pushFrame (.throwing q))
    rw [← hs₂]
    exact hsteps
end Payer
section Calls
variable {p : Program} {l : Launch} {e : Env} {R : Room} {s : State} {m : MethodId} {args : Array Value} {below : List Frame} {meth : Method} {c : Code} {T : State} {locs : List Loc} {cells slots : Nat}
theorem vx_callV (X : Stand p l e R s m args below meth c T locs cells slots) (hexec : p.tables.exec = Jvm.exec) {own C : String} {index : Nat} {y : MethodName} {bytes : ByteArray} {maxL : Nat} {ret : Option FieldType}
    (hown : s.vm.findClass own = some m.cls) (hlink : (Cond.methodLink own index y).before args s = true) (hinst : (Cond.instanceMethod y).before args s = true) (hsel : (Cond.selects C y y).before args s = true)
    (hcode : (Cond.code y bytes maxL ret).before args s = true) (hy : y.cls ≠ "java/lang/invoke/MethodHandle" ∧ y.cls ≠ "java/lang/invoke/VarHandle")
    {W9 : Nat} {Pre : Pt → Array Value → Prop} {Post : Pt → Array Value → Option Value → Pt → Prop} {PostX : Pt → Array Value → Addr → Pt → Prop} (hK : vx_Back l R p e below s args y 3 W9 Pre Post PostX)
    {b : Addr} {cellB : Cell} (hcell : T.heap[b]? = some cellB) (hobj : cellB.vm.isStatics = false) (hcls : s.vm.findClass C = some cellB.cls)
    {g : JFrame} (hg : g.method = m) (hsize : g.locals.size = c.maxLocals) {argsL rest : List Value} (hlen : ∀ sig, parseMethodDescriptor y.desc = some sig → argsL.length = sig.parameters.length)
    (hstack : g.stack = argsL.reverse ++ .ref b :: rest) (hW : 2 * g.monitorRoom + (rest.map fun v => v.category).sum ≤ W9) (hdg : decode c.code g.pc = .ok (.invokevirtual index, 3))
    (hpre : ∀ vm₁, s.WarmedH vm₁ → Pre ⟨T.setVm vm₁, locs, cells, slots⟩ (Value.ref b :: argsL).toArray) :
    (∃ (v : Option Value) (vm₁ : Vm) (B : Pt), s.WarmedH vm₁ ∧ Stand p l e R s m args below meth c B.U B.locs B.cells B.slots ∧ Post ⟨T.setVm vm₁, locs, cells, slots⟩ (Value.ref b :: argsL).toArray v B ∧
      ∀ target, Steps p.tables e below (B.U.setTop { g with pc := g.pc + 3, stack := v.toList ++ rest }) target → Steps p.tables e below (T.setTop g) target) ∨
    (∃ (q : Addr) (vm₁ : Vm) (B : Pt), s.WarmedH vm₁ ∧ Stand p l e R s m args below meth c B.U B.locs B.cells B.slots ∧ PostX ⟨T.setVm vm₁, locs, cells, slots⟩ (Value.ref b :: argsL).toArray q B ∧
      Steps p.tables e below (T.setTop g) ((B.U.setTop { g with stack := rest }).pushFrame (.throwing q))) := by
  obtain ⟨mk, methM, hnamed, hmethM, hstM, habM⟩ := Cond.instanceMethod_spec hinst
  obtain ⟨methM', cM, hmethM', -, -, -, -, -, -, hsigM⟩ := Cond.code_spec hnamed hcode
  cases hmethM.symm.trans hmethM'
  obtain ⟨c2, r2, m2, q1, q2, q3, q4, kP, hkP, hkPi⟩ := Cond.selects_spec hsel
  cases hcls.symm.trans q1
  cases (State.methodFound?_of_named hnamed hy).symm.trans q2
  cases hnamed.symm.trans q3
  have hselP : selectMethod e.platform s.vm cellB.cls mk = .method mk := by rw [Launch.admits_selectMethod X.admits]; exact q4
  obtain ⟨vm₁, X₁, hstep₁⟩ := X.invokevirtual hexec hown hlink hnamed hmethM hstM hkP hkPi hy (a := b) (cell := cellB) hcell
    (fun z h => by rw [h] at hobj; cases hobj) hselP hmethM habM hkP hkPi (g := g) hg (argsL := argsL) (rest := rest) (hlen _ hsigM) hstack hdg
  rcases hK m meth c ⟨T.setVm vm₁, locs, cells, slots⟩ { g with stack := rest } (.invokevirtual index) mk (Value.ref b :: argsL).toArray X₁ hg hsize hdg hW (X₁.named hnamed) (hpre vm₁ X₁.warmed) with ⟨v, B, X', hpost, hsteps⟩ | ⟨q, B, X', hpost, hsteps⟩
  · exact Or.inl ⟨v, vm₁, B, X₁.warmed, X', hpost, fun target h => hstep₁ _ fun acts => by rw [doInvoke_state]; exact hsteps.trans h⟩
  · exact Or.inr ⟨q, vm₁, B, X₁.warmed, X', hpost, hstep₁ _ fun acts => by rw [doInvoke_state]; exact hsteps⟩
theorem vx_callS (X : Stand p l e R s m args below meth c T locs cells slots) (hexec : p.tables.exec = Jvm.exec) {own : String} {index : Nat} {y : MethodName} {bytes : ByteArray} {maxL : Nat} {ret : Option FieldType}
    (hown : s.vm.findClass own = some m.cls) (hlink : (Cond.methodLink own index y).before args s = true) (hstat : (Cond.static y).before args s = true) (hinit : (Cond.initialized y.cls).before args s = true)
    (hcode : (Cond.code y bytes maxL ret).before args s = true) (hy : y.cls ≠ "java/lang/invoke/MethodHandle" ∧ y.cls ≠ "java/lang/invoke/VarHandle")
    {W9 : Nat} {Pre : Pt → Array Value → Prop} {Post : Pt → Array Value → Option Value → Pt → Prop} {PostX : Pt → Array Value → Addr → Pt → Prop} (hK : vx_Back l R p e below s args y 3 W9 Pre Post PostX)
    {g : JFrame} (hg : g.method = m) (hsize : g.locals.size = c.maxLocals) {argsL rest : List Value} (hlen : ∀ sig, parseMethodDescriptor y.desc = some sig → argsL.length = sig.parameters.length)
    (hstack : g.stack = argsL.reverse ++ rest) (hW : 2 * g.monitorRoom + (rest.map fun v => v.category).sum ≤ W9) (hdg : decode c.code g.pc = .ok (.invokestatic index, 3))
    (hpre : ∀ vm₁, s.WarmedH vm₁ → Pre ⟨T.setVm vm₁, locs, cells, slots⟩ argsL.toArray) :
    (∃ (v : Option Value) (vm₁ : Vm) (B : Pt), s.WarmedH vm₁ ∧ Stand p l e R s m args below meth c B.U B.locs B.cells B.slots ∧ Post ⟨T.setVm vm₁, locs, cells, slots⟩ argsL.toArray v B ∧
      ∀ target, Steps p.tables e below (B.U.setTop { g with pc := g.pc + 3, stack := v.toList ++ rest }) target → Steps p.tables e below (T.setTop g) target) ∨
    (∃ (q : Addr) (vm₁ : Vm) (B : Pt), s.WarmedH vm₁ ∧ Stand p l e R s m args below meth c B.U B.locs B.cells B.slots ∧ PostX ⟨T.setVm vm₁, locs, cells, slots⟩ argsL.toArray q B ∧
      Steps p.tables e below (T.setTop g) ((B.U.setTop { g with stack := rest }).pushFrame (.throwing q))) := by
  obtain ⟨mk, hnamed⟩ := Cond.code_named hcode
  obtain ⟨methM, cM, hmethM, -, -, -, -, -, -, hsigM⟩ := Cond.code_spec hnamed hcode
  have hstatic : methM.isStatic = true := Cond.static_spec hnamed hmethM hstat
  obtain ⟨kP, hkP, -⟩ := className_of_methodNamed hnamed
  have hinitP : kP.init = .initialized := Cond.initialized_spec (findClass_of_methodNamed hnamed) hkP hinit
  obtain ⟨vm₁, X₁, hstep₁⟩ := X.invokestatic hexec hown hlink hnamed hmethM hstatic hkP hinitP hy (g := g) hg (argsL := argsL) (rest := rest) (hlen _ hsigM) hstack hdg
  rcases hK m meth c ⟨T.setVm vm₁, locs, cells, slots⟩ { g with stack := rest } (.invokestatic index) mk argsL.toArray X₁ hg hsize hdg hW (X₁.named hnamed) (hpre vm₁ X₁.warmed) with ⟨v, B, X', hpost, hsteps⟩ | ⟨q, B, X', hpost, hsteps⟩
  · exact Or.inl ⟨v, vm₁, B, X₁.warmed, X', hpost, fun target h => hstep₁ _ fun acts => by rw [doInvoke_state]; exact hsteps.trans h⟩
  · exact Or.inr ⟨q, vm₁, B, X₁.warmed, X', hpost, hstep₁ _ fun acts => by rw [doInvoke_state]; exact hsteps⟩
end Calls
theorem vx_cls {s : State} {T : State} {vm₁ : Vm} {E : String} {k : ClassId} (hW : s.WarmedH vm₁) (h : (T.setVm vm₁).vm.findClass E = some k) : s.vm.findClass E = some k := by
  have h1 : vm₁.findClass E = some k := h
  rw [hW.alike.findClass] at h1
  exact h1
/-- the method's frame g, with q thrown over it -/
def vx_W (p : Program) (l : Launch) (e : Env) (R : Room) (s : State) (m : MethodId) (args : Array Value) (below : List Frame) (meth : Method) (c : Code) (H : Heap) (locs : List Loc) (cells slots : Nat) (Q : State → Prop) (g : JFrame) (q : Addr) : Prop :=
  ∀ T : State, T.heap = H → Stand p l e R s m args below meth c T locs cells slots → ∃ t, Steps p.tables e below ((T.setTop g).pushFrame (.throwing q)) t ∧ Q t
def vx_Run (p : Program) (l : Launch) (e : Env) (R : Room) (s : State) (m : MethodId) (args : Array Value) (below : List Frame) (meth : Method) (c : Code) (H : Heap) (locs : List Loc) (cells slots mc ms : Nat) (g : JFrame) (rest : List Value) (Qa : State → Outcome → State → Prop) (XC : String → State → State → Prop) (free : Addr → Prop) : Prop :=
  ∀ T : State, T.heap = H → Stand p l e R s m args below meth c T locs cells slots →
    (∃ (v : Option Value) (st₀ t T' : State) (L : List Loc), st₀.heap = H ∧ Stand p l e R s m args below meth c T' (locs ++ L) (cells + mc) (slots + ms) ∧ (∀ q ∈ L, free q.base) ∧ T'.heap = t.heap ∧ T'.vm = t.vm ∧ Qa st₀ (.returned v) t ∧
      Goes p e below T g T' { g with pc := g.pc + 3, stack := v.toList ++ rest }) ∨
    (∃ (q : Addr) (st₀ t T' : State) (L : List Loc) (E : String) (ce : Cell), st₀.heap = H ∧ Stand p l e R s m args below meth c T' (locs ++ L) (cells + mc) (slots + ms) ∧ (∀ z ∈ L, free z.base) ∧ T'.heap = t.heap ∧ T'.vm = t.vm ∧ XC E st₀ t ∧ t.heap[q]? = some ce ∧ ce.vm = .none ∧ s.vm.findClass E = some ce.cls ∧
      Steps p.tables e below (T.setTop g) ((T'.setTop { g with stack := rest }).pushFrame (.throwing q)))
def vx_X {S : Type} (px : S → Prop) (B : String → S → State → Prop) (A : Nat → Prop) : String → State → State → Prop := fun E st t => ∃ u : S, px u ∧ B E u t ∧ va_F A st t
section Runs
variable {p : Program} {l : Launch} {e : Env} {R : Room} {s : State} {m : MethodId} {args : Array Value} {below : List Frame} {meth : Method} {c : Code} {H : Heap} {locs : List Loc} {cells slots : Nat}
variable {y : MethodName} {bytes cc : ByteArray} {maxL nL mc ms n index : Nat} {ret : Option FieldType} {ws : List Cond} {rm : Room} {Pc : Array Value → State → Prop} {Qc : Array Value → State → Outcome → State → Prop} {XC : String → State → State → Prop} {free : Addr → Prop} {Ts : List Cond} {own C : String} {b : Addr} {As rest : List Value} {g : JFrame}
theorem vx_callBack (cb : CallB R s args own index y bytes maxL ret ws rm mc ms n) (hM : vx_Met l y ws rm Pc Qc XC mc ms free) (hbl : FrameBlind Pc) : vx_Back l R p e below s args y 3 8 (PreOf R mc ms Pc) (PostOf Qc mc ms free) (vx_Post XC mc ms free) := by
  obtain ⟨hrc, hrs, hfr, hlo, hws, hcw, -, hini, -⟩ := cb
  exact vx_back (bytes := bytes) (maxL := maxL) (ret := ret) hM hbl hrc hrs hfr hlo hws hcw (fun a' U hW => word_at hW (Or.inl (by first | rfl | simp [Cond.onTables, Cond.keeps, Cond.steady])) hini)
theorem vx_runV (S : CallFix p m c cc nL s args Ts own) (hM : vx_Met l y ws rm Pc Qc XC mc ms free) (cw : CallW R s args own C index y bytes maxL ret ws rm mc ms n) (hp : PreV s H C b Pc As)
    (hg : g.method = m) (hn : As.length = n) (hsize : g.locals.size = nL) (hstack : g.stack = As.reverse ++ .ref b :: rest) (hW : 2 * g.monitorRoom + (rest.map fun v => v.category).sum ≤ 8) (hdg : decode cc g.pc = .ok (.invokevirtual index, 3)) (hf : cells + mc ≤ R.cells ∧ slots + ms ≤ R.slots) :
    vx_Run p l e R s m args below meth c H locs cells slots mc ms g rest (Qc (Value.ref b :: As).toArray) XC free := by
  have hK : vx_Back l R p e below s args y 3 8 (PreOf R mc ms Pc) (PostOf Qc mc ms free) (vx_Post XC mc ms free) := vx_callBack cw.1 hM hp.1
  obtain ⟨⟨-, -, -, -, -, -, hcode, -, hy, hlen, hl⟩, hin, hse⟩ := cw
  obtain ⟨hx, hb, hml, ho, -⟩ := S
  obtain ⟨-, ⟨cellB, hcB, hoB, hclB⟩, hPc⟩ := hp
  intro T hT X
  rcases vx_callV X hx (C := C) (bytes := bytes) (maxL := maxL) (ret := ret) ho hl hin hse hcode hy hK (by rw [hT]; exact hcB) hoB hclB hg (hsize.trans hml.symm) (argsL := As) (rest := rest) (fun sig h => hn.trans (hlen sig h)) hstack hW (by rw [hb]; exact hdg)
    (fun vm₁ hW₁ => ⟨hf.1, hf.2, hPc (T.setVm vm₁) hT hW₁⟩) with ⟨v, vm₁, ⟨U', l2, c2, s2⟩, hW₁, X', ⟨g', mk, t, L, e1, e2, hq, h1, hL, h2, h3⟩, st⟩ | ⟨q, vm₁, ⟨U', l2, c2, s2⟩, hW₁, X', ⟨g', mk, t, L, E, ce, e1, e2, hq, hce, hcv, hcl, h1, hL, h2, h3⟩, st⟩
  · dsimp only [Pt.U, Pt.locs, Pt.cells, Pt.slots] at X' e1 e2 h1 h2 h3 st
    subst h1; subst h2; subst h3
    exact Or.inl ⟨v, (T.setVm vm₁).calling g' mk (Value.ref b :: As).toArray, t, U', L, hT, X', hL, e1, e2, hq, st⟩
  · dsimp only [Pt.U, Pt.locs, Pt.cells, Pt.slots] at X' e1 e2 h1 h2 h3 st hcl
    subst h1; subst h2; subst h3
    exact Or.inr ⟨q, (T.setVm vm₁).calling g' mk (Value.ref b :: As).toArray, t, U', L, E, ce, hT, X', hL, e1, e2, hq, hce, hcv, vx_cls hW₁ hcl, st⟩
theorem vx_runS (S : CallFix p m c cc nL s args Ts own) (hM : vx_Met l y ws rm Pc Qc XC mc ms free) (cw : CallB R s args own index y bytes maxL ret ws rm mc ms n ∧ (Cond.static y).before args s = true) (hp : PreS s H Pc As)
    (hg : g.method = m) (hn : As.length = n) (hsize : g.locals.size = nL) (hstack : g.stack = As.reverse ++ rest) (hW : 2 * g.monitorRoom + (rest.map fun v => v.category).sum ≤ 8) (hdg : decode cc g.pc = .ok (.invokestatic index, 3)) (hf : cells + mc ≤ R.cells ∧ slots + ms ≤ R.slots) :
    vx_Run p l e R s m args below meth c H locs cells slots mc ms g rest (Qc As.toArray) XC free := by
  have hK : vx_Back l R p e below s args y 3 8 (PreOf R mc ms Pc) (PostOf Qc mc ms free) (vx_Post XC mc ms free) := vx_callBack cw.1 hM hp.1
  obtain ⟨⟨-, -, -, -, -, -, hcode, hini, hy, hlen, hl⟩, hstt⟩ := cw
  obtain ⟨hx, hb, hml, ho, -⟩ := S
  intro T hT X
  rcases vx_callS X hx (bytes := bytes) (maxL := maxL) (ret := ret) ho hl hstt hini hcode hy hK hg (hsize.trans hml.symm) (argsL := As) (rest := rest) (fun sig h => hn.trans (hlen sig h)) hstack hW (by rw [hb]; exact hdg)
    (fun vm₁ hW₁ => ⟨hf.1, hf.2, hp.2 (T.setVm vm₁) hT hW₁⟩) with ⟨v, vm₁, ⟨U', l2, c2, s2⟩, hW₁, X', ⟨g', mk, t, L, e1, e2, hq, h1, hL, h2, h3⟩, st⟩ | ⟨q, vm₁, ⟨U', l2, c2, s2⟩, hW₁, X', ⟨g', mk, t, L, E, ce, e1, e2, hq, hce, hcv, hcl, h1, hL, h2, h3⟩, st⟩
  · dsimp only [Pt.U, Pt.locs, Pt.cells, Pt.slots] at X' e1 e2 h1 h2 h3 st
    subst h1; subst h2; subst h3
    exact Or.inl ⟨v, (T.setVm vm₁).calling g' mk As.toArray, t, U', L, hT, X', hL, e1, e2, hq, st⟩
  · dsimp only [Pt.U, Pt.locs, Pt.cells, Pt.slots] at X' e1 e2 h1 h2 h3 st hcl
    subst h1; subst h2; subst h3
    exact Or.inr ⟨q, (T.setVm vm₁).calling g' mk As.toArray, t, U', L, E, ce, hT, X', hL, e1, e2, hq, hce, hcv, vx_cls hW₁ hcl, st⟩
end Runs
section Rows
variable {p : Program} {l : Launch} {e : Env} {R : Room} {s : State} {m : MethodId} {args : Array Value} {below : List Frame} {meth : Method} {c : Code} {H : Heap} {locs : List Loc} {cells slots : Nat} {Q : State → Prop}
variable {mc ms : Nat} {free : Addr → Prop} {A0 A1 : Nat → Prop} {H0 : Heap} {a : Array Value} {pc : Nat} {ls : Array Slot} {st0 rest : List Value}
theorem vx_keep {st₀ t T' : State} {L : List Loc} (h0 : st₀.heap = H) (e1 : T'.heap = t.heap) (hS : va_S A0 H0 H locs) (hA : ∀ q, q < H.size → A1 q → A0 q) (hf : ∀ q, free q → A0 q) (hL : ∀ q ∈ L, free q.base) (hF : va_F A1 st₀ t) :
    H.size ≤ T'.heap.size ∧ (∀ q : Nat, q < H.size → ¬ A1 q → T'.heap[q]? = H[q]?) ∧ va_S A0 H0 T'.heap (locs ++ L) := by
  obtain ⟨hz, hk⟩ := hF
  rw [h0] at hz hk
  exact ⟨by rw [e1]; exact hz, fun q h1 h2 => by rw [e1]; exact hk q h1 h2,
    ⟨Nat.le_trans hS.1 (by rw [e1]; exact hz), fun q h1 h2 => by rw [e1, hk q (Nat.lt_of_lt_of_le h1 hS.1) (fun z => h2 (hA q (Nat.lt_of_lt_of_le h1 hS.1) z))]; exact hS.2.1 q h1 h2, fun q hq => by
      rcases List.mem_append.mp hq with h | h
      · exact hS.2.2 q h
      · exact hf _ (hL q h)⟩⟩
theorem vx_calli {S SX : Type} {post : Int32 → S → Prop} {px : SX → Prop} {B : S → State → Prop} {BX : String → SX → State → Prop} {AX : Nat → Prop} (hr : vx_Run p l e R s m args below meth c H locs cells slots mc ms (F0 m pc ls st0) rest (va_Qi post B A1 a) (vx_X px BX AX) free) (hS : va_S A0 H0 H locs) (hA : ∀ q, q < H.size → A1 q → A0 q) (hf : ∀ q, free q → A0 q) (hAX : ∀ q, q < H.size → AX q → A0 q)
    (kx : ∀ (E : String) (ce : Cell) (q9 : Addr) (u : SX) (t : State) (H1 : Heap) (locs1 : List Loc), t.heap = H1 → s.vm.Alike t.vm → px u → BX E u t → H.size ≤ H1.size → (∀ q : Nat, q < H.size → ¬ AX q → H1[q]? = H[q]?) → va_S A0 H0 H1 locs1 → H1[q9]? = some ce → ce.vm = .none → s.vm.findClass E = some ce.cls → vx_W p l e R s m args below meth c H1 locs1 (cells + mc) (slots + ms) Q (F0 m pc ls rest) q9)
    (kk : ∀ (r : Int32) (u : S) (t : State) (H1 : Heap) (locs1 : List Loc), t.heap = H1 → s.vm.Alike t.vm → post r u → B u t → H.size ≤ H1.size → (∀ q : Nat, q < H.size → ¬ A1 q → H1[q]? = H[q]?) → va_S A0 H0 H1 locs1 → W p l e R s m args below meth c H1 locs1 (cells + mc) (slots + ms) Q (F0 m (pc + 3) ls (.int r :: rest))) : W p l e R s m args below meth c H locs cells slots Q (F0 m pc ls st0) := by
  intro T hT X
  rcases hr T hT X with ⟨v, st₀, t, T', L, h0, X', hL, e1, e2, ⟨⟨r, u, hv, hp, hb⟩, hF⟩, st⟩ | ⟨q, st₀, t, T', L, E, ce, h0, X', hL, e1, e2, ⟨u, hp, hb, hF⟩, hce, hcv, hcl, st⟩
  · cases hv
    obtain ⟨k1, k2, k3⟩ := vx_keep h0 e1 hS hA hf hL hF
    obtain ⟨t2, a1, b1⟩ := kk r u t T'.heap (locs ++ L) e1.symm (by rw [← e2]; exact X'.warmed.alike) hp hb k1 k2 k3 T' rfl X'
    exact ⟨t2, st t2 a1, b1⟩
  · obtain ⟨k1, k2, k3⟩ := vx_keep h0 e1 hS hAX hf hL hF
    obtain ⟨t2, a1, b1⟩ := kx E ce q u t T'.heap (locs ++ L) e1.symm (by rw [← e2]; exact X'.warmed.alike) hp hb k1 k2 k3 (by rw [e1]; exact hce) hcv hcl T' rfl X'
    exact ⟨t2, st.trans a1, b1⟩
theorem vx_calll {S SX : Type} {post : Int64 → S → Prop} {px : SX → Prop} {B : S → State → Prop} {BX : String → SX → State → Prop} {AX : Nat → Prop} (hr : vx_Run p l e R s m args below meth c H locs cells slots mc ms (F0 m pc ls st0) rest (va_Ql post B A1 a) (vx_X px BX AX) free) (hS : va_S A0 H0 H locs) (hA : ∀ q, q < H.size → A1 q → A0 q) (hf : ∀ q, free q → A0 q) (hAX : ∀ q, q < H.size → AX q → A0 q)
    (kx : ∀ (E : String) (ce : Cell) (q9 : Addr) (u : SX) (t : State) (H1 : Heap) (locs1 : List Loc), t.heap = H1 → s.vm.Alike t.vm → px u → BX E u t → H.size ≤ H1.size → (∀ q : Nat, q < H.size → ¬ AX q → H1[q]? = H[q]?) → va_S A0 H0 H1 locs1 → H1[q9]? = some ce → ce.vm = .none → s.vm.findClass E = some ce.cls → vx_W p l e R s m args below meth c H1 locs1 (cells + mc) (slots + ms) Q (F0 m pc ls rest) q9)
    (kk : ∀ (r : Int64) (u : S) (t : State) (H1 : Heap) (locs1 : List Loc), t.heap = H1 → s.vm.Alike t.vm → post r u → B u t → H.size ≤ H1.size → (∀ q : Nat, q < H.size → ¬ A1 q → H1[q]? = H[q]?) → va_S A0 H0 H1 locs1 → W p l e R s m args below meth c H1 locs1 (cells + mc) (slots + ms) Q (F0 m (pc + 3) ls (.long r :: rest))) : W p l e R s m args below meth c H locs cells slots Q (F0 m pc ls st0) := by
  intro T hT X
  rcases hr T hT X with ⟨v, st₀, t, T', L, h0, X', hL, e1, e2, ⟨⟨r, u, hv, hp, hb⟩, hF⟩, st⟩ | ⟨q, st₀, t, T', L, E, ce, h0, X', hL, e1, e2, ⟨u, hp, hb, hF⟩, hce, hcv, hcl, st⟩
  · cases hv
    obtain ⟨k1, k2, k3⟩ := vx_keep h0 e1 hS hA hf hL hF
    obtain ⟨t2, a1, b1⟩ := kk r u t T'.heap (locs ++ L) e1.symm (by rw [← e2]; exact X'.warmed.alike) hp hb k1 k2 k3 T' rfl X'
    exact ⟨t2, st t2 a1, b1⟩
  · obtain ⟨k1, k2, k3⟩ := vx_keep h0 e1 hS hAX hf hL hF
    obtain ⟨t2, a1, b1⟩ := kx E ce q u t T'.heap (locs ++ L) e1.symm (by rw [← e2]; exact X'.warmed.alike) hp hb k1 k2 k3 (by rw [e1]; exact hce) hcv hcl T' rfl X'
    exact ⟨t2, st.trans a1, b1⟩
theorem vx_callf {S SX : Type} {post : UInt32 → S → Prop} {px : SX → Prop} {B : S → State → Prop} {BX : String → SX → State → Prop} {AX : Nat → Prop} (hr : vx_Run p l e R s m args below meth c H locs cells slots mc ms (F0 m pc ls st0) rest (va_Qf post B A1 a) (vx_X px BX AX) free) (hS : va_S A0 H0 H locs) (hA : ∀ q, q < H.size → A1 q → A0 q) (hf : ∀ q, free q → A0 q) (hAX : ∀ q, q < H.size → AX q → A0 q)
    (kx : ∀ (E : String) (ce : Cell) (q9 : Addr) (u : SX) (t : State) (H1 : Heap) (locs1 : List Loc), t.heap = H1 → s.vm.Alike t.vm → px u → BX E u t → H.size ≤ H1.size → (∀ q : Nat, q < H.size → ¬ AX q → H1[q]? = H[q]?) → va_S A0 H0 H1 locs1 → H1[q9]? = some ce → ce.vm = .none → s.vm.findClass E = some ce.cls → vx_W p l e R s m args below meth c H1 locs1 (cells + mc) (slots + ms) Q (F0 m pc ls rest) q9)
    (kk : ∀ (r : UInt32) (u : S) (t : State) (H1 : Heap) (locs1 : List Loc), t.heap = H1 → s.vm.Alike t.vm → post r u → B u t → H.size ≤ H1.size → (∀ q : Nat, q < H.size → ¬ A1 q → H1[q]? = H[q]?) → va_S A0 H0 H1 locs1 → W p l e R s m args below meth c H1 locs1 (cells + mc) (slots + ms) Q (F0 m (pc + 3) ls (.float r :: rest))) : W p l e R s m args below meth c H locs cells slots Q (F0 m pc ls st0) := by
  intro T hT X
  rcases hr T hT X with ⟨v, st₀, t, T', L, h0, X', hL, e1, e2, ⟨⟨r, u, hv, hp, hb⟩, hF⟩, st⟩ | ⟨q, st₀, t, T', L, E, ce, h0, X', hL, e1, e2, ⟨u, hp, hb, hF⟩, hce, hcv, hcl, st⟩
  · cases hv
    obtain ⟨k1, k2, k3⟩ := vx_keep h0 e1 hS hA hf hL hF
    obtain ⟨t2, a1, b1⟩ := kk r u t T'.heap (locs ++ L) e1.symm (by rw [← e2]; exact X'.warmed.alike) hp hb k1 k2 k3 T' rfl X'
    exact ⟨t2, st t2 a1, b1⟩
  · obtain ⟨k1, k2, k3⟩ := vx_keep h0 e1 hS hAX hf hL hF
    obtain ⟨t2, a1, b1⟩ := kx E ce q u t T'.heap (locs ++ L) e1.symm (by rw [← e2]; exact X'.warmed.alike) hp hb k1 k2 k3 (by rw [e1]; exact hce) hcv hcl T' rfl X'
    exact ⟨t2, st.trans a1, b1⟩
theorem vx_calld {S SX : Type} {post : UInt64 → S → Prop} {px : SX → Prop} {B : S → State → Prop} {BX : String → SX → State → Prop} {AX : Nat → Prop} (hr : vx_Run p l e R s m args below meth c H locs cells slots mc ms (F0 m pc ls st0) rest (va_Qd post B A1 a) (vx_X px BX AX) free) (hS : va_S A0 H0 H locs) (hA : ∀ q, q < H.size → A1 q → A0 q) (hf : ∀ q, free q → A0 q) (hAX : ∀ q, q < H.size → AX q → A0 q)
    (kx : ∀ (E : String) (ce : Cell) (q9 : Addr) (u : SX) (t : State) (H1 : Heap) (locs1 : List Loc), t.heap = H1 → s.vm.Alike t.vm → px u → BX E u t → H.size ≤ H1.size → (∀ q : Nat, q < H.size → ¬ AX q → H1[q]? = H[q]?) → va_S A0 H0 H1 locs1 → H1[q9]? = some ce → ce.vm = .none → s.vm.findClass E = some ce.cls → vx_W p l e R s m args below meth c H1 locs1 (cells + mc) (slots + ms) Q (F0 m pc ls rest) q9)
    (kk : ∀ (r : UInt64) (u : S) (t : State) (H1 : Heap) (locs1 : List Loc), t.heap = H1 → s.vm.Alike t.vm → post r u → B u t → H.size ≤ H1.size → (∀ q : Nat, q < H.size → ¬ A1 q → H1[q]? = H[q]?) → va_S A0 H0 H1 locs1 → W p l e R s m args below meth c H1 locs1 (cells + mc) (slots + ms) Q (F0 m (pc + 3) ls (.double r :: rest))) : W p l e R s m args below meth c H locs cells slots Q (F0 m pc ls st0) := by
  intro T hT X
  rcases hr T hT X with ⟨v, st₀, t, T', L, h0, X', hL, e1, e2, ⟨⟨r, u, hv, hp, hb⟩, hF⟩, st⟩ | ⟨q, st₀, t, T', L, E, ce, h0, X', hL, e1, e2, ⟨u, hp, hb, hF⟩, hce, hcv, hcl, st⟩
  · cases hv
    obtain ⟨k1, k2, k3⟩ := vx_keep h0 e1 hS hA hf hL hF
    obtain ⟨t2, a1, b1⟩ := kk r u t T'.heap (locs ++ L) e1.symm (by rw [← e2]; exact X'.warmed.alike) hp hb k1 k2 k3 T' rfl X'
    exact ⟨t2, st t2 a1, b1⟩
  · obtain ⟨k1, k2, k3⟩ := vx_keep h0 e1 hS hAX hf hL hF
    obtain ⟨t2, a1, b1⟩ := kx E ce q u t T'.heap (locs ++ L) e1.symm (by rw [← e2]; exact X'.warmed.alike) hp hb k1 k2 k3 (by rw [e1]; exact hce) hcv hcl T' rfl X'
    exact ⟨t2, st.trans a1, b1⟩
theorem vx_callv {S SX : Type} {post : S → Prop} {px : SX → Prop} {B : S → State → Prop} {BX : String → SX → State → Prop} {AX : Nat → Prop} (hr : vx_Run p l e R s m args below meth c H locs cells slots mc ms (F0 m pc ls st0) rest (va_Qv post B A1 a) (vx_X px BX AX) free) (hS : va_S A0 H0 H locs) (hA : ∀ q, q < H.size → A1 q → A0 q) (hf : ∀ q, free q → A0 q) (hAX : ∀ q, q < H.size → AX q → A0 q)
    (kx : ∀ (E : String) (ce : Cell) (q9 : Addr) (u : SX) (t : State) (H1 : Heap) (locs1 : List Loc), t.heap = H1 → s.vm.Alike t.vm → px u → BX E u t → H.size ≤ H1.size → (∀ q : Nat, q < H.size → ¬ AX q → H1[q]? = H[q]?) → va_S A0 H0 H1 locs1 → H1[q9]? = some ce → ce.vm = .none → s.vm.findClass E = some ce.cls → vx_W p l e R s m args below meth c H1 locs1 (cells + mc) (slots + ms) Q (F0 m pc ls rest) q9)
    (kk : ∀ (u : S) (t : State) (H1 : Heap) (locs1 : List Loc), t.heap = H1 → s.vm.Alike t.vm → post u → B u t → H.size ≤ H1.size → (∀ q : Nat, q < H.size → ¬ A1 q → H1[q]? = H[q]?) → va_S A0 H0 H1 locs1 → W p l e R s m args below meth c H1 locs1 (cells + mc) (slots + ms) Q (F0 m (pc + 3) ls (rest))) : W p l e R s m args below meth c H locs cells slots Q (F0 m pc ls st0) := by
  intro T hT X
  rcases hr T hT X with ⟨v, st₀, t, T', L, h0, X', hL, e1, e2, ⟨⟨u, hv, hp, hb⟩, hF⟩, st⟩ | ⟨q, st₀, t, T', L, E, ce, h0, X', hL, e1, e2, ⟨u, hp, hb, hF⟩, hce, hcv, hcl, st⟩
  · cases hv
    obtain ⟨k1, k2, k3⟩ := vx_keep h0 e1 hS hA hf hL hF
    obtain ⟨t2, a1, b1⟩ := kk u t T'.heap (locs ++ L) e1.symm (by rw [← e2]; exact X'.warmed.alike) hp hb k1 k2 k3 T' rfl X'
    exact ⟨t2, st t2 a1, b1⟩
  · obtain ⟨k1, k2, k3⟩ := vx_keep h0 e1 hS hAX hf hL hF
    obtain ⟨t2, a1, b1⟩ := kx E ce q u t T'.heap (locs ++ L) e1.symm (by rw [← e2]; exact X'.warmed.alike) hp hb k1 k2 k3 (by rw [e1]; exact hce) hcv hcl T' rfl X'
    exact ⟨t2, st.trans a1, b1⟩
/-- caught by the row x of this method's table; the rows ahead don't take it -/
theorem vx_catch {own name : String} {E : String} {ce : Cell} {q : Addr} (hown : s.vm.findClass own = some m.cls) (pre : List ExceptionTableEntry) (x : ExceptionTableEntry) (suf : List ExceptionTableEntry) (hsplit : c.exceptionTable.toList = pre ++ x :: suf)
    (hpass : ∀ z ∈ pre, covers z pc = false ∨ (z.catchType ≠ 0 ∧ ∃ nm : String, (Cond.classLink own z.catchType nm).before args s = true ∧ va_Nc E nm s)) (hx : covers x pc = true) (h0 : x.catchType ≠ 0)
    (hlink : (Cond.classLink own x.catchType name).before args s = true) (hcast : (Cond.castable E name).before args s = true) (hcell : H[q]? = some ce) (hv : ce.vm = .none) (hcl : s.vm.findClass E = some ce.cls)
    (kk : W p l e R s m args below meth c H locs cells slots Q (F0 m x.handlerPc ls [.ref q])) : vx_W p l e R s m args below meth c H locs cells slots Q (F0 m pc ls rest) q := by
  intro T hT X
  have hpl : e.platform.magicAccessors = ({} : Platform).magicAccessors := by rw [X.admits.platform]
  obtain ⟨c3, c4, hc3, hc4, hasg⟩ := Cond.castable_spec hcast
  cases Option.some.inj (hc3.symm.trans hcl)
  obtain ⟨c5, hc5, hcl5⟩ := Cond.classLink_spec hown hlink e.platform hpl
  cases Option.some.inj (hc4.symm.trans hc5)
  obtain ⟨vm', X', st⟩ := X.thenCaughtThrough q (g := F0 m pc ls rest) rfl (Steps.refl _) (by rw [hT]; exact hcell) (by rw [hv]; rfl) (by obtain ⟨k9, h9, -⟩ := Vm.findClass_spec hcl; exact ⟨k9, h9⟩) pre x suf hsplit
    (fun z hz => by
      rcases hpass z hz with h | ⟨hz0, nm, hl1, hn1⟩
      · exact Or.inl h
      · obtain ⟨c6, hc6, hcl6⟩ := Cond.classLink_spec hown hl1 e.platform hpl
        obtain ⟨a8, b8, h1, h2, h3⟩ := hn1
        cases Option.some.inj (h1.symm.trans hcl)
        cases Option.some.inj (h2.symm.trans hc6)
        exact Or.inr ⟨hz0, _, hcl6, h3⟩) hx (Or.inr ⟨h0, c4, hcl5, hasg⟩)
  obtain ⟨t, a1, b1⟩ := kk (T.setVm vm') hT X'
  exact ⟨t, st.trans a1, b1⟩
end Rows
section Ends
variable {p : Program} {l : Launch} {e : Env} {R : Room} {s : State} {m : MethodId} {args : Array Value} {below : List Frame} {meth : Method} {c : Code} {H : Heap} {locs : List Loc} {cells slots : Nat} {Q : State → Prop}
variable {mc ms : Nat} {free : Addr → Prop} {A0 A1 : Nat → Prop} {H0 : Heap} {a : Array Value} {ls : Array Slot} {st0 rest : List Value}
variable {Qc : Array Value → State → Outcome → State → Prop} {XC : String → State → State → Prop}
/-- what a body that may throw owes at its end -/
def vx_MQ (below : List Frame) (Qc : Array Value → State → Outcome → State → Prop) (XC : String → State → State → Prop) (a : Array Value) (s : State) (mc ms : Nat) (free : Addr → Prop) : State → Prop := fun t =>
  ∃ o, t.status = .running ∧ Ended t below o ∧ vx_Q Qc XC mc ms free a s o t
theorem vx_ret {g : JFrame} {mc ms : Nat} (k : W p l e R s m args below meth c H locs cells slots (MQ below Qc args s mc ms free) g) : W p l e R s m args below meth c H locs cells slots (vx_MQ below Qc XC args s mc ms free) g := by
  intro T hT X
  obtain ⟨t, a1, o, b1, b2, b3, b4⟩ := k T hT X
  exact ⟨t, a1, o, b1, b2, Or.inl ⟨b3, b4⟩⟩
/-- not caught here: it goes on to the caller -/
theorem vx_widen {g : JFrame} {q : Addr} {k n : Nat} (h1 : cells ≤ k) (h2 : slots ≤ n) (kk : vx_W p l e R s m args below meth c H locs k n Q g q) : vx_W p l e R s m args below meth c H locs cells slots Q g q := fun T hT X => kk T hT (stand_widen X h1 h2)
theorem vx_out {pc : Nat} {E : String} {ce : Cell} {q : Addr} {mc ms : Nat} (hout : ∀ x ∈ c.exceptionTable.toList, covers x pc = false) (hlocks : meth.locks = false) (hcell : H[q]? = some ce) (hv : ce.vm = .none) (hcl : s.vm.findClass E = some ce.cls)
    (hx : ∀ t : State, t.heap = H → s.vm.Alike t.vm → XC E s t) (hf : ∀ z ∈ locs, free z.base) (hc : cells ≤ mc) (hs : slots ≤ ms) :
    vx_W p l e R s m args below meth c H locs cells slots (vx_MQ below Qc XC args s mc ms free) (F0 m pc ls rest) q := by
  intro T hT X
  obtain ⟨st1, hrun, hend, hW, hsm⟩ := X.leaveThrown q (g := F0 m pc ls rest) rfl rfl rfl hout hlocks
  have hcell9 : (T.setFrames (.throwing q :: below)).heap[q]? = some ce := by
    show T.heap[q]? = some ce
    rw [hT]; exact hcell
  exact ⟨_, st1, .threw q, hrun, hend, Or.inr ⟨q, rfl, E, ce, locs, hx _ hT hW.alike, hcell9, hv, hcl, hW, hsm.mono hc hs, hf⟩⟩
theorem vx_frame {U : State} {k n : Nat} (h : s.sameButNew ({ U with vm := s.vm } : State) locs k n) : s.heap.size ≤ U.heap.size ∧ ∀ q : Nat, q < s.heap.size → (∀ z ∈ locs, z.base ≠ q) → U.heap[q]? = s.heap[q]? := by
  obtain ⟨-, h2, -, -, -, h6⟩ := h
  refine ⟨h2, fun q hq hz => ?_⟩
  obtain ⟨c9, e1, e2, e3, e4⟩ := h6 q _ (Array.getElem?_eq_getElem hq)
  have hs : c9.slots = (s.heap[q]).slots := Array.ext_getElem? fun i => e4 i fun hm => hz _ hm rfl
  have h9 : c9 = s.heap[q] := by
    rw [hs] at e2
    exact e2
  have e5 : U.heap[q]? = some c9 := e1
  rw [e5, h9, Array.getElem?_eq_getElem hq]
/-- the words of a throw but the four that speak of the heap -/
def vx_no (w : Cond) : Bool := decide (w ≠ .isRef (.static Bundle.tN "UNASSIGNED_STACK" Bundle.steD)) && decide (w ≠ .isRef (.static Bundle.tN "SUPPRESSED_SENTINEL" Bundle.listD)) && decide (w ≠ .laysStatic Bundle.tN "UNASSIGNED_STACK" Bundle.steD) && decide (w ≠ .laysStatic Bundle.tN "SUPPRESSED_SENTINEL" Bundle.listD)
def vx_at0 (own : String) (ic : Nat) (X : String) (names : List String) : List Cond := (Bundle.ownAtoms0 own ic X names).filter vx_no
def vx_atS (own : String) (ic : Nat) (X : String) (names : List String) : List Cond := (Bundle.ownAtoms own ic X names).filter vx_no
/-- a word that the tables alone decide, or a good one -/
def vx_ot (w : Cond) : Bool := w.onTables || goodWord w
theorem vx_ot_at {args a' : Array Value} {s U : State} {w : Cond} (hW : s.WarmedH U.vm) (hvm : s.vm = U.vm) (hg : vx_ot w = true) (h : w.before args s = true) : w.before a' U = true := by
  simp only [vx_ot, Bool.or_eq_true] at hg
  rcases hg with hg | hg
  · exact va_tabs hg hvm h
  · exact word_at hW (good_of_word hg) h
/-- a list's words: the good ones out of the method's own list, the others by premises of their own -/
theorem vx_hat {args : Array Value} {s : State} {L B : List Cond} (h1 : ∀ w ∈ L.filter goodWord, w.before args s = true) (h2 : ∀ w ∈ L.filter (fun w => !goodWord w), w ∈ B) (h3 : ∀ w ∈ B, w.before args s = true) : ∀ w ∈ L, w.before args s = true := by
  intro w hw
  by_cases g : goodWord w = true
  · exact h1 w (List.mem_filter.mpr ⟨hw, g⟩)
  · refine h3 w (h2 w (List.mem_filter.mpr ⟨hw, ?_⟩))
    show (!goodWord w) = true
    cases hgw : goodWord w
    · rfl
    · exact absurd hgw g
theorem vx_c {args : Array Value} {s : State} {w : Cond} {B : List Cond} (h : w.before args s = true) (t : ∀ w ∈ B, w.before args s = true) : ∀ w' ∈ w :: B, w'.before args s = true := fun w' h' => (List.mem_cons.mp h').elim (fun e => by rw [e]; exact h) (t w')
theorem vx_n {args : Array Value} {s : State} : ∀ w ∈ ([] : List Cond), w.before args s = true := fun _ h => nomatch h
theorem vx_own {args : Array Value} {s : State} {L : List Cond} (h1 : ∀ w ∈ L.filter vx_no, w.before args s = true)
    (hU : (Cond.isRef (.static Bundle.tN "UNASSIGNED_STACK" Bundle.steD)).before args s = true) (hN : (Cond.isRef (.static Bundle.tN "SUPPRESSED_SENTINEL" Bundle.listD)).before args s = true)
    (lU : (Cond.laysStatic Bundle.tN "UNASSIGNED_STACK" Bundle.steD).before args s = true) (lN : (Cond.laysStatic Bundle.tN "SUPPRESSED_SENTINEL" Bundle.listD).before args s = true) : ∀ w ∈ L, w.before args s = true := by
  intro w hw
  by_cases e1 : w = .isRef (.static Bundle.tN "UNASSIGNED_STACK" Bundle.steD)
  · rw [e1]; exact hU
  · by_cases e2 : w = .isRef (.static Bundle.tN "SUPPRESSED_SENTINEL" Bundle.listD)
    · rw [e2]; exact hN
    · by_cases e3 : w = .laysStatic Bundle.tN "UNASSIGNED_STACK" Bundle.steD
      · rw [e3]; exact lU
      · by_cases e4 : w = .laysStatic Bundle.tN "SUPPRESSED_SENTINEL" Bundle.listD
        · rw [e4]; exact lN
        · exact h1 w (List.mem_filter.mpr ⟨hw, by unfold vx_no; rw [decide_eq_true e1, decide_eq_true e2, decide_eq_true e3, decide_eq_true e4]; rfl⟩)
/-- where a static field lies, its class's statics cell in H -/
def vx_L (C n d : String) (A : Nat → Prop) (U : State) (H : Heap) : Prop := ∃ (c : ClassId) (k : Class) (i : Nat) (f : Field) (a : Nat) (cell : Cell), U.vm.findClass C = some c ∧ U.fieldFound? C n d = some (c, k, i, f) ∧ f.isStatic = true ∧ k.statics = some a ∧ H[a]? = some cell ∧ cell.vm.isStatics = true ∧ cell.cls = c ∧ f.slot < cell.slots.size ∧ k.staticTypes[f.slot]? = some f.type ∧ ¬ A a
theorem vx_L.moved {C n d : String} {A : Nat → Prop} {u U : State} {H : Heap} (hvm : u.vm.Alike U.vm) (h : vx_L C n d A u H) : vx_L C n d A U H := by
  obtain ⟨c, k, i, f, a, cell, h1, h2, h3, h4, h5, h6, h7, h8, h9, h10⟩ := h
  obtain ⟨k', hi', he⟩ := State.fieldFound?_setVm hvm h2
  exact ⟨c, k', i, f, a, cell, by rw [hvm.findClass]; exact h1, hi', h3, by rw [he]; exact h4, h5, h6, h7, h8, by rw [he]; exact h9, h10⟩
theorem vx_L.kept {C n d : String} {A : Nat → Prop} {U : State} {H H1 : Heap} (h : vx_L C n d A U H) (hq : ∀ a : Nat, a < H.size → ¬ A a → H1[a]? = H[a]?) : vx_L C n d A U H1 := by
  obtain ⟨c, k, i, f, a, cell, h1, h2, h3, h4, h5, h6, h7, h8, h9, h10⟩ := h
  exact ⟨c, k, i, f, a, cell, h1, h2, h3, h4, by rw [hq a (Array.getElem?_eq_some_iff.mp h5).1 h10]; exact h5, h6, h7, h8, h9, h10⟩
theorem vx_L.narrow {C n d : String} {A B : Nat → Prop} {U : State} {H : Heap} (h : vx_L C n d A U H) (hAB : ∀ q, B q → A q) : vx_L C n d B U H := by
  obtain ⟨c, k, i, f, a, cell, h1, h2, h3, h4, h5, h6, h7, h8, h9, h10⟩ := h
  exact ⟨c, k, i, f, a, cell, h1, h2, h3, h4, h5, h6, h7, h8, h9, fun z => h10 (hAB _ z)⟩
theorem vx_L.word {C n d : String} {A : Nat → Prop} {s : State} {args : Array Value} (h : vx_L C n d A s s.heap) : (Cond.laysStatic C n d).before args s = true := by
  obtain ⟨c, k, i, f, a, cell, h1, h2, h3, h4, h5, h6, h7, h8, h9, -⟩ := h
  show (Cond.laysStatic C n d).holds args s none s [] = true
  exact Cond.laysStatic_of h1 h2 h3 h4 h5 h6 h7 h8 h9
/-- .. and what it holds: null or some reference -/
def vx_Zq (C n d : String) (A : Nat → Prop) (U : State) (H : Heap) : Prop := va_Zq C n d A U H ∧ vx_L C n d A U H
theorem vx_Zq.moved {C n d : String} {A : Nat → Prop} {u U : State} {H : Heap} (hvm : u.vm.Alike U.vm) (h : vx_Zq C n d A u H) : vx_Zq C n d A U H := ⟨va_Zq.moved hvm h.1, vx_L.moved hvm h.2⟩
theorem vx_Zq.kept {C n d : String} {A : Nat → Prop} {U : State} {H H1 : Heap} (h : vx_Zq C n d A U H) (hq : ∀ a : Nat, a < H.size → ¬ A a → H1[a]? = H[a]?) : vx_Zq C n d A U H1 := ⟨va_Zq.kept h.1 hq, vx_L.kept h.2 hq⟩
theorem vx_Zq.narrow {C n d : String} {A B : Nat → Prop} {U : State} {H : Heap} (h : vx_Zq C n d A U H) (hAB : ∀ q, B q → A q) : vx_Zq C n d B U H := ⟨va_Zq.narrow h.1 hAB, vx_L.narrow h.2 hAB⟩
theorem vx_Zqof {args : Array Value} {s : State} {C n d : String} {A : Nat → Prop} (hl : (Cond.laysStatic C n d).before args s = true) (hini : (Cond.initialized C).before args s = true) (h : (Cond.isRef (.static C n d)).before args s = true) (hA : ∀ a : Nat, a < s.heap.size → ¬ A a) : vx_Zq C n d A s s.heap := by
  refine ⟨va_Zqof hl hini h hA, ?_⟩
  obtain ⟨c, k, i, f, a, cell, h1, h2, h3, h4, h5, h6, h7, h8, h9⟩ := Cond.laysStatic_spec hl
  exact ⟨c, k, i, f, a, cell, h1, h2, h3, h4, h5, h6, h7, h8, h9, hA a (Array.getElem?_eq_some_iff.mp h5).1⟩
theorem vx_isRef {C n d : String} {v : Value} {A : Nat → Prop} {s : State} {args : Array Value} (h : va_Z C n d v A s s.heap) (hv : v.isRef = true) : (Cond.isRef (.static C n d)).before args s = true := by
  obtain ⟨cf, kf, fi, f, a, cell, h1, h2, h3, h4, h5, h6, h7, -⟩ := h
  have he : (Term.static C n d).eval args s none [] s = some v := by
    simp [Term.eval, State.fieldNamed?, h1, h2, h4, h5, h6, h7]
  simp only [Cond.before, Cond.holds, Cond.value, he]
  cases v <;> simp_all [Value.isRef]
theorem vx_isRefq {C n d : String} {A : Nat → Prop} {s : State} {args : Array Value} (h : va_Zq C n d A s s.heap) : (Cond.isRef (.static C n d)).before args s = true := by
  rcases h with h | ⟨t, h⟩
  · exact vx_isRef h rfl
  · exact vx_isRef h rfl
/-- the same frame, seen from here: as if the method were called anew in this heap -/
theorem vx_rebase {T : State} (X : Stand p l e R s m args below meth c T locs cells slots) {R' : Room} (hf : R'.frames ≤ R.frames) (hl : R'.locals ≤ R.locals) (hc : cells + R'.cells ≤ R.cells) (hs : slots + R'.slots ≤ R.slots) :
    Stand p l e R' ((T.setVm s.vm).setFrames (.invoking m args :: below)) m args below meth c T [] 0 0 := by
  have htop : (T.setVm s.vm).topJava?.isSome := X.here.top
  have hF : ((T.setVm s.vm).setFrames (.invoking m args :: below)).frames = .invoking m args :: below := State.frames_setFrames _ (State.cur_lt_of_top htop)
  obtain ⟨g₀, hg0⟩ := Option.isSome_iff_exists.mp htop
  obtain ⟨r, hr⟩ := State.topJava?_eq_some.mp hg0
  have hl9 : e.platform.stackLimits (T.setVm s.vm).me = e.platform.stackLimits s.me := X.limits
  have hb9 : (T.setVm s.vm).me.stackBytes = s.me.stackBytes := X.bytes
  refine ⟨X.admits, X.cas, X.clock, hF, ?_, X.hears, X.method, X.code, X.here, X.tail, X.warmed, ?_, ?_, ?_⟩
  · have h := X.room
    have hU : ((T.setVm s.vm).setFrames (.invoking m args :: below)).localsInUse = s.localsInUse := by
      rw [State.localsInUse_invoking hF (meth := meth) (c := c) X.method X.code, State.localsInUse_invoking X.frames X.method X.code]
    simp only [State.hasRoom, Bool.and_eq_true, decide_eq_true_eq] at h ⊢
    obtain ⟨⟨⟨⟨h1, h2, h3, h4, h5, h6⟩, h7⟩, h8⟩, h9⟩ := h
    rw [X.frames, List.length_cons] at h2 h3
    have q1 := X.heapSize
    have q2 := X.used
    simp only [hF, hU, List.length_cons, State.stackLimits_setFrames, State.stackBytes_setFrames, hl9, hb9]
    refine ⟨⟨⟨⟨by omega, by omega, by omega, by omega, by omega, h6⟩, ?_⟩, ?_⟩, X.book⟩
    · show T.heap.size + R'.cells ≤ e.platform.maxCells
      omega
    · show T.slotsUsed + R'.slots ≤ e.platform.maxSlots
      omega
  · rw [State.stackLimits_setFrames]; rfl
  · rw [State.stackBytes_setFrames]; rfl
  · refine ⟨?_, Nat.le_refl _, Nat.le_refl _, ?_, ?_, fun a c9 h9 => ⟨c9, h9, rfl, rfl, fun _ _ => rfl⟩⟩
    · obtain ⟨t, ht, -⟩ := State.frames_cons hr
      show T.setVm s.vm = { ((T.setVm s.vm).setFrames (.invoking m args :: below)).setFrames (T.setVm s.vm).frames with heap := T.heap, slotsUsed := T.slotsUsed }
      rw [State.setFrames_setFrames, State.setFrames_self ht]
      rfl
    · show T.slotsUsed = T.slotsUsed + ((T.heap.toList.drop T.heap.size).map (·.slots.size)).sum
      rw [List.drop_eq_nil_of_le (Nat.le_of_eq Array.length_toList)]
      rfl
    · show ((T.heap.toList.drop T.heap.size).map (·.slots.size)).sum ≤ 0
      rw [List.drop_eq_nil_of_le (Nat.le_of_eq Array.length_toList)]
      exact Nat.le_refl _
/-- 'throw new E()': new; dup; invokespecial; athrow -/
theorem vx_throw0 {cc : ByteArray} {pc : Nat} (hexec : p.tables.exec = Jvm.exec) (hb : c.code = cc) (hl : l.stackTraces = false) {own cls : String} {names : List String} {ik ic mc ms : Nat} {A : Nat → Prop}
    (hown : s.vm.findClass own = some m.cls) (hcls : Bundle.fit cls = true) (hnames : ∀ n ∈ names, Bundle.fit n = true)
    (hk : (Cond.classLink own ik cls).before args s = true) (hini : (Cond.initialized cls).before args s = true) (hat : ∀ w ∈ vx_at0 own ic cls names, w.before args s = true)
    (hgood : ∀ w ∈ Cond.classLink own ik cls :: Cond.initialized cls :: vx_at0 own ic cls names, vx_ot w = true)
    (hU : vx_Zq Bundle.tN "UNASSIGNED_STACK" Bundle.steD A s s.heap) (hN : vx_Zq Bundle.tN "SUPPRESSED_SENTINEL" Bundle.listD A s s.heap) (hS : va_S A s.heap H locs) (hsize : ls.size = c.maxLocals)
    (d0 : decode cc pc = .ok (.new ik, 3)) (d3 : decode cc (pc + 3) = .ok (.dup, 1)) (d4 : decode cc (pc + 4) = .ok (.invokespecial ic, 3)) (d7 : decode cc (pc + 7) = .ok (.athrow, 1))
    (hout : ∀ x ∈ c.exceptionTable.toList, covers x (pc + 7) = false)
    (hRframes : names.length + 3 < R.frames) (hRlocals : (rest.map fun v => v.category).sum + (13 * (names.length + 1) + 42) ≤ R.locals) (hRcells : cells + 1 ≤ R.cells) (hRslots : slots + 6 ≤ R.slots) (hlocks : meth.locks = false)
    (hx : ∀ t : State, s.vm.Alike t.vm → H.size ≤ t.heap.size → (∀ q : Nat, q < H.size → t.heap[q]? = H[q]?) → XC cls s t)
    (hf : ∀ z ∈ locs, free z.base) (hc : cells + 1 ≤ mc) (hs : slots + 6 ≤ ms) :
    W p l e R s m args below meth c H locs cells slots (vx_MQ below Qc XC args s mc ms free) (F0 m pc ls rest) := by
  intro T hT X
  have htr : e.platform.stackTraces = false := (show e.platform.stackTraces = l.stackTraces by rw [X.admits.platform]).trans hl
  have Y := vx_rebase X (R' := { frames := R.frames, locals := R.locals, cells := 1, slots := 6 }) (Nat.le_refl _) (Nat.le_refl _) hRcells hRslots
  obtain ⟨s', hA⟩ : ∃ z, z = (T.setVm s.vm).setFrames (.invoking m args :: below) := ⟨_, rfl⟩
  rw [← hA] at Y
  have hvm : s'.vm = s.vm := by rw [hA]; rfl
  have hhp : s'.heap = H := by rw [hA]; exact hT
  have hW0 : s.WarmedH s'.vm := by rw [hvm]; exact State.WarmedH.refl s
  have hat' : ∀ w ∈ vx_at0 own ic cls names, w.before args s' = true := fun w hw => vx_ot_at hW0 hvm.symm (hgood w (List.mem_cons_of_mem _ (List.mem_cons_of_mem _ hw))) (hat w hw)
  have hk' : (Cond.classLink own ik cls).before args s' = true := vx_ot_at hW0 hvm.symm (hgood _ List.mem_cons_self) hk
  have hini' : (Cond.initialized cls).before args s' = true := vx_ot_at hW0 hvm.symm (hgood _ (List.mem_cons_of_mem _ List.mem_cons_self)) hini
  have hU' : vx_Zq Bundle.tN "UNASSIGNED_STACK" Bundle.steD A s' s'.heap := by rw [hhp]; exact vx_Zq.moved hW0.alike (hU.kept hS.2.1)
  have hN' : vx_Zq Bundle.tN "SUPPRESSED_SENTINEL" Bundle.listD A s' s'.heap := by rw [hhp]; exact vx_Zq.moved hW0.alike (hN.kept hS.2.1)
  have h : ∀ w ∈ Bundle.ownAtoms0 own ic cls names, w.before args s' = true := vx_own hat' (vx_isRefq hU'.1) (vx_isRefq hN'.1) hU'.2.word hN'.2.word
  have hown' : s'.vm.findClass own = some m.cls := by rw [hvm]; exact hown
  have hins : (Cond.instantiable cls 6).before args s' = true := h _ (by simp [Bundle.ownAtoms0])
  obtain ⟨vm₁, cX, kX, hfX, hkX, -, -, X₁, st1⟩ := Y.newCold hexec (own := own) (C := cls) (index := ik) (n := 6) hown' hk' hins hini'
    (g := F0 m pc ls rest) rfl (by rw [hb]; exact d0) (Nat.le_refl _) (Nat.le_refl _)
  generalize hT1 : (T.setVm vm₁).pushCell { cls := cX, slots := kX.instanceTypes.map defaultValue, vm := .none } = T1 at X₁ st1
  have hcat : (Value.ref T.heap.size).category = 1 := rfl
  have hcellA : T1.heap[T.heap.size]? = some (freshCell cX kX) := by rw [← hT1]; exact State.heap_pushCell_size _ _
  have d3' : decode c.code (pc + 3) = .ok (.dup, 1) := by rw [hb]; exact d3
  obtain ⟨U, hsteps, hrun, hend, hW, hsame, ce, hce, hO⟩ := X₁.ctorThrow0 hexec htr (own := own) (cls := cls) (names := names) (ic := ic) hown' hcls hnames h (fun x hx => nomatch hx) hfX hkX hcellA (by rw [hhp, hT]; exact Nat.le_refl _)
    (g := { method := m, pc := pc + 4, locals := ls, stack := .ref T.heap.size :: .ref T.heap.size :: rest, locked := none }) rfl hsize rfl rfl (rest := rest) rfl
    (by rw [hb]; exact d4) (by rw [hb]; exact d7) hout hRframes (by simp only [List.map_cons, List.sum_cons, hcat]; omega) hlocks
  obtain ⟨f1, f2⟩ := vx_frame hsame
  rw [hhp] at f1 f2
  have hWs : s.WarmedH U.vm := State.WarmedH.trans hW0 hW
  have hcl : s.vm.findClass cls = some ce.cls := by
    have h9 := hO.cls
    rw [hvm] at h9
    exact h9
  have hall : s.sameButNew ({ U with vm := s.vm } : State) locs mc ms := by
    subst hA
    obtain ⟨e1, e2⟩ := hsame
    rw [State.setFrames_setFrames] at e1
    have h2 : (T.setVm s.vm).sameButNew ({ U with vm := s.vm } : State) [] (0 + 1) (0 + 6) := ⟨e1, e2⟩
    have h3 := X.same.trans h2
    rw [List.append_nil] at h3
    exact h3.mono hc hs
  refine ⟨U, ?_, .threw T.heap.size, hrun, hend, Or.inr ⟨T.heap.size, rfl, cls, ce, locs, hx U hWs.alike f1 (fun q hq => f2 q hq (fun z hz => nomatch hz)), hce, hO.vm, hcl, hWs, hall, hf⟩⟩
  refine st1 _ ?_
  show Steps p.tables e below (T1.setTop { method := m, pc := pc + 3, locals := ls, stack := .ref T.heap.size :: rest, locked := none }) _
  jvm_step X₁.here [X₁.here.top, hexec, d3', Value.category]
  exact hsteps
/-- 'throw new E("text")': new; dup; ldc; invokespecial; athrow -/
theorem vx_throwS {cc : ByteArray} {pc : Nat} (hexec : p.tables.exec = Jvm.exec) (hb : c.code = cc) (hl : l.stackTraces = false) {own cls text : String} {names : List String} {ik is ic mc ms sa : Nat} {A : Nat → Prop}
    (hown : s.vm.findClass own = some m.cls) (hcls : Bundle.fit cls = true) (hnames : ∀ n ∈ names, Bundle.fit n = true)
    (hk : (Cond.classLink own ik cls).before args s = true) (hini : (Cond.initialized cls).before args s = true) (hstr : vk_R own is text sa s) (hat : ∀ w ∈ vx_atS own ic cls names, w.before args s = true)
    (hgood : ∀ w ∈ Cond.classLink own ik cls :: Cond.initialized cls :: vx_atS own ic cls names, vx_ot w = true)
    (hU : vx_Zq Bundle.tN "UNASSIGNED_STACK" Bundle.steD A s s.heap) (hN : vx_Zq Bundle.tN "SUPPRESSED_SENTINEL" Bundle.listD A s s.heap) (hS : va_S A s.heap H locs) (hsize : ls.size = c.maxLocals)
    (d0 : decode cc pc = .ok (.new ik, 3)) (d3 : decode cc (pc + 3) = .ok (.dup, 1)) (d4 : decode cc (pc + 4) = .ok (.ldc is, 2)) (d6 : decode cc (pc + 6) = .ok (.invokespecial ic, 3)) (d9 : decode cc (pc + 9) = .ok (.athrow, 1))
    (hout : ∀ x ∈ c.exceptionTable.toList, covers x (pc + 9) = false)
    (hRframes : names.length + 3 < R.frames) (hRlocals : (rest.map fun v => v.category).sum + (13 * (names.length + 1) + 43) ≤ R.locals) (hRcells : cells + 1 ≤ R.cells) (hRslots : slots + 6 ≤ R.slots) (hlocks : meth.locks = false)
    (hx : ∀ t : State, s.vm.Alike t.vm → H.size ≤ t.heap.size → (∀ q : Nat, q < H.size → t.heap[q]? = H[q]?) → XC cls s t)
    (hf : ∀ z ∈ locs, free z.base) (hc : cells + 1 ≤ mc) (hs : slots + 6 ≤ ms) :
    W p l e R s m args below meth c H locs cells slots (vx_MQ below Qc XC args s mc ms free) (F0 m pc ls rest) := by
  intro T hT X
  have htr : e.platform.stackTraces = false := (show e.platform.stackTraces = l.stackTraces by rw [X.admits.platform]).trans hl
  have Y := vx_rebase X (R' := { frames := R.frames, locals := R.locals, cells := 1, slots := 6 }) (Nat.le_refl _) (Nat.le_refl _) hRcells hRslots
  obtain ⟨s', hA⟩ : ∃ z, z = (T.setVm s.vm).setFrames (.invoking m args :: below) := ⟨_, rfl⟩
  rw [← hA] at Y
  have hvm : s'.vm = s.vm := by rw [hA]; rfl
  have hhp : s'.heap = H := by rw [hA]; exact hT
  have hW0 : s.WarmedH s'.vm := by rw [hvm]; exact State.WarmedH.refl s
  have hat' : ∀ w ∈ vx_atS own ic cls names, w.before args s' = true := fun w hw => vx_ot_at hW0 hvm.symm (hgood w (List.mem_cons_of_mem _ (List.mem_cons_of_mem _ hw))) (hat w hw)
  have hk' : (Cond.classLink own ik cls).before args s' = true := vx_ot_at hW0 hvm.symm (hgood _ List.mem_cons_self) hk
  have hini' : (Cond.initialized cls).before args s' = true := vx_ot_at hW0 hvm.symm (hgood _ (List.mem_cons_of_mem _ List.mem_cons_self)) hini
  have hU' : vx_Zq Bundle.tN "UNASSIGNED_STACK" Bundle.steD A s' s'.heap := by rw [hhp]; exact vx_Zq.moved hW0.alike (hU.kept hS.2.1)
  have hN' : vx_Zq Bundle.tN "SUPPRESSED_SENTINEL" Bundle.listD A s' s'.heap := by rw [hhp]; exact vx_Zq.moved hW0.alike (hN.kept hS.2.1)
  have h : ∀ w ∈ Bundle.ownAtoms own ic cls names, w.before args s' = true := vx_own hat' (vx_isRefq hU'.1) (vx_isRefq hN'.1) hU'.2.word hN'.2.word
  have hown' : s'.vm.findClass own = some m.cls := by rw [hvm]; exact hown
  have hins : (Cond.instantiable cls 6).before args s' = true := h _ (by simp [Bundle.ownAtoms])
  obtain ⟨vm₁, cX, kX, hfX, hkX, -, -, X₁, st1⟩ := Y.newCold hexec (own := own) (C := cls) (index := ik) (n := 6) hown' hk' hins hini'
    (g := F0 m pc ls rest) rfl (by rw [hb]; exact d0) (Nat.le_refl _) (Nat.le_refl _)
  generalize hT1 : (T.setVm vm₁).pushCell { cls := cX, slots := kX.instanceTypes.map defaultValue, vm := .none } = T1 at X₁ st1
  have hcat : (Value.ref T.heap.size).category = 1 := rfl
  have hcellA : T1.heap[T.heap.size]? = some (freshCell cX kX) := by rw [← hT1]; exact State.heap_pushCell_size _ _
  have d3' : decode c.code (pc + 3) = .ok (.dup, 1) := by rw [hb]; exact d3
  have d4' : decode c.code (pc + 4) = .ok (.ldc is, 2) := by rw [hb]; exact d4
  have hstr' : vk_R own is text sa s' := vk_R.warm hW0 hstr
  obtain ⟨U, hsteps, hrun, hend, hW, hsame, ce, hce, hO⟩ := X₁.ctorThrowS hexec htr (own := own) (cls := cls) (names := names) (ic := ic) hown' hcls hnames h (fun x hx => nomatch hx) hfX hkX hcellA (by rw [hhp, hT]; exact Nat.le_refl _) (msg := .ref sa) rfl
    (g := { method := m, pc := pc + 6, locals := ls, stack := .ref sa :: .ref T.heap.size :: .ref T.heap.size :: rest, locked := none }) rfl hsize rfl rfl (rest := rest) rfl
    (by rw [hb]; exact d6) (by rw [hb]; exact d9) hout hRframes (by simp only [List.map_cons, List.sum_cons, hcat]; omega) hlocks
  obtain ⟨f1, f2⟩ := vx_frame hsame
  rw [hhp] at f1 f2
  have hWs : s.WarmedH U.vm := State.WarmedH.trans hW0 hW
  have hcl : s.vm.findClass cls = some ce.cls := by
    have h9 := hO.cls
    rw [hvm] at h9
    exact h9
  have hall : s.sameButNew ({ U with vm := s.vm } : State) locs mc ms := by
    subst hA
    obtain ⟨e1, e2⟩ := hsame
    rw [State.setFrames_setFrames] at e1
    have h2 : (T.setVm s.vm).sameButNew ({ U with vm := s.vm } : State) [] (0 + 1) (0 + 6) := ⟨e1, e2⟩
    have h3 := X.same.trans h2
    rw [List.append_nil] at h3
    exact h3.mono hc hs
  refine ⟨U, ?_, .threw T.heap.size, hrun, hend, Or.inr ⟨T.heap.size, rfl, cls, ce, locs, hx U hWs.alike f1 (fun q hq => f2 q hq (fun z hz => nomatch hz)), hce, hO.vm, hcl, hWs, hall, hf⟩⟩
  refine st1 _ ?_
  show Steps p.tables e below (T1.setTop { method := m, pc := pc + 3, locals := ls, stack := .ref T.heap.size :: rest, locked := none }) _
  jvm_step X₁.here [X₁.here.top, hexec, d3', Value.category]
  exact X₁.ldcString hexec (own := own) (text := text) (index := is) (a := sa) hown' hstr'.1 hstr'.2
    (g := { method := m, pc := pc + 4, locals := ls, stack := .ref T.heap.size :: .ref T.heap.size :: rest, locked := none }) rfl d4' _ hsteps
/-- 'throw new E("text")', the text by a wide index -/
theorem vx_throwSW {cc : ByteArray} {pc : Nat} (hexec : p.tables.exec = Jvm.exec) (hb : c.code = cc) (hl : l.stackTraces = false) {own cls text : String} {names : List String} {ik is ic mc ms sa : Nat} {A : Nat → Prop}
    (hown : s.vm.findClass own = some m.cls) (hcls : Bundle.fit cls = true) (hnames : ∀ n ∈ names, Bundle.fit n = true)
    (hk : (Cond.classLink own ik cls).before args s = true) (hini : (Cond.initialized cls).before args s = true) (hstr : vk_R own is text sa s) (hat : ∀ w ∈ vx_atS own ic cls names, w.before args s = true)
    (hgood : ∀ w ∈ Cond.classLink own ik cls :: Cond.initialized cls :: vx_atS own ic cls names, vx_ot w = true)
    (hU : vx_Zq Bundle.tN "UNASSIGNED_STACK" Bundle.steD A s s.heap) (hN : vx_Zq Bundle.tN "SUPPRESSED_SENTINEL" Bundle.listD A s s.heap) (hS : va_S A s.heap H locs) (hsize : ls.size = c.maxLocals)
    (d0 : decode cc pc = .ok (.new ik, 3)) (d3 : decode cc (pc + 3) = .ok (.dup, 1)) (d4 : decode cc (pc + 4) = .ok (.ldc_w is, 3)) (d7 : decode cc (pc + 7) = .ok (.invokespecial ic, 3)) (d10 : decode cc (pc + 10) = .ok (.athrow, 1))
    (hout : ∀ x ∈ c.exceptionTable.toList, covers x (pc + 10) = false)
    (hRframes : names.length + 3 < R.frames) (hRlocals : (rest.map fun v => v.category).sum + (13 * (names.length + 1) + 43) ≤ R.locals) (hRcells : cells + 1 ≤ R.cells) (hRslots : slots + 6 ≤ R.slots) (hlocks : meth.locks = false)
    (hx : ∀ t : State, s.vm.Alike t.vm → H.size ≤ t.heap.size → (∀ q : Nat, q < H.size → t.heap[q]? = H[q]?) → XC cls s t)
    (hf : ∀ z ∈ locs, free z.base) (hc : cells + 1 ≤ mc) (hs : slots + 6 ≤ ms) :
    W p l e R s m args below meth c H locs cells slots (vx_MQ below Qc XC args s mc ms free) (F0 m pc ls rest) := by
  intro T hT X
  have htr : e.platform.stackTraces = false := (show e.platform.stackTraces = l.stackTraces by rw [X.admits.platform]).trans hl
  have Y := vx_rebase X (R' := { frames := R.frames, locals := R.locals, cells := 1, slots := 6 }) (Nat.le_refl _) (Nat.le_refl _) hRcells hRslots
  obtain ⟨s', hA⟩ : ∃ z, z = (T.setVm s.vm).setFrames (.invoking m args :: below) := ⟨_, rfl⟩
  rw [← hA] at Y
  have hvm : s'.vm = s.vm := by rw [hA]; rfl
  have hhp : s'.heap = H := by rw [hA]; exact hT
  have hW0 : s.WarmedH s'.vm := by rw [hvm]; exact State.WarmedH.refl s
  have hat' : ∀ w ∈ vx_atS own ic cls names, w.before args s' = true := fun w hw => vx_ot_at hW0 hvm.symm (hgood w (List.mem_cons_of_mem _ (List.mem_cons_of_mem _ hw))) (hat w hw)
  have hk' : (Cond.classLink own ik cls).before args s' = true := vx_ot_at hW0 hvm.symm (hgood _ List.mem_cons_self) hk
  have hini' : (Cond.initialized cls).before args s' = true := vx_ot_at hW0 hvm.symm (hgood _ (List.mem_cons_of_mem _ List.mem_cons_self)) hini
  have hU' : vx_Zq Bundle.tN "UNASSIGNED_STACK" Bundle.steD A s' s'.heap := by rw [hhp]; exact vx_Zq.moved hW0.alike (hU.kept hS.2.1)
  have hN' : vx_Zq Bundle.tN "SUPPRESSED_SENTINEL" Bundle.listD A s' s'.heap := by rw [hhp]; exact vx_Zq.moved hW0.alike (hN.kept hS.2.1)
  have h : ∀ w ∈ Bundle.ownAtoms own ic cls names, w.before args s' = true := vx_own hat' (vx_isRefq hU'.1) (vx_isRefq hN'.1) hU'.2.word hN'.2.word
  have hown' : s'.vm.findClass own = some m.cls := by rw [hvm]; exact hown
  have hins : (Cond.instantiable cls 6).before args s' = true := h _ (by simp [Bundle.ownAtoms])
  obtain ⟨vm₁, cX, kX, hfX, hkX, -, -, X₁, st1⟩ := Y.newCold hexec (own := own) (C := cls) (index := ik) (n := 6) hown' hk' hins hini'
    (g := F0 m pc ls rest) rfl (by rw [hb]; exact d0) (Nat.le_refl _) (Nat.le_refl _)
  generalize hT1 : (T.setVm vm₁).pushCell { cls := cX, slots := kX.instanceTypes.map defaultValue, vm := .none } = T1 at X₁ st1
  have hcat : (Value.ref T.heap.size).category = 1 := rfl
  have hcellA : T1.heap[T.heap.size]? = some (freshCell cX kX) := by rw [← hT1]; exact State.heap_pushCell_size _ _
  have d3' : decode c.code (pc + 3) = .ok (.dup, 1) := by rw [hb]; exact d3
  have d4' : decode c.code (pc + 4) = .ok (.ldc_w is, 3) := by rw [hb]; exact d4
  have hstr' : vk_R own is text sa s' := vk_R.warm hW0 hstr
  obtain ⟨U, hsteps, hrun, hend, hW, hsame, ce, hce, hO⟩ := X₁.ctorThrowS hexec htr (own := own) (cls := cls) (names := names) (ic := ic) hown' hcls hnames h (fun x hx => nomatch hx) hfX hkX hcellA (by rw [hhp, hT]; exact Nat.le_refl _) (msg := .ref sa) rfl
    (g := { method := m, pc := pc + 7, locals := ls, stack := .ref sa :: .ref T.heap.size :: .ref T.heap.size :: rest, locked := none }) rfl hsize rfl rfl (rest := rest) rfl
    (by rw [hb]; exact d7) (by rw [hb]; exact d10) hout hRframes (by simp only [List.map_cons, List.sum_cons, hcat]; omega) hlocks
  obtain ⟨f1, f2⟩ := vx_frame hsame
  rw [hhp] at f1 f2
  have hWs : s.WarmedH U.vm := State.WarmedH.trans hW0 hW
  have hcl : s.vm.findClass cls = some ce.cls := by
    have h9 := hO.cls
    rw [hvm] at h9
    exact h9
  have hall : s.sameButNew ({ U with vm := s.vm } : State) locs mc ms := by
    subst hA
    obtain ⟨e1, e2⟩ := hsame
    rw [State.setFrames_setFrames] at e1
    have h2 : (T.setVm s.vm).sameButNew ({ U with vm := s.vm } : State) [] (0 + 1) (0 + 6) := ⟨e1, e2⟩
    have h3 := X.same.trans h2
    rw [List.append_nil] at h3
    exact h3.mono hc hs
  refine ⟨U, ?_, .threw T.heap.size, hrun, hend, Or.inr ⟨T.heap.size, rfl, cls, ce, locs, hx U hWs.alike f1 (fun q hq => f2 q hq (fun z hz => nomatch hz)), hce, hO.vm, hcl, hWs, hall, hf⟩⟩
  refine st1 _ ?_
  show Steps p.tables e below (T1.setTop { method := m, pc := pc + 3, locals := ls, stack := .ref T.heap.size :: rest, locked := none }) _
  jvm_step X₁.here [X₁.here.top, hexec, d3', Value.category]
  exact X₁.ldcStringW hexec (own := own) (text := text) (index := is) (a := sa) hown' hstr'.1 hstr'.2
    (g := { method := m, pc := pc + 4, locals := ls, stack := .ref T.heap.size :: .ref T.heap.size :: rest, locked := none }) rfl d4' _ hsteps
end Ends
section Bodies
variable {l : Launch}
theorem vx_ofW {y : MethodName} {ws ws' : List Cond} {rm : Room} {Pc : Array Value → State → Prop} {Qc : Array Value → State → Outcome → State → Prop} {XC : String → State → State → Prop} {mc ms : Nat} {free : Addr → Prop} {cc : ByteArray} {maxL : Nat} {ret : Option FieldType}
    (hy : plainName y.cls = true) (hw : ws = Cond.code y cc maxL ret :: ws')
    (body : ∀ p e s m args below meth c s₁, BodyLoose p l y (headSpec ws rm) cc maxL ret e s m args below meth c s₁ → c.maxLocals = maxL → (∀ x ∈ c.exceptionTable.toList, False) → Pc args s →
      W p l e (headSpec ws rm).room s m args below meth c s.heap [] 0 0 (vx_MQ below Qc XC args s mc ms free) (entryFrame m args maxL)) : vx_Met l y ws rm Pc Qc XC mc ms free := by
  refine MetFree.of_bodyS (code := cc) (maxLocals := maxL) (ret := ret) hy ?_ ?_
  · intro args s m h hn
    obtain ⟨meth, c, h1, h2, h3, h4, h5, h6, -, -⟩ := Cond.code_spec hn (atoms_spec (ws := ws) h _ (by rw [hw]; exact List.mem_cons_self))
    exact ⟨meth, c, h1, h2, h3, h4, h5, h6⟩
  · intro p e s m args below meth c s₁ B hml hP _
    have hh0 : s₁.heap = s.heap := by rw [B.state]; rfl
    have ht : ∀ x ∈ c.exceptionTable.toList, False := by
      obtain ⟨meth9, c9, h1, h2, -, -, -, -, h7, -⟩ := Cond.code_spec B.named (atoms_spec (ws := ws) B.pre _ (by rw [hw]; exact List.mem_cons_self))
      cases Option.some.inj (h1.symm.trans B.method)
      cases Option.some.inj (h2.symm.trans (Stand.of_body B).code)
      intro x hx
      rw [Array.isEmpty_iff.mp h7] at hx
      cases hx
    obtain ⟨t, a1, o, b1, b2, b3⟩ := body p e s m args below meth c s₁ B hml ht hP s₁ hh0 (Stand.of_body B)
    exact ⟨t, o, a1, b1, b2, b3⟩
/-- the table of a body with handlers -/
theorem vx_table {p : Program} {x y : MethodName} {S : Spec} {cc bytes : ByteArray} {maxL maxL' : Nat} {ret ret' : Option FieldType} {e : Env} {s s₁ : State} {m : MethodId} {args : Array Value} {below : List Frame} {meth : Method} {c : Code} {hh : List (Nat × Nat × Nat × Nat)}
    (B : BodyLoose p l y S cc maxL ret e s m args below meth c s₁) (h : (Cond.codeWith y bytes maxL' ret' hh).before args s = true) : c.exceptionTable.toList = tableOf hh := by
  obtain ⟨m9, meth9, c9, hn9, h1, h2, -, -, h6, -⟩ := Cond.codeWith_spec h
  cases Option.some.inj (hn9.symm.trans B.named)
  cases Option.some.inj (h1.symm.trans B.method)
  cases Option.some.inj (h2.symm.trans (Stand.of_body B).code)
  rw [← h6, table_eq]
end Bodies
end VXA
/-! ===== END ===== -/
/-! ===== BEGIN a static call of a method with an exception table ===== -/
section VXS
variable {p : Program} {l : Launch} {e : Env} {R : Room} {s : State} {m : MethodId} {args : Array Value} {below : List Frame} {meth : Method} {c : Code} {T : State} {H : Heap} {locs : List Loc} {cells slots : Nat}
abbrev vx_CSW (R : Room) (s : State) (args : Array Value) (own : String) (index : Nat) (y : MethodName) (bytes : ByteArray) (maxL : Nat) (ret : Option FieldType) (hh : List (Nat × Nat × Nat × Nat)) (ws : List Cond) (rm : Room) (mc ms n : Nat) : Prop :=
  (rm.cells = mc ∧ rm.slots = ms ∧ rm.frames + 1 ≤ R.frames ∧ 8 + (maxL + 11) + rm.locals ≤ R.locals ∧ (∀ w ∈ ws, ∀ (a' : Array Value) (U : State), s.WarmedH U.vm → w.before a' U = true) ∧ Cond.codeWith y bytes maxL ret hh ∈ ws) ∧
  (Cond.codeWith y bytes maxL ret hh).before args s = true ∧ (Cond.initialized y.cls).before args s = true ∧ (y.cls ≠ "java/lang/invoke/MethodHandle" ∧ y.cls ≠ "java/lang/invoke/VarHandle") ∧
  (∀ sig, parseMethodDescriptor y.desc = some sig → n = sig.parameters.length) ∧ (Cond.methodLink own index y).before args s = true ∧ (Cond.static y).before args s = true
theorem vx_cwSW {own : String} {index maxL mc ms : Nat} {y : MethodName} {bytes : ByteArray} {ret : Option FieldType} {hh : List (Nat × Nat × Nat × Nat)} {Ts ws ws' : List Cond} {rm : Room} (n : Nat) (ht : ∀ w ∈ Ts, w.before args s = true) (hT : GoodIn Ts (va_wsS own index y ws)) (hw : ws = Cond.codeWith y bytes maxL ret hh :: ws') (hrc : rm.cells = mc) (hrs : rm.slots = ms)
    (hd : y.cls ≠ "java/lang/invoke/MethodHandle" ∧ y.cls ≠ "java/lang/invoke/VarHandle" ∧ (parseMethodDescriptor y.desc).map (fun d => d.parameters.length) = some n) (hR : rm.frames + 1 ≤ R.frames ∧ 8 + (maxL + 11) + rm.locals ≤ R.locals) :
    vx_CSW R s args own index y bytes maxL ret hh ws rm mc ms n := by
  have ok : ∀ w ∈ va_wsS own index y ws, w.before args s = true := fun w h => ht w (hT w h).1
  have hG : GoodIn Ts ws := fun w h => hT w (by unfold va_wsS; exact List.mem_append_right _ h)
  have hc : Cond.codeWith y bytes maxL ret hh ∈ ws := by rw [hw]; exact List.mem_cons_self
  refine ⟨⟨hrc, hrs, hR.1, hR.2, pay_in ht hG, hc⟩, ht _ (hG _ hc).1, ok _ (by simp [va_wsS]), ⟨hd.1, hd.2.1⟩, fun sig h => ?_, ok _ (by simp [va_wsS]), ok _ (by simp [va_wsS])⟩
  have h2 := hd.2.2
  rw [h] at h2
  exact (Option.some.inj h2).symm
theorem vx_callSW (X : Stand p l e R s m args below meth c T locs cells slots) (hexec : p.tables.exec = Jvm.exec) {own : String} {index : Nat} {y : MethodName} {bytes : ByteArray} {maxL : Nat} {ret : Option FieldType} {hh : List (Nat × Nat × Nat × Nat)}
    (hown : s.vm.findClass own = some m.cls) (hlink : (Cond.methodLink own index y).before args s = true) (hstat : (Cond.static y).before args s = true) (hinit : (Cond.initialized y.cls).before args s = true)
    (hcode : (Cond.codeWith y bytes maxL ret hh).before args s = true) (hy : y.cls ≠ "java/lang/invoke/MethodHandle" ∧ y.cls ≠ "java/lang/invoke/VarHandle")
    {W9 : Nat} {Pre : Pt → Array Value → Prop} {Post : Pt → Array Value → Option Value → Pt → Prop} (hK : Back l R p e below s args y 3 W9 Pre Post)
    {g : JFrame} (hg : g.method = m) (hsize : g.locals.size = c.maxLocals) {argsL rest : List Value} (hlen : ∀ sig, parseMethodDescriptor y.desc = some sig → argsL.length = sig.parameters.length)
    (hstack : g.stack = argsL.reverse ++ rest) (hW : 2 * g.monitorRoom + (rest.map fun v => v.category).sum ≤ W9) (hdg : decode c.code g.pc = .ok (.invokestatic index, 3))
    (hpre : ∀ vm₁, s.WarmedH vm₁ → Pre ⟨T.setVm vm₁, locs, cells, slots⟩ argsL.toArray) :
    ∃ (v : Option Value) (vm₁ : Vm) (B : Pt), s.WarmedH vm₁ ∧ Stand p l e R s m args below meth c B.U B.locs B.cells B.slots ∧ Post ⟨T.setVm vm₁, locs, cells, slots⟩ argsL.toArray v B ∧
      ∀ target, Steps p.tables e below (B.U.setTop { g with pc := g.pc + 3, stack := v.toList ++ rest }) target → Steps p.tables e below (T.setTop g) target := by
  obtain ⟨mk, methM, cM, hnamed, hmethM, -, -, -, -, -, -, hsigM⟩ := Cond.codeWith_spec hcode
  have hstatic : methM.isStatic = true := Cond.static_spec hnamed hmethM hstat
  obtain ⟨kP, hkP, -⟩ := className_of_methodNamed hnamed
  have hinitP : kP.init = .initialized := Cond.initialized_spec (findClass_of_methodNamed hnamed) hkP hinit
  obtain ⟨vm₁, X₁, hstep₁⟩ := X.invokestatic hexec hown hlink hnamed hmethM hstatic hkP hinitP hy (g := g) hg (argsL := argsL) (rest := rest) (hlen _ hsigM) hstack hdg
  obtain ⟨v, B, X', hpost, hsteps⟩ := hK m meth c ⟨T.setVm vm₁, locs, cells, slots⟩ { g with stack := rest } (.invokestatic index) mk argsL.toArray X₁ hg hsize hdg hW (X₁.named hnamed) (hpre vm₁ X₁.warmed)
  exact ⟨v, vm₁, B, X₁.warmed, X', hpost, fun target h => hstep₁ _ fun acts => by rw [doInvoke_state]; exact hsteps.trans h⟩
theorem vx_runSW {y : MethodName} {bytes cc : ByteArray} {maxL nL mc ms n index : Nat} {ret : Option FieldType} {hh : List (Nat × Nat × Nat × Nat)} {ws : List Cond} {rm : Room} {Pc : Array Value → State → Prop} {Qc : Array Value → State → Outcome → State → Prop} {free : Addr → Prop} {Ts : List Cond} {own : String} {As rest : List Value} {g : JFrame}
    (S : CallFix p m c cc nL s args Ts own) (hM : Met l y ws rm Pc Qc mc ms free) (cw : vx_CSW R s args own index y bytes maxL ret hh ws rm mc ms n) (hp : PreS s H Pc As)
    (hg : g.method = m) (hn : As.length = n) (hsize : g.locals.size = nL) (hstack : g.stack = As.reverse ++ rest) (hW : 2 * g.monitorRoom + (rest.map fun v => v.category).sum ≤ 8) (hdg : decode cc g.pc = .ok (.invokestatic index, 3)) (hf : cells + mc ≤ R.cells ∧ slots + ms ≤ R.slots) :
    va_Run p l e R s m args below meth c H locs cells slots mc ms g rest (Qc As.toArray) (free) := by
  obtain ⟨⟨hrc, hrs, hfr, hlo, hws, hcw⟩, hcode, hini, hy, hlen, hl, hstt⟩ := cw
  have hK : Back l R p e below s args y 3 8 (PreOf R mc ms Pc) (PostOf Qc mc ms free) := va_backW (hh := hh) (bytes := bytes) (maxL := maxL) (ret := ret) hM hp.1 hrc hrs hfr hlo hws hcw (fun a' U hW => word_at hW (Or.inl (by first | rfl | simp [Cond.onTables, Cond.keeps, Cond.steady])) hini)
  obtain ⟨hx, hb, hml, ho, -⟩ := S
  intro T hT X
  obtain ⟨v, vm₁, ⟨U', l2, c2, s2⟩, hW₁, X', ⟨g', mk, t, L, e1, e2, hq, h1, hL, h2, h3⟩, st⟩ := vx_callSW X hx (hh := hh) (bytes := bytes) (maxL := maxL) (ret := ret) ho hl hstt hini hcode hy hK hg (hsize.trans hml.symm) (argsL := As) (rest := rest) (fun sig h => hn.trans (hlen sig h)) hstack hW (by rw [hb]; exact hdg)
    (fun vm₁ hW₁ => ⟨hf.1, hf.2, hp.2 (T.setVm vm₁) hT hW₁⟩)
  dsimp only [Pt.U, Pt.locs, Pt.cells, Pt.slots] at X' e1 e2 h1 h2 h3 st
  subst h1; subst h2; subst h3
  exact ⟨v, (T.setVm vm₁).calling g' mk As.toArray, t, U', L, hT, X', hL, e1, e2, hq, st⟩
/-- not caught here, past rows that name other classes: it goes on to the caller -/
theorem vx_outP {p : Program} {l : Launch} {e : Env} {R : Room} {s : State} {m : MethodId} {args : Array Value} {below : List Frame} {meth : Method} {c : Code} {H : Heap} {locs : List Loc} {cells slots : Nat} {free : Addr → Prop} {ls : Array Slot} {rest : List Value} {Qc : Array Value → State → Outcome → State → Prop} {XC : String → State → State → Prop}
    {pc : Nat} {own E : String} {ce : Cell} {q : Addr} {mc ms : Nat} (hown : s.vm.findClass own = some m.cls) (hlocks : meth.locks = false)
    (hpass : ∀ z ∈ c.exceptionTable.toList, covers z pc = false ∨ (z.catchType ≠ 0 ∧ ∃ nm : String, (Cond.classLink own z.catchType nm).before args s = true ∧ va_Nc E nm s)) (hcell : H[q]? = some ce) (hv : ce.vm = .none) (hcl : s.vm.findClass E = some ce.cls)
    (hx : ∀ t : State, t.heap = H → s.vm.Alike t.vm → XC E s t) (hf : ∀ z ∈ locs, free z.base) (hc : cells ≤ mc) (hs : slots ≤ ms) :
    vx_W p l e R s m args below meth c H locs cells slots (vx_MQ below Qc XC args s mc ms free) (F0 m pc ls rest) q := by
  intro T hT X
  have hpl : e.platform.magicAccessors = ({} : Platform).magicAccessors := by rw [X.admits.platform]
  obtain ⟨vm', hW', X', st⟩ := X.outThrough hlocks q (g := F0 m pc ls rest) rfl rfl rfl (cell := ce) (by rw [hT]; exact hcell) (by rw [hv]; rfl)
    (by obtain ⟨k9, h9, -⟩ := Vm.findClass_spec hcl; exact ⟨k9, h9⟩) (fun z hz => by
      rcases hpass z hz with h | ⟨hz0, nm, hl1, hn1⟩
      · exact Or.inl h
      · obtain ⟨c6, hc6, hcl6⟩ := Cond.classLink_spec hown hl1 e.platform hpl
        obtain ⟨a8, b8, h1, h2, h3⟩ := hn1
        cases Option.some.inj (h1.symm.trans hcl)
        cases Option.some.inj (h2.symm.trans hc6)
        exact Or.inr ⟨hz0, _, hcl6, h3⟩)
  obtain ⟨g₀, hfr⟩ := X'.frames_eq
  have hcell9 : ((T.setVm vm').setFrames (.throwing q :: below)).heap[q]? = some ce := by
    show T.heap[q]? = some ce
    rw [hT]; exact hcell
  have hend : Ended ((T.setVm vm').setFrames (.throwing q :: below)) below (.threw q) := State.frames_setFrames _ (State.cur_lt_of_frames hfr)
  refine ⟨(T.setVm vm').setFrames (.throwing q :: below), ?_, .threw q, X'.here.running, hend, Or.inr ⟨q, rfl, E, ce, locs, hx _ hT (X'.ends _).1.alike, hcell9, hv, hcl, (X'.ends _).1, (X'.ends _).2.mono hc hs, hf⟩⟩
  rw [X.pushThrowing_eq]
  exact st
/-- a thing of a world lies in the heap -/
theorem vx_lt {D : va_G} {cl : List vw_C} {ws : va_W} {H1 : Heap} (h : va_P D cl ws H1) {k : Nat} {q : Nat × va_E} (hk : ws[k]? = some q) : q.1 < H1.size := (h k q hk).lt
end VXS
/-! ===== END ===== -/
end
section
def RX0 : String := "Tollgate$Accounts"
def TX0 : u_T := fun k => match k with
  | 0 => ("Tollgate$Accounts", "rates", "[I", true)
  | 1 => ("Tollgate$Accounts", "kind", "[I", true)
  | 2 => ("Tollgate$Accounts", "currency", "[I", true)
  | 3 => ("Tollgate$Accounts", "floors", "[I", true)
  | 4 => ("Tollgate$Accounts", "hasFloor", "[Z", true)
  | _ => ("Tollgate$Accounts", "count", "I", false)
def tyX0 : Nat → FieldType := fun k => match k with
  | 0 => .array .int
  | 1 => .array .int
  | 2 => .array .int
  | 3 => .array .int
  | 4 => .array .boolean
  | _ => .int
abbrev wsX00 : List Cond := u_ws RX0 TX0 6
theorem nmX0 : ∀ a, a < 6 → ∀ b, b < 6 → a ≠ b → (TX0 a).2.1 ≠ (TX0 b).2.1 := by decide +kernel
theorem tyX0_ok : ∀ k, k < 6 → parseFieldDescriptor (TX0 k).2.2.1 = some (tyX0 k) := by decide +kernel
abbrev cX0_init : ByteArray := prog_2_method_1_code
def yX0_init : MethodName := ⟨RX0, "<init>", "()V"⟩
abbrev cX0_add : ByteArray := prog_2_method_2_code
def yX0_add : MethodName := ⟨RX0, "add", "(II)I"⟩
abbrev cX0_anyIn : ByteArray := prog_2_method_3_code
def yX0_anyIn : MethodName := ⟨RX0, "anyIn", "(I)Z"⟩
abbrev cX0_isClosed : ByteArray := prog_2_method_4_code
def yX0_isClosed : MethodName := ⟨RX0, "isClosed", "(I)Z"⟩
abbrev cX0_stand : ByteArray := prog_2_method_5_code
def yX0_stand : MethodName := ⟨RX0, "stand", "(IJ)J"⟩
abbrev cX0_worth : ByteArray := prog_2_method_6_code
def yX0_worth : MethodName := ⟨RX0, "worth", "(IJ)J"⟩
def RX1 : String := "Tollgate$Draft"
def TX1 : u_T := fun k => match k with
  | 0 => ("Tollgate$Draft", "legs", "LTollgate$LegRow;", true)
  | 1 => ("Tollgate$Draft", "isThere", "Z", false)
  | 2 => ("Tollgate$Draft", "day", "I", false)
  | _ => ("Tollgate$Draft", "note", "I", false)
def tyX1 : Nat → FieldType := fun k => match k with
  | 0 => .object "Tollgate$LegRow"
  | 1 => .boolean
  | 2 => .int
  | _ => .int
abbrev wsX10 : List Cond := u_ws RX1 TX1 4
theorem nmX1 : ∀ a, a < 4 → ∀ b, b < 4 → a ≠ b → (TX1 a).2.1 ≠ (TX1 b).2.1 := by decide +kernel
theorem tyX1_ok : ∀ k, k < 4 → parseFieldDescriptor (TX1 k).2.2.1 = some (tyX1 k) := by decide +kernel
abbrev cX1_init : ByteArray := prog_3_method_1_code
def yX1_init : MethodName := ⟨RX1, "<init>", "()V"⟩
abbrev cX1_begin : ByteArray := prog_3_method_2_code
def yX1_begin : MethodName := ⟨RX1, "begin", "(II)V"⟩
abbrev cX1_forget : ByteArray := prog_3_method_3_code
def yX1_forget : MethodName := ⟨RX1, "forget", "()V"⟩
def RX2 : String := "Tollgate$Holds"
def TX2 : u_T := fun k => match k with
  | 0 => ("Tollgate$Holds", "account", "[I", true)
  | 1 => ("Tollgate$Holds", "amount", "[I", true)
  | 2 => ("Tollgate$Holds", "lastDay", "[I", true)
  | 3 => ("Tollgate$Holds", "isEnded", "[Z", true)
  | _ => ("Tollgate$Holds", "count", "I", false)
def tyX2 : Nat → FieldType := fun k => match k with
  | 0 => .array .int
  | 1 => .array .int
  | 2 => .array .int
  | 3 => .array .boolean
  | _ => .int
abbrev wsX20 : List Cond := u_ws RX2 TX2 5
theorem nmX2 : ∀ a, a < 5 → ∀ b, b < 5 → a ≠ b → (TX2 a).2.1 ≠ (TX2 b).2.1 := by decide +kernel
theorem tyX2_ok : ∀ k, k < 5 → parseFieldDescriptor (TX2 k).2.2.1 = some (tyX2 k) := by decide +kernel
abbrev cX2_init : ByteArray := prog_4_method_1_code
def yX2_init : MethodName := ⟨RX2, "<init>", "()V"⟩
abbrev cX2_add : ByteArray := prog_4_method_2_code
def yX2_add : MethodName := ⟨RX2, "add", "(III)I"⟩
abbrev cX2_isOpen : ByteArray := prog_4_method_3_code
def yX2_isOpen : MethodName := ⟨RX2, "isOpen", "(II)Z"⟩
abbrev cX2_heldOn : ByteArray := prog_4_method_4_code
def yX2_heldOn : MethodName := ⟨RX2, "heldOn", "(III)J"⟩
abbrev cX2_countOpen : ByteArray := prog_4_method_5_code
def yX2_countOpen : MethodName := ⟨RX2, "countOpen", "(I)I"⟩
def RX3 : String := "Tollgate$Journal"
def TX3 : u_T := fun k => match k with
  | 0 => ("Tollgate$Journal", "day", "[I", true)
  | 1 => ("Tollgate$Journal", "note", "[I", true)
  | 2 => ("Tollgate$Journal", "firstLeg", "[I", true)
  | 3 => ("Tollgate$Journal", "legsOf", "[I", true)
  | 4 => ("Tollgate$Journal", "gone", "[Z", true)
  | 5 => ("Tollgate$Journal", "isClosing", "[Z", true)
  | 6 => ("Tollgate$Journal", "count", "I", false)
  | 7 => ("Tollgate$Journal", "entryOf", "[I", true)
  | 8 => ("Tollgate$Journal", "account", "[I", true)
  | 9 => ("Tollgate$Journal", "amount", "[J", true)
  | 10 => ("Tollgate$Journal", "worth", "[J", true)
  | _ => ("Tollgate$Journal", "legCount", "I", false)
def tyX3 : Nat → FieldType := fun k => match k with
  | 0 => .array .int
  | 1 => .array .int
  | 2 => .array .int
  | 3 => .array .int
  | 4 => .array .boolean
  | 5 => .array .boolean
  | 6 => .int
  | 7 => .array .int
  | 8 => .array .int
  | 9 => .array .long
  | 10 => .array .long
  | _ => .int
abbrev wsX30 : List Cond := u_ws RX3 TX3 12
theorem nmX3 : ∀ a, a < 12 → ∀ b, b < 12 → a ≠ b → (TX3 a).2.1 ≠ (TX3 b).2.1 := by decide +kernel
theorem tyX3_ok : ∀ k, k < 12 → parseFieldDescriptor (TX3 k).2.2.1 = some (tyX3 k) := by decide +kernel
abbrev cX3_init : ByteArray := prog_5_method_1_code
def yX3_init : MethodName := ⟨RX3, "<init>", "()V"⟩
abbrev cX3_has : ByteArray := prog_5_method_2_code
def yX3_has : MethodName := ⟨RX3, "has", "(I)Z"⟩
abbrev cX3_isFull : ByteArray := prog_5_method_3_code
def yX3_isFull : MethodName := ⟨RX3, "isFull", "()Z"⟩
abbrev cX3_enter : ByteArray := prog_5_method_4_code
def yX3_enter : MethodName := ⟨RX3, "enter", "(IIZLTollgate$LegRow;)I"⟩
abbrev cX3_addLeg : ByteArray := prog_5_method_5_code
def yX3_addLeg : MethodName := ⟨RX3, "addLeg", "(IIJJ)V"⟩
abbrev cX3_counts : ByteArray := prog_5_method_6_code
def yX3_counts : MethodName := ⟨RX3, "counts", "(I)Z"⟩
abbrev cX3_dayOf : ByteArray := prog_5_method_7_code
def yX3_dayOf : MethodName := ⟨RX3, "dayOf", "(I)I"⟩
abbrev cX3_lastClosing : ByteArray := prog_5_method_8_code
def yX3_lastClosing : MethodName := ⟨RX3, "lastClosing", "()I"⟩
abbrev cX3_lastLocked : ByteArray := prog_5_method_9_code
def yX3_lastLocked : MethodName := ⟨RX3, "lastLocked", "()I"⟩
abbrev cX3_countStanding : ByteArray := prog_5_method_10_code
def yX3_countStanding : MethodName := ⟨RX3, "countStanding", "()I"⟩
abbrev cX3_countStandingLegs : ByteArray := prog_5_method_11_code
def yX3_countStandingLegs : MethodName := ⟨RX3, "countStandingLegs", "()I"⟩
abbrev cX3_amountUpTo : ByteArray := prog_5_method_12_code
def yX3_amountUpTo : MethodName := ⟨RX3, "amountUpTo", "(II)J"⟩
abbrev cX3_worthOn : ByteArray := prog_5_method_13_code
def yX3_worthOn : MethodName := ⟨RX3, "worthOn", "(I)J"⟩
abbrev cX3_worthBetween : ByteArray := prog_5_method_14_code
def yX3_worthBetween : MethodName := ⟨RX3, "worthBetween", "(III)J"⟩
def RX4 : String := "Tollgate$LegRow"
def TX4 : u_T := fun k => match k with
  | 0 => ("Tollgate$LegRow", "account", "[I", true)
  | 1 => ("Tollgate$LegRow", "amount", "[J", true)
  | 2 => ("Tollgate$LegRow", "worth", "[J", true)
  | _ => ("Tollgate$LegRow", "count", "I", false)
def tyX4 : Nat → FieldType := fun k => match k with
  | 0 => .array .int
  | 1 => .array .long
  | 2 => .array .long
  | _ => .int
abbrev wsX40 : List Cond := u_ws RX4 TX4 4
theorem nmX4 : ∀ a, a < 4 → ∀ b, b < 4 → a ≠ b → (TX4 a).2.1 ≠ (TX4 b).2.1 := by decide +kernel
theorem tyX4_ok : ∀ k, k < 4 → parseFieldDescriptor (TX4 k).2.2.1 = some (tyX4 k) := by decide +kernel
abbrev cX4_init : ByteArray := prog_6_method_1_code
def yX4_init : MethodName := ⟨RX4, "<init>", "()V"⟩
abbrev cX4_add : ByteArray := prog_6_method_2_code
def yX4_add : MethodName := ⟨RX4, "add", "(IJJ)V"⟩
abbrev cX4_worthSum : ByteArray := prog_6_method_3_code
def yX4_worthSum : MethodName := ⟨RX4, "worthSum", "()J"⟩
abbrev cX4_amountOn : ByteArray := prog_6_method_4_code
def yX4_amountOn : MethodName := ⟨RX4, "amountOn", "(I)J"⟩
def RX5 : String := "Tollgate$Lines"
def TX5 : u_T := fun k => match k with
  | 0 => ("Tollgate$Lines", "account", "[I", true)
  | 1 => ("Tollgate$Lines", "day", "[I", true)
  | 2 => ("Tollgate$Lines", "amount", "[I", true)
  | 3 => ("Tollgate$Lines", "byDay", "[I", true)
  | _ => ("Tollgate$Lines", "count", "I", false)
def tyX5 : Nat → FieldType := fun k => match k with
  | 0 => .array .int
  | 1 => .array .int
  | 2 => .array .int
  | 3 => .array .int
  | _ => .int
abbrev wsX50 : List Cond := u_ws RX5 TX5 5
theorem nmX5 : ∀ a, a < 5 → ∀ b, b < 5 → a ≠ b → (TX5 a).2.1 ≠ (TX5 b).2.1 := by decide +kernel
theorem tyX5_ok : ∀ k, k < 5 → parseFieldDescriptor (TX5 k).2.2.1 = some (tyX5 k) := by decide +kernel
abbrev cX5_init : ByteArray := prog_7_method_1_code
def yX5_init : MethodName := ⟨RX5, "<init>", "()V"⟩
abbrev cX5_add : ByteArray := prog_7_method_2_code
def yX5_add : MethodName := ⟨RX5, "add", "(III)I"⟩
abbrev cX5_sortIn : ByteArray := prog_7_method_3_code
def yX5_sortIn : MethodName := ⟨RX5, "sortIn", "(I)V"⟩
abbrev cX5_countOf : ByteArray := prog_7_method_4_code
def yX5_countOf : MethodName := ⟨RX5, "countOf", "(I)I"⟩
def RX6 : String := "Tollgate$Matching"
def TX6 : u_T := fun k => match k with
  | 0 => ("Tollgate$Matching", "journal", "LTollgate$Journal;", true)
  | 1 => ("Tollgate$Matching", "lines", "LTollgate$Lines;", true)
  | 2 => ("Tollgate$Matching", "lineOfLeg", "[I", true)
  | 3 => ("Tollgate$Matching", "firstOfLine", "[I", true)
  | _ => ("Tollgate$Matching", "secondOfLine", "[I", true)
def tyX6 : Nat → FieldType := fun k => match k with
  | 0 => .object "Tollgate$Journal"
  | 1 => .object "Tollgate$Lines"
  | 2 => .array .int
  | 3 => .array .int
  | _ => .array .int
abbrev wsX60 : List Cond := u_ws RX6 TX6 5
theorem nmX6 : ∀ a, a < 5 → ∀ b, b < 5 → a ≠ b → (TX6 a).2.1 ≠ (TX6 b).2.1 := by decide +kernel
theorem tyX6_ok : ∀ k, k < 5 → parseFieldDescriptor (TX6 k).2.2.1 = some (tyX6 k) := by decide +kernel
abbrev cX6_init : ByteArray := prog_8_method_1_code
def yX6_init : MethodName := ⟨RX6, "<init>", "(LTollgate$Journal;LTollgate$Lines;)V"⟩
abbrev cX6_pairUp : ByteArray := prog_8_method_2_code
def yX6_pairUp : MethodName := ⟨RX6, "pairUp", "(II)I"⟩
abbrev cX6_isLeft : ByteArray := prog_8_method_3_code
def yX6_isLeft : MethodName := ⟨RX6, "isLeft", "(II)Z"⟩
abbrev cX6_isLegLeft : ByteArray := prog_8_method_4_code
def yX6_isLegLeft : MethodName := ⟨RX6, "isLegLeft", "(II)Z"⟩
abbrev cX6_away : ByteArray := prog_8_method_5_code
def yX6_away : MethodName := ⟨RX6, "away", "(II)I"⟩
abbrev cX6_bindNearest : ByteArray := prog_8_method_6_code
def yX6_bindNearest : MethodName := ⟨RX6, "bindNearest", "(II)V"⟩
abbrev cX6_isNearer : ByteArray := prog_8_method_7_code
def yX6_isNearer : MethodName := ⟨RX6, "isNearer", "(III)Z"⟩
abbrev cX6_bindFirstTwo : ByteArray := prog_8_method_8_code
def yX6_bindFirstTwo : MethodName := ⟨RX6, "bindFirstTwo", "(II)V"⟩
abbrev cX6_secondBehind : ByteArray := prog_8_method_9_code
def yX6_secondBehind : MethodName := ⟨RX6, "secondBehind", "(II)I"⟩
abbrev cX6_bind : ByteArray := prog_8_method_10_code
def yX6_bind : MethodName := ⟨RX6, "bind", "(III)V"⟩
abbrev cX6_freeLine : ByteArray := prog_8_method_11_code
def yX6_freeLine : MethodName := ⟨RX6, "freeLine", "(I)V"⟩
abbrev cX6_freeLegsOf : ByteArray := prog_8_method_12_code
def yX6_freeLegsOf : MethodName := ⟨RX6, "freeLegsOf", "(I)V"⟩
abbrev cX6_linesLeft : ByteArray := prog_8_method_13_code
def yX6_linesLeft : MethodName := ⟨RX6, "linesLeft", "(I)I"⟩
abbrev cX6_lineSumLeft : ByteArray := prog_8_method_14_code
def yX6_lineSumLeft : MethodName := ⟨RX6, "lineSumLeft", "(I)J"⟩
abbrev cX6_legsLeft : ByteArray := prog_8_method_15_code
def yX6_legsLeft : MethodName := ⟨RX6, "legsLeft", "(I)I"⟩
abbrev cX6_legSumLeft : ByteArray := prog_8_method_16_code
def yX6_legSumLeft : MethodName := ⟨RX6, "legSumLeft", "(I)J"⟩
def RX7 : String := "Tollgate"
def TX7 : u_T := fun k => match k with
  | 0 => ("Tollgate", "accounts", "LTollgate$Accounts;", true)
  | 1 => ("Tollgate", "draft", "LTollgate$Draft;", true)
  | 2 => ("Tollgate", "journal", "LTollgate$Journal;", true)
  | 3 => ("Tollgate", "holds", "LTollgate$Holds;", true)
  | 4 => ("Tollgate", "lines", "LTollgate$Lines;", true)
  | 5 => ("Tollgate", "kept", "LTollgate$Matching;", true)
  | 6 => ("Tollgate", "trial", "LTollgate$Matching;", true)
  | 7 => ("Tollgate", "plan", "LTollgate$LegRow;", true)
  | 8 => ("Tollgate", "exchangeAccount", "I", false)
  | _ => ("Tollgate", "today", "I", false)
def tyX7 : Nat → FieldType := fun k => match k with
  | 0 => .object "Tollgate$Accounts"
  | 1 => .object "Tollgate$Draft"
  | 2 => .object "Tollgate$Journal"
  | 3 => .object "Tollgate$Holds"
  | 4 => .object "Tollgate$Lines"
  | 5 => .object "Tollgate$Matching"
  | 6 => .object "Tollgate$Matching"
  | 7 => .object "Tollgate$LegRow"
  | 8 => .int
  | _ => .int
abbrev wsX70 : List Cond := u_ws RX7 TX7 10
theorem nmX7 : ∀ a, a < 10 → ∀ b, b < 10 → a ≠ b → (TX7 a).2.1 ≠ (TX7 b).2.1 := by decide +kernel
theorem tyX7_ok : ∀ k, k < 10 → parseFieldDescriptor (TX7 k).2.2.1 = some (tyX7 k) := by decide +kernel
abbrev cX7_init : ByteArray := prog_1_method_1_code
def yX7_init : MethodName := ⟨RX7, "<init>", "()V"⟩
abbrev cX7_rate : ByteArray := prog_1_method_2_code
def yX7_rate : MethodName := ⟨RX7, "rate", "(II)I"⟩
abbrev cX7_account : ByteArray := prog_1_method_3_code
def yX7_account : MethodName := ⟨RX7, "account", "(II)I"⟩
abbrev cX7_floor : ByteArray := prog_1_method_4_code
def yX7_floor : MethodName := ⟨RX7, "floor", "(II)J"⟩
abbrev cX7_exchange : ByteArray := prog_1_method_5_code
def yX7_exchange : MethodName := ⟨RX7, "exchange", "(I)I"⟩
abbrev cX7_pass : ByteArray := prog_1_method_6_code
def yX7_pass : MethodName := ⟨RX7, "pass", "(I)I"⟩
abbrev cX7_draft : ByteArray := prog_1_method_7_code
def yX7_draft : MethodName := ⟨RX7, "draft", "(II)I"⟩
abbrev cX7_leg : ByteArray := prog_1_method_8_code
def yX7_leg : MethodName := ⟨RX7, "leg", "(II)J"⟩
abbrev cX7_post : ByteArray := prog_1_method_9_code
def yX7_post : MethodName := ⟨RX7, "post", "()I"⟩
abbrev cX7_reason : ByteArray := prog_1_method_10_code
def yX7_reason : MethodName := ⟨RX7, "reason", "()I"⟩
abbrev cX7_turnBack : ByteArray := prog_1_method_11_code
def yX7_turnBack : MethodName := ⟨RX7, "turnBack", "(I)I"⟩
abbrev cX7_ofEntry : ByteArray := prog_1_method_12_code
def yX7_ofEntry : MethodName := ⟨RX7, "ofEntry", "(II)I"⟩
abbrev cX7_ofLeg : ByteArray := prog_1_method_13_code
def yX7_ofLeg : MethodName := ⟨RX7, "ofLeg", "(III)J"⟩
abbrev cX7_hold : ByteArray := prog_1_method_14_code
def yX7_hold : MethodName := ⟨RX7, "hold", "(III)I"⟩
abbrev cX7_take : ByteArray := prog_1_method_15_code
def yX7_take : MethodName := ⟨RX7, "take", "(III)I"⟩
abbrev cX7_letGo : ByteArray := prog_1_method_16_code
def yX7_letGo : MethodName := ⟨RX7, "letGo", "(I)I"⟩
abbrev cX7_close : ByteArray := prog_1_method_17_code
def yX7_close : MethodName := ⟨RX7, "close", "(II)I"⟩
abbrev cX7_open : ByteArray := prog_1_method_18_code
def yX7_open : MethodName := ⟨RX7, "open", "()I"⟩
abbrev cX7_line : ByteArray := prog_1_method_19_code
def yX7_line : MethodName := ⟨RX7, "line", "(III)I"⟩
abbrev cX7_match : ByteArray := prog_1_method_20_code
def yX7_match : MethodName := ⟨RX7, "match", "(II)I"⟩
abbrev cX7_left : ByteArray := prog_1_method_21_code
def yX7_left : MethodName := ⟨RX7, "left", "(II)J"⟩
abbrev cX7_matched : ByteArray := prog_1_method_22_code
def yX7_matched : MethodName := ⟨RX7, "matched", "(I)I"⟩
abbrev cX7_many : ByteArray := prog_1_method_23_code
def yX7_many : MethodName := ⟨RX7, "many", "(I)I"⟩
abbrev cX7_told : ByteArray := prog_1_method_24_code
def yX7_told : MethodName := ⟨RX7, "told", "(II)J"⟩
abbrev cX7_at : ByteArray := prog_1_method_25_code
def yX7_at : MethodName := ⟨RX7, "at", "(II)J"⟩
abbrev cX7_ofKind : ByteArray := prog_1_method_26_code
def yX7_ofKind : MethodName := ⟨RX7, "ofKind", "(I)J"⟩
abbrev cX7_earned : ByteArray := prog_1_method_27_code
def yX7_earned : MethodName := ⟨RX7, "earned", "(II)J"⟩
abbrev cX7_hadOn : ByteArray := prog_1_method_28_code
def yX7_hadOn : MethodName := ⟨RX7, "hadOn", "(II)J"⟩
abbrev cX7_wouldMatch : ByteArray := prog_1_method_29_code
def yX7_wouldMatch : MethodName := ⟨RX7, "wouldMatch", "(II)I"⟩
abbrev cX7_wouldClose : ByteArray := prog_1_method_30_code
def yX7_wouldClose : MethodName := ⟨RX7, "wouldClose", "(I)J"⟩
abbrev cX7_meanLegs : ByteArray := prog_1_method_31_code
def yX7_meanLegs : MethodName := ⟨RX7, "meanLegs", "()D"⟩
abbrev cX7_digest : ByteArray := prog_1_method_32_code
def yX7_digest : MethodName := ⟨RX7, "digest", "()J"⟩
abbrev cX7_mix : ByteArray := prog_1_method_33_code
def yX7_mix : MethodName := ⟨RX7, "mix", "(JJ)J"⟩
abbrev cX7_mixAccount : ByteArray := prog_1_method_34_code
def yX7_mixAccount : MethodName := ⟨RX7, "mixAccount", "(JI)J"⟩
abbrev cX7_mixEntry : ByteArray := prog_1_method_35_code
def yX7_mixEntry : MethodName := ⟨RX7, "mixEntry", "(JI)J"⟩
abbrev cX7_needAccount : ByteArray := prog_1_method_36_code
def yX7_needAccount : MethodName := ⟨RX7, "needAccount", "(I)V"⟩
abbrev cX7_needEntry : ByteArray := prog_1_method_37_code
def yX7_needEntry : MethodName := ⟨RX7, "needEntry", "(I)V"⟩
abbrev cX7_needHold : ByteArray := prog_1_method_38_code
def yX7_needHold : MethodName := ⟨RX7, "needHold", "(I)V"⟩
abbrev cX7_needOpenHold : ByteArray := prog_1_method_39_code
def yX7_needOpenHold : MethodName := ⟨RX7, "needOpenHold", "(I)V"⟩
abbrev cX7_needDay : ByteArray := prog_1_method_40_code
def yX7_needDay : MethodName := ⟨RX7, "needDay", "(I)V"⟩
abbrev cX7_needAmount : ByteArray := prog_1_method_41_code
def yX7_needAmount : MethodName := ⟨RX7, "needAmount", "(I)V"⟩
abbrev cX7_needDaysAway : ByteArray := prog_1_method_42_code
def yX7_needDaysAway : MethodName := ⟨RX7, "needDaysAway", "(I)V"⟩
abbrev cX7_needPlanToday : ByteArray := prog_1_method_43_code
def yX7_needPlanToday : MethodName := ⟨RX7, "needPlanToday", "(I)V"⟩
abbrev cX7_standOf : ByteArray := prog_1_method_44_code
def yX7_standOf : MethodName := ⟨RX7, "standOf", "(I)J"⟩
abbrev cX7_hadIf : ByteArray := prog_1_method_45_code
def yX7_hadIf : MethodName := ⟨RX7, "hadIf", "(II)J"⟩
abbrev cX7_whyNotPosted : ByteArray := prog_1_method_46_code
def yX7_whyNotPosted : MethodName := ⟨RX7, "whyNotPosted", "()I"⟩
abbrev cX7_canBeExchanged : ByteArray := prog_1_method_47_code
def yX7_canBeExchanged : MethodName := ⟨RX7, "canBeExchanged", "()Z"⟩
abbrev cX7_draftHasTwoCurrencies : ByteArray := prog_1_method_48_code
def yX7_draftHasTwoCurrencies : MethodName := ⟨RX7, "draftHasTwoCurrencies", "()Z"⟩
abbrev cX7_planLeg : ByteArray := prog_1_method_49_code
def yX7_planLeg : MethodName := ⟨RX7, "planLeg", "(IJ)V"⟩
abbrev cX7_planDraft : ByteArray := prog_1_method_50_code
def yX7_planDraft : MethodName := ⟨RX7, "planDraft", "()V"⟩
abbrev cX7_planTurnedBack : ByteArray := prog_1_method_51_code
def yX7_planTurnedBack : MethodName := ⟨RX7, "planTurnedBack", "(I)V"⟩
abbrev cX7_planTaking : ByteArray := prog_1_method_52_code
def yX7_planTaking : MethodName := ⟨RX7, "planTaking", "(III)V"⟩
abbrev cX7_planClosing : ByteArray := prog_1_method_53_code
def yX7_planClosing : MethodName := ⟨RX7, "planClosing", "(I)V"⟩
abbrev cX7_planKeepsFloors : ByteArray := prog_1_method_54_code
def yX7_planKeepsFloors : MethodName := ⟨RX7, "planKeepsFloors", "(I)Z"⟩
def RX8 : String := "TollgateModel$Account"
def TX8 : u_T := fun k => match k with
  | 0 => ("TollgateModel$Account", "number", "I", true)
  | 1 => ("TollgateModel$Account", "kind", "I", true)
  | 2 => ("TollgateModel$Account", "currency", "I", true)
  | 3 => ("TollgateModel$Account", "hasFloor", "Z", false)
  | _ => ("TollgateModel$Account", "floor", "I", false)
def tyX8 : Nat → FieldType := fun k => match k with
  | 0 => .int
  | 1 => .int
  | 2 => .int
  | 3 => .boolean
  | _ => .int
abbrev wsX80 : List Cond := u_ws RX8 TX8 5
theorem nmX8 : ∀ a, a < 5 → ∀ b, b < 5 → a ≠ b → (TX8 a).2.1 ≠ (TX8 b).2.1 := by decide +kernel
theorem tyX8_ok : ∀ k, k < 5 → parseFieldDescriptor (TX8 k).2.2.1 = some (tyX8 k) := by decide +kernel
abbrev cX8_init : ByteArray := prog_11_method_1_code
def yX8_init : MethodName := ⟨RX8, "<init>", "(III)V"⟩
abbrev cX8_stand : ByteArray := prog_11_method_2_code
def yX8_stand : MethodName := ⟨RX8, "stand", "(J)J"⟩
abbrev cX8_isResult : ByteArray := prog_11_method_3_code
def yX8_isResult : MethodName := ⟨RX8, "isResult", "()Z"⟩
def RX9 : String := "TollgateModel$Dated"
abbrev cX9_init : ByteArray := prog_12_method_1_code
def yX9_init : MethodName := ⟨RX9, "<init>", "(LTollgateModel$Leg;I)V"⟩
def RX10 : String := "TollgateModel$Entry"
abbrev cX10_init : ByteArray := prog_13_method_1_code
def yX10_init : MethodName := ⟨RX10, "<init>", "(IIILjava/util/ArrayList;Z)V"⟩
def RX11 : String := "TollgateModel$Hold"
abbrev cX11_init : ByteArray := prog_14_method_1_code
def yX11_init : MethodName := ⟨RX11, "<init>", "(LTollgateModel$Account;II)V"⟩
abbrev cX11_isOpen : ByteArray := prog_14_method_2_code
def yX11_isOpen : MethodName := ⟨RX11, "isOpen", "(I)Z"⟩
def RX12 : String := "TollgateModel$Leg"
abbrev cX12_init : ByteArray := prog_15_method_1_code
def yX12_init : MethodName := ⟨RX12, "<init>", "(LTollgateModel$Account;J)V"⟩
def RX13 : String := "TollgateModel$Line"
abbrev cX13_init : ByteArray := prog_16_method_1_code
def yX13_init : MethodName := ⟨RX13, "<init>", "(ILTollgateModel$Account;II)V"⟩
abbrev cX13_isAhead : ByteArray := prog_16_method_2_code
def yX13_isAhead : MethodName := ⟨RX13, "isAhead", "(LTollgateModel$Line;)Z"⟩
def RX14 : String := "TollgateModel"
def TX14 : u_T := fun k => match k with
  | 0 => ("TollgateModel", "thrown", "I", false)
  | 1 => ("TollgateModel", "rates", "[I", true)
  | 2 => ("TollgateModel", "accounts", "Ljava/util/ArrayList;", true)
  | 3 => ("TollgateModel", "entries", "Ljava/util/ArrayList;", true)
  | 4 => ("TollgateModel", "holds", "Ljava/util/ArrayList;", true)
  | 5 => ("TollgateModel", "lines", "Ljava/util/ArrayList;", true)
  | 6 => ("TollgateModel", "closings", "Ljava/util/ArrayList;", true)
  | 7 => ("TollgateModel", "lockedAhead", "Ljava/util/ArrayList;", true)
  | 8 => ("TollgateModel", "exchange", "LTollgateModel$Account;", false)
  | 9 => ("TollgateModel", "today", "I", false)
  | 10 => ("TollgateModel", "locked", "I", false)
  | 11 => ("TollgateModel", "hasDraft", "Z", false)
  | 12 => ("TollgateModel", "draftDay", "I", false)
  | 13 => ("TollgateModel", "draftNote", "I", false)
  | _ => ("TollgateModel", "draft", "Ljava/util/ArrayList;", false)
def tyX14 : Nat → FieldType := fun k => match k with
  | 0 => .int
  | 1 => .array .int
  | 2 => .object "java/util/ArrayList"
  | 3 => .object "java/util/ArrayList"
  | 4 => .object "java/util/ArrayList"
  | 5 => .object "java/util/ArrayList"
  | 6 => .object "java/util/ArrayList"
  | 7 => .object "java/util/ArrayList"
  | 8 => .object "TollgateModel$Account"
  | 9 => .int
  | 10 => .int
  | 11 => .boolean
  | 12 => .int
  | 13 => .int
  | _ => .object "java/util/ArrayList"
abbrev wsX140 : List Cond := u_ws RX14 TX14 15
theorem nmX14 : ∀ a, a < 15 → ∀ b, b < 15 → a ≠ b → (TX14 a).2.1 ≠ (TX14 b).2.1 := by decide +kernel
theorem tyX14_ok : ∀ k, k < 15 → parseFieldDescriptor (TX14 k).2.2.1 = some (tyX14 k) := by decide +kernel
abbrev cX14_init : ByteArray := prog_10_method_1_code
def yX14_init : MethodName := ⟨RX14, "<init>", "()V"⟩
abbrev cX14_thrown : ByteArray := prog_10_method_2_code
def yX14_thrown : MethodName := ⟨RX14, "thrown", "()I"⟩
abbrev cX14_isIn : ByteArray := prog_10_method_3_code
def yX14_isIn : MethodName := ⟨RX14, "isIn", "(III)Z"⟩
abbrev cX14_refuse : ByteArray := prog_10_method_4_code
def yX14_refuse : MethodName := ⟨RX14, "refuse", "(ZI)Z"⟩
abbrev cX14_start : ByteArray := prog_10_method_5_code
def yX14_start : MethodName := ⟨RX14, "start", "(ZI)Z"⟩
abbrev cX14_isNo : ByteArray := prog_10_method_6_code
def yX14_isNo : MethodName := ⟨RX14, "isNo", "(I)Z"⟩
abbrev cX14_isNoAccount : ByteArray := prog_10_method_7_code
def yX14_isNoAccount : MethodName := ⟨RX14, "isNoAccount", "(I)Z"⟩
abbrev cX14_worth : ByteArray := prog_10_method_8_code
def yX14_worth : MethodName := ⟨RX14, "worth", "(JI)J"⟩
abbrev cX14_worth_ : ByteArray := prog_10_method_9_code
def yX14_worth_ : MethodName := ⟨RX14, "worth", "(LTollgateModel$Leg;)J"⟩
abbrev cX14_worths : ByteArray := prog_10_method_10_code
def yX14_worths : MethodName := ⟨RX14, "worths", "(Ljava/util/ArrayList;)J"⟩
abbrev cX14_amounts : ByteArray := prog_10_method_11_code
def yX14_amounts : MethodName := ⟨RX14, "amounts", "(Ljava/util/ArrayList;LTollgateModel$Account;)J"⟩
abbrev cX14_until : ByteArray := prog_10_method_12_code
def yX14_until : MethodName := ⟨RX14, "until", "(LTollgateModel$Account;I)J"⟩
abbrev cX14_stand : ByteArray := prog_10_method_13_code
def yX14_stand : MethodName := ⟨RX14, "stand", "(LTollgateModel$Account;)J"⟩
abbrev cX14_held : ByteArray := prog_10_method_14_code
def yX14_held : MethodName := ⟨RX14, "held", "(LTollgateModel$Account;I)J"⟩
abbrev cX14_had : ByteArray := prog_10_method_15_code
def yX14_had : MethodName := ⟨RX14, "had", "(LTollgateModel$Account;I)J"⟩
abbrev cX14_keeps : ByteArray := prog_10_method_16_code
def yX14_keeps : MethodName := ⟨RX14, "keeps", "(Ljava/util/ArrayList;)Z"⟩
abbrev cX14_rate : ByteArray := prog_10_method_17_code
def yX14_rate : MethodName := ⟨RX14, "rate", "(II)I"⟩
abbrev cX14_account : ByteArray := prog_10_method_18_code
def yX14_account : MethodName := ⟨RX14, "account", "(II)I"⟩
abbrev cX14_floor : ByteArray := prog_10_method_19_code
def yX14_floor : MethodName := ⟨RX14, "floor", "(II)J"⟩
abbrev cX14_exchange : ByteArray := prog_10_method_20_code
def yX14_exchange : MethodName := ⟨RX14, "exchange", "(I)I"⟩
abbrev cX14_pass : ByteArray := prog_10_method_21_code
def yX14_pass : MethodName := ⟨RX14, "pass", "(I)I"⟩
abbrev cX14_draft : ByteArray := prog_10_method_22_code
def yX14_draft : MethodName := ⟨RX14, "draft", "(II)I"⟩
abbrev cX14_isNoAmount : ByteArray := prog_10_method_23_code
def yX14_isNoAmount : MethodName := ⟨RX14, "isNoAmount", "(I)Z"⟩
abbrev cX14_leg : ByteArray := prog_10_method_24_code
def yX14_leg : MethodName := ⟨RX14, "leg", "(II)J"⟩
abbrev cX14_areMixed : ByteArray := prog_10_method_25_code
def yX14_areMixed : MethodName := ⟨RX14, "areMixed", "()Z"⟩
abbrev cX14_whole : ByteArray := prog_10_method_26_code
def yX14_whole : MethodName := ⟨RX14, "whole", "()Ljava/util/ArrayList;"⟩
abbrev cX14_reasonNow : ByteArray := prog_10_method_27_code
def yX14_reasonNow : MethodName := ⟨RX14, "reasonNow", "()I"⟩
abbrev cX14_reason : ByteArray := prog_10_method_28_code
def yX14_reason : MethodName := ⟨RX14, "reason", "()I"⟩
abbrev cX14_write : ByteArray := prog_10_method_29_code
def yX14_write : MethodName := ⟨RX14, "write", "(IILjava/util/ArrayList;Z)I"⟩
abbrev cX14_post : ByteArray := prog_10_method_30_code
def yX14_post : MethodName := ⟨RX14, "post", "()I"⟩
abbrev cX14_isNoEntry : ByteArray := prog_10_method_31_code
def yX14_isNoEntry : MethodName := ⟨RX14, "isNoEntry", "(I)Z"⟩
abbrev cX14_turnBack : ByteArray := prog_10_method_32_code
def yX14_turnBack : MethodName := ⟨RX14, "turnBack", "(I)I"⟩
abbrev cX14_of : ByteArray := prog_10_method_33_code
def yX14_of : MethodName := ⟨RX14, "of", "(LTollgateModel$Entry;I)I"⟩
abbrev cX14_ofEntry : ByteArray := prog_10_method_34_code
def yX14_ofEntry : MethodName := ⟨RX14, "ofEntry", "(II)I"⟩
abbrev cX14_of_ : ByteArray := prog_10_method_35_code
def yX14_of_ : MethodName := ⟨RX14, "of", "(LTollgateModel$Leg;I)J"⟩
abbrev cX14_ofLeg : ByteArray := prog_10_method_36_code
def yX14_ofLeg : MethodName := ⟨RX14, "ofLeg", "(III)J"⟩
abbrev cX14_hold : ByteArray := prog_10_method_37_code
def yX14_hold : MethodName := ⟨RX14, "hold", "(III)I"⟩
abbrev cX14_isNoHold : ByteArray := prog_10_method_38_code
def yX14_isNoHold : MethodName := ⟨RX14, "isNoHold", "(I)Z"⟩
abbrev cX14_take : ByteArray := prog_10_method_39_code
def yX14_take : MethodName := ⟨RX14, "take", "(III)I"⟩
abbrev cX14_letGo : ByteArray := prog_10_method_40_code
def yX14_letGo : MethodName := ⟨RX14, "letGo", "(I)I"⟩
abbrev cX14_results : ByteArray := prog_10_method_41_code
def yX14_results : MethodName := ⟨RX14, "results", "(I)Ljava/util/ArrayList;"⟩
abbrev cX14_close : ByteArray := prog_10_method_42_code
def yX14_close : MethodName := ⟨RX14, "close", "(II)I"⟩
abbrev cX14_unmatch : ByteArray := prog_10_method_43_code
def yX14_unmatch : MethodName := ⟨RX14, "unmatch", "(LTollgateModel$Line;)V"⟩
abbrev cX14_open : ByteArray := prog_10_method_44_code
def yX14_open : MethodName := ⟨RX14, "open", "()I"⟩
abbrev cX14_line : ByteArray := prog_10_method_45_code
def yX14_line : MethodName := ⟨RX14, "line", "(III)I"⟩
abbrev cX14_linesOf : ByteArray := prog_10_method_46_code
def yX14_linesOf : MethodName := ⟨RX14, "linesOf", "(LTollgateModel$Account;)Ljava/util/ArrayList;"⟩
abbrev cX14_legsOf : ByteArray := prog_10_method_47_code
def yX14_legsOf : MethodName := ⟨RX14, "legsOf", "(LTollgateModel$Account;)Ljava/util/ArrayList;"⟩
abbrev cX14_matches : ByteArray := prog_10_method_48_code
def yX14_matches : MethodName := ⟨RX14, "matches", "(Ljava/util/ArrayList;Ljava/util/ArrayList;I)[LTollgateModel$Line;"⟩
abbrev cX14_matchTwo : ByteArray := prog_10_method_49_code
def yX14_matchTwo : MethodName := ⟨RX14, "matchTwo", "(LTollgateModel$Line;Ljava/util/ArrayList;I[LTollgateModel$Line;)V"⟩
abbrev cX14_matched : ByteArray := prog_10_method_50_code
def yX14_matched : MethodName := ⟨RX14, "matched", "(Ljava/util/ArrayList;[LTollgateModel$Line;)I"⟩
abbrev cX14_match : ByteArray := prog_10_method_51_code
def yX14_match : MethodName := ⟨RX14, "match", "(II)I"⟩
abbrev cX14_entryOf : ByteArray := prog_10_method_52_code
def yX14_entryOf : MethodName := ⟨RX14, "entryOf", "(LTollgateModel$Line;)LTollgateModel$Entry;"⟩
abbrev cX14_leftNow : ByteArray := prog_10_method_53_code
def yX14_leftNow : MethodName := ⟨RX14, "leftNow", "(LTollgateModel$Account;I)J"⟩
abbrev cX14_left : ByteArray := prog_10_method_54_code
def yX14_left : MethodName := ⟨RX14, "left", "(II)J"⟩
abbrev cX14_matchedNow : ByteArray := prog_10_method_55_code
def yX14_matchedNow : MethodName := ⟨RX14, "matchedNow", "(LTollgateModel$Line;)I"⟩
abbrev cX14_matched_ : ByteArray := prog_10_method_56_code
def yX14_matched_ : MethodName := ⟨RX14, "matched", "(I)I"⟩
abbrev cX14_count : ByteArray := prog_10_method_57_code
def yX14_count : MethodName := ⟨RX14, "count", "(I)I"⟩
abbrev cX14_many : ByteArray := prog_10_method_58_code
def yX14_many : MethodName := ⟨RX14, "many", "(I)I"⟩
abbrev cX14_worthsOf : ByteArray := prog_10_method_59_code
def yX14_worthsOf : MethodName := ⟨RX14, "worthsOf", "(LTollgateModel$Account;)J"⟩
abbrev cX14_toldNow : ByteArray := prog_10_method_60_code
def yX14_toldNow : MethodName := ⟨RX14, "toldNow", "(LTollgateModel$Account;I)J"⟩
abbrev cX14_told : ByteArray := prog_10_method_61_code
def yX14_told : MethodName := ⟨RX14, "told", "(II)J"⟩
abbrev cX14_isNoDay : ByteArray := prog_10_method_62_code
def yX14_isNoDay : MethodName := ⟨RX14, "isNoDay", "(I)Z"⟩
abbrev cX14_at : ByteArray := prog_10_method_63_code
def yX14_at : MethodName := ⟨RX14, "at", "(II)J"⟩
abbrev cX14_ofKindNow : ByteArray := prog_10_method_64_code
def yX14_ofKindNow : MethodName := ⟨RX14, "ofKindNow", "(I)J"⟩
abbrev cX14_ofKind : ByteArray := prog_10_method_65_code
def yX14_ofKind : MethodName := ⟨RX14, "ofKind", "(I)J"⟩
abbrev cX14_earned : ByteArray := prog_10_method_66_code
def yX14_earned : MethodName := ⟨RX14, "earned", "(II)J"⟩
abbrev cX14_hadOn : ByteArray := prog_10_method_67_code
def yX14_hadOn : MethodName := ⟨RX14, "hadOn", "(II)J"⟩
abbrev cX14_wouldMatchNow : ByteArray := prog_10_method_68_code
def yX14_wouldMatchNow : MethodName := ⟨RX14, "wouldMatchNow", "(LTollgateModel$Account;I)I"⟩
abbrev cX14_wouldMatch : ByteArray := prog_10_method_69_code
def yX14_wouldMatch : MethodName := ⟨RX14, "wouldMatch", "(II)I"⟩
abbrev cX14_wouldClose : ByteArray := prog_10_method_70_code
def yX14_wouldClose : MethodName := ⟨RX14, "wouldClose", "(I)J"⟩
abbrev cX14_meanLegs : ByteArray := prog_10_method_71_code
def yX14_meanLegs : MethodName := ⟨RX14, "meanLegs", "()D"⟩
abbrev cX14_add : ByteArray := prog_10_method_72_code
def yX14_add : MethodName := ⟨RX14, "add", "(JJ)J"⟩
abbrev cX14_digest : ByteArray := prog_10_method_73_code
def yX14_digest : MethodName := ⟨RX14, "digest", "()J"⟩
def RJx145de : String := "java/io/Serializable"
def RJ5 : String := "java/lang/AbstractStringBuilder"
abbrev cJ5_init_d00df : ByteArray := prog_18_method_2_code
def yJ5_init_d00df : MethodName := ⟨RJ5, "<init>", "(I)V"⟩
abbrev cJ5_length_8abf5 : ByteArray := prog_18_method_6_code
def yJ5_length_8abf5 : MethodName := ⟨RJ5, "length", "()I"⟩
abbrev cJ5_ensureCapacityInternal_d00df : ByteArray := prog_18_method_9_code
def yJ5_ensureCapacityInternal_d00df : MethodName := ⟨RJ5, "ensureCapacityInternal", "(I)V"⟩
abbrev cJ5_newCapacity_0f7a4 : ByteArray := prog_18_method_10_code
def yJ5_newCapacity_0f7a4 : MethodName := ⟨RJ5, "newCapacity", "(I)I"⟩
abbrev cJ5_inflate_da8c8 : ByteArray := prog_18_method_11_code
def yJ5_inflate_da8c8 : MethodName := ⟨RJ5, "inflate", "()V"⟩
abbrev cJ5_append_cf1ce : ByteArray := prog_18_method_22_code
def yJ5_append_cf1ce : MethodName := ⟨RJ5, "append", "(Ljava/lang/String;)Ljava/lang/AbstractStringBuilder;"⟩
abbrev cJ5_appendNull_278bc : ByteArray := prog_18_method_26_code
def yJ5_appendNull_278bc : MethodName := ⟨RJ5, "appendNull", "()Ljava/lang/AbstractStringBuilder;"⟩
abbrev cJ5_append_c97b9 : ByteArray := prog_18_method_32_code
def yJ5_append_c97b9 : MethodName := ⟨RJ5, "append", "(I)Ljava/lang/AbstractStringBuilder;"⟩
abbrev cJ5_getValue_6d5f1 : ByteArray := prog_18_method_64_code
def yJ5_getValue_6d5f1 : MethodName := ⟨RJ5, "getValue", "()[B"⟩
abbrev cJ5_isLatin1_aae02 : ByteArray := prog_18_method_68_code
def yJ5_isLatin1_aae02 : MethodName := ⟨RJ5, "isLatin1", "()Z"⟩
abbrev cJ5_inflateIfNeededFor_a7421 : ByteArray := prog_18_method_71_code
def yJ5_inflateIfNeededFor_a7421 : MethodName := ⟨RJ5, "inflateIfNeededFor", "(Ljava/lang/String;)V"⟩
abbrev cJ5_putStringAt_47b60 : ByteArray := prog_18_method_73_code
def yJ5_putStringAt_47b60 : MethodName := ⟨RJ5, "putStringAt", "(ILjava/lang/String;)V"⟩
def RJx2cfe8 : String := "java/lang/Appendable"
def RJx9f9b0 : String := "java/lang/CharSequence"
def RJx8e188 : String := "java/lang/Cloneable"
def RJxb160c : String := "java/lang/Comparable"
def RJxabbfe : String := "java/lang/Integer$IntegerCache"
def RJ6 : String := "java/lang/Integer"
abbrev cJ6_getChars_ba4f3 : ByteArray := prog_27_method_12_code
def yJ6_getChars_ba4f3 : MethodName := ⟨RJ6, "getChars", "(II[B)I"⟩
abbrev cJ6_stringSize_0f7a4 : ByteArray := prog_27_method_13_code
def yJ6_stringSize_0f7a4 : MethodName := ⟨RJ6, "stringSize", "(I)I"⟩
abbrev cJ6_valueOf_2dffe : ByteArray := prog_27_method_22_code
def yJ6_valueOf_2dffe : MethodName := ⟨RJ6, "valueOf", "(I)Ljava/lang/Integer;"⟩
abbrev cJ6_init_d00df : ByteArray := prog_27_method_23_code
def yJ6_init_d00df : MethodName := ⟨RJ6, "<init>", "(I)V"⟩
abbrev cJ6_intValue_8abf5 : ByteArray := prog_27_method_27_code
def yJ6_intValue_8abf5 : MethodName := ⟨RJ6, "intValue", "()I"⟩
def RJxab1ab : String := "java/lang/Iterable"
def RJ9 : String := "java/lang/Math"
abbrev cJ9_abs_0f7a4 : ByteArray := prog_30_method_59_code
def yJ9_abs_0f7a4 : MethodName := ⟨RJ9, "abs", "(I)I"⟩
abbrev cJ9_abs_067f4 : ByteArray := prog_30_method_61_code
def yJ9_abs_067f4 : MethodName := ⟨RJ9, "abs", "(J)J"⟩
abbrev cJ9_max_7cf53 : ByteArray := prog_30_method_65_code
def yJ9_max_7cf53 : MethodName := ⟨RJ9, "max", "(II)I"⟩
abbrev cJ9_min_7cf53 : ByteArray := prog_30_method_69_code
def yJ9_min_7cf53 : MethodName := ⟨RJ9, "min", "(II)I"⟩
def RJxd2413 : String := "java/lang/Number"
abbrev cJxd2413_init_da8c8 : ByteArray := prog_31_method_1_code
def yJxd2413_init_da8c8 : MethodName := ⟨RJxd2413, "<init>", "()V"⟩
def RJ0 : String := "java/lang/String"
abbrev cJ0_init_81219 : ByteArray := prog_33_method_53_code
def yJ0_init_81219 : MethodName := ⟨RJ0, "<init>", "(Ljava/lang/StringBuilder;)V"⟩
abbrev cJ0_length_8abf5 : ByteArray := prog_33_method_54_code
def yJ0_length_8abf5 : MethodName := ⟨RJ0, "length", "()I"⟩
abbrev cJ0_getBytes_840e7 : ByteArray := prog_33_method_147_code
def yJ0_getBytes_840e7 : MethodName := ⟨RJ0, "getBytes", "([BIB)V"⟩
abbrev cJ0_init_db425 : ByteArray := prog_33_method_150_code
def yJ0_init_db425 : MethodName := ⟨RJ0, "<init>", "(Ljava/lang/AbstractStringBuilder;Ljava/lang/Void;)V"⟩
abbrev cJ0_coder_7d493 : ByteArray := prog_33_method_152_code
def yJ0_coder_7d493 : MethodName := ⟨RJ0, "coder", "()B"⟩
abbrev cJ0_checkBoundsOffCount_cabcc : ByteArray := prog_33_method_157_code
def yJ0_checkBoundsOffCount_cabcc : MethodName := ⟨RJ0, "checkBoundsOffCount", "(III)I"⟩
abbrev cJ0_checkBoundsBeginEnd_23922 : ByteArray := prog_33_method_158_code
def yJ0_checkBoundsBeginEnd_23922 : MethodName := ⟨RJ0, "checkBoundsBeginEnd", "(III)V"⟩
def RJ4 : String := "java/lang/StringBuilder"
abbrev cJ4_init_da8c8 : ByteArray := prog_34_method_1_code
def yJ4_init_da8c8 : MethodName := ⟨RJ4, "<init>", "()V"⟩
abbrev cJ4_append_15ec4 : ByteArray := prog_34_method_7_code
def yJ4_append_15ec4 : MethodName := ⟨RJ4, "append", "(Ljava/lang/String;)Ljava/lang/StringBuilder;"⟩
abbrev cJ4_append_bf812 : ByteArray := prog_34_method_15_code
def yJ4_append_bf812 : MethodName := ⟨RJ4, "append", "(I)Ljava/lang/StringBuilder;"⟩
abbrev cJ4_toString_0e30d : ByteArray := prog_34_method_42_code
def yJ4_toString_0e30d : MethodName := ⟨RJ4, "toString", "()Ljava/lang/String;"⟩
abbrev cJ4_length_8abf5 : ByteArray := prog_34_method_93_code
def yJ4_length_8abf5 : MethodName := ⟨RJ4, "length", "()I"⟩
def RJ1 : String := "java/lang/StringLatin1"
abbrev cJ1_inflate_0e8fd : ByteArray := prog_35_method_50_code
def yJ1_inflate_0e8fd : MethodName := ⟨RJ1, "inflate", "([BI[BII)V"⟩
def RJ2 : String := "java/lang/StringUTF16"
abbrev cJ2_newBytesFor_77867 : ByteArray := prog_36_method_2_code
def yJ2_newBytesFor_77867 : MethodName := ⟨RJ2, "newBytesFor", "(I)[B"⟩
abbrev cJ2_newBytesLength_0f7a4 : ByteArray := prog_36_method_3_code
def yJ2_newBytesLength_0f7a4 : MethodName := ⟨RJ2, "newBytesLength", "(I)I"⟩
abbrev cJ2_putChar_b72d1 : ByteArray := prog_36_method_4_code
def yJ2_putChar_b72d1 : MethodName := ⟨RJ2, "putChar", "([BII)V"⟩
abbrev cJ2_getChar_3b067 : ByteArray := prog_36_method_5_code
def yJ2_getChar_3b067 : MethodName := ⟨RJ2, "getChar", "([BI)C"⟩
abbrev cJ2_length_9d52b : ByteArray := prog_36_method_6_code
def yJ2_length_9d52b : MethodName := ⟨RJ2, "length", "([B)I"⟩
abbrev cJ2_coderFromArrayLen_85cad : ByteArray := prog_36_method_15_code
def yJ2_coderFromArrayLen_85cad : MethodName := ⟨RJ2, "coderFromArrayLen", "([BI)B"⟩
abbrev cJ2_compress_39247 : ByteArray := prog_36_method_17_code
def yJ2_compress_39247 : MethodName := ⟨RJ2, "compress", "([BII)[B"⟩
abbrev cJ2_compress_5af95 : ByteArray := prog_36_method_22_code
def yJ2_compress_5af95 : MethodName := ⟨RJ2, "compress", "([BI[BII)I"⟩
abbrev cJ2_getChars_46870 : ByteArray := prog_36_method_77_code
def yJ2_getChars_46870 : MethodName := ⟨RJ2, "getChars", "(III[B)I"⟩
abbrev cJ2_putCharsAt_cd4e5 : ByteArray := prog_36_method_81_code
def yJ2_putCharsAt_cd4e5 : MethodName := ⟨RJ2, "putCharsAt", "([BICCCC)I"⟩
abbrev cJ2_inflate_0e8fd : ByteArray := prog_36_method_86_code
def yJ2_inflate_0e8fd : MethodName := ⟨RJ2, "inflate", "([BI[BII)V"⟩
abbrev cJ2_getChars_ba4f3 : ByteArray := prog_36_method_89_code
def yJ2_getChars_ba4f3 : MethodName := ⟨RJ2, "getChars", "(II[B)I"⟩
abbrev cJ2_checkBoundsBeginEnd_d044e : ByteArray := prog_36_method_93_code
def yJ2_checkBoundsBeginEnd_d044e : MethodName := ⟨RJ2, "checkBoundsBeginEnd", "(II[B)V"⟩
abbrev cJ2_checkBoundsOffCount_d044e : ByteArray := prog_36_method_94_code
def yJ2_checkBoundsOffCount_d044e : MethodName := ⟨RJ2, "checkBoundsOffCount", "(II[B)V"⟩
def RJ10 : String := "java/lang/System"
def RJxfd54e : String := "java/lang/constant/Constable"
def RJx3cf43 : String := "java/lang/constant/ConstantDesc"
def RJxa1e45 : String := "java/util/AbstractCollection"
abbrev cJxa1e45_init_da8c8 : ByteArray := prog_41_method_1_code
def yJxa1e45_init_da8c8 : MethodName := ⟨RJxa1e45, "<init>", "()V"⟩
def RJxc12de : String := "java/util/AbstractList"
abbrev cJxc12de_init_da8c8 : ByteArray := prog_42_method_1_code
def yJxc12de_init_da8c8 : MethodName := ⟨RJxc12de, "<init>", "()V"⟩
def RJx4a65c : String := "java/util/ArrayList"
def TJx4a65c : u_T := fun k => match k with
  | 0 => ("java/util/AbstractList", "modCount", "I", false)
  | 1 => ("java/util/ArrayList", "elementData", "[Ljava/lang/Object;", false)
  | _ => ("java/util/ArrayList", "size", "I", false)
def tyJx4a65c : Nat → FieldType := fun k => match k with
  | 0 => .int
  | 1 => .array (.object "java/lang/Object")
  | _ => .int
abbrev wsJx4a65c0 : List Cond := u_ws RJx4a65c TJx4a65c 3
theorem nmJx4a65c : ∀ a, a < 3 → ∀ b, b < 3 → a ≠ b → (TJx4a65c a).2.1 ≠ (TJx4a65c b).2.1 := by decide +kernel
theorem tyJx4a65c_ok : ∀ k, k < 3 → parseFieldDescriptor (TJx4a65c k).2.2.1 = some (tyJx4a65c k) := by decide +kernel
abbrev cJx4a65c_init_da8c8 : ByteArray := prog_43_method_2_code
def yJx4a65c_init_da8c8 : MethodName := ⟨RJx4a65c, "<init>", "()V"⟩
abbrev cJx4a65c_init_4bcb3 : ByteArray := prog_43_method_3_code
def yJx4a65c_init_4bcb3 : MethodName := ⟨RJx4a65c, "<init>", "(Ljava/util/Collection;)V"⟩
abbrev cJx4a65c_grow_92f84 : ByteArray := prog_43_method_6_code
def yJx4a65c_grow_92f84 : MethodName := ⟨RJx4a65c, "grow", "(I)[Ljava/lang/Object;"⟩
abbrev cJx4a65c_grow_d5877 : ByteArray := prog_43_method_7_code
def yJx4a65c_grow_d5877 : MethodName := ⟨RJx4a65c, "grow", "()[Ljava/lang/Object;"⟩
abbrev cJx4a65c_size_8abf5 : ByteArray := prog_43_method_8_code
def yJx4a65c_size_8abf5 : MethodName := ⟨RJx4a65c, "size", "()I"⟩
abbrev cJx4a65c_isEmpty_aae02 : ByteArray := prog_43_method_9_code
def yJx4a65c_isEmpty_aae02 : MethodName := ⟨RJx4a65c, "isEmpty", "()Z"⟩
abbrev cJx4a65c_toArray_d5877 : ByteArray := prog_43_method_16_code
def yJx4a65c_toArray_d5877 : MethodName := ⟨RJx4a65c, "toArray", "()[Ljava/lang/Object;"⟩
abbrev cJx4a65c_elementData_915e3 : ByteArray := prog_43_method_18_code
def yJx4a65c_elementData_915e3 : MethodName := ⟨RJx4a65c, "elementData", "(I)Ljava/lang/Object;"⟩
abbrev cJx4a65c_get_915e3 : ByteArray := prog_43_method_20_code
def yJx4a65c_get_915e3 : MethodName := ⟨RJx4a65c, "get", "(I)Ljava/lang/Object;"⟩
abbrev cJx4a65c_add_72be8 : ByteArray := prog_43_method_24_code
def yJx4a65c_add_72be8 : MethodName := ⟨RJx4a65c, "add", "(Ljava/lang/Object;[Ljava/lang/Object;I)V"⟩
abbrev cJx4a65c_add_9ea2d : ByteArray := prog_43_method_25_code
def yJx4a65c_add_9ea2d : MethodName := ⟨RJx4a65c, "add", "(Ljava/lang/Object;)Z"⟩
abbrev cJx4a65c_add_7a177 : ByteArray := prog_43_method_26_code
def yJx4a65c_add_7a177 : MethodName := ⟨RJx4a65c, "add", "(ILjava/lang/Object;)V"⟩
abbrev cJx4a65c_remove_915e3 : ByteArray := prog_43_method_29_code
def yJx4a65c_remove_915e3 : MethodName := ⟨RJx4a65c, "remove", "(I)Ljava/lang/Object;"⟩
abbrev cJx4a65c_fastRemove_b59b0 : ByteArray := prog_43_method_39_code
def yJx4a65c_fastRemove_b59b0 : MethodName := ⟨RJx4a65c, "fastRemove", "([Ljava/lang/Object;I)V"⟩
abbrev cJx4a65c_rangeCheckForAdd_d00df : ByteArray := prog_43_method_45_code
def yJx4a65c_rangeCheckForAdd_d00df : MethodName := ⟨RJx4a65c, "rangeCheckForAdd", "(I)V"⟩
abbrev cJx4a65c_outOfBoundsMsg_b52d3 : ByteArray := prog_43_method_46_code
def yJx4a65c_outOfBoundsMsg_b52d3 : MethodName := ⟨RJx4a65c, "outOfBoundsMsg", "(I)Ljava/lang/String;"⟩
def RJ7 : String := "java/util/Arrays"
abbrev cJ7_copyOf_1904c : ByteArray := prog_44_method_119_code
def yJ7_copyOf_1904c : MethodName := ⟨RJ7, "copyOf", "([Ljava/lang/Object;I)[Ljava/lang/Object;"⟩
abbrev cJ7_copyOf_6403c : ByteArray := prog_44_method_120_code
def yJ7_copyOf_6403c : MethodName := ⟨RJ7, "copyOf", "([Ljava/lang/Object;ILjava/lang/Class;)[Ljava/lang/Object;"⟩
abbrev cJ7_copyOf_9075b : ByteArray := prog_44_method_121_code
def yJ7_copyOf_9075b : MethodName := ⟨RJ7, "copyOf", "([BI)[B"⟩
abbrev cJ7_checkLength_df160 : ByteArray := prog_44_method_131_code
def yJ7_checkLength_df160 : MethodName := ⟨RJ7, "checkLength", "(II)V"⟩
abbrev cJ7_copyOfRange_39247 : ByteArray := prog_44_method_132_code
def yJ7_copyOfRange_39247 : MethodName := ⟨RJ7, "copyOfRange", "([BII)[B"⟩
abbrev cJ7_copyOfRangeByte_39247 : ByteArray := prog_44_method_133_code
def yJ7_copyOfRangeByte_39247 : MethodName := ⟨RJ7, "copyOfRangeByte", "([BII)[B"⟩
def RJx5ef63 : String := "java/util/Collection"
def RJxbd725 : String := "java/util/List"
def RJ15 : String := "java/util/Objects"
abbrev cJ15_checkIndex_7cf53 : ByteArray := prog_47_method_17_code
def yJ15_checkIndex_7cf53 : MethodName := ⟨RJ15, "checkIndex", "(II)I"⟩
def RJxf0a74 : String := "java/util/RandomAccess"
def RJxa66e6 : String := "java/util/SequencedCollection"
def RJ8 : String := "jdk/internal/util/ArraysSupport"
abbrev cJ8_newLength_cabcc : ByteArray := prog_50_method_27_code
def yJ8_newLength_cabcc : MethodName := ⟨RJ8, "newLength", "(III)I"⟩
abbrev cJ8_hugeLength_7cf53 : ByteArray := prog_50_method_28_code
def yJ8_hugeLength_7cf53 : MethodName := ⟨RJ8, "hugeLength", "(II)I"⟩
def RJ3 : String := "jdk/internal/util/Preconditions"
abbrev cJ3_checkIndex_8e157 : ByteArray := prog_51_method_11_code
def yJ3_checkIndex_8e157 : MethodName := ⟨RJ3, "checkIndex", "(IILjava/util/function/BiFunction;)I"⟩
abbrev cJ3_checkFromToIndex_8c36e : ByteArray := prog_51_method_12_code
def yJ3_checkFromToIndex_8c36e : MethodName := ⟨RJ3, "checkFromToIndex", "(IIILjava/util/function/BiFunction;)I"⟩
abbrev cJ3_checkFromIndexSize_8c36e : ByteArray := prog_51_method_13_code
def yJ3_checkFromIndexSize_8c36e : MethodName := ⟨RJ3, "checkFromIndexSize", "(IIILjava/util/function/BiFunction;)I"⟩
def RL : String := "TollgateLaw"
abbrev cL_rate : ByteArray := method_3_code
def yL_rate : MethodName := ⟨RL, "rate", "(LTollgate;II[J)I"⟩
abbrev cL_account : ByteArray := method_4_code
def yL_account : MethodName := ⟨RL, "account", "(LTollgate;II[J)I"⟩
abbrev cL_floor : ByteArray := method_5_code
def yL_floor : MethodName := ⟨RL, "floor", "(LTollgate;II[J)I"⟩
abbrev cL_exchange : ByteArray := method_6_code
def yL_exchange : MethodName := ⟨RL, "exchange", "(LTollgate;I[J)I"⟩
abbrev cL_pass : ByteArray := method_7_code
def yL_pass : MethodName := ⟨RL, "pass", "(LTollgate;I[J)I"⟩
abbrev cL_draft : ByteArray := method_8_code
def yL_draft : MethodName := ⟨RL, "draft", "(LTollgate;II[J)I"⟩
abbrev cL_leg : ByteArray := method_9_code
def yL_leg : MethodName := ⟨RL, "leg", "(LTollgate;II[J)I"⟩
abbrev cL_post : ByteArray := method_10_code
def yL_post : MethodName := ⟨RL, "post", "(LTollgate;[J)I"⟩
abbrev cL_turnBack : ByteArray := method_11_code
def yL_turnBack : MethodName := ⟨RL, "turnBack", "(LTollgate;I[J)I"⟩
abbrev cL_ofEntry : ByteArray := method_12_code
def yL_ofEntry : MethodName := ⟨RL, "ofEntry", "(LTollgate;II[J)I"⟩
abbrev cL_ofLeg : ByteArray := method_13_code
def yL_ofLeg : MethodName := ⟨RL, "ofLeg", "(LTollgate;III[J)I"⟩
abbrev cL_hold : ByteArray := method_14_code
def yL_hold : MethodName := ⟨RL, "hold", "(LTollgate;III[J)I"⟩
abbrev cL_take : ByteArray := method_15_code
def yL_take : MethodName := ⟨RL, "take", "(LTollgate;III[J)I"⟩
abbrev cL_letGo : ByteArray := method_16_code
def yL_letGo : MethodName := ⟨RL, "letGo", "(LTollgate;I[J)I"⟩
abbrev cL_close : ByteArray := method_17_code
def yL_close : MethodName := ⟨RL, "close", "(LTollgate;II[J)I"⟩
abbrev cL_open : ByteArray := method_18_code
def yL_open : MethodName := ⟨RL, "open", "(LTollgate;[J)I"⟩
abbrev cL_line : ByteArray := method_19_code
def yL_line : MethodName := ⟨RL, "line", "(LTollgate;III[J)I"⟩
abbrev cL_match : ByteArray := method_20_code
def yL_match : MethodName := ⟨RL, "match", "(LTollgate;II[J)I"⟩
abbrev cL_left : ByteArray := method_21_code
def yL_left : MethodName := ⟨RL, "left", "(LTollgate;II[J)I"⟩
abbrev cL_matched : ByteArray := method_22_code
def yL_matched : MethodName := ⟨RL, "matched", "(LTollgate;I[J)I"⟩
abbrev cL_many : ByteArray := method_23_code
def yL_many : MethodName := ⟨RL, "many", "(LTollgate;I[J)I"⟩
abbrev cL_told : ByteArray := method_24_code
def yL_told : MethodName := ⟨RL, "told", "(LTollgate;II[J)I"⟩
abbrev cL_at : ByteArray := method_25_code
def yL_at : MethodName := ⟨RL, "at", "(LTollgate;II[J)I"⟩
abbrev cL_ofKind : ByteArray := method_26_code
def yL_ofKind : MethodName := ⟨RL, "ofKind", "(LTollgate;I[J)I"⟩
abbrev cL_earned : ByteArray := method_27_code
def yL_earned : MethodName := ⟨RL, "earned", "(LTollgate;II[J)I"⟩
abbrev cL_hadOn : ByteArray := method_28_code
def yL_hadOn : MethodName := ⟨RL, "hadOn", "(LTollgate;II[J)I"⟩
abbrev cL_wouldMatch : ByteArray := method_29_code
def yL_wouldMatch : MethodName := ⟨RL, "wouldMatch", "(LTollgate;II[J)I"⟩
abbrev cL_wouldClose : ByteArray := method_30_code
def yL_wouldClose : MethodName := ⟨RL, "wouldClose", "(LTollgate;I[J)I"⟩
abbrev cL_law : ByteArray := code
def yL_law : MethodName := ⟨RL, "law", "([I)Z"⟩
end
section
def zw_0 : List Cond := [Cond.classLink RL 8 RX7, Cond.instantiable RX7 10, Cond.initialized RX7, Cond.classLink RL 107 RX14, Cond.instantiable RX14 15, Cond.initialized RX14, Cond.arrayClass .long, Cond.methodLink RL 106 yX7_init, Cond.instanceMethod yX7_init, Cond.code yX7_init cX7_init 1 none, Cond.methodLink RX7 3 objectInit, Cond.instanceMethod objectInit, Cond.code objectInit ⟨#[0xb1]⟩ 1 none, Cond.classLink RX7 9 RX0, Cond.instantiable RX0 6, Cond.initialized RX0, Cond.fieldLink RX7 12 "Tollgate" "accounts" "LTollgate$Accounts;", Cond.classLink RX7 16 RX1, Cond.instantiable RX1 4, Cond.initialized RX1, Cond.fieldLink RX7 19 "Tollgate" "draft" "LTollgate$Draft;", Cond.classLink RX7 23 RX3, Cond.instantiable RX3 12, Cond.initialized RX3, Cond.fieldLink RX7 26 "Tollgate" "journal" "LTollgate$Journal;", Cond.classLink RX7 30 RX2, Cond.instantiable RX2 5, Cond.initialized RX2, Cond.fieldLink RX7 33 "Tollgate" "holds" "LTollgate$Holds;", Cond.classLink RX7 37 RX5, Cond.instantiable RX5 5, Cond.initialized RX5, Cond.fieldLink RX7 40 "Tollgate" "lines" "LTollgate$Lines;", Cond.classLink RX7 44 RX6, Cond.instantiable RX6 5, Cond.initialized RX6, Cond.fieldLink RX7 49 "Tollgate" "kept" "LTollgate$Matching;", Cond.fieldLink RX7 53 "Tollgate" "trial" "LTollgate$Matching;", Cond.classLink RX7 56 RX4, Cond.instantiable RX4 4]
def zw_1 : List Cond := [Cond.initialized RX4, Cond.fieldLink RX7 59 "Tollgate" "plan" "LTollgate$LegRow;", Cond.fieldLink RX7 63 "Tollgate" "exchangeAccount" "I", Cond.fieldLink RX7 67 "Tollgate" "today" "I", Cond.instanceMethod yX0_init, Cond.code yX0_init cX0_init 1 none, Cond.methodLink RX0 3 objectInit, Cond.arrayClass .int, Cond.fieldLink RX0 9 "Tollgate$Accounts" "rates" "[I", Cond.fieldLink RX0 15 "Tollgate$Accounts" "kind" "[I", Cond.fieldLink RX0 18 "Tollgate$Accounts" "currency" "[I", Cond.fieldLink RX0 21 "Tollgate$Accounts" "floors" "[I", Cond.arrayClass .boolean, Cond.fieldLink RX0 24 "Tollgate$Accounts" "hasFloor" "[Z", Cond.fieldLink RX0 28 "Tollgate$Accounts" "count" "I", Cond.instanceMethod yX1_init, Cond.code yX1_init cX1_init 1 none, Cond.methodLink RX1 1 objectInit, Cond.classLink RX1 7 RX4, Cond.fieldLink RX1 10 "Tollgate$Draft" "legs" "LTollgate$LegRow;", Cond.fieldLink RX1 16 "Tollgate$Draft" "isThere" "Z", Cond.fieldLink RX1 20 "Tollgate$Draft" "day" "I", Cond.fieldLink RX1 24 "Tollgate$Draft" "note" "I", Cond.instanceMethod yX4_init, Cond.code yX4_init cX4_init 1 none, Cond.methodLink RX4 3 objectInit, Cond.fieldLink RX4 9 "Tollgate$LegRow" "account" "[I", Cond.fieldLink RX4 15 "Tollgate$LegRow" "amount" "[J", Cond.fieldLink RX4 19 "Tollgate$LegRow" "worth" "[J", Cond.fieldLink RX4 22 "Tollgate$LegRow" "count" "I", Cond.instanceMethod yX3_init, Cond.code yX3_init cX3_init 1 none, Cond.methodLink RX3 3 objectInit, Cond.fieldLink RX3 9 "Tollgate$Journal" "day" "[I", Cond.fieldLink RX3 15 "Tollgate$Journal" "note" "[I", Cond.fieldLink RX3 18 "Tollgate$Journal" "firstLeg" "[I", Cond.fieldLink RX3 21 "Tollgate$Journal" "legsOf" "[I", Cond.fieldLink RX3 24 "Tollgate$Journal" "gone" "[Z", Cond.fieldLink RX3 28 "Tollgate$Journal" "isClosing" "[Z", Cond.fieldLink RX3 31 "Tollgate$Journal" "count" "I"]
def zw_2 : List Cond := [Cond.fieldLink RX3 35 "Tollgate$Journal" "entryOf" "[I", Cond.fieldLink RX3 38 "Tollgate$Journal" "account" "[I", Cond.fieldLink RX3 41 "Tollgate$Journal" "amount" "[J", Cond.fieldLink RX3 45 "Tollgate$Journal" "worth" "[J", Cond.fieldLink RX3 48 "Tollgate$Journal" "legCount" "I", Cond.instanceMethod yX2_init, Cond.code yX2_init cX2_init 1 none, Cond.methodLink RX2 3 objectInit, Cond.fieldLink RX2 9 "Tollgate$Holds" "account" "[I", Cond.fieldLink RX2 15 "Tollgate$Holds" "amount" "[I", Cond.fieldLink RX2 18 "Tollgate$Holds" "lastDay" "[I", Cond.fieldLink RX2 21 "Tollgate$Holds" "isEnded" "[Z", Cond.fieldLink RX2 25 "Tollgate$Holds" "count" "I", Cond.instanceMethod yX5_init, Cond.code yX5_init cX5_init 1 none, Cond.methodLink RX5 3 objectInit, Cond.fieldLink RX5 9 "Tollgate$Lines" "account" "[I", Cond.fieldLink RX5 15 "Tollgate$Lines" "day" "[I", Cond.fieldLink RX5 18 "Tollgate$Lines" "amount" "[I", Cond.fieldLink RX5 21 "Tollgate$Lines" "byDay" "[I", Cond.fieldLink RX5 24 "Tollgate$Lines" "count" "I", Cond.methodLink RX7 46 yX6_init, Cond.instanceMethod yX6_init, Cond.code yX6_init cX6_init 4 none, Cond.methodLink RX6 3 objectInit, Cond.fieldLink RX6 9 "Tollgate$Matching" "lineOfLeg" "[I", Cond.fieldLink RX6 15 "Tollgate$Matching" "firstOfLine" "[I", Cond.fieldLink RX6 18 "Tollgate$Matching" "secondOfLine" "[I", Cond.fieldLink RX6 21 "Tollgate$Matching" "journal" "LTollgate$Journal;", Cond.fieldLink RX6 25 "Tollgate$Matching" "lines" "LTollgate$Lines;", Cond.methodLink RL 109 yX14_init, Cond.instanceMethod yX14_init, Cond.code yX14_init cX14_init 1 none, Cond.methodLink RX14 1 objectInit, Cond.fieldLink RX14 7 "TollgateModel" "rates" "[I", Cond.classLink RX14 13 RJx4a65c, Cond.instantiable RJx4a65c 3, Cond.initialized RJx4a65c, Cond.fieldLink RX14 16 "TollgateModel" "accounts" "Ljava/util/ArrayList;", Cond.fieldLink RX14 20 "TollgateModel" "entries" "Ljava/util/ArrayList;"]
def zw_3 : List Cond := [Cond.fieldLink RX14 23 "TollgateModel" "holds" "Ljava/util/ArrayList;", Cond.fieldLink RX14 26 "TollgateModel" "lines" "Ljava/util/ArrayList;", Cond.fieldLink RX14 29 "TollgateModel" "closings" "Ljava/util/ArrayList;", Cond.fieldLink RX14 32 "TollgateModel" "lockedAhead" "Ljava/util/ArrayList;", Cond.fieldLink RX14 35 "TollgateModel" "locked" "I", Cond.fieldLink RX14 39 "TollgateModel" "draft" "Ljava/util/ArrayList;", Cond.methodLink RX14 15 yJx4a65c_init_da8c8, Cond.instanceMethod yJx4a65c_init_da8c8, Cond.code yJx4a65c_init_da8c8 cJx4a65c_init_da8c8 1 none, Cond.fieldLink RJx4a65c 39 "java/util/ArrayList" "DEFAULTCAPACITY_EMPTY_ELEMENTDATA" "[Ljava/lang/Object;", Cond.fieldLink RJx4a65c 9 "java/util/ArrayList" "elementData" "[Ljava/lang/Object;", Cond.methodLink RJx4a65c 1 yJxc12de_init_da8c8, Cond.instanceMethod yJxc12de_init_da8c8, Cond.initialized RJxc12de, Cond.code yJxc12de_init_da8c8 cJxc12de_init_da8c8 1 none, Cond.fieldLink RJxc12de 7 "java/util/AbstractList" "modCount" "I", Cond.methodLink RJxc12de 1 yJxa1e45_init_da8c8, Cond.instanceMethod yJxa1e45_init_da8c8, Cond.initialized RJxa1e45, Cond.code yJxa1e45_init_da8c8 cJxa1e45_init_da8c8 1 none, Cond.methodLink RJxa1e45 1 objectInit, Cond.methodLink RL 110 yL_rate, Cond.static yL_rate, Cond.initialized RL, Cond.codeWith yL_rate cL_rate 5 (some .int) [(0, 10, 13, 13), (0, 10, 17, 15)], Cond.classLink RL 13 "java/lang/IllegalArgumentException", Cond.methodLink RL 7 yX7_rate, Cond.instanceMethod yX7_rate, Cond.selects RX7 yX7_rate yX7_rate, Cond.code yX7_rate cX7_rate 4 (some .int), Cond.classLink RX7 71 "java/lang/IllegalArgumentException", Cond.initialized "java/lang/IllegalArgumentException", Cond.classLink RX7 82 "java/lang/IllegalStateException", Cond.initialized "java/lang/IllegalStateException", Cond.constant RX7 70 (100000), Cond.fieldLink RX7 87 "Tollgate$Accounts" "rates" "[I", Cond.methodLink RX7 78 yX0_anyIn, Cond.instanceMethod yX0_anyIn, Cond.selects RX0 yX0_anyIn yX0_anyIn, Cond.code yX0_anyIn cX0_anyIn 3 (some .boolean)]
def zw_4 : List Cond := [Cond.methodLink RL 115 yX14_rate, Cond.instanceMethod yX14_rate, Cond.selects RX14 yX14_rate yX14_rate, Cond.code yX14_rate cX14_rate 5 (some .int), Cond.constant RX14 149 (100000), Cond.methodLink RX14 53 yX14_isIn, Cond.static yX14_isIn, Cond.code yX14_isIn cX14_isIn 3 (some .boolean), Cond.methodLink RX14 61 yX14_start, Cond.instanceMethod yX14_start, Cond.selects RX14 yX14_start yX14_start, Cond.code yX14_start cX14_start 3 (some .boolean), Cond.fieldLink RX14 42 "TollgateModel" "thrown" "I", Cond.methodLink RX14 45 yX14_refuse, Cond.instanceMethod yX14_refuse, Cond.selects RX14 yX14_refuse yX14_refuse, Cond.code yX14_refuse cX14_refuse 3 (some .boolean), Cond.methodLink RX14 49 yJx4a65c_size_8abf5, Cond.instanceMethod yJx4a65c_size_8abf5, Cond.selects RJx4a65c yJx4a65c_size_8abf5 yJx4a65c_size_8abf5, Cond.code yJx4a65c_size_8abf5 cJx4a65c_size_8abf5 1 (some .int), Cond.fieldLink RJx4a65c 48 "java/util/ArrayList" "size" "I", Cond.methodLink RL 116 yX14_thrown, Cond.instanceMethod yX14_thrown, Cond.selects RX14 yX14_thrown yX14_thrown, Cond.code yX14_thrown cX14_thrown 1 (some .int), Cond.methodLink RL 119 yL_account, Cond.static yL_account, Cond.codeWith yL_account cL_account 5 (some .int) [(0, 10, 13, 13), (0, 10, 17, 15)], Cond.methodLink RL 17 yX7_account, Cond.instanceMethod yX7_account, Cond.selects RX7 yX7_account yX7_account, Cond.code yX7_account cX7_account 3 (some .int), Cond.fieldLink RX7 93 "Tollgate$Accounts" "count" "I", Cond.methodLink RX7 98 yX0_add, Cond.instanceMethod yX0_add, Cond.selects RX0 yX0_add yX0_add, Cond.code yX0_add cX0_add 3 (some .int), Cond.methodLink RL 121 yX14_account, Cond.instanceMethod yX14_account]
def zw_5 : List Cond := [Cond.selects RX14 yX14_account yX14_account, Cond.code yX14_account cX14_account 3 (some .int), Cond.classLink RX14 85 RX8, Cond.instantiable RX8 5, Cond.initialized RX8, Cond.methodLink RX14 150 yX8_init, Cond.instanceMethod yX8_init, Cond.code yX8_init cX8_init 4 none, Cond.methodLink RX8 3 objectInit, Cond.fieldLink RX8 9 "TollgateModel$Account" "number" "I", Cond.fieldLink RX8 15 "TollgateModel$Account" "kind" "I", Cond.fieldLink RX8 18 "TollgateModel$Account" "currency" "I", Cond.methodLink RX14 153 yJx4a65c_add_9ea2d, Cond.instanceMethod yJx4a65c_add_9ea2d, Cond.selects RJx4a65c yJx4a65c_add_9ea2d yJx4a65c_add_9ea2d, Cond.code yJx4a65c_add_9ea2d cJx4a65c_add_9ea2d 2 (some .boolean), Cond.fieldLink RJx4a65c 63 "java/util/ArrayList" "modCount" "I", Cond.methodLink RJx4a65c 131 yJx4a65c_add_72be8, Cond.instanceMethod yJx4a65c_add_72be8, Cond.selects RJx4a65c yJx4a65c_add_72be8 yJx4a65c_add_72be8, Cond.code yJx4a65c_add_72be8 cJx4a65c_add_72be8 4 none, Cond.methodLink RJx4a65c 129 yJx4a65c_grow_d5877, Cond.instanceMethod yJx4a65c_grow_d5877, Cond.selects RJx4a65c yJx4a65c_grow_d5877 yJx4a65c_grow_d5877, Cond.code yJx4a65c_grow_d5877 cJx4a65c_grow_d5877 1 (some (.array (.object "java/lang/Object"))), Cond.methodLink RJx4a65c 69 yJx4a65c_grow_92f84, Cond.instanceMethod yJx4a65c_grow_92f84, Cond.selects RJx4a65c yJx4a65c_grow_92f84 yJx4a65c_grow_92f84, Cond.code yJx4a65c_grow_92f84 cJx4a65c_grow_92f84 4 (some (.array (.object "java/lang/Object"))), Cond.methodLink RJx4a65c 79 Lib.Math.max.name, Cond.static Lib.Math.max.name, Cond.initialized "java/lang/Math", Cond.code Lib.Math.max.name Lib.Math.max.code 2 (some .int), Cond.classLink RJx4a65c 7 "java/lang/Object", Cond.methodLink RL 122 yL_floor, Cond.static yL_floor, Cond.codeWith yL_floor cL_floor 5 (some .int) [(0, 9, 12, 24), (0, 9, 16, 13), (0, 9, 20, 15)], Cond.classLink RL 24 "java/lang/IndexOutOfBoundsException", Cond.methodLink RL 20 yX7_floor, Cond.instanceMethod yX7_floor]
def zw_6 : List Cond := [Cond.selects RX7 yX7_floor yX7_floor, Cond.code yX7_floor cX7_floor 5 (some .long), Cond.methodLink RX7 102 yX7_needAccount, Cond.instanceMethod yX7_needAccount, Cond.selects RX7 yX7_needAccount yX7_needAccount, Cond.code yX7_needAccount cX7_needAccount 2 none, Cond.classLink RX7 194 "java/lang/IndexOutOfBoundsException", Cond.initialized "java/lang/IndexOutOfBoundsException", Cond.methodLink RL 124 yX14_floor, Cond.instanceMethod yX14_floor, Cond.selects RX14 yX14_floor yX14_floor, Cond.code yX14_floor cX14_floor 4 (some .long), Cond.fieldLink RX14 143 "TollgateModel" "today" "I", Cond.methodLink RX14 157 yX14_isNoAccount, Cond.instanceMethod yX14_isNoAccount, Cond.selects RX14 yX14_isNoAccount yX14_isNoAccount, Cond.code yX14_isNoAccount cX14_isNoAccount 2 (some .boolean), Cond.methodLink RX14 57 yX14_isNo, Cond.instanceMethod yX14_isNo, Cond.selects RX14 yX14_isNo yX14_isNo, Cond.code yX14_isNo cX14_isNo 2 (some .boolean), Cond.methodLink RL 125 yL_exchange, Cond.static yL_exchange, Cond.codeWith yL_exchange cL_exchange 4 (some .int) [(0, 9, 12, 24), (0, 9, 15, 13)], Cond.methodLink RL 26 yX7_exchange, Cond.instanceMethod yX7_exchange, Cond.selects RX7 yX7_exchange yX7_exchange, Cond.code yX7_exchange cX7_exchange 3 (some .int), Cond.methodLink RL 128 yX14_exchange, Cond.instanceMethod yX14_exchange, Cond.selects RX14 yX14_exchange yX14_exchange, Cond.code yX14_exchange cX14_exchange 3 (some .int), Cond.methodLink RL 129 yL_pass, Cond.static yL_pass, Cond.codeWith yL_pass cL_pass 4 (some .int) [(0, 9, 12, 13)], Cond.methodLink RL 30 yX7_pass, Cond.instanceMethod yX7_pass, Cond.selects RX7 yX7_pass yX7_pass, Cond.code yX7_pass cX7_pass 2 (some .int), Cond.methodLink RL 131 yX14_pass]
def zw_7 : List Cond := [Cond.instanceMethod yX14_pass, Cond.selects RX14 yX14_pass yX14_pass, Cond.code yX14_pass cX14_pass 2 (some .int), Cond.methodLink RL 132 yL_draft, Cond.static yL_draft, Cond.codeWith yL_draft cL_draft 5 (some .int) [(0, 10, 13, 13)], Cond.methodLink RL 33 yX7_draft, Cond.instanceMethod yX7_draft, Cond.selects RX7 yX7_draft yX7_draft, Cond.code yX7_draft cX7_draft 4 (some .int), Cond.fieldLink RX7 138 "Tollgate$Draft" "legs" "LTollgate$LegRow;", Cond.fieldLink RX7 141 "Tollgate$LegRow" "count" "I", Cond.methodLink RX7 133 yX7_needDay, Cond.static yX7_needDay, Cond.code yX7_needDay cX7_needDay 1 none, Cond.methodLink RX7 142 yX1_begin, Cond.instanceMethod yX1_begin, Cond.selects RX1 yX1_begin yX1_begin, Cond.code yX1_begin cX1_begin 3 none, Cond.fieldLink RX1 27 "Tollgate$LegRow" "count" "I", Cond.methodLink RL 134 yX14_draft, Cond.instanceMethod yX14_draft, Cond.selects RX14 yX14_draft yX14_draft, Cond.code yX14_draft cX14_draft 4 (some .int), Cond.fieldLink RX14 167 "TollgateModel" "hasDraft" "Z", Cond.fieldLink RX14 170 "TollgateModel" "draftDay" "I", Cond.fieldLink RX14 173 "TollgateModel" "draftNote" "I", Cond.methodLink RL 135 yL_leg, Cond.static yL_leg, Cond.codeWith yL_leg cL_leg 5 (some .int) [(0, 9, 12, 24), (0, 9, 16, 13), (0, 9, 20, 15)], Cond.methodLink RL 36 yX7_leg, Cond.instanceMethod yX7_leg, Cond.selects RX7 yX7_leg yX7_leg, Cond.code yX7_leg cX7_leg 3 (some .long), Cond.fieldLink RX7 149 "Tollgate$Draft" "isThere" "Z", Cond.methodLink RX7 162 yX4_worthSum, Cond.instanceMethod yX4_worthSum, Cond.selects RX4 yX4_worthSum yX4_worthSum, Cond.code yX4_worthSum cX4_worthSum 4 (some .long), Cond.methodLink RL 137 yX14_leg]
def zw_8 : List Cond := [Cond.instanceMethod yX14_leg, Cond.selects RX14 yX14_leg yX14_leg, Cond.code yX14_leg cX14_leg 3 (some .long), Cond.methodLink RX14 184 yX14_worths, Cond.instanceMethod yX14_worths, Cond.selects RX14 yX14_worths yX14_worths, Cond.code yX14_worths cX14_worths 5 (some .long), Cond.methodLink RL 138 yL_post, Cond.static yL_post, Cond.codeWith yL_post cL_post 3 (some .int) [(0, 8, 11, 15)], Cond.classLink RL 15 "java/lang/IllegalStateException", Cond.methodLink RL 39 yX7_post, Cond.instanceMethod yX7_post, Cond.selects RX7 yX7_post yX7_post, Cond.code yX7_post cX7_post 2 (some .int), Cond.methodLink RX7 166 yX7_whyNotPosted, Cond.instanceMethod yX7_whyNotPosted, Cond.selects RX7 yX7_whyNotPosted yX7_whyNotPosted, Cond.code yX7_whyNotPosted cX7_whyNotPosted 1 (some .int), Cond.methodLink RX7 277 yX3_lastLocked, Cond.instanceMethod yX3_lastLocked, Cond.selects RX3 yX3_lastLocked yX3_lastLocked, Cond.code yX3_lastLocked cX3_lastLocked 2 (some .int), Cond.methodLink RX3 65 yX3_lastClosing, Cond.instanceMethod yX3_lastClosing, Cond.selects RX3 yX3_lastClosing yX3_lastClosing, Cond.code yX3_lastClosing cX3_lastClosing 2 (some .int), Cond.methodLink RL 141 yX14_post, Cond.instanceMethod yX14_post, Cond.selects RX14 yX14_post yX14_post, Cond.code yX14_post cX14_post 2 (some .int), Cond.methodLink RX14 203 yX14_reasonNow, Cond.instanceMethod yX14_reasonNow, Cond.selects RX14 yX14_reasonNow yX14_reasonNow, Cond.code yX14_reasonNow cX14_reasonNow 3 (some .int), Cond.methodLink RL 142 yX7_reason, Cond.instanceMethod yX7_reason, Cond.selects RX7 yX7_reason yX7_reason, Cond.code yX7_reason cX7_reason 1 (some .int), Cond.methodLink RL 145 yX14_reason]
def zw_9 : List Cond := [Cond.instanceMethod yX14_reason, Cond.selects RX14 yX14_reason yX14_reason, Cond.code yX14_reason cX14_reason 1 (some .int), Cond.methodLink RL 146 yL_turnBack, Cond.static yL_turnBack, Cond.codeWith yL_turnBack cL_turnBack 4 (some .int) [(0, 9, 12, 24), (0, 9, 15, 15)], Cond.methodLink RL 43 yX7_turnBack, Cond.instanceMethod yX7_turnBack, Cond.selects RX7 yX7_turnBack yX7_turnBack, Cond.code yX7_turnBack cX7_turnBack 2 (some .int), Cond.methodLink RX7 188 yX3_has, Cond.instanceMethod yX3_has, Cond.selects RX3 yX3_has yX3_has, Cond.code yX3_has cX3_has 2 (some .boolean), Cond.methodLink RL 148 yX14_turnBack, Cond.instanceMethod yX14_turnBack, Cond.selects RX14 yX14_turnBack yX14_turnBack, Cond.code yX14_turnBack cX14_turnBack 5 (some .int), Cond.methodLink RX14 213 yX14_isNoEntry, Cond.instanceMethod yX14_isNoEntry, Cond.selects RX14 yX14_isNoEntry yX14_isNoEntry, Cond.code yX14_isNoEntry cX14_isNoEntry 2 (some .boolean), Cond.methodLink RL 149 yL_ofEntry, Cond.static yL_ofEntry, Cond.codeWith yL_ofEntry cL_ofEntry 5 (some .int) [(0, 10, 13, 24), (0, 10, 17, 13)], Cond.methodLink RL 46 yX7_ofEntry, Cond.instanceMethod yX7_ofEntry, Cond.selects RX7 yX7_ofEntry yX7_ofEntry, Cond.code yX7_ofEntry cX7_ofEntry 3 (some .int), Cond.methodLink RX7 212 yX7_needEntry, Cond.instanceMethod yX7_needEntry, Cond.selects RX7 yX7_needEntry yX7_needEntry, Cond.code yX7_needEntry cX7_needEntry 2 none, Cond.methodLink RL 151 yX14_ofEntry, Cond.instanceMethod yX14_ofEntry, Cond.selects RX14 yX14_ofEntry yX14_ofEntry, Cond.code yX14_ofEntry cX14_ofEntry 3 (some .int), Cond.methodLink RL 152 yL_ofLeg, Cond.static yL_ofLeg, Cond.codeWith yL_ofLeg cL_ofLeg 6 (some .int) [(0, 11, 14, 24), (0, 11, 18, 13)]]
def zw_10 : List Cond := [Cond.methodLink RL 49 yX7_ofLeg, Cond.instanceMethod yX7_ofLeg, Cond.selects RX7 yX7_ofLeg yX7_ofLeg, Cond.code yX7_ofLeg cX7_ofLeg 5 (some .long), Cond.methodLink RL 155 yX14_ofLeg, Cond.instanceMethod yX14_ofLeg, Cond.selects RX14 yX14_ofLeg yX14_ofLeg, Cond.code yX14_ofLeg cX14_ofLeg 4 (some .long), Cond.methodLink RL 156 yL_hold, Cond.static yL_hold, Cond.codeWith yL_hold cL_hold 6 (some .int) [(0, 12, 15, 24), (0, 12, 19, 13), (0, 12, 23, 15)], Cond.methodLink RL 53 yX7_hold, Cond.instanceMethod yX7_hold, Cond.selects RX7 yX7_hold yX7_hold, Cond.code yX7_hold cX7_hold 4 (some .int), Cond.fieldLink RX7 245 "Tollgate$Holds" "count" "I", Cond.methodLink RL 158 yX14_hold, Cond.instanceMethod yX14_hold, Cond.selects RX14 yX14_hold yX14_hold, Cond.code yX14_hold cX14_hold 5 (some .int), Cond.methodLink RL 159 yL_take, Cond.static yL_take, Cond.codeWith yL_take cL_take 6 (some .int) [(0, 12, 15, 24), (0, 12, 19, 13), (0, 12, 23, 15)], Cond.methodLink RL 57 yX7_take, Cond.instanceMethod yX7_take, Cond.selects RX7 yX7_take yX7_take, Cond.code yX7_take cX7_take 5 (some .int), Cond.methodLink RX7 257 yX7_needHold, Cond.instanceMethod yX7_needHold, Cond.selects RX7 yX7_needHold yX7_needHold, Cond.code yX7_needHold cX7_needHold 2 none, Cond.methodLink RL 161 yX14_take, Cond.instanceMethod yX14_take, Cond.selects RX14 yX14_take yX14_take, Cond.code yX14_take cX14_take 7 (some .int), Cond.methodLink RX14 244 yX14_isNoHold, Cond.instanceMethod yX14_isNoHold, Cond.selects RX14 yX14_isNoHold yX14_isNoHold, Cond.code yX14_isNoHold cX14_isNoHold 2 (some .boolean), Cond.methodLink RL 162 yL_letGo]
def zw_11 : List Cond := [Cond.static yL_letGo, Cond.codeWith yL_letGo cL_letGo 4 (some .int) [(0, 9, 12, 24), (0, 9, 15, 15)], Cond.methodLink RL 60 yX7_letGo, Cond.instanceMethod yX7_letGo, Cond.selects RX7 yX7_letGo yX7_letGo, Cond.code yX7_letGo cX7_letGo 2 (some .int), Cond.methodLink RL 164 yX14_letGo, Cond.instanceMethod yX14_letGo, Cond.selects RX14 yX14_letGo yX14_letGo, Cond.code yX14_letGo cX14_letGo 2 (some .int), Cond.methodLink RL 165 yL_close, Cond.static yL_close, Cond.codeWith yL_close cL_close 5 (some .int) [(0, 10, 13, 24), (0, 10, 17, 13), (0, 10, 21, 15)], Cond.methodLink RL 63 yX7_close, Cond.instanceMethod yX7_close, Cond.selects RX7 yX7_close yX7_close, Cond.code yX7_close cX7_close 5 (some .int), Cond.methodLink RX7 286 yX7_planClosing, Cond.instanceMethod yX7_planClosing, Cond.selects RX7 yX7_planClosing yX7_planClosing, Cond.code yX7_planClosing cX7_planClosing 5 none, Cond.methodLink RL 167 yX14_close, Cond.instanceMethod yX14_close, Cond.selects RX14 yX14_close yX14_close, Cond.code yX14_close cX14_close 8 (some .int), Cond.methodLink RX14 253 yX14_results, Cond.instanceMethod yX14_results, Cond.selects RX14 yX14_results yX14_results, Cond.code yX14_results cX14_results 6 (some (.object "java/util/ArrayList")), Cond.methodLink RL 168 yL_open, Cond.static yL_open, Cond.codeWith yL_open cL_open 3 (some .int) [(0, 8, 11, 15)], Cond.methodLink RL 66 yX7_open, Cond.instanceMethod yX7_open, Cond.selects RX7 yX7_open yX7_open, Cond.code yX7_open cX7_open 2 (some .int), Cond.methodLink RX7 293 yX3_lastClosing, Cond.methodLink RL 170 yX14_open, Cond.instanceMethod yX14_open, Cond.selects RX14 yX14_open yX14_open]
def zw_12 : List Cond := [Cond.code yX14_open cX14_open 3 (some .int), Cond.methodLink RX14 263 yJx4a65c_isEmpty_aae02, Cond.instanceMethod yJx4a65c_isEmpty_aae02, Cond.selects RJx4a65c yJx4a65c_isEmpty_aae02 yJx4a65c_isEmpty_aae02, Cond.code yJx4a65c_isEmpty_aae02 cJx4a65c_isEmpty_aae02 1 (some .boolean), Cond.methodLink RL 171 yL_line, Cond.static yL_line, Cond.codeWith yL_line cL_line 6 (some .int) [(0, 12, 15, 24), (0, 12, 19, 13), (0, 12, 23, 15)], Cond.methodLink RL 69 yX7_line, Cond.instanceMethod yX7_line, Cond.selects RX7 yX7_line yX7_line, Cond.code yX7_line cX7_line 4 (some .int), Cond.fieldLink RX7 301 "Tollgate$Lines" "count" "I", Cond.methodLink RL 173 yX14_line, Cond.instanceMethod yX14_line, Cond.selects RX14 yX14_line yX14_line, Cond.code yX14_line cX14_line 4 (some .int), Cond.methodLink RL 174 yL_match, Cond.static yL_match, Cond.codeWith yL_match cL_match 5 (some .int) [(0, 10, 13, 24), (0, 10, 17, 13)], Cond.methodLink RL 72 yX7_match, Cond.instanceMethod yX7_match, Cond.selects RX7 yX7_match yX7_match, Cond.code yX7_match cX7_match 3 (some .int), Cond.methodLink RL 176 yX14_match, Cond.instanceMethod yX14_match, Cond.selects RX14 yX14_match yX14_match, Cond.code yX14_match cX14_match 7 (some .int), Cond.methodLink RL 177 yL_left, Cond.static yL_left, Cond.codeWith yL_left cL_left 5 (some .int) [(0, 9, 12, 24), (0, 9, 16, 13)], Cond.methodLink RL 75 yX7_left, Cond.instanceMethod yX7_left, Cond.selects RX7 yX7_left yX7_left, Cond.code yX7_left cX7_left 3 (some .long), Cond.methodLink RL 179 yX14_left, Cond.instanceMethod yX14_left, Cond.selects RX14 yX14_left yX14_left, Cond.code yX14_left cX14_left 3 (some .long), Cond.methodLink RL 180 yL_matched]
def zw_13 : List Cond := [Cond.static yL_matched, Cond.codeWith yL_matched cL_matched 4 (some .int) [(0, 9, 12, 24)], Cond.methodLink RL 78 yX7_matched, Cond.instanceMethod yX7_matched, Cond.selects RX7 yX7_matched yX7_matched, Cond.code yX7_matched cX7_matched 3 (some .int), Cond.methodLink RL 182 yX14_matched_, Cond.instanceMethod yX14_matched_, Cond.selects RX14 yX14_matched_ yX14_matched_, Cond.code yX14_matched_ cX14_matched_ 2 (some .int), Cond.methodLink RL 183 yL_many, Cond.static yL_many, Cond.codeWith yL_many cL_many 4 (some .int) [(0, 9, 12, 13)], Cond.methodLink RL 81 yX7_many, Cond.instanceMethod yX7_many, Cond.selects RX7 yX7_many yX7_many, Cond.code yX7_many cX7_many 2 (some .int), Cond.methodLink RX7 337 yX3_countStanding, Cond.instanceMethod yX3_countStanding, Cond.selects RX3 yX3_countStanding yX3_countStanding, Cond.code yX3_countStanding cX3_countStanding 3 (some .int), Cond.methodLink RX7 340 yX2_countOpen, Cond.instanceMethod yX2_countOpen, Cond.selects RX2 yX2_countOpen yX2_countOpen, Cond.code yX2_countOpen cX2_countOpen 4 (some .int), Cond.methodLink RL 185 yX14_many, Cond.instanceMethod yX14_many, Cond.selects RX14 yX14_many yX14_many, Cond.code yX14_many cX14_many 2 (some .int), Cond.methodLink RX14 333 yX14_count, Cond.instanceMethod yX14_count, Cond.selects RX14 yX14_count yX14_count, Cond.code yX14_count cX14_count 5 (some .int), Cond.methodLink RL 186 yL_told, Cond.static yL_told, Cond.codeWith yL_told cL_told 5 (some .int) [(0, 9, 12, 24), (0, 9, 16, 13)], Cond.methodLink RL 84 yX7_told, Cond.instanceMethod yX7_told, Cond.selects RX7 yX7_told yX7_told, Cond.code yX7_told cX7_told 3 (some .long)]
def zw_14 : List Cond := [Cond.methodLink RL 188 yX14_told, Cond.instanceMethod yX14_told, Cond.selects RX14 yX14_told yX14_told, Cond.code yX14_told cX14_told 3 (some .long), Cond.methodLink RL 189 yL_at, Cond.static yL_at, Cond.codeWith yL_at cL_at 5 (some .int) [(0, 9, 12, 24), (0, 9, 16, 13)], Cond.methodLink RL 87 yX7_at, Cond.instanceMethod yX7_at, Cond.selects RX7 yX7_at yX7_at, Cond.code yX7_at cX7_at 3 (some .long), Cond.methodLink RL 191 yX14_at, Cond.instanceMethod yX14_at, Cond.selects RX14 yX14_at yX14_at, Cond.code yX14_at cX14_at 3 (some .long), Cond.methodLink RX14 342 yX14_isNoDay, Cond.static yX14_isNoDay, Cond.code yX14_isNoDay cX14_isNoDay 1 (some .boolean), Cond.methodLink RL 192 yL_ofKind, Cond.static yL_ofKind, Cond.codeWith yL_ofKind cL_ofKind 4 (some .int) [(0, 8, 11, 13)], Cond.methodLink RL 90 yX7_ofKind, Cond.instanceMethod yX7_ofKind, Cond.selects RX7 yX7_ofKind yX7_ofKind, Cond.code yX7_ofKind cX7_ofKind 5 (some .long), Cond.methodLink RL 194 yX14_ofKind, Cond.instanceMethod yX14_ofKind, Cond.selects RX14 yX14_ofKind yX14_ofKind, Cond.code yX14_ofKind cX14_ofKind 2 (some .long), Cond.methodLink RX14 345 yX14_ofKindNow, Cond.instanceMethod yX14_ofKindNow, Cond.selects RX14 yX14_ofKindNow yX14_ofKindNow, Cond.code yX14_ofKindNow cX14_ofKindNow 5 (some .long), Cond.methodLink RL 195 yL_earned, Cond.static yL_earned, Cond.codeWith yL_earned cL_earned 5 (some .int) [(0, 9, 12, 13)], Cond.methodLink RL 94 yX7_earned, Cond.instanceMethod yX7_earned, Cond.selects RX7 yX7_earned yX7_earned, Cond.code yX7_earned cX7_earned 6 (some .long)]
def zw_15 : List Cond := [Cond.methodLink RL 197 yX14_earned, Cond.instanceMethod yX14_earned, Cond.selects RX14 yX14_earned yX14_earned, Cond.code yX14_earned cX14_earned 8 (some .long), Cond.methodLink RL 198 yL_hadOn, Cond.static yL_hadOn, Cond.codeWith yL_hadOn cL_hadOn 5 (some .int) [(0, 9, 12, 24), (0, 9, 16, 13)], Cond.methodLink RL 97 yX7_hadOn, Cond.instanceMethod yX7_hadOn, Cond.selects RX7 yX7_hadOn yX7_hadOn, Cond.code yX7_hadOn cX7_hadOn 3 (some .long), Cond.methodLink RL 200 yX14_hadOn, Cond.instanceMethod yX14_hadOn, Cond.selects RX14 yX14_hadOn yX14_hadOn, Cond.code yX14_hadOn cX14_hadOn 3 (some .long), Cond.methodLink RL 201 yL_wouldMatch, Cond.static yL_wouldMatch, Cond.codeWith yL_wouldMatch cL_wouldMatch 5 (some .int) [(0, 10, 13, 24), (0, 10, 17, 13)], Cond.methodLink RL 100 yX7_wouldMatch, Cond.instanceMethod yX7_wouldMatch, Cond.selects RX7 yX7_wouldMatch yX7_wouldMatch, Cond.code yX7_wouldMatch cX7_wouldMatch 3 (some .int), Cond.methodLink RL 203 yX14_wouldMatch, Cond.instanceMethod yX14_wouldMatch, Cond.selects RX14 yX14_wouldMatch yX14_wouldMatch, Cond.code yX14_wouldMatch cX14_wouldMatch 3 (some .int), Cond.methodLink RL 204 yL_wouldClose, Cond.static yL_wouldClose, Cond.codeWith yL_wouldClose cL_wouldClose 4 (some .int) [(0, 8, 11, 13)], Cond.methodLink RL 103 yX7_wouldClose, Cond.instanceMethod yX7_wouldClose, Cond.selects RX7 yX7_wouldClose yX7_wouldClose, Cond.code yX7_wouldClose cX7_wouldClose 2 (some .long), Cond.methodLink RL 206 yX14_wouldClose, Cond.instanceMethod yX14_wouldClose, Cond.selects RX14 yX14_wouldClose yX14_wouldClose, Cond.code yX14_wouldClose cX14_wouldClose 2 (some .long), Cond.methodLink RL 207 yX7_meanLegs, Cond.instanceMethod yX7_meanLegs, Cond.selects RX7 yX7_meanLegs yX7_meanLegs]
def zw_16 : List Cond := [Cond.code yX7_meanLegs cX7_meanLegs 2 (some .double), Cond.methodLink RL 211 yX14_meanLegs, Cond.instanceMethod yX14_meanLegs, Cond.selects RX14 yX14_meanLegs yX14_meanLegs, Cond.code yX14_meanLegs cX14_meanLegs 3 (some .double), Cond.methodLink RL 212 yX7_digest, Cond.instanceMethod yX7_digest, Cond.selects RX7 yX7_digest yX7_digest, Cond.code yX7_digest cX7_digest 4 (some .long), Cond.constantLong RX7 364 (58089), Cond.fieldLink RX7 377 "Tollgate$Journal" "count" "I", Cond.methodLink RX7 366 yX7_many, Cond.methodLink RX7 369 yX7_mix, Cond.static yX7_mix, Cond.code yX7_mix cX7_mix 4 (some .long), Cond.constantLong RX7 390 (31), Cond.methodLink RX7 384 yX7_ofKind, Cond.methodLink RX7 387 yX7_wouldClose, Cond.methodLink RL 216 yX14_digest, Cond.instanceMethod yX14_digest, Cond.selects RX14 yX14_digest yX14_digest, Cond.code yX14_digest cX14_digest 7 (some .long), Cond.constantLong RX14 355 (58089), Cond.methodLink RX14 357 yX14_add, Cond.static yX14_add, Cond.code yX14_add cX14_add 4 (some .long), Cond.constantLong RX14 353 (31)]
def zwall : List Cond := zw_0 ++ (zw_1 ++ (zw_2 ++ (zw_3 ++ (zw_4 ++ (zw_5 ++ (zw_6 ++ (zw_7 ++ (zw_8 ++ (zw_9 ++ (zw_10 ++ (zw_11 ++ (zw_12 ++ (zw_13 ++ (zw_14 ++ (zw_15 ++ (zw_16))))))))))))))))
abbrev WALL : List Cond := (((((((((((((zwall ++ wsX00) ++ wsX10) ++ wsX20) ++ wsX30) ++ wsX40) ++ wsX50) ++ wsX60) ++ wsX70) ++ wsX80) ++ wsX140) ++ wsJx4a65c0) ++ (vx_atS RX7 75 "java/lang/IllegalArgumentException" ["java/lang/RuntimeException", "java/lang/Exception"]).filter goodWord) ++ (vx_atS RX7 86 "java/lang/IllegalStateException" ["java/lang/RuntimeException", "java/lang/Exception"]).filter goodWord) ++ (vx_atS RX7 198 "java/lang/IndexOutOfBoundsException" ["java/lang/RuntimeException", "java/lang/Exception"]).filter goodWord
theorem iwX0 : ∀ w ∈ wsX00, w ∈ WALL := fun _ h => List.mem_append_left _ (List.mem_append_left _ (List.mem_append_left _ (List.mem_append_left _ (List.mem_append_left _ (List.mem_append_left _ (List.mem_append_left _ (List.mem_append_left _ (List.mem_append_left _ (List.mem_append_left _ (List.mem_append_left _ (List.mem_append_left _ (List.mem_append_left _ (List.mem_append_right _ h)))))))))))))
theorem iwX1 : ∀ w ∈ wsX10, w ∈ WALL := fun _ h => List.mem_append_left _ (List.mem_append_left _ (List.mem_append_left _ (List.mem_append_left _ (List.mem_append_left _ (List.mem_append_left _ (List.mem_append_left _ (List.mem_append_left _ (List.mem_append_left _ (List.mem_append_left _ (List.mem_append_left _ (List.mem_append_left _ (List.mem_append_right _ h))))))))))))
theorem iwX2 : ∀ w ∈ wsX20, w ∈ WALL := fun _ h => List.mem_append_left _ (List.mem_append_left _ (List.mem_append_left _ (List.mem_append_left _ (List.mem_append_left _ (List.mem_append_left _ (List.mem_append_left _ (List.mem_append_left _ (List.mem_append_left _ (List.mem_append_left _ (List.mem_append_left _ (List.mem_append_right _ h)))))))))))
theorem iwX3 : ∀ w ∈ wsX30, w ∈ WALL := fun _ h => List.mem_append_left _ (List.mem_append_left _ (List.mem_append_left _ (List.mem_append_left _ (List.mem_append_left _ (List.mem_append_left _ (List.mem_append_left _ (List.mem_append_left _ (List.mem_append_left _ (List.mem_append_left _ (List.mem_append_right _ h))))))))))
theorem iwX4 : ∀ w ∈ wsX40, w ∈ WALL := fun _ h => List.mem_append_left _ (List.mem_append_left _ (List.mem_append_left _ (List.mem_append_left _ (List.mem_append_left _ (List.mem_append_left _ (List.mem_append_left _ (List.mem_append_left _ (List.mem_append_left _ (List.mem_append_right _ h)))))))))
theorem iwX5 : ∀ w ∈ wsX50, w ∈ WALL := fun _ h => List.mem_append_left _ (List.mem_append_left _ (List.mem_append_left _ (List.mem_append_left _ (List.mem_append_left _ (List.mem_append_left _ (List.mem_append_left _ (List.mem_append_left _ (List.mem_append_right _ h))))))))
theorem iwX6 : ∀ w ∈ wsX60, w ∈ WALL := fun _ h => List.mem_append_left _ (List.mem_append_left _ (List.mem_append_left _ (List.mem_append_left _ (List.mem_append_left _ (List.mem_append_left _ (List.mem_append_left _ (List.mem_append_right _ h)))))))
theorem iwX7 : ∀ w ∈ wsX70, w ∈ WALL := fun _ h => List.mem_append_left _ (List.mem_append_left _ (List.mem_append_left _ (List.mem_append_left _ (List.mem_append_left _ (List.mem_append_left _ (List.mem_append_right _ h))))))
theorem iwX8 : ∀ w ∈ wsX80, w ∈ WALL := fun _ h => List.mem_append_left _ (List.mem_append_left _ (List.mem_append_left _ (List.mem_append_left _ (List.mem_append_left _ (List.mem_append_right _ h)))))
theorem iwX14 : ∀ w ∈ wsX140, w ∈ WALL := fun _ h => List.mem_append_left _ (List.mem_append_left _ (List.mem_append_left _ (List.mem_append_left _ (List.mem_append_right _ h))))
theorem iwJA : ∀ w ∈ wsJx4a65c0, w ∈ WALL := fun _ h => List.mem_append_left _ (List.mem_append_left _ (List.mem_append_left _ (List.mem_append_right _ h)))
theorem zwin : ∀ w ∈ zwall, w ∈ WALL := fun _ h => List.mem_append_left _ (List.mem_append_left _ (List.mem_append_left _ (List.mem_append_left _ (List.mem_append_left _ (List.mem_append_left _ (List.mem_append_left _ (List.mem_append_left _ (List.mem_append_left _ (List.mem_append_left _ (List.mem_append_left _ (List.mem_append_left _ (List.mem_append_left _ (List.mem_append_left _ (h))))))))))))))
theorem zin_0 {w : Cond} (h : w ∈ zw_0) : w ∈ WALL := zwin w (List.mem_append_left _ h)
theorem zin_1 {w : Cond} (h : w ∈ zw_1) : w ∈ WALL := zwin w (List.mem_append_right _ (List.mem_append_left _ h))
theorem zin_2 {w : Cond} (h : w ∈ zw_2) : w ∈ WALL := zwin w (List.mem_append_right _ (List.mem_append_right _ (List.mem_append_left _ h)))
theorem zin_3 {w : Cond} (h : w ∈ zw_3) : w ∈ WALL := zwin w (List.mem_append_right _ (List.mem_append_right _ (List.mem_append_right _ (List.mem_append_left _ h))))
theorem zin_4 {w : Cond} (h : w ∈ zw_4) : w ∈ WALL := zwin w (List.mem_append_right _ (List.mem_append_right _ (List.mem_append_right _ (List.mem_append_right _ (List.mem_append_left _ h)))))
theorem zin_5 {w : Cond} (h : w ∈ zw_5) : w ∈ WALL := zwin w (List.mem_append_right _ (List.mem_append_right _ (List.mem_append_right _ (List.mem_append_right _ (List.mem_append_right _ (List.mem_append_left _ h))))))
theorem zin_6 {w : Cond} (h : w ∈ zw_6) : w ∈ WALL := zwin w (List.mem_append_right _ (List.mem_append_right _ (List.mem_append_right _ (List.mem_append_right _ (List.mem_append_right _ (List.mem_append_right _ (List.mem_append_left _ h)))))))
theorem zin_7 {w : Cond} (h : w ∈ zw_7) : w ∈ WALL := zwin w (List.mem_append_right _ (List.mem_append_right _ (List.mem_append_right _ (List.mem_append_right _ (List.mem_append_right _ (List.mem_append_right _ (List.mem_append_right _ (List.mem_append_left _ h))))))))
theorem zin_8 {w : Cond} (h : w ∈ zw_8) : w ∈ WALL := zwin w (List.mem_append_right _ (List.mem_append_right _ (List.mem_append_right _ (List.mem_append_right _ (List.mem_append_right _ (List.mem_append_right _ (List.mem_append_right _ (List.mem_append_right _ (List.mem_append_left _ h)))))))))
theorem zin_9 {w : Cond} (h : w ∈ zw_9) : w ∈ WALL := zwin w (List.mem_append_right _ (List.mem_append_right _ (List.mem_append_right _ (List.mem_append_right _ (List.mem_append_right _ (List.mem_append_right _ (List.mem_append_right _ (List.mem_append_right _ (List.mem_append_right _ (List.mem_append_left _ h))))))))))
theorem zin_10 {w : Cond} (h : w ∈ zw_10) : w ∈ WALL := zwin w (List.mem_append_right _ (List.mem_append_right _ (List.mem_append_right _ (List.mem_append_right _ (List.mem_append_right _ (List.mem_append_right _ (List.mem_append_right _ (List.mem_append_right _ (List.mem_append_right _ (List.mem_append_right _ (List.mem_append_left _ h)))))))))))
theorem zin_11 {w : Cond} (h : w ∈ zw_11) : w ∈ WALL := zwin w (List.mem_append_right _ (List.mem_append_right _ (List.mem_append_right _ (List.mem_append_right _ (List.mem_append_right _ (List.mem_append_right _ (List.mem_append_right _ (List.mem_append_right _ (List.mem_append_right _ (List.mem_append_right _ (List.mem_append_right _ (List.mem_append_left _ h))))))))))))
theorem zin_12 {w : Cond} (h : w ∈ zw_12) : w ∈ WALL := zwin w (List.mem_append_right _ (List.mem_append_right _ (List.mem_append_right _ (List.mem_append_right _ (List.mem_append_right _ (List.mem_append_right _ (List.mem_append_right _ (List.mem_append_right _ (List.mem_append_right _ (List.mem_append_right _ (List.mem_append_right _ (List.mem_append_right _ (List.mem_append_left _ h)))))))))))))
theorem zin_13 {w : Cond} (h : w ∈ zw_13) : w ∈ WALL := zwin w (List.mem_append_right _ (List.mem_append_right _ (List.mem_append_right _ (List.mem_append_right _ (List.mem_append_right _ (List.mem_append_right _ (List.mem_append_right _ (List.mem_append_right _ (List.mem_append_right _ (List.mem_append_right _ (List.mem_append_right _ (List.mem_append_right _ (List.mem_append_right _ (List.mem_append_left _ h))))))))))))))
theorem zin_14 {w : Cond} (h : w ∈ zw_14) : w ∈ WALL := zwin w (List.mem_append_right _ (List.mem_append_right _ (List.mem_append_right _ (List.mem_append_right _ (List.mem_append_right _ (List.mem_append_right _ (List.mem_append_right _ (List.mem_append_right _ (List.mem_append_right _ (List.mem_append_right _ (List.mem_append_right _ (List.mem_append_right _ (List.mem_append_right _ (List.mem_append_right _ (List.mem_append_left _ h)))))))))))))))
theorem zin_15 {w : Cond} (h : w ∈ zw_15) : w ∈ WALL := zwin w (List.mem_append_right _ (List.mem_append_right _ (List.mem_append_right _ (List.mem_append_right _ (List.mem_append_right _ (List.mem_append_right _ (List.mem_append_right _ (List.mem_append_right _ (List.mem_append_right _ (List.mem_append_right _ (List.mem_append_right _ (List.mem_append_right _ (List.mem_append_right _ (List.mem_append_right _ (List.mem_append_right _ (List.mem_append_left _ h))))))))))))))))
theorem zin_16 {w : Cond} (h : w ∈ zw_16) : w ∈ WALL := zwin w (List.mem_append_right _ (List.mem_append_right _ (List.mem_append_right _ (List.mem_append_right _ (List.mem_append_right _ (List.mem_append_right _ (List.mem_append_right _ (List.mem_append_right _ (List.mem_append_right _ (List.mem_append_right _ (List.mem_append_right _ (List.mem_append_right _ (List.mem_append_right _ (List.mem_append_right _ (List.mem_append_right _ (List.mem_append_right _ (h)))))))))))))))))
theorem w0 : Cond.classLink RL 8 RX7 ∈ WALL := zin_0 (List.mem_of_getElem? (i := 0) rfl)
theorem w1 : Cond.instantiable RX7 10 ∈ WALL := zin_0 (List.mem_of_getElem? (i := 1) rfl)
theorem w2 : Cond.initialized RX7 ∈ WALL := zin_0 (List.mem_of_getElem? (i := 2) rfl)
theorem w3 : Cond.classLink RL 107 RX14 ∈ WALL := zin_0 (List.mem_of_getElem? (i := 3) rfl)
theorem w4 : Cond.instantiable RX14 15 ∈ WALL := zin_0 (List.mem_of_getElem? (i := 4) rfl)
theorem w5 : Cond.initialized RX14 ∈ WALL := zin_0 (List.mem_of_getElem? (i := 5) rfl)
theorem w6 : Cond.arrayClass .long ∈ WALL := zin_0 (List.mem_of_getElem? (i := 6) rfl)
theorem w7 : Cond.methodLink RL 106 yX7_init ∈ WALL := zin_0 (List.mem_of_getElem? (i := 7) rfl)
theorem w8 : Cond.instanceMethod yX7_init ∈ WALL := zin_0 (List.mem_of_getElem? (i := 8) rfl)
theorem w9 : Cond.code yX7_init cX7_init 1 none ∈ WALL := zin_0 (List.mem_of_getElem? (i := 9) rfl)
theorem w10 : Cond.methodLink RX7 3 objectInit ∈ WALL := zin_0 (List.mem_of_getElem? (i := 10) rfl)
theorem w11 : Cond.instanceMethod objectInit ∈ WALL := zin_0 (List.mem_of_getElem? (i := 11) rfl)
theorem w12 : Cond.code objectInit ⟨#[0xb1]⟩ 1 none ∈ WALL := zin_0 (List.mem_of_getElem? (i := 12) rfl)
theorem w13 : Cond.classLink RX7 9 RX0 ∈ WALL := zin_0 (List.mem_of_getElem? (i := 13) rfl)
theorem w14 : Cond.instantiable RX0 6 ∈ WALL := zin_0 (List.mem_of_getElem? (i := 14) rfl)
theorem w15 : Cond.initialized RX0 ∈ WALL := zin_0 (List.mem_of_getElem? (i := 15) rfl)
theorem w16 : Cond.fieldLink RX7 12 "Tollgate" "accounts" "LTollgate$Accounts;" ∈ WALL := zin_0 (List.mem_of_getElem? (i := 16) rfl)
theorem w17 : Cond.classLink RX7 16 RX1 ∈ WALL := zin_0 (List.mem_of_getElem? (i := 17) rfl)
theorem w18 : Cond.instantiable RX1 4 ∈ WALL := zin_0 (List.mem_of_getElem? (i := 18) rfl)
theorem w19 : Cond.initialized RX1 ∈ WALL := zin_0 (List.mem_of_getElem? (i := 19) rfl)
theorem w20 : Cond.fieldLink RX7 19 "Tollgate" "draft" "LTollgate$Draft;" ∈ WALL := zin_0 (List.mem_of_getElem? (i := 20) rfl)
theorem w21 : Cond.classLink RX7 23 RX3 ∈ WALL := zin_0 (List.mem_of_getElem? (i := 21) rfl)
theorem w22 : Cond.instantiable RX3 12 ∈ WALL := zin_0 (List.mem_of_getElem? (i := 22) rfl)
theorem w23 : Cond.initialized RX3 ∈ WALL := zin_0 (List.mem_of_getElem? (i := 23) rfl)
theorem w24 : Cond.fieldLink RX7 26 "Tollgate" "journal" "LTollgate$Journal;" ∈ WALL := zin_0 (List.mem_of_getElem? (i := 24) rfl)
theorem w25 : Cond.classLink RX7 30 RX2 ∈ WALL := zin_0 (List.mem_of_getElem? (i := 25) rfl)
theorem w26 : Cond.instantiable RX2 5 ∈ WALL := zin_0 (List.mem_of_getElem? (i := 26) rfl)
theorem w27 : Cond.initialized RX2 ∈ WALL := zin_0 (List.mem_of_getElem? (i := 27) rfl)
theorem w28 : Cond.fieldLink RX7 33 "Tollgate" "holds" "LTollgate$Holds;" ∈ WALL := zin_0 (List.mem_of_getElem? (i := 28) rfl)
theorem w29 : Cond.classLink RX7 37 RX5 ∈ WALL := zin_0 (List.mem_of_getElem? (i := 29) rfl)
theorem w30 : Cond.instantiable RX5 5 ∈ WALL := zin_0 (List.mem_of_getElem? (i := 30) rfl)
theorem w31 : Cond.initialized RX5 ∈ WALL := zin_0 (List.mem_of_getElem? (i := 31) rfl)
theorem w32 : Cond.fieldLink RX7 40 "Tollgate" "lines" "LTollgate$Lines;" ∈ WALL := zin_0 (List.mem_of_getElem? (i := 32) rfl)
theorem w33 : Cond.classLink RX7 44 RX6 ∈ WALL := zin_0 (List.mem_of_getElem? (i := 33) rfl)
theorem w34 : Cond.instantiable RX6 5 ∈ WALL := zin_0 (List.mem_of_getElem? (i := 34) rfl)
theorem w35 : Cond.initialized RX6 ∈ WALL := zin_0 (List.mem_of_getElem? (i := 35) rfl)
theorem w36 : Cond.fieldLink RX7 49 "Tollgate" "kept" "LTollgate$Matching;" ∈ WALL := zin_0 (List.mem_of_getElem? (i := 36) rfl)
theorem w37 : Cond.fieldLink RX7 53 "Tollgate" "trial" "LTollgate$Matching;" ∈ WALL := zin_0 (List.mem_of_getElem? (i := 37) rfl)
theorem w38 : Cond.classLink RX7 56 RX4 ∈ WALL := zin_0 (List.mem_of_getElem? (i := 38) rfl)
theorem w39 : Cond.instantiable RX4 4 ∈ WALL := zin_0 (List.mem_of_getElem? (i := 39) rfl)
theorem w40 : Cond.initialized RX4 ∈ WALL := zin_1 (List.mem_of_getElem? (i := 0) rfl)
theorem w41 : Cond.fieldLink RX7 59 "Tollgate" "plan" "LTollgate$LegRow;" ∈ WALL := zin_1 (List.mem_of_getElem? (i := 1) rfl)
theorem w42 : Cond.fieldLink RX7 63 "Tollgate" "exchangeAccount" "I" ∈ WALL := zin_1 (List.mem_of_getElem? (i := 2) rfl)
theorem w43 : Cond.fieldLink RX7 67 "Tollgate" "today" "I" ∈ WALL := zin_1 (List.mem_of_getElem? (i := 3) rfl)
theorem w44 : Cond.instanceMethod yX0_init ∈ WALL := zin_1 (List.mem_of_getElem? (i := 4) rfl)
theorem w45 : Cond.code yX0_init cX0_init 1 none ∈ WALL := zin_1 (List.mem_of_getElem? (i := 5) rfl)
theorem w46 : Cond.methodLink RX0 3 objectInit ∈ WALL := zin_1 (List.mem_of_getElem? (i := 6) rfl)
theorem w47 : Cond.arrayClass .int ∈ WALL := zin_1 (List.mem_of_getElem? (i := 7) rfl)
theorem w48 : Cond.fieldLink RX0 9 "Tollgate$Accounts" "rates" "[I" ∈ WALL := zin_1 (List.mem_of_getElem? (i := 8) rfl)
theorem w49 : Cond.fieldLink RX0 15 "Tollgate$Accounts" "kind" "[I" ∈ WALL := zin_1 (List.mem_of_getElem? (i := 9) rfl)
theorem w50 : Cond.fieldLink RX0 18 "Tollgate$Accounts" "currency" "[I" ∈ WALL := zin_1 (List.mem_of_getElem? (i := 10) rfl)
theorem w51 : Cond.fieldLink RX0 21 "Tollgate$Accounts" "floors" "[I" ∈ WALL := zin_1 (List.mem_of_getElem? (i := 11) rfl)
theorem w52 : Cond.arrayClass .boolean ∈ WALL := zin_1 (List.mem_of_getElem? (i := 12) rfl)
theorem w53 : Cond.fieldLink RX0 24 "Tollgate$Accounts" "hasFloor" "[Z" ∈ WALL := zin_1 (List.mem_of_getElem? (i := 13) rfl)
theorem w54 : Cond.fieldLink RX0 28 "Tollgate$Accounts" "count" "I" ∈ WALL := zin_1 (List.mem_of_getElem? (i := 14) rfl)
theorem w55 : Cond.instanceMethod yX1_init ∈ WALL := zin_1 (List.mem_of_getElem? (i := 15) rfl)
theorem w56 : Cond.code yX1_init cX1_init 1 none ∈ WALL := zin_1 (List.mem_of_getElem? (i := 16) rfl)
theorem w57 : Cond.methodLink RX1 1 objectInit ∈ WALL := zin_1 (List.mem_of_getElem? (i := 17) rfl)
theorem w58 : Cond.classLink RX1 7 RX4 ∈ WALL := zin_1 (List.mem_of_getElem? (i := 18) rfl)
theorem w59 : Cond.fieldLink RX1 10 "Tollgate$Draft" "legs" "LTollgate$LegRow;" ∈ WALL := zin_1 (List.mem_of_getElem? (i := 19) rfl)
theorem w60 : Cond.fieldLink RX1 16 "Tollgate$Draft" "isThere" "Z" ∈ WALL := zin_1 (List.mem_of_getElem? (i := 20) rfl)
theorem w61 : Cond.fieldLink RX1 20 "Tollgate$Draft" "day" "I" ∈ WALL := zin_1 (List.mem_of_getElem? (i := 21) rfl)
theorem w62 : Cond.fieldLink RX1 24 "Tollgate$Draft" "note" "I" ∈ WALL := zin_1 (List.mem_of_getElem? (i := 22) rfl)
theorem w63 : Cond.instanceMethod yX4_init ∈ WALL := zin_1 (List.mem_of_getElem? (i := 23) rfl)
theorem w64 : Cond.code yX4_init cX4_init 1 none ∈ WALL := zin_1 (List.mem_of_getElem? (i := 24) rfl)
theorem w65 : Cond.methodLink RX4 3 objectInit ∈ WALL := zin_1 (List.mem_of_getElem? (i := 25) rfl)
theorem w66 : Cond.fieldLink RX4 9 "Tollgate$LegRow" "account" "[I" ∈ WALL := zin_1 (List.mem_of_getElem? (i := 26) rfl)
theorem w67 : Cond.fieldLink RX4 15 "Tollgate$LegRow" "amount" "[J" ∈ WALL := zin_1 (List.mem_of_getElem? (i := 27) rfl)
theorem w68 : Cond.fieldLink RX4 19 "Tollgate$LegRow" "worth" "[J" ∈ WALL := zin_1 (List.mem_of_getElem? (i := 28) rfl)
theorem w69 : Cond.fieldLink RX4 22 "Tollgate$LegRow" "count" "I" ∈ WALL := zin_1 (List.mem_of_getElem? (i := 29) rfl)
theorem w70 : Cond.instanceMethod yX3_init ∈ WALL := zin_1 (List.mem_of_getElem? (i := 30) rfl)
theorem w71 : Cond.code yX3_init cX3_init 1 none ∈ WALL := zin_1 (List.mem_of_getElem? (i := 31) rfl)
theorem w72 : Cond.methodLink RX3 3 objectInit ∈ WALL := zin_1 (List.mem_of_getElem? (i := 32) rfl)
theorem w73 : Cond.fieldLink RX3 9 "Tollgate$Journal" "day" "[I" ∈ WALL := zin_1 (List.mem_of_getElem? (i := 33) rfl)
theorem w74 : Cond.fieldLink RX3 15 "Tollgate$Journal" "note" "[I" ∈ WALL := zin_1 (List.mem_of_getElem? (i := 34) rfl)
theorem w75 : Cond.fieldLink RX3 18 "Tollgate$Journal" "firstLeg" "[I" ∈ WALL := zin_1 (List.mem_of_getElem? (i := 35) rfl)
theorem w76 : Cond.fieldLink RX3 21 "Tollgate$Journal" "legsOf" "[I" ∈ WALL := zin_1 (List.mem_of_getElem? (i := 36) rfl)
theorem w77 : Cond.fieldLink RX3 24 "Tollgate$Journal" "gone" "[Z" ∈ WALL := zin_1 (List.mem_of_getElem? (i := 37) rfl)
theorem w78 : Cond.fieldLink RX3 28 "Tollgate$Journal" "isClosing" "[Z" ∈ WALL := zin_1 (List.mem_of_getElem? (i := 38) rfl)
theorem w79 : Cond.fieldLink RX3 31 "Tollgate$Journal" "count" "I" ∈ WALL := zin_1 (List.mem_of_getElem? (i := 39) rfl)
theorem w80 : Cond.fieldLink RX3 35 "Tollgate$Journal" "entryOf" "[I" ∈ WALL := zin_2 (List.mem_of_getElem? (i := 0) rfl)
theorem w81 : Cond.fieldLink RX3 38 "Tollgate$Journal" "account" "[I" ∈ WALL := zin_2 (List.mem_of_getElem? (i := 1) rfl)
theorem w82 : Cond.fieldLink RX3 41 "Tollgate$Journal" "amount" "[J" ∈ WALL := zin_2 (List.mem_of_getElem? (i := 2) rfl)
theorem w83 : Cond.fieldLink RX3 45 "Tollgate$Journal" "worth" "[J" ∈ WALL := zin_2 (List.mem_of_getElem? (i := 3) rfl)
theorem w84 : Cond.fieldLink RX3 48 "Tollgate$Journal" "legCount" "I" ∈ WALL := zin_2 (List.mem_of_getElem? (i := 4) rfl)
theorem w85 : Cond.instanceMethod yX2_init ∈ WALL := zin_2 (List.mem_of_getElem? (i := 5) rfl)
theorem w86 : Cond.code yX2_init cX2_init 1 none ∈ WALL := zin_2 (List.mem_of_getElem? (i := 6) rfl)
theorem w87 : Cond.methodLink RX2 3 objectInit ∈ WALL := zin_2 (List.mem_of_getElem? (i := 7) rfl)
theorem w88 : Cond.fieldLink RX2 9 "Tollgate$Holds" "account" "[I" ∈ WALL := zin_2 (List.mem_of_getElem? (i := 8) rfl)
theorem w89 : Cond.fieldLink RX2 15 "Tollgate$Holds" "amount" "[I" ∈ WALL := zin_2 (List.mem_of_getElem? (i := 9) rfl)
theorem w90 : Cond.fieldLink RX2 18 "Tollgate$Holds" "lastDay" "[I" ∈ WALL := zin_2 (List.mem_of_getElem? (i := 10) rfl)
theorem w91 : Cond.fieldLink RX2 21 "Tollgate$Holds" "isEnded" "[Z" ∈ WALL := zin_2 (List.mem_of_getElem? (i := 11) rfl)
theorem w92 : Cond.fieldLink RX2 25 "Tollgate$Holds" "count" "I" ∈ WALL := zin_2 (List.mem_of_getElem? (i := 12) rfl)
theorem w93 : Cond.instanceMethod yX5_init ∈ WALL := zin_2 (List.mem_of_getElem? (i := 13) rfl)
theorem w94 : Cond.code yX5_init cX5_init 1 none ∈ WALL := zin_2 (List.mem_of_getElem? (i := 14) rfl)
theorem w95 : Cond.methodLink RX5 3 objectInit ∈ WALL := zin_2 (List.mem_of_getElem? (i := 15) rfl)
theorem w96 : Cond.fieldLink RX5 9 "Tollgate$Lines" "account" "[I" ∈ WALL := zin_2 (List.mem_of_getElem? (i := 16) rfl)
theorem w97 : Cond.fieldLink RX5 15 "Tollgate$Lines" "day" "[I" ∈ WALL := zin_2 (List.mem_of_getElem? (i := 17) rfl)
theorem w98 : Cond.fieldLink RX5 18 "Tollgate$Lines" "amount" "[I" ∈ WALL := zin_2 (List.mem_of_getElem? (i := 18) rfl)
theorem w99 : Cond.fieldLink RX5 21 "Tollgate$Lines" "byDay" "[I" ∈ WALL := zin_2 (List.mem_of_getElem? (i := 19) rfl)
theorem w100 : Cond.fieldLink RX5 24 "Tollgate$Lines" "count" "I" ∈ WALL := zin_2 (List.mem_of_getElem? (i := 20) rfl)
theorem w101 : Cond.methodLink RX7 46 yX6_init ∈ WALL := zin_2 (List.mem_of_getElem? (i := 21) rfl)
theorem w102 : Cond.instanceMethod yX6_init ∈ WALL := zin_2 (List.mem_of_getElem? (i := 22) rfl)
theorem w103 : Cond.code yX6_init cX6_init 4 none ∈ WALL := zin_2 (List.mem_of_getElem? (i := 23) rfl)
theorem w104 : Cond.methodLink RX6 3 objectInit ∈ WALL := zin_2 (List.mem_of_getElem? (i := 24) rfl)
theorem w105 : Cond.fieldLink RX6 9 "Tollgate$Matching" "lineOfLeg" "[I" ∈ WALL := zin_2 (List.mem_of_getElem? (i := 25) rfl)
theorem w106 : Cond.fieldLink RX6 15 "Tollgate$Matching" "firstOfLine" "[I" ∈ WALL := zin_2 (List.mem_of_getElem? (i := 26) rfl)
theorem w107 : Cond.fieldLink RX6 18 "Tollgate$Matching" "secondOfLine" "[I" ∈ WALL := zin_2 (List.mem_of_getElem? (i := 27) rfl)
theorem w108 : Cond.fieldLink RX6 21 "Tollgate$Matching" "journal" "LTollgate$Journal;" ∈ WALL := zin_2 (List.mem_of_getElem? (i := 28) rfl)
theorem w109 : Cond.fieldLink RX6 25 "Tollgate$Matching" "lines" "LTollgate$Lines;" ∈ WALL := zin_2 (List.mem_of_getElem? (i := 29) rfl)
theorem w110 : Cond.methodLink RL 109 yX14_init ∈ WALL := zin_2 (List.mem_of_getElem? (i := 30) rfl)
theorem w111 : Cond.instanceMethod yX14_init ∈ WALL := zin_2 (List.mem_of_getElem? (i := 31) rfl)
theorem w112 : Cond.code yX14_init cX14_init 1 none ∈ WALL := zin_2 (List.mem_of_getElem? (i := 32) rfl)
theorem w113 : Cond.methodLink RX14 1 objectInit ∈ WALL := zin_2 (List.mem_of_getElem? (i := 33) rfl)
theorem w114 : Cond.fieldLink RX14 7 "TollgateModel" "rates" "[I" ∈ WALL := zin_2 (List.mem_of_getElem? (i := 34) rfl)
theorem w115 : Cond.classLink RX14 13 RJx4a65c ∈ WALL := zin_2 (List.mem_of_getElem? (i := 35) rfl)
theorem w116 : Cond.instantiable RJx4a65c 3 ∈ WALL := zin_2 (List.mem_of_getElem? (i := 36) rfl)
theorem w117 : Cond.initialized RJx4a65c ∈ WALL := zin_2 (List.mem_of_getElem? (i := 37) rfl)
theorem w118 : Cond.fieldLink RX14 16 "TollgateModel" "accounts" "Ljava/util/ArrayList;" ∈ WALL := zin_2 (List.mem_of_getElem? (i := 38) rfl)
theorem w119 : Cond.fieldLink RX14 20 "TollgateModel" "entries" "Ljava/util/ArrayList;" ∈ WALL := zin_2 (List.mem_of_getElem? (i := 39) rfl)
theorem w120 : Cond.fieldLink RX14 23 "TollgateModel" "holds" "Ljava/util/ArrayList;" ∈ WALL := zin_3 (List.mem_of_getElem? (i := 0) rfl)
theorem w121 : Cond.fieldLink RX14 26 "TollgateModel" "lines" "Ljava/util/ArrayList;" ∈ WALL := zin_3 (List.mem_of_getElem? (i := 1) rfl)
theorem w122 : Cond.fieldLink RX14 29 "TollgateModel" "closings" "Ljava/util/ArrayList;" ∈ WALL := zin_3 (List.mem_of_getElem? (i := 2) rfl)
theorem w123 : Cond.fieldLink RX14 32 "TollgateModel" "lockedAhead" "Ljava/util/ArrayList;" ∈ WALL := zin_3 (List.mem_of_getElem? (i := 3) rfl)
theorem w124 : Cond.fieldLink RX14 35 "TollgateModel" "locked" "I" ∈ WALL := zin_3 (List.mem_of_getElem? (i := 4) rfl)
theorem w125 : Cond.fieldLink RX14 39 "TollgateModel" "draft" "Ljava/util/ArrayList;" ∈ WALL := zin_3 (List.mem_of_getElem? (i := 5) rfl)
theorem w126 : Cond.methodLink RX14 15 yJx4a65c_init_da8c8 ∈ WALL := zin_3 (List.mem_of_getElem? (i := 6) rfl)
theorem w127 : Cond.instanceMethod yJx4a65c_init_da8c8 ∈ WALL := zin_3 (List.mem_of_getElem? (i := 7) rfl)
theorem w128 : Cond.code yJx4a65c_init_da8c8 cJx4a65c_init_da8c8 1 none ∈ WALL := zin_3 (List.mem_of_getElem? (i := 8) rfl)
theorem w129 : Cond.fieldLink RJx4a65c 39 "java/util/ArrayList" "DEFAULTCAPACITY_EMPTY_ELEMENTDATA" "[Ljava/lang/Object;" ∈ WALL := zin_3 (List.mem_of_getElem? (i := 9) rfl)
theorem w130 : Cond.fieldLink RJx4a65c 9 "java/util/ArrayList" "elementData" "[Ljava/lang/Object;" ∈ WALL := zin_3 (List.mem_of_getElem? (i := 10) rfl)
theorem w131 : Cond.methodLink RJx4a65c 1 yJxc12de_init_da8c8 ∈ WALL := zin_3 (List.mem_of_getElem? (i := 11) rfl)
theorem w132 : Cond.instanceMethod yJxc12de_init_da8c8 ∈ WALL := zin_3 (List.mem_of_getElem? (i := 12) rfl)
theorem w133 : Cond.initialized RJxc12de ∈ WALL := zin_3 (List.mem_of_getElem? (i := 13) rfl)
theorem w134 : Cond.code yJxc12de_init_da8c8 cJxc12de_init_da8c8 1 none ∈ WALL := zin_3 (List.mem_of_getElem? (i := 14) rfl)
theorem w135 : Cond.fieldLink RJxc12de 7 "java/util/AbstractList" "modCount" "I" ∈ WALL := zin_3 (List.mem_of_getElem? (i := 15) rfl)
theorem w136 : Cond.methodLink RJxc12de 1 yJxa1e45_init_da8c8 ∈ WALL := zin_3 (List.mem_of_getElem? (i := 16) rfl)
theorem w137 : Cond.instanceMethod yJxa1e45_init_da8c8 ∈ WALL := zin_3 (List.mem_of_getElem? (i := 17) rfl)
theorem w138 : Cond.initialized RJxa1e45 ∈ WALL := zin_3 (List.mem_of_getElem? (i := 18) rfl)
theorem w139 : Cond.code yJxa1e45_init_da8c8 cJxa1e45_init_da8c8 1 none ∈ WALL := zin_3 (List.mem_of_getElem? (i := 19) rfl)
theorem w140 : Cond.methodLink RJxa1e45 1 objectInit ∈ WALL := zin_3 (List.mem_of_getElem? (i := 20) rfl)
theorem w141 : Cond.methodLink RL 110 yL_rate ∈ WALL := zin_3 (List.mem_of_getElem? (i := 21) rfl)
theorem w142 : Cond.static yL_rate ∈ WALL := zin_3 (List.mem_of_getElem? (i := 22) rfl)
theorem w143 : Cond.initialized RL ∈ WALL := zin_3 (List.mem_of_getElem? (i := 23) rfl)
theorem w144 : Cond.codeWith yL_rate cL_rate 5 (some .int) [(0, 10, 13, 13), (0, 10, 17, 15)] ∈ WALL := zin_3 (List.mem_of_getElem? (i := 24) rfl)
theorem w145 : Cond.classLink RL 13 "java/lang/IllegalArgumentException" ∈ WALL := zin_3 (List.mem_of_getElem? (i := 25) rfl)
theorem w146 : Cond.methodLink RL 7 yX7_rate ∈ WALL := zin_3 (List.mem_of_getElem? (i := 26) rfl)
theorem w147 : Cond.instanceMethod yX7_rate ∈ WALL := zin_3 (List.mem_of_getElem? (i := 27) rfl)
theorem w148 : Cond.selects RX7 yX7_rate yX7_rate ∈ WALL := zin_3 (List.mem_of_getElem? (i := 28) rfl)
theorem w149 : Cond.code yX7_rate cX7_rate 4 (some .int) ∈ WALL := zin_3 (List.mem_of_getElem? (i := 29) rfl)
theorem w150 : Cond.classLink RX7 71 "java/lang/IllegalArgumentException" ∈ WALL := zin_3 (List.mem_of_getElem? (i := 30) rfl)
theorem w151 : Cond.initialized "java/lang/IllegalArgumentException" ∈ WALL := zin_3 (List.mem_of_getElem? (i := 31) rfl)
theorem w152 : Cond.classLink RX7 82 "java/lang/IllegalStateException" ∈ WALL := zin_3 (List.mem_of_getElem? (i := 32) rfl)
theorem w153 : Cond.initialized "java/lang/IllegalStateException" ∈ WALL := zin_3 (List.mem_of_getElem? (i := 33) rfl)
theorem w154 : Cond.constant RX7 70 (100000) ∈ WALL := zin_3 (List.mem_of_getElem? (i := 34) rfl)
theorem w155 : Cond.fieldLink RX7 87 "Tollgate$Accounts" "rates" "[I" ∈ WALL := zin_3 (List.mem_of_getElem? (i := 35) rfl)
theorem w156 : Cond.methodLink RX7 78 yX0_anyIn ∈ WALL := zin_3 (List.mem_of_getElem? (i := 36) rfl)
theorem w157 : Cond.instanceMethod yX0_anyIn ∈ WALL := zin_3 (List.mem_of_getElem? (i := 37) rfl)
theorem w158 : Cond.selects RX0 yX0_anyIn yX0_anyIn ∈ WALL := zin_3 (List.mem_of_getElem? (i := 38) rfl)
theorem w159 : Cond.code yX0_anyIn cX0_anyIn 3 (some .boolean) ∈ WALL := zin_3 (List.mem_of_getElem? (i := 39) rfl)
theorem w160 : Cond.methodLink RL 115 yX14_rate ∈ WALL := zin_4 (List.mem_of_getElem? (i := 0) rfl)
theorem w161 : Cond.instanceMethod yX14_rate ∈ WALL := zin_4 (List.mem_of_getElem? (i := 1) rfl)
theorem w162 : Cond.selects RX14 yX14_rate yX14_rate ∈ WALL := zin_4 (List.mem_of_getElem? (i := 2) rfl)
theorem w163 : Cond.code yX14_rate cX14_rate 5 (some .int) ∈ WALL := zin_4 (List.mem_of_getElem? (i := 3) rfl)
theorem w164 : Cond.constant RX14 149 (100000) ∈ WALL := zin_4 (List.mem_of_getElem? (i := 4) rfl)
theorem w167 : Cond.methodLink RX14 53 yX14_isIn ∈ WALL := zin_4 (List.mem_of_getElem? (i := 5) rfl)
theorem w168 : Cond.static yX14_isIn ∈ WALL := zin_4 (List.mem_of_getElem? (i := 6) rfl)
theorem w169 : Cond.code yX14_isIn cX14_isIn 3 (some .boolean) ∈ WALL := zin_4 (List.mem_of_getElem? (i := 7) rfl)
theorem w170 : Cond.methodLink RX14 61 yX14_start ∈ WALL := zin_4 (List.mem_of_getElem? (i := 8) rfl)
theorem w171 : Cond.instanceMethod yX14_start ∈ WALL := zin_4 (List.mem_of_getElem? (i := 9) rfl)
theorem w172 : Cond.selects RX14 yX14_start yX14_start ∈ WALL := zin_4 (List.mem_of_getElem? (i := 10) rfl)
theorem w173 : Cond.code yX14_start cX14_start 3 (some .boolean) ∈ WALL := zin_4 (List.mem_of_getElem? (i := 11) rfl)
theorem w174 : Cond.fieldLink RX14 42 "TollgateModel" "thrown" "I" ∈ WALL := zin_4 (List.mem_of_getElem? (i := 12) rfl)
theorem w175 : Cond.methodLink RX14 45 yX14_refuse ∈ WALL := zin_4 (List.mem_of_getElem? (i := 13) rfl)
theorem w176 : Cond.instanceMethod yX14_refuse ∈ WALL := zin_4 (List.mem_of_getElem? (i := 14) rfl)
theorem w177 : Cond.selects RX14 yX14_refuse yX14_refuse ∈ WALL := zin_4 (List.mem_of_getElem? (i := 15) rfl)
theorem w178 : Cond.code yX14_refuse cX14_refuse 3 (some .boolean) ∈ WALL := zin_4 (List.mem_of_getElem? (i := 16) rfl)
theorem w179 : Cond.methodLink RX14 49 yJx4a65c_size_8abf5 ∈ WALL := zin_4 (List.mem_of_getElem? (i := 17) rfl)
theorem w180 : Cond.instanceMethod yJx4a65c_size_8abf5 ∈ WALL := zin_4 (List.mem_of_getElem? (i := 18) rfl)
theorem w181 : Cond.selects RJx4a65c yJx4a65c_size_8abf5 yJx4a65c_size_8abf5 ∈ WALL := zin_4 (List.mem_of_getElem? (i := 19) rfl)
theorem w182 : Cond.code yJx4a65c_size_8abf5 cJx4a65c_size_8abf5 1 (some .int) ∈ WALL := zin_4 (List.mem_of_getElem? (i := 20) rfl)
theorem w183 : Cond.fieldLink RJx4a65c 48 "java/util/ArrayList" "size" "I" ∈ WALL := zin_4 (List.mem_of_getElem? (i := 21) rfl)
theorem w200 : Cond.methodLink RL 116 yX14_thrown ∈ WALL := zin_4 (List.mem_of_getElem? (i := 22) rfl)
theorem w201 : Cond.instanceMethod yX14_thrown ∈ WALL := zin_4 (List.mem_of_getElem? (i := 23) rfl)
theorem w202 : Cond.selects RX14 yX14_thrown yX14_thrown ∈ WALL := zin_4 (List.mem_of_getElem? (i := 24) rfl)
theorem w203 : Cond.code yX14_thrown cX14_thrown 1 (some .int) ∈ WALL := zin_4 (List.mem_of_getElem? (i := 25) rfl)
theorem w204 : Cond.methodLink RL 119 yL_account ∈ WALL := zin_4 (List.mem_of_getElem? (i := 26) rfl)
theorem w205 : Cond.static yL_account ∈ WALL := zin_4 (List.mem_of_getElem? (i := 27) rfl)
theorem w206 : Cond.codeWith yL_account cL_account 5 (some .int) [(0, 10, 13, 13), (0, 10, 17, 15)] ∈ WALL := zin_4 (List.mem_of_getElem? (i := 28) rfl)
theorem w207 : Cond.methodLink RL 17 yX7_account ∈ WALL := zin_4 (List.mem_of_getElem? (i := 29) rfl)
theorem w208 : Cond.instanceMethod yX7_account ∈ WALL := zin_4 (List.mem_of_getElem? (i := 30) rfl)
theorem w209 : Cond.selects RX7 yX7_account yX7_account ∈ WALL := zin_4 (List.mem_of_getElem? (i := 31) rfl)
theorem w210 : Cond.code yX7_account cX7_account 3 (some .int) ∈ WALL := zin_4 (List.mem_of_getElem? (i := 32) rfl)
theorem w211 : Cond.fieldLink RX7 93 "Tollgate$Accounts" "count" "I" ∈ WALL := zin_4 (List.mem_of_getElem? (i := 33) rfl)
theorem w212 : Cond.methodLink RX7 98 yX0_add ∈ WALL := zin_4 (List.mem_of_getElem? (i := 34) rfl)
theorem w213 : Cond.instanceMethod yX0_add ∈ WALL := zin_4 (List.mem_of_getElem? (i := 35) rfl)
theorem w214 : Cond.selects RX0 yX0_add yX0_add ∈ WALL := zin_4 (List.mem_of_getElem? (i := 36) rfl)
theorem w215 : Cond.code yX0_add cX0_add 3 (some .int) ∈ WALL := zin_4 (List.mem_of_getElem? (i := 37) rfl)
theorem w216 : Cond.methodLink RL 121 yX14_account ∈ WALL := zin_4 (List.mem_of_getElem? (i := 38) rfl)
theorem w217 : Cond.instanceMethod yX14_account ∈ WALL := zin_4 (List.mem_of_getElem? (i := 39) rfl)
theorem w218 : Cond.selects RX14 yX14_account yX14_account ∈ WALL := zin_5 (List.mem_of_getElem? (i := 0) rfl)
theorem w219 : Cond.code yX14_account cX14_account 3 (some .int) ∈ WALL := zin_5 (List.mem_of_getElem? (i := 1) rfl)
theorem w220 : Cond.classLink RX14 85 RX8 ∈ WALL := zin_5 (List.mem_of_getElem? (i := 2) rfl)
theorem w221 : Cond.instantiable RX8 5 ∈ WALL := zin_5 (List.mem_of_getElem? (i := 3) rfl)
theorem w222 : Cond.initialized RX8 ∈ WALL := zin_5 (List.mem_of_getElem? (i := 4) rfl)
theorem w223 : Cond.methodLink RX14 150 yX8_init ∈ WALL := zin_5 (List.mem_of_getElem? (i := 5) rfl)
theorem w224 : Cond.instanceMethod yX8_init ∈ WALL := zin_5 (List.mem_of_getElem? (i := 6) rfl)
theorem w225 : Cond.code yX8_init cX8_init 4 none ∈ WALL := zin_5 (List.mem_of_getElem? (i := 7) rfl)
theorem w226 : Cond.methodLink RX8 3 objectInit ∈ WALL := zin_5 (List.mem_of_getElem? (i := 8) rfl)
theorem w227 : Cond.fieldLink RX8 9 "TollgateModel$Account" "number" "I" ∈ WALL := zin_5 (List.mem_of_getElem? (i := 9) rfl)
theorem w228 : Cond.fieldLink RX8 15 "TollgateModel$Account" "kind" "I" ∈ WALL := zin_5 (List.mem_of_getElem? (i := 10) rfl)
theorem w229 : Cond.fieldLink RX8 18 "TollgateModel$Account" "currency" "I" ∈ WALL := zin_5 (List.mem_of_getElem? (i := 11) rfl)
theorem w230 : Cond.methodLink RX14 153 yJx4a65c_add_9ea2d ∈ WALL := zin_5 (List.mem_of_getElem? (i := 12) rfl)
theorem w231 : Cond.instanceMethod yJx4a65c_add_9ea2d ∈ WALL := zin_5 (List.mem_of_getElem? (i := 13) rfl)
theorem w232 : Cond.selects RJx4a65c yJx4a65c_add_9ea2d yJx4a65c_add_9ea2d ∈ WALL := zin_5 (List.mem_of_getElem? (i := 14) rfl)
theorem w233 : Cond.code yJx4a65c_add_9ea2d cJx4a65c_add_9ea2d 2 (some .boolean) ∈ WALL := zin_5 (List.mem_of_getElem? (i := 15) rfl)
theorem w234 : Cond.fieldLink RJx4a65c 63 "java/util/ArrayList" "modCount" "I" ∈ WALL := zin_5 (List.mem_of_getElem? (i := 16) rfl)
theorem w236 : Cond.methodLink RJx4a65c 131 yJx4a65c_add_72be8 ∈ WALL := zin_5 (List.mem_of_getElem? (i := 17) rfl)
theorem w237 : Cond.instanceMethod yJx4a65c_add_72be8 ∈ WALL := zin_5 (List.mem_of_getElem? (i := 18) rfl)
theorem w238 : Cond.selects RJx4a65c yJx4a65c_add_72be8 yJx4a65c_add_72be8 ∈ WALL := zin_5 (List.mem_of_getElem? (i := 19) rfl)
theorem w239 : Cond.code yJx4a65c_add_72be8 cJx4a65c_add_72be8 4 none ∈ WALL := zin_5 (List.mem_of_getElem? (i := 20) rfl)
theorem w240 : Cond.methodLink RJx4a65c 129 yJx4a65c_grow_d5877 ∈ WALL := zin_5 (List.mem_of_getElem? (i := 21) rfl)
theorem w241 : Cond.instanceMethod yJx4a65c_grow_d5877 ∈ WALL := zin_5 (List.mem_of_getElem? (i := 22) rfl)
theorem w242 : Cond.selects RJx4a65c yJx4a65c_grow_d5877 yJx4a65c_grow_d5877 ∈ WALL := zin_5 (List.mem_of_getElem? (i := 23) rfl)
theorem w243 : Cond.code yJx4a65c_grow_d5877 cJx4a65c_grow_d5877 1 (some (.array (.object "java/lang/Object"))) ∈ WALL := zin_5 (List.mem_of_getElem? (i := 24) rfl)
theorem w244 : Cond.methodLink RJx4a65c 69 yJx4a65c_grow_92f84 ∈ WALL := zin_5 (List.mem_of_getElem? (i := 25) rfl)
theorem w245 : Cond.instanceMethod yJx4a65c_grow_92f84 ∈ WALL := zin_5 (List.mem_of_getElem? (i := 26) rfl)
theorem w246 : Cond.selects RJx4a65c yJx4a65c_grow_92f84 yJx4a65c_grow_92f84 ∈ WALL := zin_5 (List.mem_of_getElem? (i := 27) rfl)
theorem w247 : Cond.code yJx4a65c_grow_92f84 cJx4a65c_grow_92f84 4 (some (.array (.object "java/lang/Object"))) ∈ WALL := zin_5 (List.mem_of_getElem? (i := 28) rfl)
theorem w248 : Cond.methodLink RJx4a65c 79 Lib.Math.max.name ∈ WALL := zin_5 (List.mem_of_getElem? (i := 29) rfl)
theorem w249 : Cond.static Lib.Math.max.name ∈ WALL := zin_5 (List.mem_of_getElem? (i := 30) rfl)
theorem w250 : Cond.initialized "java/lang/Math" ∈ WALL := zin_5 (List.mem_of_getElem? (i := 31) rfl)
theorem w251 : Cond.code Lib.Math.max.name Lib.Math.max.code 2 (some .int) ∈ WALL := zin_5 (List.mem_of_getElem? (i := 32) rfl)
theorem w252 : Cond.classLink RJx4a65c 7 "java/lang/Object" ∈ WALL := zin_5 (List.mem_of_getElem? (i := 33) rfl)
theorem w282 : Cond.methodLink RL 122 yL_floor ∈ WALL := zin_5 (List.mem_of_getElem? (i := 34) rfl)
theorem w283 : Cond.static yL_floor ∈ WALL := zin_5 (List.mem_of_getElem? (i := 35) rfl)
theorem w284 : Cond.codeWith yL_floor cL_floor 5 (some .int) [(0, 9, 12, 24), (0, 9, 16, 13), (0, 9, 20, 15)] ∈ WALL := zin_5 (List.mem_of_getElem? (i := 36) rfl)
theorem w285 : Cond.classLink RL 24 "java/lang/IndexOutOfBoundsException" ∈ WALL := zin_5 (List.mem_of_getElem? (i := 37) rfl)
theorem w286 : Cond.methodLink RL 20 yX7_floor ∈ WALL := zin_5 (List.mem_of_getElem? (i := 38) rfl)
theorem w287 : Cond.instanceMethod yX7_floor ∈ WALL := zin_5 (List.mem_of_getElem? (i := 39) rfl)
theorem w288 : Cond.selects RX7 yX7_floor yX7_floor ∈ WALL := zin_6 (List.mem_of_getElem? (i := 0) rfl)
theorem w289 : Cond.code yX7_floor cX7_floor 5 (some .long) ∈ WALL := zin_6 (List.mem_of_getElem? (i := 1) rfl)
theorem w293 : Cond.methodLink RX7 102 yX7_needAccount ∈ WALL := zin_6 (List.mem_of_getElem? (i := 2) rfl)
theorem w294 : Cond.instanceMethod yX7_needAccount ∈ WALL := zin_6 (List.mem_of_getElem? (i := 3) rfl)
theorem w295 : Cond.selects RX7 yX7_needAccount yX7_needAccount ∈ WALL := zin_6 (List.mem_of_getElem? (i := 4) rfl)
theorem w296 : Cond.code yX7_needAccount cX7_needAccount 2 none ∈ WALL := zin_6 (List.mem_of_getElem? (i := 5) rfl)
theorem w297 : Cond.classLink RX7 194 "java/lang/IndexOutOfBoundsException" ∈ WALL := zin_6 (List.mem_of_getElem? (i := 6) rfl)
theorem w298 : Cond.initialized "java/lang/IndexOutOfBoundsException" ∈ WALL := zin_6 (List.mem_of_getElem? (i := 7) rfl)
theorem w327 : Cond.methodLink RL 124 yX14_floor ∈ WALL := zin_6 (List.mem_of_getElem? (i := 8) rfl)
theorem w328 : Cond.instanceMethod yX14_floor ∈ WALL := zin_6 (List.mem_of_getElem? (i := 9) rfl)
theorem w329 : Cond.selects RX14 yX14_floor yX14_floor ∈ WALL := zin_6 (List.mem_of_getElem? (i := 10) rfl)
theorem w330 : Cond.code yX14_floor cX14_floor 4 (some .long) ∈ WALL := zin_6 (List.mem_of_getElem? (i := 11) rfl)
theorem w332 : Cond.fieldLink RX14 143 "TollgateModel" "today" "I" ∈ WALL := zin_6 (List.mem_of_getElem? (i := 12) rfl)
theorem w335 : Cond.methodLink RX14 157 yX14_isNoAccount ∈ WALL := zin_6 (List.mem_of_getElem? (i := 13) rfl)
theorem w336 : Cond.instanceMethod yX14_isNoAccount ∈ WALL := zin_6 (List.mem_of_getElem? (i := 14) rfl)
theorem w337 : Cond.selects RX14 yX14_isNoAccount yX14_isNoAccount ∈ WALL := zin_6 (List.mem_of_getElem? (i := 15) rfl)
theorem w338 : Cond.code yX14_isNoAccount cX14_isNoAccount 2 (some .boolean) ∈ WALL := zin_6 (List.mem_of_getElem? (i := 16) rfl)
theorem w339 : Cond.methodLink RX14 57 yX14_isNo ∈ WALL := zin_6 (List.mem_of_getElem? (i := 17) rfl)
theorem w340 : Cond.instanceMethod yX14_isNo ∈ WALL := zin_6 (List.mem_of_getElem? (i := 18) rfl)
theorem w341 : Cond.selects RX14 yX14_isNo yX14_isNo ∈ WALL := zin_6 (List.mem_of_getElem? (i := 19) rfl)
theorem w342 : Cond.code yX14_isNo cX14_isNo 2 (some .boolean) ∈ WALL := zin_6 (List.mem_of_getElem? (i := 20) rfl)
theorem w379 : Cond.methodLink RL 125 yL_exchange ∈ WALL := zin_6 (List.mem_of_getElem? (i := 21) rfl)
theorem w380 : Cond.static yL_exchange ∈ WALL := zin_6 (List.mem_of_getElem? (i := 22) rfl)
theorem w381 : Cond.codeWith yL_exchange cL_exchange 4 (some .int) [(0, 9, 12, 24), (0, 9, 15, 13)] ∈ WALL := zin_6 (List.mem_of_getElem? (i := 23) rfl)
theorem w382 : Cond.methodLink RL 26 yX7_exchange ∈ WALL := zin_6 (List.mem_of_getElem? (i := 24) rfl)
theorem w383 : Cond.instanceMethod yX7_exchange ∈ WALL := zin_6 (List.mem_of_getElem? (i := 25) rfl)
theorem w384 : Cond.selects RX7 yX7_exchange yX7_exchange ∈ WALL := zin_6 (List.mem_of_getElem? (i := 26) rfl)
theorem w385 : Cond.code yX7_exchange cX7_exchange 3 (some .int) ∈ WALL := zin_6 (List.mem_of_getElem? (i := 27) rfl)
theorem w387 : Cond.methodLink RL 128 yX14_exchange ∈ WALL := zin_6 (List.mem_of_getElem? (i := 28) rfl)
theorem w388 : Cond.instanceMethod yX14_exchange ∈ WALL := zin_6 (List.mem_of_getElem? (i := 29) rfl)
theorem w389 : Cond.selects RX14 yX14_exchange yX14_exchange ∈ WALL := zin_6 (List.mem_of_getElem? (i := 30) rfl)
theorem w390 : Cond.code yX14_exchange cX14_exchange 3 (some .int) ∈ WALL := zin_6 (List.mem_of_getElem? (i := 31) rfl)
theorem w393 : Cond.methodLink RL 129 yL_pass ∈ WALL := zin_6 (List.mem_of_getElem? (i := 32) rfl)
theorem w394 : Cond.static yL_pass ∈ WALL := zin_6 (List.mem_of_getElem? (i := 33) rfl)
theorem w395 : Cond.codeWith yL_pass cL_pass 4 (some .int) [(0, 9, 12, 13)] ∈ WALL := zin_6 (List.mem_of_getElem? (i := 34) rfl)
theorem w396 : Cond.methodLink RL 30 yX7_pass ∈ WALL := zin_6 (List.mem_of_getElem? (i := 35) rfl)
theorem w397 : Cond.instanceMethod yX7_pass ∈ WALL := zin_6 (List.mem_of_getElem? (i := 36) rfl)
theorem w398 : Cond.selects RX7 yX7_pass yX7_pass ∈ WALL := zin_6 (List.mem_of_getElem? (i := 37) rfl)
theorem w399 : Cond.code yX7_pass cX7_pass 2 (some .int) ∈ WALL := zin_6 (List.mem_of_getElem? (i := 38) rfl)
theorem w400 : Cond.methodLink RL 131 yX14_pass ∈ WALL := zin_6 (List.mem_of_getElem? (i := 39) rfl)
theorem w401 : Cond.instanceMethod yX14_pass ∈ WALL := zin_7 (List.mem_of_getElem? (i := 0) rfl)
theorem w402 : Cond.selects RX14 yX14_pass yX14_pass ∈ WALL := zin_7 (List.mem_of_getElem? (i := 1) rfl)
theorem w403 : Cond.code yX14_pass cX14_pass 2 (some .int) ∈ WALL := zin_7 (List.mem_of_getElem? (i := 2) rfl)
theorem w404 : Cond.methodLink RL 132 yL_draft ∈ WALL := zin_7 (List.mem_of_getElem? (i := 3) rfl)
theorem w405 : Cond.static yL_draft ∈ WALL := zin_7 (List.mem_of_getElem? (i := 4) rfl)
theorem w406 : Cond.codeWith yL_draft cL_draft 5 (some .int) [(0, 10, 13, 13)] ∈ WALL := zin_7 (List.mem_of_getElem? (i := 5) rfl)
theorem w407 : Cond.methodLink RL 33 yX7_draft ∈ WALL := zin_7 (List.mem_of_getElem? (i := 6) rfl)
theorem w408 : Cond.instanceMethod yX7_draft ∈ WALL := zin_7 (List.mem_of_getElem? (i := 7) rfl)
theorem w409 : Cond.selects RX7 yX7_draft yX7_draft ∈ WALL := zin_7 (List.mem_of_getElem? (i := 8) rfl)
theorem w410 : Cond.code yX7_draft cX7_draft 4 (some .int) ∈ WALL := zin_7 (List.mem_of_getElem? (i := 9) rfl)
theorem w411 : Cond.fieldLink RX7 138 "Tollgate$Draft" "legs" "LTollgate$LegRow;" ∈ WALL := zin_7 (List.mem_of_getElem? (i := 10) rfl)
theorem w412 : Cond.fieldLink RX7 141 "Tollgate$LegRow" "count" "I" ∈ WALL := zin_7 (List.mem_of_getElem? (i := 11) rfl)
theorem w413 : Cond.methodLink RX7 133 yX7_needDay ∈ WALL := zin_7 (List.mem_of_getElem? (i := 12) rfl)
theorem w414 : Cond.static yX7_needDay ∈ WALL := zin_7 (List.mem_of_getElem? (i := 13) rfl)
theorem w415 : Cond.code yX7_needDay cX7_needDay 1 none ∈ WALL := zin_7 (List.mem_of_getElem? (i := 14) rfl)
theorem w416 : Cond.methodLink RX7 142 yX1_begin ∈ WALL := zin_7 (List.mem_of_getElem? (i := 15) rfl)
theorem w417 : Cond.instanceMethod yX1_begin ∈ WALL := zin_7 (List.mem_of_getElem? (i := 16) rfl)
theorem w418 : Cond.selects RX1 yX1_begin yX1_begin ∈ WALL := zin_7 (List.mem_of_getElem? (i := 17) rfl)
theorem w419 : Cond.code yX1_begin cX1_begin 3 none ∈ WALL := zin_7 (List.mem_of_getElem? (i := 18) rfl)
theorem w420 : Cond.fieldLink RX1 27 "Tollgate$LegRow" "count" "I" ∈ WALL := zin_7 (List.mem_of_getElem? (i := 19) rfl)
theorem w421 : Cond.methodLink RL 134 yX14_draft ∈ WALL := zin_7 (List.mem_of_getElem? (i := 20) rfl)
theorem w422 : Cond.instanceMethod yX14_draft ∈ WALL := zin_7 (List.mem_of_getElem? (i := 21) rfl)
theorem w423 : Cond.selects RX14 yX14_draft yX14_draft ∈ WALL := zin_7 (List.mem_of_getElem? (i := 22) rfl)
theorem w424 : Cond.code yX14_draft cX14_draft 4 (some .int) ∈ WALL := zin_7 (List.mem_of_getElem? (i := 23) rfl)
theorem w425 : Cond.fieldLink RX14 167 "TollgateModel" "hasDraft" "Z" ∈ WALL := zin_7 (List.mem_of_getElem? (i := 24) rfl)
theorem w426 : Cond.fieldLink RX14 170 "TollgateModel" "draftDay" "I" ∈ WALL := zin_7 (List.mem_of_getElem? (i := 25) rfl)
theorem w427 : Cond.fieldLink RX14 173 "TollgateModel" "draftNote" "I" ∈ WALL := zin_7 (List.mem_of_getElem? (i := 26) rfl)
theorem w428 : Cond.methodLink RL 135 yL_leg ∈ WALL := zin_7 (List.mem_of_getElem? (i := 27) rfl)
theorem w429 : Cond.static yL_leg ∈ WALL := zin_7 (List.mem_of_getElem? (i := 28) rfl)
theorem w430 : Cond.codeWith yL_leg cL_leg 5 (some .int) [(0, 9, 12, 24), (0, 9, 16, 13), (0, 9, 20, 15)] ∈ WALL := zin_7 (List.mem_of_getElem? (i := 29) rfl)
theorem w431 : Cond.methodLink RL 36 yX7_leg ∈ WALL := zin_7 (List.mem_of_getElem? (i := 30) rfl)
theorem w432 : Cond.instanceMethod yX7_leg ∈ WALL := zin_7 (List.mem_of_getElem? (i := 31) rfl)
theorem w433 : Cond.selects RX7 yX7_leg yX7_leg ∈ WALL := zin_7 (List.mem_of_getElem? (i := 32) rfl)
theorem w434 : Cond.code yX7_leg cX7_leg 3 (some .long) ∈ WALL := zin_7 (List.mem_of_getElem? (i := 33) rfl)
theorem w435 : Cond.fieldLink RX7 149 "Tollgate$Draft" "isThere" "Z" ∈ WALL := zin_7 (List.mem_of_getElem? (i := 34) rfl)
theorem w452 : Cond.methodLink RX7 162 yX4_worthSum ∈ WALL := zin_7 (List.mem_of_getElem? (i := 35) rfl)
theorem w453 : Cond.instanceMethod yX4_worthSum ∈ WALL := zin_7 (List.mem_of_getElem? (i := 36) rfl)
theorem w454 : Cond.selects RX4 yX4_worthSum yX4_worthSum ∈ WALL := zin_7 (List.mem_of_getElem? (i := 37) rfl)
theorem w455 : Cond.code yX4_worthSum cX4_worthSum 4 (some .long) ∈ WALL := zin_7 (List.mem_of_getElem? (i := 38) rfl)
theorem w456 : Cond.methodLink RL 137 yX14_leg ∈ WALL := zin_7 (List.mem_of_getElem? (i := 39) rfl)
theorem w457 : Cond.instanceMethod yX14_leg ∈ WALL := zin_8 (List.mem_of_getElem? (i := 0) rfl)
theorem w458 : Cond.selects RX14 yX14_leg yX14_leg ∈ WALL := zin_8 (List.mem_of_getElem? (i := 1) rfl)
theorem w459 : Cond.code yX14_leg cX14_leg 3 (some .long) ∈ WALL := zin_8 (List.mem_of_getElem? (i := 2) rfl)
theorem w474 : Cond.methodLink RX14 184 yX14_worths ∈ WALL := zin_8 (List.mem_of_getElem? (i := 3) rfl)
theorem w475 : Cond.instanceMethod yX14_worths ∈ WALL := zin_8 (List.mem_of_getElem? (i := 4) rfl)
theorem w476 : Cond.selects RX14 yX14_worths yX14_worths ∈ WALL := zin_8 (List.mem_of_getElem? (i := 5) rfl)
theorem w477 : Cond.code yX14_worths cX14_worths 5 (some .long) ∈ WALL := zin_8 (List.mem_of_getElem? (i := 6) rfl)
theorem w491 : Cond.methodLink RL 138 yL_post ∈ WALL := zin_8 (List.mem_of_getElem? (i := 7) rfl)
theorem w492 : Cond.static yL_post ∈ WALL := zin_8 (List.mem_of_getElem? (i := 8) rfl)
theorem w493 : Cond.codeWith yL_post cL_post 3 (some .int) [(0, 8, 11, 15)] ∈ WALL := zin_8 (List.mem_of_getElem? (i := 9) rfl)
theorem w494 : Cond.classLink RL 15 "java/lang/IllegalStateException" ∈ WALL := zin_8 (List.mem_of_getElem? (i := 10) rfl)
theorem w495 : Cond.methodLink RL 39 yX7_post ∈ WALL := zin_8 (List.mem_of_getElem? (i := 11) rfl)
theorem w496 : Cond.instanceMethod yX7_post ∈ WALL := zin_8 (List.mem_of_getElem? (i := 12) rfl)
theorem w497 : Cond.selects RX7 yX7_post yX7_post ∈ WALL := zin_8 (List.mem_of_getElem? (i := 13) rfl)
theorem w498 : Cond.code yX7_post cX7_post 2 (some .int) ∈ WALL := zin_8 (List.mem_of_getElem? (i := 14) rfl)
theorem w501 : Cond.methodLink RX7 166 yX7_whyNotPosted ∈ WALL := zin_8 (List.mem_of_getElem? (i := 15) rfl)
theorem w502 : Cond.instanceMethod yX7_whyNotPosted ∈ WALL := zin_8 (List.mem_of_getElem? (i := 16) rfl)
theorem w503 : Cond.selects RX7 yX7_whyNotPosted yX7_whyNotPosted ∈ WALL := zin_8 (List.mem_of_getElem? (i := 17) rfl)
theorem w504 : Cond.code yX7_whyNotPosted cX7_whyNotPosted 1 (some .int) ∈ WALL := zin_8 (List.mem_of_getElem? (i := 18) rfl)
theorem w505 : Cond.methodLink RX7 277 yX3_lastLocked ∈ WALL := zin_8 (List.mem_of_getElem? (i := 19) rfl)
theorem w506 : Cond.instanceMethod yX3_lastLocked ∈ WALL := zin_8 (List.mem_of_getElem? (i := 20) rfl)
theorem w507 : Cond.selects RX3 yX3_lastLocked yX3_lastLocked ∈ WALL := zin_8 (List.mem_of_getElem? (i := 21) rfl)
theorem w508 : Cond.code yX3_lastLocked cX3_lastLocked 2 (some .int) ∈ WALL := zin_8 (List.mem_of_getElem? (i := 22) rfl)
theorem w509 : Cond.methodLink RX3 65 yX3_lastClosing ∈ WALL := zin_8 (List.mem_of_getElem? (i := 23) rfl)
theorem w510 : Cond.instanceMethod yX3_lastClosing ∈ WALL := zin_8 (List.mem_of_getElem? (i := 24) rfl)
theorem w511 : Cond.selects RX3 yX3_lastClosing yX3_lastClosing ∈ WALL := zin_8 (List.mem_of_getElem? (i := 25) rfl)
theorem w512 : Cond.code yX3_lastClosing cX3_lastClosing 2 (some .int) ∈ WALL := zin_8 (List.mem_of_getElem? (i := 26) rfl)
theorem w562 : Cond.methodLink RL 141 yX14_post ∈ WALL := zin_8 (List.mem_of_getElem? (i := 27) rfl)
theorem w563 : Cond.instanceMethod yX14_post ∈ WALL := zin_8 (List.mem_of_getElem? (i := 28) rfl)
theorem w564 : Cond.selects RX14 yX14_post yX14_post ∈ WALL := zin_8 (List.mem_of_getElem? (i := 29) rfl)
theorem w565 : Cond.code yX14_post cX14_post 2 (some .int) ∈ WALL := zin_8 (List.mem_of_getElem? (i := 30) rfl)
theorem w566 : Cond.methodLink RX14 203 yX14_reasonNow ∈ WALL := zin_8 (List.mem_of_getElem? (i := 31) rfl)
theorem w567 : Cond.instanceMethod yX14_reasonNow ∈ WALL := zin_8 (List.mem_of_getElem? (i := 32) rfl)
theorem w568 : Cond.selects RX14 yX14_reasonNow yX14_reasonNow ∈ WALL := zin_8 (List.mem_of_getElem? (i := 33) rfl)
theorem w569 : Cond.code yX14_reasonNow cX14_reasonNow 3 (some .int) ∈ WALL := zin_8 (List.mem_of_getElem? (i := 34) rfl)
theorem w612 : Cond.methodLink RL 142 yX7_reason ∈ WALL := zin_8 (List.mem_of_getElem? (i := 35) rfl)
theorem w613 : Cond.instanceMethod yX7_reason ∈ WALL := zin_8 (List.mem_of_getElem? (i := 36) rfl)
theorem w614 : Cond.selects RX7 yX7_reason yX7_reason ∈ WALL := zin_8 (List.mem_of_getElem? (i := 37) rfl)
theorem w615 : Cond.code yX7_reason cX7_reason 1 (some .int) ∈ WALL := zin_8 (List.mem_of_getElem? (i := 38) rfl)
theorem w616 : Cond.methodLink RL 145 yX14_reason ∈ WALL := zin_8 (List.mem_of_getElem? (i := 39) rfl)
theorem w617 : Cond.instanceMethod yX14_reason ∈ WALL := zin_9 (List.mem_of_getElem? (i := 0) rfl)
theorem w618 : Cond.selects RX14 yX14_reason yX14_reason ∈ WALL := zin_9 (List.mem_of_getElem? (i := 1) rfl)
theorem w619 : Cond.code yX14_reason cX14_reason 1 (some .int) ∈ WALL := zin_9 (List.mem_of_getElem? (i := 2) rfl)
theorem w620 : Cond.methodLink RL 146 yL_turnBack ∈ WALL := zin_9 (List.mem_of_getElem? (i := 3) rfl)
theorem w621 : Cond.static yL_turnBack ∈ WALL := zin_9 (List.mem_of_getElem? (i := 4) rfl)
theorem w622 : Cond.codeWith yL_turnBack cL_turnBack 4 (some .int) [(0, 9, 12, 24), (0, 9, 15, 15)] ∈ WALL := zin_9 (List.mem_of_getElem? (i := 5) rfl)
theorem w623 : Cond.methodLink RL 43 yX7_turnBack ∈ WALL := zin_9 (List.mem_of_getElem? (i := 6) rfl)
theorem w624 : Cond.instanceMethod yX7_turnBack ∈ WALL := zin_9 (List.mem_of_getElem? (i := 7) rfl)
theorem w625 : Cond.selects RX7 yX7_turnBack yX7_turnBack ∈ WALL := zin_9 (List.mem_of_getElem? (i := 8) rfl)
theorem w626 : Cond.code yX7_turnBack cX7_turnBack 2 (some .int) ∈ WALL := zin_9 (List.mem_of_getElem? (i := 9) rfl)
theorem w630 : Cond.methodLink RX7 188 yX3_has ∈ WALL := zin_9 (List.mem_of_getElem? (i := 10) rfl)
theorem w631 : Cond.instanceMethod yX3_has ∈ WALL := zin_9 (List.mem_of_getElem? (i := 11) rfl)
theorem w632 : Cond.selects RX3 yX3_has yX3_has ∈ WALL := zin_9 (List.mem_of_getElem? (i := 12) rfl)
theorem w633 : Cond.code yX3_has cX3_has 2 (some .boolean) ∈ WALL := zin_9 (List.mem_of_getElem? (i := 13) rfl)
theorem w646 : Cond.methodLink RL 148 yX14_turnBack ∈ WALL := zin_9 (List.mem_of_getElem? (i := 14) rfl)
theorem w647 : Cond.instanceMethod yX14_turnBack ∈ WALL := zin_9 (List.mem_of_getElem? (i := 15) rfl)
theorem w648 : Cond.selects RX14 yX14_turnBack yX14_turnBack ∈ WALL := zin_9 (List.mem_of_getElem? (i := 16) rfl)
theorem w649 : Cond.code yX14_turnBack cX14_turnBack 5 (some .int) ∈ WALL := zin_9 (List.mem_of_getElem? (i := 17) rfl)
theorem w652 : Cond.methodLink RX14 213 yX14_isNoEntry ∈ WALL := zin_9 (List.mem_of_getElem? (i := 18) rfl)
theorem w653 : Cond.instanceMethod yX14_isNoEntry ∈ WALL := zin_9 (List.mem_of_getElem? (i := 19) rfl)
theorem w654 : Cond.selects RX14 yX14_isNoEntry yX14_isNoEntry ∈ WALL := zin_9 (List.mem_of_getElem? (i := 20) rfl)
theorem w655 : Cond.code yX14_isNoEntry cX14_isNoEntry 2 (some .boolean) ∈ WALL := zin_9 (List.mem_of_getElem? (i := 21) rfl)
theorem w656 : Cond.methodLink RL 149 yL_ofEntry ∈ WALL := zin_9 (List.mem_of_getElem? (i := 22) rfl)
theorem w657 : Cond.static yL_ofEntry ∈ WALL := zin_9 (List.mem_of_getElem? (i := 23) rfl)
theorem w658 : Cond.codeWith yL_ofEntry cL_ofEntry 5 (some .int) [(0, 10, 13, 24), (0, 10, 17, 13)] ∈ WALL := zin_9 (List.mem_of_getElem? (i := 24) rfl)
theorem w659 : Cond.methodLink RL 46 yX7_ofEntry ∈ WALL := zin_9 (List.mem_of_getElem? (i := 25) rfl)
theorem w660 : Cond.instanceMethod yX7_ofEntry ∈ WALL := zin_9 (List.mem_of_getElem? (i := 26) rfl)
theorem w661 : Cond.selects RX7 yX7_ofEntry yX7_ofEntry ∈ WALL := zin_9 (List.mem_of_getElem? (i := 27) rfl)
theorem w662 : Cond.code yX7_ofEntry cX7_ofEntry 3 (some .int) ∈ WALL := zin_9 (List.mem_of_getElem? (i := 28) rfl)
theorem w664 : Cond.methodLink RX7 212 yX7_needEntry ∈ WALL := zin_9 (List.mem_of_getElem? (i := 29) rfl)
theorem w665 : Cond.instanceMethod yX7_needEntry ∈ WALL := zin_9 (List.mem_of_getElem? (i := 30) rfl)
theorem w666 : Cond.selects RX7 yX7_needEntry yX7_needEntry ∈ WALL := zin_9 (List.mem_of_getElem? (i := 31) rfl)
theorem w667 : Cond.code yX7_needEntry cX7_needEntry 2 none ∈ WALL := zin_9 (List.mem_of_getElem? (i := 32) rfl)
theorem w668 : Cond.methodLink RL 151 yX14_ofEntry ∈ WALL := zin_9 (List.mem_of_getElem? (i := 33) rfl)
theorem w669 : Cond.instanceMethod yX14_ofEntry ∈ WALL := zin_9 (List.mem_of_getElem? (i := 34) rfl)
theorem w670 : Cond.selects RX14 yX14_ofEntry yX14_ofEntry ∈ WALL := zin_9 (List.mem_of_getElem? (i := 35) rfl)
theorem w671 : Cond.code yX14_ofEntry cX14_ofEntry 3 (some .int) ∈ WALL := zin_9 (List.mem_of_getElem? (i := 36) rfl)
theorem w675 : Cond.methodLink RL 152 yL_ofLeg ∈ WALL := zin_9 (List.mem_of_getElem? (i := 37) rfl)
theorem w676 : Cond.static yL_ofLeg ∈ WALL := zin_9 (List.mem_of_getElem? (i := 38) rfl)
theorem w677 : Cond.codeWith yL_ofLeg cL_ofLeg 6 (some .int) [(0, 11, 14, 24), (0, 11, 18, 13)] ∈ WALL := zin_9 (List.mem_of_getElem? (i := 39) rfl)
theorem w678 : Cond.methodLink RL 49 yX7_ofLeg ∈ WALL := zin_10 (List.mem_of_getElem? (i := 0) rfl)
theorem w679 : Cond.instanceMethod yX7_ofLeg ∈ WALL := zin_10 (List.mem_of_getElem? (i := 1) rfl)
theorem w680 : Cond.selects RX7 yX7_ofLeg yX7_ofLeg ∈ WALL := zin_10 (List.mem_of_getElem? (i := 2) rfl)
theorem w681 : Cond.code yX7_ofLeg cX7_ofLeg 5 (some .long) ∈ WALL := zin_10 (List.mem_of_getElem? (i := 3) rfl)
theorem w684 : Cond.methodLink RL 155 yX14_ofLeg ∈ WALL := zin_10 (List.mem_of_getElem? (i := 4) rfl)
theorem w685 : Cond.instanceMethod yX14_ofLeg ∈ WALL := zin_10 (List.mem_of_getElem? (i := 5) rfl)
theorem w686 : Cond.selects RX14 yX14_ofLeg yX14_ofLeg ∈ WALL := zin_10 (List.mem_of_getElem? (i := 6) rfl)
theorem w687 : Cond.code yX14_ofLeg cX14_ofLeg 4 (some .long) ∈ WALL := zin_10 (List.mem_of_getElem? (i := 7) rfl)
theorem w695 : Cond.methodLink RL 156 yL_hold ∈ WALL := zin_10 (List.mem_of_getElem? (i := 8) rfl)
theorem w696 : Cond.static yL_hold ∈ WALL := zin_10 (List.mem_of_getElem? (i := 9) rfl)
theorem w697 : Cond.codeWith yL_hold cL_hold 6 (some .int) [(0, 12, 15, 24), (0, 12, 19, 13), (0, 12, 23, 15)] ∈ WALL := zin_10 (List.mem_of_getElem? (i := 10) rfl)
theorem w698 : Cond.methodLink RL 53 yX7_hold ∈ WALL := zin_10 (List.mem_of_getElem? (i := 11) rfl)
theorem w699 : Cond.instanceMethod yX7_hold ∈ WALL := zin_10 (List.mem_of_getElem? (i := 12) rfl)
theorem w700 : Cond.selects RX7 yX7_hold yX7_hold ∈ WALL := zin_10 (List.mem_of_getElem? (i := 13) rfl)
theorem w701 : Cond.code yX7_hold cX7_hold 4 (some .int) ∈ WALL := zin_10 (List.mem_of_getElem? (i := 14) rfl)
theorem w703 : Cond.fieldLink RX7 245 "Tollgate$Holds" "count" "I" ∈ WALL := zin_10 (List.mem_of_getElem? (i := 15) rfl)
theorem w712 : Cond.methodLink RL 158 yX14_hold ∈ WALL := zin_10 (List.mem_of_getElem? (i := 16) rfl)
theorem w713 : Cond.instanceMethod yX14_hold ∈ WALL := zin_10 (List.mem_of_getElem? (i := 17) rfl)
theorem w714 : Cond.selects RX14 yX14_hold yX14_hold ∈ WALL := zin_10 (List.mem_of_getElem? (i := 18) rfl)
theorem w715 : Cond.code yX14_hold cX14_hold 5 (some .int) ∈ WALL := zin_10 (List.mem_of_getElem? (i := 19) rfl)
theorem w725 : Cond.methodLink RL 159 yL_take ∈ WALL := zin_10 (List.mem_of_getElem? (i := 20) rfl)
theorem w726 : Cond.static yL_take ∈ WALL := zin_10 (List.mem_of_getElem? (i := 21) rfl)
theorem w727 : Cond.codeWith yL_take cL_take 6 (some .int) [(0, 12, 15, 24), (0, 12, 19, 13), (0, 12, 23, 15)] ∈ WALL := zin_10 (List.mem_of_getElem? (i := 22) rfl)
theorem w728 : Cond.methodLink RL 57 yX7_take ∈ WALL := zin_10 (List.mem_of_getElem? (i := 23) rfl)
theorem w729 : Cond.instanceMethod yX7_take ∈ WALL := zin_10 (List.mem_of_getElem? (i := 24) rfl)
theorem w730 : Cond.selects RX7 yX7_take yX7_take ∈ WALL := zin_10 (List.mem_of_getElem? (i := 25) rfl)
theorem w731 : Cond.code yX7_take cX7_take 5 (some .int) ∈ WALL := zin_10 (List.mem_of_getElem? (i := 26) rfl)
theorem w735 : Cond.methodLink RX7 257 yX7_needHold ∈ WALL := zin_10 (List.mem_of_getElem? (i := 27) rfl)
theorem w736 : Cond.instanceMethod yX7_needHold ∈ WALL := zin_10 (List.mem_of_getElem? (i := 28) rfl)
theorem w737 : Cond.selects RX7 yX7_needHold yX7_needHold ∈ WALL := zin_10 (List.mem_of_getElem? (i := 29) rfl)
theorem w738 : Cond.code yX7_needHold cX7_needHold 2 none ∈ WALL := zin_10 (List.mem_of_getElem? (i := 30) rfl)
theorem w748 : Cond.methodLink RL 161 yX14_take ∈ WALL := zin_10 (List.mem_of_getElem? (i := 31) rfl)
theorem w749 : Cond.instanceMethod yX14_take ∈ WALL := zin_10 (List.mem_of_getElem? (i := 32) rfl)
theorem w750 : Cond.selects RX14 yX14_take yX14_take ∈ WALL := zin_10 (List.mem_of_getElem? (i := 33) rfl)
theorem w751 : Cond.code yX14_take cX14_take 7 (some .int) ∈ WALL := zin_10 (List.mem_of_getElem? (i := 34) rfl)
theorem w753 : Cond.methodLink RX14 244 yX14_isNoHold ∈ WALL := zin_10 (List.mem_of_getElem? (i := 35) rfl)
theorem w754 : Cond.instanceMethod yX14_isNoHold ∈ WALL := zin_10 (List.mem_of_getElem? (i := 36) rfl)
theorem w755 : Cond.selects RX14 yX14_isNoHold yX14_isNoHold ∈ WALL := zin_10 (List.mem_of_getElem? (i := 37) rfl)
theorem w756 : Cond.code yX14_isNoHold cX14_isNoHold 2 (some .boolean) ∈ WALL := zin_10 (List.mem_of_getElem? (i := 38) rfl)
theorem w757 : Cond.methodLink RL 162 yL_letGo ∈ WALL := zin_10 (List.mem_of_getElem? (i := 39) rfl)
theorem w758 : Cond.static yL_letGo ∈ WALL := zin_11 (List.mem_of_getElem? (i := 0) rfl)
theorem w759 : Cond.codeWith yL_letGo cL_letGo 4 (some .int) [(0, 9, 12, 24), (0, 9, 15, 15)] ∈ WALL := zin_11 (List.mem_of_getElem? (i := 1) rfl)
theorem w760 : Cond.methodLink RL 60 yX7_letGo ∈ WALL := zin_11 (List.mem_of_getElem? (i := 2) rfl)
theorem w761 : Cond.instanceMethod yX7_letGo ∈ WALL := zin_11 (List.mem_of_getElem? (i := 3) rfl)
theorem w762 : Cond.selects RX7 yX7_letGo yX7_letGo ∈ WALL := zin_11 (List.mem_of_getElem? (i := 4) rfl)
theorem w763 : Cond.code yX7_letGo cX7_letGo 2 (some .int) ∈ WALL := zin_11 (List.mem_of_getElem? (i := 5) rfl)
theorem w764 : Cond.methodLink RL 164 yX14_letGo ∈ WALL := zin_11 (List.mem_of_getElem? (i := 6) rfl)
theorem w765 : Cond.instanceMethod yX14_letGo ∈ WALL := zin_11 (List.mem_of_getElem? (i := 7) rfl)
theorem w766 : Cond.selects RX14 yX14_letGo yX14_letGo ∈ WALL := zin_11 (List.mem_of_getElem? (i := 8) rfl)
theorem w767 : Cond.code yX14_letGo cX14_letGo 2 (some .int) ∈ WALL := zin_11 (List.mem_of_getElem? (i := 9) rfl)
theorem w768 : Cond.methodLink RL 165 yL_close ∈ WALL := zin_11 (List.mem_of_getElem? (i := 10) rfl)
theorem w769 : Cond.static yL_close ∈ WALL := zin_11 (List.mem_of_getElem? (i := 11) rfl)
theorem w770 : Cond.codeWith yL_close cL_close 5 (some .int) [(0, 10, 13, 24), (0, 10, 17, 13), (0, 10, 21, 15)] ∈ WALL := zin_11 (List.mem_of_getElem? (i := 12) rfl)
theorem w771 : Cond.methodLink RL 63 yX7_close ∈ WALL := zin_11 (List.mem_of_getElem? (i := 13) rfl)
theorem w772 : Cond.instanceMethod yX7_close ∈ WALL := zin_11 (List.mem_of_getElem? (i := 14) rfl)
theorem w773 : Cond.selects RX7 yX7_close yX7_close ∈ WALL := zin_11 (List.mem_of_getElem? (i := 15) rfl)
theorem w774 : Cond.code yX7_close cX7_close 5 (some .int) ∈ WALL := zin_11 (List.mem_of_getElem? (i := 16) rfl)
theorem w775 : Cond.methodLink RX7 286 yX7_planClosing ∈ WALL := zin_11 (List.mem_of_getElem? (i := 17) rfl)
theorem w776 : Cond.instanceMethod yX7_planClosing ∈ WALL := zin_11 (List.mem_of_getElem? (i := 18) rfl)
theorem w777 : Cond.selects RX7 yX7_planClosing yX7_planClosing ∈ WALL := zin_11 (List.mem_of_getElem? (i := 19) rfl)
theorem w778 : Cond.code yX7_planClosing cX7_planClosing 5 none ∈ WALL := zin_11 (List.mem_of_getElem? (i := 20) rfl)
theorem w783 : Cond.methodLink RL 167 yX14_close ∈ WALL := zin_11 (List.mem_of_getElem? (i := 21) rfl)
theorem w784 : Cond.instanceMethod yX14_close ∈ WALL := zin_11 (List.mem_of_getElem? (i := 22) rfl)
theorem w785 : Cond.selects RX14 yX14_close yX14_close ∈ WALL := zin_11 (List.mem_of_getElem? (i := 23) rfl)
theorem w786 : Cond.code yX14_close cX14_close 8 (some .int) ∈ WALL := zin_11 (List.mem_of_getElem? (i := 24) rfl)
theorem w787 : Cond.methodLink RX14 253 yX14_results ∈ WALL := zin_11 (List.mem_of_getElem? (i := 25) rfl)
theorem w788 : Cond.instanceMethod yX14_results ∈ WALL := zin_11 (List.mem_of_getElem? (i := 26) rfl)
theorem w789 : Cond.selects RX14 yX14_results yX14_results ∈ WALL := zin_11 (List.mem_of_getElem? (i := 27) rfl)
theorem w790 : Cond.code yX14_results cX14_results 6 (some (.object "java/util/ArrayList")) ∈ WALL := zin_11 (List.mem_of_getElem? (i := 28) rfl)
theorem w812 : Cond.methodLink RL 168 yL_open ∈ WALL := zin_11 (List.mem_of_getElem? (i := 29) rfl)
theorem w813 : Cond.static yL_open ∈ WALL := zin_11 (List.mem_of_getElem? (i := 30) rfl)
theorem w814 : Cond.codeWith yL_open cL_open 3 (some .int) [(0, 8, 11, 15)] ∈ WALL := zin_11 (List.mem_of_getElem? (i := 31) rfl)
theorem w815 : Cond.methodLink RL 66 yX7_open ∈ WALL := zin_11 (List.mem_of_getElem? (i := 32) rfl)
theorem w816 : Cond.instanceMethod yX7_open ∈ WALL := zin_11 (List.mem_of_getElem? (i := 33) rfl)
theorem w817 : Cond.selects RX7 yX7_open yX7_open ∈ WALL := zin_11 (List.mem_of_getElem? (i := 34) rfl)
theorem w818 : Cond.code yX7_open cX7_open 2 (some .int) ∈ WALL := zin_11 (List.mem_of_getElem? (i := 35) rfl)
theorem w819 : Cond.methodLink RX7 293 yX3_lastClosing ∈ WALL := zin_11 (List.mem_of_getElem? (i := 36) rfl)
theorem w830 : Cond.methodLink RL 170 yX14_open ∈ WALL := zin_11 (List.mem_of_getElem? (i := 37) rfl)
theorem w831 : Cond.instanceMethod yX14_open ∈ WALL := zin_11 (List.mem_of_getElem? (i := 38) rfl)
theorem w832 : Cond.selects RX14 yX14_open yX14_open ∈ WALL := zin_11 (List.mem_of_getElem? (i := 39) rfl)
theorem w833 : Cond.code yX14_open cX14_open 3 (some .int) ∈ WALL := zin_12 (List.mem_of_getElem? (i := 0) rfl)
theorem w835 : Cond.methodLink RX14 263 yJx4a65c_isEmpty_aae02 ∈ WALL := zin_12 (List.mem_of_getElem? (i := 1) rfl)
theorem w836 : Cond.instanceMethod yJx4a65c_isEmpty_aae02 ∈ WALL := zin_12 (List.mem_of_getElem? (i := 2) rfl)
theorem w837 : Cond.selects RJx4a65c yJx4a65c_isEmpty_aae02 yJx4a65c_isEmpty_aae02 ∈ WALL := zin_12 (List.mem_of_getElem? (i := 3) rfl)
theorem w838 : Cond.code yJx4a65c_isEmpty_aae02 cJx4a65c_isEmpty_aae02 1 (some .boolean) ∈ WALL := zin_12 (List.mem_of_getElem? (i := 4) rfl)
theorem w856 : Cond.methodLink RL 171 yL_line ∈ WALL := zin_12 (List.mem_of_getElem? (i := 5) rfl)
theorem w857 : Cond.static yL_line ∈ WALL := zin_12 (List.mem_of_getElem? (i := 6) rfl)
theorem w858 : Cond.codeWith yL_line cL_line 6 (some .int) [(0, 12, 15, 24), (0, 12, 19, 13), (0, 12, 23, 15)] ∈ WALL := zin_12 (List.mem_of_getElem? (i := 7) rfl)
theorem w859 : Cond.methodLink RL 69 yX7_line ∈ WALL := zin_12 (List.mem_of_getElem? (i := 8) rfl)
theorem w860 : Cond.instanceMethod yX7_line ∈ WALL := zin_12 (List.mem_of_getElem? (i := 9) rfl)
theorem w861 : Cond.selects RX7 yX7_line yX7_line ∈ WALL := zin_12 (List.mem_of_getElem? (i := 10) rfl)
theorem w862 : Cond.code yX7_line cX7_line 4 (some .int) ∈ WALL := zin_12 (List.mem_of_getElem? (i := 11) rfl)
theorem w863 : Cond.fieldLink RX7 301 "Tollgate$Lines" "count" "I" ∈ WALL := zin_12 (List.mem_of_getElem? (i := 12) rfl)
theorem w872 : Cond.methodLink RL 173 yX14_line ∈ WALL := zin_12 (List.mem_of_getElem? (i := 13) rfl)
theorem w873 : Cond.instanceMethod yX14_line ∈ WALL := zin_12 (List.mem_of_getElem? (i := 14) rfl)
theorem w874 : Cond.selects RX14 yX14_line yX14_line ∈ WALL := zin_12 (List.mem_of_getElem? (i := 15) rfl)
theorem w875 : Cond.code yX14_line cX14_line 4 (some .int) ∈ WALL := zin_12 (List.mem_of_getElem? (i := 16) rfl)
theorem w887 : Cond.methodLink RL 174 yL_match ∈ WALL := zin_12 (List.mem_of_getElem? (i := 17) rfl)
theorem w888 : Cond.static yL_match ∈ WALL := zin_12 (List.mem_of_getElem? (i := 18) rfl)
theorem w889 : Cond.codeWith yL_match cL_match 5 (some .int) [(0, 10, 13, 24), (0, 10, 17, 13)] ∈ WALL := zin_12 (List.mem_of_getElem? (i := 19) rfl)
theorem w890 : Cond.methodLink RL 72 yX7_match ∈ WALL := zin_12 (List.mem_of_getElem? (i := 20) rfl)
theorem w891 : Cond.instanceMethod yX7_match ∈ WALL := zin_12 (List.mem_of_getElem? (i := 21) rfl)
theorem w892 : Cond.selects RX7 yX7_match yX7_match ∈ WALL := zin_12 (List.mem_of_getElem? (i := 22) rfl)
theorem w893 : Cond.code yX7_match cX7_match 3 (some .int) ∈ WALL := zin_12 (List.mem_of_getElem? (i := 23) rfl)
theorem w954 : Cond.methodLink RL 176 yX14_match ∈ WALL := zin_12 (List.mem_of_getElem? (i := 24) rfl)
theorem w955 : Cond.instanceMethod yX14_match ∈ WALL := zin_12 (List.mem_of_getElem? (i := 25) rfl)
theorem w956 : Cond.selects RX14 yX14_match yX14_match ∈ WALL := zin_12 (List.mem_of_getElem? (i := 26) rfl)
theorem w957 : Cond.code yX14_match cX14_match 7 (some .int) ∈ WALL := zin_12 (List.mem_of_getElem? (i := 27) rfl)
theorem w1004 : Cond.methodLink RL 177 yL_left ∈ WALL := zin_12 (List.mem_of_getElem? (i := 28) rfl)
theorem w1005 : Cond.static yL_left ∈ WALL := zin_12 (List.mem_of_getElem? (i := 29) rfl)
theorem w1006 : Cond.codeWith yL_left cL_left 5 (some .int) [(0, 9, 12, 24), (0, 9, 16, 13)] ∈ WALL := zin_12 (List.mem_of_getElem? (i := 30) rfl)
theorem w1007 : Cond.methodLink RL 75 yX7_left ∈ WALL := zin_12 (List.mem_of_getElem? (i := 31) rfl)
theorem w1008 : Cond.instanceMethod yX7_left ∈ WALL := zin_12 (List.mem_of_getElem? (i := 32) rfl)
theorem w1009 : Cond.selects RX7 yX7_left yX7_left ∈ WALL := zin_12 (List.mem_of_getElem? (i := 33) rfl)
theorem w1010 : Cond.code yX7_left cX7_left 3 (some .long) ∈ WALL := zin_12 (List.mem_of_getElem? (i := 34) rfl)
theorem w1025 : Cond.methodLink RL 179 yX14_left ∈ WALL := zin_12 (List.mem_of_getElem? (i := 35) rfl)
theorem w1026 : Cond.instanceMethod yX14_left ∈ WALL := zin_12 (List.mem_of_getElem? (i := 36) rfl)
theorem w1027 : Cond.selects RX14 yX14_left yX14_left ∈ WALL := zin_12 (List.mem_of_getElem? (i := 37) rfl)
theorem w1028 : Cond.code yX14_left cX14_left 3 (some .long) ∈ WALL := zin_12 (List.mem_of_getElem? (i := 38) rfl)
theorem w1037 : Cond.methodLink RL 180 yL_matched ∈ WALL := zin_12 (List.mem_of_getElem? (i := 39) rfl)
theorem w1038 : Cond.static yL_matched ∈ WALL := zin_13 (List.mem_of_getElem? (i := 0) rfl)
theorem w1039 : Cond.codeWith yL_matched cL_matched 4 (some .int) [(0, 9, 12, 24)] ∈ WALL := zin_13 (List.mem_of_getElem? (i := 1) rfl)
theorem w1040 : Cond.methodLink RL 78 yX7_matched ∈ WALL := zin_13 (List.mem_of_getElem? (i := 2) rfl)
theorem w1041 : Cond.instanceMethod yX7_matched ∈ WALL := zin_13 (List.mem_of_getElem? (i := 3) rfl)
theorem w1042 : Cond.selects RX7 yX7_matched yX7_matched ∈ WALL := zin_13 (List.mem_of_getElem? (i := 4) rfl)
theorem w1043 : Cond.code yX7_matched cX7_matched 3 (some .int) ∈ WALL := zin_13 (List.mem_of_getElem? (i := 5) rfl)
theorem w1046 : Cond.methodLink RL 182 yX14_matched_ ∈ WALL := zin_13 (List.mem_of_getElem? (i := 6) rfl)
theorem w1047 : Cond.instanceMethod yX14_matched_ ∈ WALL := zin_13 (List.mem_of_getElem? (i := 7) rfl)
theorem w1048 : Cond.selects RX14 yX14_matched_ yX14_matched_ ∈ WALL := zin_13 (List.mem_of_getElem? (i := 8) rfl)
theorem w1049 : Cond.code yX14_matched_ cX14_matched_ 2 (some .int) ∈ WALL := zin_13 (List.mem_of_getElem? (i := 9) rfl)
theorem w1055 : Cond.methodLink RL 183 yL_many ∈ WALL := zin_13 (List.mem_of_getElem? (i := 10) rfl)
theorem w1056 : Cond.static yL_many ∈ WALL := zin_13 (List.mem_of_getElem? (i := 11) rfl)
theorem w1057 : Cond.codeWith yL_many cL_many 4 (some .int) [(0, 9, 12, 13)] ∈ WALL := zin_13 (List.mem_of_getElem? (i := 12) rfl)
theorem w1058 : Cond.methodLink RL 81 yX7_many ∈ WALL := zin_13 (List.mem_of_getElem? (i := 13) rfl)
theorem w1059 : Cond.instanceMethod yX7_many ∈ WALL := zin_13 (List.mem_of_getElem? (i := 14) rfl)
theorem w1060 : Cond.selects RX7 yX7_many yX7_many ∈ WALL := zin_13 (List.mem_of_getElem? (i := 15) rfl)
theorem w1061 : Cond.code yX7_many cX7_many 2 (some .int) ∈ WALL := zin_13 (List.mem_of_getElem? (i := 16) rfl)
theorem w1062 : Cond.methodLink RX7 337 yX3_countStanding ∈ WALL := zin_13 (List.mem_of_getElem? (i := 17) rfl)
theorem w1063 : Cond.instanceMethod yX3_countStanding ∈ WALL := zin_13 (List.mem_of_getElem? (i := 18) rfl)
theorem w1064 : Cond.selects RX3 yX3_countStanding yX3_countStanding ∈ WALL := zin_13 (List.mem_of_getElem? (i := 19) rfl)
theorem w1065 : Cond.code yX3_countStanding cX3_countStanding 3 (some .int) ∈ WALL := zin_13 (List.mem_of_getElem? (i := 20) rfl)
theorem w1066 : Cond.methodLink RX7 340 yX2_countOpen ∈ WALL := zin_13 (List.mem_of_getElem? (i := 21) rfl)
theorem w1067 : Cond.instanceMethod yX2_countOpen ∈ WALL := zin_13 (List.mem_of_getElem? (i := 22) rfl)
theorem w1068 : Cond.selects RX2 yX2_countOpen yX2_countOpen ∈ WALL := zin_13 (List.mem_of_getElem? (i := 23) rfl)
theorem w1069 : Cond.code yX2_countOpen cX2_countOpen 4 (some .int) ∈ WALL := zin_13 (List.mem_of_getElem? (i := 24) rfl)
theorem w1070 : Cond.methodLink RL 185 yX14_many ∈ WALL := zin_13 (List.mem_of_getElem? (i := 25) rfl)
theorem w1071 : Cond.instanceMethod yX14_many ∈ WALL := zin_13 (List.mem_of_getElem? (i := 26) rfl)
theorem w1072 : Cond.selects RX14 yX14_many yX14_many ∈ WALL := zin_13 (List.mem_of_getElem? (i := 27) rfl)
theorem w1073 : Cond.code yX14_many cX14_many 2 (some .int) ∈ WALL := zin_13 (List.mem_of_getElem? (i := 28) rfl)
theorem w1074 : Cond.methodLink RX14 333 yX14_count ∈ WALL := zin_13 (List.mem_of_getElem? (i := 29) rfl)
theorem w1075 : Cond.instanceMethod yX14_count ∈ WALL := zin_13 (List.mem_of_getElem? (i := 30) rfl)
theorem w1076 : Cond.selects RX14 yX14_count yX14_count ∈ WALL := zin_13 (List.mem_of_getElem? (i := 31) rfl)
theorem w1077 : Cond.code yX14_count cX14_count 5 (some .int) ∈ WALL := zin_13 (List.mem_of_getElem? (i := 32) rfl)
theorem w1078 : Cond.methodLink RL 186 yL_told ∈ WALL := zin_13 (List.mem_of_getElem? (i := 33) rfl)
theorem w1079 : Cond.static yL_told ∈ WALL := zin_13 (List.mem_of_getElem? (i := 34) rfl)
theorem w1080 : Cond.codeWith yL_told cL_told 5 (some .int) [(0, 9, 12, 24), (0, 9, 16, 13)] ∈ WALL := zin_13 (List.mem_of_getElem? (i := 35) rfl)
theorem w1081 : Cond.methodLink RL 84 yX7_told ∈ WALL := zin_13 (List.mem_of_getElem? (i := 36) rfl)
theorem w1082 : Cond.instanceMethod yX7_told ∈ WALL := zin_13 (List.mem_of_getElem? (i := 37) rfl)
theorem w1083 : Cond.selects RX7 yX7_told yX7_told ∈ WALL := zin_13 (List.mem_of_getElem? (i := 38) rfl)
theorem w1084 : Cond.code yX7_told cX7_told 3 (some .long) ∈ WALL := zin_13 (List.mem_of_getElem? (i := 39) rfl)
theorem w1089 : Cond.methodLink RL 188 yX14_told ∈ WALL := zin_14 (List.mem_of_getElem? (i := 0) rfl)
theorem w1090 : Cond.instanceMethod yX14_told ∈ WALL := zin_14 (List.mem_of_getElem? (i := 1) rfl)
theorem w1091 : Cond.selects RX14 yX14_told yX14_told ∈ WALL := zin_14 (List.mem_of_getElem? (i := 2) rfl)
theorem w1092 : Cond.code yX14_told cX14_told 3 (some .long) ∈ WALL := zin_14 (List.mem_of_getElem? (i := 3) rfl)
theorem w1101 : Cond.methodLink RL 189 yL_at ∈ WALL := zin_14 (List.mem_of_getElem? (i := 4) rfl)
theorem w1102 : Cond.static yL_at ∈ WALL := zin_14 (List.mem_of_getElem? (i := 5) rfl)
theorem w1103 : Cond.codeWith yL_at cL_at 5 (some .int) [(0, 9, 12, 24), (0, 9, 16, 13)] ∈ WALL := zin_14 (List.mem_of_getElem? (i := 6) rfl)
theorem w1104 : Cond.methodLink RL 87 yX7_at ∈ WALL := zin_14 (List.mem_of_getElem? (i := 7) rfl)
theorem w1105 : Cond.instanceMethod yX7_at ∈ WALL := zin_14 (List.mem_of_getElem? (i := 8) rfl)
theorem w1106 : Cond.selects RX7 yX7_at yX7_at ∈ WALL := zin_14 (List.mem_of_getElem? (i := 9) rfl)
theorem w1107 : Cond.code yX7_at cX7_at 3 (some .long) ∈ WALL := zin_14 (List.mem_of_getElem? (i := 10) rfl)
theorem w1108 : Cond.methodLink RL 191 yX14_at ∈ WALL := zin_14 (List.mem_of_getElem? (i := 11) rfl)
theorem w1109 : Cond.instanceMethod yX14_at ∈ WALL := zin_14 (List.mem_of_getElem? (i := 12) rfl)
theorem w1110 : Cond.selects RX14 yX14_at yX14_at ∈ WALL := zin_14 (List.mem_of_getElem? (i := 13) rfl)
theorem w1111 : Cond.code yX14_at cX14_at 3 (some .long) ∈ WALL := zin_14 (List.mem_of_getElem? (i := 14) rfl)
theorem w1112 : Cond.methodLink RX14 342 yX14_isNoDay ∈ WALL := zin_14 (List.mem_of_getElem? (i := 15) rfl)
theorem w1113 : Cond.static yX14_isNoDay ∈ WALL := zin_14 (List.mem_of_getElem? (i := 16) rfl)
theorem w1114 : Cond.code yX14_isNoDay cX14_isNoDay 1 (some .boolean) ∈ WALL := zin_14 (List.mem_of_getElem? (i := 17) rfl)
theorem w1115 : Cond.methodLink RL 192 yL_ofKind ∈ WALL := zin_14 (List.mem_of_getElem? (i := 18) rfl)
theorem w1116 : Cond.static yL_ofKind ∈ WALL := zin_14 (List.mem_of_getElem? (i := 19) rfl)
theorem w1117 : Cond.codeWith yL_ofKind cL_ofKind 4 (some .int) [(0, 8, 11, 13)] ∈ WALL := zin_14 (List.mem_of_getElem? (i := 20) rfl)
theorem w1118 : Cond.methodLink RL 90 yX7_ofKind ∈ WALL := zin_14 (List.mem_of_getElem? (i := 21) rfl)
theorem w1119 : Cond.instanceMethod yX7_ofKind ∈ WALL := zin_14 (List.mem_of_getElem? (i := 22) rfl)
theorem w1120 : Cond.selects RX7 yX7_ofKind yX7_ofKind ∈ WALL := zin_14 (List.mem_of_getElem? (i := 23) rfl)
theorem w1121 : Cond.code yX7_ofKind cX7_ofKind 5 (some .long) ∈ WALL := zin_14 (List.mem_of_getElem? (i := 24) rfl)
theorem w1122 : Cond.methodLink RL 194 yX14_ofKind ∈ WALL := zin_14 (List.mem_of_getElem? (i := 25) rfl)
theorem w1123 : Cond.instanceMethod yX14_ofKind ∈ WALL := zin_14 (List.mem_of_getElem? (i := 26) rfl)
theorem w1124 : Cond.selects RX14 yX14_ofKind yX14_ofKind ∈ WALL := zin_14 (List.mem_of_getElem? (i := 27) rfl)
theorem w1125 : Cond.code yX14_ofKind cX14_ofKind 2 (some .long) ∈ WALL := zin_14 (List.mem_of_getElem? (i := 28) rfl)
theorem w1126 : Cond.methodLink RX14 345 yX14_ofKindNow ∈ WALL := zin_14 (List.mem_of_getElem? (i := 29) rfl)
theorem w1127 : Cond.instanceMethod yX14_ofKindNow ∈ WALL := zin_14 (List.mem_of_getElem? (i := 30) rfl)
theorem w1128 : Cond.selects RX14 yX14_ofKindNow yX14_ofKindNow ∈ WALL := zin_14 (List.mem_of_getElem? (i := 31) rfl)
theorem w1129 : Cond.code yX14_ofKindNow cX14_ofKindNow 5 (some .long) ∈ WALL := zin_14 (List.mem_of_getElem? (i := 32) rfl)
theorem w1130 : Cond.methodLink RL 195 yL_earned ∈ WALL := zin_14 (List.mem_of_getElem? (i := 33) rfl)
theorem w1131 : Cond.static yL_earned ∈ WALL := zin_14 (List.mem_of_getElem? (i := 34) rfl)
theorem w1132 : Cond.codeWith yL_earned cL_earned 5 (some .int) [(0, 9, 12, 13)] ∈ WALL := zin_14 (List.mem_of_getElem? (i := 35) rfl)
theorem w1133 : Cond.methodLink RL 94 yX7_earned ∈ WALL := zin_14 (List.mem_of_getElem? (i := 36) rfl)
theorem w1134 : Cond.instanceMethod yX7_earned ∈ WALL := zin_14 (List.mem_of_getElem? (i := 37) rfl)
theorem w1135 : Cond.selects RX7 yX7_earned yX7_earned ∈ WALL := zin_14 (List.mem_of_getElem? (i := 38) rfl)
theorem w1136 : Cond.code yX7_earned cX7_earned 6 (some .long) ∈ WALL := zin_14 (List.mem_of_getElem? (i := 39) rfl)
theorem w1141 : Cond.methodLink RL 197 yX14_earned ∈ WALL := zin_15 (List.mem_of_getElem? (i := 0) rfl)
theorem w1142 : Cond.instanceMethod yX14_earned ∈ WALL := zin_15 (List.mem_of_getElem? (i := 1) rfl)
theorem w1143 : Cond.selects RX14 yX14_earned yX14_earned ∈ WALL := zin_15 (List.mem_of_getElem? (i := 2) rfl)
theorem w1144 : Cond.code yX14_earned cX14_earned 8 (some .long) ∈ WALL := zin_15 (List.mem_of_getElem? (i := 3) rfl)
theorem w1145 : Cond.methodLink RL 198 yL_hadOn ∈ WALL := zin_15 (List.mem_of_getElem? (i := 4) rfl)
theorem w1146 : Cond.static yL_hadOn ∈ WALL := zin_15 (List.mem_of_getElem? (i := 5) rfl)
theorem w1147 : Cond.codeWith yL_hadOn cL_hadOn 5 (some .int) [(0, 9, 12, 24), (0, 9, 16, 13)] ∈ WALL := zin_15 (List.mem_of_getElem? (i := 6) rfl)
theorem w1148 : Cond.methodLink RL 97 yX7_hadOn ∈ WALL := zin_15 (List.mem_of_getElem? (i := 7) rfl)
theorem w1149 : Cond.instanceMethod yX7_hadOn ∈ WALL := zin_15 (List.mem_of_getElem? (i := 8) rfl)
theorem w1150 : Cond.selects RX7 yX7_hadOn yX7_hadOn ∈ WALL := zin_15 (List.mem_of_getElem? (i := 9) rfl)
theorem w1151 : Cond.code yX7_hadOn cX7_hadOn 3 (some .long) ∈ WALL := zin_15 (List.mem_of_getElem? (i := 10) rfl)
theorem w1152 : Cond.methodLink RL 200 yX14_hadOn ∈ WALL := zin_15 (List.mem_of_getElem? (i := 11) rfl)
theorem w1153 : Cond.instanceMethod yX14_hadOn ∈ WALL := zin_15 (List.mem_of_getElem? (i := 12) rfl)
theorem w1154 : Cond.selects RX14 yX14_hadOn yX14_hadOn ∈ WALL := zin_15 (List.mem_of_getElem? (i := 13) rfl)
theorem w1155 : Cond.code yX14_hadOn cX14_hadOn 3 (some .long) ∈ WALL := zin_15 (List.mem_of_getElem? (i := 14) rfl)
theorem w1156 : Cond.methodLink RL 201 yL_wouldMatch ∈ WALL := zin_15 (List.mem_of_getElem? (i := 15) rfl)
theorem w1157 : Cond.static yL_wouldMatch ∈ WALL := zin_15 (List.mem_of_getElem? (i := 16) rfl)
theorem w1158 : Cond.codeWith yL_wouldMatch cL_wouldMatch 5 (some .int) [(0, 10, 13, 24), (0, 10, 17, 13)] ∈ WALL := zin_15 (List.mem_of_getElem? (i := 17) rfl)
theorem w1159 : Cond.methodLink RL 100 yX7_wouldMatch ∈ WALL := zin_15 (List.mem_of_getElem? (i := 18) rfl)
theorem w1160 : Cond.instanceMethod yX7_wouldMatch ∈ WALL := zin_15 (List.mem_of_getElem? (i := 19) rfl)
theorem w1161 : Cond.selects RX7 yX7_wouldMatch yX7_wouldMatch ∈ WALL := zin_15 (List.mem_of_getElem? (i := 20) rfl)
theorem w1162 : Cond.code yX7_wouldMatch cX7_wouldMatch 3 (some .int) ∈ WALL := zin_15 (List.mem_of_getElem? (i := 21) rfl)
theorem w1163 : Cond.methodLink RL 203 yX14_wouldMatch ∈ WALL := zin_15 (List.mem_of_getElem? (i := 22) rfl)
theorem w1164 : Cond.instanceMethod yX14_wouldMatch ∈ WALL := zin_15 (List.mem_of_getElem? (i := 23) rfl)
theorem w1165 : Cond.selects RX14 yX14_wouldMatch yX14_wouldMatch ∈ WALL := zin_15 (List.mem_of_getElem? (i := 24) rfl)
theorem w1166 : Cond.code yX14_wouldMatch cX14_wouldMatch 3 (some .int) ∈ WALL := zin_15 (List.mem_of_getElem? (i := 25) rfl)
theorem w1171 : Cond.methodLink RL 204 yL_wouldClose ∈ WALL := zin_15 (List.mem_of_getElem? (i := 26) rfl)
theorem w1172 : Cond.static yL_wouldClose ∈ WALL := zin_15 (List.mem_of_getElem? (i := 27) rfl)
theorem w1173 : Cond.codeWith yL_wouldClose cL_wouldClose 4 (some .int) [(0, 8, 11, 13)] ∈ WALL := zin_15 (List.mem_of_getElem? (i := 28) rfl)
theorem w1174 : Cond.methodLink RL 103 yX7_wouldClose ∈ WALL := zin_15 (List.mem_of_getElem? (i := 29) rfl)
theorem w1175 : Cond.instanceMethod yX7_wouldClose ∈ WALL := zin_15 (List.mem_of_getElem? (i := 30) rfl)
theorem w1176 : Cond.selects RX7 yX7_wouldClose yX7_wouldClose ∈ WALL := zin_15 (List.mem_of_getElem? (i := 31) rfl)
theorem w1177 : Cond.code yX7_wouldClose cX7_wouldClose 2 (some .long) ∈ WALL := zin_15 (List.mem_of_getElem? (i := 32) rfl)
theorem w1178 : Cond.methodLink RL 206 yX14_wouldClose ∈ WALL := zin_15 (List.mem_of_getElem? (i := 33) rfl)
theorem w1179 : Cond.instanceMethod yX14_wouldClose ∈ WALL := zin_15 (List.mem_of_getElem? (i := 34) rfl)
theorem w1180 : Cond.selects RX14 yX14_wouldClose yX14_wouldClose ∈ WALL := zin_15 (List.mem_of_getElem? (i := 35) rfl)
theorem w1181 : Cond.code yX14_wouldClose cX14_wouldClose 2 (some .long) ∈ WALL := zin_15 (List.mem_of_getElem? (i := 36) rfl)
theorem w1182 : Cond.methodLink RL 207 yX7_meanLegs ∈ WALL := zin_15 (List.mem_of_getElem? (i := 37) rfl)
theorem w1183 : Cond.instanceMethod yX7_meanLegs ∈ WALL := zin_15 (List.mem_of_getElem? (i := 38) rfl)
theorem w1184 : Cond.selects RX7 yX7_meanLegs yX7_meanLegs ∈ WALL := zin_15 (List.mem_of_getElem? (i := 39) rfl)
theorem w1185 : Cond.code yX7_meanLegs cX7_meanLegs 2 (some .double) ∈ WALL := zin_16 (List.mem_of_getElem? (i := 0) rfl)
theorem w1190 : Cond.methodLink RL 211 yX14_meanLegs ∈ WALL := zin_16 (List.mem_of_getElem? (i := 1) rfl)
theorem w1191 : Cond.instanceMethod yX14_meanLegs ∈ WALL := zin_16 (List.mem_of_getElem? (i := 2) rfl)
theorem w1192 : Cond.selects RX14 yX14_meanLegs yX14_meanLegs ∈ WALL := zin_16 (List.mem_of_getElem? (i := 3) rfl)
theorem w1193 : Cond.code yX14_meanLegs cX14_meanLegs 3 (some .double) ∈ WALL := zin_16 (List.mem_of_getElem? (i := 4) rfl)
theorem w1194 : Cond.methodLink RL 212 yX7_digest ∈ WALL := zin_16 (List.mem_of_getElem? (i := 5) rfl)
theorem w1195 : Cond.instanceMethod yX7_digest ∈ WALL := zin_16 (List.mem_of_getElem? (i := 6) rfl)
theorem w1196 : Cond.selects RX7 yX7_digest yX7_digest ∈ WALL := zin_16 (List.mem_of_getElem? (i := 7) rfl)
theorem w1197 : Cond.code yX7_digest cX7_digest 4 (some .long) ∈ WALL := zin_16 (List.mem_of_getElem? (i := 8) rfl)
theorem w1198 : Cond.constantLong RX7 364 (58089) ∈ WALL := zin_16 (List.mem_of_getElem? (i := 9) rfl)
theorem w1199 : Cond.fieldLink RX7 377 "Tollgate$Journal" "count" "I" ∈ WALL := zin_16 (List.mem_of_getElem? (i := 10) rfl)
theorem w1200 : Cond.methodLink RX7 366 yX7_many ∈ WALL := zin_16 (List.mem_of_getElem? (i := 11) rfl)
theorem w1201 : Cond.methodLink RX7 369 yX7_mix ∈ WALL := zin_16 (List.mem_of_getElem? (i := 12) rfl)
theorem w1202 : Cond.static yX7_mix ∈ WALL := zin_16 (List.mem_of_getElem? (i := 13) rfl)
theorem w1203 : Cond.code yX7_mix cX7_mix 4 (some .long) ∈ WALL := zin_16 (List.mem_of_getElem? (i := 14) rfl)
theorem w1204 : Cond.constantLong RX7 390 (31) ∈ WALL := zin_16 (List.mem_of_getElem? (i := 15) rfl)
theorem w1218 : Cond.methodLink RX7 384 yX7_ofKind ∈ WALL := zin_16 (List.mem_of_getElem? (i := 16) rfl)
theorem w1219 : Cond.methodLink RX7 387 yX7_wouldClose ∈ WALL := zin_16 (List.mem_of_getElem? (i := 17) rfl)
theorem w1220 : Cond.methodLink RL 216 yX14_digest ∈ WALL := zin_16 (List.mem_of_getElem? (i := 18) rfl)
theorem w1221 : Cond.instanceMethod yX14_digest ∈ WALL := zin_16 (List.mem_of_getElem? (i := 19) rfl)
theorem w1222 : Cond.selects RX14 yX14_digest yX14_digest ∈ WALL := zin_16 (List.mem_of_getElem? (i := 20) rfl)
theorem w1223 : Cond.code yX14_digest cX14_digest 7 (some .long) ∈ WALL := zin_16 (List.mem_of_getElem? (i := 21) rfl)
theorem w1224 : Cond.constantLong RX14 355 (58089) ∈ WALL := zin_16 (List.mem_of_getElem? (i := 22) rfl)
theorem w1225 : Cond.methodLink RX14 357 yX14_add ∈ WALL := zin_16 (List.mem_of_getElem? (i := 23) rfl)
theorem w1226 : Cond.static yX14_add ∈ WALL := zin_16 (List.mem_of_getElem? (i := 24) rfl)
theorem w1227 : Cond.code yX14_add cX14_add 4 (some .long) ∈ WALL := zin_16 (List.mem_of_getElem? (i := 25) rfl)
theorem w1228 : Cond.constantLong RX14 353 (31) ∈ WALL := zin_16 (List.mem_of_getElem? (i := 26) rfl)
end
section
/-! CLASSES, ARRAYS, WORDS -/
abbrev K4 : Type := ClassId × ClassId × ClassId × ClassId
abbrev vwM : List vw_C := [(RX0, TX0, 6), (RX1, TX1, 4), (RX2, TX2, 5), (RX3, TX3, 12), (RX4, TX4, 4), (RX5, TX5, 5), (RX6, TX6, 5), (RX7, TX7, 10), (RX8, TX8, 5), (RX14, TX14, 15), (RJx4a65c, TJx4a65c, 3)]
def tysA (κ : K4) : List (ClassId × FieldType) := [(κ.1, .int), (κ.2.1, .long), (κ.2.2.1, .boolean), (κ.2.2.2, .object "java/lang/Object")]
set_option maxRecDepth 100000 in
theorem wl_good : WALL.all goodWord = true := by decide +kernel
theorem wl_in : GoodIn WALL WALL := fun w h => ⟨h, good_of_word (List.all_eq_true.mp wl_good w h)⟩
def bI (b : Bool) : Int32 := if b then 1 else 0
theorem bI_n (b : Bool) : narrow .boolean (.int (bI b)) = .int (bI b) := by cases b <;> rfl
theorem bI_f (b : Bool) : fits .boolean (.int (bI b)) = true := by cases b <;> rfl
theorem fnI (g : Nat → Int32) (i : Nat) (v : Int32) : upd g i v = va_up g i v := by funext j; rfl
theorem fnJ (g : Nat → Int64) (i : Nat) (v : Int64) : vp_updL g i v = va_up g i v := by funext j; rfl
/-! CONSTRUCTORS: a world that grows, cell by cell -/
def BW (D : va_G) (κ : K4) (ws : va_W) (A : Nat → Prop) (s : State) (H : Heap) (locs : List Loc) : Prop :=
  va_K D vwM (tysA κ) s ∧ va_P D vwM ws H ∧ va_D A ws ∧ va_S A s.heap H locs ∧ ∀ q, s.heap.size ≤ q → A q
def BC (D : va_G) (κ : K4) (ws : va_W) (U : State) : Prop :=
  va_K D vwM (tysA κ) U ∧ va_P D vwM ws U.heap ∧ va_D (fun _ => True) ws
/-- links to private members of nest mates -/
def XN (L : List (String × Nat × MethodName)) (U : State) : Prop := ∀ w ∈ L, va_Nw (.methodLinkNest w.1 w.2.1 w.2.2 "Tollgate") U
theorem XN.warm {L L' : List (String × Nat × MethodName)} {s U : State} (hW : s.WarmedH U.vm) (h : XN L s) (hL : ∀ w ∈ L', w ∈ L) : XN L' U := fun w hw => va_Nw.warmM hW (h w (hL w hw))
theorem XN.same {L : List (String × Nat × MethodName)} {u U : State} (hv : u.vm = U.vm) (h : XN L u) : XN L U := fun w hw => va_Nw.same rfl hv (h w hw)
theorem BW.start {D : va_G} {κ : K4} {ws : va_W} {s : State} (h : BC D κ ws s) : BW D κ ws (va_A ws s.heap.size) s s.heap [] :=
  ⟨h.1, h.2.1, h.2.2.self, va_S.rf, fun _ hq => Or.inr hq⟩
theorem BC.of {D : va_G} {κ : K4} {ws : va_W} {A : Nat → Prop} {s t : State} {H : Heap} {locs : List Loc} (h : BW D κ ws A s H locs) (ht : t.heap = H) (hA : s.vm.Alike t.vm) : BC D κ ws t :=
  ⟨va_K.moved hA h.1, by rw [ht]; exact h.2.1, h.2.2.1.weaken (fun _ _ _ _ => trivial)⟩
theorem BW.at {D : va_G} {κ : K4} {ws ws' : va_W} {A : Nat → Prop} {s : State} {H : Heap} {locs : List Loc} (h : BW D κ ws A s H locs) (is : List Nat) (hn : va_nd is = true) (hs : is.map (fun i => ws[i]?) = ws'.map some) : BW D κ ws' A s H locs := by
  refine ⟨h.1, h.2.1.sub is ?_, h.2.2.1.sub is hn hs, h.2.2.2.1, h.2.2.2.2⟩
  have e : is.filterMap (fun i => ws[i]?) = (is.map (fun i => ws[i]?)).filterMap id := by rw [List.filterMap_map]; rfl
  rw [e, hs, List.filterMap_map]
  exact List.filterMap_some
/-- an array's contents count up to its length alone -/
theorem arrV_cong {cA : ClassId} {n : Nat} {f g : Nat → Value} (h : ∀ j, j < n → f j = g j) : arrV cA n f = arrV cA n g := by
  unfold arrV
  congr 1
  exact congrArg Array.ofFn (funext fun j => h j.val j.isLt)
theorem BW.arrI {D : va_G} {κ : K4} {ws : va_W} {A : Nat → Prop} {s : State} {H : Heap} {locs : List Loc} (h : BW D κ ws A s H locs) (k : Nat) {q n : Nat} {cA : ClassId} {f g : Nat → Int32} (hk : ws[k]? = some (q, .inl (cA, n, .inl f))) (hfg : ∀ j, j < n → f j = g j) : BW D κ (ws.set k (q, .inl (cA, n, .inl g))) A s H locs := by
  have hlt : k < ws.length := (List.getElem?_eq_some_iff.mp hk).1
  have hget : ∀ i (x : Nat × va_E), (ws.set k (q, .inl (cA, n, .inl g)))[i]? = some x → ∃ y, ws[i]? = some y ∧ y.1 = x.1 ∧ (i = k → x = (q, .inl (cA, n, .inl g))) ∧ (i ≠ k → y = x) := by
    intro i x hx
    by_cases hi : i = k
    · subst hi
      rw [List.getElem?_set_self hlt] at hx
      exact ⟨_, hk, by cases hx; rfl, fun _ => (Option.some.inj hx).symm, fun z => absurd rfl z⟩
    · rw [List.getElem?_set_ne (fun z => hi z.symm)] at hx
      exact ⟨x, hx, rfl, fun z => absurd z hi, fun _ => rfl⟩
  refine ⟨h.1, ?_, ⟨?_, ?_⟩, h.2.2.2.1, h.2.2.2.2⟩
  · intro i x hx
    obtain ⟨y, h1, h2, h3, h4⟩ := hget i x hx
    by_cases hi : i = k
    · rw [h3 hi]
      have h5 := h.2.1 k _ hk
      show H[q]? = some (vp_cell cA (n, .inl g))
      have h6 : H[q]? = some (vp_cell cA (n, .inl f)) := h5
      rw [h6]
      show some (arrV cA n (fun j => .int (f j))) = some (arrV cA n (fun j => .int (g j)))
      exact congrArg some (arrV_cong (fun j hj => by rw [hfg j hj]))
    · rw [← h4 hi]
      exact h.2.1 i y h1
  · intro i j x y hx hy e
    obtain ⟨x', a1, a2, -, -⟩ := hget i x hx
    obtain ⟨y', b1, b2, -, -⟩ := hget j y hy
    exact h.2.2.1.1 i j x' y' a1 b1 (by rw [a2, b2]; exact e)
  · intro i x hx
    obtain ⟨y, h1, h2, -, -⟩ := hget i x hx
    rw [← h2]
    exact h.2.2.1.2 i y h1
/-- a constructor's contract -/
def CM (l : Launch) (y : MethodName) (bytes : ByteArray) (maxL fr lo mc ms : Nat) (D : va_G) (κ : K4) (L : List (String × Nat × MethodName)) (ws : va_W) (sz : Nat) (av : List Value) (ws1 : (Nat → Nat) → va_W) : Prop :=
  Met l y (.code y bytes maxL none :: WALL) { frames := fr, cells := mc, slots := ms, locals := lo } (va_Pc av (fun U => U.heap.size = sz ∧ BC D κ ws U ∧ XN L U)) (va_Qv (fun _ : Nat → Nat => True) (fun qs t => BC D κ (ws1 qs) t ∧ va_D (va_A ws sz) (ws1 qs)) (va_A ws sz)) mc ms (va_A ws sz)
section Ctor
variable {p : Program} {l : Launch} {e : Env} {R : Room} {s : State} {m : MethodId} {args : Array Value} {below : List Frame} {meth : Method} {c : Code} {H : Heap} {locs : List Loc} {cs ss : Nat} {Q : State → Prop} {cc : ByteArray} {nL pc : Nat} {ls : Array Slot} {rest : List Value} {own : String} {idx : Nat} {D : va_G} {κ : K4} {ws : va_W} {A : Nat → Prop} {sz : Nat}
theorem CM.of {y : MethodName} {bytes : ByteArray} {maxL fr lo mc ms : Nat} {L : List (String × Nat × MethodName)} {av : List Value} {ws1 : (Nat → Nat) → va_W} (hy : plainName y.cls = true) (hL : (lg_sl av).length ≤ maxL) (hi : y.name = "<init>")
    (body : ∀ (p : Program) (e : Env) (s : State) (m : MethodId) (below : List Frame) (meth : Method) (c : Code) (ls : Array Slot), CallFix p m c bytes maxL s av.toArray WALL y.cls → meth.sig.returnType = none → meth.locks = false → meth.name = "<init>" → s.heap.size = sz → XN L s → ∀ (H : Heap) (locs : List Loc), BW D κ ws (va_A ws sz) s H locs → lv_has ls maxL (lv_args 0 av) →
      W p l e { frames := fr, cells := mc, slots := ms, locals := lo } s m av.toArray below meth c H locs 0 0 (MQ below (va_Qv (fun _ : Nat → Nat => True) (fun qs t => BC D κ (ws1 qs) t ∧ va_D (va_A ws sz) (ws1 qs)) (va_A ws sz)) av.toArray s mc ms (va_A ws sz)) (F0 m 0 ls [])) : CM l y bytes maxL fr lo mc ms D κ L ws sz av ws1 := by
  refine Met.ofW (cc := bytes) (maxL := maxL) (ret := none) hy rfl ?_
  intro p e s m args below meth c s₁ B hml hv
  obtain ⟨rfl, hsz, hW, hX⟩ := hv
  have hC : CallFix p m c bytes maxL s av.toArray WALL y.cls := ⟨B.exec, B.bytes, hml, findClass_of_methodNamed B.named, fun w h => atoms_spec (ws := .code y bytes maxL none :: WALL) B.pre w (List.mem_cons_of_mem _ h)⟩
  rw [lg_entry_eq]
  exact body p e s m below meth c _ hC B.returns B.notSynchronized (by rw [← hi]; exact (name_of_methodNamed B.named B.method).1) hsz hX _ _ (by rw [← hsz]; exact BW.start hW) (lv_entry av hL)
theorem bw_obj (hC : CallFix p m c cc nL s args WALL own) (wl : Cond.methodLink own idx Lib.objectInit ∈ WALL) (hls : ls.size = nL) {a : Addr} (hd : decode cc pc = .ok (.invokespecial idx, 3)) (hf : 1 ≤ R.frames) (hlo : (rest.map fun v => v.category).sum + 12 ≤ R.locals)
    (wi : Cond.instanceMethod Lib.objectInit ∈ WALL) (wc : Cond.code Lib.objectInit ⟨#[0xb1]⟩ 1 none ∈ WALL)
    (kk : W p l e R s m args below meth c H locs cs ss Q (F0 m (pc + 3) ls rest)) : W p l e R s m args below meth c H locs cs ss Q (F0 m pc ls (.ref a :: rest)) :=
  W.objInit hC.1 hC.2.1 hC.2.2.2.1 (hC.2.2.2.2 _ wl) (hC.2.2.2.2 _ wi) (hC.2.2.2.2 _ wc) rfl (hls.trans hC.2.2.1.symm) rfl hd hf (by show 2 * 0 + _ + 12 ≤ _; omega) kk
theorem bw_new {C : String} {T : u_T} {N ci : Nat} {ty : Nat → FieldType} (hC : CallFix p m c cc nL s args WALL own) (hG : BW D κ ws A s H locs) (hin : ∀ w ∈ u_ws C T N, w ∈ WALL) (hty : ∀ k, k < N → parseFieldDescriptor (T k).2.2.1 = some (ty k)) (w1 : Cond.classLink own idx C ∈ WALL) (w2 : Cond.instantiable C N ∈ WALL) (w3 : Cond.initialized C ∈ WALL)
    (hc : vwM[ci]? = some (C, T, N)) {fs : List Value} (hfs : ∀ j, j < N → defaultValue (ty j) = vp_V fs j) (hcells : cs + 1 ≤ R.cells) (hslots : ss + N ≤ R.slots) (hd : decode cc pc = .ok (.new idx, 3))
    (kk : ∀ (q : Nat) (H1 : Heap), BW D κ (ws ++ [(q, .inr (ci, fs))]) A s H1 locs → W p l e R s m args below meth c H1 locs (cs + 1) (ss + N) Q (F0 m (pc + 3) ls (.ref q :: rest))) : W p l e R s m args below meth c H locs cs ss Q (F0 m pc ls rest) :=
  va_new (D := D) (cl := vwM) (ci := ci) (fs := fs) (C := C) (T := T) (N := N) hC.1 hC.2.1 hC.2.2.2.2 hin ty hty hC.2.2.2.1 (hC.2.2.2.2 _ w1) (hC.2.2.2.2 _ w2) (hC.2.2.2.2 _ w3) hG.1 hG.2.1 hG.2.2.1 hG.2.2.2.1 hG.2.2.2.2 hc hfs hcells hslots hd (fun q H1 h1 h2 h3 => kk q H1 ⟨hG.1, h1, h2, h3, hG.2.2.2.2⟩)
theorem bw_nI (hC : CallFix p m c cc nL s args WALL own) (hG : BW D κ ws A s H locs) {N : Nat} (hN : N < 2 ^ 26) (w : Cond.arrayClass .int ∈ WALL) (hcells : cs + 1 ≤ R.cells) (hslots : ss + N ≤ R.slots) (hd : decode cc pc = .ok (.newarray .int, 2))
    (kk : ∀ (q : Nat) (H1 : Heap), BW D κ (ws ++ [(q, .inl (κ.1, N, .inl (fun _ => 0)))]) A s H1 locs → W p l e R s m args below meth c H1 locs (cs + 1) (ss + N) Q (F0 m (pc + 2) ls (.ref q :: rest))) : W p l e R s m args below meth c H locs cs ss Q (F0 m pc ls (.int (nI N) :: rest)) :=
  va_newa (D := D) (cl := vwM) (atype := .int) (N' := N) (a0 := (N, .inl (fun _ => 0))) hC.1 hC.2.1 (hC.2.2.2.2 _ w) rfl hG.1 hG.2.1 hG.2.2.1 hG.2.2.2.1 hG.2.2.2.2 (fun _ => rfl) (nI_pos (by omega)) (nI_clamp (by omega)) (by show N * 4 ≤ _; omega) hcells hslots hd (fun q cA H1 h0 h1 h2 h3 => by
    have e1 := (h0.2 0 (κ.1, .int) rfl).2
    have e2 := (h0.2 4 (cA, .int) rfl).2
    have e3 : κ.1 = cA := Option.some.inj (e1.symm.trans e2)
    subst e3
    exact kk q H1 ⟨hG.1, h1, h2, h3, hG.2.2.2.2⟩)
theorem bw_nJ (hC : CallFix p m c cc nL s args WALL own) (hG : BW D κ ws A s H locs) {N : Nat} (hN : N < 2 ^ 26) (w : Cond.arrayClass .long ∈ WALL) (hcells : cs + 1 ≤ R.cells) (hslots : ss + N ≤ R.slots) (hd : decode cc pc = .ok (.newarray .long, 2))
    (kk : ∀ (q : Nat) (H1 : Heap), BW D κ (ws ++ [(q, .inl (κ.2.1, N, .inr (.inl (fun _ => 0))))]) A s H1 locs → W p l e R s m args below meth c H1 locs (cs + 1) (ss + N) Q (F0 m (pc + 2) ls (.ref q :: rest))) : W p l e R s m args below meth c H locs cs ss Q (F0 m pc ls (.int (nI N) :: rest)) :=
  va_newa (D := D) (cl := vwM) (atype := .long) (N' := N) (a0 := (N, .inr (.inl (fun _ => 0)))) hC.1 hC.2.1 (hC.2.2.2.2 _ w) rfl hG.1 hG.2.1 hG.2.2.1 hG.2.2.2.1 hG.2.2.2.2 (fun _ => rfl) (nI_pos (by omega)) (nI_clamp (by omega)) (by show N * 8 ≤ _; omega) hcells hslots hd (fun q cA H1 h0 h1 h2 h3 => by
    have e1 := (h0.2 1 (κ.2.1, .long) rfl).2
    have e2 := (h0.2 4 (cA, .long) rfl).2
    have e3 : κ.2.1 = cA := Option.some.inj (e1.symm.trans e2)
    rw [← e3] at h1 h2
    exact kk q H1 ⟨hG.1, h1, h2, h3, hG.2.2.2.2⟩)
theorem bw_nZ (hC : CallFix p m c cc nL s args WALL own) (hG : BW D κ ws A s H locs) {N : Nat} (hN : N < 2 ^ 28) (w : Cond.arrayClass .boolean ∈ WALL) (hcells : cs + 1 ≤ R.cells) (hslots : ss + N ≤ R.slots) (hd : decode cc pc = .ok (.newarray .boolean, 2))
    (kk : ∀ (q : Nat) (H1 : Heap), BW D κ (ws ++ [(q, .inl (κ.2.2.1, N, .inl (fun _ => 0)))]) A s H1 locs → W p l e R s m args below meth c H1 locs (cs + 1) (ss + N) Q (F0 m (pc + 2) ls (.ref q :: rest))) : W p l e R s m args below meth c H locs cs ss Q (F0 m pc ls (.int (nI N) :: rest)) :=
  va_newa (D := D) (cl := vwM) (atype := .boolean) (N' := N) (a0 := (N, .inl (fun _ => 0))) hC.1 hC.2.1 (hC.2.2.2.2 _ w) rfl hG.1 hG.2.1 hG.2.2.1 hG.2.2.2.1 hG.2.2.2.2 (fun _ => rfl) (nI_pos (by omega)) (nI_clamp (by omega)) (by show N * 1 ≤ _; omega) hcells hslots hd (fun q cA H1 h0 h1 h2 h3 => by
    have e1 := (h0.2 2 (κ.2.2.1, .boolean) rfl).2
    have e2 := (h0.2 4 (cA, .boolean) rfl).2
    have e3 : κ.2.2.1 = cA := Option.some.inj (e1.symm.trans e2)
    rw [← e3] at h1 h2
    exact kk q H1 ⟨hG.1, h1, h2, h3, hG.2.2.2.2⟩)
theorem bw_put {C ref : String} {T : u_T} {N ci : Nat} {ty0 : Nat → FieldType} (k : Nat) (hk : k < N) (q0 : Nat) {a : Nat} {fs : List Value} (hC : CallFix p m c cc nL s args WALL own) (hG : BW D κ ws A s H locs) (hin : ∀ w ∈ u_ws C T N, w ∈ WALL) (hty : ∀ k, k < N → parseFieldDescriptor (T k).2.2.1 = some (ty0 k)) (hnm : ∀ a, a < N → ∀ b, b < N → a ≠ b → (T a).2.1 ≠ (T b).2.1)
    (he : ws[q0]? = some (a, .inr (ci, fs))) (hc : vwM[ci]? = some (C, T, N)) (wl : Cond.fieldLink own idx ref (T k).2.1 (T k).2.2.1 ∈ WALL) (hsame : (T k).1 = ref) (hfin : (T k).2.2.2 = false ∨ (meth.name = "<init>" ∧ (T k).1 = own)) {ty : FieldType} {v : Value} (hd : parseFieldDescriptor (T k).2.2.1 = some ty) (hn : narrow ty v = v) (hfit : fits ty v = true) (hl : k < fs.length)
    (hdg : decode cc pc = .ok (.putfield idx, 3)) (kk : ∀ (H1 : Heap) (locs1 : List Loc), BW D κ (ws.set q0 (a, .inr (ci, fs.set k v))) A s H1 locs1 → W p l e R s m args below meth c H1 locs1 cs ss Q (F0 m (pc + 3) ls rest)) : W p l e R s m args below meth c H locs cs ss Q (F0 m pc ls (v :: .ref a :: rest)) := by
  subst hsame
  by_cases hf : (T k).2.2.2 = false
  · exact va_put (D := D) (ci := ci) (v := v) (ty := ty) (C := C) (T := T) (N := N) hC.1 hC.2.1 hC.2.2.2.2 hin ty0 hty hnm hC.2.2.2.1 hG.1 hG.2.1 hG.2.2.1 hG.2.2.2.1 q0 he hc k hk (hC.2.2.2.2 _ wl) (fun _ h => h) hf hd hn hfit hl hdg (fun H1 locs1 h1 h2 h3 => kk H1 locs1 ⟨hG.1, h1, h2, h3, hG.2.2.2.2⟩)
  · have hf2 : (T k).2.2.2 = true := by cases hq : (T k).2.2.2; exact absurd hq hf; rfl
    have hr := hfin.resolve_left hf
    exact va_putF (D := D) (ci := ci) (v := v) (ty := ty) (C := C) (T := T) (N := N) hC.1 hC.2.1 hC.2.2.2.2 hin ty0 hty hnm hC.2.2.2.1 hG.1 hG.2.1 hG.2.2.1 hG.2.2.2.1 q0 he hc k hk (hC.2.2.2.2 _ wl) (fun _ h => h) hf2 hr.1 hr.2 hd hn hfit hl hdg (fun H1 locs1 h1 h2 h3 => kk H1 locs1 ⟨hG.1, h1, h2, h3, hG.2.2.2.2⟩)
theorem bw_ast (q0 : Nat) {a n : Nat} {f : Nat → Int32} {i : Nat} {x : Int32} (hC : CallFix p m c cc nL s args WALL own) (hG : BW D κ ws A s H locs) (ha : ws[q0]? = some (a, .inl (κ.1, n, .inl f))) (hi : i < n) (hn : n < 2 ^ 31) (hd : decode cc pc = .ok (.iastore, 1))
    (kk : ∀ (H1 : Heap) (locs1 : List Loc), BW D κ (ws.set q0 (a, .inl (κ.1, n, .inl (va_up f i x)))) A s H1 locs1 → W p l e R s m args below meth c H1 locs1 cs ss Q (F0 m (pc + 1) ls rest)) : W p l e R s m args below meth c H locs cs ss Q (F0 m pc ls (.int x :: .int (nI i) :: .ref a :: rest)) :=
  va_iast hC.1 hC.2.1 hG.1 hG.2.1 hG.2.2.1 hG.2.2.2.1 q0 0 ha rfl (vp_in_nI hi hn) hd (fun H1 locs1 h1 h2 h3 => by
    have e9 : (nI i).toNatClampNeg = i := nI_clamp (by omega)
    rw [e9, fnI] at h1 h2
    exact kk H1 locs1 ⟨hG.1, h1, h2, h3, hG.2.2.2.2⟩)
theorem bw_get {C ref : String} {T : u_T} {N ci : Nat} (k : Nat) (hk : k < N) (q0 : Nat) {a : Nat} {fs : List Value} {v : Value} (hC : CallFix p m c cc nL s args WALL own) (hG : BW D κ ws A s H locs) (hin : ∀ w ∈ u_ws C T N, w ∈ WALL)
    (he : ws[q0]? = some (a, .inr (ci, fs))) (hc : vwM[ci]? = some (C, T, N)) (wl : Cond.fieldLink own idx ref (T k).2.1 (T k).2.2.1 ∈ WALL) (hsame : (T k).1 = ref) (hv : fs[k]? = some v) (hdg : decode cc pc = .ok (.getfield idx, 3))
    (kk : W p l e R s m args below meth c H locs cs ss Q (F0 m (pc + 3) ls (v :: rest))) : W p l e R s m args below meth c H locs cs ss Q (F0 m pc ls (.ref a :: rest)) := by
  subst hsame
  exact va_get (D := D) (ci := ci) (v := v) (C := C) (T := T) (N := N) hC.1 hC.2.1 hC.2.2.2.2 hin hC.2.2.2.1 hG.1 hG.2.1 q0 he hc k hk (hC.2.2.2.2 _ wl) (fun _ h => h) hv hdg kk
theorem bw_end {ws0 ws2 : va_W} {mc ms : Nat} {ws1 : (Nat → Nat) → va_W} {qs : Nat → Nat} (hC : CallFix p m c cc nL s args WALL own) (hG : BW D κ ws2 (va_A ws0 sz) s H locs) (hq : ws2 = ws1 qs) (hr : meth.sig.returnType = none) (hk : meth.locks = false) (hcs : cs ≤ mc) (hss : ss ≤ ms) (hd : decode cc pc = .ok (.return_, 1)) :
    W p l e R s m args below meth c H locs cs ss (MQ below (va_Qv (fun _ : Nat → Nat => True) (fun qs t => BC D κ (ws1 qs) t ∧ va_D (va_A ws0 sz) (ws1 qs)) (va_A ws0 sz)) args s mc ms (va_A ws0 sz)) (F0 m pc ls []) := by
  subst hq
  refine W.widen (k := mc) (n := ms) hcs hss ?_
  exact W.vret hC.1 hC.2.1 hr (fun t ht hW => ⟨⟨qs, rfl, trivial, BC.of hG ht hW.alike, hG.2.2.1⟩, hG.2.2.2.1.F ht⟩) hG.2.2.2.1.2.2 hd hk
/-- behind a constructor's call: what came back stands behind the rest -/
theorem bw_run {av : Array Value} {st0 : List Value} {wc wr : va_W} {ws1 : (Nat → Nat) → va_W} {mc ms : Nat} (hG : BW D κ ws A s H locs) (isC isR : List Nat) (hCs : isC.map (fun i => ws[i]?) = wc.map some) (hRs : isR.map (fun i => ws[i]?) = wr.map some) (hn : va_nd isR = true) (hdis : ∀ i ∈ isR, i ∉ isC)
    (hr : va_Run p l e R s m args below meth c H locs cs ss mc ms (F0 m pc ls st0) rest (va_Qv (fun _ : Nat → Nat => True) (fun qs t => BC D κ (ws1 qs) t ∧ va_D (va_A wc H.size) (ws1 qs)) (va_A wc H.size) av) (va_A wc H.size))
    (kk : ∀ (qs : Nat → Nat) (H1 : Heap) (locs1 : List Loc), BW D κ (wr ++ ws1 qs) A s H1 locs1 → W p l e R s m args below meth c H1 locs1 (cs + mc) (ss + ms) Q (F0 m (pc + 3) ls rest)) : W p l e R s m args below meth c H locs cs ss Q (F0 m pc ls st0) := by
  have hF := va_free hG.2.2.1 hG.2.2.2.1 hG.2.2.2.2 isC hCs
  refine va_callv hr hG.2.2.2.1 (fun q _ h => hF q h) hF (fun qs t H1 locs1 ht hvm _ hB hz hk hS => ?_)
  obtain ⟨⟨hK1, hP1, hD1⟩, hD2⟩ := hB
  rw [ht] at hP1
  obtain ⟨hP, hD⟩ := va_join hG.2.1 hG.2.2.1 isC isR hCs hRs hn hdis hk hF hP1 hD2
  exact kk qs H1 locs1 ⟨hG.1, hP, hD, hS, hG.2.2.2.2⟩
end Ctor
end
section
/-! WHAT STAYS THROUGHOUT: words that are no list's, statics, texts -/
def X_IA : String := "java/lang/IllegalArgumentException"
def X_IS : String := "java/lang/IllegalStateException"
def X_IO : String := "java/lang/IndexOutOfBoundsException"
def X_nm : List String := ["java/lang/RuntimeException", "java/lang/Exception"]
def EVC : List (String × String) := [("java/lang/IllegalArgumentException", "java/lang/IllegalArgumentException"), ("java/lang/IllegalStateException", "java/lang/IllegalStateException"), ("java/lang/IndexOutOfBoundsException", "java/lang/IndexOutOfBoundsException"), ("TollgateModel$Account", "java/lang/Object")]
def EVD : List MethodName := [⟨"java/lang/RuntimeException", "<init>", "(Ljava/lang/String;)V"⟩, ⟨"java/lang/Exception", "<init>", "(Ljava/lang/String;)V"⟩, ⟨"java/lang/Throwable", "<init>", "(Ljava/lang/String;)V"⟩]
def EVN : List (String × String) := [("java/lang/IllegalArgumentException", "java/lang/IllegalStateException"), ("java/lang/IllegalArgumentException", "java/lang/IndexOutOfBoundsException"), ("java/lang/IllegalStateException", "java/lang/IllegalArgumentException"), ("java/lang/IllegalStateException", "java/lang/IndexOutOfBoundsException"), ("java/lang/IndexOutOfBoundsException", "java/lang/IllegalArgumentException"), ("java/lang/IndexOutOfBoundsException", "java/lang/IllegalStateException")]
def EVS : List (Nat × String) := [(343, "what is 0 to 5"), (404, "no such account"), (327, "what is 0 to 4"), (196, "no such entry"), (220, "what is 0 to 3"), (222, "no such leg"), (329, "no such line"), (351, "no such kind"), (131, "no such day"), (73, "no such currency or rate"), (84, "an account has that currency"), (91, "no such kind or currency"), (96, "there are as many accounts as there can be"), (107, "no such floor"), (117, "the account is below that floor"), (129, "the account is of another currency than 0"), (136, "no such note"), (415, "no such amount"), (153, "no draft that takes a leg"), (170, "the draft cannot be posted"), (202, "a closing is not turned back"), (422, "no such entry can be made today"), (243, "no such hold can be"), (246, "there were as many holds as there can be"), (252, "less is to be had"), (406, "no such hold"), (263, "that cannot be taken from the hold"), (412, "the hold is not open"), (275, "no closing up to that day, or not into that account"), (284, "that day is locked, or no entry can be made"), (296, "nothing is closed"), (302, "there are as many lines as there can be"), (417, "days are 0 to 30"), (359, "no such day from today on")]
def ET (U : State) : Prop := (∀ q ∈ EVC, va_Nw (.castable q.1 q.2) U) ∧ (∀ x ∈ EVD, va_Nw (.declares x) U) ∧ (∀ q ∈ EVN, va_Nc q.1 q.2 U) ∧ (∀ q ∈ EVS, ∃ sa, vk_R RX7 q.1 q.2 sa U) ∧ va_AO "java/lang/Object" U
theorem ET.warm {s U : State} (hW : s.WarmedH U.vm) (h : ET s) : ET U :=
  ⟨fun q hq => va_Nw.warmC hW (h.1 q hq), fun x hx => va_Nw.warmD hW (h.2.1 x hx), fun q hq => (h.2.2.1 q hq).moved hW.alike, fun q hq => by
    obtain ⟨sa, hs⟩ := h.2.2.2.1 q hq
    exact ⟨sa, vk_R.warm hW hs⟩, h.2.2.2.2.moved hW.alike⟩
theorem ET.same {u U : State} (hv : u.vm = U.vm) (h : ET u) : ET U :=
  ⟨fun q hq => va_Nw.same rfl hv (h.1 q hq), fun x hx => va_Nw.same rfl hv (h.2.1 x hx), fun q hq => (h.2.2.1 q hq).moved (by rw [hv]; exact Vm.Alike.refl _), fun q hq => by
    obtain ⟨sa, hs⟩ := h.2.2.2.1 q hq
    exact ⟨sa, vk_R.same hv.symm hs⟩, h.2.2.2.2.moved (by rw [hv]; exact Vm.Alike.refl _)⟩
/-- the empty array that the lists begin with -/
def ea_X (E0 : Nat) (U : State) (H : Heap) : Prop := ∃ cell : Cell, H[E0]? = some cell ∧ U.isArrayOf cell (.object "java/lang/Object") ∧ cell.slots.size.toInt32 = 0
theorem ea_X.moved {E0 : Nat} {u U : State} {H : Heap} (hvm : u.vm.Alike U.vm) (h : ea_X E0 u H) : ea_X E0 U H := by
  obtain ⟨cell, h1, h2, h3⟩ := h
  exact ⟨cell, h1, State.isArrayOf_alike hvm h2, h3⟩
def EA (E0 : Nat) (D : va_G) (κ : K4) (A : Nat → Prop) (U : State) (H : Heap) : Prop :=
  vx_Zq Bundle.tN "UNASSIGNED_STACK" Bundle.steD A U H ∧ vx_Zq Bundle.tN "SUPPRESSED_SENTINEL" Bundle.listD A U H ∧
  va_Z "java/util/ArrayList" "DEFAULTCAPACITY_EMPTY_ELEMENTDATA" "[Ljava/lang/Object;" (.ref E0) A U H ∧ ea_X E0 U H ∧ ¬ A E0
theorem ea_X.kept {E0 : Nat} {A : Nat → Prop} {U : State} {H H1 : Heap} (h : ea_X E0 U H) (hn : ¬ A E0) (hq : ∀ a : Nat, a < H.size → ¬ A a → H1[a]? = H[a]?) : ea_X E0 U H1 := by
  obtain ⟨cell, h1, h2, h3⟩ := h
  exact ⟨cell, by rw [hq E0 (Array.getElem?_eq_some_iff.mp h1).1 hn]; exact h1, h2, h3⟩
theorem EA.call {E0 : Nat} {D : va_G} {κ : K4} {A B : Nat → Prop} {s : State} {H : Heap} {locs : List Loc} (h : EA E0 D κ A s s.heap) (hS : va_S A s.heap H locs) (hAB : ∀ q, B q → A q) {U : State} (hU : U.heap = H) (hv : s.vm.Alike U.vm) : EA E0 D κ B U U.heap := by
  obtain ⟨h1, h2, h3, h4, h5⟩ := h
  have hq : ∀ a : Nat, a < s.heap.size → ¬ A a → U.heap[a]? = s.heap[a]? := fun a ha hn => by rw [hU]; exact hS.2.1 a ha hn
  exact ⟨((h1.kept hq).moved hv).narrow hAB, ((h2.kept hq).moved hv).narrow hAB, ((h3.kept hq).moved hv).narrow hAB, (h4.kept h5 hq).moved hv, fun z => h5 (hAB _ z)⟩
/-- what holds where a method starts -/
def PB (E0 : Nat) (D : va_G) (κ : K4) (ws : va_W) (sz : Nat) (av : List Value) : Array Value → State → Prop := va_Pc av (fun U => U.heap.size = sz ∧ BC D κ ws U ∧ EA E0 D κ (va_A ws sz) U U.heap ∧ ET U)
theorem PB.blind {E0 : Nat} {D : va_G} {κ : K4} {ws : va_W} {sz : Nat} {av : List Value} : FrameBlind (PB E0 D κ ws sz av) :=
  fun x U g mk q => ⟨q.1, q.2.1, ⟨va_K.moved (u := U) (U := U.calling g mk x) (Vm.Alike.refl U.vm) q.2.2.1.1, q.2.2.1.2⟩,
    ⟨(vx_Zq.moved (u := U) (U := U.calling g mk x) (Vm.Alike.refl U.vm) q.2.2.2.1.1), (vx_Zq.moved (u := U) (U := U.calling g mk x) (Vm.Alike.refl U.vm) q.2.2.2.1.2.1), (va_Z.moved (u := U) (U := U.calling g mk x) (Vm.Alike.refl U.vm) q.2.2.2.1.2.2.1), (ea_X.moved (u := U) (U := U.calling g mk x) (Vm.Alike.refl U.vm) q.2.2.2.1.2.2.2.1), q.2.2.2.1.2.2.2.2⟩, ET.same (u := U) (U := U.calling g mk x) rfl q.2.2.2.2⟩
/-- a part of a world, and the rest of it -/
def Cut (ws wc wr : va_W) : Prop := ∃ isC isR : List Nat, isC.map (fun i => ws[i]?) = wc.map some ∧ isR.map (fun i => ws[i]?) = wr.map some ∧ va_nd isR = true ∧ (∀ i ∈ isR, i ∉ isC) ∧ va_nd isC = true
theorem Cut.idx {ws wc wr : va_W} (isC isR : List Nat) (h1 : isC.map (fun i => ws[i]?) = wc.map some) (h2 : isR.map (fun i => ws[i]?) = wr.map some) (h3 : va_nd isR = true) (h4 : ∀ i ∈ isR, i ∉ isC) (h5 : va_nd isC = true) : Cut ws wc wr := ⟨isC, isR, h1, h2, h3, h4, h5⟩
theorem cut_range (ws wr : va_W) : (List.range ws.length).map (fun i => (ws ++ wr)[i]?) = ws.map some := by
  apply List.ext_getElem?
  intro i
  rw [List.getElem?_map, List.getElem?_map]
  rcases Nat.lt_or_ge i ws.length with h | h
  · rw [List.getElem?_range h]
    show some ((ws ++ wr)[i]?) = _
    rw [List.getElem?_append_left h, List.getElem?_eq_getElem h]
    rfl
  · rw [List.getElem?_eq_none (by simpa using h), List.getElem?_eq_none (by simpa using h)]
    rfl
theorem Cut.all (n : Nat) {ws : va_W} (hn : ws.length = n) (hd : va_nd (List.range n) = true) : Cut ws ws [] := ⟨List.range n, [], by subst hn; have := cut_range ws []; rw [List.append_nil] at this; exact this, rfl, rfl, fun i h => by simp at h, hd⟩
theorem Cut.one (n : Nat) {wc : va_W} {x : Nat × va_E} (hn : wc.length = n) (hd : va_nd (List.range n) = true) : Cut (wc ++ [x]) wc [x] := ⟨List.range n, [n], by subst hn; exact cut_range wc [x], by subst hn; simp, rfl, fun i h => by simp at h; subst h; simp, hd⟩
section Bodies
variable {l : Launch} {E0 : Nat} {D : va_G} {κ : K4} {ws : va_W} {sz : Nat} {av : List Value}
abbrev RM (fr lo mc ms : Nat) : Room := { frames := fr, cells := mc, slots := ms, locals := lo }
/-- a contract: it returns -/
def NM (l : Launch) (y : MethodName) (bytes : ByteArray) (maxL : Nat) (ret : Option FieldType) (fr lo mc ms : Nat) (E0 : Nat) (D : va_G) (κ : K4) (ws : va_W) (sz : Nat) (av : List Value) (Qc : Array Value → State → Outcome → State → Prop) : Prop :=
  Met l y (.code y bytes maxL ret :: WALL) (RM fr lo mc ms) (PB E0 D κ ws sz av) Qc mc ms (va_A ws sz)
/-- .. of a method with handlers -/
def NH (l : Launch) (y : MethodName) (bytes : ByteArray) (maxL : Nat) (ret : Option FieldType) (hh : List (Nat × Nat × Nat × Nat)) (fr lo mc ms : Nat) (E0 : Nat) (D : va_G) (κ : K4) (ws : va_W) (sz : Nat) (av : List Value) (Qc : Array Value → State → Outcome → State → Prop) : Prop :=
  Met l y (.codeWith y bytes maxL ret hh :: WALL) (RM fr lo mc ms) (PB E0 D κ ws sz av) Qc mc ms (va_A ws sz)
def XC1 (E : String) (A : Nat → Prop) : String → State → State → Prop := vx_X (fun _ : Unit => True) (fun E' _ _ => E' = E) A
/-- a contract: it throws E -/
def XM (l : Launch) (y : MethodName) (bytes : ByteArray) (maxL : Nat) (ret : Option FieldType) (fr lo mc ms : Nat) (E0 : Nat) (D : va_G) (κ : K4) (ws : va_W) (sz : Nat) (av : List Value) (E : String) (Qc : Array Value → State → Outcome → State → Prop) : Prop :=
  vx_Met l y (.code y bytes maxL ret :: WALL) (RM fr lo mc ms) (PB E0 D κ ws sz av) Qc (XC1 E (va_A ws sz)) mc ms (va_A ws sz)
abbrev W1 : Type := Nat → Nat
abbrev QI (D : va_G) (κ : K4) (ws : va_W) (sz : Nat) (R : Int32) (ws1 : W1 → va_W) : Array Value → State → Outcome → State → Prop := va_Qi (fun r (_ : W1) => r = R) (fun qs t => BC D κ (ws1 qs) t ∧ va_D (va_A ws sz) (ws1 qs)) (va_A ws sz)
abbrev QL (D : va_G) (κ : K4) (ws : va_W) (sz : Nat) (R : Int64) (ws1 : W1 → va_W) : Array Value → State → Outcome → State → Prop := va_Ql (fun r (_ : W1) => r = R) (fun qs t => BC D κ (ws1 qs) t ∧ va_D (va_A ws sz) (ws1 qs)) (va_A ws sz)
abbrev QD (D : va_G) (κ : K4) (ws : va_W) (sz : Nat) (R : UInt64) (ws1 : W1 → va_W) : Array Value → State → Outcome → State → Prop := va_Qd (fun r (_ : W1) => r = R) (fun qs t => BC D κ (ws1 qs) t ∧ va_D (va_A ws sz) (ws1 qs)) (va_A ws sz)
abbrev QV (D : va_G) (κ : K4) (ws : va_W) (sz : Nat) (ws1 : W1 → va_W) : Array Value → State → Outcome → State → Prop := va_Qv (fun _ : W1 => True) (fun qs t => BC D κ (ws1 qs) t ∧ va_D (va_A ws sz) (ws1 qs)) (va_A ws sz)
abbrev QR (D : va_G) (κ : K4) (ws : va_W) (sz : Nat) (R : W1 → Nat) (ws1 : W1 → va_W) : Array Value → State → Outcome → State → Prop := va_Qr (fun _ : W1 => True) (fun qs a t => a = R qs ∧ BC D κ (ws1 qs) t ∧ va_D (va_A ws sz) (ws1 qs)) (va_A ws sz)
abbrev NI (ws : va_W) (sz : Nat) : Array Value → State → Outcome → State → Prop := va_Qi (fun _ (_ : Unit) => False) (fun _ _ => True) (va_A ws sz)
abbrev NL (ws : va_W) (sz : Nat) : Array Value → State → Outcome → State → Prop := va_Ql (fun _ (_ : Unit) => False) (fun _ _ => True) (va_A ws sz)
abbrev NV (ws : va_W) (sz : Nat) : Array Value → State → Outcome → State → Prop := va_Qv (fun _ : Unit => False) (fun _ _ => True) (va_A ws sz)
theorem NM.of {y : MethodName} {bytes : ByteArray} {maxL : Nat} {ret : Option FieldType} {fr lo mc ms : Nat} {Qc : Array Value → State → Outcome → State → Prop} (hy : plainName y.cls = true) (hL : (lg_sl av).length ≤ maxL)
    (body : ∀ (p : Program) (e : Env) (s : State) (m : MethodId) (below : List Frame) (meth : Method) (c : Code) (ls : Array Slot), CallFix p m c bytes maxL s av.toArray WALL y.cls → meth.sig.returnType = ret → meth.locks = false → (y.name = "<init>" → meth.name = "<init>") → s.heap.size = sz → EA E0 D κ (va_A ws sz) s s.heap → ET s → ∀ (H : Heap) (locs : List Loc), BW D κ ws (va_A ws sz) s H locs → lv_has ls maxL (lv_args 0 av) →
      W p l e (RM fr lo mc ms) s m av.toArray below meth c H locs 0 0 (MQ below Qc av.toArray s mc ms (va_A ws sz)) (F0 m 0 ls [])) : NM l y bytes maxL ret fr lo mc ms E0 D κ ws sz av Qc := by
  refine Met.ofW (cc := bytes) (maxL := maxL) (ret := ret) hy rfl ?_
  intro p e s m args below meth c s₁ B hml hv
  obtain ⟨rfl, hsz, hW, hE, hT⟩ := hv
  have hC : CallFix p m c bytes maxL s av.toArray WALL y.cls := ⟨B.exec, B.bytes, hml, findClass_of_methodNamed B.named, fun w h => atoms_spec (ws := .code y bytes maxL ret :: WALL) B.pre w (List.mem_cons_of_mem _ h)⟩
  rw [lg_entry_eq]
  exact body p e s m below meth c _ hC B.returns B.notSynchronized (fun hi => by rw [← hi]; exact (name_of_methodNamed B.named B.method).1) hsz hE hT _ _ (by rw [← hsz]; exact BW.start hW) (lv_entry av hL)
theorem NH.of {y : MethodName} {bytes : ByteArray} {maxL : Nat} {ret : Option FieldType} {hh : List (Nat × Nat × Nat × Nat)} {fr lo mc ms : Nat} {Qc : Array Value → State → Outcome → State → Prop} (hy : plainName y.cls = true) (hL : (lg_sl av).length ≤ maxL)
    (body : ∀ (p : Program) (e : Env) (s : State) (m : MethodId) (below : List Frame) (meth : Method) (c : Code) (ls : Array Slot), CallFix p m c bytes maxL s av.toArray WALL y.cls → meth.sig.returnType = ret → meth.locks = false → c.exceptionTable.toList = tableOf hh → s.heap.size = sz → EA E0 D κ (va_A ws sz) s s.heap → ET s → ∀ (H : Heap) (locs : List Loc), BW D κ ws (va_A ws sz) s H locs → lv_has ls maxL (lv_args 0 av) →
      W p l e (RM fr lo mc ms) s m av.toArray below meth c H locs 0 0 (MQ below Qc av.toArray s mc ms (va_A ws sz)) (F0 m 0 ls [])) : NH l y bytes maxL ret hh fr lo mc ms E0 D κ ws sz av Qc := by
  unfold NH Met
  refine MetFree.of_bodyS (code := bytes) (maxLocals := maxL) (ret := ret) hy ?_ ?_
  · intro args s m h hn
    obtain ⟨m9, meth, c, hn9, h1, h2, h3, h4, -, h5, h6, -⟩ := Cond.codeWith_spec (atoms_spec (ws := .codeWith y bytes maxL ret hh :: WALL) h _ List.mem_cons_self)
    cases hn.symm.trans hn9
    exact ⟨meth, c, h1, h2, h3, h4, h5, h6⟩
  · intro p e s m args below meth c s₁ B hml hv _
    obtain ⟨rfl, hsz, hW, hE, hT⟩ := hv
    have hh0 : s₁.heap = s.heap := by rw [B.state]; rfl
    have hC : CallFix p m c bytes maxL s av.toArray WALL y.cls := ⟨B.exec, B.bytes, hml, findClass_of_methodNamed B.named, fun w h => atoms_spec (ws := .codeWith y bytes maxL ret hh :: WALL) B.pre w (List.mem_cons_of_mem _ h)⟩
    have ht := vx_table (x := y) B (atoms_spec (ws := .codeWith y bytes maxL ret hh :: WALL) B.pre _ List.mem_cons_self)
    have K := body p e s m below meth c _ hC B.returns B.notSynchronized ht hsz hE hT _ _ (by rw [← hsz]; exact BW.start hW) (lv_entry av hL)
    rw [← lg_entry_eq] at K
    obtain ⟨t, a1, o, b1, b2, b3⟩ := K s₁ hh0 (Stand.of_body B)
    exact ⟨t, o, a1, b1, b2, ⟨b3.1, b3.2⟩⟩
theorem XM.of {y : MethodName} {bytes : ByteArray} {maxL : Nat} {ret : Option FieldType} {fr lo mc ms : Nat} {E : String} {Qc : Array Value → State → Outcome → State → Prop} (hy : plainName y.cls = true) (hL : (lg_sl av).length ≤ maxL)
    (body : ∀ (p : Program) (e : Env) (s : State) (m : MethodId) (below : List Frame) (meth : Method) (c : Code) (ls : Array Slot), CallFix p m c bytes maxL s av.toArray WALL y.cls → meth.locks = false → (∀ x ∈ c.exceptionTable.toList, False) → s.heap.size = sz → EA E0 D κ (va_A ws sz) s s.heap → ET s → ∀ (H : Heap) (locs : List Loc), BW D κ ws (va_A ws sz) s H locs → lv_has ls maxL (lv_args 0 av) →
      W p l e (RM fr lo mc ms) s m av.toArray below meth c H locs 0 0 (vx_MQ below Qc (XC1 E (va_A ws sz)) av.toArray s mc ms (va_A ws sz)) (F0 m 0 ls [])) : XM l y bytes maxL ret fr lo mc ms E0 D κ ws sz av E Qc := by
  refine vx_ofW (cc := bytes) (maxL := maxL) (ret := ret) hy rfl ?_
  intro p e s m args below meth c s₁ B hml ht hv
  obtain ⟨rfl, hsz, hW, hE, hT⟩ := hv
  have hC : CallFix p m c bytes maxL s av.toArray WALL y.cls := ⟨B.exec, B.bytes, hml, findClass_of_methodNamed B.named, fun w h => atoms_spec (ws := .code y bytes maxL ret :: WALL) B.pre w (List.mem_cons_of_mem _ h)⟩
  rw [lg_entry_eq]
  exact body p e s m below meth c _ hC B.notSynchronized ht hsz hE hT _ _ (by rw [← hsz]; exact BW.start hW) (lv_entry av hL)
end Bodies
section Calls
variable {p : Program} {l : Launch} {e : Env} {R : Room} {s : State} {m : MethodId} {args : Array Value} {below : List Frame} {meth : Method} {c : Code} {H : Heap} {locs : List Loc} {cs ss : Nat} {Q : State → Prop} {cc : ByteArray} {nL pc : Nat} {ls : Array Slot} {rest st0 : List Value} {own : String} {idx : Nat} {E0 : Nat} {D : va_G} {κ : K4} {ws wc wr : va_W} {A : Nat → Prop}
  {y : MethodName} {bytes : ByteArray} {maxL : Nat} {ret : Option FieldType} {fr lo mc ms : Nat} {As : List Value} {b : Nat} {Qc : Array Value → State → Outcome → State → Prop} {E : String}
theorem cut_free (hG : BW D κ ws A s H locs) (hcut : Cut ws wc wr) : ∀ q, va_A wc H.size q → A q := by
  obtain ⟨isC, isR, h1, -⟩ := hcut
  exact va_free hG.2.2.1 hG.2.2.2.1 hG.2.2.2.2 isC h1
theorem cut_BW (hG : BW D κ ws A s H locs) (hcut : Cut ws wc wr) : BW D κ wc A s H locs := by
  obtain ⟨isC, isR, h1, -, -, -, h5⟩ := hcut
  exact hG.at isC h5 h1
theorem cut_rest (hG : BW D κ ws A s H locs) (hcut : Cut ws wc wr) : BW D κ wr A s H locs := by
  obtain ⟨isC, isR, h1, h2, h3, -, -⟩ := hcut
  exact hG.at isR h3 h2
/-- the rest of a world, and what came back -/
theorem cut_join (hG : BW D κ ws A s H locs) (hcut : Cut ws wc wr) {w1 : va_W} {t : State} {H1 : Heap} {locs1 : List Loc} (ht : t.heap = H1) (hB : BC D κ w1 t ∧ va_D (va_A wc H.size) w1) (hk : ∀ q : Nat, q < H.size → ¬ va_A wc H.size q → H1[q]? = H[q]?) (hS : va_S A s.heap H1 locs1) : BW D κ (wr ++ w1) A s H1 locs1 := by
  have hF := cut_free hG hcut
  obtain ⟨isC, isR, h1, h2, h3, h4, -⟩ := hcut
  obtain ⟨⟨hK1, hP1, hD1⟩, hD2⟩ := hB
  rw [ht] at hP1
  obtain ⟨hP, hD⟩ := va_join hG.2.1 hG.2.2.1 isC isR h1 h2 h3 h4 hk hF hP1 hD2
  exact ⟨hG.1, hP, hD, hS, hG.2.2.2.2⟩
theorem cut_kept (hG : BW D κ ws A s H locs) (hcut : Cut ws wc wr) {H1 : Heap} {locs1 : List Loc} (hk : ∀ q : Nat, q < H.size → ¬ va_A wc H.size q → H1[q]? = H[q]?) (hS : va_S A s.heap H1 locs1) : BW D κ wr A s H1 locs1 := by
  have hF := cut_free hG hcut
  obtain ⟨isC, isR, h1, h2, h3, h4, -⟩ := hcut
  have hP0 : va_P D vwM [] H1 := fun k q h => by simp at h
  have hD0 : va_D (va_A wc H.size) [] := ⟨fun i j p q h => by simp at h, fun k q h => by simp at h⟩
  obtain ⟨hP, hD⟩ := va_join hG.2.1 hG.2.2.1 isC isR h1 h2 h3 h4 hk hF hP0 hD0
  rw [List.append_nil] at hP hD
  exact ⟨hG.1, hP, hD, hS, hG.2.2.2.2⟩
theorem PB.to (hG : BW D κ ws A s H locs) (hE : EA E0 D κ A s s.heap) (hT : ET s) (hcut : Cut ws wc wr) (av : List Value) : ∀ U : State, U.heap = H → s.WarmedH U.vm → PB E0 D κ wc H.size av av.toArray U := by
  intro U hU hW
  have hc := cut_BW hG hcut
  exact ⟨rfl, by rw [hU], ⟨va_K.moved hW.alike hG.1, by rw [hU]; exact hc.2.1, hc.2.2.1.weaken (fun _ _ _ _ => trivial)⟩, hE.call hG.2.2.2.1 (cut_free hG hcut) hU hW.alike, hT.warm hW⟩
/-- what a call's callee needs of the words -/
theorem zw_B (hC : CallFix p m c cc nL s args WALL own) (n : Nat) (wl : Cond.methodLink own idx y ∈ WALL) (wn : Cond.initialized y.cls ∈ WALL) (wc' : Cond.code y bytes maxL ret ∈ WALL)
    (hd : y.cls ≠ "java/lang/invoke/MethodHandle" ∧ y.cls ≠ "java/lang/invoke/VarHandle" ∧ (parseMethodDescriptor y.desc).map (fun d => d.parameters.length) = some n) (hR : fr + 1 ≤ R.frames ∧ 8 + (maxL + 11) + lo ≤ R.locals) :
    CallB R s args own idx y bytes maxL ret (.code y bytes maxL ret :: WALL) (RM fr lo mc ms) mc ms n :=
  callB_of (Ts := WALL) n hC.2.2.2.2 (fun w h => by
    rcases List.mem_cons.mp h with rfl | h
    · exact wl_in _ wc'
    · exact wl_in _ h) rfl rfl rfl (hC.2.2.2.2 _ wn) (hC.2.2.2.2 _ wl) hd hR
theorem zp_V (hG : BW D κ ws A s H locs) (hE : EA E0 D κ A s s.heap) (hT : ET s) (hcut : Cut ws wc wr) {k ci : Nat} {fs : List Value} {q : vw_C} (hb : ws[k]? = some (b, .inr (ci, fs))) (hcl : vwM[ci]? = some q) : PreV s H q.1 b (PB E0 D κ wc H.size (.ref b :: As)) As :=
  ⟨PB.blind, va_recv hG.1 hG.2.1 hcl hb, PB.to hG hE hT hcut _⟩
theorem zp_S (hG : BW D κ ws A s H locs) (hE : EA E0 D κ A s s.heap) (hT : ET s) (hcut : Cut ws wc wr) : PreS s H (PB E0 D κ wc H.size As) As := ⟨PB.blind, PB.to hG hE hT hcut _⟩
theorem zr_V {k ci n : Nat} {fs : List Value} {q : vw_C} (hC : CallFix p m c cc nL s args WALL own) (hG : BW D κ ws A s H locs) (hE : EA E0 D κ A s s.heap) (hT : ET s) (hcut : Cut ws wc wr) (hM : NM l y bytes maxL ret fr lo mc ms E0 D κ wc H.size (.ref b :: As) Qc)
    (hb : ws[k]? = some (b, .inr (ci, fs))) (hcl : vwM[ci]? = some q)
    (wl : Cond.methodLink own idx y ∈ WALL) (wn : Cond.initialized y.cls ∈ WALL) (wc' : Cond.code y bytes maxL ret ∈ WALL) (wi : Cond.instanceMethod y ∈ WALL) (ws' : Cond.selects q.1 y y ∈ WALL)
    (hd : y.cls ≠ "java/lang/invoke/MethodHandle" ∧ y.cls ≠ "java/lang/invoke/VarHandle" ∧ (parseMethodDescriptor y.desc).map (fun d => d.parameters.length) = some n) (hR : fr + 1 ≤ R.frames ∧ 8 + (maxL + 11) + lo ≤ R.locals)
    (hn : As.length = n) (hls : ls.size = nL) (hst : st0 = As.reverse ++ .ref b :: rest) (h8 : (rest.map fun v => v.category).sum ≤ 8) (hdg : decode cc pc = .ok (.invokevirtual idx, 3)) (hcs : cs + mc ≤ R.cells ∧ ss + ms ≤ R.slots) :
    va_Run p l e R s m args below meth c H locs cs ss mc ms (F0 m pc ls st0) rest (Qc (Value.ref b :: As).toArray) (va_A wc H.size) :=
  va_runV (As := As) (rest := rest) hC hM ⟨zw_B hC n wl wn wc' hd hR, hC.2.2.2.2 _ wi, hC.2.2.2.2 _ ws'⟩ (zp_V hG hE hT hcut hb hcl) rfl hn hls hst (lv_room h8) hdg hcs
theorem zr_S {n : Nat} (hC : CallFix p m c cc nL s args WALL own) (hG : BW D κ ws A s H locs) (hE : EA E0 D κ A s s.heap) (hT : ET s) (hcut : Cut ws wc wr) (hM : NM l y bytes maxL ret fr lo mc ms E0 D κ wc H.size As Qc)
    (wl : Cond.methodLink own idx y ∈ WALL) (wn : Cond.initialized y.cls ∈ WALL) (wc' : Cond.code y bytes maxL ret ∈ WALL) (wi : Cond.static y ∈ WALL)
    (hd : y.cls ≠ "java/lang/invoke/MethodHandle" ∧ y.cls ≠ "java/lang/invoke/VarHandle" ∧ (parseMethodDescriptor y.desc).map (fun d => d.parameters.length) = some n) (hR : fr + 1 ≤ R.frames ∧ 8 + (maxL + 11) + lo ≤ R.locals)
    (hn : As.length = n) (hls : ls.size = nL) (hst : st0 = As.reverse ++ rest) (h8 : (rest.map fun v => v.category).sum ≤ 8) (hdg : decode cc pc = .ok (.invokestatic idx, 3)) (hcs : cs + mc ≤ R.cells ∧ ss + ms ≤ R.slots) :
    va_Run p l e R s m args below meth c H locs cs ss mc ms (F0 m pc ls st0) rest (Qc As.toArray) (va_A wc H.size) :=
  va_runS (As := As) (rest := rest) hC hM ⟨zw_B hC n wl wn wc' hd hR, hC.2.2.2.2 _ wi⟩ (zp_S hG hE hT hcut) rfl hn hls hst (lv_room h8) hdg hcs
theorem zr_H {n : Nat} {hh : List (Nat × Nat × Nat × Nat)} (hC : CallFix p m c cc nL s args WALL own) (hG : BW D κ ws A s H locs) (hE : EA E0 D κ A s s.heap) (hT : ET s) (hcut : Cut ws wc wr) (hM : NH l y bytes maxL ret hh fr lo mc ms E0 D κ wc H.size As Qc)
    (wl : Cond.methodLink own idx y ∈ WALL) (wn : Cond.initialized y.cls ∈ WALL) (wc' : Cond.codeWith y bytes maxL ret hh ∈ WALL) (wi : Cond.static y ∈ WALL)
    (hd : y.cls ≠ "java/lang/invoke/MethodHandle" ∧ y.cls ≠ "java/lang/invoke/VarHandle" ∧ (parseMethodDescriptor y.desc).map (fun d => d.parameters.length) = some n) (hR : fr + 1 ≤ R.frames ∧ 8 + (maxL + 11) + lo ≤ R.locals)
    (hn : As.length = n) (hls : ls.size = nL) (hst : st0 = As.reverse ++ rest) (h8 : (rest.map fun v => v.category).sum ≤ 8) (hdg : decode cc pc = .ok (.invokestatic idx, 3)) (hcs : cs + mc ≤ R.cells ∧ ss + ms ≤ R.slots) :
    va_Run p l e R s m args below meth c H locs cs ss mc ms (F0 m pc ls st0) rest (Qc As.toArray) (va_A wc H.size) :=
  vx_runSW (As := As) (rest := rest) hC hM ⟨⟨rfl, rfl, hR.1, hR.2, pay_in hC.2.2.2.2 (fun w h => by
    rcases List.mem_cons.mp h with rfl | h
    · exact wl_in _ wc'
    · exact wl_in _ h), List.mem_cons_self⟩, hC.2.2.2.2 _ wc', hC.2.2.2.2 _ wn, ⟨hd.1, hd.2.1⟩, fun sig h => by
      have h2 := hd.2.2
      rw [h] at h2
      exact (Option.some.inj h2).symm, hC.2.2.2.2 _ wl, hC.2.2.2.2 _ wi⟩ (zp_S hG hE hT hcut) rfl hn hls hst (lv_room h8) hdg hcs
theorem zr_I {n : Nat} (hC : CallFix p m c cc nL s args WALL own) (hG : BW D κ ws A s H locs) (hE : EA E0 D κ A s s.heap) (hT : ET s) (hcut : Cut ws wc wr) (hM : NM l y bytes maxL none fr lo mc ms E0 D κ wc H.size (.ref b :: As) Qc)
    (wl : Cond.methodLink own idx y ∈ WALL) (wn : Cond.initialized y.cls ∈ WALL) (wc' : Cond.code y bytes maxL none ∈ WALL) (wi : Cond.instanceMethod y ∈ WALL) (hy1 : y.name = "<init>")
    (hd : y.cls ≠ "java/lang/invoke/MethodHandle" ∧ y.cls ≠ "java/lang/invoke/VarHandle" ∧ (parseMethodDescriptor y.desc).map (fun d => d.parameters.length) = some n) (hR : fr + 1 ≤ R.frames ∧ 8 + (maxL + 11) + lo ≤ R.locals)
    (hn : As.length = n) (hls : ls.size = nL) (hst : st0 = As.reverse ++ .ref b :: rest) (h8 : (rest.map fun v => v.category).sum ≤ 8) (hdg : decode cc pc = .ok (.invokespecial idx, 3)) (hcs : cs + mc ≤ R.cells ∧ ss + ms ≤ R.slots) :
    va_Run p l e R s m args below meth c H locs cs ss mc ms (F0 m pc ls st0) rest (Qc (Value.ref b :: As).toArray) (va_A wc H.size) :=
  va_runI (As := As) (rest := rest) hC hM ⟨zw_B hC n wl wn wc' hd hR, hy1, hC.2.2.2.2 _ wi⟩ (zp_S hG hE hT hcut) rfl hn hls hst (lv_room h8) hdg hcs
/-- .. of one that throws -/
theorem zx_V {k ci n : Nat} {fs : List Value} {q : vw_C} (hC : CallFix p m c cc nL s args WALL own) (hG : BW D κ ws A s H locs) (hE : EA E0 D κ A s s.heap) (hT : ET s) (hcut : Cut ws wc wr) (hM : XM l y bytes maxL ret fr lo mc ms E0 D κ wc H.size (.ref b :: As) E Qc)
    (hb : ws[k]? = some (b, .inr (ci, fs))) (hcl : vwM[ci]? = some q)
    (wl : Cond.methodLink own idx y ∈ WALL) (wn : Cond.initialized y.cls ∈ WALL) (wc' : Cond.code y bytes maxL ret ∈ WALL) (wi : Cond.instanceMethod y ∈ WALL) (ws' : Cond.selects q.1 y y ∈ WALL)
    (hd : y.cls ≠ "java/lang/invoke/MethodHandle" ∧ y.cls ≠ "java/lang/invoke/VarHandle" ∧ (parseMethodDescriptor y.desc).map (fun d => d.parameters.length) = some n) (hR : fr + 1 ≤ R.frames ∧ 8 + (maxL + 11) + lo ≤ R.locals)
    (hn : As.length = n) (hls : ls.size = nL) (hst : st0 = As.reverse ++ .ref b :: rest) (h8 : (rest.map fun v => v.category).sum ≤ 8) (hdg : decode cc pc = .ok (.invokevirtual idx, 3)) (hcs : cs + mc ≤ R.cells ∧ ss + ms ≤ R.slots) :
    vx_Run p l e R s m args below meth c H locs cs ss mc ms (F0 m pc ls st0) rest (Qc (Value.ref b :: As).toArray) (XC1 E (va_A wc H.size)) (va_A wc H.size) :=
  vx_runV (As := As) (rest := rest) hC hM ⟨zw_B hC n wl wn wc' hd hR, hC.2.2.2.2 _ wi, hC.2.2.2.2 _ ws'⟩ (zp_V hG hE hT hcut hb hcl) rfl hn hls hst (lv_room h8) hdg hcs
theorem zx_S {n : Nat} (hC : CallFix p m c cc nL s args WALL own) (hG : BW D κ ws A s H locs) (hE : EA E0 D κ A s s.heap) (hT : ET s) (hcut : Cut ws wc wr) (hM : XM l y bytes maxL ret fr lo mc ms E0 D κ wc H.size As E Qc)
    (wl : Cond.methodLink own idx y ∈ WALL) (wn : Cond.initialized y.cls ∈ WALL) (wc' : Cond.code y bytes maxL ret ∈ WALL) (wi : Cond.static y ∈ WALL)
    (hd : y.cls ≠ "java/lang/invoke/MethodHandle" ∧ y.cls ≠ "java/lang/invoke/VarHandle" ∧ (parseMethodDescriptor y.desc).map (fun d => d.parameters.length) = some n) (hR : fr + 1 ≤ R.frames ∧ 8 + (maxL + 11) + lo ≤ R.locals)
    (hn : As.length = n) (hls : ls.size = nL) (hst : st0 = As.reverse ++ rest) (h8 : (rest.map fun v => v.category).sum ≤ 8) (hdg : decode cc pc = .ok (.invokestatic idx, 3)) (hcs : cs + mc ≤ R.cells ∧ ss + ms ≤ R.slots) :
    vx_Run p l e R s m args below meth c H locs cs ss mc ms (F0 m pc ls st0) rest (Qc As.toArray) (XC1 E (va_A wc H.size)) (va_A wc H.size) :=
  vx_runS (As := As) (rest := rest) hC hM ⟨zw_B hC n wl wn wc' hd hR, hC.2.2.2.2 _ wi⟩ (zp_S hG hE hT hcut) rfl hn hls hst (lv_room h8) hdg hcs
theorem zc_i {av : Array Value} {R0 : Int32} {ws1 : W1 → va_W} (hG : BW D κ ws A s H locs) (hcut : Cut ws wc wr) (hr : va_Run p l e R s m args below meth c H locs cs ss mc ms (F0 m pc ls st0) rest (QI D κ wc H.size R0 ws1 av) (va_A wc H.size))
    (kk : ∀ (qs : W1) (H1 : Heap) (locs1 : List Loc), BW D κ (wr ++ ws1 qs) A s H1 locs1 → W p l e R s m args below meth c H1 locs1 (cs + mc) (ss + ms) Q (F0 m (pc + 3) ls (.int R0 :: rest))) : W p l e R s m args below meth c H locs cs ss Q (F0 m pc ls st0) :=
  va_calli hr hG.2.2.2.1 (fun q _ h => cut_free hG hcut q h) (cut_free hG hcut) (fun r qs t H1 locs1 ht hvm hp hB hz hk hS => by
    subst hp
    exact kk qs H1 locs1 (cut_join hG hcut ht hB hk hS))
theorem zc_l {av : Array Value} {R0 : Int64} {ws1 : W1 → va_W} (hG : BW D κ ws A s H locs) (hcut : Cut ws wc wr) (hr : va_Run p l e R s m args below meth c H locs cs ss mc ms (F0 m pc ls st0) rest (QL D κ wc H.size R0 ws1 av) (va_A wc H.size))
    (kk : ∀ (qs : W1) (H1 : Heap) (locs1 : List Loc), BW D κ (wr ++ ws1 qs) A s H1 locs1 → W p l e R s m args below meth c H1 locs1 (cs + mc) (ss + ms) Q (F0 m (pc + 3) ls (.long R0 :: rest))) : W p l e R s m args below meth c H locs cs ss Q (F0 m pc ls st0) :=
  va_calll hr hG.2.2.2.1 (fun q _ h => cut_free hG hcut q h) (cut_free hG hcut) (fun r qs t H1 locs1 ht hvm hp hB hz hk hS => by
    subst hp
    exact kk qs H1 locs1 (cut_join hG hcut ht hB hk hS))
theorem zc_d {av : Array Value} {R0 : UInt64} {ws1 : W1 → va_W} (hG : BW D κ ws A s H locs) (hcut : Cut ws wc wr) (hr : va_Run p l e R s m args below meth c H locs cs ss mc ms (F0 m pc ls st0) rest (QD D κ wc H.size R0 ws1 av) (va_A wc H.size))
    (kk : ∀ (qs : W1) (H1 : Heap) (locs1 : List Loc), BW D κ (wr ++ ws1 qs) A s H1 locs1 → W p l e R s m args below meth c H1 locs1 (cs + mc) (ss + ms) Q (F0 m (pc + 3) ls (.double R0 :: rest))) : W p l e R s m args below meth c H locs cs ss Q (F0 m pc ls st0) :=
  va_calld hr hG.2.2.2.1 (fun q _ h => cut_free hG hcut q h) (cut_free hG hcut) (fun r qs t H1 locs1 ht hvm hp hB hz hk hS => by
    subst hp
    exact kk qs H1 locs1 (cut_join hG hcut ht hB hk hS))
theorem zc_v {av : Array Value} {ws1 : W1 → va_W} (hG : BW D κ ws A s H locs) (hcut : Cut ws wc wr) (hr : va_Run p l e R s m args below meth c H locs cs ss mc ms (F0 m pc ls st0) rest (QV D κ wc H.size ws1 av) (va_A wc H.size))
    (kk : ∀ (qs : W1) (H1 : Heap) (locs1 : List Loc), BW D κ (wr ++ ws1 qs) A s H1 locs1 → W p l e R s m args below meth c H1 locs1 (cs + mc) (ss + ms) Q (F0 m (pc + 3) ls rest)) : W p l e R s m args below meth c H locs cs ss Q (F0 m pc ls st0) :=
  va_callv hr hG.2.2.2.1 (fun q _ h => cut_free hG hcut q h) (cut_free hG hcut) (fun qs t H1 locs1 ht hvm _ hB hz hk hS => kk qs H1 locs1 (cut_join hG hcut ht hB hk hS))
theorem zc_r {av : Array Value} {R0 : W1 → Nat} {ws1 : W1 → va_W} (hG : BW D κ ws A s H locs) (hcut : Cut ws wc wr) (hr : va_Run p l e R s m args below meth c H locs cs ss mc ms (F0 m pc ls st0) rest (QR D κ wc H.size R0 ws1 av) (va_A wc H.size))
    (kk : ∀ (qs : W1) (H1 : Heap) (locs1 : List Loc), BW D κ (wr ++ ws1 qs) A s H1 locs1 → W p l e R s m args below meth c H1 locs1 (cs + mc) (ss + ms) Q (F0 m (pc + 3) ls (.ref (R0 qs) :: rest))) : W p l e R s m args below meth c H locs cs ss Q (F0 m pc ls st0) :=
  va_callr hr hG.2.2.2.1 (fun q _ h => cut_free hG hcut q h) (cut_free hG hcut) (fun qs a t H1 locs1 ht hvm _ hB hz hk hS => by
    obtain ⟨rfl, hB⟩ := hB
    exact kk qs H1 locs1 (cut_join hG hcut ht hB hk hS))
theorem zt_i {av : Array Value} (hG : BW D κ ws A s H locs) (hcut : Cut ws wc wr) (hr : vx_Run p l e R s m args below meth c H locs cs ss mc ms (F0 m pc ls st0) rest (NI wc H.size av) (XC1 E (va_A wc H.size)) (va_A wc H.size))
    (kx : ∀ (ce : Cell) (q9 : Addr) (H1 : Heap) (locs1 : List Loc), BW D κ wr A s H1 locs1 → H1[q9]? = some ce → ce.vm = .none → s.vm.findClass E = some ce.cls → vx_W p l e R s m args below meth c H1 locs1 (cs + mc) (ss + ms) Q (F0 m pc ls rest) q9) : W p l e R s m args below meth c H locs cs ss Q (F0 m pc ls st0) :=
  vx_calli (AX := va_A wc H.size) hr hG.2.2.2.1 (fun q _ h => cut_free hG hcut q h) (cut_free hG hcut) (fun q _ h => cut_free hG hcut q h)
    (fun E' ce q9 u t H1 locs1 ht hvm _ hB hz hk hS h1 h2 h3 => by
      subst hB
      exact kx ce q9 H1 locs1 (cut_kept hG hcut hk hS) h1 h2 h3)
    (fun r u t H1 locs1 ht hvm hp => absurd hp (fun z => z))
theorem zt_l {av : Array Value} (hG : BW D κ ws A s H locs) (hcut : Cut ws wc wr) (hr : vx_Run p l e R s m args below meth c H locs cs ss mc ms (F0 m pc ls st0) rest (NL wc H.size av) (XC1 E (va_A wc H.size)) (va_A wc H.size))
    (kx : ∀ (ce : Cell) (q9 : Addr) (H1 : Heap) (locs1 : List Loc), BW D κ wr A s H1 locs1 → H1[q9]? = some ce → ce.vm = .none → s.vm.findClass E = some ce.cls → vx_W p l e R s m args below meth c H1 locs1 (cs + mc) (ss + ms) Q (F0 m pc ls rest) q9) : W p l e R s m args below meth c H locs cs ss Q (F0 m pc ls st0) :=
  vx_calll (AX := va_A wc H.size) hr hG.2.2.2.1 (fun q _ h => cut_free hG hcut q h) (cut_free hG hcut) (fun q _ h => cut_free hG hcut q h)
    (fun E' ce q9 u t H1 locs1 ht hvm _ hB hz hk hS h1 h2 h3 => by
      subst hB
      exact kx ce q9 H1 locs1 (cut_kept hG hcut hk hS) h1 h2 h3)
    (fun r u t H1 locs1 ht hvm hp => absurd hp (fun z => z))
theorem zt_v {av : Array Value} (hG : BW D κ ws A s H locs) (hcut : Cut ws wc wr) (hr : vx_Run p l e R s m args below meth c H locs cs ss mc ms (F0 m pc ls st0) rest (NV wc H.size av) (XC1 E (va_A wc H.size)) (va_A wc H.size))
    (kx : ∀ (ce : Cell) (q9 : Addr) (H1 : Heap) (locs1 : List Loc), BW D κ wr A s H1 locs1 → H1[q9]? = some ce → ce.vm = .none → s.vm.findClass E = some ce.cls → vx_W p l e R s m args below meth c H1 locs1 (cs + mc) (ss + ms) Q (F0 m pc ls rest) q9) : W p l e R s m args below meth c H locs cs ss Q (F0 m pc ls st0) :=
  vx_callv (AX := va_A wc H.size) hr hG.2.2.2.1 (fun q _ h => cut_free hG hcut q h) (cut_free hG hcut) (fun q _ h => cut_free hG hcut q h)
    (fun E' ce q9 u t H1 locs1 ht hvm _ hB hz hk hS h1 h2 h3 => by
      subst hB
      exact kx ce q9 H1 locs1 (cut_kept hG hcut hk hS) h1 h2 h3)
    (fun u t H1 locs1 ht hvm hp => absurd hp (fun z => z))
/-- it goes on to the caller -/
theorem zt_out {ws0 : va_W} {sz : Nat} {ce : Cell} {q9 : Addr} (hno : ∀ x ∈ c.exceptionTable.toList, False) (hk : meth.locks = false) (hG : BW D κ ws (va_A ws0 sz) s H locs) (h1 : H[q9]? = some ce) (h2 : ce.vm = .none) (h3 : s.vm.findClass E = some ce.cls) (hc : cs ≤ mc) (hs : ss ≤ ms) :
    vx_W p l e R s m args below meth c H locs cs ss (vx_MQ below Qc (XC1 E (va_A ws0 sz)) args s mc ms (va_A ws0 sz)) (F0 m pc ls rest) q9 :=
  vx_out (fun x hx => (hno x hx).elim) hk h1 h2 h3 (fun t ht _ => ⟨(), trivial, rfl, hG.2.2.2.1.F ht⟩) hG.2.2.2.1.2.2 hc hs
end Calls
section Throws
variable {p : Program} {l : Launch} {e : Env} {R : Room} {s : State} {m : MethodId} {args : Array Value} {below : List Frame} {meth : Method} {c : Code} {H : Heap} {locs : List Loc} {cs ss : Nat} {cc : ByteArray} {nL pc : Nat} {ls : Array Slot} {rest : List Value} {E0 : Nat} {D : va_G} {κ : K4} {ws : va_W} {A : Nat → Prop} {mc ms : Nat} {Qc : Array Value → State → Outcome → State → Prop}
theorem th_atIA (hC : CallFix p m c cc nL s args WALL RX7) (hT : ET s) : ∀ w ∈ (vx_atS RX7 75 "java/lang/IllegalArgumentException" ["java/lang/RuntimeException", "java/lang/Exception"]), w.before args s = true :=
  vx_hat (L := (vx_atS RX7 75 "java/lang/IllegalArgumentException" ["java/lang/RuntimeException", "java/lang/Exception"])) (B := [.castable "java/lang/IllegalArgumentException" "java/lang/IllegalArgumentException", .declares ⟨"java/lang/RuntimeException", "<init>", "(Ljava/lang/String;)V"⟩, .declares ⟨"java/lang/Exception", "<init>", "(Ljava/lang/String;)V"⟩, .declares ⟨"java/lang/Throwable", "<init>", "(Ljava/lang/String;)V"⟩]) (fun w h => hC.2.2.2.2 w (List.mem_append_left _ (List.mem_append_left _ (List.mem_append_right _ h)))) (by decide +kernel) (vx_c (va_Nw.use rfl (hT.1 ("java/lang/IllegalArgumentException", "java/lang/IllegalArgumentException") (by simp [EVC]))) (vx_c (va_Nw.use rfl (hT.2.1 _ (by simp [EVD]))) (vx_c (va_Nw.use rfl (hT.2.1 _ (by simp [EVD]))) (vx_c (va_Nw.use rfl (hT.2.1 _ (by simp [EVD]))) vx_n))))
theorem th_goodIA : ∀ w ∈ Cond.classLink RX7 71 "java/lang/IllegalArgumentException" :: Cond.initialized "java/lang/IllegalArgumentException" :: (vx_atS RX7 75 "java/lang/IllegalArgumentException" ["java/lang/RuntimeException", "java/lang/Exception"]), vx_ot w = true := by decide +kernel
theorem th_IA {is : Nat} {text : String} (hC : CallFix p m c cc nL s args WALL RX7) (hl0 : l.stackTraces = false) (hE : EA E0 D κ A s s.heap) (hT : ET s) (hno : ∀ x ∈ c.exceptionTable.toList, False) (hk : meth.locks = false) (hG : BW D κ ws A s H locs) (hls : ls.size = nL) (hstr : (is, text) ∈ EVS)
    (wk : Cond.classLink RX7 71 "java/lang/IllegalArgumentException" ∈ WALL) (wi : Cond.initialized "java/lang/IllegalArgumentException" ∈ WALL)
    (d0 : decode cc pc = .ok (.new 71, 3)) (d3 : decode cc (pc + 3) = .ok (.dup, 1)) (d4 : decode cc (pc + 4) = .ok (.ldc is, 2)) (d6 : decode cc (pc + 6) = .ok (.invokespecial 75, 3)) (d9 : decode cc (pc + 9) = .ok (.athrow, 1))
    (hRf : 5 < R.frames) (hRl : (rest.map fun v => v.category).sum + 82 ≤ R.locals) (hRc : cs + 1 ≤ R.cells) (hRs : ss + 6 ≤ R.slots) (hc : cs + 1 ≤ mc) (hs : ss + 6 ≤ ms) :
    W p l e R s m args below meth c H locs cs ss (vx_MQ below Qc (XC1 "java/lang/IllegalArgumentException" A) args s mc ms A) (F0 m pc ls rest) := by
  obtain ⟨sa, hsa⟩ := hT.2.2.2.1 _ hstr
  exact vx_throwS (names := ["java/lang/RuntimeException", "java/lang/Exception"]) (A := A) hC.1 hC.2.1 hl0 hC.2.2.2.1 (by decide +kernel) (by decide +kernel) (hC.2.2.2.2 _ wk) (hC.2.2.2.2 _ wi) hsa (th_atIA hC hT) th_goodIA hE.1 hE.2.1 hG.2.2.2.1 (hls.trans hC.2.2.1.symm) d0 d3 d4 d6 d9 (fun x hx => (hno x hx).elim) hRf hRl hRc hRs hk
    (fun t hA h1 h2 => ⟨(), trivial, rfl, ⟨Nat.le_trans hG.2.2.2.1.1 h1, fun q hq hn => (h2 q (Nat.lt_of_lt_of_le hq hG.2.2.2.1.1)).trans (hG.2.2.2.1.2.1 q hq hn)⟩⟩) hG.2.2.2.1.2.2 hc hs
theorem th_IAW {is : Nat} {text : String} (hC : CallFix p m c cc nL s args WALL RX7) (hl0 : l.stackTraces = false) (hE : EA E0 D κ A s s.heap) (hT : ET s) (hno : ∀ x ∈ c.exceptionTable.toList, False) (hk : meth.locks = false) (hG : BW D κ ws A s H locs) (hls : ls.size = nL) (hstr : (is, text) ∈ EVS)
    (wk : Cond.classLink RX7 71 "java/lang/IllegalArgumentException" ∈ WALL) (wi : Cond.initialized "java/lang/IllegalArgumentException" ∈ WALL)
    (d0 : decode cc pc = .ok (.new 71, 3)) (d3 : decode cc (pc + 3) = .ok (.dup, 1)) (d4 : decode cc (pc + 4) = .ok (.ldc_w is, 3)) (d6 : decode cc (pc + 7) = .ok (.invokespecial 75, 3)) (d9 : decode cc (pc + 10) = .ok (.athrow, 1))
    (hRf : 5 < R.frames) (hRl : (rest.map fun v => v.category).sum + 82 ≤ R.locals) (hRc : cs + 1 ≤ R.cells) (hRs : ss + 6 ≤ R.slots) (hc : cs + 1 ≤ mc) (hs : ss + 6 ≤ ms) :
    W p l e R s m args below meth c H locs cs ss (vx_MQ below Qc (XC1 "java/lang/IllegalArgumentException" A) args s mc ms A) (F0 m pc ls rest) := by
  obtain ⟨sa, hsa⟩ := hT.2.2.2.1 _ hstr
  exact vx_throwSW (names := ["java/lang/RuntimeException", "java/lang/Exception"]) (A := A) hC.1 hC.2.1 hl0 hC.2.2.2.1 (by decide +kernel) (by decide +kernel) (hC.2.2.2.2 _ wk) (hC.2.2.2.2 _ wi) hsa (th_atIA hC hT) th_goodIA hE.1 hE.2.1 hG.2.2.2.1 (hls.trans hC.2.2.1.symm) d0 d3 d4 d6 d9 (fun x hx => (hno x hx).elim) hRf hRl hRc hRs hk
    (fun t hA h1 h2 => ⟨(), trivial, rfl, ⟨Nat.le_trans hG.2.2.2.1.1 h1, fun q hq hn => (h2 q (Nat.lt_of_lt_of_le hq hG.2.2.2.1.1)).trans (hG.2.2.2.1.2.1 q hq hn)⟩⟩) hG.2.2.2.1.2.2 hc hs
theorem th_atIS (hC : CallFix p m c cc nL s args WALL RX7) (hT : ET s) : ∀ w ∈ (vx_atS RX7 86 "java/lang/IllegalStateException" ["java/lang/RuntimeException", "java/lang/Exception"]), w.before args s = true :=
  vx_hat (L := (vx_atS RX7 86 "java/lang/IllegalStateException" ["java/lang/RuntimeException", "java/lang/Exception"])) (B := [.castable "java/lang/IllegalStateException" "java/lang/IllegalStateException", .declares ⟨"java/lang/RuntimeException", "<init>", "(Ljava/lang/String;)V"⟩, .declares ⟨"java/lang/Exception", "<init>", "(Ljava/lang/String;)V"⟩, .declares ⟨"java/lang/Throwable", "<init>", "(Ljava/lang/String;)V"⟩]) (fun w h => hC.2.2.2.2 w (List.mem_append_left _ (List.mem_append_right _ h))) (by decide +kernel) (vx_c (va_Nw.use rfl (hT.1 ("java/lang/IllegalStateException", "java/lang/IllegalStateException") (by simp [EVC]))) (vx_c (va_Nw.use rfl (hT.2.1 _ (by simp [EVD]))) (vx_c (va_Nw.use rfl (hT.2.1 _ (by simp [EVD]))) (vx_c (va_Nw.use rfl (hT.2.1 _ (by simp [EVD]))) vx_n))))
theorem th_goodIS : ∀ w ∈ Cond.classLink RX7 82 "java/lang/IllegalStateException" :: Cond.initialized "java/lang/IllegalStateException" :: (vx_atS RX7 86 "java/lang/IllegalStateException" ["java/lang/RuntimeException", "java/lang/Exception"]), vx_ot w = true := by decide +kernel
theorem th_IS {is : Nat} {text : String} (hC : CallFix p m c cc nL s args WALL RX7) (hl0 : l.stackTraces = false) (hE : EA E0 D κ A s s.heap) (hT : ET s) (hno : ∀ x ∈ c.exceptionTable.toList, False) (hk : meth.locks = false) (hG : BW D κ ws A s H locs) (hls : ls.size = nL) (hstr : (is, text) ∈ EVS)
    (wk : Cond.classLink RX7 82 "java/lang/IllegalStateException" ∈ WALL) (wi : Cond.initialized "java/lang/IllegalStateException" ∈ WALL)
    (d0 : decode cc pc = .ok (.new 82, 3)) (d3 : decode cc (pc + 3) = .ok (.dup, 1)) (d4 : decode cc (pc + 4) = .ok (.ldc is, 2)) (d6 : decode cc (pc + 6) = .ok (.invokespecial 86, 3)) (d9 : decode cc (pc + 9) = .ok (.athrow, 1))
    (hRf : 5 < R.frames) (hRl : (rest.map fun v => v.category).sum + 82 ≤ R.locals) (hRc : cs + 1 ≤ R.cells) (hRs : ss + 6 ≤ R.slots) (hc : cs + 1 ≤ mc) (hs : ss + 6 ≤ ms) :
    W p l e R s m args below meth c H locs cs ss (vx_MQ below Qc (XC1 "java/lang/IllegalStateException" A) args s mc ms A) (F0 m pc ls rest) := by
  obtain ⟨sa, hsa⟩ := hT.2.2.2.1 _ hstr
  exact vx_throwS (names := ["java/lang/RuntimeException", "java/lang/Exception"]) (A := A) hC.1 hC.2.1 hl0 hC.2.2.2.1 (by decide +kernel) (by decide +kernel) (hC.2.2.2.2 _ wk) (hC.2.2.2.2 _ wi) hsa (th_atIS hC hT) th_goodIS hE.1 hE.2.1 hG.2.2.2.1 (hls.trans hC.2.2.1.symm) d0 d3 d4 d6 d9 (fun x hx => (hno x hx).elim) hRf hRl hRc hRs hk
    (fun t hA h1 h2 => ⟨(), trivial, rfl, ⟨Nat.le_trans hG.2.2.2.1.1 h1, fun q hq hn => (h2 q (Nat.lt_of_lt_of_le hq hG.2.2.2.1.1)).trans (hG.2.2.2.1.2.1 q hq hn)⟩⟩) hG.2.2.2.1.2.2 hc hs
theorem th_ISW {is : Nat} {text : String} (hC : CallFix p m c cc nL s args WALL RX7) (hl0 : l.stackTraces = false) (hE : EA E0 D κ A s s.heap) (hT : ET s) (hno : ∀ x ∈ c.exceptionTable.toList, False) (hk : meth.locks = false) (hG : BW D κ ws A s H locs) (hls : ls.size = nL) (hstr : (is, text) ∈ EVS)
    (wk : Cond.classLink RX7 82 "java/lang/IllegalStateException" ∈ WALL) (wi : Cond.initialized "java/lang/IllegalStateException" ∈ WALL)
    (d0 : decode cc pc = .ok (.new 82, 3)) (d3 : decode cc (pc + 3) = .ok (.dup, 1)) (d4 : decode cc (pc + 4) = .ok (.ldc_w is, 3)) (d6 : decode cc (pc + 7) = .ok (.invokespecial 86, 3)) (d9 : decode cc (pc + 10) = .ok (.athrow, 1))
    (hRf : 5 < R.frames) (hRl : (rest.map fun v => v.category).sum + 82 ≤ R.locals) (hRc : cs + 1 ≤ R.cells) (hRs : ss + 6 ≤ R.slots) (hc : cs + 1 ≤ mc) (hs : ss + 6 ≤ ms) :
    W p l e R s m args below meth c H locs cs ss (vx_MQ below Qc (XC1 "java/lang/IllegalStateException" A) args s mc ms A) (F0 m pc ls rest) := by
  obtain ⟨sa, hsa⟩ := hT.2.2.2.1 _ hstr
  exact vx_throwSW (names := ["java/lang/RuntimeException", "java/lang/Exception"]) (A := A) hC.1 hC.2.1 hl0 hC.2.2.2.1 (by decide +kernel) (by decide +kernel) (hC.2.2.2.2 _ wk) (hC.2.2.2.2 _ wi) hsa (th_atIS hC hT) th_goodIS hE.1 hE.2.1 hG.2.2.2.1 (hls.trans hC.2.2.1.symm) d0 d3 d4 d6 d9 (fun x hx => (hno x hx).elim) hRf hRl hRc hRs hk
    (fun t hA h1 h2 => ⟨(), trivial, rfl, ⟨Nat.le_trans hG.2.2.2.1.1 h1, fun q hq hn => (h2 q (Nat.lt_of_lt_of_le hq hG.2.2.2.1.1)).trans (hG.2.2.2.1.2.1 q hq hn)⟩⟩) hG.2.2.2.1.2.2 hc hs
theorem th_atIO (hC : CallFix p m c cc nL s args WALL RX7) (hT : ET s) : ∀ w ∈ (vx_atS RX7 198 "java/lang/IndexOutOfBoundsException" ["java/lang/RuntimeException", "java/lang/Exception"]), w.before args s = true :=
  vx_hat (L := (vx_atS RX7 198 "java/lang/IndexOutOfBoundsException" ["java/lang/RuntimeException", "java/lang/Exception"])) (B := [.castable "java/lang/IndexOutOfBoundsException" "java/lang/IndexOutOfBoundsException", .declares ⟨"java/lang/RuntimeException", "<init>", "(Ljava/lang/String;)V"⟩, .declares ⟨"java/lang/Exception", "<init>", "(Ljava/lang/String;)V"⟩, .declares ⟨"java/lang/Throwable", "<init>", "(Ljava/lang/String;)V"⟩]) (fun w h => hC.2.2.2.2 w (List.mem_append_right _ h)) (by decide +kernel) (vx_c (va_Nw.use rfl (hT.1 ("java/lang/IndexOutOfBoundsException", "java/lang/IndexOutOfBoundsException") (by simp [EVC]))) (vx_c (va_Nw.use rfl (hT.2.1 _ (by simp [EVD]))) (vx_c (va_Nw.use rfl (hT.2.1 _ (by simp [EVD]))) (vx_c (va_Nw.use rfl (hT.2.1 _ (by simp [EVD]))) vx_n))))
theorem th_goodIO : ∀ w ∈ Cond.classLink RX7 194 "java/lang/IndexOutOfBoundsException" :: Cond.initialized "java/lang/IndexOutOfBoundsException" :: (vx_atS RX7 198 "java/lang/IndexOutOfBoundsException" ["java/lang/RuntimeException", "java/lang/Exception"]), vx_ot w = true := by decide +kernel
theorem th_IO {is : Nat} {text : String} (hC : CallFix p m c cc nL s args WALL RX7) (hl0 : l.stackTraces = false) (hE : EA E0 D κ A s s.heap) (hT : ET s) (hno : ∀ x ∈ c.exceptionTable.toList, False) (hk : meth.locks = false) (hG : BW D κ ws A s H locs) (hls : ls.size = nL) (hstr : (is, text) ∈ EVS)
    (wk : Cond.classLink RX7 194 "java/lang/IndexOutOfBoundsException" ∈ WALL) (wi : Cond.initialized "java/lang/IndexOutOfBoundsException" ∈ WALL)
    (d0 : decode cc pc = .ok (.new 194, 3)) (d3 : decode cc (pc + 3) = .ok (.dup, 1)) (d4 : decode cc (pc + 4) = .ok (.ldc is, 2)) (d6 : decode cc (pc + 6) = .ok (.invokespecial 198, 3)) (d9 : decode cc (pc + 9) = .ok (.athrow, 1))
    (hRf : 5 < R.frames) (hRl : (rest.map fun v => v.category).sum + 82 ≤ R.locals) (hRc : cs + 1 ≤ R.cells) (hRs : ss + 6 ≤ R.slots) (hc : cs + 1 ≤ mc) (hs : ss + 6 ≤ ms) :
    W p l e R s m args below meth c H locs cs ss (vx_MQ below Qc (XC1 "java/lang/IndexOutOfBoundsException" A) args s mc ms A) (F0 m pc ls rest) := by
  obtain ⟨sa, hsa⟩ := hT.2.2.2.1 _ hstr
  exact vx_throwS (names := ["java/lang/RuntimeException", "java/lang/Exception"]) (A := A) hC.1 hC.2.1 hl0 hC.2.2.2.1 (by decide +kernel) (by decide +kernel) (hC.2.2.2.2 _ wk) (hC.2.2.2.2 _ wi) hsa (th_atIO hC hT) th_goodIO hE.1 hE.2.1 hG.2.2.2.1 (hls.trans hC.2.2.1.symm) d0 d3 d4 d6 d9 (fun x hx => (hno x hx).elim) hRf hRl hRc hRs hk
    (fun t hA h1 h2 => ⟨(), trivial, rfl, ⟨Nat.le_trans hG.2.2.2.1.1 h1, fun q hq hn => (h2 q (Nat.lt_of_lt_of_le hq hG.2.2.2.1.1)).trans (hG.2.2.2.1.2.1 q hq hn)⟩⟩) hG.2.2.2.1.2.2 hc hs
theorem th_IOW {is : Nat} {text : String} (hC : CallFix p m c cc nL s args WALL RX7) (hl0 : l.stackTraces = false) (hE : EA E0 D κ A s s.heap) (hT : ET s) (hno : ∀ x ∈ c.exceptionTable.toList, False) (hk : meth.locks = false) (hG : BW D κ ws A s H locs) (hls : ls.size = nL) (hstr : (is, text) ∈ EVS)
    (wk : Cond.classLink RX7 194 "java/lang/IndexOutOfBoundsException" ∈ WALL) (wi : Cond.initialized "java/lang/IndexOutOfBoundsException" ∈ WALL)
    (d0 : decode cc pc = .ok (.new 194, 3)) (d3 : decode cc (pc + 3) = .ok (.dup, 1)) (d4 : decode cc (pc + 4) = .ok (.ldc_w is, 3)) (d6 : decode cc (pc + 7) = .ok (.invokespecial 198, 3)) (d9 : decode cc (pc + 10) = .ok (.athrow, 1))
    (hRf : 5 < R.frames) (hRl : (rest.map fun v => v.category).sum + 82 ≤ R.locals) (hRc : cs + 1 ≤ R.cells) (hRs : ss + 6 ≤ R.slots) (hc : cs + 1 ≤ mc) (hs : ss + 6 ≤ ms) :
    W p l e R s m args below meth c H locs cs ss (vx_MQ below Qc (XC1 "java/lang/IndexOutOfBoundsException" A) args s mc ms A) (F0 m pc ls rest) := by
  obtain ⟨sa, hsa⟩ := hT.2.2.2.1 _ hstr
  exact vx_throwSW (names := ["java/lang/RuntimeException", "java/lang/Exception"]) (A := A) hC.1 hC.2.1 hl0 hC.2.2.2.1 (by decide +kernel) (by decide +kernel) (hC.2.2.2.2 _ wk) (hC.2.2.2.2 _ wi) hsa (th_atIO hC hT) th_goodIO hE.1 hE.2.1 hG.2.2.2.1 (hls.trans hC.2.2.1.symm) d0 d3 d4 d6 d9 (fun x hx => (hno x hx).elim) hRf hRl hRc hRs hk
    (fun t hA h1 h2 => ⟨(), trivial, rfl, ⟨Nat.le_trans hG.2.2.2.1.1 h1, fun q hq hn => (h2 q (Nat.lt_of_lt_of_le hq hG.2.2.2.1.1)).trans (hG.2.2.2.1.2.1 q hq hn)⟩⟩) hG.2.2.2.1.2.2 hc hs
end Throws
end
section
/-! ROWS over an explicit world; ends -/
theorem vp_box {i : Int32} {n : Nat} (h0 : 0 ≤ i.toInt) (h1 : i.toInt < n) : vp_in i n := by
  intro h
  rcases h with h | h
  · have h2 := Int32.lt_iff_toInt_lt.mp h
    have e : (0 : Int32).toInt = 0 := by decide
    omega
  · have h2 : i.toNatClampNeg = i.toInt.toNat := rfl
    omega
theorem i_cases {x : Int32} {n : Int} (h : x.toInt = n) (y : Int32) (hy : y.toInt = n) : x = y := Int32.toInt_inj.mp (h.trans hy.symm)
section Ops
variable {p : Program} {l : Launch} {e : Env} {R : Room} {s : State} {m : MethodId} {args : Array Value} {below : List Frame} {meth : Method} {c : Code} {H : Heap} {locs : List Loc} {cs ss : Nat} {Q : State → Prop} {cc : ByteArray} {nL pc : Nat} {ls : Array Slot} {rest : List Value} {own : String} {idx : Nat} {E0 : Nat} {D : va_G} {κ : K4} {ws : va_W} {A : Nat → Prop} {sz mc ms : Nat}
theorem bn_ge (hx : p.tables.exec = Jvm.exec) (hb : c.code = cc) {x y : Nat} (hX : x < 2 ^ 31) (hY : y < 2 ^ 31) {off : Int} {tgt : Nat} (hd : decode cc pc = .ok (.if_icmp .ge off, 3)) (ht : (pc : Int) + off = (tgt : Int)) (kt : y ≤ x → W p l e R s m args below meth c H locs cs ss Q (F0 m tgt ls rest)) (kf : x < y → W p l e R s m args below meth c H locs cs ss Q (F0 m (pc + 3) ls rest)) : W p l e R s m args below meth c H locs cs ss Q (F0 m pc ls (.int (nI y) :: .int (nI x) :: rest)) :=
  lv_icmp_ge hx hb hd ht (fun h => kt ((nI_leI hY hX).mp h)) (fun h => kf (by have q := mt (nI_leI hY hX).mpr h; omega))
theorem bl_eq (hx : p.tables.exec = Jvm.exec) (hb : c.code = cc) {x y : Int64} {off : Int} {tgt : Nat} (hd : decode cc pc = .ok (.lcmp, 1)) (hd2 : decode cc (pc + 1) = .ok (.ifCond .eq off, 3)) (ht : ((pc + 1 : Nat) : Int) + off = (tgt : Int)) (kt : x = y → W p l e R s m args below meth c H locs cs ss Q (F0 m tgt ls rest)) (kf : ¬ x = y → W p l e R s m args below meth c H locs cs ss Q (F0 m (pc + 1 + 3) ls rest)) : W p l e R s m args below meth c H locs cs ss Q (F0 m pc ls (.long y :: .long x :: rest)) :=
  W.lcmp hx hb hd (lv_if_eq hx hb hd2 ht (fun h => kt ((lg_cmp_eq x y).mp h)) (fun h => kf (fun q => h ((lg_cmp_eq x y).mpr q))))
theorem bl_ne (hx : p.tables.exec = Jvm.exec) (hb : c.code = cc) {x y : Int64} {off : Int} {tgt : Nat} (hd : decode cc pc = .ok (.lcmp, 1)) (hd2 : decode cc (pc + 1) = .ok (.ifCond .ne off, 3)) (ht : ((pc + 1 : Nat) : Int) + off = (tgt : Int)) (kt : ¬ x = y → W p l e R s m args below meth c H locs cs ss Q (F0 m tgt ls rest)) (kf : x = y → W p l e R s m args below meth c H locs cs ss Q (F0 m (pc + 1 + 3) ls rest)) : W p l e R s m args below meth c H locs cs ss Q (F0 m pc ls (.long y :: .long x :: rest)) :=
  W.lcmp hx hb hd (lv_if_ne hx hb hd2 ht (fun h => kt (fun q => h ((lg_cmp_eq x y).mpr q))) (fun h => kf ((lg_cmp_eq x y).mp h)))
theorem zs_ald (q0 : Nat) {a n : Nat} {f : Nat → Int32} {i v : Int32} (hC : CallFix p m c cc nL s args WALL own) (hG : BW D κ ws A s H locs) (ha : ws[q0]? = some (a, .inl (κ.1, n, .inl f))) (hin : vp_in i n) (hv : f i.toNatClampNeg = v) (hd : decode cc pc = .ok (.iaload, 1))
    (kk : W p l e R s m args below meth c H locs cs ss Q (F0 m (pc + 1) ls (.int v :: rest))) : W p l e R s m args below meth c H locs cs ss Q (F0 m pc ls (.int i :: .ref a :: rest)) := by
  subst hv
  exact va_iald hC.1 hC.2.1 hG.1 hG.2.1 q0 0 ha rfl hin hd kk
theorem zs_ast (q0 : Nat) {a n : Nat} {f : Nat → Int32} {i x : Int32} (hC : CallFix p m c cc nL s args WALL own) (hG : BW D κ ws A s H locs) (ha : ws[q0]? = some (a, .inl (κ.1, n, .inl f))) (hin : vp_in i n) (hd : decode cc pc = .ok (.iastore, 1))
    (kk : ∀ (H1 : Heap) (locs1 : List Loc), BW D κ (ws.set q0 (a, .inl (κ.1, n, .inl (va_up f i.toNatClampNeg x)))) A s H1 locs1 → W p l e R s m args below meth c H1 locs1 cs ss Q (F0 m (pc + 1) ls rest)) : W p l e R s m args below meth c H locs cs ss Q (F0 m pc ls (.int x :: .int i :: .ref a :: rest)) :=
  va_iast hC.1 hC.2.1 hG.1 hG.2.1 hG.2.2.1 hG.2.2.2.1 q0 0 ha rfl hin hd (fun H1 locs1 h1 h2 h3 => by
    rw [fnI] at h1 h2
    exact kk H1 locs1 ⟨hG.1, h1, h2, h3, hG.2.2.2.2⟩)
theorem zs_lld (q0 : Nat) {a n : Nat} {f : Nat → Int64} {i : Int32} {v : Int64} (hC : CallFix p m c cc nL s args WALL own) (hG : BW D κ ws A s H locs) (ha : ws[q0]? = some (a, .inl (κ.2.1, n, .inr (.inl f)))) (hin : vp_in i n) (hv : f i.toNatClampNeg = v) (hd : decode cc pc = .ok (.laload, 1))
    (kk : W p l e R s m args below meth c H locs cs ss Q (F0 m (pc + 1) ls (.long v :: rest))) : W p l e R s m args below meth c H locs cs ss Q (F0 m pc ls (.int i :: .ref a :: rest)) := by
  subst hv
  exact va_lald hC.1 hC.2.1 hG.1 hG.2.1 q0 1 ha rfl hin hd kk
theorem zs_lst (q0 : Nat) {a n : Nat} {f : Nat → Int64} {i : Int32} {x : Int64} (hC : CallFix p m c cc nL s args WALL own) (hG : BW D κ ws A s H locs) (ha : ws[q0]? = some (a, .inl (κ.2.1, n, .inr (.inl f)))) (hin : vp_in i n) (hd : decode cc pc = .ok (.lastore, 1))
    (kk : ∀ (H1 : Heap) (locs1 : List Loc), BW D κ (ws.set q0 (a, .inl (κ.2.1, n, .inr (.inl (va_up f i.toNatClampNeg x))))) A s H1 locs1 → W p l e R s m args below meth c H1 locs1 cs ss Q (F0 m (pc + 1) ls rest)) : W p l e R s m args below meth c H locs cs ss Q (F0 m pc ls (.long x :: .int i :: .ref a :: rest)) :=
  va_last hC.1 hC.2.1 hG.1 hG.2.1 hG.2.2.1 hG.2.2.2.1 q0 1 ha rfl hin hd (fun H1 locs1 h1 h2 h3 => by
    rw [fnJ] at h1 h2
    exact kk H1 locs1 ⟨hG.1, h1, h2, h3, hG.2.2.2.2⟩)
theorem bw_nO (hC : CallFix p m c cc nL s args WALL own) (hG : BW D κ ws A s H locs) (hT : ET s) (hcl : Cond.classLink own idx "java/lang/Object" ∈ WALL) {n : Int32} {N : Nat} (hn : ¬ n < 0) (hN : n.toNatClampNeg = N) (hN2 : N * 4 ≤ 536870912) (hcells : cs + 1 ≤ R.cells) (hslots : ss + N ≤ R.slots) (hd : decode cc pc = .ok (.anewarray idx, 3))
    (kk : ∀ (q : Nat) (H1 : Heap), BW D κ (ws ++ [(q, .inl (κ.2.2.2, N, .inr (.inr (.inr (.inr (fun _ => none))))))]) A s H1 locs → W p l e R s m args below meth c H1 locs (cs + 1) (ss + N) Q (F0 m (pc + 3) ls (.ref q :: rest))) : W p l e R s m args below meth c H locs cs ss Q (F0 m pc ls (.int n :: rest)) :=
  va_newq hC.1 hC.2.1 hC.2.2.2.1 (hC.2.2.2.2 _ hcl) hT.2.2.2.2 hG.1 hG.2.1 hG.2.2.1 hG.2.2.2.1 hG.2.2.2.2 hn hN hN2 hcells hslots hd (fun q cA H1 h0 h1 h2 h3 => by
    have e1 : va_RA s κ.2.2.2 (.object "java/lang/Object") := (h0.2 3 (κ.2.2.2, .object "java/lang/Object") rfl).2
    have e2 : va_RA s cA (.object "java/lang/Object") := (h0.2 4 (cA, .object "java/lang/Object") rfl).2
    obtain ⟨_, _, _, _, _, f1⟩ := e1
    obtain ⟨_, _, _, _, _, f2⟩ := e2
    have e3 : κ.2.2.2 = cA := Option.some.inj (f1.symm.trans f2)
    rw [← e3] at h1 h2
    exact kk q H1 ⟨hG.1, h1, h2, h3, hG.2.2.2.2⟩)
theorem zs_rst (q0 qk ci : Nat) {a n v : Nat} {r : vw_C} {vs : List Value} {f : Nat → Option Nat} {i : Int32} (hC : CallFix p m c cc nL s args WALL own) (hG : BW D κ ws A s H locs) (hT : ET s) (ha : ws[q0]? = some (a, .inl (κ.2.2.2, n, .inr (.inr (.inr (.inr f)))))) (hca : (r.1, "java/lang/Object") ∈ EVC) (hv : ws[qk]? = some (v, .inr (ci, vs))) (hc : vwM[ci]? = some r) (hin : vp_in i n) (hd : decode cc pc = .ok (.aastore, 1))
    (kk : ∀ (H1 : Heap) (locs1 : List Loc), BW D κ (ws.set q0 (a, .inl (κ.2.2.2, n, .inr (.inr (.inr (.inr (va_up f i.toNatClampNeg (some v)))))))) A s H1 locs1 → W p l e R s m args below meth c H1 locs1 cs ss Q (F0 m (pc + 1) ls rest)) : W p l e R s m args below meth c H locs cs ss Q (F0 m pc ls (.ref v :: .int i :: .ref a :: rest)) :=
  va_astqO hC.1 hC.2.1 hG.1 hG.2.1 hG.2.2.1 hG.2.2.2.1 q0 3 qk ci ha rfl (hT.1 _ hca) hv hc hin hd (fun H1 locs1 h1 h2 h3 => kk H1 locs1 ⟨hG.1, h1, h2, h3, hG.2.2.2.2⟩)
/-- the length of the lists' first array -/
theorem zs_elen (hC : CallFix p m c cc nL s args WALL own) (hG : BW D κ ws A s H locs) (hE : EA E0 D κ A s s.heap) (hd : decode cc pc = .ok (.arraylength, 1))
    (kk : W p l e R s m args below meth c H locs cs ss Q (F0 m (pc + 1) ls (.int 0 :: rest))) : W p l e R s m args below meth c H locs cs ss Q (F0 m pc ls (.ref E0 :: rest)) := by
  obtain ⟨cell, h1, h2, h3⟩ := hE.2.2.2.1.kept hE.2.2.2.2 hG.2.2.2.1.2.1
  exact W.alen (n := 0) hC.1 hC.2.1 h1 h2 h3 rfl rfl hd kk
theorem zs_est (hC : CallFix p m c cc nL s args WALL own) (hG : BW D κ ws A s H locs) (hE : EA E0 D κ A s s.heap) (wl : Cond.fieldLink own idx "java/util/ArrayList" "DEFAULTCAPACITY_EMPTY_ELEMENTDATA" "[Ljava/lang/Object;" ∈ WALL) (hd : decode cc pc = .ok (.getstatic idx, 3))
    (kk : W p l e R s m args below meth c H locs cs ss Q (F0 m (pc + 3) ls (.ref E0 :: rest))) : W p l e R s m args below meth c H locs cs ss Q (F0 m pc ls rest) :=
  va_gets hC.1 hC.2.1 hE.2.2.1 hG.2.2.2.1 hC.2.2.2.1 (hC.2.2.2.2 _ wl) (fun _ h => h) hd kk
variable {ws0 ws2 : va_W} {ws1 : W1 → va_W} {qs : W1}
theorem ze_i {v R0 : Int32} {ty : FieldType} (hC : CallFix p m c cc nL s args WALL own) (hG : BW D κ ws2 (va_A ws0 sz) s H locs) (hq : ws2 = ws1 qs) (hv : v = R0) (hr : meth.sig.returnType = some ty) (hn : narrow ty (.int v) = .int v) (hk : meth.locks = false) (hcs : cs ≤ mc) (hss : ss ≤ ms) (hd : decode cc pc = .ok (.ireturn, 1)) :
    W p l e R s m args below meth c H locs cs ss (MQ below (QI D κ ws0 sz R0 ws1) args s mc ms (va_A ws0 sz)) (F0 m pc ls [.int v]) := by
  subst hq
  refine W.widen (k := mc) (n := ms) hcs hss ?_
  exact W.zret (v := v) hC.1 hC.2.1 hr hn (fun t ht hW => ⟨⟨v, qs, rfl, hv, BC.of hG ht hW.alike, hG.2.2.1⟩, hG.2.2.2.1.F ht⟩) hG.2.2.2.1.2.2 hd hk
theorem ze_l {v R0 : Int64} (hC : CallFix p m c cc nL s args WALL own) (hG : BW D κ ws2 (va_A ws0 sz) s H locs) (hq : ws2 = ws1 qs) (hv : v = R0) (hr : meth.sig.returnType = some .long) (hk : meth.locks = false) (hcs : cs ≤ mc) (hss : ss ≤ ms) (hd : decode cc pc = .ok (.lreturn, 1)) :
    W p l e R s m args below meth c H locs cs ss (MQ below (QL D κ ws0 sz R0 ws1) args s mc ms (va_A ws0 sz)) (F0 m pc ls [.long v]) := by
  subst hq
  refine W.widen (k := mc) (n := ms) hcs hss ?_
  exact W.lret (v := v) hC.1 hC.2.1 hr (fun t ht hW => ⟨⟨v, qs, rfl, hv, BC.of hG ht hW.alike, hG.2.2.1⟩, hG.2.2.2.1.F ht⟩) hG.2.2.2.1.2.2 hd hk
theorem ze_d {v R0 : UInt64} (hC : CallFix p m c cc nL s args WALL own) (hG : BW D κ ws2 (va_A ws0 sz) s H locs) (hq : ws2 = ws1 qs) (hv : v = R0) (hr : meth.sig.returnType = some .double) (hk : meth.locks = false) (hcs : cs ≤ mc) (hss : ss ≤ ms) (hd : decode cc pc = .ok (.dreturn, 1)) :
    W p l e R s m args below meth c H locs cs ss (MQ below (QD D κ ws0 sz R0 ws1) args s mc ms (va_A ws0 sz)) (F0 m pc ls [.double v]) := by
  subst hq
  refine W.widen (k := mc) (n := ms) hcs hss ?_
  exact W.dret (v := v) hC.1 hC.2.1 hr (fun t ht hW => ⟨⟨v, qs, rfl, hv, BC.of hG ht hW.alike, hG.2.2.1⟩, hG.2.2.2.1.F ht⟩) hG.2.2.2.1.2.2 hd hk
theorem ze_v (hC : CallFix p m c cc nL s args WALL own) (hG : BW D κ ws2 (va_A ws0 sz) s H locs) (hq : ws2 = ws1 qs) (hr : meth.sig.returnType = none) (hk : meth.locks = false) (hcs : cs ≤ mc) (hss : ss ≤ ms) (hd : decode cc pc = .ok (.return_, 1)) :
    W p l e R s m args below meth c H locs cs ss (MQ below (QV D κ ws0 sz ws1) args s mc ms (va_A ws0 sz)) (F0 m pc ls []) := by
  subst hq
  refine W.widen (k := mc) (n := ms) hcs hss ?_
  exact W.vret hC.1 hC.2.1 hr (fun t ht hW => ⟨⟨qs, rfl, trivial, BC.of hG ht hW.alike, hG.2.2.1⟩, hG.2.2.2.1.F ht⟩) hG.2.2.2.1.2.2 hd hk
theorem ze_r {v : Nat} {R0 : W1 → Nat} {rt : FieldType} (hC : CallFix p m c cc nL s args WALL own) (hG : BW D κ ws2 (va_A ws0 sz) s H locs) (hq : ws2 = ws1 qs) (hv : v = R0 qs) (hr : meth.sig.returnType = some rt) (hrt : (∃ n, rt = .object n) ∨ ∃ t, rt = .array t) (hk : meth.locks = false) (hcs : cs ≤ mc) (hss : ss ≤ ms) (hd : decode cc pc = .ok (.areturn, 1)) :
    W p l e R s m args below meth c H locs cs ss (MQ below (QR D κ ws0 sz R0 ws1) args s mc ms (va_A ws0 sz)) (F0 m pc ls [.ref v]) := by
  subst hq
  refine W.widen (k := mc) (n := ms) hcs hss ?_
  exact W.aret (v := .ref v) hC.1 hC.2.1 hr hrt (Or.inr ⟨v, rfl⟩) (fun t ht hW => ⟨⟨qs, v, rfl, trivial, hv, BC.of hG ht hW.alike, hG.2.2.1⟩, hG.2.2.2.1.F ht⟩) hG.2.2.2.1.2.2 hd hk
end Ops
end
section
/-! WORLDS: a fresh ledger, a fresh model -/
def xw (κ : K4) (a : Nat → Nat) : va_W :=
  [(a 0, .inr (7, [.ref (a 1), .ref (a 7), .ref (a 12), .ref (a 23), .ref (a 28), .ref (a 33), .ref (a 37), .ref (a 41), .int (-1), .int 0])),
   (a 1, .inr (0, [.ref (a 2), .ref (a 3), .ref (a 4), .ref (a 5), .ref (a 6), .int 0])),
   (a 2, .inl (κ.1, 4, .inl (fun _ => 1000))),
   (a 3, .inl (κ.1, 10, .inl (fun _ => 0))),
   (a 4, .inl (κ.1, 10, .inl (fun _ => 0))),
   (a 5, .inl (κ.1, 10, .inl (fun _ => 0))),
   (a 6, .inl (κ.2.2.1, 10, .inl (fun _ => 0))),
   (a 7, .inr (1, [.ref (a 8), .int 0, .int 0, .int 0])),
   (a 8, .inr (4, [.ref (a 9), .ref (a 10), .ref (a 11), .int 0])),
   (a 9, .inl (κ.1, 10, .inl (fun _ => 0))),
   (a 10, .inl (κ.2.1, 10, .inr (.inl (fun _ => 0)))),
   (a 11, .inl (κ.2.1, 10, .inr (.inl (fun _ => 0)))),
   (a 12, .inr (3, [.ref (a 13), .ref (a 14), .ref (a 15), .ref (a 16), .ref (a 17), .ref (a 18), .int 0, .ref (a 19), .ref (a 20), .ref (a 21), .ref (a 22), .int 0])),
   (a 13, .inl (κ.1, 60, .inl (fun _ => 0))),
   (a 14, .inl (κ.1, 60, .inl (fun _ => 0))),
   (a 15, .inl (κ.1, 60, .inl (fun _ => 0))),
   (a 16, .inl (κ.1, 60, .inl (fun _ => 0))),
   (a 17, .inl (κ.2.2.1, 60, .inl (fun _ => 0))),
   (a 18, .inl (κ.2.2.1, 60, .inl (fun _ => 0))),
   (a 19, .inl (κ.1, 600, .inl (fun _ => 0))),
   (a 20, .inl (κ.1, 600, .inl (fun _ => 0))),
   (a 21, .inl (κ.2.1, 600, .inr (.inl (fun _ => 0)))),
   (a 22, .inl (κ.2.1, 600, .inr (.inl (fun _ => 0)))),
   (a 23, .inr (2, [.ref (a 24), .ref (a 25), .ref (a 26), .ref (a 27), .int 0])),
   (a 24, .inl (κ.1, 20, .inl (fun _ => 0))),
   (a 25, .inl (κ.1, 20, .inl (fun _ => 0))),
   (a 26, .inl (κ.1, 20, .inl (fun _ => 0))),
   (a 27, .inl (κ.2.2.1, 20, .inl (fun _ => 0))),
   (a 28, .inr (5, [.ref (a 29), .ref (a 30), .ref (a 31), .ref (a 32), .int 0])),
   (a 29, .inl (κ.1, 40, .inl (fun _ => 0))),
   (a 30, .inl (κ.1, 40, .inl (fun _ => 0))),
   (a 31, .inl (κ.1, 40, .inl (fun _ => 0))),
   (a 32, .inl (κ.1, 40, .inl (fun _ => 0))),
   (a 33, .inr (6, [.ref (a 12), .ref (a 28), .ref (a 34), .ref (a 35), .ref (a 36)])),
   (a 34, .inl (κ.1, 600, .inl (fun _ => (-1)))),
   (a 35, .inl (κ.1, 40, .inl (fun _ => (-1)))),
   (a 36, .inl (κ.1, 40, .inl (fun _ => (-1)))),
   (a 37, .inr (6, [.ref (a 12), .ref (a 28), .ref (a 38), .ref (a 39), .ref (a 40)])),
   (a 38, .inl (κ.1, 600, .inl (fun _ => (-1)))),
   (a 39, .inl (κ.1, 40, .inl (fun _ => (-1)))),
   (a 40, .inl (κ.1, 40, .inl (fun _ => (-1)))),
   (a 41, .inr (4, [.ref (a 42), .ref (a 43), .ref (a 44), .int 0])),
   (a 42, .inl (κ.1, 10, .inl (fun _ => 0))),
   (a 43, .inl (κ.2.1, 10, .inr (.inl (fun _ => 0)))),
   (a 44, .inl (κ.2.1, 10, .inr (.inl (fun _ => 0))))]
theorem xw_0 (κ : K4) (a : Nat → Nat) : (xw κ a)[0]? = some (a 0, .inr (7, [.ref (a 1), .ref (a 7), .ref (a 12), .ref (a 23), .ref (a 28), .ref (a 33), .ref (a 37), .ref (a 41), .int (-1), .int 0])) := rfl
theorem xw_1 (κ : K4) (a : Nat → Nat) : (xw κ a)[1]? = some (a 1, .inr (0, [.ref (a 2), .ref (a 3), .ref (a 4), .ref (a 5), .ref (a 6), .int 0])) := rfl
theorem xw_2 (κ : K4) (a : Nat → Nat) : (xw κ a)[2]? = some (a 2, .inl (κ.1, 4, .inl (fun _ => 1000))) := rfl
theorem xw_3 (κ : K4) (a : Nat → Nat) : (xw κ a)[3]? = some (a 3, .inl (κ.1, 10, .inl (fun _ => 0))) := rfl
theorem xw_4 (κ : K4) (a : Nat → Nat) : (xw κ a)[4]? = some (a 4, .inl (κ.1, 10, .inl (fun _ => 0))) := rfl
theorem xw_5 (κ : K4) (a : Nat → Nat) : (xw κ a)[5]? = some (a 5, .inl (κ.1, 10, .inl (fun _ => 0))) := rfl
theorem xw_6 (κ : K4) (a : Nat → Nat) : (xw κ a)[6]? = some (a 6, .inl (κ.2.2.1, 10, .inl (fun _ => 0))) := rfl
theorem xw_7 (κ : K4) (a : Nat → Nat) : (xw κ a)[7]? = some (a 7, .inr (1, [.ref (a 8), .int 0, .int 0, .int 0])) := rfl
theorem xw_8 (κ : K4) (a : Nat → Nat) : (xw κ a)[8]? = some (a 8, .inr (4, [.ref (a 9), .ref (a 10), .ref (a 11), .int 0])) := rfl
theorem xw_9 (κ : K4) (a : Nat → Nat) : (xw κ a)[9]? = some (a 9, .inl (κ.1, 10, .inl (fun _ => 0))) := rfl
theorem xw_10 (κ : K4) (a : Nat → Nat) : (xw κ a)[10]? = some (a 10, .inl (κ.2.1, 10, .inr (.inl (fun _ => 0)))) := rfl
theorem xw_11 (κ : K4) (a : Nat → Nat) : (xw κ a)[11]? = some (a 11, .inl (κ.2.1, 10, .inr (.inl (fun _ => 0)))) := rfl
theorem xw_12 (κ : K4) (a : Nat → Nat) : (xw κ a)[12]? = some (a 12, .inr (3, [.ref (a 13), .ref (a 14), .ref (a 15), .ref (a 16), .ref (a 17), .ref (a 18), .int 0, .ref (a 19), .ref (a 20), .ref (a 21), .ref (a 22), .int 0])) := rfl
theorem xw_13 (κ : K4) (a : Nat → Nat) : (xw κ a)[13]? = some (a 13, .inl (κ.1, 60, .inl (fun _ => 0))) := rfl
theorem xw_14 (κ : K4) (a : Nat → Nat) : (xw κ a)[14]? = some (a 14, .inl (κ.1, 60, .inl (fun _ => 0))) := rfl
theorem xw_15 (κ : K4) (a : Nat → Nat) : (xw κ a)[15]? = some (a 15, .inl (κ.1, 60, .inl (fun _ => 0))) := rfl
theorem xw_16 (κ : K4) (a : Nat → Nat) : (xw κ a)[16]? = some (a 16, .inl (κ.1, 60, .inl (fun _ => 0))) := rfl
theorem xw_17 (κ : K4) (a : Nat → Nat) : (xw κ a)[17]? = some (a 17, .inl (κ.2.2.1, 60, .inl (fun _ => 0))) := rfl
theorem xw_18 (κ : K4) (a : Nat → Nat) : (xw κ a)[18]? = some (a 18, .inl (κ.2.2.1, 60, .inl (fun _ => 0))) := rfl
theorem xw_19 (κ : K4) (a : Nat → Nat) : (xw κ a)[19]? = some (a 19, .inl (κ.1, 600, .inl (fun _ => 0))) := rfl
theorem xw_20 (κ : K4) (a : Nat → Nat) : (xw κ a)[20]? = some (a 20, .inl (κ.1, 600, .inl (fun _ => 0))) := rfl
theorem xw_21 (κ : K4) (a : Nat → Nat) : (xw κ a)[21]? = some (a 21, .inl (κ.2.1, 600, .inr (.inl (fun _ => 0)))) := rfl
theorem xw_22 (κ : K4) (a : Nat → Nat) : (xw κ a)[22]? = some (a 22, .inl (κ.2.1, 600, .inr (.inl (fun _ => 0)))) := rfl
theorem xw_23 (κ : K4) (a : Nat → Nat) : (xw κ a)[23]? = some (a 23, .inr (2, [.ref (a 24), .ref (a 25), .ref (a 26), .ref (a 27), .int 0])) := rfl
theorem xw_24 (κ : K4) (a : Nat → Nat) : (xw κ a)[24]? = some (a 24, .inl (κ.1, 20, .inl (fun _ => 0))) := rfl
theorem xw_25 (κ : K4) (a : Nat → Nat) : (xw κ a)[25]? = some (a 25, .inl (κ.1, 20, .inl (fun _ => 0))) := rfl
theorem xw_26 (κ : K4) (a : Nat → Nat) : (xw κ a)[26]? = some (a 26, .inl (κ.1, 20, .inl (fun _ => 0))) := rfl
theorem xw_27 (κ : K4) (a : Nat → Nat) : (xw κ a)[27]? = some (a 27, .inl (κ.2.2.1, 20, .inl (fun _ => 0))) := rfl
theorem xw_28 (κ : K4) (a : Nat → Nat) : (xw κ a)[28]? = some (a 28, .inr (5, [.ref (a 29), .ref (a 30), .ref (a 31), .ref (a 32), .int 0])) := rfl
theorem xw_29 (κ : K4) (a : Nat → Nat) : (xw κ a)[29]? = some (a 29, .inl (κ.1, 40, .inl (fun _ => 0))) := rfl
theorem xw_30 (κ : K4) (a : Nat → Nat) : (xw κ a)[30]? = some (a 30, .inl (κ.1, 40, .inl (fun _ => 0))) := rfl
theorem xw_31 (κ : K4) (a : Nat → Nat) : (xw κ a)[31]? = some (a 31, .inl (κ.1, 40, .inl (fun _ => 0))) := rfl
theorem xw_32 (κ : K4) (a : Nat → Nat) : (xw κ a)[32]? = some (a 32, .inl (κ.1, 40, .inl (fun _ => 0))) := rfl
theorem xw_33 (κ : K4) (a : Nat → Nat) : (xw κ a)[33]? = some (a 33, .inr (6, [.ref (a 12), .ref (a 28), .ref (a 34), .ref (a 35), .ref (a 36)])) := rfl
theorem xw_34 (κ : K4) (a : Nat → Nat) : (xw κ a)[34]? = some (a 34, .inl (κ.1, 600, .inl (fun _ => (-1)))) := rfl
theorem xw_35 (κ : K4) (a : Nat → Nat) : (xw κ a)[35]? = some (a 35, .inl (κ.1, 40, .inl (fun _ => (-1)))) := rfl
theorem xw_36 (κ : K4) (a : Nat → Nat) : (xw κ a)[36]? = some (a 36, .inl (κ.1, 40, .inl (fun _ => (-1)))) := rfl
theorem xw_37 (κ : K4) (a : Nat → Nat) : (xw κ a)[37]? = some (a 37, .inr (6, [.ref (a 12), .ref (a 28), .ref (a 38), .ref (a 39), .ref (a 40)])) := rfl
theorem xw_38 (κ : K4) (a : Nat → Nat) : (xw κ a)[38]? = some (a 38, .inl (κ.1, 600, .inl (fun _ => (-1)))) := rfl
theorem xw_39 (κ : K4) (a : Nat → Nat) : (xw κ a)[39]? = some (a 39, .inl (κ.1, 40, .inl (fun _ => (-1)))) := rfl
theorem xw_40 (κ : K4) (a : Nat → Nat) : (xw κ a)[40]? = some (a 40, .inl (κ.1, 40, .inl (fun _ => (-1)))) := rfl
theorem xw_41 (κ : K4) (a : Nat → Nat) : (xw κ a)[41]? = some (a 41, .inr (4, [.ref (a 42), .ref (a 43), .ref (a 44), .int 0])) := rfl
theorem xw_42 (κ : K4) (a : Nat → Nat) : (xw κ a)[42]? = some (a 42, .inl (κ.1, 10, .inl (fun _ => 0))) := rfl
theorem xw_43 (κ : K4) (a : Nat → Nat) : (xw κ a)[43]? = some (a 43, .inl (κ.2.1, 10, .inr (.inl (fun _ => 0)))) := rfl
theorem xw_44 (κ : K4) (a : Nat → Nat) : (xw κ a)[44]? = some (a 44, .inl (κ.2.1, 10, .inr (.inl (fun _ => 0)))) := rfl
def mw (κ : K4) (b : Nat → Nat) (E0 : Nat) (th : Int32) : va_W :=
  [(b 0, .inr (9, [.int th, .ref (b 1), .ref (b 2), .ref (b 3), .ref (b 4), .ref (b 5), .ref (b 6), .ref (b 7), .null, .int 0, .int (-1), .int 0, .int 0, .int 0, .ref (b 8)])),
   (b 1, .inl (κ.1, 4, .inl (fun _ => 1000))),
   (b 2, .inr (10, [.int 0, .ref E0, .int 0])),
   (b 3, .inr (10, [.int 0, .ref E0, .int 0])),
   (b 4, .inr (10, [.int 0, .ref E0, .int 0])),
   (b 5, .inr (10, [.int 0, .ref E0, .int 0])),
   (b 6, .inr (10, [.int 0, .ref E0, .int 0])),
   (b 7, .inr (10, [.int 0, .ref E0, .int 0])),
   (b 8, .inr (10, [.int 0, .ref E0, .int 0]))]
end
section
/-- the first i places are -1 -/
def fill (i : Nat) : Nat → Int32 := fun j => if j < i then -1 else 0
theorem fill_s (i j : Nat) : va_up (fill i) i (-1) j = fill (i + 1) j := by
  unfold va_up fill
  by_cases h : j = i
  · rw [if_pos h, if_pos (by omega)]
  · rw [if_neg h]
    by_cases h2 : j < i
    · rw [if_pos h2, if_pos (by omega)]
    · rw [if_neg h2, if_neg (by omega)]

theorem dX0_init_0 : decode cX0_init 0 = .ok (.aload_n 0, 1) := by decide +kernel
theorem dX0_init_1 : decode cX0_init 1 = .ok (.invokespecial 3, 3) := by decide +kernel
theorem dX0_init_10 : decode cX0_init 10 = .ok (.sipush 1000, 3) := by decide +kernel
theorem dX0_init_13 : decode cX0_init 13 = .ok (.iastore, 1) := by decide +kernel
theorem dX0_init_14 : decode cX0_init 14 = .ok (.dup, 1) := by decide +kernel
theorem dX0_init_15 : decode cX0_init 15 = .ok (.iconst 1, 1) := by decide +kernel
theorem dX0_init_16 : decode cX0_init 16 = .ok (.sipush 1000, 3) := by decide +kernel
theorem dX0_init_19 : decode cX0_init 19 = .ok (.iastore, 1) := by decide +kernel
theorem dX0_init_20 : decode cX0_init 20 = .ok (.dup, 1) := by decide +kernel
theorem dX0_init_21 : decode cX0_init 21 = .ok (.iconst 2, 1) := by decide +kernel
theorem dX0_init_22 : decode cX0_init 22 = .ok (.sipush 1000, 3) := by decide +kernel
theorem dX0_init_25 : decode cX0_init 25 = .ok (.iastore, 1) := by decide +kernel
theorem dX0_init_26 : decode cX0_init 26 = .ok (.dup, 1) := by decide +kernel
theorem dX0_init_27 : decode cX0_init 27 = .ok (.iconst 3, 1) := by decide +kernel
theorem dX0_init_28 : decode cX0_init 28 = .ok (.sipush 1000, 3) := by decide +kernel
theorem dX0_init_31 : decode cX0_init 31 = .ok (.iastore, 1) := by decide +kernel
theorem dX0_init_32 : decode cX0_init 32 = .ok (.putfield 9, 3) := by decide +kernel
theorem dX0_init_35 : decode cX0_init 35 = .ok (.aload_n 0, 1) := by decide +kernel
theorem dX0_init_36 : decode cX0_init 36 = .ok (.bipush 10, 2) := by decide +kernel
theorem dX0_init_38 : decode cX0_init 38 = .ok (.newarray .int, 2) := by decide +kernel
theorem dX0_init_4 : decode cX0_init 4 = .ok (.aload_n 0, 1) := by decide +kernel
theorem dX0_init_40 : decode cX0_init 40 = .ok (.putfield 15, 3) := by decide +kernel
theorem dX0_init_43 : decode cX0_init 43 = .ok (.aload_n 0, 1) := by decide +kernel
theorem dX0_init_44 : decode cX0_init 44 = .ok (.bipush 10, 2) := by decide +kernel
theorem dX0_init_46 : decode cX0_init 46 = .ok (.newarray .int, 2) := by decide +kernel
theorem dX0_init_48 : decode cX0_init 48 = .ok (.putfield 18, 3) := by decide +kernel
theorem dX0_init_5 : decode cX0_init 5 = .ok (.iconst 4, 1) := by decide +kernel
theorem dX0_init_51 : decode cX0_init 51 = .ok (.aload_n 0, 1) := by decide +kernel
theorem dX0_init_52 : decode cX0_init 52 = .ok (.bipush 10, 2) := by decide +kernel
theorem dX0_init_54 : decode cX0_init 54 = .ok (.newarray .int, 2) := by decide +kernel
theorem dX0_init_56 : decode cX0_init 56 = .ok (.putfield 21, 3) := by decide +kernel
theorem dX0_init_59 : decode cX0_init 59 = .ok (.aload_n 0, 1) := by decide +kernel
theorem dX0_init_6 : decode cX0_init 6 = .ok (.newarray .int, 2) := by decide +kernel
theorem dX0_init_60 : decode cX0_init 60 = .ok (.bipush 10, 2) := by decide +kernel
theorem dX0_init_62 : decode cX0_init 62 = .ok (.newarray .boolean, 2) := by decide +kernel
theorem dX0_init_64 : decode cX0_init 64 = .ok (.putfield 24, 3) := by decide +kernel
theorem dX0_init_67 : decode cX0_init 67 = .ok (.aload_n 0, 1) := by decide +kernel
theorem dX0_init_68 : decode cX0_init 68 = .ok (.iconst 0, 1) := by decide +kernel
theorem dX0_init_69 : decode cX0_init 69 = .ok (.putfield 28, 3) := by decide +kernel
theorem dX0_init_72 : decode cX0_init 72 = .ok (.return_, 1) := by decide +kernel
theorem dX0_init_8 : decode cX0_init 8 = .ok (.dup, 1) := by decide +kernel
theorem dX0_init_9 : decode cX0_init 9 = .ok (.iconst 0, 1) := by decide +kernel
set_option maxHeartbeats 4000000 in
set_option maxRecDepth 100000 in
theorem c_init_0 (l : Launch) (D : va_G) (κ : K4) (sz h0 : Nat) : CM l yX0_init cX0_init 1 1 12 5 44 D κ [] [(h0, .inr (0, [.null, .null, .null, .null, .null, .int 0]))] sz [.ref h0] (fun qs : Nat → Nat => [(h0, .inr (0, [.ref (qs 0), .ref (qs 1), .ref (qs 2), .ref (qs 3), .ref (qs 4), .int (nI 0)])), (qs 0, .inl (κ.1, 4, .inl (fun _ => nI 1000))), (qs 1, .inl (κ.1, 10, .inl (fun _ => 0))), (qs 2, .inl (κ.1, 10, .inl (fun _ => 0))), (qs 3, .inl (κ.1, 10, .inl (fun _ => 0))), (qs 4, .inl (κ.2.2.1, 10, .inl (fun _ => 0)))]) := by
  refine CM.of (by decide +kernel) (Nat.le_of_ble_eq_true rfl) rfl ?_
  intro p e s m below meth c ls hC hr hk hin hsz hX H locs hG hl
  have hx := hC.1
  have hb := hC.2.1
  have hl : lv_has ls 1 [(0, (.ref h0))] := hl
  refine lv_aload_n hx hb dX0_init_0 rfl (lv_at hl 0 rfl) ?_
  refine bw_obj hC w46 hl.1 dX0_init_1 (by decide) (by decide) w11 w12 ?_
  refine lv_aload_n hx hb dX0_init_4 rfl (lv_at hl 0 rfl) ?_
  refine lv_iconst (v := nI 4) hx hb dX0_init_5 (by decide) ?_
  have hk1 : 0 + 1 ≤ 5 := by decide
  have hs1 : 0 + 4 ≤ 44 := by decide
  refine bw_nI hC hG (by decide) w47 hk1 hs1 dX0_init_6 (fun q1 H hG => ?_)
  have hG : BW D κ [(h0, .inr (0, [.null, .null, .null, .null, .null, .int 0])), (q1, .inl (κ.1, 4, .inl (fun _ => 0)))] _ s H locs := hG
  refine W.widen (k := 1) (n := 4) (by decide) (by decide) ?_
  refine lv_dup hx hb dX0_init_8 rfl ?_
  refine lv_iconst (v := nI 0) hx hb dX0_init_9 (by decide) ?_
  refine lv_sipush (v := nI 1000) hx hb dX0_init_10 (by decide) ?_
  refine bw_ast 1 hC hG rfl (by decide) (by decide) dX0_init_13 (fun H locs hG => ?_)
  have hG : BW D κ [(h0, .inr (0, [.null, .null, .null, .null, .null, .int 0])), (q1, .inl (κ.1, 4, .inl (va_up (fun _ => 0) 0 (nI 1000))))] _ s H locs := hG
  refine lv_dup hx hb dX0_init_14 rfl ?_
  refine lv_iconst (v := nI 1) hx hb dX0_init_15 (by decide) ?_
  refine lv_sipush (v := nI 1000) hx hb dX0_init_16 (by decide) ?_
  refine bw_ast 1 hC hG rfl (by decide) (by decide) dX0_init_19 (fun H locs hG => ?_)
  have hG : BW D κ [(h0, .inr (0, [.null, .null, .null, .null, .null, .int 0])), (q1, .inl (κ.1, 4, .inl (va_up (va_up (fun _ => 0) 0 (nI 1000)) 1 (nI 1000))))] _ s H locs := hG
  refine lv_dup hx hb dX0_init_20 rfl ?_
  refine lv_iconst (v := nI 2) hx hb dX0_init_21 (by decide) ?_
  refine lv_sipush (v := nI 1000) hx hb dX0_init_22 (by decide) ?_
  refine bw_ast 1 hC hG rfl (by decide) (by decide) dX0_init_25 (fun H locs hG => ?_)
  have hG : BW D κ [(h0, .inr (0, [.null, .null, .null, .null, .null, .int 0])), (q1, .inl (κ.1, 4, .inl (va_up (va_up (va_up (fun _ => 0) 0 (nI 1000)) 1 (nI 1000)) 2 (nI 1000))))] _ s H locs := hG
  refine lv_dup hx hb dX0_init_26 rfl ?_
  refine lv_iconst (v := nI 3) hx hb dX0_init_27 (by decide) ?_
  refine lv_sipush (v := nI 1000) hx hb dX0_init_28 (by decide) ?_
  refine bw_ast 1 hC hG rfl (by decide) (by decide) dX0_init_31 (fun H locs hG => ?_)
  have hG : BW D κ [(h0, .inr (0, [.null, .null, .null, .null, .null, .int 0])), (q1, .inl (κ.1, 4, .inl (va_up (va_up (va_up (va_up (fun _ => 0) 0 (nI 1000)) 1 (nI 1000)) 2 (nI 1000)) 3 (nI 1000))))] _ s H locs := hG
  refine bw_put (C := RX0) (T := TX0) (N := 6) (ci := 0) (ty0 := tyX0) (ty := .array .int) (v := .ref q1) 0 (by decide) 0 hC hG iwX0 tyX0_ok nmX0 rfl rfl w48 rfl (Or.inr ⟨hin, rfl⟩) (by decide +kernel) rfl rfl (Nat.le_of_ble_eq_true rfl) dX0_init_32 (fun H locs hG => ?_)
  have hG : BW D κ [(h0, .inr (0, [.ref q1, .null, .null, .null, .null, .int 0])), (q1, .inl (κ.1, 4, .inl (va_up (va_up (va_up (va_up (fun _ => 0) 0 (nI 1000)) 1 (nI 1000)) 2 (nI 1000)) 3 (nI 1000))))] _ s H locs := hG
  refine lv_aload_n hx hb dX0_init_35 rfl (lv_at hl 0 rfl) ?_
  refine lv_bipush (v := nI 10) hx hb dX0_init_36 (by decide) ?_
  have hk2 : 1 + 1 ≤ 5 := by decide
  have hs2 : 4 + 10 ≤ 44 := by decide
  refine bw_nI hC hG (by decide) w47 hk2 hs2 dX0_init_38 (fun q2 H hG => ?_)
  have hG : BW D κ [(h0, .inr (0, [.ref q1, .null, .null, .null, .null, .int 0])), (q1, .inl (κ.1, 4, .inl (va_up (va_up (va_up (va_up (fun _ => 0) 0 (nI 1000)) 1 (nI 1000)) 2 (nI 1000)) 3 (nI 1000)))), (q2, .inl (κ.1, 10, .inl (fun _ => 0)))] _ s H locs := hG
  refine W.widen (k := 2) (n := 14) (by decide) (by decide) ?_
  refine bw_put (C := RX0) (T := TX0) (N := 6) (ci := 0) (ty0 := tyX0) (ty := .array .int) (v := .ref q2) 1 (by decide) 0 hC hG iwX0 tyX0_ok nmX0 rfl rfl w49 rfl (Or.inr ⟨hin, rfl⟩) (by decide +kernel) rfl rfl (Nat.le_of_ble_eq_true rfl) dX0_init_40 (fun H locs hG => ?_)
  have hG : BW D κ [(h0, .inr (0, [.ref q1, .ref q2, .null, .null, .null, .int 0])), (q1, .inl (κ.1, 4, .inl (va_up (va_up (va_up (va_up (fun _ => 0) 0 (nI 1000)) 1 (nI 1000)) 2 (nI 1000)) 3 (nI 1000)))), (q2, .inl (κ.1, 10, .inl (fun _ => 0)))] _ s H locs := hG
  refine lv_aload_n hx hb dX0_init_43 rfl (lv_at hl 0 rfl) ?_
  refine lv_bipush (v := nI 10) hx hb dX0_init_44 (by decide) ?_
  have hk3 : 2 + 1 ≤ 5 := by decide
  have hs3 : 14 + 10 ≤ 44 := by decide
  refine bw_nI hC hG (by decide) w47 hk3 hs3 dX0_init_46 (fun q3 H hG => ?_)
  have hG : BW D κ [(h0, .inr (0, [.ref q1, .ref q2, .null, .null, .null, .int 0])), (q1, .inl (κ.1, 4, .inl (va_up (va_up (va_up (va_up (fun _ => 0) 0 (nI 1000)) 1 (nI 1000)) 2 (nI 1000)) 3 (nI 1000)))), (q2, .inl (κ.1, 10, .inl (fun _ => 0))), (q3, .inl (κ.1, 10, .inl (fun _ => 0)))] _ s H locs := hG
  refine W.widen (k := 3) (n := 24) (by decide) (by decide) ?_
  refine bw_put (C := RX0) (T := TX0) (N := 6) (ci := 0) (ty0 := tyX0) (ty := .array .int) (v := .ref q3) 2 (by decide) 0 hC hG iwX0 tyX0_ok nmX0 rfl rfl w50 rfl (Or.inr ⟨hin, rfl⟩) (by decide +kernel) rfl rfl (Nat.le_of_ble_eq_true rfl) dX0_init_48 (fun H locs hG => ?_)
  have hG : BW D κ [(h0, .inr (0, [.ref q1, .ref q2, .ref q3, .null, .null, .int 0])), (q1, .inl (κ.1, 4, .inl (va_up (va_up (va_up (va_up (fun _ => 0) 0 (nI 1000)) 1 (nI 1000)) 2 (nI 1000)) 3 (nI 1000)))), (q2, .inl (κ.1, 10, .inl (fun _ => 0))), (q3, .inl (κ.1, 10, .inl (fun _ => 0)))] _ s H locs := hG
  refine lv_aload_n hx hb dX0_init_51 rfl (lv_at hl 0 rfl) ?_
  refine lv_bipush (v := nI 10) hx hb dX0_init_52 (by decide) ?_
  have hk4 : 3 + 1 ≤ 5 := by decide
  have hs4 : 24 + 10 ≤ 44 := by decide
  refine bw_nI hC hG (by decide) w47 hk4 hs4 dX0_init_54 (fun q4 H hG => ?_)
  have hG : BW D κ [(h0, .inr (0, [.ref q1, .ref q2, .ref q3, .null, .null, .int 0])), (q1, .inl (κ.1, 4, .inl (va_up (va_up (va_up (va_up (fun _ => 0) 0 (nI 1000)) 1 (nI 1000)) 2 (nI 1000)) 3 (nI 1000)))), (q2, .inl (κ.1, 10, .inl (fun _ => 0))), (q3, .inl (κ.1, 10, .inl (fun _ => 0))), (q4, .inl (κ.1, 10, .inl (fun _ => 0)))] _ s H locs := hG
  refine W.widen (k := 4) (n := 34) (by decide) (by decide) ?_
  refine bw_put (C := RX0) (T := TX0) (N := 6) (ci := 0) (ty0 := tyX0) (ty := .array .int) (v := .ref q4) 3 (by decide) 0 hC hG iwX0 tyX0_ok nmX0 rfl rfl w51 rfl (Or.inr ⟨hin, rfl⟩) (by decide +kernel) rfl rfl (Nat.le_of_ble_eq_true rfl) dX0_init_56 (fun H locs hG => ?_)
  have hG : BW D κ [(h0, .inr (0, [.ref q1, .ref q2, .ref q3, .ref q4, .null, .int 0])), (q1, .inl (κ.1, 4, .inl (va_up (va_up (va_up (va_up (fun _ => 0) 0 (nI 1000)) 1 (nI 1000)) 2 (nI 1000)) 3 (nI 1000)))), (q2, .inl (κ.1, 10, .inl (fun _ => 0))), (q3, .inl (κ.1, 10, .inl (fun _ => 0))), (q4, .inl (κ.1, 10, .inl (fun _ => 0)))] _ s H locs := hG
  refine lv_aload_n hx hb dX0_init_59 rfl (lv_at hl 0 rfl) ?_
  refine lv_bipush (v := nI 10) hx hb dX0_init_60 (by decide) ?_
  have hk5 : 4 + 1 ≤ 5 := by decide
  have hs5 : 34 + 10 ≤ 44 := by decide
  refine bw_nZ hC hG (by decide) w52 hk5 hs5 dX0_init_62 (fun q5 H hG => ?_)
  have hG : BW D κ [(h0, .inr (0, [.ref q1, .ref q2, .ref q3, .ref q4, .null, .int 0])), (q1, .inl (κ.1, 4, .inl (va_up (va_up (va_up (va_up (fun _ => 0) 0 (nI 1000)) 1 (nI 1000)) 2 (nI 1000)) 3 (nI 1000)))), (q2, .inl (κ.1, 10, .inl (fun _ => 0))), (q3, .inl (κ.1, 10, .inl (fun _ => 0))), (q4, .inl (κ.1, 10, .inl (fun _ => 0))), (q5, .inl (κ.2.2.1, 10, .inl (fun _ => 0)))] _ s H locs := hG
  refine W.widen (k := 5) (n := 44) (by decide) (by decide) ?_
  refine bw_put (C := RX0) (T := TX0) (N := 6) (ci := 0) (ty0 := tyX0) (ty := .array .boolean) (v := .ref q5) 4 (by decide) 0 hC hG iwX0 tyX0_ok nmX0 rfl rfl w53 rfl (Or.inr ⟨hin, rfl⟩) (by decide +kernel) rfl rfl (Nat.le_of_ble_eq_true rfl) dX0_init_64 (fun H locs hG => ?_)
  have hG : BW D κ [(h0, .inr (0, [.ref q1, .ref q2, .ref q3, .ref q4, .ref q5, .int 0])), (q1, .inl (κ.1, 4, .inl (va_up (va_up (va_up (va_up (fun _ => 0) 0 (nI 1000)) 1 (nI 1000)) 2 (nI 1000)) 3 (nI 1000)))), (q2, .inl (κ.1, 10, .inl (fun _ => 0))), (q3, .inl (κ.1, 10, .inl (fun _ => 0))), (q4, .inl (κ.1, 10, .inl (fun _ => 0))), (q5, .inl (κ.2.2.1, 10, .inl (fun _ => 0)))] _ s H locs := hG
  refine lv_aload_n hx hb dX0_init_67 rfl (lv_at hl 0 rfl) ?_
  refine lv_iconst (v := nI 0) hx hb dX0_init_68 (by decide) ?_
  refine bw_put (C := RX0) (T := TX0) (N := 6) (ci := 0) (ty0 := tyX0) (ty := .int) (v := .int (nI 0)) 5 (by decide) 0 hC hG iwX0 tyX0_ok nmX0 rfl rfl w54 rfl (Or.inl rfl) (by decide +kernel) rfl rfl (Nat.le_of_ble_eq_true rfl) dX0_init_69 (fun H locs hG => ?_)
  have hG : BW D κ [(h0, .inr (0, [.ref q1, .ref q2, .ref q3, .ref q4, .ref q5, .int (nI 0)])), (q1, .inl (κ.1, 4, .inl (va_up (va_up (va_up (va_up (fun _ => 0) 0 (nI 1000)) 1 (nI 1000)) 2 (nI 1000)) 3 (nI 1000)))), (q2, .inl (κ.1, 10, .inl (fun _ => 0))), (q3, .inl (κ.1, 10, .inl (fun _ => 0))), (q4, .inl (κ.1, 10, .inl (fun _ => 0))), (q5, .inl (κ.2.2.1, 10, .inl (fun _ => 0)))] _ s H locs := hG
  have hG := hG.arrI 1 (g := fun _ => nI 1000) rfl (fun j hj => by rcases (show j = 0 ∨ j = 1 ∨ j = 2 ∨ j = 3 by omega) with rfl | rfl | rfl | rfl <;> rfl)
  have hG : BW D κ [(h0, .inr (0, [.ref q1, .ref q2, .ref q3, .ref q4, .ref q5, .int (nI 0)])), (q1, .inl (κ.1, 4, .inl (fun _ => nI 1000))), (q2, .inl (κ.1, 10, .inl (fun _ => 0))), (q3, .inl (κ.1, 10, .inl (fun _ => 0))), (q4, .inl (κ.1, 10, .inl (fun _ => 0))), (q5, .inl (κ.2.2.1, 10, .inl (fun _ => 0)))] _ s H locs := hG
  exact bw_end (qs := fun k => match k with | 0 => q1 | 1 => q2 | 2 => q3 | 3 => q4 | _ => q5) hC hG rfl hr hk (by decide) (by decide) dX0_init_72

theorem dX4_init_0 : decode cX4_init 0 = .ok (.aload_n 0, 1) := by decide +kernel
theorem dX4_init_1 : decode cX4_init 1 = .ok (.invokespecial 3, 3) := by decide +kernel
theorem dX4_init_12 : decode cX4_init 12 = .ok (.aload_n 0, 1) := by decide +kernel
theorem dX4_init_13 : decode cX4_init 13 = .ok (.bipush 10, 2) := by decide +kernel
theorem dX4_init_15 : decode cX4_init 15 = .ok (.newarray .long, 2) := by decide +kernel
theorem dX4_init_17 : decode cX4_init 17 = .ok (.putfield 15, 3) := by decide +kernel
theorem dX4_init_20 : decode cX4_init 20 = .ok (.aload_n 0, 1) := by decide +kernel
theorem dX4_init_21 : decode cX4_init 21 = .ok (.bipush 10, 2) := by decide +kernel
theorem dX4_init_23 : decode cX4_init 23 = .ok (.newarray .long, 2) := by decide +kernel
theorem dX4_init_25 : decode cX4_init 25 = .ok (.putfield 19, 3) := by decide +kernel
theorem dX4_init_28 : decode cX4_init 28 = .ok (.aload_n 0, 1) := by decide +kernel
theorem dX4_init_29 : decode cX4_init 29 = .ok (.iconst 0, 1) := by decide +kernel
theorem dX4_init_30 : decode cX4_init 30 = .ok (.putfield 22, 3) := by decide +kernel
theorem dX4_init_33 : decode cX4_init 33 = .ok (.return_, 1) := by decide +kernel
theorem dX4_init_4 : decode cX4_init 4 = .ok (.aload_n 0, 1) := by decide +kernel
theorem dX4_init_5 : decode cX4_init 5 = .ok (.bipush 10, 2) := by decide +kernel
theorem dX4_init_7 : decode cX4_init 7 = .ok (.newarray .int, 2) := by decide +kernel
theorem dX4_init_9 : decode cX4_init 9 = .ok (.putfield 9, 3) := by decide +kernel
set_option maxHeartbeats 4000000 in
set_option maxRecDepth 100000 in
theorem c_init_4 (l : Launch) (D : va_G) (κ : K4) (sz h0 : Nat) : CM l yX4_init cX4_init 1 1 12 3 30 D κ [] [(h0, .inr (4, [.null, .null, .null, .int 0]))] sz [.ref h0] (fun qs : Nat → Nat => [(h0, .inr (4, [.ref (qs 0), .ref (qs 1), .ref (qs 2), .int (nI 0)])), (qs 0, .inl (κ.1, 10, .inl (fun _ => 0))), (qs 1, .inl (κ.2.1, 10, .inr (.inl (fun _ => 0)))), (qs 2, .inl (κ.2.1, 10, .inr (.inl (fun _ => 0))))]) := by
  refine CM.of (by decide +kernel) (Nat.le_of_ble_eq_true rfl) rfl ?_
  intro p e s m below meth c ls hC hr hk hin hsz hX H locs hG hl
  have hx := hC.1
  have hb := hC.2.1
  have hl : lv_has ls 1 [(0, (.ref h0))] := hl
  refine lv_aload_n hx hb dX4_init_0 rfl (lv_at hl 0 rfl) ?_
  refine bw_obj hC w65 hl.1 dX4_init_1 (by decide) (by decide) w11 w12 ?_
  refine lv_aload_n hx hb dX4_init_4 rfl (lv_at hl 0 rfl) ?_
  refine lv_bipush (v := nI 10) hx hb dX4_init_5 (by decide) ?_
  have hk1 : 0 + 1 ≤ 3 := by decide
  have hs1 : 0 + 10 ≤ 30 := by decide
  refine bw_nI hC hG (by decide) w47 hk1 hs1 dX4_init_7 (fun q1 H hG => ?_)
  have hG : BW D κ [(h0, .inr (4, [.null, .null, .null, .int 0])), (q1, .inl (κ.1, 10, .inl (fun _ => 0)))] _ s H locs := hG
  refine W.widen (k := 1) (n := 10) (by decide) (by decide) ?_
  refine bw_put (C := RX4) (T := TX4) (N := 4) (ci := 4) (ty0 := tyX4) (ty := .array .int) (v := .ref q1) 0 (by decide) 0 hC hG iwX4 tyX4_ok nmX4 rfl rfl w66 rfl (Or.inr ⟨hin, rfl⟩) (by decide +kernel) rfl rfl (Nat.le_of_ble_eq_true rfl) dX4_init_9 (fun H locs hG => ?_)
  have hG : BW D κ [(h0, .inr (4, [.ref q1, .null, .null, .int 0])), (q1, .inl (κ.1, 10, .inl (fun _ => 0)))] _ s H locs := hG
  refine lv_aload_n hx hb dX4_init_12 rfl (lv_at hl 0 rfl) ?_
  refine lv_bipush (v := nI 10) hx hb dX4_init_13 (by decide) ?_
  have hk2 : 1 + 1 ≤ 3 := by decide
  have hs2 : 10 + 10 ≤ 30 := by decide
  refine bw_nJ hC hG (by decide) w6 hk2 hs2 dX4_init_15 (fun q2 H hG => ?_)
  have hG : BW D κ [(h0, .inr (4, [.ref q1, .null, .null, .int 0])), (q1, .inl (κ.1, 10, .inl (fun _ => 0))), (q2, .inl (κ.2.1, 10, .inr (.inl (fun _ => 0))))] _ s H locs := hG
  refine W.widen (k := 2) (n := 20) (by decide) (by decide) ?_
  refine bw_put (C := RX4) (T := TX4) (N := 4) (ci := 4) (ty0 := tyX4) (ty := .array .long) (v := .ref q2) 1 (by decide) 0 hC hG iwX4 tyX4_ok nmX4 rfl rfl w67 rfl (Or.inr ⟨hin, rfl⟩) (by decide +kernel) rfl rfl (Nat.le_of_ble_eq_true rfl) dX4_init_17 (fun H locs hG => ?_)
  have hG : BW D κ [(h0, .inr (4, [.ref q1, .ref q2, .null, .int 0])), (q1, .inl (κ.1, 10, .inl (fun _ => 0))), (q2, .inl (κ.2.1, 10, .inr (.inl (fun _ => 0))))] _ s H locs := hG
  refine lv_aload_n hx hb dX4_init_20 rfl (lv_at hl 0 rfl) ?_
  refine lv_bipush (v := nI 10) hx hb dX4_init_21 (by decide) ?_
  have hk3 : 2 + 1 ≤ 3 := by decide
  have hs3 : 20 + 10 ≤ 30 := by decide
  refine bw_nJ hC hG (by decide) w6 hk3 hs3 dX4_init_23 (fun q3 H hG => ?_)
  have hG : BW D κ [(h0, .inr (4, [.ref q1, .ref q2, .null, .int 0])), (q1, .inl (κ.1, 10, .inl (fun _ => 0))), (q2, .inl (κ.2.1, 10, .inr (.inl (fun _ => 0)))), (q3, .inl (κ.2.1, 10, .inr (.inl (fun _ => 0))))] _ s H locs := hG
  refine W.widen (k := 3) (n := 30) (by decide) (by decide) ?_
  refine bw_put (C := RX4) (T := TX4) (N := 4) (ci := 4) (ty0 := tyX4) (ty := .array .long) (v := .ref q3) 2 (by decide) 0 hC hG iwX4 tyX4_ok nmX4 rfl rfl w68 rfl (Or.inr ⟨hin, rfl⟩) (by decide +kernel) rfl rfl (Nat.le_of_ble_eq_true rfl) dX4_init_25 (fun H locs hG => ?_)
  have hG : BW D κ [(h0, .inr (4, [.ref q1, .ref q2, .ref q3, .int 0])), (q1, .inl (κ.1, 10, .inl (fun _ => 0))), (q2, .inl (κ.2.1, 10, .inr (.inl (fun _ => 0)))), (q3, .inl (κ.2.1, 10, .inr (.inl (fun _ => 0))))] _ s H locs := hG
  refine lv_aload_n hx hb dX4_init_28 rfl (lv_at hl 0 rfl) ?_
  refine lv_iconst (v := nI 0) hx hb dX4_init_29 (by decide) ?_
  refine bw_put (C := RX4) (T := TX4) (N := 4) (ci := 4) (ty0 := tyX4) (ty := .int) (v := .int (nI 0)) 3 (by decide) 0 hC hG iwX4 tyX4_ok nmX4 rfl rfl w69 rfl (Or.inl rfl) (by decide +kernel) rfl rfl (Nat.le_of_ble_eq_true rfl) dX4_init_30 (fun H locs hG => ?_)
  have hG : BW D κ [(h0, .inr (4, [.ref q1, .ref q2, .ref q3, .int (nI 0)])), (q1, .inl (κ.1, 10, .inl (fun _ => 0))), (q2, .inl (κ.2.1, 10, .inr (.inl (fun _ => 0)))), (q3, .inl (κ.2.1, 10, .inr (.inl (fun _ => 0))))] _ s H locs := hG
  exact bw_end (qs := fun k => match k with | 0 => q1 | 1 => q2 | _ => q3) hC hG rfl hr hk (by decide) (by decide) dX4_init_33

theorem dX1_init_0 : decode cX1_init 0 = .ok (.aload_n 0, 1) := by decide +kernel
theorem dX1_init_1 : decode cX1_init 1 = .ok (.invokespecial 1, 3) := by decide +kernel
theorem dX1_init_12 : decode cX1_init 12 = .ok (.putfield 10, 3) := by decide +kernel
theorem dX1_init_15 : decode cX1_init 15 = .ok (.aload_n 0, 1) := by decide +kernel
theorem dX1_init_16 : decode cX1_init 16 = .ok (.iconst 0, 1) := by decide +kernel
theorem dX1_init_17 : decode cX1_init 17 = .ok (.putfield 16, 3) := by decide +kernel
theorem dX1_init_20 : decode cX1_init 20 = .ok (.aload_n 0, 1) := by decide +kernel
theorem dX1_init_21 : decode cX1_init 21 = .ok (.iconst 0, 1) := by decide +kernel
theorem dX1_init_22 : decode cX1_init 22 = .ok (.putfield 20, 3) := by decide +kernel
theorem dX1_init_25 : decode cX1_init 25 = .ok (.aload_n 0, 1) := by decide +kernel
theorem dX1_init_26 : decode cX1_init 26 = .ok (.iconst 0, 1) := by decide +kernel
theorem dX1_init_27 : decode cX1_init 27 = .ok (.putfield 24, 3) := by decide +kernel
theorem dX1_init_30 : decode cX1_init 30 = .ok (.return_, 1) := by decide +kernel
theorem dX1_init_4 : decode cX1_init 4 = .ok (.aload_n 0, 1) := by decide +kernel
theorem dX1_init_5 : decode cX1_init 5 = .ok (.new 7, 3) := by decide +kernel
theorem dX1_init_8 : decode cX1_init 8 = .ok (.dup, 1) := by decide +kernel
theorem dX1_init_9 : decode cX1_init 9 = .ok (.invokespecial 9, 3) := by decide +kernel
set_option maxHeartbeats 4000000 in
set_option maxRecDepth 100000 in
theorem c_init_1 (l : Launch) (D : va_G) (κ : K4) (sz h0 : Nat) : CM l yX1_init cX1_init 1 2 32 4 34 D κ [(RX1, 9, yX4_init)] [(h0, .inr (1, [.null, .int 0, .int 0, .int 0]))] sz [.ref h0] (fun qs : Nat → Nat => [(h0, .inr (1, [.ref (qs 0), .int (bI false), .int (nI 0), .int (nI 0)])), (qs 0, .inr (4, [.ref (qs 1), .ref (qs 2), .ref (qs 3), .int (nI 0)])), (qs 1, .inl (κ.1, 10, .inl (fun _ => 0))), (qs 2, .inl (κ.2.1, 10, .inr (.inl (fun _ => 0)))), (qs 3, .inl (κ.2.1, 10, .inr (.inl (fun _ => 0))))]) := by
  refine CM.of (by decide +kernel) (Nat.le_of_ble_eq_true rfl) rfl ?_
  intro p e s m below meth c ls hC hr hk hin hsz hX H locs hG hl
  have hx := hC.1
  have hb := hC.2.1
  have hl : lv_has ls 1 [(0, (.ref h0))] := hl
  refine lv_aload_n hx hb dX1_init_0 rfl (lv_at hl 0 rfl) ?_
  refine bw_obj hC w57 hl.1 dX1_init_1 (by decide) (by decide) w11 w12 ?_
  refine lv_aload_n hx hb dX1_init_4 rfl (lv_at hl 0 rfl) ?_
  have hk1 : 0 + 1 ≤ 4 := by decide
  have hs1 : 0 + 4 ≤ 34 := by decide
  refine bw_new (C := RX4) (T := TX4) (N := 4) (ci := 4) (fs := [.null, .null, .null, .int 0]) hC hG iwX4 tyX4_ok w58 w39 w40 rfl (fun j hj => by rcases (show j = 0 ∨ j = 1 ∨ j = 2 ∨ j = 3 by omega) with rfl | rfl | rfl | rfl <;> rfl) hk1 hs1 dX1_init_5 (fun q1 H hG => ?_)
  have hG : BW D κ [(h0, .inr (1, [.null, .int 0, .int 0, .int 0])), (q1, .inr (4, [.null, .null, .null, .int 0]))] _ s H locs := hG
  refine W.widen (k := 1) (n := 4) (by decide) (by decide) ?_
  refine lv_dup hx hb dX1_init_8 rfl ?_
  have hGc : BW D κ [(q1, .inr (4, [.null, .null, .null, .int 0]))] _ s H locs := hG.at [1] (by decide) rfl
  refine bw_run (wc := [(q1, .inr (4, [.null, .null, .null, .int 0]))]) (wr := [(h0, .inr (1, [.null, .int 0, .int 0, .int 0]))]) hG [1] [0] rfl rfl (by decide) (by decide) (va_runIN (host := "Tollgate") (As := []) (rest := [.ref q1, .ref h0]) hC (c_init_4 l D κ H.size q1 ) ⟨va_cnB 0 hC.2.2.2.2 (fun w h => by rcases List.mem_cons.mp h with rfl | h; exact wl_in _ w64; exact wl_in _ h) rfl rfl rfl (hX (RX1, 9, yX4_init) (by decide)) (hC.2.2.2.2 _ w40) (by decide +kernel) ⟨by decide, by decide⟩, rfl, hC.2.2.2.2 _ w63⟩ ⟨fun x U g mk q => ⟨q.1, q.2.1, ⟨va_K.moved (u := U) (U := U.calling g mk x) (Vm.Alike.refl U.vm) q.2.2.1.1, q.2.2.1.2⟩, XN.same rfl q.2.2.2⟩, fun U hU hW => ⟨rfl, by rw [hU], ⟨va_K.moved hW.alike hGc.1, by rw [hU]; exact hGc.2.1, hGc.2.2.1.weaken (fun _ _ _ _ => trivial)⟩, XN.warm hW hX (by decide)⟩⟩ rfl rfl hl.1 rfl (lv_room (Nat.le_of_ble_eq_true rfl)) dX1_init_9 ⟨by decide, by decide⟩) (fun z2 H locs hG => ?_)
  have hG : BW D κ [(h0, .inr (1, [.null, .int 0, .int 0, .int 0])), (q1, .inr (4, [.ref (z2 0), .ref (z2 1), .ref (z2 2), .int (nI 0)])), (z2 0, .inl (κ.1, 10, .inl (fun _ => 0))), (z2 1, .inl (κ.2.1, 10, .inr (.inl (fun _ => 0)))), (z2 2, .inl (κ.2.1, 10, .inr (.inl (fun _ => 0))))] _ s H locs := hG
  refine W.widen (k := 4) (n := 34) (by decide) (by decide) ?_
  refine bw_put (C := RX1) (T := TX1) (N := 4) (ci := 1) (ty0 := tyX1) (ty := .object "Tollgate$LegRow") (v := .ref q1) 0 (by decide) 0 hC hG iwX1 tyX1_ok nmX1 rfl rfl w59 rfl (Or.inr ⟨hin, rfl⟩) (by decide +kernel) rfl rfl (Nat.le_of_ble_eq_true rfl) dX1_init_12 (fun H locs hG => ?_)
  have hG : BW D κ [(h0, .inr (1, [.ref q1, .int 0, .int 0, .int 0])), (q1, .inr (4, [.ref (z2 0), .ref (z2 1), .ref (z2 2), .int (nI 0)])), (z2 0, .inl (κ.1, 10, .inl (fun _ => 0))), (z2 1, .inl (κ.2.1, 10, .inr (.inl (fun _ => 0)))), (z2 2, .inl (κ.2.1, 10, .inr (.inl (fun _ => 0))))] _ s H locs := hG
  refine lv_aload_n hx hb dX1_init_15 rfl (lv_at hl 0 rfl) ?_
  refine lv_iconst (v := nI 0) hx hb dX1_init_16 (by decide) ?_
  refine W.eq (g2 := F0 m 17 ls [.int (bI false), .ref h0]) rfl ?_
  refine bw_put (C := RX1) (T := TX1) (N := 4) (ci := 1) (ty0 := tyX1) (ty := .boolean) (v := .int (bI false)) 1 (by decide) 0 hC hG iwX1 tyX1_ok nmX1 rfl rfl w60 rfl (Or.inl rfl) (by decide +kernel) (bI_n _) (bI_f _) (Nat.le_of_ble_eq_true rfl) dX1_init_17 (fun H locs hG => ?_)
  have hG : BW D κ [(h0, .inr (1, [.ref q1, .int (bI false), .int 0, .int 0])), (q1, .inr (4, [.ref (z2 0), .ref (z2 1), .ref (z2 2), .int (nI 0)])), (z2 0, .inl (κ.1, 10, .inl (fun _ => 0))), (z2 1, .inl (κ.2.1, 10, .inr (.inl (fun _ => 0)))), (z2 2, .inl (κ.2.1, 10, .inr (.inl (fun _ => 0))))] _ s H locs := hG
  refine lv_aload_n hx hb dX1_init_20 rfl (lv_at hl 0 rfl) ?_
  refine lv_iconst (v := nI 0) hx hb dX1_init_21 (by decide) ?_
  refine bw_put (C := RX1) (T := TX1) (N := 4) (ci := 1) (ty0 := tyX1) (ty := .int) (v := .int (nI 0)) 2 (by decide) 0 hC hG iwX1 tyX1_ok nmX1 rfl rfl w61 rfl (Or.inl rfl) (by decide +kernel) rfl rfl (Nat.le_of_ble_eq_true rfl) dX1_init_22 (fun H locs hG => ?_)
  have hG : BW D κ [(h0, .inr (1, [.ref q1, .int (bI false), .int (nI 0), .int 0])), (q1, .inr (4, [.ref (z2 0), .ref (z2 1), .ref (z2 2), .int (nI 0)])), (z2 0, .inl (κ.1, 10, .inl (fun _ => 0))), (z2 1, .inl (κ.2.1, 10, .inr (.inl (fun _ => 0)))), (z2 2, .inl (κ.2.1, 10, .inr (.inl (fun _ => 0))))] _ s H locs := hG
  refine lv_aload_n hx hb dX1_init_25 rfl (lv_at hl 0 rfl) ?_
  refine lv_iconst (v := nI 0) hx hb dX1_init_26 (by decide) ?_
  refine bw_put (C := RX1) (T := TX1) (N := 4) (ci := 1) (ty0 := tyX1) (ty := .int) (v := .int (nI 0)) 3 (by decide) 0 hC hG iwX1 tyX1_ok nmX1 rfl rfl w62 rfl (Or.inl rfl) (by decide +kernel) rfl rfl (Nat.le_of_ble_eq_true rfl) dX1_init_27 (fun H locs hG => ?_)
  have hG : BW D κ [(h0, .inr (1, [.ref q1, .int (bI false), .int (nI 0), .int (nI 0)])), (q1, .inr (4, [.ref (z2 0), .ref (z2 1), .ref (z2 2), .int (nI 0)])), (z2 0, .inl (κ.1, 10, .inl (fun _ => 0))), (z2 1, .inl (κ.2.1, 10, .inr (.inl (fun _ => 0)))), (z2 2, .inl (κ.2.1, 10, .inr (.inl (fun _ => 0))))] _ s H locs := hG
  exact bw_end (qs := fun k => match k with | 0 => q1 | 1 => z2 0 | 2 => z2 1 | _ => z2 2) hC hG rfl hr hk (by decide) (by decide) dX1_init_30

theorem dX3_init_0 : decode cX3_init 0 = .ok (.aload_n 0, 1) := by decide +kernel
theorem dX3_init_1 : decode cX3_init 1 = .ok (.invokespecial 3, 3) := by decide +kernel
theorem dX3_init_12 : decode cX3_init 12 = .ok (.aload_n 0, 1) := by decide +kernel
theorem dX3_init_13 : decode cX3_init 13 = .ok (.bipush 60, 2) := by decide +kernel
theorem dX3_init_15 : decode cX3_init 15 = .ok (.newarray .int, 2) := by decide +kernel
theorem dX3_init_17 : decode cX3_init 17 = .ok (.putfield 15, 3) := by decide +kernel
theorem dX3_init_20 : decode cX3_init 20 = .ok (.aload_n 0, 1) := by decide +kernel
theorem dX3_init_21 : decode cX3_init 21 = .ok (.bipush 60, 2) := by decide +kernel
theorem dX3_init_23 : decode cX3_init 23 = .ok (.newarray .int, 2) := by decide +kernel
theorem dX3_init_25 : decode cX3_init 25 = .ok (.putfield 18, 3) := by decide +kernel
theorem dX3_init_28 : decode cX3_init 28 = .ok (.aload_n 0, 1) := by decide +kernel
theorem dX3_init_29 : decode cX3_init 29 = .ok (.bipush 60, 2) := by decide +kernel
theorem dX3_init_31 : decode cX3_init 31 = .ok (.newarray .int, 2) := by decide +kernel
theorem dX3_init_33 : decode cX3_init 33 = .ok (.putfield 21, 3) := by decide +kernel
theorem dX3_init_36 : decode cX3_init 36 = .ok (.aload_n 0, 1) := by decide +kernel
theorem dX3_init_37 : decode cX3_init 37 = .ok (.bipush 60, 2) := by decide +kernel
theorem dX3_init_39 : decode cX3_init 39 = .ok (.newarray .boolean, 2) := by decide +kernel
theorem dX3_init_4 : decode cX3_init 4 = .ok (.aload_n 0, 1) := by decide +kernel
theorem dX3_init_41 : decode cX3_init 41 = .ok (.putfield 24, 3) := by decide +kernel
theorem dX3_init_44 : decode cX3_init 44 = .ok (.aload_n 0, 1) := by decide +kernel
theorem dX3_init_45 : decode cX3_init 45 = .ok (.bipush 60, 2) := by decide +kernel
theorem dX3_init_47 : decode cX3_init 47 = .ok (.newarray .boolean, 2) := by decide +kernel
theorem dX3_init_49 : decode cX3_init 49 = .ok (.putfield 28, 3) := by decide +kernel
theorem dX3_init_5 : decode cX3_init 5 = .ok (.bipush 60, 2) := by decide +kernel
theorem dX3_init_52 : decode cX3_init 52 = .ok (.aload_n 0, 1) := by decide +kernel
theorem dX3_init_53 : decode cX3_init 53 = .ok (.iconst 0, 1) := by decide +kernel
theorem dX3_init_54 : decode cX3_init 54 = .ok (.putfield 31, 3) := by decide +kernel
theorem dX3_init_57 : decode cX3_init 57 = .ok (.aload_n 0, 1) := by decide +kernel
theorem dX3_init_58 : decode cX3_init 58 = .ok (.sipush 600, 3) := by decide +kernel
theorem dX3_init_61 : decode cX3_init 61 = .ok (.newarray .int, 2) := by decide +kernel
theorem dX3_init_63 : decode cX3_init 63 = .ok (.putfield 35, 3) := by decide +kernel
theorem dX3_init_66 : decode cX3_init 66 = .ok (.aload_n 0, 1) := by decide +kernel
theorem dX3_init_67 : decode cX3_init 67 = .ok (.sipush 600, 3) := by decide +kernel
theorem dX3_init_7 : decode cX3_init 7 = .ok (.newarray .int, 2) := by decide +kernel
theorem dX3_init_70 : decode cX3_init 70 = .ok (.newarray .int, 2) := by decide +kernel
theorem dX3_init_72 : decode cX3_init 72 = .ok (.putfield 38, 3) := by decide +kernel
theorem dX3_init_75 : decode cX3_init 75 = .ok (.aload_n 0, 1) := by decide +kernel
theorem dX3_init_76 : decode cX3_init 76 = .ok (.sipush 600, 3) := by decide +kernel
theorem dX3_init_79 : decode cX3_init 79 = .ok (.newarray .long, 2) := by decide +kernel
theorem dX3_init_81 : decode cX3_init 81 = .ok (.putfield 41, 3) := by decide +kernel
theorem dX3_init_84 : decode cX3_init 84 = .ok (.aload_n 0, 1) := by decide +kernel
theorem dX3_init_85 : decode cX3_init 85 = .ok (.sipush 600, 3) := by decide +kernel
theorem dX3_init_88 : decode cX3_init 88 = .ok (.newarray .long, 2) := by decide +kernel
theorem dX3_init_9 : decode cX3_init 9 = .ok (.putfield 9, 3) := by decide +kernel
theorem dX3_init_90 : decode cX3_init 90 = .ok (.putfield 45, 3) := by decide +kernel
theorem dX3_init_93 : decode cX3_init 93 = .ok (.aload_n 0, 1) := by decide +kernel
theorem dX3_init_94 : decode cX3_init 94 = .ok (.iconst 0, 1) := by decide +kernel
theorem dX3_init_95 : decode cX3_init 95 = .ok (.putfield 48, 3) := by decide +kernel
theorem dX3_init_98 : decode cX3_init 98 = .ok (.return_, 1) := by decide +kernel
set_option maxHeartbeats 4000000 in
set_option maxRecDepth 100000 in
theorem c_init_3 (l : Launch) (D : va_G) (κ : K4) (sz h0 : Nat) : CM l yX3_init cX3_init 1 1 12 10 2760 D κ [] [(h0, .inr (3, [.null, .null, .null, .null, .null, .null, .int 0, .null, .null, .null, .null, .int 0]))] sz [.ref h0] (fun qs : Nat → Nat => [(h0, .inr (3, [.ref (qs 0), .ref (qs 1), .ref (qs 2), .ref (qs 3), .ref (qs 4), .ref (qs 5), .int (nI 0), .ref (qs 6), .ref (qs 7), .ref (qs 8), .ref (qs 9), .int (nI 0)])), (qs 0, .inl (κ.1, 60, .inl (fun _ => 0))), (qs 1, .inl (κ.1, 60, .inl (fun _ => 0))), (qs 2, .inl (κ.1, 60, .inl (fun _ => 0))), (qs 3, .inl (κ.1, 60, .inl (fun _ => 0))), (qs 4, .inl (κ.2.2.1, 60, .inl (fun _ => 0))), (qs 5, .inl (κ.2.2.1, 60, .inl (fun _ => 0))), (qs 6, .inl (κ.1, 600, .inl (fun _ => 0))), (qs 7, .inl (κ.1, 600, .inl (fun _ => 0))), (qs 8, .inl (κ.2.1, 600, .inr (.inl (fun _ => 0)))), (qs 9, .inl (κ.2.1, 600, .inr (.inl (fun _ => 0))))]) := by
  refine CM.of (by decide +kernel) (Nat.le_of_ble_eq_true rfl) rfl ?_
  intro p e s m below meth c ls hC hr hk hin hsz hX H locs hG hl
  have hx := hC.1
  have hb := hC.2.1
  have hl : lv_has ls 1 [(0, (.ref h0))] := hl
  refine lv_aload_n hx hb dX3_init_0 rfl (lv_at hl 0 rfl) ?_
  refine bw_obj hC w72 hl.1 dX3_init_1 (by decide) (by decide) w11 w12 ?_
  refine lv_aload_n hx hb dX3_init_4 rfl (lv_at hl 0 rfl) ?_
  refine lv_bipush (v := nI 60) hx hb dX3_init_5 (by decide) ?_
  have hk1 : 0 + 1 ≤ 10 := by decide
  have hs1 : 0 + 60 ≤ 2760 := by decide
  refine bw_nI hC hG (by decide) w47 hk1 hs1 dX3_init_7 (fun q1 H hG => ?_)
  have hG : BW D κ [(h0, .inr (3, [.null, .null, .null, .null, .null, .null, .int 0, .null, .null, .null, .null, .int 0])), (q1, .inl (κ.1, 60, .inl (fun _ => 0)))] _ s H locs := hG
  refine W.widen (k := 1) (n := 60) (by decide) (by decide) ?_
  refine bw_put (C := RX3) (T := TX3) (N := 12) (ci := 3) (ty0 := tyX3) (ty := .array .int) (v := .ref q1) 0 (by decide) 0 hC hG iwX3 tyX3_ok nmX3 rfl rfl w73 rfl (Or.inr ⟨hin, rfl⟩) (by decide +kernel) rfl rfl (Nat.le_of_ble_eq_true rfl) dX3_init_9 (fun H locs hG => ?_)
  have hG : BW D κ [(h0, .inr (3, [.ref q1, .null, .null, .null, .null, .null, .int 0, .null, .null, .null, .null, .int 0])), (q1, .inl (κ.1, 60, .inl (fun _ => 0)))] _ s H locs := hG
  refine lv_aload_n hx hb dX3_init_12 rfl (lv_at hl 0 rfl) ?_
  refine lv_bipush (v := nI 60) hx hb dX3_init_13 (by decide) ?_
  have hk2 : 1 + 1 ≤ 10 := by decide
  have hs2 : 60 + 60 ≤ 2760 := by decide
  refine bw_nI hC hG (by decide) w47 hk2 hs2 dX3_init_15 (fun q2 H hG => ?_)
  have hG : BW D κ [(h0, .inr (3, [.ref q1, .null, .null, .null, .null, .null, .int 0, .null, .null, .null, .null, .int 0])), (q1, .inl (κ.1, 60, .inl (fun _ => 0))), (q2, .inl (κ.1, 60, .inl (fun _ => 0)))] _ s H locs := hG
  refine W.widen (k := 2) (n := 120) (by decide) (by decide) ?_
  refine bw_put (C := RX3) (T := TX3) (N := 12) (ci := 3) (ty0 := tyX3) (ty := .array .int) (v := .ref q2) 1 (by decide) 0 hC hG iwX3 tyX3_ok nmX3 rfl rfl w74 rfl (Or.inr ⟨hin, rfl⟩) (by decide +kernel) rfl rfl (Nat.le_of_ble_eq_true rfl) dX3_init_17 (fun H locs hG => ?_)
  have hG : BW D κ [(h0, .inr (3, [.ref q1, .ref q2, .null, .null, .null, .null, .int 0, .null, .null, .null, .null, .int 0])), (q1, .inl (κ.1, 60, .inl (fun _ => 0))), (q2, .inl (κ.1, 60, .inl (fun _ => 0)))] _ s H locs := hG
  refine lv_aload_n hx hb dX3_init_20 rfl (lv_at hl 0 rfl) ?_
  refine lv_bipush (v := nI 60) hx hb dX3_init_21 (by decide) ?_
  have hk3 : 2 + 1 ≤ 10 := by decide
  have hs3 : 120 + 60 ≤ 2760 := by decide
  refine bw_nI hC hG (by decide) w47 hk3 hs3 dX3_init_23 (fun q3 H hG => ?_)
  have hG : BW D κ [(h0, .inr (3, [.ref q1, .ref q2, .null, .null, .null, .null, .int 0, .null, .null, .null, .null, .int 0])), (q1, .inl (κ.1, 60, .inl (fun _ => 0))), (q2, .inl (κ.1, 60, .inl (fun _ => 0))), (q3, .inl (κ.1, 60, .inl (fun _ => 0)))] _ s H locs := hG
  refine W.widen (k := 3) (n := 180) (by decide) (by decide) ?_
  refine bw_put (C := RX3) (T := TX3) (N := 12) (ci := 3) (ty0 := tyX3) (ty := .array .int) (v := .ref q3) 2 (by decide) 0 hC hG iwX3 tyX3_ok nmX3 rfl rfl w75 rfl (Or.inr ⟨hin, rfl⟩) (by decide +kernel) rfl rfl (Nat.le_of_ble_eq_true rfl) dX3_init_25 (fun H locs hG => ?_)
  have hG : BW D κ [(h0, .inr (3, [.ref q1, .ref q2, .ref q3, .null, .null, .null, .int 0, .null, .null, .null, .null, .int 0])), (q1, .inl (κ.1, 60, .inl (fun _ => 0))), (q2, .inl (κ.1, 60, .inl (fun _ => 0))), (q3, .inl (κ.1, 60, .inl (fun _ => 0)))] _ s H locs := hG
  refine lv_aload_n hx hb dX3_init_28 rfl (lv_at hl 0 rfl) ?_
  refine lv_bipush (v := nI 60) hx hb dX3_init_29 (by decide) ?_
  have hk4 : 3 + 1 ≤ 10 := by decide
  have hs4 : 180 + 60 ≤ 2760 := by decide
  refine bw_nI hC hG (by decide) w47 hk4 hs4 dX3_init_31 (fun q4 H hG => ?_)
  have hG : BW D κ [(h0, .inr (3, [.ref q1, .ref q2, .ref q3, .null, .null, .null, .int 0, .null, .null, .null, .null, .int 0])), (q1, .inl (κ.1, 60, .inl (fun _ => 0))), (q2, .inl (κ.1, 60, .inl (fun _ => 0))), (q3, .inl (κ.1, 60, .inl (fun _ => 0))), (q4, .inl (κ.1, 60, .inl (fun _ => 0)))] _ s H locs := hG
  refine W.widen (k := 4) (n := 240) (by decide) (by decide) ?_
  refine bw_put (C := RX3) (T := TX3) (N := 12) (ci := 3) (ty0 := tyX3) (ty := .array .int) (v := .ref q4) 3 (by decide) 0 hC hG iwX3 tyX3_ok nmX3 rfl rfl w76 rfl (Or.inr ⟨hin, rfl⟩) (by decide +kernel) rfl rfl (Nat.le_of_ble_eq_true rfl) dX3_init_33 (fun H locs hG => ?_)
  have hG : BW D κ [(h0, .inr (3, [.ref q1, .ref q2, .ref q3, .ref q4, .null, .null, .int 0, .null, .null, .null, .null, .int 0])), (q1, .inl (κ.1, 60, .inl (fun _ => 0))), (q2, .inl (κ.1, 60, .inl (fun _ => 0))), (q3, .inl (κ.1, 60, .inl (fun _ => 0))), (q4, .inl (κ.1, 60, .inl (fun _ => 0)))] _ s H locs := hG
  refine lv_aload_n hx hb dX3_init_36 rfl (lv_at hl 0 rfl) ?_
  refine lv_bipush (v := nI 60) hx hb dX3_init_37 (by decide) ?_
  have hk5 : 4 + 1 ≤ 10 := by decide
  have hs5 : 240 + 60 ≤ 2760 := by decide
  refine bw_nZ hC hG (by decide) w52 hk5 hs5 dX3_init_39 (fun q5 H hG => ?_)
  have hG : BW D κ [(h0, .inr (3, [.ref q1, .ref q2, .ref q3, .ref q4, .null, .null, .int 0, .null, .null, .null, .null, .int 0])), (q1, .inl (κ.1, 60, .inl (fun _ => 0))), (q2, .inl (κ.1, 60, .inl (fun _ => 0))), (q3, .inl (κ.1, 60, .inl (fun _ => 0))), (q4, .inl (κ.1, 60, .inl (fun _ => 0))), (q5, .inl (κ.2.2.1, 60, .inl (fun _ => 0)))] _ s H locs := hG
  refine W.widen (k := 5) (n := 300) (by decide) (by decide) ?_
  refine bw_put (C := RX3) (T := TX3) (N := 12) (ci := 3) (ty0 := tyX3) (ty := .array .boolean) (v := .ref q5) 4 (by decide) 0 hC hG iwX3 tyX3_ok nmX3 rfl rfl w77 rfl (Or.inr ⟨hin, rfl⟩) (by decide +kernel) rfl rfl (Nat.le_of_ble_eq_true rfl) dX3_init_41 (fun H locs hG => ?_)
  have hG : BW D κ [(h0, .inr (3, [.ref q1, .ref q2, .ref q3, .ref q4, .ref q5, .null, .int 0, .null, .null, .null, .null, .int 0])), (q1, .inl (κ.1, 60, .inl (fun _ => 0))), (q2, .inl (κ.1, 60, .inl (fun _ => 0))), (q3, .inl (κ.1, 60, .inl (fun _ => 0))), (q4, .inl (κ.1, 60, .inl (fun _ => 0))), (q5, .inl (κ.2.2.1, 60, .inl (fun _ => 0)))] _ s H locs := hG
  refine lv_aload_n hx hb dX3_init_44 rfl (lv_at hl 0 rfl) ?_
  refine lv_bipush (v := nI 60) hx hb dX3_init_45 (by decide) ?_
  have hk6 : 5 + 1 ≤ 10 := by decide
  have hs6 : 300 + 60 ≤ 2760 := by decide
  refine bw_nZ hC hG (by decide) w52 hk6 hs6 dX3_init_47 (fun q6 H hG => ?_)
  have hG : BW D κ [(h0, .inr (3, [.ref q1, .ref q2, .ref q3, .ref q4, .ref q5, .null, .int 0, .null, .null, .null, .null, .int 0])), (q1, .inl (κ.1, 60, .inl (fun _ => 0))), (q2, .inl (κ.1, 60, .inl (fun _ => 0))), (q3, .inl (κ.1, 60, .inl (fun _ => 0))), (q4, .inl (κ.1, 60, .inl (fun _ => 0))), (q5, .inl (κ.2.2.1, 60, .inl (fun _ => 0))), (q6, .inl (κ.2.2.1, 60, .inl (fun _ => 0)))] _ s H locs := hG
  refine W.widen (k := 6) (n := 360) (by decide) (by decide) ?_
  refine bw_put (C := RX3) (T := TX3) (N := 12) (ci := 3) (ty0 := tyX3) (ty := .array .boolean) (v := .ref q6) 5 (by decide) 0 hC hG iwX3 tyX3_ok nmX3 rfl rfl w78 rfl (Or.inr ⟨hin, rfl⟩) (by decide +kernel) rfl rfl (Nat.le_of_ble_eq_true rfl) dX3_init_49 (fun H locs hG => ?_)
  have hG : BW D κ [(h0, .inr (3, [.ref q1, .ref q2, .ref q3, .ref q4, .ref q5, .ref q6, .int 0, .null, .null, .null, .null, .int 0])), (q1, .inl (κ.1, 60, .inl (fun _ => 0))), (q2, .inl (κ.1, 60, .inl (fun _ => 0))), (q3, .inl (κ.1, 60, .inl (fun _ => 0))), (q4, .inl (κ.1, 60, .inl (fun _ => 0))), (q5, .inl (κ.2.2.1, 60, .inl (fun _ => 0))), (q6, .inl (κ.2.2.1, 60, .inl (fun _ => 0)))] _ s H locs := hG
  refine lv_aload_n hx hb dX3_init_52 rfl (lv_at hl 0 rfl) ?_
  refine lv_iconst (v := nI 0) hx hb dX3_init_53 (by decide) ?_
  refine bw_put (C := RX3) (T := TX3) (N := 12) (ci := 3) (ty0 := tyX3) (ty := .int) (v := .int (nI 0)) 6 (by decide) 0 hC hG iwX3 tyX3_ok nmX3 rfl rfl w79 rfl (Or.inl rfl) (by decide +kernel) rfl rfl (Nat.le_of_ble_eq_true rfl) dX3_init_54 (fun H locs hG => ?_)
  have hG : BW D κ [(h0, .inr (3, [.ref q1, .ref q2, .ref q3, .ref q4, .ref q5, .ref q6, .int (nI 0), .null, .null, .null, .null, .int 0])), (q1, .inl (κ.1, 60, .inl (fun _ => 0))), (q2, .inl (κ.1, 60, .inl (fun _ => 0))), (q3, .inl (κ.1, 60, .inl (fun _ => 0))), (q4, .inl (κ.1, 60, .inl (fun _ => 0))), (q5, .inl (κ.2.2.1, 60, .inl (fun _ => 0))), (q6, .inl (κ.2.2.1, 60, .inl (fun _ => 0)))] _ s H locs := hG
  refine lv_aload_n hx hb dX3_init_57 rfl (lv_at hl 0 rfl) ?_
  refine lv_sipush (v := nI 600) hx hb dX3_init_58 (by decide) ?_
  have hk7 : 6 + 1 ≤ 10 := by decide
  have hs7 : 360 + 600 ≤ 2760 := by decide
  refine bw_nI hC hG (by decide) w47 hk7 hs7 dX3_init_61 (fun q7 H hG => ?_)
  have hG : BW D κ [(h0, .inr (3, [.ref q1, .ref q2, .ref q3, .ref q4, .ref q5, .ref q6, .int (nI 0), .null, .null, .null, .null, .int 0])), (q1, .inl (κ.1, 60, .inl (fun _ => 0))), (q2, .inl (κ.1, 60, .inl (fun _ => 0))), (q3, .inl (κ.1, 60, .inl (fun _ => 0))), (q4, .inl (κ.1, 60, .inl (fun _ => 0))), (q5, .inl (κ.2.2.1, 60, .inl (fun _ => 0))), (q6, .inl (κ.2.2.1, 60, .inl (fun _ => 0))), (q7, .inl (κ.1, 600, .inl (fun _ => 0)))] _ s H locs := hG
  refine W.widen (k := 7) (n := 960) (by decide) (by decide) ?_
  refine bw_put (C := RX3) (T := TX3) (N := 12) (ci := 3) (ty0 := tyX3) (ty := .array .int) (v := .ref q7) 7 (by decide) 0 hC hG iwX3 tyX3_ok nmX3 rfl rfl w80 rfl (Or.inr ⟨hin, rfl⟩) (by decide +kernel) rfl rfl (Nat.le_of_ble_eq_true rfl) dX3_init_63 (fun H locs hG => ?_)
  have hG : BW D κ [(h0, .inr (3, [.ref q1, .ref q2, .ref q3, .ref q4, .ref q5, .ref q6, .int (nI 0), .ref q7, .null, .null, .null, .int 0])), (q1, .inl (κ.1, 60, .inl (fun _ => 0))), (q2, .inl (κ.1, 60, .inl (fun _ => 0))), (q3, .inl (κ.1, 60, .inl (fun _ => 0))), (q4, .inl (κ.1, 60, .inl (fun _ => 0))), (q5, .inl (κ.2.2.1, 60, .inl (fun _ => 0))), (q6, .inl (κ.2.2.1, 60, .inl (fun _ => 0))), (q7, .inl (κ.1, 600, .inl (fun _ => 0)))] _ s H locs := hG
  refine lv_aload_n hx hb dX3_init_66 rfl (lv_at hl 0 rfl) ?_
  refine lv_sipush (v := nI 600) hx hb dX3_init_67 (by decide) ?_
  have hk8 : 7 + 1 ≤ 10 := by decide
  have hs8 : 960 + 600 ≤ 2760 := by decide
  refine bw_nI hC hG (by decide) w47 hk8 hs8 dX3_init_70 (fun q8 H hG => ?_)
  have hG : BW D κ [(h0, .inr (3, [.ref q1, .ref q2, .ref q3, .ref q4, .ref q5, .ref q6, .int (nI 0), .ref q7, .null, .null, .null, .int 0])), (q1, .inl (κ.1, 60, .inl (fun _ => 0))), (q2, .inl (κ.1, 60, .inl (fun _ => 0))), (q3, .inl (κ.1, 60, .inl (fun _ => 0))), (q4, .inl (κ.1, 60, .inl (fun _ => 0))), (q5, .inl (κ.2.2.1, 60, .inl (fun _ => 0))), (q6, .inl (κ.2.2.1, 60, .inl (fun _ => 0))), (q7, .inl (κ.1, 600, .inl (fun _ => 0))), (q8, .inl (κ.1, 600, .inl (fun _ => 0)))] _ s H locs := hG
  refine W.widen (k := 8) (n := 1560) (by decide) (by decide) ?_
  refine bw_put (C := RX3) (T := TX3) (N := 12) (ci := 3) (ty0 := tyX3) (ty := .array .int) (v := .ref q8) 8 (by decide) 0 hC hG iwX3 tyX3_ok nmX3 rfl rfl w81 rfl (Or.inr ⟨hin, rfl⟩) (by decide +kernel) rfl rfl (Nat.le_of_ble_eq_true rfl) dX3_init_72 (fun H locs hG => ?_)
  have hG : BW D κ [(h0, .inr (3, [.ref q1, .ref q2, .ref q3, .ref q4, .ref q5, .ref q6, .int (nI 0), .ref q7, .ref q8, .null, .null, .int 0])), (q1, .inl (κ.1, 60, .inl (fun _ => 0))), (q2, .inl (κ.1, 60, .inl (fun _ => 0))), (q3, .inl (κ.1, 60, .inl (fun _ => 0))), (q4, .inl (κ.1, 60, .inl (fun _ => 0))), (q5, .inl (κ.2.2.1, 60, .inl (fun _ => 0))), (q6, .inl (κ.2.2.1, 60, .inl (fun _ => 0))), (q7, .inl (κ.1, 600, .inl (fun _ => 0))), (q8, .inl (κ.1, 600, .inl (fun _ => 0)))] _ s H locs := hG
  refine lv_aload_n hx hb dX3_init_75 rfl (lv_at hl 0 rfl) ?_
  refine lv_sipush (v := nI 600) hx hb dX3_init_76 (by decide) ?_
  have hk9 : 8 + 1 ≤ 10 := by decide
  have hs9 : 1560 + 600 ≤ 2760 := by decide
  refine bw_nJ hC hG (by decide) w6 hk9 hs9 dX3_init_79 (fun q9 H hG => ?_)
  have hG : BW D κ [(h0, .inr (3, [.ref q1, .ref q2, .ref q3, .ref q4, .ref q5, .ref q6, .int (nI 0), .ref q7, .ref q8, .null, .null, .int 0])), (q1, .inl (κ.1, 60, .inl (fun _ => 0))), (q2, .inl (κ.1, 60, .inl (fun _ => 0))), (q3, .inl (κ.1, 60, .inl (fun _ => 0))), (q4, .inl (κ.1, 60, .inl (fun _ => 0))), (q5, .inl (κ.2.2.1, 60, .inl (fun _ => 0))), (q6, .inl (κ.2.2.1, 60, .inl (fun _ => 0))), (q7, .inl (κ.1, 600, .inl (fun _ => 0))), (q8, .inl (κ.1, 600, .inl (fun _ => 0))), (q9, .inl (κ.2.1, 600, .inr (.inl (fun _ => 0))))] _ s H locs := hG
  refine W.widen (k := 9) (n := 2160) (by decide) (by decide) ?_
  refine bw_put (C := RX3) (T := TX3) (N := 12) (ci := 3) (ty0 := tyX3) (ty := .array .long) (v := .ref q9) 9 (by decide) 0 hC hG iwX3 tyX3_ok nmX3 rfl rfl w82 rfl (Or.inr ⟨hin, rfl⟩) (by decide +kernel) rfl rfl (Nat.le_of_ble_eq_true rfl) dX3_init_81 (fun H locs hG => ?_)
  have hG : BW D κ [(h0, .inr (3, [.ref q1, .ref q2, .ref q3, .ref q4, .ref q5, .ref q6, .int (nI 0), .ref q7, .ref q8, .ref q9, .null, .int 0])), (q1, .inl (κ.1, 60, .inl (fun _ => 0))), (q2, .inl (κ.1, 60, .inl (fun _ => 0))), (q3, .inl (κ.1, 60, .inl (fun _ => 0))), (q4, .inl (κ.1, 60, .inl (fun _ => 0))), (q5, .inl (κ.2.2.1, 60, .inl (fun _ => 0))), (q6, .inl (κ.2.2.1, 60, .inl (fun _ => 0))), (q7, .inl (κ.1, 600, .inl (fun _ => 0))), (q8, .inl (κ.1, 600, .inl (fun _ => 0))), (q9, .inl (κ.2.1, 600, .inr (.inl (fun _ => 0))))] _ s H locs := hG
  refine lv_aload_n hx hb dX3_init_84 rfl (lv_at hl 0 rfl) ?_
  refine lv_sipush (v := nI 600) hx hb dX3_init_85 (by decide) ?_
  have hk10 : 9 + 1 ≤ 10 := by decide
  have hs10 : 2160 + 600 ≤ 2760 := by decide
  refine bw_nJ hC hG (by decide) w6 hk10 hs10 dX3_init_88 (fun q10 H hG => ?_)
  have hG : BW D κ [(h0, .inr (3, [.ref q1, .ref q2, .ref q3, .ref q4, .ref q5, .ref q6, .int (nI 0), .ref q7, .ref q8, .ref q9, .null, .int 0])), (q1, .inl (κ.1, 60, .inl (fun _ => 0))), (q2, .inl (κ.1, 60, .inl (fun _ => 0))), (q3, .inl (κ.1, 60, .inl (fun _ => 0))), (q4, .inl (κ.1, 60, .inl (fun _ => 0))), (q5, .inl (κ.2.2.1, 60, .inl (fun _ => 0))), (q6, .inl (κ.2.2.1, 60, .inl (fun _ => 0))), (q7, .inl (κ.1, 600, .inl (fun _ => 0))), (q8, .inl (κ.1, 600, .inl (fun _ => 0))), (q9, .inl (κ.2.1, 600, .inr (.inl (fun _ => 0)))), (q10, .inl (κ.2.1, 600, .inr (.inl (fun _ => 0))))] _ s H locs := hG
  refine W.widen (k := 10) (n := 2760) (by decide) (by decide) ?_
  refine bw_put (C := RX3) (T := TX3) (N := 12) (ci := 3) (ty0 := tyX3) (ty := .array .long) (v := .ref q10) 10 (by decide) 0 hC hG iwX3 tyX3_ok nmX3 rfl rfl w83 rfl (Or.inr ⟨hin, rfl⟩) (by decide +kernel) rfl rfl (Nat.le_of_ble_eq_true rfl) dX3_init_90 (fun H locs hG => ?_)
  have hG : BW D κ [(h0, .inr (3, [.ref q1, .ref q2, .ref q3, .ref q4, .ref q5, .ref q6, .int (nI 0), .ref q7, .ref q8, .ref q9, .ref q10, .int 0])), (q1, .inl (κ.1, 60, .inl (fun _ => 0))), (q2, .inl (κ.1, 60, .inl (fun _ => 0))), (q3, .inl (κ.1, 60, .inl (fun _ => 0))), (q4, .inl (κ.1, 60, .inl (fun _ => 0))), (q5, .inl (κ.2.2.1, 60, .inl (fun _ => 0))), (q6, .inl (κ.2.2.1, 60, .inl (fun _ => 0))), (q7, .inl (κ.1, 600, .inl (fun _ => 0))), (q8, .inl (κ.1, 600, .inl (fun _ => 0))), (q9, .inl (κ.2.1, 600, .inr (.inl (fun _ => 0)))), (q10, .inl (κ.2.1, 600, .inr (.inl (fun _ => 0))))] _ s H locs := hG
  refine lv_aload_n hx hb dX3_init_93 rfl (lv_at hl 0 rfl) ?_
  refine lv_iconst (v := nI 0) hx hb dX3_init_94 (by decide) ?_
  refine bw_put (C := RX3) (T := TX3) (N := 12) (ci := 3) (ty0 := tyX3) (ty := .int) (v := .int (nI 0)) 11 (by decide) 0 hC hG iwX3 tyX3_ok nmX3 rfl rfl w84 rfl (Or.inl rfl) (by decide +kernel) rfl rfl (Nat.le_of_ble_eq_true rfl) dX3_init_95 (fun H locs hG => ?_)
  have hG : BW D κ [(h0, .inr (3, [.ref q1, .ref q2, .ref q3, .ref q4, .ref q5, .ref q6, .int (nI 0), .ref q7, .ref q8, .ref q9, .ref q10, .int (nI 0)])), (q1, .inl (κ.1, 60, .inl (fun _ => 0))), (q2, .inl (κ.1, 60, .inl (fun _ => 0))), (q3, .inl (κ.1, 60, .inl (fun _ => 0))), (q4, .inl (κ.1, 60, .inl (fun _ => 0))), (q5, .inl (κ.2.2.1, 60, .inl (fun _ => 0))), (q6, .inl (κ.2.2.1, 60, .inl (fun _ => 0))), (q7, .inl (κ.1, 600, .inl (fun _ => 0))), (q8, .inl (κ.1, 600, .inl (fun _ => 0))), (q9, .inl (κ.2.1, 600, .inr (.inl (fun _ => 0)))), (q10, .inl (κ.2.1, 600, .inr (.inl (fun _ => 0))))] _ s H locs := hG
  exact bw_end (qs := fun k => match k with | 0 => q1 | 1 => q2 | 2 => q3 | 3 => q4 | 4 => q5 | 5 => q6 | 6 => q7 | 7 => q8 | 8 => q9 | _ => q10) hC hG rfl hr hk (by decide) (by decide) dX3_init_98

theorem dX2_init_0 : decode cX2_init 0 = .ok (.aload_n 0, 1) := by decide +kernel
theorem dX2_init_1 : decode cX2_init 1 = .ok (.invokespecial 3, 3) := by decide +kernel
theorem dX2_init_12 : decode cX2_init 12 = .ok (.aload_n 0, 1) := by decide +kernel
theorem dX2_init_13 : decode cX2_init 13 = .ok (.bipush 20, 2) := by decide +kernel
theorem dX2_init_15 : decode cX2_init 15 = .ok (.newarray .int, 2) := by decide +kernel
theorem dX2_init_17 : decode cX2_init 17 = .ok (.putfield 15, 3) := by decide +kernel
theorem dX2_init_20 : decode cX2_init 20 = .ok (.aload_n 0, 1) := by decide +kernel
theorem dX2_init_21 : decode cX2_init 21 = .ok (.bipush 20, 2) := by decide +kernel
theorem dX2_init_23 : decode cX2_init 23 = .ok (.newarray .int, 2) := by decide +kernel
theorem dX2_init_25 : decode cX2_init 25 = .ok (.putfield 18, 3) := by decide +kernel
theorem dX2_init_28 : decode cX2_init 28 = .ok (.aload_n 0, 1) := by decide +kernel
theorem dX2_init_29 : decode cX2_init 29 = .ok (.bipush 20, 2) := by decide +kernel
theorem dX2_init_31 : decode cX2_init 31 = .ok (.newarray .boolean, 2) := by decide +kernel
theorem dX2_init_33 : decode cX2_init 33 = .ok (.putfield 21, 3) := by decide +kernel
theorem dX2_init_36 : decode cX2_init 36 = .ok (.aload_n 0, 1) := by decide +kernel
theorem dX2_init_37 : decode cX2_init 37 = .ok (.iconst 0, 1) := by decide +kernel
theorem dX2_init_38 : decode cX2_init 38 = .ok (.putfield 25, 3) := by decide +kernel
theorem dX2_init_4 : decode cX2_init 4 = .ok (.aload_n 0, 1) := by decide +kernel
theorem dX2_init_41 : decode cX2_init 41 = .ok (.return_, 1) := by decide +kernel
theorem dX2_init_5 : decode cX2_init 5 = .ok (.bipush 20, 2) := by decide +kernel
theorem dX2_init_7 : decode cX2_init 7 = .ok (.newarray .int, 2) := by decide +kernel
theorem dX2_init_9 : decode cX2_init 9 = .ok (.putfield 9, 3) := by decide +kernel
set_option maxHeartbeats 4000000 in
set_option maxRecDepth 100000 in
theorem c_init_2 (l : Launch) (D : va_G) (κ : K4) (sz h0 : Nat) : CM l yX2_init cX2_init 1 1 12 4 80 D κ [] [(h0, .inr (2, [.null, .null, .null, .null, .int 0]))] sz [.ref h0] (fun qs : Nat → Nat => [(h0, .inr (2, [.ref (qs 0), .ref (qs 1), .ref (qs 2), .ref (qs 3), .int (nI 0)])), (qs 0, .inl (κ.1, 20, .inl (fun _ => 0))), (qs 1, .inl (κ.1, 20, .inl (fun _ => 0))), (qs 2, .inl (κ.1, 20, .inl (fun _ => 0))), (qs 3, .inl (κ.2.2.1, 20, .inl (fun _ => 0)))]) := by
  refine CM.of (by decide +kernel) (Nat.le_of_ble_eq_true rfl) rfl ?_
  intro p e s m below meth c ls hC hr hk hin hsz hX H locs hG hl
  have hx := hC.1
  have hb := hC.2.1
  have hl : lv_has ls 1 [(0, (.ref h0))] := hl
  refine lv_aload_n hx hb dX2_init_0 rfl (lv_at hl 0 rfl) ?_
  refine bw_obj hC w87 hl.1 dX2_init_1 (by decide) (by decide) w11 w12 ?_
  refine lv_aload_n hx hb dX2_init_4 rfl (lv_at hl 0 rfl) ?_
  refine lv_bipush (v := nI 20) hx hb dX2_init_5 (by decide) ?_
  have hk1 : 0 + 1 ≤ 4 := by decide
  have hs1 : 0 + 20 ≤ 80 := by decide
  refine bw_nI hC hG (by decide) w47 hk1 hs1 dX2_init_7 (fun q1 H hG => ?_)
  have hG : BW D κ [(h0, .inr (2, [.null, .null, .null, .null, .int 0])), (q1, .inl (κ.1, 20, .inl (fun _ => 0)))] _ s H locs := hG
  refine W.widen (k := 1) (n := 20) (by decide) (by decide) ?_
  refine bw_put (C := RX2) (T := TX2) (N := 5) (ci := 2) (ty0 := tyX2) (ty := .array .int) (v := .ref q1) 0 (by decide) 0 hC hG iwX2 tyX2_ok nmX2 rfl rfl w88 rfl (Or.inr ⟨hin, rfl⟩) (by decide +kernel) rfl rfl (Nat.le_of_ble_eq_true rfl) dX2_init_9 (fun H locs hG => ?_)
  have hG : BW D κ [(h0, .inr (2, [.ref q1, .null, .null, .null, .int 0])), (q1, .inl (κ.1, 20, .inl (fun _ => 0)))] _ s H locs := hG
  refine lv_aload_n hx hb dX2_init_12 rfl (lv_at hl 0 rfl) ?_
  refine lv_bipush (v := nI 20) hx hb dX2_init_13 (by decide) ?_
  have hk2 : 1 + 1 ≤ 4 := by decide
  have hs2 : 20 + 20 ≤ 80 := by decide
  refine bw_nI hC hG (by decide) w47 hk2 hs2 dX2_init_15 (fun q2 H hG => ?_)
  have hG : BW D κ [(h0, .inr (2, [.ref q1, .null, .null, .null, .int 0])), (q1, .inl (κ.1, 20, .inl (fun _ => 0))), (q2, .inl (κ.1, 20, .inl (fun _ => 0)))] _ s H locs := hG
  refine W.widen (k := 2) (n := 40) (by decide) (by decide) ?_
  refine bw_put (C := RX2) (T := TX2) (N := 5) (ci := 2) (ty0 := tyX2) (ty := .array .int) (v := .ref q2) 1 (by decide) 0 hC hG iwX2 tyX2_ok nmX2 rfl rfl w89 rfl (Or.inr ⟨hin, rfl⟩) (by decide +kernel) rfl rfl (Nat.le_of_ble_eq_true rfl) dX2_init_17 (fun H locs hG => ?_)
  have hG : BW D κ [(h0, .inr (2, [.ref q1, .ref q2, .null, .null, .int 0])), (q1, .inl (κ.1, 20, .inl (fun _ => 0))), (q2, .inl (κ.1, 20, .inl (fun _ => 0)))] _ s H locs := hG
  refine lv_aload_n hx hb dX2_init_20 rfl (lv_at hl 0 rfl) ?_
  refine lv_bipush (v := nI 20) hx hb dX2_init_21 (by decide) ?_
  have hk3 : 2 + 1 ≤ 4 := by decide
  have hs3 : 40 + 20 ≤ 80 := by decide
  refine bw_nI hC hG (by decide) w47 hk3 hs3 dX2_init_23 (fun q3 H hG => ?_)
  have hG : BW D κ [(h0, .inr (2, [.ref q1, .ref q2, .null, .null, .int 0])), (q1, .inl (κ.1, 20, .inl (fun _ => 0))), (q2, .inl (κ.1, 20, .inl (fun _ => 0))), (q3, .inl (κ.1, 20, .inl (fun _ => 0)))] _ s H locs := hG
  refine W.widen (k := 3) (n := 60) (by decide) (by decide) ?_
  refine bw_put (C := RX2) (T := TX2) (N := 5) (ci := 2) (ty0 := tyX2) (ty := .array .int) (v := .ref q3) 2 (by decide) 0 hC hG iwX2 tyX2_ok nmX2 rfl rfl w90 rfl (Or.inr ⟨hin, rfl⟩) (by decide +kernel) rfl rfl (Nat.le_of_ble_eq_true rfl) dX2_init_25 (fun H locs hG => ?_)
  have hG : BW D κ [(h0, .inr (2, [.ref q1, .ref q2, .ref q3, .null, .int 0])), (q1, .inl (κ.1, 20, .inl (fun _ => 0))), (q2, .inl (κ.1, 20, .inl (fun _ => 0))), (q3, .inl (κ.1, 20, .inl (fun _ => 0)))] _ s H locs := hG
  refine lv_aload_n hx hb dX2_init_28 rfl (lv_at hl 0 rfl) ?_
  refine lv_bipush (v := nI 20) hx hb dX2_init_29 (by decide) ?_
  have hk4 : 3 + 1 ≤ 4 := by decide
  have hs4 : 60 + 20 ≤ 80 := by decide
  refine bw_nZ hC hG (by decide) w52 hk4 hs4 dX2_init_31 (fun q4 H hG => ?_)
  have hG : BW D κ [(h0, .inr (2, [.ref q1, .ref q2, .ref q3, .null, .int 0])), (q1, .inl (κ.1, 20, .inl (fun _ => 0))), (q2, .inl (κ.1, 20, .inl (fun _ => 0))), (q3, .inl (κ.1, 20, .inl (fun _ => 0))), (q4, .inl (κ.2.2.1, 20, .inl (fun _ => 0)))] _ s H locs := hG
  refine W.widen (k := 4) (n := 80) (by decide) (by decide) ?_
  refine bw_put (C := RX2) (T := TX2) (N := 5) (ci := 2) (ty0 := tyX2) (ty := .array .boolean) (v := .ref q4) 3 (by decide) 0 hC hG iwX2 tyX2_ok nmX2 rfl rfl w91 rfl (Or.inr ⟨hin, rfl⟩) (by decide +kernel) rfl rfl (Nat.le_of_ble_eq_true rfl) dX2_init_33 (fun H locs hG => ?_)
  have hG : BW D κ [(h0, .inr (2, [.ref q1, .ref q2, .ref q3, .ref q4, .int 0])), (q1, .inl (κ.1, 20, .inl (fun _ => 0))), (q2, .inl (κ.1, 20, .inl (fun _ => 0))), (q3, .inl (κ.1, 20, .inl (fun _ => 0))), (q4, .inl (κ.2.2.1, 20, .inl (fun _ => 0)))] _ s H locs := hG
  refine lv_aload_n hx hb dX2_init_36 rfl (lv_at hl 0 rfl) ?_
  refine lv_iconst (v := nI 0) hx hb dX2_init_37 (by decide) ?_
  refine bw_put (C := RX2) (T := TX2) (N := 5) (ci := 2) (ty0 := tyX2) (ty := .int) (v := .int (nI 0)) 4 (by decide) 0 hC hG iwX2 tyX2_ok nmX2 rfl rfl w92 rfl (Or.inl rfl) (by decide +kernel) rfl rfl (Nat.le_of_ble_eq_true rfl) dX2_init_38 (fun H locs hG => ?_)
  have hG : BW D κ [(h0, .inr (2, [.ref q1, .ref q2, .ref q3, .ref q4, .int (nI 0)])), (q1, .inl (κ.1, 20, .inl (fun _ => 0))), (q2, .inl (κ.1, 20, .inl (fun _ => 0))), (q3, .inl (κ.1, 20, .inl (fun _ => 0))), (q4, .inl (κ.2.2.1, 20, .inl (fun _ => 0)))] _ s H locs := hG
  exact bw_end (qs := fun k => match k with | 0 => q1 | 1 => q2 | 2 => q3 | _ => q4) hC hG rfl hr hk (by decide) (by decide) dX2_init_41

theorem dX5_init_0 : decode cX5_init 0 = .ok (.aload_n 0, 1) := by decide +kernel
theorem dX5_init_1 : decode cX5_init 1 = .ok (.invokespecial 3, 3) := by decide +kernel
theorem dX5_init_12 : decode cX5_init 12 = .ok (.aload_n 0, 1) := by decide +kernel
theorem dX5_init_13 : decode cX5_init 13 = .ok (.bipush 40, 2) := by decide +kernel
theorem dX5_init_15 : decode cX5_init 15 = .ok (.newarray .int, 2) := by decide +kernel
theorem dX5_init_17 : decode cX5_init 17 = .ok (.putfield 15, 3) := by decide +kernel
theorem dX5_init_20 : decode cX5_init 20 = .ok (.aload_n 0, 1) := by decide +kernel
theorem dX5_init_21 : decode cX5_init 21 = .ok (.bipush 40, 2) := by decide +kernel
theorem dX5_init_23 : decode cX5_init 23 = .ok (.newarray .int, 2) := by decide +kernel
theorem dX5_init_25 : decode cX5_init 25 = .ok (.putfield 18, 3) := by decide +kernel
theorem dX5_init_28 : decode cX5_init 28 = .ok (.aload_n 0, 1) := by decide +kernel
theorem dX5_init_29 : decode cX5_init 29 = .ok (.bipush 40, 2) := by decide +kernel
theorem dX5_init_31 : decode cX5_init 31 = .ok (.newarray .int, 2) := by decide +kernel
theorem dX5_init_33 : decode cX5_init 33 = .ok (.putfield 21, 3) := by decide +kernel
theorem dX5_init_36 : decode cX5_init 36 = .ok (.aload_n 0, 1) := by decide +kernel
theorem dX5_init_37 : decode cX5_init 37 = .ok (.iconst 0, 1) := by decide +kernel
theorem dX5_init_38 : decode cX5_init 38 = .ok (.putfield 24, 3) := by decide +kernel
theorem dX5_init_4 : decode cX5_init 4 = .ok (.aload_n 0, 1) := by decide +kernel
theorem dX5_init_41 : decode cX5_init 41 = .ok (.return_, 1) := by decide +kernel
theorem dX5_init_5 : decode cX5_init 5 = .ok (.bipush 40, 2) := by decide +kernel
theorem dX5_init_7 : decode cX5_init 7 = .ok (.newarray .int, 2) := by decide +kernel
theorem dX5_init_9 : decode cX5_init 9 = .ok (.putfield 9, 3) := by decide +kernel
set_option maxHeartbeats 4000000 in
set_option maxRecDepth 100000 in
theorem c_init_5 (l : Launch) (D : va_G) (κ : K4) (sz h0 : Nat) : CM l yX5_init cX5_init 1 1 12 4 160 D κ [] [(h0, .inr (5, [.null, .null, .null, .null, .int 0]))] sz [.ref h0] (fun qs : Nat → Nat => [(h0, .inr (5, [.ref (qs 0), .ref (qs 1), .ref (qs 2), .ref (qs 3), .int (nI 0)])), (qs 0, .inl (κ.1, 40, .inl (fun _ => 0))), (qs 1, .inl (κ.1, 40, .inl (fun _ => 0))), (qs 2, .inl (κ.1, 40, .inl (fun _ => 0))), (qs 3, .inl (κ.1, 40, .inl (fun _ => 0)))]) := by
  refine CM.of (by decide +kernel) (Nat.le_of_ble_eq_true rfl) rfl ?_
  intro p e s m below meth c ls hC hr hk hin hsz hX H locs hG hl
  have hx := hC.1
  have hb := hC.2.1
  have hl : lv_has ls 1 [(0, (.ref h0))] := hl
  refine lv_aload_n hx hb dX5_init_0 rfl (lv_at hl 0 rfl) ?_
  refine bw_obj hC w95 hl.1 dX5_init_1 (by decide) (by decide) w11 w12 ?_
  refine lv_aload_n hx hb dX5_init_4 rfl (lv_at hl 0 rfl) ?_
  refine lv_bipush (v := nI 40) hx hb dX5_init_5 (by decide) ?_
  have hk1 : 0 + 1 ≤ 4 := by decide
  have hs1 : 0 + 40 ≤ 160 := by decide
  refine bw_nI hC hG (by decide) w47 hk1 hs1 dX5_init_7 (fun q1 H hG => ?_)
  have hG : BW D κ [(h0, .inr (5, [.null, .null, .null, .null, .int 0])), (q1, .inl (κ.1, 40, .inl (fun _ => 0)))] _ s H locs := hG
  refine W.widen (k := 1) (n := 40) (by decide) (by decide) ?_
  refine bw_put (C := RX5) (T := TX5) (N := 5) (ci := 5) (ty0 := tyX5) (ty := .array .int) (v := .ref q1) 0 (by decide) 0 hC hG iwX5 tyX5_ok nmX5 rfl rfl w96 rfl (Or.inr ⟨hin, rfl⟩) (by decide +kernel) rfl rfl (Nat.le_of_ble_eq_true rfl) dX5_init_9 (fun H locs hG => ?_)
  have hG : BW D κ [(h0, .inr (5, [.ref q1, .null, .null, .null, .int 0])), (q1, .inl (κ.1, 40, .inl (fun _ => 0)))] _ s H locs := hG
  refine lv_aload_n hx hb dX5_init_12 rfl (lv_at hl 0 rfl) ?_
  refine lv_bipush (v := nI 40) hx hb dX5_init_13 (by decide) ?_
  have hk2 : 1 + 1 ≤ 4 := by decide
  have hs2 : 40 + 40 ≤ 160 := by decide
  refine bw_nI hC hG (by decide) w47 hk2 hs2 dX5_init_15 (fun q2 H hG => ?_)
  have hG : BW D κ [(h0, .inr (5, [.ref q1, .null, .null, .null, .int 0])), (q1, .inl (κ.1, 40, .inl (fun _ => 0))), (q2, .inl (κ.1, 40, .inl (fun _ => 0)))] _ s H locs := hG
  refine W.widen (k := 2) (n := 80) (by decide) (by decide) ?_
  refine bw_put (C := RX5) (T := TX5) (N := 5) (ci := 5) (ty0 := tyX5) (ty := .array .int) (v := .ref q2) 1 (by decide) 0 hC hG iwX5 tyX5_ok nmX5 rfl rfl w97 rfl (Or.inr ⟨hin, rfl⟩) (by decide +kernel) rfl rfl (Nat.le_of_ble_eq_true rfl) dX5_init_17 (fun H locs hG => ?_)
  have hG : BW D κ [(h0, .inr (5, [.ref q1, .ref q2, .null, .null, .int 0])), (q1, .inl (κ.1, 40, .inl (fun _ => 0))), (q2, .inl (κ.1, 40, .inl (fun _ => 0)))] _ s H locs := hG
  refine lv_aload_n hx hb dX5_init_20 rfl (lv_at hl 0 rfl) ?_
  refine lv_bipush (v := nI 40) hx hb dX5_init_21 (by decide) ?_
  have hk3 : 2 + 1 ≤ 4 := by decide
  have hs3 : 80 + 40 ≤ 160 := by decide
  refine bw_nI hC hG (by decide) w47 hk3 hs3 dX5_init_23 (fun q3 H hG => ?_)
  have hG : BW D κ [(h0, .inr (5, [.ref q1, .ref q2, .null, .null, .int 0])), (q1, .inl (κ.1, 40, .inl (fun _ => 0))), (q2, .inl (κ.1, 40, .inl (fun _ => 0))), (q3, .inl (κ.1, 40, .inl (fun _ => 0)))] _ s H locs := hG
  refine W.widen (k := 3) (n := 120) (by decide) (by decide) ?_
  refine bw_put (C := RX5) (T := TX5) (N := 5) (ci := 5) (ty0 := tyX5) (ty := .array .int) (v := .ref q3) 2 (by decide) 0 hC hG iwX5 tyX5_ok nmX5 rfl rfl w98 rfl (Or.inr ⟨hin, rfl⟩) (by decide +kernel) rfl rfl (Nat.le_of_ble_eq_true rfl) dX5_init_25 (fun H locs hG => ?_)
  have hG : BW D κ [(h0, .inr (5, [.ref q1, .ref q2, .ref q3, .null, .int 0])), (q1, .inl (κ.1, 40, .inl (fun _ => 0))), (q2, .inl (κ.1, 40, .inl (fun _ => 0))), (q3, .inl (κ.1, 40, .inl (fun _ => 0)))] _ s H locs := hG
  refine lv_aload_n hx hb dX5_init_28 rfl (lv_at hl 0 rfl) ?_
  refine lv_bipush (v := nI 40) hx hb dX5_init_29 (by decide) ?_
  have hk4 : 3 + 1 ≤ 4 := by decide
  have hs4 : 120 + 40 ≤ 160 := by decide
  refine bw_nI hC hG (by decide) w47 hk4 hs4 dX5_init_31 (fun q4 H hG => ?_)
  have hG : BW D κ [(h0, .inr (5, [.ref q1, .ref q2, .ref q3, .null, .int 0])), (q1, .inl (κ.1, 40, .inl (fun _ => 0))), (q2, .inl (κ.1, 40, .inl (fun _ => 0))), (q3, .inl (κ.1, 40, .inl (fun _ => 0))), (q4, .inl (κ.1, 40, .inl (fun _ => 0)))] _ s H locs := hG
  refine W.widen (k := 4) (n := 160) (by decide) (by decide) ?_
  refine bw_put (C := RX5) (T := TX5) (N := 5) (ci := 5) (ty0 := tyX5) (ty := .array .int) (v := .ref q4) 3 (by decide) 0 hC hG iwX5 tyX5_ok nmX5 rfl rfl w99 rfl (Or.inr ⟨hin, rfl⟩) (by decide +kernel) rfl rfl (Nat.le_of_ble_eq_true rfl) dX5_init_33 (fun H locs hG => ?_)
  have hG : BW D κ [(h0, .inr (5, [.ref q1, .ref q2, .ref q3, .ref q4, .int 0])), (q1, .inl (κ.1, 40, .inl (fun _ => 0))), (q2, .inl (κ.1, 40, .inl (fun _ => 0))), (q3, .inl (κ.1, 40, .inl (fun _ => 0))), (q4, .inl (κ.1, 40, .inl (fun _ => 0)))] _ s H locs := hG
  refine lv_aload_n hx hb dX5_init_36 rfl (lv_at hl 0 rfl) ?_
  refine lv_iconst (v := nI 0) hx hb dX5_init_37 (by decide) ?_
  refine bw_put (C := RX5) (T := TX5) (N := 5) (ci := 5) (ty0 := tyX5) (ty := .int) (v := .int (nI 0)) 4 (by decide) 0 hC hG iwX5 tyX5_ok nmX5 rfl rfl w100 rfl (Or.inl rfl) (by decide +kernel) rfl rfl (Nat.le_of_ble_eq_true rfl) dX5_init_38 (fun H locs hG => ?_)
  have hG : BW D κ [(h0, .inr (5, [.ref q1, .ref q2, .ref q3, .ref q4, .int (nI 0)])), (q1, .inl (κ.1, 40, .inl (fun _ => 0))), (q2, .inl (κ.1, 40, .inl (fun _ => 0))), (q3, .inl (κ.1, 40, .inl (fun _ => 0))), (q4, .inl (κ.1, 40, .inl (fun _ => 0)))] _ s H locs := hG
  exact bw_end (qs := fun k => match k with | 0 => q1 | 1 => q2 | 2 => q3 | _ => q4) hC hG rfl hr hk (by decide) (by decide) dX5_init_41

theorem dX6_init_0 : decode cX6_init 0 = .ok (.aload_n 0, 1) := by decide +kernel
theorem dX6_init_1 : decode cX6_init 1 = .ok (.invokespecial 3, 3) := by decide +kernel
theorem dX6_init_10 : decode cX6_init 10 = .ok (.putfield 9, 3) := by decide +kernel
theorem dX6_init_13 : decode cX6_init 13 = .ok (.aload_n 0, 1) := by decide +kernel
theorem dX6_init_14 : decode cX6_init 14 = .ok (.bipush 40, 2) := by decide +kernel
theorem dX6_init_16 : decode cX6_init 16 = .ok (.newarray .int, 2) := by decide +kernel
theorem dX6_init_18 : decode cX6_init 18 = .ok (.putfield 15, 3) := by decide +kernel
theorem dX6_init_21 : decode cX6_init 21 = .ok (.aload_n 0, 1) := by decide +kernel
theorem dX6_init_22 : decode cX6_init 22 = .ok (.bipush 40, 2) := by decide +kernel
theorem dX6_init_24 : decode cX6_init 24 = .ok (.newarray .int, 2) := by decide +kernel
theorem dX6_init_26 : decode cX6_init 26 = .ok (.putfield 18, 3) := by decide +kernel
theorem dX6_init_29 : decode cX6_init 29 = .ok (.aload_n 0, 1) := by decide +kernel
theorem dX6_init_30 : decode cX6_init 30 = .ok (.aload_n 1, 1) := by decide +kernel
theorem dX6_init_31 : decode cX6_init 31 = .ok (.putfield 21, 3) := by decide +kernel
theorem dX6_init_34 : decode cX6_init 34 = .ok (.aload_n 0, 1) := by decide +kernel
theorem dX6_init_35 : decode cX6_init 35 = .ok (.aload_n 2, 1) := by decide +kernel
theorem dX6_init_36 : decode cX6_init 36 = .ok (.putfield 25, 3) := by decide +kernel
theorem dX6_init_39 : decode cX6_init 39 = .ok (.iconst 0, 1) := by decide +kernel
theorem dX6_init_4 : decode cX6_init 4 = .ok (.aload_n 0, 1) := by decide +kernel
theorem dX6_init_40 : decode cX6_init 40 = .ok (.istore_n 3, 1) := by decide +kernel
theorem dX6_init_41 : decode cX6_init 41 = .ok (.iload_n 3, 1) := by decide +kernel
theorem dX6_init_42 : decode cX6_init 42 = .ok (.sipush 600, 3) := by decide +kernel
theorem dX6_init_45 : decode cX6_init 45 = .ok (.if_icmp .ge 16, 3) := by decide +kernel
theorem dX6_init_48 : decode cX6_init 48 = .ok (.aload_n 0, 1) := by decide +kernel
theorem dX6_init_49 : decode cX6_init 49 = .ok (.getfield 9, 3) := by decide +kernel
theorem dX6_init_5 : decode cX6_init 5 = .ok (.sipush 600, 3) := by decide +kernel
theorem dX6_init_52 : decode cX6_init 52 = .ok (.iload_n 3, 1) := by decide +kernel
theorem dX6_init_53 : decode cX6_init 53 = .ok (.iconst (-1), 1) := by decide +kernel
theorem dX6_init_54 : decode cX6_init 54 = .ok (.iastore, 1) := by decide +kernel
theorem dX6_init_55 : decode cX6_init 55 = .ok (.iinc 3 1, 3) := by decide +kernel
theorem dX6_init_58 : decode cX6_init 58 = .ok (.goto (-17), 3) := by decide +kernel
theorem dX6_init_61 : decode cX6_init 61 = .ok (.iconst 0, 1) := by decide +kernel
theorem dX6_init_62 : decode cX6_init 62 = .ok (.istore_n 3, 1) := by decide +kernel
theorem dX6_init_63 : decode cX6_init 63 = .ok (.iload_n 3, 1) := by decide +kernel
theorem dX6_init_64 : decode cX6_init 64 = .ok (.bipush 40, 2) := by decide +kernel
theorem dX6_init_66 : decode cX6_init 66 = .ok (.if_icmp .ge 23, 3) := by decide +kernel
theorem dX6_init_69 : decode cX6_init 69 = .ok (.aload_n 0, 1) := by decide +kernel
theorem dX6_init_70 : decode cX6_init 70 = .ok (.getfield 15, 3) := by decide +kernel
theorem dX6_init_73 : decode cX6_init 73 = .ok (.iload_n 3, 1) := by decide +kernel
theorem dX6_init_74 : decode cX6_init 74 = .ok (.iconst (-1), 1) := by decide +kernel
theorem dX6_init_75 : decode cX6_init 75 = .ok (.iastore, 1) := by decide +kernel
theorem dX6_init_76 : decode cX6_init 76 = .ok (.aload_n 0, 1) := by decide +kernel
theorem dX6_init_77 : decode cX6_init 77 = .ok (.getfield 18, 3) := by decide +kernel
theorem dX6_init_8 : decode cX6_init 8 = .ok (.newarray .int, 2) := by decide +kernel
theorem dX6_init_80 : decode cX6_init 80 = .ok (.iload_n 3, 1) := by decide +kernel
theorem dX6_init_81 : decode cX6_init 81 = .ok (.iconst (-1), 1) := by decide +kernel
theorem dX6_init_82 : decode cX6_init 82 = .ok (.iastore, 1) := by decide +kernel
theorem dX6_init_83 : decode cX6_init 83 = .ok (.iinc 3 1, 3) := by decide +kernel
theorem dX6_init_86 : decode cX6_init 86 = .ok (.goto (-23), 3) := by decide +kernel
theorem dX6_init_89 : decode cX6_init 89 = .ok (.return_, 1) := by decide +kernel
set_option maxHeartbeats 4000000 in
set_option maxRecDepth 100000 in
theorem c_init_6 (l : Launch) (D : va_G) (κ : K4) (sz h0 : Nat) (jr li : Nat) : CM l yX6_init cX6_init 4 1 12 3 680 D κ [] [(h0, .inr (6, [.null, .null, .null, .null, .null]))] sz [.ref h0, .ref jr, .ref li] (fun qs : Nat → Nat => [(h0, .inr (6, [.ref jr, .ref li, .ref (qs 0), .ref (qs 1), .ref (qs 2)])), (qs 0, .inl (κ.1, 600, .inl (fun _ => -1))), (qs 1, .inl (κ.1, 40, .inl (fun _ => -1))), (qs 2, .inl (κ.1, 40, .inl (fun _ => -1)))]) := by
  refine CM.of (by decide +kernel) (Nat.le_of_ble_eq_true rfl) rfl ?_
  intro p e s m below meth c ls hC hr hk hin hsz hX H locs hG hl
  have hx := hC.1
  have hb := hC.2.1
  have hl : lv_has ls 4 [(0, (.ref h0)), (1, (.ref jr)), (2, (.ref li))] := hl
  refine lv_aload_n hx hb dX6_init_0 rfl (lv_at hl 0 rfl) ?_
  refine bw_obj hC w104 hl.1 dX6_init_1 (by decide) (by decide) w11 w12 ?_
  refine lv_aload_n hx hb dX6_init_4 rfl (lv_at hl 0 rfl) ?_
  refine lv_sipush (v := nI 600) hx hb dX6_init_5 (by decide) ?_
  have hk1 : 0 + 1 ≤ 3 := by decide
  have hs1 : 0 + 600 ≤ 680 := by decide
  refine bw_nI hC hG (by decide) w47 hk1 hs1 dX6_init_8 (fun q1 H hG => ?_)
  have hG : BW D κ [(h0, .inr (6, [.null, .null, .null, .null, .null])), (q1, .inl (κ.1, 600, .inl (fun _ => 0)))] _ s H locs := hG
  refine W.widen (k := 1) (n := 600) (by decide) (by decide) ?_
  refine bw_put (C := RX6) (T := TX6) (N := 5) (ci := 6) (ty0 := tyX6) (ty := .array .int) (v := .ref q1) 2 (by decide) 0 hC hG iwX6 tyX6_ok nmX6 rfl rfl w105 rfl (Or.inr ⟨hin, rfl⟩) (by decide +kernel) rfl rfl (Nat.le_of_ble_eq_true rfl) dX6_init_10 (fun H locs hG => ?_)
  have hG : BW D κ [(h0, .inr (6, [.null, .null, .ref q1, .null, .null])), (q1, .inl (κ.1, 600, .inl (fun _ => 0)))] _ s H locs := hG
  refine lv_aload_n hx hb dX6_init_13 rfl (lv_at hl 0 rfl) ?_
  refine lv_bipush (v := nI 40) hx hb dX6_init_14 (by decide) ?_
  have hk2 : 1 + 1 ≤ 3 := by decide
  have hs2 : 600 + 40 ≤ 680 := by decide
  refine bw_nI hC hG (by decide) w47 hk2 hs2 dX6_init_16 (fun q2 H hG => ?_)
  have hG : BW D κ [(h0, .inr (6, [.null, .null, .ref q1, .null, .null])), (q1, .inl (κ.1, 600, .inl (fun _ => 0))), (q2, .inl (κ.1, 40, .inl (fun _ => 0)))] _ s H locs := hG
  refine W.widen (k := 2) (n := 640) (by decide) (by decide) ?_
  refine bw_put (C := RX6) (T := TX6) (N := 5) (ci := 6) (ty0 := tyX6) (ty := .array .int) (v := .ref q2) 3 (by decide) 0 hC hG iwX6 tyX6_ok nmX6 rfl rfl w106 rfl (Or.inr ⟨hin, rfl⟩) (by decide +kernel) rfl rfl (Nat.le_of_ble_eq_true rfl) dX6_init_18 (fun H locs hG => ?_)
  have hG : BW D κ [(h0, .inr (6, [.null, .null, .ref q1, .ref q2, .null])), (q1, .inl (κ.1, 600, .inl (fun _ => 0))), (q2, .inl (κ.1, 40, .inl (fun _ => 0)))] _ s H locs := hG
  refine lv_aload_n hx hb dX6_init_21 rfl (lv_at hl 0 rfl) ?_
  refine lv_bipush (v := nI 40) hx hb dX6_init_22 (by decide) ?_
  have hk3 : 2 + 1 ≤ 3 := by decide
  have hs3 : 640 + 40 ≤ 680 := by decide
  refine bw_nI hC hG (by decide) w47 hk3 hs3 dX6_init_24 (fun q3 H hG => ?_)
  have hG : BW D κ [(h0, .inr (6, [.null, .null, .ref q1, .ref q2, .null])), (q1, .inl (κ.1, 600, .inl (fun _ => 0))), (q2, .inl (κ.1, 40, .inl (fun _ => 0))), (q3, .inl (κ.1, 40, .inl (fun _ => 0)))] _ s H locs := hG
  refine W.widen (k := 3) (n := 680) (by decide) (by decide) ?_
  refine bw_put (C := RX6) (T := TX6) (N := 5) (ci := 6) (ty0 := tyX6) (ty := .array .int) (v := .ref q3) 4 (by decide) 0 hC hG iwX6 tyX6_ok nmX6 rfl rfl w107 rfl (Or.inr ⟨hin, rfl⟩) (by decide +kernel) rfl rfl (Nat.le_of_ble_eq_true rfl) dX6_init_26 (fun H locs hG => ?_)
  have hG : BW D κ [(h0, .inr (6, [.null, .null, .ref q1, .ref q2, .ref q3])), (q1, .inl (κ.1, 600, .inl (fun _ => 0))), (q2, .inl (κ.1, 40, .inl (fun _ => 0))), (q3, .inl (κ.1, 40, .inl (fun _ => 0)))] _ s H locs := hG
  refine lv_aload_n hx hb dX6_init_29 rfl (lv_at hl 0 rfl) ?_
  refine lv_aload_n hx hb dX6_init_30 rfl (lv_at hl 1 rfl) ?_
  refine bw_put (C := RX6) (T := TX6) (N := 5) (ci := 6) (ty0 := tyX6) (ty := .object "Tollgate$Journal") (v := .ref jr) 0 (by decide) 0 hC hG iwX6 tyX6_ok nmX6 rfl rfl w108 rfl (Or.inr ⟨hin, rfl⟩) (by decide +kernel) rfl rfl (Nat.le_of_ble_eq_true rfl) dX6_init_31 (fun H locs hG => ?_)
  have hG : BW D κ [(h0, .inr (6, [.ref jr, .null, .ref q1, .ref q2, .ref q3])), (q1, .inl (κ.1, 600, .inl (fun _ => 0))), (q2, .inl (κ.1, 40, .inl (fun _ => 0))), (q3, .inl (κ.1, 40, .inl (fun _ => 0)))] _ s H locs := hG
  refine lv_aload_n hx hb dX6_init_34 rfl (lv_at hl 0 rfl) ?_
  refine lv_aload_n hx hb dX6_init_35 rfl (lv_at hl 2 rfl) ?_
  refine bw_put (C := RX6) (T := TX6) (N := 5) (ci := 6) (ty0 := tyX6) (ty := .object "Tollgate$Lines") (v := .ref li) 1 (by decide) 0 hC hG iwX6 tyX6_ok nmX6 rfl rfl w109 rfl (Or.inr ⟨hin, rfl⟩) (by decide +kernel) rfl rfl (Nat.le_of_ble_eq_true rfl) dX6_init_36 (fun H locs hG => ?_)
  have hG : BW D κ [(h0, .inr (6, [.ref jr, .ref li, .ref q1, .ref q2, .ref q3])), (q1, .inl (κ.1, 600, .inl (fun _ => 0))), (q2, .inl (κ.1, 40, .inl (fun _ => 0))), (q3, .inl (κ.1, 40, .inl (fun _ => 0)))] _ s H locs := hG
  refine lv_iconst (v := nI 0) hx hb dX6_init_39 (by decide) ?_
  refine lv_istore_n (lv' := [(3, .int (nI 0)), (0, .ref h0), (1, .ref jr), (2, .ref li)]) hx hb dX6_init_40 rfl hl (by decide) rfl (fun ls hl => ?_)
  have hG := hG.arrI 1 (g := fill 0) rfl (fun j hj => rfl)
  have hG : BW D κ [(h0, .inr (6, [.ref jr, .ref li, .ref q1, .ref q2, .ref q3])), (q1, .inl (κ.1, 600, .inl (fill 0))), (q2, .inl (κ.1, 40, .inl (fun _ => 0))), (q3, .inl (κ.1, 40, .inl (fun _ => 0)))] _ s H locs := hG
  have lp41 : ∀ (n i : Nat), 600 - i < n → i ≤ 600 → (∀ (H : Heap) (locs : List Loc), BW D κ [(h0, .inr (6, [.ref jr, .ref li, .ref q1, .ref q2, .ref q3])), (q1, .inl (κ.1, 600, .inl (fill 600))), (q2, .inl (κ.1, 40, .inl (fun _ => 0))), (q3, .inl (κ.1, 40, .inl (fun _ => 0)))] (va_A [(h0, .inr (6, [.null, .null, .null, .null, .null]))] sz) s H locs → ∀ ls : Array Slot, lv_has ls 4 [(3, .int (nI 600)), (0, .ref h0), (1, .ref jr), (2, .ref li)] → W p l e { frames := 1, cells := 3, slots := 680, locals := 12 } s m [.ref h0, .ref jr, .ref li].toArray below meth c H locs 3 680 (MQ below (va_Qv (fun _ : Nat → Nat => True) (fun qs t => BC D κ ((fun qs : Nat → Nat => [(h0, .inr (6, [.ref jr, .ref li, .ref (qs 0), .ref (qs 1), .ref (qs 2)])), (qs 0, .inl (κ.1, 600, .inl (fun _ => -1))), (qs 1, .inl (κ.1, 40, .inl (fun _ => -1))), (qs 2, .inl (κ.1, 40, .inl (fun _ => -1)))]) qs) t ∧ va_D (va_A [(h0, .inr (6, [.null, .null, .null, .null, .null]))] sz) ((fun qs : Nat → Nat => [(h0, .inr (6, [.ref jr, .ref li, .ref (qs 0), .ref (qs 1), .ref (qs 2)])), (qs 0, .inl (κ.1, 600, .inl (fun _ => -1))), (qs 1, .inl (κ.1, 40, .inl (fun _ => -1))), (qs 2, .inl (κ.1, 40, .inl (fun _ => -1)))]) qs)) (va_A [(h0, .inr (6, [.null, .null, .null, .null, .null]))] sz)) [.ref h0, .ref jr, .ref li].toArray s 3 680 (va_A [(h0, .inr (6, [.null, .null, .null, .null, .null]))] sz)) (F0 m 61 ls [])) → ∀ (H : Heap) (locs : List Loc), BW D κ [(h0, .inr (6, [.ref jr, .ref li, .ref q1, .ref q2, .ref q3])), (q1, .inl (κ.1, 600, .inl (fill i))), (q2, .inl (κ.1, 40, .inl (fun _ => 0))), (q3, .inl (κ.1, 40, .inl (fun _ => 0)))] (va_A [(h0, .inr (6, [.null, .null, .null, .null, .null]))] sz) s H locs → ∀ ls : Array Slot, lv_has ls 4 [(3, .int (nI i)), (0, .ref h0), (1, .ref jr), (2, .ref li)] → W p l e { frames := 1, cells := 3, slots := 680, locals := 12 } s m [.ref h0, .ref jr, .ref li].toArray below meth c H locs 3 680 (MQ below (va_Qv (fun _ : Nat → Nat => True) (fun qs t => BC D κ ((fun qs : Nat → Nat => [(h0, .inr (6, [.ref jr, .ref li, .ref (qs 0), .ref (qs 1), .ref (qs 2)])), (qs 0, .inl (κ.1, 600, .inl (fun _ => -1))), (qs 1, .inl (κ.1, 40, .inl (fun _ => -1))), (qs 2, .inl (κ.1, 40, .inl (fun _ => -1)))]) qs) t ∧ va_D (va_A [(h0, .inr (6, [.null, .null, .null, .null, .null]))] sz) ((fun qs : Nat → Nat => [(h0, .inr (6, [.ref jr, .ref li, .ref (qs 0), .ref (qs 1), .ref (qs 2)])), (qs 0, .inl (κ.1, 600, .inl (fun _ => -1))), (qs 1, .inl (κ.1, 40, .inl (fun _ => -1))), (qs 2, .inl (κ.1, 40, .inl (fun _ => -1)))]) qs)) (va_A [(h0, .inr (6, [.null, .null, .null, .null, .null]))] sz)) [.ref h0, .ref jr, .ref li].toArray s 3 680 (va_A [(h0, .inr (6, [.null, .null, .null, .null, .null]))] sz)) (F0 m 41 ls []) := by
    intro n
    induction n with
    | zero =>
      intro i h1
      exact absurd h1 (Nat.not_lt_zero _)
    | succ n ih =>
      intro i h1 h2 kx H locs hG ls hl
      refine lv_iload_n hx hb dX6_init_41 rfl (lv_at hl 0 rfl) ?_
      refine lv_sipush (v := nI 600) hx hb dX6_init_42 (by decide) ?_
      refine bn_ge (tgt := 61) hx hb (by omega) (by omega) dX6_init_45 (by decide) (fun h9 => ?_) (fun h9 => ?_)
      · have hi : i = 600 := by omega
        subst hi
        exact kx H locs hG ls hl
      · refine lv_aload_n hx hb dX6_init_48 rfl (lv_at hl 1 rfl) ?_
        refine bw_get (C := RX6) (T := TX6) (N := 5) (ci := 6) (v := .ref q1) 2 (by decide) 0 hC hG iwX6 rfl rfl w105 rfl rfl dX6_init_49 ?_
        refine lv_iload_n hx hb dX6_init_52 rfl (lv_at hl 0 rfl) ?_
        refine lv_iconst (v := -1) hx hb dX6_init_53 (by decide) ?_
        refine bw_ast 1 hC hG rfl (by omega) (by decide) dX6_init_54 (fun H locs hG => ?_)
        have hG : BW D κ [(h0, .inr (6, [.ref jr, .ref li, .ref q1, .ref q2, .ref q3])), (q1, .inl (κ.1, 600, .inl (va_up (fill i) i (-1)))), (q2, .inl (κ.1, 40, .inl (fun _ => 0))), (q3, .inl (κ.1, 40, .inl (fun _ => 0)))] _ s H locs := hG
        have hG := hG.arrI 1 (g := fill (i + 1)) rfl (fun j hj => fill_s i j)
        have hG : BW D κ [(h0, .inr (6, [.ref jr, .ref li, .ref q1, .ref q2, .ref q3])), (q1, .inl (κ.1, 600, .inl (fill (i + 1)))), (q2, .inl (κ.1, 40, .inl (fun _ => 0))), (q3, .inl (κ.1, 40, .inl (fun _ => 0)))] _ s H locs := hG
        refine lv_iinc (v := nI (i + 1)) (lv' := [(3, .int (nI (i + 1))), (0, .ref h0), (1, .ref jr), (2, .ref li)]) hx hb dX6_init_55 hl (k := 0) rfl (nI_1 _) (by decide) rfl (fun ls hl => ?_)
        refine lv_goto (tgt := 41) hx hb dX6_init_58 (by decide) ?_
        exact ih (i + 1) (by omega) (by omega) kx H locs hG ls hl
  refine lp41 601 0 (by decide) (by decide) (fun H locs hG ls hl => ?_) H locs hG ls (lv_sub hl [0, 1, 2, 3] rfl)
  have hG := hG.arrI 1 (g := fun _ => -1) rfl (fun j hj => by unfold fill; rw [if_pos hj])
  have hG : BW D κ [(h0, .inr (6, [.ref jr, .ref li, .ref q1, .ref q2, .ref q3])), (q1, .inl (κ.1, 600, .inl (fun _ => -1))), (q2, .inl (κ.1, 40, .inl (fun _ => 0))), (q3, .inl (κ.1, 40, .inl (fun _ => 0)))] _ s H locs := hG
  refine lv_iconst (v := nI 0) hx hb dX6_init_61 (by decide) ?_
  refine lv_istore_n (lv' := [(3, .int (nI 0)), (0, .ref h0), (1, .ref jr), (2, .ref li)]) hx hb dX6_init_62 rfl hl (by decide) rfl (fun ls hl => ?_)
  have hG := hG.arrI 2 (g := fill 0) rfl (fun j hj => rfl)
  have hG := hG.arrI 3 (g := fill 0) rfl (fun j hj => rfl)
  have hG : BW D κ [(h0, .inr (6, [.ref jr, .ref li, .ref q1, .ref q2, .ref q3])), (q1, .inl (κ.1, 600, .inl (fun _ => -1))), (q2, .inl (κ.1, 40, .inl (fill 0))), (q3, .inl (κ.1, 40, .inl (fill 0)))] _ s H locs := hG
  have lp63 : ∀ (n i : Nat), 40 - i < n → i ≤ 40 → (∀ (H : Heap) (locs : List Loc), BW D κ [(h0, .inr (6, [.ref jr, .ref li, .ref q1, .ref q2, .ref q3])), (q1, .inl (κ.1, 600, .inl (fun _ => -1))), (q2, .inl (κ.1, 40, .inl (fill 40))), (q3, .inl (κ.1, 40, .inl (fill 40)))] (va_A [(h0, .inr (6, [.null, .null, .null, .null, .null]))] sz) s H locs → ∀ ls : Array Slot, lv_has ls 4 [(3, .int (nI 40)), (0, .ref h0), (1, .ref jr), (2, .ref li)] → W p l e { frames := 1, cells := 3, slots := 680, locals := 12 } s m [.ref h0, .ref jr, .ref li].toArray below meth c H locs 3 680 (MQ below (va_Qv (fun _ : Nat → Nat => True) (fun qs t => BC D κ ((fun qs : Nat → Nat => [(h0, .inr (6, [.ref jr, .ref li, .ref (qs 0), .ref (qs 1), .ref (qs 2)])), (qs 0, .inl (κ.1, 600, .inl (fun _ => -1))), (qs 1, .inl (κ.1, 40, .inl (fun _ => -1))), (qs 2, .inl (κ.1, 40, .inl (fun _ => -1)))]) qs) t ∧ va_D (va_A [(h0, .inr (6, [.null, .null, .null, .null, .null]))] sz) ((fun qs : Nat → Nat => [(h0, .inr (6, [.ref jr, .ref li, .ref (qs 0), .ref (qs 1), .ref (qs 2)])), (qs 0, .inl (κ.1, 600, .inl (fun _ => -1))), (qs 1, .inl (κ.1, 40, .inl (fun _ => -1))), (qs 2, .inl (κ.1, 40, .inl (fun _ => -1)))]) qs)) (va_A [(h0, .inr (6, [.null, .null, .null, .null, .null]))] sz)) [.ref h0, .ref jr, .ref li].toArray s 3 680 (va_A [(h0, .inr (6, [.null, .null, .null, .null, .null]))] sz)) (F0 m 89 ls [])) → ∀ (H : Heap) (locs : List Loc), BW D κ [(h0, .inr (6, [.ref jr, .ref li, .ref q1, .ref q2, .ref q3])), (q1, .inl (κ.1, 600, .inl (fun _ => -1))), (q2, .inl (κ.1, 40, .inl (fill i))), (q3, .inl (κ.1, 40, .inl (fill i)))] (va_A [(h0, .inr (6, [.null, .null, .null, .null, .null]))] sz) s H locs → ∀ ls : Array Slot, lv_has ls 4 [(3, .int (nI i)), (0, .ref h0), (1, .ref jr), (2, .ref li)] → W p l e { frames := 1, cells := 3, slots := 680, locals := 12 } s m [.ref h0, .ref jr, .ref li].toArray below meth c H locs 3 680 (MQ below (va_Qv (fun _ : Nat → Nat => True) (fun qs t => BC D κ ((fun qs : Nat → Nat => [(h0, .inr (6, [.ref jr, .ref li, .ref (qs 0), .ref (qs 1), .ref (qs 2)])), (qs 0, .inl (κ.1, 600, .inl (fun _ => -1))), (qs 1, .inl (κ.1, 40, .inl (fun _ => -1))), (qs 2, .inl (κ.1, 40, .inl (fun _ => -1)))]) qs) t ∧ va_D (va_A [(h0, .inr (6, [.null, .null, .null, .null, .null]))] sz) ((fun qs : Nat → Nat => [(h0, .inr (6, [.ref jr, .ref li, .ref (qs 0), .ref (qs 1), .ref (qs 2)])), (qs 0, .inl (κ.1, 600, .inl (fun _ => -1))), (qs 1, .inl (κ.1, 40, .inl (fun _ => -1))), (qs 2, .inl (κ.1, 40, .inl (fun _ => -1)))]) qs)) (va_A [(h0, .inr (6, [.null, .null, .null, .null, .null]))] sz)) [.ref h0, .ref jr, .ref li].toArray s 3 680 (va_A [(h0, .inr (6, [.null, .null, .null, .null, .null]))] sz)) (F0 m 63 ls []) := by
    intro n
    induction n with
    | zero =>
      intro i h1
      exact absurd h1 (Nat.not_lt_zero _)
    | succ n ih =>
      intro i h1 h2 kx H locs hG ls hl
      refine lv_iload_n hx hb dX6_init_63 rfl (lv_at hl 0 rfl) ?_
      refine lv_bipush (v := nI 40) hx hb dX6_init_64 (by decide) ?_
      refine bn_ge (tgt := 89) hx hb (by omega) (by omega) dX6_init_66 (by decide) (fun h9 => ?_) (fun h9 => ?_)
      · have hi : i = 40 := by omega
        subst hi
        exact kx H locs hG ls hl
      · refine lv_aload_n hx hb dX6_init_69 rfl (lv_at hl 1 rfl) ?_
        refine bw_get (C := RX6) (T := TX6) (N := 5) (ci := 6) (v := .ref q2) 3 (by decide) 0 hC hG iwX6 rfl rfl w106 rfl rfl dX6_init_70 ?_
        refine lv_iload_n hx hb dX6_init_73 rfl (lv_at hl 0 rfl) ?_
        refine lv_iconst (v := -1) hx hb dX6_init_74 (by decide) ?_
        refine bw_ast 2 hC hG rfl (by omega) (by decide) dX6_init_75 (fun H locs hG => ?_)
        have hG : BW D κ [(h0, .inr (6, [.ref jr, .ref li, .ref q1, .ref q2, .ref q3])), (q1, .inl (κ.1, 600, .inl (fun _ => -1))), (q2, .inl (κ.1, 40, .inl (va_up (fill i) i (-1)))), (q3, .inl (κ.1, 40, .inl (fill i)))] _ s H locs := hG
        refine lv_aload_n hx hb dX6_init_76 rfl (lv_at hl 1 rfl) ?_
        refine bw_get (C := RX6) (T := TX6) (N := 5) (ci := 6) (v := .ref q3) 4 (by decide) 0 hC hG iwX6 rfl rfl w107 rfl rfl dX6_init_77 ?_
        refine lv_iload_n hx hb dX6_init_80 rfl (lv_at hl 0 rfl) ?_
        refine lv_iconst (v := -1) hx hb dX6_init_81 (by decide) ?_
        refine bw_ast 3 hC hG rfl (by omega) (by decide) dX6_init_82 (fun H locs hG => ?_)
        have hG : BW D κ [(h0, .inr (6, [.ref jr, .ref li, .ref q1, .ref q2, .ref q3])), (q1, .inl (κ.1, 600, .inl (fun _ => -1))), (q2, .inl (κ.1, 40, .inl (va_up (fill i) i (-1)))), (q3, .inl (κ.1, 40, .inl (va_up (fill i) i (-1))))] _ s H locs := hG
        have hG := hG.arrI 2 (g := fill (i + 1)) rfl (fun j hj => fill_s i j)
        have hG := hG.arrI 3 (g := fill (i + 1)) rfl (fun j hj => fill_s i j)
        have hG : BW D κ [(h0, .inr (6, [.ref jr, .ref li, .ref q1, .ref q2, .ref q3])), (q1, .inl (κ.1, 600, .inl (fun _ => -1))), (q2, .inl (κ.1, 40, .inl (fill (i + 1)))), (q3, .inl (κ.1, 40, .inl (fill (i + 1))))] _ s H locs := hG
        refine lv_iinc (v := nI (i + 1)) (lv' := [(3, .int (nI (i + 1))), (0, .ref h0), (1, .ref jr), (2, .ref li)]) hx hb dX6_init_83 hl (k := 0) rfl (nI_1 _) (by decide) rfl (fun ls hl => ?_)
        refine lv_goto (tgt := 63) hx hb dX6_init_86 (by decide) ?_
        exact ih (i + 1) (by omega) (by omega) kx H locs hG ls hl
  refine lp63 41 0 (by decide) (by decide) (fun H locs hG ls hl => ?_) H locs hG ls (lv_sub hl [0, 1, 2, 3] rfl)
  have hG := hG.arrI 2 (g := fun _ => -1) rfl (fun j hj => by unfold fill; rw [if_pos hj])
  have hG := hG.arrI 3 (g := fun _ => -1) rfl (fun j hj => by unfold fill; rw [if_pos hj])
  have hG : BW D κ [(h0, .inr (6, [.ref jr, .ref li, .ref q1, .ref q2, .ref q3])), (q1, .inl (κ.1, 600, .inl (fun _ => -1))), (q2, .inl (κ.1, 40, .inl (fun _ => -1))), (q3, .inl (κ.1, 40, .inl (fun _ => -1)))] _ s H locs := hG
  exact bw_end (qs := fun k => match k with | 0 => q1 | 1 => q2 | _ => q3) hC hG rfl hr hk (by decide) (by decide) dX6_init_89

theorem dX7_init_0 : decode cX7_init 0 = .ok (.aload_n 0, 1) := by decide +kernel
theorem dX7_init_1 : decode cX7_init 1 = .ok (.invokespecial 3, 3) := by decide +kernel
theorem dX7_init_101 : decode cX7_init 101 = .ok (.dup, 1) := by decide +kernel
theorem dX7_init_102 : decode cX7_init 102 = .ok (.invokespecial 58, 3) := by decide +kernel
theorem dX7_init_105 : decode cX7_init 105 = .ok (.putfield 59, 3) := by decide +kernel
theorem dX7_init_108 : decode cX7_init 108 = .ok (.aload_n 0, 1) := by decide +kernel
theorem dX7_init_109 : decode cX7_init 109 = .ok (.iconst (-1), 1) := by decide +kernel
theorem dX7_init_110 : decode cX7_init 110 = .ok (.putfield 63, 3) := by decide +kernel
theorem dX7_init_113 : decode cX7_init 113 = .ok (.aload_n 0, 1) := by decide +kernel
theorem dX7_init_114 : decode cX7_init 114 = .ok (.iconst 0, 1) := by decide +kernel
theorem dX7_init_115 : decode cX7_init 115 = .ok (.putfield 67, 3) := by decide +kernel
theorem dX7_init_118 : decode cX7_init 118 = .ok (.return_, 1) := by decide +kernel
theorem dX7_init_12 : decode cX7_init 12 = .ok (.putfield 12, 3) := by decide +kernel
theorem dX7_init_15 : decode cX7_init 15 = .ok (.aload_n 0, 1) := by decide +kernel
theorem dX7_init_16 : decode cX7_init 16 = .ok (.new 16, 3) := by decide +kernel
theorem dX7_init_19 : decode cX7_init 19 = .ok (.dup, 1) := by decide +kernel
theorem dX7_init_20 : decode cX7_init 20 = .ok (.invokespecial 18, 3) := by decide +kernel
theorem dX7_init_23 : decode cX7_init 23 = .ok (.putfield 19, 3) := by decide +kernel
theorem dX7_init_26 : decode cX7_init 26 = .ok (.aload_n 0, 1) := by decide +kernel
theorem dX7_init_27 : decode cX7_init 27 = .ok (.new 23, 3) := by decide +kernel
theorem dX7_init_30 : decode cX7_init 30 = .ok (.dup, 1) := by decide +kernel
theorem dX7_init_31 : decode cX7_init 31 = .ok (.invokespecial 25, 3) := by decide +kernel
theorem dX7_init_34 : decode cX7_init 34 = .ok (.putfield 26, 3) := by decide +kernel
theorem dX7_init_37 : decode cX7_init 37 = .ok (.aload_n 0, 1) := by decide +kernel
theorem dX7_init_38 : decode cX7_init 38 = .ok (.new 30, 3) := by decide +kernel
theorem dX7_init_4 : decode cX7_init 4 = .ok (.aload_n 0, 1) := by decide +kernel
theorem dX7_init_41 : decode cX7_init 41 = .ok (.dup, 1) := by decide +kernel
theorem dX7_init_42 : decode cX7_init 42 = .ok (.invokespecial 32, 3) := by decide +kernel
theorem dX7_init_45 : decode cX7_init 45 = .ok (.putfield 33, 3) := by decide +kernel
theorem dX7_init_48 : decode cX7_init 48 = .ok (.aload_n 0, 1) := by decide +kernel
theorem dX7_init_49 : decode cX7_init 49 = .ok (.new 37, 3) := by decide +kernel
theorem dX7_init_5 : decode cX7_init 5 = .ok (.new 9, 3) := by decide +kernel
theorem dX7_init_52 : decode cX7_init 52 = .ok (.dup, 1) := by decide +kernel
theorem dX7_init_53 : decode cX7_init 53 = .ok (.invokespecial 39, 3) := by decide +kernel
theorem dX7_init_56 : decode cX7_init 56 = .ok (.putfield 40, 3) := by decide +kernel
theorem dX7_init_59 : decode cX7_init 59 = .ok (.aload_n 0, 1) := by decide +kernel
theorem dX7_init_60 : decode cX7_init 60 = .ok (.new 44, 3) := by decide +kernel
theorem dX7_init_63 : decode cX7_init 63 = .ok (.dup, 1) := by decide +kernel
theorem dX7_init_64 : decode cX7_init 64 = .ok (.aload_n 0, 1) := by decide +kernel
theorem dX7_init_65 : decode cX7_init 65 = .ok (.getfield 26, 3) := by decide +kernel
theorem dX7_init_68 : decode cX7_init 68 = .ok (.aload_n 0, 1) := by decide +kernel
theorem dX7_init_69 : decode cX7_init 69 = .ok (.getfield 40, 3) := by decide +kernel
theorem dX7_init_72 : decode cX7_init 72 = .ok (.invokespecial 46, 3) := by decide +kernel
theorem dX7_init_75 : decode cX7_init 75 = .ok (.putfield 49, 3) := by decide +kernel
theorem dX7_init_78 : decode cX7_init 78 = .ok (.aload_n 0, 1) := by decide +kernel
theorem dX7_init_79 : decode cX7_init 79 = .ok (.new 44, 3) := by decide +kernel
theorem dX7_init_8 : decode cX7_init 8 = .ok (.dup, 1) := by decide +kernel
theorem dX7_init_82 : decode cX7_init 82 = .ok (.dup, 1) := by decide +kernel
theorem dX7_init_83 : decode cX7_init 83 = .ok (.aload_n 0, 1) := by decide +kernel
theorem dX7_init_84 : decode cX7_init 84 = .ok (.getfield 26, 3) := by decide +kernel
theorem dX7_init_87 : decode cX7_init 87 = .ok (.aload_n 0, 1) := by decide +kernel
theorem dX7_init_88 : decode cX7_init 88 = .ok (.getfield 40, 3) := by decide +kernel
theorem dX7_init_9 : decode cX7_init 9 = .ok (.invokespecial 11, 3) := by decide +kernel
theorem dX7_init_91 : decode cX7_init 91 = .ok (.invokespecial 46, 3) := by decide +kernel
theorem dX7_init_94 : decode cX7_init 94 = .ok (.putfield 53, 3) := by decide +kernel
theorem dX7_init_97 : decode cX7_init 97 = .ok (.aload_n 0, 1) := by decide +kernel
theorem dX7_init_98 : decode cX7_init 98 = .ok (.new 56, 3) := by decide +kernel
set_option maxHeartbeats 4000000 in
set_option maxRecDepth 100000 in
theorem c_init_7 (l : Launch) (D : va_G) (κ : K4) (sz h0 : Nat) : CM l yX7_init cX7_init 1 3 52 44 4514 D κ [(RX7, 11, yX0_init), (RX7, 18, yX1_init), (RX1, 9, yX4_init), (RX7, 25, yX3_init), (RX7, 32, yX2_init), (RX7, 39, yX5_init), (RX7, 58, yX4_init)] [(h0, .inr (7, [.null, .null, .null, .null, .null, .null, .null, .null, .int 0, .int 0]))] sz [.ref h0] (fun qs : Nat → Nat => [(h0, .inr (7, [.ref (qs 0), .ref (qs 6), .ref (qs 11), .ref (qs 22), .ref (qs 27), .ref (qs 32), .ref (qs 36), .ref (qs 40), .int (-1), .int (nI 0)])), (qs 0, .inr (0, [.ref (qs 1), .ref (qs 2), .ref (qs 3), .ref (qs 4), .ref (qs 5), .int (nI 0)])), (qs 1, .inl (κ.1, 4, .inl (fun _ => nI 1000))), (qs 2, .inl (κ.1, 10, .inl (fun _ => 0))), (qs 3, .inl (κ.1, 10, .inl (fun _ => 0))), (qs 4, .inl (κ.1, 10, .inl (fun _ => 0))), (qs 5, .inl (κ.2.2.1, 10, .inl (fun _ => 0))), (qs 6, .inr (1, [.ref (qs 7), .int (bI false), .int (nI 0), .int (nI 0)])), (qs 7, .inr (4, [.ref (qs 8), .ref (qs 9), .ref (qs 10), .int (nI 0)])), (qs 8, .inl (κ.1, 10, .inl (fun _ => 0))), (qs 9, .inl (κ.2.1, 10, .inr (.inl (fun _ => 0)))), (qs 10, .inl (κ.2.1, 10, .inr (.inl (fun _ => 0)))), (qs 11, .inr (3, [.ref (qs 12), .ref (qs 13), .ref (qs 14), .ref (qs 15), .ref (qs 16), .ref (qs 17), .int (nI 0), .ref (qs 18), .ref (qs 19), .ref (qs 20), .ref (qs 21), .int (nI 0)])), (qs 12, .inl (κ.1, 60, .inl (fun _ => 0))), (qs 13, .inl (κ.1, 60, .inl (fun _ => 0))), (qs 14, .inl (κ.1, 60, .inl (fun _ => 0))), (qs 15, .inl (κ.1, 60, .inl (fun _ => 0))), (qs 16, .inl (κ.2.2.1, 60, .inl (fun _ => 0))), (qs 17, .inl (κ.2.2.1, 60, .inl (fun _ => 0))), (qs 18, .inl (κ.1, 600, .inl (fun _ => 0))), (qs 19, .inl (κ.1, 600, .inl (fun _ => 0))), (qs 20, .inl (κ.2.1, 600, .inr (.inl (fun _ => 0)))), (qs 21, .inl (κ.2.1, 600, .inr (.inl (fun _ => 0)))), (qs 22, .inr (2, [.ref (qs 23), .ref (qs 24), .ref (qs 25), .ref (qs 26), .int (nI 0)])), (qs 23, .inl (κ.1, 20, .inl (fun _ => 0))), (qs 24, .inl (κ.1, 20, .inl (fun _ => 0))), (qs 25, .inl (κ.1, 20, .inl (fun _ => 0))), (qs 26, .inl (κ.2.2.1, 20, .inl (fun _ => 0))), (qs 27, .inr (5, [.ref (qs 28), .ref (qs 29), .ref (qs 30), .ref (qs 31), .int (nI 0)])), (qs 28, .inl (κ.1, 40, .inl (fun _ => 0))), (qs 29, .inl (κ.1, 40, .inl (fun _ => 0))), (qs 30, .inl (κ.1, 40, .inl (fun _ => 0))), (qs 31, .inl (κ.1, 40, .inl (fun _ => 0))), (qs 32, .inr (6, [.ref (qs 11), .ref (qs 27), .ref (qs 33), .ref (qs 34), .ref (qs 35)])), (qs 33, .inl (κ.1, 600, .inl (fun _ => -1))), (qs 34, .inl (κ.1, 40, .inl (fun _ => -1))), (qs 35, .inl (κ.1, 40, .inl (fun _ => -1))), (qs 36, .inr (6, [.ref (qs 11), .ref (qs 27), .ref (qs 37), .ref (qs 38), .ref (qs 39)])), (qs 37, .inl (κ.1, 600, .inl (fun _ => -1))), (qs 38, .inl (κ.1, 40, .inl (fun _ => -1))), (qs 39, .inl (κ.1, 40, .inl (fun _ => -1))), (qs 40, .inr (4, [.ref (qs 41), .ref (qs 42), .ref (qs 43), .int (nI 0)])), (qs 41, .inl (κ.1, 10, .inl (fun _ => 0))), (qs 42, .inl (κ.2.1, 10, .inr (.inl (fun _ => 0)))), (qs 43, .inl (κ.2.1, 10, .inr (.inl (fun _ => 0))))]) := by
  refine CM.of (by decide +kernel) (Nat.le_of_ble_eq_true rfl) rfl ?_
  intro p e s m below meth c ls hC hr hk hin hsz hX H locs hG hl
  have hx := hC.1
  have hb := hC.2.1
  have hl : lv_has ls 1 [(0, (.ref h0))] := hl
  refine lv_aload_n hx hb dX7_init_0 rfl (lv_at hl 0 rfl) ?_
  refine bw_obj hC w10 hl.1 dX7_init_1 (by decide) (by decide) w11 w12 ?_
  refine lv_aload_n hx hb dX7_init_4 rfl (lv_at hl 0 rfl) ?_
  have hk1 : 0 + 1 ≤ 44 := by decide
  have hs1 : 0 + 6 ≤ 4514 := by decide
  refine bw_new (C := RX0) (T := TX0) (N := 6) (ci := 0) (fs := [.null, .null, .null, .null, .null, .int 0]) hC hG iwX0 tyX0_ok w13 w14 w15 rfl (fun j hj => by rcases (show j = 0 ∨ j = 1 ∨ j = 2 ∨ j = 3 ∨ j = 4 ∨ j = 5 by omega) with rfl | rfl | rfl | rfl | rfl | rfl <;> rfl) hk1 hs1 dX7_init_5 (fun q1 H hG => ?_)
  have hG : BW D κ [(h0, .inr (7, [.null, .null, .null, .null, .null, .null, .null, .null, .int 0, .int 0])), (q1, .inr (0, [.null, .null, .null, .null, .null, .int 0]))] _ s H locs := hG
  refine W.widen (k := 1) (n := 6) (by decide) (by decide) ?_
  refine lv_dup hx hb dX7_init_8 rfl ?_
  have hGc : BW D κ [(q1, .inr (0, [.null, .null, .null, .null, .null, .int 0]))] _ s H locs := hG.at [1] (by decide) rfl
  refine bw_run (wc := [(q1, .inr (0, [.null, .null, .null, .null, .null, .int 0]))]) (wr := [(h0, .inr (7, [.null, .null, .null, .null, .null, .null, .null, .null, .int 0, .int 0]))]) hG [1] [0] rfl rfl (by decide) (by decide) (va_runIN (host := "Tollgate") (As := []) (rest := [.ref q1, .ref h0]) hC (c_init_0 l D κ H.size q1 ) ⟨va_cnB 0 hC.2.2.2.2 (fun w h => by rcases List.mem_cons.mp h with rfl | h; exact wl_in _ w45; exact wl_in _ h) rfl rfl rfl (hX (RX7, 11, yX0_init) (by decide)) (hC.2.2.2.2 _ w15) (by decide +kernel) ⟨by decide, by decide⟩, rfl, hC.2.2.2.2 _ w44⟩ ⟨fun x U g mk q => ⟨q.1, q.2.1, ⟨va_K.moved (u := U) (U := U.calling g mk x) (Vm.Alike.refl U.vm) q.2.2.1.1, q.2.2.1.2⟩, XN.same rfl q.2.2.2⟩, fun U hU hW => ⟨rfl, by rw [hU], ⟨va_K.moved hW.alike hGc.1, by rw [hU]; exact hGc.2.1, hGc.2.2.1.weaken (fun _ _ _ _ => trivial)⟩, XN.warm hW hX (by decide)⟩⟩ rfl rfl hl.1 rfl (lv_room (Nat.le_of_ble_eq_true rfl)) dX7_init_9 ⟨by decide, by decide⟩) (fun z2 H locs hG => ?_)
  have hG : BW D κ [(h0, .inr (7, [.null, .null, .null, .null, .null, .null, .null, .null, .int 0, .int 0])), (q1, .inr (0, [.ref (z2 0), .ref (z2 1), .ref (z2 2), .ref (z2 3), .ref (z2 4), .int (nI 0)])), (z2 0, .inl (κ.1, 4, .inl (fun _ => nI 1000))), (z2 1, .inl (κ.1, 10, .inl (fun _ => 0))), (z2 2, .inl (κ.1, 10, .inl (fun _ => 0))), (z2 3, .inl (κ.1, 10, .inl (fun _ => 0))), (z2 4, .inl (κ.2.2.1, 10, .inl (fun _ => 0)))] _ s H locs := hG
  refine W.widen (k := 6) (n := 50) (by decide) (by decide) ?_
  refine bw_put (C := RX7) (T := TX7) (N := 10) (ci := 7) (ty0 := tyX7) (ty := .object "Tollgate$Accounts") (v := .ref q1) 0 (by decide) 0 hC hG iwX7 tyX7_ok nmX7 rfl rfl w16 rfl (Or.inr ⟨hin, rfl⟩) (by decide +kernel) rfl rfl (Nat.le_of_ble_eq_true rfl) dX7_init_12 (fun H locs hG => ?_)
  have hG : BW D κ [(h0, .inr (7, [.ref q1, .null, .null, .null, .null, .null, .null, .null, .int 0, .int 0])), (q1, .inr (0, [.ref (z2 0), .ref (z2 1), .ref (z2 2), .ref (z2 3), .ref (z2 4), .int (nI 0)])), (z2 0, .inl (κ.1, 4, .inl (fun _ => nI 1000))), (z2 1, .inl (κ.1, 10, .inl (fun _ => 0))), (z2 2, .inl (κ.1, 10, .inl (fun _ => 0))), (z2 3, .inl (κ.1, 10, .inl (fun _ => 0))), (z2 4, .inl (κ.2.2.1, 10, .inl (fun _ => 0)))] _ s H locs := hG
  refine lv_aload_n hx hb dX7_init_15 rfl (lv_at hl 0 rfl) ?_
  have hk3 : 6 + 1 ≤ 44 := by decide
  have hs3 : 50 + 4 ≤ 4514 := by decide
  refine bw_new (C := RX1) (T := TX1) (N := 4) (ci := 1) (fs := [.null, .int 0, .int 0, .int 0]) hC hG iwX1 tyX1_ok w17 w18 w19 rfl (fun j hj => by rcases (show j = 0 ∨ j = 1 ∨ j = 2 ∨ j = 3 by omega) with rfl | rfl | rfl | rfl <;> rfl) hk3 hs3 dX7_init_16 (fun q3 H hG => ?_)
  have hG : BW D κ [(h0, .inr (7, [.ref q1, .null, .null, .null, .null, .null, .null, .null, .int 0, .int 0])), (q1, .inr (0, [.ref (z2 0), .ref (z2 1), .ref (z2 2), .ref (z2 3), .ref (z2 4), .int (nI 0)])), (z2 0, .inl (κ.1, 4, .inl (fun _ => nI 1000))), (z2 1, .inl (κ.1, 10, .inl (fun _ => 0))), (z2 2, .inl (κ.1, 10, .inl (fun _ => 0))), (z2 3, .inl (κ.1, 10, .inl (fun _ => 0))), (z2 4, .inl (κ.2.2.1, 10, .inl (fun _ => 0))), (q3, .inr (1, [.null, .int 0, .int 0, .int 0]))] _ s H locs := hG
  refine W.widen (k := 7) (n := 54) (by decide) (by decide) ?_
  refine lv_dup hx hb dX7_init_19 rfl ?_
  have hGc : BW D κ [(q3, .inr (1, [.null, .int 0, .int 0, .int 0]))] _ s H locs := hG.at [7] (by decide) rfl
  refine bw_run (wc := [(q3, .inr (1, [.null, .int 0, .int 0, .int 0]))]) (wr := [(h0, .inr (7, [.ref q1, .null, .null, .null, .null, .null, .null, .null, .int 0, .int 0])), (q1, .inr (0, [.ref (z2 0), .ref (z2 1), .ref (z2 2), .ref (z2 3), .ref (z2 4), .int (nI 0)])), (z2 0, .inl (κ.1, 4, .inl (fun _ => nI 1000))), (z2 1, .inl (κ.1, 10, .inl (fun _ => 0))), (z2 2, .inl (κ.1, 10, .inl (fun _ => 0))), (z2 3, .inl (κ.1, 10, .inl (fun _ => 0))), (z2 4, .inl (κ.2.2.1, 10, .inl (fun _ => 0)))]) hG [7] [0, 1, 2, 3, 4, 5, 6] rfl rfl (by decide) (by decide) (va_runIN (host := "Tollgate") (As := []) (rest := [.ref q3, .ref h0]) hC (c_init_1 l D κ H.size q3 ) ⟨va_cnB 0 hC.2.2.2.2 (fun w h => by rcases List.mem_cons.mp h with rfl | h; exact wl_in _ w56; exact wl_in _ h) rfl rfl rfl (hX (RX7, 18, yX1_init) (by decide)) (hC.2.2.2.2 _ w19) (by decide +kernel) ⟨by decide, by decide⟩, rfl, hC.2.2.2.2 _ w55⟩ ⟨fun x U g mk q => ⟨q.1, q.2.1, ⟨va_K.moved (u := U) (U := U.calling g mk x) (Vm.Alike.refl U.vm) q.2.2.1.1, q.2.2.1.2⟩, XN.same rfl q.2.2.2⟩, fun U hU hW => ⟨rfl, by rw [hU], ⟨va_K.moved hW.alike hGc.1, by rw [hU]; exact hGc.2.1, hGc.2.2.1.weaken (fun _ _ _ _ => trivial)⟩, XN.warm hW hX (by decide)⟩⟩ rfl rfl hl.1 rfl (lv_room (Nat.le_of_ble_eq_true rfl)) dX7_init_20 ⟨by decide, by decide⟩) (fun z4 H locs hG => ?_)
  have hG : BW D κ [(h0, .inr (7, [.ref q1, .null, .null, .null, .null, .null, .null, .null, .int 0, .int 0])), (q1, .inr (0, [.ref (z2 0), .ref (z2 1), .ref (z2 2), .ref (z2 3), .ref (z2 4), .int (nI 0)])), (z2 0, .inl (κ.1, 4, .inl (fun _ => nI 1000))), (z2 1, .inl (κ.1, 10, .inl (fun _ => 0))), (z2 2, .inl (κ.1, 10, .inl (fun _ => 0))), (z2 3, .inl (κ.1, 10, .inl (fun _ => 0))), (z2 4, .inl (κ.2.2.1, 10, .inl (fun _ => 0))), (q3, .inr (1, [.ref (z4 0), .int (bI false), .int (nI 0), .int (nI 0)])), (z4 0, .inr (4, [.ref (z4 1), .ref (z4 2), .ref (z4 3), .int (nI 0)])), (z4 1, .inl (κ.1, 10, .inl (fun _ => 0))), (z4 2, .inl (κ.2.1, 10, .inr (.inl (fun _ => 0)))), (z4 3, .inl (κ.2.1, 10, .inr (.inl (fun _ => 0))))] _ s H locs := hG
  refine W.widen (k := 11) (n := 88) (by decide) (by decide) ?_
  refine bw_put (C := RX7) (T := TX7) (N := 10) (ci := 7) (ty0 := tyX7) (ty := .object "Tollgate$Draft") (v := .ref q3) 1 (by decide) 0 hC hG iwX7 tyX7_ok nmX7 rfl rfl w20 rfl (Or.inr ⟨hin, rfl⟩) (by decide +kernel) rfl rfl (Nat.le_of_ble_eq_true rfl) dX7_init_23 (fun H locs hG => ?_)
  have hG : BW D κ [(h0, .inr (7, [.ref q1, .ref q3, .null, .null, .null, .null, .null, .null, .int 0, .int 0])), (q1, .inr (0, [.ref (z2 0), .ref (z2 1), .ref (z2 2), .ref (z2 3), .ref (z2 4), .int (nI 0)])), (z2 0, .inl (κ.1, 4, .inl (fun _ => nI 1000))), (z2 1, .inl (κ.1, 10, .inl (fun _ => 0))), (z2 2, .inl (κ.1, 10, .inl (fun _ => 0))), (z2 3, .inl (κ.1, 10, .inl (fun _ => 0))), (z2 4, .inl (κ.2.2.1, 10, .inl (fun _ => 0))), (q3, .inr (1, [.ref (z4 0), .int (bI false), .int (nI 0), .int (nI 0)])), (z4 0, .inr (4, [.ref (z4 1), .ref (z4 2), .ref (z4 3), .int (nI 0)])), (z4 1, .inl (κ.1, 10, .inl (fun _ => 0))), (z4 2, .inl (κ.2.1, 10, .inr (.inl (fun _ => 0)))), (z4 3, .inl (κ.2.1, 10, .inr (.inl (fun _ => 0))))] _ s H locs := hG
  refine lv_aload_n hx hb dX7_init_26 rfl (lv_at hl 0 rfl) ?_
  have hk5 : 11 + 1 ≤ 44 := by decide
  have hs5 : 88 + 12 ≤ 4514 := by decide
  refine bw_new (C := RX3) (T := TX3) (N := 12) (ci := 3) (fs := [.null, .null, .null, .null, .null, .null, .int 0, .null, .null, .null, .null, .int 0]) hC hG iwX3 tyX3_ok w21 w22 w23 rfl (fun j hj => by rcases (show j = 0 ∨ j = 1 ∨ j = 2 ∨ j = 3 ∨ j = 4 ∨ j = 5 ∨ j = 6 ∨ j = 7 ∨ j = 8 ∨ j = 9 ∨ j = 10 ∨ j = 11 by omega) with rfl | rfl | rfl | rfl | rfl | rfl | rfl | rfl | rfl | rfl | rfl | rfl <;> rfl) hk5 hs5 dX7_init_27 (fun q5 H hG => ?_)
  have hG : BW D κ [(h0, .inr (7, [.ref q1, .ref q3, .null, .null, .null, .null, .null, .null, .int 0, .int 0])), (q1, .inr (0, [.ref (z2 0), .ref (z2 1), .ref (z2 2), .ref (z2 3), .ref (z2 4), .int (nI 0)])), (z2 0, .inl (κ.1, 4, .inl (fun _ => nI 1000))), (z2 1, .inl (κ.1, 10, .inl (fun _ => 0))), (z2 2, .inl (κ.1, 10, .inl (fun _ => 0))), (z2 3, .inl (κ.1, 10, .inl (fun _ => 0))), (z2 4, .inl (κ.2.2.1, 10, .inl (fun _ => 0))), (q3, .inr (1, [.ref (z4 0), .int (bI false), .int (nI 0), .int (nI 0)])), (z4 0, .inr (4, [.ref (z4 1), .ref (z4 2), .ref (z4 3), .int (nI 0)])), (z4 1, .inl (κ.1, 10, .inl (fun _ => 0))), (z4 2, .inl (κ.2.1, 10, .inr (.inl (fun _ => 0)))), (z4 3, .inl (κ.2.1, 10, .inr (.inl (fun _ => 0)))), (q5, .inr (3, [.null, .null, .null, .null, .null, .null, .int 0, .null, .null, .null, .null, .int 0]))] _ s H locs := hG
  refine W.widen (k := 12) (n := 100) (by decide) (by decide) ?_
  refine lv_dup hx hb dX7_init_30 rfl ?_
  have hGc : BW D κ [(q5, .inr (3, [.null, .null, .null, .null, .null, .null, .int 0, .null, .null, .null, .null, .int 0]))] _ s H locs := hG.at [12] (by decide) rfl
  refine bw_run (wc := [(q5, .inr (3, [.null, .null, .null, .null, .null, .null, .int 0, .null, .null, .null, .null, .int 0]))]) (wr := [(h0, .inr (7, [.ref q1, .ref q3, .null, .null, .null, .null, .null, .null, .int 0, .int 0])), (q1, .inr (0, [.ref (z2 0), .ref (z2 1), .ref (z2 2), .ref (z2 3), .ref (z2 4), .int (nI 0)])), (z2 0, .inl (κ.1, 4, .inl (fun _ => nI 1000))), (z2 1, .inl (κ.1, 10, .inl (fun _ => 0))), (z2 2, .inl (κ.1, 10, .inl (fun _ => 0))), (z2 3, .inl (κ.1, 10, .inl (fun _ => 0))), (z2 4, .inl (κ.2.2.1, 10, .inl (fun _ => 0))), (q3, .inr (1, [.ref (z4 0), .int (bI false), .int (nI 0), .int (nI 0)])), (z4 0, .inr (4, [.ref (z4 1), .ref (z4 2), .ref (z4 3), .int (nI 0)])), (z4 1, .inl (κ.1, 10, .inl (fun _ => 0))), (z4 2, .inl (κ.2.1, 10, .inr (.inl (fun _ => 0)))), (z4 3, .inl (κ.2.1, 10, .inr (.inl (fun _ => 0))))]) hG [12] [0, 1, 2, 3, 4, 5, 6, 7, 8, 9, 10, 11] rfl rfl (by decide) (by decide) (va_runIN (host := "Tollgate") (As := []) (rest := [.ref q5, .ref h0]) hC (c_init_3 l D κ H.size q5 ) ⟨va_cnB 0 hC.2.2.2.2 (fun w h => by rcases List.mem_cons.mp h with rfl | h; exact wl_in _ w71; exact wl_in _ h) rfl rfl rfl (hX (RX7, 25, yX3_init) (by decide)) (hC.2.2.2.2 _ w23) (by decide +kernel) ⟨by decide, by decide⟩, rfl, hC.2.2.2.2 _ w70⟩ ⟨fun x U g mk q => ⟨q.1, q.2.1, ⟨va_K.moved (u := U) (U := U.calling g mk x) (Vm.Alike.refl U.vm) q.2.2.1.1, q.2.2.1.2⟩, XN.same rfl q.2.2.2⟩, fun U hU hW => ⟨rfl, by rw [hU], ⟨va_K.moved hW.alike hGc.1, by rw [hU]; exact hGc.2.1, hGc.2.2.1.weaken (fun _ _ _ _ => trivial)⟩, XN.warm hW hX (by decide)⟩⟩ rfl rfl hl.1 rfl (lv_room (Nat.le_of_ble_eq_true rfl)) dX7_init_31 ⟨by decide, by decide⟩) (fun z6 H locs hG => ?_)
  have hG : BW D κ [(h0, .inr (7, [.ref q1, .ref q3, .null, .null, .null, .null, .null, .null, .int 0, .int 0])), (q1, .inr (0, [.ref (z2 0), .ref (z2 1), .ref (z2 2), .ref (z2 3), .ref (z2 4), .int (nI 0)])), (z2 0, .inl (κ.1, 4, .inl (fun _ => nI 1000))), (z2 1, .inl (κ.1, 10, .inl (fun _ => 0))), (z2 2, .inl (κ.1, 10, .inl (fun _ => 0))), (z2 3, .inl (κ.1, 10, .inl (fun _ => 0))), (z2 4, .inl (κ.2.2.1, 10, .inl (fun _ => 0))), (q3, .inr (1, [.ref (z4 0), .int (bI false), .int (nI 0), .int (nI 0)])), (z4 0, .inr (4, [.ref (z4 1), .ref (z4 2), .ref (z4 3), .int (nI 0)])), (z4 1, .inl (κ.1, 10, .inl (fun _ => 0))), (z4 2, .inl (κ.2.1, 10, .inr (.inl (fun _ => 0)))), (z4 3, .inl (κ.2.1, 10, .inr (.inl (fun _ => 0)))), (q5, .inr (3, [.ref (z6 0), .ref (z6 1), .ref (z6 2), .ref (z6 3), .ref (z6 4), .ref (z6 5), .int (nI 0), .ref (z6 6), .ref (z6 7), .ref (z6 8), .ref (z6 9), .int (nI 0)])), (z6 0, .inl (κ.1, 60, .inl (fun _ => 0))), (z6 1, .inl (κ.1, 60, .inl (fun _ => 0))), (z6 2, .inl (κ.1, 60, .inl (fun _ => 0))), (z6 3, .inl (κ.1, 60, .inl (fun _ => 0))), (z6 4, .inl (κ.2.2.1, 60, .inl (fun _ => 0))), (z6 5, .inl (κ.2.2.1, 60, .inl (fun _ => 0))), (z6 6, .inl (κ.1, 600, .inl (fun _ => 0))), (z6 7, .inl (κ.1, 600, .inl (fun _ => 0))), (z6 8, .inl (κ.2.1, 600, .inr (.inl (fun _ => 0)))), (z6 9, .inl (κ.2.1, 600, .inr (.inl (fun _ => 0))))] _ s H locs := hG
  refine W.widen (k := 22) (n := 2860) (by decide) (by decide) ?_
  refine bw_put (C := RX7) (T := TX7) (N := 10) (ci := 7) (ty0 := tyX7) (ty := .object "Tollgate$Journal") (v := .ref q5) 2 (by decide) 0 hC hG iwX7 tyX7_ok nmX7 rfl rfl w24 rfl (Or.inr ⟨hin, rfl⟩) (by decide +kernel) rfl rfl (Nat.le_of_ble_eq_true rfl) dX7_init_34 (fun H locs hG => ?_)
  have hG : BW D κ [(h0, .inr (7, [.ref q1, .ref q3, .ref q5, .null, .null, .null, .null, .null, .int 0, .int 0])), (q1, .inr (0, [.ref (z2 0), .ref (z2 1), .ref (z2 2), .ref (z2 3), .ref (z2 4), .int (nI 0)])), (z2 0, .inl (κ.1, 4, .inl (fun _ => nI 1000))), (z2 1, .inl (κ.1, 10, .inl (fun _ => 0))), (z2 2, .inl (κ.1, 10, .inl (fun _ => 0))), (z2 3, .inl (κ.1, 10, .inl (fun _ => 0))), (z2 4, .inl (κ.2.2.1, 10, .inl (fun _ => 0))), (q3, .inr (1, [.ref (z4 0), .int (bI false), .int (nI 0), .int (nI 0)])), (z4 0, .inr (4, [.ref (z4 1), .ref (z4 2), .ref (z4 3), .int (nI 0)])), (z4 1, .inl (κ.1, 10, .inl (fun _ => 0))), (z4 2, .inl (κ.2.1, 10, .inr (.inl (fun _ => 0)))), (z4 3, .inl (κ.2.1, 10, .inr (.inl (fun _ => 0)))), (q5, .inr (3, [.ref (z6 0), .ref (z6 1), .ref (z6 2), .ref (z6 3), .ref (z6 4), .ref (z6 5), .int (nI 0), .ref (z6 6), .ref (z6 7), .ref (z6 8), .ref (z6 9), .int (nI 0)])), (z6 0, .inl (κ.1, 60, .inl (fun _ => 0))), (z6 1, .inl (κ.1, 60, .inl (fun _ => 0))), (z6 2, .inl (κ.1, 60, .inl (fun _ => 0))), (z6 3, .inl (κ.1, 60, .inl (fun _ => 0))), (z6 4, .inl (κ.2.2.1, 60, .inl (fun _ => 0))), (z6 5, .inl (κ.2.2.1, 60, .inl (fun _ => 0))), (z6 6, .inl (κ.1, 600, .inl (fun _ => 0))), (z6 7, .inl (κ.1, 600, .inl (fun _ => 0))), (z6 8, .inl (κ.2.1, 600, .inr (.inl (fun _ => 0)))), (z6 9, .inl (κ.2.1, 600, .inr (.inl (fun _ => 0))))] _ s H locs := hG
  refine lv_aload_n hx hb dX7_init_37 rfl (lv_at hl 0 rfl) ?_
  have hk7 : 22 + 1 ≤ 44 := by decide
  have hs7 : 2860 + 5 ≤ 4514 := by decide
  refine bw_new (C := RX2) (T := TX2) (N := 5) (ci := 2) (fs := [.null, .null, .null, .null, .int 0]) hC hG iwX2 tyX2_ok w25 w26 w27 rfl (fun j hj => by rcases (show j = 0 ∨ j = 1 ∨ j = 2 ∨ j = 3 ∨ j = 4 by omega) with rfl | rfl | rfl | rfl | rfl <;> rfl) hk7 hs7 dX7_init_38 (fun q7 H hG => ?_)
  have hG : BW D κ [(h0, .inr (7, [.ref q1, .ref q3, .ref q5, .null, .null, .null, .null, .null, .int 0, .int 0])), (q1, .inr (0, [.ref (z2 0), .ref (z2 1), .ref (z2 2), .ref (z2 3), .ref (z2 4), .int (nI 0)])), (z2 0, .inl (κ.1, 4, .inl (fun _ => nI 1000))), (z2 1, .inl (κ.1, 10, .inl (fun _ => 0))), (z2 2, .inl (κ.1, 10, .inl (fun _ => 0))), (z2 3, .inl (κ.1, 10, .inl (fun _ => 0))), (z2 4, .inl (κ.2.2.1, 10, .inl (fun _ => 0))), (q3, .inr (1, [.ref (z4 0), .int (bI false), .int (nI 0), .int (nI 0)])), (z4 0, .inr (4, [.ref (z4 1), .ref (z4 2), .ref (z4 3), .int (nI 0)])), (z4 1, .inl (κ.1, 10, .inl (fun _ => 0))), (z4 2, .inl (κ.2.1, 10, .inr (.inl (fun _ => 0)))), (z4 3, .inl (κ.2.1, 10, .inr (.inl (fun _ => 0)))), (q5, .inr (3, [.ref (z6 0), .ref (z6 1), .ref (z6 2), .ref (z6 3), .ref (z6 4), .ref (z6 5), .int (nI 0), .ref (z6 6), .ref (z6 7), .ref (z6 8), .ref (z6 9), .int (nI 0)])), (z6 0, .inl (κ.1, 60, .inl (fun _ => 0))), (z6 1, .inl (κ.1, 60, .inl (fun _ => 0))), (z6 2, .inl (κ.1, 60, .inl (fun _ => 0))), (z6 3, .inl (κ.1, 60, .inl (fun _ => 0))), (z6 4, .inl (κ.2.2.1, 60, .inl (fun _ => 0))), (z6 5, .inl (κ.2.2.1, 60, .inl (fun _ => 0))), (z6 6, .inl (κ.1, 600, .inl (fun _ => 0))), (z6 7, .inl (κ.1, 600, .inl (fun _ => 0))), (z6 8, .inl (κ.2.1, 600, .inr (.inl (fun _ => 0)))), (z6 9, .inl (κ.2.1, 600, .inr (.inl (fun _ => 0)))), (q7, .inr (2, [.null, .null, .null, .null, .int 0]))] _ s H locs := hG
  refine W.widen (k := 23) (n := 2865) (by decide) (by decide) ?_
  refine lv_dup hx hb dX7_init_41 rfl ?_
  have hGc : BW D κ [(q7, .inr (2, [.null, .null, .null, .null, .int 0]))] _ s H locs := hG.at [23] (by decide) rfl
  refine bw_run (wc := [(q7, .inr (2, [.null, .null, .null, .null, .int 0]))]) (wr := [(h0, .inr (7, [.ref q1, .ref q3, .ref q5, .null, .null, .null, .null, .null, .int 0, .int 0])), (q1, .inr (0, [.ref (z2 0), .ref (z2 1), .ref (z2 2), .ref (z2 3), .ref (z2 4), .int (nI 0)])), (z2 0, .inl (κ.1, 4, .inl (fun _ => nI 1000))), (z2 1, .inl (κ.1, 10, .inl (fun _ => 0))), (z2 2, .inl (κ.1, 10, .inl (fun _ => 0))), (z2 3, .inl (κ.1, 10, .inl (fun _ => 0))), (z2 4, .inl (κ.2.2.1, 10, .inl (fun _ => 0))), (q3, .inr (1, [.ref (z4 0), .int (bI false), .int (nI 0), .int (nI 0)])), (z4 0, .inr (4, [.ref (z4 1), .ref (z4 2), .ref (z4 3), .int (nI 0)])), (z4 1, .inl (κ.1, 10, .inl (fun _ => 0))), (z4 2, .inl (κ.2.1, 10, .inr (.inl (fun _ => 0)))), (z4 3, .inl (κ.2.1, 10, .inr (.inl (fun _ => 0)))), (q5, .inr (3, [.ref (z6 0), .ref (z6 1), .ref (z6 2), .ref (z6 3), .ref (z6 4), .ref (z6 5), .int (nI 0), .ref (z6 6), .ref (z6 7), .ref (z6 8), .ref (z6 9), .int (nI 0)])), (z6 0, .inl (κ.1, 60, .inl (fun _ => 0))), (z6 1, .inl (κ.1, 60, .inl (fun _ => 0))), (z6 2, .inl (κ.1, 60, .inl (fun _ => 0))), (z6 3, .inl (κ.1, 60, .inl (fun _ => 0))), (z6 4, .inl (κ.2.2.1, 60, .inl (fun _ => 0))), (z6 5, .inl (κ.2.2.1, 60, .inl (fun _ => 0))), (z6 6, .inl (κ.1, 600, .inl (fun _ => 0))), (z6 7, .inl (κ.1, 600, .inl (fun _ => 0))), (z6 8, .inl (κ.2.1, 600, .inr (.inl (fun _ => 0)))), (z6 9, .inl (κ.2.1, 600, .inr (.inl (fun _ => 0))))]) hG [23] [0, 1, 2, 3, 4, 5, 6, 7, 8, 9, 10, 11, 12, 13, 14, 15, 16, 17, 18, 19, 20, 21, 22] rfl rfl (by decide) (by decide) (va_runIN (host := "Tollgate") (As := []) (rest := [.ref q7, .ref h0]) hC (c_init_2 l D κ H.size q7 ) ⟨va_cnB 0 hC.2.2.2.2 (fun w h => by rcases List.mem_cons.mp h with rfl | h; exact wl_in _ w86; exact wl_in _ h) rfl rfl rfl (hX (RX7, 32, yX2_init) (by decide)) (hC.2.2.2.2 _ w27) (by decide +kernel) ⟨by decide, by decide⟩, rfl, hC.2.2.2.2 _ w85⟩ ⟨fun x U g mk q => ⟨q.1, q.2.1, ⟨va_K.moved (u := U) (U := U.calling g mk x) (Vm.Alike.refl U.vm) q.2.2.1.1, q.2.2.1.2⟩, XN.same rfl q.2.2.2⟩, fun U hU hW => ⟨rfl, by rw [hU], ⟨va_K.moved hW.alike hGc.1, by rw [hU]; exact hGc.2.1, hGc.2.2.1.weaken (fun _ _ _ _ => trivial)⟩, XN.warm hW hX (by decide)⟩⟩ rfl rfl hl.1 rfl (lv_room (Nat.le_of_ble_eq_true rfl)) dX7_init_42 ⟨by decide, by decide⟩) (fun z8 H locs hG => ?_)
  have hG : BW D κ [(h0, .inr (7, [.ref q1, .ref q3, .ref q5, .null, .null, .null, .null, .null, .int 0, .int 0])), (q1, .inr (0, [.ref (z2 0), .ref (z2 1), .ref (z2 2), .ref (z2 3), .ref (z2 4), .int (nI 0)])), (z2 0, .inl (κ.1, 4, .inl (fun _ => nI 1000))), (z2 1, .inl (κ.1, 10, .inl (fun _ => 0))), (z2 2, .inl (κ.1, 10, .inl (fun _ => 0))), (z2 3, .inl (κ.1, 10, .inl (fun _ => 0))), (z2 4, .inl (κ.2.2.1, 10, .inl (fun _ => 0))), (q3, .inr (1, [.ref (z4 0), .int (bI false), .int (nI 0), .int (nI 0)])), (z4 0, .inr (4, [.ref (z4 1), .ref (z4 2), .ref (z4 3), .int (nI 0)])), (z4 1, .inl (κ.1, 10, .inl (fun _ => 0))), (z4 2, .inl (κ.2.1, 10, .inr (.inl (fun _ => 0)))), (z4 3, .inl (κ.2.1, 10, .inr (.inl (fun _ => 0)))), (q5, .inr (3, [.ref (z6 0), .ref (z6 1), .ref (z6 2), .ref (z6 3), .ref (z6 4), .ref (z6 5), .int (nI 0), .ref (z6 6), .ref (z6 7), .ref (z6 8), .ref (z6 9), .int (nI 0)])), (z6 0, .inl (κ.1, 60, .inl (fun _ => 0))), (z6 1, .inl (κ.1, 60, .inl (fun _ => 0))), (z6 2, .inl (κ.1, 60, .inl (fun _ => 0))), (z6 3, .inl (κ.1, 60, .inl (fun _ => 0))), (z6 4, .inl (κ.2.2.1, 60, .inl (fun _ => 0))), (z6 5, .inl (κ.2.2.1, 60, .inl (fun _ => 0))), (z6 6, .inl (κ.1, 600, .inl (fun _ => 0))), (z6 7, .inl (κ.1, 600, .inl (fun _ => 0))), (z6 8, .inl (κ.2.1, 600, .inr (.inl (fun _ => 0)))), (z6 9, .inl (κ.2.1, 600, .inr (.inl (fun _ => 0)))), (q7, .inr (2, [.ref (z8 0), .ref (z8 1), .ref (z8 2), .ref (z8 3), .int (nI 0)])), (z8 0, .inl (κ.1, 20, .inl (fun _ => 0))), (z8 1, .inl (κ.1, 20, .inl (fun _ => 0))), (z8 2, .inl (κ.1, 20, .inl (fun _ => 0))), (z8 3, .inl (κ.2.2.1, 20, .inl (fun _ => 0)))] _ s H locs := hG
  refine W.widen (k := 27) (n := 2945) (by decide) (by decide) ?_
  refine bw_put (C := RX7) (T := TX7) (N := 10) (ci := 7) (ty0 := tyX7) (ty := .object "Tollgate$Holds") (v := .ref q7) 3 (by decide) 0 hC hG iwX7 tyX7_ok nmX7 rfl rfl w28 rfl (Or.inr ⟨hin, rfl⟩) (by decide +kernel) rfl rfl (Nat.le_of_ble_eq_true rfl) dX7_init_45 (fun H locs hG => ?_)
  have hG : BW D κ [(h0, .inr (7, [.ref q1, .ref q3, .ref q5, .ref q7, .null, .null, .null, .null, .int 0, .int 0])), (q1, .inr (0, [.ref (z2 0), .ref (z2 1), .ref (z2 2), .ref (z2 3), .ref (z2 4), .int (nI 0)])), (z2 0, .inl (κ.1, 4, .inl (fun _ => nI 1000))), (z2 1, .inl (κ.1, 10, .inl (fun _ => 0))), (z2 2, .inl (κ.1, 10, .inl (fun _ => 0))), (z2 3, .inl (κ.1, 10, .inl (fun _ => 0))), (z2 4, .inl (κ.2.2.1, 10, .inl (fun _ => 0))), (q3, .inr (1, [.ref (z4 0), .int (bI false), .int (nI 0), .int (nI 0)])), (z4 0, .inr (4, [.ref (z4 1), .ref (z4 2), .ref (z4 3), .int (nI 0)])), (z4 1, .inl (κ.1, 10, .inl (fun _ => 0))), (z4 2, .inl (κ.2.1, 10, .inr (.inl (fun _ => 0)))), (z4 3, .inl (κ.2.1, 10, .inr (.inl (fun _ => 0)))), (q5, .inr (3, [.ref (z6 0), .ref (z6 1), .ref (z6 2), .ref (z6 3), .ref (z6 4), .ref (z6 5), .int (nI 0), .ref (z6 6), .ref (z6 7), .ref (z6 8), .ref (z6 9), .int (nI 0)])), (z6 0, .inl (κ.1, 60, .inl (fun _ => 0))), (z6 1, .inl (κ.1, 60, .inl (fun _ => 0))), (z6 2, .inl (κ.1, 60, .inl (fun _ => 0))), (z6 3, .inl (κ.1, 60, .inl (fun _ => 0))), (z6 4, .inl (κ.2.2.1, 60, .inl (fun _ => 0))), (z6 5, .inl (κ.2.2.1, 60, .inl (fun _ => 0))), (z6 6, .inl (κ.1, 600, .inl (fun _ => 0))), (z6 7, .inl (κ.1, 600, .inl (fun _ => 0))), (z6 8, .inl (κ.2.1, 600, .inr (.inl (fun _ => 0)))), (z6 9, .inl (κ.2.1, 600, .inr (.inl (fun _ => 0)))), (q7, .inr (2, [.ref (z8 0), .ref (z8 1), .ref (z8 2), .ref (z8 3), .int (nI 0)])), (z8 0, .inl (κ.1, 20, .inl (fun _ => 0))), (z8 1, .inl (κ.1, 20, .inl (fun _ => 0))), (z8 2, .inl (κ.1, 20, .inl (fun _ => 0))), (z8 3, .inl (κ.2.2.1, 20, .inl (fun _ => 0)))] _ s H locs := hG
  refine lv_aload_n hx hb dX7_init_48 rfl (lv_at hl 0 rfl) ?_
  have hk9 : 27 + 1 ≤ 44 := by decide
  have hs9 : 2945 + 5 ≤ 4514 := by decide
  refine bw_new (C := RX5) (T := TX5) (N := 5) (ci := 5) (fs := [.null, .null, .null, .null, .int 0]) hC hG iwX5 tyX5_ok w29 w30 w31 rfl (fun j hj => by rcases (show j = 0 ∨ j = 1 ∨ j = 2 ∨ j = 3 ∨ j = 4 by omega) with rfl | rfl | rfl | rfl | rfl <;> rfl) hk9 hs9 dX7_init_49 (fun q9 H hG => ?_)
  have hG : BW D κ [(h0, .inr (7, [.ref q1, .ref q3, .ref q5, .ref q7, .null, .null, .null, .null, .int 0, .int 0])), (q1, .inr (0, [.ref (z2 0), .ref (z2 1), .ref (z2 2), .ref (z2 3), .ref (z2 4), .int (nI 0)])), (z2 0, .inl (κ.1, 4, .inl (fun _ => nI 1000))), (z2 1, .inl (κ.1, 10, .inl (fun _ => 0))), (z2 2, .inl (κ.1, 10, .inl (fun _ => 0))), (z2 3, .inl (κ.1, 10, .inl (fun _ => 0))), (z2 4, .inl (κ.2.2.1, 10, .inl (fun _ => 0))), (q3, .inr (1, [.ref (z4 0), .int (bI false), .int (nI 0), .int (nI 0)])), (z4 0, .inr (4, [.ref (z4 1), .ref (z4 2), .ref (z4 3), .int (nI 0)])), (z4 1, .inl (κ.1, 10, .inl (fun _ => 0))), (z4 2, .inl (κ.2.1, 10, .inr (.inl (fun _ => 0)))), (z4 3, .inl (κ.2.1, 10, .inr (.inl (fun _ => 0)))), (q5, .inr (3, [.ref (z6 0), .ref (z6 1), .ref (z6 2), .ref (z6 3), .ref (z6 4), .ref (z6 5), .int (nI 0), .ref (z6 6), .ref (z6 7), .ref (z6 8), .ref (z6 9), .int (nI 0)])), (z6 0, .inl (κ.1, 60, .inl (fun _ => 0))), (z6 1, .inl (κ.1, 60, .inl (fun _ => 0))), (z6 2, .inl (κ.1, 60, .inl (fun _ => 0))), (z6 3, .inl (κ.1, 60, .inl (fun _ => 0))), (z6 4, .inl (κ.2.2.1, 60, .inl (fun _ => 0))), (z6 5, .inl (κ.2.2.1, 60, .inl (fun _ => 0))), (z6 6, .inl (κ.1, 600, .inl (fun _ => 0))), (z6 7, .inl (κ.1, 600, .inl (fun _ => 0))), (z6 8, .inl (κ.2.1, 600, .inr (.inl (fun _ => 0)))), (z6 9, .inl (κ.2.1, 600, .inr (.inl (fun _ => 0)))), (q7, .inr (2, [.ref (z8 0), .ref (z8 1), .ref (z8 2), .ref (z8 3), .int (nI 0)])), (z8 0, .inl (κ.1, 20, .inl (fun _ => 0))), (z8 1, .inl (κ.1, 20, .inl (fun _ => 0))), (z8 2, .inl (κ.1, 20, .inl (fun _ => 0))), (z8 3, .inl (κ.2.2.1, 20, .inl (fun _ => 0))), (q9, .inr (5, [.null, .null, .null, .null, .int 0]))] _ s H locs := hG
  refine W.widen (k := 28) (n := 2950) (by decide) (by decide) ?_
  refine lv_dup hx hb dX7_init_52 rfl ?_
  have hGc : BW D κ [(q9, .inr (5, [.null, .null, .null, .null, .int 0]))] _ s H locs := hG.at [28] (by decide) rfl
  refine bw_run (wc := [(q9, .inr (5, [.null, .null, .null, .null, .int 0]))]) (wr := [(h0, .inr (7, [.ref q1, .ref q3, .ref q5, .ref q7, .null, .null, .null, .null, .int 0, .int 0])), (q1, .inr (0, [.ref (z2 0), .ref (z2 1), .ref (z2 2), .ref (z2 3), .ref (z2 4), .int (nI 0)])), (z2 0, .inl (κ.1, 4, .inl (fun _ => nI 1000))), (z2 1, .inl (κ.1, 10, .inl (fun _ => 0))), (z2 2, .inl (κ.1, 10, .inl (fun _ => 0))), (z2 3, .inl (κ.1, 10, .inl (fun _ => 0))), (z2 4, .inl (κ.2.2.1, 10, .inl (fun _ => 0))), (q3, .inr (1, [.ref (z4 0), .int (bI false), .int (nI 0), .int (nI 0)])), (z4 0, .inr (4, [.ref (z4 1), .ref (z4 2), .ref (z4 3), .int (nI 0)])), (z4 1, .inl (κ.1, 10, .inl (fun _ => 0))), (z4 2, .inl (κ.2.1, 10, .inr (.inl (fun _ => 0)))), (z4 3, .inl (κ.2.1, 10, .inr (.inl (fun _ => 0)))), (q5, .inr (3, [.ref (z6 0), .ref (z6 1), .ref (z6 2), .ref (z6 3), .ref (z6 4), .ref (z6 5), .int (nI 0), .ref (z6 6), .ref (z6 7), .ref (z6 8), .ref (z6 9), .int (nI 0)])), (z6 0, .inl (κ.1, 60, .inl (fun _ => 0))), (z6 1, .inl (κ.1, 60, .inl (fun _ => 0))), (z6 2, .inl (κ.1, 60, .inl (fun _ => 0))), (z6 3, .inl (κ.1, 60, .inl (fun _ => 0))), (z6 4, .inl (κ.2.2.1, 60, .inl (fun _ => 0))), (z6 5, .inl (κ.2.2.1, 60, .inl (fun _ => 0))), (z6 6, .inl (κ.1, 600, .inl (fun _ => 0))), (z6 7, .inl (κ.1, 600, .inl (fun _ => 0))), (z6 8, .inl (κ.2.1, 600, .inr (.inl (fun _ => 0)))), (z6 9, .inl (κ.2.1, 600, .inr (.inl (fun _ => 0)))), (q7, .inr (2, [.ref (z8 0), .ref (z8 1), .ref (z8 2), .ref (z8 3), .int (nI 0)])), (z8 0, .inl (κ.1, 20, .inl (fun _ => 0))), (z8 1, .inl (κ.1, 20, .inl (fun _ => 0))), (z8 2, .inl (κ.1, 20, .inl (fun _ => 0))), (z8 3, .inl (κ.2.2.1, 20, .inl (fun _ => 0)))]) hG [28] [0, 1, 2, 3, 4, 5, 6, 7, 8, 9, 10, 11, 12, 13, 14, 15, 16, 17, 18, 19, 20, 21, 22, 23, 24, 25, 26, 27] rfl rfl (by decide) (by decide) (va_runIN (host := "Tollgate") (As := []) (rest := [.ref q9, .ref h0]) hC (c_init_5 l D κ H.size q9 ) ⟨va_cnB 0 hC.2.2.2.2 (fun w h => by rcases List.mem_cons.mp h with rfl | h; exact wl_in _ w94; exact wl_in _ h) rfl rfl rfl (hX (RX7, 39, yX5_init) (by decide)) (hC.2.2.2.2 _ w31) (by decide +kernel) ⟨by decide, by decide⟩, rfl, hC.2.2.2.2 _ w93⟩ ⟨fun x U g mk q => ⟨q.1, q.2.1, ⟨va_K.moved (u := U) (U := U.calling g mk x) (Vm.Alike.refl U.vm) q.2.2.1.1, q.2.2.1.2⟩, XN.same rfl q.2.2.2⟩, fun U hU hW => ⟨rfl, by rw [hU], ⟨va_K.moved hW.alike hGc.1, by rw [hU]; exact hGc.2.1, hGc.2.2.1.weaken (fun _ _ _ _ => trivial)⟩, XN.warm hW hX (by decide)⟩⟩ rfl rfl hl.1 rfl (lv_room (Nat.le_of_ble_eq_true rfl)) dX7_init_53 ⟨by decide, by decide⟩) (fun z10 H locs hG => ?_)
  have hG : BW D κ [(h0, .inr (7, [.ref q1, .ref q3, .ref q5, .ref q7, .null, .null, .null, .null, .int 0, .int 0])), (q1, .inr (0, [.ref (z2 0), .ref (z2 1), .ref (z2 2), .ref (z2 3), .ref (z2 4), .int (nI 0)])), (z2 0, .inl (κ.1, 4, .inl (fun _ => nI 1000))), (z2 1, .inl (κ.1, 10, .inl (fun _ => 0))), (z2 2, .inl (κ.1, 10, .inl (fun _ => 0))), (z2 3, .inl (κ.1, 10, .inl (fun _ => 0))), (z2 4, .inl (κ.2.2.1, 10, .inl (fun _ => 0))), (q3, .inr (1, [.ref (z4 0), .int (bI false), .int (nI 0), .int (nI 0)])), (z4 0, .inr (4, [.ref (z4 1), .ref (z4 2), .ref (z4 3), .int (nI 0)])), (z4 1, .inl (κ.1, 10, .inl (fun _ => 0))), (z4 2, .inl (κ.2.1, 10, .inr (.inl (fun _ => 0)))), (z4 3, .inl (κ.2.1, 10, .inr (.inl (fun _ => 0)))), (q5, .inr (3, [.ref (z6 0), .ref (z6 1), .ref (z6 2), .ref (z6 3), .ref (z6 4), .ref (z6 5), .int (nI 0), .ref (z6 6), .ref (z6 7), .ref (z6 8), .ref (z6 9), .int (nI 0)])), (z6 0, .inl (κ.1, 60, .inl (fun _ => 0))), (z6 1, .inl (κ.1, 60, .inl (fun _ => 0))), (z6 2, .inl (κ.1, 60, .inl (fun _ => 0))), (z6 3, .inl (κ.1, 60, .inl (fun _ => 0))), (z6 4, .inl (κ.2.2.1, 60, .inl (fun _ => 0))), (z6 5, .inl (κ.2.2.1, 60, .inl (fun _ => 0))), (z6 6, .inl (κ.1, 600, .inl (fun _ => 0))), (z6 7, .inl (κ.1, 600, .inl (fun _ => 0))), (z6 8, .inl (κ.2.1, 600, .inr (.inl (fun _ => 0)))), (z6 9, .inl (κ.2.1, 600, .inr (.inl (fun _ => 0)))), (q7, .inr (2, [.ref (z8 0), .ref (z8 1), .ref (z8 2), .ref (z8 3), .int (nI 0)])), (z8 0, .inl (κ.1, 20, .inl (fun _ => 0))), (z8 1, .inl (κ.1, 20, .inl (fun _ => 0))), (z8 2, .inl (κ.1, 20, .inl (fun _ => 0))), (z8 3, .inl (κ.2.2.1, 20, .inl (fun _ => 0))), (q9, .inr (5, [.ref (z10 0), .ref (z10 1), .ref (z10 2), .ref (z10 3), .int (nI 0)])), (z10 0, .inl (κ.1, 40, .inl (fun _ => 0))), (z10 1, .inl (κ.1, 40, .inl (fun _ => 0))), (z10 2, .inl (κ.1, 40, .inl (fun _ => 0))), (z10 3, .inl (κ.1, 40, .inl (fun _ => 0)))] _ s H locs := hG
  refine W.widen (k := 32) (n := 3110) (by decide) (by decide) ?_
  refine bw_put (C := RX7) (T := TX7) (N := 10) (ci := 7) (ty0 := tyX7) (ty := .object "Tollgate$Lines") (v := .ref q9) 4 (by decide) 0 hC hG iwX7 tyX7_ok nmX7 rfl rfl w32 rfl (Or.inr ⟨hin, rfl⟩) (by decide +kernel) rfl rfl (Nat.le_of_ble_eq_true rfl) dX7_init_56 (fun H locs hG => ?_)
  have hG : BW D κ [(h0, .inr (7, [.ref q1, .ref q3, .ref q5, .ref q7, .ref q9, .null, .null, .null, .int 0, .int 0])), (q1, .inr (0, [.ref (z2 0), .ref (z2 1), .ref (z2 2), .ref (z2 3), .ref (z2 4), .int (nI 0)])), (z2 0, .inl (κ.1, 4, .inl (fun _ => nI 1000))), (z2 1, .inl (κ.1, 10, .inl (fun _ => 0))), (z2 2, .inl (κ.1, 10, .inl (fun _ => 0))), (z2 3, .inl (κ.1, 10, .inl (fun _ => 0))), (z2 4, .inl (κ.2.2.1, 10, .inl (fun _ => 0))), (q3, .inr (1, [.ref (z4 0), .int (bI false), .int (nI 0), .int (nI 0)])), (z4 0, .inr (4, [.ref (z4 1), .ref (z4 2), .ref (z4 3), .int (nI 0)])), (z4 1, .inl (κ.1, 10, .inl (fun _ => 0))), (z4 2, .inl (κ.2.1, 10, .inr (.inl (fun _ => 0)))), (z4 3, .inl (κ.2.1, 10, .inr (.inl (fun _ => 0)))), (q5, .inr (3, [.ref (z6 0), .ref (z6 1), .ref (z6 2), .ref (z6 3), .ref (z6 4), .ref (z6 5), .int (nI 0), .ref (z6 6), .ref (z6 7), .ref (z6 8), .ref (z6 9), .int (nI 0)])), (z6 0, .inl (κ.1, 60, .inl (fun _ => 0))), (z6 1, .inl (κ.1, 60, .inl (fun _ => 0))), (z6 2, .inl (κ.1, 60, .inl (fun _ => 0))), (z6 3, .inl (κ.1, 60, .inl (fun _ => 0))), (z6 4, .inl (κ.2.2.1, 60, .inl (fun _ => 0))), (z6 5, .inl (κ.2.2.1, 60, .inl (fun _ => 0))), (z6 6, .inl (κ.1, 600, .inl (fun _ => 0))), (z6 7, .inl (κ.1, 600, .inl (fun _ => 0))), (z6 8, .inl (κ.2.1, 600, .inr (.inl (fun _ => 0)))), (z6 9, .inl (κ.2.1, 600, .inr (.inl (fun _ => 0)))), (q7, .inr (2, [.ref (z8 0), .ref (z8 1), .ref (z8 2), .ref (z8 3), .int (nI 0)])), (z8 0, .inl (κ.1, 20, .inl (fun _ => 0))), (z8 1, .inl (κ.1, 20, .inl (fun _ => 0))), (z8 2, .inl (κ.1, 20, .inl (fun _ => 0))), (z8 3, .inl (κ.2.2.1, 20, .inl (fun _ => 0))), (q9, .inr (5, [.ref (z10 0), .ref (z10 1), .ref (z10 2), .ref (z10 3), .int (nI 0)])), (z10 0, .inl (κ.1, 40, .inl (fun _ => 0))), (z10 1, .inl (κ.1, 40, .inl (fun _ => 0))), (z10 2, .inl (κ.1, 40, .inl (fun _ => 0))), (z10 3, .inl (κ.1, 40, .inl (fun _ => 0)))] _ s H locs := hG
  refine lv_aload_n hx hb dX7_init_59 rfl (lv_at hl 0 rfl) ?_
  have hk11 : 32 + 1 ≤ 44 := by decide
  have hs11 : 3110 + 5 ≤ 4514 := by decide
  refine bw_new (C := RX6) (T := TX6) (N := 5) (ci := 6) (fs := [.null, .null, .null, .null, .null]) hC hG iwX6 tyX6_ok w33 w34 w35 rfl (fun j hj => by rcases (show j = 0 ∨ j = 1 ∨ j = 2 ∨ j = 3 ∨ j = 4 by omega) with rfl | rfl | rfl | rfl | rfl <;> rfl) hk11 hs11 dX7_init_60 (fun q11 H hG => ?_)
  have hG : BW D κ [(h0, .inr (7, [.ref q1, .ref q3, .ref q5, .ref q7, .ref q9, .null, .null, .null, .int 0, .int 0])), (q1, .inr (0, [.ref (z2 0), .ref (z2 1), .ref (z2 2), .ref (z2 3), .ref (z2 4), .int (nI 0)])), (z2 0, .inl (κ.1, 4, .inl (fun _ => nI 1000))), (z2 1, .inl (κ.1, 10, .inl (fun _ => 0))), (z2 2, .inl (κ.1, 10, .inl (fun _ => 0))), (z2 3, .inl (κ.1, 10, .inl (fun _ => 0))), (z2 4, .inl (κ.2.2.1, 10, .inl (fun _ => 0))), (q3, .inr (1, [.ref (z4 0), .int (bI false), .int (nI 0), .int (nI 0)])), (z4 0, .inr (4, [.ref (z4 1), .ref (z4 2), .ref (z4 3), .int (nI 0)])), (z4 1, .inl (κ.1, 10, .inl (fun _ => 0))), (z4 2, .inl (κ.2.1, 10, .inr (.inl (fun _ => 0)))), (z4 3, .inl (κ.2.1, 10, .inr (.inl (fun _ => 0)))), (q5, .inr (3, [.ref (z6 0), .ref (z6 1), .ref (z6 2), .ref (z6 3), .ref (z6 4), .ref (z6 5), .int (nI 0), .ref (z6 6), .ref (z6 7), .ref (z6 8), .ref (z6 9), .int (nI 0)])), (z6 0, .inl (κ.1, 60, .inl (fun _ => 0))), (z6 1, .inl (κ.1, 60, .inl (fun _ => 0))), (z6 2, .inl (κ.1, 60, .inl (fun _ => 0))), (z6 3, .inl (κ.1, 60, .inl (fun _ => 0))), (z6 4, .inl (κ.2.2.1, 60, .inl (fun _ => 0))), (z6 5, .inl (κ.2.2.1, 60, .inl (fun _ => 0))), (z6 6, .inl (κ.1, 600, .inl (fun _ => 0))), (z6 7, .inl (κ.1, 600, .inl (fun _ => 0))), (z6 8, .inl (κ.2.1, 600, .inr (.inl (fun _ => 0)))), (z6 9, .inl (κ.2.1, 600, .inr (.inl (fun _ => 0)))), (q7, .inr (2, [.ref (z8 0), .ref (z8 1), .ref (z8 2), .ref (z8 3), .int (nI 0)])), (z8 0, .inl (κ.1, 20, .inl (fun _ => 0))), (z8 1, .inl (κ.1, 20, .inl (fun _ => 0))), (z8 2, .inl (κ.1, 20, .inl (fun _ => 0))), (z8 3, .inl (κ.2.2.1, 20, .inl (fun _ => 0))), (q9, .inr (5, [.ref (z10 0), .ref (z10 1), .ref (z10 2), .ref (z10 3), .int (nI 0)])), (z10 0, .inl (κ.1, 40, .inl (fun _ => 0))), (z10 1, .inl (κ.1, 40, .inl (fun _ => 0))), (z10 2, .inl (κ.1, 40, .inl (fun _ => 0))), (z10 3, .inl (κ.1, 40, .inl (fun _ => 0))), (q11, .inr (6, [.null, .null, .null, .null, .null]))] _ s H locs := hG
  refine W.widen (k := 33) (n := 3115) (by decide) (by decide) ?_
  refine lv_dup hx hb dX7_init_63 rfl ?_
  refine lv_aload_n hx hb dX7_init_64 rfl (lv_at hl 0 rfl) ?_
  refine bw_get (C := RX7) (T := TX7) (N := 10) (ci := 7) (v := .ref q5) 2 (by decide) 0 hC hG iwX7 rfl rfl w24 rfl rfl dX7_init_65 ?_
  refine lv_aload_n hx hb dX7_init_68 rfl (lv_at hl 0 rfl) ?_
  refine bw_get (C := RX7) (T := TX7) (N := 10) (ci := 7) (v := .ref q9) 4 (by decide) 0 hC hG iwX7 rfl rfl w32 rfl rfl dX7_init_69 ?_
  have hGc : BW D κ [(q11, .inr (6, [.null, .null, .null, .null, .null]))] _ s H locs := hG.at [33] (by decide) rfl
  refine bw_run (wc := [(q11, .inr (6, [.null, .null, .null, .null, .null]))]) (wr := [(h0, .inr (7, [.ref q1, .ref q3, .ref q5, .ref q7, .ref q9, .null, .null, .null, .int 0, .int 0])), (q1, .inr (0, [.ref (z2 0), .ref (z2 1), .ref (z2 2), .ref (z2 3), .ref (z2 4), .int (nI 0)])), (z2 0, .inl (κ.1, 4, .inl (fun _ => nI 1000))), (z2 1, .inl (κ.1, 10, .inl (fun _ => 0))), (z2 2, .inl (κ.1, 10, .inl (fun _ => 0))), (z2 3, .inl (κ.1, 10, .inl (fun _ => 0))), (z2 4, .inl (κ.2.2.1, 10, .inl (fun _ => 0))), (q3, .inr (1, [.ref (z4 0), .int (bI false), .int (nI 0), .int (nI 0)])), (z4 0, .inr (4, [.ref (z4 1), .ref (z4 2), .ref (z4 3), .int (nI 0)])), (z4 1, .inl (κ.1, 10, .inl (fun _ => 0))), (z4 2, .inl (κ.2.1, 10, .inr (.inl (fun _ => 0)))), (z4 3, .inl (κ.2.1, 10, .inr (.inl (fun _ => 0)))), (q5, .inr (3, [.ref (z6 0), .ref (z6 1), .ref (z6 2), .ref (z6 3), .ref (z6 4), .ref (z6 5), .int (nI 0), .ref (z6 6), .ref (z6 7), .ref (z6 8), .ref (z6 9), .int (nI 0)])), (z6 0, .inl (κ.1, 60, .inl (fun _ => 0))), (z6 1, .inl (κ.1, 60, .inl (fun _ => 0))), (z6 2, .inl (κ.1, 60, .inl (fun _ => 0))), (z6 3, .inl (κ.1, 60, .inl (fun _ => 0))), (z6 4, .inl (κ.2.2.1, 60, .inl (fun _ => 0))), (z6 5, .inl (κ.2.2.1, 60, .inl (fun _ => 0))), (z6 6, .inl (κ.1, 600, .inl (fun _ => 0))), (z6 7, .inl (κ.1, 600, .inl (fun _ => 0))), (z6 8, .inl (κ.2.1, 600, .inr (.inl (fun _ => 0)))), (z6 9, .inl (κ.2.1, 600, .inr (.inl (fun _ => 0)))), (q7, .inr (2, [.ref (z8 0), .ref (z8 1), .ref (z8 2), .ref (z8 3), .int (nI 0)])), (z8 0, .inl (κ.1, 20, .inl (fun _ => 0))), (z8 1, .inl (κ.1, 20, .inl (fun _ => 0))), (z8 2, .inl (κ.1, 20, .inl (fun _ => 0))), (z8 3, .inl (κ.2.2.1, 20, .inl (fun _ => 0))), (q9, .inr (5, [.ref (z10 0), .ref (z10 1), .ref (z10 2), .ref (z10 3), .int (nI 0)])), (z10 0, .inl (κ.1, 40, .inl (fun _ => 0))), (z10 1, .inl (κ.1, 40, .inl (fun _ => 0))), (z10 2, .inl (κ.1, 40, .inl (fun _ => 0))), (z10 3, .inl (κ.1, 40, .inl (fun _ => 0)))]) hG [33] [0, 1, 2, 3, 4, 5, 6, 7, 8, 9, 10, 11, 12, 13, 14, 15, 16, 17, 18, 19, 20, 21, 22, 23, 24, 25, 26, 27, 28, 29, 30, 31, 32] rfl rfl (by decide) (by decide) (va_runI (As := [.ref q5, .ref q9]) (rest := [.ref q11, .ref h0]) hC (c_init_6 l D κ H.size q11 q5 q9) (cwI 2 hC.2.2.2.2 (fun w h => by rcases List.mem_cons.mp h with rfl | h; exact wl_in _ w103; exact wl_in _ h) rfl rfl rfl (hC.2.2.2.2 _ w35) (hC.2.2.2.2 _ w101) (hC.2.2.2.2 _ w102) rfl (by decide +kernel) ⟨by decide, by decide⟩) ⟨fun x U g mk q => ⟨q.1, q.2.1, ⟨va_K.moved (u := U) (U := U.calling g mk x) (Vm.Alike.refl U.vm) q.2.2.1.1, q.2.2.1.2⟩, XN.same rfl q.2.2.2⟩, fun U hU hW => ⟨rfl, by rw [hU], ⟨va_K.moved hW.alike hGc.1, by rw [hU]; exact hGc.2.1, hGc.2.2.1.weaken (fun _ _ _ _ => trivial)⟩, XN.warm hW hX (by decide)⟩⟩ rfl rfl hl.1 rfl (lv_room (Nat.le_of_ble_eq_true rfl)) dX7_init_72 ⟨by decide, by decide⟩) (fun z12 H locs hG => ?_)
  have hG : BW D κ [(h0, .inr (7, [.ref q1, .ref q3, .ref q5, .ref q7, .ref q9, .null, .null, .null, .int 0, .int 0])), (q1, .inr (0, [.ref (z2 0), .ref (z2 1), .ref (z2 2), .ref (z2 3), .ref (z2 4), .int (nI 0)])), (z2 0, .inl (κ.1, 4, .inl (fun _ => nI 1000))), (z2 1, .inl (κ.1, 10, .inl (fun _ => 0))), (z2 2, .inl (κ.1, 10, .inl (fun _ => 0))), (z2 3, .inl (κ.1, 10, .inl (fun _ => 0))), (z2 4, .inl (κ.2.2.1, 10, .inl (fun _ => 0))), (q3, .inr (1, [.ref (z4 0), .int (bI false), .int (nI 0), .int (nI 0)])), (z4 0, .inr (4, [.ref (z4 1), .ref (z4 2), .ref (z4 3), .int (nI 0)])), (z4 1, .inl (κ.1, 10, .inl (fun _ => 0))), (z4 2, .inl (κ.2.1, 10, .inr (.inl (fun _ => 0)))), (z4 3, .inl (κ.2.1, 10, .inr (.inl (fun _ => 0)))), (q5, .inr (3, [.ref (z6 0), .ref (z6 1), .ref (z6 2), .ref (z6 3), .ref (z6 4), .ref (z6 5), .int (nI 0), .ref (z6 6), .ref (z6 7), .ref (z6 8), .ref (z6 9), .int (nI 0)])), (z6 0, .inl (κ.1, 60, .inl (fun _ => 0))), (z6 1, .inl (κ.1, 60, .inl (fun _ => 0))), (z6 2, .inl (κ.1, 60, .inl (fun _ => 0))), (z6 3, .inl (κ.1, 60, .inl (fun _ => 0))), (z6 4, .inl (κ.2.2.1, 60, .inl (fun _ => 0))), (z6 5, .inl (κ.2.2.1, 60, .inl (fun _ => 0))), (z6 6, .inl (κ.1, 600, .inl (fun _ => 0))), (z6 7, .inl (κ.1, 600, .inl (fun _ => 0))), (z6 8, .inl (κ.2.1, 600, .inr (.inl (fun _ => 0)))), (z6 9, .inl (κ.2.1, 600, .inr (.inl (fun _ => 0)))), (q7, .inr (2, [.ref (z8 0), .ref (z8 1), .ref (z8 2), .ref (z8 3), .int (nI 0)])), (z8 0, .inl (κ.1, 20, .inl (fun _ => 0))), (z8 1, .inl (κ.1, 20, .inl (fun _ => 0))), (z8 2, .inl (κ.1, 20, .inl (fun _ => 0))), (z8 3, .inl (κ.2.2.1, 20, .inl (fun _ => 0))), (q9, .inr (5, [.ref (z10 0), .ref (z10 1), .ref (z10 2), .ref (z10 3), .int (nI 0)])), (z10 0, .inl (κ.1, 40, .inl (fun _ => 0))), (z10 1, .inl (κ.1, 40, .inl (fun _ => 0))), (z10 2, .inl (κ.1, 40, .inl (fun _ => 0))), (z10 3, .inl (κ.1, 40, .inl (fun _ => 0))), (q11, .inr (6, [.ref q5, .ref q9, .ref (z12 0), .ref (z12 1), .ref (z12 2)])), (z12 0, .inl (κ.1, 600, .inl (fun _ => -1))), (z12 1, .inl (κ.1, 40, .inl (fun _ => -1))), (z12 2, .inl (κ.1, 40, .inl (fun _ => -1)))] _ s H locs := hG
  refine W.widen (k := 36) (n := 3795) (by decide) (by decide) ?_
  refine bw_put (C := RX7) (T := TX7) (N := 10) (ci := 7) (ty0 := tyX7) (ty := .object "Tollgate$Matching") (v := .ref q11) 5 (by decide) 0 hC hG iwX7 tyX7_ok nmX7 rfl rfl w36 rfl (Or.inr ⟨hin, rfl⟩) (by decide +kernel) rfl rfl (Nat.le_of_ble_eq_true rfl) dX7_init_75 (fun H locs hG => ?_)
  have hG : BW D κ [(h0, .inr (7, [.ref q1, .ref q3, .ref q5, .ref q7, .ref q9, .ref q11, .null, .null, .int 0, .int 0])), (q1, .inr (0, [.ref (z2 0), .ref (z2 1), .ref (z2 2), .ref (z2 3), .ref (z2 4), .int (nI 0)])), (z2 0, .inl (κ.1, 4, .inl (fun _ => nI 1000))), (z2 1, .inl (κ.1, 10, .inl (fun _ => 0))), (z2 2, .inl (κ.1, 10, .inl (fun _ => 0))), (z2 3, .inl (κ.1, 10, .inl (fun _ => 0))), (z2 4, .inl (κ.2.2.1, 10, .inl (fun _ => 0))), (q3, .inr (1, [.ref (z4 0), .int (bI false), .int (nI 0), .int (nI 0)])), (z4 0, .inr (4, [.ref (z4 1), .ref (z4 2), .ref (z4 3), .int (nI 0)])), (z4 1, .inl (κ.1, 10, .inl (fun _ => 0))), (z4 2, .inl (κ.2.1, 10, .inr (.inl (fun _ => 0)))), (z4 3, .inl (κ.2.1, 10, .inr (.inl (fun _ => 0)))), (q5, .inr (3, [.ref (z6 0), .ref (z6 1), .ref (z6 2), .ref (z6 3), .ref (z6 4), .ref (z6 5), .int (nI 0), .ref (z6 6), .ref (z6 7), .ref (z6 8), .ref (z6 9), .int (nI 0)])), (z6 0, .inl (κ.1, 60, .inl (fun _ => 0))), (z6 1, .inl (κ.1, 60, .inl (fun _ => 0))), (z6 2, .inl (κ.1, 60, .inl (fun _ => 0))), (z6 3, .inl (κ.1, 60, .inl (fun _ => 0))), (z6 4, .inl (κ.2.2.1, 60, .inl (fun _ => 0))), (z6 5, .inl (κ.2.2.1, 60, .inl (fun _ => 0))), (z6 6, .inl (κ.1, 600, .inl (fun _ => 0))), (z6 7, .inl (κ.1, 600, .inl (fun _ => 0))), (z6 8, .inl (κ.2.1, 600, .inr (.inl (fun _ => 0)))), (z6 9, .inl (κ.2.1, 600, .inr (.inl (fun _ => 0)))), (q7, .inr (2, [.ref (z8 0), .ref (z8 1), .ref (z8 2), .ref (z8 3), .int (nI 0)])), (z8 0, .inl (κ.1, 20, .inl (fun _ => 0))), (z8 1, .inl (κ.1, 20, .inl (fun _ => 0))), (z8 2, .inl (κ.1, 20, .inl (fun _ => 0))), (z8 3, .inl (κ.2.2.1, 20, .inl (fun _ => 0))), (q9, .inr (5, [.ref (z10 0), .ref (z10 1), .ref (z10 2), .ref (z10 3), .int (nI 0)])), (z10 0, .inl (κ.1, 40, .inl (fun _ => 0))), (z10 1, .inl (κ.1, 40, .inl (fun _ => 0))), (z10 2, .inl (κ.1, 40, .inl (fun _ => 0))), (z10 3, .inl (κ.1, 40, .inl (fun _ => 0))), (q11, .inr (6, [.ref q5, .ref q9, .ref (z12 0), .ref (z12 1), .ref (z12 2)])), (z12 0, .inl (κ.1, 600, .inl (fun _ => -1))), (z12 1, .inl (κ.1, 40, .inl (fun _ => -1))), (z12 2, .inl (κ.1, 40, .inl (fun _ => -1)))] _ s H locs := hG
  refine lv_aload_n hx hb dX7_init_78 rfl (lv_at hl 0 rfl) ?_
  have hk13 : 36 + 1 ≤ 44 := by decide
  have hs13 : 3795 + 5 ≤ 4514 := by decide
  refine bw_new (C := RX6) (T := TX6) (N := 5) (ci := 6) (fs := [.null, .null, .null, .null, .null]) hC hG iwX6 tyX6_ok w33 w34 w35 rfl (fun j hj => by rcases (show j = 0 ∨ j = 1 ∨ j = 2 ∨ j = 3 ∨ j = 4 by omega) with rfl | rfl | rfl | rfl | rfl <;> rfl) hk13 hs13 dX7_init_79 (fun q13 H hG => ?_)
  have hG : BW D κ [(h0, .inr (7, [.ref q1, .ref q3, .ref q5, .ref q7, .ref q9, .ref q11, .null, .null, .int 0, .int 0])), (q1, .inr (0, [.ref (z2 0), .ref (z2 1), .ref (z2 2), .ref (z2 3), .ref (z2 4), .int (nI 0)])), (z2 0, .inl (κ.1, 4, .inl (fun _ => nI 1000))), (z2 1, .inl (κ.1, 10, .inl (fun _ => 0))), (z2 2, .inl (κ.1, 10, .inl (fun _ => 0))), (z2 3, .inl (κ.1, 10, .inl (fun _ => 0))), (z2 4, .inl (κ.2.2.1, 10, .inl (fun _ => 0))), (q3, .inr (1, [.ref (z4 0), .int (bI false), .int (nI 0), .int (nI 0)])), (z4 0, .inr (4, [.ref (z4 1), .ref (z4 2), .ref (z4 3), .int (nI 0)])), (z4 1, .inl (κ.1, 10, .inl (fun _ => 0))), (z4 2, .inl (κ.2.1, 10, .inr (.inl (fun _ => 0)))), (z4 3, .inl (κ.2.1, 10, .inr (.inl (fun _ => 0)))), (q5, .inr (3, [.ref (z6 0), .ref (z6 1), .ref (z6 2), .ref (z6 3), .ref (z6 4), .ref (z6 5), .int (nI 0), .ref (z6 6), .ref (z6 7), .ref (z6 8), .ref (z6 9), .int (nI 0)])), (z6 0, .inl (κ.1, 60, .inl (fun _ => 0))), (z6 1, .inl (κ.1, 60, .inl (fun _ => 0))), (z6 2, .inl (κ.1, 60, .inl (fun _ => 0))), (z6 3, .inl (κ.1, 60, .inl (fun _ => 0))), (z6 4, .inl (κ.2.2.1, 60, .inl (fun _ => 0))), (z6 5, .inl (κ.2.2.1, 60, .inl (fun _ => 0))), (z6 6, .inl (κ.1, 600, .inl (fun _ => 0))), (z6 7, .inl (κ.1, 600, .inl (fun _ => 0))), (z6 8, .inl (κ.2.1, 600, .inr (.inl (fun _ => 0)))), (z6 9, .inl (κ.2.1, 600, .inr (.inl (fun _ => 0)))), (q7, .inr (2, [.ref (z8 0), .ref (z8 1), .ref (z8 2), .ref (z8 3), .int (nI 0)])), (z8 0, .inl (κ.1, 20, .inl (fun _ => 0))), (z8 1, .inl (κ.1, 20, .inl (fun _ => 0))), (z8 2, .inl (κ.1, 20, .inl (fun _ => 0))), (z8 3, .inl (κ.2.2.1, 20, .inl (fun _ => 0))), (q9, .inr (5, [.ref (z10 0), .ref (z10 1), .ref (z10 2), .ref (z10 3), .int (nI 0)])), (z10 0, .inl (κ.1, 40, .inl (fun _ => 0))), (z10 1, .inl (κ.1, 40, .inl (fun _ => 0))), (z10 2, .inl (κ.1, 40, .inl (fun _ => 0))), (z10 3, .inl (κ.1, 40, .inl (fun _ => 0))), (q11, .inr (6, [.ref q5, .ref q9, .ref (z12 0), .ref (z12 1), .ref (z12 2)])), (z12 0, .inl (κ.1, 600, .inl (fun _ => -1))), (z12 1, .inl (κ.1, 40, .inl (fun _ => -1))), (z12 2, .inl (κ.1, 40, .inl (fun _ => -1))), (q13, .inr (6, [.null, .null, .null, .null, .null]))] _ s H locs := hG
  refine W.widen (k := 37) (n := 3800) (by decide) (by decide) ?_
  refine lv_dup hx hb dX7_init_82 rfl ?_
  refine lv_aload_n hx hb dX7_init_83 rfl (lv_at hl 0 rfl) ?_
  refine bw_get (C := RX7) (T := TX7) (N := 10) (ci := 7) (v := .ref q5) 2 (by decide) 0 hC hG iwX7 rfl rfl w24 rfl rfl dX7_init_84 ?_
  refine lv_aload_n hx hb dX7_init_87 rfl (lv_at hl 0 rfl) ?_
  refine bw_get (C := RX7) (T := TX7) (N := 10) (ci := 7) (v := .ref q9) 4 (by decide) 0 hC hG iwX7 rfl rfl w32 rfl rfl dX7_init_88 ?_
  have hGc : BW D κ [(q13, .inr (6, [.null, .null, .null, .null, .null]))] _ s H locs := hG.at [37] (by decide) rfl
  refine bw_run (wc := [(q13, .inr (6, [.null, .null, .null, .null, .null]))]) (wr := [(h0, .inr (7, [.ref q1, .ref q3, .ref q5, .ref q7, .ref q9, .ref q11, .null, .null, .int 0, .int 0])), (q1, .inr (0, [.ref (z2 0), .ref (z2 1), .ref (z2 2), .ref (z2 3), .ref (z2 4), .int (nI 0)])), (z2 0, .inl (κ.1, 4, .inl (fun _ => nI 1000))), (z2 1, .inl (κ.1, 10, .inl (fun _ => 0))), (z2 2, .inl (κ.1, 10, .inl (fun _ => 0))), (z2 3, .inl (κ.1, 10, .inl (fun _ => 0))), (z2 4, .inl (κ.2.2.1, 10, .inl (fun _ => 0))), (q3, .inr (1, [.ref (z4 0), .int (bI false), .int (nI 0), .int (nI 0)])), (z4 0, .inr (4, [.ref (z4 1), .ref (z4 2), .ref (z4 3), .int (nI 0)])), (z4 1, .inl (κ.1, 10, .inl (fun _ => 0))), (z4 2, .inl (κ.2.1, 10, .inr (.inl (fun _ => 0)))), (z4 3, .inl (κ.2.1, 10, .inr (.inl (fun _ => 0)))), (q5, .inr (3, [.ref (z6 0), .ref (z6 1), .ref (z6 2), .ref (z6 3), .ref (z6 4), .ref (z6 5), .int (nI 0), .ref (z6 6), .ref (z6 7), .ref (z6 8), .ref (z6 9), .int (nI 0)])), (z6 0, .inl (κ.1, 60, .inl (fun _ => 0))), (z6 1, .inl (κ.1, 60, .inl (fun _ => 0))), (z6 2, .inl (κ.1, 60, .inl (fun _ => 0))), (z6 3, .inl (κ.1, 60, .inl (fun _ => 0))), (z6 4, .inl (κ.2.2.1, 60, .inl (fun _ => 0))), (z6 5, .inl (κ.2.2.1, 60, .inl (fun _ => 0))), (z6 6, .inl (κ.1, 600, .inl (fun _ => 0))), (z6 7, .inl (κ.1, 600, .inl (fun _ => 0))), (z6 8, .inl (κ.2.1, 600, .inr (.inl (fun _ => 0)))), (z6 9, .inl (κ.2.1, 600, .inr (.inl (fun _ => 0)))), (q7, .inr (2, [.ref (z8 0), .ref (z8 1), .ref (z8 2), .ref (z8 3), .int (nI 0)])), (z8 0, .inl (κ.1, 20, .inl (fun _ => 0))), (z8 1, .inl (κ.1, 20, .inl (fun _ => 0))), (z8 2, .inl (κ.1, 20, .inl (fun _ => 0))), (z8 3, .inl (κ.2.2.1, 20, .inl (fun _ => 0))), (q9, .inr (5, [.ref (z10 0), .ref (z10 1), .ref (z10 2), .ref (z10 3), .int (nI 0)])), (z10 0, .inl (κ.1, 40, .inl (fun _ => 0))), (z10 1, .inl (κ.1, 40, .inl (fun _ => 0))), (z10 2, .inl (κ.1, 40, .inl (fun _ => 0))), (z10 3, .inl (κ.1, 40, .inl (fun _ => 0))), (q11, .inr (6, [.ref q5, .ref q9, .ref (z12 0), .ref (z12 1), .ref (z12 2)])), (z12 0, .inl (κ.1, 600, .inl (fun _ => -1))), (z12 1, .inl (κ.1, 40, .inl (fun _ => -1))), (z12 2, .inl (κ.1, 40, .inl (fun _ => -1)))]) hG [37] [0, 1, 2, 3, 4, 5, 6, 7, 8, 9, 10, 11, 12, 13, 14, 15, 16, 17, 18, 19, 20, 21, 22, 23, 24, 25, 26, 27, 28, 29, 30, 31, 32, 33, 34, 35, 36] rfl rfl (by decide) (by decide) (va_runI (As := [.ref q5, .ref q9]) (rest := [.ref q13, .ref h0]) hC (c_init_6 l D κ H.size q13 q5 q9) (cwI 2 hC.2.2.2.2 (fun w h => by rcases List.mem_cons.mp h with rfl | h; exact wl_in _ w103; exact wl_in _ h) rfl rfl rfl (hC.2.2.2.2 _ w35) (hC.2.2.2.2 _ w101) (hC.2.2.2.2 _ w102) rfl (by decide +kernel) ⟨by decide, by decide⟩) ⟨fun x U g mk q => ⟨q.1, q.2.1, ⟨va_K.moved (u := U) (U := U.calling g mk x) (Vm.Alike.refl U.vm) q.2.2.1.1, q.2.2.1.2⟩, XN.same rfl q.2.2.2⟩, fun U hU hW => ⟨rfl, by rw [hU], ⟨va_K.moved hW.alike hGc.1, by rw [hU]; exact hGc.2.1, hGc.2.2.1.weaken (fun _ _ _ _ => trivial)⟩, XN.warm hW hX (by decide)⟩⟩ rfl rfl hl.1 rfl (lv_room (Nat.le_of_ble_eq_true rfl)) dX7_init_91 ⟨by decide, by decide⟩) (fun z14 H locs hG => ?_)
  have hG : BW D κ [(h0, .inr (7, [.ref q1, .ref q3, .ref q5, .ref q7, .ref q9, .ref q11, .null, .null, .int 0, .int 0])), (q1, .inr (0, [.ref (z2 0), .ref (z2 1), .ref (z2 2), .ref (z2 3), .ref (z2 4), .int (nI 0)])), (z2 0, .inl (κ.1, 4, .inl (fun _ => nI 1000))), (z2 1, .inl (κ.1, 10, .inl (fun _ => 0))), (z2 2, .inl (κ.1, 10, .inl (fun _ => 0))), (z2 3, .inl (κ.1, 10, .inl (fun _ => 0))), (z2 4, .inl (κ.2.2.1, 10, .inl (fun _ => 0))), (q3, .inr (1, [.ref (z4 0), .int (bI false), .int (nI 0), .int (nI 0)])), (z4 0, .inr (4, [.ref (z4 1), .ref (z4 2), .ref (z4 3), .int (nI 0)])), (z4 1, .inl (κ.1, 10, .inl (fun _ => 0))), (z4 2, .inl (κ.2.1, 10, .inr (.inl (fun _ => 0)))), (z4 3, .inl (κ.2.1, 10, .inr (.inl (fun _ => 0)))), (q5, .inr (3, [.ref (z6 0), .ref (z6 1), .ref (z6 2), .ref (z6 3), .ref (z6 4), .ref (z6 5), .int (nI 0), .ref (z6 6), .ref (z6 7), .ref (z6 8), .ref (z6 9), .int (nI 0)])), (z6 0, .inl (κ.1, 60, .inl (fun _ => 0))), (z6 1, .inl (κ.1, 60, .inl (fun _ => 0))), (z6 2, .inl (κ.1, 60, .inl (fun _ => 0))), (z6 3, .inl (κ.1, 60, .inl (fun _ => 0))), (z6 4, .inl (κ.2.2.1, 60, .inl (fun _ => 0))), (z6 5, .inl (κ.2.2.1, 60, .inl (fun _ => 0))), (z6 6, .inl (κ.1, 600, .inl (fun _ => 0))), (z6 7, .inl (κ.1, 600, .inl (fun _ => 0))), (z6 8, .inl (κ.2.1, 600, .inr (.inl (fun _ => 0)))), (z6 9, .inl (κ.2.1, 600, .inr (.inl (fun _ => 0)))), (q7, .inr (2, [.ref (z8 0), .ref (z8 1), .ref (z8 2), .ref (z8 3), .int (nI 0)])), (z8 0, .inl (κ.1, 20, .inl (fun _ => 0))), (z8 1, .inl (κ.1, 20, .inl (fun _ => 0))), (z8 2, .inl (κ.1, 20, .inl (fun _ => 0))), (z8 3, .inl (κ.2.2.1, 20, .inl (fun _ => 0))), (q9, .inr (5, [.ref (z10 0), .ref (z10 1), .ref (z10 2), .ref (z10 3), .int (nI 0)])), (z10 0, .inl (κ.1, 40, .inl (fun _ => 0))), (z10 1, .inl (κ.1, 40, .inl (fun _ => 0))), (z10 2, .inl (κ.1, 40, .inl (fun _ => 0))), (z10 3, .inl (κ.1, 40, .inl (fun _ => 0))), (q11, .inr (6, [.ref q5, .ref q9, .ref (z12 0), .ref (z12 1), .ref (z12 2)])), (z12 0, .inl (κ.1, 600, .inl (fun _ => -1))), (z12 1, .inl (κ.1, 40, .inl (fun _ => -1))), (z12 2, .inl (κ.1, 40, .inl (fun _ => -1))), (q13, .inr (6, [.ref q5, .ref q9, .ref (z14 0), .ref (z14 1), .ref (z14 2)])), (z14 0, .inl (κ.1, 600, .inl (fun _ => -1))), (z14 1, .inl (κ.1, 40, .inl (fun _ => -1))), (z14 2, .inl (κ.1, 40, .inl (fun _ => -1)))] _ s H locs := hG
  refine W.widen (k := 40) (n := 4480) (by decide) (by decide) ?_
  refine bw_put (C := RX7) (T := TX7) (N := 10) (ci := 7) (ty0 := tyX7) (ty := .object "Tollgate$Matching") (v := .ref q13) 6 (by decide) 0 hC hG iwX7 tyX7_ok nmX7 rfl rfl w37 rfl (Or.inr ⟨hin, rfl⟩) (by decide +kernel) rfl rfl (Nat.le_of_ble_eq_true rfl) dX7_init_94 (fun H locs hG => ?_)
  have hG : BW D κ [(h0, .inr (7, [.ref q1, .ref q3, .ref q5, .ref q7, .ref q9, .ref q11, .ref q13, .null, .int 0, .int 0])), (q1, .inr (0, [.ref (z2 0), .ref (z2 1), .ref (z2 2), .ref (z2 3), .ref (z2 4), .int (nI 0)])), (z2 0, .inl (κ.1, 4, .inl (fun _ => nI 1000))), (z2 1, .inl (κ.1, 10, .inl (fun _ => 0))), (z2 2, .inl (κ.1, 10, .inl (fun _ => 0))), (z2 3, .inl (κ.1, 10, .inl (fun _ => 0))), (z2 4, .inl (κ.2.2.1, 10, .inl (fun _ => 0))), (q3, .inr (1, [.ref (z4 0), .int (bI false), .int (nI 0), .int (nI 0)])), (z4 0, .inr (4, [.ref (z4 1), .ref (z4 2), .ref (z4 3), .int (nI 0)])), (z4 1, .inl (κ.1, 10, .inl (fun _ => 0))), (z4 2, .inl (κ.2.1, 10, .inr (.inl (fun _ => 0)))), (z4 3, .inl (κ.2.1, 10, .inr (.inl (fun _ => 0)))), (q5, .inr (3, [.ref (z6 0), .ref (z6 1), .ref (z6 2), .ref (z6 3), .ref (z6 4), .ref (z6 5), .int (nI 0), .ref (z6 6), .ref (z6 7), .ref (z6 8), .ref (z6 9), .int (nI 0)])), (z6 0, .inl (κ.1, 60, .inl (fun _ => 0))), (z6 1, .inl (κ.1, 60, .inl (fun _ => 0))), (z6 2, .inl (κ.1, 60, .inl (fun _ => 0))), (z6 3, .inl (κ.1, 60, .inl (fun _ => 0))), (z6 4, .inl (κ.2.2.1, 60, .inl (fun _ => 0))), (z6 5, .inl (κ.2.2.1, 60, .inl (fun _ => 0))), (z6 6, .inl (κ.1, 600, .inl (fun _ => 0))), (z6 7, .inl (κ.1, 600, .inl (fun _ => 0))), (z6 8, .inl (κ.2.1, 600, .inr (.inl (fun _ => 0)))), (z6 9, .inl (κ.2.1, 600, .inr (.inl (fun _ => 0)))), (q7, .inr (2, [.ref (z8 0), .ref (z8 1), .ref (z8 2), .ref (z8 3), .int (nI 0)])), (z8 0, .inl (κ.1, 20, .inl (fun _ => 0))), (z8 1, .inl (κ.1, 20, .inl (fun _ => 0))), (z8 2, .inl (κ.1, 20, .inl (fun _ => 0))), (z8 3, .inl (κ.2.2.1, 20, .inl (fun _ => 0))), (q9, .inr (5, [.ref (z10 0), .ref (z10 1), .ref (z10 2), .ref (z10 3), .int (nI 0)])), (z10 0, .inl (κ.1, 40, .inl (fun _ => 0))), (z10 1, .inl (κ.1, 40, .inl (fun _ => 0))), (z10 2, .inl (κ.1, 40, .inl (fun _ => 0))), (z10 3, .inl (κ.1, 40, .inl (fun _ => 0))), (q11, .inr (6, [.ref q5, .ref q9, .ref (z12 0), .ref (z12 1), .ref (z12 2)])), (z12 0, .inl (κ.1, 600, .inl (fun _ => -1))), (z12 1, .inl (κ.1, 40, .inl (fun _ => -1))), (z12 2, .inl (κ.1, 40, .inl (fun _ => -1))), (q13, .inr (6, [.ref q5, .ref q9, .ref (z14 0), .ref (z14 1), .ref (z14 2)])), (z14 0, .inl (κ.1, 600, .inl (fun _ => -1))), (z14 1, .inl (κ.1, 40, .inl (fun _ => -1))), (z14 2, .inl (κ.1, 40, .inl (fun _ => -1)))] _ s H locs := hG
  refine lv_aload_n hx hb dX7_init_97 rfl (lv_at hl 0 rfl) ?_
  have hk15 : 40 + 1 ≤ 44 := by decide
  have hs15 : 4480 + 4 ≤ 4514 := by decide
  refine bw_new (C := RX4) (T := TX4) (N := 4) (ci := 4) (fs := [.null, .null, .null, .int 0]) hC hG iwX4 tyX4_ok w38 w39 w40 rfl (fun j hj => by rcases (show j = 0 ∨ j = 1 ∨ j = 2 ∨ j = 3 by omega) with rfl | rfl | rfl | rfl <;> rfl) hk15 hs15 dX7_init_98 (fun q15 H hG => ?_)
  have hG : BW D κ [(h0, .inr (7, [.ref q1, .ref q3, .ref q5, .ref q7, .ref q9, .ref q11, .ref q13, .null, .int 0, .int 0])), (q1, .inr (0, [.ref (z2 0), .ref (z2 1), .ref (z2 2), .ref (z2 3), .ref (z2 4), .int (nI 0)])), (z2 0, .inl (κ.1, 4, .inl (fun _ => nI 1000))), (z2 1, .inl (κ.1, 10, .inl (fun _ => 0))), (z2 2, .inl (κ.1, 10, .inl (fun _ => 0))), (z2 3, .inl (κ.1, 10, .inl (fun _ => 0))), (z2 4, .inl (κ.2.2.1, 10, .inl (fun _ => 0))), (q3, .inr (1, [.ref (z4 0), .int (bI false), .int (nI 0), .int (nI 0)])), (z4 0, .inr (4, [.ref (z4 1), .ref (z4 2), .ref (z4 3), .int (nI 0)])), (z4 1, .inl (κ.1, 10, .inl (fun _ => 0))), (z4 2, .inl (κ.2.1, 10, .inr (.inl (fun _ => 0)))), (z4 3, .inl (κ.2.1, 10, .inr (.inl (fun _ => 0)))), (q5, .inr (3, [.ref (z6 0), .ref (z6 1), .ref (z6 2), .ref (z6 3), .ref (z6 4), .ref (z6 5), .int (nI 0), .ref (z6 6), .ref (z6 7), .ref (z6 8), .ref (z6 9), .int (nI 0)])), (z6 0, .inl (κ.1, 60, .inl (fun _ => 0))), (z6 1, .inl (κ.1, 60, .inl (fun _ => 0))), (z6 2, .inl (κ.1, 60, .inl (fun _ => 0))), (z6 3, .inl (κ.1, 60, .inl (fun _ => 0))), (z6 4, .inl (κ.2.2.1, 60, .inl (fun _ => 0))), (z6 5, .inl (κ.2.2.1, 60, .inl (fun _ => 0))), (z6 6, .inl (κ.1, 600, .inl (fun _ => 0))), (z6 7, .inl (κ.1, 600, .inl (fun _ => 0))), (z6 8, .inl (κ.2.1, 600, .inr (.inl (fun _ => 0)))), (z6 9, .inl (κ.2.1, 600, .inr (.inl (fun _ => 0)))), (q7, .inr (2, [.ref (z8 0), .ref (z8 1), .ref (z8 2), .ref (z8 3), .int (nI 0)])), (z8 0, .inl (κ.1, 20, .inl (fun _ => 0))), (z8 1, .inl (κ.1, 20, .inl (fun _ => 0))), (z8 2, .inl (κ.1, 20, .inl (fun _ => 0))), (z8 3, .inl (κ.2.2.1, 20, .inl (fun _ => 0))), (q9, .inr (5, [.ref (z10 0), .ref (z10 1), .ref (z10 2), .ref (z10 3), .int (nI 0)])), (z10 0, .inl (κ.1, 40, .inl (fun _ => 0))), (z10 1, .inl (κ.1, 40, .inl (fun _ => 0))), (z10 2, .inl (κ.1, 40, .inl (fun _ => 0))), (z10 3, .inl (κ.1, 40, .inl (fun _ => 0))), (q11, .inr (6, [.ref q5, .ref q9, .ref (z12 0), .ref (z12 1), .ref (z12 2)])), (z12 0, .inl (κ.1, 600, .inl (fun _ => -1))), (z12 1, .inl (κ.1, 40, .inl (fun _ => -1))), (z12 2, .inl (κ.1, 40, .inl (fun _ => -1))), (q13, .inr (6, [.ref q5, .ref q9, .ref (z14 0), .ref (z14 1), .ref (z14 2)])), (z14 0, .inl (κ.1, 600, .inl (fun _ => -1))), (z14 1, .inl (κ.1, 40, .inl (fun _ => -1))), (z14 2, .inl (κ.1, 40, .inl (fun _ => -1))), (q15, .inr (4, [.null, .null, .null, .int 0]))] _ s H locs := hG
  refine W.widen (k := 41) (n := 4484) (by decide) (by decide) ?_
  refine lv_dup hx hb dX7_init_101 rfl ?_
  have hGc : BW D κ [(q15, .inr (4, [.null, .null, .null, .int 0]))] _ s H locs := hG.at [41] (by decide) rfl
  refine bw_run (wc := [(q15, .inr (4, [.null, .null, .null, .int 0]))]) (wr := [(h0, .inr (7, [.ref q1, .ref q3, .ref q5, .ref q7, .ref q9, .ref q11, .ref q13, .null, .int 0, .int 0])), (q1, .inr (0, [.ref (z2 0), .ref (z2 1), .ref (z2 2), .ref (z2 3), .ref (z2 4), .int (nI 0)])), (z2 0, .inl (κ.1, 4, .inl (fun _ => nI 1000))), (z2 1, .inl (κ.1, 10, .inl (fun _ => 0))), (z2 2, .inl (κ.1, 10, .inl (fun _ => 0))), (z2 3, .inl (κ.1, 10, .inl (fun _ => 0))), (z2 4, .inl (κ.2.2.1, 10, .inl (fun _ => 0))), (q3, .inr (1, [.ref (z4 0), .int (bI false), .int (nI 0), .int (nI 0)])), (z4 0, .inr (4, [.ref (z4 1), .ref (z4 2), .ref (z4 3), .int (nI 0)])), (z4 1, .inl (κ.1, 10, .inl (fun _ => 0))), (z4 2, .inl (κ.2.1, 10, .inr (.inl (fun _ => 0)))), (z4 3, .inl (κ.2.1, 10, .inr (.inl (fun _ => 0)))), (q5, .inr (3, [.ref (z6 0), .ref (z6 1), .ref (z6 2), .ref (z6 3), .ref (z6 4), .ref (z6 5), .int (nI 0), .ref (z6 6), .ref (z6 7), .ref (z6 8), .ref (z6 9), .int (nI 0)])), (z6 0, .inl (κ.1, 60, .inl (fun _ => 0))), (z6 1, .inl (κ.1, 60, .inl (fun _ => 0))), (z6 2, .inl (κ.1, 60, .inl (fun _ => 0))), (z6 3, .inl (κ.1, 60, .inl (fun _ => 0))), (z6 4, .inl (κ.2.2.1, 60, .inl (fun _ => 0))), (z6 5, .inl (κ.2.2.1, 60, .inl (fun _ => 0))), (z6 6, .inl (κ.1, 600, .inl (fun _ => 0))), (z6 7, .inl (κ.1, 600, .inl (fun _ => 0))), (z6 8, .inl (κ.2.1, 600, .inr (.inl (fun _ => 0)))), (z6 9, .inl (κ.2.1, 600, .inr (.inl (fun _ => 0)))), (q7, .inr (2, [.ref (z8 0), .ref (z8 1), .ref (z8 2), .ref (z8 3), .int (nI 0)])), (z8 0, .inl (κ.1, 20, .inl (fun _ => 0))), (z8 1, .inl (κ.1, 20, .inl (fun _ => 0))), (z8 2, .inl (κ.1, 20, .inl (fun _ => 0))), (z8 3, .inl (κ.2.2.1, 20, .inl (fun _ => 0))), (q9, .inr (5, [.ref (z10 0), .ref (z10 1), .ref (z10 2), .ref (z10 3), .int (nI 0)])), (z10 0, .inl (κ.1, 40, .inl (fun _ => 0))), (z10 1, .inl (κ.1, 40, .inl (fun _ => 0))), (z10 2, .inl (κ.1, 40, .inl (fun _ => 0))), (z10 3, .inl (κ.1, 40, .inl (fun _ => 0))), (q11, .inr (6, [.ref q5, .ref q9, .ref (z12 0), .ref (z12 1), .ref (z12 2)])), (z12 0, .inl (κ.1, 600, .inl (fun _ => -1))), (z12 1, .inl (κ.1, 40, .inl (fun _ => -1))), (z12 2, .inl (κ.1, 40, .inl (fun _ => -1))), (q13, .inr (6, [.ref q5, .ref q9, .ref (z14 0), .ref (z14 1), .ref (z14 2)])), (z14 0, .inl (κ.1, 600, .inl (fun _ => -1))), (z14 1, .inl (κ.1, 40, .inl (fun _ => -1))), (z14 2, .inl (κ.1, 40, .inl (fun _ => -1)))]) hG [41] [0, 1, 2, 3, 4, 5, 6, 7, 8, 9, 10, 11, 12, 13, 14, 15, 16, 17, 18, 19, 20, 21, 22, 23, 24, 25, 26, 27, 28, 29, 30, 31, 32, 33, 34, 35, 36, 37, 38, 39, 40] rfl rfl (by decide) (by decide) (va_runIN (host := "Tollgate") (As := []) (rest := [.ref q15, .ref h0]) hC (c_init_4 l D κ H.size q15 ) ⟨va_cnB 0 hC.2.2.2.2 (fun w h => by rcases List.mem_cons.mp h with rfl | h; exact wl_in _ w64; exact wl_in _ h) rfl rfl rfl (hX (RX7, 58, yX4_init) (by decide)) (hC.2.2.2.2 _ w40) (by decide +kernel) ⟨by decide, by decide⟩, rfl, hC.2.2.2.2 _ w63⟩ ⟨fun x U g mk q => ⟨q.1, q.2.1, ⟨va_K.moved (u := U) (U := U.calling g mk x) (Vm.Alike.refl U.vm) q.2.2.1.1, q.2.2.1.2⟩, XN.same rfl q.2.2.2⟩, fun U hU hW => ⟨rfl, by rw [hU], ⟨va_K.moved hW.alike hGc.1, by rw [hU]; exact hGc.2.1, hGc.2.2.1.weaken (fun _ _ _ _ => trivial)⟩, XN.warm hW hX (by decide)⟩⟩ rfl rfl hl.1 rfl (lv_room (Nat.le_of_ble_eq_true rfl)) dX7_init_102 ⟨by decide, by decide⟩) (fun z16 H locs hG => ?_)
  have hG : BW D κ [(h0, .inr (7, [.ref q1, .ref q3, .ref q5, .ref q7, .ref q9, .ref q11, .ref q13, .null, .int 0, .int 0])), (q1, .inr (0, [.ref (z2 0), .ref (z2 1), .ref (z2 2), .ref (z2 3), .ref (z2 4), .int (nI 0)])), (z2 0, .inl (κ.1, 4, .inl (fun _ => nI 1000))), (z2 1, .inl (κ.1, 10, .inl (fun _ => 0))), (z2 2, .inl (κ.1, 10, .inl (fun _ => 0))), (z2 3, .inl (κ.1, 10, .inl (fun _ => 0))), (z2 4, .inl (κ.2.2.1, 10, .inl (fun _ => 0))), (q3, .inr (1, [.ref (z4 0), .int (bI false), .int (nI 0), .int (nI 0)])), (z4 0, .inr (4, [.ref (z4 1), .ref (z4 2), .ref (z4 3), .int (nI 0)])), (z4 1, .inl (κ.1, 10, .inl (fun _ => 0))), (z4 2, .inl (κ.2.1, 10, .inr (.inl (fun _ => 0)))), (z4 3, .inl (κ.2.1, 10, .inr (.inl (fun _ => 0)))), (q5, .inr (3, [.ref (z6 0), .ref (z6 1), .ref (z6 2), .ref (z6 3), .ref (z6 4), .ref (z6 5), .int (nI 0), .ref (z6 6), .ref (z6 7), .ref (z6 8), .ref (z6 9), .int (nI 0)])), (z6 0, .inl (κ.1, 60, .inl (fun _ => 0))), (z6 1, .inl (κ.1, 60, .inl (fun _ => 0))), (z6 2, .inl (κ.1, 60, .inl (fun _ => 0))), (z6 3, .inl (κ.1, 60, .inl (fun _ => 0))), (z6 4, .inl (κ.2.2.1, 60, .inl (fun _ => 0))), (z6 5, .inl (κ.2.2.1, 60, .inl (fun _ => 0))), (z6 6, .inl (κ.1, 600, .inl (fun _ => 0))), (z6 7, .inl (κ.1, 600, .inl (fun _ => 0))), (z6 8, .inl (κ.2.1, 600, .inr (.inl (fun _ => 0)))), (z6 9, .inl (κ.2.1, 600, .inr (.inl (fun _ => 0)))), (q7, .inr (2, [.ref (z8 0), .ref (z8 1), .ref (z8 2), .ref (z8 3), .int (nI 0)])), (z8 0, .inl (κ.1, 20, .inl (fun _ => 0))), (z8 1, .inl (κ.1, 20, .inl (fun _ => 0))), (z8 2, .inl (κ.1, 20, .inl (fun _ => 0))), (z8 3, .inl (κ.2.2.1, 20, .inl (fun _ => 0))), (q9, .inr (5, [.ref (z10 0), .ref (z10 1), .ref (z10 2), .ref (z10 3), .int (nI 0)])), (z10 0, .inl (κ.1, 40, .inl (fun _ => 0))), (z10 1, .inl (κ.1, 40, .inl (fun _ => 0))), (z10 2, .inl (κ.1, 40, .inl (fun _ => 0))), (z10 3, .inl (κ.1, 40, .inl (fun _ => 0))), (q11, .inr (6, [.ref q5, .ref q9, .ref (z12 0), .ref (z12 1), .ref (z12 2)])), (z12 0, .inl (κ.1, 600, .inl (fun _ => -1))), (z12 1, .inl (κ.1, 40, .inl (fun _ => -1))), (z12 2, .inl (κ.1, 40, .inl (fun _ => -1))), (q13, .inr (6, [.ref q5, .ref q9, .ref (z14 0), .ref (z14 1), .ref (z14 2)])), (z14 0, .inl (κ.1, 600, .inl (fun _ => -1))), (z14 1, .inl (κ.1, 40, .inl (fun _ => -1))), (z14 2, .inl (κ.1, 40, .inl (fun _ => -1))), (q15, .inr (4, [.ref (z16 0), .ref (z16 1), .ref (z16 2), .int (nI 0)])), (z16 0, .inl (κ.1, 10, .inl (fun _ => 0))), (z16 1, .inl (κ.2.1, 10, .inr (.inl (fun _ => 0)))), (z16 2, .inl (κ.2.1, 10, .inr (.inl (fun _ => 0))))] _ s H locs := hG
  refine W.widen (k := 44) (n := 4514) (by decide) (by decide) ?_
  refine bw_put (C := RX7) (T := TX7) (N := 10) (ci := 7) (ty0 := tyX7) (ty := .object "Tollgate$LegRow") (v := .ref q15) 7 (by decide) 0 hC hG iwX7 tyX7_ok nmX7 rfl rfl w41 rfl (Or.inr ⟨hin, rfl⟩) (by decide +kernel) rfl rfl (Nat.le_of_ble_eq_true rfl) dX7_init_105 (fun H locs hG => ?_)
  have hG : BW D κ [(h0, .inr (7, [.ref q1, .ref q3, .ref q5, .ref q7, .ref q9, .ref q11, .ref q13, .ref q15, .int 0, .int 0])), (q1, .inr (0, [.ref (z2 0), .ref (z2 1), .ref (z2 2), .ref (z2 3), .ref (z2 4), .int (nI 0)])), (z2 0, .inl (κ.1, 4, .inl (fun _ => nI 1000))), (z2 1, .inl (κ.1, 10, .inl (fun _ => 0))), (z2 2, .inl (κ.1, 10, .inl (fun _ => 0))), (z2 3, .inl (κ.1, 10, .inl (fun _ => 0))), (z2 4, .inl (κ.2.2.1, 10, .inl (fun _ => 0))), (q3, .inr (1, [.ref (z4 0), .int (bI false), .int (nI 0), .int (nI 0)])), (z4 0, .inr (4, [.ref (z4 1), .ref (z4 2), .ref (z4 3), .int (nI 0)])), (z4 1, .inl (κ.1, 10, .inl (fun _ => 0))), (z4 2, .inl (κ.2.1, 10, .inr (.inl (fun _ => 0)))), (z4 3, .inl (κ.2.1, 10, .inr (.inl (fun _ => 0)))), (q5, .inr (3, [.ref (z6 0), .ref (z6 1), .ref (z6 2), .ref (z6 3), .ref (z6 4), .ref (z6 5), .int (nI 0), .ref (z6 6), .ref (z6 7), .ref (z6 8), .ref (z6 9), .int (nI 0)])), (z6 0, .inl (κ.1, 60, .inl (fun _ => 0))), (z6 1, .inl (κ.1, 60, .inl (fun _ => 0))), (z6 2, .inl (κ.1, 60, .inl (fun _ => 0))), (z6 3, .inl (κ.1, 60, .inl (fun _ => 0))), (z6 4, .inl (κ.2.2.1, 60, .inl (fun _ => 0))), (z6 5, .inl (κ.2.2.1, 60, .inl (fun _ => 0))), (z6 6, .inl (κ.1, 600, .inl (fun _ => 0))), (z6 7, .inl (κ.1, 600, .inl (fun _ => 0))), (z6 8, .inl (κ.2.1, 600, .inr (.inl (fun _ => 0)))), (z6 9, .inl (κ.2.1, 600, .inr (.inl (fun _ => 0)))), (q7, .inr (2, [.ref (z8 0), .ref (z8 1), .ref (z8 2), .ref (z8 3), .int (nI 0)])), (z8 0, .inl (κ.1, 20, .inl (fun _ => 0))), (z8 1, .inl (κ.1, 20, .inl (fun _ => 0))), (z8 2, .inl (κ.1, 20, .inl (fun _ => 0))), (z8 3, .inl (κ.2.2.1, 20, .inl (fun _ => 0))), (q9, .inr (5, [.ref (z10 0), .ref (z10 1), .ref (z10 2), .ref (z10 3), .int (nI 0)])), (z10 0, .inl (κ.1, 40, .inl (fun _ => 0))), (z10 1, .inl (κ.1, 40, .inl (fun _ => 0))), (z10 2, .inl (κ.1, 40, .inl (fun _ => 0))), (z10 3, .inl (κ.1, 40, .inl (fun _ => 0))), (q11, .inr (6, [.ref q5, .ref q9, .ref (z12 0), .ref (z12 1), .ref (z12 2)])), (z12 0, .inl (κ.1, 600, .inl (fun _ => -1))), (z12 1, .inl (κ.1, 40, .inl (fun _ => -1))), (z12 2, .inl (κ.1, 40, .inl (fun _ => -1))), (q13, .inr (6, [.ref q5, .ref q9, .ref (z14 0), .ref (z14 1), .ref (z14 2)])), (z14 0, .inl (κ.1, 600, .inl (fun _ => -1))), (z14 1, .inl (κ.1, 40, .inl (fun _ => -1))), (z14 2, .inl (κ.1, 40, .inl (fun _ => -1))), (q15, .inr (4, [.ref (z16 0), .ref (z16 1), .ref (z16 2), .int (nI 0)])), (z16 0, .inl (κ.1, 10, .inl (fun _ => 0))), (z16 1, .inl (κ.2.1, 10, .inr (.inl (fun _ => 0)))), (z16 2, .inl (κ.2.1, 10, .inr (.inl (fun _ => 0))))] _ s H locs := hG
  refine lv_aload_n hx hb dX7_init_108 rfl (lv_at hl 0 rfl) ?_
  refine lv_iconst (v := -1) hx hb dX7_init_109 (by decide) ?_
  refine bw_put (C := RX7) (T := TX7) (N := 10) (ci := 7) (ty0 := tyX7) (ty := .int) (v := .int (-1)) 8 (by decide) 0 hC hG iwX7 tyX7_ok nmX7 rfl rfl w42 rfl (Or.inl rfl) (by decide +kernel) rfl rfl (Nat.le_of_ble_eq_true rfl) dX7_init_110 (fun H locs hG => ?_)
  have hG : BW D κ [(h0, .inr (7, [.ref q1, .ref q3, .ref q5, .ref q7, .ref q9, .ref q11, .ref q13, .ref q15, .int (-1), .int 0])), (q1, .inr (0, [.ref (z2 0), .ref (z2 1), .ref (z2 2), .ref (z2 3), .ref (z2 4), .int (nI 0)])), (z2 0, .inl (κ.1, 4, .inl (fun _ => nI 1000))), (z2 1, .inl (κ.1, 10, .inl (fun _ => 0))), (z2 2, .inl (κ.1, 10, .inl (fun _ => 0))), (z2 3, .inl (κ.1, 10, .inl (fun _ => 0))), (z2 4, .inl (κ.2.2.1, 10, .inl (fun _ => 0))), (q3, .inr (1, [.ref (z4 0), .int (bI false), .int (nI 0), .int (nI 0)])), (z4 0, .inr (4, [.ref (z4 1), .ref (z4 2), .ref (z4 3), .int (nI 0)])), (z4 1, .inl (κ.1, 10, .inl (fun _ => 0))), (z4 2, .inl (κ.2.1, 10, .inr (.inl (fun _ => 0)))), (z4 3, .inl (κ.2.1, 10, .inr (.inl (fun _ => 0)))), (q5, .inr (3, [.ref (z6 0), .ref (z6 1), .ref (z6 2), .ref (z6 3), .ref (z6 4), .ref (z6 5), .int (nI 0), .ref (z6 6), .ref (z6 7), .ref (z6 8), .ref (z6 9), .int (nI 0)])), (z6 0, .inl (κ.1, 60, .inl (fun _ => 0))), (z6 1, .inl (κ.1, 60, .inl (fun _ => 0))), (z6 2, .inl (κ.1, 60, .inl (fun _ => 0))), (z6 3, .inl (κ.1, 60, .inl (fun _ => 0))), (z6 4, .inl (κ.2.2.1, 60, .inl (fun _ => 0))), (z6 5, .inl (κ.2.2.1, 60, .inl (fun _ => 0))), (z6 6, .inl (κ.1, 600, .inl (fun _ => 0))), (z6 7, .inl (κ.1, 600, .inl (fun _ => 0))), (z6 8, .inl (κ.2.1, 600, .inr (.inl (fun _ => 0)))), (z6 9, .inl (κ.2.1, 600, .inr (.inl (fun _ => 0)))), (q7, .inr (2, [.ref (z8 0), .ref (z8 1), .ref (z8 2), .ref (z8 3), .int (nI 0)])), (z8 0, .inl (κ.1, 20, .inl (fun _ => 0))), (z8 1, .inl (κ.1, 20, .inl (fun _ => 0))), (z8 2, .inl (κ.1, 20, .inl (fun _ => 0))), (z8 3, .inl (κ.2.2.1, 20, .inl (fun _ => 0))), (q9, .inr (5, [.ref (z10 0), .ref (z10 1), .ref (z10 2), .ref (z10 3), .int (nI 0)])), (z10 0, .inl (κ.1, 40, .inl (fun _ => 0))), (z10 1, .inl (κ.1, 40, .inl (fun _ => 0))), (z10 2, .inl (κ.1, 40, .inl (fun _ => 0))), (z10 3, .inl (κ.1, 40, .inl (fun _ => 0))), (q11, .inr (6, [.ref q5, .ref q9, .ref (z12 0), .ref (z12 1), .ref (z12 2)])), (z12 0, .inl (κ.1, 600, .inl (fun _ => -1))), (z12 1, .inl (κ.1, 40, .inl (fun _ => -1))), (z12 2, .inl (κ.1, 40, .inl (fun _ => -1))), (q13, .inr (6, [.ref q5, .ref q9, .ref (z14 0), .ref (z14 1), .ref (z14 2)])), (z14 0, .inl (κ.1, 600, .inl (fun _ => -1))), (z14 1, .inl (κ.1, 40, .inl (fun _ => -1))), (z14 2, .inl (κ.1, 40, .inl (fun _ => -1))), (q15, .inr (4, [.ref (z16 0), .ref (z16 1), .ref (z16 2), .int (nI 0)])), (z16 0, .inl (κ.1, 10, .inl (fun _ => 0))), (z16 1, .inl (κ.2.1, 10, .inr (.inl (fun _ => 0)))), (z16 2, .inl (κ.2.1, 10, .inr (.inl (fun _ => 0))))] _ s H locs := hG
  refine lv_aload_n hx hb dX7_init_113 rfl (lv_at hl 0 rfl) ?_
  refine lv_iconst (v := nI 0) hx hb dX7_init_114 (by decide) ?_
  refine bw_put (C := RX7) (T := TX7) (N := 10) (ci := 7) (ty0 := tyX7) (ty := .int) (v := .int (nI 0)) 9 (by decide) 0 hC hG iwX7 tyX7_ok nmX7 rfl rfl w43 rfl (Or.inl rfl) (by decide +kernel) rfl rfl (Nat.le_of_ble_eq_true rfl) dX7_init_115 (fun H locs hG => ?_)
  have hG : BW D κ [(h0, .inr (7, [.ref q1, .ref q3, .ref q5, .ref q7, .ref q9, .ref q11, .ref q13, .ref q15, .int (-1), .int (nI 0)])), (q1, .inr (0, [.ref (z2 0), .ref (z2 1), .ref (z2 2), .ref (z2 3), .ref (z2 4), .int (nI 0)])), (z2 0, .inl (κ.1, 4, .inl (fun _ => nI 1000))), (z2 1, .inl (κ.1, 10, .inl (fun _ => 0))), (z2 2, .inl (κ.1, 10, .inl (fun _ => 0))), (z2 3, .inl (κ.1, 10, .inl (fun _ => 0))), (z2 4, .inl (κ.2.2.1, 10, .inl (fun _ => 0))), (q3, .inr (1, [.ref (z4 0), .int (bI false), .int (nI 0), .int (nI 0)])), (z4 0, .inr (4, [.ref (z4 1), .ref (z4 2), .ref (z4 3), .int (nI 0)])), (z4 1, .inl (κ.1, 10, .inl (fun _ => 0))), (z4 2, .inl (κ.2.1, 10, .inr (.inl (fun _ => 0)))), (z4 3, .inl (κ.2.1, 10, .inr (.inl (fun _ => 0)))), (q5, .inr (3, [.ref (z6 0), .ref (z6 1), .ref (z6 2), .ref (z6 3), .ref (z6 4), .ref (z6 5), .int (nI 0), .ref (z6 6), .ref (z6 7), .ref (z6 8), .ref (z6 9), .int (nI 0)])), (z6 0, .inl (κ.1, 60, .inl (fun _ => 0))), (z6 1, .inl (κ.1, 60, .inl (fun _ => 0))), (z6 2, .inl (κ.1, 60, .inl (fun _ => 0))), (z6 3, .inl (κ.1, 60, .inl (fun _ => 0))), (z6 4, .inl (κ.2.2.1, 60, .inl (fun _ => 0))), (z6 5, .inl (κ.2.2.1, 60, .inl (fun _ => 0))), (z6 6, .inl (κ.1, 600, .inl (fun _ => 0))), (z6 7, .inl (κ.1, 600, .inl (fun _ => 0))), (z6 8, .inl (κ.2.1, 600, .inr (.inl (fun _ => 0)))), (z6 9, .inl (κ.2.1, 600, .inr (.inl (fun _ => 0)))), (q7, .inr (2, [.ref (z8 0), .ref (z8 1), .ref (z8 2), .ref (z8 3), .int (nI 0)])), (z8 0, .inl (κ.1, 20, .inl (fun _ => 0))), (z8 1, .inl (κ.1, 20, .inl (fun _ => 0))), (z8 2, .inl (κ.1, 20, .inl (fun _ => 0))), (z8 3, .inl (κ.2.2.1, 20, .inl (fun _ => 0))), (q9, .inr (5, [.ref (z10 0), .ref (z10 1), .ref (z10 2), .ref (z10 3), .int (nI 0)])), (z10 0, .inl (κ.1, 40, .inl (fun _ => 0))), (z10 1, .inl (κ.1, 40, .inl (fun _ => 0))), (z10 2, .inl (κ.1, 40, .inl (fun _ => 0))), (z10 3, .inl (κ.1, 40, .inl (fun _ => 0))), (q11, .inr (6, [.ref q5, .ref q9, .ref (z12 0), .ref (z12 1), .ref (z12 2)])), (z12 0, .inl (κ.1, 600, .inl (fun _ => -1))), (z12 1, .inl (κ.1, 40, .inl (fun _ => -1))), (z12 2, .inl (κ.1, 40, .inl (fun _ => -1))), (q13, .inr (6, [.ref q5, .ref q9, .ref (z14 0), .ref (z14 1), .ref (z14 2)])), (z14 0, .inl (κ.1, 600, .inl (fun _ => -1))), (z14 1, .inl (κ.1, 40, .inl (fun _ => -1))), (z14 2, .inl (κ.1, 40, .inl (fun _ => -1))), (q15, .inr (4, [.ref (z16 0), .ref (z16 1), .ref (z16 2), .int (nI 0)])), (z16 0, .inl (κ.1, 10, .inl (fun _ => 0))), (z16 1, .inl (κ.2.1, 10, .inr (.inl (fun _ => 0)))), (z16 2, .inl (κ.2.1, 10, .inr (.inl (fun _ => 0))))] _ s H locs := hG
  exact bw_end (qs := fun k => match k with | 0 => q1 | 1 => z2 0 | 2 => z2 1 | 3 => z2 2 | 4 => z2 3 | 5 => z2 4 | 6 => q3 | 7 => z4 0 | 8 => z4 1 | 9 => z4 2 | 10 => z4 3 | 11 => q5 | 12 => z6 0 | 13 => z6 1 | 14 => z6 2 | 15 => z6 3 | 16 => z6 4 | 17 => z6 5 | 18 => z6 6 | 19 => z6 7 | 20 => z6 8 | 21 => z6 9 | 22 => q7 | 23 => z8 0 | 24 => z8 1 | 25 => z8 2 | 26 => z8 3 | 27 => q9 | 28 => z10 0 | 29 => z10 1 | 30 => z10 2 | 31 => z10 3 | 32 => q11 | 33 => z12 0 | 34 => z12 1 | 35 => z12 2 | 36 => q13 | 37 => z14 0 | 38 => z14 1 | 39 => z14 2 | 40 => q15 | 41 => z16 0 | 42 => z16 1 | _ => z16 2) hC hG rfl hr hk (by decide) (by decide) dX7_init_118
end
section
theorem dX7_rate_0 : decode cX7_rate 0 = .ok (.iload_n 1, 1) := by decide +kernel
theorem dX7_rate_1 : decode cX7_rate 1 = .ok (.iconst 1, 1) := by decide +kernel
theorem dX7_rate_2 : decode cX7_rate 2 = .ok (.if_icmp .lt 19, 3) := by decide +kernel
theorem dX7_rate_21 : decode cX7_rate 21 = .ok (.new 71, 3) := by decide +kernel
theorem dX7_rate_24 : decode cX7_rate 24 = .ok (.dup, 1) := by decide +kernel
theorem dX7_rate_25 : decode cX7_rate 25 = .ok (.ldc 73, 2) := by decide +kernel
theorem dX7_rate_27 : decode cX7_rate 27 = .ok (.invokespecial 75, 3) := by decide +kernel
theorem dX7_rate_30 : decode cX7_rate 30 = .ok (.athrow, 1) := by decide +kernel
set_option maxHeartbeats 4000000 in
set_option maxRecDepth 100000 in
theorem z_0_rate (l : Launch) (hst : l.stackTraces = false) (D : va_G) (κ : K4) (E0 : Nat) (sz : Nat) (a : Nat → Nat) (x0 : Int32) (x1 : Int32) (k_x0 : -2147483648 ≤ x0.toInt ∧ x0.toInt ≤ 0) (k_x1 : -2147483648 ≤ x1.toInt ∧ x1.toInt ≤ 2147483647) : XM l yX7_rate cX7_rate 4 (some .int) 6 82 1 6 E0 D κ (xw κ a) sz [.ref (a 0), .int x0, .int x1] "java/lang/IllegalArgumentException" (NI (xw κ a) sz) := by
  refine XM.of (by decide +kernel) (Nat.le_of_ble_eq_true rfl) ?_
  intro p e s m below meth c ls hC hk hno hsz hE hT H locs hG hl
  have hx := hC.1
  have hb := hC.2.1
  have hl : lv_has ls 4 [(0, .ref (a 0)), (1, .int x0), (2, .int x1)] := hl
  refine lv_iload_n hx hb dX7_rate_0 rfl (lv_at hl 1 rfl) ?_
  refine lv_iconst (v := 1) hx hb dX7_rate_1 (by decide) ?_
  refine lv_icmp_lt (tgt := 21) hx hb dX7_rate_2 (by decide) (fun _ => ?_) (fun h2 => absurd (Int32.lt_iff_toInt_lt.mpr (by have e1 : (1 : Int32).toInt = 1 := (by decide); omega)) h2)
  exact th_IA hC hst hE hT hno hk hG hl.1 (List.mem_of_getElem? (i := 9) rfl) w150 w151 dX7_rate_21 dX7_rate_24 dX7_rate_25 dX7_rate_27 dX7_rate_30 (Nat.le_of_ble_eq_true rfl) (Nat.le_of_ble_eq_true rfl) (Nat.le_of_ble_eq_true rfl) (Nat.le_of_ble_eq_true rfl) (Nat.le_of_ble_eq_true rfl) (Nat.le_of_ble_eq_true rfl)
theorem dL_rate_0 : decode cL_rate 0 = .ok (.aload_n 3, 1) := by decide +kernel
theorem dL_rate_1 : decode cL_rate 1 = .ok (.iconst 0, 1) := by decide +kernel
theorem dL_rate_13 : decode cL_rate 13 = .ok (.astore 4, 2) := by decide +kernel
theorem dL_rate_15 : decode cL_rate 15 = .ok (.iconst 1, 1) := by decide +kernel
theorem dL_rate_16 : decode cL_rate 16 = .ok (.ireturn, 1) := by decide +kernel
theorem dL_rate_2 : decode cL_rate 2 = .ok (.aload_n 0, 1) := by decide +kernel
theorem dL_rate_3 : decode cL_rate 3 = .ok (.iload_n 1, 1) := by decide +kernel
theorem dL_rate_4 : decode cL_rate 4 = .ok (.iload_n 2, 1) := by decide +kernel
theorem dL_rate_5 : decode cL_rate 5 = .ok (.invokevirtual 7, 3) := by decide +kernel
set_option maxHeartbeats 4000000 in
set_option maxRecDepth 100000 in
theorem z_1_rate (l : Launch) (hst : l.stackTraces = false) (D : va_G) (κ : K4) (E0 : Nat) (sz : Nat) (a : Nat → Nat) (x0 : Int32) (x1 : Int32) (o : Nat) (k_x0 : -2147483648 ≤ x0.toInt ∧ x0.toInt ≤ 0) (k_x1 : -2147483648 ≤ x1.toInt ∧ x1.toInt ≤ 2147483647) : NH l yL_rate cL_rate 5 (some .int) [(0, 10, 13, 13), (0, 10, 17, 15)] 7 105 1 6 E0 D κ (xw κ a ++ [(o, .inl (κ.2.1, 1, .inr (.inl (fun _ => 0))))]) sz [.ref (a 0), .int x0, .int x1, .ref o] (QI D κ (xw κ a ++ [(o, .inl (κ.2.1, 1, .inr (.inl (fun _ => 0))))]) sz 1 (fun qs : W1 => [(o, .inl (κ.2.1, 1, .inr (.inl (fun _ => 0))))])) := by
  refine NH.of (by decide +kernel) (Nat.le_of_ble_eq_true rfl) ?_
  intro p e s m below meth c ls hC hr hk htab hsz hE hT H locs hG hl
  have hx := hC.1
  have hb := hC.2.1
  have hl : lv_has ls 5 [(0, .ref (a 0)), (1, .int x0), (2, .int x1), (3, .ref o)] := hl
  refine lv_aload_n hx hb dL_rate_0 rfl (lv_at hl 3 rfl) ?_
  refine lv_iconst (v := 0) hx hb dL_rate_1 (by decide) ?_
  refine lv_aload_n hx hb dL_rate_2 rfl (lv_at hl 0 rfl) ?_
  refine lv_iload_n hx hb dL_rate_3 rfl (lv_at hl 1 rfl) ?_
  refine lv_iload_n hx hb dL_rate_4 rfl (lv_at hl 2 rfl) ?_
  have cut5 : Cut (xw κ a ++ [(o, .inl (κ.2.1, 1, .inr (.inl (fun _ => 0))))]) (xw κ a) ([(o, .inl (κ.2.1, 1, .inr (.inl (fun _ => 0))))]) := (Cut.one 45 rfl (by decide))
  refine zt_i hG cut5 (zx_V (k := 0) (ci := 7) (n := 2) (As := [.int x0, .int x1]) (rest := [.int 0, .ref o]) hC hG hE hT cut5 (z_0_rate l hst D κ E0 H.size a x0 x1 ⟨by omega, by omega⟩ ⟨by omega, by omega⟩) rfl rfl w146 w2 w149 w147 w148 (by decide +kernel) ⟨Nat.le_of_ble_eq_true rfl, Nat.le_of_ble_eq_true rfl⟩ rfl hl.1 rfl (Nat.le_of_ble_eq_true rfl) dL_rate_5 ⟨Nat.le_of_ble_eq_true rfl, Nat.le_of_ble_eq_true rfl⟩) (fun ce q9 H locs hG hz1 hz2 hz3 => ?_)
  refine vx_catch (own := RL) (name := "java/lang/IllegalArgumentException") (E := "java/lang/IllegalArgumentException") hC.2.2.2.1 [] ⟨0, 10, 13, 13⟩ [⟨0, 10, 17, 15⟩] htab (fun z hz => by simp at hz) (by decide) (by decide) (hC.2.2.2.2 _ w145) (va_Nw.use rfl (hT.1 ("java/lang/IllegalArgumentException", "java/lang/IllegalArgumentException") (by decide))) hz1 hz2 hz3 ?_
  refine lv_astore (lv' := [(4, .ref q9), (0, .ref (a 0)), (1, .int x0), (2, .int x1), (3, .ref o)]) hx hb dL_rate_13 hl (by decide) rfl (fun ls hl => ?_)
  refine lv_iconst (v := 1) hx hb dL_rate_15 (by decide) ?_
  exact ze_i (qs := fun _ => 0) hC hG rfl rfl hr rfl hk (Nat.le_of_ble_eq_true rfl) (Nat.le_of_ble_eq_true rfl) dL_rate_16
theorem dX14_isIn_0 : decode cX14_isIn 0 = .ok (.iload_n 0, 1) := by decide +kernel
theorem dX14_isIn_1 : decode cX14_isIn 1 = .ok (.iload_n 1, 1) := by decide +kernel
theorem dX14_isIn_14 : decode cX14_isIn 14 = .ok (.iconst 0, 1) := by decide +kernel
theorem dX14_isIn_15 : decode cX14_isIn 15 = .ok (.ireturn, 1) := by decide +kernel
theorem dX14_isIn_2 : decode cX14_isIn 2 = .ok (.if_icmp .lt 12, 3) := by decide +kernel
set_option maxHeartbeats 4000000 in
set_option maxRecDepth 100000 in
theorem z_2_isIn (l : Launch) (hst : l.stackTraces = false) (D : va_G) (κ : K4) (E0 : Nat) (sz : Nat) (b : Nat → Nat) (x0 : Int32) (k_x0 : -2147483648 ≤ x0.toInt ∧ x0.toInt ≤ 0) : NM l yX14_isIn cX14_isIn 3 (some .boolean) 0 0 0 0 E0 D κ (mw κ b E0 0) sz [.int x0, .int 1, .int 3] (QI D κ (mw κ b E0 0) sz 0 (fun qs : W1 => mw κ b E0 0)) := by
  refine NM.of (by decide +kernel) (Nat.le_of_ble_eq_true rfl) ?_
  intro p e s m below meth c ls hC hr hk hin hsz hE hT H locs hG hl
  have hx := hC.1
  have hb := hC.2.1
  have hl : lv_has ls 3 [(0, .int x0), (1, .int 1), (2, .int 3)] := hl
  refine lv_iload_n hx hb dX14_isIn_0 rfl (lv_at hl 0 rfl) ?_
  refine lv_iload_n hx hb dX14_isIn_1 rfl (lv_at hl 1 rfl) ?_
  refine lv_icmp_lt (tgt := 14) hx hb dX14_isIn_2 (by decide) (fun _ => ?_) (fun h2 => absurd (Int32.lt_iff_toInt_lt.mpr (by have e1 : (1 : Int32).toInt = 1 := (by decide); omega)) h2)
  refine lv_iconst (v := 0) hx hb dX14_isIn_14 (by decide) ?_
  exact ze_i (qs := fun _ => 0) hC hG rfl rfl hr rfl hk (Nat.le_of_ble_eq_true rfl) (Nat.le_of_ble_eq_true rfl) dX14_isIn_15
theorem dX14_refuse_0 : decode cX14_refuse 0 = .ok (.iload_n 1, 1) := by decide +kernel
theorem dX14_refuse_1 : decode cX14_refuse 1 = .ok (.ifCond .eq 15, 3) := by decide +kernel
theorem dX14_refuse_11 : decode cX14_refuse 11 = .ok (.aload_n 0, 1) := by decide +kernel
theorem dX14_refuse_12 : decode cX14_refuse 12 = .ok (.iload_n 2, 1) := by decide +kernel
theorem dX14_refuse_13 : decode cX14_refuse 13 = .ok (.putfield 42, 3) := by decide +kernel
theorem dX14_refuse_16 : decode cX14_refuse 16 = .ok (.aload_n 0, 1) := by decide +kernel
theorem dX14_refuse_17 : decode cX14_refuse 17 = .ok (.getfield 42, 3) := by decide +kernel
theorem dX14_refuse_20 : decode cX14_refuse 20 = .ok (.ifCond .le 7, 3) := by decide +kernel
theorem dX14_refuse_23 : decode cX14_refuse 23 = .ok (.iconst 1, 1) := by decide +kernel
theorem dX14_refuse_24 : decode cX14_refuse 24 = .ok (.goto 4, 3) := by decide +kernel
theorem dX14_refuse_28 : decode cX14_refuse 28 = .ok (.ireturn, 1) := by decide +kernel
theorem dX14_refuse_4 : decode cX14_refuse 4 = .ok (.aload_n 0, 1) := by decide +kernel
theorem dX14_refuse_5 : decode cX14_refuse 5 = .ok (.getfield 42, 3) := by decide +kernel
theorem dX14_refuse_8 : decode cX14_refuse 8 = .ok (.ifCond .ne 8, 3) := by decide +kernel
set_option maxHeartbeats 4000000 in
set_option maxRecDepth 100000 in
theorem z_3_refuse (l : Launch) (hst : l.stackTraces = false) (D : va_G) (κ : K4) (E0 : Nat) (sz : Nat) (b : Nat → Nat) : NM l yX14_refuse cX14_refuse 3 (some .boolean) 0 0 0 0 E0 D κ (mw κ b E0 0) sz [.ref (b 0), .int 1, .int 1] (QI D κ (mw κ b E0 0) sz 1 (fun qs : W1 => mw κ b E0 1)) := by
  refine NM.of (by decide +kernel) (Nat.le_of_ble_eq_true rfl) ?_
  intro p e s m below meth c ls hC hr hk hin hsz hE hT H locs hG hl
  have hx := hC.1
  have hb := hC.2.1
  have hl : lv_has ls 3 [(0, .ref (b 0)), (1, .int 1), (2, .int 1)] := hl
  refine lv_iload_n hx hb dX14_refuse_0 rfl (lv_at hl 1 rfl) ?_
  refine lv_if_eq (tgt := 16) hx hb dX14_refuse_1 (by decide) (fun h1 => absurd h1 (by decide)) (fun _ => ?_)
  refine lv_aload_n hx hb dX14_refuse_4 rfl (lv_at hl 0 rfl) ?_
  refine bw_get (C := RX14) (T := TX14) (N := 15) (ci := 9) (v := .int 0) 0 (by decide) 0 hC hG iwX14 rfl rfl w174 rfl rfl dX14_refuse_5 ?_
  refine lv_if_ne (tgt := 16) hx hb dX14_refuse_8 (by decide) (fun h8 => absurd (by decide) h8) (fun _ => ?_)
  refine lv_aload_n hx hb dX14_refuse_11 rfl (lv_at hl 0 rfl) ?_
  refine lv_iload_n hx hb dX14_refuse_12 rfl (lv_at hl 2 rfl) ?_
  refine bw_put (C := RX14) (T := TX14) (N := 15) (ci := 9) (ty0 := tyX14) (ty := .int) (v := .int 1) 0 (by decide) 0 hC hG iwX14 tyX14_ok nmX14 rfl rfl w174 rfl (Or.inl rfl) (by decide +kernel) rfl rfl (Nat.le_of_ble_eq_true rfl) dX14_refuse_13 (fun H locs hG => ?_)
  have hG : BW D κ (mw κ b E0 1) _ s H locs := hG
  refine lv_aload_n hx hb dX14_refuse_16 rfl (lv_at hl 0 rfl) ?_
  refine bw_get (C := RX14) (T := TX14) (N := 15) (ci := 9) (v := .int 1) 0 (by decide) 0 hC hG iwX14 rfl rfl w174 rfl rfl dX14_refuse_17 ?_
  refine lv_if_le (tgt := 27) hx hb dX14_refuse_20 (by decide) (fun h20 => absurd h20 (by decide)) (fun _ => ?_)
  refine lv_iconst (v := 1) hx hb dX14_refuse_23 (by decide) ?_
  refine lv_goto (tgt := 28) hx hb dX14_refuse_24 (by decide) ?_
  exact ze_i (qs := fun _ => 0) hC hG rfl rfl hr rfl hk (Nat.le_of_ble_eq_true rfl) (Nat.le_of_ble_eq_true rfl) dX14_refuse_28
theorem dX14_start_0 : decode cX14_start 0 = .ok (.aload_n 0, 1) := by decide +kernel
theorem dX14_start_1 : decode cX14_start 1 = .ok (.iconst 0, 1) := by decide +kernel
theorem dX14_start_11 : decode cX14_start 11 = .ok (.ireturn, 1) := by decide +kernel
theorem dX14_start_2 : decode cX14_start 2 = .ok (.putfield 42, 3) := by decide +kernel
theorem dX14_start_5 : decode cX14_start 5 = .ok (.aload_n 0, 1) := by decide +kernel
theorem dX14_start_6 : decode cX14_start 6 = .ok (.iload_n 1, 1) := by decide +kernel
theorem dX14_start_7 : decode cX14_start 7 = .ok (.iload_n 2, 1) := by decide +kernel
theorem dX14_start_8 : decode cX14_start 8 = .ok (.invokevirtual 45, 3) := by decide +kernel
set_option maxHeartbeats 4000000 in
set_option maxRecDepth 100000 in
theorem z_4_start (l : Launch) (hst : l.stackTraces = false) (D : va_G) (κ : K4) (E0 : Nat) (sz : Nat) (b : Nat → Nat) : NM l yX14_start cX14_start 3 (some .boolean) 1 22 0 0 E0 D κ (mw κ b E0 0) sz [.ref (b 0), .int 1, .int 1] (QI D κ (mw κ b E0 0) sz 1 (fun qs : W1 => mw κ b E0 1)) := by
  refine NM.of (by decide +kernel) (Nat.le_of_ble_eq_true rfl) ?_
  intro p e s m below meth c ls hC hr hk hin hsz hE hT H locs hG hl
  have hx := hC.1
  have hb := hC.2.1
  have hl : lv_has ls 3 [(0, .ref (b 0)), (1, .int 1), (2, .int 1)] := hl
  refine lv_aload_n hx hb dX14_start_0 rfl (lv_at hl 0 rfl) ?_
  refine lv_iconst (v := 0) hx hb dX14_start_1 (by decide) ?_
  refine bw_put (C := RX14) (T := TX14) (N := 15) (ci := 9) (ty0 := tyX14) (ty := .int) (v := .int 0) 0 (by decide) 0 hC hG iwX14 tyX14_ok nmX14 rfl rfl w174 rfl (Or.inl rfl) (by decide +kernel) rfl rfl (Nat.le_of_ble_eq_true rfl) dX14_start_2 (fun H locs hG => ?_)
  have hG : BW D κ (mw κ b E0 0) _ s H locs := hG
  refine lv_aload_n hx hb dX14_start_5 rfl (lv_at hl 0 rfl) ?_
  refine lv_iload_n hx hb dX14_start_6 rfl (lv_at hl 1 rfl) ?_
  refine lv_iload_n hx hb dX14_start_7 rfl (lv_at hl 2 rfl) ?_
  have cut8 : Cut (mw κ b E0 0) (mw κ b E0 0) ([]) := (Cut.all 9 rfl (by decide))
  refine zc_i hG cut8 (zr_V (k := 0) (ci := 9) (n := 2) (As := [.int 1, .int 1]) (rest := []) hC hG hE hT cut8 (z_3_refuse l hst D κ E0 H.size b) rfl rfl w175 w5 w178 w176 w177 (by decide +kernel) ⟨Nat.le_of_ble_eq_true rfl, Nat.le_of_ble_eq_true rfl⟩ rfl hl.1 rfl (Nat.le_of_ble_eq_true rfl) dX14_start_8 ⟨Nat.le_of_ble_eq_true rfl, Nat.le_of_ble_eq_true rfl⟩) (fun z1 H locs hG => ?_)
  have hG : BW D κ (mw κ b E0 1) _ s H locs := hG
  exact ze_i (qs := fun _ => 0) hC hG rfl rfl hr rfl hk (Nat.le_of_ble_eq_true rfl) (Nat.le_of_ble_eq_true rfl) dX14_start_11
theorem dX14_rate_0 : decode cX14_rate 0 = .ok (.aload_n 0, 1) := by decide +kernel
theorem dX14_rate_1 : decode cX14_rate 1 = .ok (.iload_n 1, 1) := by decide +kernel
theorem dX14_rate_2 : decode cX14_rate 2 = .ok (.iconst 1, 1) := by decide +kernel
theorem dX14_rate_20 : decode cX14_rate 20 = .ok (.iconst 1, 1) := by decide +kernel
theorem dX14_rate_21 : decode cX14_rate 21 = .ok (.goto 4, 3) := by decide +kernel
theorem dX14_rate_25 : decode cX14_rate 25 = .ok (.iconst 1, 1) := by decide +kernel
theorem dX14_rate_26 : decode cX14_rate 26 = .ok (.invokevirtual 61, 3) := by decide +kernel
theorem dX14_rate_29 : decode cX14_rate 29 = .ok (.ifCond .eq 5, 3) := by decide +kernel
theorem dX14_rate_3 : decode cX14_rate 3 = .ok (.iconst 3, 1) := by decide +kernel
theorem dX14_rate_32 : decode cX14_rate 32 = .ok (.iconst 0, 1) := by decide +kernel
theorem dX14_rate_33 : decode cX14_rate 33 = .ok (.ireturn, 1) := by decide +kernel
theorem dX14_rate_4 : decode cX14_rate 4 = .ok (.invokestatic 53, 3) := by decide +kernel
theorem dX14_rate_7 : decode cX14_rate 7 = .ok (.ifCond .eq 13, 3) := by decide +kernel
set_option maxHeartbeats 4000000 in
set_option maxRecDepth 100000 in
theorem z_5_rate (l : Launch) (hst : l.stackTraces = false) (D : va_G) (κ : K4) (E0 : Nat) (sz : Nat) (b : Nat → Nat) (x0 : Int32) (x1 : Int32) (k_x0 : -2147483648 ≤ x0.toInt ∧ x0.toInt ≤ 0) (k_x1 : -2147483648 ≤ x1.toInt ∧ x1.toInt ≤ 2147483647) : NM l yX14_rate cX14_rate 5 (some .int) 2 44 0 0 E0 D κ (mw κ b E0 0) sz [.ref (b 0), .int x0, .int x1] (QI D κ (mw κ b E0 0) sz 0 (fun qs : W1 => mw κ b E0 1)) := by
  refine NM.of (by decide +kernel) (Nat.le_of_ble_eq_true rfl) ?_
  intro p e s m below meth c ls hC hr hk hin hsz hE hT H locs hG hl
  have hx := hC.1
  have hb := hC.2.1
  have hl : lv_has ls 5 [(0, .ref (b 0)), (1, .int x0), (2, .int x1)] := hl
  refine lv_aload_n hx hb dX14_rate_0 rfl (lv_at hl 0 rfl) ?_
  refine lv_iload_n hx hb dX14_rate_1 rfl (lv_at hl 1 rfl) ?_
  refine lv_iconst (v := 1) hx hb dX14_rate_2 (by decide) ?_
  refine lv_iconst (v := 3) hx hb dX14_rate_3 (by decide) ?_
  have cut4 : Cut (mw κ b E0 0) (mw κ b E0 0) ([]) := (Cut.all 9 rfl (by decide))
  refine zc_i hG cut4 (zr_S (n := 3) (As := [.int x0, .int 1, .int 3]) (rest := [.ref (b 0)]) hC hG hE hT cut4 (z_2_isIn l hst D κ E0 H.size b x0 ⟨by omega, by omega⟩) w167 w5 w169 w168 (by decide +kernel) ⟨Nat.le_of_ble_eq_true rfl, Nat.le_of_ble_eq_true rfl⟩ rfl hl.1 rfl (Nat.le_of_ble_eq_true rfl) dX14_rate_4 ⟨Nat.le_of_ble_eq_true rfl, Nat.le_of_ble_eq_true rfl⟩) (fun z1 H locs hG => ?_)
  have hG : BW D κ (mw κ b E0 0) _ s H locs := hG
  refine lv_if_eq (tgt := 20) hx hb dX14_rate_7 (by decide) (fun _ => ?_) (fun h7 => absurd (by decide) h7)
  refine lv_iconst (v := 1) hx hb dX14_rate_20 (by decide) ?_
  refine lv_goto (tgt := 25) hx hb dX14_rate_21 (by decide) ?_
  refine lv_iconst (v := 1) hx hb dX14_rate_25 (by decide) ?_
  have cut26 : Cut (mw κ b E0 0) (mw κ b E0 0) ([]) := (Cut.all 9 rfl (by decide))
  refine zc_i hG cut26 (zr_V (k := 0) (ci := 9) (n := 2) (As := [.int 1, .int 1]) (rest := []) hC hG hE hT cut26 (z_4_start l hst D κ E0 H.size b) rfl rfl w170 w5 w173 w171 w172 (by decide +kernel) ⟨Nat.le_of_ble_eq_true rfl, Nat.le_of_ble_eq_true rfl⟩ rfl hl.1 rfl (Nat.le_of_ble_eq_true rfl) dX14_rate_26 ⟨Nat.le_of_ble_eq_true rfl, Nat.le_of_ble_eq_true rfl⟩) (fun z2 H locs hG => ?_)
  have hG : BW D κ (mw κ b E0 1) _ s H locs := hG
  refine lv_if_eq (tgt := 34) hx hb dX14_rate_29 (by decide) (fun h29 => absurd h29 (by decide)) (fun _ => ?_)
  refine lv_iconst (v := 0) hx hb dX14_rate_32 (by decide) ?_
  exact ze_i (qs := fun _ => 0) hC hG rfl rfl hr rfl hk (Nat.le_of_ble_eq_true rfl) (Nat.le_of_ble_eq_true rfl) dX14_rate_33
theorem dX14_thrown_0 : decode cX14_thrown 0 = .ok (.aload_n 0, 1) := by decide +kernel
theorem dX14_thrown_1 : decode cX14_thrown 1 = .ok (.getfield 42, 3) := by decide +kernel
theorem dX14_thrown_4 : decode cX14_thrown 4 = .ok (.ireturn, 1) := by decide +kernel
set_option maxHeartbeats 4000000 in
set_option maxRecDepth 100000 in
theorem z_6_thrown (l : Launch) (hst : l.stackTraces = false) (D : va_G) (κ : K4) (E0 : Nat) (sz : Nat) (b : Nat → Nat) : NM l yX14_thrown cX14_thrown 1 (some .int) 0 0 0 0 E0 D κ ([(b 0, .inr (9, [.int 1, .ref (b 1), .ref (b 2), .ref (b 3), .ref (b 4), .ref (b 5), .ref (b 6), .ref (b 7), .null, .int 0, .int (-1), .int 0, .int 0, .int 0, .ref (b 8)]))]) sz [.ref (b 0)] (QI D κ ([(b 0, .inr (9, [.int 1, .ref (b 1), .ref (b 2), .ref (b 3), .ref (b 4), .ref (b 5), .ref (b 6), .ref (b 7), .null, .int 0, .int (-1), .int 0, .int 0, .int 0, .ref (b 8)]))]) sz 1 (fun qs : W1 => [(b 0, .inr (9, [.int 1, .ref (b 1), .ref (b 2), .ref (b 3), .ref (b 4), .ref (b 5), .ref (b 6), .ref (b 7), .null, .int 0, .int (-1), .int 0, .int 0, .int 0, .ref (b 8)]))])) := by
  refine NM.of (by decide +kernel) (Nat.le_of_ble_eq_true rfl) ?_
  intro p e s m below meth c ls hC hr hk hin hsz hE hT H locs hG hl
  have hx := hC.1
  have hb := hC.2.1
  have hl : lv_has ls 1 [(0, .ref (b 0))] := hl
  refine lv_aload_n hx hb dX14_thrown_0 rfl (lv_at hl 0 rfl) ?_
  refine bw_get (C := RX14) (T := TX14) (N := 15) (ci := 9) (v := .int 1) 0 (by decide) 0 hC hG iwX14 rfl rfl w174 rfl rfl dX14_thrown_1 ?_
  exact ze_i (qs := fun _ => 0) hC hG rfl rfl hr rfl hk (Nat.le_of_ble_eq_true rfl) (Nat.le_of_ble_eq_true rfl) dX14_thrown_4
theorem dX7_rate_5 : decode cX7_rate 5 = .ok (.iload_n 1, 1) := by decide +kernel
theorem dX7_rate_6 : decode cX7_rate 6 = .ok (.iconst 3, 1) := by decide +kernel
theorem dX7_rate_7 : decode cX7_rate 7 = .ok (.if_icmp .gt 14, 3) := by decide +kernel
set_option maxHeartbeats 4000000 in
set_option maxRecDepth 100000 in
theorem z_7_rate (l : Launch) (hst : l.stackTraces = false) (D : va_G) (κ : K4) (E0 : Nat) (sz : Nat) (a : Nat → Nat) (x0 : Int32) (x1 : Int32) (k_x0 : 4 ≤ x0.toInt ∧ x0.toInt ≤ 2147483647) (k_x1 : -2147483648 ≤ x1.toInt ∧ x1.toInt ≤ 2147483647) : XM l yX7_rate cX7_rate 4 (some .int) 6 82 1 6 E0 D κ (xw κ a) sz [.ref (a 0), .int x0, .int x1] "java/lang/IllegalArgumentException" (NI (xw κ a) sz) := by
  refine XM.of (by decide +kernel) (Nat.le_of_ble_eq_true rfl) ?_
  intro p e s m below meth c ls hC hk hno hsz hE hT H locs hG hl
  have hx := hC.1
  have hb := hC.2.1
  have hl : lv_has ls 4 [(0, .ref (a 0)), (1, .int x0), (2, .int x1)] := hl
  refine lv_iload_n hx hb dX7_rate_0 rfl (lv_at hl 1 rfl) ?_
  refine lv_iconst (v := 1) hx hb dX7_rate_1 (by decide) ?_
  refine lv_icmp_lt (tgt := 21) hx hb dX7_rate_2 (by decide) (fun h2 => absurd h2 (mt Int32.lt_iff_toInt_lt.mp (by have e1 : (1 : Int32).toInt = 1 := (by decide); omega))) (fun _ => ?_)
  refine lv_iload_n hx hb dX7_rate_5 rfl (lv_at hl 1 rfl) ?_
  refine lv_iconst (v := 3) hx hb dX7_rate_6 (by decide) ?_
  refine lv_icmp_gt (tgt := 21) hx hb dX7_rate_7 (by decide) (fun _ => ?_) (fun h7 => absurd (Int32.lt_iff_toInt_lt.mpr (by have e0 : (3 : Int32).toInt = 3 := (by decide); omega)) h7)
  exact th_IA hC hst hE hT hno hk hG hl.1 (List.mem_of_getElem? (i := 9) rfl) w150 w151 dX7_rate_21 dX7_rate_24 dX7_rate_25 dX7_rate_27 dX7_rate_30 (Nat.le_of_ble_eq_true rfl) (Nat.le_of_ble_eq_true rfl) (Nat.le_of_ble_eq_true rfl) (Nat.le_of_ble_eq_true rfl) (Nat.le_of_ble_eq_true rfl) (Nat.le_of_ble_eq_true rfl)
set_option maxHeartbeats 4000000 in
set_option maxRecDepth 100000 in
theorem z_8_rate (l : Launch) (hst : l.stackTraces = false) (D : va_G) (κ : K4) (E0 : Nat) (sz : Nat) (a : Nat → Nat) (x0 : Int32) (x1 : Int32) (o : Nat) (k_x0 : 4 ≤ x0.toInt ∧ x0.toInt ≤ 2147483647) (k_x1 : -2147483648 ≤ x1.toInt ∧ x1.toInt ≤ 2147483647) : NH l yL_rate cL_rate 5 (some .int) [(0, 10, 13, 13), (0, 10, 17, 15)] 7 105 1 6 E0 D κ (xw κ a ++ [(o, .inl (κ.2.1, 1, .inr (.inl (fun _ => 0))))]) sz [.ref (a 0), .int x0, .int x1, .ref o] (QI D κ (xw κ a ++ [(o, .inl (κ.2.1, 1, .inr (.inl (fun _ => 0))))]) sz 1 (fun qs : W1 => [(o, .inl (κ.2.1, 1, .inr (.inl (fun _ => 0))))])) := by
  refine NH.of (by decide +kernel) (Nat.le_of_ble_eq_true rfl) ?_
  intro p e s m below meth c ls hC hr hk htab hsz hE hT H locs hG hl
  have hx := hC.1
  have hb := hC.2.1
  have hl : lv_has ls 5 [(0, .ref (a 0)), (1, .int x0), (2, .int x1), (3, .ref o)] := hl
  refine lv_aload_n hx hb dL_rate_0 rfl (lv_at hl 3 rfl) ?_
  refine lv_iconst (v := 0) hx hb dL_rate_1 (by decide) ?_
  refine lv_aload_n hx hb dL_rate_2 rfl (lv_at hl 0 rfl) ?_
  refine lv_iload_n hx hb dL_rate_3 rfl (lv_at hl 1 rfl) ?_
  refine lv_iload_n hx hb dL_rate_4 rfl (lv_at hl 2 rfl) ?_
  have cut5 : Cut (xw κ a ++ [(o, .inl (κ.2.1, 1, .inr (.inl (fun _ => 0))))]) (xw κ a) ([(o, .inl (κ.2.1, 1, .inr (.inl (fun _ => 0))))]) := (Cut.one 45 rfl (by decide))
  refine zt_i hG cut5 (zx_V (k := 0) (ci := 7) (n := 2) (As := [.int x0, .int x1]) (rest := [.int 0, .ref o]) hC hG hE hT cut5 (z_7_rate l hst D κ E0 H.size a x0 x1 ⟨by omega, by omega⟩ ⟨by omega, by omega⟩) rfl rfl w146 w2 w149 w147 w148 (by decide +kernel) ⟨Nat.le_of_ble_eq_true rfl, Nat.le_of_ble_eq_true rfl⟩ rfl hl.1 rfl (Nat.le_of_ble_eq_true rfl) dL_rate_5 ⟨Nat.le_of_ble_eq_true rfl, Nat.le_of_ble_eq_true rfl⟩) (fun ce q9 H locs hG hz1 hz2 hz3 => ?_)
  refine vx_catch (own := RL) (name := "java/lang/IllegalArgumentException") (E := "java/lang/IllegalArgumentException") hC.2.2.2.1 [] ⟨0, 10, 13, 13⟩ [⟨0, 10, 17, 15⟩] htab (fun z hz => by simp at hz) (by decide) (by decide) (hC.2.2.2.2 _ w145) (va_Nw.use rfl (hT.1 ("java/lang/IllegalArgumentException", "java/lang/IllegalArgumentException") (by decide))) hz1 hz2 hz3 ?_
  refine lv_astore (lv' := [(4, .ref q9), (0, .ref (a 0)), (1, .int x0), (2, .int x1), (3, .ref o)]) hx hb dL_rate_13 hl (by decide) rfl (fun ls hl => ?_)
  refine lv_iconst (v := 1) hx hb dL_rate_15 (by decide) ?_
  exact ze_i (qs := fun _ => 0) hC hG rfl rfl hr rfl hk (Nat.le_of_ble_eq_true rfl) (Nat.le_of_ble_eq_true rfl) dL_rate_16
theorem dX14_isIn_5 : decode cX14_isIn 5 = .ok (.iload_n 0, 1) := by decide +kernel
theorem dX14_isIn_6 : decode cX14_isIn 6 = .ok (.iload_n 2, 1) := by decide +kernel
theorem dX14_isIn_7 : decode cX14_isIn 7 = .ok (.if_icmp .gt 7, 3) := by decide +kernel
set_option maxHeartbeats 4000000 in
set_option maxRecDepth 100000 in
theorem z_9_isIn (l : Launch) (hst : l.stackTraces = false) (D : va_G) (κ : K4) (E0 : Nat) (sz : Nat) (b : Nat → Nat) (x0 : Int32) (k_x0 : 4 ≤ x0.toInt ∧ x0.toInt ≤ 2147483647) : NM l yX14_isIn cX14_isIn 3 (some .boolean) 0 0 0 0 E0 D κ (mw κ b E0 0) sz [.int x0, .int 1, .int 3] (QI D κ (mw κ b E0 0) sz 0 (fun qs : W1 => mw κ b E0 0)) := by
  refine NM.of (by decide +kernel) (Nat.le_of_ble_eq_true rfl) ?_
  intro p e s m below meth c ls hC hr hk hin hsz hE hT H locs hG hl
  have hx := hC.1
  have hb := hC.2.1
  have hl : lv_has ls 3 [(0, .int x0), (1, .int 1), (2, .int 3)] := hl
  refine lv_iload_n hx hb dX14_isIn_0 rfl (lv_at hl 0 rfl) ?_
  refine lv_iload_n hx hb dX14_isIn_1 rfl (lv_at hl 1 rfl) ?_
  refine lv_icmp_lt (tgt := 14) hx hb dX14_isIn_2 (by decide) (fun h2 => absurd h2 (mt Int32.lt_iff_toInt_lt.mp (by have e1 : (1 : Int32).toInt = 1 := (by decide); omega))) (fun _ => ?_)
  refine lv_iload_n hx hb dX14_isIn_5 rfl (lv_at hl 0 rfl) ?_
  refine lv_iload_n hx hb dX14_isIn_6 rfl (lv_at hl 2 rfl) ?_
  refine lv_icmp_gt (tgt := 14) hx hb dX14_isIn_7 (by decide) (fun _ => ?_) (fun h7 => absurd (Int32.lt_iff_toInt_lt.mpr (by have e0 : (3 : Int32).toInt = 3 := (by decide); omega)) h7)
  refine lv_iconst (v := 0) hx hb dX14_isIn_14 (by decide) ?_
  exact ze_i (qs := fun _ => 0) hC hG rfl rfl hr rfl hk (Nat.le_of_ble_eq_true rfl) (Nat.le_of_ble_eq_true rfl) dX14_isIn_15
set_option maxHeartbeats 4000000 in
set_option maxRecDepth 100000 in
theorem z_10_rate (l : Launch) (hst : l.stackTraces = false) (D : va_G) (κ : K4) (E0 : Nat) (sz : Nat) (b : Nat → Nat) (x0 : Int32) (x1 : Int32) (k_x0 : 4 ≤ x0.toInt ∧ x0.toInt ≤ 2147483647) (k_x1 : -2147483648 ≤ x1.toInt ∧ x1.toInt ≤ 2147483647) : NM l yX14_rate cX14_rate 5 (some .int) 2 44 0 0 E0 D κ (mw κ b E0 0) sz [.ref (b 0), .int x0, .int x1] (QI D κ (mw κ b E0 0) sz 0 (fun qs : W1 => mw κ b E0 1)) := by
  refine NM.of (by decide +kernel) (Nat.le_of_ble_eq_true rfl) ?_
  intro p e s m below meth c ls hC hr hk hin hsz hE hT H locs hG hl
  have hx := hC.1
  have hb := hC.2.1
  have hl : lv_has ls 5 [(0, .ref (b 0)), (1, .int x0), (2, .int x1)] := hl
  refine lv_aload_n hx hb dX14_rate_0 rfl (lv_at hl 0 rfl) ?_
  refine lv_iload_n hx hb dX14_rate_1 rfl (lv_at hl 1 rfl) ?_
  refine lv_iconst (v := 1) hx hb dX14_rate_2 (by decide) ?_
  refine lv_iconst (v := 3) hx hb dX14_rate_3 (by decide) ?_
  have cut4 : Cut (mw κ b E0 0) (mw κ b E0 0) ([]) := (Cut.all 9 rfl (by decide))
  refine zc_i hG cut4 (zr_S (n := 3) (As := [.int x0, .int 1, .int 3]) (rest := [.ref (b 0)]) hC hG hE hT cut4 (z_9_isIn l hst D κ E0 H.size b x0 ⟨by omega, by omega⟩) w167 w5 w169 w168 (by decide +kernel) ⟨Nat.le_of_ble_eq_true rfl, Nat.le_of_ble_eq_true rfl⟩ rfl hl.1 rfl (Nat.le_of_ble_eq_true rfl) dX14_rate_4 ⟨Nat.le_of_ble_eq_true rfl, Nat.le_of_ble_eq_true rfl⟩) (fun z1 H locs hG => ?_)
  have hG : BW D κ (mw κ b E0 0) _ s H locs := hG
  refine lv_if_eq (tgt := 20) hx hb dX14_rate_7 (by decide) (fun _ => ?_) (fun h7 => absurd (by decide) h7)
  refine lv_iconst (v := 1) hx hb dX14_rate_20 (by decide) ?_
  refine lv_goto (tgt := 25) hx hb dX14_rate_21 (by decide) ?_
  refine lv_iconst (v := 1) hx hb dX14_rate_25 (by decide) ?_
  have cut26 : Cut (mw κ b E0 0) (mw κ b E0 0) ([]) := (Cut.all 9 rfl (by decide))
  refine zc_i hG cut26 (zr_V (k := 0) (ci := 9) (n := 2) (As := [.int 1, .int 1]) (rest := []) hC hG hE hT cut26 (z_4_start l hst D κ E0 H.size b) rfl rfl w170 w5 w173 w171 w172 (by decide +kernel) ⟨Nat.le_of_ble_eq_true rfl, Nat.le_of_ble_eq_true rfl⟩ rfl hl.1 rfl (Nat.le_of_ble_eq_true rfl) dX14_rate_26 ⟨Nat.le_of_ble_eq_true rfl, Nat.le_of_ble_eq_true rfl⟩) (fun z2 H locs hG => ?_)
  have hG : BW D κ (mw κ b E0 1) _ s H locs := hG
  refine lv_if_eq (tgt := 34) hx hb dX14_rate_29 (by decide) (fun h29 => absurd h29 (by decide)) (fun _ => ?_)
  refine lv_iconst (v := 0) hx hb dX14_rate_32 (by decide) ?_
  exact ze_i (qs := fun _ => 0) hC hG rfl rfl hr rfl hk (Nat.le_of_ble_eq_true rfl) (Nat.le_of_ble_eq_true rfl) dX14_rate_33
theorem dX7_rate_10 : decode cX7_rate 10 = .ok (.iload_n 2, 1) := by decide +kernel
theorem dX7_rate_11 : decode cX7_rate 11 = .ok (.iconst 1, 1) := by decide +kernel
theorem dX7_rate_12 : decode cX7_rate 12 = .ok (.if_icmp .lt 9, 3) := by decide +kernel
set_option maxHeartbeats 4000000 in
set_option maxRecDepth 100000 in
theorem z_11_rate (l : Launch) (hst : l.stackTraces = false) (D : va_G) (κ : K4) (E0 : Nat) (sz : Nat) (a : Nat → Nat) (x0 : Int32) (x1 : Int32) (k_x0 : 1 ≤ x0.toInt ∧ x0.toInt ≤ 3) (k_x1 : -2147483648 ≤ x1.toInt ∧ x1.toInt ≤ 0) : XM l yX7_rate cX7_rate 4 (some .int) 6 82 1 6 E0 D κ (xw κ a) sz [.ref (a 0), .int x0, .int x1] "java/lang/IllegalArgumentException" (NI (xw κ a) sz) := by
  refine XM.of (by decide +kernel) (Nat.le_of_ble_eq_true rfl) ?_
  intro p e s m below meth c ls hC hk hno hsz hE hT H locs hG hl
  have hx := hC.1
  have hb := hC.2.1
  have hl : lv_has ls 4 [(0, .ref (a 0)), (1, .int x0), (2, .int x1)] := hl
  refine lv_iload_n hx hb dX7_rate_0 rfl (lv_at hl 1 rfl) ?_
  refine lv_iconst (v := 1) hx hb dX7_rate_1 (by decide) ?_
  refine lv_icmp_lt (tgt := 21) hx hb dX7_rate_2 (by decide) (fun h2 => absurd h2 (mt Int32.lt_iff_toInt_lt.mp (by have e1 : (1 : Int32).toInt = 1 := (by decide); omega))) (fun _ => ?_)
  refine lv_iload_n hx hb dX7_rate_5 rfl (lv_at hl 1 rfl) ?_
  refine lv_iconst (v := 3) hx hb dX7_rate_6 (by decide) ?_
  refine lv_icmp_gt (tgt := 21) hx hb dX7_rate_7 (by decide) (fun h7 => absurd h7 (mt Int32.lt_iff_toInt_lt.mp (by have e0 : (3 : Int32).toInt = 3 := (by decide); omega))) (fun _ => ?_)
  refine lv_iload_n hx hb dX7_rate_10 rfl (lv_at hl 2 rfl) ?_
  refine lv_iconst (v := 1) hx hb dX7_rate_11 (by decide) ?_
  refine lv_icmp_lt (tgt := 21) hx hb dX7_rate_12 (by decide) (fun _ => ?_) (fun h12 => absurd (Int32.lt_iff_toInt_lt.mpr (by have e1 : (1 : Int32).toInt = 1 := (by decide); omega)) h12)
  exact th_IA hC hst hE hT hno hk hG hl.1 (List.mem_of_getElem? (i := 9) rfl) w150 w151 dX7_rate_21 dX7_rate_24 dX7_rate_25 dX7_rate_27 dX7_rate_30 (Nat.le_of_ble_eq_true rfl) (Nat.le_of_ble_eq_true rfl) (Nat.le_of_ble_eq_true rfl) (Nat.le_of_ble_eq_true rfl) (Nat.le_of_ble_eq_true rfl) (Nat.le_of_ble_eq_true rfl)
set_option maxHeartbeats 4000000 in
set_option maxRecDepth 100000 in
theorem z_12_rate (l : Launch) (hst : l.stackTraces = false) (D : va_G) (κ : K4) (E0 : Nat) (sz : Nat) (a : Nat → Nat) (x0 : Int32) (x1 : Int32) (o : Nat) (k_x0 : 1 ≤ x0.toInt ∧ x0.toInt ≤ 3) (k_x1 : -2147483648 ≤ x1.toInt ∧ x1.toInt ≤ 0) : NH l yL_rate cL_rate 5 (some .int) [(0, 10, 13, 13), (0, 10, 17, 15)] 7 105 1 6 E0 D κ (xw κ a ++ [(o, .inl (κ.2.1, 1, .inr (.inl (fun _ => 0))))]) sz [.ref (a 0), .int x0, .int x1, .ref o] (QI D κ (xw κ a ++ [(o, .inl (κ.2.1, 1, .inr (.inl (fun _ => 0))))]) sz 1 (fun qs : W1 => [(o, .inl (κ.2.1, 1, .inr (.inl (fun _ => 0))))])) := by
  refine NH.of (by decide +kernel) (Nat.le_of_ble_eq_true rfl) ?_
  intro p e s m below meth c ls hC hr hk htab hsz hE hT H locs hG hl
  have hx := hC.1
  have hb := hC.2.1
  have hl : lv_has ls 5 [(0, .ref (a 0)), (1, .int x0), (2, .int x1), (3, .ref o)] := hl
  refine lv_aload_n hx hb dL_rate_0 rfl (lv_at hl 3 rfl) ?_
  refine lv_iconst (v := 0) hx hb dL_rate_1 (by decide) ?_
  refine lv_aload_n hx hb dL_rate_2 rfl (lv_at hl 0 rfl) ?_
  refine lv_iload_n hx hb dL_rate_3 rfl (lv_at hl 1 rfl) ?_
  refine lv_iload_n hx hb dL_rate_4 rfl (lv_at hl 2 rfl) ?_
  have cut5 : Cut (xw κ a ++ [(o, .inl (κ.2.1, 1, .inr (.inl (fun _ => 0))))]) (xw κ a) ([(o, .inl (κ.2.1, 1, .inr (.inl (fun _ => 0))))]) := (Cut.one 45 rfl (by decide))
  refine zt_i hG cut5 (zx_V (k := 0) (ci := 7) (n := 2) (As := [.int x0, .int x1]) (rest := [.int 0, .ref o]) hC hG hE hT cut5 (z_11_rate l hst D κ E0 H.size a x0 x1 ⟨by omega, by omega⟩ ⟨by omega, by omega⟩) rfl rfl w146 w2 w149 w147 w148 (by decide +kernel) ⟨Nat.le_of_ble_eq_true rfl, Nat.le_of_ble_eq_true rfl⟩ rfl hl.1 rfl (Nat.le_of_ble_eq_true rfl) dL_rate_5 ⟨Nat.le_of_ble_eq_true rfl, Nat.le_of_ble_eq_true rfl⟩) (fun ce q9 H locs hG hz1 hz2 hz3 => ?_)
  refine vx_catch (own := RL) (name := "java/lang/IllegalArgumentException") (E := "java/lang/IllegalArgumentException") hC.2.2.2.1 [] ⟨0, 10, 13, 13⟩ [⟨0, 10, 17, 15⟩] htab (fun z hz => by simp at hz) (by decide) (by decide) (hC.2.2.2.2 _ w145) (va_Nw.use rfl (hT.1 ("java/lang/IllegalArgumentException", "java/lang/IllegalArgumentException") (by decide))) hz1 hz2 hz3 ?_
  refine lv_astore (lv' := [(4, .ref q9), (0, .ref (a 0)), (1, .int x0), (2, .int x1), (3, .ref o)]) hx hb dL_rate_13 hl (by decide) rfl (fun ls hl => ?_)
  refine lv_iconst (v := 1) hx hb dL_rate_15 (by decide) ?_
  exact ze_i (qs := fun _ => 0) hC hG rfl rfl hr rfl hk (Nat.le_of_ble_eq_true rfl) (Nat.le_of_ble_eq_true rfl) dL_rate_16
theorem dX14_isIn_10 : decode cX14_isIn 10 = .ok (.iconst 1, 1) := by decide +kernel
theorem dX14_isIn_11 : decode cX14_isIn 11 = .ok (.goto 4, 3) := by decide +kernel
set_option maxHeartbeats 4000000 in
set_option maxRecDepth 100000 in
theorem z_13_isIn (l : Launch) (hst : l.stackTraces = false) (D : va_G) (κ : K4) (E0 : Nat) (sz : Nat) (b : Nat → Nat) (x0 : Int32) (k_x0 : 1 ≤ x0.toInt ∧ x0.toInt ≤ 3) : NM l yX14_isIn cX14_isIn 3 (some .boolean) 0 0 0 0 E0 D κ (mw κ b E0 0) sz [.int x0, .int 1, .int 3] (QI D κ (mw κ b E0 0) sz 1 (fun qs : W1 => mw κ b E0 0)) := by
  refine NM.of (by decide +kernel) (Nat.le_of_ble_eq_true rfl) ?_
  intro p e s m below meth c ls hC hr hk hin hsz hE hT H locs hG hl
  have hx := hC.1
  have hb := hC.2.1
  have hl : lv_has ls 3 [(0, .int x0), (1, .int 1), (2, .int 3)] := hl
  refine lv_iload_n hx hb dX14_isIn_0 rfl (lv_at hl 0 rfl) ?_
  refine lv_iload_n hx hb dX14_isIn_1 rfl (lv_at hl 1 rfl) ?_
  refine lv_icmp_lt (tgt := 14) hx hb dX14_isIn_2 (by decide) (fun h2 => absurd h2 (mt Int32.lt_iff_toInt_lt.mp (by have e1 : (1 : Int32).toInt = 1 := (by decide); omega))) (fun _ => ?_)
  refine lv_iload_n hx hb dX14_isIn_5 rfl (lv_at hl 0 rfl) ?_
  refine lv_iload_n hx hb dX14_isIn_6 rfl (lv_at hl 2 rfl) ?_
  refine lv_icmp_gt (tgt := 14) hx hb dX14_isIn_7 (by decide) (fun h7 => absurd h7 (mt Int32.lt_iff_toInt_lt.mp (by have e0 : (3 : Int32).toInt = 3 := (by decide); omega))) (fun _ => ?_)
  refine lv_iconst (v := 1) hx hb dX14_isIn_10 (by decide) ?_
  refine lv_goto (tgt := 15) hx hb dX14_isIn_11 (by decide) ?_
  exact ze_i (qs := fun _ => 0) hC hG rfl rfl hr rfl hk (Nat.le_of_ble_eq_true rfl) (Nat.le_of_ble_eq_true rfl) dX14_isIn_15
set_option maxHeartbeats 4000000 in
set_option maxRecDepth 100000 in
theorem z_14_isIn (l : Launch) (hst : l.stackTraces = false) (D : va_G) (κ : K4) (E0 : Nat) (sz : Nat) (b : Nat → Nat) (x0 : Int32) (k_x0 : -2147483648 ≤ x0.toInt ∧ x0.toInt ≤ 0) : NM l yX14_isIn cX14_isIn 3 (some .boolean) 0 0 0 0 E0 D κ (mw κ b E0 0) sz [.int x0, .int 1, .int 100000] (QI D κ (mw κ b E0 0) sz 0 (fun qs : W1 => mw κ b E0 0)) := by
  refine NM.of (by decide +kernel) (Nat.le_of_ble_eq_true rfl) ?_
  intro p e s m below meth c ls hC hr hk hin hsz hE hT H locs hG hl
  have hx := hC.1
  have hb := hC.2.1
  have hl : lv_has ls 3 [(0, .int x0), (1, .int 1), (2, .int 100000)] := hl
  refine lv_iload_n hx hb dX14_isIn_0 rfl (lv_at hl 0 rfl) ?_
  refine lv_iload_n hx hb dX14_isIn_1 rfl (lv_at hl 1 rfl) ?_
  refine lv_icmp_lt (tgt := 14) hx hb dX14_isIn_2 (by decide) (fun _ => ?_) (fun h2 => absurd (Int32.lt_iff_toInt_lt.mpr (by have e1 : (1 : Int32).toInt = 1 := (by decide); omega)) h2)
  refine lv_iconst (v := 0) hx hb dX14_isIn_14 (by decide) ?_
  exact ze_i (qs := fun _ => 0) hC hG rfl rfl hr rfl hk (Nat.le_of_ble_eq_true rfl) (Nat.le_of_ble_eq_true rfl) dX14_isIn_15
theorem dX14_rate_10 : decode cX14_rate 10 = .ok (.iload_n 2, 1) := by decide +kernel
theorem dX14_rate_11 : decode cX14_rate 11 = .ok (.iconst 1, 1) := by decide +kernel
theorem dX14_rate_12 : decode cX14_rate 12 = .ok (.ldc 149, 2) := by decide +kernel
theorem dX14_rate_14 : decode cX14_rate 14 = .ok (.invokestatic 53, 3) := by decide +kernel
theorem dX14_rate_17 : decode cX14_rate 17 = .ok (.ifCond .ne 7, 3) := by decide +kernel
set_option maxHeartbeats 4000000 in
set_option maxRecDepth 100000 in
theorem z_15_rate (l : Launch) (hst : l.stackTraces = false) (D : va_G) (κ : K4) (E0 : Nat) (sz : Nat) (b : Nat → Nat) (x0 : Int32) (x1 : Int32) (k_x0 : 1 ≤ x0.toInt ∧ x0.toInt ≤ 3) (k_x1 : -2147483648 ≤ x1.toInt ∧ x1.toInt ≤ 0) : NM l yX14_rate cX14_rate 5 (some .int) 2 44 0 0 E0 D κ (mw κ b E0 0) sz [.ref (b 0), .int x0, .int x1] (QI D κ (mw κ b E0 0) sz 0 (fun qs : W1 => mw κ b E0 1)) := by
  refine NM.of (by decide +kernel) (Nat.le_of_ble_eq_true rfl) ?_
  intro p e s m below meth c ls hC hr hk hin hsz hE hT H locs hG hl
  have hx := hC.1
  have hb := hC.2.1
  have hl : lv_has ls 5 [(0, .ref (b 0)), (1, .int x0), (2, .int x1)] := hl
  refine lv_aload_n hx hb dX14_rate_0 rfl (lv_at hl 0 rfl) ?_
  refine lv_iload_n hx hb dX14_rate_1 rfl (lv_at hl 1 rfl) ?_
  refine lv_iconst (v := 1) hx hb dX14_rate_2 (by decide) ?_
  refine lv_iconst (v := 3) hx hb dX14_rate_3 (by decide) ?_
  have cut4 : Cut (mw κ b E0 0) (mw κ b E0 0) ([]) := (Cut.all 9 rfl (by decide))
  refine zc_i hG cut4 (zr_S (n := 3) (As := [.int x0, .int 1, .int 3]) (rest := [.ref (b 0)]) hC hG hE hT cut4 (z_13_isIn l hst D κ E0 H.size b x0 ⟨by omega, by omega⟩) w167 w5 w169 w168 (by decide +kernel) ⟨Nat.le_of_ble_eq_true rfl, Nat.le_of_ble_eq_true rfl⟩ rfl hl.1 rfl (Nat.le_of_ble_eq_true rfl) dX14_rate_4 ⟨Nat.le_of_ble_eq_true rfl, Nat.le_of_ble_eq_true rfl⟩) (fun z1 H locs hG => ?_)
  have hG : BW D κ (mw κ b E0 0) _ s H locs := hG
  refine lv_if_eq (tgt := 20) hx hb dX14_rate_7 (by decide) (fun h7 => absurd h7 (by decide)) (fun _ => ?_)
  refine lv_iload_n hx hb dX14_rate_10 rfl (lv_at hl 2 rfl) ?_
  refine lv_iconst (v := 1) hx hb dX14_rate_11 (by decide) ?_
  refine lv_ldc hx hb hC.2.2.2.1 (hC.2.2.2.2 _ w164) dX14_rate_12 ?_
  have cut14 : Cut (mw κ b E0 0) (mw κ b E0 0) ([]) := (Cut.all 9 rfl (by decide))
  refine zc_i hG cut14 (zr_S (n := 3) (As := [.int x1, .int 1, .int 100000]) (rest := [.ref (b 0)]) hC hG hE hT cut14 (z_14_isIn l hst D κ E0 H.size b x1 ⟨by omega, by omega⟩) w167 w5 w169 w168 (by decide +kernel) ⟨Nat.le_of_ble_eq_true rfl, Nat.le_of_ble_eq_true rfl⟩ rfl hl.1 rfl (Nat.le_of_ble_eq_true rfl) dX14_rate_14 ⟨Nat.le_of_ble_eq_true rfl, Nat.le_of_ble_eq_true rfl⟩) (fun z2 H locs hG => ?_)
  have hG : BW D κ (mw κ b E0 0) _ s H locs := hG
  refine lv_if_ne (tgt := 24) hx hb dX14_rate_17 (by decide) (fun h17 => absurd (by decide) h17) (fun _ => ?_)
  refine lv_iconst (v := 1) hx hb dX14_rate_20 (by decide) ?_
  refine lv_goto (tgt := 25) hx hb dX14_rate_21 (by decide) ?_
  refine lv_iconst (v := 1) hx hb dX14_rate_25 (by decide) ?_
  have cut26 : Cut (mw κ b E0 0) (mw κ b E0 0) ([]) := (Cut.all 9 rfl (by decide))
  refine zc_i hG cut26 (zr_V (k := 0) (ci := 9) (n := 2) (As := [.int 1, .int 1]) (rest := []) hC hG hE hT cut26 (z_4_start l hst D κ E0 H.size b) rfl rfl w170 w5 w173 w171 w172 (by decide +kernel) ⟨Nat.le_of_ble_eq_true rfl, Nat.le_of_ble_eq_true rfl⟩ rfl hl.1 rfl (Nat.le_of_ble_eq_true rfl) dX14_rate_26 ⟨Nat.le_of_ble_eq_true rfl, Nat.le_of_ble_eq_true rfl⟩) (fun z3 H locs hG => ?_)
  have hG : BW D κ (mw κ b E0 1) _ s H locs := hG
  refine lv_if_eq (tgt := 34) hx hb dX14_rate_29 (by decide) (fun h29 => absurd h29 (by decide)) (fun _ => ?_)
  refine lv_iconst (v := 0) hx hb dX14_rate_32 (by decide) ?_
  exact ze_i (qs := fun _ => 0) hC hG rfl rfl hr rfl hk (Nat.le_of_ble_eq_true rfl) (Nat.le_of_ble_eq_true rfl) dX14_rate_33
theorem dX7_rate_15 : decode cX7_rate 15 = .ok (.iload_n 2, 1) := by decide +kernel
theorem dX7_rate_16 : decode cX7_rate 16 = .ok (.ldc 70, 2) := by decide +kernel
theorem dX7_rate_18 : decode cX7_rate 18 = .ok (.if_icmp .le 13, 3) := by decide +kernel
set_option maxHeartbeats 4000000 in
set_option maxRecDepth 100000 in
theorem z_16_rate (l : Launch) (hst : l.stackTraces = false) (D : va_G) (κ : K4) (E0 : Nat) (sz : Nat) (a : Nat → Nat) (x0 : Int32) (x1 : Int32) (k_x0 : 1 ≤ x0.toInt ∧ x0.toInt ≤ 3) (k_x1 : 100001 ≤ x1.toInt ∧ x1.toInt ≤ 2147483647) : XM l yX7_rate cX7_rate 4 (some .int) 6 82 1 6 E0 D κ (xw κ a) sz [.ref (a 0), .int x0, .int x1] "java/lang/IllegalArgumentException" (NI (xw κ a) sz) := by
  refine XM.of (by decide +kernel) (Nat.le_of_ble_eq_true rfl) ?_
  intro p e s m below meth c ls hC hk hno hsz hE hT H locs hG hl
  have hx := hC.1
  have hb := hC.2.1
  have hl : lv_has ls 4 [(0, .ref (a 0)), (1, .int x0), (2, .int x1)] := hl
  refine lv_iload_n hx hb dX7_rate_0 rfl (lv_at hl 1 rfl) ?_
  refine lv_iconst (v := 1) hx hb dX7_rate_1 (by decide) ?_
  refine lv_icmp_lt (tgt := 21) hx hb dX7_rate_2 (by decide) (fun h2 => absurd h2 (mt Int32.lt_iff_toInt_lt.mp (by have e1 : (1 : Int32).toInt = 1 := (by decide); omega))) (fun _ => ?_)
  refine lv_iload_n hx hb dX7_rate_5 rfl (lv_at hl 1 rfl) ?_
  refine lv_iconst (v := 3) hx hb dX7_rate_6 (by decide) ?_
  refine lv_icmp_gt (tgt := 21) hx hb dX7_rate_7 (by decide) (fun h7 => absurd h7 (mt Int32.lt_iff_toInt_lt.mp (by have e0 : (3 : Int32).toInt = 3 := (by decide); omega))) (fun _ => ?_)
  refine lv_iload_n hx hb dX7_rate_10 rfl (lv_at hl 2 rfl) ?_
  refine lv_iconst (v := 1) hx hb dX7_rate_11 (by decide) ?_
  refine lv_icmp_lt (tgt := 21) hx hb dX7_rate_12 (by decide) (fun h12 => absurd h12 (mt Int32.lt_iff_toInt_lt.mp (by have e1 : (1 : Int32).toInt = 1 := (by decide); omega))) (fun _ => ?_)
  refine lv_iload_n hx hb dX7_rate_15 rfl (lv_at hl 2 rfl) ?_
  refine lv_ldc hx hb hC.2.2.2.1 (hC.2.2.2.2 _ w154) dX7_rate_16 ?_
  refine lv_icmp_le (tgt := 31) hx hb dX7_rate_18 (by decide) (fun h18 => absurd h18 (mt Int32.le_iff_toInt_le.mp (by have e0 : (100000 : Int32).toInt = 100000 := (by decide); omega))) (fun _ => ?_)
  exact th_IA hC hst hE hT hno hk hG hl.1 (List.mem_of_getElem? (i := 9) rfl) w150 w151 dX7_rate_21 dX7_rate_24 dX7_rate_25 dX7_rate_27 dX7_rate_30 (Nat.le_of_ble_eq_true rfl) (Nat.le_of_ble_eq_true rfl) (Nat.le_of_ble_eq_true rfl) (Nat.le_of_ble_eq_true rfl) (Nat.le_of_ble_eq_true rfl) (Nat.le_of_ble_eq_true rfl)
set_option maxHeartbeats 4000000 in
set_option maxRecDepth 100000 in
theorem z_17_rate (l : Launch) (hst : l.stackTraces = false) (D : va_G) (κ : K4) (E0 : Nat) (sz : Nat) (a : Nat → Nat) (x0 : Int32) (x1 : Int32) (o : Nat) (k_x0 : 1 ≤ x0.toInt ∧ x0.toInt ≤ 3) (k_x1 : 100001 ≤ x1.toInt ∧ x1.toInt ≤ 2147483647) : NH l yL_rate cL_rate 5 (some .int) [(0, 10, 13, 13), (0, 10, 17, 15)] 7 105 1 6 E0 D κ (xw κ a ++ [(o, .inl (κ.2.1, 1, .inr (.inl (fun _ => 0))))]) sz [.ref (a 0), .int x0, .int x1, .ref o] (QI D κ (xw κ a ++ [(o, .inl (κ.2.1, 1, .inr (.inl (fun _ => 0))))]) sz 1 (fun qs : W1 => [(o, .inl (κ.2.1, 1, .inr (.inl (fun _ => 0))))])) := by
  refine NH.of (by decide +kernel) (Nat.le_of_ble_eq_true rfl) ?_
  intro p e s m below meth c ls hC hr hk htab hsz hE hT H locs hG hl
  have hx := hC.1
  have hb := hC.2.1
  have hl : lv_has ls 5 [(0, .ref (a 0)), (1, .int x0), (2, .int x1), (3, .ref o)] := hl
  refine lv_aload_n hx hb dL_rate_0 rfl (lv_at hl 3 rfl) ?_
  refine lv_iconst (v := 0) hx hb dL_rate_1 (by decide) ?_
  refine lv_aload_n hx hb dL_rate_2 rfl (lv_at hl 0 rfl) ?_
  refine lv_iload_n hx hb dL_rate_3 rfl (lv_at hl 1 rfl) ?_
  refine lv_iload_n hx hb dL_rate_4 rfl (lv_at hl 2 rfl) ?_
  have cut5 : Cut (xw κ a ++ [(o, .inl (κ.2.1, 1, .inr (.inl (fun _ => 0))))]) (xw κ a) ([(o, .inl (κ.2.1, 1, .inr (.inl (fun _ => 0))))]) := (Cut.one 45 rfl (by decide))
  refine zt_i hG cut5 (zx_V (k := 0) (ci := 7) (n := 2) (As := [.int x0, .int x1]) (rest := [.int 0, .ref o]) hC hG hE hT cut5 (z_16_rate l hst D κ E0 H.size a x0 x1 ⟨by omega, by omega⟩ ⟨by omega, by omega⟩) rfl rfl w146 w2 w149 w147 w148 (by decide +kernel) ⟨Nat.le_of_ble_eq_true rfl, Nat.le_of_ble_eq_true rfl⟩ rfl hl.1 rfl (Nat.le_of_ble_eq_true rfl) dL_rate_5 ⟨Nat.le_of_ble_eq_true rfl, Nat.le_of_ble_eq_true rfl⟩) (fun ce q9 H locs hG hz1 hz2 hz3 => ?_)
  refine vx_catch (own := RL) (name := "java/lang/IllegalArgumentException") (E := "java/lang/IllegalArgumentException") hC.2.2.2.1 [] ⟨0, 10, 13, 13⟩ [⟨0, 10, 17, 15⟩] htab (fun z hz => by simp at hz) (by decide) (by decide) (hC.2.2.2.2 _ w145) (va_Nw.use rfl (hT.1 ("java/lang/IllegalArgumentException", "java/lang/IllegalArgumentException") (by decide))) hz1 hz2 hz3 ?_
  refine lv_astore (lv' := [(4, .ref q9), (0, .ref (a 0)), (1, .int x0), (2, .int x1), (3, .ref o)]) hx hb dL_rate_13 hl (by decide) rfl (fun ls hl => ?_)
  refine lv_iconst (v := 1) hx hb dL_rate_15 (by decide) ?_
  exact ze_i (qs := fun _ => 0) hC hG rfl rfl hr rfl hk (Nat.le_of_ble_eq_true rfl) (Nat.le_of_ble_eq_true rfl) dL_rate_16
set_option maxHeartbeats 4000000 in
set_option maxRecDepth 100000 in
theorem z_18_isIn (l : Launch) (hst : l.stackTraces = false) (D : va_G) (κ : K4) (E0 : Nat) (sz : Nat) (b : Nat → Nat) (x0 : Int32) (k_x0 : 100001 ≤ x0.toInt ∧ x0.toInt ≤ 2147483647) : NM l yX14_isIn cX14_isIn 3 (some .boolean) 0 0 0 0 E0 D κ (mw κ b E0 0) sz [.int x0, .int 1, .int 100000] (QI D κ (mw κ b E0 0) sz 0 (fun qs : W1 => mw κ b E0 0)) := by
  refine NM.of (by decide +kernel) (Nat.le_of_ble_eq_true rfl) ?_
  intro p e s m below meth c ls hC hr hk hin hsz hE hT H locs hG hl
  have hx := hC.1
  have hb := hC.2.1
  have hl : lv_has ls 3 [(0, .int x0), (1, .int 1), (2, .int 100000)] := hl
  refine lv_iload_n hx hb dX14_isIn_0 rfl (lv_at hl 0 rfl) ?_
  refine lv_iload_n hx hb dX14_isIn_1 rfl (lv_at hl 1 rfl) ?_
  refine lv_icmp_lt (tgt := 14) hx hb dX14_isIn_2 (by decide) (fun h2 => absurd h2 (mt Int32.lt_iff_toInt_lt.mp (by have e1 : (1 : Int32).toInt = 1 := (by decide); omega))) (fun _ => ?_)
  refine lv_iload_n hx hb dX14_isIn_5 rfl (lv_at hl 0 rfl) ?_
  refine lv_iload_n hx hb dX14_isIn_6 rfl (lv_at hl 2 rfl) ?_
  refine lv_icmp_gt (tgt := 14) hx hb dX14_isIn_7 (by decide) (fun _ => ?_) (fun h7 => absurd (Int32.lt_iff_toInt_lt.mpr (by have e0 : (100000 : Int32).toInt = 100000 := (by decide); omega)) h7)
  refine lv_iconst (v := 0) hx hb dX14_isIn_14 (by decide) ?_
  exact ze_i (qs := fun _ => 0) hC hG rfl rfl hr rfl hk (Nat.le_of_ble_eq_true rfl) (Nat.le_of_ble_eq_true rfl) dX14_isIn_15
set_option maxHeartbeats 4000000 in
set_option maxRecDepth 100000 in
theorem z_19_rate (l : Launch) (hst : l.stackTraces = false) (D : va_G) (κ : K4) (E0 : Nat) (sz : Nat) (b : Nat → Nat) (x0 : Int32) (x1 : Int32) (k_x0 : 1 ≤ x0.toInt ∧ x0.toInt ≤ 3) (k_x1 : 100001 ≤ x1.toInt ∧ x1.toInt ≤ 2147483647) : NM l yX14_rate cX14_rate 5 (some .int) 2 44 0 0 E0 D κ (mw κ b E0 0) sz [.ref (b 0), .int x0, .int x1] (QI D κ (mw κ b E0 0) sz 0 (fun qs : W1 => mw κ b E0 1)) := by
  refine NM.of (by decide +kernel) (Nat.le_of_ble_eq_true rfl) ?_
  intro p e s m below meth c ls hC hr hk hin hsz hE hT H locs hG hl
  have hx := hC.1
  have hb := hC.2.1
  have hl : lv_has ls 5 [(0, .ref (b 0)), (1, .int x0), (2, .int x1)] := hl
  refine lv_aload_n hx hb dX14_rate_0 rfl (lv_at hl 0 rfl) ?_
  refine lv_iload_n hx hb dX14_rate_1 rfl (lv_at hl 1 rfl) ?_
  refine lv_iconst (v := 1) hx hb dX14_rate_2 (by decide) ?_
  refine lv_iconst (v := 3) hx hb dX14_rate_3 (by decide) ?_
  have cut4 : Cut (mw κ b E0 0) (mw κ b E0 0) ([]) := (Cut.all 9 rfl (by decide))
  refine zc_i hG cut4 (zr_S (n := 3) (As := [.int x0, .int 1, .int 3]) (rest := [.ref (b 0)]) hC hG hE hT cut4 (z_13_isIn l hst D κ E0 H.size b x0 ⟨by omega, by omega⟩) w167 w5 w169 w168 (by decide +kernel) ⟨Nat.le_of_ble_eq_true rfl, Nat.le_of_ble_eq_true rfl⟩ rfl hl.1 rfl (Nat.le_of_ble_eq_true rfl) dX14_rate_4 ⟨Nat.le_of_ble_eq_true rfl, Nat.le_of_ble_eq_true rfl⟩) (fun z1 H locs hG => ?_)
  have hG : BW D κ (mw κ b E0 0) _ s H locs := hG
  refine lv_if_eq (tgt := 20) hx hb dX14_rate_7 (by decide) (fun h7 => absurd h7 (by decide)) (fun _ => ?_)
  refine lv_iload_n hx hb dX14_rate_10 rfl (lv_at hl 2 rfl) ?_
  refine lv_iconst (v := 1) hx hb dX14_rate_11 (by decide) ?_
  refine lv_ldc hx hb hC.2.2.2.1 (hC.2.2.2.2 _ w164) dX14_rate_12 ?_
  have cut14 : Cut (mw κ b E0 0) (mw κ b E0 0) ([]) := (Cut.all 9 rfl (by decide))
  refine zc_i hG cut14 (zr_S (n := 3) (As := [.int x1, .int 1, .int 100000]) (rest := [.ref (b 0)]) hC hG hE hT cut14 (z_18_isIn l hst D κ E0 H.size b x1 ⟨by omega, by omega⟩) w167 w5 w169 w168 (by decide +kernel) ⟨Nat.le_of_ble_eq_true rfl, Nat.le_of_ble_eq_true rfl⟩ rfl hl.1 rfl (Nat.le_of_ble_eq_true rfl) dX14_rate_14 ⟨Nat.le_of_ble_eq_true rfl, Nat.le_of_ble_eq_true rfl⟩) (fun z2 H locs hG => ?_)
  have hG : BW D κ (mw κ b E0 0) _ s H locs := hG
  refine lv_if_ne (tgt := 24) hx hb dX14_rate_17 (by decide) (fun h17 => absurd (by decide) h17) (fun _ => ?_)
  refine lv_iconst (v := 1) hx hb dX14_rate_20 (by decide) ?_
  refine lv_goto (tgt := 25) hx hb dX14_rate_21 (by decide) ?_
  refine lv_iconst (v := 1) hx hb dX14_rate_25 (by decide) ?_
  have cut26 : Cut (mw κ b E0 0) (mw κ b E0 0) ([]) := (Cut.all 9 rfl (by decide))
  refine zc_i hG cut26 (zr_V (k := 0) (ci := 9) (n := 2) (As := [.int 1, .int 1]) (rest := []) hC hG hE hT cut26 (z_4_start l hst D κ E0 H.size b) rfl rfl w170 w5 w173 w171 w172 (by decide +kernel) ⟨Nat.le_of_ble_eq_true rfl, Nat.le_of_ble_eq_true rfl⟩ rfl hl.1 rfl (Nat.le_of_ble_eq_true rfl) dX14_rate_26 ⟨Nat.le_of_ble_eq_true rfl, Nat.le_of_ble_eq_true rfl⟩) (fun z3 H locs hG => ?_)
  have hG : BW D κ (mw κ b E0 1) _ s H locs := hG
  refine lv_if_eq (tgt := 34) hx hb dX14_rate_29 (by decide) (fun h29 => absurd h29 (by decide)) (fun _ => ?_)
  refine lv_iconst (v := 0) hx hb dX14_rate_32 (by decide) ?_
  exact ze_i (qs := fun _ => 0) hC hG rfl rfl hr rfl hk (Nat.le_of_ble_eq_true rfl) (Nat.le_of_ble_eq_true rfl) dX14_rate_33
theorem dX0_anyIn_0 : decode cX0_anyIn 0 = .ok (.iconst 0, 1) := by decide +kernel
theorem dX0_anyIn_1 : decode cX0_anyIn 1 = .ok (.istore_n 2, 1) := by decide +kernel
theorem dX0_anyIn_2 : decode cX0_anyIn 2 = .ok (.iload_n 2, 1) := by decide +kernel
theorem dX0_anyIn_28 : decode cX0_anyIn 28 = .ok (.iconst 0, 1) := by decide +kernel
theorem dX0_anyIn_29 : decode cX0_anyIn 29 = .ok (.ireturn, 1) := by decide +kernel
theorem dX0_anyIn_3 : decode cX0_anyIn 3 = .ok (.aload_n 0, 1) := by decide +kernel
theorem dX0_anyIn_4 : decode cX0_anyIn 4 = .ok (.getfield 28, 3) := by decide +kernel
theorem dX0_anyIn_7 : decode cX0_anyIn 7 = .ok (.if_icmp .ge 21, 3) := by decide +kernel
set_option maxHeartbeats 4000000 in
set_option maxRecDepth 100000 in
theorem z_20_anyIn (l : Launch) (hst : l.stackTraces = false) (D : va_G) (κ : K4) (E0 : Nat) (sz : Nat) (a : Nat → Nat) (x0 : Int32) (k_x0 : 1 ≤ x0.toInt ∧ x0.toInt ≤ 3) : NM l yX0_anyIn cX0_anyIn 3 (some .boolean) 0 0 0 0 E0 D κ (xw κ a) sz [.ref (a 1), .int x0] (QI D κ (xw κ a) sz 0 (fun qs : W1 => xw κ a)) := by
  refine NM.of (by decide +kernel) (Nat.le_of_ble_eq_true rfl) ?_
  intro p e s m below meth c ls hC hr hk hin hsz hE hT H locs hG hl
  have hx := hC.1
  have hb := hC.2.1
  have hl : lv_has ls 3 [(0, .ref (a 1)), (1, .int x0)] := hl
  refine lv_iconst (v := 0) hx hb dX0_anyIn_0 (by decide) ?_
  refine lv_istore_n (lv' := [(2, .int 0), (0, .ref (a 1)), (1, .int x0)]) hx hb dX0_anyIn_1 rfl hl (by decide) rfl (fun ls hl => ?_)
  refine lv_iload_n hx hb dX0_anyIn_2 rfl (lv_at hl 0 rfl) ?_
  refine lv_aload_n hx hb dX0_anyIn_3 rfl (lv_at hl 1 rfl) ?_
  refine bw_get (C := RX0) (T := TX0) (N := 6) (ci := 0) (v := .int 0) 5 (by decide) 1 hC hG iwX0 (xw_1 κ a) rfl w54 rfl rfl dX0_anyIn_4 ?_
  refine lv_icmp_ge (tgt := 28) hx hb dX0_anyIn_7 (by decide) (fun _ => ?_) (fun h7 => absurd (by decide) h7)
  refine lv_iconst (v := 0) hx hb dX0_anyIn_28 (by decide) ?_
  exact ze_i (qs := fun _ => 0) hC hG rfl rfl hr rfl hk (Nat.le_of_ble_eq_true rfl) (Nat.le_of_ble_eq_true rfl) dX0_anyIn_29
theorem dX7_rate_31 : decode cX7_rate 31 = .ok (.aload_n 0, 1) := by decide +kernel
theorem dX7_rate_32 : decode cX7_rate 32 = .ok (.getfield 12, 3) := by decide +kernel
theorem dX7_rate_35 : decode cX7_rate 35 = .ok (.iload_n 1, 1) := by decide +kernel
theorem dX7_rate_36 : decode cX7_rate 36 = .ok (.invokevirtual 78, 3) := by decide +kernel
theorem dX7_rate_39 : decode cX7_rate 39 = .ok (.ifCond .eq 13, 3) := by decide +kernel
theorem dX7_rate_52 : decode cX7_rate 52 = .ok (.aload_n 0, 1) := by decide +kernel
theorem dX7_rate_53 : decode cX7_rate 53 = .ok (.getfield 12, 3) := by decide +kernel
theorem dX7_rate_56 : decode cX7_rate 56 = .ok (.getfield 87, 3) := by decide +kernel
theorem dX7_rate_59 : decode cX7_rate 59 = .ok (.iload_n 1, 1) := by decide +kernel
theorem dX7_rate_60 : decode cX7_rate 60 = .ok (.iaload, 1) := by decide +kernel
theorem dX7_rate_61 : decode cX7_rate 61 = .ok (.istore_n 3, 1) := by decide +kernel
theorem dX7_rate_62 : decode cX7_rate 62 = .ok (.aload_n 0, 1) := by decide +kernel
theorem dX7_rate_63 : decode cX7_rate 63 = .ok (.getfield 12, 3) := by decide +kernel
theorem dX7_rate_66 : decode cX7_rate 66 = .ok (.getfield 87, 3) := by decide +kernel
theorem dX7_rate_69 : decode cX7_rate 69 = .ok (.iload_n 1, 1) := by decide +kernel
theorem dX7_rate_70 : decode cX7_rate 70 = .ok (.iload_n 2, 1) := by decide +kernel
theorem dX7_rate_71 : decode cX7_rate 71 = .ok (.iastore, 1) := by decide +kernel
theorem dX7_rate_72 : decode cX7_rate 72 = .ok (.iload_n 3, 1) := by decide +kernel
theorem dX7_rate_73 : decode cX7_rate 73 = .ok (.ireturn, 1) := by decide +kernel
set_option maxHeartbeats 4000000 in
set_option maxRecDepth 100000 in
theorem z_21_rate (l : Launch) (hst : l.stackTraces = false) (D : va_G) (κ : K4) (E0 : Nat) (sz : Nat) (a : Nat → Nat) (x0 : Int32) (x1 : Int32) (k_x0 : 1 ≤ x0.toInt ∧ x0.toInt ≤ 3) (k_x1 : 1 ≤ x1.toInt ∧ x1.toInt ≤ 100000) : NM l yX7_rate cX7_rate 4 (some .int) 1 22 0 0 E0 D κ (xw κ a) sz [.ref (a 0), .int x0, .int x1] (QI D κ (xw κ a) sz 1000 (fun qs : W1 => [])) := by
  refine NM.of (by decide +kernel) (Nat.le_of_ble_eq_true rfl) ?_
  intro p e s m below meth c ls hC hr hk hin hsz hE hT H locs hG hl
  have hx := hC.1
  have hb := hC.2.1
  have hl : lv_has ls 4 [(0, .ref (a 0)), (1, .int x0), (2, .int x1)] := hl
  refine lv_iload_n hx hb dX7_rate_0 rfl (lv_at hl 1 rfl) ?_
  refine lv_iconst (v := 1) hx hb dX7_rate_1 (by decide) ?_
  refine lv_icmp_lt (tgt := 21) hx hb dX7_rate_2 (by decide) (fun h2 => absurd h2 (mt Int32.lt_iff_toInt_lt.mp (by have e1 : (1 : Int32).toInt = 1 := (by decide); omega))) (fun _ => ?_)
  refine lv_iload_n hx hb dX7_rate_5 rfl (lv_at hl 1 rfl) ?_
  refine lv_iconst (v := 3) hx hb dX7_rate_6 (by decide) ?_
  refine lv_icmp_gt (tgt := 21) hx hb dX7_rate_7 (by decide) (fun h7 => absurd h7 (mt Int32.lt_iff_toInt_lt.mp (by have e0 : (3 : Int32).toInt = 3 := (by decide); omega))) (fun _ => ?_)
  refine lv_iload_n hx hb dX7_rate_10 rfl (lv_at hl 2 rfl) ?_
  refine lv_iconst (v := 1) hx hb dX7_rate_11 (by decide) ?_
  refine lv_icmp_lt (tgt := 21) hx hb dX7_rate_12 (by decide) (fun h12 => absurd h12 (mt Int32.lt_iff_toInt_lt.mp (by have e1 : (1 : Int32).toInt = 1 := (by decide); omega))) (fun _ => ?_)
  refine lv_iload_n hx hb dX7_rate_15 rfl (lv_at hl 2 rfl) ?_
  refine lv_ldc hx hb hC.2.2.2.1 (hC.2.2.2.2 _ w154) dX7_rate_16 ?_
  refine lv_icmp_le (tgt := 31) hx hb dX7_rate_18 (by decide) (fun _ => ?_) (fun h18 => absurd (Int32.le_iff_toInt_le.mpr (by have e0 : (100000 : Int32).toInt = 100000 := (by decide); omega)) h18)
  refine lv_aload_n hx hb dX7_rate_31 rfl (lv_at hl 0 rfl) ?_
  refine bw_get (C := RX7) (T := TX7) (N := 10) (ci := 7) (v := .ref (a 1)) 0 (by decide) 0 hC hG iwX7 (xw_0 κ a) rfl w16 rfl rfl dX7_rate_32 ?_
  refine lv_iload_n hx hb dX7_rate_35 rfl (lv_at hl 1 rfl) ?_
  have cut36 : Cut (xw κ a) (xw κ a) ([]) := (Cut.all 45 rfl (by decide))
  refine zc_i hG cut36 (zr_V (k := 1) (ci := 0) (n := 1) (As := [.int x0]) (rest := []) hC hG hE hT cut36 (z_20_anyIn l hst D κ E0 H.size a x0 ⟨by omega, by omega⟩) rfl rfl w156 w15 w159 w157 w158 (by decide +kernel) ⟨Nat.le_of_ble_eq_true rfl, Nat.le_of_ble_eq_true rfl⟩ rfl hl.1 rfl (Nat.le_of_ble_eq_true rfl) dX7_rate_36 ⟨Nat.le_of_ble_eq_true rfl, Nat.le_of_ble_eq_true rfl⟩) (fun z1 H locs hG => ?_)
  have hG : BW D κ (xw κ a) _ s H locs := hG
  refine lv_if_eq (tgt := 52) hx hb dX7_rate_39 (by decide) (fun _ => ?_) (fun h39 => absurd (by decide) h39)
  refine lv_aload_n hx hb dX7_rate_52 rfl (lv_at hl 0 rfl) ?_
  refine bw_get (C := RX7) (T := TX7) (N := 10) (ci := 7) (v := .ref (a 1)) 0 (by decide) 0 hC hG iwX7 (xw_0 κ a) rfl w16 rfl rfl dX7_rate_53 ?_
  refine bw_get (C := RX0) (T := TX0) (N := 6) (ci := 0) (v := .ref (a 2)) 0 (by decide) 1 hC hG iwX0 (xw_1 κ a) rfl w155 rfl rfl dX7_rate_56 ?_
  refine lv_iload_n hx hb dX7_rate_59 rfl (lv_at hl 1 rfl) ?_
  refine zs_ald 2 (v := 1000) hC hG rfl (vp_box (by omega) (by omega)) rfl dX7_rate_60 ?_
  refine lv_istore_n (lv' := [(3, .int 1000), (0, .ref (a 0)), (1, .int x0), (2, .int x1)]) hx hb dX7_rate_61 rfl hl (by decide) rfl (fun ls hl => ?_)
  refine lv_aload_n hx hb dX7_rate_62 rfl (lv_at hl 1 rfl) ?_
  refine bw_get (C := RX7) (T := TX7) (N := 10) (ci := 7) (v := .ref (a 1)) 0 (by decide) 0 hC hG iwX7 (xw_0 κ a) rfl w16 rfl rfl dX7_rate_63 ?_
  refine bw_get (C := RX0) (T := TX0) (N := 6) (ci := 0) (v := .ref (a 2)) 0 (by decide) 1 hC hG iwX0 (xw_1 κ a) rfl w155 rfl rfl dX7_rate_66 ?_
  refine lv_iload_n hx hb dX7_rate_69 rfl (lv_at hl 2 rfl) ?_
  refine lv_iload_n hx hb dX7_rate_70 rfl (lv_at hl 3 rfl) ?_
  refine zs_ast 2 hC hG rfl (vp_box (by omega) (by omega)) dX7_rate_71 (fun H locs hG => ?_)
  have hG : BW D κ ((xw κ a).set 2 (a 2, .inl (κ.1, 4, .inl (va_up (fun _ => 1000) ((x0 : Int32).toNatClampNeg) x1)))) _ s H locs := hG
  refine lv_iload_n hx hb dX7_rate_72 rfl (lv_at hl 0 rfl) ?_
  have hG := hG.at (ws' := []) [] (by decide) rfl
  exact ze_i (qs := fun _ => 0) hC hG rfl rfl hr rfl hk (Nat.le_of_ble_eq_true rfl) (Nat.le_of_ble_eq_true rfl) dX7_rate_73
theorem dL_rate_10 : decode cL_rate 10 = .ok (.goto 11, 3) := by decide +kernel
theorem dL_rate_21 : decode cL_rate 21 = .ok (.iconst 0, 1) := by decide +kernel
theorem dL_rate_22 : decode cL_rate 22 = .ok (.ireturn, 1) := by decide +kernel
theorem dL_rate_8 : decode cL_rate 8 = .ok (.i2l, 1) := by decide +kernel
theorem dL_rate_9 : decode cL_rate 9 = .ok (.lastore, 1) := by decide +kernel
set_option maxHeartbeats 4000000 in
set_option maxRecDepth 100000 in
theorem z_22_rate (l : Launch) (hst : l.stackTraces = false) (D : va_G) (κ : K4) (E0 : Nat) (sz : Nat) (a : Nat → Nat) (x0 : Int32) (x1 : Int32) (o : Nat) (k_x0 : 1 ≤ x0.toInt ∧ x0.toInt ≤ 3) (k_x1 : 1 ≤ x1.toInt ∧ x1.toInt ≤ 100000) : NH l yL_rate cL_rate 5 (some .int) [(0, 10, 13, 13), (0, 10, 17, 15)] 2 45 0 0 E0 D κ (xw κ a ++ [(o, .inl (κ.2.1, 1, .inr (.inl (fun _ => 0))))]) sz [.ref (a 0), .int x0, .int x1, .ref o] (QI D κ (xw κ a ++ [(o, .inl (κ.2.1, 1, .inr (.inl (fun _ => 0))))]) sz 0 (fun qs : W1 => [(o, .inl (κ.2.1, 1, .inr (.inl (va_up (fun _ => 0) ((0 : Int32).toNatClampNeg) 1000))))])) := by
  refine NH.of (by decide +kernel) (Nat.le_of_ble_eq_true rfl) ?_
  intro p e s m below meth c ls hC hr hk htab hsz hE hT H locs hG hl
  have hx := hC.1
  have hb := hC.2.1
  have hl : lv_has ls 5 [(0, .ref (a 0)), (1, .int x0), (2, .int x1), (3, .ref o)] := hl
  refine lv_aload_n hx hb dL_rate_0 rfl (lv_at hl 3 rfl) ?_
  refine lv_iconst (v := 0) hx hb dL_rate_1 (by decide) ?_
  refine lv_aload_n hx hb dL_rate_2 rfl (lv_at hl 0 rfl) ?_
  refine lv_iload_n hx hb dL_rate_3 rfl (lv_at hl 1 rfl) ?_
  refine lv_iload_n hx hb dL_rate_4 rfl (lv_at hl 2 rfl) ?_
  have cut5 : Cut (xw κ a ++ [(o, .inl (κ.2.1, 1, .inr (.inl (fun _ => 0))))]) (xw κ a) ([(o, .inl (κ.2.1, 1, .inr (.inl (fun _ => 0))))]) := (Cut.one 45 rfl (by decide))
  refine zc_i hG cut5 (zr_V (k := 0) (ci := 7) (n := 2) (As := [.int x0, .int x1]) (rest := [.int 0, .ref o]) hC hG hE hT cut5 (z_21_rate l hst D κ E0 H.size a x0 x1 ⟨by omega, by omega⟩ ⟨by omega, by omega⟩) rfl rfl w146 w2 w149 w147 w148 (by decide +kernel) ⟨Nat.le_of_ble_eq_true rfl, Nat.le_of_ble_eq_true rfl⟩ rfl hl.1 rfl (Nat.le_of_ble_eq_true rfl) dL_rate_5 ⟨Nat.le_of_ble_eq_true rfl, Nat.le_of_ble_eq_true rfl⟩) (fun z1 H locs hG => ?_)
  have hG : BW D κ ([(o, .inl (κ.2.1, 1, .inr (.inl (fun _ => 0))))]) _ s H locs := hG
  refine lv_i2l (v := 1000) hx hb dL_rate_8 (by decide) ?_
  refine zs_lst 0 hC hG rfl (vp_box (by have e0 : (0 : Int32).toInt = 0 := (by decide); omega) (by have e0 : (0 : Int32).toInt = 0 := (by decide); omega)) dL_rate_9 (fun H locs hG => ?_)
  have hG : BW D κ (([(o, .inl (κ.2.1, 1, .inr (.inl (fun _ => 0))))]).set 0 (o, .inl (κ.2.1, 1, .inr (.inl (va_up (fun _ => 0) ((0 : Int32).toNatClampNeg) 1000))))) _ s H locs := hG
  refine lv_goto (tgt := 21) hx hb dL_rate_10 (by decide) ?_
  refine lv_iconst (v := 0) hx hb dL_rate_21 (by decide) ?_
  exact ze_i (qs := fun _ => 0) hC hG rfl rfl hr rfl hk (Nat.le_of_ble_eq_true rfl) (Nat.le_of_ble_eq_true rfl) dL_rate_22
set_option maxHeartbeats 4000000 in
set_option maxRecDepth 100000 in
theorem z_23_isIn (l : Launch) (hst : l.stackTraces = false) (D : va_G) (κ : K4) (E0 : Nat) (sz : Nat) (b : Nat → Nat) (x0 : Int32) (k_x0 : 1 ≤ x0.toInt ∧ x0.toInt ≤ 100000) : NM l yX14_isIn cX14_isIn 3 (some .boolean) 0 0 0 0 E0 D κ (mw κ b E0 0) sz [.int x0, .int 1, .int 100000] (QI D κ (mw κ b E0 0) sz 1 (fun qs : W1 => mw κ b E0 0)) := by
  refine NM.of (by decide +kernel) (Nat.le_of_ble_eq_true rfl) ?_
  intro p e s m below meth c ls hC hr hk hin hsz hE hT H locs hG hl
  have hx := hC.1
  have hb := hC.2.1
  have hl : lv_has ls 3 [(0, .int x0), (1, .int 1), (2, .int 100000)] := hl
  refine lv_iload_n hx hb dX14_isIn_0 rfl (lv_at hl 0 rfl) ?_
  refine lv_iload_n hx hb dX14_isIn_1 rfl (lv_at hl 1 rfl) ?_
  refine lv_icmp_lt (tgt := 14) hx hb dX14_isIn_2 (by decide) (fun h2 => absurd h2 (mt Int32.lt_iff_toInt_lt.mp (by have e1 : (1 : Int32).toInt = 1 := (by decide); omega))) (fun _ => ?_)
  refine lv_iload_n hx hb dX14_isIn_5 rfl (lv_at hl 0 rfl) ?_
  refine lv_iload_n hx hb dX14_isIn_6 rfl (lv_at hl 2 rfl) ?_
  refine lv_icmp_gt (tgt := 14) hx hb dX14_isIn_7 (by decide) (fun h7 => absurd h7 (mt Int32.lt_iff_toInt_lt.mp (by have e0 : (100000 : Int32).toInt = 100000 := (by decide); omega))) (fun _ => ?_)
  refine lv_iconst (v := 1) hx hb dX14_isIn_10 (by decide) ?_
  refine lv_goto (tgt := 15) hx hb dX14_isIn_11 (by decide) ?_
  exact ze_i (qs := fun _ => 0) hC hG rfl rfl hr rfl hk (Nat.le_of_ble_eq_true rfl) (Nat.le_of_ble_eq_true rfl) dX14_isIn_15
end
section
theorem dX14_refuse_27 : decode cX14_refuse 27 = .ok (.iconst 0, 1) := by decide +kernel
set_option maxHeartbeats 4000000 in
set_option maxRecDepth 100000 in
theorem z_24_refuse (l : Launch) (hst : l.stackTraces = false) (D : va_G) (κ : K4) (E0 : Nat) (sz : Nat) (b : Nat → Nat) : NM l yX14_refuse cX14_refuse 3 (some .boolean) 0 0 0 0 E0 D κ (mw κ b E0 0) sz [.ref (b 0), .int 0, .int 1] (QI D κ (mw κ b E0 0) sz 0 (fun qs : W1 => mw κ b E0 0)) := by
  refine NM.of (by decide +kernel) (Nat.le_of_ble_eq_true rfl) ?_
  intro p e s m below meth c ls hC hr hk hin hsz hE hT H locs hG hl
  have hx := hC.1
  have hb := hC.2.1
  have hl : lv_has ls 3 [(0, .ref (b 0)), (1, .int 0), (2, .int 1)] := hl
  refine lv_iload_n hx hb dX14_refuse_0 rfl (lv_at hl 1 rfl) ?_
  refine lv_if_eq (tgt := 16) hx hb dX14_refuse_1 (by decide) (fun _ => ?_) (fun h1 => absurd (by decide) h1)
  refine lv_aload_n hx hb dX14_refuse_16 rfl (lv_at hl 0 rfl) ?_
  refine bw_get (C := RX14) (T := TX14) (N := 15) (ci := 9) (v := .int 0) 0 (by decide) 0 hC hG iwX14 rfl rfl w174 rfl rfl dX14_refuse_17 ?_
  refine lv_if_le (tgt := 27) hx hb dX14_refuse_20 (by decide) (fun _ => ?_) (fun h20 => absurd (by decide) h20)
  refine lv_iconst (v := 0) hx hb dX14_refuse_27 (by decide) ?_
  exact ze_i (qs := fun _ => 0) hC hG rfl rfl hr rfl hk (Nat.le_of_ble_eq_true rfl) (Nat.le_of_ble_eq_true rfl) dX14_refuse_28
set_option maxHeartbeats 4000000 in
set_option maxRecDepth 100000 in
theorem z_25_start (l : Launch) (hst : l.stackTraces = false) (D : va_G) (κ : K4) (E0 : Nat) (sz : Nat) (b : Nat → Nat) : NM l yX14_start cX14_start 3 (some .boolean) 1 22 0 0 E0 D κ (mw κ b E0 0) sz [.ref (b 0), .int 0, .int 1] (QI D κ (mw κ b E0 0) sz 0 (fun qs : W1 => mw κ b E0 0)) := by
  refine NM.of (by decide +kernel) (Nat.le_of_ble_eq_true rfl) ?_
  intro p e s m below meth c ls hC hr hk hin hsz hE hT H locs hG hl
  have hx := hC.1
  have hb := hC.2.1
  have hl : lv_has ls 3 [(0, .ref (b 0)), (1, .int 0), (2, .int 1)] := hl
  refine lv_aload_n hx hb dX14_start_0 rfl (lv_at hl 0 rfl) ?_
  refine lv_iconst (v := 0) hx hb dX14_start_1 (by decide) ?_
  refine bw_put (C := RX14) (T := TX14) (N := 15) (ci := 9) (ty0 := tyX14) (ty := .int) (v := .int 0) 0 (by decide) 0 hC hG iwX14 tyX14_ok nmX14 rfl rfl w174 rfl (Or.inl rfl) (by decide +kernel) rfl rfl (Nat.le_of_ble_eq_true rfl) dX14_start_2 (fun H locs hG => ?_)
  have hG : BW D κ (mw κ b E0 0) _ s H locs := hG
  refine lv_aload_n hx hb dX14_start_5 rfl (lv_at hl 0 rfl) ?_
  refine lv_iload_n hx hb dX14_start_6 rfl (lv_at hl 1 rfl) ?_
  refine lv_iload_n hx hb dX14_start_7 rfl (lv_at hl 2 rfl) ?_
  have cut8 : Cut (mw κ b E0 0) (mw κ b E0 0) ([]) := (Cut.all 9 rfl (by decide))
  refine zc_i hG cut8 (zr_V (k := 0) (ci := 9) (n := 2) (As := [.int 0, .int 1]) (rest := []) hC hG hE hT cut8 (z_24_refuse l hst D κ E0 H.size b) rfl rfl w175 w5 w178 w176 w177 (by decide +kernel) ⟨Nat.le_of_ble_eq_true rfl, Nat.le_of_ble_eq_true rfl⟩ rfl hl.1 rfl (Nat.le_of_ble_eq_true rfl) dX14_start_8 ⟨Nat.le_of_ble_eq_true rfl, Nat.le_of_ble_eq_true rfl⟩) (fun z1 H locs hG => ?_)
  have hG : BW D κ (mw κ b E0 0) _ s H locs := hG
  exact ze_i (qs := fun _ => 0) hC hG rfl rfl hr rfl hk (Nat.le_of_ble_eq_true rfl) (Nat.le_of_ble_eq_true rfl) dX14_start_11
theorem dJx4a65c_size_8abf5_0 : decode cJx4a65c_size_8abf5 0 = .ok (.aload_n 0, 1) := by decide +kernel
theorem dJx4a65c_size_8abf5_1 : decode cJx4a65c_size_8abf5 1 = .ok (.getfield 48, 3) := by decide +kernel
theorem dJx4a65c_size_8abf5_4 : decode cJx4a65c_size_8abf5 4 = .ok (.ireturn, 1) := by decide +kernel
set_option maxHeartbeats 4000000 in
set_option maxRecDepth 100000 in
theorem z_26_size (l : Launch) (hst : l.stackTraces = false) (D : va_G) (κ : K4) (E0 : Nat) (sz : Nat) (h0 : Nat) (h1 : Nat) (h2 : Nat) (h3 : Nat) (h4 : Nat) (h5 : Nat) (h6 : Nat) (h7 : Nat) (h8 : Nat) : NM l yJx4a65c_size_8abf5 cJx4a65c_size_8abf5 1 (some .int) 0 0 0 0 E0 D κ ([(h1, .inr (9, [.int 0, .ref h2, .ref h0, .ref h3, .ref h4, .ref h5, .ref h6, .ref h7, .null, .int 0, .int (-1), .int 0, .int 0, .int 0, .ref h8])), (h2, .inl (κ.1, 4, .inl (fun _ => 1000))), (h0, .inr (10, [.int 0, .ref E0, .int 0])), (h3, .inr (10, [.int 0, .ref E0, .int 0])), (h4, .inr (10, [.int 0, .ref E0, .int 0])), (h5, .inr (10, [.int 0, .ref E0, .int 0])), (h6, .inr (10, [.int 0, .ref E0, .int 0])), (h7, .inr (10, [.int 0, .ref E0, .int 0])), (h8, .inr (10, [.int 0, .ref E0, .int 0]))]) sz [.ref h0] (QI D κ ([(h1, .inr (9, [.int 0, .ref h2, .ref h0, .ref h3, .ref h4, .ref h5, .ref h6, .ref h7, .null, .int 0, .int (-1), .int 0, .int 0, .int 0, .ref h8])), (h2, .inl (κ.1, 4, .inl (fun _ => 1000))), (h0, .inr (10, [.int 0, .ref E0, .int 0])), (h3, .inr (10, [.int 0, .ref E0, .int 0])), (h4, .inr (10, [.int 0, .ref E0, .int 0])), (h5, .inr (10, [.int 0, .ref E0, .int 0])), (h6, .inr (10, [.int 0, .ref E0, .int 0])), (h7, .inr (10, [.int 0, .ref E0, .int 0])), (h8, .inr (10, [.int 0, .ref E0, .int 0]))]) sz 0 (fun qs : W1 => [(h1, .inr (9, [.int 0, .ref h2, .ref h0, .ref h3, .ref h4, .ref h5, .ref h6, .ref h7, .null, .int 0, .int (-1), .int 0, .int 0, .int 0, .ref h8])), (h2, .inl (κ.1, 4, .inl (fun _ => 1000))), (h0, .inr (10, [.int 0, .ref E0, .int 0])), (h3, .inr (10, [.int 0, .ref E0, .int 0])), (h4, .inr (10, [.int 0, .ref E0, .int 0])), (h5, .inr (10, [.int 0, .ref E0, .int 0])), (h6, .inr (10, [.int 0, .ref E0, .int 0])), (h7, .inr (10, [.int 0, .ref E0, .int 0])), (h8, .inr (10, [.int 0, .ref E0, .int 0]))])) := by
  refine NM.of (by decide +kernel) (Nat.le_of_ble_eq_true rfl) ?_
  intro p e s m below meth c ls hC hr hk hin hsz hE hT H locs hG hl
  have hx := hC.1
  have hb := hC.2.1
  have hl : lv_has ls 1 [(0, .ref h0)] := hl
  refine lv_aload_n hx hb dJx4a65c_size_8abf5_0 rfl (lv_at hl 0 rfl) ?_
  refine bw_get (C := RJx4a65c) (T := TJx4a65c) (N := 3) (ci := 10) (v := .int 0) 2 (by decide) 2 hC hG iwJA rfl rfl w183 rfl rfl dJx4a65c_size_8abf5_1 ?_
  exact ze_i (qs := fun _ => 0) hC hG rfl rfl hr rfl hk (Nat.le_of_ble_eq_true rfl) (Nat.le_of_ble_eq_true rfl) dJx4a65c_size_8abf5_4
set_option maxHeartbeats 4000000 in
set_option maxRecDepth 100000 in
theorem z_27_refuse (l : Launch) (hst : l.stackTraces = false) (D : va_G) (κ : K4) (E0 : Nat) (sz : Nat) (b : Nat → Nat) : NM l yX14_refuse cX14_refuse 3 (some .boolean) 0 0 0 0 E0 D κ (mw κ b E0 0) sz [.ref (b 0), .int 0, .int 2] (QI D κ (mw κ b E0 0) sz 0 (fun qs : W1 => mw κ b E0 0)) := by
  refine NM.of (by decide +kernel) (Nat.le_of_ble_eq_true rfl) ?_
  intro p e s m below meth c ls hC hr hk hin hsz hE hT H locs hG hl
  have hx := hC.1
  have hb := hC.2.1
  have hl : lv_has ls 3 [(0, .ref (b 0)), (1, .int 0), (2, .int 2)] := hl
  refine lv_iload_n hx hb dX14_refuse_0 rfl (lv_at hl 1 rfl) ?_
  refine lv_if_eq (tgt := 16) hx hb dX14_refuse_1 (by decide) (fun _ => ?_) (fun h1 => absurd (by decide) h1)
  refine lv_aload_n hx hb dX14_refuse_16 rfl (lv_at hl 0 rfl) ?_
  refine bw_get (C := RX14) (T := TX14) (N := 15) (ci := 9) (v := .int 0) 0 (by decide) 0 hC hG iwX14 rfl rfl w174 rfl rfl dX14_refuse_17 ?_
  refine lv_if_le (tgt := 27) hx hb dX14_refuse_20 (by decide) (fun _ => ?_) (fun h20 => absurd (by decide) h20)
  refine lv_iconst (v := 0) hx hb dX14_refuse_27 (by decide) ?_
  exact ze_i (qs := fun _ => 0) hC hG rfl rfl hr rfl hk (Nat.le_of_ble_eq_true rfl) (Nat.le_of_ble_eq_true rfl) dX14_refuse_28
theorem dX14_rate_100 : decode cX14_rate 100 = .ok (.iaload, 1) := by decide +kernel
theorem dX14_rate_101 : decode cX14_rate 101 = .ok (.istore 4, 2) := by decide +kernel
theorem dX14_rate_103 : decode cX14_rate 103 = .ok (.aload_n 0, 1) := by decide +kernel
theorem dX14_rate_104 : decode cX14_rate 104 = .ok (.getfield 7, 3) := by decide +kernel
theorem dX14_rate_107 : decode cX14_rate 107 = .ok (.iload_n 1, 1) := by decide +kernel
theorem dX14_rate_108 : decode cX14_rate 108 = .ok (.iload_n 2, 1) := by decide +kernel
theorem dX14_rate_109 : decode cX14_rate 109 = .ok (.iastore, 1) := by decide +kernel
theorem dX14_rate_110 : decode cX14_rate 110 = .ok (.iload 4, 2) := by decide +kernel
theorem dX14_rate_112 : decode cX14_rate 112 = .ok (.ireturn, 1) := by decide +kernel
theorem dX14_rate_24 : decode cX14_rate 24 = .ok (.iconst 0, 1) := by decide +kernel
theorem dX14_rate_34 : decode cX14_rate 34 = .ok (.iconst 0, 1) := by decide +kernel
theorem dX14_rate_35 : decode cX14_rate 35 = .ok (.istore_n 3, 1) := by decide +kernel
theorem dX14_rate_36 : decode cX14_rate 36 = .ok (.iconst 0, 1) := by decide +kernel
theorem dX14_rate_37 : decode cX14_rate 37 = .ok (.istore 4, 2) := by decide +kernel
theorem dX14_rate_39 : decode cX14_rate 39 = .ok (.iload 4, 2) := by decide +kernel
theorem dX14_rate_41 : decode cX14_rate 41 = .ok (.aload_n 0, 1) := by decide +kernel
theorem dX14_rate_42 : decode cX14_rate 42 = .ok (.getfield 16, 3) := by decide +kernel
theorem dX14_rate_45 : decode cX14_rate 45 = .ok (.invokevirtual 49, 3) := by decide +kernel
theorem dX14_rate_48 : decode cX14_rate 48 = .ok (.if_icmp .ge 36, 3) := by decide +kernel
theorem dX14_rate_84 : decode cX14_rate 84 = .ok (.aload_n 0, 1) := by decide +kernel
theorem dX14_rate_85 : decode cX14_rate 85 = .ok (.iload_n 3, 1) := by decide +kernel
theorem dX14_rate_86 : decode cX14_rate 86 = .ok (.iconst 2, 1) := by decide +kernel
theorem dX14_rate_87 : decode cX14_rate 87 = .ok (.invokevirtual 45, 3) := by decide +kernel
theorem dX14_rate_90 : decode cX14_rate 90 = .ok (.ifCond .eq 5, 3) := by decide +kernel
theorem dX14_rate_95 : decode cX14_rate 95 = .ok (.aload_n 0, 1) := by decide +kernel
theorem dX14_rate_96 : decode cX14_rate 96 = .ok (.getfield 7, 3) := by decide +kernel
theorem dX14_rate_99 : decode cX14_rate 99 = .ok (.iload_n 1, 1) := by decide +kernel
set_option maxHeartbeats 4000000 in
set_option maxRecDepth 100000 in
theorem z_28_rate (l : Launch) (hst : l.stackTraces = false) (D : va_G) (κ : K4) (E0 : Nat) (sz : Nat) (b : Nat → Nat) (x0 : Int32) (x1 : Int32) (k_x0 : 1 ≤ x0.toInt ∧ x0.toInt ≤ 3) (k_x1 : 1 ≤ x1.toInt ∧ x1.toInt ≤ 100000) : NM l yX14_rate cX14_rate 5 (some .int) 2 44 0 0 E0 D κ (mw κ b E0 0) sz [.ref (b 0), .int x0, .int x1] (QI D κ (mw κ b E0 0) sz 1000 (fun qs : W1 => [(b 0, .inr (9, [.int 0, .ref (b 1), .ref (b 2), .ref (b 3), .ref (b 4), .ref (b 5), .ref (b 6), .ref (b 7), .null, .int 0, .int (-1), .int 0, .int 0, .int 0, .ref (b 8)]))])) := by
  refine NM.of (by decide +kernel) (Nat.le_of_ble_eq_true rfl) ?_
  intro p e s m below meth c ls hC hr hk hin hsz hE hT H locs hG hl
  have hx := hC.1
  have hb := hC.2.1
  have hl : lv_has ls 5 [(0, .ref (b 0)), (1, .int x0), (2, .int x1)] := hl
  refine lv_aload_n hx hb dX14_rate_0 rfl (lv_at hl 0 rfl) ?_
  refine lv_iload_n hx hb dX14_rate_1 rfl (lv_at hl 1 rfl) ?_
  refine lv_iconst (v := 1) hx hb dX14_rate_2 (by decide) ?_
  refine lv_iconst (v := 3) hx hb dX14_rate_3 (by decide) ?_
  have cut4 : Cut (mw κ b E0 0) (mw κ b E0 0) ([]) := (Cut.all 9 rfl (by decide))
  refine zc_i hG cut4 (zr_S (n := 3) (As := [.int x0, .int 1, .int 3]) (rest := [.ref (b 0)]) hC hG hE hT cut4 (z_13_isIn l hst D κ E0 H.size b x0 ⟨by omega, by omega⟩) w167 w5 w169 w168 (by decide +kernel) ⟨Nat.le_of_ble_eq_true rfl, Nat.le_of_ble_eq_true rfl⟩ rfl hl.1 rfl (Nat.le_of_ble_eq_true rfl) dX14_rate_4 ⟨Nat.le_of_ble_eq_true rfl, Nat.le_of_ble_eq_true rfl⟩) (fun z1 H locs hG => ?_)
  have hG : BW D κ (mw κ b E0 0) _ s H locs := hG
  refine lv_if_eq (tgt := 20) hx hb dX14_rate_7 (by decide) (fun h7 => absurd h7 (by decide)) (fun _ => ?_)
  refine lv_iload_n hx hb dX14_rate_10 rfl (lv_at hl 2 rfl) ?_
  refine lv_iconst (v := 1) hx hb dX14_rate_11 (by decide) ?_
  refine lv_ldc hx hb hC.2.2.2.1 (hC.2.2.2.2 _ w164) dX14_rate_12 ?_
  have cut14 : Cut (mw κ b E0 0) (mw κ b E0 0) ([]) := (Cut.all 9 rfl (by decide))
  refine zc_i hG cut14 (zr_S (n := 3) (As := [.int x1, .int 1, .int 100000]) (rest := [.ref (b 0)]) hC hG hE hT cut14 (z_23_isIn l hst D κ E0 H.size b x1 ⟨by omega, by omega⟩) w167 w5 w169 w168 (by decide +kernel) ⟨Nat.le_of_ble_eq_true rfl, Nat.le_of_ble_eq_true rfl⟩ rfl hl.1 rfl (Nat.le_of_ble_eq_true rfl) dX14_rate_14 ⟨Nat.le_of_ble_eq_true rfl, Nat.le_of_ble_eq_true rfl⟩) (fun z2 H locs hG => ?_)
  have hG : BW D κ (mw κ b E0 0) _ s H locs := hG
  refine lv_if_ne (tgt := 24) hx hb dX14_rate_17 (by decide) (fun _ => ?_) (fun h17 => absurd h17 (by decide))
  refine lv_iconst (v := 0) hx hb dX14_rate_24 (by decide) ?_
  refine lv_iconst (v := 1) hx hb dX14_rate_25 (by decide) ?_
  have cut26 : Cut (mw κ b E0 0) (mw κ b E0 0) ([]) := (Cut.all 9 rfl (by decide))
  refine zc_i hG cut26 (zr_V (k := 0) (ci := 9) (n := 2) (As := [.int 0, .int 1]) (rest := []) hC hG hE hT cut26 (z_25_start l hst D κ E0 H.size b) rfl rfl w170 w5 w173 w171 w172 (by decide +kernel) ⟨Nat.le_of_ble_eq_true rfl, Nat.le_of_ble_eq_true rfl⟩ rfl hl.1 rfl (Nat.le_of_ble_eq_true rfl) dX14_rate_26 ⟨Nat.le_of_ble_eq_true rfl, Nat.le_of_ble_eq_true rfl⟩) (fun z3 H locs hG => ?_)
  have hG : BW D κ (mw κ b E0 0) _ s H locs := hG
  refine lv_if_eq (tgt := 34) hx hb dX14_rate_29 (by decide) (fun _ => ?_) (fun h29 => absurd (by decide) h29)
  refine lv_iconst (v := 0) hx hb dX14_rate_34 (by decide) ?_
  refine lv_istore_n (lv' := [(3, .int 0), (0, .ref (b 0)), (1, .int x0), (2, .int x1)]) hx hb dX14_rate_35 rfl hl (by decide) rfl (fun ls hl => ?_)
  refine lv_iconst (v := 0) hx hb dX14_rate_36 (by decide) ?_
  refine lv_istore (lv' := [(4, .int 0), (3, .int 0), (0, .ref (b 0)), (1, .int x0), (2, .int x1)]) hx hb dX14_rate_37 hl (by decide) rfl (fun ls hl => ?_)
  refine lv_iload hx hb dX14_rate_39 (lv_at hl 0 rfl) ?_
  refine lv_aload_n hx hb dX14_rate_41 rfl (lv_at hl 2 rfl) ?_
  refine bw_get (C := RX14) (T := TX14) (N := 15) (ci := 9) (v := .ref (b 2)) 2 (by decide) 0 hC hG iwX14 rfl rfl w118 rfl rfl dX14_rate_42 ?_
  have cut45 : Cut (mw κ b E0 0) (mw κ b E0 0) ([]) := (Cut.all 9 rfl (by decide))
  refine zc_i hG cut45 (zr_V (k := 2) (ci := 10) (n := 0) (As := []) (rest := [.int 0]) hC hG hE hT cut45 (z_26_size l hst D κ E0 H.size (b 2) (b 0) (b 1) (b 3) (b 4) (b 5) (b 6) (b 7) (b 8)) rfl rfl w179 w117 w182 w180 w181 (by decide +kernel) ⟨Nat.le_of_ble_eq_true rfl, Nat.le_of_ble_eq_true rfl⟩ rfl hl.1 rfl (Nat.le_of_ble_eq_true rfl) dX14_rate_45 ⟨Nat.le_of_ble_eq_true rfl, Nat.le_of_ble_eq_true rfl⟩) (fun z4 H locs hG => ?_)
  have hG : BW D κ (mw κ b E0 0) _ s H locs := hG
  refine lv_icmp_ge (tgt := 84) hx hb dX14_rate_48 (by decide) (fun _ => ?_) (fun h48 => absurd (by decide) h48)
  refine lv_aload_n hx hb dX14_rate_84 rfl (lv_at hl 2 rfl) ?_
  refine lv_iload_n hx hb dX14_rate_85 rfl (lv_at hl 1 rfl) ?_
  refine lv_iconst (v := 2) hx hb dX14_rate_86 (by decide) ?_
  have cut87 : Cut (mw κ b E0 0) (mw κ b E0 0) ([]) := (Cut.all 9 rfl (by decide))
  refine zc_i hG cut87 (zr_V (k := 0) (ci := 9) (n := 2) (As := [.int 0, .int 2]) (rest := []) hC hG hE hT cut87 (z_27_refuse l hst D κ E0 H.size b) rfl rfl w175 w5 w178 w176 w177 (by decide +kernel) ⟨Nat.le_of_ble_eq_true rfl, Nat.le_of_ble_eq_true rfl⟩ rfl hl.1 rfl (Nat.le_of_ble_eq_true rfl) dX14_rate_87 ⟨Nat.le_of_ble_eq_true rfl, Nat.le_of_ble_eq_true rfl⟩) (fun z5 H locs hG => ?_)
  have hG : BW D κ (mw κ b E0 0) _ s H locs := hG
  refine lv_if_eq (tgt := 95) hx hb dX14_rate_90 (by decide) (fun _ => ?_) (fun h90 => absurd (by decide) h90)
  refine lv_aload_n hx hb dX14_rate_95 rfl (lv_at hl 2 rfl) ?_
  refine bw_get (C := RX14) (T := TX14) (N := 15) (ci := 9) (v := .ref (b 1)) 1 (by decide) 0 hC hG iwX14 rfl rfl w114 rfl rfl dX14_rate_96 ?_
  refine lv_iload_n hx hb dX14_rate_99 rfl (lv_at hl 3 rfl) ?_
  refine zs_ald 1 (v := 1000) hC hG rfl (vp_box (by omega) (by omega)) rfl dX14_rate_100 ?_
  refine lv_istore (lv' := [(4, .int 1000), (3, .int 0), (0, .ref (b 0)), (1, .int x0), (2, .int x1)]) hx hb dX14_rate_101 hl (by decide) rfl (fun ls hl => ?_)
  refine lv_aload_n hx hb dX14_rate_103 rfl (lv_at hl 2 rfl) ?_
  refine bw_get (C := RX14) (T := TX14) (N := 15) (ci := 9) (v := .ref (b 1)) 1 (by decide) 0 hC hG iwX14 rfl rfl w114 rfl rfl dX14_rate_104 ?_
  refine lv_iload_n hx hb dX14_rate_107 rfl (lv_at hl 3 rfl) ?_
  refine lv_iload_n hx hb dX14_rate_108 rfl (lv_at hl 4 rfl) ?_
  refine zs_ast 1 hC hG rfl (vp_box (by omega) (by omega)) dX14_rate_109 (fun H locs hG => ?_)
  have hG : BW D κ ((mw κ b E0 0).set 1 (b 1, .inl (κ.1, 4, .inl (va_up (fun _ => 1000) ((x0 : Int32).toNatClampNeg) x1)))) _ s H locs := hG
  refine lv_iload hx hb dX14_rate_110 (lv_at hl 0 rfl) ?_
  have hG := hG.at (ws' := [(b 0, .inr (9, [.int 0, .ref (b 1), .ref (b 2), .ref (b 3), .ref (b 4), .ref (b 5), .ref (b 6), .ref (b 7), .null, .int 0, .int (-1), .int 0, .int 0, .int 0, .ref (b 8)]))]) [0] (by decide) rfl
  exact ze_i (qs := fun _ => 0) hC hG rfl rfl hr rfl hk (Nat.le_of_ble_eq_true rfl) (Nat.le_of_ble_eq_true rfl) dX14_rate_112
set_option maxHeartbeats 4000000 in
set_option maxRecDepth 100000 in
theorem z_29_thrown (l : Launch) (hst : l.stackTraces = false) (D : va_G) (κ : K4) (E0 : Nat) (sz : Nat) (b : Nat → Nat) : NM l yX14_thrown cX14_thrown 1 (some .int) 0 0 0 0 E0 D κ ([(b 0, .inr (9, [.int 0, .ref (b 1), .ref (b 2), .ref (b 3), .ref (b 4), .ref (b 5), .ref (b 6), .ref (b 7), .null, .int 0, .int (-1), .int 0, .int 0, .int 0, .ref (b 8)]))]) sz [.ref (b 0)] (QI D κ ([(b 0, .inr (9, [.int 0, .ref (b 1), .ref (b 2), .ref (b 3), .ref (b 4), .ref (b 5), .ref (b 6), .ref (b 7), .null, .int 0, .int (-1), .int 0, .int 0, .int 0, .ref (b 8)]))]) sz 0 (fun qs : W1 => [(b 0, .inr (9, [.int 0, .ref (b 1), .ref (b 2), .ref (b 3), .ref (b 4), .ref (b 5), .ref (b 6), .ref (b 7), .null, .int 0, .int (-1), .int 0, .int 0, .int 0, .ref (b 8)]))])) := by
  refine NM.of (by decide +kernel) (Nat.le_of_ble_eq_true rfl) ?_
  intro p e s m below meth c ls hC hr hk hin hsz hE hT H locs hG hl
  have hx := hC.1
  have hb := hC.2.1
  have hl : lv_has ls 1 [(0, .ref (b 0))] := hl
  refine lv_aload_n hx hb dX14_thrown_0 rfl (lv_at hl 0 rfl) ?_
  refine bw_get (C := RX14) (T := TX14) (N := 15) (ci := 9) (v := .int 0) 0 (by decide) 0 hC hG iwX14 rfl rfl w174 rfl rfl dX14_thrown_1 ?_
  exact ze_i (qs := fun _ => 0) hC hG rfl rfl hr rfl hk (Nat.le_of_ble_eq_true rfl) (Nat.le_of_ble_eq_true rfl) dX14_thrown_4
theorem dX7_account_0 : decode cX7_account 0 = .ok (.iload_n 1, 1) := by decide +kernel
theorem dX7_account_1 : decode cX7_account 1 = .ok (.ifCond .lt 17, 3) := by decide +kernel
theorem dX7_account_18 : decode cX7_account 18 = .ok (.new 71, 3) := by decide +kernel
theorem dX7_account_21 : decode cX7_account 21 = .ok (.dup, 1) := by decide +kernel
theorem dX7_account_22 : decode cX7_account 22 = .ok (.ldc 91, 2) := by decide +kernel
theorem dX7_account_24 : decode cX7_account 24 = .ok (.invokespecial 75, 3) := by decide +kernel
theorem dX7_account_27 : decode cX7_account 27 = .ok (.athrow, 1) := by decide +kernel
set_option maxHeartbeats 4000000 in
set_option maxRecDepth 100000 in
theorem z_30_account (l : Launch) (hst : l.stackTraces = false) (D : va_G) (κ : K4) (E0 : Nat) (sz : Nat) (a : Nat → Nat) (x0 : Int32) (x1 : Int32) (k_x0 : -2147483648 ≤ x0.toInt ∧ x0.toInt ≤ -1) (k_x1 : -2147483648 ≤ x1.toInt ∧ x1.toInt ≤ 2147483647) : XM l yX7_account cX7_account 3 (some .int) 6 82 1 6 E0 D κ (xw κ a) sz [.ref (a 0), .int x0, .int x1] "java/lang/IllegalArgumentException" (NI (xw κ a) sz) := by
  refine XM.of (by decide +kernel) (Nat.le_of_ble_eq_true rfl) ?_
  intro p e s m below meth c ls hC hk hno hsz hE hT H locs hG hl
  have hx := hC.1
  have hb := hC.2.1
  have hl : lv_has ls 3 [(0, .ref (a 0)), (1, .int x0), (2, .int x1)] := hl
  refine lv_iload_n hx hb dX7_account_0 rfl (lv_at hl 1 rfl) ?_
  refine lv_if_lt (tgt := 18) hx hb dX7_account_1 (by decide) (fun _ => ?_) (fun h1 => absurd (Int32.lt_iff_toInt_lt.mpr (by have e1 : (0 : Int32).toInt = 0 := (by decide); omega)) h1)
  exact th_IA hC hst hE hT hno hk hG hl.1 (List.mem_of_getElem? (i := 11) rfl) w150 w151 dX7_account_18 dX7_account_21 dX7_account_22 dX7_account_24 dX7_account_27 (Nat.le_of_ble_eq_true rfl) (Nat.le_of_ble_eq_true rfl) (Nat.le_of_ble_eq_true rfl) (Nat.le_of_ble_eq_true rfl) (Nat.le_of_ble_eq_true rfl) (Nat.le_of_ble_eq_true rfl)
theorem dL_account_0 : decode cL_account 0 = .ok (.aload_n 3, 1) := by decide +kernel
theorem dL_account_1 : decode cL_account 1 = .ok (.iconst 0, 1) := by decide +kernel
theorem dL_account_13 : decode cL_account 13 = .ok (.astore 4, 2) := by decide +kernel
theorem dL_account_15 : decode cL_account 15 = .ok (.iconst 1, 1) := by decide +kernel
theorem dL_account_16 : decode cL_account 16 = .ok (.ireturn, 1) := by decide +kernel
theorem dL_account_2 : decode cL_account 2 = .ok (.aload_n 0, 1) := by decide +kernel
theorem dL_account_3 : decode cL_account 3 = .ok (.iload_n 1, 1) := by decide +kernel
theorem dL_account_4 : decode cL_account 4 = .ok (.iload_n 2, 1) := by decide +kernel
theorem dL_account_5 : decode cL_account 5 = .ok (.invokevirtual 17, 3) := by decide +kernel
set_option maxHeartbeats 4000000 in
set_option maxRecDepth 100000 in
theorem z_31_account (l : Launch) (hst : l.stackTraces = false) (D : va_G) (κ : K4) (E0 : Nat) (sz : Nat) (a : Nat → Nat) (x0 : Int32) (x1 : Int32) (o : Nat) (k_x0 : -2147483648 ≤ x0.toInt ∧ x0.toInt ≤ -1) (k_x1 : -2147483648 ≤ x1.toInt ∧ x1.toInt ≤ 2147483647) : NH l yL_account cL_account 5 (some .int) [(0, 10, 13, 13), (0, 10, 17, 15)] 7 104 1 6 E0 D κ (xw κ a ++ [(o, .inl (κ.2.1, 1, .inr (.inl (fun _ => 0))))]) sz [.ref (a 0), .int x0, .int x1, .ref o] (QI D κ (xw κ a ++ [(o, .inl (κ.2.1, 1, .inr (.inl (fun _ => 0))))]) sz 1 (fun qs : W1 => [(o, .inl (κ.2.1, 1, .inr (.inl (fun _ => 0))))])) := by
  refine NH.of (by decide +kernel) (Nat.le_of_ble_eq_true rfl) ?_
  intro p e s m below meth c ls hC hr hk htab hsz hE hT H locs hG hl
  have hx := hC.1
  have hb := hC.2.1
  have hl : lv_has ls 5 [(0, .ref (a 0)), (1, .int x0), (2, .int x1), (3, .ref o)] := hl
  refine lv_aload_n hx hb dL_account_0 rfl (lv_at hl 3 rfl) ?_
  refine lv_iconst (v := 0) hx hb dL_account_1 (by decide) ?_
  refine lv_aload_n hx hb dL_account_2 rfl (lv_at hl 0 rfl) ?_
  refine lv_iload_n hx hb dL_account_3 rfl (lv_at hl 1 rfl) ?_
  refine lv_iload_n hx hb dL_account_4 rfl (lv_at hl 2 rfl) ?_
  have cut5 : Cut (xw κ a ++ [(o, .inl (κ.2.1, 1, .inr (.inl (fun _ => 0))))]) (xw κ a) ([(o, .inl (κ.2.1, 1, .inr (.inl (fun _ => 0))))]) := (Cut.one 45 rfl (by decide))
  refine zt_i hG cut5 (zx_V (k := 0) (ci := 7) (n := 2) (As := [.int x0, .int x1]) (rest := [.int 0, .ref o]) hC hG hE hT cut5 (z_30_account l hst D κ E0 H.size a x0 x1 ⟨by omega, by omega⟩ ⟨by omega, by omega⟩) rfl rfl w207 w2 w210 w208 w209 (by decide +kernel) ⟨Nat.le_of_ble_eq_true rfl, Nat.le_of_ble_eq_true rfl⟩ rfl hl.1 rfl (Nat.le_of_ble_eq_true rfl) dL_account_5 ⟨Nat.le_of_ble_eq_true rfl, Nat.le_of_ble_eq_true rfl⟩) (fun ce q9 H locs hG hz1 hz2 hz3 => ?_)
  refine vx_catch (own := RL) (name := "java/lang/IllegalArgumentException") (E := "java/lang/IllegalArgumentException") hC.2.2.2.1 [] ⟨0, 10, 13, 13⟩ [⟨0, 10, 17, 15⟩] htab (fun z hz => by simp at hz) (by decide) (by decide) (hC.2.2.2.2 _ w145) (va_Nw.use rfl (hT.1 ("java/lang/IllegalArgumentException", "java/lang/IllegalArgumentException") (by decide))) hz1 hz2 hz3 ?_
  refine lv_astore (lv' := [(4, .ref q9), (0, .ref (a 0)), (1, .int x0), (2, .int x1), (3, .ref o)]) hx hb dL_account_13 hl (by decide) rfl (fun ls hl => ?_)
  refine lv_iconst (v := 1) hx hb dL_account_15 (by decide) ?_
  exact ze_i (qs := fun _ => 0) hC hG rfl rfl hr rfl hk (Nat.le_of_ble_eq_true rfl) (Nat.le_of_ble_eq_true rfl) dL_account_16
set_option maxHeartbeats 4000000 in
set_option maxRecDepth 100000 in
theorem z_32_isIn (l : Launch) (hst : l.stackTraces = false) (D : va_G) (κ : K4) (E0 : Nat) (sz : Nat) (b : Nat → Nat) (x0 : Int32) (k_x0 : -2147483648 ≤ x0.toInt ∧ x0.toInt ≤ -1) : NM l yX14_isIn cX14_isIn 3 (some .boolean) 0 0 0 0 E0 D κ (mw κ b E0 0) sz [.int x0, .int 0, .int 4] (QI D κ (mw κ b E0 0) sz 0 (fun qs : W1 => mw κ b E0 0)) := by
  refine NM.of (by decide +kernel) (Nat.le_of_ble_eq_true rfl) ?_
  intro p e s m below meth c ls hC hr hk hin hsz hE hT H locs hG hl
  have hx := hC.1
  have hb := hC.2.1
  have hl : lv_has ls 3 [(0, .int x0), (1, .int 0), (2, .int 4)] := hl
  refine lv_iload_n hx hb dX14_isIn_0 rfl (lv_at hl 0 rfl) ?_
  refine lv_iload_n hx hb dX14_isIn_1 rfl (lv_at hl 1 rfl) ?_
  refine lv_icmp_lt (tgt := 14) hx hb dX14_isIn_2 (by decide) (fun _ => ?_) (fun h2 => absurd (Int32.lt_iff_toInt_lt.mpr (by have e1 : (0 : Int32).toInt = 0 := (by decide); omega)) h2)
  refine lv_iconst (v := 0) hx hb dX14_isIn_14 (by decide) ?_
  exact ze_i (qs := fun _ => 0) hC hG rfl rfl hr rfl hk (Nat.le_of_ble_eq_true rfl) (Nat.le_of_ble_eq_true rfl) dX14_isIn_15
theorem dX14_account_0 : decode cX14_account 0 = .ok (.aload_n 0, 1) := by decide +kernel
theorem dX14_account_1 : decode cX14_account 1 = .ok (.iload_n 1, 1) := by decide +kernel
theorem dX14_account_19 : decode cX14_account 19 = .ok (.iconst 1, 1) := by decide +kernel
theorem dX14_account_2 : decode cX14_account 2 = .ok (.iconst 0, 1) := by decide +kernel
theorem dX14_account_20 : decode cX14_account 20 = .ok (.goto 4, 3) := by decide +kernel
theorem dX14_account_24 : decode cX14_account 24 = .ok (.iconst 1, 1) := by decide +kernel
theorem dX14_account_25 : decode cX14_account 25 = .ok (.invokevirtual 61, 3) := by decide +kernel
theorem dX14_account_28 : decode cX14_account 28 = .ok (.ifCond .ne 28, 3) := by decide +kernel
theorem dX14_account_3 : decode cX14_account 3 = .ok (.iconst 4, 1) := by decide +kernel
theorem dX14_account_4 : decode cX14_account 4 = .ok (.invokestatic 53, 3) := by decide +kernel
theorem dX14_account_56 : decode cX14_account 56 = .ok (.iconst 0, 1) := by decide +kernel
theorem dX14_account_57 : decode cX14_account 57 = .ok (.ireturn, 1) := by decide +kernel
theorem dX14_account_7 : decode cX14_account 7 = .ok (.ifCond .eq 12, 3) := by decide +kernel
set_option maxHeartbeats 4000000 in
set_option maxRecDepth 100000 in
theorem z_33_account (l : Launch) (hst : l.stackTraces = false) (D : va_G) (κ : K4) (E0 : Nat) (sz : Nat) (b : Nat → Nat) (x0 : Int32) (x1 : Int32) (k_x0 : -2147483648 ≤ x0.toInt ∧ x0.toInt ≤ -1) (k_x1 : -2147483648 ≤ x1.toInt ∧ x1.toInt ≤ 2147483647) : NM l yX14_account cX14_account 3 (some .int) 2 44 0 0 E0 D κ (mw κ b E0 0) sz [.ref (b 0), .int x0, .int x1] (QI D κ (mw κ b E0 0) sz 0 (fun qs : W1 => mw κ b E0 1)) := by
  refine NM.of (by decide +kernel) (Nat.le_of_ble_eq_true rfl) ?_
  intro p e s m below meth c ls hC hr hk hin hsz hE hT H locs hG hl
  have hx := hC.1
  have hb := hC.2.1
  have hl : lv_has ls 3 [(0, .ref (b 0)), (1, .int x0), (2, .int x1)] := hl
  refine lv_aload_n hx hb dX14_account_0 rfl (lv_at hl 0 rfl) ?_
  refine lv_iload_n hx hb dX14_account_1 rfl (lv_at hl 1 rfl) ?_
  refine lv_iconst (v := 0) hx hb dX14_account_2 (by decide) ?_
  refine lv_iconst (v := 4) hx hb dX14_account_3 (by decide) ?_
  have cut4 : Cut (mw κ b E0 0) (mw κ b E0 0) ([]) := (Cut.all 9 rfl (by decide))
  refine zc_i hG cut4 (zr_S (n := 3) (As := [.int x0, .int 0, .int 4]) (rest := [.ref (b 0)]) hC hG hE hT cut4 (z_32_isIn l hst D κ E0 H.size b x0 ⟨by omega, by omega⟩) w167 w5 w169 w168 (by decide +kernel) ⟨Nat.le_of_ble_eq_true rfl, Nat.le_of_ble_eq_true rfl⟩ rfl hl.1 rfl (Nat.le_of_ble_eq_true rfl) dX14_account_4 ⟨Nat.le_of_ble_eq_true rfl, Nat.le_of_ble_eq_true rfl⟩) (fun z1 H locs hG => ?_)
  have hG : BW D κ (mw κ b E0 0) _ s H locs := hG
  refine lv_if_eq (tgt := 19) hx hb dX14_account_7 (by decide) (fun _ => ?_) (fun h7 => absurd (by decide) h7)
  refine lv_iconst (v := 1) hx hb dX14_account_19 (by decide) ?_
  refine lv_goto (tgt := 24) hx hb dX14_account_20 (by decide) ?_
  refine lv_iconst (v := 1) hx hb dX14_account_24 (by decide) ?_
  have cut25 : Cut (mw κ b E0 0) (mw κ b E0 0) ([]) := (Cut.all 9 rfl (by decide))
  refine zc_i hG cut25 (zr_V (k := 0) (ci := 9) (n := 2) (As := [.int 1, .int 1]) (rest := []) hC hG hE hT cut25 (z_4_start l hst D κ E0 H.size b) rfl rfl w170 w5 w173 w171 w172 (by decide +kernel) ⟨Nat.le_of_ble_eq_true rfl, Nat.le_of_ble_eq_true rfl⟩ rfl hl.1 rfl (Nat.le_of_ble_eq_true rfl) dX14_account_25 ⟨Nat.le_of_ble_eq_true rfl, Nat.le_of_ble_eq_true rfl⟩) (fun z2 H locs hG => ?_)
  have hG : BW D κ (mw κ b E0 1) _ s H locs := hG
  refine lv_if_ne (tgt := 56) hx hb dX14_account_28 (by decide) (fun _ => ?_) (fun h28 => absurd h28 (by decide))
  refine lv_iconst (v := 0) hx hb dX14_account_56 (by decide) ?_
  exact ze_i (qs := fun _ => 0) hC hG rfl rfl hr rfl hk (Nat.le_of_ble_eq_true rfl) (Nat.le_of_ble_eq_true rfl) dX14_account_57
theorem dX7_account_4 : decode cX7_account 4 = .ok (.iload_n 1, 1) := by decide +kernel
theorem dX7_account_5 : decode cX7_account 5 = .ok (.iconst 4, 1) := by decide +kernel
theorem dX7_account_6 : decode cX7_account 6 = .ok (.if_icmp .gt 12, 3) := by decide +kernel
set_option maxHeartbeats 4000000 in
set_option maxRecDepth 100000 in
theorem z_34_account (l : Launch) (hst : l.stackTraces = false) (D : va_G) (κ : K4) (E0 : Nat) (sz : Nat) (a : Nat → Nat) (x0 : Int32) (x1 : Int32) (k_x0 : 5 ≤ x0.toInt ∧ x0.toInt ≤ 2147483647) (k_x1 : -2147483648 ≤ x1.toInt ∧ x1.toInt ≤ 2147483647) : XM l yX7_account cX7_account 3 (some .int) 6 82 1 6 E0 D κ (xw κ a) sz [.ref (a 0), .int x0, .int x1] "java/lang/IllegalArgumentException" (NI (xw κ a) sz) := by
  refine XM.of (by decide +kernel) (Nat.le_of_ble_eq_true rfl) ?_
  intro p e s m below meth c ls hC hk hno hsz hE hT H locs hG hl
  have hx := hC.1
  have hb := hC.2.1
  have hl : lv_has ls 3 [(0, .ref (a 0)), (1, .int x0), (2, .int x1)] := hl
  refine lv_iload_n hx hb dX7_account_0 rfl (lv_at hl 1 rfl) ?_
  refine lv_if_lt (tgt := 18) hx hb dX7_account_1 (by decide) (fun h1 => absurd h1 (mt Int32.lt_iff_toInt_lt.mp (by have e1 : (0 : Int32).toInt = 0 := (by decide); omega))) (fun _ => ?_)
  refine lv_iload_n hx hb dX7_account_4 rfl (lv_at hl 1 rfl) ?_
  refine lv_iconst (v := 4) hx hb dX7_account_5 (by decide) ?_
  refine lv_icmp_gt (tgt := 18) hx hb dX7_account_6 (by decide) (fun _ => ?_) (fun h6 => absurd (Int32.lt_iff_toInt_lt.mpr (by have e0 : (4 : Int32).toInt = 4 := (by decide); omega)) h6)
  exact th_IA hC hst hE hT hno hk hG hl.1 (List.mem_of_getElem? (i := 11) rfl) w150 w151 dX7_account_18 dX7_account_21 dX7_account_22 dX7_account_24 dX7_account_27 (Nat.le_of_ble_eq_true rfl) (Nat.le_of_ble_eq_true rfl) (Nat.le_of_ble_eq_true rfl) (Nat.le_of_ble_eq_true rfl) (Nat.le_of_ble_eq_true rfl) (Nat.le_of_ble_eq_true rfl)
set_option maxHeartbeats 4000000 in
set_option maxRecDepth 100000 in
theorem z_35_account (l : Launch) (hst : l.stackTraces = false) (D : va_G) (κ : K4) (E0 : Nat) (sz : Nat) (a : Nat → Nat) (x0 : Int32) (x1 : Int32) (o : Nat) (k_x0 : 5 ≤ x0.toInt ∧ x0.toInt ≤ 2147483647) (k_x1 : -2147483648 ≤ x1.toInt ∧ x1.toInt ≤ 2147483647) : NH l yL_account cL_account 5 (some .int) [(0, 10, 13, 13), (0, 10, 17, 15)] 7 104 1 6 E0 D κ (xw κ a ++ [(o, .inl (κ.2.1, 1, .inr (.inl (fun _ => 0))))]) sz [.ref (a 0), .int x0, .int x1, .ref o] (QI D κ (xw κ a ++ [(o, .inl (κ.2.1, 1, .inr (.inl (fun _ => 0))))]) sz 1 (fun qs : W1 => [(o, .inl (κ.2.1, 1, .inr (.inl (fun _ => 0))))])) := by
  refine NH.of (by decide +kernel) (Nat.le_of_ble_eq_true rfl) ?_
  intro p e s m below meth c ls hC hr hk htab hsz hE hT H locs hG hl
  have hx := hC.1
  have hb := hC.2.1
  have hl : lv_has ls 5 [(0, .ref (a 0)), (1, .int x0), (2, .int x1), (3, .ref o)] := hl
  refine lv_aload_n hx hb dL_account_0 rfl (lv_at hl 3 rfl) ?_
  refine lv_iconst (v := 0) hx hb dL_account_1 (by decide) ?_
  refine lv_aload_n hx hb dL_account_2 rfl (lv_at hl 0 rfl) ?_
  refine lv_iload_n hx hb dL_account_3 rfl (lv_at hl 1 rfl) ?_
  refine lv_iload_n hx hb dL_account_4 rfl (lv_at hl 2 rfl) ?_
  have cut5 : Cut (xw κ a ++ [(o, .inl (κ.2.1, 1, .inr (.inl (fun _ => 0))))]) (xw κ a) ([(o, .inl (κ.2.1, 1, .inr (.inl (fun _ => 0))))]) := (Cut.one 45 rfl (by decide))
  refine zt_i hG cut5 (zx_V (k := 0) (ci := 7) (n := 2) (As := [.int x0, .int x1]) (rest := [.int 0, .ref o]) hC hG hE hT cut5 (z_34_account l hst D κ E0 H.size a x0 x1 ⟨by omega, by omega⟩ ⟨by omega, by omega⟩) rfl rfl w207 w2 w210 w208 w209 (by decide +kernel) ⟨Nat.le_of_ble_eq_true rfl, Nat.le_of_ble_eq_true rfl⟩ rfl hl.1 rfl (Nat.le_of_ble_eq_true rfl) dL_account_5 ⟨Nat.le_of_ble_eq_true rfl, Nat.le_of_ble_eq_true rfl⟩) (fun ce q9 H locs hG hz1 hz2 hz3 => ?_)
  refine vx_catch (own := RL) (name := "java/lang/IllegalArgumentException") (E := "java/lang/IllegalArgumentException") hC.2.2.2.1 [] ⟨0, 10, 13, 13⟩ [⟨0, 10, 17, 15⟩] htab (fun z hz => by simp at hz) (by decide) (by decide) (hC.2.2.2.2 _ w145) (va_Nw.use rfl (hT.1 ("java/lang/IllegalArgumentException", "java/lang/IllegalArgumentException") (by decide))) hz1 hz2 hz3 ?_
  refine lv_astore (lv' := [(4, .ref q9), (0, .ref (a 0)), (1, .int x0), (2, .int x1), (3, .ref o)]) hx hb dL_account_13 hl (by decide) rfl (fun ls hl => ?_)
  refine lv_iconst (v := 1) hx hb dL_account_15 (by decide) ?_
  exact ze_i (qs := fun _ => 0) hC hG rfl rfl hr rfl hk (Nat.le_of_ble_eq_true rfl) (Nat.le_of_ble_eq_true rfl) dL_account_16
set_option maxHeartbeats 4000000 in
set_option maxRecDepth 100000 in
theorem z_36_isIn (l : Launch) (hst : l.stackTraces = false) (D : va_G) (κ : K4) (E0 : Nat) (sz : Nat) (b : Nat → Nat) (x0 : Int32) (k_x0 : 5 ≤ x0.toInt ∧ x0.toInt ≤ 2147483647) : NM l yX14_isIn cX14_isIn 3 (some .boolean) 0 0 0 0 E0 D κ (mw κ b E0 0) sz [.int x0, .int 0, .int 4] (QI D κ (mw κ b E0 0) sz 0 (fun qs : W1 => mw κ b E0 0)) := by
  refine NM.of (by decide +kernel) (Nat.le_of_ble_eq_true rfl) ?_
  intro p e s m below meth c ls hC hr hk hin hsz hE hT H locs hG hl
  have hx := hC.1
  have hb := hC.2.1
  have hl : lv_has ls 3 [(0, .int x0), (1, .int 0), (2, .int 4)] := hl
  refine lv_iload_n hx hb dX14_isIn_0 rfl (lv_at hl 0 rfl) ?_
  refine lv_iload_n hx hb dX14_isIn_1 rfl (lv_at hl 1 rfl) ?_
  refine lv_icmp_lt (tgt := 14) hx hb dX14_isIn_2 (by decide) (fun h2 => absurd h2 (mt Int32.lt_iff_toInt_lt.mp (by have e1 : (0 : Int32).toInt = 0 := (by decide); omega))) (fun _ => ?_)
  refine lv_iload_n hx hb dX14_isIn_5 rfl (lv_at hl 0 rfl) ?_
  refine lv_iload_n hx hb dX14_isIn_6 rfl (lv_at hl 2 rfl) ?_
  refine lv_icmp_gt (tgt := 14) hx hb dX14_isIn_7 (by decide) (fun _ => ?_) (fun h7 => absurd (Int32.lt_iff_toInt_lt.mpr (by have e0 : (4 : Int32).toInt = 4 := (by decide); omega)) h7)
  refine lv_iconst (v := 0) hx hb dX14_isIn_14 (by decide) ?_
  exact ze_i (qs := fun _ => 0) hC hG rfl rfl hr rfl hk (Nat.le_of_ble_eq_true rfl) (Nat.le_of_ble_eq_true rfl) dX14_isIn_15
set_option maxHeartbeats 4000000 in
set_option maxRecDepth 100000 in
theorem z_37_account (l : Launch) (hst : l.stackTraces = false) (D : va_G) (κ : K4) (E0 : Nat) (sz : Nat) (b : Nat → Nat) (x0 : Int32) (x1 : Int32) (k_x0 : 5 ≤ x0.toInt ∧ x0.toInt ≤ 2147483647) (k_x1 : -2147483648 ≤ x1.toInt ∧ x1.toInt ≤ 2147483647) : NM l yX14_account cX14_account 3 (some .int) 2 44 0 0 E0 D κ (mw κ b E0 0) sz [.ref (b 0), .int x0, .int x1] (QI D κ (mw κ b E0 0) sz 0 (fun qs : W1 => mw κ b E0 1)) := by
  refine NM.of (by decide +kernel) (Nat.le_of_ble_eq_true rfl) ?_
  intro p e s m below meth c ls hC hr hk hin hsz hE hT H locs hG hl
  have hx := hC.1
  have hb := hC.2.1
  have hl : lv_has ls 3 [(0, .ref (b 0)), (1, .int x0), (2, .int x1)] := hl
  refine lv_aload_n hx hb dX14_account_0 rfl (lv_at hl 0 rfl) ?_
  refine lv_iload_n hx hb dX14_account_1 rfl (lv_at hl 1 rfl) ?_
  refine lv_iconst (v := 0) hx hb dX14_account_2 (by decide) ?_
  refine lv_iconst (v := 4) hx hb dX14_account_3 (by decide) ?_
  have cut4 : Cut (mw κ b E0 0) (mw κ b E0 0) ([]) := (Cut.all 9 rfl (by decide))
  refine zc_i hG cut4 (zr_S (n := 3) (As := [.int x0, .int 0, .int 4]) (rest := [.ref (b 0)]) hC hG hE hT cut4 (z_36_isIn l hst D κ E0 H.size b x0 ⟨by omega, by omega⟩) w167 w5 w169 w168 (by decide +kernel) ⟨Nat.le_of_ble_eq_true rfl, Nat.le_of_ble_eq_true rfl⟩ rfl hl.1 rfl (Nat.le_of_ble_eq_true rfl) dX14_account_4 ⟨Nat.le_of_ble_eq_true rfl, Nat.le_of_ble_eq_true rfl⟩) (fun z1 H locs hG => ?_)
  have hG : BW D κ (mw κ b E0 0) _ s H locs := hG
  refine lv_if_eq (tgt := 19) hx hb dX14_account_7 (by decide) (fun _ => ?_) (fun h7 => absurd (by decide) h7)
  refine lv_iconst (v := 1) hx hb dX14_account_19 (by decide) ?_
  refine lv_goto (tgt := 24) hx hb dX14_account_20 (by decide) ?_
  refine lv_iconst (v := 1) hx hb dX14_account_24 (by decide) ?_
  have cut25 : Cut (mw κ b E0 0) (mw κ b E0 0) ([]) := (Cut.all 9 rfl (by decide))
  refine zc_i hG cut25 (zr_V (k := 0) (ci := 9) (n := 2) (As := [.int 1, .int 1]) (rest := []) hC hG hE hT cut25 (z_4_start l hst D κ E0 H.size b) rfl rfl w170 w5 w173 w171 w172 (by decide +kernel) ⟨Nat.le_of_ble_eq_true rfl, Nat.le_of_ble_eq_true rfl⟩ rfl hl.1 rfl (Nat.le_of_ble_eq_true rfl) dX14_account_25 ⟨Nat.le_of_ble_eq_true rfl, Nat.le_of_ble_eq_true rfl⟩) (fun z2 H locs hG => ?_)
  have hG : BW D κ (mw κ b E0 1) _ s H locs := hG
  refine lv_if_ne (tgt := 56) hx hb dX14_account_28 (by decide) (fun _ => ?_) (fun h28 => absurd h28 (by decide))
  refine lv_iconst (v := 0) hx hb dX14_account_56 (by decide) ?_
  exact ze_i (qs := fun _ => 0) hC hG rfl rfl hr rfl hk (Nat.le_of_ble_eq_true rfl) (Nat.le_of_ble_eq_true rfl) dX14_account_57
theorem dX7_account_10 : decode cX7_account 10 = .ok (.ifCond .lt 8, 3) := by decide +kernel
theorem dX7_account_9 : decode cX7_account 9 = .ok (.iload_n 2, 1) := by decide +kernel
set_option maxHeartbeats 4000000 in
set_option maxRecDepth 100000 in
theorem z_38_account (l : Launch) (hst : l.stackTraces = false) (D : va_G) (κ : K4) (E0 : Nat) (sz : Nat) (a : Nat → Nat) (x0 : Int32) (x1 : Int32) (k_x0 : 0 ≤ x0.toInt ∧ x0.toInt ≤ 4) (k_x1 : -2147483648 ≤ x1.toInt ∧ x1.toInt ≤ -1) : XM l yX7_account cX7_account 3 (some .int) 6 82 1 6 E0 D κ (xw κ a) sz [.ref (a 0), .int x0, .int x1] "java/lang/IllegalArgumentException" (NI (xw κ a) sz) := by
  refine XM.of (by decide +kernel) (Nat.le_of_ble_eq_true rfl) ?_
  intro p e s m below meth c ls hC hk hno hsz hE hT H locs hG hl
  have hx := hC.1
  have hb := hC.2.1
  have hl : lv_has ls 3 [(0, .ref (a 0)), (1, .int x0), (2, .int x1)] := hl
  refine lv_iload_n hx hb dX7_account_0 rfl (lv_at hl 1 rfl) ?_
  refine lv_if_lt (tgt := 18) hx hb dX7_account_1 (by decide) (fun h1 => absurd h1 (mt Int32.lt_iff_toInt_lt.mp (by have e1 : (0 : Int32).toInt = 0 := (by decide); omega))) (fun _ => ?_)
  refine lv_iload_n hx hb dX7_account_4 rfl (lv_at hl 1 rfl) ?_
  refine lv_iconst (v := 4) hx hb dX7_account_5 (by decide) ?_
  refine lv_icmp_gt (tgt := 18) hx hb dX7_account_6 (by decide) (fun h6 => absurd h6 (mt Int32.lt_iff_toInt_lt.mp (by have e0 : (4 : Int32).toInt = 4 := (by decide); omega))) (fun _ => ?_)
  refine lv_iload_n hx hb dX7_account_9 rfl (lv_at hl 2 rfl) ?_
  refine lv_if_lt (tgt := 18) hx hb dX7_account_10 (by decide) (fun _ => ?_) (fun h10 => absurd (Int32.lt_iff_toInt_lt.mpr (by have e1 : (0 : Int32).toInt = 0 := (by decide); omega)) h10)
  exact th_IA hC hst hE hT hno hk hG hl.1 (List.mem_of_getElem? (i := 11) rfl) w150 w151 dX7_account_18 dX7_account_21 dX7_account_22 dX7_account_24 dX7_account_27 (Nat.le_of_ble_eq_true rfl) (Nat.le_of_ble_eq_true rfl) (Nat.le_of_ble_eq_true rfl) (Nat.le_of_ble_eq_true rfl) (Nat.le_of_ble_eq_true rfl) (Nat.le_of_ble_eq_true rfl)
set_option maxHeartbeats 4000000 in
set_option maxRecDepth 100000 in
theorem z_39_account (l : Launch) (hst : l.stackTraces = false) (D : va_G) (κ : K4) (E0 : Nat) (sz : Nat) (a : Nat → Nat) (x0 : Int32) (x1 : Int32) (o : Nat) (k_x0 : 0 ≤ x0.toInt ∧ x0.toInt ≤ 4) (k_x1 : -2147483648 ≤ x1.toInt ∧ x1.toInt ≤ -1) : NH l yL_account cL_account 5 (some .int) [(0, 10, 13, 13), (0, 10, 17, 15)] 7 104 1 6 E0 D κ (xw κ a ++ [(o, .inl (κ.2.1, 1, .inr (.inl (fun _ => 0))))]) sz [.ref (a 0), .int x0, .int x1, .ref o] (QI D κ (xw κ a ++ [(o, .inl (κ.2.1, 1, .inr (.inl (fun _ => 0))))]) sz 1 (fun qs : W1 => [(o, .inl (κ.2.1, 1, .inr (.inl (fun _ => 0))))])) := by
  refine NH.of (by decide +kernel) (Nat.le_of_ble_eq_true rfl) ?_
  intro p e s m below meth c ls hC hr hk htab hsz hE hT H locs hG hl
  have hx := hC.1
  have hb := hC.2.1
  have hl : lv_has ls 5 [(0, .ref (a 0)), (1, .int x0), (2, .int x1), (3, .ref o)] := hl
  refine lv_aload_n hx hb dL_account_0 rfl (lv_at hl 3 rfl) ?_
  refine lv_iconst (v := 0) hx hb dL_account_1 (by decide) ?_
  refine lv_aload_n hx hb dL_account_2 rfl (lv_at hl 0 rfl) ?_
  refine lv_iload_n hx hb dL_account_3 rfl (lv_at hl 1 rfl) ?_
  refine lv_iload_n hx hb dL_account_4 rfl (lv_at hl 2 rfl) ?_
  have cut5 : Cut (xw κ a ++ [(o, .inl (κ.2.1, 1, .inr (.inl (fun _ => 0))))]) (xw κ a) ([(o, .inl (κ.2.1, 1, .inr (.inl (fun _ => 0))))]) := (Cut.one 45 rfl (by decide))
  refine zt_i hG cut5 (zx_V (k := 0) (ci := 7) (n := 2) (As := [.int x0, .int x1]) (rest := [.int 0, .ref o]) hC hG hE hT cut5 (z_38_account l hst D κ E0 H.size a x0 x1 ⟨by omega, by omega⟩ ⟨by omega, by omega⟩) rfl rfl w207 w2 w210 w208 w209 (by decide +kernel) ⟨Nat.le_of_ble_eq_true rfl, Nat.le_of_ble_eq_true rfl⟩ rfl hl.1 rfl (Nat.le_of_ble_eq_true rfl) dL_account_5 ⟨Nat.le_of_ble_eq_true rfl, Nat.le_of_ble_eq_true rfl⟩) (fun ce q9 H locs hG hz1 hz2 hz3 => ?_)
  refine vx_catch (own := RL) (name := "java/lang/IllegalArgumentException") (E := "java/lang/IllegalArgumentException") hC.2.2.2.1 [] ⟨0, 10, 13, 13⟩ [⟨0, 10, 17, 15⟩] htab (fun z hz => by simp at hz) (by decide) (by decide) (hC.2.2.2.2 _ w145) (va_Nw.use rfl (hT.1 ("java/lang/IllegalArgumentException", "java/lang/IllegalArgumentException") (by decide))) hz1 hz2 hz3 ?_
  refine lv_astore (lv' := [(4, .ref q9), (0, .ref (a 0)), (1, .int x0), (2, .int x1), (3, .ref o)]) hx hb dL_account_13 hl (by decide) rfl (fun ls hl => ?_)
  refine lv_iconst (v := 1) hx hb dL_account_15 (by decide) ?_
  exact ze_i (qs := fun _ => 0) hC hG rfl rfl hr rfl hk (Nat.le_of_ble_eq_true rfl) (Nat.le_of_ble_eq_true rfl) dL_account_16
set_option maxHeartbeats 4000000 in
set_option maxRecDepth 100000 in
theorem z_40_isIn (l : Launch) (hst : l.stackTraces = false) (D : va_G) (κ : K4) (E0 : Nat) (sz : Nat) (b : Nat → Nat) (x0 : Int32) (k_x0 : 0 ≤ x0.toInt ∧ x0.toInt ≤ 4) : NM l yX14_isIn cX14_isIn 3 (some .boolean) 0 0 0 0 E0 D κ (mw κ b E0 0) sz [.int x0, .int 0, .int 4] (QI D κ (mw κ b E0 0) sz 1 (fun qs : W1 => mw κ b E0 0)) := by
  refine NM.of (by decide +kernel) (Nat.le_of_ble_eq_true rfl) ?_
  intro p e s m below meth c ls hC hr hk hin hsz hE hT H locs hG hl
  have hx := hC.1
  have hb := hC.2.1
  have hl : lv_has ls 3 [(0, .int x0), (1, .int 0), (2, .int 4)] := hl
  refine lv_iload_n hx hb dX14_isIn_0 rfl (lv_at hl 0 rfl) ?_
  refine lv_iload_n hx hb dX14_isIn_1 rfl (lv_at hl 1 rfl) ?_
  refine lv_icmp_lt (tgt := 14) hx hb dX14_isIn_2 (by decide) (fun h2 => absurd h2 (mt Int32.lt_iff_toInt_lt.mp (by have e1 : (0 : Int32).toInt = 0 := (by decide); omega))) (fun _ => ?_)
  refine lv_iload_n hx hb dX14_isIn_5 rfl (lv_at hl 0 rfl) ?_
  refine lv_iload_n hx hb dX14_isIn_6 rfl (lv_at hl 2 rfl) ?_
  refine lv_icmp_gt (tgt := 14) hx hb dX14_isIn_7 (by decide) (fun h7 => absurd h7 (mt Int32.lt_iff_toInt_lt.mp (by have e0 : (4 : Int32).toInt = 4 := (by decide); omega))) (fun _ => ?_)
  refine lv_iconst (v := 1) hx hb dX14_isIn_10 (by decide) ?_
  refine lv_goto (tgt := 15) hx hb dX14_isIn_11 (by decide) ?_
  exact ze_i (qs := fun _ => 0) hC hG rfl rfl hr rfl hk (Nat.le_of_ble_eq_true rfl) (Nat.le_of_ble_eq_true rfl) dX14_isIn_15
set_option maxHeartbeats 4000000 in
set_option maxRecDepth 100000 in
theorem z_41_isIn (l : Launch) (hst : l.stackTraces = false) (D : va_G) (κ : K4) (E0 : Nat) (sz : Nat) (b : Nat → Nat) (x0 : Int32) (k_x0 : -2147483648 ≤ x0.toInt ∧ x0.toInt ≤ -1) : NM l yX14_isIn cX14_isIn 3 (some .boolean) 0 0 0 0 E0 D κ (mw κ b E0 0) sz [.int x0, .int 0, .int 3] (QI D κ (mw κ b E0 0) sz 0 (fun qs : W1 => mw κ b E0 0)) := by
  refine NM.of (by decide +kernel) (Nat.le_of_ble_eq_true rfl) ?_
  intro p e s m below meth c ls hC hr hk hin hsz hE hT H locs hG hl
  have hx := hC.1
  have hb := hC.2.1
  have hl : lv_has ls 3 [(0, .int x0), (1, .int 0), (2, .int 3)] := hl
  refine lv_iload_n hx hb dX14_isIn_0 rfl (lv_at hl 0 rfl) ?_
  refine lv_iload_n hx hb dX14_isIn_1 rfl (lv_at hl 1 rfl) ?_
  refine lv_icmp_lt (tgt := 14) hx hb dX14_isIn_2 (by decide) (fun _ => ?_) (fun h2 => absurd (Int32.lt_iff_toInt_lt.mpr (by have e1 : (0 : Int32).toInt = 0 := (by decide); omega)) h2)
  refine lv_iconst (v := 0) hx hb dX14_isIn_14 (by decide) ?_
  exact ze_i (qs := fun _ => 0) hC hG rfl rfl hr rfl hk (Nat.le_of_ble_eq_true rfl) (Nat.le_of_ble_eq_true rfl) dX14_isIn_15
theorem dX14_account_10 : decode cX14_account 10 = .ok (.iload_n 2, 1) := by decide +kernel
theorem dX14_account_11 : decode cX14_account 11 = .ok (.iconst 0, 1) := by decide +kernel
theorem dX14_account_12 : decode cX14_account 12 = .ok (.iconst 3, 1) := by decide +kernel
theorem dX14_account_13 : decode cX14_account 13 = .ok (.invokestatic 53, 3) := by decide +kernel
theorem dX14_account_16 : decode cX14_account 16 = .ok (.ifCond .ne 7, 3) := by decide +kernel
set_option maxHeartbeats 4000000 in
set_option maxRecDepth 100000 in
theorem z_42_account (l : Launch) (hst : l.stackTraces = false) (D : va_G) (κ : K4) (E0 : Nat) (sz : Nat) (b : Nat → Nat) (x0 : Int32) (x1 : Int32) (k_x0 : 0 ≤ x0.toInt ∧ x0.toInt ≤ 4) (k_x1 : -2147483648 ≤ x1.toInt ∧ x1.toInt ≤ -1) : NM l yX14_account cX14_account 3 (some .int) 2 44 0 0 E0 D κ (mw κ b E0 0) sz [.ref (b 0), .int x0, .int x1] (QI D κ (mw κ b E0 0) sz 0 (fun qs : W1 => mw κ b E0 1)) := by
  refine NM.of (by decide +kernel) (Nat.le_of_ble_eq_true rfl) ?_
  intro p e s m below meth c ls hC hr hk hin hsz hE hT H locs hG hl
  have hx := hC.1
  have hb := hC.2.1
  have hl : lv_has ls 3 [(0, .ref (b 0)), (1, .int x0), (2, .int x1)] := hl
  refine lv_aload_n hx hb dX14_account_0 rfl (lv_at hl 0 rfl) ?_
  refine lv_iload_n hx hb dX14_account_1 rfl (lv_at hl 1 rfl) ?_
  refine lv_iconst (v := 0) hx hb dX14_account_2 (by decide) ?_
  refine lv_iconst (v := 4) hx hb dX14_account_3 (by decide) ?_
  have cut4 : Cut (mw κ b E0 0) (mw κ b E0 0) ([]) := (Cut.all 9 rfl (by decide))
  refine zc_i hG cut4 (zr_S (n := 3) (As := [.int x0, .int 0, .int 4]) (rest := [.ref (b 0)]) hC hG hE hT cut4 (z_40_isIn l hst D κ E0 H.size b x0 ⟨by omega, by omega⟩) w167 w5 w169 w168 (by decide +kernel) ⟨Nat.le_of_ble_eq_true rfl, Nat.le_of_ble_eq_true rfl⟩ rfl hl.1 rfl (Nat.le_of_ble_eq_true rfl) dX14_account_4 ⟨Nat.le_of_ble_eq_true rfl, Nat.le_of_ble_eq_true rfl⟩) (fun z1 H locs hG => ?_)
  have hG : BW D κ (mw κ b E0 0) _ s H locs := hG
  refine lv_if_eq (tgt := 19) hx hb dX14_account_7 (by decide) (fun h7 => absurd h7 (by decide)) (fun _ => ?_)
  refine lv_iload_n hx hb dX14_account_10 rfl (lv_at hl 2 rfl) ?_
  refine lv_iconst (v := 0) hx hb dX14_account_11 (by decide) ?_
  refine lv_iconst (v := 3) hx hb dX14_account_12 (by decide) ?_
  have cut13 : Cut (mw κ b E0 0) (mw κ b E0 0) ([]) := (Cut.all 9 rfl (by decide))
  refine zc_i hG cut13 (zr_S (n := 3) (As := [.int x1, .int 0, .int 3]) (rest := [.ref (b 0)]) hC hG hE hT cut13 (z_41_isIn l hst D κ E0 H.size b x1 ⟨by omega, by omega⟩) w167 w5 w169 w168 (by decide +kernel) ⟨Nat.le_of_ble_eq_true rfl, Nat.le_of_ble_eq_true rfl⟩ rfl hl.1 rfl (Nat.le_of_ble_eq_true rfl) dX14_account_13 ⟨Nat.le_of_ble_eq_true rfl, Nat.le_of_ble_eq_true rfl⟩) (fun z2 H locs hG => ?_)
  have hG : BW D κ (mw κ b E0 0) _ s H locs := hG
  refine lv_if_ne (tgt := 23) hx hb dX14_account_16 (by decide) (fun h16 => absurd (by decide) h16) (fun _ => ?_)
  refine lv_iconst (v := 1) hx hb dX14_account_19 (by decide) ?_
  refine lv_goto (tgt := 24) hx hb dX14_account_20 (by decide) ?_
  refine lv_iconst (v := 1) hx hb dX14_account_24 (by decide) ?_
  have cut25 : Cut (mw κ b E0 0) (mw κ b E0 0) ([]) := (Cut.all 9 rfl (by decide))
  refine zc_i hG cut25 (zr_V (k := 0) (ci := 9) (n := 2) (As := [.int 1, .int 1]) (rest := []) hC hG hE hT cut25 (z_4_start l hst D κ E0 H.size b) rfl rfl w170 w5 w173 w171 w172 (by decide +kernel) ⟨Nat.le_of_ble_eq_true rfl, Nat.le_of_ble_eq_true rfl⟩ rfl hl.1 rfl (Nat.le_of_ble_eq_true rfl) dX14_account_25 ⟨Nat.le_of_ble_eq_true rfl, Nat.le_of_ble_eq_true rfl⟩) (fun z3 H locs hG => ?_)
  have hG : BW D κ (mw κ b E0 1) _ s H locs := hG
  refine lv_if_ne (tgt := 56) hx hb dX14_account_28 (by decide) (fun _ => ?_) (fun h28 => absurd h28 (by decide))
  refine lv_iconst (v := 0) hx hb dX14_account_56 (by decide) ?_
  exact ze_i (qs := fun _ => 0) hC hG rfl rfl hr rfl hk (Nat.le_of_ble_eq_true rfl) (Nat.le_of_ble_eq_true rfl) dX14_account_57
theorem dX7_account_13 : decode cX7_account 13 = .ok (.iload_n 2, 1) := by decide +kernel
theorem dX7_account_14 : decode cX7_account 14 = .ok (.iconst 3, 1) := by decide +kernel
theorem dX7_account_15 : decode cX7_account 15 = .ok (.if_icmp .le 13, 3) := by decide +kernel
set_option maxHeartbeats 4000000 in
set_option maxRecDepth 100000 in
theorem z_43_account (l : Launch) (hst : l.stackTraces = false) (D : va_G) (κ : K4) (E0 : Nat) (sz : Nat) (a : Nat → Nat) (x0 : Int32) (x1 : Int32) (k_x0 : 0 ≤ x0.toInt ∧ x0.toInt ≤ 4) (k_x1 : 4 ≤ x1.toInt ∧ x1.toInt ≤ 2147483647) : XM l yX7_account cX7_account 3 (some .int) 6 82 1 6 E0 D κ (xw κ a) sz [.ref (a 0), .int x0, .int x1] "java/lang/IllegalArgumentException" (NI (xw κ a) sz) := by
  refine XM.of (by decide +kernel) (Nat.le_of_ble_eq_true rfl) ?_
  intro p e s m below meth c ls hC hk hno hsz hE hT H locs hG hl
  have hx := hC.1
  have hb := hC.2.1
  have hl : lv_has ls 3 [(0, .ref (a 0)), (1, .int x0), (2, .int x1)] := hl
  refine lv_iload_n hx hb dX7_account_0 rfl (lv_at hl 1 rfl) ?_
  refine lv_if_lt (tgt := 18) hx hb dX7_account_1 (by decide) (fun h1 => absurd h1 (mt Int32.lt_iff_toInt_lt.mp (by have e1 : (0 : Int32).toInt = 0 := (by decide); omega))) (fun _ => ?_)
  refine lv_iload_n hx hb dX7_account_4 rfl (lv_at hl 1 rfl) ?_
  refine lv_iconst (v := 4) hx hb dX7_account_5 (by decide) ?_
  refine lv_icmp_gt (tgt := 18) hx hb dX7_account_6 (by decide) (fun h6 => absurd h6 (mt Int32.lt_iff_toInt_lt.mp (by have e0 : (4 : Int32).toInt = 4 := (by decide); omega))) (fun _ => ?_)
  refine lv_iload_n hx hb dX7_account_9 rfl (lv_at hl 2 rfl) ?_
  refine lv_if_lt (tgt := 18) hx hb dX7_account_10 (by decide) (fun h10 => absurd h10 (mt Int32.lt_iff_toInt_lt.mp (by have e1 : (0 : Int32).toInt = 0 := (by decide); omega))) (fun _ => ?_)
  refine lv_iload_n hx hb dX7_account_13 rfl (lv_at hl 2 rfl) ?_
  refine lv_iconst (v := 3) hx hb dX7_account_14 (by decide) ?_
  refine lv_icmp_le (tgt := 28) hx hb dX7_account_15 (by decide) (fun h15 => absurd h15 (mt Int32.le_iff_toInt_le.mp (by have e0 : (3 : Int32).toInt = 3 := (by decide); omega))) (fun _ => ?_)
  exact th_IA hC hst hE hT hno hk hG hl.1 (List.mem_of_getElem? (i := 11) rfl) w150 w151 dX7_account_18 dX7_account_21 dX7_account_22 dX7_account_24 dX7_account_27 (Nat.le_of_ble_eq_true rfl) (Nat.le_of_ble_eq_true rfl) (Nat.le_of_ble_eq_true rfl) (Nat.le_of_ble_eq_true rfl) (Nat.le_of_ble_eq_true rfl) (Nat.le_of_ble_eq_true rfl)
set_option maxHeartbeats 4000000 in
set_option maxRecDepth 100000 in
theorem z_44_account (l : Launch) (hst : l.stackTraces = false) (D : va_G) (κ : K4) (E0 : Nat) (sz : Nat) (a : Nat → Nat) (x0 : Int32) (x1 : Int32) (o : Nat) (k_x0 : 0 ≤ x0.toInt ∧ x0.toInt ≤ 4) (k_x1 : 4 ≤ x1.toInt ∧ x1.toInt ≤ 2147483647) : NH l yL_account cL_account 5 (some .int) [(0, 10, 13, 13), (0, 10, 17, 15)] 7 104 1 6 E0 D κ (xw κ a ++ [(o, .inl (κ.2.1, 1, .inr (.inl (fun _ => 0))))]) sz [.ref (a 0), .int x0, .int x1, .ref o] (QI D κ (xw κ a ++ [(o, .inl (κ.2.1, 1, .inr (.inl (fun _ => 0))))]) sz 1 (fun qs : W1 => [(o, .inl (κ.2.1, 1, .inr (.inl (fun _ => 0))))])) := by
  refine NH.of (by decide +kernel) (Nat.le_of_ble_eq_true rfl) ?_
  intro p e s m below meth c ls hC hr hk htab hsz hE hT H locs hG hl
  have hx := hC.1
  have hb := hC.2.1
  have hl : lv_has ls 5 [(0, .ref (a 0)), (1, .int x0), (2, .int x1), (3, .ref o)] := hl
  refine lv_aload_n hx hb dL_account_0 rfl (lv_at hl 3 rfl) ?_
  refine lv_iconst (v := 0) hx hb dL_account_1 (by decide) ?_
  refine lv_aload_n hx hb dL_account_2 rfl (lv_at hl 0 rfl) ?_
  refine lv_iload_n hx hb dL_account_3 rfl (lv_at hl 1 rfl) ?_
  refine lv_iload_n hx hb dL_account_4 rfl (lv_at hl 2 rfl) ?_
  have cut5 : Cut (xw κ a ++ [(o, .inl (κ.2.1, 1, .inr (.inl (fun _ => 0))))]) (xw κ a) ([(o, .inl (κ.2.1, 1, .inr (.inl (fun _ => 0))))]) := (Cut.one 45 rfl (by decide))
  refine zt_i hG cut5 (zx_V (k := 0) (ci := 7) (n := 2) (As := [.int x0, .int x1]) (rest := [.int 0, .ref o]) hC hG hE hT cut5 (z_43_account l hst D κ E0 H.size a x0 x1 ⟨by omega, by omega⟩ ⟨by omega, by omega⟩) rfl rfl w207 w2 w210 w208 w209 (by decide +kernel) ⟨Nat.le_of_ble_eq_true rfl, Nat.le_of_ble_eq_true rfl⟩ rfl hl.1 rfl (Nat.le_of_ble_eq_true rfl) dL_account_5 ⟨Nat.le_of_ble_eq_true rfl, Nat.le_of_ble_eq_true rfl⟩) (fun ce q9 H locs hG hz1 hz2 hz3 => ?_)
  refine vx_catch (own := RL) (name := "java/lang/IllegalArgumentException") (E := "java/lang/IllegalArgumentException") hC.2.2.2.1 [] ⟨0, 10, 13, 13⟩ [⟨0, 10, 17, 15⟩] htab (fun z hz => by simp at hz) (by decide) (by decide) (hC.2.2.2.2 _ w145) (va_Nw.use rfl (hT.1 ("java/lang/IllegalArgumentException", "java/lang/IllegalArgumentException") (by decide))) hz1 hz2 hz3 ?_
  refine lv_astore (lv' := [(4, .ref q9), (0, .ref (a 0)), (1, .int x0), (2, .int x1), (3, .ref o)]) hx hb dL_account_13 hl (by decide) rfl (fun ls hl => ?_)
  refine lv_iconst (v := 1) hx hb dL_account_15 (by decide) ?_
  exact ze_i (qs := fun _ => 0) hC hG rfl rfl hr rfl hk (Nat.le_of_ble_eq_true rfl) (Nat.le_of_ble_eq_true rfl) dL_account_16
set_option maxHeartbeats 4000000 in
set_option maxRecDepth 100000 in
theorem z_45_isIn (l : Launch) (hst : l.stackTraces = false) (D : va_G) (κ : K4) (E0 : Nat) (sz : Nat) (b : Nat → Nat) (x0 : Int32) (k_x0 : 4 ≤ x0.toInt ∧ x0.toInt ≤ 2147483647) : NM l yX14_isIn cX14_isIn 3 (some .boolean) 0 0 0 0 E0 D κ (mw κ b E0 0) sz [.int x0, .int 0, .int 3] (QI D κ (mw κ b E0 0) sz 0 (fun qs : W1 => mw κ b E0 0)) := by
  refine NM.of (by decide +kernel) (Nat.le_of_ble_eq_true rfl) ?_
  intro p e s m below meth c ls hC hr hk hin hsz hE hT H locs hG hl
  have hx := hC.1
  have hb := hC.2.1
  have hl : lv_has ls 3 [(0, .int x0), (1, .int 0), (2, .int 3)] := hl
  refine lv_iload_n hx hb dX14_isIn_0 rfl (lv_at hl 0 rfl) ?_
  refine lv_iload_n hx hb dX14_isIn_1 rfl (lv_at hl 1 rfl) ?_
  refine lv_icmp_lt (tgt := 14) hx hb dX14_isIn_2 (by decide) (fun h2 => absurd h2 (mt Int32.lt_iff_toInt_lt.mp (by have e1 : (0 : Int32).toInt = 0 := (by decide); omega))) (fun _ => ?_)
  refine lv_iload_n hx hb dX14_isIn_5 rfl (lv_at hl 0 rfl) ?_
  refine lv_iload_n hx hb dX14_isIn_6 rfl (lv_at hl 2 rfl) ?_
  refine lv_icmp_gt (tgt := 14) hx hb dX14_isIn_7 (by decide) (fun _ => ?_) (fun h7 => absurd (Int32.lt_iff_toInt_lt.mpr (by have e0 : (3 : Int32).toInt = 3 := (by decide); omega)) h7)
  refine lv_iconst (v := 0) hx hb dX14_isIn_14 (by decide) ?_
  exact ze_i (qs := fun _ => 0) hC hG rfl rfl hr rfl hk (Nat.le_of_ble_eq_true rfl) (Nat.le_of_ble_eq_true rfl) dX14_isIn_15
set_option maxHeartbeats 4000000 in
set_option maxRecDepth 100000 in
theorem z_46_account (l : Launch) (hst : l.stackTraces = false) (D : va_G) (κ : K4) (E0 : Nat) (sz : Nat) (b : Nat → Nat) (x0 : Int32) (x1 : Int32) (k_x0 : 0 ≤ x0.toInt ∧ x0.toInt ≤ 4) (k_x1 : 4 ≤ x1.toInt ∧ x1.toInt ≤ 2147483647) : NM l yX14_account cX14_account 3 (some .int) 2 44 0 0 E0 D κ (mw κ b E0 0) sz [.ref (b 0), .int x0, .int x1] (QI D κ (mw κ b E0 0) sz 0 (fun qs : W1 => mw κ b E0 1)) := by
  refine NM.of (by decide +kernel) (Nat.le_of_ble_eq_true rfl) ?_
  intro p e s m below meth c ls hC hr hk hin hsz hE hT H locs hG hl
  have hx := hC.1
  have hb := hC.2.1
  have hl : lv_has ls 3 [(0, .ref (b 0)), (1, .int x0), (2, .int x1)] := hl
  refine lv_aload_n hx hb dX14_account_0 rfl (lv_at hl 0 rfl) ?_
  refine lv_iload_n hx hb dX14_account_1 rfl (lv_at hl 1 rfl) ?_
  refine lv_iconst (v := 0) hx hb dX14_account_2 (by decide) ?_
  refine lv_iconst (v := 4) hx hb dX14_account_3 (by decide) ?_
  have cut4 : Cut (mw κ b E0 0) (mw κ b E0 0) ([]) := (Cut.all 9 rfl (by decide))
  refine zc_i hG cut4 (zr_S (n := 3) (As := [.int x0, .int 0, .int 4]) (rest := [.ref (b 0)]) hC hG hE hT cut4 (z_40_isIn l hst D κ E0 H.size b x0 ⟨by omega, by omega⟩) w167 w5 w169 w168 (by decide +kernel) ⟨Nat.le_of_ble_eq_true rfl, Nat.le_of_ble_eq_true rfl⟩ rfl hl.1 rfl (Nat.le_of_ble_eq_true rfl) dX14_account_4 ⟨Nat.le_of_ble_eq_true rfl, Nat.le_of_ble_eq_true rfl⟩) (fun z1 H locs hG => ?_)
  have hG : BW D κ (mw κ b E0 0) _ s H locs := hG
  refine lv_if_eq (tgt := 19) hx hb dX14_account_7 (by decide) (fun h7 => absurd h7 (by decide)) (fun _ => ?_)
  refine lv_iload_n hx hb dX14_account_10 rfl (lv_at hl 2 rfl) ?_
  refine lv_iconst (v := 0) hx hb dX14_account_11 (by decide) ?_
  refine lv_iconst (v := 3) hx hb dX14_account_12 (by decide) ?_
  have cut13 : Cut (mw κ b E0 0) (mw κ b E0 0) ([]) := (Cut.all 9 rfl (by decide))
  refine zc_i hG cut13 (zr_S (n := 3) (As := [.int x1, .int 0, .int 3]) (rest := [.ref (b 0)]) hC hG hE hT cut13 (z_45_isIn l hst D κ E0 H.size b x1 ⟨by omega, by omega⟩) w167 w5 w169 w168 (by decide +kernel) ⟨Nat.le_of_ble_eq_true rfl, Nat.le_of_ble_eq_true rfl⟩ rfl hl.1 rfl (Nat.le_of_ble_eq_true rfl) dX14_account_13 ⟨Nat.le_of_ble_eq_true rfl, Nat.le_of_ble_eq_true rfl⟩) (fun z2 H locs hG => ?_)
  have hG : BW D κ (mw κ b E0 0) _ s H locs := hG
  refine lv_if_ne (tgt := 23) hx hb dX14_account_16 (by decide) (fun h16 => absurd (by decide) h16) (fun _ => ?_)
  refine lv_iconst (v := 1) hx hb dX14_account_19 (by decide) ?_
  refine lv_goto (tgt := 24) hx hb dX14_account_20 (by decide) ?_
  refine lv_iconst (v := 1) hx hb dX14_account_24 (by decide) ?_
  have cut25 : Cut (mw κ b E0 0) (mw κ b E0 0) ([]) := (Cut.all 9 rfl (by decide))
  refine zc_i hG cut25 (zr_V (k := 0) (ci := 9) (n := 2) (As := [.int 1, .int 1]) (rest := []) hC hG hE hT cut25 (z_4_start l hst D κ E0 H.size b) rfl rfl w170 w5 w173 w171 w172 (by decide +kernel) ⟨Nat.le_of_ble_eq_true rfl, Nat.le_of_ble_eq_true rfl⟩ rfl hl.1 rfl (Nat.le_of_ble_eq_true rfl) dX14_account_25 ⟨Nat.le_of_ble_eq_true rfl, Nat.le_of_ble_eq_true rfl⟩) (fun z3 H locs hG => ?_)
  have hG : BW D κ (mw κ b E0 1) _ s H locs := hG
  refine lv_if_ne (tgt := 56) hx hb dX14_account_28 (by decide) (fun _ => ?_) (fun h28 => absurd h28 (by decide))
  refine lv_iconst (v := 0) hx hb dX14_account_56 (by decide) ?_
  exact ze_i (qs := fun _ => 0) hC hG rfl rfl hr rfl hk (Nat.le_of_ble_eq_true rfl) (Nat.le_of_ble_eq_true rfl) dX14_account_57
theorem dX0_add_0 : decode cX0_add 0 = .ok (.aload_n 0, 1) := by decide +kernel
theorem dX0_add_1 : decode cX0_add 1 = .ok (.getfield 28, 3) := by decide +kernel
theorem dX0_add_11 : decode cX0_add 11 = .ok (.aload_n 0, 1) := by decide +kernel
theorem dX0_add_12 : decode cX0_add 12 = .ok (.getfield 15, 3) := by decide +kernel
theorem dX0_add_15 : decode cX0_add 15 = .ok (.aload_n 0, 1) := by decide +kernel
theorem dX0_add_16 : decode cX0_add 16 = .ok (.getfield 28, 3) := by decide +kernel
theorem dX0_add_19 : decode cX0_add 19 = .ok (.iload_n 1, 1) := by decide +kernel
theorem dX0_add_20 : decode cX0_add 20 = .ok (.iastore, 1) := by decide +kernel
theorem dX0_add_21 : decode cX0_add 21 = .ok (.aload_n 0, 1) := by decide +kernel
theorem dX0_add_22 : decode cX0_add 22 = .ok (.getfield 18, 3) := by decide +kernel
theorem dX0_add_25 : decode cX0_add 25 = .ok (.aload_n 0, 1) := by decide +kernel
theorem dX0_add_26 : decode cX0_add 26 = .ok (.getfield 28, 3) := by decide +kernel
theorem dX0_add_29 : decode cX0_add 29 = .ok (.iload_n 2, 1) := by decide +kernel
theorem dX0_add_30 : decode cX0_add 30 = .ok (.iastore, 1) := by decide +kernel
theorem dX0_add_31 : decode cX0_add 31 = .ok (.aload_n 0, 1) := by decide +kernel
theorem dX0_add_32 : decode cX0_add 32 = .ok (.dup, 1) := by decide +kernel
theorem dX0_add_33 : decode cX0_add 33 = .ok (.getfield 28, 3) := by decide +kernel
theorem dX0_add_36 : decode cX0_add 36 = .ok (.dup_x1, 1) := by decide +kernel
theorem dX0_add_37 : decode cX0_add 37 = .ok (.iconst 1, 1) := by decide +kernel
theorem dX0_add_38 : decode cX0_add 38 = .ok (.iadd, 1) := by decide +kernel
theorem dX0_add_39 : decode cX0_add 39 = .ok (.putfield 28, 3) := by decide +kernel
theorem dX0_add_4 : decode cX0_add 4 = .ok (.bipush 10, 2) := by decide +kernel
theorem dX0_add_42 : decode cX0_add 42 = .ok (.ireturn, 1) := by decide +kernel
theorem dX0_add_6 : decode cX0_add 6 = .ok (.if_icmp .lt 5, 3) := by decide +kernel
set_option maxHeartbeats 4000000 in
set_option maxRecDepth 100000 in
theorem z_47_add (l : Launch) (hst : l.stackTraces = false) (D : va_G) (κ : K4) (E0 : Nat) (sz : Nat) (a : Nat → Nat) (x0 : Int32) (x1 : Int32) (k_x0 : 0 ≤ x0.toInt ∧ x0.toInt ≤ 4) (k_x1 : 0 ≤ x1.toInt ∧ x1.toInt ≤ 3) : NM l yX0_add cX0_add 3 (some .int) 0 0 0 0 E0 D κ (xw κ a) sz [.ref (a 1), .int x0, .int x1] (QI D κ (xw κ a) sz 0 (fun qs : W1 => [])) := by
  refine NM.of (by decide +kernel) (Nat.le_of_ble_eq_true rfl) ?_
  intro p e s m below meth c ls hC hr hk hin hsz hE hT H locs hG hl
  have hx := hC.1
  have hb := hC.2.1
  have hl : lv_has ls 3 [(0, .ref (a 1)), (1, .int x0), (2, .int x1)] := hl
  refine lv_aload_n hx hb dX0_add_0 rfl (lv_at hl 0 rfl) ?_
  refine bw_get (C := RX0) (T := TX0) (N := 6) (ci := 0) (v := .int 0) 5 (by decide) 1 hC hG iwX0 (xw_1 κ a) rfl w54 rfl rfl dX0_add_1 ?_
  refine lv_bipush (v := 10) hx hb dX0_add_4 (by decide) ?_
  refine lv_icmp_lt (tgt := 11) hx hb dX0_add_6 (by decide) (fun _ => ?_) (fun h6 => absurd (by decide) h6)
  refine lv_aload_n hx hb dX0_add_11 rfl (lv_at hl 0 rfl) ?_
  refine bw_get (C := RX0) (T := TX0) (N := 6) (ci := 0) (v := .ref (a 3)) 1 (by decide) 1 hC hG iwX0 (xw_1 κ a) rfl w49 rfl rfl dX0_add_12 ?_
  refine lv_aload_n hx hb dX0_add_15 rfl (lv_at hl 0 rfl) ?_
  refine bw_get (C := RX0) (T := TX0) (N := 6) (ci := 0) (v := .int 0) 5 (by decide) 1 hC hG iwX0 (xw_1 κ a) rfl w54 rfl rfl dX0_add_16 ?_
  refine lv_iload_n hx hb dX0_add_19 rfl (lv_at hl 1 rfl) ?_
  refine zs_ast 3 hC hG rfl (vp_box (by have e0 : (0 : Int32).toInt = 0 := (by decide); omega) (by have e0 : (0 : Int32).toInt = 0 := (by decide); omega)) dX0_add_20 (fun H locs hG => ?_)
  have hG : BW D κ ((xw κ a).set 3 (a 3, .inl (κ.1, 10, .inl (va_up (fun _ => 0) ((0 : Int32).toNatClampNeg) x0)))) _ s H locs := hG
  refine lv_aload_n hx hb dX0_add_21 rfl (lv_at hl 0 rfl) ?_
  refine bw_get (C := RX0) (T := TX0) (N := 6) (ci := 0) (v := .ref (a 4)) 2 (by decide) 1 hC hG iwX0 rfl rfl w50 rfl rfl dX0_add_22 ?_
  refine lv_aload_n hx hb dX0_add_25 rfl (lv_at hl 0 rfl) ?_
  refine bw_get (C := RX0) (T := TX0) (N := 6) (ci := 0) (v := .int 0) 5 (by decide) 1 hC hG iwX0 rfl rfl w54 rfl rfl dX0_add_26 ?_
  refine lv_iload_n hx hb dX0_add_29 rfl (lv_at hl 2 rfl) ?_
  refine zs_ast 4 hC hG rfl (vp_box (by have e0 : (0 : Int32).toInt = 0 := (by decide); omega) (by have e0 : (0 : Int32).toInt = 0 := (by decide); omega)) dX0_add_30 (fun H locs hG => ?_)
  have hG : BW D κ (((xw κ a).set 3 (a 3, .inl (κ.1, 10, .inl (va_up (fun _ => 0) ((0 : Int32).toNatClampNeg) x0)))).set 4 (a 4, .inl (κ.1, 10, .inl (va_up (fun _ => 0) ((0 : Int32).toNatClampNeg) x1)))) _ s H locs := hG
  refine lv_aload_n hx hb dX0_add_31 rfl (lv_at hl 0 rfl) ?_
  refine lv_dup hx hb dX0_add_32 rfl ?_
  refine bw_get (C := RX0) (T := TX0) (N := 6) (ci := 0) (v := .int 0) 5 (by decide) 1 hC hG iwX0 rfl rfl w54 rfl rfl dX0_add_33 ?_
  refine lv_dup_x1 hx hb dX0_add_36 rfl rfl ?_
  refine lv_iconst (v := 1) hx hb dX0_add_37 (by decide) ?_
  refine lv_iadd hx hb dX0_add_38 ?_
  refine W.eq (g2 := F0 m 39 ls [.int 1, .ref (a 1), .int 0]) rfl ?_
  refine bw_put (C := RX0) (T := TX0) (N := 6) (ci := 0) (ty0 := tyX0) (ty := .int) (v := .int 1) 5 (by decide) 1 hC hG iwX0 tyX0_ok nmX0 rfl rfl w54 rfl (Or.inl rfl) (by decide +kernel) rfl rfl (Nat.le_of_ble_eq_true rfl) dX0_add_39 (fun H locs hG => ?_)
  have hG : BW D κ ((((xw κ a).set 3 (a 3, .inl (κ.1, 10, .inl (va_up (fun _ => 0) ((0 : Int32).toNatClampNeg) x0)))).set 4 (a 4, .inl (κ.1, 10, .inl (va_up (fun _ => 0) ((0 : Int32).toNatClampNeg) x1)))).set 1 (a 1, .inr (0, [.ref (a 2), .ref (a 3), .ref (a 4), .ref (a 5), .ref (a 6), .int 1]))) _ s H locs := hG
  have hG := hG.at (ws' := []) [] (by decide) rfl
  exact ze_i (qs := fun _ => 0) hC hG rfl rfl hr rfl hk (Nat.le_of_ble_eq_true rfl) (Nat.le_of_ble_eq_true rfl) dX0_add_42
end
