-- ===== PART A: goes FIRST, ahead of the names: the tables' words, and 'selects' of the private methods out of them =====
/-- a private method of a class that the tables say can be made, by its rows of tables_1 -/
def lw_okq (q : MethodName × Nat) : Prop := (q.1.cls ≠ "java/lang/invoke/MethodHandle" ∧ q.1.cls ≠ "java/lang/invoke/VarHandle") ∧ Cond.instantiable q.1.cls q.2 ∈ tables_1 ∧ Cond.privateMethod q.1 ∈ tables_1 ∧ Cond.instanceMethod q.1 ∈ tables_1
theorem lw_p0 : lw_okq (⟨"StandTable", "trayAt", "(I)LStandTable$Tray;"⟩, 18) := ⟨⟨by decide +kernel, by decide +kernel⟩, List.mem_of_getElem? (i := 21) (by decide +kernel), List.mem_of_getElem? (i := 457) (by decide +kernel), List.mem_of_getElem? (i := 458) (by decide +kernel)⟩
theorem lw_p1 : lw_okq (⟨"StandTable", "deny", "(I)Z"⟩, 18) := ⟨⟨by decide +kernel, by decide +kernel⟩, List.mem_of_getElem? (i := 21) (by decide +kernel), List.mem_of_getElem? (i := 464) (by decide +kernel), List.mem_of_getElem? (i := 465) (by decide +kernel)⟩
theorem lw_p2 : lw_okq (⟨"StandTable", "grant", "()Z"⟩, 18) := ⟨⟨by decide +kernel, by decide +kernel⟩, List.mem_of_getElem? (i := 21) (by decide +kernel), List.mem_of_getElem? (i := 472) (by decide +kernel), List.mem_of_getElem? (i := 473) (by decide +kernel)⟩
theorem lw_p3 : lw_okq (⟨"StandTable$Tray", "cut", "(J)J"⟩, 3) := ⟨⟨by decide +kernel, by decide +kernel⟩, List.mem_of_getElem? (i := 368) (by decide +kernel), List.mem_of_getElem? (i := 496) (by decide +kernel), List.mem_of_getElem? (i := 497) (by decide +kernel)⟩
theorem lw_p4 : lw_okq (⟨"StandTable", "refuse", "(I)I"⟩, 18) := ⟨⟨by decide +kernel, by decide +kernel⟩, List.mem_of_getElem? (i := 21) (by decide +kernel), List.mem_of_getElem? (i := 504) (by decide +kernel), List.mem_of_getElem? (i := 505) (by decide +kernel)⟩
theorem lw_p5 : lw_okq (⟨"StandTable$Reader", "here", "()I"⟩, 14) := ⟨⟨by decide +kernel, by decide +kernel⟩, List.mem_of_getElem? (i := 31) (by decide +kernel), List.mem_of_getElem? (i := 542) (by decide +kernel), List.mem_of_getElem? (i := 543) (by decide +kernel)⟩
theorem lw_p6 : lw_okq (⟨"StandTable$Reader", "readWord", "()V"⟩, 14) := ⟨⟨by decide +kernel, by decide +kernel⟩, List.mem_of_getElem? (i := 31) (by decide +kernel), List.mem_of_getElem? (i := 552) (by decide +kernel), List.mem_of_getElem? (i := 553) (by decide +kernel)⟩
theorem lw_p7 : lw_okq (⟨"StandTable$Reader", "readNumber", "()V"⟩, 14) := ⟨⟨by decide +kernel, by decide +kernel⟩, List.mem_of_getElem? (i := 31) (by decide +kernel), List.mem_of_getElem? (i := 559) (by decide +kernel), List.mem_of_getElem? (i := 560) (by decide +kernel)⟩
theorem lw_p8 : lw_okq (⟨"StandTable$Reader", "readSign", "()V"⟩, 14) := ⟨⟨by decide +kernel, by decide +kernel⟩, List.mem_of_getElem? (i := 31) (by decide +kernel), List.mem_of_getElem? (i := 563) (by decide +kernel), List.mem_of_getElem? (i := 564) (by decide +kernel)⟩
theorem lw_p9 : lw_okq (⟨"StandTable$Reader", "blameUnlessNamed", "(I)V"⟩, 14) := ⟨⟨by decide +kernel, by decide +kernel⟩, List.mem_of_getElem? (i := 31) (by decide +kernel), List.mem_of_getElem? (i := 650) (by decide +kernel), List.mem_of_getElem? (i := 651) (by decide +kernel)⟩
theorem lw_p10 : lw_okq (⟨"StandTable", "keepFault", "()Z"⟩, 18) := ⟨⟨by decide +kernel, by decide +kernel⟩, List.mem_of_getElem? (i := 21) (by decide +kernel), List.mem_of_getElem? (i := 679) (by decide +kernel), List.mem_of_getElem? (i := 680) (by decide +kernel)⟩
theorem lw_p11 : lw_okq (⟨"StandTable", "answer", "(I)I"⟩, 18) := ⟨⟨by decide +kernel, by decide +kernel⟩, List.mem_of_getElem? (i := 21) (by decide +kernel), List.mem_of_getElem? (i := 683) (by decide +kernel), List.mem_of_getElem? (i := 684) (by decide +kernel)⟩
theorem lw_p12 : lw_okq (⟨"StandTable$Steps", "addLine", "(I)I"⟩, 9) := ⟨⟨by decide +kernel, by decide +kernel⟩, List.mem_of_getElem? (i := 146) (by decide +kernel), List.mem_of_getElem? (i := 704) (by decide +kernel), List.mem_of_getElem? (i := 705) (by decide +kernel)⟩
theorem lw_p13 : lw_okq (⟨"StandTable$Steps", "setMate", "(II)V"⟩, 9) := ⟨⟨by decide +kernel, by decide +kernel⟩, List.mem_of_getElem? (i := 146) (by decide +kernel), List.mem_of_getElem? (i := 708) (by decide +kernel), List.mem_of_getElem? (i := 709) (by decide +kernel)⟩
theorem lw_p14 : lw_okq (⟨"StandTable$Committee", "weigh", "([I)V"⟩, 21) := ⟨⟨by decide +kernel, by decide +kernel⟩, List.mem_of_getElem? (i := 140) (by decide +kernel), List.mem_of_getElem? (i := 786) (by decide +kernel), List.mem_of_getElem? (i := 787) (by decide +kernel)⟩
theorem lw_p15 : lw_okq (⟨"StandTable", "answerOrNone", "(I)I"⟩, 18) := ⟨⟨by decide +kernel, by decide +kernel⟩, List.mem_of_getElem? (i := 21) (by decide +kernel), List.mem_of_getElem? (i := 834) (by decide +kernel), List.mem_of_getElem? (i := 835) (by decide +kernel)⟩
def lw_privs_1 : List (MethodName × Nat) := [(⟨"StandTable", "trayAt", "(I)LStandTable$Tray;"⟩, 18), (⟨"StandTable", "deny", "(I)Z"⟩, 18), (⟨"StandTable", "grant", "()Z"⟩, 18), (⟨"StandTable$Tray", "cut", "(J)J"⟩, 3), (⟨"StandTable", "refuse", "(I)I"⟩, 18), (⟨"StandTable$Reader", "here", "()I"⟩, 14), (⟨"StandTable$Reader", "readWord", "()V"⟩, 14), (⟨"StandTable$Reader", "readNumber", "()V"⟩, 14), (⟨"StandTable$Reader", "readSign", "()V"⟩, 14), (⟨"StandTable$Reader", "blameUnlessNamed", "(I)V"⟩, 14), (⟨"StandTable", "keepFault", "()Z"⟩, 18), (⟨"StandTable", "answer", "(I)I"⟩, 18), (⟨"StandTable$Steps", "addLine", "(I)I"⟩, 9), (⟨"StandTable$Steps", "setMate", "(II)V"⟩, 9), (⟨"StandTable$Committee", "weigh", "([I)V"⟩, 21), (⟨"StandTable", "answerOrNone", "(I)I"⟩, 18)]
theorem lw_r1 : ∀ q ∈ lw_privs_1, lw_okq q := List.forall_mem_cons.mpr ⟨lw_p0, List.forall_mem_cons.mpr ⟨lw_p1, List.forall_mem_cons.mpr ⟨lw_p2, List.forall_mem_cons.mpr ⟨lw_p3, List.forall_mem_cons.mpr ⟨lw_p4, List.forall_mem_cons.mpr ⟨lw_p5, List.forall_mem_cons.mpr ⟨lw_p6, List.forall_mem_cons.mpr ⟨lw_p7, List.forall_mem_cons.mpr ⟨lw_p8, List.forall_mem_cons.mpr ⟨lw_p9, List.forall_mem_cons.mpr ⟨lw_p10, List.forall_mem_cons.mpr ⟨lw_p11, List.forall_mem_cons.mpr ⟨lw_p12, List.forall_mem_cons.mpr ⟨lw_p13, List.forall_mem_cons.mpr ⟨lw_p14, List.forall_mem_cons.mpr ⟨lw_p15, fun _ h => absurd h List.not_mem_nil⟩⟩⟩⟩⟩⟩⟩⟩⟩⟩⟩⟩⟩⟩⟩⟩
theorem lw_p16 : lw_okq (⟨"StandTable", "areTwo", "(II)Z"⟩, 18) := ⟨⟨by decide +kernel, by decide +kernel⟩, List.mem_of_getElem? (i := 21) (by decide +kernel), List.mem_of_getElem? (i := 871) (by decide +kernel), List.mem_of_getElem? (i := 872) (by decide +kernel)⟩
theorem lw_p17 : lw_okq (⟨"StandTable$Committee", "workAt", "(I)V"⟩, 21) := ⟨⟨by decide +kernel, by decide +kernel⟩, List.mem_of_getElem? (i := 140) (by decide +kernel), List.mem_of_getElem? (i := 966) (by decide +kernel), List.mem_of_getElem? (i := 967) (by decide +kernel)⟩
theorem lw_p18 : lw_okq (⟨"StandTable$Survey", "begin", "(LStandTable$Committee;)I"⟩, 4) := ⟨⟨by decide +kernel, by decide +kernel⟩, List.mem_of_getElem? (i := 303) (by decide +kernel), List.mem_of_getElem? (i := 1024) (by decide +kernel), List.mem_of_getElem? (i := 1025) (by decide +kernel)⟩
theorem lw_p19 : lw_okq (⟨"StandTable$Survey", "fillFrom", "(LStandTable$Committee;II)V"⟩, 4) := ⟨⟨by decide +kernel, by decide +kernel⟩, List.mem_of_getElem? (i := 303) (by decide +kernel), List.mem_of_getElem? (i := 1028) (by decide +kernel), List.mem_of_getElem? (i := 1029) (by decide +kernel)⟩
theorem lw_p20 : lw_okq (⟨"StandTable$Survey", "goOn", "(LStandTable$Committee;)V"⟩, 4) := ⟨⟨by decide +kernel, by decide +kernel⟩, List.mem_of_getElem? (i := 303) (by decide +kernel), List.mem_of_getElem? (i := 1045) (by decide +kernel), List.mem_of_getElem? (i := 1046) (by decide +kernel)⟩
theorem lw_p21 : lw_okq (⟨"StandTable$Survey", "isLikeAnEarlierGood", "(LStandTable$Committee;I)Z"⟩, 4) := ⟨⟨by decide +kernel, by decide +kernel⟩, List.mem_of_getElem? (i := 303) (by decide +kernel), List.mem_of_getElem? (i := 1058) (by decide +kernel), List.mem_of_getElem? (i := 1059) (by decide +kernel)⟩
theorem lw_p22 : lw_okq (⟨"StandTable$Survey", "isGoodAhead", "(LStandTable$Committee;IZI)Z"⟩, 4) := ⟨⟨by decide +kernel, by decide +kernel⟩, List.mem_of_getElem? (i := 303) (by decide +kernel), List.mem_of_getElem? (i := 1062) (by decide +kernel), List.mem_of_getElem? (i := 1063) (by decide +kernel)⟩
theorem lw_p23 : lw_okq (⟨"StandTable", "layTrial", "()V"⟩, 18) := ⟨⟨by decide +kernel, by decide +kernel⟩, List.mem_of_getElem? (i := 21) (by decide +kernel), List.mem_of_getElem? (i := 1164) (by decide +kernel), List.mem_of_getElem? (i := 1165) (by decide +kernel)⟩
theorem lw_p24 : lw_okq (⟨"StandTable", "whyNoGame", "(IIII)I"⟩, 18) := ⟨⟨by decide +kernel, by decide +kernel⟩, List.mem_of_getElem? (i := 21) (by decide +kernel), List.mem_of_getElem? (i := 1180) (by decide +kernel), List.mem_of_getElem? (i := 1181) (by decide +kernel)⟩
theorem lw_p25 : lw_okq (⟨"StandTable$Agenda", "latestEnd", "(II)I"⟩, 2) := ⟨⟨by decide +kernel, by decide +kernel⟩, List.mem_of_getElem? (i := 324) (by decide +kernel), List.mem_of_getElem? (i := 1262) (by decide +kernel), List.mem_of_getElem? (i := 1263) (by decide +kernel)⟩
theorem lw_p26 : lw_okq (⟨"StandTable", "tellFraction", "(JJ)V"⟩, 18) := ⟨⟨by decide +kernel, by decide +kernel⟩, List.mem_of_getElem? (i := 21) (by decide +kernel), List.mem_of_getElem? (i := 1281) (by decide +kernel), List.mem_of_getElem? (i := 1282) (by decide +kernel)⟩
theorem lw_p27 : lw_okq (⟨"StandTable", "changeTrialBy", "(LStandTable$Tray;)Z"⟩, 18) := ⟨⟨by decide +kernel, by decide +kernel⟩, List.mem_of_getElem? (i := 21) (by decide +kernel), List.mem_of_getElem? (i := 1310) (by decide +kernel), List.mem_of_getElem? (i := 1311) (by decide +kernel)⟩
theorem lw_p28 : lw_okq (⟨"StandTable$Life", "behindEnd", "(LStandTable$Steps;I)I"⟩, 8) := ⟨⟨by decide +kernel, by decide +kernel⟩, List.mem_of_getElem? (i := 337) (by decide +kernel), List.mem_of_getElem? (i := 1332) (by decide +kernel), List.mem_of_getElem? (i := 1333) (by decide +kernel)⟩
theorem lw_p29 : lw_okq (⟨"StandTable$Life", "isSo", "(LStandTable$Committee;I)Z"⟩, 8) := ⟨⟨by decide +kernel, by decide +kernel⟩, List.mem_of_getElem? (i := 337) (by decide +kernel), List.mem_of_getElem? (i := 1340) (by decide +kernel), List.mem_of_getElem? (i := 1341) (by decide +kernel)⟩
theorem lw_p30 : lw_okq (⟨"StandTable$Life", "beginLoop", "(LStandTable$Steps;I)V"⟩, 8) := ⟨⟨by decide +kernel, by decide +kernel⟩, List.mem_of_getElem? (i := 337) (by decide +kernel), List.mem_of_getElem? (i := 1355) (by decide +kernel), List.mem_of_getElem? (i := 1356) (by decide +kernel)⟩
theorem lw_p31 : lw_okq (⟨"StandTable$Life", "act", "(LStandTable$Committee;I)Z"⟩, 8) := ⟨⟨by decide +kernel, by decide +kernel⟩, List.mem_of_getElem? (i := 337) (by decide +kernel), List.mem_of_getElem? (i := 1359) (by decide +kernel), List.mem_of_getElem? (i := 1360) (by decide +kernel)⟩
def lw_privs_2 : List (MethodName × Nat) := [(⟨"StandTable", "areTwo", "(II)Z"⟩, 18), (⟨"StandTable$Committee", "workAt", "(I)V"⟩, 21), (⟨"StandTable$Survey", "begin", "(LStandTable$Committee;)I"⟩, 4), (⟨"StandTable$Survey", "fillFrom", "(LStandTable$Committee;II)V"⟩, 4), (⟨"StandTable$Survey", "goOn", "(LStandTable$Committee;)V"⟩, 4), (⟨"StandTable$Survey", "isLikeAnEarlierGood", "(LStandTable$Committee;I)Z"⟩, 4), (⟨"StandTable$Survey", "isGoodAhead", "(LStandTable$Committee;IZI)Z"⟩, 4), (⟨"StandTable", "layTrial", "()V"⟩, 18), (⟨"StandTable", "whyNoGame", "(IIII)I"⟩, 18), (⟨"StandTable$Agenda", "latestEnd", "(II)I"⟩, 2), (⟨"StandTable", "tellFraction", "(JJ)V"⟩, 18), (⟨"StandTable", "changeTrialBy", "(LStandTable$Tray;)Z"⟩, 18), (⟨"StandTable$Life", "behindEnd", "(LStandTable$Steps;I)I"⟩, 8), (⟨"StandTable$Life", "isSo", "(LStandTable$Committee;I)Z"⟩, 8), (⟨"StandTable$Life", "beginLoop", "(LStandTable$Steps;I)V"⟩, 8), (⟨"StandTable$Life", "act", "(LStandTable$Committee;I)Z"⟩, 8)]
theorem lw_r2 : ∀ q ∈ lw_privs_2, lw_okq q := List.forall_mem_cons.mpr ⟨lw_p16, List.forall_mem_cons.mpr ⟨lw_p17, List.forall_mem_cons.mpr ⟨lw_p18, List.forall_mem_cons.mpr ⟨lw_p19, List.forall_mem_cons.mpr ⟨lw_p20, List.forall_mem_cons.mpr ⟨lw_p21, List.forall_mem_cons.mpr ⟨lw_p22, List.forall_mem_cons.mpr ⟨lw_p23, List.forall_mem_cons.mpr ⟨lw_p24, List.forall_mem_cons.mpr ⟨lw_p25, List.forall_mem_cons.mpr ⟨lw_p26, List.forall_mem_cons.mpr ⟨lw_p27, List.forall_mem_cons.mpr ⟨lw_p28, List.forall_mem_cons.mpr ⟨lw_p29, List.forall_mem_cons.mpr ⟨lw_p30, List.forall_mem_cons.mpr ⟨lw_p31, fun _ h => absurd h List.not_mem_nil⟩⟩⟩⟩⟩⟩⟩⟩⟩⟩⟩⟩⟩⟩⟩⟩
theorem lw_p32 : lw_okq (⟨"StandTable$Life", "spend", "(LStandTable$Committee;I)Z"⟩, 8) := ⟨⟨by decide +kernel, by decide +kernel⟩, List.mem_of_getElem? (i := 337) (by decide +kernel), List.mem_of_getElem? (i := 1367) (by decide +kernel), List.mem_of_getElem? (i := 1368) (by decide +kernel)⟩
theorem lw_p33 : lw_okq (⟨"StandTable$Life", "agreeTo", "(LStandTable$Committee;I)Z"⟩, 8) := ⟨⟨by decide +kernel, by decide +kernel⟩, List.mem_of_getElem? (i := 337) (by decide +kernel), List.mem_of_getElem? (i := 1372) (by decide +kernel), List.mem_of_getElem? (i := 1373) (by decide +kernel)⟩
theorem lw_p34 : lw_okq (⟨"StandTable$Life", "letGo", "(LStandTable$Committee;I)Z"⟩, 8) := ⟨⟨by decide +kernel, by decide +kernel⟩, List.mem_of_getElem? (i := 337) (by decide +kernel), List.mem_of_getElem? (i := 1378) (by decide +kernel), List.mem_of_getElem? (i := 1379) (by decide +kernel)⟩
theorem lw_p35 : lw_okq (⟨"StandTable$Life", "seatAny", "(LStandTable$Committee;)Z"⟩, 8) := ⟨⟨by decide +kernel, by decide +kernel⟩, List.mem_of_getElem? (i := 337) (by decide +kernel), List.mem_of_getElem? (i := 1383) (by decide +kernel), List.mem_of_getElem? (i := 1384) (by decide +kernel)⟩
theorem lw_p36 : lw_okq (⟨"StandTable$Life", "draw", "(I)I"⟩, 8) := ⟨⟨by decide +kernel, by decide +kernel⟩, List.mem_of_getElem? (i := 337) (by decide +kernel), List.mem_of_getElem? (i := 1387) (by decide +kernel), List.mem_of_getElem? (i := 1388) (by decide +kernel)⟩
theorem lw_p37 : lw_okq (⟨"StandTable", "keptAt", "(I)LStandTable$Committee;"⟩, 18) := ⟨⟨by decide +kernel, by decide +kernel⟩, List.mem_of_getElem? (i := 21) (by decide +kernel), List.mem_of_getElem? (i := 1408) (by decide +kernel), List.mem_of_getElem? (i := 1409) (by decide +kernel)⟩
theorem lw_p38 : lw_okq (⟨"StandTableModel", "plain", "(I)V"⟩, 37) := ⟨⟨by decide +kernel, by decide +kernel⟩, List.mem_of_getElem? (i := 1416) (by decide +kernel), List.mem_of_getElem? (i := 1422) (by decide +kernel), List.mem_of_getElem? (i := 1423) (by decide +kernel)⟩
theorem lw_p39 : lw_okq (⟨"StandTableModel", "is", "(I)Z"⟩, 37) := ⟨⟨by decide +kernel, by decide +kernel⟩, List.mem_of_getElem? (i := 1416) (by decide +kernel), List.mem_of_getElem? (i := 1557) (by decide +kernel), List.mem_of_getElem? (i := 1558) (by decide +kernel)⟩
theorem lw_p40 : lw_okq (⟨"StandTableModel", "wrongPlace", "(II)I"⟩, 37) := ⟨⟨by decide +kernel, by decide +kernel⟩, List.mem_of_getElem? (i := 1416) (by decide +kernel), List.mem_of_getElem? (i := 1565) (by decide +kernel), List.mem_of_getElem? (i := 1566) (by decide +kernel)⟩
theorem lw_p41 : lw_okq (⟨"StandTableModel", "four", "(I)V"⟩, 37) := ⟨⟨by decide +kernel, by decide +kernel⟩, List.mem_of_getElem? (i := 1416) (by decide +kernel), List.mem_of_getElem? (i := 1585) (by decide +kernel), List.mem_of_getElem? (i := 1586) (by decide +kernel)⟩
theorem lw_p42 : lw_okq (⟨"StandTableModel", "begins", "(II)Z"⟩, 37) := ⟨⟨by decide +kernel, by decide +kernel⟩, List.mem_of_getElem? (i := 1416) (by decide +kernel), List.mem_of_getElem? (i := 1597) (by decide +kernel), List.mem_of_getElem? (i := 1598) (by decide +kernel)⟩
theorem lw_p43 : lw_okq (⟨"StandTableModel", "ahead", "()V"⟩, 37) := ⟨⟨by decide +kernel, by decide +kernel⟩, List.mem_of_getElem? (i := 1416) (by decide +kernel), List.mem_of_getElem? (i := 1601) (by decide +kernel), List.mem_of_getElem? (i := 1602) (by decide +kernel)⟩
theorem lw_p44 : lw_okq (⟨"StandTableModel", "byteAt", "(I)I"⟩, 37) := ⟨⟨by decide +kernel, by decide +kernel⟩, List.mem_of_getElem? (i := 1416) (by decide +kernel), List.mem_of_getElem? (i := 1605) (by decide +kernel), List.mem_of_getElem? (i := 1606) (by decide +kernel)⟩
theorem lw_p45 : lw_okq (⟨"StandTableModel", "refuse", "(I)I"⟩, 37) := ⟨⟨by decide +kernel, by decide +kernel⟩, List.mem_of_getElem? (i := 1416) (by decide +kernel), List.mem_of_getElem? (i := 1617) (by decide +kernel), List.mem_of_getElem? (i := 1618) (by decide +kernel)⟩
theorem lw_p46 : lw_okq (⟨"StandTableModel", "committeePart", "()Z"⟩, 37) := ⟨⟨by decide +kernel, by decide +kernel⟩, List.mem_of_getElem? (i := 1416) (by decide +kernel), List.mem_of_getElem? (i := 1621) (by decide +kernel), List.mem_of_getElem? (i := 1622) (by decide +kernel)⟩
theorem lw_p47 : lw_okq (⟨"StandTableModel", "inWords", "(Ljava/lang/String;)I"⟩, 37) := ⟨⟨by decide +kernel, by decide +kernel⟩, List.mem_of_getElem? (i := 1416) (by decide +kernel), List.mem_of_getElem? (i := 1626) (by decide +kernel), List.mem_of_getElem? (i := 1627) (by decide +kernel)⟩
def lw_privs_3 : List (MethodName × Nat) := [(⟨"StandTable$Life", "spend", "(LStandTable$Committee;I)Z"⟩, 8), (⟨"StandTable$Life", "agreeTo", "(LStandTable$Committee;I)Z"⟩, 8), (⟨"StandTable$Life", "letGo", "(LStandTable$Committee;I)Z"⟩, 8), (⟨"StandTable$Life", "seatAny", "(LStandTable$Committee;)Z"⟩, 8), (⟨"StandTable$Life", "draw", "(I)I"⟩, 8), (⟨"StandTable", "keptAt", "(I)LStandTable$Committee;"⟩, 18), (⟨"StandTableModel", "plain", "(I)V"⟩, 37), (⟨"StandTableModel", "is", "(I)Z"⟩, 37), (⟨"StandTableModel", "wrongPlace", "(II)I"⟩, 37), (⟨"StandTableModel", "four", "(I)V"⟩, 37), (⟨"StandTableModel", "begins", "(II)Z"⟩, 37), (⟨"StandTableModel", "ahead", "()V"⟩, 37), (⟨"StandTableModel", "byteAt", "(I)I"⟩, 37), (⟨"StandTableModel", "refuse", "(I)I"⟩, 37), (⟨"StandTableModel", "committeePart", "()Z"⟩, 37), (⟨"StandTableModel", "inWords", "(Ljava/lang/String;)I"⟩, 37)]
theorem lw_r3 : ∀ q ∈ lw_privs_3, lw_okq q := List.forall_mem_cons.mpr ⟨lw_p32, List.forall_mem_cons.mpr ⟨lw_p33, List.forall_mem_cons.mpr ⟨lw_p34, List.forall_mem_cons.mpr ⟨lw_p35, List.forall_mem_cons.mpr ⟨lw_p36, List.forall_mem_cons.mpr ⟨lw_p37, List.forall_mem_cons.mpr ⟨lw_p38, List.forall_mem_cons.mpr ⟨lw_p39, List.forall_mem_cons.mpr ⟨lw_p40, List.forall_mem_cons.mpr ⟨lw_p41, List.forall_mem_cons.mpr ⟨lw_p42, List.forall_mem_cons.mpr ⟨lw_p43, List.forall_mem_cons.mpr ⟨lw_p44, List.forall_mem_cons.mpr ⟨lw_p45, List.forall_mem_cons.mpr ⟨lw_p46, List.forall_mem_cons.mpr ⟨lw_p47, fun _ h => absurd h List.not_mem_nil⟩⟩⟩⟩⟩⟩⟩⟩⟩⟩⟩⟩⟩⟩⟩⟩
theorem lw_p48 : lw_okq (⟨"StandTableModel", "fails", "(I)Z"⟩, 37) := ⟨⟨by decide +kernel, by decide +kernel⟩, List.mem_of_getElem? (i := 1416) (by decide +kernel), List.mem_of_getElem? (i := 1632) (by decide +kernel), List.mem_of_getElem? (i := 1633) (by decide +kernel)⟩
theorem lw_p49 : lw_okq (⟨"StandTableModel", "number", "(III)Z"⟩, 37) := ⟨⟨by decide +kernel, by decide +kernel⟩, List.mem_of_getElem? (i := 1416) (by decide +kernel), List.mem_of_getElem? (i := 1636) (by decide +kernel), List.mem_of_getElem? (i := 1637) (by decide +kernel)⟩
theorem lw_p50 : lw_okq (⟨"StandTableModel", "aParty", "()Z"⟩, 37) := ⟨⟨by decide +kernel, by decide +kernel⟩, List.mem_of_getElem? (i := 1416) (by decide +kernel), List.mem_of_getElem? (i := 1640) (by decide +kernel), List.mem_of_getElem? (i := 1641) (by decide +kernel)⟩
theorem lw_p51 : lw_okq (⟨"StandTableModel", "newOne", "(III)Z"⟩, 37) := ⟨⟨by decide +kernel, by decide +kernel⟩, List.mem_of_getElem? (i := 1416) (by decide +kernel), List.mem_of_getElem? (i := 1644) (by decide +kernel), List.mem_of_getElem? (i := 1645) (by decide +kernel)⟩
theorem lw_p52 : lw_okq (⟨"StandTableModel", "isName", "(Ljava/lang/String;)Z"⟩, 37) := ⟨⟨by decide +kernel, by decide +kernel⟩, List.mem_of_getElem? (i := 1416) (by decide +kernel), List.mem_of_getElem? (i := 1648) (by decide +kernel), List.mem_of_getElem? (i := 1649) (by decide +kernel)⟩
theorem lw_p53 : lw_okq (⟨"StandTableModel", "findHere", "(II)I"⟩, 37) := ⟨⟨by decide +kernel, by decide +kernel⟩, List.mem_of_getElem? (i := 1416) (by decide +kernel), List.mem_of_getElem? (i := 1652) (by decide +kernel), List.mem_of_getElem? (i := 1653) (by decide +kernel)⟩
theorem lw_p54 : lw_okq (⟨"StandTableModel", "nameHere", "()J"⟩, 37) := ⟨⟨by decide +kernel, by decide +kernel⟩, List.mem_of_getElem? (i := 1416) (by decide +kernel), List.mem_of_getElem? (i := 1656) (by decide +kernel), List.mem_of_getElem? (i := 1657) (by decide +kernel)⟩
theorem lw_p55 : lw_okq (⟨"StandTableModel", "isThere", "(I)Z"⟩, 37) := ⟨⟨by decide +kernel, by decide +kernel⟩, List.mem_of_getElem? (i := 1416) (by decide +kernel), List.mem_of_getElem? (i := 1660) (by decide +kernel), List.mem_of_getElem? (i := 1661) (by decide +kernel)⟩
theorem lw_p56 : lw_okq (⟨"StandTableModel", "aWish", "(Z)Z"⟩, 37) := ⟨⟨by decide +kernel, by decide +kernel⟩, List.mem_of_getElem? (i := 1416) (by decide +kernel), List.mem_of_getElem? (i := 1664) (by decide +kernel), List.mem_of_getElem? (i := 1665) (by decide +kernel)⟩
theorem lw_p57 : lw_okq (⟨"StandTableModel", "partyTo", "(I)Z"⟩, 37) := ⟨⟨by decide +kernel, by decide +kernel⟩, List.mem_of_getElem? (i := 1416) (by decide +kernel), List.mem_of_getElem? (i := 1668) (by decide +kernel), List.mem_of_getElem? (i := 1669) (by decide +kernel)⟩
theorem lw_p58 : lw_okq (⟨"StandTableModel", "wantWord", "(Ljava/lang/String;I)Z"⟩, 37) := ⟨⟨by decide +kernel, by decide +kernel⟩, List.mem_of_getElem? (i := 1416) (by decide +kernel), List.mem_of_getElem? (i := 1672) (by decide +kernel), List.mem_of_getElem? (i := 1673) (by decide +kernel)⟩
theorem lw_p59 : lw_okq (⟨"StandTableModel", "anArticle", "()Z"⟩, 37) := ⟨⟨by decide +kernel, by decide +kernel⟩, List.mem_of_getElem? (i := 1416) (by decide +kernel), List.mem_of_getElem? (i := 1676) (by decide +kernel), List.mem_of_getElem? (i := 1677) (by decide +kernel)⟩
theorem lw_p60 : lw_okq (⟨"StandTableModel", "wantSign", "(I)Z"⟩, 37) := ⟨⟨by decide +kernel, by decide +kernel⟩, List.mem_of_getElem? (i := 1416) (by decide +kernel), List.mem_of_getElem? (i := 1680) (by decide +kernel), List.mem_of_getElem? (i := 1681) (by decide +kernel)⟩
theorem lw_p61 : lw_okq (⟨"StandTableModel", "isSign", "(I)Z"⟩, 37) := ⟨⟨by decide +kernel, by decide +kernel⟩, List.mem_of_getElem? (i := 1416) (by decide +kernel), List.mem_of_getElem? (i := 1684) (by decide +kernel), List.mem_of_getElem? (i := 1685) (by decide +kernel)⟩
theorem lw_p62 : lw_okq (⟨"StandTableModel", "taken", "(I)I"⟩, 37) := ⟨⟨by decide +kernel, by decide +kernel⟩, List.mem_of_getElem? (i := 1416) (by decide +kernel), List.mem_of_getElem? (i := 1688) (by decide +kernel), List.mem_of_getElem? (i := 1689) (by decide +kernel)⟩
theorem lw_p63 : lw_okq (⟨"StandTableModel", "gives", "(I)I"⟩, 37) := ⟨⟨by decide +kernel, by decide +kernel⟩, List.mem_of_getElem? (i := 1416) (by decide +kernel), List.mem_of_getElem? (i := 1692) (by decide +kernel), List.mem_of_getElem? (i := 1693) (by decide +kernel)⟩
def lw_privs_4 : List (MethodName × Nat) := [(⟨"StandTableModel", "fails", "(I)Z"⟩, 37), (⟨"StandTableModel", "number", "(III)Z"⟩, 37), (⟨"StandTableModel", "aParty", "()Z"⟩, 37), (⟨"StandTableModel", "newOne", "(III)Z"⟩, 37), (⟨"StandTableModel", "isName", "(Ljava/lang/String;)Z"⟩, 37), (⟨"StandTableModel", "findHere", "(II)I"⟩, 37), (⟨"StandTableModel", "nameHere", "()J"⟩, 37), (⟨"StandTableModel", "isThere", "(I)Z"⟩, 37), (⟨"StandTableModel", "aWish", "(Z)Z"⟩, 37), (⟨"StandTableModel", "partyTo", "(I)Z"⟩, 37), (⟨"StandTableModel", "wantWord", "(Ljava/lang/String;I)Z"⟩, 37), (⟨"StandTableModel", "anArticle", "()Z"⟩, 37), (⟨"StandTableModel", "wantSign", "(I)Z"⟩, 37), (⟨"StandTableModel", "isSign", "(I)Z"⟩, 37), (⟨"StandTableModel", "taken", "(I)I"⟩, 37), (⟨"StandTableModel", "gives", "(I)I"⟩, 37)]
theorem lw_r4 : ∀ q ∈ lw_privs_4, lw_okq q := List.forall_mem_cons.mpr ⟨lw_p48, List.forall_mem_cons.mpr ⟨lw_p49, List.forall_mem_cons.mpr ⟨lw_p50, List.forall_mem_cons.mpr ⟨lw_p51, List.forall_mem_cons.mpr ⟨lw_p52, List.forall_mem_cons.mpr ⟨lw_p53, List.forall_mem_cons.mpr ⟨lw_p54, List.forall_mem_cons.mpr ⟨lw_p55, List.forall_mem_cons.mpr ⟨lw_p56, List.forall_mem_cons.mpr ⟨lw_p57, List.forall_mem_cons.mpr ⟨lw_p58, List.forall_mem_cons.mpr ⟨lw_p59, List.forall_mem_cons.mpr ⟨lw_p60, List.forall_mem_cons.mpr ⟨lw_p61, List.forall_mem_cons.mpr ⟨lw_p62, List.forall_mem_cons.mpr ⟨lw_p63, fun _ h => absurd h List.not_mem_nil⟩⟩⟩⟩⟩⟩⟩⟩⟩⟩⟩⟩⟩⟩⟩⟩
theorem lw_p64 : lw_okq (⟨"StandTableModel", "sessionStep", "()Z"⟩, 37) := ⟨⟨by decide +kernel, by decide +kernel⟩, List.mem_of_getElem? (i := 1416) (by decide +kernel), List.mem_of_getElem? (i := 1700) (by decide +kernel), List.mem_of_getElem? (i := 1701) (by decide +kernel)⟩
theorem lw_p65 : lw_okq (⟨"StandTableModel", "sessionOrder", "(II)Z"⟩, 37) := ⟨⟨by decide +kernel, by decide +kernel⟩, List.mem_of_getElem? (i := 1416) (by decide +kernel), List.mem_of_getElem? (i := 1704) (by decide +kernel), List.mem_of_getElem? (i := 1705) (by decide +kernel)⟩
theorem lw_p66 : lw_okq (⟨"StandTableModel", "oldParty", "(I)Z"⟩, 37) := ⟨⟨by decide +kernel, by decide +kernel⟩, List.mem_of_getElem? (i := 1416) (by decide +kernel), List.mem_of_getElem? (i := 1708) (by decide +kernel), List.mem_of_getElem? (i := 1709) (by decide +kernel)⟩
theorem lw_p67 : lw_okq (⟨"StandTableModel", "oldOne", "(III)Z"⟩, 37) := ⟨⟨by decide +kernel, by decide +kernel⟩, List.mem_of_getElem? (i := 1416) (by decide +kernel), List.mem_of_getElem? (i := 1712) (by decide +kernel), List.mem_of_getElem? (i := 1713) (by decide +kernel)⟩
theorem lw_p68 : lw_okq (⟨"StandTableModel", "oldArticle", "(I)Z"⟩, 37) := ⟨⟨by decide +kernel, by decide +kernel⟩, List.mem_of_getElem? (i := 1416) (by decide +kernel), List.mem_of_getElem? (i := 1716) (by decide +kernel), List.mem_of_getElem? (i := 1717) (by decide +kernel)⟩
theorem lw_p69 : lw_okq (⟨"StandTableModel", "test", "(I)Z"⟩, 37) := ⟨⟨by decide +kernel, by decide +kernel⟩, List.mem_of_getElem? (i := 1416) (by decide +kernel), List.mem_of_getElem? (i := 1720) (by decide +kernel), List.mem_of_getElem? (i := 1721) (by decide +kernel)⟩
theorem lw_p70 : lw_okq (⟨"StandTableModel", "seatsNow", "()V"⟩, 37) := ⟨⟨by decide +kernel, by decide +kernel⟩, List.mem_of_getElem? (i := 1416) (by decide +kernel), List.mem_of_getElem? (i := 1728) (by decide +kernel), List.mem_of_getElem? (i := 1729) (by decide +kernel)⟩
theorem lw_p71 : lw_okq (⟨"StandTableModel", "seatOf", "(I)I"⟩, 37) := ⟨⟨by decide +kernel, by decide +kernel⟩, List.mem_of_getElem? (i := 1416) (by decide +kernel), List.mem_of_getElem? (i := 1732) (by decide +kernel), List.mem_of_getElem? (i := 1733) (by decide +kernel)⟩
theorem lw_p72 : lw_okq (⟨"StandTableModel", "sitting", "()I"⟩, 37) := ⟨⟨by decide +kernel, by decide +kernel⟩, List.mem_of_getElem? (i := 1416) (by decide +kernel), List.mem_of_getElem? (i := 1739) (by decide +kernel), List.mem_of_getElem? (i := 1740) (by decide +kernel)⟩
theorem lw_p73 : lw_okq (⟨"StandTableModel", "signing", "()I"⟩, 37) := ⟨⟨by decide +kernel, by decide +kernel⟩, List.mem_of_getElem? (i := 1416) (by decide +kernel), List.mem_of_getElem? (i := 1743) (by decide +kernel), List.mem_of_getElem? (i := 1744) (by decide +kernel)⟩
theorem lw_p74 : lw_okq (⟨"StandTableModel", "doesSign", "(I)Z"⟩, 37) := ⟨⟨by decide +kernel, by decide +kernel⟩, List.mem_of_getElem? (i := 1416) (by decide +kernel), List.mem_of_getElem? (i := 1747) (by decide +kernel), List.mem_of_getElem? (i := 1748) (by decide +kernel)⟩
theorem lw_p75 : lw_okq (⟨"StandTableModel", "worthOf", "(I)I"⟩, 37) := ⟨⟨by decide +kernel, by decide +kernel⟩, List.mem_of_getElem? (i := 1416) (by decide +kernel), List.mem_of_getElem? (i := 1751) (by decide +kernel), List.mem_of_getElem? (i := 1752) (by decide +kernel)⟩
theorem lw_p76 : lw_okq (⟨"StandTableModel", "isHad", "(I)Z"⟩, 37) := ⟨⟨by decide +kernel, by decide +kernel⟩, List.mem_of_getElem? (i := 1416) (by decide +kernel), List.mem_of_getElem? (i := 1758) (by decide +kernel), List.mem_of_getElem? (i := 1759) (by decide +kernel)⟩
theorem lw_p77 : lw_okq (⟨"StandTableModel", "isIn", "(II)Z"⟩, 37) := ⟨⟨by decide +kernel, by decide +kernel⟩, List.mem_of_getElem? (i := 1416) (by decide +kernel), List.mem_of_getElem? (i := 1762) (by decide +kernel), List.mem_of_getElem? (i := 1763) (by decide +kernel)⟩
theorem lw_p78 : lw_okq (⟨"StandTableModel", "areBeside", "(II)Z"⟩, 37) := ⟨⟨by decide +kernel, by decide +kernel⟩, List.mem_of_getElem? (i := 1416) (by decide +kernel), List.mem_of_getElem? (i := 1766) (by decide +kernel), List.mem_of_getElem? (i := 1767) (by decide +kernel)⟩
theorem lw_p79 : lw_okq (⟨"StandTableModel", "areFacing", "(II)Z"⟩, 37) := ⟨⟨by decide +kernel, by decide +kernel⟩, List.mem_of_getElem? (i := 1416) (by decide +kernel), List.mem_of_getElem? (i := 1771) (by decide +kernel), List.mem_of_getElem? (i := 1772) (by decide +kernel)⟩
def lw_privs_5 : List (MethodName × Nat) := [(⟨"StandTableModel", "sessionStep", "()Z"⟩, 37), (⟨"StandTableModel", "sessionOrder", "(II)Z"⟩, 37), (⟨"StandTableModel", "oldParty", "(I)Z"⟩, 37), (⟨"StandTableModel", "oldOne", "(III)Z"⟩, 37), (⟨"StandTableModel", "oldArticle", "(I)Z"⟩, 37), (⟨"StandTableModel", "test", "(I)Z"⟩, 37), (⟨"StandTableModel", "seatsNow", "()V"⟩, 37), (⟨"StandTableModel", "seatOf", "(I)I"⟩, 37), (⟨"StandTableModel", "sitting", "()I"⟩, 37), (⟨"StandTableModel", "signing", "()I"⟩, 37), (⟨"StandTableModel", "doesSign", "(I)Z"⟩, 37), (⟨"StandTableModel", "worthOf", "(I)I"⟩, 37), (⟨"StandTableModel", "isHad", "(I)Z"⟩, 37), (⟨"StandTableModel", "isIn", "(II)Z"⟩, 37), (⟨"StandTableModel", "areBeside", "(II)Z"⟩, 37), (⟨"StandTableModel", "areFacing", "(II)Z"⟩, 37)]
theorem lw_r5 : ∀ q ∈ lw_privs_5, lw_okq q := List.forall_mem_cons.mpr ⟨lw_p64, List.forall_mem_cons.mpr ⟨lw_p65, List.forall_mem_cons.mpr ⟨lw_p66, List.forall_mem_cons.mpr ⟨lw_p67, List.forall_mem_cons.mpr ⟨lw_p68, List.forall_mem_cons.mpr ⟨lw_p69, List.forall_mem_cons.mpr ⟨lw_p70, List.forall_mem_cons.mpr ⟨lw_p71, List.forall_mem_cons.mpr ⟨lw_p72, List.forall_mem_cons.mpr ⟨lw_p73, List.forall_mem_cons.mpr ⟨lw_p74, List.forall_mem_cons.mpr ⟨lw_p75, List.forall_mem_cons.mpr ⟨lw_p76, List.forall_mem_cons.mpr ⟨lw_p77, List.forall_mem_cons.mpr ⟨lw_p78, List.forall_mem_cons.mpr ⟨lw_p79, fun _ h => absurd h List.not_mem_nil⟩⟩⟩⟩⟩⟩⟩⟩⟩⟩⟩⟩⟩⟩⟩⟩
theorem lw_p80 : lw_okq (⟨"StandTableModel", "leastOf", "(I)I"⟩, 37) := ⟨⟨by decide +kernel, by decide +kernel⟩, List.mem_of_getElem? (i := 1416) (by decide +kernel), List.mem_of_getElem? (i := 1775) (by decide +kernel), List.mem_of_getElem? (i := 1776) (by decide +kernel)⟩
theorem lw_p81 : lw_okq (⟨"StandTableModel", "agreedNow", "()I"⟩, 37) := ⟨⟨by decide +kernel, by decide +kernel⟩, List.mem_of_getElem? (i := 1416) (by decide +kernel), List.mem_of_getElem? (i := 1779) (by decide +kernel), List.mem_of_getElem? (i := 1780) (by decide +kernel)⟩
theorem lw_p82 : lw_okq (⟨"StandTableModel", "isAgreed", "(I)Z"⟩, 37) := ⟨⟨by decide +kernel, by decide +kernel⟩, List.mem_of_getElem? (i := 1416) (by decide +kernel), List.mem_of_getElem? (i := 1783) (by decide +kernel), List.mem_of_getElem? (i := 1784) (by decide +kernel)⟩
theorem lw_p83 : lw_okq (⟨"StandTableModel", "openNow", "()I"⟩, 37) := ⟨⟨by decide +kernel, by decide +kernel⟩, List.mem_of_getElem? (i := 1416) (by decide +kernel), List.mem_of_getElem? (i := 1790) (by decide +kernel), List.mem_of_getElem? (i := 1791) (by decide +kernel)⟩
theorem lw_p84 : lw_okq (⟨"StandTableModel", "isOpen", "(I)Z"⟩, 37) := ⟨⟨by decide +kernel, by decide +kernel⟩, List.mem_of_getElem? (i := 1416) (by decide +kernel), List.mem_of_getElem? (i := 1794) (by decide +kernel), List.mem_of_getElem? (i := 1795) (by decide +kernel)⟩
theorem lw_p85 : lw_okq (⟨"StandTableModel", "isPlace", "(I)Z"⟩, 37) := ⟨⟨by decide +kernel, by decide +kernel⟩, List.mem_of_getElem? (i := 1416) (by decide +kernel), List.mem_of_getElem? (i := 1802) (by decide +kernel), List.mem_of_getElem? (i := 1803) (by decide +kernel)⟩
theorem lw_p86 : lw_okq (⟨"StandTableModel", "sitsAt", "(I)I"⟩, 37) := ⟨⟨by decide +kernel, by decide +kernel⟩, List.mem_of_getElem? (i := 1416) (by decide +kernel), List.mem_of_getElem? (i := 1806) (by decide +kernel), List.mem_of_getElem? (i := 1807) (by decide +kernel)⟩
theorem lw_p87 : lw_okq (⟨"StandTableModel", "orNone", "(I)I"⟩, 37) := ⟨⟨by decide +kernel, by decide +kernel⟩, List.mem_of_getElem? (i := 1416) (by decide +kernel), List.mem_of_getElem? (i := 1810) (by decide +kernel), List.mem_of_getElem? (i := 1811) (by decide +kernel)⟩
theorem lw_p88 : lw_okq (⟨"StandTableModel", "isParty", "(I)Z"⟩, 37) := ⟨⟨by decide +kernel, by decide +kernel⟩, List.mem_of_getElem? (i := 1416) (by decide +kernel), List.mem_of_getElem? (i := 1818) (by decide +kernel), List.mem_of_getElem? (i := 1819) (by decide +kernel)⟩
theorem lw_p89 : lw_okq (⟨"StandTableModel", "isArticle", "(I)Z"⟩, 37) := ⟨⟨by decide +kernel, by decide +kernel⟩, List.mem_of_getElem? (i := 1416) (by decide +kernel), List.mem_of_getElem? (i := 1834) (by decide +kernel), List.mem_of_getElem? (i := 1835) (by decide +kernel)⟩
theorem lw_p90 : lw_okq (⟨"StandTableModel", "areTwo", "(II)Z"⟩, 37) := ⟨⟨by decide +kernel, by decide +kernel⟩, List.mem_of_getElem? (i := 1416) (by decide +kernel), List.mem_of_getElem? (i := 1842) (by decide +kernel), List.mem_of_getElem? (i := 1843) (by decide +kernel)⟩
theorem lw_p91 : lw_okq (⟨"StandTableModel", "bothSit", "(II)Z"⟩, 37) := ⟨⟨by decide +kernel, by decide +kernel⟩, List.mem_of_getElem? (i := 1416) (by decide +kernel), List.mem_of_getElem? (i := 1846) (by decide +kernel), List.mem_of_getElem? (i := 1847) (by decide +kernel)⟩
theorem lw_p92 : lw_okq (⟨"StandTableModel", "worthOfAll", "()I"⟩, 37) := ⟨⟨by decide +kernel, by decide +kernel⟩, List.mem_of_getElem? (i := 1416) (by decide +kernel), List.mem_of_getElem? (i := 1862) (by decide +kernel), List.mem_of_getElem? (i := 1863) (by decide +kernel)⟩
theorem lw_p93 : lw_okq (⟨"StandTableModel", "sits", "(II)Z"⟩, 37) := ⟨⟨by decide +kernel, by decide +kernel⟩, List.mem_of_getElem? (i := 1416) (by decide +kernel), List.mem_of_getElem? (i := 1878) (by decide +kernel), List.mem_of_getElem? (i := 1879) (by decide +kernel)⟩
theorem lw_p94 : lw_okq (⟨"StandTableModel", "swaps", "(II)Z"⟩, 37) := ⟨⟨by decide +kernel, by decide +kernel⟩, List.mem_of_getElem? (i := 1416) (by decide +kernel), List.mem_of_getElem? (i := 1890) (by decide +kernel), List.mem_of_getElem? (i := 1891) (by decide +kernel)⟩
theorem lw_p95 : lw_okq (⟨"StandTableModel", "turnsBy", "(I)V"⟩, 37) := ⟨⟨by decide +kernel, by decide +kernel⟩, List.mem_of_getElem? (i := 1416) (by decide +kernel), List.mem_of_getElem? (i := 1902) (by decide +kernel), List.mem_of_getElem? (i := 1903) (by decide +kernel)⟩
def lw_privs_6 : List (MethodName × Nat) := [(⟨"StandTableModel", "leastOf", "(I)I"⟩, 37), (⟨"StandTableModel", "agreedNow", "()I"⟩, 37), (⟨"StandTableModel", "isAgreed", "(I)Z"⟩, 37), (⟨"StandTableModel", "openNow", "()I"⟩, 37), (⟨"StandTableModel", "isOpen", "(I)Z"⟩, 37), (⟨"StandTableModel", "isPlace", "(I)Z"⟩, 37), (⟨"StandTableModel", "sitsAt", "(I)I"⟩, 37), (⟨"StandTableModel", "orNone", "(I)I"⟩, 37), (⟨"StandTableModel", "isParty", "(I)Z"⟩, 37), (⟨"StandTableModel", "isArticle", "(I)Z"⟩, 37), (⟨"StandTableModel", "areTwo", "(II)Z"⟩, 37), (⟨"StandTableModel", "bothSit", "(II)Z"⟩, 37), (⟨"StandTableModel", "worthOfAll", "()I"⟩, 37), (⟨"StandTableModel", "sits", "(II)Z"⟩, 37), (⟨"StandTableModel", "swaps", "(II)Z"⟩, 37), (⟨"StandTableModel", "turnsBy", "(I)V"⟩, 37)]
theorem lw_r6 : ∀ q ∈ lw_privs_6, lw_okq q := List.forall_mem_cons.mpr ⟨lw_p80, List.forall_mem_cons.mpr ⟨lw_p81, List.forall_mem_cons.mpr ⟨lw_p82, List.forall_mem_cons.mpr ⟨lw_p83, List.forall_mem_cons.mpr ⟨lw_p84, List.forall_mem_cons.mpr ⟨lw_p85, List.forall_mem_cons.mpr ⟨lw_p86, List.forall_mem_cons.mpr ⟨lw_p87, List.forall_mem_cons.mpr ⟨lw_p88, List.forall_mem_cons.mpr ⟨lw_p89, List.forall_mem_cons.mpr ⟨lw_p90, List.forall_mem_cons.mpr ⟨lw_p91, List.forall_mem_cons.mpr ⟨lw_p92, List.forall_mem_cons.mpr ⟨lw_p93, List.forall_mem_cons.mpr ⟨lw_p94, List.forall_mem_cons.mpr ⟨lw_p95, fun _ h => absurd h List.not_mem_nil⟩⟩⟩⟩⟩⟩⟩⟩⟩⟩⟩⟩⟩⟩⟩⟩
theorem lw_p96 : lw_okq (⟨"StandTableModel", "daysGo", "(I)I"⟩, 37) := ⟨⟨by decide +kernel, by decide +kernel⟩, List.mem_of_getElem? (i := 1416) (by decide +kernel), List.mem_of_getElem? (i := 1913) (by decide +kernel), List.mem_of_getElem? (i := 1914) (by decide +kernel)⟩
theorem lw_p97 : lw_okq (⟨"StandTableModel", "dayGoes", "()I"⟩, 37) := ⟨⟨by decide +kernel, by decide +kernel⟩, List.mem_of_getElem? (i := 1416) (by decide +kernel), List.mem_of_getElem? (i := 1917) (by decide +kernel), List.mem_of_getElem? (i := 1918) (by decide +kernel)⟩
theorem lw_p98 : lw_okq (⟨"StandTableModel", "agrees", "(I)Z"⟩, 37) := ⟨⟨by decide +kernel, by decide +kernel⟩, List.mem_of_getElem? (i := 1416) (by decide +kernel), List.mem_of_getElem? (i := 1925) (by decide +kernel), List.mem_of_getElem? (i := 1926) (by decide +kernel)⟩
theorem lw_p99 : lw_okq (⟨"StandTableModel", "fallsNow", "(I)I"⟩, 37) := ⟨⟨by decide +kernel, by decide +kernel⟩, List.mem_of_getElem? (i := 1416) (by decide +kernel), List.mem_of_getElem? (i := 1933) (by decide +kernel), List.mem_of_getElem? (i := 1934) (by decide +kernel)⟩
theorem lw_p100 : lw_okq (⟨"StandTableModel", "fallsWith", "(I)I"⟩, 37) := ⟨⟨by decide +kernel, by decide +kernel⟩, List.mem_of_getElem? (i := 1416) (by decide +kernel), List.mem_of_getElem? (i := 1937) (by decide +kernel), List.mem_of_getElem? (i := 1938) (by decide +kernel)⟩
theorem lw_p101 : lw_okq (⟨"StandTableModel", "codes", "()I"⟩, 37) := ⟨⟨by decide +kernel, by decide +kernel⟩, List.mem_of_getElem? (i := 1416) (by decide +kernel), List.mem_of_getElem? (i := 1960) (by decide +kernel), List.mem_of_getElem? (i := 1961) (by decide +kernel)⟩
theorem lw_p102 : lw_okq (⟨"StandTableModel", "seatsBy", "(I)Z"⟩, 37) := ⟨⟨by decide +kernel, by decide +kernel⟩, List.mem_of_getElem? (i := 1416) (by decide +kernel), List.mem_of_getElem? (i := 1964) (by decide +kernel), List.mem_of_getElem? (i := 1965) (by decide +kernel)⟩
theorem lw_p103 : lw_okq (⟨"StandTableModel", "isGood", "()Z"⟩, 37) := ⟨⟨by decide +kernel, by decide +kernel⟩, List.mem_of_getElem? (i := 1416) (by decide +kernel), List.mem_of_getElem? (i := 1972) (by decide +kernel), List.mem_of_getElem? (i := 1973) (by decide +kernel)⟩
theorem lw_p104 : lw_okq (⟨"StandTableModel", "everybody", "()I"⟩, 37) := ⟨⟨by decide +kernel, by decide +kernel⟩, List.mem_of_getElem? (i := 1416) (by decide +kernel), List.mem_of_getElem? (i := 1976) (by decide +kernel), List.mem_of_getElem? (i := 1977) (by decide +kernel)⟩
theorem lw_p105 : lw_okq (⟨"StandTableModel", "isClass", "(I)Z"⟩, 37) := ⟨⟨by decide +kernel, by decide +kernel⟩, List.mem_of_getElem? (i := 1416) (by decide +kernel), List.mem_of_getElem? (i := 1984) (by decide +kernel), List.mem_of_getElem? (i := 1985) (by decide +kernel)⟩
theorem lw_p106 : lw_okq (⟨"StandTableModel", "codeOf", "()I"⟩, 37) := ⟨⟨by decide +kernel, by decide +kernel⟩, List.mem_of_getElem? (i := 1416) (by decide +kernel), List.mem_of_getElem? (i := 1988) (by decide +kernel), List.mem_of_getElem? (i := 1989) (by decide +kernel)⟩
theorem lw_p107 : lw_okq (⟨"StandTableModel", "moves", "(Z)V"⟩, 37) := ⟨⟨by decide +kernel, by decide +kernel⟩, List.mem_of_getElem? (i := 1416) (by decide +kernel), List.mem_of_getElem? (i := 1992) (by decide +kernel), List.mem_of_getElem? (i := 1993) (by decide +kernel)⟩
theorem lw_p108 : lw_okq (⟨"StandTableModel", "firstGood", "()I"⟩, 37) := ⟨⟨by decide +kernel, by decide +kernel⟩, List.mem_of_getElem? (i := 1416) (by decide +kernel), List.mem_of_getElem? (i := 2000) (by decide +kernel), List.mem_of_getElem? (i := 2001) (by decide +kernel)⟩
theorem lw_p109 : lw_okq (⟨"StandTableModel", "bestCode", "()I"⟩, 37) := ⟨⟨by decide +kernel, by decide +kernel⟩, List.mem_of_getElem? (i := 1416) (by decide +kernel), List.mem_of_getElem? (i := 2008) (by decide +kernel), List.mem_of_getElem? (i := 2009) (by decide +kernel)⟩
theorem lw_p110 : lw_okq (⟨"StandTableModel", "arePleased", "(I)Z"⟩, 37) := ⟨⟨by decide +kernel, by decide +kernel⟩, List.mem_of_getElem? (i := 1416) (by decide +kernel), List.mem_of_getElem? (i := 2025) (by decide +kernel), List.mem_of_getElem? (i := 2026) (by decide +kernel)⟩
theorem lw_p111 : lw_okq (⟨"StandTableModel", "fishing", "()I"⟩, 37) := ⟨⟨by decide +kernel, by decide +kernel⟩, List.mem_of_getElem? (i := 1416) (by decide +kernel), List.mem_of_getElem? (i := 2050) (by decide +kernel), List.mem_of_getElem? (i := 2051) (by decide +kernel)⟩
def lw_privs_7 : List (MethodName × Nat) := [(⟨"StandTableModel", "daysGo", "(I)I"⟩, 37), (⟨"StandTableModel", "dayGoes", "()I"⟩, 37), (⟨"StandTableModel", "agrees", "(I)Z"⟩, 37), (⟨"StandTableModel", "fallsNow", "(I)I"⟩, 37), (⟨"StandTableModel", "fallsWith", "(I)I"⟩, 37), (⟨"StandTableModel", "codes", "()I"⟩, 37), (⟨"StandTableModel", "seatsBy", "(I)Z"⟩, 37), (⟨"StandTableModel", "isGood", "()Z"⟩, 37), (⟨"StandTableModel", "everybody", "()I"⟩, 37), (⟨"StandTableModel", "isClass", "(I)Z"⟩, 37), (⟨"StandTableModel", "codeOf", "()I"⟩, 37), (⟨"StandTableModel", "moves", "(Z)V"⟩, 37), (⟨"StandTableModel", "firstGood", "()I"⟩, 37), (⟨"StandTableModel", "bestCode", "()I"⟩, 37), (⟨"StandTableModel", "arePleased", "(I)Z"⟩, 37), (⟨"StandTableModel", "fishing", "()I"⟩, 37)]
theorem lw_r7 : ∀ q ∈ lw_privs_7, lw_okq q := List.forall_mem_cons.mpr ⟨lw_p96, List.forall_mem_cons.mpr ⟨lw_p97, List.forall_mem_cons.mpr ⟨lw_p98, List.forall_mem_cons.mpr ⟨lw_p99, List.forall_mem_cons.mpr ⟨lw_p100, List.forall_mem_cons.mpr ⟨lw_p101, List.forall_mem_cons.mpr ⟨lw_p102, List.forall_mem_cons.mpr ⟨lw_p103, List.forall_mem_cons.mpr ⟨lw_p104, List.forall_mem_cons.mpr ⟨lw_p105, List.forall_mem_cons.mpr ⟨lw_p106, List.forall_mem_cons.mpr ⟨lw_p107, List.forall_mem_cons.mpr ⟨lw_p108, List.forall_mem_cons.mpr ⟨lw_p109, List.forall_mem_cons.mpr ⟨lw_p110, List.forall_mem_cons.mpr ⟨lw_p111, fun _ h => absurd h List.not_mem_nil⟩⟩⟩⟩⟩⟩⟩⟩⟩⟩⟩⟩⟩⟩⟩⟩
theorem lw_p112 : lw_okq (⟨"StandTableModel", "swapsSeats", "(II)V"⟩, 37) := ⟨⟨by decide +kernel, by decide +kernel⟩, List.mem_of_getElem? (i := 1416) (by decide +kernel), List.mem_of_getElem? (i := 2063) (by decide +kernel), List.mem_of_getElem? (i := 2064) (by decide +kernel)⟩
theorem lw_p113 : lw_okq (⟨"StandTableModel", "wrongGame", "(IIII)I"⟩, 37) := ⟨⟨by decide +kernel, by decide +kernel⟩, List.mem_of_getElem? (i := 1416) (by decide +kernel), List.mem_of_getElem? (i := 2079) (by decide +kernel), List.mem_of_getElem? (i := 2080) (by decide +kernel)⟩
theorem lw_p114 : lw_okq (⟨"StandTableModel", "playing", "(III)I"⟩, 37) := ⟨⟨by decide +kernel, by decide +kernel⟩, List.mem_of_getElem? (i := 1416) (by decide +kernel), List.mem_of_getElem? (i := 2084) (by decide +kernel), List.mem_of_getElem? (i := 2085) (by decide +kernel)⟩
theorem lw_p115 : lw_okq (⟨"StandTableModel", "keepsSeats", "(I)V"⟩, 37) := ⟨⟨by decide +kernel, by decide +kernel⟩, List.mem_of_getElem? (i := 1416) (by decide +kernel), List.mem_of_getElem? (i := 2088) (by decide +kernel), List.mem_of_getElem? (i := 2089) (by decide +kernel)⟩
theorem lw_p116 : lw_okq (⟨"StandTableModel", "givesSeats", "(I)V"⟩, 37) := ⟨⟨by decide +kernel, by decide +kernel⟩, List.mem_of_getElem? (i := 1416) (by decide +kernel), List.mem_of_getElem? (i := 2092) (by decide +kernel), List.mem_of_getElem? (i := 2093) (by decide +kernel)⟩
theorem lw_p117 : lw_okq (⟨"StandTableModel", "weighs", "(II)V"⟩, 37) := ⟨⟨by decide +kernel, by decide +kernel⟩, List.mem_of_getElem? (i := 1416) (by decide +kernel), List.mem_of_getElem? (i := 2096) (by decide +kernel), List.mem_of_getElem? (i := 2097) (by decide +kernel)⟩
theorem lw_p118 : lw_okq (⟨"StandTableModel", "changes", "(II)V"⟩, 37) := ⟨⟨by decide +kernel, by decide +kernel⟩, List.mem_of_getElem? (i := 1416) (by decide +kernel), List.mem_of_getElem? (i := 2100) (by decide +kernel), List.mem_of_getElem? (i := 2101) (by decide +kernel)⟩
theorem lw_p119 : lw_okq (⟨"StandTableModel", "leansOf", "(I)I"⟩, 37) := ⟨⟨by decide +kernel, by decide +kernel⟩, List.mem_of_getElem? (i := 1416) (by decide +kernel), List.mem_of_getElem? (i := 2112) (by decide +kernel), List.mem_of_getElem? (i := 2113) (by decide +kernel)⟩
theorem lw_p120 : lw_okq (⟨"StandTableModel", "keeps", "(I)V"⟩, 37) := ⟨⟨by decide +kernel, by decide +kernel⟩, List.mem_of_getElem? (i := 1416) (by decide +kernel), List.mem_of_getElem? (i := 2132) (by decide +kernel), List.mem_of_getElem? (i := 2133) (by decide +kernel)⟩
theorem lw_p121 : lw_okq (⟨"StandTableModel", "restores", "(I)V"⟩, 37) := ⟨⟨by decide +kernel, by decide +kernel⟩, List.mem_of_getElem? (i := 1416) (by decide +kernel), List.mem_of_getElem? (i := 2136) (by decide +kernel), List.mem_of_getElem? (i := 2137) (by decide +kernel)⟩
theorem lw_p122 : lw_okq (⟨"StandTableModel", "luckOf", "(I)J"⟩, 37) := ⟨⟨by decide +kernel, by decide +kernel⟩, List.mem_of_getElem? (i := 1416) (by decide +kernel), List.mem_of_getElem? (i := 2153) (by decide +kernel), List.mem_of_getElem? (i := 2154) (by decide +kernel)⟩
theorem lw_p123 : lw_okq (⟨"StandTableModel", "tellsBy", "(JJ)Z"⟩, 37) := ⟨⟨by decide +kernel, by decide +kernel⟩, List.mem_of_getElem? (i := 1416) (by decide +kernel), List.mem_of_getElem? (i := 2159) (by decide +kernel), List.mem_of_getElem? (i := 2160) (by decide +kernel)⟩
theorem lw_p124 : lw_okq (⟨"StandTableModel", "wrongSeats", "(I)I"⟩, 37) := ⟨⟨by decide +kernel, by decide +kernel⟩, List.mem_of_getElem? (i := 1416) (by decide +kernel), List.mem_of_getElem? (i := 2175) (by decide +kernel), List.mem_of_getElem? (i := 2176) (by decide +kernel)⟩
theorem lw_p125 : lw_okq (⟨"StandTableModel", "lives", "(I)V"⟩, 37) := ⟨⟨by decide +kernel, by decide +kernel⟩, List.mem_of_getElem? (i := 1416) (by decide +kernel), List.mem_of_getElem? (i := 2184) (by decide +kernel), List.mem_of_getElem? (i := 2185) (by decide +kernel)⟩
theorem lw_p126 : lw_okq (⟨"StandTableModel", "does", "(I)Z"⟩, 37) := ⟨⟨by decide +kernel, by decide +kernel⟩, List.mem_of_getElem? (i := 1416) (by decide +kernel), List.mem_of_getElem? (i := 2188) (by decide +kernel), List.mem_of_getElem? (i := 2189) (by decide +kernel)⟩
theorem lw_p127 : lw_okq (⟨"StandTableModel", "risesBy", "(I)Z"⟩, 37) := ⟨⟨by decide +kernel, by decide +kernel⟩, List.mem_of_getElem? (i := 1416) (by decide +kernel), List.mem_of_getElem? (i := 2192) (by decide +kernel), List.mem_of_getElem? (i := 2193) (by decide +kernel)⟩
def lw_privs_8 : List (MethodName × Nat) := [(⟨"StandTableModel", "swapsSeats", "(II)V"⟩, 37), (⟨"StandTableModel", "wrongGame", "(IIII)I"⟩, 37), (⟨"StandTableModel", "playing", "(III)I"⟩, 37), (⟨"StandTableModel", "keepsSeats", "(I)V"⟩, 37), (⟨"StandTableModel", "givesSeats", "(I)V"⟩, 37), (⟨"StandTableModel", "weighs", "(II)V"⟩, 37), (⟨"StandTableModel", "changes", "(II)V"⟩, 37), (⟨"StandTableModel", "leansOf", "(I)I"⟩, 37), (⟨"StandTableModel", "keeps", "(I)V"⟩, 37), (⟨"StandTableModel", "restores", "(I)V"⟩, 37), (⟨"StandTableModel", "luckOf", "(I)J"⟩, 37), (⟨"StandTableModel", "tellsBy", "(JJ)Z"⟩, 37), (⟨"StandTableModel", "wrongSeats", "(I)I"⟩, 37), (⟨"StandTableModel", "lives", "(I)V"⟩, 37), (⟨"StandTableModel", "does", "(I)Z"⟩, 37), (⟨"StandTableModel", "risesBy", "(I)Z"⟩, 37)]
theorem lw_r8 : ∀ q ∈ lw_privs_8, lw_okq q := List.forall_mem_cons.mpr ⟨lw_p112, List.forall_mem_cons.mpr ⟨lw_p113, List.forall_mem_cons.mpr ⟨lw_p114, List.forall_mem_cons.mpr ⟨lw_p115, List.forall_mem_cons.mpr ⟨lw_p116, List.forall_mem_cons.mpr ⟨lw_p117, List.forall_mem_cons.mpr ⟨lw_p118, List.forall_mem_cons.mpr ⟨lw_p119, List.forall_mem_cons.mpr ⟨lw_p120, List.forall_mem_cons.mpr ⟨lw_p121, List.forall_mem_cons.mpr ⟨lw_p122, List.forall_mem_cons.mpr ⟨lw_p123, List.forall_mem_cons.mpr ⟨lw_p124, List.forall_mem_cons.mpr ⟨lw_p125, List.forall_mem_cons.mpr ⟨lw_p126, List.forall_mem_cons.mpr ⟨lw_p127, fun _ h => absurd h List.not_mem_nil⟩⟩⟩⟩⟩⟩⟩⟩⟩⟩⟩⟩⟩⟩⟩⟩
theorem lw_p128 : lw_okq (⟨"StandTableModel", "turnsAll", "(I)Z"⟩, 37) := ⟨⟨by decide +kernel, by decide +kernel⟩, List.mem_of_getElem? (i := 1416) (by decide +kernel), List.mem_of_getElem? (i := 2196) (by decide +kernel), List.mem_of_getElem? (i := 2197) (by decide +kernel)⟩
theorem lw_p129 : lw_okq (⟨"StandTableModel", "daysBy", "(I)Z"⟩, 37) := ⟨⟨by decide +kernel, by decide +kernel⟩, List.mem_of_getElem? (i := 1416) (by decide +kernel), List.mem_of_getElem? (i := 2200) (by decide +kernel), List.mem_of_getElem? (i := 2201) (by decide +kernel)⟩
theorem lw_p130 : lw_okq (⟨"StandTableModel", "agreesBy", "(I)Z"⟩, 37) := ⟨⟨by decide +kernel, by decide +kernel⟩, List.mem_of_getElem? (i := 1416) (by decide +kernel), List.mem_of_getElem? (i := 2204) (by decide +kernel), List.mem_of_getElem? (i := 2205) (by decide +kernel)⟩
theorem lw_p131 : lw_okq (⟨"StandTableModel", "withdrawsBy", "(I)Z"⟩, 37) := ⟨⟨by decide +kernel, by decide +kernel⟩, List.mem_of_getElem? (i := 1416) (by decide +kernel), List.mem_of_getElem? (i := 2208) (by decide +kernel), List.mem_of_getElem? (i := 2209) (by decide +kernel)⟩
theorem lw_p132 : lw_okq (⟨"StandTableModel", "sitsAny", "()Z"⟩, 37) := ⟨⟨by decide +kernel, by decide +kernel⟩, List.mem_of_getElem? (i := 1416) (by decide +kernel), List.mem_of_getElem? (i := 2212) (by decide +kernel), List.mem_of_getElem? (i := 2213) (by decide +kernel)⟩
theorem lw_p133 : lw_okq (⟨"StandTableModel", "draw", "(I)I"⟩, 37) := ⟨⟨by decide +kernel, by decide +kernel⟩, List.mem_of_getElem? (i := 1416) (by decide +kernel), List.mem_of_getElem? (i := 2216) (by decide +kernel), List.mem_of_getElem? (i := 2217) (by decide +kernel)⟩
theorem lw_p134 : lw_okq (⟨"StandTableModel", "holds", "(I)Z"⟩, 37) := ⟨⟨by decide +kernel, by decide +kernel⟩, List.mem_of_getElem? (i := 1416) (by decide +kernel), List.mem_of_getElem? (i := 2221) (by decide +kernel), List.mem_of_getElem? (i := 2222) (by decide +kernel)⟩
theorem lw_p135 : lw_okq (⟨"StandTableModel", "behindEnds", "(I)I"⟩, 37) := ⟨⟨by decide +kernel, by decide +kernel⟩, List.mem_of_getElem? (i := 1416) (by decide +kernel), List.mem_of_getElem? (i := 2225) (by decide +kernel), List.mem_of_getElem? (i := 2226) (by decide +kernel)⟩
theorem lw_p136 : lw_okq (⟨"StandTableModel", "copies", "(II)V"⟩, 37) := ⟨⟨by decide +kernel, by decide +kernel⟩, List.mem_of_getElem? (i := 1416) (by decide +kernel), List.mem_of_getElem? (i := 2242) (by decide +kernel), List.mem_of_getElem? (i := 2243) (by decide +kernel)⟩
def lw_privs_9 : List (MethodName × Nat) := [(⟨"StandTableModel", "turnsAll", "(I)Z"⟩, 37), (⟨"StandTableModel", "daysBy", "(I)Z"⟩, 37), (⟨"StandTableModel", "agreesBy", "(I)Z"⟩, 37), (⟨"StandTableModel", "withdrawsBy", "(I)Z"⟩, 37), (⟨"StandTableModel", "sitsAny", "()Z"⟩, 37), (⟨"StandTableModel", "draw", "(I)I"⟩, 37), (⟨"StandTableModel", "holds", "(I)Z"⟩, 37), (⟨"StandTableModel", "behindEnds", "(I)I"⟩, 37), (⟨"StandTableModel", "copies", "(II)V"⟩, 37)]
theorem lw_r9 : ∀ q ∈ lw_privs_9, lw_okq q := List.forall_mem_cons.mpr ⟨lw_p128, List.forall_mem_cons.mpr ⟨lw_p129, List.forall_mem_cons.mpr ⟨lw_p130, List.forall_mem_cons.mpr ⟨lw_p131, List.forall_mem_cons.mpr ⟨lw_p132, List.forall_mem_cons.mpr ⟨lw_p133, List.forall_mem_cons.mpr ⟨lw_p134, List.forall_mem_cons.mpr ⟨lw_p135, List.forall_mem_cons.mpr ⟨lw_p136, fun _ h => absurd h List.not_mem_nil⟩⟩⟩⟩⟩⟩⟩⟩⟩
def lw_privs : List (MethodName × Nat) := lw_privs_1 ++ (lw_privs_2 ++ (lw_privs_3 ++ (lw_privs_4 ++ (lw_privs_5 ++ (lw_privs_6 ++ (lw_privs_7 ++ (lw_privs_8 ++ (lw_privs_9))))))))
def lw_tbl : List Cond := k2_sels lw_privs ++ tables_1
theorem lw_privs_ok : ∀ q ∈ lw_privs, lw_okq q := by
  show ∀ q ∈ lw_privs_1 ++ (lw_privs_2 ++ (lw_privs_3 ++ (lw_privs_4 ++ (lw_privs_5 ++ (lw_privs_6 ++ (lw_privs_7 ++ (lw_privs_8 ++ (lw_privs_9)))))))), lw_okq q
  exact List.forall_mem_append.mpr ⟨lw_r1, List.forall_mem_append.mpr ⟨lw_r2, List.forall_mem_append.mpr ⟨lw_r3, List.forall_mem_append.mpr ⟨lw_r4, List.forall_mem_append.mpr ⟨lw_r5, List.forall_mem_append.mpr ⟨lw_r6, List.forall_mem_append.mpr ⟨lw_r7, List.forall_mem_append.mpr ⟨lw_r8, lw_r9⟩⟩⟩⟩⟩⟩⟩⟩
-- ===== end of PART A; then your names; then what follows =====
-- names, out of the printed ones
def RX0 : String := "StandTable$Agenda"
def TX0 : u_T := fun k => match k with
  | 0 => ("StandTable$Agenda", "ways", "[I", true)
  | _ => ("StandTable$Agenda", "ends", "[I", true)
def tyX0 : Nat → FieldType := fun k => match k with
  | 0 => .array .int
  | _ => .array .int
theorem nmX0 : ∀ a, a < 2 → ∀ b, b < 2 → a ≠ b → (TX0 a).2.1 ≠ (TX0 b).2.1 := by decide +kernel
theorem tyX0_ok : ∀ k, k < 2 → parseFieldDescriptor (TX0 k).2.2.1 = some (tyX0 k) := by decide +kernel
abbrev cX0_init : ByteArray := prog_2_method_1_code
def yX0_init : MethodName := ⟨RX0, "<init>", "()V"⟩
abbrev cX0_keystoneOf : ByteArray := prog_2_method_2_code
def yX0_keystoneOf : MethodName := ⟨RX0, "keystoneOf", "(LStandTable$Committee;)I"⟩
abbrev cX0_countOrders : ByteArray := prog_2_method_3_code
def yX0_countOrders : MethodName := ⟨RX0, "countOrders", "(LStandTable$Committee;)I"⟩
abbrev cX0_daysTill : ByteArray := prog_2_method_4_code
def yX0_daysTill : MethodName := ⟨RX0, "daysTill", "(LStandTable$Committee;I)I"⟩
abbrev cX0_daysTogether : ByteArray := prog_2_method_5_code
def yX0_daysTogether : MethodName := ⟨RX0, "daysTogether", "(LStandTable$Committee;I)I"⟩
abbrev cX0_latestEnd : ByteArray := prog_2_method_6_code
def yX0_latestEnd : MethodName := ⟨RX0, "latestEnd", "(II)I"⟩
abbrev cX0_oddsOfAll : ByteArray := prog_2_method_7_code
def yX0_oddsOfAll : MethodName := ⟨RX0, "oddsOfAll", "(LStandTable$Committee;I)J"⟩
abbrev cX0_weakestOf : ByteArray := prog_2_method_8_code
def yX0_weakestOf : MethodName := ⟨RX0, "weakestOf", "(LStandTable$Committee;)I"⟩
def RX1 : String := "StandTable$Committee"
def TX1 : u_T := fun k => match k with
  | 0 => ("StandTable$Committee", "places", "I", false)
  | 1 => ("StandTable$Committee", "corners", "I", false)
  | 2 => ("StandTable$Committee", "parties", "I", false)
  | 3 => ("StandTable$Committee", "wishes", "I", false)
  | 4 => ("StandTable$Committee", "articles", "I", false)
  | 5 => ("StandTable$Committee", "agreed", "I", false)
  | 6 => ("StandTable$Committee", "date", "I", false)
  | 7 => ("StandTable$Committee", "partyNames", "[J", true)
  | 8 => ("StandTable$Committee", "leasts", "[I", true)
  | 9 => ("StandTable$Committee", "seats", "[I", true)
  | 10 => ("StandTable$Committee", "whose", "[I", true)
  | 11 => ("StandTable$Committee", "kinds", "[I", true)
  | 12 => ("StandTable$Committee", "whom", "[I", true)
  | 13 => ("StandTable$Committee", "worths", "[I", true)
  | 14 => ("StandTable$Committee", "articleNames", "[J", true)
  | 15 => ("StandTable$Committee", "takes", "[I", true)
  | 16 => ("StandTable$Committee", "odds", "[I", true)
  | 17 => ("StandTable$Committee", "leansOn", "[I", true)
  | 18 => ("StandTable$Committee", "worked", "[I", true)
  | 19 => ("StandTable$Committee", "steps", "LStandTable$Steps;", true)
  | _ => ("StandTable$Committee", "scales", "[I", true)
def tyX1 : Nat → FieldType := fun k => match k with
  | 0 => .int
  | 1 => .int
  | 2 => .int
  | 3 => .int
  | 4 => .int
  | 5 => .int
  | 6 => .int
  | 7 => .array .long
  | 8 => .array .int
  | 9 => .array .int
  | 10 => .array .int
  | 11 => .array .int
  | 12 => .array .int
  | 13 => .array .int
  | 14 => .array .long
  | 15 => .array .int
  | 16 => .array .int
  | 17 => .array .int
  | 18 => .array .int
  | 19 => .object "StandTable$Steps"
  | _ => .array .int
theorem nmX1 : ∀ a, a < 21 → ∀ b, b < 21 → a ≠ b → (TX1 a).2.1 ≠ (TX1 b).2.1 := by decide +kernel
theorem tyX1_ok : ∀ k, k < 21 → parseFieldDescriptor (TX1 k).2.2.1 = some (tyX1 k) := by decide +kernel
abbrev cX1_init : ByteArray := prog_3_method_1_code
def yX1_init : MethodName := ⟨RX1, "<init>", "()V"⟩
abbrev cX1_clear : ByteArray := prog_3_method_2_code
def yX1_clear : MethodName := ⟨RX1, "clear", "()V"⟩
abbrev cX1_takeFrom : ByteArray := prog_3_method_3_code
def yX1_takeFrom : MethodName := ⟨RX1, "takeFrom", "(LStandTable$Committee;)V"⟩
abbrev cX1_isPlace : ByteArray := prog_3_method_4_code
def yX1_isPlace : MethodName := ⟨RX1, "isPlace", "(I)Z"⟩
abbrev cX1_isParty : ByteArray := prog_3_method_5_code
def yX1_isParty : MethodName := ⟨RX1, "isParty", "(I)Z"⟩
abbrev cX1_isWish : ByteArray := prog_3_method_6_code
def yX1_isWish : MethodName := ⟨RX1, "isWish", "(I)Z"⟩
abbrev cX1_isArticle : ByteArray := prog_3_method_7_code
def yX1_isArticle : MethodName := ⟨RX1, "isArticle", "(I)Z"⟩
abbrev cX1_isCorner : ByteArray := prog_3_method_8_code
def yX1_isCorner : MethodName := ⟨RX1, "isCorner", "(I)Z"⟩
abbrev cX1_isAgreed : ByteArray := prog_3_method_9_code
def yX1_isAgreed : MethodName := ⟨RX1, "isAgreed", "(I)Z"⟩
abbrev cX1_allParties : ByteArray := prog_3_method_10_code
def yX1_allParties : MethodName := ⟨RX1, "allParties", "()I"⟩
abbrev cX1_partyNamed : ByteArray := prog_3_method_11_code
def yX1_partyNamed : MethodName := ⟨RX1, "partyNamed", "(J)I"⟩
abbrev cX1_articleNamed : ByteArray := prog_3_method_12_code
def yX1_articleNamed : MethodName := ⟨RX1, "articleNamed", "(J)I"⟩
abbrev cX1_sitterAt : ByteArray := prog_3_method_13_code
def yX1_sitterAt : MethodName := ⟨RX1, "sitterAt", "(I[I)I"⟩
abbrev cX1_seatIn : ByteArray := prog_3_method_14_code
def yX1_seatIn : MethodName := ⟨RX1, "seatIn", "([II)I"⟩
abbrev cX1_sits : ByteArray := prog_3_method_15_code
def yX1_sits : MethodName := ⟨RX1, "sits", "(I)Z"⟩
abbrev cX1_sittersOf : ByteArray := prog_3_method_16_code
def yX1_sittersOf : MethodName := ⟨RX1, "sittersOf", "([I)I"⟩
abbrev cX1_nextTo : ByteArray := prog_3_method_17_code
def yX1_nextTo : MethodName := ⟨RX1, "nextTo", "(II)Z"⟩
abbrev cX1_opposite : ByteArray := prog_3_method_18_code
def yX1_opposite : MethodName := ⟨RX1, "opposite", "(II)Z"⟩
abbrev cX1_seatOne : ByteArray := prog_3_method_19_code
def yX1_seatOne : MethodName := ⟨RX1, "seatOne", "(II)Z"⟩
abbrev cX1_raiseOne : ByteArray := prog_3_method_20_code
def yX1_raiseOne : MethodName := ⟨RX1, "raiseOne", "(I)Z"⟩
abbrev cX1_swapTwo : ByteArray := prog_3_method_21_code
def yX1_swapTwo : MethodName := ⟨RX1, "swapTwo", "(II[I)Z"⟩
abbrev cX1_turnAll : ByteArray := prog_3_method_22_code
def yX1_turnAll : MethodName := ⟨RX1, "turnAll", "(I[I)V"⟩
abbrev cX1_isMet : ByteArray := prog_3_method_23_code
def yX1_isMet : MethodName := ⟨RX1, "isMet", "(I[I)Z"⟩
abbrev cX1_worthTo : ByteArray := prog_3_method_24_code
def yX1_worthTo : MethodName := ⟨RX1, "worthTo", "(I[I)I"⟩
abbrev cX1_worthOfAll : ByteArray := prog_3_method_25_code
def yX1_worthOfAll : MethodName := ⟨RX1, "worthOfAll", "([I)I"⟩
abbrev cX1_doesSign : ByteArray := prog_3_method_26_code
def yX1_doesSign : MethodName := ⟨RX1, "doesSign", "(I[I)Z"⟩
abbrev cX1_signersOf : ByteArray := prog_3_method_27_code
def yX1_signersOf : MethodName := ⟨RX1, "signersOf", "([I)I"⟩
abbrev cX1_lackOf : ByteArray := prog_3_method_28_code
def yX1_lackOf : MethodName := ⟨RX1, "lackOf", "([I)I"⟩
abbrev cX1_weigh : ByteArray := prog_3_method_29_code
def yX1_weigh : MethodName := ⟨RX1, "weigh", "([I)V"⟩
abbrev cX1_dearestWish : ByteArray := prog_3_method_30_code
def yX1_dearestWish : MethodName := ⟨RX1, "dearestWish", "(I)I"⟩
abbrev cX1_isReady : ByteArray := prog_3_method_31_code
def yX1_isReady : MethodName := ⟨RX1, "isReady", "(I)Z"⟩
abbrev cX1_readyArticles : ByteArray := prog_3_method_32_code
def yX1_readyArticles : MethodName := ⟨RX1, "readyArticles", "()I"⟩
abbrev cX1_allLeansOf : ByteArray := prog_3_method_33_code
def yX1_allLeansOf : MethodName := ⟨RX1, "allLeansOf", "(I)I"⟩
abbrev cX1_allFallsOf : ByteArray := prog_3_method_34_code
def yX1_allFallsOf : MethodName := ⟨RX1, "allFallsOf", "(I)I"⟩
abbrev cX1_agreeOn : ByteArray := prog_3_method_35_code
def yX1_agreeOn : MethodName := ⟨RX1, "agreeOn", "(I)Z"⟩
abbrev cX1_letFall : ByteArray := prog_3_method_36_code
def yX1_letFall : MethodName := ⟨RX1, "letFall", "(I)I"⟩
abbrev cX1_passDays : ByteArray := prog_3_method_37_code
def yX1_passDays : MethodName := ⟨RX1, "passDays", "(I)I"⟩
abbrev cX1_passOneDay : ByteArray := prog_3_method_38_code
def yX1_passOneDay : MethodName := ⟨RX1, "passOneDay", "()I"⟩
abbrev cX1_workAt : ByteArray := prog_3_method_39_code
def yX1_workAt : MethodName := ⟨RX1, "workAt", "(I)V"⟩
def RX2 : String := "StandTable$CommitteeText"
def TX2 : u_T := fun k => match k with
  | _ => ("", "", "", false)
def tyX2 : Nat → FieldType := fun k => match k with
  | _ => .int
theorem nmX2 : ∀ a, a < 0 → ∀ b, b < 0 → a ≠ b → (TX2 a).2.1 ≠ (TX2 b).2.1 := by decide +kernel
theorem tyX2_ok : ∀ k, k < 0 → parseFieldDescriptor (TX2 k).2.2.1 = some (tyX2 k) := by decide +kernel
abbrev cX2_readAll : ByteArray := prog_4_method_2_code
def yX2_readAll : MethodName := ⟨RX2, "readAll", "(LStandTable$Reader;LStandTable$Committee;)V"⟩
abbrev cX2_readPlaces : ByteArray := prog_4_method_3_code
def yX2_readPlaces : MethodName := ⟨RX2, "readPlaces", "(LStandTable$Reader;LStandTable$Committee;)V"⟩
abbrev cX2_readCorner : ByteArray := prog_4_method_4_code
def yX2_readCorner : MethodName := ⟨RX2, "readCorner", "(LStandTable$Reader;LStandTable$Committee;)V"⟩
abbrev cX2_readParty : ByteArray := prog_4_method_5_code
def yX2_readParty : MethodName := ⟨RX2, "readParty", "(LStandTable$Reader;LStandTable$Committee;)V"⟩
abbrev cX2_takeFreePlace : ByteArray := prog_4_method_6_code
def yX2_takeFreePlace : MethodName := ⟨RX2, "takeFreePlace", "(LStandTable$Reader;LStandTable$Committee;)I"⟩
abbrev cX2_readWish : ByteArray := prog_4_method_7_code
def yX2_readWish : MethodName := ⟨RX2, "readWish", "(LStandTable$Reader;LStandTable$Committee;I)V"⟩
abbrev cX2_takeKind : ByteArray := prog_4_method_8_code
def yX2_takeKind : MethodName := ⟨RX2, "takeKind", "(LStandTable$Reader;)I"⟩
abbrev cX2_takeOther : ByteArray := prog_4_method_9_code
def yX2_takeOther : MethodName := ⟨RX2, "takeOther", "(LStandTable$Reader;LStandTable$Committee;I)I"⟩
abbrev cX2_readArticle : ByteArray := prog_4_method_10_code
def yX2_readArticle : MethodName := ⟨RX2, "readArticle", "(LStandTable$Reader;LStandTable$Committee;)V"⟩
abbrev cX2_takeLeans : ByteArray := prog_4_method_11_code
def yX2_takeLeans : MethodName := ⟨RX2, "takeLeans", "(LStandTable$Reader;LStandTable$Committee;)I"⟩
def RX3 : String := "StandTable$Life"
def TX3 : u_T := fun k => match k with
  | 0 => ("StandTable$Life", "done", "I", false)
  | 1 => ("StandTable$Life", "missed", "I", false)
  | 2 => ("StandTable$Life", "days", "I", false)
  | 3 => ("StandTable$Life", "agreements", "I", false)
  | 4 => ("StandTable$Life", "fallen", "I", false)
  | 5 => ("StandTable$Life", "cutOff", "Z", false)
  | 6 => ("StandTable$Life", "state", "I", false)
  | _ => ("StandTable$Life", "left", "[I", true)
def tyX3 : Nat → FieldType := fun k => match k with
  | 0 => .int
  | 1 => .int
  | 2 => .int
  | 3 => .int
  | 4 => .int
  | 5 => .boolean
  | 6 => .int
  | _ => .array .int
theorem nmX3 : ∀ a, a < 8 → ∀ b, b < 8 → a ≠ b → (TX3 a).2.1 ≠ (TX3 b).2.1 := by decide +kernel
theorem tyX3_ok : ∀ k, k < 8 → parseFieldDescriptor (TX3 k).2.2.1 = some (tyX3 k) := by decide +kernel
abbrev cX3_init : ByteArray := prog_5_method_1_code
def yX3_init : MethodName := ⟨RX3, "<init>", "()V"⟩
abbrev cX3_tellTo : ByteArray := prog_5_method_2_code
def yX3_tellTo : MethodName := ⟨RX3, "tellTo", "([I)V"⟩
abbrev cX3_run : ByteArray := prog_5_method_3_code
def yX3_run : MethodName := ⟨RX3, "run", "(LStandTable$Committee;I)V"⟩
abbrev cX3_beginLoop : ByteArray := prog_5_method_4_code
def yX3_beginLoop : MethodName := ⟨RX3, "beginLoop", "(LStandTable$Steps;I)V"⟩
abbrev cX3_behindEnd : ByteArray := prog_5_method_5_code
def yX3_behindEnd : MethodName := ⟨RX3, "behindEnd", "(LStandTable$Steps;I)I"⟩
abbrev cX3_isSo : ByteArray := prog_5_method_6_code
def yX3_isSo : MethodName := ⟨RX3, "isSo", "(LStandTable$Committee;I)Z"⟩
abbrev cX3_act : ByteArray := prog_5_method_7_code
def yX3_act : MethodName := ⟨RX3, "act", "(LStandTable$Committee;I)Z"⟩
abbrev cX3_spend : ByteArray := prog_5_method_8_code
def yX3_spend : MethodName := ⟨RX3, "spend", "(LStandTable$Committee;I)Z"⟩
abbrev cX3_agreeTo : ByteArray := prog_5_method_9_code
def yX3_agreeTo : MethodName := ⟨RX3, "agreeTo", "(LStandTable$Committee;I)Z"⟩
abbrev cX3_letGo : ByteArray := prog_5_method_10_code
def yX3_letGo : MethodName := ⟨RX3, "letGo", "(LStandTable$Committee;I)Z"⟩
abbrev cX3_seatAny : ByteArray := prog_5_method_11_code
def yX3_seatAny : MethodName := ⟨RX3, "seatAny", "(LStandTable$Committee;)Z"⟩
abbrev cX3_draw : ByteArray := prog_5_method_12_code
def yX3_draw : MethodName := ⟨RX3, "draw", "(I)I"⟩
def RX4 : String := "StandTable$Play"
def TX4 : u_T := fun k => match k with
  | _ => ("", "", "", false)
def tyX4 : Nat → FieldType := fun k => match k with
  | _ => .int
theorem nmX4 : ∀ a, a < 0 → ∀ b, b < 0 → a ≠ b → (TX4 a).2.1 ≠ (TX4 b).2.1 := by decide +kernel
theorem tyX4_ok : ∀ k, k < 0 → parseFieldDescriptor (TX4 k).2.2.1 = some (tyX4 k) := by decide +kernel
abbrev cX4_bestLead : ByteArray := prog_6_method_2_code
def yX4_bestLead : MethodName := ⟨RX4, "bestLead", "(LStandTable$Committee;[IIIIZ)I"⟩
abbrev cX4_firstMove : ByteArray := prog_6_method_3_code
def yX4_firstMove : MethodName := ⟨RX4, "firstMove", "(LStandTable$Committee;[IIII)I"⟩
abbrev cX4_shift : ByteArray := prog_6_method_4_code
def yX4_shift : MethodName := ⟨RX4, "shift", "(LStandTable$Committee;[III)V"⟩
def RX5 : String := "StandTable$Reader"
def TX5 : u_T := fun k => match k with
  | 0 => ("StandTable$Reader", "keywords", "[J", true)
  | 1 => ("StandTable$Reader", "text", "[B", true)
  | 2 => ("StandTable$Reader", "taped", "I", false)
  | 3 => ("StandTable$Reader", "length", "I", false)
  | 4 => ("StandTable$Reader", "place", "I", false)
  | 5 => ("StandTable$Reader", "kind", "I", false)
  | 6 => ("StandTable$Reader", "start", "I", false)
  | 7 => ("StandTable$Reader", "number", "I", false)
  | 8 => ("StandTable$Reader", "sign", "I", false)
  | 9 => ("StandTable$Reader", "name", "J", false)
  | 10 => ("StandTable$Reader", "isName", "Z", false)
  | 11 => ("StandTable$Reader", "keyword", "I", false)
  | 12 => ("StandTable$Reader", "fault", "I", false)
  | _ => ("StandTable$Reader", "faultPlace", "I", false)
def tyX5 : Nat → FieldType := fun k => match k with
  | 0 => .array .long
  | 1 => .array .byte
  | 2 => .int
  | 3 => .int
  | 4 => .int
  | 5 => .int
  | 6 => .int
  | 7 => .int
  | 8 => .int
  | 9 => .long
  | 10 => .boolean
  | 11 => .int
  | 12 => .int
  | _ => .int
theorem nmX5 : ∀ a, a < 14 → ∀ b, b < 14 → a ≠ b → (TX5 a).2.1 ≠ (TX5 b).2.1 := by decide +kernel
theorem tyX5_ok : ∀ k, k < 14 → parseFieldDescriptor (TX5 k).2.2.1 = some (tyX5 k) := by decide +kernel
abbrev cX5_init : ByteArray := prog_7_method_1_code
def yX5_init : MethodName := ⟨RX5, "<init>", "()V"⟩
abbrev cX5_withLetter : ByteArray := prog_7_method_2_code
def yX5_withLetter : MethodName := ⟨RX5, "withLetter", "(JI)J"⟩
abbrev cX5_add : ByteArray := prog_7_method_3_code
def yX5_add : MethodName := ⟨RX5, "add", "(I)V"⟩
abbrev cX5_open : ByteArray := prog_7_method_4_code
def yX5_open : MethodName := ⟨RX5, "open", "(I)V"⟩
abbrev cX5_blame : ByteArray := prog_7_method_5_code
def yX5_blame : MethodName := ⟨RX5, "blame", "(I)V"⟩
abbrev cX5_hasFault : ByteArray := prog_7_method_6_code
def yX5_hasFault : MethodName := ⟨RX5, "hasFault", "()Z"⟩
abbrev cX5_goesOn : ByteArray := prog_7_method_7_code
def yX5_goesOn : MethodName := ⟨RX5, "goesOn", "()Z"⟩
abbrev cX5_next : ByteArray := prog_7_method_8_code
def yX5_next : MethodName := ⟨RX5, "next", "()V"⟩
abbrev cX5_here : ByteArray := prog_7_method_9_code
def yX5_here : MethodName := ⟨RX5, "here", "()I"⟩
abbrev cX5_isBlank : ByteArray := prog_7_method_10_code
def yX5_isBlank : MethodName := ⟨RX5, "isBlank", "(I)Z"⟩
abbrev cX5_isLetter : ByteArray := prog_7_method_11_code
def yX5_isLetter : MethodName := ⟨RX5, "isLetter", "(I)Z"⟩
abbrev cX5_isDigit : ByteArray := prog_7_method_12_code
def yX5_isDigit : MethodName := ⟨RX5, "isDigit", "(I)Z"⟩
abbrev cX5_readWord : ByteArray := prog_7_method_13_code
def yX5_readWord : MethodName := ⟨RX5, "readWord", "()V"⟩
abbrev cX5_readNumber : ByteArray := prog_7_method_14_code
def yX5_readNumber : MethodName := ⟨RX5, "readNumber", "()V"⟩
abbrev cX5_readSign : ByteArray := prog_7_method_15_code
def yX5_readSign : MethodName := ⟨RX5, "readSign", "()V"⟩
abbrev cX5_isSign : ByteArray := prog_7_method_16_code
def yX5_isSign : MethodName := ⟨RX5, "isSign", "(C)Z"⟩
abbrev cX5_passSign : ByteArray := prog_7_method_17_code
def yX5_passSign : MethodName := ⟨RX5, "passSign", "(C)V"⟩
abbrev cX5_takeCompares : ByteArray := prog_7_method_18_code
def yX5_takeCompares : MethodName := ⟨RX5, "takeCompares", "()I"⟩
abbrev cX5_passKeyword : ByteArray := prog_7_method_19_code
def yX5_passKeyword : MethodName := ⟨RX5, "passKeyword", "(I)V"⟩
abbrev cX5_numberWithin : ByteArray := prog_7_method_20_code
def yX5_numberWithin : MethodName := ⟨RX5, "numberWithin", "(II)I"⟩
abbrev cX5_takeNumber : ByteArray := prog_7_method_21_code
def yX5_takeNumber : MethodName := ⟨RX5, "takeNumber", "(II)I"⟩
abbrev cX5_partyHere : ByteArray := prog_7_method_22_code
def yX5_partyHere : MethodName := ⟨RX5, "partyHere", "(LStandTable$Committee;)I"⟩
abbrev cX5_takeParty : ByteArray := prog_7_method_23_code
def yX5_takeParty : MethodName := ⟨RX5, "takeParty", "(LStandTable$Committee;)I"⟩
abbrev cX5_articleHere : ByteArray := prog_7_method_24_code
def yX5_articleHere : MethodName := ⟨RX5, "articleHere", "(LStandTable$Committee;)I"⟩
abbrev cX5_takeArticle : ByteArray := prog_7_method_25_code
def yX5_takeArticle : MethodName := ⟨RX5, "takeArticle", "(LStandTable$Committee;)I"⟩
abbrev cX5_blameUnlessNamed : ByteArray := prog_7_method_26_code
def yX5_blameUnlessNamed : MethodName := ⟨RX5, "blameUnlessNamed", "(I)V"⟩
abbrev cX5_takeNewName : ByteArray := prog_7_method_27_code
def yX5_takeNewName : MethodName := ⟨RX5, "takeNewName", "(LStandTable$Committee;)J"⟩
def RX6 : String := "StandTable$SessionText"
def TX6 : u_T := fun k => match k with
  | _ => ("", "", "", false)
def tyX6 : Nat → FieldType := fun k => match k with
  | _ => .int
theorem nmX6 : ∀ a, a < 0 → ∀ b, b < 0 → a ≠ b → (TX6 a).2.1 ≠ (TX6 b).2.1 := by decide +kernel
theorem tyX6_ok : ∀ k, k < 0 → parseFieldDescriptor (TX6 k).2.2.1 = some (tyX6 k) := by decide +kernel
abbrev cX6_readAll : ByteArray := prog_8_method_2_code
def yX6_readAll : MethodName := ⟨RX6, "readAll", "(LStandTable$Reader;LStandTable$Committee;LStandTable$Steps;)V"⟩
abbrev cX6_readEnd : ByteArray := prog_8_method_3_code
def yX6_readEnd : MethodName := ⟨RX6, "readEnd", "(LStandTable$Reader;LStandTable$Steps;)V"⟩
abbrev cX6_opens : ByteArray := prog_8_method_4_code
def yX6_opens : MethodName := ⟨RX6, "opens", "(I)Z"⟩
abbrev cX6_mayBegin : ByteArray := prog_8_method_5_code
def yX6_mayBegin : MethodName := ⟨RX6, "mayBegin", "(LStandTable$Reader;LStandTable$Steps;)Z"⟩
abbrev cX6_beginStep : ByteArray := prog_8_method_6_code
def yX6_beginStep : MethodName := ⟨RX6, "beginStep", "(LStandTable$Reader;LStandTable$Steps;)I"⟩
abbrev cX6_isStepWord : ByteArray := prog_8_method_7_code
def yX6_isStepWord : MethodName := ⟨RX6, "isStepWord", "(I)Z"⟩
abbrev cX6_readOperands : ByteArray := prog_8_method_8_code
def yX6_readOperands : MethodName := ⟨RX6, "readOperands", "(LStandTable$Reader;LStandTable$Committee;LStandTable$Steps;II)V"⟩
abbrev cX6_readTest : ByteArray := prog_8_method_9_code
def yX6_readTest : MethodName := ⟨RX6, "readTest", "(LStandTable$Reader;LStandTable$Committee;LStandTable$Steps;I)V"⟩
def RX7 : String := "StandTable$Steps"
def TX7 : u_T := fun k => match k with
  | 0 => ("StandTable$Steps", "there", "Z", false)
  | 1 => ("StandTable$Steps", "told", "I", false)
  | 2 => ("StandTable$Steps", "lines", "I", false)
  | 3 => ("StandTable$Steps", "words", "[I", true)
  | 4 => ("StandTable$Steps", "first", "[I", true)
  | 5 => ("StandTable$Steps", "second", "[I", true)
  | 6 => ("StandTable$Steps", "mates", "[I", true)
  | 7 => ("StandTable$Steps", "open", "[I", true)
  | _ => ("StandTable$Steps", "depth", "I", false)
def tyX7 : Nat → FieldType := fun k => match k with
  | 0 => .boolean
  | 1 => .int
  | 2 => .int
  | 3 => .array .int
  | 4 => .array .int
  | 5 => .array .int
  | 6 => .array .int
  | 7 => .array .int
  | _ => .int
theorem nmX7 : ∀ a, a < 9 → ∀ b, b < 9 → a ≠ b → (TX7 a).2.1 ≠ (TX7 b).2.1 := by decide +kernel
theorem tyX7_ok : ∀ k, k < 9 → parseFieldDescriptor (TX7 k).2.2.1 = some (tyX7 k) := by decide +kernel
abbrev cX7_init : ByteArray := prog_9_method_1_code
def yX7_init : MethodName := ⟨RX7, "<init>", "()V"⟩
abbrev cX7_clear : ByteArray := prog_9_method_2_code
def yX7_clear : MethodName := ⟨RX7, "clear", "()V"⟩
abbrev cX7_takeFrom : ByteArray := prog_9_method_3_code
def yX7_takeFrom : MethodName := ⟨RX7, "takeFrom", "(LStandTable$Steps;)V"⟩
abbrev cX7_isFull : ByteArray := prog_9_method_4_code
def yX7_isFull : MethodName := ⟨RX7, "isFull", "()Z"⟩
abbrev cX7_isDeep : ByteArray := prog_9_method_5_code
def yX7_isDeep : MethodName := ⟨RX7, "isDeep", "()Z"⟩
abbrev cX7_wordAt : ByteArray := prog_9_method_6_code
def yX7_wordAt : MethodName := ⟨RX7, "wordAt", "(I)I"⟩
abbrev cX7_firstAt : ByteArray := prog_9_method_7_code
def yX7_firstAt : MethodName := ⟨RX7, "firstAt", "(I)I"⟩
abbrev cX7_secondAt : ByteArray := prog_9_method_8_code
def yX7_secondAt : MethodName := ⟨RX7, "secondAt", "(I)I"⟩
abbrev cX7_mateAt : ByteArray := prog_9_method_9_code
def yX7_mateAt : MethodName := ⟨RX7, "mateAt", "(I)I"⟩
abbrev cX7_at : ByteArray := prog_9_method_10_code
def yX7_at : MethodName := ⟨RX7, "at", "([II)I"⟩
abbrev cX7_addStep : ByteArray := prog_9_method_11_code
def yX7_addStep : MethodName := ⟨RX7, "addStep", "(I)I"⟩
abbrev cX7_addLine : ByteArray := prog_9_method_12_code
def yX7_addLine : MethodName := ⟨RX7, "addLine", "(I)I"⟩
abbrev cX7_setOperands : ByteArray := prog_9_method_13_code
def yX7_setOperands : MethodName := ⟨RX7, "setOperands", "(III)V"⟩
abbrev cX7_openAt : ByteArray := prog_9_method_14_code
def yX7_openAt : MethodName := ⟨RX7, "openAt", "(I)V"⟩
abbrev cX7_closeOne : ByteArray := prog_9_method_15_code
def yX7_closeOne : MethodName := ⟨RX7, "closeOne", "()V"⟩
abbrev cX7_setMate : ByteArray := prog_9_method_16_code
def yX7_setMate : MethodName := ⟨RX7, "setMate", "(II)V"⟩
def RX8 : String := "StandTable$Survey"
def TX8 : u_T := fun k => match k with
  | 0 => ("StandTable$Survey", "row", "[I", true)
  | 1 => ("StandTable$Survey", "chosen", "[I", true)
  | 2 => ("StandTable$Survey", "like", "[I", true)
  | _ => ("StandTable$Survey", "signers", "[I", true)
def tyX8 : Nat → FieldType := fun k => match k with
  | 0 => .array .int
  | 1 => .array .int
  | 2 => .array .int
  | _ => .array .int
theorem nmX8 : ∀ a, a < 4 → ∀ b, b < 4 → a ≠ b → (TX8 a).2.1 ≠ (TX8 b).2.1 := by decide +kernel
theorem tyX8_ok : ∀ k, k < 4 → parseFieldDescriptor (TX8 k).2.2.1 = some (tyX8 k) := by decide +kernel
abbrev cX8_init : ByteArray := prog_10_method_1_code
def yX8_init : MethodName := ⟨RX8, "<init>", "()V"⟩
abbrev cX8_count : ByteArray := prog_10_method_2_code
def yX8_count : MethodName := ⟨RX8, "count", "(LStandTable$Committee;)I"⟩
abbrev cX8_begin : ByteArray := prog_10_method_3_code
def yX8_begin : MethodName := ⟨RX8, "begin", "(LStandTable$Committee;)I"⟩
abbrev cX8_fillFrom : ByteArray := prog_10_method_4_code
def yX8_fillFrom : MethodName := ⟨RX8, "fillFrom", "(LStandTable$Committee;II)V"⟩
abbrev cX8_freeFrom : ByteArray := prog_10_method_5_code
def yX8_freeFrom : MethodName := ⟨RX8, "freeFrom", "(II)I"⟩
abbrev cX8_goOn : ByteArray := prog_10_method_6_code
def yX8_goOn : MethodName := ⟨RX8, "goOn", "(LStandTable$Committee;)V"⟩
abbrev cX8_countGood : ByteArray := prog_10_method_7_code
def yX8_countGood : MethodName := ⟨RX8, "countGood", "(LStandTable$Committee;)I"⟩
abbrev cX8_findGood : ByteArray := prog_10_method_8_code
def yX8_findGood : MethodName := ⟨RX8, "findGood", "(LStandTable$Committee;)Z"⟩
abbrev cX8_findBest : ByteArray := prog_10_method_9_code
def yX8_findBest : MethodName := ⟨RX8, "findBest", "(LStandTable$Committee;)I"⟩
abbrev cX8_mostWorthTo : ByteArray := prog_10_method_10_code
def yX8_mostWorthTo : MethodName := ⟨RX8, "mostWorthTo", "(LStandTable$Committee;I)I"⟩
abbrev cX8_countSigned : ByteArray := prog_10_method_11_code
def yX8_countSigned : MethodName := ⟨RX8, "countSigned", "(LStandTable$Committee;I)I"⟩
abbrev cX8_leastLack : ByteArray := prog_10_method_12_code
def yX8_leastLack : MethodName := ⟨RX8, "leastLack", "(LStandTable$Committee;)I"⟩
abbrev cX8_outcomes : ByteArray := prog_10_method_13_code
def yX8_outcomes : MethodName := ⟨RX8, "outcomes", "(LStandTable$Committee;)I"⟩
abbrev cX8_mostOf : ByteArray := prog_10_method_14_code
def yX8_mostOf : MethodName := ⟨RX8, "mostOf", "(I)I"⟩
abbrev cX8_isMet : ByteArray := prog_10_method_15_code
def yX8_isMet : MethodName := ⟨RX8, "isMet", "(II)Z"⟩
abbrev cX8_leastUnmet : ByteArray := prog_10_method_16_code
def yX8_leastUnmet : MethodName := ⟨RX8, "leastUnmet", "(II)I"⟩
abbrev cX8_countClasses : ByteArray := prog_10_method_17_code
def yX8_countClasses : MethodName := ⟨RX8, "countClasses", "(LStandTable$Committee;)I"⟩
abbrev cX8_isLikeAnEarlierGood : ByteArray := prog_10_method_18_code
def yX8_isLikeAnEarlierGood : MethodName := ⟨RX8, "isLikeAnEarlierGood", "(LStandTable$Committee;I)Z"⟩
abbrev cX8_isGoodAhead : ByteArray := prog_10_method_19_code
def yX8_isGoodAhead : MethodName := ⟨RX8, "isGoodAhead", "(LStandTable$Committee;IZI)Z"⟩
abbrev cX8_numberOf : ByteArray := prog_10_method_20_code
def yX8_numberOf : MethodName := ⟨RX8, "numberOf", "(LStandTable$Committee;[I)I"⟩
def RX9 : String := "StandTable$Tray"
def TX9 : u_T := fun k => match k with
  | 0 => ("StandTable$Tray", "sort", "I", false)
  | 1 => ("StandTable$Tray", "many", "I", false)
  | _ => ("StandTable$Tray", "row", "[J", true)
def tyX9 : Nat → FieldType := fun k => match k with
  | 0 => .int
  | 1 => .int
  | _ => .array .long
theorem nmX9 : ∀ a, a < 3 → ∀ b, b < 3 → a ≠ b → (TX9 a).2.1 ≠ (TX9 b).2.1 := by decide +kernel
theorem tyX9_ok : ∀ k, k < 3 → parseFieldDescriptor (TX9 k).2.2.1 = some (tyX9 k) := by decide +kernel
abbrev cX9_init : ByteArray := prog_11_method_1_code
def yX9_init : MethodName := ⟨RX9, "<init>", "()V"⟩
abbrev cX9_isMissing : ByteArray := prog_11_method_2_code
def yX9_isMissing : MethodName := ⟨RX9, "isMissing", "()Z"⟩
abbrev cX9_make : ByteArray := prog_11_method_3_code
def yX9_make : MethodName := ⟨RX9, "make", "(II)V"⟩
abbrev cX9_spans : ByteArray := prog_11_method_4_code
def yX9_spans : MethodName := ⟨RX9, "spans", "(II)Z"⟩
abbrev cX9_numberAt : ByteArray := prog_11_method_5_code
def yX9_numberAt : MethodName := ⟨RX9, "numberAt", "(I)J"⟩
abbrev cX9_put : ByteArray := prog_11_method_6_code
def yX9_put : MethodName := ⟨RX9, "put", "(IJ)V"⟩
abbrev cX9_cut : ByteArray := prog_11_method_7_code
def yX9_cut : MethodName := ⟨RX9, "cut", "(J)J"⟩
def RX10 : String := "StandTable"
def TX10 : u_T := fun k => match k with
  | 0 => ("StandTable", "status", "I", false)
  | 1 => ("StandTable", "top", "J", false)
  | 2 => ("StandTable", "bottom", "J", false)
  | 3 => ("StandTable", "trays", "[LStandTable$Tray;", true)
  | 4 => ("StandTable", "reader", "LStandTable$Reader;", true)
  | 5 => ("StandTable", "faultTold", "I", false)
  | 6 => ("StandTable", "faultPlace", "I", false)
  | 7 => ("StandTable", "now", "LStandTable$Committee;", false)
  | 8 => ("StandTable", "spare", "LStandTable$Committee;", false)
  | 9 => ("StandTable", "spareSteps", "LStandTable$Steps;", true)
  | 10 => ("StandTable", "kept", "[LStandTable$Committee;", true)
  | 11 => ("StandTable", "marks", "I", false)
  | 12 => ("StandTable", "survey", "LStandTable$Survey;", true)
  | 13 => ("StandTable", "agenda", "LStandTable$Agenda;", true)
  | 14 => ("StandTable", "life", "LStandTable$Life;", true)
  | 15 => ("StandTable", "figures", "[I", true)
  | 16 => ("StandTable", "hasLived", "Z", false)
  | _ => ("StandTable", "trial", "[I", true)
def tyX10 : Nat → FieldType := fun k => match k with
  | 0 => .int
  | 1 => .long
  | 2 => .long
  | 3 => .array (.object "StandTable$Tray")
  | 4 => .object "StandTable$Reader"
  | 5 => .int
  | 6 => .int
  | 7 => .object "StandTable$Committee"
  | 8 => .object "StandTable$Committee"
  | 9 => .object "StandTable$Steps"
  | 10 => .array (.object "StandTable$Committee")
  | 11 => .int
  | 12 => .object "StandTable$Survey"
  | 13 => .object "StandTable$Agenda"
  | 14 => .object "StandTable$Life"
  | 15 => .array .int
  | 16 => .boolean
  | _ => .array .int
theorem nmX10 : ∀ a, a < 18 → ∀ b, b < 18 → a ≠ b → (TX10 a).2.1 ≠ (TX10 b).2.1 := by decide +kernel
theorem tyX10_ok : ∀ k, k < 18 → parseFieldDescriptor (TX10 k).2.2.1 = some (tyX10 k) := by decide +kernel
abbrev cX10_init : ByteArray := prog_1_method_1_code
def yX10_init : MethodName := ⟨RX10, "<init>", "()V"⟩
abbrev cX10_status : ByteArray := prog_1_method_2_code
def yX10_status : MethodName := ⟨RX10, "status", "()I"⟩
abbrev cX10_top : ByteArray := prog_1_method_3_code
def yX10_top : MethodName := ⟨RX10, "top", "()J"⟩
abbrev cX10_bottom : ByteArray := prog_1_method_4_code
def yX10_bottom : MethodName := ⟨RX10, "bottom", "()J"⟩
abbrev cX10_tray : ByteArray := prog_1_method_5_code
def yX10_tray : MethodName := ⟨RX10, "tray", "(III)Z"⟩
abbrev cX10_write : ByteArray := prog_1_method_6_code
def yX10_write : MethodName := ⟨RX10, "write", "(IIJ)Z"⟩
abbrev cX10_read : ByteArray := prog_1_method_7_code
def yX10_read : MethodName := ⟨RX10, "read", "(II)J"⟩
abbrev cX10_pour : ByteArray := prog_1_method_8_code
def yX10_pour : MethodName := ⟨RX10, "pour", "(IIIII)Z"⟩
abbrev cX10_feed : ByteArray := prog_1_method_9_code
def yX10_feed : MethodName := ⟨RX10, "feed", "(IIIII)I"⟩
abbrev cX10_committee : ByteArray := prog_1_method_10_code
def yX10_committee : MethodName := ⟨RX10, "committee", "(I)I"⟩
abbrev cX10_sessions : ByteArray := prog_1_method_11_code
def yX10_sessions : MethodName := ⟨RX10, "sessions", "(I)I"⟩
abbrev cX10_fault : ByteArray := prog_1_method_12_code
def yX10_fault : MethodName := ⟨RX10, "fault", "(I)I"⟩
abbrev cX10_told : ByteArray := prog_1_method_13_code
def yX10_told : MethodName := ⟨RX10, "told", "(I)I"⟩
abbrev cX10_who : ByteArray := prog_1_method_14_code
def yX10_who : MethodName := ⟨RX10, "who", "(I)I"⟩
abbrev cX10_placeOf : ByteArray := prog_1_method_15_code
def yX10_placeOf : MethodName := ⟨RX10, "placeOf", "(I)I"⟩
abbrev cX10_least : ByteArray := prog_1_method_16_code
def yX10_least : MethodName := ⟨RX10, "least", "(I)I"⟩
abbrev cX10_wish : ByteArray := prog_1_method_17_code
def yX10_wish : MethodName := ⟨RX10, "wish", "(II)I"⟩
abbrev cX10_article : ByteArray := prog_1_method_18_code
def yX10_article : MethodName := ⟨RX10, "article", "(II)I"⟩
abbrev cX10_beside : ByteArray := prog_1_method_19_code
def yX10_beside : MethodName := ⟨RX10, "beside", "(II)I"⟩
abbrev cX10_facing : ByteArray := prog_1_method_20_code
def yX10_facing : MethodName := ⟨RX10, "facing", "(II)I"⟩
abbrev cX10_worth : ByteArray := prog_1_method_21_code
def yX10_worth : MethodName := ⟨RX10, "worth", "(I)I"⟩
abbrev cX10_allWorth : ByteArray := prog_1_method_22_code
def yX10_allWorth : MethodName := ⟨RX10, "allWorth", "()I"⟩
abbrev cX10_signs : ByteArray := prog_1_method_23_code
def yX10_signs : MethodName := ⟨RX10, "signs", "(I)I"⟩
abbrev cX10_dearest : ByteArray := prog_1_method_24_code
def yX10_dearest : MethodName := ⟨RX10, "dearest", "(I)I"⟩
abbrev cX10_sit : ByteArray := prog_1_method_25_code
def yX10_sit : MethodName := ⟨RX10, "sit", "(II)I"⟩
abbrev cX10_rise : ByteArray := prog_1_method_26_code
def yX10_rise : MethodName := ⟨RX10, "rise", "(I)I"⟩
abbrev cX10_swap : ByteArray := prog_1_method_27_code
def yX10_swap : MethodName := ⟨RX10, "swap", "(II)Z"⟩
abbrev cX10_turn : ByteArray := prog_1_method_28_code
def yX10_turn : MethodName := ⟨RX10, "turn", "(I)I"⟩
abbrev cX10_day : ByteArray := prog_1_method_29_code
def yX10_day : MethodName := ⟨RX10, "day", "(I)I"⟩
abbrev cX10_agree : ByteArray := prog_1_method_30_code
def yX10_agree : MethodName := ⟨RX10, "agree", "(I)I"⟩
abbrev cX10_withdraw : ByteArray := prog_1_method_31_code
def yX10_withdraw : MethodName := ⟨RX10, "withdraw", "(I)I"⟩
abbrev cX10_insist : ByteArray := prog_1_method_32_code
def yX10_insist : MethodName := ⟨RX10, "insist", "(II)Z"⟩
abbrev cX10_value : ByteArray := prog_1_method_33_code
def yX10_value : MethodName := ⟨RX10, "value", "(II)Z"⟩
abbrev cX10_carve : ByteArray := prog_1_method_34_code
def yX10_carve : MethodName := ⟨RX10, "carve", "(IZ)Z"⟩
abbrev cX10_seatings : ByteArray := prog_1_method_35_code
def yX10_seatings : MethodName := ⟨RX10, "seatings", "()I"⟩
abbrev cX10_good : ByteArray := prog_1_method_36_code
def yX10_good : MethodName := ⟨RX10, "good", "()I"⟩
abbrev cX10_classes : ByteArray := prog_1_method_37_code
def yX10_classes : MethodName := ⟨RX10, "classes", "()I"⟩
abbrev cX10_goodAt : ByteArray := prog_1_method_38_code
def yX10_goodAt : MethodName := ⟨RX10, "goodAt", "(I)I"⟩
abbrev cX10_best : ByteArray := prog_1_method_39_code
def yX10_best : MethodName := ⟨RX10, "best", "()I"⟩
abbrev cX10_bestAt : ByteArray := prog_1_method_40_code
def yX10_bestAt : MethodName := ⟨RX10, "bestAt", "(I)I"⟩
abbrev cX10_mostSign : ByteArray := prog_1_method_41_code
def yX10_mostSign : MethodName := ⟨RX10, "mostSign", "()I"⟩
abbrev cX10_quarrel : ByteArray := prog_1_method_42_code
def yX10_quarrel : MethodName := ⟨RX10, "quarrel", "()I"⟩
abbrev cX10_pleased : ByteArray := prog_1_method_43_code
def yX10_pleased : MethodName := ⟨RX10, "pleased", "(I)I"⟩
abbrev cX10_mostFor : ByteArray := prog_1_method_44_code
def yX10_mostFor : MethodName := ⟨RX10, "mostFor", "(I)I"⟩
abbrev cX10_signsIn : ByteArray := prog_1_method_45_code
def yX10_signsIn : MethodName := ⟨RX10, "signsIn", "(I)I"⟩
abbrev cX10_seatBest : ByteArray := prog_1_method_46_code
def yX10_seatBest : MethodName := ⟨RX10, "seatBest", "()I"⟩
abbrev cX10_fish : ByteArray := prog_1_method_47_code
def yX10_fish : MethodName := ⟨RX10, "fish", "()I"⟩
abbrev cX10_leastFish : ByteArray := prog_1_method_48_code
def yX10_leastFish : MethodName := ⟨RX10, "leastFish", "()I"⟩
abbrev cX10_bestSwap : ByteArray := prog_1_method_49_code
def yX10_bestSwap : MethodName := ⟨RX10, "bestSwap", "()I"⟩
abbrev cX10_bestTurn : ByteArray := prog_1_method_50_code
def yX10_bestTurn : MethodName := ⟨RX10, "bestTurn", "()I"⟩
abbrev cX10_signsBy : ByteArray := prog_1_method_51_code
def yX10_signsBy : MethodName := ⟨RX10, "signsBy", "(II)I"⟩
abbrev cX10_game : ByteArray := prog_1_method_52_code
def yX10_game : MethodName := ⟨RX10, "game", "(III)I"⟩
abbrev cX10_moveOf : ByteArray := prog_1_method_53_code
def yX10_moveOf : MethodName := ⟨RX10, "moveOf", "(III)I"⟩
abbrev cX10_leans : ByteArray := prog_1_method_54_code
def yX10_leans : MethodName := ⟨RX10, "leans", "(I)I"⟩
abbrev cX10_falls : ByteArray := prog_1_method_55_code
def yX10_falls : MethodName := ⟨RX10, "falls", "(I)I"⟩
abbrev cX10_keystone : ByteArray := prog_1_method_56_code
def yX10_keystone : MethodName := ⟨RX10, "keystone", "()I"⟩
abbrev cX10_orders : ByteArray := prog_1_method_57_code
def yX10_orders : MethodName := ⟨RX10, "orders", "()I"⟩
abbrev cX10_soonest : ByteArray := prog_1_method_58_code
def yX10_soonest : MethodName := ⟨RX10, "soonest", "(I)I"⟩
abbrev cX10_chain : ByteArray := prog_1_method_59_code
def yX10_chain : MethodName := ⟨RX10, "chain", "(I)I"⟩
abbrev cX10_agreedIn : ByteArray := prog_1_method_60_code
def yX10_agreedIn : MethodName := ⟨RX10, "agreedIn", "(I)I"⟩
abbrev cX10_luck : ByteArray := prog_1_method_61_code
def yX10_luck : MethodName := ⟨RX10, "luck", "(I)Z"⟩
abbrev cX10_weakest : ByteArray := prog_1_method_62_code
def yX10_weakest : MethodName := ⟨RX10, "weakest", "()I"⟩
abbrev cX10_copySeats : ByteArray := prog_1_method_63_code
def yX10_copySeats : MethodName := ⟨RX10, "copySeats", "(I)I"⟩
abbrev cX10_seatBy : ByteArray := prog_1_method_64_code
def yX10_seatBy : MethodName := ⟨RX10, "seatBy", "(I)I"⟩
abbrev cX10_live : ByteArray := prog_1_method_65_code
def yX10_live : MethodName := ⟨RX10, "live", "(I)I"⟩
abbrev cX10_lived : ByteArray := prog_1_method_66_code
def yX10_lived : MethodName := ⟨RX10, "lived", "(I)I"⟩
abbrev cX10_mean : ByteArray := prog_1_method_67_code
def yX10_mean : MethodName := ⟨RX10, "mean", "(II)Z"⟩
abbrev cX10_mark : ByteArray := prog_1_method_68_code
def yX10_mark : MethodName := ⟨RX10, "mark", "()I"⟩
abbrev cX10_undo : ByteArray := prog_1_method_69_code
def yX10_undo : MethodName := ⟨RX10, "undo", "()I"⟩
abbrev cX10_answer : ByteArray := prog_1_method_70_code
def yX10_answer : MethodName := ⟨RX10, "answer", "(I)I"⟩
abbrev cX10_answerOrNone : ByteArray := prog_1_method_71_code
def yX10_answerOrNone : MethodName := ⟨RX10, "answerOrNone", "(I)I"⟩
abbrev cX10_refuse : ByteArray := prog_1_method_72_code
def yX10_refuse : MethodName := ⟨RX10, "refuse", "(I)I"⟩
abbrev cX10_grant : ByteArray := prog_1_method_73_code
def yX10_grant : MethodName := ⟨RX10, "grant", "()Z"⟩
abbrev cX10_deny : ByteArray := prog_1_method_74_code
def yX10_deny : MethodName := ⟨RX10, "deny", "(I)Z"⟩
abbrev cX10_within : ByteArray := prog_1_method_75_code
def yX10_within : MethodName := ⟨RX10, "within", "(III)Z"⟩
abbrev cX10_asNumber : ByteArray := prog_1_method_76_code
def yX10_asNumber : MethodName := ⟨RX10, "asNumber", "(Z)I"⟩
abbrev cX10_holds : ByteArray := prog_1_method_77_code
def yX10_holds : MethodName := ⟨RX10, "holds", "(II)Z"⟩
abbrev cX10_trayAt : ByteArray := prog_1_method_78_code
def yX10_trayAt : MethodName := ⟨RX10, "trayAt", "(I)LStandTable$Tray;"⟩
abbrev cX10_keptAt : ByteArray := prog_1_method_79_code
def yX10_keptAt : MethodName := ⟨RX10, "keptAt", "(I)LStandTable$Committee;"⟩
abbrev cX10_whyNoNumbers : ByteArray := prog_1_method_80_code
def yX10_whyNoNumbers : MethodName := ⟨RX10, "whyNoNumbers", "(LStandTable$Tray;II)I"⟩
abbrev cX10_whyNoGame : ByteArray := prog_1_method_81_code
def yX10_whyNoGame : MethodName := ⟨RX10, "whyNoGame", "(IIII)I"⟩
abbrev cX10_areTwo : ByteArray := prog_1_method_82_code
def yX10_areTwo : MethodName := ⟨RX10, "areTwo", "(II)Z"⟩
abbrev cX10_keepFault : ByteArray := prog_1_method_83_code
def yX10_keepFault : MethodName := ⟨RX10, "keepFault", "()Z"⟩
abbrev cX10_layTrial : ByteArray := prog_1_method_84_code
def yX10_layTrial : MethodName := ⟨RX10, "layTrial", "()V"⟩
abbrev cX10_changeTrialBy : ByteArray := prog_1_method_85_code
def yX10_changeTrialBy : MethodName := ⟨RX10, "changeTrialBy", "(LStandTable$Tray;)Z"⟩
abbrev cX10_tellFraction : ByteArray := prog_1_method_86_code
def yX10_tellFraction : MethodName := ⟨RX10, "tellFraction", "(JJ)V"⟩
abbrev cX10_commonDivisor : ByteArray := prog_1_method_87_code
def yX10_commonDivisor : MethodName := ⟨RX10, "commonDivisor", "(JJ)J"⟩
def RX11 : String := "StandTableModel"
def TX11 : u_T := fun k => match k with
  | 0 => ("StandTableModel", "at", "[I", true)
  | 1 => ("StandTableModel", "names", "[J", true)
  | 2 => ("StandTableModel", "status", "I", false)
  | 3 => ("StandTableModel", "top", "J", false)
  | 4 => ("StandTableModel", "bottom", "J", false)
  | 5 => ("StandTableModel", "sort", "[I", true)
  | 6 => ("StandTableModel", "trayMany", "[I", true)
  | 7 => ("StandTableModel", "trays", "[J", true)
  | 8 => ("StandTableModel", "tape", "[B", true)
  | 9 => ("StandTableModel", "text", "[B", true)
  | 10 => ("StandTableModel", "taped", "I", false)
  | 11 => ("StandTableModel", "size", "I", false)
  | 12 => ("StandTableModel", "token", "I", false)
  | 13 => ("StandTableModel", "from", "I", false)
  | 14 => ("StandTableModel", "end", "I", false)
  | 15 => ("StandTableModel", "value", "I", false)
  | 16 => ("StandTableModel", "faultKind", "I", false)
  | 17 => ("StandTableModel", "faultPlace", "I", false)
  | 18 => ("StandTableModel", "faults", "I", false)
  | 19 => ("StandTableModel", "seen", "I", false)
  | 20 => ("StandTableModel", "opened", "[I", true)
  | 21 => ("StandTableModel", "depth", "I", false)
  | 22 => ("StandTableModel", "counted", "I", false)
  | 23 => ("StandTableModel", "seat", "[I", true)
  | 24 => ("StandTableModel", "tried", "[I", true)
  | 25 => ("StandTableModel", "comes", "[I", true)
  | 26 => ("StandTableModel", "seatsOn", "[I", true)
  | 27 => ("StandTableModel", "triedFirst", "I", false)
  | 28 => ("StandTableModel", "ordersBy", "[I", true)
  | 29 => ("StandTableModel", "chains", "[I", true)
  | 30 => ("StandTableModel", "drawn", "I", false)
  | 31 => ("StandTableModel", "ranSteps", "I", false)
  | 32 => ("StandTableModel", "loops", "[I", true)
  | 33 => ("StandTableModel", "ran", "[I", true)
  | 34 => ("StandTableModel", "told1", "[I", true)
  | 35 => ("StandTableModel", "isTold", "Z", false)
  | _ => ("StandTableModel", "marks", "I", false)
def tyX11 : Nat → FieldType := fun k => match k with
  | 0 => .array .int
  | 1 => .array .long
  | 2 => .int
  | 3 => .long
  | 4 => .long
  | 5 => .array .int
  | 6 => .array .int
  | 7 => .array .long
  | 8 => .array .byte
  | 9 => .array .byte
  | 10 => .int
  | 11 => .int
  | 12 => .int
  | 13 => .int
  | 14 => .int
  | 15 => .int
  | 16 => .int
  | 17 => .int
  | 18 => .int
  | 19 => .int
  | 20 => .array .int
  | 21 => .int
  | 22 => .int
  | 23 => .array .int
  | 24 => .array .int
  | 25 => .array .int
  | 26 => .array .int
  | 27 => .int
  | 28 => .array .int
  | 29 => .array .int
  | 30 => .int
  | 31 => .int
  | 32 => .array .int
  | 33 => .array .int
  | 34 => .array .int
  | 35 => .boolean
  | _ => .int
theorem nmX11 : ∀ a, a < 37 → ∀ b, b < 37 → a ≠ b → (TX11 a).2.1 ≠ (TX11 b).2.1 := by decide +kernel
theorem tyX11_ok : ∀ k, k < 37 → parseFieldDescriptor (TX11 k).2.2.1 = some (tyX11 k) := by decide +kernel
abbrev cX11_init : ByteArray := prog_13_method_1_code
def yX11_init : MethodName := ⟨RX11, "<init>", "()V"⟩
abbrev cX11_plain : ByteArray := prog_13_method_2_code
def yX11_plain : MethodName := ⟨RX11, "plain", "(I)V"⟩
abbrev cX11_status : ByteArray := prog_13_method_3_code
def yX11_status : MethodName := ⟨RX11, "status", "()I"⟩
abbrev cX11_top : ByteArray := prog_13_method_4_code
def yX11_top : MethodName := ⟨RX11, "top", "()J"⟩
abbrev cX11_bottom : ByteArray := prog_13_method_5_code
def yX11_bottom : MethodName := ⟨RX11, "bottom", "()J"⟩
abbrev cX11_is : ByteArray := prog_13_method_6_code
def yX11_is : MethodName := ⟨RX11, "is", "(I)Z"⟩
abbrev cX11_refuse : ByteArray := prog_13_method_7_code
def yX11_refuse : MethodName := ⟨RX11, "refuse", "(I)I"⟩
abbrev cX11_gives : ByteArray := prog_13_method_8_code
def yX11_gives : MethodName := ⟨RX11, "gives", "(I)I"⟩
abbrev cX11_orNone : ByteArray := prog_13_method_9_code
def yX11_orNone : MethodName := ⟨RX11, "orNone", "(I)I"⟩
abbrev cX11_tellsBy : ByteArray := prog_13_method_10_code
def yX11_tellsBy : MethodName := ⟨RX11, "tellsBy", "(JJ)Z"⟩
abbrev cX11_isTray : ByteArray := prog_13_method_11_code
def yX11_isTray : MethodName := ⟨RX11, "isTray", "(I)Z"⟩
abbrev cX11_cut : ByteArray := prog_13_method_12_code
def yX11_cut : MethodName := ⟨RX11, "cut", "(JI)J"⟩
abbrev cX11_tray : ByteArray := prog_13_method_13_code
def yX11_tray : MethodName := ⟨RX11, "tray", "(III)Z"⟩
abbrev cX11_wrongPlace : ByteArray := prog_13_method_14_code
def yX11_wrongPlace : MethodName := ⟨RX11, "wrongPlace", "(II)I"⟩
abbrev cX11_write : ByteArray := prog_13_method_15_code
def yX11_write : MethodName := ⟨RX11, "write", "(IIJ)Z"⟩
abbrev cX11_read : ByteArray := prog_13_method_16_code
def yX11_read : MethodName := ⟨RX11, "read", "(II)J"⟩
abbrev cX11_pour : ByteArray := prog_13_method_17_code
def yX11_pour : MethodName := ⟨RX11, "pour", "(IIIII)Z"⟩
abbrev cX11_isFrom : ByteArray := prog_13_method_18_code
def yX11_isFrom : MethodName := ⟨RX11, "isFrom", "(JJJ)Z"⟩
abbrev cX11_feed : ByteArray := prog_13_method_19_code
def yX11_feed : MethodName := ⟨RX11, "feed", "(IIIII)I"⟩
abbrev cX11_four : ByteArray := prog_13_method_20_code
def yX11_four : MethodName := ⟨RX11, "four", "(I)V"⟩
abbrev cX11_byteAt : ByteArray := prog_13_method_21_code
def yX11_byteAt : MethodName := ⟨RX11, "byteAt", "(I)I"⟩
abbrev cX11_isSmall : ByteArray := prog_13_method_22_code
def yX11_isSmall : MethodName := ⟨RX11, "isSmall", "(I)Z"⟩
abbrev cX11_isDigit : ByteArray := prog_13_method_23_code
def yX11_isDigit : MethodName := ⟨RX11, "isDigit", "(I)Z"⟩
abbrev cX11_ahead : ByteArray := prog_13_method_24_code
def yX11_ahead : MethodName := ⟨RX11, "ahead", "()V"⟩
abbrev cX11_isSign : ByteArray := prog_13_method_25_code
def yX11_isSign : MethodName := ⟨RX11, "isSign", "(I)Z"⟩
abbrev cX11_inWords : ByteArray := prog_13_method_26_code
def yX11_inWords : MethodName := ⟨RX11, "inWords", "(Ljava/lang/String;)I"⟩
abbrev cX11_fails : ByteArray := prog_13_method_27_code
def yX11_fails : MethodName := ⟨RX11, "fails", "(I)Z"⟩
abbrev cX11_begins : ByteArray := prog_13_method_28_code
def yX11_begins : MethodName := ⟨RX11, "begins", "(II)Z"⟩
abbrev cX11_wantSign : ByteArray := prog_13_method_29_code
def yX11_wantSign : MethodName := ⟨RX11, "wantSign", "(I)Z"⟩
abbrev cX11_wantWord : ByteArray := prog_13_method_30_code
def yX11_wantWord : MethodName := ⟨RX11, "wantWord", "(Ljava/lang/String;I)Z"⟩
abbrev cX11_number : ByteArray := prog_13_method_31_code
def yX11_number : MethodName := ⟨RX11, "number", "(III)Z"⟩
abbrev cX11_isName : ByteArray := prog_13_method_32_code
def yX11_isName : MethodName := ⟨RX11, "isName", "(Ljava/lang/String;)Z"⟩
abbrev cX11_nameHere : ByteArray := prog_13_method_33_code
def yX11_nameHere : MethodName := ⟨RX11, "nameHere", "()J"⟩
abbrev cX11_findHere : ByteArray := prog_13_method_34_code
def yX11_findHere : MethodName := ⟨RX11, "findHere", "(II)I"⟩
abbrev cX11_fault : ByteArray := prog_13_method_35_code
def yX11_fault : MethodName := ⟨RX11, "fault", "(I)I"⟩
abbrev cX11_taken : ByteArray := prog_13_method_36_code
def yX11_taken : MethodName := ⟨RX11, "taken", "(I)I"⟩
abbrev cX11_isThere : ByteArray := prog_13_method_37_code
def yX11_isThere : MethodName := ⟨RX11, "isThere", "(I)Z"⟩
abbrev cX11_newOne : ByteArray := prog_13_method_38_code
def yX11_newOne : MethodName := ⟨RX11, "newOne", "(III)Z"⟩
abbrev cX11_partyTo : ByteArray := prog_13_method_39_code
def yX11_partyTo : MethodName := ⟨RX11, "partyTo", "(I)Z"⟩
abbrev cX11_aParty : ByteArray := prog_13_method_40_code
def yX11_aParty : MethodName := ⟨RX11, "aParty", "()Z"⟩
abbrev cX11_aWish : ByteArray := prog_13_method_41_code
def yX11_aWish : MethodName := ⟨RX11, "aWish", "(Z)Z"⟩
abbrev cX11_anArticle : ByteArray := prog_13_method_42_code
def yX11_anArticle : MethodName := ⟨RX11, "anArticle", "()Z"⟩
abbrev cX11_committeePart : ByteArray := prog_13_method_43_code
def yX11_committeePart : MethodName := ⟨RX11, "committeePart", "()Z"⟩
abbrev cX11_committee : ByteArray := prog_13_method_44_code
def yX11_committee : MethodName := ⟨RX11, "committee", "(I)I"⟩
abbrev cX11_oldOne : ByteArray := prog_13_method_45_code
def yX11_oldOne : MethodName := ⟨RX11, "oldOne", "(III)Z"⟩
abbrev cX11_oldParty : ByteArray := prog_13_method_46_code
def yX11_oldParty : MethodName := ⟨RX11, "oldParty", "(I)Z"⟩
abbrev cX11_oldArticle : ByteArray := prog_13_method_47_code
def yX11_oldArticle : MethodName := ⟨RX11, "oldArticle", "(I)Z"⟩
abbrev cX11_test : ByteArray := prog_13_method_48_code
def yX11_test : MethodName := ⟨RX11, "test", "(I)Z"⟩
abbrev cX11_sessionOrder : ByteArray := prog_13_method_49_code
def yX11_sessionOrder : MethodName := ⟨RX11, "sessionOrder", "(II)Z"⟩
abbrev cX11_sessionStep : ByteArray := prog_13_method_50_code
def yX11_sessionStep : MethodName := ⟨RX11, "sessionStep", "()Z"⟩
abbrev cX11_sessions : ByteArray := prog_13_method_51_code
def yX11_sessions : MethodName := ⟨RX11, "sessions", "(I)I"⟩
abbrev cX11_partyRow : ByteArray := prog_13_method_52_code
def yX11_partyRow : MethodName := ⟨RX11, "partyRow", "(I)I"⟩
abbrev cX11_wishRow : ByteArray := prog_13_method_53_code
def yX11_wishRow : MethodName := ⟨RX11, "wishRow", "(I)I"⟩
abbrev cX11_articleRow : ByteArray := prog_13_method_54_code
def yX11_articleRow : MethodName := ⟨RX11, "articleRow", "(I)I"⟩
abbrev cX11_isPlace : ByteArray := prog_13_method_55_code
def yX11_isPlace : MethodName := ⟨RX11, "isPlace", "(I)Z"⟩
abbrev cX11_isParty : ByteArray := prog_13_method_56_code
def yX11_isParty : MethodName := ⟨RX11, "isParty", "(I)Z"⟩
abbrev cX11_areTwo : ByteArray := prog_13_method_57_code
def yX11_areTwo : MethodName := ⟨RX11, "areTwo", "(II)Z"⟩
abbrev cX11_isArticle : ByteArray := prog_13_method_58_code
def yX11_isArticle : MethodName := ⟨RX11, "isArticle", "(I)Z"⟩
abbrev cX11_isIn : ByteArray := prog_13_method_59_code
def yX11_isIn : MethodName := ⟨RX11, "isIn", "(II)Z"⟩
abbrev cX11_bits : ByteArray := prog_13_method_60_code
def yX11_bits : MethodName := ⟨RX11, "bits", "(I)I"⟩
abbrev cX11_seatOf : ByteArray := prog_13_method_61_code
def yX11_seatOf : MethodName := ⟨RX11, "seatOf", "(I)I"⟩
abbrev cX11_leastOf : ByteArray := prog_13_method_62_code
def yX11_leastOf : MethodName := ⟨RX11, "leastOf", "(I)I"⟩
abbrev cX11_seatsNow : ByteArray := prog_13_method_63_code
def yX11_seatsNow : MethodName := ⟨RX11, "seatsNow", "()V"⟩
abbrev cX11_areBeside : ByteArray := prog_13_method_64_code
def yX11_areBeside : MethodName := ⟨RX11, "areBeside", "(II)Z"⟩
abbrev cX11_areFacing : ByteArray := prog_13_method_65_code
def yX11_areFacing : MethodName := ⟨RX11, "areFacing", "(II)Z"⟩
abbrev cX11_isHad : ByteArray := prog_13_method_66_code
def yX11_isHad : MethodName := ⟨RX11, "isHad", "(I)Z"⟩
abbrev cX11_worthOf : ByteArray := prog_13_method_67_code
def yX11_worthOf : MethodName := ⟨RX11, "worthOf", "(I)I"⟩
abbrev cX11_worthOfAll : ByteArray := prog_13_method_68_code
def yX11_worthOfAll : MethodName := ⟨RX11, "worthOfAll", "()I"⟩
abbrev cX11_doesSign : ByteArray := prog_13_method_69_code
def yX11_doesSign : MethodName := ⟨RX11, "doesSign", "(I)Z"⟩
abbrev cX11_signing : ByteArray := prog_13_method_70_code
def yX11_signing : MethodName := ⟨RX11, "signing", "()I"⟩
abbrev cX11_everybody : ByteArray := prog_13_method_71_code
def yX11_everybody : MethodName := ⟨RX11, "everybody", "()I"⟩
abbrev cX11_fishing : ByteArray := prog_13_method_72_code
def yX11_fishing : MethodName := ⟨RX11, "fishing", "()I"⟩
abbrev cX11_isAgreed : ByteArray := prog_13_method_73_code
def yX11_isAgreed : MethodName := ⟨RX11, "isAgreed", "(I)Z"⟩
abbrev cX11_agreedNow : ByteArray := prog_13_method_74_code
def yX11_agreedNow : MethodName := ⟨RX11, "agreedNow", "()I"⟩
abbrev cX11_isOpen : ByteArray := prog_13_method_75_code
def yX11_isOpen : MethodName := ⟨RX11, "isOpen", "(I)Z"⟩
abbrev cX11_sitting : ByteArray := prog_13_method_76_code
def yX11_sitting : MethodName := ⟨RX11, "sitting", "()I"⟩
abbrev cX11_openNow : ByteArray := prog_13_method_77_code
def yX11_openNow : MethodName := ⟨RX11, "openNow", "()I"⟩
abbrev cX11_told : ByteArray := prog_13_method_78_code
def yX11_told : MethodName := ⟨RX11, "told", "(I)I"⟩
abbrev cX11_sitsAt : ByteArray := prog_13_method_79_code
def yX11_sitsAt : MethodName := ⟨RX11, "sitsAt", "(I)I"⟩
abbrev cX11_who : ByteArray := prog_13_method_80_code
def yX11_who : MethodName := ⟨RX11, "who", "(I)I"⟩
abbrev cX11_placeOf : ByteArray := prog_13_method_81_code
def yX11_placeOf : MethodName := ⟨RX11, "placeOf", "(I)I"⟩
abbrev cX11_least : ByteArray := prog_13_method_82_code
def yX11_least : MethodName := ⟨RX11, "least", "(I)I"⟩
abbrev cX11_wish : ByteArray := prog_13_method_83_code
def yX11_wish : MethodName := ⟨RX11, "wish", "(II)I"⟩
abbrev cX11_article : ByteArray := prog_13_method_84_code
def yX11_article : MethodName := ⟨RX11, "article", "(II)I"⟩
abbrev cX11_bothSit : ByteArray := prog_13_method_85_code
def yX11_bothSit : MethodName := ⟨RX11, "bothSit", "(II)Z"⟩
abbrev cX11_beside : ByteArray := prog_13_method_86_code
def yX11_beside : MethodName := ⟨RX11, "beside", "(II)I"⟩
abbrev cX11_facing : ByteArray := prog_13_method_87_code
def yX11_facing : MethodName := ⟨RX11, "facing", "(II)I"⟩
abbrev cX11_worth : ByteArray := prog_13_method_88_code
def yX11_worth : MethodName := ⟨RX11, "worth", "(I)I"⟩
abbrev cX11_allWorth : ByteArray := prog_13_method_89_code
def yX11_allWorth : MethodName := ⟨RX11, "allWorth", "()I"⟩
abbrev cX11_signs : ByteArray := prog_13_method_90_code
def yX11_signs : MethodName := ⟨RX11, "signs", "(I)I"⟩
abbrev cX11_dearest : ByteArray := prog_13_method_91_code
def yX11_dearest : MethodName := ⟨RX11, "dearest", "(I)I"⟩
abbrev cX11_sits : ByteArray := prog_13_method_92_code
def yX11_sits : MethodName := ⟨RX11, "sits", "(II)Z"⟩
abbrev cX11_sit : ByteArray := prog_13_method_93_code
def yX11_sit : MethodName := ⟨RX11, "sit", "(II)I"⟩
abbrev cX11_rise : ByteArray := prog_13_method_94_code
def yX11_rise : MethodName := ⟨RX11, "rise", "(I)I"⟩
abbrev cX11_swaps : ByteArray := prog_13_method_95_code
def yX11_swaps : MethodName := ⟨RX11, "swaps", "(II)Z"⟩
abbrev cX11_swap : ByteArray := prog_13_method_96_code
def yX11_swap : MethodName := ⟨RX11, "swap", "(II)Z"⟩
abbrev cX11_turnsBy : ByteArray := prog_13_method_97_code
def yX11_turnsBy : MethodName := ⟨RX11, "turnsBy", "(I)V"⟩
abbrev cX11_turn : ByteArray := prog_13_method_98_code
def yX11_turn : MethodName := ⟨RX11, "turn", "(I)I"⟩
abbrev cX11_dayGoes : ByteArray := prog_13_method_99_code
def yX11_dayGoes : MethodName := ⟨RX11, "dayGoes", "()I"⟩
abbrev cX11_daysGo : ByteArray := prog_13_method_100_code
def yX11_daysGo : MethodName := ⟨RX11, "daysGo", "(I)I"⟩
abbrev cX11_day : ByteArray := prog_13_method_101_code
def yX11_day : MethodName := ⟨RX11, "day", "(I)I"⟩
abbrev cX11_agrees : ByteArray := prog_13_method_102_code
def yX11_agrees : MethodName := ⟨RX11, "agrees", "(I)Z"⟩
abbrev cX11_agree : ByteArray := prog_13_method_103_code
def yX11_agree : MethodName := ⟨RX11, "agree", "(I)I"⟩
abbrev cX11_fallsWith : ByteArray := prog_13_method_104_code
def yX11_fallsWith : MethodName := ⟨RX11, "fallsWith", "(I)I"⟩
abbrev cX11_fallsNow : ByteArray := prog_13_method_105_code
def yX11_fallsNow : MethodName := ⟨RX11, "fallsNow", "(I)I"⟩
abbrev cX11_withdraw : ByteArray := prog_13_method_106_code
def yX11_withdraw : MethodName := ⟨RX11, "withdraw", "(I)I"⟩
abbrev cX11_insist : ByteArray := prog_13_method_107_code
def yX11_insist : MethodName := ⟨RX11, "insist", "(II)Z"⟩
abbrev cX11_value : ByteArray := prog_13_method_108_code
def yX11_value : MethodName := ⟨RX11, "value", "(II)Z"⟩
abbrev cX11_carve : ByteArray := prog_13_method_109_code
def yX11_carve : MethodName := ⟨RX11, "carve", "(IZ)Z"⟩
abbrev cX11_codes : ByteArray := prog_13_method_110_code
def yX11_codes : MethodName := ⟨RX11, "codes", "()I"⟩
abbrev cX11_seatsBy : ByteArray := prog_13_method_111_code
def yX11_seatsBy : MethodName := ⟨RX11, "seatsBy", "(I)Z"⟩
abbrev cX11_codeOf : ByteArray := prog_13_method_112_code
def yX11_codeOf : MethodName := ⟨RX11, "codeOf", "()I"⟩
abbrev cX11_isGood : ByteArray := prog_13_method_113_code
def yX11_isGood : MethodName := ⟨RX11, "isGood", "()Z"⟩
abbrev cX11_seatings : ByteArray := prog_13_method_114_code
def yX11_seatings : MethodName := ⟨RX11, "seatings", "()I"⟩
abbrev cX11_good : ByteArray := prog_13_method_115_code
def yX11_good : MethodName := ⟨RX11, "good", "()I"⟩
abbrev cX11_moves : ByteArray := prog_13_method_116_code
def yX11_moves : MethodName := ⟨RX11, "moves", "(Z)V"⟩
abbrev cX11_isClass : ByteArray := prog_13_method_117_code
def yX11_isClass : MethodName := ⟨RX11, "isClass", "(I)Z"⟩
abbrev cX11_classes : ByteArray := prog_13_method_118_code
def yX11_classes : MethodName := ⟨RX11, "classes", "()I"⟩
abbrev cX11_firstGood : ByteArray := prog_13_method_119_code
def yX11_firstGood : MethodName := ⟨RX11, "firstGood", "()I"⟩
abbrev cX11_goodAt : ByteArray := prog_13_method_120_code
def yX11_goodAt : MethodName := ⟨RX11, "goodAt", "(I)I"⟩
abbrev cX11_bestCode : ByteArray := prog_13_method_121_code
def yX11_bestCode : MethodName := ⟨RX11, "bestCode", "()I"⟩
abbrev cX11_best : ByteArray := prog_13_method_122_code
def yX11_best : MethodName := ⟨RX11, "best", "()I"⟩
abbrev cX11_bestAt : ByteArray := prog_13_method_123_code
def yX11_bestAt : MethodName := ⟨RX11, "bestAt", "(I)I"⟩
abbrev cX11_mostSign : ByteArray := prog_13_method_124_code
def yX11_mostSign : MethodName := ⟨RX11, "mostSign", "()I"⟩
abbrev cX11_arePleased : ByteArray := prog_13_method_125_code
def yX11_arePleased : MethodName := ⟨RX11, "arePleased", "(I)Z"⟩
abbrev cX11_quarrel : ByteArray := prog_13_method_126_code
def yX11_quarrel : MethodName := ⟨RX11, "quarrel", "()I"⟩
abbrev cX11_pleased : ByteArray := prog_13_method_127_code
def yX11_pleased : MethodName := ⟨RX11, "pleased", "(I)I"⟩
abbrev cX11_mostFor : ByteArray := prog_13_method_128_code
def yX11_mostFor : MethodName := ⟨RX11, "mostFor", "(I)I"⟩
abbrev cX11_signsIn : ByteArray := prog_13_method_129_code
def yX11_signsIn : MethodName := ⟨RX11, "signsIn", "(I)I"⟩
abbrev cX11_seatBest : ByteArray := prog_13_method_130_code
def yX11_seatBest : MethodName := ⟨RX11, "seatBest", "()I"⟩
abbrev cX11_fish : ByteArray := prog_13_method_131_code
def yX11_fish : MethodName := ⟨RX11, "fish", "()I"⟩
abbrev cX11_leastFish : ByteArray := prog_13_method_132_code
def yX11_leastFish : MethodName := ⟨RX11, "leastFish", "()I"⟩
abbrev cX11_swapsSeats : ByteArray := prog_13_method_133_code
def yX11_swapsSeats : MethodName := ⟨RX11, "swapsSeats", "(II)V"⟩
abbrev cX11_bestSwap : ByteArray := prog_13_method_134_code
def yX11_bestSwap : MethodName := ⟨RX11, "bestSwap", "()I"⟩
abbrev cX11_bestTurn : ByteArray := prog_13_method_135_code
def yX11_bestTurn : MethodName := ⟨RX11, "bestTurn", "()I"⟩
abbrev cX11_signsBy : ByteArray := prog_13_method_136_code
def yX11_signsBy : MethodName := ⟨RX11, "signsBy", "(II)I"⟩
abbrev cX11_keepsSeats : ByteArray := prog_13_method_137_code
def yX11_keepsSeats : MethodName := ⟨RX11, "keepsSeats", "(I)V"⟩
abbrev cX11_givesSeats : ByteArray := prog_13_method_138_code
def yX11_givesSeats : MethodName := ⟨RX11, "givesSeats", "(I)V"⟩
abbrev cX11_weighs : ByteArray := prog_13_method_139_code
def yX11_weighs : MethodName := ⟨RX11, "weighs", "(II)V"⟩
abbrev cX11_changes : ByteArray := prog_13_method_140_code
def yX11_changes : MethodName := ⟨RX11, "changes", "(II)V"⟩
abbrev cX11_playing : ByteArray := prog_13_method_141_code
def yX11_playing : MethodName := ⟨RX11, "playing", "(III)I"⟩
abbrev cX11_wrongGame : ByteArray := prog_13_method_142_code
def yX11_wrongGame : MethodName := ⟨RX11, "wrongGame", "(IIII)I"⟩
abbrev cX11_game : ByteArray := prog_13_method_143_code
def yX11_game : MethodName := ⟨RX11, "game", "(III)I"⟩
abbrev cX11_moveOf : ByteArray := prog_13_method_144_code
def yX11_moveOf : MethodName := ⟨RX11, "moveOf", "(III)I"⟩
abbrev cX11_leansOf : ByteArray := prog_13_method_145_code
def yX11_leansOf : MethodName := ⟨RX11, "leansOf", "(I)I"⟩
abbrev cX11_leans : ByteArray := prog_13_method_146_code
def yX11_leans : MethodName := ⟨RX11, "leans", "(I)I"⟩
abbrev cX11_falls : ByteArray := prog_13_method_147_code
def yX11_falls : MethodName := ⟨RX11, "falls", "(I)I"⟩
abbrev cX11_keystone : ByteArray := prog_13_method_148_code
def yX11_keystone : MethodName := ⟨RX11, "keystone", "()I"⟩
abbrev cX11_orders : ByteArray := prog_13_method_149_code
def yX11_orders : MethodName := ⟨RX11, "orders", "()I"⟩
abbrev cX11_keeps : ByteArray := prog_13_method_150_code
def yX11_keeps : MethodName := ⟨RX11, "keeps", "(I)V"⟩
abbrev cX11_restores : ByteArray := prog_13_method_151_code
def yX11_restores : MethodName := ⟨RX11, "restores", "(I)V"⟩
abbrev cX11_soonest : ByteArray := prog_13_method_152_code
def yX11_soonest : MethodName := ⟨RX11, "soonest", "(I)I"⟩
abbrev cX11_chain : ByteArray := prog_13_method_153_code
def yX11_chain : MethodName := ⟨RX11, "chain", "(I)I"⟩
abbrev cX11_agreedIn : ByteArray := prog_13_method_154_code
def yX11_agreedIn : MethodName := ⟨RX11, "agreedIn", "(I)I"⟩
abbrev cX11_luckOf : ByteArray := prog_13_method_155_code
def yX11_luckOf : MethodName := ⟨RX11, "luckOf", "(I)J"⟩
abbrev cX11_luck : ByteArray := prog_13_method_156_code
def yX11_luck : MethodName := ⟨RX11, "luck", "(I)Z"⟩
abbrev cX11_weakest : ByteArray := prog_13_method_157_code
def yX11_weakest : MethodName := ⟨RX11, "weakest", "()I"⟩
abbrev cX11_copySeats : ByteArray := prog_13_method_158_code
def yX11_copySeats : MethodName := ⟨RX11, "copySeats", "(I)I"⟩
abbrev cX11_wrongSeats : ByteArray := prog_13_method_159_code
def yX11_wrongSeats : MethodName := ⟨RX11, "wrongSeats", "(I)I"⟩
abbrev cX11_seatBy : ByteArray := prog_13_method_160_code
def yX11_seatBy : MethodName := ⟨RX11, "seatBy", "(I)I"⟩
abbrev cX11_draw : ByteArray := prog_13_method_161_code
def yX11_draw : MethodName := ⟨RX11, "draw", "(I)I"⟩
abbrev cX11_risesBy : ByteArray := prog_13_method_162_code
def yX11_risesBy : MethodName := ⟨RX11, "risesBy", "(I)Z"⟩
abbrev cX11_turnsAll : ByteArray := prog_13_method_163_code
def yX11_turnsAll : MethodName := ⟨RX11, "turnsAll", "(I)Z"⟩
abbrev cX11_daysBy : ByteArray := prog_13_method_164_code
def yX11_daysBy : MethodName := ⟨RX11, "daysBy", "(I)Z"⟩
abbrev cX11_agreesBy : ByteArray := prog_13_method_165_code
def yX11_agreesBy : MethodName := ⟨RX11, "agreesBy", "(I)Z"⟩
abbrev cX11_withdrawsBy : ByteArray := prog_13_method_166_code
def yX11_withdrawsBy : MethodName := ⟨RX11, "withdrawsBy", "(I)Z"⟩
abbrev cX11_sitsAny : ByteArray := prog_13_method_167_code
def yX11_sitsAny : MethodName := ⟨RX11, "sitsAny", "()Z"⟩
abbrev cX11_does : ByteArray := prog_13_method_168_code
def yX11_does : MethodName := ⟨RX11, "does", "(I)Z"⟩
abbrev cX11_holds : ByteArray := prog_13_method_169_code
def yX11_holds : MethodName := ⟨RX11, "holds", "(I)Z"⟩
abbrev cX11_behindEnds : ByteArray := prog_13_method_170_code
def yX11_behindEnds : MethodName := ⟨RX11, "behindEnds", "(I)I"⟩
abbrev cX11_lives : ByteArray := prog_13_method_171_code
def yX11_lives : MethodName := ⟨RX11, "lives", "(I)V"⟩
abbrev cX11_live : ByteArray := prog_13_method_172_code
def yX11_live : MethodName := ⟨RX11, "live", "(I)I"⟩
abbrev cX11_lived : ByteArray := prog_13_method_173_code
def yX11_lived : MethodName := ⟨RX11, "lived", "(I)I"⟩
abbrev cX11_mean : ByteArray := prog_13_method_174_code
def yX11_mean : MethodName := ⟨RX11, "mean", "(II)Z"⟩
abbrev cX11_copies : ByteArray := prog_13_method_175_code
def yX11_copies : MethodName := ⟨RX11, "copies", "(II)V"⟩
abbrev cX11_mark : ByteArray := prog_13_method_176_code
def yX11_mark : MethodName := ⟨RX11, "mark", "()I"⟩
abbrev cX11_undo : ByteArray := prog_13_method_177_code
def yX11_undo : MethodName := ⟨RX11, "undo", "()I"⟩
def RJ6 : String := "java/lang/Integer"
def TJ6 : u_T := fun k => match k with
  | _ => ("", "", "", false)
def tyJ6 : Nat → FieldType := fun k => match k with
  | _ => .int
theorem nmJ6 : ∀ a, a < 0 → ∀ b, b < 0 → a ≠ b → (TJ6 a).2.1 ≠ (TJ6 b).2.1 := by decide +kernel
theorem tyJ6_ok : ∀ k, k < 0 → parseFieldDescriptor (TJ6 k).2.2.1 = some (tyJ6 k) := by decide +kernel
abbrev cJ6_bitCount_0f7a4 : ByteArray := prog_14_method_49_code
def yJ6_bitCount_0f7a4 : MethodName := ⟨RJ6, "bitCount", "(I)I"⟩
def RJ9 : String := "java/lang/Math"
def TJ9 : u_T := fun k => match k with
  | _ => ("", "", "", false)
def tyJ9 : Nat → FieldType := fun k => match k with
  | _ => .int
theorem nmJ9 : ∀ a, a < 0 → ∀ b, b < 0 → a ≠ b → (TJ9 a).2.1 ≠ (TJ9 b).2.1 := by decide +kernel
theorem tyJ9_ok : ∀ k, k < 0 → parseFieldDescriptor (TJ9 k).2.2.1 = some (tyJ9 k) := by decide +kernel
abbrev cJ9_abs_0f7a4 : ByteArray := prog_15_method_59_code
def yJ9_abs_0f7a4 : MethodName := ⟨RJ9, "abs", "(I)I"⟩
abbrev cJ9_abs_067f4 : ByteArray := prog_15_method_61_code
def yJ9_abs_067f4 : MethodName := ⟨RJ9, "abs", "(J)J"⟩
abbrev cJ9_max_7cf53 : ByteArray := prog_15_method_65_code
def yJ9_max_7cf53 : MethodName := ⟨RJ9, "max", "(II)I"⟩
abbrev cJ9_min_7cf53 : ByteArray := prog_15_method_69_code
def yJ9_min_7cf53 : MethodName := ⟨RJ9, "min", "(II)I"⟩
def RJ0 : String := "java/lang/String"
def TJ0 : u_T := fun k => match k with
  | _ => ("", "", "", false)
def tyJ0 : Nat → FieldType := fun k => match k with
  | _ => .int
theorem nmJ0 : ∀ a, a < 0 → ∀ b, b < 0 → a ≠ b → (TJ0 a).2.1 ≠ (TJ0 b).2.1 := by decide +kernel
theorem tyJ0_ok : ∀ k, k < 0 → parseFieldDescriptor (TJ0 k).2.2.1 = some (tyJ0 k) := by decide +kernel
abbrev cJ0_length_8abf5 : ByteArray := prog_16_method_54_code
def yJ0_length_8abf5 : MethodName := ⟨RJ0, "length", "()I"⟩
abbrev cJ0_charAt_5068e : ByteArray := prog_16_method_56_code
def yJ0_charAt_5068e : MethodName := ⟨RJ0, "charAt", "(I)C"⟩
abbrev cJ0_coder_7d493 : ByteArray := prog_16_method_152_code
def yJ0_coder_7d493 : MethodName := ⟨RJ0, "coder", "()B"⟩
abbrev cJ0_isLatin1_aae02 : ByteArray := prog_16_method_154_code
def yJ0_isLatin1_aae02 : MethodName := ⟨RJ0, "isLatin1", "()Z"⟩
abbrev cJ0_checkIndex_df160 : ByteArray := prog_16_method_155_code
def yJ0_checkIndex_df160 : MethodName := ⟨RJ0, "checkIndex", "(II)V"⟩
def RJ1 : String := "java/lang/StringLatin1"
def TJ1 : u_T := fun k => match k with
  | _ => ("", "", "", false)
def tyJ1 : Nat → FieldType := fun k => match k with
  | _ => .int
theorem nmJ1 : ∀ a, a < 0 → ∀ b, b < 0 → a ≠ b → (TJ1 a).2.1 ≠ (TJ1 b).2.1 := by decide +kernel
theorem tyJ1_ok : ∀ k, k < 0 → parseFieldDescriptor (TJ1 k).2.2.1 = some (tyJ1 k) := by decide +kernel
abbrev cJ1_charAt_3b067 : ByteArray := prog_17_method_2_code
def yJ1_charAt_3b067 : MethodName := ⟨RJ1, "charAt", "([BI)C"⟩
def RJ2 : String := "java/lang/StringUTF16"
def TJ2 : u_T := fun k => match k with
  | _ => ("", "", "", false)
def tyJ2 : Nat → FieldType := fun k => match k with
  | _ => .int
theorem nmJ2 : ∀ a, a < 0 → ∀ b, b < 0 → a ≠ b → (TJ2 a).2.1 ≠ (TJ2 b).2.1 := by decide +kernel
theorem tyJ2_ok : ∀ k, k < 0 → parseFieldDescriptor (TJ2 k).2.2.1 = some (tyJ2 k) := by decide +kernel
abbrev cJ2_getChar_3b067 : ByteArray := prog_18_method_5_code
def yJ2_getChar_3b067 : MethodName := ⟨RJ2, "getChar", "([BI)C"⟩
abbrev cJ2_length_9d52b : ByteArray := prog_18_method_6_code
def yJ2_length_9d52b : MethodName := ⟨RJ2, "length", "([B)I"⟩
abbrev cJ2_charAt_3b067 : ByteArray := prog_18_method_83_code
def yJ2_charAt_3b067 : MethodName := ⟨RJ2, "charAt", "([BI)C"⟩
abbrev cJ2_checkIndex_2214a : ByteArray := prog_18_method_91_code
def yJ2_checkIndex_2214a : MethodName := ⟨RJ2, "checkIndex", "(I[B)V"⟩
def RJ10 : String := "java/lang/System"
def TJ10 : u_T := fun k => match k with
  | _ => ("", "", "", false)
def tyJ10 : Nat → FieldType := fun k => match k with
  | _ => .int
theorem nmJ10 : ∀ a, a < 0 → ∀ b, b < 0 → a ≠ b → (TJ10 a).2.1 ≠ (TJ10 b).2.1 := by decide +kernel
theorem tyJ10_ok : ∀ k, k < 0 → parseFieldDescriptor (TJ10 k).2.2.1 = some (tyJ10 k) := by decide +kernel
def RJ3 : String := "jdk/internal/util/Preconditions"
def TJ3 : u_T := fun k => match k with
  | _ => ("", "", "", false)
def tyJ3 : Nat → FieldType := fun k => match k with
  | _ => .int
theorem nmJ3 : ∀ a, a < 0 → ∀ b, b < 0 → a ≠ b → (TJ3 a).2.1 ≠ (TJ3 b).2.1 := by decide +kernel
theorem tyJ3_ok : ∀ k, k < 0 → parseFieldDescriptor (TJ3 k).2.2.1 = some (tyJ3 k) := by decide +kernel
abbrev cJ3_checkIndex_8e157 : ByteArray := prog_20_method_11_code
def yJ3_checkIndex_8e157 : MethodName := ⟨RJ3, "checkIndex", "(IILjava/util/function/BiFunction;)I"⟩
def RL : String := "StandTableLaw"
abbrev cL_law : ByteArray := code
def yL_law : MethodName := ⟨RL, "law", "([I)Z"⟩
abbrev vwCl : List vw_C := [(RX0, TX0, 2), (RX1, TX1, 21), (RX3, TX3, 8), (RX5, TX5, 14), (RX7, TX7, 9), (RX8, TX8, 4), (RX9, TX9, 3), (RX10, TX10, 18), (RX11, TX11, 37)]
