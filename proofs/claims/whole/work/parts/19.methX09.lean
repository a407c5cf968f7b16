theorem kc_RX10_451 : Cond.constantLong RX10 451 (Int64.ofInt (-1)) ∈ jq_T := jq_in 1421 (by decide +kernel) rfl
theorem ml_RX10_453 : jq_sl RX10 453 yX10_holds cX10_holds 2 (some .boolean) 2 := ⟨jq_in 1422 (by decide +kernel) rfl, yf_X10_holds⟩
theorem yf_X10_layTrialBy : Cond.instanceMethod yX10_layTrialBy ∈ jq_T ∧ Cond.selects (yX10_layTrialBy).cls yX10_layTrialBy yX10_layTrialBy ∈ jq_T ∧ Cond.initialized (yX10_layTrialBy).cls ∈ jq_T ∧ Cond.code yX10_layTrialBy cX10_layTrialBy 6 (some .boolean) ∈ jq_T ∧ ((yX10_layTrialBy).cls ≠ "java/lang/invoke/MethodHandle" ∧ (yX10_layTrialBy).cls ≠ "java/lang/invoke/VarHandle" ∧ (parseMethodDescriptor (yX10_layTrialBy).desc).map (fun d => d.parameters.length) = some 1) := ⟨jq_in 1419 (by decide +kernel) rfl, jq_in 26 (by decide +kernel) rfl, jq_in 135 (by decide +kernel) rfl, jq_in 1420 (by decide +kernel) rfl, ⟨by decide, by decide, by decide +kernel⟩⟩
theorem ml_RX10_422 : jq_vl RX10 422 yX10_layTrialBy cX10_layTrialBy 6 (some .boolean) 1 := ⟨jq_in 1417 (by decide +kernel) rfl, yf_X10_layTrialBy⟩
theorem fl_RX3_65 : jq_fl RX3 65 4 9 6 true := ⟨RX7, TX7, tyX7, cls_X7, by decide, jq_in 302 (by decide +kernel) rfl, by decide⟩
theorem fl_RX3_54 : jq_fl RX3 54 4 9 3 true := ⟨RX7, TX7, tyX7, cls_X7, by decide, jq_in 294 (by decide +kernel) rfl, by decide⟩
theorem fl_RX3_9 : jq_fl RX3 9 2 8 7 true := ⟨RX3, TX3, tyX3, cls_X3, by decide, jq_in 491 (by decide +kernel) rfl, by decide⟩
theorem fl_RX3_43 : jq_fl RX3 43 1 21 19 true := ⟨RX1, TX1, tyX1, cls_X1, by decide, jq_in 394 (by decide +kernel) rfl, by decide⟩
theorem fl_RX3_74 : jq_fl RX3 74 4 9 5 true := ⟨RX7, TX7, tyX7, cls_X7, by decide, jq_in 299 (by decide +kernel) rfl, by decide⟩
theorem fl_RX3_68 : jq_fl RX3 68 4 9 4 true := ⟨RX7, TX7, tyX7, cls_X7, by decide, jq_in 296 (by decide +kernel) rfl, by decide⟩
theorem fl_RX3_77 : jq_fl RX3 77 1 21 9 true := ⟨RX1, TX1, tyX1, cls_X1, by decide, jq_in 360 (by decide +kernel) rfl, by decide⟩
theorem ml_RX3_80 : jq_vl RX3 80 yX1_doesSign cX1_doesSign 3 (some .boolean) 2 := ⟨jq_in 1440 (by decide +kernel) rfl, yf_X1_doesSign⟩
theorem ml_RX3_84 : jq_vl RX3 84 yX1_isAgreed cX1_isAgreed 2 (some .boolean) 1 := ⟨jq_in 1441 (by decide +kernel) rfl, yf_X1_isAgreed⟩
theorem ml_RX3_88 : jq_vl RX3 88 yX1_worthOfAll cX1_worthOfAll 4 (some .int) 1 := ⟨jq_in 1442 (by decide +kernel) rfl, yf_X1_worthOfAll⟩
theorem fl_RX3_120 : jq_fl RX3 120 1 21 6 false := ⟨RX1, TX1, tyX1, cls_X1, by decide, jq_in 352 (by decide +kernel) rfl, by decide⟩
theorem fl_RX3_19 : jq_fl RX3 19 2 8 2 false := ⟨RX3, TX3, tyX3, cls_X3, by decide, jq_in 486 (by decide +kernel) rfl, by decide⟩
theorem fl_RX3_22 : jq_fl RX3 22 2 8 3 false := ⟨RX3, TX3, tyX3, cls_X3, by decide, jq_in 487 (by decide +kernel) rfl, by decide⟩
theorem ml_RX3_123 : jq_vl RX3 123 yX1_passDays cX1_passDays 4 (some .int) 1 := ⟨jq_in 1455 (by decide +kernel) rfl, yf_X1_passDays⟩
theorem ml_RX3_127 : jq_vl RX3 127 yX1_agreeOn cX1_agreeOn 2 (some .boolean) 1 := ⟨jq_in 1460 (by decide +kernel) rfl, yf_X1_agreeOn⟩
theorem ml_RX3_32 : jq_nl RX3 32 yX10_asNumber "StandTable" cX10_asNumber 1 (some .int) 1 := ⟨jq_inN 1461 (by decide +kernel) rfl, yf_X10_asNumber⟩
theorem ml_RX3_130 : jq_vl RX3 130 yX1_letFall cX1_letFall 4 (some .int) 1 := ⟨jq_in 1466 (by decide +kernel) rfl, yf_X1_letFall⟩
theorem fl_RX3_25 : jq_fl RX3 25 2 8 4 false := ⟨RX3, TX3, tyX3, cls_X3, by decide, jq_in 488 (by decide +kernel) rfl, by decide⟩
theorem fl_RX3_39 : jq_fl RX3 39 2 8 6 false := ⟨RX3, TX3, tyX3, cls_X3, by decide, jq_in 490 (by decide +kernel) rfl, by decide⟩
theorem kc_RX3_142 : Cond.constant RX3 142 (Int32.ofInt (65536)) ∈ jq_T := jq_in 1475 (by decide +kernel) rfl
theorem fl_RX3_133 : jq_fl RX3 133 1 21 2 false := ⟨RX1, TX1, tyX1, cls_X1, by decide, jq_in 339 (by decide +kernel) rfl, by decide⟩
theorem yf_X3_draw : Cond.instanceMethod yX3_draw ∈ jq_T ∧ Cond.selects (yX3_draw).cls yX3_draw yX3_draw ∈ jq_T ∧ Cond.initialized (yX3_draw).cls ∈ jq_T ∧ Cond.code yX3_draw cX3_draw 2 (some .int) ∈ jq_T ∧ ((yX3_draw).cls ≠ "java/lang/invoke/MethodHandle" ∧ (yX3_draw).cls ≠ "java/lang/invoke/VarHandle" ∧ (parseMethodDescriptor (yX3_draw).desc).map (fun d => d.parameters.length) = some 1) := ⟨jq_in 1473 (by decide +kernel) rfl, jq_in 34 (by decide +kernel) rfl, jq_in 145 (by decide +kernel) rfl, jq_in 1474 (by decide +kernel) rfl, ⟨by decide, by decide, by decide +kernel⟩⟩
theorem ml_RX3_136 : jq_vl RX3 136 yX3_draw cX3_draw 2 (some .int) 1 := ⟨jq_in 1471 (by decide +kernel) rfl, yf_X3_draw⟩
theorem fl_RX3_139 : jq_fl RX3 139 1 21 0 false := ⟨RX1, TX1, tyX1, cls_X1, by decide, jq_in 331 (by decide +kernel) rfl, by decide⟩
theorem ml_RX3_92 : jq_vl RX3 92 yX1_seatOne cX1_seatOne 4 (some .boolean) 2 := ⟨jq_in 1447 (by decide +kernel) rfl, yf_X1_seatOne⟩
theorem ml_RX3_96 : jq_vl RX3 96 yX1_raiseOne cX1_raiseOne 3 (some .boolean) 1 := ⟨jq_in 1448 (by decide +kernel) rfl, yf_X1_raiseOne⟩
theorem ml_RX3_99 : jq_vl RX3 99 yX1_swapTwo cX1_swapTwo 5 (some .boolean) 3 := ⟨jq_in 1449 (by decide +kernel) rfl, yf_X1_swapTwo⟩
theorem ml_RX3_103 : jq_vl RX3 103 yX1_turnAll cX1_turnAll 4 none 2 := ⟨jq_in 1450 (by decide +kernel) rfl, yf_X1_turnAll⟩
theorem yf_X3_spend : Cond.instanceMethod yX3_spend ∈ jq_T ∧ Cond.selects (yX3_spend).cls yX3_spend yX3_spend ∈ jq_T ∧ Cond.initialized (yX3_spend).cls ∈ jq_T ∧ Cond.code yX3_spend cX3_spend 3 (some .boolean) ∈ jq_T ∧ ((yX3_spend).cls ≠ "java/lang/invoke/MethodHandle" ∧ (yX3_spend).cls ≠ "java/lang/invoke/VarHandle" ∧ (parseMethodDescriptor (yX3_spend).desc).map (fun d => d.parameters.length) = some 2) := ⟨jq_in 1453 (by decide +kernel) rfl, jq_in 30 (by decide +kernel) rfl, jq_in 145 (by decide +kernel) rfl, jq_in 1454 (by decide +kernel) rfl, ⟨by decide, by decide, by decide +kernel⟩⟩
theorem ml_RX3_107 : jq_vl RX3 107 yX3_spend cX3_spend 3 (some .boolean) 2 := ⟨jq_in 1451 (by decide +kernel) rfl, yf_X3_spend⟩
theorem yf_X3_agreeTo : Cond.instanceMethod yX3_agreeTo ∈ jq_T ∧ Cond.selects (yX3_agreeTo).cls yX3_agreeTo yX3_agreeTo ∈ jq_T ∧ Cond.initialized (yX3_agreeTo).cls ∈ jq_T ∧ Cond.code yX3_agreeTo cX3_agreeTo 4 (some .boolean) ∈ jq_T ∧ ((yX3_agreeTo).cls ≠ "java/lang/invoke/MethodHandle" ∧ (yX3_agreeTo).cls ≠ "java/lang/invoke/VarHandle" ∧ (parseMethodDescriptor (yX3_agreeTo).desc).map (fun d => d.parameters.length) = some 2) := ⟨jq_in 1458 (by decide +kernel) rfl, jq_in 31 (by decide +kernel) rfl, jq_in 145 (by decide +kernel) rfl, jq_in 1459 (by decide +kernel) rfl, ⟨by decide, by decide, by decide +kernel⟩⟩
theorem ml_RX3_110 : jq_vl RX3 110 yX3_agreeTo cX3_agreeTo 4 (some .boolean) 2 := ⟨jq_in 1456 (by decide +kernel) rfl, yf_X3_agreeTo⟩
theorem yf_X3_letGo : Cond.instanceMethod yX3_letGo ∈ jq_T ∧ Cond.selects (yX3_letGo).cls yX3_letGo yX3_letGo ∈ jq_T ∧ Cond.initialized (yX3_letGo).cls ∈ jq_T ∧ Cond.code yX3_letGo cX3_letGo 4 (some .boolean) ∈ jq_T ∧ ((yX3_letGo).cls ≠ "java/lang/invoke/MethodHandle" ∧ (yX3_letGo).cls ≠ "java/lang/invoke/VarHandle" ∧ (parseMethodDescriptor (yX3_letGo).desc).map (fun d => d.parameters.length) = some 2) := ⟨jq_in 1464 (by decide +kernel) rfl, jq_in 32 (by decide +kernel) rfl, jq_in 145 (by decide +kernel) rfl, jq_in 1465 (by decide +kernel) rfl, ⟨by decide, by decide, by decide +kernel⟩⟩
theorem ml_RX3_113 : jq_vl RX3 113 yX3_letGo cX3_letGo 4 (some .boolean) 2 := ⟨jq_in 1462 (by decide +kernel) rfl, yf_X3_letGo⟩
theorem yf_X3_seatAny : Cond.instanceMethod yX3_seatAny ∈ jq_T ∧ Cond.selects (yX3_seatAny).cls yX3_seatAny yX3_seatAny ∈ jq_T ∧ Cond.initialized (yX3_seatAny).cls ∈ jq_T ∧ Cond.code yX3_seatAny cX3_seatAny 4 (some .boolean) ∈ jq_T ∧ ((yX3_seatAny).cls ≠ "java/lang/invoke/MethodHandle" ∧ (yX3_seatAny).cls ≠ "java/lang/invoke/VarHandle" ∧ (parseMethodDescriptor (yX3_seatAny).desc).map (fun d => d.parameters.length) = some 1) := ⟨jq_in 1469 (by decide +kernel) rfl, jq_in 33 (by decide +kernel) rfl, jq_in 145 (by decide +kernel) rfl, jq_in 1470 (by decide +kernel) rfl, ⟨by decide, by decide, by decide +kernel⟩⟩
theorem ml_RX3_116 : jq_vl RX3 116 yX3_seatAny cX3_seatAny 4 (some .boolean) 1 := ⟨jq_in 1467 (by decide +kernel) rfl, yf_X3_seatAny⟩
theorem fl_RX3_36 : jq_fl RX3 36 2 8 0 false := ⟨RX3, TX3, tyX3, cls_X3, by decide, jq_in 483 (by decide +kernel) rfl, by decide⟩
theorem fl_RX3_15 : jq_fl RX3 15 2 8 1 false := ⟨RX3, TX3, tyX3, cls_X3, by decide, jq_in 485 (by decide +kernel) rfl, by decide⟩
theorem fl_RX3_28 : jq_fl RX3 28 2 8 5 false := ⟨RX3, TX3, tyX3, cls_X3, by decide, jq_in 489 (by decide +kernel) rfl, by decide⟩
theorem kc_RX3_42 : Cond.constant RX3 42 (Int32.ofInt (1000000)) ∈ jq_T := jq_in 1431 (by decide +kernel) rfl
theorem fl_RX3_49 : jq_fl RX3 49 4 9 2 false := ⟨RX7, TX7, tyX7, cls_X7, by decide, jq_in 291 (by decide +kernel) rfl, by decide⟩
theorem yf_X3_isSo : Cond.instanceMethod yX3_isSo ∈ jq_T ∧ Cond.selects (yX3_isSo).cls yX3_isSo yX3_isSo ∈ jq_T ∧ Cond.initialized (yX3_isSo).cls ∈ jq_T ∧ Cond.code yX3_isSo cX3_isSo 4 (some .boolean) ∈ jq_T ∧ ((yX3_isSo).cls ≠ "java/lang/invoke/MethodHandle" ∧ (yX3_isSo).cls ≠ "java/lang/invoke/VarHandle" ∧ (parseMethodDescriptor (yX3_isSo).desc).map (fun d => d.parameters.length) = some 2) := ⟨jq_in 1438 (by decide +kernel) rfl, jq_in 28 (by decide +kernel) rfl, jq_in 145 (by decide +kernel) rfl, jq_in 1439 (by decide +kernel) rfl, ⟨by decide, by decide, by decide +kernel⟩⟩
theorem ml_RX3_61 : jq_vl RX3 61 yX3_isSo cX3_isSo 4 (some .boolean) 2 := ⟨jq_in 1436 (by decide +kernel) rfl, yf_X3_isSo⟩
theorem yf_X3_act : Cond.instanceMethod yX3_act ∈ jq_T ∧ Cond.selects (yX3_act).cls yX3_act yX3_act ∈ jq_T ∧ Cond.initialized (yX3_act).cls ∈ jq_T ∧ Cond.code yX3_act cX3_act 5 (some .boolean) ∈ jq_T ∧ ((yX3_act).cls ≠ "java/lang/invoke/MethodHandle" ∧ (yX3_act).cls ≠ "java/lang/invoke/VarHandle" ∧ (parseMethodDescriptor (yX3_act).desc).map (fun d => d.parameters.length) = some 2) := ⟨jq_in 1445 (by decide +kernel) rfl, jq_in 29 (by decide +kernel) rfl, jq_in 145 (by decide +kernel) rfl, jq_in 1446 (by decide +kernel) rfl, ⟨by decide, by decide, by decide +kernel⟩⟩
theorem ml_RX3_71 : jq_vl RX3 71 yX3_act cX3_act 5 (some .boolean) 2 := ⟨jq_in 1443 (by decide +kernel) rfl, yf_X3_act⟩
theorem yf_X3_behindEnd : Cond.instanceMethod yX3_behindEnd ∈ jq_T ∧ Cond.selects (yX3_behindEnd).cls yX3_behindEnd yX3_behindEnd ∈ jq_T ∧ Cond.initialized (yX3_behindEnd).cls ∈ jq_T ∧ Cond.code yX3_behindEnd cX3_behindEnd 4 (some .int) ∈ jq_T ∧ ((yX3_behindEnd).cls ≠ "java/lang/invoke/MethodHandle" ∧ (yX3_behindEnd).cls ≠ "java/lang/invoke/VarHandle" ∧ (parseMethodDescriptor (yX3_behindEnd).desc).map (fun d => d.parameters.length) = some 2) := ⟨jq_in 1434 (by decide +kernel) rfl, jq_in 27 (by decide +kernel) rfl, jq_in 145 (by decide +kernel) rfl, jq_in 1435 (by decide +kernel) rfl, ⟨by decide, by decide, by decide +kernel⟩⟩
theorem ml_RX3_57 : jq_vl RX3 57 yX3_behindEnd cX3_behindEnd 4 (some .int) 2 := ⟨jq_in 1432 (by decide +kernel) rfl, yf_X3_behindEnd⟩
theorem fl_RX10_426 : jq_fl RX10 426 4 9 0 false := ⟨RX7, TX7, tyX7, cls_X7, by decide, jq_in 287 (by decide +kernel) rfl, by decide⟩
theorem fl_RX10_60 : jq_fl RX10 60 7 18 14 true := ⟨RX10, TX10, tyX10, cls_X10, by decide, jq_in 540 (by decide +kernel) rfl, by decide⟩
theorem yf_X3_run : Cond.instanceMethod yX3_run ∈ jq_T ∧ Cond.selects (yX3_run).cls yX3_run yX3_run ∈ jq_T ∧ Cond.initialized (yX3_run).cls ∈ jq_T ∧ Cond.code yX3_run cX3_run 6 none ∈ jq_T ∧ ((yX3_run).cls ≠ "java/lang/invoke/MethodHandle" ∧ (yX3_run).cls ≠ "java/lang/invoke/VarHandle" ∧ (parseMethodDescriptor (yX3_run).desc).map (fun d => d.parameters.length) = some 2) := ⟨jq_in 1428 (by decide +kernel) rfl, jq_in 1429 (by decide +kernel) rfl, jq_in 145 (by decide +kernel) rfl, jq_in 1430 (by decide +kernel) rfl, ⟨by decide, by decide, by decide +kernel⟩⟩
theorem ml_RX10_430 : jq_vl RX10 430 yX3_run cX3_run 6 none 2 := ⟨jq_in 1427 (by decide +kernel) rfl, yf_X3_run⟩
theorem fl_RX10_64 : jq_fl RX10 64 7 18 15 true := ⟨RX10, TX10, tyX10, cls_X10, by decide, jq_in 541 (by decide +kernel) rfl, by decide⟩
theorem yf_X3_tellTo : Cond.instanceMethod yX3_tellTo ∈ jq_T ∧ Cond.selects (yX3_tellTo).cls yX3_tellTo yX3_tellTo ∈ jq_T ∧ Cond.initialized (yX3_tellTo).cls ∈ jq_T ∧ Cond.code yX3_tellTo cX3_tellTo 2 none ∈ jq_T ∧ ((yX3_tellTo).cls ≠ "java/lang/invoke/MethodHandle" ∧ (yX3_tellTo).cls ≠ "java/lang/invoke/VarHandle" ∧ (parseMethodDescriptor (yX3_tellTo).desc).map (fun d => d.parameters.length) = some 1) := ⟨jq_in 1477 (by decide +kernel) rfl, jq_in 1478 (by decide +kernel) rfl, jq_in 145 (by decide +kernel) rfl, jq_in 1479 (by decide +kernel) rfl, ⟨by decide, by decide, by decide +kernel⟩⟩
theorem ml_RX10_434 : jq_vl RX10 434 yX3_tellTo cX3_tellTo 2 none 1 := ⟨jq_in 1476 (by decide +kernel) rfl, yf_X3_tellTo⟩
theorem fl_RX10_438 : jq_fl RX10 438 7 18 16 false := ⟨RX10, TX10, tyX10, cls_X10, by decide, jq_in 542 (by decide +kernel) rfl, by decide⟩
theorem fl_RX10_441 : jq_fl RX10 441 2 8 0 false := ⟨RX3, TX3, tyX3, cls_X3, by decide, jq_in 484 (by decide +kernel) rfl, by decide⟩
theorem dX10_layTrialBy_0 : decode cX10_layTrialBy 0 = .ok (.iconst 0, 1) := by decide +kernel
theorem dX10_layTrialBy_1 : decode cX10_layTrialBy 1 = .ok (.istore_n 2, 1) := by decide +kernel
theorem dX10_layTrialBy_2 : decode cX10_layTrialBy 2 = .ok (.iconst 0, 1) := by decide +kernel
theorem dX10_layTrialBy_3 : decode cX10_layTrialBy 3 = .ok (.istore_n 3, 1) := by decide +kernel
theorem dX10_layTrialBy_4 : decode cX10_layTrialBy 4 = .ok (.iload_n 3, 1) := by decide +kernel
theorem dX10_layTrialBy_5 : decode cX10_layTrialBy 5 = .ok (.aload_n 0, 1) := by decide +kernel
theorem dX10_layTrialBy_6 : decode cX10_layTrialBy 6 = .ok (.getfield 25, 3) := by decide +kernel
theorem dX10_layTrialBy_9 : decode cX10_layTrialBy 9 = .ok (.getfield 182, 3) := by decide +kernel
theorem dX10_layTrialBy_12 : decode cX10_layTrialBy 12 = .ok (.if_icmp .ge 87, 3) := by decide +kernel
theorem dX10_layTrialBy_15 : decode cX10_layTrialBy 15 = .ok (.aload_n 1, 1) := by decide +kernel
theorem dX10_layTrialBy_16 : decode cX10_layTrialBy 16 = .ok (.getfield 123, 3) := by decide +kernel
theorem dX10_layTrialBy_19 : decode cX10_layTrialBy 19 = .ok (.iload_n 3, 1) := by decide +kernel
theorem dX10_layTrialBy_20 : decode cX10_layTrialBy 20 = .ok (.laload, 1) := by decide +kernel
theorem dX10_layTrialBy_21 : decode cX10_layTrialBy 21 = .ok (.lstore 4, 2) := by decide +kernel
theorem dX10_layTrialBy_23 : decode cX10_layTrialBy 23 = .ok (.lload 4, 2) := by decide +kernel
theorem dX10_layTrialBy_25 : decode cX10_layTrialBy 25 = .ok (.ldc2_w 451, 3) := by decide +kernel
theorem dX10_layTrialBy_28 : decode cX10_layTrialBy 28 = .ok (.lcmp, 1) := by decide +kernel
theorem dX10_layTrialBy_29 : decode cX10_layTrialBy 29 = .ok (.ifCond .lt 17, 3) := by decide +kernel
theorem dX10_layTrialBy_32 : decode cX10_layTrialBy 32 = .ok (.lload 4, 2) := by decide +kernel
theorem dX10_layTrialBy_34 : decode cX10_layTrialBy 34 = .ok (.aload_n 0, 1) := by decide +kernel
theorem dX10_layTrialBy_35 : decode cX10_layTrialBy 35 = .ok (.getfield 25, 3) := by decide +kernel
theorem dX10_layTrialBy_38 : decode cX10_layTrialBy 38 = .ok (.getfield 179, 3) := by decide +kernel
theorem dX10_layTrialBy_41 : decode cX10_layTrialBy 41 = .ok (.i2l, 1) := by decide +kernel
theorem dX10_layTrialBy_42 : decode cX10_layTrialBy 42 = .ok (.lcmp, 1) := by decide +kernel
theorem dX10_layTrialBy_43 : decode cX10_layTrialBy 43 = .ok (.ifCond .lt 5, 3) := by decide +kernel
theorem dX10_layTrialBy_46 : decode cX10_layTrialBy 46 = .ok (.iconst 0, 1) := by decide +kernel
theorem dX10_layTrialBy_47 : decode cX10_layTrialBy 47 = .ok (.ireturn, 1) := by decide +kernel
theorem dX10_layTrialBy_48 : decode cX10_layTrialBy 48 = .ok (.aload_n 0, 1) := by decide +kernel
theorem dX10_layTrialBy_49 : decode cX10_layTrialBy 49 = .ok (.getfield 68, 3) := by decide +kernel
theorem dX10_layTrialBy_52 : decode cX10_layTrialBy 52 = .ok (.iload_n 3, 1) := by decide +kernel
theorem dX10_layTrialBy_53 : decode cX10_layTrialBy 53 = .ok (.lload 4, 2) := by decide +kernel
theorem dX10_layTrialBy_55 : decode cX10_layTrialBy 55 = .ok (.l2i, 1) := by decide +kernel
theorem dX10_layTrialBy_56 : decode cX10_layTrialBy 56 = .ok (.iastore, 1) := by decide +kernel
theorem dX10_layTrialBy_57 : decode cX10_layTrialBy 57 = .ok (.aload_n 0, 1) := by decide +kernel
theorem dX10_layTrialBy_58 : decode cX10_layTrialBy 58 = .ok (.getfield 68, 3) := by decide +kernel
theorem dX10_layTrialBy_61 : decode cX10_layTrialBy 61 = .ok (.iload_n 3, 1) := by decide +kernel
theorem dX10_layTrialBy_62 : decode cX10_layTrialBy 62 = .ok (.iaload, 1) := by decide +kernel
theorem dX10_layTrialBy_63 : decode cX10_layTrialBy 63 = .ok (.iconst (-1), 1) := by decide +kernel
theorem dX10_layTrialBy_64 : decode cX10_layTrialBy 64 = .ok (.if_icmp .eq 29, 3) := by decide +kernel
theorem dX10_layTrialBy_67 : decode cX10_layTrialBy 67 = .ok (.iload_n 2, 1) := by decide +kernel
theorem dX10_layTrialBy_68 : decode cX10_layTrialBy 68 = .ok (.aload_n 0, 1) := by decide +kernel
theorem dX10_layTrialBy_69 : decode cX10_layTrialBy 69 = .ok (.getfield 68, 3) := by decide +kernel
theorem dX10_layTrialBy_72 : decode cX10_layTrialBy 72 = .ok (.iload_n 3, 1) := by decide +kernel
theorem dX10_layTrialBy_73 : decode cX10_layTrialBy 73 = .ok (.iaload, 1) := by decide +kernel
theorem dX10_layTrialBy_74 : decode cX10_layTrialBy 74 = .ok (.invokestatic 453, 3) := by decide +kernel
theorem dX10_layTrialBy_77 : decode cX10_layTrialBy 77 = .ok (.ifCond .eq 5, 3) := by decide +kernel
theorem dX10_layTrialBy_80 : decode cX10_layTrialBy 80 = .ok (.iconst 0, 1) := by decide +kernel
theorem dX10_layTrialBy_81 : decode cX10_layTrialBy 81 = .ok (.ireturn, 1) := by decide +kernel
theorem dX10_layTrialBy_82 : decode cX10_layTrialBy 82 = .ok (.iload_n 2, 1) := by decide +kernel
theorem dX10_layTrialBy_83 : decode cX10_layTrialBy 83 = .ok (.iconst 1, 1) := by decide +kernel
theorem dX10_layTrialBy_84 : decode cX10_layTrialBy 84 = .ok (.aload_n 0, 1) := by decide +kernel
theorem dX10_layTrialBy_85 : decode cX10_layTrialBy 85 = .ok (.getfield 68, 3) := by decide +kernel
theorem dX10_layTrialBy_88 : decode cX10_layTrialBy 88 = .ok (.iload_n 3, 1) := by decide +kernel
theorem dX10_layTrialBy_89 : decode cX10_layTrialBy 89 = .ok (.iaload, 1) := by decide +kernel
theorem dX10_layTrialBy_90 : decode cX10_layTrialBy 90 = .ok (.ishl, 1) := by decide +kernel
theorem dX10_layTrialBy_91 : decode cX10_layTrialBy 91 = .ok (.ior, 1) := by decide +kernel
theorem dX10_layTrialBy_92 : decode cX10_layTrialBy 92 = .ok (.istore_n 2, 1) := by decide +kernel
theorem dX10_layTrialBy_93 : decode cX10_layTrialBy 93 = .ok (.iinc 3 1, 3) := by decide +kernel
theorem dX10_layTrialBy_96 : decode cX10_layTrialBy 96 = .ok (.goto (-92), 3) := by decide +kernel
theorem dX10_layTrialBy_99 : decode cX10_layTrialBy 99 = .ok (.iconst 1, 1) := by decide +kernel
theorem dX10_layTrialBy_100 : decode cX10_layTrialBy 100 = .ok (.ireturn, 1) := by decide +kernel
set_option maxHeartbeats 4000000 in
set_option maxRecDepth 100000 in
theorem ctX10_layTrialBy {p1 : Int} {σ : jq_M} {res : Int} {σ' : jq_M} (hp1 : jq_trp p1) (h : X10_layTrialBy p1 σ = some (res, σ')) : jq_MC jq_zX yX10_layTrialBy cX10_layTrialBy 6 (some .boolean) 2 61 [jR 0, jR p1] σ (some (jI res)) σ' := by
  refine jq_met (own := RX10) (L0 := [(0, jR 0), (1, jR p1)]) (by decide) rfl rfl rfl ?_
  intro X Γ hnl hlY hRT
  refine jq_use2 (P := fun r => jq_RT jq_zX X (some .boolean) (some (jI r.1)) r.2) ?_ h hRT
  intro K0 hK0
  unfold X10_layTrialBy
  refine jq_iconst Γ dX10_layTrialBy_0 rfl ?_
  refine jq_istore_n (L' := [(2, jI 0), (0, jR 0), (1, jR p1)]) Γ dX10_layTrialBy_1 rfl hnl rfl rfl ?_
  refine jq_iconst Γ dX10_layTrialBy_2 rfl ?_
  refine jq_istore_n (L' := [(3, jI 0), (2, jI 0), (0, jR 0), (1, jR p1)]) Γ dX10_layTrialBy_3 rfl hnl rfl rfl ?_
  refine jq_sub Γ (L' := [(0, jR 0), (1, jR p1), (2, jI 0), (3, jI 0)]) [2, 3, 1, 0] rfl ?_
  refine jq_loop2 (C := fun (t1 : Int × Int × jq_M) => jq_V jq_zX X (jq_zN jq_zX) t1.2.2 4 [(0, jR 0), (1, jR p1), (2, jI t1.1), (3, jI t1.2.1)] []) (KX := Sum.elim (fun (e16 : jq_M) => jq_V jq_zX X (jq_zN jq_zX) e16 46 [] []) (Sum.elim (fun (e17 : jq_M) => jq_V jq_zX X (jq_zN jq_zX) e17 80 [] []) (fun (e18 : jq_M) => jq_V jq_zX X (jq_zN jq_zX) e18 99 [] []))) ?_ ?_ (0, 0, σ)
  · intro K4_t1 hCt1 hXt1 t1
    unfold X10_layTrialBy_b4
    refine jq_iload_n Γ dX10_layTrialBy_4 rfl 3 rfl ?_
    refine jq_aload_n Γ dX10_layTrialBy_5 rfl 0 rfl (jq_at_0 at_X_0) ?_
    refine jq_getC (C := jq_cm2) Γ hlY at_X_0 fl_RX10_25 rfl rfl ly_now dX10_layTrialBy_6 (fun c2 hc3q => ?_)
    have hc3 := jq_cm2_com hc3q
    refine jq_getI (J := 2) Γ (at_com hc3) fl_RX10_182 rfl rfl dX10_layTrialBy_9 ?_
    refine jq_icmp_ge (tgt := 99) Γ dX10_layTrialBy_12 rfl ?_ ?_
    · refine jq_sub Γ (L' := []) [] rfl ?_
      exact jq_done (hXt1 (.inr (.inr t1.2.2)))
    · refine jq_aload_n Γ dX10_layTrialBy_15 rfl 1 rfl (jq_at_0 (at_trp hp1)) ?_
      refine jq_getR (v := (p1 + 1)) Γ hlY (at_trp hp1) fl_RX10_123 rfl rfl (ly_X9_row hp1) dX10_layTrialBy_16 ?_
      refine jq_iload_n Γ dX10_layTrialBy_19 rfl 3 rfl ?_
      refine jq_lald Γ (at_trp_1 hp1) rfl dX10_layTrialBy_20 (fun v4 => ?_)
      refine jq_lstore (L' := [(4, jL v4), (0, jR 0), (1, jR p1), (2, jI t1.1), (3, jI t1.2.1)]) Γ dX10_layTrialBy_21 hnl rfl rfl ?_
      refine jq_lload Γ dX10_layTrialBy_23 0 rfl ?_
      refine jq_ldc2 Γ (-1) dX10_layTrialBy_25 kc_RX10_451 rfl ?_
      refine jq_lcmp Γ dX10_layTrialBy_28 ?_
      refine jq_if_lt (tgt := 46) Γ dX10_layTrialBy_29 rfl ?_ ?_
      · refine jq_sub Γ (L' := []) [] rfl ?_
        exact jq_done (hXt1 (.inl t1.2.2))
      · refine jq_lload Γ dX10_layTrialBy_32 0 rfl ?_
        refine jq_aload_n Γ dX10_layTrialBy_34 rfl 1 rfl (jq_at_0 at_X_0) ?_
        refine jq_getC (C := jq_cm2) Γ hlY at_X_0 fl_RX10_25 rfl rfl ly_now dX10_layTrialBy_35 (fun c5 hc6q => ?_)
        have hc6 := jq_cm2_com hc6q
        refine jq_getI (J := 0) Γ (at_com hc6) fl_RX10_179 rfl rfl dX10_layTrialBy_38 ?_
        refine jq_i2l Γ dX10_layTrialBy_41 ?_
        refine jq_lcmp Γ dX10_layTrialBy_42 ?_
        refine jq_if_lt (tgt := 48) Γ dX10_layTrialBy_43 rfl ?_ ?_
        · refine jq_aload_n Γ dX10_layTrialBy_48 rfl 1 rfl (jq_at_0 at_X_0) ?_
          refine jq_getR (v := 63) Γ hlY at_X_0 fl_RX10_68 rfl rfl ly_X10_trial dX10_layTrialBy_49 ?_
          refine jq_iload_n Γ dX10_layTrialBy_52 rfl 4 rfl ?_
          refine jq_lload Γ dX10_layTrialBy_53 0 rfl ?_
          refine jq_l2i Γ dX10_layTrialBy_55 ?_
          refine jq_iast Γ at_X_63 rfl dX10_layTrialBy_56 (fun s7 => ?_)
          refine jq_aload_n Γ dX10_layTrialBy_57 rfl 1 rfl (jq_at_0 at_X_0) ?_
          refine jq_getR (v := 63) Γ hlY at_X_0 fl_RX10_68 rfl rfl ly_X10_trial dX10_layTrialBy_58 ?_
          refine jq_iload_n Γ dX10_layTrialBy_61 rfl 4 rfl ?_
          refine jq_iald Γ at_X_63 rfl dX10_layTrialBy_62 (fun v8 => ?_)
          refine jq_iconst Γ dX10_layTrialBy_63 rfl ?_
          refine jq_icmp_eq (tgt := 93) Γ dX10_layTrialBy_64 rfl ?_ ?_
          · refine jq_iincN (L' := fun v9 => [(3, jI v9), (4, jL v4), (0, jR 0), (1, jR p1), (2, jI t1.1)]) Γ dX10_layTrialBy_93 4 rfl hnl rfl (fun _ => rfl) (fun v9 => ?_)
            refine jq_goto Γ (tgt := 4) dX10_layTrialBy_96 rfl ?_
            refine jq_sub Γ (L' := [(0, jR 0), (1, jR p1), (2, jI t1.1), (3, jI v9)]) [2, 3, 4, 0] rfl ?_
            exact jq_done (hCt1 (t1.1, v9, s7))
          · refine jq_iload_n Γ dX10_layTrialBy_67 rfl 3 rfl ?_
            refine jq_aload_n Γ dX10_layTrialBy_68 rfl 1 rfl (jq_at_0 at_X_0) ?_
            refine jq_getR (v := 63) Γ hlY at_X_0 fl_RX10_68 rfl rfl ly_X10_trial dX10_layTrialBy_69 ?_
            refine jq_iload_n Γ dX10_layTrialBy_72 rfl 4 rfl ?_
            refine jq_iald Γ at_X_63 rfl dX10_layTrialBy_73 (fun v10 => ?_)
            refine jq_cpZ (jq_stat (avs := [jI t1.1, jI v10]) (st := []) Γ hlY rfl ml_RX10_453 rfl rfl rfl rfl rfl dX10_layTrialBy_74) rfl (fun r h => ctX10_holds h) (fun v11 hz12 => ?_)
            refine jq_if_eq (tgt := 82) Γ dX10_layTrialBy_77 rfl ?_ ?_
            · refine jq_iload_n Γ dX10_layTrialBy_82 rfl 3 rfl ?_
              refine jq_iconst Γ dX10_layTrialBy_83 rfl ?_
              refine jq_aload_n Γ dX10_layTrialBy_84 rfl 1 rfl (jq_at_0 at_X_0) ?_
              refine jq_getR (v := 63) Γ hlY at_X_0 fl_RX10_68 rfl rfl ly_X10_trial dX10_layTrialBy_85 ?_
              refine jq_iload_n Γ dX10_layTrialBy_88 rfl 4 rfl ?_
              refine jq_iald Γ at_X_63 rfl dX10_layTrialBy_89 (fun v13 => ?_)
              refine jq_ishl Γ dX10_layTrialBy_90 ?_
              refine jq_ior Γ dX10_layTrialBy_91 ?_
              refine jq_nmI (fun v14 => ?_)
              refine jq_istore_n (L' := [(2, jI v14), (4, jL v4), (0, jR 0), (1, jR p1), (3, jI t1.2.1)]) Γ dX10_layTrialBy_92 rfl hnl rfl rfl ?_
              refine jq_iincN (L' := fun v15 => [(3, jI v15), (2, jI v14), (4, jL v4), (0, jR 0), (1, jR p1)]) Γ dX10_layTrialBy_93 4 rfl hnl rfl (fun _ => rfl) (fun v15 => ?_)
              refine jq_goto Γ (tgt := 4) dX10_layTrialBy_96 rfl ?_
              refine jq_sub Γ (L' := [(0, jR 0), (1, jR p1), (2, jI v14), (3, jI v15)]) [3, 4, 1, 0] rfl ?_
              exact jq_done (hCt1 (v14, v15, s7))
            · refine jq_sub Γ (L' := []) [] rfl ?_
              exact jq_done (hXt1 (.inr (.inl s7)))
        · refine jq_sub Γ (L' := []) [] rfl ?_
          exact jq_done (hXt1 (.inl t1.2.2))
  · refine jq_elim ?_ ?_
    · intro e16
      refine jq_iconst Γ dX10_layTrialBy_46 rfl ?_
      exact jq_zreturn Γ (Or.inl rfl) dX10_layTrialBy_47 (hK0 _)
    · refine jq_elim ?_ ?_
      · intro e17
        refine jq_iconst Γ dX10_layTrialBy_80 rfl ?_
        exact jq_zreturn Γ (Or.inl rfl) dX10_layTrialBy_81 (hK0 _)
      · intro e18
        refine jq_iconst Γ dX10_layTrialBy_99 rfl ?_
        exact jq_zreturn Γ (Or.inr rfl) dX10_layTrialBy_100 (hK0 _)


theorem dX10_seatBy_0 : decode cX10_seatBy 0 = .ok (.aload_n 0, 1) := by decide +kernel
theorem dX10_seatBy_1 : decode cX10_seatBy 1 = .ok (.iload_n 1, 1) := by decide +kernel
theorem dX10_seatBy_2 : decode cX10_seatBy 2 = .ok (.invokevirtual 419, 3) := by decide +kernel
theorem dX10_seatBy_5 : decode cX10_seatBy 5 = .ok (.istore_n 2, 1) := by decide +kernel
theorem dX10_seatBy_6 : decode cX10_seatBy 6 = .ok (.iload_n 2, 1) := by decide +kernel
theorem dX10_seatBy_7 : decode cX10_seatBy 7 = .ok (.ifCond .eq 9, 3) := by decide +kernel
theorem dX10_seatBy_10 : decode cX10_seatBy 10 = .ok (.aload_n 0, 1) := by decide +kernel
theorem dX10_seatBy_11 : decode cX10_seatBy 11 = .ok (.iload_n 2, 1) := by decide +kernel
theorem dX10_seatBy_12 : decode cX10_seatBy 12 = .ok (.invokevirtual 120, 3) := by decide +kernel
theorem dX10_seatBy_15 : decode cX10_seatBy 15 = .ok (.ireturn, 1) := by decide +kernel
theorem dX10_seatBy_16 : decode cX10_seatBy 16 = .ok (.aload_n 0, 1) := by decide +kernel
theorem dX10_seatBy_17 : decode cX10_seatBy 17 = .ok (.aload_n 0, 1) := by decide +kernel
theorem dX10_seatBy_18 : decode cX10_seatBy 18 = .ok (.getfield 11, 3) := by decide +kernel
theorem dX10_seatBy_21 : decode cX10_seatBy 21 = .ok (.iload_n 1, 1) := by decide +kernel
theorem dX10_seatBy_22 : decode cX10_seatBy 22 = .ok (.aaload, 1) := by decide +kernel
theorem dX10_seatBy_23 : decode cX10_seatBy 23 = .ok (.invokevirtual 422, 3) := by decide +kernel
theorem dX10_seatBy_26 : decode cX10_seatBy 26 = .ok (.ifCond .ne 9, 3) := by decide +kernel
theorem dX10_seatBy_29 : decode cX10_seatBy 29 = .ok (.aload_n 0, 1) := by decide +kernel
theorem dX10_seatBy_30 : decode cX10_seatBy 30 = .ok (.iconst 5, 1) := by decide +kernel
theorem dX10_seatBy_31 : decode cX10_seatBy 31 = .ok (.invokevirtual 120, 3) := by decide +kernel
theorem dX10_seatBy_34 : decode cX10_seatBy 34 = .ok (.ireturn, 1) := by decide +kernel
theorem dX10_seatBy_35 : decode cX10_seatBy 35 = .ok (.aload_n 0, 1) := by decide +kernel
theorem dX10_seatBy_36 : decode cX10_seatBy 36 = .ok (.getfield 68, 3) := by decide +kernel
theorem dX10_seatBy_39 : decode cX10_seatBy 39 = .ok (.iconst 0, 1) := by decide +kernel
theorem dX10_seatBy_40 : decode cX10_seatBy 40 = .ok (.aload_n 0, 1) := by decide +kernel
theorem dX10_seatBy_41 : decode cX10_seatBy 41 = .ok (.getfield 25, 3) := by decide +kernel
theorem dX10_seatBy_44 : decode cX10_seatBy 44 = .ok (.getfield 194, 3) := by decide +kernel
theorem dX10_seatBy_47 : decode cX10_seatBy 47 = .ok (.iconst 0, 1) := by decide +kernel
theorem dX10_seatBy_48 : decode cX10_seatBy 48 = .ok (.aload_n 0, 1) := by decide +kernel
theorem dX10_seatBy_49 : decode cX10_seatBy 49 = .ok (.getfield 25, 3) := by decide +kernel
theorem dX10_seatBy_52 : decode cX10_seatBy 52 = .ok (.getfield 182, 3) := by decide +kernel
theorem dX10_seatBy_55 : decode cX10_seatBy 55 = .ok (.invokestatic 133, 3) := by decide +kernel
theorem dX10_seatBy_58 : decode cX10_seatBy 58 = .ok (.aload_n 0, 1) := by decide +kernel
theorem dX10_seatBy_59 : decode cX10_seatBy 59 = .ok (.aload_n 0, 1) := by decide +kernel
theorem dX10_seatBy_60 : decode cX10_seatBy 60 = .ok (.getfield 25, 3) := by decide +kernel
theorem dX10_seatBy_63 : decode cX10_seatBy 63 = .ok (.aload_n 0, 1) := by decide +kernel
theorem dX10_seatBy_64 : decode cX10_seatBy 64 = .ok (.getfield 25, 3) := by decide +kernel
theorem dX10_seatBy_67 : decode cX10_seatBy 67 = .ok (.getfield 194, 3) := by decide +kernel
theorem dX10_seatBy_70 : decode cX10_seatBy 70 = .ok (.invokevirtual 201, 3) := by decide +kernel
theorem dX10_seatBy_73 : decode cX10_seatBy 73 = .ok (.invokevirtual 161, 3) := by decide +kernel
theorem dX10_seatBy_76 : decode cX10_seatBy 76 = .ok (.ireturn, 1) := by decide +kernel
set_option maxHeartbeats 4000000 in
set_option maxRecDepth 100000 in
theorem ctX10_seatBy {p1 : Int} {σ : jq_M} {res : Int} {σ' : jq_M}  (h : X10_seatBy p1 σ = some (res, σ')) : jq_MC jq_zX yX10_seatBy cX10_seatBy 3 (some .int) 5 132 [jR 0, jI p1] σ (some (jI res)) σ' := by
  refine jq_met (own := RX10) (L0 := [(0, jR 0), (1, jI p1)]) (by decide) rfl rfl rfl ?_
  intro X Γ hnl hlY hRT
  refine jq_use2 (P := fun r => jq_RT jq_zX X (some .int) (some (jI r.1)) r.2) ?_ h hRT
  intro K0 hK0
  unfold X10_seatBy
  refine jq_aload_n Γ dX10_seatBy_0 rfl 0 rfl (jq_at_0 at_X_0) ?_
  refine jq_iload_n Γ dX10_seatBy_1 rfl 1 rfl ?_
  refine jq_cpI (jq_virt (avs := [jI p1]) (st := []) Γ hlY rfl ml_RX10_419 rfl at_X_0 rfl rfl rfl rfl rfl dX10_seatBy_2) (fun r h => ctX10_whyNoSeatsIn h) (fun v1 => ?_)
  refine jq_istore_n (L' := [(2, jI v1), (0, jR 0), (1, jI p1)]) Γ dX10_seatBy_5 rfl hnl rfl rfl ?_
  refine jq_iload_n Γ dX10_seatBy_6 rfl 0 rfl ?_
  refine jq_if_eq (tgt := 16) Γ dX10_seatBy_7 rfl ?_ ?_
  · refine jq_aload_n Γ dX10_seatBy_16 rfl 1 rfl (jq_at_0 at_X_0) ?_
    refine jq_aload_n Γ dX10_seatBy_17 rfl 1 rfl (jq_at_0 at_X_0) ?_
    refine jq_getR (v := 1) Γ hlY at_X_0 fl_RX10_11 rfl rfl ly_X10_trays dX10_seatBy_18 ?_
    refine jq_iload_n Γ dX10_seatBy_21 rfl 2 rfl ?_
    refine jq_aald3 Γ hlY at_X_1 rfl (fun i => 64 + 2 * i) ly_trays_at dX10_seatBy_22 (fun i2 ha3 hb4 => ?_)
    refine jq_cwZ (jq_virt (avs := [jR (64 + 2 * i2)]) (st := []) Γ hlY rfl ml_RX10_422 rfl at_X_0 rfl rfl rfl rfl rfl dX10_seatBy_23) rfl (fun r σ' h => ctX10_layTrialBy (trp_i ha3 hb4) h) (fun v5 s6 hz7 => ?_)
    refine jq_if_ne (tgt := 35) Γ dX10_seatBy_26 rfl ?_ ?_
    · refine jq_aload_n Γ dX10_seatBy_35 rfl 1 rfl (jq_at_0 at_X_0) ?_
      refine jq_getR (v := 63) Γ hlY at_X_0 fl_RX10_68 rfl rfl ly_X10_trial dX10_seatBy_36 ?_
      refine jq_iconst Γ dX10_seatBy_39 rfl ?_
      refine jq_aload_n Γ dX10_seatBy_40 rfl 1 rfl (jq_at_0 at_X_0) ?_
      refine jq_getC (C := jq_cm2) Γ hlY at_X_0 fl_RX10_25 rfl rfl ly_now dX10_seatBy_41 (fun c8 hc9q => ?_)
      have hc9 := jq_cm2_com hc9q
      refine jq_getR (v := (c8 + 3)) Γ hlY (at_com hc9) fl_RX10_194 rfl rfl (ly_X1_seats hc9) dX10_seatBy_44 ?_
      refine jq_iconst Γ dX10_seatBy_47 rfl ?_
      refine jq_aload_n Γ dX10_seatBy_48 rfl 1 rfl (jq_at_0 at_X_0) ?_
      refine jq_getC (C := jq_cm2) Γ hlY at_X_0 fl_RX10_25 rfl rfl ly_now dX10_seatBy_49 (fun c10 hc11q => ?_)
      have hc11 := jq_cm2_com hc11q
      refine jq_getI (J := 2) Γ (at_com hc11) fl_RX10_182 rfl rfl dX10_seatBy_52 ?_
      refine jq_copyi Γ at_X_63 (at_com_3 hc9) rfl rfl rfl aw_RX10_133 awn aws awi rfl rfl dX10_seatBy_55 (fun s12 => ?_)
      refine jq_aload_n Γ dX10_seatBy_58 rfl 1 rfl (jq_at_0 at_X_0) ?_
      refine jq_aload_n Γ dX10_seatBy_59 rfl 1 rfl (jq_at_0 at_X_0) ?_
      refine jq_getC (C := jq_cm2) Γ hlY at_X_0 fl_RX10_25 rfl rfl ly_now dX10_seatBy_60 (fun c13 hc14q => ?_)
      have hc14 := jq_cm2_com hc14q
      refine jq_aload_n Γ dX10_seatBy_63 rfl 1 rfl (jq_at_0 at_X_0) ?_
      refine jq_getC (C := jq_cm2) Γ hlY at_X_0 fl_RX10_25 rfl rfl ly_now dX10_seatBy_64 (fun c15 hc16q => ?_)
      have hc16 := jq_cm2_com hc16q
      refine jq_getR (v := (c15 + 3)) Γ hlY (at_com hc16) fl_RX10_194 rfl rfl (ly_X1_seats hc16) dX10_seatBy_67 ?_
      refine jq_cwI (jq_virt (avs := [jR (c15 + 3)]) (st := [jR 0]) Γ hlY rfl ml_RX10_201 rfl (at_com hc14) rfl rfl rfl rfl rfl dX10_seatBy_70) (fun r σ' h => ctX1_signersOf hc14 (row_com hc16) h) (fun v17 s18 => ?_)
      refine jq_cwI (jq_virt (avs := [jI v17]) (st := []) Γ hlY rfl ml_RX10_161 rfl at_X_0 rfl rfl rfl rfl rfl dX10_seatBy_73) (fun r σ' h => ctX10_answer h) (fun v19 s20 => ?_)
      exact jq_ireturn Γ dX10_seatBy_76 (hK0 _)
    · refine jq_aload_n Γ dX10_seatBy_29 rfl 1 rfl (jq_at_0 at_X_0) ?_
      refine jq_iconst Γ dX10_seatBy_30 rfl ?_
      refine jq_cwI (jq_virt (avs := [jI 5]) (st := []) Γ hlY rfl ml_RX10_120 rfl at_X_0 rfl rfl rfl rfl rfl dX10_seatBy_31) (fun r σ' h => ctX10_refuse h) (fun v21 s22 => ?_)
      exact jq_ireturn Γ dX10_seatBy_34 (hK0 _)
  · refine jq_aload_n Γ dX10_seatBy_10 rfl 1 rfl (jq_at_0 at_X_0) ?_
    refine jq_iload_n Γ dX10_seatBy_11 rfl 0 rfl ?_
    refine jq_cwI (jq_virt (avs := [jI v1]) (st := []) Γ hlY rfl ml_RX10_120 rfl at_X_0 rfl rfl rfl rfl rfl dX10_seatBy_12) (fun r σ' h => ctX10_refuse h) (fun v23 s24 => ?_)
    exact jq_ireturn Γ dX10_seatBy_15 (hK0 _)


theorem dX3_behindEnd_0 : decode cX3_behindEnd 0 = .ok (.aload_n 1, 1) := by decide +kernel
theorem dX3_behindEnd_1 : decode cX3_behindEnd 1 = .ok (.getfield 65, 3) := by decide +kernel
theorem dX3_behindEnd_4 : decode cX3_behindEnd 4 = .ok (.iload_n 2, 1) := by decide +kernel
theorem dX3_behindEnd_5 : decode cX3_behindEnd 5 = .ok (.iaload, 1) := by decide +kernel
theorem dX3_behindEnd_6 : decode cX3_behindEnd 6 = .ok (.istore_n 3, 1) := by decide +kernel
theorem dX3_behindEnd_7 : decode cX3_behindEnd 7 = .ok (.aload_n 1, 1) := by decide +kernel
theorem dX3_behindEnd_8 : decode cX3_behindEnd 8 = .ok (.getfield 54, 3) := by decide +kernel
theorem dX3_behindEnd_11 : decode cX3_behindEnd 11 = .ok (.iload_n 3, 1) := by decide +kernel
theorem dX3_behindEnd_12 : decode cX3_behindEnd 12 = .ok (.iaload, 1) := by decide +kernel
theorem dX3_behindEnd_13 : decode cX3_behindEnd 13 = .ok (.bipush 25, 2) := by decide +kernel
theorem dX3_behindEnd_15 : decode cX3_behindEnd 15 = .ok (.if_icmp .eq 7, 3) := by decide +kernel
theorem dX3_behindEnd_18 : decode cX3_behindEnd 18 = .ok (.iload_n 2, 1) := by decide +kernel
theorem dX3_behindEnd_19 : decode cX3_behindEnd 19 = .ok (.iconst 1, 1) := by decide +kernel
theorem dX3_behindEnd_20 : decode cX3_behindEnd 20 = .ok (.iadd, 1) := by decide +kernel
theorem dX3_behindEnd_21 : decode cX3_behindEnd 21 = .ok (.ireturn, 1) := by decide +kernel
theorem dX3_behindEnd_22 : decode cX3_behindEnd 22 = .ok (.aload_n 0, 1) := by decide +kernel
theorem dX3_behindEnd_23 : decode cX3_behindEnd 23 = .ok (.getfield 9, 3) := by decide +kernel
theorem dX3_behindEnd_26 : decode cX3_behindEnd 26 = .ok (.iload_n 3, 1) := by decide +kernel
theorem dX3_behindEnd_27 : decode cX3_behindEnd 27 = .ok (.dup2, 1) := by decide +kernel
theorem dX3_behindEnd_28 : decode cX3_behindEnd 28 = .ok (.iaload, 1) := by decide +kernel
theorem dX3_behindEnd_29 : decode cX3_behindEnd 29 = .ok (.iconst 1, 1) := by decide +kernel
theorem dX3_behindEnd_30 : decode cX3_behindEnd 30 = .ok (.isub, 1) := by decide +kernel
theorem dX3_behindEnd_31 : decode cX3_behindEnd 31 = .ok (.iastore, 1) := by decide +kernel
theorem dX3_behindEnd_32 : decode cX3_behindEnd 32 = .ok (.aload_n 0, 1) := by decide +kernel
theorem dX3_behindEnd_33 : decode cX3_behindEnd 33 = .ok (.getfield 9, 3) := by decide +kernel
theorem dX3_behindEnd_36 : decode cX3_behindEnd 36 = .ok (.iload_n 3, 1) := by decide +kernel
theorem dX3_behindEnd_37 : decode cX3_behindEnd 37 = .ok (.iaload, 1) := by decide +kernel
theorem dX3_behindEnd_38 : decode cX3_behindEnd 38 = .ok (.ifCond .le 9, 3) := by decide +kernel
theorem dX3_behindEnd_41 : decode cX3_behindEnd 41 = .ok (.iload_n 3, 1) := by decide +kernel
theorem dX3_behindEnd_42 : decode cX3_behindEnd 42 = .ok (.iconst 1, 1) := by decide +kernel
theorem dX3_behindEnd_43 : decode cX3_behindEnd 43 = .ok (.iadd, 1) := by decide +kernel
theorem dX3_behindEnd_44 : decode cX3_behindEnd 44 = .ok (.goto 6, 3) := by decide +kernel
theorem dX3_behindEnd_47 : decode cX3_behindEnd 47 = .ok (.iload_n 2, 1) := by decide +kernel
theorem dX3_behindEnd_48 : decode cX3_behindEnd 48 = .ok (.iconst 1, 1) := by decide +kernel
theorem dX3_behindEnd_49 : decode cX3_behindEnd 49 = .ok (.iadd, 1) := by decide +kernel
theorem dX3_behindEnd_50 : decode cX3_behindEnd 50 = .ok (.ireturn, 1) := by decide +kernel
set_option maxHeartbeats 4000000 in
set_option maxRecDepth 100000 in
theorem ctX3_behindEnd {p1 : Int} {p2 : Int} {σ : jq_M} {res : Int} {σ' : jq_M} (hp1 : jq_stp p1) (h : X3_behindEnd p1 p2 σ = some (res, σ')) : jq_MC jq_zX yX3_behindEnd cX3_behindEnd 4 (some .int) 1 40 [jR 60, jR p1, jI p2] σ (some (jI res)) σ' := by
  refine jq_met (own := RX3) (L0 := [(0, jR 60), (1, jR p1), (2, jI p2)]) (by decide) rfl rfl rfl ?_
  intro X Γ hnl hlY hRT
  refine jq_use2 (P := fun r => jq_RT jq_zX X (some .int) (some (jI r.1)) r.2) ?_ h hRT
  intro K0 hK0
  unfold X3_behindEnd
  refine jq_aload_n Γ dX3_behindEnd_0 rfl 1 rfl (jq_at_0 (at_stp hp1)) ?_
  refine jq_getR (v := (p1 + 4)) Γ hlY (at_stp hp1) fl_RX3_65 rfl rfl (ly_X7_mates hp1) dX3_behindEnd_1 ?_
  refine jq_iload_n Γ dX3_behindEnd_4 rfl 2 rfl ?_
  refine jq_iald Γ (at_stp_4 hp1) rfl dX3_behindEnd_5 (fun v1 => ?_)
  refine jq_istore_n (L' := [(3, jI v1), (0, jR 60), (1, jR p1), (2, jI p2)]) Γ dX3_behindEnd_6 rfl hnl rfl rfl ?_
  refine jq_aload_n Γ dX3_behindEnd_7 rfl 2 rfl (jq_at_0 (at_stp hp1)) ?_
  refine jq_getR (v := (p1 + 1)) Γ hlY (at_stp hp1) fl_RX3_54 rfl rfl (ly_X7_words hp1) dX3_behindEnd_8 ?_
  refine jq_iload_n Γ dX3_behindEnd_11 rfl 0 rfl ?_
  refine jq_iald Γ (at_stp_1 hp1) rfl dX3_behindEnd_12 (fun v2 => ?_)
  refine jq_bipush Γ dX3_behindEnd_13 rfl ?_
  refine jq_icmp_eq (tgt := 22) Γ dX3_behindEnd_15 rfl ?_ ?_
  · refine jq_aload_n Γ dX3_behindEnd_22 rfl 1 rfl (jq_at_0 at_X_60) ?_
    refine jq_getR (v := 61) Γ hlY at_X_60 fl_RX3_9 rfl rfl ly_X3_left dX3_behindEnd_23 ?_
    refine jq_iload_n Γ dX3_behindEnd_26 rfl 0 rfl ?_
    refine jq_dup2 Γ dX3_behindEnd_27 rfl rfl ?_
    refine jq_iald Γ at_X_61 rfl dX3_behindEnd_28 (fun v3 => ?_)
    refine jq_iconst Γ dX3_behindEnd_29 rfl ?_
    refine jq_isub Γ dX3_behindEnd_30 ?_
    refine jq_iast Γ at_X_61 rfl dX3_behindEnd_31 (fun s4 => ?_)
    refine jq_aload_n Γ dX3_behindEnd_32 rfl 1 rfl (jq_at_0 at_X_60) ?_
    refine jq_getR (v := 61) Γ hlY at_X_60 fl_RX3_9 rfl rfl ly_X3_left dX3_behindEnd_33 ?_
    refine jq_iload_n Γ dX3_behindEnd_36 rfl 0 rfl ?_
    refine jq_iald Γ at_X_61 rfl dX3_behindEnd_37 (fun v5 => ?_)
    refine jq_if_le (tgt := 47) Γ dX3_behindEnd_38 rfl ?_ ?_
    · refine jq_iload_n Γ dX3_behindEnd_47 rfl 3 rfl ?_
      refine jq_iconst Γ dX3_behindEnd_48 rfl ?_
      refine jq_iadd Γ dX3_behindEnd_49 ?_
      exact jq_ireturn Γ dX3_behindEnd_50 (hK0 _)
    · refine jq_iload_n Γ dX3_behindEnd_41 rfl 0 rfl ?_
      refine jq_iconst Γ dX3_behindEnd_42 rfl ?_
      refine jq_iadd Γ dX3_behindEnd_43 ?_
      refine jq_goto Γ (tgt := 50) dX3_behindEnd_44 rfl ?_
      exact jq_ireturn Γ dX3_behindEnd_50 (hK0 _)
  · refine jq_iload_n Γ dX3_behindEnd_18 rfl 3 rfl ?_
    refine jq_iconst Γ dX3_behindEnd_19 rfl ?_
    refine jq_iadd Γ dX3_behindEnd_20 ?_
    exact jq_ireturn Γ dX3_behindEnd_21 (hK0 _)


theorem dX3_isSo_0 : decode cX3_isSo 0 = .ok (.aload_n 1, 1) := by decide +kernel
theorem dX3_isSo_1 : decode cX3_isSo 1 = .ok (.getfield 43, 3) := by decide +kernel
theorem dX3_isSo_4 : decode cX3_isSo 4 = .ok (.getfield 74, 3) := by decide +kernel
theorem dX3_isSo_7 : decode cX3_isSo 7 = .ok (.iload_n 2, 1) := by decide +kernel
theorem dX3_isSo_8 : decode cX3_isSo 8 = .ok (.iaload, 1) := by decide +kernel
theorem dX3_isSo_9 : decode cX3_isSo 9 = .ok (.istore_n 3, 1) := by decide +kernel
theorem dX3_isSo_10 : decode cX3_isSo 10 = .ok (.aload_n 1, 1) := by decide +kernel
theorem dX3_isSo_11 : decode cX3_isSo 11 = .ok (.getfield 43, 3) := by decide +kernel
theorem dX3_isSo_14 : decode cX3_isSo 14 = .ok (.getfield 68, 3) := by decide +kernel
theorem dX3_isSo_17 : decode cX3_isSo 17 = .ok (.iload_n 2, 1) := by decide +kernel
theorem dX3_isSo_18 : decode cX3_isSo 18 = .ok (.iaload, 1) := by decide +kernel
theorem dX3_isSo_19 : decode cX3_isSo 19 = .ok (.lookupswitch 93 #[(22, 41), (23, 51), (60, 57), (62, 75)], 41) := by decide +kernel
theorem dX3_isSo_60 : decode cX3_isSo 60 = .ok (.aload_n 1, 1) := by decide +kernel
theorem dX3_isSo_61 : decode cX3_isSo 61 = .ok (.iload_n 3, 1) := by decide +kernel
theorem dX3_isSo_62 : decode cX3_isSo 62 = .ok (.aload_n 1, 1) := by decide +kernel
theorem dX3_isSo_63 : decode cX3_isSo 63 = .ok (.getfield 77, 3) := by decide +kernel
theorem dX3_isSo_66 : decode cX3_isSo 66 = .ok (.invokevirtual 80, 3) := by decide +kernel
theorem dX3_isSo_69 : decode cX3_isSo 69 = .ok (.ireturn, 1) := by decide +kernel
theorem dX3_isSo_70 : decode cX3_isSo 70 = .ok (.aload_n 1, 1) := by decide +kernel
theorem dX3_isSo_71 : decode cX3_isSo 71 = .ok (.iload_n 3, 1) := by decide +kernel
theorem dX3_isSo_72 : decode cX3_isSo 72 = .ok (.invokevirtual 84, 3) := by decide +kernel
theorem dX3_isSo_75 : decode cX3_isSo 75 = .ok (.ireturn, 1) := by decide +kernel
theorem dX3_isSo_76 : decode cX3_isSo 76 = .ok (.aload_n 1, 1) := by decide +kernel
theorem dX3_isSo_77 : decode cX3_isSo 77 = .ok (.aload_n 1, 1) := by decide +kernel
theorem dX3_isSo_78 : decode cX3_isSo 78 = .ok (.getfield 77, 3) := by decide +kernel
theorem dX3_isSo_81 : decode cX3_isSo 81 = .ok (.invokevirtual 88, 3) := by decide +kernel
theorem dX3_isSo_84 : decode cX3_isSo 84 = .ok (.iload_n 3, 1) := by decide +kernel
theorem dX3_isSo_85 : decode cX3_isSo 85 = .ok (.if_icmp .ge 7, 3) := by decide +kernel
theorem dX3_isSo_88 : decode cX3_isSo 88 = .ok (.iconst 1, 1) := by decide +kernel
theorem dX3_isSo_89 : decode cX3_isSo 89 = .ok (.goto 4, 3) := by decide +kernel
theorem dX3_isSo_92 : decode cX3_isSo 92 = .ok (.iconst 0, 1) := by decide +kernel
theorem dX3_isSo_93 : decode cX3_isSo 93 = .ok (.ireturn, 1) := by decide +kernel
theorem dX3_isSo_94 : decode cX3_isSo 94 = .ok (.aload_n 1, 1) := by decide +kernel
theorem dX3_isSo_95 : decode cX3_isSo 95 = .ok (.aload_n 1, 1) := by decide +kernel
theorem dX3_isSo_96 : decode cX3_isSo 96 = .ok (.getfield 77, 3) := by decide +kernel
theorem dX3_isSo_99 : decode cX3_isSo 99 = .ok (.invokevirtual 88, 3) := by decide +kernel
theorem dX3_isSo_102 : decode cX3_isSo 102 = .ok (.iload_n 3, 1) := by decide +kernel
theorem dX3_isSo_103 : decode cX3_isSo 103 = .ok (.if_icmp .le 7, 3) := by decide +kernel
theorem dX3_isSo_106 : decode cX3_isSo 106 = .ok (.iconst 1, 1) := by decide +kernel
theorem dX3_isSo_107 : decode cX3_isSo 107 = .ok (.goto 4, 3) := by decide +kernel
theorem dX3_isSo_110 : decode cX3_isSo 110 = .ok (.iconst 0, 1) := by decide +kernel
theorem dX3_isSo_111 : decode cX3_isSo 111 = .ok (.ireturn, 1) := by decide +kernel
theorem dX3_isSo_112 : decode cX3_isSo 112 = .ok (.aload_n 1, 1) := by decide +kernel
theorem dX3_isSo_113 : decode cX3_isSo 113 = .ok (.aload_n 1, 1) := by decide +kernel
theorem dX3_isSo_114 : decode cX3_isSo 114 = .ok (.getfield 77, 3) := by decide +kernel
theorem dX3_isSo_117 : decode cX3_isSo 117 = .ok (.invokevirtual 88, 3) := by decide +kernel
theorem dX3_isSo_120 : decode cX3_isSo 120 = .ok (.iload_n 3, 1) := by decide +kernel
theorem dX3_isSo_121 : decode cX3_isSo 121 = .ok (.if_icmp .ne 7, 3) := by decide +kernel
theorem dX3_isSo_124 : decode cX3_isSo 124 = .ok (.iconst 1, 1) := by decide +kernel
theorem dX3_isSo_125 : decode cX3_isSo 125 = .ok (.goto 4, 3) := by decide +kernel
theorem dX3_isSo_128 : decode cX3_isSo 128 = .ok (.iconst 0, 1) := by decide +kernel
theorem dX3_isSo_129 : decode cX3_isSo 129 = .ok (.ireturn, 1) := by decide +kernel
set_option maxHeartbeats 4000000 in
set_option maxRecDepth 100000 in
theorem ctX3_isSo {p1 : Int} {p2 : Int} {σ : jq_M} {res : Int} (hp1 : jq_com p1) (h : X3_isSo p1 p2 σ = some res) : jq_MC jq_zX yX3_isSo cX3_isSo 4 (some .boolean) 5 133 [jR 60, jR p1, jI p2] σ (some (jI res)) σ := by
  refine jq_met (own := RX3) (L0 := [(0, jR 60), (1, jR p1), (2, jI p2)]) (by decide) rfl rfl rfl ?_
  intro X Γ hnl hlY hRT
  refine jq_use2 (P := fun r => jq_RT jq_zX X (some .boolean) (some (jI r)) σ) ?_ h hRT
  intro K0 hK0
  unfold X3_isSo
  refine jq_aload_n Γ dX3_isSo_0 rfl 1 rfl (jq_at_0 (at_com hp1)) ?_
  refine jq_getR (v := (p1 + 13)) Γ hlY (at_com hp1) fl_RX3_43 rfl rfl (ly_X1_steps hp1) dX3_isSo_1 ?_
  refine jq_getR (v := ((p1 + 13) + 3)) Γ hlY (at_stp (stp_com hp1)) fl_RX3_74 rfl rfl (ly_X7_second (stp_com hp1)) dX3_isSo_4 ?_
  refine jq_iload_n Γ dX3_isSo_7 rfl 2 rfl ?_
  refine jq_iald Γ (at_stp_3 (stp_com hp1)) rfl dX3_isSo_8 (fun v1 => ?_)
  refine jq_istore_n (L' := [(3, jI v1), (0, jR 60), (1, jR p1), (2, jI p2)]) Γ dX3_isSo_9 rfl hnl rfl rfl ?_
  refine jq_aload_n Γ dX3_isSo_10 rfl 2 rfl (jq_at_0 (at_com hp1)) ?_
  refine jq_getR (v := (p1 + 13)) Γ hlY (at_com hp1) fl_RX3_43 rfl rfl (ly_X1_steps hp1) dX3_isSo_11 ?_
  refine jq_getR (v := ((p1 + 13) + 2)) Γ hlY (at_stp (stp_com hp1)) fl_RX3_68 rfl rfl (ly_X7_first (stp_com hp1)) dX3_isSo_14 ?_
  refine jq_iload_n Γ dX3_isSo_17 rfl 3 rfl ?_
  refine jq_iald Γ (at_stp_2 (stp_com hp1)) rfl dX3_isSo_18 (fun v2 => ?_)
  refine jq_split (fun hc3 => ?_) (fun hn22_19 => ?_)
  · refine jq_look (tgt := 60) Γ dX3_isSo_19 rfl (by rw [hc3] <;> rfl) rfl ?_
    refine jq_aload_n Γ dX3_isSo_60 rfl 2 rfl (jq_at_0 (at_com hp1)) ?_
    refine jq_iload_n Γ dX3_isSo_61 rfl 0 rfl ?_
    refine jq_aload_n Γ dX3_isSo_62 rfl 2 rfl (jq_at_0 (at_com hp1)) ?_
    refine jq_getR (v := (p1 + 3)) Γ hlY (at_com hp1) fl_RX3_77 rfl rfl (ly_X1_seats hp1) dX3_isSo_63 ?_
    refine jq_cpZ (jq_virt (avs := [jI v1, jR (p1 + 3)]) (st := []) Γ hlY rfl ml_RX3_80 rfl (at_com hp1) rfl rfl rfl rfl rfl dX3_isSo_66) rfl (fun r h => ctX1_doesSign hp1 (row_com hp1) h) (fun v4 hz5 => ?_)
    exact jq_zreturn Γ (hz5) dX3_isSo_69 (hK0 _)
  · refine jq_split (fun hc6 => ?_) (fun hn23_19 => ?_)
    · refine jq_look (tgt := 70) Γ dX3_isSo_19 rfl (by rw [hc6] <;> rfl) rfl ?_
      refine jq_aload_n Γ dX3_isSo_70 rfl 2 rfl (jq_at_0 (at_com hp1)) ?_
      refine jq_iload_n Γ dX3_isSo_71 rfl 0 rfl ?_
      refine jq_cpZ (jq_virt (avs := [jI v1]) (st := []) Γ hlY rfl ml_RX3_84 rfl (at_com hp1) rfl rfl rfl rfl rfl dX3_isSo_72) rfl (fun r h => ctX1_isAgreed hp1 h) (fun v7 hz8 => ?_)
      exact jq_zreturn Γ (hz8) dX3_isSo_75 (hK0 _)
    · refine jq_split (fun hc9 => ?_) (fun hn60_19 => ?_)
      · refine jq_look (tgt := 76) Γ dX3_isSo_19 rfl (by rw [hc9] <;> rfl) rfl ?_
        refine jq_aload_n Γ dX3_isSo_76 rfl 2 rfl (jq_at_0 (at_com hp1)) ?_
        refine jq_aload_n Γ dX3_isSo_77 rfl 2 rfl (jq_at_0 (at_com hp1)) ?_
        refine jq_getR (v := (p1 + 3)) Γ hlY (at_com hp1) fl_RX3_77 rfl rfl (ly_X1_seats hp1) dX3_isSo_78 ?_
        refine jq_cpI (jq_virt (avs := [jR (p1 + 3)]) (st := []) Γ hlY rfl ml_RX3_88 rfl (at_com hp1) rfl rfl rfl rfl rfl dX3_isSo_81) (fun r h => ctX1_worthOfAll hp1 (row_com hp1) h) (fun v10 => ?_)
        refine jq_iload_n Γ dX3_isSo_84 rfl 0 rfl ?_
        refine jq_icmp_ge (tgt := 92) Γ dX3_isSo_85 rfl ?_ ?_
        · refine jq_iconst Γ dX3_isSo_92 rfl ?_
          exact jq_zreturn Γ (Or.inl rfl) dX3_isSo_93 (hK0 _)
        · refine jq_iconst Γ dX3_isSo_88 rfl ?_
          refine jq_goto Γ (tgt := 93) dX3_isSo_89 rfl ?_
          exact jq_zreturn Γ (Or.inr rfl) dX3_isSo_93 (hK0 _)
      · refine jq_split (fun hc11 => ?_) (fun hn62_19 => ?_)
        · refine jq_look (tgt := 94) Γ dX3_isSo_19 rfl (by rw [hc11] <;> rfl) rfl ?_
          refine jq_aload_n Γ dX3_isSo_94 rfl 2 rfl (jq_at_0 (at_com hp1)) ?_
          refine jq_aload_n Γ dX3_isSo_95 rfl 2 rfl (jq_at_0 (at_com hp1)) ?_
          refine jq_getR (v := (p1 + 3)) Γ hlY (at_com hp1) fl_RX3_77 rfl rfl (ly_X1_seats hp1) dX3_isSo_96 ?_
          refine jq_cpI (jq_virt (avs := [jR (p1 + 3)]) (st := []) Γ hlY rfl ml_RX3_88 rfl (at_com hp1) rfl rfl rfl rfl rfl dX3_isSo_99) (fun r h => ctX1_worthOfAll hp1 (row_com hp1) h) (fun v12 => ?_)
          refine jq_iload_n Γ dX3_isSo_102 rfl 0 rfl ?_
          refine jq_icmp_le (tgt := 110) Γ dX3_isSo_103 rfl ?_ ?_
          · refine jq_iconst Γ dX3_isSo_110 rfl ?_
            exact jq_zreturn Γ (Or.inl rfl) dX3_isSo_111 (hK0 _)
          · refine jq_iconst Γ dX3_isSo_106 rfl ?_
            refine jq_goto Γ (tgt := 111) dX3_isSo_107 rfl ?_
            exact jq_zreturn Γ (Or.inr rfl) dX3_isSo_111 (hK0 _)
        · refine jq_look (tgt := 112) Γ dX3_isSo_19 rfl (by rw [jq_osw hn22_19, jq_osw hn23_19, jq_osw hn60_19, jq_osw hn62_19] <;> rfl) rfl ?_
          refine jq_aload_n Γ dX3_isSo_112 rfl 2 rfl (jq_at_0 (at_com hp1)) ?_
          refine jq_aload_n Γ dX3_isSo_113 rfl 2 rfl (jq_at_0 (at_com hp1)) ?_
          refine jq_getR (v := (p1 + 3)) Γ hlY (at_com hp1) fl_RX3_77 rfl rfl (ly_X1_seats hp1) dX3_isSo_114 ?_
          refine jq_cpI (jq_virt (avs := [jR (p1 + 3)]) (st := []) Γ hlY rfl ml_RX3_88 rfl (at_com hp1) rfl rfl rfl rfl rfl dX3_isSo_117) (fun r h => ctX1_worthOfAll hp1 (row_com hp1) h) (fun v13 => ?_)
          refine jq_iload_n Γ dX3_isSo_120 rfl 0 rfl ?_
          refine jq_icmp_ne (tgt := 128) Γ dX3_isSo_121 rfl ?_ ?_
          · refine jq_iconst Γ dX3_isSo_128 rfl ?_
            exact jq_zreturn Γ (Or.inl rfl) dX3_isSo_129 (hK0 _)
          · refine jq_iconst Γ dX3_isSo_124 rfl ?_
            refine jq_goto Γ (tgt := 129) dX3_isSo_125 rfl ?_
            exact jq_zreturn Γ (Or.inr rfl) dX3_isSo_129 (hK0 _)


theorem dX3_spend_0 : decode cX3_spend 0 = .ok (.aload_n 1, 1) := by decide +kernel
theorem dX3_spend_1 : decode cX3_spend 1 = .ok (.getfield 120, 3) := by decide +kernel
theorem dX3_spend_4 : decode cX3_spend 4 = .ok (.sipush 9999, 3) := by decide +kernel
theorem dX3_spend_7 : decode cX3_spend 7 = .ok (.iload_n 2, 1) := by decide +kernel
theorem dX3_spend_8 : decode cX3_spend 8 = .ok (.isub, 1) := by decide +kernel
theorem dX3_spend_9 : decode cX3_spend 9 = .ok (.if_icmp .le 5, 3) := by decide +kernel
theorem dX3_spend_12 : decode cX3_spend 12 = .ok (.iconst 0, 1) := by decide +kernel
theorem dX3_spend_13 : decode cX3_spend 13 = .ok (.ireturn, 1) := by decide +kernel
theorem dX3_spend_14 : decode cX3_spend 14 = .ok (.aload_n 0, 1) := by decide +kernel
theorem dX3_spend_15 : decode cX3_spend 15 = .ok (.dup, 1) := by decide +kernel
theorem dX3_spend_16 : decode cX3_spend 16 = .ok (.getfield 19, 3) := by decide +kernel
theorem dX3_spend_19 : decode cX3_spend 19 = .ok (.iload_n 2, 1) := by decide +kernel
theorem dX3_spend_20 : decode cX3_spend 20 = .ok (.iadd, 1) := by decide +kernel
theorem dX3_spend_21 : decode cX3_spend 21 = .ok (.putfield 19, 3) := by decide +kernel
theorem dX3_spend_24 : decode cX3_spend 24 = .ok (.aload_n 0, 1) := by decide +kernel
theorem dX3_spend_25 : decode cX3_spend 25 = .ok (.dup, 1) := by decide +kernel
theorem dX3_spend_26 : decode cX3_spend 26 = .ok (.getfield 22, 3) := by decide +kernel
theorem dX3_spend_29 : decode cX3_spend 29 = .ok (.aload_n 1, 1) := by decide +kernel
theorem dX3_spend_30 : decode cX3_spend 30 = .ok (.iload_n 2, 1) := by decide +kernel
theorem dX3_spend_31 : decode cX3_spend 31 = .ok (.invokevirtual 123, 3) := by decide +kernel
theorem dX3_spend_34 : decode cX3_spend 34 = .ok (.iadd, 1) := by decide +kernel
theorem dX3_spend_35 : decode cX3_spend 35 = .ok (.putfield 22, 3) := by decide +kernel
theorem dX3_spend_38 : decode cX3_spend 38 = .ok (.iconst 1, 1) := by decide +kernel
theorem dX3_spend_39 : decode cX3_spend 39 = .ok (.ireturn, 1) := by decide +kernel
set_option maxHeartbeats 4000000 in
set_option maxRecDepth 100000 in
theorem ctX3_spend {p1 : Int} {p2 : Int} {σ : jq_M} {res : Int} {σ' : jq_M} (hp1 : jq_com p1) (h : X3_spend p1 p2 σ = some (res, σ')) : jq_MC jq_zX yX3_spend cX3_spend 3 (some .boolean) 4 106 [jR 60, jR p1, jI p2] σ (some (jI res)) σ' := by
  refine jq_met (own := RX3) (L0 := [(0, jR 60), (1, jR p1), (2, jI p2)]) (by decide) rfl rfl rfl ?_
  intro X Γ hnl hlY hRT
  refine jq_use2 (P := fun r => jq_RT jq_zX X (some .boolean) (some (jI r.1)) r.2) ?_ h hRT
  intro K0 hK0
  unfold X3_spend
  refine jq_aload_n Γ dX3_spend_0 rfl 1 rfl (jq_at_0 (at_com hp1)) ?_
  refine jq_getI (J := 6) Γ (at_com hp1) fl_RX3_120 rfl rfl dX3_spend_1 ?_
  refine jq_sipush Γ dX3_spend_4 rfl ?_
  refine jq_iload_n Γ dX3_spend_7 rfl 2 rfl ?_
  refine jq_isub Γ dX3_spend_8 ?_
  refine jq_icmp_le (tgt := 14) Γ dX3_spend_9 rfl ?_ ?_
  · refine jq_aload_n Γ dX3_spend_14 rfl 0 rfl (jq_at_0 at_X_60) ?_
    refine jq_dup Γ dX3_spend_15 rfl ?_
    refine jq_getI (J := 2) Γ at_X_60 fl_RX3_19 rfl rfl dX3_spend_16 ?_
    refine jq_iload_n Γ dX3_spend_19 rfl 2 rfl ?_
    refine jq_iadd Γ dX3_spend_20 ?_
    refine jq_putI Γ at_X_60 fl_RX3_19 rfl rfl dX3_spend_21 (fun s1 => ?_)
    refine jq_aload_n Γ dX3_spend_24 rfl 0 rfl (jq_at_0 at_X_60) ?_
    refine jq_dup Γ dX3_spend_25 rfl ?_
    refine jq_getI (J := 3) Γ at_X_60 fl_RX3_22 rfl rfl dX3_spend_26 ?_
    refine jq_aload_n Γ dX3_spend_29 rfl 1 rfl (jq_at_0 (at_com hp1)) ?_
    refine jq_iload_n Γ dX3_spend_30 rfl 2 rfl ?_
    refine jq_cwI (jq_virt (avs := [jI p2]) (st := [jI (s1 60 3), jR 60]) Γ hlY rfl ml_RX3_123 rfl (at_com hp1) rfl rfl rfl rfl rfl dX3_spend_31) (fun r σ' h => ctX1_passDays hp1 h) (fun v2 s3 => ?_)
    refine jq_iadd Γ dX3_spend_34 ?_
    refine jq_putI Γ at_X_60 fl_RX3_22 rfl rfl dX3_spend_35 (fun s4 => ?_)
    refine jq_iconst Γ dX3_spend_38 rfl ?_
    exact jq_zreturn Γ (Or.inr rfl) dX3_spend_39 (hK0 _)
  · refine jq_iconst Γ dX3_spend_12 rfl ?_
    exact jq_zreturn Γ (Or.inl rfl) dX3_spend_13 (hK0 _)


theorem dX3_agreeTo_0 : decode cX3_agreeTo 0 = .ok (.aload_n 1, 1) := by decide +kernel
theorem dX3_agreeTo_1 : decode cX3_agreeTo 1 = .ok (.iload_n 2, 1) := by decide +kernel
theorem dX3_agreeTo_2 : decode cX3_agreeTo 2 = .ok (.invokevirtual 127, 3) := by decide +kernel
theorem dX3_agreeTo_5 : decode cX3_agreeTo 5 = .ok (.istore_n 3, 1) := by decide +kernel
theorem dX3_agreeTo_6 : decode cX3_agreeTo 6 = .ok (.aload_n 0, 1) := by decide +kernel
theorem dX3_agreeTo_7 : decode cX3_agreeTo 7 = .ok (.dup, 1) := by decide +kernel
theorem dX3_agreeTo_8 : decode cX3_agreeTo 8 = .ok (.getfield 22, 3) := by decide +kernel
theorem dX3_agreeTo_11 : decode cX3_agreeTo 11 = .ok (.iload_n 3, 1) := by decide +kernel
theorem dX3_agreeTo_12 : decode cX3_agreeTo 12 = .ok (.invokestatic 32, 3) := by decide +kernel
theorem dX3_agreeTo_15 : decode cX3_agreeTo 15 = .ok (.iadd, 1) := by decide +kernel
theorem dX3_agreeTo_16 : decode cX3_agreeTo 16 = .ok (.putfield 22, 3) := by decide +kernel
theorem dX3_agreeTo_19 : decode cX3_agreeTo 19 = .ok (.iload_n 3, 1) := by decide +kernel
theorem dX3_agreeTo_20 : decode cX3_agreeTo 20 = .ok (.ireturn, 1) := by decide +kernel
set_option maxHeartbeats 4000000 in
set_option maxRecDepth 100000 in
theorem ctX3_agreeTo {p1 : Int} {p2 : Int} {σ : jq_M} {res : Int} {σ' : jq_M} (hp1 : jq_com p1) (h : X3_agreeTo p1 p2 σ = some (res, σ')) : jq_MC jq_zX yX3_agreeTo cX3_agreeTo 4 (some .boolean) 3 82 [jR 60, jR p1, jI p2] σ (some (jI res)) σ' := by
  refine jq_met (own := RX3) (L0 := [(0, jR 60), (1, jR p1), (2, jI p2)]) (by decide) rfl rfl rfl ?_
  intro X Γ hnl hlY hRT
  refine jq_use2 (P := fun r => jq_RT jq_zX X (some .boolean) (some (jI r.1)) r.2) ?_ h hRT
  intro K0 hK0
  unfold X3_agreeTo
  refine jq_aload_n Γ dX3_agreeTo_0 rfl 1 rfl (jq_at_0 (at_com hp1)) ?_
  refine jq_iload_n Γ dX3_agreeTo_1 rfl 2 rfl ?_
  refine jq_cwZ (jq_virt (avs := [jI p2]) (st := []) Γ hlY rfl ml_RX3_127 rfl (at_com hp1) rfl rfl rfl rfl rfl dX3_agreeTo_2) rfl (fun r σ' h => ctX1_agreeOn hp1 h) (fun v1 s2 hz3 => ?_)
  refine jq_istore_n (L' := [(3, jI v1), (0, jR 60), (1, jR p1), (2, jI p2)]) Γ dX3_agreeTo_5 rfl hnl rfl rfl ?_
  refine jq_aload_n Γ dX3_agreeTo_6 rfl 1 rfl (jq_at_0 at_X_60) ?_
  refine jq_dup Γ dX3_agreeTo_7 rfl ?_
  refine jq_getI (J := 3) Γ at_X_60 fl_RX3_22 rfl rfl dX3_agreeTo_8 ?_
  refine jq_iload_n Γ dX3_agreeTo_11 rfl 0 rfl ?_
  refine jq_cpI (jq_nest (avs := [jI v1]) (st := [jI (s2 60 3), jR 60]) Γ hlY rfl ml_RX3_32 rfl rfl rfl rfl rfl dX3_agreeTo_12) (fun r h => ctX10_asNumber h) (fun v4 => ?_)
  refine jq_iadd Γ dX3_agreeTo_15 ?_
  refine jq_putI Γ at_X_60 fl_RX3_22 rfl rfl dX3_agreeTo_16 (fun s5 => ?_)
  refine jq_iload_n Γ dX3_agreeTo_19 rfl 0 rfl ?_
  exact jq_zreturn Γ (hz3) dX3_agreeTo_20 (hK0 _)


theorem dX3_letGo_0 : decode cX3_letGo 0 = .ok (.aload_n 1, 1) := by decide +kernel
theorem dX3_letGo_1 : decode cX3_letGo 1 = .ok (.iload_n 2, 1) := by decide +kernel
theorem dX3_letGo_2 : decode cX3_letGo 2 = .ok (.invokevirtual 130, 3) := by decide +kernel
theorem dX3_letGo_5 : decode cX3_letGo 5 = .ok (.istore_n 3, 1) := by decide +kernel
theorem dX3_letGo_6 : decode cX3_letGo 6 = .ok (.aload_n 0, 1) := by decide +kernel
theorem dX3_letGo_7 : decode cX3_letGo 7 = .ok (.dup, 1) := by decide +kernel
theorem dX3_letGo_8 : decode cX3_letGo 8 = .ok (.getfield 25, 3) := by decide +kernel
theorem dX3_letGo_11 : decode cX3_letGo 11 = .ok (.iload_n 3, 1) := by decide +kernel
theorem dX3_letGo_12 : decode cX3_letGo 12 = .ok (.iadd, 1) := by decide +kernel
theorem dX3_letGo_13 : decode cX3_letGo 13 = .ok (.putfield 25, 3) := by decide +kernel
theorem dX3_letGo_16 : decode cX3_letGo 16 = .ok (.iload_n 3, 1) := by decide +kernel
theorem dX3_letGo_17 : decode cX3_letGo 17 = .ok (.ifCond .le 7, 3) := by decide +kernel
theorem dX3_letGo_20 : decode cX3_letGo 20 = .ok (.iconst 1, 1) := by decide +kernel
theorem dX3_letGo_21 : decode cX3_letGo 21 = .ok (.goto 4, 3) := by decide +kernel
theorem dX3_letGo_24 : decode cX3_letGo 24 = .ok (.iconst 0, 1) := by decide +kernel
theorem dX3_letGo_25 : decode cX3_letGo 25 = .ok (.ireturn, 1) := by decide +kernel
set_option maxHeartbeats 4000000 in
set_option maxRecDepth 100000 in
theorem ctX3_letGo {p1 : Int} {p2 : Int} {σ : jq_M} {res : Int} {σ' : jq_M} (hp1 : jq_com p1) (h : X3_letGo p1 p2 σ = some (res, σ')) : jq_MC jq_zX yX3_letGo cX3_letGo 4 (some .boolean) 4 105 [jR 60, jR p1, jI p2] σ (some (jI res)) σ' := by
  refine jq_met (own := RX3) (L0 := [(0, jR 60), (1, jR p1), (2, jI p2)]) (by decide) rfl rfl rfl ?_
  intro X Γ hnl hlY hRT
  refine jq_use2 (P := fun r => jq_RT jq_zX X (some .boolean) (some (jI r.1)) r.2) ?_ h hRT
  intro K0 hK0
  unfold X3_letGo
  refine jq_aload_n Γ dX3_letGo_0 rfl 1 rfl (jq_at_0 (at_com hp1)) ?_
  refine jq_iload_n Γ dX3_letGo_1 rfl 2 rfl ?_
  refine jq_cwI (jq_virt (avs := [jI p2]) (st := []) Γ hlY rfl ml_RX3_130 rfl (at_com hp1) rfl rfl rfl rfl rfl dX3_letGo_2) (fun r σ' h => ctX1_letFall hp1 h) (fun v1 s2 => ?_)
  refine jq_istore_n (L' := [(3, jI v1), (0, jR 60), (1, jR p1), (2, jI p2)]) Γ dX3_letGo_5 rfl hnl rfl rfl ?_
  refine jq_aload_n Γ dX3_letGo_6 rfl 1 rfl (jq_at_0 at_X_60) ?_
  refine jq_dup Γ dX3_letGo_7 rfl ?_
  refine jq_getI (J := 4) Γ at_X_60 fl_RX3_25 rfl rfl dX3_letGo_8 ?_
  refine jq_iload_n Γ dX3_letGo_11 rfl 0 rfl ?_
  refine jq_iadd Γ dX3_letGo_12 ?_
  refine jq_putI Γ at_X_60 fl_RX3_25 rfl rfl dX3_letGo_13 (fun s3 => ?_)
  refine jq_iload_n Γ dX3_letGo_16 rfl 0 rfl ?_
  refine jq_if_le (tgt := 24) Γ dX3_letGo_17 rfl ?_ ?_
  · refine jq_iconst Γ dX3_letGo_24 rfl ?_
    exact jq_zreturn Γ (Or.inl rfl) dX3_letGo_25 (hK0 _)
  · refine jq_iconst Γ dX3_letGo_20 rfl ?_
    refine jq_goto Γ (tgt := 25) dX3_letGo_21 rfl ?_
    exact jq_zreturn Γ (Or.inr rfl) dX3_letGo_25 (hK0 _)


theorem dX3_draw_0 : decode cX3_draw 0 = .ok (.aload_n 0, 1) := by decide +kernel
theorem dX3_draw_1 : decode cX3_draw 1 = .ok (.aload_n 0, 1) := by decide +kernel
theorem dX3_draw_2 : decode cX3_draw 2 = .ok (.getfield 39, 3) := by decide +kernel
theorem dX3_draw_5 : decode cX3_draw 5 = .ok (.sipush 3061, 3) := by decide +kernel
theorem dX3_draw_8 : decode cX3_draw 8 = .ok (.imul, 1) := by decide +kernel
theorem dX3_draw_9 : decode cX3_draw 9 = .ok (.sipush 11279, 3) := by decide +kernel
theorem dX3_draw_12 : decode cX3_draw 12 = .ok (.iadd, 1) := by decide +kernel
theorem dX3_draw_13 : decode cX3_draw 13 = .ok (.ldc 142, 2) := by decide +kernel
theorem dX3_draw_15 : decode cX3_draw 15 = .ok (.irem, 1) := by decide +kernel
theorem dX3_draw_16 : decode cX3_draw 16 = .ok (.putfield 39, 3) := by decide +kernel
theorem dX3_draw_19 : decode cX3_draw 19 = .ok (.iload_n 1, 1) := by decide +kernel
theorem dX3_draw_20 : decode cX3_draw 20 = .ok (.ifCond .le 15, 3) := by decide +kernel
theorem dX3_draw_23 : decode cX3_draw 23 = .ok (.aload_n 0, 1) := by decide +kernel
theorem dX3_draw_24 : decode cX3_draw 24 = .ok (.getfield 39, 3) := by decide +kernel
theorem dX3_draw_27 : decode cX3_draw 27 = .ok (.bipush 8, 2) := by decide +kernel
theorem dX3_draw_29 : decode cX3_draw 29 = .ok (.idiv, 1) := by decide +kernel
theorem dX3_draw_30 : decode cX3_draw 30 = .ok (.iload_n 1, 1) := by decide +kernel
theorem dX3_draw_31 : decode cX3_draw 31 = .ok (.irem, 1) := by decide +kernel
theorem dX3_draw_32 : decode cX3_draw 32 = .ok (.goto 4, 3) := by decide +kernel
theorem dX3_draw_35 : decode cX3_draw 35 = .ok (.iconst 0, 1) := by decide +kernel
theorem dX3_draw_36 : decode cX3_draw 36 = .ok (.ireturn, 1) := by decide +kernel
set_option maxHeartbeats 4000000 in
set_option maxRecDepth 100000 in
theorem ctX3_draw {p1 : Int} {σ : jq_M} {res : Int} {σ' : jq_M}  (h : X3_draw p1 σ = some (res, σ')) : jq_MC jq_zX yX3_draw cX3_draw 2 (some .int) 1 40 [jR 60, jI p1] σ (some (jI res)) σ' := by
  refine jq_met (own := RX3) (L0 := [(0, jR 60), (1, jI p1)]) (by decide) rfl rfl rfl ?_
  intro X Γ hnl hlY hRT
  refine jq_use2 (P := fun r => jq_RT jq_zX X (some .int) (some (jI r.1)) r.2) ?_ h hRT
  intro K0 hK0
  unfold X3_draw
  refine jq_aload_n Γ dX3_draw_0 rfl 0 rfl (jq_at_0 at_X_60) ?_
  refine jq_aload_n Γ dX3_draw_1 rfl 0 rfl (jq_at_0 at_X_60) ?_
  refine jq_getI (J := 6) Γ at_X_60 fl_RX3_39 rfl rfl dX3_draw_2 ?_
  refine jq_sipush Γ dX3_draw_5 rfl ?_
  refine jq_imul Γ dX3_draw_8 ?_
  refine jq_sipush Γ dX3_draw_9 rfl ?_
  refine jq_iadd Γ dX3_draw_12 ?_
  refine jq_ldc Γ 65536 dX3_draw_13 kc_RX3_142 rfl ?_
  refine jq_iremR Γ dX3_draw_15 (fun v1 => ?_)
  refine jq_putI Γ at_X_60 fl_RX3_39 rfl rfl dX3_draw_16 (fun s2 => ?_)
  refine jq_iload_n Γ dX3_draw_19 rfl 1 rfl ?_
  refine jq_if_le (tgt := 35) Γ dX3_draw_20 rfl ?_ ?_
  · refine jq_iconst Γ dX3_draw_35 rfl ?_
    exact jq_ireturn Γ dX3_draw_36 (hK0 _)
  · refine jq_aload_n Γ dX3_draw_23 rfl 0 rfl (jq_at_0 at_X_60) ?_
    refine jq_getI (J := 6) Γ at_X_60 fl_RX3_39 rfl rfl dX3_draw_24 ?_
    refine jq_bipush Γ dX3_draw_27 rfl ?_
    refine jq_idivR Γ dX3_draw_29 (fun v3 => ?_)
    refine jq_iload_n Γ dX3_draw_30 rfl 1 rfl ?_
    refine jq_iremR Γ dX3_draw_31 (fun v4 => ?_)
    refine jq_goto Γ (tgt := 36) dX3_draw_32 rfl ?_
    exact jq_ireturn Γ dX3_draw_36 (hK0 _)


theorem dX3_seatAny_0 : decode cX3_seatAny 0 = .ok (.aload_n 1, 1) := by decide +kernel
theorem dX3_seatAny_1 : decode cX3_seatAny 1 = .ok (.getfield 133, 3) := by decide +kernel
theorem dX3_seatAny_4 : decode cX3_seatAny 4 = .ok (.ifCond .ne 5, 3) := by decide +kernel
theorem dX3_seatAny_7 : decode cX3_seatAny 7 = .ok (.iconst 0, 1) := by decide +kernel
theorem dX3_seatAny_8 : decode cX3_seatAny 8 = .ok (.ireturn, 1) := by decide +kernel
theorem dX3_seatAny_9 : decode cX3_seatAny 9 = .ok (.aload_n 0, 1) := by decide +kernel
theorem dX3_seatAny_10 : decode cX3_seatAny 10 = .ok (.aload_n 1, 1) := by decide +kernel
theorem dX3_seatAny_11 : decode cX3_seatAny 11 = .ok (.getfield 133, 3) := by decide +kernel
theorem dX3_seatAny_14 : decode cX3_seatAny 14 = .ok (.invokevirtual 136, 3) := by decide +kernel
theorem dX3_seatAny_17 : decode cX3_seatAny 17 = .ok (.istore_n 2, 1) := by decide +kernel
theorem dX3_seatAny_18 : decode cX3_seatAny 18 = .ok (.aload_n 0, 1) := by decide +kernel
theorem dX3_seatAny_19 : decode cX3_seatAny 19 = .ok (.aload_n 1, 1) := by decide +kernel
theorem dX3_seatAny_20 : decode cX3_seatAny 20 = .ok (.getfield 139, 3) := by decide +kernel
theorem dX3_seatAny_23 : decode cX3_seatAny 23 = .ok (.invokevirtual 136, 3) := by decide +kernel
theorem dX3_seatAny_26 : decode cX3_seatAny 26 = .ok (.istore_n 3, 1) := by decide +kernel
theorem dX3_seatAny_27 : decode cX3_seatAny 27 = .ok (.aload_n 1, 1) := by decide +kernel
theorem dX3_seatAny_28 : decode cX3_seatAny 28 = .ok (.iload_n 2, 1) := by decide +kernel
theorem dX3_seatAny_29 : decode cX3_seatAny 29 = .ok (.iload_n 3, 1) := by decide +kernel
theorem dX3_seatAny_30 : decode cX3_seatAny 30 = .ok (.invokevirtual 92, 3) := by decide +kernel
theorem dX3_seatAny_33 : decode cX3_seatAny 33 = .ok (.ireturn, 1) := by decide +kernel
set_option maxHeartbeats 4000000 in
set_option maxRecDepth 100000 in
theorem ctX3_seatAny {p1 : Int} {σ : jq_M} {res : Int} {σ' : jq_M} (hp1 : jq_com p1) (h : X3_seatAny p1 σ = some (res, σ')) : jq_MC jq_zX yX3_seatAny cX3_seatAny 4 (some .boolean) 3 86 [jR 60, jR p1] σ (some (jI res)) σ' := by
  refine jq_met (own := RX3) (L0 := [(0, jR 60), (1, jR p1)]) (by decide) rfl rfl rfl ?_
  intro X Γ hnl hlY hRT
  refine jq_use2 (P := fun r => jq_RT jq_zX X (some .boolean) (some (jI r.1)) r.2) ?_ h hRT
  intro K0 hK0
  unfold X3_seatAny
  refine jq_aload_n Γ dX3_seatAny_0 rfl 1 rfl (jq_at_0 (at_com hp1)) ?_
  refine jq_getI (J := 2) Γ (at_com hp1) fl_RX3_133 rfl rfl dX3_seatAny_1 ?_
  refine jq_if_ne (tgt := 9) Γ dX3_seatAny_4 rfl ?_ ?_
  · refine jq_aload_n Γ dX3_seatAny_9 rfl 0 rfl (jq_at_0 at_X_60) ?_
    refine jq_aload_n Γ dX3_seatAny_10 rfl 1 rfl (jq_at_0 (at_com hp1)) ?_
    refine jq_getI (J := 2) Γ (at_com hp1) fl_RX3_133 rfl rfl dX3_seatAny_11 ?_
    refine jq_cwI (jq_virt (avs := [jI (σ p1 2)]) (st := []) Γ hlY rfl ml_RX3_136 rfl at_X_60 rfl rfl rfl rfl rfl dX3_seatAny_14) (fun r σ' h => ctX3_draw h) (fun v1 s2 => ?_)
    refine jq_istore_n (L' := [(2, jI v1), (0, jR 60), (1, jR p1)]) Γ dX3_seatAny_17 rfl hnl rfl rfl ?_
    refine jq_aload_n Γ dX3_seatAny_18 rfl 1 rfl (jq_at_0 at_X_60) ?_
    refine jq_aload_n Γ dX3_seatAny_19 rfl 2 rfl (jq_at_0 (at_com hp1)) ?_
    refine jq_getI (J := 0) Γ (at_com hp1) fl_RX3_139 rfl rfl dX3_seatAny_20 ?_
    refine jq_cwI (jq_virt (avs := [jI (s2 p1 0)]) (st := []) Γ hlY rfl ml_RX3_136 rfl at_X_60 rfl rfl rfl rfl rfl dX3_seatAny_23) (fun r σ' h => ctX3_draw h) (fun v3 s4 => ?_)
    refine jq_istore_n (L' := [(3, jI v3), (2, jI v1), (0, jR 60), (1, jR p1)]) Γ dX3_seatAny_26 rfl hnl rfl rfl ?_
    refine jq_aload_n Γ dX3_seatAny_27 rfl 3 rfl (jq_at_0 (at_com hp1)) ?_
    refine jq_iload_n Γ dX3_seatAny_28 rfl 1 rfl ?_
    refine jq_iload_n Γ dX3_seatAny_29 rfl 0 rfl ?_
    refine jq_cwZ (jq_virt (avs := [jI v1, jI v3]) (st := []) Γ hlY rfl ml_RX3_92 rfl (at_com hp1) rfl rfl rfl rfl rfl dX3_seatAny_30) rfl (fun r σ' h => ctX1_seatOne hp1 h) (fun v5 s6 hz7 => ?_)
    exact jq_zreturn Γ (hz7) dX3_seatAny_33 (hK0 _)
  · refine jq_iconst Γ dX3_seatAny_7 rfl ?_
    exact jq_zreturn Γ (Or.inl rfl) dX3_seatAny_8 (hK0 _)


theorem dX3_act_0 : decode cX3_act 0 = .ok (.aload_n 1, 1) := by decide +kernel
theorem dX3_act_1 : decode cX3_act 1 = .ok (.getfield 43, 3) := by decide +kernel
theorem dX3_act_4 : decode cX3_act 4 = .ok (.getfield 68, 3) := by decide +kernel
theorem dX3_act_7 : decode cX3_act 7 = .ok (.iload_n 2, 1) := by decide +kernel
theorem dX3_act_8 : decode cX3_act 8 = .ok (.iaload, 1) := by decide +kernel
theorem dX3_act_9 : decode cX3_act 9 = .ok (.istore_n 3, 1) := by decide +kernel
theorem dX3_act_10 : decode cX3_act 10 = .ok (.aload_n 1, 1) := by decide +kernel
theorem dX3_act_11 : decode cX3_act 11 = .ok (.getfield 43, 3) := by decide +kernel
theorem dX3_act_14 : decode cX3_act 14 = .ok (.getfield 74, 3) := by decide +kernel
theorem dX3_act_17 : decode cX3_act 17 = .ok (.iload_n 2, 1) := by decide +kernel
theorem dX3_act_18 : decode cX3_act 18 = .ok (.iaload, 1) := by decide +kernel
theorem dX3_act_19 : decode cX3_act 19 = .ok (.istore 4, 2) := by decide +kernel
theorem dX3_act_21 : decode cX3_act 21 = .ok (.aload_n 1, 1) := by decide +kernel
theorem dX3_act_22 : decode cX3_act 22 = .ok (.getfield 43, 3) := by decide +kernel
theorem dX3_act_25 : decode cX3_act 25 = .ok (.getfield 54, 3) := by decide +kernel
theorem dX3_act_28 : decode cX3_act 28 = .ok (.iload_n 2, 1) := by decide +kernel
theorem dX3_act_29 : decode cX3_act 29 = .ok (.iaload, 1) := by decide +kernel
theorem dX3_act_30 : decode cX3_act 30 = .ok (.tableswitch 100 13 19 #[42, 50, 56, 68, 79, 86, 93], 42) := by decide +kernel
theorem dX3_act_72 : decode cX3_act 72 = .ok (.aload_n 1, 1) := by decide +kernel
theorem dX3_act_73 : decode cX3_act 73 = .ok (.iload_n 3, 1) := by decide +kernel
theorem dX3_act_74 : decode cX3_act 74 = .ok (.iload 4, 2) := by decide +kernel
theorem dX3_act_76 : decode cX3_act 76 = .ok (.invokevirtual 92, 3) := by decide +kernel
theorem dX3_act_79 : decode cX3_act 79 = .ok (.ireturn, 1) := by decide +kernel
theorem dX3_act_80 : decode cX3_act 80 = .ok (.aload_n 1, 1) := by decide +kernel
theorem dX3_act_81 : decode cX3_act 81 = .ok (.iload_n 3, 1) := by decide +kernel
theorem dX3_act_82 : decode cX3_act 82 = .ok (.invokevirtual 96, 3) := by decide +kernel
theorem dX3_act_85 : decode cX3_act 85 = .ok (.ireturn, 1) := by decide +kernel
theorem dX3_act_86 : decode cX3_act 86 = .ok (.aload_n 1, 1) := by decide +kernel
theorem dX3_act_87 : decode cX3_act 87 = .ok (.iload_n 3, 1) := by decide +kernel
theorem dX3_act_88 : decode cX3_act 88 = .ok (.iload 4, 2) := by decide +kernel
theorem dX3_act_90 : decode cX3_act 90 = .ok (.aload_n 1, 1) := by decide +kernel
theorem dX3_act_91 : decode cX3_act 91 = .ok (.getfield 77, 3) := by decide +kernel
theorem dX3_act_94 : decode cX3_act 94 = .ok (.invokevirtual 99, 3) := by decide +kernel
theorem dX3_act_97 : decode cX3_act 97 = .ok (.ireturn, 1) := by decide +kernel
theorem dX3_act_98 : decode cX3_act 98 = .ok (.aload_n 1, 1) := by decide +kernel
theorem dX3_act_99 : decode cX3_act 99 = .ok (.iload_n 3, 1) := by decide +kernel
theorem dX3_act_100 : decode cX3_act 100 = .ok (.aload_n 1, 1) := by decide +kernel
theorem dX3_act_101 : decode cX3_act 101 = .ok (.getfield 77, 3) := by decide +kernel
theorem dX3_act_104 : decode cX3_act 104 = .ok (.invokevirtual 103, 3) := by decide +kernel
theorem dX3_act_107 : decode cX3_act 107 = .ok (.iconst 1, 1) := by decide +kernel
theorem dX3_act_108 : decode cX3_act 108 = .ok (.ireturn, 1) := by decide +kernel
theorem dX3_act_109 : decode cX3_act 109 = .ok (.aload_n 0, 1) := by decide +kernel
theorem dX3_act_110 : decode cX3_act 110 = .ok (.aload_n 1, 1) := by decide +kernel
theorem dX3_act_111 : decode cX3_act 111 = .ok (.iload_n 3, 1) := by decide +kernel
theorem dX3_act_112 : decode cX3_act 112 = .ok (.invokevirtual 107, 3) := by decide +kernel
theorem dX3_act_115 : decode cX3_act 115 = .ok (.ireturn, 1) := by decide +kernel
theorem dX3_act_116 : decode cX3_act 116 = .ok (.aload_n 0, 1) := by decide +kernel
theorem dX3_act_117 : decode cX3_act 117 = .ok (.aload_n 1, 1) := by decide +kernel
theorem dX3_act_118 : decode cX3_act 118 = .ok (.iload_n 3, 1) := by decide +kernel
theorem dX3_act_119 : decode cX3_act 119 = .ok (.invokevirtual 110, 3) := by decide +kernel
theorem dX3_act_122 : decode cX3_act 122 = .ok (.ireturn, 1) := by decide +kernel
theorem dX3_act_123 : decode cX3_act 123 = .ok (.aload_n 0, 1) := by decide +kernel
theorem dX3_act_124 : decode cX3_act 124 = .ok (.aload_n 1, 1) := by decide +kernel
theorem dX3_act_125 : decode cX3_act 125 = .ok (.iload_n 3, 1) := by decide +kernel
theorem dX3_act_126 : decode cX3_act 126 = .ok (.invokevirtual 113, 3) := by decide +kernel
theorem dX3_act_129 : decode cX3_act 129 = .ok (.ireturn, 1) := by decide +kernel
theorem dX3_act_130 : decode cX3_act 130 = .ok (.aload_n 0, 1) := by decide +kernel
theorem dX3_act_131 : decode cX3_act 131 = .ok (.aload_n 1, 1) := by decide +kernel
theorem dX3_act_132 : decode cX3_act 132 = .ok (.invokevirtual 116, 3) := by decide +kernel
theorem dX3_act_135 : decode cX3_act 135 = .ok (.ireturn, 1) := by decide +kernel
set_option maxHeartbeats 4000000 in
set_option maxRecDepth 100000 in
theorem ctX3_act {p1 : Int} {p2 : Int} {σ : jq_M} {res : Int} {σ' : jq_M} (hp1 : jq_com p1) (h : X3_act p1 p2 σ = some (res, σ')) : jq_MC jq_zX yX3_act cX3_act 5 (some .boolean) 5 128 [jR 60, jR p1, jI p2] σ (some (jI res)) σ' := by
  refine jq_met (own := RX3) (L0 := [(0, jR 60), (1, jR p1), (2, jI p2)]) (by decide) rfl rfl rfl ?_
  intro X Γ hnl hlY hRT
  refine jq_use2 (P := fun r => jq_RT jq_zX X (some .boolean) (some (jI r.1)) r.2) ?_ h hRT
  intro K0 hK0
  unfold X3_act
  refine jq_aload_n Γ dX3_act_0 rfl 1 rfl (jq_at_0 (at_com hp1)) ?_
  refine jq_getR (v := (p1 + 13)) Γ hlY (at_com hp1) fl_RX3_43 rfl rfl (ly_X1_steps hp1) dX3_act_1 ?_
  refine jq_getR (v := ((p1 + 13) + 2)) Γ hlY (at_stp (stp_com hp1)) fl_RX3_68 rfl rfl (ly_X7_first (stp_com hp1)) dX3_act_4 ?_
  refine jq_iload_n Γ dX3_act_7 rfl 2 rfl ?_
  refine jq_iald Γ (at_stp_2 (stp_com hp1)) rfl dX3_act_8 (fun v1 => ?_)
  refine jq_istore_n (L' := [(3, jI v1), (0, jR 60), (1, jR p1), (2, jI p2)]) Γ dX3_act_9 rfl hnl rfl rfl ?_
  refine jq_aload_n Γ dX3_act_10 rfl 2 rfl (jq_at_0 (at_com hp1)) ?_
  refine jq_getR (v := (p1 + 13)) Γ hlY (at_com hp1) fl_RX3_43 rfl rfl (ly_X1_steps hp1) dX3_act_11 ?_
  refine jq_getR (v := ((p1 + 13) + 3)) Γ hlY (at_stp (stp_com hp1)) fl_RX3_74 rfl rfl (ly_X7_second (stp_com hp1)) dX3_act_14 ?_
  refine jq_iload_n Γ dX3_act_17 rfl 3 rfl ?_
  refine jq_iald Γ (at_stp_3 (stp_com hp1)) rfl dX3_act_18 (fun v2 => ?_)
  refine jq_istore (L' := [(4, jI v2), (3, jI v1), (0, jR 60), (1, jR p1), (2, jI p2)]) Γ dX3_act_19 hnl rfl rfl ?_
  refine jq_aload_n Γ dX3_act_21 rfl 3 rfl (jq_at_0 (at_com hp1)) ?_
  refine jq_getR (v := (p1 + 13)) Γ hlY (at_com hp1) fl_RX3_43 rfl rfl (ly_X1_steps hp1) dX3_act_22 ?_
  refine jq_getR (v := ((p1 + 13) + 1)) Γ hlY (at_stp (stp_com hp1)) fl_RX3_54 rfl rfl (ly_X7_words (stp_com hp1)) dX3_act_25 ?_
  refine jq_iload_n Γ dX3_act_28 rfl 4 rfl ?_
  refine jq_iald Γ (at_stp_1 (stp_com hp1)) rfl dX3_act_29 (fun v3 => ?_)
  refine jq_split (fun hc4 => ?_) (fun hn13_30 => ?_)
  · refine jq_tabIn (tgt := 72) Γ dX3_act_30 hc4 rfl rfl rfl ?_
    refine jq_aload_n Γ dX3_act_72 rfl 3 rfl (jq_at_0 (at_com hp1)) ?_
    refine jq_iload_n Γ dX3_act_73 rfl 1 rfl ?_
    refine jq_iload Γ dX3_act_74 0 rfl ?_
    refine jq_cwZ (jq_virt (avs := [jI v1, jI v2]) (st := []) Γ hlY rfl ml_RX3_92 rfl (at_com hp1) rfl rfl rfl rfl rfl dX3_act_76) rfl (fun r σ' h => ctX1_seatOne hp1 h) (fun v5 s6 hz7 => ?_)
    exact jq_zreturn Γ (hz7) dX3_act_79 (hK0 _)
  · refine jq_split (fun hc8 => ?_) (fun hn14_30 => ?_)
    · refine jq_tabIn (tgt := 80) Γ dX3_act_30 hc8 rfl rfl rfl ?_
      refine jq_aload_n Γ dX3_act_80 rfl 3 rfl (jq_at_0 (at_com hp1)) ?_
      refine jq_iload_n Γ dX3_act_81 rfl 1 rfl ?_
      refine jq_cwZ (jq_virt (avs := [jI v1]) (st := []) Γ hlY rfl ml_RX3_96 rfl (at_com hp1) rfl rfl rfl rfl rfl dX3_act_82) rfl (fun r σ' h => ctX1_raiseOne hp1 h) (fun v9 s10 hz11 => ?_)
      exact jq_zreturn Γ (hz11) dX3_act_85 (hK0 _)
    · refine jq_split (fun hc12 => ?_) (fun hn15_30 => ?_)
      · refine jq_tabIn (tgt := 86) Γ dX3_act_30 hc12 rfl rfl rfl ?_
        refine jq_aload_n Γ dX3_act_86 rfl 3 rfl (jq_at_0 (at_com hp1)) ?_
        refine jq_iload_n Γ dX3_act_87 rfl 1 rfl ?_
        refine jq_iload Γ dX3_act_88 0 rfl ?_
        refine jq_aload_n Γ dX3_act_90 rfl 3 rfl (jq_at_0 (at_com hp1)) ?_
        refine jq_getR (v := (p1 + 3)) Γ hlY (at_com hp1) fl_RX3_77 rfl rfl (ly_X1_seats hp1) dX3_act_91 ?_
        refine jq_cwZ (jq_virt (avs := [jI v1, jI v2, jR (p1 + 3)]) (st := []) Γ hlY rfl ml_RX3_99 rfl (at_com hp1) rfl rfl rfl rfl rfl dX3_act_94) rfl (fun r σ' h => ctX1_swapTwo hp1 (row_com hp1) h) (fun v13 s14 hz15 => ?_)
        exact jq_zreturn Γ (hz15) dX3_act_97 (hK0 _)
      · refine jq_split (fun hc16 => ?_) (fun hn16_30 => ?_)
        · refine jq_tabIn (tgt := 98) Γ dX3_act_30 hc16 rfl rfl rfl ?_
          refine jq_aload_n Γ dX3_act_98 rfl 3 rfl (jq_at_0 (at_com hp1)) ?_
          refine jq_iload_n Γ dX3_act_99 rfl 1 rfl ?_
          refine jq_aload_n Γ dX3_act_100 rfl 3 rfl (jq_at_0 (at_com hp1)) ?_
          refine jq_getR (v := (p1 + 3)) Γ hlY (at_com hp1) fl_RX3_77 rfl rfl (ly_X1_seats hp1) dX3_act_101 ?_
          refine jq_cwV (jq_virt (avs := [jI v1, jR (p1 + 3)]) (st := []) Γ hlY rfl ml_RX3_103 rfl (at_com hp1) rfl rfl rfl rfl rfl dX3_act_104) (fun σ' h => ctX1_turnAll hp1 (row_com hp1) h) (fun s17 => ?_)
          refine jq_iconst Γ dX3_act_107 rfl ?_
          exact jq_zreturn Γ (Or.inr rfl) dX3_act_108 (hK0 _)
        · refine jq_split (fun hc18 => ?_) (fun hn17_30 => ?_)
          · refine jq_tabIn (tgt := 109) Γ dX3_act_30 hc18 rfl rfl rfl ?_
            refine jq_aload_n Γ dX3_act_109 rfl 2 rfl (jq_at_0 at_X_60) ?_
            refine jq_aload_n Γ dX3_act_110 rfl 3 rfl (jq_at_0 (at_com hp1)) ?_
            refine jq_iload_n Γ dX3_act_111 rfl 1 rfl ?_
            refine jq_cwZ (jq_virt (avs := [jR p1, jI v1]) (st := []) Γ hlY rfl ml_RX3_107 rfl at_X_60 rfl rfl rfl rfl rfl dX3_act_112) rfl (fun r σ' h => ctX3_spend hp1 h) (fun v19 s20 hz21 => ?_)
            exact jq_zreturn Γ (hz21) dX3_act_115 (hK0 _)
          · refine jq_split (fun hc22 => ?_) (fun hn18_30 => ?_)
            · refine jq_tabIn (tgt := 116) Γ dX3_act_30 hc22 rfl rfl rfl ?_
              refine jq_aload_n Γ dX3_act_116 rfl 2 rfl (jq_at_0 at_X_60) ?_
              refine jq_aload_n Γ dX3_act_117 rfl 3 rfl (jq_at_0 (at_com hp1)) ?_
              refine jq_iload_n Γ dX3_act_118 rfl 1 rfl ?_
              refine jq_cwZ (jq_virt (avs := [jR p1, jI v1]) (st := []) Γ hlY rfl ml_RX3_110 rfl at_X_60 rfl rfl rfl rfl rfl dX3_act_119) rfl (fun r σ' h => ctX3_agreeTo hp1 h) (fun v23 s24 hz25 => ?_)
              exact jq_zreturn Γ (hz25) dX3_act_122 (hK0 _)
            · refine jq_split (fun hc26 => ?_) (fun hn19_30 => ?_)
              · refine jq_tabIn (tgt := 123) Γ dX3_act_30 hc26 rfl rfl rfl ?_
                refine jq_aload_n Γ dX3_act_123 rfl 2 rfl (jq_at_0 at_X_60) ?_
                refine jq_aload_n Γ dX3_act_124 rfl 3 rfl (jq_at_0 (at_com hp1)) ?_
                refine jq_iload_n Γ dX3_act_125 rfl 1 rfl ?_
                refine jq_cwZ (jq_virt (avs := [jR p1, jI v1]) (st := []) Γ hlY rfl ml_RX3_113 rfl at_X_60 rfl rfl rfl rfl rfl dX3_act_126) rfl (fun r σ' h => ctX3_letGo hp1 h) (fun v27 s28 hz29 => ?_)
                exact jq_zreturn Γ (hz29) dX3_act_129 (hK0 _)
              · refine jq_tabOut (tgt := 130) Γ dX3_act_30 (by omega) rfl ?_
                refine jq_aload_n Γ dX3_act_130 rfl 2 rfl (jq_at_0 at_X_60) ?_
                refine jq_aload_n Γ dX3_act_131 rfl 3 rfl (jq_at_0 (at_com hp1)) ?_
                refine jq_cwZ (jq_virt (avs := [jR p1]) (st := []) Γ hlY rfl ml_RX3_116 rfl at_X_60 rfl rfl rfl rfl rfl dX3_act_132) rfl (fun r σ' h => ctX3_seatAny hp1 h) (fun v30 s31 hz32 => ?_)
                exact jq_zreturn Γ (hz32) dX3_act_135 (hK0 _)


theorem dX3_run_0 : decode cX3_run 0 = .ok (.aload_n 0, 1) := by decide +kernel
theorem dX3_run_1 : decode cX3_run 1 = .ok (.iconst 0, 1) := by decide +kernel
theorem dX3_run_2 : decode cX3_run 2 = .ok (.putfield 36, 3) := by decide +kernel
theorem dX3_run_5 : decode cX3_run 5 = .ok (.aload_n 0, 1) := by decide +kernel
theorem dX3_run_6 : decode cX3_run 6 = .ok (.iconst 0, 1) := by decide +kernel
theorem dX3_run_7 : decode cX3_run 7 = .ok (.putfield 15, 3) := by decide +kernel
theorem dX3_run_10 : decode cX3_run 10 = .ok (.aload_n 0, 1) := by decide +kernel
theorem dX3_run_11 : decode cX3_run 11 = .ok (.iconst 0, 1) := by decide +kernel
theorem dX3_run_12 : decode cX3_run 12 = .ok (.putfield 19, 3) := by decide +kernel
theorem dX3_run_15 : decode cX3_run 15 = .ok (.aload_n 0, 1) := by decide +kernel
theorem dX3_run_16 : decode cX3_run 16 = .ok (.iconst 0, 1) := by decide +kernel
theorem dX3_run_17 : decode cX3_run 17 = .ok (.putfield 22, 3) := by decide +kernel
theorem dX3_run_20 : decode cX3_run 20 = .ok (.aload_n 0, 1) := by decide +kernel
theorem dX3_run_21 : decode cX3_run 21 = .ok (.iconst 0, 1) := by decide +kernel
theorem dX3_run_22 : decode cX3_run 22 = .ok (.putfield 25, 3) := by decide +kernel
theorem dX3_run_25 : decode cX3_run 25 = .ok (.aload_n 0, 1) := by decide +kernel
theorem dX3_run_26 : decode cX3_run 26 = .ok (.iconst 0, 1) := by decide +kernel
theorem dX3_run_27 : decode cX3_run 27 = .ok (.putfield 28, 3) := by decide +kernel
theorem dX3_run_30 : decode cX3_run 30 = .ok (.aload_n 0, 1) := by decide +kernel
theorem dX3_run_31 : decode cX3_run 31 = .ok (.iload_n 2, 1) := by decide +kernel
theorem dX3_run_32 : decode cX3_run 32 = .ok (.putfield 39, 3) := by decide +kernel
theorem dX3_run_35 : decode cX3_run 35 = .ok (.iconst 0, 1) := by decide +kernel
theorem dX3_run_36 : decode cX3_run 36 = .ok (.istore_n 3, 1) := by decide +kernel
theorem dX3_run_37 : decode cX3_run 37 = .ok (.iconst 0, 1) := by decide +kernel
theorem dX3_run_38 : decode cX3_run 38 = .ok (.istore 4, 2) := by decide +kernel
theorem dX3_run_40 : decode cX3_run 40 = .ok (.iload 4, 2) := by decide +kernel
theorem dX3_run_42 : decode cX3_run 42 = .ok (.ldc 42, 2) := by decide +kernel
theorem dX3_run_44 : decode cX3_run 44 = .ok (.if_icmp .ge 188, 3) := by decide +kernel
theorem dX3_run_47 : decode cX3_run 47 = .ok (.iload_n 3, 1) := by decide +kernel
theorem dX3_run_48 : decode cX3_run 48 = .ok (.aload_n 1, 1) := by decide +kernel
theorem dX3_run_49 : decode cX3_run 49 = .ok (.getfield 43, 3) := by decide +kernel
theorem dX3_run_52 : decode cX3_run 52 = .ok (.getfield 49, 3) := by decide +kernel
theorem dX3_run_55 : decode cX3_run 55 = .ok (.if_icmp .ge 177, 3) := by decide +kernel
theorem dX3_run_58 : decode cX3_run 58 = .ok (.aload_n 1, 1) := by decide +kernel
theorem dX3_run_59 : decode cX3_run 59 = .ok (.getfield 43, 3) := by decide +kernel
theorem dX3_run_62 : decode cX3_run 62 = .ok (.getfield 54, 3) := by decide +kernel
theorem dX3_run_65 : decode cX3_run 65 = .ok (.iload_n 3, 1) := by decide +kernel
theorem dX3_run_66 : decode cX3_run 66 = .ok (.iaload, 1) := by decide +kernel
theorem dX3_run_67 : decode cX3_run 67 = .ok (.istore 5, 2) := by decide +kernel
theorem dX3_run_69 : decode cX3_run 69 = .ok (.iload 5, 2) := by decide +kernel
theorem dX3_run_71 : decode cX3_run 71 = .ok (.bipush 26, 2) := by decide +kernel
theorem dX3_run_73 : decode cX3_run 73 = .ok (.if_icmp .ne 16, 3) := by decide +kernel
theorem dX3_run_76 : decode cX3_run 76 = .ok (.aload_n 0, 1) := by decide +kernel
theorem dX3_run_77 : decode cX3_run 77 = .ok (.aload_n 1, 1) := by decide +kernel
theorem dX3_run_78 : decode cX3_run 78 = .ok (.getfield 43, 3) := by decide +kernel
theorem dX3_run_81 : decode cX3_run 81 = .ok (.iload_n 3, 1) := by decide +kernel
theorem dX3_run_82 : decode cX3_run 82 = .ok (.invokevirtual 57, 3) := by decide +kernel
theorem dX3_run_85 : decode cX3_run 85 = .ok (.istore_n 3, 1) := by decide +kernel
theorem dX3_run_86 : decode cX3_run 86 = .ok (.goto 140, 3) := by decide +kernel
theorem dX3_run_89 : decode cX3_run 89 = .ok (.aload_n 0, 1) := by decide +kernel
theorem dX3_run_90 : decode cX3_run 90 = .ok (.getfield 36, 3) := by decide +kernel
theorem dX3_run_93 : decode cX3_run 93 = .ok (.sipush 300, 3) := by decide +kernel
theorem dX3_run_96 : decode cX3_run 96 = .ok (.if_icmp .ne 9, 3) := by decide +kernel
theorem dX3_run_99 : decode cX3_run 99 = .ok (.aload_n 0, 1) := by decide +kernel
theorem dX3_run_100 : decode cX3_run 100 = .ok (.iconst 1, 1) := by decide +kernel
theorem dX3_run_101 : decode cX3_run 101 = .ok (.putfield 28, 3) := by decide +kernel
theorem dX3_run_104 : decode cX3_run 104 = .ok (.return_, 1) := by decide +kernel
theorem dX3_run_105 : decode cX3_run 105 = .ok (.aload_n 0, 1) := by decide +kernel
theorem dX3_run_106 : decode cX3_run 106 = .ok (.dup, 1) := by decide +kernel
theorem dX3_run_107 : decode cX3_run 107 = .ok (.getfield 36, 3) := by decide +kernel
theorem dX3_run_110 : decode cX3_run 110 = .ok (.iconst 1, 1) := by decide +kernel
theorem dX3_run_111 : decode cX3_run 111 = .ok (.iadd, 1) := by decide +kernel
theorem dX3_run_112 : decode cX3_run 112 = .ok (.putfield 36, 3) := by decide +kernel
theorem dX3_run_115 : decode cX3_run 115 = .ok (.iload 5, 2) := by decide +kernel
theorem dX3_run_117 : decode cX3_run 117 = .ok (.lookupswitch 80 #[(21, 36), (25, 62), (27, 35)], 35) := by decide +kernel
theorem dX3_run_152 : decode cX3_run 152 = .ok (.return_, 1) := by decide +kernel
theorem dX3_run_153 : decode cX3_run 153 = .ok (.aload_n 0, 1) := by decide +kernel
theorem dX3_run_154 : decode cX3_run 154 = .ok (.aload_n 1, 1) := by decide +kernel
theorem dX3_run_155 : decode cX3_run 155 = .ok (.iload_n 3, 1) := by decide +kernel
theorem dX3_run_156 : decode cX3_run 156 = .ok (.invokevirtual 61, 3) := by decide +kernel
theorem dX3_run_159 : decode cX3_run 159 = .ok (.ifCond .eq 7, 3) := by decide +kernel
theorem dX3_run_162 : decode cX3_run 162 = .ok (.iload_n 3, 1) := by decide +kernel
theorem dX3_run_163 : decode cX3_run 163 = .ok (.goto 12, 3) := by decide +kernel
theorem dX3_run_166 : decode cX3_run 166 = .ok (.aload_n 1, 1) := by decide +kernel
theorem dX3_run_167 : decode cX3_run 167 = .ok (.getfield 43, 3) := by decide +kernel
theorem dX3_run_170 : decode cX3_run 170 = .ok (.getfield 65, 3) := by decide +kernel
theorem dX3_run_173 : decode cX3_run 173 = .ok (.iload_n 3, 1) := by decide +kernel
theorem dX3_run_174 : decode cX3_run 174 = .ok (.iaload, 1) := by decide +kernel
theorem dX3_run_175 : decode cX3_run 175 = .ok (.istore_n 3, 1) := by decide +kernel
theorem dX3_run_176 : decode cX3_run 176 = .ok (.goto 47, 3) := by decide +kernel
theorem dX3_run_179 : decode cX3_run 179 = .ok (.aload_n 0, 1) := by decide +kernel
theorem dX3_run_180 : decode cX3_run 180 = .ok (.getfield 9, 3) := by decide +kernel
theorem dX3_run_183 : decode cX3_run 183 = .ok (.iload_n 3, 1) := by decide +kernel
theorem dX3_run_184 : decode cX3_run 184 = .ok (.aload_n 1, 1) := by decide +kernel
theorem dX3_run_185 : decode cX3_run 185 = .ok (.getfield 43, 3) := by decide +kernel
theorem dX3_run_188 : decode cX3_run 188 = .ok (.getfield 68, 3) := by decide +kernel
theorem dX3_run_191 : decode cX3_run 191 = .ok (.iload_n 3, 1) := by decide +kernel
theorem dX3_run_192 : decode cX3_run 192 = .ok (.iaload, 1) := by decide +kernel
theorem dX3_run_193 : decode cX3_run 193 = .ok (.iastore, 1) := by decide +kernel
theorem dX3_run_194 : decode cX3_run 194 = .ok (.goto 29, 3) := by decide +kernel
theorem dX3_run_197 : decode cX3_run 197 = .ok (.aload_n 0, 1) := by decide +kernel
theorem dX3_run_198 : decode cX3_run 198 = .ok (.dup, 1) := by decide +kernel
theorem dX3_run_199 : decode cX3_run 199 = .ok (.getfield 15, 3) := by decide +kernel
theorem dX3_run_202 : decode cX3_run 202 = .ok (.aload_n 0, 1) := by decide +kernel
theorem dX3_run_203 : decode cX3_run 203 = .ok (.aload_n 1, 1) := by decide +kernel
theorem dX3_run_204 : decode cX3_run 204 = .ok (.iload_n 3, 1) := by decide +kernel
theorem dX3_run_205 : decode cX3_run 205 = .ok (.invokevirtual 71, 3) := by decide +kernel
theorem dX3_run_208 : decode cX3_run 208 = .ok (.ifCond .ne 7, 3) := by decide +kernel
theorem dX3_run_211 : decode cX3_run 211 = .ok (.iconst 1, 1) := by decide +kernel
theorem dX3_run_212 : decode cX3_run 212 = .ok (.goto 4, 3) := by decide +kernel
theorem dX3_run_215 : decode cX3_run 215 = .ok (.iconst 0, 1) := by decide +kernel
theorem dX3_run_216 : decode cX3_run 216 = .ok (.invokestatic 32, 3) := by decide +kernel
theorem dX3_run_219 : decode cX3_run 219 = .ok (.iadd, 1) := by decide +kernel
theorem dX3_run_220 : decode cX3_run 220 = .ok (.putfield 15, 3) := by decide +kernel
theorem dX3_run_223 : decode cX3_run 223 = .ok (.iinc 3 1, 3) := by decide +kernel
theorem dX3_run_226 : decode cX3_run 226 = .ok (.iinc 4 1, 3) := by decide +kernel
theorem dX3_run_229 : decode cX3_run 229 = .ok (.goto (-189), 3) := by decide +kernel
theorem dX3_run_232 : decode cX3_run 232 = .ok (.return_, 1) := by decide +kernel
set_option maxHeartbeats 4000000 in
set_option maxRecDepth 100000 in
theorem ctX3_run {p1 : Int} {p2 : Int} {σ : jq_M} {σ' : jq_M} (hp1 : jq_com p1) (h : X3_run p1 p2 σ = some σ') : jq_MC jq_zX yX3_run cX3_run 6 none 6 156 [jR 60, jR p1, jI p2] σ none σ' := by
  refine jq_met (own := RX3) (L0 := [(0, jR 60), (1, jR p1), (2, jI p2)]) (by decide) rfl rfl rfl ?_
  intro X Γ hnl hlY hRT
  refine jq_use2 (P := fun r => jq_RT jq_zX X none none r) ?_ h hRT
  intro K0 hK0
  unfold X3_run
  refine jq_aload_n Γ dX3_run_0 rfl 0 rfl (jq_at_0 at_X_60) ?_
  refine jq_iconst Γ dX3_run_1 rfl ?_
  refine jq_putI Γ at_X_60 fl_RX3_36 rfl rfl dX3_run_2 (fun s1 => ?_)
  refine jq_aload_n Γ dX3_run_5 rfl 0 rfl (jq_at_0 at_X_60) ?_
  refine jq_iconst Γ dX3_run_6 rfl ?_
  refine jq_putI Γ at_X_60 fl_RX3_15 rfl rfl dX3_run_7 (fun s2 => ?_)
  refine jq_aload_n Γ dX3_run_10 rfl 0 rfl (jq_at_0 at_X_60) ?_
  refine jq_iconst Γ dX3_run_11 rfl ?_
  refine jq_putI Γ at_X_60 fl_RX3_19 rfl rfl dX3_run_12 (fun s3 => ?_)
  refine jq_aload_n Γ dX3_run_15 rfl 0 rfl (jq_at_0 at_X_60) ?_
  refine jq_iconst Γ dX3_run_16 rfl ?_
  refine jq_putI Γ at_X_60 fl_RX3_22 rfl rfl dX3_run_17 (fun s4 => ?_)
  refine jq_aload_n Γ dX3_run_20 rfl 0 rfl (jq_at_0 at_X_60) ?_
  refine jq_iconst Γ dX3_run_21 rfl ?_
  refine jq_putI Γ at_X_60 fl_RX3_25 rfl rfl dX3_run_22 (fun s5 => ?_)
  refine jq_aload_n Γ dX3_run_25 rfl 0 rfl (jq_at_0 at_X_60) ?_
  refine jq_iconst Γ dX3_run_26 rfl ?_
  refine jq_putZ Γ at_X_60 fl_RX3_28 rfl rfl (Or.inl rfl) dX3_run_27 (fun s6 => ?_)
  refine jq_aload_n Γ dX3_run_30 rfl 0 rfl (jq_at_0 at_X_60) ?_
  refine jq_iload_n Γ dX3_run_31 rfl 2 rfl ?_
  refine jq_putI Γ at_X_60 fl_RX3_39 rfl rfl dX3_run_32 (fun s7 => ?_)
  refine jq_iconst Γ dX3_run_35 rfl ?_
  refine jq_istore_n (L' := [(3, jI 0), (0, jR 60), (1, jR p1), (2, jI p2)]) Γ dX3_run_36 rfl hnl rfl rfl ?_
  refine jq_iconst Γ dX3_run_37 rfl ?_
  refine jq_istore (L' := [(4, jI 0), (3, jI 0), (0, jR 60), (1, jR p1), (2, jI p2)]) Γ dX3_run_38 hnl rfl rfl ?_
  refine jq_sub Γ (L' := [(0, jR 60), (1, jR p1), (3, jI 0), (4, jI 0)]) [2, 3, 1, 0] rfl ?_
  refine jq_loop2 (C := fun (t8 : Int × Int × jq_M) => jq_V jq_zX X (jq_zN jq_zX) t8.2.2 40 [(0, jR 60), (1, jR p1), (3, jI t8.1), (4, jI t8.2.1)] []) (KX := Sum.elim (fun (e41 : jq_M) => jq_V jq_zX X (jq_zN jq_zX) e41 99 [(0, jR 60)] []) (Sum.elim (fun (e43 : jq_M) => jq_V jq_zX X (jq_zN jq_zX) e43 152 [] []) (fun (e44 : jq_M) => jq_V jq_zX X (jq_zN jq_zX) e44 232 [] []))) ?_ ?_ (0, 0, s7)
  · intro K40_t8 hCt8 hXt8 t8
    unfold X3_run_b40
    have hj216_1020 : ∀ (j28 : Int) (j29 : Int) (j30 : Int) (j31 : Int) (s33 : jq_M) (hz32 : j31 = 0 ∨ j31 = 1), jq_J (X3_run_j216 p1 j28 j29 j30 j31 s33) K40_t8 (jq_V jq_zX X (jq_zN jq_zX) s33 216 [(0, jR 60), (1, jR p1), (3, jI j28), (4, jI j29)] [jI j31, jI j30, jR 60]) := by
      intro j28 j29 j30 j31 s33 hz32
      unfold X3_run_j216
      refine jq_cpI (jq_nest (avs := [jI j31]) (st := [jI j30, jR 60]) Γ hlY rfl ml_RX3_32 rfl rfl rfl rfl rfl dX3_run_216) (fun r h => ctX10_asNumber h) (fun v34 => ?_)
      refine jq_iadd Γ dX3_run_219 ?_
      refine jq_putI Γ at_X_60 fl_RX3_15 rfl rfl dX3_run_220 (fun s35 => ?_)
      refine jq_iincN (L' := fun v36 => [(3, jI v36), (0, jR 60), (1, jR p1), (4, jI j29)]) Γ dX3_run_223 2 rfl hnl rfl (fun _ => rfl) (fun v36 => ?_)
      refine jq_iincN (L' := fun v37 => [(4, jI v37), (3, jI v36), (0, jR 60), (1, jR p1)]) Γ dX3_run_226 3 rfl hnl rfl (fun _ => rfl) (fun v37 => ?_)
      refine jq_goto Γ (tgt := 40) dX3_run_229 rfl ?_
      refine jq_sub Γ (L' := [(0, jR 60), (1, jR p1), (3, jI v36), (4, jI v37)]) [2, 3, 1, 0] rfl ?_
      exact jq_done (hCt8 (v36, v37, s35))
    refine jq_iload Γ dX3_run_40 3 rfl ?_
    refine jq_ldc Γ 1000000 dX3_run_42 kc_RX3_42 rfl ?_
    refine jq_icmp_ge (tgt := 232) Γ dX3_run_44 rfl ?_ ?_
    · refine jq_sub Γ (L' := []) [] rfl ?_
      exact jq_done (hXt8 (.inr (.inr t8.2.2)))
    · refine jq_iload_n Γ dX3_run_47 rfl 2 rfl ?_
      refine jq_aload_n Γ dX3_run_48 rfl 1 rfl (jq_at_0 (at_com hp1)) ?_
      refine jq_getR (v := (p1 + 13)) Γ hlY (at_com hp1) fl_RX3_43 rfl rfl (ly_X1_steps hp1) dX3_run_49 ?_
      refine jq_getI (J := 2) Γ (at_stp (stp_com hp1)) fl_RX3_49 rfl rfl dX3_run_52 ?_
      refine jq_icmp_ge (tgt := 232) Γ dX3_run_55 rfl ?_ ?_
      · refine jq_sub Γ (L' := []) [] rfl ?_
        exact jq_done (hXt8 (.inr (.inr t8.2.2)))
      · refine jq_aload_n Γ dX3_run_58 rfl 1 rfl (jq_at_0 (at_com hp1)) ?_
        refine jq_getR (v := (p1 + 13)) Γ hlY (at_com hp1) fl_RX3_43 rfl rfl (ly_X1_steps hp1) dX3_run_59 ?_
        refine jq_getR (v := ((p1 + 13) + 1)) Γ hlY (at_stp (stp_com hp1)) fl_RX3_54 rfl rfl (ly_X7_words (stp_com hp1)) dX3_run_62 ?_
        refine jq_iload_n Γ dX3_run_65 rfl 2 rfl ?_
        refine jq_iald Γ (at_stp_1 (stp_com hp1)) rfl dX3_run_66 (fun v9 => ?_)
        refine jq_istore (L' := [(5, jI v9), (0, jR 60), (1, jR p1), (3, jI t8.1), (4, jI t8.2.1)]) Γ dX3_run_67 hnl rfl rfl ?_
        refine jq_iload Γ dX3_run_69 0 rfl ?_
        refine jq_bipush Γ dX3_run_71 rfl ?_
        refine jq_icmp_ne (tgt := 89) Γ dX3_run_73 rfl ?_ ?_
        · refine jq_aload_n Γ dX3_run_89 rfl 1 rfl (jq_at_0 at_X_60) ?_
          refine jq_getI (J := 0) Γ at_X_60 fl_RX3_36 rfl rfl dX3_run_90 ?_
          refine jq_sipush Γ dX3_run_93 rfl ?_
          refine jq_icmp_ne (tgt := 105) Γ dX3_run_96 rfl ?_ ?_
          · refine jq_aload_n Γ dX3_run_105 rfl 1 rfl (jq_at_0 at_X_60) ?_
            refine jq_dup Γ dX3_run_106 rfl ?_
            refine jq_getI (J := 0) Γ at_X_60 fl_RX3_36 rfl rfl dX3_run_107 ?_
            refine jq_iconst Γ dX3_run_110 rfl ?_
            refine jq_iadd Γ dX3_run_111 ?_
            refine jq_putI Γ at_X_60 fl_RX3_36 rfl rfl dX3_run_112 (fun s10 => ?_)
            refine jq_iload Γ dX3_run_115 0 rfl ?_
            refine jq_split (fun hc11 => ?_) (fun hn21_117 => ?_)
            · refine jq_look (tgt := 153) Γ dX3_run_117 rfl (by rw [hc11] <;> rfl) rfl ?_
              refine jq_aload_n Γ dX3_run_153 rfl 1 rfl (jq_at_0 at_X_60) ?_
              refine jq_aload_n Γ dX3_run_154 rfl 2 rfl (jq_at_0 (at_com hp1)) ?_
              refine jq_iload_n Γ dX3_run_155 rfl 3 rfl ?_
              refine jq_cpZ (jq_virt (avs := [jR p1, jI t8.1]) (st := []) Γ hlY rfl ml_RX3_61 rfl at_X_60 rfl rfl rfl rfl rfl dX3_run_156) rfl (fun r h => ctX3_isSo hp1 h) (fun v12 hz13 => ?_)
              refine jq_if_eq (tgt := 166) Γ dX3_run_159 rfl ?_ ?_
              · refine jq_aload_n Γ dX3_run_166 rfl 2 rfl (jq_at_0 (at_com hp1)) ?_
                refine jq_getR (v := (p1 + 13)) Γ hlY (at_com hp1) fl_RX3_43 rfl rfl (ly_X1_steps hp1) dX3_run_167 ?_
                refine jq_getR (v := ((p1 + 13) + 4)) Γ hlY (at_stp (stp_com hp1)) fl_RX3_65 rfl rfl (ly_X7_mates (stp_com hp1)) dX3_run_170 ?_
                refine jq_iload_n Γ dX3_run_173 rfl 3 rfl ?_
                refine jq_iald Γ (at_stp_4 (stp_com hp1)) rfl dX3_run_174 (fun v14 => ?_)
                refine jq_istore_n (L' := [(3, jI v14), (5, jI v9), (0, jR 60), (1, jR p1), (4, jI t8.2.1)]) Γ dX3_run_175 rfl hnl rfl rfl ?_
                refine jq_goto Γ (tgt := 223) dX3_run_176 rfl ?_
                refine jq_iincN (L' := fun v15 => [(3, jI v15), (5, jI v9), (0, jR 60), (1, jR p1), (4, jI t8.2.1)]) Γ dX3_run_223 0 rfl hnl rfl (fun _ => rfl) (fun v15 => ?_)
                refine jq_iincN (L' := fun v16 => [(4, jI v16), (3, jI v15), (5, jI v9), (0, jR 60), (1, jR p1)]) Γ dX3_run_226 4 rfl hnl rfl (fun _ => rfl) (fun v16 => ?_)
                refine jq_goto Γ (tgt := 40) dX3_run_229 rfl ?_
                refine jq_sub Γ (L' := [(0, jR 60), (1, jR p1), (3, jI v15), (4, jI v16)]) [3, 4, 1, 0] rfl ?_
                exact jq_done (hCt8 (v15, v16, s10))
              · refine jq_iload_n Γ dX3_run_162 rfl 3 rfl ?_
                refine jq_goto Γ (tgt := 175) dX3_run_163 rfl ?_
                refine jq_istore_n (L' := [(3, jI t8.1), (5, jI v9), (0, jR 60), (1, jR p1), (4, jI t8.2.1)]) Γ dX3_run_175 rfl hnl rfl rfl ?_
                refine jq_goto Γ (tgt := 223) dX3_run_176 rfl ?_
                refine jq_iincN (L' := fun v17 => [(3, jI v17), (5, jI v9), (0, jR 60), (1, jR p1), (4, jI t8.2.1)]) Γ dX3_run_223 0 rfl hnl rfl (fun _ => rfl) (fun v17 => ?_)
                refine jq_iincN (L' := fun v18 => [(4, jI v18), (3, jI v17), (5, jI v9), (0, jR 60), (1, jR p1)]) Γ dX3_run_226 4 rfl hnl rfl (fun _ => rfl) (fun v18 => ?_)
                refine jq_goto Γ (tgt := 40) dX3_run_229 rfl ?_
                refine jq_sub Γ (L' := [(0, jR 60), (1, jR p1), (3, jI v17), (4, jI v18)]) [3, 4, 1, 0] rfl ?_
                exact jq_done (hCt8 (v17, v18, s10))
            · refine jq_split (fun hc19 => ?_) (fun hn25_117 => ?_)
              · refine jq_look (tgt := 179) Γ dX3_run_117 rfl (by rw [hc19] <;> rfl) rfl ?_
                refine jq_aload_n Γ dX3_run_179 rfl 1 rfl (jq_at_0 at_X_60) ?_
                refine jq_getR (v := 61) Γ hlY at_X_60 fl_RX3_9 rfl rfl ly_X3_left dX3_run_180 ?_
                refine jq_iload_n Γ dX3_run_183 rfl 3 rfl ?_
                refine jq_aload_n Γ dX3_run_184 rfl 2 rfl (jq_at_0 (at_com hp1)) ?_
                refine jq_getR (v := (p1 + 13)) Γ hlY (at_com hp1) fl_RX3_43 rfl rfl (ly_X1_steps hp1) dX3_run_185 ?_
                refine jq_getR (v := ((p1 + 13) + 2)) Γ hlY (at_stp (stp_com hp1)) fl_RX3_68 rfl rfl (ly_X7_first (stp_com hp1)) dX3_run_188 ?_
                refine jq_iload_n Γ dX3_run_191 rfl 3 rfl ?_
                refine jq_iald Γ (at_stp_2 (stp_com hp1)) rfl dX3_run_192 (fun v20 => ?_)
                refine jq_iast Γ at_X_61 rfl dX3_run_193 (fun s21 => ?_)
                refine jq_goto Γ (tgt := 223) dX3_run_194 rfl ?_
                refine jq_iincN (L' := fun v22 => [(3, jI v22), (5, jI v9), (0, jR 60), (1, jR p1), (4, jI t8.2.1)]) Γ dX3_run_223 3 rfl hnl rfl (fun _ => rfl) (fun v22 => ?_)
                refine jq_iincN (L' := fun v23 => [(4, jI v23), (3, jI v22), (5, jI v9), (0, jR 60), (1, jR p1)]) Γ dX3_run_226 4 rfl hnl rfl (fun _ => rfl) (fun v23 => ?_)
                refine jq_goto Γ (tgt := 40) dX3_run_229 rfl ?_
                refine jq_sub Γ (L' := [(0, jR 60), (1, jR p1), (3, jI v22), (4, jI v23)]) [3, 4, 1, 0] rfl ?_
                exact jq_done (hCt8 (v22, v23, s21))
              · refine jq_split (fun hc24 => ?_) (fun hn27_117 => ?_)
                · refine jq_look (tgt := 152) Γ dX3_run_117 rfl (by rw [hc24] <;> rfl) rfl ?_
                  refine jq_sub Γ (L' := []) [] rfl ?_
                  exact jq_done (hXt8 (.inr (.inl s10)))
                · refine jq_look (tgt := 197) Γ dX3_run_117 rfl (by rw [jq_osw hn21_117, jq_osw hn25_117, jq_osw hn27_117] <;> rfl) rfl ?_
                  refine jq_aload_n Γ dX3_run_197 rfl 1 rfl (jq_at_0 at_X_60) ?_
                  refine jq_dup Γ dX3_run_198 rfl ?_
                  refine jq_getI (J := 1) Γ at_X_60 fl_RX3_15 rfl rfl dX3_run_199 ?_
                  refine jq_aload_n Γ dX3_run_202 rfl 1 rfl (jq_at_0 at_X_60) ?_
                  refine jq_aload_n Γ dX3_run_203 rfl 2 rfl (jq_at_0 (at_com hp1)) ?_
                  refine jq_iload_n Γ dX3_run_204 rfl 3 rfl ?_
                  refine jq_cwZ (jq_virt (avs := [jR p1, jI t8.1]) (st := [jI (s10 60 1), jR 60]) Γ hlY rfl ml_RX3_71 rfl at_X_60 rfl rfl rfl rfl rfl dX3_run_205) rfl (fun r σ' h => ctX3_act hp1 h) (fun v25 s26 hz27 => ?_)
                  refine jq_if_ne (tgt := 215) Γ dX3_run_208 rfl ?_ ?_
                  · refine jq_iconst Γ dX3_run_215 rfl ?_
                    refine jq_sub Γ (L' := [(0, jR 60), (1, jR p1), (3, jI t8.1), (4, jI t8.2.1)]) [1, 2, 3, 4] rfl ?_
                    exact hj216_1020 t8.1 t8.2.1 (s10 60 1) 0 s26 (Or.inl rfl)
                  · refine jq_iconst Γ dX3_run_211 rfl ?_
                    refine jq_goto Γ (tgt := 216) dX3_run_212 rfl ?_
                    refine jq_sub Γ (L' := [(0, jR 60), (1, jR p1), (3, jI t8.1), (4, jI t8.2.1)]) [1, 2, 3, 4] rfl ?_
                    exact hj216_1020 t8.1 t8.2.1 (s10 60 1) 1 s26 (Or.inr rfl)
          · refine jq_sub Γ (L' := [(0, jR 60)]) [1] rfl ?_
            exact jq_done (hXt8 (.inl t8.2.2))
        · refine jq_aload_n Γ dX3_run_76 rfl 1 rfl (jq_at_0 at_X_60) ?_
          refine jq_aload_n Γ dX3_run_77 rfl 2 rfl (jq_at_0 (at_com hp1)) ?_
          refine jq_getR (v := (p1 + 13)) Γ hlY (at_com hp1) fl_RX3_43 rfl rfl (ly_X1_steps hp1) dX3_run_78 ?_
          refine jq_iload_n Γ dX3_run_81 rfl 3 rfl ?_
          refine jq_cwI (jq_virt (avs := [jR (p1 + 13), jI t8.1]) (st := []) Γ hlY rfl ml_RX3_57 rfl at_X_60 rfl rfl rfl rfl rfl dX3_run_82) (fun r σ' h => ctX3_behindEnd (stp_com hp1) h) (fun v38 s39 => ?_)
          refine jq_istore_n (L' := [(3, jI v38), (5, jI v9), (0, jR 60), (1, jR p1), (4, jI t8.2.1)]) Γ dX3_run_85 rfl hnl rfl rfl ?_
          refine jq_goto Γ (tgt := 226) dX3_run_86 rfl ?_
          refine jq_iincN (L' := fun v40 => [(4, jI v40), (3, jI v38), (5, jI v9), (0, jR 60), (1, jR p1)]) Γ dX3_run_226 4 rfl hnl rfl (fun _ => rfl) (fun v40 => ?_)
          refine jq_goto Γ (tgt := 40) dX3_run_229 rfl ?_
          refine jq_sub Γ (L' := [(0, jR 60), (1, jR p1), (3, jI v38), (4, jI v40)]) [3, 4, 1, 0] rfl ?_
          exact jq_done (hCt8 (v38, v40, s39))
  · refine jq_elim ?_ ?_
    · intro e41
      refine jq_aload_n Γ dX3_run_99 rfl 0 rfl (jq_at_0 at_X_60) ?_
      refine jq_iconst Γ dX3_run_100 rfl ?_
      refine jq_putZ Γ at_X_60 fl_RX3_28 rfl rfl (Or.inr rfl) dX3_run_101 (fun s42 => ?_)
      exact jq_vreturn Γ dX3_run_104 (hK0 _)
    · refine jq_elim ?_ ?_
      · intro e43
        exact jq_vreturn Γ dX3_run_152 (hK0 _)
      · intro e44
        exact jq_vreturn Γ dX3_run_232 (hK0 _)


theorem dX3_tellTo_0 : decode cX3_tellTo 0 = .ok (.aload_n 1, 1) := by decide +kernel
theorem dX3_tellTo_1 : decode cX3_tellTo 1 = .ok (.iconst 0, 1) := by decide +kernel
theorem dX3_tellTo_2 : decode cX3_tellTo 2 = .ok (.aload_n 0, 1) := by decide +kernel
theorem dX3_tellTo_3 : decode cX3_tellTo 3 = .ok (.getfield 15, 3) := by decide +kernel
theorem dX3_tellTo_6 : decode cX3_tellTo 6 = .ok (.iastore, 1) := by decide +kernel
theorem dX3_tellTo_7 : decode cX3_tellTo 7 = .ok (.aload_n 1, 1) := by decide +kernel
theorem dX3_tellTo_8 : decode cX3_tellTo 8 = .ok (.iconst 1, 1) := by decide +kernel
theorem dX3_tellTo_9 : decode cX3_tellTo 9 = .ok (.aload_n 0, 1) := by decide +kernel
theorem dX3_tellTo_10 : decode cX3_tellTo 10 = .ok (.getfield 19, 3) := by decide +kernel
theorem dX3_tellTo_13 : decode cX3_tellTo 13 = .ok (.iastore, 1) := by decide +kernel
theorem dX3_tellTo_14 : decode cX3_tellTo 14 = .ok (.aload_n 1, 1) := by decide +kernel
theorem dX3_tellTo_15 : decode cX3_tellTo 15 = .ok (.iconst 2, 1) := by decide +kernel
theorem dX3_tellTo_16 : decode cX3_tellTo 16 = .ok (.aload_n 0, 1) := by decide +kernel
theorem dX3_tellTo_17 : decode cX3_tellTo 17 = .ok (.getfield 22, 3) := by decide +kernel
theorem dX3_tellTo_20 : decode cX3_tellTo 20 = .ok (.iastore, 1) := by decide +kernel
theorem dX3_tellTo_21 : decode cX3_tellTo 21 = .ok (.aload_n 1, 1) := by decide +kernel
theorem dX3_tellTo_22 : decode cX3_tellTo 22 = .ok (.iconst 3, 1) := by decide +kernel
theorem dX3_tellTo_23 : decode cX3_tellTo 23 = .ok (.aload_n 0, 1) := by decide +kernel
theorem dX3_tellTo_24 : decode cX3_tellTo 24 = .ok (.getfield 25, 3) := by decide +kernel
theorem dX3_tellTo_27 : decode cX3_tellTo 27 = .ok (.iastore, 1) := by decide +kernel
theorem dX3_tellTo_28 : decode cX3_tellTo 28 = .ok (.aload_n 1, 1) := by decide +kernel
theorem dX3_tellTo_29 : decode cX3_tellTo 29 = .ok (.iconst 4, 1) := by decide +kernel
theorem dX3_tellTo_30 : decode cX3_tellTo 30 = .ok (.aload_n 0, 1) := by decide +kernel
theorem dX3_tellTo_31 : decode cX3_tellTo 31 = .ok (.getfield 28, 3) := by decide +kernel
theorem dX3_tellTo_34 : decode cX3_tellTo 34 = .ok (.invokestatic 32, 3) := by decide +kernel
theorem dX3_tellTo_37 : decode cX3_tellTo 37 = .ok (.iastore, 1) := by decide +kernel
theorem dX3_tellTo_38 : decode cX3_tellTo 38 = .ok (.return_, 1) := by decide +kernel
set_option maxHeartbeats 4000000 in
set_option maxRecDepth 100000 in
theorem ctX3_tellTo {p1 : Int} {σ : jq_M} {σ' : jq_M} (hp1 : jq_row p1) (h : X3_tellTo p1 σ = some σ') : jq_MC jq_zX yX3_tellTo cX3_tellTo 2 none 2 60 [jR 60, jR p1] σ none σ' := by
  refine jq_met (own := RX3) (L0 := [(0, jR 60), (1, jR p1)]) (by decide) rfl rfl rfl ?_
  intro X Γ hnl hlY hRT
  refine jq_use2 (P := fun r => jq_RT jq_zX X none none r) ?_ h hRT
  intro K0 hK0
  unfold X3_tellTo
  refine jq_aload_n Γ dX3_tellTo_0 rfl 1 rfl (jq_at_0 (at_row hp1)) ?_
  refine jq_iconst Γ dX3_tellTo_1 rfl ?_
  refine jq_aload_n Γ dX3_tellTo_2 rfl 0 rfl (jq_at_0 at_X_60) ?_
  refine jq_getI (J := 1) Γ at_X_60 fl_RX3_15 rfl rfl dX3_tellTo_3 ?_
  refine jq_iast Γ (at_row hp1) rfl dX3_tellTo_6 (fun s1 => ?_)
  refine jq_aload_n Γ dX3_tellTo_7 rfl 1 rfl (jq_at_0 (at_row hp1)) ?_
  refine jq_iconst Γ dX3_tellTo_8 rfl ?_
  refine jq_aload_n Γ dX3_tellTo_9 rfl 0 rfl (jq_at_0 at_X_60) ?_
  refine jq_getI (J := 2) Γ at_X_60 fl_RX3_19 rfl rfl dX3_tellTo_10 ?_
  refine jq_iast Γ (at_row hp1) rfl dX3_tellTo_13 (fun s2 => ?_)
  refine jq_aload_n Γ dX3_tellTo_14 rfl 1 rfl (jq_at_0 (at_row hp1)) ?_
  refine jq_iconst Γ dX3_tellTo_15 rfl ?_
  refine jq_aload_n Γ dX3_tellTo_16 rfl 0 rfl (jq_at_0 at_X_60) ?_
  refine jq_getI (J := 3) Γ at_X_60 fl_RX3_22 rfl rfl dX3_tellTo_17 ?_
  refine jq_iast Γ (at_row hp1) rfl dX3_tellTo_20 (fun s3 => ?_)
  refine jq_aload_n Γ dX3_tellTo_21 rfl 1 rfl (jq_at_0 (at_row hp1)) ?_
  refine jq_iconst Γ dX3_tellTo_22 rfl ?_
  refine jq_aload_n Γ dX3_tellTo_23 rfl 0 rfl (jq_at_0 at_X_60) ?_
  refine jq_getI (J := 4) Γ at_X_60 fl_RX3_25 rfl rfl dX3_tellTo_24 ?_
  refine jq_iast Γ (at_row hp1) rfl dX3_tellTo_27 (fun s4 => ?_)
  refine jq_aload_n Γ dX3_tellTo_28 rfl 1 rfl (jq_at_0 (at_row hp1)) ?_
  refine jq_iconst Γ dX3_tellTo_29 rfl ?_
  refine jq_aload_n Γ dX3_tellTo_30 rfl 0 rfl (jq_at_0 at_X_60) ?_
  refine jq_getZ (J := 5) Γ at_X_60 fl_RX3_28 rfl rfl dX3_tellTo_31 (fun v5 hz6 => ?_)
  refine jq_cpI (jq_nest (avs := [jI v5]) (st := [jI 4, jR p1]) Γ hlY rfl ml_RX3_32 rfl rfl rfl rfl rfl dX3_tellTo_34) (fun r h => ctX10_asNumber h) (fun v7 => ?_)
  refine jq_iast Γ (at_row hp1) rfl dX3_tellTo_37 (fun s8 => ?_)
  exact jq_vreturn Γ dX3_tellTo_38 (hK0 _)


theorem dX10_live_0 : decode cX10_live 0 = .ok (.iload_n 1, 1) := by decide +kernel
theorem dX10_live_1 : decode cX10_live 1 = .ok (.iconst 0, 1) := by decide +kernel
theorem dX10_live_2 : decode cX10_live 2 = .ok (.sipush 9999, 3) := by decide +kernel
theorem dX10_live_5 : decode cX10_live 5 = .ok (.invokestatic 93, 3) := by decide +kernel
theorem dX10_live_8 : decode cX10_live 8 = .ok (.ifCond .ne 9, 3) := by decide +kernel
theorem dX10_live_11 : decode cX10_live 11 = .ok (.aload_n 0, 1) := by decide +kernel
theorem dX10_live_12 : decode cX10_live 12 = .ok (.iconst 1, 1) := by decide +kernel
theorem dX10_live_13 : decode cX10_live 13 = .ok (.invokevirtual 120, 3) := by decide +kernel
theorem dX10_live_16 : decode cX10_live 16 = .ok (.ireturn, 1) := by decide +kernel
theorem dX10_live_17 : decode cX10_live 17 = .ok (.aload_n 0, 1) := by decide +kernel
theorem dX10_live_18 : decode cX10_live 18 = .ok (.getfield 25, 3) := by decide +kernel
theorem dX10_live_21 : decode cX10_live 21 = .ok (.getfield 169, 3) := by decide +kernel
theorem dX10_live_24 : decode cX10_live 24 = .ok (.getfield 426, 3) := by decide +kernel
theorem dX10_live_27 : decode cX10_live 27 = .ok (.ifCond .ne 10, 3) := by decide +kernel
theorem dX10_live_30 : decode cX10_live 30 = .ok (.aload_n 0, 1) := by decide +kernel
theorem dX10_live_31 : decode cX10_live 31 = .ok (.bipush 6, 2) := by decide +kernel
theorem dX10_live_33 : decode cX10_live 33 = .ok (.invokevirtual 120, 3) := by decide +kernel
theorem dX10_live_36 : decode cX10_live 36 = .ok (.ireturn, 1) := by decide +kernel
theorem dX10_live_37 : decode cX10_live 37 = .ok (.aload_n 0, 1) := by decide +kernel
theorem dX10_live_38 : decode cX10_live 38 = .ok (.getfield 60, 3) := by decide +kernel
theorem dX10_live_41 : decode cX10_live 41 = .ok (.aload_n 0, 1) := by decide +kernel
theorem dX10_live_42 : decode cX10_live 42 = .ok (.getfield 25, 3) := by decide +kernel
theorem dX10_live_45 : decode cX10_live 45 = .ok (.iload_n 1, 1) := by decide +kernel
theorem dX10_live_46 : decode cX10_live 46 = .ok (.invokevirtual 430, 3) := by decide +kernel
theorem dX10_live_49 : decode cX10_live 49 = .ok (.aload_n 0, 1) := by decide +kernel
theorem dX10_live_50 : decode cX10_live 50 = .ok (.getfield 60, 3) := by decide +kernel
theorem dX10_live_53 : decode cX10_live 53 = .ok (.aload_n 0, 1) := by decide +kernel
theorem dX10_live_54 : decode cX10_live 54 = .ok (.getfield 64, 3) := by decide +kernel
theorem dX10_live_57 : decode cX10_live 57 = .ok (.invokevirtual 434, 3) := by decide +kernel
theorem dX10_live_60 : decode cX10_live 60 = .ok (.aload_n 0, 1) := by decide +kernel
theorem dX10_live_61 : decode cX10_live 61 = .ok (.iconst 1, 1) := by decide +kernel
theorem dX10_live_62 : decode cX10_live 62 = .ok (.putfield 438, 3) := by decide +kernel
theorem dX10_live_65 : decode cX10_live 65 = .ok (.aload_n 0, 1) := by decide +kernel
theorem dX10_live_66 : decode cX10_live 66 = .ok (.aload_n 0, 1) := by decide +kernel
theorem dX10_live_67 : decode cX10_live 67 = .ok (.getfield 60, 3) := by decide +kernel
theorem dX10_live_70 : decode cX10_live 70 = .ok (.getfield 441, 3) := by decide +kernel
theorem dX10_live_73 : decode cX10_live 73 = .ok (.invokevirtual 161, 3) := by decide +kernel
theorem dX10_live_76 : decode cX10_live 76 = .ok (.ireturn, 1) := by decide +kernel
set_option maxHeartbeats 4000000 in
set_option maxRecDepth 100000 in
theorem ctX10_live {p1 : Int} {σ : jq_M} {res : Int} {σ' : jq_M}  (h : X10_live p1 σ = some (res, σ')) : jq_MC jq_zX yX10_live cX10_live 2 (some .int) 7 181 [jR 0, jI p1] σ (some (jI res)) σ' := by
  refine jq_met (own := RX10) (L0 := [(0, jR 0), (1, jI p1)]) (by decide) rfl rfl rfl ?_
  intro X Γ hnl hlY hRT
  refine jq_use2 (P := fun r => jq_RT jq_zX X (some .int) (some (jI r.1)) r.2) ?_ h hRT
  intro K0 hK0
  unfold X10_live
  refine jq_iload_n Γ dX10_live_0 rfl 1 rfl ?_
  refine jq_iconst Γ dX10_live_1 rfl ?_
  refine jq_sipush Γ dX10_live_2 rfl ?_
  refine jq_cpZ (jq_stat (avs := [jI p1, jI 0, jI 9999]) (st := []) Γ hlY rfl ml_RX10_93 rfl rfl rfl rfl rfl dX10_live_5) rfl (fun r h => ctX10_within h) (fun v1 hz2 => ?_)
  refine jq_if_ne (tgt := 17) Γ dX10_live_8 rfl ?_ ?_
  · refine jq_aload_n Γ dX10_live_17 rfl 0 rfl (jq_at_0 at_X_0) ?_
    refine jq_getC (C := jq_cm2) Γ hlY at_X_0 fl_RX10_25 rfl rfl ly_now dX10_live_18 (fun c3 hc4q => ?_)
    have hc4 := jq_cm2_com hc4q
    refine jq_getR (v := (c3 + 13)) Γ hlY (at_com hc4) fl_RX10_169 rfl rfl (ly_X1_steps hc4) dX10_live_21 ?_
    refine jq_getZ (J := 0) Γ (at_stp (stp_com hc4)) fl_RX10_426 rfl rfl dX10_live_24 (fun v5 hz6 => ?_)
    refine jq_if_ne (tgt := 37) Γ dX10_live_27 rfl ?_ ?_
    · refine jq_aload_n Γ dX10_live_37 rfl 0 rfl (jq_at_0 at_X_0) ?_
      refine jq_getR (v := 60) Γ hlY at_X_0 fl_RX10_60 rfl rfl ly_X10_life dX10_live_38 ?_
      refine jq_aload_n Γ dX10_live_41 rfl 0 rfl (jq_at_0 at_X_0) ?_
      refine jq_getC (C := jq_cm2) Γ hlY at_X_0 fl_RX10_25 rfl rfl ly_now dX10_live_42 (fun c7 hc8q => ?_)
      have hc8 := jq_cm2_com hc8q
      refine jq_iload_n Γ dX10_live_45 rfl 1 rfl ?_
      refine jq_cwV (jq_virt (avs := [jR c7, jI p1]) (st := []) Γ hlY rfl ml_RX10_430 rfl at_X_60 rfl rfl rfl rfl rfl dX10_live_46) (fun σ' h => ctX3_run hc8 h) (fun s9 => ?_)
      refine jq_aload_n Γ dX10_live_49 rfl 0 rfl (jq_at_0 at_X_0) ?_
      refine jq_getR (v := 60) Γ hlY at_X_0 fl_RX10_60 rfl rfl ly_X10_life dX10_live_50 ?_
      refine jq_aload_n Γ dX10_live_53 rfl 0 rfl (jq_at_0 at_X_0) ?_
      refine jq_getR (v := 62) Γ hlY at_X_0 fl_RX10_64 rfl rfl ly_X10_figures dX10_live_54 ?_
      refine jq_cwV (jq_virt (avs := [jR 62]) (st := []) Γ hlY rfl ml_RX10_434 rfl at_X_60 rfl rfl rfl rfl rfl dX10_live_57) (fun σ' h => ctX3_tellTo row_62 h) (fun s10 => ?_)
      refine jq_aload_n Γ dX10_live_60 rfl 0 rfl (jq_at_0 at_X_0) ?_
      refine jq_iconst Γ dX10_live_61 rfl ?_
      refine jq_putZ Γ at_X_0 fl_RX10_438 rfl rfl (Or.inr rfl) dX10_live_62 (fun s11 => ?_)
      refine jq_aload_n Γ dX10_live_65 rfl 0 rfl (jq_at_0 at_X_0) ?_
      refine jq_aload_n Γ dX10_live_66 rfl 0 rfl (jq_at_0 at_X_0) ?_
      refine jq_getR (v := 60) Γ hlY at_X_0 fl_RX10_60 rfl rfl ly_X10_life dX10_live_67 ?_
      refine jq_getI (J := 0) Γ at_X_60 fl_RX10_441 rfl rfl dX10_live_70 ?_
      refine jq_cwI (jq_virt (avs := [jI (s11 60 0)]) (st := []) Γ hlY rfl ml_RX10_161 rfl at_X_0 rfl rfl rfl rfl rfl dX10_live_73) (fun r σ' h => ctX10_answer h) (fun v12 s13 => ?_)
      exact jq_ireturn Γ dX10_live_76 (hK0 _)
    · refine jq_aload_n Γ dX10_live_30 rfl 0 rfl (jq_at_0 at_X_0) ?_
      refine jq_bipush Γ dX10_live_31 rfl ?_
      refine jq_cwI (jq_virt (avs := [jI 6]) (st := []) Γ hlY rfl ml_RX10_120 rfl at_X_0 rfl rfl rfl rfl rfl dX10_live_33) (fun r σ' h => ctX10_refuse h) (fun v14 s15 => ?_)
      exact jq_ireturn Γ dX10_live_36 (hK0 _)
  · refine jq_aload_n Γ dX10_live_11 rfl 0 rfl (jq_at_0 at_X_0) ?_
    refine jq_iconst Γ dX10_live_12 rfl ?_
    refine jq_cwI (jq_virt (avs := [jI 1]) (st := []) Γ hlY rfl ml_RX10_120 rfl at_X_0 rfl rfl rfl rfl rfl dX10_live_13) (fun r σ' h => ctX10_refuse h) (fun v16 s17 => ?_)
    exact jq_ireturn Γ dX10_live_16 (hK0 _)


theorem dX10_lived_0 : decode cX10_lived 0 = .ok (.iload_n 1, 1) := by decide +kernel
theorem dX10_lived_1 : decode cX10_lived 1 = .ok (.iconst 0, 1) := by decide +kernel
theorem dX10_lived_2 : decode cX10_lived 2 = .ok (.iconst 4, 1) := by decide +kernel
theorem dX10_lived_3 : decode cX10_lived 3 = .ok (.invokestatic 93, 3) := by decide +kernel
theorem dX10_lived_6 : decode cX10_lived 6 = .ok (.ifCond .ne 9, 3) := by decide +kernel
theorem dX10_lived_9 : decode cX10_lived 9 = .ok (.aload_n 0, 1) := by decide +kernel
theorem dX10_lived_10 : decode cX10_lived 10 = .ok (.iconst 1, 1) := by decide +kernel
theorem dX10_lived_11 : decode cX10_lived 11 = .ok (.invokevirtual 120, 3) := by decide +kernel
theorem dX10_lived_14 : decode cX10_lived 14 = .ok (.ireturn, 1) := by decide +kernel
theorem dX10_lived_15 : decode cX10_lived 15 = .ok (.aload_n 0, 1) := by decide +kernel
theorem dX10_lived_16 : decode cX10_lived 16 = .ok (.getfield 438, 3) := by decide +kernel
theorem dX10_lived_19 : decode cX10_lived 19 = .ok (.ifCond .eq 16, 3) := by decide +kernel
theorem dX10_lived_22 : decode cX10_lived 22 = .ok (.aload_n 0, 1) := by decide +kernel
theorem dX10_lived_23 : decode cX10_lived 23 = .ok (.aload_n 0, 1) := by decide +kernel
theorem dX10_lived_24 : decode cX10_lived 24 = .ok (.getfield 64, 3) := by decide +kernel
theorem dX10_lived_27 : decode cX10_lived 27 = .ok (.iload_n 1, 1) := by decide +kernel
theorem dX10_lived_28 : decode cX10_lived 28 = .ok (.iaload, 1) := by decide +kernel
theorem dX10_lived_29 : decode cX10_lived 29 = .ok (.invokevirtual 161, 3) := by decide +kernel
theorem dX10_lived_32 : decode cX10_lived 32 = .ok (.goto 9, 3) := by decide +kernel
theorem dX10_lived_35 : decode cX10_lived 35 = .ok (.aload_n 0, 1) := by decide +kernel
theorem dX10_lived_36 : decode cX10_lived 36 = .ok (.bipush 6, 2) := by decide +kernel
theorem dX10_lived_38 : decode cX10_lived 38 = .ok (.invokevirtual 120, 3) := by decide +kernel
theorem dX10_lived_41 : decode cX10_lived 41 = .ok (.ireturn, 1) := by decide +kernel
set_option maxHeartbeats 4000000 in
set_option maxRecDepth 100000 in
theorem ctX10_lived {p1 : Int} {σ : jq_M} {res : Int} {σ' : jq_M}  (h : X10_lived p1 σ = some (res, σ')) : jq_MC jq_zX yX10_lived cX10_lived 2 (some .int) 2 62 [jR 0, jI p1] σ (some (jI res)) σ' := by
  refine jq_met (own := RX10) (L0 := [(0, jR 0), (1, jI p1)]) (by decide) rfl rfl rfl ?_
  intro X Γ hnl hlY hRT
  refine jq_use2 (P := fun r => jq_RT jq_zX X (some .int) (some (jI r.1)) r.2) ?_ h hRT
  intro K0 hK0
  unfold X10_lived
  refine jq_iload_n Γ dX10_lived_0 rfl 1 rfl ?_
  refine jq_iconst Γ dX10_lived_1 rfl ?_
  refine jq_iconst Γ dX10_lived_2 rfl ?_
  refine jq_cpZ (jq_stat (avs := [jI p1, jI 0, jI 4]) (st := []) Γ hlY rfl ml_RX10_93 rfl rfl rfl rfl rfl dX10_lived_3) rfl (fun r h => ctX10_within h) (fun v1 hz2 => ?_)
  refine jq_if_ne (tgt := 15) Γ dX10_lived_6 rfl ?_ ?_
  · refine jq_aload_n Γ dX10_lived_15 rfl 0 rfl (jq_at_0 at_X_0) ?_
    refine jq_getZ (J := 16) Γ at_X_0 fl_RX10_438 rfl rfl dX10_lived_16 (fun v3 hz4 => ?_)
    refine jq_if_eq (tgt := 35) Γ dX10_lived_19 rfl ?_ ?_
    · refine jq_aload_n Γ dX10_lived_35 rfl 0 rfl (jq_at_0 at_X_0) ?_
      refine jq_bipush Γ dX10_lived_36 rfl ?_
      refine jq_cwI (jq_virt (avs := [jI 6]) (st := []) Γ hlY rfl ml_RX10_120 rfl at_X_0 rfl rfl rfl rfl rfl dX10_lived_38) (fun r σ' h => ctX10_refuse h) (fun v5 s6 => ?_)
      exact jq_ireturn Γ dX10_lived_41 (hK0 _)
    · refine jq_aload_n Γ dX10_lived_22 rfl 0 rfl (jq_at_0 at_X_0) ?_
      refine jq_aload_n Γ dX10_lived_23 rfl 0 rfl (jq_at_0 at_X_0) ?_
      refine jq_getR (v := 62) Γ hlY at_X_0 fl_RX10_64 rfl rfl ly_X10_figures dX10_lived_24 ?_
      refine jq_iload_n Γ dX10_lived_27 rfl 1 rfl ?_
      refine jq_iald Γ at_X_62 rfl dX10_lived_28 (fun v7 => ?_)
      refine jq_cwI (jq_virt (avs := [jI v7]) (st := []) Γ hlY rfl ml_RX10_161 rfl at_X_0 rfl rfl rfl rfl rfl dX10_lived_29) (fun r σ' h => ctX10_answer h) (fun v8 s9 => ?_)
      refine jq_goto Γ (tgt := 41) dX10_lived_32 rfl ?_
      exact jq_ireturn Γ dX10_lived_41 (hK0 _)
  · refine jq_aload_n Γ dX10_lived_9 rfl 0 rfl (jq_at_0 at_X_0) ?_
    refine jq_iconst Γ dX10_lived_10 rfl ?_
    refine jq_cwI (jq_virt (avs := [jI 1]) (st := []) Γ hlY rfl ml_RX10_120 rfl at_X_0 rfl rfl rfl rfl rfl dX10_lived_11) (fun r σ' h => ctX10_refuse h) (fun v10 s11 => ?_)
    exact jq_ireturn Γ dX10_lived_14 (hK0 _)


