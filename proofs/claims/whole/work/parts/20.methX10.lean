theorem ml_RX3_101 : jq_vl RX3 101 yX1_raiseOne cX1_raiseOne 2 (some .boolean) 1 := ⟨jq_in 1500 (by decide +kernel) rfl, yf_X1_raiseOne⟩
theorem ml_RX3_104 : jq_vl RX3 104 yX1_swapTwo cX1_swapTwo 6 (some .boolean) 3 := ⟨jq_in 1501 (by decide +kernel) rfl, yf_X1_swapTwo⟩
theorem ml_RX3_108 : jq_vl RX3 108 yX1_turnAll cX1_turnAll 4 none 2 := ⟨jq_in 1502 (by decide +kernel) rfl, yf_X1_turnAll⟩
theorem yf_X3_spend : Cond.instanceMethod yX3_spend ∈ jq_T ∧ Cond.selects (yX3_spend).cls yX3_spend yX3_spend ∈ jq_T ∧ Cond.initialized (yX3_spend).cls ∈ jq_T ∧ Cond.code yX3_spend cX3_spend 3 (some .boolean) ∈ jq_T ∧ ((yX3_spend).cls ≠ "java/lang/invoke/MethodHandle" ∧ (yX3_spend).cls ≠ "java/lang/invoke/VarHandle" ∧ (parseMethodDescriptor (yX3_spend).desc).map (fun d => d.parameters.length) = some 2) := ⟨jq_in 1505 (by decide +kernel) rfl, jq_in 32 (by decide +kernel) rfl, jq_in 148 (by decide +kernel) rfl, jq_in 1506 (by decide +kernel) rfl, ⟨by decide, by decide, by decide +kernel⟩⟩
theorem ml_RX3_112 : jq_vl RX3 112 yX3_spend cX3_spend 3 (some .boolean) 2 := ⟨jq_in 1503 (by decide +kernel) rfl, yf_X3_spend⟩
theorem yf_X3_agreeTo : Cond.instanceMethod yX3_agreeTo ∈ jq_T ∧ Cond.selects (yX3_agreeTo).cls yX3_agreeTo yX3_agreeTo ∈ jq_T ∧ Cond.initialized (yX3_agreeTo).cls ∈ jq_T ∧ Cond.code yX3_agreeTo cX3_agreeTo 4 (some .boolean) ∈ jq_T ∧ ((yX3_agreeTo).cls ≠ "java/lang/invoke/MethodHandle" ∧ (yX3_agreeTo).cls ≠ "java/lang/invoke/VarHandle" ∧ (parseMethodDescriptor (yX3_agreeTo).desc).map (fun d => d.parameters.length) = some 2) := ⟨jq_in 1510 (by decide +kernel) rfl, jq_in 33 (by decide +kernel) rfl, jq_in 148 (by decide +kernel) rfl, jq_in 1511 (by decide +kernel) rfl, ⟨by decide, by decide, by decide +kernel⟩⟩
theorem ml_RX3_115 : jq_vl RX3 115 yX3_agreeTo cX3_agreeTo 4 (some .boolean) 2 := ⟨jq_in 1508 (by decide +kernel) rfl, yf_X3_agreeTo⟩
theorem yf_X3_letGo : Cond.instanceMethod yX3_letGo ∈ jq_T ∧ Cond.selects (yX3_letGo).cls yX3_letGo yX3_letGo ∈ jq_T ∧ Cond.initialized (yX3_letGo).cls ∈ jq_T ∧ Cond.code yX3_letGo cX3_letGo 4 (some .boolean) ∈ jq_T ∧ ((yX3_letGo).cls ≠ "java/lang/invoke/MethodHandle" ∧ (yX3_letGo).cls ≠ "java/lang/invoke/VarHandle" ∧ (parseMethodDescriptor (yX3_letGo).desc).map (fun d => d.parameters.length) = some 2) := ⟨jq_in 1516 (by decide +kernel) rfl, jq_in 34 (by decide +kernel) rfl, jq_in 148 (by decide +kernel) rfl, jq_in 1517 (by decide +kernel) rfl, ⟨by decide, by decide, by decide +kernel⟩⟩
theorem ml_RX3_118 : jq_vl RX3 118 yX3_letGo cX3_letGo 4 (some .boolean) 2 := ⟨jq_in 1514 (by decide +kernel) rfl, yf_X3_letGo⟩
theorem yf_X3_seatAny : Cond.instanceMethod yX3_seatAny ∈ jq_T ∧ Cond.selects (yX3_seatAny).cls yX3_seatAny yX3_seatAny ∈ jq_T ∧ Cond.initialized (yX3_seatAny).cls ∈ jq_T ∧ Cond.code yX3_seatAny cX3_seatAny 4 (some .boolean) ∈ jq_T ∧ ((yX3_seatAny).cls ≠ "java/lang/invoke/MethodHandle" ∧ (yX3_seatAny).cls ≠ "java/lang/invoke/VarHandle" ∧ (parseMethodDescriptor (yX3_seatAny).desc).map (fun d => d.parameters.length) = some 1) := ⟨jq_in 1521 (by decide +kernel) rfl, jq_in 35 (by decide +kernel) rfl, jq_in 148 (by decide +kernel) rfl, jq_in 1522 (by decide +kernel) rfl, ⟨by decide, by decide, by decide +kernel⟩⟩
theorem ml_RX3_121 : jq_vl RX3 121 yX3_seatAny cX3_seatAny 4 (some .boolean) 1 := ⟨jq_in 1519 (by decide +kernel) rfl, yf_X3_seatAny⟩
theorem fl_RX3_36 : jq_fl RX3 36 2 8 0 false := ⟨RX3, TX3, tyX3, cls_X3, by decide, jq_in 479 (by decide +kernel) rfl, by decide⟩
theorem fl_RX3_15 : jq_fl RX3 15 2 8 1 false := ⟨RX3, TX3, tyX3, cls_X3, by decide, jq_in 481 (by decide +kernel) rfl, by decide⟩
theorem fl_RX3_28 : jq_fl RX3 28 2 8 5 false := ⟨RX3, TX3, tyX3, cls_X3, by decide, jq_in 485 (by decide +kernel) rfl, by decide⟩
theorem kc_RX3_42 : Cond.constant RX3 42 (Int32.ofInt (1000000)) ∈ jq_T := jq_in 1460 (by decide +kernel) rfl
theorem fl_RX3_49 : jq_fl RX3 49 4 9 2 false := ⟨RX7, TX7, tyX7, cls_X7, by decide, jq_in 294 (by decide +kernel) rfl, by decide⟩
theorem yf_X3_isSo : Cond.instanceMethod yX3_isSo ∈ jq_T ∧ Cond.selects (yX3_isSo).cls yX3_isSo yX3_isSo ∈ jq_T ∧ Cond.initialized (yX3_isSo).cls ∈ jq_T ∧ Cond.code yX3_isSo cX3_isSo 4 (some .boolean) ∈ jq_T ∧ ((yX3_isSo).cls ≠ "java/lang/invoke/MethodHandle" ∧ (yX3_isSo).cls ≠ "java/lang/invoke/VarHandle" ∧ (parseMethodDescriptor (yX3_isSo).desc).map (fun d => d.parameters.length) = some 2) := ⟨jq_in 1478 (by decide +kernel) rfl, jq_in 29 (by decide +kernel) rfl, jq_in 148 (by decide +kernel) rfl, jq_in 1479 (by decide +kernel) rfl, ⟨by decide, by decide, by decide +kernel⟩⟩
theorem ml_RX3_62 : jq_vl RX3 62 yX3_isSo cX3_isSo 4 (some .boolean) 2 := ⟨jq_in 1476 (by decide +kernel) rfl, yf_X3_isSo⟩
theorem yf_X3_beginLoop : Cond.instanceMethod yX3_beginLoop ∈ jq_T ∧ Cond.selects (yX3_beginLoop).cls yX3_beginLoop yX3_beginLoop ∈ jq_T ∧ Cond.initialized (yX3_beginLoop).cls ∈ jq_T ∧ Cond.code yX3_beginLoop cX3_beginLoop 3 none ∈ jq_T ∧ ((yX3_beginLoop).cls ≠ "java/lang/invoke/MethodHandle" ∧ (yX3_beginLoop).cls ≠ "java/lang/invoke/VarHandle" ∧ (parseMethodDescriptor (yX3_beginLoop).desc).map (fun d => d.parameters.length) = some 2) := ⟨jq_in 1493 (by decide +kernel) rfl, jq_in 30 (by decide +kernel) rfl, jq_in 148 (by decide +kernel) rfl, jq_in 1494 (by decide +kernel) rfl, ⟨by decide, by decide, by decide +kernel⟩⟩
theorem ml_RX3_69 : jq_vl RX3 69 yX3_beginLoop cX3_beginLoop 3 none 2 := ⟨jq_in 1491 (by decide +kernel) rfl, yf_X3_beginLoop⟩
theorem yf_X3_act : Cond.instanceMethod yX3_act ∈ jq_T ∧ Cond.selects (yX3_act).cls yX3_act yX3_act ∈ jq_T ∧ Cond.initialized (yX3_act).cls ∈ jq_T ∧ Cond.code yX3_act cX3_act 5 (some .boolean) ∈ jq_T ∧ ((yX3_act).cls ≠ "java/lang/invoke/MethodHandle" ∧ (yX3_act).cls ≠ "java/lang/invoke/VarHandle" ∧ (parseMethodDescriptor (yX3_act).desc).map (fun d => d.parameters.length) = some 2) := ⟨jq_in 1497 (by decide +kernel) rfl, jq_in 31 (by decide +kernel) rfl, jq_in 148 (by decide +kernel) rfl, jq_in 1498 (by decide +kernel) rfl, ⟨by decide, by decide, by decide +kernel⟩⟩
theorem ml_RX3_73 : jq_vl RX3 73 yX3_act cX3_act 5 (some .boolean) 2 := ⟨jq_in 1495 (by decide +kernel) rfl, yf_X3_act⟩
theorem yf_X3_behindEnd : Cond.instanceMethod yX3_behindEnd ∈ jq_T ∧ Cond.selects (yX3_behindEnd).cls yX3_behindEnd yX3_behindEnd ∈ jq_T ∧ Cond.initialized (yX3_behindEnd).cls ∈ jq_T ∧ Cond.code yX3_behindEnd cX3_behindEnd 4 (some .int) ∈ jq_T ∧ ((yX3_behindEnd).cls ≠ "java/lang/invoke/MethodHandle" ∧ (yX3_behindEnd).cls ≠ "java/lang/invoke/VarHandle" ∧ (parseMethodDescriptor (yX3_behindEnd).desc).map (fun d => d.parameters.length) = some 2) := ⟨jq_in 1470 (by decide +kernel) rfl, jq_in 28 (by decide +kernel) rfl, jq_in 148 (by decide +kernel) rfl, jq_in 1471 (by decide +kernel) rfl, ⟨by decide, by decide, by decide +kernel⟩⟩
theorem ml_RX3_58 : jq_vl RX3 58 yX3_behindEnd cX3_behindEnd 4 (some .int) 2 := ⟨jq_in 1468 (by decide +kernel) rfl, yf_X3_behindEnd⟩
theorem fl_RX10_429 : jq_fl RX10 429 4 9 0 false := ⟨RX7, TX7, tyX7, cls_X7, by decide, jq_in 290 (by decide +kernel) rfl, by decide⟩
theorem fl_RX10_60 : jq_fl RX10 60 7 18 14 true := ⟨RX10, TX10, tyX10, cls_X10, by decide, jq_in 536 (by decide +kernel) rfl, by decide⟩
theorem yf_X3_run : Cond.instanceMethod yX3_run ∈ jq_T ∧ Cond.selects (yX3_run).cls yX3_run yX3_run ∈ jq_T ∧ Cond.initialized (yX3_run).cls ∈ jq_T ∧ Cond.code yX3_run cX3_run 6 none ∈ jq_T ∧ ((yX3_run).cls ≠ "java/lang/invoke/MethodHandle" ∧ (yX3_run).cls ≠ "java/lang/invoke/VarHandle" ∧ (parseMethodDescriptor (yX3_run).desc).map (fun d => d.parameters.length) = some 2) := ⟨jq_in 1457 (by decide +kernel) rfl, jq_in 1458 (by decide +kernel) rfl, jq_in 148 (by decide +kernel) rfl, jq_in 1459 (by decide +kernel) rfl, ⟨by decide, by decide, by decide +kernel⟩⟩
theorem ml_RX10_433 : jq_vl RX10 433 yX3_run cX3_run 6 none 2 := ⟨jq_in 1456 (by decide +kernel) rfl, yf_X3_run⟩
theorem fl_RX10_64 : jq_fl RX10 64 7 18 15 true := ⟨RX10, TX10, tyX10, cls_X10, by decide, jq_in 537 (by decide +kernel) rfl, by decide⟩
theorem yf_X3_tellTo : Cond.instanceMethod yX3_tellTo ∈ jq_T ∧ Cond.selects (yX3_tellTo).cls yX3_tellTo yX3_tellTo ∈ jq_T ∧ Cond.initialized (yX3_tellTo).cls ∈ jq_T ∧ Cond.code yX3_tellTo cX3_tellTo 2 none ∈ jq_T ∧ ((yX3_tellTo).cls ≠ "java/lang/invoke/MethodHandle" ∧ (yX3_tellTo).cls ≠ "java/lang/invoke/VarHandle" ∧ (parseMethodDescriptor (yX3_tellTo).desc).map (fun d => d.parameters.length) = some 1) := ⟨jq_in 1529 (by decide +kernel) rfl, jq_in 1530 (by decide +kernel) rfl, jq_in 148 (by decide +kernel) rfl, jq_in 1531 (by decide +kernel) rfl, ⟨by decide, by decide, by decide +kernel⟩⟩
theorem ml_RX10_437 : jq_vl RX10 437 yX3_tellTo cX3_tellTo 2 none 1 := ⟨jq_in 1528 (by decide +kernel) rfl, yf_X3_tellTo⟩
theorem fl_RX10_441 : jq_fl RX10 441 7 18 16 false := ⟨RX10, TX10, tyX10, cls_X10, by decide, jq_in 538 (by decide +kernel) rfl, by decide⟩
theorem fl_RX10_444 : jq_fl RX10 444 2 8 0 false := ⟨RX3, TX3, tyX3, cls_X3, by decide, jq_in 480 (by decide +kernel) rfl, by decide⟩
theorem fl_RX10_39 : jq_fl RX10 39 7 18 10 true := ⟨RX10, TX10, tyX10, cls_X10, by decide, jq_in 532 (by decide +kernel) rfl, by decide⟩
theorem fl_RX10_447 : jq_fl RX10 447 7 18 11 false := ⟨RX10, TX10, tyX10, cls_X10, by decide, jq_in 533 (by decide +kernel) rfl, by decide⟩
theorem yf_X10_keptAt : Cond.instanceMethod yX10_keptAt ∈ jq_T ∧ Cond.selects (yX10_keptAt).cls yX10_keptAt yX10_keptAt ∈ jq_T ∧ Cond.initialized (yX10_keptAt).cls ∈ jq_T ∧ Cond.code yX10_keptAt cX10_keptAt 2 (some (.object "StandTable$Committee")) ∈ jq_T ∧ ((yX10_keptAt).cls ≠ "java/lang/invoke/MethodHandle" ∧ (yX10_keptAt).cls ≠ "java/lang/invoke/VarHandle" ∧ (parseMethodDescriptor (yX10_keptAt).desc).map (fun d => d.parameters.length) = some 1) := ⟨jq_in 1546 (by decide +kernel) rfl, jq_in 37 (by decide +kernel) rfl, jq_in 138 (by decide +kernel) rfl, jq_in 1547 (by decide +kernel) rfl, ⟨by decide, by decide, by decide +kernel⟩⟩
theorem ml_RX10_450 : jq_vl RX10 450 yX10_keptAt cX10_keptAt 2 (some (.object "StandTable$Committee")) 1 := ⟨jq_in 1544 (by decide +kernel) rfl, yf_X10_keptAt⟩
theorem dX3_act_0 : decode cX3_act 0 = .ok (.aload_n 1, 1) := by decide +kernel
theorem dX3_act_1 : decode cX3_act 1 = .ok (.getfield 43, 3) := by decide +kernel
theorem dX3_act_4 : decode cX3_act 4 = .ok (.iload_n 2, 1) := by decide +kernel
theorem dX3_act_5 : decode cX3_act 5 = .ok (.invokevirtual 76, 3) := by decide +kernel
theorem dX3_act_8 : decode cX3_act 8 = .ok (.istore_n 3, 1) := by decide +kernel
theorem dX3_act_9 : decode cX3_act 9 = .ok (.aload_n 1, 1) := by decide +kernel
theorem dX3_act_10 : decode cX3_act 10 = .ok (.getfield 43, 3) := by decide +kernel
theorem dX3_act_13 : decode cX3_act 13 = .ok (.iload_n 2, 1) := by decide +kernel
theorem dX3_act_14 : decode cX3_act 14 = .ok (.invokevirtual 79, 3) := by decide +kernel
theorem dX3_act_17 : decode cX3_act 17 = .ok (.istore 4, 2) := by decide +kernel
theorem dX3_act_19 : decode cX3_act 19 = .ok (.aload_n 1, 1) := by decide +kernel
theorem dX3_act_20 : decode cX3_act 20 = .ok (.getfield 43, 3) := by decide +kernel
theorem dX3_act_23 : decode cX3_act 23 = .ok (.iload_n 2, 1) := by decide +kernel
theorem dX3_act_24 : decode cX3_act 24 = .ok (.invokevirtual 54, 3) := by decide +kernel
theorem dX3_act_27 : decode cX3_act 27 = .ok (.tableswitch 99 13 19 #[41, 49, 55, 67, 78, 85, 92], 41) := by decide +kernel
theorem dX3_act_68 : decode cX3_act 68 = .ok (.aload_n 1, 1) := by decide +kernel
theorem dX3_act_69 : decode cX3_act 69 = .ok (.iload_n 3, 1) := by decide +kernel
theorem dX3_act_70 : decode cX3_act 70 = .ok (.iload 4, 2) := by decide +kernel
theorem dX3_act_72 : decode cX3_act 72 = .ok (.invokevirtual 97, 3) := by decide +kernel
theorem dX3_act_75 : decode cX3_act 75 = .ok (.ireturn, 1) := by decide +kernel
theorem dX3_act_76 : decode cX3_act 76 = .ok (.aload_n 1, 1) := by decide +kernel
theorem dX3_act_77 : decode cX3_act 77 = .ok (.iload_n 3, 1) := by decide +kernel
theorem dX3_act_78 : decode cX3_act 78 = .ok (.invokevirtual 101, 3) := by decide +kernel
theorem dX3_act_81 : decode cX3_act 81 = .ok (.ireturn, 1) := by decide +kernel
theorem dX3_act_82 : decode cX3_act 82 = .ok (.aload_n 1, 1) := by decide +kernel
theorem dX3_act_83 : decode cX3_act 83 = .ok (.iload_n 3, 1) := by decide +kernel
theorem dX3_act_84 : decode cX3_act 84 = .ok (.iload 4, 2) := by decide +kernel
theorem dX3_act_86 : decode cX3_act 86 = .ok (.aload_n 1, 1) := by decide +kernel
theorem dX3_act_87 : decode cX3_act 87 = .ok (.getfield 82, 3) := by decide +kernel
theorem dX3_act_90 : decode cX3_act 90 = .ok (.invokevirtual 104, 3) := by decide +kernel
theorem dX3_act_93 : decode cX3_act 93 = .ok (.ireturn, 1) := by decide +kernel
theorem dX3_act_94 : decode cX3_act 94 = .ok (.aload_n 1, 1) := by decide +kernel
theorem dX3_act_95 : decode cX3_act 95 = .ok (.iload_n 3, 1) := by decide +kernel
theorem dX3_act_96 : decode cX3_act 96 = .ok (.aload_n 1, 1) := by decide +kernel
theorem dX3_act_97 : decode cX3_act 97 = .ok (.getfield 82, 3) := by decide +kernel
theorem dX3_act_100 : decode cX3_act 100 = .ok (.invokevirtual 108, 3) := by decide +kernel
theorem dX3_act_103 : decode cX3_act 103 = .ok (.iconst 1, 1) := by decide +kernel
theorem dX3_act_104 : decode cX3_act 104 = .ok (.ireturn, 1) := by decide +kernel
theorem dX3_act_105 : decode cX3_act 105 = .ok (.aload_n 0, 1) := by decide +kernel
theorem dX3_act_106 : decode cX3_act 106 = .ok (.aload_n 1, 1) := by decide +kernel
theorem dX3_act_107 : decode cX3_act 107 = .ok (.iload_n 3, 1) := by decide +kernel
theorem dX3_act_108 : decode cX3_act 108 = .ok (.invokevirtual 112, 3) := by decide +kernel
theorem dX3_act_111 : decode cX3_act 111 = .ok (.ireturn, 1) := by decide +kernel
theorem dX3_act_112 : decode cX3_act 112 = .ok (.aload_n 0, 1) := by decide +kernel
theorem dX3_act_113 : decode cX3_act 113 = .ok (.aload_n 1, 1) := by decide +kernel
theorem dX3_act_114 : decode cX3_act 114 = .ok (.iload_n 3, 1) := by decide +kernel
theorem dX3_act_115 : decode cX3_act 115 = .ok (.invokevirtual 115, 3) := by decide +kernel
theorem dX3_act_118 : decode cX3_act 118 = .ok (.ireturn, 1) := by decide +kernel
theorem dX3_act_119 : decode cX3_act 119 = .ok (.aload_n 0, 1) := by decide +kernel
theorem dX3_act_120 : decode cX3_act 120 = .ok (.aload_n 1, 1) := by decide +kernel
theorem dX3_act_121 : decode cX3_act 121 = .ok (.iload_n 3, 1) := by decide +kernel
theorem dX3_act_122 : decode cX3_act 122 = .ok (.invokevirtual 118, 3) := by decide +kernel
theorem dX3_act_125 : decode cX3_act 125 = .ok (.ireturn, 1) := by decide +kernel
theorem dX3_act_126 : decode cX3_act 126 = .ok (.aload_n 0, 1) := by decide +kernel
theorem dX3_act_127 : decode cX3_act 127 = .ok (.aload_n 1, 1) := by decide +kernel
theorem dX3_act_128 : decode cX3_act 128 = .ok (.invokevirtual 121, 3) := by decide +kernel
theorem dX3_act_131 : decode cX3_act 131 = .ok (.ireturn, 1) := by decide +kernel
set_option maxHeartbeats 4000000 in
set_option maxRecDepth 100000 in
theorem ctX3_act {p1 : Int} {p2 : Int} {σ : jq_M} {res : Int} {σ' : jq_M} (hp1 : jq_com p1) (h : X3_act p1 p2 σ = some (res, σ')) : jq_MC jq_zX yX3_act cX3_act 5 (some .boolean) 5 128 [jR 60, jR p1, jI p2] σ (some (jI res)) σ' := by
  refine jq_met (own := RX3) (L0 := [(0, jR 60), (1, jR p1), (2, jI p2)]) (by decide) rfl rfl rfl ?_
  intro X Γ hnl hlY hRT
  refine jq_use2 (P := fun r => jq_RT jq_zX X (some .boolean) (some (jI r.1)) r.2) ?_ h hRT
  intro K0 hK0
  unfold X3_act
  refine jq_aload_n Γ dX3_act_0 rfl 1 rfl (jq_at_0 (at_com hp1)) ?_
  refine jq_getR (v := (p1 + 13)) Γ hlY (at_com hp1) fl_RX3_43 rfl rfl (ly_X1_steps hp1) dX3_act_1 ?_
  refine jq_iload_n Γ dX3_act_4 rfl 2 rfl ?_
  refine jq_cpI (jq_virt (avs := [jI p2]) (st := []) Γ hlY rfl ml_RX3_76 rfl (at_stp (stp_com hp1)) rfl rfl rfl rfl rfl dX3_act_5) (fun r h => ctX7_firstAt (stp_com hp1) h) (fun v1 => ?_)
  refine jq_istore_n (L' := [(3, jI v1), (0, jR 60), (1, jR p1), (2, jI p2)]) Γ dX3_act_8 rfl hnl rfl rfl ?_
  refine jq_aload_n Γ dX3_act_9 rfl 2 rfl (jq_at_0 (at_com hp1)) ?_
  refine jq_getR (v := (p1 + 13)) Γ hlY (at_com hp1) fl_RX3_43 rfl rfl (ly_X1_steps hp1) dX3_act_10 ?_
  refine jq_iload_n Γ dX3_act_13 rfl 3 rfl ?_
  refine jq_cpI (jq_virt (avs := [jI p2]) (st := []) Γ hlY rfl ml_RX3_79 rfl (at_stp (stp_com hp1)) rfl rfl rfl rfl rfl dX3_act_14) (fun r h => ctX7_secondAt (stp_com hp1) h) (fun v2 => ?_)
  refine jq_istore (L' := [(4, jI v2), (3, jI v1), (0, jR 60), (1, jR p1), (2, jI p2)]) Γ dX3_act_17 hnl rfl rfl ?_
  refine jq_aload_n Γ dX3_act_19 rfl 3 rfl (jq_at_0 (at_com hp1)) ?_
  refine jq_getR (v := (p1 + 13)) Γ hlY (at_com hp1) fl_RX3_43 rfl rfl (ly_X1_steps hp1) dX3_act_20 ?_
  refine jq_iload_n Γ dX3_act_23 rfl 4 rfl ?_
  refine jq_cpI (jq_virt (avs := [jI p2]) (st := []) Γ hlY rfl ml_RX3_54 rfl (at_stp (stp_com hp1)) rfl rfl rfl rfl rfl dX3_act_24) (fun r h => ctX7_wordAt (stp_com hp1) h) (fun v3 => ?_)
  refine jq_split (fun hc4 => ?_) (fun hn13_27 => ?_)
  · refine jq_tabIn (tgt := 68) Γ dX3_act_27 hc4 rfl rfl rfl ?_
    refine jq_aload_n Γ dX3_act_68 rfl 3 rfl (jq_at_0 (at_com hp1)) ?_
    refine jq_iload_n Γ dX3_act_69 rfl 1 rfl ?_
    refine jq_iload Γ dX3_act_70 0 rfl ?_
    refine jq_cwZ (jq_virt (avs := [jI v1, jI v2]) (st := []) Γ hlY rfl ml_RX3_97 rfl (at_com hp1) rfl rfl rfl rfl rfl dX3_act_72) rfl (fun r σ' h => ctX1_seatOne hp1 h) (fun v5 s6 hz7 => ?_)
    exact jq_zreturn Γ (hz7) dX3_act_75 (hK0 _)
  · refine jq_split (fun hc8 => ?_) (fun hn14_27 => ?_)
    · refine jq_tabIn (tgt := 76) Γ dX3_act_27 hc8 rfl rfl rfl ?_
      refine jq_aload_n Γ dX3_act_76 rfl 3 rfl (jq_at_0 (at_com hp1)) ?_
      refine jq_iload_n Γ dX3_act_77 rfl 1 rfl ?_
      refine jq_cwZ (jq_virt (avs := [jI v1]) (st := []) Γ hlY rfl ml_RX3_101 rfl (at_com hp1) rfl rfl rfl rfl rfl dX3_act_78) rfl (fun r σ' h => ctX1_raiseOne hp1 h) (fun v9 s10 hz11 => ?_)
      exact jq_zreturn Γ (hz11) dX3_act_81 (hK0 _)
    · refine jq_split (fun hc12 => ?_) (fun hn15_27 => ?_)
      · refine jq_tabIn (tgt := 82) Γ dX3_act_27 hc12 rfl rfl rfl ?_
        refine jq_aload_n Γ dX3_act_82 rfl 3 rfl (jq_at_0 (at_com hp1)) ?_
        refine jq_iload_n Γ dX3_act_83 rfl 1 rfl ?_
        refine jq_iload Γ dX3_act_84 0 rfl ?_
        refine jq_aload_n Γ dX3_act_86 rfl 3 rfl (jq_at_0 (at_com hp1)) ?_
        refine jq_getR (v := (p1 + 3)) Γ hlY (at_com hp1) fl_RX3_82 rfl rfl (ly_X1_seats hp1) dX3_act_87 ?_
        refine jq_cwZ (jq_virt (avs := [jI v1, jI v2, jR (p1 + 3)]) (st := []) Γ hlY rfl ml_RX3_104 rfl (at_com hp1) rfl rfl rfl rfl rfl dX3_act_90) rfl (fun r σ' h => ctX1_swapTwo hp1 (row_com hp1) h) (fun v13 s14 hz15 => ?_)
        exact jq_zreturn Γ (hz15) dX3_act_93 (hK0 _)
      · refine jq_split (fun hc16 => ?_) (fun hn16_27 => ?_)
        · refine jq_tabIn (tgt := 94) Γ dX3_act_27 hc16 rfl rfl rfl ?_
          refine jq_aload_n Γ dX3_act_94 rfl 3 rfl (jq_at_0 (at_com hp1)) ?_
          refine jq_iload_n Γ dX3_act_95 rfl 1 rfl ?_
          refine jq_aload_n Γ dX3_act_96 rfl 3 rfl (jq_at_0 (at_com hp1)) ?_
          refine jq_getR (v := (p1 + 3)) Γ hlY (at_com hp1) fl_RX3_82 rfl rfl (ly_X1_seats hp1) dX3_act_97 ?_
          refine jq_cwV (jq_virt (avs := [jI v1, jR (p1 + 3)]) (st := []) Γ hlY rfl ml_RX3_108 rfl (at_com hp1) rfl rfl rfl rfl rfl dX3_act_100) (fun σ' h => ctX1_turnAll hp1 (row_com hp1) h) (fun s17 => ?_)
          refine jq_iconst Γ dX3_act_103 rfl ?_
          exact jq_zreturn Γ (Or.inr rfl) dX3_act_104 (hK0 _)
        · refine jq_split (fun hc18 => ?_) (fun hn17_27 => ?_)
          · refine jq_tabIn (tgt := 105) Γ dX3_act_27 hc18 rfl rfl rfl ?_
            refine jq_aload_n Γ dX3_act_105 rfl 2 rfl (jq_at_0 at_X_60) ?_
            refine jq_aload_n Γ dX3_act_106 rfl 3 rfl (jq_at_0 (at_com hp1)) ?_
            refine jq_iload_n Γ dX3_act_107 rfl 1 rfl ?_
            refine jq_cwZ (jq_virt (avs := [jR p1, jI v1]) (st := []) Γ hlY rfl ml_RX3_112 rfl at_X_60 rfl rfl rfl rfl rfl dX3_act_108) rfl (fun r σ' h => ctX3_spend hp1 h) (fun v19 s20 hz21 => ?_)
            exact jq_zreturn Γ (hz21) dX3_act_111 (hK0 _)
          · refine jq_split (fun hc22 => ?_) (fun hn18_27 => ?_)
            · refine jq_tabIn (tgt := 112) Γ dX3_act_27 hc22 rfl rfl rfl ?_
              refine jq_aload_n Γ dX3_act_112 rfl 2 rfl (jq_at_0 at_X_60) ?_
              refine jq_aload_n Γ dX3_act_113 rfl 3 rfl (jq_at_0 (at_com hp1)) ?_
              refine jq_iload_n Γ dX3_act_114 rfl 1 rfl ?_
              refine jq_cwZ (jq_virt (avs := [jR p1, jI v1]) (st := []) Γ hlY rfl ml_RX3_115 rfl at_X_60 rfl rfl rfl rfl rfl dX3_act_115) rfl (fun r σ' h => ctX3_agreeTo hp1 h) (fun v23 s24 hz25 => ?_)
              exact jq_zreturn Γ (hz25) dX3_act_118 (hK0 _)
            · refine jq_split (fun hc26 => ?_) (fun hn19_27 => ?_)
              · refine jq_tabIn (tgt := 119) Γ dX3_act_27 hc26 rfl rfl rfl ?_
                refine jq_aload_n Γ dX3_act_119 rfl 2 rfl (jq_at_0 at_X_60) ?_
                refine jq_aload_n Γ dX3_act_120 rfl 3 rfl (jq_at_0 (at_com hp1)) ?_
                refine jq_iload_n Γ dX3_act_121 rfl 1 rfl ?_
                refine jq_cwZ (jq_virt (avs := [jR p1, jI v1]) (st := []) Γ hlY rfl ml_RX3_118 rfl at_X_60 rfl rfl rfl rfl rfl dX3_act_122) rfl (fun r σ' h => ctX3_letGo hp1 h) (fun v27 s28 hz29 => ?_)
                exact jq_zreturn Γ (hz29) dX3_act_125 (hK0 _)
              · refine jq_tabOut (tgt := 126) Γ dX3_act_27 (by omega) rfl ?_
                refine jq_aload_n Γ dX3_act_126 rfl 2 rfl (jq_at_0 at_X_60) ?_
                refine jq_aload_n Γ dX3_act_127 rfl 3 rfl (jq_at_0 (at_com hp1)) ?_
                refine jq_cwZ (jq_virt (avs := [jR p1]) (st := []) Γ hlY rfl ml_RX3_121 rfl at_X_60 rfl rfl rfl rfl rfl dX3_act_128) rfl (fun r σ' h => ctX3_seatAny hp1 h) (fun v30 s31 hz32 => ?_)
                exact jq_zreturn Γ (hz32) dX3_act_131 (hK0 _)


theorem dX3_run_0 : decode cX3_run 0 = .ok (.aload_n 0, 1) := by decide +kernel
theorem dX3_run_1 : decode cX3_run 1 = .ok (.iconst 0, 1) := by decide +kernel
theorem dX3_run_2 : decode cX3_run 2 = .ok (.putfield 36, 3) := by decide +kernel
theorem dX3_run_5 : decode cX3_run 5 = .ok (.aload_n 0, 1) := by decide +kernel
theorem dX3_run_6 : decode cX3_run 6 = .ok (.iconst 0, 1) := by decide +kernel
theorem dX3_run_7 : decode cX3_run 7 = .ok (.putfield 15, 3) := by decide +kernel
theorem dX3_run_10 : decode cX3_run 10 = .ok (.aload_n 0, 1) := by decide +kernel
theorem dX3_run_11 : decode cX3_run 11 = .ok (.iconst 0, 1) := by decide +kernel
theorem dX3_run_12 : decode cX3_run 12 = .ok (.putfield 19, 3) := by decide +kernel
theorem dX3_run_15 : decode cX3_run 15 = .ok (.aload_n 0, 1) := by decide +kernel
theorem dX3_run_16 : decode cX3_run 16 = .ok (.iconst 0, 1) := by decide +kernel
theorem dX3_run_17 : decode cX3_run 17 = .ok (.putfield 22, 3) := by decide +kernel
theorem dX3_run_20 : decode cX3_run 20 = .ok (.aload_n 0, 1) := by decide +kernel
theorem dX3_run_21 : decode cX3_run 21 = .ok (.iconst 0, 1) := by decide +kernel
theorem dX3_run_22 : decode cX3_run 22 = .ok (.putfield 25, 3) := by decide +kernel
theorem dX3_run_25 : decode cX3_run 25 = .ok (.aload_n 0, 1) := by decide +kernel
theorem dX3_run_26 : decode cX3_run 26 = .ok (.iconst 0, 1) := by decide +kernel
theorem dX3_run_27 : decode cX3_run 27 = .ok (.putfield 28, 3) := by decide +kernel
theorem dX3_run_30 : decode cX3_run 30 = .ok (.aload_n 0, 1) := by decide +kernel
theorem dX3_run_31 : decode cX3_run 31 = .ok (.iload_n 2, 1) := by decide +kernel
theorem dX3_run_32 : decode cX3_run 32 = .ok (.putfield 39, 3) := by decide +kernel
theorem dX3_run_35 : decode cX3_run 35 = .ok (.iconst 0, 1) := by decide +kernel
theorem dX3_run_36 : decode cX3_run 36 = .ok (.istore_n 3, 1) := by decide +kernel
theorem dX3_run_37 : decode cX3_run 37 = .ok (.iconst 0, 1) := by decide +kernel
theorem dX3_run_38 : decode cX3_run 38 = .ok (.istore 4, 2) := by decide +kernel
theorem dX3_run_40 : decode cX3_run 40 = .ok (.iload 4, 2) := by decide +kernel
theorem dX3_run_42 : decode cX3_run 42 = .ok (.ldc 42, 2) := by decide +kernel
theorem dX3_run_44 : decode cX3_run 44 = .ok (.if_icmp .ge 181, 3) := by decide +kernel
theorem dX3_run_47 : decode cX3_run 47 = .ok (.iload_n 3, 1) := by decide +kernel
theorem dX3_run_48 : decode cX3_run 48 = .ok (.aload_n 1, 1) := by decide +kernel
theorem dX3_run_49 : decode cX3_run 49 = .ok (.getfield 43, 3) := by decide +kernel
theorem dX3_run_52 : decode cX3_run 52 = .ok (.getfield 49, 3) := by decide +kernel
theorem dX3_run_55 : decode cX3_run 55 = .ok (.if_icmp .ge 170, 3) := by decide +kernel
theorem dX3_run_58 : decode cX3_run 58 = .ok (.aload_n 1, 1) := by decide +kernel
theorem dX3_run_59 : decode cX3_run 59 = .ok (.getfield 43, 3) := by decide +kernel
theorem dX3_run_62 : decode cX3_run 62 = .ok (.iload_n 3, 1) := by decide +kernel
theorem dX3_run_63 : decode cX3_run 63 = .ok (.invokevirtual 54, 3) := by decide +kernel
theorem dX3_run_66 : decode cX3_run 66 = .ok (.istore 5, 2) := by decide +kernel
theorem dX3_run_68 : decode cX3_run 68 = .ok (.iload 5, 2) := by decide +kernel
theorem dX3_run_70 : decode cX3_run 70 = .ok (.bipush 26, 2) := by decide +kernel
theorem dX3_run_72 : decode cX3_run 72 = .ok (.if_icmp .ne 16, 3) := by decide +kernel
theorem dX3_run_75 : decode cX3_run 75 = .ok (.aload_n 0, 1) := by decide +kernel
theorem dX3_run_76 : decode cX3_run 76 = .ok (.aload_n 1, 1) := by decide +kernel
theorem dX3_run_77 : decode cX3_run 77 = .ok (.getfield 43, 3) := by decide +kernel
theorem dX3_run_80 : decode cX3_run 80 = .ok (.iload_n 3, 1) := by decide +kernel
theorem dX3_run_81 : decode cX3_run 81 = .ok (.invokevirtual 58, 3) := by decide +kernel
theorem dX3_run_84 : decode cX3_run 84 = .ok (.istore_n 3, 1) := by decide +kernel
theorem dX3_run_85 : decode cX3_run 85 = .ok (.goto 134, 3) := by decide +kernel
theorem dX3_run_88 : decode cX3_run 88 = .ok (.aload_n 0, 1) := by decide +kernel
theorem dX3_run_89 : decode cX3_run 89 = .ok (.getfield 36, 3) := by decide +kernel
theorem dX3_run_92 : decode cX3_run 92 = .ok (.sipush 300, 3) := by decide +kernel
theorem dX3_run_95 : decode cX3_run 95 = .ok (.if_icmp .ne 9, 3) := by decide +kernel
theorem dX3_run_98 : decode cX3_run 98 = .ok (.aload_n 0, 1) := by decide +kernel
theorem dX3_run_99 : decode cX3_run 99 = .ok (.iconst 1, 1) := by decide +kernel
theorem dX3_run_100 : decode cX3_run 100 = .ok (.putfield 28, 3) := by decide +kernel
theorem dX3_run_103 : decode cX3_run 103 = .ok (.return_, 1) := by decide +kernel
theorem dX3_run_104 : decode cX3_run 104 = .ok (.aload_n 0, 1) := by decide +kernel
theorem dX3_run_105 : decode cX3_run 105 = .ok (.dup, 1) := by decide +kernel
theorem dX3_run_106 : decode cX3_run 106 = .ok (.getfield 36, 3) := by decide +kernel
theorem dX3_run_109 : decode cX3_run 109 = .ok (.iconst 1, 1) := by decide +kernel
theorem dX3_run_110 : decode cX3_run 110 = .ok (.iadd, 1) := by decide +kernel
theorem dX3_run_111 : decode cX3_run 111 = .ok (.putfield 36, 3) := by decide +kernel
theorem dX3_run_114 : decode cX3_run 114 = .ok (.iload 5, 2) := by decide +kernel
theorem dX3_run_116 : decode cX3_run 116 = .ok (.lookupswitch 74 #[(21, 37), (25, 62), (27, 36)], 36) := by decide +kernel
theorem dX3_run_152 : decode cX3_run 152 = .ok (.return_, 1) := by decide +kernel
theorem dX3_run_153 : decode cX3_run 153 = .ok (.aload_n 0, 1) := by decide +kernel
theorem dX3_run_154 : decode cX3_run 154 = .ok (.aload_n 1, 1) := by decide +kernel
theorem dX3_run_155 : decode cX3_run 155 = .ok (.iload_n 3, 1) := by decide +kernel
theorem dX3_run_156 : decode cX3_run 156 = .ok (.invokevirtual 62, 3) := by decide +kernel
theorem dX3_run_159 : decode cX3_run 159 = .ok (.ifCond .eq 7, 3) := by decide +kernel
theorem dX3_run_162 : decode cX3_run 162 = .ok (.iload_n 3, 1) := by decide +kernel
theorem dX3_run_163 : decode cX3_run 163 = .ok (.goto 11, 3) := by decide +kernel
theorem dX3_run_166 : decode cX3_run 166 = .ok (.aload_n 1, 1) := by decide +kernel
theorem dX3_run_167 : decode cX3_run 167 = .ok (.getfield 43, 3) := by decide +kernel
theorem dX3_run_170 : decode cX3_run 170 = .ok (.iload_n 3, 1) := by decide +kernel
theorem dX3_run_171 : decode cX3_run 171 = .ok (.invokevirtual 66, 3) := by decide +kernel
theorem dX3_run_174 : decode cX3_run 174 = .ok (.istore_n 3, 1) := by decide +kernel
theorem dX3_run_175 : decode cX3_run 175 = .ok (.goto 41, 3) := by decide +kernel
theorem dX3_run_178 : decode cX3_run 178 = .ok (.aload_n 0, 1) := by decide +kernel
theorem dX3_run_179 : decode cX3_run 179 = .ok (.aload_n 1, 1) := by decide +kernel
theorem dX3_run_180 : decode cX3_run 180 = .ok (.getfield 43, 3) := by decide +kernel
theorem dX3_run_183 : decode cX3_run 183 = .ok (.iload_n 3, 1) := by decide +kernel
theorem dX3_run_184 : decode cX3_run 184 = .ok (.invokevirtual 69, 3) := by decide +kernel
theorem dX3_run_187 : decode cX3_run 187 = .ok (.goto 29, 3) := by decide +kernel
theorem dX3_run_190 : decode cX3_run 190 = .ok (.aload_n 0, 1) := by decide +kernel
theorem dX3_run_191 : decode cX3_run 191 = .ok (.dup, 1) := by decide +kernel
theorem dX3_run_192 : decode cX3_run 192 = .ok (.getfield 15, 3) := by decide +kernel
theorem dX3_run_195 : decode cX3_run 195 = .ok (.aload_n 0, 1) := by decide +kernel
theorem dX3_run_196 : decode cX3_run 196 = .ok (.aload_n 1, 1) := by decide +kernel
theorem dX3_run_197 : decode cX3_run 197 = .ok (.iload_n 3, 1) := by decide +kernel
theorem dX3_run_198 : decode cX3_run 198 = .ok (.invokevirtual 73, 3) := by decide +kernel
theorem dX3_run_201 : decode cX3_run 201 = .ok (.ifCond .ne 7, 3) := by decide +kernel
theorem dX3_run_204 : decode cX3_run 204 = .ok (.iconst 1, 1) := by decide +kernel
theorem dX3_run_205 : decode cX3_run 205 = .ok (.goto 4, 3) := by decide +kernel
theorem dX3_run_208 : decode cX3_run 208 = .ok (.iconst 0, 1) := by decide +kernel
theorem dX3_run_209 : decode cX3_run 209 = .ok (.invokestatic 32, 3) := by decide +kernel
theorem dX3_run_212 : decode cX3_run 212 = .ok (.iadd, 1) := by decide +kernel
theorem dX3_run_213 : decode cX3_run 213 = .ok (.putfield 15, 3) := by decide +kernel
theorem dX3_run_216 : decode cX3_run 216 = .ok (.iinc 3 1, 3) := by decide +kernel
theorem dX3_run_219 : decode cX3_run 219 = .ok (.iinc 4 1, 3) := by decide +kernel
theorem dX3_run_222 : decode cX3_run 222 = .ok (.goto (-182), 3) := by decide +kernel
theorem dX3_run_225 : decode cX3_run 225 = .ok (.return_, 1) := by decide +kernel
set_option maxHeartbeats 4000000 in
set_option maxRecDepth 100000 in
theorem ctX3_run {p1 : Int} {p2 : Int} {σ : jq_M} {σ' : jq_M} (hp1 : jq_com p1) (h : X3_run p1 p2 σ = some σ') : jq_MC jq_zX yX3_run cX3_run 6 none 6 156 [jR 60, jR p1, jI p2] σ none σ' := by
  refine jq_met (own := RX3) (L0 := [(0, jR 60), (1, jR p1), (2, jI p2)]) (by decide) rfl rfl rfl ?_
  intro X Γ hnl hlY hRT
  refine jq_use2 (P := fun r => jq_RT jq_zX X none none r) ?_ h hRT
  intro K0 hK0
  unfold X3_run
  refine jq_aload_n Γ dX3_run_0 rfl 0 rfl (jq_at_0 at_X_60) ?_
  refine jq_iconst Γ dX3_run_1 rfl ?_
  refine jq_putI Γ at_X_60 fl_RX3_36 rfl rfl dX3_run_2 (fun s1 => ?_)
  refine jq_aload_n Γ dX3_run_5 rfl 0 rfl (jq_at_0 at_X_60) ?_
  refine jq_iconst Γ dX3_run_6 rfl ?_
  refine jq_putI Γ at_X_60 fl_RX3_15 rfl rfl dX3_run_7 (fun s2 => ?_)
  refine jq_aload_n Γ dX3_run_10 rfl 0 rfl (jq_at_0 at_X_60) ?_
  refine jq_iconst Γ dX3_run_11 rfl ?_
  refine jq_putI Γ at_X_60 fl_RX3_19 rfl rfl dX3_run_12 (fun s3 => ?_)
  refine jq_aload_n Γ dX3_run_15 rfl 0 rfl (jq_at_0 at_X_60) ?_
  refine jq_iconst Γ dX3_run_16 rfl ?_
  refine jq_putI Γ at_X_60 fl_RX3_22 rfl rfl dX3_run_17 (fun s4 => ?_)
  refine jq_aload_n Γ dX3_run_20 rfl 0 rfl (jq_at_0 at_X_60) ?_
  refine jq_iconst Γ dX3_run_21 rfl ?_
  refine jq_putI Γ at_X_60 fl_RX3_25 rfl rfl dX3_run_22 (fun s5 => ?_)
  refine jq_aload_n Γ dX3_run_25 rfl 0 rfl (jq_at_0 at_X_60) ?_
  refine jq_iconst Γ dX3_run_26 rfl ?_
  refine jq_putZ Γ at_X_60 fl_RX3_28 rfl rfl (Or.inl rfl) dX3_run_27 (fun s6 => ?_)
  refine jq_aload_n Γ dX3_run_30 rfl 0 rfl (jq_at_0 at_X_60) ?_
  refine jq_iload_n Γ dX3_run_31 rfl 2 rfl ?_
  refine jq_putI Γ at_X_60 fl_RX3_39 rfl rfl dX3_run_32 (fun s7 => ?_)
  refine jq_iconst Γ dX3_run_35 rfl ?_
  refine jq_istore_n (L' := [(3, jI 0), (0, jR 60), (1, jR p1), (2, jI p2)]) Γ dX3_run_36 rfl hnl rfl rfl ?_
  refine jq_iconst Γ dX3_run_37 rfl ?_
  refine jq_istore (L' := [(4, jI 0), (3, jI 0), (0, jR 60), (1, jR p1), (2, jI p2)]) Γ dX3_run_38 hnl rfl rfl ?_
  refine jq_sub Γ (L' := [(0, jR 60), (1, jR p1), (3, jI 0), (4, jI 0)]) [2, 3, 1, 0] rfl ?_
  refine jq_loop2 (C := fun (t8 : Int × Int × jq_M) => jq_V jq_zX X (jq_zN jq_zX) t8.2.2 40 [(0, jR 60), (1, jR p1), (3, jI t8.1), (4, jI t8.2.1)] []) (KX := Sum.elim (fun (e40 : jq_M) => jq_V jq_zX X (jq_zN jq_zX) e40 98 [(0, jR 60)] []) (Sum.elim (fun (e42 : jq_M) => jq_V jq_zX X (jq_zN jq_zX) e42 152 [] []) (fun (e43 : jq_M) => jq_V jq_zX X (jq_zN jq_zX) e43 225 [] []))) ?_ ?_ (0, 0, s7)
  · intro K40_t8 hCt8 hXt8 t8
    unfold X3_run_b40
    have hj209_1020 : ∀ (j27 : Int) (j28 : Int) (j29 : Int) (j30 : Int) (s32 : jq_M) (hz31 : j30 = 0 ∨ j30 = 1), jq_J (X3_run_j209 p1 j27 j28 j29 j30 s32) K40_t8 (jq_V jq_zX X (jq_zN jq_zX) s32 209 [(0, jR 60), (1, jR p1), (3, jI j27), (4, jI j28)] [jI j30, jI j29, jR 60]) := by
      intro j27 j28 j29 j30 s32 hz31
      unfold X3_run_j209
      refine jq_cpI (jq_nest (avs := [jI j30]) (st := [jI j29, jR 60]) Γ hlY rfl ml_RX3_32 rfl rfl rfl rfl rfl dX3_run_209) (fun r h => ctX10_asNumber h) (fun v33 => ?_)
      refine jq_iadd Γ dX3_run_212 ?_
      refine jq_putI Γ at_X_60 fl_RX3_15 rfl rfl dX3_run_213 (fun s34 => ?_)
      refine jq_iincN (L' := fun v35 => [(3, jI v35), (0, jR 60), (1, jR p1), (4, jI j28)]) Γ dX3_run_216 2 rfl hnl rfl (fun _ => rfl) (fun v35 => ?_)
      refine jq_iincN (L' := fun v36 => [(4, jI v36), (3, jI v35), (0, jR 60), (1, jR p1)]) Γ dX3_run_219 3 rfl hnl rfl (fun _ => rfl) (fun v36 => ?_)
      refine jq_goto Γ (tgt := 40) dX3_run_222 rfl ?_
      refine jq_sub Γ (L' := [(0, jR 60), (1, jR p1), (3, jI v35), (4, jI v36)]) [2, 3, 1, 0] rfl ?_
      exact jq_done (hCt8 (v35, v36, s34))
    refine jq_iload Γ dX3_run_40 3 rfl ?_
    refine jq_ldc Γ 1000000 dX3_run_42 kc_RX3_42 rfl ?_
    refine jq_icmp_ge (tgt := 225) Γ dX3_run_44 rfl ?_ ?_
    · refine jq_sub Γ (L' := []) [] rfl ?_
      exact jq_done (hXt8 (.inr (.inr t8.2.2)))
    · refine jq_iload_n Γ dX3_run_47 rfl 2 rfl ?_
      refine jq_aload_n Γ dX3_run_48 rfl 1 rfl (jq_at_0 (at_com hp1)) ?_
      refine jq_getR (v := (p1 + 13)) Γ hlY (at_com hp1) fl_RX3_43 rfl rfl (ly_X1_steps hp1) dX3_run_49 ?_
      refine jq_getI (J := 2) Γ (at_stp (stp_com hp1)) fl_RX3_49 rfl rfl dX3_run_52 ?_
      refine jq_icmp_ge (tgt := 225) Γ dX3_run_55 rfl ?_ ?_
      · refine jq_sub Γ (L' := []) [] rfl ?_
        exact jq_done (hXt8 (.inr (.inr t8.2.2)))
      · refine jq_aload_n Γ dX3_run_58 rfl 1 rfl (jq_at_0 (at_com hp1)) ?_
        refine jq_getR (v := (p1 + 13)) Γ hlY (at_com hp1) fl_RX3_43 rfl rfl (ly_X1_steps hp1) dX3_run_59 ?_
        refine jq_iload_n Γ dX3_run_62 rfl 2 rfl ?_
        refine jq_cpI (jq_virt (avs := [jI t8.1]) (st := []) Γ hlY rfl ml_RX3_54 rfl (at_stp (stp_com hp1)) rfl rfl rfl rfl rfl dX3_run_63) (fun r h => ctX7_wordAt (stp_com hp1) h) (fun v9 => ?_)
        refine jq_istore (L' := [(5, jI v9), (0, jR 60), (1, jR p1), (3, jI t8.1), (4, jI t8.2.1)]) Γ dX3_run_66 hnl rfl rfl ?_
        refine jq_iload Γ dX3_run_68 0 rfl ?_
        refine jq_bipush Γ dX3_run_70 rfl ?_
        refine jq_icmp_ne (tgt := 88) Γ dX3_run_72 rfl ?_ ?_
        · refine jq_aload_n Γ dX3_run_88 rfl 1 rfl (jq_at_0 at_X_60) ?_
          refine jq_getI (J := 0) Γ at_X_60 fl_RX3_36 rfl rfl dX3_run_89 ?_
          refine jq_sipush Γ dX3_run_92 rfl ?_
          refine jq_icmp_ne (tgt := 104) Γ dX3_run_95 rfl ?_ ?_
          · refine jq_aload_n Γ dX3_run_104 rfl 1 rfl (jq_at_0 at_X_60) ?_
            refine jq_dup Γ dX3_run_105 rfl ?_
            refine jq_getI (J := 0) Γ at_X_60 fl_RX3_36 rfl rfl dX3_run_106 ?_
            refine jq_iconst Γ dX3_run_109 rfl ?_
            refine jq_iadd Γ dX3_run_110 ?_
            refine jq_putI Γ at_X_60 fl_RX3_36 rfl rfl dX3_run_111 (fun s10 => ?_)
            refine jq_iload Γ dX3_run_114 0 rfl ?_
            refine jq_split (fun hc11 => ?_) (fun hn21_116 => ?_)
            · refine jq_look (tgt := 153) Γ dX3_run_116 rfl (by rw [hc11] <;> rfl) rfl ?_
              refine jq_aload_n Γ dX3_run_153 rfl 1 rfl (jq_at_0 at_X_60) ?_
              refine jq_aload_n Γ dX3_run_154 rfl 2 rfl (jq_at_0 (at_com hp1)) ?_
              refine jq_iload_n Γ dX3_run_155 rfl 3 rfl ?_
              refine jq_cpZ (jq_virt (avs := [jR p1, jI t8.1]) (st := []) Γ hlY rfl ml_RX3_62 rfl at_X_60 rfl rfl rfl rfl rfl dX3_run_156) rfl (fun r h => ctX3_isSo hp1 h) (fun v12 hz13 => ?_)
              refine jq_if_eq (tgt := 166) Γ dX3_run_159 rfl ?_ ?_
              · refine jq_aload_n Γ dX3_run_166 rfl 2 rfl (jq_at_0 (at_com hp1)) ?_
                refine jq_getR (v := (p1 + 13)) Γ hlY (at_com hp1) fl_RX3_43 rfl rfl (ly_X1_steps hp1) dX3_run_167 ?_
                refine jq_iload_n Γ dX3_run_170 rfl 3 rfl ?_
                refine jq_cpI (jq_virt (avs := [jI t8.1]) (st := []) Γ hlY rfl ml_RX3_66 rfl (at_stp (stp_com hp1)) rfl rfl rfl rfl rfl dX3_run_171) (fun r h => ctX7_mateAt (stp_com hp1) h) (fun v14 => ?_)
                refine jq_istore_n (L' := [(3, jI v14), (5, jI v9), (0, jR 60), (1, jR p1), (4, jI t8.2.1)]) Γ dX3_run_174 rfl hnl rfl rfl ?_
                refine jq_goto Γ (tgt := 216) dX3_run_175 rfl ?_
                refine jq_iincN (L' := fun v15 => [(3, jI v15), (5, jI v9), (0, jR 60), (1, jR p1), (4, jI t8.2.1)]) Γ dX3_run_216 0 rfl hnl rfl (fun _ => rfl) (fun v15 => ?_)
                refine jq_iincN (L' := fun v16 => [(4, jI v16), (3, jI v15), (5, jI v9), (0, jR 60), (1, jR p1)]) Γ dX3_run_219 4 rfl hnl rfl (fun _ => rfl) (fun v16 => ?_)
                refine jq_goto Γ (tgt := 40) dX3_run_222 rfl ?_
                refine jq_sub Γ (L' := [(0, jR 60), (1, jR p1), (3, jI v15), (4, jI v16)]) [3, 4, 1, 0] rfl ?_
                exact jq_done (hCt8 (v15, v16, s10))
              · refine jq_iload_n Γ dX3_run_162 rfl 3 rfl ?_
                refine jq_goto Γ (tgt := 174) dX3_run_163 rfl ?_
                refine jq_istore_n (L' := [(3, jI t8.1), (5, jI v9), (0, jR 60), (1, jR p1), (4, jI t8.2.1)]) Γ dX3_run_174 rfl hnl rfl rfl ?_
                refine jq_goto Γ (tgt := 216) dX3_run_175 rfl ?_
                refine jq_iincN (L' := fun v17 => [(3, jI v17), (5, jI v9), (0, jR 60), (1, jR p1), (4, jI t8.2.1)]) Γ dX3_run_216 0 rfl hnl rfl (fun _ => rfl) (fun v17 => ?_)
                refine jq_iincN (L' := fun v18 => [(4, jI v18), (3, jI v17), (5, jI v9), (0, jR 60), (1, jR p1)]) Γ dX3_run_219 4 rfl hnl rfl (fun _ => rfl) (fun v18 => ?_)
                refine jq_goto Γ (tgt := 40) dX3_run_222 rfl ?_
                refine jq_sub Γ (L' := [(0, jR 60), (1, jR p1), (3, jI v17), (4, jI v18)]) [3, 4, 1, 0] rfl ?_
                exact jq_done (hCt8 (v17, v18, s10))
            · refine jq_split (fun hc19 => ?_) (fun hn25_116 => ?_)
              · refine jq_look (tgt := 178) Γ dX3_run_116 rfl (by rw [hc19] <;> rfl) rfl ?_
                refine jq_aload_n Γ dX3_run_178 rfl 1 rfl (jq_at_0 at_X_60) ?_
                refine jq_aload_n Γ dX3_run_179 rfl 2 rfl (jq_at_0 (at_com hp1)) ?_
                refine jq_getR (v := (p1 + 13)) Γ hlY (at_com hp1) fl_RX3_43 rfl rfl (ly_X1_steps hp1) dX3_run_180 ?_
                refine jq_iload_n Γ dX3_run_183 rfl 3 rfl ?_
                refine jq_cwV (jq_virt (avs := [jR (p1 + 13), jI t8.1]) (st := []) Γ hlY rfl ml_RX3_69 rfl at_X_60 rfl rfl rfl rfl rfl dX3_run_184) (fun σ' h => ctX3_beginLoop (stp_com hp1) h) (fun s20 => ?_)
                refine jq_goto Γ (tgt := 216) dX3_run_187 rfl ?_
                refine jq_iincN (L' := fun v21 => [(3, jI v21), (5, jI v9), (0, jR 60), (1, jR p1), (4, jI t8.2.1)]) Γ dX3_run_216 3 rfl hnl rfl (fun _ => rfl) (fun v21 => ?_)
                refine jq_iincN (L' := fun v22 => [(4, jI v22), (3, jI v21), (5, jI v9), (0, jR 60), (1, jR p1)]) Γ dX3_run_219 4 rfl hnl rfl (fun _ => rfl) (fun v22 => ?_)
                refine jq_goto Γ (tgt := 40) dX3_run_222 rfl ?_
                refine jq_sub Γ (L' := [(0, jR 60), (1, jR p1), (3, jI v21), (4, jI v22)]) [3, 4, 1, 0] rfl ?_
                exact jq_done (hCt8 (v21, v22, s20))
              · refine jq_split (fun hc23 => ?_) (fun hn27_116 => ?_)
                · refine jq_look (tgt := 152) Γ dX3_run_116 rfl (by rw [hc23] <;> rfl) rfl ?_
                  refine jq_sub Γ (L' := []) [] rfl ?_
                  exact jq_done (hXt8 (.inr (.inl s10)))
                · refine jq_look (tgt := 190) Γ dX3_run_116 rfl (by rw [jq_osw hn21_116, jq_osw hn25_116, jq_osw hn27_116] <;> rfl) rfl ?_
                  refine jq_aload_n Γ dX3_run_190 rfl 1 rfl (jq_at_0 at_X_60) ?_
                  refine jq_dup Γ dX3_run_191 rfl ?_
                  refine jq_getI (J := 1) Γ at_X_60 fl_RX3_15 rfl rfl dX3_run_192 ?_
                  refine jq_aload_n Γ dX3_run_195 rfl 1 rfl (jq_at_0 at_X_60) ?_
                  refine jq_aload_n Γ dX3_run_196 rfl 2 rfl (jq_at_0 (at_com hp1)) ?_
                  refine jq_iload_n Γ dX3_run_197 rfl 3 rfl ?_
                  refine jq_cwZ (jq_virt (avs := [jR p1, jI t8.1]) (st := [jI (s10 60 1), jR 60]) Γ hlY rfl ml_RX3_73 rfl at_X_60 rfl rfl rfl rfl rfl dX3_run_198) rfl (fun r σ' h => ctX3_act hp1 h) (fun v24 s25 hz26 => ?_)
                  refine jq_if_ne (tgt := 208) Γ dX3_run_201 rfl ?_ ?_
                  · refine jq_iconst Γ dX3_run_208 rfl ?_
                    refine jq_sub Γ (L' := [(0, jR 60), (1, jR p1), (3, jI t8.1), (4, jI t8.2.1)]) [1, 2, 3, 4] rfl ?_
                    exact hj209_1020 t8.1 t8.2.1 (s10 60 1) 0 s25 (Or.inl rfl)
                  · refine jq_iconst Γ dX3_run_204 rfl ?_
                    refine jq_goto Γ (tgt := 209) dX3_run_205 rfl ?_
                    refine jq_sub Γ (L' := [(0, jR 60), (1, jR p1), (3, jI t8.1), (4, jI t8.2.1)]) [1, 2, 3, 4] rfl ?_
                    exact hj209_1020 t8.1 t8.2.1 (s10 60 1) 1 s25 (Or.inr rfl)
          · refine jq_sub Γ (L' := [(0, jR 60)]) [1] rfl ?_
            exact jq_done (hXt8 (.inl t8.2.2))
        · refine jq_aload_n Γ dX3_run_75 rfl 1 rfl (jq_at_0 at_X_60) ?_
          refine jq_aload_n Γ dX3_run_76 rfl 2 rfl (jq_at_0 (at_com hp1)) ?_
          refine jq_getR (v := (p1 + 13)) Γ hlY (at_com hp1) fl_RX3_43 rfl rfl (ly_X1_steps hp1) dX3_run_77 ?_
          refine jq_iload_n Γ dX3_run_80 rfl 3 rfl ?_
          refine jq_cwI (jq_virt (avs := [jR (p1 + 13), jI t8.1]) (st := []) Γ hlY rfl ml_RX3_58 rfl at_X_60 rfl rfl rfl rfl rfl dX3_run_81) (fun r σ' h => ctX3_behindEnd (stp_com hp1) h) (fun v37 s38 => ?_)
          refine jq_istore_n (L' := [(3, jI v37), (5, jI v9), (0, jR 60), (1, jR p1), (4, jI t8.2.1)]) Γ dX3_run_84 rfl hnl rfl rfl ?_
          refine jq_goto Γ (tgt := 219) dX3_run_85 rfl ?_
          refine jq_iincN (L' := fun v39 => [(4, jI v39), (3, jI v37), (5, jI v9), (0, jR 60), (1, jR p1)]) Γ dX3_run_219 4 rfl hnl rfl (fun _ => rfl) (fun v39 => ?_)
          refine jq_goto Γ (tgt := 40) dX3_run_222 rfl ?_
          refine jq_sub Γ (L' := [(0, jR 60), (1, jR p1), (3, jI v37), (4, jI v39)]) [3, 4, 1, 0] rfl ?_
          exact jq_done (hCt8 (v37, v39, s38))
  · refine jq_elim ?_ ?_
    · intro e40
      refine jq_aload_n Γ dX3_run_98 rfl 0 rfl (jq_at_0 at_X_60) ?_
      refine jq_iconst Γ dX3_run_99 rfl ?_
      refine jq_putZ Γ at_X_60 fl_RX3_28 rfl rfl (Or.inr rfl) dX3_run_100 (fun s41 => ?_)
      exact jq_vreturn Γ dX3_run_103 (hK0 _)
    · refine jq_elim ?_ ?_
      · intro e42
        exact jq_vreturn Γ dX3_run_152 (hK0 _)
      · intro e43
        exact jq_vreturn Γ dX3_run_225 (hK0 _)


theorem dX3_tellTo_0 : decode cX3_tellTo 0 = .ok (.aload_n 1, 1) := by decide +kernel
theorem dX3_tellTo_1 : decode cX3_tellTo 1 = .ok (.arraylength, 1) := by decide +kernel
theorem dX3_tellTo_2 : decode cX3_tellTo 2 = .ok (.iconst 5, 1) := by decide +kernel
theorem dX3_tellTo_3 : decode cX3_tellTo 3 = .ok (.if_icmp .ne 41, 3) := by decide +kernel
theorem dX3_tellTo_6 : decode cX3_tellTo 6 = .ok (.aload_n 1, 1) := by decide +kernel
theorem dX3_tellTo_7 : decode cX3_tellTo 7 = .ok (.iconst 0, 1) := by decide +kernel
theorem dX3_tellTo_8 : decode cX3_tellTo 8 = .ok (.aload_n 0, 1) := by decide +kernel
theorem dX3_tellTo_9 : decode cX3_tellTo 9 = .ok (.getfield 15, 3) := by decide +kernel
theorem dX3_tellTo_12 : decode cX3_tellTo 12 = .ok (.iastore, 1) := by decide +kernel
theorem dX3_tellTo_13 : decode cX3_tellTo 13 = .ok (.aload_n 1, 1) := by decide +kernel
theorem dX3_tellTo_14 : decode cX3_tellTo 14 = .ok (.iconst 1, 1) := by decide +kernel
theorem dX3_tellTo_15 : decode cX3_tellTo 15 = .ok (.aload_n 0, 1) := by decide +kernel
theorem dX3_tellTo_16 : decode cX3_tellTo 16 = .ok (.getfield 19, 3) := by decide +kernel
theorem dX3_tellTo_19 : decode cX3_tellTo 19 = .ok (.iastore, 1) := by decide +kernel
theorem dX3_tellTo_20 : decode cX3_tellTo 20 = .ok (.aload_n 1, 1) := by decide +kernel
theorem dX3_tellTo_21 : decode cX3_tellTo 21 = .ok (.iconst 2, 1) := by decide +kernel
theorem dX3_tellTo_22 : decode cX3_tellTo 22 = .ok (.aload_n 0, 1) := by decide +kernel
theorem dX3_tellTo_23 : decode cX3_tellTo 23 = .ok (.getfield 22, 3) := by decide +kernel
theorem dX3_tellTo_26 : decode cX3_tellTo 26 = .ok (.iastore, 1) := by decide +kernel
theorem dX3_tellTo_27 : decode cX3_tellTo 27 = .ok (.aload_n 1, 1) := by decide +kernel
theorem dX3_tellTo_28 : decode cX3_tellTo 28 = .ok (.iconst 3, 1) := by decide +kernel
theorem dX3_tellTo_29 : decode cX3_tellTo 29 = .ok (.aload_n 0, 1) := by decide +kernel
theorem dX3_tellTo_30 : decode cX3_tellTo 30 = .ok (.getfield 25, 3) := by decide +kernel
theorem dX3_tellTo_33 : decode cX3_tellTo 33 = .ok (.iastore, 1) := by decide +kernel
theorem dX3_tellTo_34 : decode cX3_tellTo 34 = .ok (.aload_n 1, 1) := by decide +kernel
theorem dX3_tellTo_35 : decode cX3_tellTo 35 = .ok (.iconst 4, 1) := by decide +kernel
theorem dX3_tellTo_36 : decode cX3_tellTo 36 = .ok (.aload_n 0, 1) := by decide +kernel
theorem dX3_tellTo_37 : decode cX3_tellTo 37 = .ok (.getfield 28, 3) := by decide +kernel
theorem dX3_tellTo_40 : decode cX3_tellTo 40 = .ok (.invokestatic 32, 3) := by decide +kernel
theorem dX3_tellTo_43 : decode cX3_tellTo 43 = .ok (.iastore, 1) := by decide +kernel
theorem dX3_tellTo_44 : decode cX3_tellTo 44 = .ok (.return_, 1) := by decide +kernel
set_option maxHeartbeats 4000000 in
set_option maxRecDepth 100000 in
theorem ctX3_tellTo {p1 : Int} {σ : jq_M} {σ' : jq_M} (hp1 : jq_row p1) (h : X3_tellTo p1 σ = some σ') : jq_MC jq_zX yX3_tellTo cX3_tellTo 2 none 2 60 [jR 60, jR p1] σ none σ' := by
  refine jq_met (own := RX3) (L0 := [(0, jR 60), (1, jR p1)]) (by decide) rfl rfl rfl ?_
  intro X Γ hnl hlY hRT
  refine jq_use2 (P := fun r => jq_RT jq_zX X none none r) ?_ h hRT
  intro K0 hK0
  unfold X3_tellTo
  refine jq_aload_n Γ dX3_tellTo_0 rfl 1 rfl (jq_at_0 (at_row hp1)) ?_
  refine jq_alen Γ (at_row hp1) rfl rfl rfl dX3_tellTo_1 ?_
  refine jq_iconst Γ dX3_tellTo_2 rfl ?_
  refine jq_icmp_ne (tgt := 44) Γ dX3_tellTo_3 rfl ?_ ?_
  · exact jq_vreturn Γ dX3_tellTo_44 (hK0 _)
  · refine jq_aload_n Γ dX3_tellTo_6 rfl 1 rfl (jq_at_0 (at_row hp1)) ?_
    refine jq_iconst Γ dX3_tellTo_7 rfl ?_
    refine jq_aload_n Γ dX3_tellTo_8 rfl 0 rfl (jq_at_0 at_X_60) ?_
    refine jq_getI (J := 1) Γ at_X_60 fl_RX3_15 rfl rfl dX3_tellTo_9 ?_
    refine jq_iast Γ (at_row hp1) rfl dX3_tellTo_12 (fun s1 => ?_)
    refine jq_aload_n Γ dX3_tellTo_13 rfl 1 rfl (jq_at_0 (at_row hp1)) ?_
    refine jq_iconst Γ dX3_tellTo_14 rfl ?_
    refine jq_aload_n Γ dX3_tellTo_15 rfl 0 rfl (jq_at_0 at_X_60) ?_
    refine jq_getI (J := 2) Γ at_X_60 fl_RX3_19 rfl rfl dX3_tellTo_16 ?_
    refine jq_iast Γ (at_row hp1) rfl dX3_tellTo_19 (fun s2 => ?_)
    refine jq_aload_n Γ dX3_tellTo_20 rfl 1 rfl (jq_at_0 (at_row hp1)) ?_
    refine jq_iconst Γ dX3_tellTo_21 rfl ?_
    refine jq_aload_n Γ dX3_tellTo_22 rfl 0 rfl (jq_at_0 at_X_60) ?_
    refine jq_getI (J := 3) Γ at_X_60 fl_RX3_22 rfl rfl dX3_tellTo_23 ?_
    refine jq_iast Γ (at_row hp1) rfl dX3_tellTo_26 (fun s3 => ?_)
    refine jq_aload_n Γ dX3_tellTo_27 rfl 1 rfl (jq_at_0 (at_row hp1)) ?_
    refine jq_iconst Γ dX3_tellTo_28 rfl ?_
    refine jq_aload_n Γ dX3_tellTo_29 rfl 0 rfl (jq_at_0 at_X_60) ?_
    refine jq_getI (J := 4) Γ at_X_60 fl_RX3_25 rfl rfl dX3_tellTo_30 ?_
    refine jq_iast Γ (at_row hp1) rfl dX3_tellTo_33 (fun s4 => ?_)
    refine jq_aload_n Γ dX3_tellTo_34 rfl 1 rfl (jq_at_0 (at_row hp1)) ?_
    refine jq_iconst Γ dX3_tellTo_35 rfl ?_
    refine jq_aload_n Γ dX3_tellTo_36 rfl 0 rfl (jq_at_0 at_X_60) ?_
    refine jq_getZ (J := 5) Γ at_X_60 fl_RX3_28 rfl rfl dX3_tellTo_37 (fun v5 hz6 => ?_)
    refine jq_cpI (jq_nest (avs := [jI v5]) (st := [jI 4, jR p1]) Γ hlY rfl ml_RX3_32 rfl rfl rfl rfl rfl dX3_tellTo_40) (fun r h => ctX10_asNumber h) (fun v7 => ?_)
    refine jq_iast Γ (at_row hp1) rfl dX3_tellTo_43 (fun s8 => ?_)
    exact jq_vreturn Γ dX3_tellTo_44 (hK0 _)


theorem dX10_live_0 : decode cX10_live 0 = .ok (.iload_n 1, 1) := by decide +kernel
theorem dX10_live_1 : decode cX10_live 1 = .ok (.iconst 0, 1) := by decide +kernel
theorem dX10_live_2 : decode cX10_live 2 = .ok (.sipush 9999, 3) := by decide +kernel
theorem dX10_live_5 : decode cX10_live 5 = .ok (.invokestatic 93, 3) := by decide +kernel
theorem dX10_live_8 : decode cX10_live 8 = .ok (.ifCond .ne 9, 3) := by decide +kernel
theorem dX10_live_11 : decode cX10_live 11 = .ok (.aload_n 0, 1) := by decide +kernel
theorem dX10_live_12 : decode cX10_live 12 = .ok (.iconst 1, 1) := by decide +kernel
theorem dX10_live_13 : decode cX10_live 13 = .ok (.invokevirtual 117, 3) := by decide +kernel
theorem dX10_live_16 : decode cX10_live 16 = .ok (.ireturn, 1) := by decide +kernel
theorem dX10_live_17 : decode cX10_live 17 = .ok (.aload_n 0, 1) := by decide +kernel
theorem dX10_live_18 : decode cX10_live 18 = .ok (.getfield 25, 3) := by decide +kernel
theorem dX10_live_21 : decode cX10_live 21 = .ok (.getfield 175, 3) := by decide +kernel
theorem dX10_live_24 : decode cX10_live 24 = .ok (.getfield 429, 3) := by decide +kernel
theorem dX10_live_27 : decode cX10_live 27 = .ok (.ifCond .ne 10, 3) := by decide +kernel
theorem dX10_live_30 : decode cX10_live 30 = .ok (.aload_n 0, 1) := by decide +kernel
theorem dX10_live_31 : decode cX10_live 31 = .ok (.bipush 6, 2) := by decide +kernel
theorem dX10_live_33 : decode cX10_live 33 = .ok (.invokevirtual 117, 3) := by decide +kernel
theorem dX10_live_36 : decode cX10_live 36 = .ok (.ireturn, 1) := by decide +kernel
theorem dX10_live_37 : decode cX10_live 37 = .ok (.aload_n 0, 1) := by decide +kernel
theorem dX10_live_38 : decode cX10_live 38 = .ok (.getfield 60, 3) := by decide +kernel
theorem dX10_live_41 : decode cX10_live 41 = .ok (.aload_n 0, 1) := by decide +kernel
theorem dX10_live_42 : decode cX10_live 42 = .ok (.getfield 25, 3) := by decide +kernel
theorem dX10_live_45 : decode cX10_live 45 = .ok (.iload_n 1, 1) := by decide +kernel
theorem dX10_live_46 : decode cX10_live 46 = .ok (.invokevirtual 433, 3) := by decide +kernel
theorem dX10_live_49 : decode cX10_live 49 = .ok (.aload_n 0, 1) := by decide +kernel
theorem dX10_live_50 : decode cX10_live 50 = .ok (.getfield 60, 3) := by decide +kernel
theorem dX10_live_53 : decode cX10_live 53 = .ok (.aload_n 0, 1) := by decide +kernel
theorem dX10_live_54 : decode cX10_live 54 = .ok (.getfield 64, 3) := by decide +kernel
theorem dX10_live_57 : decode cX10_live 57 = .ok (.invokevirtual 437, 3) := by decide +kernel
theorem dX10_live_60 : decode cX10_live 60 = .ok (.aload_n 0, 1) := by decide +kernel
theorem dX10_live_61 : decode cX10_live 61 = .ok (.iconst 1, 1) := by decide +kernel
theorem dX10_live_62 : decode cX10_live 62 = .ok (.putfield 441, 3) := by decide +kernel
theorem dX10_live_65 : decode cX10_live 65 = .ok (.aload_n 0, 1) := by decide +kernel
theorem dX10_live_66 : decode cX10_live 66 = .ok (.aload_n 0, 1) := by decide +kernel
theorem dX10_live_67 : decode cX10_live 67 = .ok (.getfield 60, 3) := by decide +kernel
theorem dX10_live_70 : decode cX10_live 70 = .ok (.getfield 444, 3) := by decide +kernel
theorem dX10_live_73 : decode cX10_live 73 = .ok (.invokevirtual 167, 3) := by decide +kernel
theorem dX10_live_76 : decode cX10_live 76 = .ok (.ireturn, 1) := by decide +kernel
set_option maxHeartbeats 4000000 in
set_option maxRecDepth 100000 in
theorem ctX10_live {p1 : Int} {σ : jq_M} {res : Int} {σ' : jq_M}  (h : X10_live p1 σ = some (res, σ')) : jq_MC jq_zX yX10_live cX10_live 2 (some .int) 7 181 [jR 0, jI p1] σ (some (jI res)) σ' := by
  refine jq_met (own := RX10) (L0 := [(0, jR 0), (1, jI p1)]) (by decide) rfl rfl rfl ?_
  intro X Γ hnl hlY hRT
  refine jq_use2 (P := fun r => jq_RT jq_zX X (some .int) (some (jI r.1)) r.2) ?_ h hRT
  intro K0 hK0
  unfold X10_live
  refine jq_iload_n Γ dX10_live_0 rfl 1 rfl ?_
  refine jq_iconst Γ dX10_live_1 rfl ?_
  refine jq_sipush Γ dX10_live_2 rfl ?_
  refine jq_cpZ (jq_stat (avs := [jI p1, jI 0, jI 9999]) (st := []) Γ hlY rfl ml_RX10_93 rfl rfl rfl rfl rfl dX10_live_5) rfl (fun r h => ctX10_within h) (fun v1 hz2 => ?_)
  refine jq_if_ne (tgt := 17) Γ dX10_live_8 rfl ?_ ?_
  · refine jq_aload_n Γ dX10_live_17 rfl 0 rfl (jq_at_0 at_X_0) ?_
    refine jq_getC (C := jq_cm2) Γ hlY at_X_0 fl_RX10_25 rfl rfl ly_now dX10_live_18 (fun c3 hc4q => ?_)
    have hc4 := jq_cm2_com hc4q
    refine jq_getR (v := (c3 + 13)) Γ hlY (at_com hc4) fl_RX10_175 rfl rfl (ly_X1_steps hc4) dX10_live_21 ?_
    refine jq_getZ (J := 0) Γ (at_stp (stp_com hc4)) fl_RX10_429 rfl rfl dX10_live_24 (fun v5 hz6 => ?_)
    refine jq_if_ne (tgt := 37) Γ dX10_live_27 rfl ?_ ?_
    · refine jq_aload_n Γ dX10_live_37 rfl 0 rfl (jq_at_0 at_X_0) ?_
      refine jq_getR (v := 60) Γ hlY at_X_0 fl_RX10_60 rfl rfl ly_X10_life dX10_live_38 ?_
      refine jq_aload_n Γ dX10_live_41 rfl 0 rfl (jq_at_0 at_X_0) ?_
      refine jq_getC (C := jq_cm2) Γ hlY at_X_0 fl_RX10_25 rfl rfl ly_now dX10_live_42 (fun c7 hc8q => ?_)
      have hc8 := jq_cm2_com hc8q
      refine jq_iload_n Γ dX10_live_45 rfl 1 rfl ?_
      refine jq_cwV (jq_virt (avs := [jR c7, jI p1]) (st := []) Γ hlY rfl ml_RX10_433 rfl at_X_60 rfl rfl rfl rfl rfl dX10_live_46) (fun σ' h => ctX3_run hc8 h) (fun s9 => ?_)
      refine jq_aload_n Γ dX10_live_49 rfl 0 rfl (jq_at_0 at_X_0) ?_
      refine jq_getR (v := 60) Γ hlY at_X_0 fl_RX10_60 rfl rfl ly_X10_life dX10_live_50 ?_
      refine jq_aload_n Γ dX10_live_53 rfl 0 rfl (jq_at_0 at_X_0) ?_
      refine jq_getR (v := 62) Γ hlY at_X_0 fl_RX10_64 rfl rfl ly_X10_figures dX10_live_54 ?_
      refine jq_cwV (jq_virt (avs := [jR 62]) (st := []) Γ hlY rfl ml_RX10_437 rfl at_X_60 rfl rfl rfl rfl rfl dX10_live_57) (fun σ' h => ctX3_tellTo row_62 h) (fun s10 => ?_)
      refine jq_aload_n Γ dX10_live_60 rfl 0 rfl (jq_at_0 at_X_0) ?_
      refine jq_iconst Γ dX10_live_61 rfl ?_
      refine jq_putZ Γ at_X_0 fl_RX10_441 rfl rfl (Or.inr rfl) dX10_live_62 (fun s11 => ?_)
      refine jq_aload_n Γ dX10_live_65 rfl 0 rfl (jq_at_0 at_X_0) ?_
      refine jq_aload_n Γ dX10_live_66 rfl 0 rfl (jq_at_0 at_X_0) ?_
      refine jq_getR (v := 60) Γ hlY at_X_0 fl_RX10_60 rfl rfl ly_X10_life dX10_live_67 ?_
      refine jq_getI (J := 0) Γ at_X_60 fl_RX10_444 rfl rfl dX10_live_70 ?_
      refine jq_cwI (jq_virt (avs := [jI (s11 60 0)]) (st := []) Γ hlY rfl ml_RX10_167 rfl at_X_0 rfl rfl rfl rfl rfl dX10_live_73) (fun r σ' h => ctX10_answer h) (fun v12 s13 => ?_)
      exact jq_ireturn Γ dX10_live_76 (hK0 _)
    · refine jq_aload_n Γ dX10_live_30 rfl 0 rfl (jq_at_0 at_X_0) ?_
      refine jq_bipush Γ dX10_live_31 rfl ?_
      refine jq_cwI (jq_virt (avs := [jI 6]) (st := []) Γ hlY rfl ml_RX10_117 rfl at_X_0 rfl rfl rfl rfl rfl dX10_live_33) (fun r σ' h => ctX10_refuse h) (fun v14 s15 => ?_)
      exact jq_ireturn Γ dX10_live_36 (hK0 _)
  · refine jq_aload_n Γ dX10_live_11 rfl 0 rfl (jq_at_0 at_X_0) ?_
    refine jq_iconst Γ dX10_live_12 rfl ?_
    refine jq_cwI (jq_virt (avs := [jI 1]) (st := []) Γ hlY rfl ml_RX10_117 rfl at_X_0 rfl rfl rfl rfl rfl dX10_live_13) (fun r σ' h => ctX10_refuse h) (fun v16 s17 => ?_)
    exact jq_ireturn Γ dX10_live_16 (hK0 _)


theorem dX10_lived_0 : decode cX10_lived 0 = .ok (.iload_n 1, 1) := by decide +kernel
theorem dX10_lived_1 : decode cX10_lived 1 = .ok (.ifCond .lt 12, 3) := by decide +kernel
theorem dX10_lived_4 : decode cX10_lived 4 = .ok (.iload_n 1, 1) := by decide +kernel
theorem dX10_lived_5 : decode cX10_lived 5 = .ok (.aload_n 0, 1) := by decide +kernel
theorem dX10_lived_6 : decode cX10_lived 6 = .ok (.getfield 64, 3) := by decide +kernel
theorem dX10_lived_9 : decode cX10_lived 9 = .ok (.arraylength, 1) := by decide +kernel
theorem dX10_lived_10 : decode cX10_lived 10 = .ok (.if_icmp .lt 9, 3) := by decide +kernel
theorem dX10_lived_13 : decode cX10_lived 13 = .ok (.aload_n 0, 1) := by decide +kernel
theorem dX10_lived_14 : decode cX10_lived 14 = .ok (.iconst 1, 1) := by decide +kernel
theorem dX10_lived_15 : decode cX10_lived 15 = .ok (.invokevirtual 117, 3) := by decide +kernel
theorem dX10_lived_18 : decode cX10_lived 18 = .ok (.ireturn, 1) := by decide +kernel
theorem dX10_lived_19 : decode cX10_lived 19 = .ok (.aload_n 0, 1) := by decide +kernel
theorem dX10_lived_20 : decode cX10_lived 20 = .ok (.getfield 441, 3) := by decide +kernel
theorem dX10_lived_23 : decode cX10_lived 23 = .ok (.ifCond .eq 16, 3) := by decide +kernel
theorem dX10_lived_26 : decode cX10_lived 26 = .ok (.aload_n 0, 1) := by decide +kernel
theorem dX10_lived_27 : decode cX10_lived 27 = .ok (.aload_n 0, 1) := by decide +kernel
theorem dX10_lived_28 : decode cX10_lived 28 = .ok (.getfield 64, 3) := by decide +kernel
theorem dX10_lived_31 : decode cX10_lived 31 = .ok (.iload_n 1, 1) := by decide +kernel
theorem dX10_lived_32 : decode cX10_lived 32 = .ok (.iaload, 1) := by decide +kernel
theorem dX10_lived_33 : decode cX10_lived 33 = .ok (.invokevirtual 167, 3) := by decide +kernel
theorem dX10_lived_36 : decode cX10_lived 36 = .ok (.goto 9, 3) := by decide +kernel
theorem dX10_lived_39 : decode cX10_lived 39 = .ok (.aload_n 0, 1) := by decide +kernel
theorem dX10_lived_40 : decode cX10_lived 40 = .ok (.bipush 6, 2) := by decide +kernel
theorem dX10_lived_42 : decode cX10_lived 42 = .ok (.invokevirtual 117, 3) := by decide +kernel
theorem dX10_lived_45 : decode cX10_lived 45 = .ok (.ireturn, 1) := by decide +kernel
set_option maxHeartbeats 4000000 in
set_option maxRecDepth 100000 in
theorem ctX10_lived {p1 : Int} {σ : jq_M} {res : Int} {σ' : jq_M}  (h : X10_lived p1 σ = some (res, σ')) : jq_MC jq_zX yX10_lived cX10_lived 2 (some .int) 2 61 [jR 0, jI p1] σ (some (jI res)) σ' := by
  refine jq_met (own := RX10) (L0 := [(0, jR 0), (1, jI p1)]) (by decide) rfl rfl rfl ?_
  intro X Γ hnl hlY hRT
  refine jq_use2 (P := fun r => jq_RT jq_zX X (some .int) (some (jI r.1)) r.2) ?_ h hRT
  intro K0 hK0
  unfold X10_lived
  have hj13_0 : ∀ (s1 : jq_M), jq_J (X10_lived_j13 s1) K0 (jq_V jq_zX X (jq_zN jq_zX) s1 13 [(0, jR 0)] []) := by
    intro s1
    unfold X10_lived_j13
    refine jq_aload_n Γ dX10_lived_13 rfl 0 rfl (jq_at_0 at_X_0) ?_
    refine jq_iconst Γ dX10_lived_14 rfl ?_
    refine jq_cwI (jq_virt (avs := [jI 1]) (st := []) Γ hlY rfl ml_RX10_117 rfl at_X_0 rfl rfl rfl rfl rfl dX10_lived_15) (fun r σ' h => ctX10_refuse h) (fun v2 s3 => ?_)
    exact jq_ireturn Γ dX10_lived_18 (hK0 _)
  refine jq_iload_n Γ dX10_lived_0 rfl 1 rfl ?_
  refine jq_if_lt (tgt := 13) Γ dX10_lived_1 rfl ?_ ?_
  · refine jq_sub Γ (L' := [(0, jR 0)]) [0] rfl ?_
    exact hj13_0 σ
  · refine jq_iload_n Γ dX10_lived_4 rfl 1 rfl ?_
    refine jq_aload_n Γ dX10_lived_5 rfl 0 rfl (jq_at_0 at_X_0) ?_
    refine jq_getR (v := 62) Γ hlY at_X_0 fl_RX10_64 rfl rfl ly_X10_figures dX10_lived_6 ?_
    refine jq_alen Γ at_X_62 rfl rfl rfl dX10_lived_9 ?_
    refine jq_icmp_lt (tgt := 19) Γ dX10_lived_10 rfl ?_ ?_
    · refine jq_aload_n Γ dX10_lived_19 rfl 0 rfl (jq_at_0 at_X_0) ?_
      refine jq_getZ (J := 16) Γ at_X_0 fl_RX10_441 rfl rfl dX10_lived_20 (fun v4 hz5 => ?_)
      refine jq_if_eq (tgt := 39) Γ dX10_lived_23 rfl ?_ ?_
      · refine jq_aload_n Γ dX10_lived_39 rfl 0 rfl (jq_at_0 at_X_0) ?_
        refine jq_bipush Γ dX10_lived_40 rfl ?_
        refine jq_cwI (jq_virt (avs := [jI 6]) (st := []) Γ hlY rfl ml_RX10_117 rfl at_X_0 rfl rfl rfl rfl rfl dX10_lived_42) (fun r σ' h => ctX10_refuse h) (fun v6 s7 => ?_)
        exact jq_ireturn Γ dX10_lived_45 (hK0 _)
      · refine jq_aload_n Γ dX10_lived_26 rfl 0 rfl (jq_at_0 at_X_0) ?_
        refine jq_aload_n Γ dX10_lived_27 rfl 0 rfl (jq_at_0 at_X_0) ?_
        refine jq_getR (v := 62) Γ hlY at_X_0 fl_RX10_64 rfl rfl ly_X10_figures dX10_lived_28 ?_
        refine jq_iload_n Γ dX10_lived_31 rfl 1 rfl ?_
        refine jq_iald Γ at_X_62 rfl dX10_lived_32 (fun v8 => ?_)
        refine jq_cwI (jq_virt (avs := [jI v8]) (st := []) Γ hlY rfl ml_RX10_167 rfl at_X_0 rfl rfl rfl rfl rfl dX10_lived_33) (fun r σ' h => ctX10_answer h) (fun v9 s10 => ?_)
        refine jq_goto Γ (tgt := 45) dX10_lived_36 rfl ?_
        exact jq_ireturn Γ dX10_lived_45 (hK0 _)
    · refine jq_sub Γ (L' := [(0, jR 0)]) [0] rfl ?_
      exact hj13_0 σ


theorem dX10_mean_0 : decode cX10_mean 0 = .ok (.iload_n 1, 1) := by decide +kernel
theorem dX10_mean_1 : decode cX10_mean 1 = .ok (.iconst 0, 1) := by decide +kernel
theorem dX10_mean_2 : decode cX10_mean 2 = .ok (.sipush 9999, 3) := by decide +kernel
theorem dX10_mean_5 : decode cX10_mean 5 = .ok (.invokestatic 93, 3) := by decide +kernel
theorem dX10_mean_8 : decode cX10_mean 8 = .ok (.ifCond .eq 24, 3) := by decide +kernel
theorem dX10_mean_11 : decode cX10_mean 11 = .ok (.iload_n 2, 1) := by decide +kernel
theorem dX10_mean_12 : decode cX10_mean 12 = .ok (.iconst 1, 1) := by decide +kernel
theorem dX10_mean_13 : decode cX10_mean 13 = .ok (.bipush 20, 2) := by decide +kernel
theorem dX10_mean_15 : decode cX10_mean 15 = .ok (.invokestatic 93, 3) := by decide +kernel
theorem dX10_mean_18 : decode cX10_mean 18 = .ok (.ifCond .eq 14, 3) := by decide +kernel
theorem dX10_mean_21 : decode cX10_mean 21 = .ok (.iload_n 1, 1) := by decide +kernel
theorem dX10_mean_22 : decode cX10_mean 22 = .ok (.sipush 9999, 3) := by decide +kernel
theorem dX10_mean_25 : decode cX10_mean 25 = .ok (.iload_n 2, 1) := by decide +kernel
theorem dX10_mean_26 : decode cX10_mean 26 = .ok (.iconst 1, 1) := by decide +kernel
theorem dX10_mean_27 : decode cX10_mean 27 = .ok (.isub, 1) := by decide +kernel
theorem dX10_mean_28 : decode cX10_mean 28 = .ok (.isub, 1) := by decide +kernel
theorem dX10_mean_29 : decode cX10_mean 29 = .ok (.if_icmp .le 9, 3) := by decide +kernel
theorem dX10_mean_32 : decode cX10_mean 32 = .ok (.aload_n 0, 1) := by decide +kernel
theorem dX10_mean_33 : decode cX10_mean 33 = .ok (.iconst 1, 1) := by decide +kernel
theorem dX10_mean_34 : decode cX10_mean 34 = .ok (.invokevirtual 97, 3) := by decide +kernel
theorem dX10_mean_37 : decode cX10_mean 37 = .ok (.ireturn, 1) := by decide +kernel
theorem dX10_mean_38 : decode cX10_mean 38 = .ok (.aload_n 0, 1) := by decide +kernel
theorem dX10_mean_39 : decode cX10_mean 39 = .ok (.getfield 25, 3) := by decide +kernel
theorem dX10_mean_42 : decode cX10_mean 42 = .ok (.getfield 175, 3) := by decide +kernel
theorem dX10_mean_45 : decode cX10_mean 45 = .ok (.getfield 429, 3) := by decide +kernel
theorem dX10_mean_48 : decode cX10_mean 48 = .ok (.ifCond .ne 10, 3) := by decide +kernel
theorem dX10_mean_51 : decode cX10_mean 51 = .ok (.aload_n 0, 1) := by decide +kernel
theorem dX10_mean_52 : decode cX10_mean 52 = .ok (.bipush 6, 2) := by decide +kernel
theorem dX10_mean_54 : decode cX10_mean 54 = .ok (.invokevirtual 97, 3) := by decide +kernel
theorem dX10_mean_57 : decode cX10_mean 57 = .ok (.ireturn, 1) := by decide +kernel
theorem dX10_mean_58 : decode cX10_mean 58 = .ok (.lconst 0, 1) := by decide +kernel
theorem dX10_mean_59 : decode cX10_mean 59 = .ok (.lstore_n 3, 1) := by decide +kernel
theorem dX10_mean_60 : decode cX10_mean 60 = .ok (.iconst 0, 1) := by decide +kernel
theorem dX10_mean_61 : decode cX10_mean 61 = .ok (.istore 5, 2) := by decide +kernel
theorem dX10_mean_63 : decode cX10_mean 63 = .ok (.iload 5, 2) := by decide +kernel
theorem dX10_mean_65 : decode cX10_mean 65 = .ok (.iload_n 2, 1) := by decide +kernel
theorem dX10_mean_66 : decode cX10_mean 66 = .ok (.if_icmp .ge 53, 3) := by decide +kernel
theorem dX10_mean_69 : decode cX10_mean 69 = .ok (.aload_n 0, 1) := by decide +kernel
theorem dX10_mean_70 : decode cX10_mean 70 = .ok (.getfield 29, 3) := by decide +kernel
theorem dX10_mean_73 : decode cX10_mean 73 = .ok (.aload_n 0, 1) := by decide +kernel
theorem dX10_mean_74 : decode cX10_mean 74 = .ok (.getfield 25, 3) := by decide +kernel
theorem dX10_mean_77 : decode cX10_mean 77 = .ok (.invokevirtual 403, 3) := by decide +kernel
theorem dX10_mean_80 : decode cX10_mean 80 = .ok (.aload_n 0, 1) := by decide +kernel
theorem dX10_mean_81 : decode cX10_mean 81 = .ok (.getfield 60, 3) := by decide +kernel
theorem dX10_mean_84 : decode cX10_mean 84 = .ok (.aload_n 0, 1) := by decide +kernel
theorem dX10_mean_85 : decode cX10_mean 85 = .ok (.getfield 29, 3) := by decide +kernel
theorem dX10_mean_88 : decode cX10_mean 88 = .ok (.iload_n 1, 1) := by decide +kernel
theorem dX10_mean_89 : decode cX10_mean 89 = .ok (.iload 5, 2) := by decide +kernel
theorem dX10_mean_91 : decode cX10_mean 91 = .ok (.iadd, 1) := by decide +kernel
theorem dX10_mean_92 : decode cX10_mean 92 = .ok (.invokevirtual 433, 3) := by decide +kernel
theorem dX10_mean_95 : decode cX10_mean 95 = .ok (.lload_n 3, 1) := by decide +kernel
theorem dX10_mean_96 : decode cX10_mean 96 = .ok (.aload_n 0, 1) := by decide +kernel
theorem dX10_mean_97 : decode cX10_mean 97 = .ok (.getfield 29, 3) := by decide +kernel
theorem dX10_mean_100 : decode cX10_mean 100 = .ok (.aload_n 0, 1) := by decide +kernel
theorem dX10_mean_101 : decode cX10_mean 101 = .ok (.getfield 29, 3) := by decide +kernel
theorem dX10_mean_104 : decode cX10_mean 104 = .ok (.getfield 200, 3) := by decide +kernel
theorem dX10_mean_107 : decode cX10_mean 107 = .ok (.invokevirtual 282, 3) := by decide +kernel
theorem dX10_mean_110 : decode cX10_mean 110 = .ok (.i2l, 1) := by decide +kernel
theorem dX10_mean_111 : decode cX10_mean 111 = .ok (.ladd, 1) := by decide +kernel
theorem dX10_mean_112 : decode cX10_mean 112 = .ok (.lstore_n 3, 1) := by decide +kernel
theorem dX10_mean_113 : decode cX10_mean 113 = .ok (.iinc 5 1, 3) := by decide +kernel
theorem dX10_mean_116 : decode cX10_mean 116 = .ok (.goto (-53), 3) := by decide +kernel
theorem dX10_mean_119 : decode cX10_mean 119 = .ok (.aload_n 0, 1) := by decide +kernel
theorem dX10_mean_120 : decode cX10_mean 120 = .ok (.lload_n 3, 1) := by decide +kernel
theorem dX10_mean_121 : decode cX10_mean 121 = .ok (.iload_n 2, 1) := by decide +kernel
theorem dX10_mean_122 : decode cX10_mean 122 = .ok (.i2l, 1) := by decide +kernel
theorem dX10_mean_123 : decode cX10_mean 123 = .ok (.invokevirtual 418, 3) := by decide +kernel
theorem dX10_mean_126 : decode cX10_mean 126 = .ok (.aload_n 0, 1) := by decide +kernel
theorem dX10_mean_127 : decode cX10_mean 127 = .ok (.invokevirtual 105, 3) := by decide +kernel
theorem dX10_mean_130 : decode cX10_mean 130 = .ok (.ireturn, 1) := by decide +kernel
set_option maxHeartbeats 4000000 in
set_option maxRecDepth 100000 in
theorem ctX10_mean {p1 : Int} {p2 : Int} {σ : jq_M} {res : Int} {σ' : jq_M}  (h : X10_mean p1 p2 σ = some (res, σ')) : jq_MC jq_zX yX10_mean cX10_mean 6 (some .boolean) 7 181 [jR 0, jI p1, jI p2] σ (some (jI res)) σ' := by
  refine jq_met (own := RX10) (L0 := [(0, jR 0), (1, jI p1), (2, jI p2)]) (by decide) rfl rfl rfl ?_
  intro X Γ hnl hlY hRT
  refine jq_use2 (P := fun r => jq_RT jq_zX X (some .boolean) (some (jI r.1)) r.2) ?_ h hRT
  intro K0 hK0
  unfold X10_mean
  have hj32_0 : ∀ (s3 : jq_M), jq_J (X10_mean_j32 s3) K0 (jq_V jq_zX X (jq_zN jq_zX) s3 32 [(0, jR 0)] []) := by
    intro s3
    unfold X10_mean_j32
    refine jq_aload_n Γ dX10_mean_32 rfl 0 rfl (jq_at_0 at_X_0) ?_
    refine jq_iconst Γ dX10_mean_33 rfl ?_
    refine jq_cwZ (jq_virt (avs := [jI 1]) (st := []) Γ hlY rfl ml_RX10_97 rfl at_X_0 rfl rfl rfl rfl rfl dX10_mean_34) rfl (fun r σ' h => ctX10_deny h) (fun v4 s5 hz6 => ?_)
    exact jq_zreturn Γ (hz6) dX10_mean_37 (hK0 _)
  refine jq_iload_n Γ dX10_mean_0 rfl 1 rfl ?_
  refine jq_iconst Γ dX10_mean_1 rfl ?_
  refine jq_sipush Γ dX10_mean_2 rfl ?_
  refine jq_cpZ (jq_stat (avs := [jI p1, jI 0, jI 9999]) (st := []) Γ hlY rfl ml_RX10_93 rfl rfl rfl rfl rfl dX10_mean_5) rfl (fun r h => ctX10_within h) (fun v1 hz2 => ?_)
  refine jq_if_eq (tgt := 32) Γ dX10_mean_8 rfl ?_ ?_
  · refine jq_sub Γ (L' := [(0, jR 0)]) [0] rfl ?_
    exact hj32_0 σ
  · refine jq_iload_n Γ dX10_mean_11 rfl 2 rfl ?_
    refine jq_iconst Γ dX10_mean_12 rfl ?_
    refine jq_bipush Γ dX10_mean_13 rfl ?_
    refine jq_cpZ (jq_stat (avs := [jI p2, jI 1, jI 20]) (st := []) Γ hlY rfl ml_RX10_93 rfl rfl rfl rfl rfl dX10_mean_15) rfl (fun r h => ctX10_within h) (fun v7 hz8 => ?_)
    refine jq_if_eq (tgt := 32) Γ dX10_mean_18 rfl ?_ ?_
    · refine jq_sub Γ (L' := [(0, jR 0)]) [0] rfl ?_
      exact hj32_0 σ
    · refine jq_iload_n Γ dX10_mean_21 rfl 1 rfl ?_
      refine jq_sipush Γ dX10_mean_22 rfl ?_
      refine jq_iload_n Γ dX10_mean_25 rfl 2 rfl ?_
      refine jq_iconst Γ dX10_mean_26 rfl ?_
      refine jq_isub Γ dX10_mean_27 ?_
      refine jq_isub Γ dX10_mean_28 ?_
      refine jq_icmp_le (tgt := 38) Γ dX10_mean_29 rfl ?_ ?_
      · refine jq_aload_n Γ dX10_mean_38 rfl 0 rfl (jq_at_0 at_X_0) ?_
        refine jq_getC (C := jq_cm2) Γ hlY at_X_0 fl_RX10_25 rfl rfl ly_now dX10_mean_39 (fun c9 hc10q => ?_)
        have hc10 := jq_cm2_com hc10q
        refine jq_getR (v := (c9 + 13)) Γ hlY (at_com hc10) fl_RX10_175 rfl rfl (ly_X1_steps hc10) dX10_mean_42 ?_
        refine jq_getZ (J := 0) Γ (at_stp (stp_com hc10)) fl_RX10_429 rfl rfl dX10_mean_45 (fun v11 hz12 => ?_)
        refine jq_if_ne (tgt := 58) Γ dX10_mean_48 rfl ?_ ?_
        · refine jq_lconst Γ 0 dX10_mean_58 rfl rfl ?_
          refine jq_lstore_n (L' := [(3, jL 0), (0, jR 0), (1, jI p1), (2, jI p2)]) Γ dX10_mean_59 rfl hnl rfl rfl ?_
          refine jq_iconst Γ dX10_mean_60 rfl ?_
          refine jq_istore (L' := [(5, jI 0), (3, jL 0), (0, jR 0), (1, jI p1), (2, jI p2)]) Γ dX10_mean_61 hnl rfl rfl ?_
          refine jq_sub Γ (L' := [(0, jR 0), (1, jI p1), (2, jI p2), (3, jL 0), (5, jI 0)]) [2, 3, 4, 1, 0] rfl ?_
          refine jq_loop2 (C := fun (t13 : Int × Int × jq_M) => jq_V jq_zX X (jq_zN jq_zX) t13.2.2 63 [(0, jR 0), (1, jI p1), (2, jI p2), (3, jL t13.1), (5, jI t13.2.1)] []) (KX := fun (e29 : Int × jq_M) => jq_V jq_zX X (jq_zN jq_zX) e29.2 119 [(0, jR 0), (2, jI p2), (3, jL e29.1)] []) ?_ ?_ (0, 0, σ)
          · intro K63_t13 hCt13 hXt13 t13
            unfold X10_mean_b63
            refine jq_iload Γ dX10_mean_63 4 rfl ?_
            refine jq_iload_n Γ dX10_mean_65 rfl 2 rfl ?_
            refine jq_icmp_ge (tgt := 119) Γ dX10_mean_66 rfl ?_ ?_
            · refine jq_sub Γ (L' := [(0, jR 0), (2, jI p2), (3, jL t13.1)]) [0, 2, 3] rfl ?_
              exact jq_done (hXt13 (t13.1, t13.2.2))
            · refine jq_aload_n Γ dX10_mean_69 rfl 0 rfl (jq_at_0 at_X_0) ?_
              refine jq_getC (C := jq_cm2) Γ hlY at_X_0 fl_RX10_29 rfl rfl ly_spare dX10_mean_70 (fun c14 hc15q => ?_)
              have hc15 := jq_cm2_com hc15q
              refine jq_aload_n Γ dX10_mean_73 rfl 0 rfl (jq_at_0 at_X_0) ?_
              refine jq_getC (C := jq_cm2) Γ hlY at_X_0 fl_RX10_25 rfl rfl ly_now dX10_mean_74 (fun c16 hc17q => ?_)
              have hc17 := jq_cm2_com hc17q
              refine jq_cwV (jq_virt (avs := [jR c16]) (st := []) Γ hlY rfl ml_RX10_403 rfl (at_com hc15) rfl rfl rfl rfl rfl dX10_mean_77) (fun σ' h => ctX1_takeFrom hc15 hc17 h) (fun s18 => ?_)
              refine jq_aload_n Γ dX10_mean_80 rfl 0 rfl (jq_at_0 at_X_0) ?_
              refine jq_getR (v := 60) Γ hlY at_X_0 fl_RX10_60 rfl rfl ly_X10_life dX10_mean_81 ?_
              refine jq_aload_n Γ dX10_mean_84 rfl 0 rfl (jq_at_0 at_X_0) ?_
              refine jq_getC (C := jq_cm2) Γ hlY at_X_0 fl_RX10_29 rfl rfl ly_spare dX10_mean_85 (fun c19 hc20q => ?_)
              have hc20 := jq_cm2_com hc20q
              refine jq_iload_n Γ dX10_mean_88 rfl 1 rfl ?_
              refine jq_iload Γ dX10_mean_89 4 rfl ?_
              refine jq_iadd Γ dX10_mean_91 ?_
              refine jq_cwV (jq_virt (avs := [jR c19, jI (jq_w (p1 + t13.2.1))]) (st := []) Γ hlY rfl ml_RX10_433 rfl at_X_60 rfl rfl rfl rfl rfl dX10_mean_92) (fun σ' h => ctX3_run hc20 h) (fun s21 => ?_)
              refine jq_lload_n Γ dX10_mean_95 rfl 3 rfl ?_
              refine jq_aload_n Γ dX10_mean_96 rfl 0 rfl (jq_at_0 at_X_0) ?_
              refine jq_getC (C := jq_cm2) Γ hlY at_X_0 fl_RX10_29 rfl rfl ly_spare dX10_mean_97 (fun c22 hc23q => ?_)
              have hc23 := jq_cm2_com hc23q
              refine jq_aload_n Γ dX10_mean_100 rfl 0 rfl (jq_at_0 at_X_0) ?_
              refine jq_getC (C := jq_cm2) Γ hlY at_X_0 fl_RX10_29 rfl rfl ly_spare dX10_mean_101 (fun c24 hc25q => ?_)
              have hc25 := jq_cm2_com hc25q
              refine jq_getR (v := (c24 + 3)) Γ hlY (at_com hc25) fl_RX10_200 rfl rfl (ly_X1_seats hc25) dX10_mean_104 ?_
              refine jq_cpI (jq_virt (avs := [jR (c24 + 3)]) (st := [jL t13.1]) Γ hlY rfl ml_RX10_282 rfl (at_com hc23) rfl rfl rfl rfl rfl dX10_mean_107) (fun r h => ctX1_worthOfAll hc23 (row_com hc25) h) (fun v26 => ?_)
              refine jq_i2l Γ dX10_mean_110 ?_
              refine jq_ladd Γ dX10_mean_111 ?_
              refine jq_nmL (fun v27 => ?_)
              refine jq_lstore_n (L' := [(3, jL v27), (0, jR 0), (1, jI p1), (2, jI p2), (5, jI t13.2.1)]) Γ dX10_mean_112 rfl hnl rfl rfl ?_
              refine jq_iincN (L' := fun v28 => [(5, jI v28), (3, jL v27), (0, jR 0), (1, jI p1), (2, jI p2)]) Γ dX10_mean_113 4 rfl hnl rfl (fun _ => rfl) (fun v28 => ?_)
              refine jq_goto Γ (tgt := 63) dX10_mean_116 rfl ?_
              refine jq_sub Γ (L' := [(0, jR 0), (1, jI p1), (2, jI p2), (3, jL v27), (5, jI v28)]) [2, 3, 4, 1, 0] rfl ?_
              exact jq_done (hCt13 (v27, v28, s21))
          · intro e29
            refine jq_aload_n Γ dX10_mean_119 rfl 0 rfl (jq_at_0 at_X_0) ?_
            refine jq_lload_n Γ dX10_mean_120 rfl 2 rfl ?_
            refine jq_iload_n Γ dX10_mean_121 rfl 1 rfl ?_
            refine jq_i2l Γ dX10_mean_122 ?_
            refine jq_cwV (jq_virt (avs := [jL e29.1, jL p2]) (st := []) Γ hlY rfl ml_RX10_418 rfl at_X_0 rfl rfl rfl rfl rfl dX10_mean_123) (fun σ' h => ctX10_tellFraction h) (fun s30 => ?_)
            refine jq_aload_n Γ dX10_mean_126 rfl 0 rfl (jq_at_0 at_X_0) ?_
            refine jq_cwZ (jq_virt (avs := []) (st := []) Γ hlY rfl ml_RX10_105 rfl at_X_0 rfl rfl rfl rfl rfl dX10_mean_127) rfl (fun r σ' h => ctX10_grant h) (fun v31 s32 hz33 => ?_)
            exact jq_zreturn Γ (hz33) dX10_mean_130 (hK0 _)
        · refine jq_aload_n Γ dX10_mean_51 rfl 0 rfl (jq_at_0 at_X_0) ?_
          refine jq_bipush Γ dX10_mean_52 rfl ?_
          refine jq_cwZ (jq_virt (avs := [jI 6]) (st := []) Γ hlY rfl ml_RX10_97 rfl at_X_0 rfl rfl rfl rfl rfl dX10_mean_54) rfl (fun r σ' h => ctX10_deny h) (fun v34 s35 hz36 => ?_)
          exact jq_zreturn Γ (hz36) dX10_mean_57 (hK0 _)
      · refine jq_sub Γ (L' := [(0, jR 0)]) [0] rfl ?_
        exact hj32_0 σ


theorem dX10_keptAt_0 : decode cX10_keptAt 0 = .ok (.iload_n 1, 1) := by decide +kernel
theorem dX10_keptAt_1 : decode cX10_keptAt 1 = .ok (.ifCond .lt 21, 3) := by decide +kernel
theorem dX10_keptAt_4 : decode cX10_keptAt 4 = .ok (.iload_n 1, 1) := by decide +kernel
theorem dX10_keptAt_5 : decode cX10_keptAt 5 = .ok (.aload_n 0, 1) := by decide +kernel
theorem dX10_keptAt_6 : decode cX10_keptAt 6 = .ok (.getfield 39, 3) := by decide +kernel
theorem dX10_keptAt_9 : decode cX10_keptAt 9 = .ok (.arraylength, 1) := by decide +kernel
theorem dX10_keptAt_10 : decode cX10_keptAt 10 = .ok (.if_icmp .ge 12, 3) := by decide +kernel
theorem dX10_keptAt_13 : decode cX10_keptAt 13 = .ok (.aload_n 0, 1) := by decide +kernel
theorem dX10_keptAt_14 : decode cX10_keptAt 14 = .ok (.getfield 39, 3) := by decide +kernel
theorem dX10_keptAt_17 : decode cX10_keptAt 17 = .ok (.iload_n 1, 1) := by decide +kernel
theorem dX10_keptAt_18 : decode cX10_keptAt 18 = .ok (.aaload, 1) := by decide +kernel
theorem dX10_keptAt_19 : decode cX10_keptAt 19 = .ok (.goto 4, 3) := by decide +kernel
theorem dX10_keptAt_22 : decode cX10_keptAt 22 = .ok (.aconst_null, 1) := by decide +kernel
theorem dX10_keptAt_23 : decode cX10_keptAt 23 = .ok (.areturn, 1) := by decide +kernel
set_option maxHeartbeats 4000000 in
set_option maxRecDepth 100000 in
theorem ctX10_keptAt {p1 : Int} {σ : jq_M} {res : Int}  (h : X10_keptAt p1 σ = some res) : jq_MC jq_zX yX10_keptAt cX10_keptAt 2 (some (.object "StandTable$Committee")) 1 40 [jR 0, jI p1] σ (some (jR res)) σ := by
  refine jq_met (own := RX10) (L0 := [(0, jR 0), (1, jI p1)]) (by decide) rfl rfl rfl ?_
  intro X Γ hnl hlY hRT
  refine jq_use2 (P := fun r => jq_RT jq_zX X (some (.object "StandTable$Committee")) (some (jR r)) σ) ?_ h hRT
  intro K0 hK0
  unfold X10_keptAt
  refine jq_iload_n Γ dX10_keptAt_0 rfl 1 rfl ?_
  refine jq_if_lt (tgt := 22) Γ dX10_keptAt_1 rfl ?_ ?_
  · refine jq_null Γ dX10_keptAt_22 ?_
    exact jq_areturn Γ ⟨_, rfl⟩ dX10_keptAt_23 (hK0 _)
  · refine jq_iload_n Γ dX10_keptAt_4 rfl 1 rfl ?_
    refine jq_aload_n Γ dX10_keptAt_5 rfl 0 rfl (jq_at_0 at_X_0) ?_
    refine jq_getR (v := 51) Γ hlY at_X_0 fl_RX10_39 rfl rfl ly_X10_kept dX10_keptAt_6 ?_
    refine jq_alen Γ at_X_51 rfl rfl rfl dX10_keptAt_9 ?_
    refine jq_icmp_ge (tgt := 22) Γ dX10_keptAt_10 rfl ?_ ?_
    · refine jq_null Γ dX10_keptAt_22 ?_
      exact jq_areturn Γ ⟨_, rfl⟩ dX10_keptAt_23 (hK0 _)
    · refine jq_aload_n Γ dX10_keptAt_13 rfl 0 rfl (jq_at_0 at_X_0) ?_
      refine jq_getR (v := 51) Γ hlY at_X_0 fl_RX10_39 rfl rfl ly_X10_kept dX10_keptAt_14 ?_
      refine jq_iload_n Γ dX10_keptAt_17 rfl 1 rfl ?_
      refine jq_aald4 Γ hlY at_X_51 rfl (fun i => 72 + 20 * i) ly_kept_at dX10_keptAt_18 (fun i1 ha2 hb3 => ?_)
      refine jq_goto Γ (tgt := 23) dX10_keptAt_19 rfl ?_
      exact jq_areturn Γ ⟨_, rfl⟩ dX10_keptAt_23 (hK0 _)


theorem dX10_mark_0 : decode cX10_mark 0 = .ok (.aload_n 0, 1) := by decide +kernel
theorem dX10_mark_1 : decode cX10_mark 1 = .ok (.aload_n 0, 1) := by decide +kernel
theorem dX10_mark_2 : decode cX10_mark 2 = .ok (.getfield 447, 3) := by decide +kernel
theorem dX10_mark_5 : decode cX10_mark 5 = .ok (.invokevirtual 450, 3) := by decide +kernel
theorem dX10_mark_8 : decode cX10_mark 8 = .ok (.astore_n 1, 1) := by decide +kernel
theorem dX10_mark_9 : decode cX10_mark 9 = .ok (.aload_n 1, 1) := by decide +kernel
theorem dX10_mark_10 : decode cX10_mark 10 = .ok (.ifnonnull 9, 3) := by decide +kernel
theorem dX10_mark_13 : decode cX10_mark 13 = .ok (.aload_n 0, 1) := by decide +kernel
theorem dX10_mark_14 : decode cX10_mark 14 = .ok (.iconst 4, 1) := by decide +kernel
theorem dX10_mark_15 : decode cX10_mark 15 = .ok (.invokevirtual 117, 3) := by decide +kernel
theorem dX10_mark_18 : decode cX10_mark 18 = .ok (.ireturn, 1) := by decide +kernel
theorem dX10_mark_19 : decode cX10_mark 19 = .ok (.aload_n 1, 1) := by decide +kernel
theorem dX10_mark_20 : decode cX10_mark 20 = .ok (.aload_n 0, 1) := by decide +kernel
theorem dX10_mark_21 : decode cX10_mark 21 = .ok (.getfield 25, 3) := by decide +kernel
theorem dX10_mark_24 : decode cX10_mark 24 = .ok (.invokevirtual 403, 3) := by decide +kernel
theorem dX10_mark_27 : decode cX10_mark 27 = .ok (.aload_n 0, 1) := by decide +kernel
theorem dX10_mark_28 : decode cX10_mark 28 = .ok (.dup, 1) := by decide +kernel
theorem dX10_mark_29 : decode cX10_mark 29 = .ok (.getfield 447, 3) := by decide +kernel
theorem dX10_mark_32 : decode cX10_mark 32 = .ok (.iconst 1, 1) := by decide +kernel
theorem dX10_mark_33 : decode cX10_mark 33 = .ok (.iadd, 1) := by decide +kernel
theorem dX10_mark_34 : decode cX10_mark 34 = .ok (.putfield 447, 3) := by decide +kernel
theorem dX10_mark_37 : decode cX10_mark 37 = .ok (.aload_n 0, 1) := by decide +kernel
theorem dX10_mark_38 : decode cX10_mark 38 = .ok (.aload_n 0, 1) := by decide +kernel
theorem dX10_mark_39 : decode cX10_mark 39 = .ok (.getfield 447, 3) := by decide +kernel
theorem dX10_mark_42 : decode cX10_mark 42 = .ok (.invokevirtual 167, 3) := by decide +kernel
theorem dX10_mark_45 : decode cX10_mark 45 = .ok (.ireturn, 1) := by decide +kernel
set_option maxHeartbeats 4000000 in
set_option maxRecDepth 100000 in
theorem ctX10_mark  {σ : jq_M} {res : Int} {σ' : jq_M}  (h : X10_mark σ = some (res, σ')) : jq_MC jq_zX yX10_mark cX10_mark 2 (some .int) 3 82 [jR 0] σ (some (jI res)) σ' := by
  refine jq_met (own := RX10) (L0 := [(0, jR 0)]) (by decide) rfl rfl rfl ?_
  intro X Γ hnl hlY hRT
  refine jq_use2 (P := fun r => jq_RT jq_zX X (some .int) (some (jI r.1)) r.2) ?_ h hRT
  intro K0 hK0
  unfold X10_mark
  refine jq_aload_n Γ dX10_mark_0 rfl 0 rfl (jq_at_0 at_X_0) ?_
  refine jq_aload_n Γ dX10_mark_1 rfl 0 rfl (jq_at_0 at_X_0) ?_
  refine jq_getI (J := 11) Γ at_X_0 fl_RX10_447 rfl rfl dX10_mark_2 ?_
  refine jq_cpR (jq_virt (avs := [jI (σ 0 11)]) (st := []) Γ hlY rfl ml_RX10_450 rfl at_X_0 rfl rfl rfl rfl rfl dX10_mark_5) (fun r h => ctX10_keptAt h) (fun v1 => ?_)
  refine jq_cmnN (fun v2 hz3 => ?_)
  refine jq_astoreQ_n (L' := [(1, jR v2), (0, jR 0)]) Γ dX10_mark_8 rfl hnl rfl rfl ?_
  refine jq_aloadQ_n Γ dX10_mark_9 rfl 0 rfl ?_
  refine jq_ifnonnull (tgt := 19) Γ (jq_cmn_0 hz3) dX10_mark_10 rfl (fun hq4 => ?_) (fun _ => ?_)
  · refine jq_aload_n Γ dX10_mark_19 rfl 0 rfl (jq_at_0 (at_com (hz3.resolve_left hq4))) ?_
    refine jq_aload_n Γ dX10_mark_20 rfl 1 rfl (jq_at_0 at_X_0) ?_
    refine jq_getC (C := jq_cm2) Γ hlY at_X_0 fl_RX10_25 rfl rfl ly_now dX10_mark_21 (fun c5 hc6q => ?_)
    have hc6 := jq_cm2_com hc6q
    refine jq_cwV (jq_virt (avs := [jR c5]) (st := []) Γ hlY rfl ml_RX10_403 rfl (at_com (hz3.resolve_left hq4)) rfl rfl rfl rfl rfl dX10_mark_24) (fun σ' h => ctX1_takeFrom (hz3.resolve_left hq4) hc6 h) (fun s7 => ?_)
    refine jq_aload_n Γ dX10_mark_27 rfl 1 rfl (jq_at_0 at_X_0) ?_
    refine jq_dup Γ dX10_mark_28 rfl ?_
    refine jq_getI (J := 11) Γ at_X_0 fl_RX10_447 rfl rfl dX10_mark_29 ?_
    refine jq_iconst Γ dX10_mark_32 rfl ?_
    refine jq_iadd Γ dX10_mark_33 ?_
    refine jq_putI Γ at_X_0 fl_RX10_447 rfl rfl dX10_mark_34 (fun s8 => ?_)
    refine jq_aload_n Γ dX10_mark_37 rfl 1 rfl (jq_at_0 at_X_0) ?_
    refine jq_aload_n Γ dX10_mark_38 rfl 1 rfl (jq_at_0 at_X_0) ?_
    refine jq_getI (J := 11) Γ at_X_0 fl_RX10_447 rfl rfl dX10_mark_39 ?_
    refine jq_cwI (jq_virt (avs := [jI (s8 0 11)]) (st := []) Γ hlY rfl ml_RX10_167 rfl at_X_0 rfl rfl rfl rfl rfl dX10_mark_42) (fun r σ' h => ctX10_answer h) (fun v9 s10 => ?_)
    exact jq_ireturn Γ dX10_mark_45 (hK0 _)
  · refine jq_aload_n Γ dX10_mark_13 rfl 1 rfl (jq_at_0 at_X_0) ?_
    refine jq_iconst Γ dX10_mark_14 rfl ?_
    refine jq_cwI (jq_virt (avs := [jI 4]) (st := []) Γ hlY rfl ml_RX10_117 rfl at_X_0 rfl rfl rfl rfl rfl dX10_mark_15) (fun r σ' h => ctX10_refuse h) (fun v11 s12 => ?_)
    exact jq_ireturn Γ dX10_mark_18 (hK0 _)


theorem dX10_undo_0 : decode cX10_undo 0 = .ok (.aload_n 0, 1) := by decide +kernel
theorem dX10_undo_1 : decode cX10_undo 1 = .ok (.aload_n 0, 1) := by decide +kernel
theorem dX10_undo_2 : decode cX10_undo 2 = .ok (.getfield 447, 3) := by decide +kernel
theorem dX10_undo_5 : decode cX10_undo 5 = .ok (.iconst 1, 1) := by decide +kernel
theorem dX10_undo_6 : decode cX10_undo 6 = .ok (.isub, 1) := by decide +kernel
theorem dX10_undo_7 : decode cX10_undo 7 = .ok (.invokevirtual 450, 3) := by decide +kernel
theorem dX10_undo_10 : decode cX10_undo 10 = .ok (.astore_n 1, 1) := by decide +kernel
theorem dX10_undo_11 : decode cX10_undo 11 = .ok (.aload_n 1, 1) := by decide +kernel
theorem dX10_undo_12 : decode cX10_undo 12 = .ok (.ifnonnull 10, 3) := by decide +kernel
theorem dX10_undo_15 : decode cX10_undo 15 = .ok (.aload_n 0, 1) := by decide +kernel
theorem dX10_undo_16 : decode cX10_undo 16 = .ok (.bipush 6, 2) := by decide +kernel
theorem dX10_undo_18 : decode cX10_undo 18 = .ok (.invokevirtual 117, 3) := by decide +kernel
theorem dX10_undo_21 : decode cX10_undo 21 = .ok (.ireturn, 1) := by decide +kernel
theorem dX10_undo_22 : decode cX10_undo 22 = .ok (.aload_n 0, 1) := by decide +kernel
theorem dX10_undo_23 : decode cX10_undo 23 = .ok (.dup, 1) := by decide +kernel
theorem dX10_undo_24 : decode cX10_undo 24 = .ok (.getfield 447, 3) := by decide +kernel
theorem dX10_undo_27 : decode cX10_undo 27 = .ok (.iconst 1, 1) := by decide +kernel
theorem dX10_undo_28 : decode cX10_undo 28 = .ok (.isub, 1) := by decide +kernel
theorem dX10_undo_29 : decode cX10_undo 29 = .ok (.putfield 447, 3) := by decide +kernel
theorem dX10_undo_32 : decode cX10_undo 32 = .ok (.aload_n 0, 1) := by decide +kernel
theorem dX10_undo_33 : decode cX10_undo 33 = .ok (.getfield 25, 3) := by decide +kernel
theorem dX10_undo_36 : decode cX10_undo 36 = .ok (.aload_n 1, 1) := by decide +kernel
theorem dX10_undo_37 : decode cX10_undo 37 = .ok (.invokevirtual 403, 3) := by decide +kernel
theorem dX10_undo_40 : decode cX10_undo 40 = .ok (.aload_n 0, 1) := by decide +kernel
theorem dX10_undo_41 : decode cX10_undo 41 = .ok (.aload_n 0, 1) := by decide +kernel
theorem dX10_undo_42 : decode cX10_undo 42 = .ok (.getfield 447, 3) := by decide +kernel
theorem dX10_undo_45 : decode cX10_undo 45 = .ok (.invokevirtual 167, 3) := by decide +kernel
theorem dX10_undo_48 : decode cX10_undo 48 = .ok (.ireturn, 1) := by decide +kernel
set_option maxHeartbeats 4000000 in
set_option maxRecDepth 100000 in
theorem ctX10_undo  {σ : jq_M} {res : Int} {σ' : jq_M}  (h : X10_undo σ = some (res, σ')) : jq_MC jq_zX yX10_undo cX10_undo 2 (some .int) 3 82 [jR 0] σ (some (jI res)) σ' := by
  refine jq_met (own := RX10) (L0 := [(0, jR 0)]) (by decide) rfl rfl rfl ?_
  intro X Γ hnl hlY hRT
  refine jq_use2 (P := fun r => jq_RT jq_zX X (some .int) (some (jI r.1)) r.2) ?_ h hRT
  intro K0 hK0
  unfold X10_undo
  refine jq_aload_n Γ dX10_undo_0 rfl 0 rfl (jq_at_0 at_X_0) ?_
  refine jq_aload_n Γ dX10_undo_1 rfl 0 rfl (jq_at_0 at_X_0) ?_
  refine jq_getI (J := 11) Γ at_X_0 fl_RX10_447 rfl rfl dX10_undo_2 ?_
  refine jq_iconst Γ dX10_undo_5 rfl ?_
  refine jq_isub Γ dX10_undo_6 ?_
  refine jq_cpR (jq_virt (avs := [jI (jq_w ((σ 0 11) - 1))]) (st := []) Γ hlY rfl ml_RX10_450 rfl at_X_0 rfl rfl rfl rfl rfl dX10_undo_7) (fun r h => ctX10_keptAt h) (fun v1 => ?_)
  refine jq_cmnN (fun v2 hz3 => ?_)
  refine jq_astoreQ_n (L' := [(1, jR v2), (0, jR 0)]) Γ dX10_undo_10 rfl hnl rfl rfl ?_
  refine jq_aloadQ_n Γ dX10_undo_11 rfl 0 rfl ?_
  refine jq_ifnonnull (tgt := 22) Γ (jq_cmn_0 hz3) dX10_undo_12 rfl (fun hq4 => ?_) (fun _ => ?_)
  · refine jq_aload_n Γ dX10_undo_22 rfl 1 rfl (jq_at_0 at_X_0) ?_
    refine jq_dup Γ dX10_undo_23 rfl ?_
    refine jq_getI (J := 11) Γ at_X_0 fl_RX10_447 rfl rfl dX10_undo_24 ?_
    refine jq_iconst Γ dX10_undo_27 rfl ?_
    refine jq_isub Γ dX10_undo_28 ?_
    refine jq_putI Γ at_X_0 fl_RX10_447 rfl rfl dX10_undo_29 (fun s5 => ?_)
    refine jq_aload_n Γ dX10_undo_32 rfl 1 rfl (jq_at_0 at_X_0) ?_
    refine jq_getC (C := jq_cm2) Γ hlY at_X_0 fl_RX10_25 rfl rfl ly_now dX10_undo_33 (fun c6 hc7q => ?_)
    have hc7 := jq_cm2_com hc7q
    refine jq_aload_n Γ dX10_undo_36 rfl 0 rfl (jq_at_0 (at_com (hz3.resolve_left hq4))) ?_
    refine jq_cwV (jq_virt (avs := [jR v2]) (st := []) Γ hlY rfl ml_RX10_403 rfl (at_com hc7) rfl rfl rfl rfl rfl dX10_undo_37) (fun σ' h => ctX1_takeFrom hc7 (hz3.resolve_left hq4) h) (fun s8 => ?_)
    refine jq_aload_n Γ dX10_undo_40 rfl 1 rfl (jq_at_0 at_X_0) ?_
    refine jq_aload_n Γ dX10_undo_41 rfl 1 rfl (jq_at_0 at_X_0) ?_
    refine jq_getI (J := 11) Γ at_X_0 fl_RX10_447 rfl rfl dX10_undo_42 ?_
    refine jq_cwI (jq_virt (avs := [jI (s8 0 11)]) (st := []) Γ hlY rfl ml_RX10_167 rfl at_X_0 rfl rfl rfl rfl rfl dX10_undo_45) (fun r σ' h => ctX10_answer h) (fun v9 s10 => ?_)
    exact jq_ireturn Γ dX10_undo_48 (hK0 _)
  · refine jq_aload_n Γ dX10_undo_15 rfl 1 rfl (jq_at_0 at_X_0) ?_
    refine jq_bipush Γ dX10_undo_16 rfl ?_
    refine jq_cwI (jq_virt (avs := [jI 6]) (st := []) Γ hlY rfl ml_RX10_117 rfl at_X_0 rfl rfl rfl rfl rfl dX10_undo_18) (fun r σ' h => ctX10_refuse h) (fun v11 s12 => ?_)
    exact jq_ireturn Γ dX10_undo_21 (hK0 _)


