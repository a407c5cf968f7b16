theorem fl_RX0_69 : jq_fl RX0 69 1 21 16 true := ⟨RX1, TX1, tyX1, cls_X1, by decide, jq_in 378 (by decide +kernel) rfl, by decide⟩
theorem kc_RX10_476 : Cond.constant RX10 476 (Int32.ofInt (1000000)) ∈ jq_T := jq_in 1427 (by decide +kernel) rfl
theorem mw_RX10_466 : Cond.methodLink RX10 466 Lib.MathLoose.abs_long.x ∈ jq_T := jq_in 1421 (by decide +kernel) rfl
theorem mws_absl : Cond.static Lib.MathLoose.abs_long.x ∈ jq_T := jq_in 1422 (by decide +kernel) rfl
theorem mwc_absl : Cond.code Lib.MathLoose.abs_long.x Lib.MathLoose.abs_long.code 2 (some .long) ∈ jq_T := jq_in 1423 (by decide +kernel) rfl
theorem yf_X10_commonDivisor : Cond.static yX10_commonDivisor ∈ jq_T ∧ Cond.initialized (yX10_commonDivisor).cls ∈ jq_T ∧ Cond.code yX10_commonDivisor cX10_commonDivisor 11 (some .long) ∈ jq_T ∧ ((yX10_commonDivisor).cls ≠ "java/lang/invoke/MethodHandle" ∧ (yX10_commonDivisor).cls ≠ "java/lang/invoke/VarHandle" ∧ (parseMethodDescriptor (yX10_commonDivisor).desc).map (fun d => d.parameters.length) = some 2) := ⟨jq_in 1425 (by decide +kernel) rfl, jq_in 138 (by decide +kernel) rfl, jq_in 1426 (by decide +kernel) rfl, ⟨by decide, by decide, by decide +kernel⟩⟩
theorem ml_RX10_472 : jq_sl RX10 472 yX10_commonDivisor cX10_commonDivisor 11 (some .long) 2 := ⟨jq_in 1424 (by decide +kernel) rfl, yf_X10_commonDivisor⟩
theorem kc_RX10_412 : Cond.constantLong RX10 412 (Int64.ofInt (16)) ∈ jq_T := jq_in 1413 (by decide +kernel) rfl
theorem yf_X0_oddsOfAll : Cond.static yX0_oddsOfAll ∈ jq_T ∧ Cond.initialized (yX0_oddsOfAll).cls ∈ jq_T ∧ Cond.code yX0_oddsOfAll cX0_oddsOfAll 5 (some .long) ∈ jq_T ∧ ((yX0_oddsOfAll).cls ≠ "java/lang/invoke/MethodHandle" ∧ (yX0_oddsOfAll).cls ≠ "java/lang/invoke/VarHandle" ∧ (parseMethodDescriptor (yX0_oddsOfAll).desc).map (fun d => d.parameters.length) = some 2) := ⟨jq_in 1415 (by decide +kernel) rfl, jq_in 147 (by decide +kernel) rfl, jq_in 1416 (by decide +kernel) rfl, ⟨by decide, by decide, by decide +kernel⟩⟩
theorem ml_RX10_414 : jq_sl RX10 414 yX0_oddsOfAll cX0_oddsOfAll 5 (some .long) 2 := ⟨jq_in 1414 (by decide +kernel) rfl, yf_X0_oddsOfAll⟩
theorem yf_X10_tellFraction : Cond.instanceMethod yX10_tellFraction ∈ jq_T ∧ Cond.selects (yX10_tellFraction).cls yX10_tellFraction yX10_tellFraction ∈ jq_T ∧ Cond.initialized (yX10_tellFraction).cls ∈ jq_T ∧ Cond.code yX10_tellFraction cX10_tellFraction 7 none ∈ jq_T ∧ ((yX10_tellFraction).cls ≠ "java/lang/invoke/MethodHandle" ∧ (yX10_tellFraction).cls ≠ "java/lang/invoke/VarHandle" ∧ (parseMethodDescriptor (yX10_tellFraction).desc).map (fun d => d.parameters.length) = some 2) := ⟨jq_in 1419 (by decide +kernel) rfl, jq_in 26 (by decide +kernel) rfl, jq_in 138 (by decide +kernel) rfl, jq_in 1420 (by decide +kernel) rfl, ⟨by decide, by decide, by decide +kernel⟩⟩
theorem ml_RX10_418 : jq_vl RX10 418 yX10_tellFraction cX10_tellFraction 7 none 2 := ⟨jq_in 1417 (by decide +kernel) rfl, yf_X10_tellFraction⟩
theorem ml_RX0_72 : jq_vl RX0 72 yX1_allLeansOf cX1_allLeansOf 4 (some .int) 1 := ⟨jq_in 1435 (by decide +kernel) rfl, yf_X1_allLeansOf⟩
theorem ml_RX0_75 : jq_sl RX0 75 yX0_oddsOfAll cX0_oddsOfAll 5 (some .long) 2 := ⟨jq_in 1436 (by decide +kernel) rfl, yf_X0_oddsOfAll⟩
theorem kc_RX0_79 : Cond.constantLong RX0 79 (Int64.ofInt (16)) ∈ jq_T := jq_in 1437 (by decide +kernel) rfl
theorem yf_X0_weakestOf : Cond.static yX0_weakestOf ∈ jq_T ∧ Cond.initialized (yX0_weakestOf).cls ∈ jq_T ∧ Cond.code yX0_weakestOf cX0_weakestOf 9 (some .int) ∈ jq_T ∧ ((yX0_weakestOf).cls ≠ "java/lang/invoke/MethodHandle" ∧ (yX0_weakestOf).cls ≠ "java/lang/invoke/VarHandle" ∧ (parseMethodDescriptor (yX0_weakestOf).desc).map (fun d => d.parameters.length) = some 1) := ⟨jq_in 1433 (by decide +kernel) rfl, jq_in 147 (by decide +kernel) rfl, jq_in 1434 (by decide +kernel) rfl, ⟨by decide, by decide, by decide +kernel⟩⟩
theorem ml_RX10_422 : jq_sl RX10 422 yX0_weakestOf cX0_weakestOf 9 (some .int) 1 := ⟨jq_in 1432 (by decide +kernel) rfl, yf_X0_weakestOf⟩
theorem kc_RX10_461 : Cond.constantLong RX10 461 (Int64.ofInt (-1)) ∈ jq_T := jq_in 1450 (by decide +kernel) rfl
theorem ml_RX10_463 : jq_sl RX10 463 yX10_holds cX10_holds 2 (some .boolean) 2 := ⟨jq_in 1451 (by decide +kernel) rfl, yf_X10_holds⟩
theorem yf_X10_changeTrialBy : Cond.instanceMethod yX10_changeTrialBy ∈ jq_T ∧ Cond.selects (yX10_changeTrialBy).cls yX10_changeTrialBy yX10_changeTrialBy ∈ jq_T ∧ Cond.initialized (yX10_changeTrialBy).cls ∈ jq_T ∧ Cond.code yX10_changeTrialBy cX10_changeTrialBy 7 (some .boolean) ∈ jq_T ∧ ((yX10_changeTrialBy).cls ≠ "java/lang/invoke/MethodHandle" ∧ (yX10_changeTrialBy).cls ≠ "java/lang/invoke/VarHandle" ∧ (parseMethodDescriptor (yX10_changeTrialBy).desc).map (fun d => d.parameters.length) = some 1) := ⟨jq_in 1448 (by decide +kernel) rfl, jq_in 27 (by decide +kernel) rfl, jq_in 138 (by decide +kernel) rfl, jq_in 1449 (by decide +kernel) rfl, ⟨by decide, by decide, by decide +kernel⟩⟩
theorem ml_RX10_425 : jq_vl RX10 425 yX10_changeTrialBy cX10_changeTrialBy 7 (some .boolean) 1 := ⟨jq_in 1446 (by decide +kernel) rfl, yf_X10_changeTrialBy⟩
theorem yf_X7_at : Cond.static yX7_at ∈ jq_T ∧ Cond.initialized (yX7_at).cls ∈ jq_T ∧ Cond.code yX7_at cX7_at 2 (some .int) ∈ jq_T ∧ ((yX7_at).cls ≠ "java/lang/invoke/MethodHandle" ∧ (yX7_at).cls ≠ "java/lang/invoke/VarHandle" ∧ (parseMethodDescriptor (yX7_at).desc).map (fun d => d.parameters.length) = some 2) := ⟨jq_in 1466 (by decide +kernel) rfl, jq_in 145 (by decide +kernel) rfl, jq_in 1467 (by decide +kernel) rfl, ⟨by decide, by decide, by decide +kernel⟩⟩
theorem ml_RX7_47 : jq_sl RX7 47 yX7_at cX7_at 2 (some .int) 2 := ⟨jq_in 1465 (by decide +kernel) rfl, yf_X7_at⟩
theorem yf_X7_mateAt : Cond.instanceMethod yX7_mateAt ∈ jq_T ∧ Cond.selects (yX7_mateAt).cls yX7_mateAt yX7_mateAt ∈ jq_T ∧ Cond.initialized (yX7_mateAt).cls ∈ jq_T ∧ Cond.code yX7_mateAt cX7_mateAt 2 (some .int) ∈ jq_T ∧ ((yX7_mateAt).cls ≠ "java/lang/invoke/MethodHandle" ∧ (yX7_mateAt).cls ≠ "java/lang/invoke/VarHandle" ∧ (parseMethodDescriptor (yX7_mateAt).desc).map (fun d => d.parameters.length) = some 1) := ⟨jq_in 1473 (by decide +kernel) rfl, jq_in 1474 (by decide +kernel) rfl, jq_in 145 (by decide +kernel) rfl, jq_in 1475 (by decide +kernel) rfl, ⟨by decide, by decide, by decide +kernel⟩⟩
theorem ml_RX3_66 : jq_vl RX3 66 yX7_mateAt cX7_mateAt 2 (some .int) 1 := ⟨jq_in 1472 (by decide +kernel) rfl, yf_X7_mateAt⟩
theorem yf_X7_wordAt : Cond.instanceMethod yX7_wordAt ∈ jq_T ∧ Cond.selects (yX7_wordAt).cls yX7_wordAt yX7_wordAt ∈ jq_T ∧ Cond.initialized (yX7_wordAt).cls ∈ jq_T ∧ Cond.code yX7_wordAt cX7_wordAt 2 (some .int) ∈ jq_T ∧ ((yX7_wordAt).cls ≠ "java/lang/invoke/MethodHandle" ∧ (yX7_wordAt).cls ≠ "java/lang/invoke/VarHandle" ∧ (parseMethodDescriptor (yX7_wordAt).desc).map (fun d => d.parameters.length) = some 1) := ⟨jq_in 1462 (by decide +kernel) rfl, jq_in 1463 (by decide +kernel) rfl, jq_in 145 (by decide +kernel) rfl, jq_in 1464 (by decide +kernel) rfl, ⟨by decide, by decide, by decide +kernel⟩⟩
theorem ml_RX3_54 : jq_vl RX3 54 yX7_wordAt cX7_wordAt 2 (some .int) 1 := ⟨jq_in 1461 (by decide +kernel) rfl, yf_X7_wordAt⟩
theorem fl_RX3_9 : jq_fl RX3 9 2 8 7 true := ⟨RX3, TX3, tyX3, cls_X3, by decide, jq_in 487 (by decide +kernel) rfl, by decide⟩
theorem fl_RX3_43 : jq_fl RX3 43 1 21 19 true := ⟨RX1, TX1, tyX1, cls_X1, by decide, jq_in 390 (by decide +kernel) rfl, by decide⟩
theorem yf_X7_secondAt : Cond.instanceMethod yX7_secondAt ∈ jq_T ∧ Cond.selects (yX7_secondAt).cls yX7_secondAt yX7_secondAt ∈ jq_T ∧ Cond.initialized (yX7_secondAt).cls ∈ jq_T ∧ Cond.code yX7_secondAt cX7_secondAt 2 (some .int) ∈ jq_T ∧ ((yX7_secondAt).cls ≠ "java/lang/invoke/MethodHandle" ∧ (yX7_secondAt).cls ≠ "java/lang/invoke/VarHandle" ∧ (parseMethodDescriptor (yX7_secondAt).desc).map (fun d => d.parameters.length) = some 1) := ⟨jq_in 1481 (by decide +kernel) rfl, jq_in 1482 (by decide +kernel) rfl, jq_in 145 (by decide +kernel) rfl, jq_in 1483 (by decide +kernel) rfl, ⟨by decide, by decide, by decide +kernel⟩⟩
theorem ml_RX3_79 : jq_vl RX3 79 yX7_secondAt cX7_secondAt 2 (some .int) 1 := ⟨jq_in 1480 (by decide +kernel) rfl, yf_X7_secondAt⟩
theorem yf_X7_firstAt : Cond.instanceMethod yX7_firstAt ∈ jq_T ∧ Cond.selects (yX7_firstAt).cls yX7_firstAt yX7_firstAt ∈ jq_T ∧ Cond.initialized (yX7_firstAt).cls ∈ jq_T ∧ Cond.code yX7_firstAt cX7_firstAt 2 (some .int) ∈ jq_T ∧ ((yX7_firstAt).cls ≠ "java/lang/invoke/MethodHandle" ∧ (yX7_firstAt).cls ≠ "java/lang/invoke/VarHandle" ∧ (parseMethodDescriptor (yX7_firstAt).desc).map (fun d => d.parameters.length) = some 1) := ⟨jq_in 1485 (by decide +kernel) rfl, jq_in 1486 (by decide +kernel) rfl, jq_in 145 (by decide +kernel) rfl, jq_in 1487 (by decide +kernel) rfl, ⟨by decide, by decide, by decide +kernel⟩⟩
theorem ml_RX3_76 : jq_vl RX3 76 yX7_firstAt cX7_firstAt 2 (some .int) 1 := ⟨jq_in 1484 (by decide +kernel) rfl, yf_X7_firstAt⟩
theorem fl_RX3_82 : jq_fl RX3 82 1 21 9 true := ⟨RX1, TX1, tyX1, cls_X1, by decide, jq_in 357 (by decide +kernel) rfl, by decide⟩
theorem ml_RX3_85 : jq_vl RX3 85 yX1_doesSign cX1_doesSign 3 (some .boolean) 2 := ⟨jq_in 1488 (by decide +kernel) rfl, yf_X1_doesSign⟩
theorem ml_RX3_89 : jq_vl RX3 89 yX1_isAgreed cX1_isAgreed 2 (some .boolean) 1 := ⟨jq_in 1489 (by decide +kernel) rfl, yf_X1_isAgreed⟩
theorem ml_RX3_93 : jq_vl RX3 93 yX1_worthOfAll cX1_worthOfAll 4 (some .int) 1 := ⟨jq_in 1490 (by decide +kernel) rfl, yf_X1_worthOfAll⟩
theorem fl_RX3_125 : jq_fl RX3 125 1 21 6 false := ⟨RX1, TX1, tyX1, cls_X1, by decide, jq_in 348 (by decide +kernel) rfl, by decide⟩
theorem fl_RX3_19 : jq_fl RX3 19 2 8 2 false := ⟨RX3, TX3, tyX3, cls_X3, by decide, jq_in 482 (by decide +kernel) rfl, by decide⟩
theorem fl_RX3_22 : jq_fl RX3 22 2 8 3 false := ⟨RX3, TX3, tyX3, cls_X3, by decide, jq_in 483 (by decide +kernel) rfl, by decide⟩
theorem ml_RX3_128 : jq_vl RX3 128 yX1_passDays cX1_passDays 4 (some .int) 1 := ⟨jq_in 1507 (by decide +kernel) rfl, yf_X1_passDays⟩
theorem ml_RX3_131 : jq_vl RX3 131 yX1_agreeOn cX1_agreeOn 2 (some .boolean) 1 := ⟨jq_in 1512 (by decide +kernel) rfl, yf_X1_agreeOn⟩
theorem ml_RX3_32 : jq_nl RX3 32 yX10_asNumber "StandTable" cX10_asNumber 1 (some .int) 1 := ⟨jq_inN 1513 (by decide +kernel) rfl, yf_X10_asNumber⟩
theorem ml_RX3_134 : jq_vl RX3 134 yX1_letFall cX1_letFall 4 (some .int) 1 := ⟨jq_in 1518 (by decide +kernel) rfl, yf_X1_letFall⟩
theorem fl_RX3_25 : jq_fl RX3 25 2 8 4 false := ⟨RX3, TX3, tyX3, cls_X3, by decide, jq_in 484 (by decide +kernel) rfl, by decide⟩
theorem fl_RX3_39 : jq_fl RX3 39 2 8 6 false := ⟨RX3, TX3, tyX3, cls_X3, by decide, jq_in 486 (by decide +kernel) rfl, by decide⟩
theorem kc_RX3_146 : Cond.constant RX3 146 (Int32.ofInt (65536)) ∈ jq_T := jq_in 1527 (by decide +kernel) rfl
theorem fl_RX3_137 : jq_fl RX3 137 1 21 2 false := ⟨RX1, TX1, tyX1, cls_X1, by decide, jq_in 335 (by decide +kernel) rfl, by decide⟩
theorem yf_X3_draw : Cond.instanceMethod yX3_draw ∈ jq_T ∧ Cond.selects (yX3_draw).cls yX3_draw yX3_draw ∈ jq_T ∧ Cond.initialized (yX3_draw).cls ∈ jq_T ∧ Cond.code yX3_draw cX3_draw 2 (some .int) ∈ jq_T ∧ ((yX3_draw).cls ≠ "java/lang/invoke/MethodHandle" ∧ (yX3_draw).cls ≠ "java/lang/invoke/VarHandle" ∧ (parseMethodDescriptor (yX3_draw).desc).map (fun d => d.parameters.length) = some 1) := ⟨jq_in 1525 (by decide +kernel) rfl, jq_in 36 (by decide +kernel) rfl, jq_in 148 (by decide +kernel) rfl, jq_in 1526 (by decide +kernel) rfl, ⟨by decide, by decide, by decide +kernel⟩⟩
theorem ml_RX3_140 : jq_vl RX3 140 yX3_draw cX3_draw 2 (some .int) 1 := ⟨jq_in 1523 (by decide +kernel) rfl, yf_X3_draw⟩
theorem fl_RX3_143 : jq_fl RX3 143 1 21 0 false := ⟨RX1, TX1, tyX1, cls_X1, by decide, jq_in 327 (by decide +kernel) rfl, by decide⟩
theorem ml_RX3_97 : jq_vl RX3 97 yX1_seatOne cX1_seatOne 4 (some .boolean) 2 := ⟨jq_in 1499 (by decide +kernel) rfl, yf_X1_seatOne⟩
theorem dX10_agreedIn_0 : decode cX10_agreedIn 0 = .ok (.iload_n 1, 1) := by decide +kernel
theorem dX10_agreedIn_1 : decode cX10_agreedIn 1 = .ok (.iconst 0, 1) := by decide +kernel
theorem dX10_agreedIn_2 : decode cX10_agreedIn 2 = .ok (.sipush 300, 3) := by decide +kernel
theorem dX10_agreedIn_5 : decode cX10_agreedIn 5 = .ok (.invokestatic 93, 3) := by decide +kernel
theorem dX10_agreedIn_8 : decode cX10_agreedIn 8 = .ok (.ifCond .ne 9, 3) := by decide +kernel
theorem dX10_agreedIn_11 : decode cX10_agreedIn 11 = .ok (.aload_n 0, 1) := by decide +kernel
theorem dX10_agreedIn_12 : decode cX10_agreedIn 12 = .ok (.iconst 1, 1) := by decide +kernel
theorem dX10_agreedIn_13 : decode cX10_agreedIn 13 = .ok (.invokevirtual 117, 3) := by decide +kernel
theorem dX10_agreedIn_16 : decode cX10_agreedIn 16 = .ok (.ireturn, 1) := by decide +kernel
theorem dX10_agreedIn_17 : decode cX10_agreedIn 17 = .ok (.aload_n 0, 1) := by decide +kernel
theorem dX10_agreedIn_18 : decode cX10_agreedIn 18 = .ok (.getfield 29, 3) := by decide +kernel
theorem dX10_agreedIn_21 : decode cX10_agreedIn 21 = .ok (.aload_n 0, 1) := by decide +kernel
theorem dX10_agreedIn_22 : decode cX10_agreedIn 22 = .ok (.getfield 25, 3) := by decide +kernel
theorem dX10_agreedIn_25 : decode cX10_agreedIn 25 = .ok (.invokevirtual 403, 3) := by decide +kernel
theorem dX10_agreedIn_28 : decode cX10_agreedIn 28 = .ok (.aload_n 0, 1) := by decide +kernel
theorem dX10_agreedIn_29 : decode cX10_agreedIn 29 = .ok (.getfield 29, 3) := by decide +kernel
theorem dX10_agreedIn_32 : decode cX10_agreedIn 32 = .ok (.iload_n 1, 1) := by decide +kernel
theorem dX10_agreedIn_33 : decode cX10_agreedIn 33 = .ok (.invokevirtual 311, 3) := by decide +kernel
theorem dX10_agreedIn_36 : decode cX10_agreedIn 36 = .ok (.pop, 1) := by decide +kernel
theorem dX10_agreedIn_37 : decode cX10_agreedIn 37 = .ok (.aload_n 0, 1) := by decide +kernel
theorem dX10_agreedIn_38 : decode cX10_agreedIn 38 = .ok (.aload_n 0, 1) := by decide +kernel
theorem dX10_agreedIn_39 : decode cX10_agreedIn 39 = .ok (.getfield 29, 3) := by decide +kernel
theorem dX10_agreedIn_42 : decode cX10_agreedIn 42 = .ok (.getfield 210, 3) := by decide +kernel
theorem dX10_agreedIn_45 : decode cX10_agreedIn 45 = .ok (.invokevirtual 167, 3) := by decide +kernel
theorem dX10_agreedIn_48 : decode cX10_agreedIn 48 = .ok (.ireturn, 1) := by decide +kernel
set_option maxHeartbeats 4000000 in
set_option maxRecDepth 100000 in
theorem ctX10_agreedIn {p1 : Int} {σ : jq_M} {res : Int} {σ' : jq_M}  (h : X10_agreedIn p1 σ = some (res, σ')) : jq_MC jq_zX yX10_agreedIn cX10_agreedIn 2 (some .int) 4 106 [jR 0, jI p1] σ (some (jI res)) σ' := by
  refine jq_met (own := RX10) (L0 := [(0, jR 0), (1, jI p1)]) (by decide) rfl rfl rfl ?_
  intro X Γ hnl hlY hRT
  refine jq_use2 (P := fun r => jq_RT jq_zX X (some .int) (some (jI r.1)) r.2) ?_ h hRT
  intro K0 hK0
  unfold X10_agreedIn
  refine jq_iload_n Γ dX10_agreedIn_0 rfl 1 rfl ?_
  refine jq_iconst Γ dX10_agreedIn_1 rfl ?_
  refine jq_sipush Γ dX10_agreedIn_2 rfl ?_
  refine jq_cpZ (jq_stat (avs := [jI p1, jI 0, jI 300]) (st := []) Γ hlY rfl ml_RX10_93 rfl rfl rfl rfl rfl dX10_agreedIn_5) rfl (fun r h => ctX10_within h) (fun v1 hz2 => ?_)
  refine jq_if_ne (tgt := 17) Γ dX10_agreedIn_8 rfl ?_ ?_
  · refine jq_aload_n Γ dX10_agreedIn_17 rfl 0 rfl (jq_at_0 at_X_0) ?_
    refine jq_getC (C := jq_cm2) Γ hlY at_X_0 fl_RX10_29 rfl rfl ly_spare dX10_agreedIn_18 (fun c3 hc4q => ?_)
    have hc4 := jq_cm2_com hc4q
    refine jq_aload_n Γ dX10_agreedIn_21 rfl 0 rfl (jq_at_0 at_X_0) ?_
    refine jq_getC (C := jq_cm2) Γ hlY at_X_0 fl_RX10_25 rfl rfl ly_now dX10_agreedIn_22 (fun c5 hc6q => ?_)
    have hc6 := jq_cm2_com hc6q
    refine jq_cwV (jq_virt (avs := [jR c5]) (st := []) Γ hlY rfl ml_RX10_403 rfl (at_com hc4) rfl rfl rfl rfl rfl dX10_agreedIn_25) (fun σ' h => ctX1_takeFrom hc4 hc6 h) (fun s7 => ?_)
    refine jq_aload_n Γ dX10_agreedIn_28 rfl 0 rfl (jq_at_0 at_X_0) ?_
    refine jq_getC (C := jq_cm2) Γ hlY at_X_0 fl_RX10_29 rfl rfl ly_spare dX10_agreedIn_29 (fun c8 hc9q => ?_)
    have hc9 := jq_cm2_com hc9q
    refine jq_iload_n Γ dX10_agreedIn_32 rfl 1 rfl ?_
    refine jq_cwI (jq_virt (avs := [jI p1]) (st := []) Γ hlY rfl ml_RX10_311 rfl (at_com hc9) rfl rfl rfl rfl rfl dX10_agreedIn_33) (fun r σ' h => ctX1_passDays hc9 h) (fun v10 s11 => ?_)
    refine jq_pop Γ dX10_agreedIn_36 rfl ?_
    refine jq_aload_n Γ dX10_agreedIn_37 rfl 0 rfl (jq_at_0 at_X_0) ?_
    refine jq_aload_n Γ dX10_agreedIn_38 rfl 0 rfl (jq_at_0 at_X_0) ?_
    refine jq_getC (C := jq_cm2) Γ hlY at_X_0 fl_RX10_29 rfl rfl ly_spare dX10_agreedIn_39 (fun c12 hc13q => ?_)
    have hc13 := jq_cm2_com hc13q
    refine jq_getI (J := 5) Γ (at_com hc13) fl_RX10_210 rfl rfl dX10_agreedIn_42 ?_
    refine jq_cwI (jq_virt (avs := [jI (s11 c12 5)]) (st := []) Γ hlY rfl ml_RX10_167 rfl at_X_0 rfl rfl rfl rfl rfl dX10_agreedIn_45) (fun r σ' h => ctX10_answer h) (fun v14 s15 => ?_)
    exact jq_ireturn Γ dX10_agreedIn_48 (hK0 _)
  · refine jq_aload_n Γ dX10_agreedIn_11 rfl 0 rfl (jq_at_0 at_X_0) ?_
    refine jq_iconst Γ dX10_agreedIn_12 rfl ?_
    refine jq_cwI (jq_virt (avs := [jI 1]) (st := []) Γ hlY rfl ml_RX10_117 rfl at_X_0 rfl rfl rfl rfl rfl dX10_agreedIn_13) (fun r σ' h => ctX10_refuse h) (fun v16 s17 => ?_)
    exact jq_ireturn Γ dX10_agreedIn_16 (hK0 _)


theorem dX0_oddsOfAll_0 : decode cX0_oddsOfAll 0 = .ok (.lconst 1, 1) := by decide +kernel
theorem dX0_oddsOfAll_1 : decode cX0_oddsOfAll 1 = .ok (.lstore_n 2, 1) := by decide +kernel
theorem dX0_oddsOfAll_2 : decode cX0_oddsOfAll 2 = .ok (.iconst 0, 1) := by decide +kernel
theorem dX0_oddsOfAll_3 : decode cX0_oddsOfAll 3 = .ok (.istore 4, 2) := by decide +kernel
theorem dX0_oddsOfAll_5 : decode cX0_oddsOfAll 5 = .ok (.iload 4, 2) := by decide +kernel
theorem dX0_oddsOfAll_7 : decode cX0_oddsOfAll 7 = .ok (.aload_n 0, 1) := by decide +kernel
theorem dX0_oddsOfAll_8 : decode cX0_oddsOfAll 8 = .ok (.getfield 18, 3) := by decide +kernel
theorem dX0_oddsOfAll_11 : decode cX0_oddsOfAll 11 = .ok (.if_icmp .ge 39, 3) := by decide +kernel
theorem dX0_oddsOfAll_14 : decode cX0_oddsOfAll 14 = .ok (.iload 4, 2) := by decide +kernel
theorem dX0_oddsOfAll_16 : decode cX0_oddsOfAll 16 = .ok (.aload_n 0, 1) := by decide +kernel
theorem dX0_oddsOfAll_17 : decode cX0_oddsOfAll 17 = .ok (.getfield 69, 3) := by decide +kernel
theorem dX0_oddsOfAll_20 : decode cX0_oddsOfAll 20 = .ok (.arraylength, 1) := by decide +kernel
theorem dX0_oddsOfAll_21 : decode cX0_oddsOfAll 21 = .ok (.if_icmp .ge 29, 3) := by decide +kernel
theorem dX0_oddsOfAll_24 : decode cX0_oddsOfAll 24 = .ok (.iload_n 1, 1) := by decide +kernel
theorem dX0_oddsOfAll_25 : decode cX0_oddsOfAll 25 = .ok (.iload 4, 2) := by decide +kernel
theorem dX0_oddsOfAll_27 : decode cX0_oddsOfAll 27 = .ok (.invokestatic 60, 3) := by decide +kernel
theorem dX0_oddsOfAll_30 : decode cX0_oddsOfAll 30 = .ok (.ifCond .eq 14, 3) := by decide +kernel
theorem dX0_oddsOfAll_33 : decode cX0_oddsOfAll 33 = .ok (.lload_n 2, 1) := by decide +kernel
theorem dX0_oddsOfAll_34 : decode cX0_oddsOfAll 34 = .ok (.aload_n 0, 1) := by decide +kernel
theorem dX0_oddsOfAll_35 : decode cX0_oddsOfAll 35 = .ok (.getfield 69, 3) := by decide +kernel
theorem dX0_oddsOfAll_38 : decode cX0_oddsOfAll 38 = .ok (.iload 4, 2) := by decide +kernel
theorem dX0_oddsOfAll_40 : decode cX0_oddsOfAll 40 = .ok (.iaload, 1) := by decide +kernel
theorem dX0_oddsOfAll_41 : decode cX0_oddsOfAll 41 = .ok (.i2l, 1) := by decide +kernel
theorem dX0_oddsOfAll_42 : decode cX0_oddsOfAll 42 = .ok (.lmul, 1) := by decide +kernel
theorem dX0_oddsOfAll_43 : decode cX0_oddsOfAll 43 = .ok (.lstore_n 2, 1) := by decide +kernel
theorem dX0_oddsOfAll_44 : decode cX0_oddsOfAll 44 = .ok (.iinc 4 1, 3) := by decide +kernel
theorem dX0_oddsOfAll_47 : decode cX0_oddsOfAll 47 = .ok (.goto (-42), 3) := by decide +kernel
theorem dX0_oddsOfAll_50 : decode cX0_oddsOfAll 50 = .ok (.lload_n 2, 1) := by decide +kernel
theorem dX0_oddsOfAll_51 : decode cX0_oddsOfAll 51 = .ok (.lreturn, 1) := by decide +kernel
set_option maxHeartbeats 4000000 in
set_option maxRecDepth 100000 in
theorem ctX0_oddsOfAll {p0 : Int} {p1 : Int} {σ : jq_M} {res : Int} (hp0 : jq_com p0) (h : X0_oddsOfAll p0 p1 σ = some res) : jq_MC jq_zX yX0_oddsOfAll cX0_oddsOfAll 5 (some .long) 2 61 [jR p0, jI p1] σ (some (jL res)) σ := by
  refine jq_met (own := RX0) (L0 := [(0, jR p0), (1, jI p1)]) (by decide) rfl rfl rfl ?_
  intro X Γ hnl hlY hRT
  refine jq_use2 (P := fun r => jq_RT jq_zX X (some .long) (some (jL r)) σ) ?_ h hRT
  intro K0 hK0
  unfold X0_oddsOfAll
  refine jq_lconst Γ 1 dX0_oddsOfAll_0 rfl rfl ?_
  refine jq_lstore_n (L' := [(2, jL 1), (0, jR p0), (1, jI p1)]) Γ dX0_oddsOfAll_1 rfl hnl rfl rfl ?_
  refine jq_iconst Γ dX0_oddsOfAll_2 rfl ?_
  refine jq_istore (L' := [(4, jI 0), (2, jL 1), (0, jR p0), (1, jI p1)]) Γ dX0_oddsOfAll_3 hnl rfl rfl ?_
  refine jq_sub Γ (L' := [(0, jR p0), (1, jI p1), (2, jL 1), (4, jI 0)]) [2, 3, 1, 0] rfl ?_
  refine jq_loop2 (C := fun (t1 : Int × Int) => jq_V jq_zX X (jq_zN jq_zX) σ 5 [(0, jR p0), (1, jI p1), (2, jL t1.1), (4, jI t1.2)] []) (KX := fun (e8 : Int) => jq_V jq_zX X (jq_zN jq_zX) σ 50 [(2, jL e8)] []) ?_ ?_ (1, 0)
  · intro K5_t1 hCt1 hXt1 t1
    unfold X0_oddsOfAll_b5
    refine jq_iload Γ dX0_oddsOfAll_5 3 rfl ?_
    refine jq_aload_n Γ dX0_oddsOfAll_7 rfl 0 rfl (jq_at_0 (at_com hp0)) ?_
    refine jq_getI (J := 4) Γ (at_com hp0) fl_RX0_18 rfl rfl dX0_oddsOfAll_8 ?_
    refine jq_icmp_ge (tgt := 50) Γ dX0_oddsOfAll_11 rfl ?_ ?_
    · refine jq_sub Γ (L' := [(2, jL t1.1)]) [2] rfl ?_
      exact jq_done (hXt1 t1.1)
    · refine jq_iload Γ dX0_oddsOfAll_14 3 rfl ?_
      refine jq_aload_n Γ dX0_oddsOfAll_16 rfl 0 rfl (jq_at_0 (at_com hp0)) ?_
      refine jq_getR (v := (p0 + 10)) Γ hlY (at_com hp0) fl_RX0_69 rfl rfl (ly_X1_odds hp0) dX0_oddsOfAll_17 ?_
      refine jq_alen Γ (at_com_10 hp0) rfl rfl rfl dX0_oddsOfAll_20 ?_
      refine jq_icmp_ge (tgt := 50) Γ dX0_oddsOfAll_21 rfl ?_ ?_
      · refine jq_sub Γ (L' := [(2, jL t1.1)]) [2] rfl ?_
        exact jq_done (hXt1 t1.1)
      · refine jq_iload_n Γ dX0_oddsOfAll_24 rfl 1 rfl ?_
        refine jq_iload Γ dX0_oddsOfAll_25 3 rfl ?_
        refine jq_cpZ (jq_nest (avs := [jI p1, jI t1.2]) (st := []) Γ hlY rfl ml_RX0_60 rfl rfl rfl rfl rfl dX0_oddsOfAll_27) rfl (fun r h => ctX10_holds h) (fun v2 hz3 => ?_)
        refine jq_if_eq (tgt := 44) Γ dX0_oddsOfAll_30 rfl ?_ ?_
        · refine jq_iincN (L' := fun v4 => [(4, jI v4), (0, jR p0), (1, jI p1), (2, jL t1.1)]) Γ dX0_oddsOfAll_44 3 rfl hnl rfl (fun _ => rfl) (fun v4 => ?_)
          refine jq_goto Γ (tgt := 5) dX0_oddsOfAll_47 rfl ?_
          refine jq_sub Γ (L' := [(0, jR p0), (1, jI p1), (2, jL t1.1), (4, jI v4)]) [1, 2, 3, 0] rfl ?_
          exact jq_done (hCt1 (t1.1, v4))
        · refine jq_lload_n Γ dX0_oddsOfAll_33 rfl 2 rfl ?_
          refine jq_aload_n Γ dX0_oddsOfAll_34 rfl 0 rfl (jq_at_0 (at_com hp0)) ?_
          refine jq_getR (v := (p0 + 10)) Γ hlY (at_com hp0) fl_RX0_69 rfl rfl (ly_X1_odds hp0) dX0_oddsOfAll_35 ?_
          refine jq_iload Γ dX0_oddsOfAll_38 3 rfl ?_
          refine jq_iald Γ (at_com_10 hp0) rfl dX0_oddsOfAll_40 (fun v5 => ?_)
          refine jq_i2l Γ dX0_oddsOfAll_41 ?_
          refine jq_lmul Γ dX0_oddsOfAll_42 ?_
          refine jq_nmL (fun v6 => ?_)
          refine jq_lstore_n (L' := [(2, jL v6), (0, jR p0), (1, jI p1), (4, jI t1.2)]) Γ dX0_oddsOfAll_43 rfl hnl rfl rfl ?_
          refine jq_iincN (L' := fun v7 => [(4, jI v7), (2, jL v6), (0, jR p0), (1, jI p1)]) Γ dX0_oddsOfAll_44 3 rfl hnl rfl (fun _ => rfl) (fun v7 => ?_)
          refine jq_goto Γ (tgt := 5) dX0_oddsOfAll_47 rfl ?_
          refine jq_sub Γ (L' := [(0, jR p0), (1, jI p1), (2, jL v6), (4, jI v7)]) [2, 3, 1, 0] rfl ?_
          exact jq_done (hCt1 (v6, v7))
  · intro e8
    refine jq_lload_n Γ dX0_oddsOfAll_50 rfl 0 rfl ?_
    exact jq_lreturn Γ dX0_oddsOfAll_51 (hK0 _)


theorem dX10_commonDivisor_0 : decode cX10_commonDivisor 0 = .ok (.lload_n 0, 1) := by decide +kernel
theorem dX10_commonDivisor_1 : decode cX10_commonDivisor 1 = .ok (.lstore 4, 2) := by decide +kernel
theorem dX10_commonDivisor_3 : decode cX10_commonDivisor 3 = .ok (.lload_n 2, 1) := by decide +kernel
theorem dX10_commonDivisor_4 : decode cX10_commonDivisor 4 = .ok (.lstore 6, 2) := by decide +kernel
theorem dX10_commonDivisor_6 : decode cX10_commonDivisor 6 = .ok (.iconst 0, 1) := by decide +kernel
theorem dX10_commonDivisor_7 : decode cX10_commonDivisor 7 = .ok (.istore 8, 2) := by decide +kernel
theorem dX10_commonDivisor_9 : decode cX10_commonDivisor 9 = .ok (.iload 8, 2) := by decide +kernel
theorem dX10_commonDivisor_11 : decode cX10_commonDivisor 11 = .ok (.ldc_w 476, 3) := by decide +kernel
theorem dX10_commonDivisor_14 : decode cX10_commonDivisor 14 = .ok (.if_icmp .ge 31, 3) := by decide +kernel
theorem dX10_commonDivisor_17 : decode cX10_commonDivisor 17 = .ok (.lload 6, 2) := by decide +kernel
theorem dX10_commonDivisor_19 : decode cX10_commonDivisor 19 = .ok (.lconst 0, 1) := by decide +kernel
theorem dX10_commonDivisor_20 : decode cX10_commonDivisor 20 = .ok (.lcmp, 1) := by decide +kernel
theorem dX10_commonDivisor_21 : decode cX10_commonDivisor 21 = .ok (.ifCond .eq 24, 3) := by decide +kernel
theorem dX10_commonDivisor_24 : decode cX10_commonDivisor 24 = .ok (.lload 4, 2) := by decide +kernel
theorem dX10_commonDivisor_26 : decode cX10_commonDivisor 26 = .ok (.lload 6, 2) := by decide +kernel
theorem dX10_commonDivisor_28 : decode cX10_commonDivisor 28 = .ok (.lrem, 1) := by decide +kernel
theorem dX10_commonDivisor_29 : decode cX10_commonDivisor 29 = .ok (.lstore 9, 2) := by decide +kernel
theorem dX10_commonDivisor_31 : decode cX10_commonDivisor 31 = .ok (.lload 6, 2) := by decide +kernel
theorem dX10_commonDivisor_33 : decode cX10_commonDivisor 33 = .ok (.lstore 4, 2) := by decide +kernel
theorem dX10_commonDivisor_35 : decode cX10_commonDivisor 35 = .ok (.lload 9, 2) := by decide +kernel
theorem dX10_commonDivisor_37 : decode cX10_commonDivisor 37 = .ok (.lstore 6, 2) := by decide +kernel
theorem dX10_commonDivisor_39 : decode cX10_commonDivisor 39 = .ok (.iinc 8 1, 3) := by decide +kernel
theorem dX10_commonDivisor_42 : decode cX10_commonDivisor 42 = .ok (.goto (-33), 3) := by decide +kernel
theorem dX10_commonDivisor_45 : decode cX10_commonDivisor 45 = .ok (.lload 4, 2) := by decide +kernel
theorem dX10_commonDivisor_47 : decode cX10_commonDivisor 47 = .ok (.lreturn, 1) := by decide +kernel
set_option maxHeartbeats 4000000 in
set_option maxRecDepth 100000 in
theorem ctX10_commonDivisor {p0 : Int} {p2 : Int} {σ : jq_M} {res : Int}  (h : X10_commonDivisor p0 p2 σ = some res) : jq_MC jq_zX yX10_commonDivisor cX10_commonDivisor 11 (some .long) 1 40 [jL p0, jL p2] σ (some (jL res)) σ := by
  refine jq_met (own := RX10) (L0 := [(0, jL p0), (2, jL p2)]) (by decide) rfl rfl rfl ?_
  intro X Γ hnl hlY hRT
  refine jq_use2 (P := fun r => jq_RT jq_zX X (some .long) (some (jL r)) σ) ?_ h hRT
  intro K0 hK0
  unfold X10_commonDivisor
  refine jq_lload_n Γ dX10_commonDivisor_0 rfl 0 rfl ?_
  refine jq_lstore (L' := [(4, jL p0), (0, jL p0), (2, jL p2)]) Γ dX10_commonDivisor_1 hnl rfl rfl ?_
  refine jq_lload_n Γ dX10_commonDivisor_3 rfl 2 rfl ?_
  refine jq_lstore (L' := [(6, jL p2), (4, jL p0), (0, jL p0), (2, jL p2)]) Γ dX10_commonDivisor_4 hnl rfl rfl ?_
  refine jq_iconst Γ dX10_commonDivisor_6 rfl ?_
  refine jq_istore (L' := [(8, jI 0), (6, jL p2), (4, jL p0), (0, jL p0), (2, jL p2)]) Γ dX10_commonDivisor_7 hnl rfl rfl ?_
  refine jq_sub Γ (L' := [(4, jL p0), (6, jL p2), (8, jI 0)]) [2, 1, 0] rfl ?_
  refine jq_loop2 (C := fun (t1 : Int × Int × Int) => jq_V jq_zX X (jq_zN jq_zX) σ 9 [(4, jL t1.1), (6, jL t1.2.1), (8, jI t1.2.2)] []) (KX := fun (e4 : Int) => jq_V jq_zX X (jq_zN jq_zX) σ 45 [(4, jL e4)] []) ?_ ?_ (p0, p2, 0)
  · intro K9_t1 hCt1 hXt1 t1
    unfold X10_commonDivisor_b9
    refine jq_iload Γ dX10_commonDivisor_9 2 rfl ?_
    refine jq_ldcw Γ 1000000 dX10_commonDivisor_11 kc_RX10_476 rfl ?_
    refine jq_icmp_ge (tgt := 45) Γ dX10_commonDivisor_14 rfl ?_ ?_
    · refine jq_sub Γ (L' := [(4, jL t1.1)]) [0] rfl ?_
      exact jq_done (hXt1 t1.1)
    · refine jq_lload Γ dX10_commonDivisor_17 1 rfl ?_
      refine jq_lconst Γ 0 dX10_commonDivisor_19 rfl rfl ?_
      refine jq_lcmp Γ dX10_commonDivisor_20 ?_
      refine jq_if_eq (tgt := 45) Γ dX10_commonDivisor_21 rfl ?_ ?_
      · refine jq_sub Γ (L' := [(4, jL t1.1)]) [0] rfl ?_
        exact jq_done (hXt1 t1.1)
      · refine jq_lload Γ dX10_commonDivisor_24 0 rfl ?_
        refine jq_lload Γ dX10_commonDivisor_26 1 rfl ?_
        refine jq_lremR Γ dX10_commonDivisor_28 (fun v2 => ?_)
        refine jq_lstore (L' := [(9, jL v2), (4, jL t1.1), (6, jL t1.2.1), (8, jI t1.2.2)]) Γ dX10_commonDivisor_29 hnl rfl rfl ?_
        refine jq_lload Γ dX10_commonDivisor_31 2 rfl ?_
        refine jq_lstore (L' := [(4, jL t1.2.1), (9, jL v2), (6, jL t1.2.1), (8, jI t1.2.2)]) Γ dX10_commonDivisor_33 hnl rfl rfl ?_
        refine jq_lload Γ dX10_commonDivisor_35 1 rfl ?_
        refine jq_lstore (L' := [(6, jL v2), (4, jL t1.2.1), (9, jL v2), (8, jI t1.2.2)]) Γ dX10_commonDivisor_37 hnl rfl rfl ?_
        refine jq_iincN (L' := fun v3 => [(8, jI v3), (6, jL v2), (4, jL t1.2.1), (9, jL v2)]) Γ dX10_commonDivisor_39 3 rfl hnl rfl (fun _ => rfl) (fun v3 => ?_)
        refine jq_goto Γ (tgt := 9) dX10_commonDivisor_42 rfl ?_
        refine jq_sub Γ (L' := [(4, jL t1.2.1), (6, jL v2), (8, jI v3)]) [2, 1, 0] rfl ?_
        exact jq_done (hCt1 (t1.2.1, v2, v3))
  · intro e4
    refine jq_lload Γ dX10_commonDivisor_45 0 rfl ?_
    exact jq_lreturn Γ dX10_commonDivisor_47 (hK0 _)


theorem dX10_tellFraction_0 : decode cX10_tellFraction 0 = .ok (.lload_n 1, 1) := by decide +kernel
theorem dX10_tellFraction_1 : decode cX10_tellFraction 1 = .ok (.invokestatic 466, 3) := by decide +kernel
theorem dX10_tellFraction_4 : decode cX10_tellFraction 4 = .ok (.lload_n 3, 1) := by decide +kernel
theorem dX10_tellFraction_5 : decode cX10_tellFraction 5 = .ok (.invokestatic 472, 3) := by decide +kernel
theorem dX10_tellFraction_8 : decode cX10_tellFraction 8 = .ok (.lstore 5, 2) := by decide +kernel
theorem dX10_tellFraction_10 : decode cX10_tellFraction 10 = .ok (.lload 5, 2) := by decide +kernel
theorem dX10_tellFraction_12 : decode cX10_tellFraction 12 = .ok (.lconst 0, 1) := by decide +kernel
theorem dX10_tellFraction_13 : decode cX10_tellFraction 13 = .ok (.lcmp, 1) := by decide +kernel
theorem dX10_tellFraction_14 : decode cX10_tellFraction 14 = .ok (.ifCond .le 19, 3) := by decide +kernel
theorem dX10_tellFraction_17 : decode cX10_tellFraction 17 = .ok (.aload_n 0, 1) := by decide +kernel
theorem dX10_tellFraction_18 : decode cX10_tellFraction 18 = .ok (.lload_n 1, 1) := by decide +kernel
theorem dX10_tellFraction_19 : decode cX10_tellFraction 19 = .ok (.lload 5, 2) := by decide +kernel
theorem dX10_tellFraction_21 : decode cX10_tellFraction 21 = .ok (.ldiv, 1) := by decide +kernel
theorem dX10_tellFraction_22 : decode cX10_tellFraction 22 = .ok (.putfield 75, 3) := by decide +kernel
theorem dX10_tellFraction_25 : decode cX10_tellFraction 25 = .ok (.aload_n 0, 1) := by decide +kernel
theorem dX10_tellFraction_26 : decode cX10_tellFraction 26 = .ok (.lload_n 3, 1) := by decide +kernel
theorem dX10_tellFraction_27 : decode cX10_tellFraction 27 = .ok (.lload 5, 2) := by decide +kernel
theorem dX10_tellFraction_29 : decode cX10_tellFraction 29 = .ok (.ldiv, 1) := by decide +kernel
theorem dX10_tellFraction_30 : decode cX10_tellFraction 30 = .ok (.putfield 79, 3) := by decide +kernel
theorem dX10_tellFraction_33 : decode cX10_tellFraction 33 = .ok (.return_, 1) := by decide +kernel
set_option maxHeartbeats 4000000 in
set_option maxRecDepth 100000 in
theorem ctX10_tellFraction {p1 : Int} {p3 : Int} {σ : jq_M} {σ' : jq_M}  (h : X10_tellFraction p1 p3 σ = some σ') : jq_MC jq_zX yX10_tellFraction cX10_tellFraction 7 none 2 70 [jR 0, jL p1, jL p3] σ none σ' := by
  refine jq_met (own := RX10) (L0 := [(0, jR 0), (1, jL p1), (3, jL p3)]) (by decide) rfl rfl rfl ?_
  intro X Γ hnl hlY hRT
  refine jq_use2 (P := fun r => jq_RT jq_zX X none none r) ?_ h hRT
  intro K0 hK0
  unfold X10_tellFraction
  refine jq_lload_n Γ dX10_tellFraction_0 rfl 1 rfl ?_
  refine jq_mabsl Γ mw_RX10_466 mws_absl mwi mwc_absl rfl rfl dX10_tellFraction_1 ?_
  refine jq_lload_n Γ dX10_tellFraction_4 rfl 2 rfl ?_
  refine jq_cpL (jq_stat (avs := [jL (jq_labs p1), jL p3]) (st := []) Γ hlY rfl ml_RX10_472 rfl rfl rfl rfl rfl dX10_tellFraction_5) (fun r h => ctX10_commonDivisor h) (fun v1 => ?_)
  refine jq_lstore (L' := [(5, jL v1), (0, jR 0), (1, jL p1), (3, jL p3)]) Γ dX10_tellFraction_8 hnl rfl rfl ?_
  refine jq_lload Γ dX10_tellFraction_10 0 rfl ?_
  refine jq_lconst Γ 0 dX10_tellFraction_12 rfl rfl ?_
  refine jq_lcmp Γ dX10_tellFraction_13 ?_
  refine jq_if_le (tgt := 33) Γ dX10_tellFraction_14 rfl ?_ ?_
  · exact jq_vreturn Γ dX10_tellFraction_33 (hK0 _)
  · refine jq_aload_n Γ dX10_tellFraction_17 rfl 1 rfl (jq_at_0 at_X_0) ?_
    refine jq_lload_n Γ dX10_tellFraction_18 rfl 2 rfl ?_
    refine jq_lload Γ dX10_tellFraction_19 0 rfl ?_
    refine jq_ldivR Γ dX10_tellFraction_21 (fun v2 => ?_)
    refine jq_putL Γ at_X_0 fl_RX10_75 rfl rfl dX10_tellFraction_22 (fun s3 => ?_)
    refine jq_aload_n Γ dX10_tellFraction_25 rfl 1 rfl (jq_at_0 at_X_0) ?_
    refine jq_lload_n Γ dX10_tellFraction_26 rfl 3 rfl ?_
    refine jq_lload Γ dX10_tellFraction_27 0 rfl ?_
    refine jq_ldivR Γ dX10_tellFraction_29 (fun v4 => ?_)
    refine jq_putL Γ at_X_0 fl_RX10_79 rfl rfl dX10_tellFraction_30 (fun s5 => ?_)
    exact jq_vreturn Γ dX10_tellFraction_33 (hK0 _)


theorem dX10_luck_0 : decode cX10_luck 0 = .ok (.aload_n 0, 1) := by decide +kernel
theorem dX10_luck_1 : decode cX10_luck 1 = .ok (.getfield 25, 3) := by decide +kernel
theorem dX10_luck_4 : decode cX10_luck 4 = .ok (.iload_n 1, 1) := by decide +kernel
theorem dX10_luck_5 : decode cX10_luck 5 = .ok (.invokevirtual 248, 3) := by decide +kernel
theorem dX10_luck_8 : decode cX10_luck 8 = .ok (.ifCond .ne 9, 3) := by decide +kernel
theorem dX10_luck_11 : decode cX10_luck 11 = .ok (.aload_n 0, 1) := by decide +kernel
theorem dX10_luck_12 : decode cX10_luck 12 = .ok (.iconst 1, 1) := by decide +kernel
theorem dX10_luck_13 : decode cX10_luck 13 = .ok (.invokevirtual 97, 3) := by decide +kernel
theorem dX10_luck_16 : decode cX10_luck 16 = .ok (.ireturn, 1) := by decide +kernel
theorem dX10_luck_17 : decode cX10_luck 17 = .ok (.aload_n 0, 1) := by decide +kernel
theorem dX10_luck_18 : decode cX10_luck 18 = .ok (.getfield 25, 3) := by decide +kernel
theorem dX10_luck_21 : decode cX10_luck 21 = .ok (.iload_n 1, 1) := by decide +kernel
theorem dX10_luck_22 : decode cX10_luck 22 = .ok (.invokevirtual 391, 3) := by decide +kernel
theorem dX10_luck_25 : decode cX10_luck 25 = .ok (.iconst 1, 1) := by decide +kernel
theorem dX10_luck_26 : decode cX10_luck 26 = .ok (.iload_n 1, 1) := by decide +kernel
theorem dX10_luck_27 : decode cX10_luck 27 = .ok (.ishl, 1) := by decide +kernel
theorem dX10_luck_28 : decode cX10_luck 28 = .ok (.ior, 1) := by decide +kernel
theorem dX10_luck_29 : decode cX10_luck 29 = .ok (.istore_n 2, 1) := by decide +kernel
theorem dX10_luck_30 : decode cX10_luck 30 = .ok (.lconst 1, 1) := by decide +kernel
theorem dX10_luck_31 : decode cX10_luck 31 = .ok (.lstore_n 3, 1) := by decide +kernel
theorem dX10_luck_32 : decode cX10_luck 32 = .ok (.iconst 0, 1) := by decide +kernel
theorem dX10_luck_33 : decode cX10_luck 33 = .ok (.istore 5, 2) := by decide +kernel
theorem dX10_luck_35 : decode cX10_luck 35 = .ok (.iload 5, 2) := by decide +kernel
theorem dX10_luck_37 : decode cX10_luck 37 = .ok (.iload_n 2, 1) := by decide +kernel
theorem dX10_luck_38 : decode cX10_luck 38 = .ok (.invokestatic 306, 3) := by decide +kernel
theorem dX10_luck_41 : decode cX10_luck 41 = .ok (.if_icmp .ge 15, 3) := by decide +kernel
theorem dX10_luck_44 : decode cX10_luck 44 = .ok (.lload_n 3, 1) := by decide +kernel
theorem dX10_luck_45 : decode cX10_luck 45 = .ok (.ldc2_w 412, 3) := by decide +kernel
theorem dX10_luck_48 : decode cX10_luck 48 = .ok (.lmul, 1) := by decide +kernel
theorem dX10_luck_49 : decode cX10_luck 49 = .ok (.lstore_n 3, 1) := by decide +kernel
theorem dX10_luck_50 : decode cX10_luck 50 = .ok (.iinc 5 1, 3) := by decide +kernel
theorem dX10_luck_53 : decode cX10_luck 53 = .ok (.goto (-18), 3) := by decide +kernel
theorem dX10_luck_56 : decode cX10_luck 56 = .ok (.aload_n 0, 1) := by decide +kernel
theorem dX10_luck_57 : decode cX10_luck 57 = .ok (.aload_n 0, 1) := by decide +kernel
theorem dX10_luck_58 : decode cX10_luck 58 = .ok (.getfield 25, 3) := by decide +kernel
theorem dX10_luck_61 : decode cX10_luck 61 = .ok (.iload_n 2, 1) := by decide +kernel
theorem dX10_luck_62 : decode cX10_luck 62 = .ok (.invokestatic 414, 3) := by decide +kernel
theorem dX10_luck_65 : decode cX10_luck 65 = .ok (.lload_n 3, 1) := by decide +kernel
theorem dX10_luck_66 : decode cX10_luck 66 = .ok (.invokevirtual 418, 3) := by decide +kernel
theorem dX10_luck_69 : decode cX10_luck 69 = .ok (.aload_n 0, 1) := by decide +kernel
theorem dX10_luck_70 : decode cX10_luck 70 = .ok (.invokevirtual 105, 3) := by decide +kernel
theorem dX10_luck_73 : decode cX10_luck 73 = .ok (.ireturn, 1) := by decide +kernel
set_option maxHeartbeats 4000000 in
set_option maxRecDepth 100000 in
theorem ctX10_luck {p1 : Int} {σ : jq_M} {res : Int} {σ' : jq_M}  (h : X10_luck p1 σ = some (res, σ')) : jq_MC jq_zX yX10_luck cX10_luck 6 (some .boolean) 3 96 [jR 0, jI p1] σ (some (jI res)) σ' := by
  refine jq_met (own := RX10) (L0 := [(0, jR 0), (1, jI p1)]) (by decide) rfl rfl rfl ?_
  intro X Γ hnl hlY hRT
  refine jq_use2 (P := fun r => jq_RT jq_zX X (some .boolean) (some (jI r.1)) r.2) ?_ h hRT
  intro K0 hK0
  unfold X10_luck
  refine jq_aload_n Γ dX10_luck_0 rfl 0 rfl (jq_at_0 at_X_0) ?_
  refine jq_getC (C := jq_cm2) Γ hlY at_X_0 fl_RX10_25 rfl rfl ly_now dX10_luck_1 (fun c1 hc2q => ?_)
  have hc2 := jq_cm2_com hc2q
  refine jq_iload_n Γ dX10_luck_4 rfl 1 rfl ?_
  refine jq_cpZ (jq_virt (avs := [jI p1]) (st := []) Γ hlY rfl ml_RX10_248 rfl (at_com hc2) rfl rfl rfl rfl rfl dX10_luck_5) rfl (fun r h => ctX1_isArticle hc2 h) (fun v3 hz4 => ?_)
  refine jq_if_ne (tgt := 17) Γ dX10_luck_8 rfl ?_ ?_
  · refine jq_aload_n Γ dX10_luck_17 rfl 0 rfl (jq_at_0 at_X_0) ?_
    refine jq_getC (C := jq_cm2) Γ hlY at_X_0 fl_RX10_25 rfl rfl ly_now dX10_luck_18 (fun c5 hc6q => ?_)
    have hc6 := jq_cm2_com hc6q
    refine jq_iload_n Γ dX10_luck_21 rfl 1 rfl ?_
    refine jq_cpI (jq_virt (avs := [jI p1]) (st := []) Γ hlY rfl ml_RX10_391 rfl (at_com hc6) rfl rfl rfl rfl rfl dX10_luck_22) (fun r h => ctX1_allLeansOf hc6 h) (fun v7 => ?_)
    refine jq_iconst Γ dX10_luck_25 rfl ?_
    refine jq_iload_n Γ dX10_luck_26 rfl 1 rfl ?_
    refine jq_ishl Γ dX10_luck_27 ?_
    refine jq_ior Γ dX10_luck_28 ?_
    refine jq_nmI (fun v8 => ?_)
    refine jq_istore_n (L' := [(2, jI v8), (0, jR 0), (1, jI p1)]) Γ dX10_luck_29 rfl hnl rfl rfl ?_
    refine jq_lconst Γ 1 dX10_luck_30 rfl rfl ?_
    refine jq_lstore_n (L' := [(3, jL 1), (2, jI v8), (0, jR 0), (1, jI p1)]) Γ dX10_luck_31 rfl hnl rfl rfl ?_
    refine jq_iconst Γ dX10_luck_32 rfl ?_
    refine jq_istore (L' := [(5, jI 0), (3, jL 1), (2, jI v8), (0, jR 0), (1, jI p1)]) Γ dX10_luck_33 hnl rfl rfl ?_
    refine jq_sub Γ (L' := [(0, jR 0), (2, jI v8), (3, jL 1), (5, jI 0)]) [3, 2, 1, 0] rfl ?_
    refine jq_loop2 (C := fun (t9 : Int × Int) => jq_V jq_zX X (jq_zN jq_zX) σ 35 [(0, jR 0), (2, jI v8), (3, jL t9.1), (5, jI t9.2)] []) (KX := fun (e13 : Int) => jq_V jq_zX X (jq_zN jq_zX) σ 56 [(0, jR 0), (2, jI v8), (3, jL e13)] []) ?_ ?_ (1, 0)
    · intro K35_t9 hCt9 hXt9 t9
      unfold X10_luck_b35
      refine jq_iload Γ dX10_luck_35 3 rfl ?_
      refine jq_iload_n Γ dX10_luck_37 rfl 1 rfl ?_
      refine jq_cpI (jq_stat (avs := [jI v8]) (st := [jI t9.2]) Γ hlY rfl ml_RX10_306 rfl rfl rfl rfl rfl dX10_luck_38) (fun r h => ctJ6_bitCount_0f7a4 h) (fun v10 => ?_)
      refine jq_icmp_ge (tgt := 56) Γ dX10_luck_41 rfl ?_ ?_
      · refine jq_sub Γ (L' := [(0, jR 0), (2, jI v8), (3, jL t9.1)]) [0, 1, 2] rfl ?_
        exact jq_done (hXt9 t9.1)
      · refine jq_lload_n Γ dX10_luck_44 rfl 2 rfl ?_
        refine jq_ldc2 Γ 16 dX10_luck_45 kc_RX10_412 rfl ?_
        refine jq_lmul Γ dX10_luck_48 ?_
        refine jq_nmL (fun v11 => ?_)
        refine jq_lstore_n (L' := [(3, jL v11), (0, jR 0), (2, jI v8), (5, jI t9.2)]) Γ dX10_luck_49 rfl hnl rfl rfl ?_
        refine jq_iincN (L' := fun v12 => [(5, jI v12), (3, jL v11), (0, jR 0), (2, jI v8)]) Γ dX10_luck_50 3 rfl hnl rfl (fun _ => rfl) (fun v12 => ?_)
        refine jq_goto Γ (tgt := 35) dX10_luck_53 rfl ?_
        refine jq_sub Γ (L' := [(0, jR 0), (2, jI v8), (3, jL v11), (5, jI v12)]) [2, 3, 1, 0] rfl ?_
        exact jq_done (hCt9 (v11, v12))
    · intro e13
      refine jq_aload_n Γ dX10_luck_56 rfl 0 rfl (jq_at_0 at_X_0) ?_
      refine jq_aload_n Γ dX10_luck_57 rfl 0 rfl (jq_at_0 at_X_0) ?_
      refine jq_getC (C := jq_cm2) Γ hlY at_X_0 fl_RX10_25 rfl rfl ly_now dX10_luck_58 (fun c14 hc15q => ?_)
      have hc15 := jq_cm2_com hc15q
      refine jq_iload_n Γ dX10_luck_61 rfl 1 rfl ?_
      refine jq_cpL (jq_stat (avs := [jR c14, jI v8]) (st := [jR 0]) Γ hlY rfl ml_RX10_414 rfl rfl rfl rfl rfl dX10_luck_62) (fun r h => ctX0_oddsOfAll hc15 h) (fun v16 => ?_)
      refine jq_lload_n Γ dX10_luck_65 rfl 2 rfl ?_
      refine jq_cwV (jq_virt (avs := [jL v16, jL e13]) (st := []) Γ hlY rfl ml_RX10_418 rfl at_X_0 rfl rfl rfl rfl rfl dX10_luck_66) (fun σ' h => ctX10_tellFraction h) (fun s17 => ?_)
      refine jq_aload_n Γ dX10_luck_69 rfl 0 rfl (jq_at_0 at_X_0) ?_
      refine jq_cwZ (jq_virt (avs := []) (st := []) Γ hlY rfl ml_RX10_105 rfl at_X_0 rfl rfl rfl rfl rfl dX10_luck_70) rfl (fun r σ' h => ctX10_grant h) (fun v18 s19 hz20 => ?_)
      exact jq_zreturn Γ (hz20) dX10_luck_73 (hK0 _)
  · refine jq_aload_n Γ dX10_luck_11 rfl 0 rfl (jq_at_0 at_X_0) ?_
    refine jq_iconst Γ dX10_luck_12 rfl ?_
    refine jq_cwZ (jq_virt (avs := [jI 1]) (st := []) Γ hlY rfl ml_RX10_97 rfl at_X_0 rfl rfl rfl rfl rfl dX10_luck_13) rfl (fun r σ' h => ctX10_deny h) (fun v21 s22 hz23 => ?_)
    exact jq_zreturn Γ (hz23) dX10_luck_16 (hK0 _)


theorem dX0_weakestOf_0 : decode cX0_weakestOf 0 = .ok (.iconst (-1), 1) := by decide +kernel
theorem dX0_weakestOf_1 : decode cX0_weakestOf 1 = .ok (.istore_n 1, 1) := by decide +kernel
theorem dX0_weakestOf_2 : decode cX0_weakestOf 2 = .ok (.lconst 0, 1) := by decide +kernel
theorem dX0_weakestOf_3 : decode cX0_weakestOf 3 = .ok (.lstore_n 2, 1) := by decide +kernel
theorem dX0_weakestOf_4 : decode cX0_weakestOf 4 = .ok (.iconst 0, 1) := by decide +kernel
theorem dX0_weakestOf_5 : decode cX0_weakestOf 5 = .ok (.istore 4, 2) := by decide +kernel
theorem dX0_weakestOf_7 : decode cX0_weakestOf 7 = .ok (.iload 4, 2) := by decide +kernel
theorem dX0_weakestOf_9 : decode cX0_weakestOf 9 = .ok (.aload_n 0, 1) := by decide +kernel
theorem dX0_weakestOf_10 : decode cX0_weakestOf 10 = .ok (.getfield 18, 3) := by decide +kernel
theorem dX0_weakestOf_13 : decode cX0_weakestOf 13 = .ok (.if_icmp .ge 78, 3) := by decide +kernel
theorem dX0_weakestOf_16 : decode cX0_weakestOf 16 = .ok (.aload_n 0, 1) := by decide +kernel
theorem dX0_weakestOf_17 : decode cX0_weakestOf 17 = .ok (.iload 4, 2) := by decide +kernel
theorem dX0_weakestOf_19 : decode cX0_weakestOf 19 = .ok (.invokevirtual 72, 3) := by decide +kernel
theorem dX0_weakestOf_22 : decode cX0_weakestOf 22 = .ok (.iconst 1, 1) := by decide +kernel
theorem dX0_weakestOf_23 : decode cX0_weakestOf 23 = .ok (.iload 4, 2) := by decide +kernel
theorem dX0_weakestOf_25 : decode cX0_weakestOf 25 = .ok (.ishl, 1) := by decide +kernel
theorem dX0_weakestOf_26 : decode cX0_weakestOf 26 = .ok (.ior, 1) := by decide +kernel
theorem dX0_weakestOf_27 : decode cX0_weakestOf 27 = .ok (.istore 5, 2) := by decide +kernel
theorem dX0_weakestOf_29 : decode cX0_weakestOf 29 = .ok (.aload_n 0, 1) := by decide +kernel
theorem dX0_weakestOf_30 : decode cX0_weakestOf 30 = .ok (.iload 5, 2) := by decide +kernel
theorem dX0_weakestOf_32 : decode cX0_weakestOf 32 = .ok (.invokestatic 75, 3) := by decide +kernel
theorem dX0_weakestOf_35 : decode cX0_weakestOf 35 = .ok (.lstore 6, 2) := by decide +kernel
theorem dX0_weakestOf_37 : decode cX0_weakestOf 37 = .ok (.iload 5, 2) := by decide +kernel
theorem dX0_weakestOf_39 : decode cX0_weakestOf 39 = .ok (.invokestatic 28, 3) := by decide +kernel
theorem dX0_weakestOf_42 : decode cX0_weakestOf 42 = .ok (.istore 8, 2) := by decide +kernel
theorem dX0_weakestOf_44 : decode cX0_weakestOf 44 = .ok (.iload 8, 2) := by decide +kernel
theorem dX0_weakestOf_46 : decode cX0_weakestOf 46 = .ok (.aload_n 0, 1) := by decide +kernel
theorem dX0_weakestOf_47 : decode cX0_weakestOf 47 = .ok (.getfield 18, 3) := by decide +kernel
theorem dX0_weakestOf_50 : decode cX0_weakestOf 50 = .ok (.if_icmp .ge 17, 3) := by decide +kernel
theorem dX0_weakestOf_53 : decode cX0_weakestOf 53 = .ok (.lload 6, 2) := by decide +kernel
theorem dX0_weakestOf_55 : decode cX0_weakestOf 55 = .ok (.ldc2_w 79, 3) := by decide +kernel
theorem dX0_weakestOf_58 : decode cX0_weakestOf 58 = .ok (.lmul, 1) := by decide +kernel
theorem dX0_weakestOf_59 : decode cX0_weakestOf 59 = .ok (.lstore 6, 2) := by decide +kernel
theorem dX0_weakestOf_61 : decode cX0_weakestOf 61 = .ok (.iinc 8 1, 3) := by decide +kernel
theorem dX0_weakestOf_64 : decode cX0_weakestOf 64 = .ok (.goto (-20), 3) := by decide +kernel
theorem dX0_weakestOf_67 : decode cX0_weakestOf 67 = .ok (.iload_n 1, 1) := by decide +kernel
theorem dX0_weakestOf_68 : decode cX0_weakestOf 68 = .ok (.iconst (-1), 1) := by decide +kernel
theorem dX0_weakestOf_69 : decode cX0_weakestOf 69 = .ok (.if_icmp .eq 10, 3) := by decide +kernel
theorem dX0_weakestOf_72 : decode cX0_weakestOf 72 = .ok (.lload 6, 2) := by decide +kernel
theorem dX0_weakestOf_74 : decode cX0_weakestOf 74 = .ok (.lload_n 2, 1) := by decide +kernel
theorem dX0_weakestOf_75 : decode cX0_weakestOf 75 = .ok (.lcmp, 1) := by decide +kernel
theorem dX0_weakestOf_76 : decode cX0_weakestOf 76 = .ok (.ifCond .ge 9, 3) := by decide +kernel
theorem dX0_weakestOf_79 : decode cX0_weakestOf 79 = .ok (.lload 6, 2) := by decide +kernel
theorem dX0_weakestOf_81 : decode cX0_weakestOf 81 = .ok (.lstore_n 2, 1) := by decide +kernel
theorem dX0_weakestOf_82 : decode cX0_weakestOf 82 = .ok (.iload 4, 2) := by decide +kernel
theorem dX0_weakestOf_84 : decode cX0_weakestOf 84 = .ok (.istore_n 1, 1) := by decide +kernel
theorem dX0_weakestOf_85 : decode cX0_weakestOf 85 = .ok (.iinc 4 1, 3) := by decide +kernel
theorem dX0_weakestOf_88 : decode cX0_weakestOf 88 = .ok (.goto (-81), 3) := by decide +kernel
theorem dX0_weakestOf_91 : decode cX0_weakestOf 91 = .ok (.iload_n 1, 1) := by decide +kernel
theorem dX0_weakestOf_92 : decode cX0_weakestOf 92 = .ok (.ireturn, 1) := by decide +kernel
set_option maxHeartbeats 4000000 in
set_option maxRecDepth 100000 in
theorem ctX0_weakestOf {p0 : Int} {σ : jq_M} {res : Int} (hp0 : jq_com p0) (h : X0_weakestOf p0 σ = some res) : jq_MC jq_zX yX0_weakestOf cX0_weakestOf 9 (some .int) 3 85 [jR p0] σ (some (jI res)) σ := by
  refine jq_met (own := RX0) (L0 := [(0, jR p0)]) (by decide) rfl rfl rfl ?_
  intro X Γ hnl hlY hRT
  refine jq_use2 (P := fun r => jq_RT jq_zX X (some .int) (some (jI r)) σ) ?_ h hRT
  intro K0 hK0
  unfold X0_weakestOf
  refine jq_iconst Γ dX0_weakestOf_0 rfl ?_
  refine jq_istore_n (L' := [(1, jI (-1)), (0, jR p0)]) Γ dX0_weakestOf_1 rfl hnl rfl rfl ?_
  refine jq_lconst Γ 0 dX0_weakestOf_2 rfl rfl ?_
  refine jq_lstore_n (L' := [(2, jL 0), (1, jI (-1)), (0, jR p0)]) Γ dX0_weakestOf_3 rfl hnl rfl rfl ?_
  refine jq_iconst Γ dX0_weakestOf_4 rfl ?_
  refine jq_istore (L' := [(4, jI 0), (2, jL 0), (1, jI (-1)), (0, jR p0)]) Γ dX0_weakestOf_5 hnl rfl rfl ?_
  refine jq_sub Γ (L' := [(0, jR p0), (1, jI (-1)), (2, jL 0), (4, jI 0)]) [3, 2, 1, 0] rfl ?_
  refine jq_loop2 (C := fun (t1 : Int × Int × Int) => jq_V jq_zX X (jq_zN jq_zX) σ 7 [(0, jR p0), (1, jI t1.1), (2, jL t1.2.1), (4, jI t1.2.2)] []) (KX := fun (e13 : Int) => jq_V jq_zX X (jq_zN jq_zX) σ 91 [(1, jI e13)] []) ?_ ?_ ((-1), 0, 0)
  · intro K7_t1 hCt1 hXt1 t1
    unfold X0_weakestOf_b7
    refine jq_iload Γ dX0_weakestOf_7 3 rfl ?_
    refine jq_aload_n Γ dX0_weakestOf_9 rfl 0 rfl (jq_at_0 (at_com hp0)) ?_
    refine jq_getI (J := 4) Γ (at_com hp0) fl_RX0_18 rfl rfl dX0_weakestOf_10 ?_
    refine jq_icmp_ge (tgt := 91) Γ dX0_weakestOf_13 rfl ?_ ?_
    · refine jq_sub Γ (L' := [(1, jI t1.1)]) [1] rfl ?_
      exact jq_done (hXt1 t1.1)
    · refine jq_aload_n Γ dX0_weakestOf_16 rfl 0 rfl (jq_at_0 (at_com hp0)) ?_
      refine jq_iload Γ dX0_weakestOf_17 3 rfl ?_
      refine jq_cpI (jq_virt (avs := [jI t1.2.2]) (st := []) Γ hlY rfl ml_RX0_72 rfl (at_com hp0) rfl rfl rfl rfl rfl dX0_weakestOf_19) (fun r h => ctX1_allLeansOf hp0 h) (fun v2 => ?_)
      refine jq_iconst Γ dX0_weakestOf_22 rfl ?_
      refine jq_iload Γ dX0_weakestOf_23 3 rfl ?_
      refine jq_ishl Γ dX0_weakestOf_25 ?_
      refine jq_ior Γ dX0_weakestOf_26 ?_
      refine jq_nmI (fun v3 => ?_)
      refine jq_istore (L' := [(5, jI v3), (0, jR p0), (1, jI t1.1), (2, jL t1.2.1), (4, jI t1.2.2)]) Γ dX0_weakestOf_27 hnl rfl rfl ?_
      refine jq_aload_n Γ dX0_weakestOf_29 rfl 1 rfl (jq_at_0 (at_com hp0)) ?_
      refine jq_iload Γ dX0_weakestOf_30 0 rfl ?_
      refine jq_cpL (jq_stat (avs := [jR p0, jI v3]) (st := []) Γ hlY rfl ml_RX0_75 rfl rfl rfl rfl rfl dX0_weakestOf_32) (fun r h => ctX0_oddsOfAll hp0 h) (fun v4 => ?_)
      refine jq_lstore (L' := [(6, jL v4), (5, jI v3), (0, jR p0), (1, jI t1.1), (2, jL t1.2.1), (4, jI t1.2.2)]) Γ dX0_weakestOf_35 hnl rfl rfl ?_
      refine jq_iload Γ dX0_weakestOf_37 1 rfl ?_
      refine jq_cpI (jq_stat (avs := [jI v3]) (st := []) Γ hlY rfl ml_RX0_28 rfl rfl rfl rfl rfl dX0_weakestOf_39) (fun r h => ctJ6_bitCount_0f7a4 h) (fun v5 => ?_)
      refine jq_istore (L' := [(8, jI v5), (6, jL v4), (5, jI v3), (0, jR p0), (1, jI t1.1), (2, jL t1.2.1), (4, jI t1.2.2)]) Γ dX0_weakestOf_42 hnl rfl rfl ?_
      refine jq_sub Γ (L' := [(0, jR p0), (1, jI t1.1), (2, jL t1.2.1), (4, jI t1.2.2), (6, jL v4), (8, jI v5)]) [3, 4, 5, 6, 1, 0] rfl ?_
      refine jq_loop2 (C := fun (t6 : Int × Int) => jq_V jq_zX X (jq_zN jq_zX) σ 44 [(0, jR p0), (1, jI t1.1), (2, jL t1.2.1), (4, jI t1.2.2), (6, jL t6.1), (8, jI t6.2)] []) (KX := fun (e9 : Int) => jq_V jq_zX X (jq_zN jq_zX) σ 67 [(0, jR p0), (1, jI t1.1), (2, jL t1.2.1), (4, jI t1.2.2), (6, jL e9)] []) ?_ ?_ (v4, v5)
      · intro K44_t6 hCt6 hXt6 t6
        unfold X0_weakestOf_b44
        refine jq_iload Γ dX0_weakestOf_44 5 rfl ?_
        refine jq_aload_n Γ dX0_weakestOf_46 rfl 0 rfl (jq_at_0 (at_com hp0)) ?_
        refine jq_getI (J := 4) Γ (at_com hp0) fl_RX0_18 rfl rfl dX0_weakestOf_47 ?_
        refine jq_icmp_ge (tgt := 67) Γ dX0_weakestOf_50 rfl ?_ ?_
        · refine jq_sub Γ (L' := [(0, jR p0), (1, jI t1.1), (2, jL t1.2.1), (4, jI t1.2.2), (6, jL t6.1)]) [0, 1, 2, 3, 4] rfl ?_
          exact jq_done (hXt6 t6.1)
        · refine jq_lload Γ dX0_weakestOf_53 4 rfl ?_
          refine jq_ldc2 Γ 16 dX0_weakestOf_55 kc_RX0_79 rfl ?_
          refine jq_lmul Γ dX0_weakestOf_58 ?_
          refine jq_nmL (fun v7 => ?_)
          refine jq_lstore (L' := [(6, jL v7), (0, jR p0), (1, jI t1.1), (2, jL t1.2.1), (4, jI t1.2.2), (8, jI t6.2)]) Γ dX0_weakestOf_59 hnl rfl rfl ?_
          refine jq_iincN (L' := fun v8 => [(8, jI v8), (6, jL v7), (0, jR p0), (1, jI t1.1), (2, jL t1.2.1), (4, jI t1.2.2)]) Γ dX0_weakestOf_61 5 rfl hnl rfl (fun _ => rfl) (fun v8 => ?_)
          refine jq_goto Γ (tgt := 44) dX0_weakestOf_64 rfl ?_
          refine jq_sub Γ (L' := [(0, jR p0), (1, jI t1.1), (2, jL t1.2.1), (4, jI t1.2.2), (6, jL v7), (8, jI v8)]) [2, 3, 4, 5, 1, 0] rfl ?_
          exact jq_done (hCt6 (v7, v8))
      · intro e9
        refine jq_iload_n Γ dX0_weakestOf_67 rfl 1 rfl ?_
        refine jq_iconst Γ dX0_weakestOf_68 rfl ?_
        refine jq_icmp_eq (tgt := 79) Γ dX0_weakestOf_69 rfl ?_ ?_
        · refine jq_lload Γ dX0_weakestOf_79 4 rfl ?_
          refine jq_lstore_n (L' := [(2, jL e9), (0, jR p0), (1, jI t1.1), (4, jI t1.2.2), (6, jL e9)]) Γ dX0_weakestOf_81 rfl hnl rfl rfl ?_
          refine jq_iload Γ dX0_weakestOf_82 3 rfl ?_
          refine jq_istore_n (L' := [(1, jI t1.2.2), (2, jL e9), (0, jR p0), (4, jI t1.2.2), (6, jL e9)]) Γ dX0_weakestOf_84 rfl hnl rfl rfl ?_
          refine jq_iincN (L' := fun v10 => [(4, jI v10), (1, jI t1.2.2), (2, jL e9), (0, jR p0), (6, jL e9)]) Γ dX0_weakestOf_85 3 rfl hnl rfl (fun _ => rfl) (fun v10 => ?_)
          refine jq_goto Γ (tgt := 7) dX0_weakestOf_88 rfl ?_
          refine jq_sub Γ (L' := [(0, jR p0), (1, jI t1.2.2), (2, jL e9), (4, jI v10)]) [3, 1, 2, 0] rfl ?_
          exact jq_done (hCt1 (t1.2.2, e9, v10))
        · refine jq_lload Γ dX0_weakestOf_72 4 rfl ?_
          refine jq_lload_n Γ dX0_weakestOf_74 rfl 2 rfl ?_
          refine jq_lcmp Γ dX0_weakestOf_75 ?_
          refine jq_if_ge (tgt := 85) Γ dX0_weakestOf_76 rfl ?_ ?_
          · refine jq_iincN (L' := fun v11 => [(4, jI v11), (0, jR p0), (1, jI t1.1), (2, jL t1.2.1), (6, jL e9)]) Γ dX0_weakestOf_85 3 rfl hnl rfl (fun _ => rfl) (fun v11 => ?_)
            refine jq_goto Γ (tgt := 7) dX0_weakestOf_88 rfl ?_
            refine jq_sub Γ (L' := [(0, jR p0), (1, jI t1.1), (2, jL t1.2.1), (4, jI v11)]) [1, 2, 3, 0] rfl ?_
            exact jq_done (hCt1 (t1.1, t1.2.1, v11))
          · refine jq_lload Γ dX0_weakestOf_79 4 rfl ?_
            refine jq_lstore_n (L' := [(2, jL e9), (0, jR p0), (1, jI t1.1), (4, jI t1.2.2), (6, jL e9)]) Γ dX0_weakestOf_81 rfl hnl rfl rfl ?_
            refine jq_iload Γ dX0_weakestOf_82 3 rfl ?_
            refine jq_istore_n (L' := [(1, jI t1.2.2), (2, jL e9), (0, jR p0), (4, jI t1.2.2), (6, jL e9)]) Γ dX0_weakestOf_84 rfl hnl rfl rfl ?_
            refine jq_iincN (L' := fun v12 => [(4, jI v12), (1, jI t1.2.2), (2, jL e9), (0, jR p0), (6, jL e9)]) Γ dX0_weakestOf_85 3 rfl hnl rfl (fun _ => rfl) (fun v12 => ?_)
            refine jq_goto Γ (tgt := 7) dX0_weakestOf_88 rfl ?_
            refine jq_sub Γ (L' := [(0, jR p0), (1, jI t1.2.2), (2, jL e9), (4, jI v12)]) [3, 1, 2, 0] rfl ?_
            exact jq_done (hCt1 (t1.2.2, e9, v12))
  · intro e13
    refine jq_iload_n Γ dX0_weakestOf_91 rfl 0 rfl ?_
    exact jq_ireturn Γ dX0_weakestOf_92 (hK0 _)


theorem dX10_weakest_0 : decode cX10_weakest 0 = .ok (.aload_n 0, 1) := by decide +kernel
theorem dX10_weakest_1 : decode cX10_weakest 1 = .ok (.aload_n 0, 1) := by decide +kernel
theorem dX10_weakest_2 : decode cX10_weakest 2 = .ok (.getfield 25, 3) := by decide +kernel
theorem dX10_weakest_5 : decode cX10_weakest 5 = .ok (.invokestatic 422, 3) := by decide +kernel
theorem dX10_weakest_8 : decode cX10_weakest 8 = .ok (.invokevirtual 224, 3) := by decide +kernel
theorem dX10_weakest_11 : decode cX10_weakest 11 = .ok (.ireturn, 1) := by decide +kernel
set_option maxHeartbeats 4000000 in
set_option maxRecDepth 100000 in
theorem ctX10_weakest  {σ : jq_M} {res : Int} {σ' : jq_M}  (h : X10_weakest σ = some (res, σ')) : jq_MC jq_zX yX10_weakest cX10_weakest 1 (some .int) 4 113 [jR 0] σ (some (jI res)) σ' := by
  refine jq_met (own := RX10) (L0 := [(0, jR 0)]) (by decide) rfl rfl rfl ?_
  intro X Γ hnl hlY hRT
  refine jq_use2 (P := fun r => jq_RT jq_zX X (some .int) (some (jI r.1)) r.2) ?_ h hRT
  intro K0 hK0
  unfold X10_weakest
  refine jq_aload_n Γ dX10_weakest_0 rfl 0 rfl (jq_at_0 at_X_0) ?_
  refine jq_aload_n Γ dX10_weakest_1 rfl 0 rfl (jq_at_0 at_X_0) ?_
  refine jq_getC (C := jq_cm2) Γ hlY at_X_0 fl_RX10_25 rfl rfl ly_now dX10_weakest_2 (fun c1 hc2q => ?_)
  have hc2 := jq_cm2_com hc2q
  refine jq_cpI (jq_stat (avs := [jR c1]) (st := [jR 0]) Γ hlY rfl ml_RX10_422 rfl rfl rfl rfl rfl dX10_weakest_5) (fun r h => ctX0_weakestOf hc2 h) (fun v3 => ?_)
  refine jq_cwI (jq_virt (avs := [jI v3]) (st := []) Γ hlY rfl ml_RX10_224 rfl at_X_0 rfl rfl rfl rfl rfl dX10_weakest_8) (fun r σ' h => ctX10_answerOrNone h) (fun v4 s5 => ?_)
  exact jq_ireturn Γ dX10_weakest_11 (hK0 _)


theorem dX10_copySeats_0 : decode cX10_copySeats 0 = .ok (.aload_n 0, 1) := by decide +kernel
theorem dX10_copySeats_1 : decode cX10_copySeats 1 = .ok (.iload_n 1, 1) := by decide +kernel
theorem dX10_copySeats_2 : decode cX10_copySeats 2 = .ok (.invokevirtual 89, 3) := by decide +kernel
theorem dX10_copySeats_5 : decode cX10_copySeats 5 = .ok (.astore_n 2, 1) := by decide +kernel
theorem dX10_copySeats_6 : decode cX10_copySeats 6 = .ok (.aload_n 2, 1) := by decide +kernel
theorem dX10_copySeats_7 : decode cX10_copySeats 7 = .ok (.iconst 0, 1) := by decide +kernel
theorem dX10_copySeats_8 : decode cX10_copySeats 8 = .ok (.aload_n 0, 1) := by decide +kernel
theorem dX10_copySeats_9 : decode cX10_copySeats 9 = .ok (.getfield 25, 3) := by decide +kernel
theorem dX10_copySeats_12 : decode cX10_copySeats 12 = .ok (.getfield 188, 3) := by decide +kernel
theorem dX10_copySeats_15 : decode cX10_copySeats 15 = .ok (.invokestatic 109, 3) := by decide +kernel
theorem dX10_copySeats_18 : decode cX10_copySeats 18 = .ok (.istore_n 3, 1) := by decide +kernel
theorem dX10_copySeats_19 : decode cX10_copySeats 19 = .ok (.aload_n 2, 1) := by decide +kernel
theorem dX10_copySeats_20 : decode cX10_copySeats 20 = .ok (.ifnull 7, 3) := by decide +kernel
theorem dX10_copySeats_23 : decode cX10_copySeats 23 = .ok (.iload_n 3, 1) := by decide +kernel
theorem dX10_copySeats_24 : decode cX10_copySeats 24 = .ok (.ifCond .eq 9, 3) := by decide +kernel
theorem dX10_copySeats_27 : decode cX10_copySeats 27 = .ok (.aload_n 0, 1) := by decide +kernel
theorem dX10_copySeats_28 : decode cX10_copySeats 28 = .ok (.iload_n 3, 1) := by decide +kernel
theorem dX10_copySeats_29 : decode cX10_copySeats 29 = .ok (.invokevirtual 117, 3) := by decide +kernel
theorem dX10_copySeats_32 : decode cX10_copySeats 32 = .ok (.ireturn, 1) := by decide +kernel
theorem dX10_copySeats_33 : decode cX10_copySeats 33 = .ok (.iconst 0, 1) := by decide +kernel
theorem dX10_copySeats_34 : decode cX10_copySeats 34 = .ok (.istore 4, 2) := by decide +kernel
theorem dX10_copySeats_36 : decode cX10_copySeats 36 = .ok (.iload 4, 2) := by decide +kernel
theorem dX10_copySeats_38 : decode cX10_copySeats 38 = .ok (.aload_n 0, 1) := by decide +kernel
theorem dX10_copySeats_39 : decode cX10_copySeats 39 = .ok (.getfield 25, 3) := by decide +kernel
theorem dX10_copySeats_42 : decode cX10_copySeats 42 = .ok (.getfield 188, 3) := by decide +kernel
theorem dX10_copySeats_45 : decode cX10_copySeats 45 = .ok (.if_icmp .ge 39, 3) := by decide +kernel
theorem dX10_copySeats_48 : decode cX10_copySeats 48 = .ok (.iload 4, 2) := by decide +kernel
theorem dX10_copySeats_50 : decode cX10_copySeats 50 = .ok (.aload_n 0, 1) := by decide +kernel
theorem dX10_copySeats_51 : decode cX10_copySeats 51 = .ok (.getfield 25, 3) := by decide +kernel
theorem dX10_copySeats_54 : decode cX10_copySeats 54 = .ok (.getfield 200, 3) := by decide +kernel
theorem dX10_copySeats_57 : decode cX10_copySeats 57 = .ok (.arraylength, 1) := by decide +kernel
theorem dX10_copySeats_58 : decode cX10_copySeats 58 = .ok (.if_icmp .ge 26, 3) := by decide +kernel
theorem dX10_copySeats_61 : decode cX10_copySeats 61 = .ok (.aload_n 2, 1) := by decide +kernel
theorem dX10_copySeats_62 : decode cX10_copySeats 62 = .ok (.iload 4, 2) := by decide +kernel
theorem dX10_copySeats_64 : decode cX10_copySeats 64 = .ok (.aload_n 0, 1) := by decide +kernel
theorem dX10_copySeats_65 : decode cX10_copySeats 65 = .ok (.getfield 25, 3) := by decide +kernel
theorem dX10_copySeats_68 : decode cX10_copySeats 68 = .ok (.getfield 200, 3) := by decide +kernel
theorem dX10_copySeats_71 : decode cX10_copySeats 71 = .ok (.iload 4, 2) := by decide +kernel
theorem dX10_copySeats_73 : decode cX10_copySeats 73 = .ok (.iaload, 1) := by decide +kernel
theorem dX10_copySeats_74 : decode cX10_copySeats 74 = .ok (.i2l, 1) := by decide +kernel
theorem dX10_copySeats_75 : decode cX10_copySeats 75 = .ok (.invokevirtual 113, 3) := by decide +kernel
theorem dX10_copySeats_78 : decode cX10_copySeats 78 = .ok (.iinc 4 1, 3) := by decide +kernel
theorem dX10_copySeats_81 : decode cX10_copySeats 81 = .ok (.goto (-45), 3) := by decide +kernel
theorem dX10_copySeats_84 : decode cX10_copySeats 84 = .ok (.aload_n 0, 1) := by decide +kernel
theorem dX10_copySeats_85 : decode cX10_copySeats 85 = .ok (.aload_n 0, 1) := by decide +kernel
theorem dX10_copySeats_86 : decode cX10_copySeats 86 = .ok (.getfield 25, 3) := by decide +kernel
theorem dX10_copySeats_89 : decode cX10_copySeats 89 = .ok (.getfield 188, 3) := by decide +kernel
theorem dX10_copySeats_92 : decode cX10_copySeats 92 = .ok (.invokevirtual 167, 3) := by decide +kernel
theorem dX10_copySeats_95 : decode cX10_copySeats 95 = .ok (.ireturn, 1) := by decide +kernel
set_option maxHeartbeats 4000000 in
set_option maxRecDepth 100000 in
theorem ctX10_copySeats {p1 : Int} {σ : jq_M} {res : Int} {σ' : jq_M}  (h : X10_copySeats p1 σ = some (res, σ')) : jq_MC jq_zX yX10_copySeats cX10_copySeats 5 (some .int) 3 85 [jR 0, jI p1] σ (some (jI res)) σ' := by
  refine jq_met (own := RX10) (L0 := [(0, jR 0), (1, jI p1)]) (by decide) rfl rfl rfl ?_
  intro X Γ hnl hlY hRT
  refine jq_use2 (P := fun r => jq_RT jq_zX X (some .int) (some (jI r.1)) r.2) ?_ h hRT
  intro K0 hK0
  unfold X10_copySeats
  have hj27_0 : ∀ (j8 : Int) (s9 : jq_M), jq_J (X10_copySeats_j27 j8 s9) K0 (jq_V jq_zX X (jq_zN jq_zX) s9 27 [(0, jR 0), (3, jI j8)] []) := by
    intro j8 s9
    unfold X10_copySeats_j27
    refine jq_aload_n Γ dX10_copySeats_27 rfl 0 rfl (jq_at_0 at_X_0) ?_
    refine jq_iload_n Γ dX10_copySeats_28 rfl 1 rfl ?_
    refine jq_cwI (jq_virt (avs := [jI j8]) (st := []) Γ hlY rfl ml_RX10_117 rfl at_X_0 rfl rfl rfl rfl rfl dX10_copySeats_29) (fun r σ' h => ctX10_refuse h) (fun v10 s11 => ?_)
    exact jq_ireturn Γ dX10_copySeats_32 (hK0 _)
  have hj84_0 : ∀ (s23 : jq_M), jq_J (X10_copySeats_j84 s23) K0 (jq_V jq_zX X (jq_zN jq_zX) s23 84 [(0, jR 0)] []) := by
    intro s23
    unfold X10_copySeats_j84
    refine jq_aload_n Γ dX10_copySeats_84 rfl 0 rfl (jq_at_0 at_X_0) ?_
    refine jq_aload_n Γ dX10_copySeats_85 rfl 0 rfl (jq_at_0 at_X_0) ?_
    refine jq_getC (C := jq_cm2) Γ hlY at_X_0 fl_RX10_25 rfl rfl ly_now dX10_copySeats_86 (fun c24 hc25q => ?_)
    have hc25 := jq_cm2_com hc25q
    refine jq_getI (J := 2) Γ (at_com hc25) fl_RX10_188 rfl rfl dX10_copySeats_89 ?_
    refine jq_cwI (jq_virt (avs := [jI (s23 c24 2)]) (st := []) Γ hlY rfl ml_RX10_167 rfl at_X_0 rfl rfl rfl rfl rfl dX10_copySeats_92) (fun r σ' h => ctX10_answer h) (fun v26 s27 => ?_)
    exact jq_ireturn Γ dX10_copySeats_95 (hK0 _)
  refine jq_aload_n Γ dX10_copySeats_0 rfl 0 rfl (jq_at_0 at_X_0) ?_
  refine jq_iload_n Γ dX10_copySeats_1 rfl 1 rfl ?_
  refine jq_cpR (jq_virt (avs := [jI p1]) (st := []) Γ hlY rfl ml_RX10_89 rfl at_X_0 rfl rfl rfl rfl rfl dX10_copySeats_2) (fun r h => ctX10_trayAt h) (fun v1 => ?_)
  refine jq_trnN (fun v2 hz3 => ?_)
  refine jq_astoreQ_n (L' := [(2, jR v2), (0, jR 0), (1, jI p1)]) Γ dX10_copySeats_5 rfl hnl rfl rfl ?_
  refine jq_aloadQ_n Γ dX10_copySeats_6 rfl 0 rfl ?_
  refine jq_iconst Γ dX10_copySeats_7 rfl ?_
  refine jq_aload_n Γ dX10_copySeats_8 rfl 1 rfl (jq_at_0 at_X_0) ?_
  refine jq_getC (C := jq_cm2) Γ hlY at_X_0 fl_RX10_25 rfl rfl ly_now dX10_copySeats_9 (fun c4 hc5q => ?_)
  have hc5 := jq_cm2_com hc5q
  refine jq_getI (J := 2) Γ (at_com hc5) fl_RX10_188 rfl rfl dX10_copySeats_12 ?_
  refine jq_cpI (jq_stat (avs := [jR v2, jI 0, jI (σ c4 2)]) (st := []) Γ hlY rfl ml_RX10_109 rfl rfl rfl rfl rfl dX10_copySeats_15) (fun r h => ctX10_whyNoNumbers hz3 h) (fun v6 => ?_)
  refine jq_istore_n (L' := [(3, jI v6), (2, jR v2), (0, jR 0), (1, jI p1)]) Γ dX10_copySeats_18 rfl hnl rfl rfl ?_
  refine jq_aloadQ_n Γ dX10_copySeats_19 rfl 1 rfl ?_
  refine jq_ifnull (tgt := 27) Γ (jq_trn_0 hz3) dX10_copySeats_20 rfl (fun _ => ?_) (fun hq7 => ?_)
  · refine jq_sub Γ (L' := [(0, jR 0), (3, jI v6)]) [2, 0] rfl ?_
    exact hj27_0 v6 σ
  · refine jq_iload_n Γ dX10_copySeats_23 rfl 0 rfl ?_
    refine jq_if_eq (tgt := 33) Γ dX10_copySeats_24 rfl ?_ ?_
    · refine jq_iconst Γ dX10_copySeats_33 rfl ?_
      refine jq_istore (L' := [(4, jI 0), (3, jI v6), (2, jR v2), (0, jR 0), (1, jI p1)]) Γ dX10_copySeats_34 hnl rfl rfl ?_
      refine jq_sub Γ (L' := [(0, jR 0), (2, jR v2), (4, jI 0)]) [3, 2, 0] rfl ?_
      refine jq_loop2 (C := fun (t12 : Int × jq_M) => jq_V jq_zX X (jq_zN jq_zX) t12.2 36 [(0, jR 0), (2, jR v2), (4, jI t12.1)] []) (KX := fun (e22 : jq_M) => jq_V jq_zX X (jq_zN jq_zX) e22 84 [(0, jR 0)] []) ?_ ?_ (0, σ)
      · intro K36_t12 hCt12 hXt12 t12
        unfold X10_copySeats_b36
        refine jq_iload Γ dX10_copySeats_36 2 rfl ?_
        refine jq_aload_n Γ dX10_copySeats_38 rfl 0 rfl (jq_at_0 at_X_0) ?_
        refine jq_getC (C := jq_cm2) Γ hlY at_X_0 fl_RX10_25 rfl rfl ly_now dX10_copySeats_39 (fun c13 hc14q => ?_)
        have hc14 := jq_cm2_com hc14q
        refine jq_getI (J := 2) Γ (at_com hc14) fl_RX10_188 rfl rfl dX10_copySeats_42 ?_
        refine jq_icmp_ge (tgt := 84) Γ dX10_copySeats_45 rfl ?_ ?_
        · refine jq_sub Γ (L' := [(0, jR 0)]) [0] rfl ?_
          exact jq_done (hXt12 t12.2)
        · refine jq_iload Γ dX10_copySeats_48 2 rfl ?_
          refine jq_aload_n Γ dX10_copySeats_50 rfl 0 rfl (jq_at_0 at_X_0) ?_
          refine jq_getC (C := jq_cm2) Γ hlY at_X_0 fl_RX10_25 rfl rfl ly_now dX10_copySeats_51 (fun c15 hc16q => ?_)
          have hc16 := jq_cm2_com hc16q
          refine jq_getR (v := (c15 + 3)) Γ hlY (at_com hc16) fl_RX10_200 rfl rfl (ly_X1_seats hc16) dX10_copySeats_54 ?_
          refine jq_alen Γ (at_com_3 hc16) rfl rfl rfl dX10_copySeats_57 ?_
          refine jq_icmp_ge (tgt := 84) Γ dX10_copySeats_58 rfl ?_ ?_
          · refine jq_sub Γ (L' := [(0, jR 0)]) [0] rfl ?_
            exact jq_done (hXt12 t12.2)
          · refine jq_aload_n Γ dX10_copySeats_61 rfl 1 rfl (jq_at_0 (at_trp (hz3.resolve_left hq7))) ?_
            refine jq_iload Γ dX10_copySeats_62 2 rfl ?_
            refine jq_aload_n Γ dX10_copySeats_64 rfl 0 rfl (jq_at_0 at_X_0) ?_
            refine jq_getC (C := jq_cm2) Γ hlY at_X_0 fl_RX10_25 rfl rfl ly_now dX10_copySeats_65 (fun c17 hc18q => ?_)
            have hc18 := jq_cm2_com hc18q
            refine jq_getR (v := (c17 + 3)) Γ hlY (at_com hc18) fl_RX10_200 rfl rfl (ly_X1_seats hc18) dX10_copySeats_68 ?_
            refine jq_iload Γ dX10_copySeats_71 2 rfl ?_
            refine jq_iald Γ (at_com_3 hc18) rfl dX10_copySeats_73 (fun v19 => ?_)
            refine jq_i2l Γ dX10_copySeats_74 ?_
            refine jq_cwV (jq_virt (avs := [jI t12.1, jL v19]) (st := []) Γ hlY rfl ml_RX10_113 rfl (at_trp (hz3.resolve_left hq7)) rfl rfl rfl rfl rfl dX10_copySeats_75) (fun σ' h => ctX9_put (hz3.resolve_left hq7) h) (fun s20 => ?_)
            refine jq_iincN (L' := fun v21 => [(4, jI v21), (0, jR 0), (2, jR v2)]) Γ dX10_copySeats_78 2 rfl hnl rfl (fun _ => rfl) (fun v21 => ?_)
            refine jq_goto Γ (tgt := 36) dX10_copySeats_81 rfl ?_
            refine jq_sub Γ (L' := [(0, jR 0), (2, jR v2), (4, jI v21)]) [1, 2, 0] rfl ?_
            exact jq_done (hCt12 (v21, s20))
      · intro e22
        exact hj84_0 e22
    · refine jq_sub Γ (L' := [(0, jR 0), (3, jI v6)]) [2, 0] rfl ?_
      exact hj27_0 v6 σ


theorem dX10_changeTrialBy_0 : decode cX10_changeTrialBy 0 = .ok (.iconst 0, 1) := by decide +kernel
theorem dX10_changeTrialBy_1 : decode cX10_changeTrialBy 1 = .ok (.istore_n 2, 1) := by decide +kernel
theorem dX10_changeTrialBy_2 : decode cX10_changeTrialBy 2 = .ok (.iconst 0, 1) := by decide +kernel
theorem dX10_changeTrialBy_3 : decode cX10_changeTrialBy 3 = .ok (.istore_n 3, 1) := by decide +kernel
theorem dX10_changeTrialBy_4 : decode cX10_changeTrialBy 4 = .ok (.iload_n 3, 1) := by decide +kernel
theorem dX10_changeTrialBy_5 : decode cX10_changeTrialBy 5 = .ok (.aload_n 0, 1) := by decide +kernel
theorem dX10_changeTrialBy_6 : decode cX10_changeTrialBy 6 = .ok (.getfield 25, 3) := by decide +kernel
theorem dX10_changeTrialBy_9 : decode cX10_changeTrialBy 9 = .ok (.getfield 188, 3) := by decide +kernel
theorem dX10_changeTrialBy_12 : decode cX10_changeTrialBy 12 = .ok (.if_icmp .ge 97, 3) := by decide +kernel
theorem dX10_changeTrialBy_15 : decode cX10_changeTrialBy 15 = .ok (.iload_n 3, 1) := by decide +kernel
theorem dX10_changeTrialBy_16 : decode cX10_changeTrialBy 16 = .ok (.aload_n 0, 1) := by decide +kernel
theorem dX10_changeTrialBy_17 : decode cX10_changeTrialBy 17 = .ok (.getfield 68, 3) := by decide +kernel
theorem dX10_changeTrialBy_20 : decode cX10_changeTrialBy 20 = .ok (.arraylength, 1) := by decide +kernel
theorem dX10_changeTrialBy_21 : decode cX10_changeTrialBy 21 = .ok (.if_icmp .ge 88, 3) := by decide +kernel
theorem dX10_changeTrialBy_24 : decode cX10_changeTrialBy 24 = .ok (.aload_n 1, 1) := by decide +kernel
theorem dX10_changeTrialBy_25 : decode cX10_changeTrialBy 25 = .ok (.iload_n 3, 1) := by decide +kernel
theorem dX10_changeTrialBy_26 : decode cX10_changeTrialBy 26 = .ok (.invokevirtual 121, 3) := by decide +kernel
theorem dX10_changeTrialBy_29 : decode cX10_changeTrialBy 29 = .ok (.lstore 4, 2) := by decide +kernel
theorem dX10_changeTrialBy_31 : decode cX10_changeTrialBy 31 = .ok (.lload 4, 2) := by decide +kernel
theorem dX10_changeTrialBy_33 : decode cX10_changeTrialBy 33 = .ok (.ldc2_w 461, 3) := by decide +kernel
theorem dX10_changeTrialBy_36 : decode cX10_changeTrialBy 36 = .ok (.lcmp, 1) := by decide +kernel
theorem dX10_changeTrialBy_37 : decode cX10_changeTrialBy 37 = .ok (.ifCond .lt 17, 3) := by decide +kernel
theorem dX10_changeTrialBy_40 : decode cX10_changeTrialBy 40 = .ok (.lload 4, 2) := by decide +kernel
theorem dX10_changeTrialBy_42 : decode cX10_changeTrialBy 42 = .ok (.aload_n 0, 1) := by decide +kernel
theorem dX10_changeTrialBy_43 : decode cX10_changeTrialBy 43 = .ok (.getfield 25, 3) := by decide +kernel
theorem dX10_changeTrialBy_46 : decode cX10_changeTrialBy 46 = .ok (.getfield 185, 3) := by decide +kernel
theorem dX10_changeTrialBy_49 : decode cX10_changeTrialBy 49 = .ok (.i2l, 1) := by decide +kernel
theorem dX10_changeTrialBy_50 : decode cX10_changeTrialBy 50 = .ok (.lcmp, 1) := by decide +kernel
theorem dX10_changeTrialBy_51 : decode cX10_changeTrialBy 51 = .ok (.ifCond .lt 5, 3) := by decide +kernel
theorem dX10_changeTrialBy_54 : decode cX10_changeTrialBy 54 = .ok (.iconst 0, 1) := by decide +kernel
theorem dX10_changeTrialBy_55 : decode cX10_changeTrialBy 55 = .ok (.ireturn, 1) := by decide +kernel
theorem dX10_changeTrialBy_56 : decode cX10_changeTrialBy 56 = .ok (.lload 4, 2) := by decide +kernel
theorem dX10_changeTrialBy_58 : decode cX10_changeTrialBy 58 = .ok (.l2i, 1) := by decide +kernel
theorem dX10_changeTrialBy_59 : decode cX10_changeTrialBy 59 = .ok (.istore 6, 2) := by decide +kernel
theorem dX10_changeTrialBy_61 : decode cX10_changeTrialBy 61 = .ok (.iload 6, 2) := by decide +kernel
theorem dX10_changeTrialBy_63 : decode cX10_changeTrialBy 63 = .ok (.iconst (-1), 1) := by decide +kernel
theorem dX10_changeTrialBy_64 : decode cX10_changeTrialBy 64 = .ok (.if_icmp .eq 14, 3) := by decide +kernel
theorem dX10_changeTrialBy_67 : decode cX10_changeTrialBy 67 = .ok (.iload_n 2, 1) := by decide +kernel
theorem dX10_changeTrialBy_68 : decode cX10_changeTrialBy 68 = .ok (.iload 6, 2) := by decide +kernel
theorem dX10_changeTrialBy_70 : decode cX10_changeTrialBy 70 = .ok (.invokestatic 463, 3) := by decide +kernel
theorem dX10_changeTrialBy_73 : decode cX10_changeTrialBy 73 = .ok (.ifCond .eq 5, 3) := by decide +kernel
theorem dX10_changeTrialBy_76 : decode cX10_changeTrialBy 76 = .ok (.iconst 0, 1) := by decide +kernel
theorem dX10_changeTrialBy_77 : decode cX10_changeTrialBy 77 = .ok (.ireturn, 1) := by decide +kernel
theorem dX10_changeTrialBy_78 : decode cX10_changeTrialBy 78 = .ok (.iload_n 2, 1) := by decide +kernel
theorem dX10_changeTrialBy_79 : decode cX10_changeTrialBy 79 = .ok (.iload 6, 2) := by decide +kernel
theorem dX10_changeTrialBy_81 : decode cX10_changeTrialBy 81 = .ok (.iconst (-1), 1) := by decide +kernel
theorem dX10_changeTrialBy_82 : decode cX10_changeTrialBy 82 = .ok (.if_icmp .ne 7, 3) := by decide +kernel
theorem dX10_changeTrialBy_85 : decode cX10_changeTrialBy 85 = .ok (.iconst 0, 1) := by decide +kernel
theorem dX10_changeTrialBy_86 : decode cX10_changeTrialBy 86 = .ok (.goto 7, 3) := by decide +kernel
theorem dX10_changeTrialBy_89 : decode cX10_changeTrialBy 89 = .ok (.iconst 1, 1) := by decide +kernel
theorem dX10_changeTrialBy_90 : decode cX10_changeTrialBy 90 = .ok (.iload 6, 2) := by decide +kernel
theorem dX10_changeTrialBy_92 : decode cX10_changeTrialBy 92 = .ok (.ishl, 1) := by decide +kernel
theorem dX10_changeTrialBy_93 : decode cX10_changeTrialBy 93 = .ok (.ior, 1) := by decide +kernel
theorem dX10_changeTrialBy_94 : decode cX10_changeTrialBy 94 = .ok (.istore_n 2, 1) := by decide +kernel
theorem dX10_changeTrialBy_95 : decode cX10_changeTrialBy 95 = .ok (.aload_n 0, 1) := by decide +kernel
theorem dX10_changeTrialBy_96 : decode cX10_changeTrialBy 96 = .ok (.getfield 68, 3) := by decide +kernel
theorem dX10_changeTrialBy_99 : decode cX10_changeTrialBy 99 = .ok (.iload_n 3, 1) := by decide +kernel
theorem dX10_changeTrialBy_100 : decode cX10_changeTrialBy 100 = .ok (.iload 6, 2) := by decide +kernel
theorem dX10_changeTrialBy_102 : decode cX10_changeTrialBy 102 = .ok (.iastore, 1) := by decide +kernel
theorem dX10_changeTrialBy_103 : decode cX10_changeTrialBy 103 = .ok (.iinc 3 1, 3) := by decide +kernel
theorem dX10_changeTrialBy_106 : decode cX10_changeTrialBy 106 = .ok (.goto (-102), 3) := by decide +kernel
theorem dX10_changeTrialBy_109 : decode cX10_changeTrialBy 109 = .ok (.iconst 1, 1) := by decide +kernel
theorem dX10_changeTrialBy_110 : decode cX10_changeTrialBy 110 = .ok (.ireturn, 1) := by decide +kernel
set_option maxHeartbeats 4000000 in
set_option maxRecDepth 100000 in
theorem ctX10_changeTrialBy {p1 : Int} {σ : jq_M} {res : Int} {σ' : jq_M} (hp1 : jq_trp p1) (h : X10_changeTrialBy p1 σ = some (res, σ')) : jq_MC jq_zX yX10_changeTrialBy cX10_changeTrialBy 7 (some .boolean) 3 83 [jR 0, jR p1] σ (some (jI res)) σ' := by
  refine jq_met (own := RX10) (L0 := [(0, jR 0), (1, jR p1)]) (by decide) rfl rfl rfl ?_
  intro X Γ hnl hlY hRT
  refine jq_use2 (P := fun r => jq_RT jq_zX X (some .boolean) (some (jI r.1)) r.2) ?_ h hRT
  intro K0 hK0
  unfold X10_changeTrialBy
  refine jq_iconst Γ dX10_changeTrialBy_0 rfl ?_
  refine jq_istore_n (L' := [(2, jI 0), (0, jR 0), (1, jR p1)]) Γ dX10_changeTrialBy_1 rfl hnl rfl rfl ?_
  refine jq_iconst Γ dX10_changeTrialBy_2 rfl ?_
  refine jq_istore_n (L' := [(3, jI 0), (2, jI 0), (0, jR 0), (1, jR p1)]) Γ dX10_changeTrialBy_3 rfl hnl rfl rfl ?_
  refine jq_sub Γ (L' := [(0, jR 0), (1, jR p1), (2, jI 0), (3, jI 0)]) [2, 3, 1, 0] rfl ?_
  refine jq_loop2 (C := fun (t1 : Int × Int × jq_M) => jq_V jq_zX X (jq_zN jq_zX) t1.2.2 4 [(0, jR 0), (1, jR p1), (2, jI t1.1), (3, jI t1.2.1)] []) (KX := Sum.elim (fun (e20 : jq_M) => jq_V jq_zX X (jq_zN jq_zX) e20 54 [] []) (Sum.elim (fun (e21 : jq_M) => jq_V jq_zX X (jq_zN jq_zX) e21 76 [] []) (fun (e22 : jq_M) => jq_V jq_zX X (jq_zN jq_zX) e22 109 [] []))) ?_ ?_ (0, 0, σ)
  · intro K4_t1 hCt1 hXt1 t1
    unfold X10_changeTrialBy_b4
    have hj78_1005 : ∀ (j8 : Int) (j9 : Int) (j10 : Int) (s11 : jq_M), jq_J (X10_changeTrialBy_j78 p1 j8 j9 j10 s11) K4_t1 (jq_V jq_zX X (jq_zN jq_zX) s11 78 [(0, jR 0), (1, jR p1), (2, jI j8), (3, jI j9), (6, jI j10)] []) := by
      intro j8 j9 j10 s11
      unfold X10_changeTrialBy_j78
      refine jq_iload_n Γ dX10_changeTrialBy_78 rfl 2 rfl ?_
      refine jq_iload Γ dX10_changeTrialBy_79 4 rfl ?_
      refine jq_iconst Γ dX10_changeTrialBy_81 rfl ?_
      refine jq_icmp_ne (tgt := 89) Γ dX10_changeTrialBy_82 rfl ?_ ?_
      · refine jq_iconst Γ dX10_changeTrialBy_89 rfl ?_
        refine jq_iload Γ dX10_changeTrialBy_90 4 rfl ?_
        refine jq_ishl Γ dX10_changeTrialBy_92 ?_
        refine jq_ior Γ dX10_changeTrialBy_93 ?_
        refine jq_nmI (fun v12 => ?_)
        refine jq_istore_n (L' := [(2, jI v12), (0, jR 0), (1, jR p1), (3, jI j9), (6, jI j10)]) Γ dX10_changeTrialBy_94 rfl hnl rfl rfl ?_
        refine jq_aload_n Γ dX10_changeTrialBy_95 rfl 1 rfl (jq_at_0 at_X_0) ?_
        refine jq_getR (v := 63) Γ hlY at_X_0 fl_RX10_68 rfl rfl ly_X10_trial dX10_changeTrialBy_96 ?_
        refine jq_iload_n Γ dX10_changeTrialBy_99 rfl 3 rfl ?_
        refine jq_iload Γ dX10_changeTrialBy_100 4 rfl ?_
        refine jq_iast Γ at_X_63 rfl dX10_changeTrialBy_102 (fun s13 => ?_)
        refine jq_iincN (L' := fun v14 => [(3, jI v14), (2, jI v12), (0, jR 0), (1, jR p1), (6, jI j10)]) Γ dX10_changeTrialBy_103 3 rfl hnl rfl (fun _ => rfl) (fun v14 => ?_)
        refine jq_goto Γ (tgt := 4) dX10_changeTrialBy_106 rfl ?_
        refine jq_sub Γ (L' := [(0, jR 0), (1, jR p1), (2, jI v12), (3, jI v14)]) [2, 3, 1, 0] rfl ?_
        exact jq_done (hCt1 (v12, v14, s13))
      · refine jq_iconst Γ dX10_changeTrialBy_85 rfl ?_
        refine jq_goto Γ (tgt := 93) dX10_changeTrialBy_86 rfl ?_
        refine jq_ior Γ dX10_changeTrialBy_93 ?_
        refine jq_nmI (fun v15 => ?_)
        refine jq_istore_n (L' := [(2, jI v15), (0, jR 0), (1, jR p1), (3, jI j9), (6, jI j10)]) Γ dX10_changeTrialBy_94 rfl hnl rfl rfl ?_
        refine jq_aload_n Γ dX10_changeTrialBy_95 rfl 1 rfl (jq_at_0 at_X_0) ?_
        refine jq_getR (v := 63) Γ hlY at_X_0 fl_RX10_68 rfl rfl ly_X10_trial dX10_changeTrialBy_96 ?_
        refine jq_iload_n Γ dX10_changeTrialBy_99 rfl 3 rfl ?_
        refine jq_iload Γ dX10_changeTrialBy_100 4 rfl ?_
        refine jq_iast Γ at_X_63 rfl dX10_changeTrialBy_102 (fun s16 => ?_)
        refine jq_iincN (L' := fun v17 => [(3, jI v17), (2, jI v15), (0, jR 0), (1, jR p1), (6, jI j10)]) Γ dX10_changeTrialBy_103 3 rfl hnl rfl (fun _ => rfl) (fun v17 => ?_)
        refine jq_goto Γ (tgt := 4) dX10_changeTrialBy_106 rfl ?_
        refine jq_sub Γ (L' := [(0, jR 0), (1, jR p1), (2, jI v15), (3, jI v17)]) [2, 3, 1, 0] rfl ?_
        exact jq_done (hCt1 (v15, v17, s16))
    refine jq_iload_n Γ dX10_changeTrialBy_4 rfl 3 rfl ?_
    refine jq_aload_n Γ dX10_changeTrialBy_5 rfl 0 rfl (jq_at_0 at_X_0) ?_
    refine jq_getC (C := jq_cm2) Γ hlY at_X_0 fl_RX10_25 rfl rfl ly_now dX10_changeTrialBy_6 (fun c2 hc3q => ?_)
    have hc3 := jq_cm2_com hc3q
    refine jq_getI (J := 2) Γ (at_com hc3) fl_RX10_188 rfl rfl dX10_changeTrialBy_9 ?_
    refine jq_icmp_ge (tgt := 109) Γ dX10_changeTrialBy_12 rfl ?_ ?_
    · refine jq_sub Γ (L' := []) [] rfl ?_
      exact jq_done (hXt1 (.inr (.inr t1.2.2)))
    · refine jq_iload_n Γ dX10_changeTrialBy_15 rfl 3 rfl ?_
      refine jq_aload_n Γ dX10_changeTrialBy_16 rfl 0 rfl (jq_at_0 at_X_0) ?_
      refine jq_getR (v := 63) Γ hlY at_X_0 fl_RX10_68 rfl rfl ly_X10_trial dX10_changeTrialBy_17 ?_
      refine jq_alen Γ at_X_63 rfl rfl rfl dX10_changeTrialBy_20 ?_
      refine jq_icmp_ge (tgt := 109) Γ dX10_changeTrialBy_21 rfl ?_ ?_
      · refine jq_sub Γ (L' := []) [] rfl ?_
        exact jq_done (hXt1 (.inr (.inr t1.2.2)))
      · refine jq_aload_n Γ dX10_changeTrialBy_24 rfl 1 rfl (jq_at_0 (at_trp hp1)) ?_
        refine jq_iload_n Γ dX10_changeTrialBy_25 rfl 3 rfl ?_
        refine jq_cpL (jq_virt (avs := [jI t1.2.1]) (st := []) Γ hlY rfl ml_RX10_121 rfl (at_trp hp1) rfl rfl rfl rfl rfl dX10_changeTrialBy_26) (fun r h => ctX9_numberAt hp1 h) (fun v4 => ?_)
        refine jq_lstore (L' := [(4, jL v4), (0, jR 0), (1, jR p1), (2, jI t1.1), (3, jI t1.2.1)]) Γ dX10_changeTrialBy_29 hnl rfl rfl ?_
        refine jq_lload Γ dX10_changeTrialBy_31 0 rfl ?_
        refine jq_ldc2 Γ (-1) dX10_changeTrialBy_33 kc_RX10_461 rfl ?_
        refine jq_lcmp Γ dX10_changeTrialBy_36 ?_
        refine jq_if_lt (tgt := 54) Γ dX10_changeTrialBy_37 rfl ?_ ?_
        · refine jq_sub Γ (L' := []) [] rfl ?_
          exact jq_done (hXt1 (.inl t1.2.2))
        · refine jq_lload Γ dX10_changeTrialBy_40 0 rfl ?_
          refine jq_aload_n Γ dX10_changeTrialBy_42 rfl 1 rfl (jq_at_0 at_X_0) ?_
          refine jq_getC (C := jq_cm2) Γ hlY at_X_0 fl_RX10_25 rfl rfl ly_now dX10_changeTrialBy_43 (fun c5 hc6q => ?_)
          have hc6 := jq_cm2_com hc6q
          refine jq_getI (J := 0) Γ (at_com hc6) fl_RX10_185 rfl rfl dX10_changeTrialBy_46 ?_
          refine jq_i2l Γ dX10_changeTrialBy_49 ?_
          refine jq_lcmp Γ dX10_changeTrialBy_50 ?_
          refine jq_if_lt (tgt := 56) Γ dX10_changeTrialBy_51 rfl ?_ ?_
          · refine jq_lload Γ dX10_changeTrialBy_56 0 rfl ?_
            refine jq_l2i Γ dX10_changeTrialBy_58 ?_
            refine jq_nmI (fun v7 => ?_)
            refine jq_istore (L' := [(6, jI v7), (4, jL v4), (0, jR 0), (1, jR p1), (2, jI t1.1), (3, jI t1.2.1)]) Γ dX10_changeTrialBy_59 hnl rfl rfl ?_
            refine jq_iload Γ dX10_changeTrialBy_61 0 rfl ?_
            refine jq_iconst Γ dX10_changeTrialBy_63 rfl ?_
            refine jq_icmp_eq (tgt := 78) Γ dX10_changeTrialBy_64 rfl ?_ ?_
            · refine jq_sub Γ (L' := [(0, jR 0), (1, jR p1), (2, jI t1.1), (3, jI t1.2.1), (6, jI v7)]) [2, 3, 4, 5, 0] rfl ?_
              exact hj78_1005 t1.1 t1.2.1 v7 t1.2.2
            · refine jq_iload_n Γ dX10_changeTrialBy_67 rfl 4 rfl ?_
              refine jq_iload Γ dX10_changeTrialBy_68 0 rfl ?_
              refine jq_cpZ (jq_stat (avs := [jI t1.1, jI v7]) (st := []) Γ hlY rfl ml_RX10_463 rfl rfl rfl rfl rfl dX10_changeTrialBy_70) rfl (fun r h => ctX10_holds h) (fun v18 hz19 => ?_)
              refine jq_if_eq (tgt := 78) Γ dX10_changeTrialBy_73 rfl ?_ ?_
              · refine jq_sub Γ (L' := [(0, jR 0), (1, jR p1), (2, jI t1.1), (3, jI t1.2.1), (6, jI v7)]) [2, 3, 4, 5, 0] rfl ?_
                exact hj78_1005 t1.1 t1.2.1 v7 t1.2.2
              · refine jq_sub Γ (L' := []) [] rfl ?_
                exact jq_done (hXt1 (.inr (.inl t1.2.2)))
          · refine jq_sub Γ (L' := []) [] rfl ?_
            exact jq_done (hXt1 (.inl t1.2.2))
  · refine jq_elim ?_ ?_
    · intro e20
      refine jq_iconst Γ dX10_changeTrialBy_54 rfl ?_
      exact jq_zreturn Γ (Or.inl rfl) dX10_changeTrialBy_55 (hK0 _)
    · refine jq_elim ?_ ?_
      · intro e21
        refine jq_iconst Γ dX10_changeTrialBy_76 rfl ?_
        exact jq_zreturn Γ (Or.inl rfl) dX10_changeTrialBy_77 (hK0 _)
      · intro e22
        refine jq_iconst Γ dX10_changeTrialBy_109 rfl ?_
        exact jq_zreturn Γ (Or.inr rfl) dX10_changeTrialBy_110 (hK0 _)


theorem dX10_seatBy_0 : decode cX10_seatBy 0 = .ok (.aload_n 0, 1) := by decide +kernel
theorem dX10_seatBy_1 : decode cX10_seatBy 1 = .ok (.iload_n 1, 1) := by decide +kernel
theorem dX10_seatBy_2 : decode cX10_seatBy 2 = .ok (.invokevirtual 89, 3) := by decide +kernel
theorem dX10_seatBy_5 : decode cX10_seatBy 5 = .ok (.astore_n 2, 1) := by decide +kernel
theorem dX10_seatBy_6 : decode cX10_seatBy 6 = .ok (.aload_n 2, 1) := by decide +kernel
theorem dX10_seatBy_7 : decode cX10_seatBy 7 = .ok (.iconst 0, 1) := by decide +kernel
theorem dX10_seatBy_8 : decode cX10_seatBy 8 = .ok (.aload_n 0, 1) := by decide +kernel
theorem dX10_seatBy_9 : decode cX10_seatBy 9 = .ok (.getfield 25, 3) := by decide +kernel
theorem dX10_seatBy_12 : decode cX10_seatBy 12 = .ok (.getfield 188, 3) := by decide +kernel
theorem dX10_seatBy_15 : decode cX10_seatBy 15 = .ok (.invokestatic 109, 3) := by decide +kernel
theorem dX10_seatBy_18 : decode cX10_seatBy 18 = .ok (.istore_n 3, 1) := by decide +kernel
theorem dX10_seatBy_19 : decode cX10_seatBy 19 = .ok (.aload_n 2, 1) := by decide +kernel
theorem dX10_seatBy_20 : decode cX10_seatBy 20 = .ok (.ifnull 7, 3) := by decide +kernel
theorem dX10_seatBy_23 : decode cX10_seatBy 23 = .ok (.iload_n 3, 1) := by decide +kernel
theorem dX10_seatBy_24 : decode cX10_seatBy 24 = .ok (.ifCond .eq 9, 3) := by decide +kernel
theorem dX10_seatBy_27 : decode cX10_seatBy 27 = .ok (.aload_n 0, 1) := by decide +kernel
theorem dX10_seatBy_28 : decode cX10_seatBy 28 = .ok (.iload_n 3, 1) := by decide +kernel
theorem dX10_seatBy_29 : decode cX10_seatBy 29 = .ok (.invokevirtual 117, 3) := by decide +kernel
theorem dX10_seatBy_32 : decode cX10_seatBy 32 = .ok (.ireturn, 1) := by decide +kernel
theorem dX10_seatBy_33 : decode cX10_seatBy 33 = .ok (.aload_n 0, 1) := by decide +kernel
theorem dX10_seatBy_34 : decode cX10_seatBy 34 = .ok (.invokevirtual 374, 3) := by decide +kernel
theorem dX10_seatBy_37 : decode cX10_seatBy 37 = .ok (.aload_n 0, 1) := by decide +kernel
theorem dX10_seatBy_38 : decode cX10_seatBy 38 = .ok (.aload_n 2, 1) := by decide +kernel
theorem dX10_seatBy_39 : decode cX10_seatBy 39 = .ok (.invokevirtual 425, 3) := by decide +kernel
theorem dX10_seatBy_42 : decode cX10_seatBy 42 = .ok (.ifCond .ne 9, 3) := by decide +kernel
theorem dX10_seatBy_45 : decode cX10_seatBy 45 = .ok (.aload_n 0, 1) := by decide +kernel
theorem dX10_seatBy_46 : decode cX10_seatBy 46 = .ok (.iconst 5, 1) := by decide +kernel
theorem dX10_seatBy_47 : decode cX10_seatBy 47 = .ok (.invokevirtual 117, 3) := by decide +kernel
theorem dX10_seatBy_50 : decode cX10_seatBy 50 = .ok (.ireturn, 1) := by decide +kernel
theorem dX10_seatBy_51 : decode cX10_seatBy 51 = .ok (.aload_n 0, 1) := by decide +kernel
theorem dX10_seatBy_52 : decode cX10_seatBy 52 = .ok (.getfield 68, 3) := by decide +kernel
theorem dX10_seatBy_55 : decode cX10_seatBy 55 = .ok (.iconst 0, 1) := by decide +kernel
theorem dX10_seatBy_56 : decode cX10_seatBy 56 = .ok (.aload_n 0, 1) := by decide +kernel
theorem dX10_seatBy_57 : decode cX10_seatBy 57 = .ok (.getfield 25, 3) := by decide +kernel
theorem dX10_seatBy_60 : decode cX10_seatBy 60 = .ok (.getfield 200, 3) := by decide +kernel
theorem dX10_seatBy_63 : decode cX10_seatBy 63 = .ok (.iconst 0, 1) := by decide +kernel
theorem dX10_seatBy_64 : decode cX10_seatBy 64 = .ok (.iconst 5, 1) := by decide +kernel
theorem dX10_seatBy_65 : decode cX10_seatBy 65 = .ok (.invokestatic 139, 3) := by decide +kernel
theorem dX10_seatBy_68 : decode cX10_seatBy 68 = .ok (.aload_n 0, 1) := by decide +kernel
theorem dX10_seatBy_69 : decode cX10_seatBy 69 = .ok (.aload_n 0, 1) := by decide +kernel
theorem dX10_seatBy_70 : decode cX10_seatBy 70 = .ok (.getfield 25, 3) := by decide +kernel
theorem dX10_seatBy_73 : decode cX10_seatBy 73 = .ok (.aload_n 0, 1) := by decide +kernel
theorem dX10_seatBy_74 : decode cX10_seatBy 74 = .ok (.getfield 25, 3) := by decide +kernel
theorem dX10_seatBy_77 : decode cX10_seatBy 77 = .ok (.getfield 200, 3) := by decide +kernel
theorem dX10_seatBy_80 : decode cX10_seatBy 80 = .ok (.invokevirtual 207, 3) := by decide +kernel
theorem dX10_seatBy_83 : decode cX10_seatBy 83 = .ok (.invokevirtual 167, 3) := by decide +kernel
theorem dX10_seatBy_86 : decode cX10_seatBy 86 = .ok (.ireturn, 1) := by decide +kernel
set_option maxHeartbeats 4000000 in
set_option maxRecDepth 100000 in
theorem ctX10_seatBy {p1 : Int} {σ : jq_M} {res : Int} {σ' : jq_M}  (h : X10_seatBy p1 σ = some (res, σ')) : jq_MC jq_zX yX10_seatBy cX10_seatBy 4 (some .int) 5 133 [jR 0, jI p1] σ (some (jI res)) σ' := by
  refine jq_met (own := RX10) (L0 := [(0, jR 0), (1, jI p1)]) (by decide) rfl rfl rfl ?_
  intro X Γ hnl hlY hRT
  refine jq_use2 (P := fun r => jq_RT jq_zX X (some .int) (some (jI r.1)) r.2) ?_ h hRT
  intro K0 hK0
  unfold X10_seatBy
  have hj27_0 : ∀ (j8 : Int) (s9 : jq_M), jq_J (X10_seatBy_j27 j8 s9) K0 (jq_V jq_zX X (jq_zN jq_zX) s9 27 [(0, jR 0), (3, jI j8)] []) := by
    intro j8 s9
    unfold X10_seatBy_j27
    refine jq_aload_n Γ dX10_seatBy_27 rfl 0 rfl (jq_at_0 at_X_0) ?_
    refine jq_iload_n Γ dX10_seatBy_28 rfl 1 rfl ?_
    refine jq_cwI (jq_virt (avs := [jI j8]) (st := []) Γ hlY rfl ml_RX10_117 rfl at_X_0 rfl rfl rfl rfl rfl dX10_seatBy_29) (fun r σ' h => ctX10_refuse h) (fun v10 s11 => ?_)
    exact jq_ireturn Γ dX10_seatBy_32 (hK0 _)
  refine jq_aload_n Γ dX10_seatBy_0 rfl 0 rfl (jq_at_0 at_X_0) ?_
  refine jq_iload_n Γ dX10_seatBy_1 rfl 1 rfl ?_
  refine jq_cpR (jq_virt (avs := [jI p1]) (st := []) Γ hlY rfl ml_RX10_89 rfl at_X_0 rfl rfl rfl rfl rfl dX10_seatBy_2) (fun r h => ctX10_trayAt h) (fun v1 => ?_)
  refine jq_trnN (fun v2 hz3 => ?_)
  refine jq_astoreQ_n (L' := [(2, jR v2), (0, jR 0), (1, jI p1)]) Γ dX10_seatBy_5 rfl hnl rfl rfl ?_
  refine jq_aloadQ_n Γ dX10_seatBy_6 rfl 0 rfl ?_
  refine jq_iconst Γ dX10_seatBy_7 rfl ?_
  refine jq_aload_n Γ dX10_seatBy_8 rfl 1 rfl (jq_at_0 at_X_0) ?_
  refine jq_getC (C := jq_cm2) Γ hlY at_X_0 fl_RX10_25 rfl rfl ly_now dX10_seatBy_9 (fun c4 hc5q => ?_)
  have hc5 := jq_cm2_com hc5q
  refine jq_getI (J := 2) Γ (at_com hc5) fl_RX10_188 rfl rfl dX10_seatBy_12 ?_
  refine jq_cpI (jq_stat (avs := [jR v2, jI 0, jI (σ c4 2)]) (st := []) Γ hlY rfl ml_RX10_109 rfl rfl rfl rfl rfl dX10_seatBy_15) (fun r h => ctX10_whyNoNumbers hz3 h) (fun v6 => ?_)
  refine jq_istore_n (L' := [(3, jI v6), (2, jR v2), (0, jR 0), (1, jI p1)]) Γ dX10_seatBy_18 rfl hnl rfl rfl ?_
  refine jq_aloadQ_n Γ dX10_seatBy_19 rfl 1 rfl ?_
  refine jq_ifnull (tgt := 27) Γ (jq_trn_0 hz3) dX10_seatBy_20 rfl (fun _ => ?_) (fun hq7 => ?_)
  · refine jq_sub Γ (L' := [(0, jR 0), (3, jI v6)]) [2, 0] rfl ?_
    exact hj27_0 v6 σ
  · refine jq_iload_n Γ dX10_seatBy_23 rfl 0 rfl ?_
    refine jq_if_eq (tgt := 33) Γ dX10_seatBy_24 rfl ?_ ?_
    · refine jq_aload_n Γ dX10_seatBy_33 rfl 2 rfl (jq_at_0 at_X_0) ?_
      refine jq_cwV (jq_virt (avs := []) (st := []) Γ hlY rfl ml_RX10_374 rfl at_X_0 rfl rfl rfl rfl rfl dX10_seatBy_34) (fun σ' h => ctX10_layTrial h) (fun s12 => ?_)
      refine jq_aload_n Γ dX10_seatBy_37 rfl 2 rfl (jq_at_0 at_X_0) ?_
      refine jq_aload_n Γ dX10_seatBy_38 rfl 1 rfl (jq_at_0 (at_trp (hz3.resolve_left hq7))) ?_
      refine jq_cwZ (jq_virt (avs := [jR v2]) (st := []) Γ hlY rfl ml_RX10_425 rfl at_X_0 rfl rfl rfl rfl rfl dX10_seatBy_39) rfl (fun r σ' h => ctX10_changeTrialBy (hz3.resolve_left hq7) h) (fun v13 s14 hz15 => ?_)
      refine jq_if_ne (tgt := 51) Γ dX10_seatBy_42 rfl ?_ ?_
      · refine jq_aload_n Γ dX10_seatBy_51 rfl 2 rfl (jq_at_0 at_X_0) ?_
        refine jq_getR (v := 63) Γ hlY at_X_0 fl_RX10_68 rfl rfl ly_X10_trial dX10_seatBy_52 ?_
        refine jq_iconst Γ dX10_seatBy_55 rfl ?_
        refine jq_aload_n Γ dX10_seatBy_56 rfl 2 rfl (jq_at_0 at_X_0) ?_
        refine jq_getC (C := jq_cm2) Γ hlY at_X_0 fl_RX10_25 rfl rfl ly_now dX10_seatBy_57 (fun c16 hc17q => ?_)
        have hc17 := jq_cm2_com hc17q
        refine jq_getR (v := (c16 + 3)) Γ hlY (at_com hc17) fl_RX10_200 rfl rfl (ly_X1_seats hc17) dX10_seatBy_60 ?_
        refine jq_iconst Γ dX10_seatBy_63 rfl ?_
        refine jq_iconst Γ dX10_seatBy_64 rfl ?_
        refine jq_copyi Γ at_X_63 (at_com_3 hc17) rfl rfl rfl aw_RX10_139 awn aws awi rfl rfl dX10_seatBy_65 (fun s18 => ?_)
        refine jq_aload_n Γ dX10_seatBy_68 rfl 2 rfl (jq_at_0 at_X_0) ?_
        refine jq_aload_n Γ dX10_seatBy_69 rfl 2 rfl (jq_at_0 at_X_0) ?_
        refine jq_getC (C := jq_cm2) Γ hlY at_X_0 fl_RX10_25 rfl rfl ly_now dX10_seatBy_70 (fun c19 hc20q => ?_)
        have hc20 := jq_cm2_com hc20q
        refine jq_aload_n Γ dX10_seatBy_73 rfl 2 rfl (jq_at_0 at_X_0) ?_
        refine jq_getC (C := jq_cm2) Γ hlY at_X_0 fl_RX10_25 rfl rfl ly_now dX10_seatBy_74 (fun c21 hc22q => ?_)
        have hc22 := jq_cm2_com hc22q
        refine jq_getR (v := (c21 + 3)) Γ hlY (at_com hc22) fl_RX10_200 rfl rfl (ly_X1_seats hc22) dX10_seatBy_77 ?_
        refine jq_cwI (jq_virt (avs := [jR (c21 + 3)]) (st := [jR 0]) Γ hlY rfl ml_RX10_207 rfl (at_com hc20) rfl rfl rfl rfl rfl dX10_seatBy_80) (fun r σ' h => ctX1_signersOf hc20 (row_com hc22) h) (fun v23 s24 => ?_)
        refine jq_cwI (jq_virt (avs := [jI v23]) (st := []) Γ hlY rfl ml_RX10_167 rfl at_X_0 rfl rfl rfl rfl rfl dX10_seatBy_83) (fun r σ' h => ctX10_answer h) (fun v25 s26 => ?_)
        exact jq_ireturn Γ dX10_seatBy_86 (hK0 _)
      · refine jq_aload_n Γ dX10_seatBy_45 rfl 2 rfl (jq_at_0 at_X_0) ?_
        refine jq_iconst Γ dX10_seatBy_46 rfl ?_
        refine jq_cwI (jq_virt (avs := [jI 5]) (st := []) Γ hlY rfl ml_RX10_117 rfl at_X_0 rfl rfl rfl rfl rfl dX10_seatBy_47) (fun r σ' h => ctX10_refuse h) (fun v27 s28 => ?_)
        exact jq_ireturn Γ dX10_seatBy_50 (hK0 _)
    · refine jq_sub Γ (L' := [(0, jR 0), (3, jI v6)]) [2, 0] rfl ?_
      exact hj27_0 v6 σ


theorem dX7_at_0 : decode cX7_at 0 = .ok (.iload_n 1, 1) := by decide +kernel
theorem dX7_at_1 : decode cX7_at 1 = .ok (.ifCond .lt 15, 3) := by decide +kernel
theorem dX7_at_4 : decode cX7_at 4 = .ok (.iload_n 1, 1) := by decide +kernel
theorem dX7_at_5 : decode cX7_at 5 = .ok (.aload_n 0, 1) := by decide +kernel
theorem dX7_at_6 : decode cX7_at 6 = .ok (.arraylength, 1) := by decide +kernel
theorem dX7_at_7 : decode cX7_at 7 = .ok (.if_icmp .ge 9, 3) := by decide +kernel
theorem dX7_at_10 : decode cX7_at 10 = .ok (.aload_n 0, 1) := by decide +kernel
theorem dX7_at_11 : decode cX7_at 11 = .ok (.iload_n 1, 1) := by decide +kernel
theorem dX7_at_12 : decode cX7_at 12 = .ok (.iaload, 1) := by decide +kernel
theorem dX7_at_13 : decode cX7_at 13 = .ok (.goto 4, 3) := by decide +kernel
theorem dX7_at_16 : decode cX7_at 16 = .ok (.iconst (-1), 1) := by decide +kernel
theorem dX7_at_17 : decode cX7_at 17 = .ok (.ireturn, 1) := by decide +kernel
set_option maxHeartbeats 4000000 in
set_option maxRecDepth 100000 in
theorem ctX7_at {p0 : Int} {p1 : Int} {σ : jq_M} {res : Int} (hp0 : jq_r60 p0) (h : X7_at p0 p1 σ = some res) : jq_MC jq_zX yX7_at cX7_at 2 (some .int) 1 40 [jR p0, jI p1] σ (some (jI res)) σ := by
  refine jq_met (own := RX7) (L0 := [(0, jR p0), (1, jI p1)]) (by decide) rfl rfl rfl ?_
  intro X Γ hnl hlY hRT
  refine jq_use2 (P := fun r => jq_RT jq_zX X (some .int) (some (jI r)) σ) ?_ h hRT
  intro K0 hK0
  unfold X7_at
  refine jq_iload_n Γ dX7_at_0 rfl 1 rfl ?_
  refine jq_if_lt (tgt := 16) Γ dX7_at_1 rfl ?_ ?_
  · refine jq_iconst Γ dX7_at_16 rfl ?_
    exact jq_ireturn Γ dX7_at_17 (hK0 _)
  · refine jq_iload_n Γ dX7_at_4 rfl 1 rfl ?_
    refine jq_aload_n Γ dX7_at_5 rfl 0 rfl (jq_at_0 (at_r60 hp0)) ?_
    refine jq_alen Γ (at_r60 hp0) rfl rfl rfl dX7_at_6 ?_
    refine jq_icmp_ge (tgt := 16) Γ dX7_at_7 rfl ?_ ?_
    · refine jq_iconst Γ dX7_at_16 rfl ?_
      exact jq_ireturn Γ dX7_at_17 (hK0 _)
    · refine jq_aload_n Γ dX7_at_10 rfl 0 rfl (jq_at_0 (at_r60 hp0)) ?_
      refine jq_iload_n Γ dX7_at_11 rfl 1 rfl ?_
      refine jq_iald Γ (at_r60 hp0) rfl dX7_at_12 (fun v1 => ?_)
      refine jq_goto Γ (tgt := 17) dX7_at_13 rfl ?_
      exact jq_ireturn Γ dX7_at_17 (hK0 _)


theorem dX7_wordAt_0 : decode cX7_wordAt 0 = .ok (.aload_n 0, 1) := by decide +kernel
theorem dX7_wordAt_1 : decode cX7_wordAt 1 = .ok (.getfield 9, 3) := by decide +kernel
theorem dX7_wordAt_4 : decode cX7_wordAt 4 = .ok (.iload_n 1, 1) := by decide +kernel
theorem dX7_wordAt_5 : decode cX7_wordAt 5 = .ok (.invokestatic 47, 3) := by decide +kernel
theorem dX7_wordAt_8 : decode cX7_wordAt 8 = .ok (.ireturn, 1) := by decide +kernel
set_option maxHeartbeats 4000000 in
set_option maxRecDepth 100000 in
theorem ctX7_wordAt {o : Int} {p1 : Int} {σ : jq_M} {res : Int} (ho : jq_stp o) (h : X7_wordAt o p1 σ = some res) : jq_MC jq_zX yX7_wordAt cX7_wordAt 2 (some .int) 2 61 [jR o, jI p1] σ (some (jI res)) σ := by
  refine jq_met (own := RX7) (L0 := [(0, jR o), (1, jI p1)]) (by decide) rfl rfl rfl ?_
  intro X Γ hnl hlY hRT
  refine jq_use2 (P := fun r => jq_RT jq_zX X (some .int) (some (jI r)) σ) ?_ h hRT
  intro K0 hK0
  unfold X7_wordAt
  refine jq_aload_n Γ dX7_wordAt_0 rfl 0 rfl (jq_at_0 (at_stp ho)) ?_
  refine jq_getR (v := (o + 1)) Γ hlY (at_stp ho) fl_RX7_9 rfl rfl (ly_X7_words ho) dX7_wordAt_1 ?_
  refine jq_iload_n Γ dX7_wordAt_4 rfl 1 rfl ?_
  refine jq_cpI (jq_stat (avs := [jR (o + 1), jI p1]) (st := []) Γ hlY rfl ml_RX7_47 rfl rfl rfl rfl rfl dX7_wordAt_5) (fun r h => ctX7_at (r60_stp_1 ho) h) (fun v1 => ?_)
  exact jq_ireturn Γ dX7_wordAt_8 (hK0 _)


theorem dX7_mateAt_0 : decode cX7_mateAt 0 = .ok (.aload_n 0, 1) := by decide +kernel
theorem dX7_mateAt_1 : decode cX7_mateAt 1 = .ok (.getfield 21, 3) := by decide +kernel
theorem dX7_mateAt_4 : decode cX7_mateAt 4 = .ok (.iload_n 1, 1) := by decide +kernel
theorem dX7_mateAt_5 : decode cX7_mateAt 5 = .ok (.invokestatic 47, 3) := by decide +kernel
theorem dX7_mateAt_8 : decode cX7_mateAt 8 = .ok (.ireturn, 1) := by decide +kernel
set_option maxHeartbeats 4000000 in
set_option maxRecDepth 100000 in
theorem ctX7_mateAt {o : Int} {p1 : Int} {σ : jq_M} {res : Int} (ho : jq_stp o) (h : X7_mateAt o p1 σ = some res) : jq_MC jq_zX yX7_mateAt cX7_mateAt 2 (some .int) 2 61 [jR o, jI p1] σ (some (jI res)) σ := by
  refine jq_met (own := RX7) (L0 := [(0, jR o), (1, jI p1)]) (by decide) rfl rfl rfl ?_
  intro X Γ hnl hlY hRT
  refine jq_use2 (P := fun r => jq_RT jq_zX X (some .int) (some (jI r)) σ) ?_ h hRT
  intro K0 hK0
  unfold X7_mateAt
  refine jq_aload_n Γ dX7_mateAt_0 rfl 0 rfl (jq_at_0 (at_stp ho)) ?_
  refine jq_getR (v := (o + 4)) Γ hlY (at_stp ho) fl_RX7_21 rfl rfl (ly_X7_mates ho) dX7_mateAt_1 ?_
  refine jq_iload_n Γ dX7_mateAt_4 rfl 1 rfl ?_
  refine jq_cpI (jq_stat (avs := [jR (o + 4), jI p1]) (st := []) Γ hlY rfl ml_RX7_47 rfl rfl rfl rfl rfl dX7_mateAt_5) (fun r h => ctX7_at (r60_stp_4 ho) h) (fun v1 => ?_)
  exact jq_ireturn Γ dX7_mateAt_8 (hK0 _)


theorem dX3_behindEnd_0 : decode cX3_behindEnd 0 = .ok (.aload_n 1, 1) := by decide +kernel
theorem dX3_behindEnd_1 : decode cX3_behindEnd 1 = .ok (.iload_n 2, 1) := by decide +kernel
theorem dX3_behindEnd_2 : decode cX3_behindEnd 2 = .ok (.invokevirtual 66, 3) := by decide +kernel
theorem dX3_behindEnd_5 : decode cX3_behindEnd 5 = .ok (.istore_n 3, 1) := by decide +kernel
theorem dX3_behindEnd_6 : decode cX3_behindEnd 6 = .ok (.aload_n 1, 1) := by decide +kernel
theorem dX3_behindEnd_7 : decode cX3_behindEnd 7 = .ok (.iload_n 3, 1) := by decide +kernel
theorem dX3_behindEnd_8 : decode cX3_behindEnd 8 = .ok (.invokevirtual 54, 3) := by decide +kernel
theorem dX3_behindEnd_11 : decode cX3_behindEnd 11 = .ok (.bipush 25, 2) := by decide +kernel
theorem dX3_behindEnd_13 : decode cX3_behindEnd 13 = .ok (.if_icmp .ne 16, 3) := by decide +kernel
theorem dX3_behindEnd_16 : decode cX3_behindEnd 16 = .ok (.iload_n 3, 1) := by decide +kernel
theorem dX3_behindEnd_17 : decode cX3_behindEnd 17 = .ok (.ifCond .lt 12, 3) := by decide +kernel
theorem dX3_behindEnd_20 : decode cX3_behindEnd 20 = .ok (.iload_n 3, 1) := by decide +kernel
theorem dX3_behindEnd_21 : decode cX3_behindEnd 21 = .ok (.aload_n 0, 1) := by decide +kernel
theorem dX3_behindEnd_22 : decode cX3_behindEnd 22 = .ok (.getfield 9, 3) := by decide +kernel
theorem dX3_behindEnd_25 : decode cX3_behindEnd 25 = .ok (.arraylength, 1) := by decide +kernel
theorem dX3_behindEnd_26 : decode cX3_behindEnd 26 = .ok (.if_icmp .lt 7, 3) := by decide +kernel
theorem dX3_behindEnd_29 : decode cX3_behindEnd 29 = .ok (.iload_n 2, 1) := by decide +kernel
theorem dX3_behindEnd_30 : decode cX3_behindEnd 30 = .ok (.iconst 1, 1) := by decide +kernel
theorem dX3_behindEnd_31 : decode cX3_behindEnd 31 = .ok (.iadd, 1) := by decide +kernel
theorem dX3_behindEnd_32 : decode cX3_behindEnd 32 = .ok (.ireturn, 1) := by decide +kernel
theorem dX3_behindEnd_33 : decode cX3_behindEnd 33 = .ok (.aload_n 0, 1) := by decide +kernel
theorem dX3_behindEnd_34 : decode cX3_behindEnd 34 = .ok (.getfield 9, 3) := by decide +kernel
theorem dX3_behindEnd_37 : decode cX3_behindEnd 37 = .ok (.iload_n 3, 1) := by decide +kernel
theorem dX3_behindEnd_38 : decode cX3_behindEnd 38 = .ok (.dup2, 1) := by decide +kernel
theorem dX3_behindEnd_39 : decode cX3_behindEnd 39 = .ok (.iaload, 1) := by decide +kernel
theorem dX3_behindEnd_40 : decode cX3_behindEnd 40 = .ok (.iconst 1, 1) := by decide +kernel
theorem dX3_behindEnd_41 : decode cX3_behindEnd 41 = .ok (.isub, 1) := by decide +kernel
theorem dX3_behindEnd_42 : decode cX3_behindEnd 42 = .ok (.iastore, 1) := by decide +kernel
theorem dX3_behindEnd_43 : decode cX3_behindEnd 43 = .ok (.aload_n 0, 1) := by decide +kernel
theorem dX3_behindEnd_44 : decode cX3_behindEnd 44 = .ok (.getfield 9, 3) := by decide +kernel
theorem dX3_behindEnd_47 : decode cX3_behindEnd 47 = .ok (.iload_n 3, 1) := by decide +kernel
theorem dX3_behindEnd_48 : decode cX3_behindEnd 48 = .ok (.iaload, 1) := by decide +kernel
theorem dX3_behindEnd_49 : decode cX3_behindEnd 49 = .ok (.ifCond .le 9, 3) := by decide +kernel
theorem dX3_behindEnd_52 : decode cX3_behindEnd 52 = .ok (.iload_n 3, 1) := by decide +kernel
theorem dX3_behindEnd_53 : decode cX3_behindEnd 53 = .ok (.iconst 1, 1) := by decide +kernel
theorem dX3_behindEnd_54 : decode cX3_behindEnd 54 = .ok (.iadd, 1) := by decide +kernel
theorem dX3_behindEnd_55 : decode cX3_behindEnd 55 = .ok (.goto 6, 3) := by decide +kernel
theorem dX3_behindEnd_58 : decode cX3_behindEnd 58 = .ok (.iload_n 2, 1) := by decide +kernel
theorem dX3_behindEnd_59 : decode cX3_behindEnd 59 = .ok (.iconst 1, 1) := by decide +kernel
theorem dX3_behindEnd_60 : decode cX3_behindEnd 60 = .ok (.iadd, 1) := by decide +kernel
theorem dX3_behindEnd_61 : decode cX3_behindEnd 61 = .ok (.ireturn, 1) := by decide +kernel
set_option maxHeartbeats 4000000 in
set_option maxRecDepth 100000 in
theorem ctX3_behindEnd {p1 : Int} {p2 : Int} {σ : jq_M} {res : Int} {σ' : jq_M} (hp1 : jq_stp p1) (h : X3_behindEnd p1 p2 σ = some (res, σ')) : jq_MC jq_zX yX3_behindEnd cX3_behindEnd 4 (some .int) 3 82 [jR 60, jR p1, jI p2] σ (some (jI res)) σ' := by
  refine jq_met (own := RX3) (L0 := [(0, jR 60), (1, jR p1), (2, jI p2)]) (by decide) rfl rfl rfl ?_
  intro X Γ hnl hlY hRT
  refine jq_use2 (P := fun r => jq_RT jq_zX X (some .int) (some (jI r.1)) r.2) ?_ h hRT
  intro K0 hK0
  unfold X3_behindEnd
  refine jq_aload_n Γ dX3_behindEnd_0 rfl 1 rfl (jq_at_0 (at_stp hp1)) ?_
  refine jq_iload_n Γ dX3_behindEnd_1 rfl 2 rfl ?_
  refine jq_cpI (jq_virt (avs := [jI p2]) (st := []) Γ hlY rfl ml_RX3_66 rfl (at_stp hp1) rfl rfl rfl rfl rfl dX3_behindEnd_2) (fun r h => ctX7_mateAt hp1 h) (fun v1 => ?_)
  refine jq_istore_n (L' := [(3, jI v1), (0, jR 60), (1, jR p1), (2, jI p2)]) Γ dX3_behindEnd_5 rfl hnl rfl rfl ?_
  refine jq_aload_n Γ dX3_behindEnd_6 rfl 2 rfl (jq_at_0 (at_stp hp1)) ?_
  refine jq_iload_n Γ dX3_behindEnd_7 rfl 0 rfl ?_
  refine jq_cpI (jq_virt (avs := [jI v1]) (st := []) Γ hlY rfl ml_RX3_54 rfl (at_stp hp1) rfl rfl rfl rfl rfl dX3_behindEnd_8) (fun r h => ctX7_wordAt hp1 h) (fun v2 => ?_)
  refine jq_bipush Γ dX3_behindEnd_11 rfl ?_
  refine jq_icmp_ne (tgt := 29) Γ dX3_behindEnd_13 rfl ?_ ?_
  · refine jq_iload_n Γ dX3_behindEnd_29 rfl 3 rfl ?_
    refine jq_iconst Γ dX3_behindEnd_30 rfl ?_
    refine jq_iadd Γ dX3_behindEnd_31 ?_
    exact jq_ireturn Γ dX3_behindEnd_32 (hK0 _)
  · refine jq_iload_n Γ dX3_behindEnd_16 rfl 0 rfl ?_
    refine jq_if_lt (tgt := 29) Γ dX3_behindEnd_17 rfl ?_ ?_
    · refine jq_iload_n Γ dX3_behindEnd_29 rfl 3 rfl ?_
      refine jq_iconst Γ dX3_behindEnd_30 rfl ?_
      refine jq_iadd Γ dX3_behindEnd_31 ?_
      exact jq_ireturn Γ dX3_behindEnd_32 (hK0 _)
    · refine jq_iload_n Γ dX3_behindEnd_20 rfl 0 rfl ?_
      refine jq_aload_n Γ dX3_behindEnd_21 rfl 1 rfl (jq_at_0 at_X_60) ?_
      refine jq_getR (v := 61) Γ hlY at_X_60 fl_RX3_9 rfl rfl ly_X3_left dX3_behindEnd_22 ?_
      refine jq_alen Γ at_X_61 rfl rfl rfl dX3_behindEnd_25 ?_
      refine jq_icmp_lt (tgt := 33) Γ dX3_behindEnd_26 rfl ?_ ?_
      · refine jq_aload_n Γ dX3_behindEnd_33 rfl 1 rfl (jq_at_0 at_X_60) ?_
        refine jq_getR (v := 61) Γ hlY at_X_60 fl_RX3_9 rfl rfl ly_X3_left dX3_behindEnd_34 ?_
        refine jq_iload_n Γ dX3_behindEnd_37 rfl 0 rfl ?_
        refine jq_dup2 Γ dX3_behindEnd_38 rfl rfl ?_
        refine jq_iald Γ at_X_61 rfl dX3_behindEnd_39 (fun v3 => ?_)
        refine jq_iconst Γ dX3_behindEnd_40 rfl ?_
        refine jq_isub Γ dX3_behindEnd_41 ?_
        refine jq_iast Γ at_X_61 rfl dX3_behindEnd_42 (fun s4 => ?_)
        refine jq_aload_n Γ dX3_behindEnd_43 rfl 1 rfl (jq_at_0 at_X_60) ?_
        refine jq_getR (v := 61) Γ hlY at_X_60 fl_RX3_9 rfl rfl ly_X3_left dX3_behindEnd_44 ?_
        refine jq_iload_n Γ dX3_behindEnd_47 rfl 0 rfl ?_
        refine jq_iald Γ at_X_61 rfl dX3_behindEnd_48 (fun v5 => ?_)
        refine jq_if_le (tgt := 58) Γ dX3_behindEnd_49 rfl ?_ ?_
        · refine jq_iload_n Γ dX3_behindEnd_58 rfl 3 rfl ?_
          refine jq_iconst Γ dX3_behindEnd_59 rfl ?_
          refine jq_iadd Γ dX3_behindEnd_60 ?_
          exact jq_ireturn Γ dX3_behindEnd_61 (hK0 _)
        · refine jq_iload_n Γ dX3_behindEnd_52 rfl 0 rfl ?_
          refine jq_iconst Γ dX3_behindEnd_53 rfl ?_
          refine jq_iadd Γ dX3_behindEnd_54 ?_
          refine jq_goto Γ (tgt := 61) dX3_behindEnd_55 rfl ?_
          exact jq_ireturn Γ dX3_behindEnd_61 (hK0 _)
      · refine jq_iload_n Γ dX3_behindEnd_29 rfl 3 rfl ?_
        refine jq_iconst Γ dX3_behindEnd_30 rfl ?_
        refine jq_iadd Γ dX3_behindEnd_31 ?_
        exact jq_ireturn Γ dX3_behindEnd_32 (hK0 _)


theorem dX7_secondAt_0 : decode cX7_secondAt 0 = .ok (.aload_n 0, 1) := by decide +kernel
theorem dX7_secondAt_1 : decode cX7_secondAt 1 = .ok (.getfield 18, 3) := by decide +kernel
theorem dX7_secondAt_4 : decode cX7_secondAt 4 = .ok (.iload_n 1, 1) := by decide +kernel
theorem dX7_secondAt_5 : decode cX7_secondAt 5 = .ok (.invokestatic 47, 3) := by decide +kernel
theorem dX7_secondAt_8 : decode cX7_secondAt 8 = .ok (.ireturn, 1) := by decide +kernel
set_option maxHeartbeats 4000000 in
set_option maxRecDepth 100000 in
theorem ctX7_secondAt {o : Int} {p1 : Int} {σ : jq_M} {res : Int} (ho : jq_stp o) (h : X7_secondAt o p1 σ = some res) : jq_MC jq_zX yX7_secondAt cX7_secondAt 2 (some .int) 2 61 [jR o, jI p1] σ (some (jI res)) σ := by
  refine jq_met (own := RX7) (L0 := [(0, jR o), (1, jI p1)]) (by decide) rfl rfl rfl ?_
  intro X Γ hnl hlY hRT
  refine jq_use2 (P := fun r => jq_RT jq_zX X (some .int) (some (jI r)) σ) ?_ h hRT
  intro K0 hK0
  unfold X7_secondAt
  refine jq_aload_n Γ dX7_secondAt_0 rfl 0 rfl (jq_at_0 (at_stp ho)) ?_
  refine jq_getR (v := (o + 3)) Γ hlY (at_stp ho) fl_RX7_18 rfl rfl (ly_X7_second ho) dX7_secondAt_1 ?_
  refine jq_iload_n Γ dX7_secondAt_4 rfl 1 rfl ?_
  refine jq_cpI (jq_stat (avs := [jR (o + 3), jI p1]) (st := []) Γ hlY rfl ml_RX7_47 rfl rfl rfl rfl rfl dX7_secondAt_5) (fun r h => ctX7_at (r60_stp_3 ho) h) (fun v1 => ?_)
  exact jq_ireturn Γ dX7_secondAt_8 (hK0 _)


theorem dX7_firstAt_0 : decode cX7_firstAt 0 = .ok (.aload_n 0, 1) := by decide +kernel
theorem dX7_firstAt_1 : decode cX7_firstAt 1 = .ok (.getfield 15, 3) := by decide +kernel
theorem dX7_firstAt_4 : decode cX7_firstAt 4 = .ok (.iload_n 1, 1) := by decide +kernel
theorem dX7_firstAt_5 : decode cX7_firstAt 5 = .ok (.invokestatic 47, 3) := by decide +kernel
theorem dX7_firstAt_8 : decode cX7_firstAt 8 = .ok (.ireturn, 1) := by decide +kernel
set_option maxHeartbeats 4000000 in
set_option maxRecDepth 100000 in
theorem ctX7_firstAt {o : Int} {p1 : Int} {σ : jq_M} {res : Int} (ho : jq_stp o) (h : X7_firstAt o p1 σ = some res) : jq_MC jq_zX yX7_firstAt cX7_firstAt 2 (some .int) 2 61 [jR o, jI p1] σ (some (jI res)) σ := by
  refine jq_met (own := RX7) (L0 := [(0, jR o), (1, jI p1)]) (by decide) rfl rfl rfl ?_
  intro X Γ hnl hlY hRT
  refine jq_use2 (P := fun r => jq_RT jq_zX X (some .int) (some (jI r)) σ) ?_ h hRT
  intro K0 hK0
  unfold X7_firstAt
  refine jq_aload_n Γ dX7_firstAt_0 rfl 0 rfl (jq_at_0 (at_stp ho)) ?_
  refine jq_getR (v := (o + 2)) Γ hlY (at_stp ho) fl_RX7_15 rfl rfl (ly_X7_first ho) dX7_firstAt_1 ?_
  refine jq_iload_n Γ dX7_firstAt_4 rfl 1 rfl ?_
  refine jq_cpI (jq_stat (avs := [jR (o + 2), jI p1]) (st := []) Γ hlY rfl ml_RX7_47 rfl rfl rfl rfl rfl dX7_firstAt_5) (fun r h => ctX7_at (r60_stp_2 ho) h) (fun v1 => ?_)
  exact jq_ireturn Γ dX7_firstAt_8 (hK0 _)


theorem dX3_isSo_0 : decode cX3_isSo 0 = .ok (.aload_n 1, 1) := by decide +kernel
theorem dX3_isSo_1 : decode cX3_isSo 1 = .ok (.getfield 43, 3) := by decide +kernel
theorem dX3_isSo_4 : decode cX3_isSo 4 = .ok (.iload_n 2, 1) := by decide +kernel
theorem dX3_isSo_5 : decode cX3_isSo 5 = .ok (.invokevirtual 79, 3) := by decide +kernel
theorem dX3_isSo_8 : decode cX3_isSo 8 = .ok (.istore_n 3, 1) := by decide +kernel
theorem dX3_isSo_9 : decode cX3_isSo 9 = .ok (.aload_n 1, 1) := by decide +kernel
theorem dX3_isSo_10 : decode cX3_isSo 10 = .ok (.getfield 43, 3) := by decide +kernel
theorem dX3_isSo_13 : decode cX3_isSo 13 = .ok (.iload_n 2, 1) := by decide +kernel
theorem dX3_isSo_14 : decode cX3_isSo 14 = .ok (.invokevirtual 76, 3) := by decide +kernel
theorem dX3_isSo_17 : decode cX3_isSo 17 = .ok (.lookupswitch 95 #[(22, 43), (23, 53), (60, 59), (62, 77)], 43) := by decide +kernel
theorem dX3_isSo_60 : decode cX3_isSo 60 = .ok (.aload_n 1, 1) := by decide +kernel
theorem dX3_isSo_61 : decode cX3_isSo 61 = .ok (.iload_n 3, 1) := by decide +kernel
theorem dX3_isSo_62 : decode cX3_isSo 62 = .ok (.aload_n 1, 1) := by decide +kernel
theorem dX3_isSo_63 : decode cX3_isSo 63 = .ok (.getfield 82, 3) := by decide +kernel
theorem dX3_isSo_66 : decode cX3_isSo 66 = .ok (.invokevirtual 85, 3) := by decide +kernel
theorem dX3_isSo_69 : decode cX3_isSo 69 = .ok (.ireturn, 1) := by decide +kernel
theorem dX3_isSo_70 : decode cX3_isSo 70 = .ok (.aload_n 1, 1) := by decide +kernel
theorem dX3_isSo_71 : decode cX3_isSo 71 = .ok (.iload_n 3, 1) := by decide +kernel
theorem dX3_isSo_72 : decode cX3_isSo 72 = .ok (.invokevirtual 89, 3) := by decide +kernel
theorem dX3_isSo_75 : decode cX3_isSo 75 = .ok (.ireturn, 1) := by decide +kernel
theorem dX3_isSo_76 : decode cX3_isSo 76 = .ok (.aload_n 1, 1) := by decide +kernel
theorem dX3_isSo_77 : decode cX3_isSo 77 = .ok (.aload_n 1, 1) := by decide +kernel
theorem dX3_isSo_78 : decode cX3_isSo 78 = .ok (.getfield 82, 3) := by decide +kernel
theorem dX3_isSo_81 : decode cX3_isSo 81 = .ok (.invokevirtual 93, 3) := by decide +kernel
theorem dX3_isSo_84 : decode cX3_isSo 84 = .ok (.iload_n 3, 1) := by decide +kernel
theorem dX3_isSo_85 : decode cX3_isSo 85 = .ok (.if_icmp .ge 7, 3) := by decide +kernel
theorem dX3_isSo_88 : decode cX3_isSo 88 = .ok (.iconst 1, 1) := by decide +kernel
theorem dX3_isSo_89 : decode cX3_isSo 89 = .ok (.goto 4, 3) := by decide +kernel
theorem dX3_isSo_92 : decode cX3_isSo 92 = .ok (.iconst 0, 1) := by decide +kernel
theorem dX3_isSo_93 : decode cX3_isSo 93 = .ok (.ireturn, 1) := by decide +kernel
theorem dX3_isSo_94 : decode cX3_isSo 94 = .ok (.aload_n 1, 1) := by decide +kernel
theorem dX3_isSo_95 : decode cX3_isSo 95 = .ok (.aload_n 1, 1) := by decide +kernel
theorem dX3_isSo_96 : decode cX3_isSo 96 = .ok (.getfield 82, 3) := by decide +kernel
theorem dX3_isSo_99 : decode cX3_isSo 99 = .ok (.invokevirtual 93, 3) := by decide +kernel
theorem dX3_isSo_102 : decode cX3_isSo 102 = .ok (.iload_n 3, 1) := by decide +kernel
theorem dX3_isSo_103 : decode cX3_isSo 103 = .ok (.if_icmp .le 7, 3) := by decide +kernel
theorem dX3_isSo_106 : decode cX3_isSo 106 = .ok (.iconst 1, 1) := by decide +kernel
theorem dX3_isSo_107 : decode cX3_isSo 107 = .ok (.goto 4, 3) := by decide +kernel
theorem dX3_isSo_110 : decode cX3_isSo 110 = .ok (.iconst 0, 1) := by decide +kernel
theorem dX3_isSo_111 : decode cX3_isSo 111 = .ok (.ireturn, 1) := by decide +kernel
theorem dX3_isSo_112 : decode cX3_isSo 112 = .ok (.aload_n 1, 1) := by decide +kernel
theorem dX3_isSo_113 : decode cX3_isSo 113 = .ok (.aload_n 1, 1) := by decide +kernel
theorem dX3_isSo_114 : decode cX3_isSo 114 = .ok (.getfield 82, 3) := by decide +kernel
theorem dX3_isSo_117 : decode cX3_isSo 117 = .ok (.invokevirtual 93, 3) := by decide +kernel
theorem dX3_isSo_120 : decode cX3_isSo 120 = .ok (.iload_n 3, 1) := by decide +kernel
theorem dX3_isSo_121 : decode cX3_isSo 121 = .ok (.if_icmp .ne 7, 3) := by decide +kernel
theorem dX3_isSo_124 : decode cX3_isSo 124 = .ok (.iconst 1, 1) := by decide +kernel
theorem dX3_isSo_125 : decode cX3_isSo 125 = .ok (.goto 4, 3) := by decide +kernel
theorem dX3_isSo_128 : decode cX3_isSo 128 = .ok (.iconst 0, 1) := by decide +kernel
theorem dX3_isSo_129 : decode cX3_isSo 129 = .ok (.ireturn, 1) := by decide +kernel
set_option maxHeartbeats 4000000 in
set_option maxRecDepth 100000 in
theorem ctX3_isSo {p1 : Int} {p2 : Int} {σ : jq_M} {res : Int} (hp1 : jq_com p1) (h : X3_isSo p1 p2 σ = some res) : jq_MC jq_zX yX3_isSo cX3_isSo 4 (some .boolean) 5 133 [jR 60, jR p1, jI p2] σ (some (jI res)) σ := by
  refine jq_met (own := RX3) (L0 := [(0, jR 60), (1, jR p1), (2, jI p2)]) (by decide) rfl rfl rfl ?_
  intro X Γ hnl hlY hRT
  refine jq_use2 (P := fun r => jq_RT jq_zX X (some .boolean) (some (jI r)) σ) ?_ h hRT
  intro K0 hK0
  unfold X3_isSo
  refine jq_aload_n Γ dX3_isSo_0 rfl 1 rfl (jq_at_0 (at_com hp1)) ?_
  refine jq_getR (v := (p1 + 13)) Γ hlY (at_com hp1) fl_RX3_43 rfl rfl (ly_X1_steps hp1) dX3_isSo_1 ?_
  refine jq_iload_n Γ dX3_isSo_4 rfl 2 rfl ?_
  refine jq_cpI (jq_virt (avs := [jI p2]) (st := []) Γ hlY rfl ml_RX3_79 rfl (at_stp (stp_com hp1)) rfl rfl rfl rfl rfl dX3_isSo_5) (fun r h => ctX7_secondAt (stp_com hp1) h) (fun v1 => ?_)
  refine jq_istore_n (L' := [(3, jI v1), (0, jR 60), (1, jR p1), (2, jI p2)]) Γ dX3_isSo_8 rfl hnl rfl rfl ?_
  refine jq_aload_n Γ dX3_isSo_9 rfl 2 rfl (jq_at_0 (at_com hp1)) ?_
  refine jq_getR (v := (p1 + 13)) Γ hlY (at_com hp1) fl_RX3_43 rfl rfl (ly_X1_steps hp1) dX3_isSo_10 ?_
  refine jq_iload_n Γ dX3_isSo_13 rfl 3 rfl ?_
  refine jq_cpI (jq_virt (avs := [jI p2]) (st := []) Γ hlY rfl ml_RX3_76 rfl (at_stp (stp_com hp1)) rfl rfl rfl rfl rfl dX3_isSo_14) (fun r h => ctX7_firstAt (stp_com hp1) h) (fun v2 => ?_)
  refine jq_split (fun hc3 => ?_) (fun hn22_17 => ?_)
  · refine jq_look (tgt := 60) Γ dX3_isSo_17 rfl (by rw [hc3] <;> rfl) rfl ?_
    refine jq_aload_n Γ dX3_isSo_60 rfl 2 rfl (jq_at_0 (at_com hp1)) ?_
    refine jq_iload_n Γ dX3_isSo_61 rfl 0 rfl ?_
    refine jq_aload_n Γ dX3_isSo_62 rfl 2 rfl (jq_at_0 (at_com hp1)) ?_
    refine jq_getR (v := (p1 + 3)) Γ hlY (at_com hp1) fl_RX3_82 rfl rfl (ly_X1_seats hp1) dX3_isSo_63 ?_
    refine jq_cpZ (jq_virt (avs := [jI v1, jR (p1 + 3)]) (st := []) Γ hlY rfl ml_RX3_85 rfl (at_com hp1) rfl rfl rfl rfl rfl dX3_isSo_66) rfl (fun r h => ctX1_doesSign hp1 (row_com hp1) h) (fun v4 hz5 => ?_)
    exact jq_zreturn Γ (hz5) dX3_isSo_69 (hK0 _)
  · refine jq_split (fun hc6 => ?_) (fun hn23_17 => ?_)
    · refine jq_look (tgt := 70) Γ dX3_isSo_17 rfl (by rw [hc6] <;> rfl) rfl ?_
      refine jq_aload_n Γ dX3_isSo_70 rfl 2 rfl (jq_at_0 (at_com hp1)) ?_
      refine jq_iload_n Γ dX3_isSo_71 rfl 0 rfl ?_
      refine jq_cpZ (jq_virt (avs := [jI v1]) (st := []) Γ hlY rfl ml_RX3_89 rfl (at_com hp1) rfl rfl rfl rfl rfl dX3_isSo_72) rfl (fun r h => ctX1_isAgreed hp1 h) (fun v7 hz8 => ?_)
      exact jq_zreturn Γ (hz8) dX3_isSo_75 (hK0 _)
    · refine jq_split (fun hc9 => ?_) (fun hn60_17 => ?_)
      · refine jq_look (tgt := 76) Γ dX3_isSo_17 rfl (by rw [hc9] <;> rfl) rfl ?_
        refine jq_aload_n Γ dX3_isSo_76 rfl 2 rfl (jq_at_0 (at_com hp1)) ?_
        refine jq_aload_n Γ dX3_isSo_77 rfl 2 rfl (jq_at_0 (at_com hp1)) ?_
        refine jq_getR (v := (p1 + 3)) Γ hlY (at_com hp1) fl_RX3_82 rfl rfl (ly_X1_seats hp1) dX3_isSo_78 ?_
        refine jq_cpI (jq_virt (avs := [jR (p1 + 3)]) (st := []) Γ hlY rfl ml_RX3_93 rfl (at_com hp1) rfl rfl rfl rfl rfl dX3_isSo_81) (fun r h => ctX1_worthOfAll hp1 (row_com hp1) h) (fun v10 => ?_)
        refine jq_iload_n Γ dX3_isSo_84 rfl 0 rfl ?_
        refine jq_icmp_ge (tgt := 92) Γ dX3_isSo_85 rfl ?_ ?_
        · refine jq_iconst Γ dX3_isSo_92 rfl ?_
          exact jq_zreturn Γ (Or.inl rfl) dX3_isSo_93 (hK0 _)
        · refine jq_iconst Γ dX3_isSo_88 rfl ?_
          refine jq_goto Γ (tgt := 93) dX3_isSo_89 rfl ?_
          exact jq_zreturn Γ (Or.inr rfl) dX3_isSo_93 (hK0 _)
      · refine jq_split (fun hc11 => ?_) (fun hn62_17 => ?_)
        · refine jq_look (tgt := 94) Γ dX3_isSo_17 rfl (by rw [hc11] <;> rfl) rfl ?_
          refine jq_aload_n Γ dX3_isSo_94 rfl 2 rfl (jq_at_0 (at_com hp1)) ?_
          refine jq_aload_n Γ dX3_isSo_95 rfl 2 rfl (jq_at_0 (at_com hp1)) ?_
          refine jq_getR (v := (p1 + 3)) Γ hlY (at_com hp1) fl_RX3_82 rfl rfl (ly_X1_seats hp1) dX3_isSo_96 ?_
          refine jq_cpI (jq_virt (avs := [jR (p1 + 3)]) (st := []) Γ hlY rfl ml_RX3_93 rfl (at_com hp1) rfl rfl rfl rfl rfl dX3_isSo_99) (fun r h => ctX1_worthOfAll hp1 (row_com hp1) h) (fun v12 => ?_)
          refine jq_iload_n Γ dX3_isSo_102 rfl 0 rfl ?_
          refine jq_icmp_le (tgt := 110) Γ dX3_isSo_103 rfl ?_ ?_
          · refine jq_iconst Γ dX3_isSo_110 rfl ?_
            exact jq_zreturn Γ (Or.inl rfl) dX3_isSo_111 (hK0 _)
          · refine jq_iconst Γ dX3_isSo_106 rfl ?_
            refine jq_goto Γ (tgt := 111) dX3_isSo_107 rfl ?_
            exact jq_zreturn Γ (Or.inr rfl) dX3_isSo_111 (hK0 _)
        · refine jq_look (tgt := 112) Γ dX3_isSo_17 rfl (by rw [jq_osw hn22_17, jq_osw hn23_17, jq_osw hn60_17, jq_osw hn62_17] <;> rfl) rfl ?_
          refine jq_aload_n Γ dX3_isSo_112 rfl 2 rfl (jq_at_0 (at_com hp1)) ?_
          refine jq_aload_n Γ dX3_isSo_113 rfl 2 rfl (jq_at_0 (at_com hp1)) ?_
          refine jq_getR (v := (p1 + 3)) Γ hlY (at_com hp1) fl_RX3_82 rfl rfl (ly_X1_seats hp1) dX3_isSo_114 ?_
          refine jq_cpI (jq_virt (avs := [jR (p1 + 3)]) (st := []) Γ hlY rfl ml_RX3_93 rfl (at_com hp1) rfl rfl rfl rfl rfl dX3_isSo_117) (fun r h => ctX1_worthOfAll hp1 (row_com hp1) h) (fun v13 => ?_)
          refine jq_iload_n Γ dX3_isSo_120 rfl 0 rfl ?_
          refine jq_icmp_ne (tgt := 128) Γ dX3_isSo_121 rfl ?_ ?_
          · refine jq_iconst Γ dX3_isSo_128 rfl ?_
            exact jq_zreturn Γ (Or.inl rfl) dX3_isSo_129 (hK0 _)
          · refine jq_iconst Γ dX3_isSo_124 rfl ?_
            refine jq_goto Γ (tgt := 129) dX3_isSo_125 rfl ?_
            exact jq_zreturn Γ (Or.inr rfl) dX3_isSo_129 (hK0 _)


theorem dX3_beginLoop_0 : decode cX3_beginLoop 0 = .ok (.iload_n 2, 1) := by decide +kernel
theorem dX3_beginLoop_1 : decode cX3_beginLoop 1 = .ok (.ifCond .lt 23, 3) := by decide +kernel
theorem dX3_beginLoop_4 : decode cX3_beginLoop 4 = .ok (.iload_n 2, 1) := by decide +kernel
theorem dX3_beginLoop_5 : decode cX3_beginLoop 5 = .ok (.aload_n 0, 1) := by decide +kernel
theorem dX3_beginLoop_6 : decode cX3_beginLoop 6 = .ok (.getfield 9, 3) := by decide +kernel
theorem dX3_beginLoop_9 : decode cX3_beginLoop 9 = .ok (.arraylength, 1) := by decide +kernel
theorem dX3_beginLoop_10 : decode cX3_beginLoop 10 = .ok (.if_icmp .ge 14, 3) := by decide +kernel
theorem dX3_beginLoop_13 : decode cX3_beginLoop 13 = .ok (.aload_n 0, 1) := by decide +kernel
theorem dX3_beginLoop_14 : decode cX3_beginLoop 14 = .ok (.getfield 9, 3) := by decide +kernel
theorem dX3_beginLoop_17 : decode cX3_beginLoop 17 = .ok (.iload_n 2, 1) := by decide +kernel
theorem dX3_beginLoop_18 : decode cX3_beginLoop 18 = .ok (.aload_n 1, 1) := by decide +kernel
theorem dX3_beginLoop_19 : decode cX3_beginLoop 19 = .ok (.iload_n 2, 1) := by decide +kernel
theorem dX3_beginLoop_20 : decode cX3_beginLoop 20 = .ok (.invokevirtual 76, 3) := by decide +kernel
theorem dX3_beginLoop_23 : decode cX3_beginLoop 23 = .ok (.iastore, 1) := by decide +kernel
theorem dX3_beginLoop_24 : decode cX3_beginLoop 24 = .ok (.return_, 1) := by decide +kernel
set_option maxHeartbeats 4000000 in
set_option maxRecDepth 100000 in
theorem ctX3_beginLoop {p1 : Int} {p2 : Int} {σ : jq_M} {σ' : jq_M} (hp1 : jq_stp p1) (h : X3_beginLoop p1 p2 σ = some σ') : jq_MC jq_zX yX3_beginLoop cX3_beginLoop 3 none 3 82 [jR 60, jR p1, jI p2] σ none σ' := by
  refine jq_met (own := RX3) (L0 := [(0, jR 60), (1, jR p1), (2, jI p2)]) (by decide) rfl rfl rfl ?_
  intro X Γ hnl hlY hRT
  refine jq_use2 (P := fun r => jq_RT jq_zX X none none r) ?_ h hRT
  intro K0 hK0
  unfold X3_beginLoop
  refine jq_iload_n Γ dX3_beginLoop_0 rfl 2 rfl ?_
  refine jq_if_lt (tgt := 24) Γ dX3_beginLoop_1 rfl ?_ ?_
  · exact jq_vreturn Γ dX3_beginLoop_24 (hK0 _)
  · refine jq_iload_n Γ dX3_beginLoop_4 rfl 2 rfl ?_
    refine jq_aload_n Γ dX3_beginLoop_5 rfl 0 rfl (jq_at_0 at_X_60) ?_
    refine jq_getR (v := 61) Γ hlY at_X_60 fl_RX3_9 rfl rfl ly_X3_left dX3_beginLoop_6 ?_
    refine jq_alen Γ at_X_61 rfl rfl rfl dX3_beginLoop_9 ?_
    refine jq_icmp_ge (tgt := 24) Γ dX3_beginLoop_10 rfl ?_ ?_
    · exact jq_vreturn Γ dX3_beginLoop_24 (hK0 _)
    · refine jq_aload_n Γ dX3_beginLoop_13 rfl 0 rfl (jq_at_0 at_X_60) ?_
      refine jq_getR (v := 61) Γ hlY at_X_60 fl_RX3_9 rfl rfl ly_X3_left dX3_beginLoop_14 ?_
      refine jq_iload_n Γ dX3_beginLoop_17 rfl 2 rfl ?_
      refine jq_aload_n Γ dX3_beginLoop_18 rfl 1 rfl (jq_at_0 (at_stp hp1)) ?_
      refine jq_iload_n Γ dX3_beginLoop_19 rfl 2 rfl ?_
      refine jq_cpI (jq_virt (avs := [jI p2]) (st := [jI p2, jR 61]) Γ hlY rfl ml_RX3_76 rfl (at_stp hp1) rfl rfl rfl rfl rfl dX3_beginLoop_20) (fun r h => ctX7_firstAt hp1 h) (fun v1 => ?_)
      refine jq_iast Γ at_X_61 rfl dX3_beginLoop_23 (fun s2 => ?_)
      exact jq_vreturn Γ dX3_beginLoop_24 (hK0 _)


theorem dX3_spend_0 : decode cX3_spend 0 = .ok (.aload_n 1, 1) := by decide +kernel
theorem dX3_spend_1 : decode cX3_spend 1 = .ok (.getfield 125, 3) := by decide +kernel
theorem dX3_spend_4 : decode cX3_spend 4 = .ok (.sipush 9999, 3) := by decide +kernel
theorem dX3_spend_7 : decode cX3_spend 7 = .ok (.iload_n 2, 1) := by decide +kernel
theorem dX3_spend_8 : decode cX3_spend 8 = .ok (.isub, 1) := by decide +kernel
theorem dX3_spend_9 : decode cX3_spend 9 = .ok (.if_icmp .le 5, 3) := by decide +kernel
theorem dX3_spend_12 : decode cX3_spend 12 = .ok (.iconst 0, 1) := by decide +kernel
theorem dX3_spend_13 : decode cX3_spend 13 = .ok (.ireturn, 1) := by decide +kernel
theorem dX3_spend_14 : decode cX3_spend 14 = .ok (.aload_n 0, 1) := by decide +kernel
theorem dX3_spend_15 : decode cX3_spend 15 = .ok (.dup, 1) := by decide +kernel
theorem dX3_spend_16 : decode cX3_spend 16 = .ok (.getfield 19, 3) := by decide +kernel
theorem dX3_spend_19 : decode cX3_spend 19 = .ok (.iload_n 2, 1) := by decide +kernel
theorem dX3_spend_20 : decode cX3_spend 20 = .ok (.iadd, 1) := by decide +kernel
theorem dX3_spend_21 : decode cX3_spend 21 = .ok (.putfield 19, 3) := by decide +kernel
theorem dX3_spend_24 : decode cX3_spend 24 = .ok (.aload_n 0, 1) := by decide +kernel
theorem dX3_spend_25 : decode cX3_spend 25 = .ok (.dup, 1) := by decide +kernel
theorem dX3_spend_26 : decode cX3_spend 26 = .ok (.getfield 22, 3) := by decide +kernel
theorem dX3_spend_29 : decode cX3_spend 29 = .ok (.aload_n 1, 1) := by decide +kernel
theorem dX3_spend_30 : decode cX3_spend 30 = .ok (.iload_n 2, 1) := by decide +kernel
theorem dX3_spend_31 : decode cX3_spend 31 = .ok (.invokevirtual 128, 3) := by decide +kernel
theorem dX3_spend_34 : decode cX3_spend 34 = .ok (.iadd, 1) := by decide +kernel
theorem dX3_spend_35 : decode cX3_spend 35 = .ok (.putfield 22, 3) := by decide +kernel
theorem dX3_spend_38 : decode cX3_spend 38 = .ok (.iconst 1, 1) := by decide +kernel
theorem dX3_spend_39 : decode cX3_spend 39 = .ok (.ireturn, 1) := by decide +kernel
set_option maxHeartbeats 4000000 in
set_option maxRecDepth 100000 in
theorem ctX3_spend {p1 : Int} {p2 : Int} {σ : jq_M} {res : Int} {σ' : jq_M} (hp1 : jq_com p1) (h : X3_spend p1 p2 σ = some (res, σ')) : jq_MC jq_zX yX3_spend cX3_spend 3 (some .boolean) 4 106 [jR 60, jR p1, jI p2] σ (some (jI res)) σ' := by
  refine jq_met (own := RX3) (L0 := [(0, jR 60), (1, jR p1), (2, jI p2)]) (by decide) rfl rfl rfl ?_
  intro X Γ hnl hlY hRT
  refine jq_use2 (P := fun r => jq_RT jq_zX X (some .boolean) (some (jI r.1)) r.2) ?_ h hRT
  intro K0 hK0
  unfold X3_spend
  refine jq_aload_n Γ dX3_spend_0 rfl 1 rfl (jq_at_0 (at_com hp1)) ?_
  refine jq_getI (J := 6) Γ (at_com hp1) fl_RX3_125 rfl rfl dX3_spend_1 ?_
  refine jq_sipush Γ dX3_spend_4 rfl ?_
  refine jq_iload_n Γ dX3_spend_7 rfl 2 rfl ?_
  refine jq_isub Γ dX3_spend_8 ?_
  refine jq_icmp_le (tgt := 14) Γ dX3_spend_9 rfl ?_ ?_
  · refine jq_aload_n Γ dX3_spend_14 rfl 0 rfl (jq_at_0 at_X_60) ?_
    refine jq_dup Γ dX3_spend_15 rfl ?_
    refine jq_getI (J := 2) Γ at_X_60 fl_RX3_19 rfl rfl dX3_spend_16 ?_
    refine jq_iload_n Γ dX3_spend_19 rfl 2 rfl ?_
    refine jq_iadd Γ dX3_spend_20 ?_
    refine jq_putI Γ at_X_60 fl_RX3_19 rfl rfl dX3_spend_21 (fun s1 => ?_)
    refine jq_aload_n Γ dX3_spend_24 rfl 0 rfl (jq_at_0 at_X_60) ?_
    refine jq_dup Γ dX3_spend_25 rfl ?_
    refine jq_getI (J := 3) Γ at_X_60 fl_RX3_22 rfl rfl dX3_spend_26 ?_
    refine jq_aload_n Γ dX3_spend_29 rfl 1 rfl (jq_at_0 (at_com hp1)) ?_
    refine jq_iload_n Γ dX3_spend_30 rfl 2 rfl ?_
    refine jq_cwI (jq_virt (avs := [jI p2]) (st := [jI (s1 60 3), jR 60]) Γ hlY rfl ml_RX3_128 rfl (at_com hp1) rfl rfl rfl rfl rfl dX3_spend_31) (fun r σ' h => ctX1_passDays hp1 h) (fun v2 s3 => ?_)
    refine jq_iadd Γ dX3_spend_34 ?_
    refine jq_putI Γ at_X_60 fl_RX3_22 rfl rfl dX3_spend_35 (fun s4 => ?_)
    refine jq_iconst Γ dX3_spend_38 rfl ?_
    exact jq_zreturn Γ (Or.inr rfl) dX3_spend_39 (hK0 _)
  · refine jq_iconst Γ dX3_spend_12 rfl ?_
    exact jq_zreturn Γ (Or.inl rfl) dX3_spend_13 (hK0 _)


theorem dX3_agreeTo_0 : decode cX3_agreeTo 0 = .ok (.aload_n 1, 1) := by decide +kernel
theorem dX3_agreeTo_1 : decode cX3_agreeTo 1 = .ok (.iload_n 2, 1) := by decide +kernel
theorem dX3_agreeTo_2 : decode cX3_agreeTo 2 = .ok (.invokevirtual 131, 3) := by decide +kernel
theorem dX3_agreeTo_5 : decode cX3_agreeTo 5 = .ok (.istore_n 3, 1) := by decide +kernel
theorem dX3_agreeTo_6 : decode cX3_agreeTo 6 = .ok (.aload_n 0, 1) := by decide +kernel
theorem dX3_agreeTo_7 : decode cX3_agreeTo 7 = .ok (.dup, 1) := by decide +kernel
theorem dX3_agreeTo_8 : decode cX3_agreeTo 8 = .ok (.getfield 22, 3) := by decide +kernel
theorem dX3_agreeTo_11 : decode cX3_agreeTo 11 = .ok (.iload_n 3, 1) := by decide +kernel
theorem dX3_agreeTo_12 : decode cX3_agreeTo 12 = .ok (.invokestatic 32, 3) := by decide +kernel
theorem dX3_agreeTo_15 : decode cX3_agreeTo 15 = .ok (.iadd, 1) := by decide +kernel
theorem dX3_agreeTo_16 : decode cX3_agreeTo 16 = .ok (.putfield 22, 3) := by decide +kernel
theorem dX3_agreeTo_19 : decode cX3_agreeTo 19 = .ok (.iload_n 3, 1) := by decide +kernel
theorem dX3_agreeTo_20 : decode cX3_agreeTo 20 = .ok (.ireturn, 1) := by decide +kernel
set_option maxHeartbeats 4000000 in
set_option maxRecDepth 100000 in
theorem ctX3_agreeTo {p1 : Int} {p2 : Int} {σ : jq_M} {res : Int} {σ' : jq_M} (hp1 : jq_com p1) (h : X3_agreeTo p1 p2 σ = some (res, σ')) : jq_MC jq_zX yX3_agreeTo cX3_agreeTo 4 (some .boolean) 3 82 [jR 60, jR p1, jI p2] σ (some (jI res)) σ' := by
  refine jq_met (own := RX3) (L0 := [(0, jR 60), (1, jR p1), (2, jI p2)]) (by decide) rfl rfl rfl ?_
  intro X Γ hnl hlY hRT
  refine jq_use2 (P := fun r => jq_RT jq_zX X (some .boolean) (some (jI r.1)) r.2) ?_ h hRT
  intro K0 hK0
  unfold X3_agreeTo
  refine jq_aload_n Γ dX3_agreeTo_0 rfl 1 rfl (jq_at_0 (at_com hp1)) ?_
  refine jq_iload_n Γ dX3_agreeTo_1 rfl 2 rfl ?_
  refine jq_cwZ (jq_virt (avs := [jI p2]) (st := []) Γ hlY rfl ml_RX3_131 rfl (at_com hp1) rfl rfl rfl rfl rfl dX3_agreeTo_2) rfl (fun r σ' h => ctX1_agreeOn hp1 h) (fun v1 s2 hz3 => ?_)
  refine jq_istore_n (L' := [(3, jI v1), (0, jR 60), (1, jR p1), (2, jI p2)]) Γ dX3_agreeTo_5 rfl hnl rfl rfl ?_
  refine jq_aload_n Γ dX3_agreeTo_6 rfl 1 rfl (jq_at_0 at_X_60) ?_
  refine jq_dup Γ dX3_agreeTo_7 rfl ?_
  refine jq_getI (J := 3) Γ at_X_60 fl_RX3_22 rfl rfl dX3_agreeTo_8 ?_
  refine jq_iload_n Γ dX3_agreeTo_11 rfl 0 rfl ?_
  refine jq_cpI (jq_nest (avs := [jI v1]) (st := [jI (s2 60 3), jR 60]) Γ hlY rfl ml_RX3_32 rfl rfl rfl rfl rfl dX3_agreeTo_12) (fun r h => ctX10_asNumber h) (fun v4 => ?_)
  refine jq_iadd Γ dX3_agreeTo_15 ?_
  refine jq_putI Γ at_X_60 fl_RX3_22 rfl rfl dX3_agreeTo_16 (fun s5 => ?_)
  refine jq_iload_n Γ dX3_agreeTo_19 rfl 0 rfl ?_
  exact jq_zreturn Γ (hz3) dX3_agreeTo_20 (hK0 _)


theorem dX3_letGo_0 : decode cX3_letGo 0 = .ok (.aload_n 1, 1) := by decide +kernel
theorem dX3_letGo_1 : decode cX3_letGo 1 = .ok (.iload_n 2, 1) := by decide +kernel
theorem dX3_letGo_2 : decode cX3_letGo 2 = .ok (.invokevirtual 134, 3) := by decide +kernel
theorem dX3_letGo_5 : decode cX3_letGo 5 = .ok (.istore_n 3, 1) := by decide +kernel
theorem dX3_letGo_6 : decode cX3_letGo 6 = .ok (.aload_n 0, 1) := by decide +kernel
theorem dX3_letGo_7 : decode cX3_letGo 7 = .ok (.dup, 1) := by decide +kernel
theorem dX3_letGo_8 : decode cX3_letGo 8 = .ok (.getfield 25, 3) := by decide +kernel
theorem dX3_letGo_11 : decode cX3_letGo 11 = .ok (.iload_n 3, 1) := by decide +kernel
theorem dX3_letGo_12 : decode cX3_letGo 12 = .ok (.iadd, 1) := by decide +kernel
theorem dX3_letGo_13 : decode cX3_letGo 13 = .ok (.putfield 25, 3) := by decide +kernel
theorem dX3_letGo_16 : decode cX3_letGo 16 = .ok (.iload_n 3, 1) := by decide +kernel
theorem dX3_letGo_17 : decode cX3_letGo 17 = .ok (.ifCond .le 7, 3) := by decide +kernel
theorem dX3_letGo_20 : decode cX3_letGo 20 = .ok (.iconst 1, 1) := by decide +kernel
theorem dX3_letGo_21 : decode cX3_letGo 21 = .ok (.goto 4, 3) := by decide +kernel
theorem dX3_letGo_24 : decode cX3_letGo 24 = .ok (.iconst 0, 1) := by decide +kernel
theorem dX3_letGo_25 : decode cX3_letGo 25 = .ok (.ireturn, 1) := by decide +kernel
set_option maxHeartbeats 4000000 in
set_option maxRecDepth 100000 in
theorem ctX3_letGo {p1 : Int} {p2 : Int} {σ : jq_M} {res : Int} {σ' : jq_M} (hp1 : jq_com p1) (h : X3_letGo p1 p2 σ = some (res, σ')) : jq_MC jq_zX yX3_letGo cX3_letGo 4 (some .boolean) 4 105 [jR 60, jR p1, jI p2] σ (some (jI res)) σ' := by
  refine jq_met (own := RX3) (L0 := [(0, jR 60), (1, jR p1), (2, jI p2)]) (by decide) rfl rfl rfl ?_
  intro X Γ hnl hlY hRT
  refine jq_use2 (P := fun r => jq_RT jq_zX X (some .boolean) (some (jI r.1)) r.2) ?_ h hRT
  intro K0 hK0
  unfold X3_letGo
  refine jq_aload_n Γ dX3_letGo_0 rfl 1 rfl (jq_at_0 (at_com hp1)) ?_
  refine jq_iload_n Γ dX3_letGo_1 rfl 2 rfl ?_
  refine jq_cwI (jq_virt (avs := [jI p2]) (st := []) Γ hlY rfl ml_RX3_134 rfl (at_com hp1) rfl rfl rfl rfl rfl dX3_letGo_2) (fun r σ' h => ctX1_letFall hp1 h) (fun v1 s2 => ?_)
  refine jq_istore_n (L' := [(3, jI v1), (0, jR 60), (1, jR p1), (2, jI p2)]) Γ dX3_letGo_5 rfl hnl rfl rfl ?_
  refine jq_aload_n Γ dX3_letGo_6 rfl 1 rfl (jq_at_0 at_X_60) ?_
  refine jq_dup Γ dX3_letGo_7 rfl ?_
  refine jq_getI (J := 4) Γ at_X_60 fl_RX3_25 rfl rfl dX3_letGo_8 ?_
  refine jq_iload_n Γ dX3_letGo_11 rfl 0 rfl ?_
  refine jq_iadd Γ dX3_letGo_12 ?_
  refine jq_putI Γ at_X_60 fl_RX3_25 rfl rfl dX3_letGo_13 (fun s3 => ?_)
  refine jq_iload_n Γ dX3_letGo_16 rfl 0 rfl ?_
  refine jq_if_le (tgt := 24) Γ dX3_letGo_17 rfl ?_ ?_
  · refine jq_iconst Γ dX3_letGo_24 rfl ?_
    exact jq_zreturn Γ (Or.inl rfl) dX3_letGo_25 (hK0 _)
  · refine jq_iconst Γ dX3_letGo_20 rfl ?_
    refine jq_goto Γ (tgt := 25) dX3_letGo_21 rfl ?_
    exact jq_zreturn Γ (Or.inr rfl) dX3_letGo_25 (hK0 _)


theorem dX3_draw_0 : decode cX3_draw 0 = .ok (.aload_n 0, 1) := by decide +kernel
theorem dX3_draw_1 : decode cX3_draw 1 = .ok (.aload_n 0, 1) := by decide +kernel
theorem dX3_draw_2 : decode cX3_draw 2 = .ok (.getfield 39, 3) := by decide +kernel
theorem dX3_draw_5 : decode cX3_draw 5 = .ok (.sipush 3061, 3) := by decide +kernel
theorem dX3_draw_8 : decode cX3_draw 8 = .ok (.imul, 1) := by decide +kernel
theorem dX3_draw_9 : decode cX3_draw 9 = .ok (.sipush 11279, 3) := by decide +kernel
theorem dX3_draw_12 : decode cX3_draw 12 = .ok (.iadd, 1) := by decide +kernel
theorem dX3_draw_13 : decode cX3_draw 13 = .ok (.ldc 146, 2) := by decide +kernel
theorem dX3_draw_15 : decode cX3_draw 15 = .ok (.irem, 1) := by decide +kernel
theorem dX3_draw_16 : decode cX3_draw 16 = .ok (.putfield 39, 3) := by decide +kernel
theorem dX3_draw_19 : decode cX3_draw 19 = .ok (.iload_n 1, 1) := by decide +kernel
theorem dX3_draw_20 : decode cX3_draw 20 = .ok (.ifCond .le 15, 3) := by decide +kernel
theorem dX3_draw_23 : decode cX3_draw 23 = .ok (.aload_n 0, 1) := by decide +kernel
theorem dX3_draw_24 : decode cX3_draw 24 = .ok (.getfield 39, 3) := by decide +kernel
theorem dX3_draw_27 : decode cX3_draw 27 = .ok (.bipush 8, 2) := by decide +kernel
theorem dX3_draw_29 : decode cX3_draw 29 = .ok (.idiv, 1) := by decide +kernel
theorem dX3_draw_30 : decode cX3_draw 30 = .ok (.iload_n 1, 1) := by decide +kernel
theorem dX3_draw_31 : decode cX3_draw 31 = .ok (.irem, 1) := by decide +kernel
theorem dX3_draw_32 : decode cX3_draw 32 = .ok (.goto 4, 3) := by decide +kernel
theorem dX3_draw_35 : decode cX3_draw 35 = .ok (.iconst 0, 1) := by decide +kernel
theorem dX3_draw_36 : decode cX3_draw 36 = .ok (.ireturn, 1) := by decide +kernel
set_option maxHeartbeats 4000000 in
set_option maxRecDepth 100000 in
theorem ctX3_draw {p1 : Int} {σ : jq_M} {res : Int} {σ' : jq_M}  (h : X3_draw p1 σ = some (res, σ')) : jq_MC jq_zX yX3_draw cX3_draw 2 (some .int) 1 40 [jR 60, jI p1] σ (some (jI res)) σ' := by
  refine jq_met (own := RX3) (L0 := [(0, jR 60), (1, jI p1)]) (by decide) rfl rfl rfl ?_
  intro X Γ hnl hlY hRT
  refine jq_use2 (P := fun r => jq_RT jq_zX X (some .int) (some (jI r.1)) r.2) ?_ h hRT
  intro K0 hK0
  unfold X3_draw
  refine jq_aload_n Γ dX3_draw_0 rfl 0 rfl (jq_at_0 at_X_60) ?_
  refine jq_aload_n Γ dX3_draw_1 rfl 0 rfl (jq_at_0 at_X_60) ?_
  refine jq_getI (J := 6) Γ at_X_60 fl_RX3_39 rfl rfl dX3_draw_2 ?_
  refine jq_sipush Γ dX3_draw_5 rfl ?_
  refine jq_imul Γ dX3_draw_8 ?_
  refine jq_sipush Γ dX3_draw_9 rfl ?_
  refine jq_iadd Γ dX3_draw_12 ?_
  refine jq_ldc Γ 65536 dX3_draw_13 kc_RX3_146 rfl ?_
  refine jq_iremR Γ dX3_draw_15 (fun v1 => ?_)
  refine jq_putI Γ at_X_60 fl_RX3_39 rfl rfl dX3_draw_16 (fun s2 => ?_)
  refine jq_iload_n Γ dX3_draw_19 rfl 1 rfl ?_
  refine jq_if_le (tgt := 35) Γ dX3_draw_20 rfl ?_ ?_
  · refine jq_iconst Γ dX3_draw_35 rfl ?_
    exact jq_ireturn Γ dX3_draw_36 (hK0 _)
  · refine jq_aload_n Γ dX3_draw_23 rfl 0 rfl (jq_at_0 at_X_60) ?_
    refine jq_getI (J := 6) Γ at_X_60 fl_RX3_39 rfl rfl dX3_draw_24 ?_
    refine jq_bipush Γ dX3_draw_27 rfl ?_
    refine jq_idivR Γ dX3_draw_29 (fun v3 => ?_)
    refine jq_iload_n Γ dX3_draw_30 rfl 1 rfl ?_
    refine jq_iremR Γ dX3_draw_31 (fun v4 => ?_)
    refine jq_goto Γ (tgt := 36) dX3_draw_32 rfl ?_
    exact jq_ireturn Γ dX3_draw_36 (hK0 _)


theorem dX3_seatAny_0 : decode cX3_seatAny 0 = .ok (.aload_n 1, 1) := by decide +kernel
theorem dX3_seatAny_1 : decode cX3_seatAny 1 = .ok (.getfield 137, 3) := by decide +kernel
theorem dX3_seatAny_4 : decode cX3_seatAny 4 = .ok (.ifCond .ne 5, 3) := by decide +kernel
theorem dX3_seatAny_7 : decode cX3_seatAny 7 = .ok (.iconst 0, 1) := by decide +kernel
theorem dX3_seatAny_8 : decode cX3_seatAny 8 = .ok (.ireturn, 1) := by decide +kernel
theorem dX3_seatAny_9 : decode cX3_seatAny 9 = .ok (.aload_n 0, 1) := by decide +kernel
theorem dX3_seatAny_10 : decode cX3_seatAny 10 = .ok (.aload_n 1, 1) := by decide +kernel
theorem dX3_seatAny_11 : decode cX3_seatAny 11 = .ok (.getfield 137, 3) := by decide +kernel
theorem dX3_seatAny_14 : decode cX3_seatAny 14 = .ok (.invokevirtual 140, 3) := by decide +kernel
theorem dX3_seatAny_17 : decode cX3_seatAny 17 = .ok (.istore_n 2, 1) := by decide +kernel
theorem dX3_seatAny_18 : decode cX3_seatAny 18 = .ok (.aload_n 0, 1) := by decide +kernel
theorem dX3_seatAny_19 : decode cX3_seatAny 19 = .ok (.aload_n 1, 1) := by decide +kernel
theorem dX3_seatAny_20 : decode cX3_seatAny 20 = .ok (.getfield 143, 3) := by decide +kernel
theorem dX3_seatAny_23 : decode cX3_seatAny 23 = .ok (.invokevirtual 140, 3) := by decide +kernel
theorem dX3_seatAny_26 : decode cX3_seatAny 26 = .ok (.istore_n 3, 1) := by decide +kernel
theorem dX3_seatAny_27 : decode cX3_seatAny 27 = .ok (.aload_n 1, 1) := by decide +kernel
theorem dX3_seatAny_28 : decode cX3_seatAny 28 = .ok (.iload_n 2, 1) := by decide +kernel
theorem dX3_seatAny_29 : decode cX3_seatAny 29 = .ok (.iload_n 3, 1) := by decide +kernel
theorem dX3_seatAny_30 : decode cX3_seatAny 30 = .ok (.invokevirtual 97, 3) := by decide +kernel
theorem dX3_seatAny_33 : decode cX3_seatAny 33 = .ok (.ireturn, 1) := by decide +kernel
set_option maxHeartbeats 4000000 in
set_option maxRecDepth 100000 in
theorem ctX3_seatAny {p1 : Int} {σ : jq_M} {res : Int} {σ' : jq_M} (hp1 : jq_com p1) (h : X3_seatAny p1 σ = some (res, σ')) : jq_MC jq_zX yX3_seatAny cX3_seatAny 4 (some .boolean) 3 86 [jR 60, jR p1] σ (some (jI res)) σ' := by
  refine jq_met (own := RX3) (L0 := [(0, jR 60), (1, jR p1)]) (by decide) rfl rfl rfl ?_
  intro X Γ hnl hlY hRT
  refine jq_use2 (P := fun r => jq_RT jq_zX X (some .boolean) (some (jI r.1)) r.2) ?_ h hRT
  intro K0 hK0
  unfold X3_seatAny
  refine jq_aload_n Γ dX3_seatAny_0 rfl 1 rfl (jq_at_0 (at_com hp1)) ?_
  refine jq_getI (J := 2) Γ (at_com hp1) fl_RX3_137 rfl rfl dX3_seatAny_1 ?_
  refine jq_if_ne (tgt := 9) Γ dX3_seatAny_4 rfl ?_ ?_
  · refine jq_aload_n Γ dX3_seatAny_9 rfl 0 rfl (jq_at_0 at_X_60) ?_
    refine jq_aload_n Γ dX3_seatAny_10 rfl 1 rfl (jq_at_0 (at_com hp1)) ?_
    refine jq_getI (J := 2) Γ (at_com hp1) fl_RX3_137 rfl rfl dX3_seatAny_11 ?_
    refine jq_cwI (jq_virt (avs := [jI (σ p1 2)]) (st := []) Γ hlY rfl ml_RX3_140 rfl at_X_60 rfl rfl rfl rfl rfl dX3_seatAny_14) (fun r σ' h => ctX3_draw h) (fun v1 s2 => ?_)
    refine jq_istore_n (L' := [(2, jI v1), (0, jR 60), (1, jR p1)]) Γ dX3_seatAny_17 rfl hnl rfl rfl ?_
    refine jq_aload_n Γ dX3_seatAny_18 rfl 1 rfl (jq_at_0 at_X_60) ?_
    refine jq_aload_n Γ dX3_seatAny_19 rfl 2 rfl (jq_at_0 (at_com hp1)) ?_
    refine jq_getI (J := 0) Γ (at_com hp1) fl_RX3_143 rfl rfl dX3_seatAny_20 ?_
    refine jq_cwI (jq_virt (avs := [jI (s2 p1 0)]) (st := []) Γ hlY rfl ml_RX3_140 rfl at_X_60 rfl rfl rfl rfl rfl dX3_seatAny_23) (fun r σ' h => ctX3_draw h) (fun v3 s4 => ?_)
    refine jq_istore_n (L' := [(3, jI v3), (2, jI v1), (0, jR 60), (1, jR p1)]) Γ dX3_seatAny_26 rfl hnl rfl rfl ?_
    refine jq_aload_n Γ dX3_seatAny_27 rfl 3 rfl (jq_at_0 (at_com hp1)) ?_
    refine jq_iload_n Γ dX3_seatAny_28 rfl 1 rfl ?_
    refine jq_iload_n Γ dX3_seatAny_29 rfl 0 rfl ?_
    refine jq_cwZ (jq_virt (avs := [jI v1, jI v3]) (st := []) Γ hlY rfl ml_RX3_97 rfl (at_com hp1) rfl rfl rfl rfl rfl dX3_seatAny_30) rfl (fun r σ' h => ctX1_seatOne hp1 h) (fun v5 s6 hz7 => ?_)
    exact jq_zreturn Γ (hz7) dX3_seatAny_33 (hK0 _)
  · refine jq_iconst Γ dX3_seatAny_7 rfl ?_
    exact jq_zreturn Γ (Or.inl rfl) dX3_seatAny_8 (hK0 _)


