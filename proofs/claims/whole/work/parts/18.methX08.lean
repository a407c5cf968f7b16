theorem yf_X10_whyNoGame : Cond.instanceMethod yX10_whyNoGame ∈ jq_T ∧ Cond.selects (yX10_whyNoGame).cls yX10_whyNoGame yX10_whyNoGame ∈ jq_T ∧ Cond.initialized (yX10_whyNoGame).cls ∈ jq_T ∧ Cond.code yX10_whyNoGame cX10_whyNoGame 5 (some .int) ∈ jq_T ∧ ((yX10_whyNoGame).cls ≠ "java/lang/invoke/MethodHandle" ∧ (yX10_whyNoGame).cls ≠ "java/lang/invoke/VarHandle" ∧ (parseMethodDescriptor (yX10_whyNoGame).desc).map (fun d => d.parameters.length) = some 4) := ⟨jq_in 1318 (by decide +kernel) rfl, jq_in 24 (by decide +kernel) rfl, jq_in 138 (by decide +kernel) rfl, jq_in 1319 (by decide +kernel) rfl, ⟨by decide, by decide, by decide +kernel⟩⟩
theorem ml_RX10_377 : jq_vl RX10 377 yX10_whyNoGame cX10_whyNoGame 5 (some .int) 4 := ⟨jq_in 1316 (by decide +kernel) rfl, yf_X10_whyNoGame⟩
theorem ml_RX10_381 : jq_nl RX10 381 yX4_bestLead "StandTable" cX4_bestLead 11 (some .int) 6 := ⟨jq_inN 1324 (by decide +kernel) rfl, yf_X4_bestLead⟩
theorem yf_X4_firstMove : Cond.static yX4_firstMove ∈ jq_T ∧ Cond.initialized (yX4_firstMove).cls ∈ jq_T ∧ Cond.code yX4_firstMove cX4_firstMove 10 (some .int) ∈ jq_T ∧ ((yX4_firstMove).cls ≠ "java/lang/invoke/MethodHandle" ∧ (yX4_firstMove).cls ≠ "java/lang/invoke/VarHandle" ∧ (parseMethodDescriptor (yX4_firstMove).desc).map (fun d => d.parameters.length) = some 5) := ⟨jq_in 1342 (by decide +kernel) rfl, jq_in 156 (by decide +kernel) rfl, jq_in 1343 (by decide +kernel) rfl, ⟨by decide, by decide, by decide +kernel⟩⟩
theorem ml_RX10_387 : jq_sl RX10 387 yX4_firstMove cX4_firstMove 10 (some .int) 5 := ⟨jq_in 1341 (by decide +kernel) rfl, yf_X4_firstMove⟩
theorem ml_RX1_146 : jq_vl RX1 146 yX1_isArticle cX1_isArticle 2 (some .boolean) 1 := ⟨jq_in 1352 (by decide +kernel) rfl, yf_X1_isArticle⟩
theorem yf_X1_allLeansOf : Cond.instanceMethod yX1_allLeansOf ∈ jq_T ∧ Cond.selects (yX1_allLeansOf).cls yX1_allLeansOf yX1_allLeansOf ∈ jq_T ∧ Cond.initialized (yX1_allLeansOf).cls ∈ jq_T ∧ Cond.code yX1_allLeansOf cX1_allLeansOf 4 (some .int) ∈ jq_T ∧ ((yX1_allLeansOf).cls ≠ "java/lang/invoke/MethodHandle" ∧ (yX1_allLeansOf).cls ≠ "java/lang/invoke/VarHandle" ∧ (parseMethodDescriptor (yX1_allLeansOf).desc).map (fun d => d.parameters.length) = some 1) := ⟨jq_in 1349 (by decide +kernel) rfl, jq_in 1350 (by decide +kernel) rfl, jq_in 144 (by decide +kernel) rfl, jq_in 1351 (by decide +kernel) rfl, ⟨by decide, by decide, by decide +kernel⟩⟩
theorem ml_RX10_391 : jq_vl RX10 391 yX1_allLeansOf cX1_allLeansOf 4 (some .int) 1 := ⟨jq_in 1348 (by decide +kernel) rfl, yf_X1_allLeansOf⟩
theorem ml_RX10_394 : jq_vl RX10 394 yX1_allFallsOf cX1_allFallsOf 4 (some .int) 1 := ⟨jq_in 1357 (by decide +kernel) rfl, yf_X1_allFallsOf⟩
theorem fl_RX0_18 : jq_fl RX0 18 1 21 4 false := ⟨RX1, TX1, tyX1, cls_X1, by decide, jq_in 340 (by decide +kernel) rfl, by decide⟩
theorem ml_RX0_24 : jq_vl RX0 24 yX1_allFallsOf cX1_allFallsOf 4 (some .int) 1 := ⟨jq_in 1365 (by decide +kernel) rfl, yf_X1_allFallsOf⟩
theorem ml_RX0_28 : jq_sl RX0 28 yJ6_bitCount_0f7a4 cJ6_bitCount_0f7a4 1 (some .int) 1 := ⟨jq_in 1366 (by decide +kernel) rfl, yf_J6_bitCount_0f7a4⟩
theorem yf_X0_keystoneOf : Cond.static yX0_keystoneOf ∈ jq_T ∧ Cond.initialized (yX0_keystoneOf).cls ∈ jq_T ∧ Cond.code yX0_keystoneOf cX0_keystoneOf 5 (some .int) ∈ jq_T ∧ ((yX0_keystoneOf).cls ≠ "java/lang/invoke/MethodHandle" ∧ (yX0_keystoneOf).cls ≠ "java/lang/invoke/VarHandle" ∧ (parseMethodDescriptor (yX0_keystoneOf).desc).map (fun d => d.parameters.length) = some 1) := ⟨jq_in 1363 (by decide +kernel) rfl, jq_in 147 (by decide +kernel) rfl, jq_in 1364 (by decide +kernel) rfl, ⟨by decide, by decide, by decide +kernel⟩⟩
theorem ml_RX10_397 : jq_sl RX10 397 yX0_keystoneOf cX0_keystoneOf 5 (some .int) 1 := ⟨jq_in 1362 (by decide +kernel) rfl, yf_X0_keystoneOf⟩
theorem fl_RX0_9 : jq_fl RX0 9 0 2 0 true := ⟨RX0, TX0, tyX0, cls_X0, by decide, jq_in 466 (by decide +kernel) rfl, by decide⟩
theorem fl_RX0_33 : jq_fl RX0 33 1 21 5 false := ⟨RX1, TX1, tyX1, cls_X1, by decide, jq_in 345 (by decide +kernel) rfl, by decide⟩
theorem fl_RX0_36 : jq_fl RX0 36 1 21 17 true := ⟨RX1, TX1, tyX1, cls_X1, by decide, jq_in 382 (by decide +kernel) rfl, by decide⟩
theorem fl_RX10_53 : jq_fl RX10 53 7 18 13 true := ⟨RX10, TX10, tyX10, cls_X10, by decide, jq_in 535 (by decide +kernel) rfl, by decide⟩
theorem yf_X0_countOrders : Cond.instanceMethod yX0_countOrders ∈ jq_T ∧ Cond.selects (yX0_countOrders).cls yX0_countOrders yX0_countOrders ∈ jq_T ∧ Cond.initialized (yX0_countOrders).cls ∈ jq_T ∧ Cond.code yX0_countOrders cX0_countOrders 6 (some .int) ∈ jq_T ∧ ((yX0_countOrders).cls ≠ "java/lang/invoke/MethodHandle" ∧ (yX0_countOrders).cls ≠ "java/lang/invoke/VarHandle" ∧ (parseMethodDescriptor (yX0_countOrders).desc).map (fun d => d.parameters.length) = some 1) := ⟨jq_in 1372 (by decide +kernel) rfl, jq_in 1373 (by decide +kernel) rfl, jq_in 147 (by decide +kernel) rfl, jq_in 1374 (by decide +kernel) rfl, ⟨by decide, by decide, by decide +kernel⟩⟩
theorem ml_RX10_400 : jq_vl RX10 400 yX0_countOrders cX0_countOrders 6 (some .int) 1 := ⟨jq_in 1371 (by decide +kernel) rfl, yf_X0_countOrders⟩
theorem aw_RX1_84 : Cond.methodLink RX1 84 arraycopyName ∈ jq_T := jq_in 1383 (by decide +kernel) rfl
theorem fl_RX1_40 : jq_fl RX1 40 1 21 16 true := ⟨RX1, TX1, tyX1, cls_X1, by decide, jq_in 377 (by decide +kernel) rfl, by decide⟩
theorem ml_RX1_90 : jq_vl RX1 90 yX7_takeFrom cX7_takeFrom 2 none 1 := ⟨jq_in 1384 (by decide +kernel) rfl, yf_X7_takeFrom⟩
theorem ml_RX0_39 : jq_vl RX0 39 yX1_isAgreed cX1_isAgreed 2 (some .boolean) 1 := ⟨jq_in 1388 (by decide +kernel) rfl, yf_X1_isAgreed⟩
theorem ml_RX0_43 : jq_vl RX0 43 yX1_passOneDay cX1_passOneDay 3 (some .int) 0 := ⟨jq_in 1389 (by decide +kernel) rfl, yf_X1_passOneDay⟩
theorem yf_X1_takeFrom : Cond.instanceMethod yX1_takeFrom ∈ jq_T ∧ Cond.selects (yX1_takeFrom).cls yX1_takeFrom yX1_takeFrom ∈ jq_T ∧ Cond.initialized (yX1_takeFrom).cls ∈ jq_T ∧ Cond.code yX1_takeFrom cX1_takeFrom 2 none ∈ jq_T ∧ ((yX1_takeFrom).cls ≠ "java/lang/invoke/MethodHandle" ∧ (yX1_takeFrom).cls ≠ "java/lang/invoke/VarHandle" ∧ (parseMethodDescriptor (yX1_takeFrom).desc).map (fun d => d.parameters.length) = some 1) := ⟨jq_in 1380 (by decide +kernel) rfl, jq_in 1381 (by decide +kernel) rfl, jq_in 144 (by decide +kernel) rfl, jq_in 1382 (by decide +kernel) rfl, ⟨by decide, by decide, by decide +kernel⟩⟩
theorem ml_RX10_403 : jq_vl RX10 403 yX1_takeFrom cX1_takeFrom 2 none 1 := ⟨jq_in 1379 (by decide +kernel) rfl, yf_X1_takeFrom⟩
theorem yf_X0_daysTill : Cond.static yX0_daysTill ∈ jq_T ∧ Cond.initialized (yX0_daysTill).cls ∈ jq_T ∧ Cond.code yX0_daysTill cX0_daysTill 3 (some .int) ∈ jq_T ∧ ((yX0_daysTill).cls ≠ "java/lang/invoke/MethodHandle" ∧ (yX0_daysTill).cls ≠ "java/lang/invoke/VarHandle" ∧ (parseMethodDescriptor (yX0_daysTill).desc).map (fun d => d.parameters.length) = some 2) := ⟨jq_in 1386 (by decide +kernel) rfl, jq_in 147 (by decide +kernel) rfl, jq_in 1387 (by decide +kernel) rfl, ⟨by decide, by decide, by decide +kernel⟩⟩
theorem ml_RX10_406 : jq_sl RX10 406 yX0_daysTill cX0_daysTill 3 (some .int) 2 := ⟨jq_in 1385 (by decide +kernel) rfl, yf_X0_daysTill⟩
theorem fl_RX0_15 : jq_fl RX0 15 0 2 1 true := ⟨RX0, TX0, tyX0, cls_X0, by decide, jq_in 467 (by decide +kernel) rfl, by decide⟩
theorem ml_RX0_60 : jq_nl RX0 60 yX10_holds "StandTable" cX10_holds 2 (some .boolean) 2 := ⟨jq_inN 1402 (by decide +kernel) rfl, yf_X10_holds⟩
theorem mw_RX0_64 : Cond.methodLink RX0 64 Lib.Math.max.name ∈ jq_T := jq_in 1403 (by decide +kernel) rfl
theorem yf_X0_latestEnd : Cond.instanceMethod yX0_latestEnd ∈ jq_T ∧ Cond.selects (yX0_latestEnd).cls yX0_latestEnd yX0_latestEnd ∈ jq_T ∧ Cond.initialized (yX0_latestEnd).cls ∈ jq_T ∧ Cond.code yX0_latestEnd cX0_latestEnd 5 (some .int) ∈ jq_T ∧ ((yX0_latestEnd).cls ≠ "java/lang/invoke/MethodHandle" ∧ (yX0_latestEnd).cls ≠ "java/lang/invoke/VarHandle" ∧ (parseMethodDescriptor (yX0_latestEnd).desc).map (fun d => d.parameters.length) = some 2) := ⟨jq_in 1400 (by decide +kernel) rfl, jq_in 25 (by decide +kernel) rfl, jq_in 147 (by decide +kernel) rfl, jq_in 1401 (by decide +kernel) rfl, ⟨by decide, by decide, by decide +kernel⟩⟩
theorem ml_RX0_47 : jq_vl RX0 47 yX0_latestEnd cX0_latestEnd 5 (some .int) 2 := ⟨jq_in 1398 (by decide +kernel) rfl, yf_X0_latestEnd⟩
theorem fl_RX0_51 : jq_fl RX0 51 1 21 15 true := ⟨RX1, TX1, tyX1, cls_X1, by decide, jq_in 374 (by decide +kernel) rfl, by decide⟩
theorem fl_RX0_54 : jq_fl RX0 54 1 21 18 true := ⟨RX1, TX1, tyX1, cls_X1, by decide, jq_in 386 (by decide +kernel) rfl, by decide⟩
theorem ml_RX0_57 : jq_vl RX0 57 yX1_isArticle cX1_isArticle 2 (some .boolean) 1 := ⟨jq_in 1404 (by decide +kernel) rfl, yf_X1_isArticle⟩
theorem yf_X0_daysTogether : Cond.instanceMethod yX0_daysTogether ∈ jq_T ∧ Cond.selects (yX0_daysTogether).cls yX0_daysTogether yX0_daysTogether ∈ jq_T ∧ Cond.initialized (yX0_daysTogether).cls ∈ jq_T ∧ Cond.code yX0_daysTogether cX0_daysTogether 4 (some .int) ∈ jq_T ∧ ((yX0_daysTogether).cls ≠ "java/lang/invoke/MethodHandle" ∧ (yX0_daysTogether).cls ≠ "java/lang/invoke/VarHandle" ∧ (parseMethodDescriptor (yX0_daysTogether).desc).map (fun d => d.parameters.length) = some 2) := ⟨jq_in 1395 (by decide +kernel) rfl, jq_in 1396 (by decide +kernel) rfl, jq_in 147 (by decide +kernel) rfl, jq_in 1397 (by decide +kernel) rfl, ⟨by decide, by decide, by decide +kernel⟩⟩
theorem ml_RX10_409 : jq_vl RX10 409 yX0_daysTogether cX0_daysTogether 4 (some .int) 2 := ⟨jq_in 1394 (by decide +kernel) rfl, yf_X0_daysTogether⟩
theorem dX10_game_0 : decode cX10_game 0 = .ok (.aload_n 0, 1) := by decide +kernel
theorem dX10_game_1 : decode cX10_game 1 = .ok (.iload_n 1, 1) := by decide +kernel
theorem dX10_game_2 : decode cX10_game 2 = .ok (.iload_n 2, 1) := by decide +kernel
theorem dX10_game_3 : decode cX10_game 3 = .ok (.iload_n 3, 1) := by decide +kernel
theorem dX10_game_4 : decode cX10_game 4 = .ok (.iconst 0, 1) := by decide +kernel
theorem dX10_game_5 : decode cX10_game 5 = .ok (.invokevirtual 377, 3) := by decide +kernel
theorem dX10_game_8 : decode cX10_game 8 = .ok (.istore 4, 2) := by decide +kernel
theorem dX10_game_10 : decode cX10_game 10 = .ok (.iload 4, 2) := by decide +kernel
theorem dX10_game_12 : decode cX10_game 12 = .ok (.ifCond .eq 10, 3) := by decide +kernel
theorem dX10_game_15 : decode cX10_game 15 = .ok (.aload_n 0, 1) := by decide +kernel
theorem dX10_game_16 : decode cX10_game 16 = .ok (.iload 4, 2) := by decide +kernel
theorem dX10_game_18 : decode cX10_game 18 = .ok (.invokevirtual 117, 3) := by decide +kernel
theorem dX10_game_21 : decode cX10_game 21 = .ok (.ireturn, 1) := by decide +kernel
theorem dX10_game_22 : decode cX10_game 22 = .ok (.aload_n 0, 1) := by decide +kernel
theorem dX10_game_23 : decode cX10_game 23 = .ok (.invokevirtual 374, 3) := by decide +kernel
theorem dX10_game_26 : decode cX10_game 26 = .ok (.aload_n 0, 1) := by decide +kernel
theorem dX10_game_27 : decode cX10_game 27 = .ok (.aload_n 0, 1) := by decide +kernel
theorem dX10_game_28 : decode cX10_game 28 = .ok (.getfield 25, 3) := by decide +kernel
theorem dX10_game_31 : decode cX10_game 31 = .ok (.aload_n 0, 1) := by decide +kernel
theorem dX10_game_32 : decode cX10_game 32 = .ok (.getfield 68, 3) := by decide +kernel
theorem dX10_game_35 : decode cX10_game 35 = .ok (.iload_n 1, 1) := by decide +kernel
theorem dX10_game_36 : decode cX10_game 36 = .ok (.iload_n 2, 1) := by decide +kernel
theorem dX10_game_37 : decode cX10_game 37 = .ok (.iload_n 3, 1) := by decide +kernel
theorem dX10_game_38 : decode cX10_game 38 = .ok (.iconst 1, 1) := by decide +kernel
theorem dX10_game_39 : decode cX10_game 39 = .ok (.invokestatic 381, 3) := by decide +kernel
theorem dX10_game_42 : decode cX10_game 42 = .ok (.invokevirtual 167, 3) := by decide +kernel
theorem dX10_game_45 : decode cX10_game 45 = .ok (.ireturn, 1) := by decide +kernel
set_option maxHeartbeats 4000000 in
set_option maxRecDepth 100000 in
theorem ctX10_game {p1 : Int} {p2 : Int} {p3 : Int} {σ : jq_M} {res : Int} {σ' : jq_M}  (h : X10_game p1 p2 p3 σ = some (res, σ')) : jq_MC jq_zX yX10_game cX10_game 5 (some .int) 13 381 [jR 0, jI p1, jI p2, jI p3] σ (some (jI res)) σ' := by
  refine jq_met (own := RX10) (L0 := [(0, jR 0), (1, jI p1), (2, jI p2), (3, jI p3)]) (by decide) rfl rfl rfl ?_
  intro X Γ hnl hlY hRT
  refine jq_use2 (P := fun r => jq_RT jq_zX X (some .int) (some (jI r.1)) r.2) ?_ h hRT
  intro K0 hK0
  unfold X10_game
  refine jq_aload_n Γ dX10_game_0 rfl 0 rfl (jq_at_0 at_X_0) ?_
  refine jq_iload_n Γ dX10_game_1 rfl 1 rfl ?_
  refine jq_iload_n Γ dX10_game_2 rfl 2 rfl ?_
  refine jq_iload_n Γ dX10_game_3 rfl 3 rfl ?_
  refine jq_iconst Γ dX10_game_4 rfl ?_
  refine jq_cpI (jq_virt (avs := [jI p1, jI p2, jI p3, jI 0]) (st := []) Γ hlY rfl ml_RX10_377 rfl at_X_0 rfl rfl rfl rfl rfl dX10_game_5) (fun r h => ctX10_whyNoGame h) (fun v1 => ?_)
  refine jq_istore (L' := [(4, jI v1), (0, jR 0), (1, jI p1), (2, jI p2), (3, jI p3)]) Γ dX10_game_8 hnl rfl rfl ?_
  refine jq_iload Γ dX10_game_10 0 rfl ?_
  refine jq_if_eq (tgt := 22) Γ dX10_game_12 rfl ?_ ?_
  · refine jq_aload_n Γ dX10_game_22 rfl 1 rfl (jq_at_0 at_X_0) ?_
    refine jq_cwV (jq_virt (avs := []) (st := []) Γ hlY rfl ml_RX10_374 rfl at_X_0 rfl rfl rfl rfl rfl dX10_game_23) (fun σ' h => ctX10_layTrial h) (fun s2 => ?_)
    refine jq_aload_n Γ dX10_game_26 rfl 1 rfl (jq_at_0 at_X_0) ?_
    refine jq_aload_n Γ dX10_game_27 rfl 1 rfl (jq_at_0 at_X_0) ?_
    refine jq_getC (C := jq_cm2) Γ hlY at_X_0 fl_RX10_25 rfl rfl ly_now dX10_game_28 (fun c3 hc4q => ?_)
    have hc4 := jq_cm2_com hc4q
    refine jq_aload_n Γ dX10_game_31 rfl 1 rfl (jq_at_0 at_X_0) ?_
    refine jq_getR (v := 63) Γ hlY at_X_0 fl_RX10_68 rfl rfl ly_X10_trial dX10_game_32 ?_
    refine jq_iload_n Γ dX10_game_35 rfl 2 rfl ?_
    refine jq_iload_n Γ dX10_game_36 rfl 3 rfl ?_
    refine jq_iload_n Γ dX10_game_37 rfl 4 rfl ?_
    refine jq_iconst Γ dX10_game_38 rfl ?_
    refine jq_cwI (jq_nest (avs := [jR c3, jR 63, jI p1, jI p2, jI p3, jI 1]) (st := [jR 0]) Γ hlY rfl ml_RX10_381 rfl rfl rfl rfl rfl dX10_game_39) (fun r σ' h => ctX4_bestLead 8 hc4 row_63 h) (fun v5 s6 => ?_)
    refine jq_cwI (jq_virt (avs := [jI v5]) (st := []) Γ hlY rfl ml_RX10_167 rfl at_X_0 rfl rfl rfl rfl rfl dX10_game_42) (fun r σ' h => ctX10_answer h) (fun v7 s8 => ?_)
    exact jq_ireturn Γ dX10_game_45 (hK0 _)
  · refine jq_aload_n Γ dX10_game_15 rfl 1 rfl (jq_at_0 at_X_0) ?_
    refine jq_iload Γ dX10_game_16 0 rfl ?_
    refine jq_cwI (jq_virt (avs := [jI v1]) (st := []) Γ hlY rfl ml_RX10_117 rfl at_X_0 rfl rfl rfl rfl rfl dX10_game_18) (fun r σ' h => ctX10_refuse h) (fun v9 s10 => ?_)
    exact jq_ireturn Γ dX10_game_21 (hK0 _)


theorem dX4_firstMove_0 : decode cX4_firstMove 0 = .ok (.aload_n 1, 1) := by decide +kernel
theorem dX4_firstMove_1 : decode cX4_firstMove 1 = .ok (.iload_n 2, 1) := by decide +kernel
theorem dX4_firstMove_2 : decode cX4_firstMove 2 = .ok (.invokestatic 9, 3) := by decide +kernel
theorem dX4_firstMove_5 : decode cX4_firstMove 5 = .ok (.istore 5, 2) := by decide +kernel
theorem dX4_firstMove_7 : decode cX4_firstMove 7 = .ok (.iconst (-1), 1) := by decide +kernel
theorem dX4_firstMove_8 : decode cX4_firstMove 8 = .ok (.istore 6, 2) := by decide +kernel
theorem dX4_firstMove_10 : decode cX4_firstMove 10 = .ok (.iconst 0, 1) := by decide +kernel
theorem dX4_firstMove_11 : decode cX4_firstMove 11 = .ok (.istore 7, 2) := by decide +kernel
theorem dX4_firstMove_13 : decode cX4_firstMove 13 = .ok (.iconst 0, 1) := by decide +kernel
theorem dX4_firstMove_14 : decode cX4_firstMove 14 = .ok (.istore 8, 2) := by decide +kernel
theorem dX4_firstMove_16 : decode cX4_firstMove 16 = .ok (.iload 8, 2) := by decide +kernel
theorem dX4_firstMove_18 : decode cX4_firstMove 18 = .ok (.aload_n 0, 1) := by decide +kernel
theorem dX4_firstMove_19 : decode cX4_firstMove 19 = .ok (.getfield 25, 3) := by decide +kernel
theorem dX4_firstMove_22 : decode cX4_firstMove 22 = .ok (.if_icmp .ge 67, 3) := by decide +kernel
theorem dX4_firstMove_25 : decode cX4_firstMove 25 = .ok (.iload 8, 2) := by decide +kernel
theorem dX4_firstMove_27 : decode cX4_firstMove 27 = .ok (.iload 5, 2) := by decide +kernel
theorem dX4_firstMove_29 : decode cX4_firstMove 29 = .ok (.if_icmp .eq 54, 3) := by decide +kernel
theorem dX4_firstMove_32 : decode cX4_firstMove 32 = .ok (.aload_n 0, 1) := by decide +kernel
theorem dX4_firstMove_33 : decode cX4_firstMove 33 = .ok (.aload_n 1, 1) := by decide +kernel
theorem dX4_firstMove_34 : decode cX4_firstMove 34 = .ok (.iload_n 2, 1) := by decide +kernel
theorem dX4_firstMove_35 : decode cX4_firstMove 35 = .ok (.iload 8, 2) := by decide +kernel
theorem dX4_firstMove_37 : decode cX4_firstMove 37 = .ok (.invokestatic 29, 3) := by decide +kernel
theorem dX4_firstMove_40 : decode cX4_firstMove 40 = .ok (.aload_n 0, 1) := by decide +kernel
theorem dX4_firstMove_41 : decode cX4_firstMove 41 = .ok (.aload_n 1, 1) := by decide +kernel
theorem dX4_firstMove_42 : decode cX4_firstMove 42 = .ok (.iload_n 2, 1) := by decide +kernel
theorem dX4_firstMove_43 : decode cX4_firstMove 43 = .ok (.iload_n 3, 1) := by decide +kernel
theorem dX4_firstMove_44 : decode cX4_firstMove 44 = .ok (.iload 4, 2) := by decide +kernel
theorem dX4_firstMove_46 : decode cX4_firstMove 46 = .ok (.iconst 1, 1) := by decide +kernel
theorem dX4_firstMove_47 : decode cX4_firstMove 47 = .ok (.isub, 1) := by decide +kernel
theorem dX4_firstMove_48 : decode cX4_firstMove 48 = .ok (.iconst 0, 1) := by decide +kernel
theorem dX4_firstMove_49 : decode cX4_firstMove 49 = .ok (.invokestatic 19, 3) := by decide +kernel
theorem dX4_firstMove_52 : decode cX4_firstMove 52 = .ok (.istore 9, 2) := by decide +kernel
theorem dX4_firstMove_54 : decode cX4_firstMove 54 = .ok (.aload_n 0, 1) := by decide +kernel
theorem dX4_firstMove_55 : decode cX4_firstMove 55 = .ok (.aload_n 1, 1) := by decide +kernel
theorem dX4_firstMove_56 : decode cX4_firstMove 56 = .ok (.iload_n 2, 1) := by decide +kernel
theorem dX4_firstMove_57 : decode cX4_firstMove 57 = .ok (.iload 5, 2) := by decide +kernel
theorem dX4_firstMove_59 : decode cX4_firstMove 59 = .ok (.invokestatic 29, 3) := by decide +kernel
theorem dX4_firstMove_62 : decode cX4_firstMove 62 = .ok (.iload 6, 2) := by decide +kernel
theorem dX4_firstMove_64 : decode cX4_firstMove 64 = .ok (.iconst (-1), 1) := by decide +kernel
theorem dX4_firstMove_65 : decode cX4_firstMove 65 = .ok (.if_icmp .eq 10, 3) := by decide +kernel
theorem dX4_firstMove_68 : decode cX4_firstMove 68 = .ok (.iload 9, 2) := by decide +kernel
theorem dX4_firstMove_70 : decode cX4_firstMove 70 = .ok (.iload 7, 2) := by decide +kernel
theorem dX4_firstMove_72 : decode cX4_firstMove 72 = .ok (.if_icmp .le 11, 3) := by decide +kernel
theorem dX4_firstMove_75 : decode cX4_firstMove 75 = .ok (.iload 9, 2) := by decide +kernel
theorem dX4_firstMove_77 : decode cX4_firstMove 77 = .ok (.istore 7, 2) := by decide +kernel
theorem dX4_firstMove_79 : decode cX4_firstMove 79 = .ok (.iload 8, 2) := by decide +kernel
theorem dX4_firstMove_81 : decode cX4_firstMove 81 = .ok (.istore 6, 2) := by decide +kernel
theorem dX4_firstMove_83 : decode cX4_firstMove 83 = .ok (.iinc 8 1, 3) := by decide +kernel
theorem dX4_firstMove_86 : decode cX4_firstMove 86 = .ok (.goto (-70), 3) := by decide +kernel
theorem dX4_firstMove_89 : decode cX4_firstMove 89 = .ok (.aload_n 0, 1) := by decide +kernel
theorem dX4_firstMove_90 : decode cX4_firstMove 90 = .ok (.aload_n 1, 1) := by decide +kernel
theorem dX4_firstMove_91 : decode cX4_firstMove 91 = .ok (.iload_n 2, 1) := by decide +kernel
theorem dX4_firstMove_92 : decode cX4_firstMove 92 = .ok (.iload_n 3, 1) := by decide +kernel
theorem dX4_firstMove_93 : decode cX4_firstMove 93 = .ok (.iload 4, 2) := by decide +kernel
theorem dX4_firstMove_95 : decode cX4_firstMove 95 = .ok (.iconst 1, 1) := by decide +kernel
theorem dX4_firstMove_96 : decode cX4_firstMove 96 = .ok (.isub, 1) := by decide +kernel
theorem dX4_firstMove_97 : decode cX4_firstMove 97 = .ok (.iconst 0, 1) := by decide +kernel
theorem dX4_firstMove_98 : decode cX4_firstMove 98 = .ok (.invokestatic 19, 3) := by decide +kernel
theorem dX4_firstMove_101 : decode cX4_firstMove 101 = .ok (.istore 8, 2) := by decide +kernel
theorem dX4_firstMove_103 : decode cX4_firstMove 103 = .ok (.iload 8, 2) := by decide +kernel
theorem dX4_firstMove_105 : decode cX4_firstMove 105 = .ok (.iload 7, 2) := by decide +kernel
theorem dX4_firstMove_107 : decode cX4_firstMove 107 = .ok (.if_icmp .le 7, 3) := by decide +kernel
theorem dX4_firstMove_110 : decode cX4_firstMove 110 = .ok (.iconst (-1), 1) := by decide +kernel
theorem dX4_firstMove_111 : decode cX4_firstMove 111 = .ok (.goto 5, 3) := by decide +kernel
theorem dX4_firstMove_114 : decode cX4_firstMove 114 = .ok (.iload 6, 2) := by decide +kernel
theorem dX4_firstMove_116 : decode cX4_firstMove 116 = .ok (.ireturn, 1) := by decide +kernel
set_option maxHeartbeats 4000000 in
set_option maxRecDepth 100000 in
theorem ctX4_firstMove {p0 : Int} {p1 : Int} {p2 : Int} {p3 : Int} {p4 : Int} {σ : jq_M} {res : Int} {σ' : jq_M} (hp0 : jq_com p0) (hp1 : jq_row p1) (h : X4_firstMove p0 p1 p2 p3 p4 σ = some (res, σ')) : jq_MC jq_zX yX4_firstMove cX4_firstMove 10 (some .int) 13 381 [jR p0, jR p1, jI p2, jI p3, jI p4] σ (some (jI res)) σ' := by
  refine jq_met (own := RX4) (L0 := [(0, jR p0), (1, jR p1), (2, jI p2), (3, jI p3), (4, jI p4)]) (by decide) rfl rfl rfl ?_
  intro X Γ hnl hlY hRT
  refine jq_use2 (P := fun r => jq_RT jq_zX X (some .int) (some (jI r.1)) r.2) ?_ h hRT
  intro K0 hK0
  unfold X4_firstMove
  refine jq_aload_n Γ dX4_firstMove_0 rfl 1 rfl (jq_at_0 (at_row hp1)) ?_
  refine jq_iload_n Γ dX4_firstMove_1 rfl 2 rfl ?_
  refine jq_cpI (jq_stat (avs := [jR p1, jI p2]) (st := []) Γ hlY rfl ml_RX4_9 rfl rfl rfl rfl rfl dX4_firstMove_2) (fun r h => ctX1_seatIn hp1 h) (fun v1 => ?_)
  refine jq_istore (L' := [(5, jI v1), (0, jR p0), (1, jR p1), (2, jI p2), (3, jI p3), (4, jI p4)]) Γ dX4_firstMove_5 hnl rfl rfl ?_
  refine jq_iconst Γ dX4_firstMove_7 rfl ?_
  refine jq_istore (L' := [(6, jI (-1)), (5, jI v1), (0, jR p0), (1, jR p1), (2, jI p2), (3, jI p3), (4, jI p4)]) Γ dX4_firstMove_8 hnl rfl rfl ?_
  refine jq_iconst Γ dX4_firstMove_10 rfl ?_
  refine jq_istore (L' := [(7, jI 0), (6, jI (-1)), (5, jI v1), (0, jR p0), (1, jR p1), (2, jI p2), (3, jI p3), (4, jI p4)]) Γ dX4_firstMove_11 hnl rfl rfl ?_
  refine jq_iconst Γ dX4_firstMove_13 rfl ?_
  refine jq_istore (L' := [(8, jI 0), (7, jI 0), (6, jI (-1)), (5, jI v1), (0, jR p0), (1, jR p1), (2, jI p2), (3, jI p3), (4, jI p4)]) Γ dX4_firstMove_14 hnl rfl rfl ?_
  refine jq_sub Γ (L' := [(0, jR p0), (1, jR p1), (2, jI p2), (3, jI p3), (4, jI p4), (5, jI v1), (6, jI (-1)), (7, jI 0), (8, jI 0)]) [4, 5, 6, 7, 8, 3, 2, 1, 0] rfl ?_
  refine jq_loop2 (C := fun (t2 : Int × Int × Int × jq_M) => jq_V jq_zX X (jq_zN jq_zX) t2.2.2.2 16 [(0, jR p0), (1, jR p1), (2, jI p2), (3, jI p3), (4, jI p4), (5, jI v1), (6, jI t2.1), (7, jI t2.2.1), (8, jI t2.2.2.1)] []) (KX := fun (e11 : Int × Int × jq_M) => jq_V jq_zX X (jq_zN jq_zX) e11.2.2 89 [(0, jR p0), (1, jR p1), (2, jI p2), (3, jI p3), (4, jI p4), (6, jI e11.1), (7, jI e11.2.1)] []) ?_ ?_ ((-1), 0, 0, σ)
  · intro K16_t2 hCt2 hXt2 t2
    unfold X4_firstMove_b16
    refine jq_iload Γ dX4_firstMove_16 8 rfl ?_
    refine jq_aload_n Γ dX4_firstMove_18 rfl 0 rfl (jq_at_0 (at_com hp0)) ?_
    refine jq_getI (J := 0) Γ (at_com hp0) fl_RX4_25 rfl rfl dX4_firstMove_19 ?_
    refine jq_icmp_ge (tgt := 89) Γ dX4_firstMove_22 rfl ?_ ?_
    · refine jq_sub Γ (L' := [(0, jR p0), (1, jR p1), (2, jI p2), (3, jI p3), (4, jI p4), (6, jI t2.1), (7, jI t2.2.1)]) [0, 1, 2, 3, 4, 6, 7] rfl ?_
      exact jq_done (hXt2 (t2.1, t2.2.1, t2.2.2.2))
    · refine jq_iload Γ dX4_firstMove_25 8 rfl ?_
      refine jq_iload Γ dX4_firstMove_27 5 rfl ?_
      refine jq_icmp_eq (tgt := 83) Γ dX4_firstMove_29 rfl ?_ ?_
      · refine jq_iincN (L' := fun v3 => [(8, jI v3), (0, jR p0), (1, jR p1), (2, jI p2), (3, jI p3), (4, jI p4), (5, jI v1), (6, jI t2.1), (7, jI t2.2.1)]) Γ dX4_firstMove_83 8 rfl hnl rfl (fun _ => rfl) (fun v3 => ?_)
        refine jq_goto Γ (tgt := 16) dX4_firstMove_86 rfl ?_
        refine jq_sub Γ (L' := [(0, jR p0), (1, jR p1), (2, jI p2), (3, jI p3), (4, jI p4), (5, jI v1), (6, jI t2.1), (7, jI t2.2.1), (8, jI v3)]) [1, 2, 3, 4, 5, 6, 7, 8, 0] rfl ?_
        exact jq_done (hCt2 (t2.1, t2.2.1, v3, t2.2.2.2))
      · refine jq_aload_n Γ dX4_firstMove_32 rfl 0 rfl (jq_at_0 (at_com hp0)) ?_
        refine jq_aload_n Γ dX4_firstMove_33 rfl 1 rfl (jq_at_0 (at_row hp1)) ?_
        refine jq_iload_n Γ dX4_firstMove_34 rfl 2 rfl ?_
        refine jq_iload Γ dX4_firstMove_35 8 rfl ?_
        refine jq_cwV (jq_stat (avs := [jR p0, jR p1, jI p2, jI t2.2.2.1]) (st := []) Γ hlY rfl ml_RX4_29 rfl rfl rfl rfl rfl dX4_firstMove_37) (fun σ' h => ctX4_shift hp0 hp1 h) (fun s4 => ?_)
        refine jq_aload_n Γ dX4_firstMove_40 rfl 0 rfl (jq_at_0 (at_com hp0)) ?_
        refine jq_aload_n Γ dX4_firstMove_41 rfl 1 rfl (jq_at_0 (at_row hp1)) ?_
        refine jq_iload_n Γ dX4_firstMove_42 rfl 2 rfl ?_
        refine jq_iload_n Γ dX4_firstMove_43 rfl 3 rfl ?_
        refine jq_iload Γ dX4_firstMove_44 4 rfl ?_
        refine jq_iconst Γ dX4_firstMove_46 rfl ?_
        refine jq_isub Γ dX4_firstMove_47 ?_
        refine jq_iconst Γ dX4_firstMove_48 rfl ?_
        refine jq_cwI (jq_stat (avs := [jR p0, jR p1, jI p2, jI p3, jI (jq_w (p4 - 1)), jI 0]) (st := []) Γ hlY rfl ml_RX4_19 rfl rfl rfl rfl rfl dX4_firstMove_49) (fun r σ' h => ctX4_bestLead 8 hp0 hp1 h) (fun v5 s6 => ?_)
        refine jq_istore (L' := [(9, jI v5), (0, jR p0), (1, jR p1), (2, jI p2), (3, jI p3), (4, jI p4), (5, jI v1), (6, jI t2.1), (7, jI t2.2.1), (8, jI t2.2.2.1)]) Γ dX4_firstMove_52 hnl rfl rfl ?_
        refine jq_aload_n Γ dX4_firstMove_54 rfl 1 rfl (jq_at_0 (at_com hp0)) ?_
        refine jq_aload_n Γ dX4_firstMove_55 rfl 2 rfl (jq_at_0 (at_row hp1)) ?_
        refine jq_iload_n Γ dX4_firstMove_56 rfl 3 rfl ?_
        refine jq_iload Γ dX4_firstMove_57 6 rfl ?_
        refine jq_cwV (jq_stat (avs := [jR p0, jR p1, jI p2, jI v1]) (st := []) Γ hlY rfl ml_RX4_29 rfl rfl rfl rfl rfl dX4_firstMove_59) (fun σ' h => ctX4_shift hp0 hp1 h) (fun s7 => ?_)
        refine jq_iload Γ dX4_firstMove_62 7 rfl ?_
        refine jq_iconst Γ dX4_firstMove_64 rfl ?_
        refine jq_icmp_eq (tgt := 75) Γ dX4_firstMove_65 rfl ?_ ?_
        · refine jq_iload Γ dX4_firstMove_75 0 rfl ?_
          refine jq_istore (L' := [(7, jI v5), (9, jI v5), (0, jR p0), (1, jR p1), (2, jI p2), (3, jI p3), (4, jI p4), (5, jI v1), (6, jI t2.1), (8, jI t2.2.2.1)]) Γ dX4_firstMove_77 hnl rfl rfl ?_
          refine jq_iload Γ dX4_firstMove_79 9 rfl ?_
          refine jq_istore (L' := [(6, jI t2.2.2.1), (7, jI v5), (9, jI v5), (0, jR p0), (1, jR p1), (2, jI p2), (3, jI p3), (4, jI p4), (5, jI v1), (8, jI t2.2.2.1)]) Γ dX4_firstMove_81 hnl rfl rfl ?_
          refine jq_iincN (L' := fun v8 => [(8, jI v8), (6, jI t2.2.2.1), (7, jI v5), (9, jI v5), (0, jR p0), (1, jR p1), (2, jI p2), (3, jI p3), (4, jI p4), (5, jI v1)]) Γ dX4_firstMove_83 9 rfl hnl rfl (fun _ => rfl) (fun v8 => ?_)
          refine jq_goto Γ (tgt := 16) dX4_firstMove_86 rfl ?_
          refine jq_sub Γ (L' := [(0, jR p0), (1, jR p1), (2, jI p2), (3, jI p3), (4, jI p4), (5, jI v1), (6, jI t2.2.2.1), (7, jI v5), (8, jI v8)]) [4, 5, 6, 7, 8, 9, 1, 2, 0] rfl ?_
          exact jq_done (hCt2 (t2.2.2.1, v5, v8, s7))
        · refine jq_iload Γ dX4_firstMove_68 0 rfl ?_
          refine jq_iload Γ dX4_firstMove_70 8 rfl ?_
          refine jq_icmp_le (tgt := 83) Γ dX4_firstMove_72 rfl ?_ ?_
          · refine jq_iincN (L' := fun v9 => [(8, jI v9), (9, jI v5), (0, jR p0), (1, jR p1), (2, jI p2), (3, jI p3), (4, jI p4), (5, jI v1), (6, jI t2.1), (7, jI t2.2.1)]) Γ dX4_firstMove_83 9 rfl hnl rfl (fun _ => rfl) (fun v9 => ?_)
            refine jq_goto Γ (tgt := 16) dX4_firstMove_86 rfl ?_
            refine jq_sub Γ (L' := [(0, jR p0), (1, jR p1), (2, jI p2), (3, jI p3), (4, jI p4), (5, jI v1), (6, jI t2.1), (7, jI t2.2.1), (8, jI v9)]) [2, 3, 4, 5, 6, 7, 8, 9, 0] rfl ?_
            exact jq_done (hCt2 (t2.1, t2.2.1, v9, s7))
          · refine jq_iload Γ dX4_firstMove_75 0 rfl ?_
            refine jq_istore (L' := [(7, jI v5), (9, jI v5), (0, jR p0), (1, jR p1), (2, jI p2), (3, jI p3), (4, jI p4), (5, jI v1), (6, jI t2.1), (8, jI t2.2.2.1)]) Γ dX4_firstMove_77 hnl rfl rfl ?_
            refine jq_iload Γ dX4_firstMove_79 9 rfl ?_
            refine jq_istore (L' := [(6, jI t2.2.2.1), (7, jI v5), (9, jI v5), (0, jR p0), (1, jR p1), (2, jI p2), (3, jI p3), (4, jI p4), (5, jI v1), (8, jI t2.2.2.1)]) Γ dX4_firstMove_81 hnl rfl rfl ?_
            refine jq_iincN (L' := fun v10 => [(8, jI v10), (6, jI t2.2.2.1), (7, jI v5), (9, jI v5), (0, jR p0), (1, jR p1), (2, jI p2), (3, jI p3), (4, jI p4), (5, jI v1)]) Γ dX4_firstMove_83 9 rfl hnl rfl (fun _ => rfl) (fun v10 => ?_)
            refine jq_goto Γ (tgt := 16) dX4_firstMove_86 rfl ?_
            refine jq_sub Γ (L' := [(0, jR p0), (1, jR p1), (2, jI p2), (3, jI p3), (4, jI p4), (5, jI v1), (6, jI t2.2.2.1), (7, jI v5), (8, jI v10)]) [4, 5, 6, 7, 8, 9, 1, 2, 0] rfl ?_
            exact jq_done (hCt2 (t2.2.2.1, v5, v10, s7))
  · intro e11
    refine jq_aload_n Γ dX4_firstMove_89 rfl 0 rfl (jq_at_0 (at_com hp0)) ?_
    refine jq_aload_n Γ dX4_firstMove_90 rfl 1 rfl (jq_at_0 (at_row hp1)) ?_
    refine jq_iload_n Γ dX4_firstMove_91 rfl 2 rfl ?_
    refine jq_iload_n Γ dX4_firstMove_92 rfl 3 rfl ?_
    refine jq_iload Γ dX4_firstMove_93 4 rfl ?_
    refine jq_iconst Γ dX4_firstMove_95 rfl ?_
    refine jq_isub Γ dX4_firstMove_96 ?_
    refine jq_iconst Γ dX4_firstMove_97 rfl ?_
    refine jq_cwI (jq_stat (avs := [jR p0, jR p1, jI p2, jI p3, jI (jq_w (p4 - 1)), jI 0]) (st := []) Γ hlY rfl ml_RX4_19 rfl rfl rfl rfl rfl dX4_firstMove_98) (fun r σ' h => ctX4_bestLead 8 hp0 hp1 h) (fun v12 s13 => ?_)
    refine jq_istore (L' := [(8, jI v12), (0, jR p0), (1, jR p1), (2, jI p2), (3, jI p3), (4, jI p4), (6, jI e11.1), (7, jI e11.2.1)]) Γ dX4_firstMove_101 hnl rfl rfl ?_
    refine jq_iload Γ dX4_firstMove_103 0 rfl ?_
    refine jq_iload Γ dX4_firstMove_105 7 rfl ?_
    refine jq_icmp_le (tgt := 114) Γ dX4_firstMove_107 rfl ?_ ?_
    · refine jq_iload Γ dX4_firstMove_114 6 rfl ?_
      exact jq_ireturn Γ dX4_firstMove_116 (hK0 _)
    · refine jq_iconst Γ dX4_firstMove_110 rfl ?_
      refine jq_goto Γ (tgt := 116) dX4_firstMove_111 rfl ?_
      exact jq_ireturn Γ dX4_firstMove_116 (hK0 _)


theorem dX10_moveOf_0 : decode cX10_moveOf 0 = .ok (.aload_n 0, 1) := by decide +kernel
theorem dX10_moveOf_1 : decode cX10_moveOf 1 = .ok (.iload_n 1, 1) := by decide +kernel
theorem dX10_moveOf_2 : decode cX10_moveOf 2 = .ok (.iload_n 2, 1) := by decide +kernel
theorem dX10_moveOf_3 : decode cX10_moveOf 3 = .ok (.iload_n 3, 1) := by decide +kernel
theorem dX10_moveOf_4 : decode cX10_moveOf 4 = .ok (.iconst 1, 1) := by decide +kernel
theorem dX10_moveOf_5 : decode cX10_moveOf 5 = .ok (.invokevirtual 377, 3) := by decide +kernel
theorem dX10_moveOf_8 : decode cX10_moveOf 8 = .ok (.istore 4, 2) := by decide +kernel
theorem dX10_moveOf_10 : decode cX10_moveOf 10 = .ok (.iload 4, 2) := by decide +kernel
theorem dX10_moveOf_12 : decode cX10_moveOf 12 = .ok (.ifCond .eq 10, 3) := by decide +kernel
theorem dX10_moveOf_15 : decode cX10_moveOf 15 = .ok (.aload_n 0, 1) := by decide +kernel
theorem dX10_moveOf_16 : decode cX10_moveOf 16 = .ok (.iload 4, 2) := by decide +kernel
theorem dX10_moveOf_18 : decode cX10_moveOf 18 = .ok (.invokevirtual 117, 3) := by decide +kernel
theorem dX10_moveOf_21 : decode cX10_moveOf 21 = .ok (.ireturn, 1) := by decide +kernel
theorem dX10_moveOf_22 : decode cX10_moveOf 22 = .ok (.aload_n 0, 1) := by decide +kernel
theorem dX10_moveOf_23 : decode cX10_moveOf 23 = .ok (.invokevirtual 374, 3) := by decide +kernel
theorem dX10_moveOf_26 : decode cX10_moveOf 26 = .ok (.aload_n 0, 1) := by decide +kernel
theorem dX10_moveOf_27 : decode cX10_moveOf 27 = .ok (.aload_n 0, 1) := by decide +kernel
theorem dX10_moveOf_28 : decode cX10_moveOf 28 = .ok (.getfield 25, 3) := by decide +kernel
theorem dX10_moveOf_31 : decode cX10_moveOf 31 = .ok (.aload_n 0, 1) := by decide +kernel
theorem dX10_moveOf_32 : decode cX10_moveOf 32 = .ok (.getfield 68, 3) := by decide +kernel
theorem dX10_moveOf_35 : decode cX10_moveOf 35 = .ok (.iload_n 1, 1) := by decide +kernel
theorem dX10_moveOf_36 : decode cX10_moveOf 36 = .ok (.iload_n 2, 1) := by decide +kernel
theorem dX10_moveOf_37 : decode cX10_moveOf 37 = .ok (.iload_n 3, 1) := by decide +kernel
theorem dX10_moveOf_38 : decode cX10_moveOf 38 = .ok (.invokestatic 387, 3) := by decide +kernel
theorem dX10_moveOf_41 : decode cX10_moveOf 41 = .ok (.invokevirtual 224, 3) := by decide +kernel
theorem dX10_moveOf_44 : decode cX10_moveOf 44 = .ok (.ireturn, 1) := by decide +kernel
set_option maxHeartbeats 4000000 in
set_option maxRecDepth 100000 in
theorem ctX10_moveOf {p1 : Int} {p2 : Int} {p3 : Int} {σ : jq_M} {res : Int} {σ' : jq_M}  (h : X10_moveOf p1 p2 p3 σ = some (res, σ')) : jq_MC jq_zX yX10_moveOf cX10_moveOf 5 (some .int) 14 410 [jR 0, jI p1, jI p2, jI p3] σ (some (jI res)) σ' := by
  refine jq_met (own := RX10) (L0 := [(0, jR 0), (1, jI p1), (2, jI p2), (3, jI p3)]) (by decide) rfl rfl rfl ?_
  intro X Γ hnl hlY hRT
  refine jq_use2 (P := fun r => jq_RT jq_zX X (some .int) (some (jI r.1)) r.2) ?_ h hRT
  intro K0 hK0
  unfold X10_moveOf
  refine jq_aload_n Γ dX10_moveOf_0 rfl 0 rfl (jq_at_0 at_X_0) ?_
  refine jq_iload_n Γ dX10_moveOf_1 rfl 1 rfl ?_
  refine jq_iload_n Γ dX10_moveOf_2 rfl 2 rfl ?_
  refine jq_iload_n Γ dX10_moveOf_3 rfl 3 rfl ?_
  refine jq_iconst Γ dX10_moveOf_4 rfl ?_
  refine jq_cpI (jq_virt (avs := [jI p1, jI p2, jI p3, jI 1]) (st := []) Γ hlY rfl ml_RX10_377 rfl at_X_0 rfl rfl rfl rfl rfl dX10_moveOf_5) (fun r h => ctX10_whyNoGame h) (fun v1 => ?_)
  refine jq_istore (L' := [(4, jI v1), (0, jR 0), (1, jI p1), (2, jI p2), (3, jI p3)]) Γ dX10_moveOf_8 hnl rfl rfl ?_
  refine jq_iload Γ dX10_moveOf_10 0 rfl ?_
  refine jq_if_eq (tgt := 22) Γ dX10_moveOf_12 rfl ?_ ?_
  · refine jq_aload_n Γ dX10_moveOf_22 rfl 1 rfl (jq_at_0 at_X_0) ?_
    refine jq_cwV (jq_virt (avs := []) (st := []) Γ hlY rfl ml_RX10_374 rfl at_X_0 rfl rfl rfl rfl rfl dX10_moveOf_23) (fun σ' h => ctX10_layTrial h) (fun s2 => ?_)
    refine jq_aload_n Γ dX10_moveOf_26 rfl 1 rfl (jq_at_0 at_X_0) ?_
    refine jq_aload_n Γ dX10_moveOf_27 rfl 1 rfl (jq_at_0 at_X_0) ?_
    refine jq_getC (C := jq_cm2) Γ hlY at_X_0 fl_RX10_25 rfl rfl ly_now dX10_moveOf_28 (fun c3 hc4q => ?_)
    have hc4 := jq_cm2_com hc4q
    refine jq_aload_n Γ dX10_moveOf_31 rfl 1 rfl (jq_at_0 at_X_0) ?_
    refine jq_getR (v := 63) Γ hlY at_X_0 fl_RX10_68 rfl rfl ly_X10_trial dX10_moveOf_32 ?_
    refine jq_iload_n Γ dX10_moveOf_35 rfl 2 rfl ?_
    refine jq_iload_n Γ dX10_moveOf_36 rfl 3 rfl ?_
    refine jq_iload_n Γ dX10_moveOf_37 rfl 4 rfl ?_
    refine jq_cwI (jq_stat (avs := [jR c3, jR 63, jI p1, jI p2, jI p3]) (st := [jR 0]) Γ hlY rfl ml_RX10_387 rfl rfl rfl rfl rfl dX10_moveOf_38) (fun r σ' h => ctX4_firstMove hc4 row_63 h) (fun v5 s6 => ?_)
    refine jq_cwI (jq_virt (avs := [jI v5]) (st := []) Γ hlY rfl ml_RX10_224 rfl at_X_0 rfl rfl rfl rfl rfl dX10_moveOf_41) (fun r σ' h => ctX10_answerOrNone h) (fun v7 s8 => ?_)
    exact jq_ireturn Γ dX10_moveOf_44 (hK0 _)
  · refine jq_aload_n Γ dX10_moveOf_15 rfl 1 rfl (jq_at_0 at_X_0) ?_
    refine jq_iload Γ dX10_moveOf_16 0 rfl ?_
    refine jq_cwI (jq_virt (avs := [jI v1]) (st := []) Γ hlY rfl ml_RX10_117 rfl at_X_0 rfl rfl rfl rfl rfl dX10_moveOf_18) (fun r σ' h => ctX10_refuse h) (fun v9 s10 => ?_)
    exact jq_ireturn Γ dX10_moveOf_21 (hK0 _)


theorem dX1_allLeansOf_0 : decode cX1_allLeansOf 0 = .ok (.aload_n 0, 1) := by decide +kernel
theorem dX1_allLeansOf_1 : decode cX1_allLeansOf 1 = .ok (.iload_n 1, 1) := by decide +kernel
theorem dX1_allLeansOf_2 : decode cX1_allLeansOf 2 = .ok (.invokevirtual 146, 3) := by decide +kernel
theorem dX1_allLeansOf_5 : decode cX1_allLeansOf 5 = .ok (.ifCond .ne 5, 3) := by decide +kernel
theorem dX1_allLeansOf_8 : decode cX1_allLeansOf 8 = .ok (.iconst 0, 1) := by decide +kernel
theorem dX1_allLeansOf_9 : decode cX1_allLeansOf 9 = .ok (.ireturn, 1) := by decide +kernel
theorem dX1_allLeansOf_10 : decode cX1_allLeansOf 10 = .ok (.aload_n 0, 1) := by decide +kernel
theorem dX1_allLeansOf_11 : decode cX1_allLeansOf 11 = .ok (.getfield 43, 3) := by decide +kernel
theorem dX1_allLeansOf_14 : decode cX1_allLeansOf 14 = .ok (.iload_n 1, 1) := by decide +kernel
theorem dX1_allLeansOf_15 : decode cX1_allLeansOf 15 = .ok (.iaload, 1) := by decide +kernel
theorem dX1_allLeansOf_16 : decode cX1_allLeansOf 16 = .ok (.istore_n 2, 1) := by decide +kernel
theorem dX1_allLeansOf_17 : decode cX1_allLeansOf 17 = .ok (.iload_n 1, 1) := by decide +kernel
theorem dX1_allLeansOf_18 : decode cX1_allLeansOf 18 = .ok (.iconst 1, 1) := by decide +kernel
theorem dX1_allLeansOf_19 : decode cX1_allLeansOf 19 = .ok (.isub, 1) := by decide +kernel
theorem dX1_allLeansOf_20 : decode cX1_allLeansOf 20 = .ok (.istore_n 3, 1) := by decide +kernel
theorem dX1_allLeansOf_21 : decode cX1_allLeansOf 21 = .ok (.iload_n 3, 1) := by decide +kernel
theorem dX1_allLeansOf_22 : decode cX1_allLeansOf 22 = .ok (.ifCond .lt 26, 3) := by decide +kernel
theorem dX1_allLeansOf_25 : decode cX1_allLeansOf 25 = .ok (.iload_n 2, 1) := by decide +kernel
theorem dX1_allLeansOf_26 : decode cX1_allLeansOf 26 = .ok (.iload_n 3, 1) := by decide +kernel
theorem dX1_allLeansOf_27 : decode cX1_allLeansOf 27 = .ok (.invokestatic 94, 3) := by decide +kernel
theorem dX1_allLeansOf_30 : decode cX1_allLeansOf 30 = .ok (.ifCond .eq 12, 3) := by decide +kernel
theorem dX1_allLeansOf_33 : decode cX1_allLeansOf 33 = .ok (.iload_n 2, 1) := by decide +kernel
theorem dX1_allLeansOf_34 : decode cX1_allLeansOf 34 = .ok (.aload_n 0, 1) := by decide +kernel
theorem dX1_allLeansOf_35 : decode cX1_allLeansOf 35 = .ok (.getfield 43, 3) := by decide +kernel
theorem dX1_allLeansOf_38 : decode cX1_allLeansOf 38 = .ok (.iload_n 3, 1) := by decide +kernel
theorem dX1_allLeansOf_39 : decode cX1_allLeansOf 39 = .ok (.iaload, 1) := by decide +kernel
theorem dX1_allLeansOf_40 : decode cX1_allLeansOf 40 = .ok (.ior, 1) := by decide +kernel
theorem dX1_allLeansOf_41 : decode cX1_allLeansOf 41 = .ok (.istore_n 2, 1) := by decide +kernel
theorem dX1_allLeansOf_42 : decode cX1_allLeansOf 42 = .ok (.iinc 3 (-1), 3) := by decide +kernel
theorem dX1_allLeansOf_45 : decode cX1_allLeansOf 45 = .ok (.goto (-24), 3) := by decide +kernel
theorem dX1_allLeansOf_48 : decode cX1_allLeansOf 48 = .ok (.iload_n 2, 1) := by decide +kernel
theorem dX1_allLeansOf_49 : decode cX1_allLeansOf 49 = .ok (.ireturn, 1) := by decide +kernel
set_option maxHeartbeats 4000000 in
set_option maxRecDepth 100000 in
theorem ctX1_allLeansOf {o : Int} {p1 : Int} {σ : jq_M} {res : Int} (ho : jq_com o) (h : X1_allLeansOf o p1 σ = some res) : jq_MC jq_zX yX1_allLeansOf cX1_allLeansOf 4 (some .int) 2 61 [jR o, jI p1] σ (some (jI res)) σ := by
  refine jq_met (own := RX1) (L0 := [(0, jR o), (1, jI p1)]) (by decide) rfl rfl rfl ?_
  intro X Γ hnl hlY hRT
  refine jq_use2 (P := fun r => jq_RT jq_zX X (some .int) (some (jI r)) σ) ?_ h hRT
  intro K0 hK0
  unfold X1_allLeansOf
  refine jq_aload_n Γ dX1_allLeansOf_0 rfl 0 rfl (jq_at_0 (at_com ho)) ?_
  refine jq_iload_n Γ dX1_allLeansOf_1 rfl 1 rfl ?_
  refine jq_cpZ (jq_virt (avs := [jI p1]) (st := []) Γ hlY rfl ml_RX1_146 rfl (at_com ho) rfl rfl rfl rfl rfl dX1_allLeansOf_2) rfl (fun r h => ctX1_isArticle ho h) (fun v1 hz2 => ?_)
  refine jq_if_ne (tgt := 10) Γ dX1_allLeansOf_5 rfl ?_ ?_
  · refine jq_aload_n Γ dX1_allLeansOf_10 rfl 0 rfl (jq_at_0 (at_com ho)) ?_
    refine jq_getR (v := (o + 11)) Γ hlY (at_com ho) fl_RX1_43 rfl rfl (ly_X1_leansOn ho) dX1_allLeansOf_11 ?_
    refine jq_iload_n Γ dX1_allLeansOf_14 rfl 1 rfl ?_
    refine jq_iald Γ (at_com_11 ho) rfl dX1_allLeansOf_15 (fun v3 => ?_)
    refine jq_istore_n (L' := [(2, jI v3), (0, jR o), (1, jI p1)]) Γ dX1_allLeansOf_16 rfl hnl rfl rfl ?_
    refine jq_iload_n Γ dX1_allLeansOf_17 rfl 2 rfl ?_
    refine jq_iconst Γ dX1_allLeansOf_18 rfl ?_
    refine jq_isub Γ dX1_allLeansOf_19 ?_
    refine jq_nmI (fun v4 => ?_)
    refine jq_istore_n (L' := [(3, jI v4), (2, jI v3), (0, jR o), (1, jI p1)]) Γ dX1_allLeansOf_20 rfl hnl rfl rfl ?_
    refine jq_sub Γ (L' := [(0, jR o), (2, jI v3), (3, jI v4)]) [2, 1, 0] rfl ?_
    refine jq_loop2 (C := fun (t5 : Int × Int) => jq_V jq_zX X (jq_zN jq_zX) σ 21 [(0, jR o), (2, jI t5.1), (3, jI t5.2)] []) (KX := fun (e12 : Int) => jq_V jq_zX X (jq_zN jq_zX) σ 48 [(2, jI e12)] []) ?_ ?_ (v3, v4)
    · intro K21_t5 hCt5 hXt5 t5
      unfold X1_allLeansOf_b21
      refine jq_iload_n Γ dX1_allLeansOf_21 rfl 2 rfl ?_
      refine jq_if_lt (tgt := 48) Γ dX1_allLeansOf_22 rfl ?_ ?_
      · refine jq_sub Γ (L' := [(2, jI t5.1)]) [1] rfl ?_
        exact jq_done (hXt5 t5.1)
      · refine jq_iload_n Γ dX1_allLeansOf_25 rfl 1 rfl ?_
        refine jq_iload_n Γ dX1_allLeansOf_26 rfl 2 rfl ?_
        refine jq_cpZ (jq_nest (avs := [jI t5.1, jI t5.2]) (st := []) Γ hlY rfl ml_RX1_94 rfl rfl rfl rfl rfl dX1_allLeansOf_27) rfl (fun r h => ctX10_holds h) (fun v6 hz7 => ?_)
        refine jq_if_eq (tgt := 42) Γ dX1_allLeansOf_30 rfl ?_ ?_
        · refine jq_iincN (L' := fun v8 => [(3, jI v8), (0, jR o), (2, jI t5.1)]) Γ dX1_allLeansOf_42 2 rfl hnl rfl (fun _ => rfl) (fun v8 => ?_)
          refine jq_goto Γ (tgt := 21) dX1_allLeansOf_45 rfl ?_
          refine jq_sub Γ (L' := [(0, jR o), (2, jI t5.1), (3, jI v8)]) [1, 2, 0] rfl ?_
          exact jq_done (hCt5 (t5.1, v8))
        · refine jq_iload_n Γ dX1_allLeansOf_33 rfl 1 rfl ?_
          refine jq_aload_n Γ dX1_allLeansOf_34 rfl 0 rfl (jq_at_0 (at_com ho)) ?_
          refine jq_getR (v := (o + 11)) Γ hlY (at_com ho) fl_RX1_43 rfl rfl (ly_X1_leansOn ho) dX1_allLeansOf_35 ?_
          refine jq_iload_n Γ dX1_allLeansOf_38 rfl 2 rfl ?_
          refine jq_iald Γ (at_com_11 ho) rfl dX1_allLeansOf_39 (fun v9 => ?_)
          refine jq_ior Γ dX1_allLeansOf_40 ?_
          refine jq_nmI (fun v10 => ?_)
          refine jq_istore_n (L' := [(2, jI v10), (0, jR o), (3, jI t5.2)]) Γ dX1_allLeansOf_41 rfl hnl rfl rfl ?_
          refine jq_iincN (L' := fun v11 => [(3, jI v11), (2, jI v10), (0, jR o)]) Γ dX1_allLeansOf_42 2 rfl hnl rfl (fun _ => rfl) (fun v11 => ?_)
          refine jq_goto Γ (tgt := 21) dX1_allLeansOf_45 rfl ?_
          refine jq_sub Γ (L' := [(0, jR o), (2, jI v10), (3, jI v11)]) [2, 1, 0] rfl ?_
          exact jq_done (hCt5 (v10, v11))
    · intro e12
      refine jq_iload_n Γ dX1_allLeansOf_48 rfl 0 rfl ?_
      exact jq_ireturn Γ dX1_allLeansOf_49 (hK0 _)
  · refine jq_iconst Γ dX1_allLeansOf_8 rfl ?_
    exact jq_ireturn Γ dX1_allLeansOf_9 (hK0 _)


theorem dX10_leans_0 : decode cX10_leans 0 = .ok (.aload_n 0, 1) := by decide +kernel
theorem dX10_leans_1 : decode cX10_leans 1 = .ok (.getfield 25, 3) := by decide +kernel
theorem dX10_leans_4 : decode cX10_leans 4 = .ok (.iload_n 1, 1) := by decide +kernel
theorem dX10_leans_5 : decode cX10_leans 5 = .ok (.invokevirtual 248, 3) := by decide +kernel
theorem dX10_leans_8 : decode cX10_leans 8 = .ok (.ifCond .ne 9, 3) := by decide +kernel
theorem dX10_leans_11 : decode cX10_leans 11 = .ok (.aload_n 0, 1) := by decide +kernel
theorem dX10_leans_12 : decode cX10_leans 12 = .ok (.iconst 1, 1) := by decide +kernel
theorem dX10_leans_13 : decode cX10_leans 13 = .ok (.invokevirtual 117, 3) := by decide +kernel
theorem dX10_leans_16 : decode cX10_leans 16 = .ok (.ireturn, 1) := by decide +kernel
theorem dX10_leans_17 : decode cX10_leans 17 = .ok (.aload_n 0, 1) := by decide +kernel
theorem dX10_leans_18 : decode cX10_leans 18 = .ok (.aload_n 0, 1) := by decide +kernel
theorem dX10_leans_19 : decode cX10_leans 19 = .ok (.getfield 25, 3) := by decide +kernel
theorem dX10_leans_22 : decode cX10_leans 22 = .ok (.iload_n 1, 1) := by decide +kernel
theorem dX10_leans_23 : decode cX10_leans 23 = .ok (.invokevirtual 391, 3) := by decide +kernel
theorem dX10_leans_26 : decode cX10_leans 26 = .ok (.invokevirtual 167, 3) := by decide +kernel
theorem dX10_leans_29 : decode cX10_leans 29 = .ok (.ireturn, 1) := by decide +kernel
set_option maxHeartbeats 4000000 in
set_option maxRecDepth 100000 in
theorem ctX10_leans {p1 : Int} {σ : jq_M} {res : Int} {σ' : jq_M}  (h : X10_leans p1 σ = some (res, σ')) : jq_MC jq_zX yX10_leans cX10_leans 2 (some .int) 3 84 [jR 0, jI p1] σ (some (jI res)) σ' := by
  refine jq_met (own := RX10) (L0 := [(0, jR 0), (1, jI p1)]) (by decide) rfl rfl rfl ?_
  intro X Γ hnl hlY hRT
  refine jq_use2 (P := fun r => jq_RT jq_zX X (some .int) (some (jI r.1)) r.2) ?_ h hRT
  intro K0 hK0
  unfold X10_leans
  refine jq_aload_n Γ dX10_leans_0 rfl 0 rfl (jq_at_0 at_X_0) ?_
  refine jq_getC (C := jq_cm2) Γ hlY at_X_0 fl_RX10_25 rfl rfl ly_now dX10_leans_1 (fun c1 hc2q => ?_)
  have hc2 := jq_cm2_com hc2q
  refine jq_iload_n Γ dX10_leans_4 rfl 1 rfl ?_
  refine jq_cpZ (jq_virt (avs := [jI p1]) (st := []) Γ hlY rfl ml_RX10_248 rfl (at_com hc2) rfl rfl rfl rfl rfl dX10_leans_5) rfl (fun r h => ctX1_isArticle hc2 h) (fun v3 hz4 => ?_)
  refine jq_if_ne (tgt := 17) Γ dX10_leans_8 rfl ?_ ?_
  · refine jq_aload_n Γ dX10_leans_17 rfl 0 rfl (jq_at_0 at_X_0) ?_
    refine jq_aload_n Γ dX10_leans_18 rfl 0 rfl (jq_at_0 at_X_0) ?_
    refine jq_getC (C := jq_cm2) Γ hlY at_X_0 fl_RX10_25 rfl rfl ly_now dX10_leans_19 (fun c5 hc6q => ?_)
    have hc6 := jq_cm2_com hc6q
    refine jq_iload_n Γ dX10_leans_22 rfl 1 rfl ?_
    refine jq_cpI (jq_virt (avs := [jI p1]) (st := [jR 0]) Γ hlY rfl ml_RX10_391 rfl (at_com hc6) rfl rfl rfl rfl rfl dX10_leans_23) (fun r h => ctX1_allLeansOf hc6 h) (fun v7 => ?_)
    refine jq_cwI (jq_virt (avs := [jI v7]) (st := []) Γ hlY rfl ml_RX10_167 rfl at_X_0 rfl rfl rfl rfl rfl dX10_leans_26) (fun r σ' h => ctX10_answer h) (fun v8 s9 => ?_)
    exact jq_ireturn Γ dX10_leans_29 (hK0 _)
  · refine jq_aload_n Γ dX10_leans_11 rfl 0 rfl (jq_at_0 at_X_0) ?_
    refine jq_iconst Γ dX10_leans_12 rfl ?_
    refine jq_cwI (jq_virt (avs := [jI 1]) (st := []) Γ hlY rfl ml_RX10_117 rfl at_X_0 rfl rfl rfl rfl rfl dX10_leans_13) (fun r σ' h => ctX10_refuse h) (fun v10 s11 => ?_)
    exact jq_ireturn Γ dX10_leans_16 (hK0 _)


theorem dX10_falls_0 : decode cX10_falls 0 = .ok (.aload_n 0, 1) := by decide +kernel
theorem dX10_falls_1 : decode cX10_falls 1 = .ok (.getfield 25, 3) := by decide +kernel
theorem dX10_falls_4 : decode cX10_falls 4 = .ok (.iload_n 1, 1) := by decide +kernel
theorem dX10_falls_5 : decode cX10_falls 5 = .ok (.invokevirtual 248, 3) := by decide +kernel
theorem dX10_falls_8 : decode cX10_falls 8 = .ok (.ifCond .ne 9, 3) := by decide +kernel
theorem dX10_falls_11 : decode cX10_falls 11 = .ok (.aload_n 0, 1) := by decide +kernel
theorem dX10_falls_12 : decode cX10_falls 12 = .ok (.iconst 1, 1) := by decide +kernel
theorem dX10_falls_13 : decode cX10_falls 13 = .ok (.invokevirtual 117, 3) := by decide +kernel
theorem dX10_falls_16 : decode cX10_falls 16 = .ok (.ireturn, 1) := by decide +kernel
theorem dX10_falls_17 : decode cX10_falls 17 = .ok (.aload_n 0, 1) := by decide +kernel
theorem dX10_falls_18 : decode cX10_falls 18 = .ok (.aload_n 0, 1) := by decide +kernel
theorem dX10_falls_19 : decode cX10_falls 19 = .ok (.getfield 25, 3) := by decide +kernel
theorem dX10_falls_22 : decode cX10_falls 22 = .ok (.iload_n 1, 1) := by decide +kernel
theorem dX10_falls_23 : decode cX10_falls 23 = .ok (.invokevirtual 394, 3) := by decide +kernel
theorem dX10_falls_26 : decode cX10_falls 26 = .ok (.invokevirtual 167, 3) := by decide +kernel
theorem dX10_falls_29 : decode cX10_falls 29 = .ok (.ireturn, 1) := by decide +kernel
set_option maxHeartbeats 4000000 in
set_option maxRecDepth 100000 in
theorem ctX10_falls {p1 : Int} {σ : jq_M} {res : Int} {σ' : jq_M}  (h : X10_falls p1 σ = some (res, σ')) : jq_MC jq_zX yX10_falls cX10_falls 2 (some .int) 2 63 [jR 0, jI p1] σ (some (jI res)) σ' := by
  refine jq_met (own := RX10) (L0 := [(0, jR 0), (1, jI p1)]) (by decide) rfl rfl rfl ?_
  intro X Γ hnl hlY hRT
  refine jq_use2 (P := fun r => jq_RT jq_zX X (some .int) (some (jI r.1)) r.2) ?_ h hRT
  intro K0 hK0
  unfold X10_falls
  refine jq_aload_n Γ dX10_falls_0 rfl 0 rfl (jq_at_0 at_X_0) ?_
  refine jq_getC (C := jq_cm2) Γ hlY at_X_0 fl_RX10_25 rfl rfl ly_now dX10_falls_1 (fun c1 hc2q => ?_)
  have hc2 := jq_cm2_com hc2q
  refine jq_iload_n Γ dX10_falls_4 rfl 1 rfl ?_
  refine jq_cpZ (jq_virt (avs := [jI p1]) (st := []) Γ hlY rfl ml_RX10_248 rfl (at_com hc2) rfl rfl rfl rfl rfl dX10_falls_5) rfl (fun r h => ctX1_isArticle hc2 h) (fun v3 hz4 => ?_)
  refine jq_if_ne (tgt := 17) Γ dX10_falls_8 rfl ?_ ?_
  · refine jq_aload_n Γ dX10_falls_17 rfl 0 rfl (jq_at_0 at_X_0) ?_
    refine jq_aload_n Γ dX10_falls_18 rfl 0 rfl (jq_at_0 at_X_0) ?_
    refine jq_getC (C := jq_cm2) Γ hlY at_X_0 fl_RX10_25 rfl rfl ly_now dX10_falls_19 (fun c5 hc6q => ?_)
    have hc6 := jq_cm2_com hc6q
    refine jq_iload_n Γ dX10_falls_22 rfl 1 rfl ?_
    refine jq_cpI (jq_virt (avs := [jI p1]) (st := [jR 0]) Γ hlY rfl ml_RX10_394 rfl (at_com hc6) rfl rfl rfl rfl rfl dX10_falls_23) (fun r h => ctX1_allFallsOf hc6 h) (fun v7 => ?_)
    refine jq_cwI (jq_virt (avs := [jI v7]) (st := []) Γ hlY rfl ml_RX10_167 rfl at_X_0 rfl rfl rfl rfl rfl dX10_falls_26) (fun r σ' h => ctX10_answer h) (fun v8 s9 => ?_)
    exact jq_ireturn Γ dX10_falls_29 (hK0 _)
  · refine jq_aload_n Γ dX10_falls_11 rfl 0 rfl (jq_at_0 at_X_0) ?_
    refine jq_iconst Γ dX10_falls_12 rfl ?_
    refine jq_cwI (jq_virt (avs := [jI 1]) (st := []) Γ hlY rfl ml_RX10_117 rfl at_X_0 rfl rfl rfl rfl rfl dX10_falls_13) (fun r σ' h => ctX10_refuse h) (fun v10 s11 => ?_)
    exact jq_ireturn Γ dX10_falls_16 (hK0 _)


theorem dX0_keystoneOf_0 : decode cX0_keystoneOf 0 = .ok (.iconst (-1), 1) := by decide +kernel
theorem dX0_keystoneOf_1 : decode cX0_keystoneOf 1 = .ok (.istore_n 1, 1) := by decide +kernel
theorem dX0_keystoneOf_2 : decode cX0_keystoneOf 2 = .ok (.iconst 0, 1) := by decide +kernel
theorem dX0_keystoneOf_3 : decode cX0_keystoneOf 3 = .ok (.istore_n 2, 1) := by decide +kernel
theorem dX0_keystoneOf_4 : decode cX0_keystoneOf 4 = .ok (.iconst 0, 1) := by decide +kernel
theorem dX0_keystoneOf_5 : decode cX0_keystoneOf 5 = .ok (.istore_n 3, 1) := by decide +kernel
theorem dX0_keystoneOf_6 : decode cX0_keystoneOf 6 = .ok (.iload_n 3, 1) := by decide +kernel
theorem dX0_keystoneOf_7 : decode cX0_keystoneOf 7 = .ok (.aload_n 0, 1) := by decide +kernel
theorem dX0_keystoneOf_8 : decode cX0_keystoneOf 8 = .ok (.getfield 18, 3) := by decide +kernel
theorem dX0_keystoneOf_11 : decode cX0_keystoneOf 11 = .ok (.if_icmp .ge 30, 3) := by decide +kernel
theorem dX0_keystoneOf_14 : decode cX0_keystoneOf 14 = .ok (.aload_n 0, 1) := by decide +kernel
theorem dX0_keystoneOf_15 : decode cX0_keystoneOf 15 = .ok (.iload_n 3, 1) := by decide +kernel
theorem dX0_keystoneOf_16 : decode cX0_keystoneOf 16 = .ok (.invokevirtual 24, 3) := by decide +kernel
theorem dX0_keystoneOf_19 : decode cX0_keystoneOf 19 = .ok (.invokestatic 28, 3) := by decide +kernel
theorem dX0_keystoneOf_22 : decode cX0_keystoneOf 22 = .ok (.istore 4, 2) := by decide +kernel
theorem dX0_keystoneOf_24 : decode cX0_keystoneOf 24 = .ok (.iload 4, 2) := by decide +kernel
theorem dX0_keystoneOf_26 : decode cX0_keystoneOf 26 = .ok (.iload_n 2, 1) := by decide +kernel
theorem dX0_keystoneOf_27 : decode cX0_keystoneOf 27 = .ok (.if_icmp .le 8, 3) := by decide +kernel
theorem dX0_keystoneOf_30 : decode cX0_keystoneOf 30 = .ok (.iload 4, 2) := by decide +kernel
theorem dX0_keystoneOf_32 : decode cX0_keystoneOf 32 = .ok (.istore_n 2, 1) := by decide +kernel
theorem dX0_keystoneOf_33 : decode cX0_keystoneOf 33 = .ok (.iload_n 3, 1) := by decide +kernel
theorem dX0_keystoneOf_34 : decode cX0_keystoneOf 34 = .ok (.istore_n 1, 1) := by decide +kernel
theorem dX0_keystoneOf_35 : decode cX0_keystoneOf 35 = .ok (.iinc 3 1, 3) := by decide +kernel
theorem dX0_keystoneOf_38 : decode cX0_keystoneOf 38 = .ok (.goto (-32), 3) := by decide +kernel
theorem dX0_keystoneOf_41 : decode cX0_keystoneOf 41 = .ok (.iload_n 1, 1) := by decide +kernel
theorem dX0_keystoneOf_42 : decode cX0_keystoneOf 42 = .ok (.ireturn, 1) := by decide +kernel
set_option maxHeartbeats 4000000 in
set_option maxRecDepth 100000 in
theorem ctX0_keystoneOf {p0 : Int} {σ : jq_M} {res : Int} (hp0 : jq_com p0) (h : X0_keystoneOf p0 σ = some res) : jq_MC jq_zX yX0_keystoneOf cX0_keystoneOf 5 (some .int) 2 63 [jR p0] σ (some (jI res)) σ := by
  refine jq_met (own := RX0) (L0 := [(0, jR p0)]) (by decide) rfl rfl rfl ?_
  intro X Γ hnl hlY hRT
  refine jq_use2 (P := fun r => jq_RT jq_zX X (some .int) (some (jI r)) σ) ?_ h hRT
  intro K0 hK0
  unfold X0_keystoneOf
  refine jq_iconst Γ dX0_keystoneOf_0 rfl ?_
  refine jq_istore_n (L' := [(1, jI (-1)), (0, jR p0)]) Γ dX0_keystoneOf_1 rfl hnl rfl rfl ?_
  refine jq_iconst Γ dX0_keystoneOf_2 rfl ?_
  refine jq_istore_n (L' := [(2, jI 0), (1, jI (-1)), (0, jR p0)]) Γ dX0_keystoneOf_3 rfl hnl rfl rfl ?_
  refine jq_iconst Γ dX0_keystoneOf_4 rfl ?_
  refine jq_istore_n (L' := [(3, jI 0), (2, jI 0), (1, jI (-1)), (0, jR p0)]) Γ dX0_keystoneOf_5 rfl hnl rfl rfl ?_
  refine jq_sub Γ (L' := [(0, jR p0), (1, jI (-1)), (2, jI 0), (3, jI 0)]) [3, 2, 1, 0] rfl ?_
  refine jq_loop2 (C := fun (t1 : Int × Int × Int) => jq_V jq_zX X (jq_zN jq_zX) σ 6 [(0, jR p0), (1, jI t1.1), (2, jI t1.2.1), (3, jI t1.2.2)] []) (KX := fun (e6 : Int) => jq_V jq_zX X (jq_zN jq_zX) σ 41 [(1, jI e6)] []) ?_ ?_ ((-1), 0, 0)
  · intro K6_t1 hCt1 hXt1 t1
    unfold X0_keystoneOf_b6
    refine jq_iload_n Γ dX0_keystoneOf_6 rfl 3 rfl ?_
    refine jq_aload_n Γ dX0_keystoneOf_7 rfl 0 rfl (jq_at_0 (at_com hp0)) ?_
    refine jq_getI (J := 4) Γ (at_com hp0) fl_RX0_18 rfl rfl dX0_keystoneOf_8 ?_
    refine jq_icmp_ge (tgt := 41) Γ dX0_keystoneOf_11 rfl ?_ ?_
    · refine jq_sub Γ (L' := [(1, jI t1.1)]) [1] rfl ?_
      exact jq_done (hXt1 t1.1)
    · refine jq_aload_n Γ dX0_keystoneOf_14 rfl 0 rfl (jq_at_0 (at_com hp0)) ?_
      refine jq_iload_n Γ dX0_keystoneOf_15 rfl 3 rfl ?_
      refine jq_cpI (jq_virt (avs := [jI t1.2.2]) (st := []) Γ hlY rfl ml_RX0_24 rfl (at_com hp0) rfl rfl rfl rfl rfl dX0_keystoneOf_16) (fun r h => ctX1_allFallsOf hp0 h) (fun v2 => ?_)
      refine jq_cpI (jq_stat (avs := [jI v2]) (st := []) Γ hlY rfl ml_RX0_28 rfl rfl rfl rfl rfl dX0_keystoneOf_19) (fun r h => ctJ6_bitCount_0f7a4 h) (fun v3 => ?_)
      refine jq_istore (L' := [(4, jI v3), (0, jR p0), (1, jI t1.1), (2, jI t1.2.1), (3, jI t1.2.2)]) Γ dX0_keystoneOf_22 hnl rfl rfl ?_
      refine jq_iload Γ dX0_keystoneOf_24 0 rfl ?_
      refine jq_iload_n Γ dX0_keystoneOf_26 rfl 3 rfl ?_
      refine jq_icmp_le (tgt := 35) Γ dX0_keystoneOf_27 rfl ?_ ?_
      · refine jq_iincN (L' := fun v4 => [(3, jI v4), (4, jI v3), (0, jR p0), (1, jI t1.1), (2, jI t1.2.1)]) Γ dX0_keystoneOf_35 4 rfl hnl rfl (fun _ => rfl) (fun v4 => ?_)
        refine jq_goto Γ (tgt := 6) dX0_keystoneOf_38 rfl ?_
        refine jq_sub Γ (L' := [(0, jR p0), (1, jI t1.1), (2, jI t1.2.1), (3, jI v4)]) [2, 3, 4, 0] rfl ?_
        exact jq_done (hCt1 (t1.1, t1.2.1, v4))
      · refine jq_iload Γ dX0_keystoneOf_30 0 rfl ?_
        refine jq_istore_n (L' := [(2, jI v3), (4, jI v3), (0, jR p0), (1, jI t1.1), (3, jI t1.2.2)]) Γ dX0_keystoneOf_32 rfl hnl rfl rfl ?_
        refine jq_iload_n Γ dX0_keystoneOf_33 rfl 4 rfl ?_
        refine jq_istore_n (L' := [(1, jI t1.2.2), (2, jI v3), (4, jI v3), (0, jR p0), (3, jI t1.2.2)]) Γ dX0_keystoneOf_34 rfl hnl rfl rfl ?_
        refine jq_iincN (L' := fun v5 => [(3, jI v5), (1, jI t1.2.2), (2, jI v3), (4, jI v3), (0, jR p0)]) Γ dX0_keystoneOf_35 4 rfl hnl rfl (fun _ => rfl) (fun v5 => ?_)
        refine jq_goto Γ (tgt := 6) dX0_keystoneOf_38 rfl ?_
        refine jq_sub Γ (L' := [(0, jR p0), (1, jI t1.2.2), (2, jI v3), (3, jI v5)]) [4, 1, 2, 0] rfl ?_
        exact jq_done (hCt1 (t1.2.2, v3, v5))
  · intro e6
    refine jq_iload_n Γ dX0_keystoneOf_41 rfl 0 rfl ?_
    exact jq_ireturn Γ dX0_keystoneOf_42 (hK0 _)


theorem dX10_keystone_0 : decode cX10_keystone 0 = .ok (.aload_n 0, 1) := by decide +kernel
theorem dX10_keystone_1 : decode cX10_keystone 1 = .ok (.aload_n 0, 1) := by decide +kernel
theorem dX10_keystone_2 : decode cX10_keystone 2 = .ok (.getfield 25, 3) := by decide +kernel
theorem dX10_keystone_5 : decode cX10_keystone 5 = .ok (.invokestatic 397, 3) := by decide +kernel
theorem dX10_keystone_8 : decode cX10_keystone 8 = .ok (.invokevirtual 224, 3) := by decide +kernel
theorem dX10_keystone_11 : decode cX10_keystone 11 = .ok (.ireturn, 1) := by decide +kernel
set_option maxHeartbeats 4000000 in
set_option maxRecDepth 100000 in
theorem ctX10_keystone  {σ : jq_M} {res : Int} {σ' : jq_M}  (h : X10_keystone σ = some (res, σ')) : jq_MC jq_zX yX10_keystone cX10_keystone 1 (some .int) 3 87 [jR 0] σ (some (jI res)) σ' := by
  refine jq_met (own := RX10) (L0 := [(0, jR 0)]) (by decide) rfl rfl rfl ?_
  intro X Γ hnl hlY hRT
  refine jq_use2 (P := fun r => jq_RT jq_zX X (some .int) (some (jI r.1)) r.2) ?_ h hRT
  intro K0 hK0
  unfold X10_keystone
  refine jq_aload_n Γ dX10_keystone_0 rfl 0 rfl (jq_at_0 at_X_0) ?_
  refine jq_aload_n Γ dX10_keystone_1 rfl 0 rfl (jq_at_0 at_X_0) ?_
  refine jq_getC (C := jq_cm2) Γ hlY at_X_0 fl_RX10_25 rfl rfl ly_now dX10_keystone_2 (fun c1 hc2q => ?_)
  have hc2 := jq_cm2_com hc2q
  refine jq_cpI (jq_stat (avs := [jR c1]) (st := [jR 0]) Γ hlY rfl ml_RX10_397 rfl rfl rfl rfl rfl dX10_keystone_5) (fun r h => ctX0_keystoneOf hc2 h) (fun v3 => ?_)
  refine jq_cwI (jq_virt (avs := [jI v3]) (st := []) Γ hlY rfl ml_RX10_224 rfl at_X_0 rfl rfl rfl rfl rfl dX10_keystone_8) (fun r σ' h => ctX10_answerOrNone h) (fun v4 s5 => ?_)
  exact jq_ireturn Γ dX10_keystone_11 (hK0 _)


theorem dX0_countOrders_0 : decode cX0_countOrders 0 = .ok (.iconst 1, 1) := by decide +kernel
theorem dX0_countOrders_1 : decode cX0_countOrders 1 = .ok (.aload_n 1, 1) := by decide +kernel
theorem dX0_countOrders_2 : decode cX0_countOrders 2 = .ok (.getfield 18, 3) := by decide +kernel
theorem dX0_countOrders_5 : decode cX0_countOrders 5 = .ok (.ishl, 1) := by decide +kernel
theorem dX0_countOrders_6 : decode cX0_countOrders 6 = .ok (.iconst 1, 1) := by decide +kernel
theorem dX0_countOrders_7 : decode cX0_countOrders 7 = .ok (.isub, 1) := by decide +kernel
theorem dX0_countOrders_8 : decode cX0_countOrders 8 = .ok (.istore_n 2, 1) := by decide +kernel
theorem dX0_countOrders_9 : decode cX0_countOrders 9 = .ok (.iconst 0, 1) := by decide +kernel
theorem dX0_countOrders_10 : decode cX0_countOrders 10 = .ok (.istore_n 3, 1) := by decide +kernel
theorem dX0_countOrders_11 : decode cX0_countOrders 11 = .ok (.iload_n 3, 1) := by decide +kernel
theorem dX0_countOrders_12 : decode cX0_countOrders 12 = .ok (.aload_n 0, 1) := by decide +kernel
theorem dX0_countOrders_13 : decode cX0_countOrders 13 = .ok (.getfield 9, 3) := by decide +kernel
theorem dX0_countOrders_16 : decode cX0_countOrders 16 = .ok (.arraylength, 1) := by decide +kernel
theorem dX0_countOrders_17 : decode cX0_countOrders 17 = .ok (.if_icmp .ge 28, 3) := by decide +kernel
theorem dX0_countOrders_20 : decode cX0_countOrders 20 = .ok (.aload_n 0, 1) := by decide +kernel
theorem dX0_countOrders_21 : decode cX0_countOrders 21 = .ok (.getfield 9, 3) := by decide +kernel
theorem dX0_countOrders_24 : decode cX0_countOrders 24 = .ok (.iload_n 3, 1) := by decide +kernel
theorem dX0_countOrders_25 : decode cX0_countOrders 25 = .ok (.iload_n 3, 1) := by decide +kernel
theorem dX0_countOrders_26 : decode cX0_countOrders 26 = .ok (.aload_n 1, 1) := by decide +kernel
theorem dX0_countOrders_27 : decode cX0_countOrders 27 = .ok (.getfield 33, 3) := by decide +kernel
theorem dX0_countOrders_30 : decode cX0_countOrders 30 = .ok (.if_icmp .ne 7, 3) := by decide +kernel
theorem dX0_countOrders_33 : decode cX0_countOrders 33 = .ok (.iconst 1, 1) := by decide +kernel
theorem dX0_countOrders_34 : decode cX0_countOrders 34 = .ok (.goto 4, 3) := by decide +kernel
theorem dX0_countOrders_37 : decode cX0_countOrders 37 = .ok (.iconst 0, 1) := by decide +kernel
theorem dX0_countOrders_38 : decode cX0_countOrders 38 = .ok (.iastore, 1) := by decide +kernel
theorem dX0_countOrders_39 : decode cX0_countOrders 39 = .ok (.iinc 3 1, 3) := by decide +kernel
theorem dX0_countOrders_42 : decode cX0_countOrders 42 = .ok (.goto (-31), 3) := by decide +kernel
theorem dX0_countOrders_45 : decode cX0_countOrders 45 = .ok (.iconst 0, 1) := by decide +kernel
theorem dX0_countOrders_46 : decode cX0_countOrders 46 = .ok (.istore_n 3, 1) := by decide +kernel
theorem dX0_countOrders_47 : decode cX0_countOrders 47 = .ok (.iload_n 3, 1) := by decide +kernel
theorem dX0_countOrders_48 : decode cX0_countOrders 48 = .ok (.iload_n 2, 1) := by decide +kernel
theorem dX0_countOrders_49 : decode cX0_countOrders 49 = .ok (.if_icmp .ge 100, 3) := by decide +kernel
theorem dX0_countOrders_52 : decode cX0_countOrders 52 = .ok (.iload_n 3, 1) := by decide +kernel
theorem dX0_countOrders_53 : decode cX0_countOrders 53 = .ok (.aload_n 0, 1) := by decide +kernel
theorem dX0_countOrders_54 : decode cX0_countOrders 54 = .ok (.getfield 9, 3) := by decide +kernel
theorem dX0_countOrders_57 : decode cX0_countOrders 57 = .ok (.arraylength, 1) := by decide +kernel
theorem dX0_countOrders_58 : decode cX0_countOrders 58 = .ok (.if_icmp .ge 91, 3) := by decide +kernel
theorem dX0_countOrders_61 : decode cX0_countOrders 61 = .ok (.iconst 0, 1) := by decide +kernel
theorem dX0_countOrders_62 : decode cX0_countOrders 62 = .ok (.istore 4, 2) := by decide +kernel
theorem dX0_countOrders_64 : decode cX0_countOrders 64 = .ok (.iload 4, 2) := by decide +kernel
theorem dX0_countOrders_66 : decode cX0_countOrders 66 = .ok (.aload_n 1, 1) := by decide +kernel
theorem dX0_countOrders_67 : decode cX0_countOrders 67 = .ok (.getfield 18, 3) := by decide +kernel
theorem dX0_countOrders_70 : decode cX0_countOrders 70 = .ok (.if_icmp .ge 73, 3) := by decide +kernel
theorem dX0_countOrders_73 : decode cX0_countOrders 73 = .ok (.iload 4, 2) := by decide +kernel
theorem dX0_countOrders_75 : decode cX0_countOrders 75 = .ok (.aload_n 1, 1) := by decide +kernel
theorem dX0_countOrders_76 : decode cX0_countOrders 76 = .ok (.getfield 36, 3) := by decide +kernel
theorem dX0_countOrders_79 : decode cX0_countOrders 79 = .ok (.arraylength, 1) := by decide +kernel
theorem dX0_countOrders_80 : decode cX0_countOrders 80 = .ok (.if_icmp .ge 63, 3) := by decide +kernel
theorem dX0_countOrders_83 : decode cX0_countOrders 83 = .ok (.iload_n 3, 1) := by decide +kernel
theorem dX0_countOrders_84 : decode cX0_countOrders 84 = .ok (.iconst 1, 1) := by decide +kernel
theorem dX0_countOrders_85 : decode cX0_countOrders 85 = .ok (.iload 4, 2) := by decide +kernel
theorem dX0_countOrders_87 : decode cX0_countOrders 87 = .ok (.ishl, 1) := by decide +kernel
theorem dX0_countOrders_88 : decode cX0_countOrders 88 = .ok (.ior, 1) := by decide +kernel
theorem dX0_countOrders_89 : decode cX0_countOrders 89 = .ok (.istore 5, 2) := by decide +kernel
theorem dX0_countOrders_91 : decode cX0_countOrders 91 = .ok (.iload 5, 2) := by decide +kernel
theorem dX0_countOrders_93 : decode cX0_countOrders 93 = .ok (.iload_n 3, 1) := by decide +kernel
theorem dX0_countOrders_94 : decode cX0_countOrders 94 = .ok (.if_icmp .eq 43, 3) := by decide +kernel
theorem dX0_countOrders_97 : decode cX0_countOrders 97 = .ok (.iload 5, 2) := by decide +kernel
theorem dX0_countOrders_99 : decode cX0_countOrders 99 = .ok (.aload_n 0, 1) := by decide +kernel
theorem dX0_countOrders_100 : decode cX0_countOrders 100 = .ok (.getfield 9, 3) := by decide +kernel
theorem dX0_countOrders_103 : decode cX0_countOrders 103 = .ok (.arraylength, 1) := by decide +kernel
theorem dX0_countOrders_104 : decode cX0_countOrders 104 = .ok (.if_icmp .ge 33, 3) := by decide +kernel
theorem dX0_countOrders_107 : decode cX0_countOrders 107 = .ok (.aload_n 1, 1) := by decide +kernel
theorem dX0_countOrders_108 : decode cX0_countOrders 108 = .ok (.getfield 36, 3) := by decide +kernel
theorem dX0_countOrders_111 : decode cX0_countOrders 111 = .ok (.iload 4, 2) := by decide +kernel
theorem dX0_countOrders_113 : decode cX0_countOrders 113 = .ok (.iaload, 1) := by decide +kernel
theorem dX0_countOrders_114 : decode cX0_countOrders 114 = .ok (.iload_n 3, 1) := by decide +kernel
theorem dX0_countOrders_115 : decode cX0_countOrders 115 = .ok (.iconst (-1), 1) := by decide +kernel
theorem dX0_countOrders_116 : decode cX0_countOrders 116 = .ok (.ixor, 1) := by decide +kernel
theorem dX0_countOrders_117 : decode cX0_countOrders 117 = .ok (.iand, 1) := by decide +kernel
theorem dX0_countOrders_118 : decode cX0_countOrders 118 = .ok (.ifCond .ne 19, 3) := by decide +kernel
theorem dX0_countOrders_121 : decode cX0_countOrders 121 = .ok (.aload_n 0, 1) := by decide +kernel
theorem dX0_countOrders_122 : decode cX0_countOrders 122 = .ok (.getfield 9, 3) := by decide +kernel
theorem dX0_countOrders_125 : decode cX0_countOrders 125 = .ok (.iload 5, 2) := by decide +kernel
theorem dX0_countOrders_127 : decode cX0_countOrders 127 = .ok (.dup2, 1) := by decide +kernel
theorem dX0_countOrders_128 : decode cX0_countOrders 128 = .ok (.iaload, 1) := by decide +kernel
theorem dX0_countOrders_129 : decode cX0_countOrders 129 = .ok (.aload_n 0, 1) := by decide +kernel
theorem dX0_countOrders_130 : decode cX0_countOrders 130 = .ok (.getfield 9, 3) := by decide +kernel
theorem dX0_countOrders_133 : decode cX0_countOrders 133 = .ok (.iload_n 3, 1) := by decide +kernel
theorem dX0_countOrders_134 : decode cX0_countOrders 134 = .ok (.iaload, 1) := by decide +kernel
theorem dX0_countOrders_135 : decode cX0_countOrders 135 = .ok (.iadd, 1) := by decide +kernel
theorem dX0_countOrders_136 : decode cX0_countOrders 136 = .ok (.iastore, 1) := by decide +kernel
theorem dX0_countOrders_137 : decode cX0_countOrders 137 = .ok (.iinc 4 1, 3) := by decide +kernel
theorem dX0_countOrders_140 : decode cX0_countOrders 140 = .ok (.goto (-76), 3) := by decide +kernel
theorem dX0_countOrders_143 : decode cX0_countOrders 143 = .ok (.iinc 3 1, 3) := by decide +kernel
theorem dX0_countOrders_146 : decode cX0_countOrders 146 = .ok (.goto (-99), 3) := by decide +kernel
theorem dX0_countOrders_149 : decode cX0_countOrders 149 = .ok (.iload_n 2, 1) := by decide +kernel
theorem dX0_countOrders_150 : decode cX0_countOrders 150 = .ok (.ifCond .lt 21, 3) := by decide +kernel
theorem dX0_countOrders_153 : decode cX0_countOrders 153 = .ok (.iload_n 2, 1) := by decide +kernel
theorem dX0_countOrders_154 : decode cX0_countOrders 154 = .ok (.aload_n 0, 1) := by decide +kernel
theorem dX0_countOrders_155 : decode cX0_countOrders 155 = .ok (.getfield 9, 3) := by decide +kernel
theorem dX0_countOrders_158 : decode cX0_countOrders 158 = .ok (.arraylength, 1) := by decide +kernel
theorem dX0_countOrders_159 : decode cX0_countOrders 159 = .ok (.if_icmp .ge 12, 3) := by decide +kernel
theorem dX0_countOrders_162 : decode cX0_countOrders 162 = .ok (.aload_n 0, 1) := by decide +kernel
theorem dX0_countOrders_163 : decode cX0_countOrders 163 = .ok (.getfield 9, 3) := by decide +kernel
theorem dX0_countOrders_166 : decode cX0_countOrders 166 = .ok (.iload_n 2, 1) := by decide +kernel
theorem dX0_countOrders_167 : decode cX0_countOrders 167 = .ok (.iaload, 1) := by decide +kernel
theorem dX0_countOrders_168 : decode cX0_countOrders 168 = .ok (.goto 4, 3) := by decide +kernel
theorem dX0_countOrders_171 : decode cX0_countOrders 171 = .ok (.iconst 0, 1) := by decide +kernel
theorem dX0_countOrders_172 : decode cX0_countOrders 172 = .ok (.ireturn, 1) := by decide +kernel
set_option maxHeartbeats 4000000 in
set_option maxRecDepth 100000 in
theorem ctX0_countOrders {p1 : Int} {σ : jq_M} {res : Int} {σ' : jq_M} (hp1 : jq_com p1) (h : X0_countOrders p1 σ = some (res, σ')) : jq_MC jq_zX yX0_countOrders cX0_countOrders 6 (some .int) 1 40 [jR 57, jR p1] σ (some (jI res)) σ' := by
  refine jq_met (own := RX0) (L0 := [(0, jR 57), (1, jR p1)]) (by decide) rfl rfl rfl ?_
  intro X Γ hnl hlY hRT
  refine jq_use2 (P := fun r => jq_RT jq_zX X (some .int) (some (jI r.1)) r.2) ?_ h hRT
  intro K0 hK0
  unfold X0_countOrders
  have hj149_0 : ∀ (j22 : Int) (s23 : jq_M), jq_J (X0_countOrders_j149 j22 s23) K0 (jq_V jq_zX X (jq_zN jq_zX) s23 149 [(0, jR 57), (2, jI j22)] []) := by
    intro j22 s23
    unfold X0_countOrders_j149
    refine jq_iload_n Γ dX0_countOrders_149 rfl 1 rfl ?_
    refine jq_if_lt (tgt := 171) Γ dX0_countOrders_150 rfl ?_ ?_
    · refine jq_iconst Γ dX0_countOrders_171 rfl ?_
      exact jq_ireturn Γ dX0_countOrders_172 (hK0 _)
    · refine jq_iload_n Γ dX0_countOrders_153 rfl 1 rfl ?_
      refine jq_aload_n Γ dX0_countOrders_154 rfl 0 rfl (jq_at_0 at_X_57) ?_
      refine jq_getR (v := 58) Γ hlY at_X_57 fl_RX0_9 rfl rfl ly_X0_ways dX0_countOrders_155 ?_
      refine jq_alen Γ at_X_58 rfl rfl rfl dX0_countOrders_158 ?_
      refine jq_icmp_ge (tgt := 171) Γ dX0_countOrders_159 rfl ?_ ?_
      · refine jq_iconst Γ dX0_countOrders_171 rfl ?_
        exact jq_ireturn Γ dX0_countOrders_172 (hK0 _)
      · refine jq_aload_n Γ dX0_countOrders_162 rfl 0 rfl (jq_at_0 at_X_57) ?_
        refine jq_getR (v := 58) Γ hlY at_X_57 fl_RX0_9 rfl rfl ly_X0_ways dX0_countOrders_163 ?_
        refine jq_iload_n Γ dX0_countOrders_166 rfl 1 rfl ?_
        refine jq_iald Γ at_X_58 rfl dX0_countOrders_167 (fun v24 => ?_)
        refine jq_goto Γ (tgt := 172) dX0_countOrders_168 rfl ?_
        exact jq_ireturn Γ dX0_countOrders_172 (hK0 _)
  refine jq_iconst Γ dX0_countOrders_0 rfl ?_
  refine jq_aload_n Γ dX0_countOrders_1 rfl 1 rfl (jq_at_0 (at_com hp1)) ?_
  refine jq_getI (J := 4) Γ (at_com hp1) fl_RX0_18 rfl rfl dX0_countOrders_2 ?_
  refine jq_ishl Γ dX0_countOrders_5 ?_
  refine jq_iconst Γ dX0_countOrders_6 rfl ?_
  refine jq_isub Γ dX0_countOrders_7 ?_
  refine jq_nmI (fun v1 => ?_)
  refine jq_istore_n (L' := [(2, jI v1), (0, jR 57), (1, jR p1)]) Γ dX0_countOrders_8 rfl hnl rfl rfl ?_
  refine jq_iconst Γ dX0_countOrders_9 rfl ?_
  refine jq_istore_n (L' := [(3, jI 0), (2, jI v1), (0, jR 57), (1, jR p1)]) Γ dX0_countOrders_10 rfl hnl rfl rfl ?_
  refine jq_sub Γ (L' := [(0, jR 57), (1, jR p1), (2, jI v1), (3, jI 0)]) [2, 3, 1, 0] rfl ?_
  refine jq_loop2 (C := fun (t2 : Int × jq_M) => jq_V jq_zX X (jq_zN jq_zX) t2.2 11 [(0, jR 57), (1, jR p1), (2, jI v1), (3, jI t2.1)] []) (KX := fun (e7 : jq_M) => jq_V jq_zX X (jq_zN jq_zX) e7 45 [(0, jR 57), (1, jR p1), (2, jI v1)] []) ?_ ?_ (0, σ)
  · intro K11_t2 hCt2 hXt2 t2
    unfold X0_countOrders_b11
    refine jq_iload_n Γ dX0_countOrders_11 rfl 3 rfl ?_
    refine jq_aload_n Γ dX0_countOrders_12 rfl 0 rfl (jq_at_0 at_X_57) ?_
    refine jq_getR (v := 58) Γ hlY at_X_57 fl_RX0_9 rfl rfl ly_X0_ways dX0_countOrders_13 ?_
    refine jq_alen Γ at_X_58 rfl rfl rfl dX0_countOrders_16 ?_
    refine jq_icmp_ge (tgt := 45) Γ dX0_countOrders_17 rfl ?_ ?_
    · refine jq_sub Γ (L' := [(0, jR 57), (1, jR p1), (2, jI v1)]) [0, 1, 2] rfl ?_
      exact jq_done (hXt2 t2.2)
    · refine jq_aload_n Γ dX0_countOrders_20 rfl 0 rfl (jq_at_0 at_X_57) ?_
      refine jq_getR (v := 58) Γ hlY at_X_57 fl_RX0_9 rfl rfl ly_X0_ways dX0_countOrders_21 ?_
      refine jq_iload_n Γ dX0_countOrders_24 rfl 3 rfl ?_
      refine jq_iload_n Γ dX0_countOrders_25 rfl 3 rfl ?_
      refine jq_aload_n Γ dX0_countOrders_26 rfl 1 rfl (jq_at_0 (at_com hp1)) ?_
      refine jq_getI (J := 5) Γ (at_com hp1) fl_RX0_33 rfl rfl dX0_countOrders_27 ?_
      refine jq_icmp_ne (tgt := 37) Γ dX0_countOrders_30 rfl ?_ ?_
      · refine jq_iconst Γ dX0_countOrders_37 rfl ?_
        refine jq_iast Γ at_X_58 rfl dX0_countOrders_38 (fun s3 => ?_)
        refine jq_iincN (L' := fun v4 => [(3, jI v4), (0, jR 57), (1, jR p1), (2, jI v1)]) Γ dX0_countOrders_39 3 rfl hnl rfl (fun _ => rfl) (fun v4 => ?_)
        refine jq_goto Γ (tgt := 11) dX0_countOrders_42 rfl ?_
        refine jq_sub Γ (L' := [(0, jR 57), (1, jR p1), (2, jI v1), (3, jI v4)]) [1, 2, 3, 0] rfl ?_
        exact jq_done (hCt2 (v4, s3))
      · refine jq_iconst Γ dX0_countOrders_33 rfl ?_
        refine jq_goto Γ (tgt := 38) dX0_countOrders_34 rfl ?_
        refine jq_iast Γ at_X_58 rfl dX0_countOrders_38 (fun s5 => ?_)
        refine jq_iincN (L' := fun v6 => [(3, jI v6), (0, jR 57), (1, jR p1), (2, jI v1)]) Γ dX0_countOrders_39 3 rfl hnl rfl (fun _ => rfl) (fun v6 => ?_)
        refine jq_goto Γ (tgt := 11) dX0_countOrders_42 rfl ?_
        refine jq_sub Γ (L' := [(0, jR 57), (1, jR p1), (2, jI v1), (3, jI v6)]) [1, 2, 3, 0] rfl ?_
        exact jq_done (hCt2 (v6, s5))
  · intro e7
    refine jq_iconst Γ dX0_countOrders_45 rfl ?_
    refine jq_istore_n (L' := [(3, jI 0), (0, jR 57), (1, jR p1), (2, jI v1)]) Γ dX0_countOrders_46 rfl hnl rfl rfl ?_
    refine jq_sub Γ (L' := [(0, jR 57), (1, jR p1), (2, jI v1), (3, jI 0)]) [1, 2, 3, 0] rfl ?_
    refine jq_loop2 (C := fun (t8 : Int × jq_M) => jq_V jq_zX X (jq_zN jq_zX) t8.2 47 [(0, jR 57), (1, jR p1), (2, jI v1), (3, jI t8.1)] []) (KX := fun (e21 : jq_M) => jq_V jq_zX X (jq_zN jq_zX) e21 149 [(0, jR 57), (2, jI v1)] []) ?_ ?_ (0, e7)
    · intro K47_t8 hCt8 hXt8 t8
      unfold X0_countOrders_b47
      refine jq_iload_n Γ dX0_countOrders_47 rfl 3 rfl ?_
      refine jq_iload_n Γ dX0_countOrders_48 rfl 2 rfl ?_
      refine jq_icmp_ge (tgt := 149) Γ dX0_countOrders_49 rfl ?_ ?_
      · refine jq_sub Γ (L' := [(0, jR 57), (2, jI v1)]) [0, 2] rfl ?_
        exact jq_done (hXt8 t8.2)
      · refine jq_iload_n Γ dX0_countOrders_52 rfl 3 rfl ?_
        refine jq_aload_n Γ dX0_countOrders_53 rfl 0 rfl (jq_at_0 at_X_57) ?_
        refine jq_getR (v := 58) Γ hlY at_X_57 fl_RX0_9 rfl rfl ly_X0_ways dX0_countOrders_54 ?_
        refine jq_alen Γ at_X_58 rfl rfl rfl dX0_countOrders_57 ?_
        refine jq_icmp_ge (tgt := 149) Γ dX0_countOrders_58 rfl ?_ ?_
        · refine jq_sub Γ (L' := [(0, jR 57), (2, jI v1)]) [0, 2] rfl ?_
          exact jq_done (hXt8 t8.2)
        · refine jq_iconst Γ dX0_countOrders_61 rfl ?_
          refine jq_istore (L' := [(4, jI 0), (0, jR 57), (1, jR p1), (2, jI v1), (3, jI t8.1)]) Γ dX0_countOrders_62 hnl rfl rfl ?_
          refine jq_sub Γ (L' := [(0, jR 57), (1, jR p1), (2, jI v1), (3, jI t8.1), (4, jI 0)]) [1, 2, 3, 4, 0] rfl ?_
          refine jq_loop2 (C := fun (t9 : Int × jq_M) => jq_V jq_zX X (jq_zN jq_zX) t9.2 64 [(0, jR 57), (1, jR p1), (2, jI v1), (3, jI t8.1), (4, jI t9.1)] []) (KX := fun (e19 : jq_M) => jq_V jq_zX X (jq_zN jq_zX) e19 143 [(0, jR 57), (1, jR p1), (2, jI v1), (3, jI t8.1)] []) ?_ ?_ (0, t8.2)
          · intro K64_t9 hCt9 hXt9 t9
            unfold X0_countOrders_b64
            refine jq_iload Γ dX0_countOrders_64 4 rfl ?_
            refine jq_aload_n Γ dX0_countOrders_66 rfl 1 rfl (jq_at_0 (at_com hp1)) ?_
            refine jq_getI (J := 4) Γ (at_com hp1) fl_RX0_18 rfl rfl dX0_countOrders_67 ?_
            refine jq_icmp_ge (tgt := 143) Γ dX0_countOrders_70 rfl ?_ ?_
            · refine jq_sub Γ (L' := [(0, jR 57), (1, jR p1), (2, jI v1), (3, jI t8.1)]) [0, 1, 2, 3] rfl ?_
              exact jq_done (hXt9 t9.2)
            · refine jq_iload Γ dX0_countOrders_73 4 rfl ?_
              refine jq_aload_n Γ dX0_countOrders_75 rfl 1 rfl (jq_at_0 (at_com hp1)) ?_
              refine jq_getR (v := (p1 + 11)) Γ hlY (at_com hp1) fl_RX0_36 rfl rfl (ly_X1_leansOn hp1) dX0_countOrders_76 ?_
              refine jq_alen Γ (at_com_11 hp1) rfl rfl rfl dX0_countOrders_79 ?_
              refine jq_icmp_ge (tgt := 143) Γ dX0_countOrders_80 rfl ?_ ?_
              · refine jq_sub Γ (L' := [(0, jR 57), (1, jR p1), (2, jI v1), (3, jI t8.1)]) [0, 1, 2, 3] rfl ?_
                exact jq_done (hXt9 t9.2)
              · refine jq_iload_n Γ dX0_countOrders_83 rfl 3 rfl ?_
                refine jq_iconst Γ dX0_countOrders_84 rfl ?_
                refine jq_iload Γ dX0_countOrders_85 4 rfl ?_
                refine jq_ishl Γ dX0_countOrders_87 ?_
                refine jq_ior Γ dX0_countOrders_88 ?_
                refine jq_nmI (fun v10 => ?_)
                refine jq_istore (L' := [(5, jI v10), (0, jR 57), (1, jR p1), (2, jI v1), (3, jI t8.1), (4, jI t9.1)]) Γ dX0_countOrders_89 hnl rfl rfl ?_
                refine jq_iload Γ dX0_countOrders_91 0 rfl ?_
                refine jq_iload_n Γ dX0_countOrders_93 rfl 4 rfl ?_
                refine jq_icmp_eq (tgt := 137) Γ dX0_countOrders_94 rfl ?_ ?_
                · refine jq_iincN (L' := fun v11 => [(4, jI v11), (5, jI v10), (0, jR 57), (1, jR p1), (2, jI v1), (3, jI t8.1)]) Γ dX0_countOrders_137 5 rfl hnl rfl (fun _ => rfl) (fun v11 => ?_)
                  refine jq_goto Γ (tgt := 64) dX0_countOrders_140 rfl ?_
                  refine jq_sub Γ (L' := [(0, jR 57), (1, jR p1), (2, jI v1), (3, jI t8.1), (4, jI v11)]) [2, 3, 4, 5, 0] rfl ?_
                  exact jq_done (hCt9 (v11, t9.2))
                · refine jq_iload Γ dX0_countOrders_97 0 rfl ?_
                  refine jq_aload_n Γ dX0_countOrders_99 rfl 1 rfl (jq_at_0 at_X_57) ?_
                  refine jq_getR (v := 58) Γ hlY at_X_57 fl_RX0_9 rfl rfl ly_X0_ways dX0_countOrders_100 ?_
                  refine jq_alen Γ at_X_58 rfl rfl rfl dX0_countOrders_103 ?_
                  refine jq_icmp_ge (tgt := 137) Γ dX0_countOrders_104 rfl ?_ ?_
                  · refine jq_iincN (L' := fun v12 => [(4, jI v12), (5, jI v10), (0, jR 57), (1, jR p1), (2, jI v1), (3, jI t8.1)]) Γ dX0_countOrders_137 5 rfl hnl rfl (fun _ => rfl) (fun v12 => ?_)
                    refine jq_goto Γ (tgt := 64) dX0_countOrders_140 rfl ?_
                    refine jq_sub Γ (L' := [(0, jR 57), (1, jR p1), (2, jI v1), (3, jI t8.1), (4, jI v12)]) [2, 3, 4, 5, 0] rfl ?_
                    exact jq_done (hCt9 (v12, t9.2))
                  · refine jq_aload_n Γ dX0_countOrders_107 rfl 2 rfl (jq_at_0 (at_com hp1)) ?_
                    refine jq_getR (v := (p1 + 11)) Γ hlY (at_com hp1) fl_RX0_36 rfl rfl (ly_X1_leansOn hp1) dX0_countOrders_108 ?_
                    refine jq_iload Γ dX0_countOrders_111 5 rfl ?_
                    refine jq_iald Γ (at_com_11 hp1) rfl dX0_countOrders_113 (fun v13 => ?_)
                    refine jq_iload_n Γ dX0_countOrders_114 rfl 4 rfl ?_
                    refine jq_iconst Γ dX0_countOrders_115 rfl ?_
                    refine jq_ixor Γ dX0_countOrders_116 ?_
                    refine jq_iand Γ dX0_countOrders_117 ?_
                    refine jq_if_ne (tgt := 137) Γ dX0_countOrders_118 rfl ?_ ?_
                    · refine jq_iincN (L' := fun v14 => [(4, jI v14), (5, jI v10), (0, jR 57), (1, jR p1), (2, jI v1), (3, jI t8.1)]) Γ dX0_countOrders_137 5 rfl hnl rfl (fun _ => rfl) (fun v14 => ?_)
                      refine jq_goto Γ (tgt := 64) dX0_countOrders_140 rfl ?_
                      refine jq_sub Γ (L' := [(0, jR 57), (1, jR p1), (2, jI v1), (3, jI t8.1), (4, jI v14)]) [2, 3, 4, 5, 0] rfl ?_
                      exact jq_done (hCt9 (v14, t9.2))
                    · refine jq_aload_n Γ dX0_countOrders_121 rfl 1 rfl (jq_at_0 at_X_57) ?_
                      refine jq_getR (v := 58) Γ hlY at_X_57 fl_RX0_9 rfl rfl ly_X0_ways dX0_countOrders_122 ?_
                      refine jq_iload Γ dX0_countOrders_125 0 rfl ?_
                      refine jq_dup2 Γ dX0_countOrders_127 rfl rfl ?_
                      refine jq_iald Γ at_X_58 rfl dX0_countOrders_128 (fun v15 => ?_)
                      refine jq_aload_n Γ dX0_countOrders_129 rfl 1 rfl (jq_at_0 at_X_57) ?_
                      refine jq_getR (v := 58) Γ hlY at_X_57 fl_RX0_9 rfl rfl ly_X0_ways dX0_countOrders_130 ?_
                      refine jq_iload_n Γ dX0_countOrders_133 rfl 4 rfl ?_
                      refine jq_iald Γ at_X_58 rfl dX0_countOrders_134 (fun v16 => ?_)
                      refine jq_iadd Γ dX0_countOrders_135 ?_
                      refine jq_iast Γ at_X_58 rfl dX0_countOrders_136 (fun s17 => ?_)
                      refine jq_iincN (L' := fun v18 => [(4, jI v18), (5, jI v10), (0, jR 57), (1, jR p1), (2, jI v1), (3, jI t8.1)]) Γ dX0_countOrders_137 5 rfl hnl rfl (fun _ => rfl) (fun v18 => ?_)
                      refine jq_goto Γ (tgt := 64) dX0_countOrders_140 rfl ?_
                      refine jq_sub Γ (L' := [(0, jR 57), (1, jR p1), (2, jI v1), (3, jI t8.1), (4, jI v18)]) [2, 3, 4, 5, 0] rfl ?_
                      exact jq_done (hCt9 (v18, s17))
          · intro e19
            refine jq_iincN (L' := fun v20 => [(3, jI v20), (0, jR 57), (1, jR p1), (2, jI v1)]) Γ dX0_countOrders_143 3 rfl hnl rfl (fun _ => rfl) (fun v20 => ?_)
            refine jq_goto Γ (tgt := 47) dX0_countOrders_146 rfl ?_
            refine jq_sub Γ (L' := [(0, jR 57), (1, jR p1), (2, jI v1), (3, jI v20)]) [1, 2, 3, 0] rfl ?_
            exact jq_done (hCt8 (v20, e19))
    · intro e21
      exact hj149_0 v1 e21


theorem dX10_orders_0 : decode cX10_orders 0 = .ok (.aload_n 0, 1) := by decide +kernel
theorem dX10_orders_1 : decode cX10_orders 1 = .ok (.aload_n 0, 1) := by decide +kernel
theorem dX10_orders_2 : decode cX10_orders 2 = .ok (.getfield 53, 3) := by decide +kernel
theorem dX10_orders_5 : decode cX10_orders 5 = .ok (.aload_n 0, 1) := by decide +kernel
theorem dX10_orders_6 : decode cX10_orders 6 = .ok (.getfield 25, 3) := by decide +kernel
theorem dX10_orders_9 : decode cX10_orders 9 = .ok (.invokevirtual 400, 3) := by decide +kernel
theorem dX10_orders_12 : decode cX10_orders 12 = .ok (.invokevirtual 167, 3) := by decide +kernel
theorem dX10_orders_15 : decode cX10_orders 15 = .ok (.ireturn, 1) := by decide +kernel
set_option maxHeartbeats 4000000 in
set_option maxRecDepth 100000 in
theorem ctX10_orders  {σ : jq_M} {res : Int} {σ' : jq_M}  (h : X10_orders σ = some (res, σ')) : jq_MC jq_zX yX10_orders cX10_orders 1 (some .int) 2 65 [jR 0] σ (some (jI res)) σ' := by
  refine jq_met (own := RX10) (L0 := [(0, jR 0)]) (by decide) rfl rfl rfl ?_
  intro X Γ hnl hlY hRT
  refine jq_use2 (P := fun r => jq_RT jq_zX X (some .int) (some (jI r.1)) r.2) ?_ h hRT
  intro K0 hK0
  unfold X10_orders
  refine jq_aload_n Γ dX10_orders_0 rfl 0 rfl (jq_at_0 at_X_0) ?_
  refine jq_aload_n Γ dX10_orders_1 rfl 0 rfl (jq_at_0 at_X_0) ?_
  refine jq_getR (v := 57) Γ hlY at_X_0 fl_RX10_53 rfl rfl ly_X10_agenda dX10_orders_2 ?_
  refine jq_aload_n Γ dX10_orders_5 rfl 0 rfl (jq_at_0 at_X_0) ?_
  refine jq_getC (C := jq_cm2) Γ hlY at_X_0 fl_RX10_25 rfl rfl ly_now dX10_orders_6 (fun c1 hc2q => ?_)
  have hc2 := jq_cm2_com hc2q
  refine jq_cwI (jq_virt (avs := [jR c1]) (st := [jR 0]) Γ hlY rfl ml_RX10_400 rfl at_X_57 rfl rfl rfl rfl rfl dX10_orders_9) (fun r σ' h => ctX0_countOrders hc2 h) (fun v3 s4 => ?_)
  refine jq_cwI (jq_virt (avs := [jI v3]) (st := []) Γ hlY rfl ml_RX10_167 rfl at_X_0 rfl rfl rfl rfl rfl dX10_orders_12) (fun r σ' h => ctX10_answer h) (fun v5 s6 => ?_)
  exact jq_ireturn Γ dX10_orders_15 (hK0 _)


theorem dX1_takeFrom_0 : decode cX1_takeFrom 0 = .ok (.aload_n 0, 1) := by decide +kernel
theorem dX1_takeFrom_1 : decode cX1_takeFrom 1 = .ok (.aload_n 1, 1) := by decide +kernel
theorem dX1_takeFrom_2 : decode cX1_takeFrom 2 = .ok (.getfield 59, 3) := by decide +kernel
theorem dX1_takeFrom_5 : decode cX1_takeFrom 5 = .ok (.putfield 59, 3) := by decide +kernel
theorem dX1_takeFrom_8 : decode cX1_takeFrom 8 = .ok (.aload_n 0, 1) := by decide +kernel
theorem dX1_takeFrom_9 : decode cX1_takeFrom 9 = .ok (.aload_n 1, 1) := by decide +kernel
theorem dX1_takeFrom_10 : decode cX1_takeFrom 10 = .ok (.getfield 63, 3) := by decide +kernel
theorem dX1_takeFrom_13 : decode cX1_takeFrom 13 = .ok (.putfield 63, 3) := by decide +kernel
theorem dX1_takeFrom_16 : decode cX1_takeFrom 16 = .ok (.aload_n 0, 1) := by decide +kernel
theorem dX1_takeFrom_17 : decode cX1_takeFrom 17 = .ok (.aload_n 1, 1) := by decide +kernel
theorem dX1_takeFrom_18 : decode cX1_takeFrom 18 = .ok (.getfield 66, 3) := by decide +kernel
theorem dX1_takeFrom_21 : decode cX1_takeFrom 21 = .ok (.putfield 66, 3) := by decide +kernel
theorem dX1_takeFrom_24 : decode cX1_takeFrom 24 = .ok (.aload_n 0, 1) := by decide +kernel
theorem dX1_takeFrom_25 : decode cX1_takeFrom 25 = .ok (.aload_n 1, 1) := by decide +kernel
theorem dX1_takeFrom_26 : decode cX1_takeFrom 26 = .ok (.getfield 69, 3) := by decide +kernel
theorem dX1_takeFrom_29 : decode cX1_takeFrom 29 = .ok (.putfield 69, 3) := by decide +kernel
theorem dX1_takeFrom_32 : decode cX1_takeFrom 32 = .ok (.aload_n 0, 1) := by decide +kernel
theorem dX1_takeFrom_33 : decode cX1_takeFrom 33 = .ok (.aload_n 1, 1) := by decide +kernel
theorem dX1_takeFrom_34 : decode cX1_takeFrom 34 = .ok (.getfield 72, 3) := by decide +kernel
theorem dX1_takeFrom_37 : decode cX1_takeFrom 37 = .ok (.putfield 72, 3) := by decide +kernel
theorem dX1_takeFrom_40 : decode cX1_takeFrom 40 = .ok (.aload_n 0, 1) := by decide +kernel
theorem dX1_takeFrom_41 : decode cX1_takeFrom 41 = .ok (.aload_n 1, 1) := by decide +kernel
theorem dX1_takeFrom_42 : decode cX1_takeFrom 42 = .ok (.getfield 75, 3) := by decide +kernel
theorem dX1_takeFrom_45 : decode cX1_takeFrom 45 = .ok (.putfield 75, 3) := by decide +kernel
theorem dX1_takeFrom_48 : decode cX1_takeFrom 48 = .ok (.aload_n 0, 1) := by decide +kernel
theorem dX1_takeFrom_49 : decode cX1_takeFrom 49 = .ok (.aload_n 1, 1) := by decide +kernel
theorem dX1_takeFrom_50 : decode cX1_takeFrom 50 = .ok (.getfield 78, 3) := by decide +kernel
theorem dX1_takeFrom_53 : decode cX1_takeFrom 53 = .ok (.putfield 78, 3) := by decide +kernel
theorem dX1_takeFrom_56 : decode cX1_takeFrom 56 = .ok (.aload_n 1, 1) := by decide +kernel
theorem dX1_takeFrom_57 : decode cX1_takeFrom 57 = .ok (.getfield 9, 3) := by decide +kernel
theorem dX1_takeFrom_60 : decode cX1_takeFrom 60 = .ok (.iconst 0, 1) := by decide +kernel
theorem dX1_takeFrom_61 : decode cX1_takeFrom 61 = .ok (.aload_n 0, 1) := by decide +kernel
theorem dX1_takeFrom_62 : decode cX1_takeFrom 62 = .ok (.getfield 9, 3) := by decide +kernel
theorem dX1_takeFrom_65 : decode cX1_takeFrom 65 = .ok (.iconst 0, 1) := by decide +kernel
theorem dX1_takeFrom_66 : decode cX1_takeFrom 66 = .ok (.iconst 5, 1) := by decide +kernel
theorem dX1_takeFrom_67 : decode cX1_takeFrom 67 = .ok (.invokestatic 84, 3) := by decide +kernel
theorem dX1_takeFrom_70 : decode cX1_takeFrom 70 = .ok (.aload_n 1, 1) := by decide +kernel
theorem dX1_takeFrom_71 : decode cX1_takeFrom 71 = .ok (.getfield 15, 3) := by decide +kernel
theorem dX1_takeFrom_74 : decode cX1_takeFrom 74 = .ok (.iconst 0, 1) := by decide +kernel
theorem dX1_takeFrom_75 : decode cX1_takeFrom 75 = .ok (.aload_n 0, 1) := by decide +kernel
theorem dX1_takeFrom_76 : decode cX1_takeFrom 76 = .ok (.getfield 15, 3) := by decide +kernel
theorem dX1_takeFrom_79 : decode cX1_takeFrom 79 = .ok (.iconst 0, 1) := by decide +kernel
theorem dX1_takeFrom_80 : decode cX1_takeFrom 80 = .ok (.iconst 5, 1) := by decide +kernel
theorem dX1_takeFrom_81 : decode cX1_takeFrom 81 = .ok (.invokestatic 84, 3) := by decide +kernel
theorem dX1_takeFrom_84 : decode cX1_takeFrom 84 = .ok (.aload_n 1, 1) := by decide +kernel
theorem dX1_takeFrom_85 : decode cX1_takeFrom 85 = .ok (.getfield 19, 3) := by decide +kernel
theorem dX1_takeFrom_88 : decode cX1_takeFrom 88 = .ok (.iconst 0, 1) := by decide +kernel
theorem dX1_takeFrom_89 : decode cX1_takeFrom 89 = .ok (.aload_n 0, 1) := by decide +kernel
theorem dX1_takeFrom_90 : decode cX1_takeFrom 90 = .ok (.getfield 19, 3) := by decide +kernel
theorem dX1_takeFrom_93 : decode cX1_takeFrom 93 = .ok (.iconst 0, 1) := by decide +kernel
theorem dX1_takeFrom_94 : decode cX1_takeFrom 94 = .ok (.iconst 5, 1) := by decide +kernel
theorem dX1_takeFrom_95 : decode cX1_takeFrom 95 = .ok (.invokestatic 84, 3) := by decide +kernel
theorem dX1_takeFrom_98 : decode cX1_takeFrom 98 = .ok (.aload_n 1, 1) := by decide +kernel
theorem dX1_takeFrom_99 : decode cX1_takeFrom 99 = .ok (.getfield 22, 3) := by decide +kernel
theorem dX1_takeFrom_102 : decode cX1_takeFrom 102 = .ok (.iconst 0, 1) := by decide +kernel
theorem dX1_takeFrom_103 : decode cX1_takeFrom 103 = .ok (.aload_n 0, 1) := by decide +kernel
theorem dX1_takeFrom_104 : decode cX1_takeFrom 104 = .ok (.getfield 22, 3) := by decide +kernel
theorem dX1_takeFrom_107 : decode cX1_takeFrom 107 = .ok (.iconst 0, 1) := by decide +kernel
theorem dX1_takeFrom_108 : decode cX1_takeFrom 108 = .ok (.bipush 20, 2) := by decide +kernel
theorem dX1_takeFrom_110 : decode cX1_takeFrom 110 = .ok (.invokestatic 84, 3) := by decide +kernel
theorem dX1_takeFrom_113 : decode cX1_takeFrom 113 = .ok (.aload_n 1, 1) := by decide +kernel
theorem dX1_takeFrom_114 : decode cX1_takeFrom 114 = .ok (.getfield 25, 3) := by decide +kernel
theorem dX1_takeFrom_117 : decode cX1_takeFrom 117 = .ok (.iconst 0, 1) := by decide +kernel
theorem dX1_takeFrom_118 : decode cX1_takeFrom 118 = .ok (.aload_n 0, 1) := by decide +kernel
theorem dX1_takeFrom_119 : decode cX1_takeFrom 119 = .ok (.getfield 25, 3) := by decide +kernel
theorem dX1_takeFrom_122 : decode cX1_takeFrom 122 = .ok (.iconst 0, 1) := by decide +kernel
theorem dX1_takeFrom_123 : decode cX1_takeFrom 123 = .ok (.bipush 20, 2) := by decide +kernel
theorem dX1_takeFrom_125 : decode cX1_takeFrom 125 = .ok (.invokestatic 84, 3) := by decide +kernel
theorem dX1_takeFrom_128 : decode cX1_takeFrom 128 = .ok (.aload_n 1, 1) := by decide +kernel
theorem dX1_takeFrom_129 : decode cX1_takeFrom 129 = .ok (.getfield 28, 3) := by decide +kernel
theorem dX1_takeFrom_132 : decode cX1_takeFrom 132 = .ok (.iconst 0, 1) := by decide +kernel
theorem dX1_takeFrom_133 : decode cX1_takeFrom 133 = .ok (.aload_n 0, 1) := by decide +kernel
theorem dX1_takeFrom_134 : decode cX1_takeFrom 134 = .ok (.getfield 28, 3) := by decide +kernel
theorem dX1_takeFrom_137 : decode cX1_takeFrom 137 = .ok (.iconst 0, 1) := by decide +kernel
theorem dX1_takeFrom_138 : decode cX1_takeFrom 138 = .ok (.bipush 20, 2) := by decide +kernel
theorem dX1_takeFrom_140 : decode cX1_takeFrom 140 = .ok (.invokestatic 84, 3) := by decide +kernel
theorem dX1_takeFrom_143 : decode cX1_takeFrom 143 = .ok (.aload_n 1, 1) := by decide +kernel
theorem dX1_takeFrom_144 : decode cX1_takeFrom 144 = .ok (.getfield 31, 3) := by decide +kernel
theorem dX1_takeFrom_147 : decode cX1_takeFrom 147 = .ok (.iconst 0, 1) := by decide +kernel
theorem dX1_takeFrom_148 : decode cX1_takeFrom 148 = .ok (.aload_n 0, 1) := by decide +kernel
theorem dX1_takeFrom_149 : decode cX1_takeFrom 149 = .ok (.getfield 31, 3) := by decide +kernel
theorem dX1_takeFrom_152 : decode cX1_takeFrom 152 = .ok (.iconst 0, 1) := by decide +kernel
theorem dX1_takeFrom_153 : decode cX1_takeFrom 153 = .ok (.bipush 20, 2) := by decide +kernel
theorem dX1_takeFrom_155 : decode cX1_takeFrom 155 = .ok (.invokestatic 84, 3) := by decide +kernel
theorem dX1_takeFrom_158 : decode cX1_takeFrom 158 = .ok (.aload_n 1, 1) := by decide +kernel
theorem dX1_takeFrom_159 : decode cX1_takeFrom 159 = .ok (.getfield 34, 3) := by decide +kernel
theorem dX1_takeFrom_162 : decode cX1_takeFrom 162 = .ok (.iconst 0, 1) := by decide +kernel
theorem dX1_takeFrom_163 : decode cX1_takeFrom 163 = .ok (.aload_n 0, 1) := by decide +kernel
theorem dX1_takeFrom_164 : decode cX1_takeFrom 164 = .ok (.getfield 34, 3) := by decide +kernel
theorem dX1_takeFrom_167 : decode cX1_takeFrom 167 = .ok (.iconst 0, 1) := by decide +kernel
theorem dX1_takeFrom_168 : decode cX1_takeFrom 168 = .ok (.bipush 8, 2) := by decide +kernel
theorem dX1_takeFrom_170 : decode cX1_takeFrom 170 = .ok (.invokestatic 84, 3) := by decide +kernel
theorem dX1_takeFrom_173 : decode cX1_takeFrom 173 = .ok (.aload_n 1, 1) := by decide +kernel
theorem dX1_takeFrom_174 : decode cX1_takeFrom 174 = .ok (.getfield 37, 3) := by decide +kernel
theorem dX1_takeFrom_177 : decode cX1_takeFrom 177 = .ok (.iconst 0, 1) := by decide +kernel
theorem dX1_takeFrom_178 : decode cX1_takeFrom 178 = .ok (.aload_n 0, 1) := by decide +kernel
theorem dX1_takeFrom_179 : decode cX1_takeFrom 179 = .ok (.getfield 37, 3) := by decide +kernel
theorem dX1_takeFrom_182 : decode cX1_takeFrom 182 = .ok (.iconst 0, 1) := by decide +kernel
theorem dX1_takeFrom_183 : decode cX1_takeFrom 183 = .ok (.bipush 8, 2) := by decide +kernel
theorem dX1_takeFrom_185 : decode cX1_takeFrom 185 = .ok (.invokestatic 84, 3) := by decide +kernel
theorem dX1_takeFrom_188 : decode cX1_takeFrom 188 = .ok (.aload_n 1, 1) := by decide +kernel
theorem dX1_takeFrom_189 : decode cX1_takeFrom 189 = .ok (.getfield 40, 3) := by decide +kernel
theorem dX1_takeFrom_192 : decode cX1_takeFrom 192 = .ok (.iconst 0, 1) := by decide +kernel
theorem dX1_takeFrom_193 : decode cX1_takeFrom 193 = .ok (.aload_n 0, 1) := by decide +kernel
theorem dX1_takeFrom_194 : decode cX1_takeFrom 194 = .ok (.getfield 40, 3) := by decide +kernel
theorem dX1_takeFrom_197 : decode cX1_takeFrom 197 = .ok (.iconst 0, 1) := by decide +kernel
theorem dX1_takeFrom_198 : decode cX1_takeFrom 198 = .ok (.bipush 8, 2) := by decide +kernel
theorem dX1_takeFrom_200 : decode cX1_takeFrom 200 = .ok (.invokestatic 84, 3) := by decide +kernel
theorem dX1_takeFrom_203 : decode cX1_takeFrom 203 = .ok (.aload_n 1, 1) := by decide +kernel
theorem dX1_takeFrom_204 : decode cX1_takeFrom 204 = .ok (.getfield 43, 3) := by decide +kernel
theorem dX1_takeFrom_207 : decode cX1_takeFrom 207 = .ok (.iconst 0, 1) := by decide +kernel
theorem dX1_takeFrom_208 : decode cX1_takeFrom 208 = .ok (.aload_n 0, 1) := by decide +kernel
theorem dX1_takeFrom_209 : decode cX1_takeFrom 209 = .ok (.getfield 43, 3) := by decide +kernel
theorem dX1_takeFrom_212 : decode cX1_takeFrom 212 = .ok (.iconst 0, 1) := by decide +kernel
theorem dX1_takeFrom_213 : decode cX1_takeFrom 213 = .ok (.bipush 8, 2) := by decide +kernel
theorem dX1_takeFrom_215 : decode cX1_takeFrom 215 = .ok (.invokestatic 84, 3) := by decide +kernel
theorem dX1_takeFrom_218 : decode cX1_takeFrom 218 = .ok (.aload_n 1, 1) := by decide +kernel
theorem dX1_takeFrom_219 : decode cX1_takeFrom 219 = .ok (.getfield 46, 3) := by decide +kernel
theorem dX1_takeFrom_222 : decode cX1_takeFrom 222 = .ok (.iconst 0, 1) := by decide +kernel
theorem dX1_takeFrom_223 : decode cX1_takeFrom 223 = .ok (.aload_n 0, 1) := by decide +kernel
theorem dX1_takeFrom_224 : decode cX1_takeFrom 224 = .ok (.getfield 46, 3) := by decide +kernel
theorem dX1_takeFrom_227 : decode cX1_takeFrom 227 = .ok (.iconst 0, 1) := by decide +kernel
theorem dX1_takeFrom_228 : decode cX1_takeFrom 228 = .ok (.bipush 8, 2) := by decide +kernel
theorem dX1_takeFrom_230 : decode cX1_takeFrom 230 = .ok (.invokestatic 84, 3) := by decide +kernel
theorem dX1_takeFrom_233 : decode cX1_takeFrom 233 = .ok (.aload_n 0, 1) := by decide +kernel
theorem dX1_takeFrom_234 : decode cX1_takeFrom 234 = .ok (.getfield 52, 3) := by decide +kernel
theorem dX1_takeFrom_237 : decode cX1_takeFrom 237 = .ok (.aload_n 1, 1) := by decide +kernel
theorem dX1_takeFrom_238 : decode cX1_takeFrom 238 = .ok (.getfield 52, 3) := by decide +kernel
theorem dX1_takeFrom_241 : decode cX1_takeFrom 241 = .ok (.invokevirtual 90, 3) := by decide +kernel
theorem dX1_takeFrom_244 : decode cX1_takeFrom 244 = .ok (.return_, 1) := by decide +kernel
set_option maxHeartbeats 4000000 in
set_option maxRecDepth 100000 in
theorem ctX1_takeFrom {o : Int} {p1 : Int} {σ : jq_M} {σ' : jq_M} (ho : jq_com o) (hp1 : jq_com p1) (h : X1_takeFrom o p1 σ = some σ') : jq_MC jq_zX yX1_takeFrom cX1_takeFrom 2 none 2 61 [jR o, jR p1] σ none σ' := by
  refine jq_met (own := RX1) (L0 := [(0, jR o), (1, jR p1)]) (by decide) rfl rfl rfl ?_
  intro X Γ hnl hlY hRT
  refine jq_use2 (P := fun r => jq_RT jq_zX X none none r) ?_ h hRT
  intro K0 hK0
  unfold X1_takeFrom
  refine jq_aload_n Γ dX1_takeFrom_0 rfl 0 rfl (jq_at_0 (at_com ho)) ?_
  refine jq_aload_n Γ dX1_takeFrom_1 rfl 1 rfl (jq_at_0 (at_com hp1)) ?_
  refine jq_getI (J := 0) Γ (at_com hp1) fl_RX1_59 rfl rfl dX1_takeFrom_2 ?_
  refine jq_putI Γ (at_com ho) fl_RX1_59 rfl rfl dX1_takeFrom_5 (fun s1 => ?_)
  refine jq_aload_n Γ dX1_takeFrom_8 rfl 0 rfl (jq_at_0 (at_com ho)) ?_
  refine jq_aload_n Γ dX1_takeFrom_9 rfl 1 rfl (jq_at_0 (at_com hp1)) ?_
  refine jq_getI (J := 1) Γ (at_com hp1) fl_RX1_63 rfl rfl dX1_takeFrom_10 ?_
  refine jq_putI Γ (at_com ho) fl_RX1_63 rfl rfl dX1_takeFrom_13 (fun s2 => ?_)
  refine jq_aload_n Γ dX1_takeFrom_16 rfl 0 rfl (jq_at_0 (at_com ho)) ?_
  refine jq_aload_n Γ dX1_takeFrom_17 rfl 1 rfl (jq_at_0 (at_com hp1)) ?_
  refine jq_getI (J := 2) Γ (at_com hp1) fl_RX1_66 rfl rfl dX1_takeFrom_18 ?_
  refine jq_putI Γ (at_com ho) fl_RX1_66 rfl rfl dX1_takeFrom_21 (fun s3 => ?_)
  refine jq_aload_n Γ dX1_takeFrom_24 rfl 0 rfl (jq_at_0 (at_com ho)) ?_
  refine jq_aload_n Γ dX1_takeFrom_25 rfl 1 rfl (jq_at_0 (at_com hp1)) ?_
  refine jq_getI (J := 3) Γ (at_com hp1) fl_RX1_69 rfl rfl dX1_takeFrom_26 ?_
  refine jq_putI Γ (at_com ho) fl_RX1_69 rfl rfl dX1_takeFrom_29 (fun s4 => ?_)
  refine jq_aload_n Γ dX1_takeFrom_32 rfl 0 rfl (jq_at_0 (at_com ho)) ?_
  refine jq_aload_n Γ dX1_takeFrom_33 rfl 1 rfl (jq_at_0 (at_com hp1)) ?_
  refine jq_getI (J := 4) Γ (at_com hp1) fl_RX1_72 rfl rfl dX1_takeFrom_34 ?_
  refine jq_putI Γ (at_com ho) fl_RX1_72 rfl rfl dX1_takeFrom_37 (fun s5 => ?_)
  refine jq_aload_n Γ dX1_takeFrom_40 rfl 0 rfl (jq_at_0 (at_com ho)) ?_
  refine jq_aload_n Γ dX1_takeFrom_41 rfl 1 rfl (jq_at_0 (at_com hp1)) ?_
  refine jq_getI (J := 5) Γ (at_com hp1) fl_RX1_75 rfl rfl dX1_takeFrom_42 ?_
  refine jq_putI Γ (at_com ho) fl_RX1_75 rfl rfl dX1_takeFrom_45 (fun s6 => ?_)
  refine jq_aload_n Γ dX1_takeFrom_48 rfl 0 rfl (jq_at_0 (at_com ho)) ?_
  refine jq_aload_n Γ dX1_takeFrom_49 rfl 1 rfl (jq_at_0 (at_com hp1)) ?_
  refine jq_getI (J := 6) Γ (at_com hp1) fl_RX1_78 rfl rfl dX1_takeFrom_50 ?_
  refine jq_putI Γ (at_com ho) fl_RX1_78 rfl rfl dX1_takeFrom_53 (fun s7 => ?_)
  refine jq_aload_n Γ dX1_takeFrom_56 rfl 1 rfl (jq_at_0 (at_com hp1)) ?_
  refine jq_getR (v := (p1 + 1)) Γ hlY (at_com hp1) fl_RX1_9 rfl rfl (ly_X1_partyNames hp1) dX1_takeFrom_57 ?_
  refine jq_iconst Γ dX1_takeFrom_60 rfl ?_
  refine jq_aload_n Γ dX1_takeFrom_61 rfl 0 rfl (jq_at_0 (at_com ho)) ?_
  refine jq_getR (v := (o + 1)) Γ hlY (at_com ho) fl_RX1_9 rfl rfl (ly_X1_partyNames ho) dX1_takeFrom_62 ?_
  refine jq_iconst Γ dX1_takeFrom_65 rfl ?_
  refine jq_iconst Γ dX1_takeFrom_66 rfl ?_
  refine jq_copyl Γ (at_com_1 hp1) (at_com_1 ho) rfl rfl rfl aw_RX1_84 awn aws awi rfl rfl dX1_takeFrom_67 (fun s8 => ?_)
  refine jq_aload_n Γ dX1_takeFrom_70 rfl 1 rfl (jq_at_0 (at_com hp1)) ?_
  refine jq_getR (v := (p1 + 2)) Γ hlY (at_com hp1) fl_RX1_15 rfl rfl (ly_X1_leasts hp1) dX1_takeFrom_71 ?_
  refine jq_iconst Γ dX1_takeFrom_74 rfl ?_
  refine jq_aload_n Γ dX1_takeFrom_75 rfl 0 rfl (jq_at_0 (at_com ho)) ?_
  refine jq_getR (v := (o + 2)) Γ hlY (at_com ho) fl_RX1_15 rfl rfl (ly_X1_leasts ho) dX1_takeFrom_76 ?_
  refine jq_iconst Γ dX1_takeFrom_79 rfl ?_
  refine jq_iconst Γ dX1_takeFrom_80 rfl ?_
  refine jq_copyi Γ (at_com_2 hp1) (at_com_2 ho) rfl rfl rfl aw_RX1_84 awn aws awi rfl rfl dX1_takeFrom_81 (fun s9 => ?_)
  refine jq_aload_n Γ dX1_takeFrom_84 rfl 1 rfl (jq_at_0 (at_com hp1)) ?_
  refine jq_getR (v := (p1 + 3)) Γ hlY (at_com hp1) fl_RX1_19 rfl rfl (ly_X1_seats hp1) dX1_takeFrom_85 ?_
  refine jq_iconst Γ dX1_takeFrom_88 rfl ?_
  refine jq_aload_n Γ dX1_takeFrom_89 rfl 0 rfl (jq_at_0 (at_com ho)) ?_
  refine jq_getR (v := (o + 3)) Γ hlY (at_com ho) fl_RX1_19 rfl rfl (ly_X1_seats ho) dX1_takeFrom_90 ?_
  refine jq_iconst Γ dX1_takeFrom_93 rfl ?_
  refine jq_iconst Γ dX1_takeFrom_94 rfl ?_
  refine jq_copyi Γ (at_com_3 hp1) (at_com_3 ho) rfl rfl rfl aw_RX1_84 awn aws awi rfl rfl dX1_takeFrom_95 (fun s10 => ?_)
  refine jq_aload_n Γ dX1_takeFrom_98 rfl 1 rfl (jq_at_0 (at_com hp1)) ?_
  refine jq_getR (v := (p1 + 4)) Γ hlY (at_com hp1) fl_RX1_22 rfl rfl (ly_X1_whose hp1) dX1_takeFrom_99 ?_
  refine jq_iconst Γ dX1_takeFrom_102 rfl ?_
  refine jq_aload_n Γ dX1_takeFrom_103 rfl 0 rfl (jq_at_0 (at_com ho)) ?_
  refine jq_getR (v := (o + 4)) Γ hlY (at_com ho) fl_RX1_22 rfl rfl (ly_X1_whose ho) dX1_takeFrom_104 ?_
  refine jq_iconst Γ dX1_takeFrom_107 rfl ?_
  refine jq_bipush Γ dX1_takeFrom_108 rfl ?_
  refine jq_copyi Γ (at_com_4 hp1) (at_com_4 ho) rfl rfl rfl aw_RX1_84 awn aws awi rfl rfl dX1_takeFrom_110 (fun s11 => ?_)
  refine jq_aload_n Γ dX1_takeFrom_113 rfl 1 rfl (jq_at_0 (at_com hp1)) ?_
  refine jq_getR (v := (p1 + 5)) Γ hlY (at_com hp1) fl_RX1_25 rfl rfl (ly_X1_kinds hp1) dX1_takeFrom_114 ?_
  refine jq_iconst Γ dX1_takeFrom_117 rfl ?_
  refine jq_aload_n Γ dX1_takeFrom_118 rfl 0 rfl (jq_at_0 (at_com ho)) ?_
  refine jq_getR (v := (o + 5)) Γ hlY (at_com ho) fl_RX1_25 rfl rfl (ly_X1_kinds ho) dX1_takeFrom_119 ?_
  refine jq_iconst Γ dX1_takeFrom_122 rfl ?_
  refine jq_bipush Γ dX1_takeFrom_123 rfl ?_
  refine jq_copyi Γ (at_com_5 hp1) (at_com_5 ho) rfl rfl rfl aw_RX1_84 awn aws awi rfl rfl dX1_takeFrom_125 (fun s12 => ?_)
  refine jq_aload_n Γ dX1_takeFrom_128 rfl 1 rfl (jq_at_0 (at_com hp1)) ?_
  refine jq_getR (v := (p1 + 6)) Γ hlY (at_com hp1) fl_RX1_28 rfl rfl (ly_X1_whom hp1) dX1_takeFrom_129 ?_
  refine jq_iconst Γ dX1_takeFrom_132 rfl ?_
  refine jq_aload_n Γ dX1_takeFrom_133 rfl 0 rfl (jq_at_0 (at_com ho)) ?_
  refine jq_getR (v := (o + 6)) Γ hlY (at_com ho) fl_RX1_28 rfl rfl (ly_X1_whom ho) dX1_takeFrom_134 ?_
  refine jq_iconst Γ dX1_takeFrom_137 rfl ?_
  refine jq_bipush Γ dX1_takeFrom_138 rfl ?_
  refine jq_copyi Γ (at_com_6 hp1) (at_com_6 ho) rfl rfl rfl aw_RX1_84 awn aws awi rfl rfl dX1_takeFrom_140 (fun s13 => ?_)
  refine jq_aload_n Γ dX1_takeFrom_143 rfl 1 rfl (jq_at_0 (at_com hp1)) ?_
  refine jq_getR (v := (p1 + 7)) Γ hlY (at_com hp1) fl_RX1_31 rfl rfl (ly_X1_worths hp1) dX1_takeFrom_144 ?_
  refine jq_iconst Γ dX1_takeFrom_147 rfl ?_
  refine jq_aload_n Γ dX1_takeFrom_148 rfl 0 rfl (jq_at_0 (at_com ho)) ?_
  refine jq_getR (v := (o + 7)) Γ hlY (at_com ho) fl_RX1_31 rfl rfl (ly_X1_worths ho) dX1_takeFrom_149 ?_
  refine jq_iconst Γ dX1_takeFrom_152 rfl ?_
  refine jq_bipush Γ dX1_takeFrom_153 rfl ?_
  refine jq_copyi Γ (at_com_7 hp1) (at_com_7 ho) rfl rfl rfl aw_RX1_84 awn aws awi rfl rfl dX1_takeFrom_155 (fun s14 => ?_)
  refine jq_aload_n Γ dX1_takeFrom_158 rfl 1 rfl (jq_at_0 (at_com hp1)) ?_
  refine jq_getR (v := (p1 + 8)) Γ hlY (at_com hp1) fl_RX1_34 rfl rfl (ly_X1_articleNames hp1) dX1_takeFrom_159 ?_
  refine jq_iconst Γ dX1_takeFrom_162 rfl ?_
  refine jq_aload_n Γ dX1_takeFrom_163 rfl 0 rfl (jq_at_0 (at_com ho)) ?_
  refine jq_getR (v := (o + 8)) Γ hlY (at_com ho) fl_RX1_34 rfl rfl (ly_X1_articleNames ho) dX1_takeFrom_164 ?_
  refine jq_iconst Γ dX1_takeFrom_167 rfl ?_
  refine jq_bipush Γ dX1_takeFrom_168 rfl ?_
  refine jq_copyl Γ (at_com_8 hp1) (at_com_8 ho) rfl rfl rfl aw_RX1_84 awn aws awi rfl rfl dX1_takeFrom_170 (fun s15 => ?_)
  refine jq_aload_n Γ dX1_takeFrom_173 rfl 1 rfl (jq_at_0 (at_com hp1)) ?_
  refine jq_getR (v := (p1 + 9)) Γ hlY (at_com hp1) fl_RX1_37 rfl rfl (ly_X1_takes hp1) dX1_takeFrom_174 ?_
  refine jq_iconst Γ dX1_takeFrom_177 rfl ?_
  refine jq_aload_n Γ dX1_takeFrom_178 rfl 0 rfl (jq_at_0 (at_com ho)) ?_
  refine jq_getR (v := (o + 9)) Γ hlY (at_com ho) fl_RX1_37 rfl rfl (ly_X1_takes ho) dX1_takeFrom_179 ?_
  refine jq_iconst Γ dX1_takeFrom_182 rfl ?_
  refine jq_bipush Γ dX1_takeFrom_183 rfl ?_
  refine jq_copyi Γ (at_com_9 hp1) (at_com_9 ho) rfl rfl rfl aw_RX1_84 awn aws awi rfl rfl dX1_takeFrom_185 (fun s16 => ?_)
  refine jq_aload_n Γ dX1_takeFrom_188 rfl 1 rfl (jq_at_0 (at_com hp1)) ?_
  refine jq_getR (v := (p1 + 10)) Γ hlY (at_com hp1) fl_RX1_40 rfl rfl (ly_X1_odds hp1) dX1_takeFrom_189 ?_
  refine jq_iconst Γ dX1_takeFrom_192 rfl ?_
  refine jq_aload_n Γ dX1_takeFrom_193 rfl 0 rfl (jq_at_0 (at_com ho)) ?_
  refine jq_getR (v := (o + 10)) Γ hlY (at_com ho) fl_RX1_40 rfl rfl (ly_X1_odds ho) dX1_takeFrom_194 ?_
  refine jq_iconst Γ dX1_takeFrom_197 rfl ?_
  refine jq_bipush Γ dX1_takeFrom_198 rfl ?_
  refine jq_copyi Γ (at_com_10 hp1) (at_com_10 ho) rfl rfl rfl aw_RX1_84 awn aws awi rfl rfl dX1_takeFrom_200 (fun s17 => ?_)
  refine jq_aload_n Γ dX1_takeFrom_203 rfl 1 rfl (jq_at_0 (at_com hp1)) ?_
  refine jq_getR (v := (p1 + 11)) Γ hlY (at_com hp1) fl_RX1_43 rfl rfl (ly_X1_leansOn hp1) dX1_takeFrom_204 ?_
  refine jq_iconst Γ dX1_takeFrom_207 rfl ?_
  refine jq_aload_n Γ dX1_takeFrom_208 rfl 0 rfl (jq_at_0 (at_com ho)) ?_
  refine jq_getR (v := (o + 11)) Γ hlY (at_com ho) fl_RX1_43 rfl rfl (ly_X1_leansOn ho) dX1_takeFrom_209 ?_
  refine jq_iconst Γ dX1_takeFrom_212 rfl ?_
  refine jq_bipush Γ dX1_takeFrom_213 rfl ?_
  refine jq_copyi Γ (at_com_11 hp1) (at_com_11 ho) rfl rfl rfl aw_RX1_84 awn aws awi rfl rfl dX1_takeFrom_215 (fun s18 => ?_)
  refine jq_aload_n Γ dX1_takeFrom_218 rfl 1 rfl (jq_at_0 (at_com hp1)) ?_
  refine jq_getR (v := (p1 + 12)) Γ hlY (at_com hp1) fl_RX1_46 rfl rfl (ly_X1_worked hp1) dX1_takeFrom_219 ?_
  refine jq_iconst Γ dX1_takeFrom_222 rfl ?_
  refine jq_aload_n Γ dX1_takeFrom_223 rfl 0 rfl (jq_at_0 (at_com ho)) ?_
  refine jq_getR (v := (o + 12)) Γ hlY (at_com ho) fl_RX1_46 rfl rfl (ly_X1_worked ho) dX1_takeFrom_224 ?_
  refine jq_iconst Γ dX1_takeFrom_227 rfl ?_
  refine jq_bipush Γ dX1_takeFrom_228 rfl ?_
  refine jq_copyi Γ (at_com_12 hp1) (at_com_12 ho) rfl rfl rfl aw_RX1_84 awn aws awi rfl rfl dX1_takeFrom_230 (fun s19 => ?_)
  refine jq_aload_n Γ dX1_takeFrom_233 rfl 0 rfl (jq_at_0 (at_com ho)) ?_
  refine jq_getR (v := (o + 13)) Γ hlY (at_com ho) fl_RX1_52 rfl rfl (ly_X1_steps ho) dX1_takeFrom_234 ?_
  refine jq_aload_n Γ dX1_takeFrom_237 rfl 1 rfl (jq_at_0 (at_com hp1)) ?_
  refine jq_getR (v := (p1 + 13)) Γ hlY (at_com hp1) fl_RX1_52 rfl rfl (ly_X1_steps hp1) dX1_takeFrom_238 ?_
  refine jq_cwV (jq_virt (avs := [jR (p1 + 13)]) (st := []) Γ hlY rfl ml_RX1_90 rfl (at_stp (stp_com ho)) rfl rfl rfl rfl rfl dX1_takeFrom_241) (fun σ' h => ctX7_takeFrom (stp_com ho) (stp_com hp1) h) (fun s20 => ?_)
  exact jq_vreturn Γ dX1_takeFrom_244 (hK0 _)


theorem dX0_daysTill_0 : decode cX0_daysTill 0 = .ok (.iconst 0, 1) := by decide +kernel
theorem dX0_daysTill_1 : decode cX0_daysTill 1 = .ok (.istore_n 2, 1) := by decide +kernel
theorem dX0_daysTill_2 : decode cX0_daysTill 2 = .ok (.aload_n 0, 1) := by decide +kernel
theorem dX0_daysTill_3 : decode cX0_daysTill 3 = .ok (.iload_n 1, 1) := by decide +kernel
theorem dX0_daysTill_4 : decode cX0_daysTill 4 = .ok (.invokevirtual 39, 3) := by decide +kernel
theorem dX0_daysTill_7 : decode cX0_daysTill 7 = .ok (.ifCond .ne 21, 3) := by decide +kernel
theorem dX0_daysTill_10 : decode cX0_daysTill 10 = .ok (.iload_n 2, 1) := by decide +kernel
theorem dX0_daysTill_11 : decode cX0_daysTill 11 = .ok (.sipush 240, 3) := by decide +kernel
theorem dX0_daysTill_14 : decode cX0_daysTill 14 = .ok (.if_icmp .ge 14, 3) := by decide +kernel
theorem dX0_daysTill_17 : decode cX0_daysTill 17 = .ok (.aload_n 0, 1) := by decide +kernel
theorem dX0_daysTill_18 : decode cX0_daysTill 18 = .ok (.invokevirtual 43, 3) := by decide +kernel
theorem dX0_daysTill_21 : decode cX0_daysTill 21 = .ok (.pop, 1) := by decide +kernel
theorem dX0_daysTill_22 : decode cX0_daysTill 22 = .ok (.iinc 2 1, 3) := by decide +kernel
theorem dX0_daysTill_25 : decode cX0_daysTill 25 = .ok (.goto (-23), 3) := by decide +kernel
theorem dX0_daysTill_28 : decode cX0_daysTill 28 = .ok (.iload_n 2, 1) := by decide +kernel
theorem dX0_daysTill_29 : decode cX0_daysTill 29 = .ok (.ireturn, 1) := by decide +kernel
set_option maxHeartbeats 4000000 in
set_option maxRecDepth 100000 in
theorem ctX0_daysTill {p0 : Int} {p1 : Int} {σ : jq_M} {res : Int} {σ' : jq_M} (hp0 : jq_com p0) (h : X0_daysTill p0 p1 σ = some (res, σ')) : jq_MC jq_zX yX0_daysTill cX0_daysTill 3 (some .int) 3 83 [jR p0, jI p1] σ (some (jI res)) σ' := by
  refine jq_met (own := RX0) (L0 := [(0, jR p0), (1, jI p1)]) (by decide) rfl rfl rfl ?_
  intro X Γ hnl hlY hRT
  refine jq_use2 (P := fun r => jq_RT jq_zX X (some .int) (some (jI r.1)) r.2) ?_ h hRT
  intro K0 hK0
  unfold X0_daysTill
  refine jq_iconst Γ dX0_daysTill_0 rfl ?_
  refine jq_istore_n (L' := [(2, jI 0), (0, jR p0), (1, jI p1)]) Γ dX0_daysTill_1 rfl hnl rfl rfl ?_
  refine jq_sub Γ (L' := [(0, jR p0), (1, jI p1), (2, jI 0)]) [1, 2, 0] rfl ?_
  refine jq_loop2 (C := fun (t1 : Int × jq_M) => jq_V jq_zX X (jq_zN jq_zX) t1.2 2 [(0, jR p0), (1, jI p1), (2, jI t1.1)] []) (KX := fun (e7 : Int × jq_M) => jq_V jq_zX X (jq_zN jq_zX) e7.2 28 [(2, jI e7.1)] []) ?_ ?_ (0, σ)
  · intro K2_t1 hCt1 hXt1 t1
    unfold X0_daysTill_b2
    refine jq_aload_n Γ dX0_daysTill_2 rfl 0 rfl (jq_at_0 (at_com hp0)) ?_
    refine jq_iload_n Γ dX0_daysTill_3 rfl 1 rfl ?_
    refine jq_cpZ (jq_virt (avs := [jI p1]) (st := []) Γ hlY rfl ml_RX0_39 rfl (at_com hp0) rfl rfl rfl rfl rfl dX0_daysTill_4) rfl (fun r h => ctX1_isAgreed hp0 h) (fun v2 hz3 => ?_)
    refine jq_if_ne (tgt := 28) Γ dX0_daysTill_7 rfl ?_ ?_
    · refine jq_sub Γ (L' := [(2, jI t1.1)]) [2] rfl ?_
      exact jq_done (hXt1 (t1.1, t1.2))
    · refine jq_iload_n Γ dX0_daysTill_10 rfl 2 rfl ?_
      refine jq_sipush Γ dX0_daysTill_11 rfl ?_
      refine jq_icmp_ge (tgt := 28) Γ dX0_daysTill_14 rfl ?_ ?_
      · refine jq_sub Γ (L' := [(2, jI t1.1)]) [2] rfl ?_
        exact jq_done (hXt1 (t1.1, t1.2))
      · refine jq_aload_n Γ dX0_daysTill_17 rfl 0 rfl (jq_at_0 (at_com hp0)) ?_
        refine jq_cwI (jq_virt (avs := []) (st := []) Γ hlY rfl ml_RX0_43 rfl (at_com hp0) rfl rfl rfl rfl rfl dX0_daysTill_18) (fun r σ' h => ctX1_passOneDay hp0 h) (fun v4 s5 => ?_)
        refine jq_pop Γ dX0_daysTill_21 rfl ?_
        refine jq_iincN (L' := fun v6 => [(2, jI v6), (0, jR p0), (1, jI p1)]) Γ dX0_daysTill_22 2 rfl hnl rfl (fun _ => rfl) (fun v6 => ?_)
        refine jq_goto Γ (tgt := 2) dX0_daysTill_25 rfl ?_
        refine jq_sub Γ (L' := [(0, jR p0), (1, jI p1), (2, jI v6)]) [1, 2, 0] rfl ?_
        exact jq_done (hCt1 (v6, s5))
  · intro e7
    refine jq_iload_n Γ dX0_daysTill_28 rfl 0 rfl ?_
    exact jq_ireturn Γ dX0_daysTill_29 (hK0 _)


theorem dX10_soonest_0 : decode cX10_soonest 0 = .ok (.aload_n 0, 1) := by decide +kernel
theorem dX10_soonest_1 : decode cX10_soonest 1 = .ok (.getfield 25, 3) := by decide +kernel
theorem dX10_soonest_4 : decode cX10_soonest 4 = .ok (.iload_n 1, 1) := by decide +kernel
theorem dX10_soonest_5 : decode cX10_soonest 5 = .ok (.invokevirtual 248, 3) := by decide +kernel
theorem dX10_soonest_8 : decode cX10_soonest 8 = .ok (.ifCond .ne 9, 3) := by decide +kernel
theorem dX10_soonest_11 : decode cX10_soonest 11 = .ok (.aload_n 0, 1) := by decide +kernel
theorem dX10_soonest_12 : decode cX10_soonest 12 = .ok (.iconst 1, 1) := by decide +kernel
theorem dX10_soonest_13 : decode cX10_soonest 13 = .ok (.invokevirtual 117, 3) := by decide +kernel
theorem dX10_soonest_16 : decode cX10_soonest 16 = .ok (.ireturn, 1) := by decide +kernel
theorem dX10_soonest_17 : decode cX10_soonest 17 = .ok (.aload_n 0, 1) := by decide +kernel
theorem dX10_soonest_18 : decode cX10_soonest 18 = .ok (.getfield 29, 3) := by decide +kernel
theorem dX10_soonest_21 : decode cX10_soonest 21 = .ok (.aload_n 0, 1) := by decide +kernel
theorem dX10_soonest_22 : decode cX10_soonest 22 = .ok (.getfield 25, 3) := by decide +kernel
theorem dX10_soonest_25 : decode cX10_soonest 25 = .ok (.invokevirtual 403, 3) := by decide +kernel
theorem dX10_soonest_28 : decode cX10_soonest 28 = .ok (.aload_n 0, 1) := by decide +kernel
theorem dX10_soonest_29 : decode cX10_soonest 29 = .ok (.aload_n 0, 1) := by decide +kernel
theorem dX10_soonest_30 : decode cX10_soonest 30 = .ok (.getfield 29, 3) := by decide +kernel
theorem dX10_soonest_33 : decode cX10_soonest 33 = .ok (.iload_n 1, 1) := by decide +kernel
theorem dX10_soonest_34 : decode cX10_soonest 34 = .ok (.invokestatic 406, 3) := by decide +kernel
theorem dX10_soonest_37 : decode cX10_soonest 37 = .ok (.invokevirtual 167, 3) := by decide +kernel
theorem dX10_soonest_40 : decode cX10_soonest 40 = .ok (.ireturn, 1) := by decide +kernel
set_option maxHeartbeats 4000000 in
set_option maxRecDepth 100000 in
theorem ctX10_soonest {p1 : Int} {σ : jq_M} {res : Int} {σ' : jq_M}  (h : X10_soonest p1 σ = some (res, σ')) : jq_MC jq_zX yX10_soonest cX10_soonest 2 (some .int) 4 105 [jR 0, jI p1] σ (some (jI res)) σ' := by
  refine jq_met (own := RX10) (L0 := [(0, jR 0), (1, jI p1)]) (by decide) rfl rfl rfl ?_
  intro X Γ hnl hlY hRT
  refine jq_use2 (P := fun r => jq_RT jq_zX X (some .int) (some (jI r.1)) r.2) ?_ h hRT
  intro K0 hK0
  unfold X10_soonest
  refine jq_aload_n Γ dX10_soonest_0 rfl 0 rfl (jq_at_0 at_X_0) ?_
  refine jq_getC (C := jq_cm2) Γ hlY at_X_0 fl_RX10_25 rfl rfl ly_now dX10_soonest_1 (fun c1 hc2q => ?_)
  have hc2 := jq_cm2_com hc2q
  refine jq_iload_n Γ dX10_soonest_4 rfl 1 rfl ?_
  refine jq_cpZ (jq_virt (avs := [jI p1]) (st := []) Γ hlY rfl ml_RX10_248 rfl (at_com hc2) rfl rfl rfl rfl rfl dX10_soonest_5) rfl (fun r h => ctX1_isArticle hc2 h) (fun v3 hz4 => ?_)
  refine jq_if_ne (tgt := 17) Γ dX10_soonest_8 rfl ?_ ?_
  · refine jq_aload_n Γ dX10_soonest_17 rfl 0 rfl (jq_at_0 at_X_0) ?_
    refine jq_getC (C := jq_cm2) Γ hlY at_X_0 fl_RX10_29 rfl rfl ly_spare dX10_soonest_18 (fun c5 hc6q => ?_)
    have hc6 := jq_cm2_com hc6q
    refine jq_aload_n Γ dX10_soonest_21 rfl 0 rfl (jq_at_0 at_X_0) ?_
    refine jq_getC (C := jq_cm2) Γ hlY at_X_0 fl_RX10_25 rfl rfl ly_now dX10_soonest_22 (fun c7 hc8q => ?_)
    have hc8 := jq_cm2_com hc8q
    refine jq_cwV (jq_virt (avs := [jR c7]) (st := []) Γ hlY rfl ml_RX10_403 rfl (at_com hc6) rfl rfl rfl rfl rfl dX10_soonest_25) (fun σ' h => ctX1_takeFrom hc6 hc8 h) (fun s9 => ?_)
    refine jq_aload_n Γ dX10_soonest_28 rfl 0 rfl (jq_at_0 at_X_0) ?_
    refine jq_aload_n Γ dX10_soonest_29 rfl 0 rfl (jq_at_0 at_X_0) ?_
    refine jq_getC (C := jq_cm2) Γ hlY at_X_0 fl_RX10_29 rfl rfl ly_spare dX10_soonest_30 (fun c10 hc11q => ?_)
    have hc11 := jq_cm2_com hc11q
    refine jq_iload_n Γ dX10_soonest_33 rfl 1 rfl ?_
    refine jq_cwI (jq_stat (avs := [jR c10, jI p1]) (st := [jR 0]) Γ hlY rfl ml_RX10_406 rfl rfl rfl rfl rfl dX10_soonest_34) (fun r σ' h => ctX0_daysTill hc11 h) (fun v12 s13 => ?_)
    refine jq_cwI (jq_virt (avs := [jI v12]) (st := []) Γ hlY rfl ml_RX10_167 rfl at_X_0 rfl rfl rfl rfl rfl dX10_soonest_37) (fun r σ' h => ctX10_answer h) (fun v14 s15 => ?_)
    exact jq_ireturn Γ dX10_soonest_40 (hK0 _)
  · refine jq_aload_n Γ dX10_soonest_11 rfl 0 rfl (jq_at_0 at_X_0) ?_
    refine jq_iconst Γ dX10_soonest_12 rfl ?_
    refine jq_cwI (jq_virt (avs := [jI 1]) (st := []) Γ hlY rfl ml_RX10_117 rfl at_X_0 rfl rfl rfl rfl rfl dX10_soonest_13) (fun r σ' h => ctX10_refuse h) (fun v16 s17 => ?_)
    exact jq_ireturn Γ dX10_soonest_16 (hK0 _)


theorem dX0_latestEnd_0 : decode cX0_latestEnd 0 = .ok (.iconst 0, 1) := by decide +kernel
theorem dX0_latestEnd_1 : decode cX0_latestEnd 1 = .ok (.istore_n 3, 1) := by decide +kernel
theorem dX0_latestEnd_2 : decode cX0_latestEnd 2 = .ok (.iconst 0, 1) := by decide +kernel
theorem dX0_latestEnd_3 : decode cX0_latestEnd 3 = .ok (.istore 4, 2) := by decide +kernel
theorem dX0_latestEnd_5 : decode cX0_latestEnd 5 = .ok (.iload 4, 2) := by decide +kernel
theorem dX0_latestEnd_7 : decode cX0_latestEnd 7 = .ok (.iload_n 2, 1) := by decide +kernel
theorem dX0_latestEnd_8 : decode cX0_latestEnd 8 = .ok (.if_icmp .ge 40, 3) := by decide +kernel
theorem dX0_latestEnd_11 : decode cX0_latestEnd 11 = .ok (.iload 4, 2) := by decide +kernel
theorem dX0_latestEnd_13 : decode cX0_latestEnd 13 = .ok (.aload_n 0, 1) := by decide +kernel
theorem dX0_latestEnd_14 : decode cX0_latestEnd 14 = .ok (.getfield 15, 3) := by decide +kernel
theorem dX0_latestEnd_17 : decode cX0_latestEnd 17 = .ok (.arraylength, 1) := by decide +kernel
theorem dX0_latestEnd_18 : decode cX0_latestEnd 18 = .ok (.if_icmp .ge 30, 3) := by decide +kernel
theorem dX0_latestEnd_21 : decode cX0_latestEnd 21 = .ok (.iload_n 1, 1) := by decide +kernel
theorem dX0_latestEnd_22 : decode cX0_latestEnd 22 = .ok (.iload 4, 2) := by decide +kernel
theorem dX0_latestEnd_24 : decode cX0_latestEnd 24 = .ok (.invokestatic 60, 3) := by decide +kernel
theorem dX0_latestEnd_27 : decode cX0_latestEnd 27 = .ok (.ifCond .eq 15, 3) := by decide +kernel
theorem dX0_latestEnd_30 : decode cX0_latestEnd 30 = .ok (.iload_n 3, 1) := by decide +kernel
theorem dX0_latestEnd_31 : decode cX0_latestEnd 31 = .ok (.aload_n 0, 1) := by decide +kernel
theorem dX0_latestEnd_32 : decode cX0_latestEnd 32 = .ok (.getfield 15, 3) := by decide +kernel
theorem dX0_latestEnd_35 : decode cX0_latestEnd 35 = .ok (.iload 4, 2) := by decide +kernel
theorem dX0_latestEnd_37 : decode cX0_latestEnd 37 = .ok (.iaload, 1) := by decide +kernel
theorem dX0_latestEnd_38 : decode cX0_latestEnd 38 = .ok (.invokestatic 64, 3) := by decide +kernel
theorem dX0_latestEnd_41 : decode cX0_latestEnd 41 = .ok (.istore_n 3, 1) := by decide +kernel
theorem dX0_latestEnd_42 : decode cX0_latestEnd 42 = .ok (.iinc 4 1, 3) := by decide +kernel
theorem dX0_latestEnd_45 : decode cX0_latestEnd 45 = .ok (.goto (-40), 3) := by decide +kernel
theorem dX0_latestEnd_48 : decode cX0_latestEnd 48 = .ok (.iload_n 3, 1) := by decide +kernel
theorem dX0_latestEnd_49 : decode cX0_latestEnd 49 = .ok (.ireturn, 1) := by decide +kernel
set_option maxHeartbeats 4000000 in
set_option maxRecDepth 100000 in
theorem ctX0_latestEnd {p1 : Int} {p2 : Int} {σ : jq_M} {res : Int}  (h : X0_latestEnd p1 p2 σ = some res) : jq_MC jq_zX yX0_latestEnd cX0_latestEnd 5 (some .int) 2 61 [jR 57, jI p1, jI p2] σ (some (jI res)) σ := by
  refine jq_met (own := RX0) (L0 := [(0, jR 57), (1, jI p1), (2, jI p2)]) (by decide) rfl rfl rfl ?_
  intro X Γ hnl hlY hRT
  refine jq_use2 (P := fun r => jq_RT jq_zX X (some .int) (some (jI r)) σ) ?_ h hRT
  intro K0 hK0
  unfold X0_latestEnd
  refine jq_iconst Γ dX0_latestEnd_0 rfl ?_
  refine jq_istore_n (L' := [(3, jI 0), (0, jR 57), (1, jI p1), (2, jI p2)]) Γ dX0_latestEnd_1 rfl hnl rfl rfl ?_
  refine jq_iconst Γ dX0_latestEnd_2 rfl ?_
  refine jq_istore (L' := [(4, jI 0), (3, jI 0), (0, jR 57), (1, jI p1), (2, jI p2)]) Γ dX0_latestEnd_3 hnl rfl rfl ?_
  refine jq_sub Γ (L' := [(0, jR 57), (1, jI p1), (2, jI p2), (3, jI 0), (4, jI 0)]) [2, 3, 4, 1, 0] rfl ?_
  refine jq_loop2 (C := fun (t1 : Int × Int) => jq_V jq_zX X (jq_zN jq_zX) σ 5 [(0, jR 57), (1, jI p1), (2, jI p2), (3, jI t1.1), (4, jI t1.2)] []) (KX := fun (e8 : Int) => jq_V jq_zX X (jq_zN jq_zX) σ 48 [(3, jI e8)] []) ?_ ?_ (0, 0)
  · intro K5_t1 hCt1 hXt1 t1
    unfold X0_latestEnd_b5
    refine jq_iload Γ dX0_latestEnd_5 4 rfl ?_
    refine jq_iload_n Γ dX0_latestEnd_7 rfl 2 rfl ?_
    refine jq_icmp_ge (tgt := 48) Γ dX0_latestEnd_8 rfl ?_ ?_
    · refine jq_sub Γ (L' := [(3, jI t1.1)]) [3] rfl ?_
      exact jq_done (hXt1 t1.1)
    · refine jq_iload Γ dX0_latestEnd_11 4 rfl ?_
      refine jq_aload_n Γ dX0_latestEnd_13 rfl 0 rfl (jq_at_0 at_X_57) ?_
      refine jq_getR (v := 59) Γ hlY at_X_57 fl_RX0_15 rfl rfl ly_X0_ends dX0_latestEnd_14 ?_
      refine jq_alen Γ at_X_59 rfl rfl rfl dX0_latestEnd_17 ?_
      refine jq_icmp_ge (tgt := 48) Γ dX0_latestEnd_18 rfl ?_ ?_
      · refine jq_sub Γ (L' := [(3, jI t1.1)]) [3] rfl ?_
        exact jq_done (hXt1 t1.1)
      · refine jq_iload_n Γ dX0_latestEnd_21 rfl 1 rfl ?_
        refine jq_iload Γ dX0_latestEnd_22 4 rfl ?_
        refine jq_cpZ (jq_nest (avs := [jI p1, jI t1.2]) (st := []) Γ hlY rfl ml_RX0_60 rfl rfl rfl rfl rfl dX0_latestEnd_24) rfl (fun r h => ctX10_holds h) (fun v2 hz3 => ?_)
        refine jq_if_eq (tgt := 42) Γ dX0_latestEnd_27 rfl ?_ ?_
        · refine jq_iincN (L' := fun v4 => [(4, jI v4), (0, jR 57), (1, jI p1), (2, jI p2), (3, jI t1.1)]) Γ dX0_latestEnd_42 4 rfl hnl rfl (fun _ => rfl) (fun v4 => ?_)
          refine jq_goto Γ (tgt := 5) dX0_latestEnd_45 rfl ?_
          refine jq_sub Γ (L' := [(0, jR 57), (1, jI p1), (2, jI p2), (3, jI t1.1), (4, jI v4)]) [1, 2, 3, 4, 0] rfl ?_
          exact jq_done (hCt1 (t1.1, v4))
        · refine jq_iload_n Γ dX0_latestEnd_30 rfl 3 rfl ?_
          refine jq_aload_n Γ dX0_latestEnd_31 rfl 0 rfl (jq_at_0 at_X_57) ?_
          refine jq_getR (v := 59) Γ hlY at_X_57 fl_RX0_15 rfl rfl ly_X0_ends dX0_latestEnd_32 ?_
          refine jq_iload Γ dX0_latestEnd_35 4 rfl ?_
          refine jq_iald Γ at_X_59 rfl dX0_latestEnd_37 (fun v5 => ?_)
          refine jq_mmax Γ mw_RX0_64 mws_max mwi mwc_max rfl rfl dX0_latestEnd_38 ?_
          refine jq_nmI (fun v6 => ?_)
          refine jq_istore_n (L' := [(3, jI v6), (0, jR 57), (1, jI p1), (2, jI p2), (4, jI t1.2)]) Γ dX0_latestEnd_41 rfl hnl rfl rfl ?_
          refine jq_iincN (L' := fun v7 => [(4, jI v7), (3, jI v6), (0, jR 57), (1, jI p1), (2, jI p2)]) Γ dX0_latestEnd_42 4 rfl hnl rfl (fun _ => rfl) (fun v7 => ?_)
          refine jq_goto Γ (tgt := 5) dX0_latestEnd_45 rfl ?_
          refine jq_sub Γ (L' := [(0, jR 57), (1, jI p1), (2, jI p2), (3, jI v6), (4, jI v7)]) [2, 3, 4, 1, 0] rfl ?_
          exact jq_done (hCt1 (v6, v7))
  · intro e8
    refine jq_iload_n Γ dX0_latestEnd_48 rfl 0 rfl ?_
    exact jq_ireturn Γ dX0_latestEnd_49 (hK0 _)


theorem dX0_daysTogether_0 : decode cX0_daysTogether 0 = .ok (.iconst 0, 1) := by decide +kernel
theorem dX0_daysTogether_1 : decode cX0_daysTogether 1 = .ok (.istore_n 3, 1) := by decide +kernel
theorem dX0_daysTogether_2 : decode cX0_daysTogether 2 = .ok (.iload_n 3, 1) := by decide +kernel
theorem dX0_daysTogether_3 : decode cX0_daysTogether 3 = .ok (.iload_n 2, 1) := by decide +kernel
theorem dX0_daysTogether_4 : decode cX0_daysTogether 4 = .ok (.if_icmp .gt 58, 3) := by decide +kernel
theorem dX0_daysTogether_7 : decode cX0_daysTogether 7 = .ok (.iload_n 3, 1) := by decide +kernel
theorem dX0_daysTogether_8 : decode cX0_daysTogether 8 = .ok (.bipush 8, 2) := by decide +kernel
theorem dX0_daysTogether_10 : decode cX0_daysTogether 10 = .ok (.if_icmp .ge 52, 3) := by decide +kernel
theorem dX0_daysTogether_13 : decode cX0_daysTogether 13 = .ok (.aload_n 0, 1) := by decide +kernel
theorem dX0_daysTogether_14 : decode cX0_daysTogether 14 = .ok (.getfield 15, 3) := by decide +kernel
theorem dX0_daysTogether_17 : decode cX0_daysTogether 17 = .ok (.iload_n 3, 1) := by decide +kernel
theorem dX0_daysTogether_18 : decode cX0_daysTogether 18 = .ok (.aload_n 1, 1) := by decide +kernel
theorem dX0_daysTogether_19 : decode cX0_daysTogether 19 = .ok (.iload_n 3, 1) := by decide +kernel
theorem dX0_daysTogether_20 : decode cX0_daysTogether 20 = .ok (.invokevirtual 39, 3) := by decide +kernel
theorem dX0_daysTogether_23 : decode cX0_daysTogether 23 = .ok (.ifCond .eq 7, 3) := by decide +kernel
theorem dX0_daysTogether_26 : decode cX0_daysTogether 26 = .ok (.iconst 0, 1) := by decide +kernel
theorem dX0_daysTogether_27 : decode cX0_daysTogether 27 = .ok (.goto 28, 3) := by decide +kernel
theorem dX0_daysTogether_30 : decode cX0_daysTogether 30 = .ok (.aload_n 0, 1) := by decide +kernel
theorem dX0_daysTogether_31 : decode cX0_daysTogether 31 = .ok (.aload_n 1, 1) := by decide +kernel
theorem dX0_daysTogether_32 : decode cX0_daysTogether 32 = .ok (.getfield 36, 3) := by decide +kernel
theorem dX0_daysTogether_35 : decode cX0_daysTogether 35 = .ok (.iload_n 3, 1) := by decide +kernel
theorem dX0_daysTogether_36 : decode cX0_daysTogether 36 = .ok (.iaload, 1) := by decide +kernel
theorem dX0_daysTogether_37 : decode cX0_daysTogether 37 = .ok (.iload_n 3, 1) := by decide +kernel
theorem dX0_daysTogether_38 : decode cX0_daysTogether 38 = .ok (.invokevirtual 47, 3) := by decide +kernel
theorem dX0_daysTogether_41 : decode cX0_daysTogether 41 = .ok (.aload_n 1, 1) := by decide +kernel
theorem dX0_daysTogether_42 : decode cX0_daysTogether 42 = .ok (.getfield 51, 3) := by decide +kernel
theorem dX0_daysTogether_45 : decode cX0_daysTogether 45 = .ok (.iload_n 3, 1) := by decide +kernel
theorem dX0_daysTogether_46 : decode cX0_daysTogether 46 = .ok (.iaload, 1) := by decide +kernel
theorem dX0_daysTogether_47 : decode cX0_daysTogether 47 = .ok (.iadd, 1) := by decide +kernel
theorem dX0_daysTogether_48 : decode cX0_daysTogether 48 = .ok (.aload_n 1, 1) := by decide +kernel
theorem dX0_daysTogether_49 : decode cX0_daysTogether 49 = .ok (.getfield 54, 3) := by decide +kernel
theorem dX0_daysTogether_52 : decode cX0_daysTogether 52 = .ok (.iload_n 3, 1) := by decide +kernel
theorem dX0_daysTogether_53 : decode cX0_daysTogether 53 = .ok (.iaload, 1) := by decide +kernel
theorem dX0_daysTogether_54 : decode cX0_daysTogether 54 = .ok (.isub, 1) := by decide +kernel
theorem dX0_daysTogether_55 : decode cX0_daysTogether 55 = .ok (.iastore, 1) := by decide +kernel
theorem dX0_daysTogether_56 : decode cX0_daysTogether 56 = .ok (.iinc 3 1, 3) := by decide +kernel
theorem dX0_daysTogether_59 : decode cX0_daysTogether 59 = .ok (.goto (-57), 3) := by decide +kernel
theorem dX0_daysTogether_62 : decode cX0_daysTogether 62 = .ok (.aload_n 1, 1) := by decide +kernel
theorem dX0_daysTogether_63 : decode cX0_daysTogether 63 = .ok (.iload_n 2, 1) := by decide +kernel
theorem dX0_daysTogether_64 : decode cX0_daysTogether 64 = .ok (.invokevirtual 57, 3) := by decide +kernel
theorem dX0_daysTogether_67 : decode cX0_daysTogether 67 = .ok (.ifCond .eq 12, 3) := by decide +kernel
theorem dX0_daysTogether_70 : decode cX0_daysTogether 70 = .ok (.aload_n 0, 1) := by decide +kernel
theorem dX0_daysTogether_71 : decode cX0_daysTogether 71 = .ok (.getfield 15, 3) := by decide +kernel
theorem dX0_daysTogether_74 : decode cX0_daysTogether 74 = .ok (.iload_n 2, 1) := by decide +kernel
theorem dX0_daysTogether_75 : decode cX0_daysTogether 75 = .ok (.iaload, 1) := by decide +kernel
theorem dX0_daysTogether_76 : decode cX0_daysTogether 76 = .ok (.goto 4, 3) := by decide +kernel
theorem dX0_daysTogether_79 : decode cX0_daysTogether 79 = .ok (.iconst 0, 1) := by decide +kernel
theorem dX0_daysTogether_80 : decode cX0_daysTogether 80 = .ok (.ireturn, 1) := by decide +kernel
set_option maxHeartbeats 4000000 in
set_option maxRecDepth 100000 in
theorem ctX0_daysTogether {p1 : Int} {p2 : Int} {σ : jq_M} {res : Int} {σ' : jq_M} (hp1 : jq_com p1) (h : X0_daysTogether p1 p2 σ = some (res, σ')) : jq_MC jq_zX yX0_daysTogether cX0_daysTogether 4 (some .int) 3 85 [jR 57, jR p1, jI p2] σ (some (jI res)) σ' := by
  refine jq_met (own := RX0) (L0 := [(0, jR 57), (1, jR p1), (2, jI p2)]) (by decide) rfl rfl rfl ?_
  intro X Γ hnl hlY hRT
  refine jq_use2 (P := fun r => jq_RT jq_zX X (some .int) (some (jI r.1)) r.2) ?_ h hRT
  intro K0 hK0
  unfold X0_daysTogether
  have hj62_0 : ∀ (s13 : jq_M), jq_J (X0_daysTogether_j62 p1 p2 s13) K0 (jq_V jq_zX X (jq_zN jq_zX) s13 62 [(0, jR 57), (1, jR p1), (2, jI p2)] []) := by
    intro s13
    unfold X0_daysTogether_j62
    refine jq_aload_n Γ dX0_daysTogether_62 rfl 1 rfl (jq_at_0 (at_com hp1)) ?_
    refine jq_iload_n Γ dX0_daysTogether_63 rfl 2 rfl ?_
    refine jq_cpZ (jq_virt (avs := [jI p2]) (st := []) Γ hlY rfl ml_RX0_57 rfl (at_com hp1) rfl rfl rfl rfl rfl dX0_daysTogether_64) rfl (fun r h => ctX1_isArticle hp1 h) (fun v14 hz15 => ?_)
    refine jq_if_eq (tgt := 79) Γ dX0_daysTogether_67 rfl ?_ ?_
    · refine jq_iconst Γ dX0_daysTogether_79 rfl ?_
      exact jq_ireturn Γ dX0_daysTogether_80 (hK0 _)
    · refine jq_aload_n Γ dX0_daysTogether_70 rfl 0 rfl (jq_at_0 at_X_57) ?_
      refine jq_getR (v := 59) Γ hlY at_X_57 fl_RX0_15 rfl rfl ly_X0_ends dX0_daysTogether_71 ?_
      refine jq_iload_n Γ dX0_daysTogether_74 rfl 2 rfl ?_
      refine jq_iald Γ at_X_59 rfl dX0_daysTogether_75 (fun v16 => ?_)
      refine jq_goto Γ (tgt := 80) dX0_daysTogether_76 rfl ?_
      exact jq_ireturn Γ dX0_daysTogether_80 (hK0 _)
  refine jq_iconst Γ dX0_daysTogether_0 rfl ?_
  refine jq_istore_n (L' := [(3, jI 0), (0, jR 57), (1, jR p1), (2, jI p2)]) Γ dX0_daysTogether_1 rfl hnl rfl rfl ?_
  refine jq_sub Γ (L' := [(0, jR 57), (1, jR p1), (2, jI p2), (3, jI 0)]) [1, 2, 3, 0] rfl ?_
  refine jq_loop2 (C := fun (t1 : Int × jq_M) => jq_V jq_zX X (jq_zN jq_zX) t1.2 2 [(0, jR 57), (1, jR p1), (2, jI p2), (3, jI t1.1)] []) (KX := fun (e12 : jq_M) => jq_V jq_zX X (jq_zN jq_zX) e12 62 [(0, jR 57), (1, jR p1), (2, jI p2)] []) ?_ ?_ (0, σ)
  · intro K2_t1 hCt1 hXt1 t1
    unfold X0_daysTogether_b2
    refine jq_iload_n Γ dX0_daysTogether_2 rfl 3 rfl ?_
    refine jq_iload_n Γ dX0_daysTogether_3 rfl 2 rfl ?_
    refine jq_icmp_gt (tgt := 62) Γ dX0_daysTogether_4 rfl ?_ ?_
    · refine jq_sub Γ (L' := [(0, jR 57), (1, jR p1), (2, jI p2)]) [0, 1, 2] rfl ?_
      exact jq_done (hXt1 t1.2)
    · refine jq_iload_n Γ dX0_daysTogether_7 rfl 3 rfl ?_
      refine jq_bipush Γ dX0_daysTogether_8 rfl ?_
      refine jq_icmp_ge (tgt := 62) Γ dX0_daysTogether_10 rfl ?_ ?_
      · refine jq_sub Γ (L' := [(0, jR 57), (1, jR p1), (2, jI p2)]) [0, 1, 2] rfl ?_
        exact jq_done (hXt1 t1.2)
      · refine jq_aload_n Γ dX0_daysTogether_13 rfl 0 rfl (jq_at_0 at_X_57) ?_
        refine jq_getR (v := 59) Γ hlY at_X_57 fl_RX0_15 rfl rfl ly_X0_ends dX0_daysTogether_14 ?_
        refine jq_iload_n Γ dX0_daysTogether_17 rfl 3 rfl ?_
        refine jq_aload_n Γ dX0_daysTogether_18 rfl 1 rfl (jq_at_0 (at_com hp1)) ?_
        refine jq_iload_n Γ dX0_daysTogether_19 rfl 3 rfl ?_
        refine jq_cpZ (jq_virt (avs := [jI t1.1]) (st := [jI t1.1, jR 59]) Γ hlY rfl ml_RX0_39 rfl (at_com hp1) rfl rfl rfl rfl rfl dX0_daysTogether_20) rfl (fun r h => ctX1_isAgreed hp1 h) (fun v2 hz3 => ?_)
        refine jq_if_eq (tgt := 30) Γ dX0_daysTogether_23 rfl ?_ ?_
        · refine jq_aload_n Γ dX0_daysTogether_30 rfl 0 rfl (jq_at_0 at_X_57) ?_
          refine jq_aload_n Γ dX0_daysTogether_31 rfl 1 rfl (jq_at_0 (at_com hp1)) ?_
          refine jq_getR (v := (p1 + 11)) Γ hlY (at_com hp1) fl_RX0_36 rfl rfl (ly_X1_leansOn hp1) dX0_daysTogether_32 ?_
          refine jq_iload_n Γ dX0_daysTogether_35 rfl 3 rfl ?_
          refine jq_iald Γ (at_com_11 hp1) rfl dX0_daysTogether_36 (fun v4 => ?_)
          refine jq_iload_n Γ dX0_daysTogether_37 rfl 3 rfl ?_
          refine jq_cpI (jq_virt (avs := [jI v4, jI t1.1]) (st := [jI t1.1, jR 59]) Γ hlY rfl ml_RX0_47 rfl at_X_57 rfl rfl rfl rfl rfl dX0_daysTogether_38) (fun r h => ctX0_latestEnd h) (fun v5 => ?_)
          refine jq_aload_n Γ dX0_daysTogether_41 rfl 1 rfl (jq_at_0 (at_com hp1)) ?_
          refine jq_getR (v := (p1 + 9)) Γ hlY (at_com hp1) fl_RX0_51 rfl rfl (ly_X1_takes hp1) dX0_daysTogether_42 ?_
          refine jq_iload_n Γ dX0_daysTogether_45 rfl 3 rfl ?_
          refine jq_iald Γ (at_com_9 hp1) rfl dX0_daysTogether_46 (fun v6 => ?_)
          refine jq_iadd Γ dX0_daysTogether_47 ?_
          refine jq_aload_n Γ dX0_daysTogether_48 rfl 1 rfl (jq_at_0 (at_com hp1)) ?_
          refine jq_getR (v := (p1 + 12)) Γ hlY (at_com hp1) fl_RX0_54 rfl rfl (ly_X1_worked hp1) dX0_daysTogether_49 ?_
          refine jq_iload_n Γ dX0_daysTogether_52 rfl 3 rfl ?_
          refine jq_iald Γ (at_com_12 hp1) rfl dX0_daysTogether_53 (fun v7 => ?_)
          refine jq_isub Γ dX0_daysTogether_54 ?_
          refine jq_iast Γ at_X_59 rfl dX0_daysTogether_55 (fun s8 => ?_)
          refine jq_iincN (L' := fun v9 => [(3, jI v9), (0, jR 57), (1, jR p1), (2, jI p2)]) Γ dX0_daysTogether_56 3 rfl hnl rfl (fun _ => rfl) (fun v9 => ?_)
          refine jq_goto Γ (tgt := 2) dX0_daysTogether_59 rfl ?_
          refine jq_sub Γ (L' := [(0, jR 57), (1, jR p1), (2, jI p2), (3, jI v9)]) [1, 2, 3, 0] rfl ?_
          exact jq_done (hCt1 (v9, s8))
        · refine jq_iconst Γ dX0_daysTogether_26 rfl ?_
          refine jq_goto Γ (tgt := 55) dX0_daysTogether_27 rfl ?_
          refine jq_iast Γ at_X_59 rfl dX0_daysTogether_55 (fun s10 => ?_)
          refine jq_iincN (L' := fun v11 => [(3, jI v11), (0, jR 57), (1, jR p1), (2, jI p2)]) Γ dX0_daysTogether_56 3 rfl hnl rfl (fun _ => rfl) (fun v11 => ?_)
          refine jq_goto Γ (tgt := 2) dX0_daysTogether_59 rfl ?_
          refine jq_sub Γ (L' := [(0, jR 57), (1, jR p1), (2, jI p2), (3, jI v11)]) [1, 2, 3, 0] rfl ?_
          exact jq_done (hCt1 (v11, s10))
  · intro e12
    exact hj62_0 e12


theorem dX10_chain_0 : decode cX10_chain 0 = .ok (.aload_n 0, 1) := by decide +kernel
theorem dX10_chain_1 : decode cX10_chain 1 = .ok (.getfield 25, 3) := by decide +kernel
theorem dX10_chain_4 : decode cX10_chain 4 = .ok (.iload_n 1, 1) := by decide +kernel
theorem dX10_chain_5 : decode cX10_chain 5 = .ok (.invokevirtual 248, 3) := by decide +kernel
theorem dX10_chain_8 : decode cX10_chain 8 = .ok (.ifCond .ne 9, 3) := by decide +kernel
theorem dX10_chain_11 : decode cX10_chain 11 = .ok (.aload_n 0, 1) := by decide +kernel
theorem dX10_chain_12 : decode cX10_chain 12 = .ok (.iconst 1, 1) := by decide +kernel
theorem dX10_chain_13 : decode cX10_chain 13 = .ok (.invokevirtual 117, 3) := by decide +kernel
theorem dX10_chain_16 : decode cX10_chain 16 = .ok (.ireturn, 1) := by decide +kernel
theorem dX10_chain_17 : decode cX10_chain 17 = .ok (.aload_n 0, 1) := by decide +kernel
theorem dX10_chain_18 : decode cX10_chain 18 = .ok (.aload_n 0, 1) := by decide +kernel
theorem dX10_chain_19 : decode cX10_chain 19 = .ok (.getfield 53, 3) := by decide +kernel
theorem dX10_chain_22 : decode cX10_chain 22 = .ok (.aload_n 0, 1) := by decide +kernel
theorem dX10_chain_23 : decode cX10_chain 23 = .ok (.getfield 25, 3) := by decide +kernel
theorem dX10_chain_26 : decode cX10_chain 26 = .ok (.iload_n 1, 1) := by decide +kernel
theorem dX10_chain_27 : decode cX10_chain 27 = .ok (.invokevirtual 409, 3) := by decide +kernel
theorem dX10_chain_30 : decode cX10_chain 30 = .ok (.invokevirtual 167, 3) := by decide +kernel
theorem dX10_chain_33 : decode cX10_chain 33 = .ok (.ireturn, 1) := by decide +kernel
set_option maxHeartbeats 4000000 in
set_option maxRecDepth 100000 in
theorem ctX10_chain {p1 : Int} {σ : jq_M} {res : Int} {σ' : jq_M}  (h : X10_chain p1 σ = some (res, σ')) : jq_MC jq_zX yX10_chain cX10_chain 2 (some .int) 4 108 [jR 0, jI p1] σ (some (jI res)) σ' := by
  refine jq_met (own := RX10) (L0 := [(0, jR 0), (1, jI p1)]) (by decide) rfl rfl rfl ?_
  intro X Γ hnl hlY hRT
  refine jq_use2 (P := fun r => jq_RT jq_zX X (some .int) (some (jI r.1)) r.2) ?_ h hRT
  intro K0 hK0
  unfold X10_chain
  refine jq_aload_n Γ dX10_chain_0 rfl 0 rfl (jq_at_0 at_X_0) ?_
  refine jq_getC (C := jq_cm2) Γ hlY at_X_0 fl_RX10_25 rfl rfl ly_now dX10_chain_1 (fun c1 hc2q => ?_)
  have hc2 := jq_cm2_com hc2q
  refine jq_iload_n Γ dX10_chain_4 rfl 1 rfl ?_
  refine jq_cpZ (jq_virt (avs := [jI p1]) (st := []) Γ hlY rfl ml_RX10_248 rfl (at_com hc2) rfl rfl rfl rfl rfl dX10_chain_5) rfl (fun r h => ctX1_isArticle hc2 h) (fun v3 hz4 => ?_)
  refine jq_if_ne (tgt := 17) Γ dX10_chain_8 rfl ?_ ?_
  · refine jq_aload_n Γ dX10_chain_17 rfl 0 rfl (jq_at_0 at_X_0) ?_
    refine jq_aload_n Γ dX10_chain_18 rfl 0 rfl (jq_at_0 at_X_0) ?_
    refine jq_getR (v := 57) Γ hlY at_X_0 fl_RX10_53 rfl rfl ly_X10_agenda dX10_chain_19 ?_
    refine jq_aload_n Γ dX10_chain_22 rfl 0 rfl (jq_at_0 at_X_0) ?_
    refine jq_getC (C := jq_cm2) Γ hlY at_X_0 fl_RX10_25 rfl rfl ly_now dX10_chain_23 (fun c5 hc6q => ?_)
    have hc6 := jq_cm2_com hc6q
    refine jq_iload_n Γ dX10_chain_26 rfl 1 rfl ?_
    refine jq_cwI (jq_virt (avs := [jR c5, jI p1]) (st := [jR 0]) Γ hlY rfl ml_RX10_409 rfl at_X_57 rfl rfl rfl rfl rfl dX10_chain_27) (fun r σ' h => ctX0_daysTogether hc6 h) (fun v7 s8 => ?_)
    refine jq_cwI (jq_virt (avs := [jI v7]) (st := []) Γ hlY rfl ml_RX10_167 rfl at_X_0 rfl rfl rfl rfl rfl dX10_chain_30) (fun r σ' h => ctX10_answer h) (fun v9 s10 => ?_)
    exact jq_ireturn Γ dX10_chain_33 (hK0 _)
  · refine jq_aload_n Γ dX10_chain_11 rfl 0 rfl (jq_at_0 at_X_0) ?_
    refine jq_iconst Γ dX10_chain_12 rfl ?_
    refine jq_cwI (jq_virt (avs := [jI 1]) (st := []) Γ hlY rfl ml_RX10_117 rfl at_X_0 rfl rfl rfl rfl rfl dX10_chain_13) (fun r σ' h => ctX10_refuse h) (fun v11 s12 => ?_)
    exact jq_ireturn Γ dX10_chain_16 (hK0 _)


