theorem fl_RX0_9 : jq_fl RX0 9 0 2 0 true := ⟨RX0, TX0, tyX0, cls_X0, by decide, jq_in 470 (by decide +kernel) rfl, by decide⟩
theorem fl_RX0_33 : jq_fl RX0 33 1 21 5 false := ⟨RX1, TX1, tyX1, cls_X1, by decide, jq_in 349 (by decide +kernel) rfl, by decide⟩
theorem ml_RX0_36 : jq_nl RX0 36 yX10_holds "StandTable" cX10_holds 2 (some .boolean) 2 := ⟨jq_inN 1343 (by decide +kernel) rfl, yf_X10_holds⟩
theorem fl_RX0_40 : jq_fl RX0 40 1 21 17 true := ⟨RX1, TX1, tyX1, cls_X1, by decide, jq_in 386 (by decide +kernel) rfl, by decide⟩
theorem fl_RX10_53 : jq_fl RX10 53 7 18 13 true := ⟨RX10, TX10, tyX10, cls_X10, by decide, jq_in 539 (by decide +kernel) rfl, by decide⟩
theorem yf_X0_countOrders : Cond.instanceMethod yX0_countOrders ∈ jq_T ∧ Cond.selects (yX0_countOrders).cls yX0_countOrders yX0_countOrders ∈ jq_T ∧ Cond.initialized (yX0_countOrders).cls ∈ jq_T ∧ Cond.code yX0_countOrders cX0_countOrders 5 (some .int) ∈ jq_T ∧ ((yX0_countOrders).cls ≠ "java/lang/invoke/MethodHandle" ∧ (yX0_countOrders).cls ≠ "java/lang/invoke/VarHandle" ∧ (parseMethodDescriptor (yX0_countOrders).desc).map (fun d => d.parameters.length) = some 1) := ⟨jq_in 1340 (by decide +kernel) rfl, jq_in 1341 (by decide +kernel) rfl, jq_in 144 (by decide +kernel) rfl, jq_in 1342 (by decide +kernel) rfl, ⟨by decide, by decide, by decide +kernel⟩⟩
theorem ml_RX10_394 : jq_vl RX10 394 yX0_countOrders cX0_countOrders 5 (some .int) 1 := ⟨jq_in 1339 (by decide +kernel) rfl, yf_X0_countOrders⟩
theorem aw_RX1_84 : Cond.methodLink RX1 84 arraycopyName ∈ jq_T := jq_in 1352 (by decide +kernel) rfl
theorem fl_RX1_40 : jq_fl RX1 40 1 21 16 true := ⟨RX1, TX1, tyX1, cls_X1, by decide, jq_in 381 (by decide +kernel) rfl, by decide⟩
theorem ml_RX1_90 : jq_vl RX1 90 yX7_takeFrom cX7_takeFrom 2 none 1 := ⟨jq_in 1353 (by decide +kernel) rfl, yf_X7_takeFrom⟩
theorem ml_RX0_43 : jq_vl RX0 43 yX1_isAgreed cX1_isAgreed 2 (some .boolean) 1 := ⟨jq_in 1357 (by decide +kernel) rfl, yf_X1_isAgreed⟩
theorem ml_RX0_47 : jq_vl RX0 47 yX1_passOneDay cX1_passOneDay 3 (some .int) 0 := ⟨jq_in 1358 (by decide +kernel) rfl, yf_X1_passOneDay⟩
theorem yf_X1_takeFrom : Cond.instanceMethod yX1_takeFrom ∈ jq_T ∧ Cond.selects (yX1_takeFrom).cls yX1_takeFrom yX1_takeFrom ∈ jq_T ∧ Cond.initialized (yX1_takeFrom).cls ∈ jq_T ∧ Cond.code yX1_takeFrom cX1_takeFrom 2 none ∈ jq_T ∧ ((yX1_takeFrom).cls ≠ "java/lang/invoke/MethodHandle" ∧ (yX1_takeFrom).cls ≠ "java/lang/invoke/VarHandle" ∧ (parseMethodDescriptor (yX1_takeFrom).desc).map (fun d => d.parameters.length) = some 1) := ⟨jq_in 1349 (by decide +kernel) rfl, jq_in 1350 (by decide +kernel) rfl, jq_in 141 (by decide +kernel) rfl, jq_in 1351 (by decide +kernel) rfl, ⟨by decide, by decide, by decide +kernel⟩⟩
theorem ml_RX10_397 : jq_vl RX10 397 yX1_takeFrom cX1_takeFrom 2 none 1 := ⟨jq_in 1348 (by decide +kernel) rfl, yf_X1_takeFrom⟩
theorem yf_X0_daysTill : Cond.static yX0_daysTill ∈ jq_T ∧ Cond.initialized (yX0_daysTill).cls ∈ jq_T ∧ Cond.code yX0_daysTill cX0_daysTill 3 (some .int) ∈ jq_T ∧ ((yX0_daysTill).cls ≠ "java/lang/invoke/MethodHandle" ∧ (yX0_daysTill).cls ≠ "java/lang/invoke/VarHandle" ∧ (parseMethodDescriptor (yX0_daysTill).desc).map (fun d => d.parameters.length) = some 2) := ⟨jq_in 1355 (by decide +kernel) rfl, jq_in 144 (by decide +kernel) rfl, jq_in 1356 (by decide +kernel) rfl, ⟨by decide, by decide, by decide +kernel⟩⟩
theorem ml_RX10_400 : jq_sl RX10 400 yX0_daysTill cX0_daysTill 3 (some .int) 2 := ⟨jq_in 1354 (by decide +kernel) rfl, yf_X0_daysTill⟩
theorem fl_RX0_15 : jq_fl RX0 15 0 2 1 true := ⟨RX0, TX0, tyX0, cls_X0, by decide, jq_in 471 (by decide +kernel) rfl, by decide⟩
theorem mw_RX0_61 : Cond.methodLink RX0 61 Lib.Math.max.name ∈ jq_T := jq_in 1371 (by decide +kernel) rfl
theorem yf_X0_latestEnd : Cond.instanceMethod yX0_latestEnd ∈ jq_T ∧ Cond.selects (yX0_latestEnd).cls yX0_latestEnd yX0_latestEnd ∈ jq_T ∧ Cond.initialized (yX0_latestEnd).cls ∈ jq_T ∧ Cond.code yX0_latestEnd cX0_latestEnd 5 (some .int) ∈ jq_T ∧ ((yX0_latestEnd).cls ≠ "java/lang/invoke/MethodHandle" ∧ (yX0_latestEnd).cls ≠ "java/lang/invoke/VarHandle" ∧ (parseMethodDescriptor (yX0_latestEnd).desc).map (fun d => d.parameters.length) = some 2) := ⟨jq_in 1369 (by decide +kernel) rfl, jq_in 23 (by decide +kernel) rfl, jq_in 144 (by decide +kernel) rfl, jq_in 1370 (by decide +kernel) rfl, ⟨by decide, by decide, by decide +kernel⟩⟩
theorem ml_RX0_51 : jq_vl RX0 51 yX0_latestEnd cX0_latestEnd 5 (some .int) 2 := ⟨jq_in 1367 (by decide +kernel) rfl, yf_X0_latestEnd⟩
theorem fl_RX0_55 : jq_fl RX0 55 1 21 15 true := ⟨RX1, TX1, tyX1, cls_X1, by decide, jq_in 378 (by decide +kernel) rfl, by decide⟩
theorem fl_RX0_58 : jq_fl RX0 58 1 21 18 true := ⟨RX1, TX1, tyX1, cls_X1, by decide, jq_in 390 (by decide +kernel) rfl, by decide⟩
theorem yf_X0_daysTogether : Cond.instanceMethod yX0_daysTogether ∈ jq_T ∧ Cond.selects (yX0_daysTogether).cls yX0_daysTogether yX0_daysTogether ∈ jq_T ∧ Cond.initialized (yX0_daysTogether).cls ∈ jq_T ∧ Cond.code yX0_daysTogether cX0_daysTogether 4 (some .int) ∈ jq_T ∧ ((yX0_daysTogether).cls ≠ "java/lang/invoke/MethodHandle" ∧ (yX0_daysTogether).cls ≠ "java/lang/invoke/VarHandle" ∧ (parseMethodDescriptor (yX0_daysTogether).desc).map (fun d => d.parameters.length) = some 2) := ⟨jq_in 1364 (by decide +kernel) rfl, jq_in 1365 (by decide +kernel) rfl, jq_in 144 (by decide +kernel) rfl, jq_in 1366 (by decide +kernel) rfl, ⟨by decide, by decide, by decide +kernel⟩⟩
theorem ml_RX10_403 : jq_vl RX10 403 yX0_daysTogether cX0_daysTogether 4 (some .int) 2 := ⟨jq_in 1363 (by decide +kernel) rfl, yf_X0_daysTogether⟩
theorem fl_RX0_66 : jq_fl RX0 66 1 21 16 true := ⟨RX1, TX1, tyX1, cls_X1, by decide, jq_in 382 (by decide +kernel) rfl, by decide⟩
theorem kc_RX10_466 : Cond.constant RX10 466 (Int32.ofInt (1000000)) ∈ jq_T := jq_in 1394 (by decide +kernel) rfl
theorem mw_RX10_456 : Cond.methodLink RX10 456 Lib.MathLoose.abs_long.x ∈ jq_T := jq_in 1388 (by decide +kernel) rfl
theorem mws_absl : Cond.static Lib.MathLoose.abs_long.x ∈ jq_T := jq_in 1389 (by decide +kernel) rfl
theorem mwc_absl : Cond.code Lib.MathLoose.abs_long.x Lib.MathLoose.abs_long.code 2 (some .long) ∈ jq_T := jq_in 1390 (by decide +kernel) rfl
theorem yf_X10_commonDivisor : Cond.static yX10_commonDivisor ∈ jq_T ∧ Cond.initialized (yX10_commonDivisor).cls ∈ jq_T ∧ Cond.code yX10_commonDivisor cX10_commonDivisor 11 (some .long) ∈ jq_T ∧ ((yX10_commonDivisor).cls ≠ "java/lang/invoke/MethodHandle" ∧ (yX10_commonDivisor).cls ≠ "java/lang/invoke/VarHandle" ∧ (parseMethodDescriptor (yX10_commonDivisor).desc).map (fun d => d.parameters.length) = some 2) := ⟨jq_in 1392 (by decide +kernel) rfl, jq_in 135 (by decide +kernel) rfl, jq_in 1393 (by decide +kernel) rfl, ⟨by decide, by decide, by decide +kernel⟩⟩
theorem ml_RX10_462 : jq_sl RX10 462 yX10_commonDivisor cX10_commonDivisor 11 (some .long) 2 := ⟨jq_in 1391 (by decide +kernel) rfl, yf_X10_commonDivisor⟩
theorem kc_RX10_406 : Cond.constantLong RX10 406 (Int64.ofInt (16)) ∈ jq_T := jq_in 1380 (by decide +kernel) rfl
theorem yf_X0_oddsOfAll : Cond.static yX0_oddsOfAll ∈ jq_T ∧ Cond.initialized (yX0_oddsOfAll).cls ∈ jq_T ∧ Cond.code yX0_oddsOfAll cX0_oddsOfAll 5 (some .long) ∈ jq_T ∧ ((yX0_oddsOfAll).cls ≠ "java/lang/invoke/MethodHandle" ∧ (yX0_oddsOfAll).cls ≠ "java/lang/invoke/VarHandle" ∧ (parseMethodDescriptor (yX0_oddsOfAll).desc).map (fun d => d.parameters.length) = some 2) := ⟨jq_in 1382 (by decide +kernel) rfl, jq_in 144 (by decide +kernel) rfl, jq_in 1383 (by decide +kernel) rfl, ⟨by decide, by decide, by decide +kernel⟩⟩
theorem ml_RX10_408 : jq_sl RX10 408 yX0_oddsOfAll cX0_oddsOfAll 5 (some .long) 2 := ⟨jq_in 1381 (by decide +kernel) rfl, yf_X0_oddsOfAll⟩
theorem yf_X10_tellFraction : Cond.instanceMethod yX10_tellFraction ∈ jq_T ∧ Cond.selects (yX10_tellFraction).cls yX10_tellFraction yX10_tellFraction ∈ jq_T ∧ Cond.initialized (yX10_tellFraction).cls ∈ jq_T ∧ Cond.code yX10_tellFraction cX10_tellFraction 7 none ∈ jq_T ∧ ((yX10_tellFraction).cls ≠ "java/lang/invoke/MethodHandle" ∧ (yX10_tellFraction).cls ≠ "java/lang/invoke/VarHandle" ∧ (parseMethodDescriptor (yX10_tellFraction).desc).map (fun d => d.parameters.length) = some 2) := ⟨jq_in 1386 (by decide +kernel) rfl, jq_in 24 (by decide +kernel) rfl, jq_in 135 (by decide +kernel) rfl, jq_in 1387 (by decide +kernel) rfl, ⟨by decide, by decide, by decide +kernel⟩⟩
theorem ml_RX10_412 : jq_vl RX10 412 yX10_tellFraction cX10_tellFraction 7 none 2 := ⟨jq_in 1384 (by decide +kernel) rfl, yf_X10_tellFraction⟩
theorem ml_RX0_69 : jq_vl RX0 69 yX1_allLeansOf cX1_allLeansOf 4 (some .int) 1 := ⟨jq_in 1402 (by decide +kernel) rfl, yf_X1_allLeansOf⟩
theorem ml_RX0_72 : jq_sl RX0 72 yX0_oddsOfAll cX0_oddsOfAll 5 (some .long) 2 := ⟨jq_in 1403 (by decide +kernel) rfl, yf_X0_oddsOfAll⟩
theorem kc_RX0_76 : Cond.constantLong RX0 76 (Int64.ofInt (16)) ∈ jq_T := jq_in 1404 (by decide +kernel) rfl
theorem yf_X0_weakestOf : Cond.static yX0_weakestOf ∈ jq_T ∧ Cond.initialized (yX0_weakestOf).cls ∈ jq_T ∧ Cond.code yX0_weakestOf cX0_weakestOf 9 (some .int) ∈ jq_T ∧ ((yX0_weakestOf).cls ≠ "java/lang/invoke/MethodHandle" ∧ (yX0_weakestOf).cls ≠ "java/lang/invoke/VarHandle" ∧ (parseMethodDescriptor (yX0_weakestOf).desc).map (fun d => d.parameters.length) = some 1) := ⟨jq_in 1400 (by decide +kernel) rfl, jq_in 144 (by decide +kernel) rfl, jq_in 1401 (by decide +kernel) rfl, ⟨by decide, by decide, by decide +kernel⟩⟩
theorem ml_RX10_416 : jq_sl RX10 416 yX0_weakestOf cX0_weakestOf 9 (some .int) 1 := ⟨jq_in 1399 (by decide +kernel) rfl, yf_X0_weakestOf⟩
theorem yf_X10_whyNoSeatsIn : Cond.instanceMethod yX10_whyNoSeatsIn ∈ jq_T ∧ Cond.selects (yX10_whyNoSeatsIn).cls yX10_whyNoSeatsIn yX10_whyNoSeatsIn ∈ jq_T ∧ Cond.initialized (yX10_whyNoSeatsIn).cls ∈ jq_T ∧ Cond.code yX10_whyNoSeatsIn cX10_whyNoSeatsIn 3 (some .int) ∈ jq_T ∧ ((yX10_whyNoSeatsIn).cls ≠ "java/lang/invoke/MethodHandle" ∧ (yX10_whyNoSeatsIn).cls ≠ "java/lang/invoke/VarHandle" ∧ (parseMethodDescriptor (yX10_whyNoSeatsIn).desc).map (fun d => d.parameters.length) = some 1) := ⟨jq_in 1411 (by decide +kernel) rfl, jq_in 25 (by decide +kernel) rfl, jq_in 135 (by decide +kernel) rfl, jq_in 1412 (by decide +kernel) rfl, ⟨by decide, by decide, by decide +kernel⟩⟩
theorem ml_RX10_419 : jq_vl RX10 419 yX10_whyNoSeatsIn cX10_whyNoSeatsIn 3 (some .int) 1 := ⟨jq_in 1409 (by decide +kernel) rfl, yf_X10_whyNoSeatsIn⟩
theorem dX0_countOrders_0 : decode cX0_countOrders 0 = .ok (.iconst 1, 1) := by decide +kernel
theorem dX0_countOrders_1 : decode cX0_countOrders 1 = .ok (.aload_n 1, 1) := by decide +kernel
theorem dX0_countOrders_2 : decode cX0_countOrders 2 = .ok (.getfield 18, 3) := by decide +kernel
theorem dX0_countOrders_5 : decode cX0_countOrders 5 = .ok (.ishl, 1) := by decide +kernel
theorem dX0_countOrders_6 : decode cX0_countOrders 6 = .ok (.istore_n 2, 1) := by decide +kernel
theorem dX0_countOrders_7 : decode cX0_countOrders 7 = .ok (.iconst 0, 1) := by decide +kernel
theorem dX0_countOrders_8 : decode cX0_countOrders 8 = .ok (.istore_n 3, 1) := by decide +kernel
theorem dX0_countOrders_9 : decode cX0_countOrders 9 = .ok (.iload_n 3, 1) := by decide +kernel
theorem dX0_countOrders_10 : decode cX0_countOrders 10 = .ok (.iload_n 2, 1) := by decide +kernel
theorem dX0_countOrders_11 : decode cX0_countOrders 11 = .ok (.if_icmp .ge 35, 3) := by decide +kernel
theorem dX0_countOrders_14 : decode cX0_countOrders 14 = .ok (.iload_n 3, 1) := by decide +kernel
theorem dX0_countOrders_15 : decode cX0_countOrders 15 = .ok (.sipush 256, 3) := by decide +kernel
theorem dX0_countOrders_18 : decode cX0_countOrders 18 = .ok (.if_icmp .ge 28, 3) := by decide +kernel
theorem dX0_countOrders_21 : decode cX0_countOrders 21 = .ok (.aload_n 0, 1) := by decide +kernel
theorem dX0_countOrders_22 : decode cX0_countOrders 22 = .ok (.getfield 9, 3) := by decide +kernel
theorem dX0_countOrders_25 : decode cX0_countOrders 25 = .ok (.iload_n 3, 1) := by decide +kernel
theorem dX0_countOrders_26 : decode cX0_countOrders 26 = .ok (.iload_n 3, 1) := by decide +kernel
theorem dX0_countOrders_27 : decode cX0_countOrders 27 = .ok (.aload_n 1, 1) := by decide +kernel
theorem dX0_countOrders_28 : decode cX0_countOrders 28 = .ok (.getfield 33, 3) := by decide +kernel
theorem dX0_countOrders_31 : decode cX0_countOrders 31 = .ok (.if_icmp .ne 7, 3) := by decide +kernel
theorem dX0_countOrders_34 : decode cX0_countOrders 34 = .ok (.iconst 1, 1) := by decide +kernel
theorem dX0_countOrders_35 : decode cX0_countOrders 35 = .ok (.goto 4, 3) := by decide +kernel
theorem dX0_countOrders_38 : decode cX0_countOrders 38 = .ok (.iconst 0, 1) := by decide +kernel
theorem dX0_countOrders_39 : decode cX0_countOrders 39 = .ok (.iastore, 1) := by decide +kernel
theorem dX0_countOrders_40 : decode cX0_countOrders 40 = .ok (.iinc 3 1, 3) := by decide +kernel
theorem dX0_countOrders_43 : decode cX0_countOrders 43 = .ok (.goto (-34), 3) := by decide +kernel
theorem dX0_countOrders_46 : decode cX0_countOrders 46 = .ok (.iconst 0, 1) := by decide +kernel
theorem dX0_countOrders_47 : decode cX0_countOrders 47 = .ok (.istore_n 3, 1) := by decide +kernel
theorem dX0_countOrders_48 : decode cX0_countOrders 48 = .ok (.iload_n 3, 1) := by decide +kernel
theorem dX0_countOrders_49 : decode cX0_countOrders 49 = .ok (.iload_n 2, 1) := by decide +kernel
theorem dX0_countOrders_50 : decode cX0_countOrders 50 = .ok (.if_icmp .ge 86, 3) := by decide +kernel
theorem dX0_countOrders_53 : decode cX0_countOrders 53 = .ok (.iload_n 3, 1) := by decide +kernel
theorem dX0_countOrders_54 : decode cX0_countOrders 54 = .ok (.sipush 256, 3) := by decide +kernel
theorem dX0_countOrders_57 : decode cX0_countOrders 57 = .ok (.if_icmp .ge 79, 3) := by decide +kernel
theorem dX0_countOrders_60 : decode cX0_countOrders 60 = .ok (.iconst 0, 1) := by decide +kernel
theorem dX0_countOrders_61 : decode cX0_countOrders 61 = .ok (.istore 4, 2) := by decide +kernel
theorem dX0_countOrders_63 : decode cX0_countOrders 63 = .ok (.iload 4, 2) := by decide +kernel
theorem dX0_countOrders_65 : decode cX0_countOrders 65 = .ok (.aload_n 1, 1) := by decide +kernel
theorem dX0_countOrders_66 : decode cX0_countOrders 66 = .ok (.getfield 18, 3) := by decide +kernel
theorem dX0_countOrders_69 : decode cX0_countOrders 69 = .ok (.if_icmp .ge 61, 3) := by decide +kernel
theorem dX0_countOrders_72 : decode cX0_countOrders 72 = .ok (.aload_n 0, 1) := by decide +kernel
theorem dX0_countOrders_73 : decode cX0_countOrders 73 = .ok (.getfield 9, 3) := by decide +kernel
theorem dX0_countOrders_76 : decode cX0_countOrders 76 = .ok (.iload_n 3, 1) := by decide +kernel
theorem dX0_countOrders_77 : decode cX0_countOrders 77 = .ok (.iaload, 1) := by decide +kernel
theorem dX0_countOrders_78 : decode cX0_countOrders 78 = .ok (.ifCond .le 52, 3) := by decide +kernel
theorem dX0_countOrders_81 : decode cX0_countOrders 81 = .ok (.iload_n 3, 1) := by decide +kernel
theorem dX0_countOrders_82 : decode cX0_countOrders 82 = .ok (.iload 4, 2) := by decide +kernel
theorem dX0_countOrders_84 : decode cX0_countOrders 84 = .ok (.invokestatic 36, 3) := by decide +kernel
theorem dX0_countOrders_87 : decode cX0_countOrders 87 = .ok (.ifCond .ne 37, 3) := by decide +kernel
theorem dX0_countOrders_90 : decode cX0_countOrders 90 = .ok (.aload_n 1, 1) := by decide +kernel
theorem dX0_countOrders_91 : decode cX0_countOrders 91 = .ok (.getfield 40, 3) := by decide +kernel
theorem dX0_countOrders_94 : decode cX0_countOrders 94 = .ok (.iload 4, 2) := by decide +kernel
theorem dX0_countOrders_96 : decode cX0_countOrders 96 = .ok (.iaload, 1) := by decide +kernel
theorem dX0_countOrders_97 : decode cX0_countOrders 97 = .ok (.iload_n 3, 1) := by decide +kernel
theorem dX0_countOrders_98 : decode cX0_countOrders 98 = .ok (.iconst (-1), 1) := by decide +kernel
theorem dX0_countOrders_99 : decode cX0_countOrders 99 = .ok (.ixor, 1) := by decide +kernel
theorem dX0_countOrders_100 : decode cX0_countOrders 100 = .ok (.iand, 1) := by decide +kernel
theorem dX0_countOrders_101 : decode cX0_countOrders 101 = .ok (.ifCond .ne 23, 3) := by decide +kernel
theorem dX0_countOrders_104 : decode cX0_countOrders 104 = .ok (.aload_n 0, 1) := by decide +kernel
theorem dX0_countOrders_105 : decode cX0_countOrders 105 = .ok (.getfield 9, 3) := by decide +kernel
theorem dX0_countOrders_108 : decode cX0_countOrders 108 = .ok (.iload_n 3, 1) := by decide +kernel
theorem dX0_countOrders_109 : decode cX0_countOrders 109 = .ok (.iconst 1, 1) := by decide +kernel
theorem dX0_countOrders_110 : decode cX0_countOrders 110 = .ok (.iload 4, 2) := by decide +kernel
theorem dX0_countOrders_112 : decode cX0_countOrders 112 = .ok (.ishl, 1) := by decide +kernel
theorem dX0_countOrders_113 : decode cX0_countOrders 113 = .ok (.ior, 1) := by decide +kernel
theorem dX0_countOrders_114 : decode cX0_countOrders 114 = .ok (.dup2, 1) := by decide +kernel
theorem dX0_countOrders_115 : decode cX0_countOrders 115 = .ok (.iaload, 1) := by decide +kernel
theorem dX0_countOrders_116 : decode cX0_countOrders 116 = .ok (.aload_n 0, 1) := by decide +kernel
theorem dX0_countOrders_117 : decode cX0_countOrders 117 = .ok (.getfield 9, 3) := by decide +kernel
theorem dX0_countOrders_120 : decode cX0_countOrders 120 = .ok (.iload_n 3, 1) := by decide +kernel
theorem dX0_countOrders_121 : decode cX0_countOrders 121 = .ok (.iaload, 1) := by decide +kernel
theorem dX0_countOrders_122 : decode cX0_countOrders 122 = .ok (.iadd, 1) := by decide +kernel
theorem dX0_countOrders_123 : decode cX0_countOrders 123 = .ok (.iastore, 1) := by decide +kernel
theorem dX0_countOrders_124 : decode cX0_countOrders 124 = .ok (.iinc 4 1, 3) := by decide +kernel
theorem dX0_countOrders_127 : decode cX0_countOrders 127 = .ok (.goto (-64), 3) := by decide +kernel
theorem dX0_countOrders_130 : decode cX0_countOrders 130 = .ok (.iinc 3 1, 3) := by decide +kernel
theorem dX0_countOrders_133 : decode cX0_countOrders 133 = .ok (.goto (-85), 3) := by decide +kernel
theorem dX0_countOrders_136 : decode cX0_countOrders 136 = .ok (.aload_n 0, 1) := by decide +kernel
theorem dX0_countOrders_137 : decode cX0_countOrders 137 = .ok (.getfield 9, 3) := by decide +kernel
theorem dX0_countOrders_140 : decode cX0_countOrders 140 = .ok (.iload_n 2, 1) := by decide +kernel
theorem dX0_countOrders_141 : decode cX0_countOrders 141 = .ok (.iconst 1, 1) := by decide +kernel
theorem dX0_countOrders_142 : decode cX0_countOrders 142 = .ok (.isub, 1) := by decide +kernel
theorem dX0_countOrders_143 : decode cX0_countOrders 143 = .ok (.iaload, 1) := by decide +kernel
theorem dX0_countOrders_144 : decode cX0_countOrders 144 = .ok (.ireturn, 1) := by decide +kernel
set_option maxHeartbeats 4000000 in
set_option maxRecDepth 100000 in
theorem ctX0_countOrders {p1 : Int} {σ : jq_M} {res : Int} {σ' : jq_M} (hp1 : jq_com p1) (h : X0_countOrders p1 σ = some (res, σ')) : jq_MC jq_zX yX0_countOrders cX0_countOrders 5 (some .int) 2 61 [jR 57, jR p1] σ (some (jI res)) σ' := by
  refine jq_met (own := RX0) (L0 := [(0, jR 57), (1, jR p1)]) (by decide) rfl rfl rfl ?_
  intro X Γ hnl hlY hRT
  refine jq_use2 (P := fun r => jq_RT jq_zX X (some .int) (some (jI r.1)) r.2) ?_ h hRT
  intro K0 hK0
  unfold X0_countOrders
  have hj46_0 : ∀ (j8 : Int) (s9 : jq_M), jq_J (X0_countOrders_j46 p1 j8 s9) K0 (jq_V jq_zX X (jq_zN jq_zX) s9 46 [(0, jR 57), (1, jR p1), (2, jI j8)] []) := by
    intro j8 s9
    unfold X0_countOrders_j46
    refine jq_iconst Γ dX0_countOrders_46 rfl ?_
    refine jq_istore_n (L' := [(3, jI 0), (0, jR 57), (1, jR p1), (2, jI j8)]) Γ dX0_countOrders_47 rfl hnl rfl rfl ?_
    refine jq_sub Γ (L' := [(0, jR 57), (1, jR p1), (2, jI j8), (3, jI 0)]) [1, 2, 3, 0] rfl ?_
    refine jq_loop2 (C := fun (t10 : Int × jq_M) => jq_V jq_zX X (jq_zN jq_zX) t10.2 48 [(0, jR 57), (1, jR p1), (2, jI j8), (3, jI t10.1)] []) (KX := fun (e25 : jq_M) => jq_V jq_zX X (jq_zN jq_zX) e25 136 [(0, jR 57), (2, jI j8)] []) ?_ ?_ (0, s9)
    · intro K48_t10 hCt10 hXt10 t10
      unfold X0_countOrders_b48
      refine jq_iload_n Γ dX0_countOrders_48 rfl 3 rfl ?_
      refine jq_iload_n Γ dX0_countOrders_49 rfl 2 rfl ?_
      refine jq_icmp_ge (tgt := 136) Γ dX0_countOrders_50 rfl ?_ ?_
      · refine jq_sub Γ (L' := [(0, jR 57), (2, jI j8)]) [0, 2] rfl ?_
        exact jq_done (hXt10 t10.2)
      · refine jq_iload_n Γ dX0_countOrders_53 rfl 3 rfl ?_
        refine jq_sipush Γ dX0_countOrders_54 rfl ?_
        refine jq_icmp_ge (tgt := 136) Γ dX0_countOrders_57 rfl ?_ ?_
        · refine jq_sub Γ (L' := [(0, jR 57), (2, jI j8)]) [0, 2] rfl ?_
          exact jq_done (hXt10 t10.2)
        · refine jq_iconst Γ dX0_countOrders_60 rfl ?_
          refine jq_istore (L' := [(4, jI 0), (0, jR 57), (1, jR p1), (2, jI j8), (3, jI t10.1)]) Γ dX0_countOrders_61 hnl rfl rfl ?_
          refine jq_sub Γ (L' := [(0, jR 57), (1, jR p1), (2, jI j8), (3, jI t10.1), (4, jI 0)]) [1, 2, 3, 4, 0] rfl ?_
          refine jq_loop2 (C := fun (t11 : Int × jq_M) => jq_V jq_zX X (jq_zN jq_zX) t11.2 63 [(0, jR 57), (1, jR p1), (2, jI j8), (3, jI t10.1), (4, jI t11.1)] []) (KX := fun (e23 : jq_M) => jq_V jq_zX X (jq_zN jq_zX) e23 130 [(0, jR 57), (1, jR p1), (2, jI j8), (3, jI t10.1)] []) ?_ ?_ (0, t10.2)
          · intro K63_t11 hCt11 hXt11 t11
            unfold X0_countOrders_b63
            refine jq_iload Γ dX0_countOrders_63 4 rfl ?_
            refine jq_aload_n Γ dX0_countOrders_65 rfl 1 rfl (jq_at_0 (at_com hp1)) ?_
            refine jq_getI (J := 4) Γ (at_com hp1) fl_RX0_18 rfl rfl dX0_countOrders_66 ?_
            refine jq_icmp_ge (tgt := 130) Γ dX0_countOrders_69 rfl ?_ ?_
            · refine jq_sub Γ (L' := [(0, jR 57), (1, jR p1), (2, jI j8), (3, jI t10.1)]) [0, 1, 2, 3] rfl ?_
              exact jq_done (hXt11 t11.2)
            · refine jq_aload_n Γ dX0_countOrders_72 rfl 0 rfl (jq_at_0 at_X_57) ?_
              refine jq_getR (v := 58) Γ hlY at_X_57 fl_RX0_9 rfl rfl ly_X0_ways dX0_countOrders_73 ?_
              refine jq_iload_n Γ dX0_countOrders_76 rfl 3 rfl ?_
              refine jq_iald Γ at_X_58 rfl dX0_countOrders_77 (fun v12 => ?_)
              refine jq_if_le (tgt := 130) Γ dX0_countOrders_78 rfl ?_ ?_
              · refine jq_sub Γ (L' := [(0, jR 57), (1, jR p1), (2, jI j8), (3, jI t10.1)]) [0, 1, 2, 3] rfl ?_
                exact jq_done (hXt11 t11.2)
              · refine jq_iload_n Γ dX0_countOrders_81 rfl 3 rfl ?_
                refine jq_iload Γ dX0_countOrders_82 4 rfl ?_
                refine jq_cpZ (jq_nest (avs := [jI t10.1, jI t11.1]) (st := []) Γ hlY rfl ml_RX0_36 rfl rfl rfl rfl rfl dX0_countOrders_84) rfl (fun r h => ctX10_holds h) (fun v13 hz14 => ?_)
                refine jq_if_ne (tgt := 124) Γ dX0_countOrders_87 rfl ?_ ?_
                · refine jq_iincN (L' := fun v15 => [(4, jI v15), (0, jR 57), (1, jR p1), (2, jI j8), (3, jI t10.1)]) Γ dX0_countOrders_124 4 rfl hnl rfl (fun _ => rfl) (fun v15 => ?_)
                  refine jq_goto Γ (tgt := 63) dX0_countOrders_127 rfl ?_
                  refine jq_sub Γ (L' := [(0, jR 57), (1, jR p1), (2, jI j8), (3, jI t10.1), (4, jI v15)]) [1, 2, 3, 4, 0] rfl ?_
                  exact jq_done (hCt11 (v15, t11.2))
                · refine jq_aload_n Γ dX0_countOrders_90 rfl 1 rfl (jq_at_0 (at_com hp1)) ?_
                  refine jq_getR (v := (p1 + 11)) Γ hlY (at_com hp1) fl_RX0_40 rfl rfl (ly_X1_leansOn hp1) dX0_countOrders_91 ?_
                  refine jq_iload Γ dX0_countOrders_94 4 rfl ?_
                  refine jq_iald Γ (at_com_11 hp1) rfl dX0_countOrders_96 (fun v16 => ?_)
                  refine jq_iload_n Γ dX0_countOrders_97 rfl 3 rfl ?_
                  refine jq_iconst Γ dX0_countOrders_98 rfl ?_
                  refine jq_ixor Γ dX0_countOrders_99 ?_
                  refine jq_iand Γ dX0_countOrders_100 ?_
                  refine jq_if_ne (tgt := 124) Γ dX0_countOrders_101 rfl ?_ ?_
                  · refine jq_iincN (L' := fun v17 => [(4, jI v17), (0, jR 57), (1, jR p1), (2, jI j8), (3, jI t10.1)]) Γ dX0_countOrders_124 4 rfl hnl rfl (fun _ => rfl) (fun v17 => ?_)
                    refine jq_goto Γ (tgt := 63) dX0_countOrders_127 rfl ?_
                    refine jq_sub Γ (L' := [(0, jR 57), (1, jR p1), (2, jI j8), (3, jI t10.1), (4, jI v17)]) [1, 2, 3, 4, 0] rfl ?_
                    exact jq_done (hCt11 (v17, t11.2))
                  · refine jq_aload_n Γ dX0_countOrders_104 rfl 0 rfl (jq_at_0 at_X_57) ?_
                    refine jq_getR (v := 58) Γ hlY at_X_57 fl_RX0_9 rfl rfl ly_X0_ways dX0_countOrders_105 ?_
                    refine jq_iload_n Γ dX0_countOrders_108 rfl 3 rfl ?_
                    refine jq_iconst Γ dX0_countOrders_109 rfl ?_
                    refine jq_iload Γ dX0_countOrders_110 4 rfl ?_
                    refine jq_ishl Γ dX0_countOrders_112 ?_
                    refine jq_ior Γ dX0_countOrders_113 ?_
                    refine jq_nmI (fun v18 => ?_)
                    refine jq_dup2 Γ dX0_countOrders_114 rfl rfl ?_
                    refine jq_iald Γ at_X_58 rfl dX0_countOrders_115 (fun v19 => ?_)
                    refine jq_aload_n Γ dX0_countOrders_116 rfl 0 rfl (jq_at_0 at_X_57) ?_
                    refine jq_getR (v := 58) Γ hlY at_X_57 fl_RX0_9 rfl rfl ly_X0_ways dX0_countOrders_117 ?_
                    refine jq_iload_n Γ dX0_countOrders_120 rfl 3 rfl ?_
                    refine jq_iald Γ at_X_58 rfl dX0_countOrders_121 (fun v20 => ?_)
                    refine jq_iadd Γ dX0_countOrders_122 ?_
                    refine jq_iast Γ at_X_58 rfl dX0_countOrders_123 (fun s21 => ?_)
                    refine jq_iincN (L' := fun v22 => [(4, jI v22), (0, jR 57), (1, jR p1), (2, jI j8), (3, jI t10.1)]) Γ dX0_countOrders_124 4 rfl hnl rfl (fun _ => rfl) (fun v22 => ?_)
                    refine jq_goto Γ (tgt := 63) dX0_countOrders_127 rfl ?_
                    refine jq_sub Γ (L' := [(0, jR 57), (1, jR p1), (2, jI j8), (3, jI t10.1), (4, jI v22)]) [1, 2, 3, 4, 0] rfl ?_
                    exact jq_done (hCt11 (v22, s21))
          · intro e23
            refine jq_iincN (L' := fun v24 => [(3, jI v24), (0, jR 57), (1, jR p1), (2, jI j8)]) Γ dX0_countOrders_130 3 rfl hnl rfl (fun _ => rfl) (fun v24 => ?_)
            refine jq_goto Γ (tgt := 48) dX0_countOrders_133 rfl ?_
            refine jq_sub Γ (L' := [(0, jR 57), (1, jR p1), (2, jI j8), (3, jI v24)]) [1, 2, 3, 0] rfl ?_
            exact jq_done (hCt10 (v24, e23))
    · intro e25
      refine jq_aload_n Γ dX0_countOrders_136 rfl 0 rfl (jq_at_0 at_X_57) ?_
      refine jq_getR (v := 58) Γ hlY at_X_57 fl_RX0_9 rfl rfl ly_X0_ways dX0_countOrders_137 ?_
      refine jq_iload_n Γ dX0_countOrders_140 rfl 1 rfl ?_
      refine jq_iconst Γ dX0_countOrders_141 rfl ?_
      refine jq_isub Γ dX0_countOrders_142 ?_
      refine jq_iald Γ at_X_58 rfl dX0_countOrders_143 (fun v26 => ?_)
      exact jq_ireturn Γ dX0_countOrders_144 (hK0 _)
  refine jq_iconst Γ dX0_countOrders_0 rfl ?_
  refine jq_aload_n Γ dX0_countOrders_1 rfl 1 rfl (jq_at_0 (at_com hp1)) ?_
  refine jq_getI (J := 4) Γ (at_com hp1) fl_RX0_18 rfl rfl dX0_countOrders_2 ?_
  refine jq_ishl Γ dX0_countOrders_5 ?_
  refine jq_nmI (fun v1 => ?_)
  refine jq_istore_n (L' := [(2, jI v1), (0, jR 57), (1, jR p1)]) Γ dX0_countOrders_6 rfl hnl rfl rfl ?_
  refine jq_iconst Γ dX0_countOrders_7 rfl ?_
  refine jq_istore_n (L' := [(3, jI 0), (2, jI v1), (0, jR 57), (1, jR p1)]) Γ dX0_countOrders_8 rfl hnl rfl rfl ?_
  refine jq_sub Γ (L' := [(0, jR 57), (1, jR p1), (2, jI v1), (3, jI 0)]) [2, 3, 1, 0] rfl ?_
  refine jq_loop2 (C := fun (t2 : Int × jq_M) => jq_V jq_zX X (jq_zN jq_zX) t2.2 9 [(0, jR 57), (1, jR p1), (2, jI v1), (3, jI t2.1)] []) (KX := fun (e7 : jq_M) => jq_V jq_zX X (jq_zN jq_zX) e7 46 [(0, jR 57), (1, jR p1), (2, jI v1)] []) ?_ ?_ (0, σ)
  · intro K9_t2 hCt2 hXt2 t2
    unfold X0_countOrders_b9
    refine jq_iload_n Γ dX0_countOrders_9 rfl 3 rfl ?_
    refine jq_iload_n Γ dX0_countOrders_10 rfl 2 rfl ?_
    refine jq_icmp_ge (tgt := 46) Γ dX0_countOrders_11 rfl ?_ ?_
    · refine jq_sub Γ (L' := [(0, jR 57), (1, jR p1), (2, jI v1)]) [0, 1, 2] rfl ?_
      exact jq_done (hXt2 t2.2)
    · refine jq_iload_n Γ dX0_countOrders_14 rfl 3 rfl ?_
      refine jq_sipush Γ dX0_countOrders_15 rfl ?_
      refine jq_icmp_ge (tgt := 46) Γ dX0_countOrders_18 rfl ?_ ?_
      · refine jq_sub Γ (L' := [(0, jR 57), (1, jR p1), (2, jI v1)]) [0, 1, 2] rfl ?_
        exact jq_done (hXt2 t2.2)
      · refine jq_aload_n Γ dX0_countOrders_21 rfl 0 rfl (jq_at_0 at_X_57) ?_
        refine jq_getR (v := 58) Γ hlY at_X_57 fl_RX0_9 rfl rfl ly_X0_ways dX0_countOrders_22 ?_
        refine jq_iload_n Γ dX0_countOrders_25 rfl 3 rfl ?_
        refine jq_iload_n Γ dX0_countOrders_26 rfl 3 rfl ?_
        refine jq_aload_n Γ dX0_countOrders_27 rfl 1 rfl (jq_at_0 (at_com hp1)) ?_
        refine jq_getI (J := 5) Γ (at_com hp1) fl_RX0_33 rfl rfl dX0_countOrders_28 ?_
        refine jq_icmp_ne (tgt := 38) Γ dX0_countOrders_31 rfl ?_ ?_
        · refine jq_iconst Γ dX0_countOrders_38 rfl ?_
          refine jq_iast Γ at_X_58 rfl dX0_countOrders_39 (fun s3 => ?_)
          refine jq_iincN (L' := fun v4 => [(3, jI v4), (0, jR 57), (1, jR p1), (2, jI v1)]) Γ dX0_countOrders_40 3 rfl hnl rfl (fun _ => rfl) (fun v4 => ?_)
          refine jq_goto Γ (tgt := 9) dX0_countOrders_43 rfl ?_
          refine jq_sub Γ (L' := [(0, jR 57), (1, jR p1), (2, jI v1), (3, jI v4)]) [1, 2, 3, 0] rfl ?_
          exact jq_done (hCt2 (v4, s3))
        · refine jq_iconst Γ dX0_countOrders_34 rfl ?_
          refine jq_goto Γ (tgt := 39) dX0_countOrders_35 rfl ?_
          refine jq_iast Γ at_X_58 rfl dX0_countOrders_39 (fun s5 => ?_)
          refine jq_iincN (L' := fun v6 => [(3, jI v6), (0, jR 57), (1, jR p1), (2, jI v1)]) Γ dX0_countOrders_40 3 rfl hnl rfl (fun _ => rfl) (fun v6 => ?_)
          refine jq_goto Γ (tgt := 9) dX0_countOrders_43 rfl ?_
          refine jq_sub Γ (L' := [(0, jR 57), (1, jR p1), (2, jI v1), (3, jI v6)]) [1, 2, 3, 0] rfl ?_
          exact jq_done (hCt2 (v6, s5))
  · intro e7
    exact hj46_0 v1 e7


theorem dX10_orders_0 : decode cX10_orders 0 = .ok (.aload_n 0, 1) := by decide +kernel
theorem dX10_orders_1 : decode cX10_orders 1 = .ok (.aload_n 0, 1) := by decide +kernel
theorem dX10_orders_2 : decode cX10_orders 2 = .ok (.getfield 53, 3) := by decide +kernel
theorem dX10_orders_5 : decode cX10_orders 5 = .ok (.aload_n 0, 1) := by decide +kernel
theorem dX10_orders_6 : decode cX10_orders 6 = .ok (.getfield 25, 3) := by decide +kernel
theorem dX10_orders_9 : decode cX10_orders 9 = .ok (.invokevirtual 394, 3) := by decide +kernel
theorem dX10_orders_12 : decode cX10_orders 12 = .ok (.invokevirtual 161, 3) := by decide +kernel
theorem dX10_orders_15 : decode cX10_orders 15 = .ok (.ireturn, 1) := by decide +kernel
set_option maxHeartbeats 4000000 in
set_option maxRecDepth 100000 in
theorem ctX10_orders  {σ : jq_M} {res : Int} {σ' : jq_M}  (h : X10_orders σ = some (res, σ')) : jq_MC jq_zX yX10_orders cX10_orders 1 (some .int) 3 85 [jR 0] σ (some (jI res)) σ' := by
  refine jq_met (own := RX10) (L0 := [(0, jR 0)]) (by decide) rfl rfl rfl ?_
  intro X Γ hnl hlY hRT
  refine jq_use2 (P := fun r => jq_RT jq_zX X (some .int) (some (jI r.1)) r.2) ?_ h hRT
  intro K0 hK0
  unfold X10_orders
  refine jq_aload_n Γ dX10_orders_0 rfl 0 rfl (jq_at_0 at_X_0) ?_
  refine jq_aload_n Γ dX10_orders_1 rfl 0 rfl (jq_at_0 at_X_0) ?_
  refine jq_getR (v := 57) Γ hlY at_X_0 fl_RX10_53 rfl rfl ly_X10_agenda dX10_orders_2 ?_
  refine jq_aload_n Γ dX10_orders_5 rfl 0 rfl (jq_at_0 at_X_0) ?_
  refine jq_getC (C := jq_cm2) Γ hlY at_X_0 fl_RX10_25 rfl rfl ly_now dX10_orders_6 (fun c1 hc2q => ?_)
  have hc2 := jq_cm2_com hc2q
  refine jq_cwI (jq_virt (avs := [jR c1]) (st := [jR 0]) Γ hlY rfl ml_RX10_394 rfl at_X_57 rfl rfl rfl rfl rfl dX10_orders_9) (fun r σ' h => ctX0_countOrders hc2 h) (fun v3 s4 => ?_)
  refine jq_cwI (jq_virt (avs := [jI v3]) (st := []) Γ hlY rfl ml_RX10_161 rfl at_X_0 rfl rfl rfl rfl rfl dX10_orders_12) (fun r σ' h => ctX10_answer h) (fun v5 s6 => ?_)
  exact jq_ireturn Γ dX10_orders_15 (hK0 _)


theorem dX1_takeFrom_0 : decode cX1_takeFrom 0 = .ok (.aload_n 0, 1) := by decide +kernel
theorem dX1_takeFrom_1 : decode cX1_takeFrom 1 = .ok (.aload_n 1, 1) := by decide +kernel
theorem dX1_takeFrom_2 : decode cX1_takeFrom 2 = .ok (.getfield 59, 3) := by decide +kernel
theorem dX1_takeFrom_5 : decode cX1_takeFrom 5 = .ok (.putfield 59, 3) := by decide +kernel
theorem dX1_takeFrom_8 : decode cX1_takeFrom 8 = .ok (.aload_n 0, 1) := by decide +kernel
theorem dX1_takeFrom_9 : decode cX1_takeFrom 9 = .ok (.aload_n 1, 1) := by decide +kernel
theorem dX1_takeFrom_10 : decode cX1_takeFrom 10 = .ok (.getfield 63, 3) := by decide +kernel
theorem dX1_takeFrom_13 : decode cX1_takeFrom 13 = .ok (.putfield 63, 3) := by decide +kernel
theorem dX1_takeFrom_16 : decode cX1_takeFrom 16 = .ok (.aload_n 0, 1) := by decide +kernel
theorem dX1_takeFrom_17 : decode cX1_takeFrom 17 = .ok (.aload_n 1, 1) := by decide +kernel
theorem dX1_takeFrom_18 : decode cX1_takeFrom 18 = .ok (.getfield 66, 3) := by decide +kernel
theorem dX1_takeFrom_21 : decode cX1_takeFrom 21 = .ok (.putfield 66, 3) := by decide +kernel
theorem dX1_takeFrom_24 : decode cX1_takeFrom 24 = .ok (.aload_n 0, 1) := by decide +kernel
theorem dX1_takeFrom_25 : decode cX1_takeFrom 25 = .ok (.aload_n 1, 1) := by decide +kernel
theorem dX1_takeFrom_26 : decode cX1_takeFrom 26 = .ok (.getfield 69, 3) := by decide +kernel
theorem dX1_takeFrom_29 : decode cX1_takeFrom 29 = .ok (.putfield 69, 3) := by decide +kernel
theorem dX1_takeFrom_32 : decode cX1_takeFrom 32 = .ok (.aload_n 0, 1) := by decide +kernel
theorem dX1_takeFrom_33 : decode cX1_takeFrom 33 = .ok (.aload_n 1, 1) := by decide +kernel
theorem dX1_takeFrom_34 : decode cX1_takeFrom 34 = .ok (.getfield 72, 3) := by decide +kernel
theorem dX1_takeFrom_37 : decode cX1_takeFrom 37 = .ok (.putfield 72, 3) := by decide +kernel
theorem dX1_takeFrom_40 : decode cX1_takeFrom 40 = .ok (.aload_n 0, 1) := by decide +kernel
theorem dX1_takeFrom_41 : decode cX1_takeFrom 41 = .ok (.aload_n 1, 1) := by decide +kernel
theorem dX1_takeFrom_42 : decode cX1_takeFrom 42 = .ok (.getfield 75, 3) := by decide +kernel
theorem dX1_takeFrom_45 : decode cX1_takeFrom 45 = .ok (.putfield 75, 3) := by decide +kernel
theorem dX1_takeFrom_48 : decode cX1_takeFrom 48 = .ok (.aload_n 0, 1) := by decide +kernel
theorem dX1_takeFrom_49 : decode cX1_takeFrom 49 = .ok (.aload_n 1, 1) := by decide +kernel
theorem dX1_takeFrom_50 : decode cX1_takeFrom 50 = .ok (.getfield 78, 3) := by decide +kernel
theorem dX1_takeFrom_53 : decode cX1_takeFrom 53 = .ok (.putfield 78, 3) := by decide +kernel
theorem dX1_takeFrom_56 : decode cX1_takeFrom 56 = .ok (.aload_n 1, 1) := by decide +kernel
theorem dX1_takeFrom_57 : decode cX1_takeFrom 57 = .ok (.getfield 9, 3) := by decide +kernel
theorem dX1_takeFrom_60 : decode cX1_takeFrom 60 = .ok (.iconst 0, 1) := by decide +kernel
theorem dX1_takeFrom_61 : decode cX1_takeFrom 61 = .ok (.aload_n 0, 1) := by decide +kernel
theorem dX1_takeFrom_62 : decode cX1_takeFrom 62 = .ok (.getfield 9, 3) := by decide +kernel
theorem dX1_takeFrom_65 : decode cX1_takeFrom 65 = .ok (.iconst 0, 1) := by decide +kernel
theorem dX1_takeFrom_66 : decode cX1_takeFrom 66 = .ok (.iconst 5, 1) := by decide +kernel
theorem dX1_takeFrom_67 : decode cX1_takeFrom 67 = .ok (.invokestatic 84, 3) := by decide +kernel
theorem dX1_takeFrom_70 : decode cX1_takeFrom 70 = .ok (.aload_n 1, 1) := by decide +kernel
theorem dX1_takeFrom_71 : decode cX1_takeFrom 71 = .ok (.getfield 15, 3) := by decide +kernel
theorem dX1_takeFrom_74 : decode cX1_takeFrom 74 = .ok (.iconst 0, 1) := by decide +kernel
theorem dX1_takeFrom_75 : decode cX1_takeFrom 75 = .ok (.aload_n 0, 1) := by decide +kernel
theorem dX1_takeFrom_76 : decode cX1_takeFrom 76 = .ok (.getfield 15, 3) := by decide +kernel
theorem dX1_takeFrom_79 : decode cX1_takeFrom 79 = .ok (.iconst 0, 1) := by decide +kernel
theorem dX1_takeFrom_80 : decode cX1_takeFrom 80 = .ok (.iconst 5, 1) := by decide +kernel
theorem dX1_takeFrom_81 : decode cX1_takeFrom 81 = .ok (.invokestatic 84, 3) := by decide +kernel
theorem dX1_takeFrom_84 : decode cX1_takeFrom 84 = .ok (.aload_n 1, 1) := by decide +kernel
theorem dX1_takeFrom_85 : decode cX1_takeFrom 85 = .ok (.getfield 19, 3) := by decide +kernel
theorem dX1_takeFrom_88 : decode cX1_takeFrom 88 = .ok (.iconst 0, 1) := by decide +kernel
theorem dX1_takeFrom_89 : decode cX1_takeFrom 89 = .ok (.aload_n 0, 1) := by decide +kernel
theorem dX1_takeFrom_90 : decode cX1_takeFrom 90 = .ok (.getfield 19, 3) := by decide +kernel
theorem dX1_takeFrom_93 : decode cX1_takeFrom 93 = .ok (.iconst 0, 1) := by decide +kernel
theorem dX1_takeFrom_94 : decode cX1_takeFrom 94 = .ok (.iconst 5, 1) := by decide +kernel
theorem dX1_takeFrom_95 : decode cX1_takeFrom 95 = .ok (.invokestatic 84, 3) := by decide +kernel
theorem dX1_takeFrom_98 : decode cX1_takeFrom 98 = .ok (.aload_n 1, 1) := by decide +kernel
theorem dX1_takeFrom_99 : decode cX1_takeFrom 99 = .ok (.getfield 22, 3) := by decide +kernel
theorem dX1_takeFrom_102 : decode cX1_takeFrom 102 = .ok (.iconst 0, 1) := by decide +kernel
theorem dX1_takeFrom_103 : decode cX1_takeFrom 103 = .ok (.aload_n 0, 1) := by decide +kernel
theorem dX1_takeFrom_104 : decode cX1_takeFrom 104 = .ok (.getfield 22, 3) := by decide +kernel
theorem dX1_takeFrom_107 : decode cX1_takeFrom 107 = .ok (.iconst 0, 1) := by decide +kernel
theorem dX1_takeFrom_108 : decode cX1_takeFrom 108 = .ok (.bipush 20, 2) := by decide +kernel
theorem dX1_takeFrom_110 : decode cX1_takeFrom 110 = .ok (.invokestatic 84, 3) := by decide +kernel
theorem dX1_takeFrom_113 : decode cX1_takeFrom 113 = .ok (.aload_n 1, 1) := by decide +kernel
theorem dX1_takeFrom_114 : decode cX1_takeFrom 114 = .ok (.getfield 25, 3) := by decide +kernel
theorem dX1_takeFrom_117 : decode cX1_takeFrom 117 = .ok (.iconst 0, 1) := by decide +kernel
theorem dX1_takeFrom_118 : decode cX1_takeFrom 118 = .ok (.aload_n 0, 1) := by decide +kernel
theorem dX1_takeFrom_119 : decode cX1_takeFrom 119 = .ok (.getfield 25, 3) := by decide +kernel
theorem dX1_takeFrom_122 : decode cX1_takeFrom 122 = .ok (.iconst 0, 1) := by decide +kernel
theorem dX1_takeFrom_123 : decode cX1_takeFrom 123 = .ok (.bipush 20, 2) := by decide +kernel
theorem dX1_takeFrom_125 : decode cX1_takeFrom 125 = .ok (.invokestatic 84, 3) := by decide +kernel
theorem dX1_takeFrom_128 : decode cX1_takeFrom 128 = .ok (.aload_n 1, 1) := by decide +kernel
theorem dX1_takeFrom_129 : decode cX1_takeFrom 129 = .ok (.getfield 28, 3) := by decide +kernel
theorem dX1_takeFrom_132 : decode cX1_takeFrom 132 = .ok (.iconst 0, 1) := by decide +kernel
theorem dX1_takeFrom_133 : decode cX1_takeFrom 133 = .ok (.aload_n 0, 1) := by decide +kernel
theorem dX1_takeFrom_134 : decode cX1_takeFrom 134 = .ok (.getfield 28, 3) := by decide +kernel
theorem dX1_takeFrom_137 : decode cX1_takeFrom 137 = .ok (.iconst 0, 1) := by decide +kernel
theorem dX1_takeFrom_138 : decode cX1_takeFrom 138 = .ok (.bipush 20, 2) := by decide +kernel
theorem dX1_takeFrom_140 : decode cX1_takeFrom 140 = .ok (.invokestatic 84, 3) := by decide +kernel
theorem dX1_takeFrom_143 : decode cX1_takeFrom 143 = .ok (.aload_n 1, 1) := by decide +kernel
theorem dX1_takeFrom_144 : decode cX1_takeFrom 144 = .ok (.getfield 31, 3) := by decide +kernel
theorem dX1_takeFrom_147 : decode cX1_takeFrom 147 = .ok (.iconst 0, 1) := by decide +kernel
theorem dX1_takeFrom_148 : decode cX1_takeFrom 148 = .ok (.aload_n 0, 1) := by decide +kernel
theorem dX1_takeFrom_149 : decode cX1_takeFrom 149 = .ok (.getfield 31, 3) := by decide +kernel
theorem dX1_takeFrom_152 : decode cX1_takeFrom 152 = .ok (.iconst 0, 1) := by decide +kernel
theorem dX1_takeFrom_153 : decode cX1_takeFrom 153 = .ok (.bipush 20, 2) := by decide +kernel
theorem dX1_takeFrom_155 : decode cX1_takeFrom 155 = .ok (.invokestatic 84, 3) := by decide +kernel
theorem dX1_takeFrom_158 : decode cX1_takeFrom 158 = .ok (.aload_n 1, 1) := by decide +kernel
theorem dX1_takeFrom_159 : decode cX1_takeFrom 159 = .ok (.getfield 34, 3) := by decide +kernel
theorem dX1_takeFrom_162 : decode cX1_takeFrom 162 = .ok (.iconst 0, 1) := by decide +kernel
theorem dX1_takeFrom_163 : decode cX1_takeFrom 163 = .ok (.aload_n 0, 1) := by decide +kernel
theorem dX1_takeFrom_164 : decode cX1_takeFrom 164 = .ok (.getfield 34, 3) := by decide +kernel
theorem dX1_takeFrom_167 : decode cX1_takeFrom 167 = .ok (.iconst 0, 1) := by decide +kernel
theorem dX1_takeFrom_168 : decode cX1_takeFrom 168 = .ok (.bipush 8, 2) := by decide +kernel
theorem dX1_takeFrom_170 : decode cX1_takeFrom 170 = .ok (.invokestatic 84, 3) := by decide +kernel
theorem dX1_takeFrom_173 : decode cX1_takeFrom 173 = .ok (.aload_n 1, 1) := by decide +kernel
theorem dX1_takeFrom_174 : decode cX1_takeFrom 174 = .ok (.getfield 37, 3) := by decide +kernel
theorem dX1_takeFrom_177 : decode cX1_takeFrom 177 = .ok (.iconst 0, 1) := by decide +kernel
theorem dX1_takeFrom_178 : decode cX1_takeFrom 178 = .ok (.aload_n 0, 1) := by decide +kernel
theorem dX1_takeFrom_179 : decode cX1_takeFrom 179 = .ok (.getfield 37, 3) := by decide +kernel
theorem dX1_takeFrom_182 : decode cX1_takeFrom 182 = .ok (.iconst 0, 1) := by decide +kernel
theorem dX1_takeFrom_183 : decode cX1_takeFrom 183 = .ok (.bipush 8, 2) := by decide +kernel
theorem dX1_takeFrom_185 : decode cX1_takeFrom 185 = .ok (.invokestatic 84, 3) := by decide +kernel
theorem dX1_takeFrom_188 : decode cX1_takeFrom 188 = .ok (.aload_n 1, 1) := by decide +kernel
theorem dX1_takeFrom_189 : decode cX1_takeFrom 189 = .ok (.getfield 40, 3) := by decide +kernel
theorem dX1_takeFrom_192 : decode cX1_takeFrom 192 = .ok (.iconst 0, 1) := by decide +kernel
theorem dX1_takeFrom_193 : decode cX1_takeFrom 193 = .ok (.aload_n 0, 1) := by decide +kernel
theorem dX1_takeFrom_194 : decode cX1_takeFrom 194 = .ok (.getfield 40, 3) := by decide +kernel
theorem dX1_takeFrom_197 : decode cX1_takeFrom 197 = .ok (.iconst 0, 1) := by decide +kernel
theorem dX1_takeFrom_198 : decode cX1_takeFrom 198 = .ok (.bipush 8, 2) := by decide +kernel
theorem dX1_takeFrom_200 : decode cX1_takeFrom 200 = .ok (.invokestatic 84, 3) := by decide +kernel
theorem dX1_takeFrom_203 : decode cX1_takeFrom 203 = .ok (.aload_n 1, 1) := by decide +kernel
theorem dX1_takeFrom_204 : decode cX1_takeFrom 204 = .ok (.getfield 43, 3) := by decide +kernel
theorem dX1_takeFrom_207 : decode cX1_takeFrom 207 = .ok (.iconst 0, 1) := by decide +kernel
theorem dX1_takeFrom_208 : decode cX1_takeFrom 208 = .ok (.aload_n 0, 1) := by decide +kernel
theorem dX1_takeFrom_209 : decode cX1_takeFrom 209 = .ok (.getfield 43, 3) := by decide +kernel
theorem dX1_takeFrom_212 : decode cX1_takeFrom 212 = .ok (.iconst 0, 1) := by decide +kernel
theorem dX1_takeFrom_213 : decode cX1_takeFrom 213 = .ok (.bipush 8, 2) := by decide +kernel
theorem dX1_takeFrom_215 : decode cX1_takeFrom 215 = .ok (.invokestatic 84, 3) := by decide +kernel
theorem dX1_takeFrom_218 : decode cX1_takeFrom 218 = .ok (.aload_n 1, 1) := by decide +kernel
theorem dX1_takeFrom_219 : decode cX1_takeFrom 219 = .ok (.getfield 46, 3) := by decide +kernel
theorem dX1_takeFrom_222 : decode cX1_takeFrom 222 = .ok (.iconst 0, 1) := by decide +kernel
theorem dX1_takeFrom_223 : decode cX1_takeFrom 223 = .ok (.aload_n 0, 1) := by decide +kernel
theorem dX1_takeFrom_224 : decode cX1_takeFrom 224 = .ok (.getfield 46, 3) := by decide +kernel
theorem dX1_takeFrom_227 : decode cX1_takeFrom 227 = .ok (.iconst 0, 1) := by decide +kernel
theorem dX1_takeFrom_228 : decode cX1_takeFrom 228 = .ok (.bipush 8, 2) := by decide +kernel
theorem dX1_takeFrom_230 : decode cX1_takeFrom 230 = .ok (.invokestatic 84, 3) := by decide +kernel
theorem dX1_takeFrom_233 : decode cX1_takeFrom 233 = .ok (.aload_n 0, 1) := by decide +kernel
theorem dX1_takeFrom_234 : decode cX1_takeFrom 234 = .ok (.getfield 52, 3) := by decide +kernel
theorem dX1_takeFrom_237 : decode cX1_takeFrom 237 = .ok (.aload_n 1, 1) := by decide +kernel
theorem dX1_takeFrom_238 : decode cX1_takeFrom 238 = .ok (.getfield 52, 3) := by decide +kernel
theorem dX1_takeFrom_241 : decode cX1_takeFrom 241 = .ok (.invokevirtual 90, 3) := by decide +kernel
theorem dX1_takeFrom_244 : decode cX1_takeFrom 244 = .ok (.return_, 1) := by decide +kernel
set_option maxHeartbeats 4000000 in
set_option maxRecDepth 100000 in
theorem ctX1_takeFrom {o : Int} {p1 : Int} {σ : jq_M} {σ' : jq_M} (ho : jq_com o) (hp1 : jq_com p1) (h : X1_takeFrom o p1 σ = some σ') : jq_MC jq_zX yX1_takeFrom cX1_takeFrom 2 none 2 61 [jR o, jR p1] σ none σ' := by
  refine jq_met (own := RX1) (L0 := [(0, jR o), (1, jR p1)]) (by decide) rfl rfl rfl ?_
  intro X Γ hnl hlY hRT
  refine jq_use2 (P := fun r => jq_RT jq_zX X none none r) ?_ h hRT
  intro K0 hK0
  unfold X1_takeFrom
  refine jq_aload_n Γ dX1_takeFrom_0 rfl 0 rfl (jq_at_0 (at_com ho)) ?_
  refine jq_aload_n Γ dX1_takeFrom_1 rfl 1 rfl (jq_at_0 (at_com hp1)) ?_
  refine jq_getI (J := 0) Γ (at_com hp1) fl_RX1_59 rfl rfl dX1_takeFrom_2 ?_
  refine jq_putI Γ (at_com ho) fl_RX1_59 rfl rfl dX1_takeFrom_5 (fun s1 => ?_)
  refine jq_aload_n Γ dX1_takeFrom_8 rfl 0 rfl (jq_at_0 (at_com ho)) ?_
  refine jq_aload_n Γ dX1_takeFrom_9 rfl 1 rfl (jq_at_0 (at_com hp1)) ?_
  refine jq_getI (J := 1) Γ (at_com hp1) fl_RX1_63 rfl rfl dX1_takeFrom_10 ?_
  refine jq_putI Γ (at_com ho) fl_RX1_63 rfl rfl dX1_takeFrom_13 (fun s2 => ?_)
  refine jq_aload_n Γ dX1_takeFrom_16 rfl 0 rfl (jq_at_0 (at_com ho)) ?_
  refine jq_aload_n Γ dX1_takeFrom_17 rfl 1 rfl (jq_at_0 (at_com hp1)) ?_
  refine jq_getI (J := 2) Γ (at_com hp1) fl_RX1_66 rfl rfl dX1_takeFrom_18 ?_
  refine jq_putI Γ (at_com ho) fl_RX1_66 rfl rfl dX1_takeFrom_21 (fun s3 => ?_)
  refine jq_aload_n Γ dX1_takeFrom_24 rfl 0 rfl (jq_at_0 (at_com ho)) ?_
  refine jq_aload_n Γ dX1_takeFrom_25 rfl 1 rfl (jq_at_0 (at_com hp1)) ?_
  refine jq_getI (J := 3) Γ (at_com hp1) fl_RX1_69 rfl rfl dX1_takeFrom_26 ?_
  refine jq_putI Γ (at_com ho) fl_RX1_69 rfl rfl dX1_takeFrom_29 (fun s4 => ?_)
  refine jq_aload_n Γ dX1_takeFrom_32 rfl 0 rfl (jq_at_0 (at_com ho)) ?_
  refine jq_aload_n Γ dX1_takeFrom_33 rfl 1 rfl (jq_at_0 (at_com hp1)) ?_
  refine jq_getI (J := 4) Γ (at_com hp1) fl_RX1_72 rfl rfl dX1_takeFrom_34 ?_
  refine jq_putI Γ (at_com ho) fl_RX1_72 rfl rfl dX1_takeFrom_37 (fun s5 => ?_)
  refine jq_aload_n Γ dX1_takeFrom_40 rfl 0 rfl (jq_at_0 (at_com ho)) ?_
  refine jq_aload_n Γ dX1_takeFrom_41 rfl 1 rfl (jq_at_0 (at_com hp1)) ?_
  refine jq_getI (J := 5) Γ (at_com hp1) fl_RX1_75 rfl rfl dX1_takeFrom_42 ?_
  refine jq_putI Γ (at_com ho) fl_RX1_75 rfl rfl dX1_takeFrom_45 (fun s6 => ?_)
  refine jq_aload_n Γ dX1_takeFrom_48 rfl 0 rfl (jq_at_0 (at_com ho)) ?_
  refine jq_aload_n Γ dX1_takeFrom_49 rfl 1 rfl (jq_at_0 (at_com hp1)) ?_
  refine jq_getI (J := 6) Γ (at_com hp1) fl_RX1_78 rfl rfl dX1_takeFrom_50 ?_
  refine jq_putI Γ (at_com ho) fl_RX1_78 rfl rfl dX1_takeFrom_53 (fun s7 => ?_)
  refine jq_aload_n Γ dX1_takeFrom_56 rfl 1 rfl (jq_at_0 (at_com hp1)) ?_
  refine jq_getR (v := (p1 + 1)) Γ hlY (at_com hp1) fl_RX1_9 rfl rfl (ly_X1_partyNames hp1) dX1_takeFrom_57 ?_
  refine jq_iconst Γ dX1_takeFrom_60 rfl ?_
  refine jq_aload_n Γ dX1_takeFrom_61 rfl 0 rfl (jq_at_0 (at_com ho)) ?_
  refine jq_getR (v := (o + 1)) Γ hlY (at_com ho) fl_RX1_9 rfl rfl (ly_X1_partyNames ho) dX1_takeFrom_62 ?_
  refine jq_iconst Γ dX1_takeFrom_65 rfl ?_
  refine jq_iconst Γ dX1_takeFrom_66 rfl ?_
  refine jq_copyl Γ (at_com_1 hp1) (at_com_1 ho) rfl rfl rfl aw_RX1_84 awn aws awi rfl rfl dX1_takeFrom_67 (fun s8 => ?_)
  refine jq_aload_n Γ dX1_takeFrom_70 rfl 1 rfl (jq_at_0 (at_com hp1)) ?_
  refine jq_getR (v := (p1 + 2)) Γ hlY (at_com hp1) fl_RX1_15 rfl rfl (ly_X1_leasts hp1) dX1_takeFrom_71 ?_
  refine jq_iconst Γ dX1_takeFrom_74 rfl ?_
  refine jq_aload_n Γ dX1_takeFrom_75 rfl 0 rfl (jq_at_0 (at_com ho)) ?_
  refine jq_getR (v := (o + 2)) Γ hlY (at_com ho) fl_RX1_15 rfl rfl (ly_X1_leasts ho) dX1_takeFrom_76 ?_
  refine jq_iconst Γ dX1_takeFrom_79 rfl ?_
  refine jq_iconst Γ dX1_takeFrom_80 rfl ?_
  refine jq_copyi Γ (at_com_2 hp1) (at_com_2 ho) rfl rfl rfl aw_RX1_84 awn aws awi rfl rfl dX1_takeFrom_81 (fun s9 => ?_)
  refine jq_aload_n Γ dX1_takeFrom_84 rfl 1 rfl (jq_at_0 (at_com hp1)) ?_
  refine jq_getR (v := (p1 + 3)) Γ hlY (at_com hp1) fl_RX1_19 rfl rfl (ly_X1_seats hp1) dX1_takeFrom_85 ?_
  refine jq_iconst Γ dX1_takeFrom_88 rfl ?_
  refine jq_aload_n Γ dX1_takeFrom_89 rfl 0 rfl (jq_at_0 (at_com ho)) ?_
  refine jq_getR (v := (o + 3)) Γ hlY (at_com ho) fl_RX1_19 rfl rfl (ly_X1_seats ho) dX1_takeFrom_90 ?_
  refine jq_iconst Γ dX1_takeFrom_93 rfl ?_
  refine jq_iconst Γ dX1_takeFrom_94 rfl ?_
  refine jq_copyi Γ (at_com_3 hp1) (at_com_3 ho) rfl rfl rfl aw_RX1_84 awn aws awi rfl rfl dX1_takeFrom_95 (fun s10 => ?_)
  refine jq_aload_n Γ dX1_takeFrom_98 rfl 1 rfl (jq_at_0 (at_com hp1)) ?_
  refine jq_getR (v := (p1 + 4)) Γ hlY (at_com hp1) fl_RX1_22 rfl rfl (ly_X1_whose hp1) dX1_takeFrom_99 ?_
  refine jq_iconst Γ dX1_takeFrom_102 rfl ?_
  refine jq_aload_n Γ dX1_takeFrom_103 rfl 0 rfl (jq_at_0 (at_com ho)) ?_
  refine jq_getR (v := (o + 4)) Γ hlY (at_com ho) fl_RX1_22 rfl rfl (ly_X1_whose ho) dX1_takeFrom_104 ?_
  refine jq_iconst Γ dX1_takeFrom_107 rfl ?_
  refine jq_bipush Γ dX1_takeFrom_108 rfl ?_
  refine jq_copyi Γ (at_com_4 hp1) (at_com_4 ho) rfl rfl rfl aw_RX1_84 awn aws awi rfl rfl dX1_takeFrom_110 (fun s11 => ?_)
  refine jq_aload_n Γ dX1_takeFrom_113 rfl 1 rfl (jq_at_0 (at_com hp1)) ?_
  refine jq_getR (v := (p1 + 5)) Γ hlY (at_com hp1) fl_RX1_25 rfl rfl (ly_X1_kinds hp1) dX1_takeFrom_114 ?_
  refine jq_iconst Γ dX1_takeFrom_117 rfl ?_
  refine jq_aload_n Γ dX1_takeFrom_118 rfl 0 rfl (jq_at_0 (at_com ho)) ?_
  refine jq_getR (v := (o + 5)) Γ hlY (at_com ho) fl_RX1_25 rfl rfl (ly_X1_kinds ho) dX1_takeFrom_119 ?_
  refine jq_iconst Γ dX1_takeFrom_122 rfl ?_
  refine jq_bipush Γ dX1_takeFrom_123 rfl ?_
  refine jq_copyi Γ (at_com_5 hp1) (at_com_5 ho) rfl rfl rfl aw_RX1_84 awn aws awi rfl rfl dX1_takeFrom_125 (fun s12 => ?_)
  refine jq_aload_n Γ dX1_takeFrom_128 rfl 1 rfl (jq_at_0 (at_com hp1)) ?_
  refine jq_getR (v := (p1 + 6)) Γ hlY (at_com hp1) fl_RX1_28 rfl rfl (ly_X1_whom hp1) dX1_takeFrom_129 ?_
  refine jq_iconst Γ dX1_takeFrom_132 rfl ?_
  refine jq_aload_n Γ dX1_takeFrom_133 rfl 0 rfl (jq_at_0 (at_com ho)) ?_
  refine jq_getR (v := (o + 6)) Γ hlY (at_com ho) fl_RX1_28 rfl rfl (ly_X1_whom ho) dX1_takeFrom_134 ?_
  refine jq_iconst Γ dX1_takeFrom_137 rfl ?_
  refine jq_bipush Γ dX1_takeFrom_138 rfl ?_
  refine jq_copyi Γ (at_com_6 hp1) (at_com_6 ho) rfl rfl rfl aw_RX1_84 awn aws awi rfl rfl dX1_takeFrom_140 (fun s13 => ?_)
  refine jq_aload_n Γ dX1_takeFrom_143 rfl 1 rfl (jq_at_0 (at_com hp1)) ?_
  refine jq_getR (v := (p1 + 7)) Γ hlY (at_com hp1) fl_RX1_31 rfl rfl (ly_X1_worths hp1) dX1_takeFrom_144 ?_
  refine jq_iconst Γ dX1_takeFrom_147 rfl ?_
  refine jq_aload_n Γ dX1_takeFrom_148 rfl 0 rfl (jq_at_0 (at_com ho)) ?_
  refine jq_getR (v := (o + 7)) Γ hlY (at_com ho) fl_RX1_31 rfl rfl (ly_X1_worths ho) dX1_takeFrom_149 ?_
  refine jq_iconst Γ dX1_takeFrom_152 rfl ?_
  refine jq_bipush Γ dX1_takeFrom_153 rfl ?_
  refine jq_copyi Γ (at_com_7 hp1) (at_com_7 ho) rfl rfl rfl aw_RX1_84 awn aws awi rfl rfl dX1_takeFrom_155 (fun s14 => ?_)
  refine jq_aload_n Γ dX1_takeFrom_158 rfl 1 rfl (jq_at_0 (at_com hp1)) ?_
  refine jq_getR (v := (p1 + 8)) Γ hlY (at_com hp1) fl_RX1_34 rfl rfl (ly_X1_articleNames hp1) dX1_takeFrom_159 ?_
  refine jq_iconst Γ dX1_takeFrom_162 rfl ?_
  refine jq_aload_n Γ dX1_takeFrom_163 rfl 0 rfl (jq_at_0 (at_com ho)) ?_
  refine jq_getR (v := (o + 8)) Γ hlY (at_com ho) fl_RX1_34 rfl rfl (ly_X1_articleNames ho) dX1_takeFrom_164 ?_
  refine jq_iconst Γ dX1_takeFrom_167 rfl ?_
  refine jq_bipush Γ dX1_takeFrom_168 rfl ?_
  refine jq_copyl Γ (at_com_8 hp1) (at_com_8 ho) rfl rfl rfl aw_RX1_84 awn aws awi rfl rfl dX1_takeFrom_170 (fun s15 => ?_)
  refine jq_aload_n Γ dX1_takeFrom_173 rfl 1 rfl (jq_at_0 (at_com hp1)) ?_
  refine jq_getR (v := (p1 + 9)) Γ hlY (at_com hp1) fl_RX1_37 rfl rfl (ly_X1_takes hp1) dX1_takeFrom_174 ?_
  refine jq_iconst Γ dX1_takeFrom_177 rfl ?_
  refine jq_aload_n Γ dX1_takeFrom_178 rfl 0 rfl (jq_at_0 (at_com ho)) ?_
  refine jq_getR (v := (o + 9)) Γ hlY (at_com ho) fl_RX1_37 rfl rfl (ly_X1_takes ho) dX1_takeFrom_179 ?_
  refine jq_iconst Γ dX1_takeFrom_182 rfl ?_
  refine jq_bipush Γ dX1_takeFrom_183 rfl ?_
  refine jq_copyi Γ (at_com_9 hp1) (at_com_9 ho) rfl rfl rfl aw_RX1_84 awn aws awi rfl rfl dX1_takeFrom_185 (fun s16 => ?_)
  refine jq_aload_n Γ dX1_takeFrom_188 rfl 1 rfl (jq_at_0 (at_com hp1)) ?_
  refine jq_getR (v := (p1 + 10)) Γ hlY (at_com hp1) fl_RX1_40 rfl rfl (ly_X1_odds hp1) dX1_takeFrom_189 ?_
  refine jq_iconst Γ dX1_takeFrom_192 rfl ?_
  refine jq_aload_n Γ dX1_takeFrom_193 rfl 0 rfl (jq_at_0 (at_com ho)) ?_
  refine jq_getR (v := (o + 10)) Γ hlY (at_com ho) fl_RX1_40 rfl rfl (ly_X1_odds ho) dX1_takeFrom_194 ?_
  refine jq_iconst Γ dX1_takeFrom_197 rfl ?_
  refine jq_bipush Γ dX1_takeFrom_198 rfl ?_
  refine jq_copyi Γ (at_com_10 hp1) (at_com_10 ho) rfl rfl rfl aw_RX1_84 awn aws awi rfl rfl dX1_takeFrom_200 (fun s17 => ?_)
  refine jq_aload_n Γ dX1_takeFrom_203 rfl 1 rfl (jq_at_0 (at_com hp1)) ?_
  refine jq_getR (v := (p1 + 11)) Γ hlY (at_com hp1) fl_RX1_43 rfl rfl (ly_X1_leansOn hp1) dX1_takeFrom_204 ?_
  refine jq_iconst Γ dX1_takeFrom_207 rfl ?_
  refine jq_aload_n Γ dX1_takeFrom_208 rfl 0 rfl (jq_at_0 (at_com ho)) ?_
  refine jq_getR (v := (o + 11)) Γ hlY (at_com ho) fl_RX1_43 rfl rfl (ly_X1_leansOn ho) dX1_takeFrom_209 ?_
  refine jq_iconst Γ dX1_takeFrom_212 rfl ?_
  refine jq_bipush Γ dX1_takeFrom_213 rfl ?_
  refine jq_copyi Γ (at_com_11 hp1) (at_com_11 ho) rfl rfl rfl aw_RX1_84 awn aws awi rfl rfl dX1_takeFrom_215 (fun s18 => ?_)
  refine jq_aload_n Γ dX1_takeFrom_218 rfl 1 rfl (jq_at_0 (at_com hp1)) ?_
  refine jq_getR (v := (p1 + 12)) Γ hlY (at_com hp1) fl_RX1_46 rfl rfl (ly_X1_worked hp1) dX1_takeFrom_219 ?_
  refine jq_iconst Γ dX1_takeFrom_222 rfl ?_
  refine jq_aload_n Γ dX1_takeFrom_223 rfl 0 rfl (jq_at_0 (at_com ho)) ?_
  refine jq_getR (v := (o + 12)) Γ hlY (at_com ho) fl_RX1_46 rfl rfl (ly_X1_worked ho) dX1_takeFrom_224 ?_
  refine jq_iconst Γ dX1_takeFrom_227 rfl ?_
  refine jq_bipush Γ dX1_takeFrom_228 rfl ?_
  refine jq_copyi Γ (at_com_12 hp1) (at_com_12 ho) rfl rfl rfl aw_RX1_84 awn aws awi rfl rfl dX1_takeFrom_230 (fun s19 => ?_)
  refine jq_aload_n Γ dX1_takeFrom_233 rfl 0 rfl (jq_at_0 (at_com ho)) ?_
  refine jq_getR (v := (o + 13)) Γ hlY (at_com ho) fl_RX1_52 rfl rfl (ly_X1_steps ho) dX1_takeFrom_234 ?_
  refine jq_aload_n Γ dX1_takeFrom_237 rfl 1 rfl (jq_at_0 (at_com hp1)) ?_
  refine jq_getR (v := (p1 + 13)) Γ hlY (at_com hp1) fl_RX1_52 rfl rfl (ly_X1_steps hp1) dX1_takeFrom_238 ?_
  refine jq_cwV (jq_virt (avs := [jR (p1 + 13)]) (st := []) Γ hlY rfl ml_RX1_90 rfl (at_stp (stp_com ho)) rfl rfl rfl rfl rfl dX1_takeFrom_241) (fun σ' h => ctX7_takeFrom (stp_com ho) (stp_com hp1) h) (fun s20 => ?_)
  exact jq_vreturn Γ dX1_takeFrom_244 (hK0 _)


theorem dX0_daysTill_0 : decode cX0_daysTill 0 = .ok (.iconst 0, 1) := by decide +kernel
theorem dX0_daysTill_1 : decode cX0_daysTill 1 = .ok (.istore_n 2, 1) := by decide +kernel
theorem dX0_daysTill_2 : decode cX0_daysTill 2 = .ok (.aload_n 0, 1) := by decide +kernel
theorem dX0_daysTill_3 : decode cX0_daysTill 3 = .ok (.iload_n 1, 1) := by decide +kernel
theorem dX0_daysTill_4 : decode cX0_daysTill 4 = .ok (.invokevirtual 43, 3) := by decide +kernel
theorem dX0_daysTill_7 : decode cX0_daysTill 7 = .ok (.ifCond .ne 21, 3) := by decide +kernel
theorem dX0_daysTill_10 : decode cX0_daysTill 10 = .ok (.iload_n 2, 1) := by decide +kernel
theorem dX0_daysTill_11 : decode cX0_daysTill 11 = .ok (.sipush 240, 3) := by decide +kernel
theorem dX0_daysTill_14 : decode cX0_daysTill 14 = .ok (.if_icmp .ge 14, 3) := by decide +kernel
theorem dX0_daysTill_17 : decode cX0_daysTill 17 = .ok (.aload_n 0, 1) := by decide +kernel
theorem dX0_daysTill_18 : decode cX0_daysTill 18 = .ok (.invokevirtual 47, 3) := by decide +kernel
theorem dX0_daysTill_21 : decode cX0_daysTill 21 = .ok (.pop, 1) := by decide +kernel
theorem dX0_daysTill_22 : decode cX0_daysTill 22 = .ok (.iinc 2 1, 3) := by decide +kernel
theorem dX0_daysTill_25 : decode cX0_daysTill 25 = .ok (.goto (-23), 3) := by decide +kernel
theorem dX0_daysTill_28 : decode cX0_daysTill 28 = .ok (.iload_n 2, 1) := by decide +kernel
theorem dX0_daysTill_29 : decode cX0_daysTill 29 = .ok (.ireturn, 1) := by decide +kernel
set_option maxHeartbeats 4000000 in
set_option maxRecDepth 100000 in
theorem ctX0_daysTill {p0 : Int} {p1 : Int} {σ : jq_M} {res : Int} {σ' : jq_M} (hp0 : jq_com p0) (h : X0_daysTill p0 p1 σ = some (res, σ')) : jq_MC jq_zX yX0_daysTill cX0_daysTill 3 (some .int) 3 83 [jR p0, jI p1] σ (some (jI res)) σ' := by
  refine jq_met (own := RX0) (L0 := [(0, jR p0), (1, jI p1)]) (by decide) rfl rfl rfl ?_
  intro X Γ hnl hlY hRT
  refine jq_use2 (P := fun r => jq_RT jq_zX X (some .int) (some (jI r.1)) r.2) ?_ h hRT
  intro K0 hK0
  unfold X0_daysTill
  refine jq_iconst Γ dX0_daysTill_0 rfl ?_
  refine jq_istore_n (L' := [(2, jI 0), (0, jR p0), (1, jI p1)]) Γ dX0_daysTill_1 rfl hnl rfl rfl ?_
  refine jq_sub Γ (L' := [(0, jR p0), (1, jI p1), (2, jI 0)]) [1, 2, 0] rfl ?_
  refine jq_loop2 (C := fun (t1 : Int × jq_M) => jq_V jq_zX X (jq_zN jq_zX) t1.2 2 [(0, jR p0), (1, jI p1), (2, jI t1.1)] []) (KX := fun (e7 : Int × jq_M) => jq_V jq_zX X (jq_zN jq_zX) e7.2 28 [(2, jI e7.1)] []) ?_ ?_ (0, σ)
  · intro K2_t1 hCt1 hXt1 t1
    unfold X0_daysTill_b2
    refine jq_aload_n Γ dX0_daysTill_2 rfl 0 rfl (jq_at_0 (at_com hp0)) ?_
    refine jq_iload_n Γ dX0_daysTill_3 rfl 1 rfl ?_
    refine jq_cpZ (jq_virt (avs := [jI p1]) (st := []) Γ hlY rfl ml_RX0_43 rfl (at_com hp0) rfl rfl rfl rfl rfl dX0_daysTill_4) rfl (fun r h => ctX1_isAgreed hp0 h) (fun v2 hz3 => ?_)
    refine jq_if_ne (tgt := 28) Γ dX0_daysTill_7 rfl ?_ ?_
    · refine jq_sub Γ (L' := [(2, jI t1.1)]) [2] rfl ?_
      exact jq_done (hXt1 (t1.1, t1.2))
    · refine jq_iload_n Γ dX0_daysTill_10 rfl 2 rfl ?_
      refine jq_sipush Γ dX0_daysTill_11 rfl ?_
      refine jq_icmp_ge (tgt := 28) Γ dX0_daysTill_14 rfl ?_ ?_
      · refine jq_sub Γ (L' := [(2, jI t1.1)]) [2] rfl ?_
        exact jq_done (hXt1 (t1.1, t1.2))
      · refine jq_aload_n Γ dX0_daysTill_17 rfl 0 rfl (jq_at_0 (at_com hp0)) ?_
        refine jq_cwI (jq_virt (avs := []) (st := []) Γ hlY rfl ml_RX0_47 rfl (at_com hp0) rfl rfl rfl rfl rfl dX0_daysTill_18) (fun r σ' h => ctX1_passOneDay hp0 h) (fun v4 s5 => ?_)
        refine jq_pop Γ dX0_daysTill_21 rfl ?_
        refine jq_iincN (L' := fun v6 => [(2, jI v6), (0, jR p0), (1, jI p1)]) Γ dX0_daysTill_22 2 rfl hnl rfl (fun _ => rfl) (fun v6 => ?_)
        refine jq_goto Γ (tgt := 2) dX0_daysTill_25 rfl ?_
        refine jq_sub Γ (L' := [(0, jR p0), (1, jI p1), (2, jI v6)]) [1, 2, 0] rfl ?_
        exact jq_done (hCt1 (v6, s5))
  · intro e7
    refine jq_iload_n Γ dX0_daysTill_28 rfl 0 rfl ?_
    exact jq_ireturn Γ dX0_daysTill_29 (hK0 _)


theorem dX10_soonest_0 : decode cX10_soonest 0 = .ok (.aload_n 0, 1) := by decide +kernel
theorem dX10_soonest_1 : decode cX10_soonest 1 = .ok (.getfield 25, 3) := by decide +kernel
theorem dX10_soonest_4 : decode cX10_soonest 4 = .ok (.iload_n 1, 1) := by decide +kernel
theorem dX10_soonest_5 : decode cX10_soonest 5 = .ok (.invokevirtual 242, 3) := by decide +kernel
theorem dX10_soonest_8 : decode cX10_soonest 8 = .ok (.ifCond .ne 9, 3) := by decide +kernel
theorem dX10_soonest_11 : decode cX10_soonest 11 = .ok (.aload_n 0, 1) := by decide +kernel
theorem dX10_soonest_12 : decode cX10_soonest 12 = .ok (.iconst 1, 1) := by decide +kernel
theorem dX10_soonest_13 : decode cX10_soonest 13 = .ok (.invokevirtual 120, 3) := by decide +kernel
theorem dX10_soonest_16 : decode cX10_soonest 16 = .ok (.ireturn, 1) := by decide +kernel
theorem dX10_soonest_17 : decode cX10_soonest 17 = .ok (.aload_n 0, 1) := by decide +kernel
theorem dX10_soonest_18 : decode cX10_soonest 18 = .ok (.getfield 29, 3) := by decide +kernel
theorem dX10_soonest_21 : decode cX10_soonest 21 = .ok (.aload_n 0, 1) := by decide +kernel
theorem dX10_soonest_22 : decode cX10_soonest 22 = .ok (.getfield 25, 3) := by decide +kernel
theorem dX10_soonest_25 : decode cX10_soonest 25 = .ok (.invokevirtual 397, 3) := by decide +kernel
theorem dX10_soonest_28 : decode cX10_soonest 28 = .ok (.aload_n 0, 1) := by decide +kernel
theorem dX10_soonest_29 : decode cX10_soonest 29 = .ok (.aload_n 0, 1) := by decide +kernel
theorem dX10_soonest_30 : decode cX10_soonest 30 = .ok (.getfield 29, 3) := by decide +kernel
theorem dX10_soonest_33 : decode cX10_soonest 33 = .ok (.iload_n 1, 1) := by decide +kernel
theorem dX10_soonest_34 : decode cX10_soonest 34 = .ok (.invokestatic 400, 3) := by decide +kernel
theorem dX10_soonest_37 : decode cX10_soonest 37 = .ok (.invokevirtual 161, 3) := by decide +kernel
theorem dX10_soonest_40 : decode cX10_soonest 40 = .ok (.ireturn, 1) := by decide +kernel
set_option maxHeartbeats 4000000 in
set_option maxRecDepth 100000 in
theorem ctX10_soonest {p1 : Int} {σ : jq_M} {res : Int} {σ' : jq_M}  (h : X10_soonest p1 σ = some (res, σ')) : jq_MC jq_zX yX10_soonest cX10_soonest 2 (some .int) 4 105 [jR 0, jI p1] σ (some (jI res)) σ' := by
  refine jq_met (own := RX10) (L0 := [(0, jR 0), (1, jI p1)]) (by decide) rfl rfl rfl ?_
  intro X Γ hnl hlY hRT
  refine jq_use2 (P := fun r => jq_RT jq_zX X (some .int) (some (jI r.1)) r.2) ?_ h hRT
  intro K0 hK0
  unfold X10_soonest
  refine jq_aload_n Γ dX10_soonest_0 rfl 0 rfl (jq_at_0 at_X_0) ?_
  refine jq_getC (C := jq_cm2) Γ hlY at_X_0 fl_RX10_25 rfl rfl ly_now dX10_soonest_1 (fun c1 hc2q => ?_)
  have hc2 := jq_cm2_com hc2q
  refine jq_iload_n Γ dX10_soonest_4 rfl 1 rfl ?_
  refine jq_cpZ (jq_virt (avs := [jI p1]) (st := []) Γ hlY rfl ml_RX10_242 rfl (at_com hc2) rfl rfl rfl rfl rfl dX10_soonest_5) rfl (fun r h => ctX1_isArticle hc2 h) (fun v3 hz4 => ?_)
  refine jq_if_ne (tgt := 17) Γ dX10_soonest_8 rfl ?_ ?_
  · refine jq_aload_n Γ dX10_soonest_17 rfl 0 rfl (jq_at_0 at_X_0) ?_
    refine jq_getC (C := jq_cm2) Γ hlY at_X_0 fl_RX10_29 rfl rfl ly_spare dX10_soonest_18 (fun c5 hc6q => ?_)
    have hc6 := jq_cm2_com hc6q
    refine jq_aload_n Γ dX10_soonest_21 rfl 0 rfl (jq_at_0 at_X_0) ?_
    refine jq_getC (C := jq_cm2) Γ hlY at_X_0 fl_RX10_25 rfl rfl ly_now dX10_soonest_22 (fun c7 hc8q => ?_)
    have hc8 := jq_cm2_com hc8q
    refine jq_cwV (jq_virt (avs := [jR c7]) (st := []) Γ hlY rfl ml_RX10_397 rfl (at_com hc6) rfl rfl rfl rfl rfl dX10_soonest_25) (fun σ' h => ctX1_takeFrom hc6 hc8 h) (fun s9 => ?_)
    refine jq_aload_n Γ dX10_soonest_28 rfl 0 rfl (jq_at_0 at_X_0) ?_
    refine jq_aload_n Γ dX10_soonest_29 rfl 0 rfl (jq_at_0 at_X_0) ?_
    refine jq_getC (C := jq_cm2) Γ hlY at_X_0 fl_RX10_29 rfl rfl ly_spare dX10_soonest_30 (fun c10 hc11q => ?_)
    have hc11 := jq_cm2_com hc11q
    refine jq_iload_n Γ dX10_soonest_33 rfl 1 rfl ?_
    refine jq_cwI (jq_stat (avs := [jR c10, jI p1]) (st := [jR 0]) Γ hlY rfl ml_RX10_400 rfl rfl rfl rfl rfl dX10_soonest_34) (fun r σ' h => ctX0_daysTill hc11 h) (fun v12 s13 => ?_)
    refine jq_cwI (jq_virt (avs := [jI v12]) (st := []) Γ hlY rfl ml_RX10_161 rfl at_X_0 rfl rfl rfl rfl rfl dX10_soonest_37) (fun r σ' h => ctX10_answer h) (fun v14 s15 => ?_)
    exact jq_ireturn Γ dX10_soonest_40 (hK0 _)
  · refine jq_aload_n Γ dX10_soonest_11 rfl 0 rfl (jq_at_0 at_X_0) ?_
    refine jq_iconst Γ dX10_soonest_12 rfl ?_
    refine jq_cwI (jq_virt (avs := [jI 1]) (st := []) Γ hlY rfl ml_RX10_120 rfl at_X_0 rfl rfl rfl rfl rfl dX10_soonest_13) (fun r σ' h => ctX10_refuse h) (fun v16 s17 => ?_)
    exact jq_ireturn Γ dX10_soonest_16 (hK0 _)


theorem dX0_latestEnd_0 : decode cX0_latestEnd 0 = .ok (.iconst 0, 1) := by decide +kernel
theorem dX0_latestEnd_1 : decode cX0_latestEnd 1 = .ok (.istore_n 3, 1) := by decide +kernel
theorem dX0_latestEnd_2 : decode cX0_latestEnd 2 = .ok (.iconst 0, 1) := by decide +kernel
theorem dX0_latestEnd_3 : decode cX0_latestEnd 3 = .ok (.istore 4, 2) := by decide +kernel
theorem dX0_latestEnd_5 : decode cX0_latestEnd 5 = .ok (.iload 4, 2) := by decide +kernel
theorem dX0_latestEnd_7 : decode cX0_latestEnd 7 = .ok (.iload_n 2, 1) := by decide +kernel
theorem dX0_latestEnd_8 : decode cX0_latestEnd 8 = .ok (.if_icmp .ge 30, 3) := by decide +kernel
theorem dX0_latestEnd_11 : decode cX0_latestEnd 11 = .ok (.iload_n 1, 1) := by decide +kernel
theorem dX0_latestEnd_12 : decode cX0_latestEnd 12 = .ok (.iload 4, 2) := by decide +kernel
theorem dX0_latestEnd_14 : decode cX0_latestEnd 14 = .ok (.invokestatic 36, 3) := by decide +kernel
theorem dX0_latestEnd_17 : decode cX0_latestEnd 17 = .ok (.ifCond .eq 15, 3) := by decide +kernel
theorem dX0_latestEnd_20 : decode cX0_latestEnd 20 = .ok (.iload_n 3, 1) := by decide +kernel
theorem dX0_latestEnd_21 : decode cX0_latestEnd 21 = .ok (.aload_n 0, 1) := by decide +kernel
theorem dX0_latestEnd_22 : decode cX0_latestEnd 22 = .ok (.getfield 15, 3) := by decide +kernel
theorem dX0_latestEnd_25 : decode cX0_latestEnd 25 = .ok (.iload 4, 2) := by decide +kernel
theorem dX0_latestEnd_27 : decode cX0_latestEnd 27 = .ok (.iaload, 1) := by decide +kernel
theorem dX0_latestEnd_28 : decode cX0_latestEnd 28 = .ok (.invokestatic 61, 3) := by decide +kernel
theorem dX0_latestEnd_31 : decode cX0_latestEnd 31 = .ok (.istore_n 3, 1) := by decide +kernel
theorem dX0_latestEnd_32 : decode cX0_latestEnd 32 = .ok (.iinc 4 1, 3) := by decide +kernel
theorem dX0_latestEnd_35 : decode cX0_latestEnd 35 = .ok (.goto (-30), 3) := by decide +kernel
theorem dX0_latestEnd_38 : decode cX0_latestEnd 38 = .ok (.iload_n 3, 1) := by decide +kernel
theorem dX0_latestEnd_39 : decode cX0_latestEnd 39 = .ok (.ireturn, 1) := by decide +kernel
set_option maxHeartbeats 4000000 in
set_option maxRecDepth 100000 in
theorem ctX0_latestEnd {p1 : Int} {p2 : Int} {σ : jq_M} {res : Int}  (h : X0_latestEnd p1 p2 σ = some res) : jq_MC jq_zX yX0_latestEnd cX0_latestEnd 5 (some .int) 2 61 [jR 57, jI p1, jI p2] σ (some (jI res)) σ := by
  refine jq_met (own := RX0) (L0 := [(0, jR 57), (1, jI p1), (2, jI p2)]) (by decide) rfl rfl rfl ?_
  intro X Γ hnl hlY hRT
  refine jq_use2 (P := fun r => jq_RT jq_zX X (some .int) (some (jI r)) σ) ?_ h hRT
  intro K0 hK0
  unfold X0_latestEnd
  refine jq_iconst Γ dX0_latestEnd_0 rfl ?_
  refine jq_istore_n (L' := [(3, jI 0), (0, jR 57), (1, jI p1), (2, jI p2)]) Γ dX0_latestEnd_1 rfl hnl rfl rfl ?_
  refine jq_iconst Γ dX0_latestEnd_2 rfl ?_
  refine jq_istore (L' := [(4, jI 0), (3, jI 0), (0, jR 57), (1, jI p1), (2, jI p2)]) Γ dX0_latestEnd_3 hnl rfl rfl ?_
  refine jq_sub Γ (L' := [(0, jR 57), (1, jI p1), (2, jI p2), (3, jI 0), (4, jI 0)]) [2, 3, 4, 1, 0] rfl ?_
  refine jq_loop2 (C := fun (t1 : Int × Int) => jq_V jq_zX X (jq_zN jq_zX) σ 5 [(0, jR 57), (1, jI p1), (2, jI p2), (3, jI t1.1), (4, jI t1.2)] []) (KX := fun (e8 : Int) => jq_V jq_zX X (jq_zN jq_zX) σ 38 [(3, jI e8)] []) ?_ ?_ (0, 0)
  · intro K5_t1 hCt1 hXt1 t1
    unfold X0_latestEnd_b5
    refine jq_iload Γ dX0_latestEnd_5 4 rfl ?_
    refine jq_iload_n Γ dX0_latestEnd_7 rfl 2 rfl ?_
    refine jq_icmp_ge (tgt := 38) Γ dX0_latestEnd_8 rfl ?_ ?_
    · refine jq_sub Γ (L' := [(3, jI t1.1)]) [3] rfl ?_
      exact jq_done (hXt1 t1.1)
    · refine jq_iload_n Γ dX0_latestEnd_11 rfl 1 rfl ?_
      refine jq_iload Γ dX0_latestEnd_12 4 rfl ?_
      refine jq_cpZ (jq_nest (avs := [jI p1, jI t1.2]) (st := []) Γ hlY rfl ml_RX0_36 rfl rfl rfl rfl rfl dX0_latestEnd_14) rfl (fun r h => ctX10_holds h) (fun v2 hz3 => ?_)
      refine jq_if_eq (tgt := 32) Γ dX0_latestEnd_17 rfl ?_ ?_
      · refine jq_iincN (L' := fun v4 => [(4, jI v4), (0, jR 57), (1, jI p1), (2, jI p2), (3, jI t1.1)]) Γ dX0_latestEnd_32 4 rfl hnl rfl (fun _ => rfl) (fun v4 => ?_)
        refine jq_goto Γ (tgt := 5) dX0_latestEnd_35 rfl ?_
        refine jq_sub Γ (L' := [(0, jR 57), (1, jI p1), (2, jI p2), (3, jI t1.1), (4, jI v4)]) [1, 2, 3, 4, 0] rfl ?_
        exact jq_done (hCt1 (t1.1, v4))
      · refine jq_iload_n Γ dX0_latestEnd_20 rfl 3 rfl ?_
        refine jq_aload_n Γ dX0_latestEnd_21 rfl 0 rfl (jq_at_0 at_X_57) ?_
        refine jq_getR (v := 59) Γ hlY at_X_57 fl_RX0_15 rfl rfl ly_X0_ends dX0_latestEnd_22 ?_
        refine jq_iload Γ dX0_latestEnd_25 4 rfl ?_
        refine jq_iald Γ at_X_59 rfl dX0_latestEnd_27 (fun v5 => ?_)
        refine jq_mmax Γ mw_RX0_61 mws_max mwi mwc_max rfl rfl dX0_latestEnd_28 ?_
        refine jq_nmI (fun v6 => ?_)
        refine jq_istore_n (L' := [(3, jI v6), (0, jR 57), (1, jI p1), (2, jI p2), (4, jI t1.2)]) Γ dX0_latestEnd_31 rfl hnl rfl rfl ?_
        refine jq_iincN (L' := fun v7 => [(4, jI v7), (3, jI v6), (0, jR 57), (1, jI p1), (2, jI p2)]) Γ dX0_latestEnd_32 4 rfl hnl rfl (fun _ => rfl) (fun v7 => ?_)
        refine jq_goto Γ (tgt := 5) dX0_latestEnd_35 rfl ?_
        refine jq_sub Γ (L' := [(0, jR 57), (1, jI p1), (2, jI p2), (3, jI v6), (4, jI v7)]) [2, 3, 4, 1, 0] rfl ?_
        exact jq_done (hCt1 (v6, v7))
  · intro e8
    refine jq_iload_n Γ dX0_latestEnd_38 rfl 0 rfl ?_
    exact jq_ireturn Γ dX0_latestEnd_39 (hK0 _)


theorem dX0_daysTogether_0 : decode cX0_daysTogether 0 = .ok (.iconst 0, 1) := by decide +kernel
theorem dX0_daysTogether_1 : decode cX0_daysTogether 1 = .ok (.istore_n 3, 1) := by decide +kernel
theorem dX0_daysTogether_2 : decode cX0_daysTogether 2 = .ok (.iload_n 3, 1) := by decide +kernel
theorem dX0_daysTogether_3 : decode cX0_daysTogether 3 = .ok (.iload_n 2, 1) := by decide +kernel
theorem dX0_daysTogether_4 : decode cX0_daysTogether 4 = .ok (.if_icmp .gt 52, 3) := by decide +kernel
theorem dX0_daysTogether_7 : decode cX0_daysTogether 7 = .ok (.aload_n 0, 1) := by decide +kernel
theorem dX0_daysTogether_8 : decode cX0_daysTogether 8 = .ok (.getfield 15, 3) := by decide +kernel
theorem dX0_daysTogether_11 : decode cX0_daysTogether 11 = .ok (.iload_n 3, 1) := by decide +kernel
theorem dX0_daysTogether_12 : decode cX0_daysTogether 12 = .ok (.aload_n 1, 1) := by decide +kernel
theorem dX0_daysTogether_13 : decode cX0_daysTogether 13 = .ok (.iload_n 3, 1) := by decide +kernel
theorem dX0_daysTogether_14 : decode cX0_daysTogether 14 = .ok (.invokevirtual 43, 3) := by decide +kernel
theorem dX0_daysTogether_17 : decode cX0_daysTogether 17 = .ok (.ifCond .eq 7, 3) := by decide +kernel
theorem dX0_daysTogether_20 : decode cX0_daysTogether 20 = .ok (.iconst 0, 1) := by decide +kernel
theorem dX0_daysTogether_21 : decode cX0_daysTogether 21 = .ok (.goto 28, 3) := by decide +kernel
theorem dX0_daysTogether_24 : decode cX0_daysTogether 24 = .ok (.aload_n 0, 1) := by decide +kernel
theorem dX0_daysTogether_25 : decode cX0_daysTogether 25 = .ok (.aload_n 1, 1) := by decide +kernel
theorem dX0_daysTogether_26 : decode cX0_daysTogether 26 = .ok (.getfield 40, 3) := by decide +kernel
theorem dX0_daysTogether_29 : decode cX0_daysTogether 29 = .ok (.iload_n 3, 1) := by decide +kernel
theorem dX0_daysTogether_30 : decode cX0_daysTogether 30 = .ok (.iaload, 1) := by decide +kernel
theorem dX0_daysTogether_31 : decode cX0_daysTogether 31 = .ok (.iload_n 3, 1) := by decide +kernel
theorem dX0_daysTogether_32 : decode cX0_daysTogether 32 = .ok (.invokevirtual 51, 3) := by decide +kernel
theorem dX0_daysTogether_35 : decode cX0_daysTogether 35 = .ok (.aload_n 1, 1) := by decide +kernel
theorem dX0_daysTogether_36 : decode cX0_daysTogether 36 = .ok (.getfield 55, 3) := by decide +kernel
theorem dX0_daysTogether_39 : decode cX0_daysTogether 39 = .ok (.iload_n 3, 1) := by decide +kernel
theorem dX0_daysTogether_40 : decode cX0_daysTogether 40 = .ok (.iaload, 1) := by decide +kernel
theorem dX0_daysTogether_41 : decode cX0_daysTogether 41 = .ok (.iadd, 1) := by decide +kernel
theorem dX0_daysTogether_42 : decode cX0_daysTogether 42 = .ok (.aload_n 1, 1) := by decide +kernel
theorem dX0_daysTogether_43 : decode cX0_daysTogether 43 = .ok (.getfield 58, 3) := by decide +kernel
theorem dX0_daysTogether_46 : decode cX0_daysTogether 46 = .ok (.iload_n 3, 1) := by decide +kernel
theorem dX0_daysTogether_47 : decode cX0_daysTogether 47 = .ok (.iaload, 1) := by decide +kernel
theorem dX0_daysTogether_48 : decode cX0_daysTogether 48 = .ok (.isub, 1) := by decide +kernel
theorem dX0_daysTogether_49 : decode cX0_daysTogether 49 = .ok (.iastore, 1) := by decide +kernel
theorem dX0_daysTogether_50 : decode cX0_daysTogether 50 = .ok (.iinc 3 1, 3) := by decide +kernel
theorem dX0_daysTogether_53 : decode cX0_daysTogether 53 = .ok (.goto (-51), 3) := by decide +kernel
theorem dX0_daysTogether_56 : decode cX0_daysTogether 56 = .ok (.aload_n 0, 1) := by decide +kernel
theorem dX0_daysTogether_57 : decode cX0_daysTogether 57 = .ok (.getfield 15, 3) := by decide +kernel
theorem dX0_daysTogether_60 : decode cX0_daysTogether 60 = .ok (.iload_n 2, 1) := by decide +kernel
theorem dX0_daysTogether_61 : decode cX0_daysTogether 61 = .ok (.iaload, 1) := by decide +kernel
theorem dX0_daysTogether_62 : decode cX0_daysTogether 62 = .ok (.ireturn, 1) := by decide +kernel
set_option maxHeartbeats 4000000 in
set_option maxRecDepth 100000 in
theorem ctX0_daysTogether {p1 : Int} {p2 : Int} {σ : jq_M} {res : Int} {σ' : jq_M} (hp1 : jq_com p1) (h : X0_daysTogether p1 p2 σ = some (res, σ')) : jq_MC jq_zX yX0_daysTogether cX0_daysTogether 4 (some .int) 3 85 [jR 57, jR p1, jI p2] σ (some (jI res)) σ' := by
  refine jq_met (own := RX0) (L0 := [(0, jR 57), (1, jR p1), (2, jI p2)]) (by decide) rfl rfl rfl ?_
  intro X Γ hnl hlY hRT
  refine jq_use2 (P := fun r => jq_RT jq_zX X (some .int) (some (jI r.1)) r.2) ?_ h hRT
  intro K0 hK0
  unfold X0_daysTogether
  refine jq_iconst Γ dX0_daysTogether_0 rfl ?_
  refine jq_istore_n (L' := [(3, jI 0), (0, jR 57), (1, jR p1), (2, jI p2)]) Γ dX0_daysTogether_1 rfl hnl rfl rfl ?_
  refine jq_sub Γ (L' := [(0, jR 57), (1, jR p1), (2, jI p2), (3, jI 0)]) [1, 2, 3, 0] rfl ?_
  refine jq_loop2 (C := fun (t1 : Int × jq_M) => jq_V jq_zX X (jq_zN jq_zX) t1.2 2 [(0, jR 57), (1, jR p1), (2, jI p2), (3, jI t1.1)] []) (KX := fun (e12 : jq_M) => jq_V jq_zX X (jq_zN jq_zX) e12 56 [(0, jR 57), (2, jI p2)] []) ?_ ?_ (0, σ)
  · intro K2_t1 hCt1 hXt1 t1
    unfold X0_daysTogether_b2
    refine jq_iload_n Γ dX0_daysTogether_2 rfl 3 rfl ?_
    refine jq_iload_n Γ dX0_daysTogether_3 rfl 2 rfl ?_
    refine jq_icmp_gt (tgt := 56) Γ dX0_daysTogether_4 rfl ?_ ?_
    · refine jq_sub Γ (L' := [(0, jR 57), (2, jI p2)]) [0, 2] rfl ?_
      exact jq_done (hXt1 t1.2)
    · refine jq_aload_n Γ dX0_daysTogether_7 rfl 0 rfl (jq_at_0 at_X_57) ?_
      refine jq_getR (v := 59) Γ hlY at_X_57 fl_RX0_15 rfl rfl ly_X0_ends dX0_daysTogether_8 ?_
      refine jq_iload_n Γ dX0_daysTogether_11 rfl 3 rfl ?_
      refine jq_aload_n Γ dX0_daysTogether_12 rfl 1 rfl (jq_at_0 (at_com hp1)) ?_
      refine jq_iload_n Γ dX0_daysTogether_13 rfl 3 rfl ?_
      refine jq_cpZ (jq_virt (avs := [jI t1.1]) (st := [jI t1.1, jR 59]) Γ hlY rfl ml_RX0_43 rfl (at_com hp1) rfl rfl rfl rfl rfl dX0_daysTogether_14) rfl (fun r h => ctX1_isAgreed hp1 h) (fun v2 hz3 => ?_)
      refine jq_if_eq (tgt := 24) Γ dX0_daysTogether_17 rfl ?_ ?_
      · refine jq_aload_n Γ dX0_daysTogether_24 rfl 0 rfl (jq_at_0 at_X_57) ?_
        refine jq_aload_n Γ dX0_daysTogether_25 rfl 1 rfl (jq_at_0 (at_com hp1)) ?_
        refine jq_getR (v := (p1 + 11)) Γ hlY (at_com hp1) fl_RX0_40 rfl rfl (ly_X1_leansOn hp1) dX0_daysTogether_26 ?_
        refine jq_iload_n Γ dX0_daysTogether_29 rfl 3 rfl ?_
        refine jq_iald Γ (at_com_11 hp1) rfl dX0_daysTogether_30 (fun v4 => ?_)
        refine jq_iload_n Γ dX0_daysTogether_31 rfl 3 rfl ?_
        refine jq_cpI (jq_virt (avs := [jI v4, jI t1.1]) (st := [jI t1.1, jR 59]) Γ hlY rfl ml_RX0_51 rfl at_X_57 rfl rfl rfl rfl rfl dX0_daysTogether_32) (fun r h => ctX0_latestEnd h) (fun v5 => ?_)
        refine jq_aload_n Γ dX0_daysTogether_35 rfl 1 rfl (jq_at_0 (at_com hp1)) ?_
        refine jq_getR (v := (p1 + 9)) Γ hlY (at_com hp1) fl_RX0_55 rfl rfl (ly_X1_takes hp1) dX0_daysTogether_36 ?_
        refine jq_iload_n Γ dX0_daysTogether_39 rfl 3 rfl ?_
        refine jq_iald Γ (at_com_9 hp1) rfl dX0_daysTogether_40 (fun v6 => ?_)
        refine jq_iadd Γ dX0_daysTogether_41 ?_
        refine jq_aload_n Γ dX0_daysTogether_42 rfl 1 rfl (jq_at_0 (at_com hp1)) ?_
        refine jq_getR (v := (p1 + 12)) Γ hlY (at_com hp1) fl_RX0_58 rfl rfl (ly_X1_worked hp1) dX0_daysTogether_43 ?_
        refine jq_iload_n Γ dX0_daysTogether_46 rfl 3 rfl ?_
        refine jq_iald Γ (at_com_12 hp1) rfl dX0_daysTogether_47 (fun v7 => ?_)
        refine jq_isub Γ dX0_daysTogether_48 ?_
        refine jq_iast Γ at_X_59 rfl dX0_daysTogether_49 (fun s8 => ?_)
        refine jq_iincN (L' := fun v9 => [(3, jI v9), (0, jR 57), (1, jR p1), (2, jI p2)]) Γ dX0_daysTogether_50 3 rfl hnl rfl (fun _ => rfl) (fun v9 => ?_)
        refine jq_goto Γ (tgt := 2) dX0_daysTogether_53 rfl ?_
        refine jq_sub Γ (L' := [(0, jR 57), (1, jR p1), (2, jI p2), (3, jI v9)]) [1, 2, 3, 0] rfl ?_
        exact jq_done (hCt1 (v9, s8))
      · refine jq_iconst Γ dX0_daysTogether_20 rfl ?_
        refine jq_goto Γ (tgt := 49) dX0_daysTogether_21 rfl ?_
        refine jq_iast Γ at_X_59 rfl dX0_daysTogether_49 (fun s10 => ?_)
        refine jq_iincN (L' := fun v11 => [(3, jI v11), (0, jR 57), (1, jR p1), (2, jI p2)]) Γ dX0_daysTogether_50 3 rfl hnl rfl (fun _ => rfl) (fun v11 => ?_)
        refine jq_goto Γ (tgt := 2) dX0_daysTogether_53 rfl ?_
        refine jq_sub Γ (L' := [(0, jR 57), (1, jR p1), (2, jI p2), (3, jI v11)]) [1, 2, 3, 0] rfl ?_
        exact jq_done (hCt1 (v11, s10))
  · intro e12
    refine jq_aload_n Γ dX0_daysTogether_56 rfl 0 rfl (jq_at_0 at_X_57) ?_
    refine jq_getR (v := 59) Γ hlY at_X_57 fl_RX0_15 rfl rfl ly_X0_ends dX0_daysTogether_57 ?_
    refine jq_iload_n Γ dX0_daysTogether_60 rfl 1 rfl ?_
    refine jq_iald Γ at_X_59 rfl dX0_daysTogether_61 (fun v13 => ?_)
    exact jq_ireturn Γ dX0_daysTogether_62 (hK0 _)


theorem dX10_chain_0 : decode cX10_chain 0 = .ok (.aload_n 0, 1) := by decide +kernel
theorem dX10_chain_1 : decode cX10_chain 1 = .ok (.getfield 25, 3) := by decide +kernel
theorem dX10_chain_4 : decode cX10_chain 4 = .ok (.iload_n 1, 1) := by decide +kernel
theorem dX10_chain_5 : decode cX10_chain 5 = .ok (.invokevirtual 242, 3) := by decide +kernel
theorem dX10_chain_8 : decode cX10_chain 8 = .ok (.ifCond .ne 9, 3) := by decide +kernel
theorem dX10_chain_11 : decode cX10_chain 11 = .ok (.aload_n 0, 1) := by decide +kernel
theorem dX10_chain_12 : decode cX10_chain 12 = .ok (.iconst 1, 1) := by decide +kernel
theorem dX10_chain_13 : decode cX10_chain 13 = .ok (.invokevirtual 120, 3) := by decide +kernel
theorem dX10_chain_16 : decode cX10_chain 16 = .ok (.ireturn, 1) := by decide +kernel
theorem dX10_chain_17 : decode cX10_chain 17 = .ok (.aload_n 0, 1) := by decide +kernel
theorem dX10_chain_18 : decode cX10_chain 18 = .ok (.aload_n 0, 1) := by decide +kernel
theorem dX10_chain_19 : decode cX10_chain 19 = .ok (.getfield 53, 3) := by decide +kernel
theorem dX10_chain_22 : decode cX10_chain 22 = .ok (.aload_n 0, 1) := by decide +kernel
theorem dX10_chain_23 : decode cX10_chain 23 = .ok (.getfield 25, 3) := by decide +kernel
theorem dX10_chain_26 : decode cX10_chain 26 = .ok (.iload_n 1, 1) := by decide +kernel
theorem dX10_chain_27 : decode cX10_chain 27 = .ok (.invokevirtual 403, 3) := by decide +kernel
theorem dX10_chain_30 : decode cX10_chain 30 = .ok (.invokevirtual 161, 3) := by decide +kernel
theorem dX10_chain_33 : decode cX10_chain 33 = .ok (.ireturn, 1) := by decide +kernel
set_option maxHeartbeats 4000000 in
set_option maxRecDepth 100000 in
theorem ctX10_chain {p1 : Int} {σ : jq_M} {res : Int} {σ' : jq_M}  (h : X10_chain p1 σ = some (res, σ')) : jq_MC jq_zX yX10_chain cX10_chain 2 (some .int) 4 108 [jR 0, jI p1] σ (some (jI res)) σ' := by
  refine jq_met (own := RX10) (L0 := [(0, jR 0), (1, jI p1)]) (by decide) rfl rfl rfl ?_
  intro X Γ hnl hlY hRT
  refine jq_use2 (P := fun r => jq_RT jq_zX X (some .int) (some (jI r.1)) r.2) ?_ h hRT
  intro K0 hK0
  unfold X10_chain
  refine jq_aload_n Γ dX10_chain_0 rfl 0 rfl (jq_at_0 at_X_0) ?_
  refine jq_getC (C := jq_cm2) Γ hlY at_X_0 fl_RX10_25 rfl rfl ly_now dX10_chain_1 (fun c1 hc2q => ?_)
  have hc2 := jq_cm2_com hc2q
  refine jq_iload_n Γ dX10_chain_4 rfl 1 rfl ?_
  refine jq_cpZ (jq_virt (avs := [jI p1]) (st := []) Γ hlY rfl ml_RX10_242 rfl (at_com hc2) rfl rfl rfl rfl rfl dX10_chain_5) rfl (fun r h => ctX1_isArticle hc2 h) (fun v3 hz4 => ?_)
  refine jq_if_ne (tgt := 17) Γ dX10_chain_8 rfl ?_ ?_
  · refine jq_aload_n Γ dX10_chain_17 rfl 0 rfl (jq_at_0 at_X_0) ?_
    refine jq_aload_n Γ dX10_chain_18 rfl 0 rfl (jq_at_0 at_X_0) ?_
    refine jq_getR (v := 57) Γ hlY at_X_0 fl_RX10_53 rfl rfl ly_X10_agenda dX10_chain_19 ?_
    refine jq_aload_n Γ dX10_chain_22 rfl 0 rfl (jq_at_0 at_X_0) ?_
    refine jq_getC (C := jq_cm2) Γ hlY at_X_0 fl_RX10_25 rfl rfl ly_now dX10_chain_23 (fun c5 hc6q => ?_)
    have hc6 := jq_cm2_com hc6q
    refine jq_iload_n Γ dX10_chain_26 rfl 1 rfl ?_
    refine jq_cwI (jq_virt (avs := [jR c5, jI p1]) (st := [jR 0]) Γ hlY rfl ml_RX10_403 rfl at_X_57 rfl rfl rfl rfl rfl dX10_chain_27) (fun r σ' h => ctX0_daysTogether hc6 h) (fun v7 s8 => ?_)
    refine jq_cwI (jq_virt (avs := [jI v7]) (st := []) Γ hlY rfl ml_RX10_161 rfl at_X_0 rfl rfl rfl rfl rfl dX10_chain_30) (fun r σ' h => ctX10_answer h) (fun v9 s10 => ?_)
    exact jq_ireturn Γ dX10_chain_33 (hK0 _)
  · refine jq_aload_n Γ dX10_chain_11 rfl 0 rfl (jq_at_0 at_X_0) ?_
    refine jq_iconst Γ dX10_chain_12 rfl ?_
    refine jq_cwI (jq_virt (avs := [jI 1]) (st := []) Γ hlY rfl ml_RX10_120 rfl at_X_0 rfl rfl rfl rfl rfl dX10_chain_13) (fun r σ' h => ctX10_refuse h) (fun v11 s12 => ?_)
    exact jq_ireturn Γ dX10_chain_16 (hK0 _)


theorem dX10_agreedIn_0 : decode cX10_agreedIn 0 = .ok (.iload_n 1, 1) := by decide +kernel
theorem dX10_agreedIn_1 : decode cX10_agreedIn 1 = .ok (.iconst 0, 1) := by decide +kernel
theorem dX10_agreedIn_2 : decode cX10_agreedIn 2 = .ok (.sipush 300, 3) := by decide +kernel
theorem dX10_agreedIn_5 : decode cX10_agreedIn 5 = .ok (.invokestatic 93, 3) := by decide +kernel
theorem dX10_agreedIn_8 : decode cX10_agreedIn 8 = .ok (.ifCond .ne 9, 3) := by decide +kernel
theorem dX10_agreedIn_11 : decode cX10_agreedIn 11 = .ok (.aload_n 0, 1) := by decide +kernel
theorem dX10_agreedIn_12 : decode cX10_agreedIn 12 = .ok (.iconst 1, 1) := by decide +kernel
theorem dX10_agreedIn_13 : decode cX10_agreedIn 13 = .ok (.invokevirtual 120, 3) := by decide +kernel
theorem dX10_agreedIn_16 : decode cX10_agreedIn 16 = .ok (.ireturn, 1) := by decide +kernel
theorem dX10_agreedIn_17 : decode cX10_agreedIn 17 = .ok (.aload_n 0, 1) := by decide +kernel
theorem dX10_agreedIn_18 : decode cX10_agreedIn 18 = .ok (.getfield 29, 3) := by decide +kernel
theorem dX10_agreedIn_21 : decode cX10_agreedIn 21 = .ok (.aload_n 0, 1) := by decide +kernel
theorem dX10_agreedIn_22 : decode cX10_agreedIn 22 = .ok (.getfield 25, 3) := by decide +kernel
theorem dX10_agreedIn_25 : decode cX10_agreedIn 25 = .ok (.invokevirtual 397, 3) := by decide +kernel
theorem dX10_agreedIn_28 : decode cX10_agreedIn 28 = .ok (.aload_n 0, 1) := by decide +kernel
theorem dX10_agreedIn_29 : decode cX10_agreedIn 29 = .ok (.getfield 29, 3) := by decide +kernel
theorem dX10_agreedIn_32 : decode cX10_agreedIn 32 = .ok (.iload_n 1, 1) := by decide +kernel
theorem dX10_agreedIn_33 : decode cX10_agreedIn 33 = .ok (.invokevirtual 305, 3) := by decide +kernel
theorem dX10_agreedIn_36 : decode cX10_agreedIn 36 = .ok (.pop, 1) := by decide +kernel
theorem dX10_agreedIn_37 : decode cX10_agreedIn 37 = .ok (.aload_n 0, 1) := by decide +kernel
theorem dX10_agreedIn_38 : decode cX10_agreedIn 38 = .ok (.aload_n 0, 1) := by decide +kernel
theorem dX10_agreedIn_39 : decode cX10_agreedIn 39 = .ok (.getfield 29, 3) := by decide +kernel
theorem dX10_agreedIn_42 : decode cX10_agreedIn 42 = .ok (.getfield 204, 3) := by decide +kernel
theorem dX10_agreedIn_45 : decode cX10_agreedIn 45 = .ok (.invokevirtual 161, 3) := by decide +kernel
theorem dX10_agreedIn_48 : decode cX10_agreedIn 48 = .ok (.ireturn, 1) := by decide +kernel
set_option maxHeartbeats 4000000 in
set_option maxRecDepth 100000 in
theorem ctX10_agreedIn {p1 : Int} {σ : jq_M} {res : Int} {σ' : jq_M}  (h : X10_agreedIn p1 σ = some (res, σ')) : jq_MC jq_zX yX10_agreedIn cX10_agreedIn 2 (some .int) 4 106 [jR 0, jI p1] σ (some (jI res)) σ' := by
  refine jq_met (own := RX10) (L0 := [(0, jR 0), (1, jI p1)]) (by decide) rfl rfl rfl ?_
  intro X Γ hnl hlY hRT
  refine jq_use2 (P := fun r => jq_RT jq_zX X (some .int) (some (jI r.1)) r.2) ?_ h hRT
  intro K0 hK0
  unfold X10_agreedIn
  refine jq_iload_n Γ dX10_agreedIn_0 rfl 1 rfl ?_
  refine jq_iconst Γ dX10_agreedIn_1 rfl ?_
  refine jq_sipush Γ dX10_agreedIn_2 rfl ?_
  refine jq_cpZ (jq_stat (avs := [jI p1, jI 0, jI 300]) (st := []) Γ hlY rfl ml_RX10_93 rfl rfl rfl rfl rfl dX10_agreedIn_5) rfl (fun r h => ctX10_within h) (fun v1 hz2 => ?_)
  refine jq_if_ne (tgt := 17) Γ dX10_agreedIn_8 rfl ?_ ?_
  · refine jq_aload_n Γ dX10_agreedIn_17 rfl 0 rfl (jq_at_0 at_X_0) ?_
    refine jq_getC (C := jq_cm2) Γ hlY at_X_0 fl_RX10_29 rfl rfl ly_spare dX10_agreedIn_18 (fun c3 hc4q => ?_)
    have hc4 := jq_cm2_com hc4q
    refine jq_aload_n Γ dX10_agreedIn_21 rfl 0 rfl (jq_at_0 at_X_0) ?_
    refine jq_getC (C := jq_cm2) Γ hlY at_X_0 fl_RX10_25 rfl rfl ly_now dX10_agreedIn_22 (fun c5 hc6q => ?_)
    have hc6 := jq_cm2_com hc6q
    refine jq_cwV (jq_virt (avs := [jR c5]) (st := []) Γ hlY rfl ml_RX10_397 rfl (at_com hc4) rfl rfl rfl rfl rfl dX10_agreedIn_25) (fun σ' h => ctX1_takeFrom hc4 hc6 h) (fun s7 => ?_)
    refine jq_aload_n Γ dX10_agreedIn_28 rfl 0 rfl (jq_at_0 at_X_0) ?_
    refine jq_getC (C := jq_cm2) Γ hlY at_X_0 fl_RX10_29 rfl rfl ly_spare dX10_agreedIn_29 (fun c8 hc9q => ?_)
    have hc9 := jq_cm2_com hc9q
    refine jq_iload_n Γ dX10_agreedIn_32 rfl 1 rfl ?_
    refine jq_cwI (jq_virt (avs := [jI p1]) (st := []) Γ hlY rfl ml_RX10_305 rfl (at_com hc9) rfl rfl rfl rfl rfl dX10_agreedIn_33) (fun r σ' h => ctX1_passDays hc9 h) (fun v10 s11 => ?_)
    refine jq_pop Γ dX10_agreedIn_36 rfl ?_
    refine jq_aload_n Γ dX10_agreedIn_37 rfl 0 rfl (jq_at_0 at_X_0) ?_
    refine jq_aload_n Γ dX10_agreedIn_38 rfl 0 rfl (jq_at_0 at_X_0) ?_
    refine jq_getC (C := jq_cm2) Γ hlY at_X_0 fl_RX10_29 rfl rfl ly_spare dX10_agreedIn_39 (fun c12 hc13q => ?_)
    have hc13 := jq_cm2_com hc13q
    refine jq_getI (J := 5) Γ (at_com hc13) fl_RX10_204 rfl rfl dX10_agreedIn_42 ?_
    refine jq_cwI (jq_virt (avs := [jI (s11 c12 5)]) (st := []) Γ hlY rfl ml_RX10_161 rfl at_X_0 rfl rfl rfl rfl rfl dX10_agreedIn_45) (fun r σ' h => ctX10_answer h) (fun v14 s15 => ?_)
    exact jq_ireturn Γ dX10_agreedIn_48 (hK0 _)
  · refine jq_aload_n Γ dX10_agreedIn_11 rfl 0 rfl (jq_at_0 at_X_0) ?_
    refine jq_iconst Γ dX10_agreedIn_12 rfl ?_
    refine jq_cwI (jq_virt (avs := [jI 1]) (st := []) Γ hlY rfl ml_RX10_120 rfl at_X_0 rfl rfl rfl rfl rfl dX10_agreedIn_13) (fun r σ' h => ctX10_refuse h) (fun v16 s17 => ?_)
    exact jq_ireturn Γ dX10_agreedIn_16 (hK0 _)


theorem dX0_oddsOfAll_0 : decode cX0_oddsOfAll 0 = .ok (.lconst 1, 1) := by decide +kernel
theorem dX0_oddsOfAll_1 : decode cX0_oddsOfAll 1 = .ok (.lstore_n 2, 1) := by decide +kernel
theorem dX0_oddsOfAll_2 : decode cX0_oddsOfAll 2 = .ok (.iconst 0, 1) := by decide +kernel
theorem dX0_oddsOfAll_3 : decode cX0_oddsOfAll 3 = .ok (.istore 4, 2) := by decide +kernel
theorem dX0_oddsOfAll_5 : decode cX0_oddsOfAll 5 = .ok (.iload 4, 2) := by decide +kernel
theorem dX0_oddsOfAll_7 : decode cX0_oddsOfAll 7 = .ok (.aload_n 0, 1) := by decide +kernel
theorem dX0_oddsOfAll_8 : decode cX0_oddsOfAll 8 = .ok (.getfield 18, 3) := by decide +kernel
theorem dX0_oddsOfAll_11 : decode cX0_oddsOfAll 11 = .ok (.if_icmp .ge 29, 3) := by decide +kernel
theorem dX0_oddsOfAll_14 : decode cX0_oddsOfAll 14 = .ok (.iload_n 1, 1) := by decide +kernel
theorem dX0_oddsOfAll_15 : decode cX0_oddsOfAll 15 = .ok (.iload 4, 2) := by decide +kernel
theorem dX0_oddsOfAll_17 : decode cX0_oddsOfAll 17 = .ok (.invokestatic 36, 3) := by decide +kernel
theorem dX0_oddsOfAll_20 : decode cX0_oddsOfAll 20 = .ok (.ifCond .eq 14, 3) := by decide +kernel
theorem dX0_oddsOfAll_23 : decode cX0_oddsOfAll 23 = .ok (.lload_n 2, 1) := by decide +kernel
theorem dX0_oddsOfAll_24 : decode cX0_oddsOfAll 24 = .ok (.aload_n 0, 1) := by decide +kernel
theorem dX0_oddsOfAll_25 : decode cX0_oddsOfAll 25 = .ok (.getfield 66, 3) := by decide +kernel
theorem dX0_oddsOfAll_28 : decode cX0_oddsOfAll 28 = .ok (.iload 4, 2) := by decide +kernel
theorem dX0_oddsOfAll_30 : decode cX0_oddsOfAll 30 = .ok (.iaload, 1) := by decide +kernel
theorem dX0_oddsOfAll_31 : decode cX0_oddsOfAll 31 = .ok (.i2l, 1) := by decide +kernel
theorem dX0_oddsOfAll_32 : decode cX0_oddsOfAll 32 = .ok (.lmul, 1) := by decide +kernel
theorem dX0_oddsOfAll_33 : decode cX0_oddsOfAll 33 = .ok (.lstore_n 2, 1) := by decide +kernel
theorem dX0_oddsOfAll_34 : decode cX0_oddsOfAll 34 = .ok (.iinc 4 1, 3) := by decide +kernel
theorem dX0_oddsOfAll_37 : decode cX0_oddsOfAll 37 = .ok (.goto (-32), 3) := by decide +kernel
theorem dX0_oddsOfAll_40 : decode cX0_oddsOfAll 40 = .ok (.lload_n 2, 1) := by decide +kernel
theorem dX0_oddsOfAll_41 : decode cX0_oddsOfAll 41 = .ok (.lreturn, 1) := by decide +kernel
set_option maxHeartbeats 4000000 in
set_option maxRecDepth 100000 in
theorem ctX0_oddsOfAll {p0 : Int} {p1 : Int} {σ : jq_M} {res : Int} (hp0 : jq_com p0) (h : X0_oddsOfAll p0 p1 σ = some res) : jq_MC jq_zX yX0_oddsOfAll cX0_oddsOfAll 5 (some .long) 2 61 [jR p0, jI p1] σ (some (jL res)) σ := by
  refine jq_met (own := RX0) (L0 := [(0, jR p0), (1, jI p1)]) (by decide) rfl rfl rfl ?_
  intro X Γ hnl hlY hRT
  refine jq_use2 (P := fun r => jq_RT jq_zX X (some .long) (some (jL r)) σ) ?_ h hRT
  intro K0 hK0
  unfold X0_oddsOfAll
  refine jq_lconst Γ 1 dX0_oddsOfAll_0 rfl rfl ?_
  refine jq_lstore_n (L' := [(2, jL 1), (0, jR p0), (1, jI p1)]) Γ dX0_oddsOfAll_1 rfl hnl rfl rfl ?_
  refine jq_iconst Γ dX0_oddsOfAll_2 rfl ?_
  refine jq_istore (L' := [(4, jI 0), (2, jL 1), (0, jR p0), (1, jI p1)]) Γ dX0_oddsOfAll_3 hnl rfl rfl ?_
  refine jq_sub Γ (L' := [(0, jR p0), (1, jI p1), (2, jL 1), (4, jI 0)]) [2, 3, 1, 0] rfl ?_
  refine jq_loop2 (C := fun (t1 : Int × Int) => jq_V jq_zX X (jq_zN jq_zX) σ 5 [(0, jR p0), (1, jI p1), (2, jL t1.1), (4, jI t1.2)] []) (KX := fun (e8 : Int) => jq_V jq_zX X (jq_zN jq_zX) σ 40 [(2, jL e8)] []) ?_ ?_ (1, 0)
  · intro K5_t1 hCt1 hXt1 t1
    unfold X0_oddsOfAll_b5
    refine jq_iload Γ dX0_oddsOfAll_5 3 rfl ?_
    refine jq_aload_n Γ dX0_oddsOfAll_7 rfl 0 rfl (jq_at_0 (at_com hp0)) ?_
    refine jq_getI (J := 4) Γ (at_com hp0) fl_RX0_18 rfl rfl dX0_oddsOfAll_8 ?_
    refine jq_icmp_ge (tgt := 40) Γ dX0_oddsOfAll_11 rfl ?_ ?_
    · refine jq_sub Γ (L' := [(2, jL t1.1)]) [2] rfl ?_
      exact jq_done (hXt1 t1.1)
    · refine jq_iload_n Γ dX0_oddsOfAll_14 rfl 1 rfl ?_
      refine jq_iload Γ dX0_oddsOfAll_15 3 rfl ?_
      refine jq_cpZ (jq_nest (avs := [jI p1, jI t1.2]) (st := []) Γ hlY rfl ml_RX0_36 rfl rfl rfl rfl rfl dX0_oddsOfAll_17) rfl (fun r h => ctX10_holds h) (fun v2 hz3 => ?_)
      refine jq_if_eq (tgt := 34) Γ dX0_oddsOfAll_20 rfl ?_ ?_
      · refine jq_iincN (L' := fun v4 => [(4, jI v4), (0, jR p0), (1, jI p1), (2, jL t1.1)]) Γ dX0_oddsOfAll_34 3 rfl hnl rfl (fun _ => rfl) (fun v4 => ?_)
        refine jq_goto Γ (tgt := 5) dX0_oddsOfAll_37 rfl ?_
        refine jq_sub Γ (L' := [(0, jR p0), (1, jI p1), (2, jL t1.1), (4, jI v4)]) [1, 2, 3, 0] rfl ?_
        exact jq_done (hCt1 (t1.1, v4))
      · refine jq_lload_n Γ dX0_oddsOfAll_23 rfl 2 rfl ?_
        refine jq_aload_n Γ dX0_oddsOfAll_24 rfl 0 rfl (jq_at_0 (at_com hp0)) ?_
        refine jq_getR (v := (p0 + 10)) Γ hlY (at_com hp0) fl_RX0_66 rfl rfl (ly_X1_odds hp0) dX0_oddsOfAll_25 ?_
        refine jq_iload Γ dX0_oddsOfAll_28 3 rfl ?_
        refine jq_iald Γ (at_com_10 hp0) rfl dX0_oddsOfAll_30 (fun v5 => ?_)
        refine jq_i2l Γ dX0_oddsOfAll_31 ?_
        refine jq_lmul Γ dX0_oddsOfAll_32 ?_
        refine jq_nmL (fun v6 => ?_)
        refine jq_lstore_n (L' := [(2, jL v6), (0, jR p0), (1, jI p1), (4, jI t1.2)]) Γ dX0_oddsOfAll_33 rfl hnl rfl rfl ?_
        refine jq_iincN (L' := fun v7 => [(4, jI v7), (2, jL v6), (0, jR p0), (1, jI p1)]) Γ dX0_oddsOfAll_34 3 rfl hnl rfl (fun _ => rfl) (fun v7 => ?_)
        refine jq_goto Γ (tgt := 5) dX0_oddsOfAll_37 rfl ?_
        refine jq_sub Γ (L' := [(0, jR p0), (1, jI p1), (2, jL v6), (4, jI v7)]) [2, 3, 1, 0] rfl ?_
        exact jq_done (hCt1 (v6, v7))
  · intro e8
    refine jq_lload_n Γ dX0_oddsOfAll_40 rfl 0 rfl ?_
    exact jq_lreturn Γ dX0_oddsOfAll_41 (hK0 _)


theorem dX10_commonDivisor_0 : decode cX10_commonDivisor 0 = .ok (.lload_n 0, 1) := by decide +kernel
theorem dX10_commonDivisor_1 : decode cX10_commonDivisor 1 = .ok (.lstore 4, 2) := by decide +kernel
theorem dX10_commonDivisor_3 : decode cX10_commonDivisor 3 = .ok (.lload_n 2, 1) := by decide +kernel
theorem dX10_commonDivisor_4 : decode cX10_commonDivisor 4 = .ok (.lstore 6, 2) := by decide +kernel
theorem dX10_commonDivisor_6 : decode cX10_commonDivisor 6 = .ok (.iconst 0, 1) := by decide +kernel
theorem dX10_commonDivisor_7 : decode cX10_commonDivisor 7 = .ok (.istore 8, 2) := by decide +kernel
theorem dX10_commonDivisor_9 : decode cX10_commonDivisor 9 = .ok (.iload 8, 2) := by decide +kernel
theorem dX10_commonDivisor_11 : decode cX10_commonDivisor 11 = .ok (.ldc_w 466, 3) := by decide +kernel
theorem dX10_commonDivisor_14 : decode cX10_commonDivisor 14 = .ok (.if_icmp .ge 31, 3) := by decide +kernel
theorem dX10_commonDivisor_17 : decode cX10_commonDivisor 17 = .ok (.lload 6, 2) := by decide +kernel
theorem dX10_commonDivisor_19 : decode cX10_commonDivisor 19 = .ok (.lconst 0, 1) := by decide +kernel
theorem dX10_commonDivisor_20 : decode cX10_commonDivisor 20 = .ok (.lcmp, 1) := by decide +kernel
theorem dX10_commonDivisor_21 : decode cX10_commonDivisor 21 = .ok (.ifCond .eq 24, 3) := by decide +kernel
theorem dX10_commonDivisor_24 : decode cX10_commonDivisor 24 = .ok (.lload 4, 2) := by decide +kernel
theorem dX10_commonDivisor_26 : decode cX10_commonDivisor 26 = .ok (.lload 6, 2) := by decide +kernel
theorem dX10_commonDivisor_28 : decode cX10_commonDivisor 28 = .ok (.lrem, 1) := by decide +kernel
theorem dX10_commonDivisor_29 : decode cX10_commonDivisor 29 = .ok (.lstore 9, 2) := by decide +kernel
theorem dX10_commonDivisor_31 : decode cX10_commonDivisor 31 = .ok (.lload 6, 2) := by decide +kernel
theorem dX10_commonDivisor_33 : decode cX10_commonDivisor 33 = .ok (.lstore 4, 2) := by decide +kernel
theorem dX10_commonDivisor_35 : decode cX10_commonDivisor 35 = .ok (.lload 9, 2) := by decide +kernel
theorem dX10_commonDivisor_37 : decode cX10_commonDivisor 37 = .ok (.lstore 6, 2) := by decide +kernel
theorem dX10_commonDivisor_39 : decode cX10_commonDivisor 39 = .ok (.iinc 8 1, 3) := by decide +kernel
theorem dX10_commonDivisor_42 : decode cX10_commonDivisor 42 = .ok (.goto (-33), 3) := by decide +kernel
theorem dX10_commonDivisor_45 : decode cX10_commonDivisor 45 = .ok (.lload 4, 2) := by decide +kernel
theorem dX10_commonDivisor_47 : decode cX10_commonDivisor 47 = .ok (.lreturn, 1) := by decide +kernel
set_option maxHeartbeats 4000000 in
set_option maxRecDepth 100000 in
theorem ctX10_commonDivisor {p0 : Int} {p2 : Int} {σ : jq_M} {res : Int}  (h : X10_commonDivisor p0 p2 σ = some res) : jq_MC jq_zX yX10_commonDivisor cX10_commonDivisor 11 (some .long) 1 40 [jL p0, jL p2] σ (some (jL res)) σ := by
  refine jq_met (own := RX10) (L0 := [(0, jL p0), (2, jL p2)]) (by decide) rfl rfl rfl ?_
  intro X Γ hnl hlY hRT
  refine jq_use2 (P := fun r => jq_RT jq_zX X (some .long) (some (jL r)) σ) ?_ h hRT
  intro K0 hK0
  unfold X10_commonDivisor
  refine jq_lload_n Γ dX10_commonDivisor_0 rfl 0 rfl ?_
  refine jq_lstore (L' := [(4, jL p0), (0, jL p0), (2, jL p2)]) Γ dX10_commonDivisor_1 hnl rfl rfl ?_
  refine jq_lload_n Γ dX10_commonDivisor_3 rfl 2 rfl ?_
  refine jq_lstore (L' := [(6, jL p2), (4, jL p0), (0, jL p0), (2, jL p2)]) Γ dX10_commonDivisor_4 hnl rfl rfl ?_
  refine jq_iconst Γ dX10_commonDivisor_6 rfl ?_
  refine jq_istore (L' := [(8, jI 0), (6, jL p2), (4, jL p0), (0, jL p0), (2, jL p2)]) Γ dX10_commonDivisor_7 hnl rfl rfl ?_
  refine jq_sub Γ (L' := [(4, jL p0), (6, jL p2), (8, jI 0)]) [2, 1, 0] rfl ?_
  refine jq_loop2 (C := fun (t1 : Int × Int × Int) => jq_V jq_zX X (jq_zN jq_zX) σ 9 [(4, jL t1.1), (6, jL t1.2.1), (8, jI t1.2.2)] []) (KX := fun (e4 : Int) => jq_V jq_zX X (jq_zN jq_zX) σ 45 [(4, jL e4)] []) ?_ ?_ (p0, p2, 0)
  · intro K9_t1 hCt1 hXt1 t1
    unfold X10_commonDivisor_b9
    refine jq_iload Γ dX10_commonDivisor_9 2 rfl ?_
    refine jq_ldcw Γ 1000000 dX10_commonDivisor_11 kc_RX10_466 rfl ?_
    refine jq_icmp_ge (tgt := 45) Γ dX10_commonDivisor_14 rfl ?_ ?_
    · refine jq_sub Γ (L' := [(4, jL t1.1)]) [0] rfl ?_
      exact jq_done (hXt1 t1.1)
    · refine jq_lload Γ dX10_commonDivisor_17 1 rfl ?_
      refine jq_lconst Γ 0 dX10_commonDivisor_19 rfl rfl ?_
      refine jq_lcmp Γ dX10_commonDivisor_20 ?_
      refine jq_if_eq (tgt := 45) Γ dX10_commonDivisor_21 rfl ?_ ?_
      · refine jq_sub Γ (L' := [(4, jL t1.1)]) [0] rfl ?_
        exact jq_done (hXt1 t1.1)
      · refine jq_lload Γ dX10_commonDivisor_24 0 rfl ?_
        refine jq_lload Γ dX10_commonDivisor_26 1 rfl ?_
        refine jq_lremR Γ dX10_commonDivisor_28 (fun v2 => ?_)
        refine jq_lstore (L' := [(9, jL v2), (4, jL t1.1), (6, jL t1.2.1), (8, jI t1.2.2)]) Γ dX10_commonDivisor_29 hnl rfl rfl ?_
        refine jq_lload Γ dX10_commonDivisor_31 2 rfl ?_
        refine jq_lstore (L' := [(4, jL t1.2.1), (9, jL v2), (6, jL t1.2.1), (8, jI t1.2.2)]) Γ dX10_commonDivisor_33 hnl rfl rfl ?_
        refine jq_lload Γ dX10_commonDivisor_35 1 rfl ?_
        refine jq_lstore (L' := [(6, jL v2), (4, jL t1.2.1), (9, jL v2), (8, jI t1.2.2)]) Γ dX10_commonDivisor_37 hnl rfl rfl ?_
        refine jq_iincN (L' := fun v3 => [(8, jI v3), (6, jL v2), (4, jL t1.2.1), (9, jL v2)]) Γ dX10_commonDivisor_39 3 rfl hnl rfl (fun _ => rfl) (fun v3 => ?_)
        refine jq_goto Γ (tgt := 9) dX10_commonDivisor_42 rfl ?_
        refine jq_sub Γ (L' := [(4, jL t1.2.1), (6, jL v2), (8, jI v3)]) [2, 1, 0] rfl ?_
        exact jq_done (hCt1 (t1.2.1, v2, v3))
  · intro e4
    refine jq_lload Γ dX10_commonDivisor_45 0 rfl ?_
    exact jq_lreturn Γ dX10_commonDivisor_47 (hK0 _)


theorem dX10_tellFraction_0 : decode cX10_tellFraction 0 = .ok (.lload_n 1, 1) := by decide +kernel
theorem dX10_tellFraction_1 : decode cX10_tellFraction 1 = .ok (.invokestatic 456, 3) := by decide +kernel
theorem dX10_tellFraction_4 : decode cX10_tellFraction 4 = .ok (.lload_n 3, 1) := by decide +kernel
theorem dX10_tellFraction_5 : decode cX10_tellFraction 5 = .ok (.invokestatic 462, 3) := by decide +kernel
theorem dX10_tellFraction_8 : decode cX10_tellFraction 8 = .ok (.lstore 5, 2) := by decide +kernel
theorem dX10_tellFraction_10 : decode cX10_tellFraction 10 = .ok (.lload 5, 2) := by decide +kernel
theorem dX10_tellFraction_12 : decode cX10_tellFraction 12 = .ok (.lconst 0, 1) := by decide +kernel
theorem dX10_tellFraction_13 : decode cX10_tellFraction 13 = .ok (.lcmp, 1) := by decide +kernel
theorem dX10_tellFraction_14 : decode cX10_tellFraction 14 = .ok (.ifCond .le 19, 3) := by decide +kernel
theorem dX10_tellFraction_17 : decode cX10_tellFraction 17 = .ok (.aload_n 0, 1) := by decide +kernel
theorem dX10_tellFraction_18 : decode cX10_tellFraction 18 = .ok (.lload_n 1, 1) := by decide +kernel
theorem dX10_tellFraction_19 : decode cX10_tellFraction 19 = .ok (.lload 5, 2) := by decide +kernel
theorem dX10_tellFraction_21 : decode cX10_tellFraction 21 = .ok (.ldiv, 1) := by decide +kernel
theorem dX10_tellFraction_22 : decode cX10_tellFraction 22 = .ok (.putfield 75, 3) := by decide +kernel
theorem dX10_tellFraction_25 : decode cX10_tellFraction 25 = .ok (.aload_n 0, 1) := by decide +kernel
theorem dX10_tellFraction_26 : decode cX10_tellFraction 26 = .ok (.lload_n 3, 1) := by decide +kernel
theorem dX10_tellFraction_27 : decode cX10_tellFraction 27 = .ok (.lload 5, 2) := by decide +kernel
theorem dX10_tellFraction_29 : decode cX10_tellFraction 29 = .ok (.ldiv, 1) := by decide +kernel
theorem dX10_tellFraction_30 : decode cX10_tellFraction 30 = .ok (.putfield 79, 3) := by decide +kernel
theorem dX10_tellFraction_33 : decode cX10_tellFraction 33 = .ok (.return_, 1) := by decide +kernel
set_option maxHeartbeats 4000000 in
set_option maxRecDepth 100000 in
theorem ctX10_tellFraction {p1 : Int} {p3 : Int} {σ : jq_M} {σ' : jq_M}  (h : X10_tellFraction p1 p3 σ = some σ') : jq_MC jq_zX yX10_tellFraction cX10_tellFraction 7 none 2 70 [jR 0, jL p1, jL p3] σ none σ' := by
  refine jq_met (own := RX10) (L0 := [(0, jR 0), (1, jL p1), (3, jL p3)]) (by decide) rfl rfl rfl ?_
  intro X Γ hnl hlY hRT
  refine jq_use2 (P := fun r => jq_RT jq_zX X none none r) ?_ h hRT
  intro K0 hK0
  unfold X10_tellFraction
  refine jq_lload_n Γ dX10_tellFraction_0 rfl 1 rfl ?_
  refine jq_mabsl Γ mw_RX10_456 mws_absl mwi mwc_absl rfl rfl dX10_tellFraction_1 ?_
  refine jq_lload_n Γ dX10_tellFraction_4 rfl 2 rfl ?_
  refine jq_cpL (jq_stat (avs := [jL (jq_labs p1), jL p3]) (st := []) Γ hlY rfl ml_RX10_462 rfl rfl rfl rfl rfl dX10_tellFraction_5) (fun r h => ctX10_commonDivisor h) (fun v1 => ?_)
  refine jq_lstore (L' := [(5, jL v1), (0, jR 0), (1, jL p1), (3, jL p3)]) Γ dX10_tellFraction_8 hnl rfl rfl ?_
  refine jq_lload Γ dX10_tellFraction_10 0 rfl ?_
  refine jq_lconst Γ 0 dX10_tellFraction_12 rfl rfl ?_
  refine jq_lcmp Γ dX10_tellFraction_13 ?_
  refine jq_if_le (tgt := 33) Γ dX10_tellFraction_14 rfl ?_ ?_
  · exact jq_vreturn Γ dX10_tellFraction_33 (hK0 _)
  · refine jq_aload_n Γ dX10_tellFraction_17 rfl 1 rfl (jq_at_0 at_X_0) ?_
    refine jq_lload_n Γ dX10_tellFraction_18 rfl 2 rfl ?_
    refine jq_lload Γ dX10_tellFraction_19 0 rfl ?_
    refine jq_ldivR Γ dX10_tellFraction_21 (fun v2 => ?_)
    refine jq_putL Γ at_X_0 fl_RX10_75 rfl rfl dX10_tellFraction_22 (fun s3 => ?_)
    refine jq_aload_n Γ dX10_tellFraction_25 rfl 1 rfl (jq_at_0 at_X_0) ?_
    refine jq_lload_n Γ dX10_tellFraction_26 rfl 3 rfl ?_
    refine jq_lload Γ dX10_tellFraction_27 0 rfl ?_
    refine jq_ldivR Γ dX10_tellFraction_29 (fun v4 => ?_)
    refine jq_putL Γ at_X_0 fl_RX10_79 rfl rfl dX10_tellFraction_30 (fun s5 => ?_)
    exact jq_vreturn Γ dX10_tellFraction_33 (hK0 _)


theorem dX10_luck_0 : decode cX10_luck 0 = .ok (.aload_n 0, 1) := by decide +kernel
theorem dX10_luck_1 : decode cX10_luck 1 = .ok (.getfield 25, 3) := by decide +kernel
theorem dX10_luck_4 : decode cX10_luck 4 = .ok (.iload_n 1, 1) := by decide +kernel
theorem dX10_luck_5 : decode cX10_luck 5 = .ok (.invokevirtual 242, 3) := by decide +kernel
theorem dX10_luck_8 : decode cX10_luck 8 = .ok (.ifCond .ne 9, 3) := by decide +kernel
theorem dX10_luck_11 : decode cX10_luck 11 = .ok (.aload_n 0, 1) := by decide +kernel
theorem dX10_luck_12 : decode cX10_luck 12 = .ok (.iconst 1, 1) := by decide +kernel
theorem dX10_luck_13 : decode cX10_luck 13 = .ok (.invokevirtual 97, 3) := by decide +kernel
theorem dX10_luck_16 : decode cX10_luck 16 = .ok (.ireturn, 1) := by decide +kernel
theorem dX10_luck_17 : decode cX10_luck 17 = .ok (.aload_n 0, 1) := by decide +kernel
theorem dX10_luck_18 : decode cX10_luck 18 = .ok (.getfield 25, 3) := by decide +kernel
theorem dX10_luck_21 : decode cX10_luck 21 = .ok (.iload_n 1, 1) := by decide +kernel
theorem dX10_luck_22 : decode cX10_luck 22 = .ok (.invokevirtual 385, 3) := by decide +kernel
theorem dX10_luck_25 : decode cX10_luck 25 = .ok (.iconst 1, 1) := by decide +kernel
theorem dX10_luck_26 : decode cX10_luck 26 = .ok (.iload_n 1, 1) := by decide +kernel
theorem dX10_luck_27 : decode cX10_luck 27 = .ok (.ishl, 1) := by decide +kernel
theorem dX10_luck_28 : decode cX10_luck 28 = .ok (.ior, 1) := by decide +kernel
theorem dX10_luck_29 : decode cX10_luck 29 = .ok (.istore_n 2, 1) := by decide +kernel
theorem dX10_luck_30 : decode cX10_luck 30 = .ok (.lconst 1, 1) := by decide +kernel
theorem dX10_luck_31 : decode cX10_luck 31 = .ok (.lstore_n 3, 1) := by decide +kernel
theorem dX10_luck_32 : decode cX10_luck 32 = .ok (.iconst 0, 1) := by decide +kernel
theorem dX10_luck_33 : decode cX10_luck 33 = .ok (.istore 5, 2) := by decide +kernel
theorem dX10_luck_35 : decode cX10_luck 35 = .ok (.iload 5, 2) := by decide +kernel
theorem dX10_luck_37 : decode cX10_luck 37 = .ok (.iload_n 2, 1) := by decide +kernel
theorem dX10_luck_38 : decode cX10_luck 38 = .ok (.invokestatic 300, 3) := by decide +kernel
theorem dX10_luck_41 : decode cX10_luck 41 = .ok (.if_icmp .ge 15, 3) := by decide +kernel
theorem dX10_luck_44 : decode cX10_luck 44 = .ok (.lload_n 3, 1) := by decide +kernel
theorem dX10_luck_45 : decode cX10_luck 45 = .ok (.ldc2_w 406, 3) := by decide +kernel
theorem dX10_luck_48 : decode cX10_luck 48 = .ok (.lmul, 1) := by decide +kernel
theorem dX10_luck_49 : decode cX10_luck 49 = .ok (.lstore_n 3, 1) := by decide +kernel
theorem dX10_luck_50 : decode cX10_luck 50 = .ok (.iinc 5 1, 3) := by decide +kernel
theorem dX10_luck_53 : decode cX10_luck 53 = .ok (.goto (-18), 3) := by decide +kernel
theorem dX10_luck_56 : decode cX10_luck 56 = .ok (.aload_n 0, 1) := by decide +kernel
theorem dX10_luck_57 : decode cX10_luck 57 = .ok (.aload_n 0, 1) := by decide +kernel
theorem dX10_luck_58 : decode cX10_luck 58 = .ok (.getfield 25, 3) := by decide +kernel
theorem dX10_luck_61 : decode cX10_luck 61 = .ok (.iload_n 2, 1) := by decide +kernel
theorem dX10_luck_62 : decode cX10_luck 62 = .ok (.invokestatic 408, 3) := by decide +kernel
theorem dX10_luck_65 : decode cX10_luck 65 = .ok (.lload_n 3, 1) := by decide +kernel
theorem dX10_luck_66 : decode cX10_luck 66 = .ok (.invokevirtual 412, 3) := by decide +kernel
theorem dX10_luck_69 : decode cX10_luck 69 = .ok (.aload_n 0, 1) := by decide +kernel
theorem dX10_luck_70 : decode cX10_luck 70 = .ok (.invokevirtual 104, 3) := by decide +kernel
theorem dX10_luck_73 : decode cX10_luck 73 = .ok (.ireturn, 1) := by decide +kernel
set_option maxHeartbeats 4000000 in
set_option maxRecDepth 100000 in
theorem ctX10_luck {p1 : Int} {σ : jq_M} {res : Int} {σ' : jq_M}  (h : X10_luck p1 σ = some (res, σ')) : jq_MC jq_zX yX10_luck cX10_luck 6 (some .boolean) 3 96 [jR 0, jI p1] σ (some (jI res)) σ' := by
  refine jq_met (own := RX10) (L0 := [(0, jR 0), (1, jI p1)]) (by decide) rfl rfl rfl ?_
  intro X Γ hnl hlY hRT
  refine jq_use2 (P := fun r => jq_RT jq_zX X (some .boolean) (some (jI r.1)) r.2) ?_ h hRT
  intro K0 hK0
  unfold X10_luck
  refine jq_aload_n Γ dX10_luck_0 rfl 0 rfl (jq_at_0 at_X_0) ?_
  refine jq_getC (C := jq_cm2) Γ hlY at_X_0 fl_RX10_25 rfl rfl ly_now dX10_luck_1 (fun c1 hc2q => ?_)
  have hc2 := jq_cm2_com hc2q
  refine jq_iload_n Γ dX10_luck_4 rfl 1 rfl ?_
  refine jq_cpZ (jq_virt (avs := [jI p1]) (st := []) Γ hlY rfl ml_RX10_242 rfl (at_com hc2) rfl rfl rfl rfl rfl dX10_luck_5) rfl (fun r h => ctX1_isArticle hc2 h) (fun v3 hz4 => ?_)
  refine jq_if_ne (tgt := 17) Γ dX10_luck_8 rfl ?_ ?_
  · refine jq_aload_n Γ dX10_luck_17 rfl 0 rfl (jq_at_0 at_X_0) ?_
    refine jq_getC (C := jq_cm2) Γ hlY at_X_0 fl_RX10_25 rfl rfl ly_now dX10_luck_18 (fun c5 hc6q => ?_)
    have hc6 := jq_cm2_com hc6q
    refine jq_iload_n Γ dX10_luck_21 rfl 1 rfl ?_
    refine jq_cpI (jq_virt (avs := [jI p1]) (st := []) Γ hlY rfl ml_RX10_385 rfl (at_com hc6) rfl rfl rfl rfl rfl dX10_luck_22) (fun r h => ctX1_allLeansOf hc6 h) (fun v7 => ?_)
    refine jq_iconst Γ dX10_luck_25 rfl ?_
    refine jq_iload_n Γ dX10_luck_26 rfl 1 rfl ?_
    refine jq_ishl Γ dX10_luck_27 ?_
    refine jq_ior Γ dX10_luck_28 ?_
    refine jq_nmI (fun v8 => ?_)
    refine jq_istore_n (L' := [(2, jI v8), (0, jR 0), (1, jI p1)]) Γ dX10_luck_29 rfl hnl rfl rfl ?_
    refine jq_lconst Γ 1 dX10_luck_30 rfl rfl ?_
    refine jq_lstore_n (L' := [(3, jL 1), (2, jI v8), (0, jR 0), (1, jI p1)]) Γ dX10_luck_31 rfl hnl rfl rfl ?_
    refine jq_iconst Γ dX10_luck_32 rfl ?_
    refine jq_istore (L' := [(5, jI 0), (3, jL 1), (2, jI v8), (0, jR 0), (1, jI p1)]) Γ dX10_luck_33 hnl rfl rfl ?_
    refine jq_sub Γ (L' := [(0, jR 0), (2, jI v8), (3, jL 1), (5, jI 0)]) [3, 2, 1, 0] rfl ?_
    refine jq_loop2 (C := fun (t9 : Int × Int) => jq_V jq_zX X (jq_zN jq_zX) σ 35 [(0, jR 0), (2, jI v8), (3, jL t9.1), (5, jI t9.2)] []) (KX := fun (e13 : Int) => jq_V jq_zX X (jq_zN jq_zX) σ 56 [(0, jR 0), (2, jI v8), (3, jL e13)] []) ?_ ?_ (1, 0)
    · intro K35_t9 hCt9 hXt9 t9
      unfold X10_luck_b35
      refine jq_iload Γ dX10_luck_35 3 rfl ?_
      refine jq_iload_n Γ dX10_luck_37 rfl 1 rfl ?_
      refine jq_cpI (jq_stat (avs := [jI v8]) (st := [jI t9.2]) Γ hlY rfl ml_RX10_300 rfl rfl rfl rfl rfl dX10_luck_38) (fun r h => ctJ6_bitCount_0f7a4 h) (fun v10 => ?_)
      refine jq_icmp_ge (tgt := 56) Γ dX10_luck_41 rfl ?_ ?_
      · refine jq_sub Γ (L' := [(0, jR 0), (2, jI v8), (3, jL t9.1)]) [0, 1, 2] rfl ?_
        exact jq_done (hXt9 t9.1)
      · refine jq_lload_n Γ dX10_luck_44 rfl 2 rfl ?_
        refine jq_ldc2 Γ 16 dX10_luck_45 kc_RX10_406 rfl ?_
        refine jq_lmul Γ dX10_luck_48 ?_
        refine jq_nmL (fun v11 => ?_)
        refine jq_lstore_n (L' := [(3, jL v11), (0, jR 0), (2, jI v8), (5, jI t9.2)]) Γ dX10_luck_49 rfl hnl rfl rfl ?_
        refine jq_iincN (L' := fun v12 => [(5, jI v12), (3, jL v11), (0, jR 0), (2, jI v8)]) Γ dX10_luck_50 3 rfl hnl rfl (fun _ => rfl) (fun v12 => ?_)
        refine jq_goto Γ (tgt := 35) dX10_luck_53 rfl ?_
        refine jq_sub Γ (L' := [(0, jR 0), (2, jI v8), (3, jL v11), (5, jI v12)]) [2, 3, 1, 0] rfl ?_
        exact jq_done (hCt9 (v11, v12))
    · intro e13
      refine jq_aload_n Γ dX10_luck_56 rfl 0 rfl (jq_at_0 at_X_0) ?_
      refine jq_aload_n Γ dX10_luck_57 rfl 0 rfl (jq_at_0 at_X_0) ?_
      refine jq_getC (C := jq_cm2) Γ hlY at_X_0 fl_RX10_25 rfl rfl ly_now dX10_luck_58 (fun c14 hc15q => ?_)
      have hc15 := jq_cm2_com hc15q
      refine jq_iload_n Γ dX10_luck_61 rfl 1 rfl ?_
      refine jq_cpL (jq_stat (avs := [jR c14, jI v8]) (st := [jR 0]) Γ hlY rfl ml_RX10_408 rfl rfl rfl rfl rfl dX10_luck_62) (fun r h => ctX0_oddsOfAll hc15 h) (fun v16 => ?_)
      refine jq_lload_n Γ dX10_luck_65 rfl 2 rfl ?_
      refine jq_cwV (jq_virt (avs := [jL v16, jL e13]) (st := []) Γ hlY rfl ml_RX10_412 rfl at_X_0 rfl rfl rfl rfl rfl dX10_luck_66) (fun σ' h => ctX10_tellFraction h) (fun s17 => ?_)
      refine jq_aload_n Γ dX10_luck_69 rfl 0 rfl (jq_at_0 at_X_0) ?_
      refine jq_cwZ (jq_virt (avs := []) (st := []) Γ hlY rfl ml_RX10_104 rfl at_X_0 rfl rfl rfl rfl rfl dX10_luck_70) rfl (fun r σ' h => ctX10_grant h) (fun v18 s19 hz20 => ?_)
      exact jq_zreturn Γ (hz20) dX10_luck_73 (hK0 _)
  · refine jq_aload_n Γ dX10_luck_11 rfl 0 rfl (jq_at_0 at_X_0) ?_
    refine jq_iconst Γ dX10_luck_12 rfl ?_
    refine jq_cwZ (jq_virt (avs := [jI 1]) (st := []) Γ hlY rfl ml_RX10_97 rfl at_X_0 rfl rfl rfl rfl rfl dX10_luck_13) rfl (fun r σ' h => ctX10_deny h) (fun v21 s22 hz23 => ?_)
    exact jq_zreturn Γ (hz23) dX10_luck_16 (hK0 _)


theorem dX0_weakestOf_0 : decode cX0_weakestOf 0 = .ok (.iconst (-1), 1) := by decide +kernel
theorem dX0_weakestOf_1 : decode cX0_weakestOf 1 = .ok (.istore_n 1, 1) := by decide +kernel
theorem dX0_weakestOf_2 : decode cX0_weakestOf 2 = .ok (.lconst 0, 1) := by decide +kernel
theorem dX0_weakestOf_3 : decode cX0_weakestOf 3 = .ok (.lstore_n 2, 1) := by decide +kernel
theorem dX0_weakestOf_4 : decode cX0_weakestOf 4 = .ok (.iconst 0, 1) := by decide +kernel
theorem dX0_weakestOf_5 : decode cX0_weakestOf 5 = .ok (.istore 4, 2) := by decide +kernel
theorem dX0_weakestOf_7 : decode cX0_weakestOf 7 = .ok (.iload 4, 2) := by decide +kernel
theorem dX0_weakestOf_9 : decode cX0_weakestOf 9 = .ok (.aload_n 0, 1) := by decide +kernel
theorem dX0_weakestOf_10 : decode cX0_weakestOf 10 = .ok (.getfield 18, 3) := by decide +kernel
theorem dX0_weakestOf_13 : decode cX0_weakestOf 13 = .ok (.if_icmp .ge 78, 3) := by decide +kernel
theorem dX0_weakestOf_16 : decode cX0_weakestOf 16 = .ok (.aload_n 0, 1) := by decide +kernel
theorem dX0_weakestOf_17 : decode cX0_weakestOf 17 = .ok (.iload 4, 2) := by decide +kernel
theorem dX0_weakestOf_19 : decode cX0_weakestOf 19 = .ok (.invokevirtual 69, 3) := by decide +kernel
theorem dX0_weakestOf_22 : decode cX0_weakestOf 22 = .ok (.iconst 1, 1) := by decide +kernel
theorem dX0_weakestOf_23 : decode cX0_weakestOf 23 = .ok (.iload 4, 2) := by decide +kernel
theorem dX0_weakestOf_25 : decode cX0_weakestOf 25 = .ok (.ishl, 1) := by decide +kernel
theorem dX0_weakestOf_26 : decode cX0_weakestOf 26 = .ok (.ior, 1) := by decide +kernel
theorem dX0_weakestOf_27 : decode cX0_weakestOf 27 = .ok (.istore 5, 2) := by decide +kernel
theorem dX0_weakestOf_29 : decode cX0_weakestOf 29 = .ok (.aload_n 0, 1) := by decide +kernel
theorem dX0_weakestOf_30 : decode cX0_weakestOf 30 = .ok (.iload 5, 2) := by decide +kernel
theorem dX0_weakestOf_32 : decode cX0_weakestOf 32 = .ok (.invokestatic 72, 3) := by decide +kernel
theorem dX0_weakestOf_35 : decode cX0_weakestOf 35 = .ok (.lstore 6, 2) := by decide +kernel
theorem dX0_weakestOf_37 : decode cX0_weakestOf 37 = .ok (.iload 5, 2) := by decide +kernel
theorem dX0_weakestOf_39 : decode cX0_weakestOf 39 = .ok (.invokestatic 28, 3) := by decide +kernel
theorem dX0_weakestOf_42 : decode cX0_weakestOf 42 = .ok (.istore 8, 2) := by decide +kernel
theorem dX0_weakestOf_44 : decode cX0_weakestOf 44 = .ok (.iload 8, 2) := by decide +kernel
theorem dX0_weakestOf_46 : decode cX0_weakestOf 46 = .ok (.aload_n 0, 1) := by decide +kernel
theorem dX0_weakestOf_47 : decode cX0_weakestOf 47 = .ok (.getfield 18, 3) := by decide +kernel
theorem dX0_weakestOf_50 : decode cX0_weakestOf 50 = .ok (.if_icmp .ge 17, 3) := by decide +kernel
theorem dX0_weakestOf_53 : decode cX0_weakestOf 53 = .ok (.lload 6, 2) := by decide +kernel
theorem dX0_weakestOf_55 : decode cX0_weakestOf 55 = .ok (.ldc2_w 76, 3) := by decide +kernel
theorem dX0_weakestOf_58 : decode cX0_weakestOf 58 = .ok (.lmul, 1) := by decide +kernel
theorem dX0_weakestOf_59 : decode cX0_weakestOf 59 = .ok (.lstore 6, 2) := by decide +kernel
theorem dX0_weakestOf_61 : decode cX0_weakestOf 61 = .ok (.iinc 8 1, 3) := by decide +kernel
theorem dX0_weakestOf_64 : decode cX0_weakestOf 64 = .ok (.goto (-20), 3) := by decide +kernel
theorem dX0_weakestOf_67 : decode cX0_weakestOf 67 = .ok (.iload_n 1, 1) := by decide +kernel
theorem dX0_weakestOf_68 : decode cX0_weakestOf 68 = .ok (.iconst (-1), 1) := by decide +kernel
theorem dX0_weakestOf_69 : decode cX0_weakestOf 69 = .ok (.if_icmp .eq 10, 3) := by decide +kernel
theorem dX0_weakestOf_72 : decode cX0_weakestOf 72 = .ok (.lload 6, 2) := by decide +kernel
theorem dX0_weakestOf_74 : decode cX0_weakestOf 74 = .ok (.lload_n 2, 1) := by decide +kernel
theorem dX0_weakestOf_75 : decode cX0_weakestOf 75 = .ok (.lcmp, 1) := by decide +kernel
theorem dX0_weakestOf_76 : decode cX0_weakestOf 76 = .ok (.ifCond .ge 9, 3) := by decide +kernel
theorem dX0_weakestOf_79 : decode cX0_weakestOf 79 = .ok (.lload 6, 2) := by decide +kernel
theorem dX0_weakestOf_81 : decode cX0_weakestOf 81 = .ok (.lstore_n 2, 1) := by decide +kernel
theorem dX0_weakestOf_82 : decode cX0_weakestOf 82 = .ok (.iload 4, 2) := by decide +kernel
theorem dX0_weakestOf_84 : decode cX0_weakestOf 84 = .ok (.istore_n 1, 1) := by decide +kernel
theorem dX0_weakestOf_85 : decode cX0_weakestOf 85 = .ok (.iinc 4 1, 3) := by decide +kernel
theorem dX0_weakestOf_88 : decode cX0_weakestOf 88 = .ok (.goto (-81), 3) := by decide +kernel
theorem dX0_weakestOf_91 : decode cX0_weakestOf 91 = .ok (.iload_n 1, 1) := by decide +kernel
theorem dX0_weakestOf_92 : decode cX0_weakestOf 92 = .ok (.ireturn, 1) := by decide +kernel
set_option maxHeartbeats 4000000 in
set_option maxRecDepth 100000 in
theorem ctX0_weakestOf {p0 : Int} {σ : jq_M} {res : Int} (hp0 : jq_com p0) (h : X0_weakestOf p0 σ = some res) : jq_MC jq_zX yX0_weakestOf cX0_weakestOf 9 (some .int) 3 85 [jR p0] σ (some (jI res)) σ := by
  refine jq_met (own := RX0) (L0 := [(0, jR p0)]) (by decide) rfl rfl rfl ?_
  intro X Γ hnl hlY hRT
  refine jq_use2 (P := fun r => jq_RT jq_zX X (some .int) (some (jI r)) σ) ?_ h hRT
  intro K0 hK0
  unfold X0_weakestOf
  refine jq_iconst Γ dX0_weakestOf_0 rfl ?_
  refine jq_istore_n (L' := [(1, jI (-1)), (0, jR p0)]) Γ dX0_weakestOf_1 rfl hnl rfl rfl ?_
  refine jq_lconst Γ 0 dX0_weakestOf_2 rfl rfl ?_
  refine jq_lstore_n (L' := [(2, jL 0), (1, jI (-1)), (0, jR p0)]) Γ dX0_weakestOf_3 rfl hnl rfl rfl ?_
  refine jq_iconst Γ dX0_weakestOf_4 rfl ?_
  refine jq_istore (L' := [(4, jI 0), (2, jL 0), (1, jI (-1)), (0, jR p0)]) Γ dX0_weakestOf_5 hnl rfl rfl ?_
  refine jq_sub Γ (L' := [(0, jR p0), (1, jI (-1)), (2, jL 0), (4, jI 0)]) [3, 2, 1, 0] rfl ?_
  refine jq_loop2 (C := fun (t1 : Int × Int × Int) => jq_V jq_zX X (jq_zN jq_zX) σ 7 [(0, jR p0), (1, jI t1.1), (2, jL t1.2.1), (4, jI t1.2.2)] []) (KX := fun (e13 : Int) => jq_V jq_zX X (jq_zN jq_zX) σ 91 [(1, jI e13)] []) ?_ ?_ ((-1), 0, 0)
  · intro K7_t1 hCt1 hXt1 t1
    unfold X0_weakestOf_b7
    refine jq_iload Γ dX0_weakestOf_7 3 rfl ?_
    refine jq_aload_n Γ dX0_weakestOf_9 rfl 0 rfl (jq_at_0 (at_com hp0)) ?_
    refine jq_getI (J := 4) Γ (at_com hp0) fl_RX0_18 rfl rfl dX0_weakestOf_10 ?_
    refine jq_icmp_ge (tgt := 91) Γ dX0_weakestOf_13 rfl ?_ ?_
    · refine jq_sub Γ (L' := [(1, jI t1.1)]) [1] rfl ?_
      exact jq_done (hXt1 t1.1)
    · refine jq_aload_n Γ dX0_weakestOf_16 rfl 0 rfl (jq_at_0 (at_com hp0)) ?_
      refine jq_iload Γ dX0_weakestOf_17 3 rfl ?_
      refine jq_cpI (jq_virt (avs := [jI t1.2.2]) (st := []) Γ hlY rfl ml_RX0_69 rfl (at_com hp0) rfl rfl rfl rfl rfl dX0_weakestOf_19) (fun r h => ctX1_allLeansOf hp0 h) (fun v2 => ?_)
      refine jq_iconst Γ dX0_weakestOf_22 rfl ?_
      refine jq_iload Γ dX0_weakestOf_23 3 rfl ?_
      refine jq_ishl Γ dX0_weakestOf_25 ?_
      refine jq_ior Γ dX0_weakestOf_26 ?_
      refine jq_nmI (fun v3 => ?_)
      refine jq_istore (L' := [(5, jI v3), (0, jR p0), (1, jI t1.1), (2, jL t1.2.1), (4, jI t1.2.2)]) Γ dX0_weakestOf_27 hnl rfl rfl ?_
      refine jq_aload_n Γ dX0_weakestOf_29 rfl 1 rfl (jq_at_0 (at_com hp0)) ?_
      refine jq_iload Γ dX0_weakestOf_30 0 rfl ?_
      refine jq_cpL (jq_stat (avs := [jR p0, jI v3]) (st := []) Γ hlY rfl ml_RX0_72 rfl rfl rfl rfl rfl dX0_weakestOf_32) (fun r h => ctX0_oddsOfAll hp0 h) (fun v4 => ?_)
      refine jq_lstore (L' := [(6, jL v4), (5, jI v3), (0, jR p0), (1, jI t1.1), (2, jL t1.2.1), (4, jI t1.2.2)]) Γ dX0_weakestOf_35 hnl rfl rfl ?_
      refine jq_iload Γ dX0_weakestOf_37 1 rfl ?_
      refine jq_cpI (jq_stat (avs := [jI v3]) (st := []) Γ hlY rfl ml_RX0_28 rfl rfl rfl rfl rfl dX0_weakestOf_39) (fun r h => ctJ6_bitCount_0f7a4 h) (fun v5 => ?_)
      refine jq_istore (L' := [(8, jI v5), (6, jL v4), (5, jI v3), (0, jR p0), (1, jI t1.1), (2, jL t1.2.1), (4, jI t1.2.2)]) Γ dX0_weakestOf_42 hnl rfl rfl ?_
      refine jq_sub Γ (L' := [(0, jR p0), (1, jI t1.1), (2, jL t1.2.1), (4, jI t1.2.2), (6, jL v4), (8, jI v5)]) [3, 4, 5, 6, 1, 0] rfl ?_
      refine jq_loop2 (C := fun (t6 : Int × Int) => jq_V jq_zX X (jq_zN jq_zX) σ 44 [(0, jR p0), (1, jI t1.1), (2, jL t1.2.1), (4, jI t1.2.2), (6, jL t6.1), (8, jI t6.2)] []) (KX := fun (e9 : Int) => jq_V jq_zX X (jq_zN jq_zX) σ 67 [(0, jR p0), (1, jI t1.1), (2, jL t1.2.1), (4, jI t1.2.2), (6, jL e9)] []) ?_ ?_ (v4, v5)
      · intro K44_t6 hCt6 hXt6 t6
        unfold X0_weakestOf_b44
        refine jq_iload Γ dX0_weakestOf_44 5 rfl ?_
        refine jq_aload_n Γ dX0_weakestOf_46 rfl 0 rfl (jq_at_0 (at_com hp0)) ?_
        refine jq_getI (J := 4) Γ (at_com hp0) fl_RX0_18 rfl rfl dX0_weakestOf_47 ?_
        refine jq_icmp_ge (tgt := 67) Γ dX0_weakestOf_50 rfl ?_ ?_
        · refine jq_sub Γ (L' := [(0, jR p0), (1, jI t1.1), (2, jL t1.2.1), (4, jI t1.2.2), (6, jL t6.1)]) [0, 1, 2, 3, 4] rfl ?_
          exact jq_done (hXt6 t6.1)
        · refine jq_lload Γ dX0_weakestOf_53 4 rfl ?_
          refine jq_ldc2 Γ 16 dX0_weakestOf_55 kc_RX0_76 rfl ?_
          refine jq_lmul Γ dX0_weakestOf_58 ?_
          refine jq_nmL (fun v7 => ?_)
          refine jq_lstore (L' := [(6, jL v7), (0, jR p0), (1, jI t1.1), (2, jL t1.2.1), (4, jI t1.2.2), (8, jI t6.2)]) Γ dX0_weakestOf_59 hnl rfl rfl ?_
          refine jq_iincN (L' := fun v8 => [(8, jI v8), (6, jL v7), (0, jR p0), (1, jI t1.1), (2, jL t1.2.1), (4, jI t1.2.2)]) Γ dX0_weakestOf_61 5 rfl hnl rfl (fun _ => rfl) (fun v8 => ?_)
          refine jq_goto Γ (tgt := 44) dX0_weakestOf_64 rfl ?_
          refine jq_sub Γ (L' := [(0, jR p0), (1, jI t1.1), (2, jL t1.2.1), (4, jI t1.2.2), (6, jL v7), (8, jI v8)]) [2, 3, 4, 5, 1, 0] rfl ?_
          exact jq_done (hCt6 (v7, v8))
      · intro e9
        refine jq_iload_n Γ dX0_weakestOf_67 rfl 1 rfl ?_
        refine jq_iconst Γ dX0_weakestOf_68 rfl ?_
        refine jq_icmp_eq (tgt := 79) Γ dX0_weakestOf_69 rfl ?_ ?_
        · refine jq_lload Γ dX0_weakestOf_79 4 rfl ?_
          refine jq_lstore_n (L' := [(2, jL e9), (0, jR p0), (1, jI t1.1), (4, jI t1.2.2), (6, jL e9)]) Γ dX0_weakestOf_81 rfl hnl rfl rfl ?_
          refine jq_iload Γ dX0_weakestOf_82 3 rfl ?_
          refine jq_istore_n (L' := [(1, jI t1.2.2), (2, jL e9), (0, jR p0), (4, jI t1.2.2), (6, jL e9)]) Γ dX0_weakestOf_84 rfl hnl rfl rfl ?_
          refine jq_iincN (L' := fun v10 => [(4, jI v10), (1, jI t1.2.2), (2, jL e9), (0, jR p0), (6, jL e9)]) Γ dX0_weakestOf_85 3 rfl hnl rfl (fun _ => rfl) (fun v10 => ?_)
          refine jq_goto Γ (tgt := 7) dX0_weakestOf_88 rfl ?_
          refine jq_sub Γ (L' := [(0, jR p0), (1, jI t1.2.2), (2, jL e9), (4, jI v10)]) [3, 1, 2, 0] rfl ?_
          exact jq_done (hCt1 (t1.2.2, e9, v10))
        · refine jq_lload Γ dX0_weakestOf_72 4 rfl ?_
          refine jq_lload_n Γ dX0_weakestOf_74 rfl 2 rfl ?_
          refine jq_lcmp Γ dX0_weakestOf_75 ?_
          refine jq_if_ge (tgt := 85) Γ dX0_weakestOf_76 rfl ?_ ?_
          · refine jq_iincN (L' := fun v11 => [(4, jI v11), (0, jR p0), (1, jI t1.1), (2, jL t1.2.1), (6, jL e9)]) Γ dX0_weakestOf_85 3 rfl hnl rfl (fun _ => rfl) (fun v11 => ?_)
            refine jq_goto Γ (tgt := 7) dX0_weakestOf_88 rfl ?_
            refine jq_sub Γ (L' := [(0, jR p0), (1, jI t1.1), (2, jL t1.2.1), (4, jI v11)]) [1, 2, 3, 0] rfl ?_
            exact jq_done (hCt1 (t1.1, t1.2.1, v11))
          · refine jq_lload Γ dX0_weakestOf_79 4 rfl ?_
            refine jq_lstore_n (L' := [(2, jL e9), (0, jR p0), (1, jI t1.1), (4, jI t1.2.2), (6, jL e9)]) Γ dX0_weakestOf_81 rfl hnl rfl rfl ?_
            refine jq_iload Γ dX0_weakestOf_82 3 rfl ?_
            refine jq_istore_n (L' := [(1, jI t1.2.2), (2, jL e9), (0, jR p0), (4, jI t1.2.2), (6, jL e9)]) Γ dX0_weakestOf_84 rfl hnl rfl rfl ?_
            refine jq_iincN (L' := fun v12 => [(4, jI v12), (1, jI t1.2.2), (2, jL e9), (0, jR p0), (6, jL e9)]) Γ dX0_weakestOf_85 3 rfl hnl rfl (fun _ => rfl) (fun v12 => ?_)
            refine jq_goto Γ (tgt := 7) dX0_weakestOf_88 rfl ?_
            refine jq_sub Γ (L' := [(0, jR p0), (1, jI t1.2.2), (2, jL e9), (4, jI v12)]) [3, 1, 2, 0] rfl ?_
            exact jq_done (hCt1 (t1.2.2, e9, v12))
  · intro e13
    refine jq_iload_n Γ dX0_weakestOf_91 rfl 0 rfl ?_
    exact jq_ireturn Γ dX0_weakestOf_92 (hK0 _)


theorem dX10_weakest_0 : decode cX10_weakest 0 = .ok (.aload_n 0, 1) := by decide +kernel
theorem dX10_weakest_1 : decode cX10_weakest 1 = .ok (.aload_n 0, 1) := by decide +kernel
theorem dX10_weakest_2 : decode cX10_weakest 2 = .ok (.getfield 25, 3) := by decide +kernel
theorem dX10_weakest_5 : decode cX10_weakest 5 = .ok (.invokestatic 416, 3) := by decide +kernel
theorem dX10_weakest_8 : decode cX10_weakest 8 = .ok (.invokevirtual 218, 3) := by decide +kernel
theorem dX10_weakest_11 : decode cX10_weakest 11 = .ok (.ireturn, 1) := by decide +kernel
set_option maxHeartbeats 4000000 in
set_option maxRecDepth 100000 in
theorem ctX10_weakest  {σ : jq_M} {res : Int} {σ' : jq_M}  (h : X10_weakest σ = some (res, σ')) : jq_MC jq_zX yX10_weakest cX10_weakest 1 (some .int) 4 113 [jR 0] σ (some (jI res)) σ' := by
  refine jq_met (own := RX10) (L0 := [(0, jR 0)]) (by decide) rfl rfl rfl ?_
  intro X Γ hnl hlY hRT
  refine jq_use2 (P := fun r => jq_RT jq_zX X (some .int) (some (jI r.1)) r.2) ?_ h hRT
  intro K0 hK0
  unfold X10_weakest
  refine jq_aload_n Γ dX10_weakest_0 rfl 0 rfl (jq_at_0 at_X_0) ?_
  refine jq_aload_n Γ dX10_weakest_1 rfl 0 rfl (jq_at_0 at_X_0) ?_
  refine jq_getC (C := jq_cm2) Γ hlY at_X_0 fl_RX10_25 rfl rfl ly_now dX10_weakest_2 (fun c1 hc2q => ?_)
  have hc2 := jq_cm2_com hc2q
  refine jq_cpI (jq_stat (avs := [jR c1]) (st := [jR 0]) Γ hlY rfl ml_RX10_416 rfl rfl rfl rfl rfl dX10_weakest_5) (fun r h => ctX0_weakestOf hc2 h) (fun v3 => ?_)
  refine jq_cwI (jq_virt (avs := [jI v3]) (st := []) Γ hlY rfl ml_RX10_218 rfl at_X_0 rfl rfl rfl rfl rfl dX10_weakest_8) (fun r σ' h => ctX10_answerOrNone h) (fun v4 s5 => ?_)
  exact jq_ireturn Γ dX10_weakest_11 (hK0 _)


theorem dX10_whyNoSeatsIn_0 : decode cX10_whyNoSeatsIn 0 = .ok (.aload_n 0, 1) := by decide +kernel
theorem dX10_whyNoSeatsIn_1 : decode cX10_whyNoSeatsIn 1 = .ok (.iload_n 1, 1) := by decide +kernel
theorem dX10_whyNoSeatsIn_2 : decode cX10_whyNoSeatsIn 2 = .ok (.invokevirtual 108, 3) := by decide +kernel
theorem dX10_whyNoSeatsIn_5 : decode cX10_whyNoSeatsIn 5 = .ok (.istore_n 2, 1) := by decide +kernel
theorem dX10_whyNoSeatsIn_6 : decode cX10_whyNoSeatsIn 6 = .ok (.iload_n 2, 1) := by decide +kernel
theorem dX10_whyNoSeatsIn_7 : decode cX10_whyNoSeatsIn 7 = .ok (.ifCond .ne 25, 3) := by decide +kernel
theorem dX10_whyNoSeatsIn_10 : decode cX10_whyNoSeatsIn 10 = .ok (.aload_n 0, 1) := by decide +kernel
theorem dX10_whyNoSeatsIn_11 : decode cX10_whyNoSeatsIn 11 = .ok (.getfield 11, 3) := by decide +kernel
theorem dX10_whyNoSeatsIn_14 : decode cX10_whyNoSeatsIn 14 = .ok (.iload_n 1, 1) := by decide +kernel
theorem dX10_whyNoSeatsIn_15 : decode cX10_whyNoSeatsIn 15 = .ok (.aaload, 1) := by decide +kernel
theorem dX10_whyNoSeatsIn_16 : decode cX10_whyNoSeatsIn 16 = .ok (.iconst 0, 1) := by decide +kernel
theorem dX10_whyNoSeatsIn_17 : decode cX10_whyNoSeatsIn 17 = .ok (.aload_n 0, 1) := by decide +kernel
theorem dX10_whyNoSeatsIn_18 : decode cX10_whyNoSeatsIn 18 = .ok (.getfield 25, 3) := by decide +kernel
theorem dX10_whyNoSeatsIn_21 : decode cX10_whyNoSeatsIn 21 = .ok (.getfield 182, 3) := by decide +kernel
theorem dX10_whyNoSeatsIn_24 : decode cX10_whyNoSeatsIn 24 = .ok (.invokevirtual 112, 3) := by decide +kernel
theorem dX10_whyNoSeatsIn_27 : decode cX10_whyNoSeatsIn 27 = .ok (.ifCond .ne 5, 3) := by decide +kernel
theorem dX10_whyNoSeatsIn_30 : decode cX10_whyNoSeatsIn 30 = .ok (.iconst 3, 1) := by decide +kernel
theorem dX10_whyNoSeatsIn_31 : decode cX10_whyNoSeatsIn 31 = .ok (.ireturn, 1) := by decide +kernel
theorem dX10_whyNoSeatsIn_32 : decode cX10_whyNoSeatsIn 32 = .ok (.iload_n 2, 1) := by decide +kernel
theorem dX10_whyNoSeatsIn_33 : decode cX10_whyNoSeatsIn 33 = .ok (.ireturn, 1) := by decide +kernel
set_option maxHeartbeats 4000000 in
set_option maxRecDepth 100000 in
theorem ctX10_whyNoSeatsIn {p1 : Int} {σ : jq_M} {res : Int}  (h : X10_whyNoSeatsIn p1 σ = some res) : jq_MC jq_zX yX10_whyNoSeatsIn cX10_whyNoSeatsIn 3 (some .int) 4 103 [jR 0, jI p1] σ (some (jI res)) σ := by
  refine jq_met (own := RX10) (L0 := [(0, jR 0), (1, jI p1)]) (by decide) rfl rfl rfl ?_
  intro X Γ hnl hlY hRT
  refine jq_use2 (P := fun r => jq_RT jq_zX X (some .int) (some (jI r)) σ) ?_ h hRT
  intro K0 hK0
  unfold X10_whyNoSeatsIn
  refine jq_aload_n Γ dX10_whyNoSeatsIn_0 rfl 0 rfl (jq_at_0 at_X_0) ?_
  refine jq_iload_n Γ dX10_whyNoSeatsIn_1 rfl 1 rfl ?_
  refine jq_cpI (jq_virt (avs := [jI p1]) (st := []) Γ hlY rfl ml_RX10_108 rfl at_X_0 rfl rfl rfl rfl rfl dX10_whyNoSeatsIn_2) (fun r h => ctX10_whyNoTray h) (fun v1 => ?_)
  refine jq_istore_n (L' := [(2, jI v1), (0, jR 0), (1, jI p1)]) Γ dX10_whyNoSeatsIn_5 rfl hnl rfl rfl ?_
  refine jq_iload_n Γ dX10_whyNoSeatsIn_6 rfl 0 rfl ?_
  refine jq_if_ne (tgt := 32) Γ dX10_whyNoSeatsIn_7 rfl ?_ ?_
  · refine jq_iload_n Γ dX10_whyNoSeatsIn_32 rfl 0 rfl ?_
    exact jq_ireturn Γ dX10_whyNoSeatsIn_33 (hK0 _)
  · refine jq_aload_n Γ dX10_whyNoSeatsIn_10 rfl 1 rfl (jq_at_0 at_X_0) ?_
    refine jq_getR (v := 1) Γ hlY at_X_0 fl_RX10_11 rfl rfl ly_X10_trays dX10_whyNoSeatsIn_11 ?_
    refine jq_iload_n Γ dX10_whyNoSeatsIn_14 rfl 2 rfl ?_
    refine jq_aald3 Γ hlY at_X_1 rfl (fun i => 64 + 2 * i) ly_trays_at dX10_whyNoSeatsIn_15 (fun i2 ha3 hb4 => ?_)
    refine jq_iconst Γ dX10_whyNoSeatsIn_16 rfl ?_
    refine jq_aload_n Γ dX10_whyNoSeatsIn_17 rfl 1 rfl (jq_at_0 at_X_0) ?_
    refine jq_getC (C := jq_cm2) Γ hlY at_X_0 fl_RX10_25 rfl rfl ly_now dX10_whyNoSeatsIn_18 (fun c5 hc6q => ?_)
    have hc6 := jq_cm2_com hc6q
    refine jq_getI (J := 2) Γ (at_com hc6) fl_RX10_182 rfl rfl dX10_whyNoSeatsIn_21 ?_
    refine jq_cpZ (jq_virt (avs := [jI 0, jI (σ c5 2)]) (st := []) Γ hlY rfl ml_RX10_112 rfl (at_trp (trp_i ha3 hb4)) rfl rfl rfl rfl rfl dX10_whyNoSeatsIn_24) rfl (fun r h => ctX9_spans (trp_i ha3 hb4) h) (fun v7 hz8 => ?_)
    refine jq_if_ne (tgt := 32) Γ dX10_whyNoSeatsIn_27 rfl ?_ ?_
    · refine jq_iload_n Γ dX10_whyNoSeatsIn_32 rfl 0 rfl ?_
      exact jq_ireturn Γ dX10_whyNoSeatsIn_33 (hK0 _)
    · refine jq_iconst Γ dX10_whyNoSeatsIn_30 rfl ?_
      exact jq_ireturn Γ dX10_whyNoSeatsIn_31 (hK0 _)


theorem dX10_copySeats_0 : decode cX10_copySeats 0 = .ok (.aload_n 0, 1) := by decide +kernel
theorem dX10_copySeats_1 : decode cX10_copySeats 1 = .ok (.iload_n 1, 1) := by decide +kernel
theorem dX10_copySeats_2 : decode cX10_copySeats 2 = .ok (.invokevirtual 419, 3) := by decide +kernel
theorem dX10_copySeats_5 : decode cX10_copySeats 5 = .ok (.istore_n 2, 1) := by decide +kernel
theorem dX10_copySeats_6 : decode cX10_copySeats 6 = .ok (.iload_n 2, 1) := by decide +kernel
theorem dX10_copySeats_7 : decode cX10_copySeats 7 = .ok (.ifCond .eq 9, 3) := by decide +kernel
theorem dX10_copySeats_10 : decode cX10_copySeats 10 = .ok (.aload_n 0, 1) := by decide +kernel
theorem dX10_copySeats_11 : decode cX10_copySeats 11 = .ok (.iload_n 2, 1) := by decide +kernel
theorem dX10_copySeats_12 : decode cX10_copySeats 12 = .ok (.invokevirtual 120, 3) := by decide +kernel
theorem dX10_copySeats_15 : decode cX10_copySeats 15 = .ok (.ireturn, 1) := by decide +kernel
theorem dX10_copySeats_16 : decode cX10_copySeats 16 = .ok (.iconst 0, 1) := by decide +kernel
theorem dX10_copySeats_17 : decode cX10_copySeats 17 = .ok (.istore_n 3, 1) := by decide +kernel
theorem dX10_copySeats_18 : decode cX10_copySeats 18 = .ok (.iload_n 3, 1) := by decide +kernel
theorem dX10_copySeats_19 : decode cX10_copySeats 19 = .ok (.aload_n 0, 1) := by decide +kernel
theorem dX10_copySeats_20 : decode cX10_copySeats 20 = .ok (.getfield 25, 3) := by decide +kernel
theorem dX10_copySeats_23 : decode cX10_copySeats 23 = .ok (.getfield 182, 3) := by decide +kernel
theorem dX10_copySeats_26 : decode cX10_copySeats 26 = .ok (.if_icmp .ge 29, 3) := by decide +kernel
theorem dX10_copySeats_29 : decode cX10_copySeats 29 = .ok (.aload_n 0, 1) := by decide +kernel
theorem dX10_copySeats_30 : decode cX10_copySeats 30 = .ok (.getfield 11, 3) := by decide +kernel
theorem dX10_copySeats_33 : decode cX10_copySeats 33 = .ok (.iload_n 1, 1) := by decide +kernel
theorem dX10_copySeats_34 : decode cX10_copySeats 34 = .ok (.aaload, 1) := by decide +kernel
theorem dX10_copySeats_35 : decode cX10_copySeats 35 = .ok (.iload_n 3, 1) := by decide +kernel
theorem dX10_copySeats_36 : decode cX10_copySeats 36 = .ok (.aload_n 0, 1) := by decide +kernel
theorem dX10_copySeats_37 : decode cX10_copySeats 37 = .ok (.getfield 25, 3) := by decide +kernel
theorem dX10_copySeats_40 : decode cX10_copySeats 40 = .ok (.getfield 194, 3) := by decide +kernel
theorem dX10_copySeats_43 : decode cX10_copySeats 43 = .ok (.iload_n 3, 1) := by decide +kernel
theorem dX10_copySeats_44 : decode cX10_copySeats 44 = .ok (.iaload, 1) := by decide +kernel
theorem dX10_copySeats_45 : decode cX10_copySeats 45 = .ok (.i2l, 1) := by decide +kernel
theorem dX10_copySeats_46 : decode cX10_copySeats 46 = .ok (.invokevirtual 116, 3) := by decide +kernel
theorem dX10_copySeats_49 : decode cX10_copySeats 49 = .ok (.iinc 3 1, 3) := by decide +kernel
theorem dX10_copySeats_52 : decode cX10_copySeats 52 = .ok (.goto (-34), 3) := by decide +kernel
theorem dX10_copySeats_55 : decode cX10_copySeats 55 = .ok (.aload_n 0, 1) := by decide +kernel
theorem dX10_copySeats_56 : decode cX10_copySeats 56 = .ok (.aload_n 0, 1) := by decide +kernel
theorem dX10_copySeats_57 : decode cX10_copySeats 57 = .ok (.getfield 25, 3) := by decide +kernel
theorem dX10_copySeats_60 : decode cX10_copySeats 60 = .ok (.getfield 182, 3) := by decide +kernel
theorem dX10_copySeats_63 : decode cX10_copySeats 63 = .ok (.invokevirtual 161, 3) := by decide +kernel
theorem dX10_copySeats_66 : decode cX10_copySeats 66 = .ok (.ireturn, 1) := by decide +kernel
set_option maxHeartbeats 4000000 in
set_option maxRecDepth 100000 in
theorem ctX10_copySeats {p1 : Int} {σ : jq_M} {res : Int} {σ' : jq_M}  (h : X10_copySeats p1 σ = some (res, σ')) : jq_MC jq_zX yX10_copySeats cX10_copySeats 4 (some .int) 5 125 [jR 0, jI p1] σ (some (jI res)) σ' := by
  refine jq_met (own := RX10) (L0 := [(0, jR 0), (1, jI p1)]) (by decide) rfl rfl rfl ?_
  intro X Γ hnl hlY hRT
  refine jq_use2 (P := fun r => jq_RT jq_zX X (some .int) (some (jI r.1)) r.2) ?_ h hRT
  intro K0 hK0
  unfold X10_copySeats
  refine jq_aload_n Γ dX10_copySeats_0 rfl 0 rfl (jq_at_0 at_X_0) ?_
  refine jq_iload_n Γ dX10_copySeats_1 rfl 1 rfl ?_
  refine jq_cpI (jq_virt (avs := [jI p1]) (st := []) Γ hlY rfl ml_RX10_419 rfl at_X_0 rfl rfl rfl rfl rfl dX10_copySeats_2) (fun r h => ctX10_whyNoSeatsIn h) (fun v1 => ?_)
  refine jq_istore_n (L' := [(2, jI v1), (0, jR 0), (1, jI p1)]) Γ dX10_copySeats_5 rfl hnl rfl rfl ?_
  refine jq_iload_n Γ dX10_copySeats_6 rfl 0 rfl ?_
  refine jq_if_eq (tgt := 16) Γ dX10_copySeats_7 rfl ?_ ?_
  · refine jq_iconst Γ dX10_copySeats_16 rfl ?_
    refine jq_istore_n (L' := [(3, jI 0), (2, jI v1), (0, jR 0), (1, jI p1)]) Γ dX10_copySeats_17 rfl hnl rfl rfl ?_
    refine jq_sub Γ (L' := [(0, jR 0), (1, jI p1), (3, jI 0)]) [2, 3, 0] rfl ?_
    refine jq_loop2 (C := fun (t2 : Int × jq_M) => jq_V jq_zX X (jq_zN jq_zX) t2.2 18 [(0, jR 0), (1, jI p1), (3, jI t2.1)] []) (KX := fun (e13 : jq_M) => jq_V jq_zX X (jq_zN jq_zX) e13 55 [(0, jR 0)] []) ?_ ?_ (0, σ)
    · intro K18_t2 hCt2 hXt2 t2
      unfold X10_copySeats_b18
      refine jq_iload_n Γ dX10_copySeats_18 rfl 2 rfl ?_
      refine jq_aload_n Γ dX10_copySeats_19 rfl 0 rfl (jq_at_0 at_X_0) ?_
      refine jq_getC (C := jq_cm2) Γ hlY at_X_0 fl_RX10_25 rfl rfl ly_now dX10_copySeats_20 (fun c3 hc4q => ?_)
      have hc4 := jq_cm2_com hc4q
      refine jq_getI (J := 2) Γ (at_com hc4) fl_RX10_182 rfl rfl dX10_copySeats_23 ?_
      refine jq_icmp_ge (tgt := 55) Γ dX10_copySeats_26 rfl ?_ ?_
      · refine jq_sub Γ (L' := [(0, jR 0)]) [0] rfl ?_
        exact jq_done (hXt2 t2.2)
      · refine jq_aload_n Γ dX10_copySeats_29 rfl 0 rfl (jq_at_0 at_X_0) ?_
        refine jq_getR (v := 1) Γ hlY at_X_0 fl_RX10_11 rfl rfl ly_X10_trays dX10_copySeats_30 ?_
        refine jq_iload_n Γ dX10_copySeats_33 rfl 1 rfl ?_
        refine jq_aald3 Γ hlY at_X_1 rfl (fun i => 64 + 2 * i) ly_trays_at dX10_copySeats_34 (fun i5 ha6 hb7 => ?_)
        refine jq_iload_n Γ dX10_copySeats_35 rfl 2 rfl ?_
        refine jq_aload_n Γ dX10_copySeats_36 rfl 0 rfl (jq_at_0 at_X_0) ?_
        refine jq_getC (C := jq_cm2) Γ hlY at_X_0 fl_RX10_25 rfl rfl ly_now dX10_copySeats_37 (fun c8 hc9q => ?_)
        have hc9 := jq_cm2_com hc9q
        refine jq_getR (v := (c8 + 3)) Γ hlY (at_com hc9) fl_RX10_194 rfl rfl (ly_X1_seats hc9) dX10_copySeats_40 ?_
        refine jq_iload_n Γ dX10_copySeats_43 rfl 2 rfl ?_
        refine jq_iald Γ (at_com_3 hc9) rfl dX10_copySeats_44 (fun v10 => ?_)
        refine jq_i2l Γ dX10_copySeats_45 ?_
        refine jq_cwV (jq_virt (avs := [jI t2.1, jL v10]) (st := []) Γ hlY rfl ml_RX10_116 rfl (at_trp (trp_i ha6 hb7)) rfl rfl rfl rfl rfl dX10_copySeats_46) (fun σ' h => ctX9_put (trp_i ha6 hb7) h) (fun s11 => ?_)
        refine jq_iincN (L' := fun v12 => [(3, jI v12), (0, jR 0), (1, jI p1)]) Γ dX10_copySeats_49 2 rfl hnl rfl (fun _ => rfl) (fun v12 => ?_)
        refine jq_goto Γ (tgt := 18) dX10_copySeats_52 rfl ?_
        refine jq_sub Γ (L' := [(0, jR 0), (1, jI p1), (3, jI v12)]) [1, 2, 0] rfl ?_
        exact jq_done (hCt2 (v12, s11))
    · intro e13
      refine jq_aload_n Γ dX10_copySeats_55 rfl 0 rfl (jq_at_0 at_X_0) ?_
      refine jq_aload_n Γ dX10_copySeats_56 rfl 0 rfl (jq_at_0 at_X_0) ?_
      refine jq_getC (C := jq_cm2) Γ hlY at_X_0 fl_RX10_25 rfl rfl ly_now dX10_copySeats_57 (fun c14 hc15q => ?_)
      have hc15 := jq_cm2_com hc15q
      refine jq_getI (J := 2) Γ (at_com hc15) fl_RX10_182 rfl rfl dX10_copySeats_60 ?_
      refine jq_cwI (jq_virt (avs := [jI (e13 c14 2)]) (st := []) Γ hlY rfl ml_RX10_161 rfl at_X_0 rfl rfl rfl rfl rfl dX10_copySeats_63) (fun r σ' h => ctX10_answer h) (fun v16 s17 => ?_)
      exact jq_ireturn Γ dX10_copySeats_66 (hK0 _)
  · refine jq_aload_n Γ dX10_copySeats_10 rfl 1 rfl (jq_at_0 at_X_0) ?_
    refine jq_iload_n Γ dX10_copySeats_11 rfl 0 rfl ?_
    refine jq_cwI (jq_virt (avs := [jI v1]) (st := []) Γ hlY rfl ml_RX10_120 rfl at_X_0 rfl rfl rfl rfl rfl dX10_copySeats_12) (fun r σ' h => ctX10_refuse h) (fun v18 s19 => ?_)
    exact jq_ireturn Γ dX10_copySeats_15 (hK0 _)


