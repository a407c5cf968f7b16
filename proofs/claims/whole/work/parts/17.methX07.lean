theorem yf_X8_isMet : Cond.static yX8_isMet ∈ jq_T ∧ Cond.initialized (yX8_isMet).cls ∈ jq_T ∧ Cond.code yX8_isMet cX8_isMet 3 (some .boolean) ∈ jq_T ∧ ((yX8_isMet).cls ≠ "java/lang/invoke/MethodHandle" ∧ (yX8_isMet).cls ≠ "java/lang/invoke/VarHandle" ∧ (parseMethodDescriptor (yX8_isMet).desc).map (fun d => d.parameters.length) = some 2) := ⟨jq_in 1248 (by decide +kernel) rfl, jq_in 146 (by decide +kernel) rfl, jq_in 1249 (by decide +kernel) rfl, ⟨by decide, by decide, by decide +kernel⟩⟩
theorem ml_RX8_98 : jq_sl RX8 98 yX8_isMet cX8_isMet 3 (some .boolean) 2 := ⟨jq_in 1247 (by decide +kernel) rfl, yf_X8_isMet⟩
theorem yf_X8_leastUnmet : Cond.static yX8_leastUnmet ∈ jq_T ∧ Cond.initialized (yX8_leastUnmet).cls ∈ jq_T ∧ Cond.code yX8_leastUnmet cX8_leastUnmet 4 (some .int) ∈ jq_T ∧ ((yX8_leastUnmet).cls ≠ "java/lang/invoke/MethodHandle" ∧ (yX8_leastUnmet).cls ≠ "java/lang/invoke/VarHandle" ∧ (parseMethodDescriptor (yX8_leastUnmet).desc).map (fun d => d.parameters.length) = some 2) := ⟨jq_in 1245 (by decide +kernel) rfl, jq_in 146 (by decide +kernel) rfl, jq_in 1246 (by decide +kernel) rfl, ⟨by decide, by decide, by decide +kernel⟩⟩
theorem ml_RX10_351 : jq_sl RX10 351 yX8_leastUnmet cX8_leastUnmet 4 (some .int) 2 := ⟨jq_in 1244 (by decide +kernel) rfl, yf_X8_leastUnmet⟩
theorem ml_RX10_355 : jq_vl RX10 355 yX1_allParties cX1_allParties 1 (some .int) 0 := ⟨jq_in 1254 (by decide +kernel) rfl, yf_X1_allParties⟩
theorem ml_RX10_358 : jq_sl RX10 358 yX8_isMet cX8_isMet 3 (some .boolean) 2 := ⟨jq_in 1255 (by decide +kernel) rfl, yf_X8_isMet⟩
theorem ml_RX8_81 : jq_vl RX8 81 yX1_worthTo cX1_worthTo 5 (some .int) 2 := ⟨jq_in 1264 (by decide +kernel) rfl, yf_X1_worthTo⟩
theorem yf_X8_mostWorthTo : Cond.instanceMethod yX8_mostWorthTo ∈ jq_T ∧ Cond.selects (yX8_mostWorthTo).cls yX8_mostWorthTo yX8_mostWorthTo ∈ jq_T ∧ Cond.initialized (yX8_mostWorthTo).cls ∈ jq_T ∧ Cond.code yX8_mostWorthTo cX8_mostWorthTo 6 (some .int) ∈ jq_T ∧ ((yX8_mostWorthTo).cls ≠ "java/lang/invoke/MethodHandle" ∧ (yX8_mostWorthTo).cls ≠ "java/lang/invoke/VarHandle" ∧ (parseMethodDescriptor (yX8_mostWorthTo).desc).map (fun d => d.parameters.length) = some 2) := ⟨jq_in 1261 (by decide +kernel) rfl, jq_in 1262 (by decide +kernel) rfl, jq_in 146 (by decide +kernel) rfl, jq_in 1263 (by decide +kernel) rfl, ⟨by decide, by decide, by decide +kernel⟩⟩
theorem ml_RX10_361 : jq_vl RX10 361 yX8_mostWorthTo cX8_mostWorthTo 6 (some .int) 2 := ⟨jq_in 1260 (by decide +kernel) rfl, yf_X8_mostWorthTo⟩
theorem ml_RX8_85 : jq_vl RX8 85 yX1_doesSign cX1_doesSign 3 (some .boolean) 2 := ⟨jq_in 1273 (by decide +kernel) rfl, yf_X1_doesSign⟩
theorem yf_X8_countSigned : Cond.instanceMethod yX8_countSigned ∈ jq_T ∧ Cond.selects (yX8_countSigned).cls yX8_countSigned yX8_countSigned ∈ jq_T ∧ Cond.initialized (yX8_countSigned).cls ∈ jq_T ∧ Cond.code yX8_countSigned cX8_countSigned 6 (some .int) ∈ jq_T ∧ ((yX8_countSigned).cls ≠ "java/lang/invoke/MethodHandle" ∧ (yX8_countSigned).cls ≠ "java/lang/invoke/VarHandle" ∧ (parseMethodDescriptor (yX8_countSigned).desc).map (fun d => d.parameters.length) = some 2) := ⟨jq_in 1270 (by decide +kernel) rfl, jq_in 1271 (by decide +kernel) rfl, jq_in 146 (by decide +kernel) rfl, jq_in 1272 (by decide +kernel) rfl, ⟨by decide, by decide, by decide +kernel⟩⟩
theorem ml_RX10_365 : jq_vl RX10 365 yX8_countSigned cX8_countSigned 6 (some .int) 2 := ⟨jq_in 1269 (by decide +kernel) rfl, yf_X8_countSigned⟩
theorem mw_RX1_139 : Cond.methodLink RX1 139 Lib.Math.max.name ∈ jq_T := jq_in 1286 (by decide +kernel) rfl
theorem yf_X1_lackOf : Cond.instanceMethod yX1_lackOf ∈ jq_T ∧ Cond.selects (yX1_lackOf).cls yX1_lackOf yX1_lackOf ∈ jq_T ∧ Cond.initialized (yX1_lackOf).cls ∈ jq_T ∧ Cond.code yX1_lackOf cX1_lackOf 4 (some .int) ∈ jq_T ∧ ((yX1_lackOf).cls ≠ "java/lang/invoke/MethodHandle" ∧ (yX1_lackOf).cls ≠ "java/lang/invoke/VarHandle" ∧ (parseMethodDescriptor (yX1_lackOf).desc).map (fun d => d.parameters.length) = some 1) := ⟨jq_in 1283 (by decide +kernel) rfl, jq_in 1284 (by decide +kernel) rfl, jq_in 144 (by decide +kernel) rfl, jq_in 1285 (by decide +kernel) rfl, ⟨by decide, by decide, by decide +kernel⟩⟩
theorem ml_RX10_368 : jq_vl RX10 368 yX1_lackOf cX1_lackOf 4 (some .int) 1 := ⟨jq_in 1282 (by decide +kernel) rfl, yf_X1_lackOf⟩
theorem ml_RX8_89 : jq_vl RX8 89 yX1_lackOf cX1_lackOf 4 (some .int) 1 := ⟨jq_in 1295 (by decide +kernel) rfl, yf_X1_lackOf⟩
theorem yf_X8_leastLack : Cond.instanceMethod yX8_leastLack ∈ jq_T ∧ Cond.selects (yX8_leastLack).cls yX8_leastLack yX8_leastLack ∈ jq_T ∧ Cond.initialized (yX8_leastLack).cls ∈ jq_T ∧ Cond.code yX8_leastLack cX8_leastLack 5 (some .int) ∈ jq_T ∧ ((yX8_leastLack).cls ≠ "java/lang/invoke/MethodHandle" ∧ (yX8_leastLack).cls ≠ "java/lang/invoke/VarHandle" ∧ (parseMethodDescriptor (yX8_leastLack).desc).map (fun d => d.parameters.length) = some 1) := ⟨jq_in 1292 (by decide +kernel) rfl, jq_in 1293 (by decide +kernel) rfl, jq_in 146 (by decide +kernel) rfl, jq_in 1294 (by decide +kernel) rfl, ⟨by decide, by decide, by decide +kernel⟩⟩
theorem ml_RX10_371 : jq_vl RX10 371 yX8_leastLack cX8_leastLack 5 (some .int) 1 := ⟨jq_in 1291 (by decide +kernel) rfl, yf_X8_leastLack⟩
theorem fl_RX10_68 : jq_fl RX10 68 7 18 17 true := ⟨RX10, TX10, tyX10, cls_X10, by decide, jq_in 539 (by decide +kernel) rfl, by decide⟩
theorem yf_X10_layTrial : Cond.instanceMethod yX10_layTrial ∈ jq_T ∧ Cond.selects (yX10_layTrial).cls yX10_layTrial yX10_layTrial ∈ jq_T ∧ Cond.initialized (yX10_layTrial).cls ∈ jq_T ∧ Cond.code yX10_layTrial cX10_layTrial 1 none ∈ jq_T ∧ ((yX10_layTrial).cls ≠ "java/lang/invoke/MethodHandle" ∧ (yX10_layTrial).cls ≠ "java/lang/invoke/VarHandle" ∧ (parseMethodDescriptor (yX10_layTrial).desc).map (fun d => d.parameters.length) = some 0) := ⟨jq_in 1302 (by decide +kernel) rfl, jq_in 23 (by decide +kernel) rfl, jq_in 138 (by decide +kernel) rfl, jq_in 1303 (by decide +kernel) rfl, ⟨by decide, by decide, by decide +kernel⟩⟩
theorem ml_RX10_374 : jq_vl RX10 374 yX10_layTrial cX10_layTrial 1 none 0 := ⟨jq_in 1300 (by decide +kernel) rfl, yf_X10_layTrial⟩
theorem yf_X1_sits : Cond.instanceMethod yX1_sits ∈ jq_T ∧ Cond.selects (yX1_sits).cls yX1_sits yX1_sits ∈ jq_T ∧ Cond.initialized (yX1_sits).cls ∈ jq_T ∧ Cond.code yX1_sits cX1_sits 2 (some .boolean) ∈ jq_T ∧ ((yX1_sits).cls ≠ "java/lang/invoke/MethodHandle" ∧ (yX1_sits).cls ≠ "java/lang/invoke/VarHandle" ∧ (parseMethodDescriptor (yX1_sits).desc).map (fun d => d.parameters.length) = some 1) := ⟨jq_in 1321 (by decide +kernel) rfl, jq_in 1322 (by decide +kernel) rfl, jq_in 144 (by decide +kernel) rfl, jq_in 1323 (by decide +kernel) rfl, ⟨by decide, by decide, by decide +kernel⟩⟩
theorem ml_RX10_454 : jq_vl RX10 454 yX1_sits cX1_sits 2 (some .boolean) 1 := ⟨jq_in 1320 (by decide +kernel) rfl, yf_X1_sits⟩
theorem ml_RX4_42 : jq_vl RX4 42 yX1_sitterAt cX1_sitterAt 4 (some .int) 2 := ⟨jq_in 1333 (by decide +kernel) rfl, yf_X1_sitterAt⟩
theorem ml_RX4_45 : jq_vl RX4 45 yX1_isParty cX1_isParty 2 (some .boolean) 1 := ⟨jq_in 1334 (by decide +kernel) rfl, yf_X1_isParty⟩
theorem ml_RX4_9 : jq_sl RX4 9 yX1_seatIn cX1_seatIn 2 (some .int) 2 := ⟨jq_in 1327 (by decide +kernel) rfl, yf_X1_seatIn⟩
theorem ml_RX4_15 : jq_vl RX4 15 yX1_worthTo cX1_worthTo 5 (some .int) 2 := ⟨jq_in 1328 (by decide +kernel) rfl, yf_X1_worthTo⟩
theorem yf_X4_bestLead : Cond.static yX4_bestLead ∈ jq_T ∧ Cond.initialized (yX4_bestLead).cls ∈ jq_T ∧ Cond.code yX4_bestLead cX4_bestLead 11 (some .int) ∈ jq_T ∧ ((yX4_bestLead).cls ≠ "java/lang/invoke/MethodHandle" ∧ (yX4_bestLead).cls ≠ "java/lang/invoke/VarHandle" ∧ (parseMethodDescriptor (yX4_bestLead).desc).map (fun d => d.parameters.length) = some 6) := ⟨jq_in 1325 (by decide +kernel) rfl, jq_in 156 (by decide +kernel) rfl, jq_in 1326 (by decide +kernel) rfl, ⟨by decide, by decide, by decide +kernel⟩⟩
theorem ml_RX4_19 : jq_sl RX4 19 yX4_bestLead cX4_bestLead 11 (some .int) 6 := ⟨jq_in 1329 (by decide +kernel) rfl, yf_X4_bestLead⟩
theorem fl_RX4_25 : jq_fl RX4 25 1 21 0 false := ⟨RX1, TX1, tyX1, cls_X1, by decide, jq_in 324 (by decide +kernel) rfl, by decide⟩
theorem yf_X4_shift : Cond.static yX4_shift ∈ jq_T ∧ Cond.initialized (yX4_shift).cls ∈ jq_T ∧ Cond.code yX4_shift cX4_shift 5 none ∈ jq_T ∧ ((yX4_shift).cls ≠ "java/lang/invoke/MethodHandle" ∧ (yX4_shift).cls ≠ "java/lang/invoke/VarHandle" ∧ (parseMethodDescriptor (yX4_shift).desc).map (fun d => d.parameters.length) = some 4) := ⟨jq_in 1331 (by decide +kernel) rfl, jq_in 156 (by decide +kernel) rfl, jq_in 1332 (by decide +kernel) rfl, ⟨by decide, by decide, by decide +kernel⟩⟩
theorem ml_RX4_29 : jq_sl RX4 29 yX4_shift cX4_shift 5 none 4 := ⟨jq_in 1330 (by decide +kernel) rfl, yf_X4_shift⟩
theorem mw_RX4_39 : Cond.methodLink RX4 39 Lib.Math.min.name ∈ jq_T := jq_in 1336 (by decide +kernel) rfl
theorem mw_RX4_33 : Cond.methodLink RX4 33 Lib.Math.max.name ∈ jq_T := jq_in 1335 (by decide +kernel) rfl
theorem dX8_leastUnmet_0 : decode cX8_leastUnmet 0 = .ok (.iconst 1, 1) := by decide +kernel
theorem dX8_leastUnmet_1 : decode cX8_leastUnmet 1 = .ok (.istore_n 2, 1) := by decide +kernel
theorem dX8_leastUnmet_2 : decode cX8_leastUnmet 2 = .ok (.iload_n 2, 1) := by decide +kernel
theorem dX8_leastUnmet_3 : decode cX8_leastUnmet 3 = .ok (.iload_n 1, 1) := by decide +kernel
theorem dX8_leastUnmet_4 : decode cX8_leastUnmet 4 = .ok (.if_icmp .gt 42, 3) := by decide +kernel
theorem dX8_leastUnmet_7 : decode cX8_leastUnmet 7 = .ok (.iconst 1, 1) := by decide +kernel
theorem dX8_leastUnmet_8 : decode cX8_leastUnmet 8 = .ok (.istore_n 3, 1) := by decide +kernel
theorem dX8_leastUnmet_9 : decode cX8_leastUnmet 9 = .ok (.iload_n 3, 1) := by decide +kernel
theorem dX8_leastUnmet_10 : decode cX8_leastUnmet 10 = .ok (.iconst 1, 1) := by decide +kernel
theorem dX8_leastUnmet_11 : decode cX8_leastUnmet 11 = .ok (.iload_n 1, 1) := by decide +kernel
theorem dX8_leastUnmet_12 : decode cX8_leastUnmet 12 = .ok (.ishl, 1) := by decide +kernel
theorem dX8_leastUnmet_13 : decode cX8_leastUnmet 13 = .ok (.if_icmp .ge 27, 3) := by decide +kernel
theorem dX8_leastUnmet_16 : decode cX8_leastUnmet 16 = .ok (.iload_n 3, 1) := by decide +kernel
theorem dX8_leastUnmet_17 : decode cX8_leastUnmet 17 = .ok (.invokestatic 92, 3) := by decide +kernel
theorem dX8_leastUnmet_20 : decode cX8_leastUnmet 20 = .ok (.iload_n 2, 1) := by decide +kernel
theorem dX8_leastUnmet_21 : decode cX8_leastUnmet 21 = .ok (.if_icmp .ne 13, 3) := by decide +kernel
theorem dX8_leastUnmet_24 : decode cX8_leastUnmet 24 = .ok (.iload_n 0, 1) := by decide +kernel
theorem dX8_leastUnmet_25 : decode cX8_leastUnmet 25 = .ok (.iload_n 3, 1) := by decide +kernel
theorem dX8_leastUnmet_26 : decode cX8_leastUnmet 26 = .ok (.invokestatic 98, 3) := by decide +kernel
theorem dX8_leastUnmet_29 : decode cX8_leastUnmet 29 = .ok (.ifCond .ne 5, 3) := by decide +kernel
theorem dX8_leastUnmet_32 : decode cX8_leastUnmet 32 = .ok (.iload_n 3, 1) := by decide +kernel
theorem dX8_leastUnmet_33 : decode cX8_leastUnmet 33 = .ok (.ireturn, 1) := by decide +kernel
theorem dX8_leastUnmet_34 : decode cX8_leastUnmet 34 = .ok (.iinc 3 1, 3) := by decide +kernel
theorem dX8_leastUnmet_37 : decode cX8_leastUnmet 37 = .ok (.goto (-28), 3) := by decide +kernel
theorem dX8_leastUnmet_40 : decode cX8_leastUnmet 40 = .ok (.iinc 2 1, 3) := by decide +kernel
theorem dX8_leastUnmet_43 : decode cX8_leastUnmet 43 = .ok (.goto (-41), 3) := by decide +kernel
theorem dX8_leastUnmet_46 : decode cX8_leastUnmet 46 = .ok (.iconst (-1), 1) := by decide +kernel
theorem dX8_leastUnmet_47 : decode cX8_leastUnmet 47 = .ok (.ireturn, 1) := by decide +kernel
set_option maxHeartbeats 4000000 in
set_option maxRecDepth 100000 in
theorem ctX8_leastUnmet {p0 : Int} {p1 : Int} {σ : jq_M} {res : Int}  (h : X8_leastUnmet p0 p1 σ = some res) : jq_MC jq_zX yX8_leastUnmet cX8_leastUnmet 4 (some .int) 3 83 [jI p0, jI p1] σ (some (jI res)) σ := by
  refine jq_met (own := RX8) (L0 := [(0, jI p0), (1, jI p1)]) (by decide) rfl rfl rfl ?_
  intro X Γ hnl hlY hRT
  refine jq_use2 (P := fun r => jq_RT jq_zX X (some .int) (some (jI r)) σ) ?_ h hRT
  intro K0 hK0
  unfold X8_leastUnmet
  refine jq_iconst Γ dX8_leastUnmet_0 rfl ?_
  refine jq_istore_n (L' := [(2, jI 1), (0, jI p0), (1, jI p1)]) Γ dX8_leastUnmet_1 rfl hnl rfl rfl ?_
  refine jq_sub Γ (L' := [(0, jI p0), (1, jI p1), (2, jI 1)]) [1, 2, 0] rfl ?_
  refine jq_loop2 (C := fun (t1 : Int) => jq_V jq_zX X (jq_zN jq_zX) σ 2 [(0, jI p0), (1, jI p1), (2, jI t1)] []) (KX := Sum.elim (fun (e11 : Int) => jq_V jq_zX X (jq_zN jq_zX) σ 32 [(3, jI e11)] []) (fun (e12 : Unit) => jq_V jq_zX X (jq_zN jq_zX) σ 46 [] [])) ?_ ?_ 1
  · intro K2_t1 hCt1 hXt1 t1
    unfold X8_leastUnmet_b2
    refine jq_iload_n Γ dX8_leastUnmet_2 rfl 2 rfl ?_
    refine jq_iload_n Γ dX8_leastUnmet_3 rfl 1 rfl ?_
    refine jq_icmp_gt (tgt := 46) Γ dX8_leastUnmet_4 rfl ?_ ?_
    · refine jq_sub Γ (L' := []) [] rfl ?_
      exact jq_done (hXt1 (.inr ()))
    · refine jq_iconst Γ dX8_leastUnmet_7 rfl ?_
      refine jq_istore_n (L' := [(3, jI 1), (0, jI p0), (1, jI p1), (2, jI t1)]) Γ dX8_leastUnmet_8 rfl hnl rfl rfl ?_
      refine jq_sub Γ (L' := [(0, jI p0), (1, jI p1), (2, jI t1), (3, jI 1)]) [1, 2, 3, 0] rfl ?_
      refine jq_loop2 (C := fun (t2 : Int) => jq_V jq_zX X (jq_zN jq_zX) σ 9 [(0, jI p0), (1, jI p1), (2, jI t1), (3, jI t2)] []) (KX := Sum.elim (fun (e8 : Int) => jq_V jq_zX X (jq_zN jq_zX) σ 32 [(3, jI e8)] []) (fun (e9 : Unit) => jq_V jq_zX X (jq_zN jq_zX) σ 40 [(0, jI p0), (1, jI p1), (2, jI t1)] [])) ?_ ?_ 1
      · intro K9_t2 hCt2 hXt2 t2
        unfold X8_leastUnmet_b9
        refine jq_iload_n Γ dX8_leastUnmet_9 rfl 3 rfl ?_
        refine jq_iconst Γ dX8_leastUnmet_10 rfl ?_
        refine jq_iload_n Γ dX8_leastUnmet_11 rfl 1 rfl ?_
        refine jq_ishl Γ dX8_leastUnmet_12 ?_
        refine jq_icmp_ge (tgt := 40) Γ dX8_leastUnmet_13 rfl ?_ ?_
        · refine jq_sub Γ (L' := [(0, jI p0), (1, jI p1), (2, jI t1)]) [0, 1, 2] rfl ?_
          exact jq_done (hXt2 (.inr ()))
        · refine jq_iload_n Γ dX8_leastUnmet_16 rfl 3 rfl ?_
          refine jq_cpI (jq_stat (avs := [jI t2]) (st := []) Γ hlY rfl ml_RX8_92 rfl rfl rfl rfl rfl dX8_leastUnmet_17) (fun r h => ctJ6_bitCount_0f7a4 h) (fun v3 => ?_)
          refine jq_iload_n Γ dX8_leastUnmet_20 rfl 2 rfl ?_
          refine jq_icmp_ne (tgt := 34) Γ dX8_leastUnmet_21 rfl ?_ ?_
          · refine jq_iincN (L' := fun v4 => [(3, jI v4), (0, jI p0), (1, jI p1), (2, jI t1)]) Γ dX8_leastUnmet_34 3 rfl hnl rfl (fun _ => rfl) (fun v4 => ?_)
            refine jq_goto Γ (tgt := 9) dX8_leastUnmet_37 rfl ?_
            refine jq_sub Γ (L' := [(0, jI p0), (1, jI p1), (2, jI t1), (3, jI v4)]) [1, 2, 3, 0] rfl ?_
            exact jq_done (hCt2 v4)
          · refine jq_iload_n Γ dX8_leastUnmet_24 rfl 0 rfl ?_
            refine jq_iload_n Γ dX8_leastUnmet_25 rfl 3 rfl ?_
            refine jq_cpZ (jq_stat (avs := [jI p0, jI t2]) (st := []) Γ hlY rfl ml_RX8_98 rfl rfl rfl rfl rfl dX8_leastUnmet_26) rfl (fun r h => ctX8_isMet h) (fun v5 hz6 => ?_)
            refine jq_if_ne (tgt := 34) Γ dX8_leastUnmet_29 rfl ?_ ?_
            · refine jq_iincN (L' := fun v7 => [(3, jI v7), (0, jI p0), (1, jI p1), (2, jI t1)]) Γ dX8_leastUnmet_34 3 rfl hnl rfl (fun _ => rfl) (fun v7 => ?_)
              refine jq_goto Γ (tgt := 9) dX8_leastUnmet_37 rfl ?_
              refine jq_sub Γ (L' := [(0, jI p0), (1, jI p1), (2, jI t1), (3, jI v7)]) [1, 2, 3, 0] rfl ?_
              exact jq_done (hCt2 v7)
            · refine jq_sub Γ (L' := [(3, jI t2)]) [3] rfl ?_
              exact jq_done (hXt2 (.inl t2))
      · refine jq_elim ?_ ?_
        · intro e8
          exact jq_done (hXt1 (.inl e8))
        · intro e9
          refine jq_iincN (L' := fun v10 => [(2, jI v10), (0, jI p0), (1, jI p1)]) Γ dX8_leastUnmet_40 2 rfl hnl rfl (fun _ => rfl) (fun v10 => ?_)
          refine jq_goto Γ (tgt := 2) dX8_leastUnmet_43 rfl ?_
          refine jq_sub Γ (L' := [(0, jI p0), (1, jI p1), (2, jI v10)]) [1, 2, 0] rfl ?_
          exact jq_done (hCt1 v10)
  · refine jq_elim ?_ ?_
    · intro e11
      refine jq_iload_n Γ dX8_leastUnmet_32 rfl 0 rfl ?_
      exact jq_ireturn Γ dX8_leastUnmet_33 (hK0 _)
    · intro e12
      refine jq_iconst Γ dX8_leastUnmet_46 rfl ?_
      exact jq_ireturn Γ dX8_leastUnmet_47 (hK0 _)


theorem dX10_quarrel_0 : decode cX10_quarrel 0 = .ok (.aload_n 0, 1) := by decide +kernel
theorem dX10_quarrel_1 : decode cX10_quarrel 1 = .ok (.aload_n 0, 1) := by decide +kernel
theorem dX10_quarrel_2 : decode cX10_quarrel 2 = .ok (.getfield 46, 3) := by decide +kernel
theorem dX10_quarrel_5 : decode cX10_quarrel 5 = .ok (.aload_n 0, 1) := by decide +kernel
theorem dX10_quarrel_6 : decode cX10_quarrel 6 = .ok (.getfield 25, 3) := by decide +kernel
theorem dX10_quarrel_9 : decode cX10_quarrel 9 = .ok (.invokevirtual 345, 3) := by decide +kernel
theorem dX10_quarrel_12 : decode cX10_quarrel 12 = .ok (.aload_n 0, 1) := by decide +kernel
theorem dX10_quarrel_13 : decode cX10_quarrel 13 = .ok (.getfield 25, 3) := by decide +kernel
theorem dX10_quarrel_16 : decode cX10_quarrel 16 = .ok (.getfield 188, 3) := by decide +kernel
theorem dX10_quarrel_19 : decode cX10_quarrel 19 = .ok (.invokestatic 351, 3) := by decide +kernel
theorem dX10_quarrel_22 : decode cX10_quarrel 22 = .ok (.invokevirtual 224, 3) := by decide +kernel
theorem dX10_quarrel_25 : decode cX10_quarrel 25 = .ok (.ireturn, 1) := by decide +kernel
set_option maxHeartbeats 4000000 in
set_option maxRecDepth 100000 in
theorem ctX10_quarrel  {σ : jq_M} {res : Int} {σ' : jq_M}  (h : X10_quarrel σ = some (res, σ')) : jq_MC jq_zX yX10_quarrel cX10_quarrel 1 (some .int) 6 157 [jR 0] σ (some (jI res)) σ' := by
  refine jq_met (own := RX10) (L0 := [(0, jR 0)]) (by decide) rfl rfl rfl ?_
  intro X Γ hnl hlY hRT
  refine jq_use2 (P := fun r => jq_RT jq_zX X (some .int) (some (jI r.1)) r.2) ?_ h hRT
  intro K0 hK0
  unfold X10_quarrel
  refine jq_aload_n Γ dX10_quarrel_0 rfl 0 rfl (jq_at_0 at_X_0) ?_
  refine jq_aload_n Γ dX10_quarrel_1 rfl 0 rfl (jq_at_0 at_X_0) ?_
  refine jq_getR (v := 52) Γ hlY at_X_0 fl_RX10_46 rfl rfl ly_X10_survey dX10_quarrel_2 ?_
  refine jq_aload_n Γ dX10_quarrel_5 rfl 0 rfl (jq_at_0 at_X_0) ?_
  refine jq_getC (C := jq_cm2) Γ hlY at_X_0 fl_RX10_25 rfl rfl ly_now dX10_quarrel_6 (fun c1 hc2q => ?_)
  have hc2 := jq_cm2_com hc2q
  refine jq_cwI (jq_virt (avs := [jR c1]) (st := [jR 0]) Γ hlY rfl ml_RX10_345 rfl at_X_52 rfl rfl rfl rfl rfl dX10_quarrel_9) (fun r σ' h => ctX8_outcomes hc2 h) (fun v3 s4 => ?_)
  refine jq_aload_n Γ dX10_quarrel_12 rfl 0 rfl (jq_at_0 at_X_0) ?_
  refine jq_getC (C := jq_cm2) Γ hlY at_X_0 fl_RX10_25 rfl rfl ly_now dX10_quarrel_13 (fun c5 hc6q => ?_)
  have hc6 := jq_cm2_com hc6q
  refine jq_getI (J := 2) Γ (at_com hc6) fl_RX10_188 rfl rfl dX10_quarrel_16 ?_
  refine jq_cpI (jq_stat (avs := [jI v3, jI (s4 c5 2)]) (st := [jR 0]) Γ hlY rfl ml_RX10_351 rfl rfl rfl rfl rfl dX10_quarrel_19) (fun r h => ctX8_leastUnmet h) (fun v7 => ?_)
  refine jq_cwI (jq_virt (avs := [jI v7]) (st := []) Γ hlY rfl ml_RX10_224 rfl at_X_0 rfl rfl rfl rfl rfl dX10_quarrel_22) (fun r σ' h => ctX10_answerOrNone h) (fun v8 s9 => ?_)
  exact jq_ireturn Γ dX10_quarrel_25 (hK0 _)


theorem dX10_pleased_0 : decode cX10_pleased 0 = .ok (.iload_n 1, 1) := by decide +kernel
theorem dX10_pleased_1 : decode cX10_pleased 1 = .ok (.iconst 0, 1) := by decide +kernel
theorem dX10_pleased_2 : decode cX10_pleased 2 = .ok (.aload_n 0, 1) := by decide +kernel
theorem dX10_pleased_3 : decode cX10_pleased 3 = .ok (.getfield 25, 3) := by decide +kernel
theorem dX10_pleased_6 : decode cX10_pleased 6 = .ok (.invokevirtual 355, 3) := by decide +kernel
theorem dX10_pleased_9 : decode cX10_pleased 9 = .ok (.invokestatic 93, 3) := by decide +kernel
theorem dX10_pleased_12 : decode cX10_pleased 12 = .ok (.ifCond .ne 9, 3) := by decide +kernel
theorem dX10_pleased_15 : decode cX10_pleased 15 = .ok (.aload_n 0, 1) := by decide +kernel
theorem dX10_pleased_16 : decode cX10_pleased 16 = .ok (.iconst 1, 1) := by decide +kernel
theorem dX10_pleased_17 : decode cX10_pleased 17 = .ok (.invokevirtual 117, 3) := by decide +kernel
theorem dX10_pleased_20 : decode cX10_pleased 20 = .ok (.ireturn, 1) := by decide +kernel
theorem dX10_pleased_21 : decode cX10_pleased 21 = .ok (.aload_n 0, 1) := by decide +kernel
theorem dX10_pleased_22 : decode cX10_pleased 22 = .ok (.getfield 25, 3) := by decide +kernel
theorem dX10_pleased_25 : decode cX10_pleased 25 = .ok (.getfield 185, 3) := by decide +kernel
theorem dX10_pleased_28 : decode cX10_pleased 28 = .ok (.ifCond .ne 10, 3) := by decide +kernel
theorem dX10_pleased_31 : decode cX10_pleased 31 = .ok (.aload_n 0, 1) := by decide +kernel
theorem dX10_pleased_32 : decode cX10_pleased 32 = .ok (.bipush 6, 2) := by decide +kernel
theorem dX10_pleased_34 : decode cX10_pleased 34 = .ok (.invokevirtual 117, 3) := by decide +kernel
theorem dX10_pleased_37 : decode cX10_pleased 37 = .ok (.ireturn, 1) := by decide +kernel
theorem dX10_pleased_38 : decode cX10_pleased 38 = .ok (.aload_n 0, 1) := by decide +kernel
theorem dX10_pleased_39 : decode cX10_pleased 39 = .ok (.aload_n 0, 1) := by decide +kernel
theorem dX10_pleased_40 : decode cX10_pleased 40 = .ok (.getfield 46, 3) := by decide +kernel
theorem dX10_pleased_43 : decode cX10_pleased 43 = .ok (.aload_n 0, 1) := by decide +kernel
theorem dX10_pleased_44 : decode cX10_pleased 44 = .ok (.getfield 25, 3) := by decide +kernel
theorem dX10_pleased_47 : decode cX10_pleased 47 = .ok (.invokevirtual 345, 3) := by decide +kernel
theorem dX10_pleased_50 : decode cX10_pleased 50 = .ok (.iload_n 1, 1) := by decide +kernel
theorem dX10_pleased_51 : decode cX10_pleased 51 = .ok (.invokestatic 358, 3) := by decide +kernel
theorem dX10_pleased_54 : decode cX10_pleased 54 = .ok (.invokestatic 266, 3) := by decide +kernel
theorem dX10_pleased_57 : decode cX10_pleased 57 = .ok (.invokevirtual 167, 3) := by decide +kernel
theorem dX10_pleased_60 : decode cX10_pleased 60 = .ok (.ireturn, 1) := by decide +kernel
set_option maxHeartbeats 4000000 in
set_option maxRecDepth 100000 in
theorem ctX10_pleased {p1 : Int} {σ : jq_M} {res : Int} {σ' : jq_M}  (h : X10_pleased p1 σ = some (res, σ')) : jq_MC jq_zX yX10_pleased cX10_pleased 2 (some .int) 6 157 [jR 0, jI p1] σ (some (jI res)) σ' := by
  refine jq_met (own := RX10) (L0 := [(0, jR 0), (1, jI p1)]) (by decide) rfl rfl rfl ?_
  intro X Γ hnl hlY hRT
  refine jq_use2 (P := fun r => jq_RT jq_zX X (some .int) (some (jI r.1)) r.2) ?_ h hRT
  intro K0 hK0
  unfold X10_pleased
  refine jq_iload_n Γ dX10_pleased_0 rfl 1 rfl ?_
  refine jq_iconst Γ dX10_pleased_1 rfl ?_
  refine jq_aload_n Γ dX10_pleased_2 rfl 0 rfl (jq_at_0 at_X_0) ?_
  refine jq_getC (C := jq_cm2) Γ hlY at_X_0 fl_RX10_25 rfl rfl ly_now dX10_pleased_3 (fun c1 hc2q => ?_)
  have hc2 := jq_cm2_com hc2q
  refine jq_cpI (jq_virt (avs := []) (st := [jI 0, jI p1]) Γ hlY rfl ml_RX10_355 rfl (at_com hc2) rfl rfl rfl rfl rfl dX10_pleased_6) (fun r h => ctX1_allParties hc2 h) (fun v3 => ?_)
  refine jq_cpZ (jq_stat (avs := [jI p1, jI 0, jI v3]) (st := []) Γ hlY rfl ml_RX10_93 rfl rfl rfl rfl rfl dX10_pleased_9) rfl (fun r h => ctX10_within h) (fun v4 hz5 => ?_)
  refine jq_if_ne (tgt := 21) Γ dX10_pleased_12 rfl ?_ ?_
  · refine jq_aload_n Γ dX10_pleased_21 rfl 0 rfl (jq_at_0 at_X_0) ?_
    refine jq_getC (C := jq_cm2) Γ hlY at_X_0 fl_RX10_25 rfl rfl ly_now dX10_pleased_22 (fun c6 hc7q => ?_)
    have hc7 := jq_cm2_com hc7q
    refine jq_getI (J := 0) Γ (at_com hc7) fl_RX10_185 rfl rfl dX10_pleased_25 ?_
    refine jq_if_ne (tgt := 38) Γ dX10_pleased_28 rfl ?_ ?_
    · refine jq_aload_n Γ dX10_pleased_38 rfl 0 rfl (jq_at_0 at_X_0) ?_
      refine jq_aload_n Γ dX10_pleased_39 rfl 0 rfl (jq_at_0 at_X_0) ?_
      refine jq_getR (v := 52) Γ hlY at_X_0 fl_RX10_46 rfl rfl ly_X10_survey dX10_pleased_40 ?_
      refine jq_aload_n Γ dX10_pleased_43 rfl 0 rfl (jq_at_0 at_X_0) ?_
      refine jq_getC (C := jq_cm2) Γ hlY at_X_0 fl_RX10_25 rfl rfl ly_now dX10_pleased_44 (fun c8 hc9q => ?_)
      have hc9 := jq_cm2_com hc9q
      refine jq_cwI (jq_virt (avs := [jR c8]) (st := [jR 0]) Γ hlY rfl ml_RX10_345 rfl at_X_52 rfl rfl rfl rfl rfl dX10_pleased_47) (fun r σ' h => ctX8_outcomes hc9 h) (fun v10 s11 => ?_)
      refine jq_iload_n Γ dX10_pleased_50 rfl 1 rfl ?_
      refine jq_cpZ (jq_stat (avs := [jI v10, jI p1]) (st := [jR 0]) Γ hlY rfl ml_RX10_358 rfl rfl rfl rfl rfl dX10_pleased_51) rfl (fun r h => ctX8_isMet h) (fun v12 hz13 => ?_)
      refine jq_cpI (jq_stat (avs := [jI v12]) (st := [jR 0]) Γ hlY rfl ml_RX10_266 rfl rfl rfl rfl rfl dX10_pleased_54) (fun r h => ctX10_asNumber h) (fun v14 => ?_)
      refine jq_cwI (jq_virt (avs := [jI v14]) (st := []) Γ hlY rfl ml_RX10_167 rfl at_X_0 rfl rfl rfl rfl rfl dX10_pleased_57) (fun r σ' h => ctX10_answer h) (fun v15 s16 => ?_)
      exact jq_ireturn Γ dX10_pleased_60 (hK0 _)
    · refine jq_aload_n Γ dX10_pleased_31 rfl 0 rfl (jq_at_0 at_X_0) ?_
      refine jq_bipush Γ dX10_pleased_32 rfl ?_
      refine jq_cwI (jq_virt (avs := [jI 6]) (st := []) Γ hlY rfl ml_RX10_117 rfl at_X_0 rfl rfl rfl rfl rfl dX10_pleased_34) (fun r σ' h => ctX10_refuse h) (fun v17 s18 => ?_)
      exact jq_ireturn Γ dX10_pleased_37 (hK0 _)
  · refine jq_aload_n Γ dX10_pleased_15 rfl 0 rfl (jq_at_0 at_X_0) ?_
    refine jq_iconst Γ dX10_pleased_16 rfl ?_
    refine jq_cwI (jq_virt (avs := [jI 1]) (st := []) Γ hlY rfl ml_RX10_117 rfl at_X_0 rfl rfl rfl rfl rfl dX10_pleased_17) (fun r σ' h => ctX10_refuse h) (fun v19 s20 => ?_)
    exact jq_ireturn Γ dX10_pleased_20 (hK0 _)


theorem dX8_mostWorthTo_0 : decode cX8_mostWorthTo 0 = .ok (.aload_n 0, 1) := by decide +kernel
theorem dX8_mostWorthTo_1 : decode cX8_mostWorthTo 1 = .ok (.aload_n 1, 1) := by decide +kernel
theorem dX8_mostWorthTo_2 : decode cX8_mostWorthTo 2 = .ok (.invokevirtual 57, 3) := by decide +kernel
theorem dX8_mostWorthTo_5 : decode cX8_mostWorthTo 5 = .ok (.istore_n 3, 1) := by decide +kernel
theorem dX8_mostWorthTo_6 : decode cX8_mostWorthTo 6 = .ok (.aload_n 1, 1) := by decide +kernel
theorem dX8_mostWorthTo_7 : decode cX8_mostWorthTo 7 = .ok (.iload_n 2, 1) := by decide +kernel
theorem dX8_mostWorthTo_8 : decode cX8_mostWorthTo 8 = .ok (.aload_n 0, 1) := by decide +kernel
theorem dX8_mostWorthTo_9 : decode cX8_mostWorthTo 9 = .ok (.getfield 9, 3) := by decide +kernel
theorem dX8_mostWorthTo_12 : decode cX8_mostWorthTo 12 = .ok (.invokevirtual 81, 3) := by decide +kernel
theorem dX8_mostWorthTo_15 : decode cX8_mostWorthTo 15 = .ok (.istore 4, 2) := by decide +kernel
theorem dX8_mostWorthTo_17 : decode cX8_mostWorthTo 17 = .ok (.iconst 0, 1) := by decide +kernel
theorem dX8_mostWorthTo_18 : decode cX8_mostWorthTo 18 = .ok (.istore 5, 2) := by decide +kernel
theorem dX8_mostWorthTo_20 : decode cX8_mostWorthTo 20 = .ok (.iload 5, 2) := by decide +kernel
theorem dX8_mostWorthTo_22 : decode cX8_mostWorthTo 22 = .ok (.iload_n 3, 1) := by decide +kernel
theorem dX8_mostWorthTo_23 : decode cX8_mostWorthTo 23 = .ok (.if_icmp .ge 30, 3) := by decide +kernel
theorem dX8_mostWorthTo_26 : decode cX8_mostWorthTo 26 = .ok (.iload 4, 2) := by decide +kernel
theorem dX8_mostWorthTo_28 : decode cX8_mostWorthTo 28 = .ok (.aload_n 1, 1) := by decide +kernel
theorem dX8_mostWorthTo_29 : decode cX8_mostWorthTo 29 = .ok (.iload_n 2, 1) := by decide +kernel
theorem dX8_mostWorthTo_30 : decode cX8_mostWorthTo 30 = .ok (.aload_n 0, 1) := by decide +kernel
theorem dX8_mostWorthTo_31 : decode cX8_mostWorthTo 31 = .ok (.getfield 9, 3) := by decide +kernel
theorem dX8_mostWorthTo_34 : decode cX8_mostWorthTo 34 = .ok (.invokevirtual 81, 3) := by decide +kernel
theorem dX8_mostWorthTo_37 : decode cX8_mostWorthTo 37 = .ok (.invokestatic 41, 3) := by decide +kernel
theorem dX8_mostWorthTo_40 : decode cX8_mostWorthTo 40 = .ok (.istore 4, 2) := by decide +kernel
theorem dX8_mostWorthTo_42 : decode cX8_mostWorthTo 42 = .ok (.aload_n 0, 1) := by decide +kernel
theorem dX8_mostWorthTo_43 : decode cX8_mostWorthTo 43 = .ok (.aload_n 1, 1) := by decide +kernel
theorem dX8_mostWorthTo_44 : decode cX8_mostWorthTo 44 = .ok (.invokevirtual 68, 3) := by decide +kernel
theorem dX8_mostWorthTo_47 : decode cX8_mostWorthTo 47 = .ok (.iinc 5 1, 3) := by decide +kernel
theorem dX8_mostWorthTo_50 : decode cX8_mostWorthTo 50 = .ok (.goto (-30), 3) := by decide +kernel
theorem dX8_mostWorthTo_53 : decode cX8_mostWorthTo 53 = .ok (.iload 4, 2) := by decide +kernel
theorem dX8_mostWorthTo_55 : decode cX8_mostWorthTo 55 = .ok (.ireturn, 1) := by decide +kernel
set_option maxHeartbeats 4000000 in
set_option maxRecDepth 100000 in
theorem ctX8_mostWorthTo {p1 : Int} {p2 : Int} {σ : jq_M} {res : Int} {σ' : jq_M} (hp1 : jq_com p1) (h : X8_mostWorthTo p1 p2 σ = some (res, σ')) : jq_MC jq_zX yX8_mostWorthTo cX8_mostWorthTo 6 (some .int) 5 132 [jR 52, jR p1, jI p2] σ (some (jI res)) σ' := by
  refine jq_met (own := RX8) (L0 := [(0, jR 52), (1, jR p1), (2, jI p2)]) (by decide) rfl rfl rfl ?_
  intro X Γ hnl hlY hRT
  refine jq_use2 (P := fun r => jq_RT jq_zX X (some .int) (some (jI r.1)) r.2) ?_ h hRT
  intro K0 hK0
  unfold X8_mostWorthTo
  refine jq_aload_n Γ dX8_mostWorthTo_0 rfl 0 rfl (jq_at_0 at_X_52) ?_
  refine jq_aload_n Γ dX8_mostWorthTo_1 rfl 1 rfl (jq_at_0 (at_com hp1)) ?_
  refine jq_cwI (jq_virt (avs := [jR p1]) (st := []) Γ hlY rfl ml_RX8_57 rfl at_X_52 rfl rfl rfl rfl rfl dX8_mostWorthTo_2) (fun r σ' h => ctX8_begin hp1 h) (fun v1 s2 => ?_)
  refine jq_istore_n (L' := [(3, jI v1), (0, jR 52), (1, jR p1), (2, jI p2)]) Γ dX8_mostWorthTo_5 rfl hnl rfl rfl ?_
  refine jq_aload_n Γ dX8_mostWorthTo_6 rfl 2 rfl (jq_at_0 (at_com hp1)) ?_
  refine jq_iload_n Γ dX8_mostWorthTo_7 rfl 3 rfl ?_
  refine jq_aload_n Γ dX8_mostWorthTo_8 rfl 1 rfl (jq_at_0 at_X_52) ?_
  refine jq_getR (v := 53) Γ hlY at_X_52 fl_RX8_9 rfl rfl ly_X8_row dX8_mostWorthTo_9 ?_
  refine jq_cpI (jq_virt (avs := [jI p2, jR 53]) (st := []) Γ hlY rfl ml_RX8_81 rfl (at_com hp1) rfl rfl rfl rfl rfl dX8_mostWorthTo_12) (fun r h => ctX1_worthTo hp1 row_53 h) (fun v3 => ?_)
  refine jq_istore (L' := [(4, jI v3), (3, jI v1), (0, jR 52), (1, jR p1), (2, jI p2)]) Γ dX8_mostWorthTo_15 hnl rfl rfl ?_
  refine jq_iconst Γ dX8_mostWorthTo_17 rfl ?_
  refine jq_istore (L' := [(5, jI 0), (4, jI v3), (3, jI v1), (0, jR 52), (1, jR p1), (2, jI p2)]) Γ dX8_mostWorthTo_18 hnl rfl rfl ?_
  refine jq_sub Γ (L' := [(0, jR 52), (1, jR p1), (2, jI p2), (3, jI v1), (4, jI v3), (5, jI 0)]) [3, 4, 5, 2, 1, 0] rfl ?_
  refine jq_loop2 (C := fun (t4 : Int × Int × jq_M) => jq_V jq_zX X (jq_zN jq_zX) t4.2.2 20 [(0, jR 52), (1, jR p1), (2, jI p2), (3, jI v1), (4, jI t4.1), (5, jI t4.2.1)] []) (KX := fun (e9 : Int × jq_M) => jq_V jq_zX X (jq_zN jq_zX) e9.2 53 [(4, jI e9.1)] []) ?_ ?_ (v3, 0, s2)
  · intro K20_t4 hCt4 hXt4 t4
    unfold X8_mostWorthTo_b20
    refine jq_iload Γ dX8_mostWorthTo_20 5 rfl ?_
    refine jq_iload_n Γ dX8_mostWorthTo_22 rfl 3 rfl ?_
    refine jq_icmp_ge (tgt := 53) Γ dX8_mostWorthTo_23 rfl ?_ ?_
    · refine jq_sub Γ (L' := [(4, jI t4.1)]) [4] rfl ?_
      exact jq_done (hXt4 (t4.1, t4.2.2))
    · refine jq_iload Γ dX8_mostWorthTo_26 4 rfl ?_
      refine jq_aload_n Γ dX8_mostWorthTo_28 rfl 1 rfl (jq_at_0 (at_com hp1)) ?_
      refine jq_iload_n Γ dX8_mostWorthTo_29 rfl 2 rfl ?_
      refine jq_aload_n Γ dX8_mostWorthTo_30 rfl 0 rfl (jq_at_0 at_X_52) ?_
      refine jq_getR (v := 53) Γ hlY at_X_52 fl_RX8_9 rfl rfl ly_X8_row dX8_mostWorthTo_31 ?_
      refine jq_cpI (jq_virt (avs := [jI p2, jR 53]) (st := [jI t4.1]) Γ hlY rfl ml_RX8_81 rfl (at_com hp1) rfl rfl rfl rfl rfl dX8_mostWorthTo_34) (fun r h => ctX1_worthTo hp1 row_53 h) (fun v5 => ?_)
      refine jq_mmax Γ mw_RX8_41 mws_max mwi mwc_max rfl rfl dX8_mostWorthTo_37 ?_
      refine jq_nmI (fun v6 => ?_)
      refine jq_istore (L' := [(4, jI v6), (0, jR 52), (1, jR p1), (2, jI p2), (3, jI v1), (5, jI t4.2.1)]) Γ dX8_mostWorthTo_40 hnl rfl rfl ?_
      refine jq_aload_n Γ dX8_mostWorthTo_42 rfl 1 rfl (jq_at_0 at_X_52) ?_
      refine jq_aload_n Γ dX8_mostWorthTo_43 rfl 2 rfl (jq_at_0 (at_com hp1)) ?_
      refine jq_cwV (jq_virt (avs := [jR p1]) (st := []) Γ hlY rfl ml_RX8_68 rfl at_X_52 rfl rfl rfl rfl rfl dX8_mostWorthTo_44) (fun σ' h => ctX8_goOn hp1 h) (fun s7 => ?_)
      refine jq_iincN (L' := fun v8 => [(5, jI v8), (4, jI v6), (0, jR 52), (1, jR p1), (2, jI p2), (3, jI v1)]) Γ dX8_mostWorthTo_47 5 rfl hnl rfl (fun _ => rfl) (fun v8 => ?_)
      refine jq_goto Γ (tgt := 20) dX8_mostWorthTo_50 rfl ?_
      refine jq_sub Γ (L' := [(0, jR 52), (1, jR p1), (2, jI p2), (3, jI v1), (4, jI v6), (5, jI v8)]) [2, 3, 4, 5, 1, 0] rfl ?_
      exact jq_done (hCt4 (v6, v8, s7))
  · intro e9
    refine jq_iload Γ dX8_mostWorthTo_53 0 rfl ?_
    exact jq_ireturn Γ dX8_mostWorthTo_55 (hK0 _)


theorem dX10_mostFor_0 : decode cX10_mostFor 0 = .ok (.aload_n 0, 1) := by decide +kernel
theorem dX10_mostFor_1 : decode cX10_mostFor 1 = .ok (.getfield 25, 3) := by decide +kernel
theorem dX10_mostFor_4 : decode cX10_mostFor 4 = .ok (.iload_n 1, 1) := by decide +kernel
theorem dX10_mostFor_5 : decode cX10_mostFor 5 = .ok (.invokevirtual 227, 3) := by decide +kernel
theorem dX10_mostFor_8 : decode cX10_mostFor 8 = .ok (.ifCond .ne 9, 3) := by decide +kernel
theorem dX10_mostFor_11 : decode cX10_mostFor 11 = .ok (.aload_n 0, 1) := by decide +kernel
theorem dX10_mostFor_12 : decode cX10_mostFor 12 = .ok (.iconst 1, 1) := by decide +kernel
theorem dX10_mostFor_13 : decode cX10_mostFor 13 = .ok (.invokevirtual 117, 3) := by decide +kernel
theorem dX10_mostFor_16 : decode cX10_mostFor 16 = .ok (.ireturn, 1) := by decide +kernel
theorem dX10_mostFor_17 : decode cX10_mostFor 17 = .ok (.aload_n 0, 1) := by decide +kernel
theorem dX10_mostFor_18 : decode cX10_mostFor 18 = .ok (.aload_n 0, 1) := by decide +kernel
theorem dX10_mostFor_19 : decode cX10_mostFor 19 = .ok (.getfield 46, 3) := by decide +kernel
theorem dX10_mostFor_22 : decode cX10_mostFor 22 = .ok (.aload_n 0, 1) := by decide +kernel
theorem dX10_mostFor_23 : decode cX10_mostFor 23 = .ok (.getfield 25, 3) := by decide +kernel
theorem dX10_mostFor_26 : decode cX10_mostFor 26 = .ok (.iload_n 1, 1) := by decide +kernel
theorem dX10_mostFor_27 : decode cX10_mostFor 27 = .ok (.invokevirtual 361, 3) := by decide +kernel
theorem dX10_mostFor_30 : decode cX10_mostFor 30 = .ok (.invokevirtual 167, 3) := by decide +kernel
theorem dX10_mostFor_33 : decode cX10_mostFor 33 = .ok (.ireturn, 1) := by decide +kernel
set_option maxHeartbeats 4000000 in
set_option maxRecDepth 100000 in
theorem ctX10_mostFor {p1 : Int} {σ : jq_M} {res : Int} {σ' : jq_M}  (h : X10_mostFor p1 σ = some (res, σ')) : jq_MC jq_zX yX10_mostFor cX10_mostFor 2 (some .int) 6 157 [jR 0, jI p1] σ (some (jI res)) σ' := by
  refine jq_met (own := RX10) (L0 := [(0, jR 0), (1, jI p1)]) (by decide) rfl rfl rfl ?_
  intro X Γ hnl hlY hRT
  refine jq_use2 (P := fun r => jq_RT jq_zX X (some .int) (some (jI r.1)) r.2) ?_ h hRT
  intro K0 hK0
  unfold X10_mostFor
  refine jq_aload_n Γ dX10_mostFor_0 rfl 0 rfl (jq_at_0 at_X_0) ?_
  refine jq_getC (C := jq_cm2) Γ hlY at_X_0 fl_RX10_25 rfl rfl ly_now dX10_mostFor_1 (fun c1 hc2q => ?_)
  have hc2 := jq_cm2_com hc2q
  refine jq_iload_n Γ dX10_mostFor_4 rfl 1 rfl ?_
  refine jq_cpZ (jq_virt (avs := [jI p1]) (st := []) Γ hlY rfl ml_RX10_227 rfl (at_com hc2) rfl rfl rfl rfl rfl dX10_mostFor_5) rfl (fun r h => ctX1_isParty hc2 h) (fun v3 hz4 => ?_)
  refine jq_if_ne (tgt := 17) Γ dX10_mostFor_8 rfl ?_ ?_
  · refine jq_aload_n Γ dX10_mostFor_17 rfl 0 rfl (jq_at_0 at_X_0) ?_
    refine jq_aload_n Γ dX10_mostFor_18 rfl 0 rfl (jq_at_0 at_X_0) ?_
    refine jq_getR (v := 52) Γ hlY at_X_0 fl_RX10_46 rfl rfl ly_X10_survey dX10_mostFor_19 ?_
    refine jq_aload_n Γ dX10_mostFor_22 rfl 0 rfl (jq_at_0 at_X_0) ?_
    refine jq_getC (C := jq_cm2) Γ hlY at_X_0 fl_RX10_25 rfl rfl ly_now dX10_mostFor_23 (fun c5 hc6q => ?_)
    have hc6 := jq_cm2_com hc6q
    refine jq_iload_n Γ dX10_mostFor_26 rfl 1 rfl ?_
    refine jq_cwI (jq_virt (avs := [jR c5, jI p1]) (st := [jR 0]) Γ hlY rfl ml_RX10_361 rfl at_X_52 rfl rfl rfl rfl rfl dX10_mostFor_27) (fun r σ' h => ctX8_mostWorthTo hc6 h) (fun v7 s8 => ?_)
    refine jq_cwI (jq_virt (avs := [jI v7]) (st := []) Γ hlY rfl ml_RX10_167 rfl at_X_0 rfl rfl rfl rfl rfl dX10_mostFor_30) (fun r σ' h => ctX10_answer h) (fun v9 s10 => ?_)
    exact jq_ireturn Γ dX10_mostFor_33 (hK0 _)
  · refine jq_aload_n Γ dX10_mostFor_11 rfl 0 rfl (jq_at_0 at_X_0) ?_
    refine jq_iconst Γ dX10_mostFor_12 rfl ?_
    refine jq_cwI (jq_virt (avs := [jI 1]) (st := []) Γ hlY rfl ml_RX10_117 rfl at_X_0 rfl rfl rfl rfl rfl dX10_mostFor_13) (fun r σ' h => ctX10_refuse h) (fun v11 s12 => ?_)
    exact jq_ireturn Γ dX10_mostFor_16 (hK0 _)


theorem dX8_countSigned_0 : decode cX8_countSigned 0 = .ok (.aload_n 0, 1) := by decide +kernel
theorem dX8_countSigned_1 : decode cX8_countSigned 1 = .ok (.aload_n 1, 1) := by decide +kernel
theorem dX8_countSigned_2 : decode cX8_countSigned 2 = .ok (.invokevirtual 57, 3) := by decide +kernel
theorem dX8_countSigned_5 : decode cX8_countSigned 5 = .ok (.istore_n 3, 1) := by decide +kernel
theorem dX8_countSigned_6 : decode cX8_countSigned 6 = .ok (.iconst 0, 1) := by decide +kernel
theorem dX8_countSigned_7 : decode cX8_countSigned 7 = .ok (.istore 4, 2) := by decide +kernel
theorem dX8_countSigned_9 : decode cX8_countSigned 9 = .ok (.iconst 0, 1) := by decide +kernel
theorem dX8_countSigned_10 : decode cX8_countSigned 10 = .ok (.istore 5, 2) := by decide +kernel
theorem dX8_countSigned_12 : decode cX8_countSigned 12 = .ok (.iload 5, 2) := by decide +kernel
theorem dX8_countSigned_14 : decode cX8_countSigned 14 = .ok (.iload_n 3, 1) := by decide +kernel
theorem dX8_countSigned_15 : decode cX8_countSigned 15 = .ok (.if_icmp .ge 29, 3) := by decide +kernel
theorem dX8_countSigned_18 : decode cX8_countSigned 18 = .ok (.aload_n 1, 1) := by decide +kernel
theorem dX8_countSigned_19 : decode cX8_countSigned 19 = .ok (.iload_n 2, 1) := by decide +kernel
theorem dX8_countSigned_20 : decode cX8_countSigned 20 = .ok (.aload_n 0, 1) := by decide +kernel
theorem dX8_countSigned_21 : decode cX8_countSigned 21 = .ok (.getfield 9, 3) := by decide +kernel
theorem dX8_countSigned_24 : decode cX8_countSigned 24 = .ok (.invokevirtual 85, 3) := by decide +kernel
theorem dX8_countSigned_27 : decode cX8_countSigned 27 = .ok (.ifCond .eq 6, 3) := by decide +kernel
theorem dX8_countSigned_30 : decode cX8_countSigned 30 = .ok (.iinc 4 1, 3) := by decide +kernel
theorem dX8_countSigned_33 : decode cX8_countSigned 33 = .ok (.aload_n 0, 1) := by decide +kernel
theorem dX8_countSigned_34 : decode cX8_countSigned 34 = .ok (.aload_n 1, 1) := by decide +kernel
theorem dX8_countSigned_35 : decode cX8_countSigned 35 = .ok (.invokevirtual 68, 3) := by decide +kernel
theorem dX8_countSigned_38 : decode cX8_countSigned 38 = .ok (.iinc 5 1, 3) := by decide +kernel
theorem dX8_countSigned_41 : decode cX8_countSigned 41 = .ok (.goto (-29), 3) := by decide +kernel
theorem dX8_countSigned_44 : decode cX8_countSigned 44 = .ok (.iload 4, 2) := by decide +kernel
theorem dX8_countSigned_46 : decode cX8_countSigned 46 = .ok (.ireturn, 1) := by decide +kernel
set_option maxHeartbeats 4000000 in
set_option maxRecDepth 100000 in
theorem ctX8_countSigned {p1 : Int} {p2 : Int} {σ : jq_M} {res : Int} {σ' : jq_M} (hp1 : jq_com p1) (h : X8_countSigned p1 p2 σ = some (res, σ')) : jq_MC jq_zX yX8_countSigned cX8_countSigned 6 (some .int) 5 133 [jR 52, jR p1, jI p2] σ (some (jI res)) σ' := by
  refine jq_met (own := RX8) (L0 := [(0, jR 52), (1, jR p1), (2, jI p2)]) (by decide) rfl rfl rfl ?_
  intro X Γ hnl hlY hRT
  refine jq_use2 (P := fun r => jq_RT jq_zX X (some .int) (some (jI r.1)) r.2) ?_ h hRT
  intro K0 hK0
  unfold X8_countSigned
  refine jq_aload_n Γ dX8_countSigned_0 rfl 0 rfl (jq_at_0 at_X_52) ?_
  refine jq_aload_n Γ dX8_countSigned_1 rfl 1 rfl (jq_at_0 (at_com hp1)) ?_
  refine jq_cwI (jq_virt (avs := [jR p1]) (st := []) Γ hlY rfl ml_RX8_57 rfl at_X_52 rfl rfl rfl rfl rfl dX8_countSigned_2) (fun r σ' h => ctX8_begin hp1 h) (fun v1 s2 => ?_)
  refine jq_istore_n (L' := [(3, jI v1), (0, jR 52), (1, jR p1), (2, jI p2)]) Γ dX8_countSigned_5 rfl hnl rfl rfl ?_
  refine jq_iconst Γ dX8_countSigned_6 rfl ?_
  refine jq_istore (L' := [(4, jI 0), (3, jI v1), (0, jR 52), (1, jR p1), (2, jI p2)]) Γ dX8_countSigned_7 hnl rfl rfl ?_
  refine jq_iconst Γ dX8_countSigned_9 rfl ?_
  refine jq_istore (L' := [(5, jI 0), (4, jI 0), (3, jI v1), (0, jR 52), (1, jR p1), (2, jI p2)]) Γ dX8_countSigned_10 hnl rfl rfl ?_
  refine jq_sub Γ (L' := [(0, jR 52), (1, jR p1), (2, jI p2), (3, jI v1), (4, jI 0), (5, jI 0)]) [3, 4, 5, 2, 1, 0] rfl ?_
  refine jq_loop2 (C := fun (t3 : Int × Int × jq_M) => jq_V jq_zX X (jq_zN jq_zX) t3.2.2 12 [(0, jR 52), (1, jR p1), (2, jI p2), (3, jI v1), (4, jI t3.1), (5, jI t3.2.1)] []) (KX := fun (e12 : Int × jq_M) => jq_V jq_zX X (jq_zN jq_zX) e12.2 44 [(4, jI e12.1)] []) ?_ ?_ (0, 0, s2)
  · intro K12_t3 hCt3 hXt3 t3
    unfold X8_countSigned_b12
    have hj33_1010 : ∀ (j6 : Int) (j7 : Int) (s8 : jq_M), jq_J (X8_countSigned_j33 p1 p2 v1 j6 j7 s8) K12_t3 (jq_V jq_zX X (jq_zN jq_zX) s8 33 [(0, jR 52), (1, jR p1), (2, jI p2), (3, jI v1), (4, jI j6), (5, jI j7)] []) := by
      intro j6 j7 s8
      unfold X8_countSigned_j33
      refine jq_aload_n Γ dX8_countSigned_33 rfl 0 rfl (jq_at_0 at_X_52) ?_
      refine jq_aload_n Γ dX8_countSigned_34 rfl 1 rfl (jq_at_0 (at_com hp1)) ?_
      refine jq_cwV (jq_virt (avs := [jR p1]) (st := []) Γ hlY rfl ml_RX8_68 rfl at_X_52 rfl rfl rfl rfl rfl dX8_countSigned_35) (fun σ' h => ctX8_goOn hp1 h) (fun s9 => ?_)
      refine jq_iincN (L' := fun v10 => [(5, jI v10), (0, jR 52), (1, jR p1), (2, jI p2), (3, jI v1), (4, jI j6)]) Γ dX8_countSigned_38 5 rfl hnl rfl (fun _ => rfl) (fun v10 => ?_)
      refine jq_goto Γ (tgt := 12) dX8_countSigned_41 rfl ?_
      refine jq_sub Γ (L' := [(0, jR 52), (1, jR p1), (2, jI p2), (3, jI v1), (4, jI j6), (5, jI v10)]) [1, 2, 3, 4, 5, 0] rfl ?_
      exact jq_done (hCt3 (j6, v10, s9))
    refine jq_iload Γ dX8_countSigned_12 5 rfl ?_
    refine jq_iload_n Γ dX8_countSigned_14 rfl 3 rfl ?_
    refine jq_icmp_ge (tgt := 44) Γ dX8_countSigned_15 rfl ?_ ?_
    · refine jq_sub Γ (L' := [(4, jI t3.1)]) [4] rfl ?_
      exact jq_done (hXt3 (t3.1, t3.2.2))
    · refine jq_aload_n Γ dX8_countSigned_18 rfl 1 rfl (jq_at_0 (at_com hp1)) ?_
      refine jq_iload_n Γ dX8_countSigned_19 rfl 2 rfl ?_
      refine jq_aload_n Γ dX8_countSigned_20 rfl 0 rfl (jq_at_0 at_X_52) ?_
      refine jq_getR (v := 53) Γ hlY at_X_52 fl_RX8_9 rfl rfl ly_X8_row dX8_countSigned_21 ?_
      refine jq_cpZ (jq_virt (avs := [jI p2, jR 53]) (st := []) Γ hlY rfl ml_RX8_85 rfl (at_com hp1) rfl rfl rfl rfl rfl dX8_countSigned_24) rfl (fun r h => ctX1_doesSign hp1 row_53 h) (fun v4 hz5 => ?_)
      refine jq_if_eq (tgt := 33) Γ dX8_countSigned_27 rfl ?_ ?_
      · exact hj33_1010 t3.1 t3.2.1 t3.2.2
      · refine jq_iincN (L' := fun v11 => [(4, jI v11), (0, jR 52), (1, jR p1), (2, jI p2), (3, jI v1), (5, jI t3.2.1)]) Γ dX8_countSigned_30 4 rfl hnl rfl (fun _ => rfl) (fun v11 => ?_)
        refine jq_sub Γ (L' := [(0, jR 52), (1, jR p1), (2, jI p2), (3, jI v1), (4, jI v11), (5, jI t3.2.1)]) [1, 2, 3, 4, 0, 5] rfl ?_
        exact hj33_1010 v11 t3.2.1 t3.2.2
  · intro e12
    refine jq_iload Γ dX8_countSigned_44 0 rfl ?_
    exact jq_ireturn Γ dX8_countSigned_46 (hK0 _)


theorem dX10_signsIn_0 : decode cX10_signsIn 0 = .ok (.aload_n 0, 1) := by decide +kernel
theorem dX10_signsIn_1 : decode cX10_signsIn 1 = .ok (.getfield 25, 3) := by decide +kernel
theorem dX10_signsIn_4 : decode cX10_signsIn 4 = .ok (.iload_n 1, 1) := by decide +kernel
theorem dX10_signsIn_5 : decode cX10_signsIn 5 = .ok (.invokevirtual 227, 3) := by decide +kernel
theorem dX10_signsIn_8 : decode cX10_signsIn 8 = .ok (.ifCond .ne 9, 3) := by decide +kernel
theorem dX10_signsIn_11 : decode cX10_signsIn 11 = .ok (.aload_n 0, 1) := by decide +kernel
theorem dX10_signsIn_12 : decode cX10_signsIn 12 = .ok (.iconst 1, 1) := by decide +kernel
theorem dX10_signsIn_13 : decode cX10_signsIn 13 = .ok (.invokevirtual 117, 3) := by decide +kernel
theorem dX10_signsIn_16 : decode cX10_signsIn 16 = .ok (.ireturn, 1) := by decide +kernel
theorem dX10_signsIn_17 : decode cX10_signsIn 17 = .ok (.aload_n 0, 1) := by decide +kernel
theorem dX10_signsIn_18 : decode cX10_signsIn 18 = .ok (.aload_n 0, 1) := by decide +kernel
theorem dX10_signsIn_19 : decode cX10_signsIn 19 = .ok (.getfield 46, 3) := by decide +kernel
theorem dX10_signsIn_22 : decode cX10_signsIn 22 = .ok (.aload_n 0, 1) := by decide +kernel
theorem dX10_signsIn_23 : decode cX10_signsIn 23 = .ok (.getfield 25, 3) := by decide +kernel
theorem dX10_signsIn_26 : decode cX10_signsIn 26 = .ok (.iload_n 1, 1) := by decide +kernel
theorem dX10_signsIn_27 : decode cX10_signsIn 27 = .ok (.invokevirtual 365, 3) := by decide +kernel
theorem dX10_signsIn_30 : decode cX10_signsIn 30 = .ok (.invokevirtual 167, 3) := by decide +kernel
theorem dX10_signsIn_33 : decode cX10_signsIn 33 = .ok (.ireturn, 1) := by decide +kernel
set_option maxHeartbeats 4000000 in
set_option maxRecDepth 100000 in
theorem ctX10_signsIn {p1 : Int} {σ : jq_M} {res : Int} {σ' : jq_M}  (h : X10_signsIn p1 σ = some (res, σ')) : jq_MC jq_zX yX10_signsIn cX10_signsIn 2 (some .int) 6 158 [jR 0, jI p1] σ (some (jI res)) σ' := by
  refine jq_met (own := RX10) (L0 := [(0, jR 0), (1, jI p1)]) (by decide) rfl rfl rfl ?_
  intro X Γ hnl hlY hRT
  refine jq_use2 (P := fun r => jq_RT jq_zX X (some .int) (some (jI r.1)) r.2) ?_ h hRT
  intro K0 hK0
  unfold X10_signsIn
  refine jq_aload_n Γ dX10_signsIn_0 rfl 0 rfl (jq_at_0 at_X_0) ?_
  refine jq_getC (C := jq_cm2) Γ hlY at_X_0 fl_RX10_25 rfl rfl ly_now dX10_signsIn_1 (fun c1 hc2q => ?_)
  have hc2 := jq_cm2_com hc2q
  refine jq_iload_n Γ dX10_signsIn_4 rfl 1 rfl ?_
  refine jq_cpZ (jq_virt (avs := [jI p1]) (st := []) Γ hlY rfl ml_RX10_227 rfl (at_com hc2) rfl rfl rfl rfl rfl dX10_signsIn_5) rfl (fun r h => ctX1_isParty hc2 h) (fun v3 hz4 => ?_)
  refine jq_if_ne (tgt := 17) Γ dX10_signsIn_8 rfl ?_ ?_
  · refine jq_aload_n Γ dX10_signsIn_17 rfl 0 rfl (jq_at_0 at_X_0) ?_
    refine jq_aload_n Γ dX10_signsIn_18 rfl 0 rfl (jq_at_0 at_X_0) ?_
    refine jq_getR (v := 52) Γ hlY at_X_0 fl_RX10_46 rfl rfl ly_X10_survey dX10_signsIn_19 ?_
    refine jq_aload_n Γ dX10_signsIn_22 rfl 0 rfl (jq_at_0 at_X_0) ?_
    refine jq_getC (C := jq_cm2) Γ hlY at_X_0 fl_RX10_25 rfl rfl ly_now dX10_signsIn_23 (fun c5 hc6q => ?_)
    have hc6 := jq_cm2_com hc6q
    refine jq_iload_n Γ dX10_signsIn_26 rfl 1 rfl ?_
    refine jq_cwI (jq_virt (avs := [jR c5, jI p1]) (st := [jR 0]) Γ hlY rfl ml_RX10_365 rfl at_X_52 rfl rfl rfl rfl rfl dX10_signsIn_27) (fun r σ' h => ctX8_countSigned hc6 h) (fun v7 s8 => ?_)
    refine jq_cwI (jq_virt (avs := [jI v7]) (st := []) Γ hlY rfl ml_RX10_167 rfl at_X_0 rfl rfl rfl rfl rfl dX10_signsIn_30) (fun r σ' h => ctX10_answer h) (fun v9 s10 => ?_)
    exact jq_ireturn Γ dX10_signsIn_33 (hK0 _)
  · refine jq_aload_n Γ dX10_signsIn_11 rfl 0 rfl (jq_at_0 at_X_0) ?_
    refine jq_iconst Γ dX10_signsIn_12 rfl ?_
    refine jq_cwI (jq_virt (avs := [jI 1]) (st := []) Γ hlY rfl ml_RX10_117 rfl at_X_0 rfl rfl rfl rfl rfl dX10_signsIn_13) (fun r σ' h => ctX10_refuse h) (fun v11 s12 => ?_)
    exact jq_ireturn Γ dX10_signsIn_16 (hK0 _)


theorem dX10_seatBest_0 : decode cX10_seatBest 0 = .ok (.aload_n 0, 1) := by decide +kernel
theorem dX10_seatBest_1 : decode cX10_seatBest 1 = .ok (.getfield 25, 3) := by decide +kernel
theorem dX10_seatBest_4 : decode cX10_seatBest 4 = .ok (.getfield 185, 3) := by decide +kernel
theorem dX10_seatBest_7 : decode cX10_seatBest 7 = .ok (.ifCond .ne 10, 3) := by decide +kernel
theorem dX10_seatBest_10 : decode cX10_seatBest 10 = .ok (.aload_n 0, 1) := by decide +kernel
theorem dX10_seatBest_11 : decode cX10_seatBest 11 = .ok (.bipush 6, 2) := by decide +kernel
theorem dX10_seatBest_13 : decode cX10_seatBest 13 = .ok (.invokevirtual 117, 3) := by decide +kernel
theorem dX10_seatBest_16 : decode cX10_seatBest 16 = .ok (.ireturn, 1) := by decide +kernel
theorem dX10_seatBest_17 : decode cX10_seatBest 17 = .ok (.aload_n 0, 1) := by decide +kernel
theorem dX10_seatBest_18 : decode cX10_seatBest 18 = .ok (.getfield 46, 3) := by decide +kernel
theorem dX10_seatBest_21 : decode cX10_seatBest 21 = .ok (.aload_n 0, 1) := by decide +kernel
theorem dX10_seatBest_22 : decode cX10_seatBest 22 = .ok (.getfield 25, 3) := by decide +kernel
theorem dX10_seatBest_25 : decode cX10_seatBest 25 = .ok (.invokevirtual 339, 3) := by decide +kernel
theorem dX10_seatBest_28 : decode cX10_seatBest 28 = .ok (.istore_n 1, 1) := by decide +kernel
theorem dX10_seatBest_29 : decode cX10_seatBest 29 = .ok (.aload_n 0, 1) := by decide +kernel
theorem dX10_seatBest_30 : decode cX10_seatBest 30 = .ok (.getfield 46, 3) := by decide +kernel
theorem dX10_seatBest_33 : decode cX10_seatBest 33 = .ok (.getfield 342, 3) := by decide +kernel
theorem dX10_seatBest_36 : decode cX10_seatBest 36 = .ok (.iconst 0, 1) := by decide +kernel
theorem dX10_seatBest_37 : decode cX10_seatBest 37 = .ok (.aload_n 0, 1) := by decide +kernel
theorem dX10_seatBest_38 : decode cX10_seatBest 38 = .ok (.getfield 25, 3) := by decide +kernel
theorem dX10_seatBest_41 : decode cX10_seatBest 41 = .ok (.getfield 200, 3) := by decide +kernel
theorem dX10_seatBest_44 : decode cX10_seatBest 44 = .ok (.iconst 0, 1) := by decide +kernel
theorem dX10_seatBest_45 : decode cX10_seatBest 45 = .ok (.iconst 5, 1) := by decide +kernel
theorem dX10_seatBest_46 : decode cX10_seatBest 46 = .ok (.invokestatic 139, 3) := by decide +kernel
theorem dX10_seatBest_49 : decode cX10_seatBest 49 = .ok (.aload_n 0, 1) := by decide +kernel
theorem dX10_seatBest_50 : decode cX10_seatBest 50 = .ok (.iload_n 1, 1) := by decide +kernel
theorem dX10_seatBest_51 : decode cX10_seatBest 51 = .ok (.invokevirtual 167, 3) := by decide +kernel
theorem dX10_seatBest_54 : decode cX10_seatBest 54 = .ok (.ireturn, 1) := by decide +kernel
set_option maxHeartbeats 4000000 in
set_option maxRecDepth 100000 in
theorem ctX10_seatBest  {σ : jq_M} {res : Int} {σ' : jq_M}  (h : X10_seatBest σ = some (res, σ')) : jq_MC jq_zX yX10_seatBest cX10_seatBest 2 (some .int) 6 157 [jR 0] σ (some (jI res)) σ' := by
  refine jq_met (own := RX10) (L0 := [(0, jR 0)]) (by decide) rfl rfl rfl ?_
  intro X Γ hnl hlY hRT
  refine jq_use2 (P := fun r => jq_RT jq_zX X (some .int) (some (jI r.1)) r.2) ?_ h hRT
  intro K0 hK0
  unfold X10_seatBest
  refine jq_aload_n Γ dX10_seatBest_0 rfl 0 rfl (jq_at_0 at_X_0) ?_
  refine jq_getC (C := jq_cm2) Γ hlY at_X_0 fl_RX10_25 rfl rfl ly_now dX10_seatBest_1 (fun c1 hc2q => ?_)
  have hc2 := jq_cm2_com hc2q
  refine jq_getI (J := 0) Γ (at_com hc2) fl_RX10_185 rfl rfl dX10_seatBest_4 ?_
  refine jq_if_ne (tgt := 17) Γ dX10_seatBest_7 rfl ?_ ?_
  · refine jq_aload_n Γ dX10_seatBest_17 rfl 0 rfl (jq_at_0 at_X_0) ?_
    refine jq_getR (v := 52) Γ hlY at_X_0 fl_RX10_46 rfl rfl ly_X10_survey dX10_seatBest_18 ?_
    refine jq_aload_n Γ dX10_seatBest_21 rfl 0 rfl (jq_at_0 at_X_0) ?_
    refine jq_getC (C := jq_cm2) Γ hlY at_X_0 fl_RX10_25 rfl rfl ly_now dX10_seatBest_22 (fun c3 hc4q => ?_)
    have hc4 := jq_cm2_com hc4q
    refine jq_cwI (jq_virt (avs := [jR c3]) (st := []) Γ hlY rfl ml_RX10_339 rfl at_X_52 rfl rfl rfl rfl rfl dX10_seatBest_25) (fun r σ' h => ctX8_findBest hc4 h) (fun v5 s6 => ?_)
    refine jq_istore_n (L' := [(1, jI v5), (0, jR 0)]) Γ dX10_seatBest_28 rfl hnl rfl rfl ?_
    refine jq_aload_n Γ dX10_seatBest_29 rfl 1 rfl (jq_at_0 at_X_0) ?_
    refine jq_getR (v := 52) Γ hlY at_X_0 fl_RX10_46 rfl rfl ly_X10_survey dX10_seatBest_30 ?_
    refine jq_getR (v := 54) Γ hlY at_X_52 fl_RX10_342 rfl rfl ly_X8_chosen dX10_seatBest_33 ?_
    refine jq_iconst Γ dX10_seatBest_36 rfl ?_
    refine jq_aload_n Γ dX10_seatBest_37 rfl 1 rfl (jq_at_0 at_X_0) ?_
    refine jq_getC (C := jq_cm2) Γ hlY at_X_0 fl_RX10_25 rfl rfl ly_now dX10_seatBest_38 (fun c7 hc8q => ?_)
    have hc8 := jq_cm2_com hc8q
    refine jq_getR (v := (c7 + 3)) Γ hlY (at_com hc8) fl_RX10_200 rfl rfl (ly_X1_seats hc8) dX10_seatBest_41 ?_
    refine jq_iconst Γ dX10_seatBest_44 rfl ?_
    refine jq_iconst Γ dX10_seatBest_45 rfl ?_
    refine jq_copyi Γ at_X_54 (at_com_3 hc8) rfl rfl rfl aw_RX10_139 awn aws awi rfl rfl dX10_seatBest_46 (fun s9 => ?_)
    refine jq_aload_n Γ dX10_seatBest_49 rfl 1 rfl (jq_at_0 at_X_0) ?_
    refine jq_iload_n Γ dX10_seatBest_50 rfl 0 rfl ?_
    refine jq_cwI (jq_virt (avs := [jI v5]) (st := []) Γ hlY rfl ml_RX10_167 rfl at_X_0 rfl rfl rfl rfl rfl dX10_seatBest_51) (fun r σ' h => ctX10_answer h) (fun v10 s11 => ?_)
    exact jq_ireturn Γ dX10_seatBest_54 (hK0 _)
  · refine jq_aload_n Γ dX10_seatBest_10 rfl 0 rfl (jq_at_0 at_X_0) ?_
    refine jq_bipush Γ dX10_seatBest_11 rfl ?_
    refine jq_cwI (jq_virt (avs := [jI 6]) (st := []) Γ hlY rfl ml_RX10_117 rfl at_X_0 rfl rfl rfl rfl rfl dX10_seatBest_13) (fun r σ' h => ctX10_refuse h) (fun v12 s13 => ?_)
    exact jq_ireturn Γ dX10_seatBest_16 (hK0 _)


theorem dX1_lackOf_0 : decode cX1_lackOf 0 = .ok (.aload_n 0, 1) := by decide +kernel
theorem dX1_lackOf_1 : decode cX1_lackOf 1 = .ok (.aload_n 1, 1) := by decide +kernel
theorem dX1_lackOf_2 : decode cX1_lackOf 2 = .ok (.invokevirtual 135, 3) := by decide +kernel
theorem dX1_lackOf_5 : decode cX1_lackOf 5 = .ok (.iconst 0, 1) := by decide +kernel
theorem dX1_lackOf_6 : decode cX1_lackOf 6 = .ok (.istore_n 2, 1) := by decide +kernel
theorem dX1_lackOf_7 : decode cX1_lackOf 7 = .ok (.iconst 0, 1) := by decide +kernel
theorem dX1_lackOf_8 : decode cX1_lackOf 8 = .ok (.istore_n 3, 1) := by decide +kernel
theorem dX1_lackOf_9 : decode cX1_lackOf 9 = .ok (.iload_n 3, 1) := by decide +kernel
theorem dX1_lackOf_10 : decode cX1_lackOf 10 = .ok (.aload_n 0, 1) := by decide +kernel
theorem dX1_lackOf_11 : decode cX1_lackOf 11 = .ok (.getfield 66, 3) := by decide +kernel
theorem dX1_lackOf_14 : decode cX1_lackOf 14 = .ok (.if_icmp .ge 34, 3) := by decide +kernel
theorem dX1_lackOf_17 : decode cX1_lackOf 17 = .ok (.iload_n 3, 1) := by decide +kernel
theorem dX1_lackOf_18 : decode cX1_lackOf 18 = .ok (.iconst 5, 1) := by decide +kernel
theorem dX1_lackOf_19 : decode cX1_lackOf 19 = .ok (.if_icmp .ge 29, 3) := by decide +kernel
theorem dX1_lackOf_22 : decode cX1_lackOf 22 = .ok (.iload_n 2, 1) := by decide +kernel
theorem dX1_lackOf_23 : decode cX1_lackOf 23 = .ok (.iconst 0, 1) := by decide +kernel
theorem dX1_lackOf_24 : decode cX1_lackOf 24 = .ok (.aload_n 0, 1) := by decide +kernel
theorem dX1_lackOf_25 : decode cX1_lackOf 25 = .ok (.getfield 15, 3) := by decide +kernel
theorem dX1_lackOf_28 : decode cX1_lackOf 28 = .ok (.iload_n 3, 1) := by decide +kernel
theorem dX1_lackOf_29 : decode cX1_lackOf 29 = .ok (.iaload, 1) := by decide +kernel
theorem dX1_lackOf_30 : decode cX1_lackOf 30 = .ok (.aload_n 0, 1) := by decide +kernel
theorem dX1_lackOf_31 : decode cX1_lackOf 31 = .ok (.getfield 56, 3) := by decide +kernel
theorem dX1_lackOf_34 : decode cX1_lackOf 34 = .ok (.iload_n 3, 1) := by decide +kernel
theorem dX1_lackOf_35 : decode cX1_lackOf 35 = .ok (.iaload, 1) := by decide +kernel
theorem dX1_lackOf_36 : decode cX1_lackOf 36 = .ok (.isub, 1) := by decide +kernel
theorem dX1_lackOf_37 : decode cX1_lackOf 37 = .ok (.invokestatic 139, 3) := by decide +kernel
theorem dX1_lackOf_40 : decode cX1_lackOf 40 = .ok (.iadd, 1) := by decide +kernel
theorem dX1_lackOf_41 : decode cX1_lackOf 41 = .ok (.istore_n 2, 1) := by decide +kernel
theorem dX1_lackOf_42 : decode cX1_lackOf 42 = .ok (.iinc 3 1, 3) := by decide +kernel
theorem dX1_lackOf_45 : decode cX1_lackOf 45 = .ok (.goto (-36), 3) := by decide +kernel
theorem dX1_lackOf_48 : decode cX1_lackOf 48 = .ok (.iload_n 2, 1) := by decide +kernel
theorem dX1_lackOf_49 : decode cX1_lackOf 49 = .ok (.ireturn, 1) := by decide +kernel
set_option maxHeartbeats 4000000 in
set_option maxRecDepth 100000 in
theorem ctX1_lackOf {o : Int} {p1 : Int} {σ : jq_M} {res : Int} {σ' : jq_M} (ho : jq_com o) (hp1 : jq_row p1) (h : X1_lackOf o p1 σ = some (res, σ')) : jq_MC jq_zX yX1_lackOf cX1_lackOf 4 (some .int) 4 110 [jR o, jR p1] σ (some (jI res)) σ' := by
  refine jq_met (own := RX1) (L0 := [(0, jR o), (1, jR p1)]) (by decide) rfl rfl rfl ?_
  intro X Γ hnl hlY hRT
  refine jq_use2 (P := fun r => jq_RT jq_zX X (some .int) (some (jI r.1)) r.2) ?_ h hRT
  intro K0 hK0
  unfold X1_lackOf
  refine jq_aload_n Γ dX1_lackOf_0 rfl 0 rfl (jq_at_0 (at_com ho)) ?_
  refine jq_aload_n Γ dX1_lackOf_1 rfl 1 rfl (jq_at_0 (at_row hp1)) ?_
  refine jq_cwV (jq_virt (avs := [jR p1]) (st := []) Γ hlY rfl ml_RX1_135 rfl (at_com ho) rfl rfl rfl rfl rfl dX1_lackOf_2) (fun σ' h => ctX1_weigh ho hp1 h) (fun s1 => ?_)
  refine jq_iconst Γ dX1_lackOf_5 rfl ?_
  refine jq_istore_n (L' := [(2, jI 0), (0, jR o), (1, jR p1)]) Γ dX1_lackOf_6 rfl hnl rfl rfl ?_
  refine jq_iconst Γ dX1_lackOf_7 rfl ?_
  refine jq_istore_n (L' := [(3, jI 0), (2, jI 0), (0, jR o), (1, jR p1)]) Γ dX1_lackOf_8 rfl hnl rfl rfl ?_
  refine jq_sub Γ (L' := [(0, jR o), (2, jI 0), (3, jI 0)]) [2, 1, 0] rfl ?_
  refine jq_loop2 (C := fun (t2 : Int × Int) => jq_V jq_zX X (jq_zN jq_zX) s1 9 [(0, jR o), (2, jI t2.1), (3, jI t2.2)] []) (KX := fun (e7 : Int) => jq_V jq_zX X (jq_zN jq_zX) s1 48 [(2, jI e7)] []) ?_ ?_ (0, 0)
  · intro K9_t2 hCt2 hXt2 t2
    unfold X1_lackOf_b9
    refine jq_iload_n Γ dX1_lackOf_9 rfl 2 rfl ?_
    refine jq_aload_n Γ dX1_lackOf_10 rfl 0 rfl (jq_at_0 (at_com ho)) ?_
    refine jq_getI (J := 2) Γ (at_com ho) fl_RX1_66 rfl rfl dX1_lackOf_11 ?_
    refine jq_icmp_ge (tgt := 48) Γ dX1_lackOf_14 rfl ?_ ?_
    · refine jq_sub Γ (L' := [(2, jI t2.1)]) [1] rfl ?_
      exact jq_done (hXt2 t2.1)
    · refine jq_iload_n Γ dX1_lackOf_17 rfl 2 rfl ?_
      refine jq_iconst Γ dX1_lackOf_18 rfl ?_
      refine jq_icmp_ge (tgt := 48) Γ dX1_lackOf_19 rfl ?_ ?_
      · refine jq_sub Γ (L' := [(2, jI t2.1)]) [1] rfl ?_
        exact jq_done (hXt2 t2.1)
      · refine jq_iload_n Γ dX1_lackOf_22 rfl 1 rfl ?_
        refine jq_iconst Γ dX1_lackOf_23 rfl ?_
        refine jq_aload_n Γ dX1_lackOf_24 rfl 0 rfl (jq_at_0 (at_com ho)) ?_
        refine jq_getR (v := (o + 2)) Γ hlY (at_com ho) fl_RX1_15 rfl rfl (ly_X1_leasts ho) dX1_lackOf_25 ?_
        refine jq_iload_n Γ dX1_lackOf_28 rfl 2 rfl ?_
        refine jq_iald Γ (at_com_2 ho) rfl dX1_lackOf_29 (fun v3 => ?_)
        refine jq_aload_n Γ dX1_lackOf_30 rfl 0 rfl (jq_at_0 (at_com ho)) ?_
        refine jq_getR (v := (o + 19)) Γ hlY (at_com ho) fl_RX1_56 rfl rfl (ly_X1_scales ho) dX1_lackOf_31 ?_
        refine jq_iload_n Γ dX1_lackOf_34 rfl 2 rfl ?_
        refine jq_iald Γ (at_com_19 ho) rfl dX1_lackOf_35 (fun v4 => ?_)
        refine jq_isub Γ dX1_lackOf_36 ?_
        refine jq_mmax Γ mw_RX1_139 mws_max mwi mwc_max rfl rfl dX1_lackOf_37 ?_
        refine jq_iadd Γ dX1_lackOf_40 ?_
        refine jq_nmI (fun v5 => ?_)
        refine jq_istore_n (L' := [(2, jI v5), (0, jR o), (3, jI t2.2)]) Γ dX1_lackOf_41 rfl hnl rfl rfl ?_
        refine jq_iincN (L' := fun v6 => [(3, jI v6), (2, jI v5), (0, jR o)]) Γ dX1_lackOf_42 2 rfl hnl rfl (fun _ => rfl) (fun v6 => ?_)
        refine jq_goto Γ (tgt := 9) dX1_lackOf_45 rfl ?_
        refine jq_sub Γ (L' := [(0, jR o), (2, jI v5), (3, jI v6)]) [2, 1, 0] rfl ?_
        exact jq_done (hCt2 (v5, v6))
  · intro e7
    refine jq_iload_n Γ dX1_lackOf_48 rfl 0 rfl ?_
    exact jq_ireturn Γ dX1_lackOf_49 (hK0 _)


theorem dX10_fish_0 : decode cX10_fish 0 = .ok (.aload_n 0, 1) := by decide +kernel
theorem dX10_fish_1 : decode cX10_fish 1 = .ok (.aload_n 0, 1) := by decide +kernel
theorem dX10_fish_2 : decode cX10_fish 2 = .ok (.getfield 25, 3) := by decide +kernel
theorem dX10_fish_5 : decode cX10_fish 5 = .ok (.aload_n 0, 1) := by decide +kernel
theorem dX10_fish_6 : decode cX10_fish 6 = .ok (.getfield 25, 3) := by decide +kernel
theorem dX10_fish_9 : decode cX10_fish 9 = .ok (.getfield 200, 3) := by decide +kernel
theorem dX10_fish_12 : decode cX10_fish 12 = .ok (.invokevirtual 368, 3) := by decide +kernel
theorem dX10_fish_15 : decode cX10_fish 15 = .ok (.invokevirtual 167, 3) := by decide +kernel
theorem dX10_fish_18 : decode cX10_fish 18 = .ok (.ireturn, 1) := by decide +kernel
set_option maxHeartbeats 4000000 in
set_option maxRecDepth 100000 in
theorem ctX10_fish  {σ : jq_M} {res : Int} {σ' : jq_M}  (h : X10_fish σ = some (res, σ')) : jq_MC jq_zX yX10_fish cX10_fish 1 (some .int) 5 133 [jR 0] σ (some (jI res)) σ' := by
  refine jq_met (own := RX10) (L0 := [(0, jR 0)]) (by decide) rfl rfl rfl ?_
  intro X Γ hnl hlY hRT
  refine jq_use2 (P := fun r => jq_RT jq_zX X (some .int) (some (jI r.1)) r.2) ?_ h hRT
  intro K0 hK0
  unfold X10_fish
  refine jq_aload_n Γ dX10_fish_0 rfl 0 rfl (jq_at_0 at_X_0) ?_
  refine jq_aload_n Γ dX10_fish_1 rfl 0 rfl (jq_at_0 at_X_0) ?_
  refine jq_getC (C := jq_cm2) Γ hlY at_X_0 fl_RX10_25 rfl rfl ly_now dX10_fish_2 (fun c1 hc2q => ?_)
  have hc2 := jq_cm2_com hc2q
  refine jq_aload_n Γ dX10_fish_5 rfl 0 rfl (jq_at_0 at_X_0) ?_
  refine jq_getC (C := jq_cm2) Γ hlY at_X_0 fl_RX10_25 rfl rfl ly_now dX10_fish_6 (fun c3 hc4q => ?_)
  have hc4 := jq_cm2_com hc4q
  refine jq_getR (v := (c3 + 3)) Γ hlY (at_com hc4) fl_RX10_200 rfl rfl (ly_X1_seats hc4) dX10_fish_9 ?_
  refine jq_cwI (jq_virt (avs := [jR (c3 + 3)]) (st := [jR 0]) Γ hlY rfl ml_RX10_368 rfl (at_com hc2) rfl rfl rfl rfl rfl dX10_fish_12) (fun r σ' h => ctX1_lackOf hc2 (row_com hc4) h) (fun v5 s6 => ?_)
  refine jq_cwI (jq_virt (avs := [jI v5]) (st := []) Γ hlY rfl ml_RX10_167 rfl at_X_0 rfl rfl rfl rfl rfl dX10_fish_15) (fun r σ' h => ctX10_answer h) (fun v7 s8 => ?_)
  exact jq_ireturn Γ dX10_fish_18 (hK0 _)


theorem dX8_leastLack_0 : decode cX8_leastLack 0 = .ok (.aload_n 0, 1) := by decide +kernel
theorem dX8_leastLack_1 : decode cX8_leastLack 1 = .ok (.aload_n 1, 1) := by decide +kernel
theorem dX8_leastLack_2 : decode cX8_leastLack 2 = .ok (.invokevirtual 57, 3) := by decide +kernel
theorem dX8_leastLack_5 : decode cX8_leastLack 5 = .ok (.istore_n 2, 1) := by decide +kernel
theorem dX8_leastLack_6 : decode cX8_leastLack 6 = .ok (.aload_n 1, 1) := by decide +kernel
theorem dX8_leastLack_7 : decode cX8_leastLack 7 = .ok (.aload_n 0, 1) := by decide +kernel
theorem dX8_leastLack_8 : decode cX8_leastLack 8 = .ok (.getfield 9, 3) := by decide +kernel
theorem dX8_leastLack_11 : decode cX8_leastLack 11 = .ok (.invokevirtual 89, 3) := by decide +kernel
theorem dX8_leastLack_14 : decode cX8_leastLack 14 = .ok (.istore_n 3, 1) := by decide +kernel
theorem dX8_leastLack_15 : decode cX8_leastLack 15 = .ok (.iconst 0, 1) := by decide +kernel
theorem dX8_leastLack_16 : decode cX8_leastLack 16 = .ok (.istore 4, 2) := by decide +kernel
theorem dX8_leastLack_18 : decode cX8_leastLack 18 = .ok (.iload 4, 2) := by decide +kernel
theorem dX8_leastLack_20 : decode cX8_leastLack 20 = .ok (.iload_n 2, 1) := by decide +kernel
theorem dX8_leastLack_21 : decode cX8_leastLack 21 = .ok (.if_icmp .ge 27, 3) := by decide +kernel
theorem dX8_leastLack_24 : decode cX8_leastLack 24 = .ok (.iload_n 3, 1) := by decide +kernel
theorem dX8_leastLack_25 : decode cX8_leastLack 25 = .ok (.aload_n 1, 1) := by decide +kernel
theorem dX8_leastLack_26 : decode cX8_leastLack 26 = .ok (.aload_n 0, 1) := by decide +kernel
theorem dX8_leastLack_27 : decode cX8_leastLack 27 = .ok (.getfield 9, 3) := by decide +kernel
theorem dX8_leastLack_30 : decode cX8_leastLack 30 = .ok (.invokevirtual 89, 3) := by decide +kernel
theorem dX8_leastLack_33 : decode cX8_leastLack 33 = .ok (.invokestatic 54, 3) := by decide +kernel
theorem dX8_leastLack_36 : decode cX8_leastLack 36 = .ok (.istore_n 3, 1) := by decide +kernel
theorem dX8_leastLack_37 : decode cX8_leastLack 37 = .ok (.aload_n 0, 1) := by decide +kernel
theorem dX8_leastLack_38 : decode cX8_leastLack 38 = .ok (.aload_n 1, 1) := by decide +kernel
theorem dX8_leastLack_39 : decode cX8_leastLack 39 = .ok (.invokevirtual 68, 3) := by decide +kernel
theorem dX8_leastLack_42 : decode cX8_leastLack 42 = .ok (.iinc 4 1, 3) := by decide +kernel
theorem dX8_leastLack_45 : decode cX8_leastLack 45 = .ok (.goto (-27), 3) := by decide +kernel
theorem dX8_leastLack_48 : decode cX8_leastLack 48 = .ok (.iload_n 3, 1) := by decide +kernel
theorem dX8_leastLack_49 : decode cX8_leastLack 49 = .ok (.ireturn, 1) := by decide +kernel
set_option maxHeartbeats 4000000 in
set_option maxRecDepth 100000 in
theorem ctX8_leastLack {p1 : Int} {σ : jq_M} {res : Int} {σ' : jq_M} (hp1 : jq_com p1) (h : X8_leastLack p1 σ = some (res, σ')) : jq_MC jq_zX yX8_leastLack cX8_leastLack 5 (some .int) 5 133 [jR 52, jR p1] σ (some (jI res)) σ' := by
  refine jq_met (own := RX8) (L0 := [(0, jR 52), (1, jR p1)]) (by decide) rfl rfl rfl ?_
  intro X Γ hnl hlY hRT
  refine jq_use2 (P := fun r => jq_RT jq_zX X (some .int) (some (jI r.1)) r.2) ?_ h hRT
  intro K0 hK0
  unfold X8_leastLack
  refine jq_aload_n Γ dX8_leastLack_0 rfl 0 rfl (jq_at_0 at_X_52) ?_
  refine jq_aload_n Γ dX8_leastLack_1 rfl 1 rfl (jq_at_0 (at_com hp1)) ?_
  refine jq_cwI (jq_virt (avs := [jR p1]) (st := []) Γ hlY rfl ml_RX8_57 rfl at_X_52 rfl rfl rfl rfl rfl dX8_leastLack_2) (fun r σ' h => ctX8_begin hp1 h) (fun v1 s2 => ?_)
  refine jq_istore_n (L' := [(2, jI v1), (0, jR 52), (1, jR p1)]) Γ dX8_leastLack_5 rfl hnl rfl rfl ?_
  refine jq_aload_n Γ dX8_leastLack_6 rfl 2 rfl (jq_at_0 (at_com hp1)) ?_
  refine jq_aload_n Γ dX8_leastLack_7 rfl 1 rfl (jq_at_0 at_X_52) ?_
  refine jq_getR (v := 53) Γ hlY at_X_52 fl_RX8_9 rfl rfl ly_X8_row dX8_leastLack_8 ?_
  refine jq_cwI (jq_virt (avs := [jR 53]) (st := []) Γ hlY rfl ml_RX8_89 rfl (at_com hp1) rfl rfl rfl rfl rfl dX8_leastLack_11) (fun r σ' h => ctX1_lackOf hp1 row_53 h) (fun v3 s4 => ?_)
  refine jq_istore_n (L' := [(3, jI v3), (2, jI v1), (0, jR 52), (1, jR p1)]) Γ dX8_leastLack_14 rfl hnl rfl rfl ?_
  refine jq_iconst Γ dX8_leastLack_15 rfl ?_
  refine jq_istore (L' := [(4, jI 0), (3, jI v3), (2, jI v1), (0, jR 52), (1, jR p1)]) Γ dX8_leastLack_16 hnl rfl rfl ?_
  refine jq_sub Γ (L' := [(0, jR 52), (1, jR p1), (2, jI v1), (3, jI v3), (4, jI 0)]) [3, 4, 2, 1, 0] rfl ?_
  refine jq_loop2 (C := fun (t5 : Int × Int × jq_M) => jq_V jq_zX X (jq_zN jq_zX) t5.2.2 18 [(0, jR 52), (1, jR p1), (2, jI v1), (3, jI t5.1), (4, jI t5.2.1)] []) (KX := fun (e11 : Int × jq_M) => jq_V jq_zX X (jq_zN jq_zX) e11.2 48 [(3, jI e11.1)] []) ?_ ?_ (v3, 0, s4)
  · intro K18_t5 hCt5 hXt5 t5
    unfold X8_leastLack_b18
    refine jq_iload Γ dX8_leastLack_18 4 rfl ?_
    refine jq_iload_n Γ dX8_leastLack_20 rfl 2 rfl ?_
    refine jq_icmp_ge (tgt := 48) Γ dX8_leastLack_21 rfl ?_ ?_
    · refine jq_sub Γ (L' := [(3, jI t5.1)]) [3] rfl ?_
      exact jq_done (hXt5 (t5.1, t5.2.2))
    · refine jq_iload_n Γ dX8_leastLack_24 rfl 3 rfl ?_
      refine jq_aload_n Γ dX8_leastLack_25 rfl 1 rfl (jq_at_0 (at_com hp1)) ?_
      refine jq_aload_n Γ dX8_leastLack_26 rfl 0 rfl (jq_at_0 at_X_52) ?_
      refine jq_getR (v := 53) Γ hlY at_X_52 fl_RX8_9 rfl rfl ly_X8_row dX8_leastLack_27 ?_
      refine jq_cwI (jq_virt (avs := [jR 53]) (st := [jI t5.1]) Γ hlY rfl ml_RX8_89 rfl (at_com hp1) rfl rfl rfl rfl rfl dX8_leastLack_30) (fun r σ' h => ctX1_lackOf hp1 row_53 h) (fun v6 s7 => ?_)
      refine jq_mmin Γ mw_RX8_54 mws_min mwi mwc_min rfl rfl dX8_leastLack_33 ?_
      refine jq_nmI (fun v8 => ?_)
      refine jq_istore_n (L' := [(3, jI v8), (0, jR 52), (1, jR p1), (2, jI v1), (4, jI t5.2.1)]) Γ dX8_leastLack_36 rfl hnl rfl rfl ?_
      refine jq_aload_n Γ dX8_leastLack_37 rfl 1 rfl (jq_at_0 at_X_52) ?_
      refine jq_aload_n Γ dX8_leastLack_38 rfl 2 rfl (jq_at_0 (at_com hp1)) ?_
      refine jq_cwV (jq_virt (avs := [jR p1]) (st := []) Γ hlY rfl ml_RX8_68 rfl at_X_52 rfl rfl rfl rfl rfl dX8_leastLack_39) (fun σ' h => ctX8_goOn hp1 h) (fun s9 => ?_)
      refine jq_iincN (L' := fun v10 => [(4, jI v10), (3, jI v8), (0, jR 52), (1, jR p1), (2, jI v1)]) Γ dX8_leastLack_42 4 rfl hnl rfl (fun _ => rfl) (fun v10 => ?_)
      refine jq_goto Γ (tgt := 18) dX8_leastLack_45 rfl ?_
      refine jq_sub Γ (L' := [(0, jR 52), (1, jR p1), (2, jI v1), (3, jI v8), (4, jI v10)]) [2, 3, 4, 1, 0] rfl ?_
      exact jq_done (hCt5 (v8, v10, s9))
  · intro e11
    refine jq_iload_n Γ dX8_leastLack_48 rfl 0 rfl ?_
    exact jq_ireturn Γ dX8_leastLack_49 (hK0 _)


theorem dX10_leastFish_0 : decode cX10_leastFish 0 = .ok (.aload_n 0, 1) := by decide +kernel
theorem dX10_leastFish_1 : decode cX10_leastFish 1 = .ok (.getfield 25, 3) := by decide +kernel
theorem dX10_leastFish_4 : decode cX10_leastFish 4 = .ok (.getfield 185, 3) := by decide +kernel
theorem dX10_leastFish_7 : decode cX10_leastFish 7 = .ok (.ifCond .ne 10, 3) := by decide +kernel
theorem dX10_leastFish_10 : decode cX10_leastFish 10 = .ok (.aload_n 0, 1) := by decide +kernel
theorem dX10_leastFish_11 : decode cX10_leastFish 11 = .ok (.bipush 6, 2) := by decide +kernel
theorem dX10_leastFish_13 : decode cX10_leastFish 13 = .ok (.invokevirtual 117, 3) := by decide +kernel
theorem dX10_leastFish_16 : decode cX10_leastFish 16 = .ok (.ireturn, 1) := by decide +kernel
theorem dX10_leastFish_17 : decode cX10_leastFish 17 = .ok (.aload_n 0, 1) := by decide +kernel
theorem dX10_leastFish_18 : decode cX10_leastFish 18 = .ok (.aload_n 0, 1) := by decide +kernel
theorem dX10_leastFish_19 : decode cX10_leastFish 19 = .ok (.getfield 46, 3) := by decide +kernel
theorem dX10_leastFish_22 : decode cX10_leastFish 22 = .ok (.aload_n 0, 1) := by decide +kernel
theorem dX10_leastFish_23 : decode cX10_leastFish 23 = .ok (.getfield 25, 3) := by decide +kernel
theorem dX10_leastFish_26 : decode cX10_leastFish 26 = .ok (.invokevirtual 371, 3) := by decide +kernel
theorem dX10_leastFish_29 : decode cX10_leastFish 29 = .ok (.invokevirtual 167, 3) := by decide +kernel
theorem dX10_leastFish_32 : decode cX10_leastFish 32 = .ok (.ireturn, 1) := by decide +kernel
set_option maxHeartbeats 4000000 in
set_option maxRecDepth 100000 in
theorem ctX10_leastFish  {σ : jq_M} {res : Int} {σ' : jq_M}  (h : X10_leastFish σ = some (res, σ')) : jq_MC jq_zX yX10_leastFish cX10_leastFish 1 (some .int) 6 157 [jR 0] σ (some (jI res)) σ' := by
  refine jq_met (own := RX10) (L0 := [(0, jR 0)]) (by decide) rfl rfl rfl ?_
  intro X Γ hnl hlY hRT
  refine jq_use2 (P := fun r => jq_RT jq_zX X (some .int) (some (jI r.1)) r.2) ?_ h hRT
  intro K0 hK0
  unfold X10_leastFish
  refine jq_aload_n Γ dX10_leastFish_0 rfl 0 rfl (jq_at_0 at_X_0) ?_
  refine jq_getC (C := jq_cm2) Γ hlY at_X_0 fl_RX10_25 rfl rfl ly_now dX10_leastFish_1 (fun c1 hc2q => ?_)
  have hc2 := jq_cm2_com hc2q
  refine jq_getI (J := 0) Γ (at_com hc2) fl_RX10_185 rfl rfl dX10_leastFish_4 ?_
  refine jq_if_ne (tgt := 17) Γ dX10_leastFish_7 rfl ?_ ?_
  · refine jq_aload_n Γ dX10_leastFish_17 rfl 0 rfl (jq_at_0 at_X_0) ?_
    refine jq_aload_n Γ dX10_leastFish_18 rfl 0 rfl (jq_at_0 at_X_0) ?_
    refine jq_getR (v := 52) Γ hlY at_X_0 fl_RX10_46 rfl rfl ly_X10_survey dX10_leastFish_19 ?_
    refine jq_aload_n Γ dX10_leastFish_22 rfl 0 rfl (jq_at_0 at_X_0) ?_
    refine jq_getC (C := jq_cm2) Γ hlY at_X_0 fl_RX10_25 rfl rfl ly_now dX10_leastFish_23 (fun c3 hc4q => ?_)
    have hc4 := jq_cm2_com hc4q
    refine jq_cwI (jq_virt (avs := [jR c3]) (st := [jR 0]) Γ hlY rfl ml_RX10_371 rfl at_X_52 rfl rfl rfl rfl rfl dX10_leastFish_26) (fun r σ' h => ctX8_leastLack hc4 h) (fun v5 s6 => ?_)
    refine jq_cwI (jq_virt (avs := [jI v5]) (st := []) Γ hlY rfl ml_RX10_167 rfl at_X_0 rfl rfl rfl rfl rfl dX10_leastFish_29) (fun r σ' h => ctX10_answer h) (fun v7 s8 => ?_)
    exact jq_ireturn Γ dX10_leastFish_32 (hK0 _)
  · refine jq_aload_n Γ dX10_leastFish_10 rfl 0 rfl (jq_at_0 at_X_0) ?_
    refine jq_bipush Γ dX10_leastFish_11 rfl ?_
    refine jq_cwI (jq_virt (avs := [jI 6]) (st := []) Γ hlY rfl ml_RX10_117 rfl at_X_0 rfl rfl rfl rfl rfl dX10_leastFish_13) (fun r σ' h => ctX10_refuse h) (fun v9 s10 => ?_)
    exact jq_ireturn Γ dX10_leastFish_16 (hK0 _)


theorem dX10_layTrial_0 : decode cX10_layTrial 0 = .ok (.aload_n 0, 1) := by decide +kernel
theorem dX10_layTrial_1 : decode cX10_layTrial 1 = .ok (.getfield 25, 3) := by decide +kernel
theorem dX10_layTrial_4 : decode cX10_layTrial 4 = .ok (.getfield 200, 3) := by decide +kernel
theorem dX10_layTrial_7 : decode cX10_layTrial 7 = .ok (.iconst 0, 1) := by decide +kernel
theorem dX10_layTrial_8 : decode cX10_layTrial 8 = .ok (.aload_n 0, 1) := by decide +kernel
theorem dX10_layTrial_9 : decode cX10_layTrial 9 = .ok (.getfield 68, 3) := by decide +kernel
theorem dX10_layTrial_12 : decode cX10_layTrial 12 = .ok (.iconst 0, 1) := by decide +kernel
theorem dX10_layTrial_13 : decode cX10_layTrial 13 = .ok (.iconst 5, 1) := by decide +kernel
theorem dX10_layTrial_14 : decode cX10_layTrial 14 = .ok (.invokestatic 139, 3) := by decide +kernel
theorem dX10_layTrial_17 : decode cX10_layTrial 17 = .ok (.return_, 1) := by decide +kernel
set_option maxHeartbeats 4000000 in
set_option maxRecDepth 100000 in
theorem ctX10_layTrial  {σ : jq_M} {σ' : jq_M}  (h : X10_layTrial σ = some σ') : jq_MC jq_zX yX10_layTrial cX10_layTrial 1 none 1 40 [jR 0] σ none σ' := by
  refine jq_met (own := RX10) (L0 := [(0, jR 0)]) (by decide) rfl rfl rfl ?_
  intro X Γ hnl hlY hRT
  refine jq_use2 (P := fun r => jq_RT jq_zX X none none r) ?_ h hRT
  intro K0 hK0
  unfold X10_layTrial
  refine jq_aload_n Γ dX10_layTrial_0 rfl 0 rfl (jq_at_0 at_X_0) ?_
  refine jq_getC (C := jq_cm2) Γ hlY at_X_0 fl_RX10_25 rfl rfl ly_now dX10_layTrial_1 (fun c1 hc2q => ?_)
  have hc2 := jq_cm2_com hc2q
  refine jq_getR (v := (c1 + 3)) Γ hlY (at_com hc2) fl_RX10_200 rfl rfl (ly_X1_seats hc2) dX10_layTrial_4 ?_
  refine jq_iconst Γ dX10_layTrial_7 rfl ?_
  refine jq_aload_n Γ dX10_layTrial_8 rfl 0 rfl (jq_at_0 at_X_0) ?_
  refine jq_getR (v := 63) Γ hlY at_X_0 fl_RX10_68 rfl rfl ly_X10_trial dX10_layTrial_9 ?_
  refine jq_iconst Γ dX10_layTrial_12 rfl ?_
  refine jq_iconst Γ dX10_layTrial_13 rfl ?_
  refine jq_copyi Γ (at_com_3 hc2) at_X_63 rfl rfl rfl aw_RX10_139 awn aws awi rfl rfl dX10_layTrial_14 (fun s3 => ?_)
  exact jq_vreturn Γ dX10_layTrial_17 (hK0 _)


theorem dX10_bestSwap_0 : decode cX10_bestSwap 0 = .ok (.aload_n 0, 1) := by decide +kernel
theorem dX10_bestSwap_1 : decode cX10_bestSwap 1 = .ok (.getfield 25, 3) := by decide +kernel
theorem dX10_bestSwap_4 : decode cX10_bestSwap 4 = .ok (.aload_n 0, 1) := by decide +kernel
theorem dX10_bestSwap_5 : decode cX10_bestSwap 5 = .ok (.getfield 25, 3) := by decide +kernel
theorem dX10_bestSwap_8 : decode cX10_bestSwap 8 = .ok (.getfield 200, 3) := by decide +kernel
theorem dX10_bestSwap_11 : decode cX10_bestSwap 11 = .ok (.invokevirtual 282, 3) := by decide +kernel
theorem dX10_bestSwap_14 : decode cX10_bestSwap 14 = .ok (.istore_n 1, 1) := by decide +kernel
theorem dX10_bestSwap_15 : decode cX10_bestSwap 15 = .ok (.iconst (-1), 1) := by decide +kernel
theorem dX10_bestSwap_16 : decode cX10_bestSwap 16 = .ok (.istore_n 2, 1) := by decide +kernel
theorem dX10_bestSwap_17 : decode cX10_bestSwap 17 = .ok (.iconst 0, 1) := by decide +kernel
theorem dX10_bestSwap_18 : decode cX10_bestSwap 18 = .ok (.istore_n 3, 1) := by decide +kernel
theorem dX10_bestSwap_19 : decode cX10_bestSwap 19 = .ok (.iload_n 3, 1) := by decide +kernel
theorem dX10_bestSwap_20 : decode cX10_bestSwap 20 = .ok (.aload_n 0, 1) := by decide +kernel
theorem dX10_bestSwap_21 : decode cX10_bestSwap 21 = .ok (.getfield 25, 3) := by decide +kernel
theorem dX10_bestSwap_24 : decode cX10_bestSwap 24 = .ok (.getfield 188, 3) := by decide +kernel
theorem dX10_bestSwap_27 : decode cX10_bestSwap 27 = .ok (.if_icmp .ge 88, 3) := by decide +kernel
theorem dX10_bestSwap_30 : decode cX10_bestSwap 30 = .ok (.iload_n 3, 1) := by decide +kernel
theorem dX10_bestSwap_31 : decode cX10_bestSwap 31 = .ok (.iconst 1, 1) := by decide +kernel
theorem dX10_bestSwap_32 : decode cX10_bestSwap 32 = .ok (.iadd, 1) := by decide +kernel
theorem dX10_bestSwap_33 : decode cX10_bestSwap 33 = .ok (.istore 4, 2) := by decide +kernel
theorem dX10_bestSwap_35 : decode cX10_bestSwap 35 = .ok (.iload 4, 2) := by decide +kernel
theorem dX10_bestSwap_37 : decode cX10_bestSwap 37 = .ok (.aload_n 0, 1) := by decide +kernel
theorem dX10_bestSwap_38 : decode cX10_bestSwap 38 = .ok (.getfield 25, 3) := by decide +kernel
theorem dX10_bestSwap_41 : decode cX10_bestSwap 41 = .ok (.getfield 188, 3) := by decide +kernel
theorem dX10_bestSwap_44 : decode cX10_bestSwap 44 = .ok (.if_icmp .ge 65, 3) := by decide +kernel
theorem dX10_bestSwap_47 : decode cX10_bestSwap 47 = .ok (.aload_n 0, 1) := by decide +kernel
theorem dX10_bestSwap_48 : decode cX10_bestSwap 48 = .ok (.invokevirtual 374, 3) := by decide +kernel
theorem dX10_bestSwap_51 : decode cX10_bestSwap 51 = .ok (.aload_n 0, 1) := by decide +kernel
theorem dX10_bestSwap_52 : decode cX10_bestSwap 52 = .ok (.getfield 25, 3) := by decide +kernel
theorem dX10_bestSwap_55 : decode cX10_bestSwap 55 = .ok (.iload_n 3, 1) := by decide +kernel
theorem dX10_bestSwap_56 : decode cX10_bestSwap 56 = .ok (.iload 4, 2) := by decide +kernel
theorem dX10_bestSwap_58 : decode cX10_bestSwap 58 = .ok (.aload_n 0, 1) := by decide +kernel
theorem dX10_bestSwap_59 : decode cX10_bestSwap 59 = .ok (.getfield 68, 3) := by decide +kernel
theorem dX10_bestSwap_62 : decode cX10_bestSwap 62 = .ok (.invokevirtual 298, 3) := by decide +kernel
theorem dX10_bestSwap_65 : decode cX10_bestSwap 65 = .ok (.ifCond .eq 38, 3) := by decide +kernel
theorem dX10_bestSwap_68 : decode cX10_bestSwap 68 = .ok (.aload_n 0, 1) := by decide +kernel
theorem dX10_bestSwap_69 : decode cX10_bestSwap 69 = .ok (.getfield 25, 3) := by decide +kernel
theorem dX10_bestSwap_72 : decode cX10_bestSwap 72 = .ok (.aload_n 0, 1) := by decide +kernel
theorem dX10_bestSwap_73 : decode cX10_bestSwap 73 = .ok (.getfield 68, 3) := by decide +kernel
theorem dX10_bestSwap_76 : decode cX10_bestSwap 76 = .ok (.invokevirtual 282, 3) := by decide +kernel
theorem dX10_bestSwap_79 : decode cX10_bestSwap 79 = .ok (.iload_n 1, 1) := by decide +kernel
theorem dX10_bestSwap_80 : decode cX10_bestSwap 80 = .ok (.if_icmp .le 23, 3) := by decide +kernel
theorem dX10_bestSwap_83 : decode cX10_bestSwap 83 = .ok (.aload_n 0, 1) := by decide +kernel
theorem dX10_bestSwap_84 : decode cX10_bestSwap 84 = .ok (.getfield 25, 3) := by decide +kernel
theorem dX10_bestSwap_87 : decode cX10_bestSwap 87 = .ok (.aload_n 0, 1) := by decide +kernel
theorem dX10_bestSwap_88 : decode cX10_bestSwap 88 = .ok (.getfield 68, 3) := by decide +kernel
theorem dX10_bestSwap_91 : decode cX10_bestSwap 91 = .ok (.invokevirtual 282, 3) := by decide +kernel
theorem dX10_bestSwap_94 : decode cX10_bestSwap 94 = .ok (.istore_n 1, 1) := by decide +kernel
theorem dX10_bestSwap_95 : decode cX10_bestSwap 95 = .ok (.bipush 10, 2) := by decide +kernel
theorem dX10_bestSwap_97 : decode cX10_bestSwap 97 = .ok (.iload_n 3, 1) := by decide +kernel
theorem dX10_bestSwap_98 : decode cX10_bestSwap 98 = .ok (.imul, 1) := by decide +kernel
theorem dX10_bestSwap_99 : decode cX10_bestSwap 99 = .ok (.iload 4, 2) := by decide +kernel
theorem dX10_bestSwap_101 : decode cX10_bestSwap 101 = .ok (.iadd, 1) := by decide +kernel
theorem dX10_bestSwap_102 : decode cX10_bestSwap 102 = .ok (.istore_n 2, 1) := by decide +kernel
theorem dX10_bestSwap_103 : decode cX10_bestSwap 103 = .ok (.iinc 4 1, 3) := by decide +kernel
theorem dX10_bestSwap_106 : decode cX10_bestSwap 106 = .ok (.goto (-71), 3) := by decide +kernel
theorem dX10_bestSwap_109 : decode cX10_bestSwap 109 = .ok (.iinc 3 1, 3) := by decide +kernel
theorem dX10_bestSwap_112 : decode cX10_bestSwap 112 = .ok (.goto (-93), 3) := by decide +kernel
theorem dX10_bestSwap_115 : decode cX10_bestSwap 115 = .ok (.aload_n 0, 1) := by decide +kernel
theorem dX10_bestSwap_116 : decode cX10_bestSwap 116 = .ok (.iload_n 2, 1) := by decide +kernel
theorem dX10_bestSwap_117 : decode cX10_bestSwap 117 = .ok (.invokevirtual 224, 3) := by decide +kernel
theorem dX10_bestSwap_120 : decode cX10_bestSwap 120 = .ok (.ireturn, 1) := by decide +kernel
set_option maxHeartbeats 4000000 in
set_option maxRecDepth 100000 in
theorem ctX10_bestSwap  {σ : jq_M} {res : Int} {σ' : jq_M}  (h : X10_bestSwap σ = some (res, σ')) : jq_MC jq_zX yX10_bestSwap cX10_bestSwap 5 (some .int) 4 110 [jR 0] σ (some (jI res)) σ' := by
  refine jq_met (own := RX10) (L0 := [(0, jR 0)]) (by decide) rfl rfl rfl ?_
  intro X Γ hnl hlY hRT
  refine jq_use2 (P := fun r => jq_RT jq_zX X (some .int) (some (jI r.1)) r.2) ?_ h hRT
  intro K0 hK0
  unfold X10_bestSwap
  refine jq_aload_n Γ dX10_bestSwap_0 rfl 0 rfl (jq_at_0 at_X_0) ?_
  refine jq_getC (C := jq_cm2) Γ hlY at_X_0 fl_RX10_25 rfl rfl ly_now dX10_bestSwap_1 (fun c1 hc2q => ?_)
  have hc2 := jq_cm2_com hc2q
  refine jq_aload_n Γ dX10_bestSwap_4 rfl 0 rfl (jq_at_0 at_X_0) ?_
  refine jq_getC (C := jq_cm2) Γ hlY at_X_0 fl_RX10_25 rfl rfl ly_now dX10_bestSwap_5 (fun c3 hc4q => ?_)
  have hc4 := jq_cm2_com hc4q
  refine jq_getR (v := (c3 + 3)) Γ hlY (at_com hc4) fl_RX10_200 rfl rfl (ly_X1_seats hc4) dX10_bestSwap_8 ?_
  refine jq_cpI (jq_virt (avs := [jR (c3 + 3)]) (st := []) Γ hlY rfl ml_RX10_282 rfl (at_com hc2) rfl rfl rfl rfl rfl dX10_bestSwap_11) (fun r h => ctX1_worthOfAll hc2 (row_com hc4) h) (fun v5 => ?_)
  refine jq_istore_n (L' := [(1, jI v5), (0, jR 0)]) Γ dX10_bestSwap_14 rfl hnl rfl rfl ?_
  refine jq_iconst Γ dX10_bestSwap_15 rfl ?_
  refine jq_istore_n (L' := [(2, jI (-1)), (1, jI v5), (0, jR 0)]) Γ dX10_bestSwap_16 rfl hnl rfl rfl ?_
  refine jq_iconst Γ dX10_bestSwap_17 rfl ?_
  refine jq_istore_n (L' := [(3, jI 0), (2, jI (-1)), (1, jI v5), (0, jR 0)]) Γ dX10_bestSwap_18 rfl hnl rfl rfl ?_
  refine jq_sub Γ (L' := [(0, jR 0), (1, jI v5), (2, jI (-1)), (3, jI 0)]) [3, 2, 1, 0] rfl ?_
  refine jq_loop2 (C := fun (t6 : Int × Int × Int × jq_M) => jq_V jq_zX X (jq_zN jq_zX) t6.2.2.2 19 [(0, jR 0), (1, jI t6.1), (2, jI t6.2.1), (3, jI t6.2.2.1)] []) (KX := fun (e31 : Int × jq_M) => jq_V jq_zX X (jq_zN jq_zX) e31.2 115 [(0, jR 0), (2, jI e31.1)] []) ?_ ?_ (v5, (-1), 0, σ)
  · intro K19_t6 hCt6 hXt6 t6
    unfold X10_bestSwap_b19
    refine jq_iload_n Γ dX10_bestSwap_19 rfl 3 rfl ?_
    refine jq_aload_n Γ dX10_bestSwap_20 rfl 0 rfl (jq_at_0 at_X_0) ?_
    refine jq_getC (C := jq_cm2) Γ hlY at_X_0 fl_RX10_25 rfl rfl ly_now dX10_bestSwap_21 (fun c7 hc8q => ?_)
    have hc8 := jq_cm2_com hc8q
    refine jq_getI (J := 2) Γ (at_com hc8) fl_RX10_188 rfl rfl dX10_bestSwap_24 ?_
    refine jq_icmp_ge (tgt := 115) Γ dX10_bestSwap_27 rfl ?_ ?_
    · refine jq_sub Γ (L' := [(0, jR 0), (2, jI t6.2.1)]) [0, 2] rfl ?_
      exact jq_done (hXt6 (t6.2.1, t6.2.2.2))
    · refine jq_iload_n Γ dX10_bestSwap_30 rfl 3 rfl ?_
      refine jq_iconst Γ dX10_bestSwap_31 rfl ?_
      refine jq_iadd Γ dX10_bestSwap_32 ?_
      refine jq_nmI (fun v9 => ?_)
      refine jq_istore (L' := [(4, jI v9), (0, jR 0), (1, jI t6.1), (2, jI t6.2.1), (3, jI t6.2.2.1)]) Γ dX10_bestSwap_33 hnl rfl rfl ?_
      refine jq_sub Γ (L' := [(0, jR 0), (1, jI t6.1), (2, jI t6.2.1), (3, jI t6.2.2.1), (4, jI v9)]) [1, 2, 3, 4, 0] rfl ?_
      refine jq_loop2 (C := fun (t10 : Int × Int × Int × jq_M) => jq_V jq_zX X (jq_zN jq_zX) t10.2.2.2 35 [(0, jR 0), (1, jI t10.1), (2, jI t10.2.1), (3, jI t6.2.2.1), (4, jI t10.2.2.1)] []) (KX := fun (e29 : Int × Int × jq_M) => jq_V jq_zX X (jq_zN jq_zX) e29.2.2 109 [(0, jR 0), (1, jI e29.1), (2, jI e29.2.1), (3, jI t6.2.2.1)] []) ?_ ?_ (t6.1, t6.2.1, v9, t6.2.2.2)
      · intro K35_t10 hCt10 hXt10 t10
        unfold X10_bestSwap_b35
        refine jq_iload Γ dX10_bestSwap_35 4 rfl ?_
        refine jq_aload_n Γ dX10_bestSwap_37 rfl 0 rfl (jq_at_0 at_X_0) ?_
        refine jq_getC (C := jq_cm2) Γ hlY at_X_0 fl_RX10_25 rfl rfl ly_now dX10_bestSwap_38 (fun c11 hc12q => ?_)
        have hc12 := jq_cm2_com hc12q
        refine jq_getI (J := 2) Γ (at_com hc12) fl_RX10_188 rfl rfl dX10_bestSwap_41 ?_
        refine jq_icmp_ge (tgt := 109) Γ dX10_bestSwap_44 rfl ?_ ?_
        · refine jq_sub Γ (L' := [(0, jR 0), (1, jI t10.1), (2, jI t10.2.1), (3, jI t6.2.2.1)]) [0, 1, 2, 3] rfl ?_
          exact jq_done (hXt10 (t10.1, t10.2.1, t10.2.2.2))
        · refine jq_aload_n Γ dX10_bestSwap_47 rfl 0 rfl (jq_at_0 at_X_0) ?_
          refine jq_cwV (jq_virt (avs := []) (st := []) Γ hlY rfl ml_RX10_374 rfl at_X_0 rfl rfl rfl rfl rfl dX10_bestSwap_48) (fun σ' h => ctX10_layTrial h) (fun s13 => ?_)
          refine jq_aload_n Γ dX10_bestSwap_51 rfl 0 rfl (jq_at_0 at_X_0) ?_
          refine jq_getC (C := jq_cm2) Γ hlY at_X_0 fl_RX10_25 rfl rfl ly_now dX10_bestSwap_52 (fun c14 hc15q => ?_)
          have hc15 := jq_cm2_com hc15q
          refine jq_iload_n Γ dX10_bestSwap_55 rfl 3 rfl ?_
          refine jq_iload Γ dX10_bestSwap_56 4 rfl ?_
          refine jq_aload_n Γ dX10_bestSwap_58 rfl 0 rfl (jq_at_0 at_X_0) ?_
          refine jq_getR (v := 63) Γ hlY at_X_0 fl_RX10_68 rfl rfl ly_X10_trial dX10_bestSwap_59 ?_
          refine jq_cwZ (jq_virt (avs := [jI t6.2.2.1, jI t10.2.2.1, jR 63]) (st := []) Γ hlY rfl ml_RX10_298 rfl (at_com hc15) rfl rfl rfl rfl rfl dX10_bestSwap_62) rfl (fun r σ' h => ctX1_swapTwo hc15 row_63 h) (fun v16 s17 hz18 => ?_)
          refine jq_if_eq (tgt := 103) Γ dX10_bestSwap_65 rfl ?_ ?_
          · refine jq_iincN (L' := fun v19 => [(4, jI v19), (0, jR 0), (1, jI t10.1), (2, jI t10.2.1), (3, jI t6.2.2.1)]) Γ dX10_bestSwap_103 4 rfl hnl rfl (fun _ => rfl) (fun v19 => ?_)
            refine jq_goto Γ (tgt := 35) dX10_bestSwap_106 rfl ?_
            refine jq_sub Γ (L' := [(0, jR 0), (1, jI t10.1), (2, jI t10.2.1), (3, jI t6.2.2.1), (4, jI v19)]) [1, 2, 3, 4, 0] rfl ?_
            exact jq_done (hCt10 (t10.1, t10.2.1, v19, s17))
          · refine jq_aload_n Γ dX10_bestSwap_68 rfl 0 rfl (jq_at_0 at_X_0) ?_
            refine jq_getC (C := jq_cm2) Γ hlY at_X_0 fl_RX10_25 rfl rfl ly_now dX10_bestSwap_69 (fun c20 hc21q => ?_)
            have hc21 := jq_cm2_com hc21q
            refine jq_aload_n Γ dX10_bestSwap_72 rfl 0 rfl (jq_at_0 at_X_0) ?_
            refine jq_getR (v := 63) Γ hlY at_X_0 fl_RX10_68 rfl rfl ly_X10_trial dX10_bestSwap_73 ?_
            refine jq_cpI (jq_virt (avs := [jR 63]) (st := []) Γ hlY rfl ml_RX10_282 rfl (at_com hc21) rfl rfl rfl rfl rfl dX10_bestSwap_76) (fun r h => ctX1_worthOfAll hc21 row_63 h) (fun v22 => ?_)
            refine jq_iload_n Γ dX10_bestSwap_79 rfl 1 rfl ?_
            refine jq_icmp_le (tgt := 103) Γ dX10_bestSwap_80 rfl ?_ ?_
            · refine jq_iincN (L' := fun v23 => [(4, jI v23), (0, jR 0), (1, jI t10.1), (2, jI t10.2.1), (3, jI t6.2.2.1)]) Γ dX10_bestSwap_103 4 rfl hnl rfl (fun _ => rfl) (fun v23 => ?_)
              refine jq_goto Γ (tgt := 35) dX10_bestSwap_106 rfl ?_
              refine jq_sub Γ (L' := [(0, jR 0), (1, jI t10.1), (2, jI t10.2.1), (3, jI t6.2.2.1), (4, jI v23)]) [1, 2, 3, 4, 0] rfl ?_
              exact jq_done (hCt10 (t10.1, t10.2.1, v23, s17))
            · refine jq_aload_n Γ dX10_bestSwap_83 rfl 0 rfl (jq_at_0 at_X_0) ?_
              refine jq_getC (C := jq_cm2) Γ hlY at_X_0 fl_RX10_25 rfl rfl ly_now dX10_bestSwap_84 (fun c24 hc25q => ?_)
              have hc25 := jq_cm2_com hc25q
              refine jq_aload_n Γ dX10_bestSwap_87 rfl 0 rfl (jq_at_0 at_X_0) ?_
              refine jq_getR (v := 63) Γ hlY at_X_0 fl_RX10_68 rfl rfl ly_X10_trial dX10_bestSwap_88 ?_
              refine jq_cpI (jq_virt (avs := [jR 63]) (st := []) Γ hlY rfl ml_RX10_282 rfl (at_com hc25) rfl rfl rfl rfl rfl dX10_bestSwap_91) (fun r h => ctX1_worthOfAll hc25 row_63 h) (fun v26 => ?_)
              refine jq_istore_n (L' := [(1, jI v26), (0, jR 0), (2, jI t10.2.1), (3, jI t6.2.2.1), (4, jI t10.2.2.1)]) Γ dX10_bestSwap_94 rfl hnl rfl rfl ?_
              refine jq_bipush Γ dX10_bestSwap_95 rfl ?_
              refine jq_iload_n Γ dX10_bestSwap_97 rfl 3 rfl ?_
              refine jq_imul Γ dX10_bestSwap_98 ?_
              refine jq_iload Γ dX10_bestSwap_99 4 rfl ?_
              refine jq_iadd Γ dX10_bestSwap_101 ?_
              refine jq_nmI (fun v27 => ?_)
              refine jq_istore_n (L' := [(2, jI v27), (1, jI v26), (0, jR 0), (3, jI t6.2.2.1), (4, jI t10.2.2.1)]) Γ dX10_bestSwap_102 rfl hnl rfl rfl ?_
              refine jq_iincN (L' := fun v28 => [(4, jI v28), (2, jI v27), (1, jI v26), (0, jR 0), (3, jI t6.2.2.1)]) Γ dX10_bestSwap_103 4 rfl hnl rfl (fun _ => rfl) (fun v28 => ?_)
              refine jq_goto Γ (tgt := 35) dX10_bestSwap_106 rfl ?_
              refine jq_sub Γ (L' := [(0, jR 0), (1, jI v26), (2, jI v27), (3, jI t6.2.2.1), (4, jI v28)]) [3, 2, 1, 4, 0] rfl ?_
              exact jq_done (hCt10 (v26, v27, v28, s17))
      · intro e29
        refine jq_iincN (L' := fun v30 => [(3, jI v30), (0, jR 0), (1, jI e29.1), (2, jI e29.2.1)]) Γ dX10_bestSwap_109 3 rfl hnl rfl (fun _ => rfl) (fun v30 => ?_)
        refine jq_goto Γ (tgt := 19) dX10_bestSwap_112 rfl ?_
        refine jq_sub Γ (L' := [(0, jR 0), (1, jI e29.1), (2, jI e29.2.1), (3, jI v30)]) [1, 2, 3, 0] rfl ?_
        exact jq_done (hCt6 (e29.1, e29.2.1, v30, e29.2.2))
  · intro e31
    refine jq_aload_n Γ dX10_bestSwap_115 rfl 0 rfl (jq_at_0 at_X_0) ?_
    refine jq_iload_n Γ dX10_bestSwap_116 rfl 1 rfl ?_
    refine jq_cwI (jq_virt (avs := [jI e31.1]) (st := []) Γ hlY rfl ml_RX10_224 rfl at_X_0 rfl rfl rfl rfl rfl dX10_bestSwap_117) (fun r σ' h => ctX10_answerOrNone h) (fun v32 s33 => ?_)
    exact jq_ireturn Γ dX10_bestSwap_120 (hK0 _)


theorem dX10_bestTurn_0 : decode cX10_bestTurn 0 = .ok (.aload_n 0, 1) := by decide +kernel
theorem dX10_bestTurn_1 : decode cX10_bestTurn 1 = .ok (.getfield 25, 3) := by decide +kernel
theorem dX10_bestTurn_4 : decode cX10_bestTurn 4 = .ok (.aload_n 0, 1) := by decide +kernel
theorem dX10_bestTurn_5 : decode cX10_bestTurn 5 = .ok (.getfield 25, 3) := by decide +kernel
theorem dX10_bestTurn_8 : decode cX10_bestTurn 8 = .ok (.getfield 200, 3) := by decide +kernel
theorem dX10_bestTurn_11 : decode cX10_bestTurn 11 = .ok (.invokevirtual 282, 3) := by decide +kernel
theorem dX10_bestTurn_14 : decode cX10_bestTurn 14 = .ok (.istore_n 1, 1) := by decide +kernel
theorem dX10_bestTurn_15 : decode cX10_bestTurn 15 = .ok (.iconst (-1), 1) := by decide +kernel
theorem dX10_bestTurn_16 : decode cX10_bestTurn 16 = .ok (.istore_n 2, 1) := by decide +kernel
theorem dX10_bestTurn_17 : decode cX10_bestTurn 17 = .ok (.iconst 1, 1) := by decide +kernel
theorem dX10_bestTurn_18 : decode cX10_bestTurn 18 = .ok (.istore_n 3, 1) := by decide +kernel
theorem dX10_bestTurn_19 : decode cX10_bestTurn 19 = .ok (.iload_n 3, 1) := by decide +kernel
theorem dX10_bestTurn_20 : decode cX10_bestTurn 20 = .ok (.aload_n 0, 1) := by decide +kernel
theorem dX10_bestTurn_21 : decode cX10_bestTurn 21 = .ok (.getfield 25, 3) := by decide +kernel
theorem dX10_bestTurn_24 : decode cX10_bestTurn 24 = .ok (.getfield 185, 3) := by decide +kernel
theorem dX10_bestTurn_27 : decode cX10_bestTurn 27 = .ok (.if_icmp .ge 49, 3) := by decide +kernel
theorem dX10_bestTurn_30 : decode cX10_bestTurn 30 = .ok (.aload_n 0, 1) := by decide +kernel
theorem dX10_bestTurn_31 : decode cX10_bestTurn 31 = .ok (.invokevirtual 374, 3) := by decide +kernel
theorem dX10_bestTurn_34 : decode cX10_bestTurn 34 = .ok (.aload_n 0, 1) := by decide +kernel
theorem dX10_bestTurn_35 : decode cX10_bestTurn 35 = .ok (.getfield 25, 3) := by decide +kernel
theorem dX10_bestTurn_38 : decode cX10_bestTurn 38 = .ok (.iload_n 3, 1) := by decide +kernel
theorem dX10_bestTurn_39 : decode cX10_bestTurn 39 = .ok (.aload_n 0, 1) := by decide +kernel
theorem dX10_bestTurn_40 : decode cX10_bestTurn 40 = .ok (.getfield 68, 3) := by decide +kernel
theorem dX10_bestTurn_43 : decode cX10_bestTurn 43 = .ok (.invokevirtual 302, 3) := by decide +kernel
theorem dX10_bestTurn_46 : decode cX10_bestTurn 46 = .ok (.aload_n 0, 1) := by decide +kernel
theorem dX10_bestTurn_47 : decode cX10_bestTurn 47 = .ok (.getfield 25, 3) := by decide +kernel
theorem dX10_bestTurn_50 : decode cX10_bestTurn 50 = .ok (.aload_n 0, 1) := by decide +kernel
theorem dX10_bestTurn_51 : decode cX10_bestTurn 51 = .ok (.getfield 68, 3) := by decide +kernel
theorem dX10_bestTurn_54 : decode cX10_bestTurn 54 = .ok (.invokevirtual 282, 3) := by decide +kernel
theorem dX10_bestTurn_57 : decode cX10_bestTurn 57 = .ok (.istore 4, 2) := by decide +kernel
theorem dX10_bestTurn_59 : decode cX10_bestTurn 59 = .ok (.iload 4, 2) := by decide +kernel
theorem dX10_bestTurn_61 : decode cX10_bestTurn 61 = .ok (.iload_n 1, 1) := by decide +kernel
theorem dX10_bestTurn_62 : decode cX10_bestTurn 62 = .ok (.if_icmp .le 8, 3) := by decide +kernel
theorem dX10_bestTurn_65 : decode cX10_bestTurn 65 = .ok (.iload 4, 2) := by decide +kernel
theorem dX10_bestTurn_67 : decode cX10_bestTurn 67 = .ok (.istore_n 1, 1) := by decide +kernel
theorem dX10_bestTurn_68 : decode cX10_bestTurn 68 = .ok (.iload_n 3, 1) := by decide +kernel
theorem dX10_bestTurn_69 : decode cX10_bestTurn 69 = .ok (.istore_n 2, 1) := by decide +kernel
theorem dX10_bestTurn_70 : decode cX10_bestTurn 70 = .ok (.iinc 3 1, 3) := by decide +kernel
theorem dX10_bestTurn_73 : decode cX10_bestTurn 73 = .ok (.goto (-54), 3) := by decide +kernel
theorem dX10_bestTurn_76 : decode cX10_bestTurn 76 = .ok (.aload_n 0, 1) := by decide +kernel
theorem dX10_bestTurn_77 : decode cX10_bestTurn 77 = .ok (.iload_n 2, 1) := by decide +kernel
theorem dX10_bestTurn_78 : decode cX10_bestTurn 78 = .ok (.invokevirtual 224, 3) := by decide +kernel
theorem dX10_bestTurn_81 : decode cX10_bestTurn 81 = .ok (.ireturn, 1) := by decide +kernel
set_option maxHeartbeats 4000000 in
set_option maxRecDepth 100000 in
theorem ctX10_bestTurn  {σ : jq_M} {res : Int} {σ' : jq_M}  (h : X10_bestTurn σ = some (res, σ')) : jq_MC jq_zX yX10_bestTurn cX10_bestTurn 5 (some .int) 4 110 [jR 0] σ (some (jI res)) σ' := by
  refine jq_met (own := RX10) (L0 := [(0, jR 0)]) (by decide) rfl rfl rfl ?_
  intro X Γ hnl hlY hRT
  refine jq_use2 (P := fun r => jq_RT jq_zX X (some .int) (some (jI r.1)) r.2) ?_ h hRT
  intro K0 hK0
  unfold X10_bestTurn
  refine jq_aload_n Γ dX10_bestTurn_0 rfl 0 rfl (jq_at_0 at_X_0) ?_
  refine jq_getC (C := jq_cm2) Γ hlY at_X_0 fl_RX10_25 rfl rfl ly_now dX10_bestTurn_1 (fun c1 hc2q => ?_)
  have hc2 := jq_cm2_com hc2q
  refine jq_aload_n Γ dX10_bestTurn_4 rfl 0 rfl (jq_at_0 at_X_0) ?_
  refine jq_getC (C := jq_cm2) Γ hlY at_X_0 fl_RX10_25 rfl rfl ly_now dX10_bestTurn_5 (fun c3 hc4q => ?_)
  have hc4 := jq_cm2_com hc4q
  refine jq_getR (v := (c3 + 3)) Γ hlY (at_com hc4) fl_RX10_200 rfl rfl (ly_X1_seats hc4) dX10_bestTurn_8 ?_
  refine jq_cpI (jq_virt (avs := [jR (c3 + 3)]) (st := []) Γ hlY rfl ml_RX10_282 rfl (at_com hc2) rfl rfl rfl rfl rfl dX10_bestTurn_11) (fun r h => ctX1_worthOfAll hc2 (row_com hc4) h) (fun v5 => ?_)
  refine jq_istore_n (L' := [(1, jI v5), (0, jR 0)]) Γ dX10_bestTurn_14 rfl hnl rfl rfl ?_
  refine jq_iconst Γ dX10_bestTurn_15 rfl ?_
  refine jq_istore_n (L' := [(2, jI (-1)), (1, jI v5), (0, jR 0)]) Γ dX10_bestTurn_16 rfl hnl rfl rfl ?_
  refine jq_iconst Γ dX10_bestTurn_17 rfl ?_
  refine jq_istore_n (L' := [(3, jI 1), (2, jI (-1)), (1, jI v5), (0, jR 0)]) Γ dX10_bestTurn_18 rfl hnl rfl rfl ?_
  refine jq_sub Γ (L' := [(0, jR 0), (1, jI v5), (2, jI (-1)), (3, jI 1)]) [3, 2, 1, 0] rfl ?_
  refine jq_loop2 (C := fun (t6 : Int × Int × Int × jq_M) => jq_V jq_zX X (jq_zN jq_zX) t6.2.2.2 19 [(0, jR 0), (1, jI t6.1), (2, jI t6.2.1), (3, jI t6.2.2.1)] []) (KX := fun (e18 : Int × jq_M) => jq_V jq_zX X (jq_zN jq_zX) e18.2 76 [(0, jR 0), (2, jI e18.1)] []) ?_ ?_ (v5, (-1), 1, σ)
  · intro K19_t6 hCt6 hXt6 t6
    unfold X10_bestTurn_b19
    refine jq_iload_n Γ dX10_bestTurn_19 rfl 3 rfl ?_
    refine jq_aload_n Γ dX10_bestTurn_20 rfl 0 rfl (jq_at_0 at_X_0) ?_
    refine jq_getC (C := jq_cm2) Γ hlY at_X_0 fl_RX10_25 rfl rfl ly_now dX10_bestTurn_21 (fun c7 hc8q => ?_)
    have hc8 := jq_cm2_com hc8q
    refine jq_getI (J := 0) Γ (at_com hc8) fl_RX10_185 rfl rfl dX10_bestTurn_24 ?_
    refine jq_icmp_ge (tgt := 76) Γ dX10_bestTurn_27 rfl ?_ ?_
    · refine jq_sub Γ (L' := [(0, jR 0), (2, jI t6.2.1)]) [0, 2] rfl ?_
      exact jq_done (hXt6 (t6.2.1, t6.2.2.2))
    · refine jq_aload_n Γ dX10_bestTurn_30 rfl 0 rfl (jq_at_0 at_X_0) ?_
      refine jq_cwV (jq_virt (avs := []) (st := []) Γ hlY rfl ml_RX10_374 rfl at_X_0 rfl rfl rfl rfl rfl dX10_bestTurn_31) (fun σ' h => ctX10_layTrial h) (fun s9 => ?_)
      refine jq_aload_n Γ dX10_bestTurn_34 rfl 0 rfl (jq_at_0 at_X_0) ?_
      refine jq_getC (C := jq_cm2) Γ hlY at_X_0 fl_RX10_25 rfl rfl ly_now dX10_bestTurn_35 (fun c10 hc11q => ?_)
      have hc11 := jq_cm2_com hc11q
      refine jq_iload_n Γ dX10_bestTurn_38 rfl 3 rfl ?_
      refine jq_aload_n Γ dX10_bestTurn_39 rfl 0 rfl (jq_at_0 at_X_0) ?_
      refine jq_getR (v := 63) Γ hlY at_X_0 fl_RX10_68 rfl rfl ly_X10_trial dX10_bestTurn_40 ?_
      refine jq_cwV (jq_virt (avs := [jI t6.2.2.1, jR 63]) (st := []) Γ hlY rfl ml_RX10_302 rfl (at_com hc11) rfl rfl rfl rfl rfl dX10_bestTurn_43) (fun σ' h => ctX1_turnAll hc11 row_63 h) (fun s12 => ?_)
      refine jq_aload_n Γ dX10_bestTurn_46 rfl 0 rfl (jq_at_0 at_X_0) ?_
      refine jq_getC (C := jq_cm2) Γ hlY at_X_0 fl_RX10_25 rfl rfl ly_now dX10_bestTurn_47 (fun c13 hc14q => ?_)
      have hc14 := jq_cm2_com hc14q
      refine jq_aload_n Γ dX10_bestTurn_50 rfl 0 rfl (jq_at_0 at_X_0) ?_
      refine jq_getR (v := 63) Γ hlY at_X_0 fl_RX10_68 rfl rfl ly_X10_trial dX10_bestTurn_51 ?_
      refine jq_cpI (jq_virt (avs := [jR 63]) (st := []) Γ hlY rfl ml_RX10_282 rfl (at_com hc14) rfl rfl rfl rfl rfl dX10_bestTurn_54) (fun r h => ctX1_worthOfAll hc14 row_63 h) (fun v15 => ?_)
      refine jq_istore (L' := [(4, jI v15), (0, jR 0), (1, jI t6.1), (2, jI t6.2.1), (3, jI t6.2.2.1)]) Γ dX10_bestTurn_57 hnl rfl rfl ?_
      refine jq_iload Γ dX10_bestTurn_59 0 rfl ?_
      refine jq_iload_n Γ dX10_bestTurn_61 rfl 2 rfl ?_
      refine jq_icmp_le (tgt := 70) Γ dX10_bestTurn_62 rfl ?_ ?_
      · refine jq_iincN (L' := fun v16 => [(3, jI v16), (4, jI v15), (0, jR 0), (1, jI t6.1), (2, jI t6.2.1)]) Γ dX10_bestTurn_70 4 rfl hnl rfl (fun _ => rfl) (fun v16 => ?_)
        refine jq_goto Γ (tgt := 19) dX10_bestTurn_73 rfl ?_
        refine jq_sub Γ (L' := [(0, jR 0), (1, jI t6.1), (2, jI t6.2.1), (3, jI v16)]) [2, 3, 4, 0] rfl ?_
        exact jq_done (hCt6 (t6.1, t6.2.1, v16, s12))
      · refine jq_iload Γ dX10_bestTurn_65 0 rfl ?_
        refine jq_istore_n (L' := [(1, jI v15), (4, jI v15), (0, jR 0), (2, jI t6.2.1), (3, jI t6.2.2.1)]) Γ dX10_bestTurn_67 rfl hnl rfl rfl ?_
        refine jq_iload_n Γ dX10_bestTurn_68 rfl 4 rfl ?_
        refine jq_istore_n (L' := [(2, jI t6.2.2.1), (1, jI v15), (4, jI v15), (0, jR 0), (3, jI t6.2.2.1)]) Γ dX10_bestTurn_69 rfl hnl rfl rfl ?_
        refine jq_iincN (L' := fun v17 => [(3, jI v17), (2, jI t6.2.2.1), (1, jI v15), (4, jI v15), (0, jR 0)]) Γ dX10_bestTurn_70 4 rfl hnl rfl (fun _ => rfl) (fun v17 => ?_)
        refine jq_goto Γ (tgt := 19) dX10_bestTurn_73 rfl ?_
        refine jq_sub Γ (L' := [(0, jR 0), (1, jI v15), (2, jI t6.2.2.1), (3, jI v17)]) [4, 2, 1, 0] rfl ?_
        exact jq_done (hCt6 (v15, t6.2.2.1, v17, s12))
  · intro e18
    refine jq_aload_n Γ dX10_bestTurn_76 rfl 0 rfl (jq_at_0 at_X_0) ?_
    refine jq_iload_n Γ dX10_bestTurn_77 rfl 1 rfl ?_
    refine jq_cwI (jq_virt (avs := [jI e18.1]) (st := []) Γ hlY rfl ml_RX10_224 rfl at_X_0 rfl rfl rfl rfl rfl dX10_bestTurn_78) (fun r σ' h => ctX10_answerOrNone h) (fun v19 s20 => ?_)
    exact jq_ireturn Γ dX10_bestTurn_81 (hK0 _)


theorem dX10_signsBy_0 : decode cX10_signsBy 0 = .ok (.aload_n 0, 1) := by decide +kernel
theorem dX10_signsBy_1 : decode cX10_signsBy 1 = .ok (.iload_n 1, 1) := by decide +kernel
theorem dX10_signsBy_2 : decode cX10_signsBy 2 = .ok (.iload_n 2, 1) := by decide +kernel
theorem dX10_signsBy_3 : decode cX10_signsBy 3 = .ok (.invokevirtual 270, 3) := by decide +kernel
theorem dX10_signsBy_6 : decode cX10_signsBy 6 = .ok (.ifCond .ne 9, 3) := by decide +kernel
theorem dX10_signsBy_9 : decode cX10_signsBy 9 = .ok (.aload_n 0, 1) := by decide +kernel
theorem dX10_signsBy_10 : decode cX10_signsBy 10 = .ok (.iconst 1, 1) := by decide +kernel
theorem dX10_signsBy_11 : decode cX10_signsBy 11 = .ok (.invokevirtual 117, 3) := by decide +kernel
theorem dX10_signsBy_14 : decode cX10_signsBy 14 = .ok (.ireturn, 1) := by decide +kernel
theorem dX10_signsBy_15 : decode cX10_signsBy 15 = .ok (.aload_n 0, 1) := by decide +kernel
theorem dX10_signsBy_16 : decode cX10_signsBy 16 = .ok (.invokevirtual 374, 3) := by decide +kernel
theorem dX10_signsBy_19 : decode cX10_signsBy 19 = .ok (.aload_n 0, 1) := by decide +kernel
theorem dX10_signsBy_20 : decode cX10_signsBy 20 = .ok (.getfield 25, 3) := by decide +kernel
theorem dX10_signsBy_23 : decode cX10_signsBy 23 = .ok (.iload_n 1, 1) := by decide +kernel
theorem dX10_signsBy_24 : decode cX10_signsBy 24 = .ok (.iload_n 2, 1) := by decide +kernel
theorem dX10_signsBy_25 : decode cX10_signsBy 25 = .ok (.aload_n 0, 1) := by decide +kernel
theorem dX10_signsBy_26 : decode cX10_signsBy 26 = .ok (.getfield 68, 3) := by decide +kernel
theorem dX10_signsBy_29 : decode cX10_signsBy 29 = .ok (.invokevirtual 298, 3) := by decide +kernel
theorem dX10_signsBy_32 : decode cX10_signsBy 32 = .ok (.ifCond .ne 10, 3) := by decide +kernel
theorem dX10_signsBy_35 : decode cX10_signsBy 35 = .ok (.aload_n 0, 1) := by decide +kernel
theorem dX10_signsBy_36 : decode cX10_signsBy 36 = .ok (.bipush 7, 2) := by decide +kernel
theorem dX10_signsBy_38 : decode cX10_signsBy 38 = .ok (.invokevirtual 117, 3) := by decide +kernel
theorem dX10_signsBy_41 : decode cX10_signsBy 41 = .ok (.ireturn, 1) := by decide +kernel
theorem dX10_signsBy_42 : decode cX10_signsBy 42 = .ok (.aload_n 0, 1) := by decide +kernel
theorem dX10_signsBy_43 : decode cX10_signsBy 43 = .ok (.aload_n 0, 1) := by decide +kernel
theorem dX10_signsBy_44 : decode cX10_signsBy 44 = .ok (.getfield 25, 3) := by decide +kernel
theorem dX10_signsBy_47 : decode cX10_signsBy 47 = .ok (.aload_n 0, 1) := by decide +kernel
theorem dX10_signsBy_48 : decode cX10_signsBy 48 = .ok (.getfield 68, 3) := by decide +kernel
theorem dX10_signsBy_51 : decode cX10_signsBy 51 = .ok (.invokevirtual 207, 3) := by decide +kernel
theorem dX10_signsBy_54 : decode cX10_signsBy 54 = .ok (.invokevirtual 167, 3) := by decide +kernel
theorem dX10_signsBy_57 : decode cX10_signsBy 57 = .ok (.ireturn, 1) := by decide +kernel
set_option maxHeartbeats 4000000 in
set_option maxRecDepth 100000 in
theorem ctX10_signsBy {p1 : Int} {p2 : Int} {σ : jq_M} {res : Int} {σ' : jq_M}  (h : X10_signsBy p1 p2 σ = some (res, σ')) : jq_MC jq_zX yX10_signsBy cX10_signsBy 3 (some .int) 5 133 [jR 0, jI p1, jI p2] σ (some (jI res)) σ' := by
  refine jq_met (own := RX10) (L0 := [(0, jR 0), (1, jI p1), (2, jI p2)]) (by decide) rfl rfl rfl ?_
  intro X Γ hnl hlY hRT
  refine jq_use2 (P := fun r => jq_RT jq_zX X (some .int) (some (jI r.1)) r.2) ?_ h hRT
  intro K0 hK0
  unfold X10_signsBy
  refine jq_aload_n Γ dX10_signsBy_0 rfl 0 rfl (jq_at_0 at_X_0) ?_
  refine jq_iload_n Γ dX10_signsBy_1 rfl 1 rfl ?_
  refine jq_iload_n Γ dX10_signsBy_2 rfl 2 rfl ?_
  refine jq_cpZ (jq_virt (avs := [jI p1, jI p2]) (st := []) Γ hlY rfl ml_RX10_270 rfl at_X_0 rfl rfl rfl rfl rfl dX10_signsBy_3) rfl (fun r h => ctX10_areTwo h) (fun v1 hz2 => ?_)
  refine jq_if_ne (tgt := 15) Γ dX10_signsBy_6 rfl ?_ ?_
  · refine jq_aload_n Γ dX10_signsBy_15 rfl 0 rfl (jq_at_0 at_X_0) ?_
    refine jq_cwV (jq_virt (avs := []) (st := []) Γ hlY rfl ml_RX10_374 rfl at_X_0 rfl rfl rfl rfl rfl dX10_signsBy_16) (fun σ' h => ctX10_layTrial h) (fun s3 => ?_)
    refine jq_aload_n Γ dX10_signsBy_19 rfl 0 rfl (jq_at_0 at_X_0) ?_
    refine jq_getC (C := jq_cm2) Γ hlY at_X_0 fl_RX10_25 rfl rfl ly_now dX10_signsBy_20 (fun c4 hc5q => ?_)
    have hc5 := jq_cm2_com hc5q
    refine jq_iload_n Γ dX10_signsBy_23 rfl 1 rfl ?_
    refine jq_iload_n Γ dX10_signsBy_24 rfl 2 rfl ?_
    refine jq_aload_n Γ dX10_signsBy_25 rfl 0 rfl (jq_at_0 at_X_0) ?_
    refine jq_getR (v := 63) Γ hlY at_X_0 fl_RX10_68 rfl rfl ly_X10_trial dX10_signsBy_26 ?_
    refine jq_cwZ (jq_virt (avs := [jI p1, jI p2, jR 63]) (st := []) Γ hlY rfl ml_RX10_298 rfl (at_com hc5) rfl rfl rfl rfl rfl dX10_signsBy_29) rfl (fun r σ' h => ctX1_swapTwo hc5 row_63 h) (fun v6 s7 hz8 => ?_)
    refine jq_if_ne (tgt := 42) Γ dX10_signsBy_32 rfl ?_ ?_
    · refine jq_aload_n Γ dX10_signsBy_42 rfl 0 rfl (jq_at_0 at_X_0) ?_
      refine jq_aload_n Γ dX10_signsBy_43 rfl 0 rfl (jq_at_0 at_X_0) ?_
      refine jq_getC (C := jq_cm2) Γ hlY at_X_0 fl_RX10_25 rfl rfl ly_now dX10_signsBy_44 (fun c9 hc10q => ?_)
      have hc10 := jq_cm2_com hc10q
      refine jq_aload_n Γ dX10_signsBy_47 rfl 0 rfl (jq_at_0 at_X_0) ?_
      refine jq_getR (v := 63) Γ hlY at_X_0 fl_RX10_68 rfl rfl ly_X10_trial dX10_signsBy_48 ?_
      refine jq_cwI (jq_virt (avs := [jR 63]) (st := [jR 0]) Γ hlY rfl ml_RX10_207 rfl (at_com hc10) rfl rfl rfl rfl rfl dX10_signsBy_51) (fun r σ' h => ctX1_signersOf hc10 row_63 h) (fun v11 s12 => ?_)
      refine jq_cwI (jq_virt (avs := [jI v11]) (st := []) Γ hlY rfl ml_RX10_167 rfl at_X_0 rfl rfl rfl rfl rfl dX10_signsBy_54) (fun r σ' h => ctX10_answer h) (fun v13 s14 => ?_)
      exact jq_ireturn Γ dX10_signsBy_57 (hK0 _)
    · refine jq_aload_n Γ dX10_signsBy_35 rfl 0 rfl (jq_at_0 at_X_0) ?_
      refine jq_bipush Γ dX10_signsBy_36 rfl ?_
      refine jq_cwI (jq_virt (avs := [jI 7]) (st := []) Γ hlY rfl ml_RX10_117 rfl at_X_0 rfl rfl rfl rfl rfl dX10_signsBy_38) (fun r σ' h => ctX10_refuse h) (fun v15 s16 => ?_)
      exact jq_ireturn Γ dX10_signsBy_41 (hK0 _)
  · refine jq_aload_n Γ dX10_signsBy_9 rfl 0 rfl (jq_at_0 at_X_0) ?_
    refine jq_iconst Γ dX10_signsBy_10 rfl ?_
    refine jq_cwI (jq_virt (avs := [jI 1]) (st := []) Γ hlY rfl ml_RX10_117 rfl at_X_0 rfl rfl rfl rfl rfl dX10_signsBy_11) (fun r σ' h => ctX10_refuse h) (fun v17 s18 => ?_)
    exact jq_ireturn Γ dX10_signsBy_14 (hK0 _)


theorem dX1_sits_0 : decode cX1_sits 0 = .ok (.aload_n 0, 1) := by decide +kernel
theorem dX1_sits_1 : decode cX1_sits 1 = .ok (.iload_n 1, 1) := by decide +kernel
theorem dX1_sits_2 : decode cX1_sits 2 = .ok (.invokevirtual 98, 3) := by decide +kernel
theorem dX1_sits_5 : decode cX1_sits 5 = .ok (.ifCond .eq 17, 3) := by decide +kernel
theorem dX1_sits_8 : decode cX1_sits 8 = .ok (.aload_n 0, 1) := by decide +kernel
theorem dX1_sits_9 : decode cX1_sits 9 = .ok (.getfield 19, 3) := by decide +kernel
theorem dX1_sits_12 : decode cX1_sits 12 = .ok (.iload_n 1, 1) := by decide +kernel
theorem dX1_sits_13 : decode cX1_sits 13 = .ok (.iaload, 1) := by decide +kernel
theorem dX1_sits_14 : decode cX1_sits 14 = .ok (.iconst (-1), 1) := by decide +kernel
theorem dX1_sits_15 : decode cX1_sits 15 = .ok (.if_icmp .eq 7, 3) := by decide +kernel
theorem dX1_sits_18 : decode cX1_sits 18 = .ok (.iconst 1, 1) := by decide +kernel
theorem dX1_sits_19 : decode cX1_sits 19 = .ok (.goto 4, 3) := by decide +kernel
theorem dX1_sits_22 : decode cX1_sits 22 = .ok (.iconst 0, 1) := by decide +kernel
theorem dX1_sits_23 : decode cX1_sits 23 = .ok (.ireturn, 1) := by decide +kernel
set_option maxHeartbeats 4000000 in
set_option maxRecDepth 100000 in
theorem ctX1_sits {o : Int} {p1 : Int} {σ : jq_M} {res : Int} (ho : jq_com o) (h : X1_sits o p1 σ = some res) : jq_MC jq_zX yX1_sits cX1_sits 2 (some .boolean) 2 61 [jR o, jI p1] σ (some (jI res)) σ := by
  refine jq_met (own := RX1) (L0 := [(0, jR o), (1, jI p1)]) (by decide) rfl rfl rfl ?_
  intro X Γ hnl hlY hRT
  refine jq_use2 (P := fun r => jq_RT jq_zX X (some .boolean) (some (jI r)) σ) ?_ h hRT
  intro K0 hK0
  unfold X1_sits
  refine jq_aload_n Γ dX1_sits_0 rfl 0 rfl (jq_at_0 (at_com ho)) ?_
  refine jq_iload_n Γ dX1_sits_1 rfl 1 rfl ?_
  refine jq_cpZ (jq_virt (avs := [jI p1]) (st := []) Γ hlY rfl ml_RX1_98 rfl (at_com ho) rfl rfl rfl rfl rfl dX1_sits_2) rfl (fun r h => ctX1_isParty ho h) (fun v1 hz2 => ?_)
  refine jq_if_eq (tgt := 22) Γ dX1_sits_5 rfl ?_ ?_
  · refine jq_iconst Γ dX1_sits_22 rfl ?_
    exact jq_zreturn Γ (Or.inl rfl) dX1_sits_23 (hK0 _)
  · refine jq_aload_n Γ dX1_sits_8 rfl 0 rfl (jq_at_0 (at_com ho)) ?_
    refine jq_getR (v := (o + 3)) Γ hlY (at_com ho) fl_RX1_19 rfl rfl (ly_X1_seats ho) dX1_sits_9 ?_
    refine jq_iload_n Γ dX1_sits_12 rfl 1 rfl ?_
    refine jq_iald Γ (at_com_3 ho) rfl dX1_sits_13 (fun v3 => ?_)
    refine jq_iconst Γ dX1_sits_14 rfl ?_
    refine jq_icmp_eq (tgt := 22) Γ dX1_sits_15 rfl ?_ ?_
    · refine jq_iconst Γ dX1_sits_22 rfl ?_
      exact jq_zreturn Γ (Or.inl rfl) dX1_sits_23 (hK0 _)
    · refine jq_iconst Γ dX1_sits_18 rfl ?_
      refine jq_goto Γ (tgt := 23) dX1_sits_19 rfl ?_
      exact jq_zreturn Γ (Or.inr rfl) dX1_sits_23 (hK0 _)


theorem dX10_whyNoGame_0 : decode cX10_whyNoGame 0 = .ok (.aload_n 0, 1) := by decide +kernel
theorem dX10_whyNoGame_1 : decode cX10_whyNoGame 1 = .ok (.iload_n 1, 1) := by decide +kernel
theorem dX10_whyNoGame_2 : decode cX10_whyNoGame 2 = .ok (.iload_n 2, 1) := by decide +kernel
theorem dX10_whyNoGame_3 : decode cX10_whyNoGame 3 = .ok (.invokevirtual 270, 3) := by decide +kernel
theorem dX10_whyNoGame_6 : decode cX10_whyNoGame 6 = .ok (.ifCond .eq 13, 3) := by decide +kernel
theorem dX10_whyNoGame_9 : decode cX10_whyNoGame 9 = .ok (.iload_n 3, 1) := by decide +kernel
theorem dX10_whyNoGame_10 : decode cX10_whyNoGame 10 = .ok (.iload 4, 2) := by decide +kernel
theorem dX10_whyNoGame_12 : decode cX10_whyNoGame 12 = .ok (.iconst 3, 1) := by decide +kernel
theorem dX10_whyNoGame_13 : decode cX10_whyNoGame 13 = .ok (.invokestatic 93, 3) := by decide +kernel
theorem dX10_whyNoGame_16 : decode cX10_whyNoGame 16 = .ok (.ifCond .ne 5, 3) := by decide +kernel
theorem dX10_whyNoGame_19 : decode cX10_whyNoGame 19 = .ok (.iconst 1, 1) := by decide +kernel
theorem dX10_whyNoGame_20 : decode cX10_whyNoGame 20 = .ok (.ireturn, 1) := by decide +kernel
theorem dX10_whyNoGame_21 : decode cX10_whyNoGame 21 = .ok (.aload_n 0, 1) := by decide +kernel
theorem dX10_whyNoGame_22 : decode cX10_whyNoGame 22 = .ok (.getfield 25, 3) := by decide +kernel
theorem dX10_whyNoGame_25 : decode cX10_whyNoGame 25 = .ok (.iload_n 1, 1) := by decide +kernel
theorem dX10_whyNoGame_26 : decode cX10_whyNoGame 26 = .ok (.invokevirtual 454, 3) := by decide +kernel
theorem dX10_whyNoGame_29 : decode cX10_whyNoGame 29 = .ok (.ifCond .eq 18, 3) := by decide +kernel
theorem dX10_whyNoGame_32 : decode cX10_whyNoGame 32 = .ok (.aload_n 0, 1) := by decide +kernel
theorem dX10_whyNoGame_33 : decode cX10_whyNoGame 33 = .ok (.getfield 25, 3) := by decide +kernel
theorem dX10_whyNoGame_36 : decode cX10_whyNoGame 36 = .ok (.iload_n 2, 1) := by decide +kernel
theorem dX10_whyNoGame_37 : decode cX10_whyNoGame 37 = .ok (.invokevirtual 454, 3) := by decide +kernel
theorem dX10_whyNoGame_40 : decode cX10_whyNoGame 40 = .ok (.ifCond .eq 7, 3) := by decide +kernel
theorem dX10_whyNoGame_43 : decode cX10_whyNoGame 43 = .ok (.iconst 0, 1) := by decide +kernel
theorem dX10_whyNoGame_44 : decode cX10_whyNoGame 44 = .ok (.goto 5, 3) := by decide +kernel
theorem dX10_whyNoGame_47 : decode cX10_whyNoGame 47 = .ok (.bipush 7, 2) := by decide +kernel
theorem dX10_whyNoGame_49 : decode cX10_whyNoGame 49 = .ok (.ireturn, 1) := by decide +kernel
set_option maxHeartbeats 4000000 in
set_option maxRecDepth 100000 in
theorem ctX10_whyNoGame {p1 : Int} {p2 : Int} {p3 : Int} {p4 : Int} {σ : jq_M} {res : Int}  (h : X10_whyNoGame p1 p2 p3 p4 σ = some res) : jq_MC jq_zX yX10_whyNoGame cX10_whyNoGame 5 (some .int) 3 83 [jR 0, jI p1, jI p2, jI p3, jI p4] σ (some (jI res)) σ := by
  refine jq_met (own := RX10) (L0 := [(0, jR 0), (1, jI p1), (2, jI p2), (3, jI p3), (4, jI p4)]) (by decide) rfl rfl rfl ?_
  intro X Γ hnl hlY hRT
  refine jq_use2 (P := fun r => jq_RT jq_zX X (some .int) (some (jI r)) σ) ?_ h hRT
  intro K0 hK0
  unfold X10_whyNoGame
  refine jq_aload_n Γ dX10_whyNoGame_0 rfl 0 rfl (jq_at_0 at_X_0) ?_
  refine jq_iload_n Γ dX10_whyNoGame_1 rfl 1 rfl ?_
  refine jq_iload_n Γ dX10_whyNoGame_2 rfl 2 rfl ?_
  refine jq_cpZ (jq_virt (avs := [jI p1, jI p2]) (st := []) Γ hlY rfl ml_RX10_270 rfl at_X_0 rfl rfl rfl rfl rfl dX10_whyNoGame_3) rfl (fun r h => ctX10_areTwo h) (fun v1 hz2 => ?_)
  refine jq_if_eq (tgt := 19) Γ dX10_whyNoGame_6 rfl ?_ ?_
  · refine jq_iconst Γ dX10_whyNoGame_19 rfl ?_
    exact jq_ireturn Γ dX10_whyNoGame_20 (hK0 _)
  · refine jq_iload_n Γ dX10_whyNoGame_9 rfl 3 rfl ?_
    refine jq_iload Γ dX10_whyNoGame_10 4 rfl ?_
    refine jq_iconst Γ dX10_whyNoGame_12 rfl ?_
    refine jq_cpZ (jq_stat (avs := [jI p3, jI p4, jI 3]) (st := []) Γ hlY rfl ml_RX10_93 rfl rfl rfl rfl rfl dX10_whyNoGame_13) rfl (fun r h => ctX10_within h) (fun v3 hz4 => ?_)
    refine jq_if_ne (tgt := 21) Γ dX10_whyNoGame_16 rfl ?_ ?_
    · refine jq_aload_n Γ dX10_whyNoGame_21 rfl 0 rfl (jq_at_0 at_X_0) ?_
      refine jq_getC (C := jq_cm2) Γ hlY at_X_0 fl_RX10_25 rfl rfl ly_now dX10_whyNoGame_22 (fun c5 hc6q => ?_)
      have hc6 := jq_cm2_com hc6q
      refine jq_iload_n Γ dX10_whyNoGame_25 rfl 1 rfl ?_
      refine jq_cpZ (jq_virt (avs := [jI p1]) (st := []) Γ hlY rfl ml_RX10_454 rfl (at_com hc6) rfl rfl rfl rfl rfl dX10_whyNoGame_26) rfl (fun r h => ctX1_sits hc6 h) (fun v7 hz8 => ?_)
      refine jq_if_eq (tgt := 47) Γ dX10_whyNoGame_29 rfl ?_ ?_
      · refine jq_bipush Γ dX10_whyNoGame_47 rfl ?_
        exact jq_ireturn Γ dX10_whyNoGame_49 (hK0 _)
      · refine jq_aload_n Γ dX10_whyNoGame_32 rfl 0 rfl (jq_at_0 at_X_0) ?_
        refine jq_getC (C := jq_cm2) Γ hlY at_X_0 fl_RX10_25 rfl rfl ly_now dX10_whyNoGame_33 (fun c9 hc10q => ?_)
        have hc10 := jq_cm2_com hc10q
        refine jq_iload_n Γ dX10_whyNoGame_36 rfl 2 rfl ?_
        refine jq_cpZ (jq_virt (avs := [jI p2]) (st := []) Γ hlY rfl ml_RX10_454 rfl (at_com hc10) rfl rfl rfl rfl rfl dX10_whyNoGame_37) rfl (fun r h => ctX1_sits hc10 h) (fun v11 hz12 => ?_)
        refine jq_if_eq (tgt := 47) Γ dX10_whyNoGame_40 rfl ?_ ?_
        · refine jq_bipush Γ dX10_whyNoGame_47 rfl ?_
          exact jq_ireturn Γ dX10_whyNoGame_49 (hK0 _)
        · refine jq_iconst Γ dX10_whyNoGame_43 rfl ?_
          refine jq_goto Γ (tgt := 49) dX10_whyNoGame_44 rfl ?_
          exact jq_ireturn Γ dX10_whyNoGame_49 (hK0 _)
    · refine jq_iconst Γ dX10_whyNoGame_19 rfl ?_
      exact jq_ireturn Γ dX10_whyNoGame_20 (hK0 _)


theorem dX4_shift_0 : decode cX4_shift 0 = .ok (.aload_n 0, 1) := by decide +kernel
theorem dX4_shift_1 : decode cX4_shift 1 = .ok (.iload_n 3, 1) := by decide +kernel
theorem dX4_shift_2 : decode cX4_shift 2 = .ok (.aload_n 1, 1) := by decide +kernel
theorem dX4_shift_3 : decode cX4_shift 3 = .ok (.invokevirtual 42, 3) := by decide +kernel
theorem dX4_shift_6 : decode cX4_shift 6 = .ok (.istore 4, 2) := by decide +kernel
theorem dX4_shift_8 : decode cX4_shift 8 = .ok (.aload_n 0, 1) := by decide +kernel
theorem dX4_shift_9 : decode cX4_shift 9 = .ok (.iload_n 2, 1) := by decide +kernel
theorem dX4_shift_10 : decode cX4_shift 10 = .ok (.invokevirtual 45, 3) := by decide +kernel
theorem dX4_shift_13 : decode cX4_shift 13 = .ok (.ifCond .ne 4, 3) := by decide +kernel
theorem dX4_shift_16 : decode cX4_shift 16 = .ok (.return_, 1) := by decide +kernel
theorem dX4_shift_17 : decode cX4_shift 17 = .ok (.aload_n 0, 1) := by decide +kernel
theorem dX4_shift_18 : decode cX4_shift 18 = .ok (.iload 4, 2) := by decide +kernel
theorem dX4_shift_20 : decode cX4_shift 20 = .ok (.invokevirtual 45, 3) := by decide +kernel
theorem dX4_shift_23 : decode cX4_shift 23 = .ok (.ifCond .eq 10, 3) := by decide +kernel
theorem dX4_shift_26 : decode cX4_shift 26 = .ok (.aload_n 1, 1) := by decide +kernel
theorem dX4_shift_27 : decode cX4_shift 27 = .ok (.iload 4, 2) := by decide +kernel
theorem dX4_shift_29 : decode cX4_shift 29 = .ok (.aload_n 1, 1) := by decide +kernel
theorem dX4_shift_30 : decode cX4_shift 30 = .ok (.iload_n 2, 1) := by decide +kernel
theorem dX4_shift_31 : decode cX4_shift 31 = .ok (.iaload, 1) := by decide +kernel
theorem dX4_shift_32 : decode cX4_shift 32 = .ok (.iastore, 1) := by decide +kernel
theorem dX4_shift_33 : decode cX4_shift 33 = .ok (.aload_n 1, 1) := by decide +kernel
theorem dX4_shift_34 : decode cX4_shift 34 = .ok (.iload_n 2, 1) := by decide +kernel
theorem dX4_shift_35 : decode cX4_shift 35 = .ok (.iload_n 3, 1) := by decide +kernel
theorem dX4_shift_36 : decode cX4_shift 36 = .ok (.iastore, 1) := by decide +kernel
theorem dX4_shift_37 : decode cX4_shift 37 = .ok (.return_, 1) := by decide +kernel
set_option maxHeartbeats 4000000 in
set_option maxRecDepth 100000 in
theorem ctX4_shift {p0 : Int} {p1 : Int} {p2 : Int} {p3 : Int} {σ : jq_M} {σ' : jq_M} (hp0 : jq_com p0) (hp1 : jq_row p1) (h : X4_shift p0 p1 p2 p3 σ = some σ') : jq_MC jq_zX yX4_shift cX4_shift 5 none 2 63 [jR p0, jR p1, jI p2, jI p3] σ none σ' := by
  refine jq_met (own := RX4) (L0 := [(0, jR p0), (1, jR p1), (2, jI p2), (3, jI p3)]) (by decide) rfl rfl rfl ?_
  intro X Γ hnl hlY hRT
  refine jq_use2 (P := fun r => jq_RT jq_zX X none none r) ?_ h hRT
  intro K0 hK0
  unfold X4_shift
  refine jq_aload_n Γ dX4_shift_0 rfl 0 rfl (jq_at_0 (at_com hp0)) ?_
  refine jq_iload_n Γ dX4_shift_1 rfl 3 rfl ?_
  refine jq_aload_n Γ dX4_shift_2 rfl 1 rfl (jq_at_0 (at_row hp1)) ?_
  refine jq_cpI (jq_virt (avs := [jI p3, jR p1]) (st := []) Γ hlY rfl ml_RX4_42 rfl (at_com hp0) rfl rfl rfl rfl rfl dX4_shift_3) (fun r h => ctX1_sitterAt hp0 hp1 h) (fun v1 => ?_)
  refine jq_istore (L' := [(4, jI v1), (0, jR p0), (1, jR p1), (2, jI p2), (3, jI p3)]) Γ dX4_shift_6 hnl rfl rfl ?_
  refine jq_aload_n Γ dX4_shift_8 rfl 1 rfl (jq_at_0 (at_com hp0)) ?_
  refine jq_iload_n Γ dX4_shift_9 rfl 3 rfl ?_
  refine jq_cpZ (jq_virt (avs := [jI p2]) (st := []) Γ hlY rfl ml_RX4_45 rfl (at_com hp0) rfl rfl rfl rfl rfl dX4_shift_10) rfl (fun r h => ctX1_isParty hp0 h) (fun v2 hz3 => ?_)
  refine jq_if_ne (tgt := 17) Γ dX4_shift_13 rfl ?_ ?_
  · refine jq_aload_n Γ dX4_shift_17 rfl 1 rfl (jq_at_0 (at_com hp0)) ?_
    refine jq_iload Γ dX4_shift_18 0 rfl ?_
    refine jq_cpZ (jq_virt (avs := [jI v1]) (st := []) Γ hlY rfl ml_RX4_45 rfl (at_com hp0) rfl rfl rfl rfl rfl dX4_shift_20) rfl (fun r h => ctX1_isParty hp0 h) (fun v4 hz5 => ?_)
    refine jq_if_eq (tgt := 33) Γ dX4_shift_23 rfl ?_ ?_
    · refine jq_aload_n Γ dX4_shift_33 rfl 2 rfl (jq_at_0 (at_row hp1)) ?_
      refine jq_iload_n Γ dX4_shift_34 rfl 3 rfl ?_
      refine jq_iload_n Γ dX4_shift_35 rfl 4 rfl ?_
      refine jq_iast Γ (at_row hp1) rfl dX4_shift_36 (fun s6 => ?_)
      exact jq_vreturn Γ dX4_shift_37 (hK0 _)
    · refine jq_aload_n Γ dX4_shift_26 rfl 2 rfl (jq_at_0 (at_row hp1)) ?_
      refine jq_iload Γ dX4_shift_27 0 rfl ?_
      refine jq_aload_n Γ dX4_shift_29 rfl 2 rfl (jq_at_0 (at_row hp1)) ?_
      refine jq_iload_n Γ dX4_shift_30 rfl 3 rfl ?_
      refine jq_iald Γ (at_row hp1) rfl dX4_shift_31 (fun v7 => ?_)
      refine jq_iast Γ (at_row hp1) rfl dX4_shift_32 (fun s8 => ?_)
      refine jq_aload_n Γ dX4_shift_33 rfl 2 rfl (jq_at_0 (at_row hp1)) ?_
      refine jq_iload_n Γ dX4_shift_34 rfl 3 rfl ?_
      refine jq_iload_n Γ dX4_shift_35 rfl 4 rfl ?_
      refine jq_iast Γ (at_row hp1) rfl dX4_shift_36 (fun s9 => ?_)
      exact jq_vreturn Γ dX4_shift_37 (hK0 _)
  · exact jq_vreturn Γ dX4_shift_16 (hK0 _)


theorem dX4_bestLead_0 : decode cX4_bestLead 0 = .ok (.iload 5, 2) := by decide +kernel
theorem dX4_bestLead_2 : decode cX4_bestLead 2 = .ok (.ifCond .eq 7, 3) := by decide +kernel
theorem dX4_bestLead_5 : decode cX4_bestLead 5 = .ok (.iload_n 2, 1) := by decide +kernel
theorem dX4_bestLead_6 : decode cX4_bestLead 6 = .ok (.goto 4, 3) := by decide +kernel
theorem dX4_bestLead_9 : decode cX4_bestLead 9 = .ok (.iload_n 3, 1) := by decide +kernel
theorem dX4_bestLead_10 : decode cX4_bestLead 10 = .ok (.istore 6, 2) := by decide +kernel
theorem dX4_bestLead_12 : decode cX4_bestLead 12 = .ok (.aload_n 1, 1) := by decide +kernel
theorem dX4_bestLead_13 : decode cX4_bestLead 13 = .ok (.iload 6, 2) := by decide +kernel
theorem dX4_bestLead_15 : decode cX4_bestLead 15 = .ok (.invokestatic 9, 3) := by decide +kernel
theorem dX4_bestLead_18 : decode cX4_bestLead 18 = .ok (.istore 7, 2) := by decide +kernel
theorem dX4_bestLead_20 : decode cX4_bestLead 20 = .ok (.iload 4, 2) := by decide +kernel
theorem dX4_bestLead_22 : decode cX4_bestLead 22 = .ok (.iconst 1, 1) := by decide +kernel
theorem dX4_bestLead_23 : decode cX4_bestLead 23 = .ok (.if_icmp .lt 15, 3) := by decide +kernel
theorem dX4_bestLead_26 : decode cX4_bestLead 26 = .ok (.iload 4, 2) := by decide +kernel
theorem dX4_bestLead_28 : decode cX4_bestLead 28 = .ok (.iconst 3, 1) := by decide +kernel
theorem dX4_bestLead_29 : decode cX4_bestLead 29 = .ok (.if_icmp .gt 9, 3) := by decide +kernel
theorem dX4_bestLead_32 : decode cX4_bestLead 32 = .ok (.iload 7, 2) := by decide +kernel
theorem dX4_bestLead_34 : decode cX4_bestLead 34 = .ok (.iconst (-1), 1) := by decide +kernel
theorem dX4_bestLead_35 : decode cX4_bestLead 35 = .ok (.if_icmp .ne 17, 3) := by decide +kernel
theorem dX4_bestLead_38 : decode cX4_bestLead 38 = .ok (.aload_n 0, 1) := by decide +kernel
theorem dX4_bestLead_39 : decode cX4_bestLead 39 = .ok (.iload_n 2, 1) := by decide +kernel
theorem dX4_bestLead_40 : decode cX4_bestLead 40 = .ok (.aload_n 1, 1) := by decide +kernel
theorem dX4_bestLead_41 : decode cX4_bestLead 41 = .ok (.invokevirtual 15, 3) := by decide +kernel
theorem dX4_bestLead_44 : decode cX4_bestLead 44 = .ok (.aload_n 0, 1) := by decide +kernel
theorem dX4_bestLead_45 : decode cX4_bestLead 45 = .ok (.iload_n 3, 1) := by decide +kernel
theorem dX4_bestLead_46 : decode cX4_bestLead 46 = .ok (.aload_n 1, 1) := by decide +kernel
theorem dX4_bestLead_47 : decode cX4_bestLead 47 = .ok (.invokevirtual 15, 3) := by decide +kernel
theorem dX4_bestLead_50 : decode cX4_bestLead 50 = .ok (.isub, 1) := by decide +kernel
theorem dX4_bestLead_51 : decode cX4_bestLead 51 = .ok (.ireturn, 1) := by decide +kernel
theorem dX4_bestLead_52 : decode cX4_bestLead 52 = .ok (.aload_n 0, 1) := by decide +kernel
theorem dX4_bestLead_53 : decode cX4_bestLead 53 = .ok (.aload_n 1, 1) := by decide +kernel
theorem dX4_bestLead_54 : decode cX4_bestLead 54 = .ok (.iload_n 2, 1) := by decide +kernel
theorem dX4_bestLead_55 : decode cX4_bestLead 55 = .ok (.iload_n 3, 1) := by decide +kernel
theorem dX4_bestLead_56 : decode cX4_bestLead 56 = .ok (.iload 4, 2) := by decide +kernel
theorem dX4_bestLead_58 : decode cX4_bestLead 58 = .ok (.iconst 1, 1) := by decide +kernel
theorem dX4_bestLead_59 : decode cX4_bestLead 59 = .ok (.isub, 1) := by decide +kernel
theorem dX4_bestLead_60 : decode cX4_bestLead 60 = .ok (.iload 5, 2) := by decide +kernel
theorem dX4_bestLead_62 : decode cX4_bestLead 62 = .ok (.ifCond .ne 7, 3) := by decide +kernel
theorem dX4_bestLead_65 : decode cX4_bestLead 65 = .ok (.iconst 1, 1) := by decide +kernel
theorem dX4_bestLead_66 : decode cX4_bestLead 66 = .ok (.goto 4, 3) := by decide +kernel
theorem dX4_bestLead_69 : decode cX4_bestLead 69 = .ok (.iconst 0, 1) := by decide +kernel
theorem dX4_bestLead_70 : decode cX4_bestLead 70 = .ok (.invokestatic 19, 3) := by decide +kernel
theorem dX4_bestLead_73 : decode cX4_bestLead 73 = .ok (.istore 8, 2) := by decide +kernel
theorem dX4_bestLead_75 : decode cX4_bestLead 75 = .ok (.iconst 0, 1) := by decide +kernel
theorem dX4_bestLead_76 : decode cX4_bestLead 76 = .ok (.istore 9, 2) := by decide +kernel
theorem dX4_bestLead_78 : decode cX4_bestLead 78 = .ok (.iload 9, 2) := by decide +kernel
theorem dX4_bestLead_80 : decode cX4_bestLead 80 = .ok (.aload_n 0, 1) := by decide +kernel
theorem dX4_bestLead_81 : decode cX4_bestLead 81 = .ok (.getfield 25, 3) := by decide +kernel
theorem dX4_bestLead_84 : decode cX4_bestLead 84 = .ok (.if_icmp .ge 81, 3) := by decide +kernel
theorem dX4_bestLead_87 : decode cX4_bestLead 87 = .ok (.iload 9, 2) := by decide +kernel
theorem dX4_bestLead_89 : decode cX4_bestLead 89 = .ok (.iload 7, 2) := by decide +kernel
theorem dX4_bestLead_91 : decode cX4_bestLead 91 = .ok (.if_icmp .eq 68, 3) := by decide +kernel
theorem dX4_bestLead_94 : decode cX4_bestLead 94 = .ok (.aload_n 0, 1) := by decide +kernel
theorem dX4_bestLead_95 : decode cX4_bestLead 95 = .ok (.aload_n 1, 1) := by decide +kernel
theorem dX4_bestLead_96 : decode cX4_bestLead 96 = .ok (.iload 6, 2) := by decide +kernel
theorem dX4_bestLead_98 : decode cX4_bestLead 98 = .ok (.iload 9, 2) := by decide +kernel
theorem dX4_bestLead_100 : decode cX4_bestLead 100 = .ok (.invokestatic 29, 3) := by decide +kernel
theorem dX4_bestLead_103 : decode cX4_bestLead 103 = .ok (.aload_n 0, 1) := by decide +kernel
theorem dX4_bestLead_104 : decode cX4_bestLead 104 = .ok (.aload_n 1, 1) := by decide +kernel
theorem dX4_bestLead_105 : decode cX4_bestLead 105 = .ok (.iload_n 2, 1) := by decide +kernel
theorem dX4_bestLead_106 : decode cX4_bestLead 106 = .ok (.iload_n 3, 1) := by decide +kernel
theorem dX4_bestLead_107 : decode cX4_bestLead 107 = .ok (.iload 4, 2) := by decide +kernel
theorem dX4_bestLead_109 : decode cX4_bestLead 109 = .ok (.iconst 1, 1) := by decide +kernel
theorem dX4_bestLead_110 : decode cX4_bestLead 110 = .ok (.isub, 1) := by decide +kernel
theorem dX4_bestLead_111 : decode cX4_bestLead 111 = .ok (.iload 5, 2) := by decide +kernel
theorem dX4_bestLead_113 : decode cX4_bestLead 113 = .ok (.ifCond .ne 7, 3) := by decide +kernel
theorem dX4_bestLead_116 : decode cX4_bestLead 116 = .ok (.iconst 1, 1) := by decide +kernel
theorem dX4_bestLead_117 : decode cX4_bestLead 117 = .ok (.goto 4, 3) := by decide +kernel
theorem dX4_bestLead_120 : decode cX4_bestLead 120 = .ok (.iconst 0, 1) := by decide +kernel
theorem dX4_bestLead_121 : decode cX4_bestLead 121 = .ok (.invokestatic 19, 3) := by decide +kernel
theorem dX4_bestLead_124 : decode cX4_bestLead 124 = .ok (.istore 10, 2) := by decide +kernel
theorem dX4_bestLead_126 : decode cX4_bestLead 126 = .ok (.aload_n 0, 1) := by decide +kernel
theorem dX4_bestLead_127 : decode cX4_bestLead 127 = .ok (.aload_n 1, 1) := by decide +kernel
theorem dX4_bestLead_128 : decode cX4_bestLead 128 = .ok (.iload 6, 2) := by decide +kernel
theorem dX4_bestLead_130 : decode cX4_bestLead 130 = .ok (.iload 7, 2) := by decide +kernel
theorem dX4_bestLead_132 : decode cX4_bestLead 132 = .ok (.invokestatic 29, 3) := by decide +kernel
theorem dX4_bestLead_135 : decode cX4_bestLead 135 = .ok (.iload 5, 2) := by decide +kernel
theorem dX4_bestLead_137 : decode cX4_bestLead 137 = .ok (.ifCond .eq 13, 3) := by decide +kernel
theorem dX4_bestLead_140 : decode cX4_bestLead 140 = .ok (.iload 8, 2) := by decide +kernel
theorem dX4_bestLead_142 : decode cX4_bestLead 142 = .ok (.iload 10, 2) := by decide +kernel
theorem dX4_bestLead_144 : decode cX4_bestLead 144 = .ok (.invokestatic 33, 3) := by decide +kernel
theorem dX4_bestLead_147 : decode cX4_bestLead 147 = .ok (.goto 10, 3) := by decide +kernel
theorem dX4_bestLead_150 : decode cX4_bestLead 150 = .ok (.iload 8, 2) := by decide +kernel
theorem dX4_bestLead_152 : decode cX4_bestLead 152 = .ok (.iload 10, 2) := by decide +kernel
theorem dX4_bestLead_154 : decode cX4_bestLead 154 = .ok (.invokestatic 39, 3) := by decide +kernel
theorem dX4_bestLead_157 : decode cX4_bestLead 157 = .ok (.istore 8, 2) := by decide +kernel
theorem dX4_bestLead_159 : decode cX4_bestLead 159 = .ok (.iinc 9 1, 3) := by decide +kernel
theorem dX4_bestLead_162 : decode cX4_bestLead 162 = .ok (.goto (-84), 3) := by decide +kernel
theorem dX4_bestLead_165 : decode cX4_bestLead 165 = .ok (.iload 8, 2) := by decide +kernel
theorem dX4_bestLead_167 : decode cX4_bestLead 167 = .ok (.ireturn, 1) := by decide +kernel
set_option maxHeartbeats 4000000 in
set_option maxRecDepth 100000 in
theorem ctX4_bestLead : ∀ (dp : Nat) {p0 : Int} {p1 : Int} {p2 : Int} {p3 : Int} {p4 : Int} {p5 : Int} {σ : jq_M} {res : Int} {σ' : jq_M}, jq_com p0 → jq_row p1 → X4_bestLead dp p0 p1 p2 p3 p4 p5 σ = some (res, σ') → jq_MC jq_zX yX4_bestLead cX4_bestLead 11 (some .int) (4 + dp) (111 + dp * 30) [jR p0, jR p1, jI p2, jI p3, jI p4, jI p5] σ (some (jI res)) σ' := by
  intro dp
  induction dp with
  | zero => intro p0 p1 p2 p3 p4 p5 σ res σ' hp0 hp1 h; cases h
  | succ dp ih =>
  intro p0 p1 p2 p3 p4 p5 σ res σ' hp0 hp1 h
  unfold X4_bestLead at h
  refine jq_met (own := RX4) (L0 := [(0, jR p0), (1, jR p1), (2, jI p2), (3, jI p3), (4, jI p4), (5, jI p5)]) (by decide) rfl rfl rfl ?_
  intro X Γ hnl hlY hRT
  refine jq_use2 (P := fun r => jq_RT jq_zX X (some .int) (some (jI r.1)) r.2) ?_ h hRT
  intro K0 hK0
  have hj38_0 : ∀ (s4 : jq_M), jq_J (X4_bestLead_j38 p0 p1 p2 p3 s4) K0 (jq_V jq_zX X (jq_zN jq_zX) s4 38 [(0, jR p0), (1, jR p1), (2, jI p2), (3, jI p3)] []) := by
    intro s4
    unfold X4_bestLead_j38
    refine jq_aload_n Γ dX4_bestLead_38 rfl 0 rfl (jq_at_0 (at_com hp0)) ?_
    refine jq_iload_n Γ dX4_bestLead_39 rfl 2 rfl ?_
    refine jq_aload_n Γ dX4_bestLead_40 rfl 1 rfl (jq_at_0 (at_row hp1)) ?_
    refine jq_cpI (jq_virt (avs := [jI p2, jR p1]) (st := []) Γ hlY rfl ml_RX4_15 rfl (at_com hp0) rfl rfl (by simp only [Nat.ble_eq]; omega) (by simp only [Nat.ble_eq]; omega) rfl dX4_bestLead_41) (fun r h => ctX1_worthTo hp0 hp1 h) (fun v5 => ?_)
    refine jq_aload_n Γ dX4_bestLead_44 rfl 0 rfl (jq_at_0 (at_com hp0)) ?_
    refine jq_iload_n Γ dX4_bestLead_45 rfl 3 rfl ?_
    refine jq_aload_n Γ dX4_bestLead_46 rfl 1 rfl (jq_at_0 (at_row hp1)) ?_
    refine jq_cpI (jq_virt (avs := [jI p3, jR p1]) (st := [jI v5]) Γ hlY rfl ml_RX4_15 rfl (at_com hp0) rfl rfl (by simp only [Nat.ble_eq]; omega) (by simp only [Nat.ble_eq]; omega) rfl dX4_bestLead_47) (fun r h => ctX1_worthTo hp0 hp1 h) (fun v6 => ?_)
    refine jq_isub Γ dX4_bestLead_50 ?_
    exact jq_ireturn Γ dX4_bestLead_51 (hK0 _)
  have hj70_0 : ∀ (j7 : Int) (j8 : Int) (j9 : Int) (j10 : Int) (j11 : Int) (j12 : Int) (s14 : jq_M) (hz13 : j12 = 0 ∨ j12 = 1), jq_J (X4_bestLead_j70 p0 p1 p2 p3 p4 p5 (X4_bestLead dp) j7 j8 j9 j10 j11 j12 s14) K0 (jq_V jq_zX X (jq_zN jq_zX) s14 70 [(0, jR p0), (1, jR p1), (2, jI p2), (3, jI p3), (4, jI p4), (5, jI p5), (6, jI j7), (7, jI j8)] [jI j12, jI j11, jI j10, jI j9, jR p1, jR p0]) := by
    intro j7 j8 j9 j10 j11 j12 s14 hz13
    unfold X4_bestLead_j70
    refine jq_cwI (jq_stat (avs := [jR p0, jR p1, jI j9, jI j10, jI j11, jI j12]) (st := []) Γ hlY rfl ml_RX4_19 rfl rfl (by simp only [Nat.ble_eq]; omega) (by simp only [Nat.ble_eq]; omega) rfl dX4_bestLead_70) (fun r σ' h => ih hp0 hp1 h) (fun v15 s16 => ?_)
    refine jq_istore (L' := [(8, jI v15), (0, jR p0), (1, jR p1), (2, jI p2), (3, jI p3), (4, jI p4), (5, jI p5), (6, jI j7), (7, jI j8)]) Γ dX4_bestLead_73 hnl rfl rfl ?_
    refine jq_iconst Γ dX4_bestLead_75 rfl ?_
    refine jq_istore (L' := [(9, jI 0), (8, jI v15), (0, jR p0), (1, jR p1), (2, jI p2), (3, jI p3), (4, jI p4), (5, jI p5), (6, jI j7), (7, jI j8)]) Γ dX4_bestLead_76 hnl rfl rfl ?_
    refine jq_sub Γ (L' := [(0, jR p0), (1, jR p1), (2, jI p2), (3, jI p3), (4, jI p4), (5, jI p5), (6, jI j7), (7, jI j8), (8, jI v15), (9, jI 0)]) [2, 3, 4, 5, 6, 7, 8, 9, 1, 0] rfl ?_
    refine jq_loop2 (C := fun (t17 : Int × Int × jq_M) => jq_V jq_zX X (jq_zN jq_zX) t17.2.2 78 [(0, jR p0), (1, jR p1), (2, jI p2), (3, jI p3), (4, jI p4), (5, jI p5), (6, jI j7), (7, jI j8), (8, jI t17.1), (9, jI t17.2.1)] []) (KX := fun (e35 : Int × jq_M) => jq_V jq_zX X (jq_zN jq_zX) e35.2 165 [(8, jI e35.1)] []) ?_ ?_ (v15, 0, s16)
    · intro K78_t17 hCt17 hXt17 t17
      unfold X4_bestLead_b78
      have hj121_1045 : ∀ (j20 : Int) (j21 : Int) (j22 : Int) (j23 : Int) (j24 : Int) (j25 : Int) (s27 : jq_M) (hz26 : j25 = 0 ∨ j25 = 1), jq_J (X4_bestLead_j121 p0 p1 p2 p3 p4 p5 (X4_bestLead dp) j7 j8 j20 j21 j22 j23 j24 j25 s27) K78_t17 (jq_V jq_zX X (jq_zN jq_zX) s27 121 [(0, jR p0), (1, jR p1), (2, jI p2), (3, jI p3), (4, jI p4), (5, jI p5), (6, jI j7), (7, jI j8), (8, jI j20), (9, jI j21)] [jI j25, jI j24, jI j23, jI j22, jR p1, jR p0]) := by
        intro j20 j21 j22 j23 j24 j25 s27 hz26
        unfold X4_bestLead_j121
        refine jq_cwI (jq_stat (avs := [jR p0, jR p1, jI j22, jI j23, jI j24, jI j25]) (st := []) Γ hlY rfl ml_RX4_19 rfl rfl (by simp only [Nat.ble_eq]; omega) (by simp only [Nat.ble_eq]; omega) rfl dX4_bestLead_121) (fun r σ' h => ih hp0 hp1 h) (fun v28 s29 => ?_)
        refine jq_istore (L' := [(10, jI v28), (0, jR p0), (1, jR p1), (2, jI p2), (3, jI p3), (4, jI p4), (5, jI p5), (6, jI j7), (7, jI j8), (8, jI j20), (9, jI j21)]) Γ dX4_bestLead_124 hnl rfl rfl ?_
        refine jq_aload_n Γ dX4_bestLead_126 rfl 1 rfl (jq_at_0 (at_com hp0)) ?_
        refine jq_aload_n Γ dX4_bestLead_127 rfl 2 rfl (jq_at_0 (at_row hp1)) ?_
        refine jq_iload Γ dX4_bestLead_128 7 rfl ?_
        refine jq_iload Γ dX4_bestLead_130 8 rfl ?_
        refine jq_cwV (jq_stat (avs := [jR p0, jR p1, jI j7, jI j8]) (st := []) Γ hlY rfl ml_RX4_29 rfl rfl (by simp only [Nat.ble_eq]; omega) (by simp only [Nat.ble_eq]; omega) rfl dX4_bestLead_132) (fun σ' h => ctX4_shift hp0 hp1 h) (fun s30 => ?_)
        refine jq_iload Γ dX4_bestLead_135 6 rfl ?_
        refine jq_if_eq (tgt := 150) Γ dX4_bestLead_137 rfl ?_ ?_
        · refine jq_iload Γ dX4_bestLead_150 9 rfl ?_
          refine jq_iload Γ dX4_bestLead_152 0 rfl ?_
          refine jq_mmin Γ mw_RX4_39 mws_min mwi mwc_min rfl (by show Nat.ble 13 _ = true; simp only [Nat.ble_eq]; omega) dX4_bestLead_154 ?_
          refine jq_nmI (fun v31 => ?_)
          refine jq_istore (L' := [(8, jI v31), (10, jI v28), (0, jR p0), (1, jR p1), (2, jI p2), (3, jI p3), (4, jI p4), (5, jI p5), (6, jI j7), (7, jI j8), (9, jI j21)]) Γ dX4_bestLead_157 hnl rfl rfl ?_
          refine jq_iincN (L' := fun v32 => [(9, jI v32), (8, jI v31), (10, jI v28), (0, jR p0), (1, jR p1), (2, jI p2), (3, jI p3), (4, jI p4), (5, jI p5), (6, jI j7), (7, jI j8)]) Γ dX4_bestLead_159 10 rfl hnl rfl (fun _ => rfl) (fun v32 => ?_)
          refine jq_goto Γ (tgt := 78) dX4_bestLead_162 rfl ?_
          refine jq_sub Γ (L' := [(0, jR p0), (1, jR p1), (2, jI p2), (3, jI p3), (4, jI p4), (5, jI p5), (6, jI j7), (7, jI j8), (8, jI v31), (9, jI v32)]) [3, 4, 5, 6, 7, 8, 9, 10, 1, 0] rfl ?_
          exact jq_done (hCt17 (v31, v32, s30))
        · refine jq_iload Γ dX4_bestLead_140 9 rfl ?_
          refine jq_iload Γ dX4_bestLead_142 0 rfl ?_
          refine jq_mmax Γ mw_RX4_33 mws_max mwi mwc_max rfl (by show Nat.ble 13 _ = true; simp only [Nat.ble_eq]; omega) dX4_bestLead_144 ?_
          refine jq_goto Γ (tgt := 157) dX4_bestLead_147 rfl ?_
          refine jq_nmI (fun v33 => ?_)
          refine jq_istore (L' := [(8, jI v33), (10, jI v28), (0, jR p0), (1, jR p1), (2, jI p2), (3, jI p3), (4, jI p4), (5, jI p5), (6, jI j7), (7, jI j8), (9, jI j21)]) Γ dX4_bestLead_157 hnl rfl rfl ?_
          refine jq_iincN (L' := fun v34 => [(9, jI v34), (8, jI v33), (10, jI v28), (0, jR p0), (1, jR p1), (2, jI p2), (3, jI p3), (4, jI p4), (5, jI p5), (6, jI j7), (7, jI j8)]) Γ dX4_bestLead_159 10 rfl hnl rfl (fun _ => rfl) (fun v34 => ?_)
          refine jq_goto Γ (tgt := 78) dX4_bestLead_162 rfl ?_
          refine jq_sub Γ (L' := [(0, jR p0), (1, jR p1), (2, jI p2), (3, jI p3), (4, jI p4), (5, jI p5), (6, jI j7), (7, jI j8), (8, jI v33), (9, jI v34)]) [3, 4, 5, 6, 7, 8, 9, 10, 1, 0] rfl ?_
          exact jq_done (hCt17 (v33, v34, s30))
      refine jq_iload Γ dX4_bestLead_78 9 rfl ?_
      refine jq_aload_n Γ dX4_bestLead_80 rfl 0 rfl (jq_at_0 (at_com hp0)) ?_
      refine jq_getI (J := 0) Γ (at_com hp0) fl_RX4_25 rfl rfl dX4_bestLead_81 ?_
      refine jq_icmp_ge (tgt := 165) Γ dX4_bestLead_84 rfl ?_ ?_
      · refine jq_sub Γ (L' := [(8, jI t17.1)]) [8] rfl ?_
        exact jq_done (hXt17 (t17.1, t17.2.2))
      · refine jq_iload Γ dX4_bestLead_87 9 rfl ?_
        refine jq_iload Γ dX4_bestLead_89 7 rfl ?_
        refine jq_icmp_eq (tgt := 159) Γ dX4_bestLead_91 rfl ?_ ?_
        · refine jq_iincN (L' := fun v18 => [(9, jI v18), (0, jR p0), (1, jR p1), (2, jI p2), (3, jI p3), (4, jI p4), (5, jI p5), (6, jI j7), (7, jI j8), (8, jI t17.1)]) Γ dX4_bestLead_159 9 rfl hnl rfl (fun _ => rfl) (fun v18 => ?_)
          refine jq_goto Γ (tgt := 78) dX4_bestLead_162 rfl ?_
          refine jq_sub Γ (L' := [(0, jR p0), (1, jR p1), (2, jI p2), (3, jI p3), (4, jI p4), (5, jI p5), (6, jI j7), (7, jI j8), (8, jI t17.1), (9, jI v18)]) [1, 2, 3, 4, 5, 6, 7, 8, 9, 0] rfl ?_
          exact jq_done (hCt17 (t17.1, v18, t17.2.2))
        · refine jq_aload_n Γ dX4_bestLead_94 rfl 0 rfl (jq_at_0 (at_com hp0)) ?_
          refine jq_aload_n Γ dX4_bestLead_95 rfl 1 rfl (jq_at_0 (at_row hp1)) ?_
          refine jq_iload Γ dX4_bestLead_96 6 rfl ?_
          refine jq_iload Γ dX4_bestLead_98 9 rfl ?_
          refine jq_cwV (jq_stat (avs := [jR p0, jR p1, jI j7, jI t17.2.1]) (st := []) Γ hlY rfl ml_RX4_29 rfl rfl (by simp only [Nat.ble_eq]; omega) (by simp only [Nat.ble_eq]; omega) rfl dX4_bestLead_100) (fun σ' h => ctX4_shift hp0 hp1 h) (fun s19 => ?_)
          refine jq_aload_n Γ dX4_bestLead_103 rfl 0 rfl (jq_at_0 (at_com hp0)) ?_
          refine jq_aload_n Γ dX4_bestLead_104 rfl 1 rfl (jq_at_0 (at_row hp1)) ?_
          refine jq_iload_n Γ dX4_bestLead_105 rfl 2 rfl ?_
          refine jq_iload_n Γ dX4_bestLead_106 rfl 3 rfl ?_
          refine jq_iload Γ dX4_bestLead_107 4 rfl ?_
          refine jq_iconst Γ dX4_bestLead_109 rfl ?_
          refine jq_isub Γ dX4_bestLead_110 ?_
          refine jq_iload Γ dX4_bestLead_111 5 rfl ?_
          refine jq_if_ne (tgt := 120) Γ dX4_bestLead_113 rfl ?_ ?_
          · refine jq_iconst Γ dX4_bestLead_120 rfl ?_
            exact hj121_1045 t17.1 t17.2.1 p2 p3 (jq_w (p4 - 1)) 0 s19 (Or.inl rfl)
          · refine jq_iconst Γ dX4_bestLead_116 rfl ?_
            refine jq_goto Γ (tgt := 121) dX4_bestLead_117 rfl ?_
            exact hj121_1045 t17.1 t17.2.1 p2 p3 (jq_w (p4 - 1)) 1 s19 (Or.inr rfl)
    · intro e35
      refine jq_iload Γ dX4_bestLead_165 0 rfl ?_
      exact jq_ireturn Γ dX4_bestLead_167 (hK0 _)
  have hj10_0 : ∀ (j1 : Int) (s2 : jq_M), jq_J (X4_bestLead_j10 p0 p1 p2 p3 p4 p5 (X4_bestLead dp) j1 s2) K0 (jq_V jq_zX X (jq_zN jq_zX) s2 10 [(0, jR p0), (1, jR p1), (2, jI p2), (3, jI p3), (4, jI p4), (5, jI p5)] [jI j1]) := by
    intro j1 s2
    unfold X4_bestLead_j10
    refine jq_istore (L' := [(6, jI j1), (0, jR p0), (1, jR p1), (2, jI p2), (3, jI p3), (4, jI p4), (5, jI p5)]) Γ dX4_bestLead_10 hnl rfl rfl ?_
    refine jq_aload_n Γ dX4_bestLead_12 rfl 2 rfl (jq_at_0 (at_row hp1)) ?_
    refine jq_iload Γ dX4_bestLead_13 0 rfl ?_
    refine jq_cpI (jq_stat (avs := [jR p1, jI j1]) (st := []) Γ hlY rfl ml_RX4_9 rfl rfl (by simp only [Nat.ble_eq]; omega) (by simp only [Nat.ble_eq]; omega) rfl dX4_bestLead_15) (fun r h => ctX1_seatIn hp1 h) (fun v3 => ?_)
    refine jq_istore (L' := [(7, jI v3), (6, jI j1), (0, jR p0), (1, jR p1), (2, jI p2), (3, jI p3), (4, jI p4), (5, jI p5)]) Γ dX4_bestLead_18 hnl rfl rfl ?_
    refine jq_iload Γ dX4_bestLead_20 6 rfl ?_
    refine jq_iconst Γ dX4_bestLead_22 rfl ?_
    refine jq_icmp_lt (tgt := 38) Γ dX4_bestLead_23 rfl ?_ ?_
    · refine jq_sub Γ (L' := [(0, jR p0), (1, jR p1), (2, jI p2), (3, jI p3)]) [2, 3, 4, 5] rfl ?_
      exact hj38_0 s2
    · refine jq_iload Γ dX4_bestLead_26 6 rfl ?_
      refine jq_iconst Γ dX4_bestLead_28 rfl ?_
      refine jq_icmp_gt (tgt := 38) Γ dX4_bestLead_29 rfl ?_ ?_
      · refine jq_sub Γ (L' := [(0, jR p0), (1, jR p1), (2, jI p2), (3, jI p3)]) [2, 3, 4, 5] rfl ?_
        exact hj38_0 s2
      · refine jq_iload Γ dX4_bestLead_32 0 rfl ?_
        refine jq_iconst Γ dX4_bestLead_34 rfl ?_
        refine jq_icmp_ne (tgt := 52) Γ dX4_bestLead_35 rfl ?_ ?_
        · refine jq_aload_n Γ dX4_bestLead_52 rfl 2 rfl (jq_at_0 (at_com hp0)) ?_
          refine jq_aload_n Γ dX4_bestLead_53 rfl 3 rfl (jq_at_0 (at_row hp1)) ?_
          refine jq_iload_n Γ dX4_bestLead_54 rfl 4 rfl ?_
          refine jq_iload_n Γ dX4_bestLead_55 rfl 5 rfl ?_
          refine jq_iload Γ dX4_bestLead_56 6 rfl ?_
          refine jq_iconst Γ dX4_bestLead_58 rfl ?_
          refine jq_isub Γ dX4_bestLead_59 ?_
          refine jq_iload Γ dX4_bestLead_60 7 rfl ?_
          refine jq_if_ne (tgt := 69) Γ dX4_bestLead_62 rfl ?_ ?_
          · refine jq_iconst Γ dX4_bestLead_69 rfl ?_
            refine jq_sub Γ (L' := [(0, jR p0), (1, jR p1), (2, jI p2), (3, jI p3), (4, jI p4), (5, jI p5), (6, jI j1), (7, jI v3)]) [2, 3, 4, 5, 6, 7, 1, 0] rfl ?_
            exact hj70_0 j1 v3 p2 p3 (jq_w (p4 - 1)) 0 s2 (Or.inl rfl)
          · refine jq_iconst Γ dX4_bestLead_65 rfl ?_
            refine jq_goto Γ (tgt := 70) dX4_bestLead_66 rfl ?_
            refine jq_sub Γ (L' := [(0, jR p0), (1, jR p1), (2, jI p2), (3, jI p3), (4, jI p4), (5, jI p5), (6, jI j1), (7, jI v3)]) [2, 3, 4, 5, 6, 7, 1, 0] rfl ?_
            exact hj70_0 j1 v3 p2 p3 (jq_w (p4 - 1)) 1 s2 (Or.inr rfl)
        · refine jq_sub Γ (L' := [(0, jR p0), (1, jR p1), (2, jI p2), (3, jI p3)]) [2, 3, 4, 5] rfl ?_
          exact hj38_0 s2
  refine jq_iload Γ dX4_bestLead_0 5 rfl ?_
  refine jq_if_eq (tgt := 9) Γ dX4_bestLead_2 rfl ?_ ?_
  · refine jq_iload_n Γ dX4_bestLead_9 rfl 3 rfl ?_
    exact hj10_0 p3 σ
  · refine jq_iload_n Γ dX4_bestLead_5 rfl 2 rfl ?_
    refine jq_goto Γ (tgt := 10) dX4_bestLead_6 rfl ?_
    exact hj10_0 p2 σ


