theorem mw_RX1_125 : Cond.methodLink RX1 125 Lib.Math.max.name ∈ jq_T := jq_in 1260 (by decide +kernel) rfl
theorem yf_X1_lackOf : Cond.instanceMethod yX1_lackOf ∈ jq_T ∧ Cond.selects (yX1_lackOf).cls yX1_lackOf yX1_lackOf ∈ jq_T ∧ Cond.initialized (yX1_lackOf).cls ∈ jq_T ∧ Cond.code yX1_lackOf cX1_lackOf 4 (some .int) ∈ jq_T ∧ ((yX1_lackOf).cls ≠ "java/lang/invoke/MethodHandle" ∧ (yX1_lackOf).cls ≠ "java/lang/invoke/VarHandle" ∧ (parseMethodDescriptor (yX1_lackOf).desc).map (fun d => d.parameters.length) = some 1) := ⟨jq_in 1257 (by decide +kernel) rfl, jq_in 1258 (by decide +kernel) rfl, jq_in 141 (by decide +kernel) rfl, jq_in 1259 (by decide +kernel) rfl, ⟨by decide, by decide, by decide +kernel⟩⟩
theorem ml_RX10_362 : jq_vl RX10 362 yX1_lackOf cX1_lackOf 4 (some .int) 1 := ⟨jq_in 1256 (by decide +kernel) rfl, yf_X1_lackOf⟩
theorem ml_RX8_86 : jq_vl RX8 86 yX1_lackOf cX1_lackOf 4 (some .int) 1 := ⟨jq_in 1269 (by decide +kernel) rfl, yf_X1_lackOf⟩
theorem mw_RX8_89 : Cond.methodLink RX8 89 Lib.Math.min.name ∈ jq_T := jq_in 1270 (by decide +kernel) rfl
theorem yf_X8_leastLack : Cond.instanceMethod yX8_leastLack ∈ jq_T ∧ Cond.selects (yX8_leastLack).cls yX8_leastLack yX8_leastLack ∈ jq_T ∧ Cond.initialized (yX8_leastLack).cls ∈ jq_T ∧ Cond.code yX8_leastLack cX8_leastLack 5 (some .int) ∈ jq_T ∧ ((yX8_leastLack).cls ≠ "java/lang/invoke/MethodHandle" ∧ (yX8_leastLack).cls ≠ "java/lang/invoke/VarHandle" ∧ (parseMethodDescriptor (yX8_leastLack).desc).map (fun d => d.parameters.length) = some 1) := ⟨jq_in 1266 (by decide +kernel) rfl, jq_in 1267 (by decide +kernel) rfl, jq_in 143 (by decide +kernel) rfl, jq_in 1268 (by decide +kernel) rfl, ⟨by decide, by decide, by decide +kernel⟩⟩
theorem ml_RX10_365 : jq_vl RX10 365 yX8_leastLack cX8_leastLack 5 (some .int) 1 := ⟨jq_in 1265 (by decide +kernel) rfl, yf_X8_leastLack⟩
theorem fl_RX10_68 : jq_fl RX10 68 7 18 17 true := ⟨RX10, TX10, tyX10, cls_X10, by decide, jq_in 543 (by decide +kernel) rfl, by decide⟩
theorem yf_X10_layTrial : Cond.instanceMethod yX10_layTrial ∈ jq_T ∧ Cond.selects (yX10_layTrial).cls yX10_layTrial yX10_layTrial ∈ jq_T ∧ Cond.initialized (yX10_layTrial).cls ∈ jq_T ∧ Cond.code yX10_layTrial cX10_layTrial 1 none ∈ jq_T ∧ ((yX10_layTrial).cls ≠ "java/lang/invoke/MethodHandle" ∧ (yX10_layTrial).cls ≠ "java/lang/invoke/VarHandle" ∧ (parseMethodDescriptor (yX10_layTrial).desc).map (fun d => d.parameters.length) = some 0) := ⟨jq_in 1277 (by decide +kernel) rfl, jq_in 21 (by decide +kernel) rfl, jq_in 135 (by decide +kernel) rfl, jq_in 1278 (by decide +kernel) rfl, ⟨by decide, by decide, by decide +kernel⟩⟩
theorem ml_RX10_368 : jq_vl RX10 368 yX10_layTrial cX10_layTrial 1 none 0 := ⟨jq_in 1275 (by decide +kernel) rfl, yf_X10_layTrial⟩
theorem ml_RX4_38 : jq_vl RX4 38 yX1_sitterAt cX1_sitterAt 4 (some .int) 2 := ⟨jq_in 1303 (by decide +kernel) rfl, yf_X1_sitterAt⟩
theorem ml_RX4_9 : jq_vl RX4 9 yX1_worthTo cX1_worthTo 5 (some .int) 2 := ⟨jq_in 1298 (by decide +kernel) rfl, yf_X1_worthTo⟩
theorem yf_X4_bestLead : Cond.static yX4_bestLead ∈ jq_T ∧ Cond.initialized (yX4_bestLead).cls ∈ jq_T ∧ Cond.code yX4_bestLead cX4_bestLead 11 (some .int) ∈ jq_T ∧ ((yX4_bestLead).cls ≠ "java/lang/invoke/MethodHandle" ∧ (yX4_bestLead).cls ≠ "java/lang/invoke/VarHandle" ∧ (parseMethodDescriptor (yX4_bestLead).desc).map (fun d => d.parameters.length) = some 6) := ⟨jq_in 1296 (by decide +kernel) rfl, jq_in 153 (by decide +kernel) rfl, jq_in 1297 (by decide +kernel) rfl, ⟨by decide, by decide, by decide +kernel⟩⟩
theorem ml_RX4_15 : jq_sl RX4 15 yX4_bestLead cX4_bestLead 11 (some .int) 6 := ⟨jq_in 1299 (by decide +kernel) rfl, yf_X4_bestLead⟩
theorem fl_RX4_21 : jq_fl RX4 21 1 21 0 false := ⟨RX1, TX1, tyX1, cls_X1, by decide, jq_in 328 (by decide +kernel) rfl, by decide⟩
theorem yf_X4_shift : Cond.static yX4_shift ∈ jq_T ∧ Cond.initialized (yX4_shift).cls ∈ jq_T ∧ Cond.code yX4_shift cX4_shift 5 none ∈ jq_T ∧ ((yX4_shift).cls ≠ "java/lang/invoke/MethodHandle" ∧ (yX4_shift).cls ≠ "java/lang/invoke/VarHandle" ∧ (parseMethodDescriptor (yX4_shift).desc).map (fun d => d.parameters.length) = some 4) := ⟨jq_in 1301 (by decide +kernel) rfl, jq_in 153 (by decide +kernel) rfl, jq_in 1302 (by decide +kernel) rfl, ⟨by decide, by decide, by decide +kernel⟩⟩
theorem ml_RX4_25 : jq_sl RX4 25 yX4_shift cX4_shift 5 none 4 := ⟨jq_in 1300 (by decide +kernel) rfl, yf_X4_shift⟩
theorem mw_RX4_35 : Cond.methodLink RX4 35 Lib.Math.min.name ∈ jq_T := jq_in 1305 (by decide +kernel) rfl
theorem mw_RX4_29 : Cond.methodLink RX4 29 Lib.Math.max.name ∈ jq_T := jq_in 1304 (by decide +kernel) rfl
theorem yf_X10_whyNoGame : Cond.instanceMethod yX10_whyNoGame ∈ jq_T ∧ Cond.selects (yX10_whyNoGame).cls yX10_whyNoGame yX10_whyNoGame ∈ jq_T ∧ Cond.initialized (yX10_whyNoGame).cls ∈ jq_T ∧ Cond.code yX10_whyNoGame cX10_whyNoGame 6 (some .int) ∈ jq_T ∧ ((yX10_whyNoGame).cls ≠ "java/lang/invoke/MethodHandle" ∧ (yX10_whyNoGame).cls ≠ "java/lang/invoke/VarHandle" ∧ (parseMethodDescriptor (yX10_whyNoGame).desc).map (fun d => d.parameters.length) = some 4) := ⟨jq_in 1293 (by decide +kernel) rfl, jq_in 22 (by decide +kernel) rfl, jq_in 135 (by decide +kernel) rfl, jq_in 1294 (by decide +kernel) rfl, ⟨by decide, by decide, by decide +kernel⟩⟩
theorem ml_RX10_371 : jq_vl RX10 371 yX10_whyNoGame cX10_whyNoGame 6 (some .int) 4 := ⟨jq_in 1291 (by decide +kernel) rfl, yf_X10_whyNoGame⟩
theorem ml_RX10_375 : jq_nl RX10 375 yX4_bestLead "StandTable" cX4_bestLead 11 (some .int) 6 := ⟨jq_inN 1295 (by decide +kernel) rfl, yf_X4_bestLead⟩
theorem yf_X4_firstMove : Cond.static yX4_firstMove ∈ jq_T ∧ Cond.initialized (yX4_firstMove).cls ∈ jq_T ∧ Cond.code yX4_firstMove cX4_firstMove 10 (some .int) ∈ jq_T ∧ ((yX4_firstMove).cls ≠ "java/lang/invoke/MethodHandle" ∧ (yX4_firstMove).cls ≠ "java/lang/invoke/VarHandle" ∧ (parseMethodDescriptor (yX4_firstMove).desc).map (fun d => d.parameters.length) = some 5) := ⟨jq_in 1311 (by decide +kernel) rfl, jq_in 153 (by decide +kernel) rfl, jq_in 1312 (by decide +kernel) rfl, ⟨by decide, by decide, by decide +kernel⟩⟩
theorem ml_RX10_381 : jq_sl RX10 381 yX4_firstMove cX4_firstMove 10 (some .int) 5 := ⟨jq_in 1310 (by decide +kernel) rfl, yf_X4_firstMove⟩
theorem yf_X1_allLeansOf : Cond.instanceMethod yX1_allLeansOf ∈ jq_T ∧ Cond.selects (yX1_allLeansOf).cls yX1_allLeansOf yX1_allLeansOf ∈ jq_T ∧ Cond.initialized (yX1_allLeansOf).cls ∈ jq_T ∧ Cond.code yX1_allLeansOf cX1_allLeansOf 4 (some .int) ∈ jq_T ∧ ((yX1_allLeansOf).cls ≠ "java/lang/invoke/MethodHandle" ∧ (yX1_allLeansOf).cls ≠ "java/lang/invoke/VarHandle" ∧ (parseMethodDescriptor (yX1_allLeansOf).desc).map (fun d => d.parameters.length) = some 1) := ⟨jq_in 1318 (by decide +kernel) rfl, jq_in 1319 (by decide +kernel) rfl, jq_in 141 (by decide +kernel) rfl, jq_in 1320 (by decide +kernel) rfl, ⟨by decide, by decide, by decide +kernel⟩⟩
theorem ml_RX10_385 : jq_vl RX10 385 yX1_allLeansOf cX1_allLeansOf 4 (some .int) 1 := ⟨jq_in 1317 (by decide +kernel) rfl, yf_X1_allLeansOf⟩
theorem ml_RX10_388 : jq_vl RX10 388 yX1_allFallsOf cX1_allFallsOf 4 (some .int) 1 := ⟨jq_in 1325 (by decide +kernel) rfl, yf_X1_allFallsOf⟩
theorem fl_RX0_18 : jq_fl RX0 18 1 21 4 false := ⟨RX1, TX1, tyX1, cls_X1, by decide, jq_in 344 (by decide +kernel) rfl, by decide⟩
theorem ml_RX0_24 : jq_vl RX0 24 yX1_allFallsOf cX1_allFallsOf 4 (some .int) 1 := ⟨jq_in 1333 (by decide +kernel) rfl, yf_X1_allFallsOf⟩
theorem ml_RX0_28 : jq_sl RX0 28 yJ6_bitCount_0f7a4 cJ6_bitCount_0f7a4 1 (some .int) 1 := ⟨jq_in 1334 (by decide +kernel) rfl, yf_J6_bitCount_0f7a4⟩
theorem yf_X0_keystoneOf : Cond.static yX0_keystoneOf ∈ jq_T ∧ Cond.initialized (yX0_keystoneOf).cls ∈ jq_T ∧ Cond.code yX0_keystoneOf cX0_keystoneOf 5 (some .int) ∈ jq_T ∧ ((yX0_keystoneOf).cls ≠ "java/lang/invoke/MethodHandle" ∧ (yX0_keystoneOf).cls ≠ "java/lang/invoke/VarHandle" ∧ (parseMethodDescriptor (yX0_keystoneOf).desc).map (fun d => d.parameters.length) = some 1) := ⟨jq_in 1331 (by decide +kernel) rfl, jq_in 144 (by decide +kernel) rfl, jq_in 1332 (by decide +kernel) rfl, ⟨by decide, by decide, by decide +kernel⟩⟩
theorem ml_RX10_391 : jq_sl RX10 391 yX0_keystoneOf cX0_keystoneOf 5 (some .int) 1 := ⟨jq_in 1330 (by decide +kernel) rfl, yf_X0_keystoneOf⟩
theorem dX1_lackOf_0 : decode cX1_lackOf 0 = .ok (.aload_n 0, 1) := by decide +kernel
theorem dX1_lackOf_1 : decode cX1_lackOf 1 = .ok (.aload_n 1, 1) := by decide +kernel
theorem dX1_lackOf_2 : decode cX1_lackOf 2 = .ok (.invokevirtual 121, 3) := by decide +kernel
theorem dX1_lackOf_5 : decode cX1_lackOf 5 = .ok (.iconst 0, 1) := by decide +kernel
theorem dX1_lackOf_6 : decode cX1_lackOf 6 = .ok (.istore_n 2, 1) := by decide +kernel
theorem dX1_lackOf_7 : decode cX1_lackOf 7 = .ok (.iconst 0, 1) := by decide +kernel
theorem dX1_lackOf_8 : decode cX1_lackOf 8 = .ok (.istore_n 3, 1) := by decide +kernel
theorem dX1_lackOf_9 : decode cX1_lackOf 9 = .ok (.iload_n 3, 1) := by decide +kernel
theorem dX1_lackOf_10 : decode cX1_lackOf 10 = .ok (.aload_n 0, 1) := by decide +kernel
theorem dX1_lackOf_11 : decode cX1_lackOf 11 = .ok (.getfield 66, 3) := by decide +kernel
theorem dX1_lackOf_14 : decode cX1_lackOf 14 = .ok (.if_icmp .ge 29, 3) := by decide +kernel
theorem dX1_lackOf_17 : decode cX1_lackOf 17 = .ok (.iload_n 2, 1) := by decide +kernel
theorem dX1_lackOf_18 : decode cX1_lackOf 18 = .ok (.iconst 0, 1) := by decide +kernel
theorem dX1_lackOf_19 : decode cX1_lackOf 19 = .ok (.aload_n 0, 1) := by decide +kernel
theorem dX1_lackOf_20 : decode cX1_lackOf 20 = .ok (.getfield 15, 3) := by decide +kernel
theorem dX1_lackOf_23 : decode cX1_lackOf 23 = .ok (.iload_n 3, 1) := by decide +kernel
theorem dX1_lackOf_24 : decode cX1_lackOf 24 = .ok (.iaload, 1) := by decide +kernel
theorem dX1_lackOf_25 : decode cX1_lackOf 25 = .ok (.aload_n 0, 1) := by decide +kernel
theorem dX1_lackOf_26 : decode cX1_lackOf 26 = .ok (.getfield 56, 3) := by decide +kernel
theorem dX1_lackOf_29 : decode cX1_lackOf 29 = .ok (.iload_n 3, 1) := by decide +kernel
theorem dX1_lackOf_30 : decode cX1_lackOf 30 = .ok (.iaload, 1) := by decide +kernel
theorem dX1_lackOf_31 : decode cX1_lackOf 31 = .ok (.isub, 1) := by decide +kernel
theorem dX1_lackOf_32 : decode cX1_lackOf 32 = .ok (.invokestatic 125, 3) := by decide +kernel
theorem dX1_lackOf_35 : decode cX1_lackOf 35 = .ok (.iadd, 1) := by decide +kernel
theorem dX1_lackOf_36 : decode cX1_lackOf 36 = .ok (.istore_n 2, 1) := by decide +kernel
theorem dX1_lackOf_37 : decode cX1_lackOf 37 = .ok (.iinc 3 1, 3) := by decide +kernel
theorem dX1_lackOf_40 : decode cX1_lackOf 40 = .ok (.goto (-31), 3) := by decide +kernel
theorem dX1_lackOf_43 : decode cX1_lackOf 43 = .ok (.iload_n 2, 1) := by decide +kernel
theorem dX1_lackOf_44 : decode cX1_lackOf 44 = .ok (.ireturn, 1) := by decide +kernel
set_option maxHeartbeats 4000000 in
set_option maxRecDepth 100000 in
theorem ctX1_lackOf {o : Int} {p1 : Int} {σ : jq_M} {res : Int} {σ' : jq_M} (ho : jq_com o) (hp1 : jq_row p1) (h : X1_lackOf o p1 σ = some (res, σ')) : jq_MC jq_zX yX1_lackOf cX1_lackOf 4 (some .int) 4 109 [jR o, jR p1] σ (some (jI res)) σ' := by
  refine jq_met (own := RX1) (L0 := [(0, jR o), (1, jR p1)]) (by decide) rfl rfl rfl ?_
  intro X Γ hnl hlY hRT
  refine jq_use2 (P := fun r => jq_RT jq_zX X (some .int) (some (jI r.1)) r.2) ?_ h hRT
  intro K0 hK0
  unfold X1_lackOf
  refine jq_aload_n Γ dX1_lackOf_0 rfl 0 rfl (jq_at_0 (at_com ho)) ?_
  refine jq_aload_n Γ dX1_lackOf_1 rfl 1 rfl (jq_at_0 (at_row hp1)) ?_
  refine jq_cwV (jq_virt (avs := [jR p1]) (st := []) Γ hlY rfl ml_RX1_121 rfl (at_com ho) rfl rfl rfl rfl rfl dX1_lackOf_2) (fun σ' h => ctX1_weigh ho hp1 h) (fun s1 => ?_)
  refine jq_iconst Γ dX1_lackOf_5 rfl ?_
  refine jq_istore_n (L' := [(2, jI 0), (0, jR o), (1, jR p1)]) Γ dX1_lackOf_6 rfl hnl rfl rfl ?_
  refine jq_iconst Γ dX1_lackOf_7 rfl ?_
  refine jq_istore_n (L' := [(3, jI 0), (2, jI 0), (0, jR o), (1, jR p1)]) Γ dX1_lackOf_8 rfl hnl rfl rfl ?_
  refine jq_sub Γ (L' := [(0, jR o), (2, jI 0), (3, jI 0)]) [2, 1, 0] rfl ?_
  refine jq_loop2 (C := fun (t2 : Int × Int) => jq_V jq_zX X (jq_zN jq_zX) s1 9 [(0, jR o), (2, jI t2.1), (3, jI t2.2)] []) (KX := fun (e7 : Int) => jq_V jq_zX X (jq_zN jq_zX) s1 43 [(2, jI e7)] []) ?_ ?_ (0, 0)
  · intro K9_t2 hCt2 hXt2 t2
    unfold X1_lackOf_b9
    refine jq_iload_n Γ dX1_lackOf_9 rfl 2 rfl ?_
    refine jq_aload_n Γ dX1_lackOf_10 rfl 0 rfl (jq_at_0 (at_com ho)) ?_
    refine jq_getI (J := 2) Γ (at_com ho) fl_RX1_66 rfl rfl dX1_lackOf_11 ?_
    refine jq_icmp_ge (tgt := 43) Γ dX1_lackOf_14 rfl ?_ ?_
    · refine jq_sub Γ (L' := [(2, jI t2.1)]) [1] rfl ?_
      exact jq_done (hXt2 t2.1)
    · refine jq_iload_n Γ dX1_lackOf_17 rfl 1 rfl ?_
      refine jq_iconst Γ dX1_lackOf_18 rfl ?_
      refine jq_aload_n Γ dX1_lackOf_19 rfl 0 rfl (jq_at_0 (at_com ho)) ?_
      refine jq_getR (v := (o + 2)) Γ hlY (at_com ho) fl_RX1_15 rfl rfl (ly_X1_leasts ho) dX1_lackOf_20 ?_
      refine jq_iload_n Γ dX1_lackOf_23 rfl 2 rfl ?_
      refine jq_iald Γ (at_com_2 ho) rfl dX1_lackOf_24 (fun v3 => ?_)
      refine jq_aload_n Γ dX1_lackOf_25 rfl 0 rfl (jq_at_0 (at_com ho)) ?_
      refine jq_getR (v := (o + 19)) Γ hlY (at_com ho) fl_RX1_56 rfl rfl (ly_X1_scales ho) dX1_lackOf_26 ?_
      refine jq_iload_n Γ dX1_lackOf_29 rfl 2 rfl ?_
      refine jq_iald Γ (at_com_19 ho) rfl dX1_lackOf_30 (fun v4 => ?_)
      refine jq_isub Γ dX1_lackOf_31 ?_
      refine jq_mmax Γ mw_RX1_125 mws_max mwi mwc_max rfl rfl dX1_lackOf_32 ?_
      refine jq_iadd Γ dX1_lackOf_35 ?_
      refine jq_nmI (fun v5 => ?_)
      refine jq_istore_n (L' := [(2, jI v5), (0, jR o), (3, jI t2.2)]) Γ dX1_lackOf_36 rfl hnl rfl rfl ?_
      refine jq_iincN (L' := fun v6 => [(3, jI v6), (2, jI v5), (0, jR o)]) Γ dX1_lackOf_37 2 rfl hnl rfl (fun _ => rfl) (fun v6 => ?_)
      refine jq_goto Γ (tgt := 9) dX1_lackOf_40 rfl ?_
      refine jq_sub Γ (L' := [(0, jR o), (2, jI v5), (3, jI v6)]) [2, 1, 0] rfl ?_
      exact jq_done (hCt2 (v5, v6))
  · intro e7
    refine jq_iload_n Γ dX1_lackOf_43 rfl 0 rfl ?_
    exact jq_ireturn Γ dX1_lackOf_44 (hK0 _)


theorem dX10_fish_0 : decode cX10_fish 0 = .ok (.aload_n 0, 1) := by decide +kernel
theorem dX10_fish_1 : decode cX10_fish 1 = .ok (.aload_n 0, 1) := by decide +kernel
theorem dX10_fish_2 : decode cX10_fish 2 = .ok (.getfield 25, 3) := by decide +kernel
theorem dX10_fish_5 : decode cX10_fish 5 = .ok (.aload_n 0, 1) := by decide +kernel
theorem dX10_fish_6 : decode cX10_fish 6 = .ok (.getfield 25, 3) := by decide +kernel
theorem dX10_fish_9 : decode cX10_fish 9 = .ok (.getfield 194, 3) := by decide +kernel
theorem dX10_fish_12 : decode cX10_fish 12 = .ok (.invokevirtual 362, 3) := by decide +kernel
theorem dX10_fish_15 : decode cX10_fish 15 = .ok (.invokevirtual 161, 3) := by decide +kernel
theorem dX10_fish_18 : decode cX10_fish 18 = .ok (.ireturn, 1) := by decide +kernel
set_option maxHeartbeats 4000000 in
set_option maxRecDepth 100000 in
theorem ctX10_fish  {σ : jq_M} {res : Int} {σ' : jq_M}  (h : X10_fish σ = some (res, σ')) : jq_MC jq_zX yX10_fish cX10_fish 1 (some .int) 5 132 [jR 0] σ (some (jI res)) σ' := by
  refine jq_met (own := RX10) (L0 := [(0, jR 0)]) (by decide) rfl rfl rfl ?_
  intro X Γ hnl hlY hRT
  refine jq_use2 (P := fun r => jq_RT jq_zX X (some .int) (some (jI r.1)) r.2) ?_ h hRT
  intro K0 hK0
  unfold X10_fish
  refine jq_aload_n Γ dX10_fish_0 rfl 0 rfl (jq_at_0 at_X_0) ?_
  refine jq_aload_n Γ dX10_fish_1 rfl 0 rfl (jq_at_0 at_X_0) ?_
  refine jq_getC (C := jq_cm2) Γ hlY at_X_0 fl_RX10_25 rfl rfl ly_now dX10_fish_2 (fun c1 hc2q => ?_)
  have hc2 := jq_cm2_com hc2q
  refine jq_aload_n Γ dX10_fish_5 rfl 0 rfl (jq_at_0 at_X_0) ?_
  refine jq_getC (C := jq_cm2) Γ hlY at_X_0 fl_RX10_25 rfl rfl ly_now dX10_fish_6 (fun c3 hc4q => ?_)
  have hc4 := jq_cm2_com hc4q
  refine jq_getR (v := (c3 + 3)) Γ hlY (at_com hc4) fl_RX10_194 rfl rfl (ly_X1_seats hc4) dX10_fish_9 ?_
  refine jq_cwI (jq_virt (avs := [jR (c3 + 3)]) (st := [jR 0]) Γ hlY rfl ml_RX10_362 rfl (at_com hc2) rfl rfl rfl rfl rfl dX10_fish_12) (fun r σ' h => ctX1_lackOf hc2 (row_com hc4) h) (fun v5 s6 => ?_)
  refine jq_cwI (jq_virt (avs := [jI v5]) (st := []) Γ hlY rfl ml_RX10_161 rfl at_X_0 rfl rfl rfl rfl rfl dX10_fish_15) (fun r σ' h => ctX10_answer h) (fun v7 s8 => ?_)
  exact jq_ireturn Γ dX10_fish_18 (hK0 _)


theorem dX8_leastLack_0 : decode cX8_leastLack 0 = .ok (.aload_n 0, 1) := by decide +kernel
theorem dX8_leastLack_1 : decode cX8_leastLack 1 = .ok (.aload_n 1, 1) := by decide +kernel
theorem dX8_leastLack_2 : decode cX8_leastLack 2 = .ok (.invokevirtual 49, 3) := by decide +kernel
theorem dX8_leastLack_5 : decode cX8_leastLack 5 = .ok (.istore_n 2, 1) := by decide +kernel
theorem dX8_leastLack_6 : decode cX8_leastLack 6 = .ok (.aload_n 1, 1) := by decide +kernel
theorem dX8_leastLack_7 : decode cX8_leastLack 7 = .ok (.aload_n 0, 1) := by decide +kernel
theorem dX8_leastLack_8 : decode cX8_leastLack 8 = .ok (.getfield 9, 3) := by decide +kernel
theorem dX8_leastLack_11 : decode cX8_leastLack 11 = .ok (.invokevirtual 86, 3) := by decide +kernel
theorem dX8_leastLack_14 : decode cX8_leastLack 14 = .ok (.istore_n 3, 1) := by decide +kernel
theorem dX8_leastLack_15 : decode cX8_leastLack 15 = .ok (.iconst 0, 1) := by decide +kernel
theorem dX8_leastLack_16 : decode cX8_leastLack 16 = .ok (.istore 4, 2) := by decide +kernel
theorem dX8_leastLack_18 : decode cX8_leastLack 18 = .ok (.iload 4, 2) := by decide +kernel
theorem dX8_leastLack_20 : decode cX8_leastLack 20 = .ok (.iload_n 2, 1) := by decide +kernel
theorem dX8_leastLack_21 : decode cX8_leastLack 21 = .ok (.if_icmp .ge 27, 3) := by decide +kernel
theorem dX8_leastLack_24 : decode cX8_leastLack 24 = .ok (.iload_n 3, 1) := by decide +kernel
theorem dX8_leastLack_25 : decode cX8_leastLack 25 = .ok (.aload_n 1, 1) := by decide +kernel
theorem dX8_leastLack_26 : decode cX8_leastLack 26 = .ok (.aload_n 0, 1) := by decide +kernel
theorem dX8_leastLack_27 : decode cX8_leastLack 27 = .ok (.getfield 9, 3) := by decide +kernel
theorem dX8_leastLack_30 : decode cX8_leastLack 30 = .ok (.invokevirtual 86, 3) := by decide +kernel
theorem dX8_leastLack_33 : decode cX8_leastLack 33 = .ok (.invokestatic 89, 3) := by decide +kernel
theorem dX8_leastLack_36 : decode cX8_leastLack 36 = .ok (.istore_n 3, 1) := by decide +kernel
theorem dX8_leastLack_37 : decode cX8_leastLack 37 = .ok (.aload_n 0, 1) := by decide +kernel
theorem dX8_leastLack_38 : decode cX8_leastLack 38 = .ok (.aload_n 1, 1) := by decide +kernel
theorem dX8_leastLack_39 : decode cX8_leastLack 39 = .ok (.invokevirtual 60, 3) := by decide +kernel
theorem dX8_leastLack_42 : decode cX8_leastLack 42 = .ok (.iinc 4 1, 3) := by decide +kernel
theorem dX8_leastLack_45 : decode cX8_leastLack 45 = .ok (.goto (-27), 3) := by decide +kernel
theorem dX8_leastLack_48 : decode cX8_leastLack 48 = .ok (.iload_n 3, 1) := by decide +kernel
theorem dX8_leastLack_49 : decode cX8_leastLack 49 = .ok (.ireturn, 1) := by decide +kernel
set_option maxHeartbeats 4000000 in
set_option maxRecDepth 100000 in
theorem ctX8_leastLack {p1 : Int} {σ : jq_M} {res : Int} {σ' : jq_M} (hp1 : jq_com p1) (h : X8_leastLack p1 σ = some (res, σ')) : jq_MC jq_zX yX8_leastLack cX8_leastLack 5 (some .int) 5 132 [jR 52, jR p1] σ (some (jI res)) σ' := by
  refine jq_met (own := RX8) (L0 := [(0, jR 52), (1, jR p1)]) (by decide) rfl rfl rfl ?_
  intro X Γ hnl hlY hRT
  refine jq_use2 (P := fun r => jq_RT jq_zX X (some .int) (some (jI r.1)) r.2) ?_ h hRT
  intro K0 hK0
  unfold X8_leastLack
  refine jq_aload_n Γ dX8_leastLack_0 rfl 0 rfl (jq_at_0 at_X_52) ?_
  refine jq_aload_n Γ dX8_leastLack_1 rfl 1 rfl (jq_at_0 (at_com hp1)) ?_
  refine jq_cwI (jq_virt (avs := [jR p1]) (st := []) Γ hlY rfl ml_RX8_49 rfl at_X_52 rfl rfl rfl rfl rfl dX8_leastLack_2) (fun r σ' h => ctX8_begin hp1 h) (fun v1 s2 => ?_)
  refine jq_istore_n (L' := [(2, jI v1), (0, jR 52), (1, jR p1)]) Γ dX8_leastLack_5 rfl hnl rfl rfl ?_
  refine jq_aload_n Γ dX8_leastLack_6 rfl 2 rfl (jq_at_0 (at_com hp1)) ?_
  refine jq_aload_n Γ dX8_leastLack_7 rfl 1 rfl (jq_at_0 at_X_52) ?_
  refine jq_getR (v := 53) Γ hlY at_X_52 fl_RX8_9 rfl rfl ly_X8_row dX8_leastLack_8 ?_
  refine jq_cwI (jq_virt (avs := [jR 53]) (st := []) Γ hlY rfl ml_RX8_86 rfl (at_com hp1) rfl rfl rfl rfl rfl dX8_leastLack_11) (fun r σ' h => ctX1_lackOf hp1 row_53 h) (fun v3 s4 => ?_)
  refine jq_istore_n (L' := [(3, jI v3), (2, jI v1), (0, jR 52), (1, jR p1)]) Γ dX8_leastLack_14 rfl hnl rfl rfl ?_
  refine jq_iconst Γ dX8_leastLack_15 rfl ?_
  refine jq_istore (L' := [(4, jI 0), (3, jI v3), (2, jI v1), (0, jR 52), (1, jR p1)]) Γ dX8_leastLack_16 hnl rfl rfl ?_
  refine jq_sub Γ (L' := [(0, jR 52), (1, jR p1), (2, jI v1), (3, jI v3), (4, jI 0)]) [3, 4, 2, 1, 0] rfl ?_
  refine jq_loop2 (C := fun (t5 : Int × Int × jq_M) => jq_V jq_zX X (jq_zN jq_zX) t5.2.2 18 [(0, jR 52), (1, jR p1), (2, jI v1), (3, jI t5.1), (4, jI t5.2.1)] []) (KX := fun (e11 : Int × jq_M) => jq_V jq_zX X (jq_zN jq_zX) e11.2 48 [(3, jI e11.1)] []) ?_ ?_ (v3, 0, s4)
  · intro K18_t5 hCt5 hXt5 t5
    unfold X8_leastLack_b18
    refine jq_iload Γ dX8_leastLack_18 4 rfl ?_
    refine jq_iload_n Γ dX8_leastLack_20 rfl 2 rfl ?_
    refine jq_icmp_ge (tgt := 48) Γ dX8_leastLack_21 rfl ?_ ?_
    · refine jq_sub Γ (L' := [(3, jI t5.1)]) [3] rfl ?_
      exact jq_done (hXt5 (t5.1, t5.2.2))
    · refine jq_iload_n Γ dX8_leastLack_24 rfl 3 rfl ?_
      refine jq_aload_n Γ dX8_leastLack_25 rfl 1 rfl (jq_at_0 (at_com hp1)) ?_
      refine jq_aload_n Γ dX8_leastLack_26 rfl 0 rfl (jq_at_0 at_X_52) ?_
      refine jq_getR (v := 53) Γ hlY at_X_52 fl_RX8_9 rfl rfl ly_X8_row dX8_leastLack_27 ?_
      refine jq_cwI (jq_virt (avs := [jR 53]) (st := [jI t5.1]) Γ hlY rfl ml_RX8_86 rfl (at_com hp1) rfl rfl rfl rfl rfl dX8_leastLack_30) (fun r σ' h => ctX1_lackOf hp1 row_53 h) (fun v6 s7 => ?_)
      refine jq_mmin Γ mw_RX8_89 mws_min mwi mwc_min rfl rfl dX8_leastLack_33 ?_
      refine jq_nmI (fun v8 => ?_)
      refine jq_istore_n (L' := [(3, jI v8), (0, jR 52), (1, jR p1), (2, jI v1), (4, jI t5.2.1)]) Γ dX8_leastLack_36 rfl hnl rfl rfl ?_
      refine jq_aload_n Γ dX8_leastLack_37 rfl 1 rfl (jq_at_0 at_X_52) ?_
      refine jq_aload_n Γ dX8_leastLack_38 rfl 2 rfl (jq_at_0 (at_com hp1)) ?_
      refine jq_cwV (jq_virt (avs := [jR p1]) (st := []) Γ hlY rfl ml_RX8_60 rfl at_X_52 rfl rfl rfl rfl rfl dX8_leastLack_39) (fun σ' h => ctX8_goOn hp1 h) (fun s9 => ?_)
      refine jq_iincN (L' := fun v10 => [(4, jI v10), (3, jI v8), (0, jR 52), (1, jR p1), (2, jI v1)]) Γ dX8_leastLack_42 4 rfl hnl rfl (fun _ => rfl) (fun v10 => ?_)
      refine jq_goto Γ (tgt := 18) dX8_leastLack_45 rfl ?_
      refine jq_sub Γ (L' := [(0, jR 52), (1, jR p1), (2, jI v1), (3, jI v8), (4, jI v10)]) [2, 3, 4, 1, 0] rfl ?_
      exact jq_done (hCt5 (v8, v10, s9))
  · intro e11
    refine jq_iload_n Γ dX8_leastLack_48 rfl 0 rfl ?_
    exact jq_ireturn Γ dX8_leastLack_49 (hK0 _)


theorem dX10_leastFish_0 : decode cX10_leastFish 0 = .ok (.aload_n 0, 1) := by decide +kernel
theorem dX10_leastFish_1 : decode cX10_leastFish 1 = .ok (.getfield 25, 3) := by decide +kernel
theorem dX10_leastFish_4 : decode cX10_leastFish 4 = .ok (.getfield 179, 3) := by decide +kernel
theorem dX10_leastFish_7 : decode cX10_leastFish 7 = .ok (.ifCond .ne 10, 3) := by decide +kernel
theorem dX10_leastFish_10 : decode cX10_leastFish 10 = .ok (.aload_n 0, 1) := by decide +kernel
theorem dX10_leastFish_11 : decode cX10_leastFish 11 = .ok (.bipush 6, 2) := by decide +kernel
theorem dX10_leastFish_13 : decode cX10_leastFish 13 = .ok (.invokevirtual 120, 3) := by decide +kernel
theorem dX10_leastFish_16 : decode cX10_leastFish 16 = .ok (.ireturn, 1) := by decide +kernel
theorem dX10_leastFish_17 : decode cX10_leastFish 17 = .ok (.aload_n 0, 1) := by decide +kernel
theorem dX10_leastFish_18 : decode cX10_leastFish 18 = .ok (.aload_n 0, 1) := by decide +kernel
theorem dX10_leastFish_19 : decode cX10_leastFish 19 = .ok (.getfield 46, 3) := by decide +kernel
theorem dX10_leastFish_22 : decode cX10_leastFish 22 = .ok (.aload_n 0, 1) := by decide +kernel
theorem dX10_leastFish_23 : decode cX10_leastFish 23 = .ok (.getfield 25, 3) := by decide +kernel
theorem dX10_leastFish_26 : decode cX10_leastFish 26 = .ok (.invokevirtual 365, 3) := by decide +kernel
theorem dX10_leastFish_29 : decode cX10_leastFish 29 = .ok (.invokevirtual 161, 3) := by decide +kernel
theorem dX10_leastFish_32 : decode cX10_leastFish 32 = .ok (.ireturn, 1) := by decide +kernel
set_option maxHeartbeats 4000000 in
set_option maxRecDepth 100000 in
theorem ctX10_leastFish  {σ : jq_M} {res : Int} {σ' : jq_M}  (h : X10_leastFish σ = some (res, σ')) : jq_MC jq_zX yX10_leastFish cX10_leastFish 1 (some .int) 6 156 [jR 0] σ (some (jI res)) σ' := by
  refine jq_met (own := RX10) (L0 := [(0, jR 0)]) (by decide) rfl rfl rfl ?_
  intro X Γ hnl hlY hRT
  refine jq_use2 (P := fun r => jq_RT jq_zX X (some .int) (some (jI r.1)) r.2) ?_ h hRT
  intro K0 hK0
  unfold X10_leastFish
  refine jq_aload_n Γ dX10_leastFish_0 rfl 0 rfl (jq_at_0 at_X_0) ?_
  refine jq_getC (C := jq_cm2) Γ hlY at_X_0 fl_RX10_25 rfl rfl ly_now dX10_leastFish_1 (fun c1 hc2q => ?_)
  have hc2 := jq_cm2_com hc2q
  refine jq_getI (J := 0) Γ (at_com hc2) fl_RX10_179 rfl rfl dX10_leastFish_4 ?_
  refine jq_if_ne (tgt := 17) Γ dX10_leastFish_7 rfl ?_ ?_
  · refine jq_aload_n Γ dX10_leastFish_17 rfl 0 rfl (jq_at_0 at_X_0) ?_
    refine jq_aload_n Γ dX10_leastFish_18 rfl 0 rfl (jq_at_0 at_X_0) ?_
    refine jq_getR (v := 52) Γ hlY at_X_0 fl_RX10_46 rfl rfl ly_X10_survey dX10_leastFish_19 ?_
    refine jq_aload_n Γ dX10_leastFish_22 rfl 0 rfl (jq_at_0 at_X_0) ?_
    refine jq_getC (C := jq_cm2) Γ hlY at_X_0 fl_RX10_25 rfl rfl ly_now dX10_leastFish_23 (fun c3 hc4q => ?_)
    have hc4 := jq_cm2_com hc4q
    refine jq_cwI (jq_virt (avs := [jR c3]) (st := [jR 0]) Γ hlY rfl ml_RX10_365 rfl at_X_52 rfl rfl rfl rfl rfl dX10_leastFish_26) (fun r σ' h => ctX8_leastLack hc4 h) (fun v5 s6 => ?_)
    refine jq_cwI (jq_virt (avs := [jI v5]) (st := []) Γ hlY rfl ml_RX10_161 rfl at_X_0 rfl rfl rfl rfl rfl dX10_leastFish_29) (fun r σ' h => ctX10_answer h) (fun v7 s8 => ?_)
    exact jq_ireturn Γ dX10_leastFish_32 (hK0 _)
  · refine jq_aload_n Γ dX10_leastFish_10 rfl 0 rfl (jq_at_0 at_X_0) ?_
    refine jq_bipush Γ dX10_leastFish_11 rfl ?_
    refine jq_cwI (jq_virt (avs := [jI 6]) (st := []) Γ hlY rfl ml_RX10_120 rfl at_X_0 rfl rfl rfl rfl rfl dX10_leastFish_13) (fun r σ' h => ctX10_refuse h) (fun v9 s10 => ?_)
    exact jq_ireturn Γ dX10_leastFish_16 (hK0 _)


theorem dX10_layTrial_0 : decode cX10_layTrial 0 = .ok (.aload_n 0, 1) := by decide +kernel
theorem dX10_layTrial_1 : decode cX10_layTrial 1 = .ok (.getfield 25, 3) := by decide +kernel
theorem dX10_layTrial_4 : decode cX10_layTrial 4 = .ok (.getfield 194, 3) := by decide +kernel
theorem dX10_layTrial_7 : decode cX10_layTrial 7 = .ok (.iconst 0, 1) := by decide +kernel
theorem dX10_layTrial_8 : decode cX10_layTrial 8 = .ok (.aload_n 0, 1) := by decide +kernel
theorem dX10_layTrial_9 : decode cX10_layTrial 9 = .ok (.getfield 68, 3) := by decide +kernel
theorem dX10_layTrial_12 : decode cX10_layTrial 12 = .ok (.iconst 0, 1) := by decide +kernel
theorem dX10_layTrial_13 : decode cX10_layTrial 13 = .ok (.iconst 5, 1) := by decide +kernel
theorem dX10_layTrial_14 : decode cX10_layTrial 14 = .ok (.invokestatic 133, 3) := by decide +kernel
theorem dX10_layTrial_17 : decode cX10_layTrial 17 = .ok (.return_, 1) := by decide +kernel
set_option maxHeartbeats 4000000 in
set_option maxRecDepth 100000 in
theorem ctX10_layTrial  {σ : jq_M} {σ' : jq_M}  (h : X10_layTrial σ = some σ') : jq_MC jq_zX yX10_layTrial cX10_layTrial 1 none 1 40 [jR 0] σ none σ' := by
  refine jq_met (own := RX10) (L0 := [(0, jR 0)]) (by decide) rfl rfl rfl ?_
  intro X Γ hnl hlY hRT
  refine jq_use2 (P := fun r => jq_RT jq_zX X none none r) ?_ h hRT
  intro K0 hK0
  unfold X10_layTrial
  refine jq_aload_n Γ dX10_layTrial_0 rfl 0 rfl (jq_at_0 at_X_0) ?_
  refine jq_getC (C := jq_cm2) Γ hlY at_X_0 fl_RX10_25 rfl rfl ly_now dX10_layTrial_1 (fun c1 hc2q => ?_)
  have hc2 := jq_cm2_com hc2q
  refine jq_getR (v := (c1 + 3)) Γ hlY (at_com hc2) fl_RX10_194 rfl rfl (ly_X1_seats hc2) dX10_layTrial_4 ?_
  refine jq_iconst Γ dX10_layTrial_7 rfl ?_
  refine jq_aload_n Γ dX10_layTrial_8 rfl 0 rfl (jq_at_0 at_X_0) ?_
  refine jq_getR (v := 63) Γ hlY at_X_0 fl_RX10_68 rfl rfl ly_X10_trial dX10_layTrial_9 ?_
  refine jq_iconst Γ dX10_layTrial_12 rfl ?_
  refine jq_iconst Γ dX10_layTrial_13 rfl ?_
  refine jq_copyi Γ (at_com_3 hc2) at_X_63 rfl rfl rfl aw_RX10_133 awn aws awi rfl rfl dX10_layTrial_14 (fun s3 => ?_)
  exact jq_vreturn Γ dX10_layTrial_17 (hK0 _)


theorem dX10_bestSwap_0 : decode cX10_bestSwap 0 = .ok (.aload_n 0, 1) := by decide +kernel
theorem dX10_bestSwap_1 : decode cX10_bestSwap 1 = .ok (.getfield 25, 3) := by decide +kernel
theorem dX10_bestSwap_4 : decode cX10_bestSwap 4 = .ok (.aload_n 0, 1) := by decide +kernel
theorem dX10_bestSwap_5 : decode cX10_bestSwap 5 = .ok (.getfield 25, 3) := by decide +kernel
theorem dX10_bestSwap_8 : decode cX10_bestSwap 8 = .ok (.getfield 194, 3) := by decide +kernel
theorem dX10_bestSwap_11 : decode cX10_bestSwap 11 = .ok (.invokevirtual 276, 3) := by decide +kernel
theorem dX10_bestSwap_14 : decode cX10_bestSwap 14 = .ok (.istore_n 1, 1) := by decide +kernel
theorem dX10_bestSwap_15 : decode cX10_bestSwap 15 = .ok (.iconst (-1), 1) := by decide +kernel
theorem dX10_bestSwap_16 : decode cX10_bestSwap 16 = .ok (.istore_n 2, 1) := by decide +kernel
theorem dX10_bestSwap_17 : decode cX10_bestSwap 17 = .ok (.iconst 0, 1) := by decide +kernel
theorem dX10_bestSwap_18 : decode cX10_bestSwap 18 = .ok (.istore_n 3, 1) := by decide +kernel
theorem dX10_bestSwap_19 : decode cX10_bestSwap 19 = .ok (.iload_n 3, 1) := by decide +kernel
theorem dX10_bestSwap_20 : decode cX10_bestSwap 20 = .ok (.aload_n 0, 1) := by decide +kernel
theorem dX10_bestSwap_21 : decode cX10_bestSwap 21 = .ok (.getfield 25, 3) := by decide +kernel
theorem dX10_bestSwap_24 : decode cX10_bestSwap 24 = .ok (.getfield 182, 3) := by decide +kernel
theorem dX10_bestSwap_27 : decode cX10_bestSwap 27 = .ok (.if_icmp .ge 88, 3) := by decide +kernel
theorem dX10_bestSwap_30 : decode cX10_bestSwap 30 = .ok (.iload_n 3, 1) := by decide +kernel
theorem dX10_bestSwap_31 : decode cX10_bestSwap 31 = .ok (.iconst 1, 1) := by decide +kernel
theorem dX10_bestSwap_32 : decode cX10_bestSwap 32 = .ok (.iadd, 1) := by decide +kernel
theorem dX10_bestSwap_33 : decode cX10_bestSwap 33 = .ok (.istore 4, 2) := by decide +kernel
theorem dX10_bestSwap_35 : decode cX10_bestSwap 35 = .ok (.iload 4, 2) := by decide +kernel
theorem dX10_bestSwap_37 : decode cX10_bestSwap 37 = .ok (.aload_n 0, 1) := by decide +kernel
theorem dX10_bestSwap_38 : decode cX10_bestSwap 38 = .ok (.getfield 25, 3) := by decide +kernel
theorem dX10_bestSwap_41 : decode cX10_bestSwap 41 = .ok (.getfield 182, 3) := by decide +kernel
theorem dX10_bestSwap_44 : decode cX10_bestSwap 44 = .ok (.if_icmp .ge 65, 3) := by decide +kernel
theorem dX10_bestSwap_47 : decode cX10_bestSwap 47 = .ok (.aload_n 0, 1) := by decide +kernel
theorem dX10_bestSwap_48 : decode cX10_bestSwap 48 = .ok (.invokevirtual 368, 3) := by decide +kernel
theorem dX10_bestSwap_51 : decode cX10_bestSwap 51 = .ok (.aload_n 0, 1) := by decide +kernel
theorem dX10_bestSwap_52 : decode cX10_bestSwap 52 = .ok (.getfield 25, 3) := by decide +kernel
theorem dX10_bestSwap_55 : decode cX10_bestSwap 55 = .ok (.iload_n 3, 1) := by decide +kernel
theorem dX10_bestSwap_56 : decode cX10_bestSwap 56 = .ok (.iload 4, 2) := by decide +kernel
theorem dX10_bestSwap_58 : decode cX10_bestSwap 58 = .ok (.aload_n 0, 1) := by decide +kernel
theorem dX10_bestSwap_59 : decode cX10_bestSwap 59 = .ok (.getfield 68, 3) := by decide +kernel
theorem dX10_bestSwap_62 : decode cX10_bestSwap 62 = .ok (.invokevirtual 292, 3) := by decide +kernel
theorem dX10_bestSwap_65 : decode cX10_bestSwap 65 = .ok (.ifCond .eq 38, 3) := by decide +kernel
theorem dX10_bestSwap_68 : decode cX10_bestSwap 68 = .ok (.aload_n 0, 1) := by decide +kernel
theorem dX10_bestSwap_69 : decode cX10_bestSwap 69 = .ok (.getfield 25, 3) := by decide +kernel
theorem dX10_bestSwap_72 : decode cX10_bestSwap 72 = .ok (.aload_n 0, 1) := by decide +kernel
theorem dX10_bestSwap_73 : decode cX10_bestSwap 73 = .ok (.getfield 68, 3) := by decide +kernel
theorem dX10_bestSwap_76 : decode cX10_bestSwap 76 = .ok (.invokevirtual 276, 3) := by decide +kernel
theorem dX10_bestSwap_79 : decode cX10_bestSwap 79 = .ok (.iload_n 1, 1) := by decide +kernel
theorem dX10_bestSwap_80 : decode cX10_bestSwap 80 = .ok (.if_icmp .le 23, 3) := by decide +kernel
theorem dX10_bestSwap_83 : decode cX10_bestSwap 83 = .ok (.aload_n 0, 1) := by decide +kernel
theorem dX10_bestSwap_84 : decode cX10_bestSwap 84 = .ok (.getfield 25, 3) := by decide +kernel
theorem dX10_bestSwap_87 : decode cX10_bestSwap 87 = .ok (.aload_n 0, 1) := by decide +kernel
theorem dX10_bestSwap_88 : decode cX10_bestSwap 88 = .ok (.getfield 68, 3) := by decide +kernel
theorem dX10_bestSwap_91 : decode cX10_bestSwap 91 = .ok (.invokevirtual 276, 3) := by decide +kernel
theorem dX10_bestSwap_94 : decode cX10_bestSwap 94 = .ok (.istore_n 1, 1) := by decide +kernel
theorem dX10_bestSwap_95 : decode cX10_bestSwap 95 = .ok (.bipush 10, 2) := by decide +kernel
theorem dX10_bestSwap_97 : decode cX10_bestSwap 97 = .ok (.iload_n 3, 1) := by decide +kernel
theorem dX10_bestSwap_98 : decode cX10_bestSwap 98 = .ok (.imul, 1) := by decide +kernel
theorem dX10_bestSwap_99 : decode cX10_bestSwap 99 = .ok (.iload 4, 2) := by decide +kernel
theorem dX10_bestSwap_101 : decode cX10_bestSwap 101 = .ok (.iadd, 1) := by decide +kernel
theorem dX10_bestSwap_102 : decode cX10_bestSwap 102 = .ok (.istore_n 2, 1) := by decide +kernel
theorem dX10_bestSwap_103 : decode cX10_bestSwap 103 = .ok (.iinc 4 1, 3) := by decide +kernel
theorem dX10_bestSwap_106 : decode cX10_bestSwap 106 = .ok (.goto (-71), 3) := by decide +kernel
theorem dX10_bestSwap_109 : decode cX10_bestSwap 109 = .ok (.iinc 3 1, 3) := by decide +kernel
theorem dX10_bestSwap_112 : decode cX10_bestSwap 112 = .ok (.goto (-93), 3) := by decide +kernel
theorem dX10_bestSwap_115 : decode cX10_bestSwap 115 = .ok (.aload_n 0, 1) := by decide +kernel
theorem dX10_bestSwap_116 : decode cX10_bestSwap 116 = .ok (.iload_n 2, 1) := by decide +kernel
theorem dX10_bestSwap_117 : decode cX10_bestSwap 117 = .ok (.invokevirtual 218, 3) := by decide +kernel
theorem dX10_bestSwap_120 : decode cX10_bestSwap 120 = .ok (.ireturn, 1) := by decide +kernel
set_option maxHeartbeats 4000000 in
set_option maxRecDepth 100000 in
theorem ctX10_bestSwap  {σ : jq_M} {res : Int} {σ' : jq_M}  (h : X10_bestSwap σ = some (res, σ')) : jq_MC jq_zX yX10_bestSwap cX10_bestSwap 5 (some .int) 4 110 [jR 0] σ (some (jI res)) σ' := by
  refine jq_met (own := RX10) (L0 := [(0, jR 0)]) (by decide) rfl rfl rfl ?_
  intro X Γ hnl hlY hRT
  refine jq_use2 (P := fun r => jq_RT jq_zX X (some .int) (some (jI r.1)) r.2) ?_ h hRT
  intro K0 hK0
  unfold X10_bestSwap
  refine jq_aload_n Γ dX10_bestSwap_0 rfl 0 rfl (jq_at_0 at_X_0) ?_
  refine jq_getC (C := jq_cm2) Γ hlY at_X_0 fl_RX10_25 rfl rfl ly_now dX10_bestSwap_1 (fun c1 hc2q => ?_)
  have hc2 := jq_cm2_com hc2q
  refine jq_aload_n Γ dX10_bestSwap_4 rfl 0 rfl (jq_at_0 at_X_0) ?_
  refine jq_getC (C := jq_cm2) Γ hlY at_X_0 fl_RX10_25 rfl rfl ly_now dX10_bestSwap_5 (fun c3 hc4q => ?_)
  have hc4 := jq_cm2_com hc4q
  refine jq_getR (v := (c3 + 3)) Γ hlY (at_com hc4) fl_RX10_194 rfl rfl (ly_X1_seats hc4) dX10_bestSwap_8 ?_
  refine jq_cpI (jq_virt (avs := [jR (c3 + 3)]) (st := []) Γ hlY rfl ml_RX10_276 rfl (at_com hc2) rfl rfl rfl rfl rfl dX10_bestSwap_11) (fun r h => ctX1_worthOfAll hc2 (row_com hc4) h) (fun v5 => ?_)
  refine jq_istore_n (L' := [(1, jI v5), (0, jR 0)]) Γ dX10_bestSwap_14 rfl hnl rfl rfl ?_
  refine jq_iconst Γ dX10_bestSwap_15 rfl ?_
  refine jq_istore_n (L' := [(2, jI (-1)), (1, jI v5), (0, jR 0)]) Γ dX10_bestSwap_16 rfl hnl rfl rfl ?_
  refine jq_iconst Γ dX10_bestSwap_17 rfl ?_
  refine jq_istore_n (L' := [(3, jI 0), (2, jI (-1)), (1, jI v5), (0, jR 0)]) Γ dX10_bestSwap_18 rfl hnl rfl rfl ?_
  refine jq_sub Γ (L' := [(0, jR 0), (1, jI v5), (2, jI (-1)), (3, jI 0)]) [3, 2, 1, 0] rfl ?_
  refine jq_loop2 (C := fun (t6 : Int × Int × Int × jq_M) => jq_V jq_zX X (jq_zN jq_zX) t6.2.2.2 19 [(0, jR 0), (1, jI t6.1), (2, jI t6.2.1), (3, jI t6.2.2.1)] []) (KX := fun (e31 : Int × jq_M) => jq_V jq_zX X (jq_zN jq_zX) e31.2 115 [(0, jR 0), (2, jI e31.1)] []) ?_ ?_ (v5, (-1), 0, σ)
  · intro K19_t6 hCt6 hXt6 t6
    unfold X10_bestSwap_b19
    refine jq_iload_n Γ dX10_bestSwap_19 rfl 3 rfl ?_
    refine jq_aload_n Γ dX10_bestSwap_20 rfl 0 rfl (jq_at_0 at_X_0) ?_
    refine jq_getC (C := jq_cm2) Γ hlY at_X_0 fl_RX10_25 rfl rfl ly_now dX10_bestSwap_21 (fun c7 hc8q => ?_)
    have hc8 := jq_cm2_com hc8q
    refine jq_getI (J := 2) Γ (at_com hc8) fl_RX10_182 rfl rfl dX10_bestSwap_24 ?_
    refine jq_icmp_ge (tgt := 115) Γ dX10_bestSwap_27 rfl ?_ ?_
    · refine jq_sub Γ (L' := [(0, jR 0), (2, jI t6.2.1)]) [0, 2] rfl ?_
      exact jq_done (hXt6 (t6.2.1, t6.2.2.2))
    · refine jq_iload_n Γ dX10_bestSwap_30 rfl 3 rfl ?_
      refine jq_iconst Γ dX10_bestSwap_31 rfl ?_
      refine jq_iadd Γ dX10_bestSwap_32 ?_
      refine jq_nmI (fun v9 => ?_)
      refine jq_istore (L' := [(4, jI v9), (0, jR 0), (1, jI t6.1), (2, jI t6.2.1), (3, jI t6.2.2.1)]) Γ dX10_bestSwap_33 hnl rfl rfl ?_
      refine jq_sub Γ (L' := [(0, jR 0), (1, jI t6.1), (2, jI t6.2.1), (3, jI t6.2.2.1), (4, jI v9)]) [1, 2, 3, 4, 0] rfl ?_
      refine jq_loop2 (C := fun (t10 : Int × Int × Int × jq_M) => jq_V jq_zX X (jq_zN jq_zX) t10.2.2.2 35 [(0, jR 0), (1, jI t10.1), (2, jI t10.2.1), (3, jI t6.2.2.1), (4, jI t10.2.2.1)] []) (KX := fun (e29 : Int × Int × jq_M) => jq_V jq_zX X (jq_zN jq_zX) e29.2.2 109 [(0, jR 0), (1, jI e29.1), (2, jI e29.2.1), (3, jI t6.2.2.1)] []) ?_ ?_ (t6.1, t6.2.1, v9, t6.2.2.2)
      · intro K35_t10 hCt10 hXt10 t10
        unfold X10_bestSwap_b35
        refine jq_iload Γ dX10_bestSwap_35 4 rfl ?_
        refine jq_aload_n Γ dX10_bestSwap_37 rfl 0 rfl (jq_at_0 at_X_0) ?_
        refine jq_getC (C := jq_cm2) Γ hlY at_X_0 fl_RX10_25 rfl rfl ly_now dX10_bestSwap_38 (fun c11 hc12q => ?_)
        have hc12 := jq_cm2_com hc12q
        refine jq_getI (J := 2) Γ (at_com hc12) fl_RX10_182 rfl rfl dX10_bestSwap_41 ?_
        refine jq_icmp_ge (tgt := 109) Γ dX10_bestSwap_44 rfl ?_ ?_
        · refine jq_sub Γ (L' := [(0, jR 0), (1, jI t10.1), (2, jI t10.2.1), (3, jI t6.2.2.1)]) [0, 1, 2, 3] rfl ?_
          exact jq_done (hXt10 (t10.1, t10.2.1, t10.2.2.2))
        · refine jq_aload_n Γ dX10_bestSwap_47 rfl 0 rfl (jq_at_0 at_X_0) ?_
          refine jq_cwV (jq_virt (avs := []) (st := []) Γ hlY rfl ml_RX10_368 rfl at_X_0 rfl rfl rfl rfl rfl dX10_bestSwap_48) (fun σ' h => ctX10_layTrial h) (fun s13 => ?_)
          refine jq_aload_n Γ dX10_bestSwap_51 rfl 0 rfl (jq_at_0 at_X_0) ?_
          refine jq_getC (C := jq_cm2) Γ hlY at_X_0 fl_RX10_25 rfl rfl ly_now dX10_bestSwap_52 (fun c14 hc15q => ?_)
          have hc15 := jq_cm2_com hc15q
          refine jq_iload_n Γ dX10_bestSwap_55 rfl 3 rfl ?_
          refine jq_iload Γ dX10_bestSwap_56 4 rfl ?_
          refine jq_aload_n Γ dX10_bestSwap_58 rfl 0 rfl (jq_at_0 at_X_0) ?_
          refine jq_getR (v := 63) Γ hlY at_X_0 fl_RX10_68 rfl rfl ly_X10_trial dX10_bestSwap_59 ?_
          refine jq_cwZ (jq_virt (avs := [jI t6.2.2.1, jI t10.2.2.1, jR 63]) (st := []) Γ hlY rfl ml_RX10_292 rfl (at_com hc15) rfl rfl rfl rfl rfl dX10_bestSwap_62) rfl (fun r σ' h => ctX1_swapTwo hc15 row_63 h) (fun v16 s17 hz18 => ?_)
          refine jq_if_eq (tgt := 103) Γ dX10_bestSwap_65 rfl ?_ ?_
          · refine jq_iincN (L' := fun v19 => [(4, jI v19), (0, jR 0), (1, jI t10.1), (2, jI t10.2.1), (3, jI t6.2.2.1)]) Γ dX10_bestSwap_103 4 rfl hnl rfl (fun _ => rfl) (fun v19 => ?_)
            refine jq_goto Γ (tgt := 35) dX10_bestSwap_106 rfl ?_
            refine jq_sub Γ (L' := [(0, jR 0), (1, jI t10.1), (2, jI t10.2.1), (3, jI t6.2.2.1), (4, jI v19)]) [1, 2, 3, 4, 0] rfl ?_
            exact jq_done (hCt10 (t10.1, t10.2.1, v19, s17))
          · refine jq_aload_n Γ dX10_bestSwap_68 rfl 0 rfl (jq_at_0 at_X_0) ?_
            refine jq_getC (C := jq_cm2) Γ hlY at_X_0 fl_RX10_25 rfl rfl ly_now dX10_bestSwap_69 (fun c20 hc21q => ?_)
            have hc21 := jq_cm2_com hc21q
            refine jq_aload_n Γ dX10_bestSwap_72 rfl 0 rfl (jq_at_0 at_X_0) ?_
            refine jq_getR (v := 63) Γ hlY at_X_0 fl_RX10_68 rfl rfl ly_X10_trial dX10_bestSwap_73 ?_
            refine jq_cpI (jq_virt (avs := [jR 63]) (st := []) Γ hlY rfl ml_RX10_276 rfl (at_com hc21) rfl rfl rfl rfl rfl dX10_bestSwap_76) (fun r h => ctX1_worthOfAll hc21 row_63 h) (fun v22 => ?_)
            refine jq_iload_n Γ dX10_bestSwap_79 rfl 1 rfl ?_
            refine jq_icmp_le (tgt := 103) Γ dX10_bestSwap_80 rfl ?_ ?_
            · refine jq_iincN (L' := fun v23 => [(4, jI v23), (0, jR 0), (1, jI t10.1), (2, jI t10.2.1), (3, jI t6.2.2.1)]) Γ dX10_bestSwap_103 4 rfl hnl rfl (fun _ => rfl) (fun v23 => ?_)
              refine jq_goto Γ (tgt := 35) dX10_bestSwap_106 rfl ?_
              refine jq_sub Γ (L' := [(0, jR 0), (1, jI t10.1), (2, jI t10.2.1), (3, jI t6.2.2.1), (4, jI v23)]) [1, 2, 3, 4, 0] rfl ?_
              exact jq_done (hCt10 (t10.1, t10.2.1, v23, s17))
            · refine jq_aload_n Γ dX10_bestSwap_83 rfl 0 rfl (jq_at_0 at_X_0) ?_
              refine jq_getC (C := jq_cm2) Γ hlY at_X_0 fl_RX10_25 rfl rfl ly_now dX10_bestSwap_84 (fun c24 hc25q => ?_)
              have hc25 := jq_cm2_com hc25q
              refine jq_aload_n Γ dX10_bestSwap_87 rfl 0 rfl (jq_at_0 at_X_0) ?_
              refine jq_getR (v := 63) Γ hlY at_X_0 fl_RX10_68 rfl rfl ly_X10_trial dX10_bestSwap_88 ?_
              refine jq_cpI (jq_virt (avs := [jR 63]) (st := []) Γ hlY rfl ml_RX10_276 rfl (at_com hc25) rfl rfl rfl rfl rfl dX10_bestSwap_91) (fun r h => ctX1_worthOfAll hc25 row_63 h) (fun v26 => ?_)
              refine jq_istore_n (L' := [(1, jI v26), (0, jR 0), (2, jI t10.2.1), (3, jI t6.2.2.1), (4, jI t10.2.2.1)]) Γ dX10_bestSwap_94 rfl hnl rfl rfl ?_
              refine jq_bipush Γ dX10_bestSwap_95 rfl ?_
              refine jq_iload_n Γ dX10_bestSwap_97 rfl 3 rfl ?_
              refine jq_imul Γ dX10_bestSwap_98 ?_
              refine jq_iload Γ dX10_bestSwap_99 4 rfl ?_
              refine jq_iadd Γ dX10_bestSwap_101 ?_
              refine jq_nmI (fun v27 => ?_)
              refine jq_istore_n (L' := [(2, jI v27), (1, jI v26), (0, jR 0), (3, jI t6.2.2.1), (4, jI t10.2.2.1)]) Γ dX10_bestSwap_102 rfl hnl rfl rfl ?_
              refine jq_iincN (L' := fun v28 => [(4, jI v28), (2, jI v27), (1, jI v26), (0, jR 0), (3, jI t6.2.2.1)]) Γ dX10_bestSwap_103 4 rfl hnl rfl (fun _ => rfl) (fun v28 => ?_)
              refine jq_goto Γ (tgt := 35) dX10_bestSwap_106 rfl ?_
              refine jq_sub Γ (L' := [(0, jR 0), (1, jI v26), (2, jI v27), (3, jI t6.2.2.1), (4, jI v28)]) [3, 2, 1, 4, 0] rfl ?_
              exact jq_done (hCt10 (v26, v27, v28, s17))
      · intro e29
        refine jq_iincN (L' := fun v30 => [(3, jI v30), (0, jR 0), (1, jI e29.1), (2, jI e29.2.1)]) Γ dX10_bestSwap_109 3 rfl hnl rfl (fun _ => rfl) (fun v30 => ?_)
        refine jq_goto Γ (tgt := 19) dX10_bestSwap_112 rfl ?_
        refine jq_sub Γ (L' := [(0, jR 0), (1, jI e29.1), (2, jI e29.2.1), (3, jI v30)]) [1, 2, 3, 0] rfl ?_
        exact jq_done (hCt6 (e29.1, e29.2.1, v30, e29.2.2))
  · intro e31
    refine jq_aload_n Γ dX10_bestSwap_115 rfl 0 rfl (jq_at_0 at_X_0) ?_
    refine jq_iload_n Γ dX10_bestSwap_116 rfl 1 rfl ?_
    refine jq_cwI (jq_virt (avs := [jI e31.1]) (st := []) Γ hlY rfl ml_RX10_218 rfl at_X_0 rfl rfl rfl rfl rfl dX10_bestSwap_117) (fun r σ' h => ctX10_answerOrNone h) (fun v32 s33 => ?_)
    exact jq_ireturn Γ dX10_bestSwap_120 (hK0 _)


theorem dX10_bestTurn_0 : decode cX10_bestTurn 0 = .ok (.aload_n 0, 1) := by decide +kernel
theorem dX10_bestTurn_1 : decode cX10_bestTurn 1 = .ok (.getfield 25, 3) := by decide +kernel
theorem dX10_bestTurn_4 : decode cX10_bestTurn 4 = .ok (.aload_n 0, 1) := by decide +kernel
theorem dX10_bestTurn_5 : decode cX10_bestTurn 5 = .ok (.getfield 25, 3) := by decide +kernel
theorem dX10_bestTurn_8 : decode cX10_bestTurn 8 = .ok (.getfield 194, 3) := by decide +kernel
theorem dX10_bestTurn_11 : decode cX10_bestTurn 11 = .ok (.invokevirtual 276, 3) := by decide +kernel
theorem dX10_bestTurn_14 : decode cX10_bestTurn 14 = .ok (.istore_n 1, 1) := by decide +kernel
theorem dX10_bestTurn_15 : decode cX10_bestTurn 15 = .ok (.iconst (-1), 1) := by decide +kernel
theorem dX10_bestTurn_16 : decode cX10_bestTurn 16 = .ok (.istore_n 2, 1) := by decide +kernel
theorem dX10_bestTurn_17 : decode cX10_bestTurn 17 = .ok (.iconst 1, 1) := by decide +kernel
theorem dX10_bestTurn_18 : decode cX10_bestTurn 18 = .ok (.istore_n 3, 1) := by decide +kernel
theorem dX10_bestTurn_19 : decode cX10_bestTurn 19 = .ok (.iload_n 3, 1) := by decide +kernel
theorem dX10_bestTurn_20 : decode cX10_bestTurn 20 = .ok (.aload_n 0, 1) := by decide +kernel
theorem dX10_bestTurn_21 : decode cX10_bestTurn 21 = .ok (.getfield 25, 3) := by decide +kernel
theorem dX10_bestTurn_24 : decode cX10_bestTurn 24 = .ok (.getfield 179, 3) := by decide +kernel
theorem dX10_bestTurn_27 : decode cX10_bestTurn 27 = .ok (.if_icmp .ge 49, 3) := by decide +kernel
theorem dX10_bestTurn_30 : decode cX10_bestTurn 30 = .ok (.aload_n 0, 1) := by decide +kernel
theorem dX10_bestTurn_31 : decode cX10_bestTurn 31 = .ok (.invokevirtual 368, 3) := by decide +kernel
theorem dX10_bestTurn_34 : decode cX10_bestTurn 34 = .ok (.aload_n 0, 1) := by decide +kernel
theorem dX10_bestTurn_35 : decode cX10_bestTurn 35 = .ok (.getfield 25, 3) := by decide +kernel
theorem dX10_bestTurn_38 : decode cX10_bestTurn 38 = .ok (.iload_n 3, 1) := by decide +kernel
theorem dX10_bestTurn_39 : decode cX10_bestTurn 39 = .ok (.aload_n 0, 1) := by decide +kernel
theorem dX10_bestTurn_40 : decode cX10_bestTurn 40 = .ok (.getfield 68, 3) := by decide +kernel
theorem dX10_bestTurn_43 : decode cX10_bestTurn 43 = .ok (.invokevirtual 296, 3) := by decide +kernel
theorem dX10_bestTurn_46 : decode cX10_bestTurn 46 = .ok (.aload_n 0, 1) := by decide +kernel
theorem dX10_bestTurn_47 : decode cX10_bestTurn 47 = .ok (.getfield 25, 3) := by decide +kernel
theorem dX10_bestTurn_50 : decode cX10_bestTurn 50 = .ok (.aload_n 0, 1) := by decide +kernel
theorem dX10_bestTurn_51 : decode cX10_bestTurn 51 = .ok (.getfield 68, 3) := by decide +kernel
theorem dX10_bestTurn_54 : decode cX10_bestTurn 54 = .ok (.invokevirtual 276, 3) := by decide +kernel
theorem dX10_bestTurn_57 : decode cX10_bestTurn 57 = .ok (.istore 4, 2) := by decide +kernel
theorem dX10_bestTurn_59 : decode cX10_bestTurn 59 = .ok (.iload 4, 2) := by decide +kernel
theorem dX10_bestTurn_61 : decode cX10_bestTurn 61 = .ok (.iload_n 1, 1) := by decide +kernel
theorem dX10_bestTurn_62 : decode cX10_bestTurn 62 = .ok (.if_icmp .le 8, 3) := by decide +kernel
theorem dX10_bestTurn_65 : decode cX10_bestTurn 65 = .ok (.iload 4, 2) := by decide +kernel
theorem dX10_bestTurn_67 : decode cX10_bestTurn 67 = .ok (.istore_n 1, 1) := by decide +kernel
theorem dX10_bestTurn_68 : decode cX10_bestTurn 68 = .ok (.iload_n 3, 1) := by decide +kernel
theorem dX10_bestTurn_69 : decode cX10_bestTurn 69 = .ok (.istore_n 2, 1) := by decide +kernel
theorem dX10_bestTurn_70 : decode cX10_bestTurn 70 = .ok (.iinc 3 1, 3) := by decide +kernel
theorem dX10_bestTurn_73 : decode cX10_bestTurn 73 = .ok (.goto (-54), 3) := by decide +kernel
theorem dX10_bestTurn_76 : decode cX10_bestTurn 76 = .ok (.aload_n 0, 1) := by decide +kernel
theorem dX10_bestTurn_77 : decode cX10_bestTurn 77 = .ok (.iload_n 2, 1) := by decide +kernel
theorem dX10_bestTurn_78 : decode cX10_bestTurn 78 = .ok (.invokevirtual 218, 3) := by decide +kernel
theorem dX10_bestTurn_81 : decode cX10_bestTurn 81 = .ok (.ireturn, 1) := by decide +kernel
set_option maxHeartbeats 4000000 in
set_option maxRecDepth 100000 in
theorem ctX10_bestTurn  {σ : jq_M} {res : Int} {σ' : jq_M}  (h : X10_bestTurn σ = some (res, σ')) : jq_MC jq_zX yX10_bestTurn cX10_bestTurn 5 (some .int) 4 110 [jR 0] σ (some (jI res)) σ' := by
  refine jq_met (own := RX10) (L0 := [(0, jR 0)]) (by decide) rfl rfl rfl ?_
  intro X Γ hnl hlY hRT
  refine jq_use2 (P := fun r => jq_RT jq_zX X (some .int) (some (jI r.1)) r.2) ?_ h hRT
  intro K0 hK0
  unfold X10_bestTurn
  refine jq_aload_n Γ dX10_bestTurn_0 rfl 0 rfl (jq_at_0 at_X_0) ?_
  refine jq_getC (C := jq_cm2) Γ hlY at_X_0 fl_RX10_25 rfl rfl ly_now dX10_bestTurn_1 (fun c1 hc2q => ?_)
  have hc2 := jq_cm2_com hc2q
  refine jq_aload_n Γ dX10_bestTurn_4 rfl 0 rfl (jq_at_0 at_X_0) ?_
  refine jq_getC (C := jq_cm2) Γ hlY at_X_0 fl_RX10_25 rfl rfl ly_now dX10_bestTurn_5 (fun c3 hc4q => ?_)
  have hc4 := jq_cm2_com hc4q
  refine jq_getR (v := (c3 + 3)) Γ hlY (at_com hc4) fl_RX10_194 rfl rfl (ly_X1_seats hc4) dX10_bestTurn_8 ?_
  refine jq_cpI (jq_virt (avs := [jR (c3 + 3)]) (st := []) Γ hlY rfl ml_RX10_276 rfl (at_com hc2) rfl rfl rfl rfl rfl dX10_bestTurn_11) (fun r h => ctX1_worthOfAll hc2 (row_com hc4) h) (fun v5 => ?_)
  refine jq_istore_n (L' := [(1, jI v5), (0, jR 0)]) Γ dX10_bestTurn_14 rfl hnl rfl rfl ?_
  refine jq_iconst Γ dX10_bestTurn_15 rfl ?_
  refine jq_istore_n (L' := [(2, jI (-1)), (1, jI v5), (0, jR 0)]) Γ dX10_bestTurn_16 rfl hnl rfl rfl ?_
  refine jq_iconst Γ dX10_bestTurn_17 rfl ?_
  refine jq_istore_n (L' := [(3, jI 1), (2, jI (-1)), (1, jI v5), (0, jR 0)]) Γ dX10_bestTurn_18 rfl hnl rfl rfl ?_
  refine jq_sub Γ (L' := [(0, jR 0), (1, jI v5), (2, jI (-1)), (3, jI 1)]) [3, 2, 1, 0] rfl ?_
  refine jq_loop2 (C := fun (t6 : Int × Int × Int × jq_M) => jq_V jq_zX X (jq_zN jq_zX) t6.2.2.2 19 [(0, jR 0), (1, jI t6.1), (2, jI t6.2.1), (3, jI t6.2.2.1)] []) (KX := fun (e18 : Int × jq_M) => jq_V jq_zX X (jq_zN jq_zX) e18.2 76 [(0, jR 0), (2, jI e18.1)] []) ?_ ?_ (v5, (-1), 1, σ)
  · intro K19_t6 hCt6 hXt6 t6
    unfold X10_bestTurn_b19
    refine jq_iload_n Γ dX10_bestTurn_19 rfl 3 rfl ?_
    refine jq_aload_n Γ dX10_bestTurn_20 rfl 0 rfl (jq_at_0 at_X_0) ?_
    refine jq_getC (C := jq_cm2) Γ hlY at_X_0 fl_RX10_25 rfl rfl ly_now dX10_bestTurn_21 (fun c7 hc8q => ?_)
    have hc8 := jq_cm2_com hc8q
    refine jq_getI (J := 0) Γ (at_com hc8) fl_RX10_179 rfl rfl dX10_bestTurn_24 ?_
    refine jq_icmp_ge (tgt := 76) Γ dX10_bestTurn_27 rfl ?_ ?_
    · refine jq_sub Γ (L' := [(0, jR 0), (2, jI t6.2.1)]) [0, 2] rfl ?_
      exact jq_done (hXt6 (t6.2.1, t6.2.2.2))
    · refine jq_aload_n Γ dX10_bestTurn_30 rfl 0 rfl (jq_at_0 at_X_0) ?_
      refine jq_cwV (jq_virt (avs := []) (st := []) Γ hlY rfl ml_RX10_368 rfl at_X_0 rfl rfl rfl rfl rfl dX10_bestTurn_31) (fun σ' h => ctX10_layTrial h) (fun s9 => ?_)
      refine jq_aload_n Γ dX10_bestTurn_34 rfl 0 rfl (jq_at_0 at_X_0) ?_
      refine jq_getC (C := jq_cm2) Γ hlY at_X_0 fl_RX10_25 rfl rfl ly_now dX10_bestTurn_35 (fun c10 hc11q => ?_)
      have hc11 := jq_cm2_com hc11q
      refine jq_iload_n Γ dX10_bestTurn_38 rfl 3 rfl ?_
      refine jq_aload_n Γ dX10_bestTurn_39 rfl 0 rfl (jq_at_0 at_X_0) ?_
      refine jq_getR (v := 63) Γ hlY at_X_0 fl_RX10_68 rfl rfl ly_X10_trial dX10_bestTurn_40 ?_
      refine jq_cwV (jq_virt (avs := [jI t6.2.2.1, jR 63]) (st := []) Γ hlY rfl ml_RX10_296 rfl (at_com hc11) rfl rfl rfl rfl rfl dX10_bestTurn_43) (fun σ' h => ctX1_turnAll hc11 row_63 h) (fun s12 => ?_)
      refine jq_aload_n Γ dX10_bestTurn_46 rfl 0 rfl (jq_at_0 at_X_0) ?_
      refine jq_getC (C := jq_cm2) Γ hlY at_X_0 fl_RX10_25 rfl rfl ly_now dX10_bestTurn_47 (fun c13 hc14q => ?_)
      have hc14 := jq_cm2_com hc14q
      refine jq_aload_n Γ dX10_bestTurn_50 rfl 0 rfl (jq_at_0 at_X_0) ?_
      refine jq_getR (v := 63) Γ hlY at_X_0 fl_RX10_68 rfl rfl ly_X10_trial dX10_bestTurn_51 ?_
      refine jq_cpI (jq_virt (avs := [jR 63]) (st := []) Γ hlY rfl ml_RX10_276 rfl (at_com hc14) rfl rfl rfl rfl rfl dX10_bestTurn_54) (fun r h => ctX1_worthOfAll hc14 row_63 h) (fun v15 => ?_)
      refine jq_istore (L' := [(4, jI v15), (0, jR 0), (1, jI t6.1), (2, jI t6.2.1), (3, jI t6.2.2.1)]) Γ dX10_bestTurn_57 hnl rfl rfl ?_
      refine jq_iload Γ dX10_bestTurn_59 0 rfl ?_
      refine jq_iload_n Γ dX10_bestTurn_61 rfl 2 rfl ?_
      refine jq_icmp_le (tgt := 70) Γ dX10_bestTurn_62 rfl ?_ ?_
      · refine jq_iincN (L' := fun v16 => [(3, jI v16), (4, jI v15), (0, jR 0), (1, jI t6.1), (2, jI t6.2.1)]) Γ dX10_bestTurn_70 4 rfl hnl rfl (fun _ => rfl) (fun v16 => ?_)
        refine jq_goto Γ (tgt := 19) dX10_bestTurn_73 rfl ?_
        refine jq_sub Γ (L' := [(0, jR 0), (1, jI t6.1), (2, jI t6.2.1), (3, jI v16)]) [2, 3, 4, 0] rfl ?_
        exact jq_done (hCt6 (t6.1, t6.2.1, v16, s12))
      · refine jq_iload Γ dX10_bestTurn_65 0 rfl ?_
        refine jq_istore_n (L' := [(1, jI v15), (4, jI v15), (0, jR 0), (2, jI t6.2.1), (3, jI t6.2.2.1)]) Γ dX10_bestTurn_67 rfl hnl rfl rfl ?_
        refine jq_iload_n Γ dX10_bestTurn_68 rfl 4 rfl ?_
        refine jq_istore_n (L' := [(2, jI t6.2.2.1), (1, jI v15), (4, jI v15), (0, jR 0), (3, jI t6.2.2.1)]) Γ dX10_bestTurn_69 rfl hnl rfl rfl ?_
        refine jq_iincN (L' := fun v17 => [(3, jI v17), (2, jI t6.2.2.1), (1, jI v15), (4, jI v15), (0, jR 0)]) Γ dX10_bestTurn_70 4 rfl hnl rfl (fun _ => rfl) (fun v17 => ?_)
        refine jq_goto Γ (tgt := 19) dX10_bestTurn_73 rfl ?_
        refine jq_sub Γ (L' := [(0, jR 0), (1, jI v15), (2, jI t6.2.2.1), (3, jI v17)]) [4, 2, 1, 0] rfl ?_
        exact jq_done (hCt6 (v15, t6.2.2.1, v17, s12))
  · intro e18
    refine jq_aload_n Γ dX10_bestTurn_76 rfl 0 rfl (jq_at_0 at_X_0) ?_
    refine jq_iload_n Γ dX10_bestTurn_77 rfl 1 rfl ?_
    refine jq_cwI (jq_virt (avs := [jI e18.1]) (st := []) Γ hlY rfl ml_RX10_218 rfl at_X_0 rfl rfl rfl rfl rfl dX10_bestTurn_78) (fun r σ' h => ctX10_answerOrNone h) (fun v19 s20 => ?_)
    exact jq_ireturn Γ dX10_bestTurn_81 (hK0 _)


theorem dX10_signsBy_0 : decode cX10_signsBy 0 = .ok (.aload_n 0, 1) := by decide +kernel
theorem dX10_signsBy_1 : decode cX10_signsBy 1 = .ok (.iload_n 1, 1) := by decide +kernel
theorem dX10_signsBy_2 : decode cX10_signsBy 2 = .ok (.iload_n 2, 1) := by decide +kernel
theorem dX10_signsBy_3 : decode cX10_signsBy 3 = .ok (.invokevirtual 264, 3) := by decide +kernel
theorem dX10_signsBy_6 : decode cX10_signsBy 6 = .ok (.ifCond .ne 9, 3) := by decide +kernel
theorem dX10_signsBy_9 : decode cX10_signsBy 9 = .ok (.aload_n 0, 1) := by decide +kernel
theorem dX10_signsBy_10 : decode cX10_signsBy 10 = .ok (.iconst 1, 1) := by decide +kernel
theorem dX10_signsBy_11 : decode cX10_signsBy 11 = .ok (.invokevirtual 120, 3) := by decide +kernel
theorem dX10_signsBy_14 : decode cX10_signsBy 14 = .ok (.ireturn, 1) := by decide +kernel
theorem dX10_signsBy_15 : decode cX10_signsBy 15 = .ok (.aload_n 0, 1) := by decide +kernel
theorem dX10_signsBy_16 : decode cX10_signsBy 16 = .ok (.invokevirtual 368, 3) := by decide +kernel
theorem dX10_signsBy_19 : decode cX10_signsBy 19 = .ok (.aload_n 0, 1) := by decide +kernel
theorem dX10_signsBy_20 : decode cX10_signsBy 20 = .ok (.getfield 25, 3) := by decide +kernel
theorem dX10_signsBy_23 : decode cX10_signsBy 23 = .ok (.iload_n 1, 1) := by decide +kernel
theorem dX10_signsBy_24 : decode cX10_signsBy 24 = .ok (.iload_n 2, 1) := by decide +kernel
theorem dX10_signsBy_25 : decode cX10_signsBy 25 = .ok (.aload_n 0, 1) := by decide +kernel
theorem dX10_signsBy_26 : decode cX10_signsBy 26 = .ok (.getfield 68, 3) := by decide +kernel
theorem dX10_signsBy_29 : decode cX10_signsBy 29 = .ok (.invokevirtual 292, 3) := by decide +kernel
theorem dX10_signsBy_32 : decode cX10_signsBy 32 = .ok (.ifCond .ne 10, 3) := by decide +kernel
theorem dX10_signsBy_35 : decode cX10_signsBy 35 = .ok (.aload_n 0, 1) := by decide +kernel
theorem dX10_signsBy_36 : decode cX10_signsBy 36 = .ok (.bipush 7, 2) := by decide +kernel
theorem dX10_signsBy_38 : decode cX10_signsBy 38 = .ok (.invokevirtual 120, 3) := by decide +kernel
theorem dX10_signsBy_41 : decode cX10_signsBy 41 = .ok (.ireturn, 1) := by decide +kernel
theorem dX10_signsBy_42 : decode cX10_signsBy 42 = .ok (.aload_n 0, 1) := by decide +kernel
theorem dX10_signsBy_43 : decode cX10_signsBy 43 = .ok (.aload_n 0, 1) := by decide +kernel
theorem dX10_signsBy_44 : decode cX10_signsBy 44 = .ok (.getfield 25, 3) := by decide +kernel
theorem dX10_signsBy_47 : decode cX10_signsBy 47 = .ok (.aload_n 0, 1) := by decide +kernel
theorem dX10_signsBy_48 : decode cX10_signsBy 48 = .ok (.getfield 68, 3) := by decide +kernel
theorem dX10_signsBy_51 : decode cX10_signsBy 51 = .ok (.invokevirtual 201, 3) := by decide +kernel
theorem dX10_signsBy_54 : decode cX10_signsBy 54 = .ok (.invokevirtual 161, 3) := by decide +kernel
theorem dX10_signsBy_57 : decode cX10_signsBy 57 = .ok (.ireturn, 1) := by decide +kernel
set_option maxHeartbeats 4000000 in
set_option maxRecDepth 100000 in
theorem ctX10_signsBy {p1 : Int} {p2 : Int} {σ : jq_M} {res : Int} {σ' : jq_M}  (h : X10_signsBy p1 p2 σ = some (res, σ')) : jq_MC jq_zX yX10_signsBy cX10_signsBy 3 (some .int) 5 132 [jR 0, jI p1, jI p2] σ (some (jI res)) σ' := by
  refine jq_met (own := RX10) (L0 := [(0, jR 0), (1, jI p1), (2, jI p2)]) (by decide) rfl rfl rfl ?_
  intro X Γ hnl hlY hRT
  refine jq_use2 (P := fun r => jq_RT jq_zX X (some .int) (some (jI r.1)) r.2) ?_ h hRT
  intro K0 hK0
  unfold X10_signsBy
  refine jq_aload_n Γ dX10_signsBy_0 rfl 0 rfl (jq_at_0 at_X_0) ?_
  refine jq_iload_n Γ dX10_signsBy_1 rfl 1 rfl ?_
  refine jq_iload_n Γ dX10_signsBy_2 rfl 2 rfl ?_
  refine jq_cpZ (jq_virt (avs := [jI p1, jI p2]) (st := []) Γ hlY rfl ml_RX10_264 rfl at_X_0 rfl rfl rfl rfl rfl dX10_signsBy_3) rfl (fun r h => ctX10_areTwo h) (fun v1 hz2 => ?_)
  refine jq_if_ne (tgt := 15) Γ dX10_signsBy_6 rfl ?_ ?_
  · refine jq_aload_n Γ dX10_signsBy_15 rfl 0 rfl (jq_at_0 at_X_0) ?_
    refine jq_cwV (jq_virt (avs := []) (st := []) Γ hlY rfl ml_RX10_368 rfl at_X_0 rfl rfl rfl rfl rfl dX10_signsBy_16) (fun σ' h => ctX10_layTrial h) (fun s3 => ?_)
    refine jq_aload_n Γ dX10_signsBy_19 rfl 0 rfl (jq_at_0 at_X_0) ?_
    refine jq_getC (C := jq_cm2) Γ hlY at_X_0 fl_RX10_25 rfl rfl ly_now dX10_signsBy_20 (fun c4 hc5q => ?_)
    have hc5 := jq_cm2_com hc5q
    refine jq_iload_n Γ dX10_signsBy_23 rfl 1 rfl ?_
    refine jq_iload_n Γ dX10_signsBy_24 rfl 2 rfl ?_
    refine jq_aload_n Γ dX10_signsBy_25 rfl 0 rfl (jq_at_0 at_X_0) ?_
    refine jq_getR (v := 63) Γ hlY at_X_0 fl_RX10_68 rfl rfl ly_X10_trial dX10_signsBy_26 ?_
    refine jq_cwZ (jq_virt (avs := [jI p1, jI p2, jR 63]) (st := []) Γ hlY rfl ml_RX10_292 rfl (at_com hc5) rfl rfl rfl rfl rfl dX10_signsBy_29) rfl (fun r σ' h => ctX1_swapTwo hc5 row_63 h) (fun v6 s7 hz8 => ?_)
    refine jq_if_ne (tgt := 42) Γ dX10_signsBy_32 rfl ?_ ?_
    · refine jq_aload_n Γ dX10_signsBy_42 rfl 0 rfl (jq_at_0 at_X_0) ?_
      refine jq_aload_n Γ dX10_signsBy_43 rfl 0 rfl (jq_at_0 at_X_0) ?_
      refine jq_getC (C := jq_cm2) Γ hlY at_X_0 fl_RX10_25 rfl rfl ly_now dX10_signsBy_44 (fun c9 hc10q => ?_)
      have hc10 := jq_cm2_com hc10q
      refine jq_aload_n Γ dX10_signsBy_47 rfl 0 rfl (jq_at_0 at_X_0) ?_
      refine jq_getR (v := 63) Γ hlY at_X_0 fl_RX10_68 rfl rfl ly_X10_trial dX10_signsBy_48 ?_
      refine jq_cwI (jq_virt (avs := [jR 63]) (st := [jR 0]) Γ hlY rfl ml_RX10_201 rfl (at_com hc10) rfl rfl rfl rfl rfl dX10_signsBy_51) (fun r σ' h => ctX1_signersOf hc10 row_63 h) (fun v11 s12 => ?_)
      refine jq_cwI (jq_virt (avs := [jI v11]) (st := []) Γ hlY rfl ml_RX10_161 rfl at_X_0 rfl rfl rfl rfl rfl dX10_signsBy_54) (fun r σ' h => ctX10_answer h) (fun v13 s14 => ?_)
      exact jq_ireturn Γ dX10_signsBy_57 (hK0 _)
    · refine jq_aload_n Γ dX10_signsBy_35 rfl 0 rfl (jq_at_0 at_X_0) ?_
      refine jq_bipush Γ dX10_signsBy_36 rfl ?_
      refine jq_cwI (jq_virt (avs := [jI 7]) (st := []) Γ hlY rfl ml_RX10_120 rfl at_X_0 rfl rfl rfl rfl rfl dX10_signsBy_38) (fun r σ' h => ctX10_refuse h) (fun v15 s16 => ?_)
      exact jq_ireturn Γ dX10_signsBy_41 (hK0 _)
  · refine jq_aload_n Γ dX10_signsBy_9 rfl 0 rfl (jq_at_0 at_X_0) ?_
    refine jq_iconst Γ dX10_signsBy_10 rfl ?_
    refine jq_cwI (jq_virt (avs := [jI 1]) (st := []) Γ hlY rfl ml_RX10_120 rfl at_X_0 rfl rfl rfl rfl rfl dX10_signsBy_11) (fun r σ' h => ctX10_refuse h) (fun v17 s18 => ?_)
    exact jq_ireturn Γ dX10_signsBy_14 (hK0 _)


theorem dX10_whyNoGame_0 : decode cX10_whyNoGame 0 = .ok (.aload_n 0, 1) := by decide +kernel
theorem dX10_whyNoGame_1 : decode cX10_whyNoGame 1 = .ok (.iload_n 1, 1) := by decide +kernel
theorem dX10_whyNoGame_2 : decode cX10_whyNoGame 2 = .ok (.iload_n 2, 1) := by decide +kernel
theorem dX10_whyNoGame_3 : decode cX10_whyNoGame 3 = .ok (.invokevirtual 264, 3) := by decide +kernel
theorem dX10_whyNoGame_6 : decode cX10_whyNoGame 6 = .ok (.ifCond .eq 13, 3) := by decide +kernel
theorem dX10_whyNoGame_9 : decode cX10_whyNoGame 9 = .ok (.iload_n 3, 1) := by decide +kernel
theorem dX10_whyNoGame_10 : decode cX10_whyNoGame 10 = .ok (.iload 4, 2) := by decide +kernel
theorem dX10_whyNoGame_12 : decode cX10_whyNoGame 12 = .ok (.iconst 3, 1) := by decide +kernel
theorem dX10_whyNoGame_13 : decode cX10_whyNoGame 13 = .ok (.invokestatic 93, 3) := by decide +kernel
theorem dX10_whyNoGame_16 : decode cX10_whyNoGame 16 = .ok (.ifCond .ne 5, 3) := by decide +kernel
theorem dX10_whyNoGame_19 : decode cX10_whyNoGame 19 = .ok (.iconst 1, 1) := by decide +kernel
theorem dX10_whyNoGame_20 : decode cX10_whyNoGame 20 = .ok (.ireturn, 1) := by decide +kernel
theorem dX10_whyNoGame_21 : decode cX10_whyNoGame 21 = .ok (.aload_n 0, 1) := by decide +kernel
theorem dX10_whyNoGame_22 : decode cX10_whyNoGame 22 = .ok (.getfield 25, 3) := by decide +kernel
theorem dX10_whyNoGame_25 : decode cX10_whyNoGame 25 = .ok (.getfield 194, 3) := by decide +kernel
theorem dX10_whyNoGame_28 : decode cX10_whyNoGame 28 = .ok (.iload_n 1, 1) := by decide +kernel
theorem dX10_whyNoGame_29 : decode cX10_whyNoGame 29 = .ok (.iaload, 1) := by decide +kernel
theorem dX10_whyNoGame_30 : decode cX10_whyNoGame 30 = .ok (.iconst (-1), 1) := by decide +kernel
theorem dX10_whyNoGame_31 : decode cX10_whyNoGame 31 = .ok (.if_icmp .eq 20, 3) := by decide +kernel
theorem dX10_whyNoGame_34 : decode cX10_whyNoGame 34 = .ok (.aload_n 0, 1) := by decide +kernel
theorem dX10_whyNoGame_35 : decode cX10_whyNoGame 35 = .ok (.getfield 25, 3) := by decide +kernel
theorem dX10_whyNoGame_38 : decode cX10_whyNoGame 38 = .ok (.getfield 194, 3) := by decide +kernel
theorem dX10_whyNoGame_41 : decode cX10_whyNoGame 41 = .ok (.iload_n 2, 1) := by decide +kernel
theorem dX10_whyNoGame_42 : decode cX10_whyNoGame 42 = .ok (.iaload, 1) := by decide +kernel
theorem dX10_whyNoGame_43 : decode cX10_whyNoGame 43 = .ok (.iconst (-1), 1) := by decide +kernel
theorem dX10_whyNoGame_44 : decode cX10_whyNoGame 44 = .ok (.if_icmp .eq 7, 3) := by decide +kernel
theorem dX10_whyNoGame_47 : decode cX10_whyNoGame 47 = .ok (.iconst 1, 1) := by decide +kernel
theorem dX10_whyNoGame_48 : decode cX10_whyNoGame 48 = .ok (.goto 4, 3) := by decide +kernel
theorem dX10_whyNoGame_51 : decode cX10_whyNoGame 51 = .ok (.iconst 0, 1) := by decide +kernel
theorem dX10_whyNoGame_52 : decode cX10_whyNoGame 52 = .ok (.istore 5, 2) := by decide +kernel
theorem dX10_whyNoGame_54 : decode cX10_whyNoGame 54 = .ok (.iload 5, 2) := by decide +kernel
theorem dX10_whyNoGame_56 : decode cX10_whyNoGame 56 = .ok (.ifCond .eq 7, 3) := by decide +kernel
theorem dX10_whyNoGame_59 : decode cX10_whyNoGame 59 = .ok (.iconst 0, 1) := by decide +kernel
theorem dX10_whyNoGame_60 : decode cX10_whyNoGame 60 = .ok (.goto 5, 3) := by decide +kernel
theorem dX10_whyNoGame_63 : decode cX10_whyNoGame 63 = .ok (.bipush 7, 2) := by decide +kernel
theorem dX10_whyNoGame_65 : decode cX10_whyNoGame 65 = .ok (.ireturn, 1) := by decide +kernel
set_option maxHeartbeats 4000000 in
set_option maxRecDepth 100000 in
theorem ctX10_whyNoGame {p1 : Int} {p2 : Int} {p3 : Int} {p4 : Int} {σ : jq_M} {res : Int}  (h : X10_whyNoGame p1 p2 p3 p4 σ = some res) : jq_MC jq_zX yX10_whyNoGame cX10_whyNoGame 6 (some .int) 3 83 [jR 0, jI p1, jI p2, jI p3, jI p4] σ (some (jI res)) σ := by
  refine jq_met (own := RX10) (L0 := [(0, jR 0), (1, jI p1), (2, jI p2), (3, jI p3), (4, jI p4)]) (by decide) rfl rfl rfl ?_
  intro X Γ hnl hlY hRT
  refine jq_use2 (P := fun r => jq_RT jq_zX X (some .int) (some (jI r)) σ) ?_ h hRT
  intro K0 hK0
  unfold X10_whyNoGame
  have hj52_0 : ∀ (j8 : Int) (hz9 : j8 = 0 ∨ j8 = 1), jq_J (X10_whyNoGame_j52 σ j8) K0 (jq_V jq_zX X (jq_zN jq_zX) σ 52 [] [jI j8]) := by
    intro j8 hz9
    unfold X10_whyNoGame_j52
    refine jq_istore (L' := [(5, jI j8)]) Γ dX10_whyNoGame_52 hnl rfl rfl ?_
    refine jq_iload Γ dX10_whyNoGame_54 0 rfl ?_
    refine jq_if_eq (tgt := 63) Γ dX10_whyNoGame_56 rfl ?_ ?_
    · refine jq_bipush Γ dX10_whyNoGame_63 rfl ?_
      exact jq_ireturn Γ dX10_whyNoGame_65 (hK0 _)
    · refine jq_iconst Γ dX10_whyNoGame_59 rfl ?_
      refine jq_goto Γ (tgt := 65) dX10_whyNoGame_60 rfl ?_
      exact jq_ireturn Γ dX10_whyNoGame_65 (hK0 _)
  have hj51_0 : jq_J (X10_whyNoGame_j51 σ) K0 (jq_V jq_zX X (jq_zN jq_zX) σ 51 [] []) := by
    unfold X10_whyNoGame_j51
    refine jq_iconst Γ dX10_whyNoGame_51 rfl ?_
    exact hj52_0 0 (Or.inl rfl)
  refine jq_aload_n Γ dX10_whyNoGame_0 rfl 0 rfl (jq_at_0 at_X_0) ?_
  refine jq_iload_n Γ dX10_whyNoGame_1 rfl 1 rfl ?_
  refine jq_iload_n Γ dX10_whyNoGame_2 rfl 2 rfl ?_
  refine jq_cpZ (jq_virt (avs := [jI p1, jI p2]) (st := []) Γ hlY rfl ml_RX10_264 rfl at_X_0 rfl rfl rfl rfl rfl dX10_whyNoGame_3) rfl (fun r h => ctX10_areTwo h) (fun v1 hz2 => ?_)
  refine jq_if_eq (tgt := 19) Γ dX10_whyNoGame_6 rfl ?_ ?_
  · refine jq_iconst Γ dX10_whyNoGame_19 rfl ?_
    exact jq_ireturn Γ dX10_whyNoGame_20 (hK0 _)
  · refine jq_iload_n Γ dX10_whyNoGame_9 rfl 3 rfl ?_
    refine jq_iload Γ dX10_whyNoGame_10 4 rfl ?_
    refine jq_iconst Γ dX10_whyNoGame_12 rfl ?_
    refine jq_cpZ (jq_stat (avs := [jI p3, jI p4, jI 3]) (st := []) Γ hlY rfl ml_RX10_93 rfl rfl rfl rfl rfl dX10_whyNoGame_13) rfl (fun r h => ctX10_within h) (fun v3 hz4 => ?_)
    refine jq_if_ne (tgt := 21) Γ dX10_whyNoGame_16 rfl ?_ ?_
    · refine jq_aload_n Γ dX10_whyNoGame_21 rfl 0 rfl (jq_at_0 at_X_0) ?_
      refine jq_getC (C := jq_cm2) Γ hlY at_X_0 fl_RX10_25 rfl rfl ly_now dX10_whyNoGame_22 (fun c5 hc6q => ?_)
      have hc6 := jq_cm2_com hc6q
      refine jq_getR (v := (c5 + 3)) Γ hlY (at_com hc6) fl_RX10_194 rfl rfl (ly_X1_seats hc6) dX10_whyNoGame_25 ?_
      refine jq_iload_n Γ dX10_whyNoGame_28 rfl 1 rfl ?_
      refine jq_iald Γ (at_com_3 hc6) rfl dX10_whyNoGame_29 (fun v7 => ?_)
      refine jq_iconst Γ dX10_whyNoGame_30 rfl ?_
      refine jq_icmp_eq (tgt := 51) Γ dX10_whyNoGame_31 rfl ?_ ?_
      · refine jq_sub Γ (L' := []) [] rfl ?_
        exact hj51_0
      · refine jq_aload_n Γ dX10_whyNoGame_34 rfl 0 rfl (jq_at_0 at_X_0) ?_
        refine jq_getC (C := jq_cm2) Γ hlY at_X_0 fl_RX10_25 rfl rfl ly_now dX10_whyNoGame_35 (fun c10 hc11q => ?_)
        have hc11 := jq_cm2_com hc11q
        refine jq_getR (v := (c10 + 3)) Γ hlY (at_com hc11) fl_RX10_194 rfl rfl (ly_X1_seats hc11) dX10_whyNoGame_38 ?_
        refine jq_iload_n Γ dX10_whyNoGame_41 rfl 2 rfl ?_
        refine jq_iald Γ (at_com_3 hc11) rfl dX10_whyNoGame_42 (fun v12 => ?_)
        refine jq_iconst Γ dX10_whyNoGame_43 rfl ?_
        refine jq_icmp_eq (tgt := 51) Γ dX10_whyNoGame_44 rfl ?_ ?_
        · refine jq_sub Γ (L' := []) [] rfl ?_
          exact hj51_0
        · refine jq_iconst Γ dX10_whyNoGame_47 rfl ?_
          refine jq_goto Γ (tgt := 52) dX10_whyNoGame_48 rfl ?_
          refine jq_sub Γ (L' := []) [] rfl ?_
          exact hj52_0 1 (Or.inr rfl)
    · refine jq_iconst Γ dX10_whyNoGame_19 rfl ?_
      exact jq_ireturn Γ dX10_whyNoGame_20 (hK0 _)


theorem dX4_shift_0 : decode cX4_shift 0 = .ok (.aload_n 0, 1) := by decide +kernel
theorem dX4_shift_1 : decode cX4_shift 1 = .ok (.iload_n 3, 1) := by decide +kernel
theorem dX4_shift_2 : decode cX4_shift 2 = .ok (.aload_n 1, 1) := by decide +kernel
theorem dX4_shift_3 : decode cX4_shift 3 = .ok (.invokevirtual 38, 3) := by decide +kernel
theorem dX4_shift_6 : decode cX4_shift 6 = .ok (.istore 4, 2) := by decide +kernel
theorem dX4_shift_8 : decode cX4_shift 8 = .ok (.iload 4, 2) := by decide +kernel
theorem dX4_shift_10 : decode cX4_shift 10 = .ok (.iconst (-1), 1) := by decide +kernel
theorem dX4_shift_11 : decode cX4_shift 11 = .ok (.if_icmp .eq 10, 3) := by decide +kernel
theorem dX4_shift_14 : decode cX4_shift 14 = .ok (.aload_n 1, 1) := by decide +kernel
theorem dX4_shift_15 : decode cX4_shift 15 = .ok (.iload 4, 2) := by decide +kernel
theorem dX4_shift_17 : decode cX4_shift 17 = .ok (.aload_n 1, 1) := by decide +kernel
theorem dX4_shift_18 : decode cX4_shift 18 = .ok (.iload_n 2, 1) := by decide +kernel
theorem dX4_shift_19 : decode cX4_shift 19 = .ok (.iaload, 1) := by decide +kernel
theorem dX4_shift_20 : decode cX4_shift 20 = .ok (.iastore, 1) := by decide +kernel
theorem dX4_shift_21 : decode cX4_shift 21 = .ok (.aload_n 1, 1) := by decide +kernel
theorem dX4_shift_22 : decode cX4_shift 22 = .ok (.iload_n 2, 1) := by decide +kernel
theorem dX4_shift_23 : decode cX4_shift 23 = .ok (.iload_n 3, 1) := by decide +kernel
theorem dX4_shift_24 : decode cX4_shift 24 = .ok (.iastore, 1) := by decide +kernel
theorem dX4_shift_25 : decode cX4_shift 25 = .ok (.return_, 1) := by decide +kernel
set_option maxHeartbeats 4000000 in
set_option maxRecDepth 100000 in
theorem ctX4_shift {p0 : Int} {p1 : Int} {p2 : Int} {p3 : Int} {σ : jq_M} {σ' : jq_M} (hp0 : jq_com p0) (hp1 : jq_row p1) (h : X4_shift p0 p1 p2 p3 σ = some σ') : jq_MC jq_zX yX4_shift cX4_shift 5 none 2 63 [jR p0, jR p1, jI p2, jI p3] σ none σ' := by
  refine jq_met (own := RX4) (L0 := [(0, jR p0), (1, jR p1), (2, jI p2), (3, jI p3)]) (by decide) rfl rfl rfl ?_
  intro X Γ hnl hlY hRT
  refine jq_use2 (P := fun r => jq_RT jq_zX X none none r) ?_ h hRT
  intro K0 hK0
  unfold X4_shift
  refine jq_aload_n Γ dX4_shift_0 rfl 0 rfl (jq_at_0 (at_com hp0)) ?_
  refine jq_iload_n Γ dX4_shift_1 rfl 3 rfl ?_
  refine jq_aload_n Γ dX4_shift_2 rfl 1 rfl (jq_at_0 (at_row hp1)) ?_
  refine jq_cpI (jq_virt (avs := [jI p3, jR p1]) (st := []) Γ hlY rfl ml_RX4_38 rfl (at_com hp0) rfl rfl rfl rfl rfl dX4_shift_3) (fun r h => ctX1_sitterAt hp0 hp1 h) (fun v1 => ?_)
  refine jq_istore (L' := [(4, jI v1), (0, jR p0), (1, jR p1), (2, jI p2), (3, jI p3)]) Γ dX4_shift_6 hnl rfl rfl ?_
  refine jq_iload Γ dX4_shift_8 0 rfl ?_
  refine jq_iconst Γ dX4_shift_10 rfl ?_
  refine jq_icmp_eq (tgt := 21) Γ dX4_shift_11 rfl ?_ ?_
  · refine jq_aload_n Γ dX4_shift_21 rfl 2 rfl (jq_at_0 (at_row hp1)) ?_
    refine jq_iload_n Γ dX4_shift_22 rfl 3 rfl ?_
    refine jq_iload_n Γ dX4_shift_23 rfl 4 rfl ?_
    refine jq_iast Γ (at_row hp1) rfl dX4_shift_24 (fun s2 => ?_)
    exact jq_vreturn Γ dX4_shift_25 (hK0 _)
  · refine jq_aload_n Γ dX4_shift_14 rfl 2 rfl (jq_at_0 (at_row hp1)) ?_
    refine jq_iload Γ dX4_shift_15 0 rfl ?_
    refine jq_aload_n Γ dX4_shift_17 rfl 2 rfl (jq_at_0 (at_row hp1)) ?_
    refine jq_iload_n Γ dX4_shift_18 rfl 3 rfl ?_
    refine jq_iald Γ (at_row hp1) rfl dX4_shift_19 (fun v3 => ?_)
    refine jq_iast Γ (at_row hp1) rfl dX4_shift_20 (fun s4 => ?_)
    refine jq_aload_n Γ dX4_shift_21 rfl 2 rfl (jq_at_0 (at_row hp1)) ?_
    refine jq_iload_n Γ dX4_shift_22 rfl 3 rfl ?_
    refine jq_iload_n Γ dX4_shift_23 rfl 4 rfl ?_
    refine jq_iast Γ (at_row hp1) rfl dX4_shift_24 (fun s5 => ?_)
    exact jq_vreturn Γ dX4_shift_25 (hK0 _)


theorem dX4_bestLead_0 : decode cX4_bestLead 0 = .ok (.iload 4, 2) := by decide +kernel
theorem dX4_bestLead_2 : decode cX4_bestLead 2 = .ok (.iconst 1, 1) := by decide +kernel
theorem dX4_bestLead_3 : decode cX4_bestLead 3 = .ok (.if_icmp .lt 9, 3) := by decide +kernel
theorem dX4_bestLead_6 : decode cX4_bestLead 6 = .ok (.iload 4, 2) := by decide +kernel
theorem dX4_bestLead_8 : decode cX4_bestLead 8 = .ok (.iconst 3, 1) := by decide +kernel
theorem dX4_bestLead_9 : decode cX4_bestLead 9 = .ok (.if_icmp .le 17, 3) := by decide +kernel
theorem dX4_bestLead_12 : decode cX4_bestLead 12 = .ok (.aload_n 0, 1) := by decide +kernel
theorem dX4_bestLead_13 : decode cX4_bestLead 13 = .ok (.iload_n 2, 1) := by decide +kernel
theorem dX4_bestLead_14 : decode cX4_bestLead 14 = .ok (.aload_n 1, 1) := by decide +kernel
theorem dX4_bestLead_15 : decode cX4_bestLead 15 = .ok (.invokevirtual 9, 3) := by decide +kernel
theorem dX4_bestLead_18 : decode cX4_bestLead 18 = .ok (.aload_n 0, 1) := by decide +kernel
theorem dX4_bestLead_19 : decode cX4_bestLead 19 = .ok (.iload_n 3, 1) := by decide +kernel
theorem dX4_bestLead_20 : decode cX4_bestLead 20 = .ok (.aload_n 1, 1) := by decide +kernel
theorem dX4_bestLead_21 : decode cX4_bestLead 21 = .ok (.invokevirtual 9, 3) := by decide +kernel
theorem dX4_bestLead_24 : decode cX4_bestLead 24 = .ok (.isub, 1) := by decide +kernel
theorem dX4_bestLead_25 : decode cX4_bestLead 25 = .ok (.ireturn, 1) := by decide +kernel
theorem dX4_bestLead_26 : decode cX4_bestLead 26 = .ok (.iload 5, 2) := by decide +kernel
theorem dX4_bestLead_28 : decode cX4_bestLead 28 = .ok (.ifCond .eq 7, 3) := by decide +kernel
theorem dX4_bestLead_31 : decode cX4_bestLead 31 = .ok (.iload_n 2, 1) := by decide +kernel
theorem dX4_bestLead_32 : decode cX4_bestLead 32 = .ok (.goto 4, 3) := by decide +kernel
theorem dX4_bestLead_35 : decode cX4_bestLead 35 = .ok (.iload_n 3, 1) := by decide +kernel
theorem dX4_bestLead_36 : decode cX4_bestLead 36 = .ok (.istore 6, 2) := by decide +kernel
theorem dX4_bestLead_38 : decode cX4_bestLead 38 = .ok (.aload_n 1, 1) := by decide +kernel
theorem dX4_bestLead_39 : decode cX4_bestLead 39 = .ok (.iload 6, 2) := by decide +kernel
theorem dX4_bestLead_41 : decode cX4_bestLead 41 = .ok (.iaload, 1) := by decide +kernel
theorem dX4_bestLead_42 : decode cX4_bestLead 42 = .ok (.istore 7, 2) := by decide +kernel
theorem dX4_bestLead_44 : decode cX4_bestLead 44 = .ok (.aload_n 0, 1) := by decide +kernel
theorem dX4_bestLead_45 : decode cX4_bestLead 45 = .ok (.aload_n 1, 1) := by decide +kernel
theorem dX4_bestLead_46 : decode cX4_bestLead 46 = .ok (.iload_n 2, 1) := by decide +kernel
theorem dX4_bestLead_47 : decode cX4_bestLead 47 = .ok (.iload_n 3, 1) := by decide +kernel
theorem dX4_bestLead_48 : decode cX4_bestLead 48 = .ok (.iload 4, 2) := by decide +kernel
theorem dX4_bestLead_50 : decode cX4_bestLead 50 = .ok (.iconst 1, 1) := by decide +kernel
theorem dX4_bestLead_51 : decode cX4_bestLead 51 = .ok (.isub, 1) := by decide +kernel
theorem dX4_bestLead_52 : decode cX4_bestLead 52 = .ok (.iload 5, 2) := by decide +kernel
theorem dX4_bestLead_54 : decode cX4_bestLead 54 = .ok (.ifCond .ne 7, 3) := by decide +kernel
theorem dX4_bestLead_57 : decode cX4_bestLead 57 = .ok (.iconst 1, 1) := by decide +kernel
theorem dX4_bestLead_58 : decode cX4_bestLead 58 = .ok (.goto 4, 3) := by decide +kernel
theorem dX4_bestLead_61 : decode cX4_bestLead 61 = .ok (.iconst 0, 1) := by decide +kernel
theorem dX4_bestLead_62 : decode cX4_bestLead 62 = .ok (.invokestatic 15, 3) := by decide +kernel
theorem dX4_bestLead_65 : decode cX4_bestLead 65 = .ok (.istore 8, 2) := by decide +kernel
theorem dX4_bestLead_67 : decode cX4_bestLead 67 = .ok (.iconst 0, 1) := by decide +kernel
theorem dX4_bestLead_68 : decode cX4_bestLead 68 = .ok (.istore 9, 2) := by decide +kernel
theorem dX4_bestLead_70 : decode cX4_bestLead 70 = .ok (.iload 9, 2) := by decide +kernel
theorem dX4_bestLead_72 : decode cX4_bestLead 72 = .ok (.aload_n 0, 1) := by decide +kernel
theorem dX4_bestLead_73 : decode cX4_bestLead 73 = .ok (.getfield 21, 3) := by decide +kernel
theorem dX4_bestLead_76 : decode cX4_bestLead 76 = .ok (.if_icmp .ge 81, 3) := by decide +kernel
theorem dX4_bestLead_79 : decode cX4_bestLead 79 = .ok (.iload 9, 2) := by decide +kernel
theorem dX4_bestLead_81 : decode cX4_bestLead 81 = .ok (.iload 7, 2) := by decide +kernel
theorem dX4_bestLead_83 : decode cX4_bestLead 83 = .ok (.if_icmp .eq 68, 3) := by decide +kernel
theorem dX4_bestLead_86 : decode cX4_bestLead 86 = .ok (.aload_n 0, 1) := by decide +kernel
theorem dX4_bestLead_87 : decode cX4_bestLead 87 = .ok (.aload_n 1, 1) := by decide +kernel
theorem dX4_bestLead_88 : decode cX4_bestLead 88 = .ok (.iload 6, 2) := by decide +kernel
theorem dX4_bestLead_90 : decode cX4_bestLead 90 = .ok (.iload 9, 2) := by decide +kernel
theorem dX4_bestLead_92 : decode cX4_bestLead 92 = .ok (.invokestatic 25, 3) := by decide +kernel
theorem dX4_bestLead_95 : decode cX4_bestLead 95 = .ok (.aload_n 0, 1) := by decide +kernel
theorem dX4_bestLead_96 : decode cX4_bestLead 96 = .ok (.aload_n 1, 1) := by decide +kernel
theorem dX4_bestLead_97 : decode cX4_bestLead 97 = .ok (.iload_n 2, 1) := by decide +kernel
theorem dX4_bestLead_98 : decode cX4_bestLead 98 = .ok (.iload_n 3, 1) := by decide +kernel
theorem dX4_bestLead_99 : decode cX4_bestLead 99 = .ok (.iload 4, 2) := by decide +kernel
theorem dX4_bestLead_101 : decode cX4_bestLead 101 = .ok (.iconst 1, 1) := by decide +kernel
theorem dX4_bestLead_102 : decode cX4_bestLead 102 = .ok (.isub, 1) := by decide +kernel
theorem dX4_bestLead_103 : decode cX4_bestLead 103 = .ok (.iload 5, 2) := by decide +kernel
theorem dX4_bestLead_105 : decode cX4_bestLead 105 = .ok (.ifCond .ne 7, 3) := by decide +kernel
theorem dX4_bestLead_108 : decode cX4_bestLead 108 = .ok (.iconst 1, 1) := by decide +kernel
theorem dX4_bestLead_109 : decode cX4_bestLead 109 = .ok (.goto 4, 3) := by decide +kernel
theorem dX4_bestLead_112 : decode cX4_bestLead 112 = .ok (.iconst 0, 1) := by decide +kernel
theorem dX4_bestLead_113 : decode cX4_bestLead 113 = .ok (.invokestatic 15, 3) := by decide +kernel
theorem dX4_bestLead_116 : decode cX4_bestLead 116 = .ok (.istore 10, 2) := by decide +kernel
theorem dX4_bestLead_118 : decode cX4_bestLead 118 = .ok (.aload_n 0, 1) := by decide +kernel
theorem dX4_bestLead_119 : decode cX4_bestLead 119 = .ok (.aload_n 1, 1) := by decide +kernel
theorem dX4_bestLead_120 : decode cX4_bestLead 120 = .ok (.iload 6, 2) := by decide +kernel
theorem dX4_bestLead_122 : decode cX4_bestLead 122 = .ok (.iload 7, 2) := by decide +kernel
theorem dX4_bestLead_124 : decode cX4_bestLead 124 = .ok (.invokestatic 25, 3) := by decide +kernel
theorem dX4_bestLead_127 : decode cX4_bestLead 127 = .ok (.iload 5, 2) := by decide +kernel
theorem dX4_bestLead_129 : decode cX4_bestLead 129 = .ok (.ifCond .eq 13, 3) := by decide +kernel
theorem dX4_bestLead_132 : decode cX4_bestLead 132 = .ok (.iload 8, 2) := by decide +kernel
theorem dX4_bestLead_134 : decode cX4_bestLead 134 = .ok (.iload 10, 2) := by decide +kernel
theorem dX4_bestLead_136 : decode cX4_bestLead 136 = .ok (.invokestatic 29, 3) := by decide +kernel
theorem dX4_bestLead_139 : decode cX4_bestLead 139 = .ok (.goto 10, 3) := by decide +kernel
theorem dX4_bestLead_142 : decode cX4_bestLead 142 = .ok (.iload 8, 2) := by decide +kernel
theorem dX4_bestLead_144 : decode cX4_bestLead 144 = .ok (.iload 10, 2) := by decide +kernel
theorem dX4_bestLead_146 : decode cX4_bestLead 146 = .ok (.invokestatic 35, 3) := by decide +kernel
theorem dX4_bestLead_149 : decode cX4_bestLead 149 = .ok (.istore 8, 2) := by decide +kernel
theorem dX4_bestLead_151 : decode cX4_bestLead 151 = .ok (.iinc 9 1, 3) := by decide +kernel
theorem dX4_bestLead_154 : decode cX4_bestLead 154 = .ok (.goto (-84), 3) := by decide +kernel
theorem dX4_bestLead_157 : decode cX4_bestLead 157 = .ok (.iload 8, 2) := by decide +kernel
theorem dX4_bestLead_159 : decode cX4_bestLead 159 = .ok (.ireturn, 1) := by decide +kernel
set_option maxHeartbeats 4000000 in
set_option maxRecDepth 100000 in
theorem ctX4_bestLead : ∀ (dp : Nat) {p0 : Int} {p1 : Int} {p2 : Int} {p3 : Int} {p4 : Int} {p5 : Int} {σ : jq_M} {res : Int} {σ' : jq_M}, jq_com p0 → jq_row p1 → X4_bestLead dp p0 p1 p2 p3 p4 p5 σ = some (res, σ') → jq_MC jq_zX yX4_bestLead cX4_bestLead 11 (some .int) (4 + dp) (111 + dp * 30) [jR p0, jR p1, jI p2, jI p3, jI p4, jI p5] σ (some (jI res)) σ' := by
  intro dp
  induction dp with
  | zero => intro p0 p1 p2 p3 p4 p5 σ res σ' hp0 hp1 h; cases h
  | succ dp ih =>
  intro p0 p1 p2 p3 p4 p5 σ res σ' hp0 hp1 h
  unfold X4_bestLead at h
  refine jq_met (own := RX4) (L0 := [(0, jR p0), (1, jR p1), (2, jI p2), (3, jI p3), (4, jI p4), (5, jI p5)]) (by decide) rfl rfl rfl ?_
  intro X Γ hnl hlY hRT
  refine jq_use2 (P := fun r => jq_RT jq_zX X (some .int) (some (jI r.1)) r.2) ?_ h hRT
  intro K0 hK0
  have hj12_0 : ∀ (s1 : jq_M), jq_J (X4_bestLead_j12 p0 p1 p2 p3 s1) K0 (jq_V jq_zX X (jq_zN jq_zX) s1 12 [(0, jR p0), (1, jR p1), (2, jI p2), (3, jI p3)] []) := by
    intro s1
    unfold X4_bestLead_j12
    refine jq_aload_n Γ dX4_bestLead_12 rfl 0 rfl (jq_at_0 (at_com hp0)) ?_
    refine jq_iload_n Γ dX4_bestLead_13 rfl 2 rfl ?_
    refine jq_aload_n Γ dX4_bestLead_14 rfl 1 rfl (jq_at_0 (at_row hp1)) ?_
    refine jq_cpI (jq_virt (avs := [jI p2, jR p1]) (st := []) Γ hlY rfl ml_RX4_9 rfl (at_com hp0) rfl rfl (by simp only [Nat.ble_eq]; omega) (by simp only [Nat.ble_eq]; omega) rfl dX4_bestLead_15) (fun r h => ctX1_worthTo hp0 hp1 h) (fun v2 => ?_)
    refine jq_aload_n Γ dX4_bestLead_18 rfl 0 rfl (jq_at_0 (at_com hp0)) ?_
    refine jq_iload_n Γ dX4_bestLead_19 rfl 3 rfl ?_
    refine jq_aload_n Γ dX4_bestLead_20 rfl 1 rfl (jq_at_0 (at_row hp1)) ?_
    refine jq_cpI (jq_virt (avs := [jI p3, jR p1]) (st := [jI v2]) Γ hlY rfl ml_RX4_9 rfl (at_com hp0) rfl rfl (by simp only [Nat.ble_eq]; omega) (by simp only [Nat.ble_eq]; omega) rfl dX4_bestLead_21) (fun r h => ctX1_worthTo hp0 hp1 h) (fun v3 => ?_)
    refine jq_isub Γ dX4_bestLead_24 ?_
    exact jq_ireturn Γ dX4_bestLead_25 (hK0 _)
  have hj62_0 : ∀ (j7 : Int) (j8 : Int) (j9 : Int) (j10 : Int) (j11 : Int) (j12 : Int) (s14 : jq_M) (hz13 : j12 = 0 ∨ j12 = 1), jq_J (X4_bestLead_j62 p0 p1 p2 p3 p4 p5 (X4_bestLead dp) j7 j8 j9 j10 j11 j12 s14) K0 (jq_V jq_zX X (jq_zN jq_zX) s14 62 [(0, jR p0), (1, jR p1), (2, jI p2), (3, jI p3), (4, jI p4), (5, jI p5), (6, jI j7), (7, jI j8)] [jI j12, jI j11, jI j10, jI j9, jR p1, jR p0]) := by
    intro j7 j8 j9 j10 j11 j12 s14 hz13
    unfold X4_bestLead_j62
    refine jq_cwI (jq_stat (avs := [jR p0, jR p1, jI j9, jI j10, jI j11, jI j12]) (st := []) Γ hlY rfl ml_RX4_15 rfl rfl (by simp only [Nat.ble_eq]; omega) (by simp only [Nat.ble_eq]; omega) rfl dX4_bestLead_62) (fun r σ' h => ih hp0 hp1 h) (fun v15 s16 => ?_)
    refine jq_istore (L' := [(8, jI v15), (0, jR p0), (1, jR p1), (2, jI p2), (3, jI p3), (4, jI p4), (5, jI p5), (6, jI j7), (7, jI j8)]) Γ dX4_bestLead_65 hnl rfl rfl ?_
    refine jq_iconst Γ dX4_bestLead_67 rfl ?_
    refine jq_istore (L' := [(9, jI 0), (8, jI v15), (0, jR p0), (1, jR p1), (2, jI p2), (3, jI p3), (4, jI p4), (5, jI p5), (6, jI j7), (7, jI j8)]) Γ dX4_bestLead_68 hnl rfl rfl ?_
    refine jq_sub Γ (L' := [(0, jR p0), (1, jR p1), (2, jI p2), (3, jI p3), (4, jI p4), (5, jI p5), (6, jI j7), (7, jI j8), (8, jI v15), (9, jI 0)]) [2, 3, 4, 5, 6, 7, 8, 9, 1, 0] rfl ?_
    refine jq_loop2 (C := fun (t17 : Int × Int × jq_M) => jq_V jq_zX X (jq_zN jq_zX) t17.2.2 70 [(0, jR p0), (1, jR p1), (2, jI p2), (3, jI p3), (4, jI p4), (5, jI p5), (6, jI j7), (7, jI j8), (8, jI t17.1), (9, jI t17.2.1)] []) (KX := fun (e35 : Int × jq_M) => jq_V jq_zX X (jq_zN jq_zX) e35.2 157 [(8, jI e35.1)] []) ?_ ?_ (v15, 0, s16)
    · intro K70_t17 hCt17 hXt17 t17
      unfold X4_bestLead_b70
      have hj113_1045 : ∀ (j20 : Int) (j21 : Int) (j22 : Int) (j23 : Int) (j24 : Int) (j25 : Int) (s27 : jq_M) (hz26 : j25 = 0 ∨ j25 = 1), jq_J (X4_bestLead_j113 p0 p1 p2 p3 p4 p5 (X4_bestLead dp) j7 j8 j20 j21 j22 j23 j24 j25 s27) K70_t17 (jq_V jq_zX X (jq_zN jq_zX) s27 113 [(0, jR p0), (1, jR p1), (2, jI p2), (3, jI p3), (4, jI p4), (5, jI p5), (6, jI j7), (7, jI j8), (8, jI j20), (9, jI j21)] [jI j25, jI j24, jI j23, jI j22, jR p1, jR p0]) := by
        intro j20 j21 j22 j23 j24 j25 s27 hz26
        unfold X4_bestLead_j113
        refine jq_cwI (jq_stat (avs := [jR p0, jR p1, jI j22, jI j23, jI j24, jI j25]) (st := []) Γ hlY rfl ml_RX4_15 rfl rfl (by simp only [Nat.ble_eq]; omega) (by simp only [Nat.ble_eq]; omega) rfl dX4_bestLead_113) (fun r σ' h => ih hp0 hp1 h) (fun v28 s29 => ?_)
        refine jq_istore (L' := [(10, jI v28), (0, jR p0), (1, jR p1), (2, jI p2), (3, jI p3), (4, jI p4), (5, jI p5), (6, jI j7), (7, jI j8), (8, jI j20), (9, jI j21)]) Γ dX4_bestLead_116 hnl rfl rfl ?_
        refine jq_aload_n Γ dX4_bestLead_118 rfl 1 rfl (jq_at_0 (at_com hp0)) ?_
        refine jq_aload_n Γ dX4_bestLead_119 rfl 2 rfl (jq_at_0 (at_row hp1)) ?_
        refine jq_iload Γ dX4_bestLead_120 7 rfl ?_
        refine jq_iload Γ dX4_bestLead_122 8 rfl ?_
        refine jq_cwV (jq_stat (avs := [jR p0, jR p1, jI j7, jI j8]) (st := []) Γ hlY rfl ml_RX4_25 rfl rfl (by simp only [Nat.ble_eq]; omega) (by simp only [Nat.ble_eq]; omega) rfl dX4_bestLead_124) (fun σ' h => ctX4_shift hp0 hp1 h) (fun s30 => ?_)
        refine jq_iload Γ dX4_bestLead_127 6 rfl ?_
        refine jq_if_eq (tgt := 142) Γ dX4_bestLead_129 rfl ?_ ?_
        · refine jq_iload Γ dX4_bestLead_142 9 rfl ?_
          refine jq_iload Γ dX4_bestLead_144 0 rfl ?_
          refine jq_mmin Γ mw_RX4_35 mws_min mwi mwc_min rfl (by show Nat.ble 13 _ = true; simp only [Nat.ble_eq]; omega) dX4_bestLead_146 ?_
          refine jq_nmI (fun v31 => ?_)
          refine jq_istore (L' := [(8, jI v31), (10, jI v28), (0, jR p0), (1, jR p1), (2, jI p2), (3, jI p3), (4, jI p4), (5, jI p5), (6, jI j7), (7, jI j8), (9, jI j21)]) Γ dX4_bestLead_149 hnl rfl rfl ?_
          refine jq_iincN (L' := fun v32 => [(9, jI v32), (8, jI v31), (10, jI v28), (0, jR p0), (1, jR p1), (2, jI p2), (3, jI p3), (4, jI p4), (5, jI p5), (6, jI j7), (7, jI j8)]) Γ dX4_bestLead_151 10 rfl hnl rfl (fun _ => rfl) (fun v32 => ?_)
          refine jq_goto Γ (tgt := 70) dX4_bestLead_154 rfl ?_
          refine jq_sub Γ (L' := [(0, jR p0), (1, jR p1), (2, jI p2), (3, jI p3), (4, jI p4), (5, jI p5), (6, jI j7), (7, jI j8), (8, jI v31), (9, jI v32)]) [3, 4, 5, 6, 7, 8, 9, 10, 1, 0] rfl ?_
          exact jq_done (hCt17 (v31, v32, s30))
        · refine jq_iload Γ dX4_bestLead_132 9 rfl ?_
          refine jq_iload Γ dX4_bestLead_134 0 rfl ?_
          refine jq_mmax Γ mw_RX4_29 mws_max mwi mwc_max rfl (by show Nat.ble 13 _ = true; simp only [Nat.ble_eq]; omega) dX4_bestLead_136 ?_
          refine jq_goto Γ (tgt := 149) dX4_bestLead_139 rfl ?_
          refine jq_nmI (fun v33 => ?_)
          refine jq_istore (L' := [(8, jI v33), (10, jI v28), (0, jR p0), (1, jR p1), (2, jI p2), (3, jI p3), (4, jI p4), (5, jI p5), (6, jI j7), (7, jI j8), (9, jI j21)]) Γ dX4_bestLead_149 hnl rfl rfl ?_
          refine jq_iincN (L' := fun v34 => [(9, jI v34), (8, jI v33), (10, jI v28), (0, jR p0), (1, jR p1), (2, jI p2), (3, jI p3), (4, jI p4), (5, jI p5), (6, jI j7), (7, jI j8)]) Γ dX4_bestLead_151 10 rfl hnl rfl (fun _ => rfl) (fun v34 => ?_)
          refine jq_goto Γ (tgt := 70) dX4_bestLead_154 rfl ?_
          refine jq_sub Γ (L' := [(0, jR p0), (1, jR p1), (2, jI p2), (3, jI p3), (4, jI p4), (5, jI p5), (6, jI j7), (7, jI j8), (8, jI v33), (9, jI v34)]) [3, 4, 5, 6, 7, 8, 9, 10, 1, 0] rfl ?_
          exact jq_done (hCt17 (v33, v34, s30))
      refine jq_iload Γ dX4_bestLead_70 9 rfl ?_
      refine jq_aload_n Γ dX4_bestLead_72 rfl 0 rfl (jq_at_0 (at_com hp0)) ?_
      refine jq_getI (J := 0) Γ (at_com hp0) fl_RX4_21 rfl rfl dX4_bestLead_73 ?_
      refine jq_icmp_ge (tgt := 157) Γ dX4_bestLead_76 rfl ?_ ?_
      · refine jq_sub Γ (L' := [(8, jI t17.1)]) [8] rfl ?_
        exact jq_done (hXt17 (t17.1, t17.2.2))
      · refine jq_iload Γ dX4_bestLead_79 9 rfl ?_
        refine jq_iload Γ dX4_bestLead_81 7 rfl ?_
        refine jq_icmp_eq (tgt := 151) Γ dX4_bestLead_83 rfl ?_ ?_
        · refine jq_iincN (L' := fun v18 => [(9, jI v18), (0, jR p0), (1, jR p1), (2, jI p2), (3, jI p3), (4, jI p4), (5, jI p5), (6, jI j7), (7, jI j8), (8, jI t17.1)]) Γ dX4_bestLead_151 9 rfl hnl rfl (fun _ => rfl) (fun v18 => ?_)
          refine jq_goto Γ (tgt := 70) dX4_bestLead_154 rfl ?_
          refine jq_sub Γ (L' := [(0, jR p0), (1, jR p1), (2, jI p2), (3, jI p3), (4, jI p4), (5, jI p5), (6, jI j7), (7, jI j8), (8, jI t17.1), (9, jI v18)]) [1, 2, 3, 4, 5, 6, 7, 8, 9, 0] rfl ?_
          exact jq_done (hCt17 (t17.1, v18, t17.2.2))
        · refine jq_aload_n Γ dX4_bestLead_86 rfl 0 rfl (jq_at_0 (at_com hp0)) ?_
          refine jq_aload_n Γ dX4_bestLead_87 rfl 1 rfl (jq_at_0 (at_row hp1)) ?_
          refine jq_iload Γ dX4_bestLead_88 6 rfl ?_
          refine jq_iload Γ dX4_bestLead_90 9 rfl ?_
          refine jq_cwV (jq_stat (avs := [jR p0, jR p1, jI j7, jI t17.2.1]) (st := []) Γ hlY rfl ml_RX4_25 rfl rfl (by simp only [Nat.ble_eq]; omega) (by simp only [Nat.ble_eq]; omega) rfl dX4_bestLead_92) (fun σ' h => ctX4_shift hp0 hp1 h) (fun s19 => ?_)
          refine jq_aload_n Γ dX4_bestLead_95 rfl 0 rfl (jq_at_0 (at_com hp0)) ?_
          refine jq_aload_n Γ dX4_bestLead_96 rfl 1 rfl (jq_at_0 (at_row hp1)) ?_
          refine jq_iload_n Γ dX4_bestLead_97 rfl 2 rfl ?_
          refine jq_iload_n Γ dX4_bestLead_98 rfl 3 rfl ?_
          refine jq_iload Γ dX4_bestLead_99 4 rfl ?_
          refine jq_iconst Γ dX4_bestLead_101 rfl ?_
          refine jq_isub Γ dX4_bestLead_102 ?_
          refine jq_iload Γ dX4_bestLead_103 5 rfl ?_
          refine jq_if_ne (tgt := 112) Γ dX4_bestLead_105 rfl ?_ ?_
          · refine jq_iconst Γ dX4_bestLead_112 rfl ?_
            exact hj113_1045 t17.1 t17.2.1 p2 p3 (jq_w (p4 - 1)) 0 s19 (Or.inl rfl)
          · refine jq_iconst Γ dX4_bestLead_108 rfl ?_
            refine jq_goto Γ (tgt := 113) dX4_bestLead_109 rfl ?_
            exact hj113_1045 t17.1 t17.2.1 p2 p3 (jq_w (p4 - 1)) 1 s19 (Or.inr rfl)
    · intro e35
      refine jq_iload Γ dX4_bestLead_157 0 rfl ?_
      exact jq_ireturn Γ dX4_bestLead_159 (hK0 _)
  have hj36_0 : ∀ (j4 : Int) (s5 : jq_M), jq_J (X4_bestLead_j36 p0 p1 p2 p3 p4 p5 (X4_bestLead dp) j4 s5) K0 (jq_V jq_zX X (jq_zN jq_zX) s5 36 [(0, jR p0), (1, jR p1), (2, jI p2), (3, jI p3), (4, jI p4), (5, jI p5)] [jI j4]) := by
    intro j4 s5
    unfold X4_bestLead_j36
    refine jq_istore (L' := [(6, jI j4), (0, jR p0), (1, jR p1), (2, jI p2), (3, jI p3), (4, jI p4), (5, jI p5)]) Γ dX4_bestLead_36 hnl rfl rfl ?_
    refine jq_aload_n Γ dX4_bestLead_38 rfl 2 rfl (jq_at_0 (at_row hp1)) ?_
    refine jq_iload Γ dX4_bestLead_39 0 rfl ?_
    refine jq_iald Γ (at_row hp1) rfl dX4_bestLead_41 (fun v6 => ?_)
    refine jq_istore (L' := [(7, jI v6), (6, jI j4), (0, jR p0), (1, jR p1), (2, jI p2), (3, jI p3), (4, jI p4), (5, jI p5)]) Γ dX4_bestLead_42 hnl rfl rfl ?_
    refine jq_aload_n Γ dX4_bestLead_44 rfl 2 rfl (jq_at_0 (at_com hp0)) ?_
    refine jq_aload_n Γ dX4_bestLead_45 rfl 3 rfl (jq_at_0 (at_row hp1)) ?_
    refine jq_iload_n Γ dX4_bestLead_46 rfl 4 rfl ?_
    refine jq_iload_n Γ dX4_bestLead_47 rfl 5 rfl ?_
    refine jq_iload Γ dX4_bestLead_48 6 rfl ?_
    refine jq_iconst Γ dX4_bestLead_50 rfl ?_
    refine jq_isub Γ dX4_bestLead_51 ?_
    refine jq_iload Γ dX4_bestLead_52 7 rfl ?_
    refine jq_if_ne (tgt := 61) Γ dX4_bestLead_54 rfl ?_ ?_
    · refine jq_iconst Γ dX4_bestLead_61 rfl ?_
      refine jq_sub Γ (L' := [(0, jR p0), (1, jR p1), (2, jI p2), (3, jI p3), (4, jI p4), (5, jI p5), (6, jI j4), (7, jI v6)]) [2, 3, 4, 5, 6, 7, 1, 0] rfl ?_
      exact hj62_0 j4 v6 p2 p3 (jq_w (p4 - 1)) 0 s5 (Or.inl rfl)
    · refine jq_iconst Γ dX4_bestLead_57 rfl ?_
      refine jq_goto Γ (tgt := 62) dX4_bestLead_58 rfl ?_
      refine jq_sub Γ (L' := [(0, jR p0), (1, jR p1), (2, jI p2), (3, jI p3), (4, jI p4), (5, jI p5), (6, jI j4), (7, jI v6)]) [2, 3, 4, 5, 6, 7, 1, 0] rfl ?_
      exact hj62_0 j4 v6 p2 p3 (jq_w (p4 - 1)) 1 s5 (Or.inr rfl)
  refine jq_iload Γ dX4_bestLead_0 4 rfl ?_
  refine jq_iconst Γ dX4_bestLead_2 rfl ?_
  refine jq_icmp_lt (tgt := 12) Γ dX4_bestLead_3 rfl ?_ ?_
  · refine jq_sub Γ (L' := [(0, jR p0), (1, jR p1), (2, jI p2), (3, jI p3)]) [0, 1, 2, 3] rfl ?_
    exact hj12_0 σ
  · refine jq_iload Γ dX4_bestLead_6 4 rfl ?_
    refine jq_iconst Γ dX4_bestLead_8 rfl ?_
    refine jq_icmp_le (tgt := 26) Γ dX4_bestLead_9 rfl ?_ ?_
    · refine jq_iload Γ dX4_bestLead_26 5 rfl ?_
      refine jq_if_eq (tgt := 35) Γ dX4_bestLead_28 rfl ?_ ?_
      · refine jq_iload_n Γ dX4_bestLead_35 rfl 3 rfl ?_
        exact hj36_0 p3 σ
      · refine jq_iload_n Γ dX4_bestLead_31 rfl 2 rfl ?_
        refine jq_goto Γ (tgt := 36) dX4_bestLead_32 rfl ?_
        exact hj36_0 p2 σ
    · refine jq_sub Γ (L' := [(0, jR p0), (1, jR p1), (2, jI p2), (3, jI p3)]) [0, 1, 2, 3] rfl ?_
      exact hj12_0 σ


theorem dX10_game_0 : decode cX10_game 0 = .ok (.aload_n 0, 1) := by decide +kernel
theorem dX10_game_1 : decode cX10_game 1 = .ok (.iload_n 1, 1) := by decide +kernel
theorem dX10_game_2 : decode cX10_game 2 = .ok (.iload_n 2, 1) := by decide +kernel
theorem dX10_game_3 : decode cX10_game 3 = .ok (.iload_n 3, 1) := by decide +kernel
theorem dX10_game_4 : decode cX10_game 4 = .ok (.iconst 0, 1) := by decide +kernel
theorem dX10_game_5 : decode cX10_game 5 = .ok (.invokevirtual 371, 3) := by decide +kernel
theorem dX10_game_8 : decode cX10_game 8 = .ok (.istore 4, 2) := by decide +kernel
theorem dX10_game_10 : decode cX10_game 10 = .ok (.iload 4, 2) := by decide +kernel
theorem dX10_game_12 : decode cX10_game 12 = .ok (.ifCond .eq 10, 3) := by decide +kernel
theorem dX10_game_15 : decode cX10_game 15 = .ok (.aload_n 0, 1) := by decide +kernel
theorem dX10_game_16 : decode cX10_game 16 = .ok (.iload 4, 2) := by decide +kernel
theorem dX10_game_18 : decode cX10_game 18 = .ok (.invokevirtual 120, 3) := by decide +kernel
theorem dX10_game_21 : decode cX10_game 21 = .ok (.ireturn, 1) := by decide +kernel
theorem dX10_game_22 : decode cX10_game 22 = .ok (.aload_n 0, 1) := by decide +kernel
theorem dX10_game_23 : decode cX10_game 23 = .ok (.invokevirtual 368, 3) := by decide +kernel
theorem dX10_game_26 : decode cX10_game 26 = .ok (.aload_n 0, 1) := by decide +kernel
theorem dX10_game_27 : decode cX10_game 27 = .ok (.aload_n 0, 1) := by decide +kernel
theorem dX10_game_28 : decode cX10_game 28 = .ok (.getfield 25, 3) := by decide +kernel
theorem dX10_game_31 : decode cX10_game 31 = .ok (.aload_n 0, 1) := by decide +kernel
theorem dX10_game_32 : decode cX10_game 32 = .ok (.getfield 68, 3) := by decide +kernel
theorem dX10_game_35 : decode cX10_game 35 = .ok (.iload_n 1, 1) := by decide +kernel
theorem dX10_game_36 : decode cX10_game 36 = .ok (.iload_n 2, 1) := by decide +kernel
theorem dX10_game_37 : decode cX10_game 37 = .ok (.iload_n 3, 1) := by decide +kernel
theorem dX10_game_38 : decode cX10_game 38 = .ok (.iconst 1, 1) := by decide +kernel
theorem dX10_game_39 : decode cX10_game 39 = .ok (.invokestatic 375, 3) := by decide +kernel
theorem dX10_game_42 : decode cX10_game 42 = .ok (.invokevirtual 161, 3) := by decide +kernel
theorem dX10_game_45 : decode cX10_game 45 = .ok (.ireturn, 1) := by decide +kernel
set_option maxHeartbeats 4000000 in
set_option maxRecDepth 100000 in
theorem ctX10_game {p1 : Int} {p2 : Int} {p3 : Int} {σ : jq_M} {res : Int} {σ' : jq_M}  (h : X10_game p1 p2 p3 σ = some (res, σ')) : jq_MC jq_zX yX10_game cX10_game 5 (some .int) 13 381 [jR 0, jI p1, jI p2, jI p3] σ (some (jI res)) σ' := by
  refine jq_met (own := RX10) (L0 := [(0, jR 0), (1, jI p1), (2, jI p2), (3, jI p3)]) (by decide) rfl rfl rfl ?_
  intro X Γ hnl hlY hRT
  refine jq_use2 (P := fun r => jq_RT jq_zX X (some .int) (some (jI r.1)) r.2) ?_ h hRT
  intro K0 hK0
  unfold X10_game
  refine jq_aload_n Γ dX10_game_0 rfl 0 rfl (jq_at_0 at_X_0) ?_
  refine jq_iload_n Γ dX10_game_1 rfl 1 rfl ?_
  refine jq_iload_n Γ dX10_game_2 rfl 2 rfl ?_
  refine jq_iload_n Γ dX10_game_3 rfl 3 rfl ?_
  refine jq_iconst Γ dX10_game_4 rfl ?_
  refine jq_cpI (jq_virt (avs := [jI p1, jI p2, jI p3, jI 0]) (st := []) Γ hlY rfl ml_RX10_371 rfl at_X_0 rfl rfl rfl rfl rfl dX10_game_5) (fun r h => ctX10_whyNoGame h) (fun v1 => ?_)
  refine jq_istore (L' := [(4, jI v1), (0, jR 0), (1, jI p1), (2, jI p2), (3, jI p3)]) Γ dX10_game_8 hnl rfl rfl ?_
  refine jq_iload Γ dX10_game_10 0 rfl ?_
  refine jq_if_eq (tgt := 22) Γ dX10_game_12 rfl ?_ ?_
  · refine jq_aload_n Γ dX10_game_22 rfl 1 rfl (jq_at_0 at_X_0) ?_
    refine jq_cwV (jq_virt (avs := []) (st := []) Γ hlY rfl ml_RX10_368 rfl at_X_0 rfl rfl rfl rfl rfl dX10_game_23) (fun σ' h => ctX10_layTrial h) (fun s2 => ?_)
    refine jq_aload_n Γ dX10_game_26 rfl 1 rfl (jq_at_0 at_X_0) ?_
    refine jq_aload_n Γ dX10_game_27 rfl 1 rfl (jq_at_0 at_X_0) ?_
    refine jq_getC (C := jq_cm2) Γ hlY at_X_0 fl_RX10_25 rfl rfl ly_now dX10_game_28 (fun c3 hc4q => ?_)
    have hc4 := jq_cm2_com hc4q
    refine jq_aload_n Γ dX10_game_31 rfl 1 rfl (jq_at_0 at_X_0) ?_
    refine jq_getR (v := 63) Γ hlY at_X_0 fl_RX10_68 rfl rfl ly_X10_trial dX10_game_32 ?_
    refine jq_iload_n Γ dX10_game_35 rfl 2 rfl ?_
    refine jq_iload_n Γ dX10_game_36 rfl 3 rfl ?_
    refine jq_iload_n Γ dX10_game_37 rfl 4 rfl ?_
    refine jq_iconst Γ dX10_game_38 rfl ?_
    refine jq_cwI (jq_nest (avs := [jR c3, jR 63, jI p1, jI p2, jI p3, jI 1]) (st := [jR 0]) Γ hlY rfl ml_RX10_375 rfl rfl rfl rfl rfl dX10_game_39) (fun r σ' h => ctX4_bestLead 8 hc4 row_63 h) (fun v5 s6 => ?_)
    refine jq_cwI (jq_virt (avs := [jI v5]) (st := []) Γ hlY rfl ml_RX10_161 rfl at_X_0 rfl rfl rfl rfl rfl dX10_game_42) (fun r σ' h => ctX10_answer h) (fun v7 s8 => ?_)
    exact jq_ireturn Γ dX10_game_45 (hK0 _)
  · refine jq_aload_n Γ dX10_game_15 rfl 1 rfl (jq_at_0 at_X_0) ?_
    refine jq_iload Γ dX10_game_16 0 rfl ?_
    refine jq_cwI (jq_virt (avs := [jI v1]) (st := []) Γ hlY rfl ml_RX10_120 rfl at_X_0 rfl rfl rfl rfl rfl dX10_game_18) (fun r σ' h => ctX10_refuse h) (fun v9 s10 => ?_)
    exact jq_ireturn Γ dX10_game_21 (hK0 _)


theorem dX4_firstMove_0 : decode cX4_firstMove 0 = .ok (.aload_n 1, 1) := by decide +kernel
theorem dX4_firstMove_1 : decode cX4_firstMove 1 = .ok (.iload_n 2, 1) := by decide +kernel
theorem dX4_firstMove_2 : decode cX4_firstMove 2 = .ok (.iaload, 1) := by decide +kernel
theorem dX4_firstMove_3 : decode cX4_firstMove 3 = .ok (.istore 5, 2) := by decide +kernel
theorem dX4_firstMove_5 : decode cX4_firstMove 5 = .ok (.iconst (-1), 1) := by decide +kernel
theorem dX4_firstMove_6 : decode cX4_firstMove 6 = .ok (.istore 6, 2) := by decide +kernel
theorem dX4_firstMove_8 : decode cX4_firstMove 8 = .ok (.iconst 0, 1) := by decide +kernel
theorem dX4_firstMove_9 : decode cX4_firstMove 9 = .ok (.istore 7, 2) := by decide +kernel
theorem dX4_firstMove_11 : decode cX4_firstMove 11 = .ok (.iconst 0, 1) := by decide +kernel
theorem dX4_firstMove_12 : decode cX4_firstMove 12 = .ok (.istore 8, 2) := by decide +kernel
theorem dX4_firstMove_14 : decode cX4_firstMove 14 = .ok (.iload 8, 2) := by decide +kernel
theorem dX4_firstMove_16 : decode cX4_firstMove 16 = .ok (.aload_n 0, 1) := by decide +kernel
theorem dX4_firstMove_17 : decode cX4_firstMove 17 = .ok (.getfield 21, 3) := by decide +kernel
theorem dX4_firstMove_20 : decode cX4_firstMove 20 = .ok (.if_icmp .ge 67, 3) := by decide +kernel
theorem dX4_firstMove_23 : decode cX4_firstMove 23 = .ok (.iload 8, 2) := by decide +kernel
theorem dX4_firstMove_25 : decode cX4_firstMove 25 = .ok (.iload 5, 2) := by decide +kernel
theorem dX4_firstMove_27 : decode cX4_firstMove 27 = .ok (.if_icmp .eq 54, 3) := by decide +kernel
theorem dX4_firstMove_30 : decode cX4_firstMove 30 = .ok (.aload_n 0, 1) := by decide +kernel
theorem dX4_firstMove_31 : decode cX4_firstMove 31 = .ok (.aload_n 1, 1) := by decide +kernel
theorem dX4_firstMove_32 : decode cX4_firstMove 32 = .ok (.iload_n 2, 1) := by decide +kernel
theorem dX4_firstMove_33 : decode cX4_firstMove 33 = .ok (.iload 8, 2) := by decide +kernel
theorem dX4_firstMove_35 : decode cX4_firstMove 35 = .ok (.invokestatic 25, 3) := by decide +kernel
theorem dX4_firstMove_38 : decode cX4_firstMove 38 = .ok (.aload_n 0, 1) := by decide +kernel
theorem dX4_firstMove_39 : decode cX4_firstMove 39 = .ok (.aload_n 1, 1) := by decide +kernel
theorem dX4_firstMove_40 : decode cX4_firstMove 40 = .ok (.iload_n 2, 1) := by decide +kernel
theorem dX4_firstMove_41 : decode cX4_firstMove 41 = .ok (.iload_n 3, 1) := by decide +kernel
theorem dX4_firstMove_42 : decode cX4_firstMove 42 = .ok (.iload 4, 2) := by decide +kernel
theorem dX4_firstMove_44 : decode cX4_firstMove 44 = .ok (.iconst 1, 1) := by decide +kernel
theorem dX4_firstMove_45 : decode cX4_firstMove 45 = .ok (.isub, 1) := by decide +kernel
theorem dX4_firstMove_46 : decode cX4_firstMove 46 = .ok (.iconst 0, 1) := by decide +kernel
theorem dX4_firstMove_47 : decode cX4_firstMove 47 = .ok (.invokestatic 15, 3) := by decide +kernel
theorem dX4_firstMove_50 : decode cX4_firstMove 50 = .ok (.istore 9, 2) := by decide +kernel
theorem dX4_firstMove_52 : decode cX4_firstMove 52 = .ok (.aload_n 0, 1) := by decide +kernel
theorem dX4_firstMove_53 : decode cX4_firstMove 53 = .ok (.aload_n 1, 1) := by decide +kernel
theorem dX4_firstMove_54 : decode cX4_firstMove 54 = .ok (.iload_n 2, 1) := by decide +kernel
theorem dX4_firstMove_55 : decode cX4_firstMove 55 = .ok (.iload 5, 2) := by decide +kernel
theorem dX4_firstMove_57 : decode cX4_firstMove 57 = .ok (.invokestatic 25, 3) := by decide +kernel
theorem dX4_firstMove_60 : decode cX4_firstMove 60 = .ok (.iload 6, 2) := by decide +kernel
theorem dX4_firstMove_62 : decode cX4_firstMove 62 = .ok (.iconst (-1), 1) := by decide +kernel
theorem dX4_firstMove_63 : decode cX4_firstMove 63 = .ok (.if_icmp .eq 10, 3) := by decide +kernel
theorem dX4_firstMove_66 : decode cX4_firstMove 66 = .ok (.iload 9, 2) := by decide +kernel
theorem dX4_firstMove_68 : decode cX4_firstMove 68 = .ok (.iload 7, 2) := by decide +kernel
theorem dX4_firstMove_70 : decode cX4_firstMove 70 = .ok (.if_icmp .le 11, 3) := by decide +kernel
theorem dX4_firstMove_73 : decode cX4_firstMove 73 = .ok (.iload 9, 2) := by decide +kernel
theorem dX4_firstMove_75 : decode cX4_firstMove 75 = .ok (.istore 7, 2) := by decide +kernel
theorem dX4_firstMove_77 : decode cX4_firstMove 77 = .ok (.iload 8, 2) := by decide +kernel
theorem dX4_firstMove_79 : decode cX4_firstMove 79 = .ok (.istore 6, 2) := by decide +kernel
theorem dX4_firstMove_81 : decode cX4_firstMove 81 = .ok (.iinc 8 1, 3) := by decide +kernel
theorem dX4_firstMove_84 : decode cX4_firstMove 84 = .ok (.goto (-70), 3) := by decide +kernel
theorem dX4_firstMove_87 : decode cX4_firstMove 87 = .ok (.aload_n 0, 1) := by decide +kernel
theorem dX4_firstMove_88 : decode cX4_firstMove 88 = .ok (.aload_n 1, 1) := by decide +kernel
theorem dX4_firstMove_89 : decode cX4_firstMove 89 = .ok (.iload_n 2, 1) := by decide +kernel
theorem dX4_firstMove_90 : decode cX4_firstMove 90 = .ok (.iload_n 3, 1) := by decide +kernel
theorem dX4_firstMove_91 : decode cX4_firstMove 91 = .ok (.iload 4, 2) := by decide +kernel
theorem dX4_firstMove_93 : decode cX4_firstMove 93 = .ok (.iconst 1, 1) := by decide +kernel
theorem dX4_firstMove_94 : decode cX4_firstMove 94 = .ok (.isub, 1) := by decide +kernel
theorem dX4_firstMove_95 : decode cX4_firstMove 95 = .ok (.iconst 0, 1) := by decide +kernel
theorem dX4_firstMove_96 : decode cX4_firstMove 96 = .ok (.invokestatic 15, 3) := by decide +kernel
theorem dX4_firstMove_99 : decode cX4_firstMove 99 = .ok (.istore 8, 2) := by decide +kernel
theorem dX4_firstMove_101 : decode cX4_firstMove 101 = .ok (.iload 8, 2) := by decide +kernel
theorem dX4_firstMove_103 : decode cX4_firstMove 103 = .ok (.iload 7, 2) := by decide +kernel
theorem dX4_firstMove_105 : decode cX4_firstMove 105 = .ok (.if_icmp .le 7, 3) := by decide +kernel
theorem dX4_firstMove_108 : decode cX4_firstMove 108 = .ok (.iconst (-1), 1) := by decide +kernel
theorem dX4_firstMove_109 : decode cX4_firstMove 109 = .ok (.goto 5, 3) := by decide +kernel
theorem dX4_firstMove_112 : decode cX4_firstMove 112 = .ok (.iload 6, 2) := by decide +kernel
theorem dX4_firstMove_114 : decode cX4_firstMove 114 = .ok (.ireturn, 1) := by decide +kernel
set_option maxHeartbeats 4000000 in
set_option maxRecDepth 100000 in
theorem ctX4_firstMove {p0 : Int} {p1 : Int} {p2 : Int} {p3 : Int} {p4 : Int} {σ : jq_M} {res : Int} {σ' : jq_M} (hp0 : jq_com p0) (hp1 : jq_row p1) (h : X4_firstMove p0 p1 p2 p3 p4 σ = some (res, σ')) : jq_MC jq_zX yX4_firstMove cX4_firstMove 10 (some .int) 13 381 [jR p0, jR p1, jI p2, jI p3, jI p4] σ (some (jI res)) σ' := by
  refine jq_met (own := RX4) (L0 := [(0, jR p0), (1, jR p1), (2, jI p2), (3, jI p3), (4, jI p4)]) (by decide) rfl rfl rfl ?_
  intro X Γ hnl hlY hRT
  refine jq_use2 (P := fun r => jq_RT jq_zX X (some .int) (some (jI r.1)) r.2) ?_ h hRT
  intro K0 hK0
  unfold X4_firstMove
  refine jq_aload_n Γ dX4_firstMove_0 rfl 1 rfl (jq_at_0 (at_row hp1)) ?_
  refine jq_iload_n Γ dX4_firstMove_1 rfl 2 rfl ?_
  refine jq_iald Γ (at_row hp1) rfl dX4_firstMove_2 (fun v1 => ?_)
  refine jq_istore (L' := [(5, jI v1), (0, jR p0), (1, jR p1), (2, jI p2), (3, jI p3), (4, jI p4)]) Γ dX4_firstMove_3 hnl rfl rfl ?_
  refine jq_iconst Γ dX4_firstMove_5 rfl ?_
  refine jq_istore (L' := [(6, jI (-1)), (5, jI v1), (0, jR p0), (1, jR p1), (2, jI p2), (3, jI p3), (4, jI p4)]) Γ dX4_firstMove_6 hnl rfl rfl ?_
  refine jq_iconst Γ dX4_firstMove_8 rfl ?_
  refine jq_istore (L' := [(7, jI 0), (6, jI (-1)), (5, jI v1), (0, jR p0), (1, jR p1), (2, jI p2), (3, jI p3), (4, jI p4)]) Γ dX4_firstMove_9 hnl rfl rfl ?_
  refine jq_iconst Γ dX4_firstMove_11 rfl ?_
  refine jq_istore (L' := [(8, jI 0), (7, jI 0), (6, jI (-1)), (5, jI v1), (0, jR p0), (1, jR p1), (2, jI p2), (3, jI p3), (4, jI p4)]) Γ dX4_firstMove_12 hnl rfl rfl ?_
  refine jq_sub Γ (L' := [(0, jR p0), (1, jR p1), (2, jI p2), (3, jI p3), (4, jI p4), (5, jI v1), (6, jI (-1)), (7, jI 0), (8, jI 0)]) [4, 5, 6, 7, 8, 3, 2, 1, 0] rfl ?_
  refine jq_loop2 (C := fun (t2 : Int × Int × Int × jq_M) => jq_V jq_zX X (jq_zN jq_zX) t2.2.2.2 14 [(0, jR p0), (1, jR p1), (2, jI p2), (3, jI p3), (4, jI p4), (5, jI v1), (6, jI t2.1), (7, jI t2.2.1), (8, jI t2.2.2.1)] []) (KX := fun (e11 : Int × Int × jq_M) => jq_V jq_zX X (jq_zN jq_zX) e11.2.2 87 [(0, jR p0), (1, jR p1), (2, jI p2), (3, jI p3), (4, jI p4), (6, jI e11.1), (7, jI e11.2.1)] []) ?_ ?_ ((-1), 0, 0, σ)
  · intro K14_t2 hCt2 hXt2 t2
    unfold X4_firstMove_b14
    refine jq_iload Γ dX4_firstMove_14 8 rfl ?_
    refine jq_aload_n Γ dX4_firstMove_16 rfl 0 rfl (jq_at_0 (at_com hp0)) ?_
    refine jq_getI (J := 0) Γ (at_com hp0) fl_RX4_21 rfl rfl dX4_firstMove_17 ?_
    refine jq_icmp_ge (tgt := 87) Γ dX4_firstMove_20 rfl ?_ ?_
    · refine jq_sub Γ (L' := [(0, jR p0), (1, jR p1), (2, jI p2), (3, jI p3), (4, jI p4), (6, jI t2.1), (7, jI t2.2.1)]) [0, 1, 2, 3, 4, 6, 7] rfl ?_
      exact jq_done (hXt2 (t2.1, t2.2.1, t2.2.2.2))
    · refine jq_iload Γ dX4_firstMove_23 8 rfl ?_
      refine jq_iload Γ dX4_firstMove_25 5 rfl ?_
      refine jq_icmp_eq (tgt := 81) Γ dX4_firstMove_27 rfl ?_ ?_
      · refine jq_iincN (L' := fun v3 => [(8, jI v3), (0, jR p0), (1, jR p1), (2, jI p2), (3, jI p3), (4, jI p4), (5, jI v1), (6, jI t2.1), (7, jI t2.2.1)]) Γ dX4_firstMove_81 8 rfl hnl rfl (fun _ => rfl) (fun v3 => ?_)
        refine jq_goto Γ (tgt := 14) dX4_firstMove_84 rfl ?_
        refine jq_sub Γ (L' := [(0, jR p0), (1, jR p1), (2, jI p2), (3, jI p3), (4, jI p4), (5, jI v1), (6, jI t2.1), (7, jI t2.2.1), (8, jI v3)]) [1, 2, 3, 4, 5, 6, 7, 8, 0] rfl ?_
        exact jq_done (hCt2 (t2.1, t2.2.1, v3, t2.2.2.2))
      · refine jq_aload_n Γ dX4_firstMove_30 rfl 0 rfl (jq_at_0 (at_com hp0)) ?_
        refine jq_aload_n Γ dX4_firstMove_31 rfl 1 rfl (jq_at_0 (at_row hp1)) ?_
        refine jq_iload_n Γ dX4_firstMove_32 rfl 2 rfl ?_
        refine jq_iload Γ dX4_firstMove_33 8 rfl ?_
        refine jq_cwV (jq_stat (avs := [jR p0, jR p1, jI p2, jI t2.2.2.1]) (st := []) Γ hlY rfl ml_RX4_25 rfl rfl rfl rfl rfl dX4_firstMove_35) (fun σ' h => ctX4_shift hp0 hp1 h) (fun s4 => ?_)
        refine jq_aload_n Γ dX4_firstMove_38 rfl 0 rfl (jq_at_0 (at_com hp0)) ?_
        refine jq_aload_n Γ dX4_firstMove_39 rfl 1 rfl (jq_at_0 (at_row hp1)) ?_
        refine jq_iload_n Γ dX4_firstMove_40 rfl 2 rfl ?_
        refine jq_iload_n Γ dX4_firstMove_41 rfl 3 rfl ?_
        refine jq_iload Γ dX4_firstMove_42 4 rfl ?_
        refine jq_iconst Γ dX4_firstMove_44 rfl ?_
        refine jq_isub Γ dX4_firstMove_45 ?_
        refine jq_iconst Γ dX4_firstMove_46 rfl ?_
        refine jq_cwI (jq_stat (avs := [jR p0, jR p1, jI p2, jI p3, jI (jq_w (p4 - 1)), jI 0]) (st := []) Γ hlY rfl ml_RX4_15 rfl rfl rfl rfl rfl dX4_firstMove_47) (fun r σ' h => ctX4_bestLead 8 hp0 hp1 h) (fun v5 s6 => ?_)
        refine jq_istore (L' := [(9, jI v5), (0, jR p0), (1, jR p1), (2, jI p2), (3, jI p3), (4, jI p4), (5, jI v1), (6, jI t2.1), (7, jI t2.2.1), (8, jI t2.2.2.1)]) Γ dX4_firstMove_50 hnl rfl rfl ?_
        refine jq_aload_n Γ dX4_firstMove_52 rfl 1 rfl (jq_at_0 (at_com hp0)) ?_
        refine jq_aload_n Γ dX4_firstMove_53 rfl 2 rfl (jq_at_0 (at_row hp1)) ?_
        refine jq_iload_n Γ dX4_firstMove_54 rfl 3 rfl ?_
        refine jq_iload Γ dX4_firstMove_55 6 rfl ?_
        refine jq_cwV (jq_stat (avs := [jR p0, jR p1, jI p2, jI v1]) (st := []) Γ hlY rfl ml_RX4_25 rfl rfl rfl rfl rfl dX4_firstMove_57) (fun σ' h => ctX4_shift hp0 hp1 h) (fun s7 => ?_)
        refine jq_iload Γ dX4_firstMove_60 7 rfl ?_
        refine jq_iconst Γ dX4_firstMove_62 rfl ?_
        refine jq_icmp_eq (tgt := 73) Γ dX4_firstMove_63 rfl ?_ ?_
        · refine jq_iload Γ dX4_firstMove_73 0 rfl ?_
          refine jq_istore (L' := [(7, jI v5), (9, jI v5), (0, jR p0), (1, jR p1), (2, jI p2), (3, jI p3), (4, jI p4), (5, jI v1), (6, jI t2.1), (8, jI t2.2.2.1)]) Γ dX4_firstMove_75 hnl rfl rfl ?_
          refine jq_iload Γ dX4_firstMove_77 9 rfl ?_
          refine jq_istore (L' := [(6, jI t2.2.2.1), (7, jI v5), (9, jI v5), (0, jR p0), (1, jR p1), (2, jI p2), (3, jI p3), (4, jI p4), (5, jI v1), (8, jI t2.2.2.1)]) Γ dX4_firstMove_79 hnl rfl rfl ?_
          refine jq_iincN (L' := fun v8 => [(8, jI v8), (6, jI t2.2.2.1), (7, jI v5), (9, jI v5), (0, jR p0), (1, jR p1), (2, jI p2), (3, jI p3), (4, jI p4), (5, jI v1)]) Γ dX4_firstMove_81 9 rfl hnl rfl (fun _ => rfl) (fun v8 => ?_)
          refine jq_goto Γ (tgt := 14) dX4_firstMove_84 rfl ?_
          refine jq_sub Γ (L' := [(0, jR p0), (1, jR p1), (2, jI p2), (3, jI p3), (4, jI p4), (5, jI v1), (6, jI t2.2.2.1), (7, jI v5), (8, jI v8)]) [4, 5, 6, 7, 8, 9, 1, 2, 0] rfl ?_
          exact jq_done (hCt2 (t2.2.2.1, v5, v8, s7))
        · refine jq_iload Γ dX4_firstMove_66 0 rfl ?_
          refine jq_iload Γ dX4_firstMove_68 8 rfl ?_
          refine jq_icmp_le (tgt := 81) Γ dX4_firstMove_70 rfl ?_ ?_
          · refine jq_iincN (L' := fun v9 => [(8, jI v9), (9, jI v5), (0, jR p0), (1, jR p1), (2, jI p2), (3, jI p3), (4, jI p4), (5, jI v1), (6, jI t2.1), (7, jI t2.2.1)]) Γ dX4_firstMove_81 9 rfl hnl rfl (fun _ => rfl) (fun v9 => ?_)
            refine jq_goto Γ (tgt := 14) dX4_firstMove_84 rfl ?_
            refine jq_sub Γ (L' := [(0, jR p0), (1, jR p1), (2, jI p2), (3, jI p3), (4, jI p4), (5, jI v1), (6, jI t2.1), (7, jI t2.2.1), (8, jI v9)]) [2, 3, 4, 5, 6, 7, 8, 9, 0] rfl ?_
            exact jq_done (hCt2 (t2.1, t2.2.1, v9, s7))
          · refine jq_iload Γ dX4_firstMove_73 0 rfl ?_
            refine jq_istore (L' := [(7, jI v5), (9, jI v5), (0, jR p0), (1, jR p1), (2, jI p2), (3, jI p3), (4, jI p4), (5, jI v1), (6, jI t2.1), (8, jI t2.2.2.1)]) Γ dX4_firstMove_75 hnl rfl rfl ?_
            refine jq_iload Γ dX4_firstMove_77 9 rfl ?_
            refine jq_istore (L' := [(6, jI t2.2.2.1), (7, jI v5), (9, jI v5), (0, jR p0), (1, jR p1), (2, jI p2), (3, jI p3), (4, jI p4), (5, jI v1), (8, jI t2.2.2.1)]) Γ dX4_firstMove_79 hnl rfl rfl ?_
            refine jq_iincN (L' := fun v10 => [(8, jI v10), (6, jI t2.2.2.1), (7, jI v5), (9, jI v5), (0, jR p0), (1, jR p1), (2, jI p2), (3, jI p3), (4, jI p4), (5, jI v1)]) Γ dX4_firstMove_81 9 rfl hnl rfl (fun _ => rfl) (fun v10 => ?_)
            refine jq_goto Γ (tgt := 14) dX4_firstMove_84 rfl ?_
            refine jq_sub Γ (L' := [(0, jR p0), (1, jR p1), (2, jI p2), (3, jI p3), (4, jI p4), (5, jI v1), (6, jI t2.2.2.1), (7, jI v5), (8, jI v10)]) [4, 5, 6, 7, 8, 9, 1, 2, 0] rfl ?_
            exact jq_done (hCt2 (t2.2.2.1, v5, v10, s7))
  · intro e11
    refine jq_aload_n Γ dX4_firstMove_87 rfl 0 rfl (jq_at_0 (at_com hp0)) ?_
    refine jq_aload_n Γ dX4_firstMove_88 rfl 1 rfl (jq_at_0 (at_row hp1)) ?_
    refine jq_iload_n Γ dX4_firstMove_89 rfl 2 rfl ?_
    refine jq_iload_n Γ dX4_firstMove_90 rfl 3 rfl ?_
    refine jq_iload Γ dX4_firstMove_91 4 rfl ?_
    refine jq_iconst Γ dX4_firstMove_93 rfl ?_
    refine jq_isub Γ dX4_firstMove_94 ?_
    refine jq_iconst Γ dX4_firstMove_95 rfl ?_
    refine jq_cwI (jq_stat (avs := [jR p0, jR p1, jI p2, jI p3, jI (jq_w (p4 - 1)), jI 0]) (st := []) Γ hlY rfl ml_RX4_15 rfl rfl rfl rfl rfl dX4_firstMove_96) (fun r σ' h => ctX4_bestLead 8 hp0 hp1 h) (fun v12 s13 => ?_)
    refine jq_istore (L' := [(8, jI v12), (0, jR p0), (1, jR p1), (2, jI p2), (3, jI p3), (4, jI p4), (6, jI e11.1), (7, jI e11.2.1)]) Γ dX4_firstMove_99 hnl rfl rfl ?_
    refine jq_iload Γ dX4_firstMove_101 0 rfl ?_
    refine jq_iload Γ dX4_firstMove_103 7 rfl ?_
    refine jq_icmp_le (tgt := 112) Γ dX4_firstMove_105 rfl ?_ ?_
    · refine jq_iload Γ dX4_firstMove_112 6 rfl ?_
      exact jq_ireturn Γ dX4_firstMove_114 (hK0 _)
    · refine jq_iconst Γ dX4_firstMove_108 rfl ?_
      refine jq_goto Γ (tgt := 114) dX4_firstMove_109 rfl ?_
      exact jq_ireturn Γ dX4_firstMove_114 (hK0 _)


theorem dX10_moveOf_0 : decode cX10_moveOf 0 = .ok (.aload_n 0, 1) := by decide +kernel
theorem dX10_moveOf_1 : decode cX10_moveOf 1 = .ok (.iload_n 1, 1) := by decide +kernel
theorem dX10_moveOf_2 : decode cX10_moveOf 2 = .ok (.iload_n 2, 1) := by decide +kernel
theorem dX10_moveOf_3 : decode cX10_moveOf 3 = .ok (.iload_n 3, 1) := by decide +kernel
theorem dX10_moveOf_4 : decode cX10_moveOf 4 = .ok (.iconst 1, 1) := by decide +kernel
theorem dX10_moveOf_5 : decode cX10_moveOf 5 = .ok (.invokevirtual 371, 3) := by decide +kernel
theorem dX10_moveOf_8 : decode cX10_moveOf 8 = .ok (.istore 4, 2) := by decide +kernel
theorem dX10_moveOf_10 : decode cX10_moveOf 10 = .ok (.iload 4, 2) := by decide +kernel
theorem dX10_moveOf_12 : decode cX10_moveOf 12 = .ok (.ifCond .eq 10, 3) := by decide +kernel
theorem dX10_moveOf_15 : decode cX10_moveOf 15 = .ok (.aload_n 0, 1) := by decide +kernel
theorem dX10_moveOf_16 : decode cX10_moveOf 16 = .ok (.iload 4, 2) := by decide +kernel
theorem dX10_moveOf_18 : decode cX10_moveOf 18 = .ok (.invokevirtual 120, 3) := by decide +kernel
theorem dX10_moveOf_21 : decode cX10_moveOf 21 = .ok (.ireturn, 1) := by decide +kernel
theorem dX10_moveOf_22 : decode cX10_moveOf 22 = .ok (.aload_n 0, 1) := by decide +kernel
theorem dX10_moveOf_23 : decode cX10_moveOf 23 = .ok (.invokevirtual 368, 3) := by decide +kernel
theorem dX10_moveOf_26 : decode cX10_moveOf 26 = .ok (.aload_n 0, 1) := by decide +kernel
theorem dX10_moveOf_27 : decode cX10_moveOf 27 = .ok (.aload_n 0, 1) := by decide +kernel
theorem dX10_moveOf_28 : decode cX10_moveOf 28 = .ok (.getfield 25, 3) := by decide +kernel
theorem dX10_moveOf_31 : decode cX10_moveOf 31 = .ok (.aload_n 0, 1) := by decide +kernel
theorem dX10_moveOf_32 : decode cX10_moveOf 32 = .ok (.getfield 68, 3) := by decide +kernel
theorem dX10_moveOf_35 : decode cX10_moveOf 35 = .ok (.iload_n 1, 1) := by decide +kernel
theorem dX10_moveOf_36 : decode cX10_moveOf 36 = .ok (.iload_n 2, 1) := by decide +kernel
theorem dX10_moveOf_37 : decode cX10_moveOf 37 = .ok (.iload_n 3, 1) := by decide +kernel
theorem dX10_moveOf_38 : decode cX10_moveOf 38 = .ok (.invokestatic 381, 3) := by decide +kernel
theorem dX10_moveOf_41 : decode cX10_moveOf 41 = .ok (.invokevirtual 218, 3) := by decide +kernel
theorem dX10_moveOf_44 : decode cX10_moveOf 44 = .ok (.ireturn, 1) := by decide +kernel
set_option maxHeartbeats 4000000 in
set_option maxRecDepth 100000 in
theorem ctX10_moveOf {p1 : Int} {p2 : Int} {p3 : Int} {σ : jq_M} {res : Int} {σ' : jq_M}  (h : X10_moveOf p1 p2 p3 σ = some (res, σ')) : jq_MC jq_zX yX10_moveOf cX10_moveOf 5 (some .int) 14 410 [jR 0, jI p1, jI p2, jI p3] σ (some (jI res)) σ' := by
  refine jq_met (own := RX10) (L0 := [(0, jR 0), (1, jI p1), (2, jI p2), (3, jI p3)]) (by decide) rfl rfl rfl ?_
  intro X Γ hnl hlY hRT
  refine jq_use2 (P := fun r => jq_RT jq_zX X (some .int) (some (jI r.1)) r.2) ?_ h hRT
  intro K0 hK0
  unfold X10_moveOf
  refine jq_aload_n Γ dX10_moveOf_0 rfl 0 rfl (jq_at_0 at_X_0) ?_
  refine jq_iload_n Γ dX10_moveOf_1 rfl 1 rfl ?_
  refine jq_iload_n Γ dX10_moveOf_2 rfl 2 rfl ?_
  refine jq_iload_n Γ dX10_moveOf_3 rfl 3 rfl ?_
  refine jq_iconst Γ dX10_moveOf_4 rfl ?_
  refine jq_cpI (jq_virt (avs := [jI p1, jI p2, jI p3, jI 1]) (st := []) Γ hlY rfl ml_RX10_371 rfl at_X_0 rfl rfl rfl rfl rfl dX10_moveOf_5) (fun r h => ctX10_whyNoGame h) (fun v1 => ?_)
  refine jq_istore (L' := [(4, jI v1), (0, jR 0), (1, jI p1), (2, jI p2), (3, jI p3)]) Γ dX10_moveOf_8 hnl rfl rfl ?_
  refine jq_iload Γ dX10_moveOf_10 0 rfl ?_
  refine jq_if_eq (tgt := 22) Γ dX10_moveOf_12 rfl ?_ ?_
  · refine jq_aload_n Γ dX10_moveOf_22 rfl 1 rfl (jq_at_0 at_X_0) ?_
    refine jq_cwV (jq_virt (avs := []) (st := []) Γ hlY rfl ml_RX10_368 rfl at_X_0 rfl rfl rfl rfl rfl dX10_moveOf_23) (fun σ' h => ctX10_layTrial h) (fun s2 => ?_)
    refine jq_aload_n Γ dX10_moveOf_26 rfl 1 rfl (jq_at_0 at_X_0) ?_
    refine jq_aload_n Γ dX10_moveOf_27 rfl 1 rfl (jq_at_0 at_X_0) ?_
    refine jq_getC (C := jq_cm2) Γ hlY at_X_0 fl_RX10_25 rfl rfl ly_now dX10_moveOf_28 (fun c3 hc4q => ?_)
    have hc4 := jq_cm2_com hc4q
    refine jq_aload_n Γ dX10_moveOf_31 rfl 1 rfl (jq_at_0 at_X_0) ?_
    refine jq_getR (v := 63) Γ hlY at_X_0 fl_RX10_68 rfl rfl ly_X10_trial dX10_moveOf_32 ?_
    refine jq_iload_n Γ dX10_moveOf_35 rfl 2 rfl ?_
    refine jq_iload_n Γ dX10_moveOf_36 rfl 3 rfl ?_
    refine jq_iload_n Γ dX10_moveOf_37 rfl 4 rfl ?_
    refine jq_cwI (jq_stat (avs := [jR c3, jR 63, jI p1, jI p2, jI p3]) (st := [jR 0]) Γ hlY rfl ml_RX10_381 rfl rfl rfl rfl rfl dX10_moveOf_38) (fun r σ' h => ctX4_firstMove hc4 row_63 h) (fun v5 s6 => ?_)
    refine jq_cwI (jq_virt (avs := [jI v5]) (st := []) Γ hlY rfl ml_RX10_218 rfl at_X_0 rfl rfl rfl rfl rfl dX10_moveOf_41) (fun r σ' h => ctX10_answerOrNone h) (fun v7 s8 => ?_)
    exact jq_ireturn Γ dX10_moveOf_44 (hK0 _)
  · refine jq_aload_n Γ dX10_moveOf_15 rfl 1 rfl (jq_at_0 at_X_0) ?_
    refine jq_iload Γ dX10_moveOf_16 0 rfl ?_
    refine jq_cwI (jq_virt (avs := [jI v1]) (st := []) Γ hlY rfl ml_RX10_120 rfl at_X_0 rfl rfl rfl rfl rfl dX10_moveOf_18) (fun r σ' h => ctX10_refuse h) (fun v9 s10 => ?_)
    exact jq_ireturn Γ dX10_moveOf_21 (hK0 _)


theorem dX1_allLeansOf_0 : decode cX1_allLeansOf 0 = .ok (.aload_n 0, 1) := by decide +kernel
theorem dX1_allLeansOf_1 : decode cX1_allLeansOf 1 = .ok (.getfield 43, 3) := by decide +kernel
theorem dX1_allLeansOf_4 : decode cX1_allLeansOf 4 = .ok (.iload_n 1, 1) := by decide +kernel
theorem dX1_allLeansOf_5 : decode cX1_allLeansOf 5 = .ok (.iaload, 1) := by decide +kernel
theorem dX1_allLeansOf_6 : decode cX1_allLeansOf 6 = .ok (.istore_n 2, 1) := by decide +kernel
theorem dX1_allLeansOf_7 : decode cX1_allLeansOf 7 = .ok (.iload_n 1, 1) := by decide +kernel
theorem dX1_allLeansOf_8 : decode cX1_allLeansOf 8 = .ok (.iconst 1, 1) := by decide +kernel
theorem dX1_allLeansOf_9 : decode cX1_allLeansOf 9 = .ok (.isub, 1) := by decide +kernel
theorem dX1_allLeansOf_10 : decode cX1_allLeansOf 10 = .ok (.istore_n 3, 1) := by decide +kernel
theorem dX1_allLeansOf_11 : decode cX1_allLeansOf 11 = .ok (.iload_n 3, 1) := by decide +kernel
theorem dX1_allLeansOf_12 : decode cX1_allLeansOf 12 = .ok (.ifCond .lt 26, 3) := by decide +kernel
theorem dX1_allLeansOf_15 : decode cX1_allLeansOf 15 = .ok (.iload_n 2, 1) := by decide +kernel
theorem dX1_allLeansOf_16 : decode cX1_allLeansOf 16 = .ok (.iload_n 3, 1) := by decide +kernel
theorem dX1_allLeansOf_17 : decode cX1_allLeansOf 17 = .ok (.invokestatic 94, 3) := by decide +kernel
theorem dX1_allLeansOf_20 : decode cX1_allLeansOf 20 = .ok (.ifCond .eq 12, 3) := by decide +kernel
theorem dX1_allLeansOf_23 : decode cX1_allLeansOf 23 = .ok (.iload_n 2, 1) := by decide +kernel
theorem dX1_allLeansOf_24 : decode cX1_allLeansOf 24 = .ok (.aload_n 0, 1) := by decide +kernel
theorem dX1_allLeansOf_25 : decode cX1_allLeansOf 25 = .ok (.getfield 43, 3) := by decide +kernel
theorem dX1_allLeansOf_28 : decode cX1_allLeansOf 28 = .ok (.iload_n 3, 1) := by decide +kernel
theorem dX1_allLeansOf_29 : decode cX1_allLeansOf 29 = .ok (.iaload, 1) := by decide +kernel
theorem dX1_allLeansOf_30 : decode cX1_allLeansOf 30 = .ok (.ior, 1) := by decide +kernel
theorem dX1_allLeansOf_31 : decode cX1_allLeansOf 31 = .ok (.istore_n 2, 1) := by decide +kernel
theorem dX1_allLeansOf_32 : decode cX1_allLeansOf 32 = .ok (.iinc 3 (-1), 3) := by decide +kernel
theorem dX1_allLeansOf_35 : decode cX1_allLeansOf 35 = .ok (.goto (-24), 3) := by decide +kernel
theorem dX1_allLeansOf_38 : decode cX1_allLeansOf 38 = .ok (.iload_n 2, 1) := by decide +kernel
theorem dX1_allLeansOf_39 : decode cX1_allLeansOf 39 = .ok (.ireturn, 1) := by decide +kernel
set_option maxHeartbeats 4000000 in
set_option maxRecDepth 100000 in
theorem ctX1_allLeansOf {o : Int} {p1 : Int} {σ : jq_M} {res : Int} (ho : jq_com o) (h : X1_allLeansOf o p1 σ = some res) : jq_MC jq_zX yX1_allLeansOf cX1_allLeansOf 4 (some .int) 2 61 [jR o, jI p1] σ (some (jI res)) σ := by
  refine jq_met (own := RX1) (L0 := [(0, jR o), (1, jI p1)]) (by decide) rfl rfl rfl ?_
  intro X Γ hnl hlY hRT
  refine jq_use2 (P := fun r => jq_RT jq_zX X (some .int) (some (jI r)) σ) ?_ h hRT
  intro K0 hK0
  unfold X1_allLeansOf
  refine jq_aload_n Γ dX1_allLeansOf_0 rfl 0 rfl (jq_at_0 (at_com ho)) ?_
  refine jq_getR (v := (o + 11)) Γ hlY (at_com ho) fl_RX1_43 rfl rfl (ly_X1_leansOn ho) dX1_allLeansOf_1 ?_
  refine jq_iload_n Γ dX1_allLeansOf_4 rfl 1 rfl ?_
  refine jq_iald Γ (at_com_11 ho) rfl dX1_allLeansOf_5 (fun v1 => ?_)
  refine jq_istore_n (L' := [(2, jI v1), (0, jR o), (1, jI p1)]) Γ dX1_allLeansOf_6 rfl hnl rfl rfl ?_
  refine jq_iload_n Γ dX1_allLeansOf_7 rfl 2 rfl ?_
  refine jq_iconst Γ dX1_allLeansOf_8 rfl ?_
  refine jq_isub Γ dX1_allLeansOf_9 ?_
  refine jq_nmI (fun v2 => ?_)
  refine jq_istore_n (L' := [(3, jI v2), (2, jI v1), (0, jR o), (1, jI p1)]) Γ dX1_allLeansOf_10 rfl hnl rfl rfl ?_
  refine jq_sub Γ (L' := [(0, jR o), (2, jI v1), (3, jI v2)]) [2, 1, 0] rfl ?_
  refine jq_loop2 (C := fun (t3 : Int × Int) => jq_V jq_zX X (jq_zN jq_zX) σ 11 [(0, jR o), (2, jI t3.1), (3, jI t3.2)] []) (KX := fun (e10 : Int) => jq_V jq_zX X (jq_zN jq_zX) σ 38 [(2, jI e10)] []) ?_ ?_ (v1, v2)
  · intro K11_t3 hCt3 hXt3 t3
    unfold X1_allLeansOf_b11
    refine jq_iload_n Γ dX1_allLeansOf_11 rfl 2 rfl ?_
    refine jq_if_lt (tgt := 38) Γ dX1_allLeansOf_12 rfl ?_ ?_
    · refine jq_sub Γ (L' := [(2, jI t3.1)]) [1] rfl ?_
      exact jq_done (hXt3 t3.1)
    · refine jq_iload_n Γ dX1_allLeansOf_15 rfl 1 rfl ?_
      refine jq_iload_n Γ dX1_allLeansOf_16 rfl 2 rfl ?_
      refine jq_cpZ (jq_nest (avs := [jI t3.1, jI t3.2]) (st := []) Γ hlY rfl ml_RX1_94 rfl rfl rfl rfl rfl dX1_allLeansOf_17) rfl (fun r h => ctX10_holds h) (fun v4 hz5 => ?_)
      refine jq_if_eq (tgt := 32) Γ dX1_allLeansOf_20 rfl ?_ ?_
      · refine jq_iincN (L' := fun v6 => [(3, jI v6), (0, jR o), (2, jI t3.1)]) Γ dX1_allLeansOf_32 2 rfl hnl rfl (fun _ => rfl) (fun v6 => ?_)
        refine jq_goto Γ (tgt := 11) dX1_allLeansOf_35 rfl ?_
        refine jq_sub Γ (L' := [(0, jR o), (2, jI t3.1), (3, jI v6)]) [1, 2, 0] rfl ?_
        exact jq_done (hCt3 (t3.1, v6))
      · refine jq_iload_n Γ dX1_allLeansOf_23 rfl 1 rfl ?_
        refine jq_aload_n Γ dX1_allLeansOf_24 rfl 0 rfl (jq_at_0 (at_com ho)) ?_
        refine jq_getR (v := (o + 11)) Γ hlY (at_com ho) fl_RX1_43 rfl rfl (ly_X1_leansOn ho) dX1_allLeansOf_25 ?_
        refine jq_iload_n Γ dX1_allLeansOf_28 rfl 2 rfl ?_
        refine jq_iald Γ (at_com_11 ho) rfl dX1_allLeansOf_29 (fun v7 => ?_)
        refine jq_ior Γ dX1_allLeansOf_30 ?_
        refine jq_nmI (fun v8 => ?_)
        refine jq_istore_n (L' := [(2, jI v8), (0, jR o), (3, jI t3.2)]) Γ dX1_allLeansOf_31 rfl hnl rfl rfl ?_
        refine jq_iincN (L' := fun v9 => [(3, jI v9), (2, jI v8), (0, jR o)]) Γ dX1_allLeansOf_32 2 rfl hnl rfl (fun _ => rfl) (fun v9 => ?_)
        refine jq_goto Γ (tgt := 11) dX1_allLeansOf_35 rfl ?_
        refine jq_sub Γ (L' := [(0, jR o), (2, jI v8), (3, jI v9)]) [2, 1, 0] rfl ?_
        exact jq_done (hCt3 (v8, v9))
  · intro e10
    refine jq_iload_n Γ dX1_allLeansOf_38 rfl 0 rfl ?_
    exact jq_ireturn Γ dX1_allLeansOf_39 (hK0 _)


theorem dX10_leans_0 : decode cX10_leans 0 = .ok (.aload_n 0, 1) := by decide +kernel
theorem dX10_leans_1 : decode cX10_leans 1 = .ok (.getfield 25, 3) := by decide +kernel
theorem dX10_leans_4 : decode cX10_leans 4 = .ok (.iload_n 1, 1) := by decide +kernel
theorem dX10_leans_5 : decode cX10_leans 5 = .ok (.invokevirtual 242, 3) := by decide +kernel
theorem dX10_leans_8 : decode cX10_leans 8 = .ok (.ifCond .ne 9, 3) := by decide +kernel
theorem dX10_leans_11 : decode cX10_leans 11 = .ok (.aload_n 0, 1) := by decide +kernel
theorem dX10_leans_12 : decode cX10_leans 12 = .ok (.iconst 1, 1) := by decide +kernel
theorem dX10_leans_13 : decode cX10_leans 13 = .ok (.invokevirtual 120, 3) := by decide +kernel
theorem dX10_leans_16 : decode cX10_leans 16 = .ok (.ireturn, 1) := by decide +kernel
theorem dX10_leans_17 : decode cX10_leans 17 = .ok (.aload_n 0, 1) := by decide +kernel
theorem dX10_leans_18 : decode cX10_leans 18 = .ok (.aload_n 0, 1) := by decide +kernel
theorem dX10_leans_19 : decode cX10_leans 19 = .ok (.getfield 25, 3) := by decide +kernel
theorem dX10_leans_22 : decode cX10_leans 22 = .ok (.iload_n 1, 1) := by decide +kernel
theorem dX10_leans_23 : decode cX10_leans 23 = .ok (.invokevirtual 385, 3) := by decide +kernel
theorem dX10_leans_26 : decode cX10_leans 26 = .ok (.invokevirtual 161, 3) := by decide +kernel
theorem dX10_leans_29 : decode cX10_leans 29 = .ok (.ireturn, 1) := by decide +kernel
set_option maxHeartbeats 4000000 in
set_option maxRecDepth 100000 in
theorem ctX10_leans {p1 : Int} {σ : jq_M} {res : Int} {σ' : jq_M}  (h : X10_leans p1 σ = some (res, σ')) : jq_MC jq_zX yX10_leans cX10_leans 2 (some .int) 3 84 [jR 0, jI p1] σ (some (jI res)) σ' := by
  refine jq_met (own := RX10) (L0 := [(0, jR 0), (1, jI p1)]) (by decide) rfl rfl rfl ?_
  intro X Γ hnl hlY hRT
  refine jq_use2 (P := fun r => jq_RT jq_zX X (some .int) (some (jI r.1)) r.2) ?_ h hRT
  intro K0 hK0
  unfold X10_leans
  refine jq_aload_n Γ dX10_leans_0 rfl 0 rfl (jq_at_0 at_X_0) ?_
  refine jq_getC (C := jq_cm2) Γ hlY at_X_0 fl_RX10_25 rfl rfl ly_now dX10_leans_1 (fun c1 hc2q => ?_)
  have hc2 := jq_cm2_com hc2q
  refine jq_iload_n Γ dX10_leans_4 rfl 1 rfl ?_
  refine jq_cpZ (jq_virt (avs := [jI p1]) (st := []) Γ hlY rfl ml_RX10_242 rfl (at_com hc2) rfl rfl rfl rfl rfl dX10_leans_5) rfl (fun r h => ctX1_isArticle hc2 h) (fun v3 hz4 => ?_)
  refine jq_if_ne (tgt := 17) Γ dX10_leans_8 rfl ?_ ?_
  · refine jq_aload_n Γ dX10_leans_17 rfl 0 rfl (jq_at_0 at_X_0) ?_
    refine jq_aload_n Γ dX10_leans_18 rfl 0 rfl (jq_at_0 at_X_0) ?_
    refine jq_getC (C := jq_cm2) Γ hlY at_X_0 fl_RX10_25 rfl rfl ly_now dX10_leans_19 (fun c5 hc6q => ?_)
    have hc6 := jq_cm2_com hc6q
    refine jq_iload_n Γ dX10_leans_22 rfl 1 rfl ?_
    refine jq_cpI (jq_virt (avs := [jI p1]) (st := [jR 0]) Γ hlY rfl ml_RX10_385 rfl (at_com hc6) rfl rfl rfl rfl rfl dX10_leans_23) (fun r h => ctX1_allLeansOf hc6 h) (fun v7 => ?_)
    refine jq_cwI (jq_virt (avs := [jI v7]) (st := []) Γ hlY rfl ml_RX10_161 rfl at_X_0 rfl rfl rfl rfl rfl dX10_leans_26) (fun r σ' h => ctX10_answer h) (fun v8 s9 => ?_)
    exact jq_ireturn Γ dX10_leans_29 (hK0 _)
  · refine jq_aload_n Γ dX10_leans_11 rfl 0 rfl (jq_at_0 at_X_0) ?_
    refine jq_iconst Γ dX10_leans_12 rfl ?_
    refine jq_cwI (jq_virt (avs := [jI 1]) (st := []) Γ hlY rfl ml_RX10_120 rfl at_X_0 rfl rfl rfl rfl rfl dX10_leans_13) (fun r σ' h => ctX10_refuse h) (fun v10 s11 => ?_)
    exact jq_ireturn Γ dX10_leans_16 (hK0 _)


theorem dX10_falls_0 : decode cX10_falls 0 = .ok (.aload_n 0, 1) := by decide +kernel
theorem dX10_falls_1 : decode cX10_falls 1 = .ok (.getfield 25, 3) := by decide +kernel
theorem dX10_falls_4 : decode cX10_falls 4 = .ok (.iload_n 1, 1) := by decide +kernel
theorem dX10_falls_5 : decode cX10_falls 5 = .ok (.invokevirtual 242, 3) := by decide +kernel
theorem dX10_falls_8 : decode cX10_falls 8 = .ok (.ifCond .ne 9, 3) := by decide +kernel
theorem dX10_falls_11 : decode cX10_falls 11 = .ok (.aload_n 0, 1) := by decide +kernel
theorem dX10_falls_12 : decode cX10_falls 12 = .ok (.iconst 1, 1) := by decide +kernel
theorem dX10_falls_13 : decode cX10_falls 13 = .ok (.invokevirtual 120, 3) := by decide +kernel
theorem dX10_falls_16 : decode cX10_falls 16 = .ok (.ireturn, 1) := by decide +kernel
theorem dX10_falls_17 : decode cX10_falls 17 = .ok (.aload_n 0, 1) := by decide +kernel
theorem dX10_falls_18 : decode cX10_falls 18 = .ok (.aload_n 0, 1) := by decide +kernel
theorem dX10_falls_19 : decode cX10_falls 19 = .ok (.getfield 25, 3) := by decide +kernel
theorem dX10_falls_22 : decode cX10_falls 22 = .ok (.iload_n 1, 1) := by decide +kernel
theorem dX10_falls_23 : decode cX10_falls 23 = .ok (.invokevirtual 388, 3) := by decide +kernel
theorem dX10_falls_26 : decode cX10_falls 26 = .ok (.invokevirtual 161, 3) := by decide +kernel
theorem dX10_falls_29 : decode cX10_falls 29 = .ok (.ireturn, 1) := by decide +kernel
set_option maxHeartbeats 4000000 in
set_option maxRecDepth 100000 in
theorem ctX10_falls {p1 : Int} {σ : jq_M} {res : Int} {σ' : jq_M}  (h : X10_falls p1 σ = some (res, σ')) : jq_MC jq_zX yX10_falls cX10_falls 2 (some .int) 2 63 [jR 0, jI p1] σ (some (jI res)) σ' := by
  refine jq_met (own := RX10) (L0 := [(0, jR 0), (1, jI p1)]) (by decide) rfl rfl rfl ?_
  intro X Γ hnl hlY hRT
  refine jq_use2 (P := fun r => jq_RT jq_zX X (some .int) (some (jI r.1)) r.2) ?_ h hRT
  intro K0 hK0
  unfold X10_falls
  refine jq_aload_n Γ dX10_falls_0 rfl 0 rfl (jq_at_0 at_X_0) ?_
  refine jq_getC (C := jq_cm2) Γ hlY at_X_0 fl_RX10_25 rfl rfl ly_now dX10_falls_1 (fun c1 hc2q => ?_)
  have hc2 := jq_cm2_com hc2q
  refine jq_iload_n Γ dX10_falls_4 rfl 1 rfl ?_
  refine jq_cpZ (jq_virt (avs := [jI p1]) (st := []) Γ hlY rfl ml_RX10_242 rfl (at_com hc2) rfl rfl rfl rfl rfl dX10_falls_5) rfl (fun r h => ctX1_isArticle hc2 h) (fun v3 hz4 => ?_)
  refine jq_if_ne (tgt := 17) Γ dX10_falls_8 rfl ?_ ?_
  · refine jq_aload_n Γ dX10_falls_17 rfl 0 rfl (jq_at_0 at_X_0) ?_
    refine jq_aload_n Γ dX10_falls_18 rfl 0 rfl (jq_at_0 at_X_0) ?_
    refine jq_getC (C := jq_cm2) Γ hlY at_X_0 fl_RX10_25 rfl rfl ly_now dX10_falls_19 (fun c5 hc6q => ?_)
    have hc6 := jq_cm2_com hc6q
    refine jq_iload_n Γ dX10_falls_22 rfl 1 rfl ?_
    refine jq_cpI (jq_virt (avs := [jI p1]) (st := [jR 0]) Γ hlY rfl ml_RX10_388 rfl (at_com hc6) rfl rfl rfl rfl rfl dX10_falls_23) (fun r h => ctX1_allFallsOf hc6 h) (fun v7 => ?_)
    refine jq_cwI (jq_virt (avs := [jI v7]) (st := []) Γ hlY rfl ml_RX10_161 rfl at_X_0 rfl rfl rfl rfl rfl dX10_falls_26) (fun r σ' h => ctX10_answer h) (fun v8 s9 => ?_)
    exact jq_ireturn Γ dX10_falls_29 (hK0 _)
  · refine jq_aload_n Γ dX10_falls_11 rfl 0 rfl (jq_at_0 at_X_0) ?_
    refine jq_iconst Γ dX10_falls_12 rfl ?_
    refine jq_cwI (jq_virt (avs := [jI 1]) (st := []) Γ hlY rfl ml_RX10_120 rfl at_X_0 rfl rfl rfl rfl rfl dX10_falls_13) (fun r σ' h => ctX10_refuse h) (fun v10 s11 => ?_)
    exact jq_ireturn Γ dX10_falls_16 (hK0 _)


theorem dX0_keystoneOf_0 : decode cX0_keystoneOf 0 = .ok (.iconst (-1), 1) := by decide +kernel
theorem dX0_keystoneOf_1 : decode cX0_keystoneOf 1 = .ok (.istore_n 1, 1) := by decide +kernel
theorem dX0_keystoneOf_2 : decode cX0_keystoneOf 2 = .ok (.iconst 0, 1) := by decide +kernel
theorem dX0_keystoneOf_3 : decode cX0_keystoneOf 3 = .ok (.istore_n 2, 1) := by decide +kernel
theorem dX0_keystoneOf_4 : decode cX0_keystoneOf 4 = .ok (.iconst 0, 1) := by decide +kernel
theorem dX0_keystoneOf_5 : decode cX0_keystoneOf 5 = .ok (.istore_n 3, 1) := by decide +kernel
theorem dX0_keystoneOf_6 : decode cX0_keystoneOf 6 = .ok (.iload_n 3, 1) := by decide +kernel
theorem dX0_keystoneOf_7 : decode cX0_keystoneOf 7 = .ok (.aload_n 0, 1) := by decide +kernel
theorem dX0_keystoneOf_8 : decode cX0_keystoneOf 8 = .ok (.getfield 18, 3) := by decide +kernel
theorem dX0_keystoneOf_11 : decode cX0_keystoneOf 11 = .ok (.if_icmp .ge 30, 3) := by decide +kernel
theorem dX0_keystoneOf_14 : decode cX0_keystoneOf 14 = .ok (.aload_n 0, 1) := by decide +kernel
theorem dX0_keystoneOf_15 : decode cX0_keystoneOf 15 = .ok (.iload_n 3, 1) := by decide +kernel
theorem dX0_keystoneOf_16 : decode cX0_keystoneOf 16 = .ok (.invokevirtual 24, 3) := by decide +kernel
theorem dX0_keystoneOf_19 : decode cX0_keystoneOf 19 = .ok (.invokestatic 28, 3) := by decide +kernel
theorem dX0_keystoneOf_22 : decode cX0_keystoneOf 22 = .ok (.istore 4, 2) := by decide +kernel
theorem dX0_keystoneOf_24 : decode cX0_keystoneOf 24 = .ok (.iload 4, 2) := by decide +kernel
theorem dX0_keystoneOf_26 : decode cX0_keystoneOf 26 = .ok (.iload_n 2, 1) := by decide +kernel
theorem dX0_keystoneOf_27 : decode cX0_keystoneOf 27 = .ok (.if_icmp .le 8, 3) := by decide +kernel
theorem dX0_keystoneOf_30 : decode cX0_keystoneOf 30 = .ok (.iload 4, 2) := by decide +kernel
theorem dX0_keystoneOf_32 : decode cX0_keystoneOf 32 = .ok (.istore_n 2, 1) := by decide +kernel
theorem dX0_keystoneOf_33 : decode cX0_keystoneOf 33 = .ok (.iload_n 3, 1) := by decide +kernel
theorem dX0_keystoneOf_34 : decode cX0_keystoneOf 34 = .ok (.istore_n 1, 1) := by decide +kernel
theorem dX0_keystoneOf_35 : decode cX0_keystoneOf 35 = .ok (.iinc 3 1, 3) := by decide +kernel
theorem dX0_keystoneOf_38 : decode cX0_keystoneOf 38 = .ok (.goto (-32), 3) := by decide +kernel
theorem dX0_keystoneOf_41 : decode cX0_keystoneOf 41 = .ok (.iload_n 1, 1) := by decide +kernel
theorem dX0_keystoneOf_42 : decode cX0_keystoneOf 42 = .ok (.ireturn, 1) := by decide +kernel
set_option maxHeartbeats 4000000 in
set_option maxRecDepth 100000 in
theorem ctX0_keystoneOf {p0 : Int} {σ : jq_M} {res : Int} (hp0 : jq_com p0) (h : X0_keystoneOf p0 σ = some res) : jq_MC jq_zX yX0_keystoneOf cX0_keystoneOf 5 (some .int) 2 63 [jR p0] σ (some (jI res)) σ := by
  refine jq_met (own := RX0) (L0 := [(0, jR p0)]) (by decide) rfl rfl rfl ?_
  intro X Γ hnl hlY hRT
  refine jq_use2 (P := fun r => jq_RT jq_zX X (some .int) (some (jI r)) σ) ?_ h hRT
  intro K0 hK0
  unfold X0_keystoneOf
  refine jq_iconst Γ dX0_keystoneOf_0 rfl ?_
  refine jq_istore_n (L' := [(1, jI (-1)), (0, jR p0)]) Γ dX0_keystoneOf_1 rfl hnl rfl rfl ?_
  refine jq_iconst Γ dX0_keystoneOf_2 rfl ?_
  refine jq_istore_n (L' := [(2, jI 0), (1, jI (-1)), (0, jR p0)]) Γ dX0_keystoneOf_3 rfl hnl rfl rfl ?_
  refine jq_iconst Γ dX0_keystoneOf_4 rfl ?_
  refine jq_istore_n (L' := [(3, jI 0), (2, jI 0), (1, jI (-1)), (0, jR p0)]) Γ dX0_keystoneOf_5 rfl hnl rfl rfl ?_
  refine jq_sub Γ (L' := [(0, jR p0), (1, jI (-1)), (2, jI 0), (3, jI 0)]) [3, 2, 1, 0] rfl ?_
  refine jq_loop2 (C := fun (t1 : Int × Int × Int) => jq_V jq_zX X (jq_zN jq_zX) σ 6 [(0, jR p0), (1, jI t1.1), (2, jI t1.2.1), (3, jI t1.2.2)] []) (KX := fun (e6 : Int) => jq_V jq_zX X (jq_zN jq_zX) σ 41 [(1, jI e6)] []) ?_ ?_ ((-1), 0, 0)
  · intro K6_t1 hCt1 hXt1 t1
    unfold X0_keystoneOf_b6
    refine jq_iload_n Γ dX0_keystoneOf_6 rfl 3 rfl ?_
    refine jq_aload_n Γ dX0_keystoneOf_7 rfl 0 rfl (jq_at_0 (at_com hp0)) ?_
    refine jq_getI (J := 4) Γ (at_com hp0) fl_RX0_18 rfl rfl dX0_keystoneOf_8 ?_
    refine jq_icmp_ge (tgt := 41) Γ dX0_keystoneOf_11 rfl ?_ ?_
    · refine jq_sub Γ (L' := [(1, jI t1.1)]) [1] rfl ?_
      exact jq_done (hXt1 t1.1)
    · refine jq_aload_n Γ dX0_keystoneOf_14 rfl 0 rfl (jq_at_0 (at_com hp0)) ?_
      refine jq_iload_n Γ dX0_keystoneOf_15 rfl 3 rfl ?_
      refine jq_cpI (jq_virt (avs := [jI t1.2.2]) (st := []) Γ hlY rfl ml_RX0_24 rfl (at_com hp0) rfl rfl rfl rfl rfl dX0_keystoneOf_16) (fun r h => ctX1_allFallsOf hp0 h) (fun v2 => ?_)
      refine jq_cpI (jq_stat (avs := [jI v2]) (st := []) Γ hlY rfl ml_RX0_28 rfl rfl rfl rfl rfl dX0_keystoneOf_19) (fun r h => ctJ6_bitCount_0f7a4 h) (fun v3 => ?_)
      refine jq_istore (L' := [(4, jI v3), (0, jR p0), (1, jI t1.1), (2, jI t1.2.1), (3, jI t1.2.2)]) Γ dX0_keystoneOf_22 hnl rfl rfl ?_
      refine jq_iload Γ dX0_keystoneOf_24 0 rfl ?_
      refine jq_iload_n Γ dX0_keystoneOf_26 rfl 3 rfl ?_
      refine jq_icmp_le (tgt := 35) Γ dX0_keystoneOf_27 rfl ?_ ?_
      · refine jq_iincN (L' := fun v4 => [(3, jI v4), (4, jI v3), (0, jR p0), (1, jI t1.1), (2, jI t1.2.1)]) Γ dX0_keystoneOf_35 4 rfl hnl rfl (fun _ => rfl) (fun v4 => ?_)
        refine jq_goto Γ (tgt := 6) dX0_keystoneOf_38 rfl ?_
        refine jq_sub Γ (L' := [(0, jR p0), (1, jI t1.1), (2, jI t1.2.1), (3, jI v4)]) [2, 3, 4, 0] rfl ?_
        exact jq_done (hCt1 (t1.1, t1.2.1, v4))
      · refine jq_iload Γ dX0_keystoneOf_30 0 rfl ?_
        refine jq_istore_n (L' := [(2, jI v3), (4, jI v3), (0, jR p0), (1, jI t1.1), (3, jI t1.2.2)]) Γ dX0_keystoneOf_32 rfl hnl rfl rfl ?_
        refine jq_iload_n Γ dX0_keystoneOf_33 rfl 4 rfl ?_
        refine jq_istore_n (L' := [(1, jI t1.2.2), (2, jI v3), (4, jI v3), (0, jR p0), (3, jI t1.2.2)]) Γ dX0_keystoneOf_34 rfl hnl rfl rfl ?_
        refine jq_iincN (L' := fun v5 => [(3, jI v5), (1, jI t1.2.2), (2, jI v3), (4, jI v3), (0, jR p0)]) Γ dX0_keystoneOf_35 4 rfl hnl rfl (fun _ => rfl) (fun v5 => ?_)
        refine jq_goto Γ (tgt := 6) dX0_keystoneOf_38 rfl ?_
        refine jq_sub Γ (L' := [(0, jR p0), (1, jI t1.2.2), (2, jI v3), (3, jI v5)]) [4, 1, 2, 0] rfl ?_
        exact jq_done (hCt1 (t1.2.2, v3, v5))
  · intro e6
    refine jq_iload_n Γ dX0_keystoneOf_41 rfl 0 rfl ?_
    exact jq_ireturn Γ dX0_keystoneOf_42 (hK0 _)


theorem dX10_keystone_0 : decode cX10_keystone 0 = .ok (.aload_n 0, 1) := by decide +kernel
theorem dX10_keystone_1 : decode cX10_keystone 1 = .ok (.aload_n 0, 1) := by decide +kernel
theorem dX10_keystone_2 : decode cX10_keystone 2 = .ok (.getfield 25, 3) := by decide +kernel
theorem dX10_keystone_5 : decode cX10_keystone 5 = .ok (.invokestatic 391, 3) := by decide +kernel
theorem dX10_keystone_8 : decode cX10_keystone 8 = .ok (.invokevirtual 218, 3) := by decide +kernel
theorem dX10_keystone_11 : decode cX10_keystone 11 = .ok (.ireturn, 1) := by decide +kernel
set_option maxHeartbeats 4000000 in
set_option maxRecDepth 100000 in
theorem ctX10_keystone  {σ : jq_M} {res : Int} {σ' : jq_M}  (h : X10_keystone σ = some (res, σ')) : jq_MC jq_zX yX10_keystone cX10_keystone 1 (some .int) 3 87 [jR 0] σ (some (jI res)) σ' := by
  refine jq_met (own := RX10) (L0 := [(0, jR 0)]) (by decide) rfl rfl rfl ?_
  intro X Γ hnl hlY hRT
  refine jq_use2 (P := fun r => jq_RT jq_zX X (some .int) (some (jI r.1)) r.2) ?_ h hRT
  intro K0 hK0
  unfold X10_keystone
  refine jq_aload_n Γ dX10_keystone_0 rfl 0 rfl (jq_at_0 at_X_0) ?_
  refine jq_aload_n Γ dX10_keystone_1 rfl 0 rfl (jq_at_0 at_X_0) ?_
  refine jq_getC (C := jq_cm2) Γ hlY at_X_0 fl_RX10_25 rfl rfl ly_now dX10_keystone_2 (fun c1 hc2q => ?_)
  have hc2 := jq_cm2_com hc2q
  refine jq_cpI (jq_stat (avs := [jR c1]) (st := [jR 0]) Γ hlY rfl ml_RX10_391 rfl rfl rfl rfl rfl dX10_keystone_5) (fun r h => ctX0_keystoneOf hc2 h) (fun v3 => ?_)
  refine jq_cwI (jq_virt (avs := [jI v3]) (st := []) Γ hlY rfl ml_RX10_218 rfl at_X_0 rfl rfl rfl rfl rfl dX10_keystone_8) (fun r σ' h => ctX10_answerOrNone h) (fun v4 s5 => ?_)
  exact jq_ireturn Γ dX10_keystone_11 (hK0 _)


