theorem yf_X1_raiseOne : Cond.instanceMethod yX1_raiseOne ∈ jq_T ∧ Cond.selects (yX1_raiseOne).cls yX1_raiseOne yX1_raiseOne ∈ jq_T ∧ Cond.initialized (yX1_raiseOne).cls ∈ jq_T ∧ Cond.code yX1_raiseOne cX1_raiseOne 2 (some .boolean) ∈ jq_T ∧ ((yX1_raiseOne).cls ≠ "java/lang/invoke/MethodHandle" ∧ (yX1_raiseOne).cls ≠ "java/lang/invoke/VarHandle" ∧ (parseMethodDescriptor (yX1_raiseOne).desc).map (fun d => d.parameters.length) = some 1) := ⟨jq_in 1065 (by decide +kernel) rfl, jq_in 1066 (by decide +kernel) rfl, jq_in 144 (by decide +kernel) rfl, jq_in 1067 (by decide +kernel) rfl, ⟨by decide, by decide, by decide +kernel⟩⟩
theorem ml_RX10_295 : jq_vl RX10 295 yX1_raiseOne cX1_raiseOne 2 (some .boolean) 1 := ⟨jq_in 1064 (by decide +kernel) rfl, yf_X1_raiseOne⟩
theorem yf_X1_swapTwo : Cond.instanceMethod yX1_swapTwo ∈ jq_T ∧ Cond.selects (yX1_swapTwo).cls yX1_swapTwo yX1_swapTwo ∈ jq_T ∧ Cond.initialized (yX1_swapTwo).cls ∈ jq_T ∧ Cond.code yX1_swapTwo cX1_swapTwo 6 (some .boolean) ∈ jq_T ∧ ((yX1_swapTwo).cls ≠ "java/lang/invoke/MethodHandle" ∧ (yX1_swapTwo).cls ≠ "java/lang/invoke/VarHandle" ∧ (parseMethodDescriptor (yX1_swapTwo).desc).map (fun d => d.parameters.length) = some 3) := ⟨jq_in 1073 (by decide +kernel) rfl, jq_in 1074 (by decide +kernel) rfl, jq_in 144 (by decide +kernel) rfl, jq_in 1075 (by decide +kernel) rfl, ⟨by decide, by decide, by decide +kernel⟩⟩
theorem ml_RX10_298 : jq_vl RX10 298 yX1_swapTwo cX1_swapTwo 6 (some .boolean) 3 := ⟨jq_in 1072 (by decide +kernel) rfl, yf_X1_swapTwo⟩
theorem kc_RJ6_265 : Cond.constant RJ6 265 (Int32.ofInt (1431655765)) ∈ jq_T := jq_in 1087 (by decide +kernel) rfl
theorem kc_RJ6_266 : Cond.constant RJ6 266 (Int32.ofInt (858993459)) ∈ jq_T := jq_in 1088 (by decide +kernel) rfl
theorem kc_RJ6_267 : Cond.constant RJ6 267 (Int32.ofInt (252645135)) ∈ jq_T := jq_in 1089 (by decide +kernel) rfl
theorem yf_X1_turnAll : Cond.instanceMethod yX1_turnAll ∈ jq_T ∧ Cond.selects (yX1_turnAll).cls yX1_turnAll yX1_turnAll ∈ jq_T ∧ Cond.initialized (yX1_turnAll).cls ∈ jq_T ∧ Cond.code yX1_turnAll cX1_turnAll 4 none ∈ jq_T ∧ ((yX1_turnAll).cls ≠ "java/lang/invoke/MethodHandle" ∧ (yX1_turnAll).cls ≠ "java/lang/invoke/VarHandle" ∧ (parseMethodDescriptor (yX1_turnAll).desc).map (fun d => d.parameters.length) = some 2) := ⟨jq_in 1081 (by decide +kernel) rfl, jq_in 1082 (by decide +kernel) rfl, jq_in 144 (by decide +kernel) rfl, jq_in 1083 (by decide +kernel) rfl, ⟨by decide, by decide, by decide +kernel⟩⟩
theorem ml_RX10_302 : jq_vl RX10 302 yX1_turnAll cX1_turnAll 4 none 2 := ⟨jq_in 1080 (by decide +kernel) rfl, yf_X1_turnAll⟩
theorem yf_J6_bitCount_0f7a4 : Cond.static yJ6_bitCount_0f7a4 ∈ jq_T ∧ Cond.initialized (yJ6_bitCount_0f7a4).cls ∈ jq_T ∧ Cond.code yJ6_bitCount_0f7a4 cJ6_bitCount_0f7a4 1 (some .int) ∈ jq_T ∧ ((yJ6_bitCount_0f7a4).cls ≠ "java/lang/invoke/MethodHandle" ∧ (yJ6_bitCount_0f7a4).cls ≠ "java/lang/invoke/VarHandle" ∧ (parseMethodDescriptor (yJ6_bitCount_0f7a4).desc).map (fun d => d.parameters.length) = some 1) := ⟨jq_in 1085 (by decide +kernel) rfl, jq_in 155 (by decide +kernel) rfl, jq_in 1086 (by decide +kernel) rfl, ⟨by decide, by decide, by decide +kernel⟩⟩
theorem ml_RX10_306 : jq_sl RX10 306 yJ6_bitCount_0f7a4 cJ6_bitCount_0f7a4 1 (some .int) 1 := ⟨jq_in 1084 (by decide +kernel) rfl, yf_J6_bitCount_0f7a4⟩
theorem fl_RX1_46 : jq_fl RX1 46 1 21 18 true := ⟨RX1, TX1, tyX1, cls_X1, by decide, jq_in 385 (by decide +kernel) rfl, by decide⟩
theorem fl_RX1_37 : jq_fl RX1 37 1 21 15 true := ⟨RX1, TX1, tyX1, cls_X1, by decide, jq_in 373 (by decide +kernel) rfl, by decide⟩
theorem yf_X1_workAt : Cond.instanceMethod yX1_workAt ∈ jq_T ∧ Cond.selects (yX1_workAt).cls yX1_workAt yX1_workAt ∈ jq_T ∧ Cond.initialized (yX1_workAt).cls ∈ jq_T ∧ Cond.code yX1_workAt cX1_workAt 2 none ∈ jq_T ∧ ((yX1_workAt).cls ≠ "java/lang/invoke/MethodHandle" ∧ (yX1_workAt).cls ≠ "java/lang/invoke/VarHandle" ∧ (parseMethodDescriptor (yX1_workAt).desc).map (fun d => d.parameters.length) = some 1) := ⟨jq_in 1104 (by decide +kernel) rfl, jq_in 17 (by decide +kernel) rfl, jq_in 144 (by decide +kernel) rfl, jq_in 1105 (by decide +kernel) rfl, ⟨by decide, by decide, by decide +kernel⟩⟩
theorem ml_RX1_164 : jq_vl RX1 164 yX1_workAt cX1_workAt 2 none 1 := ⟨jq_in 1102 (by decide +kernel) rfl, yf_X1_workAt⟩
theorem yf_X1_passOneDay : Cond.instanceMethod yX1_passOneDay ∈ jq_T ∧ Cond.selects (yX1_passOneDay).cls yX1_passOneDay yX1_passOneDay ∈ jq_T ∧ Cond.initialized (yX1_passOneDay).cls ∈ jq_T ∧ Cond.code yX1_passOneDay cX1_passOneDay 3 (some .int) ∈ jq_T ∧ ((yX1_passOneDay).cls ≠ "java/lang/invoke/MethodHandle" ∧ (yX1_passOneDay).cls ≠ "java/lang/invoke/VarHandle" ∧ (parseMethodDescriptor (yX1_passOneDay).desc).map (fun d => d.parameters.length) = some 0) := ⟨jq_in 1099 (by decide +kernel) rfl, jq_in 1100 (by decide +kernel) rfl, jq_in 144 (by decide +kernel) rfl, jq_in 1101 (by decide +kernel) rfl, ⟨by decide, by decide, by decide +kernel⟩⟩
theorem ml_RX1_160 : jq_vl RX1 160 yX1_passOneDay cX1_passOneDay 3 (some .int) 0 := ⟨jq_in 1098 (by decide +kernel) rfl, yf_X1_passOneDay⟩
theorem yf_X1_passDays : Cond.instanceMethod yX1_passDays ∈ jq_T ∧ Cond.selects (yX1_passDays).cls yX1_passDays yX1_passDays ∈ jq_T ∧ Cond.initialized (yX1_passDays).cls ∈ jq_T ∧ Cond.code yX1_passDays cX1_passDays 4 (some .int) ∈ jq_T ∧ ((yX1_passDays).cls ≠ "java/lang/invoke/MethodHandle" ∧ (yX1_passDays).cls ≠ "java/lang/invoke/VarHandle" ∧ (parseMethodDescriptor (yX1_passDays).desc).map (fun d => d.parameters.length) = some 1) := ⟨jq_in 1095 (by decide +kernel) rfl, jq_in 1096 (by decide +kernel) rfl, jq_in 144 (by decide +kernel) rfl, jq_in 1097 (by decide +kernel) rfl, ⟨by decide, by decide, by decide +kernel⟩⟩
theorem ml_RX10_311 : jq_vl RX10 311 yX1_passDays cX1_passDays 4 (some .int) 1 := ⟨jq_in 1094 (by decide +kernel) rfl, yf_X1_passDays⟩
theorem yf_X1_agreeOn : Cond.instanceMethod yX1_agreeOn ∈ jq_T ∧ Cond.selects (yX1_agreeOn).cls yX1_agreeOn yX1_agreeOn ∈ jq_T ∧ Cond.initialized (yX1_agreeOn).cls ∈ jq_T ∧ Cond.code yX1_agreeOn cX1_agreeOn 2 (some .boolean) ∈ jq_T ∧ ((yX1_agreeOn).cls ≠ "java/lang/invoke/MethodHandle" ∧ (yX1_agreeOn).cls ≠ "java/lang/invoke/VarHandle" ∧ (parseMethodDescriptor (yX1_agreeOn).desc).map (fun d => d.parameters.length) = some 1) := ⟨jq_in 1111 (by decide +kernel) rfl, jq_in 1112 (by decide +kernel) rfl, jq_in 144 (by decide +kernel) rfl, jq_in 1113 (by decide +kernel) rfl, ⟨by decide, by decide, by decide +kernel⟩⟩
theorem ml_RX10_314 : jq_vl RX10 314 yX1_agreeOn cX1_agreeOn 2 (some .boolean) 1 := ⟨jq_in 1110 (by decide +kernel) rfl, yf_X1_agreeOn⟩
theorem ml_RX1_149 : jq_vl RX1 149 yX1_isAgreed cX1_isAgreed 2 (some .boolean) 1 := ⟨jq_in 1122 (by decide +kernel) rfl, yf_X1_isAgreed⟩
theorem yf_X1_allFallsOf : Cond.instanceMethod yX1_allFallsOf ∈ jq_T ∧ Cond.selects (yX1_allFallsOf).cls yX1_allFallsOf yX1_allFallsOf ∈ jq_T ∧ Cond.initialized (yX1_allFallsOf).cls ∈ jq_T ∧ Cond.code yX1_allFallsOf cX1_allFallsOf 4 (some .int) ∈ jq_T ∧ ((yX1_allFallsOf).cls ≠ "java/lang/invoke/MethodHandle" ∧ (yX1_allFallsOf).cls ≠ "java/lang/invoke/VarHandle" ∧ (parseMethodDescriptor (yX1_allFallsOf).desc).map (fun d => d.parameters.length) = some 1) := ⟨jq_in 1124 (by decide +kernel) rfl, jq_in 1125 (by decide +kernel) rfl, jq_in 144 (by decide +kernel) rfl, jq_in 1126 (by decide +kernel) rfl, ⟨by decide, by decide, by decide +kernel⟩⟩
theorem ml_RX1_152 : jq_vl RX1 152 yX1_allFallsOf cX1_allFallsOf 4 (some .int) 1 := ⟨jq_in 1123 (by decide +kernel) rfl, yf_X1_allFallsOf⟩
theorem ml_RX1_155 : jq_sl RX1 155 yJ6_bitCount_0f7a4 cJ6_bitCount_0f7a4 1 (some .int) 1 := ⟨jq_in 1127 (by decide +kernel) rfl, yf_J6_bitCount_0f7a4⟩
theorem yf_X1_letFall : Cond.instanceMethod yX1_letFall ∈ jq_T ∧ Cond.selects (yX1_letFall).cls yX1_letFall yX1_letFall ∈ jq_T ∧ Cond.initialized (yX1_letFall).cls ∈ jq_T ∧ Cond.code yX1_letFall cX1_letFall 4 (some .int) ∈ jq_T ∧ ((yX1_letFall).cls ≠ "java/lang/invoke/MethodHandle" ∧ (yX1_letFall).cls ≠ "java/lang/invoke/VarHandle" ∧ (parseMethodDescriptor (yX1_letFall).desc).map (fun d => d.parameters.length) = some 1) := ⟨jq_in 1119 (by decide +kernel) rfl, jq_in 1120 (by decide +kernel) rfl, jq_in 144 (by decide +kernel) rfl, jq_in 1121 (by decide +kernel) rfl, ⟨by decide, by decide, by decide +kernel⟩⟩
theorem ml_RX10_317 : jq_vl RX10 317 yX1_letFall cX1_letFall 4 (some .int) 1 := ⟨jq_in 1118 (by decide +kernel) rfl, yf_X1_letFall⟩
theorem yf_X1_isCorner : Cond.instanceMethod yX1_isCorner ∈ jq_T ∧ Cond.selects (yX1_isCorner).cls yX1_isCorner yX1_isCorner ∈ jq_T ∧ Cond.initialized (yX1_isCorner).cls ∈ jq_T ∧ Cond.code yX1_isCorner cX1_isCorner 2 (some .boolean) ∈ jq_T ∧ ((yX1_isCorner).cls ≠ "java/lang/invoke/MethodHandle" ∧ (yX1_isCorner).cls ≠ "java/lang/invoke/VarHandle" ∧ (parseMethodDescriptor (yX1_isCorner).desc).map (fun d => d.parameters.length) = some 1) := ⟨jq_in 1141 (by decide +kernel) rfl, jq_in 1142 (by decide +kernel) rfl, jq_in 144 (by decide +kernel) rfl, jq_in 1143 (by decide +kernel) rfl, ⟨by decide, by decide, by decide +kernel⟩⟩
theorem ml_RX10_320 : jq_vl RX10 320 yX1_isCorner cX1_isCorner 2 (some .boolean) 1 := ⟨jq_in 1140 (by decide +kernel) rfl, yf_X1_isCorner⟩
theorem fl_RX8_24 : jq_fl RX8 24 1 21 0 false := ⟨RX1, TX1, tyX1, cls_X1, by decide, jq_in 322 (by decide +kernel) rfl, by decide⟩
theorem fl_RX8_30 : jq_fl RX8 30 1 21 2 false := ⟨RX1, TX1, tyX1, cls_X1, by decide, jq_in 333 (by decide +kernel) rfl, by decide⟩
theorem fl_RX10_46 : jq_fl RX10 46 7 18 12 true := ⟨RX10, TX10, tyX10, cls_X10, by decide, jq_in 534 (by decide +kernel) rfl, by decide⟩
theorem yf_X8_count : Cond.instanceMethod yX8_count ∈ jq_T ∧ Cond.selects (yX8_count).cls yX8_count yX8_count ∈ jq_T ∧ Cond.initialized (yX8_count).cls ∈ jq_T ∧ Cond.code yX8_count cX8_count 4 (some .int) ∈ jq_T ∧ ((yX8_count).cls ≠ "java/lang/invoke/MethodHandle" ∧ (yX8_count).cls ≠ "java/lang/invoke/VarHandle" ∧ (parseMethodDescriptor (yX8_count).desc).map (fun d => d.parameters.length) = some 1) := ⟨jq_in 1149 (by decide +kernel) rfl, jq_in 1150 (by decide +kernel) rfl, jq_in 146 (by decide +kernel) rfl, jq_in 1151 (by decide +kernel) rfl, ⟨by decide, by decide, by decide +kernel⟩⟩
theorem ml_RX10_323 : jq_vl RX10 323 yX8_count cX8_count 4 (some .int) 1 := ⟨jq_in 1148 (by decide +kernel) rfl, yf_X8_count⟩
theorem ml_RX8_50 : jq_nl RX8 50 yX10_holds "StandTable" cX10_holds 2 (some .boolean) 2 := ⟨jq_inN 1174 (by decide +kernel) rfl, yf_X10_holds⟩
theorem dX1_raiseOne_0 : decode cX1_raiseOne 0 = .ok (.aload_n 0, 1) := by decide +kernel
theorem dX1_raiseOne_1 : decode cX1_raiseOne 1 = .ok (.iload_n 1, 1) := by decide +kernel
theorem dX1_raiseOne_2 : decode cX1_raiseOne 2 = .ok (.invokevirtual 98, 3) := by decide +kernel
theorem dX1_raiseOne_5 : decode cX1_raiseOne 5 = .ok (.ifCond .eq 13, 3) := by decide +kernel
theorem dX1_raiseOne_8 : decode cX1_raiseOne 8 = .ok (.aload_n 0, 1) := by decide +kernel
theorem dX1_raiseOne_9 : decode cX1_raiseOne 9 = .ok (.getfield 19, 3) := by decide +kernel
theorem dX1_raiseOne_12 : decode cX1_raiseOne 12 = .ok (.iload_n 1, 1) := by decide +kernel
theorem dX1_raiseOne_13 : decode cX1_raiseOne 13 = .ok (.iaload, 1) := by decide +kernel
theorem dX1_raiseOne_14 : decode cX1_raiseOne 14 = .ok (.iconst (-1), 1) := by decide +kernel
theorem dX1_raiseOne_15 : decode cX1_raiseOne 15 = .ok (.if_icmp .ne 5, 3) := by decide +kernel
theorem dX1_raiseOne_18 : decode cX1_raiseOne 18 = .ok (.iconst 0, 1) := by decide +kernel
theorem dX1_raiseOne_19 : decode cX1_raiseOne 19 = .ok (.ireturn, 1) := by decide +kernel
theorem dX1_raiseOne_20 : decode cX1_raiseOne 20 = .ok (.aload_n 0, 1) := by decide +kernel
theorem dX1_raiseOne_21 : decode cX1_raiseOne 21 = .ok (.getfield 19, 3) := by decide +kernel
theorem dX1_raiseOne_24 : decode cX1_raiseOne 24 = .ok (.iload_n 1, 1) := by decide +kernel
theorem dX1_raiseOne_25 : decode cX1_raiseOne 25 = .ok (.iconst (-1), 1) := by decide +kernel
theorem dX1_raiseOne_26 : decode cX1_raiseOne 26 = .ok (.iastore, 1) := by decide +kernel
theorem dX1_raiseOne_27 : decode cX1_raiseOne 27 = .ok (.iconst 1, 1) := by decide +kernel
theorem dX1_raiseOne_28 : decode cX1_raiseOne 28 = .ok (.ireturn, 1) := by decide +kernel
set_option maxHeartbeats 4000000 in
set_option maxRecDepth 100000 in
theorem ctX1_raiseOne {o : Int} {p1 : Int} {σ : jq_M} {res : Int} {σ' : jq_M} (ho : jq_com o) (h : X1_raiseOne o p1 σ = some (res, σ')) : jq_MC jq_zX yX1_raiseOne cX1_raiseOne 2 (some .boolean) 2 61 [jR o, jI p1] σ (some (jI res)) σ' := by
  refine jq_met (own := RX1) (L0 := [(0, jR o), (1, jI p1)]) (by decide) rfl rfl rfl ?_
  intro X Γ hnl hlY hRT
  refine jq_use2 (P := fun r => jq_RT jq_zX X (some .boolean) (some (jI r.1)) r.2) ?_ h hRT
  intro K0 hK0
  unfold X1_raiseOne
  refine jq_aload_n Γ dX1_raiseOne_0 rfl 0 rfl (jq_at_0 (at_com ho)) ?_
  refine jq_iload_n Γ dX1_raiseOne_1 rfl 1 rfl ?_
  refine jq_cpZ (jq_virt (avs := [jI p1]) (st := []) Γ hlY rfl ml_RX1_98 rfl (at_com ho) rfl rfl rfl rfl rfl dX1_raiseOne_2) rfl (fun r h => ctX1_isParty ho h) (fun v1 hz2 => ?_)
  refine jq_if_eq (tgt := 18) Γ dX1_raiseOne_5 rfl ?_ ?_
  · refine jq_iconst Γ dX1_raiseOne_18 rfl ?_
    exact jq_zreturn Γ (Or.inl rfl) dX1_raiseOne_19 (hK0 _)
  · refine jq_aload_n Γ dX1_raiseOne_8 rfl 0 rfl (jq_at_0 (at_com ho)) ?_
    refine jq_getR (v := (o + 3)) Γ hlY (at_com ho) fl_RX1_19 rfl rfl (ly_X1_seats ho) dX1_raiseOne_9 ?_
    refine jq_iload_n Γ dX1_raiseOne_12 rfl 1 rfl ?_
    refine jq_iald Γ (at_com_3 ho) rfl dX1_raiseOne_13 (fun v3 => ?_)
    refine jq_iconst Γ dX1_raiseOne_14 rfl ?_
    refine jq_icmp_ne (tgt := 20) Γ dX1_raiseOne_15 rfl ?_ ?_
    · refine jq_aload_n Γ dX1_raiseOne_20 rfl 0 rfl (jq_at_0 (at_com ho)) ?_
      refine jq_getR (v := (o + 3)) Γ hlY (at_com ho) fl_RX1_19 rfl rfl (ly_X1_seats ho) dX1_raiseOne_21 ?_
      refine jq_iload_n Γ dX1_raiseOne_24 rfl 1 rfl ?_
      refine jq_iconst Γ dX1_raiseOne_25 rfl ?_
      refine jq_iast Γ (at_com_3 ho) rfl dX1_raiseOne_26 (fun s4 => ?_)
      refine jq_iconst Γ dX1_raiseOne_27 rfl ?_
      exact jq_zreturn Γ (Or.inr rfl) dX1_raiseOne_28 (hK0 _)
    · refine jq_iconst Γ dX1_raiseOne_18 rfl ?_
      exact jq_zreturn Γ (Or.inl rfl) dX1_raiseOne_19 (hK0 _)


theorem dX10_rise_0 : decode cX10_rise 0 = .ok (.aload_n 0, 1) := by decide +kernel
theorem dX10_rise_1 : decode cX10_rise 1 = .ok (.getfield 25, 3) := by decide +kernel
theorem dX10_rise_4 : decode cX10_rise 4 = .ok (.iload_n 1, 1) := by decide +kernel
theorem dX10_rise_5 : decode cX10_rise 5 = .ok (.invokevirtual 227, 3) := by decide +kernel
theorem dX10_rise_8 : decode cX10_rise 8 = .ok (.ifCond .ne 9, 3) := by decide +kernel
theorem dX10_rise_11 : decode cX10_rise 11 = .ok (.aload_n 0, 1) := by decide +kernel
theorem dX10_rise_12 : decode cX10_rise 12 = .ok (.iconst 1, 1) := by decide +kernel
theorem dX10_rise_13 : decode cX10_rise 13 = .ok (.invokevirtual 117, 3) := by decide +kernel
theorem dX10_rise_16 : decode cX10_rise 16 = .ok (.ireturn, 1) := by decide +kernel
theorem dX10_rise_17 : decode cX10_rise 17 = .ok (.aload_n 0, 1) := by decide +kernel
theorem dX10_rise_18 : decode cX10_rise 18 = .ok (.getfield 25, 3) := by decide +kernel
theorem dX10_rise_21 : decode cX10_rise 21 = .ok (.getfield 200, 3) := by decide +kernel
theorem dX10_rise_24 : decode cX10_rise 24 = .ok (.iload_n 1, 1) := by decide +kernel
theorem dX10_rise_25 : decode cX10_rise 25 = .ok (.iaload, 1) := by decide +kernel
theorem dX10_rise_26 : decode cX10_rise 26 = .ok (.istore_n 2, 1) := by decide +kernel
theorem dX10_rise_27 : decode cX10_rise 27 = .ok (.aload_n 0, 1) := by decide +kernel
theorem dX10_rise_28 : decode cX10_rise 28 = .ok (.getfield 25, 3) := by decide +kernel
theorem dX10_rise_31 : decode cX10_rise 31 = .ok (.iload_n 1, 1) := by decide +kernel
theorem dX10_rise_32 : decode cX10_rise 32 = .ok (.invokevirtual 295, 3) := by decide +kernel
theorem dX10_rise_35 : decode cX10_rise 35 = .ok (.ifCond .ne 10, 3) := by decide +kernel
theorem dX10_rise_38 : decode cX10_rise 38 = .ok (.aload_n 0, 1) := by decide +kernel
theorem dX10_rise_39 : decode cX10_rise 39 = .ok (.bipush 7, 2) := by decide +kernel
theorem dX10_rise_41 : decode cX10_rise 41 = .ok (.invokevirtual 117, 3) := by decide +kernel
theorem dX10_rise_44 : decode cX10_rise 44 = .ok (.ireturn, 1) := by decide +kernel
theorem dX10_rise_45 : decode cX10_rise 45 = .ok (.aload_n 0, 1) := by decide +kernel
theorem dX10_rise_46 : decode cX10_rise 46 = .ok (.iload_n 2, 1) := by decide +kernel
theorem dX10_rise_47 : decode cX10_rise 47 = .ok (.invokevirtual 167, 3) := by decide +kernel
theorem dX10_rise_50 : decode cX10_rise 50 = .ok (.ireturn, 1) := by decide +kernel
set_option maxHeartbeats 4000000 in
set_option maxRecDepth 100000 in
theorem ctX10_rise {p1 : Int} {σ : jq_M} {res : Int} {σ' : jq_M}  (h : X10_rise p1 σ = some (res, σ')) : jq_MC jq_zX yX10_rise cX10_rise 3 (some .int) 3 82 [jR 0, jI p1] σ (some (jI res)) σ' := by
  refine jq_met (own := RX10) (L0 := [(0, jR 0), (1, jI p1)]) (by decide) rfl rfl rfl ?_
  intro X Γ hnl hlY hRT
  refine jq_use2 (P := fun r => jq_RT jq_zX X (some .int) (some (jI r.1)) r.2) ?_ h hRT
  intro K0 hK0
  unfold X10_rise
  refine jq_aload_n Γ dX10_rise_0 rfl 0 rfl (jq_at_0 at_X_0) ?_
  refine jq_getC (C := jq_cm2) Γ hlY at_X_0 fl_RX10_25 rfl rfl ly_now dX10_rise_1 (fun c1 hc2q => ?_)
  have hc2 := jq_cm2_com hc2q
  refine jq_iload_n Γ dX10_rise_4 rfl 1 rfl ?_
  refine jq_cpZ (jq_virt (avs := [jI p1]) (st := []) Γ hlY rfl ml_RX10_227 rfl (at_com hc2) rfl rfl rfl rfl rfl dX10_rise_5) rfl (fun r h => ctX1_isParty hc2 h) (fun v3 hz4 => ?_)
  refine jq_if_ne (tgt := 17) Γ dX10_rise_8 rfl ?_ ?_
  · refine jq_aload_n Γ dX10_rise_17 rfl 0 rfl (jq_at_0 at_X_0) ?_
    refine jq_getC (C := jq_cm2) Γ hlY at_X_0 fl_RX10_25 rfl rfl ly_now dX10_rise_18 (fun c5 hc6q => ?_)
    have hc6 := jq_cm2_com hc6q
    refine jq_getR (v := (c5 + 3)) Γ hlY (at_com hc6) fl_RX10_200 rfl rfl (ly_X1_seats hc6) dX10_rise_21 ?_
    refine jq_iload_n Γ dX10_rise_24 rfl 1 rfl ?_
    refine jq_iald Γ (at_com_3 hc6) rfl dX10_rise_25 (fun v7 => ?_)
    refine jq_istore_n (L' := [(2, jI v7), (0, jR 0), (1, jI p1)]) Γ dX10_rise_26 rfl hnl rfl rfl ?_
    refine jq_aload_n Γ dX10_rise_27 rfl 1 rfl (jq_at_0 at_X_0) ?_
    refine jq_getC (C := jq_cm2) Γ hlY at_X_0 fl_RX10_25 rfl rfl ly_now dX10_rise_28 (fun c8 hc9q => ?_)
    have hc9 := jq_cm2_com hc9q
    refine jq_iload_n Γ dX10_rise_31 rfl 2 rfl ?_
    refine jq_cwZ (jq_virt (avs := [jI p1]) (st := []) Γ hlY rfl ml_RX10_295 rfl (at_com hc9) rfl rfl rfl rfl rfl dX10_rise_32) rfl (fun r σ' h => ctX1_raiseOne hc9 h) (fun v10 s11 hz12 => ?_)
    refine jq_if_ne (tgt := 45) Γ dX10_rise_35 rfl ?_ ?_
    · refine jq_aload_n Γ dX10_rise_45 rfl 1 rfl (jq_at_0 at_X_0) ?_
      refine jq_iload_n Γ dX10_rise_46 rfl 0 rfl ?_
      refine jq_cwI (jq_virt (avs := [jI v7]) (st := []) Γ hlY rfl ml_RX10_167 rfl at_X_0 rfl rfl rfl rfl rfl dX10_rise_47) (fun r σ' h => ctX10_answer h) (fun v13 s14 => ?_)
      exact jq_ireturn Γ dX10_rise_50 (hK0 _)
    · refine jq_aload_n Γ dX10_rise_38 rfl 1 rfl (jq_at_0 at_X_0) ?_
      refine jq_bipush Γ dX10_rise_39 rfl ?_
      refine jq_cwI (jq_virt (avs := [jI 7]) (st := []) Γ hlY rfl ml_RX10_117 rfl at_X_0 rfl rfl rfl rfl rfl dX10_rise_41) (fun r σ' h => ctX10_refuse h) (fun v15 s16 => ?_)
      exact jq_ireturn Γ dX10_rise_44 (hK0 _)
  · refine jq_aload_n Γ dX10_rise_11 rfl 0 rfl (jq_at_0 at_X_0) ?_
    refine jq_iconst Γ dX10_rise_12 rfl ?_
    refine jq_cwI (jq_virt (avs := [jI 1]) (st := []) Γ hlY rfl ml_RX10_117 rfl at_X_0 rfl rfl rfl rfl rfl dX10_rise_13) (fun r σ' h => ctX10_refuse h) (fun v17 s18 => ?_)
    exact jq_ireturn Γ dX10_rise_16 (hK0 _)


theorem dX1_swapTwo_0 : decode cX1_swapTwo 0 = .ok (.aload_n 3, 1) := by decide +kernel
theorem dX1_swapTwo_1 : decode cX1_swapTwo 1 = .ok (.iload_n 1, 1) := by decide +kernel
theorem dX1_swapTwo_2 : decode cX1_swapTwo 2 = .ok (.invokestatic 115, 3) := by decide +kernel
theorem dX1_swapTwo_5 : decode cX1_swapTwo 5 = .ok (.istore 4, 2) := by decide +kernel
theorem dX1_swapTwo_7 : decode cX1_swapTwo 7 = .ok (.aload_n 3, 1) := by decide +kernel
theorem dX1_swapTwo_8 : decode cX1_swapTwo 8 = .ok (.iload_n 2, 1) := by decide +kernel
theorem dX1_swapTwo_9 : decode cX1_swapTwo 9 = .ok (.invokestatic 115, 3) := by decide +kernel
theorem dX1_swapTwo_12 : decode cX1_swapTwo 12 = .ok (.istore 5, 2) := by decide +kernel
theorem dX1_swapTwo_14 : decode cX1_swapTwo 14 = .ok (.iload_n 1, 1) := by decide +kernel
theorem dX1_swapTwo_15 : decode cX1_swapTwo 15 = .ok (.iload_n 2, 1) := by decide +kernel
theorem dX1_swapTwo_16 : decode cX1_swapTwo 16 = .ok (.if_icmp .eq 31, 3) := by decide +kernel
theorem dX1_swapTwo_19 : decode cX1_swapTwo 19 = .ok (.iload 4, 2) := by decide +kernel
theorem dX1_swapTwo_21 : decode cX1_swapTwo 21 = .ok (.iconst (-1), 1) := by decide +kernel
theorem dX1_swapTwo_22 : decode cX1_swapTwo 22 = .ok (.if_icmp .ne 9, 3) := by decide +kernel
theorem dX1_swapTwo_25 : decode cX1_swapTwo 25 = .ok (.iload 5, 2) := by decide +kernel
theorem dX1_swapTwo_27 : decode cX1_swapTwo 27 = .ok (.iconst (-1), 1) := by decide +kernel
theorem dX1_swapTwo_28 : decode cX1_swapTwo 28 = .ok (.if_icmp .eq 19, 3) := by decide +kernel
theorem dX1_swapTwo_31 : decode cX1_swapTwo 31 = .ok (.aload_n 0, 1) := by decide +kernel
theorem dX1_swapTwo_32 : decode cX1_swapTwo 32 = .ok (.iload_n 1, 1) := by decide +kernel
theorem dX1_swapTwo_33 : decode cX1_swapTwo 33 = .ok (.invokevirtual 98, 3) := by decide +kernel
theorem dX1_swapTwo_36 : decode cX1_swapTwo 36 = .ok (.ifCond .eq 11, 3) := by decide +kernel
theorem dX1_swapTwo_39 : decode cX1_swapTwo 39 = .ok (.aload_n 0, 1) := by decide +kernel
theorem dX1_swapTwo_40 : decode cX1_swapTwo 40 = .ok (.iload_n 2, 1) := by decide +kernel
theorem dX1_swapTwo_41 : decode cX1_swapTwo 41 = .ok (.invokevirtual 98, 3) := by decide +kernel
theorem dX1_swapTwo_44 : decode cX1_swapTwo 44 = .ok (.ifCond .ne 5, 3) := by decide +kernel
theorem dX1_swapTwo_47 : decode cX1_swapTwo 47 = .ok (.iconst 0, 1) := by decide +kernel
theorem dX1_swapTwo_48 : decode cX1_swapTwo 48 = .ok (.ireturn, 1) := by decide +kernel
theorem dX1_swapTwo_49 : decode cX1_swapTwo 49 = .ok (.aload_n 3, 1) := by decide +kernel
theorem dX1_swapTwo_50 : decode cX1_swapTwo 50 = .ok (.iload_n 1, 1) := by decide +kernel
theorem dX1_swapTwo_51 : decode cX1_swapTwo 51 = .ok (.iload 5, 2) := by decide +kernel
theorem dX1_swapTwo_53 : decode cX1_swapTwo 53 = .ok (.iastore, 1) := by decide +kernel
theorem dX1_swapTwo_54 : decode cX1_swapTwo 54 = .ok (.aload_n 3, 1) := by decide +kernel
theorem dX1_swapTwo_55 : decode cX1_swapTwo 55 = .ok (.iload_n 2, 1) := by decide +kernel
theorem dX1_swapTwo_56 : decode cX1_swapTwo 56 = .ok (.iload 4, 2) := by decide +kernel
theorem dX1_swapTwo_58 : decode cX1_swapTwo 58 = .ok (.iastore, 1) := by decide +kernel
theorem dX1_swapTwo_59 : decode cX1_swapTwo 59 = .ok (.iconst 1, 1) := by decide +kernel
theorem dX1_swapTwo_60 : decode cX1_swapTwo 60 = .ok (.ireturn, 1) := by decide +kernel
set_option maxHeartbeats 4000000 in
set_option maxRecDepth 100000 in
theorem ctX1_swapTwo {o : Int} {p1 : Int} {p2 : Int} {p3 : Int} {σ : jq_M} {res : Int} {σ' : jq_M} (ho : jq_com o) (hp3 : jq_row p3) (h : X1_swapTwo o p1 p2 p3 σ = some (res, σ')) : jq_MC jq_zX yX1_swapTwo cX1_swapTwo 6 (some .boolean) 2 61 [jR o, jI p1, jI p2, jR p3] σ (some (jI res)) σ' := by
  refine jq_met (own := RX1) (L0 := [(0, jR o), (1, jI p1), (2, jI p2), (3, jR p3)]) (by decide) rfl rfl rfl ?_
  intro X Γ hnl hlY hRT
  refine jq_use2 (P := fun r => jq_RT jq_zX X (some .boolean) (some (jI r.1)) r.2) ?_ h hRT
  intro K0 hK0
  unfold X1_swapTwo
  have hj31_0 : ∀ (j3 : Int) (j4 : Int) (s5 : jq_M), jq_J (X1_swapTwo_j31 o p1 p2 p3 j3 j4 s5) K0 (jq_V jq_zX X (jq_zN jq_zX) s5 31 [(0, jR o), (1, jI p1), (2, jI p2), (3, jR p3), (4, jI j3), (5, jI j4)] []) := by
    intro j3 j4 s5
    unfold X1_swapTwo_j31
    refine jq_aload_n Γ dX1_swapTwo_31 rfl 0 rfl (jq_at_0 (at_com ho)) ?_
    refine jq_iload_n Γ dX1_swapTwo_32 rfl 1 rfl ?_
    refine jq_cpZ (jq_virt (avs := [jI p1]) (st := []) Γ hlY rfl ml_RX1_98 rfl (at_com ho) rfl rfl rfl rfl rfl dX1_swapTwo_33) rfl (fun r h => ctX1_isParty ho h) (fun v6 hz7 => ?_)
    refine jq_if_eq (tgt := 47) Γ dX1_swapTwo_36 rfl ?_ ?_
    · refine jq_iconst Γ dX1_swapTwo_47 rfl ?_
      exact jq_zreturn Γ (Or.inl rfl) dX1_swapTwo_48 (hK0 _)
    · refine jq_aload_n Γ dX1_swapTwo_39 rfl 0 rfl (jq_at_0 (at_com ho)) ?_
      refine jq_iload_n Γ dX1_swapTwo_40 rfl 2 rfl ?_
      refine jq_cpZ (jq_virt (avs := [jI p2]) (st := []) Γ hlY rfl ml_RX1_98 rfl (at_com ho) rfl rfl rfl rfl rfl dX1_swapTwo_41) rfl (fun r h => ctX1_isParty ho h) (fun v8 hz9 => ?_)
      refine jq_if_ne (tgt := 49) Γ dX1_swapTwo_44 rfl ?_ ?_
      · refine jq_aload_n Γ dX1_swapTwo_49 rfl 3 rfl (jq_at_0 (at_row hp3)) ?_
        refine jq_iload_n Γ dX1_swapTwo_50 rfl 1 rfl ?_
        refine jq_iload Γ dX1_swapTwo_51 5 rfl ?_
        refine jq_iast Γ (at_row hp3) rfl dX1_swapTwo_53 (fun s10 => ?_)
        refine jq_aload_n Γ dX1_swapTwo_54 rfl 3 rfl (jq_at_0 (at_row hp3)) ?_
        refine jq_iload_n Γ dX1_swapTwo_55 rfl 2 rfl ?_
        refine jq_iload Γ dX1_swapTwo_56 4 rfl ?_
        refine jq_iast Γ (at_row hp3) rfl dX1_swapTwo_58 (fun s11 => ?_)
        refine jq_iconst Γ dX1_swapTwo_59 rfl ?_
        exact jq_zreturn Γ (Or.inr rfl) dX1_swapTwo_60 (hK0 _)
      · refine jq_iconst Γ dX1_swapTwo_47 rfl ?_
        exact jq_zreturn Γ (Or.inl rfl) dX1_swapTwo_48 (hK0 _)
  refine jq_aload_n Γ dX1_swapTwo_0 rfl 3 rfl (jq_at_0 (at_row hp3)) ?_
  refine jq_iload_n Γ dX1_swapTwo_1 rfl 1 rfl ?_
  refine jq_cpI (jq_stat (avs := [jR p3, jI p1]) (st := []) Γ hlY rfl ml_RX1_115 rfl rfl rfl rfl rfl dX1_swapTwo_2) (fun r h => ctX1_seatIn hp3 h) (fun v1 => ?_)
  refine jq_istore (L' := [(4, jI v1), (0, jR o), (1, jI p1), (2, jI p2), (3, jR p3)]) Γ dX1_swapTwo_5 hnl rfl rfl ?_
  refine jq_aload_n Γ dX1_swapTwo_7 rfl 4 rfl (jq_at_0 (at_row hp3)) ?_
  refine jq_iload_n Γ dX1_swapTwo_8 rfl 3 rfl ?_
  refine jq_cpI (jq_stat (avs := [jR p3, jI p2]) (st := []) Γ hlY rfl ml_RX1_115 rfl rfl rfl rfl rfl dX1_swapTwo_9) (fun r h => ctX1_seatIn hp3 h) (fun v2 => ?_)
  refine jq_istore (L' := [(5, jI v2), (4, jI v1), (0, jR o), (1, jI p1), (2, jI p2), (3, jR p3)]) Γ dX1_swapTwo_12 hnl rfl rfl ?_
  refine jq_iload_n Γ dX1_swapTwo_14 rfl 3 rfl ?_
  refine jq_iload_n Γ dX1_swapTwo_15 rfl 4 rfl ?_
  refine jq_icmp_eq (tgt := 47) Γ dX1_swapTwo_16 rfl ?_ ?_
  · refine jq_iconst Γ dX1_swapTwo_47 rfl ?_
    exact jq_zreturn Γ (Or.inl rfl) dX1_swapTwo_48 (hK0 _)
  · refine jq_iload Γ dX1_swapTwo_19 1 rfl ?_
    refine jq_iconst Γ dX1_swapTwo_21 rfl ?_
    refine jq_icmp_ne (tgt := 31) Γ dX1_swapTwo_22 rfl ?_ ?_
    · refine jq_sub Γ (L' := [(0, jR o), (1, jI p1), (2, jI p2), (3, jR p3), (4, jI v1), (5, jI v2)]) [2, 3, 4, 5, 1, 0] rfl ?_
      exact hj31_0 v1 v2 σ
    · refine jq_iload Γ dX1_swapTwo_25 0 rfl ?_
      refine jq_iconst Γ dX1_swapTwo_27 rfl ?_
      refine jq_icmp_eq (tgt := 47) Γ dX1_swapTwo_28 rfl ?_ ?_
      · refine jq_iconst Γ dX1_swapTwo_47 rfl ?_
        exact jq_zreturn Γ (Or.inl rfl) dX1_swapTwo_48 (hK0 _)
      · refine jq_sub Γ (L' := [(0, jR o), (1, jI p1), (2, jI p2), (3, jR p3), (4, jI v1), (5, jI v2)]) [2, 3, 4, 5, 1, 0] rfl ?_
        exact hj31_0 v1 v2 σ


theorem dX10_swap_0 : decode cX10_swap 0 = .ok (.aload_n 0, 1) := by decide +kernel
theorem dX10_swap_1 : decode cX10_swap 1 = .ok (.iload_n 1, 1) := by decide +kernel
theorem dX10_swap_2 : decode cX10_swap 2 = .ok (.iload_n 2, 1) := by decide +kernel
theorem dX10_swap_3 : decode cX10_swap 3 = .ok (.invokevirtual 270, 3) := by decide +kernel
theorem dX10_swap_6 : decode cX10_swap 6 = .ok (.ifCond .ne 9, 3) := by decide +kernel
theorem dX10_swap_9 : decode cX10_swap 9 = .ok (.aload_n 0, 1) := by decide +kernel
theorem dX10_swap_10 : decode cX10_swap 10 = .ok (.iconst 1, 1) := by decide +kernel
theorem dX10_swap_11 : decode cX10_swap 11 = .ok (.invokevirtual 97, 3) := by decide +kernel
theorem dX10_swap_14 : decode cX10_swap 14 = .ok (.ireturn, 1) := by decide +kernel
theorem dX10_swap_15 : decode cX10_swap 15 = .ok (.aload_n 0, 1) := by decide +kernel
theorem dX10_swap_16 : decode cX10_swap 16 = .ok (.getfield 25, 3) := by decide +kernel
theorem dX10_swap_19 : decode cX10_swap 19 = .ok (.iload_n 1, 1) := by decide +kernel
theorem dX10_swap_20 : decode cX10_swap 20 = .ok (.iload_n 2, 1) := by decide +kernel
theorem dX10_swap_21 : decode cX10_swap 21 = .ok (.aload_n 0, 1) := by decide +kernel
theorem dX10_swap_22 : decode cX10_swap 22 = .ok (.getfield 25, 3) := by decide +kernel
theorem dX10_swap_25 : decode cX10_swap 25 = .ok (.getfield 200, 3) := by decide +kernel
theorem dX10_swap_28 : decode cX10_swap 28 = .ok (.invokevirtual 298, 3) := by decide +kernel
theorem dX10_swap_31 : decode cX10_swap 31 = .ok (.ifCond .ne 10, 3) := by decide +kernel
theorem dX10_swap_34 : decode cX10_swap 34 = .ok (.aload_n 0, 1) := by decide +kernel
theorem dX10_swap_35 : decode cX10_swap 35 = .ok (.bipush 7, 2) := by decide +kernel
theorem dX10_swap_37 : decode cX10_swap 37 = .ok (.invokevirtual 97, 3) := by decide +kernel
theorem dX10_swap_40 : decode cX10_swap 40 = .ok (.ireturn, 1) := by decide +kernel
theorem dX10_swap_41 : decode cX10_swap 41 = .ok (.aload_n 0, 1) := by decide +kernel
theorem dX10_swap_42 : decode cX10_swap 42 = .ok (.invokevirtual 105, 3) := by decide +kernel
theorem dX10_swap_45 : decode cX10_swap 45 = .ok (.ireturn, 1) := by decide +kernel
set_option maxHeartbeats 4000000 in
set_option maxRecDepth 100000 in
theorem ctX10_swap {p1 : Int} {p2 : Int} {σ : jq_M} {res : Int} {σ' : jq_M}  (h : X10_swap p1 p2 σ = some (res, σ')) : jq_MC jq_zX yX10_swap cX10_swap 3 (some .boolean) 3 86 [jR 0, jI p1, jI p2] σ (some (jI res)) σ' := by
  refine jq_met (own := RX10) (L0 := [(0, jR 0), (1, jI p1), (2, jI p2)]) (by decide) rfl rfl rfl ?_
  intro X Γ hnl hlY hRT
  refine jq_use2 (P := fun r => jq_RT jq_zX X (some .boolean) (some (jI r.1)) r.2) ?_ h hRT
  intro K0 hK0
  unfold X10_swap
  refine jq_aload_n Γ dX10_swap_0 rfl 0 rfl (jq_at_0 at_X_0) ?_
  refine jq_iload_n Γ dX10_swap_1 rfl 1 rfl ?_
  refine jq_iload_n Γ dX10_swap_2 rfl 2 rfl ?_
  refine jq_cpZ (jq_virt (avs := [jI p1, jI p2]) (st := []) Γ hlY rfl ml_RX10_270 rfl at_X_0 rfl rfl rfl rfl rfl dX10_swap_3) rfl (fun r h => ctX10_areTwo h) (fun v1 hz2 => ?_)
  refine jq_if_ne (tgt := 15) Γ dX10_swap_6 rfl ?_ ?_
  · refine jq_aload_n Γ dX10_swap_15 rfl 0 rfl (jq_at_0 at_X_0) ?_
    refine jq_getC (C := jq_cm2) Γ hlY at_X_0 fl_RX10_25 rfl rfl ly_now dX10_swap_16 (fun c3 hc4q => ?_)
    have hc4 := jq_cm2_com hc4q
    refine jq_iload_n Γ dX10_swap_19 rfl 1 rfl ?_
    refine jq_iload_n Γ dX10_swap_20 rfl 2 rfl ?_
    refine jq_aload_n Γ dX10_swap_21 rfl 0 rfl (jq_at_0 at_X_0) ?_
    refine jq_getC (C := jq_cm2) Γ hlY at_X_0 fl_RX10_25 rfl rfl ly_now dX10_swap_22 (fun c5 hc6q => ?_)
    have hc6 := jq_cm2_com hc6q
    refine jq_getR (v := (c5 + 3)) Γ hlY (at_com hc6) fl_RX10_200 rfl rfl (ly_X1_seats hc6) dX10_swap_25 ?_
    refine jq_cwZ (jq_virt (avs := [jI p1, jI p2, jR (c5 + 3)]) (st := []) Γ hlY rfl ml_RX10_298 rfl (at_com hc4) rfl rfl rfl rfl rfl dX10_swap_28) rfl (fun r σ' h => ctX1_swapTwo hc4 (row_com hc6) h) (fun v7 s8 hz9 => ?_)
    refine jq_if_ne (tgt := 41) Γ dX10_swap_31 rfl ?_ ?_
    · refine jq_aload_n Γ dX10_swap_41 rfl 0 rfl (jq_at_0 at_X_0) ?_
      refine jq_cwZ (jq_virt (avs := []) (st := []) Γ hlY rfl ml_RX10_105 rfl at_X_0 rfl rfl rfl rfl rfl dX10_swap_42) rfl (fun r σ' h => ctX10_grant h) (fun v10 s11 hz12 => ?_)
      exact jq_zreturn Γ (hz12) dX10_swap_45 (hK0 _)
    · refine jq_aload_n Γ dX10_swap_34 rfl 0 rfl (jq_at_0 at_X_0) ?_
      refine jq_bipush Γ dX10_swap_35 rfl ?_
      refine jq_cwZ (jq_virt (avs := [jI 7]) (st := []) Γ hlY rfl ml_RX10_97 rfl at_X_0 rfl rfl rfl rfl rfl dX10_swap_37) rfl (fun r σ' h => ctX10_deny h) (fun v13 s14 hz15 => ?_)
      exact jq_zreturn Γ (hz15) dX10_swap_40 (hK0 _)
  · refine jq_aload_n Γ dX10_swap_9 rfl 0 rfl (jq_at_0 at_X_0) ?_
    refine jq_iconst Γ dX10_swap_10 rfl ?_
    refine jq_cwZ (jq_virt (avs := [jI 1]) (st := []) Γ hlY rfl ml_RX10_97 rfl at_X_0 rfl rfl rfl rfl rfl dX10_swap_11) rfl (fun r σ' h => ctX10_deny h) (fun v16 s17 hz18 => ?_)
    exact jq_zreturn Γ (hz18) dX10_swap_14 (hK0 _)


theorem dX1_turnAll_0 : decode cX1_turnAll 0 = .ok (.iconst 0, 1) := by decide +kernel
theorem dX1_turnAll_1 : decode cX1_turnAll 1 = .ok (.istore_n 3, 1) := by decide +kernel
theorem dX1_turnAll_2 : decode cX1_turnAll 2 = .ok (.iload_n 3, 1) := by decide +kernel
theorem dX1_turnAll_3 : decode cX1_turnAll 3 = .ok (.aload_n 0, 1) := by decide +kernel
theorem dX1_turnAll_4 : decode cX1_turnAll 4 = .ok (.getfield 66, 3) := by decide +kernel
theorem dX1_turnAll_7 : decode cX1_turnAll 7 = .ok (.if_icmp .ge 42, 3) := by decide +kernel
theorem dX1_turnAll_10 : decode cX1_turnAll 10 = .ok (.iload_n 3, 1) := by decide +kernel
theorem dX1_turnAll_11 : decode cX1_turnAll 11 = .ok (.aload_n 2, 1) := by decide +kernel
theorem dX1_turnAll_12 : decode cX1_turnAll 12 = .ok (.arraylength, 1) := by decide +kernel
theorem dX1_turnAll_13 : decode cX1_turnAll 13 = .ok (.if_icmp .ge 36, 3) := by decide +kernel
theorem dX1_turnAll_16 : decode cX1_turnAll 16 = .ok (.aload_n 0, 1) := by decide +kernel
theorem dX1_turnAll_17 : decode cX1_turnAll 17 = .ok (.getfield 59, 3) := by decide +kernel
theorem dX1_turnAll_20 : decode cX1_turnAll 20 = .ok (.ifCond .le 23, 3) := by decide +kernel
theorem dX1_turnAll_23 : decode cX1_turnAll 23 = .ok (.aload_n 2, 1) := by decide +kernel
theorem dX1_turnAll_24 : decode cX1_turnAll 24 = .ok (.iload_n 3, 1) := by decide +kernel
theorem dX1_turnAll_25 : decode cX1_turnAll 25 = .ok (.iaload, 1) := by decide +kernel
theorem dX1_turnAll_26 : decode cX1_turnAll 26 = .ok (.iconst (-1), 1) := by decide +kernel
theorem dX1_turnAll_27 : decode cX1_turnAll 27 = .ok (.if_icmp .eq 16, 3) := by decide +kernel
theorem dX1_turnAll_30 : decode cX1_turnAll 30 = .ok (.aload_n 2, 1) := by decide +kernel
theorem dX1_turnAll_31 : decode cX1_turnAll 31 = .ok (.iload_n 3, 1) := by decide +kernel
theorem dX1_turnAll_32 : decode cX1_turnAll 32 = .ok (.aload_n 2, 1) := by decide +kernel
theorem dX1_turnAll_33 : decode cX1_turnAll 33 = .ok (.iload_n 3, 1) := by decide +kernel
theorem dX1_turnAll_34 : decode cX1_turnAll 34 = .ok (.iaload, 1) := by decide +kernel
theorem dX1_turnAll_35 : decode cX1_turnAll 35 = .ok (.iload_n 1, 1) := by decide +kernel
theorem dX1_turnAll_36 : decode cX1_turnAll 36 = .ok (.iadd, 1) := by decide +kernel
theorem dX1_turnAll_37 : decode cX1_turnAll 37 = .ok (.aload_n 0, 1) := by decide +kernel
theorem dX1_turnAll_38 : decode cX1_turnAll 38 = .ok (.getfield 59, 3) := by decide +kernel
theorem dX1_turnAll_41 : decode cX1_turnAll 41 = .ok (.irem, 1) := by decide +kernel
theorem dX1_turnAll_42 : decode cX1_turnAll 42 = .ok (.iastore, 1) := by decide +kernel
theorem dX1_turnAll_43 : decode cX1_turnAll 43 = .ok (.iinc 3 1, 3) := by decide +kernel
theorem dX1_turnAll_46 : decode cX1_turnAll 46 = .ok (.goto (-44), 3) := by decide +kernel
theorem dX1_turnAll_49 : decode cX1_turnAll 49 = .ok (.return_, 1) := by decide +kernel
set_option maxHeartbeats 4000000 in
set_option maxRecDepth 100000 in
theorem ctX1_turnAll {o : Int} {p1 : Int} {p2 : Int} {σ : jq_M} {σ' : jq_M} (ho : jq_com o) (hp2 : jq_row p2) (h : X1_turnAll o p1 p2 σ = some σ') : jq_MC jq_zX yX1_turnAll cX1_turnAll 4 none 1 40 [jR o, jI p1, jR p2] σ none σ' := by
  refine jq_met (own := RX1) (L0 := [(0, jR o), (1, jI p1), (2, jR p2)]) (by decide) rfl rfl rfl ?_
  intro X Γ hnl hlY hRT
  refine jq_use2 (P := fun r => jq_RT jq_zX X none none r) ?_ h hRT
  intro K0 hK0
  unfold X1_turnAll
  refine jq_iconst Γ dX1_turnAll_0 rfl ?_
  refine jq_istore_n (L' := [(3, jI 0), (0, jR o), (1, jI p1), (2, jR p2)]) Γ dX1_turnAll_1 rfl hnl rfl rfl ?_
  refine jq_sub Γ (L' := [(0, jR o), (1, jI p1), (2, jR p2), (3, jI 0)]) [1, 2, 3, 0] rfl ?_
  refine jq_loop2 (C := fun (t1 : Int × jq_M) => jq_V jq_zX X (jq_zN jq_zX) t1.2 2 [(0, jR o), (1, jI p1), (2, jR p2), (3, jI t1.1)] []) (KX := fun (e9 : jq_M) => jq_V jq_zX X (jq_zN jq_zX) e9 49 [] []) ?_ ?_ (0, σ)
  · intro K2_t1 hCt1 hXt1 t1
    unfold X1_turnAll_b2
    refine jq_iload_n Γ dX1_turnAll_2 rfl 3 rfl ?_
    refine jq_aload_n Γ dX1_turnAll_3 rfl 0 rfl (jq_at_0 (at_com ho)) ?_
    refine jq_getI (J := 2) Γ (at_com ho) fl_RX1_66 rfl rfl dX1_turnAll_4 ?_
    refine jq_icmp_ge (tgt := 49) Γ dX1_turnAll_7 rfl ?_ ?_
    · refine jq_sub Γ (L' := []) [] rfl ?_
      exact jq_done (hXt1 t1.2)
    · refine jq_iload_n Γ dX1_turnAll_10 rfl 3 rfl ?_
      refine jq_aload_n Γ dX1_turnAll_11 rfl 2 rfl (jq_at_0 (at_row hp2)) ?_
      refine jq_alen Γ (at_row hp2) rfl rfl rfl dX1_turnAll_12 ?_
      refine jq_icmp_ge (tgt := 49) Γ dX1_turnAll_13 rfl ?_ ?_
      · refine jq_sub Γ (L' := []) [] rfl ?_
        exact jq_done (hXt1 t1.2)
      · refine jq_aload_n Γ dX1_turnAll_16 rfl 0 rfl (jq_at_0 (at_com ho)) ?_
        refine jq_getI (J := 0) Γ (at_com ho) fl_RX1_59 rfl rfl dX1_turnAll_17 ?_
        refine jq_if_le (tgt := 43) Γ dX1_turnAll_20 rfl ?_ ?_
        · refine jq_iincN (L' := fun v2 => [(3, jI v2), (0, jR o), (1, jI p1), (2, jR p2)]) Γ dX1_turnAll_43 3 rfl hnl rfl (fun _ => rfl) (fun v2 => ?_)
          refine jq_goto Γ (tgt := 2) dX1_turnAll_46 rfl ?_
          refine jq_sub Γ (L' := [(0, jR o), (1, jI p1), (2, jR p2), (3, jI v2)]) [1, 2, 3, 0] rfl ?_
          exact jq_done (hCt1 (v2, t1.2))
        · refine jq_aload_n Γ dX1_turnAll_23 rfl 2 rfl (jq_at_0 (at_row hp2)) ?_
          refine jq_iload_n Γ dX1_turnAll_24 rfl 3 rfl ?_
          refine jq_iald Γ (at_row hp2) rfl dX1_turnAll_25 (fun v3 => ?_)
          refine jq_iconst Γ dX1_turnAll_26 rfl ?_
          refine jq_icmp_eq (tgt := 43) Γ dX1_turnAll_27 rfl ?_ ?_
          · refine jq_iincN (L' := fun v4 => [(3, jI v4), (0, jR o), (1, jI p1), (2, jR p2)]) Γ dX1_turnAll_43 3 rfl hnl rfl (fun _ => rfl) (fun v4 => ?_)
            refine jq_goto Γ (tgt := 2) dX1_turnAll_46 rfl ?_
            refine jq_sub Γ (L' := [(0, jR o), (1, jI p1), (2, jR p2), (3, jI v4)]) [1, 2, 3, 0] rfl ?_
            exact jq_done (hCt1 (v4, t1.2))
          · refine jq_aload_n Γ dX1_turnAll_30 rfl 2 rfl (jq_at_0 (at_row hp2)) ?_
            refine jq_iload_n Γ dX1_turnAll_31 rfl 3 rfl ?_
            refine jq_aload_n Γ dX1_turnAll_32 rfl 2 rfl (jq_at_0 (at_row hp2)) ?_
            refine jq_iload_n Γ dX1_turnAll_33 rfl 3 rfl ?_
            refine jq_iald Γ (at_row hp2) rfl dX1_turnAll_34 (fun v5 => ?_)
            refine jq_iload_n Γ dX1_turnAll_35 rfl 1 rfl ?_
            refine jq_iadd Γ dX1_turnAll_36 ?_
            refine jq_aload_n Γ dX1_turnAll_37 rfl 0 rfl (jq_at_0 (at_com ho)) ?_
            refine jq_getI (J := 0) Γ (at_com ho) fl_RX1_59 rfl rfl dX1_turnAll_38 ?_
            refine jq_iremR Γ dX1_turnAll_41 (fun v6 => ?_)
            refine jq_iast Γ (at_row hp2) rfl dX1_turnAll_42 (fun s7 => ?_)
            refine jq_iincN (L' := fun v8 => [(3, jI v8), (0, jR o), (1, jI p1), (2, jR p2)]) Γ dX1_turnAll_43 3 rfl hnl rfl (fun _ => rfl) (fun v8 => ?_)
            refine jq_goto Γ (tgt := 2) dX1_turnAll_46 rfl ?_
            refine jq_sub Γ (L' := [(0, jR o), (1, jI p1), (2, jR p2), (3, jI v8)]) [1, 2, 3, 0] rfl ?_
            exact jq_done (hCt1 (v8, s7))
  · intro e9
    exact jq_vreturn Γ dX1_turnAll_49 (hK0 _)


theorem dJ6_bitCount_0f7a4_0 : decode cJ6_bitCount_0f7a4 0 = .ok (.iload_n 0, 1) := by decide +kernel
theorem dJ6_bitCount_0f7a4_1 : decode cJ6_bitCount_0f7a4 1 = .ok (.iload_n 0, 1) := by decide +kernel
theorem dJ6_bitCount_0f7a4_2 : decode cJ6_bitCount_0f7a4 2 = .ok (.iconst 1, 1) := by decide +kernel
theorem dJ6_bitCount_0f7a4_3 : decode cJ6_bitCount_0f7a4 3 = .ok (.iushr, 1) := by decide +kernel
theorem dJ6_bitCount_0f7a4_4 : decode cJ6_bitCount_0f7a4 4 = .ok (.ldc_w 265, 3) := by decide +kernel
theorem dJ6_bitCount_0f7a4_7 : decode cJ6_bitCount_0f7a4 7 = .ok (.iand, 1) := by decide +kernel
theorem dJ6_bitCount_0f7a4_8 : decode cJ6_bitCount_0f7a4 8 = .ok (.isub, 1) := by decide +kernel
theorem dJ6_bitCount_0f7a4_9 : decode cJ6_bitCount_0f7a4 9 = .ok (.istore_n 0, 1) := by decide +kernel
theorem dJ6_bitCount_0f7a4_10 : decode cJ6_bitCount_0f7a4 10 = .ok (.iload_n 0, 1) := by decide +kernel
theorem dJ6_bitCount_0f7a4_11 : decode cJ6_bitCount_0f7a4 11 = .ok (.ldc_w 266, 3) := by decide +kernel
theorem dJ6_bitCount_0f7a4_14 : decode cJ6_bitCount_0f7a4 14 = .ok (.iand, 1) := by decide +kernel
theorem dJ6_bitCount_0f7a4_15 : decode cJ6_bitCount_0f7a4 15 = .ok (.iload_n 0, 1) := by decide +kernel
theorem dJ6_bitCount_0f7a4_16 : decode cJ6_bitCount_0f7a4 16 = .ok (.iconst 2, 1) := by decide +kernel
theorem dJ6_bitCount_0f7a4_17 : decode cJ6_bitCount_0f7a4 17 = .ok (.iushr, 1) := by decide +kernel
theorem dJ6_bitCount_0f7a4_18 : decode cJ6_bitCount_0f7a4 18 = .ok (.ldc_w 266, 3) := by decide +kernel
theorem dJ6_bitCount_0f7a4_21 : decode cJ6_bitCount_0f7a4 21 = .ok (.iand, 1) := by decide +kernel
theorem dJ6_bitCount_0f7a4_22 : decode cJ6_bitCount_0f7a4 22 = .ok (.iadd, 1) := by decide +kernel
theorem dJ6_bitCount_0f7a4_23 : decode cJ6_bitCount_0f7a4 23 = .ok (.istore_n 0, 1) := by decide +kernel
theorem dJ6_bitCount_0f7a4_24 : decode cJ6_bitCount_0f7a4 24 = .ok (.iload_n 0, 1) := by decide +kernel
theorem dJ6_bitCount_0f7a4_25 : decode cJ6_bitCount_0f7a4 25 = .ok (.iload_n 0, 1) := by decide +kernel
theorem dJ6_bitCount_0f7a4_26 : decode cJ6_bitCount_0f7a4 26 = .ok (.iconst 4, 1) := by decide +kernel
theorem dJ6_bitCount_0f7a4_27 : decode cJ6_bitCount_0f7a4 27 = .ok (.iushr, 1) := by decide +kernel
theorem dJ6_bitCount_0f7a4_28 : decode cJ6_bitCount_0f7a4 28 = .ok (.iadd, 1) := by decide +kernel
theorem dJ6_bitCount_0f7a4_29 : decode cJ6_bitCount_0f7a4 29 = .ok (.ldc_w 267, 3) := by decide +kernel
theorem dJ6_bitCount_0f7a4_32 : decode cJ6_bitCount_0f7a4 32 = .ok (.iand, 1) := by decide +kernel
theorem dJ6_bitCount_0f7a4_33 : decode cJ6_bitCount_0f7a4 33 = .ok (.istore_n 0, 1) := by decide +kernel
theorem dJ6_bitCount_0f7a4_34 : decode cJ6_bitCount_0f7a4 34 = .ok (.iload_n 0, 1) := by decide +kernel
theorem dJ6_bitCount_0f7a4_35 : decode cJ6_bitCount_0f7a4 35 = .ok (.iload_n 0, 1) := by decide +kernel
theorem dJ6_bitCount_0f7a4_36 : decode cJ6_bitCount_0f7a4 36 = .ok (.bipush 8, 2) := by decide +kernel
theorem dJ6_bitCount_0f7a4_38 : decode cJ6_bitCount_0f7a4 38 = .ok (.iushr, 1) := by decide +kernel
theorem dJ6_bitCount_0f7a4_39 : decode cJ6_bitCount_0f7a4 39 = .ok (.iadd, 1) := by decide +kernel
theorem dJ6_bitCount_0f7a4_40 : decode cJ6_bitCount_0f7a4 40 = .ok (.istore_n 0, 1) := by decide +kernel
theorem dJ6_bitCount_0f7a4_41 : decode cJ6_bitCount_0f7a4 41 = .ok (.iload_n 0, 1) := by decide +kernel
theorem dJ6_bitCount_0f7a4_42 : decode cJ6_bitCount_0f7a4 42 = .ok (.iload_n 0, 1) := by decide +kernel
theorem dJ6_bitCount_0f7a4_43 : decode cJ6_bitCount_0f7a4 43 = .ok (.bipush 16, 2) := by decide +kernel
theorem dJ6_bitCount_0f7a4_45 : decode cJ6_bitCount_0f7a4 45 = .ok (.iushr, 1) := by decide +kernel
theorem dJ6_bitCount_0f7a4_46 : decode cJ6_bitCount_0f7a4 46 = .ok (.iadd, 1) := by decide +kernel
theorem dJ6_bitCount_0f7a4_47 : decode cJ6_bitCount_0f7a4 47 = .ok (.istore_n 0, 1) := by decide +kernel
theorem dJ6_bitCount_0f7a4_48 : decode cJ6_bitCount_0f7a4 48 = .ok (.iload_n 0, 1) := by decide +kernel
theorem dJ6_bitCount_0f7a4_49 : decode cJ6_bitCount_0f7a4 49 = .ok (.bipush 63, 2) := by decide +kernel
theorem dJ6_bitCount_0f7a4_51 : decode cJ6_bitCount_0f7a4 51 = .ok (.iand, 1) := by decide +kernel
theorem dJ6_bitCount_0f7a4_52 : decode cJ6_bitCount_0f7a4 52 = .ok (.ireturn, 1) := by decide +kernel
set_option maxHeartbeats 4000000 in
set_option maxRecDepth 100000 in
theorem ctJ6_bitCount_0f7a4 {p0 : Int} {σ : jq_M} {res : Int}  (h : J6_bitCount_0f7a4 p0 σ = some res) : jq_MC jq_zX yJ6_bitCount_0f7a4 cJ6_bitCount_0f7a4 1 (some .int) 1 40 [jI p0] σ (some (jI res)) σ := by
  refine jq_met (own := RJ6) (L0 := [(0, jI p0)]) (by decide) rfl rfl rfl ?_
  intro X Γ hnl hlY hRT
  refine jq_use2 (P := fun r => jq_RT jq_zX X (some .int) (some (jI r)) σ) ?_ h hRT
  intro K0 hK0
  unfold J6_bitCount_0f7a4
  refine jq_iload_n Γ dJ6_bitCount_0f7a4_0 rfl 0 rfl ?_
  refine jq_iload_n Γ dJ6_bitCount_0f7a4_1 rfl 0 rfl ?_
  refine jq_iconst Γ dJ6_bitCount_0f7a4_2 rfl ?_
  refine jq_iushr Γ dJ6_bitCount_0f7a4_3 ?_
  refine jq_ldcw Γ 1431655765 dJ6_bitCount_0f7a4_4 kc_RJ6_265 rfl ?_
  refine jq_iand Γ dJ6_bitCount_0f7a4_7 ?_
  refine jq_isub Γ dJ6_bitCount_0f7a4_8 ?_
  refine jq_nmI (fun v1 => ?_)
  refine jq_istore_n (L' := [(0, jI v1)]) Γ dJ6_bitCount_0f7a4_9 rfl hnl rfl rfl ?_
  refine jq_iload_n Γ dJ6_bitCount_0f7a4_10 rfl 0 rfl ?_
  refine jq_ldcw Γ 858993459 dJ6_bitCount_0f7a4_11 kc_RJ6_266 rfl ?_
  refine jq_iand Γ dJ6_bitCount_0f7a4_14 ?_
  refine jq_iload_n Γ dJ6_bitCount_0f7a4_15 rfl 0 rfl ?_
  refine jq_iconst Γ dJ6_bitCount_0f7a4_16 rfl ?_
  refine jq_iushr Γ dJ6_bitCount_0f7a4_17 ?_
  refine jq_ldcw Γ 858993459 dJ6_bitCount_0f7a4_18 kc_RJ6_266 rfl ?_
  refine jq_iand Γ dJ6_bitCount_0f7a4_21 ?_
  refine jq_iadd Γ dJ6_bitCount_0f7a4_22 ?_
  refine jq_nmI (fun v2 => ?_)
  refine jq_istore_n (L' := [(0, jI v2)]) Γ dJ6_bitCount_0f7a4_23 rfl hnl rfl rfl ?_
  refine jq_iload_n Γ dJ6_bitCount_0f7a4_24 rfl 0 rfl ?_
  refine jq_iload_n Γ dJ6_bitCount_0f7a4_25 rfl 0 rfl ?_
  refine jq_iconst Γ dJ6_bitCount_0f7a4_26 rfl ?_
  refine jq_iushr Γ dJ6_bitCount_0f7a4_27 ?_
  refine jq_iadd Γ dJ6_bitCount_0f7a4_28 ?_
  refine jq_ldcw Γ 252645135 dJ6_bitCount_0f7a4_29 kc_RJ6_267 rfl ?_
  refine jq_iand Γ dJ6_bitCount_0f7a4_32 ?_
  refine jq_nmI (fun v3 => ?_)
  refine jq_istore_n (L' := [(0, jI v3)]) Γ dJ6_bitCount_0f7a4_33 rfl hnl rfl rfl ?_
  refine jq_iload_n Γ dJ6_bitCount_0f7a4_34 rfl 0 rfl ?_
  refine jq_iload_n Γ dJ6_bitCount_0f7a4_35 rfl 0 rfl ?_
  refine jq_bipush Γ dJ6_bitCount_0f7a4_36 rfl ?_
  refine jq_iushr Γ dJ6_bitCount_0f7a4_38 ?_
  refine jq_iadd Γ dJ6_bitCount_0f7a4_39 ?_
  refine jq_nmI (fun v4 => ?_)
  refine jq_istore_n (L' := [(0, jI v4)]) Γ dJ6_bitCount_0f7a4_40 rfl hnl rfl rfl ?_
  refine jq_iload_n Γ dJ6_bitCount_0f7a4_41 rfl 0 rfl ?_
  refine jq_iload_n Γ dJ6_bitCount_0f7a4_42 rfl 0 rfl ?_
  refine jq_bipush Γ dJ6_bitCount_0f7a4_43 rfl ?_
  refine jq_iushr Γ dJ6_bitCount_0f7a4_45 ?_
  refine jq_iadd Γ dJ6_bitCount_0f7a4_46 ?_
  refine jq_nmI (fun v5 => ?_)
  refine jq_istore_n (L' := [(0, jI v5)]) Γ dJ6_bitCount_0f7a4_47 rfl hnl rfl rfl ?_
  refine jq_iload_n Γ dJ6_bitCount_0f7a4_48 rfl 0 rfl ?_
  refine jq_bipush Γ dJ6_bitCount_0f7a4_49 rfl ?_
  refine jq_iand Γ dJ6_bitCount_0f7a4_51 ?_
  exact jq_ireturn Γ dJ6_bitCount_0f7a4_52 (hK0 _)


theorem dX10_turn_0 : decode cX10_turn 0 = .ok (.iload_n 1, 1) := by decide +kernel
theorem dX10_turn_1 : decode cX10_turn 1 = .ok (.iconst 0, 1) := by decide +kernel
theorem dX10_turn_2 : decode cX10_turn 2 = .ok (.bipush 99, 2) := by decide +kernel
theorem dX10_turn_4 : decode cX10_turn 4 = .ok (.invokestatic 93, 3) := by decide +kernel
theorem dX10_turn_7 : decode cX10_turn 7 = .ok (.ifCond .ne 9, 3) := by decide +kernel
theorem dX10_turn_10 : decode cX10_turn 10 = .ok (.aload_n 0, 1) := by decide +kernel
theorem dX10_turn_11 : decode cX10_turn 11 = .ok (.iconst 1, 1) := by decide +kernel
theorem dX10_turn_12 : decode cX10_turn 12 = .ok (.invokevirtual 117, 3) := by decide +kernel
theorem dX10_turn_15 : decode cX10_turn 15 = .ok (.ireturn, 1) := by decide +kernel
theorem dX10_turn_16 : decode cX10_turn 16 = .ok (.aload_n 0, 1) := by decide +kernel
theorem dX10_turn_17 : decode cX10_turn 17 = .ok (.getfield 25, 3) := by decide +kernel
theorem dX10_turn_20 : decode cX10_turn 20 = .ok (.iload_n 1, 1) := by decide +kernel
theorem dX10_turn_21 : decode cX10_turn 21 = .ok (.aload_n 0, 1) := by decide +kernel
theorem dX10_turn_22 : decode cX10_turn 22 = .ok (.getfield 25, 3) := by decide +kernel
theorem dX10_turn_25 : decode cX10_turn 25 = .ok (.getfield 200, 3) := by decide +kernel
theorem dX10_turn_28 : decode cX10_turn 28 = .ok (.invokevirtual 302, 3) := by decide +kernel
theorem dX10_turn_31 : decode cX10_turn 31 = .ok (.aload_n 0, 1) := by decide +kernel
theorem dX10_turn_32 : decode cX10_turn 32 = .ok (.aload_n 0, 1) := by decide +kernel
theorem dX10_turn_33 : decode cX10_turn 33 = .ok (.getfield 25, 3) := by decide +kernel
theorem dX10_turn_36 : decode cX10_turn 36 = .ok (.aload_n 0, 1) := by decide +kernel
theorem dX10_turn_37 : decode cX10_turn 37 = .ok (.getfield 25, 3) := by decide +kernel
theorem dX10_turn_40 : decode cX10_turn 40 = .ok (.getfield 200, 3) := by decide +kernel
theorem dX10_turn_43 : decode cX10_turn 43 = .ok (.invokevirtual 203, 3) := by decide +kernel
theorem dX10_turn_46 : decode cX10_turn 46 = .ok (.invokestatic 306, 3) := by decide +kernel
theorem dX10_turn_49 : decode cX10_turn 49 = .ok (.invokevirtual 167, 3) := by decide +kernel
theorem dX10_turn_52 : decode cX10_turn 52 = .ok (.ireturn, 1) := by decide +kernel
set_option maxHeartbeats 4000000 in
set_option maxRecDepth 100000 in
theorem ctX10_turn {p1 : Int} {σ : jq_M} {res : Int} {σ' : jq_M}  (h : X10_turn p1 σ = some (res, σ')) : jq_MC jq_zX yX10_turn cX10_turn 2 (some .int) 2 63 [jR 0, jI p1] σ (some (jI res)) σ' := by
  refine jq_met (own := RX10) (L0 := [(0, jR 0), (1, jI p1)]) (by decide) rfl rfl rfl ?_
  intro X Γ hnl hlY hRT
  refine jq_use2 (P := fun r => jq_RT jq_zX X (some .int) (some (jI r.1)) r.2) ?_ h hRT
  intro K0 hK0
  unfold X10_turn
  refine jq_iload_n Γ dX10_turn_0 rfl 1 rfl ?_
  refine jq_iconst Γ dX10_turn_1 rfl ?_
  refine jq_bipush Γ dX10_turn_2 rfl ?_
  refine jq_cpZ (jq_stat (avs := [jI p1, jI 0, jI 99]) (st := []) Γ hlY rfl ml_RX10_93 rfl rfl rfl rfl rfl dX10_turn_4) rfl (fun r h => ctX10_within h) (fun v1 hz2 => ?_)
  refine jq_if_ne (tgt := 16) Γ dX10_turn_7 rfl ?_ ?_
  · refine jq_aload_n Γ dX10_turn_16 rfl 0 rfl (jq_at_0 at_X_0) ?_
    refine jq_getC (C := jq_cm2) Γ hlY at_X_0 fl_RX10_25 rfl rfl ly_now dX10_turn_17 (fun c3 hc4q => ?_)
    have hc4 := jq_cm2_com hc4q
    refine jq_iload_n Γ dX10_turn_20 rfl 1 rfl ?_
    refine jq_aload_n Γ dX10_turn_21 rfl 0 rfl (jq_at_0 at_X_0) ?_
    refine jq_getC (C := jq_cm2) Γ hlY at_X_0 fl_RX10_25 rfl rfl ly_now dX10_turn_22 (fun c5 hc6q => ?_)
    have hc6 := jq_cm2_com hc6q
    refine jq_getR (v := (c5 + 3)) Γ hlY (at_com hc6) fl_RX10_200 rfl rfl (ly_X1_seats hc6) dX10_turn_25 ?_
    refine jq_cwV (jq_virt (avs := [jI p1, jR (c5 + 3)]) (st := []) Γ hlY rfl ml_RX10_302 rfl (at_com hc4) rfl rfl rfl rfl rfl dX10_turn_28) (fun σ' h => ctX1_turnAll hc4 (row_com hc6) h) (fun s7 => ?_)
    refine jq_aload_n Γ dX10_turn_31 rfl 0 rfl (jq_at_0 at_X_0) ?_
    refine jq_aload_n Γ dX10_turn_32 rfl 0 rfl (jq_at_0 at_X_0) ?_
    refine jq_getC (C := jq_cm2) Γ hlY at_X_0 fl_RX10_25 rfl rfl ly_now dX10_turn_33 (fun c8 hc9q => ?_)
    have hc9 := jq_cm2_com hc9q
    refine jq_aload_n Γ dX10_turn_36 rfl 0 rfl (jq_at_0 at_X_0) ?_
    refine jq_getC (C := jq_cm2) Γ hlY at_X_0 fl_RX10_25 rfl rfl ly_now dX10_turn_37 (fun c10 hc11q => ?_)
    have hc11 := jq_cm2_com hc11q
    refine jq_getR (v := (c10 + 3)) Γ hlY (at_com hc11) fl_RX10_200 rfl rfl (ly_X1_seats hc11) dX10_turn_40 ?_
    refine jq_cpI (jq_virt (avs := [jR (c10 + 3)]) (st := [jR 0]) Γ hlY rfl ml_RX10_203 rfl (at_com hc9) rfl rfl rfl rfl rfl dX10_turn_43) (fun r h => ctX1_sittersOf hc9 (row_com hc11) h) (fun v12 => ?_)
    refine jq_cpI (jq_stat (avs := [jI v12]) (st := [jR 0]) Γ hlY rfl ml_RX10_306 rfl rfl rfl rfl rfl dX10_turn_46) (fun r h => ctJ6_bitCount_0f7a4 h) (fun v13 => ?_)
    refine jq_cwI (jq_virt (avs := [jI v13]) (st := []) Γ hlY rfl ml_RX10_167 rfl at_X_0 rfl rfl rfl rfl rfl dX10_turn_49) (fun r σ' h => ctX10_answer h) (fun v14 s15 => ?_)
    exact jq_ireturn Γ dX10_turn_52 (hK0 _)
  · refine jq_aload_n Γ dX10_turn_10 rfl 0 rfl (jq_at_0 at_X_0) ?_
    refine jq_iconst Γ dX10_turn_11 rfl ?_
    refine jq_cwI (jq_virt (avs := [jI 1]) (st := []) Γ hlY rfl ml_RX10_117 rfl at_X_0 rfl rfl rfl rfl rfl dX10_turn_12) (fun r σ' h => ctX10_refuse h) (fun v16 s17 => ?_)
    exact jq_ireturn Γ dX10_turn_15 (hK0 _)


theorem dX1_workAt_0 : decode cX1_workAt 0 = .ok (.iload_n 1, 1) := by decide +kernel
theorem dX1_workAt_1 : decode cX1_workAt 1 = .ok (.ifCond .lt 46, 3) := by decide +kernel
theorem dX1_workAt_4 : decode cX1_workAt 4 = .ok (.iload_n 1, 1) := by decide +kernel
theorem dX1_workAt_5 : decode cX1_workAt 5 = .ok (.bipush 8, 2) := by decide +kernel
theorem dX1_workAt_7 : decode cX1_workAt 7 = .ok (.if_icmp .ge 40, 3) := by decide +kernel
theorem dX1_workAt_10 : decode cX1_workAt 10 = .ok (.aload_n 0, 1) := by decide +kernel
theorem dX1_workAt_11 : decode cX1_workAt 11 = .ok (.getfield 46, 3) := by decide +kernel
theorem dX1_workAt_14 : decode cX1_workAt 14 = .ok (.iload_n 1, 1) := by decide +kernel
theorem dX1_workAt_15 : decode cX1_workAt 15 = .ok (.dup2, 1) := by decide +kernel
theorem dX1_workAt_16 : decode cX1_workAt 16 = .ok (.iaload, 1) := by decide +kernel
theorem dX1_workAt_17 : decode cX1_workAt 17 = .ok (.iconst 1, 1) := by decide +kernel
theorem dX1_workAt_18 : decode cX1_workAt 18 = .ok (.iadd, 1) := by decide +kernel
theorem dX1_workAt_19 : decode cX1_workAt 19 = .ok (.iastore, 1) := by decide +kernel
theorem dX1_workAt_20 : decode cX1_workAt 20 = .ok (.aload_n 0, 1) := by decide +kernel
theorem dX1_workAt_21 : decode cX1_workAt 21 = .ok (.getfield 46, 3) := by decide +kernel
theorem dX1_workAt_24 : decode cX1_workAt 24 = .ok (.iload_n 1, 1) := by decide +kernel
theorem dX1_workAt_25 : decode cX1_workAt 25 = .ok (.iaload, 1) := by decide +kernel
theorem dX1_workAt_26 : decode cX1_workAt 26 = .ok (.aload_n 0, 1) := by decide +kernel
theorem dX1_workAt_27 : decode cX1_workAt 27 = .ok (.getfield 37, 3) := by decide +kernel
theorem dX1_workAt_30 : decode cX1_workAt 30 = .ok (.iload_n 1, 1) := by decide +kernel
theorem dX1_workAt_31 : decode cX1_workAt 31 = .ok (.iaload, 1) := by decide +kernel
theorem dX1_workAt_32 : decode cX1_workAt 32 = .ok (.if_icmp .lt 15, 3) := by decide +kernel
theorem dX1_workAt_35 : decode cX1_workAt 35 = .ok (.aload_n 0, 1) := by decide +kernel
theorem dX1_workAt_36 : decode cX1_workAt 36 = .ok (.dup, 1) := by decide +kernel
theorem dX1_workAt_37 : decode cX1_workAt 37 = .ok (.getfield 75, 3) := by decide +kernel
theorem dX1_workAt_40 : decode cX1_workAt 40 = .ok (.iconst 1, 1) := by decide +kernel
theorem dX1_workAt_41 : decode cX1_workAt 41 = .ok (.iload_n 1, 1) := by decide +kernel
theorem dX1_workAt_42 : decode cX1_workAt 42 = .ok (.ishl, 1) := by decide +kernel
theorem dX1_workAt_43 : decode cX1_workAt 43 = .ok (.ior, 1) := by decide +kernel
theorem dX1_workAt_44 : decode cX1_workAt 44 = .ok (.putfield 75, 3) := by decide +kernel
theorem dX1_workAt_47 : decode cX1_workAt 47 = .ok (.return_, 1) := by decide +kernel
set_option maxHeartbeats 4000000 in
set_option maxRecDepth 100000 in
theorem ctX1_workAt {o : Int} {p1 : Int} {σ : jq_M} {σ' : jq_M} (ho : jq_com o) (h : X1_workAt o p1 σ = some σ') : jq_MC jq_zX yX1_workAt cX1_workAt 2 none 1 40 [jR o, jI p1] σ none σ' := by
  refine jq_met (own := RX1) (L0 := [(0, jR o), (1, jI p1)]) (by decide) rfl rfl rfl ?_
  intro X Γ hnl hlY hRT
  refine jq_use2 (P := fun r => jq_RT jq_zX X none none r) ?_ h hRT
  intro K0 hK0
  unfold X1_workAt
  refine jq_iload_n Γ dX1_workAt_0 rfl 1 rfl ?_
  refine jq_if_lt (tgt := 47) Γ dX1_workAt_1 rfl ?_ ?_
  · exact jq_vreturn Γ dX1_workAt_47 (hK0 _)
  · refine jq_iload_n Γ dX1_workAt_4 rfl 1 rfl ?_
    refine jq_bipush Γ dX1_workAt_5 rfl ?_
    refine jq_icmp_ge (tgt := 47) Γ dX1_workAt_7 rfl ?_ ?_
    · exact jq_vreturn Γ dX1_workAt_47 (hK0 _)
    · refine jq_aload_n Γ dX1_workAt_10 rfl 0 rfl (jq_at_0 (at_com ho)) ?_
      refine jq_getR (v := (o + 12)) Γ hlY (at_com ho) fl_RX1_46 rfl rfl (ly_X1_worked ho) dX1_workAt_11 ?_
      refine jq_iload_n Γ dX1_workAt_14 rfl 1 rfl ?_
      refine jq_dup2 Γ dX1_workAt_15 rfl rfl ?_
      refine jq_iald Γ (at_com_12 ho) rfl dX1_workAt_16 (fun v1 => ?_)
      refine jq_iconst Γ dX1_workAt_17 rfl ?_
      refine jq_iadd Γ dX1_workAt_18 ?_
      refine jq_iast Γ (at_com_12 ho) rfl dX1_workAt_19 (fun s2 => ?_)
      refine jq_aload_n Γ dX1_workAt_20 rfl 0 rfl (jq_at_0 (at_com ho)) ?_
      refine jq_getR (v := (o + 12)) Γ hlY (at_com ho) fl_RX1_46 rfl rfl (ly_X1_worked ho) dX1_workAt_21 ?_
      refine jq_iload_n Γ dX1_workAt_24 rfl 1 rfl ?_
      refine jq_iald Γ (at_com_12 ho) rfl dX1_workAt_25 (fun v3 => ?_)
      refine jq_aload_n Γ dX1_workAt_26 rfl 0 rfl (jq_at_0 (at_com ho)) ?_
      refine jq_getR (v := (o + 9)) Γ hlY (at_com ho) fl_RX1_37 rfl rfl (ly_X1_takes ho) dX1_workAt_27 ?_
      refine jq_iload_n Γ dX1_workAt_30 rfl 1 rfl ?_
      refine jq_iald Γ (at_com_9 ho) rfl dX1_workAt_31 (fun v4 => ?_)
      refine jq_icmp_lt (tgt := 47) Γ dX1_workAt_32 rfl ?_ ?_
      · exact jq_vreturn Γ dX1_workAt_47 (hK0 _)
      · refine jq_aload_n Γ dX1_workAt_35 rfl 0 rfl (jq_at_0 (at_com ho)) ?_
        refine jq_dup Γ dX1_workAt_36 rfl ?_
        refine jq_getI (J := 5) Γ (at_com ho) fl_RX1_75 rfl rfl dX1_workAt_37 ?_
        refine jq_iconst Γ dX1_workAt_40 rfl ?_
        refine jq_iload_n Γ dX1_workAt_41 rfl 1 rfl ?_
        refine jq_ishl Γ dX1_workAt_42 ?_
        refine jq_ior Γ dX1_workAt_43 ?_
        refine jq_putI Γ (at_com ho) fl_RX1_75 rfl rfl dX1_workAt_44 (fun s5 => ?_)
        exact jq_vreturn Γ dX1_workAt_47 (hK0 _)


theorem dX1_passOneDay_0 : decode cX1_passOneDay 0 = .ok (.aload_n 0, 1) := by decide +kernel
theorem dX1_passOneDay_1 : decode cX1_passOneDay 1 = .ok (.getfield 75, 3) := by decide +kernel
theorem dX1_passOneDay_4 : decode cX1_passOneDay 4 = .ok (.istore_n 1, 1) := by decide +kernel
theorem dX1_passOneDay_5 : decode cX1_passOneDay 5 = .ok (.iconst 0, 1) := by decide +kernel
theorem dX1_passOneDay_6 : decode cX1_passOneDay 6 = .ok (.istore_n 2, 1) := by decide +kernel
theorem dX1_passOneDay_7 : decode cX1_passOneDay 7 = .ok (.iload_n 2, 1) := by decide +kernel
theorem dX1_passOneDay_8 : decode cX1_passOneDay 8 = .ok (.aload_n 0, 1) := by decide +kernel
theorem dX1_passOneDay_9 : decode cX1_passOneDay 9 = .ok (.getfield 72, 3) := by decide +kernel
theorem dX1_passOneDay_12 : decode cX1_passOneDay 12 = .ok (.if_icmp .ge 25, 3) := by decide +kernel
theorem dX1_passOneDay_15 : decode cX1_passOneDay 15 = .ok (.aload_n 0, 1) := by decide +kernel
theorem dX1_passOneDay_16 : decode cX1_passOneDay 16 = .ok (.iload_n 2, 1) := by decide +kernel
theorem dX1_passOneDay_17 : decode cX1_passOneDay 17 = .ok (.invokevirtual 143, 3) := by decide +kernel
theorem dX1_passOneDay_20 : decode cX1_passOneDay 20 = .ok (.ifCond .eq 11, 3) := by decide +kernel
theorem dX1_passOneDay_23 : decode cX1_passOneDay 23 = .ok (.aload_n 0, 1) := by decide +kernel
theorem dX1_passOneDay_24 : decode cX1_passOneDay 24 = .ok (.iload_n 2, 1) := by decide +kernel
theorem dX1_passOneDay_25 : decode cX1_passOneDay 25 = .ok (.invokevirtual 164, 3) := by decide +kernel
theorem dX1_passOneDay_28 : decode cX1_passOneDay 28 = .ok (.goto 9, 3) := by decide +kernel
theorem dX1_passOneDay_31 : decode cX1_passOneDay 31 = .ok (.iinc 2 1, 3) := by decide +kernel
theorem dX1_passOneDay_34 : decode cX1_passOneDay 34 = .ok (.goto (-27), 3) := by decide +kernel
theorem dX1_passOneDay_37 : decode cX1_passOneDay 37 = .ok (.aload_n 0, 1) := by decide +kernel
theorem dX1_passOneDay_38 : decode cX1_passOneDay 38 = .ok (.dup, 1) := by decide +kernel
theorem dX1_passOneDay_39 : decode cX1_passOneDay 39 = .ok (.getfield 78, 3) := by decide +kernel
theorem dX1_passOneDay_42 : decode cX1_passOneDay 42 = .ok (.iconst 1, 1) := by decide +kernel
theorem dX1_passOneDay_43 : decode cX1_passOneDay 43 = .ok (.iadd, 1) := by decide +kernel
theorem dX1_passOneDay_44 : decode cX1_passOneDay 44 = .ok (.putfield 78, 3) := by decide +kernel
theorem dX1_passOneDay_47 : decode cX1_passOneDay 47 = .ok (.aload_n 0, 1) := by decide +kernel
theorem dX1_passOneDay_48 : decode cX1_passOneDay 48 = .ok (.getfield 75, 3) := by decide +kernel
theorem dX1_passOneDay_51 : decode cX1_passOneDay 51 = .ok (.iload_n 1, 1) := by decide +kernel
theorem dX1_passOneDay_52 : decode cX1_passOneDay 52 = .ok (.if_icmp .ne 7, 3) := by decide +kernel
theorem dX1_passOneDay_55 : decode cX1_passOneDay 55 = .ok (.iconst 0, 1) := by decide +kernel
theorem dX1_passOneDay_56 : decode cX1_passOneDay 56 = .ok (.goto 4, 3) := by decide +kernel
theorem dX1_passOneDay_59 : decode cX1_passOneDay 59 = .ok (.iconst 1, 1) := by decide +kernel
theorem dX1_passOneDay_60 : decode cX1_passOneDay 60 = .ok (.ireturn, 1) := by decide +kernel
set_option maxHeartbeats 4000000 in
set_option maxRecDepth 100000 in
theorem ctX1_passOneDay {o : Int} {σ : jq_M} {res : Int} {σ' : jq_M} (ho : jq_com o) (h : X1_passOneDay o σ = some (res, σ')) : jq_MC jq_zX yX1_passOneDay cX1_passOneDay 3 (some .int) 2 61 [jR o] σ (some (jI res)) σ' := by
  refine jq_met (own := RX1) (L0 := [(0, jR o)]) (by decide) rfl rfl rfl ?_
  intro X Γ hnl hlY hRT
  refine jq_use2 (P := fun r => jq_RT jq_zX X (some .int) (some (jI r.1)) r.2) ?_ h hRT
  intro K0 hK0
  unfold X1_passOneDay
  have hj37_0 : ∀ (j8 : Int) (s9 : jq_M), jq_J (X1_passOneDay_j37 o j8 s9) K0 (jq_V jq_zX X (jq_zN jq_zX) s9 37 [(0, jR o), (1, jI j8)] []) := by
    intro j8 s9
    unfold X1_passOneDay_j37
    refine jq_aload_n Γ dX1_passOneDay_37 rfl 0 rfl (jq_at_0 (at_com ho)) ?_
    refine jq_dup Γ dX1_passOneDay_38 rfl ?_
    refine jq_getI (J := 6) Γ (at_com ho) fl_RX1_78 rfl rfl dX1_passOneDay_39 ?_
    refine jq_iconst Γ dX1_passOneDay_42 rfl ?_
    refine jq_iadd Γ dX1_passOneDay_43 ?_
    refine jq_putI Γ (at_com ho) fl_RX1_78 rfl rfl dX1_passOneDay_44 (fun s10 => ?_)
    refine jq_aload_n Γ dX1_passOneDay_47 rfl 0 rfl (jq_at_0 (at_com ho)) ?_
    refine jq_getI (J := 5) Γ (at_com ho) fl_RX1_75 rfl rfl dX1_passOneDay_48 ?_
    refine jq_iload_n Γ dX1_passOneDay_51 rfl 1 rfl ?_
    refine jq_icmp_ne (tgt := 59) Γ dX1_passOneDay_52 rfl ?_ ?_
    · refine jq_iconst Γ dX1_passOneDay_59 rfl ?_
      exact jq_ireturn Γ dX1_passOneDay_60 (hK0 _)
    · refine jq_iconst Γ dX1_passOneDay_55 rfl ?_
      refine jq_goto Γ (tgt := 60) dX1_passOneDay_56 rfl ?_
      exact jq_ireturn Γ dX1_passOneDay_60 (hK0 _)
  refine jq_aload_n Γ dX1_passOneDay_0 rfl 0 rfl (jq_at_0 (at_com ho)) ?_
  refine jq_getI (J := 5) Γ (at_com ho) fl_RX1_75 rfl rfl dX1_passOneDay_1 ?_
  refine jq_nmI (fun v1 => ?_)
  refine jq_istore_n (L' := [(1, jI v1), (0, jR o)]) Γ dX1_passOneDay_4 rfl hnl rfl rfl ?_
  refine jq_iconst Γ dX1_passOneDay_5 rfl ?_
  refine jq_istore_n (L' := [(2, jI 0), (1, jI v1), (0, jR o)]) Γ dX1_passOneDay_6 rfl hnl rfl rfl ?_
  refine jq_sub Γ (L' := [(0, jR o), (1, jI v1), (2, jI 0)]) [2, 1, 0] rfl ?_
  refine jq_loop2 (C := fun (t2 : Int) => jq_V jq_zX X (jq_zN jq_zX) σ 7 [(0, jR o), (1, jI v1), (2, jI t2)] []) (KX := Sum.elim (fun (e6 : Int) => jq_V jq_zX X (jq_zN jq_zX) σ 23 [(0, jR o), (1, jI v1), (2, jI e6)] []) (fun (e11 : Unit) => jq_V jq_zX X (jq_zN jq_zX) σ 37 [(0, jR o), (1, jI v1)] [])) ?_ ?_ 0
  · intro K7_t2 hCt2 hXt2 t2
    unfold X1_passOneDay_b7
    refine jq_iload_n Γ dX1_passOneDay_7 rfl 2 rfl ?_
    refine jq_aload_n Γ dX1_passOneDay_8 rfl 0 rfl (jq_at_0 (at_com ho)) ?_
    refine jq_getI (J := 4) Γ (at_com ho) fl_RX1_72 rfl rfl dX1_passOneDay_9 ?_
    refine jq_icmp_ge (tgt := 37) Γ dX1_passOneDay_12 rfl ?_ ?_
    · refine jq_sub Γ (L' := [(0, jR o), (1, jI v1)]) [0, 1] rfl ?_
      exact jq_done (hXt2 (.inr ()))
    · refine jq_aload_n Γ dX1_passOneDay_15 rfl 0 rfl (jq_at_0 (at_com ho)) ?_
      refine jq_iload_n Γ dX1_passOneDay_16 rfl 2 rfl ?_
      refine jq_cpZ (jq_virt (avs := [jI t2]) (st := []) Γ hlY rfl ml_RX1_143 rfl (at_com ho) rfl rfl rfl rfl rfl dX1_passOneDay_17) rfl (fun r h => ctX1_isReady ho h) (fun v3 hz4 => ?_)
      refine jq_if_eq (tgt := 31) Γ dX1_passOneDay_20 rfl ?_ ?_
      · refine jq_iincN (L' := fun v5 => [(2, jI v5), (0, jR o), (1, jI v1)]) Γ dX1_passOneDay_31 2 rfl hnl rfl (fun _ => rfl) (fun v5 => ?_)
        refine jq_goto Γ (tgt := 7) dX1_passOneDay_34 rfl ?_
        refine jq_sub Γ (L' := [(0, jR o), (1, jI v1), (2, jI v5)]) [1, 2, 0] rfl ?_
        exact jq_done (hCt2 v5)
      · exact jq_done (hXt2 (.inl t2))
  · refine jq_elim ?_ ?_
    · intro e6
      refine jq_aload_n Γ dX1_passOneDay_23 rfl 0 rfl (jq_at_0 (at_com ho)) ?_
      refine jq_iload_n Γ dX1_passOneDay_24 rfl 2 rfl ?_
      refine jq_cwV (jq_virt (avs := [jI e6]) (st := []) Γ hlY rfl ml_RX1_164 rfl (at_com ho) rfl rfl rfl rfl rfl dX1_passOneDay_25) (fun σ' h => ctX1_workAt ho h) (fun s7 => ?_)
      refine jq_goto Γ (tgt := 37) dX1_passOneDay_28 rfl ?_
      refine jq_sub Γ (L' := [(0, jR o), (1, jI v1)]) [0, 1] rfl ?_
      exact hj37_0 v1 s7
    · intro e11
      exact hj37_0 v1 σ


theorem dX1_passDays_0 : decode cX1_passDays 0 = .ok (.iconst 0, 1) := by decide +kernel
theorem dX1_passDays_1 : decode cX1_passDays 1 = .ok (.istore_n 2, 1) := by decide +kernel
theorem dX1_passDays_2 : decode cX1_passDays 2 = .ok (.iconst 0, 1) := by decide +kernel
theorem dX1_passDays_3 : decode cX1_passDays 3 = .ok (.istore_n 3, 1) := by decide +kernel
theorem dX1_passDays_4 : decode cX1_passDays 4 = .ok (.iload_n 3, 1) := by decide +kernel
theorem dX1_passDays_5 : decode cX1_passDays 5 = .ok (.iload_n 1, 1) := by decide +kernel
theorem dX1_passDays_6 : decode cX1_passDays 6 = .ok (.if_icmp .ge 16, 3) := by decide +kernel
theorem dX1_passDays_9 : decode cX1_passDays 9 = .ok (.iload_n 2, 1) := by decide +kernel
theorem dX1_passDays_10 : decode cX1_passDays 10 = .ok (.aload_n 0, 1) := by decide +kernel
theorem dX1_passDays_11 : decode cX1_passDays 11 = .ok (.invokevirtual 160, 3) := by decide +kernel
theorem dX1_passDays_14 : decode cX1_passDays 14 = .ok (.iadd, 1) := by decide +kernel
theorem dX1_passDays_15 : decode cX1_passDays 15 = .ok (.istore_n 2, 1) := by decide +kernel
theorem dX1_passDays_16 : decode cX1_passDays 16 = .ok (.iinc 3 1, 3) := by decide +kernel
theorem dX1_passDays_19 : decode cX1_passDays 19 = .ok (.goto (-15), 3) := by decide +kernel
theorem dX1_passDays_22 : decode cX1_passDays 22 = .ok (.iload_n 2, 1) := by decide +kernel
theorem dX1_passDays_23 : decode cX1_passDays 23 = .ok (.ireturn, 1) := by decide +kernel
set_option maxHeartbeats 4000000 in
set_option maxRecDepth 100000 in
theorem ctX1_passDays {o : Int} {p1 : Int} {σ : jq_M} {res : Int} {σ' : jq_M} (ho : jq_com o) (h : X1_passDays o p1 σ = some (res, σ')) : jq_MC jq_zX yX1_passDays cX1_passDays 4 (some .int) 3 83 [jR o, jI p1] σ (some (jI res)) σ' := by
  refine jq_met (own := RX1) (L0 := [(0, jR o), (1, jI p1)]) (by decide) rfl rfl rfl ?_
  intro X Γ hnl hlY hRT
  refine jq_use2 (P := fun r => jq_RT jq_zX X (some .int) (some (jI r.1)) r.2) ?_ h hRT
  intro K0 hK0
  unfold X1_passDays
  refine jq_iconst Γ dX1_passDays_0 rfl ?_
  refine jq_istore_n (L' := [(2, jI 0), (0, jR o), (1, jI p1)]) Γ dX1_passDays_1 rfl hnl rfl rfl ?_
  refine jq_iconst Γ dX1_passDays_2 rfl ?_
  refine jq_istore_n (L' := [(3, jI 0), (2, jI 0), (0, jR o), (1, jI p1)]) Γ dX1_passDays_3 rfl hnl rfl rfl ?_
  refine jq_sub Γ (L' := [(0, jR o), (1, jI p1), (2, jI 0), (3, jI 0)]) [2, 3, 1, 0] rfl ?_
  refine jq_loop2 (C := fun (t1 : Int × Int × jq_M) => jq_V jq_zX X (jq_zN jq_zX) t1.2.2 4 [(0, jR o), (1, jI p1), (2, jI t1.1), (3, jI t1.2.1)] []) (KX := fun (e6 : Int × jq_M) => jq_V jq_zX X (jq_zN jq_zX) e6.2 22 [(2, jI e6.1)] []) ?_ ?_ (0, 0, σ)
  · intro K4_t1 hCt1 hXt1 t1
    unfold X1_passDays_b4
    refine jq_iload_n Γ dX1_passDays_4 rfl 3 rfl ?_
    refine jq_iload_n Γ dX1_passDays_5 rfl 1 rfl ?_
    refine jq_icmp_ge (tgt := 22) Γ dX1_passDays_6 rfl ?_ ?_
    · refine jq_sub Γ (L' := [(2, jI t1.1)]) [2] rfl ?_
      exact jq_done (hXt1 (t1.1, t1.2.2))
    · refine jq_iload_n Γ dX1_passDays_9 rfl 2 rfl ?_
      refine jq_aload_n Γ dX1_passDays_10 rfl 0 rfl (jq_at_0 (at_com ho)) ?_
      refine jq_cwI (jq_virt (avs := []) (st := [jI t1.1]) Γ hlY rfl ml_RX1_160 rfl (at_com ho) rfl rfl rfl rfl rfl dX1_passDays_11) (fun r σ' h => ctX1_passOneDay ho h) (fun v2 s3 => ?_)
      refine jq_iadd Γ dX1_passDays_14 ?_
      refine jq_nmI (fun v4 => ?_)
      refine jq_istore_n (L' := [(2, jI v4), (0, jR o), (1, jI p1), (3, jI t1.2.1)]) Γ dX1_passDays_15 rfl hnl rfl rfl ?_
      refine jq_iincN (L' := fun v5 => [(3, jI v5), (2, jI v4), (0, jR o), (1, jI p1)]) Γ dX1_passDays_16 3 rfl hnl rfl (fun _ => rfl) (fun v5 => ?_)
      refine jq_goto Γ (tgt := 4) dX1_passDays_19 rfl ?_
      refine jq_sub Γ (L' := [(0, jR o), (1, jI p1), (2, jI v4), (3, jI v5)]) [2, 3, 1, 0] rfl ?_
      exact jq_done (hCt1 (v4, v5, s3))
  · intro e6
    refine jq_iload_n Γ dX1_passDays_22 rfl 0 rfl ?_
    exact jq_ireturn Γ dX1_passDays_23 (hK0 _)


theorem dX10_day_0 : decode cX10_day 0 = .ok (.iload_n 1, 1) := by decide +kernel
theorem dX10_day_1 : decode cX10_day 1 = .ok (.iconst 1, 1) := by decide +kernel
theorem dX10_day_2 : decode cX10_day 2 = .ok (.bipush 99, 2) := by decide +kernel
theorem dX10_day_4 : decode cX10_day 4 = .ok (.invokestatic 93, 3) := by decide +kernel
theorem dX10_day_7 : decode cX10_day 7 = .ok (.ifCond .ne 9, 3) := by decide +kernel
theorem dX10_day_10 : decode cX10_day 10 = .ok (.aload_n 0, 1) := by decide +kernel
theorem dX10_day_11 : decode cX10_day 11 = .ok (.iconst 1, 1) := by decide +kernel
theorem dX10_day_12 : decode cX10_day 12 = .ok (.invokevirtual 117, 3) := by decide +kernel
theorem dX10_day_15 : decode cX10_day 15 = .ok (.ireturn, 1) := by decide +kernel
theorem dX10_day_16 : decode cX10_day 16 = .ok (.aload_n 0, 1) := by decide +kernel
theorem dX10_day_17 : decode cX10_day 17 = .ok (.getfield 25, 3) := by decide +kernel
theorem dX10_day_20 : decode cX10_day 20 = .ok (.getfield 194, 3) := by decide +kernel
theorem dX10_day_23 : decode cX10_day 23 = .ok (.sipush 9999, 3) := by decide +kernel
theorem dX10_day_26 : decode cX10_day 26 = .ok (.iload_n 1, 1) := by decide +kernel
theorem dX10_day_27 : decode cX10_day 27 = .ok (.isub, 1) := by decide +kernel
theorem dX10_day_28 : decode cX10_day 28 = .ok (.if_icmp .le 9, 3) := by decide +kernel
theorem dX10_day_31 : decode cX10_day 31 = .ok (.aload_n 0, 1) := by decide +kernel
theorem dX10_day_32 : decode cX10_day 32 = .ok (.iconst 4, 1) := by decide +kernel
theorem dX10_day_33 : decode cX10_day 33 = .ok (.invokevirtual 117, 3) := by decide +kernel
theorem dX10_day_36 : decode cX10_day 36 = .ok (.ireturn, 1) := by decide +kernel
theorem dX10_day_37 : decode cX10_day 37 = .ok (.aload_n 0, 1) := by decide +kernel
theorem dX10_day_38 : decode cX10_day 38 = .ok (.aload_n 0, 1) := by decide +kernel
theorem dX10_day_39 : decode cX10_day 39 = .ok (.getfield 25, 3) := by decide +kernel
theorem dX10_day_42 : decode cX10_day 42 = .ok (.iload_n 1, 1) := by decide +kernel
theorem dX10_day_43 : decode cX10_day 43 = .ok (.invokevirtual 311, 3) := by decide +kernel
theorem dX10_day_46 : decode cX10_day 46 = .ok (.invokevirtual 167, 3) := by decide +kernel
theorem dX10_day_49 : decode cX10_day 49 = .ok (.ireturn, 1) := by decide +kernel
set_option maxHeartbeats 4000000 in
set_option maxRecDepth 100000 in
theorem ctX10_day {p1 : Int} {σ : jq_M} {res : Int} {σ' : jq_M}  (h : X10_day p1 σ = some (res, σ')) : jq_MC jq_zX yX10_day cX10_day 2 (some .int) 4 106 [jR 0, jI p1] σ (some (jI res)) σ' := by
  refine jq_met (own := RX10) (L0 := [(0, jR 0), (1, jI p1)]) (by decide) rfl rfl rfl ?_
  intro X Γ hnl hlY hRT
  refine jq_use2 (P := fun r => jq_RT jq_zX X (some .int) (some (jI r.1)) r.2) ?_ h hRT
  intro K0 hK0
  unfold X10_day
  refine jq_iload_n Γ dX10_day_0 rfl 1 rfl ?_
  refine jq_iconst Γ dX10_day_1 rfl ?_
  refine jq_bipush Γ dX10_day_2 rfl ?_
  refine jq_cpZ (jq_stat (avs := [jI p1, jI 1, jI 99]) (st := []) Γ hlY rfl ml_RX10_93 rfl rfl rfl rfl rfl dX10_day_4) rfl (fun r h => ctX10_within h) (fun v1 hz2 => ?_)
  refine jq_if_ne (tgt := 16) Γ dX10_day_7 rfl ?_ ?_
  · refine jq_aload_n Γ dX10_day_16 rfl 0 rfl (jq_at_0 at_X_0) ?_
    refine jq_getC (C := jq_cm2) Γ hlY at_X_0 fl_RX10_25 rfl rfl ly_now dX10_day_17 (fun c3 hc4q => ?_)
    have hc4 := jq_cm2_com hc4q
    refine jq_getI (J := 6) Γ (at_com hc4) fl_RX10_194 rfl rfl dX10_day_20 ?_
    refine jq_sipush Γ dX10_day_23 rfl ?_
    refine jq_iload_n Γ dX10_day_26 rfl 1 rfl ?_
    refine jq_isub Γ dX10_day_27 ?_
    refine jq_icmp_le (tgt := 37) Γ dX10_day_28 rfl ?_ ?_
    · refine jq_aload_n Γ dX10_day_37 rfl 0 rfl (jq_at_0 at_X_0) ?_
      refine jq_aload_n Γ dX10_day_38 rfl 0 rfl (jq_at_0 at_X_0) ?_
      refine jq_getC (C := jq_cm2) Γ hlY at_X_0 fl_RX10_25 rfl rfl ly_now dX10_day_39 (fun c5 hc6q => ?_)
      have hc6 := jq_cm2_com hc6q
      refine jq_iload_n Γ dX10_day_42 rfl 1 rfl ?_
      refine jq_cwI (jq_virt (avs := [jI p1]) (st := [jR 0]) Γ hlY rfl ml_RX10_311 rfl (at_com hc6) rfl rfl rfl rfl rfl dX10_day_43) (fun r σ' h => ctX1_passDays hc6 h) (fun v7 s8 => ?_)
      refine jq_cwI (jq_virt (avs := [jI v7]) (st := []) Γ hlY rfl ml_RX10_167 rfl at_X_0 rfl rfl rfl rfl rfl dX10_day_46) (fun r σ' h => ctX10_answer h) (fun v9 s10 => ?_)
      exact jq_ireturn Γ dX10_day_49 (hK0 _)
    · refine jq_aload_n Γ dX10_day_31 rfl 0 rfl (jq_at_0 at_X_0) ?_
      refine jq_iconst Γ dX10_day_32 rfl ?_
      refine jq_cwI (jq_virt (avs := [jI 4]) (st := []) Γ hlY rfl ml_RX10_117 rfl at_X_0 rfl rfl rfl rfl rfl dX10_day_33) (fun r σ' h => ctX10_refuse h) (fun v11 s12 => ?_)
      exact jq_ireturn Γ dX10_day_36 (hK0 _)
  · refine jq_aload_n Γ dX10_day_10 rfl 0 rfl (jq_at_0 at_X_0) ?_
    refine jq_iconst Γ dX10_day_11 rfl ?_
    refine jq_cwI (jq_virt (avs := [jI 1]) (st := []) Γ hlY rfl ml_RX10_117 rfl at_X_0 rfl rfl rfl rfl rfl dX10_day_12) (fun r σ' h => ctX10_refuse h) (fun v13 s14 => ?_)
    exact jq_ireturn Γ dX10_day_15 (hK0 _)


theorem dX1_agreeOn_0 : decode cX1_agreeOn 0 = .ok (.aload_n 0, 1) := by decide +kernel
theorem dX1_agreeOn_1 : decode cX1_agreeOn 1 = .ok (.iload_n 1, 1) := by decide +kernel
theorem dX1_agreeOn_2 : decode cX1_agreeOn 2 = .ok (.invokevirtual 143, 3) := by decide +kernel
theorem dX1_agreeOn_5 : decode cX1_agreeOn 5 = .ok (.ifCond .ne 5, 3) := by decide +kernel
theorem dX1_agreeOn_8 : decode cX1_agreeOn 8 = .ok (.iconst 0, 1) := by decide +kernel
theorem dX1_agreeOn_9 : decode cX1_agreeOn 9 = .ok (.ireturn, 1) := by decide +kernel
theorem dX1_agreeOn_10 : decode cX1_agreeOn 10 = .ok (.aload_n 0, 1) := by decide +kernel
theorem dX1_agreeOn_11 : decode cX1_agreeOn 11 = .ok (.dup, 1) := by decide +kernel
theorem dX1_agreeOn_12 : decode cX1_agreeOn 12 = .ok (.getfield 75, 3) := by decide +kernel
theorem dX1_agreeOn_15 : decode cX1_agreeOn 15 = .ok (.iconst 1, 1) := by decide +kernel
theorem dX1_agreeOn_16 : decode cX1_agreeOn 16 = .ok (.iload_n 1, 1) := by decide +kernel
theorem dX1_agreeOn_17 : decode cX1_agreeOn 17 = .ok (.ishl, 1) := by decide +kernel
theorem dX1_agreeOn_18 : decode cX1_agreeOn 18 = .ok (.ior, 1) := by decide +kernel
theorem dX1_agreeOn_19 : decode cX1_agreeOn 19 = .ok (.putfield 75, 3) := by decide +kernel
theorem dX1_agreeOn_22 : decode cX1_agreeOn 22 = .ok (.iconst 1, 1) := by decide +kernel
theorem dX1_agreeOn_23 : decode cX1_agreeOn 23 = .ok (.ireturn, 1) := by decide +kernel
set_option maxHeartbeats 4000000 in
set_option maxRecDepth 100000 in
theorem ctX1_agreeOn {o : Int} {p1 : Int} {σ : jq_M} {res : Int} {σ' : jq_M} (ho : jq_com o) (h : X1_agreeOn o p1 σ = some (res, σ')) : jq_MC jq_zX yX1_agreeOn cX1_agreeOn 2 (some .boolean) 2 61 [jR o, jI p1] σ (some (jI res)) σ' := by
  refine jq_met (own := RX1) (L0 := [(0, jR o), (1, jI p1)]) (by decide) rfl rfl rfl ?_
  intro X Γ hnl hlY hRT
  refine jq_use2 (P := fun r => jq_RT jq_zX X (some .boolean) (some (jI r.1)) r.2) ?_ h hRT
  intro K0 hK0
  unfold X1_agreeOn
  refine jq_aload_n Γ dX1_agreeOn_0 rfl 0 rfl (jq_at_0 (at_com ho)) ?_
  refine jq_iload_n Γ dX1_agreeOn_1 rfl 1 rfl ?_
  refine jq_cpZ (jq_virt (avs := [jI p1]) (st := []) Γ hlY rfl ml_RX1_143 rfl (at_com ho) rfl rfl rfl rfl rfl dX1_agreeOn_2) rfl (fun r h => ctX1_isReady ho h) (fun v1 hz2 => ?_)
  refine jq_if_ne (tgt := 10) Γ dX1_agreeOn_5 rfl ?_ ?_
  · refine jq_aload_n Γ dX1_agreeOn_10 rfl 0 rfl (jq_at_0 (at_com ho)) ?_
    refine jq_dup Γ dX1_agreeOn_11 rfl ?_
    refine jq_getI (J := 5) Γ (at_com ho) fl_RX1_75 rfl rfl dX1_agreeOn_12 ?_
    refine jq_iconst Γ dX1_agreeOn_15 rfl ?_
    refine jq_iload_n Γ dX1_agreeOn_16 rfl 1 rfl ?_
    refine jq_ishl Γ dX1_agreeOn_17 ?_
    refine jq_ior Γ dX1_agreeOn_18 ?_
    refine jq_putI Γ (at_com ho) fl_RX1_75 rfl rfl dX1_agreeOn_19 (fun s3 => ?_)
    refine jq_iconst Γ dX1_agreeOn_22 rfl ?_
    exact jq_zreturn Γ (Or.inr rfl) dX1_agreeOn_23 (hK0 _)
  · refine jq_iconst Γ dX1_agreeOn_8 rfl ?_
    exact jq_zreturn Γ (Or.inl rfl) dX1_agreeOn_9 (hK0 _)


theorem dX10_agree_0 : decode cX10_agree 0 = .ok (.aload_n 0, 1) := by decide +kernel
theorem dX10_agree_1 : decode cX10_agree 1 = .ok (.getfield 25, 3) := by decide +kernel
theorem dX10_agree_4 : decode cX10_agree 4 = .ok (.iload_n 1, 1) := by decide +kernel
theorem dX10_agree_5 : decode cX10_agree 5 = .ok (.invokevirtual 248, 3) := by decide +kernel
theorem dX10_agree_8 : decode cX10_agree 8 = .ok (.ifCond .ne 9, 3) := by decide +kernel
theorem dX10_agree_11 : decode cX10_agree 11 = .ok (.aload_n 0, 1) := by decide +kernel
theorem dX10_agree_12 : decode cX10_agree 12 = .ok (.iconst 1, 1) := by decide +kernel
theorem dX10_agree_13 : decode cX10_agree 13 = .ok (.invokevirtual 117, 3) := by decide +kernel
theorem dX10_agree_16 : decode cX10_agree 16 = .ok (.ireturn, 1) := by decide +kernel
theorem dX10_agree_17 : decode cX10_agree 17 = .ok (.aload_n 0, 1) := by decide +kernel
theorem dX10_agree_18 : decode cX10_agree 18 = .ok (.getfield 25, 3) := by decide +kernel
theorem dX10_agree_21 : decode cX10_agree 21 = .ok (.iload_n 1, 1) := by decide +kernel
theorem dX10_agree_22 : decode cX10_agree 22 = .ok (.invokevirtual 314, 3) := by decide +kernel
theorem dX10_agree_25 : decode cX10_agree 25 = .ok (.ifCond .ne 10, 3) := by decide +kernel
theorem dX10_agree_28 : decode cX10_agree 28 = .ok (.aload_n 0, 1) := by decide +kernel
theorem dX10_agree_29 : decode cX10_agree 29 = .ok (.bipush 7, 2) := by decide +kernel
theorem dX10_agree_31 : decode cX10_agree 31 = .ok (.invokevirtual 117, 3) := by decide +kernel
theorem dX10_agree_34 : decode cX10_agree 34 = .ok (.ireturn, 1) := by decide +kernel
theorem dX10_agree_35 : decode cX10_agree 35 = .ok (.aload_n 0, 1) := by decide +kernel
theorem dX10_agree_36 : decode cX10_agree 36 = .ok (.aload_n 0, 1) := by decide +kernel
theorem dX10_agree_37 : decode cX10_agree 37 = .ok (.getfield 25, 3) := by decide +kernel
theorem dX10_agree_40 : decode cX10_agree 40 = .ok (.getfield 210, 3) := by decide +kernel
theorem dX10_agree_43 : decode cX10_agree 43 = .ok (.invokestatic 306, 3) := by decide +kernel
theorem dX10_agree_46 : decode cX10_agree 46 = .ok (.invokevirtual 167, 3) := by decide +kernel
theorem dX10_agree_49 : decode cX10_agree 49 = .ok (.ireturn, 1) := by decide +kernel
set_option maxHeartbeats 4000000 in
set_option maxRecDepth 100000 in
theorem ctX10_agree {p1 : Int} {σ : jq_M} {res : Int} {σ' : jq_M}  (h : X10_agree p1 σ = some (res, σ')) : jq_MC jq_zX yX10_agree cX10_agree 2 (some .int) 3 82 [jR 0, jI p1] σ (some (jI res)) σ' := by
  refine jq_met (own := RX10) (L0 := [(0, jR 0), (1, jI p1)]) (by decide) rfl rfl rfl ?_
  intro X Γ hnl hlY hRT
  refine jq_use2 (P := fun r => jq_RT jq_zX X (some .int) (some (jI r.1)) r.2) ?_ h hRT
  intro K0 hK0
  unfold X10_agree
  refine jq_aload_n Γ dX10_agree_0 rfl 0 rfl (jq_at_0 at_X_0) ?_
  refine jq_getC (C := jq_cm2) Γ hlY at_X_0 fl_RX10_25 rfl rfl ly_now dX10_agree_1 (fun c1 hc2q => ?_)
  have hc2 := jq_cm2_com hc2q
  refine jq_iload_n Γ dX10_agree_4 rfl 1 rfl ?_
  refine jq_cpZ (jq_virt (avs := [jI p1]) (st := []) Γ hlY rfl ml_RX10_248 rfl (at_com hc2) rfl rfl rfl rfl rfl dX10_agree_5) rfl (fun r h => ctX1_isArticle hc2 h) (fun v3 hz4 => ?_)
  refine jq_if_ne (tgt := 17) Γ dX10_agree_8 rfl ?_ ?_
  · refine jq_aload_n Γ dX10_agree_17 rfl 0 rfl (jq_at_0 at_X_0) ?_
    refine jq_getC (C := jq_cm2) Γ hlY at_X_0 fl_RX10_25 rfl rfl ly_now dX10_agree_18 (fun c5 hc6q => ?_)
    have hc6 := jq_cm2_com hc6q
    refine jq_iload_n Γ dX10_agree_21 rfl 1 rfl ?_
    refine jq_cwZ (jq_virt (avs := [jI p1]) (st := []) Γ hlY rfl ml_RX10_314 rfl (at_com hc6) rfl rfl rfl rfl rfl dX10_agree_22) rfl (fun r σ' h => ctX1_agreeOn hc6 h) (fun v7 s8 hz9 => ?_)
    refine jq_if_ne (tgt := 35) Γ dX10_agree_25 rfl ?_ ?_
    · refine jq_aload_n Γ dX10_agree_35 rfl 0 rfl (jq_at_0 at_X_0) ?_
      refine jq_aload_n Γ dX10_agree_36 rfl 0 rfl (jq_at_0 at_X_0) ?_
      refine jq_getC (C := jq_cm2) Γ hlY at_X_0 fl_RX10_25 rfl rfl ly_now dX10_agree_37 (fun c10 hc11q => ?_)
      have hc11 := jq_cm2_com hc11q
      refine jq_getI (J := 5) Γ (at_com hc11) fl_RX10_210 rfl rfl dX10_agree_40 ?_
      refine jq_cpI (jq_stat (avs := [jI (s8 c10 5)]) (st := [jR 0]) Γ hlY rfl ml_RX10_306 rfl rfl rfl rfl rfl dX10_agree_43) (fun r h => ctJ6_bitCount_0f7a4 h) (fun v12 => ?_)
      refine jq_cwI (jq_virt (avs := [jI v12]) (st := []) Γ hlY rfl ml_RX10_167 rfl at_X_0 rfl rfl rfl rfl rfl dX10_agree_46) (fun r σ' h => ctX10_answer h) (fun v13 s14 => ?_)
      exact jq_ireturn Γ dX10_agree_49 (hK0 _)
    · refine jq_aload_n Γ dX10_agree_28 rfl 0 rfl (jq_at_0 at_X_0) ?_
      refine jq_bipush Γ dX10_agree_29 rfl ?_
      refine jq_cwI (jq_virt (avs := [jI 7]) (st := []) Γ hlY rfl ml_RX10_117 rfl at_X_0 rfl rfl rfl rfl rfl dX10_agree_31) (fun r σ' h => ctX10_refuse h) (fun v15 s16 => ?_)
      exact jq_ireturn Γ dX10_agree_34 (hK0 _)
  · refine jq_aload_n Γ dX10_agree_11 rfl 0 rfl (jq_at_0 at_X_0) ?_
    refine jq_iconst Γ dX10_agree_12 rfl ?_
    refine jq_cwI (jq_virt (avs := [jI 1]) (st := []) Γ hlY rfl ml_RX10_117 rfl at_X_0 rfl rfl rfl rfl rfl dX10_agree_13) (fun r σ' h => ctX10_refuse h) (fun v17 s18 => ?_)
    exact jq_ireturn Γ dX10_agree_16 (hK0 _)


theorem dX1_allFallsOf_0 : decode cX1_allFallsOf 0 = .ok (.iconst 0, 1) := by decide +kernel
theorem dX1_allFallsOf_1 : decode cX1_allFallsOf 1 = .ok (.istore_n 2, 1) := by decide +kernel
theorem dX1_allFallsOf_2 : decode cX1_allFallsOf 2 = .ok (.iconst 0, 1) := by decide +kernel
theorem dX1_allFallsOf_3 : decode cX1_allFallsOf 3 = .ok (.istore_n 3, 1) := by decide +kernel
theorem dX1_allFallsOf_4 : decode cX1_allFallsOf 4 = .ok (.iload_n 3, 1) := by decide +kernel
theorem dX1_allFallsOf_5 : decode cX1_allFallsOf 5 = .ok (.aload_n 0, 1) := by decide +kernel
theorem dX1_allFallsOf_6 : decode cX1_allFallsOf 6 = .ok (.getfield 72, 3) := by decide +kernel
theorem dX1_allFallsOf_9 : decode cX1_allFallsOf 9 = .ok (.if_icmp .ge 40, 3) := by decide +kernel
theorem dX1_allFallsOf_12 : decode cX1_allFallsOf 12 = .ok (.iload_n 3, 1) := by decide +kernel
theorem dX1_allFallsOf_13 : decode cX1_allFallsOf 13 = .ok (.aload_n 0, 1) := by decide +kernel
theorem dX1_allFallsOf_14 : decode cX1_allFallsOf 14 = .ok (.getfield 43, 3) := by decide +kernel
theorem dX1_allFallsOf_17 : decode cX1_allFallsOf 17 = .ok (.arraylength, 1) := by decide +kernel
theorem dX1_allFallsOf_18 : decode cX1_allFallsOf 18 = .ok (.if_icmp .ge 31, 3) := by decide +kernel
theorem dX1_allFallsOf_21 : decode cX1_allFallsOf 21 = .ok (.iload_n 3, 1) := by decide +kernel
theorem dX1_allFallsOf_22 : decode cX1_allFallsOf 22 = .ok (.iload_n 1, 1) := by decide +kernel
theorem dX1_allFallsOf_23 : decode cX1_allFallsOf 23 = .ok (.if_icmp .eq 14, 3) := by decide +kernel
theorem dX1_allFallsOf_26 : decode cX1_allFallsOf 26 = .ok (.aload_n 0, 1) := by decide +kernel
theorem dX1_allFallsOf_27 : decode cX1_allFallsOf 27 = .ok (.getfield 43, 3) := by decide +kernel
theorem dX1_allFallsOf_30 : decode cX1_allFallsOf 30 = .ok (.iload_n 3, 1) := by decide +kernel
theorem dX1_allFallsOf_31 : decode cX1_allFallsOf 31 = .ok (.iaload, 1) := by decide +kernel
theorem dX1_allFallsOf_32 : decode cX1_allFallsOf 32 = .ok (.iload_n 2, 1) := by decide +kernel
theorem dX1_allFallsOf_33 : decode cX1_allFallsOf 33 = .ok (.iand, 1) := by decide +kernel
theorem dX1_allFallsOf_34 : decode cX1_allFallsOf 34 = .ok (.ifCond .eq 9, 3) := by decide +kernel
theorem dX1_allFallsOf_37 : decode cX1_allFallsOf 37 = .ok (.iload_n 2, 1) := by decide +kernel
theorem dX1_allFallsOf_38 : decode cX1_allFallsOf 38 = .ok (.iconst 1, 1) := by decide +kernel
theorem dX1_allFallsOf_39 : decode cX1_allFallsOf 39 = .ok (.iload_n 3, 1) := by decide +kernel
theorem dX1_allFallsOf_40 : decode cX1_allFallsOf 40 = .ok (.ishl, 1) := by decide +kernel
theorem dX1_allFallsOf_41 : decode cX1_allFallsOf 41 = .ok (.ior, 1) := by decide +kernel
theorem dX1_allFallsOf_42 : decode cX1_allFallsOf 42 = .ok (.istore_n 2, 1) := by decide +kernel
theorem dX1_allFallsOf_43 : decode cX1_allFallsOf 43 = .ok (.iinc 3 1, 3) := by decide +kernel
theorem dX1_allFallsOf_46 : decode cX1_allFallsOf 46 = .ok (.goto (-42), 3) := by decide +kernel
theorem dX1_allFallsOf_49 : decode cX1_allFallsOf 49 = .ok (.iload_n 2, 1) := by decide +kernel
theorem dX1_allFallsOf_50 : decode cX1_allFallsOf 50 = .ok (.ireturn, 1) := by decide +kernel
set_option maxHeartbeats 4000000 in
set_option maxRecDepth 100000 in
theorem ctX1_allFallsOf {o : Int} {p1 : Int} {σ : jq_M} {res : Int} (ho : jq_com o) (h : X1_allFallsOf o p1 σ = some res) : jq_MC jq_zX yX1_allFallsOf cX1_allFallsOf 4 (some .int) 1 40 [jR o, jI p1] σ (some (jI res)) σ := by
  refine jq_met (own := RX1) (L0 := [(0, jR o), (1, jI p1)]) (by decide) rfl rfl rfl ?_
  intro X Γ hnl hlY hRT
  refine jq_use2 (P := fun r => jq_RT jq_zX X (some .int) (some (jI r)) σ) ?_ h hRT
  intro K0 hK0
  unfold X1_allFallsOf
  refine jq_iconst Γ dX1_allFallsOf_0 rfl ?_
  refine jq_istore_n (L' := [(2, jI 0), (0, jR o), (1, jI p1)]) Γ dX1_allFallsOf_1 rfl hnl rfl rfl ?_
  refine jq_iconst Γ dX1_allFallsOf_2 rfl ?_
  refine jq_istore_n (L' := [(3, jI 0), (2, jI 0), (0, jR o), (1, jI p1)]) Γ dX1_allFallsOf_3 rfl hnl rfl rfl ?_
  refine jq_sub Γ (L' := [(0, jR o), (1, jI p1), (2, jI 0), (3, jI 0)]) [2, 3, 1, 0] rfl ?_
  refine jq_loop2 (C := fun (t1 : Int × Int) => jq_V jq_zX X (jq_zN jq_zX) σ 4 [(0, jR o), (1, jI p1), (2, jI t1.1), (3, jI t1.2)] []) (KX := fun (e8 : Int) => jq_V jq_zX X (jq_zN jq_zX) σ 49 [(2, jI e8)] []) ?_ ?_ (0, 0)
  · intro K4_t1 hCt1 hXt1 t1
    unfold X1_allFallsOf_b4
    refine jq_iload_n Γ dX1_allFallsOf_4 rfl 3 rfl ?_
    refine jq_aload_n Γ dX1_allFallsOf_5 rfl 0 rfl (jq_at_0 (at_com ho)) ?_
    refine jq_getI (J := 4) Γ (at_com ho) fl_RX1_72 rfl rfl dX1_allFallsOf_6 ?_
    refine jq_icmp_ge (tgt := 49) Γ dX1_allFallsOf_9 rfl ?_ ?_
    · refine jq_sub Γ (L' := [(2, jI t1.1)]) [2] rfl ?_
      exact jq_done (hXt1 t1.1)
    · refine jq_iload_n Γ dX1_allFallsOf_12 rfl 3 rfl ?_
      refine jq_aload_n Γ dX1_allFallsOf_13 rfl 0 rfl (jq_at_0 (at_com ho)) ?_
      refine jq_getR (v := (o + 11)) Γ hlY (at_com ho) fl_RX1_43 rfl rfl (ly_X1_leansOn ho) dX1_allFallsOf_14 ?_
      refine jq_alen Γ (at_com_11 ho) rfl rfl rfl dX1_allFallsOf_17 ?_
      refine jq_icmp_ge (tgt := 49) Γ dX1_allFallsOf_18 rfl ?_ ?_
      · refine jq_sub Γ (L' := [(2, jI t1.1)]) [2] rfl ?_
        exact jq_done (hXt1 t1.1)
      · refine jq_iload_n Γ dX1_allFallsOf_21 rfl 3 rfl ?_
        refine jq_iload_n Γ dX1_allFallsOf_22 rfl 1 rfl ?_
        refine jq_icmp_eq (tgt := 37) Γ dX1_allFallsOf_23 rfl ?_ ?_
        · refine jq_iload_n Γ dX1_allFallsOf_37 rfl 2 rfl ?_
          refine jq_iconst Γ dX1_allFallsOf_38 rfl ?_
          refine jq_iload_n Γ dX1_allFallsOf_39 rfl 3 rfl ?_
          refine jq_ishl Γ dX1_allFallsOf_40 ?_
          refine jq_ior Γ dX1_allFallsOf_41 ?_
          refine jq_nmI (fun v2 => ?_)
          refine jq_istore_n (L' := [(2, jI v2), (0, jR o), (1, jI p1), (3, jI t1.2)]) Γ dX1_allFallsOf_42 rfl hnl rfl rfl ?_
          refine jq_iincN (L' := fun v3 => [(3, jI v3), (2, jI v2), (0, jR o), (1, jI p1)]) Γ dX1_allFallsOf_43 3 rfl hnl rfl (fun _ => rfl) (fun v3 => ?_)
          refine jq_goto Γ (tgt := 4) dX1_allFallsOf_46 rfl ?_
          refine jq_sub Γ (L' := [(0, jR o), (1, jI p1), (2, jI v2), (3, jI v3)]) [2, 3, 1, 0] rfl ?_
          exact jq_done (hCt1 (v2, v3))
        · refine jq_aload_n Γ dX1_allFallsOf_26 rfl 0 rfl (jq_at_0 (at_com ho)) ?_
          refine jq_getR (v := (o + 11)) Γ hlY (at_com ho) fl_RX1_43 rfl rfl (ly_X1_leansOn ho) dX1_allFallsOf_27 ?_
          refine jq_iload_n Γ dX1_allFallsOf_30 rfl 3 rfl ?_
          refine jq_iald Γ (at_com_11 ho) rfl dX1_allFallsOf_31 (fun v4 => ?_)
          refine jq_iload_n Γ dX1_allFallsOf_32 rfl 2 rfl ?_
          refine jq_iand Γ dX1_allFallsOf_33 ?_
          refine jq_if_eq (tgt := 43) Γ dX1_allFallsOf_34 rfl ?_ ?_
          · refine jq_iincN (L' := fun v5 => [(3, jI v5), (0, jR o), (1, jI p1), (2, jI t1.1)]) Γ dX1_allFallsOf_43 3 rfl hnl rfl (fun _ => rfl) (fun v5 => ?_)
            refine jq_goto Γ (tgt := 4) dX1_allFallsOf_46 rfl ?_
            refine jq_sub Γ (L' := [(0, jR o), (1, jI p1), (2, jI t1.1), (3, jI v5)]) [1, 2, 3, 0] rfl ?_
            exact jq_done (hCt1 (t1.1, v5))
          · refine jq_iload_n Γ dX1_allFallsOf_37 rfl 2 rfl ?_
            refine jq_iconst Γ dX1_allFallsOf_38 rfl ?_
            refine jq_iload_n Γ dX1_allFallsOf_39 rfl 3 rfl ?_
            refine jq_ishl Γ dX1_allFallsOf_40 ?_
            refine jq_ior Γ dX1_allFallsOf_41 ?_
            refine jq_nmI (fun v6 => ?_)
            refine jq_istore_n (L' := [(2, jI v6), (0, jR o), (1, jI p1), (3, jI t1.2)]) Γ dX1_allFallsOf_42 rfl hnl rfl rfl ?_
            refine jq_iincN (L' := fun v7 => [(3, jI v7), (2, jI v6), (0, jR o), (1, jI p1)]) Γ dX1_allFallsOf_43 3 rfl hnl rfl (fun _ => rfl) (fun v7 => ?_)
            refine jq_goto Γ (tgt := 4) dX1_allFallsOf_46 rfl ?_
            refine jq_sub Γ (L' := [(0, jR o), (1, jI p1), (2, jI v6), (3, jI v7)]) [2, 3, 1, 0] rfl ?_
            exact jq_done (hCt1 (v6, v7))
  · intro e8
    refine jq_iload_n Γ dX1_allFallsOf_49 rfl 0 rfl ?_
    exact jq_ireturn Γ dX1_allFallsOf_50 (hK0 _)


theorem dX1_letFall_0 : decode cX1_letFall 0 = .ok (.aload_n 0, 1) := by decide +kernel
theorem dX1_letFall_1 : decode cX1_letFall 1 = .ok (.iload_n 1, 1) := by decide +kernel
theorem dX1_letFall_2 : decode cX1_letFall 2 = .ok (.invokevirtual 149, 3) := by decide +kernel
theorem dX1_letFall_5 : decode cX1_letFall 5 = .ok (.ifCond .ne 5, 3) := by decide +kernel
theorem dX1_letFall_8 : decode cX1_letFall 8 = .ok (.iconst 0, 1) := by decide +kernel
theorem dX1_letFall_9 : decode cX1_letFall 9 = .ok (.ireturn, 1) := by decide +kernel
theorem dX1_letFall_10 : decode cX1_letFall 10 = .ok (.aload_n 0, 1) := by decide +kernel
theorem dX1_letFall_11 : decode cX1_letFall 11 = .ok (.iload_n 1, 1) := by decide +kernel
theorem dX1_letFall_12 : decode cX1_letFall 12 = .ok (.invokevirtual 152, 3) := by decide +kernel
theorem dX1_letFall_15 : decode cX1_letFall 15 = .ok (.aload_n 0, 1) := by decide +kernel
theorem dX1_letFall_16 : decode cX1_letFall 16 = .ok (.getfield 75, 3) := by decide +kernel
theorem dX1_letFall_19 : decode cX1_letFall 19 = .ok (.iand, 1) := by decide +kernel
theorem dX1_letFall_20 : decode cX1_letFall 20 = .ok (.istore_n 2, 1) := by decide +kernel
theorem dX1_letFall_21 : decode cX1_letFall 21 = .ok (.iconst 0, 1) := by decide +kernel
theorem dX1_letFall_22 : decode cX1_letFall 22 = .ok (.istore_n 3, 1) := by decide +kernel
theorem dX1_letFall_23 : decode cX1_letFall 23 = .ok (.iload_n 3, 1) := by decide +kernel
theorem dX1_letFall_24 : decode cX1_letFall 24 = .ok (.aload_n 0, 1) := by decide +kernel
theorem dX1_letFall_25 : decode cX1_letFall 25 = .ok (.getfield 72, 3) := by decide +kernel
theorem dX1_letFall_28 : decode cX1_letFall 28 = .ok (.if_icmp .ge 33, 3) := by decide +kernel
theorem dX1_letFall_31 : decode cX1_letFall 31 = .ok (.iload_n 3, 1) := by decide +kernel
theorem dX1_letFall_32 : decode cX1_letFall 32 = .ok (.aload_n 0, 1) := by decide +kernel
theorem dX1_letFall_33 : decode cX1_letFall 33 = .ok (.getfield 46, 3) := by decide +kernel
theorem dX1_letFall_36 : decode cX1_letFall 36 = .ok (.arraylength, 1) := by decide +kernel
theorem dX1_letFall_37 : decode cX1_letFall 37 = .ok (.if_icmp .ge 24, 3) := by decide +kernel
theorem dX1_letFall_40 : decode cX1_letFall 40 = .ok (.iload_n 2, 1) := by decide +kernel
theorem dX1_letFall_41 : decode cX1_letFall 41 = .ok (.iload_n 3, 1) := by decide +kernel
theorem dX1_letFall_42 : decode cX1_letFall 42 = .ok (.invokestatic 94, 3) := by decide +kernel
theorem dX1_letFall_45 : decode cX1_letFall 45 = .ok (.ifCond .eq 10, 3) := by decide +kernel
theorem dX1_letFall_48 : decode cX1_letFall 48 = .ok (.aload_n 0, 1) := by decide +kernel
theorem dX1_letFall_49 : decode cX1_letFall 49 = .ok (.getfield 46, 3) := by decide +kernel
theorem dX1_letFall_52 : decode cX1_letFall 52 = .ok (.iload_n 3, 1) := by decide +kernel
theorem dX1_letFall_53 : decode cX1_letFall 53 = .ok (.iconst 0, 1) := by decide +kernel
theorem dX1_letFall_54 : decode cX1_letFall 54 = .ok (.iastore, 1) := by decide +kernel
theorem dX1_letFall_55 : decode cX1_letFall 55 = .ok (.iinc 3 1, 3) := by decide +kernel
theorem dX1_letFall_58 : decode cX1_letFall 58 = .ok (.goto (-35), 3) := by decide +kernel
theorem dX1_letFall_61 : decode cX1_letFall 61 = .ok (.aload_n 0, 1) := by decide +kernel
theorem dX1_letFall_62 : decode cX1_letFall 62 = .ok (.dup, 1) := by decide +kernel
theorem dX1_letFall_63 : decode cX1_letFall 63 = .ok (.getfield 75, 3) := by decide +kernel
theorem dX1_letFall_66 : decode cX1_letFall 66 = .ok (.iload_n 2, 1) := by decide +kernel
theorem dX1_letFall_67 : decode cX1_letFall 67 = .ok (.iconst (-1), 1) := by decide +kernel
theorem dX1_letFall_68 : decode cX1_letFall 68 = .ok (.ixor, 1) := by decide +kernel
theorem dX1_letFall_69 : decode cX1_letFall 69 = .ok (.iand, 1) := by decide +kernel
theorem dX1_letFall_70 : decode cX1_letFall 70 = .ok (.putfield 75, 3) := by decide +kernel
theorem dX1_letFall_73 : decode cX1_letFall 73 = .ok (.iload_n 2, 1) := by decide +kernel
theorem dX1_letFall_74 : decode cX1_letFall 74 = .ok (.invokestatic 155, 3) := by decide +kernel
theorem dX1_letFall_77 : decode cX1_letFall 77 = .ok (.ireturn, 1) := by decide +kernel
set_option maxHeartbeats 4000000 in
set_option maxRecDepth 100000 in
theorem ctX1_letFall {o : Int} {p1 : Int} {σ : jq_M} {res : Int} {σ' : jq_M} (ho : jq_com o) (h : X1_letFall o p1 σ = some (res, σ')) : jq_MC jq_zX yX1_letFall cX1_letFall 4 (some .int) 3 82 [jR o, jI p1] σ (some (jI res)) σ' := by
  refine jq_met (own := RX1) (L0 := [(0, jR o), (1, jI p1)]) (by decide) rfl rfl rfl ?_
  intro X Γ hnl hlY hRT
  refine jq_use2 (P := fun r => jq_RT jq_zX X (some .int) (some (jI r.1)) r.2) ?_ h hRT
  intro K0 hK0
  unfold X1_letFall
  have hj61_0 : ∀ (j12 : Int) (s13 : jq_M), jq_J (X1_letFall_j61 o j12 s13) K0 (jq_V jq_zX X (jq_zN jq_zX) s13 61 [(0, jR o), (2, jI j12)] []) := by
    intro j12 s13
    unfold X1_letFall_j61
    refine jq_aload_n Γ dX1_letFall_61 rfl 0 rfl (jq_at_0 (at_com ho)) ?_
    refine jq_dup Γ dX1_letFall_62 rfl ?_
    refine jq_getI (J := 5) Γ (at_com ho) fl_RX1_75 rfl rfl dX1_letFall_63 ?_
    refine jq_iload_n Γ dX1_letFall_66 rfl 1 rfl ?_
    refine jq_iconst Γ dX1_letFall_67 rfl ?_
    refine jq_ixor Γ dX1_letFall_68 ?_
    refine jq_iand Γ dX1_letFall_69 ?_
    refine jq_putI Γ (at_com ho) fl_RX1_75 rfl rfl dX1_letFall_70 (fun s14 => ?_)
    refine jq_iload_n Γ dX1_letFall_73 rfl 1 rfl ?_
    refine jq_cpI (jq_stat (avs := [jI j12]) (st := []) Γ hlY rfl ml_RX1_155 rfl rfl rfl rfl rfl dX1_letFall_74) (fun r h => ctJ6_bitCount_0f7a4 h) (fun v15 => ?_)
    exact jq_ireturn Γ dX1_letFall_77 (hK0 _)
  refine jq_aload_n Γ dX1_letFall_0 rfl 0 rfl (jq_at_0 (at_com ho)) ?_
  refine jq_iload_n Γ dX1_letFall_1 rfl 1 rfl ?_
  refine jq_cpZ (jq_virt (avs := [jI p1]) (st := []) Γ hlY rfl ml_RX1_149 rfl (at_com ho) rfl rfl rfl rfl rfl dX1_letFall_2) rfl (fun r h => ctX1_isAgreed ho h) (fun v1 hz2 => ?_)
  refine jq_if_ne (tgt := 10) Γ dX1_letFall_5 rfl ?_ ?_
  · refine jq_aload_n Γ dX1_letFall_10 rfl 0 rfl (jq_at_0 (at_com ho)) ?_
    refine jq_iload_n Γ dX1_letFall_11 rfl 1 rfl ?_
    refine jq_cpI (jq_virt (avs := [jI p1]) (st := []) Γ hlY rfl ml_RX1_152 rfl (at_com ho) rfl rfl rfl rfl rfl dX1_letFall_12) (fun r h => ctX1_allFallsOf ho h) (fun v3 => ?_)
    refine jq_aload_n Γ dX1_letFall_15 rfl 0 rfl (jq_at_0 (at_com ho)) ?_
    refine jq_getI (J := 5) Γ (at_com ho) fl_RX1_75 rfl rfl dX1_letFall_16 ?_
    refine jq_iand Γ dX1_letFall_19 ?_
    refine jq_nmI (fun v4 => ?_)
    refine jq_istore_n (L' := [(2, jI v4), (0, jR o), (1, jI p1)]) Γ dX1_letFall_20 rfl hnl rfl rfl ?_
    refine jq_iconst Γ dX1_letFall_21 rfl ?_
    refine jq_istore_n (L' := [(3, jI 0), (2, jI v4), (0, jR o), (1, jI p1)]) Γ dX1_letFall_22 rfl hnl rfl rfl ?_
    refine jq_sub Γ (L' := [(0, jR o), (2, jI v4), (3, jI 0)]) [2, 1, 0] rfl ?_
    refine jq_loop2 (C := fun (t5 : Int × jq_M) => jq_V jq_zX X (jq_zN jq_zX) t5.2 23 [(0, jR o), (2, jI v4), (3, jI t5.1)] []) (KX := fun (e11 : jq_M) => jq_V jq_zX X (jq_zN jq_zX) e11 61 [(0, jR o), (2, jI v4)] []) ?_ ?_ (0, σ)
    · intro K23_t5 hCt5 hXt5 t5
      unfold X1_letFall_b23
      refine jq_iload_n Γ dX1_letFall_23 rfl 2 rfl ?_
      refine jq_aload_n Γ dX1_letFall_24 rfl 0 rfl (jq_at_0 (at_com ho)) ?_
      refine jq_getI (J := 4) Γ (at_com ho) fl_RX1_72 rfl rfl dX1_letFall_25 ?_
      refine jq_icmp_ge (tgt := 61) Γ dX1_letFall_28 rfl ?_ ?_
      · refine jq_sub Γ (L' := [(0, jR o), (2, jI v4)]) [0, 1] rfl ?_
        exact jq_done (hXt5 t5.2)
      · refine jq_iload_n Γ dX1_letFall_31 rfl 2 rfl ?_
        refine jq_aload_n Γ dX1_letFall_32 rfl 0 rfl (jq_at_0 (at_com ho)) ?_
        refine jq_getR (v := (o + 12)) Γ hlY (at_com ho) fl_RX1_46 rfl rfl (ly_X1_worked ho) dX1_letFall_33 ?_
        refine jq_alen Γ (at_com_12 ho) rfl rfl rfl dX1_letFall_36 ?_
        refine jq_icmp_ge (tgt := 61) Γ dX1_letFall_37 rfl ?_ ?_
        · refine jq_sub Γ (L' := [(0, jR o), (2, jI v4)]) [0, 1] rfl ?_
          exact jq_done (hXt5 t5.2)
        · refine jq_iload_n Γ dX1_letFall_40 rfl 1 rfl ?_
          refine jq_iload_n Γ dX1_letFall_41 rfl 2 rfl ?_
          refine jq_cpZ (jq_nest (avs := [jI v4, jI t5.1]) (st := []) Γ hlY rfl ml_RX1_94 rfl rfl rfl rfl rfl dX1_letFall_42) rfl (fun r h => ctX10_holds h) (fun v6 hz7 => ?_)
          refine jq_if_eq (tgt := 55) Γ dX1_letFall_45 rfl ?_ ?_
          · refine jq_iincN (L' := fun v8 => [(3, jI v8), (0, jR o), (2, jI v4)]) Γ dX1_letFall_55 2 rfl hnl rfl (fun _ => rfl) (fun v8 => ?_)
            refine jq_goto Γ (tgt := 23) dX1_letFall_58 rfl ?_
            refine jq_sub Γ (L' := [(0, jR o), (2, jI v4), (3, jI v8)]) [1, 2, 0] rfl ?_
            exact jq_done (hCt5 (v8, t5.2))
          · refine jq_aload_n Γ dX1_letFall_48 rfl 0 rfl (jq_at_0 (at_com ho)) ?_
            refine jq_getR (v := (o + 12)) Γ hlY (at_com ho) fl_RX1_46 rfl rfl (ly_X1_worked ho) dX1_letFall_49 ?_
            refine jq_iload_n Γ dX1_letFall_52 rfl 2 rfl ?_
            refine jq_iconst Γ dX1_letFall_53 rfl ?_
            refine jq_iast Γ (at_com_12 ho) rfl dX1_letFall_54 (fun s9 => ?_)
            refine jq_iincN (L' := fun v10 => [(3, jI v10), (0, jR o), (2, jI v4)]) Γ dX1_letFall_55 2 rfl hnl rfl (fun _ => rfl) (fun v10 => ?_)
            refine jq_goto Γ (tgt := 23) dX1_letFall_58 rfl ?_
            refine jq_sub Γ (L' := [(0, jR o), (2, jI v4), (3, jI v10)]) [1, 2, 0] rfl ?_
            exact jq_done (hCt5 (v10, s9))
    · intro e11
      exact hj61_0 v4 e11
  · refine jq_iconst Γ dX1_letFall_8 rfl ?_
    exact jq_ireturn Γ dX1_letFall_9 (hK0 _)


theorem dX10_withdraw_0 : decode cX10_withdraw 0 = .ok (.aload_n 0, 1) := by decide +kernel
theorem dX10_withdraw_1 : decode cX10_withdraw 1 = .ok (.getfield 25, 3) := by decide +kernel
theorem dX10_withdraw_4 : decode cX10_withdraw 4 = .ok (.iload_n 1, 1) := by decide +kernel
theorem dX10_withdraw_5 : decode cX10_withdraw 5 = .ok (.invokevirtual 248, 3) := by decide +kernel
theorem dX10_withdraw_8 : decode cX10_withdraw 8 = .ok (.ifCond .ne 9, 3) := by decide +kernel
theorem dX10_withdraw_11 : decode cX10_withdraw 11 = .ok (.aload_n 0, 1) := by decide +kernel
theorem dX10_withdraw_12 : decode cX10_withdraw 12 = .ok (.iconst 1, 1) := by decide +kernel
theorem dX10_withdraw_13 : decode cX10_withdraw 13 = .ok (.invokevirtual 117, 3) := by decide +kernel
theorem dX10_withdraw_16 : decode cX10_withdraw 16 = .ok (.ireturn, 1) := by decide +kernel
theorem dX10_withdraw_17 : decode cX10_withdraw 17 = .ok (.aload_n 0, 1) := by decide +kernel
theorem dX10_withdraw_18 : decode cX10_withdraw 18 = .ok (.getfield 25, 3) := by decide +kernel
theorem dX10_withdraw_21 : decode cX10_withdraw 21 = .ok (.iload_n 1, 1) := by decide +kernel
theorem dX10_withdraw_22 : decode cX10_withdraw 22 = .ok (.invokevirtual 317, 3) := by decide +kernel
theorem dX10_withdraw_25 : decode cX10_withdraw 25 = .ok (.istore_n 2, 1) := by decide +kernel
theorem dX10_withdraw_26 : decode cX10_withdraw 26 = .ok (.iload_n 2, 1) := by decide +kernel
theorem dX10_withdraw_27 : decode cX10_withdraw 27 = .ok (.ifCond .ne 12, 3) := by decide +kernel
theorem dX10_withdraw_30 : decode cX10_withdraw 30 = .ok (.aload_n 0, 1) := by decide +kernel
theorem dX10_withdraw_31 : decode cX10_withdraw 31 = .ok (.bipush 7, 2) := by decide +kernel
theorem dX10_withdraw_33 : decode cX10_withdraw 33 = .ok (.invokevirtual 117, 3) := by decide +kernel
theorem dX10_withdraw_36 : decode cX10_withdraw 36 = .ok (.goto 8, 3) := by decide +kernel
theorem dX10_withdraw_39 : decode cX10_withdraw 39 = .ok (.aload_n 0, 1) := by decide +kernel
theorem dX10_withdraw_40 : decode cX10_withdraw 40 = .ok (.iload_n 2, 1) := by decide +kernel
theorem dX10_withdraw_41 : decode cX10_withdraw 41 = .ok (.invokevirtual 167, 3) := by decide +kernel
theorem dX10_withdraw_44 : decode cX10_withdraw 44 = .ok (.ireturn, 1) := by decide +kernel
set_option maxHeartbeats 4000000 in
set_option maxRecDepth 100000 in
theorem ctX10_withdraw {p1 : Int} {σ : jq_M} {res : Int} {σ' : jq_M}  (h : X10_withdraw p1 σ = some (res, σ')) : jq_MC jq_zX yX10_withdraw cX10_withdraw 3 (some .int) 4 105 [jR 0, jI p1] σ (some (jI res)) σ' := by
  refine jq_met (own := RX10) (L0 := [(0, jR 0), (1, jI p1)]) (by decide) rfl rfl rfl ?_
  intro X Γ hnl hlY hRT
  refine jq_use2 (P := fun r => jq_RT jq_zX X (some .int) (some (jI r.1)) r.2) ?_ h hRT
  intro K0 hK0
  unfold X10_withdraw
  refine jq_aload_n Γ dX10_withdraw_0 rfl 0 rfl (jq_at_0 at_X_0) ?_
  refine jq_getC (C := jq_cm2) Γ hlY at_X_0 fl_RX10_25 rfl rfl ly_now dX10_withdraw_1 (fun c1 hc2q => ?_)
  have hc2 := jq_cm2_com hc2q
  refine jq_iload_n Γ dX10_withdraw_4 rfl 1 rfl ?_
  refine jq_cpZ (jq_virt (avs := [jI p1]) (st := []) Γ hlY rfl ml_RX10_248 rfl (at_com hc2) rfl rfl rfl rfl rfl dX10_withdraw_5) rfl (fun r h => ctX1_isArticle hc2 h) (fun v3 hz4 => ?_)
  refine jq_if_ne (tgt := 17) Γ dX10_withdraw_8 rfl ?_ ?_
  · refine jq_aload_n Γ dX10_withdraw_17 rfl 0 rfl (jq_at_0 at_X_0) ?_
    refine jq_getC (C := jq_cm2) Γ hlY at_X_0 fl_RX10_25 rfl rfl ly_now dX10_withdraw_18 (fun c5 hc6q => ?_)
    have hc6 := jq_cm2_com hc6q
    refine jq_iload_n Γ dX10_withdraw_21 rfl 1 rfl ?_
    refine jq_cwI (jq_virt (avs := [jI p1]) (st := []) Γ hlY rfl ml_RX10_317 rfl (at_com hc6) rfl rfl rfl rfl rfl dX10_withdraw_22) (fun r σ' h => ctX1_letFall hc6 h) (fun v7 s8 => ?_)
    refine jq_istore_n (L' := [(2, jI v7), (0, jR 0), (1, jI p1)]) Γ dX10_withdraw_25 rfl hnl rfl rfl ?_
    refine jq_iload_n Γ dX10_withdraw_26 rfl 0 rfl ?_
    refine jq_if_ne (tgt := 39) Γ dX10_withdraw_27 rfl ?_ ?_
    · refine jq_aload_n Γ dX10_withdraw_39 rfl 1 rfl (jq_at_0 at_X_0) ?_
      refine jq_iload_n Γ dX10_withdraw_40 rfl 0 rfl ?_
      refine jq_cwI (jq_virt (avs := [jI v7]) (st := []) Γ hlY rfl ml_RX10_167 rfl at_X_0 rfl rfl rfl rfl rfl dX10_withdraw_41) (fun r σ' h => ctX10_answer h) (fun v9 s10 => ?_)
      exact jq_ireturn Γ dX10_withdraw_44 (hK0 _)
    · refine jq_aload_n Γ dX10_withdraw_30 rfl 1 rfl (jq_at_0 at_X_0) ?_
      refine jq_bipush Γ dX10_withdraw_31 rfl ?_
      refine jq_cwI (jq_virt (avs := [jI 7]) (st := []) Γ hlY rfl ml_RX10_117 rfl at_X_0 rfl rfl rfl rfl rfl dX10_withdraw_33) (fun r σ' h => ctX10_refuse h) (fun v11 s12 => ?_)
      refine jq_goto Γ (tgt := 44) dX10_withdraw_36 rfl ?_
      exact jq_ireturn Γ dX10_withdraw_44 (hK0 _)
  · refine jq_aload_n Γ dX10_withdraw_11 rfl 0 rfl (jq_at_0 at_X_0) ?_
    refine jq_iconst Γ dX10_withdraw_12 rfl ?_
    refine jq_cwI (jq_virt (avs := [jI 1]) (st := []) Γ hlY rfl ml_RX10_117 rfl at_X_0 rfl rfl rfl rfl rfl dX10_withdraw_13) (fun r σ' h => ctX10_refuse h) (fun v13 s14 => ?_)
    exact jq_ireturn Γ dX10_withdraw_16 (hK0 _)


theorem dX10_insist_0 : decode cX10_insist 0 = .ok (.aload_n 0, 1) := by decide +kernel
theorem dX10_insist_1 : decode cX10_insist 1 = .ok (.getfield 25, 3) := by decide +kernel
theorem dX10_insist_4 : decode cX10_insist 4 = .ok (.iload_n 1, 1) := by decide +kernel
theorem dX10_insist_5 : decode cX10_insist 5 = .ok (.invokevirtual 227, 3) := by decide +kernel
theorem dX10_insist_8 : decode cX10_insist 8 = .ok (.ifCond .eq 13, 3) := by decide +kernel
theorem dX10_insist_11 : decode cX10_insist 11 = .ok (.iload_n 2, 1) := by decide +kernel
theorem dX10_insist_12 : decode cX10_insist 12 = .ok (.iconst 0, 1) := by decide +kernel
theorem dX10_insist_13 : decode cX10_insist 13 = .ok (.bipush 50, 2) := by decide +kernel
theorem dX10_insist_15 : decode cX10_insist 15 = .ok (.invokestatic 93, 3) := by decide +kernel
theorem dX10_insist_18 : decode cX10_insist 18 = .ok (.ifCond .ne 9, 3) := by decide +kernel
theorem dX10_insist_21 : decode cX10_insist 21 = .ok (.aload_n 0, 1) := by decide +kernel
theorem dX10_insist_22 : decode cX10_insist 22 = .ok (.iconst 1, 1) := by decide +kernel
theorem dX10_insist_23 : decode cX10_insist 23 = .ok (.invokevirtual 97, 3) := by decide +kernel
theorem dX10_insist_26 : decode cX10_insist 26 = .ok (.ireturn, 1) := by decide +kernel
theorem dX10_insist_27 : decode cX10_insist 27 = .ok (.aload_n 0, 1) := by decide +kernel
theorem dX10_insist_28 : decode cX10_insist 28 = .ok (.getfield 25, 3) := by decide +kernel
theorem dX10_insist_31 : decode cX10_insist 31 = .ok (.getfield 230, 3) := by decide +kernel
theorem dX10_insist_34 : decode cX10_insist 34 = .ok (.iload_n 1, 1) := by decide +kernel
theorem dX10_insist_35 : decode cX10_insist 35 = .ok (.iload_n 2, 1) := by decide +kernel
theorem dX10_insist_36 : decode cX10_insist 36 = .ok (.iastore, 1) := by decide +kernel
theorem dX10_insist_37 : decode cX10_insist 37 = .ok (.aload_n 0, 1) := by decide +kernel
theorem dX10_insist_38 : decode cX10_insist 38 = .ok (.invokevirtual 105, 3) := by decide +kernel
theorem dX10_insist_41 : decode cX10_insist 41 = .ok (.ireturn, 1) := by decide +kernel
set_option maxHeartbeats 4000000 in
set_option maxRecDepth 100000 in
theorem ctX10_insist {p1 : Int} {p2 : Int} {σ : jq_M} {res : Int} {σ' : jq_M}  (h : X10_insist p1 p2 σ = some (res, σ')) : jq_MC jq_zX yX10_insist cX10_insist 3 (some .boolean) 2 62 [jR 0, jI p1, jI p2] σ (some (jI res)) σ' := by
  refine jq_met (own := RX10) (L0 := [(0, jR 0), (1, jI p1), (2, jI p2)]) (by decide) rfl rfl rfl ?_
  intro X Γ hnl hlY hRT
  refine jq_use2 (P := fun r => jq_RT jq_zX X (some .boolean) (some (jI r.1)) r.2) ?_ h hRT
  intro K0 hK0
  unfold X10_insist
  have hj21_0 : ∀ (s5 : jq_M), jq_J (X10_insist_j21 s5) K0 (jq_V jq_zX X (jq_zN jq_zX) s5 21 [(0, jR 0)] []) := by
    intro s5
    unfold X10_insist_j21
    refine jq_aload_n Γ dX10_insist_21 rfl 0 rfl (jq_at_0 at_X_0) ?_
    refine jq_iconst Γ dX10_insist_22 rfl ?_
    refine jq_cwZ (jq_virt (avs := [jI 1]) (st := []) Γ hlY rfl ml_RX10_97 rfl at_X_0 rfl rfl rfl rfl rfl dX10_insist_23) rfl (fun r σ' h => ctX10_deny h) (fun v6 s7 hz8 => ?_)
    exact jq_zreturn Γ (hz8) dX10_insist_26 (hK0 _)
  refine jq_aload_n Γ dX10_insist_0 rfl 0 rfl (jq_at_0 at_X_0) ?_
  refine jq_getC (C := jq_cm2) Γ hlY at_X_0 fl_RX10_25 rfl rfl ly_now dX10_insist_1 (fun c1 hc2q => ?_)
  have hc2 := jq_cm2_com hc2q
  refine jq_iload_n Γ dX10_insist_4 rfl 1 rfl ?_
  refine jq_cpZ (jq_virt (avs := [jI p1]) (st := []) Γ hlY rfl ml_RX10_227 rfl (at_com hc2) rfl rfl rfl rfl rfl dX10_insist_5) rfl (fun r h => ctX1_isParty hc2 h) (fun v3 hz4 => ?_)
  refine jq_if_eq (tgt := 21) Γ dX10_insist_8 rfl ?_ ?_
  · refine jq_sub Γ (L' := [(0, jR 0)]) [0] rfl ?_
    exact hj21_0 σ
  · refine jq_iload_n Γ dX10_insist_11 rfl 2 rfl ?_
    refine jq_iconst Γ dX10_insist_12 rfl ?_
    refine jq_bipush Γ dX10_insist_13 rfl ?_
    refine jq_cpZ (jq_stat (avs := [jI p2, jI 0, jI 50]) (st := []) Γ hlY rfl ml_RX10_93 rfl rfl rfl rfl rfl dX10_insist_15) rfl (fun r h => ctX10_within h) (fun v9 hz10 => ?_)
    refine jq_if_ne (tgt := 27) Γ dX10_insist_18 rfl ?_ ?_
    · refine jq_aload_n Γ dX10_insist_27 rfl 0 rfl (jq_at_0 at_X_0) ?_
      refine jq_getC (C := jq_cm2) Γ hlY at_X_0 fl_RX10_25 rfl rfl ly_now dX10_insist_28 (fun c11 hc12q => ?_)
      have hc12 := jq_cm2_com hc12q
      refine jq_getR (v := (c11 + 2)) Γ hlY (at_com hc12) fl_RX10_230 rfl rfl (ly_X1_leasts hc12) dX10_insist_31 ?_
      refine jq_iload_n Γ dX10_insist_34 rfl 1 rfl ?_
      refine jq_iload_n Γ dX10_insist_35 rfl 2 rfl ?_
      refine jq_iast Γ (at_com_2 hc12) rfl dX10_insist_36 (fun s13 => ?_)
      refine jq_aload_n Γ dX10_insist_37 rfl 0 rfl (jq_at_0 at_X_0) ?_
      refine jq_cwZ (jq_virt (avs := []) (st := []) Γ hlY rfl ml_RX10_105 rfl at_X_0 rfl rfl rfl rfl rfl dX10_insist_38) rfl (fun r σ' h => ctX10_grant h) (fun v14 s15 hz16 => ?_)
      exact jq_zreturn Γ (hz16) dX10_insist_41 (hK0 _)
    · refine jq_sub Γ (L' := [(0, jR 0)]) [0] rfl ?_
      exact hj21_0 σ


theorem dX10_value_0 : decode cX10_value 0 = .ok (.aload_n 0, 1) := by decide +kernel
theorem dX10_value_1 : decode cX10_value 1 = .ok (.getfield 25, 3) := by decide +kernel
theorem dX10_value_4 : decode cX10_value 4 = .ok (.iload_n 1, 1) := by decide +kernel
theorem dX10_value_5 : decode cX10_value 5 = .ok (.invokevirtual 233, 3) := by decide +kernel
theorem dX10_value_8 : decode cX10_value 8 = .ok (.ifCond .eq 18, 3) := by decide +kernel
theorem dX10_value_11 : decode cX10_value 11 = .ok (.iload_n 2, 1) := by decide +kernel
theorem dX10_value_12 : decode cX10_value 12 = .ok (.ifCond .eq 14, 3) := by decide +kernel
theorem dX10_value_15 : decode cX10_value 15 = .ok (.iload_n 2, 1) := by decide +kernel
theorem dX10_value_16 : decode cX10_value 16 = .ok (.bipush (-9), 2) := by decide +kernel
theorem dX10_value_18 : decode cX10_value 18 = .ok (.bipush 9, 2) := by decide +kernel
theorem dX10_value_20 : decode cX10_value 20 = .ok (.invokestatic 93, 3) := by decide +kernel
theorem dX10_value_23 : decode cX10_value 23 = .ok (.ifCond .ne 9, 3) := by decide +kernel
theorem dX10_value_26 : decode cX10_value 26 = .ok (.aload_n 0, 1) := by decide +kernel
theorem dX10_value_27 : decode cX10_value 27 = .ok (.iconst 1, 1) := by decide +kernel
theorem dX10_value_28 : decode cX10_value 28 = .ok (.invokevirtual 97, 3) := by decide +kernel
theorem dX10_value_31 : decode cX10_value 31 = .ok (.ireturn, 1) := by decide +kernel
theorem dX10_value_32 : decode cX10_value 32 = .ok (.aload_n 0, 1) := by decide +kernel
theorem dX10_value_33 : decode cX10_value 33 = .ok (.getfield 25, 3) := by decide +kernel
theorem dX10_value_36 : decode cX10_value 36 = .ok (.getfield 245, 3) := by decide +kernel
theorem dX10_value_39 : decode cX10_value 39 = .ok (.iload_n 1, 1) := by decide +kernel
theorem dX10_value_40 : decode cX10_value 40 = .ok (.iload_n 2, 1) := by decide +kernel
theorem dX10_value_41 : decode cX10_value 41 = .ok (.iastore, 1) := by decide +kernel
theorem dX10_value_42 : decode cX10_value 42 = .ok (.aload_n 0, 1) := by decide +kernel
theorem dX10_value_43 : decode cX10_value 43 = .ok (.invokevirtual 105, 3) := by decide +kernel
theorem dX10_value_46 : decode cX10_value 46 = .ok (.ireturn, 1) := by decide +kernel
set_option maxHeartbeats 4000000 in
set_option maxRecDepth 100000 in
theorem ctX10_value {p1 : Int} {p2 : Int} {σ : jq_M} {res : Int} {σ' : jq_M}  (h : X10_value p1 p2 σ = some (res, σ')) : jq_MC jq_zX yX10_value cX10_value 3 (some .boolean) 2 62 [jR 0, jI p1, jI p2] σ (some (jI res)) σ' := by
  refine jq_met (own := RX10) (L0 := [(0, jR 0), (1, jI p1), (2, jI p2)]) (by decide) rfl rfl rfl ?_
  intro X Γ hnl hlY hRT
  refine jq_use2 (P := fun r => jq_RT jq_zX X (some .boolean) (some (jI r.1)) r.2) ?_ h hRT
  intro K0 hK0
  unfold X10_value
  have hj26_0 : ∀ (s5 : jq_M), jq_J (X10_value_j26 s5) K0 (jq_V jq_zX X (jq_zN jq_zX) s5 26 [(0, jR 0)] []) := by
    intro s5
    unfold X10_value_j26
    refine jq_aload_n Γ dX10_value_26 rfl 0 rfl (jq_at_0 at_X_0) ?_
    refine jq_iconst Γ dX10_value_27 rfl ?_
    refine jq_cwZ (jq_virt (avs := [jI 1]) (st := []) Γ hlY rfl ml_RX10_97 rfl at_X_0 rfl rfl rfl rfl rfl dX10_value_28) rfl (fun r σ' h => ctX10_deny h) (fun v6 s7 hz8 => ?_)
    exact jq_zreturn Γ (hz8) dX10_value_31 (hK0 _)
  refine jq_aload_n Γ dX10_value_0 rfl 0 rfl (jq_at_0 at_X_0) ?_
  refine jq_getC (C := jq_cm2) Γ hlY at_X_0 fl_RX10_25 rfl rfl ly_now dX10_value_1 (fun c1 hc2q => ?_)
  have hc2 := jq_cm2_com hc2q
  refine jq_iload_n Γ dX10_value_4 rfl 1 rfl ?_
  refine jq_cpZ (jq_virt (avs := [jI p1]) (st := []) Γ hlY rfl ml_RX10_233 rfl (at_com hc2) rfl rfl rfl rfl rfl dX10_value_5) rfl (fun r h => ctX1_isWish hc2 h) (fun v3 hz4 => ?_)
  refine jq_if_eq (tgt := 26) Γ dX10_value_8 rfl ?_ ?_
  · refine jq_sub Γ (L' := [(0, jR 0)]) [0] rfl ?_
    exact hj26_0 σ
  · refine jq_iload_n Γ dX10_value_11 rfl 2 rfl ?_
    refine jq_if_eq (tgt := 26) Γ dX10_value_12 rfl ?_ ?_
    · refine jq_sub Γ (L' := [(0, jR 0)]) [0] rfl ?_
      exact hj26_0 σ
    · refine jq_iload_n Γ dX10_value_15 rfl 2 rfl ?_
      refine jq_bipush Γ dX10_value_16 rfl ?_
      refine jq_bipush Γ dX10_value_18 rfl ?_
      refine jq_cpZ (jq_stat (avs := [jI p2, jI (-9), jI 9]) (st := []) Γ hlY rfl ml_RX10_93 rfl rfl rfl rfl rfl dX10_value_20) rfl (fun r h => ctX10_within h) (fun v9 hz10 => ?_)
      refine jq_if_ne (tgt := 32) Γ dX10_value_23 rfl ?_ ?_
      · refine jq_aload_n Γ dX10_value_32 rfl 0 rfl (jq_at_0 at_X_0) ?_
        refine jq_getC (C := jq_cm2) Γ hlY at_X_0 fl_RX10_25 rfl rfl ly_now dX10_value_33 (fun c11 hc12q => ?_)
        have hc12 := jq_cm2_com hc12q
        refine jq_getR (v := (c11 + 7)) Γ hlY (at_com hc12) fl_RX10_245 rfl rfl (ly_X1_worths hc12) dX10_value_36 ?_
        refine jq_iload_n Γ dX10_value_39 rfl 1 rfl ?_
        refine jq_iload_n Γ dX10_value_40 rfl 2 rfl ?_
        refine jq_iast Γ (at_com_7 hc12) rfl dX10_value_41 (fun s13 => ?_)
        refine jq_aload_n Γ dX10_value_42 rfl 0 rfl (jq_at_0 at_X_0) ?_
        refine jq_cwZ (jq_virt (avs := []) (st := []) Γ hlY rfl ml_RX10_105 rfl at_X_0 rfl rfl rfl rfl rfl dX10_value_43) rfl (fun r σ' h => ctX10_grant h) (fun v14 s15 hz16 => ?_)
        exact jq_zreturn Γ (hz16) dX10_value_46 (hK0 _)
      · refine jq_sub Γ (L' := [(0, jR 0)]) [0] rfl ?_
        exact hj26_0 σ


theorem dX1_isCorner_0 : decode cX1_isCorner 0 = .ok (.aload_n 0, 1) := by decide +kernel
theorem dX1_isCorner_1 : decode cX1_isCorner 1 = .ok (.getfield 63, 3) := by decide +kernel
theorem dX1_isCorner_4 : decode cX1_isCorner 4 = .ok (.iload_n 1, 1) := by decide +kernel
theorem dX1_isCorner_5 : decode cX1_isCorner 5 = .ok (.invokestatic 94, 3) := by decide +kernel
theorem dX1_isCorner_8 : decode cX1_isCorner 8 = .ok (.ireturn, 1) := by decide +kernel
set_option maxHeartbeats 4000000 in
set_option maxRecDepth 100000 in
theorem ctX1_isCorner {o : Int} {p1 : Int} {σ : jq_M} {res : Int} (ho : jq_com o) (h : X1_isCorner o p1 σ = some res) : jq_MC jq_zX yX1_isCorner cX1_isCorner 2 (some .boolean) 2 61 [jR o, jI p1] σ (some (jI res)) σ := by
  refine jq_met (own := RX1) (L0 := [(0, jR o), (1, jI p1)]) (by decide) rfl rfl rfl ?_
  intro X Γ hnl hlY hRT
  refine jq_use2 (P := fun r => jq_RT jq_zX X (some .boolean) (some (jI r)) σ) ?_ h hRT
  intro K0 hK0
  unfold X1_isCorner
  refine jq_aload_n Γ dX1_isCorner_0 rfl 0 rfl (jq_at_0 (at_com ho)) ?_
  refine jq_getI (J := 1) Γ (at_com ho) fl_RX1_63 rfl rfl dX1_isCorner_1 ?_
  refine jq_iload_n Γ dX1_isCorner_4 rfl 1 rfl ?_
  refine jq_cpZ (jq_nest (avs := [jI (σ o 1), jI p1]) (st := []) Γ hlY rfl ml_RX1_94 rfl rfl rfl rfl rfl dX1_isCorner_5) rfl (fun r h => ctX10_holds h) (fun v1 hz2 => ?_)
  exact jq_zreturn Γ (hz2) dX1_isCorner_8 (hK0 _)


theorem dX10_carve_0 : decode cX10_carve 0 = .ok (.aload_n 0, 1) := by decide +kernel
theorem dX10_carve_1 : decode cX10_carve 1 = .ok (.getfield 25, 3) := by decide +kernel
theorem dX10_carve_4 : decode cX10_carve 4 = .ok (.iload_n 1, 1) := by decide +kernel
theorem dX10_carve_5 : decode cX10_carve 5 = .ok (.invokevirtual 217, 3) := by decide +kernel
theorem dX10_carve_8 : decode cX10_carve 8 = .ok (.ifCond .ne 9, 3) := by decide +kernel
theorem dX10_carve_11 : decode cX10_carve 11 = .ok (.aload_n 0, 1) := by decide +kernel
theorem dX10_carve_12 : decode cX10_carve 12 = .ok (.iconst 1, 1) := by decide +kernel
theorem dX10_carve_13 : decode cX10_carve 13 = .ok (.invokevirtual 97, 3) := by decide +kernel
theorem dX10_carve_16 : decode cX10_carve 16 = .ok (.ireturn, 1) := by decide +kernel
theorem dX10_carve_17 : decode cX10_carve 17 = .ok (.aload_n 0, 1) := by decide +kernel
theorem dX10_carve_18 : decode cX10_carve 18 = .ok (.getfield 25, 3) := by decide +kernel
theorem dX10_carve_21 : decode cX10_carve 21 = .ok (.iload_n 1, 1) := by decide +kernel
theorem dX10_carve_22 : decode cX10_carve 22 = .ok (.invokevirtual 320, 3) := by decide +kernel
theorem dX10_carve_25 : decode cX10_carve 25 = .ok (.iload_n 2, 1) := by decide +kernel
theorem dX10_carve_26 : decode cX10_carve 26 = .ok (.if_icmp .ne 10, 3) := by decide +kernel
theorem dX10_carve_29 : decode cX10_carve 29 = .ok (.aload_n 0, 1) := by decide +kernel
theorem dX10_carve_30 : decode cX10_carve 30 = .ok (.bipush 7, 2) := by decide +kernel
theorem dX10_carve_32 : decode cX10_carve 32 = .ok (.invokevirtual 97, 3) := by decide +kernel
theorem dX10_carve_35 : decode cX10_carve 35 = .ok (.ireturn, 1) := by decide +kernel
theorem dX10_carve_36 : decode cX10_carve 36 = .ok (.aload_n 0, 1) := by decide +kernel
theorem dX10_carve_37 : decode cX10_carve 37 = .ok (.getfield 25, 3) := by decide +kernel
theorem dX10_carve_40 : decode cX10_carve 40 = .ok (.dup, 1) := by decide +kernel
theorem dX10_carve_41 : decode cX10_carve 41 = .ok (.getfield 197, 3) := by decide +kernel
theorem dX10_carve_44 : decode cX10_carve 44 = .ok (.iconst 1, 1) := by decide +kernel
theorem dX10_carve_45 : decode cX10_carve 45 = .ok (.iload_n 1, 1) := by decide +kernel
theorem dX10_carve_46 : decode cX10_carve 46 = .ok (.ishl, 1) := by decide +kernel
theorem dX10_carve_47 : decode cX10_carve 47 = .ok (.ixor, 1) := by decide +kernel
theorem dX10_carve_48 : decode cX10_carve 48 = .ok (.putfield 197, 3) := by decide +kernel
theorem dX10_carve_51 : decode cX10_carve 51 = .ok (.aload_n 0, 1) := by decide +kernel
theorem dX10_carve_52 : decode cX10_carve 52 = .ok (.invokevirtual 105, 3) := by decide +kernel
theorem dX10_carve_55 : decode cX10_carve 55 = .ok (.ireturn, 1) := by decide +kernel
set_option maxHeartbeats 4000000 in
set_option maxRecDepth 100000 in
theorem ctX10_carve {p1 : Int} {p2 : Int} {σ : jq_M} {res : Int} {σ' : jq_M}  (h : X10_carve p1 p2 σ = some (res, σ')) : jq_MC jq_zX yX10_carve cX10_carve 3 (some .boolean) 3 82 [jR 0, jI p1, jI p2] σ (some (jI res)) σ' := by
  refine jq_met (own := RX10) (L0 := [(0, jR 0), (1, jI p1), (2, jI p2)]) (by decide) rfl rfl rfl ?_
  intro X Γ hnl hlY hRT
  refine jq_use2 (P := fun r => jq_RT jq_zX X (some .boolean) (some (jI r.1)) r.2) ?_ h hRT
  intro K0 hK0
  unfold X10_carve
  refine jq_aload_n Γ dX10_carve_0 rfl 0 rfl (jq_at_0 at_X_0) ?_
  refine jq_getC (C := jq_cm2) Γ hlY at_X_0 fl_RX10_25 rfl rfl ly_now dX10_carve_1 (fun c1 hc2q => ?_)
  have hc2 := jq_cm2_com hc2q
  refine jq_iload_n Γ dX10_carve_4 rfl 1 rfl ?_
  refine jq_cpZ (jq_virt (avs := [jI p1]) (st := []) Γ hlY rfl ml_RX10_217 rfl (at_com hc2) rfl rfl rfl rfl rfl dX10_carve_5) rfl (fun r h => ctX1_isPlace hc2 h) (fun v3 hz4 => ?_)
  refine jq_if_ne (tgt := 17) Γ dX10_carve_8 rfl ?_ ?_
  · refine jq_aload_n Γ dX10_carve_17 rfl 0 rfl (jq_at_0 at_X_0) ?_
    refine jq_getC (C := jq_cm2) Γ hlY at_X_0 fl_RX10_25 rfl rfl ly_now dX10_carve_18 (fun c5 hc6q => ?_)
    have hc6 := jq_cm2_com hc6q
    refine jq_iload_n Γ dX10_carve_21 rfl 1 rfl ?_
    refine jq_cpZ (jq_virt (avs := [jI p1]) (st := []) Γ hlY rfl ml_RX10_320 rfl (at_com hc6) rfl rfl rfl rfl rfl dX10_carve_22) rfl (fun r h => ctX1_isCorner hc6 h) (fun v7 hz8 => ?_)
    refine jq_iload_n Γ dX10_carve_25 rfl 2 rfl ?_
    refine jq_icmp_ne (tgt := 36) Γ dX10_carve_26 rfl ?_ ?_
    · refine jq_aload_n Γ dX10_carve_36 rfl 0 rfl (jq_at_0 at_X_0) ?_
      refine jq_getC (C := jq_cm2) Γ hlY at_X_0 fl_RX10_25 rfl rfl ly_now dX10_carve_37 (fun c9 hc10q => ?_)
      have hc10 := jq_cm2_com hc10q
      refine jq_dup Γ dX10_carve_40 rfl ?_
      refine jq_getI (J := 1) Γ (at_com hc10) fl_RX10_197 rfl rfl dX10_carve_41 ?_
      refine jq_iconst Γ dX10_carve_44 rfl ?_
      refine jq_iload_n Γ dX10_carve_45 rfl 1 rfl ?_
      refine jq_ishl Γ dX10_carve_46 ?_
      refine jq_ixor Γ dX10_carve_47 ?_
      refine jq_putI Γ (at_com hc10) fl_RX10_197 rfl rfl dX10_carve_48 (fun s11 => ?_)
      refine jq_aload_n Γ dX10_carve_51 rfl 0 rfl (jq_at_0 at_X_0) ?_
      refine jq_cwZ (jq_virt (avs := []) (st := []) Γ hlY rfl ml_RX10_105 rfl at_X_0 rfl rfl rfl rfl rfl dX10_carve_52) rfl (fun r σ' h => ctX10_grant h) (fun v12 s13 hz14 => ?_)
      exact jq_zreturn Γ (hz14) dX10_carve_55 (hK0 _)
    · refine jq_aload_n Γ dX10_carve_29 rfl 0 rfl (jq_at_0 at_X_0) ?_
      refine jq_bipush Γ dX10_carve_30 rfl ?_
      refine jq_cwZ (jq_virt (avs := [jI 7]) (st := []) Γ hlY rfl ml_RX10_97 rfl at_X_0 rfl rfl rfl rfl rfl dX10_carve_32) rfl (fun r σ' h => ctX10_deny h) (fun v15 s16 hz17 => ?_)
      exact jq_zreturn Γ (hz17) dX10_carve_35 (hK0 _)
  · refine jq_aload_n Γ dX10_carve_11 rfl 0 rfl (jq_at_0 at_X_0) ?_
    refine jq_iconst Γ dX10_carve_12 rfl ?_
    refine jq_cwZ (jq_virt (avs := [jI 1]) (st := []) Γ hlY rfl ml_RX10_97 rfl at_X_0 rfl rfl rfl rfl rfl dX10_carve_13) rfl (fun r σ' h => ctX10_deny h) (fun v18 s19 hz20 => ?_)
    exact jq_zreturn Γ (hz20) dX10_carve_16 (hK0 _)


theorem dX8_count_0 : decode cX8_count 0 = .ok (.aload_n 1, 1) := by decide +kernel
theorem dX8_count_1 : decode cX8_count 1 = .ok (.getfield 24, 3) := by decide +kernel
theorem dX8_count_4 : decode cX8_count 4 = .ok (.ifCond .ne 5, 3) := by decide +kernel
theorem dX8_count_7 : decode cX8_count 7 = .ok (.iconst 0, 1) := by decide +kernel
theorem dX8_count_8 : decode cX8_count 8 = .ok (.ireturn, 1) := by decide +kernel
theorem dX8_count_9 : decode cX8_count 9 = .ok (.iconst 1, 1) := by decide +kernel
theorem dX8_count_10 : decode cX8_count 10 = .ok (.istore_n 2, 1) := by decide +kernel
theorem dX8_count_11 : decode cX8_count 11 = .ok (.iconst 0, 1) := by decide +kernel
theorem dX8_count_12 : decode cX8_count 12 = .ok (.istore_n 3, 1) := by decide +kernel
theorem dX8_count_13 : decode cX8_count 13 = .ok (.iload_n 3, 1) := by decide +kernel
theorem dX8_count_14 : decode cX8_count 14 = .ok (.aload_n 1, 1) := by decide +kernel
theorem dX8_count_15 : decode cX8_count 15 = .ok (.getfield 30, 3) := by decide +kernel
theorem dX8_count_18 : decode cX8_count 18 = .ok (.if_icmp .ge 18, 3) := by decide +kernel
theorem dX8_count_21 : decode cX8_count 21 = .ok (.iload_n 2, 1) := by decide +kernel
theorem dX8_count_22 : decode cX8_count 22 = .ok (.aload_n 1, 1) := by decide +kernel
theorem dX8_count_23 : decode cX8_count 23 = .ok (.getfield 24, 3) := by decide +kernel
theorem dX8_count_26 : decode cX8_count 26 = .ok (.iload_n 3, 1) := by decide +kernel
theorem dX8_count_27 : decode cX8_count 27 = .ok (.isub, 1) := by decide +kernel
theorem dX8_count_28 : decode cX8_count 28 = .ok (.imul, 1) := by decide +kernel
theorem dX8_count_29 : decode cX8_count 29 = .ok (.istore_n 2, 1) := by decide +kernel
theorem dX8_count_30 : decode cX8_count 30 = .ok (.iinc 3 1, 3) := by decide +kernel
theorem dX8_count_33 : decode cX8_count 33 = .ok (.goto (-20), 3) := by decide +kernel
theorem dX8_count_36 : decode cX8_count 36 = .ok (.iload_n 2, 1) := by decide +kernel
theorem dX8_count_37 : decode cX8_count 37 = .ok (.ireturn, 1) := by decide +kernel
set_option maxHeartbeats 4000000 in
set_option maxRecDepth 100000 in
theorem ctX8_count {p1 : Int} {σ : jq_M} {res : Int} (hp1 : jq_com p1) (h : X8_count p1 σ = some res) : jq_MC jq_zX yX8_count cX8_count 4 (some .int) 1 40 [jR 52, jR p1] σ (some (jI res)) σ := by
  refine jq_met (own := RX8) (L0 := [(0, jR 52), (1, jR p1)]) (by decide) rfl rfl rfl ?_
  intro X Γ hnl hlY hRT
  refine jq_use2 (P := fun r => jq_RT jq_zX X (some .int) (some (jI r)) σ) ?_ h hRT
  intro K0 hK0
  unfold X8_count
  refine jq_aload_n Γ dX8_count_0 rfl 1 rfl (jq_at_0 (at_com hp1)) ?_
  refine jq_getI (J := 0) Γ (at_com hp1) fl_RX8_24 rfl rfl dX8_count_1 ?_
  refine jq_if_ne (tgt := 9) Γ dX8_count_4 rfl ?_ ?_
  · refine jq_iconst Γ dX8_count_9 rfl ?_
    refine jq_istore_n (L' := [(2, jI 1), (0, jR 52), (1, jR p1)]) Γ dX8_count_10 rfl hnl rfl rfl ?_
    refine jq_iconst Γ dX8_count_11 rfl ?_
    refine jq_istore_n (L' := [(3, jI 0), (2, jI 1), (0, jR 52), (1, jR p1)]) Γ dX8_count_12 rfl hnl rfl rfl ?_
    refine jq_sub Γ (L' := [(1, jR p1), (2, jI 1), (3, jI 0)]) [3, 1, 0] rfl ?_
    refine jq_loop2 (C := fun (t1 : Int × Int) => jq_V jq_zX X (jq_zN jq_zX) σ 13 [(1, jR p1), (2, jI t1.1), (3, jI t1.2)] []) (KX := fun (e4 : Int) => jq_V jq_zX X (jq_zN jq_zX) σ 36 [(2, jI e4)] []) ?_ ?_ (1, 0)
    · intro K13_t1 hCt1 hXt1 t1
      unfold X8_count_b13
      refine jq_iload_n Γ dX8_count_13 rfl 2 rfl ?_
      refine jq_aload_n Γ dX8_count_14 rfl 0 rfl (jq_at_0 (at_com hp1)) ?_
      refine jq_getI (J := 2) Γ (at_com hp1) fl_RX8_30 rfl rfl dX8_count_15 ?_
      refine jq_icmp_ge (tgt := 36) Γ dX8_count_18 rfl ?_ ?_
      · refine jq_sub Γ (L' := [(2, jI t1.1)]) [1] rfl ?_
        exact jq_done (hXt1 t1.1)
      · refine jq_iload_n Γ dX8_count_21 rfl 1 rfl ?_
        refine jq_aload_n Γ dX8_count_22 rfl 0 rfl (jq_at_0 (at_com hp1)) ?_
        refine jq_getI (J := 0) Γ (at_com hp1) fl_RX8_24 rfl rfl dX8_count_23 ?_
        refine jq_iload_n Γ dX8_count_26 rfl 2 rfl ?_
        refine jq_isub Γ dX8_count_27 ?_
        refine jq_imul Γ dX8_count_28 ?_
        refine jq_nmI (fun v2 => ?_)
        refine jq_istore_n (L' := [(2, jI v2), (1, jR p1), (3, jI t1.2)]) Γ dX8_count_29 rfl hnl rfl rfl ?_
        refine jq_iincN (L' := fun v3 => [(3, jI v3), (2, jI v2), (1, jR p1)]) Γ dX8_count_30 2 rfl hnl rfl (fun _ => rfl) (fun v3 => ?_)
        refine jq_goto Γ (tgt := 13) dX8_count_33 rfl ?_
        refine jq_sub Γ (L' := [(1, jR p1), (2, jI v2), (3, jI v3)]) [2, 1, 0] rfl ?_
        exact jq_done (hCt1 (v2, v3))
    · intro e4
      refine jq_iload_n Γ dX8_count_36 rfl 0 rfl ?_
      exact jq_ireturn Γ dX8_count_37 (hK0 _)
  · refine jq_iconst Γ dX8_count_7 rfl ?_
    exact jq_ireturn Γ dX8_count_8 (hK0 _)


theorem dX10_seatings_0 : decode cX10_seatings 0 = .ok (.aload_n 0, 1) := by decide +kernel
theorem dX10_seatings_1 : decode cX10_seatings 1 = .ok (.aload_n 0, 1) := by decide +kernel
theorem dX10_seatings_2 : decode cX10_seatings 2 = .ok (.getfield 46, 3) := by decide +kernel
theorem dX10_seatings_5 : decode cX10_seatings 5 = .ok (.aload_n 0, 1) := by decide +kernel
theorem dX10_seatings_6 : decode cX10_seatings 6 = .ok (.getfield 25, 3) := by decide +kernel
theorem dX10_seatings_9 : decode cX10_seatings 9 = .ok (.invokevirtual 323, 3) := by decide +kernel
theorem dX10_seatings_12 : decode cX10_seatings 12 = .ok (.invokevirtual 167, 3) := by decide +kernel
theorem dX10_seatings_15 : decode cX10_seatings 15 = .ok (.ireturn, 1) := by decide +kernel
set_option maxHeartbeats 4000000 in
set_option maxRecDepth 100000 in
theorem ctX10_seatings  {σ : jq_M} {res : Int} {σ' : jq_M}  (h : X10_seatings σ = some (res, σ')) : jq_MC jq_zX yX10_seatings cX10_seatings 1 (some .int) 2 63 [jR 0] σ (some (jI res)) σ' := by
  refine jq_met (own := RX10) (L0 := [(0, jR 0)]) (by decide) rfl rfl rfl ?_
  intro X Γ hnl hlY hRT
  refine jq_use2 (P := fun r => jq_RT jq_zX X (some .int) (some (jI r.1)) r.2) ?_ h hRT
  intro K0 hK0
  unfold X10_seatings
  refine jq_aload_n Γ dX10_seatings_0 rfl 0 rfl (jq_at_0 at_X_0) ?_
  refine jq_aload_n Γ dX10_seatings_1 rfl 0 rfl (jq_at_0 at_X_0) ?_
  refine jq_getR (v := 52) Γ hlY at_X_0 fl_RX10_46 rfl rfl ly_X10_survey dX10_seatings_2 ?_
  refine jq_aload_n Γ dX10_seatings_5 rfl 0 rfl (jq_at_0 at_X_0) ?_
  refine jq_getC (C := jq_cm2) Γ hlY at_X_0 fl_RX10_25 rfl rfl ly_now dX10_seatings_6 (fun c1 hc2q => ?_)
  have hc2 := jq_cm2_com hc2q
  refine jq_cpI (jq_virt (avs := [jR c1]) (st := [jR 0]) Γ hlY rfl ml_RX10_323 rfl at_X_52 rfl rfl rfl rfl rfl dX10_seatings_9) (fun r h => ctX8_count hc2 h) (fun v3 => ?_)
  refine jq_cwI (jq_virt (avs := [jI v3]) (st := []) Γ hlY rfl ml_RX10_167 rfl at_X_0 rfl rfl rfl rfl rfl dX10_seatings_12) (fun r σ' h => ctX10_answer h) (fun v4 s5 => ?_)
  exact jq_ireturn Γ dX10_seatings_15 (hK0 _)


theorem dX8_freeFrom_0 : decode cX8_freeFrom 0 = .ok (.iload_n 0, 1) := by decide +kernel
theorem dX8_freeFrom_1 : decode cX8_freeFrom 1 = .ok (.istore_n 2, 1) := by decide +kernel
theorem dX8_freeFrom_2 : decode cX8_freeFrom 2 = .ok (.iload_n 2, 1) := by decide +kernel
theorem dX8_freeFrom_3 : decode cX8_freeFrom 3 = .ok (.bipush 6, 2) := by decide +kernel
theorem dX8_freeFrom_5 : decode cX8_freeFrom 5 = .ok (.if_icmp .ge 17, 3) := by decide +kernel
theorem dX8_freeFrom_8 : decode cX8_freeFrom 8 = .ok (.iload_n 1, 1) := by decide +kernel
theorem dX8_freeFrom_9 : decode cX8_freeFrom 9 = .ok (.iload_n 2, 1) := by decide +kernel
theorem dX8_freeFrom_10 : decode cX8_freeFrom 10 = .ok (.invokestatic 50, 3) := by decide +kernel
theorem dX8_freeFrom_13 : decode cX8_freeFrom 13 = .ok (.ifCond .eq 9, 3) := by decide +kernel
theorem dX8_freeFrom_16 : decode cX8_freeFrom 16 = .ok (.iinc 2 1, 3) := by decide +kernel
theorem dX8_freeFrom_19 : decode cX8_freeFrom 19 = .ok (.goto (-17), 3) := by decide +kernel
theorem dX8_freeFrom_22 : decode cX8_freeFrom 22 = .ok (.iload_n 2, 1) := by decide +kernel
theorem dX8_freeFrom_23 : decode cX8_freeFrom 23 = .ok (.ireturn, 1) := by decide +kernel
set_option maxHeartbeats 4000000 in
set_option maxRecDepth 100000 in
theorem ctX8_freeFrom {p0 : Int} {p1 : Int} {σ : jq_M} {res : Int}  (h : X8_freeFrom p0 p1 σ = some res) : jq_MC jq_zX yX8_freeFrom cX8_freeFrom 3 (some .int) 2 61 [jI p0, jI p1] σ (some (jI res)) σ := by
  refine jq_met (own := RX8) (L0 := [(0, jI p0), (1, jI p1)]) (by decide) rfl rfl rfl ?_
  intro X Γ hnl hlY hRT
  refine jq_use2 (P := fun r => jq_RT jq_zX X (some .int) (some (jI r)) σ) ?_ h hRT
  intro K0 hK0
  unfold X8_freeFrom
  refine jq_iload_n Γ dX8_freeFrom_0 rfl 0 rfl ?_
  refine jq_istore_n (L' := [(2, jI p0), (0, jI p0), (1, jI p1)]) Γ dX8_freeFrom_1 rfl hnl rfl rfl ?_
  refine jq_sub Γ (L' := [(1, jI p1), (2, jI p0)]) [2, 0] rfl ?_
  refine jq_loop2 (C := fun (t1 : Int) => jq_V jq_zX X (jq_zN jq_zX) σ 2 [(1, jI p1), (2, jI t1)] []) (KX := fun (e5 : Int) => jq_V jq_zX X (jq_zN jq_zX) σ 22 [(2, jI e5)] []) ?_ ?_ p0
  · intro K2_t1 hCt1 hXt1 t1
    unfold X8_freeFrom_b2
    refine jq_iload_n Γ dX8_freeFrom_2 rfl 1 rfl ?_
    refine jq_bipush Γ dX8_freeFrom_3 rfl ?_
    refine jq_icmp_ge (tgt := 22) Γ dX8_freeFrom_5 rfl ?_ ?_
    · refine jq_sub Γ (L' := [(2, jI t1)]) [1] rfl ?_
      exact jq_done (hXt1 t1)
    · refine jq_iload_n Γ dX8_freeFrom_8 rfl 0 rfl ?_
      refine jq_iload_n Γ dX8_freeFrom_9 rfl 1 rfl ?_
      refine jq_cpZ (jq_nest (avs := [jI p1, jI t1]) (st := []) Γ hlY rfl ml_RX8_50 rfl rfl rfl rfl rfl dX8_freeFrom_10) rfl (fun r h => ctX10_holds h) (fun v2 hz3 => ?_)
      refine jq_if_eq (tgt := 22) Γ dX8_freeFrom_13 rfl ?_ ?_
      · refine jq_sub Γ (L' := [(2, jI t1)]) [1] rfl ?_
        exact jq_done (hXt1 t1)
      · refine jq_iincN (L' := fun v4 => [(2, jI v4), (1, jI p1)]) Γ dX8_freeFrom_16 1 rfl hnl rfl (fun _ => rfl) (fun v4 => ?_)
        refine jq_goto Γ (tgt := 2) dX8_freeFrom_19 rfl ?_
        refine jq_sub Γ (L' := [(1, jI p1), (2, jI v4)]) [1, 0] rfl ?_
        exact jq_done (hCt1 v4)
  · intro e5
    refine jq_iload_n Γ dX8_freeFrom_22 rfl 0 rfl ?_
    exact jq_ireturn Γ dX8_freeFrom_23 (hK0 _)


