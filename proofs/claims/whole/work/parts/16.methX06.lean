theorem ml_RX8_92 : jq_sl RX8 92 yJ6_bitCount_0f7a4 cJ6_bitCount_0f7a4 1 (some .int) 1 := ⟨jq_in 1177 (by decide +kernel) rfl, yf_J6_bitCount_0f7a4⟩
theorem fl_RX8_18 : jq_fl RX8 18 5 4 2 true := ⟨RX8, TX8, tyX8, cls_X8, by decide, jq_in 453 (by decide +kernel) rfl, by decide⟩
theorem ml_RX8_109 : jq_vl RX8 109 yX1_turnAll cX1_turnAll 4 none 2 := ⟨jq_in 1173 (by decide +kernel) rfl, yf_X1_turnAll⟩
theorem yf_X8_numberOf : Cond.static yX8_numberOf ∈ jq_T ∧ Cond.initialized (yX8_numberOf).cls ∈ jq_T ∧ Cond.code yX8_numberOf cX8_numberOf 6 (some .int) ∈ jq_T ∧ ((yX8_numberOf).cls ≠ "java/lang/invoke/MethodHandle" ∧ (yX8_numberOf).cls ≠ "java/lang/invoke/VarHandle" ∧ (parseMethodDescriptor (yX8_numberOf).desc).map (fun d => d.parameters.length) = some 2) := ⟨jq_in 1175 (by decide +kernel) rfl, jq_in 143 (by decide +kernel) rfl, jq_in 1176 (by decide +kernel) rfl, ⟨by decide, by decide, by decide +kernel⟩⟩
theorem ml_RX8_113 : jq_sl RX8 113 yX8_numberOf cX8_numberOf 6 (some .int) 2 := ⟨jq_in 1174 (by decide +kernel) rfl, yf_X8_numberOf⟩
theorem fl_RX8_21 : jq_fl RX8 21 5 4 3 true := ⟨RX8, TX8, tyX8, cls_X8, by decide, jq_in 454 (by decide +kernel) rfl, by decide⟩
theorem yf_X8_isGoodAhead : Cond.instanceMethod yX8_isGoodAhead ∈ jq_T ∧ Cond.selects (yX8_isGoodAhead).cls yX8_isGoodAhead yX8_isGoodAhead ∈ jq_T ∧ Cond.initialized (yX8_isGoodAhead).cls ∈ jq_T ∧ Cond.code yX8_isGoodAhead cX8_isGoodAhead 6 (some .boolean) ∈ jq_T ∧ ((yX8_isGoodAhead).cls ≠ "java/lang/invoke/MethodHandle" ∧ (yX8_isGoodAhead).cls ≠ "java/lang/invoke/VarHandle" ∧ (parseMethodDescriptor (yX8_isGoodAhead).desc).map (fun d => d.parameters.length) = some 4) := ⟨jq_in 1171 (by decide +kernel) rfl, jq_in 20 (by decide +kernel) rfl, jq_in 143 (by decide +kernel) rfl, jq_in 1172 (by decide +kernel) rfl, ⟨by decide, by decide, by decide +kernel⟩⟩
theorem ml_RX8_105 : jq_vl RX8 105 yX8_isGoodAhead cX8_isGoodAhead 6 (some .boolean) 4 := ⟨jq_in 1169 (by decide +kernel) rfl, yf_X8_isGoodAhead⟩
theorem yf_X8_isLikeAnEarlierGood : Cond.instanceMethod yX8_isLikeAnEarlierGood ∈ jq_T ∧ Cond.selects (yX8_isLikeAnEarlierGood).cls yX8_isLikeAnEarlierGood yX8_isLikeAnEarlierGood ∈ jq_T ∧ Cond.initialized (yX8_isLikeAnEarlierGood).cls ∈ jq_T ∧ Cond.code yX8_isLikeAnEarlierGood cX8_isLikeAnEarlierGood 4 (some .boolean) ∈ jq_T ∧ ((yX8_isLikeAnEarlierGood).cls ≠ "java/lang/invoke/MethodHandle" ∧ (yX8_isLikeAnEarlierGood).cls ≠ "java/lang/invoke/VarHandle" ∧ (parseMethodDescriptor (yX8_isLikeAnEarlierGood).desc).map (fun d => d.parameters.length) = some 2) := ⟨jq_in 1167 (by decide +kernel) rfl, jq_in 19 (by decide +kernel) rfl, jq_in 143 (by decide +kernel) rfl, jq_in 1168 (by decide +kernel) rfl, ⟨by decide, by decide, by decide +kernel⟩⟩
theorem ml_RX8_101 : jq_vl RX8 101 yX8_isLikeAnEarlierGood cX8_isLikeAnEarlierGood 4 (some .boolean) 2 := ⟨jq_in 1165 (by decide +kernel) rfl, yf_X8_isLikeAnEarlierGood⟩
theorem yf_X8_countClasses : Cond.instanceMethod yX8_countClasses ∈ jq_T ∧ Cond.selects (yX8_countClasses).cls yX8_countClasses yX8_countClasses ∈ jq_T ∧ Cond.initialized (yX8_countClasses).cls ∈ jq_T ∧ Cond.code yX8_countClasses cX8_countClasses 5 (some .int) ∈ jq_T ∧ ((yX8_countClasses).cls ≠ "java/lang/invoke/MethodHandle" ∧ (yX8_countClasses).cls ≠ "java/lang/invoke/VarHandle" ∧ (parseMethodDescriptor (yX8_countClasses).desc).map (fun d => d.parameters.length) = some 1) := ⟨jq_in 1162 (by decide +kernel) rfl, jq_in 1163 (by decide +kernel) rfl, jq_in 143 (by decide +kernel) rfl, jq_in 1164 (by decide +kernel) rfl, ⟨by decide, by decide, by decide +kernel⟩⟩
theorem ml_RX10_324 : jq_vl RX10 324 yX8_countClasses cX8_countClasses 5 (some .int) 1 := ⟨jq_in 1161 (by decide +kernel) rfl, yf_X8_countClasses⟩
theorem yf_X8_findGood : Cond.instanceMethod yX8_findGood ∈ jq_T ∧ Cond.selects (yX8_findGood).cls yX8_findGood yX8_findGood ∈ jq_T ∧ Cond.initialized (yX8_findGood).cls ∈ jq_T ∧ Cond.code yX8_findGood cX8_findGood 4 (some .boolean) ∈ jq_T ∧ ((yX8_findGood).cls ≠ "java/lang/invoke/MethodHandle" ∧ (yX8_findGood).cls ≠ "java/lang/invoke/VarHandle" ∧ (parseMethodDescriptor (yX8_findGood).desc).map (fun d => d.parameters.length) = some 1) := ⟨jq_in 1183 (by decide +kernel) rfl, jq_in 1184 (by decide +kernel) rfl, jq_in 143 (by decide +kernel) rfl, jq_in 1185 (by decide +kernel) rfl, ⟨by decide, by decide, by decide +kernel⟩⟩
theorem ml_RX10_327 : jq_vl RX10 327 yX8_findGood cX8_findGood 4 (some .boolean) 1 := ⟨jq_in 1182 (by decide +kernel) rfl, yf_X8_findGood⟩
theorem fl_RX10_331 : jq_fl RX10 331 5 4 0 true := ⟨RX8, TX8, tyX8, cls_X8, by decide, jq_in 450 (by decide +kernel) rfl, by decide⟩
theorem ml_RX8_64 : jq_vl RX8 64 yX1_worthOfAll cX1_worthOfAll 4 (some .int) 1 := ⟨jq_in 1194 (by decide +kernel) rfl, yf_X1_worthOfAll⟩
theorem fl_RX8_15 : jq_fl RX8 15 5 4 1 true := ⟨RX8, TX8, tyX8, cls_X8, by decide, jq_in 451 (by decide +kernel) rfl, by decide⟩
theorem aw_RX8_67 : Cond.methodLink RX8 67 arraycopyName ∈ jq_T := jq_in 1195 (by decide +kernel) rfl
theorem yf_X8_findBest : Cond.instanceMethod yX8_findBest ∈ jq_T ∧ Cond.selects (yX8_findBest).cls yX8_findBest yX8_findBest ∈ jq_T ∧ Cond.initialized (yX8_findBest).cls ∈ jq_T ∧ Cond.code yX8_findBest cX8_findBest 6 (some .int) ∈ jq_T ∧ ((yX8_findBest).cls ≠ "java/lang/invoke/MethodHandle" ∧ (yX8_findBest).cls ≠ "java/lang/invoke/VarHandle" ∧ (parseMethodDescriptor (yX8_findBest).desc).map (fun d => d.parameters.length) = some 1) := ⟨jq_in 1191 (by decide +kernel) rfl, jq_in 1192 (by decide +kernel) rfl, jq_in 143 (by decide +kernel) rfl, jq_in 1193 (by decide +kernel) rfl, ⟨by decide, by decide, by decide +kernel⟩⟩
theorem ml_RX10_333 : jq_vl RX10 333 yX8_findBest cX8_findBest 6 (some .int) 1 := ⟨jq_in 1190 (by decide +kernel) rfl, yf_X8_findBest⟩
theorem fl_RX10_336 : jq_fl RX10 336 5 4 1 true := ⟨RX8, TX8, tyX8, cls_X8, by decide, jq_in 452 (by decide +kernel) rfl, by decide⟩
theorem mw_RX8_77 : Cond.methodLink RX8 77 Lib.Math.max.name ∈ jq_T := jq_in 1211 (by decide +kernel) rfl
theorem mws_max : Cond.static Lib.Math.max.name ∈ jq_T := jq_in 1212 (by decide +kernel) rfl
theorem mwc_max : Cond.code Lib.Math.max.name Lib.Math.max.code 2 (some .int) ∈ jq_T := jq_in 1213 (by decide +kernel) rfl
theorem yf_X8_outcomes : Cond.instanceMethod yX8_outcomes ∈ jq_T ∧ Cond.selects (yX8_outcomes).cls yX8_outcomes yX8_outcomes ∈ jq_T ∧ Cond.initialized (yX8_outcomes).cls ∈ jq_T ∧ Cond.code yX8_outcomes cX8_outcomes 5 (some .int) ∈ jq_T ∧ ((yX8_outcomes).cls ≠ "java/lang/invoke/MethodHandle" ∧ (yX8_outcomes).cls ≠ "java/lang/invoke/VarHandle" ∧ (parseMethodDescriptor (yX8_outcomes).desc).map (fun d => d.parameters.length) = some 1) := ⟨jq_in 1205 (by decide +kernel) rfl, jq_in 1206 (by decide +kernel) rfl, jq_in 143 (by decide +kernel) rfl, jq_in 1207 (by decide +kernel) rfl, ⟨by decide, by decide, by decide +kernel⟩⟩
theorem ml_RX10_339 : jq_vl RX10 339 yX8_outcomes cX8_outcomes 5 (some .int) 1 := ⟨jq_in 1204 (by decide +kernel) rfl, yf_X8_outcomes⟩
theorem yf_X8_mostOf : Cond.static yX8_mostOf ∈ jq_T ∧ Cond.initialized (yX8_mostOf).cls ∈ jq_T ∧ Cond.code yX8_mostOf cX8_mostOf 3 (some .int) ∈ jq_T ∧ ((yX8_mostOf).cls ≠ "java/lang/invoke/MethodHandle" ∧ (yX8_mostOf).cls ≠ "java/lang/invoke/VarHandle" ∧ (parseMethodDescriptor (yX8_mostOf).desc).map (fun d => d.parameters.length) = some 1) := ⟨jq_in 1209 (by decide +kernel) rfl, jq_in 143 (by decide +kernel) rfl, jq_in 1210 (by decide +kernel) rfl, ⟨by decide, by decide, by decide +kernel⟩⟩
theorem ml_RX10_342 : jq_sl RX10 342 yX8_mostOf cX8_mostOf 3 (some .int) 1 := ⟨jq_in 1208 (by decide +kernel) rfl, yf_X8_mostOf⟩
theorem yf_X8_isMet : Cond.static yX8_isMet ∈ jq_T ∧ Cond.initialized (yX8_isMet).cls ∈ jq_T ∧ Cond.code yX8_isMet cX8_isMet 3 (some .boolean) ∈ jq_T ∧ ((yX8_isMet).cls ≠ "java/lang/invoke/MethodHandle" ∧ (yX8_isMet).cls ≠ "java/lang/invoke/VarHandle" ∧ (parseMethodDescriptor (yX8_isMet).desc).map (fun d => d.parameters.length) = some 2) := ⟨jq_in 1222 (by decide +kernel) rfl, jq_in 143 (by decide +kernel) rfl, jq_in 1223 (by decide +kernel) rfl, ⟨by decide, by decide, by decide +kernel⟩⟩
theorem ml_RX8_98 : jq_sl RX8 98 yX8_isMet cX8_isMet 3 (some .boolean) 2 := ⟨jq_in 1221 (by decide +kernel) rfl, yf_X8_isMet⟩
theorem yf_X8_leastUnmet : Cond.static yX8_leastUnmet ∈ jq_T ∧ Cond.initialized (yX8_leastUnmet).cls ∈ jq_T ∧ Cond.code yX8_leastUnmet cX8_leastUnmet 4 (some .int) ∈ jq_T ∧ ((yX8_leastUnmet).cls ≠ "java/lang/invoke/MethodHandle" ∧ (yX8_leastUnmet).cls ≠ "java/lang/invoke/VarHandle" ∧ (parseMethodDescriptor (yX8_leastUnmet).desc).map (fun d => d.parameters.length) = some 2) := ⟨jq_in 1219 (by decide +kernel) rfl, jq_in 143 (by decide +kernel) rfl, jq_in 1220 (by decide +kernel) rfl, ⟨by decide, by decide, by decide +kernel⟩⟩
theorem ml_RX10_345 : jq_sl RX10 345 yX8_leastUnmet cX8_leastUnmet 4 (some .int) 2 := ⟨jq_in 1218 (by decide +kernel) rfl, yf_X8_leastUnmet⟩
theorem ml_RX10_349 : jq_vl RX10 349 yX1_allParties cX1_allParties 1 (some .int) 0 := ⟨jq_in 1228 (by decide +kernel) rfl, yf_X1_allParties⟩
theorem ml_RX10_352 : jq_sl RX10 352 yX8_isMet cX8_isMet 3 (some .boolean) 2 := ⟨jq_in 1229 (by decide +kernel) rfl, yf_X8_isMet⟩
theorem ml_RX8_73 : jq_vl RX8 73 yX1_worthTo cX1_worthTo 5 (some .int) 2 := ⟨jq_in 1238 (by decide +kernel) rfl, yf_X1_worthTo⟩
theorem yf_X8_mostWorthTo : Cond.instanceMethod yX8_mostWorthTo ∈ jq_T ∧ Cond.selects (yX8_mostWorthTo).cls yX8_mostWorthTo yX8_mostWorthTo ∈ jq_T ∧ Cond.initialized (yX8_mostWorthTo).cls ∈ jq_T ∧ Cond.code yX8_mostWorthTo cX8_mostWorthTo 6 (some .int) ∈ jq_T ∧ ((yX8_mostWorthTo).cls ≠ "java/lang/invoke/MethodHandle" ∧ (yX8_mostWorthTo).cls ≠ "java/lang/invoke/VarHandle" ∧ (parseMethodDescriptor (yX8_mostWorthTo).desc).map (fun d => d.parameters.length) = some 2) := ⟨jq_in 1235 (by decide +kernel) rfl, jq_in 1236 (by decide +kernel) rfl, jq_in 143 (by decide +kernel) rfl, jq_in 1237 (by decide +kernel) rfl, ⟨by decide, by decide, by decide +kernel⟩⟩
theorem ml_RX10_355 : jq_vl RX10 355 yX8_mostWorthTo cX8_mostWorthTo 6 (some .int) 2 := ⟨jq_in 1234 (by decide +kernel) rfl, yf_X8_mostWorthTo⟩
theorem ml_RX8_82 : jq_vl RX8 82 yX1_doesSign cX1_doesSign 3 (some .boolean) 2 := ⟨jq_in 1247 (by decide +kernel) rfl, yf_X1_doesSign⟩
theorem yf_X8_countSigned : Cond.instanceMethod yX8_countSigned ∈ jq_T ∧ Cond.selects (yX8_countSigned).cls yX8_countSigned yX8_countSigned ∈ jq_T ∧ Cond.initialized (yX8_countSigned).cls ∈ jq_T ∧ Cond.code yX8_countSigned cX8_countSigned 6 (some .int) ∈ jq_T ∧ ((yX8_countSigned).cls ≠ "java/lang/invoke/MethodHandle" ∧ (yX8_countSigned).cls ≠ "java/lang/invoke/VarHandle" ∧ (parseMethodDescriptor (yX8_countSigned).desc).map (fun d => d.parameters.length) = some 2) := ⟨jq_in 1244 (by decide +kernel) rfl, jq_in 1245 (by decide +kernel) rfl, jq_in 143 (by decide +kernel) rfl, jq_in 1246 (by decide +kernel) rfl, ⟨by decide, by decide, by decide +kernel⟩⟩
theorem ml_RX10_359 : jq_vl RX10 359 yX8_countSigned cX8_countSigned 6 (some .int) 2 := ⟨jq_in 1243 (by decide +kernel) rfl, yf_X8_countSigned⟩
theorem dX8_numberOf_0 : decode cX8_numberOf 0 = .ok (.iconst 0, 1) := by decide +kernel
theorem dX8_numberOf_1 : decode cX8_numberOf 1 = .ok (.istore_n 2, 1) := by decide +kernel
theorem dX8_numberOf_2 : decode cX8_numberOf 2 = .ok (.iconst 0, 1) := by decide +kernel
theorem dX8_numberOf_3 : decode cX8_numberOf 3 = .ok (.istore_n 3, 1) := by decide +kernel
theorem dX8_numberOf_4 : decode cX8_numberOf 4 = .ok (.iconst 0, 1) := by decide +kernel
theorem dX8_numberOf_5 : decode cX8_numberOf 5 = .ok (.istore 4, 2) := by decide +kernel
theorem dX8_numberOf_7 : decode cX8_numberOf 7 = .ok (.iload 4, 2) := by decide +kernel
theorem dX8_numberOf_9 : decode cX8_numberOf 9 = .ok (.aload_n 0, 1) := by decide +kernel
theorem dX8_numberOf_10 : decode cX8_numberOf 10 = .ok (.getfield 30, 3) := by decide +kernel
theorem dX8_numberOf_13 : decode cX8_numberOf 13 = .ok (.if_icmp .ge 51, 3) := by decide +kernel
theorem dX8_numberOf_16 : decode cX8_numberOf 16 = .ok (.iload_n 3, 1) := by decide +kernel
theorem dX8_numberOf_17 : decode cX8_numberOf 17 = .ok (.iconst 1, 1) := by decide +kernel
theorem dX8_numberOf_18 : decode cX8_numberOf 18 = .ok (.aload_n 1, 1) := by decide +kernel
theorem dX8_numberOf_19 : decode cX8_numberOf 19 = .ok (.iload 4, 2) := by decide +kernel
theorem dX8_numberOf_21 : decode cX8_numberOf 21 = .ok (.iaload, 1) := by decide +kernel
theorem dX8_numberOf_22 : decode cX8_numberOf 22 = .ok (.ishl, 1) := by decide +kernel
theorem dX8_numberOf_23 : decode cX8_numberOf 23 = .ok (.iconst 1, 1) := by decide +kernel
theorem dX8_numberOf_24 : decode cX8_numberOf 24 = .ok (.isub, 1) := by decide +kernel
theorem dX8_numberOf_25 : decode cX8_numberOf 25 = .ok (.iand, 1) := by decide +kernel
theorem dX8_numberOf_26 : decode cX8_numberOf 26 = .ok (.istore 5, 2) := by decide +kernel
theorem dX8_numberOf_28 : decode cX8_numberOf 28 = .ok (.iload_n 2, 1) := by decide +kernel
theorem dX8_numberOf_29 : decode cX8_numberOf 29 = .ok (.aload_n 0, 1) := by decide +kernel
theorem dX8_numberOf_30 : decode cX8_numberOf 30 = .ok (.getfield 24, 3) := by decide +kernel
theorem dX8_numberOf_33 : decode cX8_numberOf 33 = .ok (.iload 4, 2) := by decide +kernel
theorem dX8_numberOf_35 : decode cX8_numberOf 35 = .ok (.isub, 1) := by decide +kernel
theorem dX8_numberOf_36 : decode cX8_numberOf 36 = .ok (.imul, 1) := by decide +kernel
theorem dX8_numberOf_37 : decode cX8_numberOf 37 = .ok (.aload_n 1, 1) := by decide +kernel
theorem dX8_numberOf_38 : decode cX8_numberOf 38 = .ok (.iload 4, 2) := by decide +kernel
theorem dX8_numberOf_40 : decode cX8_numberOf 40 = .ok (.iaload, 1) := by decide +kernel
theorem dX8_numberOf_41 : decode cX8_numberOf 41 = .ok (.iadd, 1) := by decide +kernel
theorem dX8_numberOf_42 : decode cX8_numberOf 42 = .ok (.iload 5, 2) := by decide +kernel
theorem dX8_numberOf_44 : decode cX8_numberOf 44 = .ok (.invokestatic 92, 3) := by decide +kernel
theorem dX8_numberOf_47 : decode cX8_numberOf 47 = .ok (.isub, 1) := by decide +kernel
theorem dX8_numberOf_48 : decode cX8_numberOf 48 = .ok (.istore_n 2, 1) := by decide +kernel
theorem dX8_numberOf_49 : decode cX8_numberOf 49 = .ok (.iload_n 3, 1) := by decide +kernel
theorem dX8_numberOf_50 : decode cX8_numberOf 50 = .ok (.iconst 1, 1) := by decide +kernel
theorem dX8_numberOf_51 : decode cX8_numberOf 51 = .ok (.aload_n 1, 1) := by decide +kernel
theorem dX8_numberOf_52 : decode cX8_numberOf 52 = .ok (.iload 4, 2) := by decide +kernel
theorem dX8_numberOf_54 : decode cX8_numberOf 54 = .ok (.iaload, 1) := by decide +kernel
theorem dX8_numberOf_55 : decode cX8_numberOf 55 = .ok (.ishl, 1) := by decide +kernel
theorem dX8_numberOf_56 : decode cX8_numberOf 56 = .ok (.ior, 1) := by decide +kernel
theorem dX8_numberOf_57 : decode cX8_numberOf 57 = .ok (.istore_n 3, 1) := by decide +kernel
theorem dX8_numberOf_58 : decode cX8_numberOf 58 = .ok (.iinc 4 1, 3) := by decide +kernel
theorem dX8_numberOf_61 : decode cX8_numberOf 61 = .ok (.goto (-54), 3) := by decide +kernel
theorem dX8_numberOf_64 : decode cX8_numberOf 64 = .ok (.iload_n 2, 1) := by decide +kernel
theorem dX8_numberOf_65 : decode cX8_numberOf 65 = .ok (.ireturn, 1) := by decide +kernel
set_option maxHeartbeats 4000000 in
set_option maxRecDepth 100000 in
theorem ctX8_numberOf {p0 : Int} {p1 : Int} {σ : jq_M} {res : Int} (hp0 : jq_com p0) (hp1 : jq_row p1) (h : X8_numberOf p0 p1 σ = some res) : jq_MC jq_zX yX8_numberOf cX8_numberOf 6 (some .int) 2 60 [jR p0, jR p1] σ (some (jI res)) σ := by
  refine jq_met (own := RX8) (L0 := [(0, jR p0), (1, jR p1)]) (by decide) rfl rfl rfl ?_
  intro X Γ hnl hlY hRT
  refine jq_use2 (P := fun r => jq_RT jq_zX X (some .int) (some (jI r)) σ) ?_ h hRT
  intro K0 hK0
  unfold X8_numberOf
  refine jq_iconst Γ dX8_numberOf_0 rfl ?_
  refine jq_istore_n (L' := [(2, jI 0), (0, jR p0), (1, jR p1)]) Γ dX8_numberOf_1 rfl hnl rfl rfl ?_
  refine jq_iconst Γ dX8_numberOf_2 rfl ?_
  refine jq_istore_n (L' := [(3, jI 0), (2, jI 0), (0, jR p0), (1, jR p1)]) Γ dX8_numberOf_3 rfl hnl rfl rfl ?_
  refine jq_iconst Γ dX8_numberOf_4 rfl ?_
  refine jq_istore (L' := [(4, jI 0), (3, jI 0), (2, jI 0), (0, jR p0), (1, jR p1)]) Γ dX8_numberOf_5 hnl rfl rfl ?_
  refine jq_sub Γ (L' := [(0, jR p0), (1, jR p1), (2, jI 0), (3, jI 0), (4, jI 0)]) [3, 4, 2, 1, 0] rfl ?_
  refine jq_loop2 (C := fun (t1 : Int × Int × Int) => jq_V jq_zX X (jq_zN jq_zX) σ 7 [(0, jR p0), (1, jR p1), (2, jI t1.1), (3, jI t1.2.1), (4, jI t1.2.2)] []) (KX := fun (e10 : Int) => jq_V jq_zX X (jq_zN jq_zX) σ 64 [(2, jI e10)] []) ?_ ?_ (0, 0, 0)
  · intro K7_t1 hCt1 hXt1 t1
    unfold X8_numberOf_b7
    refine jq_iload Γ dX8_numberOf_7 4 rfl ?_
    refine jq_aload_n Γ dX8_numberOf_9 rfl 0 rfl (jq_at_0 (at_com hp0)) ?_
    refine jq_getI (J := 2) Γ (at_com hp0) fl_RX8_30 rfl rfl dX8_numberOf_10 ?_
    refine jq_icmp_ge (tgt := 64) Γ dX8_numberOf_13 rfl ?_ ?_
    · refine jq_sub Γ (L' := [(2, jI t1.1)]) [2] rfl ?_
      exact jq_done (hXt1 t1.1)
    · refine jq_iload_n Γ dX8_numberOf_16 rfl 3 rfl ?_
      refine jq_iconst Γ dX8_numberOf_17 rfl ?_
      refine jq_aload_n Γ dX8_numberOf_18 rfl 1 rfl (jq_at_0 (at_row hp1)) ?_
      refine jq_iload Γ dX8_numberOf_19 4 rfl ?_
      refine jq_iald Γ (at_row hp1) rfl dX8_numberOf_21 (fun v2 => ?_)
      refine jq_ishl Γ dX8_numberOf_22 ?_
      refine jq_iconst Γ dX8_numberOf_23 rfl ?_
      refine jq_isub Γ dX8_numberOf_24 ?_
      refine jq_iand Γ dX8_numberOf_25 ?_
      refine jq_nmI (fun v3 => ?_)
      refine jq_istore (L' := [(5, jI v3), (0, jR p0), (1, jR p1), (2, jI t1.1), (3, jI t1.2.1), (4, jI t1.2.2)]) Γ dX8_numberOf_26 hnl rfl rfl ?_
      refine jq_iload_n Γ dX8_numberOf_28 rfl 3 rfl ?_
      refine jq_aload_n Γ dX8_numberOf_29 rfl 1 rfl (jq_at_0 (at_com hp0)) ?_
      refine jq_getI (J := 0) Γ (at_com hp0) fl_RX8_24 rfl rfl dX8_numberOf_30 ?_
      refine jq_iload Γ dX8_numberOf_33 5 rfl ?_
      refine jq_isub Γ dX8_numberOf_35 ?_
      refine jq_imul Γ dX8_numberOf_36 ?_
      refine jq_aload_n Γ dX8_numberOf_37 rfl 2 rfl (jq_at_0 (at_row hp1)) ?_
      refine jq_iload Γ dX8_numberOf_38 5 rfl ?_
      refine jq_iald Γ (at_row hp1) rfl dX8_numberOf_40 (fun v4 => ?_)
      refine jq_iadd Γ dX8_numberOf_41 ?_
      refine jq_iload Γ dX8_numberOf_42 0 rfl ?_
      refine jq_cpI (jq_stat (avs := [jI v3]) (st := [jI (jq_w ((jq_w (t1.1 * (jq_w ((σ p0 0) - t1.2.2)))) + v4))]) Γ hlY rfl ml_RX8_92 rfl rfl rfl rfl rfl dX8_numberOf_44) (fun r h => ctJ6_bitCount_0f7a4 h) (fun v5 => ?_)
      refine jq_isub Γ dX8_numberOf_47 ?_
      refine jq_nmI (fun v6 => ?_)
      refine jq_istore_n (L' := [(2, jI v6), (5, jI v3), (0, jR p0), (1, jR p1), (3, jI t1.2.1), (4, jI t1.2.2)]) Γ dX8_numberOf_48 rfl hnl rfl rfl ?_
      refine jq_iload_n Γ dX8_numberOf_49 rfl 4 rfl ?_
      refine jq_iconst Γ dX8_numberOf_50 rfl ?_
      refine jq_aload_n Γ dX8_numberOf_51 rfl 3 rfl (jq_at_0 (at_row hp1)) ?_
      refine jq_iload Γ dX8_numberOf_52 5 rfl ?_
      refine jq_iald Γ (at_row hp1) rfl dX8_numberOf_54 (fun v7 => ?_)
      refine jq_ishl Γ dX8_numberOf_55 ?_
      refine jq_ior Γ dX8_numberOf_56 ?_
      refine jq_nmI (fun v8 => ?_)
      refine jq_istore_n (L' := [(3, jI v8), (2, jI v6), (5, jI v3), (0, jR p0), (1, jR p1), (4, jI t1.2.2)]) Γ dX8_numberOf_57 rfl hnl rfl rfl ?_
      refine jq_iincN (L' := fun v9 => [(4, jI v9), (3, jI v8), (2, jI v6), (5, jI v3), (0, jR p0), (1, jR p1)]) Γ dX8_numberOf_58 5 rfl hnl rfl (fun _ => rfl) (fun v9 => ?_)
      refine jq_goto Γ (tgt := 7) dX8_numberOf_61 rfl ?_
      refine jq_sub Γ (L' := [(0, jR p0), (1, jR p1), (2, jI v6), (3, jI v8), (4, jI v9)]) [4, 5, 2, 1, 0] rfl ?_
      exact jq_done (hCt1 (v6, v8, v9))
  · intro e10
    refine jq_iload_n Γ dX8_numberOf_64 rfl 0 rfl ?_
    exact jq_ireturn Γ dX8_numberOf_65 (hK0 _)


theorem dX8_isGoodAhead_0 : decode cX8_isGoodAhead 0 = .ok (.iconst 0, 1) := by decide +kernel
theorem dX8_isGoodAhead_1 : decode cX8_isGoodAhead 1 = .ok (.istore 5, 2) := by decide +kernel
theorem dX8_isGoodAhead_3 : decode cX8_isGoodAhead 3 = .ok (.iload 5, 2) := by decide +kernel
theorem dX8_isGoodAhead_5 : decode cX8_isGoodAhead 5 = .ok (.aload_n 1, 1) := by decide +kernel
theorem dX8_isGoodAhead_6 : decode cX8_isGoodAhead 6 = .ok (.getfield 30, 3) := by decide +kernel
theorem dX8_isGoodAhead_9 : decode cX8_isGoodAhead 9 = .ok (.if_icmp .ge 44, 3) := by decide +kernel
theorem dX8_isGoodAhead_12 : decode cX8_isGoodAhead 12 = .ok (.aload_n 0, 1) := by decide +kernel
theorem dX8_isGoodAhead_13 : decode cX8_isGoodAhead 13 = .ok (.getfield 18, 3) := by decide +kernel
theorem dX8_isGoodAhead_16 : decode cX8_isGoodAhead 16 = .ok (.iload 5, 2) := by decide +kernel
theorem dX8_isGoodAhead_18 : decode cX8_isGoodAhead 18 = .ok (.iload_n 3, 1) := by decide +kernel
theorem dX8_isGoodAhead_19 : decode cX8_isGoodAhead 19 = .ok (.ifCond .eq 20, 3) := by decide +kernel
theorem dX8_isGoodAhead_22 : decode cX8_isGoodAhead 22 = .ok (.aload_n 1, 1) := by decide +kernel
theorem dX8_isGoodAhead_23 : decode cX8_isGoodAhead 23 = .ok (.getfield 24, 3) := by decide +kernel
theorem dX8_isGoodAhead_26 : decode cX8_isGoodAhead 26 = .ok (.iconst 1, 1) := by decide +kernel
theorem dX8_isGoodAhead_27 : decode cX8_isGoodAhead 27 = .ok (.isub, 1) := by decide +kernel
theorem dX8_isGoodAhead_28 : decode cX8_isGoodAhead 28 = .ok (.aload_n 0, 1) := by decide +kernel
theorem dX8_isGoodAhead_29 : decode cX8_isGoodAhead 29 = .ok (.getfield 9, 3) := by decide +kernel
theorem dX8_isGoodAhead_32 : decode cX8_isGoodAhead 32 = .ok (.iload 5, 2) := by decide +kernel
theorem dX8_isGoodAhead_34 : decode cX8_isGoodAhead 34 = .ok (.iaload, 1) := by decide +kernel
theorem dX8_isGoodAhead_35 : decode cX8_isGoodAhead 35 = .ok (.isub, 1) := by decide +kernel
theorem dX8_isGoodAhead_36 : decode cX8_isGoodAhead 36 = .ok (.goto 10, 3) := by decide +kernel
theorem dX8_isGoodAhead_39 : decode cX8_isGoodAhead 39 = .ok (.aload_n 0, 1) := by decide +kernel
theorem dX8_isGoodAhead_40 : decode cX8_isGoodAhead 40 = .ok (.getfield 9, 3) := by decide +kernel
theorem dX8_isGoodAhead_43 : decode cX8_isGoodAhead 43 = .ok (.iload 5, 2) := by decide +kernel
theorem dX8_isGoodAhead_45 : decode cX8_isGoodAhead 45 = .ok (.iaload, 1) := by decide +kernel
theorem dX8_isGoodAhead_46 : decode cX8_isGoodAhead 46 = .ok (.iastore, 1) := by decide +kernel
theorem dX8_isGoodAhead_47 : decode cX8_isGoodAhead 47 = .ok (.iinc 5 1, 3) := by decide +kernel
theorem dX8_isGoodAhead_50 : decode cX8_isGoodAhead 50 = .ok (.goto (-47), 3) := by decide +kernel
theorem dX8_isGoodAhead_53 : decode cX8_isGoodAhead 53 = .ok (.aload_n 1, 1) := by decide +kernel
theorem dX8_isGoodAhead_54 : decode cX8_isGoodAhead 54 = .ok (.iload_n 2, 1) := by decide +kernel
theorem dX8_isGoodAhead_55 : decode cX8_isGoodAhead 55 = .ok (.aload_n 0, 1) := by decide +kernel
theorem dX8_isGoodAhead_56 : decode cX8_isGoodAhead 56 = .ok (.getfield 18, 3) := by decide +kernel
theorem dX8_isGoodAhead_59 : decode cX8_isGoodAhead 59 = .ok (.invokevirtual 109, 3) := by decide +kernel
theorem dX8_isGoodAhead_62 : decode cX8_isGoodAhead 62 = .ok (.aload_n 1, 1) := by decide +kernel
theorem dX8_isGoodAhead_63 : decode cX8_isGoodAhead 63 = .ok (.aload_n 0, 1) := by decide +kernel
theorem dX8_isGoodAhead_64 : decode cX8_isGoodAhead 64 = .ok (.getfield 18, 3) := by decide +kernel
theorem dX8_isGoodAhead_67 : decode cX8_isGoodAhead 67 = .ok (.invokestatic 113, 3) := by decide +kernel
theorem dX8_isGoodAhead_70 : decode cX8_isGoodAhead 70 = .ok (.istore 5, 2) := by decide +kernel
theorem dX8_isGoodAhead_72 : decode cX8_isGoodAhead 72 = .ok (.iload 5, 2) := by decide +kernel
theorem dX8_isGoodAhead_74 : decode cX8_isGoodAhead 74 = .ok (.iload 4, 2) := by decide +kernel
theorem dX8_isGoodAhead_76 : decode cX8_isGoodAhead 76 = .ok (.if_icmp .ge 21, 3) := by decide +kernel
theorem dX8_isGoodAhead_79 : decode cX8_isGoodAhead 79 = .ok (.aload_n 0, 1) := by decide +kernel
theorem dX8_isGoodAhead_80 : decode cX8_isGoodAhead 80 = .ok (.getfield 21, 3) := by decide +kernel
theorem dX8_isGoodAhead_83 : decode cX8_isGoodAhead 83 = .ok (.iload 5, 2) := by decide +kernel
theorem dX8_isGoodAhead_85 : decode cX8_isGoodAhead 85 = .ok (.iaload, 1) := by decide +kernel
theorem dX8_isGoodAhead_86 : decode cX8_isGoodAhead 86 = .ok (.aload_n 1, 1) := by decide +kernel
theorem dX8_isGoodAhead_87 : decode cX8_isGoodAhead 87 = .ok (.invokevirtual 56, 3) := by decide +kernel
theorem dX8_isGoodAhead_90 : decode cX8_isGoodAhead 90 = .ok (.if_icmp .ne 7, 3) := by decide +kernel
theorem dX8_isGoodAhead_93 : decode cX8_isGoodAhead 93 = .ok (.iconst 1, 1) := by decide +kernel
theorem dX8_isGoodAhead_94 : decode cX8_isGoodAhead 94 = .ok (.goto 4, 3) := by decide +kernel
theorem dX8_isGoodAhead_97 : decode cX8_isGoodAhead 97 = .ok (.iconst 0, 1) := by decide +kernel
theorem dX8_isGoodAhead_98 : decode cX8_isGoodAhead 98 = .ok (.ireturn, 1) := by decide +kernel
set_option maxHeartbeats 4000000 in
set_option maxRecDepth 100000 in
theorem ctX8_isGoodAhead {p1 : Int} {p2 : Int} {p3 : Int} {p4 : Int} {σ : jq_M} {res : Int} {σ' : jq_M} (hp1 : jq_com p1) (h : X8_isGoodAhead p1 p2 p3 p4 σ = some (res, σ')) : jq_MC jq_zX yX8_isGoodAhead cX8_isGoodAhead 6 (some .boolean) 3 85 [jR 52, jR p1, jI p2, jI p3, jI p4] σ (some (jI res)) σ' := by
  refine jq_met (own := RX8) (L0 := [(0, jR 52), (1, jR p1), (2, jI p2), (3, jI p3), (4, jI p4)]) (by decide) rfl rfl rfl ?_
  intro X Γ hnl hlY hRT
  refine jq_use2 (P := fun r => jq_RT jq_zX X (some .boolean) (some (jI r.1)) r.2) ?_ h hRT
  intro K0 hK0
  unfold X8_isGoodAhead
  refine jq_iconst Γ dX8_isGoodAhead_0 rfl ?_
  refine jq_istore (L' := [(5, jI 0), (0, jR 52), (1, jR p1), (2, jI p2), (3, jI p3), (4, jI p4)]) Γ dX8_isGoodAhead_1 hnl rfl rfl ?_
  refine jq_sub Γ (L' := [(0, jR 52), (1, jR p1), (2, jI p2), (3, jI p3), (4, jI p4), (5, jI 0)]) [1, 2, 3, 4, 5, 0] rfl ?_
  refine jq_loop2 (C := fun (t1 : Int × jq_M) => jq_V jq_zX X (jq_zN jq_zX) t1.2 3 [(0, jR 52), (1, jR p1), (2, jI p2), (3, jI p3), (4, jI p4), (5, jI t1.1)] []) (KX := fun (e8 : jq_M) => jq_V jq_zX X (jq_zN jq_zX) e8 53 [(0, jR 52), (1, jR p1), (2, jI p2), (4, jI p4)] []) ?_ ?_ (0, σ)
  · intro K3_t1 hCt1 hXt1 t1
    unfold X8_isGoodAhead_b3
    refine jq_iload Γ dX8_isGoodAhead_3 5 rfl ?_
    refine jq_aload_n Γ dX8_isGoodAhead_5 rfl 1 rfl (jq_at_0 (at_com hp1)) ?_
    refine jq_getI (J := 2) Γ (at_com hp1) fl_RX8_30 rfl rfl dX8_isGoodAhead_6 ?_
    refine jq_icmp_ge (tgt := 53) Γ dX8_isGoodAhead_9 rfl ?_ ?_
    · refine jq_sub Γ (L' := [(0, jR 52), (1, jR p1), (2, jI p2), (4, jI p4)]) [0, 1, 2, 4] rfl ?_
      exact jq_done (hXt1 t1.2)
    · refine jq_aload_n Γ dX8_isGoodAhead_12 rfl 0 rfl (jq_at_0 at_X_52) ?_
      refine jq_getR (v := 55) Γ hlY at_X_52 fl_RX8_18 rfl rfl ly_X8_like dX8_isGoodAhead_13 ?_
      refine jq_iload Γ dX8_isGoodAhead_16 5 rfl ?_
      refine jq_iload_n Γ dX8_isGoodAhead_18 rfl 3 rfl ?_
      refine jq_if_eq (tgt := 39) Γ dX8_isGoodAhead_19 rfl ?_ ?_
      · refine jq_aload_n Γ dX8_isGoodAhead_39 rfl 0 rfl (jq_at_0 at_X_52) ?_
        refine jq_getR (v := 53) Γ hlY at_X_52 fl_RX8_9 rfl rfl ly_X8_row dX8_isGoodAhead_40 ?_
        refine jq_iload Γ dX8_isGoodAhead_43 5 rfl ?_
        refine jq_iald Γ at_X_53 rfl dX8_isGoodAhead_45 (fun v2 => ?_)
        refine jq_iast Γ at_X_55 rfl dX8_isGoodAhead_46 (fun s3 => ?_)
        refine jq_iincN (L' := fun v4 => [(5, jI v4), (0, jR 52), (1, jR p1), (2, jI p2), (3, jI p3), (4, jI p4)]) Γ dX8_isGoodAhead_47 5 rfl hnl rfl (fun _ => rfl) (fun v4 => ?_)
        refine jq_goto Γ (tgt := 3) dX8_isGoodAhead_50 rfl ?_
        refine jq_sub Γ (L' := [(0, jR 52), (1, jR p1), (2, jI p2), (3, jI p3), (4, jI p4), (5, jI v4)]) [1, 2, 3, 4, 5, 0] rfl ?_
        exact jq_done (hCt1 (v4, s3))
      · refine jq_aload_n Γ dX8_isGoodAhead_22 rfl 1 rfl (jq_at_0 (at_com hp1)) ?_
        refine jq_getI (J := 0) Γ (at_com hp1) fl_RX8_24 rfl rfl dX8_isGoodAhead_23 ?_
        refine jq_iconst Γ dX8_isGoodAhead_26 rfl ?_
        refine jq_isub Γ dX8_isGoodAhead_27 ?_
        refine jq_aload_n Γ dX8_isGoodAhead_28 rfl 0 rfl (jq_at_0 at_X_52) ?_
        refine jq_getR (v := 53) Γ hlY at_X_52 fl_RX8_9 rfl rfl ly_X8_row dX8_isGoodAhead_29 ?_
        refine jq_iload Γ dX8_isGoodAhead_32 5 rfl ?_
        refine jq_iald Γ at_X_53 rfl dX8_isGoodAhead_34 (fun v5 => ?_)
        refine jq_isub Γ dX8_isGoodAhead_35 ?_
        refine jq_goto Γ (tgt := 46) dX8_isGoodAhead_36 rfl ?_
        refine jq_iast Γ at_X_55 rfl dX8_isGoodAhead_46 (fun s6 => ?_)
        refine jq_iincN (L' := fun v7 => [(5, jI v7), (0, jR 52), (1, jR p1), (2, jI p2), (3, jI p3), (4, jI p4)]) Γ dX8_isGoodAhead_47 5 rfl hnl rfl (fun _ => rfl) (fun v7 => ?_)
        refine jq_goto Γ (tgt := 3) dX8_isGoodAhead_50 rfl ?_
        refine jq_sub Γ (L' := [(0, jR 52), (1, jR p1), (2, jI p2), (3, jI p3), (4, jI p4), (5, jI v7)]) [1, 2, 3, 4, 5, 0] rfl ?_
        exact jq_done (hCt1 (v7, s6))
  · intro e8
    refine jq_aload_n Γ dX8_isGoodAhead_53 rfl 1 rfl (jq_at_0 (at_com hp1)) ?_
    refine jq_iload_n Γ dX8_isGoodAhead_54 rfl 2 rfl ?_
    refine jq_aload_n Γ dX8_isGoodAhead_55 rfl 0 rfl (jq_at_0 at_X_52) ?_
    refine jq_getR (v := 55) Γ hlY at_X_52 fl_RX8_18 rfl rfl ly_X8_like dX8_isGoodAhead_56 ?_
    refine jq_cwV (jq_virt (avs := [jI p2, jR 55]) (st := []) Γ hlY rfl ml_RX8_109 rfl (at_com hp1) rfl rfl rfl rfl rfl dX8_isGoodAhead_59) (fun σ' h => ctX1_turnAll hp1 row_55 h) (fun s9 => ?_)
    refine jq_aload_n Γ dX8_isGoodAhead_62 rfl 1 rfl (jq_at_0 (at_com hp1)) ?_
    refine jq_aload_n Γ dX8_isGoodAhead_63 rfl 0 rfl (jq_at_0 at_X_52) ?_
    refine jq_getR (v := 55) Γ hlY at_X_52 fl_RX8_18 rfl rfl ly_X8_like dX8_isGoodAhead_64 ?_
    refine jq_cpI (jq_stat (avs := [jR p1, jR 55]) (st := []) Γ hlY rfl ml_RX8_113 rfl rfl rfl rfl rfl dX8_isGoodAhead_67) (fun r h => ctX8_numberOf hp1 row_55 h) (fun v10 => ?_)
    refine jq_istore (L' := [(5, jI v10), (0, jR 52), (1, jR p1), (2, jI p2), (4, jI p4)]) Γ dX8_isGoodAhead_70 hnl rfl rfl ?_
    refine jq_iload Γ dX8_isGoodAhead_72 0 rfl ?_
    refine jq_iload Γ dX8_isGoodAhead_74 4 rfl ?_
    refine jq_icmp_ge (tgt := 97) Γ dX8_isGoodAhead_76 rfl ?_ ?_
    · refine jq_iconst Γ dX8_isGoodAhead_97 rfl ?_
      exact jq_zreturn Γ (Or.inl rfl) dX8_isGoodAhead_98 (hK0 _)
    · refine jq_aload_n Γ dX8_isGoodAhead_79 rfl 1 rfl (jq_at_0 at_X_52) ?_
      refine jq_getR (v := 56) Γ hlY at_X_52 fl_RX8_21 rfl rfl ly_X8_signers dX8_isGoodAhead_80 ?_
      refine jq_iload Γ dX8_isGoodAhead_83 0 rfl ?_
      refine jq_iald Γ at_X_56 rfl dX8_isGoodAhead_85 (fun v11 => ?_)
      refine jq_aload_n Γ dX8_isGoodAhead_86 rfl 2 rfl (jq_at_0 (at_com hp1)) ?_
      refine jq_cpI (jq_virt (avs := []) (st := [jI v11]) Γ hlY rfl ml_RX8_56 rfl (at_com hp1) rfl rfl rfl rfl rfl dX8_isGoodAhead_87) (fun r h => ctX1_allParties hp1 h) (fun v12 => ?_)
      refine jq_icmp_ne (tgt := 97) Γ dX8_isGoodAhead_90 rfl ?_ ?_
      · refine jq_iconst Γ dX8_isGoodAhead_97 rfl ?_
        exact jq_zreturn Γ (Or.inl rfl) dX8_isGoodAhead_98 (hK0 _)
      · refine jq_iconst Γ dX8_isGoodAhead_93 rfl ?_
        refine jq_goto Γ (tgt := 98) dX8_isGoodAhead_94 rfl ?_
        exact jq_zreturn Γ (Or.inr rfl) dX8_isGoodAhead_98 (hK0 _)


theorem dX8_isLikeAnEarlierGood_0 : decode cX8_isLikeAnEarlierGood 0 = .ok (.iconst 0, 1) := by decide +kernel
theorem dX8_isLikeAnEarlierGood_1 : decode cX8_isLikeAnEarlierGood 1 = .ok (.istore_n 3, 1) := by decide +kernel
theorem dX8_isLikeAnEarlierGood_2 : decode cX8_isLikeAnEarlierGood 2 = .ok (.iload_n 3, 1) := by decide +kernel
theorem dX8_isLikeAnEarlierGood_3 : decode cX8_isLikeAnEarlierGood 3 = .ok (.aload_n 1, 1) := by decide +kernel
theorem dX8_isLikeAnEarlierGood_4 : decode cX8_isLikeAnEarlierGood 4 = .ok (.getfield 24, 3) := by decide +kernel
theorem dX8_isLikeAnEarlierGood_7 : decode cX8_isLikeAnEarlierGood 7 = .ok (.if_icmp .ge 33, 3) := by decide +kernel
theorem dX8_isLikeAnEarlierGood_10 : decode cX8_isLikeAnEarlierGood 10 = .ok (.aload_n 0, 1) := by decide +kernel
theorem dX8_isLikeAnEarlierGood_11 : decode cX8_isLikeAnEarlierGood 11 = .ok (.aload_n 1, 1) := by decide +kernel
theorem dX8_isLikeAnEarlierGood_12 : decode cX8_isLikeAnEarlierGood 12 = .ok (.iload_n 3, 1) := by decide +kernel
theorem dX8_isLikeAnEarlierGood_13 : decode cX8_isLikeAnEarlierGood 13 = .ok (.iconst 0, 1) := by decide +kernel
theorem dX8_isLikeAnEarlierGood_14 : decode cX8_isLikeAnEarlierGood 14 = .ok (.iload_n 2, 1) := by decide +kernel
theorem dX8_isLikeAnEarlierGood_15 : decode cX8_isLikeAnEarlierGood 15 = .ok (.invokevirtual 105, 3) := by decide +kernel
theorem dX8_isLikeAnEarlierGood_18 : decode cX8_isLikeAnEarlierGood 18 = .ok (.ifCond .ne 14, 3) := by decide +kernel
theorem dX8_isLikeAnEarlierGood_21 : decode cX8_isLikeAnEarlierGood 21 = .ok (.aload_n 0, 1) := by decide +kernel
theorem dX8_isLikeAnEarlierGood_22 : decode cX8_isLikeAnEarlierGood 22 = .ok (.aload_n 1, 1) := by decide +kernel
theorem dX8_isLikeAnEarlierGood_23 : decode cX8_isLikeAnEarlierGood 23 = .ok (.iload_n 3, 1) := by decide +kernel
theorem dX8_isLikeAnEarlierGood_24 : decode cX8_isLikeAnEarlierGood 24 = .ok (.iconst 1, 1) := by decide +kernel
theorem dX8_isLikeAnEarlierGood_25 : decode cX8_isLikeAnEarlierGood 25 = .ok (.iload_n 2, 1) := by decide +kernel
theorem dX8_isLikeAnEarlierGood_26 : decode cX8_isLikeAnEarlierGood 26 = .ok (.invokevirtual 105, 3) := by decide +kernel
theorem dX8_isLikeAnEarlierGood_29 : decode cX8_isLikeAnEarlierGood 29 = .ok (.ifCond .eq 5, 3) := by decide +kernel
theorem dX8_isLikeAnEarlierGood_32 : decode cX8_isLikeAnEarlierGood 32 = .ok (.iconst 1, 1) := by decide +kernel
theorem dX8_isLikeAnEarlierGood_33 : decode cX8_isLikeAnEarlierGood 33 = .ok (.ireturn, 1) := by decide +kernel
theorem dX8_isLikeAnEarlierGood_34 : decode cX8_isLikeAnEarlierGood 34 = .ok (.iinc 3 1, 3) := by decide +kernel
theorem dX8_isLikeAnEarlierGood_37 : decode cX8_isLikeAnEarlierGood 37 = .ok (.goto (-35), 3) := by decide +kernel
theorem dX8_isLikeAnEarlierGood_40 : decode cX8_isLikeAnEarlierGood 40 = .ok (.iconst 0, 1) := by decide +kernel
theorem dX8_isLikeAnEarlierGood_41 : decode cX8_isLikeAnEarlierGood 41 = .ok (.ireturn, 1) := by decide +kernel
set_option maxHeartbeats 4000000 in
set_option maxRecDepth 100000 in
theorem ctX8_isLikeAnEarlierGood {p1 : Int} {p2 : Int} {σ : jq_M} {res : Int} {σ' : jq_M} (hp1 : jq_com p1) (h : X8_isLikeAnEarlierGood p1 p2 σ = some (res, σ')) : jq_MC jq_zX yX8_isLikeAnEarlierGood cX8_isLikeAnEarlierGood 4 (some .boolean) 4 110 [jR 52, jR p1, jI p2] σ (some (jI res)) σ' := by
  refine jq_met (own := RX8) (L0 := [(0, jR 52), (1, jR p1), (2, jI p2)]) (by decide) rfl rfl rfl ?_
  intro X Γ hnl hlY hRT
  refine jq_use2 (P := fun r => jq_RT jq_zX X (some .boolean) (some (jI r.1)) r.2) ?_ h hRT
  intro K0 hK0
  unfold X8_isLikeAnEarlierGood
  refine jq_iconst Γ dX8_isLikeAnEarlierGood_0 rfl ?_
  refine jq_istore_n (L' := [(3, jI 0), (0, jR 52), (1, jR p1), (2, jI p2)]) Γ dX8_isLikeAnEarlierGood_1 rfl hnl rfl rfl ?_
  refine jq_sub Γ (L' := [(0, jR 52), (1, jR p1), (2, jI p2), (3, jI 0)]) [1, 2, 3, 0] rfl ?_
  refine jq_loop2 (C := fun (t1 : Int × jq_M) => jq_V jq_zX X (jq_zN jq_zX) t1.2 2 [(0, jR 52), (1, jR p1), (2, jI p2), (3, jI t1.1)] []) (KX := Sum.elim (fun (e9 : jq_M) => jq_V jq_zX X (jq_zN jq_zX) e9 32 [] []) (fun (e10 : jq_M) => jq_V jq_zX X (jq_zN jq_zX) e10 40 [] [])) ?_ ?_ (0, σ)
  · intro K2_t1 hCt1 hXt1 t1
    unfold X8_isLikeAnEarlierGood_b2
    refine jq_iload_n Γ dX8_isLikeAnEarlierGood_2 rfl 3 rfl ?_
    refine jq_aload_n Γ dX8_isLikeAnEarlierGood_3 rfl 1 rfl (jq_at_0 (at_com hp1)) ?_
    refine jq_getI (J := 0) Γ (at_com hp1) fl_RX8_24 rfl rfl dX8_isLikeAnEarlierGood_4 ?_
    refine jq_icmp_ge (tgt := 40) Γ dX8_isLikeAnEarlierGood_7 rfl ?_ ?_
    · refine jq_sub Γ (L' := []) [] rfl ?_
      exact jq_done (hXt1 (.inr t1.2))
    · refine jq_aload_n Γ dX8_isLikeAnEarlierGood_10 rfl 0 rfl (jq_at_0 at_X_52) ?_
      refine jq_aload_n Γ dX8_isLikeAnEarlierGood_11 rfl 1 rfl (jq_at_0 (at_com hp1)) ?_
      refine jq_iload_n Γ dX8_isLikeAnEarlierGood_12 rfl 3 rfl ?_
      refine jq_iconst Γ dX8_isLikeAnEarlierGood_13 rfl ?_
      refine jq_iload_n Γ dX8_isLikeAnEarlierGood_14 rfl 2 rfl ?_
      refine jq_cwZ (jq_virt (avs := [jR p1, jI t1.1, jI 0, jI p2]) (st := []) Γ hlY rfl ml_RX8_105 rfl at_X_52 rfl rfl rfl rfl rfl dX8_isLikeAnEarlierGood_15) rfl (fun r σ' h => ctX8_isGoodAhead hp1 h) (fun v2 s3 hz4 => ?_)
      refine jq_if_ne (tgt := 32) Γ dX8_isLikeAnEarlierGood_18 rfl ?_ ?_
      · refine jq_sub Γ (L' := []) [] rfl ?_
        exact jq_done (hXt1 (.inl s3))
      · refine jq_aload_n Γ dX8_isLikeAnEarlierGood_21 rfl 0 rfl (jq_at_0 at_X_52) ?_
        refine jq_aload_n Γ dX8_isLikeAnEarlierGood_22 rfl 1 rfl (jq_at_0 (at_com hp1)) ?_
        refine jq_iload_n Γ dX8_isLikeAnEarlierGood_23 rfl 3 rfl ?_
        refine jq_iconst Γ dX8_isLikeAnEarlierGood_24 rfl ?_
        refine jq_iload_n Γ dX8_isLikeAnEarlierGood_25 rfl 2 rfl ?_
        refine jq_cwZ (jq_virt (avs := [jR p1, jI t1.1, jI 1, jI p2]) (st := []) Γ hlY rfl ml_RX8_105 rfl at_X_52 rfl rfl rfl rfl rfl dX8_isLikeAnEarlierGood_26) rfl (fun r σ' h => ctX8_isGoodAhead hp1 h) (fun v5 s6 hz7 => ?_)
        refine jq_if_eq (tgt := 34) Γ dX8_isLikeAnEarlierGood_29 rfl ?_ ?_
        · refine jq_iincN (L' := fun v8 => [(3, jI v8), (0, jR 52), (1, jR p1), (2, jI p2)]) Γ dX8_isLikeAnEarlierGood_34 3 rfl hnl rfl (fun _ => rfl) (fun v8 => ?_)
          refine jq_goto Γ (tgt := 2) dX8_isLikeAnEarlierGood_37 rfl ?_
          refine jq_sub Γ (L' := [(0, jR 52), (1, jR p1), (2, jI p2), (3, jI v8)]) [1, 2, 3, 0] rfl ?_
          exact jq_done (hCt1 (v8, s6))
        · refine jq_sub Γ (L' := []) [] rfl ?_
          exact jq_done (hXt1 (.inl s6))
  · refine jq_elim ?_ ?_
    · intro e9
      refine jq_iconst Γ dX8_isLikeAnEarlierGood_32 rfl ?_
      exact jq_zreturn Γ (Or.inr rfl) dX8_isLikeAnEarlierGood_33 (hK0 _)
    · intro e10
      refine jq_iconst Γ dX8_isLikeAnEarlierGood_40 rfl ?_
      exact jq_zreturn Γ (Or.inl rfl) dX8_isLikeAnEarlierGood_41 (hK0 _)


theorem dX8_countClasses_0 : decode cX8_countClasses 0 = .ok (.aload_n 0, 1) := by decide +kernel
theorem dX8_countClasses_1 : decode cX8_countClasses 1 = .ok (.aload_n 1, 1) := by decide +kernel
theorem dX8_countClasses_2 : decode cX8_countClasses 2 = .ok (.invokevirtual 49, 3) := by decide +kernel
theorem dX8_countClasses_5 : decode cX8_countClasses 5 = .ok (.istore_n 2, 1) := by decide +kernel
theorem dX8_countClasses_6 : decode cX8_countClasses 6 = .ok (.iconst 0, 1) := by decide +kernel
theorem dX8_countClasses_7 : decode cX8_countClasses 7 = .ok (.istore_n 3, 1) := by decide +kernel
theorem dX8_countClasses_8 : decode cX8_countClasses 8 = .ok (.iload_n 3, 1) := by decide +kernel
theorem dX8_countClasses_9 : decode cX8_countClasses 9 = .ok (.iload_n 2, 1) := by decide +kernel
theorem dX8_countClasses_10 : decode cX8_countClasses 10 = .ok (.if_icmp .ge 35, 3) := by decide +kernel
theorem dX8_countClasses_13 : decode cX8_countClasses 13 = .ok (.iload_n 3, 1) := by decide +kernel
theorem dX8_countClasses_14 : decode cX8_countClasses 14 = .ok (.sipush 720, 3) := by decide +kernel
theorem dX8_countClasses_17 : decode cX8_countClasses 17 = .ok (.if_icmp .ge 28, 3) := by decide +kernel
theorem dX8_countClasses_20 : decode cX8_countClasses 20 = .ok (.aload_n 0, 1) := by decide +kernel
theorem dX8_countClasses_21 : decode cX8_countClasses 21 = .ok (.getfield 21, 3) := by decide +kernel
theorem dX8_countClasses_24 : decode cX8_countClasses 24 = .ok (.iload_n 3, 1) := by decide +kernel
theorem dX8_countClasses_25 : decode cX8_countClasses 25 = .ok (.aload_n 1, 1) := by decide +kernel
theorem dX8_countClasses_26 : decode cX8_countClasses 26 = .ok (.aload_n 0, 1) := by decide +kernel
theorem dX8_countClasses_27 : decode cX8_countClasses 27 = .ok (.getfield 9, 3) := by decide +kernel
theorem dX8_countClasses_30 : decode cX8_countClasses 30 = .ok (.invokevirtual 52, 3) := by decide +kernel
theorem dX8_countClasses_33 : decode cX8_countClasses 33 = .ok (.iastore, 1) := by decide +kernel
theorem dX8_countClasses_34 : decode cX8_countClasses 34 = .ok (.aload_n 0, 1) := by decide +kernel
theorem dX8_countClasses_35 : decode cX8_countClasses 35 = .ok (.aload_n 1, 1) := by decide +kernel
theorem dX8_countClasses_36 : decode cX8_countClasses 36 = .ok (.invokevirtual 60, 3) := by decide +kernel
theorem dX8_countClasses_39 : decode cX8_countClasses 39 = .ok (.iinc 3 1, 3) := by decide +kernel
theorem dX8_countClasses_42 : decode cX8_countClasses 42 = .ok (.goto (-34), 3) := by decide +kernel
theorem dX8_countClasses_45 : decode cX8_countClasses 45 = .ok (.aload_n 0, 1) := by decide +kernel
theorem dX8_countClasses_46 : decode cX8_countClasses 46 = .ok (.aload_n 1, 1) := by decide +kernel
theorem dX8_countClasses_47 : decode cX8_countClasses 47 = .ok (.invokevirtual 49, 3) := by decide +kernel
theorem dX8_countClasses_50 : decode cX8_countClasses 50 = .ok (.pop, 1) := by decide +kernel
theorem dX8_countClasses_51 : decode cX8_countClasses 51 = .ok (.iconst 0, 1) := by decide +kernel
theorem dX8_countClasses_52 : decode cX8_countClasses 52 = .ok (.istore_n 3, 1) := by decide +kernel
theorem dX8_countClasses_53 : decode cX8_countClasses 53 = .ok (.iconst 0, 1) := by decide +kernel
theorem dX8_countClasses_54 : decode cX8_countClasses 54 = .ok (.istore 4, 2) := by decide +kernel
theorem dX8_countClasses_56 : decode cX8_countClasses 56 = .ok (.iload 4, 2) := by decide +kernel
theorem dX8_countClasses_58 : decode cX8_countClasses 58 = .ok (.iload_n 2, 1) := by decide +kernel
theorem dX8_countClasses_59 : decode cX8_countClasses 59 = .ok (.if_icmp .ge 49, 3) := by decide +kernel
theorem dX8_countClasses_62 : decode cX8_countClasses 62 = .ok (.iload 4, 2) := by decide +kernel
theorem dX8_countClasses_64 : decode cX8_countClasses 64 = .ok (.sipush 720, 3) := by decide +kernel
theorem dX8_countClasses_67 : decode cX8_countClasses 67 = .ok (.if_icmp .ge 41, 3) := by decide +kernel
theorem dX8_countClasses_70 : decode cX8_countClasses 70 = .ok (.aload_n 0, 1) := by decide +kernel
theorem dX8_countClasses_71 : decode cX8_countClasses 71 = .ok (.getfield 21, 3) := by decide +kernel
theorem dX8_countClasses_74 : decode cX8_countClasses 74 = .ok (.iload 4, 2) := by decide +kernel
theorem dX8_countClasses_76 : decode cX8_countClasses 76 = .ok (.iaload, 1) := by decide +kernel
theorem dX8_countClasses_77 : decode cX8_countClasses 77 = .ok (.aload_n 1, 1) := by decide +kernel
theorem dX8_countClasses_78 : decode cX8_countClasses 78 = .ok (.invokevirtual 56, 3) := by decide +kernel
theorem dX8_countClasses_81 : decode cX8_countClasses 81 = .ok (.if_icmp .ne 16, 3) := by decide +kernel
theorem dX8_countClasses_84 : decode cX8_countClasses 84 = .ok (.aload_n 0, 1) := by decide +kernel
theorem dX8_countClasses_85 : decode cX8_countClasses 85 = .ok (.aload_n 1, 1) := by decide +kernel
theorem dX8_countClasses_86 : decode cX8_countClasses 86 = .ok (.iload 4, 2) := by decide +kernel
theorem dX8_countClasses_88 : decode cX8_countClasses 88 = .ok (.invokevirtual 101, 3) := by decide +kernel
theorem dX8_countClasses_91 : decode cX8_countClasses 91 = .ok (.ifCond .ne 6, 3) := by decide +kernel
theorem dX8_countClasses_94 : decode cX8_countClasses 94 = .ok (.iinc 3 1, 3) := by decide +kernel
theorem dX8_countClasses_97 : decode cX8_countClasses 97 = .ok (.aload_n 0, 1) := by decide +kernel
theorem dX8_countClasses_98 : decode cX8_countClasses 98 = .ok (.aload_n 1, 1) := by decide +kernel
theorem dX8_countClasses_99 : decode cX8_countClasses 99 = .ok (.invokevirtual 60, 3) := by decide +kernel
theorem dX8_countClasses_102 : decode cX8_countClasses 102 = .ok (.iinc 4 1, 3) := by decide +kernel
theorem dX8_countClasses_105 : decode cX8_countClasses 105 = .ok (.goto (-49), 3) := by decide +kernel
theorem dX8_countClasses_108 : decode cX8_countClasses 108 = .ok (.iload_n 3, 1) := by decide +kernel
theorem dX8_countClasses_109 : decode cX8_countClasses 109 = .ok (.ireturn, 1) := by decide +kernel
set_option maxHeartbeats 4000000 in
set_option maxRecDepth 100000 in
theorem ctX8_countClasses {p1 : Int} {σ : jq_M} {res : Int} {σ' : jq_M} (hp1 : jq_com p1) (h : X8_countClasses p1 σ = some (res, σ')) : jq_MC jq_zX yX8_countClasses cX8_countClasses 5 (some .int) 5 133 [jR 52, jR p1] σ (some (jI res)) σ' := by
  refine jq_met (own := RX8) (L0 := [(0, jR 52), (1, jR p1)]) (by decide) rfl rfl rfl ?_
  intro X Γ hnl hlY hRT
  refine jq_use2 (P := fun r => jq_RT jq_zX X (some .int) (some (jI r.1)) r.2) ?_ h hRT
  intro K0 hK0
  unfold X8_countClasses
  have hj45_0 : ∀ (j10 : Int) (s11 : jq_M), jq_J (X8_countClasses_j45 p1 j10 s11) K0 (jq_V jq_zX X (jq_zN jq_zX) s11 45 [(0, jR 52), (1, jR p1), (2, jI j10)] []) := by
    intro j10 s11
    unfold X8_countClasses_j45
    refine jq_aload_n Γ dX8_countClasses_45 rfl 0 rfl (jq_at_0 at_X_52) ?_
    refine jq_aload_n Γ dX8_countClasses_46 rfl 1 rfl (jq_at_0 (at_com hp1)) ?_
    refine jq_cwI (jq_virt (avs := [jR p1]) (st := []) Γ hlY rfl ml_RX8_49 rfl at_X_52 rfl rfl rfl rfl rfl dX8_countClasses_47) (fun r σ' h => ctX8_begin hp1 h) (fun v12 s13 => ?_)
    refine jq_pop Γ dX8_countClasses_50 rfl ?_
    refine jq_iconst Γ dX8_countClasses_51 rfl ?_
    refine jq_istore_n (L' := [(3, jI 0), (0, jR 52), (1, jR p1), (2, jI j10)]) Γ dX8_countClasses_52 rfl hnl rfl rfl ?_
    refine jq_iconst Γ dX8_countClasses_53 rfl ?_
    refine jq_istore (L' := [(4, jI 0), (3, jI 0), (0, jR 52), (1, jR p1), (2, jI j10)]) Γ dX8_countClasses_54 hnl rfl rfl ?_
    refine jq_sub Γ (L' := [(0, jR 52), (1, jR p1), (2, jI j10), (3, jI 0), (4, jI 0)]) [2, 3, 4, 1, 0] rfl ?_
    refine jq_loop2 (C := fun (t14 : Int × Int × jq_M) => jq_V jq_zX X (jq_zN jq_zX) t14.2.2 56 [(0, jR 52), (1, jR p1), (2, jI j10), (3, jI t14.1), (4, jI t14.2.1)] []) (KX := fun (e26 : Int × jq_M) => jq_V jq_zX X (jq_zN jq_zX) e26.2 108 [(3, jI e26.1)] []) ?_ ?_ (0, 0, s13)
    · intro K56_t14 hCt14 hXt14 t14
      unfold X8_countClasses_b56
      have hj97_1031 : ∀ (j17 : Int) (j18 : Int) (s19 : jq_M), jq_J (X8_countClasses_j97 p1 j10 j17 j18 s19) K56_t14 (jq_V jq_zX X (jq_zN jq_zX) s19 97 [(0, jR 52), (1, jR p1), (2, jI j10), (3, jI j17), (4, jI j18)] []) := by
        intro j17 j18 s19
        unfold X8_countClasses_j97
        refine jq_aload_n Γ dX8_countClasses_97 rfl 0 rfl (jq_at_0 at_X_52) ?_
        refine jq_aload_n Γ dX8_countClasses_98 rfl 1 rfl (jq_at_0 (at_com hp1)) ?_
        refine jq_cwV (jq_virt (avs := [jR p1]) (st := []) Γ hlY rfl ml_RX8_60 rfl at_X_52 rfl rfl rfl rfl rfl dX8_countClasses_99) (fun σ' h => ctX8_goOn hp1 h) (fun s20 => ?_)
        refine jq_iincN (L' := fun v21 => [(4, jI v21), (0, jR 52), (1, jR p1), (2, jI j10), (3, jI j17)]) Γ dX8_countClasses_102 4 rfl hnl rfl (fun _ => rfl) (fun v21 => ?_)
        refine jq_goto Γ (tgt := 56) dX8_countClasses_105 rfl ?_
        refine jq_sub Γ (L' := [(0, jR 52), (1, jR p1), (2, jI j10), (3, jI j17), (4, jI v21)]) [1, 2, 3, 4, 0] rfl ?_
        exact jq_done (hCt14 (j17, v21, s20))
      refine jq_iload Γ dX8_countClasses_56 4 rfl ?_
      refine jq_iload_n Γ dX8_countClasses_58 rfl 2 rfl ?_
      refine jq_icmp_ge (tgt := 108) Γ dX8_countClasses_59 rfl ?_ ?_
      · refine jq_sub Γ (L' := [(3, jI t14.1)]) [3] rfl ?_
        exact jq_done (hXt14 (t14.1, t14.2.2))
      · refine jq_iload Γ dX8_countClasses_62 4 rfl ?_
        refine jq_sipush Γ dX8_countClasses_64 rfl ?_
        refine jq_icmp_ge (tgt := 108) Γ dX8_countClasses_67 rfl ?_ ?_
        · refine jq_sub Γ (L' := [(3, jI t14.1)]) [3] rfl ?_
          exact jq_done (hXt14 (t14.1, t14.2.2))
        · refine jq_aload_n Γ dX8_countClasses_70 rfl 0 rfl (jq_at_0 at_X_52) ?_
          refine jq_getR (v := 56) Γ hlY at_X_52 fl_RX8_21 rfl rfl ly_X8_signers dX8_countClasses_71 ?_
          refine jq_iload Γ dX8_countClasses_74 4 rfl ?_
          refine jq_iald Γ at_X_56 rfl dX8_countClasses_76 (fun v15 => ?_)
          refine jq_aload_n Γ dX8_countClasses_77 rfl 1 rfl (jq_at_0 (at_com hp1)) ?_
          refine jq_cpI (jq_virt (avs := []) (st := [jI v15]) Γ hlY rfl ml_RX8_56 rfl (at_com hp1) rfl rfl rfl rfl rfl dX8_countClasses_78) (fun r h => ctX1_allParties hp1 h) (fun v16 => ?_)
          refine jq_icmp_ne (tgt := 97) Γ dX8_countClasses_81 rfl ?_ ?_
          · exact hj97_1031 t14.1 t14.2.1 t14.2.2
          · refine jq_aload_n Γ dX8_countClasses_84 rfl 0 rfl (jq_at_0 at_X_52) ?_
            refine jq_aload_n Γ dX8_countClasses_85 rfl 1 rfl (jq_at_0 (at_com hp1)) ?_
            refine jq_iload Γ dX8_countClasses_86 4 rfl ?_
            refine jq_cwZ (jq_virt (avs := [jR p1, jI t14.2.1]) (st := []) Γ hlY rfl ml_RX8_101 rfl at_X_52 rfl rfl rfl rfl rfl dX8_countClasses_88) rfl (fun r σ' h => ctX8_isLikeAnEarlierGood hp1 h) (fun v22 s23 hz24 => ?_)
            refine jq_if_ne (tgt := 97) Γ dX8_countClasses_91 rfl ?_ ?_
            · exact hj97_1031 t14.1 t14.2.1 s23
            · refine jq_iincN (L' := fun v25 => [(3, jI v25), (0, jR 52), (1, jR p1), (2, jI j10), (4, jI t14.2.1)]) Γ dX8_countClasses_94 3 rfl hnl rfl (fun _ => rfl) (fun v25 => ?_)
              refine jq_sub Γ (L' := [(0, jR 52), (1, jR p1), (2, jI j10), (3, jI v25), (4, jI t14.2.1)]) [1, 2, 3, 0, 4] rfl ?_
              exact hj97_1031 v25 t14.2.1 s23
    · intro e26
      refine jq_iload_n Γ dX8_countClasses_108 rfl 0 rfl ?_
      exact jq_ireturn Γ dX8_countClasses_109 (hK0 _)
  refine jq_aload_n Γ dX8_countClasses_0 rfl 0 rfl (jq_at_0 at_X_52) ?_
  refine jq_aload_n Γ dX8_countClasses_1 rfl 1 rfl (jq_at_0 (at_com hp1)) ?_
  refine jq_cwI (jq_virt (avs := [jR p1]) (st := []) Γ hlY rfl ml_RX8_49 rfl at_X_52 rfl rfl rfl rfl rfl dX8_countClasses_2) (fun r σ' h => ctX8_begin hp1 h) (fun v1 s2 => ?_)
  refine jq_istore_n (L' := [(2, jI v1), (0, jR 52), (1, jR p1)]) Γ dX8_countClasses_5 rfl hnl rfl rfl ?_
  refine jq_iconst Γ dX8_countClasses_6 rfl ?_
  refine jq_istore_n (L' := [(3, jI 0), (2, jI v1), (0, jR 52), (1, jR p1)]) Γ dX8_countClasses_7 rfl hnl rfl rfl ?_
  refine jq_sub Γ (L' := [(0, jR 52), (1, jR p1), (2, jI v1), (3, jI 0)]) [2, 3, 1, 0] rfl ?_
  refine jq_loop2 (C := fun (t3 : Int × jq_M) => jq_V jq_zX X (jq_zN jq_zX) t3.2 8 [(0, jR 52), (1, jR p1), (2, jI v1), (3, jI t3.1)] []) (KX := fun (e9 : jq_M) => jq_V jq_zX X (jq_zN jq_zX) e9 45 [(0, jR 52), (1, jR p1), (2, jI v1)] []) ?_ ?_ (0, s2)
  · intro K8_t3 hCt3 hXt3 t3
    unfold X8_countClasses_b8
    refine jq_iload_n Γ dX8_countClasses_8 rfl 3 rfl ?_
    refine jq_iload_n Γ dX8_countClasses_9 rfl 2 rfl ?_
    refine jq_icmp_ge (tgt := 45) Γ dX8_countClasses_10 rfl ?_ ?_
    · refine jq_sub Γ (L' := [(0, jR 52), (1, jR p1), (2, jI v1)]) [0, 1, 2] rfl ?_
      exact jq_done (hXt3 t3.2)
    · refine jq_iload_n Γ dX8_countClasses_13 rfl 3 rfl ?_
      refine jq_sipush Γ dX8_countClasses_14 rfl ?_
      refine jq_icmp_ge (tgt := 45) Γ dX8_countClasses_17 rfl ?_ ?_
      · refine jq_sub Γ (L' := [(0, jR 52), (1, jR p1), (2, jI v1)]) [0, 1, 2] rfl ?_
        exact jq_done (hXt3 t3.2)
      · refine jq_aload_n Γ dX8_countClasses_20 rfl 0 rfl (jq_at_0 at_X_52) ?_
        refine jq_getR (v := 56) Γ hlY at_X_52 fl_RX8_21 rfl rfl ly_X8_signers dX8_countClasses_21 ?_
        refine jq_iload_n Γ dX8_countClasses_24 rfl 3 rfl ?_
        refine jq_aload_n Γ dX8_countClasses_25 rfl 1 rfl (jq_at_0 (at_com hp1)) ?_
        refine jq_aload_n Γ dX8_countClasses_26 rfl 0 rfl (jq_at_0 at_X_52) ?_
        refine jq_getR (v := 53) Γ hlY at_X_52 fl_RX8_9 rfl rfl ly_X8_row dX8_countClasses_27 ?_
        refine jq_cwI (jq_virt (avs := [jR 53]) (st := [jI t3.1, jR 56]) Γ hlY rfl ml_RX8_52 rfl (at_com hp1) rfl rfl rfl rfl rfl dX8_countClasses_30) (fun r σ' h => ctX1_signersOf hp1 row_53 h) (fun v4 s5 => ?_)
        refine jq_iast Γ at_X_56 rfl dX8_countClasses_33 (fun s6 => ?_)
        refine jq_aload_n Γ dX8_countClasses_34 rfl 0 rfl (jq_at_0 at_X_52) ?_
        refine jq_aload_n Γ dX8_countClasses_35 rfl 1 rfl (jq_at_0 (at_com hp1)) ?_
        refine jq_cwV (jq_virt (avs := [jR p1]) (st := []) Γ hlY rfl ml_RX8_60 rfl at_X_52 rfl rfl rfl rfl rfl dX8_countClasses_36) (fun σ' h => ctX8_goOn hp1 h) (fun s7 => ?_)
        refine jq_iincN (L' := fun v8 => [(3, jI v8), (0, jR 52), (1, jR p1), (2, jI v1)]) Γ dX8_countClasses_39 3 rfl hnl rfl (fun _ => rfl) (fun v8 => ?_)
        refine jq_goto Γ (tgt := 8) dX8_countClasses_42 rfl ?_
        refine jq_sub Γ (L' := [(0, jR 52), (1, jR p1), (2, jI v1), (3, jI v8)]) [1, 2, 3, 0] rfl ?_
        exact jq_done (hCt3 (v8, s7))
  · intro e9
    exact hj45_0 v1 e9


theorem dX10_classes_0 : decode cX10_classes 0 = .ok (.aload_n 0, 1) := by decide +kernel
theorem dX10_classes_1 : decode cX10_classes 1 = .ok (.aload_n 0, 1) := by decide +kernel
theorem dX10_classes_2 : decode cX10_classes 2 = .ok (.getfield 46, 3) := by decide +kernel
theorem dX10_classes_5 : decode cX10_classes 5 = .ok (.aload_n 0, 1) := by decide +kernel
theorem dX10_classes_6 : decode cX10_classes 6 = .ok (.getfield 25, 3) := by decide +kernel
theorem dX10_classes_9 : decode cX10_classes 9 = .ok (.invokevirtual 324, 3) := by decide +kernel
theorem dX10_classes_12 : decode cX10_classes 12 = .ok (.invokevirtual 161, 3) := by decide +kernel
theorem dX10_classes_15 : decode cX10_classes 15 = .ok (.ireturn, 1) := by decide +kernel
set_option maxHeartbeats 4000000 in
set_option maxRecDepth 100000 in
theorem ctX10_classes  {σ : jq_M} {res : Int} {σ' : jq_M}  (h : X10_classes σ = some (res, σ')) : jq_MC jq_zX yX10_classes cX10_classes 1 (some .int) 6 157 [jR 0] σ (some (jI res)) σ' := by
  refine jq_met (own := RX10) (L0 := [(0, jR 0)]) (by decide) rfl rfl rfl ?_
  intro X Γ hnl hlY hRT
  refine jq_use2 (P := fun r => jq_RT jq_zX X (some .int) (some (jI r.1)) r.2) ?_ h hRT
  intro K0 hK0
  unfold X10_classes
  refine jq_aload_n Γ dX10_classes_0 rfl 0 rfl (jq_at_0 at_X_0) ?_
  refine jq_aload_n Γ dX10_classes_1 rfl 0 rfl (jq_at_0 at_X_0) ?_
  refine jq_getR (v := 52) Γ hlY at_X_0 fl_RX10_46 rfl rfl ly_X10_survey dX10_classes_2 ?_
  refine jq_aload_n Γ dX10_classes_5 rfl 0 rfl (jq_at_0 at_X_0) ?_
  refine jq_getC (C := jq_cm2) Γ hlY at_X_0 fl_RX10_25 rfl rfl ly_now dX10_classes_6 (fun c1 hc2q => ?_)
  have hc2 := jq_cm2_com hc2q
  refine jq_cwI (jq_virt (avs := [jR c1]) (st := [jR 0]) Γ hlY rfl ml_RX10_324 rfl at_X_52 rfl rfl rfl rfl rfl dX10_classes_9) (fun r σ' h => ctX8_countClasses hc2 h) (fun v3 s4 => ?_)
  refine jq_cwI (jq_virt (avs := [jI v3]) (st := []) Γ hlY rfl ml_RX10_161 rfl at_X_0 rfl rfl rfl rfl rfl dX10_classes_12) (fun r σ' h => ctX10_answer h) (fun v5 s6 => ?_)
  exact jq_ireturn Γ dX10_classes_15 (hK0 _)


theorem dX8_findGood_0 : decode cX8_findGood 0 = .ok (.aload_n 0, 1) := by decide +kernel
theorem dX8_findGood_1 : decode cX8_findGood 1 = .ok (.aload_n 1, 1) := by decide +kernel
theorem dX8_findGood_2 : decode cX8_findGood 2 = .ok (.invokevirtual 49, 3) := by decide +kernel
theorem dX8_findGood_5 : decode cX8_findGood 5 = .ok (.istore_n 2, 1) := by decide +kernel
theorem dX8_findGood_6 : decode cX8_findGood 6 = .ok (.iconst 0, 1) := by decide +kernel
theorem dX8_findGood_7 : decode cX8_findGood 7 = .ok (.istore_n 3, 1) := by decide +kernel
theorem dX8_findGood_8 : decode cX8_findGood 8 = .ok (.iload_n 3, 1) := by decide +kernel
theorem dX8_findGood_9 : decode cX8_findGood 9 = .ok (.iload_n 2, 1) := by decide +kernel
theorem dX8_findGood_10 : decode cX8_findGood 10 = .ok (.if_icmp .ge 31, 3) := by decide +kernel
theorem dX8_findGood_13 : decode cX8_findGood 13 = .ok (.aload_n 1, 1) := by decide +kernel
theorem dX8_findGood_14 : decode cX8_findGood 14 = .ok (.aload_n 0, 1) := by decide +kernel
theorem dX8_findGood_15 : decode cX8_findGood 15 = .ok (.getfield 9, 3) := by decide +kernel
theorem dX8_findGood_18 : decode cX8_findGood 18 = .ok (.invokevirtual 52, 3) := by decide +kernel
theorem dX8_findGood_21 : decode cX8_findGood 21 = .ok (.aload_n 1, 1) := by decide +kernel
theorem dX8_findGood_22 : decode cX8_findGood 22 = .ok (.invokevirtual 56, 3) := by decide +kernel
theorem dX8_findGood_25 : decode cX8_findGood 25 = .ok (.if_icmp .ne 5, 3) := by decide +kernel
theorem dX8_findGood_28 : decode cX8_findGood 28 = .ok (.iconst 1, 1) := by decide +kernel
theorem dX8_findGood_29 : decode cX8_findGood 29 = .ok (.ireturn, 1) := by decide +kernel
theorem dX8_findGood_30 : decode cX8_findGood 30 = .ok (.aload_n 0, 1) := by decide +kernel
theorem dX8_findGood_31 : decode cX8_findGood 31 = .ok (.aload_n 1, 1) := by decide +kernel
theorem dX8_findGood_32 : decode cX8_findGood 32 = .ok (.invokevirtual 60, 3) := by decide +kernel
theorem dX8_findGood_35 : decode cX8_findGood 35 = .ok (.iinc 3 1, 3) := by decide +kernel
theorem dX8_findGood_38 : decode cX8_findGood 38 = .ok (.goto (-30), 3) := by decide +kernel
theorem dX8_findGood_41 : decode cX8_findGood 41 = .ok (.iconst 0, 1) := by decide +kernel
theorem dX8_findGood_42 : decode cX8_findGood 42 = .ok (.ireturn, 1) := by decide +kernel
set_option maxHeartbeats 4000000 in
set_option maxRecDepth 100000 in
theorem ctX8_findGood {p1 : Int} {σ : jq_M} {res : Int} {σ' : jq_M} (hp1 : jq_com p1) (h : X8_findGood p1 σ = some (res, σ')) : jq_MC jq_zX yX8_findGood cX8_findGood 4 (some .boolean) 5 132 [jR 52, jR p1] σ (some (jI res)) σ' := by
  refine jq_met (own := RX8) (L0 := [(0, jR 52), (1, jR p1)]) (by decide) rfl rfl rfl ?_
  intro X Γ hnl hlY hRT
  refine jq_use2 (P := fun r => jq_RT jq_zX X (some .boolean) (some (jI r.1)) r.2) ?_ h hRT
  intro K0 hK0
  unfold X8_findGood
  refine jq_aload_n Γ dX8_findGood_0 rfl 0 rfl (jq_at_0 at_X_52) ?_
  refine jq_aload_n Γ dX8_findGood_1 rfl 1 rfl (jq_at_0 (at_com hp1)) ?_
  refine jq_cwI (jq_virt (avs := [jR p1]) (st := []) Γ hlY rfl ml_RX8_49 rfl at_X_52 rfl rfl rfl rfl rfl dX8_findGood_2) (fun r σ' h => ctX8_begin hp1 h) (fun v1 s2 => ?_)
  refine jq_istore_n (L' := [(2, jI v1), (0, jR 52), (1, jR p1)]) Γ dX8_findGood_5 rfl hnl rfl rfl ?_
  refine jq_iconst Γ dX8_findGood_6 rfl ?_
  refine jq_istore_n (L' := [(3, jI 0), (2, jI v1), (0, jR 52), (1, jR p1)]) Γ dX8_findGood_7 rfl hnl rfl rfl ?_
  refine jq_sub Γ (L' := [(0, jR 52), (1, jR p1), (2, jI v1), (3, jI 0)]) [2, 3, 1, 0] rfl ?_
  refine jq_loop2 (C := fun (t3 : Int × jq_M) => jq_V jq_zX X (jq_zN jq_zX) t3.2 8 [(0, jR 52), (1, jR p1), (2, jI v1), (3, jI t3.1)] []) (KX := Sum.elim (fun (e9 : jq_M) => jq_V jq_zX X (jq_zN jq_zX) e9 28 [] []) (fun (e10 : jq_M) => jq_V jq_zX X (jq_zN jq_zX) e10 41 [] [])) ?_ ?_ (0, s2)
  · intro K8_t3 hCt3 hXt3 t3
    unfold X8_findGood_b8
    refine jq_iload_n Γ dX8_findGood_8 rfl 3 rfl ?_
    refine jq_iload_n Γ dX8_findGood_9 rfl 2 rfl ?_
    refine jq_icmp_ge (tgt := 41) Γ dX8_findGood_10 rfl ?_ ?_
    · refine jq_sub Γ (L' := []) [] rfl ?_
      exact jq_done (hXt3 (.inr t3.2))
    · refine jq_aload_n Γ dX8_findGood_13 rfl 1 rfl (jq_at_0 (at_com hp1)) ?_
      refine jq_aload_n Γ dX8_findGood_14 rfl 0 rfl (jq_at_0 at_X_52) ?_
      refine jq_getR (v := 53) Γ hlY at_X_52 fl_RX8_9 rfl rfl ly_X8_row dX8_findGood_15 ?_
      refine jq_cwI (jq_virt (avs := [jR 53]) (st := []) Γ hlY rfl ml_RX8_52 rfl (at_com hp1) rfl rfl rfl rfl rfl dX8_findGood_18) (fun r σ' h => ctX1_signersOf hp1 row_53 h) (fun v4 s5 => ?_)
      refine jq_aload_n Γ dX8_findGood_21 rfl 1 rfl (jq_at_0 (at_com hp1)) ?_
      refine jq_cpI (jq_virt (avs := []) (st := [jI v4]) Γ hlY rfl ml_RX8_56 rfl (at_com hp1) rfl rfl rfl rfl rfl dX8_findGood_22) (fun r h => ctX1_allParties hp1 h) (fun v6 => ?_)
      refine jq_icmp_ne (tgt := 30) Γ dX8_findGood_25 rfl ?_ ?_
      · refine jq_aload_n Γ dX8_findGood_30 rfl 0 rfl (jq_at_0 at_X_52) ?_
        refine jq_aload_n Γ dX8_findGood_31 rfl 1 rfl (jq_at_0 (at_com hp1)) ?_
        refine jq_cwV (jq_virt (avs := [jR p1]) (st := []) Γ hlY rfl ml_RX8_60 rfl at_X_52 rfl rfl rfl rfl rfl dX8_findGood_32) (fun σ' h => ctX8_goOn hp1 h) (fun s7 => ?_)
        refine jq_iincN (L' := fun v8 => [(3, jI v8), (0, jR 52), (1, jR p1), (2, jI v1)]) Γ dX8_findGood_35 3 rfl hnl rfl (fun _ => rfl) (fun v8 => ?_)
        refine jq_goto Γ (tgt := 8) dX8_findGood_38 rfl ?_
        refine jq_sub Γ (L' := [(0, jR 52), (1, jR p1), (2, jI v1), (3, jI v8)]) [1, 2, 3, 0] rfl ?_
        exact jq_done (hCt3 (v8, s7))
      · refine jq_sub Γ (L' := []) [] rfl ?_
        exact jq_done (hXt3 (.inl s5))
  · refine jq_elim ?_ ?_
    · intro e9
      refine jq_iconst Γ dX8_findGood_28 rfl ?_
      exact jq_zreturn Γ (Or.inr rfl) dX8_findGood_29 (hK0 _)
    · intro e10
      refine jq_iconst Γ dX8_findGood_41 rfl ?_
      exact jq_zreturn Γ (Or.inl rfl) dX8_findGood_42 (hK0 _)


theorem dX10_goodAt_0 : decode cX10_goodAt 0 = .ok (.aload_n 0, 1) := by decide +kernel
theorem dX10_goodAt_1 : decode cX10_goodAt 1 = .ok (.getfield 25, 3) := by decide +kernel
theorem dX10_goodAt_4 : decode cX10_goodAt 4 = .ok (.iload_n 1, 1) := by decide +kernel
theorem dX10_goodAt_5 : decode cX10_goodAt 5 = .ok (.invokevirtual 221, 3) := by decide +kernel
theorem dX10_goodAt_8 : decode cX10_goodAt 8 = .ok (.ifCond .ne 9, 3) := by decide +kernel
theorem dX10_goodAt_11 : decode cX10_goodAt 11 = .ok (.aload_n 0, 1) := by decide +kernel
theorem dX10_goodAt_12 : decode cX10_goodAt 12 = .ok (.iconst 1, 1) := by decide +kernel
theorem dX10_goodAt_13 : decode cX10_goodAt 13 = .ok (.invokevirtual 120, 3) := by decide +kernel
theorem dX10_goodAt_16 : decode cX10_goodAt 16 = .ok (.ireturn, 1) := by decide +kernel
theorem dX10_goodAt_17 : decode cX10_goodAt 17 = .ok (.aload_n 0, 1) := by decide +kernel
theorem dX10_goodAt_18 : decode cX10_goodAt 18 = .ok (.getfield 46, 3) := by decide +kernel
theorem dX10_goodAt_21 : decode cX10_goodAt 21 = .ok (.aload_n 0, 1) := by decide +kernel
theorem dX10_goodAt_22 : decode cX10_goodAt 22 = .ok (.getfield 25, 3) := by decide +kernel
theorem dX10_goodAt_25 : decode cX10_goodAt 25 = .ok (.invokevirtual 327, 3) := by decide +kernel
theorem dX10_goodAt_28 : decode cX10_goodAt 28 = .ok (.ifCond .ne 10, 3) := by decide +kernel
theorem dX10_goodAt_31 : decode cX10_goodAt 31 = .ok (.aload_n 0, 1) := by decide +kernel
theorem dX10_goodAt_32 : decode cX10_goodAt 32 = .ok (.bipush 6, 2) := by decide +kernel
theorem dX10_goodAt_34 : decode cX10_goodAt 34 = .ok (.invokevirtual 120, 3) := by decide +kernel
theorem dX10_goodAt_37 : decode cX10_goodAt 37 = .ok (.ireturn, 1) := by decide +kernel
theorem dX10_goodAt_38 : decode cX10_goodAt 38 = .ok (.aload_n 0, 1) := by decide +kernel
theorem dX10_goodAt_39 : decode cX10_goodAt 39 = .ok (.aload_n 0, 1) := by decide +kernel
theorem dX10_goodAt_40 : decode cX10_goodAt 40 = .ok (.getfield 46, 3) := by decide +kernel
theorem dX10_goodAt_43 : decode cX10_goodAt 43 = .ok (.getfield 331, 3) := by decide +kernel
theorem dX10_goodAt_46 : decode cX10_goodAt 46 = .ok (.iload_n 1, 1) := by decide +kernel
theorem dX10_goodAt_47 : decode cX10_goodAt 47 = .ok (.iaload, 1) := by decide +kernel
theorem dX10_goodAt_48 : decode cX10_goodAt 48 = .ok (.invokevirtual 161, 3) := by decide +kernel
theorem dX10_goodAt_51 : decode cX10_goodAt 51 = .ok (.ireturn, 1) := by decide +kernel
set_option maxHeartbeats 4000000 in
set_option maxRecDepth 100000 in
theorem ctX10_goodAt {p1 : Int} {σ : jq_M} {res : Int} {σ' : jq_M}  (h : X10_goodAt p1 σ = some (res, σ')) : jq_MC jq_zX yX10_goodAt cX10_goodAt 2 (some .int) 6 155 [jR 0, jI p1] σ (some (jI res)) σ' := by
  refine jq_met (own := RX10) (L0 := [(0, jR 0), (1, jI p1)]) (by decide) rfl rfl rfl ?_
  intro X Γ hnl hlY hRT
  refine jq_use2 (P := fun r => jq_RT jq_zX X (some .int) (some (jI r.1)) r.2) ?_ h hRT
  intro K0 hK0
  unfold X10_goodAt
  refine jq_aload_n Γ dX10_goodAt_0 rfl 0 rfl (jq_at_0 at_X_0) ?_
  refine jq_getC (C := jq_cm2) Γ hlY at_X_0 fl_RX10_25 rfl rfl ly_now dX10_goodAt_1 (fun c1 hc2q => ?_)
  have hc2 := jq_cm2_com hc2q
  refine jq_iload_n Γ dX10_goodAt_4 rfl 1 rfl ?_
  refine jq_cpZ (jq_virt (avs := [jI p1]) (st := []) Γ hlY rfl ml_RX10_221 rfl (at_com hc2) rfl rfl rfl rfl rfl dX10_goodAt_5) rfl (fun r h => ctX1_isParty hc2 h) (fun v3 hz4 => ?_)
  refine jq_if_ne (tgt := 17) Γ dX10_goodAt_8 rfl ?_ ?_
  · refine jq_aload_n Γ dX10_goodAt_17 rfl 0 rfl (jq_at_0 at_X_0) ?_
    refine jq_getR (v := 52) Γ hlY at_X_0 fl_RX10_46 rfl rfl ly_X10_survey dX10_goodAt_18 ?_
    refine jq_aload_n Γ dX10_goodAt_21 rfl 0 rfl (jq_at_0 at_X_0) ?_
    refine jq_getC (C := jq_cm2) Γ hlY at_X_0 fl_RX10_25 rfl rfl ly_now dX10_goodAt_22 (fun c5 hc6q => ?_)
    have hc6 := jq_cm2_com hc6q
    refine jq_cwZ (jq_virt (avs := [jR c5]) (st := []) Γ hlY rfl ml_RX10_327 rfl at_X_52 rfl rfl rfl rfl rfl dX10_goodAt_25) rfl (fun r σ' h => ctX8_findGood hc6 h) (fun v7 s8 hz9 => ?_)
    refine jq_if_ne (tgt := 38) Γ dX10_goodAt_28 rfl ?_ ?_
    · refine jq_aload_n Γ dX10_goodAt_38 rfl 0 rfl (jq_at_0 at_X_0) ?_
      refine jq_aload_n Γ dX10_goodAt_39 rfl 0 rfl (jq_at_0 at_X_0) ?_
      refine jq_getR (v := 52) Γ hlY at_X_0 fl_RX10_46 rfl rfl ly_X10_survey dX10_goodAt_40 ?_
      refine jq_getR (v := 53) Γ hlY at_X_52 fl_RX10_331 rfl rfl ly_X8_row dX10_goodAt_43 ?_
      refine jq_iload_n Γ dX10_goodAt_46 rfl 1 rfl ?_
      refine jq_iald Γ at_X_53 rfl dX10_goodAt_47 (fun v10 => ?_)
      refine jq_cwI (jq_virt (avs := [jI v10]) (st := []) Γ hlY rfl ml_RX10_161 rfl at_X_0 rfl rfl rfl rfl rfl dX10_goodAt_48) (fun r σ' h => ctX10_answer h) (fun v11 s12 => ?_)
      exact jq_ireturn Γ dX10_goodAt_51 (hK0 _)
    · refine jq_aload_n Γ dX10_goodAt_31 rfl 0 rfl (jq_at_0 at_X_0) ?_
      refine jq_bipush Γ dX10_goodAt_32 rfl ?_
      refine jq_cwI (jq_virt (avs := [jI 6]) (st := []) Γ hlY rfl ml_RX10_120 rfl at_X_0 rfl rfl rfl rfl rfl dX10_goodAt_34) (fun r σ' h => ctX10_refuse h) (fun v13 s14 => ?_)
      exact jq_ireturn Γ dX10_goodAt_37 (hK0 _)
  · refine jq_aload_n Γ dX10_goodAt_11 rfl 0 rfl (jq_at_0 at_X_0) ?_
    refine jq_iconst Γ dX10_goodAt_12 rfl ?_
    refine jq_cwI (jq_virt (avs := [jI 1]) (st := []) Γ hlY rfl ml_RX10_120 rfl at_X_0 rfl rfl rfl rfl rfl dX10_goodAt_13) (fun r σ' h => ctX10_refuse h) (fun v15 s16 => ?_)
    exact jq_ireturn Γ dX10_goodAt_16 (hK0 _)


theorem dX8_findBest_0 : decode cX8_findBest 0 = .ok (.aload_n 0, 1) := by decide +kernel
theorem dX8_findBest_1 : decode cX8_findBest 1 = .ok (.aload_n 1, 1) := by decide +kernel
theorem dX8_findBest_2 : decode cX8_findBest 2 = .ok (.invokevirtual 49, 3) := by decide +kernel
theorem dX8_findBest_5 : decode cX8_findBest 5 = .ok (.istore_n 2, 1) := by decide +kernel
theorem dX8_findBest_6 : decode cX8_findBest 6 = .ok (.iconst 0, 1) := by decide +kernel
theorem dX8_findBest_7 : decode cX8_findBest 7 = .ok (.istore_n 3, 1) := by decide +kernel
theorem dX8_findBest_8 : decode cX8_findBest 8 = .ok (.iconst 0, 1) := by decide +kernel
theorem dX8_findBest_9 : decode cX8_findBest 9 = .ok (.istore 4, 2) := by decide +kernel
theorem dX8_findBest_11 : decode cX8_findBest 11 = .ok (.iload 4, 2) := by decide +kernel
theorem dX8_findBest_13 : decode cX8_findBest 13 = .ok (.iload_n 2, 1) := by decide +kernel
theorem dX8_findBest_14 : decode cX8_findBest 14 = .ok (.if_icmp .ge 52, 3) := by decide +kernel
theorem dX8_findBest_17 : decode cX8_findBest 17 = .ok (.aload_n 1, 1) := by decide +kernel
theorem dX8_findBest_18 : decode cX8_findBest 18 = .ok (.aload_n 0, 1) := by decide +kernel
theorem dX8_findBest_19 : decode cX8_findBest 19 = .ok (.getfield 9, 3) := by decide +kernel
theorem dX8_findBest_22 : decode cX8_findBest 22 = .ok (.invokevirtual 64, 3) := by decide +kernel
theorem dX8_findBest_25 : decode cX8_findBest 25 = .ok (.istore 5, 2) := by decide +kernel
theorem dX8_findBest_27 : decode cX8_findBest 27 = .ok (.iload 4, 2) := by decide +kernel
theorem dX8_findBest_29 : decode cX8_findBest 29 = .ok (.ifCond .eq 9, 3) := by decide +kernel
theorem dX8_findBest_32 : decode cX8_findBest 32 = .ok (.iload 5, 2) := by decide +kernel
theorem dX8_findBest_34 : decode cX8_findBest 34 = .ok (.iload_n 3, 1) := by decide +kernel
theorem dX8_findBest_35 : decode cX8_findBest 35 = .ok (.if_icmp .le 20, 3) := by decide +kernel
theorem dX8_findBest_38 : decode cX8_findBest 38 = .ok (.iload 5, 2) := by decide +kernel
theorem dX8_findBest_40 : decode cX8_findBest 40 = .ok (.istore_n 3, 1) := by decide +kernel
theorem dX8_findBest_41 : decode cX8_findBest 41 = .ok (.aload_n 0, 1) := by decide +kernel
theorem dX8_findBest_42 : decode cX8_findBest 42 = .ok (.getfield 9, 3) := by decide +kernel
theorem dX8_findBest_45 : decode cX8_findBest 45 = .ok (.iconst 0, 1) := by decide +kernel
theorem dX8_findBest_46 : decode cX8_findBest 46 = .ok (.aload_n 0, 1) := by decide +kernel
theorem dX8_findBest_47 : decode cX8_findBest 47 = .ok (.getfield 15, 3) := by decide +kernel
theorem dX8_findBest_50 : decode cX8_findBest 50 = .ok (.iconst 0, 1) := by decide +kernel
theorem dX8_findBest_51 : decode cX8_findBest 51 = .ok (.iconst 5, 1) := by decide +kernel
theorem dX8_findBest_52 : decode cX8_findBest 52 = .ok (.invokestatic 67, 3) := by decide +kernel
theorem dX8_findBest_55 : decode cX8_findBest 55 = .ok (.aload_n 0, 1) := by decide +kernel
theorem dX8_findBest_56 : decode cX8_findBest 56 = .ok (.aload_n 1, 1) := by decide +kernel
theorem dX8_findBest_57 : decode cX8_findBest 57 = .ok (.invokevirtual 60, 3) := by decide +kernel
theorem dX8_findBest_60 : decode cX8_findBest 60 = .ok (.iinc 4 1, 3) := by decide +kernel
theorem dX8_findBest_63 : decode cX8_findBest 63 = .ok (.goto (-52), 3) := by decide +kernel
theorem dX8_findBest_66 : decode cX8_findBest 66 = .ok (.iload_n 3, 1) := by decide +kernel
theorem dX8_findBest_67 : decode cX8_findBest 67 = .ok (.ireturn, 1) := by decide +kernel
set_option maxHeartbeats 4000000 in
set_option maxRecDepth 100000 in
theorem ctX8_findBest {p1 : Int} {σ : jq_M} {res : Int} {σ' : jq_M} (hp1 : jq_com p1) (h : X8_findBest p1 σ = some (res, σ')) : jq_MC jq_zX yX8_findBest cX8_findBest 6 (some .int) 5 132 [jR 52, jR p1] σ (some (jI res)) σ' := by
  refine jq_met (own := RX8) (L0 := [(0, jR 52), (1, jR p1)]) (by decide) rfl rfl rfl ?_
  intro X Γ hnl hlY hRT
  refine jq_use2 (P := fun r => jq_RT jq_zX X (some .int) (some (jI r.1)) r.2) ?_ h hRT
  intro K0 hK0
  unfold X8_findBest
  refine jq_aload_n Γ dX8_findBest_0 rfl 0 rfl (jq_at_0 at_X_52) ?_
  refine jq_aload_n Γ dX8_findBest_1 rfl 1 rfl (jq_at_0 (at_com hp1)) ?_
  refine jq_cwI (jq_virt (avs := [jR p1]) (st := []) Γ hlY rfl ml_RX8_49 rfl at_X_52 rfl rfl rfl rfl rfl dX8_findBest_2) (fun r σ' h => ctX8_begin hp1 h) (fun v1 s2 => ?_)
  refine jq_istore_n (L' := [(2, jI v1), (0, jR 52), (1, jR p1)]) Γ dX8_findBest_5 rfl hnl rfl rfl ?_
  refine jq_iconst Γ dX8_findBest_6 rfl ?_
  refine jq_istore_n (L' := [(3, jI 0), (2, jI v1), (0, jR 52), (1, jR p1)]) Γ dX8_findBest_7 rfl hnl rfl rfl ?_
  refine jq_iconst Γ dX8_findBest_8 rfl ?_
  refine jq_istore (L' := [(4, jI 0), (3, jI 0), (2, jI v1), (0, jR 52), (1, jR p1)]) Γ dX8_findBest_9 hnl rfl rfl ?_
  refine jq_sub Γ (L' := [(0, jR 52), (1, jR p1), (2, jI v1), (3, jI 0), (4, jI 0)]) [3, 4, 2, 1, 0] rfl ?_
  refine jq_loop2 (C := fun (t3 : Int × Int × jq_M) => jq_V jq_zX X (jq_zN jq_zX) t3.2.2 11 [(0, jR 52), (1, jR p1), (2, jI v1), (3, jI t3.1), (4, jI t3.2.1)] []) (KX := fun (e14 : Int × jq_M) => jq_V jq_zX X (jq_zN jq_zX) e14.2 66 [(3, jI e14.1)] []) ?_ ?_ (0, 0, s2)
  · intro K11_t3 hCt3 hXt3 t3
    unfold X8_findBest_b11
    have hj55_1009 : ∀ (j9 : Int) (j10 : Int) (s11 : jq_M), jq_J (X8_findBest_j55 p1 v1 j9 j10 s11) K11_t3 (jq_V jq_zX X (jq_zN jq_zX) s11 55 [(0, jR 52), (1, jR p1), (2, jI v1), (3, jI j9), (4, jI j10)] []) := by
      intro j9 j10 s11
      unfold X8_findBest_j55
      refine jq_aload_n Γ dX8_findBest_55 rfl 0 rfl (jq_at_0 at_X_52) ?_
      refine jq_aload_n Γ dX8_findBest_56 rfl 1 rfl (jq_at_0 (at_com hp1)) ?_
      refine jq_cwV (jq_virt (avs := [jR p1]) (st := []) Γ hlY rfl ml_RX8_60 rfl at_X_52 rfl rfl rfl rfl rfl dX8_findBest_57) (fun σ' h => ctX8_goOn hp1 h) (fun s12 => ?_)
      refine jq_iincN (L' := fun v13 => [(4, jI v13), (0, jR 52), (1, jR p1), (2, jI v1), (3, jI j9)]) Γ dX8_findBest_60 4 rfl hnl rfl (fun _ => rfl) (fun v13 => ?_)
      refine jq_goto Γ (tgt := 11) dX8_findBest_63 rfl ?_
      refine jq_sub Γ (L' := [(0, jR 52), (1, jR p1), (2, jI v1), (3, jI j9), (4, jI v13)]) [1, 2, 3, 4, 0] rfl ?_
      exact jq_done (hCt3 (j9, v13, s12))
    have hj38_1009 : ∀ (j5 : Int) (j6 : Int) (s7 : jq_M), jq_J (X8_findBest_j38 p1 v1 j5 j6 s7) K11_t3 (jq_V jq_zX X (jq_zN jq_zX) s7 38 [(0, jR 52), (1, jR p1), (2, jI v1), (4, jI j5), (5, jI j6)] []) := by
      intro j5 j6 s7
      unfold X8_findBest_j38
      refine jq_iload Γ dX8_findBest_38 4 rfl ?_
      refine jq_istore_n (L' := [(3, jI j6), (0, jR 52), (1, jR p1), (2, jI v1), (4, jI j5), (5, jI j6)]) Γ dX8_findBest_40 rfl hnl rfl rfl ?_
      refine jq_aload_n Γ dX8_findBest_41 rfl 1 rfl (jq_at_0 at_X_52) ?_
      refine jq_getR (v := 53) Γ hlY at_X_52 fl_RX8_9 rfl rfl ly_X8_row dX8_findBest_42 ?_
      refine jq_iconst Γ dX8_findBest_45 rfl ?_
      refine jq_aload_n Γ dX8_findBest_46 rfl 1 rfl (jq_at_0 at_X_52) ?_
      refine jq_getR (v := 54) Γ hlY at_X_52 fl_RX8_15 rfl rfl ly_X8_chosen dX8_findBest_47 ?_
      refine jq_iconst Γ dX8_findBest_50 rfl ?_
      refine jq_iconst Γ dX8_findBest_51 rfl ?_
      refine jq_copyi Γ at_X_53 at_X_54 rfl rfl rfl aw_RX8_67 awn aws awi rfl rfl dX8_findBest_52 (fun s8 => ?_)
      refine jq_sub Γ (L' := [(0, jR 52), (1, jR p1), (2, jI v1), (3, jI j6), (4, jI j5)]) [1, 2, 3, 0, 4] rfl ?_
      exact hj55_1009 j6 j5 s8
    refine jq_iload Γ dX8_findBest_11 4 rfl ?_
    refine jq_iload_n Γ dX8_findBest_13 rfl 2 rfl ?_
    refine jq_icmp_ge (tgt := 66) Γ dX8_findBest_14 rfl ?_ ?_
    · refine jq_sub Γ (L' := [(3, jI t3.1)]) [3] rfl ?_
      exact jq_done (hXt3 (t3.1, t3.2.2))
    · refine jq_aload_n Γ dX8_findBest_17 rfl 1 rfl (jq_at_0 (at_com hp1)) ?_
      refine jq_aload_n Γ dX8_findBest_18 rfl 0 rfl (jq_at_0 at_X_52) ?_
      refine jq_getR (v := 53) Γ hlY at_X_52 fl_RX8_9 rfl rfl ly_X8_row dX8_findBest_19 ?_
      refine jq_cpI (jq_virt (avs := [jR 53]) (st := []) Γ hlY rfl ml_RX8_64 rfl (at_com hp1) rfl rfl rfl rfl rfl dX8_findBest_22) (fun r h => ctX1_worthOfAll hp1 row_53 h) (fun v4 => ?_)
      refine jq_istore (L' := [(5, jI v4), (0, jR 52), (1, jR p1), (2, jI v1), (3, jI t3.1), (4, jI t3.2.1)]) Γ dX8_findBest_25 hnl rfl rfl ?_
      refine jq_iload Γ dX8_findBest_27 5 rfl ?_
      refine jq_if_eq (tgt := 38) Γ dX8_findBest_29 rfl ?_ ?_
      · refine jq_sub Γ (L' := [(0, jR 52), (1, jR p1), (2, jI v1), (4, jI t3.2.1), (5, jI v4)]) [1, 2, 3, 5, 0] rfl ?_
        exact hj38_1009 t3.2.1 v4 t3.2.2
      · refine jq_iload Γ dX8_findBest_32 0 rfl ?_
        refine jq_iload_n Γ dX8_findBest_34 rfl 4 rfl ?_
        refine jq_icmp_le (tgt := 55) Γ dX8_findBest_35 rfl ?_ ?_
        · refine jq_sub Γ (L' := [(0, jR 52), (1, jR p1), (2, jI v1), (3, jI t3.1), (4, jI t3.2.1)]) [1, 2, 3, 4, 5] rfl ?_
          exact hj55_1009 t3.1 t3.2.1 t3.2.2
        · refine jq_sub Γ (L' := [(0, jR 52), (1, jR p1), (2, jI v1), (4, jI t3.2.1), (5, jI v4)]) [1, 2, 3, 5, 0] rfl ?_
          exact hj38_1009 t3.2.1 v4 t3.2.2
  · intro e14
    refine jq_iload_n Γ dX8_findBest_66 rfl 0 rfl ?_
    exact jq_ireturn Γ dX8_findBest_67 (hK0 _)


theorem dX10_best_0 : decode cX10_best 0 = .ok (.aload_n 0, 1) := by decide +kernel
theorem dX10_best_1 : decode cX10_best 1 = .ok (.getfield 25, 3) := by decide +kernel
theorem dX10_best_4 : decode cX10_best 4 = .ok (.getfield 179, 3) := by decide +kernel
theorem dX10_best_7 : decode cX10_best 7 = .ok (.ifCond .ne 10, 3) := by decide +kernel
theorem dX10_best_10 : decode cX10_best 10 = .ok (.aload_n 0, 1) := by decide +kernel
theorem dX10_best_11 : decode cX10_best 11 = .ok (.bipush 6, 2) := by decide +kernel
theorem dX10_best_13 : decode cX10_best 13 = .ok (.invokevirtual 120, 3) := by decide +kernel
theorem dX10_best_16 : decode cX10_best 16 = .ok (.ireturn, 1) := by decide +kernel
theorem dX10_best_17 : decode cX10_best 17 = .ok (.aload_n 0, 1) := by decide +kernel
theorem dX10_best_18 : decode cX10_best 18 = .ok (.aload_n 0, 1) := by decide +kernel
theorem dX10_best_19 : decode cX10_best 19 = .ok (.getfield 46, 3) := by decide +kernel
theorem dX10_best_22 : decode cX10_best 22 = .ok (.aload_n 0, 1) := by decide +kernel
theorem dX10_best_23 : decode cX10_best 23 = .ok (.getfield 25, 3) := by decide +kernel
theorem dX10_best_26 : decode cX10_best 26 = .ok (.invokevirtual 333, 3) := by decide +kernel
theorem dX10_best_29 : decode cX10_best 29 = .ok (.invokevirtual 161, 3) := by decide +kernel
theorem dX10_best_32 : decode cX10_best 32 = .ok (.ireturn, 1) := by decide +kernel
set_option maxHeartbeats 4000000 in
set_option maxRecDepth 100000 in
theorem ctX10_best  {σ : jq_M} {res : Int} {σ' : jq_M}  (h : X10_best σ = some (res, σ')) : jq_MC jq_zX yX10_best cX10_best 1 (some .int) 6 157 [jR 0] σ (some (jI res)) σ' := by
  refine jq_met (own := RX10) (L0 := [(0, jR 0)]) (by decide) rfl rfl rfl ?_
  intro X Γ hnl hlY hRT
  refine jq_use2 (P := fun r => jq_RT jq_zX X (some .int) (some (jI r.1)) r.2) ?_ h hRT
  intro K0 hK0
  unfold X10_best
  refine jq_aload_n Γ dX10_best_0 rfl 0 rfl (jq_at_0 at_X_0) ?_
  refine jq_getC (C := jq_cm2) Γ hlY at_X_0 fl_RX10_25 rfl rfl ly_now dX10_best_1 (fun c1 hc2q => ?_)
  have hc2 := jq_cm2_com hc2q
  refine jq_getI (J := 0) Γ (at_com hc2) fl_RX10_179 rfl rfl dX10_best_4 ?_
  refine jq_if_ne (tgt := 17) Γ dX10_best_7 rfl ?_ ?_
  · refine jq_aload_n Γ dX10_best_17 rfl 0 rfl (jq_at_0 at_X_0) ?_
    refine jq_aload_n Γ dX10_best_18 rfl 0 rfl (jq_at_0 at_X_0) ?_
    refine jq_getR (v := 52) Γ hlY at_X_0 fl_RX10_46 rfl rfl ly_X10_survey dX10_best_19 ?_
    refine jq_aload_n Γ dX10_best_22 rfl 0 rfl (jq_at_0 at_X_0) ?_
    refine jq_getC (C := jq_cm2) Γ hlY at_X_0 fl_RX10_25 rfl rfl ly_now dX10_best_23 (fun c3 hc4q => ?_)
    have hc4 := jq_cm2_com hc4q
    refine jq_cwI (jq_virt (avs := [jR c3]) (st := [jR 0]) Γ hlY rfl ml_RX10_333 rfl at_X_52 rfl rfl rfl rfl rfl dX10_best_26) (fun r σ' h => ctX8_findBest hc4 h) (fun v5 s6 => ?_)
    refine jq_cwI (jq_virt (avs := [jI v5]) (st := []) Γ hlY rfl ml_RX10_161 rfl at_X_0 rfl rfl rfl rfl rfl dX10_best_29) (fun r σ' h => ctX10_answer h) (fun v7 s8 => ?_)
    exact jq_ireturn Γ dX10_best_32 (hK0 _)
  · refine jq_aload_n Γ dX10_best_10 rfl 0 rfl (jq_at_0 at_X_0) ?_
    refine jq_bipush Γ dX10_best_11 rfl ?_
    refine jq_cwI (jq_virt (avs := [jI 6]) (st := []) Γ hlY rfl ml_RX10_120 rfl at_X_0 rfl rfl rfl rfl rfl dX10_best_13) (fun r σ' h => ctX10_refuse h) (fun v9 s10 => ?_)
    exact jq_ireturn Γ dX10_best_16 (hK0 _)


theorem dX10_bestAt_0 : decode cX10_bestAt 0 = .ok (.aload_n 0, 1) := by decide +kernel
theorem dX10_bestAt_1 : decode cX10_bestAt 1 = .ok (.getfield 25, 3) := by decide +kernel
theorem dX10_bestAt_4 : decode cX10_bestAt 4 = .ok (.iload_n 1, 1) := by decide +kernel
theorem dX10_bestAt_5 : decode cX10_bestAt 5 = .ok (.invokevirtual 221, 3) := by decide +kernel
theorem dX10_bestAt_8 : decode cX10_bestAt 8 = .ok (.ifCond .ne 9, 3) := by decide +kernel
theorem dX10_bestAt_11 : decode cX10_bestAt 11 = .ok (.aload_n 0, 1) := by decide +kernel
theorem dX10_bestAt_12 : decode cX10_bestAt 12 = .ok (.iconst 1, 1) := by decide +kernel
theorem dX10_bestAt_13 : decode cX10_bestAt 13 = .ok (.invokevirtual 120, 3) := by decide +kernel
theorem dX10_bestAt_16 : decode cX10_bestAt 16 = .ok (.ireturn, 1) := by decide +kernel
theorem dX10_bestAt_17 : decode cX10_bestAt 17 = .ok (.aload_n 0, 1) := by decide +kernel
theorem dX10_bestAt_18 : decode cX10_bestAt 18 = .ok (.getfield 46, 3) := by decide +kernel
theorem dX10_bestAt_21 : decode cX10_bestAt 21 = .ok (.aload_n 0, 1) := by decide +kernel
theorem dX10_bestAt_22 : decode cX10_bestAt 22 = .ok (.getfield 25, 3) := by decide +kernel
theorem dX10_bestAt_25 : decode cX10_bestAt 25 = .ok (.invokevirtual 333, 3) := by decide +kernel
theorem dX10_bestAt_28 : decode cX10_bestAt 28 = .ok (.pop, 1) := by decide +kernel
theorem dX10_bestAt_29 : decode cX10_bestAt 29 = .ok (.aload_n 0, 1) := by decide +kernel
theorem dX10_bestAt_30 : decode cX10_bestAt 30 = .ok (.aload_n 0, 1) := by decide +kernel
theorem dX10_bestAt_31 : decode cX10_bestAt 31 = .ok (.getfield 46, 3) := by decide +kernel
theorem dX10_bestAt_34 : decode cX10_bestAt 34 = .ok (.getfield 336, 3) := by decide +kernel
theorem dX10_bestAt_37 : decode cX10_bestAt 37 = .ok (.iload_n 1, 1) := by decide +kernel
theorem dX10_bestAt_38 : decode cX10_bestAt 38 = .ok (.iaload, 1) := by decide +kernel
theorem dX10_bestAt_39 : decode cX10_bestAt 39 = .ok (.invokevirtual 161, 3) := by decide +kernel
theorem dX10_bestAt_42 : decode cX10_bestAt 42 = .ok (.ireturn, 1) := by decide +kernel
set_option maxHeartbeats 4000000 in
set_option maxRecDepth 100000 in
theorem ctX10_bestAt {p1 : Int} {σ : jq_M} {res : Int} {σ' : jq_M}  (h : X10_bestAt p1 σ = some (res, σ')) : jq_MC jq_zX yX10_bestAt cX10_bestAt 2 (some .int) 6 157 [jR 0, jI p1] σ (some (jI res)) σ' := by
  refine jq_met (own := RX10) (L0 := [(0, jR 0), (1, jI p1)]) (by decide) rfl rfl rfl ?_
  intro X Γ hnl hlY hRT
  refine jq_use2 (P := fun r => jq_RT jq_zX X (some .int) (some (jI r.1)) r.2) ?_ h hRT
  intro K0 hK0
  unfold X10_bestAt
  refine jq_aload_n Γ dX10_bestAt_0 rfl 0 rfl (jq_at_0 at_X_0) ?_
  refine jq_getC (C := jq_cm2) Γ hlY at_X_0 fl_RX10_25 rfl rfl ly_now dX10_bestAt_1 (fun c1 hc2q => ?_)
  have hc2 := jq_cm2_com hc2q
  refine jq_iload_n Γ dX10_bestAt_4 rfl 1 rfl ?_
  refine jq_cpZ (jq_virt (avs := [jI p1]) (st := []) Γ hlY rfl ml_RX10_221 rfl (at_com hc2) rfl rfl rfl rfl rfl dX10_bestAt_5) rfl (fun r h => ctX1_isParty hc2 h) (fun v3 hz4 => ?_)
  refine jq_if_ne (tgt := 17) Γ dX10_bestAt_8 rfl ?_ ?_
  · refine jq_aload_n Γ dX10_bestAt_17 rfl 0 rfl (jq_at_0 at_X_0) ?_
    refine jq_getR (v := 52) Γ hlY at_X_0 fl_RX10_46 rfl rfl ly_X10_survey dX10_bestAt_18 ?_
    refine jq_aload_n Γ dX10_bestAt_21 rfl 0 rfl (jq_at_0 at_X_0) ?_
    refine jq_getC (C := jq_cm2) Γ hlY at_X_0 fl_RX10_25 rfl rfl ly_now dX10_bestAt_22 (fun c5 hc6q => ?_)
    have hc6 := jq_cm2_com hc6q
    refine jq_cwI (jq_virt (avs := [jR c5]) (st := []) Γ hlY rfl ml_RX10_333 rfl at_X_52 rfl rfl rfl rfl rfl dX10_bestAt_25) (fun r σ' h => ctX8_findBest hc6 h) (fun v7 s8 => ?_)
    refine jq_pop Γ dX10_bestAt_28 rfl ?_
    refine jq_aload_n Γ dX10_bestAt_29 rfl 0 rfl (jq_at_0 at_X_0) ?_
    refine jq_aload_n Γ dX10_bestAt_30 rfl 0 rfl (jq_at_0 at_X_0) ?_
    refine jq_getR (v := 52) Γ hlY at_X_0 fl_RX10_46 rfl rfl ly_X10_survey dX10_bestAt_31 ?_
    refine jq_getR (v := 54) Γ hlY at_X_52 fl_RX10_336 rfl rfl ly_X8_chosen dX10_bestAt_34 ?_
    refine jq_iload_n Γ dX10_bestAt_37 rfl 1 rfl ?_
    refine jq_iald Γ at_X_54 rfl dX10_bestAt_38 (fun v9 => ?_)
    refine jq_cwI (jq_virt (avs := [jI v9]) (st := []) Γ hlY rfl ml_RX10_161 rfl at_X_0 rfl rfl rfl rfl rfl dX10_bestAt_39) (fun r σ' h => ctX10_answer h) (fun v10 s11 => ?_)
    exact jq_ireturn Γ dX10_bestAt_42 (hK0 _)
  · refine jq_aload_n Γ dX10_bestAt_11 rfl 0 rfl (jq_at_0 at_X_0) ?_
    refine jq_iconst Γ dX10_bestAt_12 rfl ?_
    refine jq_cwI (jq_virt (avs := [jI 1]) (st := []) Γ hlY rfl ml_RX10_120 rfl at_X_0 rfl rfl rfl rfl rfl dX10_bestAt_13) (fun r σ' h => ctX10_refuse h) (fun v12 s13 => ?_)
    exact jq_ireturn Γ dX10_bestAt_16 (hK0 _)


theorem dX8_outcomes_0 : decode cX8_outcomes 0 = .ok (.aload_n 0, 1) := by decide +kernel
theorem dX8_outcomes_1 : decode cX8_outcomes 1 = .ok (.aload_n 1, 1) := by decide +kernel
theorem dX8_outcomes_2 : decode cX8_outcomes 2 = .ok (.invokevirtual 49, 3) := by decide +kernel
theorem dX8_outcomes_5 : decode cX8_outcomes 5 = .ok (.istore_n 2, 1) := by decide +kernel
theorem dX8_outcomes_6 : decode cX8_outcomes 6 = .ok (.iconst 0, 1) := by decide +kernel
theorem dX8_outcomes_7 : decode cX8_outcomes 7 = .ok (.istore_n 3, 1) := by decide +kernel
theorem dX8_outcomes_8 : decode cX8_outcomes 8 = .ok (.iconst 0, 1) := by decide +kernel
theorem dX8_outcomes_9 : decode cX8_outcomes 9 = .ok (.istore 4, 2) := by decide +kernel
theorem dX8_outcomes_11 : decode cX8_outcomes 11 = .ok (.iload 4, 2) := by decide +kernel
theorem dX8_outcomes_13 : decode cX8_outcomes 13 = .ok (.iload_n 2, 1) := by decide +kernel
theorem dX8_outcomes_14 : decode cX8_outcomes 14 = .ok (.if_icmp .ge 27, 3) := by decide +kernel
theorem dX8_outcomes_17 : decode cX8_outcomes 17 = .ok (.iload_n 3, 1) := by decide +kernel
theorem dX8_outcomes_18 : decode cX8_outcomes 18 = .ok (.iconst 1, 1) := by decide +kernel
theorem dX8_outcomes_19 : decode cX8_outcomes 19 = .ok (.aload_n 1, 1) := by decide +kernel
theorem dX8_outcomes_20 : decode cX8_outcomes 20 = .ok (.aload_n 0, 1) := by decide +kernel
theorem dX8_outcomes_21 : decode cX8_outcomes 21 = .ok (.getfield 9, 3) := by decide +kernel
theorem dX8_outcomes_24 : decode cX8_outcomes 24 = .ok (.invokevirtual 52, 3) := by decide +kernel
theorem dX8_outcomes_27 : decode cX8_outcomes 27 = .ok (.ishl, 1) := by decide +kernel
theorem dX8_outcomes_28 : decode cX8_outcomes 28 = .ok (.ior, 1) := by decide +kernel
theorem dX8_outcomes_29 : decode cX8_outcomes 29 = .ok (.istore_n 3, 1) := by decide +kernel
theorem dX8_outcomes_30 : decode cX8_outcomes 30 = .ok (.aload_n 0, 1) := by decide +kernel
theorem dX8_outcomes_31 : decode cX8_outcomes 31 = .ok (.aload_n 1, 1) := by decide +kernel
theorem dX8_outcomes_32 : decode cX8_outcomes 32 = .ok (.invokevirtual 60, 3) := by decide +kernel
theorem dX8_outcomes_35 : decode cX8_outcomes 35 = .ok (.iinc 4 1, 3) := by decide +kernel
theorem dX8_outcomes_38 : decode cX8_outcomes 38 = .ok (.goto (-27), 3) := by decide +kernel
theorem dX8_outcomes_41 : decode cX8_outcomes 41 = .ok (.iload_n 3, 1) := by decide +kernel
theorem dX8_outcomes_42 : decode cX8_outcomes 42 = .ok (.ireturn, 1) := by decide +kernel
set_option maxHeartbeats 4000000 in
set_option maxRecDepth 100000 in
theorem ctX8_outcomes {p1 : Int} {σ : jq_M} {res : Int} {σ' : jq_M} (hp1 : jq_com p1) (h : X8_outcomes p1 σ = some (res, σ')) : jq_MC jq_zX yX8_outcomes cX8_outcomes 5 (some .int) 5 132 [jR 52, jR p1] σ (some (jI res)) σ' := by
  refine jq_met (own := RX8) (L0 := [(0, jR 52), (1, jR p1)]) (by decide) rfl rfl rfl ?_
  intro X Γ hnl hlY hRT
  refine jq_use2 (P := fun r => jq_RT jq_zX X (some .int) (some (jI r.1)) r.2) ?_ h hRT
  intro K0 hK0
  unfold X8_outcomes
  refine jq_aload_n Γ dX8_outcomes_0 rfl 0 rfl (jq_at_0 at_X_52) ?_
  refine jq_aload_n Γ dX8_outcomes_1 rfl 1 rfl (jq_at_0 (at_com hp1)) ?_
  refine jq_cwI (jq_virt (avs := [jR p1]) (st := []) Γ hlY rfl ml_RX8_49 rfl at_X_52 rfl rfl rfl rfl rfl dX8_outcomes_2) (fun r σ' h => ctX8_begin hp1 h) (fun v1 s2 => ?_)
  refine jq_istore_n (L' := [(2, jI v1), (0, jR 52), (1, jR p1)]) Γ dX8_outcomes_5 rfl hnl rfl rfl ?_
  refine jq_iconst Γ dX8_outcomes_6 rfl ?_
  refine jq_istore_n (L' := [(3, jI 0), (2, jI v1), (0, jR 52), (1, jR p1)]) Γ dX8_outcomes_7 rfl hnl rfl rfl ?_
  refine jq_iconst Γ dX8_outcomes_8 rfl ?_
  refine jq_istore (L' := [(4, jI 0), (3, jI 0), (2, jI v1), (0, jR 52), (1, jR p1)]) Γ dX8_outcomes_9 hnl rfl rfl ?_
  refine jq_sub Γ (L' := [(0, jR 52), (1, jR p1), (2, jI v1), (3, jI 0), (4, jI 0)]) [3, 4, 2, 1, 0] rfl ?_
  refine jq_loop2 (C := fun (t3 : Int × Int × jq_M) => jq_V jq_zX X (jq_zN jq_zX) t3.2.2 11 [(0, jR 52), (1, jR p1), (2, jI v1), (3, jI t3.1), (4, jI t3.2.1)] []) (KX := fun (e9 : Int × jq_M) => jq_V jq_zX X (jq_zN jq_zX) e9.2 41 [(3, jI e9.1)] []) ?_ ?_ (0, 0, s2)
  · intro K11_t3 hCt3 hXt3 t3
    unfold X8_outcomes_b11
    refine jq_iload Γ dX8_outcomes_11 4 rfl ?_
    refine jq_iload_n Γ dX8_outcomes_13 rfl 2 rfl ?_
    refine jq_icmp_ge (tgt := 41) Γ dX8_outcomes_14 rfl ?_ ?_
    · refine jq_sub Γ (L' := [(3, jI t3.1)]) [3] rfl ?_
      exact jq_done (hXt3 (t3.1, t3.2.2))
    · refine jq_iload_n Γ dX8_outcomes_17 rfl 3 rfl ?_
      refine jq_iconst Γ dX8_outcomes_18 rfl ?_
      refine jq_aload_n Γ dX8_outcomes_19 rfl 1 rfl (jq_at_0 (at_com hp1)) ?_
      refine jq_aload_n Γ dX8_outcomes_20 rfl 0 rfl (jq_at_0 at_X_52) ?_
      refine jq_getR (v := 53) Γ hlY at_X_52 fl_RX8_9 rfl rfl ly_X8_row dX8_outcomes_21 ?_
      refine jq_cwI (jq_virt (avs := [jR 53]) (st := [jI 1, jI t3.1]) Γ hlY rfl ml_RX8_52 rfl (at_com hp1) rfl rfl rfl rfl rfl dX8_outcomes_24) (fun r σ' h => ctX1_signersOf hp1 row_53 h) (fun v4 s5 => ?_)
      refine jq_ishl Γ dX8_outcomes_27 ?_
      refine jq_ior Γ dX8_outcomes_28 ?_
      refine jq_nmI (fun v6 => ?_)
      refine jq_istore_n (L' := [(3, jI v6), (0, jR 52), (1, jR p1), (2, jI v1), (4, jI t3.2.1)]) Γ dX8_outcomes_29 rfl hnl rfl rfl ?_
      refine jq_aload_n Γ dX8_outcomes_30 rfl 1 rfl (jq_at_0 at_X_52) ?_
      refine jq_aload_n Γ dX8_outcomes_31 rfl 2 rfl (jq_at_0 (at_com hp1)) ?_
      refine jq_cwV (jq_virt (avs := [jR p1]) (st := []) Γ hlY rfl ml_RX8_60 rfl at_X_52 rfl rfl rfl rfl rfl dX8_outcomes_32) (fun σ' h => ctX8_goOn hp1 h) (fun s7 => ?_)
      refine jq_iincN (L' := fun v8 => [(4, jI v8), (3, jI v6), (0, jR 52), (1, jR p1), (2, jI v1)]) Γ dX8_outcomes_35 4 rfl hnl rfl (fun _ => rfl) (fun v8 => ?_)
      refine jq_goto Γ (tgt := 11) dX8_outcomes_38 rfl ?_
      refine jq_sub Γ (L' := [(0, jR 52), (1, jR p1), (2, jI v1), (3, jI v6), (4, jI v8)]) [2, 3, 4, 1, 0] rfl ?_
      exact jq_done (hCt3 (v6, v8, s7))
  · intro e9
    refine jq_iload_n Γ dX8_outcomes_41 rfl 0 rfl ?_
    exact jq_ireturn Γ dX8_outcomes_42 (hK0 _)


theorem dX8_mostOf_0 : decode cX8_mostOf 0 = .ok (.iconst 0, 1) := by decide +kernel
theorem dX8_mostOf_1 : decode cX8_mostOf 1 = .ok (.istore_n 1, 1) := by decide +kernel
theorem dX8_mostOf_2 : decode cX8_mostOf 2 = .ok (.iconst 0, 1) := by decide +kernel
theorem dX8_mostOf_3 : decode cX8_mostOf 3 = .ok (.istore_n 2, 1) := by decide +kernel
theorem dX8_mostOf_4 : decode cX8_mostOf 4 = .ok (.iload_n 2, 1) := by decide +kernel
theorem dX8_mostOf_5 : decode cX8_mostOf 5 = .ok (.bipush 32, 2) := by decide +kernel
theorem dX8_mostOf_7 : decode cX8_mostOf 7 = .ok (.if_icmp .ge 26, 3) := by decide +kernel
theorem dX8_mostOf_10 : decode cX8_mostOf 10 = .ok (.iload_n 0, 1) := by decide +kernel
theorem dX8_mostOf_11 : decode cX8_mostOf 11 = .ok (.iload_n 2, 1) := by decide +kernel
theorem dX8_mostOf_12 : decode cX8_mostOf 12 = .ok (.invokestatic 45, 3) := by decide +kernel
theorem dX8_mostOf_15 : decode cX8_mostOf 15 = .ok (.ifCond .eq 12, 3) := by decide +kernel
theorem dX8_mostOf_18 : decode cX8_mostOf 18 = .ok (.iload_n 1, 1) := by decide +kernel
theorem dX8_mostOf_19 : decode cX8_mostOf 19 = .ok (.iload_n 2, 1) := by decide +kernel
theorem dX8_mostOf_20 : decode cX8_mostOf 20 = .ok (.invokestatic 92, 3) := by decide +kernel
theorem dX8_mostOf_23 : decode cX8_mostOf 23 = .ok (.invokestatic 77, 3) := by decide +kernel
theorem dX8_mostOf_26 : decode cX8_mostOf 26 = .ok (.istore_n 1, 1) := by decide +kernel
theorem dX8_mostOf_27 : decode cX8_mostOf 27 = .ok (.iinc 2 1, 3) := by decide +kernel
theorem dX8_mostOf_30 : decode cX8_mostOf 30 = .ok (.goto (-26), 3) := by decide +kernel
theorem dX8_mostOf_33 : decode cX8_mostOf 33 = .ok (.iload_n 1, 1) := by decide +kernel
theorem dX8_mostOf_34 : decode cX8_mostOf 34 = .ok (.ireturn, 1) := by decide +kernel
set_option maxHeartbeats 4000000 in
set_option maxRecDepth 100000 in
theorem ctX8_mostOf {p0 : Int} {σ : jq_M} {res : Int}  (h : X8_mostOf p0 σ = some res) : jq_MC jq_zX yX8_mostOf cX8_mostOf 3 (some .int) 2 61 [jI p0] σ (some (jI res)) σ := by
  refine jq_met (own := RX8) (L0 := [(0, jI p0)]) (by decide) rfl rfl rfl ?_
  intro X Γ hnl hlY hRT
  refine jq_use2 (P := fun r => jq_RT jq_zX X (some .int) (some (jI r)) σ) ?_ h hRT
  intro K0 hK0
  unfold X8_mostOf
  refine jq_iconst Γ dX8_mostOf_0 rfl ?_
  refine jq_istore_n (L' := [(1, jI 0), (0, jI p0)]) Γ dX8_mostOf_1 rfl hnl rfl rfl ?_
  refine jq_iconst Γ dX8_mostOf_2 rfl ?_
  refine jq_istore_n (L' := [(2, jI 0), (1, jI 0), (0, jI p0)]) Γ dX8_mostOf_3 rfl hnl rfl rfl ?_
  refine jq_sub Γ (L' := [(0, jI p0), (1, jI 0), (2, jI 0)]) [2, 1, 0] rfl ?_
  refine jq_loop2 (C := fun (t1 : Int × Int) => jq_V jq_zX X (jq_zN jq_zX) σ 4 [(0, jI p0), (1, jI t1.1), (2, jI t1.2)] []) (KX := fun (e8 : Int) => jq_V jq_zX X (jq_zN jq_zX) σ 33 [(1, jI e8)] []) ?_ ?_ (0, 0)
  · intro K4_t1 hCt1 hXt1 t1
    unfold X8_mostOf_b4
    refine jq_iload_n Γ dX8_mostOf_4 rfl 2 rfl ?_
    refine jq_bipush Γ dX8_mostOf_5 rfl ?_
    refine jq_icmp_ge (tgt := 33) Γ dX8_mostOf_7 rfl ?_ ?_
    · refine jq_sub Γ (L' := [(1, jI t1.1)]) [1] rfl ?_
      exact jq_done (hXt1 t1.1)
    · refine jq_iload_n Γ dX8_mostOf_10 rfl 0 rfl ?_
      refine jq_iload_n Γ dX8_mostOf_11 rfl 2 rfl ?_
      refine jq_cpZ (jq_nest (avs := [jI p0, jI t1.2]) (st := []) Γ hlY rfl ml_RX8_45 rfl rfl rfl rfl rfl dX8_mostOf_12) rfl (fun r h => ctX10_holds h) (fun v2 hz3 => ?_)
      refine jq_if_eq (tgt := 27) Γ dX8_mostOf_15 rfl ?_ ?_
      · refine jq_iincN (L' := fun v4 => [(2, jI v4), (0, jI p0), (1, jI t1.1)]) Γ dX8_mostOf_27 2 rfl hnl rfl (fun _ => rfl) (fun v4 => ?_)
        refine jq_goto Γ (tgt := 4) dX8_mostOf_30 rfl ?_
        refine jq_sub Γ (L' := [(0, jI p0), (1, jI t1.1), (2, jI v4)]) [1, 2, 0] rfl ?_
        exact jq_done (hCt1 (t1.1, v4))
      · refine jq_iload_n Γ dX8_mostOf_18 rfl 1 rfl ?_
        refine jq_iload_n Γ dX8_mostOf_19 rfl 2 rfl ?_
        refine jq_cpI (jq_stat (avs := [jI t1.2]) (st := [jI t1.1]) Γ hlY rfl ml_RX8_92 rfl rfl rfl rfl rfl dX8_mostOf_20) (fun r h => ctJ6_bitCount_0f7a4 h) (fun v5 => ?_)
        refine jq_mmax Γ mw_RX8_77 mws_max mwi mwc_max rfl rfl dX8_mostOf_23 ?_
        refine jq_nmI (fun v6 => ?_)
        refine jq_istore_n (L' := [(1, jI v6), (0, jI p0), (2, jI t1.2)]) Γ dX8_mostOf_26 rfl hnl rfl rfl ?_
        refine jq_iincN (L' := fun v7 => [(2, jI v7), (1, jI v6), (0, jI p0)]) Γ dX8_mostOf_27 2 rfl hnl rfl (fun _ => rfl) (fun v7 => ?_)
        refine jq_goto Γ (tgt := 4) dX8_mostOf_30 rfl ?_
        refine jq_sub Γ (L' := [(0, jI p0), (1, jI v6), (2, jI v7)]) [2, 1, 0] rfl ?_
        exact jq_done (hCt1 (v6, v7))
  · intro e8
    refine jq_iload_n Γ dX8_mostOf_33 rfl 0 rfl ?_
    exact jq_ireturn Γ dX8_mostOf_34 (hK0 _)


theorem dX10_mostSign_0 : decode cX10_mostSign 0 = .ok (.aload_n 0, 1) := by decide +kernel
theorem dX10_mostSign_1 : decode cX10_mostSign 1 = .ok (.getfield 25, 3) := by decide +kernel
theorem dX10_mostSign_4 : decode cX10_mostSign 4 = .ok (.getfield 179, 3) := by decide +kernel
theorem dX10_mostSign_7 : decode cX10_mostSign 7 = .ok (.ifCond .ne 10, 3) := by decide +kernel
theorem dX10_mostSign_10 : decode cX10_mostSign 10 = .ok (.aload_n 0, 1) := by decide +kernel
theorem dX10_mostSign_11 : decode cX10_mostSign 11 = .ok (.bipush 6, 2) := by decide +kernel
theorem dX10_mostSign_13 : decode cX10_mostSign 13 = .ok (.invokevirtual 120, 3) := by decide +kernel
theorem dX10_mostSign_16 : decode cX10_mostSign 16 = .ok (.ireturn, 1) := by decide +kernel
theorem dX10_mostSign_17 : decode cX10_mostSign 17 = .ok (.aload_n 0, 1) := by decide +kernel
theorem dX10_mostSign_18 : decode cX10_mostSign 18 = .ok (.aload_n 0, 1) := by decide +kernel
theorem dX10_mostSign_19 : decode cX10_mostSign 19 = .ok (.getfield 46, 3) := by decide +kernel
theorem dX10_mostSign_22 : decode cX10_mostSign 22 = .ok (.aload_n 0, 1) := by decide +kernel
theorem dX10_mostSign_23 : decode cX10_mostSign 23 = .ok (.getfield 25, 3) := by decide +kernel
theorem dX10_mostSign_26 : decode cX10_mostSign 26 = .ok (.invokevirtual 339, 3) := by decide +kernel
theorem dX10_mostSign_29 : decode cX10_mostSign 29 = .ok (.invokestatic 342, 3) := by decide +kernel
theorem dX10_mostSign_32 : decode cX10_mostSign 32 = .ok (.invokevirtual 161, 3) := by decide +kernel
theorem dX10_mostSign_35 : decode cX10_mostSign 35 = .ok (.ireturn, 1) := by decide +kernel
set_option maxHeartbeats 4000000 in
set_option maxRecDepth 100000 in
theorem ctX10_mostSign  {σ : jq_M} {res : Int} {σ' : jq_M}  (h : X10_mostSign σ = some (res, σ')) : jq_MC jq_zX yX10_mostSign cX10_mostSign 1 (some .int) 6 156 [jR 0] σ (some (jI res)) σ' := by
  refine jq_met (own := RX10) (L0 := [(0, jR 0)]) (by decide) rfl rfl rfl ?_
  intro X Γ hnl hlY hRT
  refine jq_use2 (P := fun r => jq_RT jq_zX X (some .int) (some (jI r.1)) r.2) ?_ h hRT
  intro K0 hK0
  unfold X10_mostSign
  refine jq_aload_n Γ dX10_mostSign_0 rfl 0 rfl (jq_at_0 at_X_0) ?_
  refine jq_getC (C := jq_cm2) Γ hlY at_X_0 fl_RX10_25 rfl rfl ly_now dX10_mostSign_1 (fun c1 hc2q => ?_)
  have hc2 := jq_cm2_com hc2q
  refine jq_getI (J := 0) Γ (at_com hc2) fl_RX10_179 rfl rfl dX10_mostSign_4 ?_
  refine jq_if_ne (tgt := 17) Γ dX10_mostSign_7 rfl ?_ ?_
  · refine jq_aload_n Γ dX10_mostSign_17 rfl 0 rfl (jq_at_0 at_X_0) ?_
    refine jq_aload_n Γ dX10_mostSign_18 rfl 0 rfl (jq_at_0 at_X_0) ?_
    refine jq_getR (v := 52) Γ hlY at_X_0 fl_RX10_46 rfl rfl ly_X10_survey dX10_mostSign_19 ?_
    refine jq_aload_n Γ dX10_mostSign_22 rfl 0 rfl (jq_at_0 at_X_0) ?_
    refine jq_getC (C := jq_cm2) Γ hlY at_X_0 fl_RX10_25 rfl rfl ly_now dX10_mostSign_23 (fun c3 hc4q => ?_)
    have hc4 := jq_cm2_com hc4q
    refine jq_cwI (jq_virt (avs := [jR c3]) (st := [jR 0]) Γ hlY rfl ml_RX10_339 rfl at_X_52 rfl rfl rfl rfl rfl dX10_mostSign_26) (fun r σ' h => ctX8_outcomes hc4 h) (fun v5 s6 => ?_)
    refine jq_cpI (jq_stat (avs := [jI v5]) (st := [jR 0]) Γ hlY rfl ml_RX10_342 rfl rfl rfl rfl rfl dX10_mostSign_29) (fun r h => ctX8_mostOf h) (fun v7 => ?_)
    refine jq_cwI (jq_virt (avs := [jI v7]) (st := []) Γ hlY rfl ml_RX10_161 rfl at_X_0 rfl rfl rfl rfl rfl dX10_mostSign_32) (fun r σ' h => ctX10_answer h) (fun v8 s9 => ?_)
    exact jq_ireturn Γ dX10_mostSign_35 (hK0 _)
  · refine jq_aload_n Γ dX10_mostSign_10 rfl 0 rfl (jq_at_0 at_X_0) ?_
    refine jq_bipush Γ dX10_mostSign_11 rfl ?_
    refine jq_cwI (jq_virt (avs := [jI 6]) (st := []) Γ hlY rfl ml_RX10_120 rfl at_X_0 rfl rfl rfl rfl rfl dX10_mostSign_13) (fun r σ' h => ctX10_refuse h) (fun v10 s11 => ?_)
    exact jq_ireturn Γ dX10_mostSign_16 (hK0 _)


theorem dX8_isMet_0 : decode cX8_isMet 0 = .ok (.iconst 0, 1) := by decide +kernel
theorem dX8_isMet_1 : decode cX8_isMet 1 = .ok (.istore_n 2, 1) := by decide +kernel
theorem dX8_isMet_2 : decode cX8_isMet 2 = .ok (.iload_n 2, 1) := by decide +kernel
theorem dX8_isMet_3 : decode cX8_isMet 3 = .ok (.bipush 32, 2) := by decide +kernel
theorem dX8_isMet_5 : decode cX8_isMet 5 = .ok (.if_icmp .ge 27, 3) := by decide +kernel
theorem dX8_isMet_8 : decode cX8_isMet 8 = .ok (.iload_n 0, 1) := by decide +kernel
theorem dX8_isMet_9 : decode cX8_isMet 9 = .ok (.iload_n 2, 1) := by decide +kernel
theorem dX8_isMet_10 : decode cX8_isMet 10 = .ok (.invokestatic 45, 3) := by decide +kernel
theorem dX8_isMet_13 : decode cX8_isMet 13 = .ok (.ifCond .eq 13, 3) := by decide +kernel
theorem dX8_isMet_16 : decode cX8_isMet 16 = .ok (.iload_n 1, 1) := by decide +kernel
theorem dX8_isMet_17 : decode cX8_isMet 17 = .ok (.iload_n 2, 1) := by decide +kernel
theorem dX8_isMet_18 : decode cX8_isMet 18 = .ok (.iconst (-1), 1) := by decide +kernel
theorem dX8_isMet_19 : decode cX8_isMet 19 = .ok (.ixor, 1) := by decide +kernel
theorem dX8_isMet_20 : decode cX8_isMet 20 = .ok (.iand, 1) := by decide +kernel
theorem dX8_isMet_21 : decode cX8_isMet 21 = .ok (.ifCond .ne 5, 3) := by decide +kernel
theorem dX8_isMet_24 : decode cX8_isMet 24 = .ok (.iconst 1, 1) := by decide +kernel
theorem dX8_isMet_25 : decode cX8_isMet 25 = .ok (.ireturn, 1) := by decide +kernel
theorem dX8_isMet_26 : decode cX8_isMet 26 = .ok (.iinc 2 1, 3) := by decide +kernel
theorem dX8_isMet_29 : decode cX8_isMet 29 = .ok (.goto (-27), 3) := by decide +kernel
theorem dX8_isMet_32 : decode cX8_isMet 32 = .ok (.iconst 0, 1) := by decide +kernel
theorem dX8_isMet_33 : decode cX8_isMet 33 = .ok (.ireturn, 1) := by decide +kernel
set_option maxHeartbeats 4000000 in
set_option maxRecDepth 100000 in
theorem ctX8_isMet {p0 : Int} {p1 : Int} {σ : jq_M} {res : Int}  (h : X8_isMet p0 p1 σ = some res) : jq_MC jq_zX yX8_isMet cX8_isMet 3 (some .boolean) 2 61 [jI p0, jI p1] σ (some (jI res)) σ := by
  refine jq_met (own := RX8) (L0 := [(0, jI p0), (1, jI p1)]) (by decide) rfl rfl rfl ?_
  intro X Γ hnl hlY hRT
  refine jq_use2 (P := fun r => jq_RT jq_zX X (some .boolean) (some (jI r)) σ) ?_ h hRT
  intro K0 hK0
  unfold X8_isMet
  refine jq_iconst Γ dX8_isMet_0 rfl ?_
  refine jq_istore_n (L' := [(2, jI 0), (0, jI p0), (1, jI p1)]) Γ dX8_isMet_1 rfl hnl rfl rfl ?_
  refine jq_sub Γ (L' := [(0, jI p0), (1, jI p1), (2, jI 0)]) [1, 2, 0] rfl ?_
  refine jq_loop2 (C := fun (t1 : Int) => jq_V jq_zX X (jq_zN jq_zX) σ 2 [(0, jI p0), (1, jI p1), (2, jI t1)] []) (KX := Sum.elim (fun (e6 : Unit) => jq_V jq_zX X (jq_zN jq_zX) σ 24 [] []) (fun (e7 : Unit) => jq_V jq_zX X (jq_zN jq_zX) σ 32 [] [])) ?_ ?_ 0
  · intro K2_t1 hCt1 hXt1 t1
    unfold X8_isMet_b2
    refine jq_iload_n Γ dX8_isMet_2 rfl 2 rfl ?_
    refine jq_bipush Γ dX8_isMet_3 rfl ?_
    refine jq_icmp_ge (tgt := 32) Γ dX8_isMet_5 rfl ?_ ?_
    · refine jq_sub Γ (L' := []) [] rfl ?_
      exact jq_done (hXt1 (.inr ()))
    · refine jq_iload_n Γ dX8_isMet_8 rfl 0 rfl ?_
      refine jq_iload_n Γ dX8_isMet_9 rfl 2 rfl ?_
      refine jq_cpZ (jq_nest (avs := [jI p0, jI t1]) (st := []) Γ hlY rfl ml_RX8_45 rfl rfl rfl rfl rfl dX8_isMet_10) rfl (fun r h => ctX10_holds h) (fun v2 hz3 => ?_)
      refine jq_if_eq (tgt := 26) Γ dX8_isMet_13 rfl ?_ ?_
      · refine jq_iincN (L' := fun v4 => [(2, jI v4), (0, jI p0), (1, jI p1)]) Γ dX8_isMet_26 2 rfl hnl rfl (fun _ => rfl) (fun v4 => ?_)
        refine jq_goto Γ (tgt := 2) dX8_isMet_29 rfl ?_
        refine jq_sub Γ (L' := [(0, jI p0), (1, jI p1), (2, jI v4)]) [1, 2, 0] rfl ?_
        exact jq_done (hCt1 v4)
      · refine jq_iload_n Γ dX8_isMet_16 rfl 1 rfl ?_
        refine jq_iload_n Γ dX8_isMet_17 rfl 2 rfl ?_
        refine jq_iconst Γ dX8_isMet_18 rfl ?_
        refine jq_ixor Γ dX8_isMet_19 ?_
        refine jq_iand Γ dX8_isMet_20 ?_
        refine jq_if_ne (tgt := 26) Γ dX8_isMet_21 rfl ?_ ?_
        · refine jq_iincN (L' := fun v5 => [(2, jI v5), (0, jI p0), (1, jI p1)]) Γ dX8_isMet_26 2 rfl hnl rfl (fun _ => rfl) (fun v5 => ?_)
          refine jq_goto Γ (tgt := 2) dX8_isMet_29 rfl ?_
          refine jq_sub Γ (L' := [(0, jI p0), (1, jI p1), (2, jI v5)]) [1, 2, 0] rfl ?_
          exact jq_done (hCt1 v5)
        · refine jq_sub Γ (L' := []) [] rfl ?_
          exact jq_done (hXt1 (.inl ()))
  · refine jq_elim ?_ ?_
    · intro e6
      refine jq_iconst Γ dX8_isMet_24 rfl ?_
      exact jq_zreturn Γ (Or.inr rfl) dX8_isMet_25 (hK0 _)
    · intro e7
      refine jq_iconst Γ dX8_isMet_32 rfl ?_
      exact jq_zreturn Γ (Or.inl rfl) dX8_isMet_33 (hK0 _)


theorem dX8_leastUnmet_0 : decode cX8_leastUnmet 0 = .ok (.iconst 1, 1) := by decide +kernel
theorem dX8_leastUnmet_1 : decode cX8_leastUnmet 1 = .ok (.istore_n 2, 1) := by decide +kernel
theorem dX8_leastUnmet_2 : decode cX8_leastUnmet 2 = .ok (.iload_n 2, 1) := by decide +kernel
theorem dX8_leastUnmet_3 : decode cX8_leastUnmet 3 = .ok (.iload_n 1, 1) := by decide +kernel
theorem dX8_leastUnmet_4 : decode cX8_leastUnmet 4 = .ok (.if_icmp .gt 42, 3) := by decide +kernel
theorem dX8_leastUnmet_7 : decode cX8_leastUnmet 7 = .ok (.iconst 1, 1) := by decide +kernel
theorem dX8_leastUnmet_8 : decode cX8_leastUnmet 8 = .ok (.istore_n 3, 1) := by decide +kernel
theorem dX8_leastUnmet_9 : decode cX8_leastUnmet 9 = .ok (.iload_n 3, 1) := by decide +kernel
theorem dX8_leastUnmet_10 : decode cX8_leastUnmet 10 = .ok (.iconst 1, 1) := by decide +kernel
theorem dX8_leastUnmet_11 : decode cX8_leastUnmet 11 = .ok (.iload_n 1, 1) := by decide +kernel
theorem dX8_leastUnmet_12 : decode cX8_leastUnmet 12 = .ok (.ishl, 1) := by decide +kernel
theorem dX8_leastUnmet_13 : decode cX8_leastUnmet 13 = .ok (.if_icmp .ge 27, 3) := by decide +kernel
theorem dX8_leastUnmet_16 : decode cX8_leastUnmet 16 = .ok (.iload_n 3, 1) := by decide +kernel
theorem dX8_leastUnmet_17 : decode cX8_leastUnmet 17 = .ok (.invokestatic 92, 3) := by decide +kernel
theorem dX8_leastUnmet_20 : decode cX8_leastUnmet 20 = .ok (.iload_n 2, 1) := by decide +kernel
theorem dX8_leastUnmet_21 : decode cX8_leastUnmet 21 = .ok (.if_icmp .ne 13, 3) := by decide +kernel
theorem dX8_leastUnmet_24 : decode cX8_leastUnmet 24 = .ok (.iload_n 0, 1) := by decide +kernel
theorem dX8_leastUnmet_25 : decode cX8_leastUnmet 25 = .ok (.iload_n 3, 1) := by decide +kernel
theorem dX8_leastUnmet_26 : decode cX8_leastUnmet 26 = .ok (.invokestatic 98, 3) := by decide +kernel
theorem dX8_leastUnmet_29 : decode cX8_leastUnmet 29 = .ok (.ifCond .ne 5, 3) := by decide +kernel
theorem dX8_leastUnmet_32 : decode cX8_leastUnmet 32 = .ok (.iload_n 3, 1) := by decide +kernel
theorem dX8_leastUnmet_33 : decode cX8_leastUnmet 33 = .ok (.ireturn, 1) := by decide +kernel
theorem dX8_leastUnmet_34 : decode cX8_leastUnmet 34 = .ok (.iinc 3 1, 3) := by decide +kernel
theorem dX8_leastUnmet_37 : decode cX8_leastUnmet 37 = .ok (.goto (-28), 3) := by decide +kernel
theorem dX8_leastUnmet_40 : decode cX8_leastUnmet 40 = .ok (.iinc 2 1, 3) := by decide +kernel
theorem dX8_leastUnmet_43 : decode cX8_leastUnmet 43 = .ok (.goto (-41), 3) := by decide +kernel
theorem dX8_leastUnmet_46 : decode cX8_leastUnmet 46 = .ok (.iconst (-1), 1) := by decide +kernel
theorem dX8_leastUnmet_47 : decode cX8_leastUnmet 47 = .ok (.ireturn, 1) := by decide +kernel
set_option maxHeartbeats 4000000 in
set_option maxRecDepth 100000 in
theorem ctX8_leastUnmet {p0 : Int} {p1 : Int} {σ : jq_M} {res : Int}  (h : X8_leastUnmet p0 p1 σ = some res) : jq_MC jq_zX yX8_leastUnmet cX8_leastUnmet 4 (some .int) 3 83 [jI p0, jI p1] σ (some (jI res)) σ := by
  refine jq_met (own := RX8) (L0 := [(0, jI p0), (1, jI p1)]) (by decide) rfl rfl rfl ?_
  intro X Γ hnl hlY hRT
  refine jq_use2 (P := fun r => jq_RT jq_zX X (some .int) (some (jI r)) σ) ?_ h hRT
  intro K0 hK0
  unfold X8_leastUnmet
  refine jq_iconst Γ dX8_leastUnmet_0 rfl ?_
  refine jq_istore_n (L' := [(2, jI 1), (0, jI p0), (1, jI p1)]) Γ dX8_leastUnmet_1 rfl hnl rfl rfl ?_
  refine jq_sub Γ (L' := [(0, jI p0), (1, jI p1), (2, jI 1)]) [1, 2, 0] rfl ?_
  refine jq_loop2 (C := fun (t1 : Int) => jq_V jq_zX X (jq_zN jq_zX) σ 2 [(0, jI p0), (1, jI p1), (2, jI t1)] []) (KX := Sum.elim (fun (e11 : Int) => jq_V jq_zX X (jq_zN jq_zX) σ 32 [(3, jI e11)] []) (fun (e12 : Unit) => jq_V jq_zX X (jq_zN jq_zX) σ 46 [] [])) ?_ ?_ 1
  · intro K2_t1 hCt1 hXt1 t1
    unfold X8_leastUnmet_b2
    refine jq_iload_n Γ dX8_leastUnmet_2 rfl 2 rfl ?_
    refine jq_iload_n Γ dX8_leastUnmet_3 rfl 1 rfl ?_
    refine jq_icmp_gt (tgt := 46) Γ dX8_leastUnmet_4 rfl ?_ ?_
    · refine jq_sub Γ (L' := []) [] rfl ?_
      exact jq_done (hXt1 (.inr ()))
    · refine jq_iconst Γ dX8_leastUnmet_7 rfl ?_
      refine jq_istore_n (L' := [(3, jI 1), (0, jI p0), (1, jI p1), (2, jI t1)]) Γ dX8_leastUnmet_8 rfl hnl rfl rfl ?_
      refine jq_sub Γ (L' := [(0, jI p0), (1, jI p1), (2, jI t1), (3, jI 1)]) [1, 2, 3, 0] rfl ?_
      refine jq_loop2 (C := fun (t2 : Int) => jq_V jq_zX X (jq_zN jq_zX) σ 9 [(0, jI p0), (1, jI p1), (2, jI t1), (3, jI t2)] []) (KX := Sum.elim (fun (e8 : Int) => jq_V jq_zX X (jq_zN jq_zX) σ 32 [(3, jI e8)] []) (fun (e9 : Unit) => jq_V jq_zX X (jq_zN jq_zX) σ 40 [(0, jI p0), (1, jI p1), (2, jI t1)] [])) ?_ ?_ 1
      · intro K9_t2 hCt2 hXt2 t2
        unfold X8_leastUnmet_b9
        refine jq_iload_n Γ dX8_leastUnmet_9 rfl 3 rfl ?_
        refine jq_iconst Γ dX8_leastUnmet_10 rfl ?_
        refine jq_iload_n Γ dX8_leastUnmet_11 rfl 1 rfl ?_
        refine jq_ishl Γ dX8_leastUnmet_12 ?_
        refine jq_icmp_ge (tgt := 40) Γ dX8_leastUnmet_13 rfl ?_ ?_
        · refine jq_sub Γ (L' := [(0, jI p0), (1, jI p1), (2, jI t1)]) [0, 1, 2] rfl ?_
          exact jq_done (hXt2 (.inr ()))
        · refine jq_iload_n Γ dX8_leastUnmet_16 rfl 3 rfl ?_
          refine jq_cpI (jq_stat (avs := [jI t2]) (st := []) Γ hlY rfl ml_RX8_92 rfl rfl rfl rfl rfl dX8_leastUnmet_17) (fun r h => ctJ6_bitCount_0f7a4 h) (fun v3 => ?_)
          refine jq_iload_n Γ dX8_leastUnmet_20 rfl 2 rfl ?_
          refine jq_icmp_ne (tgt := 34) Γ dX8_leastUnmet_21 rfl ?_ ?_
          · refine jq_iincN (L' := fun v4 => [(3, jI v4), (0, jI p0), (1, jI p1), (2, jI t1)]) Γ dX8_leastUnmet_34 3 rfl hnl rfl (fun _ => rfl) (fun v4 => ?_)
            refine jq_goto Γ (tgt := 9) dX8_leastUnmet_37 rfl ?_
            refine jq_sub Γ (L' := [(0, jI p0), (1, jI p1), (2, jI t1), (3, jI v4)]) [1, 2, 3, 0] rfl ?_
            exact jq_done (hCt2 v4)
          · refine jq_iload_n Γ dX8_leastUnmet_24 rfl 0 rfl ?_
            refine jq_iload_n Γ dX8_leastUnmet_25 rfl 3 rfl ?_
            refine jq_cpZ (jq_stat (avs := [jI p0, jI t2]) (st := []) Γ hlY rfl ml_RX8_98 rfl rfl rfl rfl rfl dX8_leastUnmet_26) rfl (fun r h => ctX8_isMet h) (fun v5 hz6 => ?_)
            refine jq_if_ne (tgt := 34) Γ dX8_leastUnmet_29 rfl ?_ ?_
            · refine jq_iincN (L' := fun v7 => [(3, jI v7), (0, jI p0), (1, jI p1), (2, jI t1)]) Γ dX8_leastUnmet_34 3 rfl hnl rfl (fun _ => rfl) (fun v7 => ?_)
              refine jq_goto Γ (tgt := 9) dX8_leastUnmet_37 rfl ?_
              refine jq_sub Γ (L' := [(0, jI p0), (1, jI p1), (2, jI t1), (3, jI v7)]) [1, 2, 3, 0] rfl ?_
              exact jq_done (hCt2 v7)
            · refine jq_sub Γ (L' := [(3, jI t2)]) [3] rfl ?_
              exact jq_done (hXt2 (.inl t2))
      · refine jq_elim ?_ ?_
        · intro e8
          exact jq_done (hXt1 (.inl e8))
        · intro e9
          refine jq_iincN (L' := fun v10 => [(2, jI v10), (0, jI p0), (1, jI p1)]) Γ dX8_leastUnmet_40 2 rfl hnl rfl (fun _ => rfl) (fun v10 => ?_)
          refine jq_goto Γ (tgt := 2) dX8_leastUnmet_43 rfl ?_
          refine jq_sub Γ (L' := [(0, jI p0), (1, jI p1), (2, jI v10)]) [1, 2, 0] rfl ?_
          exact jq_done (hCt1 v10)
  · refine jq_elim ?_ ?_
    · intro e11
      refine jq_iload_n Γ dX8_leastUnmet_32 rfl 0 rfl ?_
      exact jq_ireturn Γ dX8_leastUnmet_33 (hK0 _)
    · intro e12
      refine jq_iconst Γ dX8_leastUnmet_46 rfl ?_
      exact jq_ireturn Γ dX8_leastUnmet_47 (hK0 _)


theorem dX10_quarrel_0 : decode cX10_quarrel 0 = .ok (.aload_n 0, 1) := by decide +kernel
theorem dX10_quarrel_1 : decode cX10_quarrel 1 = .ok (.aload_n 0, 1) := by decide +kernel
theorem dX10_quarrel_2 : decode cX10_quarrel 2 = .ok (.getfield 46, 3) := by decide +kernel
theorem dX10_quarrel_5 : decode cX10_quarrel 5 = .ok (.aload_n 0, 1) := by decide +kernel
theorem dX10_quarrel_6 : decode cX10_quarrel 6 = .ok (.getfield 25, 3) := by decide +kernel
theorem dX10_quarrel_9 : decode cX10_quarrel 9 = .ok (.invokevirtual 339, 3) := by decide +kernel
theorem dX10_quarrel_12 : decode cX10_quarrel 12 = .ok (.aload_n 0, 1) := by decide +kernel
theorem dX10_quarrel_13 : decode cX10_quarrel 13 = .ok (.getfield 25, 3) := by decide +kernel
theorem dX10_quarrel_16 : decode cX10_quarrel 16 = .ok (.getfield 182, 3) := by decide +kernel
theorem dX10_quarrel_19 : decode cX10_quarrel 19 = .ok (.invokestatic 345, 3) := by decide +kernel
theorem dX10_quarrel_22 : decode cX10_quarrel 22 = .ok (.invokevirtual 218, 3) := by decide +kernel
theorem dX10_quarrel_25 : decode cX10_quarrel 25 = .ok (.ireturn, 1) := by decide +kernel
set_option maxHeartbeats 4000000 in
set_option maxRecDepth 100000 in
theorem ctX10_quarrel  {σ : jq_M} {res : Int} {σ' : jq_M}  (h : X10_quarrel σ = some (res, σ')) : jq_MC jq_zX yX10_quarrel cX10_quarrel 1 (some .int) 6 156 [jR 0] σ (some (jI res)) σ' := by
  refine jq_met (own := RX10) (L0 := [(0, jR 0)]) (by decide) rfl rfl rfl ?_
  intro X Γ hnl hlY hRT
  refine jq_use2 (P := fun r => jq_RT jq_zX X (some .int) (some (jI r.1)) r.2) ?_ h hRT
  intro K0 hK0
  unfold X10_quarrel
  refine jq_aload_n Γ dX10_quarrel_0 rfl 0 rfl (jq_at_0 at_X_0) ?_
  refine jq_aload_n Γ dX10_quarrel_1 rfl 0 rfl (jq_at_0 at_X_0) ?_
  refine jq_getR (v := 52) Γ hlY at_X_0 fl_RX10_46 rfl rfl ly_X10_survey dX10_quarrel_2 ?_
  refine jq_aload_n Γ dX10_quarrel_5 rfl 0 rfl (jq_at_0 at_X_0) ?_
  refine jq_getC (C := jq_cm2) Γ hlY at_X_0 fl_RX10_25 rfl rfl ly_now dX10_quarrel_6 (fun c1 hc2q => ?_)
  have hc2 := jq_cm2_com hc2q
  refine jq_cwI (jq_virt (avs := [jR c1]) (st := [jR 0]) Γ hlY rfl ml_RX10_339 rfl at_X_52 rfl rfl rfl rfl rfl dX10_quarrel_9) (fun r σ' h => ctX8_outcomes hc2 h) (fun v3 s4 => ?_)
  refine jq_aload_n Γ dX10_quarrel_12 rfl 0 rfl (jq_at_0 at_X_0) ?_
  refine jq_getC (C := jq_cm2) Γ hlY at_X_0 fl_RX10_25 rfl rfl ly_now dX10_quarrel_13 (fun c5 hc6q => ?_)
  have hc6 := jq_cm2_com hc6q
  refine jq_getI (J := 2) Γ (at_com hc6) fl_RX10_182 rfl rfl dX10_quarrel_16 ?_
  refine jq_cpI (jq_stat (avs := [jI v3, jI (s4 c5 2)]) (st := [jR 0]) Γ hlY rfl ml_RX10_345 rfl rfl rfl rfl rfl dX10_quarrel_19) (fun r h => ctX8_leastUnmet h) (fun v7 => ?_)
  refine jq_cwI (jq_virt (avs := [jI v7]) (st := []) Γ hlY rfl ml_RX10_218 rfl at_X_0 rfl rfl rfl rfl rfl dX10_quarrel_22) (fun r σ' h => ctX10_answerOrNone h) (fun v8 s9 => ?_)
  exact jq_ireturn Γ dX10_quarrel_25 (hK0 _)


theorem dX10_pleased_0 : decode cX10_pleased 0 = .ok (.iload_n 1, 1) := by decide +kernel
theorem dX10_pleased_1 : decode cX10_pleased 1 = .ok (.iconst 0, 1) := by decide +kernel
theorem dX10_pleased_2 : decode cX10_pleased 2 = .ok (.aload_n 0, 1) := by decide +kernel
theorem dX10_pleased_3 : decode cX10_pleased 3 = .ok (.getfield 25, 3) := by decide +kernel
theorem dX10_pleased_6 : decode cX10_pleased 6 = .ok (.invokevirtual 349, 3) := by decide +kernel
theorem dX10_pleased_9 : decode cX10_pleased 9 = .ok (.invokestatic 93, 3) := by decide +kernel
theorem dX10_pleased_12 : decode cX10_pleased 12 = .ok (.ifCond .ne 9, 3) := by decide +kernel
theorem dX10_pleased_15 : decode cX10_pleased 15 = .ok (.aload_n 0, 1) := by decide +kernel
theorem dX10_pleased_16 : decode cX10_pleased 16 = .ok (.iconst 1, 1) := by decide +kernel
theorem dX10_pleased_17 : decode cX10_pleased 17 = .ok (.invokevirtual 120, 3) := by decide +kernel
theorem dX10_pleased_20 : decode cX10_pleased 20 = .ok (.ireturn, 1) := by decide +kernel
theorem dX10_pleased_21 : decode cX10_pleased 21 = .ok (.aload_n 0, 1) := by decide +kernel
theorem dX10_pleased_22 : decode cX10_pleased 22 = .ok (.getfield 25, 3) := by decide +kernel
theorem dX10_pleased_25 : decode cX10_pleased 25 = .ok (.getfield 179, 3) := by decide +kernel
theorem dX10_pleased_28 : decode cX10_pleased 28 = .ok (.ifCond .ne 10, 3) := by decide +kernel
theorem dX10_pleased_31 : decode cX10_pleased 31 = .ok (.aload_n 0, 1) := by decide +kernel
theorem dX10_pleased_32 : decode cX10_pleased 32 = .ok (.bipush 6, 2) := by decide +kernel
theorem dX10_pleased_34 : decode cX10_pleased 34 = .ok (.invokevirtual 120, 3) := by decide +kernel
theorem dX10_pleased_37 : decode cX10_pleased 37 = .ok (.ireturn, 1) := by decide +kernel
theorem dX10_pleased_38 : decode cX10_pleased 38 = .ok (.aload_n 0, 1) := by decide +kernel
theorem dX10_pleased_39 : decode cX10_pleased 39 = .ok (.aload_n 0, 1) := by decide +kernel
theorem dX10_pleased_40 : decode cX10_pleased 40 = .ok (.getfield 46, 3) := by decide +kernel
theorem dX10_pleased_43 : decode cX10_pleased 43 = .ok (.aload_n 0, 1) := by decide +kernel
theorem dX10_pleased_44 : decode cX10_pleased 44 = .ok (.getfield 25, 3) := by decide +kernel
theorem dX10_pleased_47 : decode cX10_pleased 47 = .ok (.invokevirtual 339, 3) := by decide +kernel
theorem dX10_pleased_50 : decode cX10_pleased 50 = .ok (.iload_n 1, 1) := by decide +kernel
theorem dX10_pleased_51 : decode cX10_pleased 51 = .ok (.invokestatic 352, 3) := by decide +kernel
theorem dX10_pleased_54 : decode cX10_pleased 54 = .ok (.invokestatic 260, 3) := by decide +kernel
theorem dX10_pleased_57 : decode cX10_pleased 57 = .ok (.invokevirtual 161, 3) := by decide +kernel
theorem dX10_pleased_60 : decode cX10_pleased 60 = .ok (.ireturn, 1) := by decide +kernel
set_option maxHeartbeats 4000000 in
set_option maxRecDepth 100000 in
theorem ctX10_pleased {p1 : Int} {σ : jq_M} {res : Int} {σ' : jq_M}  (h : X10_pleased p1 σ = some (res, σ')) : jq_MC jq_zX yX10_pleased cX10_pleased 2 (some .int) 6 156 [jR 0, jI p1] σ (some (jI res)) σ' := by
  refine jq_met (own := RX10) (L0 := [(0, jR 0), (1, jI p1)]) (by decide) rfl rfl rfl ?_
  intro X Γ hnl hlY hRT
  refine jq_use2 (P := fun r => jq_RT jq_zX X (some .int) (some (jI r.1)) r.2) ?_ h hRT
  intro K0 hK0
  unfold X10_pleased
  refine jq_iload_n Γ dX10_pleased_0 rfl 1 rfl ?_
  refine jq_iconst Γ dX10_pleased_1 rfl ?_
  refine jq_aload_n Γ dX10_pleased_2 rfl 0 rfl (jq_at_0 at_X_0) ?_
  refine jq_getC (C := jq_cm2) Γ hlY at_X_0 fl_RX10_25 rfl rfl ly_now dX10_pleased_3 (fun c1 hc2q => ?_)
  have hc2 := jq_cm2_com hc2q
  refine jq_cpI (jq_virt (avs := []) (st := [jI 0, jI p1]) Γ hlY rfl ml_RX10_349 rfl (at_com hc2) rfl rfl rfl rfl rfl dX10_pleased_6) (fun r h => ctX1_allParties hc2 h) (fun v3 => ?_)
  refine jq_cpZ (jq_stat (avs := [jI p1, jI 0, jI v3]) (st := []) Γ hlY rfl ml_RX10_93 rfl rfl rfl rfl rfl dX10_pleased_9) rfl (fun r h => ctX10_within h) (fun v4 hz5 => ?_)
  refine jq_if_ne (tgt := 21) Γ dX10_pleased_12 rfl ?_ ?_
  · refine jq_aload_n Γ dX10_pleased_21 rfl 0 rfl (jq_at_0 at_X_0) ?_
    refine jq_getC (C := jq_cm2) Γ hlY at_X_0 fl_RX10_25 rfl rfl ly_now dX10_pleased_22 (fun c6 hc7q => ?_)
    have hc7 := jq_cm2_com hc7q
    refine jq_getI (J := 0) Γ (at_com hc7) fl_RX10_179 rfl rfl dX10_pleased_25 ?_
    refine jq_if_ne (tgt := 38) Γ dX10_pleased_28 rfl ?_ ?_
    · refine jq_aload_n Γ dX10_pleased_38 rfl 0 rfl (jq_at_0 at_X_0) ?_
      refine jq_aload_n Γ dX10_pleased_39 rfl 0 rfl (jq_at_0 at_X_0) ?_
      refine jq_getR (v := 52) Γ hlY at_X_0 fl_RX10_46 rfl rfl ly_X10_survey dX10_pleased_40 ?_
      refine jq_aload_n Γ dX10_pleased_43 rfl 0 rfl (jq_at_0 at_X_0) ?_
      refine jq_getC (C := jq_cm2) Γ hlY at_X_0 fl_RX10_25 rfl rfl ly_now dX10_pleased_44 (fun c8 hc9q => ?_)
      have hc9 := jq_cm2_com hc9q
      refine jq_cwI (jq_virt (avs := [jR c8]) (st := [jR 0]) Γ hlY rfl ml_RX10_339 rfl at_X_52 rfl rfl rfl rfl rfl dX10_pleased_47) (fun r σ' h => ctX8_outcomes hc9 h) (fun v10 s11 => ?_)
      refine jq_iload_n Γ dX10_pleased_50 rfl 1 rfl ?_
      refine jq_cpZ (jq_stat (avs := [jI v10, jI p1]) (st := [jR 0]) Γ hlY rfl ml_RX10_352 rfl rfl rfl rfl rfl dX10_pleased_51) rfl (fun r h => ctX8_isMet h) (fun v12 hz13 => ?_)
      refine jq_cpI (jq_stat (avs := [jI v12]) (st := [jR 0]) Γ hlY rfl ml_RX10_260 rfl rfl rfl rfl rfl dX10_pleased_54) (fun r h => ctX10_asNumber h) (fun v14 => ?_)
      refine jq_cwI (jq_virt (avs := [jI v14]) (st := []) Γ hlY rfl ml_RX10_161 rfl at_X_0 rfl rfl rfl rfl rfl dX10_pleased_57) (fun r σ' h => ctX10_answer h) (fun v15 s16 => ?_)
      exact jq_ireturn Γ dX10_pleased_60 (hK0 _)
    · refine jq_aload_n Γ dX10_pleased_31 rfl 0 rfl (jq_at_0 at_X_0) ?_
      refine jq_bipush Γ dX10_pleased_32 rfl ?_
      refine jq_cwI (jq_virt (avs := [jI 6]) (st := []) Γ hlY rfl ml_RX10_120 rfl at_X_0 rfl rfl rfl rfl rfl dX10_pleased_34) (fun r σ' h => ctX10_refuse h) (fun v17 s18 => ?_)
      exact jq_ireturn Γ dX10_pleased_37 (hK0 _)
  · refine jq_aload_n Γ dX10_pleased_15 rfl 0 rfl (jq_at_0 at_X_0) ?_
    refine jq_iconst Γ dX10_pleased_16 rfl ?_
    refine jq_cwI (jq_virt (avs := [jI 1]) (st := []) Γ hlY rfl ml_RX10_120 rfl at_X_0 rfl rfl rfl rfl rfl dX10_pleased_17) (fun r σ' h => ctX10_refuse h) (fun v19 s20 => ?_)
    exact jq_ireturn Γ dX10_pleased_20 (hK0 _)


theorem dX8_mostWorthTo_0 : decode cX8_mostWorthTo 0 = .ok (.aload_n 0, 1) := by decide +kernel
theorem dX8_mostWorthTo_1 : decode cX8_mostWorthTo 1 = .ok (.aload_n 1, 1) := by decide +kernel
theorem dX8_mostWorthTo_2 : decode cX8_mostWorthTo 2 = .ok (.invokevirtual 49, 3) := by decide +kernel
theorem dX8_mostWorthTo_5 : decode cX8_mostWorthTo 5 = .ok (.istore_n 3, 1) := by decide +kernel
theorem dX8_mostWorthTo_6 : decode cX8_mostWorthTo 6 = .ok (.aload_n 1, 1) := by decide +kernel
theorem dX8_mostWorthTo_7 : decode cX8_mostWorthTo 7 = .ok (.iload_n 2, 1) := by decide +kernel
theorem dX8_mostWorthTo_8 : decode cX8_mostWorthTo 8 = .ok (.aload_n 0, 1) := by decide +kernel
theorem dX8_mostWorthTo_9 : decode cX8_mostWorthTo 9 = .ok (.getfield 9, 3) := by decide +kernel
theorem dX8_mostWorthTo_12 : decode cX8_mostWorthTo 12 = .ok (.invokevirtual 73, 3) := by decide +kernel
theorem dX8_mostWorthTo_15 : decode cX8_mostWorthTo 15 = .ok (.istore 4, 2) := by decide +kernel
theorem dX8_mostWorthTo_17 : decode cX8_mostWorthTo 17 = .ok (.iconst 0, 1) := by decide +kernel
theorem dX8_mostWorthTo_18 : decode cX8_mostWorthTo 18 = .ok (.istore 5, 2) := by decide +kernel
theorem dX8_mostWorthTo_20 : decode cX8_mostWorthTo 20 = .ok (.iload 5, 2) := by decide +kernel
theorem dX8_mostWorthTo_22 : decode cX8_mostWorthTo 22 = .ok (.iload_n 3, 1) := by decide +kernel
theorem dX8_mostWorthTo_23 : decode cX8_mostWorthTo 23 = .ok (.if_icmp .ge 30, 3) := by decide +kernel
theorem dX8_mostWorthTo_26 : decode cX8_mostWorthTo 26 = .ok (.iload 4, 2) := by decide +kernel
theorem dX8_mostWorthTo_28 : decode cX8_mostWorthTo 28 = .ok (.aload_n 1, 1) := by decide +kernel
theorem dX8_mostWorthTo_29 : decode cX8_mostWorthTo 29 = .ok (.iload_n 2, 1) := by decide +kernel
theorem dX8_mostWorthTo_30 : decode cX8_mostWorthTo 30 = .ok (.aload_n 0, 1) := by decide +kernel
theorem dX8_mostWorthTo_31 : decode cX8_mostWorthTo 31 = .ok (.getfield 9, 3) := by decide +kernel
theorem dX8_mostWorthTo_34 : decode cX8_mostWorthTo 34 = .ok (.invokevirtual 73, 3) := by decide +kernel
theorem dX8_mostWorthTo_37 : decode cX8_mostWorthTo 37 = .ok (.invokestatic 77, 3) := by decide +kernel
theorem dX8_mostWorthTo_40 : decode cX8_mostWorthTo 40 = .ok (.istore 4, 2) := by decide +kernel
theorem dX8_mostWorthTo_42 : decode cX8_mostWorthTo 42 = .ok (.aload_n 0, 1) := by decide +kernel
theorem dX8_mostWorthTo_43 : decode cX8_mostWorthTo 43 = .ok (.aload_n 1, 1) := by decide +kernel
theorem dX8_mostWorthTo_44 : decode cX8_mostWorthTo 44 = .ok (.invokevirtual 60, 3) := by decide +kernel
theorem dX8_mostWorthTo_47 : decode cX8_mostWorthTo 47 = .ok (.iinc 5 1, 3) := by decide +kernel
theorem dX8_mostWorthTo_50 : decode cX8_mostWorthTo 50 = .ok (.goto (-30), 3) := by decide +kernel
theorem dX8_mostWorthTo_53 : decode cX8_mostWorthTo 53 = .ok (.iload 4, 2) := by decide +kernel
theorem dX8_mostWorthTo_55 : decode cX8_mostWorthTo 55 = .ok (.ireturn, 1) := by decide +kernel
set_option maxHeartbeats 4000000 in
set_option maxRecDepth 100000 in
theorem ctX8_mostWorthTo {p1 : Int} {p2 : Int} {σ : jq_M} {res : Int} {σ' : jq_M} (hp1 : jq_com p1) (h : X8_mostWorthTo p1 p2 σ = some (res, σ')) : jq_MC jq_zX yX8_mostWorthTo cX8_mostWorthTo 6 (some .int) 5 132 [jR 52, jR p1, jI p2] σ (some (jI res)) σ' := by
  refine jq_met (own := RX8) (L0 := [(0, jR 52), (1, jR p1), (2, jI p2)]) (by decide) rfl rfl rfl ?_
  intro X Γ hnl hlY hRT
  refine jq_use2 (P := fun r => jq_RT jq_zX X (some .int) (some (jI r.1)) r.2) ?_ h hRT
  intro K0 hK0
  unfold X8_mostWorthTo
  refine jq_aload_n Γ dX8_mostWorthTo_0 rfl 0 rfl (jq_at_0 at_X_52) ?_
  refine jq_aload_n Γ dX8_mostWorthTo_1 rfl 1 rfl (jq_at_0 (at_com hp1)) ?_
  refine jq_cwI (jq_virt (avs := [jR p1]) (st := []) Γ hlY rfl ml_RX8_49 rfl at_X_52 rfl rfl rfl rfl rfl dX8_mostWorthTo_2) (fun r σ' h => ctX8_begin hp1 h) (fun v1 s2 => ?_)
  refine jq_istore_n (L' := [(3, jI v1), (0, jR 52), (1, jR p1), (2, jI p2)]) Γ dX8_mostWorthTo_5 rfl hnl rfl rfl ?_
  refine jq_aload_n Γ dX8_mostWorthTo_6 rfl 2 rfl (jq_at_0 (at_com hp1)) ?_
  refine jq_iload_n Γ dX8_mostWorthTo_7 rfl 3 rfl ?_
  refine jq_aload_n Γ dX8_mostWorthTo_8 rfl 1 rfl (jq_at_0 at_X_52) ?_
  refine jq_getR (v := 53) Γ hlY at_X_52 fl_RX8_9 rfl rfl ly_X8_row dX8_mostWorthTo_9 ?_
  refine jq_cpI (jq_virt (avs := [jI p2, jR 53]) (st := []) Γ hlY rfl ml_RX8_73 rfl (at_com hp1) rfl rfl rfl rfl rfl dX8_mostWorthTo_12) (fun r h => ctX1_worthTo hp1 row_53 h) (fun v3 => ?_)
  refine jq_istore (L' := [(4, jI v3), (3, jI v1), (0, jR 52), (1, jR p1), (2, jI p2)]) Γ dX8_mostWorthTo_15 hnl rfl rfl ?_
  refine jq_iconst Γ dX8_mostWorthTo_17 rfl ?_
  refine jq_istore (L' := [(5, jI 0), (4, jI v3), (3, jI v1), (0, jR 52), (1, jR p1), (2, jI p2)]) Γ dX8_mostWorthTo_18 hnl rfl rfl ?_
  refine jq_sub Γ (L' := [(0, jR 52), (1, jR p1), (2, jI p2), (3, jI v1), (4, jI v3), (5, jI 0)]) [3, 4, 5, 2, 1, 0] rfl ?_
  refine jq_loop2 (C := fun (t4 : Int × Int × jq_M) => jq_V jq_zX X (jq_zN jq_zX) t4.2.2 20 [(0, jR 52), (1, jR p1), (2, jI p2), (3, jI v1), (4, jI t4.1), (5, jI t4.2.1)] []) (KX := fun (e9 : Int × jq_M) => jq_V jq_zX X (jq_zN jq_zX) e9.2 53 [(4, jI e9.1)] []) ?_ ?_ (v3, 0, s2)
  · intro K20_t4 hCt4 hXt4 t4
    unfold X8_mostWorthTo_b20
    refine jq_iload Γ dX8_mostWorthTo_20 5 rfl ?_
    refine jq_iload_n Γ dX8_mostWorthTo_22 rfl 3 rfl ?_
    refine jq_icmp_ge (tgt := 53) Γ dX8_mostWorthTo_23 rfl ?_ ?_
    · refine jq_sub Γ (L' := [(4, jI t4.1)]) [4] rfl ?_
      exact jq_done (hXt4 (t4.1, t4.2.2))
    · refine jq_iload Γ dX8_mostWorthTo_26 4 rfl ?_
      refine jq_aload_n Γ dX8_mostWorthTo_28 rfl 1 rfl (jq_at_0 (at_com hp1)) ?_
      refine jq_iload_n Γ dX8_mostWorthTo_29 rfl 2 rfl ?_
      refine jq_aload_n Γ dX8_mostWorthTo_30 rfl 0 rfl (jq_at_0 at_X_52) ?_
      refine jq_getR (v := 53) Γ hlY at_X_52 fl_RX8_9 rfl rfl ly_X8_row dX8_mostWorthTo_31 ?_
      refine jq_cpI (jq_virt (avs := [jI p2, jR 53]) (st := [jI t4.1]) Γ hlY rfl ml_RX8_73 rfl (at_com hp1) rfl rfl rfl rfl rfl dX8_mostWorthTo_34) (fun r h => ctX1_worthTo hp1 row_53 h) (fun v5 => ?_)
      refine jq_mmax Γ mw_RX8_77 mws_max mwi mwc_max rfl rfl dX8_mostWorthTo_37 ?_
      refine jq_nmI (fun v6 => ?_)
      refine jq_istore (L' := [(4, jI v6), (0, jR 52), (1, jR p1), (2, jI p2), (3, jI v1), (5, jI t4.2.1)]) Γ dX8_mostWorthTo_40 hnl rfl rfl ?_
      refine jq_aload_n Γ dX8_mostWorthTo_42 rfl 1 rfl (jq_at_0 at_X_52) ?_
      refine jq_aload_n Γ dX8_mostWorthTo_43 rfl 2 rfl (jq_at_0 (at_com hp1)) ?_
      refine jq_cwV (jq_virt (avs := [jR p1]) (st := []) Γ hlY rfl ml_RX8_60 rfl at_X_52 rfl rfl rfl rfl rfl dX8_mostWorthTo_44) (fun σ' h => ctX8_goOn hp1 h) (fun s7 => ?_)
      refine jq_iincN (L' := fun v8 => [(5, jI v8), (4, jI v6), (0, jR 52), (1, jR p1), (2, jI p2), (3, jI v1)]) Γ dX8_mostWorthTo_47 5 rfl hnl rfl (fun _ => rfl) (fun v8 => ?_)
      refine jq_goto Γ (tgt := 20) dX8_mostWorthTo_50 rfl ?_
      refine jq_sub Γ (L' := [(0, jR 52), (1, jR p1), (2, jI p2), (3, jI v1), (4, jI v6), (5, jI v8)]) [2, 3, 4, 5, 1, 0] rfl ?_
      exact jq_done (hCt4 (v6, v8, s7))
  · intro e9
    refine jq_iload Γ dX8_mostWorthTo_53 0 rfl ?_
    exact jq_ireturn Γ dX8_mostWorthTo_55 (hK0 _)


theorem dX10_mostFor_0 : decode cX10_mostFor 0 = .ok (.aload_n 0, 1) := by decide +kernel
theorem dX10_mostFor_1 : decode cX10_mostFor 1 = .ok (.getfield 25, 3) := by decide +kernel
theorem dX10_mostFor_4 : decode cX10_mostFor 4 = .ok (.iload_n 1, 1) := by decide +kernel
theorem dX10_mostFor_5 : decode cX10_mostFor 5 = .ok (.invokevirtual 221, 3) := by decide +kernel
theorem dX10_mostFor_8 : decode cX10_mostFor 8 = .ok (.ifCond .ne 9, 3) := by decide +kernel
theorem dX10_mostFor_11 : decode cX10_mostFor 11 = .ok (.aload_n 0, 1) := by decide +kernel
theorem dX10_mostFor_12 : decode cX10_mostFor 12 = .ok (.iconst 1, 1) := by decide +kernel
theorem dX10_mostFor_13 : decode cX10_mostFor 13 = .ok (.invokevirtual 120, 3) := by decide +kernel
theorem dX10_mostFor_16 : decode cX10_mostFor 16 = .ok (.ireturn, 1) := by decide +kernel
theorem dX10_mostFor_17 : decode cX10_mostFor 17 = .ok (.aload_n 0, 1) := by decide +kernel
theorem dX10_mostFor_18 : decode cX10_mostFor 18 = .ok (.aload_n 0, 1) := by decide +kernel
theorem dX10_mostFor_19 : decode cX10_mostFor 19 = .ok (.getfield 46, 3) := by decide +kernel
theorem dX10_mostFor_22 : decode cX10_mostFor 22 = .ok (.aload_n 0, 1) := by decide +kernel
theorem dX10_mostFor_23 : decode cX10_mostFor 23 = .ok (.getfield 25, 3) := by decide +kernel
theorem dX10_mostFor_26 : decode cX10_mostFor 26 = .ok (.iload_n 1, 1) := by decide +kernel
theorem dX10_mostFor_27 : decode cX10_mostFor 27 = .ok (.invokevirtual 355, 3) := by decide +kernel
theorem dX10_mostFor_30 : decode cX10_mostFor 30 = .ok (.invokevirtual 161, 3) := by decide +kernel
theorem dX10_mostFor_33 : decode cX10_mostFor 33 = .ok (.ireturn, 1) := by decide +kernel
set_option maxHeartbeats 4000000 in
set_option maxRecDepth 100000 in
theorem ctX10_mostFor {p1 : Int} {σ : jq_M} {res : Int} {σ' : jq_M}  (h : X10_mostFor p1 σ = some (res, σ')) : jq_MC jq_zX yX10_mostFor cX10_mostFor 2 (some .int) 6 157 [jR 0, jI p1] σ (some (jI res)) σ' := by
  refine jq_met (own := RX10) (L0 := [(0, jR 0), (1, jI p1)]) (by decide) rfl rfl rfl ?_
  intro X Γ hnl hlY hRT
  refine jq_use2 (P := fun r => jq_RT jq_zX X (some .int) (some (jI r.1)) r.2) ?_ h hRT
  intro K0 hK0
  unfold X10_mostFor
  refine jq_aload_n Γ dX10_mostFor_0 rfl 0 rfl (jq_at_0 at_X_0) ?_
  refine jq_getC (C := jq_cm2) Γ hlY at_X_0 fl_RX10_25 rfl rfl ly_now dX10_mostFor_1 (fun c1 hc2q => ?_)
  have hc2 := jq_cm2_com hc2q
  refine jq_iload_n Γ dX10_mostFor_4 rfl 1 rfl ?_
  refine jq_cpZ (jq_virt (avs := [jI p1]) (st := []) Γ hlY rfl ml_RX10_221 rfl (at_com hc2) rfl rfl rfl rfl rfl dX10_mostFor_5) rfl (fun r h => ctX1_isParty hc2 h) (fun v3 hz4 => ?_)
  refine jq_if_ne (tgt := 17) Γ dX10_mostFor_8 rfl ?_ ?_
  · refine jq_aload_n Γ dX10_mostFor_17 rfl 0 rfl (jq_at_0 at_X_0) ?_
    refine jq_aload_n Γ dX10_mostFor_18 rfl 0 rfl (jq_at_0 at_X_0) ?_
    refine jq_getR (v := 52) Γ hlY at_X_0 fl_RX10_46 rfl rfl ly_X10_survey dX10_mostFor_19 ?_
    refine jq_aload_n Γ dX10_mostFor_22 rfl 0 rfl (jq_at_0 at_X_0) ?_
    refine jq_getC (C := jq_cm2) Γ hlY at_X_0 fl_RX10_25 rfl rfl ly_now dX10_mostFor_23 (fun c5 hc6q => ?_)
    have hc6 := jq_cm2_com hc6q
    refine jq_iload_n Γ dX10_mostFor_26 rfl 1 rfl ?_
    refine jq_cwI (jq_virt (avs := [jR c5, jI p1]) (st := [jR 0]) Γ hlY rfl ml_RX10_355 rfl at_X_52 rfl rfl rfl rfl rfl dX10_mostFor_27) (fun r σ' h => ctX8_mostWorthTo hc6 h) (fun v7 s8 => ?_)
    refine jq_cwI (jq_virt (avs := [jI v7]) (st := []) Γ hlY rfl ml_RX10_161 rfl at_X_0 rfl rfl rfl rfl rfl dX10_mostFor_30) (fun r σ' h => ctX10_answer h) (fun v9 s10 => ?_)
    exact jq_ireturn Γ dX10_mostFor_33 (hK0 _)
  · refine jq_aload_n Γ dX10_mostFor_11 rfl 0 rfl (jq_at_0 at_X_0) ?_
    refine jq_iconst Γ dX10_mostFor_12 rfl ?_
    refine jq_cwI (jq_virt (avs := [jI 1]) (st := []) Γ hlY rfl ml_RX10_120 rfl at_X_0 rfl rfl rfl rfl rfl dX10_mostFor_13) (fun r σ' h => ctX10_refuse h) (fun v11 s12 => ?_)
    exact jq_ireturn Γ dX10_mostFor_16 (hK0 _)


theorem dX8_countSigned_0 : decode cX8_countSigned 0 = .ok (.aload_n 0, 1) := by decide +kernel
theorem dX8_countSigned_1 : decode cX8_countSigned 1 = .ok (.aload_n 1, 1) := by decide +kernel
theorem dX8_countSigned_2 : decode cX8_countSigned 2 = .ok (.invokevirtual 49, 3) := by decide +kernel
theorem dX8_countSigned_5 : decode cX8_countSigned 5 = .ok (.istore_n 3, 1) := by decide +kernel
theorem dX8_countSigned_6 : decode cX8_countSigned 6 = .ok (.iconst 0, 1) := by decide +kernel
theorem dX8_countSigned_7 : decode cX8_countSigned 7 = .ok (.istore 4, 2) := by decide +kernel
theorem dX8_countSigned_9 : decode cX8_countSigned 9 = .ok (.iconst 0, 1) := by decide +kernel
theorem dX8_countSigned_10 : decode cX8_countSigned 10 = .ok (.istore 5, 2) := by decide +kernel
theorem dX8_countSigned_12 : decode cX8_countSigned 12 = .ok (.iload 5, 2) := by decide +kernel
theorem dX8_countSigned_14 : decode cX8_countSigned 14 = .ok (.iload_n 3, 1) := by decide +kernel
theorem dX8_countSigned_15 : decode cX8_countSigned 15 = .ok (.if_icmp .ge 29, 3) := by decide +kernel
theorem dX8_countSigned_18 : decode cX8_countSigned 18 = .ok (.aload_n 1, 1) := by decide +kernel
theorem dX8_countSigned_19 : decode cX8_countSigned 19 = .ok (.iload_n 2, 1) := by decide +kernel
theorem dX8_countSigned_20 : decode cX8_countSigned 20 = .ok (.aload_n 0, 1) := by decide +kernel
theorem dX8_countSigned_21 : decode cX8_countSigned 21 = .ok (.getfield 9, 3) := by decide +kernel
theorem dX8_countSigned_24 : decode cX8_countSigned 24 = .ok (.invokevirtual 82, 3) := by decide +kernel
theorem dX8_countSigned_27 : decode cX8_countSigned 27 = .ok (.ifCond .eq 6, 3) := by decide +kernel
theorem dX8_countSigned_30 : decode cX8_countSigned 30 = .ok (.iinc 4 1, 3) := by decide +kernel
theorem dX8_countSigned_33 : decode cX8_countSigned 33 = .ok (.aload_n 0, 1) := by decide +kernel
theorem dX8_countSigned_34 : decode cX8_countSigned 34 = .ok (.aload_n 1, 1) := by decide +kernel
theorem dX8_countSigned_35 : decode cX8_countSigned 35 = .ok (.invokevirtual 60, 3) := by decide +kernel
theorem dX8_countSigned_38 : decode cX8_countSigned 38 = .ok (.iinc 5 1, 3) := by decide +kernel
theorem dX8_countSigned_41 : decode cX8_countSigned 41 = .ok (.goto (-29), 3) := by decide +kernel
theorem dX8_countSigned_44 : decode cX8_countSigned 44 = .ok (.iload 4, 2) := by decide +kernel
theorem dX8_countSigned_46 : decode cX8_countSigned 46 = .ok (.ireturn, 1) := by decide +kernel
set_option maxHeartbeats 4000000 in
set_option maxRecDepth 100000 in
theorem ctX8_countSigned {p1 : Int} {p2 : Int} {σ : jq_M} {res : Int} {σ' : jq_M} (hp1 : jq_com p1) (h : X8_countSigned p1 p2 σ = some (res, σ')) : jq_MC jq_zX yX8_countSigned cX8_countSigned 6 (some .int) 5 133 [jR 52, jR p1, jI p2] σ (some (jI res)) σ' := by
  refine jq_met (own := RX8) (L0 := [(0, jR 52), (1, jR p1), (2, jI p2)]) (by decide) rfl rfl rfl ?_
  intro X Γ hnl hlY hRT
  refine jq_use2 (P := fun r => jq_RT jq_zX X (some .int) (some (jI r.1)) r.2) ?_ h hRT
  intro K0 hK0
  unfold X8_countSigned
  refine jq_aload_n Γ dX8_countSigned_0 rfl 0 rfl (jq_at_0 at_X_52) ?_
  refine jq_aload_n Γ dX8_countSigned_1 rfl 1 rfl (jq_at_0 (at_com hp1)) ?_
  refine jq_cwI (jq_virt (avs := [jR p1]) (st := []) Γ hlY rfl ml_RX8_49 rfl at_X_52 rfl rfl rfl rfl rfl dX8_countSigned_2) (fun r σ' h => ctX8_begin hp1 h) (fun v1 s2 => ?_)
  refine jq_istore_n (L' := [(3, jI v1), (0, jR 52), (1, jR p1), (2, jI p2)]) Γ dX8_countSigned_5 rfl hnl rfl rfl ?_
  refine jq_iconst Γ dX8_countSigned_6 rfl ?_
  refine jq_istore (L' := [(4, jI 0), (3, jI v1), (0, jR 52), (1, jR p1), (2, jI p2)]) Γ dX8_countSigned_7 hnl rfl rfl ?_
  refine jq_iconst Γ dX8_countSigned_9 rfl ?_
  refine jq_istore (L' := [(5, jI 0), (4, jI 0), (3, jI v1), (0, jR 52), (1, jR p1), (2, jI p2)]) Γ dX8_countSigned_10 hnl rfl rfl ?_
  refine jq_sub Γ (L' := [(0, jR 52), (1, jR p1), (2, jI p2), (3, jI v1), (4, jI 0), (5, jI 0)]) [3, 4, 5, 2, 1, 0] rfl ?_
  refine jq_loop2 (C := fun (t3 : Int × Int × jq_M) => jq_V jq_zX X (jq_zN jq_zX) t3.2.2 12 [(0, jR 52), (1, jR p1), (2, jI p2), (3, jI v1), (4, jI t3.1), (5, jI t3.2.1)] []) (KX := fun (e12 : Int × jq_M) => jq_V jq_zX X (jq_zN jq_zX) e12.2 44 [(4, jI e12.1)] []) ?_ ?_ (0, 0, s2)
  · intro K12_t3 hCt3 hXt3 t3
    unfold X8_countSigned_b12
    have hj33_1010 : ∀ (j6 : Int) (j7 : Int) (s8 : jq_M), jq_J (X8_countSigned_j33 p1 p2 v1 j6 j7 s8) K12_t3 (jq_V jq_zX X (jq_zN jq_zX) s8 33 [(0, jR 52), (1, jR p1), (2, jI p2), (3, jI v1), (4, jI j6), (5, jI j7)] []) := by
      intro j6 j7 s8
      unfold X8_countSigned_j33
      refine jq_aload_n Γ dX8_countSigned_33 rfl 0 rfl (jq_at_0 at_X_52) ?_
      refine jq_aload_n Γ dX8_countSigned_34 rfl 1 rfl (jq_at_0 (at_com hp1)) ?_
      refine jq_cwV (jq_virt (avs := [jR p1]) (st := []) Γ hlY rfl ml_RX8_60 rfl at_X_52 rfl rfl rfl rfl rfl dX8_countSigned_35) (fun σ' h => ctX8_goOn hp1 h) (fun s9 => ?_)
      refine jq_iincN (L' := fun v10 => [(5, jI v10), (0, jR 52), (1, jR p1), (2, jI p2), (3, jI v1), (4, jI j6)]) Γ dX8_countSigned_38 5 rfl hnl rfl (fun _ => rfl) (fun v10 => ?_)
      refine jq_goto Γ (tgt := 12) dX8_countSigned_41 rfl ?_
      refine jq_sub Γ (L' := [(0, jR 52), (1, jR p1), (2, jI p2), (3, jI v1), (4, jI j6), (5, jI v10)]) [1, 2, 3, 4, 5, 0] rfl ?_
      exact jq_done (hCt3 (j6, v10, s9))
    refine jq_iload Γ dX8_countSigned_12 5 rfl ?_
    refine jq_iload_n Γ dX8_countSigned_14 rfl 3 rfl ?_
    refine jq_icmp_ge (tgt := 44) Γ dX8_countSigned_15 rfl ?_ ?_
    · refine jq_sub Γ (L' := [(4, jI t3.1)]) [4] rfl ?_
      exact jq_done (hXt3 (t3.1, t3.2.2))
    · refine jq_aload_n Γ dX8_countSigned_18 rfl 1 rfl (jq_at_0 (at_com hp1)) ?_
      refine jq_iload_n Γ dX8_countSigned_19 rfl 2 rfl ?_
      refine jq_aload_n Γ dX8_countSigned_20 rfl 0 rfl (jq_at_0 at_X_52) ?_
      refine jq_getR (v := 53) Γ hlY at_X_52 fl_RX8_9 rfl rfl ly_X8_row dX8_countSigned_21 ?_
      refine jq_cpZ (jq_virt (avs := [jI p2, jR 53]) (st := []) Γ hlY rfl ml_RX8_82 rfl (at_com hp1) rfl rfl rfl rfl rfl dX8_countSigned_24) rfl (fun r h => ctX1_doesSign hp1 row_53 h) (fun v4 hz5 => ?_)
      refine jq_if_eq (tgt := 33) Γ dX8_countSigned_27 rfl ?_ ?_
      · exact hj33_1010 t3.1 t3.2.1 t3.2.2
      · refine jq_iincN (L' := fun v11 => [(4, jI v11), (0, jR 52), (1, jR p1), (2, jI p2), (3, jI v1), (5, jI t3.2.1)]) Γ dX8_countSigned_30 4 rfl hnl rfl (fun _ => rfl) (fun v11 => ?_)
        refine jq_sub Γ (L' := [(0, jR 52), (1, jR p1), (2, jI p2), (3, jI v1), (4, jI v11), (5, jI t3.2.1)]) [1, 2, 3, 4, 0, 5] rfl ?_
        exact hj33_1010 v11 t3.2.1 t3.2.2
  · intro e12
    refine jq_iload Γ dX8_countSigned_44 0 rfl ?_
    exact jq_ireturn Γ dX8_countSigned_46 (hK0 _)


theorem dX10_signsIn_0 : decode cX10_signsIn 0 = .ok (.aload_n 0, 1) := by decide +kernel
theorem dX10_signsIn_1 : decode cX10_signsIn 1 = .ok (.getfield 25, 3) := by decide +kernel
theorem dX10_signsIn_4 : decode cX10_signsIn 4 = .ok (.iload_n 1, 1) := by decide +kernel
theorem dX10_signsIn_5 : decode cX10_signsIn 5 = .ok (.invokevirtual 221, 3) := by decide +kernel
theorem dX10_signsIn_8 : decode cX10_signsIn 8 = .ok (.ifCond .ne 9, 3) := by decide +kernel
theorem dX10_signsIn_11 : decode cX10_signsIn 11 = .ok (.aload_n 0, 1) := by decide +kernel
theorem dX10_signsIn_12 : decode cX10_signsIn 12 = .ok (.iconst 1, 1) := by decide +kernel
theorem dX10_signsIn_13 : decode cX10_signsIn 13 = .ok (.invokevirtual 120, 3) := by decide +kernel
theorem dX10_signsIn_16 : decode cX10_signsIn 16 = .ok (.ireturn, 1) := by decide +kernel
theorem dX10_signsIn_17 : decode cX10_signsIn 17 = .ok (.aload_n 0, 1) := by decide +kernel
theorem dX10_signsIn_18 : decode cX10_signsIn 18 = .ok (.aload_n 0, 1) := by decide +kernel
theorem dX10_signsIn_19 : decode cX10_signsIn 19 = .ok (.getfield 46, 3) := by decide +kernel
theorem dX10_signsIn_22 : decode cX10_signsIn 22 = .ok (.aload_n 0, 1) := by decide +kernel
theorem dX10_signsIn_23 : decode cX10_signsIn 23 = .ok (.getfield 25, 3) := by decide +kernel
theorem dX10_signsIn_26 : decode cX10_signsIn 26 = .ok (.iload_n 1, 1) := by decide +kernel
theorem dX10_signsIn_27 : decode cX10_signsIn 27 = .ok (.invokevirtual 359, 3) := by decide +kernel
theorem dX10_signsIn_30 : decode cX10_signsIn 30 = .ok (.invokevirtual 161, 3) := by decide +kernel
theorem dX10_signsIn_33 : decode cX10_signsIn 33 = .ok (.ireturn, 1) := by decide +kernel
set_option maxHeartbeats 4000000 in
set_option maxRecDepth 100000 in
theorem ctX10_signsIn {p1 : Int} {σ : jq_M} {res : Int} {σ' : jq_M}  (h : X10_signsIn p1 σ = some (res, σ')) : jq_MC jq_zX yX10_signsIn cX10_signsIn 2 (some .int) 6 158 [jR 0, jI p1] σ (some (jI res)) σ' := by
  refine jq_met (own := RX10) (L0 := [(0, jR 0), (1, jI p1)]) (by decide) rfl rfl rfl ?_
  intro X Γ hnl hlY hRT
  refine jq_use2 (P := fun r => jq_RT jq_zX X (some .int) (some (jI r.1)) r.2) ?_ h hRT
  intro K0 hK0
  unfold X10_signsIn
  refine jq_aload_n Γ dX10_signsIn_0 rfl 0 rfl (jq_at_0 at_X_0) ?_
  refine jq_getC (C := jq_cm2) Γ hlY at_X_0 fl_RX10_25 rfl rfl ly_now dX10_signsIn_1 (fun c1 hc2q => ?_)
  have hc2 := jq_cm2_com hc2q
  refine jq_iload_n Γ dX10_signsIn_4 rfl 1 rfl ?_
  refine jq_cpZ (jq_virt (avs := [jI p1]) (st := []) Γ hlY rfl ml_RX10_221 rfl (at_com hc2) rfl rfl rfl rfl rfl dX10_signsIn_5) rfl (fun r h => ctX1_isParty hc2 h) (fun v3 hz4 => ?_)
  refine jq_if_ne (tgt := 17) Γ dX10_signsIn_8 rfl ?_ ?_
  · refine jq_aload_n Γ dX10_signsIn_17 rfl 0 rfl (jq_at_0 at_X_0) ?_
    refine jq_aload_n Γ dX10_signsIn_18 rfl 0 rfl (jq_at_0 at_X_0) ?_
    refine jq_getR (v := 52) Γ hlY at_X_0 fl_RX10_46 rfl rfl ly_X10_survey dX10_signsIn_19 ?_
    refine jq_aload_n Γ dX10_signsIn_22 rfl 0 rfl (jq_at_0 at_X_0) ?_
    refine jq_getC (C := jq_cm2) Γ hlY at_X_0 fl_RX10_25 rfl rfl ly_now dX10_signsIn_23 (fun c5 hc6q => ?_)
    have hc6 := jq_cm2_com hc6q
    refine jq_iload_n Γ dX10_signsIn_26 rfl 1 rfl ?_
    refine jq_cwI (jq_virt (avs := [jR c5, jI p1]) (st := [jR 0]) Γ hlY rfl ml_RX10_359 rfl at_X_52 rfl rfl rfl rfl rfl dX10_signsIn_27) (fun r σ' h => ctX8_countSigned hc6 h) (fun v7 s8 => ?_)
    refine jq_cwI (jq_virt (avs := [jI v7]) (st := []) Γ hlY rfl ml_RX10_161 rfl at_X_0 rfl rfl rfl rfl rfl dX10_signsIn_30) (fun r σ' h => ctX10_answer h) (fun v9 s10 => ?_)
    exact jq_ireturn Γ dX10_signsIn_33 (hK0 _)
  · refine jq_aload_n Γ dX10_signsIn_11 rfl 0 rfl (jq_at_0 at_X_0) ?_
    refine jq_iconst Γ dX10_signsIn_12 rfl ?_
    refine jq_cwI (jq_virt (avs := [jI 1]) (st := []) Γ hlY rfl ml_RX10_120 rfl at_X_0 rfl rfl rfl rfl rfl dX10_signsIn_13) (fun r σ' h => ctX10_refuse h) (fun v11 s12 => ?_)
    exact jq_ireturn Γ dX10_signsIn_16 (hK0 _)


theorem dX10_seatBest_0 : decode cX10_seatBest 0 = .ok (.aload_n 0, 1) := by decide +kernel
theorem dX10_seatBest_1 : decode cX10_seatBest 1 = .ok (.getfield 25, 3) := by decide +kernel
theorem dX10_seatBest_4 : decode cX10_seatBest 4 = .ok (.getfield 179, 3) := by decide +kernel
theorem dX10_seatBest_7 : decode cX10_seatBest 7 = .ok (.ifCond .ne 10, 3) := by decide +kernel
theorem dX10_seatBest_10 : decode cX10_seatBest 10 = .ok (.aload_n 0, 1) := by decide +kernel
theorem dX10_seatBest_11 : decode cX10_seatBest 11 = .ok (.bipush 6, 2) := by decide +kernel
theorem dX10_seatBest_13 : decode cX10_seatBest 13 = .ok (.invokevirtual 120, 3) := by decide +kernel
theorem dX10_seatBest_16 : decode cX10_seatBest 16 = .ok (.ireturn, 1) := by decide +kernel
theorem dX10_seatBest_17 : decode cX10_seatBest 17 = .ok (.aload_n 0, 1) := by decide +kernel
theorem dX10_seatBest_18 : decode cX10_seatBest 18 = .ok (.getfield 46, 3) := by decide +kernel
theorem dX10_seatBest_21 : decode cX10_seatBest 21 = .ok (.aload_n 0, 1) := by decide +kernel
theorem dX10_seatBest_22 : decode cX10_seatBest 22 = .ok (.getfield 25, 3) := by decide +kernel
theorem dX10_seatBest_25 : decode cX10_seatBest 25 = .ok (.invokevirtual 333, 3) := by decide +kernel
theorem dX10_seatBest_28 : decode cX10_seatBest 28 = .ok (.istore_n 1, 1) := by decide +kernel
theorem dX10_seatBest_29 : decode cX10_seatBest 29 = .ok (.aload_n 0, 1) := by decide +kernel
theorem dX10_seatBest_30 : decode cX10_seatBest 30 = .ok (.getfield 46, 3) := by decide +kernel
theorem dX10_seatBest_33 : decode cX10_seatBest 33 = .ok (.getfield 336, 3) := by decide +kernel
theorem dX10_seatBest_36 : decode cX10_seatBest 36 = .ok (.iconst 0, 1) := by decide +kernel
theorem dX10_seatBest_37 : decode cX10_seatBest 37 = .ok (.aload_n 0, 1) := by decide +kernel
theorem dX10_seatBest_38 : decode cX10_seatBest 38 = .ok (.getfield 25, 3) := by decide +kernel
theorem dX10_seatBest_41 : decode cX10_seatBest 41 = .ok (.getfield 194, 3) := by decide +kernel
theorem dX10_seatBest_44 : decode cX10_seatBest 44 = .ok (.iconst 0, 1) := by decide +kernel
theorem dX10_seatBest_45 : decode cX10_seatBest 45 = .ok (.aload_n 0, 1) := by decide +kernel
theorem dX10_seatBest_46 : decode cX10_seatBest 46 = .ok (.getfield 25, 3) := by decide +kernel
theorem dX10_seatBest_49 : decode cX10_seatBest 49 = .ok (.getfield 182, 3) := by decide +kernel
theorem dX10_seatBest_52 : decode cX10_seatBest 52 = .ok (.invokestatic 133, 3) := by decide +kernel
theorem dX10_seatBest_55 : decode cX10_seatBest 55 = .ok (.aload_n 0, 1) := by decide +kernel
theorem dX10_seatBest_56 : decode cX10_seatBest 56 = .ok (.iload_n 1, 1) := by decide +kernel
theorem dX10_seatBest_57 : decode cX10_seatBest 57 = .ok (.invokevirtual 161, 3) := by decide +kernel
theorem dX10_seatBest_60 : decode cX10_seatBest 60 = .ok (.ireturn, 1) := by decide +kernel
set_option maxHeartbeats 4000000 in
set_option maxRecDepth 100000 in
theorem ctX10_seatBest  {σ : jq_M} {res : Int} {σ' : jq_M}  (h : X10_seatBest σ = some (res, σ')) : jq_MC jq_zX yX10_seatBest cX10_seatBest 2 (some .int) 6 157 [jR 0] σ (some (jI res)) σ' := by
  refine jq_met (own := RX10) (L0 := [(0, jR 0)]) (by decide) rfl rfl rfl ?_
  intro X Γ hnl hlY hRT
  refine jq_use2 (P := fun r => jq_RT jq_zX X (some .int) (some (jI r.1)) r.2) ?_ h hRT
  intro K0 hK0
  unfold X10_seatBest
  refine jq_aload_n Γ dX10_seatBest_0 rfl 0 rfl (jq_at_0 at_X_0) ?_
  refine jq_getC (C := jq_cm2) Γ hlY at_X_0 fl_RX10_25 rfl rfl ly_now dX10_seatBest_1 (fun c1 hc2q => ?_)
  have hc2 := jq_cm2_com hc2q
  refine jq_getI (J := 0) Γ (at_com hc2) fl_RX10_179 rfl rfl dX10_seatBest_4 ?_
  refine jq_if_ne (tgt := 17) Γ dX10_seatBest_7 rfl ?_ ?_
  · refine jq_aload_n Γ dX10_seatBest_17 rfl 0 rfl (jq_at_0 at_X_0) ?_
    refine jq_getR (v := 52) Γ hlY at_X_0 fl_RX10_46 rfl rfl ly_X10_survey dX10_seatBest_18 ?_
    refine jq_aload_n Γ dX10_seatBest_21 rfl 0 rfl (jq_at_0 at_X_0) ?_
    refine jq_getC (C := jq_cm2) Γ hlY at_X_0 fl_RX10_25 rfl rfl ly_now dX10_seatBest_22 (fun c3 hc4q => ?_)
    have hc4 := jq_cm2_com hc4q
    refine jq_cwI (jq_virt (avs := [jR c3]) (st := []) Γ hlY rfl ml_RX10_333 rfl at_X_52 rfl rfl rfl rfl rfl dX10_seatBest_25) (fun r σ' h => ctX8_findBest hc4 h) (fun v5 s6 => ?_)
    refine jq_istore_n (L' := [(1, jI v5), (0, jR 0)]) Γ dX10_seatBest_28 rfl hnl rfl rfl ?_
    refine jq_aload_n Γ dX10_seatBest_29 rfl 1 rfl (jq_at_0 at_X_0) ?_
    refine jq_getR (v := 52) Γ hlY at_X_0 fl_RX10_46 rfl rfl ly_X10_survey dX10_seatBest_30 ?_
    refine jq_getR (v := 54) Γ hlY at_X_52 fl_RX10_336 rfl rfl ly_X8_chosen dX10_seatBest_33 ?_
    refine jq_iconst Γ dX10_seatBest_36 rfl ?_
    refine jq_aload_n Γ dX10_seatBest_37 rfl 1 rfl (jq_at_0 at_X_0) ?_
    refine jq_getC (C := jq_cm2) Γ hlY at_X_0 fl_RX10_25 rfl rfl ly_now dX10_seatBest_38 (fun c7 hc8q => ?_)
    have hc8 := jq_cm2_com hc8q
    refine jq_getR (v := (c7 + 3)) Γ hlY (at_com hc8) fl_RX10_194 rfl rfl (ly_X1_seats hc8) dX10_seatBest_41 ?_
    refine jq_iconst Γ dX10_seatBest_44 rfl ?_
    refine jq_aload_n Γ dX10_seatBest_45 rfl 1 rfl (jq_at_0 at_X_0) ?_
    refine jq_getC (C := jq_cm2) Γ hlY at_X_0 fl_RX10_25 rfl rfl ly_now dX10_seatBest_46 (fun c9 hc10q => ?_)
    have hc10 := jq_cm2_com hc10q
    refine jq_getI (J := 2) Γ (at_com hc10) fl_RX10_182 rfl rfl dX10_seatBest_49 ?_
    refine jq_copyi Γ at_X_54 (at_com_3 hc8) rfl rfl rfl aw_RX10_133 awn aws awi rfl rfl dX10_seatBest_52 (fun s11 => ?_)
    refine jq_aload_n Γ dX10_seatBest_55 rfl 1 rfl (jq_at_0 at_X_0) ?_
    refine jq_iload_n Γ dX10_seatBest_56 rfl 0 rfl ?_
    refine jq_cwI (jq_virt (avs := [jI v5]) (st := []) Γ hlY rfl ml_RX10_161 rfl at_X_0 rfl rfl rfl rfl rfl dX10_seatBest_57) (fun r σ' h => ctX10_answer h) (fun v12 s13 => ?_)
    exact jq_ireturn Γ dX10_seatBest_60 (hK0 _)
  · refine jq_aload_n Γ dX10_seatBest_10 rfl 0 rfl (jq_at_0 at_X_0) ?_
    refine jq_bipush Γ dX10_seatBest_11 rfl ?_
    refine jq_cwI (jq_virt (avs := [jI 6]) (st := []) Γ hlY rfl ml_RX10_120 rfl at_X_0 rfl rfl rfl rfl rfl dX10_seatBest_13) (fun r σ' h => ctX10_refuse h) (fun v14 s15 => ?_)
    exact jq_ireturn Γ dX10_seatBest_16 (hK0 _)


