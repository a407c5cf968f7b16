theorem mw_RX8_41 : Cond.methodLink RX8 41 Lib.Math.max.name ∈ jq_T := jq_in 1168 (by decide +kernel) rfl
theorem mws_max : Cond.static Lib.Math.max.name ∈ jq_T := jq_in 1169 (by decide +kernel) rfl
theorem mwc_max : Cond.code Lib.Math.max.name Lib.Math.max.code 2 (some .int) ∈ jq_T := jq_in 1170 (by decide +kernel) rfl
theorem fl_RX8_9 : jq_fl RX8 9 5 4 0 true := ⟨RX8, TX8, tyX8, cls_X8, by decide, jq_in 445 (by decide +kernel) rfl, by decide⟩
theorem yf_X8_freeFrom : Cond.static yX8_freeFrom ∈ jq_T ∧ Cond.initialized (yX8_freeFrom).cls ∈ jq_T ∧ Cond.code yX8_freeFrom cX8_freeFrom 3 (some .int) ∈ jq_T ∧ ((yX8_freeFrom).cls ≠ "java/lang/invoke/MethodHandle" ∧ (yX8_freeFrom).cls ≠ "java/lang/invoke/VarHandle" ∧ (parseMethodDescriptor (yX8_freeFrom).desc).map (fun d => d.parameters.length) = some 2) := ⟨jq_in 1172 (by decide +kernel) rfl, jq_in 146 (by decide +kernel) rfl, jq_in 1173 (by decide +kernel) rfl, ⟨by decide, by decide, by decide +kernel⟩⟩
theorem ml_RX8_47 : jq_sl RX8 47 yX8_freeFrom cX8_freeFrom 3 (some .int) 2 := ⟨jq_in 1171 (by decide +kernel) rfl, yf_X8_freeFrom⟩
theorem yf_X8_fillFrom : Cond.instanceMethod yX8_fillFrom ∈ jq_T ∧ Cond.selects (yX8_fillFrom).cls yX8_fillFrom yX8_fillFrom ∈ jq_T ∧ Cond.initialized (yX8_fillFrom).cls ∈ jq_T ∧ Cond.code yX8_fillFrom cX8_fillFrom 6 none ∈ jq_T ∧ ((yX8_fillFrom).cls ≠ "java/lang/invoke/MethodHandle" ∧ (yX8_fillFrom).cls ≠ "java/lang/invoke/VarHandle" ∧ (parseMethodDescriptor (yX8_fillFrom).desc).map (fun d => d.parameters.length) = some 3) := ⟨jq_in 1166 (by decide +kernel) rfl, jq_in 19 (by decide +kernel) rfl, jq_in 146 (by decide +kernel) rfl, jq_in 1167 (by decide +kernel) rfl, ⟨by decide, by decide, by decide +kernel⟩⟩
theorem ml_RX8_33 : jq_vl RX8 33 yX8_fillFrom cX8_fillFrom 6 none 3 := ⟨jq_in 1164 (by decide +kernel) rfl, yf_X8_fillFrom⟩
theorem ml_RX8_37 : jq_vl RX8 37 yX8_count cX8_count 4 (some .int) 1 := ⟨jq_in 1175 (by decide +kernel) rfl, yf_X8_count⟩
theorem mw_RX8_54 : Cond.methodLink RX8 54 Lib.Math.min.name ∈ jq_T := jq_in 1185 (by decide +kernel) rfl
theorem yf_X8_begin : Cond.instanceMethod yX8_begin ∈ jq_T ∧ Cond.selects (yX8_begin).cls yX8_begin yX8_begin ∈ jq_T ∧ Cond.initialized (yX8_begin).cls ∈ jq_T ∧ Cond.code yX8_begin cX8_begin 2 (some .int) ∈ jq_T ∧ ((yX8_begin).cls ≠ "java/lang/invoke/MethodHandle" ∧ (yX8_begin).cls ≠ "java/lang/invoke/VarHandle" ∧ (parseMethodDescriptor (yX8_begin).desc).map (fun d => d.parameters.length) = some 1) := ⟨jq_in 1162 (by decide +kernel) rfl, jq_in 18 (by decide +kernel) rfl, jq_in 146 (by decide +kernel) rfl, jq_in 1163 (by decide +kernel) rfl, ⟨by decide, by decide, by decide +kernel⟩⟩
theorem ml_RX8_57 : jq_vl RX8 57 yX8_begin cX8_begin 2 (some .int) 1 := ⟨jq_in 1160 (by decide +kernel) rfl, yf_X8_begin⟩
theorem ml_RX8_60 : jq_vl RX8 60 yX1_signersOf cX1_signersOf 4 (some .int) 1 := ⟨jq_in 1176 (by decide +kernel) rfl, yf_X1_signersOf⟩
theorem yf_X1_allParties : Cond.instanceMethod yX1_allParties ∈ jq_T ∧ Cond.selects (yX1_allParties).cls yX1_allParties yX1_allParties ∈ jq_T ∧ Cond.initialized (yX1_allParties).cls ∈ jq_T ∧ Cond.code yX1_allParties cX1_allParties 1 (some .int) ∈ jq_T ∧ ((yX1_allParties).cls ≠ "java/lang/invoke/MethodHandle" ∧ (yX1_allParties).cls ≠ "java/lang/invoke/VarHandle" ∧ (parseMethodDescriptor (yX1_allParties).desc).map (fun d => d.parameters.length) = some 0) := ⟨jq_in 1178 (by decide +kernel) rfl, jq_in 1179 (by decide +kernel) rfl, jq_in 144 (by decide +kernel) rfl, jq_in 1180 (by decide +kernel) rfl, ⟨by decide, by decide, by decide +kernel⟩⟩
theorem ml_RX8_64 : jq_vl RX8 64 yX1_allParties cX1_allParties 1 (some .int) 0 := ⟨jq_in 1177 (by decide +kernel) rfl, yf_X1_allParties⟩
theorem yf_X8_goOn : Cond.instanceMethod yX8_goOn ∈ jq_T ∧ Cond.selects (yX8_goOn).cls yX8_goOn yX8_goOn ∈ jq_T ∧ Cond.initialized (yX8_goOn).cls ∈ jq_T ∧ Cond.code yX8_goOn cX8_goOn 5 none ∈ jq_T ∧ ((yX8_goOn).cls ≠ "java/lang/invoke/MethodHandle" ∧ (yX8_goOn).cls ≠ "java/lang/invoke/VarHandle" ∧ (parseMethodDescriptor (yX8_goOn).desc).map (fun d => d.parameters.length) = some 1) := ⟨jq_in 1183 (by decide +kernel) rfl, jq_in 20 (by decide +kernel) rfl, jq_in 146 (by decide +kernel) rfl, jq_in 1184 (by decide +kernel) rfl, ⟨by decide, by decide, by decide +kernel⟩⟩
theorem ml_RX8_68 : jq_vl RX8 68 yX8_goOn cX8_goOn 5 none 1 := ⟨jq_in 1181 (by decide +kernel) rfl, yf_X8_goOn⟩
theorem yf_X8_countGood : Cond.instanceMethod yX8_countGood ∈ jq_T ∧ Cond.selects (yX8_countGood).cls yX8_countGood yX8_countGood ∈ jq_T ∧ Cond.initialized (yX8_countGood).cls ∈ jq_T ∧ Cond.code yX8_countGood cX8_countGood 5 (some .int) ∈ jq_T ∧ ((yX8_countGood).cls ≠ "java/lang/invoke/MethodHandle" ∧ (yX8_countGood).cls ≠ "java/lang/invoke/VarHandle" ∧ (parseMethodDescriptor (yX8_countGood).desc).map (fun d => d.parameters.length) = some 1) := ⟨jq_in 1157 (by decide +kernel) rfl, jq_in 1158 (by decide +kernel) rfl, jq_in 146 (by decide +kernel) rfl, jq_in 1159 (by decide +kernel) rfl, ⟨by decide, by decide, by decide +kernel⟩⟩
theorem ml_RX10_327 : jq_vl RX10 327 yX8_countGood cX8_countGood 5 (some .int) 1 := ⟨jq_in 1156 (by decide +kernel) rfl, yf_X8_countGood⟩
theorem ml_RX8_92 : jq_sl RX8 92 yJ6_bitCount_0f7a4 cJ6_bitCount_0f7a4 1 (some .int) 1 := ⟨jq_in 1206 (by decide +kernel) rfl, yf_J6_bitCount_0f7a4⟩
theorem fl_RX8_18 : jq_fl RX8 18 5 4 2 true := ⟨RX8, TX8, tyX8, cls_X8, by decide, jq_in 449 (by decide +kernel) rfl, by decide⟩
theorem ml_RX8_109 : jq_vl RX8 109 yX1_turnAll cX1_turnAll 4 none 2 := ⟨jq_in 1202 (by decide +kernel) rfl, yf_X1_turnAll⟩
theorem yf_X8_numberOf : Cond.static yX8_numberOf ∈ jq_T ∧ Cond.initialized (yX8_numberOf).cls ∈ jq_T ∧ Cond.code yX8_numberOf cX8_numberOf 6 (some .int) ∈ jq_T ∧ ((yX8_numberOf).cls ≠ "java/lang/invoke/MethodHandle" ∧ (yX8_numberOf).cls ≠ "java/lang/invoke/VarHandle" ∧ (parseMethodDescriptor (yX8_numberOf).desc).map (fun d => d.parameters.length) = some 2) := ⟨jq_in 1204 (by decide +kernel) rfl, jq_in 146 (by decide +kernel) rfl, jq_in 1205 (by decide +kernel) rfl, ⟨by decide, by decide, by decide +kernel⟩⟩
theorem ml_RX8_113 : jq_sl RX8 113 yX8_numberOf cX8_numberOf 6 (some .int) 2 := ⟨jq_in 1203 (by decide +kernel) rfl, yf_X8_numberOf⟩
theorem fl_RX8_21 : jq_fl RX8 21 5 4 3 true := ⟨RX8, TX8, tyX8, cls_X8, by decide, jq_in 450 (by decide +kernel) rfl, by decide⟩
theorem yf_X8_isGoodAhead : Cond.instanceMethod yX8_isGoodAhead ∈ jq_T ∧ Cond.selects (yX8_isGoodAhead).cls yX8_isGoodAhead yX8_isGoodAhead ∈ jq_T ∧ Cond.initialized (yX8_isGoodAhead).cls ∈ jq_T ∧ Cond.code yX8_isGoodAhead cX8_isGoodAhead 6 (some .boolean) ∈ jq_T ∧ ((yX8_isGoodAhead).cls ≠ "java/lang/invoke/MethodHandle" ∧ (yX8_isGoodAhead).cls ≠ "java/lang/invoke/VarHandle" ∧ (parseMethodDescriptor (yX8_isGoodAhead).desc).map (fun d => d.parameters.length) = some 4) := ⟨jq_in 1200 (by decide +kernel) rfl, jq_in 22 (by decide +kernel) rfl, jq_in 146 (by decide +kernel) rfl, jq_in 1201 (by decide +kernel) rfl, ⟨by decide, by decide, by decide +kernel⟩⟩
theorem ml_RX8_105 : jq_vl RX8 105 yX8_isGoodAhead cX8_isGoodAhead 6 (some .boolean) 4 := ⟨jq_in 1198 (by decide +kernel) rfl, yf_X8_isGoodAhead⟩
theorem yf_X8_isLikeAnEarlierGood : Cond.instanceMethod yX8_isLikeAnEarlierGood ∈ jq_T ∧ Cond.selects (yX8_isLikeAnEarlierGood).cls yX8_isLikeAnEarlierGood yX8_isLikeAnEarlierGood ∈ jq_T ∧ Cond.initialized (yX8_isLikeAnEarlierGood).cls ∈ jq_T ∧ Cond.code yX8_isLikeAnEarlierGood cX8_isLikeAnEarlierGood 4 (some .boolean) ∈ jq_T ∧ ((yX8_isLikeAnEarlierGood).cls ≠ "java/lang/invoke/MethodHandle" ∧ (yX8_isLikeAnEarlierGood).cls ≠ "java/lang/invoke/VarHandle" ∧ (parseMethodDescriptor (yX8_isLikeAnEarlierGood).desc).map (fun d => d.parameters.length) = some 2) := ⟨jq_in 1196 (by decide +kernel) rfl, jq_in 21 (by decide +kernel) rfl, jq_in 146 (by decide +kernel) rfl, jq_in 1197 (by decide +kernel) rfl, ⟨by decide, by decide, by decide +kernel⟩⟩
theorem ml_RX8_101 : jq_vl RX8 101 yX8_isLikeAnEarlierGood cX8_isLikeAnEarlierGood 4 (some .boolean) 2 := ⟨jq_in 1194 (by decide +kernel) rfl, yf_X8_isLikeAnEarlierGood⟩
theorem yf_X8_countClasses : Cond.instanceMethod yX8_countClasses ∈ jq_T ∧ Cond.selects (yX8_countClasses).cls yX8_countClasses yX8_countClasses ∈ jq_T ∧ Cond.initialized (yX8_countClasses).cls ∈ jq_T ∧ Cond.code yX8_countClasses cX8_countClasses 5 (some .int) ∈ jq_T ∧ ((yX8_countClasses).cls ≠ "java/lang/invoke/MethodHandle" ∧ (yX8_countClasses).cls ≠ "java/lang/invoke/VarHandle" ∧ (parseMethodDescriptor (yX8_countClasses).desc).map (fun d => d.parameters.length) = some 1) := ⟨jq_in 1191 (by decide +kernel) rfl, jq_in 1192 (by decide +kernel) rfl, jq_in 146 (by decide +kernel) rfl, jq_in 1193 (by decide +kernel) rfl, ⟨by decide, by decide, by decide +kernel⟩⟩
theorem ml_RX10_330 : jq_vl RX10 330 yX8_countClasses cX8_countClasses 5 (some .int) 1 := ⟨jq_in 1190 (by decide +kernel) rfl, yf_X8_countClasses⟩
theorem yf_X8_findGood : Cond.instanceMethod yX8_findGood ∈ jq_T ∧ Cond.selects (yX8_findGood).cls yX8_findGood yX8_findGood ∈ jq_T ∧ Cond.initialized (yX8_findGood).cls ∈ jq_T ∧ Cond.code yX8_findGood cX8_findGood 4 (some .boolean) ∈ jq_T ∧ ((yX8_findGood).cls ≠ "java/lang/invoke/MethodHandle" ∧ (yX8_findGood).cls ≠ "java/lang/invoke/VarHandle" ∧ (parseMethodDescriptor (yX8_findGood).desc).map (fun d => d.parameters.length) = some 1) := ⟨jq_in 1212 (by decide +kernel) rfl, jq_in 1213 (by decide +kernel) rfl, jq_in 146 (by decide +kernel) rfl, jq_in 1214 (by decide +kernel) rfl, ⟨by decide, by decide, by decide +kernel⟩⟩
theorem ml_RX10_333 : jq_vl RX10 333 yX8_findGood cX8_findGood 4 (some .boolean) 1 := ⟨jq_in 1211 (by decide +kernel) rfl, yf_X8_findGood⟩
theorem fl_RX10_337 : jq_fl RX10 337 5 4 0 true := ⟨RX8, TX8, tyX8, cls_X8, by decide, jq_in 446 (by decide +kernel) rfl, by decide⟩
theorem ml_RX8_72 : jq_vl RX8 72 yX1_worthOfAll cX1_worthOfAll 4 (some .int) 1 := ⟨jq_in 1223 (by decide +kernel) rfl, yf_X1_worthOfAll⟩
theorem fl_RX8_15 : jq_fl RX8 15 5 4 1 true := ⟨RX8, TX8, tyX8, cls_X8, by decide, jq_in 447 (by decide +kernel) rfl, by decide⟩
theorem aw_RX8_75 : Cond.methodLink RX8 75 arraycopyName ∈ jq_T := jq_in 1224 (by decide +kernel) rfl
theorem yf_X8_findBest : Cond.instanceMethod yX8_findBest ∈ jq_T ∧ Cond.selects (yX8_findBest).cls yX8_findBest yX8_findBest ∈ jq_T ∧ Cond.initialized (yX8_findBest).cls ∈ jq_T ∧ Cond.code yX8_findBest cX8_findBest 6 (some .int) ∈ jq_T ∧ ((yX8_findBest).cls ≠ "java/lang/invoke/MethodHandle" ∧ (yX8_findBest).cls ≠ "java/lang/invoke/VarHandle" ∧ (parseMethodDescriptor (yX8_findBest).desc).map (fun d => d.parameters.length) = some 1) := ⟨jq_in 1220 (by decide +kernel) rfl, jq_in 1221 (by decide +kernel) rfl, jq_in 146 (by decide +kernel) rfl, jq_in 1222 (by decide +kernel) rfl, ⟨by decide, by decide, by decide +kernel⟩⟩
theorem ml_RX10_339 : jq_vl RX10 339 yX8_findBest cX8_findBest 6 (some .int) 1 := ⟨jq_in 1219 (by decide +kernel) rfl, yf_X8_findBest⟩
theorem fl_RX10_342 : jq_fl RX10 342 5 4 1 true := ⟨RX8, TX8, tyX8, cls_X8, by decide, jq_in 448 (by decide +kernel) rfl, by decide⟩
theorem yf_X8_outcomes : Cond.instanceMethod yX8_outcomes ∈ jq_T ∧ Cond.selects (yX8_outcomes).cls yX8_outcomes yX8_outcomes ∈ jq_T ∧ Cond.initialized (yX8_outcomes).cls ∈ jq_T ∧ Cond.code yX8_outcomes cX8_outcomes 5 (some .int) ∈ jq_T ∧ ((yX8_outcomes).cls ≠ "java/lang/invoke/MethodHandle" ∧ (yX8_outcomes).cls ≠ "java/lang/invoke/VarHandle" ∧ (parseMethodDescriptor (yX8_outcomes).desc).map (fun d => d.parameters.length) = some 1) := ⟨jq_in 1234 (by decide +kernel) rfl, jq_in 1235 (by decide +kernel) rfl, jq_in 146 (by decide +kernel) rfl, jq_in 1236 (by decide +kernel) rfl, ⟨by decide, by decide, by decide +kernel⟩⟩
theorem ml_RX10_345 : jq_vl RX10 345 yX8_outcomes cX8_outcomes 5 (some .int) 1 := ⟨jq_in 1233 (by decide +kernel) rfl, yf_X8_outcomes⟩
theorem yf_X8_mostOf : Cond.static yX8_mostOf ∈ jq_T ∧ Cond.initialized (yX8_mostOf).cls ∈ jq_T ∧ Cond.code yX8_mostOf cX8_mostOf 3 (some .int) ∈ jq_T ∧ ((yX8_mostOf).cls ≠ "java/lang/invoke/MethodHandle" ∧ (yX8_mostOf).cls ≠ "java/lang/invoke/VarHandle" ∧ (parseMethodDescriptor (yX8_mostOf).desc).map (fun d => d.parameters.length) = some 1) := ⟨jq_in 1238 (by decide +kernel) rfl, jq_in 146 (by decide +kernel) rfl, jq_in 1239 (by decide +kernel) rfl, ⟨by decide, by decide, by decide +kernel⟩⟩
theorem ml_RX10_348 : jq_sl RX10 348 yX8_mostOf cX8_mostOf 3 (some .int) 1 := ⟨jq_in 1237 (by decide +kernel) rfl, yf_X8_mostOf⟩
theorem dX8_fillFrom_0 : decode cX8_fillFrom 0 = .ok (.iload_n 3, 1) := by decide +kernel
theorem dX8_fillFrom_1 : decode cX8_fillFrom 1 = .ok (.istore 4, 2) := by decide +kernel
theorem dX8_fillFrom_3 : decode cX8_fillFrom 3 = .ok (.iconst 0, 1) := by decide +kernel
theorem dX8_fillFrom_4 : decode cX8_fillFrom 4 = .ok (.iload_n 2, 1) := by decide +kernel
theorem dX8_fillFrom_5 : decode cX8_fillFrom 5 = .ok (.invokestatic 41, 3) := by decide +kernel
theorem dX8_fillFrom_8 : decode cX8_fillFrom 8 = .ok (.istore 5, 2) := by decide +kernel
theorem dX8_fillFrom_10 : decode cX8_fillFrom 10 = .ok (.iload 5, 2) := by decide +kernel
theorem dX8_fillFrom_12 : decode cX8_fillFrom 12 = .ok (.aload_n 1, 1) := by decide +kernel
theorem dX8_fillFrom_13 : decode cX8_fillFrom 13 = .ok (.getfield 30, 3) := by decide +kernel
theorem dX8_fillFrom_16 : decode cX8_fillFrom 16 = .ok (.if_icmp .ge 46, 3) := by decide +kernel
theorem dX8_fillFrom_19 : decode cX8_fillFrom 19 = .ok (.iload 5, 2) := by decide +kernel
theorem dX8_fillFrom_21 : decode cX8_fillFrom 21 = .ok (.aload_n 0, 1) := by decide +kernel
theorem dX8_fillFrom_22 : decode cX8_fillFrom 22 = .ok (.getfield 9, 3) := by decide +kernel
theorem dX8_fillFrom_25 : decode cX8_fillFrom 25 = .ok (.arraylength, 1) := by decide +kernel
theorem dX8_fillFrom_26 : decode cX8_fillFrom 26 = .ok (.if_icmp .ge 36, 3) := by decide +kernel
theorem dX8_fillFrom_29 : decode cX8_fillFrom 29 = .ok (.aload_n 0, 1) := by decide +kernel
theorem dX8_fillFrom_30 : decode cX8_fillFrom 30 = .ok (.getfield 9, 3) := by decide +kernel
theorem dX8_fillFrom_33 : decode cX8_fillFrom 33 = .ok (.iload 5, 2) := by decide +kernel
theorem dX8_fillFrom_35 : decode cX8_fillFrom 35 = .ok (.iconst 0, 1) := by decide +kernel
theorem dX8_fillFrom_36 : decode cX8_fillFrom 36 = .ok (.iload 4, 2) := by decide +kernel
theorem dX8_fillFrom_38 : decode cX8_fillFrom 38 = .ok (.invokestatic 47, 3) := by decide +kernel
theorem dX8_fillFrom_41 : decode cX8_fillFrom 41 = .ok (.iastore, 1) := by decide +kernel
theorem dX8_fillFrom_42 : decode cX8_fillFrom 42 = .ok (.iload 4, 2) := by decide +kernel
theorem dX8_fillFrom_44 : decode cX8_fillFrom 44 = .ok (.iconst 1, 1) := by decide +kernel
theorem dX8_fillFrom_45 : decode cX8_fillFrom 45 = .ok (.aload_n 0, 1) := by decide +kernel
theorem dX8_fillFrom_46 : decode cX8_fillFrom 46 = .ok (.getfield 9, 3) := by decide +kernel
theorem dX8_fillFrom_49 : decode cX8_fillFrom 49 = .ok (.iload 5, 2) := by decide +kernel
theorem dX8_fillFrom_51 : decode cX8_fillFrom 51 = .ok (.iaload, 1) := by decide +kernel
theorem dX8_fillFrom_52 : decode cX8_fillFrom 52 = .ok (.ishl, 1) := by decide +kernel
theorem dX8_fillFrom_53 : decode cX8_fillFrom 53 = .ok (.ior, 1) := by decide +kernel
theorem dX8_fillFrom_54 : decode cX8_fillFrom 54 = .ok (.istore 4, 2) := by decide +kernel
theorem dX8_fillFrom_56 : decode cX8_fillFrom 56 = .ok (.iinc 5 1, 3) := by decide +kernel
theorem dX8_fillFrom_59 : decode cX8_fillFrom 59 = .ok (.goto (-49), 3) := by decide +kernel
theorem dX8_fillFrom_62 : decode cX8_fillFrom 62 = .ok (.return_, 1) := by decide +kernel
set_option maxHeartbeats 4000000 in
set_option maxRecDepth 100000 in
theorem ctX8_fillFrom {p1 : Int} {p2 : Int} {p3 : Int} {σ : jq_M} {σ' : jq_M} (hp1 : jq_com p1) (h : X8_fillFrom p1 p2 p3 σ = some σ') : jq_MC jq_zX yX8_fillFrom cX8_fillFrom 6 none 3 83 [jR 52, jR p1, jI p2, jI p3] σ none σ' := by
  refine jq_met (own := RX8) (L0 := [(0, jR 52), (1, jR p1), (2, jI p2), (3, jI p3)]) (by decide) rfl rfl rfl ?_
  intro X Γ hnl hlY hRT
  refine jq_use2 (P := fun r => jq_RT jq_zX X none none r) ?_ h hRT
  intro K0 hK0
  unfold X8_fillFrom
  refine jq_iload_n Γ dX8_fillFrom_0 rfl 3 rfl ?_
  refine jq_istore (L' := [(4, jI p3), (0, jR 52), (1, jR p1), (2, jI p2), (3, jI p3)]) Γ dX8_fillFrom_1 hnl rfl rfl ?_
  refine jq_iconst Γ dX8_fillFrom_3 rfl ?_
  refine jq_iload_n Γ dX8_fillFrom_4 rfl 3 rfl ?_
  refine jq_mmax Γ mw_RX8_41 mws_max mwi mwc_max rfl rfl dX8_fillFrom_5 ?_
  refine jq_nmI (fun v1 => ?_)
  refine jq_istore (L' := [(5, jI v1), (4, jI p3), (0, jR 52), (1, jR p1), (2, jI p2), (3, jI p3)]) Γ dX8_fillFrom_8 hnl rfl rfl ?_
  refine jq_sub Γ (L' := [(0, jR 52), (1, jR p1), (4, jI p3), (5, jI v1)]) [2, 3, 1, 0] rfl ?_
  refine jq_loop2 (C := fun (t2 : Int × Int × jq_M) => jq_V jq_zX X (jq_zN jq_zX) t2.2.2 10 [(0, jR 52), (1, jR p1), (4, jI t2.1), (5, jI t2.2.1)] []) (KX := fun (e8 : jq_M) => jq_V jq_zX X (jq_zN jq_zX) e8 62 [] []) ?_ ?_ (p3, v1, σ)
  · intro K10_t2 hCt2 hXt2 t2
    unfold X8_fillFrom_b10
    refine jq_iload Γ dX8_fillFrom_10 3 rfl ?_
    refine jq_aload_n Γ dX8_fillFrom_12 rfl 1 rfl (jq_at_0 (at_com hp1)) ?_
    refine jq_getI (J := 2) Γ (at_com hp1) fl_RX8_30 rfl rfl dX8_fillFrom_13 ?_
    refine jq_icmp_ge (tgt := 62) Γ dX8_fillFrom_16 rfl ?_ ?_
    · refine jq_sub Γ (L' := []) [] rfl ?_
      exact jq_done (hXt2 t2.2.2)
    · refine jq_iload Γ dX8_fillFrom_19 3 rfl ?_
      refine jq_aload_n Γ dX8_fillFrom_21 rfl 0 rfl (jq_at_0 at_X_52) ?_
      refine jq_getR (v := 53) Γ hlY at_X_52 fl_RX8_9 rfl rfl ly_X8_row dX8_fillFrom_22 ?_
      refine jq_alen Γ at_X_53 rfl rfl rfl dX8_fillFrom_25 ?_
      refine jq_icmp_ge (tgt := 62) Γ dX8_fillFrom_26 rfl ?_ ?_
      · refine jq_sub Γ (L' := []) [] rfl ?_
        exact jq_done (hXt2 t2.2.2)
      · refine jq_aload_n Γ dX8_fillFrom_29 rfl 0 rfl (jq_at_0 at_X_52) ?_
        refine jq_getR (v := 53) Γ hlY at_X_52 fl_RX8_9 rfl rfl ly_X8_row dX8_fillFrom_30 ?_
        refine jq_iload Γ dX8_fillFrom_33 3 rfl ?_
        refine jq_iconst Γ dX8_fillFrom_35 rfl ?_
        refine jq_iload Γ dX8_fillFrom_36 2 rfl ?_
        refine jq_cpI (jq_stat (avs := [jI 0, jI t2.1]) (st := [jI t2.2.1, jR 53]) Γ hlY rfl ml_RX8_47 rfl rfl rfl rfl rfl dX8_fillFrom_38) (fun r h => ctX8_freeFrom h) (fun v3 => ?_)
        refine jq_iast Γ at_X_53 rfl dX8_fillFrom_41 (fun s4 => ?_)
        refine jq_iload Γ dX8_fillFrom_42 2 rfl ?_
        refine jq_iconst Γ dX8_fillFrom_44 rfl ?_
        refine jq_aload_n Γ dX8_fillFrom_45 rfl 0 rfl (jq_at_0 at_X_52) ?_
        refine jq_getR (v := 53) Γ hlY at_X_52 fl_RX8_9 rfl rfl ly_X8_row dX8_fillFrom_46 ?_
        refine jq_iload Γ dX8_fillFrom_49 3 rfl ?_
        refine jq_iald Γ at_X_53 rfl dX8_fillFrom_51 (fun v5 => ?_)
        refine jq_ishl Γ dX8_fillFrom_52 ?_
        refine jq_ior Γ dX8_fillFrom_53 ?_
        refine jq_nmI (fun v6 => ?_)
        refine jq_istore (L' := [(4, jI v6), (0, jR 52), (1, jR p1), (5, jI t2.2.1)]) Γ dX8_fillFrom_54 hnl rfl rfl ?_
        refine jq_iincN (L' := fun v7 => [(5, jI v7), (4, jI v6), (0, jR 52), (1, jR p1)]) Γ dX8_fillFrom_56 3 rfl hnl rfl (fun _ => rfl) (fun v7 => ?_)
        refine jq_goto Γ (tgt := 10) dX8_fillFrom_59 rfl ?_
        refine jq_sub Γ (L' := [(0, jR 52), (1, jR p1), (4, jI v6), (5, jI v7)]) [2, 3, 1, 0] rfl ?_
        exact jq_done (hCt2 (v6, v7, s4))
  · intro e8
    exact jq_vreturn Γ dX8_fillFrom_62 (hK0 _)


theorem dX8_begin_0 : decode cX8_begin 0 = .ok (.aload_n 0, 1) := by decide +kernel
theorem dX8_begin_1 : decode cX8_begin 1 = .ok (.aload_n 1, 1) := by decide +kernel
theorem dX8_begin_2 : decode cX8_begin 2 = .ok (.iconst 0, 1) := by decide +kernel
theorem dX8_begin_3 : decode cX8_begin 3 = .ok (.iconst 0, 1) := by decide +kernel
theorem dX8_begin_4 : decode cX8_begin 4 = .ok (.invokevirtual 33, 3) := by decide +kernel
theorem dX8_begin_7 : decode cX8_begin 7 = .ok (.aload_n 0, 1) := by decide +kernel
theorem dX8_begin_8 : decode cX8_begin 8 = .ok (.aload_n 1, 1) := by decide +kernel
theorem dX8_begin_9 : decode cX8_begin 9 = .ok (.invokevirtual 37, 3) := by decide +kernel
theorem dX8_begin_12 : decode cX8_begin 12 = .ok (.ireturn, 1) := by decide +kernel
set_option maxHeartbeats 4000000 in
set_option maxRecDepth 100000 in
theorem ctX8_begin {p1 : Int} {σ : jq_M} {res : Int} {σ' : jq_M} (hp1 : jq_com p1) (h : X8_begin p1 σ = some (res, σ')) : jq_MC jq_zX yX8_begin cX8_begin 2 (some .int) 4 108 [jR 52, jR p1] σ (some (jI res)) σ' := by
  refine jq_met (own := RX8) (L0 := [(0, jR 52), (1, jR p1)]) (by decide) rfl rfl rfl ?_
  intro X Γ hnl hlY hRT
  refine jq_use2 (P := fun r => jq_RT jq_zX X (some .int) (some (jI r.1)) r.2) ?_ h hRT
  intro K0 hK0
  unfold X8_begin
  refine jq_aload_n Γ dX8_begin_0 rfl 0 rfl (jq_at_0 at_X_52) ?_
  refine jq_aload_n Γ dX8_begin_1 rfl 1 rfl (jq_at_0 (at_com hp1)) ?_
  refine jq_iconst Γ dX8_begin_2 rfl ?_
  refine jq_iconst Γ dX8_begin_3 rfl ?_
  refine jq_cwV (jq_virt (avs := [jR p1, jI 0, jI 0]) (st := []) Γ hlY rfl ml_RX8_33 rfl at_X_52 rfl rfl rfl rfl rfl dX8_begin_4) (fun σ' h => ctX8_fillFrom hp1 h) (fun s1 => ?_)
  refine jq_aload_n Γ dX8_begin_7 rfl 0 rfl (jq_at_0 at_X_52) ?_
  refine jq_aload_n Γ dX8_begin_8 rfl 1 rfl (jq_at_0 (at_com hp1)) ?_
  refine jq_cpI (jq_virt (avs := [jR p1]) (st := []) Γ hlY rfl ml_RX8_37 rfl at_X_52 rfl rfl rfl rfl rfl dX8_begin_9) (fun r h => ctX8_count hp1 h) (fun v2 => ?_)
  exact jq_ireturn Γ dX8_begin_12 (hK0 _)


theorem dX1_allParties_0 : decode cX1_allParties 0 = .ok (.iconst 1, 1) := by decide +kernel
theorem dX1_allParties_1 : decode cX1_allParties 1 = .ok (.aload_n 0, 1) := by decide +kernel
theorem dX1_allParties_2 : decode cX1_allParties 2 = .ok (.getfield 66, 3) := by decide +kernel
theorem dX1_allParties_5 : decode cX1_allParties 5 = .ok (.ishl, 1) := by decide +kernel
theorem dX1_allParties_6 : decode cX1_allParties 6 = .ok (.iconst 1, 1) := by decide +kernel
theorem dX1_allParties_7 : decode cX1_allParties 7 = .ok (.isub, 1) := by decide +kernel
theorem dX1_allParties_8 : decode cX1_allParties 8 = .ok (.ireturn, 1) := by decide +kernel
set_option maxHeartbeats 4000000 in
set_option maxRecDepth 100000 in
theorem ctX1_allParties {o : Int} {σ : jq_M} {res : Int} (ho : jq_com o) (h : X1_allParties o σ = some res) : jq_MC jq_zX yX1_allParties cX1_allParties 1 (some .int) 1 40 [jR o] σ (some (jI res)) σ := by
  refine jq_met (own := RX1) (L0 := [(0, jR o)]) (by decide) rfl rfl rfl ?_
  intro X Γ hnl hlY hRT
  refine jq_use2 (P := fun r => jq_RT jq_zX X (some .int) (some (jI r)) σ) ?_ h hRT
  intro K0 hK0
  unfold X1_allParties
  refine jq_iconst Γ dX1_allParties_0 rfl ?_
  refine jq_aload_n Γ dX1_allParties_1 rfl 0 rfl (jq_at_0 (at_com ho)) ?_
  refine jq_getI (J := 2) Γ (at_com ho) fl_RX1_66 rfl rfl dX1_allParties_2 ?_
  refine jq_ishl Γ dX1_allParties_5 ?_
  refine jq_iconst Γ dX1_allParties_6 rfl ?_
  refine jq_isub Γ dX1_allParties_7 ?_
  exact jq_ireturn Γ dX1_allParties_8 (hK0 _)


theorem dX8_goOn_0 : decode cX8_goOn 0 = .ok (.iconst 0, 1) := by decide +kernel
theorem dX8_goOn_1 : decode cX8_goOn 1 = .ok (.istore_n 2, 1) := by decide +kernel
theorem dX8_goOn_2 : decode cX8_goOn 2 = .ok (.iconst 0, 1) := by decide +kernel
theorem dX8_goOn_3 : decode cX8_goOn 3 = .ok (.istore_n 3, 1) := by decide +kernel
theorem dX8_goOn_4 : decode cX8_goOn 4 = .ok (.iload_n 3, 1) := by decide +kernel
theorem dX8_goOn_5 : decode cX8_goOn 5 = .ok (.aload_n 1, 1) := by decide +kernel
theorem dX8_goOn_6 : decode cX8_goOn 6 = .ok (.getfield 30, 3) := by decide +kernel
theorem dX8_goOn_9 : decode cX8_goOn 9 = .ok (.if_icmp .ge 29, 3) := by decide +kernel
theorem dX8_goOn_12 : decode cX8_goOn 12 = .ok (.iload_n 3, 1) := by decide +kernel
theorem dX8_goOn_13 : decode cX8_goOn 13 = .ok (.aload_n 0, 1) := by decide +kernel
theorem dX8_goOn_14 : decode cX8_goOn 14 = .ok (.getfield 9, 3) := by decide +kernel
theorem dX8_goOn_17 : decode cX8_goOn 17 = .ok (.arraylength, 1) := by decide +kernel
theorem dX8_goOn_18 : decode cX8_goOn 18 = .ok (.if_icmp .ge 20, 3) := by decide +kernel
theorem dX8_goOn_21 : decode cX8_goOn 21 = .ok (.iload_n 2, 1) := by decide +kernel
theorem dX8_goOn_22 : decode cX8_goOn 22 = .ok (.iconst 1, 1) := by decide +kernel
theorem dX8_goOn_23 : decode cX8_goOn 23 = .ok (.aload_n 0, 1) := by decide +kernel
theorem dX8_goOn_24 : decode cX8_goOn 24 = .ok (.getfield 9, 3) := by decide +kernel
theorem dX8_goOn_27 : decode cX8_goOn 27 = .ok (.iload_n 3, 1) := by decide +kernel
theorem dX8_goOn_28 : decode cX8_goOn 28 = .ok (.iaload, 1) := by decide +kernel
theorem dX8_goOn_29 : decode cX8_goOn 29 = .ok (.ishl, 1) := by decide +kernel
theorem dX8_goOn_30 : decode cX8_goOn 30 = .ok (.ior, 1) := by decide +kernel
theorem dX8_goOn_31 : decode cX8_goOn 31 = .ok (.istore_n 2, 1) := by decide +kernel
theorem dX8_goOn_32 : decode cX8_goOn 32 = .ok (.iinc 3 1, 3) := by decide +kernel
theorem dX8_goOn_35 : decode cX8_goOn 35 = .ok (.goto (-31), 3) := by decide +kernel
theorem dX8_goOn_38 : decode cX8_goOn 38 = .ok (.aload_n 1, 1) := by decide +kernel
theorem dX8_goOn_39 : decode cX8_goOn 39 = .ok (.getfield 30, 3) := by decide +kernel
theorem dX8_goOn_42 : decode cX8_goOn 42 = .ok (.aload_n 0, 1) := by decide +kernel
theorem dX8_goOn_43 : decode cX8_goOn 43 = .ok (.getfield 9, 3) := by decide +kernel
theorem dX8_goOn_46 : decode cX8_goOn 46 = .ok (.arraylength, 1) := by decide +kernel
theorem dX8_goOn_47 : decode cX8_goOn 47 = .ok (.invokestatic 54, 3) := by decide +kernel
theorem dX8_goOn_50 : decode cX8_goOn 50 = .ok (.iconst 1, 1) := by decide +kernel
theorem dX8_goOn_51 : decode cX8_goOn 51 = .ok (.isub, 1) := by decide +kernel
theorem dX8_goOn_52 : decode cX8_goOn 52 = .ok (.istore_n 3, 1) := by decide +kernel
theorem dX8_goOn_53 : decode cX8_goOn 53 = .ok (.iload_n 3, 1) := by decide +kernel
theorem dX8_goOn_54 : decode cX8_goOn 54 = .ok (.ifCond .lt 68, 3) := by decide +kernel
theorem dX8_goOn_57 : decode cX8_goOn 57 = .ok (.iload_n 2, 1) := by decide +kernel
theorem dX8_goOn_58 : decode cX8_goOn 58 = .ok (.iconst 1, 1) := by decide +kernel
theorem dX8_goOn_59 : decode cX8_goOn 59 = .ok (.aload_n 0, 1) := by decide +kernel
theorem dX8_goOn_60 : decode cX8_goOn 60 = .ok (.getfield 9, 3) := by decide +kernel
theorem dX8_goOn_63 : decode cX8_goOn 63 = .ok (.iload_n 3, 1) := by decide +kernel
theorem dX8_goOn_64 : decode cX8_goOn 64 = .ok (.iaload, 1) := by decide +kernel
theorem dX8_goOn_65 : decode cX8_goOn 65 = .ok (.ishl, 1) := by decide +kernel
theorem dX8_goOn_66 : decode cX8_goOn 66 = .ok (.iconst (-1), 1) := by decide +kernel
theorem dX8_goOn_67 : decode cX8_goOn 67 = .ok (.ixor, 1) := by decide +kernel
theorem dX8_goOn_68 : decode cX8_goOn 68 = .ok (.iand, 1) := by decide +kernel
theorem dX8_goOn_69 : decode cX8_goOn 69 = .ok (.istore_n 2, 1) := by decide +kernel
theorem dX8_goOn_70 : decode cX8_goOn 70 = .ok (.aload_n 0, 1) := by decide +kernel
theorem dX8_goOn_71 : decode cX8_goOn 71 = .ok (.getfield 9, 3) := by decide +kernel
theorem dX8_goOn_74 : decode cX8_goOn 74 = .ok (.iload_n 3, 1) := by decide +kernel
theorem dX8_goOn_75 : decode cX8_goOn 75 = .ok (.iaload, 1) := by decide +kernel
theorem dX8_goOn_76 : decode cX8_goOn 76 = .ok (.iconst 1, 1) := by decide +kernel
theorem dX8_goOn_77 : decode cX8_goOn 77 = .ok (.iadd, 1) := by decide +kernel
theorem dX8_goOn_78 : decode cX8_goOn 78 = .ok (.iload_n 2, 1) := by decide +kernel
theorem dX8_goOn_79 : decode cX8_goOn 79 = .ok (.invokestatic 47, 3) := by decide +kernel
theorem dX8_goOn_82 : decode cX8_goOn 82 = .ok (.istore 4, 2) := by decide +kernel
theorem dX8_goOn_84 : decode cX8_goOn 84 = .ok (.iload 4, 2) := by decide +kernel
theorem dX8_goOn_86 : decode cX8_goOn 86 = .ok (.aload_n 1, 1) := by decide +kernel
theorem dX8_goOn_87 : decode cX8_goOn 87 = .ok (.getfield 24, 3) := by decide +kernel
theorem dX8_goOn_90 : decode cX8_goOn 90 = .ok (.if_icmp .ge 26, 3) := by decide +kernel
theorem dX8_goOn_93 : decode cX8_goOn 93 = .ok (.aload_n 0, 1) := by decide +kernel
theorem dX8_goOn_94 : decode cX8_goOn 94 = .ok (.getfield 9, 3) := by decide +kernel
theorem dX8_goOn_97 : decode cX8_goOn 97 = .ok (.iload_n 3, 1) := by decide +kernel
theorem dX8_goOn_98 : decode cX8_goOn 98 = .ok (.iload 4, 2) := by decide +kernel
theorem dX8_goOn_100 : decode cX8_goOn 100 = .ok (.iastore, 1) := by decide +kernel
theorem dX8_goOn_101 : decode cX8_goOn 101 = .ok (.aload_n 0, 1) := by decide +kernel
theorem dX8_goOn_102 : decode cX8_goOn 102 = .ok (.aload_n 1, 1) := by decide +kernel
theorem dX8_goOn_103 : decode cX8_goOn 103 = .ok (.iload_n 3, 1) := by decide +kernel
theorem dX8_goOn_104 : decode cX8_goOn 104 = .ok (.iconst 1, 1) := by decide +kernel
theorem dX8_goOn_105 : decode cX8_goOn 105 = .ok (.iadd, 1) := by decide +kernel
theorem dX8_goOn_106 : decode cX8_goOn 106 = .ok (.iload_n 2, 1) := by decide +kernel
theorem dX8_goOn_107 : decode cX8_goOn 107 = .ok (.iconst 1, 1) := by decide +kernel
theorem dX8_goOn_108 : decode cX8_goOn 108 = .ok (.iload 4, 2) := by decide +kernel
theorem dX8_goOn_110 : decode cX8_goOn 110 = .ok (.ishl, 1) := by decide +kernel
theorem dX8_goOn_111 : decode cX8_goOn 111 = .ok (.ior, 1) := by decide +kernel
theorem dX8_goOn_112 : decode cX8_goOn 112 = .ok (.invokevirtual 33, 3) := by decide +kernel
theorem dX8_goOn_115 : decode cX8_goOn 115 = .ok (.return_, 1) := by decide +kernel
theorem dX8_goOn_116 : decode cX8_goOn 116 = .ok (.iinc 3 (-1), 3) := by decide +kernel
theorem dX8_goOn_119 : decode cX8_goOn 119 = .ok (.goto (-66), 3) := by decide +kernel
theorem dX8_goOn_122 : decode cX8_goOn 122 = .ok (.return_, 1) := by decide +kernel
set_option maxHeartbeats 4000000 in
set_option maxRecDepth 100000 in
theorem ctX8_goOn {p1 : Int} {σ : jq_M} {σ' : jq_M} (hp1 : jq_com p1) (h : X8_goOn p1 σ = some σ') : jq_MC jq_zX yX8_goOn cX8_goOn 5 none 4 108 [jR 52, jR p1] σ none σ' := by
  refine jq_met (own := RX8) (L0 := [(0, jR 52), (1, jR p1)]) (by decide) rfl rfl rfl ?_
  intro X Γ hnl hlY hRT
  refine jq_use2 (P := fun r => jq_RT jq_zX X none none r) ?_ h hRT
  intro K0 hK0
  unfold X8_goOn
  have hj38_0 : ∀ (j6 : Int) (s7 : jq_M), jq_J (X8_goOn_j38 p1 j6 s7) K0 (jq_V jq_zX X (jq_zN jq_zX) s7 38 [(0, jR 52), (1, jR p1), (2, jI j6)] []) := by
    intro j6 s7
    unfold X8_goOn_j38
    refine jq_aload_n Γ dX8_goOn_38 rfl 1 rfl (jq_at_0 (at_com hp1)) ?_
    refine jq_getI (J := 2) Γ (at_com hp1) fl_RX8_30 rfl rfl dX8_goOn_39 ?_
    refine jq_aload_n Γ dX8_goOn_42 rfl 0 rfl (jq_at_0 at_X_52) ?_
    refine jq_getR (v := 53) Γ hlY at_X_52 fl_RX8_9 rfl rfl ly_X8_row dX8_goOn_43 ?_
    refine jq_alen Γ at_X_53 rfl rfl rfl dX8_goOn_46 ?_
    refine jq_mmin Γ mw_RX8_54 mws_min mwi mwc_min rfl rfl dX8_goOn_47 ?_
    refine jq_iconst Γ dX8_goOn_50 rfl ?_
    refine jq_isub Γ dX8_goOn_51 ?_
    refine jq_nmI (fun v8 => ?_)
    refine jq_istore_n (L' := [(3, jI v8), (0, jR 52), (1, jR p1), (2, jI j6)]) Γ dX8_goOn_52 rfl hnl rfl rfl ?_
    refine jq_sub Γ (L' := [(0, jR 52), (1, jR p1), (2, jI j6), (3, jI v8)]) [1, 2, 3, 0] rfl ?_
    refine jq_loop2 (C := fun (t9 : Int × Int) => jq_V jq_zX X (jq_zN jq_zX) s7 53 [(0, jR 52), (1, jR p1), (2, jI t9.1), (3, jI t9.2)] []) (KX := Sum.elim (fun (e15 : Int × Int × Int) => jq_V jq_zX X (jq_zN jq_zX) s7 93 [(0, jR 52), (1, jR p1), (2, jI e15.1), (3, jI e15.2.1), (4, jI e15.2.2)] []) (fun (e18 : Unit) => jq_V jq_zX X (jq_zN jq_zX) s7 122 [] [])) ?_ ?_ (j6, v8)
    · intro K53_t9 hCt9 hXt9 t9
      unfold X8_goOn_b53
      refine jq_iload_n Γ dX8_goOn_53 rfl 3 rfl ?_
      refine jq_if_lt (tgt := 122) Γ dX8_goOn_54 rfl ?_ ?_
      · refine jq_sub Γ (L' := []) [] rfl ?_
        exact jq_done (hXt9 (.inr ()))
      · refine jq_iload_n Γ dX8_goOn_57 rfl 2 rfl ?_
        refine jq_iconst Γ dX8_goOn_58 rfl ?_
        refine jq_aload_n Γ dX8_goOn_59 rfl 0 rfl (jq_at_0 at_X_52) ?_
        refine jq_getR (v := 53) Γ hlY at_X_52 fl_RX8_9 rfl rfl ly_X8_row dX8_goOn_60 ?_
        refine jq_iload_n Γ dX8_goOn_63 rfl 3 rfl ?_
        refine jq_iald Γ at_X_53 rfl dX8_goOn_64 (fun v10 => ?_)
        refine jq_ishl Γ dX8_goOn_65 ?_
        refine jq_iconst Γ dX8_goOn_66 rfl ?_
        refine jq_ixor Γ dX8_goOn_67 ?_
        refine jq_iand Γ dX8_goOn_68 ?_
        refine jq_nmI (fun v11 => ?_)
        refine jq_istore_n (L' := [(2, jI v11), (0, jR 52), (1, jR p1), (3, jI t9.2)]) Γ dX8_goOn_69 rfl hnl rfl rfl ?_
        refine jq_aload_n Γ dX8_goOn_70 rfl 1 rfl (jq_at_0 at_X_52) ?_
        refine jq_getR (v := 53) Γ hlY at_X_52 fl_RX8_9 rfl rfl ly_X8_row dX8_goOn_71 ?_
        refine jq_iload_n Γ dX8_goOn_74 rfl 3 rfl ?_
        refine jq_iald Γ at_X_53 rfl dX8_goOn_75 (fun v12 => ?_)
        refine jq_iconst Γ dX8_goOn_76 rfl ?_
        refine jq_iadd Γ dX8_goOn_77 ?_
        refine jq_iload_n Γ dX8_goOn_78 rfl 0 rfl ?_
        refine jq_cpI (jq_stat (avs := [jI (jq_w (v12 + 1)), jI v11]) (st := []) Γ hlY rfl ml_RX8_47 rfl rfl rfl rfl rfl dX8_goOn_79) (fun r h => ctX8_freeFrom h) (fun v13 => ?_)
        refine jq_istore (L' := [(4, jI v13), (2, jI v11), (0, jR 52), (1, jR p1), (3, jI t9.2)]) Γ dX8_goOn_82 hnl rfl rfl ?_
        refine jq_iload Γ dX8_goOn_84 0 rfl ?_
        refine jq_aload_n Γ dX8_goOn_86 rfl 3 rfl (jq_at_0 (at_com hp1)) ?_
        refine jq_getI (J := 0) Γ (at_com hp1) fl_RX8_24 rfl rfl dX8_goOn_87 ?_
        refine jq_icmp_ge (tgt := 116) Γ dX8_goOn_90 rfl ?_ ?_
        · refine jq_iincN (L' := fun v14 => [(3, jI v14), (4, jI v13), (2, jI v11), (0, jR 52), (1, jR p1)]) Γ dX8_goOn_116 4 rfl hnl rfl (fun _ => rfl) (fun v14 => ?_)
          refine jq_goto Γ (tgt := 53) dX8_goOn_119 rfl ?_
          refine jq_sub Γ (L' := [(0, jR 52), (1, jR p1), (2, jI v11), (3, jI v14)]) [3, 4, 2, 0] rfl ?_
          exact jq_done (hCt9 (v11, v14))
        · refine jq_sub Γ (L' := [(0, jR 52), (1, jR p1), (2, jI v11), (3, jI t9.2), (4, jI v13)]) [2, 3, 1, 4, 0] rfl ?_
          exact jq_done (hXt9 (.inl (v11, t9.2, v13)))
    · refine jq_elim ?_ ?_
      · intro e15
        refine jq_aload_n Γ dX8_goOn_93 rfl 0 rfl (jq_at_0 at_X_52) ?_
        refine jq_getR (v := 53) Γ hlY at_X_52 fl_RX8_9 rfl rfl ly_X8_row dX8_goOn_94 ?_
        refine jq_iload_n Γ dX8_goOn_97 rfl 3 rfl ?_
        refine jq_iload Γ dX8_goOn_98 4 rfl ?_
        refine jq_iast Γ at_X_53 rfl dX8_goOn_100 (fun s16 => ?_)
        refine jq_aload_n Γ dX8_goOn_101 rfl 0 rfl (jq_at_0 at_X_52) ?_
        refine jq_aload_n Γ dX8_goOn_102 rfl 1 rfl (jq_at_0 (at_com hp1)) ?_
        refine jq_iload_n Γ dX8_goOn_103 rfl 3 rfl ?_
        refine jq_iconst Γ dX8_goOn_104 rfl ?_
        refine jq_iadd Γ dX8_goOn_105 ?_
        refine jq_iload_n Γ dX8_goOn_106 rfl 2 rfl ?_
        refine jq_iconst Γ dX8_goOn_107 rfl ?_
        refine jq_iload Γ dX8_goOn_108 4 rfl ?_
        refine jq_ishl Γ dX8_goOn_110 ?_
        refine jq_ior Γ dX8_goOn_111 ?_
        refine jq_cwV (jq_virt (avs := [jR p1, jI (jq_w (e15.2.1 + 1)), jI (jq_or e15.1 (jq_shl 1 e15.2.2))]) (st := []) Γ hlY rfl ml_RX8_33 rfl at_X_52 rfl rfl rfl rfl rfl dX8_goOn_112) (fun σ' h => ctX8_fillFrom hp1 h) (fun s17 => ?_)
        exact jq_vreturn Γ dX8_goOn_115 (hK0 _)
      · intro e18
        exact jq_vreturn Γ dX8_goOn_122 (hK0 _)
  refine jq_iconst Γ dX8_goOn_0 rfl ?_
  refine jq_istore_n (L' := [(2, jI 0), (0, jR 52), (1, jR p1)]) Γ dX8_goOn_1 rfl hnl rfl rfl ?_
  refine jq_iconst Γ dX8_goOn_2 rfl ?_
  refine jq_istore_n (L' := [(3, jI 0), (2, jI 0), (0, jR 52), (1, jR p1)]) Γ dX8_goOn_3 rfl hnl rfl rfl ?_
  refine jq_sub Γ (L' := [(0, jR 52), (1, jR p1), (2, jI 0), (3, jI 0)]) [2, 3, 1, 0] rfl ?_
  refine jq_loop2 (C := fun (t1 : Int × Int) => jq_V jq_zX X (jq_zN jq_zX) σ 4 [(0, jR 52), (1, jR p1), (2, jI t1.1), (3, jI t1.2)] []) (KX := fun (e5 : Int) => jq_V jq_zX X (jq_zN jq_zX) σ 38 [(0, jR 52), (1, jR p1), (2, jI e5)] []) ?_ ?_ (0, 0)
  · intro K4_t1 hCt1 hXt1 t1
    unfold X8_goOn_b4
    refine jq_iload_n Γ dX8_goOn_4 rfl 3 rfl ?_
    refine jq_aload_n Γ dX8_goOn_5 rfl 1 rfl (jq_at_0 (at_com hp1)) ?_
    refine jq_getI (J := 2) Γ (at_com hp1) fl_RX8_30 rfl rfl dX8_goOn_6 ?_
    refine jq_icmp_ge (tgt := 38) Γ dX8_goOn_9 rfl ?_ ?_
    · refine jq_sub Γ (L' := [(0, jR 52), (1, jR p1), (2, jI t1.1)]) [0, 1, 2] rfl ?_
      exact jq_done (hXt1 t1.1)
    · refine jq_iload_n Γ dX8_goOn_12 rfl 3 rfl ?_
      refine jq_aload_n Γ dX8_goOn_13 rfl 0 rfl (jq_at_0 at_X_52) ?_
      refine jq_getR (v := 53) Γ hlY at_X_52 fl_RX8_9 rfl rfl ly_X8_row dX8_goOn_14 ?_
      refine jq_alen Γ at_X_53 rfl rfl rfl dX8_goOn_17 ?_
      refine jq_icmp_ge (tgt := 38) Γ dX8_goOn_18 rfl ?_ ?_
      · refine jq_sub Γ (L' := [(0, jR 52), (1, jR p1), (2, jI t1.1)]) [0, 1, 2] rfl ?_
        exact jq_done (hXt1 t1.1)
      · refine jq_iload_n Γ dX8_goOn_21 rfl 2 rfl ?_
        refine jq_iconst Γ dX8_goOn_22 rfl ?_
        refine jq_aload_n Γ dX8_goOn_23 rfl 0 rfl (jq_at_0 at_X_52) ?_
        refine jq_getR (v := 53) Γ hlY at_X_52 fl_RX8_9 rfl rfl ly_X8_row dX8_goOn_24 ?_
        refine jq_iload_n Γ dX8_goOn_27 rfl 3 rfl ?_
        refine jq_iald Γ at_X_53 rfl dX8_goOn_28 (fun v2 => ?_)
        refine jq_ishl Γ dX8_goOn_29 ?_
        refine jq_ior Γ dX8_goOn_30 ?_
        refine jq_nmI (fun v3 => ?_)
        refine jq_istore_n (L' := [(2, jI v3), (0, jR 52), (1, jR p1), (3, jI t1.2)]) Γ dX8_goOn_31 rfl hnl rfl rfl ?_
        refine jq_iincN (L' := fun v4 => [(3, jI v4), (2, jI v3), (0, jR 52), (1, jR p1)]) Γ dX8_goOn_32 3 rfl hnl rfl (fun _ => rfl) (fun v4 => ?_)
        refine jq_goto Γ (tgt := 4) dX8_goOn_35 rfl ?_
        refine jq_sub Γ (L' := [(0, jR 52), (1, jR p1), (2, jI v3), (3, jI v4)]) [2, 3, 1, 0] rfl ?_
        exact jq_done (hCt1 (v3, v4))
  · intro e5
    exact hj38_0 e5 σ


theorem dX8_countGood_0 : decode cX8_countGood 0 = .ok (.aload_n 0, 1) := by decide +kernel
theorem dX8_countGood_1 : decode cX8_countGood 1 = .ok (.aload_n 1, 1) := by decide +kernel
theorem dX8_countGood_2 : decode cX8_countGood 2 = .ok (.invokevirtual 57, 3) := by decide +kernel
theorem dX8_countGood_5 : decode cX8_countGood 5 = .ok (.istore_n 2, 1) := by decide +kernel
theorem dX8_countGood_6 : decode cX8_countGood 6 = .ok (.iconst 0, 1) := by decide +kernel
theorem dX8_countGood_7 : decode cX8_countGood 7 = .ok (.istore_n 3, 1) := by decide +kernel
theorem dX8_countGood_8 : decode cX8_countGood 8 = .ok (.iconst 0, 1) := by decide +kernel
theorem dX8_countGood_9 : decode cX8_countGood 9 = .ok (.istore 4, 2) := by decide +kernel
theorem dX8_countGood_11 : decode cX8_countGood 11 = .ok (.iload 4, 2) := by decide +kernel
theorem dX8_countGood_13 : decode cX8_countGood 13 = .ok (.iload_n 2, 1) := by decide +kernel
theorem dX8_countGood_14 : decode cX8_countGood 14 = .ok (.if_icmp .ge 32, 3) := by decide +kernel
theorem dX8_countGood_17 : decode cX8_countGood 17 = .ok (.aload_n 1, 1) := by decide +kernel
theorem dX8_countGood_18 : decode cX8_countGood 18 = .ok (.aload_n 0, 1) := by decide +kernel
theorem dX8_countGood_19 : decode cX8_countGood 19 = .ok (.getfield 9, 3) := by decide +kernel
theorem dX8_countGood_22 : decode cX8_countGood 22 = .ok (.invokevirtual 60, 3) := by decide +kernel
theorem dX8_countGood_25 : decode cX8_countGood 25 = .ok (.aload_n 1, 1) := by decide +kernel
theorem dX8_countGood_26 : decode cX8_countGood 26 = .ok (.invokevirtual 64, 3) := by decide +kernel
theorem dX8_countGood_29 : decode cX8_countGood 29 = .ok (.if_icmp .ne 6, 3) := by decide +kernel
theorem dX8_countGood_32 : decode cX8_countGood 32 = .ok (.iinc 3 1, 3) := by decide +kernel
theorem dX8_countGood_35 : decode cX8_countGood 35 = .ok (.aload_n 0, 1) := by decide +kernel
theorem dX8_countGood_36 : decode cX8_countGood 36 = .ok (.aload_n 1, 1) := by decide +kernel
theorem dX8_countGood_37 : decode cX8_countGood 37 = .ok (.invokevirtual 68, 3) := by decide +kernel
theorem dX8_countGood_40 : decode cX8_countGood 40 = .ok (.iinc 4 1, 3) := by decide +kernel
theorem dX8_countGood_43 : decode cX8_countGood 43 = .ok (.goto (-32), 3) := by decide +kernel
theorem dX8_countGood_46 : decode cX8_countGood 46 = .ok (.iload_n 3, 1) := by decide +kernel
theorem dX8_countGood_47 : decode cX8_countGood 47 = .ok (.ireturn, 1) := by decide +kernel
set_option maxHeartbeats 4000000 in
set_option maxRecDepth 100000 in
theorem ctX8_countGood {p1 : Int} {σ : jq_M} {res : Int} {σ' : jq_M} (hp1 : jq_com p1) (h : X8_countGood p1 σ = some (res, σ')) : jq_MC jq_zX yX8_countGood cX8_countGood 5 (some .int) 5 133 [jR 52, jR p1] σ (some (jI res)) σ' := by
  refine jq_met (own := RX8) (L0 := [(0, jR 52), (1, jR p1)]) (by decide) rfl rfl rfl ?_
  intro X Γ hnl hlY hRT
  refine jq_use2 (P := fun r => jq_RT jq_zX X (some .int) (some (jI r.1)) r.2) ?_ h hRT
  intro K0 hK0
  unfold X8_countGood
  refine jq_aload_n Γ dX8_countGood_0 rfl 0 rfl (jq_at_0 at_X_52) ?_
  refine jq_aload_n Γ dX8_countGood_1 rfl 1 rfl (jq_at_0 (at_com hp1)) ?_
  refine jq_cwI (jq_virt (avs := [jR p1]) (st := []) Γ hlY rfl ml_RX8_57 rfl at_X_52 rfl rfl rfl rfl rfl dX8_countGood_2) (fun r σ' h => ctX8_begin hp1 h) (fun v1 s2 => ?_)
  refine jq_istore_n (L' := [(2, jI v1), (0, jR 52), (1, jR p1)]) Γ dX8_countGood_5 rfl hnl rfl rfl ?_
  refine jq_iconst Γ dX8_countGood_6 rfl ?_
  refine jq_istore_n (L' := [(3, jI 0), (2, jI v1), (0, jR 52), (1, jR p1)]) Γ dX8_countGood_7 rfl hnl rfl rfl ?_
  refine jq_iconst Γ dX8_countGood_8 rfl ?_
  refine jq_istore (L' := [(4, jI 0), (3, jI 0), (2, jI v1), (0, jR 52), (1, jR p1)]) Γ dX8_countGood_9 hnl rfl rfl ?_
  refine jq_sub Γ (L' := [(0, jR 52), (1, jR p1), (2, jI v1), (3, jI 0), (4, jI 0)]) [3, 4, 2, 1, 0] rfl ?_
  refine jq_loop2 (C := fun (t3 : Int × Int × jq_M) => jq_V jq_zX X (jq_zN jq_zX) t3.2.2 11 [(0, jR 52), (1, jR p1), (2, jI v1), (3, jI t3.1), (4, jI t3.2.1)] []) (KX := fun (e13 : Int × jq_M) => jq_V jq_zX X (jq_zN jq_zX) e13.2 46 [(3, jI e13.1)] []) ?_ ?_ (0, 0, s2)
  · intro K11_t3 hCt3 hXt3 t3
    unfold X8_countGood_b11
    have hj35_1009 : ∀ (j7 : Int) (j8 : Int) (s9 : jq_M), jq_J (X8_countGood_j35 p1 v1 j7 j8 s9) K11_t3 (jq_V jq_zX X (jq_zN jq_zX) s9 35 [(0, jR 52), (1, jR p1), (2, jI v1), (3, jI j7), (4, jI j8)] []) := by
      intro j7 j8 s9
      unfold X8_countGood_j35
      refine jq_aload_n Γ dX8_countGood_35 rfl 0 rfl (jq_at_0 at_X_52) ?_
      refine jq_aload_n Γ dX8_countGood_36 rfl 1 rfl (jq_at_0 (at_com hp1)) ?_
      refine jq_cwV (jq_virt (avs := [jR p1]) (st := []) Γ hlY rfl ml_RX8_68 rfl at_X_52 rfl rfl rfl rfl rfl dX8_countGood_37) (fun σ' h => ctX8_goOn hp1 h) (fun s10 => ?_)
      refine jq_iincN (L' := fun v11 => [(4, jI v11), (0, jR 52), (1, jR p1), (2, jI v1), (3, jI j7)]) Γ dX8_countGood_40 4 rfl hnl rfl (fun _ => rfl) (fun v11 => ?_)
      refine jq_goto Γ (tgt := 11) dX8_countGood_43 rfl ?_
      refine jq_sub Γ (L' := [(0, jR 52), (1, jR p1), (2, jI v1), (3, jI j7), (4, jI v11)]) [1, 2, 3, 4, 0] rfl ?_
      exact jq_done (hCt3 (j7, v11, s10))
    refine jq_iload Γ dX8_countGood_11 4 rfl ?_
    refine jq_iload_n Γ dX8_countGood_13 rfl 2 rfl ?_
    refine jq_icmp_ge (tgt := 46) Γ dX8_countGood_14 rfl ?_ ?_
    · refine jq_sub Γ (L' := [(3, jI t3.1)]) [3] rfl ?_
      exact jq_done (hXt3 (t3.1, t3.2.2))
    · refine jq_aload_n Γ dX8_countGood_17 rfl 1 rfl (jq_at_0 (at_com hp1)) ?_
      refine jq_aload_n Γ dX8_countGood_18 rfl 0 rfl (jq_at_0 at_X_52) ?_
      refine jq_getR (v := 53) Γ hlY at_X_52 fl_RX8_9 rfl rfl ly_X8_row dX8_countGood_19 ?_
      refine jq_cwI (jq_virt (avs := [jR 53]) (st := []) Γ hlY rfl ml_RX8_60 rfl (at_com hp1) rfl rfl rfl rfl rfl dX8_countGood_22) (fun r σ' h => ctX1_signersOf hp1 row_53 h) (fun v4 s5 => ?_)
      refine jq_aload_n Γ dX8_countGood_25 rfl 1 rfl (jq_at_0 (at_com hp1)) ?_
      refine jq_cpI (jq_virt (avs := []) (st := [jI v4]) Γ hlY rfl ml_RX8_64 rfl (at_com hp1) rfl rfl rfl rfl rfl dX8_countGood_26) (fun r h => ctX1_allParties hp1 h) (fun v6 => ?_)
      refine jq_icmp_ne (tgt := 35) Γ dX8_countGood_29 rfl ?_ ?_
      · exact hj35_1009 t3.1 t3.2.1 s5
      · refine jq_iincN (L' := fun v12 => [(3, jI v12), (0, jR 52), (1, jR p1), (2, jI v1), (4, jI t3.2.1)]) Γ dX8_countGood_32 3 rfl hnl rfl (fun _ => rfl) (fun v12 => ?_)
        refine jq_sub Γ (L' := [(0, jR 52), (1, jR p1), (2, jI v1), (3, jI v12), (4, jI t3.2.1)]) [1, 2, 3, 0, 4] rfl ?_
        exact hj35_1009 v12 t3.2.1 s5
  · intro e13
    refine jq_iload_n Γ dX8_countGood_46 rfl 0 rfl ?_
    exact jq_ireturn Γ dX8_countGood_47 (hK0 _)


theorem dX10_good_0 : decode cX10_good 0 = .ok (.aload_n 0, 1) := by decide +kernel
theorem dX10_good_1 : decode cX10_good 1 = .ok (.aload_n 0, 1) := by decide +kernel
theorem dX10_good_2 : decode cX10_good 2 = .ok (.getfield 46, 3) := by decide +kernel
theorem dX10_good_5 : decode cX10_good 5 = .ok (.aload_n 0, 1) := by decide +kernel
theorem dX10_good_6 : decode cX10_good 6 = .ok (.getfield 25, 3) := by decide +kernel
theorem dX10_good_9 : decode cX10_good 9 = .ok (.invokevirtual 327, 3) := by decide +kernel
theorem dX10_good_12 : decode cX10_good 12 = .ok (.invokevirtual 167, 3) := by decide +kernel
theorem dX10_good_15 : decode cX10_good 15 = .ok (.ireturn, 1) := by decide +kernel
set_option maxHeartbeats 4000000 in
set_option maxRecDepth 100000 in
theorem ctX10_good  {σ : jq_M} {res : Int} {σ' : jq_M}  (h : X10_good σ = some (res, σ')) : jq_MC jq_zX yX10_good cX10_good 1 (some .int) 6 157 [jR 0] σ (some (jI res)) σ' := by
  refine jq_met (own := RX10) (L0 := [(0, jR 0)]) (by decide) rfl rfl rfl ?_
  intro X Γ hnl hlY hRT
  refine jq_use2 (P := fun r => jq_RT jq_zX X (some .int) (some (jI r.1)) r.2) ?_ h hRT
  intro K0 hK0
  unfold X10_good
  refine jq_aload_n Γ dX10_good_0 rfl 0 rfl (jq_at_0 at_X_0) ?_
  refine jq_aload_n Γ dX10_good_1 rfl 0 rfl (jq_at_0 at_X_0) ?_
  refine jq_getR (v := 52) Γ hlY at_X_0 fl_RX10_46 rfl rfl ly_X10_survey dX10_good_2 ?_
  refine jq_aload_n Γ dX10_good_5 rfl 0 rfl (jq_at_0 at_X_0) ?_
  refine jq_getC (C := jq_cm2) Γ hlY at_X_0 fl_RX10_25 rfl rfl ly_now dX10_good_6 (fun c1 hc2q => ?_)
  have hc2 := jq_cm2_com hc2q
  refine jq_cwI (jq_virt (avs := [jR c1]) (st := [jR 0]) Γ hlY rfl ml_RX10_327 rfl at_X_52 rfl rfl rfl rfl rfl dX10_good_9) (fun r σ' h => ctX8_countGood hc2 h) (fun v3 s4 => ?_)
  refine jq_cwI (jq_virt (avs := [jI v3]) (st := []) Γ hlY rfl ml_RX10_167 rfl at_X_0 rfl rfl rfl rfl rfl dX10_good_12) (fun r σ' h => ctX10_answer h) (fun v5 s6 => ?_)
  exact jq_ireturn Γ dX10_good_15 (hK0 _)


theorem dX8_numberOf_0 : decode cX8_numberOf 0 = .ok (.iconst 0, 1) := by decide +kernel
theorem dX8_numberOf_1 : decode cX8_numberOf 1 = .ok (.istore_n 2, 1) := by decide +kernel
theorem dX8_numberOf_2 : decode cX8_numberOf 2 = .ok (.iconst 0, 1) := by decide +kernel
theorem dX8_numberOf_3 : decode cX8_numberOf 3 = .ok (.istore_n 3, 1) := by decide +kernel
theorem dX8_numberOf_4 : decode cX8_numberOf 4 = .ok (.iconst 0, 1) := by decide +kernel
theorem dX8_numberOf_5 : decode cX8_numberOf 5 = .ok (.istore 4, 2) := by decide +kernel
theorem dX8_numberOf_7 : decode cX8_numberOf 7 = .ok (.iload 4, 2) := by decide +kernel
theorem dX8_numberOf_9 : decode cX8_numberOf 9 = .ok (.aload_n 0, 1) := by decide +kernel
theorem dX8_numberOf_10 : decode cX8_numberOf 10 = .ok (.getfield 30, 3) := by decide +kernel
theorem dX8_numberOf_13 : decode cX8_numberOf 13 = .ok (.if_icmp .ge 58, 3) := by decide +kernel
theorem dX8_numberOf_16 : decode cX8_numberOf 16 = .ok (.iload 4, 2) := by decide +kernel
theorem dX8_numberOf_18 : decode cX8_numberOf 18 = .ok (.aload_n 1, 1) := by decide +kernel
theorem dX8_numberOf_19 : decode cX8_numberOf 19 = .ok (.arraylength, 1) := by decide +kernel
theorem dX8_numberOf_20 : decode cX8_numberOf 20 = .ok (.if_icmp .ge 51, 3) := by decide +kernel
theorem dX8_numberOf_23 : decode cX8_numberOf 23 = .ok (.iload_n 3, 1) := by decide +kernel
theorem dX8_numberOf_24 : decode cX8_numberOf 24 = .ok (.iconst 1, 1) := by decide +kernel
theorem dX8_numberOf_25 : decode cX8_numberOf 25 = .ok (.aload_n 1, 1) := by decide +kernel
theorem dX8_numberOf_26 : decode cX8_numberOf 26 = .ok (.iload 4, 2) := by decide +kernel
theorem dX8_numberOf_28 : decode cX8_numberOf 28 = .ok (.iaload, 1) := by decide +kernel
theorem dX8_numberOf_29 : decode cX8_numberOf 29 = .ok (.ishl, 1) := by decide +kernel
theorem dX8_numberOf_30 : decode cX8_numberOf 30 = .ok (.iconst 1, 1) := by decide +kernel
theorem dX8_numberOf_31 : decode cX8_numberOf 31 = .ok (.isub, 1) := by decide +kernel
theorem dX8_numberOf_32 : decode cX8_numberOf 32 = .ok (.iand, 1) := by decide +kernel
theorem dX8_numberOf_33 : decode cX8_numberOf 33 = .ok (.istore 5, 2) := by decide +kernel
theorem dX8_numberOf_35 : decode cX8_numberOf 35 = .ok (.iload_n 2, 1) := by decide +kernel
theorem dX8_numberOf_36 : decode cX8_numberOf 36 = .ok (.aload_n 0, 1) := by decide +kernel
theorem dX8_numberOf_37 : decode cX8_numberOf 37 = .ok (.getfield 24, 3) := by decide +kernel
theorem dX8_numberOf_40 : decode cX8_numberOf 40 = .ok (.iload 4, 2) := by decide +kernel
theorem dX8_numberOf_42 : decode cX8_numberOf 42 = .ok (.isub, 1) := by decide +kernel
theorem dX8_numberOf_43 : decode cX8_numberOf 43 = .ok (.imul, 1) := by decide +kernel
theorem dX8_numberOf_44 : decode cX8_numberOf 44 = .ok (.aload_n 1, 1) := by decide +kernel
theorem dX8_numberOf_45 : decode cX8_numberOf 45 = .ok (.iload 4, 2) := by decide +kernel
theorem dX8_numberOf_47 : decode cX8_numberOf 47 = .ok (.iaload, 1) := by decide +kernel
theorem dX8_numberOf_48 : decode cX8_numberOf 48 = .ok (.iadd, 1) := by decide +kernel
theorem dX8_numberOf_49 : decode cX8_numberOf 49 = .ok (.iload 5, 2) := by decide +kernel
theorem dX8_numberOf_51 : decode cX8_numberOf 51 = .ok (.invokestatic 92, 3) := by decide +kernel
theorem dX8_numberOf_54 : decode cX8_numberOf 54 = .ok (.isub, 1) := by decide +kernel
theorem dX8_numberOf_55 : decode cX8_numberOf 55 = .ok (.istore_n 2, 1) := by decide +kernel
theorem dX8_numberOf_56 : decode cX8_numberOf 56 = .ok (.iload_n 3, 1) := by decide +kernel
theorem dX8_numberOf_57 : decode cX8_numberOf 57 = .ok (.iconst 1, 1) := by decide +kernel
theorem dX8_numberOf_58 : decode cX8_numberOf 58 = .ok (.aload_n 1, 1) := by decide +kernel
theorem dX8_numberOf_59 : decode cX8_numberOf 59 = .ok (.iload 4, 2) := by decide +kernel
theorem dX8_numberOf_61 : decode cX8_numberOf 61 = .ok (.iaload, 1) := by decide +kernel
theorem dX8_numberOf_62 : decode cX8_numberOf 62 = .ok (.ishl, 1) := by decide +kernel
theorem dX8_numberOf_63 : decode cX8_numberOf 63 = .ok (.ior, 1) := by decide +kernel
theorem dX8_numberOf_64 : decode cX8_numberOf 64 = .ok (.istore_n 3, 1) := by decide +kernel
theorem dX8_numberOf_65 : decode cX8_numberOf 65 = .ok (.iinc 4 1, 3) := by decide +kernel
theorem dX8_numberOf_68 : decode cX8_numberOf 68 = .ok (.goto (-61), 3) := by decide +kernel
theorem dX8_numberOf_71 : decode cX8_numberOf 71 = .ok (.iload_n 2, 1) := by decide +kernel
theorem dX8_numberOf_72 : decode cX8_numberOf 72 = .ok (.ireturn, 1) := by decide +kernel
set_option maxHeartbeats 4000000 in
set_option maxRecDepth 100000 in
theorem ctX8_numberOf {p0 : Int} {p1 : Int} {σ : jq_M} {res : Int} (hp0 : jq_com p0) (hp1 : jq_row p1) (h : X8_numberOf p0 p1 σ = some res) : jq_MC jq_zX yX8_numberOf cX8_numberOf 6 (some .int) 2 60 [jR p0, jR p1] σ (some (jI res)) σ := by
  refine jq_met (own := RX8) (L0 := [(0, jR p0), (1, jR p1)]) (by decide) rfl rfl rfl ?_
  intro X Γ hnl hlY hRT
  refine jq_use2 (P := fun r => jq_RT jq_zX X (some .int) (some (jI r)) σ) ?_ h hRT
  intro K0 hK0
  unfold X8_numberOf
  refine jq_iconst Γ dX8_numberOf_0 rfl ?_
  refine jq_istore_n (L' := [(2, jI 0), (0, jR p0), (1, jR p1)]) Γ dX8_numberOf_1 rfl hnl rfl rfl ?_
  refine jq_iconst Γ dX8_numberOf_2 rfl ?_
  refine jq_istore_n (L' := [(3, jI 0), (2, jI 0), (0, jR p0), (1, jR p1)]) Γ dX8_numberOf_3 rfl hnl rfl rfl ?_
  refine jq_iconst Γ dX8_numberOf_4 rfl ?_
  refine jq_istore (L' := [(4, jI 0), (3, jI 0), (2, jI 0), (0, jR p0), (1, jR p1)]) Γ dX8_numberOf_5 hnl rfl rfl ?_
  refine jq_sub Γ (L' := [(0, jR p0), (1, jR p1), (2, jI 0), (3, jI 0), (4, jI 0)]) [3, 4, 2, 1, 0] rfl ?_
  refine jq_loop2 (C := fun (t1 : Int × Int × Int) => jq_V jq_zX X (jq_zN jq_zX) σ 7 [(0, jR p0), (1, jR p1), (2, jI t1.1), (3, jI t1.2.1), (4, jI t1.2.2)] []) (KX := fun (e10 : Int) => jq_V jq_zX X (jq_zN jq_zX) σ 71 [(2, jI e10)] []) ?_ ?_ (0, 0, 0)
  · intro K7_t1 hCt1 hXt1 t1
    unfold X8_numberOf_b7
    refine jq_iload Γ dX8_numberOf_7 4 rfl ?_
    refine jq_aload_n Γ dX8_numberOf_9 rfl 0 rfl (jq_at_0 (at_com hp0)) ?_
    refine jq_getI (J := 2) Γ (at_com hp0) fl_RX8_30 rfl rfl dX8_numberOf_10 ?_
    refine jq_icmp_ge (tgt := 71) Γ dX8_numberOf_13 rfl ?_ ?_
    · refine jq_sub Γ (L' := [(2, jI t1.1)]) [2] rfl ?_
      exact jq_done (hXt1 t1.1)
    · refine jq_iload Γ dX8_numberOf_16 4 rfl ?_
      refine jq_aload_n Γ dX8_numberOf_18 rfl 1 rfl (jq_at_0 (at_row hp1)) ?_
      refine jq_alen Γ (at_row hp1) rfl rfl rfl dX8_numberOf_19 ?_
      refine jq_icmp_ge (tgt := 71) Γ dX8_numberOf_20 rfl ?_ ?_
      · refine jq_sub Γ (L' := [(2, jI t1.1)]) [2] rfl ?_
        exact jq_done (hXt1 t1.1)
      · refine jq_iload_n Γ dX8_numberOf_23 rfl 3 rfl ?_
        refine jq_iconst Γ dX8_numberOf_24 rfl ?_
        refine jq_aload_n Γ dX8_numberOf_25 rfl 1 rfl (jq_at_0 (at_row hp1)) ?_
        refine jq_iload Γ dX8_numberOf_26 4 rfl ?_
        refine jq_iald Γ (at_row hp1) rfl dX8_numberOf_28 (fun v2 => ?_)
        refine jq_ishl Γ dX8_numberOf_29 ?_
        refine jq_iconst Γ dX8_numberOf_30 rfl ?_
        refine jq_isub Γ dX8_numberOf_31 ?_
        refine jq_iand Γ dX8_numberOf_32 ?_
        refine jq_nmI (fun v3 => ?_)
        refine jq_istore (L' := [(5, jI v3), (0, jR p0), (1, jR p1), (2, jI t1.1), (3, jI t1.2.1), (4, jI t1.2.2)]) Γ dX8_numberOf_33 hnl rfl rfl ?_
        refine jq_iload_n Γ dX8_numberOf_35 rfl 3 rfl ?_
        refine jq_aload_n Γ dX8_numberOf_36 rfl 1 rfl (jq_at_0 (at_com hp0)) ?_
        refine jq_getI (J := 0) Γ (at_com hp0) fl_RX8_24 rfl rfl dX8_numberOf_37 ?_
        refine jq_iload Γ dX8_numberOf_40 5 rfl ?_
        refine jq_isub Γ dX8_numberOf_42 ?_
        refine jq_imul Γ dX8_numberOf_43 ?_
        refine jq_aload_n Γ dX8_numberOf_44 rfl 2 rfl (jq_at_0 (at_row hp1)) ?_
        refine jq_iload Γ dX8_numberOf_45 5 rfl ?_
        refine jq_iald Γ (at_row hp1) rfl dX8_numberOf_47 (fun v4 => ?_)
        refine jq_iadd Γ dX8_numberOf_48 ?_
        refine jq_iload Γ dX8_numberOf_49 0 rfl ?_
        refine jq_cpI (jq_stat (avs := [jI v3]) (st := [jI (jq_w ((jq_w (t1.1 * (jq_w ((σ p0 0) - t1.2.2)))) + v4))]) Γ hlY rfl ml_RX8_92 rfl rfl rfl rfl rfl dX8_numberOf_51) (fun r h => ctJ6_bitCount_0f7a4 h) (fun v5 => ?_)
        refine jq_isub Γ dX8_numberOf_54 ?_
        refine jq_nmI (fun v6 => ?_)
        refine jq_istore_n (L' := [(2, jI v6), (5, jI v3), (0, jR p0), (1, jR p1), (3, jI t1.2.1), (4, jI t1.2.2)]) Γ dX8_numberOf_55 rfl hnl rfl rfl ?_
        refine jq_iload_n Γ dX8_numberOf_56 rfl 4 rfl ?_
        refine jq_iconst Γ dX8_numberOf_57 rfl ?_
        refine jq_aload_n Γ dX8_numberOf_58 rfl 3 rfl (jq_at_0 (at_row hp1)) ?_
        refine jq_iload Γ dX8_numberOf_59 5 rfl ?_
        refine jq_iald Γ (at_row hp1) rfl dX8_numberOf_61 (fun v7 => ?_)
        refine jq_ishl Γ dX8_numberOf_62 ?_
        refine jq_ior Γ dX8_numberOf_63 ?_
        refine jq_nmI (fun v8 => ?_)
        refine jq_istore_n (L' := [(3, jI v8), (2, jI v6), (5, jI v3), (0, jR p0), (1, jR p1), (4, jI t1.2.2)]) Γ dX8_numberOf_64 rfl hnl rfl rfl ?_
        refine jq_iincN (L' := fun v9 => [(4, jI v9), (3, jI v8), (2, jI v6), (5, jI v3), (0, jR p0), (1, jR p1)]) Γ dX8_numberOf_65 5 rfl hnl rfl (fun _ => rfl) (fun v9 => ?_)
        refine jq_goto Γ (tgt := 7) dX8_numberOf_68 rfl ?_
        refine jq_sub Γ (L' := [(0, jR p0), (1, jR p1), (2, jI v6), (3, jI v8), (4, jI v9)]) [4, 5, 2, 1, 0] rfl ?_
        exact jq_done (hCt1 (v6, v8, v9))
  · intro e10
    refine jq_iload_n Γ dX8_numberOf_71 rfl 0 rfl ?_
    exact jq_ireturn Γ dX8_numberOf_72 (hK0 _)


theorem dX8_isGoodAhead_0 : decode cX8_isGoodAhead 0 = .ok (.iconst 0, 1) := by decide +kernel
theorem dX8_isGoodAhead_1 : decode cX8_isGoodAhead 1 = .ok (.istore 5, 2) := by decide +kernel
theorem dX8_isGoodAhead_3 : decode cX8_isGoodAhead 3 = .ok (.iload 5, 2) := by decide +kernel
theorem dX8_isGoodAhead_5 : decode cX8_isGoodAhead 5 = .ok (.aload_n 1, 1) := by decide +kernel
theorem dX8_isGoodAhead_6 : decode cX8_isGoodAhead 6 = .ok (.getfield 30, 3) := by decide +kernel
theorem dX8_isGoodAhead_9 : decode cX8_isGoodAhead 9 = .ok (.if_icmp .ge 50, 3) := by decide +kernel
theorem dX8_isGoodAhead_12 : decode cX8_isGoodAhead 12 = .ok (.iload 5, 2) := by decide +kernel
theorem dX8_isGoodAhead_14 : decode cX8_isGoodAhead 14 = .ok (.iconst 5, 1) := by decide +kernel
theorem dX8_isGoodAhead_15 : decode cX8_isGoodAhead 15 = .ok (.if_icmp .ge 44, 3) := by decide +kernel
theorem dX8_isGoodAhead_18 : decode cX8_isGoodAhead 18 = .ok (.aload_n 0, 1) := by decide +kernel
theorem dX8_isGoodAhead_19 : decode cX8_isGoodAhead 19 = .ok (.getfield 18, 3) := by decide +kernel
theorem dX8_isGoodAhead_22 : decode cX8_isGoodAhead 22 = .ok (.iload 5, 2) := by decide +kernel
theorem dX8_isGoodAhead_24 : decode cX8_isGoodAhead 24 = .ok (.iload_n 3, 1) := by decide +kernel
theorem dX8_isGoodAhead_25 : decode cX8_isGoodAhead 25 = .ok (.ifCond .eq 20, 3) := by decide +kernel
theorem dX8_isGoodAhead_28 : decode cX8_isGoodAhead 28 = .ok (.aload_n 1, 1) := by decide +kernel
theorem dX8_isGoodAhead_29 : decode cX8_isGoodAhead 29 = .ok (.getfield 24, 3) := by decide +kernel
theorem dX8_isGoodAhead_32 : decode cX8_isGoodAhead 32 = .ok (.iconst 1, 1) := by decide +kernel
theorem dX8_isGoodAhead_33 : decode cX8_isGoodAhead 33 = .ok (.isub, 1) := by decide +kernel
theorem dX8_isGoodAhead_34 : decode cX8_isGoodAhead 34 = .ok (.aload_n 0, 1) := by decide +kernel
theorem dX8_isGoodAhead_35 : decode cX8_isGoodAhead 35 = .ok (.getfield 9, 3) := by decide +kernel
theorem dX8_isGoodAhead_38 : decode cX8_isGoodAhead 38 = .ok (.iload 5, 2) := by decide +kernel
theorem dX8_isGoodAhead_40 : decode cX8_isGoodAhead 40 = .ok (.iaload, 1) := by decide +kernel
theorem dX8_isGoodAhead_41 : decode cX8_isGoodAhead 41 = .ok (.isub, 1) := by decide +kernel
theorem dX8_isGoodAhead_42 : decode cX8_isGoodAhead 42 = .ok (.goto 10, 3) := by decide +kernel
theorem dX8_isGoodAhead_45 : decode cX8_isGoodAhead 45 = .ok (.aload_n 0, 1) := by decide +kernel
theorem dX8_isGoodAhead_46 : decode cX8_isGoodAhead 46 = .ok (.getfield 9, 3) := by decide +kernel
theorem dX8_isGoodAhead_49 : decode cX8_isGoodAhead 49 = .ok (.iload 5, 2) := by decide +kernel
theorem dX8_isGoodAhead_51 : decode cX8_isGoodAhead 51 = .ok (.iaload, 1) := by decide +kernel
theorem dX8_isGoodAhead_52 : decode cX8_isGoodAhead 52 = .ok (.iastore, 1) := by decide +kernel
theorem dX8_isGoodAhead_53 : decode cX8_isGoodAhead 53 = .ok (.iinc 5 1, 3) := by decide +kernel
theorem dX8_isGoodAhead_56 : decode cX8_isGoodAhead 56 = .ok (.goto (-53), 3) := by decide +kernel
theorem dX8_isGoodAhead_59 : decode cX8_isGoodAhead 59 = .ok (.aload_n 1, 1) := by decide +kernel
theorem dX8_isGoodAhead_60 : decode cX8_isGoodAhead 60 = .ok (.iload_n 2, 1) := by decide +kernel
theorem dX8_isGoodAhead_61 : decode cX8_isGoodAhead 61 = .ok (.aload_n 0, 1) := by decide +kernel
theorem dX8_isGoodAhead_62 : decode cX8_isGoodAhead 62 = .ok (.getfield 18, 3) := by decide +kernel
theorem dX8_isGoodAhead_65 : decode cX8_isGoodAhead 65 = .ok (.invokevirtual 109, 3) := by decide +kernel
theorem dX8_isGoodAhead_68 : decode cX8_isGoodAhead 68 = .ok (.aload_n 1, 1) := by decide +kernel
theorem dX8_isGoodAhead_69 : decode cX8_isGoodAhead 69 = .ok (.aload_n 0, 1) := by decide +kernel
theorem dX8_isGoodAhead_70 : decode cX8_isGoodAhead 70 = .ok (.getfield 18, 3) := by decide +kernel
theorem dX8_isGoodAhead_73 : decode cX8_isGoodAhead 73 = .ok (.invokestatic 113, 3) := by decide +kernel
theorem dX8_isGoodAhead_76 : decode cX8_isGoodAhead 76 = .ok (.istore 5, 2) := by decide +kernel
theorem dX8_isGoodAhead_78 : decode cX8_isGoodAhead 78 = .ok (.iload 5, 2) := by decide +kernel
theorem dX8_isGoodAhead_80 : decode cX8_isGoodAhead 80 = .ok (.ifCond .lt 38, 3) := by decide +kernel
theorem dX8_isGoodAhead_83 : decode cX8_isGoodAhead 83 = .ok (.iload 5, 2) := by decide +kernel
theorem dX8_isGoodAhead_85 : decode cX8_isGoodAhead 85 = .ok (.iload 4, 2) := by decide +kernel
theorem dX8_isGoodAhead_87 : decode cX8_isGoodAhead 87 = .ok (.if_icmp .ge 31, 3) := by decide +kernel
theorem dX8_isGoodAhead_90 : decode cX8_isGoodAhead 90 = .ok (.iload 5, 2) := by decide +kernel
theorem dX8_isGoodAhead_92 : decode cX8_isGoodAhead 92 = .ok (.aload_n 0, 1) := by decide +kernel
theorem dX8_isGoodAhead_93 : decode cX8_isGoodAhead 93 = .ok (.getfield 21, 3) := by decide +kernel
theorem dX8_isGoodAhead_96 : decode cX8_isGoodAhead 96 = .ok (.arraylength, 1) := by decide +kernel
theorem dX8_isGoodAhead_97 : decode cX8_isGoodAhead 97 = .ok (.if_icmp .ge 21, 3) := by decide +kernel
theorem dX8_isGoodAhead_100 : decode cX8_isGoodAhead 100 = .ok (.aload_n 0, 1) := by decide +kernel
theorem dX8_isGoodAhead_101 : decode cX8_isGoodAhead 101 = .ok (.getfield 21, 3) := by decide +kernel
theorem dX8_isGoodAhead_104 : decode cX8_isGoodAhead 104 = .ok (.iload 5, 2) := by decide +kernel
theorem dX8_isGoodAhead_106 : decode cX8_isGoodAhead 106 = .ok (.iaload, 1) := by decide +kernel
theorem dX8_isGoodAhead_107 : decode cX8_isGoodAhead 107 = .ok (.aload_n 1, 1) := by decide +kernel
theorem dX8_isGoodAhead_108 : decode cX8_isGoodAhead 108 = .ok (.invokevirtual 64, 3) := by decide +kernel
theorem dX8_isGoodAhead_111 : decode cX8_isGoodAhead 111 = .ok (.if_icmp .ne 7, 3) := by decide +kernel
theorem dX8_isGoodAhead_114 : decode cX8_isGoodAhead 114 = .ok (.iconst 1, 1) := by decide +kernel
theorem dX8_isGoodAhead_115 : decode cX8_isGoodAhead 115 = .ok (.goto 4, 3) := by decide +kernel
theorem dX8_isGoodAhead_118 : decode cX8_isGoodAhead 118 = .ok (.iconst 0, 1) := by decide +kernel
theorem dX8_isGoodAhead_119 : decode cX8_isGoodAhead 119 = .ok (.ireturn, 1) := by decide +kernel
set_option maxHeartbeats 4000000 in
set_option maxRecDepth 100000 in
theorem ctX8_isGoodAhead {p1 : Int} {p2 : Int} {p3 : Int} {p4 : Int} {σ : jq_M} {res : Int} {σ' : jq_M} (hp1 : jq_com p1) (h : X8_isGoodAhead p1 p2 p3 p4 σ = some (res, σ')) : jq_MC jq_zX yX8_isGoodAhead cX8_isGoodAhead 6 (some .boolean) 3 85 [jR 52, jR p1, jI p2, jI p3, jI p4] σ (some (jI res)) σ' := by
  refine jq_met (own := RX8) (L0 := [(0, jR 52), (1, jR p1), (2, jI p2), (3, jI p3), (4, jI p4)]) (by decide) rfl rfl rfl ?_
  intro X Γ hnl hlY hRT
  refine jq_use2 (P := fun r => jq_RT jq_zX X (some .boolean) (some (jI r.1)) r.2) ?_ h hRT
  intro K0 hK0
  unfold X8_isGoodAhead
  have hj59_0 : ∀ (s9 : jq_M), jq_J (X8_isGoodAhead_j59 p1 p2 p4 s9) K0 (jq_V jq_zX X (jq_zN jq_zX) s9 59 [(0, jR 52), (1, jR p1), (2, jI p2), (4, jI p4)] []) := by
    intro s9
    unfold X8_isGoodAhead_j59
    refine jq_aload_n Γ dX8_isGoodAhead_59 rfl 1 rfl (jq_at_0 (at_com hp1)) ?_
    refine jq_iload_n Γ dX8_isGoodAhead_60 rfl 2 rfl ?_
    refine jq_aload_n Γ dX8_isGoodAhead_61 rfl 0 rfl (jq_at_0 at_X_52) ?_
    refine jq_getR (v := 55) Γ hlY at_X_52 fl_RX8_18 rfl rfl ly_X8_like dX8_isGoodAhead_62 ?_
    refine jq_cwV (jq_virt (avs := [jI p2, jR 55]) (st := []) Γ hlY rfl ml_RX8_109 rfl (at_com hp1) rfl rfl rfl rfl rfl dX8_isGoodAhead_65) (fun σ' h => ctX1_turnAll hp1 row_55 h) (fun s10 => ?_)
    refine jq_aload_n Γ dX8_isGoodAhead_68 rfl 1 rfl (jq_at_0 (at_com hp1)) ?_
    refine jq_aload_n Γ dX8_isGoodAhead_69 rfl 0 rfl (jq_at_0 at_X_52) ?_
    refine jq_getR (v := 55) Γ hlY at_X_52 fl_RX8_18 rfl rfl ly_X8_like dX8_isGoodAhead_70 ?_
    refine jq_cpI (jq_stat (avs := [jR p1, jR 55]) (st := []) Γ hlY rfl ml_RX8_113 rfl rfl rfl rfl rfl dX8_isGoodAhead_73) (fun r h => ctX8_numberOf hp1 row_55 h) (fun v11 => ?_)
    refine jq_istore (L' := [(5, jI v11), (0, jR 52), (1, jR p1), (2, jI p2), (4, jI p4)]) Γ dX8_isGoodAhead_76 hnl rfl rfl ?_
    refine jq_iload Γ dX8_isGoodAhead_78 0 rfl ?_
    refine jq_if_lt (tgt := 118) Γ dX8_isGoodAhead_80 rfl ?_ ?_
    · refine jq_iconst Γ dX8_isGoodAhead_118 rfl ?_
      exact jq_zreturn Γ (Or.inl rfl) dX8_isGoodAhead_119 (hK0 _)
    · refine jq_iload Γ dX8_isGoodAhead_83 0 rfl ?_
      refine jq_iload Γ dX8_isGoodAhead_85 4 rfl ?_
      refine jq_icmp_ge (tgt := 118) Γ dX8_isGoodAhead_87 rfl ?_ ?_
      · refine jq_iconst Γ dX8_isGoodAhead_118 rfl ?_
        exact jq_zreturn Γ (Or.inl rfl) dX8_isGoodAhead_119 (hK0 _)
      · refine jq_iload Γ dX8_isGoodAhead_90 0 rfl ?_
        refine jq_aload_n Γ dX8_isGoodAhead_92 rfl 1 rfl (jq_at_0 at_X_52) ?_
        refine jq_getR (v := 56) Γ hlY at_X_52 fl_RX8_21 rfl rfl ly_X8_signers dX8_isGoodAhead_93 ?_
        refine jq_alen Γ at_X_56 rfl rfl rfl dX8_isGoodAhead_96 ?_
        refine jq_icmp_ge (tgt := 118) Γ dX8_isGoodAhead_97 rfl ?_ ?_
        · refine jq_iconst Γ dX8_isGoodAhead_118 rfl ?_
          exact jq_zreturn Γ (Or.inl rfl) dX8_isGoodAhead_119 (hK0 _)
        · refine jq_aload_n Γ dX8_isGoodAhead_100 rfl 1 rfl (jq_at_0 at_X_52) ?_
          refine jq_getR (v := 56) Γ hlY at_X_52 fl_RX8_21 rfl rfl ly_X8_signers dX8_isGoodAhead_101 ?_
          refine jq_iload Γ dX8_isGoodAhead_104 0 rfl ?_
          refine jq_iald Γ at_X_56 rfl dX8_isGoodAhead_106 (fun v12 => ?_)
          refine jq_aload_n Γ dX8_isGoodAhead_107 rfl 2 rfl (jq_at_0 (at_com hp1)) ?_
          refine jq_cpI (jq_virt (avs := []) (st := [jI v12]) Γ hlY rfl ml_RX8_64 rfl (at_com hp1) rfl rfl rfl rfl rfl dX8_isGoodAhead_108) (fun r h => ctX1_allParties hp1 h) (fun v13 => ?_)
          refine jq_icmp_ne (tgt := 118) Γ dX8_isGoodAhead_111 rfl ?_ ?_
          · refine jq_iconst Γ dX8_isGoodAhead_118 rfl ?_
            exact jq_zreturn Γ (Or.inl rfl) dX8_isGoodAhead_119 (hK0 _)
          · refine jq_iconst Γ dX8_isGoodAhead_114 rfl ?_
            refine jq_goto Γ (tgt := 119) dX8_isGoodAhead_115 rfl ?_
            exact jq_zreturn Γ (Or.inr rfl) dX8_isGoodAhead_119 (hK0 _)
  refine jq_iconst Γ dX8_isGoodAhead_0 rfl ?_
  refine jq_istore (L' := [(5, jI 0), (0, jR 52), (1, jR p1), (2, jI p2), (3, jI p3), (4, jI p4)]) Γ dX8_isGoodAhead_1 hnl rfl rfl ?_
  refine jq_sub Γ (L' := [(0, jR 52), (1, jR p1), (2, jI p2), (3, jI p3), (4, jI p4), (5, jI 0)]) [1, 2, 3, 4, 5, 0] rfl ?_
  refine jq_loop2 (C := fun (t1 : Int × jq_M) => jq_V jq_zX X (jq_zN jq_zX) t1.2 3 [(0, jR 52), (1, jR p1), (2, jI p2), (3, jI p3), (4, jI p4), (5, jI t1.1)] []) (KX := fun (e8 : jq_M) => jq_V jq_zX X (jq_zN jq_zX) e8 59 [(0, jR 52), (1, jR p1), (2, jI p2), (4, jI p4)] []) ?_ ?_ (0, σ)
  · intro K3_t1 hCt1 hXt1 t1
    unfold X8_isGoodAhead_b3
    refine jq_iload Γ dX8_isGoodAhead_3 5 rfl ?_
    refine jq_aload_n Γ dX8_isGoodAhead_5 rfl 1 rfl (jq_at_0 (at_com hp1)) ?_
    refine jq_getI (J := 2) Γ (at_com hp1) fl_RX8_30 rfl rfl dX8_isGoodAhead_6 ?_
    refine jq_icmp_ge (tgt := 59) Γ dX8_isGoodAhead_9 rfl ?_ ?_
    · refine jq_sub Γ (L' := [(0, jR 52), (1, jR p1), (2, jI p2), (4, jI p4)]) [0, 1, 2, 4] rfl ?_
      exact jq_done (hXt1 t1.2)
    · refine jq_iload Γ dX8_isGoodAhead_12 5 rfl ?_
      refine jq_iconst Γ dX8_isGoodAhead_14 rfl ?_
      refine jq_icmp_ge (tgt := 59) Γ dX8_isGoodAhead_15 rfl ?_ ?_
      · refine jq_sub Γ (L' := [(0, jR 52), (1, jR p1), (2, jI p2), (4, jI p4)]) [0, 1, 2, 4] rfl ?_
        exact jq_done (hXt1 t1.2)
      · refine jq_aload_n Γ dX8_isGoodAhead_18 rfl 0 rfl (jq_at_0 at_X_52) ?_
        refine jq_getR (v := 55) Γ hlY at_X_52 fl_RX8_18 rfl rfl ly_X8_like dX8_isGoodAhead_19 ?_
        refine jq_iload Γ dX8_isGoodAhead_22 5 rfl ?_
        refine jq_iload_n Γ dX8_isGoodAhead_24 rfl 3 rfl ?_
        refine jq_if_eq (tgt := 45) Γ dX8_isGoodAhead_25 rfl ?_ ?_
        · refine jq_aload_n Γ dX8_isGoodAhead_45 rfl 0 rfl (jq_at_0 at_X_52) ?_
          refine jq_getR (v := 53) Γ hlY at_X_52 fl_RX8_9 rfl rfl ly_X8_row dX8_isGoodAhead_46 ?_
          refine jq_iload Γ dX8_isGoodAhead_49 5 rfl ?_
          refine jq_iald Γ at_X_53 rfl dX8_isGoodAhead_51 (fun v2 => ?_)
          refine jq_iast Γ at_X_55 rfl dX8_isGoodAhead_52 (fun s3 => ?_)
          refine jq_iincN (L' := fun v4 => [(5, jI v4), (0, jR 52), (1, jR p1), (2, jI p2), (3, jI p3), (4, jI p4)]) Γ dX8_isGoodAhead_53 5 rfl hnl rfl (fun _ => rfl) (fun v4 => ?_)
          refine jq_goto Γ (tgt := 3) dX8_isGoodAhead_56 rfl ?_
          refine jq_sub Γ (L' := [(0, jR 52), (1, jR p1), (2, jI p2), (3, jI p3), (4, jI p4), (5, jI v4)]) [1, 2, 3, 4, 5, 0] rfl ?_
          exact jq_done (hCt1 (v4, s3))
        · refine jq_aload_n Γ dX8_isGoodAhead_28 rfl 1 rfl (jq_at_0 (at_com hp1)) ?_
          refine jq_getI (J := 0) Γ (at_com hp1) fl_RX8_24 rfl rfl dX8_isGoodAhead_29 ?_
          refine jq_iconst Γ dX8_isGoodAhead_32 rfl ?_
          refine jq_isub Γ dX8_isGoodAhead_33 ?_
          refine jq_aload_n Γ dX8_isGoodAhead_34 rfl 0 rfl (jq_at_0 at_X_52) ?_
          refine jq_getR (v := 53) Γ hlY at_X_52 fl_RX8_9 rfl rfl ly_X8_row dX8_isGoodAhead_35 ?_
          refine jq_iload Γ dX8_isGoodAhead_38 5 rfl ?_
          refine jq_iald Γ at_X_53 rfl dX8_isGoodAhead_40 (fun v5 => ?_)
          refine jq_isub Γ dX8_isGoodAhead_41 ?_
          refine jq_goto Γ (tgt := 52) dX8_isGoodAhead_42 rfl ?_
          refine jq_iast Γ at_X_55 rfl dX8_isGoodAhead_52 (fun s6 => ?_)
          refine jq_iincN (L' := fun v7 => [(5, jI v7), (0, jR 52), (1, jR p1), (2, jI p2), (3, jI p3), (4, jI p4)]) Γ dX8_isGoodAhead_53 5 rfl hnl rfl (fun _ => rfl) (fun v7 => ?_)
          refine jq_goto Γ (tgt := 3) dX8_isGoodAhead_56 rfl ?_
          refine jq_sub Γ (L' := [(0, jR 52), (1, jR p1), (2, jI p2), (3, jI p3), (4, jI p4), (5, jI v7)]) [1, 2, 3, 4, 5, 0] rfl ?_
          exact jq_done (hCt1 (v7, s6))
  · intro e8
    exact hj59_0 e8


theorem dX8_isLikeAnEarlierGood_0 : decode cX8_isLikeAnEarlierGood 0 = .ok (.iconst 0, 1) := by decide +kernel
theorem dX8_isLikeAnEarlierGood_1 : decode cX8_isLikeAnEarlierGood 1 = .ok (.istore_n 3, 1) := by decide +kernel
theorem dX8_isLikeAnEarlierGood_2 : decode cX8_isLikeAnEarlierGood 2 = .ok (.iload_n 3, 1) := by decide +kernel
theorem dX8_isLikeAnEarlierGood_3 : decode cX8_isLikeAnEarlierGood 3 = .ok (.aload_n 1, 1) := by decide +kernel
theorem dX8_isLikeAnEarlierGood_4 : decode cX8_isLikeAnEarlierGood 4 = .ok (.getfield 24, 3) := by decide +kernel
theorem dX8_isLikeAnEarlierGood_7 : decode cX8_isLikeAnEarlierGood 7 = .ok (.if_icmp .ge 33, 3) := by decide +kernel
theorem dX8_isLikeAnEarlierGood_10 : decode cX8_isLikeAnEarlierGood 10 = .ok (.aload_n 0, 1) := by decide +kernel
theorem dX8_isLikeAnEarlierGood_11 : decode cX8_isLikeAnEarlierGood 11 = .ok (.aload_n 1, 1) := by decide +kernel
theorem dX8_isLikeAnEarlierGood_12 : decode cX8_isLikeAnEarlierGood 12 = .ok (.iload_n 3, 1) := by decide +kernel
theorem dX8_isLikeAnEarlierGood_13 : decode cX8_isLikeAnEarlierGood 13 = .ok (.iconst 0, 1) := by decide +kernel
theorem dX8_isLikeAnEarlierGood_14 : decode cX8_isLikeAnEarlierGood 14 = .ok (.iload_n 2, 1) := by decide +kernel
theorem dX8_isLikeAnEarlierGood_15 : decode cX8_isLikeAnEarlierGood 15 = .ok (.invokevirtual 105, 3) := by decide +kernel
theorem dX8_isLikeAnEarlierGood_18 : decode cX8_isLikeAnEarlierGood 18 = .ok (.ifCond .ne 14, 3) := by decide +kernel
theorem dX8_isLikeAnEarlierGood_21 : decode cX8_isLikeAnEarlierGood 21 = .ok (.aload_n 0, 1) := by decide +kernel
theorem dX8_isLikeAnEarlierGood_22 : decode cX8_isLikeAnEarlierGood 22 = .ok (.aload_n 1, 1) := by decide +kernel
theorem dX8_isLikeAnEarlierGood_23 : decode cX8_isLikeAnEarlierGood 23 = .ok (.iload_n 3, 1) := by decide +kernel
theorem dX8_isLikeAnEarlierGood_24 : decode cX8_isLikeAnEarlierGood 24 = .ok (.iconst 1, 1) := by decide +kernel
theorem dX8_isLikeAnEarlierGood_25 : decode cX8_isLikeAnEarlierGood 25 = .ok (.iload_n 2, 1) := by decide +kernel
theorem dX8_isLikeAnEarlierGood_26 : decode cX8_isLikeAnEarlierGood 26 = .ok (.invokevirtual 105, 3) := by decide +kernel
theorem dX8_isLikeAnEarlierGood_29 : decode cX8_isLikeAnEarlierGood 29 = .ok (.ifCond .eq 5, 3) := by decide +kernel
theorem dX8_isLikeAnEarlierGood_32 : decode cX8_isLikeAnEarlierGood 32 = .ok (.iconst 1, 1) := by decide +kernel
theorem dX8_isLikeAnEarlierGood_33 : decode cX8_isLikeAnEarlierGood 33 = .ok (.ireturn, 1) := by decide +kernel
theorem dX8_isLikeAnEarlierGood_34 : decode cX8_isLikeAnEarlierGood 34 = .ok (.iinc 3 1, 3) := by decide +kernel
theorem dX8_isLikeAnEarlierGood_37 : decode cX8_isLikeAnEarlierGood 37 = .ok (.goto (-35), 3) := by decide +kernel
theorem dX8_isLikeAnEarlierGood_40 : decode cX8_isLikeAnEarlierGood 40 = .ok (.iconst 0, 1) := by decide +kernel
theorem dX8_isLikeAnEarlierGood_41 : decode cX8_isLikeAnEarlierGood 41 = .ok (.ireturn, 1) := by decide +kernel
set_option maxHeartbeats 4000000 in
set_option maxRecDepth 100000 in
theorem ctX8_isLikeAnEarlierGood {p1 : Int} {p2 : Int} {σ : jq_M} {res : Int} {σ' : jq_M} (hp1 : jq_com p1) (h : X8_isLikeAnEarlierGood p1 p2 σ = some (res, σ')) : jq_MC jq_zX yX8_isLikeAnEarlierGood cX8_isLikeAnEarlierGood 4 (some .boolean) 4 110 [jR 52, jR p1, jI p2] σ (some (jI res)) σ' := by
  refine jq_met (own := RX8) (L0 := [(0, jR 52), (1, jR p1), (2, jI p2)]) (by decide) rfl rfl rfl ?_
  intro X Γ hnl hlY hRT
  refine jq_use2 (P := fun r => jq_RT jq_zX X (some .boolean) (some (jI r.1)) r.2) ?_ h hRT
  intro K0 hK0
  unfold X8_isLikeAnEarlierGood
  refine jq_iconst Γ dX8_isLikeAnEarlierGood_0 rfl ?_
  refine jq_istore_n (L' := [(3, jI 0), (0, jR 52), (1, jR p1), (2, jI p2)]) Γ dX8_isLikeAnEarlierGood_1 rfl hnl rfl rfl ?_
  refine jq_sub Γ (L' := [(0, jR 52), (1, jR p1), (2, jI p2), (3, jI 0)]) [1, 2, 3, 0] rfl ?_
  refine jq_loop2 (C := fun (t1 : Int × jq_M) => jq_V jq_zX X (jq_zN jq_zX) t1.2 2 [(0, jR 52), (1, jR p1), (2, jI p2), (3, jI t1.1)] []) (KX := Sum.elim (fun (e9 : jq_M) => jq_V jq_zX X (jq_zN jq_zX) e9 32 [] []) (fun (e10 : jq_M) => jq_V jq_zX X (jq_zN jq_zX) e10 40 [] [])) ?_ ?_ (0, σ)
  · intro K2_t1 hCt1 hXt1 t1
    unfold X8_isLikeAnEarlierGood_b2
    refine jq_iload_n Γ dX8_isLikeAnEarlierGood_2 rfl 3 rfl ?_
    refine jq_aload_n Γ dX8_isLikeAnEarlierGood_3 rfl 1 rfl (jq_at_0 (at_com hp1)) ?_
    refine jq_getI (J := 0) Γ (at_com hp1) fl_RX8_24 rfl rfl dX8_isLikeAnEarlierGood_4 ?_
    refine jq_icmp_ge (tgt := 40) Γ dX8_isLikeAnEarlierGood_7 rfl ?_ ?_
    · refine jq_sub Γ (L' := []) [] rfl ?_
      exact jq_done (hXt1 (.inr t1.2))
    · refine jq_aload_n Γ dX8_isLikeAnEarlierGood_10 rfl 0 rfl (jq_at_0 at_X_52) ?_
      refine jq_aload_n Γ dX8_isLikeAnEarlierGood_11 rfl 1 rfl (jq_at_0 (at_com hp1)) ?_
      refine jq_iload_n Γ dX8_isLikeAnEarlierGood_12 rfl 3 rfl ?_
      refine jq_iconst Γ dX8_isLikeAnEarlierGood_13 rfl ?_
      refine jq_iload_n Γ dX8_isLikeAnEarlierGood_14 rfl 2 rfl ?_
      refine jq_cwZ (jq_virt (avs := [jR p1, jI t1.1, jI 0, jI p2]) (st := []) Γ hlY rfl ml_RX8_105 rfl at_X_52 rfl rfl rfl rfl rfl dX8_isLikeAnEarlierGood_15) rfl (fun r σ' h => ctX8_isGoodAhead hp1 h) (fun v2 s3 hz4 => ?_)
      refine jq_if_ne (tgt := 32) Γ dX8_isLikeAnEarlierGood_18 rfl ?_ ?_
      · refine jq_sub Γ (L' := []) [] rfl ?_
        exact jq_done (hXt1 (.inl s3))
      · refine jq_aload_n Γ dX8_isLikeAnEarlierGood_21 rfl 0 rfl (jq_at_0 at_X_52) ?_
        refine jq_aload_n Γ dX8_isLikeAnEarlierGood_22 rfl 1 rfl (jq_at_0 (at_com hp1)) ?_
        refine jq_iload_n Γ dX8_isLikeAnEarlierGood_23 rfl 3 rfl ?_
        refine jq_iconst Γ dX8_isLikeAnEarlierGood_24 rfl ?_
        refine jq_iload_n Γ dX8_isLikeAnEarlierGood_25 rfl 2 rfl ?_
        refine jq_cwZ (jq_virt (avs := [jR p1, jI t1.1, jI 1, jI p2]) (st := []) Γ hlY rfl ml_RX8_105 rfl at_X_52 rfl rfl rfl rfl rfl dX8_isLikeAnEarlierGood_26) rfl (fun r σ' h => ctX8_isGoodAhead hp1 h) (fun v5 s6 hz7 => ?_)
        refine jq_if_eq (tgt := 34) Γ dX8_isLikeAnEarlierGood_29 rfl ?_ ?_
        · refine jq_iincN (L' := fun v8 => [(3, jI v8), (0, jR 52), (1, jR p1), (2, jI p2)]) Γ dX8_isLikeAnEarlierGood_34 3 rfl hnl rfl (fun _ => rfl) (fun v8 => ?_)
          refine jq_goto Γ (tgt := 2) dX8_isLikeAnEarlierGood_37 rfl ?_
          refine jq_sub Γ (L' := [(0, jR 52), (1, jR p1), (2, jI p2), (3, jI v8)]) [1, 2, 3, 0] rfl ?_
          exact jq_done (hCt1 (v8, s6))
        · refine jq_sub Γ (L' := []) [] rfl ?_
          exact jq_done (hXt1 (.inl s6))
  · refine jq_elim ?_ ?_
    · intro e9
      refine jq_iconst Γ dX8_isLikeAnEarlierGood_32 rfl ?_
      exact jq_zreturn Γ (Or.inr rfl) dX8_isLikeAnEarlierGood_33 (hK0 _)
    · intro e10
      refine jq_iconst Γ dX8_isLikeAnEarlierGood_40 rfl ?_
      exact jq_zreturn Γ (Or.inl rfl) dX8_isLikeAnEarlierGood_41 (hK0 _)


theorem dX8_countClasses_0 : decode cX8_countClasses 0 = .ok (.aload_n 0, 1) := by decide +kernel
theorem dX8_countClasses_1 : decode cX8_countClasses 1 = .ok (.aload_n 1, 1) := by decide +kernel
theorem dX8_countClasses_2 : decode cX8_countClasses 2 = .ok (.invokevirtual 57, 3) := by decide +kernel
theorem dX8_countClasses_5 : decode cX8_countClasses 5 = .ok (.istore_n 2, 1) := by decide +kernel
theorem dX8_countClasses_6 : decode cX8_countClasses 6 = .ok (.iconst 0, 1) := by decide +kernel
theorem dX8_countClasses_7 : decode cX8_countClasses 7 = .ok (.istore_n 3, 1) := by decide +kernel
theorem dX8_countClasses_8 : decode cX8_countClasses 8 = .ok (.iload_n 3, 1) := by decide +kernel
theorem dX8_countClasses_9 : decode cX8_countClasses 9 = .ok (.iload_n 2, 1) := by decide +kernel
theorem dX8_countClasses_10 : decode cX8_countClasses 10 = .ok (.if_icmp .ge 37, 3) := by decide +kernel
theorem dX8_countClasses_13 : decode cX8_countClasses 13 = .ok (.iload_n 3, 1) := by decide +kernel
theorem dX8_countClasses_14 : decode cX8_countClasses 14 = .ok (.aload_n 0, 1) := by decide +kernel
theorem dX8_countClasses_15 : decode cX8_countClasses 15 = .ok (.getfield 21, 3) := by decide +kernel
theorem dX8_countClasses_18 : decode cX8_countClasses 18 = .ok (.arraylength, 1) := by decide +kernel
theorem dX8_countClasses_19 : decode cX8_countClasses 19 = .ok (.if_icmp .ge 28, 3) := by decide +kernel
theorem dX8_countClasses_22 : decode cX8_countClasses 22 = .ok (.aload_n 0, 1) := by decide +kernel
theorem dX8_countClasses_23 : decode cX8_countClasses 23 = .ok (.getfield 21, 3) := by decide +kernel
theorem dX8_countClasses_26 : decode cX8_countClasses 26 = .ok (.iload_n 3, 1) := by decide +kernel
theorem dX8_countClasses_27 : decode cX8_countClasses 27 = .ok (.aload_n 1, 1) := by decide +kernel
theorem dX8_countClasses_28 : decode cX8_countClasses 28 = .ok (.aload_n 0, 1) := by decide +kernel
theorem dX8_countClasses_29 : decode cX8_countClasses 29 = .ok (.getfield 9, 3) := by decide +kernel
theorem dX8_countClasses_32 : decode cX8_countClasses 32 = .ok (.invokevirtual 60, 3) := by decide +kernel
theorem dX8_countClasses_35 : decode cX8_countClasses 35 = .ok (.iastore, 1) := by decide +kernel
theorem dX8_countClasses_36 : decode cX8_countClasses 36 = .ok (.aload_n 0, 1) := by decide +kernel
theorem dX8_countClasses_37 : decode cX8_countClasses 37 = .ok (.aload_n 1, 1) := by decide +kernel
theorem dX8_countClasses_38 : decode cX8_countClasses 38 = .ok (.invokevirtual 68, 3) := by decide +kernel
theorem dX8_countClasses_41 : decode cX8_countClasses 41 = .ok (.iinc 3 1, 3) := by decide +kernel
theorem dX8_countClasses_44 : decode cX8_countClasses 44 = .ok (.goto (-36), 3) := by decide +kernel
theorem dX8_countClasses_47 : decode cX8_countClasses 47 = .ok (.aload_n 0, 1) := by decide +kernel
theorem dX8_countClasses_48 : decode cX8_countClasses 48 = .ok (.aload_n 1, 1) := by decide +kernel
theorem dX8_countClasses_49 : decode cX8_countClasses 49 = .ok (.invokevirtual 57, 3) := by decide +kernel
theorem dX8_countClasses_52 : decode cX8_countClasses 52 = .ok (.pop, 1) := by decide +kernel
theorem dX8_countClasses_53 : decode cX8_countClasses 53 = .ok (.iconst 0, 1) := by decide +kernel
theorem dX8_countClasses_54 : decode cX8_countClasses 54 = .ok (.istore_n 3, 1) := by decide +kernel
theorem dX8_countClasses_55 : decode cX8_countClasses 55 = .ok (.iconst 0, 1) := by decide +kernel
theorem dX8_countClasses_56 : decode cX8_countClasses 56 = .ok (.istore 4, 2) := by decide +kernel
theorem dX8_countClasses_58 : decode cX8_countClasses 58 = .ok (.iload 4, 2) := by decide +kernel
theorem dX8_countClasses_60 : decode cX8_countClasses 60 = .ok (.iload_n 2, 1) := by decide +kernel
theorem dX8_countClasses_61 : decode cX8_countClasses 61 = .ok (.if_icmp .ge 51, 3) := by decide +kernel
theorem dX8_countClasses_64 : decode cX8_countClasses 64 = .ok (.iload 4, 2) := by decide +kernel
theorem dX8_countClasses_66 : decode cX8_countClasses 66 = .ok (.aload_n 0, 1) := by decide +kernel
theorem dX8_countClasses_67 : decode cX8_countClasses 67 = .ok (.getfield 21, 3) := by decide +kernel
theorem dX8_countClasses_70 : decode cX8_countClasses 70 = .ok (.arraylength, 1) := by decide +kernel
theorem dX8_countClasses_71 : decode cX8_countClasses 71 = .ok (.if_icmp .ge 41, 3) := by decide +kernel
theorem dX8_countClasses_74 : decode cX8_countClasses 74 = .ok (.aload_n 0, 1) := by decide +kernel
theorem dX8_countClasses_75 : decode cX8_countClasses 75 = .ok (.getfield 21, 3) := by decide +kernel
theorem dX8_countClasses_78 : decode cX8_countClasses 78 = .ok (.iload 4, 2) := by decide +kernel
theorem dX8_countClasses_80 : decode cX8_countClasses 80 = .ok (.iaload, 1) := by decide +kernel
theorem dX8_countClasses_81 : decode cX8_countClasses 81 = .ok (.aload_n 1, 1) := by decide +kernel
theorem dX8_countClasses_82 : decode cX8_countClasses 82 = .ok (.invokevirtual 64, 3) := by decide +kernel
theorem dX8_countClasses_85 : decode cX8_countClasses 85 = .ok (.if_icmp .ne 16, 3) := by decide +kernel
theorem dX8_countClasses_88 : decode cX8_countClasses 88 = .ok (.aload_n 0, 1) := by decide +kernel
theorem dX8_countClasses_89 : decode cX8_countClasses 89 = .ok (.aload_n 1, 1) := by decide +kernel
theorem dX8_countClasses_90 : decode cX8_countClasses 90 = .ok (.iload 4, 2) := by decide +kernel
theorem dX8_countClasses_92 : decode cX8_countClasses 92 = .ok (.invokevirtual 101, 3) := by decide +kernel
theorem dX8_countClasses_95 : decode cX8_countClasses 95 = .ok (.ifCond .ne 6, 3) := by decide +kernel
theorem dX8_countClasses_98 : decode cX8_countClasses 98 = .ok (.iinc 3 1, 3) := by decide +kernel
theorem dX8_countClasses_101 : decode cX8_countClasses 101 = .ok (.aload_n 0, 1) := by decide +kernel
theorem dX8_countClasses_102 : decode cX8_countClasses 102 = .ok (.aload_n 1, 1) := by decide +kernel
theorem dX8_countClasses_103 : decode cX8_countClasses 103 = .ok (.invokevirtual 68, 3) := by decide +kernel
theorem dX8_countClasses_106 : decode cX8_countClasses 106 = .ok (.iinc 4 1, 3) := by decide +kernel
theorem dX8_countClasses_109 : decode cX8_countClasses 109 = .ok (.goto (-51), 3) := by decide +kernel
theorem dX8_countClasses_112 : decode cX8_countClasses 112 = .ok (.iload_n 3, 1) := by decide +kernel
theorem dX8_countClasses_113 : decode cX8_countClasses 113 = .ok (.ireturn, 1) := by decide +kernel
set_option maxHeartbeats 4000000 in
set_option maxRecDepth 100000 in
theorem ctX8_countClasses {p1 : Int} {σ : jq_M} {res : Int} {σ' : jq_M} (hp1 : jq_com p1) (h : X8_countClasses p1 σ = some (res, σ')) : jq_MC jq_zX yX8_countClasses cX8_countClasses 5 (some .int) 5 133 [jR 52, jR p1] σ (some (jI res)) σ' := by
  refine jq_met (own := RX8) (L0 := [(0, jR 52), (1, jR p1)]) (by decide) rfl rfl rfl ?_
  intro X Γ hnl hlY hRT
  refine jq_use2 (P := fun r => jq_RT jq_zX X (some .int) (some (jI r.1)) r.2) ?_ h hRT
  intro K0 hK0
  unfold X8_countClasses
  have hj47_0 : ∀ (j10 : Int) (s11 : jq_M), jq_J (X8_countClasses_j47 p1 j10 s11) K0 (jq_V jq_zX X (jq_zN jq_zX) s11 47 [(0, jR 52), (1, jR p1), (2, jI j10)] []) := by
    intro j10 s11
    unfold X8_countClasses_j47
    refine jq_aload_n Γ dX8_countClasses_47 rfl 0 rfl (jq_at_0 at_X_52) ?_
    refine jq_aload_n Γ dX8_countClasses_48 rfl 1 rfl (jq_at_0 (at_com hp1)) ?_
    refine jq_cwI (jq_virt (avs := [jR p1]) (st := []) Γ hlY rfl ml_RX8_57 rfl at_X_52 rfl rfl rfl rfl rfl dX8_countClasses_49) (fun r σ' h => ctX8_begin hp1 h) (fun v12 s13 => ?_)
    refine jq_pop Γ dX8_countClasses_52 rfl ?_
    refine jq_iconst Γ dX8_countClasses_53 rfl ?_
    refine jq_istore_n (L' := [(3, jI 0), (0, jR 52), (1, jR p1), (2, jI j10)]) Γ dX8_countClasses_54 rfl hnl rfl rfl ?_
    refine jq_iconst Γ dX8_countClasses_55 rfl ?_
    refine jq_istore (L' := [(4, jI 0), (3, jI 0), (0, jR 52), (1, jR p1), (2, jI j10)]) Γ dX8_countClasses_56 hnl rfl rfl ?_
    refine jq_sub Γ (L' := [(0, jR 52), (1, jR p1), (2, jI j10), (3, jI 0), (4, jI 0)]) [2, 3, 4, 1, 0] rfl ?_
    refine jq_loop2 (C := fun (t14 : Int × Int × jq_M) => jq_V jq_zX X (jq_zN jq_zX) t14.2.2 58 [(0, jR 52), (1, jR p1), (2, jI j10), (3, jI t14.1), (4, jI t14.2.1)] []) (KX := fun (e26 : Int × jq_M) => jq_V jq_zX X (jq_zN jq_zX) e26.2 112 [(3, jI e26.1)] []) ?_ ?_ (0, 0, s13)
    · intro K58_t14 hCt14 hXt14 t14
      unfold X8_countClasses_b58
      have hj101_1031 : ∀ (j17 : Int) (j18 : Int) (s19 : jq_M), jq_J (X8_countClasses_j101 p1 j10 j17 j18 s19) K58_t14 (jq_V jq_zX X (jq_zN jq_zX) s19 101 [(0, jR 52), (1, jR p1), (2, jI j10), (3, jI j17), (4, jI j18)] []) := by
        intro j17 j18 s19
        unfold X8_countClasses_j101
        refine jq_aload_n Γ dX8_countClasses_101 rfl 0 rfl (jq_at_0 at_X_52) ?_
        refine jq_aload_n Γ dX8_countClasses_102 rfl 1 rfl (jq_at_0 (at_com hp1)) ?_
        refine jq_cwV (jq_virt (avs := [jR p1]) (st := []) Γ hlY rfl ml_RX8_68 rfl at_X_52 rfl rfl rfl rfl rfl dX8_countClasses_103) (fun σ' h => ctX8_goOn hp1 h) (fun s20 => ?_)
        refine jq_iincN (L' := fun v21 => [(4, jI v21), (0, jR 52), (1, jR p1), (2, jI j10), (3, jI j17)]) Γ dX8_countClasses_106 4 rfl hnl rfl (fun _ => rfl) (fun v21 => ?_)
        refine jq_goto Γ (tgt := 58) dX8_countClasses_109 rfl ?_
        refine jq_sub Γ (L' := [(0, jR 52), (1, jR p1), (2, jI j10), (3, jI j17), (4, jI v21)]) [1, 2, 3, 4, 0] rfl ?_
        exact jq_done (hCt14 (j17, v21, s20))
      refine jq_iload Γ dX8_countClasses_58 4 rfl ?_
      refine jq_iload_n Γ dX8_countClasses_60 rfl 2 rfl ?_
      refine jq_icmp_ge (tgt := 112) Γ dX8_countClasses_61 rfl ?_ ?_
      · refine jq_sub Γ (L' := [(3, jI t14.1)]) [3] rfl ?_
        exact jq_done (hXt14 (t14.1, t14.2.2))
      · refine jq_iload Γ dX8_countClasses_64 4 rfl ?_
        refine jq_aload_n Γ dX8_countClasses_66 rfl 0 rfl (jq_at_0 at_X_52) ?_
        refine jq_getR (v := 56) Γ hlY at_X_52 fl_RX8_21 rfl rfl ly_X8_signers dX8_countClasses_67 ?_
        refine jq_alen Γ at_X_56 rfl rfl rfl dX8_countClasses_70 ?_
        refine jq_icmp_ge (tgt := 112) Γ dX8_countClasses_71 rfl ?_ ?_
        · refine jq_sub Γ (L' := [(3, jI t14.1)]) [3] rfl ?_
          exact jq_done (hXt14 (t14.1, t14.2.2))
        · refine jq_aload_n Γ dX8_countClasses_74 rfl 0 rfl (jq_at_0 at_X_52) ?_
          refine jq_getR (v := 56) Γ hlY at_X_52 fl_RX8_21 rfl rfl ly_X8_signers dX8_countClasses_75 ?_
          refine jq_iload Γ dX8_countClasses_78 4 rfl ?_
          refine jq_iald Γ at_X_56 rfl dX8_countClasses_80 (fun v15 => ?_)
          refine jq_aload_n Γ dX8_countClasses_81 rfl 1 rfl (jq_at_0 (at_com hp1)) ?_
          refine jq_cpI (jq_virt (avs := []) (st := [jI v15]) Γ hlY rfl ml_RX8_64 rfl (at_com hp1) rfl rfl rfl rfl rfl dX8_countClasses_82) (fun r h => ctX1_allParties hp1 h) (fun v16 => ?_)
          refine jq_icmp_ne (tgt := 101) Γ dX8_countClasses_85 rfl ?_ ?_
          · exact hj101_1031 t14.1 t14.2.1 t14.2.2
          · refine jq_aload_n Γ dX8_countClasses_88 rfl 0 rfl (jq_at_0 at_X_52) ?_
            refine jq_aload_n Γ dX8_countClasses_89 rfl 1 rfl (jq_at_0 (at_com hp1)) ?_
            refine jq_iload Γ dX8_countClasses_90 4 rfl ?_
            refine jq_cwZ (jq_virt (avs := [jR p1, jI t14.2.1]) (st := []) Γ hlY rfl ml_RX8_101 rfl at_X_52 rfl rfl rfl rfl rfl dX8_countClasses_92) rfl (fun r σ' h => ctX8_isLikeAnEarlierGood hp1 h) (fun v22 s23 hz24 => ?_)
            refine jq_if_ne (tgt := 101) Γ dX8_countClasses_95 rfl ?_ ?_
            · exact hj101_1031 t14.1 t14.2.1 s23
            · refine jq_iincN (L' := fun v25 => [(3, jI v25), (0, jR 52), (1, jR p1), (2, jI j10), (4, jI t14.2.1)]) Γ dX8_countClasses_98 3 rfl hnl rfl (fun _ => rfl) (fun v25 => ?_)
              refine jq_sub Γ (L' := [(0, jR 52), (1, jR p1), (2, jI j10), (3, jI v25), (4, jI t14.2.1)]) [1, 2, 3, 0, 4] rfl ?_
              exact hj101_1031 v25 t14.2.1 s23
    · intro e26
      refine jq_iload_n Γ dX8_countClasses_112 rfl 0 rfl ?_
      exact jq_ireturn Γ dX8_countClasses_113 (hK0 _)
  refine jq_aload_n Γ dX8_countClasses_0 rfl 0 rfl (jq_at_0 at_X_52) ?_
  refine jq_aload_n Γ dX8_countClasses_1 rfl 1 rfl (jq_at_0 (at_com hp1)) ?_
  refine jq_cwI (jq_virt (avs := [jR p1]) (st := []) Γ hlY rfl ml_RX8_57 rfl at_X_52 rfl rfl rfl rfl rfl dX8_countClasses_2) (fun r σ' h => ctX8_begin hp1 h) (fun v1 s2 => ?_)
  refine jq_istore_n (L' := [(2, jI v1), (0, jR 52), (1, jR p1)]) Γ dX8_countClasses_5 rfl hnl rfl rfl ?_
  refine jq_iconst Γ dX8_countClasses_6 rfl ?_
  refine jq_istore_n (L' := [(3, jI 0), (2, jI v1), (0, jR 52), (1, jR p1)]) Γ dX8_countClasses_7 rfl hnl rfl rfl ?_
  refine jq_sub Γ (L' := [(0, jR 52), (1, jR p1), (2, jI v1), (3, jI 0)]) [2, 3, 1, 0] rfl ?_
  refine jq_loop2 (C := fun (t3 : Int × jq_M) => jq_V jq_zX X (jq_zN jq_zX) t3.2 8 [(0, jR 52), (1, jR p1), (2, jI v1), (3, jI t3.1)] []) (KX := fun (e9 : jq_M) => jq_V jq_zX X (jq_zN jq_zX) e9 47 [(0, jR 52), (1, jR p1), (2, jI v1)] []) ?_ ?_ (0, s2)
  · intro K8_t3 hCt3 hXt3 t3
    unfold X8_countClasses_b8
    refine jq_iload_n Γ dX8_countClasses_8 rfl 3 rfl ?_
    refine jq_iload_n Γ dX8_countClasses_9 rfl 2 rfl ?_
    refine jq_icmp_ge (tgt := 47) Γ dX8_countClasses_10 rfl ?_ ?_
    · refine jq_sub Γ (L' := [(0, jR 52), (1, jR p1), (2, jI v1)]) [0, 1, 2] rfl ?_
      exact jq_done (hXt3 t3.2)
    · refine jq_iload_n Γ dX8_countClasses_13 rfl 3 rfl ?_
      refine jq_aload_n Γ dX8_countClasses_14 rfl 0 rfl (jq_at_0 at_X_52) ?_
      refine jq_getR (v := 56) Γ hlY at_X_52 fl_RX8_21 rfl rfl ly_X8_signers dX8_countClasses_15 ?_
      refine jq_alen Γ at_X_56 rfl rfl rfl dX8_countClasses_18 ?_
      refine jq_icmp_ge (tgt := 47) Γ dX8_countClasses_19 rfl ?_ ?_
      · refine jq_sub Γ (L' := [(0, jR 52), (1, jR p1), (2, jI v1)]) [0, 1, 2] rfl ?_
        exact jq_done (hXt3 t3.2)
      · refine jq_aload_n Γ dX8_countClasses_22 rfl 0 rfl (jq_at_0 at_X_52) ?_
        refine jq_getR (v := 56) Γ hlY at_X_52 fl_RX8_21 rfl rfl ly_X8_signers dX8_countClasses_23 ?_
        refine jq_iload_n Γ dX8_countClasses_26 rfl 3 rfl ?_
        refine jq_aload_n Γ dX8_countClasses_27 rfl 1 rfl (jq_at_0 (at_com hp1)) ?_
        refine jq_aload_n Γ dX8_countClasses_28 rfl 0 rfl (jq_at_0 at_X_52) ?_
        refine jq_getR (v := 53) Γ hlY at_X_52 fl_RX8_9 rfl rfl ly_X8_row dX8_countClasses_29 ?_
        refine jq_cwI (jq_virt (avs := [jR 53]) (st := [jI t3.1, jR 56]) Γ hlY rfl ml_RX8_60 rfl (at_com hp1) rfl rfl rfl rfl rfl dX8_countClasses_32) (fun r σ' h => ctX1_signersOf hp1 row_53 h) (fun v4 s5 => ?_)
        refine jq_iast Γ at_X_56 rfl dX8_countClasses_35 (fun s6 => ?_)
        refine jq_aload_n Γ dX8_countClasses_36 rfl 0 rfl (jq_at_0 at_X_52) ?_
        refine jq_aload_n Γ dX8_countClasses_37 rfl 1 rfl (jq_at_0 (at_com hp1)) ?_
        refine jq_cwV (jq_virt (avs := [jR p1]) (st := []) Γ hlY rfl ml_RX8_68 rfl at_X_52 rfl rfl rfl rfl rfl dX8_countClasses_38) (fun σ' h => ctX8_goOn hp1 h) (fun s7 => ?_)
        refine jq_iincN (L' := fun v8 => [(3, jI v8), (0, jR 52), (1, jR p1), (2, jI v1)]) Γ dX8_countClasses_41 3 rfl hnl rfl (fun _ => rfl) (fun v8 => ?_)
        refine jq_goto Γ (tgt := 8) dX8_countClasses_44 rfl ?_
        refine jq_sub Γ (L' := [(0, jR 52), (1, jR p1), (2, jI v1), (3, jI v8)]) [1, 2, 3, 0] rfl ?_
        exact jq_done (hCt3 (v8, s7))
  · intro e9
    exact hj47_0 v1 e9


theorem dX10_classes_0 : decode cX10_classes 0 = .ok (.aload_n 0, 1) := by decide +kernel
theorem dX10_classes_1 : decode cX10_classes 1 = .ok (.aload_n 0, 1) := by decide +kernel
theorem dX10_classes_2 : decode cX10_classes 2 = .ok (.getfield 46, 3) := by decide +kernel
theorem dX10_classes_5 : decode cX10_classes 5 = .ok (.aload_n 0, 1) := by decide +kernel
theorem dX10_classes_6 : decode cX10_classes 6 = .ok (.getfield 25, 3) := by decide +kernel
theorem dX10_classes_9 : decode cX10_classes 9 = .ok (.invokevirtual 330, 3) := by decide +kernel
theorem dX10_classes_12 : decode cX10_classes 12 = .ok (.invokevirtual 167, 3) := by decide +kernel
theorem dX10_classes_15 : decode cX10_classes 15 = .ok (.ireturn, 1) := by decide +kernel
set_option maxHeartbeats 4000000 in
set_option maxRecDepth 100000 in
theorem ctX10_classes  {σ : jq_M} {res : Int} {σ' : jq_M}  (h : X10_classes σ = some (res, σ')) : jq_MC jq_zX yX10_classes cX10_classes 1 (some .int) 6 157 [jR 0] σ (some (jI res)) σ' := by
  refine jq_met (own := RX10) (L0 := [(0, jR 0)]) (by decide) rfl rfl rfl ?_
  intro X Γ hnl hlY hRT
  refine jq_use2 (P := fun r => jq_RT jq_zX X (some .int) (some (jI r.1)) r.2) ?_ h hRT
  intro K0 hK0
  unfold X10_classes
  refine jq_aload_n Γ dX10_classes_0 rfl 0 rfl (jq_at_0 at_X_0) ?_
  refine jq_aload_n Γ dX10_classes_1 rfl 0 rfl (jq_at_0 at_X_0) ?_
  refine jq_getR (v := 52) Γ hlY at_X_0 fl_RX10_46 rfl rfl ly_X10_survey dX10_classes_2 ?_
  refine jq_aload_n Γ dX10_classes_5 rfl 0 rfl (jq_at_0 at_X_0) ?_
  refine jq_getC (C := jq_cm2) Γ hlY at_X_0 fl_RX10_25 rfl rfl ly_now dX10_classes_6 (fun c1 hc2q => ?_)
  have hc2 := jq_cm2_com hc2q
  refine jq_cwI (jq_virt (avs := [jR c1]) (st := [jR 0]) Γ hlY rfl ml_RX10_330 rfl at_X_52 rfl rfl rfl rfl rfl dX10_classes_9) (fun r σ' h => ctX8_countClasses hc2 h) (fun v3 s4 => ?_)
  refine jq_cwI (jq_virt (avs := [jI v3]) (st := []) Γ hlY rfl ml_RX10_167 rfl at_X_0 rfl rfl rfl rfl rfl dX10_classes_12) (fun r σ' h => ctX10_answer h) (fun v5 s6 => ?_)
  exact jq_ireturn Γ dX10_classes_15 (hK0 _)


theorem dX8_findGood_0 : decode cX8_findGood 0 = .ok (.aload_n 0, 1) := by decide +kernel
theorem dX8_findGood_1 : decode cX8_findGood 1 = .ok (.aload_n 1, 1) := by decide +kernel
theorem dX8_findGood_2 : decode cX8_findGood 2 = .ok (.invokevirtual 57, 3) := by decide +kernel
theorem dX8_findGood_5 : decode cX8_findGood 5 = .ok (.istore_n 2, 1) := by decide +kernel
theorem dX8_findGood_6 : decode cX8_findGood 6 = .ok (.iconst 0, 1) := by decide +kernel
theorem dX8_findGood_7 : decode cX8_findGood 7 = .ok (.istore_n 3, 1) := by decide +kernel
theorem dX8_findGood_8 : decode cX8_findGood 8 = .ok (.iload_n 3, 1) := by decide +kernel
theorem dX8_findGood_9 : decode cX8_findGood 9 = .ok (.iload_n 2, 1) := by decide +kernel
theorem dX8_findGood_10 : decode cX8_findGood 10 = .ok (.if_icmp .ge 31, 3) := by decide +kernel
theorem dX8_findGood_13 : decode cX8_findGood 13 = .ok (.aload_n 1, 1) := by decide +kernel
theorem dX8_findGood_14 : decode cX8_findGood 14 = .ok (.aload_n 0, 1) := by decide +kernel
theorem dX8_findGood_15 : decode cX8_findGood 15 = .ok (.getfield 9, 3) := by decide +kernel
theorem dX8_findGood_18 : decode cX8_findGood 18 = .ok (.invokevirtual 60, 3) := by decide +kernel
theorem dX8_findGood_21 : decode cX8_findGood 21 = .ok (.aload_n 1, 1) := by decide +kernel
theorem dX8_findGood_22 : decode cX8_findGood 22 = .ok (.invokevirtual 64, 3) := by decide +kernel
theorem dX8_findGood_25 : decode cX8_findGood 25 = .ok (.if_icmp .ne 5, 3) := by decide +kernel
theorem dX8_findGood_28 : decode cX8_findGood 28 = .ok (.iconst 1, 1) := by decide +kernel
theorem dX8_findGood_29 : decode cX8_findGood 29 = .ok (.ireturn, 1) := by decide +kernel
theorem dX8_findGood_30 : decode cX8_findGood 30 = .ok (.aload_n 0, 1) := by decide +kernel
theorem dX8_findGood_31 : decode cX8_findGood 31 = .ok (.aload_n 1, 1) := by decide +kernel
theorem dX8_findGood_32 : decode cX8_findGood 32 = .ok (.invokevirtual 68, 3) := by decide +kernel
theorem dX8_findGood_35 : decode cX8_findGood 35 = .ok (.iinc 3 1, 3) := by decide +kernel
theorem dX8_findGood_38 : decode cX8_findGood 38 = .ok (.goto (-30), 3) := by decide +kernel
theorem dX8_findGood_41 : decode cX8_findGood 41 = .ok (.iconst 0, 1) := by decide +kernel
theorem dX8_findGood_42 : decode cX8_findGood 42 = .ok (.ireturn, 1) := by decide +kernel
set_option maxHeartbeats 4000000 in
set_option maxRecDepth 100000 in
theorem ctX8_findGood {p1 : Int} {σ : jq_M} {res : Int} {σ' : jq_M} (hp1 : jq_com p1) (h : X8_findGood p1 σ = some (res, σ')) : jq_MC jq_zX yX8_findGood cX8_findGood 4 (some .boolean) 5 133 [jR 52, jR p1] σ (some (jI res)) σ' := by
  refine jq_met (own := RX8) (L0 := [(0, jR 52), (1, jR p1)]) (by decide) rfl rfl rfl ?_
  intro X Γ hnl hlY hRT
  refine jq_use2 (P := fun r => jq_RT jq_zX X (some .boolean) (some (jI r.1)) r.2) ?_ h hRT
  intro K0 hK0
  unfold X8_findGood
  refine jq_aload_n Γ dX8_findGood_0 rfl 0 rfl (jq_at_0 at_X_52) ?_
  refine jq_aload_n Γ dX8_findGood_1 rfl 1 rfl (jq_at_0 (at_com hp1)) ?_
  refine jq_cwI (jq_virt (avs := [jR p1]) (st := []) Γ hlY rfl ml_RX8_57 rfl at_X_52 rfl rfl rfl rfl rfl dX8_findGood_2) (fun r σ' h => ctX8_begin hp1 h) (fun v1 s2 => ?_)
  refine jq_istore_n (L' := [(2, jI v1), (0, jR 52), (1, jR p1)]) Γ dX8_findGood_5 rfl hnl rfl rfl ?_
  refine jq_iconst Γ dX8_findGood_6 rfl ?_
  refine jq_istore_n (L' := [(3, jI 0), (2, jI v1), (0, jR 52), (1, jR p1)]) Γ dX8_findGood_7 rfl hnl rfl rfl ?_
  refine jq_sub Γ (L' := [(0, jR 52), (1, jR p1), (2, jI v1), (3, jI 0)]) [2, 3, 1, 0] rfl ?_
  refine jq_loop2 (C := fun (t3 : Int × jq_M) => jq_V jq_zX X (jq_zN jq_zX) t3.2 8 [(0, jR 52), (1, jR p1), (2, jI v1), (3, jI t3.1)] []) (KX := Sum.elim (fun (e9 : jq_M) => jq_V jq_zX X (jq_zN jq_zX) e9 28 [] []) (fun (e10 : jq_M) => jq_V jq_zX X (jq_zN jq_zX) e10 41 [] [])) ?_ ?_ (0, s2)
  · intro K8_t3 hCt3 hXt3 t3
    unfold X8_findGood_b8
    refine jq_iload_n Γ dX8_findGood_8 rfl 3 rfl ?_
    refine jq_iload_n Γ dX8_findGood_9 rfl 2 rfl ?_
    refine jq_icmp_ge (tgt := 41) Γ dX8_findGood_10 rfl ?_ ?_
    · refine jq_sub Γ (L' := []) [] rfl ?_
      exact jq_done (hXt3 (.inr t3.2))
    · refine jq_aload_n Γ dX8_findGood_13 rfl 1 rfl (jq_at_0 (at_com hp1)) ?_
      refine jq_aload_n Γ dX8_findGood_14 rfl 0 rfl (jq_at_0 at_X_52) ?_
      refine jq_getR (v := 53) Γ hlY at_X_52 fl_RX8_9 rfl rfl ly_X8_row dX8_findGood_15 ?_
      refine jq_cwI (jq_virt (avs := [jR 53]) (st := []) Γ hlY rfl ml_RX8_60 rfl (at_com hp1) rfl rfl rfl rfl rfl dX8_findGood_18) (fun r σ' h => ctX1_signersOf hp1 row_53 h) (fun v4 s5 => ?_)
      refine jq_aload_n Γ dX8_findGood_21 rfl 1 rfl (jq_at_0 (at_com hp1)) ?_
      refine jq_cpI (jq_virt (avs := []) (st := [jI v4]) Γ hlY rfl ml_RX8_64 rfl (at_com hp1) rfl rfl rfl rfl rfl dX8_findGood_22) (fun r h => ctX1_allParties hp1 h) (fun v6 => ?_)
      refine jq_icmp_ne (tgt := 30) Γ dX8_findGood_25 rfl ?_ ?_
      · refine jq_aload_n Γ dX8_findGood_30 rfl 0 rfl (jq_at_0 at_X_52) ?_
        refine jq_aload_n Γ dX8_findGood_31 rfl 1 rfl (jq_at_0 (at_com hp1)) ?_
        refine jq_cwV (jq_virt (avs := [jR p1]) (st := []) Γ hlY rfl ml_RX8_68 rfl at_X_52 rfl rfl rfl rfl rfl dX8_findGood_32) (fun σ' h => ctX8_goOn hp1 h) (fun s7 => ?_)
        refine jq_iincN (L' := fun v8 => [(3, jI v8), (0, jR 52), (1, jR p1), (2, jI v1)]) Γ dX8_findGood_35 3 rfl hnl rfl (fun _ => rfl) (fun v8 => ?_)
        refine jq_goto Γ (tgt := 8) dX8_findGood_38 rfl ?_
        refine jq_sub Γ (L' := [(0, jR 52), (1, jR p1), (2, jI v1), (3, jI v8)]) [1, 2, 3, 0] rfl ?_
        exact jq_done (hCt3 (v8, s7))
      · refine jq_sub Γ (L' := []) [] rfl ?_
        exact jq_done (hXt3 (.inl s5))
  · refine jq_elim ?_ ?_
    · intro e9
      refine jq_iconst Γ dX8_findGood_28 rfl ?_
      exact jq_zreturn Γ (Or.inr rfl) dX8_findGood_29 (hK0 _)
    · intro e10
      refine jq_iconst Γ dX8_findGood_41 rfl ?_
      exact jq_zreturn Γ (Or.inl rfl) dX8_findGood_42 (hK0 _)


theorem dX10_goodAt_0 : decode cX10_goodAt 0 = .ok (.aload_n 0, 1) := by decide +kernel
theorem dX10_goodAt_1 : decode cX10_goodAt 1 = .ok (.getfield 25, 3) := by decide +kernel
theorem dX10_goodAt_4 : decode cX10_goodAt 4 = .ok (.iload_n 1, 1) := by decide +kernel
theorem dX10_goodAt_5 : decode cX10_goodAt 5 = .ok (.invokevirtual 227, 3) := by decide +kernel
theorem dX10_goodAt_8 : decode cX10_goodAt 8 = .ok (.ifCond .ne 9, 3) := by decide +kernel
theorem dX10_goodAt_11 : decode cX10_goodAt 11 = .ok (.aload_n 0, 1) := by decide +kernel
theorem dX10_goodAt_12 : decode cX10_goodAt 12 = .ok (.iconst 1, 1) := by decide +kernel
theorem dX10_goodAt_13 : decode cX10_goodAt 13 = .ok (.invokevirtual 117, 3) := by decide +kernel
theorem dX10_goodAt_16 : decode cX10_goodAt 16 = .ok (.ireturn, 1) := by decide +kernel
theorem dX10_goodAt_17 : decode cX10_goodAt 17 = .ok (.aload_n 0, 1) := by decide +kernel
theorem dX10_goodAt_18 : decode cX10_goodAt 18 = .ok (.getfield 46, 3) := by decide +kernel
theorem dX10_goodAt_21 : decode cX10_goodAt 21 = .ok (.aload_n 0, 1) := by decide +kernel
theorem dX10_goodAt_22 : decode cX10_goodAt 22 = .ok (.getfield 25, 3) := by decide +kernel
theorem dX10_goodAt_25 : decode cX10_goodAt 25 = .ok (.invokevirtual 333, 3) := by decide +kernel
theorem dX10_goodAt_28 : decode cX10_goodAt 28 = .ok (.ifCond .ne 10, 3) := by decide +kernel
theorem dX10_goodAt_31 : decode cX10_goodAt 31 = .ok (.aload_n 0, 1) := by decide +kernel
theorem dX10_goodAt_32 : decode cX10_goodAt 32 = .ok (.bipush 6, 2) := by decide +kernel
theorem dX10_goodAt_34 : decode cX10_goodAt 34 = .ok (.invokevirtual 117, 3) := by decide +kernel
theorem dX10_goodAt_37 : decode cX10_goodAt 37 = .ok (.ireturn, 1) := by decide +kernel
theorem dX10_goodAt_38 : decode cX10_goodAt 38 = .ok (.aload_n 0, 1) := by decide +kernel
theorem dX10_goodAt_39 : decode cX10_goodAt 39 = .ok (.aload_n 0, 1) := by decide +kernel
theorem dX10_goodAt_40 : decode cX10_goodAt 40 = .ok (.getfield 46, 3) := by decide +kernel
theorem dX10_goodAt_43 : decode cX10_goodAt 43 = .ok (.getfield 337, 3) := by decide +kernel
theorem dX10_goodAt_46 : decode cX10_goodAt 46 = .ok (.iload_n 1, 1) := by decide +kernel
theorem dX10_goodAt_47 : decode cX10_goodAt 47 = .ok (.iaload, 1) := by decide +kernel
theorem dX10_goodAt_48 : decode cX10_goodAt 48 = .ok (.invokevirtual 167, 3) := by decide +kernel
theorem dX10_goodAt_51 : decode cX10_goodAt 51 = .ok (.ireturn, 1) := by decide +kernel
set_option maxHeartbeats 4000000 in
set_option maxRecDepth 100000 in
theorem ctX10_goodAt {p1 : Int} {σ : jq_M} {res : Int} {σ' : jq_M}  (h : X10_goodAt p1 σ = some (res, σ')) : jq_MC jq_zX yX10_goodAt cX10_goodAt 2 (some .int) 6 156 [jR 0, jI p1] σ (some (jI res)) σ' := by
  refine jq_met (own := RX10) (L0 := [(0, jR 0), (1, jI p1)]) (by decide) rfl rfl rfl ?_
  intro X Γ hnl hlY hRT
  refine jq_use2 (P := fun r => jq_RT jq_zX X (some .int) (some (jI r.1)) r.2) ?_ h hRT
  intro K0 hK0
  unfold X10_goodAt
  refine jq_aload_n Γ dX10_goodAt_0 rfl 0 rfl (jq_at_0 at_X_0) ?_
  refine jq_getC (C := jq_cm2) Γ hlY at_X_0 fl_RX10_25 rfl rfl ly_now dX10_goodAt_1 (fun c1 hc2q => ?_)
  have hc2 := jq_cm2_com hc2q
  refine jq_iload_n Γ dX10_goodAt_4 rfl 1 rfl ?_
  refine jq_cpZ (jq_virt (avs := [jI p1]) (st := []) Γ hlY rfl ml_RX10_227 rfl (at_com hc2) rfl rfl rfl rfl rfl dX10_goodAt_5) rfl (fun r h => ctX1_isParty hc2 h) (fun v3 hz4 => ?_)
  refine jq_if_ne (tgt := 17) Γ dX10_goodAt_8 rfl ?_ ?_
  · refine jq_aload_n Γ dX10_goodAt_17 rfl 0 rfl (jq_at_0 at_X_0) ?_
    refine jq_getR (v := 52) Γ hlY at_X_0 fl_RX10_46 rfl rfl ly_X10_survey dX10_goodAt_18 ?_
    refine jq_aload_n Γ dX10_goodAt_21 rfl 0 rfl (jq_at_0 at_X_0) ?_
    refine jq_getC (C := jq_cm2) Γ hlY at_X_0 fl_RX10_25 rfl rfl ly_now dX10_goodAt_22 (fun c5 hc6q => ?_)
    have hc6 := jq_cm2_com hc6q
    refine jq_cwZ (jq_virt (avs := [jR c5]) (st := []) Γ hlY rfl ml_RX10_333 rfl at_X_52 rfl rfl rfl rfl rfl dX10_goodAt_25) rfl (fun r σ' h => ctX8_findGood hc6 h) (fun v7 s8 hz9 => ?_)
    refine jq_if_ne (tgt := 38) Γ dX10_goodAt_28 rfl ?_ ?_
    · refine jq_aload_n Γ dX10_goodAt_38 rfl 0 rfl (jq_at_0 at_X_0) ?_
      refine jq_aload_n Γ dX10_goodAt_39 rfl 0 rfl (jq_at_0 at_X_0) ?_
      refine jq_getR (v := 52) Γ hlY at_X_0 fl_RX10_46 rfl rfl ly_X10_survey dX10_goodAt_40 ?_
      refine jq_getR (v := 53) Γ hlY at_X_52 fl_RX10_337 rfl rfl ly_X8_row dX10_goodAt_43 ?_
      refine jq_iload_n Γ dX10_goodAt_46 rfl 1 rfl ?_
      refine jq_iald Γ at_X_53 rfl dX10_goodAt_47 (fun v10 => ?_)
      refine jq_cwI (jq_virt (avs := [jI v10]) (st := []) Γ hlY rfl ml_RX10_167 rfl at_X_0 rfl rfl rfl rfl rfl dX10_goodAt_48) (fun r σ' h => ctX10_answer h) (fun v11 s12 => ?_)
      exact jq_ireturn Γ dX10_goodAt_51 (hK0 _)
    · refine jq_aload_n Γ dX10_goodAt_31 rfl 0 rfl (jq_at_0 at_X_0) ?_
      refine jq_bipush Γ dX10_goodAt_32 rfl ?_
      refine jq_cwI (jq_virt (avs := [jI 6]) (st := []) Γ hlY rfl ml_RX10_117 rfl at_X_0 rfl rfl rfl rfl rfl dX10_goodAt_34) (fun r σ' h => ctX10_refuse h) (fun v13 s14 => ?_)
      exact jq_ireturn Γ dX10_goodAt_37 (hK0 _)
  · refine jq_aload_n Γ dX10_goodAt_11 rfl 0 rfl (jq_at_0 at_X_0) ?_
    refine jq_iconst Γ dX10_goodAt_12 rfl ?_
    refine jq_cwI (jq_virt (avs := [jI 1]) (st := []) Γ hlY rfl ml_RX10_117 rfl at_X_0 rfl rfl rfl rfl rfl dX10_goodAt_13) (fun r σ' h => ctX10_refuse h) (fun v15 s16 => ?_)
    exact jq_ireturn Γ dX10_goodAt_16 (hK0 _)


theorem dX8_findBest_0 : decode cX8_findBest 0 = .ok (.aload_n 0, 1) := by decide +kernel
theorem dX8_findBest_1 : decode cX8_findBest 1 = .ok (.aload_n 1, 1) := by decide +kernel
theorem dX8_findBest_2 : decode cX8_findBest 2 = .ok (.invokevirtual 57, 3) := by decide +kernel
theorem dX8_findBest_5 : decode cX8_findBest 5 = .ok (.istore_n 2, 1) := by decide +kernel
theorem dX8_findBest_6 : decode cX8_findBest 6 = .ok (.iconst 0, 1) := by decide +kernel
theorem dX8_findBest_7 : decode cX8_findBest 7 = .ok (.istore_n 3, 1) := by decide +kernel
theorem dX8_findBest_8 : decode cX8_findBest 8 = .ok (.iconst 0, 1) := by decide +kernel
theorem dX8_findBest_9 : decode cX8_findBest 9 = .ok (.istore 4, 2) := by decide +kernel
theorem dX8_findBest_11 : decode cX8_findBest 11 = .ok (.iload 4, 2) := by decide +kernel
theorem dX8_findBest_13 : decode cX8_findBest 13 = .ok (.iload_n 2, 1) := by decide +kernel
theorem dX8_findBest_14 : decode cX8_findBest 14 = .ok (.if_icmp .ge 52, 3) := by decide +kernel
theorem dX8_findBest_17 : decode cX8_findBest 17 = .ok (.aload_n 1, 1) := by decide +kernel
theorem dX8_findBest_18 : decode cX8_findBest 18 = .ok (.aload_n 0, 1) := by decide +kernel
theorem dX8_findBest_19 : decode cX8_findBest 19 = .ok (.getfield 9, 3) := by decide +kernel
theorem dX8_findBest_22 : decode cX8_findBest 22 = .ok (.invokevirtual 72, 3) := by decide +kernel
theorem dX8_findBest_25 : decode cX8_findBest 25 = .ok (.istore 5, 2) := by decide +kernel
theorem dX8_findBest_27 : decode cX8_findBest 27 = .ok (.iload 4, 2) := by decide +kernel
theorem dX8_findBest_29 : decode cX8_findBest 29 = .ok (.ifCond .eq 9, 3) := by decide +kernel
theorem dX8_findBest_32 : decode cX8_findBest 32 = .ok (.iload 5, 2) := by decide +kernel
theorem dX8_findBest_34 : decode cX8_findBest 34 = .ok (.iload_n 3, 1) := by decide +kernel
theorem dX8_findBest_35 : decode cX8_findBest 35 = .ok (.if_icmp .le 20, 3) := by decide +kernel
theorem dX8_findBest_38 : decode cX8_findBest 38 = .ok (.iload 5, 2) := by decide +kernel
theorem dX8_findBest_40 : decode cX8_findBest 40 = .ok (.istore_n 3, 1) := by decide +kernel
theorem dX8_findBest_41 : decode cX8_findBest 41 = .ok (.aload_n 0, 1) := by decide +kernel
theorem dX8_findBest_42 : decode cX8_findBest 42 = .ok (.getfield 9, 3) := by decide +kernel
theorem dX8_findBest_45 : decode cX8_findBest 45 = .ok (.iconst 0, 1) := by decide +kernel
theorem dX8_findBest_46 : decode cX8_findBest 46 = .ok (.aload_n 0, 1) := by decide +kernel
theorem dX8_findBest_47 : decode cX8_findBest 47 = .ok (.getfield 15, 3) := by decide +kernel
theorem dX8_findBest_50 : decode cX8_findBest 50 = .ok (.iconst 0, 1) := by decide +kernel
theorem dX8_findBest_51 : decode cX8_findBest 51 = .ok (.iconst 5, 1) := by decide +kernel
theorem dX8_findBest_52 : decode cX8_findBest 52 = .ok (.invokestatic 75, 3) := by decide +kernel
theorem dX8_findBest_55 : decode cX8_findBest 55 = .ok (.aload_n 0, 1) := by decide +kernel
theorem dX8_findBest_56 : decode cX8_findBest 56 = .ok (.aload_n 1, 1) := by decide +kernel
theorem dX8_findBest_57 : decode cX8_findBest 57 = .ok (.invokevirtual 68, 3) := by decide +kernel
theorem dX8_findBest_60 : decode cX8_findBest 60 = .ok (.iinc 4 1, 3) := by decide +kernel
theorem dX8_findBest_63 : decode cX8_findBest 63 = .ok (.goto (-52), 3) := by decide +kernel
theorem dX8_findBest_66 : decode cX8_findBest 66 = .ok (.iload_n 3, 1) := by decide +kernel
theorem dX8_findBest_67 : decode cX8_findBest 67 = .ok (.ireturn, 1) := by decide +kernel
set_option maxHeartbeats 4000000 in
set_option maxRecDepth 100000 in
theorem ctX8_findBest {p1 : Int} {σ : jq_M} {res : Int} {σ' : jq_M} (hp1 : jq_com p1) (h : X8_findBest p1 σ = some (res, σ')) : jq_MC jq_zX yX8_findBest cX8_findBest 6 (some .int) 5 132 [jR 52, jR p1] σ (some (jI res)) σ' := by
  refine jq_met (own := RX8) (L0 := [(0, jR 52), (1, jR p1)]) (by decide) rfl rfl rfl ?_
  intro X Γ hnl hlY hRT
  refine jq_use2 (P := fun r => jq_RT jq_zX X (some .int) (some (jI r.1)) r.2) ?_ h hRT
  intro K0 hK0
  unfold X8_findBest
  refine jq_aload_n Γ dX8_findBest_0 rfl 0 rfl (jq_at_0 at_X_52) ?_
  refine jq_aload_n Γ dX8_findBest_1 rfl 1 rfl (jq_at_0 (at_com hp1)) ?_
  refine jq_cwI (jq_virt (avs := [jR p1]) (st := []) Γ hlY rfl ml_RX8_57 rfl at_X_52 rfl rfl rfl rfl rfl dX8_findBest_2) (fun r σ' h => ctX8_begin hp1 h) (fun v1 s2 => ?_)
  refine jq_istore_n (L' := [(2, jI v1), (0, jR 52), (1, jR p1)]) Γ dX8_findBest_5 rfl hnl rfl rfl ?_
  refine jq_iconst Γ dX8_findBest_6 rfl ?_
  refine jq_istore_n (L' := [(3, jI 0), (2, jI v1), (0, jR 52), (1, jR p1)]) Γ dX8_findBest_7 rfl hnl rfl rfl ?_
  refine jq_iconst Γ dX8_findBest_8 rfl ?_
  refine jq_istore (L' := [(4, jI 0), (3, jI 0), (2, jI v1), (0, jR 52), (1, jR p1)]) Γ dX8_findBest_9 hnl rfl rfl ?_
  refine jq_sub Γ (L' := [(0, jR 52), (1, jR p1), (2, jI v1), (3, jI 0), (4, jI 0)]) [3, 4, 2, 1, 0] rfl ?_
  refine jq_loop2 (C := fun (t3 : Int × Int × jq_M) => jq_V jq_zX X (jq_zN jq_zX) t3.2.2 11 [(0, jR 52), (1, jR p1), (2, jI v1), (3, jI t3.1), (4, jI t3.2.1)] []) (KX := fun (e14 : Int × jq_M) => jq_V jq_zX X (jq_zN jq_zX) e14.2 66 [(3, jI e14.1)] []) ?_ ?_ (0, 0, s2)
  · intro K11_t3 hCt3 hXt3 t3
    unfold X8_findBest_b11
    have hj55_1009 : ∀ (j9 : Int) (j10 : Int) (s11 : jq_M), jq_J (X8_findBest_j55 p1 v1 j9 j10 s11) K11_t3 (jq_V jq_zX X (jq_zN jq_zX) s11 55 [(0, jR 52), (1, jR p1), (2, jI v1), (3, jI j9), (4, jI j10)] []) := by
      intro j9 j10 s11
      unfold X8_findBest_j55
      refine jq_aload_n Γ dX8_findBest_55 rfl 0 rfl (jq_at_0 at_X_52) ?_
      refine jq_aload_n Γ dX8_findBest_56 rfl 1 rfl (jq_at_0 (at_com hp1)) ?_
      refine jq_cwV (jq_virt (avs := [jR p1]) (st := []) Γ hlY rfl ml_RX8_68 rfl at_X_52 rfl rfl rfl rfl rfl dX8_findBest_57) (fun σ' h => ctX8_goOn hp1 h) (fun s12 => ?_)
      refine jq_iincN (L' := fun v13 => [(4, jI v13), (0, jR 52), (1, jR p1), (2, jI v1), (3, jI j9)]) Γ dX8_findBest_60 4 rfl hnl rfl (fun _ => rfl) (fun v13 => ?_)
      refine jq_goto Γ (tgt := 11) dX8_findBest_63 rfl ?_
      refine jq_sub Γ (L' := [(0, jR 52), (1, jR p1), (2, jI v1), (3, jI j9), (4, jI v13)]) [1, 2, 3, 4, 0] rfl ?_
      exact jq_done (hCt3 (j9, v13, s12))
    have hj38_1009 : ∀ (j5 : Int) (j6 : Int) (s7 : jq_M), jq_J (X8_findBest_j38 p1 v1 j5 j6 s7) K11_t3 (jq_V jq_zX X (jq_zN jq_zX) s7 38 [(0, jR 52), (1, jR p1), (2, jI v1), (4, jI j5), (5, jI j6)] []) := by
      intro j5 j6 s7
      unfold X8_findBest_j38
      refine jq_iload Γ dX8_findBest_38 4 rfl ?_
      refine jq_istore_n (L' := [(3, jI j6), (0, jR 52), (1, jR p1), (2, jI v1), (4, jI j5), (5, jI j6)]) Γ dX8_findBest_40 rfl hnl rfl rfl ?_
      refine jq_aload_n Γ dX8_findBest_41 rfl 1 rfl (jq_at_0 at_X_52) ?_
      refine jq_getR (v := 53) Γ hlY at_X_52 fl_RX8_9 rfl rfl ly_X8_row dX8_findBest_42 ?_
      refine jq_iconst Γ dX8_findBest_45 rfl ?_
      refine jq_aload_n Γ dX8_findBest_46 rfl 1 rfl (jq_at_0 at_X_52) ?_
      refine jq_getR (v := 54) Γ hlY at_X_52 fl_RX8_15 rfl rfl ly_X8_chosen dX8_findBest_47 ?_
      refine jq_iconst Γ dX8_findBest_50 rfl ?_
      refine jq_iconst Γ dX8_findBest_51 rfl ?_
      refine jq_copyi Γ at_X_53 at_X_54 rfl rfl rfl aw_RX8_75 awn aws awi rfl rfl dX8_findBest_52 (fun s8 => ?_)
      refine jq_sub Γ (L' := [(0, jR 52), (1, jR p1), (2, jI v1), (3, jI j6), (4, jI j5)]) [1, 2, 3, 0, 4] rfl ?_
      exact hj55_1009 j6 j5 s8
    refine jq_iload Γ dX8_findBest_11 4 rfl ?_
    refine jq_iload_n Γ dX8_findBest_13 rfl 2 rfl ?_
    refine jq_icmp_ge (tgt := 66) Γ dX8_findBest_14 rfl ?_ ?_
    · refine jq_sub Γ (L' := [(3, jI t3.1)]) [3] rfl ?_
      exact jq_done (hXt3 (t3.1, t3.2.2))
    · refine jq_aload_n Γ dX8_findBest_17 rfl 1 rfl (jq_at_0 (at_com hp1)) ?_
      refine jq_aload_n Γ dX8_findBest_18 rfl 0 rfl (jq_at_0 at_X_52) ?_
      refine jq_getR (v := 53) Γ hlY at_X_52 fl_RX8_9 rfl rfl ly_X8_row dX8_findBest_19 ?_
      refine jq_cpI (jq_virt (avs := [jR 53]) (st := []) Γ hlY rfl ml_RX8_72 rfl (at_com hp1) rfl rfl rfl rfl rfl dX8_findBest_22) (fun r h => ctX1_worthOfAll hp1 row_53 h) (fun v4 => ?_)
      refine jq_istore (L' := [(5, jI v4), (0, jR 52), (1, jR p1), (2, jI v1), (3, jI t3.1), (4, jI t3.2.1)]) Γ dX8_findBest_25 hnl rfl rfl ?_
      refine jq_iload Γ dX8_findBest_27 5 rfl ?_
      refine jq_if_eq (tgt := 38) Γ dX8_findBest_29 rfl ?_ ?_
      · refine jq_sub Γ (L' := [(0, jR 52), (1, jR p1), (2, jI v1), (4, jI t3.2.1), (5, jI v4)]) [1, 2, 3, 5, 0] rfl ?_
        exact hj38_1009 t3.2.1 v4 t3.2.2
      · refine jq_iload Γ dX8_findBest_32 0 rfl ?_
        refine jq_iload_n Γ dX8_findBest_34 rfl 4 rfl ?_
        refine jq_icmp_le (tgt := 55) Γ dX8_findBest_35 rfl ?_ ?_
        · refine jq_sub Γ (L' := [(0, jR 52), (1, jR p1), (2, jI v1), (3, jI t3.1), (4, jI t3.2.1)]) [1, 2, 3, 4, 5] rfl ?_
          exact hj55_1009 t3.1 t3.2.1 t3.2.2
        · refine jq_sub Γ (L' := [(0, jR 52), (1, jR p1), (2, jI v1), (4, jI t3.2.1), (5, jI v4)]) [1, 2, 3, 5, 0] rfl ?_
          exact hj38_1009 t3.2.1 v4 t3.2.2
  · intro e14
    refine jq_iload_n Γ dX8_findBest_66 rfl 0 rfl ?_
    exact jq_ireturn Γ dX8_findBest_67 (hK0 _)


theorem dX10_best_0 : decode cX10_best 0 = .ok (.aload_n 0, 1) := by decide +kernel
theorem dX10_best_1 : decode cX10_best 1 = .ok (.getfield 25, 3) := by decide +kernel
theorem dX10_best_4 : decode cX10_best 4 = .ok (.getfield 185, 3) := by decide +kernel
theorem dX10_best_7 : decode cX10_best 7 = .ok (.ifCond .ne 10, 3) := by decide +kernel
theorem dX10_best_10 : decode cX10_best 10 = .ok (.aload_n 0, 1) := by decide +kernel
theorem dX10_best_11 : decode cX10_best 11 = .ok (.bipush 6, 2) := by decide +kernel
theorem dX10_best_13 : decode cX10_best 13 = .ok (.invokevirtual 117, 3) := by decide +kernel
theorem dX10_best_16 : decode cX10_best 16 = .ok (.ireturn, 1) := by decide +kernel
theorem dX10_best_17 : decode cX10_best 17 = .ok (.aload_n 0, 1) := by decide +kernel
theorem dX10_best_18 : decode cX10_best 18 = .ok (.aload_n 0, 1) := by decide +kernel
theorem dX10_best_19 : decode cX10_best 19 = .ok (.getfield 46, 3) := by decide +kernel
theorem dX10_best_22 : decode cX10_best 22 = .ok (.aload_n 0, 1) := by decide +kernel
theorem dX10_best_23 : decode cX10_best 23 = .ok (.getfield 25, 3) := by decide +kernel
theorem dX10_best_26 : decode cX10_best 26 = .ok (.invokevirtual 339, 3) := by decide +kernel
theorem dX10_best_29 : decode cX10_best 29 = .ok (.invokevirtual 167, 3) := by decide +kernel
theorem dX10_best_32 : decode cX10_best 32 = .ok (.ireturn, 1) := by decide +kernel
set_option maxHeartbeats 4000000 in
set_option maxRecDepth 100000 in
theorem ctX10_best  {σ : jq_M} {res : Int} {σ' : jq_M}  (h : X10_best σ = some (res, σ')) : jq_MC jq_zX yX10_best cX10_best 1 (some .int) 6 157 [jR 0] σ (some (jI res)) σ' := by
  refine jq_met (own := RX10) (L0 := [(0, jR 0)]) (by decide) rfl rfl rfl ?_
  intro X Γ hnl hlY hRT
  refine jq_use2 (P := fun r => jq_RT jq_zX X (some .int) (some (jI r.1)) r.2) ?_ h hRT
  intro K0 hK0
  unfold X10_best
  refine jq_aload_n Γ dX10_best_0 rfl 0 rfl (jq_at_0 at_X_0) ?_
  refine jq_getC (C := jq_cm2) Γ hlY at_X_0 fl_RX10_25 rfl rfl ly_now dX10_best_1 (fun c1 hc2q => ?_)
  have hc2 := jq_cm2_com hc2q
  refine jq_getI (J := 0) Γ (at_com hc2) fl_RX10_185 rfl rfl dX10_best_4 ?_
  refine jq_if_ne (tgt := 17) Γ dX10_best_7 rfl ?_ ?_
  · refine jq_aload_n Γ dX10_best_17 rfl 0 rfl (jq_at_0 at_X_0) ?_
    refine jq_aload_n Γ dX10_best_18 rfl 0 rfl (jq_at_0 at_X_0) ?_
    refine jq_getR (v := 52) Γ hlY at_X_0 fl_RX10_46 rfl rfl ly_X10_survey dX10_best_19 ?_
    refine jq_aload_n Γ dX10_best_22 rfl 0 rfl (jq_at_0 at_X_0) ?_
    refine jq_getC (C := jq_cm2) Γ hlY at_X_0 fl_RX10_25 rfl rfl ly_now dX10_best_23 (fun c3 hc4q => ?_)
    have hc4 := jq_cm2_com hc4q
    refine jq_cwI (jq_virt (avs := [jR c3]) (st := [jR 0]) Γ hlY rfl ml_RX10_339 rfl at_X_52 rfl rfl rfl rfl rfl dX10_best_26) (fun r σ' h => ctX8_findBest hc4 h) (fun v5 s6 => ?_)
    refine jq_cwI (jq_virt (avs := [jI v5]) (st := []) Γ hlY rfl ml_RX10_167 rfl at_X_0 rfl rfl rfl rfl rfl dX10_best_29) (fun r σ' h => ctX10_answer h) (fun v7 s8 => ?_)
    exact jq_ireturn Γ dX10_best_32 (hK0 _)
  · refine jq_aload_n Γ dX10_best_10 rfl 0 rfl (jq_at_0 at_X_0) ?_
    refine jq_bipush Γ dX10_best_11 rfl ?_
    refine jq_cwI (jq_virt (avs := [jI 6]) (st := []) Γ hlY rfl ml_RX10_117 rfl at_X_0 rfl rfl rfl rfl rfl dX10_best_13) (fun r σ' h => ctX10_refuse h) (fun v9 s10 => ?_)
    exact jq_ireturn Γ dX10_best_16 (hK0 _)


theorem dX10_bestAt_0 : decode cX10_bestAt 0 = .ok (.aload_n 0, 1) := by decide +kernel
theorem dX10_bestAt_1 : decode cX10_bestAt 1 = .ok (.getfield 25, 3) := by decide +kernel
theorem dX10_bestAt_4 : decode cX10_bestAt 4 = .ok (.iload_n 1, 1) := by decide +kernel
theorem dX10_bestAt_5 : decode cX10_bestAt 5 = .ok (.invokevirtual 227, 3) := by decide +kernel
theorem dX10_bestAt_8 : decode cX10_bestAt 8 = .ok (.ifCond .ne 9, 3) := by decide +kernel
theorem dX10_bestAt_11 : decode cX10_bestAt 11 = .ok (.aload_n 0, 1) := by decide +kernel
theorem dX10_bestAt_12 : decode cX10_bestAt 12 = .ok (.iconst 1, 1) := by decide +kernel
theorem dX10_bestAt_13 : decode cX10_bestAt 13 = .ok (.invokevirtual 117, 3) := by decide +kernel
theorem dX10_bestAt_16 : decode cX10_bestAt 16 = .ok (.ireturn, 1) := by decide +kernel
theorem dX10_bestAt_17 : decode cX10_bestAt 17 = .ok (.aload_n 0, 1) := by decide +kernel
theorem dX10_bestAt_18 : decode cX10_bestAt 18 = .ok (.getfield 46, 3) := by decide +kernel
theorem dX10_bestAt_21 : decode cX10_bestAt 21 = .ok (.aload_n 0, 1) := by decide +kernel
theorem dX10_bestAt_22 : decode cX10_bestAt 22 = .ok (.getfield 25, 3) := by decide +kernel
theorem dX10_bestAt_25 : decode cX10_bestAt 25 = .ok (.invokevirtual 339, 3) := by decide +kernel
theorem dX10_bestAt_28 : decode cX10_bestAt 28 = .ok (.pop, 1) := by decide +kernel
theorem dX10_bestAt_29 : decode cX10_bestAt 29 = .ok (.aload_n 0, 1) := by decide +kernel
theorem dX10_bestAt_30 : decode cX10_bestAt 30 = .ok (.aload_n 0, 1) := by decide +kernel
theorem dX10_bestAt_31 : decode cX10_bestAt 31 = .ok (.getfield 46, 3) := by decide +kernel
theorem dX10_bestAt_34 : decode cX10_bestAt 34 = .ok (.getfield 342, 3) := by decide +kernel
theorem dX10_bestAt_37 : decode cX10_bestAt 37 = .ok (.iload_n 1, 1) := by decide +kernel
theorem dX10_bestAt_38 : decode cX10_bestAt 38 = .ok (.iaload, 1) := by decide +kernel
theorem dX10_bestAt_39 : decode cX10_bestAt 39 = .ok (.invokevirtual 167, 3) := by decide +kernel
theorem dX10_bestAt_42 : decode cX10_bestAt 42 = .ok (.ireturn, 1) := by decide +kernel
set_option maxHeartbeats 4000000 in
set_option maxRecDepth 100000 in
theorem ctX10_bestAt {p1 : Int} {σ : jq_M} {res : Int} {σ' : jq_M}  (h : X10_bestAt p1 σ = some (res, σ')) : jq_MC jq_zX yX10_bestAt cX10_bestAt 2 (some .int) 6 157 [jR 0, jI p1] σ (some (jI res)) σ' := by
  refine jq_met (own := RX10) (L0 := [(0, jR 0), (1, jI p1)]) (by decide) rfl rfl rfl ?_
  intro X Γ hnl hlY hRT
  refine jq_use2 (P := fun r => jq_RT jq_zX X (some .int) (some (jI r.1)) r.2) ?_ h hRT
  intro K0 hK0
  unfold X10_bestAt
  refine jq_aload_n Γ dX10_bestAt_0 rfl 0 rfl (jq_at_0 at_X_0) ?_
  refine jq_getC (C := jq_cm2) Γ hlY at_X_0 fl_RX10_25 rfl rfl ly_now dX10_bestAt_1 (fun c1 hc2q => ?_)
  have hc2 := jq_cm2_com hc2q
  refine jq_iload_n Γ dX10_bestAt_4 rfl 1 rfl ?_
  refine jq_cpZ (jq_virt (avs := [jI p1]) (st := []) Γ hlY rfl ml_RX10_227 rfl (at_com hc2) rfl rfl rfl rfl rfl dX10_bestAt_5) rfl (fun r h => ctX1_isParty hc2 h) (fun v3 hz4 => ?_)
  refine jq_if_ne (tgt := 17) Γ dX10_bestAt_8 rfl ?_ ?_
  · refine jq_aload_n Γ dX10_bestAt_17 rfl 0 rfl (jq_at_0 at_X_0) ?_
    refine jq_getR (v := 52) Γ hlY at_X_0 fl_RX10_46 rfl rfl ly_X10_survey dX10_bestAt_18 ?_
    refine jq_aload_n Γ dX10_bestAt_21 rfl 0 rfl (jq_at_0 at_X_0) ?_
    refine jq_getC (C := jq_cm2) Γ hlY at_X_0 fl_RX10_25 rfl rfl ly_now dX10_bestAt_22 (fun c5 hc6q => ?_)
    have hc6 := jq_cm2_com hc6q
    refine jq_cwI (jq_virt (avs := [jR c5]) (st := []) Γ hlY rfl ml_RX10_339 rfl at_X_52 rfl rfl rfl rfl rfl dX10_bestAt_25) (fun r σ' h => ctX8_findBest hc6 h) (fun v7 s8 => ?_)
    refine jq_pop Γ dX10_bestAt_28 rfl ?_
    refine jq_aload_n Γ dX10_bestAt_29 rfl 0 rfl (jq_at_0 at_X_0) ?_
    refine jq_aload_n Γ dX10_bestAt_30 rfl 0 rfl (jq_at_0 at_X_0) ?_
    refine jq_getR (v := 52) Γ hlY at_X_0 fl_RX10_46 rfl rfl ly_X10_survey dX10_bestAt_31 ?_
    refine jq_getR (v := 54) Γ hlY at_X_52 fl_RX10_342 rfl rfl ly_X8_chosen dX10_bestAt_34 ?_
    refine jq_iload_n Γ dX10_bestAt_37 rfl 1 rfl ?_
    refine jq_iald Γ at_X_54 rfl dX10_bestAt_38 (fun v9 => ?_)
    refine jq_cwI (jq_virt (avs := [jI v9]) (st := []) Γ hlY rfl ml_RX10_167 rfl at_X_0 rfl rfl rfl rfl rfl dX10_bestAt_39) (fun r σ' h => ctX10_answer h) (fun v10 s11 => ?_)
    exact jq_ireturn Γ dX10_bestAt_42 (hK0 _)
  · refine jq_aload_n Γ dX10_bestAt_11 rfl 0 rfl (jq_at_0 at_X_0) ?_
    refine jq_iconst Γ dX10_bestAt_12 rfl ?_
    refine jq_cwI (jq_virt (avs := [jI 1]) (st := []) Γ hlY rfl ml_RX10_117 rfl at_X_0 rfl rfl rfl rfl rfl dX10_bestAt_13) (fun r σ' h => ctX10_refuse h) (fun v12 s13 => ?_)
    exact jq_ireturn Γ dX10_bestAt_16 (hK0 _)


theorem dX8_outcomes_0 : decode cX8_outcomes 0 = .ok (.aload_n 0, 1) := by decide +kernel
theorem dX8_outcomes_1 : decode cX8_outcomes 1 = .ok (.aload_n 1, 1) := by decide +kernel
theorem dX8_outcomes_2 : decode cX8_outcomes 2 = .ok (.invokevirtual 57, 3) := by decide +kernel
theorem dX8_outcomes_5 : decode cX8_outcomes 5 = .ok (.istore_n 2, 1) := by decide +kernel
theorem dX8_outcomes_6 : decode cX8_outcomes 6 = .ok (.iconst 0, 1) := by decide +kernel
theorem dX8_outcomes_7 : decode cX8_outcomes 7 = .ok (.istore_n 3, 1) := by decide +kernel
theorem dX8_outcomes_8 : decode cX8_outcomes 8 = .ok (.iconst 0, 1) := by decide +kernel
theorem dX8_outcomes_9 : decode cX8_outcomes 9 = .ok (.istore 4, 2) := by decide +kernel
theorem dX8_outcomes_11 : decode cX8_outcomes 11 = .ok (.iload 4, 2) := by decide +kernel
theorem dX8_outcomes_13 : decode cX8_outcomes 13 = .ok (.iload_n 2, 1) := by decide +kernel
theorem dX8_outcomes_14 : decode cX8_outcomes 14 = .ok (.if_icmp .ge 27, 3) := by decide +kernel
theorem dX8_outcomes_17 : decode cX8_outcomes 17 = .ok (.iload_n 3, 1) := by decide +kernel
theorem dX8_outcomes_18 : decode cX8_outcomes 18 = .ok (.iconst 1, 1) := by decide +kernel
theorem dX8_outcomes_19 : decode cX8_outcomes 19 = .ok (.aload_n 1, 1) := by decide +kernel
theorem dX8_outcomes_20 : decode cX8_outcomes 20 = .ok (.aload_n 0, 1) := by decide +kernel
theorem dX8_outcomes_21 : decode cX8_outcomes 21 = .ok (.getfield 9, 3) := by decide +kernel
theorem dX8_outcomes_24 : decode cX8_outcomes 24 = .ok (.invokevirtual 60, 3) := by decide +kernel
theorem dX8_outcomes_27 : decode cX8_outcomes 27 = .ok (.ishl, 1) := by decide +kernel
theorem dX8_outcomes_28 : decode cX8_outcomes 28 = .ok (.ior, 1) := by decide +kernel
theorem dX8_outcomes_29 : decode cX8_outcomes 29 = .ok (.istore_n 3, 1) := by decide +kernel
theorem dX8_outcomes_30 : decode cX8_outcomes 30 = .ok (.aload_n 0, 1) := by decide +kernel
theorem dX8_outcomes_31 : decode cX8_outcomes 31 = .ok (.aload_n 1, 1) := by decide +kernel
theorem dX8_outcomes_32 : decode cX8_outcomes 32 = .ok (.invokevirtual 68, 3) := by decide +kernel
theorem dX8_outcomes_35 : decode cX8_outcomes 35 = .ok (.iinc 4 1, 3) := by decide +kernel
theorem dX8_outcomes_38 : decode cX8_outcomes 38 = .ok (.goto (-27), 3) := by decide +kernel
theorem dX8_outcomes_41 : decode cX8_outcomes 41 = .ok (.iload_n 3, 1) := by decide +kernel
theorem dX8_outcomes_42 : decode cX8_outcomes 42 = .ok (.ireturn, 1) := by decide +kernel
set_option maxHeartbeats 4000000 in
set_option maxRecDepth 100000 in
theorem ctX8_outcomes {p1 : Int} {σ : jq_M} {res : Int} {σ' : jq_M} (hp1 : jq_com p1) (h : X8_outcomes p1 σ = some (res, σ')) : jq_MC jq_zX yX8_outcomes cX8_outcomes 5 (some .int) 5 133 [jR 52, jR p1] σ (some (jI res)) σ' := by
  refine jq_met (own := RX8) (L0 := [(0, jR 52), (1, jR p1)]) (by decide) rfl rfl rfl ?_
  intro X Γ hnl hlY hRT
  refine jq_use2 (P := fun r => jq_RT jq_zX X (some .int) (some (jI r.1)) r.2) ?_ h hRT
  intro K0 hK0
  unfold X8_outcomes
  refine jq_aload_n Γ dX8_outcomes_0 rfl 0 rfl (jq_at_0 at_X_52) ?_
  refine jq_aload_n Γ dX8_outcomes_1 rfl 1 rfl (jq_at_0 (at_com hp1)) ?_
  refine jq_cwI (jq_virt (avs := [jR p1]) (st := []) Γ hlY rfl ml_RX8_57 rfl at_X_52 rfl rfl rfl rfl rfl dX8_outcomes_2) (fun r σ' h => ctX8_begin hp1 h) (fun v1 s2 => ?_)
  refine jq_istore_n (L' := [(2, jI v1), (0, jR 52), (1, jR p1)]) Γ dX8_outcomes_5 rfl hnl rfl rfl ?_
  refine jq_iconst Γ dX8_outcomes_6 rfl ?_
  refine jq_istore_n (L' := [(3, jI 0), (2, jI v1), (0, jR 52), (1, jR p1)]) Γ dX8_outcomes_7 rfl hnl rfl rfl ?_
  refine jq_iconst Γ dX8_outcomes_8 rfl ?_
  refine jq_istore (L' := [(4, jI 0), (3, jI 0), (2, jI v1), (0, jR 52), (1, jR p1)]) Γ dX8_outcomes_9 hnl rfl rfl ?_
  refine jq_sub Γ (L' := [(0, jR 52), (1, jR p1), (2, jI v1), (3, jI 0), (4, jI 0)]) [3, 4, 2, 1, 0] rfl ?_
  refine jq_loop2 (C := fun (t3 : Int × Int × jq_M) => jq_V jq_zX X (jq_zN jq_zX) t3.2.2 11 [(0, jR 52), (1, jR p1), (2, jI v1), (3, jI t3.1), (4, jI t3.2.1)] []) (KX := fun (e9 : Int × jq_M) => jq_V jq_zX X (jq_zN jq_zX) e9.2 41 [(3, jI e9.1)] []) ?_ ?_ (0, 0, s2)
  · intro K11_t3 hCt3 hXt3 t3
    unfold X8_outcomes_b11
    refine jq_iload Γ dX8_outcomes_11 4 rfl ?_
    refine jq_iload_n Γ dX8_outcomes_13 rfl 2 rfl ?_
    refine jq_icmp_ge (tgt := 41) Γ dX8_outcomes_14 rfl ?_ ?_
    · refine jq_sub Γ (L' := [(3, jI t3.1)]) [3] rfl ?_
      exact jq_done (hXt3 (t3.1, t3.2.2))
    · refine jq_iload_n Γ dX8_outcomes_17 rfl 3 rfl ?_
      refine jq_iconst Γ dX8_outcomes_18 rfl ?_
      refine jq_aload_n Γ dX8_outcomes_19 rfl 1 rfl (jq_at_0 (at_com hp1)) ?_
      refine jq_aload_n Γ dX8_outcomes_20 rfl 0 rfl (jq_at_0 at_X_52) ?_
      refine jq_getR (v := 53) Γ hlY at_X_52 fl_RX8_9 rfl rfl ly_X8_row dX8_outcomes_21 ?_
      refine jq_cwI (jq_virt (avs := [jR 53]) (st := [jI 1, jI t3.1]) Γ hlY rfl ml_RX8_60 rfl (at_com hp1) rfl rfl rfl rfl rfl dX8_outcomes_24) (fun r σ' h => ctX1_signersOf hp1 row_53 h) (fun v4 s5 => ?_)
      refine jq_ishl Γ dX8_outcomes_27 ?_
      refine jq_ior Γ dX8_outcomes_28 ?_
      refine jq_nmI (fun v6 => ?_)
      refine jq_istore_n (L' := [(3, jI v6), (0, jR 52), (1, jR p1), (2, jI v1), (4, jI t3.2.1)]) Γ dX8_outcomes_29 rfl hnl rfl rfl ?_
      refine jq_aload_n Γ dX8_outcomes_30 rfl 1 rfl (jq_at_0 at_X_52) ?_
      refine jq_aload_n Γ dX8_outcomes_31 rfl 2 rfl (jq_at_0 (at_com hp1)) ?_
      refine jq_cwV (jq_virt (avs := [jR p1]) (st := []) Γ hlY rfl ml_RX8_68 rfl at_X_52 rfl rfl rfl rfl rfl dX8_outcomes_32) (fun σ' h => ctX8_goOn hp1 h) (fun s7 => ?_)
      refine jq_iincN (L' := fun v8 => [(4, jI v8), (3, jI v6), (0, jR 52), (1, jR p1), (2, jI v1)]) Γ dX8_outcomes_35 4 rfl hnl rfl (fun _ => rfl) (fun v8 => ?_)
      refine jq_goto Γ (tgt := 11) dX8_outcomes_38 rfl ?_
      refine jq_sub Γ (L' := [(0, jR 52), (1, jR p1), (2, jI v1), (3, jI v6), (4, jI v8)]) [2, 3, 4, 1, 0] rfl ?_
      exact jq_done (hCt3 (v6, v8, s7))
  · intro e9
    refine jq_iload_n Γ dX8_outcomes_41 rfl 0 rfl ?_
    exact jq_ireturn Γ dX8_outcomes_42 (hK0 _)


theorem dX8_mostOf_0 : decode cX8_mostOf 0 = .ok (.iconst 0, 1) := by decide +kernel
theorem dX8_mostOf_1 : decode cX8_mostOf 1 = .ok (.istore_n 1, 1) := by decide +kernel
theorem dX8_mostOf_2 : decode cX8_mostOf 2 = .ok (.iconst 0, 1) := by decide +kernel
theorem dX8_mostOf_3 : decode cX8_mostOf 3 = .ok (.istore_n 2, 1) := by decide +kernel
theorem dX8_mostOf_4 : decode cX8_mostOf 4 = .ok (.iload_n 2, 1) := by decide +kernel
theorem dX8_mostOf_5 : decode cX8_mostOf 5 = .ok (.bipush 32, 2) := by decide +kernel
theorem dX8_mostOf_7 : decode cX8_mostOf 7 = .ok (.if_icmp .ge 26, 3) := by decide +kernel
theorem dX8_mostOf_10 : decode cX8_mostOf 10 = .ok (.iload_n 0, 1) := by decide +kernel
theorem dX8_mostOf_11 : decode cX8_mostOf 11 = .ok (.iload_n 2, 1) := by decide +kernel
theorem dX8_mostOf_12 : decode cX8_mostOf 12 = .ok (.invokestatic 50, 3) := by decide +kernel
theorem dX8_mostOf_15 : decode cX8_mostOf 15 = .ok (.ifCond .eq 12, 3) := by decide +kernel
theorem dX8_mostOf_18 : decode cX8_mostOf 18 = .ok (.iload_n 1, 1) := by decide +kernel
theorem dX8_mostOf_19 : decode cX8_mostOf 19 = .ok (.iload_n 2, 1) := by decide +kernel
theorem dX8_mostOf_20 : decode cX8_mostOf 20 = .ok (.invokestatic 92, 3) := by decide +kernel
theorem dX8_mostOf_23 : decode cX8_mostOf 23 = .ok (.invokestatic 41, 3) := by decide +kernel
theorem dX8_mostOf_26 : decode cX8_mostOf 26 = .ok (.istore_n 1, 1) := by decide +kernel
theorem dX8_mostOf_27 : decode cX8_mostOf 27 = .ok (.iinc 2 1, 3) := by decide +kernel
theorem dX8_mostOf_30 : decode cX8_mostOf 30 = .ok (.goto (-26), 3) := by decide +kernel
theorem dX8_mostOf_33 : decode cX8_mostOf 33 = .ok (.iload_n 1, 1) := by decide +kernel
theorem dX8_mostOf_34 : decode cX8_mostOf 34 = .ok (.ireturn, 1) := by decide +kernel
set_option maxHeartbeats 4000000 in
set_option maxRecDepth 100000 in
theorem ctX8_mostOf {p0 : Int} {σ : jq_M} {res : Int}  (h : X8_mostOf p0 σ = some res) : jq_MC jq_zX yX8_mostOf cX8_mostOf 3 (some .int) 2 61 [jI p0] σ (some (jI res)) σ := by
  refine jq_met (own := RX8) (L0 := [(0, jI p0)]) (by decide) rfl rfl rfl ?_
  intro X Γ hnl hlY hRT
  refine jq_use2 (P := fun r => jq_RT jq_zX X (some .int) (some (jI r)) σ) ?_ h hRT
  intro K0 hK0
  unfold X8_mostOf
  refine jq_iconst Γ dX8_mostOf_0 rfl ?_
  refine jq_istore_n (L' := [(1, jI 0), (0, jI p0)]) Γ dX8_mostOf_1 rfl hnl rfl rfl ?_
  refine jq_iconst Γ dX8_mostOf_2 rfl ?_
  refine jq_istore_n (L' := [(2, jI 0), (1, jI 0), (0, jI p0)]) Γ dX8_mostOf_3 rfl hnl rfl rfl ?_
  refine jq_sub Γ (L' := [(0, jI p0), (1, jI 0), (2, jI 0)]) [2, 1, 0] rfl ?_
  refine jq_loop2 (C := fun (t1 : Int × Int) => jq_V jq_zX X (jq_zN jq_zX) σ 4 [(0, jI p0), (1, jI t1.1), (2, jI t1.2)] []) (KX := fun (e8 : Int) => jq_V jq_zX X (jq_zN jq_zX) σ 33 [(1, jI e8)] []) ?_ ?_ (0, 0)
  · intro K4_t1 hCt1 hXt1 t1
    unfold X8_mostOf_b4
    refine jq_iload_n Γ dX8_mostOf_4 rfl 2 rfl ?_
    refine jq_bipush Γ dX8_mostOf_5 rfl ?_
    refine jq_icmp_ge (tgt := 33) Γ dX8_mostOf_7 rfl ?_ ?_
    · refine jq_sub Γ (L' := [(1, jI t1.1)]) [1] rfl ?_
      exact jq_done (hXt1 t1.1)
    · refine jq_iload_n Γ dX8_mostOf_10 rfl 0 rfl ?_
      refine jq_iload_n Γ dX8_mostOf_11 rfl 2 rfl ?_
      refine jq_cpZ (jq_nest (avs := [jI p0, jI t1.2]) (st := []) Γ hlY rfl ml_RX8_50 rfl rfl rfl rfl rfl dX8_mostOf_12) rfl (fun r h => ctX10_holds h) (fun v2 hz3 => ?_)
      refine jq_if_eq (tgt := 27) Γ dX8_mostOf_15 rfl ?_ ?_
      · refine jq_iincN (L' := fun v4 => [(2, jI v4), (0, jI p0), (1, jI t1.1)]) Γ dX8_mostOf_27 2 rfl hnl rfl (fun _ => rfl) (fun v4 => ?_)
        refine jq_goto Γ (tgt := 4) dX8_mostOf_30 rfl ?_
        refine jq_sub Γ (L' := [(0, jI p0), (1, jI t1.1), (2, jI v4)]) [1, 2, 0] rfl ?_
        exact jq_done (hCt1 (t1.1, v4))
      · refine jq_iload_n Γ dX8_mostOf_18 rfl 1 rfl ?_
        refine jq_iload_n Γ dX8_mostOf_19 rfl 2 rfl ?_
        refine jq_cpI (jq_stat (avs := [jI t1.2]) (st := [jI t1.1]) Γ hlY rfl ml_RX8_92 rfl rfl rfl rfl rfl dX8_mostOf_20) (fun r h => ctJ6_bitCount_0f7a4 h) (fun v5 => ?_)
        refine jq_mmax Γ mw_RX8_41 mws_max mwi mwc_max rfl rfl dX8_mostOf_23 ?_
        refine jq_nmI (fun v6 => ?_)
        refine jq_istore_n (L' := [(1, jI v6), (0, jI p0), (2, jI t1.2)]) Γ dX8_mostOf_26 rfl hnl rfl rfl ?_
        refine jq_iincN (L' := fun v7 => [(2, jI v7), (1, jI v6), (0, jI p0)]) Γ dX8_mostOf_27 2 rfl hnl rfl (fun _ => rfl) (fun v7 => ?_)
        refine jq_goto Γ (tgt := 4) dX8_mostOf_30 rfl ?_
        refine jq_sub Γ (L' := [(0, jI p0), (1, jI v6), (2, jI v7)]) [2, 1, 0] rfl ?_
        exact jq_done (hCt1 (v6, v7))
  · intro e8
    refine jq_iload_n Γ dX8_mostOf_33 rfl 0 rfl ?_
    exact jq_ireturn Γ dX8_mostOf_34 (hK0 _)


theorem dX10_mostSign_0 : decode cX10_mostSign 0 = .ok (.aload_n 0, 1) := by decide +kernel
theorem dX10_mostSign_1 : decode cX10_mostSign 1 = .ok (.getfield 25, 3) := by decide +kernel
theorem dX10_mostSign_4 : decode cX10_mostSign 4 = .ok (.getfield 185, 3) := by decide +kernel
theorem dX10_mostSign_7 : decode cX10_mostSign 7 = .ok (.ifCond .ne 10, 3) := by decide +kernel
theorem dX10_mostSign_10 : decode cX10_mostSign 10 = .ok (.aload_n 0, 1) := by decide +kernel
theorem dX10_mostSign_11 : decode cX10_mostSign 11 = .ok (.bipush 6, 2) := by decide +kernel
theorem dX10_mostSign_13 : decode cX10_mostSign 13 = .ok (.invokevirtual 117, 3) := by decide +kernel
theorem dX10_mostSign_16 : decode cX10_mostSign 16 = .ok (.ireturn, 1) := by decide +kernel
theorem dX10_mostSign_17 : decode cX10_mostSign 17 = .ok (.aload_n 0, 1) := by decide +kernel
theorem dX10_mostSign_18 : decode cX10_mostSign 18 = .ok (.aload_n 0, 1) := by decide +kernel
theorem dX10_mostSign_19 : decode cX10_mostSign 19 = .ok (.getfield 46, 3) := by decide +kernel
theorem dX10_mostSign_22 : decode cX10_mostSign 22 = .ok (.aload_n 0, 1) := by decide +kernel
theorem dX10_mostSign_23 : decode cX10_mostSign 23 = .ok (.getfield 25, 3) := by decide +kernel
theorem dX10_mostSign_26 : decode cX10_mostSign 26 = .ok (.invokevirtual 345, 3) := by decide +kernel
theorem dX10_mostSign_29 : decode cX10_mostSign 29 = .ok (.invokestatic 348, 3) := by decide +kernel
theorem dX10_mostSign_32 : decode cX10_mostSign 32 = .ok (.invokevirtual 167, 3) := by decide +kernel
theorem dX10_mostSign_35 : decode cX10_mostSign 35 = .ok (.ireturn, 1) := by decide +kernel
set_option maxHeartbeats 4000000 in
set_option maxRecDepth 100000 in
theorem ctX10_mostSign  {σ : jq_M} {res : Int} {σ' : jq_M}  (h : X10_mostSign σ = some (res, σ')) : jq_MC jq_zX yX10_mostSign cX10_mostSign 1 (some .int) 6 157 [jR 0] σ (some (jI res)) σ' := by
  refine jq_met (own := RX10) (L0 := [(0, jR 0)]) (by decide) rfl rfl rfl ?_
  intro X Γ hnl hlY hRT
  refine jq_use2 (P := fun r => jq_RT jq_zX X (some .int) (some (jI r.1)) r.2) ?_ h hRT
  intro K0 hK0
  unfold X10_mostSign
  refine jq_aload_n Γ dX10_mostSign_0 rfl 0 rfl (jq_at_0 at_X_0) ?_
  refine jq_getC (C := jq_cm2) Γ hlY at_X_0 fl_RX10_25 rfl rfl ly_now dX10_mostSign_1 (fun c1 hc2q => ?_)
  have hc2 := jq_cm2_com hc2q
  refine jq_getI (J := 0) Γ (at_com hc2) fl_RX10_185 rfl rfl dX10_mostSign_4 ?_
  refine jq_if_ne (tgt := 17) Γ dX10_mostSign_7 rfl ?_ ?_
  · refine jq_aload_n Γ dX10_mostSign_17 rfl 0 rfl (jq_at_0 at_X_0) ?_
    refine jq_aload_n Γ dX10_mostSign_18 rfl 0 rfl (jq_at_0 at_X_0) ?_
    refine jq_getR (v := 52) Γ hlY at_X_0 fl_RX10_46 rfl rfl ly_X10_survey dX10_mostSign_19 ?_
    refine jq_aload_n Γ dX10_mostSign_22 rfl 0 rfl (jq_at_0 at_X_0) ?_
    refine jq_getC (C := jq_cm2) Γ hlY at_X_0 fl_RX10_25 rfl rfl ly_now dX10_mostSign_23 (fun c3 hc4q => ?_)
    have hc4 := jq_cm2_com hc4q
    refine jq_cwI (jq_virt (avs := [jR c3]) (st := [jR 0]) Γ hlY rfl ml_RX10_345 rfl at_X_52 rfl rfl rfl rfl rfl dX10_mostSign_26) (fun r σ' h => ctX8_outcomes hc4 h) (fun v5 s6 => ?_)
    refine jq_cpI (jq_stat (avs := [jI v5]) (st := [jR 0]) Γ hlY rfl ml_RX10_348 rfl rfl rfl rfl rfl dX10_mostSign_29) (fun r h => ctX8_mostOf h) (fun v7 => ?_)
    refine jq_cwI (jq_virt (avs := [jI v7]) (st := []) Γ hlY rfl ml_RX10_167 rfl at_X_0 rfl rfl rfl rfl rfl dX10_mostSign_32) (fun r σ' h => ctX10_answer h) (fun v8 s9 => ?_)
    exact jq_ireturn Γ dX10_mostSign_35 (hK0 _)
  · refine jq_aload_n Γ dX10_mostSign_10 rfl 0 rfl (jq_at_0 at_X_0) ?_
    refine jq_bipush Γ dX10_mostSign_11 rfl ?_
    refine jq_cwI (jq_virt (avs := [jI 6]) (st := []) Γ hlY rfl ml_RX10_117 rfl at_X_0 rfl rfl rfl rfl rfl dX10_mostSign_13) (fun r σ' h => ctX10_refuse h) (fun v10 s11 => ?_)
    exact jq_ireturn Γ dX10_mostSign_16 (hK0 _)


theorem dX8_isMet_0 : decode cX8_isMet 0 = .ok (.iconst 0, 1) := by decide +kernel
theorem dX8_isMet_1 : decode cX8_isMet 1 = .ok (.istore_n 2, 1) := by decide +kernel
theorem dX8_isMet_2 : decode cX8_isMet 2 = .ok (.iload_n 2, 1) := by decide +kernel
theorem dX8_isMet_3 : decode cX8_isMet 3 = .ok (.bipush 32, 2) := by decide +kernel
theorem dX8_isMet_5 : decode cX8_isMet 5 = .ok (.if_icmp .ge 27, 3) := by decide +kernel
theorem dX8_isMet_8 : decode cX8_isMet 8 = .ok (.iload_n 0, 1) := by decide +kernel
theorem dX8_isMet_9 : decode cX8_isMet 9 = .ok (.iload_n 2, 1) := by decide +kernel
theorem dX8_isMet_10 : decode cX8_isMet 10 = .ok (.invokestatic 50, 3) := by decide +kernel
theorem dX8_isMet_13 : decode cX8_isMet 13 = .ok (.ifCond .eq 13, 3) := by decide +kernel
theorem dX8_isMet_16 : decode cX8_isMet 16 = .ok (.iload_n 1, 1) := by decide +kernel
theorem dX8_isMet_17 : decode cX8_isMet 17 = .ok (.iload_n 2, 1) := by decide +kernel
theorem dX8_isMet_18 : decode cX8_isMet 18 = .ok (.iconst (-1), 1) := by decide +kernel
theorem dX8_isMet_19 : decode cX8_isMet 19 = .ok (.ixor, 1) := by decide +kernel
theorem dX8_isMet_20 : decode cX8_isMet 20 = .ok (.iand, 1) := by decide +kernel
theorem dX8_isMet_21 : decode cX8_isMet 21 = .ok (.ifCond .ne 5, 3) := by decide +kernel
theorem dX8_isMet_24 : decode cX8_isMet 24 = .ok (.iconst 1, 1) := by decide +kernel
theorem dX8_isMet_25 : decode cX8_isMet 25 = .ok (.ireturn, 1) := by decide +kernel
theorem dX8_isMet_26 : decode cX8_isMet 26 = .ok (.iinc 2 1, 3) := by decide +kernel
theorem dX8_isMet_29 : decode cX8_isMet 29 = .ok (.goto (-27), 3) := by decide +kernel
theorem dX8_isMet_32 : decode cX8_isMet 32 = .ok (.iconst 0, 1) := by decide +kernel
theorem dX8_isMet_33 : decode cX8_isMet 33 = .ok (.ireturn, 1) := by decide +kernel
set_option maxHeartbeats 4000000 in
set_option maxRecDepth 100000 in
theorem ctX8_isMet {p0 : Int} {p1 : Int} {σ : jq_M} {res : Int}  (h : X8_isMet p0 p1 σ = some res) : jq_MC jq_zX yX8_isMet cX8_isMet 3 (some .boolean) 2 61 [jI p0, jI p1] σ (some (jI res)) σ := by
  refine jq_met (own := RX8) (L0 := [(0, jI p0), (1, jI p1)]) (by decide) rfl rfl rfl ?_
  intro X Γ hnl hlY hRT
  refine jq_use2 (P := fun r => jq_RT jq_zX X (some .boolean) (some (jI r)) σ) ?_ h hRT
  intro K0 hK0
  unfold X8_isMet
  refine jq_iconst Γ dX8_isMet_0 rfl ?_
  refine jq_istore_n (L' := [(2, jI 0), (0, jI p0), (1, jI p1)]) Γ dX8_isMet_1 rfl hnl rfl rfl ?_
  refine jq_sub Γ (L' := [(0, jI p0), (1, jI p1), (2, jI 0)]) [1, 2, 0] rfl ?_
  refine jq_loop2 (C := fun (t1 : Int) => jq_V jq_zX X (jq_zN jq_zX) σ 2 [(0, jI p0), (1, jI p1), (2, jI t1)] []) (KX := Sum.elim (fun (e6 : Unit) => jq_V jq_zX X (jq_zN jq_zX) σ 24 [] []) (fun (e7 : Unit) => jq_V jq_zX X (jq_zN jq_zX) σ 32 [] [])) ?_ ?_ 0
  · intro K2_t1 hCt1 hXt1 t1
    unfold X8_isMet_b2
    refine jq_iload_n Γ dX8_isMet_2 rfl 2 rfl ?_
    refine jq_bipush Γ dX8_isMet_3 rfl ?_
    refine jq_icmp_ge (tgt := 32) Γ dX8_isMet_5 rfl ?_ ?_
    · refine jq_sub Γ (L' := []) [] rfl ?_
      exact jq_done (hXt1 (.inr ()))
    · refine jq_iload_n Γ dX8_isMet_8 rfl 0 rfl ?_
      refine jq_iload_n Γ dX8_isMet_9 rfl 2 rfl ?_
      refine jq_cpZ (jq_nest (avs := [jI p0, jI t1]) (st := []) Γ hlY rfl ml_RX8_50 rfl rfl rfl rfl rfl dX8_isMet_10) rfl (fun r h => ctX10_holds h) (fun v2 hz3 => ?_)
      refine jq_if_eq (tgt := 26) Γ dX8_isMet_13 rfl ?_ ?_
      · refine jq_iincN (L' := fun v4 => [(2, jI v4), (0, jI p0), (1, jI p1)]) Γ dX8_isMet_26 2 rfl hnl rfl (fun _ => rfl) (fun v4 => ?_)
        refine jq_goto Γ (tgt := 2) dX8_isMet_29 rfl ?_
        refine jq_sub Γ (L' := [(0, jI p0), (1, jI p1), (2, jI v4)]) [1, 2, 0] rfl ?_
        exact jq_done (hCt1 v4)
      · refine jq_iload_n Γ dX8_isMet_16 rfl 1 rfl ?_
        refine jq_iload_n Γ dX8_isMet_17 rfl 2 rfl ?_
        refine jq_iconst Γ dX8_isMet_18 rfl ?_
        refine jq_ixor Γ dX8_isMet_19 ?_
        refine jq_iand Γ dX8_isMet_20 ?_
        refine jq_if_ne (tgt := 26) Γ dX8_isMet_21 rfl ?_ ?_
        · refine jq_iincN (L' := fun v5 => [(2, jI v5), (0, jI p0), (1, jI p1)]) Γ dX8_isMet_26 2 rfl hnl rfl (fun _ => rfl) (fun v5 => ?_)
          refine jq_goto Γ (tgt := 2) dX8_isMet_29 rfl ?_
          refine jq_sub Γ (L' := [(0, jI p0), (1, jI p1), (2, jI v5)]) [1, 2, 0] rfl ?_
          exact jq_done (hCt1 v5)
        · refine jq_sub Γ (L' := []) [] rfl ?_
          exact jq_done (hXt1 (.inl ()))
  · refine jq_elim ?_ ?_
    · intro e6
      refine jq_iconst Γ dX8_isMet_24 rfl ?_
      exact jq_zreturn Γ (Or.inr rfl) dX8_isMet_25 (hK0 _)
    · intro e7
      refine jq_iconst Γ dX8_isMet_32 rfl ?_
      exact jq_zreturn Γ (Or.inl rfl) dX8_isMet_33 (hK0 _)


