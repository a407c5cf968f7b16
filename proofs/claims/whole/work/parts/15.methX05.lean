theorem kc_RJ6_265 : Cond.constant RJ6 265 (Int32.ofInt (1431655765)) ∈ jq_T := jq_in 1062 (by decide +kernel) rfl
theorem kc_RJ6_266 : Cond.constant RJ6 266 (Int32.ofInt (858993459)) ∈ jq_T := jq_in 1063 (by decide +kernel) rfl
theorem kc_RJ6_267 : Cond.constant RJ6 267 (Int32.ofInt (252645135)) ∈ jq_T := jq_in 1064 (by decide +kernel) rfl
theorem yf_X1_turnAll : Cond.instanceMethod yX1_turnAll ∈ jq_T ∧ Cond.selects (yX1_turnAll).cls yX1_turnAll yX1_turnAll ∈ jq_T ∧ Cond.initialized (yX1_turnAll).cls ∈ jq_T ∧ Cond.code yX1_turnAll cX1_turnAll 4 none ∈ jq_T ∧ ((yX1_turnAll).cls ≠ "java/lang/invoke/MethodHandle" ∧ (yX1_turnAll).cls ≠ "java/lang/invoke/VarHandle" ∧ (parseMethodDescriptor (yX1_turnAll).desc).map (fun d => d.parameters.length) = some 2) := ⟨jq_in 1056 (by decide +kernel) rfl, jq_in 1057 (by decide +kernel) rfl, jq_in 141 (by decide +kernel) rfl, jq_in 1058 (by decide +kernel) rfl, ⟨by decide, by decide, by decide +kernel⟩⟩
theorem ml_RX10_296 : jq_vl RX10 296 yX1_turnAll cX1_turnAll 4 none 2 := ⟨jq_in 1055 (by decide +kernel) rfl, yf_X1_turnAll⟩
theorem yf_J6_bitCount_0f7a4 : Cond.static yJ6_bitCount_0f7a4 ∈ jq_T ∧ Cond.initialized (yJ6_bitCount_0f7a4).cls ∈ jq_T ∧ Cond.code yJ6_bitCount_0f7a4 cJ6_bitCount_0f7a4 1 (some .int) ∈ jq_T ∧ ((yJ6_bitCount_0f7a4).cls ≠ "java/lang/invoke/MethodHandle" ∧ (yJ6_bitCount_0f7a4).cls ≠ "java/lang/invoke/VarHandle" ∧ (parseMethodDescriptor (yJ6_bitCount_0f7a4).desc).map (fun d => d.parameters.length) = some 1) := ⟨jq_in 1060 (by decide +kernel) rfl, jq_in 152 (by decide +kernel) rfl, jq_in 1061 (by decide +kernel) rfl, ⟨by decide, by decide, by decide +kernel⟩⟩
theorem ml_RX10_300 : jq_sl RX10 300 yJ6_bitCount_0f7a4 cJ6_bitCount_0f7a4 1 (some .int) 1 := ⟨jq_in 1059 (by decide +kernel) rfl, yf_J6_bitCount_0f7a4⟩
theorem fl_RX1_46 : jq_fl RX1 46 1 21 18 true := ⟨RX1, TX1, tyX1, cls_X1, by decide, jq_in 389 (by decide +kernel) rfl, by decide⟩
theorem fl_RX1_37 : jq_fl RX1 37 1 21 15 true := ⟨RX1, TX1, tyX1, cls_X1, by decide, jq_in 377 (by decide +kernel) rfl, by decide⟩
theorem yf_X1_workAt : Cond.instanceMethod yX1_workAt ∈ jq_T ∧ Cond.selects (yX1_workAt).cls yX1_workAt yX1_workAt ∈ jq_T ∧ Cond.initialized (yX1_workAt).cls ∈ jq_T ∧ Cond.code yX1_workAt cX1_workAt 2 none ∈ jq_T ∧ ((yX1_workAt).cls ≠ "java/lang/invoke/MethodHandle" ∧ (yX1_workAt).cls ≠ "java/lang/invoke/VarHandle" ∧ (parseMethodDescriptor (yX1_workAt).desc).map (fun d => d.parameters.length) = some 1) := ⟨jq_in 1079 (by decide +kernel) rfl, jq_in 15 (by decide +kernel) rfl, jq_in 141 (by decide +kernel) rfl, jq_in 1080 (by decide +kernel) rfl, ⟨by decide, by decide, by decide +kernel⟩⟩
theorem ml_RX1_148 : jq_vl RX1 148 yX1_workAt cX1_workAt 2 none 1 := ⟨jq_in 1077 (by decide +kernel) rfl, yf_X1_workAt⟩
theorem yf_X1_passOneDay : Cond.instanceMethod yX1_passOneDay ∈ jq_T ∧ Cond.selects (yX1_passOneDay).cls yX1_passOneDay yX1_passOneDay ∈ jq_T ∧ Cond.initialized (yX1_passOneDay).cls ∈ jq_T ∧ Cond.code yX1_passOneDay cX1_passOneDay 3 (some .int) ∈ jq_T ∧ ((yX1_passOneDay).cls ≠ "java/lang/invoke/MethodHandle" ∧ (yX1_passOneDay).cls ≠ "java/lang/invoke/VarHandle" ∧ (parseMethodDescriptor (yX1_passOneDay).desc).map (fun d => d.parameters.length) = some 0) := ⟨jq_in 1074 (by decide +kernel) rfl, jq_in 1075 (by decide +kernel) rfl, jq_in 141 (by decide +kernel) rfl, jq_in 1076 (by decide +kernel) rfl, ⟨by decide, by decide, by decide +kernel⟩⟩
theorem ml_RX1_144 : jq_vl RX1 144 yX1_passOneDay cX1_passOneDay 3 (some .int) 0 := ⟨jq_in 1073 (by decide +kernel) rfl, yf_X1_passOneDay⟩
theorem yf_X1_passDays : Cond.instanceMethod yX1_passDays ∈ jq_T ∧ Cond.selects (yX1_passDays).cls yX1_passDays yX1_passDays ∈ jq_T ∧ Cond.initialized (yX1_passDays).cls ∈ jq_T ∧ Cond.code yX1_passDays cX1_passDays 4 (some .int) ∈ jq_T ∧ ((yX1_passDays).cls ≠ "java/lang/invoke/MethodHandle" ∧ (yX1_passDays).cls ≠ "java/lang/invoke/VarHandle" ∧ (parseMethodDescriptor (yX1_passDays).desc).map (fun d => d.parameters.length) = some 1) := ⟨jq_in 1070 (by decide +kernel) rfl, jq_in 1071 (by decide +kernel) rfl, jq_in 141 (by decide +kernel) rfl, jq_in 1072 (by decide +kernel) rfl, ⟨by decide, by decide, by decide +kernel⟩⟩
theorem ml_RX10_305 : jq_vl RX10 305 yX1_passDays cX1_passDays 4 (some .int) 1 := ⟨jq_in 1069 (by decide +kernel) rfl, yf_X1_passDays⟩
theorem yf_X1_agreeOn : Cond.instanceMethod yX1_agreeOn ∈ jq_T ∧ Cond.selects (yX1_agreeOn).cls yX1_agreeOn yX1_agreeOn ∈ jq_T ∧ Cond.initialized (yX1_agreeOn).cls ∈ jq_T ∧ Cond.code yX1_agreeOn cX1_agreeOn 2 (some .boolean) ∈ jq_T ∧ ((yX1_agreeOn).cls ≠ "java/lang/invoke/MethodHandle" ∧ (yX1_agreeOn).cls ≠ "java/lang/invoke/VarHandle" ∧ (parseMethodDescriptor (yX1_agreeOn).desc).map (fun d => d.parameters.length) = some 1) := ⟨jq_in 1086 (by decide +kernel) rfl, jq_in 1087 (by decide +kernel) rfl, jq_in 141 (by decide +kernel) rfl, jq_in 1088 (by decide +kernel) rfl, ⟨by decide, by decide, by decide +kernel⟩⟩
theorem ml_RX10_308 : jq_vl RX10 308 yX1_agreeOn cX1_agreeOn 2 (some .boolean) 1 := ⟨jq_in 1085 (by decide +kernel) rfl, yf_X1_agreeOn⟩
theorem ml_RX1_133 : jq_vl RX1 133 yX1_isAgreed cX1_isAgreed 2 (some .boolean) 1 := ⟨jq_in 1097 (by decide +kernel) rfl, yf_X1_isAgreed⟩
theorem yf_X1_allFallsOf : Cond.instanceMethod yX1_allFallsOf ∈ jq_T ∧ Cond.selects (yX1_allFallsOf).cls yX1_allFallsOf yX1_allFallsOf ∈ jq_T ∧ Cond.initialized (yX1_allFallsOf).cls ∈ jq_T ∧ Cond.code yX1_allFallsOf cX1_allFallsOf 4 (some .int) ∈ jq_T ∧ ((yX1_allFallsOf).cls ≠ "java/lang/invoke/MethodHandle" ∧ (yX1_allFallsOf).cls ≠ "java/lang/invoke/VarHandle" ∧ (parseMethodDescriptor (yX1_allFallsOf).desc).map (fun d => d.parameters.length) = some 1) := ⟨jq_in 1099 (by decide +kernel) rfl, jq_in 1100 (by decide +kernel) rfl, jq_in 141 (by decide +kernel) rfl, jq_in 1101 (by decide +kernel) rfl, ⟨by decide, by decide, by decide +kernel⟩⟩
theorem ml_RX1_136 : jq_vl RX1 136 yX1_allFallsOf cX1_allFallsOf 4 (some .int) 1 := ⟨jq_in 1098 (by decide +kernel) rfl, yf_X1_allFallsOf⟩
theorem ml_RX1_139 : jq_sl RX1 139 yJ6_bitCount_0f7a4 cJ6_bitCount_0f7a4 1 (some .int) 1 := ⟨jq_in 1102 (by decide +kernel) rfl, yf_J6_bitCount_0f7a4⟩
theorem yf_X1_letFall : Cond.instanceMethod yX1_letFall ∈ jq_T ∧ Cond.selects (yX1_letFall).cls yX1_letFall yX1_letFall ∈ jq_T ∧ Cond.initialized (yX1_letFall).cls ∈ jq_T ∧ Cond.code yX1_letFall cX1_letFall 4 (some .int) ∈ jq_T ∧ ((yX1_letFall).cls ≠ "java/lang/invoke/MethodHandle" ∧ (yX1_letFall).cls ≠ "java/lang/invoke/VarHandle" ∧ (parseMethodDescriptor (yX1_letFall).desc).map (fun d => d.parameters.length) = some 1) := ⟨jq_in 1094 (by decide +kernel) rfl, jq_in 1095 (by decide +kernel) rfl, jq_in 141 (by decide +kernel) rfl, jq_in 1096 (by decide +kernel) rfl, ⟨by decide, by decide, by decide +kernel⟩⟩
theorem ml_RX10_311 : jq_vl RX10 311 yX1_letFall cX1_letFall 4 (some .int) 1 := ⟨jq_in 1093 (by decide +kernel) rfl, yf_X1_letFall⟩
theorem yf_X1_isCorner : Cond.instanceMethod yX1_isCorner ∈ jq_T ∧ Cond.selects (yX1_isCorner).cls yX1_isCorner yX1_isCorner ∈ jq_T ∧ Cond.initialized (yX1_isCorner).cls ∈ jq_T ∧ Cond.code yX1_isCorner cX1_isCorner 2 (some .boolean) ∈ jq_T ∧ ((yX1_isCorner).cls ≠ "java/lang/invoke/MethodHandle" ∧ (yX1_isCorner).cls ≠ "java/lang/invoke/VarHandle" ∧ (parseMethodDescriptor (yX1_isCorner).desc).map (fun d => d.parameters.length) = some 1) := ⟨jq_in 1116 (by decide +kernel) rfl, jq_in 1117 (by decide +kernel) rfl, jq_in 141 (by decide +kernel) rfl, jq_in 1118 (by decide +kernel) rfl, ⟨by decide, by decide, by decide +kernel⟩⟩
theorem ml_RX10_314 : jq_vl RX10 314 yX1_isCorner cX1_isCorner 2 (some .boolean) 1 := ⟨jq_in 1115 (by decide +kernel) rfl, yf_X1_isCorner⟩
theorem fl_RX8_24 : jq_fl RX8 24 1 21 0 false := ⟨RX1, TX1, tyX1, cls_X1, by decide, jq_in 326 (by decide +kernel) rfl, by decide⟩
theorem fl_RX8_30 : jq_fl RX8 30 1 21 2 false := ⟨RX1, TX1, tyX1, cls_X1, by decide, jq_in 337 (by decide +kernel) rfl, by decide⟩
theorem fl_RX10_46 : jq_fl RX10 46 7 18 12 true := ⟨RX10, TX10, tyX10, cls_X10, by decide, jq_in 538 (by decide +kernel) rfl, by decide⟩
theorem yf_X8_count : Cond.instanceMethod yX8_count ∈ jq_T ∧ Cond.selects (yX8_count).cls yX8_count yX8_count ∈ jq_T ∧ Cond.initialized (yX8_count).cls ∈ jq_T ∧ Cond.code yX8_count cX8_count 4 (some .int) ∈ jq_T ∧ ((yX8_count).cls ≠ "java/lang/invoke/MethodHandle" ∧ (yX8_count).cls ≠ "java/lang/invoke/VarHandle" ∧ (parseMethodDescriptor (yX8_count).desc).map (fun d => d.parameters.length) = some 1) := ⟨jq_in 1124 (by decide +kernel) rfl, jq_in 1125 (by decide +kernel) rfl, jq_in 143 (by decide +kernel) rfl, jq_in 1126 (by decide +kernel) rfl, ⟨by decide, by decide, by decide +kernel⟩⟩
theorem ml_RX10_317 : jq_vl RX10 317 yX8_count cX8_count 4 (some .int) 1 := ⟨jq_in 1123 (by decide +kernel) rfl, yf_X8_count⟩
theorem ml_RX8_45 : jq_nl RX8 45 yX10_holds "StandTable" cX10_holds 2 (some .boolean) 2 := ⟨jq_inN 1146 (by decide +kernel) rfl, yf_X10_holds⟩
theorem fl_RX8_9 : jq_fl RX8 9 5 4 0 true := ⟨RX8, TX8, tyX8, cls_X8, by decide, jq_in 449 (by decide +kernel) rfl, by decide⟩
theorem yf_X8_freeFrom : Cond.static yX8_freeFrom ∈ jq_T ∧ Cond.initialized (yX8_freeFrom).cls ∈ jq_T ∧ Cond.code yX8_freeFrom cX8_freeFrom 3 (some .int) ∈ jq_T ∧ ((yX8_freeFrom).cls ≠ "java/lang/invoke/MethodHandle" ∧ (yX8_freeFrom).cls ≠ "java/lang/invoke/VarHandle" ∧ (parseMethodDescriptor (yX8_freeFrom).desc).map (fun d => d.parameters.length) = some 2) := ⟨jq_in 1144 (by decide +kernel) rfl, jq_in 143 (by decide +kernel) rfl, jq_in 1145 (by decide +kernel) rfl, ⟨by decide, by decide, by decide +kernel⟩⟩
theorem ml_RX8_41 : jq_sl RX8 41 yX8_freeFrom cX8_freeFrom 3 (some .int) 2 := ⟨jq_in 1143 (by decide +kernel) rfl, yf_X8_freeFrom⟩
theorem yf_X8_fillFrom : Cond.instanceMethod yX8_fillFrom ∈ jq_T ∧ Cond.selects (yX8_fillFrom).cls yX8_fillFrom yX8_fillFrom ∈ jq_T ∧ Cond.initialized (yX8_fillFrom).cls ∈ jq_T ∧ Cond.code yX8_fillFrom cX8_fillFrom 6 none ∈ jq_T ∧ ((yX8_fillFrom).cls ≠ "java/lang/invoke/MethodHandle" ∧ (yX8_fillFrom).cls ≠ "java/lang/invoke/VarHandle" ∧ (parseMethodDescriptor (yX8_fillFrom).desc).map (fun d => d.parameters.length) = some 3) := ⟨jq_in 1141 (by decide +kernel) rfl, jq_in 17 (by decide +kernel) rfl, jq_in 143 (by decide +kernel) rfl, jq_in 1142 (by decide +kernel) rfl, ⟨by decide, by decide, by decide +kernel⟩⟩
theorem ml_RX8_33 : jq_vl RX8 33 yX8_fillFrom cX8_fillFrom 6 none 3 := ⟨jq_in 1139 (by decide +kernel) rfl, yf_X8_fillFrom⟩
theorem ml_RX8_37 : jq_vl RX8 37 yX8_count cX8_count 4 (some .int) 1 := ⟨jq_in 1147 (by decide +kernel) rfl, yf_X8_count⟩
theorem yf_X8_begin : Cond.instanceMethod yX8_begin ∈ jq_T ∧ Cond.selects (yX8_begin).cls yX8_begin yX8_begin ∈ jq_T ∧ Cond.initialized (yX8_begin).cls ∈ jq_T ∧ Cond.code yX8_begin cX8_begin 2 (some .int) ∈ jq_T ∧ ((yX8_begin).cls ≠ "java/lang/invoke/MethodHandle" ∧ (yX8_begin).cls ≠ "java/lang/invoke/VarHandle" ∧ (parseMethodDescriptor (yX8_begin).desc).map (fun d => d.parameters.length) = some 1) := ⟨jq_in 1137 (by decide +kernel) rfl, jq_in 16 (by decide +kernel) rfl, jq_in 143 (by decide +kernel) rfl, jq_in 1138 (by decide +kernel) rfl, ⟨by decide, by decide, by decide +kernel⟩⟩
theorem ml_RX8_49 : jq_vl RX8 49 yX8_begin cX8_begin 2 (some .int) 1 := ⟨jq_in 1135 (by decide +kernel) rfl, yf_X8_begin⟩
theorem ml_RX8_52 : jq_vl RX8 52 yX1_signersOf cX1_signersOf 4 (some .int) 1 := ⟨jq_in 1148 (by decide +kernel) rfl, yf_X1_signersOf⟩
theorem yf_X1_allParties : Cond.instanceMethod yX1_allParties ∈ jq_T ∧ Cond.selects (yX1_allParties).cls yX1_allParties yX1_allParties ∈ jq_T ∧ Cond.initialized (yX1_allParties).cls ∈ jq_T ∧ Cond.code yX1_allParties cX1_allParties 1 (some .int) ∈ jq_T ∧ ((yX1_allParties).cls ≠ "java/lang/invoke/MethodHandle" ∧ (yX1_allParties).cls ≠ "java/lang/invoke/VarHandle" ∧ (parseMethodDescriptor (yX1_allParties).desc).map (fun d => d.parameters.length) = some 0) := ⟨jq_in 1150 (by decide +kernel) rfl, jq_in 1151 (by decide +kernel) rfl, jq_in 141 (by decide +kernel) rfl, jq_in 1152 (by decide +kernel) rfl, ⟨by decide, by decide, by decide +kernel⟩⟩
theorem ml_RX8_56 : jq_vl RX8 56 yX1_allParties cX1_allParties 1 (some .int) 0 := ⟨jq_in 1149 (by decide +kernel) rfl, yf_X1_allParties⟩
theorem yf_X8_goOn : Cond.instanceMethod yX8_goOn ∈ jq_T ∧ Cond.selects (yX8_goOn).cls yX8_goOn yX8_goOn ∈ jq_T ∧ Cond.initialized (yX8_goOn).cls ∈ jq_T ∧ Cond.code yX8_goOn cX8_goOn 5 none ∈ jq_T ∧ ((yX8_goOn).cls ≠ "java/lang/invoke/MethodHandle" ∧ (yX8_goOn).cls ≠ "java/lang/invoke/VarHandle" ∧ (parseMethodDescriptor (yX8_goOn).desc).map (fun d => d.parameters.length) = some 1) := ⟨jq_in 1155 (by decide +kernel) rfl, jq_in 18 (by decide +kernel) rfl, jq_in 143 (by decide +kernel) rfl, jq_in 1156 (by decide +kernel) rfl, ⟨by decide, by decide, by decide +kernel⟩⟩
theorem ml_RX8_60 : jq_vl RX8 60 yX8_goOn cX8_goOn 5 none 1 := ⟨jq_in 1153 (by decide +kernel) rfl, yf_X8_goOn⟩
theorem yf_X8_countGood : Cond.instanceMethod yX8_countGood ∈ jq_T ∧ Cond.selects (yX8_countGood).cls yX8_countGood yX8_countGood ∈ jq_T ∧ Cond.initialized (yX8_countGood).cls ∈ jq_T ∧ Cond.code yX8_countGood cX8_countGood 5 (some .int) ∈ jq_T ∧ ((yX8_countGood).cls ≠ "java/lang/invoke/MethodHandle" ∧ (yX8_countGood).cls ≠ "java/lang/invoke/VarHandle" ∧ (parseMethodDescriptor (yX8_countGood).desc).map (fun d => d.parameters.length) = some 1) := ⟨jq_in 1132 (by decide +kernel) rfl, jq_in 1133 (by decide +kernel) rfl, jq_in 143 (by decide +kernel) rfl, jq_in 1134 (by decide +kernel) rfl, ⟨by decide, by decide, by decide +kernel⟩⟩
theorem ml_RX10_321 : jq_vl RX10 321 yX8_countGood cX8_countGood 5 (some .int) 1 := ⟨jq_in 1131 (by decide +kernel) rfl, yf_X8_countGood⟩
theorem dJ6_bitCount_0f7a4_0 : decode cJ6_bitCount_0f7a4 0 = .ok (.iload_n 0, 1) := by decide +kernel
theorem dJ6_bitCount_0f7a4_1 : decode cJ6_bitCount_0f7a4 1 = .ok (.iload_n 0, 1) := by decide +kernel
theorem dJ6_bitCount_0f7a4_2 : decode cJ6_bitCount_0f7a4 2 = .ok (.iconst 1, 1) := by decide +kernel
theorem dJ6_bitCount_0f7a4_3 : decode cJ6_bitCount_0f7a4 3 = .ok (.iushr, 1) := by decide +kernel
theorem dJ6_bitCount_0f7a4_4 : decode cJ6_bitCount_0f7a4 4 = .ok (.ldc_w 265, 3) := by decide +kernel
theorem dJ6_bitCount_0f7a4_7 : decode cJ6_bitCount_0f7a4 7 = .ok (.iand, 1) := by decide +kernel
theorem dJ6_bitCount_0f7a4_8 : decode cJ6_bitCount_0f7a4 8 = .ok (.isub, 1) := by decide +kernel
theorem dJ6_bitCount_0f7a4_9 : decode cJ6_bitCount_0f7a4 9 = .ok (.istore_n 0, 1) := by decide +kernel
theorem dJ6_bitCount_0f7a4_10 : decode cJ6_bitCount_0f7a4 10 = .ok (.iload_n 0, 1) := by decide +kernel
theorem dJ6_bitCount_0f7a4_11 : decode cJ6_bitCount_0f7a4 11 = .ok (.ldc_w 266, 3) := by decide +kernel
theorem dJ6_bitCount_0f7a4_14 : decode cJ6_bitCount_0f7a4 14 = .ok (.iand, 1) := by decide +kernel
theorem dJ6_bitCount_0f7a4_15 : decode cJ6_bitCount_0f7a4 15 = .ok (.iload_n 0, 1) := by decide +kernel
theorem dJ6_bitCount_0f7a4_16 : decode cJ6_bitCount_0f7a4 16 = .ok (.iconst 2, 1) := by decide +kernel
theorem dJ6_bitCount_0f7a4_17 : decode cJ6_bitCount_0f7a4 17 = .ok (.iushr, 1) := by decide +kernel
theorem dJ6_bitCount_0f7a4_18 : decode cJ6_bitCount_0f7a4 18 = .ok (.ldc_w 266, 3) := by decide +kernel
theorem dJ6_bitCount_0f7a4_21 : decode cJ6_bitCount_0f7a4 21 = .ok (.iand, 1) := by decide +kernel
theorem dJ6_bitCount_0f7a4_22 : decode cJ6_bitCount_0f7a4 22 = .ok (.iadd, 1) := by decide +kernel
theorem dJ6_bitCount_0f7a4_23 : decode cJ6_bitCount_0f7a4 23 = .ok (.istore_n 0, 1) := by decide +kernel
theorem dJ6_bitCount_0f7a4_24 : decode cJ6_bitCount_0f7a4 24 = .ok (.iload_n 0, 1) := by decide +kernel
theorem dJ6_bitCount_0f7a4_25 : decode cJ6_bitCount_0f7a4 25 = .ok (.iload_n 0, 1) := by decide +kernel
theorem dJ6_bitCount_0f7a4_26 : decode cJ6_bitCount_0f7a4 26 = .ok (.iconst 4, 1) := by decide +kernel
theorem dJ6_bitCount_0f7a4_27 : decode cJ6_bitCount_0f7a4 27 = .ok (.iushr, 1) := by decide +kernel
theorem dJ6_bitCount_0f7a4_28 : decode cJ6_bitCount_0f7a4 28 = .ok (.iadd, 1) := by decide +kernel
theorem dJ6_bitCount_0f7a4_29 : decode cJ6_bitCount_0f7a4 29 = .ok (.ldc_w 267, 3) := by decide +kernel
theorem dJ6_bitCount_0f7a4_32 : decode cJ6_bitCount_0f7a4 32 = .ok (.iand, 1) := by decide +kernel
theorem dJ6_bitCount_0f7a4_33 : decode cJ6_bitCount_0f7a4 33 = .ok (.istore_n 0, 1) := by decide +kernel
theorem dJ6_bitCount_0f7a4_34 : decode cJ6_bitCount_0f7a4 34 = .ok (.iload_n 0, 1) := by decide +kernel
theorem dJ6_bitCount_0f7a4_35 : decode cJ6_bitCount_0f7a4 35 = .ok (.iload_n 0, 1) := by decide +kernel
theorem dJ6_bitCount_0f7a4_36 : decode cJ6_bitCount_0f7a4 36 = .ok (.bipush 8, 2) := by decide +kernel
theorem dJ6_bitCount_0f7a4_38 : decode cJ6_bitCount_0f7a4 38 = .ok (.iushr, 1) := by decide +kernel
theorem dJ6_bitCount_0f7a4_39 : decode cJ6_bitCount_0f7a4 39 = .ok (.iadd, 1) := by decide +kernel
theorem dJ6_bitCount_0f7a4_40 : decode cJ6_bitCount_0f7a4 40 = .ok (.istore_n 0, 1) := by decide +kernel
theorem dJ6_bitCount_0f7a4_41 : decode cJ6_bitCount_0f7a4 41 = .ok (.iload_n 0, 1) := by decide +kernel
theorem dJ6_bitCount_0f7a4_42 : decode cJ6_bitCount_0f7a4 42 = .ok (.iload_n 0, 1) := by decide +kernel
theorem dJ6_bitCount_0f7a4_43 : decode cJ6_bitCount_0f7a4 43 = .ok (.bipush 16, 2) := by decide +kernel
theorem dJ6_bitCount_0f7a4_45 : decode cJ6_bitCount_0f7a4 45 = .ok (.iushr, 1) := by decide +kernel
theorem dJ6_bitCount_0f7a4_46 : decode cJ6_bitCount_0f7a4 46 = .ok (.iadd, 1) := by decide +kernel
theorem dJ6_bitCount_0f7a4_47 : decode cJ6_bitCount_0f7a4 47 = .ok (.istore_n 0, 1) := by decide +kernel
theorem dJ6_bitCount_0f7a4_48 : decode cJ6_bitCount_0f7a4 48 = .ok (.iload_n 0, 1) := by decide +kernel
theorem dJ6_bitCount_0f7a4_49 : decode cJ6_bitCount_0f7a4 49 = .ok (.bipush 63, 2) := by decide +kernel
theorem dJ6_bitCount_0f7a4_51 : decode cJ6_bitCount_0f7a4 51 = .ok (.iand, 1) := by decide +kernel
theorem dJ6_bitCount_0f7a4_52 : decode cJ6_bitCount_0f7a4 52 = .ok (.ireturn, 1) := by decide +kernel
set_option maxHeartbeats 4000000 in
set_option maxRecDepth 100000 in
theorem ctJ6_bitCount_0f7a4 {p0 : Int} {σ : jq_M} {res : Int}  (h : J6_bitCount_0f7a4 p0 σ = some res) : jq_MC jq_zX yJ6_bitCount_0f7a4 cJ6_bitCount_0f7a4 1 (some .int) 1 40 [jI p0] σ (some (jI res)) σ := by
  refine jq_met (own := RJ6) (L0 := [(0, jI p0)]) (by decide) rfl rfl rfl ?_
  intro X Γ hnl hlY hRT
  refine jq_use2 (P := fun r => jq_RT jq_zX X (some .int) (some (jI r)) σ) ?_ h hRT
  intro K0 hK0
  unfold J6_bitCount_0f7a4
  refine jq_iload_n Γ dJ6_bitCount_0f7a4_0 rfl 0 rfl ?_
  refine jq_iload_n Γ dJ6_bitCount_0f7a4_1 rfl 0 rfl ?_
  refine jq_iconst Γ dJ6_bitCount_0f7a4_2 rfl ?_
  refine jq_iushr Γ dJ6_bitCount_0f7a4_3 ?_
  refine jq_ldcw Γ 1431655765 dJ6_bitCount_0f7a4_4 kc_RJ6_265 rfl ?_
  refine jq_iand Γ dJ6_bitCount_0f7a4_7 ?_
  refine jq_isub Γ dJ6_bitCount_0f7a4_8 ?_
  refine jq_nmI (fun v1 => ?_)
  refine jq_istore_n (L' := [(0, jI v1)]) Γ dJ6_bitCount_0f7a4_9 rfl hnl rfl rfl ?_
  refine jq_iload_n Γ dJ6_bitCount_0f7a4_10 rfl 0 rfl ?_
  refine jq_ldcw Γ 858993459 dJ6_bitCount_0f7a4_11 kc_RJ6_266 rfl ?_
  refine jq_iand Γ dJ6_bitCount_0f7a4_14 ?_
  refine jq_iload_n Γ dJ6_bitCount_0f7a4_15 rfl 0 rfl ?_
  refine jq_iconst Γ dJ6_bitCount_0f7a4_16 rfl ?_
  refine jq_iushr Γ dJ6_bitCount_0f7a4_17 ?_
  refine jq_ldcw Γ 858993459 dJ6_bitCount_0f7a4_18 kc_RJ6_266 rfl ?_
  refine jq_iand Γ dJ6_bitCount_0f7a4_21 ?_
  refine jq_iadd Γ dJ6_bitCount_0f7a4_22 ?_
  refine jq_nmI (fun v2 => ?_)
  refine jq_istore_n (L' := [(0, jI v2)]) Γ dJ6_bitCount_0f7a4_23 rfl hnl rfl rfl ?_
  refine jq_iload_n Γ dJ6_bitCount_0f7a4_24 rfl 0 rfl ?_
  refine jq_iload_n Γ dJ6_bitCount_0f7a4_25 rfl 0 rfl ?_
  refine jq_iconst Γ dJ6_bitCount_0f7a4_26 rfl ?_
  refine jq_iushr Γ dJ6_bitCount_0f7a4_27 ?_
  refine jq_iadd Γ dJ6_bitCount_0f7a4_28 ?_
  refine jq_ldcw Γ 252645135 dJ6_bitCount_0f7a4_29 kc_RJ6_267 rfl ?_
  refine jq_iand Γ dJ6_bitCount_0f7a4_32 ?_
  refine jq_nmI (fun v3 => ?_)
  refine jq_istore_n (L' := [(0, jI v3)]) Γ dJ6_bitCount_0f7a4_33 rfl hnl rfl rfl ?_
  refine jq_iload_n Γ dJ6_bitCount_0f7a4_34 rfl 0 rfl ?_
  refine jq_iload_n Γ dJ6_bitCount_0f7a4_35 rfl 0 rfl ?_
  refine jq_bipush Γ dJ6_bitCount_0f7a4_36 rfl ?_
  refine jq_iushr Γ dJ6_bitCount_0f7a4_38 ?_
  refine jq_iadd Γ dJ6_bitCount_0f7a4_39 ?_
  refine jq_nmI (fun v4 => ?_)
  refine jq_istore_n (L' := [(0, jI v4)]) Γ dJ6_bitCount_0f7a4_40 rfl hnl rfl rfl ?_
  refine jq_iload_n Γ dJ6_bitCount_0f7a4_41 rfl 0 rfl ?_
  refine jq_iload_n Γ dJ6_bitCount_0f7a4_42 rfl 0 rfl ?_
  refine jq_bipush Γ dJ6_bitCount_0f7a4_43 rfl ?_
  refine jq_iushr Γ dJ6_bitCount_0f7a4_45 ?_
  refine jq_iadd Γ dJ6_bitCount_0f7a4_46 ?_
  refine jq_nmI (fun v5 => ?_)
  refine jq_istore_n (L' := [(0, jI v5)]) Γ dJ6_bitCount_0f7a4_47 rfl hnl rfl rfl ?_
  refine jq_iload_n Γ dJ6_bitCount_0f7a4_48 rfl 0 rfl ?_
  refine jq_bipush Γ dJ6_bitCount_0f7a4_49 rfl ?_
  refine jq_iand Γ dJ6_bitCount_0f7a4_51 ?_
  exact jq_ireturn Γ dJ6_bitCount_0f7a4_52 (hK0 _)


theorem dX10_turn_0 : decode cX10_turn 0 = .ok (.iload_n 1, 1) := by decide +kernel
theorem dX10_turn_1 : decode cX10_turn 1 = .ok (.iconst 0, 1) := by decide +kernel
theorem dX10_turn_2 : decode cX10_turn 2 = .ok (.bipush 99, 2) := by decide +kernel
theorem dX10_turn_4 : decode cX10_turn 4 = .ok (.invokestatic 93, 3) := by decide +kernel
theorem dX10_turn_7 : decode cX10_turn 7 = .ok (.ifCond .ne 9, 3) := by decide +kernel
theorem dX10_turn_10 : decode cX10_turn 10 = .ok (.aload_n 0, 1) := by decide +kernel
theorem dX10_turn_11 : decode cX10_turn 11 = .ok (.iconst 1, 1) := by decide +kernel
theorem dX10_turn_12 : decode cX10_turn 12 = .ok (.invokevirtual 120, 3) := by decide +kernel
theorem dX10_turn_15 : decode cX10_turn 15 = .ok (.ireturn, 1) := by decide +kernel
theorem dX10_turn_16 : decode cX10_turn 16 = .ok (.aload_n 0, 1) := by decide +kernel
theorem dX10_turn_17 : decode cX10_turn 17 = .ok (.getfield 25, 3) := by decide +kernel
theorem dX10_turn_20 : decode cX10_turn 20 = .ok (.iload_n 1, 1) := by decide +kernel
theorem dX10_turn_21 : decode cX10_turn 21 = .ok (.aload_n 0, 1) := by decide +kernel
theorem dX10_turn_22 : decode cX10_turn 22 = .ok (.getfield 25, 3) := by decide +kernel
theorem dX10_turn_25 : decode cX10_turn 25 = .ok (.getfield 194, 3) := by decide +kernel
theorem dX10_turn_28 : decode cX10_turn 28 = .ok (.invokevirtual 296, 3) := by decide +kernel
theorem dX10_turn_31 : decode cX10_turn 31 = .ok (.aload_n 0, 1) := by decide +kernel
theorem dX10_turn_32 : decode cX10_turn 32 = .ok (.aload_n 0, 1) := by decide +kernel
theorem dX10_turn_33 : decode cX10_turn 33 = .ok (.getfield 25, 3) := by decide +kernel
theorem dX10_turn_36 : decode cX10_turn 36 = .ok (.aload_n 0, 1) := by decide +kernel
theorem dX10_turn_37 : decode cX10_turn 37 = .ok (.getfield 25, 3) := by decide +kernel
theorem dX10_turn_40 : decode cX10_turn 40 = .ok (.getfield 194, 3) := by decide +kernel
theorem dX10_turn_43 : decode cX10_turn 43 = .ok (.invokevirtual 197, 3) := by decide +kernel
theorem dX10_turn_46 : decode cX10_turn 46 = .ok (.invokestatic 300, 3) := by decide +kernel
theorem dX10_turn_49 : decode cX10_turn 49 = .ok (.invokevirtual 161, 3) := by decide +kernel
theorem dX10_turn_52 : decode cX10_turn 52 = .ok (.ireturn, 1) := by decide +kernel
set_option maxHeartbeats 4000000 in
set_option maxRecDepth 100000 in
theorem ctX10_turn {p1 : Int} {σ : jq_M} {res : Int} {σ' : jq_M}  (h : X10_turn p1 σ = some (res, σ')) : jq_MC jq_zX yX10_turn cX10_turn 2 (some .int) 2 63 [jR 0, jI p1] σ (some (jI res)) σ' := by
  refine jq_met (own := RX10) (L0 := [(0, jR 0), (1, jI p1)]) (by decide) rfl rfl rfl ?_
  intro X Γ hnl hlY hRT
  refine jq_use2 (P := fun r => jq_RT jq_zX X (some .int) (some (jI r.1)) r.2) ?_ h hRT
  intro K0 hK0
  unfold X10_turn
  refine jq_iload_n Γ dX10_turn_0 rfl 1 rfl ?_
  refine jq_iconst Γ dX10_turn_1 rfl ?_
  refine jq_bipush Γ dX10_turn_2 rfl ?_
  refine jq_cpZ (jq_stat (avs := [jI p1, jI 0, jI 99]) (st := []) Γ hlY rfl ml_RX10_93 rfl rfl rfl rfl rfl dX10_turn_4) rfl (fun r h => ctX10_within h) (fun v1 hz2 => ?_)
  refine jq_if_ne (tgt := 16) Γ dX10_turn_7 rfl ?_ ?_
  · refine jq_aload_n Γ dX10_turn_16 rfl 0 rfl (jq_at_0 at_X_0) ?_
    refine jq_getC (C := jq_cm2) Γ hlY at_X_0 fl_RX10_25 rfl rfl ly_now dX10_turn_17 (fun c3 hc4q => ?_)
    have hc4 := jq_cm2_com hc4q
    refine jq_iload_n Γ dX10_turn_20 rfl 1 rfl ?_
    refine jq_aload_n Γ dX10_turn_21 rfl 0 rfl (jq_at_0 at_X_0) ?_
    refine jq_getC (C := jq_cm2) Γ hlY at_X_0 fl_RX10_25 rfl rfl ly_now dX10_turn_22 (fun c5 hc6q => ?_)
    have hc6 := jq_cm2_com hc6q
    refine jq_getR (v := (c5 + 3)) Γ hlY (at_com hc6) fl_RX10_194 rfl rfl (ly_X1_seats hc6) dX10_turn_25 ?_
    refine jq_cwV (jq_virt (avs := [jI p1, jR (c5 + 3)]) (st := []) Γ hlY rfl ml_RX10_296 rfl (at_com hc4) rfl rfl rfl rfl rfl dX10_turn_28) (fun σ' h => ctX1_turnAll hc4 (row_com hc6) h) (fun s7 => ?_)
    refine jq_aload_n Γ dX10_turn_31 rfl 0 rfl (jq_at_0 at_X_0) ?_
    refine jq_aload_n Γ dX10_turn_32 rfl 0 rfl (jq_at_0 at_X_0) ?_
    refine jq_getC (C := jq_cm2) Γ hlY at_X_0 fl_RX10_25 rfl rfl ly_now dX10_turn_33 (fun c8 hc9q => ?_)
    have hc9 := jq_cm2_com hc9q
    refine jq_aload_n Γ dX10_turn_36 rfl 0 rfl (jq_at_0 at_X_0) ?_
    refine jq_getC (C := jq_cm2) Γ hlY at_X_0 fl_RX10_25 rfl rfl ly_now dX10_turn_37 (fun c10 hc11q => ?_)
    have hc11 := jq_cm2_com hc11q
    refine jq_getR (v := (c10 + 3)) Γ hlY (at_com hc11) fl_RX10_194 rfl rfl (ly_X1_seats hc11) dX10_turn_40 ?_
    refine jq_cpI (jq_virt (avs := [jR (c10 + 3)]) (st := [jR 0]) Γ hlY rfl ml_RX10_197 rfl (at_com hc9) rfl rfl rfl rfl rfl dX10_turn_43) (fun r h => ctX1_sittersOf hc9 (row_com hc11) h) (fun v12 => ?_)
    refine jq_cpI (jq_stat (avs := [jI v12]) (st := [jR 0]) Γ hlY rfl ml_RX10_300 rfl rfl rfl rfl rfl dX10_turn_46) (fun r h => ctJ6_bitCount_0f7a4 h) (fun v13 => ?_)
    refine jq_cwI (jq_virt (avs := [jI v13]) (st := []) Γ hlY rfl ml_RX10_161 rfl at_X_0 rfl rfl rfl rfl rfl dX10_turn_49) (fun r σ' h => ctX10_answer h) (fun v14 s15 => ?_)
    exact jq_ireturn Γ dX10_turn_52 (hK0 _)
  · refine jq_aload_n Γ dX10_turn_10 rfl 0 rfl (jq_at_0 at_X_0) ?_
    refine jq_iconst Γ dX10_turn_11 rfl ?_
    refine jq_cwI (jq_virt (avs := [jI 1]) (st := []) Γ hlY rfl ml_RX10_120 rfl at_X_0 rfl rfl rfl rfl rfl dX10_turn_12) (fun r σ' h => ctX10_refuse h) (fun v16 s17 => ?_)
    exact jq_ireturn Γ dX10_turn_15 (hK0 _)


theorem dX1_workAt_0 : decode cX1_workAt 0 = .ok (.aload_n 0, 1) := by decide +kernel
theorem dX1_workAt_1 : decode cX1_workAt 1 = .ok (.getfield 46, 3) := by decide +kernel
theorem dX1_workAt_4 : decode cX1_workAt 4 = .ok (.iload_n 1, 1) := by decide +kernel
theorem dX1_workAt_5 : decode cX1_workAt 5 = .ok (.dup2, 1) := by decide +kernel
theorem dX1_workAt_6 : decode cX1_workAt 6 = .ok (.iaload, 1) := by decide +kernel
theorem dX1_workAt_7 : decode cX1_workAt 7 = .ok (.iconst 1, 1) := by decide +kernel
theorem dX1_workAt_8 : decode cX1_workAt 8 = .ok (.iadd, 1) := by decide +kernel
theorem dX1_workAt_9 : decode cX1_workAt 9 = .ok (.iastore, 1) := by decide +kernel
theorem dX1_workAt_10 : decode cX1_workAt 10 = .ok (.aload_n 0, 1) := by decide +kernel
theorem dX1_workAt_11 : decode cX1_workAt 11 = .ok (.getfield 46, 3) := by decide +kernel
theorem dX1_workAt_14 : decode cX1_workAt 14 = .ok (.iload_n 1, 1) := by decide +kernel
theorem dX1_workAt_15 : decode cX1_workAt 15 = .ok (.iaload, 1) := by decide +kernel
theorem dX1_workAt_16 : decode cX1_workAt 16 = .ok (.aload_n 0, 1) := by decide +kernel
theorem dX1_workAt_17 : decode cX1_workAt 17 = .ok (.getfield 37, 3) := by decide +kernel
theorem dX1_workAt_20 : decode cX1_workAt 20 = .ok (.iload_n 1, 1) := by decide +kernel
theorem dX1_workAt_21 : decode cX1_workAt 21 = .ok (.iaload, 1) := by decide +kernel
theorem dX1_workAt_22 : decode cX1_workAt 22 = .ok (.if_icmp .lt 15, 3) := by decide +kernel
theorem dX1_workAt_25 : decode cX1_workAt 25 = .ok (.aload_n 0, 1) := by decide +kernel
theorem dX1_workAt_26 : decode cX1_workAt 26 = .ok (.dup, 1) := by decide +kernel
theorem dX1_workAt_27 : decode cX1_workAt 27 = .ok (.getfield 75, 3) := by decide +kernel
theorem dX1_workAt_30 : decode cX1_workAt 30 = .ok (.iconst 1, 1) := by decide +kernel
theorem dX1_workAt_31 : decode cX1_workAt 31 = .ok (.iload_n 1, 1) := by decide +kernel
theorem dX1_workAt_32 : decode cX1_workAt 32 = .ok (.ishl, 1) := by decide +kernel
theorem dX1_workAt_33 : decode cX1_workAt 33 = .ok (.ior, 1) := by decide +kernel
theorem dX1_workAt_34 : decode cX1_workAt 34 = .ok (.putfield 75, 3) := by decide +kernel
theorem dX1_workAt_37 : decode cX1_workAt 37 = .ok (.return_, 1) := by decide +kernel
set_option maxHeartbeats 4000000 in
set_option maxRecDepth 100000 in
theorem ctX1_workAt {o : Int} {p1 : Int} {σ : jq_M} {σ' : jq_M} (ho : jq_com o) (h : X1_workAt o p1 σ = some σ') : jq_MC jq_zX yX1_workAt cX1_workAt 2 none 1 40 [jR o, jI p1] σ none σ' := by
  refine jq_met (own := RX1) (L0 := [(0, jR o), (1, jI p1)]) (by decide) rfl rfl rfl ?_
  intro X Γ hnl hlY hRT
  refine jq_use2 (P := fun r => jq_RT jq_zX X none none r) ?_ h hRT
  intro K0 hK0
  unfold X1_workAt
  refine jq_aload_n Γ dX1_workAt_0 rfl 0 rfl (jq_at_0 (at_com ho)) ?_
  refine jq_getR (v := (o + 12)) Γ hlY (at_com ho) fl_RX1_46 rfl rfl (ly_X1_worked ho) dX1_workAt_1 ?_
  refine jq_iload_n Γ dX1_workAt_4 rfl 1 rfl ?_
  refine jq_dup2 Γ dX1_workAt_5 rfl rfl ?_
  refine jq_iald Γ (at_com_12 ho) rfl dX1_workAt_6 (fun v1 => ?_)
  refine jq_iconst Γ dX1_workAt_7 rfl ?_
  refine jq_iadd Γ dX1_workAt_8 ?_
  refine jq_iast Γ (at_com_12 ho) rfl dX1_workAt_9 (fun s2 => ?_)
  refine jq_aload_n Γ dX1_workAt_10 rfl 0 rfl (jq_at_0 (at_com ho)) ?_
  refine jq_getR (v := (o + 12)) Γ hlY (at_com ho) fl_RX1_46 rfl rfl (ly_X1_worked ho) dX1_workAt_11 ?_
  refine jq_iload_n Γ dX1_workAt_14 rfl 1 rfl ?_
  refine jq_iald Γ (at_com_12 ho) rfl dX1_workAt_15 (fun v3 => ?_)
  refine jq_aload_n Γ dX1_workAt_16 rfl 0 rfl (jq_at_0 (at_com ho)) ?_
  refine jq_getR (v := (o + 9)) Γ hlY (at_com ho) fl_RX1_37 rfl rfl (ly_X1_takes ho) dX1_workAt_17 ?_
  refine jq_iload_n Γ dX1_workAt_20 rfl 1 rfl ?_
  refine jq_iald Γ (at_com_9 ho) rfl dX1_workAt_21 (fun v4 => ?_)
  refine jq_icmp_lt (tgt := 37) Γ dX1_workAt_22 rfl ?_ ?_
  · exact jq_vreturn Γ dX1_workAt_37 (hK0 _)
  · refine jq_aload_n Γ dX1_workAt_25 rfl 0 rfl (jq_at_0 (at_com ho)) ?_
    refine jq_dup Γ dX1_workAt_26 rfl ?_
    refine jq_getI (J := 5) Γ (at_com ho) fl_RX1_75 rfl rfl dX1_workAt_27 ?_
    refine jq_iconst Γ dX1_workAt_30 rfl ?_
    refine jq_iload_n Γ dX1_workAt_31 rfl 1 rfl ?_
    refine jq_ishl Γ dX1_workAt_32 ?_
    refine jq_ior Γ dX1_workAt_33 ?_
    refine jq_putI Γ (at_com ho) fl_RX1_75 rfl rfl dX1_workAt_34 (fun s5 => ?_)
    exact jq_vreturn Γ dX1_workAt_37 (hK0 _)


theorem dX1_passOneDay_0 : decode cX1_passOneDay 0 = .ok (.aload_n 0, 1) := by decide +kernel
theorem dX1_passOneDay_1 : decode cX1_passOneDay 1 = .ok (.getfield 75, 3) := by decide +kernel
theorem dX1_passOneDay_4 : decode cX1_passOneDay 4 = .ok (.istore_n 1, 1) := by decide +kernel
theorem dX1_passOneDay_5 : decode cX1_passOneDay 5 = .ok (.iconst 0, 1) := by decide +kernel
theorem dX1_passOneDay_6 : decode cX1_passOneDay 6 = .ok (.istore_n 2, 1) := by decide +kernel
theorem dX1_passOneDay_7 : decode cX1_passOneDay 7 = .ok (.iload_n 2, 1) := by decide +kernel
theorem dX1_passOneDay_8 : decode cX1_passOneDay 8 = .ok (.aload_n 0, 1) := by decide +kernel
theorem dX1_passOneDay_9 : decode cX1_passOneDay 9 = .ok (.getfield 72, 3) := by decide +kernel
theorem dX1_passOneDay_12 : decode cX1_passOneDay 12 = .ok (.if_icmp .ge 25, 3) := by decide +kernel
theorem dX1_passOneDay_15 : decode cX1_passOneDay 15 = .ok (.aload_n 0, 1) := by decide +kernel
theorem dX1_passOneDay_16 : decode cX1_passOneDay 16 = .ok (.iload_n 2, 1) := by decide +kernel
theorem dX1_passOneDay_17 : decode cX1_passOneDay 17 = .ok (.invokevirtual 129, 3) := by decide +kernel
theorem dX1_passOneDay_20 : decode cX1_passOneDay 20 = .ok (.ifCond .eq 11, 3) := by decide +kernel
theorem dX1_passOneDay_23 : decode cX1_passOneDay 23 = .ok (.aload_n 0, 1) := by decide +kernel
theorem dX1_passOneDay_24 : decode cX1_passOneDay 24 = .ok (.iload_n 2, 1) := by decide +kernel
theorem dX1_passOneDay_25 : decode cX1_passOneDay 25 = .ok (.invokevirtual 148, 3) := by decide +kernel
theorem dX1_passOneDay_28 : decode cX1_passOneDay 28 = .ok (.goto 9, 3) := by decide +kernel
theorem dX1_passOneDay_31 : decode cX1_passOneDay 31 = .ok (.iinc 2 1, 3) := by decide +kernel
theorem dX1_passOneDay_34 : decode cX1_passOneDay 34 = .ok (.goto (-27), 3) := by decide +kernel
theorem dX1_passOneDay_37 : decode cX1_passOneDay 37 = .ok (.aload_n 0, 1) := by decide +kernel
theorem dX1_passOneDay_38 : decode cX1_passOneDay 38 = .ok (.dup, 1) := by decide +kernel
theorem dX1_passOneDay_39 : decode cX1_passOneDay 39 = .ok (.getfield 78, 3) := by decide +kernel
theorem dX1_passOneDay_42 : decode cX1_passOneDay 42 = .ok (.iconst 1, 1) := by decide +kernel
theorem dX1_passOneDay_43 : decode cX1_passOneDay 43 = .ok (.iadd, 1) := by decide +kernel
theorem dX1_passOneDay_44 : decode cX1_passOneDay 44 = .ok (.putfield 78, 3) := by decide +kernel
theorem dX1_passOneDay_47 : decode cX1_passOneDay 47 = .ok (.aload_n 0, 1) := by decide +kernel
theorem dX1_passOneDay_48 : decode cX1_passOneDay 48 = .ok (.getfield 75, 3) := by decide +kernel
theorem dX1_passOneDay_51 : decode cX1_passOneDay 51 = .ok (.iload_n 1, 1) := by decide +kernel
theorem dX1_passOneDay_52 : decode cX1_passOneDay 52 = .ok (.if_icmp .ne 7, 3) := by decide +kernel
theorem dX1_passOneDay_55 : decode cX1_passOneDay 55 = .ok (.iconst 0, 1) := by decide +kernel
theorem dX1_passOneDay_56 : decode cX1_passOneDay 56 = .ok (.goto 4, 3) := by decide +kernel
theorem dX1_passOneDay_59 : decode cX1_passOneDay 59 = .ok (.iconst 1, 1) := by decide +kernel
theorem dX1_passOneDay_60 : decode cX1_passOneDay 60 = .ok (.ireturn, 1) := by decide +kernel
set_option maxHeartbeats 4000000 in
set_option maxRecDepth 100000 in
theorem ctX1_passOneDay {o : Int} {σ : jq_M} {res : Int} {σ' : jq_M} (ho : jq_com o) (h : X1_passOneDay o σ = some (res, σ')) : jq_MC jq_zX yX1_passOneDay cX1_passOneDay 3 (some .int) 2 61 [jR o] σ (some (jI res)) σ' := by
  refine jq_met (own := RX1) (L0 := [(0, jR o)]) (by decide) rfl rfl rfl ?_
  intro X Γ hnl hlY hRT
  refine jq_use2 (P := fun r => jq_RT jq_zX X (some .int) (some (jI r.1)) r.2) ?_ h hRT
  intro K0 hK0
  unfold X1_passOneDay
  have hj37_0 : ∀ (j8 : Int) (s9 : jq_M), jq_J (X1_passOneDay_j37 o j8 s9) K0 (jq_V jq_zX X (jq_zN jq_zX) s9 37 [(0, jR o), (1, jI j8)] []) := by
    intro j8 s9
    unfold X1_passOneDay_j37
    refine jq_aload_n Γ dX1_passOneDay_37 rfl 0 rfl (jq_at_0 (at_com ho)) ?_
    refine jq_dup Γ dX1_passOneDay_38 rfl ?_
    refine jq_getI (J := 6) Γ (at_com ho) fl_RX1_78 rfl rfl dX1_passOneDay_39 ?_
    refine jq_iconst Γ dX1_passOneDay_42 rfl ?_
    refine jq_iadd Γ dX1_passOneDay_43 ?_
    refine jq_putI Γ (at_com ho) fl_RX1_78 rfl rfl dX1_passOneDay_44 (fun s10 => ?_)
    refine jq_aload_n Γ dX1_passOneDay_47 rfl 0 rfl (jq_at_0 (at_com ho)) ?_
    refine jq_getI (J := 5) Γ (at_com ho) fl_RX1_75 rfl rfl dX1_passOneDay_48 ?_
    refine jq_iload_n Γ dX1_passOneDay_51 rfl 1 rfl ?_
    refine jq_icmp_ne (tgt := 59) Γ dX1_passOneDay_52 rfl ?_ ?_
    · refine jq_iconst Γ dX1_passOneDay_59 rfl ?_
      exact jq_ireturn Γ dX1_passOneDay_60 (hK0 _)
    · refine jq_iconst Γ dX1_passOneDay_55 rfl ?_
      refine jq_goto Γ (tgt := 60) dX1_passOneDay_56 rfl ?_
      exact jq_ireturn Γ dX1_passOneDay_60 (hK0 _)
  refine jq_aload_n Γ dX1_passOneDay_0 rfl 0 rfl (jq_at_0 (at_com ho)) ?_
  refine jq_getI (J := 5) Γ (at_com ho) fl_RX1_75 rfl rfl dX1_passOneDay_1 ?_
  refine jq_nmI (fun v1 => ?_)
  refine jq_istore_n (L' := [(1, jI v1), (0, jR o)]) Γ dX1_passOneDay_4 rfl hnl rfl rfl ?_
  refine jq_iconst Γ dX1_passOneDay_5 rfl ?_
  refine jq_istore_n (L' := [(2, jI 0), (1, jI v1), (0, jR o)]) Γ dX1_passOneDay_6 rfl hnl rfl rfl ?_
  refine jq_sub Γ (L' := [(0, jR o), (1, jI v1), (2, jI 0)]) [2, 1, 0] rfl ?_
  refine jq_loop2 (C := fun (t2 : Int) => jq_V jq_zX X (jq_zN jq_zX) σ 7 [(0, jR o), (1, jI v1), (2, jI t2)] []) (KX := Sum.elim (fun (e6 : Int) => jq_V jq_zX X (jq_zN jq_zX) σ 23 [(0, jR o), (1, jI v1), (2, jI e6)] []) (fun (e11 : Unit) => jq_V jq_zX X (jq_zN jq_zX) σ 37 [(0, jR o), (1, jI v1)] [])) ?_ ?_ 0
  · intro K7_t2 hCt2 hXt2 t2
    unfold X1_passOneDay_b7
    refine jq_iload_n Γ dX1_passOneDay_7 rfl 2 rfl ?_
    refine jq_aload_n Γ dX1_passOneDay_8 rfl 0 rfl (jq_at_0 (at_com ho)) ?_
    refine jq_getI (J := 4) Γ (at_com ho) fl_RX1_72 rfl rfl dX1_passOneDay_9 ?_
    refine jq_icmp_ge (tgt := 37) Γ dX1_passOneDay_12 rfl ?_ ?_
    · refine jq_sub Γ (L' := [(0, jR o), (1, jI v1)]) [0, 1] rfl ?_
      exact jq_done (hXt2 (.inr ()))
    · refine jq_aload_n Γ dX1_passOneDay_15 rfl 0 rfl (jq_at_0 (at_com ho)) ?_
      refine jq_iload_n Γ dX1_passOneDay_16 rfl 2 rfl ?_
      refine jq_cpZ (jq_virt (avs := [jI t2]) (st := []) Γ hlY rfl ml_RX1_129 rfl (at_com ho) rfl rfl rfl rfl rfl dX1_passOneDay_17) rfl (fun r h => ctX1_isReady ho h) (fun v3 hz4 => ?_)
      refine jq_if_eq (tgt := 31) Γ dX1_passOneDay_20 rfl ?_ ?_
      · refine jq_iincN (L' := fun v5 => [(2, jI v5), (0, jR o), (1, jI v1)]) Γ dX1_passOneDay_31 2 rfl hnl rfl (fun _ => rfl) (fun v5 => ?_)
        refine jq_goto Γ (tgt := 7) dX1_passOneDay_34 rfl ?_
        refine jq_sub Γ (L' := [(0, jR o), (1, jI v1), (2, jI v5)]) [1, 2, 0] rfl ?_
        exact jq_done (hCt2 v5)
      · exact jq_done (hXt2 (.inl t2))
  · refine jq_elim ?_ ?_
    · intro e6
      refine jq_aload_n Γ dX1_passOneDay_23 rfl 0 rfl (jq_at_0 (at_com ho)) ?_
      refine jq_iload_n Γ dX1_passOneDay_24 rfl 2 rfl ?_
      refine jq_cwV (jq_virt (avs := [jI e6]) (st := []) Γ hlY rfl ml_RX1_148 rfl (at_com ho) rfl rfl rfl rfl rfl dX1_passOneDay_25) (fun σ' h => ctX1_workAt ho h) (fun s7 => ?_)
      refine jq_goto Γ (tgt := 37) dX1_passOneDay_28 rfl ?_
      refine jq_sub Γ (L' := [(0, jR o), (1, jI v1)]) [0, 1] rfl ?_
      exact hj37_0 v1 s7
    · intro e11
      exact hj37_0 v1 σ


theorem dX1_passDays_0 : decode cX1_passDays 0 = .ok (.iconst 0, 1) := by decide +kernel
theorem dX1_passDays_1 : decode cX1_passDays 1 = .ok (.istore_n 2, 1) := by decide +kernel
theorem dX1_passDays_2 : decode cX1_passDays 2 = .ok (.iconst 0, 1) := by decide +kernel
theorem dX1_passDays_3 : decode cX1_passDays 3 = .ok (.istore_n 3, 1) := by decide +kernel
theorem dX1_passDays_4 : decode cX1_passDays 4 = .ok (.iload_n 3, 1) := by decide +kernel
theorem dX1_passDays_5 : decode cX1_passDays 5 = .ok (.iload_n 1, 1) := by decide +kernel
theorem dX1_passDays_6 : decode cX1_passDays 6 = .ok (.if_icmp .ge 16, 3) := by decide +kernel
theorem dX1_passDays_9 : decode cX1_passDays 9 = .ok (.iload_n 2, 1) := by decide +kernel
theorem dX1_passDays_10 : decode cX1_passDays 10 = .ok (.aload_n 0, 1) := by decide +kernel
theorem dX1_passDays_11 : decode cX1_passDays 11 = .ok (.invokevirtual 144, 3) := by decide +kernel
theorem dX1_passDays_14 : decode cX1_passDays 14 = .ok (.iadd, 1) := by decide +kernel
theorem dX1_passDays_15 : decode cX1_passDays 15 = .ok (.istore_n 2, 1) := by decide +kernel
theorem dX1_passDays_16 : decode cX1_passDays 16 = .ok (.iinc 3 1, 3) := by decide +kernel
theorem dX1_passDays_19 : decode cX1_passDays 19 = .ok (.goto (-15), 3) := by decide +kernel
theorem dX1_passDays_22 : decode cX1_passDays 22 = .ok (.iload_n 2, 1) := by decide +kernel
theorem dX1_passDays_23 : decode cX1_passDays 23 = .ok (.ireturn, 1) := by decide +kernel
set_option maxHeartbeats 4000000 in
set_option maxRecDepth 100000 in
theorem ctX1_passDays {o : Int} {p1 : Int} {σ : jq_M} {res : Int} {σ' : jq_M} (ho : jq_com o) (h : X1_passDays o p1 σ = some (res, σ')) : jq_MC jq_zX yX1_passDays cX1_passDays 4 (some .int) 3 83 [jR o, jI p1] σ (some (jI res)) σ' := by
  refine jq_met (own := RX1) (L0 := [(0, jR o), (1, jI p1)]) (by decide) rfl rfl rfl ?_
  intro X Γ hnl hlY hRT
  refine jq_use2 (P := fun r => jq_RT jq_zX X (some .int) (some (jI r.1)) r.2) ?_ h hRT
  intro K0 hK0
  unfold X1_passDays
  refine jq_iconst Γ dX1_passDays_0 rfl ?_
  refine jq_istore_n (L' := [(2, jI 0), (0, jR o), (1, jI p1)]) Γ dX1_passDays_1 rfl hnl rfl rfl ?_
  refine jq_iconst Γ dX1_passDays_2 rfl ?_
  refine jq_istore_n (L' := [(3, jI 0), (2, jI 0), (0, jR o), (1, jI p1)]) Γ dX1_passDays_3 rfl hnl rfl rfl ?_
  refine jq_sub Γ (L' := [(0, jR o), (1, jI p1), (2, jI 0), (3, jI 0)]) [2, 3, 1, 0] rfl ?_
  refine jq_loop2 (C := fun (t1 : Int × Int × jq_M) => jq_V jq_zX X (jq_zN jq_zX) t1.2.2 4 [(0, jR o), (1, jI p1), (2, jI t1.1), (3, jI t1.2.1)] []) (KX := fun (e6 : Int × jq_M) => jq_V jq_zX X (jq_zN jq_zX) e6.2 22 [(2, jI e6.1)] []) ?_ ?_ (0, 0, σ)
  · intro K4_t1 hCt1 hXt1 t1
    unfold X1_passDays_b4
    refine jq_iload_n Γ dX1_passDays_4 rfl 3 rfl ?_
    refine jq_iload_n Γ dX1_passDays_5 rfl 1 rfl ?_
    refine jq_icmp_ge (tgt := 22) Γ dX1_passDays_6 rfl ?_ ?_
    · refine jq_sub Γ (L' := [(2, jI t1.1)]) [2] rfl ?_
      exact jq_done (hXt1 (t1.1, t1.2.2))
    · refine jq_iload_n Γ dX1_passDays_9 rfl 2 rfl ?_
      refine jq_aload_n Γ dX1_passDays_10 rfl 0 rfl (jq_at_0 (at_com ho)) ?_
      refine jq_cwI (jq_virt (avs := []) (st := [jI t1.1]) Γ hlY rfl ml_RX1_144 rfl (at_com ho) rfl rfl rfl rfl rfl dX1_passDays_11) (fun r σ' h => ctX1_passOneDay ho h) (fun v2 s3 => ?_)
      refine jq_iadd Γ dX1_passDays_14 ?_
      refine jq_nmI (fun v4 => ?_)
      refine jq_istore_n (L' := [(2, jI v4), (0, jR o), (1, jI p1), (3, jI t1.2.1)]) Γ dX1_passDays_15 rfl hnl rfl rfl ?_
      refine jq_iincN (L' := fun v5 => [(3, jI v5), (2, jI v4), (0, jR o), (1, jI p1)]) Γ dX1_passDays_16 3 rfl hnl rfl (fun _ => rfl) (fun v5 => ?_)
      refine jq_goto Γ (tgt := 4) dX1_passDays_19 rfl ?_
      refine jq_sub Γ (L' := [(0, jR o), (1, jI p1), (2, jI v4), (3, jI v5)]) [2, 3, 1, 0] rfl ?_
      exact jq_done (hCt1 (v4, v5, s3))
  · intro e6
    refine jq_iload_n Γ dX1_passDays_22 rfl 0 rfl ?_
    exact jq_ireturn Γ dX1_passDays_23 (hK0 _)


theorem dX10_day_0 : decode cX10_day 0 = .ok (.iload_n 1, 1) := by decide +kernel
theorem dX10_day_1 : decode cX10_day 1 = .ok (.iconst 1, 1) := by decide +kernel
theorem dX10_day_2 : decode cX10_day 2 = .ok (.bipush 99, 2) := by decide +kernel
theorem dX10_day_4 : decode cX10_day 4 = .ok (.invokestatic 93, 3) := by decide +kernel
theorem dX10_day_7 : decode cX10_day 7 = .ok (.ifCond .ne 9, 3) := by decide +kernel
theorem dX10_day_10 : decode cX10_day 10 = .ok (.aload_n 0, 1) := by decide +kernel
theorem dX10_day_11 : decode cX10_day 11 = .ok (.iconst 1, 1) := by decide +kernel
theorem dX10_day_12 : decode cX10_day 12 = .ok (.invokevirtual 120, 3) := by decide +kernel
theorem dX10_day_15 : decode cX10_day 15 = .ok (.ireturn, 1) := by decide +kernel
theorem dX10_day_16 : decode cX10_day 16 = .ok (.aload_n 0, 1) := by decide +kernel
theorem dX10_day_17 : decode cX10_day 17 = .ok (.getfield 25, 3) := by decide +kernel
theorem dX10_day_20 : decode cX10_day 20 = .ok (.getfield 188, 3) := by decide +kernel
theorem dX10_day_23 : decode cX10_day 23 = .ok (.sipush 9999, 3) := by decide +kernel
theorem dX10_day_26 : decode cX10_day 26 = .ok (.iload_n 1, 1) := by decide +kernel
theorem dX10_day_27 : decode cX10_day 27 = .ok (.isub, 1) := by decide +kernel
theorem dX10_day_28 : decode cX10_day 28 = .ok (.if_icmp .le 9, 3) := by decide +kernel
theorem dX10_day_31 : decode cX10_day 31 = .ok (.aload_n 0, 1) := by decide +kernel
theorem dX10_day_32 : decode cX10_day 32 = .ok (.iconst 4, 1) := by decide +kernel
theorem dX10_day_33 : decode cX10_day 33 = .ok (.invokevirtual 120, 3) := by decide +kernel
theorem dX10_day_36 : decode cX10_day 36 = .ok (.ireturn, 1) := by decide +kernel
theorem dX10_day_37 : decode cX10_day 37 = .ok (.aload_n 0, 1) := by decide +kernel
theorem dX10_day_38 : decode cX10_day 38 = .ok (.aload_n 0, 1) := by decide +kernel
theorem dX10_day_39 : decode cX10_day 39 = .ok (.getfield 25, 3) := by decide +kernel
theorem dX10_day_42 : decode cX10_day 42 = .ok (.iload_n 1, 1) := by decide +kernel
theorem dX10_day_43 : decode cX10_day 43 = .ok (.invokevirtual 305, 3) := by decide +kernel
theorem dX10_day_46 : decode cX10_day 46 = .ok (.invokevirtual 161, 3) := by decide +kernel
theorem dX10_day_49 : decode cX10_day 49 = .ok (.ireturn, 1) := by decide +kernel
set_option maxHeartbeats 4000000 in
set_option maxRecDepth 100000 in
theorem ctX10_day {p1 : Int} {σ : jq_M} {res : Int} {σ' : jq_M}  (h : X10_day p1 σ = some (res, σ')) : jq_MC jq_zX yX10_day cX10_day 2 (some .int) 4 106 [jR 0, jI p1] σ (some (jI res)) σ' := by
  refine jq_met (own := RX10) (L0 := [(0, jR 0), (1, jI p1)]) (by decide) rfl rfl rfl ?_
  intro X Γ hnl hlY hRT
  refine jq_use2 (P := fun r => jq_RT jq_zX X (some .int) (some (jI r.1)) r.2) ?_ h hRT
  intro K0 hK0
  unfold X10_day
  refine jq_iload_n Γ dX10_day_0 rfl 1 rfl ?_
  refine jq_iconst Γ dX10_day_1 rfl ?_
  refine jq_bipush Γ dX10_day_2 rfl ?_
  refine jq_cpZ (jq_stat (avs := [jI p1, jI 1, jI 99]) (st := []) Γ hlY rfl ml_RX10_93 rfl rfl rfl rfl rfl dX10_day_4) rfl (fun r h => ctX10_within h) (fun v1 hz2 => ?_)
  refine jq_if_ne (tgt := 16) Γ dX10_day_7 rfl ?_ ?_
  · refine jq_aload_n Γ dX10_day_16 rfl 0 rfl (jq_at_0 at_X_0) ?_
    refine jq_getC (C := jq_cm2) Γ hlY at_X_0 fl_RX10_25 rfl rfl ly_now dX10_day_17 (fun c3 hc4q => ?_)
    have hc4 := jq_cm2_com hc4q
    refine jq_getI (J := 6) Γ (at_com hc4) fl_RX10_188 rfl rfl dX10_day_20 ?_
    refine jq_sipush Γ dX10_day_23 rfl ?_
    refine jq_iload_n Γ dX10_day_26 rfl 1 rfl ?_
    refine jq_isub Γ dX10_day_27 ?_
    refine jq_icmp_le (tgt := 37) Γ dX10_day_28 rfl ?_ ?_
    · refine jq_aload_n Γ dX10_day_37 rfl 0 rfl (jq_at_0 at_X_0) ?_
      refine jq_aload_n Γ dX10_day_38 rfl 0 rfl (jq_at_0 at_X_0) ?_
      refine jq_getC (C := jq_cm2) Γ hlY at_X_0 fl_RX10_25 rfl rfl ly_now dX10_day_39 (fun c5 hc6q => ?_)
      have hc6 := jq_cm2_com hc6q
      refine jq_iload_n Γ dX10_day_42 rfl 1 rfl ?_
      refine jq_cwI (jq_virt (avs := [jI p1]) (st := [jR 0]) Γ hlY rfl ml_RX10_305 rfl (at_com hc6) rfl rfl rfl rfl rfl dX10_day_43) (fun r σ' h => ctX1_passDays hc6 h) (fun v7 s8 => ?_)
      refine jq_cwI (jq_virt (avs := [jI v7]) (st := []) Γ hlY rfl ml_RX10_161 rfl at_X_0 rfl rfl rfl rfl rfl dX10_day_46) (fun r σ' h => ctX10_answer h) (fun v9 s10 => ?_)
      exact jq_ireturn Γ dX10_day_49 (hK0 _)
    · refine jq_aload_n Γ dX10_day_31 rfl 0 rfl (jq_at_0 at_X_0) ?_
      refine jq_iconst Γ dX10_day_32 rfl ?_
      refine jq_cwI (jq_virt (avs := [jI 4]) (st := []) Γ hlY rfl ml_RX10_120 rfl at_X_0 rfl rfl rfl rfl rfl dX10_day_33) (fun r σ' h => ctX10_refuse h) (fun v11 s12 => ?_)
      exact jq_ireturn Γ dX10_day_36 (hK0 _)
  · refine jq_aload_n Γ dX10_day_10 rfl 0 rfl (jq_at_0 at_X_0) ?_
    refine jq_iconst Γ dX10_day_11 rfl ?_
    refine jq_cwI (jq_virt (avs := [jI 1]) (st := []) Γ hlY rfl ml_RX10_120 rfl at_X_0 rfl rfl rfl rfl rfl dX10_day_12) (fun r σ' h => ctX10_refuse h) (fun v13 s14 => ?_)
    exact jq_ireturn Γ dX10_day_15 (hK0 _)


theorem dX1_agreeOn_0 : decode cX1_agreeOn 0 = .ok (.aload_n 0, 1) := by decide +kernel
theorem dX1_agreeOn_1 : decode cX1_agreeOn 1 = .ok (.iload_n 1, 1) := by decide +kernel
theorem dX1_agreeOn_2 : decode cX1_agreeOn 2 = .ok (.invokevirtual 129, 3) := by decide +kernel
theorem dX1_agreeOn_5 : decode cX1_agreeOn 5 = .ok (.ifCond .ne 5, 3) := by decide +kernel
theorem dX1_agreeOn_8 : decode cX1_agreeOn 8 = .ok (.iconst 0, 1) := by decide +kernel
theorem dX1_agreeOn_9 : decode cX1_agreeOn 9 = .ok (.ireturn, 1) := by decide +kernel
theorem dX1_agreeOn_10 : decode cX1_agreeOn 10 = .ok (.aload_n 0, 1) := by decide +kernel
theorem dX1_agreeOn_11 : decode cX1_agreeOn 11 = .ok (.dup, 1) := by decide +kernel
theorem dX1_agreeOn_12 : decode cX1_agreeOn 12 = .ok (.getfield 75, 3) := by decide +kernel
theorem dX1_agreeOn_15 : decode cX1_agreeOn 15 = .ok (.iconst 1, 1) := by decide +kernel
theorem dX1_agreeOn_16 : decode cX1_agreeOn 16 = .ok (.iload_n 1, 1) := by decide +kernel
theorem dX1_agreeOn_17 : decode cX1_agreeOn 17 = .ok (.ishl, 1) := by decide +kernel
theorem dX1_agreeOn_18 : decode cX1_agreeOn 18 = .ok (.ior, 1) := by decide +kernel
theorem dX1_agreeOn_19 : decode cX1_agreeOn 19 = .ok (.putfield 75, 3) := by decide +kernel
theorem dX1_agreeOn_22 : decode cX1_agreeOn 22 = .ok (.iconst 1, 1) := by decide +kernel
theorem dX1_agreeOn_23 : decode cX1_agreeOn 23 = .ok (.ireturn, 1) := by decide +kernel
set_option maxHeartbeats 4000000 in
set_option maxRecDepth 100000 in
theorem ctX1_agreeOn {o : Int} {p1 : Int} {σ : jq_M} {res : Int} {σ' : jq_M} (ho : jq_com o) (h : X1_agreeOn o p1 σ = some (res, σ')) : jq_MC jq_zX yX1_agreeOn cX1_agreeOn 2 (some .boolean) 2 61 [jR o, jI p1] σ (some (jI res)) σ' := by
  refine jq_met (own := RX1) (L0 := [(0, jR o), (1, jI p1)]) (by decide) rfl rfl rfl ?_
  intro X Γ hnl hlY hRT
  refine jq_use2 (P := fun r => jq_RT jq_zX X (some .boolean) (some (jI r.1)) r.2) ?_ h hRT
  intro K0 hK0
  unfold X1_agreeOn
  refine jq_aload_n Γ dX1_agreeOn_0 rfl 0 rfl (jq_at_0 (at_com ho)) ?_
  refine jq_iload_n Γ dX1_agreeOn_1 rfl 1 rfl ?_
  refine jq_cpZ (jq_virt (avs := [jI p1]) (st := []) Γ hlY rfl ml_RX1_129 rfl (at_com ho) rfl rfl rfl rfl rfl dX1_agreeOn_2) rfl (fun r h => ctX1_isReady ho h) (fun v1 hz2 => ?_)
  refine jq_if_ne (tgt := 10) Γ dX1_agreeOn_5 rfl ?_ ?_
  · refine jq_aload_n Γ dX1_agreeOn_10 rfl 0 rfl (jq_at_0 (at_com ho)) ?_
    refine jq_dup Γ dX1_agreeOn_11 rfl ?_
    refine jq_getI (J := 5) Γ (at_com ho) fl_RX1_75 rfl rfl dX1_agreeOn_12 ?_
    refine jq_iconst Γ dX1_agreeOn_15 rfl ?_
    refine jq_iload_n Γ dX1_agreeOn_16 rfl 1 rfl ?_
    refine jq_ishl Γ dX1_agreeOn_17 ?_
    refine jq_ior Γ dX1_agreeOn_18 ?_
    refine jq_putI Γ (at_com ho) fl_RX1_75 rfl rfl dX1_agreeOn_19 (fun s3 => ?_)
    refine jq_iconst Γ dX1_agreeOn_22 rfl ?_
    exact jq_zreturn Γ (Or.inr rfl) dX1_agreeOn_23 (hK0 _)
  · refine jq_iconst Γ dX1_agreeOn_8 rfl ?_
    exact jq_zreturn Γ (Or.inl rfl) dX1_agreeOn_9 (hK0 _)


theorem dX10_agree_0 : decode cX10_agree 0 = .ok (.aload_n 0, 1) := by decide +kernel
theorem dX10_agree_1 : decode cX10_agree 1 = .ok (.getfield 25, 3) := by decide +kernel
theorem dX10_agree_4 : decode cX10_agree 4 = .ok (.iload_n 1, 1) := by decide +kernel
theorem dX10_agree_5 : decode cX10_agree 5 = .ok (.invokevirtual 242, 3) := by decide +kernel
theorem dX10_agree_8 : decode cX10_agree 8 = .ok (.ifCond .ne 9, 3) := by decide +kernel
theorem dX10_agree_11 : decode cX10_agree 11 = .ok (.aload_n 0, 1) := by decide +kernel
theorem dX10_agree_12 : decode cX10_agree 12 = .ok (.iconst 1, 1) := by decide +kernel
theorem dX10_agree_13 : decode cX10_agree 13 = .ok (.invokevirtual 120, 3) := by decide +kernel
theorem dX10_agree_16 : decode cX10_agree 16 = .ok (.ireturn, 1) := by decide +kernel
theorem dX10_agree_17 : decode cX10_agree 17 = .ok (.aload_n 0, 1) := by decide +kernel
theorem dX10_agree_18 : decode cX10_agree 18 = .ok (.getfield 25, 3) := by decide +kernel
theorem dX10_agree_21 : decode cX10_agree 21 = .ok (.iload_n 1, 1) := by decide +kernel
theorem dX10_agree_22 : decode cX10_agree 22 = .ok (.invokevirtual 308, 3) := by decide +kernel
theorem dX10_agree_25 : decode cX10_agree 25 = .ok (.ifCond .ne 10, 3) := by decide +kernel
theorem dX10_agree_28 : decode cX10_agree 28 = .ok (.aload_n 0, 1) := by decide +kernel
theorem dX10_agree_29 : decode cX10_agree 29 = .ok (.bipush 7, 2) := by decide +kernel
theorem dX10_agree_31 : decode cX10_agree 31 = .ok (.invokevirtual 120, 3) := by decide +kernel
theorem dX10_agree_34 : decode cX10_agree 34 = .ok (.ireturn, 1) := by decide +kernel
theorem dX10_agree_35 : decode cX10_agree 35 = .ok (.aload_n 0, 1) := by decide +kernel
theorem dX10_agree_36 : decode cX10_agree 36 = .ok (.aload_n 0, 1) := by decide +kernel
theorem dX10_agree_37 : decode cX10_agree 37 = .ok (.getfield 25, 3) := by decide +kernel
theorem dX10_agree_40 : decode cX10_agree 40 = .ok (.getfield 204, 3) := by decide +kernel
theorem dX10_agree_43 : decode cX10_agree 43 = .ok (.invokestatic 300, 3) := by decide +kernel
theorem dX10_agree_46 : decode cX10_agree 46 = .ok (.invokevirtual 161, 3) := by decide +kernel
theorem dX10_agree_49 : decode cX10_agree 49 = .ok (.ireturn, 1) := by decide +kernel
set_option maxHeartbeats 4000000 in
set_option maxRecDepth 100000 in
theorem ctX10_agree {p1 : Int} {σ : jq_M} {res : Int} {σ' : jq_M}  (h : X10_agree p1 σ = some (res, σ')) : jq_MC jq_zX yX10_agree cX10_agree 2 (some .int) 3 82 [jR 0, jI p1] σ (some (jI res)) σ' := by
  refine jq_met (own := RX10) (L0 := [(0, jR 0), (1, jI p1)]) (by decide) rfl rfl rfl ?_
  intro X Γ hnl hlY hRT
  refine jq_use2 (P := fun r => jq_RT jq_zX X (some .int) (some (jI r.1)) r.2) ?_ h hRT
  intro K0 hK0
  unfold X10_agree
  refine jq_aload_n Γ dX10_agree_0 rfl 0 rfl (jq_at_0 at_X_0) ?_
  refine jq_getC (C := jq_cm2) Γ hlY at_X_0 fl_RX10_25 rfl rfl ly_now dX10_agree_1 (fun c1 hc2q => ?_)
  have hc2 := jq_cm2_com hc2q
  refine jq_iload_n Γ dX10_agree_4 rfl 1 rfl ?_
  refine jq_cpZ (jq_virt (avs := [jI p1]) (st := []) Γ hlY rfl ml_RX10_242 rfl (at_com hc2) rfl rfl rfl rfl rfl dX10_agree_5) rfl (fun r h => ctX1_isArticle hc2 h) (fun v3 hz4 => ?_)
  refine jq_if_ne (tgt := 17) Γ dX10_agree_8 rfl ?_ ?_
  · refine jq_aload_n Γ dX10_agree_17 rfl 0 rfl (jq_at_0 at_X_0) ?_
    refine jq_getC (C := jq_cm2) Γ hlY at_X_0 fl_RX10_25 rfl rfl ly_now dX10_agree_18 (fun c5 hc6q => ?_)
    have hc6 := jq_cm2_com hc6q
    refine jq_iload_n Γ dX10_agree_21 rfl 1 rfl ?_
    refine jq_cwZ (jq_virt (avs := [jI p1]) (st := []) Γ hlY rfl ml_RX10_308 rfl (at_com hc6) rfl rfl rfl rfl rfl dX10_agree_22) rfl (fun r σ' h => ctX1_agreeOn hc6 h) (fun v7 s8 hz9 => ?_)
    refine jq_if_ne (tgt := 35) Γ dX10_agree_25 rfl ?_ ?_
    · refine jq_aload_n Γ dX10_agree_35 rfl 0 rfl (jq_at_0 at_X_0) ?_
      refine jq_aload_n Γ dX10_agree_36 rfl 0 rfl (jq_at_0 at_X_0) ?_
      refine jq_getC (C := jq_cm2) Γ hlY at_X_0 fl_RX10_25 rfl rfl ly_now dX10_agree_37 (fun c10 hc11q => ?_)
      have hc11 := jq_cm2_com hc11q
      refine jq_getI (J := 5) Γ (at_com hc11) fl_RX10_204 rfl rfl dX10_agree_40 ?_
      refine jq_cpI (jq_stat (avs := [jI (s8 c10 5)]) (st := [jR 0]) Γ hlY rfl ml_RX10_300 rfl rfl rfl rfl rfl dX10_agree_43) (fun r h => ctJ6_bitCount_0f7a4 h) (fun v12 => ?_)
      refine jq_cwI (jq_virt (avs := [jI v12]) (st := []) Γ hlY rfl ml_RX10_161 rfl at_X_0 rfl rfl rfl rfl rfl dX10_agree_46) (fun r σ' h => ctX10_answer h) (fun v13 s14 => ?_)
      exact jq_ireturn Γ dX10_agree_49 (hK0 _)
    · refine jq_aload_n Γ dX10_agree_28 rfl 0 rfl (jq_at_0 at_X_0) ?_
      refine jq_bipush Γ dX10_agree_29 rfl ?_
      refine jq_cwI (jq_virt (avs := [jI 7]) (st := []) Γ hlY rfl ml_RX10_120 rfl at_X_0 rfl rfl rfl rfl rfl dX10_agree_31) (fun r σ' h => ctX10_refuse h) (fun v15 s16 => ?_)
      exact jq_ireturn Γ dX10_agree_34 (hK0 _)
  · refine jq_aload_n Γ dX10_agree_11 rfl 0 rfl (jq_at_0 at_X_0) ?_
    refine jq_iconst Γ dX10_agree_12 rfl ?_
    refine jq_cwI (jq_virt (avs := [jI 1]) (st := []) Γ hlY rfl ml_RX10_120 rfl at_X_0 rfl rfl rfl rfl rfl dX10_agree_13) (fun r σ' h => ctX10_refuse h) (fun v17 s18 => ?_)
    exact jq_ireturn Γ dX10_agree_16 (hK0 _)


theorem dX1_allFallsOf_0 : decode cX1_allFallsOf 0 = .ok (.iconst 1, 1) := by decide +kernel
theorem dX1_allFallsOf_1 : decode cX1_allFallsOf 1 = .ok (.iload_n 1, 1) := by decide +kernel
theorem dX1_allFallsOf_2 : decode cX1_allFallsOf 2 = .ok (.ishl, 1) := by decide +kernel
theorem dX1_allFallsOf_3 : decode cX1_allFallsOf 3 = .ok (.istore_n 2, 1) := by decide +kernel
theorem dX1_allFallsOf_4 : decode cX1_allFallsOf 4 = .ok (.iload_n 1, 1) := by decide +kernel
theorem dX1_allFallsOf_5 : decode cX1_allFallsOf 5 = .ok (.iconst 1, 1) := by decide +kernel
theorem dX1_allFallsOf_6 : decode cX1_allFallsOf 6 = .ok (.iadd, 1) := by decide +kernel
theorem dX1_allFallsOf_7 : decode cX1_allFallsOf 7 = .ok (.istore_n 3, 1) := by decide +kernel
theorem dX1_allFallsOf_8 : decode cX1_allFallsOf 8 = .ok (.iload_n 3, 1) := by decide +kernel
theorem dX1_allFallsOf_9 : decode cX1_allFallsOf 9 = .ok (.aload_n 0, 1) := by decide +kernel
theorem dX1_allFallsOf_10 : decode cX1_allFallsOf 10 = .ok (.getfield 72, 3) := by decide +kernel
theorem dX1_allFallsOf_13 : decode cX1_allFallsOf 13 = .ok (.if_icmp .ge 26, 3) := by decide +kernel
theorem dX1_allFallsOf_16 : decode cX1_allFallsOf 16 = .ok (.aload_n 0, 1) := by decide +kernel
theorem dX1_allFallsOf_17 : decode cX1_allFallsOf 17 = .ok (.getfield 43, 3) := by decide +kernel
theorem dX1_allFallsOf_20 : decode cX1_allFallsOf 20 = .ok (.iload_n 3, 1) := by decide +kernel
theorem dX1_allFallsOf_21 : decode cX1_allFallsOf 21 = .ok (.iaload, 1) := by decide +kernel
theorem dX1_allFallsOf_22 : decode cX1_allFallsOf 22 = .ok (.iload_n 2, 1) := by decide +kernel
theorem dX1_allFallsOf_23 : decode cX1_allFallsOf 23 = .ok (.iand, 1) := by decide +kernel
theorem dX1_allFallsOf_24 : decode cX1_allFallsOf 24 = .ok (.ifCond .eq 9, 3) := by decide +kernel
theorem dX1_allFallsOf_27 : decode cX1_allFallsOf 27 = .ok (.iload_n 2, 1) := by decide +kernel
theorem dX1_allFallsOf_28 : decode cX1_allFallsOf 28 = .ok (.iconst 1, 1) := by decide +kernel
theorem dX1_allFallsOf_29 : decode cX1_allFallsOf 29 = .ok (.iload_n 3, 1) := by decide +kernel
theorem dX1_allFallsOf_30 : decode cX1_allFallsOf 30 = .ok (.ishl, 1) := by decide +kernel
theorem dX1_allFallsOf_31 : decode cX1_allFallsOf 31 = .ok (.ior, 1) := by decide +kernel
theorem dX1_allFallsOf_32 : decode cX1_allFallsOf 32 = .ok (.istore_n 2, 1) := by decide +kernel
theorem dX1_allFallsOf_33 : decode cX1_allFallsOf 33 = .ok (.iinc 3 1, 3) := by decide +kernel
theorem dX1_allFallsOf_36 : decode cX1_allFallsOf 36 = .ok (.goto (-28), 3) := by decide +kernel
theorem dX1_allFallsOf_39 : decode cX1_allFallsOf 39 = .ok (.iload_n 2, 1) := by decide +kernel
theorem dX1_allFallsOf_40 : decode cX1_allFallsOf 40 = .ok (.ireturn, 1) := by decide +kernel
set_option maxHeartbeats 4000000 in
set_option maxRecDepth 100000 in
theorem ctX1_allFallsOf {o : Int} {p1 : Int} {σ : jq_M} {res : Int} (ho : jq_com o) (h : X1_allFallsOf o p1 σ = some res) : jq_MC jq_zX yX1_allFallsOf cX1_allFallsOf 4 (some .int) 1 40 [jR o, jI p1] σ (some (jI res)) σ := by
  refine jq_met (own := RX1) (L0 := [(0, jR o), (1, jI p1)]) (by decide) rfl rfl rfl ?_
  intro X Γ hnl hlY hRT
  refine jq_use2 (P := fun r => jq_RT jq_zX X (some .int) (some (jI r)) σ) ?_ h hRT
  intro K0 hK0
  unfold X1_allFallsOf
  refine jq_iconst Γ dX1_allFallsOf_0 rfl ?_
  refine jq_iload_n Γ dX1_allFallsOf_1 rfl 1 rfl ?_
  refine jq_ishl Γ dX1_allFallsOf_2 ?_
  refine jq_nmI (fun v1 => ?_)
  refine jq_istore_n (L' := [(2, jI v1), (0, jR o), (1, jI p1)]) Γ dX1_allFallsOf_3 rfl hnl rfl rfl ?_
  refine jq_iload_n Γ dX1_allFallsOf_4 rfl 2 rfl ?_
  refine jq_iconst Γ dX1_allFallsOf_5 rfl ?_
  refine jq_iadd Γ dX1_allFallsOf_6 ?_
  refine jq_nmI (fun v2 => ?_)
  refine jq_istore_n (L' := [(3, jI v2), (2, jI v1), (0, jR o), (1, jI p1)]) Γ dX1_allFallsOf_7 rfl hnl rfl rfl ?_
  refine jq_sub Γ (L' := [(0, jR o), (2, jI v1), (3, jI v2)]) [2, 1, 0] rfl ?_
  refine jq_loop2 (C := fun (t3 : Int × Int) => jq_V jq_zX X (jq_zN jq_zX) σ 8 [(0, jR o), (2, jI t3.1), (3, jI t3.2)] []) (KX := fun (e8 : Int) => jq_V jq_zX X (jq_zN jq_zX) σ 39 [(2, jI e8)] []) ?_ ?_ (v1, v2)
  · intro K8_t3 hCt3 hXt3 t3
    unfold X1_allFallsOf_b8
    refine jq_iload_n Γ dX1_allFallsOf_8 rfl 2 rfl ?_
    refine jq_aload_n Γ dX1_allFallsOf_9 rfl 0 rfl (jq_at_0 (at_com ho)) ?_
    refine jq_getI (J := 4) Γ (at_com ho) fl_RX1_72 rfl rfl dX1_allFallsOf_10 ?_
    refine jq_icmp_ge (tgt := 39) Γ dX1_allFallsOf_13 rfl ?_ ?_
    · refine jq_sub Γ (L' := [(2, jI t3.1)]) [1] rfl ?_
      exact jq_done (hXt3 t3.1)
    · refine jq_aload_n Γ dX1_allFallsOf_16 rfl 0 rfl (jq_at_0 (at_com ho)) ?_
      refine jq_getR (v := (o + 11)) Γ hlY (at_com ho) fl_RX1_43 rfl rfl (ly_X1_leansOn ho) dX1_allFallsOf_17 ?_
      refine jq_iload_n Γ dX1_allFallsOf_20 rfl 2 rfl ?_
      refine jq_iald Γ (at_com_11 ho) rfl dX1_allFallsOf_21 (fun v4 => ?_)
      refine jq_iload_n Γ dX1_allFallsOf_22 rfl 1 rfl ?_
      refine jq_iand Γ dX1_allFallsOf_23 ?_
      refine jq_if_eq (tgt := 33) Γ dX1_allFallsOf_24 rfl ?_ ?_
      · refine jq_iincN (L' := fun v5 => [(3, jI v5), (0, jR o), (2, jI t3.1)]) Γ dX1_allFallsOf_33 2 rfl hnl rfl (fun _ => rfl) (fun v5 => ?_)
        refine jq_goto Γ (tgt := 8) dX1_allFallsOf_36 rfl ?_
        refine jq_sub Γ (L' := [(0, jR o), (2, jI t3.1), (3, jI v5)]) [1, 2, 0] rfl ?_
        exact jq_done (hCt3 (t3.1, v5))
      · refine jq_iload_n Γ dX1_allFallsOf_27 rfl 1 rfl ?_
        refine jq_iconst Γ dX1_allFallsOf_28 rfl ?_
        refine jq_iload_n Γ dX1_allFallsOf_29 rfl 2 rfl ?_
        refine jq_ishl Γ dX1_allFallsOf_30 ?_
        refine jq_ior Γ dX1_allFallsOf_31 ?_
        refine jq_nmI (fun v6 => ?_)
        refine jq_istore_n (L' := [(2, jI v6), (0, jR o), (3, jI t3.2)]) Γ dX1_allFallsOf_32 rfl hnl rfl rfl ?_
        refine jq_iincN (L' := fun v7 => [(3, jI v7), (2, jI v6), (0, jR o)]) Γ dX1_allFallsOf_33 2 rfl hnl rfl (fun _ => rfl) (fun v7 => ?_)
        refine jq_goto Γ (tgt := 8) dX1_allFallsOf_36 rfl ?_
        refine jq_sub Γ (L' := [(0, jR o), (2, jI v6), (3, jI v7)]) [2, 1, 0] rfl ?_
        exact jq_done (hCt3 (v6, v7))
  · intro e8
    refine jq_iload_n Γ dX1_allFallsOf_39 rfl 0 rfl ?_
    exact jq_ireturn Γ dX1_allFallsOf_40 (hK0 _)


theorem dX1_letFall_0 : decode cX1_letFall 0 = .ok (.aload_n 0, 1) := by decide +kernel
theorem dX1_letFall_1 : decode cX1_letFall 1 = .ok (.iload_n 1, 1) := by decide +kernel
theorem dX1_letFall_2 : decode cX1_letFall 2 = .ok (.invokevirtual 133, 3) := by decide +kernel
theorem dX1_letFall_5 : decode cX1_letFall 5 = .ok (.ifCond .ne 5, 3) := by decide +kernel
theorem dX1_letFall_8 : decode cX1_letFall 8 = .ok (.iconst 0, 1) := by decide +kernel
theorem dX1_letFall_9 : decode cX1_letFall 9 = .ok (.ireturn, 1) := by decide +kernel
theorem dX1_letFall_10 : decode cX1_letFall 10 = .ok (.aload_n 0, 1) := by decide +kernel
theorem dX1_letFall_11 : decode cX1_letFall 11 = .ok (.iload_n 1, 1) := by decide +kernel
theorem dX1_letFall_12 : decode cX1_letFall 12 = .ok (.invokevirtual 136, 3) := by decide +kernel
theorem dX1_letFall_15 : decode cX1_letFall 15 = .ok (.aload_n 0, 1) := by decide +kernel
theorem dX1_letFall_16 : decode cX1_letFall 16 = .ok (.getfield 75, 3) := by decide +kernel
theorem dX1_letFall_19 : decode cX1_letFall 19 = .ok (.iand, 1) := by decide +kernel
theorem dX1_letFall_20 : decode cX1_letFall 20 = .ok (.istore_n 2, 1) := by decide +kernel
theorem dX1_letFall_21 : decode cX1_letFall 21 = .ok (.iconst 0, 1) := by decide +kernel
theorem dX1_letFall_22 : decode cX1_letFall 22 = .ok (.istore_n 3, 1) := by decide +kernel
theorem dX1_letFall_23 : decode cX1_letFall 23 = .ok (.iload_n 3, 1) := by decide +kernel
theorem dX1_letFall_24 : decode cX1_letFall 24 = .ok (.aload_n 0, 1) := by decide +kernel
theorem dX1_letFall_25 : decode cX1_letFall 25 = .ok (.getfield 72, 3) := by decide +kernel
theorem dX1_letFall_28 : decode cX1_letFall 28 = .ok (.if_icmp .ge 24, 3) := by decide +kernel
theorem dX1_letFall_31 : decode cX1_letFall 31 = .ok (.iload_n 2, 1) := by decide +kernel
theorem dX1_letFall_32 : decode cX1_letFall 32 = .ok (.iload_n 3, 1) := by decide +kernel
theorem dX1_letFall_33 : decode cX1_letFall 33 = .ok (.invokestatic 94, 3) := by decide +kernel
theorem dX1_letFall_36 : decode cX1_letFall 36 = .ok (.ifCond .eq 10, 3) := by decide +kernel
theorem dX1_letFall_39 : decode cX1_letFall 39 = .ok (.aload_n 0, 1) := by decide +kernel
theorem dX1_letFall_40 : decode cX1_letFall 40 = .ok (.getfield 46, 3) := by decide +kernel
theorem dX1_letFall_43 : decode cX1_letFall 43 = .ok (.iload_n 3, 1) := by decide +kernel
theorem dX1_letFall_44 : decode cX1_letFall 44 = .ok (.iconst 0, 1) := by decide +kernel
theorem dX1_letFall_45 : decode cX1_letFall 45 = .ok (.iastore, 1) := by decide +kernel
theorem dX1_letFall_46 : decode cX1_letFall 46 = .ok (.iinc 3 1, 3) := by decide +kernel
theorem dX1_letFall_49 : decode cX1_letFall 49 = .ok (.goto (-26), 3) := by decide +kernel
theorem dX1_letFall_52 : decode cX1_letFall 52 = .ok (.aload_n 0, 1) := by decide +kernel
theorem dX1_letFall_53 : decode cX1_letFall 53 = .ok (.dup, 1) := by decide +kernel
theorem dX1_letFall_54 : decode cX1_letFall 54 = .ok (.getfield 75, 3) := by decide +kernel
theorem dX1_letFall_57 : decode cX1_letFall 57 = .ok (.iload_n 2, 1) := by decide +kernel
theorem dX1_letFall_58 : decode cX1_letFall 58 = .ok (.iconst (-1), 1) := by decide +kernel
theorem dX1_letFall_59 : decode cX1_letFall 59 = .ok (.ixor, 1) := by decide +kernel
theorem dX1_letFall_60 : decode cX1_letFall 60 = .ok (.iand, 1) := by decide +kernel
theorem dX1_letFall_61 : decode cX1_letFall 61 = .ok (.putfield 75, 3) := by decide +kernel
theorem dX1_letFall_64 : decode cX1_letFall 64 = .ok (.iload_n 2, 1) := by decide +kernel
theorem dX1_letFall_65 : decode cX1_letFall 65 = .ok (.invokestatic 139, 3) := by decide +kernel
theorem dX1_letFall_68 : decode cX1_letFall 68 = .ok (.ireturn, 1) := by decide +kernel
set_option maxHeartbeats 4000000 in
set_option maxRecDepth 100000 in
theorem ctX1_letFall {o : Int} {p1 : Int} {σ : jq_M} {res : Int} {σ' : jq_M} (ho : jq_com o) (h : X1_letFall o p1 σ = some (res, σ')) : jq_MC jq_zX yX1_letFall cX1_letFall 4 (some .int) 3 82 [jR o, jI p1] σ (some (jI res)) σ' := by
  refine jq_met (own := RX1) (L0 := [(0, jR o), (1, jI p1)]) (by decide) rfl rfl rfl ?_
  intro X Γ hnl hlY hRT
  refine jq_use2 (P := fun r => jq_RT jq_zX X (some .int) (some (jI r.1)) r.2) ?_ h hRT
  intro K0 hK0
  unfold X1_letFall
  refine jq_aload_n Γ dX1_letFall_0 rfl 0 rfl (jq_at_0 (at_com ho)) ?_
  refine jq_iload_n Γ dX1_letFall_1 rfl 1 rfl ?_
  refine jq_cpZ (jq_virt (avs := [jI p1]) (st := []) Γ hlY rfl ml_RX1_133 rfl (at_com ho) rfl rfl rfl rfl rfl dX1_letFall_2) rfl (fun r h => ctX1_isAgreed ho h) (fun v1 hz2 => ?_)
  refine jq_if_ne (tgt := 10) Γ dX1_letFall_5 rfl ?_ ?_
  · refine jq_aload_n Γ dX1_letFall_10 rfl 0 rfl (jq_at_0 (at_com ho)) ?_
    refine jq_iload_n Γ dX1_letFall_11 rfl 1 rfl ?_
    refine jq_cpI (jq_virt (avs := [jI p1]) (st := []) Γ hlY rfl ml_RX1_136 rfl (at_com ho) rfl rfl rfl rfl rfl dX1_letFall_12) (fun r h => ctX1_allFallsOf ho h) (fun v3 => ?_)
    refine jq_aload_n Γ dX1_letFall_15 rfl 0 rfl (jq_at_0 (at_com ho)) ?_
    refine jq_getI (J := 5) Γ (at_com ho) fl_RX1_75 rfl rfl dX1_letFall_16 ?_
    refine jq_iand Γ dX1_letFall_19 ?_
    refine jq_nmI (fun v4 => ?_)
    refine jq_istore_n (L' := [(2, jI v4), (0, jR o), (1, jI p1)]) Γ dX1_letFall_20 rfl hnl rfl rfl ?_
    refine jq_iconst Γ dX1_letFall_21 rfl ?_
    refine jq_istore_n (L' := [(3, jI 0), (2, jI v4), (0, jR o), (1, jI p1)]) Γ dX1_letFall_22 rfl hnl rfl rfl ?_
    refine jq_sub Γ (L' := [(0, jR o), (2, jI v4), (3, jI 0)]) [2, 1, 0] rfl ?_
    refine jq_loop2 (C := fun (t5 : Int × jq_M) => jq_V jq_zX X (jq_zN jq_zX) t5.2 23 [(0, jR o), (2, jI v4), (3, jI t5.1)] []) (KX := fun (e11 : jq_M) => jq_V jq_zX X (jq_zN jq_zX) e11 52 [(0, jR o), (2, jI v4)] []) ?_ ?_ (0, σ)
    · intro K23_t5 hCt5 hXt5 t5
      unfold X1_letFall_b23
      refine jq_iload_n Γ dX1_letFall_23 rfl 2 rfl ?_
      refine jq_aload_n Γ dX1_letFall_24 rfl 0 rfl (jq_at_0 (at_com ho)) ?_
      refine jq_getI (J := 4) Γ (at_com ho) fl_RX1_72 rfl rfl dX1_letFall_25 ?_
      refine jq_icmp_ge (tgt := 52) Γ dX1_letFall_28 rfl ?_ ?_
      · refine jq_sub Γ (L' := [(0, jR o), (2, jI v4)]) [0, 1] rfl ?_
        exact jq_done (hXt5 t5.2)
      · refine jq_iload_n Γ dX1_letFall_31 rfl 1 rfl ?_
        refine jq_iload_n Γ dX1_letFall_32 rfl 2 rfl ?_
        refine jq_cpZ (jq_nest (avs := [jI v4, jI t5.1]) (st := []) Γ hlY rfl ml_RX1_94 rfl rfl rfl rfl rfl dX1_letFall_33) rfl (fun r h => ctX10_holds h) (fun v6 hz7 => ?_)
        refine jq_if_eq (tgt := 46) Γ dX1_letFall_36 rfl ?_ ?_
        · refine jq_iincN (L' := fun v8 => [(3, jI v8), (0, jR o), (2, jI v4)]) Γ dX1_letFall_46 2 rfl hnl rfl (fun _ => rfl) (fun v8 => ?_)
          refine jq_goto Γ (tgt := 23) dX1_letFall_49 rfl ?_
          refine jq_sub Γ (L' := [(0, jR o), (2, jI v4), (3, jI v8)]) [1, 2, 0] rfl ?_
          exact jq_done (hCt5 (v8, t5.2))
        · refine jq_aload_n Γ dX1_letFall_39 rfl 0 rfl (jq_at_0 (at_com ho)) ?_
          refine jq_getR (v := (o + 12)) Γ hlY (at_com ho) fl_RX1_46 rfl rfl (ly_X1_worked ho) dX1_letFall_40 ?_
          refine jq_iload_n Γ dX1_letFall_43 rfl 2 rfl ?_
          refine jq_iconst Γ dX1_letFall_44 rfl ?_
          refine jq_iast Γ (at_com_12 ho) rfl dX1_letFall_45 (fun s9 => ?_)
          refine jq_iincN (L' := fun v10 => [(3, jI v10), (0, jR o), (2, jI v4)]) Γ dX1_letFall_46 2 rfl hnl rfl (fun _ => rfl) (fun v10 => ?_)
          refine jq_goto Γ (tgt := 23) dX1_letFall_49 rfl ?_
          refine jq_sub Γ (L' := [(0, jR o), (2, jI v4), (3, jI v10)]) [1, 2, 0] rfl ?_
          exact jq_done (hCt5 (v10, s9))
    · intro e11
      refine jq_aload_n Γ dX1_letFall_52 rfl 0 rfl (jq_at_0 (at_com ho)) ?_
      refine jq_dup Γ dX1_letFall_53 rfl ?_
      refine jq_getI (J := 5) Γ (at_com ho) fl_RX1_75 rfl rfl dX1_letFall_54 ?_
      refine jq_iload_n Γ dX1_letFall_57 rfl 1 rfl ?_
      refine jq_iconst Γ dX1_letFall_58 rfl ?_
      refine jq_ixor Γ dX1_letFall_59 ?_
      refine jq_iand Γ dX1_letFall_60 ?_
      refine jq_putI Γ (at_com ho) fl_RX1_75 rfl rfl dX1_letFall_61 (fun s12 => ?_)
      refine jq_iload_n Γ dX1_letFall_64 rfl 1 rfl ?_
      refine jq_cpI (jq_stat (avs := [jI v4]) (st := []) Γ hlY rfl ml_RX1_139 rfl rfl rfl rfl rfl dX1_letFall_65) (fun r h => ctJ6_bitCount_0f7a4 h) (fun v13 => ?_)
      exact jq_ireturn Γ dX1_letFall_68 (hK0 _)
  · refine jq_iconst Γ dX1_letFall_8 rfl ?_
    exact jq_ireturn Γ dX1_letFall_9 (hK0 _)


theorem dX10_withdraw_0 : decode cX10_withdraw 0 = .ok (.aload_n 0, 1) := by decide +kernel
theorem dX10_withdraw_1 : decode cX10_withdraw 1 = .ok (.getfield 25, 3) := by decide +kernel
theorem dX10_withdraw_4 : decode cX10_withdraw 4 = .ok (.iload_n 1, 1) := by decide +kernel
theorem dX10_withdraw_5 : decode cX10_withdraw 5 = .ok (.invokevirtual 242, 3) := by decide +kernel
theorem dX10_withdraw_8 : decode cX10_withdraw 8 = .ok (.ifCond .ne 9, 3) := by decide +kernel
theorem dX10_withdraw_11 : decode cX10_withdraw 11 = .ok (.aload_n 0, 1) := by decide +kernel
theorem dX10_withdraw_12 : decode cX10_withdraw 12 = .ok (.iconst 1, 1) := by decide +kernel
theorem dX10_withdraw_13 : decode cX10_withdraw 13 = .ok (.invokevirtual 120, 3) := by decide +kernel
theorem dX10_withdraw_16 : decode cX10_withdraw 16 = .ok (.ireturn, 1) := by decide +kernel
theorem dX10_withdraw_17 : decode cX10_withdraw 17 = .ok (.aload_n 0, 1) := by decide +kernel
theorem dX10_withdraw_18 : decode cX10_withdraw 18 = .ok (.getfield 25, 3) := by decide +kernel
theorem dX10_withdraw_21 : decode cX10_withdraw 21 = .ok (.iload_n 1, 1) := by decide +kernel
theorem dX10_withdraw_22 : decode cX10_withdraw 22 = .ok (.invokevirtual 311, 3) := by decide +kernel
theorem dX10_withdraw_25 : decode cX10_withdraw 25 = .ok (.istore_n 2, 1) := by decide +kernel
theorem dX10_withdraw_26 : decode cX10_withdraw 26 = .ok (.iload_n 2, 1) := by decide +kernel
theorem dX10_withdraw_27 : decode cX10_withdraw 27 = .ok (.ifCond .ne 12, 3) := by decide +kernel
theorem dX10_withdraw_30 : decode cX10_withdraw 30 = .ok (.aload_n 0, 1) := by decide +kernel
theorem dX10_withdraw_31 : decode cX10_withdraw 31 = .ok (.bipush 7, 2) := by decide +kernel
theorem dX10_withdraw_33 : decode cX10_withdraw 33 = .ok (.invokevirtual 120, 3) := by decide +kernel
theorem dX10_withdraw_36 : decode cX10_withdraw 36 = .ok (.goto 8, 3) := by decide +kernel
theorem dX10_withdraw_39 : decode cX10_withdraw 39 = .ok (.aload_n 0, 1) := by decide +kernel
theorem dX10_withdraw_40 : decode cX10_withdraw 40 = .ok (.iload_n 2, 1) := by decide +kernel
theorem dX10_withdraw_41 : decode cX10_withdraw 41 = .ok (.invokevirtual 161, 3) := by decide +kernel
theorem dX10_withdraw_44 : decode cX10_withdraw 44 = .ok (.ireturn, 1) := by decide +kernel
set_option maxHeartbeats 4000000 in
set_option maxRecDepth 100000 in
theorem ctX10_withdraw {p1 : Int} {σ : jq_M} {res : Int} {σ' : jq_M}  (h : X10_withdraw p1 σ = some (res, σ')) : jq_MC jq_zX yX10_withdraw cX10_withdraw 3 (some .int) 4 105 [jR 0, jI p1] σ (some (jI res)) σ' := by
  refine jq_met (own := RX10) (L0 := [(0, jR 0), (1, jI p1)]) (by decide) rfl rfl rfl ?_
  intro X Γ hnl hlY hRT
  refine jq_use2 (P := fun r => jq_RT jq_zX X (some .int) (some (jI r.1)) r.2) ?_ h hRT
  intro K0 hK0
  unfold X10_withdraw
  refine jq_aload_n Γ dX10_withdraw_0 rfl 0 rfl (jq_at_0 at_X_0) ?_
  refine jq_getC (C := jq_cm2) Γ hlY at_X_0 fl_RX10_25 rfl rfl ly_now dX10_withdraw_1 (fun c1 hc2q => ?_)
  have hc2 := jq_cm2_com hc2q
  refine jq_iload_n Γ dX10_withdraw_4 rfl 1 rfl ?_
  refine jq_cpZ (jq_virt (avs := [jI p1]) (st := []) Γ hlY rfl ml_RX10_242 rfl (at_com hc2) rfl rfl rfl rfl rfl dX10_withdraw_5) rfl (fun r h => ctX1_isArticle hc2 h) (fun v3 hz4 => ?_)
  refine jq_if_ne (tgt := 17) Γ dX10_withdraw_8 rfl ?_ ?_
  · refine jq_aload_n Γ dX10_withdraw_17 rfl 0 rfl (jq_at_0 at_X_0) ?_
    refine jq_getC (C := jq_cm2) Γ hlY at_X_0 fl_RX10_25 rfl rfl ly_now dX10_withdraw_18 (fun c5 hc6q => ?_)
    have hc6 := jq_cm2_com hc6q
    refine jq_iload_n Γ dX10_withdraw_21 rfl 1 rfl ?_
    refine jq_cwI (jq_virt (avs := [jI p1]) (st := []) Γ hlY rfl ml_RX10_311 rfl (at_com hc6) rfl rfl rfl rfl rfl dX10_withdraw_22) (fun r σ' h => ctX1_letFall hc6 h) (fun v7 s8 => ?_)
    refine jq_istore_n (L' := [(2, jI v7), (0, jR 0), (1, jI p1)]) Γ dX10_withdraw_25 rfl hnl rfl rfl ?_
    refine jq_iload_n Γ dX10_withdraw_26 rfl 0 rfl ?_
    refine jq_if_ne (tgt := 39) Γ dX10_withdraw_27 rfl ?_ ?_
    · refine jq_aload_n Γ dX10_withdraw_39 rfl 1 rfl (jq_at_0 at_X_0) ?_
      refine jq_iload_n Γ dX10_withdraw_40 rfl 0 rfl ?_
      refine jq_cwI (jq_virt (avs := [jI v7]) (st := []) Γ hlY rfl ml_RX10_161 rfl at_X_0 rfl rfl rfl rfl rfl dX10_withdraw_41) (fun r σ' h => ctX10_answer h) (fun v9 s10 => ?_)
      exact jq_ireturn Γ dX10_withdraw_44 (hK0 _)
    · refine jq_aload_n Γ dX10_withdraw_30 rfl 1 rfl (jq_at_0 at_X_0) ?_
      refine jq_bipush Γ dX10_withdraw_31 rfl ?_
      refine jq_cwI (jq_virt (avs := [jI 7]) (st := []) Γ hlY rfl ml_RX10_120 rfl at_X_0 rfl rfl rfl rfl rfl dX10_withdraw_33) (fun r σ' h => ctX10_refuse h) (fun v11 s12 => ?_)
      refine jq_goto Γ (tgt := 44) dX10_withdraw_36 rfl ?_
      exact jq_ireturn Γ dX10_withdraw_44 (hK0 _)
  · refine jq_aload_n Γ dX10_withdraw_11 rfl 0 rfl (jq_at_0 at_X_0) ?_
    refine jq_iconst Γ dX10_withdraw_12 rfl ?_
    refine jq_cwI (jq_virt (avs := [jI 1]) (st := []) Γ hlY rfl ml_RX10_120 rfl at_X_0 rfl rfl rfl rfl rfl dX10_withdraw_13) (fun r σ' h => ctX10_refuse h) (fun v13 s14 => ?_)
    exact jq_ireturn Γ dX10_withdraw_16 (hK0 _)


theorem dX10_insist_0 : decode cX10_insist 0 = .ok (.aload_n 0, 1) := by decide +kernel
theorem dX10_insist_1 : decode cX10_insist 1 = .ok (.getfield 25, 3) := by decide +kernel
theorem dX10_insist_4 : decode cX10_insist 4 = .ok (.iload_n 1, 1) := by decide +kernel
theorem dX10_insist_5 : decode cX10_insist 5 = .ok (.invokevirtual 221, 3) := by decide +kernel
theorem dX10_insist_8 : decode cX10_insist 8 = .ok (.ifCond .eq 13, 3) := by decide +kernel
theorem dX10_insist_11 : decode cX10_insist 11 = .ok (.iload_n 2, 1) := by decide +kernel
theorem dX10_insist_12 : decode cX10_insist 12 = .ok (.iconst 0, 1) := by decide +kernel
theorem dX10_insist_13 : decode cX10_insist 13 = .ok (.bipush 50, 2) := by decide +kernel
theorem dX10_insist_15 : decode cX10_insist 15 = .ok (.invokestatic 93, 3) := by decide +kernel
theorem dX10_insist_18 : decode cX10_insist 18 = .ok (.ifCond .ne 9, 3) := by decide +kernel
theorem dX10_insist_21 : decode cX10_insist 21 = .ok (.aload_n 0, 1) := by decide +kernel
theorem dX10_insist_22 : decode cX10_insist 22 = .ok (.iconst 1, 1) := by decide +kernel
theorem dX10_insist_23 : decode cX10_insist 23 = .ok (.invokevirtual 97, 3) := by decide +kernel
theorem dX10_insist_26 : decode cX10_insist 26 = .ok (.ireturn, 1) := by decide +kernel
theorem dX10_insist_27 : decode cX10_insist 27 = .ok (.aload_n 0, 1) := by decide +kernel
theorem dX10_insist_28 : decode cX10_insist 28 = .ok (.getfield 25, 3) := by decide +kernel
theorem dX10_insist_31 : decode cX10_insist 31 = .ok (.getfield 224, 3) := by decide +kernel
theorem dX10_insist_34 : decode cX10_insist 34 = .ok (.iload_n 1, 1) := by decide +kernel
theorem dX10_insist_35 : decode cX10_insist 35 = .ok (.iload_n 2, 1) := by decide +kernel
theorem dX10_insist_36 : decode cX10_insist 36 = .ok (.iastore, 1) := by decide +kernel
theorem dX10_insist_37 : decode cX10_insist 37 = .ok (.aload_n 0, 1) := by decide +kernel
theorem dX10_insist_38 : decode cX10_insist 38 = .ok (.invokevirtual 104, 3) := by decide +kernel
theorem dX10_insist_41 : decode cX10_insist 41 = .ok (.ireturn, 1) := by decide +kernel
set_option maxHeartbeats 4000000 in
set_option maxRecDepth 100000 in
theorem ctX10_insist {p1 : Int} {p2 : Int} {σ : jq_M} {res : Int} {σ' : jq_M}  (h : X10_insist p1 p2 σ = some (res, σ')) : jq_MC jq_zX yX10_insist cX10_insist 3 (some .boolean) 2 62 [jR 0, jI p1, jI p2] σ (some (jI res)) σ' := by
  refine jq_met (own := RX10) (L0 := [(0, jR 0), (1, jI p1), (2, jI p2)]) (by decide) rfl rfl rfl ?_
  intro X Γ hnl hlY hRT
  refine jq_use2 (P := fun r => jq_RT jq_zX X (some .boolean) (some (jI r.1)) r.2) ?_ h hRT
  intro K0 hK0
  unfold X10_insist
  have hj21_0 : ∀ (s5 : jq_M), jq_J (X10_insist_j21 s5) K0 (jq_V jq_zX X (jq_zN jq_zX) s5 21 [(0, jR 0)] []) := by
    intro s5
    unfold X10_insist_j21
    refine jq_aload_n Γ dX10_insist_21 rfl 0 rfl (jq_at_0 at_X_0) ?_
    refine jq_iconst Γ dX10_insist_22 rfl ?_
    refine jq_cwZ (jq_virt (avs := [jI 1]) (st := []) Γ hlY rfl ml_RX10_97 rfl at_X_0 rfl rfl rfl rfl rfl dX10_insist_23) rfl (fun r σ' h => ctX10_deny h) (fun v6 s7 hz8 => ?_)
    exact jq_zreturn Γ (hz8) dX10_insist_26 (hK0 _)
  refine jq_aload_n Γ dX10_insist_0 rfl 0 rfl (jq_at_0 at_X_0) ?_
  refine jq_getC (C := jq_cm2) Γ hlY at_X_0 fl_RX10_25 rfl rfl ly_now dX10_insist_1 (fun c1 hc2q => ?_)
  have hc2 := jq_cm2_com hc2q
  refine jq_iload_n Γ dX10_insist_4 rfl 1 rfl ?_
  refine jq_cpZ (jq_virt (avs := [jI p1]) (st := []) Γ hlY rfl ml_RX10_221 rfl (at_com hc2) rfl rfl rfl rfl rfl dX10_insist_5) rfl (fun r h => ctX1_isParty hc2 h) (fun v3 hz4 => ?_)
  refine jq_if_eq (tgt := 21) Γ dX10_insist_8 rfl ?_ ?_
  · refine jq_sub Γ (L' := [(0, jR 0)]) [0] rfl ?_
    exact hj21_0 σ
  · refine jq_iload_n Γ dX10_insist_11 rfl 2 rfl ?_
    refine jq_iconst Γ dX10_insist_12 rfl ?_
    refine jq_bipush Γ dX10_insist_13 rfl ?_
    refine jq_cpZ (jq_stat (avs := [jI p2, jI 0, jI 50]) (st := []) Γ hlY rfl ml_RX10_93 rfl rfl rfl rfl rfl dX10_insist_15) rfl (fun r h => ctX10_within h) (fun v9 hz10 => ?_)
    refine jq_if_ne (tgt := 27) Γ dX10_insist_18 rfl ?_ ?_
    · refine jq_aload_n Γ dX10_insist_27 rfl 0 rfl (jq_at_0 at_X_0) ?_
      refine jq_getC (C := jq_cm2) Γ hlY at_X_0 fl_RX10_25 rfl rfl ly_now dX10_insist_28 (fun c11 hc12q => ?_)
      have hc12 := jq_cm2_com hc12q
      refine jq_getR (v := (c11 + 2)) Γ hlY (at_com hc12) fl_RX10_224 rfl rfl (ly_X1_leasts hc12) dX10_insist_31 ?_
      refine jq_iload_n Γ dX10_insist_34 rfl 1 rfl ?_
      refine jq_iload_n Γ dX10_insist_35 rfl 2 rfl ?_
      refine jq_iast Γ (at_com_2 hc12) rfl dX10_insist_36 (fun s13 => ?_)
      refine jq_aload_n Γ dX10_insist_37 rfl 0 rfl (jq_at_0 at_X_0) ?_
      refine jq_cwZ (jq_virt (avs := []) (st := []) Γ hlY rfl ml_RX10_104 rfl at_X_0 rfl rfl rfl rfl rfl dX10_insist_38) rfl (fun r σ' h => ctX10_grant h) (fun v14 s15 hz16 => ?_)
      exact jq_zreturn Γ (hz16) dX10_insist_41 (hK0 _)
    · refine jq_sub Γ (L' := [(0, jR 0)]) [0] rfl ?_
      exact hj21_0 σ


theorem dX10_value_0 : decode cX10_value 0 = .ok (.aload_n 0, 1) := by decide +kernel
theorem dX10_value_1 : decode cX10_value 1 = .ok (.getfield 25, 3) := by decide +kernel
theorem dX10_value_4 : decode cX10_value 4 = .ok (.iload_n 1, 1) := by decide +kernel
theorem dX10_value_5 : decode cX10_value 5 = .ok (.invokevirtual 227, 3) := by decide +kernel
theorem dX10_value_8 : decode cX10_value 8 = .ok (.ifCond .eq 18, 3) := by decide +kernel
theorem dX10_value_11 : decode cX10_value 11 = .ok (.iload_n 2, 1) := by decide +kernel
theorem dX10_value_12 : decode cX10_value 12 = .ok (.ifCond .eq 14, 3) := by decide +kernel
theorem dX10_value_15 : decode cX10_value 15 = .ok (.iload_n 2, 1) := by decide +kernel
theorem dX10_value_16 : decode cX10_value 16 = .ok (.bipush (-9), 2) := by decide +kernel
theorem dX10_value_18 : decode cX10_value 18 = .ok (.bipush 9, 2) := by decide +kernel
theorem dX10_value_20 : decode cX10_value 20 = .ok (.invokestatic 93, 3) := by decide +kernel
theorem dX10_value_23 : decode cX10_value 23 = .ok (.ifCond .ne 9, 3) := by decide +kernel
theorem dX10_value_26 : decode cX10_value 26 = .ok (.aload_n 0, 1) := by decide +kernel
theorem dX10_value_27 : decode cX10_value 27 = .ok (.iconst 1, 1) := by decide +kernel
theorem dX10_value_28 : decode cX10_value 28 = .ok (.invokevirtual 97, 3) := by decide +kernel
theorem dX10_value_31 : decode cX10_value 31 = .ok (.ireturn, 1) := by decide +kernel
theorem dX10_value_32 : decode cX10_value 32 = .ok (.aload_n 0, 1) := by decide +kernel
theorem dX10_value_33 : decode cX10_value 33 = .ok (.getfield 25, 3) := by decide +kernel
theorem dX10_value_36 : decode cX10_value 36 = .ok (.getfield 239, 3) := by decide +kernel
theorem dX10_value_39 : decode cX10_value 39 = .ok (.iload_n 1, 1) := by decide +kernel
theorem dX10_value_40 : decode cX10_value 40 = .ok (.iload_n 2, 1) := by decide +kernel
theorem dX10_value_41 : decode cX10_value 41 = .ok (.iastore, 1) := by decide +kernel
theorem dX10_value_42 : decode cX10_value 42 = .ok (.aload_n 0, 1) := by decide +kernel
theorem dX10_value_43 : decode cX10_value 43 = .ok (.invokevirtual 104, 3) := by decide +kernel
theorem dX10_value_46 : decode cX10_value 46 = .ok (.ireturn, 1) := by decide +kernel
set_option maxHeartbeats 4000000 in
set_option maxRecDepth 100000 in
theorem ctX10_value {p1 : Int} {p2 : Int} {σ : jq_M} {res : Int} {σ' : jq_M}  (h : X10_value p1 p2 σ = some (res, σ')) : jq_MC jq_zX yX10_value cX10_value 3 (some .boolean) 2 62 [jR 0, jI p1, jI p2] σ (some (jI res)) σ' := by
  refine jq_met (own := RX10) (L0 := [(0, jR 0), (1, jI p1), (2, jI p2)]) (by decide) rfl rfl rfl ?_
  intro X Γ hnl hlY hRT
  refine jq_use2 (P := fun r => jq_RT jq_zX X (some .boolean) (some (jI r.1)) r.2) ?_ h hRT
  intro K0 hK0
  unfold X10_value
  have hj26_0 : ∀ (s5 : jq_M), jq_J (X10_value_j26 s5) K0 (jq_V jq_zX X (jq_zN jq_zX) s5 26 [(0, jR 0)] []) := by
    intro s5
    unfold X10_value_j26
    refine jq_aload_n Γ dX10_value_26 rfl 0 rfl (jq_at_0 at_X_0) ?_
    refine jq_iconst Γ dX10_value_27 rfl ?_
    refine jq_cwZ (jq_virt (avs := [jI 1]) (st := []) Γ hlY rfl ml_RX10_97 rfl at_X_0 rfl rfl rfl rfl rfl dX10_value_28) rfl (fun r σ' h => ctX10_deny h) (fun v6 s7 hz8 => ?_)
    exact jq_zreturn Γ (hz8) dX10_value_31 (hK0 _)
  refine jq_aload_n Γ dX10_value_0 rfl 0 rfl (jq_at_0 at_X_0) ?_
  refine jq_getC (C := jq_cm2) Γ hlY at_X_0 fl_RX10_25 rfl rfl ly_now dX10_value_1 (fun c1 hc2q => ?_)
  have hc2 := jq_cm2_com hc2q
  refine jq_iload_n Γ dX10_value_4 rfl 1 rfl ?_
  refine jq_cpZ (jq_virt (avs := [jI p1]) (st := []) Γ hlY rfl ml_RX10_227 rfl (at_com hc2) rfl rfl rfl rfl rfl dX10_value_5) rfl (fun r h => ctX1_isWish hc2 h) (fun v3 hz4 => ?_)
  refine jq_if_eq (tgt := 26) Γ dX10_value_8 rfl ?_ ?_
  · refine jq_sub Γ (L' := [(0, jR 0)]) [0] rfl ?_
    exact hj26_0 σ
  · refine jq_iload_n Γ dX10_value_11 rfl 2 rfl ?_
    refine jq_if_eq (tgt := 26) Γ dX10_value_12 rfl ?_ ?_
    · refine jq_sub Γ (L' := [(0, jR 0)]) [0] rfl ?_
      exact hj26_0 σ
    · refine jq_iload_n Γ dX10_value_15 rfl 2 rfl ?_
      refine jq_bipush Γ dX10_value_16 rfl ?_
      refine jq_bipush Γ dX10_value_18 rfl ?_
      refine jq_cpZ (jq_stat (avs := [jI p2, jI (-9), jI 9]) (st := []) Γ hlY rfl ml_RX10_93 rfl rfl rfl rfl rfl dX10_value_20) rfl (fun r h => ctX10_within h) (fun v9 hz10 => ?_)
      refine jq_if_ne (tgt := 32) Γ dX10_value_23 rfl ?_ ?_
      · refine jq_aload_n Γ dX10_value_32 rfl 0 rfl (jq_at_0 at_X_0) ?_
        refine jq_getC (C := jq_cm2) Γ hlY at_X_0 fl_RX10_25 rfl rfl ly_now dX10_value_33 (fun c11 hc12q => ?_)
        have hc12 := jq_cm2_com hc12q
        refine jq_getR (v := (c11 + 7)) Γ hlY (at_com hc12) fl_RX10_239 rfl rfl (ly_X1_worths hc12) dX10_value_36 ?_
        refine jq_iload_n Γ dX10_value_39 rfl 1 rfl ?_
        refine jq_iload_n Γ dX10_value_40 rfl 2 rfl ?_
        refine jq_iast Γ (at_com_7 hc12) rfl dX10_value_41 (fun s13 => ?_)
        refine jq_aload_n Γ dX10_value_42 rfl 0 rfl (jq_at_0 at_X_0) ?_
        refine jq_cwZ (jq_virt (avs := []) (st := []) Γ hlY rfl ml_RX10_104 rfl at_X_0 rfl rfl rfl rfl rfl dX10_value_43) rfl (fun r σ' h => ctX10_grant h) (fun v14 s15 hz16 => ?_)
        exact jq_zreturn Γ (hz16) dX10_value_46 (hK0 _)
      · refine jq_sub Γ (L' := [(0, jR 0)]) [0] rfl ?_
        exact hj26_0 σ


theorem dX1_isCorner_0 : decode cX1_isCorner 0 = .ok (.aload_n 0, 1) := by decide +kernel
theorem dX1_isCorner_1 : decode cX1_isCorner 1 = .ok (.getfield 63, 3) := by decide +kernel
theorem dX1_isCorner_4 : decode cX1_isCorner 4 = .ok (.iload_n 1, 1) := by decide +kernel
theorem dX1_isCorner_5 : decode cX1_isCorner 5 = .ok (.invokestatic 94, 3) := by decide +kernel
theorem dX1_isCorner_8 : decode cX1_isCorner 8 = .ok (.ireturn, 1) := by decide +kernel
set_option maxHeartbeats 4000000 in
set_option maxRecDepth 100000 in
theorem ctX1_isCorner {o : Int} {p1 : Int} {σ : jq_M} {res : Int} (ho : jq_com o) (h : X1_isCorner o p1 σ = some res) : jq_MC jq_zX yX1_isCorner cX1_isCorner 2 (some .boolean) 2 61 [jR o, jI p1] σ (some (jI res)) σ := by
  refine jq_met (own := RX1) (L0 := [(0, jR o), (1, jI p1)]) (by decide) rfl rfl rfl ?_
  intro X Γ hnl hlY hRT
  refine jq_use2 (P := fun r => jq_RT jq_zX X (some .boolean) (some (jI r)) σ) ?_ h hRT
  intro K0 hK0
  unfold X1_isCorner
  refine jq_aload_n Γ dX1_isCorner_0 rfl 0 rfl (jq_at_0 (at_com ho)) ?_
  refine jq_getI (J := 1) Γ (at_com ho) fl_RX1_63 rfl rfl dX1_isCorner_1 ?_
  refine jq_iload_n Γ dX1_isCorner_4 rfl 1 rfl ?_
  refine jq_cpZ (jq_nest (avs := [jI (σ o 1), jI p1]) (st := []) Γ hlY rfl ml_RX1_94 rfl rfl rfl rfl rfl dX1_isCorner_5) rfl (fun r h => ctX10_holds h) (fun v1 hz2 => ?_)
  exact jq_zreturn Γ (hz2) dX1_isCorner_8 (hK0 _)


theorem dX10_carve_0 : decode cX10_carve 0 = .ok (.aload_n 0, 1) := by decide +kernel
theorem dX10_carve_1 : decode cX10_carve 1 = .ok (.getfield 25, 3) := by decide +kernel
theorem dX10_carve_4 : decode cX10_carve 4 = .ok (.iload_n 1, 1) := by decide +kernel
theorem dX10_carve_5 : decode cX10_carve 5 = .ok (.invokevirtual 211, 3) := by decide +kernel
theorem dX10_carve_8 : decode cX10_carve 8 = .ok (.ifCond .ne 9, 3) := by decide +kernel
theorem dX10_carve_11 : decode cX10_carve 11 = .ok (.aload_n 0, 1) := by decide +kernel
theorem dX10_carve_12 : decode cX10_carve 12 = .ok (.iconst 1, 1) := by decide +kernel
theorem dX10_carve_13 : decode cX10_carve 13 = .ok (.invokevirtual 97, 3) := by decide +kernel
theorem dX10_carve_16 : decode cX10_carve 16 = .ok (.ireturn, 1) := by decide +kernel
theorem dX10_carve_17 : decode cX10_carve 17 = .ok (.aload_n 0, 1) := by decide +kernel
theorem dX10_carve_18 : decode cX10_carve 18 = .ok (.getfield 25, 3) := by decide +kernel
theorem dX10_carve_21 : decode cX10_carve 21 = .ok (.iload_n 1, 1) := by decide +kernel
theorem dX10_carve_22 : decode cX10_carve 22 = .ok (.invokevirtual 314, 3) := by decide +kernel
theorem dX10_carve_25 : decode cX10_carve 25 = .ok (.iload_n 2, 1) := by decide +kernel
theorem dX10_carve_26 : decode cX10_carve 26 = .ok (.if_icmp .ne 10, 3) := by decide +kernel
theorem dX10_carve_29 : decode cX10_carve 29 = .ok (.aload_n 0, 1) := by decide +kernel
theorem dX10_carve_30 : decode cX10_carve 30 = .ok (.bipush 7, 2) := by decide +kernel
theorem dX10_carve_32 : decode cX10_carve 32 = .ok (.invokevirtual 97, 3) := by decide +kernel
theorem dX10_carve_35 : decode cX10_carve 35 = .ok (.ireturn, 1) := by decide +kernel
theorem dX10_carve_36 : decode cX10_carve 36 = .ok (.aload_n 0, 1) := by decide +kernel
theorem dX10_carve_37 : decode cX10_carve 37 = .ok (.getfield 25, 3) := by decide +kernel
theorem dX10_carve_40 : decode cX10_carve 40 = .ok (.dup, 1) := by decide +kernel
theorem dX10_carve_41 : decode cX10_carve 41 = .ok (.getfield 191, 3) := by decide +kernel
theorem dX10_carve_44 : decode cX10_carve 44 = .ok (.iconst 1, 1) := by decide +kernel
theorem dX10_carve_45 : decode cX10_carve 45 = .ok (.iload_n 1, 1) := by decide +kernel
theorem dX10_carve_46 : decode cX10_carve 46 = .ok (.ishl, 1) := by decide +kernel
theorem dX10_carve_47 : decode cX10_carve 47 = .ok (.ixor, 1) := by decide +kernel
theorem dX10_carve_48 : decode cX10_carve 48 = .ok (.putfield 191, 3) := by decide +kernel
theorem dX10_carve_51 : decode cX10_carve 51 = .ok (.aload_n 0, 1) := by decide +kernel
theorem dX10_carve_52 : decode cX10_carve 52 = .ok (.invokevirtual 104, 3) := by decide +kernel
theorem dX10_carve_55 : decode cX10_carve 55 = .ok (.ireturn, 1) := by decide +kernel
set_option maxHeartbeats 4000000 in
set_option maxRecDepth 100000 in
theorem ctX10_carve {p1 : Int} {p2 : Int} {σ : jq_M} {res : Int} {σ' : jq_M}  (h : X10_carve p1 p2 σ = some (res, σ')) : jq_MC jq_zX yX10_carve cX10_carve 3 (some .boolean) 3 82 [jR 0, jI p1, jI p2] σ (some (jI res)) σ' := by
  refine jq_met (own := RX10) (L0 := [(0, jR 0), (1, jI p1), (2, jI p2)]) (by decide) rfl rfl rfl ?_
  intro X Γ hnl hlY hRT
  refine jq_use2 (P := fun r => jq_RT jq_zX X (some .boolean) (some (jI r.1)) r.2) ?_ h hRT
  intro K0 hK0
  unfold X10_carve
  refine jq_aload_n Γ dX10_carve_0 rfl 0 rfl (jq_at_0 at_X_0) ?_
  refine jq_getC (C := jq_cm2) Γ hlY at_X_0 fl_RX10_25 rfl rfl ly_now dX10_carve_1 (fun c1 hc2q => ?_)
  have hc2 := jq_cm2_com hc2q
  refine jq_iload_n Γ dX10_carve_4 rfl 1 rfl ?_
  refine jq_cpZ (jq_virt (avs := [jI p1]) (st := []) Γ hlY rfl ml_RX10_211 rfl (at_com hc2) rfl rfl rfl rfl rfl dX10_carve_5) rfl (fun r h => ctX1_isPlace hc2 h) (fun v3 hz4 => ?_)
  refine jq_if_ne (tgt := 17) Γ dX10_carve_8 rfl ?_ ?_
  · refine jq_aload_n Γ dX10_carve_17 rfl 0 rfl (jq_at_0 at_X_0) ?_
    refine jq_getC (C := jq_cm2) Γ hlY at_X_0 fl_RX10_25 rfl rfl ly_now dX10_carve_18 (fun c5 hc6q => ?_)
    have hc6 := jq_cm2_com hc6q
    refine jq_iload_n Γ dX10_carve_21 rfl 1 rfl ?_
    refine jq_cpZ (jq_virt (avs := [jI p1]) (st := []) Γ hlY rfl ml_RX10_314 rfl (at_com hc6) rfl rfl rfl rfl rfl dX10_carve_22) rfl (fun r h => ctX1_isCorner hc6 h) (fun v7 hz8 => ?_)
    refine jq_iload_n Γ dX10_carve_25 rfl 2 rfl ?_
    refine jq_icmp_ne (tgt := 36) Γ dX10_carve_26 rfl ?_ ?_
    · refine jq_aload_n Γ dX10_carve_36 rfl 0 rfl (jq_at_0 at_X_0) ?_
      refine jq_getC (C := jq_cm2) Γ hlY at_X_0 fl_RX10_25 rfl rfl ly_now dX10_carve_37 (fun c9 hc10q => ?_)
      have hc10 := jq_cm2_com hc10q
      refine jq_dup Γ dX10_carve_40 rfl ?_
      refine jq_getI (J := 1) Γ (at_com hc10) fl_RX10_191 rfl rfl dX10_carve_41 ?_
      refine jq_iconst Γ dX10_carve_44 rfl ?_
      refine jq_iload_n Γ dX10_carve_45 rfl 1 rfl ?_
      refine jq_ishl Γ dX10_carve_46 ?_
      refine jq_ixor Γ dX10_carve_47 ?_
      refine jq_putI Γ (at_com hc10) fl_RX10_191 rfl rfl dX10_carve_48 (fun s11 => ?_)
      refine jq_aload_n Γ dX10_carve_51 rfl 0 rfl (jq_at_0 at_X_0) ?_
      refine jq_cwZ (jq_virt (avs := []) (st := []) Γ hlY rfl ml_RX10_104 rfl at_X_0 rfl rfl rfl rfl rfl dX10_carve_52) rfl (fun r σ' h => ctX10_grant h) (fun v12 s13 hz14 => ?_)
      exact jq_zreturn Γ (hz14) dX10_carve_55 (hK0 _)
    · refine jq_aload_n Γ dX10_carve_29 rfl 0 rfl (jq_at_0 at_X_0) ?_
      refine jq_bipush Γ dX10_carve_30 rfl ?_
      refine jq_cwZ (jq_virt (avs := [jI 7]) (st := []) Γ hlY rfl ml_RX10_97 rfl at_X_0 rfl rfl rfl rfl rfl dX10_carve_32) rfl (fun r σ' h => ctX10_deny h) (fun v15 s16 hz17 => ?_)
      exact jq_zreturn Γ (hz17) dX10_carve_35 (hK0 _)
  · refine jq_aload_n Γ dX10_carve_11 rfl 0 rfl (jq_at_0 at_X_0) ?_
    refine jq_iconst Γ dX10_carve_12 rfl ?_
    refine jq_cwZ (jq_virt (avs := [jI 1]) (st := []) Γ hlY rfl ml_RX10_97 rfl at_X_0 rfl rfl rfl rfl rfl dX10_carve_13) rfl (fun r σ' h => ctX10_deny h) (fun v18 s19 hz20 => ?_)
    exact jq_zreturn Γ (hz20) dX10_carve_16 (hK0 _)


theorem dX8_count_0 : decode cX8_count 0 = .ok (.aload_n 1, 1) := by decide +kernel
theorem dX8_count_1 : decode cX8_count 1 = .ok (.getfield 24, 3) := by decide +kernel
theorem dX8_count_4 : decode cX8_count 4 = .ok (.ifCond .ne 5, 3) := by decide +kernel
theorem dX8_count_7 : decode cX8_count 7 = .ok (.iconst 0, 1) := by decide +kernel
theorem dX8_count_8 : decode cX8_count 8 = .ok (.ireturn, 1) := by decide +kernel
theorem dX8_count_9 : decode cX8_count 9 = .ok (.iconst 1, 1) := by decide +kernel
theorem dX8_count_10 : decode cX8_count 10 = .ok (.istore_n 2, 1) := by decide +kernel
theorem dX8_count_11 : decode cX8_count 11 = .ok (.iconst 0, 1) := by decide +kernel
theorem dX8_count_12 : decode cX8_count 12 = .ok (.istore_n 3, 1) := by decide +kernel
theorem dX8_count_13 : decode cX8_count 13 = .ok (.iload_n 3, 1) := by decide +kernel
theorem dX8_count_14 : decode cX8_count 14 = .ok (.aload_n 1, 1) := by decide +kernel
theorem dX8_count_15 : decode cX8_count 15 = .ok (.getfield 30, 3) := by decide +kernel
theorem dX8_count_18 : decode cX8_count 18 = .ok (.if_icmp .ge 18, 3) := by decide +kernel
theorem dX8_count_21 : decode cX8_count 21 = .ok (.iload_n 2, 1) := by decide +kernel
theorem dX8_count_22 : decode cX8_count 22 = .ok (.aload_n 1, 1) := by decide +kernel
theorem dX8_count_23 : decode cX8_count 23 = .ok (.getfield 24, 3) := by decide +kernel
theorem dX8_count_26 : decode cX8_count 26 = .ok (.iload_n 3, 1) := by decide +kernel
theorem dX8_count_27 : decode cX8_count 27 = .ok (.isub, 1) := by decide +kernel
theorem dX8_count_28 : decode cX8_count 28 = .ok (.imul, 1) := by decide +kernel
theorem dX8_count_29 : decode cX8_count 29 = .ok (.istore_n 2, 1) := by decide +kernel
theorem dX8_count_30 : decode cX8_count 30 = .ok (.iinc 3 1, 3) := by decide +kernel
theorem dX8_count_33 : decode cX8_count 33 = .ok (.goto (-20), 3) := by decide +kernel
theorem dX8_count_36 : decode cX8_count 36 = .ok (.iload_n 2, 1) := by decide +kernel
theorem dX8_count_37 : decode cX8_count 37 = .ok (.ireturn, 1) := by decide +kernel
set_option maxHeartbeats 4000000 in
set_option maxRecDepth 100000 in
theorem ctX8_count {p1 : Int} {σ : jq_M} {res : Int} (hp1 : jq_com p1) (h : X8_count p1 σ = some res) : jq_MC jq_zX yX8_count cX8_count 4 (some .int) 1 40 [jR 52, jR p1] σ (some (jI res)) σ := by
  refine jq_met (own := RX8) (L0 := [(0, jR 52), (1, jR p1)]) (by decide) rfl rfl rfl ?_
  intro X Γ hnl hlY hRT
  refine jq_use2 (P := fun r => jq_RT jq_zX X (some .int) (some (jI r)) σ) ?_ h hRT
  intro K0 hK0
  unfold X8_count
  refine jq_aload_n Γ dX8_count_0 rfl 1 rfl (jq_at_0 (at_com hp1)) ?_
  refine jq_getI (J := 0) Γ (at_com hp1) fl_RX8_24 rfl rfl dX8_count_1 ?_
  refine jq_if_ne (tgt := 9) Γ dX8_count_4 rfl ?_ ?_
  · refine jq_iconst Γ dX8_count_9 rfl ?_
    refine jq_istore_n (L' := [(2, jI 1), (0, jR 52), (1, jR p1)]) Γ dX8_count_10 rfl hnl rfl rfl ?_
    refine jq_iconst Γ dX8_count_11 rfl ?_
    refine jq_istore_n (L' := [(3, jI 0), (2, jI 1), (0, jR 52), (1, jR p1)]) Γ dX8_count_12 rfl hnl rfl rfl ?_
    refine jq_sub Γ (L' := [(1, jR p1), (2, jI 1), (3, jI 0)]) [3, 1, 0] rfl ?_
    refine jq_loop2 (C := fun (t1 : Int × Int) => jq_V jq_zX X (jq_zN jq_zX) σ 13 [(1, jR p1), (2, jI t1.1), (3, jI t1.2)] []) (KX := fun (e4 : Int) => jq_V jq_zX X (jq_zN jq_zX) σ 36 [(2, jI e4)] []) ?_ ?_ (1, 0)
    · intro K13_t1 hCt1 hXt1 t1
      unfold X8_count_b13
      refine jq_iload_n Γ dX8_count_13 rfl 2 rfl ?_
      refine jq_aload_n Γ dX8_count_14 rfl 0 rfl (jq_at_0 (at_com hp1)) ?_
      refine jq_getI (J := 2) Γ (at_com hp1) fl_RX8_30 rfl rfl dX8_count_15 ?_
      refine jq_icmp_ge (tgt := 36) Γ dX8_count_18 rfl ?_ ?_
      · refine jq_sub Γ (L' := [(2, jI t1.1)]) [1] rfl ?_
        exact jq_done (hXt1 t1.1)
      · refine jq_iload_n Γ dX8_count_21 rfl 1 rfl ?_
        refine jq_aload_n Γ dX8_count_22 rfl 0 rfl (jq_at_0 (at_com hp1)) ?_
        refine jq_getI (J := 0) Γ (at_com hp1) fl_RX8_24 rfl rfl dX8_count_23 ?_
        refine jq_iload_n Γ dX8_count_26 rfl 2 rfl ?_
        refine jq_isub Γ dX8_count_27 ?_
        refine jq_imul Γ dX8_count_28 ?_
        refine jq_nmI (fun v2 => ?_)
        refine jq_istore_n (L' := [(2, jI v2), (1, jR p1), (3, jI t1.2)]) Γ dX8_count_29 rfl hnl rfl rfl ?_
        refine jq_iincN (L' := fun v3 => [(3, jI v3), (2, jI v2), (1, jR p1)]) Γ dX8_count_30 2 rfl hnl rfl (fun _ => rfl) (fun v3 => ?_)
        refine jq_goto Γ (tgt := 13) dX8_count_33 rfl ?_
        refine jq_sub Γ (L' := [(1, jR p1), (2, jI v2), (3, jI v3)]) [2, 1, 0] rfl ?_
        exact jq_done (hCt1 (v2, v3))
    · intro e4
      refine jq_iload_n Γ dX8_count_36 rfl 0 rfl ?_
      exact jq_ireturn Γ dX8_count_37 (hK0 _)
  · refine jq_iconst Γ dX8_count_7 rfl ?_
    exact jq_ireturn Γ dX8_count_8 (hK0 _)


theorem dX10_seatings_0 : decode cX10_seatings 0 = .ok (.aload_n 0, 1) := by decide +kernel
theorem dX10_seatings_1 : decode cX10_seatings 1 = .ok (.aload_n 0, 1) := by decide +kernel
theorem dX10_seatings_2 : decode cX10_seatings 2 = .ok (.getfield 46, 3) := by decide +kernel
theorem dX10_seatings_5 : decode cX10_seatings 5 = .ok (.aload_n 0, 1) := by decide +kernel
theorem dX10_seatings_6 : decode cX10_seatings 6 = .ok (.getfield 25, 3) := by decide +kernel
theorem dX10_seatings_9 : decode cX10_seatings 9 = .ok (.invokevirtual 317, 3) := by decide +kernel
theorem dX10_seatings_12 : decode cX10_seatings 12 = .ok (.invokevirtual 161, 3) := by decide +kernel
theorem dX10_seatings_15 : decode cX10_seatings 15 = .ok (.ireturn, 1) := by decide +kernel
set_option maxHeartbeats 4000000 in
set_option maxRecDepth 100000 in
theorem ctX10_seatings  {σ : jq_M} {res : Int} {σ' : jq_M}  (h : X10_seatings σ = some (res, σ')) : jq_MC jq_zX yX10_seatings cX10_seatings 1 (some .int) 2 63 [jR 0] σ (some (jI res)) σ' := by
  refine jq_met (own := RX10) (L0 := [(0, jR 0)]) (by decide) rfl rfl rfl ?_
  intro X Γ hnl hlY hRT
  refine jq_use2 (P := fun r => jq_RT jq_zX X (some .int) (some (jI r.1)) r.2) ?_ h hRT
  intro K0 hK0
  unfold X10_seatings
  refine jq_aload_n Γ dX10_seatings_0 rfl 0 rfl (jq_at_0 at_X_0) ?_
  refine jq_aload_n Γ dX10_seatings_1 rfl 0 rfl (jq_at_0 at_X_0) ?_
  refine jq_getR (v := 52) Γ hlY at_X_0 fl_RX10_46 rfl rfl ly_X10_survey dX10_seatings_2 ?_
  refine jq_aload_n Γ dX10_seatings_5 rfl 0 rfl (jq_at_0 at_X_0) ?_
  refine jq_getC (C := jq_cm2) Γ hlY at_X_0 fl_RX10_25 rfl rfl ly_now dX10_seatings_6 (fun c1 hc2q => ?_)
  have hc2 := jq_cm2_com hc2q
  refine jq_cpI (jq_virt (avs := [jR c1]) (st := [jR 0]) Γ hlY rfl ml_RX10_317 rfl at_X_52 rfl rfl rfl rfl rfl dX10_seatings_9) (fun r h => ctX8_count hc2 h) (fun v3 => ?_)
  refine jq_cwI (jq_virt (avs := [jI v3]) (st := []) Γ hlY rfl ml_RX10_161 rfl at_X_0 rfl rfl rfl rfl rfl dX10_seatings_12) (fun r σ' h => ctX10_answer h) (fun v4 s5 => ?_)
  exact jq_ireturn Γ dX10_seatings_15 (hK0 _)


theorem dX8_freeFrom_0 : decode cX8_freeFrom 0 = .ok (.iload_n 0, 1) := by decide +kernel
theorem dX8_freeFrom_1 : decode cX8_freeFrom 1 = .ok (.istore_n 2, 1) := by decide +kernel
theorem dX8_freeFrom_2 : decode cX8_freeFrom 2 = .ok (.iload_n 2, 1) := by decide +kernel
theorem dX8_freeFrom_3 : decode cX8_freeFrom 3 = .ok (.bipush 6, 2) := by decide +kernel
theorem dX8_freeFrom_5 : decode cX8_freeFrom 5 = .ok (.if_icmp .ge 17, 3) := by decide +kernel
theorem dX8_freeFrom_8 : decode cX8_freeFrom 8 = .ok (.iload_n 1, 1) := by decide +kernel
theorem dX8_freeFrom_9 : decode cX8_freeFrom 9 = .ok (.iload_n 2, 1) := by decide +kernel
theorem dX8_freeFrom_10 : decode cX8_freeFrom 10 = .ok (.invokestatic 45, 3) := by decide +kernel
theorem dX8_freeFrom_13 : decode cX8_freeFrom 13 = .ok (.ifCond .eq 9, 3) := by decide +kernel
theorem dX8_freeFrom_16 : decode cX8_freeFrom 16 = .ok (.iinc 2 1, 3) := by decide +kernel
theorem dX8_freeFrom_19 : decode cX8_freeFrom 19 = .ok (.goto (-17), 3) := by decide +kernel
theorem dX8_freeFrom_22 : decode cX8_freeFrom 22 = .ok (.iload_n 2, 1) := by decide +kernel
theorem dX8_freeFrom_23 : decode cX8_freeFrom 23 = .ok (.ireturn, 1) := by decide +kernel
set_option maxHeartbeats 4000000 in
set_option maxRecDepth 100000 in
theorem ctX8_freeFrom {p0 : Int} {p1 : Int} {σ : jq_M} {res : Int}  (h : X8_freeFrom p0 p1 σ = some res) : jq_MC jq_zX yX8_freeFrom cX8_freeFrom 3 (some .int) 2 61 [jI p0, jI p1] σ (some (jI res)) σ := by
  refine jq_met (own := RX8) (L0 := [(0, jI p0), (1, jI p1)]) (by decide) rfl rfl rfl ?_
  intro X Γ hnl hlY hRT
  refine jq_use2 (P := fun r => jq_RT jq_zX X (some .int) (some (jI r)) σ) ?_ h hRT
  intro K0 hK0
  unfold X8_freeFrom
  refine jq_iload_n Γ dX8_freeFrom_0 rfl 0 rfl ?_
  refine jq_istore_n (L' := [(2, jI p0), (0, jI p0), (1, jI p1)]) Γ dX8_freeFrom_1 rfl hnl rfl rfl ?_
  refine jq_sub Γ (L' := [(1, jI p1), (2, jI p0)]) [2, 0] rfl ?_
  refine jq_loop2 (C := fun (t1 : Int) => jq_V jq_zX X (jq_zN jq_zX) σ 2 [(1, jI p1), (2, jI t1)] []) (KX := fun (e5 : Int) => jq_V jq_zX X (jq_zN jq_zX) σ 22 [(2, jI e5)] []) ?_ ?_ p0
  · intro K2_t1 hCt1 hXt1 t1
    unfold X8_freeFrom_b2
    refine jq_iload_n Γ dX8_freeFrom_2 rfl 1 rfl ?_
    refine jq_bipush Γ dX8_freeFrom_3 rfl ?_
    refine jq_icmp_ge (tgt := 22) Γ dX8_freeFrom_5 rfl ?_ ?_
    · refine jq_sub Γ (L' := [(2, jI t1)]) [1] rfl ?_
      exact jq_done (hXt1 t1)
    · refine jq_iload_n Γ dX8_freeFrom_8 rfl 0 rfl ?_
      refine jq_iload_n Γ dX8_freeFrom_9 rfl 1 rfl ?_
      refine jq_cpZ (jq_nest (avs := [jI p1, jI t1]) (st := []) Γ hlY rfl ml_RX8_45 rfl rfl rfl rfl rfl dX8_freeFrom_10) rfl (fun r h => ctX10_holds h) (fun v2 hz3 => ?_)
      refine jq_if_eq (tgt := 22) Γ dX8_freeFrom_13 rfl ?_ ?_
      · refine jq_sub Γ (L' := [(2, jI t1)]) [1] rfl ?_
        exact jq_done (hXt1 t1)
      · refine jq_iincN (L' := fun v4 => [(2, jI v4), (1, jI p1)]) Γ dX8_freeFrom_16 1 rfl hnl rfl (fun _ => rfl) (fun v4 => ?_)
        refine jq_goto Γ (tgt := 2) dX8_freeFrom_19 rfl ?_
        refine jq_sub Γ (L' := [(1, jI p1), (2, jI v4)]) [1, 0] rfl ?_
        exact jq_done (hCt1 v4)
  · intro e5
    refine jq_iload_n Γ dX8_freeFrom_22 rfl 0 rfl ?_
    exact jq_ireturn Γ dX8_freeFrom_23 (hK0 _)


theorem dX8_fillFrom_0 : decode cX8_fillFrom 0 = .ok (.iload_n 3, 1) := by decide +kernel
theorem dX8_fillFrom_1 : decode cX8_fillFrom 1 = .ok (.istore 4, 2) := by decide +kernel
theorem dX8_fillFrom_3 : decode cX8_fillFrom 3 = .ok (.iload_n 2, 1) := by decide +kernel
theorem dX8_fillFrom_4 : decode cX8_fillFrom 4 = .ok (.istore 5, 2) := by decide +kernel
theorem dX8_fillFrom_6 : decode cX8_fillFrom 6 = .ok (.iload 5, 2) := by decide +kernel
theorem dX8_fillFrom_8 : decode cX8_fillFrom 8 = .ok (.aload_n 1, 1) := by decide +kernel
theorem dX8_fillFrom_9 : decode cX8_fillFrom 9 = .ok (.getfield 30, 3) := by decide +kernel
theorem dX8_fillFrom_12 : decode cX8_fillFrom 12 = .ok (.if_icmp .ge 36, 3) := by decide +kernel
theorem dX8_fillFrom_15 : decode cX8_fillFrom 15 = .ok (.aload_n 0, 1) := by decide +kernel
theorem dX8_fillFrom_16 : decode cX8_fillFrom 16 = .ok (.getfield 9, 3) := by decide +kernel
theorem dX8_fillFrom_19 : decode cX8_fillFrom 19 = .ok (.iload 5, 2) := by decide +kernel
theorem dX8_fillFrom_21 : decode cX8_fillFrom 21 = .ok (.iconst 0, 1) := by decide +kernel
theorem dX8_fillFrom_22 : decode cX8_fillFrom 22 = .ok (.iload 4, 2) := by decide +kernel
theorem dX8_fillFrom_24 : decode cX8_fillFrom 24 = .ok (.invokestatic 41, 3) := by decide +kernel
theorem dX8_fillFrom_27 : decode cX8_fillFrom 27 = .ok (.iastore, 1) := by decide +kernel
theorem dX8_fillFrom_28 : decode cX8_fillFrom 28 = .ok (.iload 4, 2) := by decide +kernel
theorem dX8_fillFrom_30 : decode cX8_fillFrom 30 = .ok (.iconst 1, 1) := by decide +kernel
theorem dX8_fillFrom_31 : decode cX8_fillFrom 31 = .ok (.aload_n 0, 1) := by decide +kernel
theorem dX8_fillFrom_32 : decode cX8_fillFrom 32 = .ok (.getfield 9, 3) := by decide +kernel
theorem dX8_fillFrom_35 : decode cX8_fillFrom 35 = .ok (.iload 5, 2) := by decide +kernel
theorem dX8_fillFrom_37 : decode cX8_fillFrom 37 = .ok (.iaload, 1) := by decide +kernel
theorem dX8_fillFrom_38 : decode cX8_fillFrom 38 = .ok (.ishl, 1) := by decide +kernel
theorem dX8_fillFrom_39 : decode cX8_fillFrom 39 = .ok (.ior, 1) := by decide +kernel
theorem dX8_fillFrom_40 : decode cX8_fillFrom 40 = .ok (.istore 4, 2) := by decide +kernel
theorem dX8_fillFrom_42 : decode cX8_fillFrom 42 = .ok (.iinc 5 1, 3) := by decide +kernel
theorem dX8_fillFrom_45 : decode cX8_fillFrom 45 = .ok (.goto (-39), 3) := by decide +kernel
theorem dX8_fillFrom_48 : decode cX8_fillFrom 48 = .ok (.return_, 1) := by decide +kernel
set_option maxHeartbeats 4000000 in
set_option maxRecDepth 100000 in
theorem ctX8_fillFrom {p1 : Int} {p2 : Int} {p3 : Int} {σ : jq_M} {σ' : jq_M} (hp1 : jq_com p1) (h : X8_fillFrom p1 p2 p3 σ = some σ') : jq_MC jq_zX yX8_fillFrom cX8_fillFrom 6 none 3 83 [jR 52, jR p1, jI p2, jI p3] σ none σ' := by
  refine jq_met (own := RX8) (L0 := [(0, jR 52), (1, jR p1), (2, jI p2), (3, jI p3)]) (by decide) rfl rfl rfl ?_
  intro X Γ hnl hlY hRT
  refine jq_use2 (P := fun r => jq_RT jq_zX X none none r) ?_ h hRT
  intro K0 hK0
  unfold X8_fillFrom
  refine jq_iload_n Γ dX8_fillFrom_0 rfl 3 rfl ?_
  refine jq_istore (L' := [(4, jI p3), (0, jR 52), (1, jR p1), (2, jI p2), (3, jI p3)]) Γ dX8_fillFrom_1 hnl rfl rfl ?_
  refine jq_iload_n Γ dX8_fillFrom_3 rfl 3 rfl ?_
  refine jq_istore (L' := [(5, jI p2), (4, jI p3), (0, jR 52), (1, jR p1), (2, jI p2), (3, jI p3)]) Γ dX8_fillFrom_4 hnl rfl rfl ?_
  refine jq_sub Γ (L' := [(0, jR 52), (1, jR p1), (4, jI p3), (5, jI p2)]) [2, 3, 1, 0] rfl ?_
  refine jq_loop2 (C := fun (t1 : Int × Int × jq_M) => jq_V jq_zX X (jq_zN jq_zX) t1.2.2 6 [(0, jR 52), (1, jR p1), (4, jI t1.1), (5, jI t1.2.1)] []) (KX := fun (e7 : jq_M) => jq_V jq_zX X (jq_zN jq_zX) e7 48 [] []) ?_ ?_ (p3, p2, σ)
  · intro K6_t1 hCt1 hXt1 t1
    unfold X8_fillFrom_b6
    refine jq_iload Γ dX8_fillFrom_6 3 rfl ?_
    refine jq_aload_n Γ dX8_fillFrom_8 rfl 1 rfl (jq_at_0 (at_com hp1)) ?_
    refine jq_getI (J := 2) Γ (at_com hp1) fl_RX8_30 rfl rfl dX8_fillFrom_9 ?_
    refine jq_icmp_ge (tgt := 48) Γ dX8_fillFrom_12 rfl ?_ ?_
    · refine jq_sub Γ (L' := []) [] rfl ?_
      exact jq_done (hXt1 t1.2.2)
    · refine jq_aload_n Γ dX8_fillFrom_15 rfl 0 rfl (jq_at_0 at_X_52) ?_
      refine jq_getR (v := 53) Γ hlY at_X_52 fl_RX8_9 rfl rfl ly_X8_row dX8_fillFrom_16 ?_
      refine jq_iload Γ dX8_fillFrom_19 3 rfl ?_
      refine jq_iconst Γ dX8_fillFrom_21 rfl ?_
      refine jq_iload Γ dX8_fillFrom_22 2 rfl ?_
      refine jq_cpI (jq_stat (avs := [jI 0, jI t1.1]) (st := [jI t1.2.1, jR 53]) Γ hlY rfl ml_RX8_41 rfl rfl rfl rfl rfl dX8_fillFrom_24) (fun r h => ctX8_freeFrom h) (fun v2 => ?_)
      refine jq_iast Γ at_X_53 rfl dX8_fillFrom_27 (fun s3 => ?_)
      refine jq_iload Γ dX8_fillFrom_28 2 rfl ?_
      refine jq_iconst Γ dX8_fillFrom_30 rfl ?_
      refine jq_aload_n Γ dX8_fillFrom_31 rfl 0 rfl (jq_at_0 at_X_52) ?_
      refine jq_getR (v := 53) Γ hlY at_X_52 fl_RX8_9 rfl rfl ly_X8_row dX8_fillFrom_32 ?_
      refine jq_iload Γ dX8_fillFrom_35 3 rfl ?_
      refine jq_iald Γ at_X_53 rfl dX8_fillFrom_37 (fun v4 => ?_)
      refine jq_ishl Γ dX8_fillFrom_38 ?_
      refine jq_ior Γ dX8_fillFrom_39 ?_
      refine jq_nmI (fun v5 => ?_)
      refine jq_istore (L' := [(4, jI v5), (0, jR 52), (1, jR p1), (5, jI t1.2.1)]) Γ dX8_fillFrom_40 hnl rfl rfl ?_
      refine jq_iincN (L' := fun v6 => [(5, jI v6), (4, jI v5), (0, jR 52), (1, jR p1)]) Γ dX8_fillFrom_42 3 rfl hnl rfl (fun _ => rfl) (fun v6 => ?_)
      refine jq_goto Γ (tgt := 6) dX8_fillFrom_45 rfl ?_
      refine jq_sub Γ (L' := [(0, jR 52), (1, jR p1), (4, jI v5), (5, jI v6)]) [2, 3, 1, 0] rfl ?_
      exact jq_done (hCt1 (v5, v6, s3))
  · intro e7
    exact jq_vreturn Γ dX8_fillFrom_48 (hK0 _)


theorem dX8_begin_0 : decode cX8_begin 0 = .ok (.aload_n 0, 1) := by decide +kernel
theorem dX8_begin_1 : decode cX8_begin 1 = .ok (.aload_n 1, 1) := by decide +kernel
theorem dX8_begin_2 : decode cX8_begin 2 = .ok (.iconst 0, 1) := by decide +kernel
theorem dX8_begin_3 : decode cX8_begin 3 = .ok (.iconst 0, 1) := by decide +kernel
theorem dX8_begin_4 : decode cX8_begin 4 = .ok (.invokevirtual 33, 3) := by decide +kernel
theorem dX8_begin_7 : decode cX8_begin 7 = .ok (.aload_n 0, 1) := by decide +kernel
theorem dX8_begin_8 : decode cX8_begin 8 = .ok (.aload_n 1, 1) := by decide +kernel
theorem dX8_begin_9 : decode cX8_begin 9 = .ok (.invokevirtual 37, 3) := by decide +kernel
theorem dX8_begin_12 : decode cX8_begin 12 = .ok (.ireturn, 1) := by decide +kernel
set_option maxHeartbeats 4000000 in
set_option maxRecDepth 100000 in
theorem ctX8_begin {p1 : Int} {σ : jq_M} {res : Int} {σ' : jq_M} (hp1 : jq_com p1) (h : X8_begin p1 σ = some (res, σ')) : jq_MC jq_zX yX8_begin cX8_begin 2 (some .int) 4 108 [jR 52, jR p1] σ (some (jI res)) σ' := by
  refine jq_met (own := RX8) (L0 := [(0, jR 52), (1, jR p1)]) (by decide) rfl rfl rfl ?_
  intro X Γ hnl hlY hRT
  refine jq_use2 (P := fun r => jq_RT jq_zX X (some .int) (some (jI r.1)) r.2) ?_ h hRT
  intro K0 hK0
  unfold X8_begin
  refine jq_aload_n Γ dX8_begin_0 rfl 0 rfl (jq_at_0 at_X_52) ?_
  refine jq_aload_n Γ dX8_begin_1 rfl 1 rfl (jq_at_0 (at_com hp1)) ?_
  refine jq_iconst Γ dX8_begin_2 rfl ?_
  refine jq_iconst Γ dX8_begin_3 rfl ?_
  refine jq_cwV (jq_virt (avs := [jR p1, jI 0, jI 0]) (st := []) Γ hlY rfl ml_RX8_33 rfl at_X_52 rfl rfl rfl rfl rfl dX8_begin_4) (fun σ' h => ctX8_fillFrom hp1 h) (fun s1 => ?_)
  refine jq_aload_n Γ dX8_begin_7 rfl 0 rfl (jq_at_0 at_X_52) ?_
  refine jq_aload_n Γ dX8_begin_8 rfl 1 rfl (jq_at_0 (at_com hp1)) ?_
  refine jq_cpI (jq_virt (avs := [jR p1]) (st := []) Γ hlY rfl ml_RX8_37 rfl at_X_52 rfl rfl rfl rfl rfl dX8_begin_9) (fun r h => ctX8_count hp1 h) (fun v2 => ?_)
  exact jq_ireturn Γ dX8_begin_12 (hK0 _)


theorem dX1_allParties_0 : decode cX1_allParties 0 = .ok (.iconst 1, 1) := by decide +kernel
theorem dX1_allParties_1 : decode cX1_allParties 1 = .ok (.aload_n 0, 1) := by decide +kernel
theorem dX1_allParties_2 : decode cX1_allParties 2 = .ok (.getfield 66, 3) := by decide +kernel
theorem dX1_allParties_5 : decode cX1_allParties 5 = .ok (.ishl, 1) := by decide +kernel
theorem dX1_allParties_6 : decode cX1_allParties 6 = .ok (.iconst 1, 1) := by decide +kernel
theorem dX1_allParties_7 : decode cX1_allParties 7 = .ok (.isub, 1) := by decide +kernel
theorem dX1_allParties_8 : decode cX1_allParties 8 = .ok (.ireturn, 1) := by decide +kernel
set_option maxHeartbeats 4000000 in
set_option maxRecDepth 100000 in
theorem ctX1_allParties {o : Int} {σ : jq_M} {res : Int} (ho : jq_com o) (h : X1_allParties o σ = some res) : jq_MC jq_zX yX1_allParties cX1_allParties 1 (some .int) 1 40 [jR o] σ (some (jI res)) σ := by
  refine jq_met (own := RX1) (L0 := [(0, jR o)]) (by decide) rfl rfl rfl ?_
  intro X Γ hnl hlY hRT
  refine jq_use2 (P := fun r => jq_RT jq_zX X (some .int) (some (jI r)) σ) ?_ h hRT
  intro K0 hK0
  unfold X1_allParties
  refine jq_iconst Γ dX1_allParties_0 rfl ?_
  refine jq_aload_n Γ dX1_allParties_1 rfl 0 rfl (jq_at_0 (at_com ho)) ?_
  refine jq_getI (J := 2) Γ (at_com ho) fl_RX1_66 rfl rfl dX1_allParties_2 ?_
  refine jq_ishl Γ dX1_allParties_5 ?_
  refine jq_iconst Γ dX1_allParties_6 rfl ?_
  refine jq_isub Γ dX1_allParties_7 ?_
  exact jq_ireturn Γ dX1_allParties_8 (hK0 _)


theorem dX8_goOn_0 : decode cX8_goOn 0 = .ok (.iconst 0, 1) := by decide +kernel
theorem dX8_goOn_1 : decode cX8_goOn 1 = .ok (.istore_n 2, 1) := by decide +kernel
theorem dX8_goOn_2 : decode cX8_goOn 2 = .ok (.iconst 0, 1) := by decide +kernel
theorem dX8_goOn_3 : decode cX8_goOn 3 = .ok (.istore_n 3, 1) := by decide +kernel
theorem dX8_goOn_4 : decode cX8_goOn 4 = .ok (.iload_n 3, 1) := by decide +kernel
theorem dX8_goOn_5 : decode cX8_goOn 5 = .ok (.aload_n 1, 1) := by decide +kernel
theorem dX8_goOn_6 : decode cX8_goOn 6 = .ok (.getfield 30, 3) := by decide +kernel
theorem dX8_goOn_9 : decode cX8_goOn 9 = .ok (.if_icmp .ge 20, 3) := by decide +kernel
theorem dX8_goOn_12 : decode cX8_goOn 12 = .ok (.iload_n 2, 1) := by decide +kernel
theorem dX8_goOn_13 : decode cX8_goOn 13 = .ok (.iconst 1, 1) := by decide +kernel
theorem dX8_goOn_14 : decode cX8_goOn 14 = .ok (.aload_n 0, 1) := by decide +kernel
theorem dX8_goOn_15 : decode cX8_goOn 15 = .ok (.getfield 9, 3) := by decide +kernel
theorem dX8_goOn_18 : decode cX8_goOn 18 = .ok (.iload_n 3, 1) := by decide +kernel
theorem dX8_goOn_19 : decode cX8_goOn 19 = .ok (.iaload, 1) := by decide +kernel
theorem dX8_goOn_20 : decode cX8_goOn 20 = .ok (.ishl, 1) := by decide +kernel
theorem dX8_goOn_21 : decode cX8_goOn 21 = .ok (.ior, 1) := by decide +kernel
theorem dX8_goOn_22 : decode cX8_goOn 22 = .ok (.istore_n 2, 1) := by decide +kernel
theorem dX8_goOn_23 : decode cX8_goOn 23 = .ok (.iinc 3 1, 3) := by decide +kernel
theorem dX8_goOn_26 : decode cX8_goOn 26 = .ok (.goto (-22), 3) := by decide +kernel
theorem dX8_goOn_29 : decode cX8_goOn 29 = .ok (.aload_n 1, 1) := by decide +kernel
theorem dX8_goOn_30 : decode cX8_goOn 30 = .ok (.getfield 30, 3) := by decide +kernel
theorem dX8_goOn_33 : decode cX8_goOn 33 = .ok (.iconst 1, 1) := by decide +kernel
theorem dX8_goOn_34 : decode cX8_goOn 34 = .ok (.isub, 1) := by decide +kernel
theorem dX8_goOn_35 : decode cX8_goOn 35 = .ok (.istore_n 3, 1) := by decide +kernel
theorem dX8_goOn_36 : decode cX8_goOn 36 = .ok (.iload_n 3, 1) := by decide +kernel
theorem dX8_goOn_37 : decode cX8_goOn 37 = .ok (.ifCond .lt 68, 3) := by decide +kernel
theorem dX8_goOn_40 : decode cX8_goOn 40 = .ok (.iload_n 2, 1) := by decide +kernel
theorem dX8_goOn_41 : decode cX8_goOn 41 = .ok (.iconst 1, 1) := by decide +kernel
theorem dX8_goOn_42 : decode cX8_goOn 42 = .ok (.aload_n 0, 1) := by decide +kernel
theorem dX8_goOn_43 : decode cX8_goOn 43 = .ok (.getfield 9, 3) := by decide +kernel
theorem dX8_goOn_46 : decode cX8_goOn 46 = .ok (.iload_n 3, 1) := by decide +kernel
theorem dX8_goOn_47 : decode cX8_goOn 47 = .ok (.iaload, 1) := by decide +kernel
theorem dX8_goOn_48 : decode cX8_goOn 48 = .ok (.ishl, 1) := by decide +kernel
theorem dX8_goOn_49 : decode cX8_goOn 49 = .ok (.iconst (-1), 1) := by decide +kernel
theorem dX8_goOn_50 : decode cX8_goOn 50 = .ok (.ixor, 1) := by decide +kernel
theorem dX8_goOn_51 : decode cX8_goOn 51 = .ok (.iand, 1) := by decide +kernel
theorem dX8_goOn_52 : decode cX8_goOn 52 = .ok (.istore_n 2, 1) := by decide +kernel
theorem dX8_goOn_53 : decode cX8_goOn 53 = .ok (.aload_n 0, 1) := by decide +kernel
theorem dX8_goOn_54 : decode cX8_goOn 54 = .ok (.getfield 9, 3) := by decide +kernel
theorem dX8_goOn_57 : decode cX8_goOn 57 = .ok (.iload_n 3, 1) := by decide +kernel
theorem dX8_goOn_58 : decode cX8_goOn 58 = .ok (.iaload, 1) := by decide +kernel
theorem dX8_goOn_59 : decode cX8_goOn 59 = .ok (.iconst 1, 1) := by decide +kernel
theorem dX8_goOn_60 : decode cX8_goOn 60 = .ok (.iadd, 1) := by decide +kernel
theorem dX8_goOn_61 : decode cX8_goOn 61 = .ok (.iload_n 2, 1) := by decide +kernel
theorem dX8_goOn_62 : decode cX8_goOn 62 = .ok (.invokestatic 41, 3) := by decide +kernel
theorem dX8_goOn_65 : decode cX8_goOn 65 = .ok (.istore 4, 2) := by decide +kernel
theorem dX8_goOn_67 : decode cX8_goOn 67 = .ok (.iload 4, 2) := by decide +kernel
theorem dX8_goOn_69 : decode cX8_goOn 69 = .ok (.aload_n 1, 1) := by decide +kernel
theorem dX8_goOn_70 : decode cX8_goOn 70 = .ok (.getfield 24, 3) := by decide +kernel
theorem dX8_goOn_73 : decode cX8_goOn 73 = .ok (.if_icmp .ge 26, 3) := by decide +kernel
theorem dX8_goOn_76 : decode cX8_goOn 76 = .ok (.aload_n 0, 1) := by decide +kernel
theorem dX8_goOn_77 : decode cX8_goOn 77 = .ok (.getfield 9, 3) := by decide +kernel
theorem dX8_goOn_80 : decode cX8_goOn 80 = .ok (.iload_n 3, 1) := by decide +kernel
theorem dX8_goOn_81 : decode cX8_goOn 81 = .ok (.iload 4, 2) := by decide +kernel
theorem dX8_goOn_83 : decode cX8_goOn 83 = .ok (.iastore, 1) := by decide +kernel
theorem dX8_goOn_84 : decode cX8_goOn 84 = .ok (.aload_n 0, 1) := by decide +kernel
theorem dX8_goOn_85 : decode cX8_goOn 85 = .ok (.aload_n 1, 1) := by decide +kernel
theorem dX8_goOn_86 : decode cX8_goOn 86 = .ok (.iload_n 3, 1) := by decide +kernel
theorem dX8_goOn_87 : decode cX8_goOn 87 = .ok (.iconst 1, 1) := by decide +kernel
theorem dX8_goOn_88 : decode cX8_goOn 88 = .ok (.iadd, 1) := by decide +kernel
theorem dX8_goOn_89 : decode cX8_goOn 89 = .ok (.iload_n 2, 1) := by decide +kernel
theorem dX8_goOn_90 : decode cX8_goOn 90 = .ok (.iconst 1, 1) := by decide +kernel
theorem dX8_goOn_91 : decode cX8_goOn 91 = .ok (.iload 4, 2) := by decide +kernel
theorem dX8_goOn_93 : decode cX8_goOn 93 = .ok (.ishl, 1) := by decide +kernel
theorem dX8_goOn_94 : decode cX8_goOn 94 = .ok (.ior, 1) := by decide +kernel
theorem dX8_goOn_95 : decode cX8_goOn 95 = .ok (.invokevirtual 33, 3) := by decide +kernel
theorem dX8_goOn_98 : decode cX8_goOn 98 = .ok (.return_, 1) := by decide +kernel
theorem dX8_goOn_99 : decode cX8_goOn 99 = .ok (.iinc 3 (-1), 3) := by decide +kernel
theorem dX8_goOn_102 : decode cX8_goOn 102 = .ok (.goto (-66), 3) := by decide +kernel
theorem dX8_goOn_105 : decode cX8_goOn 105 = .ok (.return_, 1) := by decide +kernel
set_option maxHeartbeats 4000000 in
set_option maxRecDepth 100000 in
theorem ctX8_goOn {p1 : Int} {σ : jq_M} {σ' : jq_M} (hp1 : jq_com p1) (h : X8_goOn p1 σ = some σ') : jq_MC jq_zX yX8_goOn cX8_goOn 5 none 4 108 [jR 52, jR p1] σ none σ' := by
  refine jq_met (own := RX8) (L0 := [(0, jR 52), (1, jR p1)]) (by decide) rfl rfl rfl ?_
  intro X Γ hnl hlY hRT
  refine jq_use2 (P := fun r => jq_RT jq_zX X none none r) ?_ h hRT
  intro K0 hK0
  unfold X8_goOn
  refine jq_iconst Γ dX8_goOn_0 rfl ?_
  refine jq_istore_n (L' := [(2, jI 0), (0, jR 52), (1, jR p1)]) Γ dX8_goOn_1 rfl hnl rfl rfl ?_
  refine jq_iconst Γ dX8_goOn_2 rfl ?_
  refine jq_istore_n (L' := [(3, jI 0), (2, jI 0), (0, jR 52), (1, jR p1)]) Γ dX8_goOn_3 rfl hnl rfl rfl ?_
  refine jq_sub Γ (L' := [(0, jR 52), (1, jR p1), (2, jI 0), (3, jI 0)]) [2, 3, 1, 0] rfl ?_
  refine jq_loop2 (C := fun (t1 : Int × Int) => jq_V jq_zX X (jq_zN jq_zX) σ 4 [(0, jR 52), (1, jR p1), (2, jI t1.1), (3, jI t1.2)] []) (KX := fun (e5 : Int) => jq_V jq_zX X (jq_zN jq_zX) σ 29 [(0, jR 52), (1, jR p1), (2, jI e5)] []) ?_ ?_ (0, 0)
  · intro K4_t1 hCt1 hXt1 t1
    unfold X8_goOn_b4
    refine jq_iload_n Γ dX8_goOn_4 rfl 3 rfl ?_
    refine jq_aload_n Γ dX8_goOn_5 rfl 1 rfl (jq_at_0 (at_com hp1)) ?_
    refine jq_getI (J := 2) Γ (at_com hp1) fl_RX8_30 rfl rfl dX8_goOn_6 ?_
    refine jq_icmp_ge (tgt := 29) Γ dX8_goOn_9 rfl ?_ ?_
    · refine jq_sub Γ (L' := [(0, jR 52), (1, jR p1), (2, jI t1.1)]) [0, 1, 2] rfl ?_
      exact jq_done (hXt1 t1.1)
    · refine jq_iload_n Γ dX8_goOn_12 rfl 2 rfl ?_
      refine jq_iconst Γ dX8_goOn_13 rfl ?_
      refine jq_aload_n Γ dX8_goOn_14 rfl 0 rfl (jq_at_0 at_X_52) ?_
      refine jq_getR (v := 53) Γ hlY at_X_52 fl_RX8_9 rfl rfl ly_X8_row dX8_goOn_15 ?_
      refine jq_iload_n Γ dX8_goOn_18 rfl 3 rfl ?_
      refine jq_iald Γ at_X_53 rfl dX8_goOn_19 (fun v2 => ?_)
      refine jq_ishl Γ dX8_goOn_20 ?_
      refine jq_ior Γ dX8_goOn_21 ?_
      refine jq_nmI (fun v3 => ?_)
      refine jq_istore_n (L' := [(2, jI v3), (0, jR 52), (1, jR p1), (3, jI t1.2)]) Γ dX8_goOn_22 rfl hnl rfl rfl ?_
      refine jq_iincN (L' := fun v4 => [(3, jI v4), (2, jI v3), (0, jR 52), (1, jR p1)]) Γ dX8_goOn_23 3 rfl hnl rfl (fun _ => rfl) (fun v4 => ?_)
      refine jq_goto Γ (tgt := 4) dX8_goOn_26 rfl ?_
      refine jq_sub Γ (L' := [(0, jR 52), (1, jR p1), (2, jI v3), (3, jI v4)]) [2, 3, 1, 0] rfl ?_
      exact jq_done (hCt1 (v3, v4))
  · intro e5
    refine jq_aload_n Γ dX8_goOn_29 rfl 1 rfl (jq_at_0 (at_com hp1)) ?_
    refine jq_getI (J := 2) Γ (at_com hp1) fl_RX8_30 rfl rfl dX8_goOn_30 ?_
    refine jq_iconst Γ dX8_goOn_33 rfl ?_
    refine jq_isub Γ dX8_goOn_34 ?_
    refine jq_nmI (fun v6 => ?_)
    refine jq_istore_n (L' := [(3, jI v6), (0, jR 52), (1, jR p1), (2, jI e5)]) Γ dX8_goOn_35 rfl hnl rfl rfl ?_
    refine jq_sub Γ (L' := [(0, jR 52), (1, jR p1), (2, jI e5), (3, jI v6)]) [1, 2, 3, 0] rfl ?_
    refine jq_loop2 (C := fun (t7 : Int × Int) => jq_V jq_zX X (jq_zN jq_zX) σ 36 [(0, jR 52), (1, jR p1), (2, jI t7.1), (3, jI t7.2)] []) (KX := Sum.elim (fun (e13 : Int × Int × Int) => jq_V jq_zX X (jq_zN jq_zX) σ 76 [(0, jR 52), (1, jR p1), (2, jI e13.1), (3, jI e13.2.1), (4, jI e13.2.2)] []) (fun (e16 : Unit) => jq_V jq_zX X (jq_zN jq_zX) σ 105 [] [])) ?_ ?_ (e5, v6)
    · intro K36_t7 hCt7 hXt7 t7
      unfold X8_goOn_b36
      refine jq_iload_n Γ dX8_goOn_36 rfl 3 rfl ?_
      refine jq_if_lt (tgt := 105) Γ dX8_goOn_37 rfl ?_ ?_
      · refine jq_sub Γ (L' := []) [] rfl ?_
        exact jq_done (hXt7 (.inr ()))
      · refine jq_iload_n Γ dX8_goOn_40 rfl 2 rfl ?_
        refine jq_iconst Γ dX8_goOn_41 rfl ?_
        refine jq_aload_n Γ dX8_goOn_42 rfl 0 rfl (jq_at_0 at_X_52) ?_
        refine jq_getR (v := 53) Γ hlY at_X_52 fl_RX8_9 rfl rfl ly_X8_row dX8_goOn_43 ?_
        refine jq_iload_n Γ dX8_goOn_46 rfl 3 rfl ?_
        refine jq_iald Γ at_X_53 rfl dX8_goOn_47 (fun v8 => ?_)
        refine jq_ishl Γ dX8_goOn_48 ?_
        refine jq_iconst Γ dX8_goOn_49 rfl ?_
        refine jq_ixor Γ dX8_goOn_50 ?_
        refine jq_iand Γ dX8_goOn_51 ?_
        refine jq_nmI (fun v9 => ?_)
        refine jq_istore_n (L' := [(2, jI v9), (0, jR 52), (1, jR p1), (3, jI t7.2)]) Γ dX8_goOn_52 rfl hnl rfl rfl ?_
        refine jq_aload_n Γ dX8_goOn_53 rfl 1 rfl (jq_at_0 at_X_52) ?_
        refine jq_getR (v := 53) Γ hlY at_X_52 fl_RX8_9 rfl rfl ly_X8_row dX8_goOn_54 ?_
        refine jq_iload_n Γ dX8_goOn_57 rfl 3 rfl ?_
        refine jq_iald Γ at_X_53 rfl dX8_goOn_58 (fun v10 => ?_)
        refine jq_iconst Γ dX8_goOn_59 rfl ?_
        refine jq_iadd Γ dX8_goOn_60 ?_
        refine jq_iload_n Γ dX8_goOn_61 rfl 0 rfl ?_
        refine jq_cpI (jq_stat (avs := [jI (jq_w (v10 + 1)), jI v9]) (st := []) Γ hlY rfl ml_RX8_41 rfl rfl rfl rfl rfl dX8_goOn_62) (fun r h => ctX8_freeFrom h) (fun v11 => ?_)
        refine jq_istore (L' := [(4, jI v11), (2, jI v9), (0, jR 52), (1, jR p1), (3, jI t7.2)]) Γ dX8_goOn_65 hnl rfl rfl ?_
        refine jq_iload Γ dX8_goOn_67 0 rfl ?_
        refine jq_aload_n Γ dX8_goOn_69 rfl 3 rfl (jq_at_0 (at_com hp1)) ?_
        refine jq_getI (J := 0) Γ (at_com hp1) fl_RX8_24 rfl rfl dX8_goOn_70 ?_
        refine jq_icmp_ge (tgt := 99) Γ dX8_goOn_73 rfl ?_ ?_
        · refine jq_iincN (L' := fun v12 => [(3, jI v12), (4, jI v11), (2, jI v9), (0, jR 52), (1, jR p1)]) Γ dX8_goOn_99 4 rfl hnl rfl (fun _ => rfl) (fun v12 => ?_)
          refine jq_goto Γ (tgt := 36) dX8_goOn_102 rfl ?_
          refine jq_sub Γ (L' := [(0, jR 52), (1, jR p1), (2, jI v9), (3, jI v12)]) [3, 4, 2, 0] rfl ?_
          exact jq_done (hCt7 (v9, v12))
        · refine jq_sub Γ (L' := [(0, jR 52), (1, jR p1), (2, jI v9), (3, jI t7.2), (4, jI v11)]) [2, 3, 1, 4, 0] rfl ?_
          exact jq_done (hXt7 (.inl (v9, t7.2, v11)))
    · refine jq_elim ?_ ?_
      · intro e13
        refine jq_aload_n Γ dX8_goOn_76 rfl 0 rfl (jq_at_0 at_X_52) ?_
        refine jq_getR (v := 53) Γ hlY at_X_52 fl_RX8_9 rfl rfl ly_X8_row dX8_goOn_77 ?_
        refine jq_iload_n Γ dX8_goOn_80 rfl 3 rfl ?_
        refine jq_iload Γ dX8_goOn_81 4 rfl ?_
        refine jq_iast Γ at_X_53 rfl dX8_goOn_83 (fun s14 => ?_)
        refine jq_aload_n Γ dX8_goOn_84 rfl 0 rfl (jq_at_0 at_X_52) ?_
        refine jq_aload_n Γ dX8_goOn_85 rfl 1 rfl (jq_at_0 (at_com hp1)) ?_
        refine jq_iload_n Γ dX8_goOn_86 rfl 3 rfl ?_
        refine jq_iconst Γ dX8_goOn_87 rfl ?_
        refine jq_iadd Γ dX8_goOn_88 ?_
        refine jq_iload_n Γ dX8_goOn_89 rfl 2 rfl ?_
        refine jq_iconst Γ dX8_goOn_90 rfl ?_
        refine jq_iload Γ dX8_goOn_91 4 rfl ?_
        refine jq_ishl Γ dX8_goOn_93 ?_
        refine jq_ior Γ dX8_goOn_94 ?_
        refine jq_cwV (jq_virt (avs := [jR p1, jI (jq_w (e13.2.1 + 1)), jI (jq_or e13.1 (jq_shl 1 e13.2.2))]) (st := []) Γ hlY rfl ml_RX8_33 rfl at_X_52 rfl rfl rfl rfl rfl dX8_goOn_95) (fun σ' h => ctX8_fillFrom hp1 h) (fun s15 => ?_)
        exact jq_vreturn Γ dX8_goOn_98 (hK0 _)
      · intro e16
        exact jq_vreturn Γ dX8_goOn_105 (hK0 _)


theorem dX8_countGood_0 : decode cX8_countGood 0 = .ok (.aload_n 0, 1) := by decide +kernel
theorem dX8_countGood_1 : decode cX8_countGood 1 = .ok (.aload_n 1, 1) := by decide +kernel
theorem dX8_countGood_2 : decode cX8_countGood 2 = .ok (.invokevirtual 49, 3) := by decide +kernel
theorem dX8_countGood_5 : decode cX8_countGood 5 = .ok (.istore_n 2, 1) := by decide +kernel
theorem dX8_countGood_6 : decode cX8_countGood 6 = .ok (.iconst 0, 1) := by decide +kernel
theorem dX8_countGood_7 : decode cX8_countGood 7 = .ok (.istore_n 3, 1) := by decide +kernel
theorem dX8_countGood_8 : decode cX8_countGood 8 = .ok (.iconst 0, 1) := by decide +kernel
theorem dX8_countGood_9 : decode cX8_countGood 9 = .ok (.istore 4, 2) := by decide +kernel
theorem dX8_countGood_11 : decode cX8_countGood 11 = .ok (.iload 4, 2) := by decide +kernel
theorem dX8_countGood_13 : decode cX8_countGood 13 = .ok (.iload_n 2, 1) := by decide +kernel
theorem dX8_countGood_14 : decode cX8_countGood 14 = .ok (.if_icmp .ge 32, 3) := by decide +kernel
theorem dX8_countGood_17 : decode cX8_countGood 17 = .ok (.aload_n 1, 1) := by decide +kernel
theorem dX8_countGood_18 : decode cX8_countGood 18 = .ok (.aload_n 0, 1) := by decide +kernel
theorem dX8_countGood_19 : decode cX8_countGood 19 = .ok (.getfield 9, 3) := by decide +kernel
theorem dX8_countGood_22 : decode cX8_countGood 22 = .ok (.invokevirtual 52, 3) := by decide +kernel
theorem dX8_countGood_25 : decode cX8_countGood 25 = .ok (.aload_n 1, 1) := by decide +kernel
theorem dX8_countGood_26 : decode cX8_countGood 26 = .ok (.invokevirtual 56, 3) := by decide +kernel
theorem dX8_countGood_29 : decode cX8_countGood 29 = .ok (.if_icmp .ne 6, 3) := by decide +kernel
theorem dX8_countGood_32 : decode cX8_countGood 32 = .ok (.iinc 3 1, 3) := by decide +kernel
theorem dX8_countGood_35 : decode cX8_countGood 35 = .ok (.aload_n 0, 1) := by decide +kernel
theorem dX8_countGood_36 : decode cX8_countGood 36 = .ok (.aload_n 1, 1) := by decide +kernel
theorem dX8_countGood_37 : decode cX8_countGood 37 = .ok (.invokevirtual 60, 3) := by decide +kernel
theorem dX8_countGood_40 : decode cX8_countGood 40 = .ok (.iinc 4 1, 3) := by decide +kernel
theorem dX8_countGood_43 : decode cX8_countGood 43 = .ok (.goto (-32), 3) := by decide +kernel
theorem dX8_countGood_46 : decode cX8_countGood 46 = .ok (.iload_n 3, 1) := by decide +kernel
theorem dX8_countGood_47 : decode cX8_countGood 47 = .ok (.ireturn, 1) := by decide +kernel
set_option maxHeartbeats 4000000 in
set_option maxRecDepth 100000 in
theorem ctX8_countGood {p1 : Int} {σ : jq_M} {res : Int} {σ' : jq_M} (hp1 : jq_com p1) (h : X8_countGood p1 σ = some (res, σ')) : jq_MC jq_zX yX8_countGood cX8_countGood 5 (some .int) 5 132 [jR 52, jR p1] σ (some (jI res)) σ' := by
  refine jq_met (own := RX8) (L0 := [(0, jR 52), (1, jR p1)]) (by decide) rfl rfl rfl ?_
  intro X Γ hnl hlY hRT
  refine jq_use2 (P := fun r => jq_RT jq_zX X (some .int) (some (jI r.1)) r.2) ?_ h hRT
  intro K0 hK0
  unfold X8_countGood
  refine jq_aload_n Γ dX8_countGood_0 rfl 0 rfl (jq_at_0 at_X_52) ?_
  refine jq_aload_n Γ dX8_countGood_1 rfl 1 rfl (jq_at_0 (at_com hp1)) ?_
  refine jq_cwI (jq_virt (avs := [jR p1]) (st := []) Γ hlY rfl ml_RX8_49 rfl at_X_52 rfl rfl rfl rfl rfl dX8_countGood_2) (fun r σ' h => ctX8_begin hp1 h) (fun v1 s2 => ?_)
  refine jq_istore_n (L' := [(2, jI v1), (0, jR 52), (1, jR p1)]) Γ dX8_countGood_5 rfl hnl rfl rfl ?_
  refine jq_iconst Γ dX8_countGood_6 rfl ?_
  refine jq_istore_n (L' := [(3, jI 0), (2, jI v1), (0, jR 52), (1, jR p1)]) Γ dX8_countGood_7 rfl hnl rfl rfl ?_
  refine jq_iconst Γ dX8_countGood_8 rfl ?_
  refine jq_istore (L' := [(4, jI 0), (3, jI 0), (2, jI v1), (0, jR 52), (1, jR p1)]) Γ dX8_countGood_9 hnl rfl rfl ?_
  refine jq_sub Γ (L' := [(0, jR 52), (1, jR p1), (2, jI v1), (3, jI 0), (4, jI 0)]) [3, 4, 2, 1, 0] rfl ?_
  refine jq_loop2 (C := fun (t3 : Int × Int × jq_M) => jq_V jq_zX X (jq_zN jq_zX) t3.2.2 11 [(0, jR 52), (1, jR p1), (2, jI v1), (3, jI t3.1), (4, jI t3.2.1)] []) (KX := fun (e13 : Int × jq_M) => jq_V jq_zX X (jq_zN jq_zX) e13.2 46 [(3, jI e13.1)] []) ?_ ?_ (0, 0, s2)
  · intro K11_t3 hCt3 hXt3 t3
    unfold X8_countGood_b11
    have hj35_1009 : ∀ (j7 : Int) (j8 : Int) (s9 : jq_M), jq_J (X8_countGood_j35 p1 v1 j7 j8 s9) K11_t3 (jq_V jq_zX X (jq_zN jq_zX) s9 35 [(0, jR 52), (1, jR p1), (2, jI v1), (3, jI j7), (4, jI j8)] []) := by
      intro j7 j8 s9
      unfold X8_countGood_j35
      refine jq_aload_n Γ dX8_countGood_35 rfl 0 rfl (jq_at_0 at_X_52) ?_
      refine jq_aload_n Γ dX8_countGood_36 rfl 1 rfl (jq_at_0 (at_com hp1)) ?_
      refine jq_cwV (jq_virt (avs := [jR p1]) (st := []) Γ hlY rfl ml_RX8_60 rfl at_X_52 rfl rfl rfl rfl rfl dX8_countGood_37) (fun σ' h => ctX8_goOn hp1 h) (fun s10 => ?_)
      refine jq_iincN (L' := fun v11 => [(4, jI v11), (0, jR 52), (1, jR p1), (2, jI v1), (3, jI j7)]) Γ dX8_countGood_40 4 rfl hnl rfl (fun _ => rfl) (fun v11 => ?_)
      refine jq_goto Γ (tgt := 11) dX8_countGood_43 rfl ?_
      refine jq_sub Γ (L' := [(0, jR 52), (1, jR p1), (2, jI v1), (3, jI j7), (4, jI v11)]) [1, 2, 3, 4, 0] rfl ?_
      exact jq_done (hCt3 (j7, v11, s10))
    refine jq_iload Γ dX8_countGood_11 4 rfl ?_
    refine jq_iload_n Γ dX8_countGood_13 rfl 2 rfl ?_
    refine jq_icmp_ge (tgt := 46) Γ dX8_countGood_14 rfl ?_ ?_
    · refine jq_sub Γ (L' := [(3, jI t3.1)]) [3] rfl ?_
      exact jq_done (hXt3 (t3.1, t3.2.2))
    · refine jq_aload_n Γ dX8_countGood_17 rfl 1 rfl (jq_at_0 (at_com hp1)) ?_
      refine jq_aload_n Γ dX8_countGood_18 rfl 0 rfl (jq_at_0 at_X_52) ?_
      refine jq_getR (v := 53) Γ hlY at_X_52 fl_RX8_9 rfl rfl ly_X8_row dX8_countGood_19 ?_
      refine jq_cwI (jq_virt (avs := [jR 53]) (st := []) Γ hlY rfl ml_RX8_52 rfl (at_com hp1) rfl rfl rfl rfl rfl dX8_countGood_22) (fun r σ' h => ctX1_signersOf hp1 row_53 h) (fun v4 s5 => ?_)
      refine jq_aload_n Γ dX8_countGood_25 rfl 1 rfl (jq_at_0 (at_com hp1)) ?_
      refine jq_cpI (jq_virt (avs := []) (st := [jI v4]) Γ hlY rfl ml_RX8_56 rfl (at_com hp1) rfl rfl rfl rfl rfl dX8_countGood_26) (fun r h => ctX1_allParties hp1 h) (fun v6 => ?_)
      refine jq_icmp_ne (tgt := 35) Γ dX8_countGood_29 rfl ?_ ?_
      · exact hj35_1009 t3.1 t3.2.1 s5
      · refine jq_iincN (L' := fun v12 => [(3, jI v12), (0, jR 52), (1, jR p1), (2, jI v1), (4, jI t3.2.1)]) Γ dX8_countGood_32 3 rfl hnl rfl (fun _ => rfl) (fun v12 => ?_)
        refine jq_sub Γ (L' := [(0, jR 52), (1, jR p1), (2, jI v1), (3, jI v12), (4, jI t3.2.1)]) [1, 2, 3, 0, 4] rfl ?_
        exact hj35_1009 v12 t3.2.1 s5
  · intro e13
    refine jq_iload_n Γ dX8_countGood_46 rfl 0 rfl ?_
    exact jq_ireturn Γ dX8_countGood_47 (hK0 _)


theorem dX10_good_0 : decode cX10_good 0 = .ok (.aload_n 0, 1) := by decide +kernel
theorem dX10_good_1 : decode cX10_good 1 = .ok (.aload_n 0, 1) := by decide +kernel
theorem dX10_good_2 : decode cX10_good 2 = .ok (.getfield 46, 3) := by decide +kernel
theorem dX10_good_5 : decode cX10_good 5 = .ok (.aload_n 0, 1) := by decide +kernel
theorem dX10_good_6 : decode cX10_good 6 = .ok (.getfield 25, 3) := by decide +kernel
theorem dX10_good_9 : decode cX10_good 9 = .ok (.invokevirtual 321, 3) := by decide +kernel
theorem dX10_good_12 : decode cX10_good 12 = .ok (.invokevirtual 161, 3) := by decide +kernel
theorem dX10_good_15 : decode cX10_good 15 = .ok (.ireturn, 1) := by decide +kernel
set_option maxHeartbeats 4000000 in
set_option maxRecDepth 100000 in
theorem ctX10_good  {σ : jq_M} {res : Int} {σ' : jq_M}  (h : X10_good σ = some (res, σ')) : jq_MC jq_zX yX10_good cX10_good 1 (some .int) 6 156 [jR 0] σ (some (jI res)) σ' := by
  refine jq_met (own := RX10) (L0 := [(0, jR 0)]) (by decide) rfl rfl rfl ?_
  intro X Γ hnl hlY hRT
  refine jq_use2 (P := fun r => jq_RT jq_zX X (some .int) (some (jI r.1)) r.2) ?_ h hRT
  intro K0 hK0
  unfold X10_good
  refine jq_aload_n Γ dX10_good_0 rfl 0 rfl (jq_at_0 at_X_0) ?_
  refine jq_aload_n Γ dX10_good_1 rfl 0 rfl (jq_at_0 at_X_0) ?_
  refine jq_getR (v := 52) Γ hlY at_X_0 fl_RX10_46 rfl rfl ly_X10_survey dX10_good_2 ?_
  refine jq_aload_n Γ dX10_good_5 rfl 0 rfl (jq_at_0 at_X_0) ?_
  refine jq_getC (C := jq_cm2) Γ hlY at_X_0 fl_RX10_25 rfl rfl ly_now dX10_good_6 (fun c1 hc2q => ?_)
  have hc2 := jq_cm2_com hc2q
  refine jq_cwI (jq_virt (avs := [jR c1]) (st := [jR 0]) Γ hlY rfl ml_RX10_321 rfl at_X_52 rfl rfl rfl rfl rfl dX10_good_9) (fun r σ' h => ctX8_countGood hc2 h) (fun v3 s4 => ?_)
  refine jq_cwI (jq_virt (avs := [jI v3]) (st := []) Γ hlY rfl ml_RX10_161 rfl at_X_0 rfl rfl rfl rfl rfl dX10_good_12) (fun r σ' h => ctX10_answer h) (fun v5 s6 => ?_)
  exact jq_ireturn Γ dX10_good_15 (hK0 _)


