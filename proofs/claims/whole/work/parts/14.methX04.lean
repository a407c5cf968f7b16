theorem fl_RX10_185 : jq_fl RX10 185 1 21 0 false := ⟨RX1, TX1, tyX1, cls_X1, by decide, jq_in 328 (by decide +kernel) rfl, by decide⟩
theorem fl_RX10_188 : jq_fl RX10 188 1 21 2 false := ⟨RX1, TX1, tyX1, cls_X1, by decide, jq_in 336 (by decide +kernel) rfl, by decide⟩
theorem fl_RX10_191 : jq_fl RX10 191 1 21 4 false := ⟨RX1, TX1, tyX1, cls_X1, by decide, jq_in 343 (by decide +kernel) rfl, by decide⟩
theorem fl_RX10_194 : jq_fl RX10 194 1 21 6 false := ⟨RX1, TX1, tyX1, cls_X1, by decide, jq_in 349 (by decide +kernel) rfl, by decide⟩
theorem fl_RX10_197 : jq_fl RX10 197 1 21 1 false := ⟨RX1, TX1, tyX1, cls_X1, by decide, jq_in 331 (by decide +kernel) rfl, by decide⟩
theorem fl_RX10_200 : jq_fl RX10 200 1 21 9 true := ⟨RX1, TX1, tyX1, cls_X1, by decide, jq_in 358 (by decide +kernel) rfl, by decide⟩
theorem yf_X1_sittersOf : Cond.instanceMethod yX1_sittersOf ∈ jq_T ∧ Cond.selects (yX1_sittersOf).cls yX1_sittersOf yX1_sittersOf ∈ jq_T ∧ Cond.initialized (yX1_sittersOf).cls ∈ jq_T ∧ Cond.code yX1_sittersOf cX1_sittersOf 4 (some .int) ∈ jq_T ∧ ((yX1_sittersOf).cls ≠ "java/lang/invoke/MethodHandle" ∧ (yX1_sittersOf).cls ≠ "java/lang/invoke/VarHandle" ∧ (parseMethodDescriptor (yX1_sittersOf).desc).map (fun d => d.parameters.length) = some 1) := ⟨jq_in 915 (by decide +kernel) rfl, jq_in 916 (by decide +kernel) rfl, jq_in 144 (by decide +kernel) rfl, jq_in 917 (by decide +kernel) rfl, ⟨by decide, by decide, by decide +kernel⟩⟩
theorem ml_RX10_203 : jq_vl RX10 203 yX1_sittersOf cX1_sittersOf 4 (some .int) 1 := ⟨jq_in 914 (by decide +kernel) rfl, yf_X1_sittersOf⟩
theorem yf_X1_signersOf : Cond.instanceMethod yX1_signersOf ∈ jq_T ∧ Cond.selects (yX1_signersOf).cls yX1_signersOf yX1_signersOf ∈ jq_T ∧ Cond.initialized (yX1_signersOf).cls ∈ jq_T ∧ Cond.code yX1_signersOf cX1_signersOf 4 (some .int) ∈ jq_T ∧ ((yX1_signersOf).cls ≠ "java/lang/invoke/MethodHandle" ∧ (yX1_signersOf).cls ≠ "java/lang/invoke/VarHandle" ∧ (parseMethodDescriptor (yX1_signersOf).desc).map (fun d => d.parameters.length) = some 1) := ⟨jq_in 919 (by decide +kernel) rfl, jq_in 920 (by decide +kernel) rfl, jq_in 144 (by decide +kernel) rfl, jq_in 921 (by decide +kernel) rfl, ⟨by decide, by decide, by decide +kernel⟩⟩
theorem ml_RX10_207 : jq_vl RX10 207 yX1_signersOf cX1_signersOf 4 (some .int) 1 := ⟨jq_in 918 (by decide +kernel) rfl, yf_X1_signersOf⟩
theorem fl_RX10_210 : jq_fl RX10 210 1 21 5 false := ⟨RX1, TX1, tyX1, cls_X1, by decide, jq_in 346 (by decide +kernel) rfl, by decide⟩
theorem yf_X1_readyArticles : Cond.instanceMethod yX1_readyArticles ∈ jq_T ∧ Cond.selects (yX1_readyArticles).cls yX1_readyArticles yX1_readyArticles ∈ jq_T ∧ Cond.initialized (yX1_readyArticles).cls ∈ jq_T ∧ Cond.code yX1_readyArticles cX1_readyArticles 3 (some .int) ∈ jq_T ∧ ((yX1_readyArticles).cls ≠ "java/lang/invoke/MethodHandle" ∧ (yX1_readyArticles).cls ≠ "java/lang/invoke/VarHandle" ∧ (parseMethodDescriptor (yX1_readyArticles).desc).map (fun d => d.parameters.length) = some 0) := ⟨jq_in 954 (by decide +kernel) rfl, jq_in 955 (by decide +kernel) rfl, jq_in 144 (by decide +kernel) rfl, jq_in 956 (by decide +kernel) rfl, ⟨by decide, by decide, by decide +kernel⟩⟩
theorem ml_RX10_213 : jq_vl RX10 213 yX1_readyArticles cX1_readyArticles 3 (some .int) 0 := ⟨jq_in 953 (by decide +kernel) rfl, yf_X1_readyArticles⟩
theorem yf_X1_isPlace : Cond.instanceMethod yX1_isPlace ∈ jq_T ∧ Cond.selects (yX1_isPlace).cls yX1_isPlace yX1_isPlace ∈ jq_T ∧ Cond.initialized (yX1_isPlace).cls ∈ jq_T ∧ Cond.code yX1_isPlace cX1_isPlace 2 (some .boolean) ∈ jq_T ∧ ((yX1_isPlace).cls ≠ "java/lang/invoke/MethodHandle" ∧ (yX1_isPlace).cls ≠ "java/lang/invoke/VarHandle" ∧ (parseMethodDescriptor (yX1_isPlace).desc).map (fun d => d.parameters.length) = some 1) := ⟨jq_in 966 (by decide +kernel) rfl, jq_in 967 (by decide +kernel) rfl, jq_in 144 (by decide +kernel) rfl, jq_in 968 (by decide +kernel) rfl, ⟨by decide, by decide, by decide +kernel⟩⟩
theorem ml_RX10_217 : jq_vl RX10 217 yX1_isPlace cX1_isPlace 2 (some .boolean) 1 := ⟨jq_in 965 (by decide +kernel) rfl, yf_X1_isPlace⟩
theorem ml_RX10_220 : jq_vl RX10 220 yX1_sitterAt cX1_sitterAt 4 (some .int) 2 := ⟨jq_in 969 (by decide +kernel) rfl, yf_X1_sitterAt⟩
theorem yf_X10_answerOrNone : Cond.instanceMethod yX10_answerOrNone ∈ jq_T ∧ Cond.selects (yX10_answerOrNone).cls yX10_answerOrNone yX10_answerOrNone ∈ jq_T ∧ Cond.initialized (yX10_answerOrNone).cls ∈ jq_T ∧ Cond.code yX10_answerOrNone cX10_answerOrNone 2 (some .int) ∈ jq_T ∧ ((yX10_answerOrNone).cls ≠ "java/lang/invoke/MethodHandle" ∧ (yX10_answerOrNone).cls ≠ "java/lang/invoke/VarHandle" ∧ (parseMethodDescriptor (yX10_answerOrNone).desc).map (fun d => d.parameters.length) = some 1) := ⟨jq_in 972 (by decide +kernel) rfl, jq_in 15 (by decide +kernel) rfl, jq_in 138 (by decide +kernel) rfl, jq_in 973 (by decide +kernel) rfl, ⟨by decide, by decide, by decide +kernel⟩⟩
theorem ml_RX10_224 : jq_vl RX10 224 yX10_answerOrNone cX10_answerOrNone 2 (some .int) 1 := ⟨jq_in 970 (by decide +kernel) rfl, yf_X10_answerOrNone⟩
theorem ml_RX10_227 : jq_vl RX10 227 yX1_isParty cX1_isParty 2 (some .boolean) 1 := ⟨jq_in 978 (by decide +kernel) rfl, yf_X1_isParty⟩
theorem fl_RX10_230 : jq_fl RX10 230 1 21 8 true := ⟨RX1, TX1, tyX1, cls_X1, by decide, jq_in 354 (by decide +kernel) rfl, by decide⟩
theorem ml_RX10_233 : jq_vl RX10 233 yX1_isWish cX1_isWish 2 (some .boolean) 1 := ⟨jq_in 987 (by decide +kernel) rfl, yf_X1_isWish⟩
theorem fl_RX10_236 : jq_fl RX10 236 1 21 10 true := ⟨RX1, TX1, tyX1, cls_X1, by decide, jq_in 361 (by decide +kernel) rfl, by decide⟩
theorem fl_RX10_239 : jq_fl RX10 239 1 21 11 true := ⟨RX1, TX1, tyX1, cls_X1, by decide, jq_in 364 (by decide +kernel) rfl, by decide⟩
theorem fl_RX10_242 : jq_fl RX10 242 1 21 12 true := ⟨RX1, TX1, tyX1, cls_X1, by decide, jq_in 367 (by decide +kernel) rfl, by decide⟩
theorem fl_RX10_245 : jq_fl RX10 245 1 21 13 true := ⟨RX1, TX1, tyX1, cls_X1, by decide, jq_in 370 (by decide +kernel) rfl, by decide⟩
theorem yf_X1_isArticle : Cond.instanceMethod yX1_isArticle ∈ jq_T ∧ Cond.selects (yX1_isArticle).cls yX1_isArticle yX1_isArticle ∈ jq_T ∧ Cond.initialized (yX1_isArticle).cls ∈ jq_T ∧ Cond.code yX1_isArticle cX1_isArticle 2 (some .boolean) ∈ jq_T ∧ ((yX1_isArticle).cls ≠ "java/lang/invoke/MethodHandle" ∧ (yX1_isArticle).cls ≠ "java/lang/invoke/VarHandle" ∧ (parseMethodDescriptor (yX1_isArticle).desc).map (fun d => d.parameters.length) = some 1) := ⟨jq_in 993 (by decide +kernel) rfl, jq_in 994 (by decide +kernel) rfl, jq_in 144 (by decide +kernel) rfl, jq_in 995 (by decide +kernel) rfl, ⟨by decide, by decide, by decide +kernel⟩⟩
theorem ml_RX10_248 : jq_vl RX10 248 yX1_isArticle cX1_isArticle 2 (some .boolean) 1 := ⟨jq_in 992 (by decide +kernel) rfl, yf_X1_isArticle⟩
theorem fl_RX10_251 : jq_fl RX10 251 1 21 15 true := ⟨RX1, TX1, tyX1, cls_X1, by decide, jq_in 376 (by decide +kernel) rfl, by decide⟩
theorem fl_RX10_254 : jq_fl RX10 254 1 21 16 true := ⟨RX1, TX1, tyX1, cls_X1, by decide, jq_in 380 (by decide +kernel) rfl, by decide⟩
theorem fl_RX10_257 : jq_fl RX10 257 1 21 17 true := ⟨RX1, TX1, tyX1, cls_X1, by decide, jq_in 384 (by decide +kernel) rfl, by decide⟩
theorem fl_RX10_260 : jq_fl RX10 260 1 21 18 true := ⟨RX1, TX1, tyX1, cls_X1, by decide, jq_in 388 (by decide +kernel) rfl, by decide⟩
theorem yf_X1_isAgreed : Cond.instanceMethod yX1_isAgreed ∈ jq_T ∧ Cond.selects (yX1_isAgreed).cls yX1_isAgreed yX1_isAgreed ∈ jq_T ∧ Cond.initialized (yX1_isAgreed).cls ∈ jq_T ∧ Cond.code yX1_isAgreed cX1_isAgreed 2 (some .boolean) ∈ jq_T ∧ ((yX1_isAgreed).cls ≠ "java/lang/invoke/MethodHandle" ∧ (yX1_isAgreed).cls ≠ "java/lang/invoke/VarHandle" ∧ (parseMethodDescriptor (yX1_isAgreed).desc).map (fun d => d.parameters.length) = some 1) := ⟨jq_in 997 (by decide +kernel) rfl, jq_in 998 (by decide +kernel) rfl, jq_in 144 (by decide +kernel) rfl, jq_in 999 (by decide +kernel) rfl, ⟨by decide, by decide, by decide +kernel⟩⟩
theorem ml_RX10_263 : jq_vl RX10 263 yX1_isAgreed cX1_isAgreed 2 (some .boolean) 1 := ⟨jq_in 996 (by decide +kernel) rfl, yf_X1_isAgreed⟩
theorem yf_X10_asNumber : Cond.static yX10_asNumber ∈ jq_T ∧ Cond.initialized (yX10_asNumber).cls ∈ jq_T ∧ Cond.code yX10_asNumber cX10_asNumber 1 (some .int) ∈ jq_T ∧ ((yX10_asNumber).cls ≠ "java/lang/invoke/MethodHandle" ∧ (yX10_asNumber).cls ≠ "java/lang/invoke/VarHandle" ∧ (parseMethodDescriptor (yX10_asNumber).desc).map (fun d => d.parameters.length) = some 1) := ⟨jq_in 1001 (by decide +kernel) rfl, jq_in 138 (by decide +kernel) rfl, jq_in 1002 (by decide +kernel) rfl, ⟨by decide, by decide, by decide +kernel⟩⟩
theorem ml_RX10_266 : jq_sl RX10 266 yX10_asNumber cX10_asNumber 1 (some .int) 1 := ⟨jq_in 1000 (by decide +kernel) rfl, yf_X10_asNumber⟩
theorem yf_X10_areTwo : Cond.instanceMethod yX10_areTwo ∈ jq_T ∧ Cond.selects (yX10_areTwo).cls yX10_areTwo yX10_areTwo ∈ jq_T ∧ Cond.initialized (yX10_areTwo).cls ∈ jq_T ∧ Cond.code yX10_areTwo cX10_areTwo 3 (some .boolean) ∈ jq_T ∧ ((yX10_areTwo).cls ≠ "java/lang/invoke/MethodHandle" ∧ (yX10_areTwo).cls ≠ "java/lang/invoke/VarHandle" ∧ (parseMethodDescriptor (yX10_areTwo).desc).map (fun d => d.parameters.length) = some 2) := ⟨jq_in 1009 (by decide +kernel) rfl, jq_in 16 (by decide +kernel) rfl, jq_in 138 (by decide +kernel) rfl, jq_in 1010 (by decide +kernel) rfl, ⟨by decide, by decide, by decide +kernel⟩⟩
theorem ml_RX10_270 : jq_vl RX10 270 yX10_areTwo cX10_areTwo 3 (some .boolean) 2 := ⟨jq_in 1007 (by decide +kernel) rfl, yf_X10_areTwo⟩
theorem ml_RX10_273 : jq_vl RX10 273 yX1_nextTo cX1_nextTo 4 (some .boolean) 2 := ⟨jq_in 1011 (by decide +kernel) rfl, yf_X1_nextTo⟩
theorem ml_RX10_276 : jq_vl RX10 276 yX1_opposite cX1_opposite 3 (some .boolean) 2 := ⟨jq_in 1016 (by decide +kernel) rfl, yf_X1_opposite⟩
theorem yf_X1_worthTo : Cond.instanceMethod yX1_worthTo ∈ jq_T ∧ Cond.selects (yX1_worthTo).cls yX1_worthTo yX1_worthTo ∈ jq_T ∧ Cond.initialized (yX1_worthTo).cls ∈ jq_T ∧ Cond.code yX1_worthTo cX1_worthTo 5 (some .int) ∈ jq_T ∧ ((yX1_worthTo).cls ≠ "java/lang/invoke/MethodHandle" ∧ (yX1_worthTo).cls ≠ "java/lang/invoke/VarHandle" ∧ (parseMethodDescriptor (yX1_worthTo).desc).map (fun d => d.parameters.length) = some 2) := ⟨jq_in 1022 (by decide +kernel) rfl, jq_in 1023 (by decide +kernel) rfl, jq_in 144 (by decide +kernel) rfl, jq_in 1024 (by decide +kernel) rfl, ⟨by decide, by decide, by decide +kernel⟩⟩
theorem ml_RX10_279 : jq_vl RX10 279 yX1_worthTo cX1_worthTo 5 (some .int) 2 := ⟨jq_in 1021 (by decide +kernel) rfl, yf_X1_worthTo⟩
theorem yf_X1_worthOfAll : Cond.instanceMethod yX1_worthOfAll ∈ jq_T ∧ Cond.selects (yX1_worthOfAll).cls yX1_worthOfAll yX1_worthOfAll ∈ jq_T ∧ Cond.initialized (yX1_worthOfAll).cls ∈ jq_T ∧ Cond.code yX1_worthOfAll cX1_worthOfAll 4 (some .int) ∈ jq_T ∧ ((yX1_worthOfAll).cls ≠ "java/lang/invoke/MethodHandle" ∧ (yX1_worthOfAll).cls ≠ "java/lang/invoke/VarHandle" ∧ (parseMethodDescriptor (yX1_worthOfAll).desc).map (fun d => d.parameters.length) = some 1) := ⟨jq_in 1030 (by decide +kernel) rfl, jq_in 1031 (by decide +kernel) rfl, jq_in 144 (by decide +kernel) rfl, jq_in 1032 (by decide +kernel) rfl, ⟨by decide, by decide, by decide +kernel⟩⟩
theorem ml_RX10_282 : jq_vl RX10 282 yX1_worthOfAll cX1_worthOfAll 4 (some .int) 1 := ⟨jq_in 1029 (by decide +kernel) rfl, yf_X1_worthOfAll⟩
theorem ml_RX1_132 : jq_vl RX1 132 yX1_worthTo cX1_worthTo 5 (some .int) 2 := ⟨jq_in 1041 (by decide +kernel) rfl, yf_X1_worthTo⟩
theorem yf_X1_doesSign : Cond.instanceMethod yX1_doesSign ∈ jq_T ∧ Cond.selects (yX1_doesSign).cls yX1_doesSign yX1_doesSign ∈ jq_T ∧ Cond.initialized (yX1_doesSign).cls ∈ jq_T ∧ Cond.code yX1_doesSign cX1_doesSign 3 (some .boolean) ∈ jq_T ∧ ((yX1_doesSign).cls ≠ "java/lang/invoke/MethodHandle" ∧ (yX1_doesSign).cls ≠ "java/lang/invoke/VarHandle" ∧ (parseMethodDescriptor (yX1_doesSign).desc).map (fun d => d.parameters.length) = some 2) := ⟨jq_in 1038 (by decide +kernel) rfl, jq_in 1039 (by decide +kernel) rfl, jq_in 144 (by decide +kernel) rfl, jq_in 1040 (by decide +kernel) rfl, ⟨by decide, by decide, by decide +kernel⟩⟩
theorem ml_RX10_285 : jq_vl RX10 285 yX1_doesSign cX1_doesSign 3 (some .boolean) 2 := ⟨jq_in 1037 (by decide +kernel) rfl, yf_X1_doesSign⟩
theorem fl_RX1_19 : jq_fl RX1 19 1 21 9 true := ⟨RX1, TX1, tyX1, cls_X1, by decide, jq_in 355 (by decide +kernel) rfl, by decide⟩
theorem yf_X1_dearestWish : Cond.instanceMethod yX1_dearestWish ∈ jq_T ∧ Cond.selects (yX1_dearestWish).cls yX1_dearestWish yX1_dearestWish ∈ jq_T ∧ Cond.initialized (yX1_dearestWish).cls ∈ jq_T ∧ Cond.code yX1_dearestWish cX1_dearestWish 5 (some .int) ∈ jq_T ∧ ((yX1_dearestWish).cls ≠ "java/lang/invoke/MethodHandle" ∧ (yX1_dearestWish).cls ≠ "java/lang/invoke/VarHandle" ∧ (parseMethodDescriptor (yX1_dearestWish).desc).map (fun d => d.parameters.length) = some 1) := ⟨jq_in 1047 (by decide +kernel) rfl, jq_in 1048 (by decide +kernel) rfl, jq_in 144 (by decide +kernel) rfl, jq_in 1049 (by decide +kernel) rfl, ⟨by decide, by decide, by decide +kernel⟩⟩
theorem ml_RX10_289 : jq_vl RX10 289 yX1_dearestWish cX1_dearestWish 5 (some .int) 1 := ⟨jq_in 1046 (by decide +kernel) rfl, yf_X1_dearestWish⟩
theorem ml_RX1_108 : jq_vl RX1 108 yX1_sitterAt cX1_sitterAt 4 (some .int) 2 := ⟨jq_in 1058 (by decide +kernel) rfl, yf_X1_sitterAt⟩
theorem ml_RX1_112 : jq_vl RX1 112 yX1_isPlace cX1_isPlace 2 (some .boolean) 1 := ⟨jq_in 1059 (by decide +kernel) rfl, yf_X1_isPlace⟩
theorem yf_X1_seatOne : Cond.instanceMethod yX1_seatOne ∈ jq_T ∧ Cond.selects (yX1_seatOne).cls yX1_seatOne yX1_seatOne ∈ jq_T ∧ Cond.initialized (yX1_seatOne).cls ∈ jq_T ∧ Cond.code yX1_seatOne cX1_seatOne 4 (some .boolean) ∈ jq_T ∧ ((yX1_seatOne).cls ≠ "java/lang/invoke/MethodHandle" ∧ (yX1_seatOne).cls ≠ "java/lang/invoke/VarHandle" ∧ (parseMethodDescriptor (yX1_seatOne).desc).map (fun d => d.parameters.length) = some 2) := ⟨jq_in 1055 (by decide +kernel) rfl, jq_in 1056 (by decide +kernel) rfl, jq_in 144 (by decide +kernel) rfl, jq_in 1057 (by decide +kernel) rfl, ⟨by decide, by decide, by decide +kernel⟩⟩
theorem ml_RX10_292 : jq_vl RX10 292 yX1_seatOne cX1_seatOne 4 (some .boolean) 2 := ⟨jq_in 1054 (by decide +kernel) rfl, yf_X1_seatOne⟩
theorem dX10_told_0 : decode cX10_told 0 = .ok (.iload_n 1, 1) := by decide +kernel
theorem dX10_told_1 : decode cX10_told 1 = .ok (.tableswitch 189 0 9 #[55, 67, 79, 91, 103, 115, 127, 146, 165, 177], 55) := by decide +kernel
theorem dX10_told_56 : decode cX10_told 56 = .ok (.aload_n 0, 1) := by decide +kernel
theorem dX10_told_57 : decode cX10_told 57 = .ok (.aload_n 0, 1) := by decide +kernel
theorem dX10_told_58 : decode cX10_told 58 = .ok (.getfield 25, 3) := by decide +kernel
theorem dX10_told_61 : decode cX10_told 61 = .ok (.getfield 185, 3) := by decide +kernel
theorem dX10_told_64 : decode cX10_told 64 = .ok (.invokevirtual 167, 3) := by decide +kernel
theorem dX10_told_67 : decode cX10_told 67 = .ok (.ireturn, 1) := by decide +kernel
theorem dX10_told_68 : decode cX10_told 68 = .ok (.aload_n 0, 1) := by decide +kernel
theorem dX10_told_69 : decode cX10_told 69 = .ok (.aload_n 0, 1) := by decide +kernel
theorem dX10_told_70 : decode cX10_told 70 = .ok (.getfield 25, 3) := by decide +kernel
theorem dX10_told_73 : decode cX10_told 73 = .ok (.getfield 188, 3) := by decide +kernel
theorem dX10_told_76 : decode cX10_told 76 = .ok (.invokevirtual 167, 3) := by decide +kernel
theorem dX10_told_79 : decode cX10_told 79 = .ok (.ireturn, 1) := by decide +kernel
theorem dX10_told_80 : decode cX10_told 80 = .ok (.aload_n 0, 1) := by decide +kernel
theorem dX10_told_81 : decode cX10_told 81 = .ok (.aload_n 0, 1) := by decide +kernel
theorem dX10_told_82 : decode cX10_told 82 = .ok (.getfield 25, 3) := by decide +kernel
theorem dX10_told_85 : decode cX10_told 85 = .ok (.getfield 164, 3) := by decide +kernel
theorem dX10_told_88 : decode cX10_told 88 = .ok (.invokevirtual 167, 3) := by decide +kernel
theorem dX10_told_91 : decode cX10_told 91 = .ok (.ireturn, 1) := by decide +kernel
theorem dX10_told_92 : decode cX10_told 92 = .ok (.aload_n 0, 1) := by decide +kernel
theorem dX10_told_93 : decode cX10_told 93 = .ok (.aload_n 0, 1) := by decide +kernel
theorem dX10_told_94 : decode cX10_told 94 = .ok (.getfield 25, 3) := by decide +kernel
theorem dX10_told_97 : decode cX10_told 97 = .ok (.getfield 191, 3) := by decide +kernel
theorem dX10_told_100 : decode cX10_told 100 = .ok (.invokevirtual 167, 3) := by decide +kernel
theorem dX10_told_103 : decode cX10_told 103 = .ok (.ireturn, 1) := by decide +kernel
theorem dX10_told_104 : decode cX10_told 104 = .ok (.aload_n 0, 1) := by decide +kernel
theorem dX10_told_105 : decode cX10_told 105 = .ok (.aload_n 0, 1) := by decide +kernel
theorem dX10_told_106 : decode cX10_told 106 = .ok (.getfield 25, 3) := by decide +kernel
theorem dX10_told_109 : decode cX10_told 109 = .ok (.getfield 194, 3) := by decide +kernel
theorem dX10_told_112 : decode cX10_told 112 = .ok (.invokevirtual 167, 3) := by decide +kernel
theorem dX10_told_115 : decode cX10_told 115 = .ok (.ireturn, 1) := by decide +kernel
theorem dX10_told_116 : decode cX10_told 116 = .ok (.aload_n 0, 1) := by decide +kernel
theorem dX10_told_117 : decode cX10_told 117 = .ok (.aload_n 0, 1) := by decide +kernel
theorem dX10_told_118 : decode cX10_told 118 = .ok (.getfield 25, 3) := by decide +kernel
theorem dX10_told_121 : decode cX10_told 121 = .ok (.getfield 197, 3) := by decide +kernel
theorem dX10_told_124 : decode cX10_told 124 = .ok (.invokevirtual 167, 3) := by decide +kernel
theorem dX10_told_127 : decode cX10_told 127 = .ok (.ireturn, 1) := by decide +kernel
theorem dX10_told_128 : decode cX10_told 128 = .ok (.aload_n 0, 1) := by decide +kernel
theorem dX10_told_129 : decode cX10_told 129 = .ok (.aload_n 0, 1) := by decide +kernel
theorem dX10_told_130 : decode cX10_told 130 = .ok (.getfield 25, 3) := by decide +kernel
theorem dX10_told_133 : decode cX10_told 133 = .ok (.aload_n 0, 1) := by decide +kernel
theorem dX10_told_134 : decode cX10_told 134 = .ok (.getfield 25, 3) := by decide +kernel
theorem dX10_told_137 : decode cX10_told 137 = .ok (.getfield 200, 3) := by decide +kernel
theorem dX10_told_140 : decode cX10_told 140 = .ok (.invokevirtual 203, 3) := by decide +kernel
theorem dX10_told_143 : decode cX10_told 143 = .ok (.invokevirtual 167, 3) := by decide +kernel
theorem dX10_told_146 : decode cX10_told 146 = .ok (.ireturn, 1) := by decide +kernel
theorem dX10_told_147 : decode cX10_told 147 = .ok (.aload_n 0, 1) := by decide +kernel
theorem dX10_told_148 : decode cX10_told 148 = .ok (.aload_n 0, 1) := by decide +kernel
theorem dX10_told_149 : decode cX10_told 149 = .ok (.getfield 25, 3) := by decide +kernel
theorem dX10_told_152 : decode cX10_told 152 = .ok (.aload_n 0, 1) := by decide +kernel
theorem dX10_told_153 : decode cX10_told 153 = .ok (.getfield 25, 3) := by decide +kernel
theorem dX10_told_156 : decode cX10_told 156 = .ok (.getfield 200, 3) := by decide +kernel
theorem dX10_told_159 : decode cX10_told 159 = .ok (.invokevirtual 207, 3) := by decide +kernel
theorem dX10_told_162 : decode cX10_told 162 = .ok (.invokevirtual 167, 3) := by decide +kernel
theorem dX10_told_165 : decode cX10_told 165 = .ok (.ireturn, 1) := by decide +kernel
theorem dX10_told_166 : decode cX10_told 166 = .ok (.aload_n 0, 1) := by decide +kernel
theorem dX10_told_167 : decode cX10_told 167 = .ok (.aload_n 0, 1) := by decide +kernel
theorem dX10_told_168 : decode cX10_told 168 = .ok (.getfield 25, 3) := by decide +kernel
theorem dX10_told_171 : decode cX10_told 171 = .ok (.getfield 210, 3) := by decide +kernel
theorem dX10_told_174 : decode cX10_told 174 = .ok (.invokevirtual 167, 3) := by decide +kernel
theorem dX10_told_177 : decode cX10_told 177 = .ok (.ireturn, 1) := by decide +kernel
theorem dX10_told_178 : decode cX10_told 178 = .ok (.aload_n 0, 1) := by decide +kernel
theorem dX10_told_179 : decode cX10_told 179 = .ok (.aload_n 0, 1) := by decide +kernel
theorem dX10_told_180 : decode cX10_told 180 = .ok (.getfield 25, 3) := by decide +kernel
theorem dX10_told_183 : decode cX10_told 183 = .ok (.invokevirtual 213, 3) := by decide +kernel
theorem dX10_told_186 : decode cX10_told 186 = .ok (.invokevirtual 167, 3) := by decide +kernel
theorem dX10_told_189 : decode cX10_told 189 = .ok (.ireturn, 1) := by decide +kernel
theorem dX10_told_190 : decode cX10_told 190 = .ok (.aload_n 0, 1) := by decide +kernel
theorem dX10_told_191 : decode cX10_told 191 = .ok (.iconst 1, 1) := by decide +kernel
theorem dX10_told_192 : decode cX10_told 192 = .ok (.invokevirtual 117, 3) := by decide +kernel
theorem dX10_told_195 : decode cX10_told 195 = .ok (.ireturn, 1) := by decide +kernel
set_option maxHeartbeats 4000000 in
set_option maxRecDepth 100000 in
theorem ctX10_told {p1 : Int} {σ : jq_M} {res : Int} {σ' : jq_M}  (h : X10_told p1 σ = some (res, σ')) : jq_MC jq_zX yX10_told cX10_told 2 (some .int) 5 133 [jR 0, jI p1] σ (some (jI res)) σ' := by
  refine jq_met (own := RX10) (L0 := [(0, jR 0), (1, jI p1)]) (by decide) rfl rfl rfl ?_
  intro X Γ hnl hlY hRT
  refine jq_use2 (P := fun r => jq_RT jq_zX X (some .int) (some (jI r.1)) r.2) ?_ h hRT
  intro K0 hK0
  unfold X10_told
  refine jq_iload_n Γ dX10_told_0 rfl 1 rfl ?_
  refine jq_split (fun hc1 => ?_) (fun hn0_1 => ?_)
  · refine jq_tabIn (tgt := 56) Γ dX10_told_1 hc1 rfl rfl rfl ?_
    refine jq_aload_n Γ dX10_told_56 rfl 0 rfl (jq_at_0 at_X_0) ?_
    refine jq_aload_n Γ dX10_told_57 rfl 0 rfl (jq_at_0 at_X_0) ?_
    refine jq_getC (C := jq_cm2) Γ hlY at_X_0 fl_RX10_25 rfl rfl ly_now dX10_told_58 (fun c2 hc3q => ?_)
    have hc3 := jq_cm2_com hc3q
    refine jq_getI (J := 0) Γ (at_com hc3) fl_RX10_185 rfl rfl dX10_told_61 ?_
    refine jq_cwI (jq_virt (avs := [jI (σ c2 0)]) (st := []) Γ hlY rfl ml_RX10_167 rfl at_X_0 rfl rfl rfl rfl rfl dX10_told_64) (fun r σ' h => ctX10_answer h) (fun v4 s5 => ?_)
    exact jq_ireturn Γ dX10_told_67 (hK0 _)
  · refine jq_split (fun hc6 => ?_) (fun hn1_1 => ?_)
    · refine jq_tabIn (tgt := 68) Γ dX10_told_1 hc6 rfl rfl rfl ?_
      refine jq_aload_n Γ dX10_told_68 rfl 0 rfl (jq_at_0 at_X_0) ?_
      refine jq_aload_n Γ dX10_told_69 rfl 0 rfl (jq_at_0 at_X_0) ?_
      refine jq_getC (C := jq_cm2) Γ hlY at_X_0 fl_RX10_25 rfl rfl ly_now dX10_told_70 (fun c7 hc8q => ?_)
      have hc8 := jq_cm2_com hc8q
      refine jq_getI (J := 2) Γ (at_com hc8) fl_RX10_188 rfl rfl dX10_told_73 ?_
      refine jq_cwI (jq_virt (avs := [jI (σ c7 2)]) (st := []) Γ hlY rfl ml_RX10_167 rfl at_X_0 rfl rfl rfl rfl rfl dX10_told_76) (fun r σ' h => ctX10_answer h) (fun v9 s10 => ?_)
      exact jq_ireturn Γ dX10_told_79 (hK0 _)
    · refine jq_split (fun hc11 => ?_) (fun hn2_1 => ?_)
      · refine jq_tabIn (tgt := 80) Γ dX10_told_1 hc11 rfl rfl rfl ?_
        refine jq_aload_n Γ dX10_told_80 rfl 0 rfl (jq_at_0 at_X_0) ?_
        refine jq_aload_n Γ dX10_told_81 rfl 0 rfl (jq_at_0 at_X_0) ?_
        refine jq_getC (C := jq_cm2) Γ hlY at_X_0 fl_RX10_25 rfl rfl ly_now dX10_told_82 (fun c12 hc13q => ?_)
        have hc13 := jq_cm2_com hc13q
        refine jq_getI (J := 3) Γ (at_com hc13) fl_RX10_164 rfl rfl dX10_told_85 ?_
        refine jq_cwI (jq_virt (avs := [jI (σ c12 3)]) (st := []) Γ hlY rfl ml_RX10_167 rfl at_X_0 rfl rfl rfl rfl rfl dX10_told_88) (fun r σ' h => ctX10_answer h) (fun v14 s15 => ?_)
        exact jq_ireturn Γ dX10_told_91 (hK0 _)
      · refine jq_split (fun hc16 => ?_) (fun hn3_1 => ?_)
        · refine jq_tabIn (tgt := 92) Γ dX10_told_1 hc16 rfl rfl rfl ?_
          refine jq_aload_n Γ dX10_told_92 rfl 0 rfl (jq_at_0 at_X_0) ?_
          refine jq_aload_n Γ dX10_told_93 rfl 0 rfl (jq_at_0 at_X_0) ?_
          refine jq_getC (C := jq_cm2) Γ hlY at_X_0 fl_RX10_25 rfl rfl ly_now dX10_told_94 (fun c17 hc18q => ?_)
          have hc18 := jq_cm2_com hc18q
          refine jq_getI (J := 4) Γ (at_com hc18) fl_RX10_191 rfl rfl dX10_told_97 ?_
          refine jq_cwI (jq_virt (avs := [jI (σ c17 4)]) (st := []) Γ hlY rfl ml_RX10_167 rfl at_X_0 rfl rfl rfl rfl rfl dX10_told_100) (fun r σ' h => ctX10_answer h) (fun v19 s20 => ?_)
          exact jq_ireturn Γ dX10_told_103 (hK0 _)
        · refine jq_split (fun hc21 => ?_) (fun hn4_1 => ?_)
          · refine jq_tabIn (tgt := 104) Γ dX10_told_1 hc21 rfl rfl rfl ?_
            refine jq_aload_n Γ dX10_told_104 rfl 0 rfl (jq_at_0 at_X_0) ?_
            refine jq_aload_n Γ dX10_told_105 rfl 0 rfl (jq_at_0 at_X_0) ?_
            refine jq_getC (C := jq_cm2) Γ hlY at_X_0 fl_RX10_25 rfl rfl ly_now dX10_told_106 (fun c22 hc23q => ?_)
            have hc23 := jq_cm2_com hc23q
            refine jq_getI (J := 6) Γ (at_com hc23) fl_RX10_194 rfl rfl dX10_told_109 ?_
            refine jq_cwI (jq_virt (avs := [jI (σ c22 6)]) (st := []) Γ hlY rfl ml_RX10_167 rfl at_X_0 rfl rfl rfl rfl rfl dX10_told_112) (fun r σ' h => ctX10_answer h) (fun v24 s25 => ?_)
            exact jq_ireturn Γ dX10_told_115 (hK0 _)
          · refine jq_split (fun hc26 => ?_) (fun hn5_1 => ?_)
            · refine jq_tabIn (tgt := 116) Γ dX10_told_1 hc26 rfl rfl rfl ?_
              refine jq_aload_n Γ dX10_told_116 rfl 0 rfl (jq_at_0 at_X_0) ?_
              refine jq_aload_n Γ dX10_told_117 rfl 0 rfl (jq_at_0 at_X_0) ?_
              refine jq_getC (C := jq_cm2) Γ hlY at_X_0 fl_RX10_25 rfl rfl ly_now dX10_told_118 (fun c27 hc28q => ?_)
              have hc28 := jq_cm2_com hc28q
              refine jq_getI (J := 1) Γ (at_com hc28) fl_RX10_197 rfl rfl dX10_told_121 ?_
              refine jq_cwI (jq_virt (avs := [jI (σ c27 1)]) (st := []) Γ hlY rfl ml_RX10_167 rfl at_X_0 rfl rfl rfl rfl rfl dX10_told_124) (fun r σ' h => ctX10_answer h) (fun v29 s30 => ?_)
              exact jq_ireturn Γ dX10_told_127 (hK0 _)
            · refine jq_split (fun hc31 => ?_) (fun hn6_1 => ?_)
              · refine jq_tabIn (tgt := 128) Γ dX10_told_1 hc31 rfl rfl rfl ?_
                refine jq_aload_n Γ dX10_told_128 rfl 0 rfl (jq_at_0 at_X_0) ?_
                refine jq_aload_n Γ dX10_told_129 rfl 0 rfl (jq_at_0 at_X_0) ?_
                refine jq_getC (C := jq_cm2) Γ hlY at_X_0 fl_RX10_25 rfl rfl ly_now dX10_told_130 (fun c32 hc33q => ?_)
                have hc33 := jq_cm2_com hc33q
                refine jq_aload_n Γ dX10_told_133 rfl 0 rfl (jq_at_0 at_X_0) ?_
                refine jq_getC (C := jq_cm2) Γ hlY at_X_0 fl_RX10_25 rfl rfl ly_now dX10_told_134 (fun c34 hc35q => ?_)
                have hc35 := jq_cm2_com hc35q
                refine jq_getR (v := (c34 + 3)) Γ hlY (at_com hc35) fl_RX10_200 rfl rfl (ly_X1_seats hc35) dX10_told_137 ?_
                refine jq_cpI (jq_virt (avs := [jR (c34 + 3)]) (st := [jR 0]) Γ hlY rfl ml_RX10_203 rfl (at_com hc33) rfl rfl rfl rfl rfl dX10_told_140) (fun r h => ctX1_sittersOf hc33 (row_com hc35) h) (fun v36 => ?_)
                refine jq_cwI (jq_virt (avs := [jI v36]) (st := []) Γ hlY rfl ml_RX10_167 rfl at_X_0 rfl rfl rfl rfl rfl dX10_told_143) (fun r σ' h => ctX10_answer h) (fun v37 s38 => ?_)
                exact jq_ireturn Γ dX10_told_146 (hK0 _)
              · refine jq_split (fun hc39 => ?_) (fun hn7_1 => ?_)
                · refine jq_tabIn (tgt := 147) Γ dX10_told_1 hc39 rfl rfl rfl ?_
                  refine jq_aload_n Γ dX10_told_147 rfl 0 rfl (jq_at_0 at_X_0) ?_
                  refine jq_aload_n Γ dX10_told_148 rfl 0 rfl (jq_at_0 at_X_0) ?_
                  refine jq_getC (C := jq_cm2) Γ hlY at_X_0 fl_RX10_25 rfl rfl ly_now dX10_told_149 (fun c40 hc41q => ?_)
                  have hc41 := jq_cm2_com hc41q
                  refine jq_aload_n Γ dX10_told_152 rfl 0 rfl (jq_at_0 at_X_0) ?_
                  refine jq_getC (C := jq_cm2) Γ hlY at_X_0 fl_RX10_25 rfl rfl ly_now dX10_told_153 (fun c42 hc43q => ?_)
                  have hc43 := jq_cm2_com hc43q
                  refine jq_getR (v := (c42 + 3)) Γ hlY (at_com hc43) fl_RX10_200 rfl rfl (ly_X1_seats hc43) dX10_told_156 ?_
                  refine jq_cwI (jq_virt (avs := [jR (c42 + 3)]) (st := [jR 0]) Γ hlY rfl ml_RX10_207 rfl (at_com hc41) rfl rfl rfl rfl rfl dX10_told_159) (fun r σ' h => ctX1_signersOf hc41 (row_com hc43) h) (fun v44 s45 => ?_)
                  refine jq_cwI (jq_virt (avs := [jI v44]) (st := []) Γ hlY rfl ml_RX10_167 rfl at_X_0 rfl rfl rfl rfl rfl dX10_told_162) (fun r σ' h => ctX10_answer h) (fun v46 s47 => ?_)
                  exact jq_ireturn Γ dX10_told_165 (hK0 _)
                · refine jq_split (fun hc48 => ?_) (fun hn8_1 => ?_)
                  · refine jq_tabIn (tgt := 166) Γ dX10_told_1 hc48 rfl rfl rfl ?_
                    refine jq_aload_n Γ dX10_told_166 rfl 0 rfl (jq_at_0 at_X_0) ?_
                    refine jq_aload_n Γ dX10_told_167 rfl 0 rfl (jq_at_0 at_X_0) ?_
                    refine jq_getC (C := jq_cm2) Γ hlY at_X_0 fl_RX10_25 rfl rfl ly_now dX10_told_168 (fun c49 hc50q => ?_)
                    have hc50 := jq_cm2_com hc50q
                    refine jq_getI (J := 5) Γ (at_com hc50) fl_RX10_210 rfl rfl dX10_told_171 ?_
                    refine jq_cwI (jq_virt (avs := [jI (σ c49 5)]) (st := []) Γ hlY rfl ml_RX10_167 rfl at_X_0 rfl rfl rfl rfl rfl dX10_told_174) (fun r σ' h => ctX10_answer h) (fun v51 s52 => ?_)
                    exact jq_ireturn Γ dX10_told_177 (hK0 _)
                  · refine jq_split (fun hc53 => ?_) (fun hn9_1 => ?_)
                    · refine jq_tabIn (tgt := 178) Γ dX10_told_1 hc53 rfl rfl rfl ?_
                      refine jq_aload_n Γ dX10_told_178 rfl 0 rfl (jq_at_0 at_X_0) ?_
                      refine jq_aload_n Γ dX10_told_179 rfl 0 rfl (jq_at_0 at_X_0) ?_
                      refine jq_getC (C := jq_cm2) Γ hlY at_X_0 fl_RX10_25 rfl rfl ly_now dX10_told_180 (fun c54 hc55q => ?_)
                      have hc55 := jq_cm2_com hc55q
                      refine jq_cpI (jq_virt (avs := []) (st := [jR 0]) Γ hlY rfl ml_RX10_213 rfl (at_com hc55) rfl rfl rfl rfl rfl dX10_told_183) (fun r h => ctX1_readyArticles hc55 h) (fun v56 => ?_)
                      refine jq_cwI (jq_virt (avs := [jI v56]) (st := []) Γ hlY rfl ml_RX10_167 rfl at_X_0 rfl rfl rfl rfl rfl dX10_told_186) (fun r σ' h => ctX10_answer h) (fun v57 s58 => ?_)
                      exact jq_ireturn Γ dX10_told_189 (hK0 _)
                    · refine jq_tabOut (tgt := 190) Γ dX10_told_1 (by omega) rfl ?_
                      refine jq_aload_n Γ dX10_told_190 rfl 0 rfl (jq_at_0 at_X_0) ?_
                      refine jq_iconst Γ dX10_told_191 rfl ?_
                      refine jq_cwI (jq_virt (avs := [jI 1]) (st := []) Γ hlY rfl ml_RX10_117 rfl at_X_0 rfl rfl rfl rfl rfl dX10_told_192) (fun r σ' h => ctX10_refuse h) (fun v59 s60 => ?_)
                      exact jq_ireturn Γ dX10_told_195 (hK0 _)


theorem dX1_isPlace_0 : decode cX1_isPlace 0 = .ok (.iload_n 1, 1) := by decide +kernel
theorem dX1_isPlace_1 : decode cX1_isPlace 1 = .ok (.ifCond .lt 15, 3) := by decide +kernel
theorem dX1_isPlace_4 : decode cX1_isPlace 4 = .ok (.iload_n 1, 1) := by decide +kernel
theorem dX1_isPlace_5 : decode cX1_isPlace 5 = .ok (.aload_n 0, 1) := by decide +kernel
theorem dX1_isPlace_6 : decode cX1_isPlace 6 = .ok (.getfield 59, 3) := by decide +kernel
theorem dX1_isPlace_9 : decode cX1_isPlace 9 = .ok (.if_icmp .ge 7, 3) := by decide +kernel
theorem dX1_isPlace_12 : decode cX1_isPlace 12 = .ok (.iconst 1, 1) := by decide +kernel
theorem dX1_isPlace_13 : decode cX1_isPlace 13 = .ok (.goto 4, 3) := by decide +kernel
theorem dX1_isPlace_16 : decode cX1_isPlace 16 = .ok (.iconst 0, 1) := by decide +kernel
theorem dX1_isPlace_17 : decode cX1_isPlace 17 = .ok (.ireturn, 1) := by decide +kernel
set_option maxHeartbeats 4000000 in
set_option maxRecDepth 100000 in
theorem ctX1_isPlace {o : Int} {p1 : Int} {σ : jq_M} {res : Int} (ho : jq_com o) (h : X1_isPlace o p1 σ = some res) : jq_MC jq_zX yX1_isPlace cX1_isPlace 2 (some .boolean) 1 40 [jR o, jI p1] σ (some (jI res)) σ := by
  refine jq_met (own := RX1) (L0 := [(0, jR o), (1, jI p1)]) (by decide) rfl rfl rfl ?_
  intro X Γ hnl hlY hRT
  refine jq_use2 (P := fun r => jq_RT jq_zX X (some .boolean) (some (jI r)) σ) ?_ h hRT
  intro K0 hK0
  unfold X1_isPlace
  refine jq_iload_n Γ dX1_isPlace_0 rfl 1 rfl ?_
  refine jq_if_lt (tgt := 16) Γ dX1_isPlace_1 rfl ?_ ?_
  · refine jq_iconst Γ dX1_isPlace_16 rfl ?_
    exact jq_zreturn Γ (Or.inl rfl) dX1_isPlace_17 (hK0 _)
  · refine jq_iload_n Γ dX1_isPlace_4 rfl 1 rfl ?_
    refine jq_aload_n Γ dX1_isPlace_5 rfl 0 rfl (jq_at_0 (at_com ho)) ?_
    refine jq_getI (J := 0) Γ (at_com ho) fl_RX1_59 rfl rfl dX1_isPlace_6 ?_
    refine jq_icmp_ge (tgt := 16) Γ dX1_isPlace_9 rfl ?_ ?_
    · refine jq_iconst Γ dX1_isPlace_16 rfl ?_
      exact jq_zreturn Γ (Or.inl rfl) dX1_isPlace_17 (hK0 _)
    · refine jq_iconst Γ dX1_isPlace_12 rfl ?_
      refine jq_goto Γ (tgt := 17) dX1_isPlace_13 rfl ?_
      exact jq_zreturn Γ (Or.inr rfl) dX1_isPlace_17 (hK0 _)


theorem dX10_answerOrNone_0 : decode cX10_answerOrNone 0 = .ok (.iload_n 1, 1) := by decide +kernel
theorem dX10_answerOrNone_1 : decode cX10_answerOrNone 1 = .ok (.iconst (-1), 1) := by decide +kernel
theorem dX10_answerOrNone_2 : decode cX10_answerOrNone 2 = .ok (.if_icmp .ne 12, 3) := by decide +kernel
theorem dX10_answerOrNone_5 : decode cX10_answerOrNone 5 = .ok (.aload_n 0, 1) := by decide +kernel
theorem dX10_answerOrNone_6 : decode cX10_answerOrNone 6 = .ok (.bipush 6, 2) := by decide +kernel
theorem dX10_answerOrNone_8 : decode cX10_answerOrNone 8 = .ok (.invokevirtual 117, 3) := by decide +kernel
theorem dX10_answerOrNone_11 : decode cX10_answerOrNone 11 = .ok (.goto 8, 3) := by decide +kernel
theorem dX10_answerOrNone_14 : decode cX10_answerOrNone 14 = .ok (.aload_n 0, 1) := by decide +kernel
theorem dX10_answerOrNone_15 : decode cX10_answerOrNone 15 = .ok (.iload_n 1, 1) := by decide +kernel
theorem dX10_answerOrNone_16 : decode cX10_answerOrNone 16 = .ok (.invokevirtual 167, 3) := by decide +kernel
theorem dX10_answerOrNone_19 : decode cX10_answerOrNone 19 = .ok (.ireturn, 1) := by decide +kernel
set_option maxHeartbeats 4000000 in
set_option maxRecDepth 100000 in
theorem ctX10_answerOrNone {p1 : Int} {σ : jq_M} {res : Int} {σ' : jq_M}  (h : X10_answerOrNone p1 σ = some (res, σ')) : jq_MC jq_zX yX10_answerOrNone cX10_answerOrNone 2 (some .int) 2 61 [jR 0, jI p1] σ (some (jI res)) σ' := by
  refine jq_met (own := RX10) (L0 := [(0, jR 0), (1, jI p1)]) (by decide) rfl rfl rfl ?_
  intro X Γ hnl hlY hRT
  refine jq_use2 (P := fun r => jq_RT jq_zX X (some .int) (some (jI r.1)) r.2) ?_ h hRT
  intro K0 hK0
  unfold X10_answerOrNone
  refine jq_iload_n Γ dX10_answerOrNone_0 rfl 1 rfl ?_
  refine jq_iconst Γ dX10_answerOrNone_1 rfl ?_
  refine jq_icmp_ne (tgt := 14) Γ dX10_answerOrNone_2 rfl ?_ ?_
  · refine jq_aload_n Γ dX10_answerOrNone_14 rfl 0 rfl (jq_at_0 at_X_0) ?_
    refine jq_iload_n Γ dX10_answerOrNone_15 rfl 1 rfl ?_
    refine jq_cwI (jq_virt (avs := [jI p1]) (st := []) Γ hlY rfl ml_RX10_167 rfl at_X_0 rfl rfl rfl rfl rfl dX10_answerOrNone_16) (fun r σ' h => ctX10_answer h) (fun v1 s2 => ?_)
    exact jq_ireturn Γ dX10_answerOrNone_19 (hK0 _)
  · refine jq_aload_n Γ dX10_answerOrNone_5 rfl 0 rfl (jq_at_0 at_X_0) ?_
    refine jq_bipush Γ dX10_answerOrNone_6 rfl ?_
    refine jq_cwI (jq_virt (avs := [jI 6]) (st := []) Γ hlY rfl ml_RX10_117 rfl at_X_0 rfl rfl rfl rfl rfl dX10_answerOrNone_8) (fun r σ' h => ctX10_refuse h) (fun v3 s4 => ?_)
    refine jq_goto Γ (tgt := 19) dX10_answerOrNone_11 rfl ?_
    exact jq_ireturn Γ dX10_answerOrNone_19 (hK0 _)


theorem dX10_who_0 : decode cX10_who 0 = .ok (.aload_n 0, 1) := by decide +kernel
theorem dX10_who_1 : decode cX10_who 1 = .ok (.getfield 25, 3) := by decide +kernel
theorem dX10_who_4 : decode cX10_who 4 = .ok (.iload_n 1, 1) := by decide +kernel
theorem dX10_who_5 : decode cX10_who 5 = .ok (.invokevirtual 217, 3) := by decide +kernel
theorem dX10_who_8 : decode cX10_who 8 = .ok (.ifCond .ne 9, 3) := by decide +kernel
theorem dX10_who_11 : decode cX10_who 11 = .ok (.aload_n 0, 1) := by decide +kernel
theorem dX10_who_12 : decode cX10_who 12 = .ok (.iconst 1, 1) := by decide +kernel
theorem dX10_who_13 : decode cX10_who 13 = .ok (.invokevirtual 117, 3) := by decide +kernel
theorem dX10_who_16 : decode cX10_who 16 = .ok (.ireturn, 1) := by decide +kernel
theorem dX10_who_17 : decode cX10_who 17 = .ok (.aload_n 0, 1) := by decide +kernel
theorem dX10_who_18 : decode cX10_who 18 = .ok (.aload_n 0, 1) := by decide +kernel
theorem dX10_who_19 : decode cX10_who 19 = .ok (.getfield 25, 3) := by decide +kernel
theorem dX10_who_22 : decode cX10_who 22 = .ok (.iload_n 1, 1) := by decide +kernel
theorem dX10_who_23 : decode cX10_who 23 = .ok (.aload_n 0, 1) := by decide +kernel
theorem dX10_who_24 : decode cX10_who 24 = .ok (.getfield 25, 3) := by decide +kernel
theorem dX10_who_27 : decode cX10_who 27 = .ok (.getfield 200, 3) := by decide +kernel
theorem dX10_who_30 : decode cX10_who 30 = .ok (.invokevirtual 220, 3) := by decide +kernel
theorem dX10_who_33 : decode cX10_who 33 = .ok (.invokevirtual 224, 3) := by decide +kernel
theorem dX10_who_36 : decode cX10_who 36 = .ok (.ireturn, 1) := by decide +kernel
set_option maxHeartbeats 4000000 in
set_option maxRecDepth 100000 in
theorem ctX10_who {p1 : Int} {σ : jq_M} {res : Int} {σ' : jq_M}  (h : X10_who p1 σ = some (res, σ')) : jq_MC jq_zX yX10_who cX10_who 2 (some .int) 3 82 [jR 0, jI p1] σ (some (jI res)) σ' := by
  refine jq_met (own := RX10) (L0 := [(0, jR 0), (1, jI p1)]) (by decide) rfl rfl rfl ?_
  intro X Γ hnl hlY hRT
  refine jq_use2 (P := fun r => jq_RT jq_zX X (some .int) (some (jI r.1)) r.2) ?_ h hRT
  intro K0 hK0
  unfold X10_who
  refine jq_aload_n Γ dX10_who_0 rfl 0 rfl (jq_at_0 at_X_0) ?_
  refine jq_getC (C := jq_cm2) Γ hlY at_X_0 fl_RX10_25 rfl rfl ly_now dX10_who_1 (fun c1 hc2q => ?_)
  have hc2 := jq_cm2_com hc2q
  refine jq_iload_n Γ dX10_who_4 rfl 1 rfl ?_
  refine jq_cpZ (jq_virt (avs := [jI p1]) (st := []) Γ hlY rfl ml_RX10_217 rfl (at_com hc2) rfl rfl rfl rfl rfl dX10_who_5) rfl (fun r h => ctX1_isPlace hc2 h) (fun v3 hz4 => ?_)
  refine jq_if_ne (tgt := 17) Γ dX10_who_8 rfl ?_ ?_
  · refine jq_aload_n Γ dX10_who_17 rfl 0 rfl (jq_at_0 at_X_0) ?_
    refine jq_aload_n Γ dX10_who_18 rfl 0 rfl (jq_at_0 at_X_0) ?_
    refine jq_getC (C := jq_cm2) Γ hlY at_X_0 fl_RX10_25 rfl rfl ly_now dX10_who_19 (fun c5 hc6q => ?_)
    have hc6 := jq_cm2_com hc6q
    refine jq_iload_n Γ dX10_who_22 rfl 1 rfl ?_
    refine jq_aload_n Γ dX10_who_23 rfl 0 rfl (jq_at_0 at_X_0) ?_
    refine jq_getC (C := jq_cm2) Γ hlY at_X_0 fl_RX10_25 rfl rfl ly_now dX10_who_24 (fun c7 hc8q => ?_)
    have hc8 := jq_cm2_com hc8q
    refine jq_getR (v := (c7 + 3)) Γ hlY (at_com hc8) fl_RX10_200 rfl rfl (ly_X1_seats hc8) dX10_who_27 ?_
    refine jq_cpI (jq_virt (avs := [jI p1, jR (c7 + 3)]) (st := [jR 0]) Γ hlY rfl ml_RX10_220 rfl (at_com hc6) rfl rfl rfl rfl rfl dX10_who_30) (fun r h => ctX1_sitterAt hc6 (row_com hc8) h) (fun v9 => ?_)
    refine jq_cwI (jq_virt (avs := [jI v9]) (st := []) Γ hlY rfl ml_RX10_224 rfl at_X_0 rfl rfl rfl rfl rfl dX10_who_33) (fun r σ' h => ctX10_answerOrNone h) (fun v10 s11 => ?_)
    exact jq_ireturn Γ dX10_who_36 (hK0 _)
  · refine jq_aload_n Γ dX10_who_11 rfl 0 rfl (jq_at_0 at_X_0) ?_
    refine jq_iconst Γ dX10_who_12 rfl ?_
    refine jq_cwI (jq_virt (avs := [jI 1]) (st := []) Γ hlY rfl ml_RX10_117 rfl at_X_0 rfl rfl rfl rfl rfl dX10_who_13) (fun r σ' h => ctX10_refuse h) (fun v12 s13 => ?_)
    exact jq_ireturn Γ dX10_who_16 (hK0 _)


theorem dX10_placeOf_0 : decode cX10_placeOf 0 = .ok (.aload_n 0, 1) := by decide +kernel
theorem dX10_placeOf_1 : decode cX10_placeOf 1 = .ok (.getfield 25, 3) := by decide +kernel
theorem dX10_placeOf_4 : decode cX10_placeOf 4 = .ok (.iload_n 1, 1) := by decide +kernel
theorem dX10_placeOf_5 : decode cX10_placeOf 5 = .ok (.invokevirtual 227, 3) := by decide +kernel
theorem dX10_placeOf_8 : decode cX10_placeOf 8 = .ok (.ifCond .ne 9, 3) := by decide +kernel
theorem dX10_placeOf_11 : decode cX10_placeOf 11 = .ok (.aload_n 0, 1) := by decide +kernel
theorem dX10_placeOf_12 : decode cX10_placeOf 12 = .ok (.iconst 1, 1) := by decide +kernel
theorem dX10_placeOf_13 : decode cX10_placeOf 13 = .ok (.invokevirtual 117, 3) := by decide +kernel
theorem dX10_placeOf_16 : decode cX10_placeOf 16 = .ok (.ireturn, 1) := by decide +kernel
theorem dX10_placeOf_17 : decode cX10_placeOf 17 = .ok (.aload_n 0, 1) := by decide +kernel
theorem dX10_placeOf_18 : decode cX10_placeOf 18 = .ok (.aload_n 0, 1) := by decide +kernel
theorem dX10_placeOf_19 : decode cX10_placeOf 19 = .ok (.getfield 25, 3) := by decide +kernel
theorem dX10_placeOf_22 : decode cX10_placeOf 22 = .ok (.getfield 200, 3) := by decide +kernel
theorem dX10_placeOf_25 : decode cX10_placeOf 25 = .ok (.iload_n 1, 1) := by decide +kernel
theorem dX10_placeOf_26 : decode cX10_placeOf 26 = .ok (.iaload, 1) := by decide +kernel
theorem dX10_placeOf_27 : decode cX10_placeOf 27 = .ok (.invokevirtual 224, 3) := by decide +kernel
theorem dX10_placeOf_30 : decode cX10_placeOf 30 = .ok (.ireturn, 1) := by decide +kernel
set_option maxHeartbeats 4000000 in
set_option maxRecDepth 100000 in
theorem ctX10_placeOf {p1 : Int} {σ : jq_M} {res : Int} {σ' : jq_M}  (h : X10_placeOf p1 σ = some (res, σ')) : jq_MC jq_zX yX10_placeOf cX10_placeOf 2 (some .int) 3 82 [jR 0, jI p1] σ (some (jI res)) σ' := by
  refine jq_met (own := RX10) (L0 := [(0, jR 0), (1, jI p1)]) (by decide) rfl rfl rfl ?_
  intro X Γ hnl hlY hRT
  refine jq_use2 (P := fun r => jq_RT jq_zX X (some .int) (some (jI r.1)) r.2) ?_ h hRT
  intro K0 hK0
  unfold X10_placeOf
  refine jq_aload_n Γ dX10_placeOf_0 rfl 0 rfl (jq_at_0 at_X_0) ?_
  refine jq_getC (C := jq_cm2) Γ hlY at_X_0 fl_RX10_25 rfl rfl ly_now dX10_placeOf_1 (fun c1 hc2q => ?_)
  have hc2 := jq_cm2_com hc2q
  refine jq_iload_n Γ dX10_placeOf_4 rfl 1 rfl ?_
  refine jq_cpZ (jq_virt (avs := [jI p1]) (st := []) Γ hlY rfl ml_RX10_227 rfl (at_com hc2) rfl rfl rfl rfl rfl dX10_placeOf_5) rfl (fun r h => ctX1_isParty hc2 h) (fun v3 hz4 => ?_)
  refine jq_if_ne (tgt := 17) Γ dX10_placeOf_8 rfl ?_ ?_
  · refine jq_aload_n Γ dX10_placeOf_17 rfl 0 rfl (jq_at_0 at_X_0) ?_
    refine jq_aload_n Γ dX10_placeOf_18 rfl 0 rfl (jq_at_0 at_X_0) ?_
    refine jq_getC (C := jq_cm2) Γ hlY at_X_0 fl_RX10_25 rfl rfl ly_now dX10_placeOf_19 (fun c5 hc6q => ?_)
    have hc6 := jq_cm2_com hc6q
    refine jq_getR (v := (c5 + 3)) Γ hlY (at_com hc6) fl_RX10_200 rfl rfl (ly_X1_seats hc6) dX10_placeOf_22 ?_
    refine jq_iload_n Γ dX10_placeOf_25 rfl 1 rfl ?_
    refine jq_iald Γ (at_com_3 hc6) rfl dX10_placeOf_26 (fun v7 => ?_)
    refine jq_cwI (jq_virt (avs := [jI v7]) (st := []) Γ hlY rfl ml_RX10_224 rfl at_X_0 rfl rfl rfl rfl rfl dX10_placeOf_27) (fun r σ' h => ctX10_answerOrNone h) (fun v8 s9 => ?_)
    exact jq_ireturn Γ dX10_placeOf_30 (hK0 _)
  · refine jq_aload_n Γ dX10_placeOf_11 rfl 0 rfl (jq_at_0 at_X_0) ?_
    refine jq_iconst Γ dX10_placeOf_12 rfl ?_
    refine jq_cwI (jq_virt (avs := [jI 1]) (st := []) Γ hlY rfl ml_RX10_117 rfl at_X_0 rfl rfl rfl rfl rfl dX10_placeOf_13) (fun r σ' h => ctX10_refuse h) (fun v10 s11 => ?_)
    exact jq_ireturn Γ dX10_placeOf_16 (hK0 _)


theorem dX10_least_0 : decode cX10_least 0 = .ok (.aload_n 0, 1) := by decide +kernel
theorem dX10_least_1 : decode cX10_least 1 = .ok (.getfield 25, 3) := by decide +kernel
theorem dX10_least_4 : decode cX10_least 4 = .ok (.iload_n 1, 1) := by decide +kernel
theorem dX10_least_5 : decode cX10_least 5 = .ok (.invokevirtual 227, 3) := by decide +kernel
theorem dX10_least_8 : decode cX10_least 8 = .ok (.ifCond .ne 9, 3) := by decide +kernel
theorem dX10_least_11 : decode cX10_least 11 = .ok (.aload_n 0, 1) := by decide +kernel
theorem dX10_least_12 : decode cX10_least 12 = .ok (.iconst 1, 1) := by decide +kernel
theorem dX10_least_13 : decode cX10_least 13 = .ok (.invokevirtual 117, 3) := by decide +kernel
theorem dX10_least_16 : decode cX10_least 16 = .ok (.ireturn, 1) := by decide +kernel
theorem dX10_least_17 : decode cX10_least 17 = .ok (.aload_n 0, 1) := by decide +kernel
theorem dX10_least_18 : decode cX10_least 18 = .ok (.aload_n 0, 1) := by decide +kernel
theorem dX10_least_19 : decode cX10_least 19 = .ok (.getfield 25, 3) := by decide +kernel
theorem dX10_least_22 : decode cX10_least 22 = .ok (.getfield 230, 3) := by decide +kernel
theorem dX10_least_25 : decode cX10_least 25 = .ok (.iload_n 1, 1) := by decide +kernel
theorem dX10_least_26 : decode cX10_least 26 = .ok (.iaload, 1) := by decide +kernel
theorem dX10_least_27 : decode cX10_least 27 = .ok (.invokevirtual 167, 3) := by decide +kernel
theorem dX10_least_30 : decode cX10_least 30 = .ok (.ireturn, 1) := by decide +kernel
set_option maxHeartbeats 4000000 in
set_option maxRecDepth 100000 in
theorem ctX10_least {p1 : Int} {σ : jq_M} {res : Int} {σ' : jq_M}  (h : X10_least p1 σ = some (res, σ')) : jq_MC jq_zX yX10_least cX10_least 2 (some .int) 2 61 [jR 0, jI p1] σ (some (jI res)) σ' := by
  refine jq_met (own := RX10) (L0 := [(0, jR 0), (1, jI p1)]) (by decide) rfl rfl rfl ?_
  intro X Γ hnl hlY hRT
  refine jq_use2 (P := fun r => jq_RT jq_zX X (some .int) (some (jI r.1)) r.2) ?_ h hRT
  intro K0 hK0
  unfold X10_least
  refine jq_aload_n Γ dX10_least_0 rfl 0 rfl (jq_at_0 at_X_0) ?_
  refine jq_getC (C := jq_cm2) Γ hlY at_X_0 fl_RX10_25 rfl rfl ly_now dX10_least_1 (fun c1 hc2q => ?_)
  have hc2 := jq_cm2_com hc2q
  refine jq_iload_n Γ dX10_least_4 rfl 1 rfl ?_
  refine jq_cpZ (jq_virt (avs := [jI p1]) (st := []) Γ hlY rfl ml_RX10_227 rfl (at_com hc2) rfl rfl rfl rfl rfl dX10_least_5) rfl (fun r h => ctX1_isParty hc2 h) (fun v3 hz4 => ?_)
  refine jq_if_ne (tgt := 17) Γ dX10_least_8 rfl ?_ ?_
  · refine jq_aload_n Γ dX10_least_17 rfl 0 rfl (jq_at_0 at_X_0) ?_
    refine jq_aload_n Γ dX10_least_18 rfl 0 rfl (jq_at_0 at_X_0) ?_
    refine jq_getC (C := jq_cm2) Γ hlY at_X_0 fl_RX10_25 rfl rfl ly_now dX10_least_19 (fun c5 hc6q => ?_)
    have hc6 := jq_cm2_com hc6q
    refine jq_getR (v := (c5 + 2)) Γ hlY (at_com hc6) fl_RX10_230 rfl rfl (ly_X1_leasts hc6) dX10_least_22 ?_
    refine jq_iload_n Γ dX10_least_25 rfl 1 rfl ?_
    refine jq_iald Γ (at_com_2 hc6) rfl dX10_least_26 (fun v7 => ?_)
    refine jq_cwI (jq_virt (avs := [jI v7]) (st := []) Γ hlY rfl ml_RX10_167 rfl at_X_0 rfl rfl rfl rfl rfl dX10_least_27) (fun r σ' h => ctX10_answer h) (fun v8 s9 => ?_)
    exact jq_ireturn Γ dX10_least_30 (hK0 _)
  · refine jq_aload_n Γ dX10_least_11 rfl 0 rfl (jq_at_0 at_X_0) ?_
    refine jq_iconst Γ dX10_least_12 rfl ?_
    refine jq_cwI (jq_virt (avs := [jI 1]) (st := []) Γ hlY rfl ml_RX10_117 rfl at_X_0 rfl rfl rfl rfl rfl dX10_least_13) (fun r σ' h => ctX10_refuse h) (fun v10 s11 => ?_)
    exact jq_ireturn Γ dX10_least_16 (hK0 _)


theorem dX10_wish_0 : decode cX10_wish 0 = .ok (.aload_n 0, 1) := by decide +kernel
theorem dX10_wish_1 : decode cX10_wish 1 = .ok (.getfield 25, 3) := by decide +kernel
theorem dX10_wish_4 : decode cX10_wish 4 = .ok (.iload_n 1, 1) := by decide +kernel
theorem dX10_wish_5 : decode cX10_wish 5 = .ok (.invokevirtual 233, 3) := by decide +kernel
theorem dX10_wish_8 : decode cX10_wish 8 = .ok (.ifCond .eq 12, 3) := by decide +kernel
theorem dX10_wish_11 : decode cX10_wish 11 = .ok (.iload_n 2, 1) := by decide +kernel
theorem dX10_wish_12 : decode cX10_wish 12 = .ok (.iconst 0, 1) := by decide +kernel
theorem dX10_wish_13 : decode cX10_wish 13 = .ok (.iconst 3, 1) := by decide +kernel
theorem dX10_wish_14 : decode cX10_wish 14 = .ok (.invokestatic 93, 3) := by decide +kernel
theorem dX10_wish_17 : decode cX10_wish 17 = .ok (.ifCond .ne 9, 3) := by decide +kernel
theorem dX10_wish_20 : decode cX10_wish 20 = .ok (.aload_n 0, 1) := by decide +kernel
theorem dX10_wish_21 : decode cX10_wish 21 = .ok (.iconst 1, 1) := by decide +kernel
theorem dX10_wish_22 : decode cX10_wish 22 = .ok (.invokevirtual 117, 3) := by decide +kernel
theorem dX10_wish_25 : decode cX10_wish 25 = .ok (.ireturn, 1) := by decide +kernel
theorem dX10_wish_26 : decode cX10_wish 26 = .ok (.iload_n 2, 1) := by decide +kernel
theorem dX10_wish_27 : decode cX10_wish 27 = .ok (.tableswitch 67 0 2 #[25, 39, 53], 25) := by decide +kernel
theorem dX10_wish_52 : decode cX10_wish 52 = .ok (.aload_n 0, 1) := by decide +kernel
theorem dX10_wish_53 : decode cX10_wish 53 = .ok (.aload_n 0, 1) := by decide +kernel
theorem dX10_wish_54 : decode cX10_wish 54 = .ok (.getfield 25, 3) := by decide +kernel
theorem dX10_wish_57 : decode cX10_wish 57 = .ok (.getfield 236, 3) := by decide +kernel
theorem dX10_wish_60 : decode cX10_wish 60 = .ok (.iload_n 1, 1) := by decide +kernel
theorem dX10_wish_61 : decode cX10_wish 61 = .ok (.iaload, 1) := by decide +kernel
theorem dX10_wish_62 : decode cX10_wish 62 = .ok (.invokevirtual 167, 3) := by decide +kernel
theorem dX10_wish_65 : decode cX10_wish 65 = .ok (.ireturn, 1) := by decide +kernel
theorem dX10_wish_66 : decode cX10_wish 66 = .ok (.aload_n 0, 1) := by decide +kernel
theorem dX10_wish_67 : decode cX10_wish 67 = .ok (.aload_n 0, 1) := by decide +kernel
theorem dX10_wish_68 : decode cX10_wish 68 = .ok (.getfield 25, 3) := by decide +kernel
theorem dX10_wish_71 : decode cX10_wish 71 = .ok (.getfield 239, 3) := by decide +kernel
theorem dX10_wish_74 : decode cX10_wish 74 = .ok (.iload_n 1, 1) := by decide +kernel
theorem dX10_wish_75 : decode cX10_wish 75 = .ok (.iaload, 1) := by decide +kernel
theorem dX10_wish_76 : decode cX10_wish 76 = .ok (.invokevirtual 167, 3) := by decide +kernel
theorem dX10_wish_79 : decode cX10_wish 79 = .ok (.ireturn, 1) := by decide +kernel
theorem dX10_wish_80 : decode cX10_wish 80 = .ok (.aload_n 0, 1) := by decide +kernel
theorem dX10_wish_81 : decode cX10_wish 81 = .ok (.aload_n 0, 1) := by decide +kernel
theorem dX10_wish_82 : decode cX10_wish 82 = .ok (.getfield 25, 3) := by decide +kernel
theorem dX10_wish_85 : decode cX10_wish 85 = .ok (.getfield 242, 3) := by decide +kernel
theorem dX10_wish_88 : decode cX10_wish 88 = .ok (.iload_n 1, 1) := by decide +kernel
theorem dX10_wish_89 : decode cX10_wish 89 = .ok (.iaload, 1) := by decide +kernel
theorem dX10_wish_90 : decode cX10_wish 90 = .ok (.invokevirtual 224, 3) := by decide +kernel
theorem dX10_wish_93 : decode cX10_wish 93 = .ok (.ireturn, 1) := by decide +kernel
theorem dX10_wish_94 : decode cX10_wish 94 = .ok (.aload_n 0, 1) := by decide +kernel
theorem dX10_wish_95 : decode cX10_wish 95 = .ok (.aload_n 0, 1) := by decide +kernel
theorem dX10_wish_96 : decode cX10_wish 96 = .ok (.getfield 25, 3) := by decide +kernel
theorem dX10_wish_99 : decode cX10_wish 99 = .ok (.getfield 245, 3) := by decide +kernel
theorem dX10_wish_102 : decode cX10_wish 102 = .ok (.iload_n 1, 1) := by decide +kernel
theorem dX10_wish_103 : decode cX10_wish 103 = .ok (.iaload, 1) := by decide +kernel
theorem dX10_wish_104 : decode cX10_wish 104 = .ok (.invokevirtual 167, 3) := by decide +kernel
theorem dX10_wish_107 : decode cX10_wish 107 = .ok (.ireturn, 1) := by decide +kernel
set_option maxHeartbeats 4000000 in
set_option maxRecDepth 100000 in
theorem ctX10_wish {p1 : Int} {p2 : Int} {σ : jq_M} {res : Int} {σ' : jq_M}  (h : X10_wish p1 p2 σ = some (res, σ')) : jq_MC jq_zX yX10_wish cX10_wish 3 (some .int) 3 82 [jR 0, jI p1, jI p2] σ (some (jI res)) σ' := by
  refine jq_met (own := RX10) (L0 := [(0, jR 0), (1, jI p1), (2, jI p2)]) (by decide) rfl rfl rfl ?_
  intro X Γ hnl hlY hRT
  refine jq_use2 (P := fun r => jq_RT jq_zX X (some .int) (some (jI r.1)) r.2) ?_ h hRT
  intro K0 hK0
  unfold X10_wish
  have hj20_0 : ∀ (s5 : jq_M), jq_J (X10_wish_j20 s5) K0 (jq_V jq_zX X (jq_zN jq_zX) s5 20 [(0, jR 0)] []) := by
    intro s5
    unfold X10_wish_j20
    refine jq_aload_n Γ dX10_wish_20 rfl 0 rfl (jq_at_0 at_X_0) ?_
    refine jq_iconst Γ dX10_wish_21 rfl ?_
    refine jq_cwI (jq_virt (avs := [jI 1]) (st := []) Γ hlY rfl ml_RX10_117 rfl at_X_0 rfl rfl rfl rfl rfl dX10_wish_22) (fun r σ' h => ctX10_refuse h) (fun v6 s7 => ?_)
    exact jq_ireturn Γ dX10_wish_25 (hK0 _)
  refine jq_aload_n Γ dX10_wish_0 rfl 0 rfl (jq_at_0 at_X_0) ?_
  refine jq_getC (C := jq_cm2) Γ hlY at_X_0 fl_RX10_25 rfl rfl ly_now dX10_wish_1 (fun c1 hc2q => ?_)
  have hc2 := jq_cm2_com hc2q
  refine jq_iload_n Γ dX10_wish_4 rfl 1 rfl ?_
  refine jq_cpZ (jq_virt (avs := [jI p1]) (st := []) Γ hlY rfl ml_RX10_233 rfl (at_com hc2) rfl rfl rfl rfl rfl dX10_wish_5) rfl (fun r h => ctX1_isWish hc2 h) (fun v3 hz4 => ?_)
  refine jq_if_eq (tgt := 20) Γ dX10_wish_8 rfl ?_ ?_
  · refine jq_sub Γ (L' := [(0, jR 0)]) [0] rfl ?_
    exact hj20_0 σ
  · refine jq_iload_n Γ dX10_wish_11 rfl 2 rfl ?_
    refine jq_iconst Γ dX10_wish_12 rfl ?_
    refine jq_iconst Γ dX10_wish_13 rfl ?_
    refine jq_cpZ (jq_stat (avs := [jI p2, jI 0, jI 3]) (st := []) Γ hlY rfl ml_RX10_93 rfl rfl rfl rfl rfl dX10_wish_14) rfl (fun r h => ctX10_within h) (fun v8 hz9 => ?_)
    refine jq_if_ne (tgt := 26) Γ dX10_wish_17 rfl ?_ ?_
    · refine jq_iload_n Γ dX10_wish_26 rfl 2 rfl ?_
      refine jq_split (fun hc10 => ?_) (fun hn0_27 => ?_)
      · refine jq_tabIn (tgt := 52) Γ dX10_wish_27 hc10 rfl rfl rfl ?_
        refine jq_aload_n Γ dX10_wish_52 rfl 0 rfl (jq_at_0 at_X_0) ?_
        refine jq_aload_n Γ dX10_wish_53 rfl 0 rfl (jq_at_0 at_X_0) ?_
        refine jq_getC (C := jq_cm2) Γ hlY at_X_0 fl_RX10_25 rfl rfl ly_now dX10_wish_54 (fun c11 hc12q => ?_)
        have hc12 := jq_cm2_com hc12q
        refine jq_getR (v := (c11 + 4)) Γ hlY (at_com hc12) fl_RX10_236 rfl rfl (ly_X1_whose hc12) dX10_wish_57 ?_
        refine jq_iload_n Γ dX10_wish_60 rfl 1 rfl ?_
        refine jq_iald Γ (at_com_4 hc12) rfl dX10_wish_61 (fun v13 => ?_)
        refine jq_cwI (jq_virt (avs := [jI v13]) (st := []) Γ hlY rfl ml_RX10_167 rfl at_X_0 rfl rfl rfl rfl rfl dX10_wish_62) (fun r σ' h => ctX10_answer h) (fun v14 s15 => ?_)
        exact jq_ireturn Γ dX10_wish_65 (hK0 _)
      · refine jq_split (fun hc16 => ?_) (fun hn1_27 => ?_)
        · refine jq_tabIn (tgt := 66) Γ dX10_wish_27 hc16 rfl rfl rfl ?_
          refine jq_aload_n Γ dX10_wish_66 rfl 0 rfl (jq_at_0 at_X_0) ?_
          refine jq_aload_n Γ dX10_wish_67 rfl 0 rfl (jq_at_0 at_X_0) ?_
          refine jq_getC (C := jq_cm2) Γ hlY at_X_0 fl_RX10_25 rfl rfl ly_now dX10_wish_68 (fun c17 hc18q => ?_)
          have hc18 := jq_cm2_com hc18q
          refine jq_getR (v := (c17 + 5)) Γ hlY (at_com hc18) fl_RX10_239 rfl rfl (ly_X1_kinds hc18) dX10_wish_71 ?_
          refine jq_iload_n Γ dX10_wish_74 rfl 1 rfl ?_
          refine jq_iald Γ (at_com_5 hc18) rfl dX10_wish_75 (fun v19 => ?_)
          refine jq_cwI (jq_virt (avs := [jI v19]) (st := []) Γ hlY rfl ml_RX10_167 rfl at_X_0 rfl rfl rfl rfl rfl dX10_wish_76) (fun r σ' h => ctX10_answer h) (fun v20 s21 => ?_)
          exact jq_ireturn Γ dX10_wish_79 (hK0 _)
        · refine jq_split (fun hc22 => ?_) (fun hn2_27 => ?_)
          · refine jq_tabIn (tgt := 80) Γ dX10_wish_27 hc22 rfl rfl rfl ?_
            refine jq_aload_n Γ dX10_wish_80 rfl 0 rfl (jq_at_0 at_X_0) ?_
            refine jq_aload_n Γ dX10_wish_81 rfl 0 rfl (jq_at_0 at_X_0) ?_
            refine jq_getC (C := jq_cm2) Γ hlY at_X_0 fl_RX10_25 rfl rfl ly_now dX10_wish_82 (fun c23 hc24q => ?_)
            have hc24 := jq_cm2_com hc24q
            refine jq_getR (v := (c23 + 6)) Γ hlY (at_com hc24) fl_RX10_242 rfl rfl (ly_X1_whom hc24) dX10_wish_85 ?_
            refine jq_iload_n Γ dX10_wish_88 rfl 1 rfl ?_
            refine jq_iald Γ (at_com_6 hc24) rfl dX10_wish_89 (fun v25 => ?_)
            refine jq_cwI (jq_virt (avs := [jI v25]) (st := []) Γ hlY rfl ml_RX10_224 rfl at_X_0 rfl rfl rfl rfl rfl dX10_wish_90) (fun r σ' h => ctX10_answerOrNone h) (fun v26 s27 => ?_)
            exact jq_ireturn Γ dX10_wish_93 (hK0 _)
          · refine jq_tabOut (tgt := 94) Γ dX10_wish_27 (by omega) rfl ?_
            refine jq_aload_n Γ dX10_wish_94 rfl 0 rfl (jq_at_0 at_X_0) ?_
            refine jq_aload_n Γ dX10_wish_95 rfl 0 rfl (jq_at_0 at_X_0) ?_
            refine jq_getC (C := jq_cm2) Γ hlY at_X_0 fl_RX10_25 rfl rfl ly_now dX10_wish_96 (fun c28 hc29q => ?_)
            have hc29 := jq_cm2_com hc29q
            refine jq_getR (v := (c28 + 7)) Γ hlY (at_com hc29) fl_RX10_245 rfl rfl (ly_X1_worths hc29) dX10_wish_99 ?_
            refine jq_iload_n Γ dX10_wish_102 rfl 1 rfl ?_
            refine jq_iald Γ (at_com_7 hc29) rfl dX10_wish_103 (fun v30 => ?_)
            refine jq_cwI (jq_virt (avs := [jI v30]) (st := []) Γ hlY rfl ml_RX10_167 rfl at_X_0 rfl rfl rfl rfl rfl dX10_wish_104) (fun r σ' h => ctX10_answer h) (fun v31 s32 => ?_)
            exact jq_ireturn Γ dX10_wish_107 (hK0 _)
    · refine jq_sub Γ (L' := [(0, jR 0)]) [0] rfl ?_
      exact hj20_0 σ


theorem dX1_isArticle_0 : decode cX1_isArticle 0 = .ok (.iload_n 1, 1) := by decide +kernel
theorem dX1_isArticle_1 : decode cX1_isArticle 1 = .ok (.ifCond .lt 21, 3) := by decide +kernel
theorem dX1_isArticle_4 : decode cX1_isArticle 4 = .ok (.iload_n 1, 1) := by decide +kernel
theorem dX1_isArticle_5 : decode cX1_isArticle 5 = .ok (.aload_n 0, 1) := by decide +kernel
theorem dX1_isArticle_6 : decode cX1_isArticle 6 = .ok (.getfield 72, 3) := by decide +kernel
theorem dX1_isArticle_9 : decode cX1_isArticle 9 = .ok (.if_icmp .ge 13, 3) := by decide +kernel
theorem dX1_isArticle_12 : decode cX1_isArticle 12 = .ok (.iload_n 1, 1) := by decide +kernel
theorem dX1_isArticle_13 : decode cX1_isArticle 13 = .ok (.bipush 8, 2) := by decide +kernel
theorem dX1_isArticle_15 : decode cX1_isArticle 15 = .ok (.if_icmp .ge 7, 3) := by decide +kernel
theorem dX1_isArticle_18 : decode cX1_isArticle 18 = .ok (.iconst 1, 1) := by decide +kernel
theorem dX1_isArticle_19 : decode cX1_isArticle 19 = .ok (.goto 4, 3) := by decide +kernel
theorem dX1_isArticle_22 : decode cX1_isArticle 22 = .ok (.iconst 0, 1) := by decide +kernel
theorem dX1_isArticle_23 : decode cX1_isArticle 23 = .ok (.ireturn, 1) := by decide +kernel
set_option maxHeartbeats 4000000 in
set_option maxRecDepth 100000 in
theorem ctX1_isArticle {o : Int} {p1 : Int} {σ : jq_M} {res : Int} (ho : jq_com o) (h : X1_isArticle o p1 σ = some res) : jq_MC jq_zX yX1_isArticle cX1_isArticle 2 (some .boolean) 1 40 [jR o, jI p1] σ (some (jI res)) σ := by
  refine jq_met (own := RX1) (L0 := [(0, jR o), (1, jI p1)]) (by decide) rfl rfl rfl ?_
  intro X Γ hnl hlY hRT
  refine jq_use2 (P := fun r => jq_RT jq_zX X (some .boolean) (some (jI r)) σ) ?_ h hRT
  intro K0 hK0
  unfold X1_isArticle
  refine jq_iload_n Γ dX1_isArticle_0 rfl 1 rfl ?_
  refine jq_if_lt (tgt := 22) Γ dX1_isArticle_1 rfl ?_ ?_
  · refine jq_iconst Γ dX1_isArticle_22 rfl ?_
    exact jq_zreturn Γ (Or.inl rfl) dX1_isArticle_23 (hK0 _)
  · refine jq_iload_n Γ dX1_isArticle_4 rfl 1 rfl ?_
    refine jq_aload_n Γ dX1_isArticle_5 rfl 0 rfl (jq_at_0 (at_com ho)) ?_
    refine jq_getI (J := 4) Γ (at_com ho) fl_RX1_72 rfl rfl dX1_isArticle_6 ?_
    refine jq_icmp_ge (tgt := 22) Γ dX1_isArticle_9 rfl ?_ ?_
    · refine jq_iconst Γ dX1_isArticle_22 rfl ?_
      exact jq_zreturn Γ (Or.inl rfl) dX1_isArticle_23 (hK0 _)
    · refine jq_iload_n Γ dX1_isArticle_12 rfl 1 rfl ?_
      refine jq_bipush Γ dX1_isArticle_13 rfl ?_
      refine jq_icmp_ge (tgt := 22) Γ dX1_isArticle_15 rfl ?_ ?_
      · refine jq_iconst Γ dX1_isArticle_22 rfl ?_
        exact jq_zreturn Γ (Or.inl rfl) dX1_isArticle_23 (hK0 _)
      · refine jq_iconst Γ dX1_isArticle_18 rfl ?_
        refine jq_goto Γ (tgt := 23) dX1_isArticle_19 rfl ?_
        exact jq_zreturn Γ (Or.inr rfl) dX1_isArticle_23 (hK0 _)


theorem dX1_isAgreed_0 : decode cX1_isAgreed 0 = .ok (.aload_n 0, 1) := by decide +kernel
theorem dX1_isAgreed_1 : decode cX1_isAgreed 1 = .ok (.getfield 75, 3) := by decide +kernel
theorem dX1_isAgreed_4 : decode cX1_isAgreed 4 = .ok (.iload_n 1, 1) := by decide +kernel
theorem dX1_isAgreed_5 : decode cX1_isAgreed 5 = .ok (.invokestatic 94, 3) := by decide +kernel
theorem dX1_isAgreed_8 : decode cX1_isAgreed 8 = .ok (.ireturn, 1) := by decide +kernel
set_option maxHeartbeats 4000000 in
set_option maxRecDepth 100000 in
theorem ctX1_isAgreed {o : Int} {p1 : Int} {σ : jq_M} {res : Int} (ho : jq_com o) (h : X1_isAgreed o p1 σ = some res) : jq_MC jq_zX yX1_isAgreed cX1_isAgreed 2 (some .boolean) 2 61 [jR o, jI p1] σ (some (jI res)) σ := by
  refine jq_met (own := RX1) (L0 := [(0, jR o), (1, jI p1)]) (by decide) rfl rfl rfl ?_
  intro X Γ hnl hlY hRT
  refine jq_use2 (P := fun r => jq_RT jq_zX X (some .boolean) (some (jI r)) σ) ?_ h hRT
  intro K0 hK0
  unfold X1_isAgreed
  refine jq_aload_n Γ dX1_isAgreed_0 rfl 0 rfl (jq_at_0 (at_com ho)) ?_
  refine jq_getI (J := 5) Γ (at_com ho) fl_RX1_75 rfl rfl dX1_isAgreed_1 ?_
  refine jq_iload_n Γ dX1_isAgreed_4 rfl 1 rfl ?_
  refine jq_cpZ (jq_nest (avs := [jI (σ o 5), jI p1]) (st := []) Γ hlY rfl ml_RX1_94 rfl rfl rfl rfl rfl dX1_isAgreed_5) rfl (fun r h => ctX10_holds h) (fun v1 hz2 => ?_)
  exact jq_zreturn Γ (hz2) dX1_isAgreed_8 (hK0 _)


theorem dX10_asNumber_0 : decode cX10_asNumber 0 = .ok (.iload_n 0, 1) := by decide +kernel
theorem dX10_asNumber_1 : decode cX10_asNumber 1 = .ok (.ifCond .eq 7, 3) := by decide +kernel
theorem dX10_asNumber_4 : decode cX10_asNumber 4 = .ok (.iconst 1, 1) := by decide +kernel
theorem dX10_asNumber_5 : decode cX10_asNumber 5 = .ok (.goto 4, 3) := by decide +kernel
theorem dX10_asNumber_8 : decode cX10_asNumber 8 = .ok (.iconst 0, 1) := by decide +kernel
theorem dX10_asNumber_9 : decode cX10_asNumber 9 = .ok (.ireturn, 1) := by decide +kernel
set_option maxHeartbeats 4000000 in
set_option maxRecDepth 100000 in
theorem ctX10_asNumber {p0 : Int} {σ : jq_M} {res : Int}  (h : X10_asNumber p0 σ = some res) : jq_MC jq_zX yX10_asNumber cX10_asNumber 1 (some .int) 1 40 [jI p0] σ (some (jI res)) σ := by
  refine jq_met (own := RX10) (L0 := [(0, jI p0)]) (by decide) rfl rfl rfl ?_
  intro X Γ hnl hlY hRT
  refine jq_use2 (P := fun r => jq_RT jq_zX X (some .int) (some (jI r)) σ) ?_ h hRT
  intro K0 hK0
  unfold X10_asNumber
  refine jq_iload_n Γ dX10_asNumber_0 rfl 0 rfl ?_
  refine jq_if_eq (tgt := 8) Γ dX10_asNumber_1 rfl ?_ ?_
  · refine jq_iconst Γ dX10_asNumber_8 rfl ?_
    exact jq_ireturn Γ dX10_asNumber_9 (hK0 _)
  · refine jq_iconst Γ dX10_asNumber_4 rfl ?_
    refine jq_goto Γ (tgt := 9) dX10_asNumber_5 rfl ?_
    exact jq_ireturn Γ dX10_asNumber_9 (hK0 _)


theorem dX10_article_0 : decode cX10_article 0 = .ok (.aload_n 0, 1) := by decide +kernel
theorem dX10_article_1 : decode cX10_article 1 = .ok (.getfield 25, 3) := by decide +kernel
theorem dX10_article_4 : decode cX10_article 4 = .ok (.iload_n 1, 1) := by decide +kernel
theorem dX10_article_5 : decode cX10_article 5 = .ok (.invokevirtual 248, 3) := by decide +kernel
theorem dX10_article_8 : decode cX10_article 8 = .ok (.ifCond .eq 12, 3) := by decide +kernel
theorem dX10_article_11 : decode cX10_article 11 = .ok (.iload_n 2, 1) := by decide +kernel
theorem dX10_article_12 : decode cX10_article 12 = .ok (.iconst 0, 1) := by decide +kernel
theorem dX10_article_13 : decode cX10_article 13 = .ok (.iconst 4, 1) := by decide +kernel
theorem dX10_article_14 : decode cX10_article 14 = .ok (.invokestatic 93, 3) := by decide +kernel
theorem dX10_article_17 : decode cX10_article 17 = .ok (.ifCond .ne 9, 3) := by decide +kernel
theorem dX10_article_20 : decode cX10_article 20 = .ok (.aload_n 0, 1) := by decide +kernel
theorem dX10_article_21 : decode cX10_article 21 = .ok (.iconst 1, 1) := by decide +kernel
theorem dX10_article_22 : decode cX10_article 22 = .ok (.invokevirtual 117, 3) := by decide +kernel
theorem dX10_article_25 : decode cX10_article 25 = .ok (.ireturn, 1) := by decide +kernel
theorem dX10_article_26 : decode cX10_article 26 = .ok (.iload_n 2, 1) := by decide +kernel
theorem dX10_article_27 : decode cX10_article 27 = .ok (.tableswitch 85 0 3 #[29, 43, 57, 71], 29) := by decide +kernel
theorem dX10_article_56 : decode cX10_article 56 = .ok (.aload_n 0, 1) := by decide +kernel
theorem dX10_article_57 : decode cX10_article 57 = .ok (.aload_n 0, 1) := by decide +kernel
theorem dX10_article_58 : decode cX10_article 58 = .ok (.getfield 25, 3) := by decide +kernel
theorem dX10_article_61 : decode cX10_article 61 = .ok (.getfield 251, 3) := by decide +kernel
theorem dX10_article_64 : decode cX10_article 64 = .ok (.iload_n 1, 1) := by decide +kernel
theorem dX10_article_65 : decode cX10_article 65 = .ok (.iaload, 1) := by decide +kernel
theorem dX10_article_66 : decode cX10_article 66 = .ok (.invokevirtual 167, 3) := by decide +kernel
theorem dX10_article_69 : decode cX10_article 69 = .ok (.ireturn, 1) := by decide +kernel
theorem dX10_article_70 : decode cX10_article 70 = .ok (.aload_n 0, 1) := by decide +kernel
theorem dX10_article_71 : decode cX10_article 71 = .ok (.aload_n 0, 1) := by decide +kernel
theorem dX10_article_72 : decode cX10_article 72 = .ok (.getfield 25, 3) := by decide +kernel
theorem dX10_article_75 : decode cX10_article 75 = .ok (.getfield 254, 3) := by decide +kernel
theorem dX10_article_78 : decode cX10_article 78 = .ok (.iload_n 1, 1) := by decide +kernel
theorem dX10_article_79 : decode cX10_article 79 = .ok (.iaload, 1) := by decide +kernel
theorem dX10_article_80 : decode cX10_article 80 = .ok (.invokevirtual 167, 3) := by decide +kernel
theorem dX10_article_83 : decode cX10_article 83 = .ok (.ireturn, 1) := by decide +kernel
theorem dX10_article_84 : decode cX10_article 84 = .ok (.aload_n 0, 1) := by decide +kernel
theorem dX10_article_85 : decode cX10_article 85 = .ok (.aload_n 0, 1) := by decide +kernel
theorem dX10_article_86 : decode cX10_article 86 = .ok (.getfield 25, 3) := by decide +kernel
theorem dX10_article_89 : decode cX10_article 89 = .ok (.getfield 257, 3) := by decide +kernel
theorem dX10_article_92 : decode cX10_article 92 = .ok (.iload_n 1, 1) := by decide +kernel
theorem dX10_article_93 : decode cX10_article 93 = .ok (.iaload, 1) := by decide +kernel
theorem dX10_article_94 : decode cX10_article 94 = .ok (.invokevirtual 167, 3) := by decide +kernel
theorem dX10_article_97 : decode cX10_article 97 = .ok (.ireturn, 1) := by decide +kernel
theorem dX10_article_98 : decode cX10_article 98 = .ok (.aload_n 0, 1) := by decide +kernel
theorem dX10_article_99 : decode cX10_article 99 = .ok (.aload_n 0, 1) := by decide +kernel
theorem dX10_article_100 : decode cX10_article 100 = .ok (.getfield 25, 3) := by decide +kernel
theorem dX10_article_103 : decode cX10_article 103 = .ok (.getfield 260, 3) := by decide +kernel
theorem dX10_article_106 : decode cX10_article 106 = .ok (.iload_n 1, 1) := by decide +kernel
theorem dX10_article_107 : decode cX10_article 107 = .ok (.iaload, 1) := by decide +kernel
theorem dX10_article_108 : decode cX10_article 108 = .ok (.invokevirtual 167, 3) := by decide +kernel
theorem dX10_article_111 : decode cX10_article 111 = .ok (.ireturn, 1) := by decide +kernel
theorem dX10_article_112 : decode cX10_article 112 = .ok (.aload_n 0, 1) := by decide +kernel
theorem dX10_article_113 : decode cX10_article 113 = .ok (.aload_n 0, 1) := by decide +kernel
theorem dX10_article_114 : decode cX10_article 114 = .ok (.getfield 25, 3) := by decide +kernel
theorem dX10_article_117 : decode cX10_article 117 = .ok (.iload_n 1, 1) := by decide +kernel
theorem dX10_article_118 : decode cX10_article 118 = .ok (.invokevirtual 263, 3) := by decide +kernel
theorem dX10_article_121 : decode cX10_article 121 = .ok (.invokestatic 266, 3) := by decide +kernel
theorem dX10_article_124 : decode cX10_article 124 = .ok (.invokevirtual 167, 3) := by decide +kernel
theorem dX10_article_127 : decode cX10_article 127 = .ok (.ireturn, 1) := by decide +kernel
set_option maxHeartbeats 4000000 in
set_option maxRecDepth 100000 in
theorem ctX10_article {p1 : Int} {p2 : Int} {σ : jq_M} {res : Int} {σ' : jq_M}  (h : X10_article p1 p2 σ = some (res, σ')) : jq_MC jq_zX yX10_article cX10_article 3 (some .int) 3 82 [jR 0, jI p1, jI p2] σ (some (jI res)) σ' := by
  refine jq_met (own := RX10) (L0 := [(0, jR 0), (1, jI p1), (2, jI p2)]) (by decide) rfl rfl rfl ?_
  intro X Γ hnl hlY hRT
  refine jq_use2 (P := fun r => jq_RT jq_zX X (some .int) (some (jI r.1)) r.2) ?_ h hRT
  intro K0 hK0
  unfold X10_article
  have hj20_0 : ∀ (s5 : jq_M), jq_J (X10_article_j20 s5) K0 (jq_V jq_zX X (jq_zN jq_zX) s5 20 [(0, jR 0)] []) := by
    intro s5
    unfold X10_article_j20
    refine jq_aload_n Γ dX10_article_20 rfl 0 rfl (jq_at_0 at_X_0) ?_
    refine jq_iconst Γ dX10_article_21 rfl ?_
    refine jq_cwI (jq_virt (avs := [jI 1]) (st := []) Γ hlY rfl ml_RX10_117 rfl at_X_0 rfl rfl rfl rfl rfl dX10_article_22) (fun r σ' h => ctX10_refuse h) (fun v6 s7 => ?_)
    exact jq_ireturn Γ dX10_article_25 (hK0 _)
  refine jq_aload_n Γ dX10_article_0 rfl 0 rfl (jq_at_0 at_X_0) ?_
  refine jq_getC (C := jq_cm2) Γ hlY at_X_0 fl_RX10_25 rfl rfl ly_now dX10_article_1 (fun c1 hc2q => ?_)
  have hc2 := jq_cm2_com hc2q
  refine jq_iload_n Γ dX10_article_4 rfl 1 rfl ?_
  refine jq_cpZ (jq_virt (avs := [jI p1]) (st := []) Γ hlY rfl ml_RX10_248 rfl (at_com hc2) rfl rfl rfl rfl rfl dX10_article_5) rfl (fun r h => ctX1_isArticle hc2 h) (fun v3 hz4 => ?_)
  refine jq_if_eq (tgt := 20) Γ dX10_article_8 rfl ?_ ?_
  · refine jq_sub Γ (L' := [(0, jR 0)]) [0] rfl ?_
    exact hj20_0 σ
  · refine jq_iload_n Γ dX10_article_11 rfl 2 rfl ?_
    refine jq_iconst Γ dX10_article_12 rfl ?_
    refine jq_iconst Γ dX10_article_13 rfl ?_
    refine jq_cpZ (jq_stat (avs := [jI p2, jI 0, jI 4]) (st := []) Γ hlY rfl ml_RX10_93 rfl rfl rfl rfl rfl dX10_article_14) rfl (fun r h => ctX10_within h) (fun v8 hz9 => ?_)
    refine jq_if_ne (tgt := 26) Γ dX10_article_17 rfl ?_ ?_
    · refine jq_iload_n Γ dX10_article_26 rfl 2 rfl ?_
      refine jq_split (fun hc10 => ?_) (fun hn0_27 => ?_)
      · refine jq_tabIn (tgt := 56) Γ dX10_article_27 hc10 rfl rfl rfl ?_
        refine jq_aload_n Γ dX10_article_56 rfl 0 rfl (jq_at_0 at_X_0) ?_
        refine jq_aload_n Γ dX10_article_57 rfl 0 rfl (jq_at_0 at_X_0) ?_
        refine jq_getC (C := jq_cm2) Γ hlY at_X_0 fl_RX10_25 rfl rfl ly_now dX10_article_58 (fun c11 hc12q => ?_)
        have hc12 := jq_cm2_com hc12q
        refine jq_getR (v := (c11 + 9)) Γ hlY (at_com hc12) fl_RX10_251 rfl rfl (ly_X1_takes hc12) dX10_article_61 ?_
        refine jq_iload_n Γ dX10_article_64 rfl 1 rfl ?_
        refine jq_iald Γ (at_com_9 hc12) rfl dX10_article_65 (fun v13 => ?_)
        refine jq_cwI (jq_virt (avs := [jI v13]) (st := []) Γ hlY rfl ml_RX10_167 rfl at_X_0 rfl rfl rfl rfl rfl dX10_article_66) (fun r σ' h => ctX10_answer h) (fun v14 s15 => ?_)
        exact jq_ireturn Γ dX10_article_69 (hK0 _)
      · refine jq_split (fun hc16 => ?_) (fun hn1_27 => ?_)
        · refine jq_tabIn (tgt := 70) Γ dX10_article_27 hc16 rfl rfl rfl ?_
          refine jq_aload_n Γ dX10_article_70 rfl 0 rfl (jq_at_0 at_X_0) ?_
          refine jq_aload_n Γ dX10_article_71 rfl 0 rfl (jq_at_0 at_X_0) ?_
          refine jq_getC (C := jq_cm2) Γ hlY at_X_0 fl_RX10_25 rfl rfl ly_now dX10_article_72 (fun c17 hc18q => ?_)
          have hc18 := jq_cm2_com hc18q
          refine jq_getR (v := (c17 + 10)) Γ hlY (at_com hc18) fl_RX10_254 rfl rfl (ly_X1_odds hc18) dX10_article_75 ?_
          refine jq_iload_n Γ dX10_article_78 rfl 1 rfl ?_
          refine jq_iald Γ (at_com_10 hc18) rfl dX10_article_79 (fun v19 => ?_)
          refine jq_cwI (jq_virt (avs := [jI v19]) (st := []) Γ hlY rfl ml_RX10_167 rfl at_X_0 rfl rfl rfl rfl rfl dX10_article_80) (fun r σ' h => ctX10_answer h) (fun v20 s21 => ?_)
          exact jq_ireturn Γ dX10_article_83 (hK0 _)
        · refine jq_split (fun hc22 => ?_) (fun hn2_27 => ?_)
          · refine jq_tabIn (tgt := 84) Γ dX10_article_27 hc22 rfl rfl rfl ?_
            refine jq_aload_n Γ dX10_article_84 rfl 0 rfl (jq_at_0 at_X_0) ?_
            refine jq_aload_n Γ dX10_article_85 rfl 0 rfl (jq_at_0 at_X_0) ?_
            refine jq_getC (C := jq_cm2) Γ hlY at_X_0 fl_RX10_25 rfl rfl ly_now dX10_article_86 (fun c23 hc24q => ?_)
            have hc24 := jq_cm2_com hc24q
            refine jq_getR (v := (c23 + 11)) Γ hlY (at_com hc24) fl_RX10_257 rfl rfl (ly_X1_leansOn hc24) dX10_article_89 ?_
            refine jq_iload_n Γ dX10_article_92 rfl 1 rfl ?_
            refine jq_iald Γ (at_com_11 hc24) rfl dX10_article_93 (fun v25 => ?_)
            refine jq_cwI (jq_virt (avs := [jI v25]) (st := []) Γ hlY rfl ml_RX10_167 rfl at_X_0 rfl rfl rfl rfl rfl dX10_article_94) (fun r σ' h => ctX10_answer h) (fun v26 s27 => ?_)
            exact jq_ireturn Γ dX10_article_97 (hK0 _)
          · refine jq_split (fun hc28 => ?_) (fun hn3_27 => ?_)
            · refine jq_tabIn (tgt := 98) Γ dX10_article_27 hc28 rfl rfl rfl ?_
              refine jq_aload_n Γ dX10_article_98 rfl 0 rfl (jq_at_0 at_X_0) ?_
              refine jq_aload_n Γ dX10_article_99 rfl 0 rfl (jq_at_0 at_X_0) ?_
              refine jq_getC (C := jq_cm2) Γ hlY at_X_0 fl_RX10_25 rfl rfl ly_now dX10_article_100 (fun c29 hc30q => ?_)
              have hc30 := jq_cm2_com hc30q
              refine jq_getR (v := (c29 + 12)) Γ hlY (at_com hc30) fl_RX10_260 rfl rfl (ly_X1_worked hc30) dX10_article_103 ?_
              refine jq_iload_n Γ dX10_article_106 rfl 1 rfl ?_
              refine jq_iald Γ (at_com_12 hc30) rfl dX10_article_107 (fun v31 => ?_)
              refine jq_cwI (jq_virt (avs := [jI v31]) (st := []) Γ hlY rfl ml_RX10_167 rfl at_X_0 rfl rfl rfl rfl rfl dX10_article_108) (fun r σ' h => ctX10_answer h) (fun v32 s33 => ?_)
              exact jq_ireturn Γ dX10_article_111 (hK0 _)
            · refine jq_tabOut (tgt := 112) Γ dX10_article_27 (by omega) rfl ?_
              refine jq_aload_n Γ dX10_article_112 rfl 0 rfl (jq_at_0 at_X_0) ?_
              refine jq_aload_n Γ dX10_article_113 rfl 0 rfl (jq_at_0 at_X_0) ?_
              refine jq_getC (C := jq_cm2) Γ hlY at_X_0 fl_RX10_25 rfl rfl ly_now dX10_article_114 (fun c34 hc35q => ?_)
              have hc35 := jq_cm2_com hc35q
              refine jq_iload_n Γ dX10_article_117 rfl 1 rfl ?_
              refine jq_cpZ (jq_virt (avs := [jI p1]) (st := [jR 0]) Γ hlY rfl ml_RX10_263 rfl (at_com hc35) rfl rfl rfl rfl rfl dX10_article_118) rfl (fun r h => ctX1_isAgreed hc35 h) (fun v36 hz37 => ?_)
              refine jq_cpI (jq_stat (avs := [jI v36]) (st := [jR 0]) Γ hlY rfl ml_RX10_266 rfl rfl rfl rfl rfl dX10_article_121) (fun r h => ctX10_asNumber h) (fun v38 => ?_)
              refine jq_cwI (jq_virt (avs := [jI v38]) (st := []) Γ hlY rfl ml_RX10_167 rfl at_X_0 rfl rfl rfl rfl rfl dX10_article_124) (fun r σ' h => ctX10_answer h) (fun v39 s40 => ?_)
              exact jq_ireturn Γ dX10_article_127 (hK0 _)
    · refine jq_sub Γ (L' := [(0, jR 0)]) [0] rfl ?_
      exact hj20_0 σ


theorem dX10_areTwo_0 : decode cX10_areTwo 0 = .ok (.aload_n 0, 1) := by decide +kernel
theorem dX10_areTwo_1 : decode cX10_areTwo 1 = .ok (.getfield 25, 3) := by decide +kernel
theorem dX10_areTwo_4 : decode cX10_areTwo 4 = .ok (.iload_n 1, 1) := by decide +kernel
theorem dX10_areTwo_5 : decode cX10_areTwo 5 = .ok (.invokevirtual 227, 3) := by decide +kernel
theorem dX10_areTwo_8 : decode cX10_areTwo 8 = .ok (.ifCond .eq 23, 3) := by decide +kernel
theorem dX10_areTwo_11 : decode cX10_areTwo 11 = .ok (.aload_n 0, 1) := by decide +kernel
theorem dX10_areTwo_12 : decode cX10_areTwo 12 = .ok (.getfield 25, 3) := by decide +kernel
theorem dX10_areTwo_15 : decode cX10_areTwo 15 = .ok (.iload_n 2, 1) := by decide +kernel
theorem dX10_areTwo_16 : decode cX10_areTwo 16 = .ok (.invokevirtual 227, 3) := by decide +kernel
theorem dX10_areTwo_19 : decode cX10_areTwo 19 = .ok (.ifCond .eq 12, 3) := by decide +kernel
theorem dX10_areTwo_22 : decode cX10_areTwo 22 = .ok (.iload_n 1, 1) := by decide +kernel
theorem dX10_areTwo_23 : decode cX10_areTwo 23 = .ok (.iload_n 2, 1) := by decide +kernel
theorem dX10_areTwo_24 : decode cX10_areTwo 24 = .ok (.if_icmp .eq 7, 3) := by decide +kernel
theorem dX10_areTwo_27 : decode cX10_areTwo 27 = .ok (.iconst 1, 1) := by decide +kernel
theorem dX10_areTwo_28 : decode cX10_areTwo 28 = .ok (.goto 4, 3) := by decide +kernel
theorem dX10_areTwo_31 : decode cX10_areTwo 31 = .ok (.iconst 0, 1) := by decide +kernel
theorem dX10_areTwo_32 : decode cX10_areTwo 32 = .ok (.ireturn, 1) := by decide +kernel
set_option maxHeartbeats 4000000 in
set_option maxRecDepth 100000 in
theorem ctX10_areTwo {p1 : Int} {p2 : Int} {σ : jq_M} {res : Int}  (h : X10_areTwo p1 p2 σ = some res) : jq_MC jq_zX yX10_areTwo cX10_areTwo 3 (some .boolean) 2 61 [jR 0, jI p1, jI p2] σ (some (jI res)) σ := by
  refine jq_met (own := RX10) (L0 := [(0, jR 0), (1, jI p1), (2, jI p2)]) (by decide) rfl rfl rfl ?_
  intro X Γ hnl hlY hRT
  refine jq_use2 (P := fun r => jq_RT jq_zX X (some .boolean) (some (jI r)) σ) ?_ h hRT
  intro K0 hK0
  unfold X10_areTwo
  refine jq_aload_n Γ dX10_areTwo_0 rfl 0 rfl (jq_at_0 at_X_0) ?_
  refine jq_getC (C := jq_cm2) Γ hlY at_X_0 fl_RX10_25 rfl rfl ly_now dX10_areTwo_1 (fun c1 hc2q => ?_)
  have hc2 := jq_cm2_com hc2q
  refine jq_iload_n Γ dX10_areTwo_4 rfl 1 rfl ?_
  refine jq_cpZ (jq_virt (avs := [jI p1]) (st := []) Γ hlY rfl ml_RX10_227 rfl (at_com hc2) rfl rfl rfl rfl rfl dX10_areTwo_5) rfl (fun r h => ctX1_isParty hc2 h) (fun v3 hz4 => ?_)
  refine jq_if_eq (tgt := 31) Γ dX10_areTwo_8 rfl ?_ ?_
  · refine jq_iconst Γ dX10_areTwo_31 rfl ?_
    exact jq_zreturn Γ (Or.inl rfl) dX10_areTwo_32 (hK0 _)
  · refine jq_aload_n Γ dX10_areTwo_11 rfl 0 rfl (jq_at_0 at_X_0) ?_
    refine jq_getC (C := jq_cm2) Γ hlY at_X_0 fl_RX10_25 rfl rfl ly_now dX10_areTwo_12 (fun c5 hc6q => ?_)
    have hc6 := jq_cm2_com hc6q
    refine jq_iload_n Γ dX10_areTwo_15 rfl 2 rfl ?_
    refine jq_cpZ (jq_virt (avs := [jI p2]) (st := []) Γ hlY rfl ml_RX10_227 rfl (at_com hc6) rfl rfl rfl rfl rfl dX10_areTwo_16) rfl (fun r h => ctX1_isParty hc6 h) (fun v7 hz8 => ?_)
    refine jq_if_eq (tgt := 31) Γ dX10_areTwo_19 rfl ?_ ?_
    · refine jq_iconst Γ dX10_areTwo_31 rfl ?_
      exact jq_zreturn Γ (Or.inl rfl) dX10_areTwo_32 (hK0 _)
    · refine jq_iload_n Γ dX10_areTwo_22 rfl 1 rfl ?_
      refine jq_iload_n Γ dX10_areTwo_23 rfl 2 rfl ?_
      refine jq_icmp_eq (tgt := 31) Γ dX10_areTwo_24 rfl ?_ ?_
      · refine jq_iconst Γ dX10_areTwo_31 rfl ?_
        exact jq_zreturn Γ (Or.inl rfl) dX10_areTwo_32 (hK0 _)
      · refine jq_iconst Γ dX10_areTwo_27 rfl ?_
        refine jq_goto Γ (tgt := 32) dX10_areTwo_28 rfl ?_
        exact jq_zreturn Γ (Or.inr rfl) dX10_areTwo_32 (hK0 _)


theorem dX10_beside_0 : decode cX10_beside 0 = .ok (.aload_n 0, 1) := by decide +kernel
theorem dX10_beside_1 : decode cX10_beside 1 = .ok (.iload_n 1, 1) := by decide +kernel
theorem dX10_beside_2 : decode cX10_beside 2 = .ok (.iload_n 2, 1) := by decide +kernel
theorem dX10_beside_3 : decode cX10_beside 3 = .ok (.invokevirtual 270, 3) := by decide +kernel
theorem dX10_beside_6 : decode cX10_beside 6 = .ok (.ifCond .ne 9, 3) := by decide +kernel
theorem dX10_beside_9 : decode cX10_beside 9 = .ok (.aload_n 0, 1) := by decide +kernel
theorem dX10_beside_10 : decode cX10_beside 10 = .ok (.iconst 1, 1) := by decide +kernel
theorem dX10_beside_11 : decode cX10_beside 11 = .ok (.invokevirtual 117, 3) := by decide +kernel
theorem dX10_beside_14 : decode cX10_beside 14 = .ok (.ireturn, 1) := by decide +kernel
theorem dX10_beside_15 : decode cX10_beside 15 = .ok (.aload_n 0, 1) := by decide +kernel
theorem dX10_beside_16 : decode cX10_beside 16 = .ok (.aload_n 0, 1) := by decide +kernel
theorem dX10_beside_17 : decode cX10_beside 17 = .ok (.getfield 25, 3) := by decide +kernel
theorem dX10_beside_20 : decode cX10_beside 20 = .ok (.aload_n 0, 1) := by decide +kernel
theorem dX10_beside_21 : decode cX10_beside 21 = .ok (.getfield 25, 3) := by decide +kernel
theorem dX10_beside_24 : decode cX10_beside 24 = .ok (.getfield 200, 3) := by decide +kernel
theorem dX10_beside_27 : decode cX10_beside 27 = .ok (.iload_n 1, 1) := by decide +kernel
theorem dX10_beside_28 : decode cX10_beside 28 = .ok (.iaload, 1) := by decide +kernel
theorem dX10_beside_29 : decode cX10_beside 29 = .ok (.aload_n 0, 1) := by decide +kernel
theorem dX10_beside_30 : decode cX10_beside 30 = .ok (.getfield 25, 3) := by decide +kernel
theorem dX10_beside_33 : decode cX10_beside 33 = .ok (.getfield 200, 3) := by decide +kernel
theorem dX10_beside_36 : decode cX10_beside 36 = .ok (.iload_n 2, 1) := by decide +kernel
theorem dX10_beside_37 : decode cX10_beside 37 = .ok (.iaload, 1) := by decide +kernel
theorem dX10_beside_38 : decode cX10_beside 38 = .ok (.invokevirtual 273, 3) := by decide +kernel
theorem dX10_beside_41 : decode cX10_beside 41 = .ok (.invokestatic 266, 3) := by decide +kernel
theorem dX10_beside_44 : decode cX10_beside 44 = .ok (.invokevirtual 167, 3) := by decide +kernel
theorem dX10_beside_47 : decode cX10_beside 47 = .ok (.ireturn, 1) := by decide +kernel
set_option maxHeartbeats 4000000 in
set_option maxRecDepth 100000 in
theorem ctX10_beside {p1 : Int} {p2 : Int} {σ : jq_M} {res : Int} {σ' : jq_M}  (h : X10_beside p1 p2 σ = some (res, σ')) : jq_MC jq_zX yX10_beside cX10_beside 3 (some .int) 3 83 [jR 0, jI p1, jI p2] σ (some (jI res)) σ' := by
  refine jq_met (own := RX10) (L0 := [(0, jR 0), (1, jI p1), (2, jI p2)]) (by decide) rfl rfl rfl ?_
  intro X Γ hnl hlY hRT
  refine jq_use2 (P := fun r => jq_RT jq_zX X (some .int) (some (jI r.1)) r.2) ?_ h hRT
  intro K0 hK0
  unfold X10_beside
  refine jq_aload_n Γ dX10_beside_0 rfl 0 rfl (jq_at_0 at_X_0) ?_
  refine jq_iload_n Γ dX10_beside_1 rfl 1 rfl ?_
  refine jq_iload_n Γ dX10_beside_2 rfl 2 rfl ?_
  refine jq_cpZ (jq_virt (avs := [jI p1, jI p2]) (st := []) Γ hlY rfl ml_RX10_270 rfl at_X_0 rfl rfl rfl rfl rfl dX10_beside_3) rfl (fun r h => ctX10_areTwo h) (fun v1 hz2 => ?_)
  refine jq_if_ne (tgt := 15) Γ dX10_beside_6 rfl ?_ ?_
  · refine jq_aload_n Γ dX10_beside_15 rfl 0 rfl (jq_at_0 at_X_0) ?_
    refine jq_aload_n Γ dX10_beside_16 rfl 0 rfl (jq_at_0 at_X_0) ?_
    refine jq_getC (C := jq_cm2) Γ hlY at_X_0 fl_RX10_25 rfl rfl ly_now dX10_beside_17 (fun c3 hc4q => ?_)
    have hc4 := jq_cm2_com hc4q
    refine jq_aload_n Γ dX10_beside_20 rfl 0 rfl (jq_at_0 at_X_0) ?_
    refine jq_getC (C := jq_cm2) Γ hlY at_X_0 fl_RX10_25 rfl rfl ly_now dX10_beside_21 (fun c5 hc6q => ?_)
    have hc6 := jq_cm2_com hc6q
    refine jq_getR (v := (c5 + 3)) Γ hlY (at_com hc6) fl_RX10_200 rfl rfl (ly_X1_seats hc6) dX10_beside_24 ?_
    refine jq_iload_n Γ dX10_beside_27 rfl 1 rfl ?_
    refine jq_iald Γ (at_com_3 hc6) rfl dX10_beside_28 (fun v7 => ?_)
    refine jq_aload_n Γ dX10_beside_29 rfl 0 rfl (jq_at_0 at_X_0) ?_
    refine jq_getC (C := jq_cm2) Γ hlY at_X_0 fl_RX10_25 rfl rfl ly_now dX10_beside_30 (fun c8 hc9q => ?_)
    have hc9 := jq_cm2_com hc9q
    refine jq_getR (v := (c8 + 3)) Γ hlY (at_com hc9) fl_RX10_200 rfl rfl (ly_X1_seats hc9) dX10_beside_33 ?_
    refine jq_iload_n Γ dX10_beside_36 rfl 2 rfl ?_
    refine jq_iald Γ (at_com_3 hc9) rfl dX10_beside_37 (fun v10 => ?_)
    refine jq_cpZ (jq_virt (avs := [jI v7, jI v10]) (st := [jR 0]) Γ hlY rfl ml_RX10_273 rfl (at_com hc4) rfl rfl rfl rfl rfl dX10_beside_38) rfl (fun r h => ctX1_nextTo hc4 h) (fun v11 hz12 => ?_)
    refine jq_cpI (jq_stat (avs := [jI v11]) (st := [jR 0]) Γ hlY rfl ml_RX10_266 rfl rfl rfl rfl rfl dX10_beside_41) (fun r h => ctX10_asNumber h) (fun v13 => ?_)
    refine jq_cwI (jq_virt (avs := [jI v13]) (st := []) Γ hlY rfl ml_RX10_167 rfl at_X_0 rfl rfl rfl rfl rfl dX10_beside_44) (fun r σ' h => ctX10_answer h) (fun v14 s15 => ?_)
    exact jq_ireturn Γ dX10_beside_47 (hK0 _)
  · refine jq_aload_n Γ dX10_beside_9 rfl 0 rfl (jq_at_0 at_X_0) ?_
    refine jq_iconst Γ dX10_beside_10 rfl ?_
    refine jq_cwI (jq_virt (avs := [jI 1]) (st := []) Γ hlY rfl ml_RX10_117 rfl at_X_0 rfl rfl rfl rfl rfl dX10_beside_11) (fun r σ' h => ctX10_refuse h) (fun v16 s17 => ?_)
    exact jq_ireturn Γ dX10_beside_14 (hK0 _)


theorem dX10_facing_0 : decode cX10_facing 0 = .ok (.aload_n 0, 1) := by decide +kernel
theorem dX10_facing_1 : decode cX10_facing 1 = .ok (.iload_n 1, 1) := by decide +kernel
theorem dX10_facing_2 : decode cX10_facing 2 = .ok (.iload_n 2, 1) := by decide +kernel
theorem dX10_facing_3 : decode cX10_facing 3 = .ok (.invokevirtual 270, 3) := by decide +kernel
theorem dX10_facing_6 : decode cX10_facing 6 = .ok (.ifCond .ne 9, 3) := by decide +kernel
theorem dX10_facing_9 : decode cX10_facing 9 = .ok (.aload_n 0, 1) := by decide +kernel
theorem dX10_facing_10 : decode cX10_facing 10 = .ok (.iconst 1, 1) := by decide +kernel
theorem dX10_facing_11 : decode cX10_facing 11 = .ok (.invokevirtual 117, 3) := by decide +kernel
theorem dX10_facing_14 : decode cX10_facing 14 = .ok (.ireturn, 1) := by decide +kernel
theorem dX10_facing_15 : decode cX10_facing 15 = .ok (.aload_n 0, 1) := by decide +kernel
theorem dX10_facing_16 : decode cX10_facing 16 = .ok (.aload_n 0, 1) := by decide +kernel
theorem dX10_facing_17 : decode cX10_facing 17 = .ok (.getfield 25, 3) := by decide +kernel
theorem dX10_facing_20 : decode cX10_facing 20 = .ok (.aload_n 0, 1) := by decide +kernel
theorem dX10_facing_21 : decode cX10_facing 21 = .ok (.getfield 25, 3) := by decide +kernel
theorem dX10_facing_24 : decode cX10_facing 24 = .ok (.getfield 200, 3) := by decide +kernel
theorem dX10_facing_27 : decode cX10_facing 27 = .ok (.iload_n 1, 1) := by decide +kernel
theorem dX10_facing_28 : decode cX10_facing 28 = .ok (.iaload, 1) := by decide +kernel
theorem dX10_facing_29 : decode cX10_facing 29 = .ok (.aload_n 0, 1) := by decide +kernel
theorem dX10_facing_30 : decode cX10_facing 30 = .ok (.getfield 25, 3) := by decide +kernel
theorem dX10_facing_33 : decode cX10_facing 33 = .ok (.getfield 200, 3) := by decide +kernel
theorem dX10_facing_36 : decode cX10_facing 36 = .ok (.iload_n 2, 1) := by decide +kernel
theorem dX10_facing_37 : decode cX10_facing 37 = .ok (.iaload, 1) := by decide +kernel
theorem dX10_facing_38 : decode cX10_facing 38 = .ok (.invokevirtual 276, 3) := by decide +kernel
theorem dX10_facing_41 : decode cX10_facing 41 = .ok (.invokestatic 266, 3) := by decide +kernel
theorem dX10_facing_44 : decode cX10_facing 44 = .ok (.invokevirtual 167, 3) := by decide +kernel
theorem dX10_facing_47 : decode cX10_facing 47 = .ok (.ireturn, 1) := by decide +kernel
set_option maxHeartbeats 4000000 in
set_option maxRecDepth 100000 in
theorem ctX10_facing {p1 : Int} {p2 : Int} {σ : jq_M} {res : Int} {σ' : jq_M}  (h : X10_facing p1 p2 σ = some (res, σ')) : jq_MC jq_zX yX10_facing cX10_facing 3 (some .int) 3 83 [jR 0, jI p1, jI p2] σ (some (jI res)) σ' := by
  refine jq_met (own := RX10) (L0 := [(0, jR 0), (1, jI p1), (2, jI p2)]) (by decide) rfl rfl rfl ?_
  intro X Γ hnl hlY hRT
  refine jq_use2 (P := fun r => jq_RT jq_zX X (some .int) (some (jI r.1)) r.2) ?_ h hRT
  intro K0 hK0
  unfold X10_facing
  refine jq_aload_n Γ dX10_facing_0 rfl 0 rfl (jq_at_0 at_X_0) ?_
  refine jq_iload_n Γ dX10_facing_1 rfl 1 rfl ?_
  refine jq_iload_n Γ dX10_facing_2 rfl 2 rfl ?_
  refine jq_cpZ (jq_virt (avs := [jI p1, jI p2]) (st := []) Γ hlY rfl ml_RX10_270 rfl at_X_0 rfl rfl rfl rfl rfl dX10_facing_3) rfl (fun r h => ctX10_areTwo h) (fun v1 hz2 => ?_)
  refine jq_if_ne (tgt := 15) Γ dX10_facing_6 rfl ?_ ?_
  · refine jq_aload_n Γ dX10_facing_15 rfl 0 rfl (jq_at_0 at_X_0) ?_
    refine jq_aload_n Γ dX10_facing_16 rfl 0 rfl (jq_at_0 at_X_0) ?_
    refine jq_getC (C := jq_cm2) Γ hlY at_X_0 fl_RX10_25 rfl rfl ly_now dX10_facing_17 (fun c3 hc4q => ?_)
    have hc4 := jq_cm2_com hc4q
    refine jq_aload_n Γ dX10_facing_20 rfl 0 rfl (jq_at_0 at_X_0) ?_
    refine jq_getC (C := jq_cm2) Γ hlY at_X_0 fl_RX10_25 rfl rfl ly_now dX10_facing_21 (fun c5 hc6q => ?_)
    have hc6 := jq_cm2_com hc6q
    refine jq_getR (v := (c5 + 3)) Γ hlY (at_com hc6) fl_RX10_200 rfl rfl (ly_X1_seats hc6) dX10_facing_24 ?_
    refine jq_iload_n Γ dX10_facing_27 rfl 1 rfl ?_
    refine jq_iald Γ (at_com_3 hc6) rfl dX10_facing_28 (fun v7 => ?_)
    refine jq_aload_n Γ dX10_facing_29 rfl 0 rfl (jq_at_0 at_X_0) ?_
    refine jq_getC (C := jq_cm2) Γ hlY at_X_0 fl_RX10_25 rfl rfl ly_now dX10_facing_30 (fun c8 hc9q => ?_)
    have hc9 := jq_cm2_com hc9q
    refine jq_getR (v := (c8 + 3)) Γ hlY (at_com hc9) fl_RX10_200 rfl rfl (ly_X1_seats hc9) dX10_facing_33 ?_
    refine jq_iload_n Γ dX10_facing_36 rfl 2 rfl ?_
    refine jq_iald Γ (at_com_3 hc9) rfl dX10_facing_37 (fun v10 => ?_)
    refine jq_cpZ (jq_virt (avs := [jI v7, jI v10]) (st := [jR 0]) Γ hlY rfl ml_RX10_276 rfl (at_com hc4) rfl rfl rfl rfl rfl dX10_facing_38) rfl (fun r h => ctX1_opposite hc4 h) (fun v11 hz12 => ?_)
    refine jq_cpI (jq_stat (avs := [jI v11]) (st := [jR 0]) Γ hlY rfl ml_RX10_266 rfl rfl rfl rfl rfl dX10_facing_41) (fun r h => ctX10_asNumber h) (fun v13 => ?_)
    refine jq_cwI (jq_virt (avs := [jI v13]) (st := []) Γ hlY rfl ml_RX10_167 rfl at_X_0 rfl rfl rfl rfl rfl dX10_facing_44) (fun r σ' h => ctX10_answer h) (fun v14 s15 => ?_)
    exact jq_ireturn Γ dX10_facing_47 (hK0 _)
  · refine jq_aload_n Γ dX10_facing_9 rfl 0 rfl (jq_at_0 at_X_0) ?_
    refine jq_iconst Γ dX10_facing_10 rfl ?_
    refine jq_cwI (jq_virt (avs := [jI 1]) (st := []) Γ hlY rfl ml_RX10_117 rfl at_X_0 rfl rfl rfl rfl rfl dX10_facing_11) (fun r σ' h => ctX10_refuse h) (fun v16 s17 => ?_)
    exact jq_ireturn Γ dX10_facing_14 (hK0 _)


theorem dX1_worthTo_0 : decode cX1_worthTo 0 = .ok (.iconst 0, 1) := by decide +kernel
theorem dX1_worthTo_1 : decode cX1_worthTo 1 = .ok (.istore_n 3, 1) := by decide +kernel
theorem dX1_worthTo_2 : decode cX1_worthTo 2 = .ok (.iconst 0, 1) := by decide +kernel
theorem dX1_worthTo_3 : decode cX1_worthTo 3 = .ok (.istore 4, 2) := by decide +kernel
theorem dX1_worthTo_5 : decode cX1_worthTo 5 = .ok (.iload 4, 2) := by decide +kernel
theorem dX1_worthTo_7 : decode cX1_worthTo 7 = .ok (.aload_n 0, 1) := by decide +kernel
theorem dX1_worthTo_8 : decode cX1_worthTo 8 = .ok (.getfield 69, 3) := by decide +kernel
theorem dX1_worthTo_11 : decode cX1_worthTo 11 = .ok (.if_icmp .ge 47, 3) := by decide +kernel
theorem dX1_worthTo_14 : decode cX1_worthTo 14 = .ok (.iload 4, 2) := by decide +kernel
theorem dX1_worthTo_16 : decode cX1_worthTo 16 = .ok (.bipush 20, 2) := by decide +kernel
theorem dX1_worthTo_18 : decode cX1_worthTo 18 = .ok (.if_icmp .ge 40, 3) := by decide +kernel
theorem dX1_worthTo_21 : decode cX1_worthTo 21 = .ok (.aload_n 0, 1) := by decide +kernel
theorem dX1_worthTo_22 : decode cX1_worthTo 22 = .ok (.getfield 22, 3) := by decide +kernel
theorem dX1_worthTo_25 : decode cX1_worthTo 25 = .ok (.iload 4, 2) := by decide +kernel
theorem dX1_worthTo_27 : decode cX1_worthTo 27 = .ok (.iaload, 1) := by decide +kernel
theorem dX1_worthTo_28 : decode cX1_worthTo 28 = .ok (.iload_n 1, 1) := by decide +kernel
theorem dX1_worthTo_29 : decode cX1_worthTo 29 = .ok (.if_icmp .ne 23, 3) := by decide +kernel
theorem dX1_worthTo_32 : decode cX1_worthTo 32 = .ok (.aload_n 0, 1) := by decide +kernel
theorem dX1_worthTo_33 : decode cX1_worthTo 33 = .ok (.iload 4, 2) := by decide +kernel
theorem dX1_worthTo_35 : decode cX1_worthTo 35 = .ok (.aload_n 2, 1) := by decide +kernel
theorem dX1_worthTo_36 : decode cX1_worthTo 36 = .ok (.invokevirtual 128, 3) := by decide +kernel
theorem dX1_worthTo_39 : decode cX1_worthTo 39 = .ok (.ifCond .eq 13, 3) := by decide +kernel
theorem dX1_worthTo_42 : decode cX1_worthTo 42 = .ok (.iload_n 3, 1) := by decide +kernel
theorem dX1_worthTo_43 : decode cX1_worthTo 43 = .ok (.aload_n 0, 1) := by decide +kernel
theorem dX1_worthTo_44 : decode cX1_worthTo 44 = .ok (.getfield 31, 3) := by decide +kernel
theorem dX1_worthTo_47 : decode cX1_worthTo 47 = .ok (.iload 4, 2) := by decide +kernel
theorem dX1_worthTo_49 : decode cX1_worthTo 49 = .ok (.iaload, 1) := by decide +kernel
theorem dX1_worthTo_50 : decode cX1_worthTo 50 = .ok (.iadd, 1) := by decide +kernel
theorem dX1_worthTo_51 : decode cX1_worthTo 51 = .ok (.istore_n 3, 1) := by decide +kernel
theorem dX1_worthTo_52 : decode cX1_worthTo 52 = .ok (.iinc 4 1, 3) := by decide +kernel
theorem dX1_worthTo_55 : decode cX1_worthTo 55 = .ok (.goto (-50), 3) := by decide +kernel
theorem dX1_worthTo_58 : decode cX1_worthTo 58 = .ok (.iload_n 3, 1) := by decide +kernel
theorem dX1_worthTo_59 : decode cX1_worthTo 59 = .ok (.ireturn, 1) := by decide +kernel
set_option maxHeartbeats 4000000 in
set_option maxRecDepth 100000 in
theorem ctX1_worthTo {o : Int} {p1 : Int} {p2 : Int} {σ : jq_M} {res : Int} (ho : jq_com o) (hp2 : jq_row p2) (h : X1_worthTo o p1 p2 σ = some res) : jq_MC jq_zX yX1_worthTo cX1_worthTo 5 (some .int) 3 87 [jR o, jI p1, jR p2] σ (some (jI res)) σ := by
  refine jq_met (own := RX1) (L0 := [(0, jR o), (1, jI p1), (2, jR p2)]) (by decide) rfl rfl rfl ?_
  intro X Γ hnl hlY hRT
  refine jq_use2 (P := fun r => jq_RT jq_zX X (some .int) (some (jI r)) σ) ?_ h hRT
  intro K0 hK0
  unfold X1_worthTo
  refine jq_iconst Γ dX1_worthTo_0 rfl ?_
  refine jq_istore_n (L' := [(3, jI 0), (0, jR o), (1, jI p1), (2, jR p2)]) Γ dX1_worthTo_1 rfl hnl rfl rfl ?_
  refine jq_iconst Γ dX1_worthTo_2 rfl ?_
  refine jq_istore (L' := [(4, jI 0), (3, jI 0), (0, jR o), (1, jI p1), (2, jR p2)]) Γ dX1_worthTo_3 hnl rfl rfl ?_
  refine jq_sub Γ (L' := [(0, jR o), (1, jI p1), (2, jR p2), (3, jI 0), (4, jI 0)]) [2, 3, 4, 1, 0] rfl ?_
  refine jq_loop2 (C := fun (t1 : Int × Int) => jq_V jq_zX X (jq_zN jq_zX) σ 5 [(0, jR o), (1, jI p1), (2, jR p2), (3, jI t1.1), (4, jI t1.2)] []) (KX := fun (e10 : Int) => jq_V jq_zX X (jq_zN jq_zX) σ 58 [(3, jI e10)] []) ?_ ?_ (0, 0)
  · intro K5_t1 hCt1 hXt1 t1
    unfold X1_worthTo_b5
    refine jq_iload Γ dX1_worthTo_5 4 rfl ?_
    refine jq_aload_n Γ dX1_worthTo_7 rfl 0 rfl (jq_at_0 (at_com ho)) ?_
    refine jq_getI (J := 3) Γ (at_com ho) fl_RX1_69 rfl rfl dX1_worthTo_8 ?_
    refine jq_icmp_ge (tgt := 58) Γ dX1_worthTo_11 rfl ?_ ?_
    · refine jq_sub Γ (L' := [(3, jI t1.1)]) [3] rfl ?_
      exact jq_done (hXt1 t1.1)
    · refine jq_iload Γ dX1_worthTo_14 4 rfl ?_
      refine jq_bipush Γ dX1_worthTo_16 rfl ?_
      refine jq_icmp_ge (tgt := 58) Γ dX1_worthTo_18 rfl ?_ ?_
      · refine jq_sub Γ (L' := [(3, jI t1.1)]) [3] rfl ?_
        exact jq_done (hXt1 t1.1)
      · refine jq_aload_n Γ dX1_worthTo_21 rfl 0 rfl (jq_at_0 (at_com ho)) ?_
        refine jq_getR (v := (o + 4)) Γ hlY (at_com ho) fl_RX1_22 rfl rfl (ly_X1_whose ho) dX1_worthTo_22 ?_
        refine jq_iload Γ dX1_worthTo_25 4 rfl ?_
        refine jq_iald Γ (at_com_4 ho) rfl dX1_worthTo_27 (fun v2 => ?_)
        refine jq_iload_n Γ dX1_worthTo_28 rfl 1 rfl ?_
        refine jq_icmp_ne (tgt := 52) Γ dX1_worthTo_29 rfl ?_ ?_
        · refine jq_iincN (L' := fun v3 => [(4, jI v3), (0, jR o), (1, jI p1), (2, jR p2), (3, jI t1.1)]) Γ dX1_worthTo_52 4 rfl hnl rfl (fun _ => rfl) (fun v3 => ?_)
          refine jq_goto Γ (tgt := 5) dX1_worthTo_55 rfl ?_
          refine jq_sub Γ (L' := [(0, jR o), (1, jI p1), (2, jR p2), (3, jI t1.1), (4, jI v3)]) [1, 2, 3, 4, 0] rfl ?_
          exact jq_done (hCt1 (t1.1, v3))
        · refine jq_aload_n Γ dX1_worthTo_32 rfl 0 rfl (jq_at_0 (at_com ho)) ?_
          refine jq_iload Γ dX1_worthTo_33 4 rfl ?_
          refine jq_aload_n Γ dX1_worthTo_35 rfl 2 rfl (jq_at_0 (at_row hp2)) ?_
          refine jq_cpZ (jq_virt (avs := [jI t1.2, jR p2]) (st := []) Γ hlY rfl ml_RX1_128 rfl (at_com ho) rfl rfl rfl rfl rfl dX1_worthTo_36) rfl (fun r h => ctX1_isMet ho hp2 h) (fun v4 hz5 => ?_)
          refine jq_if_eq (tgt := 52) Γ dX1_worthTo_39 rfl ?_ ?_
          · refine jq_iincN (L' := fun v6 => [(4, jI v6), (0, jR o), (1, jI p1), (2, jR p2), (3, jI t1.1)]) Γ dX1_worthTo_52 4 rfl hnl rfl (fun _ => rfl) (fun v6 => ?_)
            refine jq_goto Γ (tgt := 5) dX1_worthTo_55 rfl ?_
            refine jq_sub Γ (L' := [(0, jR o), (1, jI p1), (2, jR p2), (3, jI t1.1), (4, jI v6)]) [1, 2, 3, 4, 0] rfl ?_
            exact jq_done (hCt1 (t1.1, v6))
          · refine jq_iload_n Γ dX1_worthTo_42 rfl 3 rfl ?_
            refine jq_aload_n Γ dX1_worthTo_43 rfl 0 rfl (jq_at_0 (at_com ho)) ?_
            refine jq_getR (v := (o + 7)) Γ hlY (at_com ho) fl_RX1_31 rfl rfl (ly_X1_worths ho) dX1_worthTo_44 ?_
            refine jq_iload Γ dX1_worthTo_47 4 rfl ?_
            refine jq_iald Γ (at_com_7 ho) rfl dX1_worthTo_49 (fun v7 => ?_)
            refine jq_iadd Γ dX1_worthTo_50 ?_
            refine jq_nmI (fun v8 => ?_)
            refine jq_istore_n (L' := [(3, jI v8), (0, jR o), (1, jI p1), (2, jR p2), (4, jI t1.2)]) Γ dX1_worthTo_51 rfl hnl rfl rfl ?_
            refine jq_iincN (L' := fun v9 => [(4, jI v9), (3, jI v8), (0, jR o), (1, jI p1), (2, jR p2)]) Γ dX1_worthTo_52 4 rfl hnl rfl (fun _ => rfl) (fun v9 => ?_)
            refine jq_goto Γ (tgt := 5) dX1_worthTo_55 rfl ?_
            refine jq_sub Γ (L' := [(0, jR o), (1, jI p1), (2, jR p2), (3, jI v8), (4, jI v9)]) [2, 3, 4, 1, 0] rfl ?_
            exact jq_done (hCt1 (v8, v9))
  · intro e10
    refine jq_iload_n Γ dX1_worthTo_58 rfl 0 rfl ?_
    exact jq_ireturn Γ dX1_worthTo_59 (hK0 _)


theorem dX10_worth_0 : decode cX10_worth 0 = .ok (.aload_n 0, 1) := by decide +kernel
theorem dX10_worth_1 : decode cX10_worth 1 = .ok (.getfield 25, 3) := by decide +kernel
theorem dX10_worth_4 : decode cX10_worth 4 = .ok (.iload_n 1, 1) := by decide +kernel
theorem dX10_worth_5 : decode cX10_worth 5 = .ok (.invokevirtual 227, 3) := by decide +kernel
theorem dX10_worth_8 : decode cX10_worth 8 = .ok (.ifCond .ne 9, 3) := by decide +kernel
theorem dX10_worth_11 : decode cX10_worth 11 = .ok (.aload_n 0, 1) := by decide +kernel
theorem dX10_worth_12 : decode cX10_worth 12 = .ok (.iconst 1, 1) := by decide +kernel
theorem dX10_worth_13 : decode cX10_worth 13 = .ok (.invokevirtual 117, 3) := by decide +kernel
theorem dX10_worth_16 : decode cX10_worth 16 = .ok (.ireturn, 1) := by decide +kernel
theorem dX10_worth_17 : decode cX10_worth 17 = .ok (.aload_n 0, 1) := by decide +kernel
theorem dX10_worth_18 : decode cX10_worth 18 = .ok (.aload_n 0, 1) := by decide +kernel
theorem dX10_worth_19 : decode cX10_worth 19 = .ok (.getfield 25, 3) := by decide +kernel
theorem dX10_worth_22 : decode cX10_worth 22 = .ok (.iload_n 1, 1) := by decide +kernel
theorem dX10_worth_23 : decode cX10_worth 23 = .ok (.aload_n 0, 1) := by decide +kernel
theorem dX10_worth_24 : decode cX10_worth 24 = .ok (.getfield 25, 3) := by decide +kernel
theorem dX10_worth_27 : decode cX10_worth 27 = .ok (.getfield 200, 3) := by decide +kernel
theorem dX10_worth_30 : decode cX10_worth 30 = .ok (.invokevirtual 279, 3) := by decide +kernel
theorem dX10_worth_33 : decode cX10_worth 33 = .ok (.invokevirtual 167, 3) := by decide +kernel
theorem dX10_worth_36 : decode cX10_worth 36 = .ok (.ireturn, 1) := by decide +kernel
set_option maxHeartbeats 4000000 in
set_option maxRecDepth 100000 in
theorem ctX10_worth {p1 : Int} {σ : jq_M} {res : Int} {σ' : jq_M}  (h : X10_worth p1 σ = some (res, σ')) : jq_MC jq_zX yX10_worth cX10_worth 2 (some .int) 4 111 [jR 0, jI p1] σ (some (jI res)) σ' := by
  refine jq_met (own := RX10) (L0 := [(0, jR 0), (1, jI p1)]) (by decide) rfl rfl rfl ?_
  intro X Γ hnl hlY hRT
  refine jq_use2 (P := fun r => jq_RT jq_zX X (some .int) (some (jI r.1)) r.2) ?_ h hRT
  intro K0 hK0
  unfold X10_worth
  refine jq_aload_n Γ dX10_worth_0 rfl 0 rfl (jq_at_0 at_X_0) ?_
  refine jq_getC (C := jq_cm2) Γ hlY at_X_0 fl_RX10_25 rfl rfl ly_now dX10_worth_1 (fun c1 hc2q => ?_)
  have hc2 := jq_cm2_com hc2q
  refine jq_iload_n Γ dX10_worth_4 rfl 1 rfl ?_
  refine jq_cpZ (jq_virt (avs := [jI p1]) (st := []) Γ hlY rfl ml_RX10_227 rfl (at_com hc2) rfl rfl rfl rfl rfl dX10_worth_5) rfl (fun r h => ctX1_isParty hc2 h) (fun v3 hz4 => ?_)
  refine jq_if_ne (tgt := 17) Γ dX10_worth_8 rfl ?_ ?_
  · refine jq_aload_n Γ dX10_worth_17 rfl 0 rfl (jq_at_0 at_X_0) ?_
    refine jq_aload_n Γ dX10_worth_18 rfl 0 rfl (jq_at_0 at_X_0) ?_
    refine jq_getC (C := jq_cm2) Γ hlY at_X_0 fl_RX10_25 rfl rfl ly_now dX10_worth_19 (fun c5 hc6q => ?_)
    have hc6 := jq_cm2_com hc6q
    refine jq_iload_n Γ dX10_worth_22 rfl 1 rfl ?_
    refine jq_aload_n Γ dX10_worth_23 rfl 0 rfl (jq_at_0 at_X_0) ?_
    refine jq_getC (C := jq_cm2) Γ hlY at_X_0 fl_RX10_25 rfl rfl ly_now dX10_worth_24 (fun c7 hc8q => ?_)
    have hc8 := jq_cm2_com hc8q
    refine jq_getR (v := (c7 + 3)) Γ hlY (at_com hc8) fl_RX10_200 rfl rfl (ly_X1_seats hc8) dX10_worth_27 ?_
    refine jq_cpI (jq_virt (avs := [jI p1, jR (c7 + 3)]) (st := [jR 0]) Γ hlY rfl ml_RX10_279 rfl (at_com hc6) rfl rfl rfl rfl rfl dX10_worth_30) (fun r h => ctX1_worthTo hc6 (row_com hc8) h) (fun v9 => ?_)
    refine jq_cwI (jq_virt (avs := [jI v9]) (st := []) Γ hlY rfl ml_RX10_167 rfl at_X_0 rfl rfl rfl rfl rfl dX10_worth_33) (fun r σ' h => ctX10_answer h) (fun v10 s11 => ?_)
    exact jq_ireturn Γ dX10_worth_36 (hK0 _)
  · refine jq_aload_n Γ dX10_worth_11 rfl 0 rfl (jq_at_0 at_X_0) ?_
    refine jq_iconst Γ dX10_worth_12 rfl ?_
    refine jq_cwI (jq_virt (avs := [jI 1]) (st := []) Γ hlY rfl ml_RX10_117 rfl at_X_0 rfl rfl rfl rfl rfl dX10_worth_13) (fun r σ' h => ctX10_refuse h) (fun v12 s13 => ?_)
    exact jq_ireturn Γ dX10_worth_16 (hK0 _)


theorem dX1_worthOfAll_0 : decode cX1_worthOfAll 0 = .ok (.iconst 0, 1) := by decide +kernel
theorem dX1_worthOfAll_1 : decode cX1_worthOfAll 1 = .ok (.istore_n 2, 1) := by decide +kernel
theorem dX1_worthOfAll_2 : decode cX1_worthOfAll 2 = .ok (.iconst 0, 1) := by decide +kernel
theorem dX1_worthOfAll_3 : decode cX1_worthOfAll 3 = .ok (.istore_n 3, 1) := by decide +kernel
theorem dX1_worthOfAll_4 : decode cX1_worthOfAll 4 = .ok (.iload_n 3, 1) := by decide +kernel
theorem dX1_worthOfAll_5 : decode cX1_worthOfAll 5 = .ok (.aload_n 0, 1) := by decide +kernel
theorem dX1_worthOfAll_6 : decode cX1_worthOfAll 6 = .ok (.getfield 69, 3) := by decide +kernel
theorem dX1_worthOfAll_9 : decode cX1_worthOfAll 9 = .ok (.if_icmp .ge 33, 3) := by decide +kernel
theorem dX1_worthOfAll_12 : decode cX1_worthOfAll 12 = .ok (.iload_n 3, 1) := by decide +kernel
theorem dX1_worthOfAll_13 : decode cX1_worthOfAll 13 = .ok (.bipush 20, 2) := by decide +kernel
theorem dX1_worthOfAll_15 : decode cX1_worthOfAll 15 = .ok (.if_icmp .ge 27, 3) := by decide +kernel
theorem dX1_worthOfAll_18 : decode cX1_worthOfAll 18 = .ok (.aload_n 0, 1) := by decide +kernel
theorem dX1_worthOfAll_19 : decode cX1_worthOfAll 19 = .ok (.iload_n 3, 1) := by decide +kernel
theorem dX1_worthOfAll_20 : decode cX1_worthOfAll 20 = .ok (.aload_n 1, 1) := by decide +kernel
theorem dX1_worthOfAll_21 : decode cX1_worthOfAll 21 = .ok (.invokevirtual 128, 3) := by decide +kernel
theorem dX1_worthOfAll_24 : decode cX1_worthOfAll 24 = .ok (.ifCond .eq 12, 3) := by decide +kernel
theorem dX1_worthOfAll_27 : decode cX1_worthOfAll 27 = .ok (.iload_n 2, 1) := by decide +kernel
theorem dX1_worthOfAll_28 : decode cX1_worthOfAll 28 = .ok (.aload_n 0, 1) := by decide +kernel
theorem dX1_worthOfAll_29 : decode cX1_worthOfAll 29 = .ok (.getfield 31, 3) := by decide +kernel
theorem dX1_worthOfAll_32 : decode cX1_worthOfAll 32 = .ok (.iload_n 3, 1) := by decide +kernel
theorem dX1_worthOfAll_33 : decode cX1_worthOfAll 33 = .ok (.iaload, 1) := by decide +kernel
theorem dX1_worthOfAll_34 : decode cX1_worthOfAll 34 = .ok (.iadd, 1) := by decide +kernel
theorem dX1_worthOfAll_35 : decode cX1_worthOfAll 35 = .ok (.istore_n 2, 1) := by decide +kernel
theorem dX1_worthOfAll_36 : decode cX1_worthOfAll 36 = .ok (.iinc 3 1, 3) := by decide +kernel
theorem dX1_worthOfAll_39 : decode cX1_worthOfAll 39 = .ok (.goto (-35), 3) := by decide +kernel
theorem dX1_worthOfAll_42 : decode cX1_worthOfAll 42 = .ok (.iload_n 2, 1) := by decide +kernel
theorem dX1_worthOfAll_43 : decode cX1_worthOfAll 43 = .ok (.ireturn, 1) := by decide +kernel
set_option maxHeartbeats 4000000 in
set_option maxRecDepth 100000 in
theorem ctX1_worthOfAll {o : Int} {p1 : Int} {σ : jq_M} {res : Int} (ho : jq_com o) (hp1 : jq_row p1) (h : X1_worthOfAll o p1 σ = some res) : jq_MC jq_zX yX1_worthOfAll cX1_worthOfAll 4 (some .int) 3 87 [jR o, jR p1] σ (some (jI res)) σ := by
  refine jq_met (own := RX1) (L0 := [(0, jR o), (1, jR p1)]) (by decide) rfl rfl rfl ?_
  intro X Γ hnl hlY hRT
  refine jq_use2 (P := fun r => jq_RT jq_zX X (some .int) (some (jI r)) σ) ?_ h hRT
  intro K0 hK0
  unfold X1_worthOfAll
  refine jq_iconst Γ dX1_worthOfAll_0 rfl ?_
  refine jq_istore_n (L' := [(2, jI 0), (0, jR o), (1, jR p1)]) Γ dX1_worthOfAll_1 rfl hnl rfl rfl ?_
  refine jq_iconst Γ dX1_worthOfAll_2 rfl ?_
  refine jq_istore_n (L' := [(3, jI 0), (2, jI 0), (0, jR o), (1, jR p1)]) Γ dX1_worthOfAll_3 rfl hnl rfl rfl ?_
  refine jq_sub Γ (L' := [(0, jR o), (1, jR p1), (2, jI 0), (3, jI 0)]) [2, 3, 1, 0] rfl ?_
  refine jq_loop2 (C := fun (t1 : Int × Int) => jq_V jq_zX X (jq_zN jq_zX) σ 4 [(0, jR o), (1, jR p1), (2, jI t1.1), (3, jI t1.2)] []) (KX := fun (e8 : Int) => jq_V jq_zX X (jq_zN jq_zX) σ 42 [(2, jI e8)] []) ?_ ?_ (0, 0)
  · intro K4_t1 hCt1 hXt1 t1
    unfold X1_worthOfAll_b4
    refine jq_iload_n Γ dX1_worthOfAll_4 rfl 3 rfl ?_
    refine jq_aload_n Γ dX1_worthOfAll_5 rfl 0 rfl (jq_at_0 (at_com ho)) ?_
    refine jq_getI (J := 3) Γ (at_com ho) fl_RX1_69 rfl rfl dX1_worthOfAll_6 ?_
    refine jq_icmp_ge (tgt := 42) Γ dX1_worthOfAll_9 rfl ?_ ?_
    · refine jq_sub Γ (L' := [(2, jI t1.1)]) [2] rfl ?_
      exact jq_done (hXt1 t1.1)
    · refine jq_iload_n Γ dX1_worthOfAll_12 rfl 3 rfl ?_
      refine jq_bipush Γ dX1_worthOfAll_13 rfl ?_
      refine jq_icmp_ge (tgt := 42) Γ dX1_worthOfAll_15 rfl ?_ ?_
      · refine jq_sub Γ (L' := [(2, jI t1.1)]) [2] rfl ?_
        exact jq_done (hXt1 t1.1)
      · refine jq_aload_n Γ dX1_worthOfAll_18 rfl 0 rfl (jq_at_0 (at_com ho)) ?_
        refine jq_iload_n Γ dX1_worthOfAll_19 rfl 3 rfl ?_
        refine jq_aload_n Γ dX1_worthOfAll_20 rfl 1 rfl (jq_at_0 (at_row hp1)) ?_
        refine jq_cpZ (jq_virt (avs := [jI t1.2, jR p1]) (st := []) Γ hlY rfl ml_RX1_128 rfl (at_com ho) rfl rfl rfl rfl rfl dX1_worthOfAll_21) rfl (fun r h => ctX1_isMet ho hp1 h) (fun v2 hz3 => ?_)
        refine jq_if_eq (tgt := 36) Γ dX1_worthOfAll_24 rfl ?_ ?_
        · refine jq_iincN (L' := fun v4 => [(3, jI v4), (0, jR o), (1, jR p1), (2, jI t1.1)]) Γ dX1_worthOfAll_36 3 rfl hnl rfl (fun _ => rfl) (fun v4 => ?_)
          refine jq_goto Γ (tgt := 4) dX1_worthOfAll_39 rfl ?_
          refine jq_sub Γ (L' := [(0, jR o), (1, jR p1), (2, jI t1.1), (3, jI v4)]) [1, 2, 3, 0] rfl ?_
          exact jq_done (hCt1 (t1.1, v4))
        · refine jq_iload_n Γ dX1_worthOfAll_27 rfl 2 rfl ?_
          refine jq_aload_n Γ dX1_worthOfAll_28 rfl 0 rfl (jq_at_0 (at_com ho)) ?_
          refine jq_getR (v := (o + 7)) Γ hlY (at_com ho) fl_RX1_31 rfl rfl (ly_X1_worths ho) dX1_worthOfAll_29 ?_
          refine jq_iload_n Γ dX1_worthOfAll_32 rfl 3 rfl ?_
          refine jq_iald Γ (at_com_7 ho) rfl dX1_worthOfAll_33 (fun v5 => ?_)
          refine jq_iadd Γ dX1_worthOfAll_34 ?_
          refine jq_nmI (fun v6 => ?_)
          refine jq_istore_n (L' := [(2, jI v6), (0, jR o), (1, jR p1), (3, jI t1.2)]) Γ dX1_worthOfAll_35 rfl hnl rfl rfl ?_
          refine jq_iincN (L' := fun v7 => [(3, jI v7), (2, jI v6), (0, jR o), (1, jR p1)]) Γ dX1_worthOfAll_36 3 rfl hnl rfl (fun _ => rfl) (fun v7 => ?_)
          refine jq_goto Γ (tgt := 4) dX1_worthOfAll_39 rfl ?_
          refine jq_sub Γ (L' := [(0, jR o), (1, jR p1), (2, jI v6), (3, jI v7)]) [2, 3, 1, 0] rfl ?_
          exact jq_done (hCt1 (v6, v7))
  · intro e8
    refine jq_iload_n Γ dX1_worthOfAll_42 rfl 0 rfl ?_
    exact jq_ireturn Γ dX1_worthOfAll_43 (hK0 _)


theorem dX10_allWorth_0 : decode cX10_allWorth 0 = .ok (.aload_n 0, 1) := by decide +kernel
theorem dX10_allWorth_1 : decode cX10_allWorth 1 = .ok (.aload_n 0, 1) := by decide +kernel
theorem dX10_allWorth_2 : decode cX10_allWorth 2 = .ok (.getfield 25, 3) := by decide +kernel
theorem dX10_allWorth_5 : decode cX10_allWorth 5 = .ok (.aload_n 0, 1) := by decide +kernel
theorem dX10_allWorth_6 : decode cX10_allWorth 6 = .ok (.getfield 25, 3) := by decide +kernel
theorem dX10_allWorth_9 : decode cX10_allWorth 9 = .ok (.getfield 200, 3) := by decide +kernel
theorem dX10_allWorth_12 : decode cX10_allWorth 12 = .ok (.invokevirtual 282, 3) := by decide +kernel
theorem dX10_allWorth_15 : decode cX10_allWorth 15 = .ok (.invokevirtual 167, 3) := by decide +kernel
theorem dX10_allWorth_18 : decode cX10_allWorth 18 = .ok (.ireturn, 1) := by decide +kernel
set_option maxHeartbeats 4000000 in
set_option maxRecDepth 100000 in
theorem ctX10_allWorth  {σ : jq_M} {res : Int} {σ' : jq_M}  (h : X10_allWorth σ = some (res, σ')) : jq_MC jq_zX yX10_allWorth cX10_allWorth 1 (some .int) 4 110 [jR 0] σ (some (jI res)) σ' := by
  refine jq_met (own := RX10) (L0 := [(0, jR 0)]) (by decide) rfl rfl rfl ?_
  intro X Γ hnl hlY hRT
  refine jq_use2 (P := fun r => jq_RT jq_zX X (some .int) (some (jI r.1)) r.2) ?_ h hRT
  intro K0 hK0
  unfold X10_allWorth
  refine jq_aload_n Γ dX10_allWorth_0 rfl 0 rfl (jq_at_0 at_X_0) ?_
  refine jq_aload_n Γ dX10_allWorth_1 rfl 0 rfl (jq_at_0 at_X_0) ?_
  refine jq_getC (C := jq_cm2) Γ hlY at_X_0 fl_RX10_25 rfl rfl ly_now dX10_allWorth_2 (fun c1 hc2q => ?_)
  have hc2 := jq_cm2_com hc2q
  refine jq_aload_n Γ dX10_allWorth_5 rfl 0 rfl (jq_at_0 at_X_0) ?_
  refine jq_getC (C := jq_cm2) Γ hlY at_X_0 fl_RX10_25 rfl rfl ly_now dX10_allWorth_6 (fun c3 hc4q => ?_)
  have hc4 := jq_cm2_com hc4q
  refine jq_getR (v := (c3 + 3)) Γ hlY (at_com hc4) fl_RX10_200 rfl rfl (ly_X1_seats hc4) dX10_allWorth_9 ?_
  refine jq_cpI (jq_virt (avs := [jR (c3 + 3)]) (st := [jR 0]) Γ hlY rfl ml_RX10_282 rfl (at_com hc2) rfl rfl rfl rfl rfl dX10_allWorth_12) (fun r h => ctX1_worthOfAll hc2 (row_com hc4) h) (fun v5 => ?_)
  refine jq_cwI (jq_virt (avs := [jI v5]) (st := []) Γ hlY rfl ml_RX10_167 rfl at_X_0 rfl rfl rfl rfl rfl dX10_allWorth_15) (fun r σ' h => ctX10_answer h) (fun v6 s7 => ?_)
  exact jq_ireturn Γ dX10_allWorth_18 (hK0 _)


theorem dX1_doesSign_0 : decode cX1_doesSign 0 = .ok (.aload_n 0, 1) := by decide +kernel
theorem dX1_doesSign_1 : decode cX1_doesSign 1 = .ok (.iload_n 1, 1) := by decide +kernel
theorem dX1_doesSign_2 : decode cX1_doesSign 2 = .ok (.invokevirtual 98, 3) := by decide +kernel
theorem dX1_doesSign_5 : decode cX1_doesSign 5 = .ok (.ifCond .eq 22, 3) := by decide +kernel
theorem dX1_doesSign_8 : decode cX1_doesSign 8 = .ok (.aload_n 0, 1) := by decide +kernel
theorem dX1_doesSign_9 : decode cX1_doesSign 9 = .ok (.iload_n 1, 1) := by decide +kernel
theorem dX1_doesSign_10 : decode cX1_doesSign 10 = .ok (.aload_n 2, 1) := by decide +kernel
theorem dX1_doesSign_11 : decode cX1_doesSign 11 = .ok (.invokevirtual 132, 3) := by decide +kernel
theorem dX1_doesSign_14 : decode cX1_doesSign 14 = .ok (.aload_n 0, 1) := by decide +kernel
theorem dX1_doesSign_15 : decode cX1_doesSign 15 = .ok (.getfield 15, 3) := by decide +kernel
theorem dX1_doesSign_18 : decode cX1_doesSign 18 = .ok (.iload_n 1, 1) := by decide +kernel
theorem dX1_doesSign_19 : decode cX1_doesSign 19 = .ok (.iaload, 1) := by decide +kernel
theorem dX1_doesSign_20 : decode cX1_doesSign 20 = .ok (.if_icmp .lt 7, 3) := by decide +kernel
theorem dX1_doesSign_23 : decode cX1_doesSign 23 = .ok (.iconst 1, 1) := by decide +kernel
theorem dX1_doesSign_24 : decode cX1_doesSign 24 = .ok (.goto 4, 3) := by decide +kernel
theorem dX1_doesSign_27 : decode cX1_doesSign 27 = .ok (.iconst 0, 1) := by decide +kernel
theorem dX1_doesSign_28 : decode cX1_doesSign 28 = .ok (.ireturn, 1) := by decide +kernel
set_option maxHeartbeats 4000000 in
set_option maxRecDepth 100000 in
theorem ctX1_doesSign {o : Int} {p1 : Int} {p2 : Int} {σ : jq_M} {res : Int} (ho : jq_com o) (hp2 : jq_row p2) (h : X1_doesSign o p1 p2 σ = some res) : jq_MC jq_zX yX1_doesSign cX1_doesSign 3 (some .boolean) 4 111 [jR o, jI p1, jR p2] σ (some (jI res)) σ := by
  refine jq_met (own := RX1) (L0 := [(0, jR o), (1, jI p1), (2, jR p2)]) (by decide) rfl rfl rfl ?_
  intro X Γ hnl hlY hRT
  refine jq_use2 (P := fun r => jq_RT jq_zX X (some .boolean) (some (jI r)) σ) ?_ h hRT
  intro K0 hK0
  unfold X1_doesSign
  refine jq_aload_n Γ dX1_doesSign_0 rfl 0 rfl (jq_at_0 (at_com ho)) ?_
  refine jq_iload_n Γ dX1_doesSign_1 rfl 1 rfl ?_
  refine jq_cpZ (jq_virt (avs := [jI p1]) (st := []) Γ hlY rfl ml_RX1_98 rfl (at_com ho) rfl rfl rfl rfl rfl dX1_doesSign_2) rfl (fun r h => ctX1_isParty ho h) (fun v1 hz2 => ?_)
  refine jq_if_eq (tgt := 27) Γ dX1_doesSign_5 rfl ?_ ?_
  · refine jq_iconst Γ dX1_doesSign_27 rfl ?_
    exact jq_zreturn Γ (Or.inl rfl) dX1_doesSign_28 (hK0 _)
  · refine jq_aload_n Γ dX1_doesSign_8 rfl 0 rfl (jq_at_0 (at_com ho)) ?_
    refine jq_iload_n Γ dX1_doesSign_9 rfl 1 rfl ?_
    refine jq_aload_n Γ dX1_doesSign_10 rfl 2 rfl (jq_at_0 (at_row hp2)) ?_
    refine jq_cpI (jq_virt (avs := [jI p1, jR p2]) (st := []) Γ hlY rfl ml_RX1_132 rfl (at_com ho) rfl rfl rfl rfl rfl dX1_doesSign_11) (fun r h => ctX1_worthTo ho hp2 h) (fun v3 => ?_)
    refine jq_aload_n Γ dX1_doesSign_14 rfl 0 rfl (jq_at_0 (at_com ho)) ?_
    refine jq_getR (v := (o + 2)) Γ hlY (at_com ho) fl_RX1_15 rfl rfl (ly_X1_leasts ho) dX1_doesSign_15 ?_
    refine jq_iload_n Γ dX1_doesSign_18 rfl 1 rfl ?_
    refine jq_iald Γ (at_com_2 ho) rfl dX1_doesSign_19 (fun v4 => ?_)
    refine jq_icmp_lt (tgt := 27) Γ dX1_doesSign_20 rfl ?_ ?_
    · refine jq_iconst Γ dX1_doesSign_27 rfl ?_
      exact jq_zreturn Γ (Or.inl rfl) dX1_doesSign_28 (hK0 _)
    · refine jq_iconst Γ dX1_doesSign_23 rfl ?_
      refine jq_goto Γ (tgt := 28) dX1_doesSign_24 rfl ?_
      exact jq_zreturn Γ (Or.inr rfl) dX1_doesSign_28 (hK0 _)


theorem dX10_signs_0 : decode cX10_signs 0 = .ok (.aload_n 0, 1) := by decide +kernel
theorem dX10_signs_1 : decode cX10_signs 1 = .ok (.getfield 25, 3) := by decide +kernel
theorem dX10_signs_4 : decode cX10_signs 4 = .ok (.iload_n 1, 1) := by decide +kernel
theorem dX10_signs_5 : decode cX10_signs 5 = .ok (.invokevirtual 227, 3) := by decide +kernel
theorem dX10_signs_8 : decode cX10_signs 8 = .ok (.ifCond .ne 9, 3) := by decide +kernel
theorem dX10_signs_11 : decode cX10_signs 11 = .ok (.aload_n 0, 1) := by decide +kernel
theorem dX10_signs_12 : decode cX10_signs 12 = .ok (.iconst 1, 1) := by decide +kernel
theorem dX10_signs_13 : decode cX10_signs 13 = .ok (.invokevirtual 117, 3) := by decide +kernel
theorem dX10_signs_16 : decode cX10_signs 16 = .ok (.ireturn, 1) := by decide +kernel
theorem dX10_signs_17 : decode cX10_signs 17 = .ok (.aload_n 0, 1) := by decide +kernel
theorem dX10_signs_18 : decode cX10_signs 18 = .ok (.aload_n 0, 1) := by decide +kernel
theorem dX10_signs_19 : decode cX10_signs 19 = .ok (.getfield 25, 3) := by decide +kernel
theorem dX10_signs_22 : decode cX10_signs 22 = .ok (.iload_n 1, 1) := by decide +kernel
theorem dX10_signs_23 : decode cX10_signs 23 = .ok (.aload_n 0, 1) := by decide +kernel
theorem dX10_signs_24 : decode cX10_signs 24 = .ok (.getfield 25, 3) := by decide +kernel
theorem dX10_signs_27 : decode cX10_signs 27 = .ok (.getfield 200, 3) := by decide +kernel
theorem dX10_signs_30 : decode cX10_signs 30 = .ok (.invokevirtual 285, 3) := by decide +kernel
theorem dX10_signs_33 : decode cX10_signs 33 = .ok (.invokestatic 266, 3) := by decide +kernel
theorem dX10_signs_36 : decode cX10_signs 36 = .ok (.invokevirtual 167, 3) := by decide +kernel
theorem dX10_signs_39 : decode cX10_signs 39 = .ok (.ireturn, 1) := by decide +kernel
set_option maxHeartbeats 4000000 in
set_option maxRecDepth 100000 in
theorem ctX10_signs {p1 : Int} {σ : jq_M} {res : Int} {σ' : jq_M}  (h : X10_signs p1 σ = some (res, σ')) : jq_MC jq_zX yX10_signs cX10_signs 2 (some .int) 5 133 [jR 0, jI p1] σ (some (jI res)) σ' := by
  refine jq_met (own := RX10) (L0 := [(0, jR 0), (1, jI p1)]) (by decide) rfl rfl rfl ?_
  intro X Γ hnl hlY hRT
  refine jq_use2 (P := fun r => jq_RT jq_zX X (some .int) (some (jI r.1)) r.2) ?_ h hRT
  intro K0 hK0
  unfold X10_signs
  refine jq_aload_n Γ dX10_signs_0 rfl 0 rfl (jq_at_0 at_X_0) ?_
  refine jq_getC (C := jq_cm2) Γ hlY at_X_0 fl_RX10_25 rfl rfl ly_now dX10_signs_1 (fun c1 hc2q => ?_)
  have hc2 := jq_cm2_com hc2q
  refine jq_iload_n Γ dX10_signs_4 rfl 1 rfl ?_
  refine jq_cpZ (jq_virt (avs := [jI p1]) (st := []) Γ hlY rfl ml_RX10_227 rfl (at_com hc2) rfl rfl rfl rfl rfl dX10_signs_5) rfl (fun r h => ctX1_isParty hc2 h) (fun v3 hz4 => ?_)
  refine jq_if_ne (tgt := 17) Γ dX10_signs_8 rfl ?_ ?_
  · refine jq_aload_n Γ dX10_signs_17 rfl 0 rfl (jq_at_0 at_X_0) ?_
    refine jq_aload_n Γ dX10_signs_18 rfl 0 rfl (jq_at_0 at_X_0) ?_
    refine jq_getC (C := jq_cm2) Γ hlY at_X_0 fl_RX10_25 rfl rfl ly_now dX10_signs_19 (fun c5 hc6q => ?_)
    have hc6 := jq_cm2_com hc6q
    refine jq_iload_n Γ dX10_signs_22 rfl 1 rfl ?_
    refine jq_aload_n Γ dX10_signs_23 rfl 0 rfl (jq_at_0 at_X_0) ?_
    refine jq_getC (C := jq_cm2) Γ hlY at_X_0 fl_RX10_25 rfl rfl ly_now dX10_signs_24 (fun c7 hc8q => ?_)
    have hc8 := jq_cm2_com hc8q
    refine jq_getR (v := (c7 + 3)) Γ hlY (at_com hc8) fl_RX10_200 rfl rfl (ly_X1_seats hc8) dX10_signs_27 ?_
    refine jq_cpZ (jq_virt (avs := [jI p1, jR (c7 + 3)]) (st := [jR 0]) Γ hlY rfl ml_RX10_285 rfl (at_com hc6) rfl rfl rfl rfl rfl dX10_signs_30) rfl (fun r h => ctX1_doesSign hc6 (row_com hc8) h) (fun v9 hz10 => ?_)
    refine jq_cpI (jq_stat (avs := [jI v9]) (st := [jR 0]) Γ hlY rfl ml_RX10_266 rfl rfl rfl rfl rfl dX10_signs_33) (fun r h => ctX10_asNumber h) (fun v11 => ?_)
    refine jq_cwI (jq_virt (avs := [jI v11]) (st := []) Γ hlY rfl ml_RX10_167 rfl at_X_0 rfl rfl rfl rfl rfl dX10_signs_36) (fun r σ' h => ctX10_answer h) (fun v12 s13 => ?_)
    exact jq_ireturn Γ dX10_signs_39 (hK0 _)
  · refine jq_aload_n Γ dX10_signs_11 rfl 0 rfl (jq_at_0 at_X_0) ?_
    refine jq_iconst Γ dX10_signs_12 rfl ?_
    refine jq_cwI (jq_virt (avs := [jI 1]) (st := []) Γ hlY rfl ml_RX10_117 rfl at_X_0 rfl rfl rfl rfl rfl dX10_signs_13) (fun r σ' h => ctX10_refuse h) (fun v14 s15 => ?_)
    exact jq_ireturn Γ dX10_signs_16 (hK0 _)


theorem dX1_dearestWish_0 : decode cX1_dearestWish 0 = .ok (.iconst (-1), 1) := by decide +kernel
theorem dX1_dearestWish_1 : decode cX1_dearestWish 1 = .ok (.istore_n 2, 1) := by decide +kernel
theorem dX1_dearestWish_2 : decode cX1_dearestWish 2 = .ok (.iconst 0, 1) := by decide +kernel
theorem dX1_dearestWish_3 : decode cX1_dearestWish 3 = .ok (.istore_n 3, 1) := by decide +kernel
theorem dX1_dearestWish_4 : decode cX1_dearestWish 4 = .ok (.iconst 0, 1) := by decide +kernel
theorem dX1_dearestWish_5 : decode cX1_dearestWish 5 = .ok (.istore 4, 2) := by decide +kernel
theorem dX1_dearestWish_7 : decode cX1_dearestWish 7 = .ok (.iload 4, 2) := by decide +kernel
theorem dX1_dearestWish_9 : decode cX1_dearestWish 9 = .ok (.aload_n 0, 1) := by decide +kernel
theorem dX1_dearestWish_10 : decode cX1_dearestWish 10 = .ok (.getfield 69, 3) := by decide +kernel
theorem dX1_dearestWish_13 : decode cX1_dearestWish 13 = .ok (.if_icmp .ge 62, 3) := by decide +kernel
theorem dX1_dearestWish_16 : decode cX1_dearestWish 16 = .ok (.iload 4, 2) := by decide +kernel
theorem dX1_dearestWish_18 : decode cX1_dearestWish 18 = .ok (.bipush 20, 2) := by decide +kernel
theorem dX1_dearestWish_20 : decode cX1_dearestWish 20 = .ok (.if_icmp .ge 55, 3) := by decide +kernel
theorem dX1_dearestWish_23 : decode cX1_dearestWish 23 = .ok (.aload_n 0, 1) := by decide +kernel
theorem dX1_dearestWish_24 : decode cX1_dearestWish 24 = .ok (.getfield 22, 3) := by decide +kernel
theorem dX1_dearestWish_27 : decode cX1_dearestWish 27 = .ok (.iload 4, 2) := by decide +kernel
theorem dX1_dearestWish_29 : decode cX1_dearestWish 29 = .ok (.iaload, 1) := by decide +kernel
theorem dX1_dearestWish_30 : decode cX1_dearestWish 30 = .ok (.iload_n 1, 1) := by decide +kernel
theorem dX1_dearestWish_31 : decode cX1_dearestWish 31 = .ok (.if_icmp .ne 38, 3) := by decide +kernel
theorem dX1_dearestWish_34 : decode cX1_dearestWish 34 = .ok (.aload_n 0, 1) := by decide +kernel
theorem dX1_dearestWish_35 : decode cX1_dearestWish 35 = .ok (.getfield 31, 3) := by decide +kernel
theorem dX1_dearestWish_38 : decode cX1_dearestWish 38 = .ok (.iload 4, 2) := by decide +kernel
theorem dX1_dearestWish_40 : decode cX1_dearestWish 40 = .ok (.iaload, 1) := by decide +kernel
theorem dX1_dearestWish_41 : decode cX1_dearestWish 41 = .ok (.iload_n 3, 1) := by decide +kernel
theorem dX1_dearestWish_42 : decode cX1_dearestWish 42 = .ok (.if_icmp .le 27, 3) := by decide +kernel
theorem dX1_dearestWish_45 : decode cX1_dearestWish 45 = .ok (.aload_n 0, 1) := by decide +kernel
theorem dX1_dearestWish_46 : decode cX1_dearestWish 46 = .ok (.iload 4, 2) := by decide +kernel
theorem dX1_dearestWish_48 : decode cX1_dearestWish 48 = .ok (.aload_n 0, 1) := by decide +kernel
theorem dX1_dearestWish_49 : decode cX1_dearestWish 49 = .ok (.getfield 19, 3) := by decide +kernel
theorem dX1_dearestWish_52 : decode cX1_dearestWish 52 = .ok (.invokevirtual 128, 3) := by decide +kernel
theorem dX1_dearestWish_55 : decode cX1_dearestWish 55 = .ok (.ifCond .eq 14, 3) := by decide +kernel
theorem dX1_dearestWish_58 : decode cX1_dearestWish 58 = .ok (.iload 4, 2) := by decide +kernel
theorem dX1_dearestWish_60 : decode cX1_dearestWish 60 = .ok (.istore_n 2, 1) := by decide +kernel
theorem dX1_dearestWish_61 : decode cX1_dearestWish 61 = .ok (.aload_n 0, 1) := by decide +kernel
theorem dX1_dearestWish_62 : decode cX1_dearestWish 62 = .ok (.getfield 31, 3) := by decide +kernel
theorem dX1_dearestWish_65 : decode cX1_dearestWish 65 = .ok (.iload 4, 2) := by decide +kernel
theorem dX1_dearestWish_67 : decode cX1_dearestWish 67 = .ok (.iaload, 1) := by decide +kernel
theorem dX1_dearestWish_68 : decode cX1_dearestWish 68 = .ok (.istore_n 3, 1) := by decide +kernel
theorem dX1_dearestWish_69 : decode cX1_dearestWish 69 = .ok (.iinc 4 1, 3) := by decide +kernel
theorem dX1_dearestWish_72 : decode cX1_dearestWish 72 = .ok (.goto (-65), 3) := by decide +kernel
theorem dX1_dearestWish_75 : decode cX1_dearestWish 75 = .ok (.iload_n 2, 1) := by decide +kernel
theorem dX1_dearestWish_76 : decode cX1_dearestWish 76 = .ok (.ireturn, 1) := by decide +kernel
set_option maxHeartbeats 4000000 in
set_option maxRecDepth 100000 in
theorem ctX1_dearestWish {o : Int} {p1 : Int} {σ : jq_M} {res : Int} (ho : jq_com o) (h : X1_dearestWish o p1 σ = some res) : jq_MC jq_zX yX1_dearestWish cX1_dearestWish 5 (some .int) 3 87 [jR o, jI p1] σ (some (jI res)) σ := by
  refine jq_met (own := RX1) (L0 := [(0, jR o), (1, jI p1)]) (by decide) rfl rfl rfl ?_
  intro X Γ hnl hlY hRT
  refine jq_use2 (P := fun r => jq_RT jq_zX X (some .int) (some (jI r)) σ) ?_ h hRT
  intro K0 hK0
  unfold X1_dearestWish
  refine jq_iconst Γ dX1_dearestWish_0 rfl ?_
  refine jq_istore_n (L' := [(2, jI (-1)), (0, jR o), (1, jI p1)]) Γ dX1_dearestWish_1 rfl hnl rfl rfl ?_
  refine jq_iconst Γ dX1_dearestWish_2 rfl ?_
  refine jq_istore_n (L' := [(3, jI 0), (2, jI (-1)), (0, jR o), (1, jI p1)]) Γ dX1_dearestWish_3 rfl hnl rfl rfl ?_
  refine jq_iconst Γ dX1_dearestWish_4 rfl ?_
  refine jq_istore (L' := [(4, jI 0), (3, jI 0), (2, jI (-1)), (0, jR o), (1, jI p1)]) Γ dX1_dearestWish_5 hnl rfl rfl ?_
  refine jq_sub Γ (L' := [(0, jR o), (1, jI p1), (2, jI (-1)), (3, jI 0), (4, jI 0)]) [3, 4, 2, 1, 0] rfl ?_
  refine jq_loop2 (C := fun (t1 : Int × Int × Int) => jq_V jq_zX X (jq_zN jq_zX) σ 7 [(0, jR o), (1, jI p1), (2, jI t1.1), (3, jI t1.2.1), (4, jI t1.2.2)] []) (KX := fun (e11 : Int) => jq_V jq_zX X (jq_zN jq_zX) σ 75 [(2, jI e11)] []) ?_ ?_ ((-1), 0, 0)
  · intro K7_t1 hCt1 hXt1 t1
    unfold X1_dearestWish_b7
    refine jq_iload Γ dX1_dearestWish_7 4 rfl ?_
    refine jq_aload_n Γ dX1_dearestWish_9 rfl 0 rfl (jq_at_0 (at_com ho)) ?_
    refine jq_getI (J := 3) Γ (at_com ho) fl_RX1_69 rfl rfl dX1_dearestWish_10 ?_
    refine jq_icmp_ge (tgt := 75) Γ dX1_dearestWish_13 rfl ?_ ?_
    · refine jq_sub Γ (L' := [(2, jI t1.1)]) [2] rfl ?_
      exact jq_done (hXt1 t1.1)
    · refine jq_iload Γ dX1_dearestWish_16 4 rfl ?_
      refine jq_bipush Γ dX1_dearestWish_18 rfl ?_
      refine jq_icmp_ge (tgt := 75) Γ dX1_dearestWish_20 rfl ?_ ?_
      · refine jq_sub Γ (L' := [(2, jI t1.1)]) [2] rfl ?_
        exact jq_done (hXt1 t1.1)
      · refine jq_aload_n Γ dX1_dearestWish_23 rfl 0 rfl (jq_at_0 (at_com ho)) ?_
        refine jq_getR (v := (o + 4)) Γ hlY (at_com ho) fl_RX1_22 rfl rfl (ly_X1_whose ho) dX1_dearestWish_24 ?_
        refine jq_iload Γ dX1_dearestWish_27 4 rfl ?_
        refine jq_iald Γ (at_com_4 ho) rfl dX1_dearestWish_29 (fun v2 => ?_)
        refine jq_iload_n Γ dX1_dearestWish_30 rfl 1 rfl ?_
        refine jq_icmp_ne (tgt := 69) Γ dX1_dearestWish_31 rfl ?_ ?_
        · refine jq_iincN (L' := fun v3 => [(4, jI v3), (0, jR o), (1, jI p1), (2, jI t1.1), (3, jI t1.2.1)]) Γ dX1_dearestWish_69 4 rfl hnl rfl (fun _ => rfl) (fun v3 => ?_)
          refine jq_goto Γ (tgt := 7) dX1_dearestWish_72 rfl ?_
          refine jq_sub Γ (L' := [(0, jR o), (1, jI p1), (2, jI t1.1), (3, jI t1.2.1), (4, jI v3)]) [1, 2, 3, 4, 0] rfl ?_
          exact jq_done (hCt1 (t1.1, t1.2.1, v3))
        · refine jq_aload_n Γ dX1_dearestWish_34 rfl 0 rfl (jq_at_0 (at_com ho)) ?_
          refine jq_getR (v := (o + 7)) Γ hlY (at_com ho) fl_RX1_31 rfl rfl (ly_X1_worths ho) dX1_dearestWish_35 ?_
          refine jq_iload Γ dX1_dearestWish_38 4 rfl ?_
          refine jq_iald Γ (at_com_7 ho) rfl dX1_dearestWish_40 (fun v4 => ?_)
          refine jq_iload_n Γ dX1_dearestWish_41 rfl 3 rfl ?_
          refine jq_icmp_le (tgt := 69) Γ dX1_dearestWish_42 rfl ?_ ?_
          · refine jq_iincN (L' := fun v5 => [(4, jI v5), (0, jR o), (1, jI p1), (2, jI t1.1), (3, jI t1.2.1)]) Γ dX1_dearestWish_69 4 rfl hnl rfl (fun _ => rfl) (fun v5 => ?_)
            refine jq_goto Γ (tgt := 7) dX1_dearestWish_72 rfl ?_
            refine jq_sub Γ (L' := [(0, jR o), (1, jI p1), (2, jI t1.1), (3, jI t1.2.1), (4, jI v5)]) [1, 2, 3, 4, 0] rfl ?_
            exact jq_done (hCt1 (t1.1, t1.2.1, v5))
          · refine jq_aload_n Γ dX1_dearestWish_45 rfl 0 rfl (jq_at_0 (at_com ho)) ?_
            refine jq_iload Γ dX1_dearestWish_46 4 rfl ?_
            refine jq_aload_n Γ dX1_dearestWish_48 rfl 0 rfl (jq_at_0 (at_com ho)) ?_
            refine jq_getR (v := (o + 3)) Γ hlY (at_com ho) fl_RX1_19 rfl rfl (ly_X1_seats ho) dX1_dearestWish_49 ?_
            refine jq_cpZ (jq_virt (avs := [jI t1.2.2, jR (o + 3)]) (st := []) Γ hlY rfl ml_RX1_128 rfl (at_com ho) rfl rfl rfl rfl rfl dX1_dearestWish_52) rfl (fun r h => ctX1_isMet ho (row_com ho) h) (fun v6 hz7 => ?_)
            refine jq_if_eq (tgt := 69) Γ dX1_dearestWish_55 rfl ?_ ?_
            · refine jq_iincN (L' := fun v8 => [(4, jI v8), (0, jR o), (1, jI p1), (2, jI t1.1), (3, jI t1.2.1)]) Γ dX1_dearestWish_69 4 rfl hnl rfl (fun _ => rfl) (fun v8 => ?_)
              refine jq_goto Γ (tgt := 7) dX1_dearestWish_72 rfl ?_
              refine jq_sub Γ (L' := [(0, jR o), (1, jI p1), (2, jI t1.1), (3, jI t1.2.1), (4, jI v8)]) [1, 2, 3, 4, 0] rfl ?_
              exact jq_done (hCt1 (t1.1, t1.2.1, v8))
            · refine jq_iload Γ dX1_dearestWish_58 4 rfl ?_
              refine jq_istore_n (L' := [(2, jI t1.2.2), (0, jR o), (1, jI p1), (3, jI t1.2.1), (4, jI t1.2.2)]) Γ dX1_dearestWish_60 rfl hnl rfl rfl ?_
              refine jq_aload_n Γ dX1_dearestWish_61 rfl 1 rfl (jq_at_0 (at_com ho)) ?_
              refine jq_getR (v := (o + 7)) Γ hlY (at_com ho) fl_RX1_31 rfl rfl (ly_X1_worths ho) dX1_dearestWish_62 ?_
              refine jq_iload Γ dX1_dearestWish_65 4 rfl ?_
              refine jq_iald Γ (at_com_7 ho) rfl dX1_dearestWish_67 (fun v9 => ?_)
              refine jq_istore_n (L' := [(3, jI v9), (2, jI t1.2.2), (0, jR o), (1, jI p1), (4, jI t1.2.2)]) Γ dX1_dearestWish_68 rfl hnl rfl rfl ?_
              refine jq_iincN (L' := fun v10 => [(4, jI v10), (3, jI v9), (2, jI t1.2.2), (0, jR o), (1, jI p1)]) Γ dX1_dearestWish_69 4 rfl hnl rfl (fun _ => rfl) (fun v10 => ?_)
              refine jq_goto Γ (tgt := 7) dX1_dearestWish_72 rfl ?_
              refine jq_sub Γ (L' := [(0, jR o), (1, jI p1), (2, jI t1.2.2), (3, jI v9), (4, jI v10)]) [3, 4, 2, 1, 0] rfl ?_
              exact jq_done (hCt1 (t1.2.2, v9, v10))
  · intro e11
    refine jq_iload_n Γ dX1_dearestWish_75 rfl 0 rfl ?_
    exact jq_ireturn Γ dX1_dearestWish_76 (hK0 _)


theorem dX10_dearest_0 : decode cX10_dearest 0 = .ok (.aload_n 0, 1) := by decide +kernel
theorem dX10_dearest_1 : decode cX10_dearest 1 = .ok (.getfield 25, 3) := by decide +kernel
theorem dX10_dearest_4 : decode cX10_dearest 4 = .ok (.iload_n 1, 1) := by decide +kernel
theorem dX10_dearest_5 : decode cX10_dearest 5 = .ok (.invokevirtual 227, 3) := by decide +kernel
theorem dX10_dearest_8 : decode cX10_dearest 8 = .ok (.ifCond .ne 9, 3) := by decide +kernel
theorem dX10_dearest_11 : decode cX10_dearest 11 = .ok (.aload_n 0, 1) := by decide +kernel
theorem dX10_dearest_12 : decode cX10_dearest 12 = .ok (.iconst 1, 1) := by decide +kernel
theorem dX10_dearest_13 : decode cX10_dearest 13 = .ok (.invokevirtual 117, 3) := by decide +kernel
theorem dX10_dearest_16 : decode cX10_dearest 16 = .ok (.ireturn, 1) := by decide +kernel
theorem dX10_dearest_17 : decode cX10_dearest 17 = .ok (.aload_n 0, 1) := by decide +kernel
theorem dX10_dearest_18 : decode cX10_dearest 18 = .ok (.aload_n 0, 1) := by decide +kernel
theorem dX10_dearest_19 : decode cX10_dearest 19 = .ok (.getfield 25, 3) := by decide +kernel
theorem dX10_dearest_22 : decode cX10_dearest 22 = .ok (.iload_n 1, 1) := by decide +kernel
theorem dX10_dearest_23 : decode cX10_dearest 23 = .ok (.invokevirtual 289, 3) := by decide +kernel
theorem dX10_dearest_26 : decode cX10_dearest 26 = .ok (.invokevirtual 224, 3) := by decide +kernel
theorem dX10_dearest_29 : decode cX10_dearest 29 = .ok (.ireturn, 1) := by decide +kernel
set_option maxHeartbeats 4000000 in
set_option maxRecDepth 100000 in
theorem ctX10_dearest {p1 : Int} {σ : jq_M} {res : Int} {σ' : jq_M}  (h : X10_dearest p1 σ = some (res, σ')) : jq_MC jq_zX yX10_dearest cX10_dearest 2 (some .int) 4 111 [jR 0, jI p1] σ (some (jI res)) σ' := by
  refine jq_met (own := RX10) (L0 := [(0, jR 0), (1, jI p1)]) (by decide) rfl rfl rfl ?_
  intro X Γ hnl hlY hRT
  refine jq_use2 (P := fun r => jq_RT jq_zX X (some .int) (some (jI r.1)) r.2) ?_ h hRT
  intro K0 hK0
  unfold X10_dearest
  refine jq_aload_n Γ dX10_dearest_0 rfl 0 rfl (jq_at_0 at_X_0) ?_
  refine jq_getC (C := jq_cm2) Γ hlY at_X_0 fl_RX10_25 rfl rfl ly_now dX10_dearest_1 (fun c1 hc2q => ?_)
  have hc2 := jq_cm2_com hc2q
  refine jq_iload_n Γ dX10_dearest_4 rfl 1 rfl ?_
  refine jq_cpZ (jq_virt (avs := [jI p1]) (st := []) Γ hlY rfl ml_RX10_227 rfl (at_com hc2) rfl rfl rfl rfl rfl dX10_dearest_5) rfl (fun r h => ctX1_isParty hc2 h) (fun v3 hz4 => ?_)
  refine jq_if_ne (tgt := 17) Γ dX10_dearest_8 rfl ?_ ?_
  · refine jq_aload_n Γ dX10_dearest_17 rfl 0 rfl (jq_at_0 at_X_0) ?_
    refine jq_aload_n Γ dX10_dearest_18 rfl 0 rfl (jq_at_0 at_X_0) ?_
    refine jq_getC (C := jq_cm2) Γ hlY at_X_0 fl_RX10_25 rfl rfl ly_now dX10_dearest_19 (fun c5 hc6q => ?_)
    have hc6 := jq_cm2_com hc6q
    refine jq_iload_n Γ dX10_dearest_22 rfl 1 rfl ?_
    refine jq_cpI (jq_virt (avs := [jI p1]) (st := [jR 0]) Γ hlY rfl ml_RX10_289 rfl (at_com hc6) rfl rfl rfl rfl rfl dX10_dearest_23) (fun r h => ctX1_dearestWish hc6 h) (fun v7 => ?_)
    refine jq_cwI (jq_virt (avs := [jI v7]) (st := []) Γ hlY rfl ml_RX10_224 rfl at_X_0 rfl rfl rfl rfl rfl dX10_dearest_26) (fun r σ' h => ctX10_answerOrNone h) (fun v8 s9 => ?_)
    exact jq_ireturn Γ dX10_dearest_29 (hK0 _)
  · refine jq_aload_n Γ dX10_dearest_11 rfl 0 rfl (jq_at_0 at_X_0) ?_
    refine jq_iconst Γ dX10_dearest_12 rfl ?_
    refine jq_cwI (jq_virt (avs := [jI 1]) (st := []) Γ hlY rfl ml_RX10_117 rfl at_X_0 rfl rfl rfl rfl rfl dX10_dearest_13) (fun r σ' h => ctX10_refuse h) (fun v10 s11 => ?_)
    exact jq_ireturn Γ dX10_dearest_16 (hK0 _)


theorem dX1_seatOne_0 : decode cX1_seatOne 0 = .ok (.aload_n 0, 1) := by decide +kernel
theorem dX1_seatOne_1 : decode cX1_seatOne 1 = .ok (.iload_n 2, 1) := by decide +kernel
theorem dX1_seatOne_2 : decode cX1_seatOne 2 = .ok (.aload_n 0, 1) := by decide +kernel
theorem dX1_seatOne_3 : decode cX1_seatOne 3 = .ok (.getfield 19, 3) := by decide +kernel
theorem dX1_seatOne_6 : decode cX1_seatOne 6 = .ok (.invokevirtual 108, 3) := by decide +kernel
theorem dX1_seatOne_9 : decode cX1_seatOne 9 = .ok (.istore_n 3, 1) := by decide +kernel
theorem dX1_seatOne_10 : decode cX1_seatOne 10 = .ok (.aload_n 0, 1) := by decide +kernel
theorem dX1_seatOne_11 : decode cX1_seatOne 11 = .ok (.iload_n 1, 1) := by decide +kernel
theorem dX1_seatOne_12 : decode cX1_seatOne 12 = .ok (.invokevirtual 98, 3) := by decide +kernel
theorem dX1_seatOne_15 : decode cX1_seatOne 15 = .ok (.ifCond .eq 21, 3) := by decide +kernel
theorem dX1_seatOne_18 : decode cX1_seatOne 18 = .ok (.aload_n 0, 1) := by decide +kernel
theorem dX1_seatOne_19 : decode cX1_seatOne 19 = .ok (.iload_n 2, 1) := by decide +kernel
theorem dX1_seatOne_20 : decode cX1_seatOne 20 = .ok (.invokevirtual 112, 3) := by decide +kernel
theorem dX1_seatOne_23 : decode cX1_seatOne 23 = .ok (.ifCond .eq 13, 3) := by decide +kernel
theorem dX1_seatOne_26 : decode cX1_seatOne 26 = .ok (.iload_n 3, 1) := by decide +kernel
theorem dX1_seatOne_27 : decode cX1_seatOne 27 = .ok (.iconst (-1), 1) := by decide +kernel
theorem dX1_seatOne_28 : decode cX1_seatOne 28 = .ok (.if_icmp .eq 10, 3) := by decide +kernel
theorem dX1_seatOne_31 : decode cX1_seatOne 31 = .ok (.iload_n 3, 1) := by decide +kernel
theorem dX1_seatOne_32 : decode cX1_seatOne 32 = .ok (.iload_n 1, 1) := by decide +kernel
theorem dX1_seatOne_33 : decode cX1_seatOne 33 = .ok (.if_icmp .eq 5, 3) := by decide +kernel
theorem dX1_seatOne_36 : decode cX1_seatOne 36 = .ok (.iconst 0, 1) := by decide +kernel
theorem dX1_seatOne_37 : decode cX1_seatOne 37 = .ok (.ireturn, 1) := by decide +kernel
theorem dX1_seatOne_38 : decode cX1_seatOne 38 = .ok (.aload_n 0, 1) := by decide +kernel
theorem dX1_seatOne_39 : decode cX1_seatOne 39 = .ok (.getfield 19, 3) := by decide +kernel
theorem dX1_seatOne_42 : decode cX1_seatOne 42 = .ok (.iload_n 1, 1) := by decide +kernel
theorem dX1_seatOne_43 : decode cX1_seatOne 43 = .ok (.iload_n 2, 1) := by decide +kernel
theorem dX1_seatOne_44 : decode cX1_seatOne 44 = .ok (.iastore, 1) := by decide +kernel
theorem dX1_seatOne_45 : decode cX1_seatOne 45 = .ok (.iconst 1, 1) := by decide +kernel
theorem dX1_seatOne_46 : decode cX1_seatOne 46 = .ok (.ireturn, 1) := by decide +kernel
set_option maxHeartbeats 4000000 in
set_option maxRecDepth 100000 in
theorem ctX1_seatOne {o : Int} {p1 : Int} {p2 : Int} {σ : jq_M} {res : Int} {σ' : jq_M} (ho : jq_com o) (h : X1_seatOne o p1 p2 σ = some (res, σ')) : jq_MC jq_zX yX1_seatOne cX1_seatOne 4 (some .boolean) 2 63 [jR o, jI p1, jI p2] σ (some (jI res)) σ' := by
  refine jq_met (own := RX1) (L0 := [(0, jR o), (1, jI p1), (2, jI p2)]) (by decide) rfl rfl rfl ?_
  intro X Γ hnl hlY hRT
  refine jq_use2 (P := fun r => jq_RT jq_zX X (some .boolean) (some (jI r.1)) r.2) ?_ h hRT
  intro K0 hK0
  unfold X1_seatOne
  refine jq_aload_n Γ dX1_seatOne_0 rfl 0 rfl (jq_at_0 (at_com ho)) ?_
  refine jq_iload_n Γ dX1_seatOne_1 rfl 2 rfl ?_
  refine jq_aload_n Γ dX1_seatOne_2 rfl 0 rfl (jq_at_0 (at_com ho)) ?_
  refine jq_getR (v := (o + 3)) Γ hlY (at_com ho) fl_RX1_19 rfl rfl (ly_X1_seats ho) dX1_seatOne_3 ?_
  refine jq_cpI (jq_virt (avs := [jI p2, jR (o + 3)]) (st := []) Γ hlY rfl ml_RX1_108 rfl (at_com ho) rfl rfl rfl rfl rfl dX1_seatOne_6) (fun r h => ctX1_sitterAt ho (row_com ho) h) (fun v1 => ?_)
  refine jq_istore_n (L' := [(3, jI v1), (0, jR o), (1, jI p1), (2, jI p2)]) Γ dX1_seatOne_9 rfl hnl rfl rfl ?_
  refine jq_aload_n Γ dX1_seatOne_10 rfl 1 rfl (jq_at_0 (at_com ho)) ?_
  refine jq_iload_n Γ dX1_seatOne_11 rfl 2 rfl ?_
  refine jq_cpZ (jq_virt (avs := [jI p1]) (st := []) Γ hlY rfl ml_RX1_98 rfl (at_com ho) rfl rfl rfl rfl rfl dX1_seatOne_12) rfl (fun r h => ctX1_isParty ho h) (fun v2 hz3 => ?_)
  refine jq_if_eq (tgt := 36) Γ dX1_seatOne_15 rfl ?_ ?_
  · refine jq_iconst Γ dX1_seatOne_36 rfl ?_
    exact jq_zreturn Γ (Or.inl rfl) dX1_seatOne_37 (hK0 _)
  · refine jq_aload_n Γ dX1_seatOne_18 rfl 1 rfl (jq_at_0 (at_com ho)) ?_
    refine jq_iload_n Γ dX1_seatOne_19 rfl 3 rfl ?_
    refine jq_cpZ (jq_virt (avs := [jI p2]) (st := []) Γ hlY rfl ml_RX1_112 rfl (at_com ho) rfl rfl rfl rfl rfl dX1_seatOne_20) rfl (fun r h => ctX1_isPlace ho h) (fun v4 hz5 => ?_)
    refine jq_if_eq (tgt := 36) Γ dX1_seatOne_23 rfl ?_ ?_
    · refine jq_iconst Γ dX1_seatOne_36 rfl ?_
      exact jq_zreturn Γ (Or.inl rfl) dX1_seatOne_37 (hK0 _)
    · refine jq_iload_n Γ dX1_seatOne_26 rfl 0 rfl ?_
      refine jq_iconst Γ dX1_seatOne_27 rfl ?_
      refine jq_icmp_eq (tgt := 38) Γ dX1_seatOne_28 rfl ?_ ?_
      · refine jq_aload_n Γ dX1_seatOne_38 rfl 1 rfl (jq_at_0 (at_com ho)) ?_
        refine jq_getR (v := (o + 3)) Γ hlY (at_com ho) fl_RX1_19 rfl rfl (ly_X1_seats ho) dX1_seatOne_39 ?_
        refine jq_iload_n Γ dX1_seatOne_42 rfl 2 rfl ?_
        refine jq_iload_n Γ dX1_seatOne_43 rfl 3 rfl ?_
        refine jq_iast Γ (at_com_3 ho) rfl dX1_seatOne_44 (fun s6 => ?_)
        refine jq_iconst Γ dX1_seatOne_45 rfl ?_
        exact jq_zreturn Γ (Or.inr rfl) dX1_seatOne_46 (hK0 _)
      · refine jq_iload_n Γ dX1_seatOne_31 rfl 0 rfl ?_
        refine jq_iload_n Γ dX1_seatOne_32 rfl 2 rfl ?_
        refine jq_icmp_eq (tgt := 38) Γ dX1_seatOne_33 rfl ?_ ?_
        · refine jq_aload_n Γ dX1_seatOne_38 rfl 1 rfl (jq_at_0 (at_com ho)) ?_
          refine jq_getR (v := (o + 3)) Γ hlY (at_com ho) fl_RX1_19 rfl rfl (ly_X1_seats ho) dX1_seatOne_39 ?_
          refine jq_iload_n Γ dX1_seatOne_42 rfl 2 rfl ?_
          refine jq_iload_n Γ dX1_seatOne_43 rfl 3 rfl ?_
          refine jq_iast Γ (at_com_3 ho) rfl dX1_seatOne_44 (fun s7 => ?_)
          refine jq_iconst Γ dX1_seatOne_45 rfl ?_
          exact jq_zreturn Γ (Or.inr rfl) dX1_seatOne_46 (hK0 _)
        · refine jq_iconst Γ dX1_seatOne_36 rfl ?_
          exact jq_zreturn Γ (Or.inl rfl) dX1_seatOne_37 (hK0 _)


theorem dX10_sit_0 : decode cX10_sit 0 = .ok (.aload_n 0, 1) := by decide +kernel
theorem dX10_sit_1 : decode cX10_sit 1 = .ok (.getfield 25, 3) := by decide +kernel
theorem dX10_sit_4 : decode cX10_sit 4 = .ok (.iload_n 1, 1) := by decide +kernel
theorem dX10_sit_5 : decode cX10_sit 5 = .ok (.invokevirtual 227, 3) := by decide +kernel
theorem dX10_sit_8 : decode cX10_sit 8 = .ok (.ifCond .eq 14, 3) := by decide +kernel
theorem dX10_sit_11 : decode cX10_sit 11 = .ok (.aload_n 0, 1) := by decide +kernel
theorem dX10_sit_12 : decode cX10_sit 12 = .ok (.getfield 25, 3) := by decide +kernel
theorem dX10_sit_15 : decode cX10_sit 15 = .ok (.iload_n 2, 1) := by decide +kernel
theorem dX10_sit_16 : decode cX10_sit 16 = .ok (.invokevirtual 217, 3) := by decide +kernel
theorem dX10_sit_19 : decode cX10_sit 19 = .ok (.ifCond .ne 9, 3) := by decide +kernel
theorem dX10_sit_22 : decode cX10_sit 22 = .ok (.aload_n 0, 1) := by decide +kernel
theorem dX10_sit_23 : decode cX10_sit 23 = .ok (.iconst 1, 1) := by decide +kernel
theorem dX10_sit_24 : decode cX10_sit 24 = .ok (.invokevirtual 117, 3) := by decide +kernel
theorem dX10_sit_27 : decode cX10_sit 27 = .ok (.ireturn, 1) := by decide +kernel
theorem dX10_sit_28 : decode cX10_sit 28 = .ok (.aload_n 0, 1) := by decide +kernel
theorem dX10_sit_29 : decode cX10_sit 29 = .ok (.getfield 25, 3) := by decide +kernel
theorem dX10_sit_32 : decode cX10_sit 32 = .ok (.getfield 200, 3) := by decide +kernel
theorem dX10_sit_35 : decode cX10_sit 35 = .ok (.iload_n 1, 1) := by decide +kernel
theorem dX10_sit_36 : decode cX10_sit 36 = .ok (.iaload, 1) := by decide +kernel
theorem dX10_sit_37 : decode cX10_sit 37 = .ok (.istore_n 3, 1) := by decide +kernel
theorem dX10_sit_38 : decode cX10_sit 38 = .ok (.aload_n 0, 1) := by decide +kernel
theorem dX10_sit_39 : decode cX10_sit 39 = .ok (.getfield 25, 3) := by decide +kernel
theorem dX10_sit_42 : decode cX10_sit 42 = .ok (.iload_n 1, 1) := by decide +kernel
theorem dX10_sit_43 : decode cX10_sit 43 = .ok (.iload_n 2, 1) := by decide +kernel
theorem dX10_sit_44 : decode cX10_sit 44 = .ok (.invokevirtual 292, 3) := by decide +kernel
theorem dX10_sit_47 : decode cX10_sit 47 = .ok (.ifCond .ne 10, 3) := by decide +kernel
theorem dX10_sit_50 : decode cX10_sit 50 = .ok (.aload_n 0, 1) := by decide +kernel
theorem dX10_sit_51 : decode cX10_sit 51 = .ok (.bipush 7, 2) := by decide +kernel
theorem dX10_sit_53 : decode cX10_sit 53 = .ok (.invokevirtual 117, 3) := by decide +kernel
theorem dX10_sit_56 : decode cX10_sit 56 = .ok (.ireturn, 1) := by decide +kernel
theorem dX10_sit_57 : decode cX10_sit 57 = .ok (.aload_n 0, 1) := by decide +kernel
theorem dX10_sit_58 : decode cX10_sit 58 = .ok (.iload_n 3, 1) := by decide +kernel
theorem dX10_sit_59 : decode cX10_sit 59 = .ok (.invokevirtual 167, 3) := by decide +kernel
theorem dX10_sit_62 : decode cX10_sit 62 = .ok (.ireturn, 1) := by decide +kernel
set_option maxHeartbeats 4000000 in
set_option maxRecDepth 100000 in
theorem ctX10_sit {p1 : Int} {p2 : Int} {σ : jq_M} {res : Int} {σ' : jq_M}  (h : X10_sit p1 p2 σ = some (res, σ')) : jq_MC jq_zX yX10_sit cX10_sit 4 (some .int) 3 86 [jR 0, jI p1, jI p2] σ (some (jI res)) σ' := by
  refine jq_met (own := RX10) (L0 := [(0, jR 0), (1, jI p1), (2, jI p2)]) (by decide) rfl rfl rfl ?_
  intro X Γ hnl hlY hRT
  refine jq_use2 (P := fun r => jq_RT jq_zX X (some .int) (some (jI r.1)) r.2) ?_ h hRT
  intro K0 hK0
  unfold X10_sit
  have hj22_0 : ∀ (s5 : jq_M), jq_J (X10_sit_j22 s5) K0 (jq_V jq_zX X (jq_zN jq_zX) s5 22 [(0, jR 0)] []) := by
    intro s5
    unfold X10_sit_j22
    refine jq_aload_n Γ dX10_sit_22 rfl 0 rfl (jq_at_0 at_X_0) ?_
    refine jq_iconst Γ dX10_sit_23 rfl ?_
    refine jq_cwI (jq_virt (avs := [jI 1]) (st := []) Γ hlY rfl ml_RX10_117 rfl at_X_0 rfl rfl rfl rfl rfl dX10_sit_24) (fun r σ' h => ctX10_refuse h) (fun v6 s7 => ?_)
    exact jq_ireturn Γ dX10_sit_27 (hK0 _)
  refine jq_aload_n Γ dX10_sit_0 rfl 0 rfl (jq_at_0 at_X_0) ?_
  refine jq_getC (C := jq_cm2) Γ hlY at_X_0 fl_RX10_25 rfl rfl ly_now dX10_sit_1 (fun c1 hc2q => ?_)
  have hc2 := jq_cm2_com hc2q
  refine jq_iload_n Γ dX10_sit_4 rfl 1 rfl ?_
  refine jq_cpZ (jq_virt (avs := [jI p1]) (st := []) Γ hlY rfl ml_RX10_227 rfl (at_com hc2) rfl rfl rfl rfl rfl dX10_sit_5) rfl (fun r h => ctX1_isParty hc2 h) (fun v3 hz4 => ?_)
  refine jq_if_eq (tgt := 22) Γ dX10_sit_8 rfl ?_ ?_
  · refine jq_sub Γ (L' := [(0, jR 0)]) [0] rfl ?_
    exact hj22_0 σ
  · refine jq_aload_n Γ dX10_sit_11 rfl 0 rfl (jq_at_0 at_X_0) ?_
    refine jq_getC (C := jq_cm2) Γ hlY at_X_0 fl_RX10_25 rfl rfl ly_now dX10_sit_12 (fun c8 hc9q => ?_)
    have hc9 := jq_cm2_com hc9q
    refine jq_iload_n Γ dX10_sit_15 rfl 2 rfl ?_
    refine jq_cpZ (jq_virt (avs := [jI p2]) (st := []) Γ hlY rfl ml_RX10_217 rfl (at_com hc9) rfl rfl rfl rfl rfl dX10_sit_16) rfl (fun r h => ctX1_isPlace hc9 h) (fun v10 hz11 => ?_)
    refine jq_if_ne (tgt := 28) Γ dX10_sit_19 rfl ?_ ?_
    · refine jq_aload_n Γ dX10_sit_28 rfl 0 rfl (jq_at_0 at_X_0) ?_
      refine jq_getC (C := jq_cm2) Γ hlY at_X_0 fl_RX10_25 rfl rfl ly_now dX10_sit_29 (fun c12 hc13q => ?_)
      have hc13 := jq_cm2_com hc13q
      refine jq_getR (v := (c12 + 3)) Γ hlY (at_com hc13) fl_RX10_200 rfl rfl (ly_X1_seats hc13) dX10_sit_32 ?_
      refine jq_iload_n Γ dX10_sit_35 rfl 1 rfl ?_
      refine jq_iald Γ (at_com_3 hc13) rfl dX10_sit_36 (fun v14 => ?_)
      refine jq_istore_n (L' := [(3, jI v14), (0, jR 0), (1, jI p1), (2, jI p2)]) Γ dX10_sit_37 rfl hnl rfl rfl ?_
      refine jq_aload_n Γ dX10_sit_38 rfl 1 rfl (jq_at_0 at_X_0) ?_
      refine jq_getC (C := jq_cm2) Γ hlY at_X_0 fl_RX10_25 rfl rfl ly_now dX10_sit_39 (fun c15 hc16q => ?_)
      have hc16 := jq_cm2_com hc16q
      refine jq_iload_n Γ dX10_sit_42 rfl 2 rfl ?_
      refine jq_iload_n Γ dX10_sit_43 rfl 3 rfl ?_
      refine jq_cwZ (jq_virt (avs := [jI p1, jI p2]) (st := []) Γ hlY rfl ml_RX10_292 rfl (at_com hc16) rfl rfl rfl rfl rfl dX10_sit_44) rfl (fun r σ' h => ctX1_seatOne hc16 h) (fun v17 s18 hz19 => ?_)
      refine jq_if_ne (tgt := 57) Γ dX10_sit_47 rfl ?_ ?_
      · refine jq_aload_n Γ dX10_sit_57 rfl 1 rfl (jq_at_0 at_X_0) ?_
        refine jq_iload_n Γ dX10_sit_58 rfl 0 rfl ?_
        refine jq_cwI (jq_virt (avs := [jI v14]) (st := []) Γ hlY rfl ml_RX10_167 rfl at_X_0 rfl rfl rfl rfl rfl dX10_sit_59) (fun r σ' h => ctX10_answer h) (fun v20 s21 => ?_)
        exact jq_ireturn Γ dX10_sit_62 (hK0 _)
      · refine jq_aload_n Γ dX10_sit_50 rfl 1 rfl (jq_at_0 at_X_0) ?_
        refine jq_bipush Γ dX10_sit_51 rfl ?_
        refine jq_cwI (jq_virt (avs := [jI 7]) (st := []) Γ hlY rfl ml_RX10_117 rfl at_X_0 rfl rfl rfl rfl rfl dX10_sit_53) (fun r σ' h => ctX10_refuse h) (fun v22 s23 => ?_)
        exact jq_ireturn Γ dX10_sit_56 (hK0 _)
    · refine jq_sub Γ (L' := [(0, jR 0)]) [0] rfl ?_
      exact hj22_0 σ


