theorem fl_RX6_42 : jq_fl RX6 42 4 9 3 true := ⟨RX7, TX7, tyX7, cls_X7, by decide, jq_in 293 (by decide +kernel) rfl, by decide⟩
theorem fl_RX6_107 : jq_fl RX6 107 1 21 0 false := ⟨RX1, TX1, tyX1, cls_X1, by decide, jq_in 330 (by decide +kernel) rfl, by decide⟩
theorem ml_RX6_9 : jq_vl RX6 9 yX7_clear cX7_clear 1 none 0 := ⟨jq_in 822 (by decide +kernel) rfl, yf_X7_clear⟩
theorem fl_RX6_14 : jq_fl RX6 14 4 9 0 false := ⟨RX7, TX7, tyX7, cls_X7, by decide, jq_in 286 (by decide +kernel) rfl, by decide⟩
theorem ml_RX6_18 : jq_vl RX6 18 yX5_goesOn cX5_goesOn 1 (some .boolean) 0 := ⟨jq_in 823 (by decide +kernel) rfl, yf_X5_goesOn⟩
theorem yf_X6_mayBegin : Cond.static yX6_mayBegin ∈ jq_T ∧ Cond.initialized (yX6_mayBegin).cls ∈ jq_T ∧ Cond.code yX6_mayBegin cX6_mayBegin 2 (some .boolean) ∈ jq_T ∧ ((yX6_mayBegin).cls ≠ "java/lang/invoke/MethodHandle" ∧ (yX6_mayBegin).cls ≠ "java/lang/invoke/VarHandle" ∧ (parseMethodDescriptor (yX6_mayBegin).desc).map (fun d => d.parameters.length) = some 2) := ⟨jq_in 840 (by decide +kernel) rfl, jq_in 151 (by decide +kernel) rfl, jq_in 841 (by decide +kernel) rfl, ⟨by decide, by decide, by decide +kernel⟩⟩
theorem ml_RX6_34 : jq_sl RX6 34 yX6_mayBegin cX6_mayBegin 2 (some .boolean) 2 := ⟨jq_in 839 (by decide +kernel) rfl, yf_X6_mayBegin⟩
theorem yf_X6_beginStep : Cond.static yX6_beginStep ∈ jq_T ∧ Cond.initialized (yX6_beginStep).cls ∈ jq_T ∧ Cond.code yX6_beginStep cX6_beginStep 3 (some .int) ∈ jq_T ∧ ((yX6_beginStep).cls ≠ "java/lang/invoke/MethodHandle" ∧ (yX6_beginStep).cls ≠ "java/lang/invoke/VarHandle" ∧ (parseMethodDescriptor (yX6_beginStep).desc).map (fun d => d.parameters.length) = some 2) := ⟨jq_in 859 (by decide +kernel) rfl, jq_in 151 (by decide +kernel) rfl, jq_in 860 (by decide +kernel) rfl, ⟨by decide, by decide, by decide +kernel⟩⟩
theorem ml_RX6_38 : jq_sl RX6 38 yX6_beginStep cX6_beginStep 3 (some .int) 2 := ⟨jq_in 858 (by decide +kernel) rfl, yf_X6_beginStep⟩
theorem yf_X6_readOperands : Cond.static yX6_readOperands ∈ jq_T ∧ Cond.initialized (yX6_readOperands).cls ∈ jq_T ∧ Cond.code yX6_readOperands cX6_readOperands 4 none ∈ jq_T ∧ ((yX6_readOperands).cls ≠ "java/lang/invoke/MethodHandle" ∧ (yX6_readOperands).cls ≠ "java/lang/invoke/VarHandle" ∧ (parseMethodDescriptor (yX6_readOperands).desc).map (fun d => d.parameters.length) = some 4) := ⟨jq_in 880 (by decide +kernel) rfl, jq_in 151 (by decide +kernel) rfl, jq_in 881 (by decide +kernel) rfl, ⟨by decide, by decide, by decide +kernel⟩⟩
theorem ml_RX6_50 : jq_sl RX6 50 yX6_readOperands cX6_readOperands 4 none 4 := ⟨jq_in 879 (by decide +kernel) rfl, yf_X6_readOperands⟩
theorem yf_X6_readTest : Cond.static yX6_readTest ∈ jq_T ∧ Cond.initialized (yX6_readTest).cls ∈ jq_T ∧ Cond.code yX6_readTest cX6_readTest 4 none ∈ jq_T ∧ ((yX6_readTest).cls ≠ "java/lang/invoke/MethodHandle" ∧ (yX6_readTest).cls ≠ "java/lang/invoke/VarHandle" ∧ (parseMethodDescriptor (yX6_readTest).desc).map (fun d => d.parameters.length) = some 4) := ⟨jq_in 870 (by decide +kernel) rfl, jq_in 151 (by decide +kernel) rfl, jq_in 871 (by decide +kernel) rfl, ⟨by decide, by decide, by decide +kernel⟩⟩
theorem ml_RX6_46 : jq_sl RX6 46 yX6_readTest cX6_readTest 4 none 4 := ⟨jq_in 869 (by decide +kernel) rfl, yf_X6_readTest⟩
theorem yf_X6_readEnd : Cond.static yX6_readEnd ∈ jq_T ∧ Cond.initialized (yX6_readEnd).cls ∈ jq_T ∧ Cond.code yX6_readEnd cX6_readEnd 2 none ∈ jq_T ∧ ((yX6_readEnd).cls ≠ "java/lang/invoke/MethodHandle" ∧ (yX6_readEnd).cls ≠ "java/lang/invoke/VarHandle" ∧ (parseMethodDescriptor (yX6_readEnd).desc).map (fun d => d.parameters.length) = some 2) := ⟨jq_in 825 (by decide +kernel) rfl, jq_in 151 (by decide +kernel) rfl, jq_in 826 (by decide +kernel) rfl, ⟨by decide, by decide, by decide +kernel⟩⟩
theorem ml_RX6_28 : jq_sl RX6 28 yX6_readEnd cX6_readEnd 2 none 2 := ⟨jq_in 824 (by decide +kernel) rfl, yf_X6_readEnd⟩
theorem aw_RX7_41 : Cond.methodLink RX7 41 arraycopyName ∈ jq_T := jq_in 886 (by decide +kernel) rfl
theorem fl_RX10_35 : jq_fl RX10 35 7 18 9 true := ⟨RX10, TX10, tyX10, cls_X10, by decide, jq_in 535 (by decide +kernel) rfl, by decide⟩
theorem yf_X6_readAll : Cond.static yX6_readAll ∈ jq_T ∧ Cond.initialized (yX6_readAll).cls ∈ jq_T ∧ Cond.code yX6_readAll cX6_readAll 5 none ∈ jq_T ∧ ((yX6_readAll).cls ≠ "java/lang/invoke/MethodHandle" ∧ (yX6_readAll).cls ≠ "java/lang/invoke/VarHandle" ∧ (parseMethodDescriptor (yX6_readAll).desc).map (fun d => d.parameters.length) = some 3) := ⟨jq_in 820 (by decide +kernel) rfl, jq_in 151 (by decide +kernel) rfl, jq_in 821 (by decide +kernel) rfl, ⟨by decide, by decide, by decide +kernel⟩⟩
theorem ml_RX10_164 : jq_sl RX10 164 yX6_readAll cX6_readAll 5 none 3 := ⟨jq_in 819 (by decide +kernel) rfl, yf_X6_readAll⟩
theorem fl_RX10_169 : jq_fl RX10 169 1 21 19 true := ⟨RX1, TX1, tyX1, cls_X1, by decide, jq_in 395 (by decide +kernel) rfl, by decide⟩
theorem yf_X7_takeFrom : Cond.instanceMethod yX7_takeFrom ∈ jq_T ∧ Cond.selects (yX7_takeFrom).cls yX7_takeFrom yX7_takeFrom ∈ jq_T ∧ Cond.initialized (yX7_takeFrom).cls ∈ jq_T ∧ Cond.code yX7_takeFrom cX7_takeFrom 2 none ∈ jq_T ∧ ((yX7_takeFrom).cls ≠ "java/lang/invoke/MethodHandle" ∧ (yX7_takeFrom).cls ≠ "java/lang/invoke/VarHandle" ∧ (parseMethodDescriptor (yX7_takeFrom).desc).map (fun d => d.parameters.length) = some 1) := ⟨jq_in 883 (by decide +kernel) rfl, jq_in 884 (by decide +kernel) rfl, jq_in 142 (by decide +kernel) rfl, jq_in 885 (by decide +kernel) rfl, ⟨by decide, by decide, by decide +kernel⟩⟩
theorem ml_RX10_172 : jq_vl RX10 172 yX7_takeFrom cX7_takeFrom 2 none 1 := ⟨jq_in 882 (by decide +kernel) rfl, yf_X7_takeFrom⟩
theorem fl_RX10_176 : jq_fl RX10 176 4 9 1 false := ⟨RX7, TX7, tyX7, cls_X7, by decide, jq_in 289 (by decide +kernel) rfl, by decide⟩
theorem mw_RX1_98 : Cond.methodLink RX1 98 Lib.Math.abs.name ∈ jq_T := jq_in 916 (by decide +kernel) rfl
theorem mws_abs : Cond.static Lib.Math.abs.name ∈ jq_T := jq_in 917 (by decide +kernel) rfl
theorem mwc_abs : Cond.code Lib.Math.abs.name Lib.Math.abs.code 1 (some .int) ∈ jq_T := jq_in 918 (by decide +kernel) rfl
theorem fl_RX1_22 : jq_fl RX1 22 1 21 10 true := ⟨RX1, TX1, tyX1, cls_X1, by decide, jq_in 363 (by decide +kernel) rfl, by decide⟩
theorem fl_RX1_25 : jq_fl RX1 25 1 21 11 true := ⟨RX1, TX1, tyX1, cls_X1, by decide, jq_in 366 (by decide +kernel) rfl, by decide⟩
theorem fl_RX1_28 : jq_fl RX1 28 1 21 12 true := ⟨RX1, TX1, tyX1, cls_X1, by decide, jq_in 369 (by decide +kernel) rfl, by decide⟩
theorem yf_X1_opposite : Cond.instanceMethod yX1_opposite ∈ jq_T ∧ Cond.selects (yX1_opposite).cls yX1_opposite yX1_opposite ∈ jq_T ∧ Cond.initialized (yX1_opposite).cls ∈ jq_T ∧ Cond.code yX1_opposite cX1_opposite 3 (some .boolean) ∈ jq_T ∧ ((yX1_opposite).cls ≠ "java/lang/invoke/MethodHandle" ∧ (yX1_opposite).cls ≠ "java/lang/invoke/VarHandle" ∧ (parseMethodDescriptor (yX1_opposite).desc).map (fun d => d.parameters.length) = some 2) := ⟨jq_in 920 (by decide +kernel) rfl, jq_in 921 (by decide +kernel) rfl, jq_in 141 (by decide +kernel) rfl, jq_in 922 (by decide +kernel) rfl, ⟨by decide, by decide, by decide +kernel⟩⟩
theorem ml_RX1_111 : jq_vl RX1 111 yX1_opposite cX1_opposite 3 (some .boolean) 2 := ⟨jq_in 919 (by decide +kernel) rfl, yf_X1_opposite⟩
theorem yf_X1_nextTo : Cond.instanceMethod yX1_nextTo ∈ jq_T ∧ Cond.selects (yX1_nextTo).cls yX1_nextTo yX1_nextTo ∈ jq_T ∧ Cond.initialized (yX1_nextTo).cls ∈ jq_T ∧ Cond.code yX1_nextTo cX1_nextTo 4 (some .boolean) ∈ jq_T ∧ ((yX1_nextTo).cls ≠ "java/lang/invoke/MethodHandle" ∧ (yX1_nextTo).cls ≠ "java/lang/invoke/VarHandle" ∧ (parseMethodDescriptor (yX1_nextTo).desc).map (fun d => d.parameters.length) = some 2) := ⟨jq_in 913 (by decide +kernel) rfl, jq_in 914 (by decide +kernel) rfl, jq_in 141 (by decide +kernel) rfl, jq_in 915 (by decide +kernel) rfl, ⟨by decide, by decide, by decide +kernel⟩⟩
theorem ml_RX1_108 : jq_vl RX1 108 yX1_nextTo cX1_nextTo 4 (some .boolean) 2 := ⟨jq_in 912 (by decide +kernel) rfl, yf_X1_nextTo⟩
theorem ml_RX1_94 : jq_nl RX1 94 yX10_holds "StandTable" cX10_holds 2 (some .boolean) 2 := ⟨jq_inN 911 (by decide +kernel) rfl, yf_X10_holds⟩
theorem fl_RX1_56 : jq_fl RX1 56 1 21 20 true := ⟨RX1, TX1, tyX1, cls_X1, by decide, jq_in 396 (by decide +kernel) rfl, by decide⟩
theorem yf_X1_isMet : Cond.instanceMethod yX1_isMet ∈ jq_T ∧ Cond.selects (yX1_isMet).cls yX1_isMet yX1_isMet ∈ jq_T ∧ Cond.initialized (yX1_isMet).cls ∈ jq_T ∧ Cond.code yX1_isMet cX1_isMet 5 (some .boolean) ∈ jq_T ∧ ((yX1_isMet).cls ≠ "java/lang/invoke/MethodHandle" ∧ (yX1_isMet).cls ≠ "java/lang/invoke/VarHandle" ∧ (parseMethodDescriptor (yX1_isMet).desc).map (fun d => d.parameters.length) = some 2) := ⟨jq_in 908 (by decide +kernel) rfl, jq_in 909 (by decide +kernel) rfl, jq_in 141 (by decide +kernel) rfl, jq_in 910 (by decide +kernel) rfl, ⟨by decide, by decide, by decide +kernel⟩⟩
theorem ml_RX1_114 : jq_vl RX1 114 yX1_isMet cX1_isMet 5 (some .boolean) 2 := ⟨jq_in 907 (by decide +kernel) rfl, yf_X1_isMet⟩
theorem fl_RX1_31 : jq_fl RX1 31 1 21 13 true := ⟨RX1, TX1, tyX1, cls_X1, by decide, jq_in 372 (by decide +kernel) rfl, by decide⟩
theorem yf_X1_weigh : Cond.instanceMethod yX1_weigh ∈ jq_T ∧ Cond.selects (yX1_weigh).cls yX1_weigh yX1_weigh ∈ jq_T ∧ Cond.initialized (yX1_weigh).cls ∈ jq_T ∧ Cond.code yX1_weigh cX1_weigh 3 none ∈ jq_T ∧ ((yX1_weigh).cls ≠ "java/lang/invoke/MethodHandle" ∧ (yX1_weigh).cls ≠ "java/lang/invoke/VarHandle" ∧ (parseMethodDescriptor (yX1_weigh).desc).map (fun d => d.parameters.length) = some 1) := ⟨jq_in 905 (by decide +kernel) rfl, jq_in 12 (by decide +kernel) rfl, jq_in 141 (by decide +kernel) rfl, jq_in 906 (by decide +kernel) rfl, ⟨by decide, by decide, by decide +kernel⟩⟩
theorem ml_RX1_121 : jq_vl RX1 121 yX1_weigh cX1_weigh 3 none 1 := ⟨jq_in 903 (by decide +kernel) rfl, yf_X1_weigh⟩
theorem fl_RX1_15 : jq_fl RX1 15 1 21 8 true := ⟨RX1, TX1, tyX1, cls_X1, by decide, jq_in 356 (by decide +kernel) rfl, by decide⟩
theorem fl_RX1_43 : jq_fl RX1 43 1 21 17 true := ⟨RX1, TX1, tyX1, cls_X1, by decide, jq_in 385 (by decide +kernel) rfl, by decide⟩
theorem yf_X1_isReady : Cond.instanceMethod yX1_isReady ∈ jq_T ∧ Cond.selects (yX1_isReady).cls yX1_isReady yX1_isReady ∈ jq_T ∧ Cond.initialized (yX1_isReady).cls ∈ jq_T ∧ Cond.code yX1_isReady cX1_isReady 2 (some .boolean) ∈ jq_T ∧ ((yX1_isReady).cls ≠ "java/lang/invoke/MethodHandle" ∧ (yX1_isReady).cls ≠ "java/lang/invoke/VarHandle" ∧ (parseMethodDescriptor (yX1_isReady).desc).map (fun d => d.parameters.length) = some 1) := ⟨jq_in 928 (by decide +kernel) rfl, jq_in 929 (by decide +kernel) rfl, jq_in 141 (by decide +kernel) rfl, jq_in 930 (by decide +kernel) rfl, ⟨by decide, by decide, by decide +kernel⟩⟩
theorem ml_RX1_129 : jq_vl RX1 129 yX1_isReady cX1_isReady 2 (some .boolean) 1 := ⟨jq_in 927 (by decide +kernel) rfl, yf_X1_isReady⟩
theorem fl_RX10_179 : jq_fl RX10 179 1 21 0 false := ⟨RX1, TX1, tyX1, cls_X1, by decide, jq_in 332 (by decide +kernel) rfl, by decide⟩
theorem fl_RX10_182 : jq_fl RX10 182 1 21 2 false := ⟨RX1, TX1, tyX1, cls_X1, by decide, jq_in 340 (by decide +kernel) rfl, by decide⟩
theorem fl_RX10_185 : jq_fl RX10 185 1 21 4 false := ⟨RX1, TX1, tyX1, cls_X1, by decide, jq_in 347 (by decide +kernel) rfl, by decide⟩
theorem fl_RX10_188 : jq_fl RX10 188 1 21 6 false := ⟨RX1, TX1, tyX1, cls_X1, by decide, jq_in 353 (by decide +kernel) rfl, by decide⟩
theorem fl_RX10_191 : jq_fl RX10 191 1 21 1 false := ⟨RX1, TX1, tyX1, cls_X1, by decide, jq_in 335 (by decide +kernel) rfl, by decide⟩
theorem fl_RX10_194 : jq_fl RX10 194 1 21 9 true := ⟨RX1, TX1, tyX1, cls_X1, by decide, jq_in 362 (by decide +kernel) rfl, by decide⟩
theorem yf_X1_sittersOf : Cond.instanceMethod yX1_sittersOf ∈ jq_T ∧ Cond.selects (yX1_sittersOf).cls yX1_sittersOf yX1_sittersOf ∈ jq_T ∧ Cond.initialized (yX1_sittersOf).cls ∈ jq_T ∧ Cond.code yX1_sittersOf cX1_sittersOf 4 (some .int) ∈ jq_T ∧ ((yX1_sittersOf).cls ≠ "java/lang/invoke/MethodHandle" ∧ (yX1_sittersOf).cls ≠ "java/lang/invoke/VarHandle" ∧ (parseMethodDescriptor (yX1_sittersOf).desc).map (fun d => d.parameters.length) = some 1) := ⟨jq_in 896 (by decide +kernel) rfl, jq_in 897 (by decide +kernel) rfl, jq_in 141 (by decide +kernel) rfl, jq_in 898 (by decide +kernel) rfl, ⟨by decide, by decide, by decide +kernel⟩⟩
theorem ml_RX10_197 : jq_vl RX10 197 yX1_sittersOf cX1_sittersOf 4 (some .int) 1 := ⟨jq_in 895 (by decide +kernel) rfl, yf_X1_sittersOf⟩
theorem yf_X1_signersOf : Cond.instanceMethod yX1_signersOf ∈ jq_T ∧ Cond.selects (yX1_signersOf).cls yX1_signersOf yX1_signersOf ∈ jq_T ∧ Cond.initialized (yX1_signersOf).cls ∈ jq_T ∧ Cond.code yX1_signersOf cX1_signersOf 4 (some .int) ∈ jq_T ∧ ((yX1_signersOf).cls ≠ "java/lang/invoke/MethodHandle" ∧ (yX1_signersOf).cls ≠ "java/lang/invoke/VarHandle" ∧ (parseMethodDescriptor (yX1_signersOf).desc).map (fun d => d.parameters.length) = some 1) := ⟨jq_in 900 (by decide +kernel) rfl, jq_in 901 (by decide +kernel) rfl, jq_in 141 (by decide +kernel) rfl, jq_in 902 (by decide +kernel) rfl, ⟨by decide, by decide, by decide +kernel⟩⟩
theorem ml_RX10_201 : jq_vl RX10 201 yX1_signersOf cX1_signersOf 4 (some .int) 1 := ⟨jq_in 899 (by decide +kernel) rfl, yf_X1_signersOf⟩
theorem fl_RX10_204 : jq_fl RX10 204 1 21 5 false := ⟨RX1, TX1, tyX1, cls_X1, by decide, jq_in 350 (by decide +kernel) rfl, by decide⟩
theorem yf_X1_readyArticles : Cond.instanceMethod yX1_readyArticles ∈ jq_T ∧ Cond.selects (yX1_readyArticles).cls yX1_readyArticles yX1_readyArticles ∈ jq_T ∧ Cond.initialized (yX1_readyArticles).cls ∈ jq_T ∧ Cond.code yX1_readyArticles cX1_readyArticles 3 (some .int) ∈ jq_T ∧ ((yX1_readyArticles).cls ≠ "java/lang/invoke/MethodHandle" ∧ (yX1_readyArticles).cls ≠ "java/lang/invoke/VarHandle" ∧ (parseMethodDescriptor (yX1_readyArticles).desc).map (fun d => d.parameters.length) = some 0) := ⟨jq_in 924 (by decide +kernel) rfl, jq_in 925 (by decide +kernel) rfl, jq_in 141 (by decide +kernel) rfl, jq_in 926 (by decide +kernel) rfl, ⟨by decide, by decide, by decide +kernel⟩⟩
theorem ml_RX10_207 : jq_vl RX10 207 yX1_readyArticles cX1_readyArticles 3 (some .int) 0 := ⟨jq_in 923 (by decide +kernel) rfl, yf_X1_readyArticles⟩
theorem yf_X1_isPlace : Cond.instanceMethod yX1_isPlace ∈ jq_T ∧ Cond.selects (yX1_isPlace).cls yX1_isPlace yX1_isPlace ∈ jq_T ∧ Cond.initialized (yX1_isPlace).cls ∈ jq_T ∧ Cond.code yX1_isPlace cX1_isPlace 2 (some .boolean) ∈ jq_T ∧ ((yX1_isPlace).cls ≠ "java/lang/invoke/MethodHandle" ∧ (yX1_isPlace).cls ≠ "java/lang/invoke/VarHandle" ∧ (parseMethodDescriptor (yX1_isPlace).desc).map (fun d => d.parameters.length) = some 1) := ⟨jq_in 936 (by decide +kernel) rfl, jq_in 937 (by decide +kernel) rfl, jq_in 141 (by decide +kernel) rfl, jq_in 938 (by decide +kernel) rfl, ⟨by decide, by decide, by decide +kernel⟩⟩
theorem ml_RX10_211 : jq_vl RX10 211 yX1_isPlace cX1_isPlace 2 (some .boolean) 1 := ⟨jq_in 935 (by decide +kernel) rfl, yf_X1_isPlace⟩
theorem ml_RX10_214 : jq_vl RX10 214 yX1_sitterAt cX1_sitterAt 4 (some .int) 2 := ⟨jq_in 939 (by decide +kernel) rfl, yf_X1_sitterAt⟩
theorem yf_X10_answerOrNone : Cond.instanceMethod yX10_answerOrNone ∈ jq_T ∧ Cond.selects (yX10_answerOrNone).cls yX10_answerOrNone yX10_answerOrNone ∈ jq_T ∧ Cond.initialized (yX10_answerOrNone).cls ∈ jq_T ∧ Cond.code yX10_answerOrNone cX10_answerOrNone 2 (some .int) ∈ jq_T ∧ ((yX10_answerOrNone).cls ≠ "java/lang/invoke/MethodHandle" ∧ (yX10_answerOrNone).cls ≠ "java/lang/invoke/VarHandle" ∧ (parseMethodDescriptor (yX10_answerOrNone).desc).map (fun d => d.parameters.length) = some 1) := ⟨jq_in 942 (by decide +kernel) rfl, jq_in 13 (by decide +kernel) rfl, jq_in 135 (by decide +kernel) rfl, jq_in 943 (by decide +kernel) rfl, ⟨by decide, by decide, by decide +kernel⟩⟩
theorem ml_RX10_218 : jq_vl RX10 218 yX10_answerOrNone cX10_answerOrNone 2 (some .int) 1 := ⟨jq_in 940 (by decide +kernel) rfl, yf_X10_answerOrNone⟩
theorem dX6_readOperands_0 : decode cX6_readOperands 0 = .ok (.aload_n 2, 1) := by decide +kernel
theorem dX6_readOperands_1 : decode cX6_readOperands 1 = .ok (.getfield 42, 3) := by decide +kernel
theorem dX6_readOperands_4 : decode cX6_readOperands 4 = .ok (.iload_n 3, 1) := by decide +kernel
theorem dX6_readOperands_5 : decode cX6_readOperands 5 = .ok (.iaload, 1) := by decide +kernel
theorem dX6_readOperands_6 : decode cX6_readOperands 6 = .ok (.tableswitch 202 13 25 #[66, 97, 111, 136, 152, 168, 168, 202, 202, 202, 202, 202, 186], 66) := by decide +kernel
theorem dX6_readOperands_72 : decode cX6_readOperands 72 = .ok (.aload_n 2, 1) := by decide +kernel
theorem dX6_readOperands_73 : decode cX6_readOperands 73 = .ok (.getfield 97, 3) := by decide +kernel
theorem dX6_readOperands_76 : decode cX6_readOperands 76 = .ok (.iload_n 3, 1) := by decide +kernel
theorem dX6_readOperands_77 : decode cX6_readOperands 77 = .ok (.aload_n 0, 1) := by decide +kernel
theorem dX6_readOperands_78 : decode cX6_readOperands 78 = .ok (.aload_n 1, 1) := by decide +kernel
theorem dX6_readOperands_79 : decode cX6_readOperands 79 = .ok (.invokevirtual 100, 3) := by decide +kernel
theorem dX6_readOperands_82 : decode cX6_readOperands 82 = .ok (.iastore, 1) := by decide +kernel
theorem dX6_readOperands_83 : decode cX6_readOperands 83 = .ok (.aload_n 2, 1) := by decide +kernel
theorem dX6_readOperands_84 : decode cX6_readOperands 84 = .ok (.getfield 104, 3) := by decide +kernel
theorem dX6_readOperands_87 : decode cX6_readOperands 87 = .ok (.iload_n 3, 1) := by decide +kernel
theorem dX6_readOperands_88 : decode cX6_readOperands 88 = .ok (.aload_n 0, 1) := by decide +kernel
theorem dX6_readOperands_89 : decode cX6_readOperands 89 = .ok (.iconst 0, 1) := by decide +kernel
theorem dX6_readOperands_90 : decode cX6_readOperands 90 = .ok (.aload_n 1, 1) := by decide +kernel
theorem dX6_readOperands_91 : decode cX6_readOperands 91 = .ok (.getfield 107, 3) := by decide +kernel
theorem dX6_readOperands_94 : decode cX6_readOperands 94 = .ok (.iconst 1, 1) := by decide +kernel
theorem dX6_readOperands_95 : decode cX6_readOperands 95 = .ok (.isub, 1) := by decide +kernel
theorem dX6_readOperands_96 : decode cX6_readOperands 96 = .ok (.invokevirtual 112, 3) := by decide +kernel
theorem dX6_readOperands_99 : decode cX6_readOperands 99 = .ok (.iastore, 1) := by decide +kernel
theorem dX6_readOperands_100 : decode cX6_readOperands 100 = .ok (.goto 108, 3) := by decide +kernel
theorem dX6_readOperands_103 : decode cX6_readOperands 103 = .ok (.aload_n 2, 1) := by decide +kernel
theorem dX6_readOperands_104 : decode cX6_readOperands 104 = .ok (.getfield 97, 3) := by decide +kernel
theorem dX6_readOperands_107 : decode cX6_readOperands 107 = .ok (.iload_n 3, 1) := by decide +kernel
theorem dX6_readOperands_108 : decode cX6_readOperands 108 = .ok (.aload_n 0, 1) := by decide +kernel
theorem dX6_readOperands_109 : decode cX6_readOperands 109 = .ok (.aload_n 1, 1) := by decide +kernel
theorem dX6_readOperands_110 : decode cX6_readOperands 110 = .ok (.invokevirtual 100, 3) := by decide +kernel
theorem dX6_readOperands_113 : decode cX6_readOperands 113 = .ok (.iastore, 1) := by decide +kernel
theorem dX6_readOperands_114 : decode cX6_readOperands 114 = .ok (.goto 94, 3) := by decide +kernel
theorem dX6_readOperands_117 : decode cX6_readOperands 117 = .ok (.aload_n 2, 1) := by decide +kernel
theorem dX6_readOperands_118 : decode cX6_readOperands 118 = .ok (.getfield 97, 3) := by decide +kernel
theorem dX6_readOperands_121 : decode cX6_readOperands 121 = .ok (.iload_n 3, 1) := by decide +kernel
theorem dX6_readOperands_122 : decode cX6_readOperands 122 = .ok (.aload_n 0, 1) := by decide +kernel
theorem dX6_readOperands_123 : decode cX6_readOperands 123 = .ok (.aload_n 1, 1) := by decide +kernel
theorem dX6_readOperands_124 : decode cX6_readOperands 124 = .ok (.invokevirtual 100, 3) := by decide +kernel
theorem dX6_readOperands_127 : decode cX6_readOperands 127 = .ok (.iastore, 1) := by decide +kernel
theorem dX6_readOperands_128 : decode cX6_readOperands 128 = .ok (.aload_n 2, 1) := by decide +kernel
theorem dX6_readOperands_129 : decode cX6_readOperands 129 = .ok (.getfield 104, 3) := by decide +kernel
theorem dX6_readOperands_132 : decode cX6_readOperands 132 = .ok (.iload_n 3, 1) := by decide +kernel
theorem dX6_readOperands_133 : decode cX6_readOperands 133 = .ok (.aload_n 0, 1) := by decide +kernel
theorem dX6_readOperands_134 : decode cX6_readOperands 134 = .ok (.aload_n 1, 1) := by decide +kernel
theorem dX6_readOperands_135 : decode cX6_readOperands 135 = .ok (.invokevirtual 100, 3) := by decide +kernel
theorem dX6_readOperands_138 : decode cX6_readOperands 138 = .ok (.iastore, 1) := by decide +kernel
theorem dX6_readOperands_139 : decode cX6_readOperands 139 = .ok (.goto 69, 3) := by decide +kernel
theorem dX6_readOperands_142 : decode cX6_readOperands 142 = .ok (.aload_n 2, 1) := by decide +kernel
theorem dX6_readOperands_143 : decode cX6_readOperands 143 = .ok (.getfield 97, 3) := by decide +kernel
theorem dX6_readOperands_146 : decode cX6_readOperands 146 = .ok (.iload_n 3, 1) := by decide +kernel
theorem dX6_readOperands_147 : decode cX6_readOperands 147 = .ok (.aload_n 0, 1) := by decide +kernel
theorem dX6_readOperands_148 : decode cX6_readOperands 148 = .ok (.iconst 0, 1) := by decide +kernel
theorem dX6_readOperands_149 : decode cX6_readOperands 149 = .ok (.bipush 9, 2) := by decide +kernel
theorem dX6_readOperands_151 : decode cX6_readOperands 151 = .ok (.invokevirtual 112, 3) := by decide +kernel
theorem dX6_readOperands_154 : decode cX6_readOperands 154 = .ok (.iastore, 1) := by decide +kernel
theorem dX6_readOperands_155 : decode cX6_readOperands 155 = .ok (.goto 53, 3) := by decide +kernel
theorem dX6_readOperands_158 : decode cX6_readOperands 158 = .ok (.aload_n 2, 1) := by decide +kernel
theorem dX6_readOperands_159 : decode cX6_readOperands 159 = .ok (.getfield 97, 3) := by decide +kernel
theorem dX6_readOperands_162 : decode cX6_readOperands 162 = .ok (.iload_n 3, 1) := by decide +kernel
theorem dX6_readOperands_163 : decode cX6_readOperands 163 = .ok (.aload_n 0, 1) := by decide +kernel
theorem dX6_readOperands_164 : decode cX6_readOperands 164 = .ok (.iconst 1, 1) := by decide +kernel
theorem dX6_readOperands_165 : decode cX6_readOperands 165 = .ok (.bipush 20, 2) := by decide +kernel
theorem dX6_readOperands_167 : decode cX6_readOperands 167 = .ok (.invokevirtual 112, 3) := by decide +kernel
theorem dX6_readOperands_170 : decode cX6_readOperands 170 = .ok (.iastore, 1) := by decide +kernel
theorem dX6_readOperands_171 : decode cX6_readOperands 171 = .ok (.goto 37, 3) := by decide +kernel
theorem dX6_readOperands_174 : decode cX6_readOperands 174 = .ok (.aload_n 2, 1) := by decide +kernel
theorem dX6_readOperands_175 : decode cX6_readOperands 175 = .ok (.getfield 97, 3) := by decide +kernel
theorem dX6_readOperands_178 : decode cX6_readOperands 178 = .ok (.iload_n 3, 1) := by decide +kernel
theorem dX6_readOperands_179 : decode cX6_readOperands 179 = .ok (.aload_n 0, 1) := by decide +kernel
theorem dX6_readOperands_180 : decode cX6_readOperands 180 = .ok (.aload_n 1, 1) := by decide +kernel
theorem dX6_readOperands_181 : decode cX6_readOperands 181 = .ok (.invokevirtual 116, 3) := by decide +kernel
theorem dX6_readOperands_184 : decode cX6_readOperands 184 = .ok (.iastore, 1) := by decide +kernel
theorem dX6_readOperands_185 : decode cX6_readOperands 185 = .ok (.aload_n 0, 1) := by decide +kernel
theorem dX6_readOperands_186 : decode cX6_readOperands 186 = .ok (.invokevirtual 67, 3) := by decide +kernel
theorem dX6_readOperands_189 : decode cX6_readOperands 189 = .ok (.goto 19, 3) := by decide +kernel
theorem dX6_readOperands_192 : decode cX6_readOperands 192 = .ok (.aload_n 2, 1) := by decide +kernel
theorem dX6_readOperands_193 : decode cX6_readOperands 193 = .ok (.getfield 97, 3) := by decide +kernel
theorem dX6_readOperands_196 : decode cX6_readOperands 196 = .ok (.iload_n 3, 1) := by decide +kernel
theorem dX6_readOperands_197 : decode cX6_readOperands 197 = .ok (.aload_n 0, 1) := by decide +kernel
theorem dX6_readOperands_198 : decode cX6_readOperands 198 = .ok (.iconst 1, 1) := by decide +kernel
theorem dX6_readOperands_199 : decode cX6_readOperands 199 = .ok (.bipush 99, 2) := by decide +kernel
theorem dX6_readOperands_201 : decode cX6_readOperands 201 = .ok (.invokevirtual 112, 3) := by decide +kernel
theorem dX6_readOperands_204 : decode cX6_readOperands 204 = .ok (.iastore, 1) := by decide +kernel
theorem dX6_readOperands_205 : decode cX6_readOperands 205 = .ok (.goto 3, 3) := by decide +kernel
theorem dX6_readOperands_208 : decode cX6_readOperands 208 = .ok (.return_, 1) := by decide +kernel
set_option maxHeartbeats 4000000 in
set_option maxRecDepth 100000 in
theorem ctX6_readOperands {p1 : Int} {p2 : Int} {p3 : Int} {σ : jq_M} {σ' : jq_M} (hp1 : jq_com p1) (hp2 : jq_stp p2) (h : X6_readOperands p1 p2 p3 σ = some σ') : jq_MC jq_zX yX6_readOperands cX6_readOperands 4 none 5 128 [jR 2, jR p1, jR p2, jI p3] σ none σ' := by
  refine jq_met (own := RX6) (L0 := [(0, jR 2), (1, jR p1), (2, jR p2), (3, jI p3)]) (by decide) rfl rfl rfl ?_
  intro X Γ hnl hlY hRT
  refine jq_use2 (P := fun r => jq_RT jq_zX X none none r) ?_ h hRT
  intro K0 hK0
  unfold X6_readOperands
  refine jq_aload_n Γ dX6_readOperands_0 rfl 2 rfl (jq_at_0 (at_stp hp2)) ?_
  refine jq_getR (v := (p2 + 1)) Γ hlY (at_stp hp2) fl_RX6_42 rfl rfl (ly_X7_words hp2) dX6_readOperands_1 ?_
  refine jq_iload_n Γ dX6_readOperands_4 rfl 3 rfl ?_
  refine jq_iald Γ (at_stp_1 hp2) rfl dX6_readOperands_5 (fun v1 => ?_)
  refine jq_split (fun hc2 => ?_) (fun hn13_6 => ?_)
  · refine jq_tabIn (tgt := 72) Γ dX6_readOperands_6 hc2 rfl rfl rfl ?_
    refine jq_aload_n Γ dX6_readOperands_72 rfl 2 rfl (jq_at_0 (at_stp hp2)) ?_
    refine jq_getR (v := (p2 + 2)) Γ hlY (at_stp hp2) fl_RX6_97 rfl rfl (ly_X7_first hp2) dX6_readOperands_73 ?_
    refine jq_iload_n Γ dX6_readOperands_76 rfl 3 rfl ?_
    refine jq_aload_n Γ dX6_readOperands_77 rfl 0 rfl (jq_at_0 at_X_2) ?_
    refine jq_aload_n Γ dX6_readOperands_78 rfl 1 rfl (jq_at_0 (at_com hp1)) ?_
    refine jq_cwI (jq_virt (avs := [jR p1]) (st := [jI p3, jR (p2 + 2)]) Γ hlY rfl ml_RX6_100 rfl at_X_2 rfl rfl rfl rfl rfl dX6_readOperands_79) (fun r σ' h => ctX5_takeParty hp1 h) (fun v3 s4 => ?_)
    refine jq_iast Γ (at_stp_2 hp2) rfl dX6_readOperands_82 (fun s5 => ?_)
    refine jq_aload_n Γ dX6_readOperands_83 rfl 2 rfl (jq_at_0 (at_stp hp2)) ?_
    refine jq_getR (v := (p2 + 3)) Γ hlY (at_stp hp2) fl_RX6_104 rfl rfl (ly_X7_second hp2) dX6_readOperands_84 ?_
    refine jq_iload_n Γ dX6_readOperands_87 rfl 3 rfl ?_
    refine jq_aload_n Γ dX6_readOperands_88 rfl 0 rfl (jq_at_0 at_X_2) ?_
    refine jq_iconst Γ dX6_readOperands_89 rfl ?_
    refine jq_aload_n Γ dX6_readOperands_90 rfl 1 rfl (jq_at_0 (at_com hp1)) ?_
    refine jq_getI (J := 0) Γ (at_com hp1) fl_RX6_107 rfl rfl dX6_readOperands_91 ?_
    refine jq_iconst Γ dX6_readOperands_94 rfl ?_
    refine jq_isub Γ dX6_readOperands_95 ?_
    refine jq_cwI (jq_virt (avs := [jI 0, jI (jq_w ((s5 p1 0) - 1))]) (st := [jI p3, jR (p2 + 3)]) Γ hlY rfl ml_RX6_112 rfl at_X_2 rfl rfl rfl rfl rfl dX6_readOperands_96) (fun r σ' h => ctX5_takeNumber h) (fun v6 s7 => ?_)
    refine jq_iast Γ (at_stp_3 hp2) rfl dX6_readOperands_99 (fun s8 => ?_)
    refine jq_goto Γ (tgt := 208) dX6_readOperands_100 rfl ?_
    exact jq_vreturn Γ dX6_readOperands_208 (hK0 _)
  · refine jq_split (fun hc9 => ?_) (fun hn14_6 => ?_)
    · refine jq_tabIn (tgt := 103) Γ dX6_readOperands_6 hc9 rfl rfl rfl ?_
      refine jq_aload_n Γ dX6_readOperands_103 rfl 2 rfl (jq_at_0 (at_stp hp2)) ?_
      refine jq_getR (v := (p2 + 2)) Γ hlY (at_stp hp2) fl_RX6_97 rfl rfl (ly_X7_first hp2) dX6_readOperands_104 ?_
      refine jq_iload_n Γ dX6_readOperands_107 rfl 3 rfl ?_
      refine jq_aload_n Γ dX6_readOperands_108 rfl 0 rfl (jq_at_0 at_X_2) ?_
      refine jq_aload_n Γ dX6_readOperands_109 rfl 1 rfl (jq_at_0 (at_com hp1)) ?_
      refine jq_cwI (jq_virt (avs := [jR p1]) (st := [jI p3, jR (p2 + 2)]) Γ hlY rfl ml_RX6_100 rfl at_X_2 rfl rfl rfl rfl rfl dX6_readOperands_110) (fun r σ' h => ctX5_takeParty hp1 h) (fun v10 s11 => ?_)
      refine jq_iast Γ (at_stp_2 hp2) rfl dX6_readOperands_113 (fun s12 => ?_)
      refine jq_goto Γ (tgt := 208) dX6_readOperands_114 rfl ?_
      exact jq_vreturn Γ dX6_readOperands_208 (hK0 _)
    · refine jq_split (fun hc13 => ?_) (fun hn15_6 => ?_)
      · refine jq_tabIn (tgt := 117) Γ dX6_readOperands_6 hc13 rfl rfl rfl ?_
        refine jq_aload_n Γ dX6_readOperands_117 rfl 2 rfl (jq_at_0 (at_stp hp2)) ?_
        refine jq_getR (v := (p2 + 2)) Γ hlY (at_stp hp2) fl_RX6_97 rfl rfl (ly_X7_first hp2) dX6_readOperands_118 ?_
        refine jq_iload_n Γ dX6_readOperands_121 rfl 3 rfl ?_
        refine jq_aload_n Γ dX6_readOperands_122 rfl 0 rfl (jq_at_0 at_X_2) ?_
        refine jq_aload_n Γ dX6_readOperands_123 rfl 1 rfl (jq_at_0 (at_com hp1)) ?_
        refine jq_cwI (jq_virt (avs := [jR p1]) (st := [jI p3, jR (p2 + 2)]) Γ hlY rfl ml_RX6_100 rfl at_X_2 rfl rfl rfl rfl rfl dX6_readOperands_124) (fun r σ' h => ctX5_takeParty hp1 h) (fun v14 s15 => ?_)
        refine jq_iast Γ (at_stp_2 hp2) rfl dX6_readOperands_127 (fun s16 => ?_)
        refine jq_aload_n Γ dX6_readOperands_128 rfl 2 rfl (jq_at_0 (at_stp hp2)) ?_
        refine jq_getR (v := (p2 + 3)) Γ hlY (at_stp hp2) fl_RX6_104 rfl rfl (ly_X7_second hp2) dX6_readOperands_129 ?_
        refine jq_iload_n Γ dX6_readOperands_132 rfl 3 rfl ?_
        refine jq_aload_n Γ dX6_readOperands_133 rfl 0 rfl (jq_at_0 at_X_2) ?_
        refine jq_aload_n Γ dX6_readOperands_134 rfl 1 rfl (jq_at_0 (at_com hp1)) ?_
        refine jq_cwI (jq_virt (avs := [jR p1]) (st := [jI p3, jR (p2 + 3)]) Γ hlY rfl ml_RX6_100 rfl at_X_2 rfl rfl rfl rfl rfl dX6_readOperands_135) (fun r σ' h => ctX5_takeParty hp1 h) (fun v17 s18 => ?_)
        refine jq_iast Γ (at_stp_3 hp2) rfl dX6_readOperands_138 (fun s19 => ?_)
        refine jq_goto Γ (tgt := 208) dX6_readOperands_139 rfl ?_
        exact jq_vreturn Γ dX6_readOperands_208 (hK0 _)
      · refine jq_split (fun hc20 => ?_) (fun hn16_6 => ?_)
        · refine jq_tabIn (tgt := 142) Γ dX6_readOperands_6 hc20 rfl rfl rfl ?_
          refine jq_aload_n Γ dX6_readOperands_142 rfl 2 rfl (jq_at_0 (at_stp hp2)) ?_
          refine jq_getR (v := (p2 + 2)) Γ hlY (at_stp hp2) fl_RX6_97 rfl rfl (ly_X7_first hp2) dX6_readOperands_143 ?_
          refine jq_iload_n Γ dX6_readOperands_146 rfl 3 rfl ?_
          refine jq_aload_n Γ dX6_readOperands_147 rfl 0 rfl (jq_at_0 at_X_2) ?_
          refine jq_iconst Γ dX6_readOperands_148 rfl ?_
          refine jq_bipush Γ dX6_readOperands_149 rfl ?_
          refine jq_cwI (jq_virt (avs := [jI 0, jI 9]) (st := [jI p3, jR (p2 + 2)]) Γ hlY rfl ml_RX6_112 rfl at_X_2 rfl rfl rfl rfl rfl dX6_readOperands_151) (fun r σ' h => ctX5_takeNumber h) (fun v21 s22 => ?_)
          refine jq_iast Γ (at_stp_2 hp2) rfl dX6_readOperands_154 (fun s23 => ?_)
          refine jq_goto Γ (tgt := 208) dX6_readOperands_155 rfl ?_
          exact jq_vreturn Γ dX6_readOperands_208 (hK0 _)
        · refine jq_split (fun hc24 => ?_) (fun hn17_6 => ?_)
          · refine jq_tabIn (tgt := 158) Γ dX6_readOperands_6 hc24 rfl rfl rfl ?_
            refine jq_aload_n Γ dX6_readOperands_158 rfl 2 rfl (jq_at_0 (at_stp hp2)) ?_
            refine jq_getR (v := (p2 + 2)) Γ hlY (at_stp hp2) fl_RX6_97 rfl rfl (ly_X7_first hp2) dX6_readOperands_159 ?_
            refine jq_iload_n Γ dX6_readOperands_162 rfl 3 rfl ?_
            refine jq_aload_n Γ dX6_readOperands_163 rfl 0 rfl (jq_at_0 at_X_2) ?_
            refine jq_iconst Γ dX6_readOperands_164 rfl ?_
            refine jq_bipush Γ dX6_readOperands_165 rfl ?_
            refine jq_cwI (jq_virt (avs := [jI 1, jI 20]) (st := [jI p3, jR (p2 + 2)]) Γ hlY rfl ml_RX6_112 rfl at_X_2 rfl rfl rfl rfl rfl dX6_readOperands_167) (fun r σ' h => ctX5_takeNumber h) (fun v25 s26 => ?_)
            refine jq_iast Γ (at_stp_2 hp2) rfl dX6_readOperands_170 (fun s27 => ?_)
            refine jq_goto Γ (tgt := 208) dX6_readOperands_171 rfl ?_
            exact jq_vreturn Γ dX6_readOperands_208 (hK0 _)
          · refine jq_split (fun hc28 => ?_) (fun hn18_6 => ?_)
            · refine jq_tabIn (tgt := 174) Γ dX6_readOperands_6 hc28 rfl rfl rfl ?_
              refine jq_aload_n Γ dX6_readOperands_174 rfl 2 rfl (jq_at_0 (at_stp hp2)) ?_
              refine jq_getR (v := (p2 + 2)) Γ hlY (at_stp hp2) fl_RX6_97 rfl rfl (ly_X7_first hp2) dX6_readOperands_175 ?_
              refine jq_iload_n Γ dX6_readOperands_178 rfl 3 rfl ?_
              refine jq_aload_n Γ dX6_readOperands_179 rfl 0 rfl (jq_at_0 at_X_2) ?_
              refine jq_aload_n Γ dX6_readOperands_180 rfl 1 rfl (jq_at_0 (at_com hp1)) ?_
              refine jq_cwI (jq_virt (avs := [jR p1]) (st := [jI p3, jR (p2 + 2)]) Γ hlY rfl ml_RX6_116 rfl at_X_2 rfl rfl rfl rfl rfl dX6_readOperands_181) (fun r σ' h => ctX5_articleHere hp1 h) (fun v29 s30 => ?_)
              refine jq_iast Γ (at_stp_2 hp2) rfl dX6_readOperands_184 (fun s31 => ?_)
              refine jq_aload_n Γ dX6_readOperands_185 rfl 0 rfl (jq_at_0 at_X_2) ?_
              refine jq_cwV (jq_virt (avs := []) (st := []) Γ hlY rfl ml_RX6_67 rfl at_X_2 rfl rfl rfl rfl rfl dX6_readOperands_186) (fun σ' h => ctX5_next h) (fun s32 => ?_)
              refine jq_goto Γ (tgt := 208) dX6_readOperands_189 rfl ?_
              exact jq_vreturn Γ dX6_readOperands_208 (hK0 _)
            · refine jq_split (fun hc33 => ?_) (fun hn19_6 => ?_)
              · refine jq_tabIn (tgt := 174) Γ dX6_readOperands_6 hc33 rfl rfl rfl ?_
                refine jq_aload_n Γ dX6_readOperands_174 rfl 2 rfl (jq_at_0 (at_stp hp2)) ?_
                refine jq_getR (v := (p2 + 2)) Γ hlY (at_stp hp2) fl_RX6_97 rfl rfl (ly_X7_first hp2) dX6_readOperands_175 ?_
                refine jq_iload_n Γ dX6_readOperands_178 rfl 3 rfl ?_
                refine jq_aload_n Γ dX6_readOperands_179 rfl 0 rfl (jq_at_0 at_X_2) ?_
                refine jq_aload_n Γ dX6_readOperands_180 rfl 1 rfl (jq_at_0 (at_com hp1)) ?_
                refine jq_cwI (jq_virt (avs := [jR p1]) (st := [jI p3, jR (p2 + 2)]) Γ hlY rfl ml_RX6_116 rfl at_X_2 rfl rfl rfl rfl rfl dX6_readOperands_181) (fun r σ' h => ctX5_articleHere hp1 h) (fun v34 s35 => ?_)
                refine jq_iast Γ (at_stp_2 hp2) rfl dX6_readOperands_184 (fun s36 => ?_)
                refine jq_aload_n Γ dX6_readOperands_185 rfl 0 rfl (jq_at_0 at_X_2) ?_
                refine jq_cwV (jq_virt (avs := []) (st := []) Γ hlY rfl ml_RX6_67 rfl at_X_2 rfl rfl rfl rfl rfl dX6_readOperands_186) (fun σ' h => ctX5_next h) (fun s37 => ?_)
                refine jq_goto Γ (tgt := 208) dX6_readOperands_189 rfl ?_
                exact jq_vreturn Γ dX6_readOperands_208 (hK0 _)
              · refine jq_split (fun hc38 => ?_) (fun hn20_6 => ?_)
                · refine jq_tabIn (tgt := 208) Γ dX6_readOperands_6 hc38 rfl rfl rfl ?_
                  exact jq_vreturn Γ dX6_readOperands_208 (hK0 _)
                · refine jq_split (fun hc39 => ?_) (fun hn21_6 => ?_)
                  · refine jq_tabIn (tgt := 208) Γ dX6_readOperands_6 hc39 rfl rfl rfl ?_
                    exact jq_vreturn Γ dX6_readOperands_208 (hK0 _)
                  · refine jq_split (fun hc40 => ?_) (fun hn22_6 => ?_)
                    · refine jq_tabIn (tgt := 208) Γ dX6_readOperands_6 hc40 rfl rfl rfl ?_
                      exact jq_vreturn Γ dX6_readOperands_208 (hK0 _)
                    · refine jq_split (fun hc41 => ?_) (fun hn23_6 => ?_)
                      · refine jq_tabIn (tgt := 208) Γ dX6_readOperands_6 hc41 rfl rfl rfl ?_
                        exact jq_vreturn Γ dX6_readOperands_208 (hK0 _)
                      · refine jq_split (fun hc42 => ?_) (fun hn24_6 => ?_)
                        · refine jq_tabIn (tgt := 208) Γ dX6_readOperands_6 hc42 rfl rfl rfl ?_
                          exact jq_vreturn Γ dX6_readOperands_208 (hK0 _)
                        · refine jq_split (fun hc43 => ?_) (fun hn25_6 => ?_)
                          · refine jq_tabIn (tgt := 192) Γ dX6_readOperands_6 hc43 rfl rfl rfl ?_
                            refine jq_aload_n Γ dX6_readOperands_192 rfl 2 rfl (jq_at_0 (at_stp hp2)) ?_
                            refine jq_getR (v := (p2 + 2)) Γ hlY (at_stp hp2) fl_RX6_97 rfl rfl (ly_X7_first hp2) dX6_readOperands_193 ?_
                            refine jq_iload_n Γ dX6_readOperands_196 rfl 3 rfl ?_
                            refine jq_aload_n Γ dX6_readOperands_197 rfl 0 rfl (jq_at_0 at_X_2) ?_
                            refine jq_iconst Γ dX6_readOperands_198 rfl ?_
                            refine jq_bipush Γ dX6_readOperands_199 rfl ?_
                            refine jq_cwI (jq_virt (avs := [jI 1, jI 99]) (st := [jI p3, jR (p2 + 2)]) Γ hlY rfl ml_RX6_112 rfl at_X_2 rfl rfl rfl rfl rfl dX6_readOperands_201) (fun r σ' h => ctX5_takeNumber h) (fun v44 s45 => ?_)
                            refine jq_iast Γ (at_stp_2 hp2) rfl dX6_readOperands_204 (fun s46 => ?_)
                            refine jq_goto Γ (tgt := 208) dX6_readOperands_205 rfl ?_
                            exact jq_vreturn Γ dX6_readOperands_208 (hK0 _)
                          · refine jq_tabOut (tgt := 208) Γ dX6_readOperands_6 (by omega) rfl ?_
                            exact jq_vreturn Γ dX6_readOperands_208 (hK0 _)


theorem dX6_readAll_0 : decode cX6_readAll 0 = .ok (.aload_n 2, 1) := by decide +kernel
theorem dX6_readAll_1 : decode cX6_readAll 1 = .ok (.invokevirtual 9, 3) := by decide +kernel
theorem dX6_readAll_4 : decode cX6_readAll 4 = .ok (.aload_n 2, 1) := by decide +kernel
theorem dX6_readAll_5 : decode cX6_readAll 5 = .ok (.iconst 1, 1) := by decide +kernel
theorem dX6_readAll_6 : decode cX6_readAll 6 = .ok (.putfield 14, 3) := by decide +kernel
theorem dX6_readAll_9 : decode cX6_readAll 9 = .ok (.iconst 0, 1) := by decide +kernel
theorem dX6_readAll_10 : decode cX6_readAll 10 = .ok (.istore_n 3, 1) := by decide +kernel
theorem dX6_readAll_11 : decode cX6_readAll 11 = .ok (.iload_n 3, 1) := by decide +kernel
theorem dX6_readAll_12 : decode cX6_readAll 12 = .ok (.sipush 900, 3) := by decide +kernel
theorem dX6_readAll_15 : decode cX6_readAll 15 = .ok (.if_icmp .ge 85, 3) := by decide +kernel
theorem dX6_readAll_18 : decode cX6_readAll 18 = .ok (.aload_n 0, 1) := by decide +kernel
theorem dX6_readAll_19 : decode cX6_readAll 19 = .ok (.invokevirtual 18, 3) := by decide +kernel
theorem dX6_readAll_22 : decode cX6_readAll 22 = .ok (.ifCond .eq 78, 3) := by decide +kernel
theorem dX6_readAll_25 : decode cX6_readAll 25 = .ok (.aload_n 0, 1) := by decide +kernel
theorem dX6_readAll_26 : decode cX6_readAll 26 = .ok (.getfield 24, 3) := by decide +kernel
theorem dX6_readAll_29 : decode cX6_readAll 29 = .ok (.bipush 26, 2) := by decide +kernel
theorem dX6_readAll_31 : decode cX6_readAll 31 = .ok (.if_icmp .ne 11, 3) := by decide +kernel
theorem dX6_readAll_34 : decode cX6_readAll 34 = .ok (.aload_n 0, 1) := by decide +kernel
theorem dX6_readAll_35 : decode cX6_readAll 35 = .ok (.aload_n 2, 1) := by decide +kernel
theorem dX6_readAll_36 : decode cX6_readAll 36 = .ok (.invokestatic 28, 3) := by decide +kernel
theorem dX6_readAll_39 : decode cX6_readAll 39 = .ok (.goto 55, 3) := by decide +kernel
theorem dX6_readAll_42 : decode cX6_readAll 42 = .ok (.aload_n 0, 1) := by decide +kernel
theorem dX6_readAll_43 : decode cX6_readAll 43 = .ok (.aload_n 2, 1) := by decide +kernel
theorem dX6_readAll_44 : decode cX6_readAll 44 = .ok (.invokestatic 34, 3) := by decide +kernel
theorem dX6_readAll_47 : decode cX6_readAll 47 = .ok (.ifCond .eq 47, 3) := by decide +kernel
theorem dX6_readAll_50 : decode cX6_readAll 50 = .ok (.aload_n 0, 1) := by decide +kernel
theorem dX6_readAll_51 : decode cX6_readAll 51 = .ok (.aload_n 2, 1) := by decide +kernel
theorem dX6_readAll_52 : decode cX6_readAll 52 = .ok (.invokestatic 38, 3) := by decide +kernel
theorem dX6_readAll_55 : decode cX6_readAll 55 = .ok (.istore 4, 2) := by decide +kernel
theorem dX6_readAll_57 : decode cX6_readAll 57 = .ok (.aload_n 2, 1) := by decide +kernel
theorem dX6_readAll_58 : decode cX6_readAll 58 = .ok (.getfield 42, 3) := by decide +kernel
theorem dX6_readAll_61 : decode cX6_readAll 61 = .ok (.iload 4, 2) := by decide +kernel
theorem dX6_readAll_63 : decode cX6_readAll 63 = .ok (.iaload, 1) := by decide +kernel
theorem dX6_readAll_64 : decode cX6_readAll 64 = .ok (.bipush 21, 2) := by decide +kernel
theorem dX6_readAll_66 : decode cX6_readAll 66 = .ok (.if_icmp .ne 14, 3) := by decide +kernel
theorem dX6_readAll_69 : decode cX6_readAll 69 = .ok (.aload_n 0, 1) := by decide +kernel
theorem dX6_readAll_70 : decode cX6_readAll 70 = .ok (.aload_n 1, 1) := by decide +kernel
theorem dX6_readAll_71 : decode cX6_readAll 71 = .ok (.aload_n 2, 1) := by decide +kernel
theorem dX6_readAll_72 : decode cX6_readAll 72 = .ok (.iload 4, 2) := by decide +kernel
theorem dX6_readAll_74 : decode cX6_readAll 74 = .ok (.invokestatic 46, 3) := by decide +kernel
theorem dX6_readAll_77 : decode cX6_readAll 77 = .ok (.goto 11, 3) := by decide +kernel
theorem dX6_readAll_80 : decode cX6_readAll 80 = .ok (.aload_n 0, 1) := by decide +kernel
theorem dX6_readAll_81 : decode cX6_readAll 81 = .ok (.aload_n 1, 1) := by decide +kernel
theorem dX6_readAll_82 : decode cX6_readAll 82 = .ok (.aload_n 2, 1) := by decide +kernel
theorem dX6_readAll_83 : decode cX6_readAll 83 = .ok (.iload 4, 2) := by decide +kernel
theorem dX6_readAll_85 : decode cX6_readAll 85 = .ok (.invokestatic 50, 3) := by decide +kernel
theorem dX6_readAll_88 : decode cX6_readAll 88 = .ok (.aload_n 0, 1) := by decide +kernel
theorem dX6_readAll_89 : decode cX6_readAll 89 = .ok (.bipush 59, 2) := by decide +kernel
theorem dX6_readAll_91 : decode cX6_readAll 91 = .ok (.invokevirtual 53, 3) := by decide +kernel
theorem dX6_readAll_94 : decode cX6_readAll 94 = .ok (.iinc 3 1, 3) := by decide +kernel
theorem dX6_readAll_97 : decode cX6_readAll 97 = .ok (.goto (-86), 3) := by decide +kernel
theorem dX6_readAll_100 : decode cX6_readAll 100 = .ok (.aload_n 2, 1) := by decide +kernel
theorem dX6_readAll_101 : decode cX6_readAll 101 = .ok (.getfield 57, 3) := by decide +kernel
theorem dX6_readAll_104 : decode cX6_readAll 104 = .ok (.ifCond .le 8, 3) := by decide +kernel
theorem dX6_readAll_107 : decode cX6_readAll 107 = .ok (.aload_n 0, 1) := by decide +kernel
theorem dX6_readAll_108 : decode cX6_readAll 108 = .ok (.iconst 2, 1) := by decide +kernel
theorem dX6_readAll_109 : decode cX6_readAll 109 = .ok (.invokevirtual 60, 3) := by decide +kernel
theorem dX6_readAll_112 : decode cX6_readAll 112 = .ok (.return_, 1) := by decide +kernel
set_option maxHeartbeats 4000000 in
set_option maxRecDepth 100000 in
theorem ctX6_readAll {p1 : Int} {p2 : Int} {σ : jq_M} {σ' : jq_M} (hp1 : jq_com p1) (hp2 : jq_stp p2) (h : X6_readAll p1 p2 σ = some σ') : jq_MC jq_zX yX6_readAll cX6_readAll 5 none 6 151 [jR 2, jR p1, jR p2] σ none σ' := by
  refine jq_met (own := RX6) (L0 := [(0, jR 2), (1, jR p1), (2, jR p2)]) (by decide) rfl rfl rfl ?_
  intro X Γ hnl hlY hRT
  refine jq_use2 (P := fun r => jq_RT jq_zX X none none r) ?_ h hRT
  intro K0 hK0
  unfold X6_readAll
  have hj100_0 : ∀ (s22 : jq_M), jq_J (X6_readAll_j100 p2 s22) K0 (jq_V jq_zX X (jq_zN jq_zX) s22 100 [(0, jR 2), (2, jR p2)] []) := by
    intro s22
    unfold X6_readAll_j100
    refine jq_aload_n Γ dX6_readAll_100 rfl 1 rfl (jq_at_0 (at_stp hp2)) ?_
    refine jq_getI (J := 8) Γ (at_stp hp2) fl_RX6_57 rfl rfl dX6_readAll_101 ?_
    refine jq_if_le (tgt := 112) Γ dX6_readAll_104 rfl ?_ ?_
    · exact jq_vreturn Γ dX6_readAll_112 (hK0 _)
    · refine jq_aload_n Γ dX6_readAll_107 rfl 0 rfl (jq_at_0 at_X_2) ?_
      refine jq_iconst Γ dX6_readAll_108 rfl ?_
      refine jq_cwV (jq_virt (avs := [jI 2]) (st := []) Γ hlY rfl ml_RX6_60 rfl at_X_2 rfl rfl rfl rfl rfl dX6_readAll_109) (fun σ' h => ctX5_blame h) (fun s23 => ?_)
      exact jq_vreturn Γ dX6_readAll_112 (hK0 _)
  refine jq_aload_n Γ dX6_readAll_0 rfl 2 rfl (jq_at_0 (at_stp hp2)) ?_
  refine jq_cwV (jq_virt (avs := []) (st := []) Γ hlY rfl ml_RX6_9 rfl (at_stp hp2) rfl rfl rfl rfl rfl dX6_readAll_1) (fun σ' h => ctX7_clear hp2 h) (fun s1 => ?_)
  refine jq_aload_n Γ dX6_readAll_4 rfl 2 rfl (jq_at_0 (at_stp hp2)) ?_
  refine jq_iconst Γ dX6_readAll_5 rfl ?_
  refine jq_putZ Γ (at_stp hp2) fl_RX6_14 rfl rfl (Or.inr rfl) dX6_readAll_6 (fun s2 => ?_)
  refine jq_iconst Γ dX6_readAll_9 rfl ?_
  refine jq_istore_n (L' := [(3, jI 0), (0, jR 2), (1, jR p1), (2, jR p2)]) Γ dX6_readAll_10 rfl hnl rfl rfl ?_
  refine jq_sub Γ (L' := [(0, jR 2), (1, jR p1), (2, jR p2), (3, jI 0)]) [1, 2, 3, 0] rfl ?_
  refine jq_loop2 (C := fun (t3 : Int × jq_M) => jq_V jq_zX X (jq_zN jq_zX) t3.2 11 [(0, jR 2), (1, jR p1), (2, jR p2), (3, jI t3.1)] []) (KX := fun (e21 : jq_M) => jq_V jq_zX X (jq_zN jq_zX) e21 100 [(0, jR 2), (2, jR p2)] []) ?_ ?_ (0, s2)
  · intro K11_t3 hCt3 hXt3 t3
    unfold X6_readAll_b11
    have hj88_1011 : ∀ (j14 : Int) (s15 : jq_M), jq_J (X6_readAll_j88 p1 p2 j14 s15) K11_t3 (jq_V jq_zX X (jq_zN jq_zX) s15 88 [(0, jR 2), (1, jR p1), (2, jR p2), (3, jI j14)] []) := by
      intro j14 s15
      unfold X6_readAll_j88
      refine jq_aload_n Γ dX6_readAll_88 rfl 0 rfl (jq_at_0 at_X_2) ?_
      refine jq_bipush Γ dX6_readAll_89 rfl ?_
      refine jq_cwV (jq_virt (avs := [jI 59]) (st := []) Γ hlY rfl ml_RX6_53 rfl at_X_2 rfl rfl rfl rfl rfl dX6_readAll_91) (fun σ' h => ctX5_passSign h) (fun s16 => ?_)
      refine jq_iincN (L' := fun v17 => [(3, jI v17), (0, jR 2), (1, jR p1), (2, jR p2)]) Γ dX6_readAll_94 3 rfl hnl rfl (fun _ => rfl) (fun v17 => ?_)
      refine jq_goto Γ (tgt := 11) dX6_readAll_97 rfl ?_
      refine jq_sub Γ (L' := [(0, jR 2), (1, jR p1), (2, jR p2), (3, jI v17)]) [1, 2, 3, 0] rfl ?_
      exact jq_done (hCt3 (v17, s16))
    refine jq_iload_n Γ dX6_readAll_11 rfl 3 rfl ?_
    refine jq_sipush Γ dX6_readAll_12 rfl ?_
    refine jq_icmp_ge (tgt := 100) Γ dX6_readAll_15 rfl ?_ ?_
    · refine jq_sub Γ (L' := [(0, jR 2), (2, jR p2)]) [0, 2] rfl ?_
      exact jq_done (hXt3 t3.2)
    · refine jq_aload_n Γ dX6_readAll_18 rfl 0 rfl (jq_at_0 at_X_2) ?_
      refine jq_cpZ (jq_virt (avs := []) (st := []) Γ hlY rfl ml_RX6_18 rfl at_X_2 rfl rfl rfl rfl rfl dX6_readAll_19) rfl (fun r h => ctX5_goesOn h) (fun v4 hz5 => ?_)
      refine jq_if_eq (tgt := 100) Γ dX6_readAll_22 rfl ?_ ?_
      · refine jq_sub Γ (L' := [(0, jR 2), (2, jR p2)]) [0, 2] rfl ?_
        exact jq_done (hXt3 t3.2)
      · refine jq_aload_n Γ dX6_readAll_25 rfl 0 rfl (jq_at_0 at_X_2) ?_
        refine jq_getI (J := 11) Γ at_X_2 fl_RX6_24 rfl rfl dX6_readAll_26 ?_
        refine jq_bipush Γ dX6_readAll_29 rfl ?_
        refine jq_icmp_ne (tgt := 42) Γ dX6_readAll_31 rfl ?_ ?_
        · refine jq_aload_n Γ dX6_readAll_42 rfl 0 rfl (jq_at_0 at_X_2) ?_
          refine jq_aload_n Γ dX6_readAll_43 rfl 2 rfl (jq_at_0 (at_stp hp2)) ?_
          refine jq_cwZ (jq_stat (avs := [jR 2, jR p2]) (st := []) Γ hlY rfl ml_RX6_34 rfl rfl rfl rfl rfl dX6_readAll_44) rfl (fun r σ' h => ctX6_mayBegin hp2 h) (fun v6 s7 hz8 => ?_)
          refine jq_if_eq (tgt := 94) Γ dX6_readAll_47 rfl ?_ ?_
          · refine jq_iincN (L' := fun v9 => [(3, jI v9), (0, jR 2), (1, jR p1), (2, jR p2)]) Γ dX6_readAll_94 3 rfl hnl rfl (fun _ => rfl) (fun v9 => ?_)
            refine jq_goto Γ (tgt := 11) dX6_readAll_97 rfl ?_
            refine jq_sub Γ (L' := [(0, jR 2), (1, jR p1), (2, jR p2), (3, jI v9)]) [1, 2, 3, 0] rfl ?_
            exact jq_done (hCt3 (v9, s7))
          · refine jq_aload_n Γ dX6_readAll_50 rfl 0 rfl (jq_at_0 at_X_2) ?_
            refine jq_aload_n Γ dX6_readAll_51 rfl 2 rfl (jq_at_0 (at_stp hp2)) ?_
            refine jq_cwI (jq_stat (avs := [jR 2, jR p2]) (st := []) Γ hlY rfl ml_RX6_38 rfl rfl rfl rfl rfl dX6_readAll_52) (fun r σ' h => ctX6_beginStep hp2 h) (fun v10 s11 => ?_)
            refine jq_istore (L' := [(4, jI v10), (0, jR 2), (1, jR p1), (2, jR p2), (3, jI t3.1)]) Γ dX6_readAll_55 hnl rfl rfl ?_
            refine jq_aload_n Γ dX6_readAll_57 rfl 3 rfl (jq_at_0 (at_stp hp2)) ?_
            refine jq_getR (v := (p2 + 1)) Γ hlY (at_stp hp2) fl_RX6_42 rfl rfl (ly_X7_words hp2) dX6_readAll_58 ?_
            refine jq_iload Γ dX6_readAll_61 0 rfl ?_
            refine jq_iald Γ (at_stp_1 hp2) rfl dX6_readAll_63 (fun v12 => ?_)
            refine jq_bipush Γ dX6_readAll_64 rfl ?_
            refine jq_icmp_ne (tgt := 80) Γ dX6_readAll_66 rfl ?_ ?_
            · refine jq_aload_n Γ dX6_readAll_80 rfl 1 rfl (jq_at_0 at_X_2) ?_
              refine jq_aload_n Γ dX6_readAll_81 rfl 2 rfl (jq_at_0 (at_com hp1)) ?_
              refine jq_aload_n Γ dX6_readAll_82 rfl 3 rfl (jq_at_0 (at_stp hp2)) ?_
              refine jq_iload Γ dX6_readAll_83 0 rfl ?_
              refine jq_cwV (jq_stat (avs := [jR 2, jR p1, jR p2, jI v10]) (st := []) Γ hlY rfl ml_RX6_50 rfl rfl rfl rfl rfl dX6_readAll_85) (fun σ' h => ctX6_readOperands hp1 hp2 h) (fun s13 => ?_)
              refine jq_sub Γ (L' := [(0, jR 2), (1, jR p1), (2, jR p2), (3, jI t3.1)]) [1, 2, 3, 4] rfl ?_
              exact hj88_1011 t3.1 s13
            · refine jq_aload_n Γ dX6_readAll_69 rfl 1 rfl (jq_at_0 at_X_2) ?_
              refine jq_aload_n Γ dX6_readAll_70 rfl 2 rfl (jq_at_0 (at_com hp1)) ?_
              refine jq_aload_n Γ dX6_readAll_71 rfl 3 rfl (jq_at_0 (at_stp hp2)) ?_
              refine jq_iload Γ dX6_readAll_72 0 rfl ?_
              refine jq_cwV (jq_stat (avs := [jR 2, jR p1, jR p2, jI v10]) (st := []) Γ hlY rfl ml_RX6_46 rfl rfl rfl rfl rfl dX6_readAll_74) (fun σ' h => ctX6_readTest hp1 hp2 h) (fun s18 => ?_)
              refine jq_goto Γ (tgt := 88) dX6_readAll_77 rfl ?_
              refine jq_sub Γ (L' := [(0, jR 2), (1, jR p1), (2, jR p2), (3, jI t3.1)]) [1, 2, 3, 4] rfl ?_
              exact hj88_1011 t3.1 s18
        · refine jq_aload_n Γ dX6_readAll_34 rfl 0 rfl (jq_at_0 at_X_2) ?_
          refine jq_aload_n Γ dX6_readAll_35 rfl 2 rfl (jq_at_0 (at_stp hp2)) ?_
          refine jq_cwV (jq_stat (avs := [jR 2, jR p2]) (st := []) Γ hlY rfl ml_RX6_28 rfl rfl rfl rfl rfl dX6_readAll_36) (fun σ' h => ctX6_readEnd hp2 h) (fun s19 => ?_)
          refine jq_goto Γ (tgt := 94) dX6_readAll_39 rfl ?_
          refine jq_iincN (L' := fun v20 => [(3, jI v20), (0, jR 2), (1, jR p1), (2, jR p2)]) Γ dX6_readAll_94 3 rfl hnl rfl (fun _ => rfl) (fun v20 => ?_)
          refine jq_goto Γ (tgt := 11) dX6_readAll_97 rfl ?_
          refine jq_sub Γ (L' := [(0, jR 2), (1, jR p1), (2, jR p2), (3, jI v20)]) [1, 2, 3, 0] rfl ?_
          exact jq_done (hCt3 (v20, s19))
  · intro e21
    exact hj100_0 e21


theorem dX7_takeFrom_0 : decode cX7_takeFrom 0 = .ok (.aload_n 0, 1) := by decide +kernel
theorem dX7_takeFrom_1 : decode cX7_takeFrom 1 = .ok (.aload_n 1, 1) := by decide +kernel
theorem dX7_takeFrom_2 : decode cX7_takeFrom 2 = .ok (.getfield 27, 3) := by decide +kernel
theorem dX7_takeFrom_5 : decode cX7_takeFrom 5 = .ok (.putfield 27, 3) := by decide +kernel
theorem dX7_takeFrom_8 : decode cX7_takeFrom 8 = .ok (.aload_n 0, 1) := by decide +kernel
theorem dX7_takeFrom_9 : decode cX7_takeFrom 9 = .ok (.aload_n 1, 1) := by decide +kernel
theorem dX7_takeFrom_10 : decode cX7_takeFrom 10 = .ok (.getfield 31, 3) := by decide +kernel
theorem dX7_takeFrom_13 : decode cX7_takeFrom 13 = .ok (.putfield 31, 3) := by decide +kernel
theorem dX7_takeFrom_16 : decode cX7_takeFrom 16 = .ok (.aload_n 0, 1) := by decide +kernel
theorem dX7_takeFrom_17 : decode cX7_takeFrom 17 = .ok (.aload_n 1, 1) := by decide +kernel
theorem dX7_takeFrom_18 : decode cX7_takeFrom 18 = .ok (.getfield 35, 3) := by decide +kernel
theorem dX7_takeFrom_21 : decode cX7_takeFrom 21 = .ok (.putfield 35, 3) := by decide +kernel
theorem dX7_takeFrom_24 : decode cX7_takeFrom 24 = .ok (.aload_n 1, 1) := by decide +kernel
theorem dX7_takeFrom_25 : decode cX7_takeFrom 25 = .ok (.getfield 9, 3) := by decide +kernel
theorem dX7_takeFrom_28 : decode cX7_takeFrom 28 = .ok (.iconst 0, 1) := by decide +kernel
theorem dX7_takeFrom_29 : decode cX7_takeFrom 29 = .ok (.aload_n 0, 1) := by decide +kernel
theorem dX7_takeFrom_30 : decode cX7_takeFrom 30 = .ok (.getfield 9, 3) := by decide +kernel
theorem dX7_takeFrom_33 : decode cX7_takeFrom 33 = .ok (.iconst 0, 1) := by decide +kernel
theorem dX7_takeFrom_34 : decode cX7_takeFrom 34 = .ok (.bipush 60, 2) := by decide +kernel
theorem dX7_takeFrom_36 : decode cX7_takeFrom 36 = .ok (.invokestatic 41, 3) := by decide +kernel
theorem dX7_takeFrom_39 : decode cX7_takeFrom 39 = .ok (.aload_n 1, 1) := by decide +kernel
theorem dX7_takeFrom_40 : decode cX7_takeFrom 40 = .ok (.getfield 15, 3) := by decide +kernel
theorem dX7_takeFrom_43 : decode cX7_takeFrom 43 = .ok (.iconst 0, 1) := by decide +kernel
theorem dX7_takeFrom_44 : decode cX7_takeFrom 44 = .ok (.aload_n 0, 1) := by decide +kernel
theorem dX7_takeFrom_45 : decode cX7_takeFrom 45 = .ok (.getfield 15, 3) := by decide +kernel
theorem dX7_takeFrom_48 : decode cX7_takeFrom 48 = .ok (.iconst 0, 1) := by decide +kernel
theorem dX7_takeFrom_49 : decode cX7_takeFrom 49 = .ok (.bipush 60, 2) := by decide +kernel
theorem dX7_takeFrom_51 : decode cX7_takeFrom 51 = .ok (.invokestatic 41, 3) := by decide +kernel
theorem dX7_takeFrom_54 : decode cX7_takeFrom 54 = .ok (.aload_n 1, 1) := by decide +kernel
theorem dX7_takeFrom_55 : decode cX7_takeFrom 55 = .ok (.getfield 18, 3) := by decide +kernel
theorem dX7_takeFrom_58 : decode cX7_takeFrom 58 = .ok (.iconst 0, 1) := by decide +kernel
theorem dX7_takeFrom_59 : decode cX7_takeFrom 59 = .ok (.aload_n 0, 1) := by decide +kernel
theorem dX7_takeFrom_60 : decode cX7_takeFrom 60 = .ok (.getfield 18, 3) := by decide +kernel
theorem dX7_takeFrom_63 : decode cX7_takeFrom 63 = .ok (.iconst 0, 1) := by decide +kernel
theorem dX7_takeFrom_64 : decode cX7_takeFrom 64 = .ok (.bipush 60, 2) := by decide +kernel
theorem dX7_takeFrom_66 : decode cX7_takeFrom 66 = .ok (.invokestatic 41, 3) := by decide +kernel
theorem dX7_takeFrom_69 : decode cX7_takeFrom 69 = .ok (.aload_n 1, 1) := by decide +kernel
theorem dX7_takeFrom_70 : decode cX7_takeFrom 70 = .ok (.getfield 21, 3) := by decide +kernel
theorem dX7_takeFrom_73 : decode cX7_takeFrom 73 = .ok (.iconst 0, 1) := by decide +kernel
theorem dX7_takeFrom_74 : decode cX7_takeFrom 74 = .ok (.aload_n 0, 1) := by decide +kernel
theorem dX7_takeFrom_75 : decode cX7_takeFrom 75 = .ok (.getfield 21, 3) := by decide +kernel
theorem dX7_takeFrom_78 : decode cX7_takeFrom 78 = .ok (.iconst 0, 1) := by decide +kernel
theorem dX7_takeFrom_79 : decode cX7_takeFrom 79 = .ok (.bipush 60, 2) := by decide +kernel
theorem dX7_takeFrom_81 : decode cX7_takeFrom 81 = .ok (.invokestatic 41, 3) := by decide +kernel
theorem dX7_takeFrom_84 : decode cX7_takeFrom 84 = .ok (.return_, 1) := by decide +kernel
set_option maxHeartbeats 4000000 in
set_option maxRecDepth 100000 in
theorem ctX7_takeFrom {o : Int} {p1 : Int} {σ : jq_M} {σ' : jq_M} (ho : jq_stp o) (hp1 : jq_stp p1) (h : X7_takeFrom o p1 σ = some σ') : jq_MC jq_zX yX7_takeFrom cX7_takeFrom 2 none 1 40 [jR o, jR p1] σ none σ' := by
  refine jq_met (own := RX7) (L0 := [(0, jR o), (1, jR p1)]) (by decide) rfl rfl rfl ?_
  intro X Γ hnl hlY hRT
  refine jq_use2 (P := fun r => jq_RT jq_zX X none none r) ?_ h hRT
  intro K0 hK0
  unfold X7_takeFrom
  refine jq_aload_n Γ dX7_takeFrom_0 rfl 0 rfl (jq_at_0 (at_stp ho)) ?_
  refine jq_aload_n Γ dX7_takeFrom_1 rfl 1 rfl (jq_at_0 (at_stp hp1)) ?_
  refine jq_getZ (J := 0) Γ (at_stp hp1) fl_RX7_27 rfl rfl dX7_takeFrom_2 (fun v1 hz2 => ?_)
  refine jq_putZ Γ (at_stp ho) fl_RX7_27 rfl rfl (hz2) dX7_takeFrom_5 (fun s3 => ?_)
  refine jq_aload_n Γ dX7_takeFrom_8 rfl 0 rfl (jq_at_0 (at_stp ho)) ?_
  refine jq_aload_n Γ dX7_takeFrom_9 rfl 1 rfl (jq_at_0 (at_stp hp1)) ?_
  refine jq_getI (J := 1) Γ (at_stp hp1) fl_RX7_31 rfl rfl dX7_takeFrom_10 ?_
  refine jq_putI Γ (at_stp ho) fl_RX7_31 rfl rfl dX7_takeFrom_13 (fun s4 => ?_)
  refine jq_aload_n Γ dX7_takeFrom_16 rfl 0 rfl (jq_at_0 (at_stp ho)) ?_
  refine jq_aload_n Γ dX7_takeFrom_17 rfl 1 rfl (jq_at_0 (at_stp hp1)) ?_
  refine jq_getI (J := 2) Γ (at_stp hp1) fl_RX7_35 rfl rfl dX7_takeFrom_18 ?_
  refine jq_putI Γ (at_stp ho) fl_RX7_35 rfl rfl dX7_takeFrom_21 (fun s5 => ?_)
  refine jq_aload_n Γ dX7_takeFrom_24 rfl 1 rfl (jq_at_0 (at_stp hp1)) ?_
  refine jq_getR (v := (p1 + 1)) Γ hlY (at_stp hp1) fl_RX7_9 rfl rfl (ly_X7_words hp1) dX7_takeFrom_25 ?_
  refine jq_iconst Γ dX7_takeFrom_28 rfl ?_
  refine jq_aload_n Γ dX7_takeFrom_29 rfl 0 rfl (jq_at_0 (at_stp ho)) ?_
  refine jq_getR (v := (o + 1)) Γ hlY (at_stp ho) fl_RX7_9 rfl rfl (ly_X7_words ho) dX7_takeFrom_30 ?_
  refine jq_iconst Γ dX7_takeFrom_33 rfl ?_
  refine jq_bipush Γ dX7_takeFrom_34 rfl ?_
  refine jq_copyi Γ (at_stp_1 hp1) (at_stp_1 ho) rfl rfl rfl aw_RX7_41 awn aws awi rfl rfl dX7_takeFrom_36 (fun s6 => ?_)
  refine jq_aload_n Γ dX7_takeFrom_39 rfl 1 rfl (jq_at_0 (at_stp hp1)) ?_
  refine jq_getR (v := (p1 + 2)) Γ hlY (at_stp hp1) fl_RX7_15 rfl rfl (ly_X7_first hp1) dX7_takeFrom_40 ?_
  refine jq_iconst Γ dX7_takeFrom_43 rfl ?_
  refine jq_aload_n Γ dX7_takeFrom_44 rfl 0 rfl (jq_at_0 (at_stp ho)) ?_
  refine jq_getR (v := (o + 2)) Γ hlY (at_stp ho) fl_RX7_15 rfl rfl (ly_X7_first ho) dX7_takeFrom_45 ?_
  refine jq_iconst Γ dX7_takeFrom_48 rfl ?_
  refine jq_bipush Γ dX7_takeFrom_49 rfl ?_
  refine jq_copyi Γ (at_stp_2 hp1) (at_stp_2 ho) rfl rfl rfl aw_RX7_41 awn aws awi rfl rfl dX7_takeFrom_51 (fun s7 => ?_)
  refine jq_aload_n Γ dX7_takeFrom_54 rfl 1 rfl (jq_at_0 (at_stp hp1)) ?_
  refine jq_getR (v := (p1 + 3)) Γ hlY (at_stp hp1) fl_RX7_18 rfl rfl (ly_X7_second hp1) dX7_takeFrom_55 ?_
  refine jq_iconst Γ dX7_takeFrom_58 rfl ?_
  refine jq_aload_n Γ dX7_takeFrom_59 rfl 0 rfl (jq_at_0 (at_stp ho)) ?_
  refine jq_getR (v := (o + 3)) Γ hlY (at_stp ho) fl_RX7_18 rfl rfl (ly_X7_second ho) dX7_takeFrom_60 ?_
  refine jq_iconst Γ dX7_takeFrom_63 rfl ?_
  refine jq_bipush Γ dX7_takeFrom_64 rfl ?_
  refine jq_copyi Γ (at_stp_3 hp1) (at_stp_3 ho) rfl rfl rfl aw_RX7_41 awn aws awi rfl rfl dX7_takeFrom_66 (fun s8 => ?_)
  refine jq_aload_n Γ dX7_takeFrom_69 rfl 1 rfl (jq_at_0 (at_stp hp1)) ?_
  refine jq_getR (v := (p1 + 4)) Γ hlY (at_stp hp1) fl_RX7_21 rfl rfl (ly_X7_mates hp1) dX7_takeFrom_70 ?_
  refine jq_iconst Γ dX7_takeFrom_73 rfl ?_
  refine jq_aload_n Γ dX7_takeFrom_74 rfl 0 rfl (jq_at_0 (at_stp ho)) ?_
  refine jq_getR (v := (o + 4)) Γ hlY (at_stp ho) fl_RX7_21 rfl rfl (ly_X7_mates ho) dX7_takeFrom_75 ?_
  refine jq_iconst Γ dX7_takeFrom_78 rfl ?_
  refine jq_bipush Γ dX7_takeFrom_79 rfl ?_
  refine jq_copyi Γ (at_stp_4 hp1) (at_stp_4 ho) rfl rfl rfl aw_RX7_41 awn aws awi rfl rfl dX7_takeFrom_81 (fun s9 => ?_)
  exact jq_vreturn Γ dX7_takeFrom_84 (hK0 _)


theorem dX10_sessions_0 : decode cX10_sessions 0 = .ok (.iload_n 1, 1) := by decide +kernel
theorem dX10_sessions_1 : decode cX10_sessions 1 = .ok (.ifCond .lt 21, 3) := by decide +kernel
theorem dX10_sessions_4 : decode cX10_sessions 4 = .ok (.iload_n 1, 1) := by decide +kernel
theorem dX10_sessions_5 : decode cX10_sessions 5 = .ok (.aload_n 0, 1) := by decide +kernel
theorem dX10_sessions_6 : decode cX10_sessions 6 = .ok (.getfield 18, 3) := by decide +kernel
theorem dX10_sessions_9 : decode cX10_sessions 9 = .ok (.getfield 139, 3) := by decide +kernel
theorem dX10_sessions_12 : decode cX10_sessions 12 = .ok (.if_icmp .gt 10, 3) := by decide +kernel
theorem dX10_sessions_15 : decode cX10_sessions 15 = .ok (.iload_n 1, 1) := by decide +kernel
theorem dX10_sessions_16 : decode cX10_sessions 16 = .ok (.sipush 300, 3) := by decide +kernel
theorem dX10_sessions_19 : decode cX10_sessions 19 = .ok (.if_icmp .le 9, 3) := by decide +kernel
theorem dX10_sessions_22 : decode cX10_sessions 22 = .ok (.aload_n 0, 1) := by decide +kernel
theorem dX10_sessions_23 : decode cX10_sessions 23 = .ok (.iconst 1, 1) := by decide +kernel
theorem dX10_sessions_24 : decode cX10_sessions 24 = .ok (.invokevirtual 120, 3) := by decide +kernel
theorem dX10_sessions_27 : decode cX10_sessions 27 = .ok (.ireturn, 1) := by decide +kernel
theorem dX10_sessions_28 : decode cX10_sessions 28 = .ok (.aload_n 0, 1) := by decide +kernel
theorem dX10_sessions_29 : decode cX10_sessions 29 = .ok (.getfield 18, 3) := by decide +kernel
theorem dX10_sessions_32 : decode cX10_sessions 32 = .ok (.iload_n 1, 1) := by decide +kernel
theorem dX10_sessions_33 : decode cX10_sessions 33 = .ok (.invokevirtual 146, 3) := by decide +kernel
theorem dX10_sessions_36 : decode cX10_sessions 36 = .ok (.aload_n 0, 1) := by decide +kernel
theorem dX10_sessions_37 : decode cX10_sessions 37 = .ok (.getfield 18, 3) := by decide +kernel
theorem dX10_sessions_40 : decode cX10_sessions 40 = .ok (.aload_n 0, 1) := by decide +kernel
theorem dX10_sessions_41 : decode cX10_sessions 41 = .ok (.getfield 25, 3) := by decide +kernel
theorem dX10_sessions_44 : decode cX10_sessions 44 = .ok (.aload_n 0, 1) := by decide +kernel
theorem dX10_sessions_45 : decode cX10_sessions 45 = .ok (.getfield 35, 3) := by decide +kernel
theorem dX10_sessions_48 : decode cX10_sessions 48 = .ok (.invokestatic 164, 3) := by decide +kernel
theorem dX10_sessions_51 : decode cX10_sessions 51 = .ok (.aload_n 0, 1) := by decide +kernel
theorem dX10_sessions_52 : decode cX10_sessions 52 = .ok (.invokevirtual 155, 3) := by decide +kernel
theorem dX10_sessions_55 : decode cX10_sessions 55 = .ok (.ifCond .ne 10, 3) := by decide +kernel
theorem dX10_sessions_58 : decode cX10_sessions 58 = .ok (.aload_n 0, 1) := by decide +kernel
theorem dX10_sessions_59 : decode cX10_sessions 59 = .ok (.bipush 9, 2) := by decide +kernel
theorem dX10_sessions_61 : decode cX10_sessions 61 = .ok (.invokevirtual 120, 3) := by decide +kernel
theorem dX10_sessions_64 : decode cX10_sessions 64 = .ok (.ireturn, 1) := by decide +kernel
theorem dX10_sessions_65 : decode cX10_sessions 65 = .ok (.aload_n 0, 1) := by decide +kernel
theorem dX10_sessions_66 : decode cX10_sessions 66 = .ok (.getfield 25, 3) := by decide +kernel
theorem dX10_sessions_69 : decode cX10_sessions 69 = .ok (.getfield 169, 3) := by decide +kernel
theorem dX10_sessions_72 : decode cX10_sessions 72 = .ok (.aload_n 0, 1) := by decide +kernel
theorem dX10_sessions_73 : decode cX10_sessions 73 = .ok (.getfield 35, 3) := by decide +kernel
theorem dX10_sessions_76 : decode cX10_sessions 76 = .ok (.invokevirtual 172, 3) := by decide +kernel
theorem dX10_sessions_79 : decode cX10_sessions 79 = .ok (.aload_n 0, 1) := by decide +kernel
theorem dX10_sessions_80 : decode cX10_sessions 80 = .ok (.aload_n 0, 1) := by decide +kernel
theorem dX10_sessions_81 : decode cX10_sessions 81 = .ok (.getfield 25, 3) := by decide +kernel
theorem dX10_sessions_84 : decode cX10_sessions 84 = .ok (.getfield 169, 3) := by decide +kernel
theorem dX10_sessions_87 : decode cX10_sessions 87 = .ok (.getfield 176, 3) := by decide +kernel
theorem dX10_sessions_90 : decode cX10_sessions 90 = .ok (.invokevirtual 161, 3) := by decide +kernel
theorem dX10_sessions_93 : decode cX10_sessions 93 = .ok (.ireturn, 1) := by decide +kernel
set_option maxHeartbeats 4000000 in
set_option maxRecDepth 100000 in
theorem ctX10_sessions {p1 : Int} {σ : jq_M} {res : Int} {σ' : jq_M}  (h : X10_sessions p1 σ = some (res, σ')) : jq_MC jq_zX yX10_sessions cX10_sessions 2 (some .int) 7 175 [jR 0, jI p1] σ (some (jI res)) σ' := by
  refine jq_met (own := RX10) (L0 := [(0, jR 0), (1, jI p1)]) (by decide) rfl rfl rfl ?_
  intro X Γ hnl hlY hRT
  refine jq_use2 (P := fun r => jq_RT jq_zX X (some .int) (some (jI r.1)) r.2) ?_ h hRT
  intro K0 hK0
  unfold X10_sessions
  have hj22_0 : ∀ (s1 : jq_M), jq_J (X10_sessions_j22 s1) K0 (jq_V jq_zX X (jq_zN jq_zX) s1 22 [(0, jR 0)] []) := by
    intro s1
    unfold X10_sessions_j22
    refine jq_aload_n Γ dX10_sessions_22 rfl 0 rfl (jq_at_0 at_X_0) ?_
    refine jq_iconst Γ dX10_sessions_23 rfl ?_
    refine jq_cwI (jq_virt (avs := [jI 1]) (st := []) Γ hlY rfl ml_RX10_120 rfl at_X_0 rfl rfl rfl rfl rfl dX10_sessions_24) (fun r σ' h => ctX10_refuse h) (fun v2 s3 => ?_)
    exact jq_ireturn Γ dX10_sessions_27 (hK0 _)
  refine jq_iload_n Γ dX10_sessions_0 rfl 1 rfl ?_
  refine jq_if_lt (tgt := 22) Γ dX10_sessions_1 rfl ?_ ?_
  · refine jq_sub Γ (L' := [(0, jR 0)]) [0] rfl ?_
    exact hj22_0 σ
  · refine jq_iload_n Γ dX10_sessions_4 rfl 1 rfl ?_
    refine jq_aload_n Γ dX10_sessions_5 rfl 0 rfl (jq_at_0 at_X_0) ?_
    refine jq_getR (v := 2) Γ hlY at_X_0 fl_RX10_18 rfl rfl ly_X10_reader dX10_sessions_6 ?_
    refine jq_getI (J := 2) Γ at_X_2 fl_RX10_139 rfl rfl dX10_sessions_9 ?_
    refine jq_icmp_gt (tgt := 22) Γ dX10_sessions_12 rfl ?_ ?_
    · refine jq_sub Γ (L' := [(0, jR 0)]) [0] rfl ?_
      exact hj22_0 σ
    · refine jq_iload_n Γ dX10_sessions_15 rfl 1 rfl ?_
      refine jq_sipush Γ dX10_sessions_16 rfl ?_
      refine jq_icmp_le (tgt := 28) Γ dX10_sessions_19 rfl ?_ ?_
      · refine jq_aload_n Γ dX10_sessions_28 rfl 0 rfl (jq_at_0 at_X_0) ?_
        refine jq_getR (v := 2) Γ hlY at_X_0 fl_RX10_18 rfl rfl ly_X10_reader dX10_sessions_29 ?_
        refine jq_iload_n Γ dX10_sessions_32 rfl 1 rfl ?_
        refine jq_cwV (jq_virt (avs := [jI p1]) (st := []) Γ hlY rfl ml_RX10_146 rfl at_X_2 rfl rfl rfl rfl rfl dX10_sessions_33) (fun σ' h => ctX5_open h) (fun s4 => ?_)
        refine jq_aload_n Γ dX10_sessions_36 rfl 0 rfl (jq_at_0 at_X_0) ?_
        refine jq_getR (v := 2) Γ hlY at_X_0 fl_RX10_18 rfl rfl ly_X10_reader dX10_sessions_37 ?_
        refine jq_aload_n Γ dX10_sessions_40 rfl 0 rfl (jq_at_0 at_X_0) ?_
        refine jq_getC (C := jq_cm2) Γ hlY at_X_0 fl_RX10_25 rfl rfl ly_now dX10_sessions_41 (fun c5 hc6q => ?_)
        have hc6 := jq_cm2_com hc6q
        refine jq_aload_n Γ dX10_sessions_44 rfl 0 rfl (jq_at_0 at_X_0) ?_
        refine jq_getR (v := 45) Γ hlY at_X_0 fl_RX10_35 rfl rfl ly_X10_spareSteps dX10_sessions_45 ?_
        refine jq_cwV (jq_stat (avs := [jR 2, jR c5, jR 45]) (st := []) Γ hlY rfl ml_RX10_164 rfl rfl rfl rfl rfl dX10_sessions_48) (fun σ' h => ctX6_readAll hc6 stp_45 h) (fun s7 => ?_)
        refine jq_aload_n Γ dX10_sessions_51 rfl 0 rfl (jq_at_0 at_X_0) ?_
        refine jq_cwZ (jq_virt (avs := []) (st := []) Γ hlY rfl ml_RX10_155 rfl at_X_0 rfl rfl rfl rfl rfl dX10_sessions_52) rfl (fun r σ' h => ctX10_keepFault h) (fun v8 s9 hz10 => ?_)
        refine jq_if_ne (tgt := 65) Γ dX10_sessions_55 rfl ?_ ?_
        · refine jq_aload_n Γ dX10_sessions_65 rfl 0 rfl (jq_at_0 at_X_0) ?_
          refine jq_getC (C := jq_cm2) Γ hlY at_X_0 fl_RX10_25 rfl rfl ly_now dX10_sessions_66 (fun c11 hc12q => ?_)
          have hc12 := jq_cm2_com hc12q
          refine jq_getR (v := (c11 + 13)) Γ hlY (at_com hc12) fl_RX10_169 rfl rfl (ly_X1_steps hc12) dX10_sessions_69 ?_
          refine jq_aload_n Γ dX10_sessions_72 rfl 0 rfl (jq_at_0 at_X_0) ?_
          refine jq_getR (v := 45) Γ hlY at_X_0 fl_RX10_35 rfl rfl ly_X10_spareSteps dX10_sessions_73 ?_
          refine jq_cwV (jq_virt (avs := [jR 45]) (st := []) Γ hlY rfl ml_RX10_172 rfl (at_stp (stp_com hc12)) rfl rfl rfl rfl rfl dX10_sessions_76) (fun σ' h => ctX7_takeFrom (stp_com hc12) stp_45 h) (fun s13 => ?_)
          refine jq_aload_n Γ dX10_sessions_79 rfl 0 rfl (jq_at_0 at_X_0) ?_
          refine jq_aload_n Γ dX10_sessions_80 rfl 0 rfl (jq_at_0 at_X_0) ?_
          refine jq_getC (C := jq_cm2) Γ hlY at_X_0 fl_RX10_25 rfl rfl ly_now dX10_sessions_81 (fun c14 hc15q => ?_)
          have hc15 := jq_cm2_com hc15q
          refine jq_getR (v := (c14 + 13)) Γ hlY (at_com hc15) fl_RX10_169 rfl rfl (ly_X1_steps hc15) dX10_sessions_84 ?_
          refine jq_getI (J := 1) Γ (at_stp (stp_com hc15)) fl_RX10_176 rfl rfl dX10_sessions_87 ?_
          refine jq_cwI (jq_virt (avs := [jI (s13 (c14 + 13) 1)]) (st := []) Γ hlY rfl ml_RX10_161 rfl at_X_0 rfl rfl rfl rfl rfl dX10_sessions_90) (fun r σ' h => ctX10_answer h) (fun v16 s17 => ?_)
          exact jq_ireturn Γ dX10_sessions_93 (hK0 _)
        · refine jq_aload_n Γ dX10_sessions_58 rfl 0 rfl (jq_at_0 at_X_0) ?_
          refine jq_bipush Γ dX10_sessions_59 rfl ?_
          refine jq_cwI (jq_virt (avs := [jI 9]) (st := []) Γ hlY rfl ml_RX10_120 rfl at_X_0 rfl rfl rfl rfl rfl dX10_sessions_61) (fun r σ' h => ctX10_refuse h) (fun v18 s19 => ?_)
          exact jq_ireturn Γ dX10_sessions_64 (hK0 _)
      · refine jq_sub Γ (L' := [(0, jR 0)]) [0] rfl ?_
        exact hj22_0 σ


theorem dX10_fault_0 : decode cX10_fault 0 = .ok (.iload_n 1, 1) := by decide +kernel
theorem dX10_fault_1 : decode cX10_fault 1 = .ok (.ifCond .ne 8, 3) := by decide +kernel
theorem dX10_fault_4 : decode cX10_fault 4 = .ok (.aload_n 0, 1) := by decide +kernel
theorem dX10_fault_5 : decode cX10_fault 5 = .ok (.getfield 82, 3) := by decide +kernel
theorem dX10_fault_8 : decode cX10_fault 8 = .ok (.ireturn, 1) := by decide +kernel
theorem dX10_fault_9 : decode cX10_fault 9 = .ok (.iload_n 1, 1) := by decide +kernel
theorem dX10_fault_10 : decode cX10_fault 10 = .ok (.iconst 1, 1) := by decide +kernel
theorem dX10_fault_11 : decode cX10_fault 11 = .ok (.if_icmp .ne 10, 3) := by decide +kernel
theorem dX10_fault_14 : decode cX10_fault 14 = .ok (.aload_n 0, 1) := by decide +kernel
theorem dX10_fault_15 : decode cX10_fault 15 = .ok (.getfield 85, 3) := by decide +kernel
theorem dX10_fault_18 : decode cX10_fault 18 = .ok (.goto 4, 3) := by decide +kernel
theorem dX10_fault_21 : decode cX10_fault 21 = .ok (.iconst (-1), 1) := by decide +kernel
theorem dX10_fault_22 : decode cX10_fault 22 = .ok (.ireturn, 1) := by decide +kernel
set_option maxHeartbeats 4000000 in
set_option maxRecDepth 100000 in
theorem ctX10_fault {p1 : Int} {σ : jq_M} {res : Int}  (h : X10_fault p1 σ = some res) : jq_MC jq_zX yX10_fault cX10_fault 2 (some .int) 1 40 [jR 0, jI p1] σ (some (jI res)) σ := by
  refine jq_met (own := RX10) (L0 := [(0, jR 0), (1, jI p1)]) (by decide) rfl rfl rfl ?_
  intro X Γ hnl hlY hRT
  refine jq_use2 (P := fun r => jq_RT jq_zX X (some .int) (some (jI r)) σ) ?_ h hRT
  intro K0 hK0
  unfold X10_fault
  refine jq_iload_n Γ dX10_fault_0 rfl 1 rfl ?_
  refine jq_if_ne (tgt := 9) Γ dX10_fault_1 rfl ?_ ?_
  · refine jq_iload_n Γ dX10_fault_9 rfl 1 rfl ?_
    refine jq_iconst Γ dX10_fault_10 rfl ?_
    refine jq_icmp_ne (tgt := 21) Γ dX10_fault_11 rfl ?_ ?_
    · refine jq_iconst Γ dX10_fault_21 rfl ?_
      exact jq_ireturn Γ dX10_fault_22 (hK0 _)
    · refine jq_aload_n Γ dX10_fault_14 rfl 0 rfl (jq_at_0 at_X_0) ?_
      refine jq_getI (J := 6) Γ at_X_0 fl_RX10_85 rfl rfl dX10_fault_15 ?_
      refine jq_goto Γ (tgt := 22) dX10_fault_18 rfl ?_
      exact jq_ireturn Γ dX10_fault_22 (hK0 _)
  · refine jq_aload_n Γ dX10_fault_4 rfl 0 rfl (jq_at_0 at_X_0) ?_
    refine jq_getI (J := 5) Γ at_X_0 fl_RX10_82 rfl rfl dX10_fault_5 ?_
    exact jq_ireturn Γ dX10_fault_8 (hK0 _)


theorem dX1_sittersOf_0 : decode cX1_sittersOf 0 = .ok (.iconst 0, 1) := by decide +kernel
theorem dX1_sittersOf_1 : decode cX1_sittersOf 1 = .ok (.istore_n 2, 1) := by decide +kernel
theorem dX1_sittersOf_2 : decode cX1_sittersOf 2 = .ok (.iconst 0, 1) := by decide +kernel
theorem dX1_sittersOf_3 : decode cX1_sittersOf 3 = .ok (.istore_n 3, 1) := by decide +kernel
theorem dX1_sittersOf_4 : decode cX1_sittersOf 4 = .ok (.iload_n 3, 1) := by decide +kernel
theorem dX1_sittersOf_5 : decode cX1_sittersOf 5 = .ok (.aload_n 0, 1) := by decide +kernel
theorem dX1_sittersOf_6 : decode cX1_sittersOf 6 = .ok (.getfield 66, 3) := by decide +kernel
theorem dX1_sittersOf_9 : decode cX1_sittersOf 9 = .ok (.if_icmp .ge 22, 3) := by decide +kernel
theorem dX1_sittersOf_12 : decode cX1_sittersOf 12 = .ok (.aload_n 1, 1) := by decide +kernel
theorem dX1_sittersOf_13 : decode cX1_sittersOf 13 = .ok (.iload_n 3, 1) := by decide +kernel
theorem dX1_sittersOf_14 : decode cX1_sittersOf 14 = .ok (.iaload, 1) := by decide +kernel
theorem dX1_sittersOf_15 : decode cX1_sittersOf 15 = .ok (.iconst (-1), 1) := by decide +kernel
theorem dX1_sittersOf_16 : decode cX1_sittersOf 16 = .ok (.if_icmp .eq 9, 3) := by decide +kernel
theorem dX1_sittersOf_19 : decode cX1_sittersOf 19 = .ok (.iload_n 2, 1) := by decide +kernel
theorem dX1_sittersOf_20 : decode cX1_sittersOf 20 = .ok (.iconst 1, 1) := by decide +kernel
theorem dX1_sittersOf_21 : decode cX1_sittersOf 21 = .ok (.iload_n 3, 1) := by decide +kernel
theorem dX1_sittersOf_22 : decode cX1_sittersOf 22 = .ok (.ishl, 1) := by decide +kernel
theorem dX1_sittersOf_23 : decode cX1_sittersOf 23 = .ok (.ior, 1) := by decide +kernel
theorem dX1_sittersOf_24 : decode cX1_sittersOf 24 = .ok (.istore_n 2, 1) := by decide +kernel
theorem dX1_sittersOf_25 : decode cX1_sittersOf 25 = .ok (.iinc 3 1, 3) := by decide +kernel
theorem dX1_sittersOf_28 : decode cX1_sittersOf 28 = .ok (.goto (-24), 3) := by decide +kernel
theorem dX1_sittersOf_31 : decode cX1_sittersOf 31 = .ok (.iload_n 2, 1) := by decide +kernel
theorem dX1_sittersOf_32 : decode cX1_sittersOf 32 = .ok (.ireturn, 1) := by decide +kernel
set_option maxHeartbeats 4000000 in
set_option maxRecDepth 100000 in
theorem ctX1_sittersOf {o : Int} {p1 : Int} {σ : jq_M} {res : Int} (ho : jq_com o) (hp1 : jq_row p1) (h : X1_sittersOf o p1 σ = some res) : jq_MC jq_zX yX1_sittersOf cX1_sittersOf 4 (some .int) 1 40 [jR o, jR p1] σ (some (jI res)) σ := by
  refine jq_met (own := RX1) (L0 := [(0, jR o), (1, jR p1)]) (by decide) rfl rfl rfl ?_
  intro X Γ hnl hlY hRT
  refine jq_use2 (P := fun r => jq_RT jq_zX X (some .int) (some (jI r)) σ) ?_ h hRT
  intro K0 hK0
  unfold X1_sittersOf
  refine jq_iconst Γ dX1_sittersOf_0 rfl ?_
  refine jq_istore_n (L' := [(2, jI 0), (0, jR o), (1, jR p1)]) Γ dX1_sittersOf_1 rfl hnl rfl rfl ?_
  refine jq_iconst Γ dX1_sittersOf_2 rfl ?_
  refine jq_istore_n (L' := [(3, jI 0), (2, jI 0), (0, jR o), (1, jR p1)]) Γ dX1_sittersOf_3 rfl hnl rfl rfl ?_
  refine jq_sub Γ (L' := [(0, jR o), (1, jR p1), (2, jI 0), (3, jI 0)]) [2, 3, 1, 0] rfl ?_
  refine jq_loop2 (C := fun (t1 : Int × Int) => jq_V jq_zX X (jq_zN jq_zX) σ 4 [(0, jR o), (1, jR p1), (2, jI t1.1), (3, jI t1.2)] []) (KX := fun (e6 : Int) => jq_V jq_zX X (jq_zN jq_zX) σ 31 [(2, jI e6)] []) ?_ ?_ (0, 0)
  · intro K4_t1 hCt1 hXt1 t1
    unfold X1_sittersOf_b4
    refine jq_iload_n Γ dX1_sittersOf_4 rfl 3 rfl ?_
    refine jq_aload_n Γ dX1_sittersOf_5 rfl 0 rfl (jq_at_0 (at_com ho)) ?_
    refine jq_getI (J := 2) Γ (at_com ho) fl_RX1_66 rfl rfl dX1_sittersOf_6 ?_
    refine jq_icmp_ge (tgt := 31) Γ dX1_sittersOf_9 rfl ?_ ?_
    · refine jq_sub Γ (L' := [(2, jI t1.1)]) [2] rfl ?_
      exact jq_done (hXt1 t1.1)
    · refine jq_aload_n Γ dX1_sittersOf_12 rfl 1 rfl (jq_at_0 (at_row hp1)) ?_
      refine jq_iload_n Γ dX1_sittersOf_13 rfl 3 rfl ?_
      refine jq_iald Γ (at_row hp1) rfl dX1_sittersOf_14 (fun v2 => ?_)
      refine jq_iconst Γ dX1_sittersOf_15 rfl ?_
      refine jq_icmp_eq (tgt := 25) Γ dX1_sittersOf_16 rfl ?_ ?_
      · refine jq_iincN (L' := fun v3 => [(3, jI v3), (0, jR o), (1, jR p1), (2, jI t1.1)]) Γ dX1_sittersOf_25 3 rfl hnl rfl (fun _ => rfl) (fun v3 => ?_)
        refine jq_goto Γ (tgt := 4) dX1_sittersOf_28 rfl ?_
        refine jq_sub Γ (L' := [(0, jR o), (1, jR p1), (2, jI t1.1), (3, jI v3)]) [1, 2, 3, 0] rfl ?_
        exact jq_done (hCt1 (t1.1, v3))
      · refine jq_iload_n Γ dX1_sittersOf_19 rfl 2 rfl ?_
        refine jq_iconst Γ dX1_sittersOf_20 rfl ?_
        refine jq_iload_n Γ dX1_sittersOf_21 rfl 3 rfl ?_
        refine jq_ishl Γ dX1_sittersOf_22 ?_
        refine jq_ior Γ dX1_sittersOf_23 ?_
        refine jq_nmI (fun v4 => ?_)
        refine jq_istore_n (L' := [(2, jI v4), (0, jR o), (1, jR p1), (3, jI t1.2)]) Γ dX1_sittersOf_24 rfl hnl rfl rfl ?_
        refine jq_iincN (L' := fun v5 => [(3, jI v5), (2, jI v4), (0, jR o), (1, jR p1)]) Γ dX1_sittersOf_25 3 rfl hnl rfl (fun _ => rfl) (fun v5 => ?_)
        refine jq_goto Γ (tgt := 4) dX1_sittersOf_28 rfl ?_
        refine jq_sub Γ (L' := [(0, jR o), (1, jR p1), (2, jI v4), (3, jI v5)]) [2, 3, 1, 0] rfl ?_
        exact jq_done (hCt1 (v4, v5))
  · intro e6
    refine jq_iload_n Γ dX1_sittersOf_31 rfl 0 rfl ?_
    exact jq_ireturn Γ dX1_sittersOf_32 (hK0 _)


theorem dX1_nextTo_0 : decode cX1_nextTo 0 = .ok (.iload_n 1, 1) := by decide +kernel
theorem dX1_nextTo_1 : decode cX1_nextTo 1 = .ok (.iconst (-1), 1) := by decide +kernel
theorem dX1_nextTo_2 : decode cX1_nextTo 2 = .ok (.if_icmp .eq 8, 3) := by decide +kernel
theorem dX1_nextTo_5 : decode cX1_nextTo 5 = .ok (.iload_n 2, 1) := by decide +kernel
theorem dX1_nextTo_6 : decode cX1_nextTo 6 = .ok (.iconst (-1), 1) := by decide +kernel
theorem dX1_nextTo_7 : decode cX1_nextTo 7 = .ok (.if_icmp .ne 5, 3) := by decide +kernel
theorem dX1_nextTo_10 : decode cX1_nextTo 10 = .ok (.iconst 0, 1) := by decide +kernel
theorem dX1_nextTo_11 : decode cX1_nextTo 11 = .ok (.ireturn, 1) := by decide +kernel
theorem dX1_nextTo_12 : decode cX1_nextTo 12 = .ok (.iload_n 1, 1) := by decide +kernel
theorem dX1_nextTo_13 : decode cX1_nextTo 13 = .ok (.iload_n 2, 1) := by decide +kernel
theorem dX1_nextTo_14 : decode cX1_nextTo 14 = .ok (.isub, 1) := by decide +kernel
theorem dX1_nextTo_15 : decode cX1_nextTo 15 = .ok (.invokestatic 98, 3) := by decide +kernel
theorem dX1_nextTo_18 : decode cX1_nextTo 18 = .ok (.istore_n 3, 1) := by decide +kernel
theorem dX1_nextTo_19 : decode cX1_nextTo 19 = .ok (.iload_n 3, 1) := by decide +kernel
theorem dX1_nextTo_20 : decode cX1_nextTo 20 = .ok (.iconst 1, 1) := by decide +kernel
theorem dX1_nextTo_21 : decode cX1_nextTo 21 = .ok (.if_icmp .eq 13, 3) := by decide +kernel
theorem dX1_nextTo_24 : decode cX1_nextTo 24 = .ok (.iload_n 3, 1) := by decide +kernel
theorem dX1_nextTo_25 : decode cX1_nextTo 25 = .ok (.aload_n 0, 1) := by decide +kernel
theorem dX1_nextTo_26 : decode cX1_nextTo 26 = .ok (.getfield 59, 3) := by decide +kernel
theorem dX1_nextTo_29 : decode cX1_nextTo 29 = .ok (.iconst 1, 1) := by decide +kernel
theorem dX1_nextTo_30 : decode cX1_nextTo 30 = .ok (.isub, 1) := by decide +kernel
theorem dX1_nextTo_31 : decode cX1_nextTo 31 = .ok (.if_icmp .ne 7, 3) := by decide +kernel
theorem dX1_nextTo_34 : decode cX1_nextTo 34 = .ok (.iconst 1, 1) := by decide +kernel
theorem dX1_nextTo_35 : decode cX1_nextTo 35 = .ok (.goto 4, 3) := by decide +kernel
theorem dX1_nextTo_38 : decode cX1_nextTo 38 = .ok (.iconst 0, 1) := by decide +kernel
theorem dX1_nextTo_39 : decode cX1_nextTo 39 = .ok (.ireturn, 1) := by decide +kernel
set_option maxHeartbeats 4000000 in
set_option maxRecDepth 100000 in
theorem ctX1_nextTo {o : Int} {p1 : Int} {p2 : Int} {σ : jq_M} {res : Int} (ho : jq_com o) (h : X1_nextTo o p1 p2 σ = some res) : jq_MC jq_zX yX1_nextTo cX1_nextTo 4 (some .boolean) 1 40 [jR o, jI p1, jI p2] σ (some (jI res)) σ := by
  refine jq_met (own := RX1) (L0 := [(0, jR o), (1, jI p1), (2, jI p2)]) (by decide) rfl rfl rfl ?_
  intro X Γ hnl hlY hRT
  refine jq_use2 (P := fun r => jq_RT jq_zX X (some .boolean) (some (jI r)) σ) ?_ h hRT
  intro K0 hK0
  unfold X1_nextTo
  refine jq_iload_n Γ dX1_nextTo_0 rfl 1 rfl ?_
  refine jq_iconst Γ dX1_nextTo_1 rfl ?_
  refine jq_icmp_eq (tgt := 10) Γ dX1_nextTo_2 rfl ?_ ?_
  · refine jq_iconst Γ dX1_nextTo_10 rfl ?_
    exact jq_zreturn Γ (Or.inl rfl) dX1_nextTo_11 (hK0 _)
  · refine jq_iload_n Γ dX1_nextTo_5 rfl 2 rfl ?_
    refine jq_iconst Γ dX1_nextTo_6 rfl ?_
    refine jq_icmp_ne (tgt := 12) Γ dX1_nextTo_7 rfl ?_ ?_
    · refine jq_iload_n Γ dX1_nextTo_12 rfl 1 rfl ?_
      refine jq_iload_n Γ dX1_nextTo_13 rfl 2 rfl ?_
      refine jq_isub Γ dX1_nextTo_14 ?_
      refine jq_mabs Γ mw_RX1_98 mws_abs mwi mwc_abs rfl rfl dX1_nextTo_15 ?_
      refine jq_nmI (fun v1 => ?_)
      refine jq_istore_n (L' := [(3, jI v1), (0, jR o), (1, jI p1), (2, jI p2)]) Γ dX1_nextTo_18 rfl hnl rfl rfl ?_
      refine jq_iload_n Γ dX1_nextTo_19 rfl 0 rfl ?_
      refine jq_iconst Γ dX1_nextTo_20 rfl ?_
      refine jq_icmp_eq (tgt := 34) Γ dX1_nextTo_21 rfl ?_ ?_
      · refine jq_iconst Γ dX1_nextTo_34 rfl ?_
        refine jq_goto Γ (tgt := 39) dX1_nextTo_35 rfl ?_
        exact jq_zreturn Γ (Or.inr rfl) dX1_nextTo_39 (hK0 _)
      · refine jq_iload_n Γ dX1_nextTo_24 rfl 0 rfl ?_
        refine jq_aload_n Γ dX1_nextTo_25 rfl 1 rfl (jq_at_0 (at_com ho)) ?_
        refine jq_getI (J := 0) Γ (at_com ho) fl_RX1_59 rfl rfl dX1_nextTo_26 ?_
        refine jq_iconst Γ dX1_nextTo_29 rfl ?_
        refine jq_isub Γ dX1_nextTo_30 ?_
        refine jq_icmp_ne (tgt := 38) Γ dX1_nextTo_31 rfl ?_ ?_
        · refine jq_iconst Γ dX1_nextTo_38 rfl ?_
          exact jq_zreturn Γ (Or.inl rfl) dX1_nextTo_39 (hK0 _)
        · refine jq_iconst Γ dX1_nextTo_34 rfl ?_
          refine jq_goto Γ (tgt := 39) dX1_nextTo_35 rfl ?_
          exact jq_zreturn Γ (Or.inr rfl) dX1_nextTo_39 (hK0 _)
    · refine jq_iconst Γ dX1_nextTo_10 rfl ?_
      exact jq_zreturn Γ (Or.inl rfl) dX1_nextTo_11 (hK0 _)


theorem dX1_opposite_0 : decode cX1_opposite 0 = .ok (.iload_n 1, 1) := by decide +kernel
theorem dX1_opposite_1 : decode cX1_opposite 1 = .ok (.iconst (-1), 1) := by decide +kernel
theorem dX1_opposite_2 : decode cX1_opposite 2 = .ok (.if_icmp .eq 27, 3) := by decide +kernel
theorem dX1_opposite_5 : decode cX1_opposite 5 = .ok (.iload_n 2, 1) := by decide +kernel
theorem dX1_opposite_6 : decode cX1_opposite 6 = .ok (.iconst (-1), 1) := by decide +kernel
theorem dX1_opposite_7 : decode cX1_opposite 7 = .ok (.if_icmp .eq 22, 3) := by decide +kernel
theorem dX1_opposite_10 : decode cX1_opposite 10 = .ok (.iconst 2, 1) := by decide +kernel
theorem dX1_opposite_11 : decode cX1_opposite 11 = .ok (.iload_n 1, 1) := by decide +kernel
theorem dX1_opposite_12 : decode cX1_opposite 12 = .ok (.iload_n 2, 1) := by decide +kernel
theorem dX1_opposite_13 : decode cX1_opposite 13 = .ok (.isub, 1) := by decide +kernel
theorem dX1_opposite_14 : decode cX1_opposite 14 = .ok (.invokestatic 98, 3) := by decide +kernel
theorem dX1_opposite_17 : decode cX1_opposite 17 = .ok (.imul, 1) := by decide +kernel
theorem dX1_opposite_18 : decode cX1_opposite 18 = .ok (.aload_n 0, 1) := by decide +kernel
theorem dX1_opposite_19 : decode cX1_opposite 19 = .ok (.getfield 59, 3) := by decide +kernel
theorem dX1_opposite_22 : decode cX1_opposite 22 = .ok (.if_icmp .ne 7, 3) := by decide +kernel
theorem dX1_opposite_25 : decode cX1_opposite 25 = .ok (.iconst 1, 1) := by decide +kernel
theorem dX1_opposite_26 : decode cX1_opposite 26 = .ok (.goto 4, 3) := by decide +kernel
theorem dX1_opposite_29 : decode cX1_opposite 29 = .ok (.iconst 0, 1) := by decide +kernel
theorem dX1_opposite_30 : decode cX1_opposite 30 = .ok (.ireturn, 1) := by decide +kernel
set_option maxHeartbeats 4000000 in
set_option maxRecDepth 100000 in
theorem ctX1_opposite {o : Int} {p1 : Int} {p2 : Int} {σ : jq_M} {res : Int} (ho : jq_com o) (h : X1_opposite o p1 p2 σ = some res) : jq_MC jq_zX yX1_opposite cX1_opposite 3 (some .boolean) 1 40 [jR o, jI p1, jI p2] σ (some (jI res)) σ := by
  refine jq_met (own := RX1) (L0 := [(0, jR o), (1, jI p1), (2, jI p2)]) (by decide) rfl rfl rfl ?_
  intro X Γ hnl hlY hRT
  refine jq_use2 (P := fun r => jq_RT jq_zX X (some .boolean) (some (jI r)) σ) ?_ h hRT
  intro K0 hK0
  unfold X1_opposite
  refine jq_iload_n Γ dX1_opposite_0 rfl 1 rfl ?_
  refine jq_iconst Γ dX1_opposite_1 rfl ?_
  refine jq_icmp_eq (tgt := 29) Γ dX1_opposite_2 rfl ?_ ?_
  · refine jq_iconst Γ dX1_opposite_29 rfl ?_
    exact jq_zreturn Γ (Or.inl rfl) dX1_opposite_30 (hK0 _)
  · refine jq_iload_n Γ dX1_opposite_5 rfl 2 rfl ?_
    refine jq_iconst Γ dX1_opposite_6 rfl ?_
    refine jq_icmp_eq (tgt := 29) Γ dX1_opposite_7 rfl ?_ ?_
    · refine jq_iconst Γ dX1_opposite_29 rfl ?_
      exact jq_zreturn Γ (Or.inl rfl) dX1_opposite_30 (hK0 _)
    · refine jq_iconst Γ dX1_opposite_10 rfl ?_
      refine jq_iload_n Γ dX1_opposite_11 rfl 1 rfl ?_
      refine jq_iload_n Γ dX1_opposite_12 rfl 2 rfl ?_
      refine jq_isub Γ dX1_opposite_13 ?_
      refine jq_mabs Γ mw_RX1_98 mws_abs mwi mwc_abs rfl rfl dX1_opposite_14 ?_
      refine jq_imul Γ dX1_opposite_17 ?_
      refine jq_aload_n Γ dX1_opposite_18 rfl 0 rfl (jq_at_0 (at_com ho)) ?_
      refine jq_getI (J := 0) Γ (at_com ho) fl_RX1_59 rfl rfl dX1_opposite_19 ?_
      refine jq_icmp_ne (tgt := 29) Γ dX1_opposite_22 rfl ?_ ?_
      · refine jq_iconst Γ dX1_opposite_29 rfl ?_
        exact jq_zreturn Γ (Or.inl rfl) dX1_opposite_30 (hK0 _)
      · refine jq_iconst Γ dX1_opposite_25 rfl ?_
        refine jq_goto Γ (tgt := 30) dX1_opposite_26 rfl ?_
        exact jq_zreturn Γ (Or.inr rfl) dX1_opposite_30 (hK0 _)


theorem dX1_isMet_0 : decode cX1_isMet 0 = .ok (.aload_n 2, 1) := by decide +kernel
theorem dX1_isMet_1 : decode cX1_isMet 1 = .ok (.aload_n 0, 1) := by decide +kernel
theorem dX1_isMet_2 : decode cX1_isMet 2 = .ok (.getfield 22, 3) := by decide +kernel
theorem dX1_isMet_5 : decode cX1_isMet 5 = .ok (.iload_n 1, 1) := by decide +kernel
theorem dX1_isMet_6 : decode cX1_isMet 6 = .ok (.iaload, 1) := by decide +kernel
theorem dX1_isMet_7 : decode cX1_isMet 7 = .ok (.iaload, 1) := by decide +kernel
theorem dX1_isMet_8 : decode cX1_isMet 8 = .ok (.istore_n 3, 1) := by decide +kernel
theorem dX1_isMet_9 : decode cX1_isMet 9 = .ok (.iload_n 3, 1) := by decide +kernel
theorem dX1_isMet_10 : decode cX1_isMet 10 = .ok (.iconst (-1), 1) := by decide +kernel
theorem dX1_isMet_11 : decode cX1_isMet 11 = .ok (.if_icmp .ne 5, 3) := by decide +kernel
theorem dX1_isMet_14 : decode cX1_isMet 14 = .ok (.iconst 0, 1) := by decide +kernel
theorem dX1_isMet_15 : decode cX1_isMet 15 = .ok (.ireturn, 1) := by decide +kernel
theorem dX1_isMet_16 : decode cX1_isMet 16 = .ok (.aload_n 0, 1) := by decide +kernel
theorem dX1_isMet_17 : decode cX1_isMet 17 = .ok (.getfield 25, 3) := by decide +kernel
theorem dX1_isMet_20 : decode cX1_isMet 20 = .ok (.iload_n 1, 1) := by decide +kernel
theorem dX1_isMet_21 : decode cX1_isMet 21 = .ok (.iaload, 1) := by decide +kernel
theorem dX1_isMet_22 : decode cX1_isMet 22 = .ok (.iconst 2, 1) := by decide +kernel
theorem dX1_isMet_23 : decode cX1_isMet 23 = .ok (.if_icmp .ne 12, 3) := by decide +kernel
theorem dX1_isMet_26 : decode cX1_isMet 26 = .ok (.aload_n 0, 1) := by decide +kernel
theorem dX1_isMet_27 : decode cX1_isMet 27 = .ok (.getfield 63, 3) := by decide +kernel
theorem dX1_isMet_30 : decode cX1_isMet 30 = .ok (.iload_n 3, 1) := by decide +kernel
theorem dX1_isMet_31 : decode cX1_isMet 31 = .ok (.invokestatic 94, 3) := by decide +kernel
theorem dX1_isMet_34 : decode cX1_isMet 34 = .ok (.ireturn, 1) := by decide +kernel
theorem dX1_isMet_35 : decode cX1_isMet 35 = .ok (.aload_n 2, 1) := by decide +kernel
theorem dX1_isMet_36 : decode cX1_isMet 36 = .ok (.aload_n 0, 1) := by decide +kernel
theorem dX1_isMet_37 : decode cX1_isMet 37 = .ok (.getfield 28, 3) := by decide +kernel
theorem dX1_isMet_40 : decode cX1_isMet 40 = .ok (.iload_n 1, 1) := by decide +kernel
theorem dX1_isMet_41 : decode cX1_isMet 41 = .ok (.iaload, 1) := by decide +kernel
theorem dX1_isMet_42 : decode cX1_isMet 42 = .ok (.iaload, 1) := by decide +kernel
theorem dX1_isMet_43 : decode cX1_isMet 43 = .ok (.istore 4, 2) := by decide +kernel
theorem dX1_isMet_45 : decode cX1_isMet 45 = .ok (.aload_n 0, 1) := by decide +kernel
theorem dX1_isMet_46 : decode cX1_isMet 46 = .ok (.getfield 25, 3) := by decide +kernel
theorem dX1_isMet_49 : decode cX1_isMet 49 = .ok (.iload_n 1, 1) := by decide +kernel
theorem dX1_isMet_50 : decode cX1_isMet 50 = .ok (.iaload, 1) := by decide +kernel
theorem dX1_isMet_51 : decode cX1_isMet 51 = .ok (.ifCond .ne 13, 3) := by decide +kernel
theorem dX1_isMet_54 : decode cX1_isMet 54 = .ok (.aload_n 0, 1) := by decide +kernel
theorem dX1_isMet_55 : decode cX1_isMet 55 = .ok (.iload_n 3, 1) := by decide +kernel
theorem dX1_isMet_56 : decode cX1_isMet 56 = .ok (.iload 4, 2) := by decide +kernel
theorem dX1_isMet_58 : decode cX1_isMet 58 = .ok (.invokevirtual 108, 3) := by decide +kernel
theorem dX1_isMet_61 : decode cX1_isMet 61 = .ok (.goto 10, 3) := by decide +kernel
theorem dX1_isMet_64 : decode cX1_isMet 64 = .ok (.aload_n 0, 1) := by decide +kernel
theorem dX1_isMet_65 : decode cX1_isMet 65 = .ok (.iload_n 3, 1) := by decide +kernel
theorem dX1_isMet_66 : decode cX1_isMet 66 = .ok (.iload 4, 2) := by decide +kernel
theorem dX1_isMet_68 : decode cX1_isMet 68 = .ok (.invokevirtual 111, 3) := by decide +kernel
theorem dX1_isMet_71 : decode cX1_isMet 71 = .ok (.ireturn, 1) := by decide +kernel
set_option maxHeartbeats 4000000 in
set_option maxRecDepth 100000 in
theorem ctX1_isMet {o : Int} {p1 : Int} {p2 : Int} {σ : jq_M} {res : Int} (ho : jq_com o) (hp2 : jq_row p2) (h : X1_isMet o p1 p2 σ = some res) : jq_MC jq_zX yX1_isMet cX1_isMet 5 (some .boolean) 2 63 [jR o, jI p1, jR p2] σ (some (jI res)) σ := by
  refine jq_met (own := RX1) (L0 := [(0, jR o), (1, jI p1), (2, jR p2)]) (by decide) rfl rfl rfl ?_
  intro X Γ hnl hlY hRT
  refine jq_use2 (P := fun r => jq_RT jq_zX X (some .boolean) (some (jI r)) σ) ?_ h hRT
  intro K0 hK0
  unfold X1_isMet
  refine jq_aload_n Γ dX1_isMet_0 rfl 2 rfl (jq_at_0 (at_row hp2)) ?_
  refine jq_aload_n Γ dX1_isMet_1 rfl 0 rfl (jq_at_0 (at_com ho)) ?_
  refine jq_getR (v := (o + 4)) Γ hlY (at_com ho) fl_RX1_22 rfl rfl (ly_X1_whose ho) dX1_isMet_2 ?_
  refine jq_iload_n Γ dX1_isMet_5 rfl 1 rfl ?_
  refine jq_iald Γ (at_com_4 ho) rfl dX1_isMet_6 (fun v1 => ?_)
  refine jq_iald Γ (at_row hp2) rfl dX1_isMet_7 (fun v2 => ?_)
  refine jq_istore_n (L' := [(3, jI v2), (0, jR o), (1, jI p1), (2, jR p2)]) Γ dX1_isMet_8 rfl hnl rfl rfl ?_
  refine jq_iload_n Γ dX1_isMet_9 rfl 0 rfl ?_
  refine jq_iconst Γ dX1_isMet_10 rfl ?_
  refine jq_icmp_ne (tgt := 16) Γ dX1_isMet_11 rfl ?_ ?_
  · refine jq_aload_n Γ dX1_isMet_16 rfl 1 rfl (jq_at_0 (at_com ho)) ?_
    refine jq_getR (v := (o + 5)) Γ hlY (at_com ho) fl_RX1_25 rfl rfl (ly_X1_kinds ho) dX1_isMet_17 ?_
    refine jq_iload_n Γ dX1_isMet_20 rfl 2 rfl ?_
    refine jq_iald Γ (at_com_5 ho) rfl dX1_isMet_21 (fun v3 => ?_)
    refine jq_iconst Γ dX1_isMet_22 rfl ?_
    refine jq_icmp_ne (tgt := 35) Γ dX1_isMet_23 rfl ?_ ?_
    · refine jq_aload_n Γ dX1_isMet_35 rfl 3 rfl (jq_at_0 (at_row hp2)) ?_
      refine jq_aload_n Γ dX1_isMet_36 rfl 1 rfl (jq_at_0 (at_com ho)) ?_
      refine jq_getR (v := (o + 6)) Γ hlY (at_com ho) fl_RX1_28 rfl rfl (ly_X1_whom ho) dX1_isMet_37 ?_
      refine jq_iload_n Γ dX1_isMet_40 rfl 2 rfl ?_
      refine jq_iald Γ (at_com_6 ho) rfl dX1_isMet_41 (fun v4 => ?_)
      refine jq_iald Γ (at_row hp2) rfl dX1_isMet_42 (fun v5 => ?_)
      refine jq_istore (L' := [(4, jI v5), (3, jI v2), (0, jR o), (1, jI p1), (2, jR p2)]) Γ dX1_isMet_43 hnl rfl rfl ?_
      refine jq_aload_n Γ dX1_isMet_45 rfl 2 rfl (jq_at_0 (at_com ho)) ?_
      refine jq_getR (v := (o + 5)) Γ hlY (at_com ho) fl_RX1_25 rfl rfl (ly_X1_kinds ho) dX1_isMet_46 ?_
      refine jq_iload_n Γ dX1_isMet_49 rfl 3 rfl ?_
      refine jq_iald Γ (at_com_5 ho) rfl dX1_isMet_50 (fun v6 => ?_)
      refine jq_if_ne (tgt := 64) Γ dX1_isMet_51 rfl ?_ ?_
      · refine jq_aload_n Γ dX1_isMet_64 rfl 2 rfl (jq_at_0 (at_com ho)) ?_
        refine jq_iload_n Γ dX1_isMet_65 rfl 1 rfl ?_
        refine jq_iload Γ dX1_isMet_66 0 rfl ?_
        refine jq_cpZ (jq_virt (avs := [jI v2, jI v5]) (st := []) Γ hlY rfl ml_RX1_111 rfl (at_com ho) rfl rfl rfl rfl rfl dX1_isMet_68) rfl (fun r h => ctX1_opposite ho h) (fun v7 hz8 => ?_)
        exact jq_zreturn Γ (hz8) dX1_isMet_71 (hK0 _)
      · refine jq_aload_n Γ dX1_isMet_54 rfl 2 rfl (jq_at_0 (at_com ho)) ?_
        refine jq_iload_n Γ dX1_isMet_55 rfl 1 rfl ?_
        refine jq_iload Γ dX1_isMet_56 0 rfl ?_
        refine jq_cpZ (jq_virt (avs := [jI v2, jI v5]) (st := []) Γ hlY rfl ml_RX1_108 rfl (at_com ho) rfl rfl rfl rfl rfl dX1_isMet_58) rfl (fun r h => ctX1_nextTo ho h) (fun v9 hz10 => ?_)
        refine jq_goto Γ (tgt := 71) dX1_isMet_61 rfl ?_
        exact jq_zreturn Γ (hz10) dX1_isMet_71 (hK0 _)
    · refine jq_aload_n Γ dX1_isMet_26 rfl 1 rfl (jq_at_0 (at_com ho)) ?_
      refine jq_getI (J := 1) Γ (at_com ho) fl_RX1_63 rfl rfl dX1_isMet_27 ?_
      refine jq_iload_n Γ dX1_isMet_30 rfl 0 rfl ?_
      refine jq_cpZ (jq_nest (avs := [jI (σ o 1), jI v2]) (st := []) Γ hlY rfl ml_RX1_94 rfl rfl rfl rfl rfl dX1_isMet_31) rfl (fun r h => ctX10_holds h) (fun v11 hz12 => ?_)
      exact jq_zreturn Γ (hz12) dX1_isMet_34 (hK0 _)
  · refine jq_iconst Γ dX1_isMet_14 rfl ?_
    exact jq_zreturn Γ (Or.inl rfl) dX1_isMet_15 (hK0 _)


theorem dX1_weigh_0 : decode cX1_weigh 0 = .ok (.iconst 0, 1) := by decide +kernel
theorem dX1_weigh_1 : decode cX1_weigh 1 = .ok (.istore_n 2, 1) := by decide +kernel
theorem dX1_weigh_2 : decode cX1_weigh 2 = .ok (.iload_n 2, 1) := by decide +kernel
theorem dX1_weigh_3 : decode cX1_weigh 3 = .ok (.aload_n 0, 1) := by decide +kernel
theorem dX1_weigh_4 : decode cX1_weigh 4 = .ok (.getfield 66, 3) := by decide +kernel
theorem dX1_weigh_7 : decode cX1_weigh 7 = .ok (.if_icmp .ge 16, 3) := by decide +kernel
theorem dX1_weigh_10 : decode cX1_weigh 10 = .ok (.aload_n 0, 1) := by decide +kernel
theorem dX1_weigh_11 : decode cX1_weigh 11 = .ok (.getfield 56, 3) := by decide +kernel
theorem dX1_weigh_14 : decode cX1_weigh 14 = .ok (.iload_n 2, 1) := by decide +kernel
theorem dX1_weigh_15 : decode cX1_weigh 15 = .ok (.iconst 0, 1) := by decide +kernel
theorem dX1_weigh_16 : decode cX1_weigh 16 = .ok (.iastore, 1) := by decide +kernel
theorem dX1_weigh_17 : decode cX1_weigh 17 = .ok (.iinc 2 1, 3) := by decide +kernel
theorem dX1_weigh_20 : decode cX1_weigh 20 = .ok (.goto (-18), 3) := by decide +kernel
theorem dX1_weigh_23 : decode cX1_weigh 23 = .ok (.iconst 0, 1) := by decide +kernel
theorem dX1_weigh_24 : decode cX1_weigh 24 = .ok (.istore_n 2, 1) := by decide +kernel
theorem dX1_weigh_25 : decode cX1_weigh 25 = .ok (.iload_n 2, 1) := by decide +kernel
theorem dX1_weigh_26 : decode cX1_weigh 26 = .ok (.aload_n 0, 1) := by decide +kernel
theorem dX1_weigh_27 : decode cX1_weigh 27 = .ok (.getfield 69, 3) := by decide +kernel
theorem dX1_weigh_30 : decode cX1_weigh 30 = .ok (.if_icmp .ge 38, 3) := by decide +kernel
theorem dX1_weigh_33 : decode cX1_weigh 33 = .ok (.aload_n 0, 1) := by decide +kernel
theorem dX1_weigh_34 : decode cX1_weigh 34 = .ok (.iload_n 2, 1) := by decide +kernel
theorem dX1_weigh_35 : decode cX1_weigh 35 = .ok (.aload_n 1, 1) := by decide +kernel
theorem dX1_weigh_36 : decode cX1_weigh 36 = .ok (.invokevirtual 114, 3) := by decide +kernel
theorem dX1_weigh_39 : decode cX1_weigh 39 = .ok (.ifCond .eq 23, 3) := by decide +kernel
theorem dX1_weigh_42 : decode cX1_weigh 42 = .ok (.aload_n 0, 1) := by decide +kernel
theorem dX1_weigh_43 : decode cX1_weigh 43 = .ok (.getfield 56, 3) := by decide +kernel
theorem dX1_weigh_46 : decode cX1_weigh 46 = .ok (.aload_n 0, 1) := by decide +kernel
theorem dX1_weigh_47 : decode cX1_weigh 47 = .ok (.getfield 22, 3) := by decide +kernel
theorem dX1_weigh_50 : decode cX1_weigh 50 = .ok (.iload_n 2, 1) := by decide +kernel
theorem dX1_weigh_51 : decode cX1_weigh 51 = .ok (.iaload, 1) := by decide +kernel
theorem dX1_weigh_52 : decode cX1_weigh 52 = .ok (.dup2, 1) := by decide +kernel
theorem dX1_weigh_53 : decode cX1_weigh 53 = .ok (.iaload, 1) := by decide +kernel
theorem dX1_weigh_54 : decode cX1_weigh 54 = .ok (.aload_n 0, 1) := by decide +kernel
theorem dX1_weigh_55 : decode cX1_weigh 55 = .ok (.getfield 31, 3) := by decide +kernel
theorem dX1_weigh_58 : decode cX1_weigh 58 = .ok (.iload_n 2, 1) := by decide +kernel
theorem dX1_weigh_59 : decode cX1_weigh 59 = .ok (.iaload, 1) := by decide +kernel
theorem dX1_weigh_60 : decode cX1_weigh 60 = .ok (.iadd, 1) := by decide +kernel
theorem dX1_weigh_61 : decode cX1_weigh 61 = .ok (.iastore, 1) := by decide +kernel
theorem dX1_weigh_62 : decode cX1_weigh 62 = .ok (.iinc 2 1, 3) := by decide +kernel
theorem dX1_weigh_65 : decode cX1_weigh 65 = .ok (.goto (-40), 3) := by decide +kernel
theorem dX1_weigh_68 : decode cX1_weigh 68 = .ok (.return_, 1) := by decide +kernel
set_option maxHeartbeats 4000000 in
set_option maxRecDepth 100000 in
theorem ctX1_weigh {o : Int} {p1 : Int} {σ : jq_M} {σ' : jq_M} (ho : jq_com o) (hp1 : jq_row p1) (h : X1_weigh o p1 σ = some σ') : jq_MC jq_zX yX1_weigh cX1_weigh 3 none 3 87 [jR o, jR p1] σ none σ' := by
  refine jq_met (own := RX1) (L0 := [(0, jR o), (1, jR p1)]) (by decide) rfl rfl rfl ?_
  intro X Γ hnl hlY hRT
  refine jq_use2 (P := fun r => jq_RT jq_zX X none none r) ?_ h hRT
  intro K0 hK0
  unfold X1_weigh
  refine jq_iconst Γ dX1_weigh_0 rfl ?_
  refine jq_istore_n (L' := [(2, jI 0), (0, jR o), (1, jR p1)]) Γ dX1_weigh_1 rfl hnl rfl rfl ?_
  refine jq_sub Γ (L' := [(0, jR o), (1, jR p1), (2, jI 0)]) [1, 2, 0] rfl ?_
  refine jq_loop2 (C := fun (t1 : Int × jq_M) => jq_V jq_zX X (jq_zN jq_zX) t1.2 2 [(0, jR o), (1, jR p1), (2, jI t1.1)] []) (KX := fun (e4 : jq_M) => jq_V jq_zX X (jq_zN jq_zX) e4 23 [(0, jR o), (1, jR p1)] []) ?_ ?_ (0, σ)
  · intro K2_t1 hCt1 hXt1 t1
    unfold X1_weigh_b2
    refine jq_iload_n Γ dX1_weigh_2 rfl 2 rfl ?_
    refine jq_aload_n Γ dX1_weigh_3 rfl 0 rfl (jq_at_0 (at_com ho)) ?_
    refine jq_getI (J := 2) Γ (at_com ho) fl_RX1_66 rfl rfl dX1_weigh_4 ?_
    refine jq_icmp_ge (tgt := 23) Γ dX1_weigh_7 rfl ?_ ?_
    · refine jq_sub Γ (L' := [(0, jR o), (1, jR p1)]) [0, 1] rfl ?_
      exact jq_done (hXt1 t1.2)
    · refine jq_aload_n Γ dX1_weigh_10 rfl 0 rfl (jq_at_0 (at_com ho)) ?_
      refine jq_getR (v := (o + 19)) Γ hlY (at_com ho) fl_RX1_56 rfl rfl (ly_X1_scales ho) dX1_weigh_11 ?_
      refine jq_iload_n Γ dX1_weigh_14 rfl 2 rfl ?_
      refine jq_iconst Γ dX1_weigh_15 rfl ?_
      refine jq_iast Γ (at_com_19 ho) rfl dX1_weigh_16 (fun s2 => ?_)
      refine jq_iincN (L' := fun v3 => [(2, jI v3), (0, jR o), (1, jR p1)]) Γ dX1_weigh_17 2 rfl hnl rfl (fun _ => rfl) (fun v3 => ?_)
      refine jq_goto Γ (tgt := 2) dX1_weigh_20 rfl ?_
      refine jq_sub Γ (L' := [(0, jR o), (1, jR p1), (2, jI v3)]) [1, 2, 0] rfl ?_
      exact jq_done (hCt1 (v3, s2))
  · intro e4
    refine jq_iconst Γ dX1_weigh_23 rfl ?_
    refine jq_istore_n (L' := [(2, jI 0), (0, jR o), (1, jR p1)]) Γ dX1_weigh_24 rfl hnl rfl rfl ?_
    refine jq_sub Γ (L' := [(0, jR o), (1, jR p1), (2, jI 0)]) [1, 2, 0] rfl ?_
    refine jq_loop2 (C := fun (t5 : Int × jq_M) => jq_V jq_zX X (jq_zN jq_zX) t5.2 25 [(0, jR o), (1, jR p1), (2, jI t5.1)] []) (KX := fun (e14 : jq_M) => jq_V jq_zX X (jq_zN jq_zX) e14 68 [] []) ?_ ?_ (0, e4)
    · intro K25_t5 hCt5 hXt5 t5
      unfold X1_weigh_b25
      refine jq_iload_n Γ dX1_weigh_25 rfl 2 rfl ?_
      refine jq_aload_n Γ dX1_weigh_26 rfl 0 rfl (jq_at_0 (at_com ho)) ?_
      refine jq_getI (J := 3) Γ (at_com ho) fl_RX1_69 rfl rfl dX1_weigh_27 ?_
      refine jq_icmp_ge (tgt := 68) Γ dX1_weigh_30 rfl ?_ ?_
      · refine jq_sub Γ (L' := []) [] rfl ?_
        exact jq_done (hXt5 t5.2)
      · refine jq_aload_n Γ dX1_weigh_33 rfl 0 rfl (jq_at_0 (at_com ho)) ?_
        refine jq_iload_n Γ dX1_weigh_34 rfl 2 rfl ?_
        refine jq_aload_n Γ dX1_weigh_35 rfl 1 rfl (jq_at_0 (at_row hp1)) ?_
        refine jq_cpZ (jq_virt (avs := [jI t5.1, jR p1]) (st := []) Γ hlY rfl ml_RX1_114 rfl (at_com ho) rfl rfl rfl rfl rfl dX1_weigh_36) rfl (fun r h => ctX1_isMet ho hp1 h) (fun v6 hz7 => ?_)
        refine jq_if_eq (tgt := 62) Γ dX1_weigh_39 rfl ?_ ?_
        · refine jq_iincN (L' := fun v8 => [(2, jI v8), (0, jR o), (1, jR p1)]) Γ dX1_weigh_62 2 rfl hnl rfl (fun _ => rfl) (fun v8 => ?_)
          refine jq_goto Γ (tgt := 25) dX1_weigh_65 rfl ?_
          refine jq_sub Γ (L' := [(0, jR o), (1, jR p1), (2, jI v8)]) [1, 2, 0] rfl ?_
          exact jq_done (hCt5 (v8, t5.2))
        · refine jq_aload_n Γ dX1_weigh_42 rfl 0 rfl (jq_at_0 (at_com ho)) ?_
          refine jq_getR (v := (o + 19)) Γ hlY (at_com ho) fl_RX1_56 rfl rfl (ly_X1_scales ho) dX1_weigh_43 ?_
          refine jq_aload_n Γ dX1_weigh_46 rfl 0 rfl (jq_at_0 (at_com ho)) ?_
          refine jq_getR (v := (o + 4)) Γ hlY (at_com ho) fl_RX1_22 rfl rfl (ly_X1_whose ho) dX1_weigh_47 ?_
          refine jq_iload_n Γ dX1_weigh_50 rfl 2 rfl ?_
          refine jq_iald Γ (at_com_4 ho) rfl dX1_weigh_51 (fun v9 => ?_)
          refine jq_dup2 Γ dX1_weigh_52 rfl rfl ?_
          refine jq_iald Γ (at_com_19 ho) rfl dX1_weigh_53 (fun v10 => ?_)
          refine jq_aload_n Γ dX1_weigh_54 rfl 0 rfl (jq_at_0 (at_com ho)) ?_
          refine jq_getR (v := (o + 7)) Γ hlY (at_com ho) fl_RX1_31 rfl rfl (ly_X1_worths ho) dX1_weigh_55 ?_
          refine jq_iload_n Γ dX1_weigh_58 rfl 2 rfl ?_
          refine jq_iald Γ (at_com_7 ho) rfl dX1_weigh_59 (fun v11 => ?_)
          refine jq_iadd Γ dX1_weigh_60 ?_
          refine jq_iast Γ (at_com_19 ho) rfl dX1_weigh_61 (fun s12 => ?_)
          refine jq_iincN (L' := fun v13 => [(2, jI v13), (0, jR o), (1, jR p1)]) Γ dX1_weigh_62 2 rfl hnl rfl (fun _ => rfl) (fun v13 => ?_)
          refine jq_goto Γ (tgt := 25) dX1_weigh_65 rfl ?_
          refine jq_sub Γ (L' := [(0, jR o), (1, jR p1), (2, jI v13)]) [1, 2, 0] rfl ?_
          exact jq_done (hCt5 (v13, s12))
    · intro e14
      exact jq_vreturn Γ dX1_weigh_68 (hK0 _)


theorem dX1_signersOf_0 : decode cX1_signersOf 0 = .ok (.aload_n 0, 1) := by decide +kernel
theorem dX1_signersOf_1 : decode cX1_signersOf 1 = .ok (.aload_n 1, 1) := by decide +kernel
theorem dX1_signersOf_2 : decode cX1_signersOf 2 = .ok (.invokevirtual 121, 3) := by decide +kernel
theorem dX1_signersOf_5 : decode cX1_signersOf 5 = .ok (.iconst 0, 1) := by decide +kernel
theorem dX1_signersOf_6 : decode cX1_signersOf 6 = .ok (.istore_n 2, 1) := by decide +kernel
theorem dX1_signersOf_7 : decode cX1_signersOf 7 = .ok (.iconst 0, 1) := by decide +kernel
theorem dX1_signersOf_8 : decode cX1_signersOf 8 = .ok (.istore_n 3, 1) := by decide +kernel
theorem dX1_signersOf_9 : decode cX1_signersOf 9 = .ok (.iload_n 3, 1) := by decide +kernel
theorem dX1_signersOf_10 : decode cX1_signersOf 10 = .ok (.aload_n 0, 1) := by decide +kernel
theorem dX1_signersOf_11 : decode cX1_signersOf 11 = .ok (.getfield 66, 3) := by decide +kernel
theorem dX1_signersOf_14 : decode cX1_signersOf 14 = .ok (.if_icmp .ge 30, 3) := by decide +kernel
theorem dX1_signersOf_17 : decode cX1_signersOf 17 = .ok (.aload_n 0, 1) := by decide +kernel
theorem dX1_signersOf_18 : decode cX1_signersOf 18 = .ok (.getfield 56, 3) := by decide +kernel
theorem dX1_signersOf_21 : decode cX1_signersOf 21 = .ok (.iload_n 3, 1) := by decide +kernel
theorem dX1_signersOf_22 : decode cX1_signersOf 22 = .ok (.iaload, 1) := by decide +kernel
theorem dX1_signersOf_23 : decode cX1_signersOf 23 = .ok (.aload_n 0, 1) := by decide +kernel
theorem dX1_signersOf_24 : decode cX1_signersOf 24 = .ok (.getfield 15, 3) := by decide +kernel
theorem dX1_signersOf_27 : decode cX1_signersOf 27 = .ok (.iload_n 3, 1) := by decide +kernel
theorem dX1_signersOf_28 : decode cX1_signersOf 28 = .ok (.iaload, 1) := by decide +kernel
theorem dX1_signersOf_29 : decode cX1_signersOf 29 = .ok (.if_icmp .lt 9, 3) := by decide +kernel
theorem dX1_signersOf_32 : decode cX1_signersOf 32 = .ok (.iload_n 2, 1) := by decide +kernel
theorem dX1_signersOf_33 : decode cX1_signersOf 33 = .ok (.iconst 1, 1) := by decide +kernel
theorem dX1_signersOf_34 : decode cX1_signersOf 34 = .ok (.iload_n 3, 1) := by decide +kernel
theorem dX1_signersOf_35 : decode cX1_signersOf 35 = .ok (.ishl, 1) := by decide +kernel
theorem dX1_signersOf_36 : decode cX1_signersOf 36 = .ok (.ior, 1) := by decide +kernel
theorem dX1_signersOf_37 : decode cX1_signersOf 37 = .ok (.istore_n 2, 1) := by decide +kernel
theorem dX1_signersOf_38 : decode cX1_signersOf 38 = .ok (.iinc 3 1, 3) := by decide +kernel
theorem dX1_signersOf_41 : decode cX1_signersOf 41 = .ok (.goto (-32), 3) := by decide +kernel
theorem dX1_signersOf_44 : decode cX1_signersOf 44 = .ok (.iload_n 2, 1) := by decide +kernel
theorem dX1_signersOf_45 : decode cX1_signersOf 45 = .ok (.ireturn, 1) := by decide +kernel
set_option maxHeartbeats 4000000 in
set_option maxRecDepth 100000 in
theorem ctX1_signersOf {o : Int} {p1 : Int} {σ : jq_M} {res : Int} {σ' : jq_M} (ho : jq_com o) (hp1 : jq_row p1) (h : X1_signersOf o p1 σ = some (res, σ')) : jq_MC jq_zX yX1_signersOf cX1_signersOf 4 (some .int) 4 109 [jR o, jR p1] σ (some (jI res)) σ' := by
  refine jq_met (own := RX1) (L0 := [(0, jR o), (1, jR p1)]) (by decide) rfl rfl rfl ?_
  intro X Γ hnl hlY hRT
  refine jq_use2 (P := fun r => jq_RT jq_zX X (some .int) (some (jI r.1)) r.2) ?_ h hRT
  intro K0 hK0
  unfold X1_signersOf
  refine jq_aload_n Γ dX1_signersOf_0 rfl 0 rfl (jq_at_0 (at_com ho)) ?_
  refine jq_aload_n Γ dX1_signersOf_1 rfl 1 rfl (jq_at_0 (at_row hp1)) ?_
  refine jq_cwV (jq_virt (avs := [jR p1]) (st := []) Γ hlY rfl ml_RX1_121 rfl (at_com ho) rfl rfl rfl rfl rfl dX1_signersOf_2) (fun σ' h => ctX1_weigh ho hp1 h) (fun s1 => ?_)
  refine jq_iconst Γ dX1_signersOf_5 rfl ?_
  refine jq_istore_n (L' := [(2, jI 0), (0, jR o), (1, jR p1)]) Γ dX1_signersOf_6 rfl hnl rfl rfl ?_
  refine jq_iconst Γ dX1_signersOf_7 rfl ?_
  refine jq_istore_n (L' := [(3, jI 0), (2, jI 0), (0, jR o), (1, jR p1)]) Γ dX1_signersOf_8 rfl hnl rfl rfl ?_
  refine jq_sub Γ (L' := [(0, jR o), (2, jI 0), (3, jI 0)]) [2, 1, 0] rfl ?_
  refine jq_loop2 (C := fun (t2 : Int × Int) => jq_V jq_zX X (jq_zN jq_zX) s1 9 [(0, jR o), (2, jI t2.1), (3, jI t2.2)] []) (KX := fun (e8 : Int) => jq_V jq_zX X (jq_zN jq_zX) s1 44 [(2, jI e8)] []) ?_ ?_ (0, 0)
  · intro K9_t2 hCt2 hXt2 t2
    unfold X1_signersOf_b9
    refine jq_iload_n Γ dX1_signersOf_9 rfl 2 rfl ?_
    refine jq_aload_n Γ dX1_signersOf_10 rfl 0 rfl (jq_at_0 (at_com ho)) ?_
    refine jq_getI (J := 2) Γ (at_com ho) fl_RX1_66 rfl rfl dX1_signersOf_11 ?_
    refine jq_icmp_ge (tgt := 44) Γ dX1_signersOf_14 rfl ?_ ?_
    · refine jq_sub Γ (L' := [(2, jI t2.1)]) [1] rfl ?_
      exact jq_done (hXt2 t2.1)
    · refine jq_aload_n Γ dX1_signersOf_17 rfl 0 rfl (jq_at_0 (at_com ho)) ?_
      refine jq_getR (v := (o + 19)) Γ hlY (at_com ho) fl_RX1_56 rfl rfl (ly_X1_scales ho) dX1_signersOf_18 ?_
      refine jq_iload_n Γ dX1_signersOf_21 rfl 2 rfl ?_
      refine jq_iald Γ (at_com_19 ho) rfl dX1_signersOf_22 (fun v3 => ?_)
      refine jq_aload_n Γ dX1_signersOf_23 rfl 0 rfl (jq_at_0 (at_com ho)) ?_
      refine jq_getR (v := (o + 2)) Γ hlY (at_com ho) fl_RX1_15 rfl rfl (ly_X1_leasts ho) dX1_signersOf_24 ?_
      refine jq_iload_n Γ dX1_signersOf_27 rfl 2 rfl ?_
      refine jq_iald Γ (at_com_2 ho) rfl dX1_signersOf_28 (fun v4 => ?_)
      refine jq_icmp_lt (tgt := 38) Γ dX1_signersOf_29 rfl ?_ ?_
      · refine jq_iincN (L' := fun v5 => [(3, jI v5), (0, jR o), (2, jI t2.1)]) Γ dX1_signersOf_38 2 rfl hnl rfl (fun _ => rfl) (fun v5 => ?_)
        refine jq_goto Γ (tgt := 9) dX1_signersOf_41 rfl ?_
        refine jq_sub Γ (L' := [(0, jR o), (2, jI t2.1), (3, jI v5)]) [1, 2, 0] rfl ?_
        exact jq_done (hCt2 (t2.1, v5))
      · refine jq_iload_n Γ dX1_signersOf_32 rfl 1 rfl ?_
        refine jq_iconst Γ dX1_signersOf_33 rfl ?_
        refine jq_iload_n Γ dX1_signersOf_34 rfl 2 rfl ?_
        refine jq_ishl Γ dX1_signersOf_35 ?_
        refine jq_ior Γ dX1_signersOf_36 ?_
        refine jq_nmI (fun v6 => ?_)
        refine jq_istore_n (L' := [(2, jI v6), (0, jR o), (3, jI t2.2)]) Γ dX1_signersOf_37 rfl hnl rfl rfl ?_
        refine jq_iincN (L' := fun v7 => [(3, jI v7), (2, jI v6), (0, jR o)]) Γ dX1_signersOf_38 2 rfl hnl rfl (fun _ => rfl) (fun v7 => ?_)
        refine jq_goto Γ (tgt := 9) dX1_signersOf_41 rfl ?_
        refine jq_sub Γ (L' := [(0, jR o), (2, jI v6), (3, jI v7)]) [2, 1, 0] rfl ?_
        exact jq_done (hCt2 (v6, v7))
  · intro e8
    refine jq_iload_n Γ dX1_signersOf_44 rfl 0 rfl ?_
    exact jq_ireturn Γ dX1_signersOf_45 (hK0 _)


theorem dX1_isReady_0 : decode cX1_isReady 0 = .ok (.aload_n 0, 1) := by decide +kernel
theorem dX1_isReady_1 : decode cX1_isReady 1 = .ok (.getfield 75, 3) := by decide +kernel
theorem dX1_isReady_4 : decode cX1_isReady 4 = .ok (.iconst 1, 1) := by decide +kernel
theorem dX1_isReady_5 : decode cX1_isReady 5 = .ok (.iload_n 1, 1) := by decide +kernel
theorem dX1_isReady_6 : decode cX1_isReady 6 = .ok (.ishl, 1) := by decide +kernel
theorem dX1_isReady_7 : decode cX1_isReady 7 = .ok (.aload_n 0, 1) := by decide +kernel
theorem dX1_isReady_8 : decode cX1_isReady 8 = .ok (.getfield 43, 3) := by decide +kernel
theorem dX1_isReady_11 : decode cX1_isReady 11 = .ok (.iload_n 1, 1) := by decide +kernel
theorem dX1_isReady_12 : decode cX1_isReady 12 = .ok (.iaload, 1) := by decide +kernel
theorem dX1_isReady_13 : decode cX1_isReady 13 = .ok (.ior, 1) := by decide +kernel
theorem dX1_isReady_14 : decode cX1_isReady 14 = .ok (.iand, 1) := by decide +kernel
theorem dX1_isReady_15 : decode cX1_isReady 15 = .ok (.aload_n 0, 1) := by decide +kernel
theorem dX1_isReady_16 : decode cX1_isReady 16 = .ok (.getfield 43, 3) := by decide +kernel
theorem dX1_isReady_19 : decode cX1_isReady 19 = .ok (.iload_n 1, 1) := by decide +kernel
theorem dX1_isReady_20 : decode cX1_isReady 20 = .ok (.iaload, 1) := by decide +kernel
theorem dX1_isReady_21 : decode cX1_isReady 21 = .ok (.if_icmp .ne 7, 3) := by decide +kernel
theorem dX1_isReady_24 : decode cX1_isReady 24 = .ok (.iconst 1, 1) := by decide +kernel
theorem dX1_isReady_25 : decode cX1_isReady 25 = .ok (.goto 4, 3) := by decide +kernel
theorem dX1_isReady_28 : decode cX1_isReady 28 = .ok (.iconst 0, 1) := by decide +kernel
theorem dX1_isReady_29 : decode cX1_isReady 29 = .ok (.ireturn, 1) := by decide +kernel
set_option maxHeartbeats 4000000 in
set_option maxRecDepth 100000 in
theorem ctX1_isReady {o : Int} {p1 : Int} {σ : jq_M} {res : Int} (ho : jq_com o) (h : X1_isReady o p1 σ = some res) : jq_MC jq_zX yX1_isReady cX1_isReady 2 (some .boolean) 1 40 [jR o, jI p1] σ (some (jI res)) σ := by
  refine jq_met (own := RX1) (L0 := [(0, jR o), (1, jI p1)]) (by decide) rfl rfl rfl ?_
  intro X Γ hnl hlY hRT
  refine jq_use2 (P := fun r => jq_RT jq_zX X (some .boolean) (some (jI r)) σ) ?_ h hRT
  intro K0 hK0
  unfold X1_isReady
  refine jq_aload_n Γ dX1_isReady_0 rfl 0 rfl (jq_at_0 (at_com ho)) ?_
  refine jq_getI (J := 5) Γ (at_com ho) fl_RX1_75 rfl rfl dX1_isReady_1 ?_
  refine jq_iconst Γ dX1_isReady_4 rfl ?_
  refine jq_iload_n Γ dX1_isReady_5 rfl 1 rfl ?_
  refine jq_ishl Γ dX1_isReady_6 ?_
  refine jq_aload_n Γ dX1_isReady_7 rfl 0 rfl (jq_at_0 (at_com ho)) ?_
  refine jq_getR (v := (o + 11)) Γ hlY (at_com ho) fl_RX1_43 rfl rfl (ly_X1_leansOn ho) dX1_isReady_8 ?_
  refine jq_iload_n Γ dX1_isReady_11 rfl 1 rfl ?_
  refine jq_iald Γ (at_com_11 ho) rfl dX1_isReady_12 (fun v1 => ?_)
  refine jq_ior Γ dX1_isReady_13 ?_
  refine jq_iand Γ dX1_isReady_14 ?_
  refine jq_aload_n Γ dX1_isReady_15 rfl 0 rfl (jq_at_0 (at_com ho)) ?_
  refine jq_getR (v := (o + 11)) Γ hlY (at_com ho) fl_RX1_43 rfl rfl (ly_X1_leansOn ho) dX1_isReady_16 ?_
  refine jq_iload_n Γ dX1_isReady_19 rfl 1 rfl ?_
  refine jq_iald Γ (at_com_11 ho) rfl dX1_isReady_20 (fun v2 => ?_)
  refine jq_icmp_ne (tgt := 28) Γ dX1_isReady_21 rfl ?_ ?_
  · refine jq_iconst Γ dX1_isReady_28 rfl ?_
    exact jq_zreturn Γ (Or.inl rfl) dX1_isReady_29 (hK0 _)
  · refine jq_iconst Γ dX1_isReady_24 rfl ?_
    refine jq_goto Γ (tgt := 29) dX1_isReady_25 rfl ?_
    exact jq_zreturn Γ (Or.inr rfl) dX1_isReady_29 (hK0 _)


theorem dX1_readyArticles_0 : decode cX1_readyArticles 0 = .ok (.iconst 0, 1) := by decide +kernel
theorem dX1_readyArticles_1 : decode cX1_readyArticles 1 = .ok (.istore_n 1, 1) := by decide +kernel
theorem dX1_readyArticles_2 : decode cX1_readyArticles 2 = .ok (.iconst 0, 1) := by decide +kernel
theorem dX1_readyArticles_3 : decode cX1_readyArticles 3 = .ok (.istore_n 2, 1) := by decide +kernel
theorem dX1_readyArticles_4 : decode cX1_readyArticles 4 = .ok (.iload_n 2, 1) := by decide +kernel
theorem dX1_readyArticles_5 : decode cX1_readyArticles 5 = .ok (.aload_n 0, 1) := by decide +kernel
theorem dX1_readyArticles_6 : decode cX1_readyArticles 6 = .ok (.getfield 72, 3) := by decide +kernel
theorem dX1_readyArticles_9 : decode cX1_readyArticles 9 = .ok (.if_icmp .ge 23, 3) := by decide +kernel
theorem dX1_readyArticles_12 : decode cX1_readyArticles 12 = .ok (.aload_n 0, 1) := by decide +kernel
theorem dX1_readyArticles_13 : decode cX1_readyArticles 13 = .ok (.iload_n 2, 1) := by decide +kernel
theorem dX1_readyArticles_14 : decode cX1_readyArticles 14 = .ok (.invokevirtual 129, 3) := by decide +kernel
theorem dX1_readyArticles_17 : decode cX1_readyArticles 17 = .ok (.ifCond .eq 9, 3) := by decide +kernel
theorem dX1_readyArticles_20 : decode cX1_readyArticles 20 = .ok (.iload_n 1, 1) := by decide +kernel
theorem dX1_readyArticles_21 : decode cX1_readyArticles 21 = .ok (.iconst 1, 1) := by decide +kernel
theorem dX1_readyArticles_22 : decode cX1_readyArticles 22 = .ok (.iload_n 2, 1) := by decide +kernel
theorem dX1_readyArticles_23 : decode cX1_readyArticles 23 = .ok (.ishl, 1) := by decide +kernel
theorem dX1_readyArticles_24 : decode cX1_readyArticles 24 = .ok (.ior, 1) := by decide +kernel
theorem dX1_readyArticles_25 : decode cX1_readyArticles 25 = .ok (.istore_n 1, 1) := by decide +kernel
theorem dX1_readyArticles_26 : decode cX1_readyArticles 26 = .ok (.iinc 2 1, 3) := by decide +kernel
theorem dX1_readyArticles_29 : decode cX1_readyArticles 29 = .ok (.goto (-25), 3) := by decide +kernel
theorem dX1_readyArticles_32 : decode cX1_readyArticles 32 = .ok (.iload_n 1, 1) := by decide +kernel
theorem dX1_readyArticles_33 : decode cX1_readyArticles 33 = .ok (.ireturn, 1) := by decide +kernel
set_option maxHeartbeats 4000000 in
set_option maxRecDepth 100000 in
theorem ctX1_readyArticles {o : Int} {σ : jq_M} {res : Int} (ho : jq_com o) (h : X1_readyArticles o σ = some res) : jq_MC jq_zX yX1_readyArticles cX1_readyArticles 3 (some .int) 2 61 [jR o] σ (some (jI res)) σ := by
  refine jq_met (own := RX1) (L0 := [(0, jR o)]) (by decide) rfl rfl rfl ?_
  intro X Γ hnl hlY hRT
  refine jq_use2 (P := fun r => jq_RT jq_zX X (some .int) (some (jI r)) σ) ?_ h hRT
  intro K0 hK0
  unfold X1_readyArticles
  refine jq_iconst Γ dX1_readyArticles_0 rfl ?_
  refine jq_istore_n (L' := [(1, jI 0), (0, jR o)]) Γ dX1_readyArticles_1 rfl hnl rfl rfl ?_
  refine jq_iconst Γ dX1_readyArticles_2 rfl ?_
  refine jq_istore_n (L' := [(2, jI 0), (1, jI 0), (0, jR o)]) Γ dX1_readyArticles_3 rfl hnl rfl rfl ?_
  refine jq_sub Γ (L' := [(0, jR o), (1, jI 0), (2, jI 0)]) [2, 1, 0] rfl ?_
  refine jq_loop2 (C := fun (t1 : Int × Int) => jq_V jq_zX X (jq_zN jq_zX) σ 4 [(0, jR o), (1, jI t1.1), (2, jI t1.2)] []) (KX := fun (e7 : Int) => jq_V jq_zX X (jq_zN jq_zX) σ 32 [(1, jI e7)] []) ?_ ?_ (0, 0)
  · intro K4_t1 hCt1 hXt1 t1
    unfold X1_readyArticles_b4
    refine jq_iload_n Γ dX1_readyArticles_4 rfl 2 rfl ?_
    refine jq_aload_n Γ dX1_readyArticles_5 rfl 0 rfl (jq_at_0 (at_com ho)) ?_
    refine jq_getI (J := 4) Γ (at_com ho) fl_RX1_72 rfl rfl dX1_readyArticles_6 ?_
    refine jq_icmp_ge (tgt := 32) Γ dX1_readyArticles_9 rfl ?_ ?_
    · refine jq_sub Γ (L' := [(1, jI t1.1)]) [1] rfl ?_
      exact jq_done (hXt1 t1.1)
    · refine jq_aload_n Γ dX1_readyArticles_12 rfl 0 rfl (jq_at_0 (at_com ho)) ?_
      refine jq_iload_n Γ dX1_readyArticles_13 rfl 2 rfl ?_
      refine jq_cpZ (jq_virt (avs := [jI t1.2]) (st := []) Γ hlY rfl ml_RX1_129 rfl (at_com ho) rfl rfl rfl rfl rfl dX1_readyArticles_14) rfl (fun r h => ctX1_isReady ho h) (fun v2 hz3 => ?_)
      refine jq_if_eq (tgt := 26) Γ dX1_readyArticles_17 rfl ?_ ?_
      · refine jq_iincN (L' := fun v4 => [(2, jI v4), (0, jR o), (1, jI t1.1)]) Γ dX1_readyArticles_26 2 rfl hnl rfl (fun _ => rfl) (fun v4 => ?_)
        refine jq_goto Γ (tgt := 4) dX1_readyArticles_29 rfl ?_
        refine jq_sub Γ (L' := [(0, jR o), (1, jI t1.1), (2, jI v4)]) [1, 2, 0] rfl ?_
        exact jq_done (hCt1 (t1.1, v4))
      · refine jq_iload_n Γ dX1_readyArticles_20 rfl 1 rfl ?_
        refine jq_iconst Γ dX1_readyArticles_21 rfl ?_
        refine jq_iload_n Γ dX1_readyArticles_22 rfl 2 rfl ?_
        refine jq_ishl Γ dX1_readyArticles_23 ?_
        refine jq_ior Γ dX1_readyArticles_24 ?_
        refine jq_nmI (fun v5 => ?_)
        refine jq_istore_n (L' := [(1, jI v5), (0, jR o), (2, jI t1.2)]) Γ dX1_readyArticles_25 rfl hnl rfl rfl ?_
        refine jq_iincN (L' := fun v6 => [(2, jI v6), (1, jI v5), (0, jR o)]) Γ dX1_readyArticles_26 2 rfl hnl rfl (fun _ => rfl) (fun v6 => ?_)
        refine jq_goto Γ (tgt := 4) dX1_readyArticles_29 rfl ?_
        refine jq_sub Γ (L' := [(0, jR o), (1, jI v5), (2, jI v6)]) [2, 1, 0] rfl ?_
        exact jq_done (hCt1 (v5, v6))
  · intro e7
    refine jq_iload_n Γ dX1_readyArticles_32 rfl 0 rfl ?_
    exact jq_ireturn Γ dX1_readyArticles_33 (hK0 _)


theorem dX10_told_0 : decode cX10_told 0 = .ok (.iload_n 1, 1) := by decide +kernel
theorem dX10_told_1 : decode cX10_told 1 = .ok (.tableswitch 189 0 9 #[55, 67, 79, 91, 103, 115, 127, 146, 165, 177], 55) := by decide +kernel
theorem dX10_told_56 : decode cX10_told 56 = .ok (.aload_n 0, 1) := by decide +kernel
theorem dX10_told_57 : decode cX10_told 57 = .ok (.aload_n 0, 1) := by decide +kernel
theorem dX10_told_58 : decode cX10_told 58 = .ok (.getfield 25, 3) := by decide +kernel
theorem dX10_told_61 : decode cX10_told 61 = .ok (.getfield 179, 3) := by decide +kernel
theorem dX10_told_64 : decode cX10_told 64 = .ok (.invokevirtual 161, 3) := by decide +kernel
theorem dX10_told_67 : decode cX10_told 67 = .ok (.ireturn, 1) := by decide +kernel
theorem dX10_told_68 : decode cX10_told 68 = .ok (.aload_n 0, 1) := by decide +kernel
theorem dX10_told_69 : decode cX10_told 69 = .ok (.aload_n 0, 1) := by decide +kernel
theorem dX10_told_70 : decode cX10_told 70 = .ok (.getfield 25, 3) := by decide +kernel
theorem dX10_told_73 : decode cX10_told 73 = .ok (.getfield 182, 3) := by decide +kernel
theorem dX10_told_76 : decode cX10_told 76 = .ok (.invokevirtual 161, 3) := by decide +kernel
theorem dX10_told_79 : decode cX10_told 79 = .ok (.ireturn, 1) := by decide +kernel
theorem dX10_told_80 : decode cX10_told 80 = .ok (.aload_n 0, 1) := by decide +kernel
theorem dX10_told_81 : decode cX10_told 81 = .ok (.aload_n 0, 1) := by decide +kernel
theorem dX10_told_82 : decode cX10_told 82 = .ok (.getfield 25, 3) := by decide +kernel
theorem dX10_told_85 : decode cX10_told 85 = .ok (.getfield 158, 3) := by decide +kernel
theorem dX10_told_88 : decode cX10_told 88 = .ok (.invokevirtual 161, 3) := by decide +kernel
theorem dX10_told_91 : decode cX10_told 91 = .ok (.ireturn, 1) := by decide +kernel
theorem dX10_told_92 : decode cX10_told 92 = .ok (.aload_n 0, 1) := by decide +kernel
theorem dX10_told_93 : decode cX10_told 93 = .ok (.aload_n 0, 1) := by decide +kernel
theorem dX10_told_94 : decode cX10_told 94 = .ok (.getfield 25, 3) := by decide +kernel
theorem dX10_told_97 : decode cX10_told 97 = .ok (.getfield 185, 3) := by decide +kernel
theorem dX10_told_100 : decode cX10_told 100 = .ok (.invokevirtual 161, 3) := by decide +kernel
theorem dX10_told_103 : decode cX10_told 103 = .ok (.ireturn, 1) := by decide +kernel
theorem dX10_told_104 : decode cX10_told 104 = .ok (.aload_n 0, 1) := by decide +kernel
theorem dX10_told_105 : decode cX10_told 105 = .ok (.aload_n 0, 1) := by decide +kernel
theorem dX10_told_106 : decode cX10_told 106 = .ok (.getfield 25, 3) := by decide +kernel
theorem dX10_told_109 : decode cX10_told 109 = .ok (.getfield 188, 3) := by decide +kernel
theorem dX10_told_112 : decode cX10_told 112 = .ok (.invokevirtual 161, 3) := by decide +kernel
theorem dX10_told_115 : decode cX10_told 115 = .ok (.ireturn, 1) := by decide +kernel
theorem dX10_told_116 : decode cX10_told 116 = .ok (.aload_n 0, 1) := by decide +kernel
theorem dX10_told_117 : decode cX10_told 117 = .ok (.aload_n 0, 1) := by decide +kernel
theorem dX10_told_118 : decode cX10_told 118 = .ok (.getfield 25, 3) := by decide +kernel
theorem dX10_told_121 : decode cX10_told 121 = .ok (.getfield 191, 3) := by decide +kernel
theorem dX10_told_124 : decode cX10_told 124 = .ok (.invokevirtual 161, 3) := by decide +kernel
theorem dX10_told_127 : decode cX10_told 127 = .ok (.ireturn, 1) := by decide +kernel
theorem dX10_told_128 : decode cX10_told 128 = .ok (.aload_n 0, 1) := by decide +kernel
theorem dX10_told_129 : decode cX10_told 129 = .ok (.aload_n 0, 1) := by decide +kernel
theorem dX10_told_130 : decode cX10_told 130 = .ok (.getfield 25, 3) := by decide +kernel
theorem dX10_told_133 : decode cX10_told 133 = .ok (.aload_n 0, 1) := by decide +kernel
theorem dX10_told_134 : decode cX10_told 134 = .ok (.getfield 25, 3) := by decide +kernel
theorem dX10_told_137 : decode cX10_told 137 = .ok (.getfield 194, 3) := by decide +kernel
theorem dX10_told_140 : decode cX10_told 140 = .ok (.invokevirtual 197, 3) := by decide +kernel
theorem dX10_told_143 : decode cX10_told 143 = .ok (.invokevirtual 161, 3) := by decide +kernel
theorem dX10_told_146 : decode cX10_told 146 = .ok (.ireturn, 1) := by decide +kernel
theorem dX10_told_147 : decode cX10_told 147 = .ok (.aload_n 0, 1) := by decide +kernel
theorem dX10_told_148 : decode cX10_told 148 = .ok (.aload_n 0, 1) := by decide +kernel
theorem dX10_told_149 : decode cX10_told 149 = .ok (.getfield 25, 3) := by decide +kernel
theorem dX10_told_152 : decode cX10_told 152 = .ok (.aload_n 0, 1) := by decide +kernel
theorem dX10_told_153 : decode cX10_told 153 = .ok (.getfield 25, 3) := by decide +kernel
theorem dX10_told_156 : decode cX10_told 156 = .ok (.getfield 194, 3) := by decide +kernel
theorem dX10_told_159 : decode cX10_told 159 = .ok (.invokevirtual 201, 3) := by decide +kernel
theorem dX10_told_162 : decode cX10_told 162 = .ok (.invokevirtual 161, 3) := by decide +kernel
theorem dX10_told_165 : decode cX10_told 165 = .ok (.ireturn, 1) := by decide +kernel
theorem dX10_told_166 : decode cX10_told 166 = .ok (.aload_n 0, 1) := by decide +kernel
theorem dX10_told_167 : decode cX10_told 167 = .ok (.aload_n 0, 1) := by decide +kernel
theorem dX10_told_168 : decode cX10_told 168 = .ok (.getfield 25, 3) := by decide +kernel
theorem dX10_told_171 : decode cX10_told 171 = .ok (.getfield 204, 3) := by decide +kernel
theorem dX10_told_174 : decode cX10_told 174 = .ok (.invokevirtual 161, 3) := by decide +kernel
theorem dX10_told_177 : decode cX10_told 177 = .ok (.ireturn, 1) := by decide +kernel
theorem dX10_told_178 : decode cX10_told 178 = .ok (.aload_n 0, 1) := by decide +kernel
theorem dX10_told_179 : decode cX10_told 179 = .ok (.aload_n 0, 1) := by decide +kernel
theorem dX10_told_180 : decode cX10_told 180 = .ok (.getfield 25, 3) := by decide +kernel
theorem dX10_told_183 : decode cX10_told 183 = .ok (.invokevirtual 207, 3) := by decide +kernel
theorem dX10_told_186 : decode cX10_told 186 = .ok (.invokevirtual 161, 3) := by decide +kernel
theorem dX10_told_189 : decode cX10_told 189 = .ok (.ireturn, 1) := by decide +kernel
theorem dX10_told_190 : decode cX10_told 190 = .ok (.aload_n 0, 1) := by decide +kernel
theorem dX10_told_191 : decode cX10_told 191 = .ok (.iconst 1, 1) := by decide +kernel
theorem dX10_told_192 : decode cX10_told 192 = .ok (.invokevirtual 120, 3) := by decide +kernel
theorem dX10_told_195 : decode cX10_told 195 = .ok (.ireturn, 1) := by decide +kernel
set_option maxHeartbeats 4000000 in
set_option maxRecDepth 100000 in
theorem ctX10_told {p1 : Int} {σ : jq_M} {res : Int} {σ' : jq_M}  (h : X10_told p1 σ = some (res, σ')) : jq_MC jq_zX yX10_told cX10_told 2 (some .int) 5 132 [jR 0, jI p1] σ (some (jI res)) σ' := by
  refine jq_met (own := RX10) (L0 := [(0, jR 0), (1, jI p1)]) (by decide) rfl rfl rfl ?_
  intro X Γ hnl hlY hRT
  refine jq_use2 (P := fun r => jq_RT jq_zX X (some .int) (some (jI r.1)) r.2) ?_ h hRT
  intro K0 hK0
  unfold X10_told
  refine jq_iload_n Γ dX10_told_0 rfl 1 rfl ?_
  refine jq_split (fun hc1 => ?_) (fun hn0_1 => ?_)
  · refine jq_tabIn (tgt := 56) Γ dX10_told_1 hc1 rfl rfl rfl ?_
    refine jq_aload_n Γ dX10_told_56 rfl 0 rfl (jq_at_0 at_X_0) ?_
    refine jq_aload_n Γ dX10_told_57 rfl 0 rfl (jq_at_0 at_X_0) ?_
    refine jq_getC (C := jq_cm2) Γ hlY at_X_0 fl_RX10_25 rfl rfl ly_now dX10_told_58 (fun c2 hc3q => ?_)
    have hc3 := jq_cm2_com hc3q
    refine jq_getI (J := 0) Γ (at_com hc3) fl_RX10_179 rfl rfl dX10_told_61 ?_
    refine jq_cwI (jq_virt (avs := [jI (σ c2 0)]) (st := []) Γ hlY rfl ml_RX10_161 rfl at_X_0 rfl rfl rfl rfl rfl dX10_told_64) (fun r σ' h => ctX10_answer h) (fun v4 s5 => ?_)
    exact jq_ireturn Γ dX10_told_67 (hK0 _)
  · refine jq_split (fun hc6 => ?_) (fun hn1_1 => ?_)
    · refine jq_tabIn (tgt := 68) Γ dX10_told_1 hc6 rfl rfl rfl ?_
      refine jq_aload_n Γ dX10_told_68 rfl 0 rfl (jq_at_0 at_X_0) ?_
      refine jq_aload_n Γ dX10_told_69 rfl 0 rfl (jq_at_0 at_X_0) ?_
      refine jq_getC (C := jq_cm2) Γ hlY at_X_0 fl_RX10_25 rfl rfl ly_now dX10_told_70 (fun c7 hc8q => ?_)
      have hc8 := jq_cm2_com hc8q
      refine jq_getI (J := 2) Γ (at_com hc8) fl_RX10_182 rfl rfl dX10_told_73 ?_
      refine jq_cwI (jq_virt (avs := [jI (σ c7 2)]) (st := []) Γ hlY rfl ml_RX10_161 rfl at_X_0 rfl rfl rfl rfl rfl dX10_told_76) (fun r σ' h => ctX10_answer h) (fun v9 s10 => ?_)
      exact jq_ireturn Γ dX10_told_79 (hK0 _)
    · refine jq_split (fun hc11 => ?_) (fun hn2_1 => ?_)
      · refine jq_tabIn (tgt := 80) Γ dX10_told_1 hc11 rfl rfl rfl ?_
        refine jq_aload_n Γ dX10_told_80 rfl 0 rfl (jq_at_0 at_X_0) ?_
        refine jq_aload_n Γ dX10_told_81 rfl 0 rfl (jq_at_0 at_X_0) ?_
        refine jq_getC (C := jq_cm2) Γ hlY at_X_0 fl_RX10_25 rfl rfl ly_now dX10_told_82 (fun c12 hc13q => ?_)
        have hc13 := jq_cm2_com hc13q
        refine jq_getI (J := 3) Γ (at_com hc13) fl_RX10_158 rfl rfl dX10_told_85 ?_
        refine jq_cwI (jq_virt (avs := [jI (σ c12 3)]) (st := []) Γ hlY rfl ml_RX10_161 rfl at_X_0 rfl rfl rfl rfl rfl dX10_told_88) (fun r σ' h => ctX10_answer h) (fun v14 s15 => ?_)
        exact jq_ireturn Γ dX10_told_91 (hK0 _)
      · refine jq_split (fun hc16 => ?_) (fun hn3_1 => ?_)
        · refine jq_tabIn (tgt := 92) Γ dX10_told_1 hc16 rfl rfl rfl ?_
          refine jq_aload_n Γ dX10_told_92 rfl 0 rfl (jq_at_0 at_X_0) ?_
          refine jq_aload_n Γ dX10_told_93 rfl 0 rfl (jq_at_0 at_X_0) ?_
          refine jq_getC (C := jq_cm2) Γ hlY at_X_0 fl_RX10_25 rfl rfl ly_now dX10_told_94 (fun c17 hc18q => ?_)
          have hc18 := jq_cm2_com hc18q
          refine jq_getI (J := 4) Γ (at_com hc18) fl_RX10_185 rfl rfl dX10_told_97 ?_
          refine jq_cwI (jq_virt (avs := [jI (σ c17 4)]) (st := []) Γ hlY rfl ml_RX10_161 rfl at_X_0 rfl rfl rfl rfl rfl dX10_told_100) (fun r σ' h => ctX10_answer h) (fun v19 s20 => ?_)
          exact jq_ireturn Γ dX10_told_103 (hK0 _)
        · refine jq_split (fun hc21 => ?_) (fun hn4_1 => ?_)
          · refine jq_tabIn (tgt := 104) Γ dX10_told_1 hc21 rfl rfl rfl ?_
            refine jq_aload_n Γ dX10_told_104 rfl 0 rfl (jq_at_0 at_X_0) ?_
            refine jq_aload_n Γ dX10_told_105 rfl 0 rfl (jq_at_0 at_X_0) ?_
            refine jq_getC (C := jq_cm2) Γ hlY at_X_0 fl_RX10_25 rfl rfl ly_now dX10_told_106 (fun c22 hc23q => ?_)
            have hc23 := jq_cm2_com hc23q
            refine jq_getI (J := 6) Γ (at_com hc23) fl_RX10_188 rfl rfl dX10_told_109 ?_
            refine jq_cwI (jq_virt (avs := [jI (σ c22 6)]) (st := []) Γ hlY rfl ml_RX10_161 rfl at_X_0 rfl rfl rfl rfl rfl dX10_told_112) (fun r σ' h => ctX10_answer h) (fun v24 s25 => ?_)
            exact jq_ireturn Γ dX10_told_115 (hK0 _)
          · refine jq_split (fun hc26 => ?_) (fun hn5_1 => ?_)
            · refine jq_tabIn (tgt := 116) Γ dX10_told_1 hc26 rfl rfl rfl ?_
              refine jq_aload_n Γ dX10_told_116 rfl 0 rfl (jq_at_0 at_X_0) ?_
              refine jq_aload_n Γ dX10_told_117 rfl 0 rfl (jq_at_0 at_X_0) ?_
              refine jq_getC (C := jq_cm2) Γ hlY at_X_0 fl_RX10_25 rfl rfl ly_now dX10_told_118 (fun c27 hc28q => ?_)
              have hc28 := jq_cm2_com hc28q
              refine jq_getI (J := 1) Γ (at_com hc28) fl_RX10_191 rfl rfl dX10_told_121 ?_
              refine jq_cwI (jq_virt (avs := [jI (σ c27 1)]) (st := []) Γ hlY rfl ml_RX10_161 rfl at_X_0 rfl rfl rfl rfl rfl dX10_told_124) (fun r σ' h => ctX10_answer h) (fun v29 s30 => ?_)
              exact jq_ireturn Γ dX10_told_127 (hK0 _)
            · refine jq_split (fun hc31 => ?_) (fun hn6_1 => ?_)
              · refine jq_tabIn (tgt := 128) Γ dX10_told_1 hc31 rfl rfl rfl ?_
                refine jq_aload_n Γ dX10_told_128 rfl 0 rfl (jq_at_0 at_X_0) ?_
                refine jq_aload_n Γ dX10_told_129 rfl 0 rfl (jq_at_0 at_X_0) ?_
                refine jq_getC (C := jq_cm2) Γ hlY at_X_0 fl_RX10_25 rfl rfl ly_now dX10_told_130 (fun c32 hc33q => ?_)
                have hc33 := jq_cm2_com hc33q
                refine jq_aload_n Γ dX10_told_133 rfl 0 rfl (jq_at_0 at_X_0) ?_
                refine jq_getC (C := jq_cm2) Γ hlY at_X_0 fl_RX10_25 rfl rfl ly_now dX10_told_134 (fun c34 hc35q => ?_)
                have hc35 := jq_cm2_com hc35q
                refine jq_getR (v := (c34 + 3)) Γ hlY (at_com hc35) fl_RX10_194 rfl rfl (ly_X1_seats hc35) dX10_told_137 ?_
                refine jq_cpI (jq_virt (avs := [jR (c34 + 3)]) (st := [jR 0]) Γ hlY rfl ml_RX10_197 rfl (at_com hc33) rfl rfl rfl rfl rfl dX10_told_140) (fun r h => ctX1_sittersOf hc33 (row_com hc35) h) (fun v36 => ?_)
                refine jq_cwI (jq_virt (avs := [jI v36]) (st := []) Γ hlY rfl ml_RX10_161 rfl at_X_0 rfl rfl rfl rfl rfl dX10_told_143) (fun r σ' h => ctX10_answer h) (fun v37 s38 => ?_)
                exact jq_ireturn Γ dX10_told_146 (hK0 _)
              · refine jq_split (fun hc39 => ?_) (fun hn7_1 => ?_)
                · refine jq_tabIn (tgt := 147) Γ dX10_told_1 hc39 rfl rfl rfl ?_
                  refine jq_aload_n Γ dX10_told_147 rfl 0 rfl (jq_at_0 at_X_0) ?_
                  refine jq_aload_n Γ dX10_told_148 rfl 0 rfl (jq_at_0 at_X_0) ?_
                  refine jq_getC (C := jq_cm2) Γ hlY at_X_0 fl_RX10_25 rfl rfl ly_now dX10_told_149 (fun c40 hc41q => ?_)
                  have hc41 := jq_cm2_com hc41q
                  refine jq_aload_n Γ dX10_told_152 rfl 0 rfl (jq_at_0 at_X_0) ?_
                  refine jq_getC (C := jq_cm2) Γ hlY at_X_0 fl_RX10_25 rfl rfl ly_now dX10_told_153 (fun c42 hc43q => ?_)
                  have hc43 := jq_cm2_com hc43q
                  refine jq_getR (v := (c42 + 3)) Γ hlY (at_com hc43) fl_RX10_194 rfl rfl (ly_X1_seats hc43) dX10_told_156 ?_
                  refine jq_cwI (jq_virt (avs := [jR (c42 + 3)]) (st := [jR 0]) Γ hlY rfl ml_RX10_201 rfl (at_com hc41) rfl rfl rfl rfl rfl dX10_told_159) (fun r σ' h => ctX1_signersOf hc41 (row_com hc43) h) (fun v44 s45 => ?_)
                  refine jq_cwI (jq_virt (avs := [jI v44]) (st := []) Γ hlY rfl ml_RX10_161 rfl at_X_0 rfl rfl rfl rfl rfl dX10_told_162) (fun r σ' h => ctX10_answer h) (fun v46 s47 => ?_)
                  exact jq_ireturn Γ dX10_told_165 (hK0 _)
                · refine jq_split (fun hc48 => ?_) (fun hn8_1 => ?_)
                  · refine jq_tabIn (tgt := 166) Γ dX10_told_1 hc48 rfl rfl rfl ?_
                    refine jq_aload_n Γ dX10_told_166 rfl 0 rfl (jq_at_0 at_X_0) ?_
                    refine jq_aload_n Γ dX10_told_167 rfl 0 rfl (jq_at_0 at_X_0) ?_
                    refine jq_getC (C := jq_cm2) Γ hlY at_X_0 fl_RX10_25 rfl rfl ly_now dX10_told_168 (fun c49 hc50q => ?_)
                    have hc50 := jq_cm2_com hc50q
                    refine jq_getI (J := 5) Γ (at_com hc50) fl_RX10_204 rfl rfl dX10_told_171 ?_
                    refine jq_cwI (jq_virt (avs := [jI (σ c49 5)]) (st := []) Γ hlY rfl ml_RX10_161 rfl at_X_0 rfl rfl rfl rfl rfl dX10_told_174) (fun r σ' h => ctX10_answer h) (fun v51 s52 => ?_)
                    exact jq_ireturn Γ dX10_told_177 (hK0 _)
                  · refine jq_split (fun hc53 => ?_) (fun hn9_1 => ?_)
                    · refine jq_tabIn (tgt := 178) Γ dX10_told_1 hc53 rfl rfl rfl ?_
                      refine jq_aload_n Γ dX10_told_178 rfl 0 rfl (jq_at_0 at_X_0) ?_
                      refine jq_aload_n Γ dX10_told_179 rfl 0 rfl (jq_at_0 at_X_0) ?_
                      refine jq_getC (C := jq_cm2) Γ hlY at_X_0 fl_RX10_25 rfl rfl ly_now dX10_told_180 (fun c54 hc55q => ?_)
                      have hc55 := jq_cm2_com hc55q
                      refine jq_cpI (jq_virt (avs := []) (st := [jR 0]) Γ hlY rfl ml_RX10_207 rfl (at_com hc55) rfl rfl rfl rfl rfl dX10_told_183) (fun r h => ctX1_readyArticles hc55 h) (fun v56 => ?_)
                      refine jq_cwI (jq_virt (avs := [jI v56]) (st := []) Γ hlY rfl ml_RX10_161 rfl at_X_0 rfl rfl rfl rfl rfl dX10_told_186) (fun r σ' h => ctX10_answer h) (fun v57 s58 => ?_)
                      exact jq_ireturn Γ dX10_told_189 (hK0 _)
                    · refine jq_tabOut (tgt := 190) Γ dX10_told_1 (by omega) rfl ?_
                      refine jq_aload_n Γ dX10_told_190 rfl 0 rfl (jq_at_0 at_X_0) ?_
                      refine jq_iconst Γ dX10_told_191 rfl ?_
                      refine jq_cwI (jq_virt (avs := [jI 1]) (st := []) Γ hlY rfl ml_RX10_120 rfl at_X_0 rfl rfl rfl rfl rfl dX10_told_192) (fun r σ' h => ctX10_refuse h) (fun v59 s60 => ?_)
                      exact jq_ireturn Γ dX10_told_195 (hK0 _)


theorem dX1_isPlace_0 : decode cX1_isPlace 0 = .ok (.iload_n 1, 1) := by decide +kernel
theorem dX1_isPlace_1 : decode cX1_isPlace 1 = .ok (.ifCond .lt 15, 3) := by decide +kernel
theorem dX1_isPlace_4 : decode cX1_isPlace 4 = .ok (.iload_n 1, 1) := by decide +kernel
theorem dX1_isPlace_5 : decode cX1_isPlace 5 = .ok (.aload_n 0, 1) := by decide +kernel
theorem dX1_isPlace_6 : decode cX1_isPlace 6 = .ok (.getfield 59, 3) := by decide +kernel
theorem dX1_isPlace_9 : decode cX1_isPlace 9 = .ok (.if_icmp .ge 7, 3) := by decide +kernel
theorem dX1_isPlace_12 : decode cX1_isPlace 12 = .ok (.iconst 1, 1) := by decide +kernel
theorem dX1_isPlace_13 : decode cX1_isPlace 13 = .ok (.goto 4, 3) := by decide +kernel
theorem dX1_isPlace_16 : decode cX1_isPlace 16 = .ok (.iconst 0, 1) := by decide +kernel
theorem dX1_isPlace_17 : decode cX1_isPlace 17 = .ok (.ireturn, 1) := by decide +kernel
set_option maxHeartbeats 4000000 in
set_option maxRecDepth 100000 in
theorem ctX1_isPlace {o : Int} {p1 : Int} {σ : jq_M} {res : Int} (ho : jq_com o) (h : X1_isPlace o p1 σ = some res) : jq_MC jq_zX yX1_isPlace cX1_isPlace 2 (some .boolean) 1 40 [jR o, jI p1] σ (some (jI res)) σ := by
  refine jq_met (own := RX1) (L0 := [(0, jR o), (1, jI p1)]) (by decide) rfl rfl rfl ?_
  intro X Γ hnl hlY hRT
  refine jq_use2 (P := fun r => jq_RT jq_zX X (some .boolean) (some (jI r)) σ) ?_ h hRT
  intro K0 hK0
  unfold X1_isPlace
  refine jq_iload_n Γ dX1_isPlace_0 rfl 1 rfl ?_
  refine jq_if_lt (tgt := 16) Γ dX1_isPlace_1 rfl ?_ ?_
  · refine jq_iconst Γ dX1_isPlace_16 rfl ?_
    exact jq_zreturn Γ (Or.inl rfl) dX1_isPlace_17 (hK0 _)
  · refine jq_iload_n Γ dX1_isPlace_4 rfl 1 rfl ?_
    refine jq_aload_n Γ dX1_isPlace_5 rfl 0 rfl (jq_at_0 (at_com ho)) ?_
    refine jq_getI (J := 0) Γ (at_com ho) fl_RX1_59 rfl rfl dX1_isPlace_6 ?_
    refine jq_icmp_ge (tgt := 16) Γ dX1_isPlace_9 rfl ?_ ?_
    · refine jq_iconst Γ dX1_isPlace_16 rfl ?_
      exact jq_zreturn Γ (Or.inl rfl) dX1_isPlace_17 (hK0 _)
    · refine jq_iconst Γ dX1_isPlace_12 rfl ?_
      refine jq_goto Γ (tgt := 17) dX1_isPlace_13 rfl ?_
      exact jq_zreturn Γ (Or.inr rfl) dX1_isPlace_17 (hK0 _)


theorem dX10_answerOrNone_0 : decode cX10_answerOrNone 0 = .ok (.iload_n 1, 1) := by decide +kernel
theorem dX10_answerOrNone_1 : decode cX10_answerOrNone 1 = .ok (.iconst (-1), 1) := by decide +kernel
theorem dX10_answerOrNone_2 : decode cX10_answerOrNone 2 = .ok (.if_icmp .ne 12, 3) := by decide +kernel
theorem dX10_answerOrNone_5 : decode cX10_answerOrNone 5 = .ok (.aload_n 0, 1) := by decide +kernel
theorem dX10_answerOrNone_6 : decode cX10_answerOrNone 6 = .ok (.bipush 6, 2) := by decide +kernel
theorem dX10_answerOrNone_8 : decode cX10_answerOrNone 8 = .ok (.invokevirtual 120, 3) := by decide +kernel
theorem dX10_answerOrNone_11 : decode cX10_answerOrNone 11 = .ok (.goto 8, 3) := by decide +kernel
theorem dX10_answerOrNone_14 : decode cX10_answerOrNone 14 = .ok (.aload_n 0, 1) := by decide +kernel
theorem dX10_answerOrNone_15 : decode cX10_answerOrNone 15 = .ok (.iload_n 1, 1) := by decide +kernel
theorem dX10_answerOrNone_16 : decode cX10_answerOrNone 16 = .ok (.invokevirtual 161, 3) := by decide +kernel
theorem dX10_answerOrNone_19 : decode cX10_answerOrNone 19 = .ok (.ireturn, 1) := by decide +kernel
set_option maxHeartbeats 4000000 in
set_option maxRecDepth 100000 in
theorem ctX10_answerOrNone {p1 : Int} {σ : jq_M} {res : Int} {σ' : jq_M}  (h : X10_answerOrNone p1 σ = some (res, σ')) : jq_MC jq_zX yX10_answerOrNone cX10_answerOrNone 2 (some .int) 2 61 [jR 0, jI p1] σ (some (jI res)) σ' := by
  refine jq_met (own := RX10) (L0 := [(0, jR 0), (1, jI p1)]) (by decide) rfl rfl rfl ?_
  intro X Γ hnl hlY hRT
  refine jq_use2 (P := fun r => jq_RT jq_zX X (some .int) (some (jI r.1)) r.2) ?_ h hRT
  intro K0 hK0
  unfold X10_answerOrNone
  refine jq_iload_n Γ dX10_answerOrNone_0 rfl 1 rfl ?_
  refine jq_iconst Γ dX10_answerOrNone_1 rfl ?_
  refine jq_icmp_ne (tgt := 14) Γ dX10_answerOrNone_2 rfl ?_ ?_
  · refine jq_aload_n Γ dX10_answerOrNone_14 rfl 0 rfl (jq_at_0 at_X_0) ?_
    refine jq_iload_n Γ dX10_answerOrNone_15 rfl 1 rfl ?_
    refine jq_cwI (jq_virt (avs := [jI p1]) (st := []) Γ hlY rfl ml_RX10_161 rfl at_X_0 rfl rfl rfl rfl rfl dX10_answerOrNone_16) (fun r σ' h => ctX10_answer h) (fun v1 s2 => ?_)
    exact jq_ireturn Γ dX10_answerOrNone_19 (hK0 _)
  · refine jq_aload_n Γ dX10_answerOrNone_5 rfl 0 rfl (jq_at_0 at_X_0) ?_
    refine jq_bipush Γ dX10_answerOrNone_6 rfl ?_
    refine jq_cwI (jq_virt (avs := [jI 6]) (st := []) Γ hlY rfl ml_RX10_120 rfl at_X_0 rfl rfl rfl rfl rfl dX10_answerOrNone_8) (fun r σ' h => ctX10_refuse h) (fun v3 s4 => ?_)
    refine jq_goto Γ (tgt := 19) dX10_answerOrNone_11 rfl ?_
    exact jq_ireturn Γ dX10_answerOrNone_19 (hK0 _)


theorem dX10_who_0 : decode cX10_who 0 = .ok (.aload_n 0, 1) := by decide +kernel
theorem dX10_who_1 : decode cX10_who 1 = .ok (.getfield 25, 3) := by decide +kernel
theorem dX10_who_4 : decode cX10_who 4 = .ok (.iload_n 1, 1) := by decide +kernel
theorem dX10_who_5 : decode cX10_who 5 = .ok (.invokevirtual 211, 3) := by decide +kernel
theorem dX10_who_8 : decode cX10_who 8 = .ok (.ifCond .ne 9, 3) := by decide +kernel
theorem dX10_who_11 : decode cX10_who 11 = .ok (.aload_n 0, 1) := by decide +kernel
theorem dX10_who_12 : decode cX10_who 12 = .ok (.iconst 1, 1) := by decide +kernel
theorem dX10_who_13 : decode cX10_who 13 = .ok (.invokevirtual 120, 3) := by decide +kernel
theorem dX10_who_16 : decode cX10_who 16 = .ok (.ireturn, 1) := by decide +kernel
theorem dX10_who_17 : decode cX10_who 17 = .ok (.aload_n 0, 1) := by decide +kernel
theorem dX10_who_18 : decode cX10_who 18 = .ok (.aload_n 0, 1) := by decide +kernel
theorem dX10_who_19 : decode cX10_who 19 = .ok (.getfield 25, 3) := by decide +kernel
theorem dX10_who_22 : decode cX10_who 22 = .ok (.iload_n 1, 1) := by decide +kernel
theorem dX10_who_23 : decode cX10_who 23 = .ok (.aload_n 0, 1) := by decide +kernel
theorem dX10_who_24 : decode cX10_who 24 = .ok (.getfield 25, 3) := by decide +kernel
theorem dX10_who_27 : decode cX10_who 27 = .ok (.getfield 194, 3) := by decide +kernel
theorem dX10_who_30 : decode cX10_who 30 = .ok (.invokevirtual 214, 3) := by decide +kernel
theorem dX10_who_33 : decode cX10_who 33 = .ok (.invokevirtual 218, 3) := by decide +kernel
theorem dX10_who_36 : decode cX10_who 36 = .ok (.ireturn, 1) := by decide +kernel
set_option maxHeartbeats 4000000 in
set_option maxRecDepth 100000 in
theorem ctX10_who {p1 : Int} {σ : jq_M} {res : Int} {σ' : jq_M}  (h : X10_who p1 σ = some (res, σ')) : jq_MC jq_zX yX10_who cX10_who 2 (some .int) 3 82 [jR 0, jI p1] σ (some (jI res)) σ' := by
  refine jq_met (own := RX10) (L0 := [(0, jR 0), (1, jI p1)]) (by decide) rfl rfl rfl ?_
  intro X Γ hnl hlY hRT
  refine jq_use2 (P := fun r => jq_RT jq_zX X (some .int) (some (jI r.1)) r.2) ?_ h hRT
  intro K0 hK0
  unfold X10_who
  refine jq_aload_n Γ dX10_who_0 rfl 0 rfl (jq_at_0 at_X_0) ?_
  refine jq_getC (C := jq_cm2) Γ hlY at_X_0 fl_RX10_25 rfl rfl ly_now dX10_who_1 (fun c1 hc2q => ?_)
  have hc2 := jq_cm2_com hc2q
  refine jq_iload_n Γ dX10_who_4 rfl 1 rfl ?_
  refine jq_cpZ (jq_virt (avs := [jI p1]) (st := []) Γ hlY rfl ml_RX10_211 rfl (at_com hc2) rfl rfl rfl rfl rfl dX10_who_5) rfl (fun r h => ctX1_isPlace hc2 h) (fun v3 hz4 => ?_)
  refine jq_if_ne (tgt := 17) Γ dX10_who_8 rfl ?_ ?_
  · refine jq_aload_n Γ dX10_who_17 rfl 0 rfl (jq_at_0 at_X_0) ?_
    refine jq_aload_n Γ dX10_who_18 rfl 0 rfl (jq_at_0 at_X_0) ?_
    refine jq_getC (C := jq_cm2) Γ hlY at_X_0 fl_RX10_25 rfl rfl ly_now dX10_who_19 (fun c5 hc6q => ?_)
    have hc6 := jq_cm2_com hc6q
    refine jq_iload_n Γ dX10_who_22 rfl 1 rfl ?_
    refine jq_aload_n Γ dX10_who_23 rfl 0 rfl (jq_at_0 at_X_0) ?_
    refine jq_getC (C := jq_cm2) Γ hlY at_X_0 fl_RX10_25 rfl rfl ly_now dX10_who_24 (fun c7 hc8q => ?_)
    have hc8 := jq_cm2_com hc8q
    refine jq_getR (v := (c7 + 3)) Γ hlY (at_com hc8) fl_RX10_194 rfl rfl (ly_X1_seats hc8) dX10_who_27 ?_
    refine jq_cpI (jq_virt (avs := [jI p1, jR (c7 + 3)]) (st := [jR 0]) Γ hlY rfl ml_RX10_214 rfl (at_com hc6) rfl rfl rfl rfl rfl dX10_who_30) (fun r h => ctX1_sitterAt hc6 (row_com hc8) h) (fun v9 => ?_)
    refine jq_cwI (jq_virt (avs := [jI v9]) (st := []) Γ hlY rfl ml_RX10_218 rfl at_X_0 rfl rfl rfl rfl rfl dX10_who_33) (fun r σ' h => ctX10_answerOrNone h) (fun v10 s11 => ?_)
    exact jq_ireturn Γ dX10_who_36 (hK0 _)
  · refine jq_aload_n Γ dX10_who_11 rfl 0 rfl (jq_at_0 at_X_0) ?_
    refine jq_iconst Γ dX10_who_12 rfl ?_
    refine jq_cwI (jq_virt (avs := [jI 1]) (st := []) Γ hlY rfl ml_RX10_120 rfl at_X_0 rfl rfl rfl rfl rfl dX10_who_13) (fun r σ' h => ctX10_refuse h) (fun v12 s13 => ?_)
    exact jq_ireturn Γ dX10_who_16 (hK0 _)


theorem dX1_isParty_0 : decode cX1_isParty 0 = .ok (.iload_n 1, 1) := by decide +kernel
theorem dX1_isParty_1 : decode cX1_isParty 1 = .ok (.ifCond .lt 15, 3) := by decide +kernel
theorem dX1_isParty_4 : decode cX1_isParty 4 = .ok (.iload_n 1, 1) := by decide +kernel
theorem dX1_isParty_5 : decode cX1_isParty 5 = .ok (.aload_n 0, 1) := by decide +kernel
theorem dX1_isParty_6 : decode cX1_isParty 6 = .ok (.getfield 66, 3) := by decide +kernel
theorem dX1_isParty_9 : decode cX1_isParty 9 = .ok (.if_icmp .ge 7, 3) := by decide +kernel
theorem dX1_isParty_12 : decode cX1_isParty 12 = .ok (.iconst 1, 1) := by decide +kernel
theorem dX1_isParty_13 : decode cX1_isParty 13 = .ok (.goto 4, 3) := by decide +kernel
theorem dX1_isParty_16 : decode cX1_isParty 16 = .ok (.iconst 0, 1) := by decide +kernel
theorem dX1_isParty_17 : decode cX1_isParty 17 = .ok (.ireturn, 1) := by decide +kernel
set_option maxHeartbeats 4000000 in
set_option maxRecDepth 100000 in
theorem ctX1_isParty {o : Int} {p1 : Int} {σ : jq_M} {res : Int} (ho : jq_com o) (h : X1_isParty o p1 σ = some res) : jq_MC jq_zX yX1_isParty cX1_isParty 2 (some .boolean) 1 40 [jR o, jI p1] σ (some (jI res)) σ := by
  refine jq_met (own := RX1) (L0 := [(0, jR o), (1, jI p1)]) (by decide) rfl rfl rfl ?_
  intro X Γ hnl hlY hRT
  refine jq_use2 (P := fun r => jq_RT jq_zX X (some .boolean) (some (jI r)) σ) ?_ h hRT
  intro K0 hK0
  unfold X1_isParty
  refine jq_iload_n Γ dX1_isParty_0 rfl 1 rfl ?_
  refine jq_if_lt (tgt := 16) Γ dX1_isParty_1 rfl ?_ ?_
  · refine jq_iconst Γ dX1_isParty_16 rfl ?_
    exact jq_zreturn Γ (Or.inl rfl) dX1_isParty_17 (hK0 _)
  · refine jq_iload_n Γ dX1_isParty_4 rfl 1 rfl ?_
    refine jq_aload_n Γ dX1_isParty_5 rfl 0 rfl (jq_at_0 (at_com ho)) ?_
    refine jq_getI (J := 2) Γ (at_com ho) fl_RX1_66 rfl rfl dX1_isParty_6 ?_
    refine jq_icmp_ge (tgt := 16) Γ dX1_isParty_9 rfl ?_ ?_
    · refine jq_iconst Γ dX1_isParty_16 rfl ?_
      exact jq_zreturn Γ (Or.inl rfl) dX1_isParty_17 (hK0 _)
    · refine jq_iconst Γ dX1_isParty_12 rfl ?_
      refine jq_goto Γ (tgt := 17) dX1_isParty_13 rfl ?_
      exact jq_zreturn Γ (Or.inr rfl) dX1_isParty_17 (hK0 _)


