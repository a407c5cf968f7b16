theorem yf_X7_setOperands : Cond.instanceMethod yX7_setOperands ∈ jq_T ∧ Cond.selects (yX7_setOperands).cls yX7_setOperands yX7_setOperands ∈ jq_T ∧ Cond.initialized (yX7_setOperands).cls ∈ jq_T ∧ Cond.code yX7_setOperands cX7_setOperands 4 none ∈ jq_T ∧ ((yX7_setOperands).cls ≠ "java/lang/invoke/MethodHandle" ∧ (yX7_setOperands).cls ≠ "java/lang/invoke/VarHandle" ∧ (parseMethodDescriptor (yX7_setOperands).desc).map (fun d => d.parameters.length) = some 3) := ⟨jq_in 895 (by decide +kernel) rfl, jq_in 896 (by decide +kernel) rfl, jq_in 145 (by decide +kernel) rfl, jq_in 897 (by decide +kernel) rfl, ⟨by decide, by decide, by decide +kernel⟩⟩
theorem ml_RX6_110 : jq_vl RX6 110 yX7_setOperands cX7_setOperands 4 none 3 := ⟨jq_in 894 (by decide +kernel) rfl, yf_X7_setOperands⟩
theorem yf_X5_takeCompares : Cond.instanceMethod yX5_takeCompares ∈ jq_T ∧ Cond.selects (yX5_takeCompares).cls yX5_takeCompares yX5_takeCompares ∈ jq_T ∧ Cond.initialized (yX5_takeCompares).cls ∈ jq_T ∧ Cond.code yX5_takeCompares cX5_takeCompares 2 (some .int) ∈ jq_T ∧ ((yX5_takeCompares).cls ≠ "java/lang/invoke/MethodHandle" ∧ (yX5_takeCompares).cls ≠ "java/lang/invoke/VarHandle" ∧ (parseMethodDescriptor (yX5_takeCompares).desc).map (fun d => d.parameters.length) = some 0) := ⟨jq_in 890 (by decide +kernel) rfl, jq_in 891 (by decide +kernel) rfl, jq_in 139 (by decide +kernel) rfl, jq_in 892 (by decide +kernel) rfl, ⟨by decide, by decide, by decide +kernel⟩⟩
theorem ml_RX6_114 : jq_vl RX6 114 yX5_takeCompares cX5_takeCompares 2 (some .int) 0 := ⟨jq_in 889 (by decide +kernel) rfl, yf_X5_takeCompares⟩
theorem ml_RX6_103 : jq_vl RX6 103 yX5_takeNumber cX5_takeNumber 4 (some .int) 2 := ⟨jq_in 893 (by decide +kernel) rfl, yf_X5_takeNumber⟩
theorem yf_X5_takeArticle : Cond.instanceMethod yX5_takeArticle ∈ jq_T ∧ Cond.selects (yX5_takeArticle).cls yX5_takeArticle yX5_takeArticle ∈ jq_T ∧ Cond.initialized (yX5_takeArticle).cls ∈ jq_T ∧ Cond.code yX5_takeArticle cX5_takeArticle 3 (some .int) ∈ jq_T ∧ ((yX5_takeArticle).cls ≠ "java/lang/invoke/MethodHandle" ∧ (yX5_takeArticle).cls ≠ "java/lang/invoke/VarHandle" ∧ (parseMethodDescriptor (yX5_takeArticle).desc).map (fun d => d.parameters.length) = some 1) := ⟨jq_in 885 (by decide +kernel) rfl, jq_in 886 (by decide +kernel) rfl, jq_in 139 (by decide +kernel) rfl, jq_in 887 (by decide +kernel) rfl, ⟨by decide, by decide, by decide +kernel⟩⟩
theorem ml_RX6_107 : jq_vl RX6 107 yX5_takeArticle cX5_takeArticle 3 (some .int) 1 := ⟨jq_in 884 (by decide +kernel) rfl, yf_X5_takeArticle⟩
theorem ml_RX6_94 : jq_vl RX6 94 yX5_takeParty cX5_takeParty 3 (some .int) 1 := ⟨jq_in 883 (by decide +kernel) rfl, yf_X5_takeParty⟩
theorem fl_RX6_98 : jq_fl RX6 98 1 21 0 false := ⟨RX1, TX1, tyX1, cls_X1, by decide, jq_in 326 (by decide +kernel) rfl, by decide⟩
theorem ml_RX6_9 : jq_vl RX6 9 yX7_clear cX7_clear 1 none 0 := ⟨jq_in 830 (by decide +kernel) rfl, yf_X7_clear⟩
theorem fl_RX6_14 : jq_fl RX6 14 4 9 0 false := ⟨RX7, TX7, tyX7, cls_X7, by decide, jq_in 289 (by decide +kernel) rfl, by decide⟩
theorem ml_RX6_18 : jq_vl RX6 18 yX5_goesOn cX5_goesOn 1 (some .boolean) 0 := ⟨jq_in 831 (by decide +kernel) rfl, yf_X5_goesOn⟩
theorem yf_X6_mayBegin : Cond.static yX6_mayBegin ∈ jq_T ∧ Cond.initialized (yX6_mayBegin).cls ∈ jq_T ∧ Cond.code yX6_mayBegin cX6_mayBegin 2 (some .boolean) ∈ jq_T ∧ ((yX6_mayBegin).cls ≠ "java/lang/invoke/MethodHandle" ∧ (yX6_mayBegin).cls ≠ "java/lang/invoke/VarHandle" ∧ (parseMethodDescriptor (yX6_mayBegin).desc).map (fun d => d.parameters.length) = some 2) := ⟨jq_in 851 (by decide +kernel) rfl, jq_in 154 (by decide +kernel) rfl, jq_in 852 (by decide +kernel) rfl, ⟨by decide, by decide, by decide +kernel⟩⟩
theorem ml_RX6_34 : jq_sl RX6 34 yX6_mayBegin cX6_mayBegin 2 (some .boolean) 2 := ⟨jq_in 850 (by decide +kernel) rfl, yf_X6_mayBegin⟩
theorem yf_X6_beginStep : Cond.static yX6_beginStep ∈ jq_T ∧ Cond.initialized (yX6_beginStep).cls ∈ jq_T ∧ Cond.code yX6_beginStep cX6_beginStep 3 (some .int) ∈ jq_T ∧ ((yX6_beginStep).cls ≠ "java/lang/invoke/MethodHandle" ∧ (yX6_beginStep).cls ≠ "java/lang/invoke/VarHandle" ∧ (parseMethodDescriptor (yX6_beginStep).desc).map (fun d => d.parameters.length) = some 2) := ⟨jq_in 870 (by decide +kernel) rfl, jq_in 154 (by decide +kernel) rfl, jq_in 871 (by decide +kernel) rfl, ⟨by decide, by decide, by decide +kernel⟩⟩
theorem ml_RX6_38 : jq_sl RX6 38 yX6_beginStep cX6_beginStep 3 (some .int) 2 := ⟨jq_in 869 (by decide +kernel) rfl, yf_X6_beginStep⟩
theorem yf_X6_readOperands : Cond.static yX6_readOperands ∈ jq_T ∧ Cond.initialized (yX6_readOperands).cls ∈ jq_T ∧ Cond.code yX6_readOperands cX6_readOperands 7 none ∈ jq_T ∧ ((yX6_readOperands).cls ≠ "java/lang/invoke/MethodHandle" ∧ (yX6_readOperands).cls ≠ "java/lang/invoke/VarHandle" ∧ (parseMethodDescriptor (yX6_readOperands).desc).map (fun d => d.parameters.length) = some 5) := ⟨jq_in 899 (by decide +kernel) rfl, jq_in 154 (by decide +kernel) rfl, jq_in 900 (by decide +kernel) rfl, ⟨by decide, by decide, by decide +kernel⟩⟩
theorem ml_RX6_46 : jq_sl RX6 46 yX6_readOperands cX6_readOperands 7 none 5 := ⟨jq_in 898 (by decide +kernel) rfl, yf_X6_readOperands⟩
theorem yf_X6_readTest : Cond.static yX6_readTest ∈ jq_T ∧ Cond.initialized (yX6_readTest).cls ∈ jq_T ∧ Cond.code yX6_readTest cX6_readTest 6 none ∈ jq_T ∧ ((yX6_readTest).cls ≠ "java/lang/invoke/MethodHandle" ∧ (yX6_readTest).cls ≠ "java/lang/invoke/VarHandle" ∧ (parseMethodDescriptor (yX6_readTest).desc).map (fun d => d.parameters.length) = some 4) := ⟨jq_in 881 (by decide +kernel) rfl, jq_in 154 (by decide +kernel) rfl, jq_in 882 (by decide +kernel) rfl, ⟨by decide, by decide, by decide +kernel⟩⟩
theorem ml_RX6_42 : jq_sl RX6 42 yX6_readTest cX6_readTest 6 none 4 := ⟨jq_in 880 (by decide +kernel) rfl, yf_X6_readTest⟩
theorem yf_X6_readEnd : Cond.static yX6_readEnd ∈ jq_T ∧ Cond.initialized (yX6_readEnd).cls ∈ jq_T ∧ Cond.code yX6_readEnd cX6_readEnd 2 none ∈ jq_T ∧ ((yX6_readEnd).cls ≠ "java/lang/invoke/MethodHandle" ∧ (yX6_readEnd).cls ≠ "java/lang/invoke/VarHandle" ∧ (parseMethodDescriptor (yX6_readEnd).desc).map (fun d => d.parameters.length) = some 2) := ⟨jq_in 833 (by decide +kernel) rfl, jq_in 154 (by decide +kernel) rfl, jq_in 834 (by decide +kernel) rfl, ⟨by decide, by decide, by decide +kernel⟩⟩
theorem ml_RX6_28 : jq_sl RX6 28 yX6_readEnd cX6_readEnd 2 none 2 := ⟨jq_in 832 (by decide +kernel) rfl, yf_X6_readEnd⟩
theorem aw_RX7_41 : Cond.methodLink RX7 41 arraycopyName ∈ jq_T := jq_in 905 (by decide +kernel) rfl
theorem fl_RX10_35 : jq_fl RX10 35 7 18 9 true := ⟨RX10, TX10, tyX10, cls_X10, by decide, jq_in 531 (by decide +kernel) rfl, by decide⟩
theorem yf_X6_readAll : Cond.static yX6_readAll ∈ jq_T ∧ Cond.initialized (yX6_readAll).cls ∈ jq_T ∧ Cond.code yX6_readAll cX6_readAll 6 none ∈ jq_T ∧ ((yX6_readAll).cls ≠ "java/lang/invoke/MethodHandle" ∧ (yX6_readAll).cls ≠ "java/lang/invoke/VarHandle" ∧ (parseMethodDescriptor (yX6_readAll).desc).map (fun d => d.parameters.length) = some 3) := ⟨jq_in 828 (by decide +kernel) rfl, jq_in 154 (by decide +kernel) rfl, jq_in 829 (by decide +kernel) rfl, ⟨by decide, by decide, by decide +kernel⟩⟩
theorem ml_RX10_170 : jq_sl RX10 170 yX6_readAll cX6_readAll 6 none 3 := ⟨jq_in 827 (by decide +kernel) rfl, yf_X6_readAll⟩
theorem fl_RX10_175 : jq_fl RX10 175 1 21 19 true := ⟨RX1, TX1, tyX1, cls_X1, by decide, jq_in 391 (by decide +kernel) rfl, by decide⟩
theorem yf_X7_takeFrom : Cond.instanceMethod yX7_takeFrom ∈ jq_T ∧ Cond.selects (yX7_takeFrom).cls yX7_takeFrom yX7_takeFrom ∈ jq_T ∧ Cond.initialized (yX7_takeFrom).cls ∈ jq_T ∧ Cond.code yX7_takeFrom cX7_takeFrom 2 none ∈ jq_T ∧ ((yX7_takeFrom).cls ≠ "java/lang/invoke/MethodHandle" ∧ (yX7_takeFrom).cls ≠ "java/lang/invoke/VarHandle" ∧ (parseMethodDescriptor (yX7_takeFrom).desc).map (fun d => d.parameters.length) = some 1) := ⟨jq_in 902 (by decide +kernel) rfl, jq_in 903 (by decide +kernel) rfl, jq_in 145 (by decide +kernel) rfl, jq_in 904 (by decide +kernel) rfl, ⟨by decide, by decide, by decide +kernel⟩⟩
theorem ml_RX10_178 : jq_vl RX10 178 yX7_takeFrom cX7_takeFrom 2 none 1 := ⟨jq_in 901 (by decide +kernel) rfl, yf_X7_takeFrom⟩
theorem fl_RX10_182 : jq_fl RX10 182 4 9 1 false := ⟨RX7, TX7, tyX7, cls_X7, by decide, jq_in 292 (by decide +kernel) rfl, by decide⟩
theorem mw_RX1_102 : Cond.methodLink RX1 102 Lib.Math.abs.name ∈ jq_T := jq_in 942 (by decide +kernel) rfl
theorem mws_abs : Cond.static Lib.Math.abs.name ∈ jq_T := jq_in 943 (by decide +kernel) rfl
theorem mwc_abs : Cond.code Lib.Math.abs.name Lib.Math.abs.code 1 (some .int) ∈ jq_T := jq_in 944 (by decide +kernel) rfl
theorem yf_X1_isWish : Cond.instanceMethod yX1_isWish ∈ jq_T ∧ Cond.selects (yX1_isWish).cls yX1_isWish yX1_isWish ∈ jq_T ∧ Cond.initialized (yX1_isWish).cls ∈ jq_T ∧ Cond.code yX1_isWish cX1_isWish 2 (some .boolean) ∈ jq_T ∧ ((yX1_isWish).cls ≠ "java/lang/invoke/MethodHandle" ∧ (yX1_isWish).cls ≠ "java/lang/invoke/VarHandle" ∧ (parseMethodDescriptor (yX1_isWish).desc).map (fun d => d.parameters.length) = some 1) := ⟨jq_in 931 (by decide +kernel) rfl, jq_in 932 (by decide +kernel) rfl, jq_in 144 (by decide +kernel) rfl, jq_in 933 (by decide +kernel) rfl, ⟨by decide, by decide, by decide +kernel⟩⟩
theorem ml_RX1_119 : jq_vl RX1 119 yX1_isWish cX1_isWish 2 (some .boolean) 1 := ⟨jq_in 930 (by decide +kernel) rfl, yf_X1_isWish⟩
theorem fl_RX1_25 : jq_fl RX1 25 1 21 11 true := ⟨RX1, TX1, tyX1, cls_X1, by decide, jq_in 362 (by decide +kernel) rfl, by decide⟩
theorem fl_RX1_28 : jq_fl RX1 28 1 21 12 true := ⟨RX1, TX1, tyX1, cls_X1, by decide, jq_in 365 (by decide +kernel) rfl, by decide⟩
theorem yf_X1_seatIn : Cond.static yX1_seatIn ∈ jq_T ∧ Cond.initialized (yX1_seatIn).cls ∈ jq_T ∧ Cond.code yX1_seatIn cX1_seatIn 2 (some .int) ∈ jq_T ∧ ((yX1_seatIn).cls ≠ "java/lang/invoke/MethodHandle" ∧ (yX1_seatIn).cls ≠ "java/lang/invoke/VarHandle" ∧ (parseMethodDescriptor (yX1_seatIn).desc).map (fun d => d.parameters.length) = some 2) := ⟨jq_in 935 (by decide +kernel) rfl, jq_in 144 (by decide +kernel) rfl, jq_in 936 (by decide +kernel) rfl, ⟨by decide, by decide, by decide +kernel⟩⟩
theorem ml_RX1_115 : jq_sl RX1 115 yX1_seatIn cX1_seatIn 2 (some .int) 2 := ⟨jq_in 934 (by decide +kernel) rfl, yf_X1_seatIn⟩
theorem yf_X1_opposite : Cond.instanceMethod yX1_opposite ∈ jq_T ∧ Cond.selects (yX1_opposite).cls yX1_opposite yX1_opposite ∈ jq_T ∧ Cond.initialized (yX1_opposite).cls ∈ jq_T ∧ Cond.code yX1_opposite cX1_opposite 3 (some .boolean) ∈ jq_T ∧ ((yX1_opposite).cls ≠ "java/lang/invoke/MethodHandle" ∧ (yX1_opposite).cls ≠ "java/lang/invoke/VarHandle" ∧ (parseMethodDescriptor (yX1_opposite).desc).map (fun d => d.parameters.length) = some 2) := ⟨jq_in 946 (by decide +kernel) rfl, jq_in 947 (by decide +kernel) rfl, jq_in 144 (by decide +kernel) rfl, jq_in 948 (by decide +kernel) rfl, ⟨by decide, by decide, by decide +kernel⟩⟩
theorem ml_RX1_125 : jq_vl RX1 125 yX1_opposite cX1_opposite 3 (some .boolean) 2 := ⟨jq_in 945 (by decide +kernel) rfl, yf_X1_opposite⟩
theorem yf_X1_nextTo : Cond.instanceMethod yX1_nextTo ∈ jq_T ∧ Cond.selects (yX1_nextTo).cls yX1_nextTo yX1_nextTo ∈ jq_T ∧ Cond.initialized (yX1_nextTo).cls ∈ jq_T ∧ Cond.code yX1_nextTo cX1_nextTo 4 (some .boolean) ∈ jq_T ∧ ((yX1_nextTo).cls ≠ "java/lang/invoke/MethodHandle" ∧ (yX1_nextTo).cls ≠ "java/lang/invoke/VarHandle" ∧ (parseMethodDescriptor (yX1_nextTo).desc).map (fun d => d.parameters.length) = some 2) := ⟨jq_in 939 (by decide +kernel) rfl, jq_in 940 (by decide +kernel) rfl, jq_in 144 (by decide +kernel) rfl, jq_in 941 (by decide +kernel) rfl, ⟨by decide, by decide, by decide +kernel⟩⟩
theorem ml_RX1_122 : jq_vl RX1 122 yX1_nextTo cX1_nextTo 4 (some .boolean) 2 := ⟨jq_in 938 (by decide +kernel) rfl, yf_X1_nextTo⟩
theorem ml_RX1_94 : jq_nl RX1 94 yX10_holds "StandTable" cX10_holds 2 (some .boolean) 2 := ⟨jq_inN 937 (by decide +kernel) rfl, yf_X10_holds⟩
theorem fl_RX1_22 : jq_fl RX1 22 1 21 10 true := ⟨RX1, TX1, tyX1, cls_X1, by decide, jq_in 359 (by decide +kernel) rfl, by decide⟩
theorem fl_RX1_56 : jq_fl RX1 56 1 21 20 true := ⟨RX1, TX1, tyX1, cls_X1, by decide, jq_in 392 (by decide +kernel) rfl, by decide⟩
theorem yf_X1_isMet : Cond.instanceMethod yX1_isMet ∈ jq_T ∧ Cond.selects (yX1_isMet).cls yX1_isMet yX1_isMet ∈ jq_T ∧ Cond.initialized (yX1_isMet).cls ∈ jq_T ∧ Cond.code yX1_isMet cX1_isMet 5 (some .boolean) ∈ jq_T ∧ ((yX1_isMet).cls ≠ "java/lang/invoke/MethodHandle" ∧ (yX1_isMet).cls ≠ "java/lang/invoke/VarHandle" ∧ (parseMethodDescriptor (yX1_isMet).desc).map (fun d => d.parameters.length) = some 2) := ⟨jq_in 927 (by decide +kernel) rfl, jq_in 928 (by decide +kernel) rfl, jq_in 144 (by decide +kernel) rfl, jq_in 929 (by decide +kernel) rfl, ⟨by decide, by decide, by decide +kernel⟩⟩
theorem ml_RX1_128 : jq_vl RX1 128 yX1_isMet cX1_isMet 5 (some .boolean) 2 := ⟨jq_in 926 (by decide +kernel) rfl, yf_X1_isMet⟩
theorem yf_X1_isParty : Cond.instanceMethod yX1_isParty ∈ jq_T ∧ Cond.selects (yX1_isParty).cls yX1_isParty yX1_isParty ∈ jq_T ∧ Cond.initialized (yX1_isParty).cls ∈ jq_T ∧ Cond.code yX1_isParty cX1_isParty 2 (some .boolean) ∈ jq_T ∧ ((yX1_isParty).cls ≠ "java/lang/invoke/MethodHandle" ∧ (yX1_isParty).cls ≠ "java/lang/invoke/VarHandle" ∧ (parseMethodDescriptor (yX1_isParty).desc).map (fun d => d.parameters.length) = some 1) := ⟨jq_in 950 (by decide +kernel) rfl, jq_in 951 (by decide +kernel) rfl, jq_in 144 (by decide +kernel) rfl, jq_in 952 (by decide +kernel) rfl, ⟨by decide, by decide, by decide +kernel⟩⟩
theorem ml_RX1_98 : jq_vl RX1 98 yX1_isParty cX1_isParty 2 (some .boolean) 1 := ⟨jq_in 949 (by decide +kernel) rfl, yf_X1_isParty⟩
theorem fl_RX1_31 : jq_fl RX1 31 1 21 13 true := ⟨RX1, TX1, tyX1, cls_X1, by decide, jq_in 368 (by decide +kernel) rfl, by decide⟩
theorem yf_X1_weigh : Cond.instanceMethod yX1_weigh ∈ jq_T ∧ Cond.selects (yX1_weigh).cls yX1_weigh yX1_weigh ∈ jq_T ∧ Cond.initialized (yX1_weigh).cls ∈ jq_T ∧ Cond.code yX1_weigh cX1_weigh 4 none ∈ jq_T ∧ ((yX1_weigh).cls ≠ "java/lang/invoke/MethodHandle" ∧ (yX1_weigh).cls ≠ "java/lang/invoke/VarHandle" ∧ (parseMethodDescriptor (yX1_weigh).desc).map (fun d => d.parameters.length) = some 1) := ⟨jq_in 924 (by decide +kernel) rfl, jq_in 14 (by decide +kernel) rfl, jq_in 144 (by decide +kernel) rfl, jq_in 925 (by decide +kernel) rfl, ⟨by decide, by decide, by decide +kernel⟩⟩
theorem ml_RX1_135 : jq_vl RX1 135 yX1_weigh cX1_weigh 4 none 1 := ⟨jq_in 922 (by decide +kernel) rfl, yf_X1_weigh⟩
theorem fl_RX1_15 : jq_fl RX1 15 1 21 8 true := ⟨RX1, TX1, tyX1, cls_X1, by decide, jq_in 352 (by decide +kernel) rfl, by decide⟩
theorem fl_RX1_43 : jq_fl RX1 43 1 21 17 true := ⟨RX1, TX1, tyX1, cls_X1, by decide, jq_in 381 (by decide +kernel) rfl, by decide⟩
theorem yf_X1_isReady : Cond.instanceMethod yX1_isReady ∈ jq_T ∧ Cond.selects (yX1_isReady).cls yX1_isReady yX1_isReady ∈ jq_T ∧ Cond.initialized (yX1_isReady).cls ∈ jq_T ∧ Cond.code yX1_isReady cX1_isReady 2 (some .boolean) ∈ jq_T ∧ ((yX1_isReady).cls ≠ "java/lang/invoke/MethodHandle" ∧ (yX1_isReady).cls ≠ "java/lang/invoke/VarHandle" ∧ (parseMethodDescriptor (yX1_isReady).desc).map (fun d => d.parameters.length) = some 1) := ⟨jq_in 958 (by decide +kernel) rfl, jq_in 959 (by decide +kernel) rfl, jq_in 144 (by decide +kernel) rfl, jq_in 960 (by decide +kernel) rfl, ⟨by decide, by decide, by decide +kernel⟩⟩
theorem ml_RX1_143 : jq_vl RX1 143 yX1_isReady cX1_isReady 2 (some .boolean) 1 := ⟨jq_in 957 (by decide +kernel) rfl, yf_X1_isReady⟩
theorem dX6_readTest_0 : decode cX6_readTest 0 = .ok (.aload_n 0, 1) := by decide +kernel
theorem dX6_readTest_1 : decode cX6_readTest 1 = .ok (.getfield 24, 3) := by decide +kernel
theorem dX6_readTest_4 : decode cX6_readTest 4 = .ok (.istore 4, 2) := by decide +kernel
theorem dX6_readTest_6 : decode cX6_readTest 6 = .ok (.iconst 0, 1) := by decide +kernel
theorem dX6_readTest_7 : decode cX6_readTest 7 = .ok (.istore 5, 2) := by decide +kernel
theorem dX6_readTest_9 : decode cX6_readTest 9 = .ok (.iload 4, 2) := by decide +kernel
theorem dX6_readTest_11 : decode cX6_readTest 11 = .ok (.bipush 22, 2) := by decide +kernel
theorem dX6_readTest_13 : decode cX6_readTest 13 = .ok (.if_icmp .ne 17, 3) := by decide +kernel
theorem dX6_readTest_16 : decode cX6_readTest 16 = .ok (.aload_n 0, 1) := by decide +kernel
theorem dX6_readTest_17 : decode cX6_readTest 17 = .ok (.invokevirtual 64, 3) := by decide +kernel
theorem dX6_readTest_20 : decode cX6_readTest 20 = .ok (.aload_n 0, 1) := by decide +kernel
theorem dX6_readTest_21 : decode cX6_readTest 21 = .ok (.aload_n 1, 1) := by decide +kernel
theorem dX6_readTest_22 : decode cX6_readTest 22 = .ok (.invokevirtual 94, 3) := by decide +kernel
theorem dX6_readTest_25 : decode cX6_readTest 25 = .ok (.istore 5, 2) := by decide +kernel
theorem dX6_readTest_27 : decode cX6_readTest 27 = .ok (.goto 59, 3) := by decide +kernel
theorem dX6_readTest_30 : decode cX6_readTest 30 = .ok (.iload 4, 2) := by decide +kernel
theorem dX6_readTest_32 : decode cX6_readTest 32 = .ok (.bipush 23, 2) := by decide +kernel
theorem dX6_readTest_34 : decode cX6_readTest 34 = .ok (.if_icmp .ne 17, 3) := by decide +kernel
theorem dX6_readTest_37 : decode cX6_readTest 37 = .ok (.aload_n 0, 1) := by decide +kernel
theorem dX6_readTest_38 : decode cX6_readTest 38 = .ok (.invokevirtual 64, 3) := by decide +kernel
theorem dX6_readTest_41 : decode cX6_readTest 41 = .ok (.aload_n 0, 1) := by decide +kernel
theorem dX6_readTest_42 : decode cX6_readTest 42 = .ok (.aload_n 1, 1) := by decide +kernel
theorem dX6_readTest_43 : decode cX6_readTest 43 = .ok (.invokevirtual 107, 3) := by decide +kernel
theorem dX6_readTest_46 : decode cX6_readTest 46 = .ok (.istore 5, 2) := by decide +kernel
theorem dX6_readTest_48 : decode cX6_readTest 48 = .ok (.goto 38, 3) := by decide +kernel
theorem dX6_readTest_51 : decode cX6_readTest 51 = .ok (.iload 4, 2) := by decide +kernel
theorem dX6_readTest_53 : decode cX6_readTest 53 = .ok (.bipush 24, 2) := by decide +kernel
theorem dX6_readTest_55 : decode cX6_readTest 55 = .ok (.if_icmp .ne 26, 3) := by decide +kernel
theorem dX6_readTest_58 : decode cX6_readTest 58 = .ok (.aload_n 0, 1) := by decide +kernel
theorem dX6_readTest_59 : decode cX6_readTest 59 = .ok (.invokevirtual 64, 3) := by decide +kernel
theorem dX6_readTest_62 : decode cX6_readTest 62 = .ok (.aload_n 0, 1) := by decide +kernel
theorem dX6_readTest_63 : decode cX6_readTest 63 = .ok (.invokevirtual 114, 3) := by decide +kernel
theorem dX6_readTest_66 : decode cX6_readTest 66 = .ok (.istore 4, 2) := by decide +kernel
theorem dX6_readTest_68 : decode cX6_readTest 68 = .ok (.aload_n 0, 1) := by decide +kernel
theorem dX6_readTest_69 : decode cX6_readTest 69 = .ok (.iconst 0, 1) := by decide +kernel
theorem dX6_readTest_70 : decode cX6_readTest 70 = .ok (.sipush 999, 3) := by decide +kernel
theorem dX6_readTest_73 : decode cX6_readTest 73 = .ok (.invokevirtual 103, 3) := by decide +kernel
theorem dX6_readTest_76 : decode cX6_readTest 76 = .ok (.istore 5, 2) := by decide +kernel
theorem dX6_readTest_78 : decode cX6_readTest 78 = .ok (.goto 8, 3) := by decide +kernel
theorem dX6_readTest_81 : decode cX6_readTest 81 = .ok (.aload_n 0, 1) := by decide +kernel
theorem dX6_readTest_82 : decode cX6_readTest 82 = .ok (.iconst 2, 1) := by decide +kernel
theorem dX6_readTest_83 : decode cX6_readTest 83 = .ok (.invokevirtual 57, 3) := by decide +kernel
theorem dX6_readTest_86 : decode cX6_readTest 86 = .ok (.aload_n 2, 1) := by decide +kernel
theorem dX6_readTest_87 : decode cX6_readTest 87 = .ok (.iload_n 3, 1) := by decide +kernel
theorem dX6_readTest_88 : decode cX6_readTest 88 = .ok (.iload 4, 2) := by decide +kernel
theorem dX6_readTest_90 : decode cX6_readTest 90 = .ok (.iload 5, 2) := by decide +kernel
theorem dX6_readTest_92 : decode cX6_readTest 92 = .ok (.invokevirtual 110, 3) := by decide +kernel
theorem dX6_readTest_95 : decode cX6_readTest 95 = .ok (.return_, 1) := by decide +kernel
set_option maxHeartbeats 4000000 in
set_option maxRecDepth 100000 in
theorem ctX6_readTest {p1 : Int} {p2 : Int} {p3 : Int} {σ : jq_M} {σ' : jq_M} (hp1 : jq_com p1) (hp2 : jq_stp p2) (h : X6_readTest p1 p2 p3 σ = some σ') : jq_MC jq_zX yX6_readTest cX6_readTest 6 none 5 128 [jR 2, jR p1, jR p2, jI p3] σ none σ' := by
  refine jq_met (own := RX6) (L0 := [(0, jR 2), (1, jR p1), (2, jR p2), (3, jI p3)]) (by decide) rfl rfl rfl ?_
  intro X Γ hnl hlY hRT
  refine jq_use2 (P := fun r => jq_RT jq_zX X none none r) ?_ h hRT
  intro K0 hK0
  unfold X6_readTest
  have hj86_0 : ∀ (j3 : Int) (j4 : Int) (s5 : jq_M), jq_J (X6_readTest_j86 p2 p3 j3 j4 s5) K0 (jq_V jq_zX X (jq_zN jq_zX) s5 86 [(2, jR p2), (3, jI p3), (4, jI j3), (5, jI j4)] []) := by
    intro j3 j4 s5
    unfold X6_readTest_j86
    refine jq_aload_n Γ dX6_readTest_86 rfl 0 rfl (jq_at_0 (at_stp hp2)) ?_
    refine jq_iload_n Γ dX6_readTest_87 rfl 1 rfl ?_
    refine jq_iload Γ dX6_readTest_88 2 rfl ?_
    refine jq_iload Γ dX6_readTest_90 3 rfl ?_
    refine jq_cwV (jq_virt (avs := [jI p3, jI j3, jI j4]) (st := []) Γ hlY rfl ml_RX6_110 rfl (at_stp hp2) rfl rfl rfl rfl rfl dX6_readTest_92) (fun σ' h => ctX7_setOperands hp2 h) (fun s6 => ?_)
    exact jq_vreturn Γ dX6_readTest_95 (hK0 _)
  refine jq_aload_n Γ dX6_readTest_0 rfl 0 rfl (jq_at_0 at_X_2) ?_
  refine jq_getI (J := 11) Γ at_X_2 fl_RX6_24 rfl rfl dX6_readTest_1 ?_
  refine jq_nmI (fun v1 => ?_)
  refine jq_istore (L' := [(4, jI v1), (0, jR 2), (1, jR p1), (2, jR p2), (3, jI p3)]) Γ dX6_readTest_4 hnl rfl rfl ?_
  refine jq_iconst Γ dX6_readTest_6 rfl ?_
  refine jq_istore (L' := [(5, jI 0), (4, jI v1), (0, jR 2), (1, jR p1), (2, jR p2), (3, jI p3)]) Γ dX6_readTest_7 hnl rfl rfl ?_
  refine jq_iload Γ dX6_readTest_9 1 rfl ?_
  refine jq_bipush Γ dX6_readTest_11 rfl ?_
  refine jq_icmp_ne (tgt := 30) Γ dX6_readTest_13 rfl ?_ ?_
  · refine jq_iload Γ dX6_readTest_30 1 rfl ?_
    refine jq_bipush Γ dX6_readTest_32 rfl ?_
    refine jq_icmp_ne (tgt := 51) Γ dX6_readTest_34 rfl ?_ ?_
    · refine jq_iload Γ dX6_readTest_51 1 rfl ?_
      refine jq_bipush Γ dX6_readTest_53 rfl ?_
      refine jq_icmp_ne (tgt := 81) Γ dX6_readTest_55 rfl ?_ ?_
      · refine jq_aload_n Γ dX6_readTest_81 rfl 2 rfl (jq_at_0 at_X_2) ?_
        refine jq_iconst Γ dX6_readTest_82 rfl ?_
        refine jq_cwV (jq_virt (avs := [jI 2]) (st := []) Γ hlY rfl ml_RX6_57 rfl at_X_2 rfl rfl rfl rfl rfl dX6_readTest_83) (fun σ' h => ctX5_blame h) (fun s2 => ?_)
        refine jq_sub Γ (L' := [(2, jR p2), (3, jI p3), (4, jI v1), (5, jI 0)]) [4, 5, 1, 0] rfl ?_
        exact hj86_0 v1 0 s2
      · refine jq_aload_n Γ dX6_readTest_58 rfl 2 rfl (jq_at_0 at_X_2) ?_
        refine jq_cwV (jq_virt (avs := []) (st := []) Γ hlY rfl ml_RX6_64 rfl at_X_2 rfl rfl rfl rfl rfl dX6_readTest_59) (fun σ' h => ctX5_next h) (fun s7 => ?_)
        refine jq_aload_n Γ dX6_readTest_62 rfl 2 rfl (jq_at_0 at_X_2) ?_
        refine jq_cwI (jq_virt (avs := []) (st := []) Γ hlY rfl ml_RX6_114 rfl at_X_2 rfl rfl rfl rfl rfl dX6_readTest_63) (fun r σ' h => ctX5_takeCompares h) (fun v8 s9 => ?_)
        refine jq_istore (L' := [(4, jI v8), (5, jI 0), (0, jR 2), (1, jR p1), (2, jR p2), (3, jI p3)]) Γ dX6_readTest_66 hnl rfl rfl ?_
        refine jq_aload_n Γ dX6_readTest_68 rfl 2 rfl (jq_at_0 at_X_2) ?_
        refine jq_iconst Γ dX6_readTest_69 rfl ?_
        refine jq_sipush Γ dX6_readTest_70 rfl ?_
        refine jq_cwI (jq_virt (avs := [jI 0, jI 999]) (st := []) Γ hlY rfl ml_RX6_103 rfl at_X_2 rfl rfl rfl rfl rfl dX6_readTest_73) (fun r σ' h => ctX5_takeNumber h) (fun v10 s11 => ?_)
        refine jq_istore (L' := [(5, jI v10), (4, jI v8), (0, jR 2), (1, jR p1), (2, jR p2), (3, jI p3)]) Γ dX6_readTest_76 hnl rfl rfl ?_
        refine jq_goto Γ (tgt := 86) dX6_readTest_78 rfl ?_
        refine jq_sub Γ (L' := [(2, jR p2), (3, jI p3), (4, jI v8), (5, jI v10)]) [4, 5, 1, 0] rfl ?_
        exact hj86_0 v8 v10 s11
    · refine jq_aload_n Γ dX6_readTest_37 rfl 2 rfl (jq_at_0 at_X_2) ?_
      refine jq_cwV (jq_virt (avs := []) (st := []) Γ hlY rfl ml_RX6_64 rfl at_X_2 rfl rfl rfl rfl rfl dX6_readTest_38) (fun σ' h => ctX5_next h) (fun s12 => ?_)
      refine jq_aload_n Γ dX6_readTest_41 rfl 2 rfl (jq_at_0 at_X_2) ?_
      refine jq_aload_n Γ dX6_readTest_42 rfl 3 rfl (jq_at_0 (at_com hp1)) ?_
      refine jq_cwI (jq_virt (avs := [jR p1]) (st := []) Γ hlY rfl ml_RX6_107 rfl at_X_2 rfl rfl rfl rfl rfl dX6_readTest_43) (fun r σ' h => ctX5_takeArticle hp1 h) (fun v13 s14 => ?_)
      refine jq_istore (L' := [(5, jI v13), (4, jI v1), (0, jR 2), (1, jR p1), (2, jR p2), (3, jI p3)]) Γ dX6_readTest_46 hnl rfl rfl ?_
      refine jq_goto Γ (tgt := 86) dX6_readTest_48 rfl ?_
      refine jq_sub Γ (L' := [(2, jR p2), (3, jI p3), (4, jI v1), (5, jI v13)]) [4, 5, 1, 0] rfl ?_
      exact hj86_0 v1 v13 s14
  · refine jq_aload_n Γ dX6_readTest_16 rfl 2 rfl (jq_at_0 at_X_2) ?_
    refine jq_cwV (jq_virt (avs := []) (st := []) Γ hlY rfl ml_RX6_64 rfl at_X_2 rfl rfl rfl rfl rfl dX6_readTest_17) (fun σ' h => ctX5_next h) (fun s15 => ?_)
    refine jq_aload_n Γ dX6_readTest_20 rfl 2 rfl (jq_at_0 at_X_2) ?_
    refine jq_aload_n Γ dX6_readTest_21 rfl 3 rfl (jq_at_0 (at_com hp1)) ?_
    refine jq_cwI (jq_virt (avs := [jR p1]) (st := []) Γ hlY rfl ml_RX6_94 rfl at_X_2 rfl rfl rfl rfl rfl dX6_readTest_22) (fun r σ' h => ctX5_takeParty hp1 h) (fun v16 s17 => ?_)
    refine jq_istore (L' := [(5, jI v16), (4, jI v1), (0, jR 2), (1, jR p1), (2, jR p2), (3, jI p3)]) Γ dX6_readTest_25 hnl rfl rfl ?_
    refine jq_goto Γ (tgt := 86) dX6_readTest_27 rfl ?_
    refine jq_sub Γ (L' := [(2, jR p2), (3, jI p3), (4, jI v1), (5, jI v16)]) [4, 5, 1, 0] rfl ?_
    exact hj86_0 v1 v16 s17


theorem dX6_readOperands_0 : decode cX6_readOperands 0 = .ok (.iconst 0, 1) := by decide +kernel
theorem dX6_readOperands_1 : decode cX6_readOperands 1 = .ok (.istore 5, 2) := by decide +kernel
theorem dX6_readOperands_3 : decode cX6_readOperands 3 = .ok (.iconst 0, 1) := by decide +kernel
theorem dX6_readOperands_4 : decode cX6_readOperands 4 = .ok (.istore 6, 2) := by decide +kernel
theorem dX6_readOperands_6 : decode cX6_readOperands 6 = .ok (.iload 4, 2) := by decide +kernel
theorem dX6_readOperands_8 : decode cX6_readOperands 8 = .ok (.tableswitch 164 13 25 #[68, 91, 101, 118, 130, 142, 142, 164, 164, 164, 164, 164, 152], 68) := by decide +kernel
theorem dX6_readOperands_76 : decode cX6_readOperands 76 = .ok (.aload_n 0, 1) := by decide +kernel
theorem dX6_readOperands_77 : decode cX6_readOperands 77 = .ok (.aload_n 1, 1) := by decide +kernel
theorem dX6_readOperands_78 : decode cX6_readOperands 78 = .ok (.invokevirtual 94, 3) := by decide +kernel
theorem dX6_readOperands_81 : decode cX6_readOperands 81 = .ok (.istore 5, 2) := by decide +kernel
theorem dX6_readOperands_83 : decode cX6_readOperands 83 = .ok (.aload_n 0, 1) := by decide +kernel
theorem dX6_readOperands_84 : decode cX6_readOperands 84 = .ok (.iconst 0, 1) := by decide +kernel
theorem dX6_readOperands_85 : decode cX6_readOperands 85 = .ok (.aload_n 1, 1) := by decide +kernel
theorem dX6_readOperands_86 : decode cX6_readOperands 86 = .ok (.getfield 98, 3) := by decide +kernel
theorem dX6_readOperands_89 : decode cX6_readOperands 89 = .ok (.iconst 1, 1) := by decide +kernel
theorem dX6_readOperands_90 : decode cX6_readOperands 90 = .ok (.isub, 1) := by decide +kernel
theorem dX6_readOperands_91 : decode cX6_readOperands 91 = .ok (.invokevirtual 103, 3) := by decide +kernel
theorem dX6_readOperands_94 : decode cX6_readOperands 94 = .ok (.istore 6, 2) := by decide +kernel
theorem dX6_readOperands_96 : decode cX6_readOperands 96 = .ok (.goto 76, 3) := by decide +kernel
theorem dX6_readOperands_99 : decode cX6_readOperands 99 = .ok (.aload_n 0, 1) := by decide +kernel
theorem dX6_readOperands_100 : decode cX6_readOperands 100 = .ok (.aload_n 1, 1) := by decide +kernel
theorem dX6_readOperands_101 : decode cX6_readOperands 101 = .ok (.invokevirtual 94, 3) := by decide +kernel
theorem dX6_readOperands_104 : decode cX6_readOperands 104 = .ok (.istore 5, 2) := by decide +kernel
theorem dX6_readOperands_106 : decode cX6_readOperands 106 = .ok (.goto 66, 3) := by decide +kernel
theorem dX6_readOperands_109 : decode cX6_readOperands 109 = .ok (.aload_n 0, 1) := by decide +kernel
theorem dX6_readOperands_110 : decode cX6_readOperands 110 = .ok (.aload_n 1, 1) := by decide +kernel
theorem dX6_readOperands_111 : decode cX6_readOperands 111 = .ok (.invokevirtual 94, 3) := by decide +kernel
theorem dX6_readOperands_114 : decode cX6_readOperands 114 = .ok (.istore 5, 2) := by decide +kernel
theorem dX6_readOperands_116 : decode cX6_readOperands 116 = .ok (.aload_n 0, 1) := by decide +kernel
theorem dX6_readOperands_117 : decode cX6_readOperands 117 = .ok (.aload_n 1, 1) := by decide +kernel
theorem dX6_readOperands_118 : decode cX6_readOperands 118 = .ok (.invokevirtual 94, 3) := by decide +kernel
theorem dX6_readOperands_121 : decode cX6_readOperands 121 = .ok (.istore 6, 2) := by decide +kernel
theorem dX6_readOperands_123 : decode cX6_readOperands 123 = .ok (.goto 49, 3) := by decide +kernel
theorem dX6_readOperands_126 : decode cX6_readOperands 126 = .ok (.aload_n 0, 1) := by decide +kernel
theorem dX6_readOperands_127 : decode cX6_readOperands 127 = .ok (.iconst 0, 1) := by decide +kernel
theorem dX6_readOperands_128 : decode cX6_readOperands 128 = .ok (.bipush 9, 2) := by decide +kernel
theorem dX6_readOperands_130 : decode cX6_readOperands 130 = .ok (.invokevirtual 103, 3) := by decide +kernel
theorem dX6_readOperands_133 : decode cX6_readOperands 133 = .ok (.istore 5, 2) := by decide +kernel
theorem dX6_readOperands_135 : decode cX6_readOperands 135 = .ok (.goto 37, 3) := by decide +kernel
theorem dX6_readOperands_138 : decode cX6_readOperands 138 = .ok (.aload_n 0, 1) := by decide +kernel
theorem dX6_readOperands_139 : decode cX6_readOperands 139 = .ok (.iconst 1, 1) := by decide +kernel
theorem dX6_readOperands_140 : decode cX6_readOperands 140 = .ok (.bipush 20, 2) := by decide +kernel
theorem dX6_readOperands_142 : decode cX6_readOperands 142 = .ok (.invokevirtual 103, 3) := by decide +kernel
theorem dX6_readOperands_145 : decode cX6_readOperands 145 = .ok (.istore 5, 2) := by decide +kernel
theorem dX6_readOperands_147 : decode cX6_readOperands 147 = .ok (.goto 25, 3) := by decide +kernel
theorem dX6_readOperands_150 : decode cX6_readOperands 150 = .ok (.aload_n 0, 1) := by decide +kernel
theorem dX6_readOperands_151 : decode cX6_readOperands 151 = .ok (.aload_n 1, 1) := by decide +kernel
theorem dX6_readOperands_152 : decode cX6_readOperands 152 = .ok (.invokevirtual 107, 3) := by decide +kernel
theorem dX6_readOperands_155 : decode cX6_readOperands 155 = .ok (.istore 5, 2) := by decide +kernel
theorem dX6_readOperands_157 : decode cX6_readOperands 157 = .ok (.goto 15, 3) := by decide +kernel
theorem dX6_readOperands_160 : decode cX6_readOperands 160 = .ok (.aload_n 0, 1) := by decide +kernel
theorem dX6_readOperands_161 : decode cX6_readOperands 161 = .ok (.iconst 1, 1) := by decide +kernel
theorem dX6_readOperands_162 : decode cX6_readOperands 162 = .ok (.bipush 99, 2) := by decide +kernel
theorem dX6_readOperands_164 : decode cX6_readOperands 164 = .ok (.invokevirtual 103, 3) := by decide +kernel
theorem dX6_readOperands_167 : decode cX6_readOperands 167 = .ok (.istore 5, 2) := by decide +kernel
theorem dX6_readOperands_169 : decode cX6_readOperands 169 = .ok (.goto 3, 3) := by decide +kernel
theorem dX6_readOperands_172 : decode cX6_readOperands 172 = .ok (.aload_n 2, 1) := by decide +kernel
theorem dX6_readOperands_173 : decode cX6_readOperands 173 = .ok (.iload_n 3, 1) := by decide +kernel
theorem dX6_readOperands_174 : decode cX6_readOperands 174 = .ok (.iload 5, 2) := by decide +kernel
theorem dX6_readOperands_176 : decode cX6_readOperands 176 = .ok (.iload 6, 2) := by decide +kernel
theorem dX6_readOperands_178 : decode cX6_readOperands 178 = .ok (.invokevirtual 110, 3) := by decide +kernel
theorem dX6_readOperands_181 : decode cX6_readOperands 181 = .ok (.return_, 1) := by decide +kernel
set_option maxHeartbeats 4000000 in
set_option maxRecDepth 100000 in
theorem ctX6_readOperands {p1 : Int} {p2 : Int} {p3 : Int} {p4 : Int} {σ : jq_M} {σ' : jq_M} (hp1 : jq_com p1) (hp2 : jq_stp p2) (h : X6_readOperands p1 p2 p3 p4 σ = some σ') : jq_MC jq_zX yX6_readOperands cX6_readOperands 7 none 5 128 [jR 2, jR p1, jR p2, jI p3, jI p4] σ none σ' := by
  refine jq_met (own := RX6) (L0 := [(0, jR 2), (1, jR p1), (2, jR p2), (3, jI p3), (4, jI p4)]) (by decide) rfl rfl rfl ?_
  intro X Γ hnl hlY hRT
  refine jq_use2 (P := fun r => jq_RT jq_zX X none none r) ?_ h hRT
  intro K0 hK0
  unfold X6_readOperands
  have hj172_0 : ∀ (j6 : Int) (j7 : Int) (s8 : jq_M), jq_J (X6_readOperands_j172 p2 p3 j6 j7 s8) K0 (jq_V jq_zX X (jq_zN jq_zX) s8 172 [(2, jR p2), (3, jI p3), (5, jI j6), (6, jI j7)] []) := by
    intro j6 j7 s8
    unfold X6_readOperands_j172
    refine jq_aload_n Γ dX6_readOperands_172 rfl 0 rfl (jq_at_0 (at_stp hp2)) ?_
    refine jq_iload_n Γ dX6_readOperands_173 rfl 1 rfl ?_
    refine jq_iload Γ dX6_readOperands_174 2 rfl ?_
    refine jq_iload Γ dX6_readOperands_176 3 rfl ?_
    refine jq_cwV (jq_virt (avs := [jI p3, jI j6, jI j7]) (st := []) Γ hlY rfl ml_RX6_110 rfl (at_stp hp2) rfl rfl rfl rfl rfl dX6_readOperands_178) (fun σ' h => ctX7_setOperands hp2 h) (fun s9 => ?_)
    exact jq_vreturn Γ dX6_readOperands_181 (hK0 _)
  refine jq_iconst Γ dX6_readOperands_0 rfl ?_
  refine jq_istore (L' := [(5, jI 0), (0, jR 2), (1, jR p1), (2, jR p2), (3, jI p3), (4, jI p4)]) Γ dX6_readOperands_1 hnl rfl rfl ?_
  refine jq_iconst Γ dX6_readOperands_3 rfl ?_
  refine jq_istore (L' := [(6, jI 0), (5, jI 0), (0, jR 2), (1, jR p1), (2, jR p2), (3, jI p3), (4, jI p4)]) Γ dX6_readOperands_4 hnl rfl rfl ?_
  refine jq_iload Γ dX6_readOperands_6 6 rfl ?_
  refine jq_split (fun hc1 => ?_) (fun hn13_8 => ?_)
  · refine jq_tabIn (tgt := 76) Γ dX6_readOperands_8 hc1 rfl rfl rfl ?_
    refine jq_aload_n Γ dX6_readOperands_76 rfl 2 rfl (jq_at_0 at_X_2) ?_
    refine jq_aload_n Γ dX6_readOperands_77 rfl 3 rfl (jq_at_0 (at_com hp1)) ?_
    refine jq_cwI (jq_virt (avs := [jR p1]) (st := []) Γ hlY rfl ml_RX6_94 rfl at_X_2 rfl rfl rfl rfl rfl dX6_readOperands_78) (fun r σ' h => ctX5_takeParty hp1 h) (fun v2 s3 => ?_)
    refine jq_istore (L' := [(5, jI v2), (6, jI 0), (0, jR 2), (1, jR p1), (2, jR p2), (3, jI p3), (4, jI p4)]) Γ dX6_readOperands_81 hnl rfl rfl ?_
    refine jq_aload_n Γ dX6_readOperands_83 rfl 2 rfl (jq_at_0 at_X_2) ?_
    refine jq_iconst Γ dX6_readOperands_84 rfl ?_
    refine jq_aload_n Γ dX6_readOperands_85 rfl 3 rfl (jq_at_0 (at_com hp1)) ?_
    refine jq_getI (J := 0) Γ (at_com hp1) fl_RX6_98 rfl rfl dX6_readOperands_86 ?_
    refine jq_iconst Γ dX6_readOperands_89 rfl ?_
    refine jq_isub Γ dX6_readOperands_90 ?_
    refine jq_cwI (jq_virt (avs := [jI 0, jI (jq_w ((s3 p1 0) - 1))]) (st := []) Γ hlY rfl ml_RX6_103 rfl at_X_2 rfl rfl rfl rfl rfl dX6_readOperands_91) (fun r σ' h => ctX5_takeNumber h) (fun v4 s5 => ?_)
    refine jq_istore (L' := [(6, jI v4), (5, jI v2), (0, jR 2), (1, jR p1), (2, jR p2), (3, jI p3), (4, jI p4)]) Γ dX6_readOperands_94 hnl rfl rfl ?_
    refine jq_goto Γ (tgt := 172) dX6_readOperands_96 rfl ?_
    refine jq_sub Γ (L' := [(2, jR p2), (3, jI p3), (5, jI v2), (6, jI v4)]) [4, 5, 1, 0] rfl ?_
    exact hj172_0 v2 v4 s5
  · refine jq_split (fun hc10 => ?_) (fun hn14_8 => ?_)
    · refine jq_tabIn (tgt := 99) Γ dX6_readOperands_8 hc10 rfl rfl rfl ?_
      refine jq_aload_n Γ dX6_readOperands_99 rfl 2 rfl (jq_at_0 at_X_2) ?_
      refine jq_aload_n Γ dX6_readOperands_100 rfl 3 rfl (jq_at_0 (at_com hp1)) ?_
      refine jq_cwI (jq_virt (avs := [jR p1]) (st := []) Γ hlY rfl ml_RX6_94 rfl at_X_2 rfl rfl rfl rfl rfl dX6_readOperands_101) (fun r σ' h => ctX5_takeParty hp1 h) (fun v11 s12 => ?_)
      refine jq_istore (L' := [(5, jI v11), (6, jI 0), (0, jR 2), (1, jR p1), (2, jR p2), (3, jI p3), (4, jI p4)]) Γ dX6_readOperands_104 hnl rfl rfl ?_
      refine jq_goto Γ (tgt := 172) dX6_readOperands_106 rfl ?_
      refine jq_sub Γ (L' := [(2, jR p2), (3, jI p3), (5, jI v11), (6, jI 0)]) [4, 5, 0, 1] rfl ?_
      exact hj172_0 v11 0 s12
    · refine jq_split (fun hc13 => ?_) (fun hn15_8 => ?_)
      · refine jq_tabIn (tgt := 109) Γ dX6_readOperands_8 hc13 rfl rfl rfl ?_
        refine jq_aload_n Γ dX6_readOperands_109 rfl 2 rfl (jq_at_0 at_X_2) ?_
        refine jq_aload_n Γ dX6_readOperands_110 rfl 3 rfl (jq_at_0 (at_com hp1)) ?_
        refine jq_cwI (jq_virt (avs := [jR p1]) (st := []) Γ hlY rfl ml_RX6_94 rfl at_X_2 rfl rfl rfl rfl rfl dX6_readOperands_111) (fun r σ' h => ctX5_takeParty hp1 h) (fun v14 s15 => ?_)
        refine jq_istore (L' := [(5, jI v14), (6, jI 0), (0, jR 2), (1, jR p1), (2, jR p2), (3, jI p3), (4, jI p4)]) Γ dX6_readOperands_114 hnl rfl rfl ?_
        refine jq_aload_n Γ dX6_readOperands_116 rfl 2 rfl (jq_at_0 at_X_2) ?_
        refine jq_aload_n Γ dX6_readOperands_117 rfl 3 rfl (jq_at_0 (at_com hp1)) ?_
        refine jq_cwI (jq_virt (avs := [jR p1]) (st := []) Γ hlY rfl ml_RX6_94 rfl at_X_2 rfl rfl rfl rfl rfl dX6_readOperands_118) (fun r σ' h => ctX5_takeParty hp1 h) (fun v16 s17 => ?_)
        refine jq_istore (L' := [(6, jI v16), (5, jI v14), (0, jR 2), (1, jR p1), (2, jR p2), (3, jI p3), (4, jI p4)]) Γ dX6_readOperands_121 hnl rfl rfl ?_
        refine jq_goto Γ (tgt := 172) dX6_readOperands_123 rfl ?_
        refine jq_sub Γ (L' := [(2, jR p2), (3, jI p3), (5, jI v14), (6, jI v16)]) [4, 5, 1, 0] rfl ?_
        exact hj172_0 v14 v16 s17
      · refine jq_split (fun hc18 => ?_) (fun hn16_8 => ?_)
        · refine jq_tabIn (tgt := 126) Γ dX6_readOperands_8 hc18 rfl rfl rfl ?_
          refine jq_aload_n Γ dX6_readOperands_126 rfl 2 rfl (jq_at_0 at_X_2) ?_
          refine jq_iconst Γ dX6_readOperands_127 rfl ?_
          refine jq_bipush Γ dX6_readOperands_128 rfl ?_
          refine jq_cwI (jq_virt (avs := [jI 0, jI 9]) (st := []) Γ hlY rfl ml_RX6_103 rfl at_X_2 rfl rfl rfl rfl rfl dX6_readOperands_130) (fun r σ' h => ctX5_takeNumber h) (fun v19 s20 => ?_)
          refine jq_istore (L' := [(5, jI v19), (6, jI 0), (0, jR 2), (1, jR p1), (2, jR p2), (3, jI p3), (4, jI p4)]) Γ dX6_readOperands_133 hnl rfl rfl ?_
          refine jq_goto Γ (tgt := 172) dX6_readOperands_135 rfl ?_
          refine jq_sub Γ (L' := [(2, jR p2), (3, jI p3), (5, jI v19), (6, jI 0)]) [4, 5, 0, 1] rfl ?_
          exact hj172_0 v19 0 s20
        · refine jq_split (fun hc21 => ?_) (fun hn17_8 => ?_)
          · refine jq_tabIn (tgt := 138) Γ dX6_readOperands_8 hc21 rfl rfl rfl ?_
            refine jq_aload_n Γ dX6_readOperands_138 rfl 2 rfl (jq_at_0 at_X_2) ?_
            refine jq_iconst Γ dX6_readOperands_139 rfl ?_
            refine jq_bipush Γ dX6_readOperands_140 rfl ?_
            refine jq_cwI (jq_virt (avs := [jI 1, jI 20]) (st := []) Γ hlY rfl ml_RX6_103 rfl at_X_2 rfl rfl rfl rfl rfl dX6_readOperands_142) (fun r σ' h => ctX5_takeNumber h) (fun v22 s23 => ?_)
            refine jq_istore (L' := [(5, jI v22), (6, jI 0), (0, jR 2), (1, jR p1), (2, jR p2), (3, jI p3), (4, jI p4)]) Γ dX6_readOperands_145 hnl rfl rfl ?_
            refine jq_goto Γ (tgt := 172) dX6_readOperands_147 rfl ?_
            refine jq_sub Γ (L' := [(2, jR p2), (3, jI p3), (5, jI v22), (6, jI 0)]) [4, 5, 0, 1] rfl ?_
            exact hj172_0 v22 0 s23
          · refine jq_split (fun hc24 => ?_) (fun hn18_8 => ?_)
            · refine jq_tabIn (tgt := 150) Γ dX6_readOperands_8 hc24 rfl rfl rfl ?_
              refine jq_aload_n Γ dX6_readOperands_150 rfl 2 rfl (jq_at_0 at_X_2) ?_
              refine jq_aload_n Γ dX6_readOperands_151 rfl 3 rfl (jq_at_0 (at_com hp1)) ?_
              refine jq_cwI (jq_virt (avs := [jR p1]) (st := []) Γ hlY rfl ml_RX6_107 rfl at_X_2 rfl rfl rfl rfl rfl dX6_readOperands_152) (fun r σ' h => ctX5_takeArticle hp1 h) (fun v25 s26 => ?_)
              refine jq_istore (L' := [(5, jI v25), (6, jI 0), (0, jR 2), (1, jR p1), (2, jR p2), (3, jI p3), (4, jI p4)]) Γ dX6_readOperands_155 hnl rfl rfl ?_
              refine jq_goto Γ (tgt := 172) dX6_readOperands_157 rfl ?_
              refine jq_sub Γ (L' := [(2, jR p2), (3, jI p3), (5, jI v25), (6, jI 0)]) [4, 5, 0, 1] rfl ?_
              exact hj172_0 v25 0 s26
            · refine jq_split (fun hc27 => ?_) (fun hn19_8 => ?_)
              · refine jq_tabIn (tgt := 150) Γ dX6_readOperands_8 hc27 rfl rfl rfl ?_
                refine jq_aload_n Γ dX6_readOperands_150 rfl 2 rfl (jq_at_0 at_X_2) ?_
                refine jq_aload_n Γ dX6_readOperands_151 rfl 3 rfl (jq_at_0 (at_com hp1)) ?_
                refine jq_cwI (jq_virt (avs := [jR p1]) (st := []) Γ hlY rfl ml_RX6_107 rfl at_X_2 rfl rfl rfl rfl rfl dX6_readOperands_152) (fun r σ' h => ctX5_takeArticle hp1 h) (fun v28 s29 => ?_)
                refine jq_istore (L' := [(5, jI v28), (6, jI 0), (0, jR 2), (1, jR p1), (2, jR p2), (3, jI p3), (4, jI p4)]) Γ dX6_readOperands_155 hnl rfl rfl ?_
                refine jq_goto Γ (tgt := 172) dX6_readOperands_157 rfl ?_
                refine jq_sub Γ (L' := [(2, jR p2), (3, jI p3), (5, jI v28), (6, jI 0)]) [4, 5, 0, 1] rfl ?_
                exact hj172_0 v28 0 s29
              · refine jq_split (fun hc30 => ?_) (fun hn20_8 => ?_)
                · refine jq_tabIn (tgt := 172) Γ dX6_readOperands_8 hc30 rfl rfl rfl ?_
                  refine jq_sub Γ (L' := [(2, jR p2), (3, jI p3), (5, jI 0), (6, jI 0)]) [4, 5, 1, 0] rfl ?_
                  exact hj172_0 0 0 σ
                · refine jq_split (fun hc31 => ?_) (fun hn21_8 => ?_)
                  · refine jq_tabIn (tgt := 172) Γ dX6_readOperands_8 hc31 rfl rfl rfl ?_
                    refine jq_sub Γ (L' := [(2, jR p2), (3, jI p3), (5, jI 0), (6, jI 0)]) [4, 5, 1, 0] rfl ?_
                    exact hj172_0 0 0 σ
                  · refine jq_split (fun hc32 => ?_) (fun hn22_8 => ?_)
                    · refine jq_tabIn (tgt := 172) Γ dX6_readOperands_8 hc32 rfl rfl rfl ?_
                      refine jq_sub Γ (L' := [(2, jR p2), (3, jI p3), (5, jI 0), (6, jI 0)]) [4, 5, 1, 0] rfl ?_
                      exact hj172_0 0 0 σ
                    · refine jq_split (fun hc33 => ?_) (fun hn23_8 => ?_)
                      · refine jq_tabIn (tgt := 172) Γ dX6_readOperands_8 hc33 rfl rfl rfl ?_
                        refine jq_sub Γ (L' := [(2, jR p2), (3, jI p3), (5, jI 0), (6, jI 0)]) [4, 5, 1, 0] rfl ?_
                        exact hj172_0 0 0 σ
                      · refine jq_split (fun hc34 => ?_) (fun hn24_8 => ?_)
                        · refine jq_tabIn (tgt := 172) Γ dX6_readOperands_8 hc34 rfl rfl rfl ?_
                          refine jq_sub Γ (L' := [(2, jR p2), (3, jI p3), (5, jI 0), (6, jI 0)]) [4, 5, 1, 0] rfl ?_
                          exact hj172_0 0 0 σ
                        · refine jq_split (fun hc35 => ?_) (fun hn25_8 => ?_)
                          · refine jq_tabIn (tgt := 160) Γ dX6_readOperands_8 hc35 rfl rfl rfl ?_
                            refine jq_aload_n Γ dX6_readOperands_160 rfl 2 rfl (jq_at_0 at_X_2) ?_
                            refine jq_iconst Γ dX6_readOperands_161 rfl ?_
                            refine jq_bipush Γ dX6_readOperands_162 rfl ?_
                            refine jq_cwI (jq_virt (avs := [jI 1, jI 99]) (st := []) Γ hlY rfl ml_RX6_103 rfl at_X_2 rfl rfl rfl rfl rfl dX6_readOperands_164) (fun r σ' h => ctX5_takeNumber h) (fun v36 s37 => ?_)
                            refine jq_istore (L' := [(5, jI v36), (6, jI 0), (0, jR 2), (1, jR p1), (2, jR p2), (3, jI p3), (4, jI p4)]) Γ dX6_readOperands_167 hnl rfl rfl ?_
                            refine jq_goto Γ (tgt := 172) dX6_readOperands_169 rfl ?_
                            refine jq_sub Γ (L' := [(2, jR p2), (3, jI p3), (5, jI v36), (6, jI 0)]) [4, 5, 0, 1] rfl ?_
                            exact hj172_0 v36 0 s37
                          · refine jq_tabOut (tgt := 172) Γ dX6_readOperands_8 (by omega) rfl ?_
                            refine jq_sub Γ (L' := [(2, jR p2), (3, jI p3), (5, jI 0), (6, jI 0)]) [4, 5, 1, 0] rfl ?_
                            exact hj172_0 0 0 σ


theorem dX6_readAll_0 : decode cX6_readAll 0 = .ok (.aload_n 2, 1) := by decide +kernel
theorem dX6_readAll_1 : decode cX6_readAll 1 = .ok (.invokevirtual 9, 3) := by decide +kernel
theorem dX6_readAll_4 : decode cX6_readAll 4 = .ok (.aload_n 2, 1) := by decide +kernel
theorem dX6_readAll_5 : decode cX6_readAll 5 = .ok (.iconst 1, 1) := by decide +kernel
theorem dX6_readAll_6 : decode cX6_readAll 6 = .ok (.putfield 14, 3) := by decide +kernel
theorem dX6_readAll_9 : decode cX6_readAll 9 = .ok (.iconst 0, 1) := by decide +kernel
theorem dX6_readAll_10 : decode cX6_readAll 10 = .ok (.istore_n 3, 1) := by decide +kernel
theorem dX6_readAll_11 : decode cX6_readAll 11 = .ok (.iload_n 3, 1) := by decide +kernel
theorem dX6_readAll_12 : decode cX6_readAll 12 = .ok (.sipush 900, 3) := by decide +kernel
theorem dX6_readAll_15 : decode cX6_readAll 15 = .ok (.if_icmp .ge 88, 3) := by decide +kernel
theorem dX6_readAll_18 : decode cX6_readAll 18 = .ok (.aload_n 0, 1) := by decide +kernel
theorem dX6_readAll_19 : decode cX6_readAll 19 = .ok (.invokevirtual 18, 3) := by decide +kernel
theorem dX6_readAll_22 : decode cX6_readAll 22 = .ok (.ifCond .eq 81, 3) := by decide +kernel
theorem dX6_readAll_25 : decode cX6_readAll 25 = .ok (.aload_n 0, 1) := by decide +kernel
theorem dX6_readAll_26 : decode cX6_readAll 26 = .ok (.getfield 24, 3) := by decide +kernel
theorem dX6_readAll_29 : decode cX6_readAll 29 = .ok (.bipush 26, 2) := by decide +kernel
theorem dX6_readAll_31 : decode cX6_readAll 31 = .ok (.if_icmp .ne 11, 3) := by decide +kernel
theorem dX6_readAll_34 : decode cX6_readAll 34 = .ok (.aload_n 0, 1) := by decide +kernel
theorem dX6_readAll_35 : decode cX6_readAll 35 = .ok (.aload_n 2, 1) := by decide +kernel
theorem dX6_readAll_36 : decode cX6_readAll 36 = .ok (.invokestatic 28, 3) := by decide +kernel
theorem dX6_readAll_39 : decode cX6_readAll 39 = .ok (.goto 58, 3) := by decide +kernel
theorem dX6_readAll_42 : decode cX6_readAll 42 = .ok (.aload_n 0, 1) := by decide +kernel
theorem dX6_readAll_43 : decode cX6_readAll 43 = .ok (.aload_n 2, 1) := by decide +kernel
theorem dX6_readAll_44 : decode cX6_readAll 44 = .ok (.invokestatic 34, 3) := by decide +kernel
theorem dX6_readAll_47 : decode cX6_readAll 47 = .ok (.ifCond .eq 50, 3) := by decide +kernel
theorem dX6_readAll_50 : decode cX6_readAll 50 = .ok (.aload_n 0, 1) := by decide +kernel
theorem dX6_readAll_51 : decode cX6_readAll 51 = .ok (.getfield 24, 3) := by decide +kernel
theorem dX6_readAll_54 : decode cX6_readAll 54 = .ok (.istore 4, 2) := by decide +kernel
theorem dX6_readAll_56 : decode cX6_readAll 56 = .ok (.aload_n 0, 1) := by decide +kernel
theorem dX6_readAll_57 : decode cX6_readAll 57 = .ok (.aload_n 2, 1) := by decide +kernel
theorem dX6_readAll_58 : decode cX6_readAll 58 = .ok (.invokestatic 38, 3) := by decide +kernel
theorem dX6_readAll_61 : decode cX6_readAll 61 = .ok (.istore 5, 2) := by decide +kernel
theorem dX6_readAll_63 : decode cX6_readAll 63 = .ok (.iload 4, 2) := by decide +kernel
theorem dX6_readAll_65 : decode cX6_readAll 65 = .ok (.bipush 21, 2) := by decide +kernel
theorem dX6_readAll_67 : decode cX6_readAll 67 = .ok (.if_icmp .ne 14, 3) := by decide +kernel
theorem dX6_readAll_70 : decode cX6_readAll 70 = .ok (.aload_n 0, 1) := by decide +kernel
theorem dX6_readAll_71 : decode cX6_readAll 71 = .ok (.aload_n 1, 1) := by decide +kernel
theorem dX6_readAll_72 : decode cX6_readAll 72 = .ok (.aload_n 2, 1) := by decide +kernel
theorem dX6_readAll_73 : decode cX6_readAll 73 = .ok (.iload 5, 2) := by decide +kernel
theorem dX6_readAll_75 : decode cX6_readAll 75 = .ok (.invokestatic 42, 3) := by decide +kernel
theorem dX6_readAll_78 : decode cX6_readAll 78 = .ok (.goto 13, 3) := by decide +kernel
theorem dX6_readAll_81 : decode cX6_readAll 81 = .ok (.aload_n 0, 1) := by decide +kernel
theorem dX6_readAll_82 : decode cX6_readAll 82 = .ok (.aload_n 1, 1) := by decide +kernel
theorem dX6_readAll_83 : decode cX6_readAll 83 = .ok (.aload_n 2, 1) := by decide +kernel
theorem dX6_readAll_84 : decode cX6_readAll 84 = .ok (.iload 5, 2) := by decide +kernel
theorem dX6_readAll_86 : decode cX6_readAll 86 = .ok (.iload 4, 2) := by decide +kernel
theorem dX6_readAll_88 : decode cX6_readAll 88 = .ok (.invokestatic 46, 3) := by decide +kernel
theorem dX6_readAll_91 : decode cX6_readAll 91 = .ok (.aload_n 0, 1) := by decide +kernel
theorem dX6_readAll_92 : decode cX6_readAll 92 = .ok (.bipush 59, 2) := by decide +kernel
theorem dX6_readAll_94 : decode cX6_readAll 94 = .ok (.invokevirtual 50, 3) := by decide +kernel
theorem dX6_readAll_97 : decode cX6_readAll 97 = .ok (.iinc 3 1, 3) := by decide +kernel
theorem dX6_readAll_100 : decode cX6_readAll 100 = .ok (.goto (-89), 3) := by decide +kernel
theorem dX6_readAll_103 : decode cX6_readAll 103 = .ok (.aload_n 2, 1) := by decide +kernel
theorem dX6_readAll_104 : decode cX6_readAll 104 = .ok (.getfield 54, 3) := by decide +kernel
theorem dX6_readAll_107 : decode cX6_readAll 107 = .ok (.ifCond .le 8, 3) := by decide +kernel
theorem dX6_readAll_110 : decode cX6_readAll 110 = .ok (.aload_n 0, 1) := by decide +kernel
theorem dX6_readAll_111 : decode cX6_readAll 111 = .ok (.iconst 2, 1) := by decide +kernel
theorem dX6_readAll_112 : decode cX6_readAll 112 = .ok (.invokevirtual 57, 3) := by decide +kernel
theorem dX6_readAll_115 : decode cX6_readAll 115 = .ok (.return_, 1) := by decide +kernel
set_option maxHeartbeats 4000000 in
set_option maxRecDepth 100000 in
theorem ctX6_readAll {p1 : Int} {p2 : Int} {σ : jq_M} {σ' : jq_M} (hp1 : jq_com p1) (hp2 : jq_stp p2) (h : X6_readAll p1 p2 σ = some σ') : jq_MC jq_zX yX6_readAll cX6_readAll 6 none 6 154 [jR 2, jR p1, jR p2] σ none σ' := by
  refine jq_met (own := RX6) (L0 := [(0, jR 2), (1, jR p1), (2, jR p2)]) (by decide) rfl rfl rfl ?_
  intro X Γ hnl hlY hRT
  refine jq_use2 (P := fun r => jq_RT jq_zX X none none r) ?_ h hRT
  intro K0 hK0
  unfold X6_readAll
  have hj103_0 : ∀ (s22 : jq_M), jq_J (X6_readAll_j103 p2 s22) K0 (jq_V jq_zX X (jq_zN jq_zX) s22 103 [(0, jR 2), (2, jR p2)] []) := by
    intro s22
    unfold X6_readAll_j103
    refine jq_aload_n Γ dX6_readAll_103 rfl 1 rfl (jq_at_0 (at_stp hp2)) ?_
    refine jq_getI (J := 8) Γ (at_stp hp2) fl_RX6_54 rfl rfl dX6_readAll_104 ?_
    refine jq_if_le (tgt := 115) Γ dX6_readAll_107 rfl ?_ ?_
    · exact jq_vreturn Γ dX6_readAll_115 (hK0 _)
    · refine jq_aload_n Γ dX6_readAll_110 rfl 0 rfl (jq_at_0 at_X_2) ?_
      refine jq_iconst Γ dX6_readAll_111 rfl ?_
      refine jq_cwV (jq_virt (avs := [jI 2]) (st := []) Γ hlY rfl ml_RX6_57 rfl at_X_2 rfl rfl rfl rfl rfl dX6_readAll_112) (fun σ' h => ctX5_blame h) (fun s23 => ?_)
      exact jq_vreturn Γ dX6_readAll_115 (hK0 _)
  refine jq_aload_n Γ dX6_readAll_0 rfl 2 rfl (jq_at_0 (at_stp hp2)) ?_
  refine jq_cwV (jq_virt (avs := []) (st := []) Γ hlY rfl ml_RX6_9 rfl (at_stp hp2) rfl rfl rfl rfl rfl dX6_readAll_1) (fun σ' h => ctX7_clear hp2 h) (fun s1 => ?_)
  refine jq_aload_n Γ dX6_readAll_4 rfl 2 rfl (jq_at_0 (at_stp hp2)) ?_
  refine jq_iconst Γ dX6_readAll_5 rfl ?_
  refine jq_putZ Γ (at_stp hp2) fl_RX6_14 rfl rfl (Or.inr rfl) dX6_readAll_6 (fun s2 => ?_)
  refine jq_iconst Γ dX6_readAll_9 rfl ?_
  refine jq_istore_n (L' := [(3, jI 0), (0, jR 2), (1, jR p1), (2, jR p2)]) Γ dX6_readAll_10 rfl hnl rfl rfl ?_
  refine jq_sub Γ (L' := [(0, jR 2), (1, jR p1), (2, jR p2), (3, jI 0)]) [1, 2, 3, 0] rfl ?_
  refine jq_loop2 (C := fun (t3 : Int × jq_M) => jq_V jq_zX X (jq_zN jq_zX) t3.2 11 [(0, jR 2), (1, jR p1), (2, jR p2), (3, jI t3.1)] []) (KX := fun (e21 : jq_M) => jq_V jq_zX X (jq_zN jq_zX) e21 103 [(0, jR 2), (2, jR p2)] []) ?_ ?_ (0, s2)
  · intro K11_t3 hCt3 hXt3 t3
    unfold X6_readAll_b11
    have hj91_1011 : ∀ (j14 : Int) (s15 : jq_M), jq_J (X6_readAll_j91 p1 p2 j14 s15) K11_t3 (jq_V jq_zX X (jq_zN jq_zX) s15 91 [(0, jR 2), (1, jR p1), (2, jR p2), (3, jI j14)] []) := by
      intro j14 s15
      unfold X6_readAll_j91
      refine jq_aload_n Γ dX6_readAll_91 rfl 0 rfl (jq_at_0 at_X_2) ?_
      refine jq_bipush Γ dX6_readAll_92 rfl ?_
      refine jq_cwV (jq_virt (avs := [jI 59]) (st := []) Γ hlY rfl ml_RX6_50 rfl at_X_2 rfl rfl rfl rfl rfl dX6_readAll_94) (fun σ' h => ctX5_passSign h) (fun s16 => ?_)
      refine jq_iincN (L' := fun v17 => [(3, jI v17), (0, jR 2), (1, jR p1), (2, jR p2)]) Γ dX6_readAll_97 3 rfl hnl rfl (fun _ => rfl) (fun v17 => ?_)
      refine jq_goto Γ (tgt := 11) dX6_readAll_100 rfl ?_
      refine jq_sub Γ (L' := [(0, jR 2), (1, jR p1), (2, jR p2), (3, jI v17)]) [1, 2, 3, 0] rfl ?_
      exact jq_done (hCt3 (v17, s16))
    refine jq_iload_n Γ dX6_readAll_11 rfl 3 rfl ?_
    refine jq_sipush Γ dX6_readAll_12 rfl ?_
    refine jq_icmp_ge (tgt := 103) Γ dX6_readAll_15 rfl ?_ ?_
    · refine jq_sub Γ (L' := [(0, jR 2), (2, jR p2)]) [0, 2] rfl ?_
      exact jq_done (hXt3 t3.2)
    · refine jq_aload_n Γ dX6_readAll_18 rfl 0 rfl (jq_at_0 at_X_2) ?_
      refine jq_cpZ (jq_virt (avs := []) (st := []) Γ hlY rfl ml_RX6_18 rfl at_X_2 rfl rfl rfl rfl rfl dX6_readAll_19) rfl (fun r h => ctX5_goesOn h) (fun v4 hz5 => ?_)
      refine jq_if_eq (tgt := 103) Γ dX6_readAll_22 rfl ?_ ?_
      · refine jq_sub Γ (L' := [(0, jR 2), (2, jR p2)]) [0, 2] rfl ?_
        exact jq_done (hXt3 t3.2)
      · refine jq_aload_n Γ dX6_readAll_25 rfl 0 rfl (jq_at_0 at_X_2) ?_
        refine jq_getI (J := 11) Γ at_X_2 fl_RX6_24 rfl rfl dX6_readAll_26 ?_
        refine jq_bipush Γ dX6_readAll_29 rfl ?_
        refine jq_icmp_ne (tgt := 42) Γ dX6_readAll_31 rfl ?_ ?_
        · refine jq_aload_n Γ dX6_readAll_42 rfl 0 rfl (jq_at_0 at_X_2) ?_
          refine jq_aload_n Γ dX6_readAll_43 rfl 2 rfl (jq_at_0 (at_stp hp2)) ?_
          refine jq_cwZ (jq_stat (avs := [jR 2, jR p2]) (st := []) Γ hlY rfl ml_RX6_34 rfl rfl rfl rfl rfl dX6_readAll_44) rfl (fun r σ' h => ctX6_mayBegin hp2 h) (fun v6 s7 hz8 => ?_)
          refine jq_if_eq (tgt := 97) Γ dX6_readAll_47 rfl ?_ ?_
          · refine jq_iincN (L' := fun v9 => [(3, jI v9), (0, jR 2), (1, jR p1), (2, jR p2)]) Γ dX6_readAll_97 3 rfl hnl rfl (fun _ => rfl) (fun v9 => ?_)
            refine jq_goto Γ (tgt := 11) dX6_readAll_100 rfl ?_
            refine jq_sub Γ (L' := [(0, jR 2), (1, jR p1), (2, jR p2), (3, jI v9)]) [1, 2, 3, 0] rfl ?_
            exact jq_done (hCt3 (v9, s7))
          · refine jq_aload_n Γ dX6_readAll_50 rfl 0 rfl (jq_at_0 at_X_2) ?_
            refine jq_getI (J := 11) Γ at_X_2 fl_RX6_24 rfl rfl dX6_readAll_51 ?_
            refine jq_nmI (fun v10 => ?_)
            refine jq_istore (L' := [(4, jI v10), (0, jR 2), (1, jR p1), (2, jR p2), (3, jI t3.1)]) Γ dX6_readAll_54 hnl rfl rfl ?_
            refine jq_aload_n Γ dX6_readAll_56 rfl 1 rfl (jq_at_0 at_X_2) ?_
            refine jq_aload_n Γ dX6_readAll_57 rfl 3 rfl (jq_at_0 (at_stp hp2)) ?_
            refine jq_cwI (jq_stat (avs := [jR 2, jR p2]) (st := []) Γ hlY rfl ml_RX6_38 rfl rfl rfl rfl rfl dX6_readAll_58) (fun r σ' h => ctX6_beginStep hp2 h) (fun v11 s12 => ?_)
            refine jq_istore (L' := [(5, jI v11), (4, jI v10), (0, jR 2), (1, jR p1), (2, jR p2), (3, jI t3.1)]) Γ dX6_readAll_61 hnl rfl rfl ?_
            refine jq_iload Γ dX6_readAll_63 1 rfl ?_
            refine jq_bipush Γ dX6_readAll_65 rfl ?_
            refine jq_icmp_ne (tgt := 81) Γ dX6_readAll_67 rfl ?_ ?_
            · refine jq_aload_n Γ dX6_readAll_81 rfl 2 rfl (jq_at_0 at_X_2) ?_
              refine jq_aload_n Γ dX6_readAll_82 rfl 3 rfl (jq_at_0 (at_com hp1)) ?_
              refine jq_aload_n Γ dX6_readAll_83 rfl 4 rfl (jq_at_0 (at_stp hp2)) ?_
              refine jq_iload Γ dX6_readAll_84 0 rfl ?_
              refine jq_iload Γ dX6_readAll_86 1 rfl ?_
              refine jq_cwV (jq_stat (avs := [jR 2, jR p1, jR p2, jI v11, jI v10]) (st := []) Γ hlY rfl ml_RX6_46 rfl rfl rfl rfl rfl dX6_readAll_88) (fun σ' h => ctX6_readOperands hp1 hp2 h) (fun s13 => ?_)
              refine jq_sub Γ (L' := [(0, jR 2), (1, jR p1), (2, jR p2), (3, jI t3.1)]) [2, 3, 4, 5] rfl ?_
              exact hj91_1011 t3.1 s13
            · refine jq_aload_n Γ dX6_readAll_70 rfl 2 rfl (jq_at_0 at_X_2) ?_
              refine jq_aload_n Γ dX6_readAll_71 rfl 3 rfl (jq_at_0 (at_com hp1)) ?_
              refine jq_aload_n Γ dX6_readAll_72 rfl 4 rfl (jq_at_0 (at_stp hp2)) ?_
              refine jq_iload Γ dX6_readAll_73 0 rfl ?_
              refine jq_cwV (jq_stat (avs := [jR 2, jR p1, jR p2, jI v11]) (st := []) Γ hlY rfl ml_RX6_42 rfl rfl rfl rfl rfl dX6_readAll_75) (fun σ' h => ctX6_readTest hp1 hp2 h) (fun s18 => ?_)
              refine jq_goto Γ (tgt := 91) dX6_readAll_78 rfl ?_
              refine jq_sub Γ (L' := [(0, jR 2), (1, jR p1), (2, jR p2), (3, jI t3.1)]) [2, 3, 4, 5] rfl ?_
              exact hj91_1011 t3.1 s18
        · refine jq_aload_n Γ dX6_readAll_34 rfl 0 rfl (jq_at_0 at_X_2) ?_
          refine jq_aload_n Γ dX6_readAll_35 rfl 2 rfl (jq_at_0 (at_stp hp2)) ?_
          refine jq_cwV (jq_stat (avs := [jR 2, jR p2]) (st := []) Γ hlY rfl ml_RX6_28 rfl rfl rfl rfl rfl dX6_readAll_36) (fun σ' h => ctX6_readEnd hp2 h) (fun s19 => ?_)
          refine jq_goto Γ (tgt := 97) dX6_readAll_39 rfl ?_
          refine jq_iincN (L' := fun v20 => [(3, jI v20), (0, jR 2), (1, jR p1), (2, jR p2)]) Γ dX6_readAll_97 3 rfl hnl rfl (fun _ => rfl) (fun v20 => ?_)
          refine jq_goto Γ (tgt := 11) dX6_readAll_100 rfl ?_
          refine jq_sub Γ (L' := [(0, jR 2), (1, jR p1), (2, jR p2), (3, jI v20)]) [1, 2, 3, 0] rfl ?_
          exact jq_done (hCt3 (v20, s19))
  · intro e21
    exact hj103_0 e21


theorem dX7_takeFrom_0 : decode cX7_takeFrom 0 = .ok (.aload_n 0, 1) := by decide +kernel
theorem dX7_takeFrom_1 : decode cX7_takeFrom 1 = .ok (.aload_n 1, 1) := by decide +kernel
theorem dX7_takeFrom_2 : decode cX7_takeFrom 2 = .ok (.getfield 27, 3) := by decide +kernel
theorem dX7_takeFrom_5 : decode cX7_takeFrom 5 = .ok (.putfield 27, 3) := by decide +kernel
theorem dX7_takeFrom_8 : decode cX7_takeFrom 8 = .ok (.aload_n 0, 1) := by decide +kernel
theorem dX7_takeFrom_9 : decode cX7_takeFrom 9 = .ok (.aload_n 1, 1) := by decide +kernel
theorem dX7_takeFrom_10 : decode cX7_takeFrom 10 = .ok (.getfield 31, 3) := by decide +kernel
theorem dX7_takeFrom_13 : decode cX7_takeFrom 13 = .ok (.putfield 31, 3) := by decide +kernel
theorem dX7_takeFrom_16 : decode cX7_takeFrom 16 = .ok (.aload_n 0, 1) := by decide +kernel
theorem dX7_takeFrom_17 : decode cX7_takeFrom 17 = .ok (.aload_n 1, 1) := by decide +kernel
theorem dX7_takeFrom_18 : decode cX7_takeFrom 18 = .ok (.getfield 35, 3) := by decide +kernel
theorem dX7_takeFrom_21 : decode cX7_takeFrom 21 = .ok (.putfield 35, 3) := by decide +kernel
theorem dX7_takeFrom_24 : decode cX7_takeFrom 24 = .ok (.aload_n 1, 1) := by decide +kernel
theorem dX7_takeFrom_25 : decode cX7_takeFrom 25 = .ok (.getfield 9, 3) := by decide +kernel
theorem dX7_takeFrom_28 : decode cX7_takeFrom 28 = .ok (.iconst 0, 1) := by decide +kernel
theorem dX7_takeFrom_29 : decode cX7_takeFrom 29 = .ok (.aload_n 0, 1) := by decide +kernel
theorem dX7_takeFrom_30 : decode cX7_takeFrom 30 = .ok (.getfield 9, 3) := by decide +kernel
theorem dX7_takeFrom_33 : decode cX7_takeFrom 33 = .ok (.iconst 0, 1) := by decide +kernel
theorem dX7_takeFrom_34 : decode cX7_takeFrom 34 = .ok (.bipush 60, 2) := by decide +kernel
theorem dX7_takeFrom_36 : decode cX7_takeFrom 36 = .ok (.invokestatic 41, 3) := by decide +kernel
theorem dX7_takeFrom_39 : decode cX7_takeFrom 39 = .ok (.aload_n 1, 1) := by decide +kernel
theorem dX7_takeFrom_40 : decode cX7_takeFrom 40 = .ok (.getfield 15, 3) := by decide +kernel
theorem dX7_takeFrom_43 : decode cX7_takeFrom 43 = .ok (.iconst 0, 1) := by decide +kernel
theorem dX7_takeFrom_44 : decode cX7_takeFrom 44 = .ok (.aload_n 0, 1) := by decide +kernel
theorem dX7_takeFrom_45 : decode cX7_takeFrom 45 = .ok (.getfield 15, 3) := by decide +kernel
theorem dX7_takeFrom_48 : decode cX7_takeFrom 48 = .ok (.iconst 0, 1) := by decide +kernel
theorem dX7_takeFrom_49 : decode cX7_takeFrom 49 = .ok (.bipush 60, 2) := by decide +kernel
theorem dX7_takeFrom_51 : decode cX7_takeFrom 51 = .ok (.invokestatic 41, 3) := by decide +kernel
theorem dX7_takeFrom_54 : decode cX7_takeFrom 54 = .ok (.aload_n 1, 1) := by decide +kernel
theorem dX7_takeFrom_55 : decode cX7_takeFrom 55 = .ok (.getfield 18, 3) := by decide +kernel
theorem dX7_takeFrom_58 : decode cX7_takeFrom 58 = .ok (.iconst 0, 1) := by decide +kernel
theorem dX7_takeFrom_59 : decode cX7_takeFrom 59 = .ok (.aload_n 0, 1) := by decide +kernel
theorem dX7_takeFrom_60 : decode cX7_takeFrom 60 = .ok (.getfield 18, 3) := by decide +kernel
theorem dX7_takeFrom_63 : decode cX7_takeFrom 63 = .ok (.iconst 0, 1) := by decide +kernel
theorem dX7_takeFrom_64 : decode cX7_takeFrom 64 = .ok (.bipush 60, 2) := by decide +kernel
theorem dX7_takeFrom_66 : decode cX7_takeFrom 66 = .ok (.invokestatic 41, 3) := by decide +kernel
theorem dX7_takeFrom_69 : decode cX7_takeFrom 69 = .ok (.aload_n 1, 1) := by decide +kernel
theorem dX7_takeFrom_70 : decode cX7_takeFrom 70 = .ok (.getfield 21, 3) := by decide +kernel
theorem dX7_takeFrom_73 : decode cX7_takeFrom 73 = .ok (.iconst 0, 1) := by decide +kernel
theorem dX7_takeFrom_74 : decode cX7_takeFrom 74 = .ok (.aload_n 0, 1) := by decide +kernel
theorem dX7_takeFrom_75 : decode cX7_takeFrom 75 = .ok (.getfield 21, 3) := by decide +kernel
theorem dX7_takeFrom_78 : decode cX7_takeFrom 78 = .ok (.iconst 0, 1) := by decide +kernel
theorem dX7_takeFrom_79 : decode cX7_takeFrom 79 = .ok (.bipush 60, 2) := by decide +kernel
theorem dX7_takeFrom_81 : decode cX7_takeFrom 81 = .ok (.invokestatic 41, 3) := by decide +kernel
theorem dX7_takeFrom_84 : decode cX7_takeFrom 84 = .ok (.return_, 1) := by decide +kernel
set_option maxHeartbeats 4000000 in
set_option maxRecDepth 100000 in
theorem ctX7_takeFrom {o : Int} {p1 : Int} {σ : jq_M} {σ' : jq_M} (ho : jq_stp o) (hp1 : jq_stp p1) (h : X7_takeFrom o p1 σ = some σ') : jq_MC jq_zX yX7_takeFrom cX7_takeFrom 2 none 1 40 [jR o, jR p1] σ none σ' := by
  refine jq_met (own := RX7) (L0 := [(0, jR o), (1, jR p1)]) (by decide) rfl rfl rfl ?_
  intro X Γ hnl hlY hRT
  refine jq_use2 (P := fun r => jq_RT jq_zX X none none r) ?_ h hRT
  intro K0 hK0
  unfold X7_takeFrom
  refine jq_aload_n Γ dX7_takeFrom_0 rfl 0 rfl (jq_at_0 (at_stp ho)) ?_
  refine jq_aload_n Γ dX7_takeFrom_1 rfl 1 rfl (jq_at_0 (at_stp hp1)) ?_
  refine jq_getZ (J := 0) Γ (at_stp hp1) fl_RX7_27 rfl rfl dX7_takeFrom_2 (fun v1 hz2 => ?_)
  refine jq_putZ Γ (at_stp ho) fl_RX7_27 rfl rfl (hz2) dX7_takeFrom_5 (fun s3 => ?_)
  refine jq_aload_n Γ dX7_takeFrom_8 rfl 0 rfl (jq_at_0 (at_stp ho)) ?_
  refine jq_aload_n Γ dX7_takeFrom_9 rfl 1 rfl (jq_at_0 (at_stp hp1)) ?_
  refine jq_getI (J := 1) Γ (at_stp hp1) fl_RX7_31 rfl rfl dX7_takeFrom_10 ?_
  refine jq_putI Γ (at_stp ho) fl_RX7_31 rfl rfl dX7_takeFrom_13 (fun s4 => ?_)
  refine jq_aload_n Γ dX7_takeFrom_16 rfl 0 rfl (jq_at_0 (at_stp ho)) ?_
  refine jq_aload_n Γ dX7_takeFrom_17 rfl 1 rfl (jq_at_0 (at_stp hp1)) ?_
  refine jq_getI (J := 2) Γ (at_stp hp1) fl_RX7_35 rfl rfl dX7_takeFrom_18 ?_
  refine jq_putI Γ (at_stp ho) fl_RX7_35 rfl rfl dX7_takeFrom_21 (fun s5 => ?_)
  refine jq_aload_n Γ dX7_takeFrom_24 rfl 1 rfl (jq_at_0 (at_stp hp1)) ?_
  refine jq_getR (v := (p1 + 1)) Γ hlY (at_stp hp1) fl_RX7_9 rfl rfl (ly_X7_words hp1) dX7_takeFrom_25 ?_
  refine jq_iconst Γ dX7_takeFrom_28 rfl ?_
  refine jq_aload_n Γ dX7_takeFrom_29 rfl 0 rfl (jq_at_0 (at_stp ho)) ?_
  refine jq_getR (v := (o + 1)) Γ hlY (at_stp ho) fl_RX7_9 rfl rfl (ly_X7_words ho) dX7_takeFrom_30 ?_
  refine jq_iconst Γ dX7_takeFrom_33 rfl ?_
  refine jq_bipush Γ dX7_takeFrom_34 rfl ?_
  refine jq_copyi Γ (at_stp_1 hp1) (at_stp_1 ho) rfl rfl rfl aw_RX7_41 awn aws awi rfl rfl dX7_takeFrom_36 (fun s6 => ?_)
  refine jq_aload_n Γ dX7_takeFrom_39 rfl 1 rfl (jq_at_0 (at_stp hp1)) ?_
  refine jq_getR (v := (p1 + 2)) Γ hlY (at_stp hp1) fl_RX7_15 rfl rfl (ly_X7_first hp1) dX7_takeFrom_40 ?_
  refine jq_iconst Γ dX7_takeFrom_43 rfl ?_
  refine jq_aload_n Γ dX7_takeFrom_44 rfl 0 rfl (jq_at_0 (at_stp ho)) ?_
  refine jq_getR (v := (o + 2)) Γ hlY (at_stp ho) fl_RX7_15 rfl rfl (ly_X7_first ho) dX7_takeFrom_45 ?_
  refine jq_iconst Γ dX7_takeFrom_48 rfl ?_
  refine jq_bipush Γ dX7_takeFrom_49 rfl ?_
  refine jq_copyi Γ (at_stp_2 hp1) (at_stp_2 ho) rfl rfl rfl aw_RX7_41 awn aws awi rfl rfl dX7_takeFrom_51 (fun s7 => ?_)
  refine jq_aload_n Γ dX7_takeFrom_54 rfl 1 rfl (jq_at_0 (at_stp hp1)) ?_
  refine jq_getR (v := (p1 + 3)) Γ hlY (at_stp hp1) fl_RX7_18 rfl rfl (ly_X7_second hp1) dX7_takeFrom_55 ?_
  refine jq_iconst Γ dX7_takeFrom_58 rfl ?_
  refine jq_aload_n Γ dX7_takeFrom_59 rfl 0 rfl (jq_at_0 (at_stp ho)) ?_
  refine jq_getR (v := (o + 3)) Γ hlY (at_stp ho) fl_RX7_18 rfl rfl (ly_X7_second ho) dX7_takeFrom_60 ?_
  refine jq_iconst Γ dX7_takeFrom_63 rfl ?_
  refine jq_bipush Γ dX7_takeFrom_64 rfl ?_
  refine jq_copyi Γ (at_stp_3 hp1) (at_stp_3 ho) rfl rfl rfl aw_RX7_41 awn aws awi rfl rfl dX7_takeFrom_66 (fun s8 => ?_)
  refine jq_aload_n Γ dX7_takeFrom_69 rfl 1 rfl (jq_at_0 (at_stp hp1)) ?_
  refine jq_getR (v := (p1 + 4)) Γ hlY (at_stp hp1) fl_RX7_21 rfl rfl (ly_X7_mates hp1) dX7_takeFrom_70 ?_
  refine jq_iconst Γ dX7_takeFrom_73 rfl ?_
  refine jq_aload_n Γ dX7_takeFrom_74 rfl 0 rfl (jq_at_0 (at_stp ho)) ?_
  refine jq_getR (v := (o + 4)) Γ hlY (at_stp ho) fl_RX7_21 rfl rfl (ly_X7_mates ho) dX7_takeFrom_75 ?_
  refine jq_iconst Γ dX7_takeFrom_78 rfl ?_
  refine jq_bipush Γ dX7_takeFrom_79 rfl ?_
  refine jq_copyi Γ (at_stp_4 hp1) (at_stp_4 ho) rfl rfl rfl aw_RX7_41 awn aws awi rfl rfl dX7_takeFrom_81 (fun s9 => ?_)
  exact jq_vreturn Γ dX7_takeFrom_84 (hK0 _)


theorem dX10_sessions_0 : decode cX10_sessions 0 = .ok (.iload_n 1, 1) := by decide +kernel
theorem dX10_sessions_1 : decode cX10_sessions 1 = .ok (.ifCond .lt 21, 3) := by decide +kernel
theorem dX10_sessions_4 : decode cX10_sessions 4 = .ok (.iload_n 1, 1) := by decide +kernel
theorem dX10_sessions_5 : decode cX10_sessions 5 = .ok (.aload_n 0, 1) := by decide +kernel
theorem dX10_sessions_6 : decode cX10_sessions 6 = .ok (.getfield 18, 3) := by decide +kernel
theorem dX10_sessions_9 : decode cX10_sessions 9 = .ok (.getfield 145, 3) := by decide +kernel
theorem dX10_sessions_12 : decode cX10_sessions 12 = .ok (.if_icmp .gt 10, 3) := by decide +kernel
theorem dX10_sessions_15 : decode cX10_sessions 15 = .ok (.iload_n 1, 1) := by decide +kernel
theorem dX10_sessions_16 : decode cX10_sessions 16 = .ok (.sipush 300, 3) := by decide +kernel
theorem dX10_sessions_19 : decode cX10_sessions 19 = .ok (.if_icmp .le 9, 3) := by decide +kernel
theorem dX10_sessions_22 : decode cX10_sessions 22 = .ok (.aload_n 0, 1) := by decide +kernel
theorem dX10_sessions_23 : decode cX10_sessions 23 = .ok (.iconst 1, 1) := by decide +kernel
theorem dX10_sessions_24 : decode cX10_sessions 24 = .ok (.invokevirtual 117, 3) := by decide +kernel
theorem dX10_sessions_27 : decode cX10_sessions 27 = .ok (.ireturn, 1) := by decide +kernel
theorem dX10_sessions_28 : decode cX10_sessions 28 = .ok (.aload_n 0, 1) := by decide +kernel
theorem dX10_sessions_29 : decode cX10_sessions 29 = .ok (.getfield 18, 3) := by decide +kernel
theorem dX10_sessions_32 : decode cX10_sessions 32 = .ok (.iload_n 1, 1) := by decide +kernel
theorem dX10_sessions_33 : decode cX10_sessions 33 = .ok (.invokevirtual 152, 3) := by decide +kernel
theorem dX10_sessions_36 : decode cX10_sessions 36 = .ok (.aload_n 0, 1) := by decide +kernel
theorem dX10_sessions_37 : decode cX10_sessions 37 = .ok (.getfield 18, 3) := by decide +kernel
theorem dX10_sessions_40 : decode cX10_sessions 40 = .ok (.aload_n 0, 1) := by decide +kernel
theorem dX10_sessions_41 : decode cX10_sessions 41 = .ok (.getfield 25, 3) := by decide +kernel
theorem dX10_sessions_44 : decode cX10_sessions 44 = .ok (.aload_n 0, 1) := by decide +kernel
theorem dX10_sessions_45 : decode cX10_sessions 45 = .ok (.getfield 35, 3) := by decide +kernel
theorem dX10_sessions_48 : decode cX10_sessions 48 = .ok (.invokestatic 170, 3) := by decide +kernel
theorem dX10_sessions_51 : decode cX10_sessions 51 = .ok (.aload_n 0, 1) := by decide +kernel
theorem dX10_sessions_52 : decode cX10_sessions 52 = .ok (.invokevirtual 161, 3) := by decide +kernel
theorem dX10_sessions_55 : decode cX10_sessions 55 = .ok (.ifCond .ne 10, 3) := by decide +kernel
theorem dX10_sessions_58 : decode cX10_sessions 58 = .ok (.aload_n 0, 1) := by decide +kernel
theorem dX10_sessions_59 : decode cX10_sessions 59 = .ok (.bipush 9, 2) := by decide +kernel
theorem dX10_sessions_61 : decode cX10_sessions 61 = .ok (.invokevirtual 117, 3) := by decide +kernel
theorem dX10_sessions_64 : decode cX10_sessions 64 = .ok (.ireturn, 1) := by decide +kernel
theorem dX10_sessions_65 : decode cX10_sessions 65 = .ok (.aload_n 0, 1) := by decide +kernel
theorem dX10_sessions_66 : decode cX10_sessions 66 = .ok (.getfield 25, 3) := by decide +kernel
theorem dX10_sessions_69 : decode cX10_sessions 69 = .ok (.getfield 175, 3) := by decide +kernel
theorem dX10_sessions_72 : decode cX10_sessions 72 = .ok (.aload_n 0, 1) := by decide +kernel
theorem dX10_sessions_73 : decode cX10_sessions 73 = .ok (.getfield 35, 3) := by decide +kernel
theorem dX10_sessions_76 : decode cX10_sessions 76 = .ok (.invokevirtual 178, 3) := by decide +kernel
theorem dX10_sessions_79 : decode cX10_sessions 79 = .ok (.aload_n 0, 1) := by decide +kernel
theorem dX10_sessions_80 : decode cX10_sessions 80 = .ok (.aload_n 0, 1) := by decide +kernel
theorem dX10_sessions_81 : decode cX10_sessions 81 = .ok (.getfield 25, 3) := by decide +kernel
theorem dX10_sessions_84 : decode cX10_sessions 84 = .ok (.getfield 175, 3) := by decide +kernel
theorem dX10_sessions_87 : decode cX10_sessions 87 = .ok (.getfield 182, 3) := by decide +kernel
theorem dX10_sessions_90 : decode cX10_sessions 90 = .ok (.invokevirtual 167, 3) := by decide +kernel
theorem dX10_sessions_93 : decode cX10_sessions 93 = .ok (.ireturn, 1) := by decide +kernel
set_option maxHeartbeats 4000000 in
set_option maxRecDepth 100000 in
theorem ctX10_sessions {p1 : Int} {σ : jq_M} {res : Int} {σ' : jq_M}  (h : X10_sessions p1 σ = some (res, σ')) : jq_MC jq_zX yX10_sessions cX10_sessions 2 (some .int) 7 179 [jR 0, jI p1] σ (some (jI res)) σ' := by
  refine jq_met (own := RX10) (L0 := [(0, jR 0), (1, jI p1)]) (by decide) rfl rfl rfl ?_
  intro X Γ hnl hlY hRT
  refine jq_use2 (P := fun r => jq_RT jq_zX X (some .int) (some (jI r.1)) r.2) ?_ h hRT
  intro K0 hK0
  unfold X10_sessions
  have hj22_0 : ∀ (s1 : jq_M), jq_J (X10_sessions_j22 s1) K0 (jq_V jq_zX X (jq_zN jq_zX) s1 22 [(0, jR 0)] []) := by
    intro s1
    unfold X10_sessions_j22
    refine jq_aload_n Γ dX10_sessions_22 rfl 0 rfl (jq_at_0 at_X_0) ?_
    refine jq_iconst Γ dX10_sessions_23 rfl ?_
    refine jq_cwI (jq_virt (avs := [jI 1]) (st := []) Γ hlY rfl ml_RX10_117 rfl at_X_0 rfl rfl rfl rfl rfl dX10_sessions_24) (fun r σ' h => ctX10_refuse h) (fun v2 s3 => ?_)
    exact jq_ireturn Γ dX10_sessions_27 (hK0 _)
  refine jq_iload_n Γ dX10_sessions_0 rfl 1 rfl ?_
  refine jq_if_lt (tgt := 22) Γ dX10_sessions_1 rfl ?_ ?_
  · refine jq_sub Γ (L' := [(0, jR 0)]) [0] rfl ?_
    exact hj22_0 σ
  · refine jq_iload_n Γ dX10_sessions_4 rfl 1 rfl ?_
    refine jq_aload_n Γ dX10_sessions_5 rfl 0 rfl (jq_at_0 at_X_0) ?_
    refine jq_getR (v := 2) Γ hlY at_X_0 fl_RX10_18 rfl rfl ly_X10_reader dX10_sessions_6 ?_
    refine jq_getI (J := 2) Γ at_X_2 fl_RX10_145 rfl rfl dX10_sessions_9 ?_
    refine jq_icmp_gt (tgt := 22) Γ dX10_sessions_12 rfl ?_ ?_
    · refine jq_sub Γ (L' := [(0, jR 0)]) [0] rfl ?_
      exact hj22_0 σ
    · refine jq_iload_n Γ dX10_sessions_15 rfl 1 rfl ?_
      refine jq_sipush Γ dX10_sessions_16 rfl ?_
      refine jq_icmp_le (tgt := 28) Γ dX10_sessions_19 rfl ?_ ?_
      · refine jq_aload_n Γ dX10_sessions_28 rfl 0 rfl (jq_at_0 at_X_0) ?_
        refine jq_getR (v := 2) Γ hlY at_X_0 fl_RX10_18 rfl rfl ly_X10_reader dX10_sessions_29 ?_
        refine jq_iload_n Γ dX10_sessions_32 rfl 1 rfl ?_
        refine jq_cwV (jq_virt (avs := [jI p1]) (st := []) Γ hlY rfl ml_RX10_152 rfl at_X_2 rfl rfl rfl rfl rfl dX10_sessions_33) (fun σ' h => ctX5_open h) (fun s4 => ?_)
        refine jq_aload_n Γ dX10_sessions_36 rfl 0 rfl (jq_at_0 at_X_0) ?_
        refine jq_getR (v := 2) Γ hlY at_X_0 fl_RX10_18 rfl rfl ly_X10_reader dX10_sessions_37 ?_
        refine jq_aload_n Γ dX10_sessions_40 rfl 0 rfl (jq_at_0 at_X_0) ?_
        refine jq_getC (C := jq_cm2) Γ hlY at_X_0 fl_RX10_25 rfl rfl ly_now dX10_sessions_41 (fun c5 hc6q => ?_)
        have hc6 := jq_cm2_com hc6q
        refine jq_aload_n Γ dX10_sessions_44 rfl 0 rfl (jq_at_0 at_X_0) ?_
        refine jq_getR (v := 45) Γ hlY at_X_0 fl_RX10_35 rfl rfl ly_X10_spareSteps dX10_sessions_45 ?_
        refine jq_cwV (jq_stat (avs := [jR 2, jR c5, jR 45]) (st := []) Γ hlY rfl ml_RX10_170 rfl rfl rfl rfl rfl dX10_sessions_48) (fun σ' h => ctX6_readAll hc6 stp_45 h) (fun s7 => ?_)
        refine jq_aload_n Γ dX10_sessions_51 rfl 0 rfl (jq_at_0 at_X_0) ?_
        refine jq_cwZ (jq_virt (avs := []) (st := []) Γ hlY rfl ml_RX10_161 rfl at_X_0 rfl rfl rfl rfl rfl dX10_sessions_52) rfl (fun r σ' h => ctX10_keepFault h) (fun v8 s9 hz10 => ?_)
        refine jq_if_ne (tgt := 65) Γ dX10_sessions_55 rfl ?_ ?_
        · refine jq_aload_n Γ dX10_sessions_65 rfl 0 rfl (jq_at_0 at_X_0) ?_
          refine jq_getC (C := jq_cm2) Γ hlY at_X_0 fl_RX10_25 rfl rfl ly_now dX10_sessions_66 (fun c11 hc12q => ?_)
          have hc12 := jq_cm2_com hc12q
          refine jq_getR (v := (c11 + 13)) Γ hlY (at_com hc12) fl_RX10_175 rfl rfl (ly_X1_steps hc12) dX10_sessions_69 ?_
          refine jq_aload_n Γ dX10_sessions_72 rfl 0 rfl (jq_at_0 at_X_0) ?_
          refine jq_getR (v := 45) Γ hlY at_X_0 fl_RX10_35 rfl rfl ly_X10_spareSteps dX10_sessions_73 ?_
          refine jq_cwV (jq_virt (avs := [jR 45]) (st := []) Γ hlY rfl ml_RX10_178 rfl (at_stp (stp_com hc12)) rfl rfl rfl rfl rfl dX10_sessions_76) (fun σ' h => ctX7_takeFrom (stp_com hc12) stp_45 h) (fun s13 => ?_)
          refine jq_aload_n Γ dX10_sessions_79 rfl 0 rfl (jq_at_0 at_X_0) ?_
          refine jq_aload_n Γ dX10_sessions_80 rfl 0 rfl (jq_at_0 at_X_0) ?_
          refine jq_getC (C := jq_cm2) Γ hlY at_X_0 fl_RX10_25 rfl rfl ly_now dX10_sessions_81 (fun c14 hc15q => ?_)
          have hc15 := jq_cm2_com hc15q
          refine jq_getR (v := (c14 + 13)) Γ hlY (at_com hc15) fl_RX10_175 rfl rfl (ly_X1_steps hc15) dX10_sessions_84 ?_
          refine jq_getI (J := 1) Γ (at_stp (stp_com hc15)) fl_RX10_182 rfl rfl dX10_sessions_87 ?_
          refine jq_cwI (jq_virt (avs := [jI (s13 (c14 + 13) 1)]) (st := []) Γ hlY rfl ml_RX10_167 rfl at_X_0 rfl rfl rfl rfl rfl dX10_sessions_90) (fun r σ' h => ctX10_answer h) (fun v16 s17 => ?_)
          exact jq_ireturn Γ dX10_sessions_93 (hK0 _)
        · refine jq_aload_n Γ dX10_sessions_58 rfl 0 rfl (jq_at_0 at_X_0) ?_
          refine jq_bipush Γ dX10_sessions_59 rfl ?_
          refine jq_cwI (jq_virt (avs := [jI 9]) (st := []) Γ hlY rfl ml_RX10_117 rfl at_X_0 rfl rfl rfl rfl rfl dX10_sessions_61) (fun r σ' h => ctX10_refuse h) (fun v18 s19 => ?_)
          exact jq_ireturn Γ dX10_sessions_64 (hK0 _)
      · refine jq_sub Γ (L' := [(0, jR 0)]) [0] rfl ?_
        exact hj22_0 σ


theorem dX10_fault_0 : decode cX10_fault 0 = .ok (.iload_n 1, 1) := by decide +kernel
theorem dX10_fault_1 : decode cX10_fault 1 = .ok (.ifCond .ne 8, 3) := by decide +kernel
theorem dX10_fault_4 : decode cX10_fault 4 = .ok (.aload_n 0, 1) := by decide +kernel
theorem dX10_fault_5 : decode cX10_fault 5 = .ok (.getfield 82, 3) := by decide +kernel
theorem dX10_fault_8 : decode cX10_fault 8 = .ok (.ireturn, 1) := by decide +kernel
theorem dX10_fault_9 : decode cX10_fault 9 = .ok (.iload_n 1, 1) := by decide +kernel
theorem dX10_fault_10 : decode cX10_fault 10 = .ok (.iconst 1, 1) := by decide +kernel
theorem dX10_fault_11 : decode cX10_fault 11 = .ok (.if_icmp .ne 10, 3) := by decide +kernel
theorem dX10_fault_14 : decode cX10_fault 14 = .ok (.aload_n 0, 1) := by decide +kernel
theorem dX10_fault_15 : decode cX10_fault 15 = .ok (.getfield 85, 3) := by decide +kernel
theorem dX10_fault_18 : decode cX10_fault 18 = .ok (.goto 4, 3) := by decide +kernel
theorem dX10_fault_21 : decode cX10_fault 21 = .ok (.iconst (-1), 1) := by decide +kernel
theorem dX10_fault_22 : decode cX10_fault 22 = .ok (.ireturn, 1) := by decide +kernel
set_option maxHeartbeats 4000000 in
set_option maxRecDepth 100000 in
theorem ctX10_fault {p1 : Int} {σ : jq_M} {res : Int}  (h : X10_fault p1 σ = some res) : jq_MC jq_zX yX10_fault cX10_fault 2 (some .int) 1 40 [jR 0, jI p1] σ (some (jI res)) σ := by
  refine jq_met (own := RX10) (L0 := [(0, jR 0), (1, jI p1)]) (by decide) rfl rfl rfl ?_
  intro X Γ hnl hlY hRT
  refine jq_use2 (P := fun r => jq_RT jq_zX X (some .int) (some (jI r)) σ) ?_ h hRT
  intro K0 hK0
  unfold X10_fault
  refine jq_iload_n Γ dX10_fault_0 rfl 1 rfl ?_
  refine jq_if_ne (tgt := 9) Γ dX10_fault_1 rfl ?_ ?_
  · refine jq_iload_n Γ dX10_fault_9 rfl 1 rfl ?_
    refine jq_iconst Γ dX10_fault_10 rfl ?_
    refine jq_icmp_ne (tgt := 21) Γ dX10_fault_11 rfl ?_ ?_
    · refine jq_iconst Γ dX10_fault_21 rfl ?_
      exact jq_ireturn Γ dX10_fault_22 (hK0 _)
    · refine jq_aload_n Γ dX10_fault_14 rfl 0 rfl (jq_at_0 at_X_0) ?_
      refine jq_getI (J := 6) Γ at_X_0 fl_RX10_85 rfl rfl dX10_fault_15 ?_
      refine jq_goto Γ (tgt := 22) dX10_fault_18 rfl ?_
      exact jq_ireturn Γ dX10_fault_22 (hK0 _)
  · refine jq_aload_n Γ dX10_fault_4 rfl 0 rfl (jq_at_0 at_X_0) ?_
    refine jq_getI (J := 5) Γ at_X_0 fl_RX10_82 rfl rfl dX10_fault_5 ?_
    exact jq_ireturn Γ dX10_fault_8 (hK0 _)


theorem dX1_sittersOf_0 : decode cX1_sittersOf 0 = .ok (.iconst 0, 1) := by decide +kernel
theorem dX1_sittersOf_1 : decode cX1_sittersOf 1 = .ok (.istore_n 2, 1) := by decide +kernel
theorem dX1_sittersOf_2 : decode cX1_sittersOf 2 = .ok (.iconst 0, 1) := by decide +kernel
theorem dX1_sittersOf_3 : decode cX1_sittersOf 3 = .ok (.istore_n 3, 1) := by decide +kernel
theorem dX1_sittersOf_4 : decode cX1_sittersOf 4 = .ok (.iload_n 3, 1) := by decide +kernel
theorem dX1_sittersOf_5 : decode cX1_sittersOf 5 = .ok (.aload_n 0, 1) := by decide +kernel
theorem dX1_sittersOf_6 : decode cX1_sittersOf 6 = .ok (.getfield 66, 3) := by decide +kernel
theorem dX1_sittersOf_9 : decode cX1_sittersOf 9 = .ok (.if_icmp .ge 28, 3) := by decide +kernel
theorem dX1_sittersOf_12 : decode cX1_sittersOf 12 = .ok (.iload_n 3, 1) := by decide +kernel
theorem dX1_sittersOf_13 : decode cX1_sittersOf 13 = .ok (.aload_n 1, 1) := by decide +kernel
theorem dX1_sittersOf_14 : decode cX1_sittersOf 14 = .ok (.arraylength, 1) := by decide +kernel
theorem dX1_sittersOf_15 : decode cX1_sittersOf 15 = .ok (.if_icmp .ge 22, 3) := by decide +kernel
theorem dX1_sittersOf_18 : decode cX1_sittersOf 18 = .ok (.aload_n 1, 1) := by decide +kernel
theorem dX1_sittersOf_19 : decode cX1_sittersOf 19 = .ok (.iload_n 3, 1) := by decide +kernel
theorem dX1_sittersOf_20 : decode cX1_sittersOf 20 = .ok (.iaload, 1) := by decide +kernel
theorem dX1_sittersOf_21 : decode cX1_sittersOf 21 = .ok (.iconst (-1), 1) := by decide +kernel
theorem dX1_sittersOf_22 : decode cX1_sittersOf 22 = .ok (.if_icmp .eq 9, 3) := by decide +kernel
theorem dX1_sittersOf_25 : decode cX1_sittersOf 25 = .ok (.iload_n 2, 1) := by decide +kernel
theorem dX1_sittersOf_26 : decode cX1_sittersOf 26 = .ok (.iconst 1, 1) := by decide +kernel
theorem dX1_sittersOf_27 : decode cX1_sittersOf 27 = .ok (.iload_n 3, 1) := by decide +kernel
theorem dX1_sittersOf_28 : decode cX1_sittersOf 28 = .ok (.ishl, 1) := by decide +kernel
theorem dX1_sittersOf_29 : decode cX1_sittersOf 29 = .ok (.ior, 1) := by decide +kernel
theorem dX1_sittersOf_30 : decode cX1_sittersOf 30 = .ok (.istore_n 2, 1) := by decide +kernel
theorem dX1_sittersOf_31 : decode cX1_sittersOf 31 = .ok (.iinc 3 1, 3) := by decide +kernel
theorem dX1_sittersOf_34 : decode cX1_sittersOf 34 = .ok (.goto (-30), 3) := by decide +kernel
theorem dX1_sittersOf_37 : decode cX1_sittersOf 37 = .ok (.iload_n 2, 1) := by decide +kernel
theorem dX1_sittersOf_38 : decode cX1_sittersOf 38 = .ok (.ireturn, 1) := by decide +kernel
set_option maxHeartbeats 4000000 in
set_option maxRecDepth 100000 in
theorem ctX1_sittersOf {o : Int} {p1 : Int} {σ : jq_M} {res : Int} (ho : jq_com o) (hp1 : jq_row p1) (h : X1_sittersOf o p1 σ = some res) : jq_MC jq_zX yX1_sittersOf cX1_sittersOf 4 (some .int) 1 40 [jR o, jR p1] σ (some (jI res)) σ := by
  refine jq_met (own := RX1) (L0 := [(0, jR o), (1, jR p1)]) (by decide) rfl rfl rfl ?_
  intro X Γ hnl hlY hRT
  refine jq_use2 (P := fun r => jq_RT jq_zX X (some .int) (some (jI r)) σ) ?_ h hRT
  intro K0 hK0
  unfold X1_sittersOf
  refine jq_iconst Γ dX1_sittersOf_0 rfl ?_
  refine jq_istore_n (L' := [(2, jI 0), (0, jR o), (1, jR p1)]) Γ dX1_sittersOf_1 rfl hnl rfl rfl ?_
  refine jq_iconst Γ dX1_sittersOf_2 rfl ?_
  refine jq_istore_n (L' := [(3, jI 0), (2, jI 0), (0, jR o), (1, jR p1)]) Γ dX1_sittersOf_3 rfl hnl rfl rfl ?_
  refine jq_sub Γ (L' := [(0, jR o), (1, jR p1), (2, jI 0), (3, jI 0)]) [2, 3, 1, 0] rfl ?_
  refine jq_loop2 (C := fun (t1 : Int × Int) => jq_V jq_zX X (jq_zN jq_zX) σ 4 [(0, jR o), (1, jR p1), (2, jI t1.1), (3, jI t1.2)] []) (KX := fun (e6 : Int) => jq_V jq_zX X (jq_zN jq_zX) σ 37 [(2, jI e6)] []) ?_ ?_ (0, 0)
  · intro K4_t1 hCt1 hXt1 t1
    unfold X1_sittersOf_b4
    refine jq_iload_n Γ dX1_sittersOf_4 rfl 3 rfl ?_
    refine jq_aload_n Γ dX1_sittersOf_5 rfl 0 rfl (jq_at_0 (at_com ho)) ?_
    refine jq_getI (J := 2) Γ (at_com ho) fl_RX1_66 rfl rfl dX1_sittersOf_6 ?_
    refine jq_icmp_ge (tgt := 37) Γ dX1_sittersOf_9 rfl ?_ ?_
    · refine jq_sub Γ (L' := [(2, jI t1.1)]) [2] rfl ?_
      exact jq_done (hXt1 t1.1)
    · refine jq_iload_n Γ dX1_sittersOf_12 rfl 3 rfl ?_
      refine jq_aload_n Γ dX1_sittersOf_13 rfl 1 rfl (jq_at_0 (at_row hp1)) ?_
      refine jq_alen Γ (at_row hp1) rfl rfl rfl dX1_sittersOf_14 ?_
      refine jq_icmp_ge (tgt := 37) Γ dX1_sittersOf_15 rfl ?_ ?_
      · refine jq_sub Γ (L' := [(2, jI t1.1)]) [2] rfl ?_
        exact jq_done (hXt1 t1.1)
      · refine jq_aload_n Γ dX1_sittersOf_18 rfl 1 rfl (jq_at_0 (at_row hp1)) ?_
        refine jq_iload_n Γ dX1_sittersOf_19 rfl 3 rfl ?_
        refine jq_iald Γ (at_row hp1) rfl dX1_sittersOf_20 (fun v2 => ?_)
        refine jq_iconst Γ dX1_sittersOf_21 rfl ?_
        refine jq_icmp_eq (tgt := 31) Γ dX1_sittersOf_22 rfl ?_ ?_
        · refine jq_iincN (L' := fun v3 => [(3, jI v3), (0, jR o), (1, jR p1), (2, jI t1.1)]) Γ dX1_sittersOf_31 3 rfl hnl rfl (fun _ => rfl) (fun v3 => ?_)
          refine jq_goto Γ (tgt := 4) dX1_sittersOf_34 rfl ?_
          refine jq_sub Γ (L' := [(0, jR o), (1, jR p1), (2, jI t1.1), (3, jI v3)]) [1, 2, 3, 0] rfl ?_
          exact jq_done (hCt1 (t1.1, v3))
        · refine jq_iload_n Γ dX1_sittersOf_25 rfl 2 rfl ?_
          refine jq_iconst Γ dX1_sittersOf_26 rfl ?_
          refine jq_iload_n Γ dX1_sittersOf_27 rfl 3 rfl ?_
          refine jq_ishl Γ dX1_sittersOf_28 ?_
          refine jq_ior Γ dX1_sittersOf_29 ?_
          refine jq_nmI (fun v4 => ?_)
          refine jq_istore_n (L' := [(2, jI v4), (0, jR o), (1, jR p1), (3, jI t1.2)]) Γ dX1_sittersOf_30 rfl hnl rfl rfl ?_
          refine jq_iincN (L' := fun v5 => [(3, jI v5), (2, jI v4), (0, jR o), (1, jR p1)]) Γ dX1_sittersOf_31 3 rfl hnl rfl (fun _ => rfl) (fun v5 => ?_)
          refine jq_goto Γ (tgt := 4) dX1_sittersOf_34 rfl ?_
          refine jq_sub Γ (L' := [(0, jR o), (1, jR p1), (2, jI v4), (3, jI v5)]) [2, 3, 1, 0] rfl ?_
          exact jq_done (hCt1 (v4, v5))
  · intro e6
    refine jq_iload_n Γ dX1_sittersOf_37 rfl 0 rfl ?_
    exact jq_ireturn Γ dX1_sittersOf_38 (hK0 _)


theorem dX1_isWish_0 : decode cX1_isWish 0 = .ok (.iload_n 1, 1) := by decide +kernel
theorem dX1_isWish_1 : decode cX1_isWish 1 = .ok (.ifCond .lt 21, 3) := by decide +kernel
theorem dX1_isWish_4 : decode cX1_isWish 4 = .ok (.iload_n 1, 1) := by decide +kernel
theorem dX1_isWish_5 : decode cX1_isWish 5 = .ok (.aload_n 0, 1) := by decide +kernel
theorem dX1_isWish_6 : decode cX1_isWish 6 = .ok (.getfield 69, 3) := by decide +kernel
theorem dX1_isWish_9 : decode cX1_isWish 9 = .ok (.if_icmp .ge 13, 3) := by decide +kernel
theorem dX1_isWish_12 : decode cX1_isWish 12 = .ok (.iload_n 1, 1) := by decide +kernel
theorem dX1_isWish_13 : decode cX1_isWish 13 = .ok (.bipush 20, 2) := by decide +kernel
theorem dX1_isWish_15 : decode cX1_isWish 15 = .ok (.if_icmp .ge 7, 3) := by decide +kernel
theorem dX1_isWish_18 : decode cX1_isWish 18 = .ok (.iconst 1, 1) := by decide +kernel
theorem dX1_isWish_19 : decode cX1_isWish 19 = .ok (.goto 4, 3) := by decide +kernel
theorem dX1_isWish_22 : decode cX1_isWish 22 = .ok (.iconst 0, 1) := by decide +kernel
theorem dX1_isWish_23 : decode cX1_isWish 23 = .ok (.ireturn, 1) := by decide +kernel
set_option maxHeartbeats 4000000 in
set_option maxRecDepth 100000 in
theorem ctX1_isWish {o : Int} {p1 : Int} {σ : jq_M} {res : Int} (ho : jq_com o) (h : X1_isWish o p1 σ = some res) : jq_MC jq_zX yX1_isWish cX1_isWish 2 (some .boolean) 1 40 [jR o, jI p1] σ (some (jI res)) σ := by
  refine jq_met (own := RX1) (L0 := [(0, jR o), (1, jI p1)]) (by decide) rfl rfl rfl ?_
  intro X Γ hnl hlY hRT
  refine jq_use2 (P := fun r => jq_RT jq_zX X (some .boolean) (some (jI r)) σ) ?_ h hRT
  intro K0 hK0
  unfold X1_isWish
  refine jq_iload_n Γ dX1_isWish_0 rfl 1 rfl ?_
  refine jq_if_lt (tgt := 22) Γ dX1_isWish_1 rfl ?_ ?_
  · refine jq_iconst Γ dX1_isWish_22 rfl ?_
    exact jq_zreturn Γ (Or.inl rfl) dX1_isWish_23 (hK0 _)
  · refine jq_iload_n Γ dX1_isWish_4 rfl 1 rfl ?_
    refine jq_aload_n Γ dX1_isWish_5 rfl 0 rfl (jq_at_0 (at_com ho)) ?_
    refine jq_getI (J := 3) Γ (at_com ho) fl_RX1_69 rfl rfl dX1_isWish_6 ?_
    refine jq_icmp_ge (tgt := 22) Γ dX1_isWish_9 rfl ?_ ?_
    · refine jq_iconst Γ dX1_isWish_22 rfl ?_
      exact jq_zreturn Γ (Or.inl rfl) dX1_isWish_23 (hK0 _)
    · refine jq_iload_n Γ dX1_isWish_12 rfl 1 rfl ?_
      refine jq_bipush Γ dX1_isWish_13 rfl ?_
      refine jq_icmp_ge (tgt := 22) Γ dX1_isWish_15 rfl ?_ ?_
      · refine jq_iconst Γ dX1_isWish_22 rfl ?_
        exact jq_zreturn Γ (Or.inl rfl) dX1_isWish_23 (hK0 _)
      · refine jq_iconst Γ dX1_isWish_18 rfl ?_
        refine jq_goto Γ (tgt := 23) dX1_isWish_19 rfl ?_
        exact jq_zreturn Γ (Or.inr rfl) dX1_isWish_23 (hK0 _)


theorem dX1_seatIn_0 : decode cX1_seatIn 0 = .ok (.iload_n 1, 1) := by decide +kernel
theorem dX1_seatIn_1 : decode cX1_seatIn 1 = .ok (.ifCond .lt 15, 3) := by decide +kernel
theorem dX1_seatIn_4 : decode cX1_seatIn 4 = .ok (.iload_n 1, 1) := by decide +kernel
theorem dX1_seatIn_5 : decode cX1_seatIn 5 = .ok (.aload_n 0, 1) := by decide +kernel
theorem dX1_seatIn_6 : decode cX1_seatIn 6 = .ok (.arraylength, 1) := by decide +kernel
theorem dX1_seatIn_7 : decode cX1_seatIn 7 = .ok (.if_icmp .ge 9, 3) := by decide +kernel
theorem dX1_seatIn_10 : decode cX1_seatIn 10 = .ok (.aload_n 0, 1) := by decide +kernel
theorem dX1_seatIn_11 : decode cX1_seatIn 11 = .ok (.iload_n 1, 1) := by decide +kernel
theorem dX1_seatIn_12 : decode cX1_seatIn 12 = .ok (.iaload, 1) := by decide +kernel
theorem dX1_seatIn_13 : decode cX1_seatIn 13 = .ok (.goto 4, 3) := by decide +kernel
theorem dX1_seatIn_16 : decode cX1_seatIn 16 = .ok (.iconst (-1), 1) := by decide +kernel
theorem dX1_seatIn_17 : decode cX1_seatIn 17 = .ok (.ireturn, 1) := by decide +kernel
set_option maxHeartbeats 4000000 in
set_option maxRecDepth 100000 in
theorem ctX1_seatIn {p0 : Int} {p1 : Int} {σ : jq_M} {res : Int} (hp0 : jq_row p0) (h : X1_seatIn p0 p1 σ = some res) : jq_MC jq_zX yX1_seatIn cX1_seatIn 2 (some .int) 1 40 [jR p0, jI p1] σ (some (jI res)) σ := by
  refine jq_met (own := RX1) (L0 := [(0, jR p0), (1, jI p1)]) (by decide) rfl rfl rfl ?_
  intro X Γ hnl hlY hRT
  refine jq_use2 (P := fun r => jq_RT jq_zX X (some .int) (some (jI r)) σ) ?_ h hRT
  intro K0 hK0
  unfold X1_seatIn
  refine jq_iload_n Γ dX1_seatIn_0 rfl 1 rfl ?_
  refine jq_if_lt (tgt := 16) Γ dX1_seatIn_1 rfl ?_ ?_
  · refine jq_iconst Γ dX1_seatIn_16 rfl ?_
    exact jq_ireturn Γ dX1_seatIn_17 (hK0 _)
  · refine jq_iload_n Γ dX1_seatIn_4 rfl 1 rfl ?_
    refine jq_aload_n Γ dX1_seatIn_5 rfl 0 rfl (jq_at_0 (at_row hp0)) ?_
    refine jq_alen Γ (at_row hp0) rfl rfl rfl dX1_seatIn_6 ?_
    refine jq_icmp_ge (tgt := 16) Γ dX1_seatIn_7 rfl ?_ ?_
    · refine jq_iconst Γ dX1_seatIn_16 rfl ?_
      exact jq_ireturn Γ dX1_seatIn_17 (hK0 _)
    · refine jq_aload_n Γ dX1_seatIn_10 rfl 0 rfl (jq_at_0 (at_row hp0)) ?_
      refine jq_iload_n Γ dX1_seatIn_11 rfl 1 rfl ?_
      refine jq_iald Γ (at_row hp0) rfl dX1_seatIn_12 (fun v1 => ?_)
      refine jq_goto Γ (tgt := 17) dX1_seatIn_13 rfl ?_
      exact jq_ireturn Γ dX1_seatIn_17 (hK0 _)


theorem dX1_nextTo_0 : decode cX1_nextTo 0 = .ok (.iload_n 1, 1) := by decide +kernel
theorem dX1_nextTo_1 : decode cX1_nextTo 1 = .ok (.iconst (-1), 1) := by decide +kernel
theorem dX1_nextTo_2 : decode cX1_nextTo 2 = .ok (.if_icmp .eq 8, 3) := by decide +kernel
theorem dX1_nextTo_5 : decode cX1_nextTo 5 = .ok (.iload_n 2, 1) := by decide +kernel
theorem dX1_nextTo_6 : decode cX1_nextTo 6 = .ok (.iconst (-1), 1) := by decide +kernel
theorem dX1_nextTo_7 : decode cX1_nextTo 7 = .ok (.if_icmp .ne 5, 3) := by decide +kernel
theorem dX1_nextTo_10 : decode cX1_nextTo 10 = .ok (.iconst 0, 1) := by decide +kernel
theorem dX1_nextTo_11 : decode cX1_nextTo 11 = .ok (.ireturn, 1) := by decide +kernel
theorem dX1_nextTo_12 : decode cX1_nextTo 12 = .ok (.iload_n 1, 1) := by decide +kernel
theorem dX1_nextTo_13 : decode cX1_nextTo 13 = .ok (.iload_n 2, 1) := by decide +kernel
theorem dX1_nextTo_14 : decode cX1_nextTo 14 = .ok (.isub, 1) := by decide +kernel
theorem dX1_nextTo_15 : decode cX1_nextTo 15 = .ok (.invokestatic 102, 3) := by decide +kernel
theorem dX1_nextTo_18 : decode cX1_nextTo 18 = .ok (.istore_n 3, 1) := by decide +kernel
theorem dX1_nextTo_19 : decode cX1_nextTo 19 = .ok (.iload_n 3, 1) := by decide +kernel
theorem dX1_nextTo_20 : decode cX1_nextTo 20 = .ok (.iconst 1, 1) := by decide +kernel
theorem dX1_nextTo_21 : decode cX1_nextTo 21 = .ok (.if_icmp .eq 13, 3) := by decide +kernel
theorem dX1_nextTo_24 : decode cX1_nextTo 24 = .ok (.iload_n 3, 1) := by decide +kernel
theorem dX1_nextTo_25 : decode cX1_nextTo 25 = .ok (.aload_n 0, 1) := by decide +kernel
theorem dX1_nextTo_26 : decode cX1_nextTo 26 = .ok (.getfield 59, 3) := by decide +kernel
theorem dX1_nextTo_29 : decode cX1_nextTo 29 = .ok (.iconst 1, 1) := by decide +kernel
theorem dX1_nextTo_30 : decode cX1_nextTo 30 = .ok (.isub, 1) := by decide +kernel
theorem dX1_nextTo_31 : decode cX1_nextTo 31 = .ok (.if_icmp .ne 7, 3) := by decide +kernel
theorem dX1_nextTo_34 : decode cX1_nextTo 34 = .ok (.iconst 1, 1) := by decide +kernel
theorem dX1_nextTo_35 : decode cX1_nextTo 35 = .ok (.goto 4, 3) := by decide +kernel
theorem dX1_nextTo_38 : decode cX1_nextTo 38 = .ok (.iconst 0, 1) := by decide +kernel
theorem dX1_nextTo_39 : decode cX1_nextTo 39 = .ok (.ireturn, 1) := by decide +kernel
set_option maxHeartbeats 4000000 in
set_option maxRecDepth 100000 in
theorem ctX1_nextTo {o : Int} {p1 : Int} {p2 : Int} {σ : jq_M} {res : Int} (ho : jq_com o) (h : X1_nextTo o p1 p2 σ = some res) : jq_MC jq_zX yX1_nextTo cX1_nextTo 4 (some .boolean) 1 40 [jR o, jI p1, jI p2] σ (some (jI res)) σ := by
  refine jq_met (own := RX1) (L0 := [(0, jR o), (1, jI p1), (2, jI p2)]) (by decide) rfl rfl rfl ?_
  intro X Γ hnl hlY hRT
  refine jq_use2 (P := fun r => jq_RT jq_zX X (some .boolean) (some (jI r)) σ) ?_ h hRT
  intro K0 hK0
  unfold X1_nextTo
  refine jq_iload_n Γ dX1_nextTo_0 rfl 1 rfl ?_
  refine jq_iconst Γ dX1_nextTo_1 rfl ?_
  refine jq_icmp_eq (tgt := 10) Γ dX1_nextTo_2 rfl ?_ ?_
  · refine jq_iconst Γ dX1_nextTo_10 rfl ?_
    exact jq_zreturn Γ (Or.inl rfl) dX1_nextTo_11 (hK0 _)
  · refine jq_iload_n Γ dX1_nextTo_5 rfl 2 rfl ?_
    refine jq_iconst Γ dX1_nextTo_6 rfl ?_
    refine jq_icmp_ne (tgt := 12) Γ dX1_nextTo_7 rfl ?_ ?_
    · refine jq_iload_n Γ dX1_nextTo_12 rfl 1 rfl ?_
      refine jq_iload_n Γ dX1_nextTo_13 rfl 2 rfl ?_
      refine jq_isub Γ dX1_nextTo_14 ?_
      refine jq_mabs Γ mw_RX1_102 mws_abs mwi mwc_abs rfl rfl dX1_nextTo_15 ?_
      refine jq_nmI (fun v1 => ?_)
      refine jq_istore_n (L' := [(3, jI v1), (0, jR o), (1, jI p1), (2, jI p2)]) Γ dX1_nextTo_18 rfl hnl rfl rfl ?_
      refine jq_iload_n Γ dX1_nextTo_19 rfl 0 rfl ?_
      refine jq_iconst Γ dX1_nextTo_20 rfl ?_
      refine jq_icmp_eq (tgt := 34) Γ dX1_nextTo_21 rfl ?_ ?_
      · refine jq_iconst Γ dX1_nextTo_34 rfl ?_
        refine jq_goto Γ (tgt := 39) dX1_nextTo_35 rfl ?_
        exact jq_zreturn Γ (Or.inr rfl) dX1_nextTo_39 (hK0 _)
      · refine jq_iload_n Γ dX1_nextTo_24 rfl 0 rfl ?_
        refine jq_aload_n Γ dX1_nextTo_25 rfl 1 rfl (jq_at_0 (at_com ho)) ?_
        refine jq_getI (J := 0) Γ (at_com ho) fl_RX1_59 rfl rfl dX1_nextTo_26 ?_
        refine jq_iconst Γ dX1_nextTo_29 rfl ?_
        refine jq_isub Γ dX1_nextTo_30 ?_
        refine jq_icmp_ne (tgt := 38) Γ dX1_nextTo_31 rfl ?_ ?_
        · refine jq_iconst Γ dX1_nextTo_38 rfl ?_
          exact jq_zreturn Γ (Or.inl rfl) dX1_nextTo_39 (hK0 _)
        · refine jq_iconst Γ dX1_nextTo_34 rfl ?_
          refine jq_goto Γ (tgt := 39) dX1_nextTo_35 rfl ?_
          exact jq_zreturn Γ (Or.inr rfl) dX1_nextTo_39 (hK0 _)
    · refine jq_iconst Γ dX1_nextTo_10 rfl ?_
      exact jq_zreturn Γ (Or.inl rfl) dX1_nextTo_11 (hK0 _)


theorem dX1_opposite_0 : decode cX1_opposite 0 = .ok (.iload_n 1, 1) := by decide +kernel
theorem dX1_opposite_1 : decode cX1_opposite 1 = .ok (.iconst (-1), 1) := by decide +kernel
theorem dX1_opposite_2 : decode cX1_opposite 2 = .ok (.if_icmp .eq 27, 3) := by decide +kernel
theorem dX1_opposite_5 : decode cX1_opposite 5 = .ok (.iload_n 2, 1) := by decide +kernel
theorem dX1_opposite_6 : decode cX1_opposite 6 = .ok (.iconst (-1), 1) := by decide +kernel
theorem dX1_opposite_7 : decode cX1_opposite 7 = .ok (.if_icmp .eq 22, 3) := by decide +kernel
theorem dX1_opposite_10 : decode cX1_opposite 10 = .ok (.iconst 2, 1) := by decide +kernel
theorem dX1_opposite_11 : decode cX1_opposite 11 = .ok (.iload_n 1, 1) := by decide +kernel
theorem dX1_opposite_12 : decode cX1_opposite 12 = .ok (.iload_n 2, 1) := by decide +kernel
theorem dX1_opposite_13 : decode cX1_opposite 13 = .ok (.isub, 1) := by decide +kernel
theorem dX1_opposite_14 : decode cX1_opposite 14 = .ok (.invokestatic 102, 3) := by decide +kernel
theorem dX1_opposite_17 : decode cX1_opposite 17 = .ok (.imul, 1) := by decide +kernel
theorem dX1_opposite_18 : decode cX1_opposite 18 = .ok (.aload_n 0, 1) := by decide +kernel
theorem dX1_opposite_19 : decode cX1_opposite 19 = .ok (.getfield 59, 3) := by decide +kernel
theorem dX1_opposite_22 : decode cX1_opposite 22 = .ok (.if_icmp .ne 7, 3) := by decide +kernel
theorem dX1_opposite_25 : decode cX1_opposite 25 = .ok (.iconst 1, 1) := by decide +kernel
theorem dX1_opposite_26 : decode cX1_opposite 26 = .ok (.goto 4, 3) := by decide +kernel
theorem dX1_opposite_29 : decode cX1_opposite 29 = .ok (.iconst 0, 1) := by decide +kernel
theorem dX1_opposite_30 : decode cX1_opposite 30 = .ok (.ireturn, 1) := by decide +kernel
set_option maxHeartbeats 4000000 in
set_option maxRecDepth 100000 in
theorem ctX1_opposite {o : Int} {p1 : Int} {p2 : Int} {σ : jq_M} {res : Int} (ho : jq_com o) (h : X1_opposite o p1 p2 σ = some res) : jq_MC jq_zX yX1_opposite cX1_opposite 3 (some .boolean) 1 40 [jR o, jI p1, jI p2] σ (some (jI res)) σ := by
  refine jq_met (own := RX1) (L0 := [(0, jR o), (1, jI p1), (2, jI p2)]) (by decide) rfl rfl rfl ?_
  intro X Γ hnl hlY hRT
  refine jq_use2 (P := fun r => jq_RT jq_zX X (some .boolean) (some (jI r)) σ) ?_ h hRT
  intro K0 hK0
  unfold X1_opposite
  refine jq_iload_n Γ dX1_opposite_0 rfl 1 rfl ?_
  refine jq_iconst Γ dX1_opposite_1 rfl ?_
  refine jq_icmp_eq (tgt := 29) Γ dX1_opposite_2 rfl ?_ ?_
  · refine jq_iconst Γ dX1_opposite_29 rfl ?_
    exact jq_zreturn Γ (Or.inl rfl) dX1_opposite_30 (hK0 _)
  · refine jq_iload_n Γ dX1_opposite_5 rfl 2 rfl ?_
    refine jq_iconst Γ dX1_opposite_6 rfl ?_
    refine jq_icmp_eq (tgt := 29) Γ dX1_opposite_7 rfl ?_ ?_
    · refine jq_iconst Γ dX1_opposite_29 rfl ?_
      exact jq_zreturn Γ (Or.inl rfl) dX1_opposite_30 (hK0 _)
    · refine jq_iconst Γ dX1_opposite_10 rfl ?_
      refine jq_iload_n Γ dX1_opposite_11 rfl 1 rfl ?_
      refine jq_iload_n Γ dX1_opposite_12 rfl 2 rfl ?_
      refine jq_isub Γ dX1_opposite_13 ?_
      refine jq_mabs Γ mw_RX1_102 mws_abs mwi mwc_abs rfl rfl dX1_opposite_14 ?_
      refine jq_imul Γ dX1_opposite_17 ?_
      refine jq_aload_n Γ dX1_opposite_18 rfl 0 rfl (jq_at_0 (at_com ho)) ?_
      refine jq_getI (J := 0) Γ (at_com ho) fl_RX1_59 rfl rfl dX1_opposite_19 ?_
      refine jq_icmp_ne (tgt := 29) Γ dX1_opposite_22 rfl ?_ ?_
      · refine jq_iconst Γ dX1_opposite_29 rfl ?_
        exact jq_zreturn Γ (Or.inl rfl) dX1_opposite_30 (hK0 _)
      · refine jq_iconst Γ dX1_opposite_25 rfl ?_
        refine jq_goto Γ (tgt := 30) dX1_opposite_26 rfl ?_
        exact jq_zreturn Γ (Or.inr rfl) dX1_opposite_30 (hK0 _)


theorem dX1_isMet_0 : decode cX1_isMet 0 = .ok (.aload_n 0, 1) := by decide +kernel
theorem dX1_isMet_1 : decode cX1_isMet 1 = .ok (.iload_n 1, 1) := by decide +kernel
theorem dX1_isMet_2 : decode cX1_isMet 2 = .ok (.invokevirtual 119, 3) := by decide +kernel
theorem dX1_isMet_5 : decode cX1_isMet 5 = .ok (.ifCond .eq 16, 3) := by decide +kernel
theorem dX1_isMet_8 : decode cX1_isMet 8 = .ok (.aload_n 2, 1) := by decide +kernel
theorem dX1_isMet_9 : decode cX1_isMet 9 = .ok (.aload_n 0, 1) := by decide +kernel
theorem dX1_isMet_10 : decode cX1_isMet 10 = .ok (.getfield 22, 3) := by decide +kernel
theorem dX1_isMet_13 : decode cX1_isMet 13 = .ok (.iload_n 1, 1) := by decide +kernel
theorem dX1_isMet_14 : decode cX1_isMet 14 = .ok (.iaload, 1) := by decide +kernel
theorem dX1_isMet_15 : decode cX1_isMet 15 = .ok (.invokestatic 115, 3) := by decide +kernel
theorem dX1_isMet_18 : decode cX1_isMet 18 = .ok (.goto 4, 3) := by decide +kernel
theorem dX1_isMet_21 : decode cX1_isMet 21 = .ok (.iconst (-1), 1) := by decide +kernel
theorem dX1_isMet_22 : decode cX1_isMet 22 = .ok (.istore_n 3, 1) := by decide +kernel
theorem dX1_isMet_23 : decode cX1_isMet 23 = .ok (.iload_n 3, 1) := by decide +kernel
theorem dX1_isMet_24 : decode cX1_isMet 24 = .ok (.iconst (-1), 1) := by decide +kernel
theorem dX1_isMet_25 : decode cX1_isMet 25 = .ok (.if_icmp .ne 5, 3) := by decide +kernel
theorem dX1_isMet_28 : decode cX1_isMet 28 = .ok (.iconst 0, 1) := by decide +kernel
theorem dX1_isMet_29 : decode cX1_isMet 29 = .ok (.ireturn, 1) := by decide +kernel
theorem dX1_isMet_30 : decode cX1_isMet 30 = .ok (.aload_n 0, 1) := by decide +kernel
theorem dX1_isMet_31 : decode cX1_isMet 31 = .ok (.getfield 25, 3) := by decide +kernel
theorem dX1_isMet_34 : decode cX1_isMet 34 = .ok (.iload_n 1, 1) := by decide +kernel
theorem dX1_isMet_35 : decode cX1_isMet 35 = .ok (.iaload, 1) := by decide +kernel
theorem dX1_isMet_36 : decode cX1_isMet 36 = .ok (.iconst 2, 1) := by decide +kernel
theorem dX1_isMet_37 : decode cX1_isMet 37 = .ok (.if_icmp .ne 12, 3) := by decide +kernel
theorem dX1_isMet_40 : decode cX1_isMet 40 = .ok (.aload_n 0, 1) := by decide +kernel
theorem dX1_isMet_41 : decode cX1_isMet 41 = .ok (.getfield 63, 3) := by decide +kernel
theorem dX1_isMet_44 : decode cX1_isMet 44 = .ok (.iload_n 3, 1) := by decide +kernel
theorem dX1_isMet_45 : decode cX1_isMet 45 = .ok (.invokestatic 94, 3) := by decide +kernel
theorem dX1_isMet_48 : decode cX1_isMet 48 = .ok (.ireturn, 1) := by decide +kernel
theorem dX1_isMet_49 : decode cX1_isMet 49 = .ok (.aload_n 2, 1) := by decide +kernel
theorem dX1_isMet_50 : decode cX1_isMet 50 = .ok (.aload_n 0, 1) := by decide +kernel
theorem dX1_isMet_51 : decode cX1_isMet 51 = .ok (.getfield 28, 3) := by decide +kernel
theorem dX1_isMet_54 : decode cX1_isMet 54 = .ok (.iload_n 1, 1) := by decide +kernel
theorem dX1_isMet_55 : decode cX1_isMet 55 = .ok (.iaload, 1) := by decide +kernel
theorem dX1_isMet_56 : decode cX1_isMet 56 = .ok (.invokestatic 115, 3) := by decide +kernel
theorem dX1_isMet_59 : decode cX1_isMet 59 = .ok (.istore 4, 2) := by decide +kernel
theorem dX1_isMet_61 : decode cX1_isMet 61 = .ok (.aload_n 0, 1) := by decide +kernel
theorem dX1_isMet_62 : decode cX1_isMet 62 = .ok (.getfield 25, 3) := by decide +kernel
theorem dX1_isMet_65 : decode cX1_isMet 65 = .ok (.iload_n 1, 1) := by decide +kernel
theorem dX1_isMet_66 : decode cX1_isMet 66 = .ok (.iaload, 1) := by decide +kernel
theorem dX1_isMet_67 : decode cX1_isMet 67 = .ok (.ifCond .ne 13, 3) := by decide +kernel
theorem dX1_isMet_70 : decode cX1_isMet 70 = .ok (.aload_n 0, 1) := by decide +kernel
theorem dX1_isMet_71 : decode cX1_isMet 71 = .ok (.iload_n 3, 1) := by decide +kernel
theorem dX1_isMet_72 : decode cX1_isMet 72 = .ok (.iload 4, 2) := by decide +kernel
theorem dX1_isMet_74 : decode cX1_isMet 74 = .ok (.invokevirtual 122, 3) := by decide +kernel
theorem dX1_isMet_77 : decode cX1_isMet 77 = .ok (.goto 10, 3) := by decide +kernel
theorem dX1_isMet_80 : decode cX1_isMet 80 = .ok (.aload_n 0, 1) := by decide +kernel
theorem dX1_isMet_81 : decode cX1_isMet 81 = .ok (.iload_n 3, 1) := by decide +kernel
theorem dX1_isMet_82 : decode cX1_isMet 82 = .ok (.iload 4, 2) := by decide +kernel
theorem dX1_isMet_84 : decode cX1_isMet 84 = .ok (.invokevirtual 125, 3) := by decide +kernel
theorem dX1_isMet_87 : decode cX1_isMet 87 = .ok (.ireturn, 1) := by decide +kernel
set_option maxHeartbeats 4000000 in
set_option maxRecDepth 100000 in
theorem ctX1_isMet {o : Int} {p1 : Int} {p2 : Int} {σ : jq_M} {res : Int} (ho : jq_com o) (hp2 : jq_row p2) (h : X1_isMet o p1 p2 σ = some res) : jq_MC jq_zX yX1_isMet cX1_isMet 5 (some .boolean) 2 63 [jR o, jI p1, jR p2] σ (some (jI res)) σ := by
  refine jq_met (own := RX1) (L0 := [(0, jR o), (1, jI p1), (2, jR p2)]) (by decide) rfl rfl rfl ?_
  intro X Γ hnl hlY hRT
  refine jq_use2 (P := fun r => jq_RT jq_zX X (some .boolean) (some (jI r)) σ) ?_ h hRT
  intro K0 hK0
  unfold X1_isMet
  have hj22_0 : ∀ (j3 : Int), jq_J (X1_isMet_j22 o p1 p2 σ j3) K0 (jq_V jq_zX X (jq_zN jq_zX) σ 22 [(0, jR o), (1, jI p1), (2, jR p2)] [jI j3]) := by
    intro j3
    unfold X1_isMet_j22
    refine jq_istore_n (L' := [(3, jI j3), (0, jR o), (1, jI p1), (2, jR p2)]) Γ dX1_isMet_22 rfl hnl rfl rfl ?_
    refine jq_iload_n Γ dX1_isMet_23 rfl 0 rfl ?_
    refine jq_iconst Γ dX1_isMet_24 rfl ?_
    refine jq_icmp_ne (tgt := 30) Γ dX1_isMet_25 rfl ?_ ?_
    · refine jq_aload_n Γ dX1_isMet_30 rfl 1 rfl (jq_at_0 (at_com ho)) ?_
      refine jq_getR (v := (o + 5)) Γ hlY (at_com ho) fl_RX1_25 rfl rfl (ly_X1_kinds ho) dX1_isMet_31 ?_
      refine jq_iload_n Γ dX1_isMet_34 rfl 2 rfl ?_
      refine jq_iald Γ (at_com_5 ho) rfl dX1_isMet_35 (fun v4 => ?_)
      refine jq_iconst Γ dX1_isMet_36 rfl ?_
      refine jq_icmp_ne (tgt := 49) Γ dX1_isMet_37 rfl ?_ ?_
      · refine jq_aload_n Γ dX1_isMet_49 rfl 3 rfl (jq_at_0 (at_row hp2)) ?_
        refine jq_aload_n Γ dX1_isMet_50 rfl 1 rfl (jq_at_0 (at_com ho)) ?_
        refine jq_getR (v := (o + 6)) Γ hlY (at_com ho) fl_RX1_28 rfl rfl (ly_X1_whom ho) dX1_isMet_51 ?_
        refine jq_iload_n Γ dX1_isMet_54 rfl 2 rfl ?_
        refine jq_iald Γ (at_com_6 ho) rfl dX1_isMet_55 (fun v5 => ?_)
        refine jq_cpI (jq_stat (avs := [jR p2, jI v5]) (st := []) Γ hlY rfl ml_RX1_115 rfl rfl rfl rfl rfl dX1_isMet_56) (fun r h => ctX1_seatIn hp2 h) (fun v6 => ?_)
        refine jq_istore (L' := [(4, jI v6), (3, jI j3), (0, jR o), (1, jI p1), (2, jR p2)]) Γ dX1_isMet_59 hnl rfl rfl ?_
        refine jq_aload_n Γ dX1_isMet_61 rfl 2 rfl (jq_at_0 (at_com ho)) ?_
        refine jq_getR (v := (o + 5)) Γ hlY (at_com ho) fl_RX1_25 rfl rfl (ly_X1_kinds ho) dX1_isMet_62 ?_
        refine jq_iload_n Γ dX1_isMet_65 rfl 3 rfl ?_
        refine jq_iald Γ (at_com_5 ho) rfl dX1_isMet_66 (fun v7 => ?_)
        refine jq_if_ne (tgt := 80) Γ dX1_isMet_67 rfl ?_ ?_
        · refine jq_aload_n Γ dX1_isMet_80 rfl 2 rfl (jq_at_0 (at_com ho)) ?_
          refine jq_iload_n Γ dX1_isMet_81 rfl 1 rfl ?_
          refine jq_iload Γ dX1_isMet_82 0 rfl ?_
          refine jq_cpZ (jq_virt (avs := [jI j3, jI v6]) (st := []) Γ hlY rfl ml_RX1_125 rfl (at_com ho) rfl rfl rfl rfl rfl dX1_isMet_84) rfl (fun r h => ctX1_opposite ho h) (fun v8 hz9 => ?_)
          exact jq_zreturn Γ (hz9) dX1_isMet_87 (hK0 _)
        · refine jq_aload_n Γ dX1_isMet_70 rfl 2 rfl (jq_at_0 (at_com ho)) ?_
          refine jq_iload_n Γ dX1_isMet_71 rfl 1 rfl ?_
          refine jq_iload Γ dX1_isMet_72 0 rfl ?_
          refine jq_cpZ (jq_virt (avs := [jI j3, jI v6]) (st := []) Γ hlY rfl ml_RX1_122 rfl (at_com ho) rfl rfl rfl rfl rfl dX1_isMet_74) rfl (fun r h => ctX1_nextTo ho h) (fun v10 hz11 => ?_)
          refine jq_goto Γ (tgt := 87) dX1_isMet_77 rfl ?_
          exact jq_zreturn Γ (hz11) dX1_isMet_87 (hK0 _)
      · refine jq_aload_n Γ dX1_isMet_40 rfl 1 rfl (jq_at_0 (at_com ho)) ?_
        refine jq_getI (J := 1) Γ (at_com ho) fl_RX1_63 rfl rfl dX1_isMet_41 ?_
        refine jq_iload_n Γ dX1_isMet_44 rfl 0 rfl ?_
        refine jq_cpZ (jq_nest (avs := [jI (σ o 1), jI j3]) (st := []) Γ hlY rfl ml_RX1_94 rfl rfl rfl rfl rfl dX1_isMet_45) rfl (fun r h => ctX10_holds h) (fun v12 hz13 => ?_)
        exact jq_zreturn Γ (hz13) dX1_isMet_48 (hK0 _)
    · refine jq_iconst Γ dX1_isMet_28 rfl ?_
      exact jq_zreturn Γ (Or.inl rfl) dX1_isMet_29 (hK0 _)
  refine jq_aload_n Γ dX1_isMet_0 rfl 0 rfl (jq_at_0 (at_com ho)) ?_
  refine jq_iload_n Γ dX1_isMet_1 rfl 1 rfl ?_
  refine jq_cpZ (jq_virt (avs := [jI p1]) (st := []) Γ hlY rfl ml_RX1_119 rfl (at_com ho) rfl rfl rfl rfl rfl dX1_isMet_2) rfl (fun r h => ctX1_isWish ho h) (fun v1 hz2 => ?_)
  refine jq_if_eq (tgt := 21) Γ dX1_isMet_5 rfl ?_ ?_
  · refine jq_iconst Γ dX1_isMet_21 rfl ?_
    exact hj22_0 (-1)
  · refine jq_aload_n Γ dX1_isMet_8 rfl 2 rfl (jq_at_0 (at_row hp2)) ?_
    refine jq_aload_n Γ dX1_isMet_9 rfl 0 rfl (jq_at_0 (at_com ho)) ?_
    refine jq_getR (v := (o + 4)) Γ hlY (at_com ho) fl_RX1_22 rfl rfl (ly_X1_whose ho) dX1_isMet_10 ?_
    refine jq_iload_n Γ dX1_isMet_13 rfl 1 rfl ?_
    refine jq_iald Γ (at_com_4 ho) rfl dX1_isMet_14 (fun v14 => ?_)
    refine jq_cpI (jq_stat (avs := [jR p2, jI v14]) (st := []) Γ hlY rfl ml_RX1_115 rfl rfl rfl rfl rfl dX1_isMet_15) (fun r h => ctX1_seatIn hp2 h) (fun v15 => ?_)
    refine jq_goto Γ (tgt := 22) dX1_isMet_18 rfl ?_
    exact hj22_0 v15


theorem dX1_isParty_0 : decode cX1_isParty 0 = .ok (.iload_n 1, 1) := by decide +kernel
theorem dX1_isParty_1 : decode cX1_isParty 1 = .ok (.ifCond .lt 20, 3) := by decide +kernel
theorem dX1_isParty_4 : decode cX1_isParty 4 = .ok (.iload_n 1, 1) := by decide +kernel
theorem dX1_isParty_5 : decode cX1_isParty 5 = .ok (.aload_n 0, 1) := by decide +kernel
theorem dX1_isParty_6 : decode cX1_isParty 6 = .ok (.getfield 66, 3) := by decide +kernel
theorem dX1_isParty_9 : decode cX1_isParty 9 = .ok (.if_icmp .ge 12, 3) := by decide +kernel
theorem dX1_isParty_12 : decode cX1_isParty 12 = .ok (.iload_n 1, 1) := by decide +kernel
theorem dX1_isParty_13 : decode cX1_isParty 13 = .ok (.iconst 5, 1) := by decide +kernel
theorem dX1_isParty_14 : decode cX1_isParty 14 = .ok (.if_icmp .ge 7, 3) := by decide +kernel
theorem dX1_isParty_17 : decode cX1_isParty 17 = .ok (.iconst 1, 1) := by decide +kernel
theorem dX1_isParty_18 : decode cX1_isParty 18 = .ok (.goto 4, 3) := by decide +kernel
theorem dX1_isParty_21 : decode cX1_isParty 21 = .ok (.iconst 0, 1) := by decide +kernel
theorem dX1_isParty_22 : decode cX1_isParty 22 = .ok (.ireturn, 1) := by decide +kernel
set_option maxHeartbeats 4000000 in
set_option maxRecDepth 100000 in
theorem ctX1_isParty {o : Int} {p1 : Int} {σ : jq_M} {res : Int} (ho : jq_com o) (h : X1_isParty o p1 σ = some res) : jq_MC jq_zX yX1_isParty cX1_isParty 2 (some .boolean) 1 40 [jR o, jI p1] σ (some (jI res)) σ := by
  refine jq_met (own := RX1) (L0 := [(0, jR o), (1, jI p1)]) (by decide) rfl rfl rfl ?_
  intro X Γ hnl hlY hRT
  refine jq_use2 (P := fun r => jq_RT jq_zX X (some .boolean) (some (jI r)) σ) ?_ h hRT
  intro K0 hK0
  unfold X1_isParty
  refine jq_iload_n Γ dX1_isParty_0 rfl 1 rfl ?_
  refine jq_if_lt (tgt := 21) Γ dX1_isParty_1 rfl ?_ ?_
  · refine jq_iconst Γ dX1_isParty_21 rfl ?_
    exact jq_zreturn Γ (Or.inl rfl) dX1_isParty_22 (hK0 _)
  · refine jq_iload_n Γ dX1_isParty_4 rfl 1 rfl ?_
    refine jq_aload_n Γ dX1_isParty_5 rfl 0 rfl (jq_at_0 (at_com ho)) ?_
    refine jq_getI (J := 2) Γ (at_com ho) fl_RX1_66 rfl rfl dX1_isParty_6 ?_
    refine jq_icmp_ge (tgt := 21) Γ dX1_isParty_9 rfl ?_ ?_
    · refine jq_iconst Γ dX1_isParty_21 rfl ?_
      exact jq_zreturn Γ (Or.inl rfl) dX1_isParty_22 (hK0 _)
    · refine jq_iload_n Γ dX1_isParty_12 rfl 1 rfl ?_
      refine jq_iconst Γ dX1_isParty_13 rfl ?_
      refine jq_icmp_ge (tgt := 21) Γ dX1_isParty_14 rfl ?_ ?_
      · refine jq_iconst Γ dX1_isParty_21 rfl ?_
        exact jq_zreturn Γ (Or.inl rfl) dX1_isParty_22 (hK0 _)
      · refine jq_iconst Γ dX1_isParty_17 rfl ?_
        refine jq_goto Γ (tgt := 22) dX1_isParty_18 rfl ?_
        exact jq_zreturn Γ (Or.inr rfl) dX1_isParty_22 (hK0 _)


theorem dX1_weigh_0 : decode cX1_weigh 0 = .ok (.iconst 0, 1) := by decide +kernel
theorem dX1_weigh_1 : decode cX1_weigh 1 = .ok (.istore_n 2, 1) := by decide +kernel
theorem dX1_weigh_2 : decode cX1_weigh 2 = .ok (.iload_n 2, 1) := by decide +kernel
theorem dX1_weigh_3 : decode cX1_weigh 3 = .ok (.aload_n 0, 1) := by decide +kernel
theorem dX1_weigh_4 : decode cX1_weigh 4 = .ok (.getfield 56, 3) := by decide +kernel
theorem dX1_weigh_7 : decode cX1_weigh 7 = .ok (.arraylength, 1) := by decide +kernel
theorem dX1_weigh_8 : decode cX1_weigh 8 = .ok (.if_icmp .ge 16, 3) := by decide +kernel
theorem dX1_weigh_11 : decode cX1_weigh 11 = .ok (.aload_n 0, 1) := by decide +kernel
theorem dX1_weigh_12 : decode cX1_weigh 12 = .ok (.getfield 56, 3) := by decide +kernel
theorem dX1_weigh_15 : decode cX1_weigh 15 = .ok (.iload_n 2, 1) := by decide +kernel
theorem dX1_weigh_16 : decode cX1_weigh 16 = .ok (.iconst 0, 1) := by decide +kernel
theorem dX1_weigh_17 : decode cX1_weigh 17 = .ok (.iastore, 1) := by decide +kernel
theorem dX1_weigh_18 : decode cX1_weigh 18 = .ok (.iinc 2 1, 3) := by decide +kernel
theorem dX1_weigh_21 : decode cX1_weigh 21 = .ok (.goto (-19), 3) := by decide +kernel
theorem dX1_weigh_24 : decode cX1_weigh 24 = .ok (.iconst 0, 1) := by decide +kernel
theorem dX1_weigh_25 : decode cX1_weigh 25 = .ok (.istore_n 2, 1) := by decide +kernel
theorem dX1_weigh_26 : decode cX1_weigh 26 = .ok (.iload_n 2, 1) := by decide +kernel
theorem dX1_weigh_27 : decode cX1_weigh 27 = .ok (.aload_n 0, 1) := by decide +kernel
theorem dX1_weigh_28 : decode cX1_weigh 28 = .ok (.getfield 69, 3) := by decide +kernel
theorem dX1_weigh_31 : decode cX1_weigh 31 = .ok (.if_icmp .ge 54, 3) := by decide +kernel
theorem dX1_weigh_34 : decode cX1_weigh 34 = .ok (.iload_n 2, 1) := by decide +kernel
theorem dX1_weigh_35 : decode cX1_weigh 35 = .ok (.bipush 20, 2) := by decide +kernel
theorem dX1_weigh_37 : decode cX1_weigh 37 = .ok (.if_icmp .ge 48, 3) := by decide +kernel
theorem dX1_weigh_40 : decode cX1_weigh 40 = .ok (.aload_n 0, 1) := by decide +kernel
theorem dX1_weigh_41 : decode cX1_weigh 41 = .ok (.getfield 22, 3) := by decide +kernel
theorem dX1_weigh_44 : decode cX1_weigh 44 = .ok (.iload_n 2, 1) := by decide +kernel
theorem dX1_weigh_45 : decode cX1_weigh 45 = .ok (.iaload, 1) := by decide +kernel
theorem dX1_weigh_46 : decode cX1_weigh 46 = .ok (.istore_n 3, 1) := by decide +kernel
theorem dX1_weigh_47 : decode cX1_weigh 47 = .ok (.aload_n 0, 1) := by decide +kernel
theorem dX1_weigh_48 : decode cX1_weigh 48 = .ok (.iload_n 2, 1) := by decide +kernel
theorem dX1_weigh_49 : decode cX1_weigh 49 = .ok (.aload_n 1, 1) := by decide +kernel
theorem dX1_weigh_50 : decode cX1_weigh 50 = .ok (.invokevirtual 128, 3) := by decide +kernel
theorem dX1_weigh_53 : decode cX1_weigh 53 = .ok (.ifCond .eq 26, 3) := by decide +kernel
theorem dX1_weigh_56 : decode cX1_weigh 56 = .ok (.aload_n 0, 1) := by decide +kernel
theorem dX1_weigh_57 : decode cX1_weigh 57 = .ok (.iload_n 3, 1) := by decide +kernel
theorem dX1_weigh_58 : decode cX1_weigh 58 = .ok (.invokevirtual 98, 3) := by decide +kernel
theorem dX1_weigh_61 : decode cX1_weigh 61 = .ok (.ifCond .eq 18, 3) := by decide +kernel
theorem dX1_weigh_64 : decode cX1_weigh 64 = .ok (.aload_n 0, 1) := by decide +kernel
theorem dX1_weigh_65 : decode cX1_weigh 65 = .ok (.getfield 56, 3) := by decide +kernel
theorem dX1_weigh_68 : decode cX1_weigh 68 = .ok (.iload_n 3, 1) := by decide +kernel
theorem dX1_weigh_69 : decode cX1_weigh 69 = .ok (.dup2, 1) := by decide +kernel
theorem dX1_weigh_70 : decode cX1_weigh 70 = .ok (.iaload, 1) := by decide +kernel
theorem dX1_weigh_71 : decode cX1_weigh 71 = .ok (.aload_n 0, 1) := by decide +kernel
theorem dX1_weigh_72 : decode cX1_weigh 72 = .ok (.getfield 31, 3) := by decide +kernel
theorem dX1_weigh_75 : decode cX1_weigh 75 = .ok (.iload_n 2, 1) := by decide +kernel
theorem dX1_weigh_76 : decode cX1_weigh 76 = .ok (.iaload, 1) := by decide +kernel
theorem dX1_weigh_77 : decode cX1_weigh 77 = .ok (.iadd, 1) := by decide +kernel
theorem dX1_weigh_78 : decode cX1_weigh 78 = .ok (.iastore, 1) := by decide +kernel
theorem dX1_weigh_79 : decode cX1_weigh 79 = .ok (.iinc 2 1, 3) := by decide +kernel
theorem dX1_weigh_82 : decode cX1_weigh 82 = .ok (.goto (-56), 3) := by decide +kernel
theorem dX1_weigh_85 : decode cX1_weigh 85 = .ok (.return_, 1) := by decide +kernel
set_option maxHeartbeats 4000000 in
set_option maxRecDepth 100000 in
theorem ctX1_weigh {o : Int} {p1 : Int} {σ : jq_M} {σ' : jq_M} (ho : jq_com o) (hp1 : jq_row p1) (h : X1_weigh o p1 σ = some σ') : jq_MC jq_zX yX1_weigh cX1_weigh 4 none 3 87 [jR o, jR p1] σ none σ' := by
  refine jq_met (own := RX1) (L0 := [(0, jR o), (1, jR p1)]) (by decide) rfl rfl rfl ?_
  intro X Γ hnl hlY hRT
  refine jq_use2 (P := fun r => jq_RT jq_zX X none none r) ?_ h hRT
  intro K0 hK0
  unfold X1_weigh
  refine jq_iconst Γ dX1_weigh_0 rfl ?_
  refine jq_istore_n (L' := [(2, jI 0), (0, jR o), (1, jR p1)]) Γ dX1_weigh_1 rfl hnl rfl rfl ?_
  refine jq_sub Γ (L' := [(0, jR o), (1, jR p1), (2, jI 0)]) [1, 2, 0] rfl ?_
  refine jq_loop2 (C := fun (t1 : Int × jq_M) => jq_V jq_zX X (jq_zN jq_zX) t1.2 2 [(0, jR o), (1, jR p1), (2, jI t1.1)] []) (KX := fun (e4 : jq_M) => jq_V jq_zX X (jq_zN jq_zX) e4 24 [(0, jR o), (1, jR p1)] []) ?_ ?_ (0, σ)
  · intro K2_t1 hCt1 hXt1 t1
    unfold X1_weigh_b2
    refine jq_iload_n Γ dX1_weigh_2 rfl 2 rfl ?_
    refine jq_aload_n Γ dX1_weigh_3 rfl 0 rfl (jq_at_0 (at_com ho)) ?_
    refine jq_getR (v := (o + 19)) Γ hlY (at_com ho) fl_RX1_56 rfl rfl (ly_X1_scales ho) dX1_weigh_4 ?_
    refine jq_alen Γ (at_com_19 ho) rfl rfl rfl dX1_weigh_7 ?_
    refine jq_icmp_ge (tgt := 24) Γ dX1_weigh_8 rfl ?_ ?_
    · refine jq_sub Γ (L' := [(0, jR o), (1, jR p1)]) [0, 1] rfl ?_
      exact jq_done (hXt1 t1.2)
    · refine jq_aload_n Γ dX1_weigh_11 rfl 0 rfl (jq_at_0 (at_com ho)) ?_
      refine jq_getR (v := (o + 19)) Γ hlY (at_com ho) fl_RX1_56 rfl rfl (ly_X1_scales ho) dX1_weigh_12 ?_
      refine jq_iload_n Γ dX1_weigh_15 rfl 2 rfl ?_
      refine jq_iconst Γ dX1_weigh_16 rfl ?_
      refine jq_iast Γ (at_com_19 ho) rfl dX1_weigh_17 (fun s2 => ?_)
      refine jq_iincN (L' := fun v3 => [(2, jI v3), (0, jR o), (1, jR p1)]) Γ dX1_weigh_18 2 rfl hnl rfl (fun _ => rfl) (fun v3 => ?_)
      refine jq_goto Γ (tgt := 2) dX1_weigh_21 rfl ?_
      refine jq_sub Γ (L' := [(0, jR o), (1, jR p1), (2, jI v3)]) [1, 2, 0] rfl ?_
      exact jq_done (hCt1 (v3, s2))
  · intro e4
    refine jq_iconst Γ dX1_weigh_24 rfl ?_
    refine jq_istore_n (L' := [(2, jI 0), (0, jR o), (1, jR p1)]) Γ dX1_weigh_25 rfl hnl rfl rfl ?_
    refine jq_sub Γ (L' := [(0, jR o), (1, jR p1), (2, jI 0)]) [1, 2, 0] rfl ?_
    refine jq_loop2 (C := fun (t5 : Int × jq_M) => jq_V jq_zX X (jq_zN jq_zX) t5.2 26 [(0, jR o), (1, jR p1), (2, jI t5.1)] []) (KX := fun (e17 : jq_M) => jq_V jq_zX X (jq_zN jq_zX) e17 85 [] []) ?_ ?_ (0, e4)
    · intro K26_t5 hCt5 hXt5 t5
      unfold X1_weigh_b26
      refine jq_iload_n Γ dX1_weigh_26 rfl 2 rfl ?_
      refine jq_aload_n Γ dX1_weigh_27 rfl 0 rfl (jq_at_0 (at_com ho)) ?_
      refine jq_getI (J := 3) Γ (at_com ho) fl_RX1_69 rfl rfl dX1_weigh_28 ?_
      refine jq_icmp_ge (tgt := 85) Γ dX1_weigh_31 rfl ?_ ?_
      · refine jq_sub Γ (L' := []) [] rfl ?_
        exact jq_done (hXt5 t5.2)
      · refine jq_iload_n Γ dX1_weigh_34 rfl 2 rfl ?_
        refine jq_bipush Γ dX1_weigh_35 rfl ?_
        refine jq_icmp_ge (tgt := 85) Γ dX1_weigh_37 rfl ?_ ?_
        · refine jq_sub Γ (L' := []) [] rfl ?_
          exact jq_done (hXt5 t5.2)
        · refine jq_aload_n Γ dX1_weigh_40 rfl 0 rfl (jq_at_0 (at_com ho)) ?_
          refine jq_getR (v := (o + 4)) Γ hlY (at_com ho) fl_RX1_22 rfl rfl (ly_X1_whose ho) dX1_weigh_41 ?_
          refine jq_iload_n Γ dX1_weigh_44 rfl 2 rfl ?_
          refine jq_iald Γ (at_com_4 ho) rfl dX1_weigh_45 (fun v6 => ?_)
          refine jq_istore_n (L' := [(3, jI v6), (0, jR o), (1, jR p1), (2, jI t5.1)]) Γ dX1_weigh_46 rfl hnl rfl rfl ?_
          refine jq_aload_n Γ dX1_weigh_47 rfl 1 rfl (jq_at_0 (at_com ho)) ?_
          refine jq_iload_n Γ dX1_weigh_48 rfl 3 rfl ?_
          refine jq_aload_n Γ dX1_weigh_49 rfl 2 rfl (jq_at_0 (at_row hp1)) ?_
          refine jq_cpZ (jq_virt (avs := [jI t5.1, jR p1]) (st := []) Γ hlY rfl ml_RX1_128 rfl (at_com ho) rfl rfl rfl rfl rfl dX1_weigh_50) rfl (fun r h => ctX1_isMet ho hp1 h) (fun v7 hz8 => ?_)
          refine jq_if_eq (tgt := 79) Γ dX1_weigh_53 rfl ?_ ?_
          · refine jq_iincN (L' := fun v9 => [(2, jI v9), (3, jI v6), (0, jR o), (1, jR p1)]) Γ dX1_weigh_79 3 rfl hnl rfl (fun _ => rfl) (fun v9 => ?_)
            refine jq_goto Γ (tgt := 26) dX1_weigh_82 rfl ?_
            refine jq_sub Γ (L' := [(0, jR o), (1, jR p1), (2, jI v9)]) [2, 3, 0] rfl ?_
            exact jq_done (hCt5 (v9, t5.2))
          · refine jq_aload_n Γ dX1_weigh_56 rfl 1 rfl (jq_at_0 (at_com ho)) ?_
            refine jq_iload_n Γ dX1_weigh_57 rfl 0 rfl ?_
            refine jq_cpZ (jq_virt (avs := [jI v6]) (st := []) Γ hlY rfl ml_RX1_98 rfl (at_com ho) rfl rfl rfl rfl rfl dX1_weigh_58) rfl (fun r h => ctX1_isParty ho h) (fun v10 hz11 => ?_)
            refine jq_if_eq (tgt := 79) Γ dX1_weigh_61 rfl ?_ ?_
            · refine jq_iincN (L' := fun v12 => [(2, jI v12), (3, jI v6), (0, jR o), (1, jR p1)]) Γ dX1_weigh_79 3 rfl hnl rfl (fun _ => rfl) (fun v12 => ?_)
              refine jq_goto Γ (tgt := 26) dX1_weigh_82 rfl ?_
              refine jq_sub Γ (L' := [(0, jR o), (1, jR p1), (2, jI v12)]) [2, 3, 0] rfl ?_
              exact jq_done (hCt5 (v12, t5.2))
            · refine jq_aload_n Γ dX1_weigh_64 rfl 1 rfl (jq_at_0 (at_com ho)) ?_
              refine jq_getR (v := (o + 19)) Γ hlY (at_com ho) fl_RX1_56 rfl rfl (ly_X1_scales ho) dX1_weigh_65 ?_
              refine jq_iload_n Γ dX1_weigh_68 rfl 0 rfl ?_
              refine jq_dup2 Γ dX1_weigh_69 rfl rfl ?_
              refine jq_iald Γ (at_com_19 ho) rfl dX1_weigh_70 (fun v13 => ?_)
              refine jq_aload_n Γ dX1_weigh_71 rfl 1 rfl (jq_at_0 (at_com ho)) ?_
              refine jq_getR (v := (o + 7)) Γ hlY (at_com ho) fl_RX1_31 rfl rfl (ly_X1_worths ho) dX1_weigh_72 ?_
              refine jq_iload_n Γ dX1_weigh_75 rfl 3 rfl ?_
              refine jq_iald Γ (at_com_7 ho) rfl dX1_weigh_76 (fun v14 => ?_)
              refine jq_iadd Γ dX1_weigh_77 ?_
              refine jq_iast Γ (at_com_19 ho) rfl dX1_weigh_78 (fun s15 => ?_)
              refine jq_iincN (L' := fun v16 => [(2, jI v16), (3, jI v6), (0, jR o), (1, jR p1)]) Γ dX1_weigh_79 3 rfl hnl rfl (fun _ => rfl) (fun v16 => ?_)
              refine jq_goto Γ (tgt := 26) dX1_weigh_82 rfl ?_
              refine jq_sub Γ (L' := [(0, jR o), (1, jR p1), (2, jI v16)]) [2, 3, 0] rfl ?_
              exact jq_done (hCt5 (v16, s15))
    · intro e17
      exact jq_vreturn Γ dX1_weigh_85 (hK0 _)


theorem dX1_signersOf_0 : decode cX1_signersOf 0 = .ok (.aload_n 0, 1) := by decide +kernel
theorem dX1_signersOf_1 : decode cX1_signersOf 1 = .ok (.aload_n 1, 1) := by decide +kernel
theorem dX1_signersOf_2 : decode cX1_signersOf 2 = .ok (.invokevirtual 135, 3) := by decide +kernel
theorem dX1_signersOf_5 : decode cX1_signersOf 5 = .ok (.iconst 0, 1) := by decide +kernel
theorem dX1_signersOf_6 : decode cX1_signersOf 6 = .ok (.istore_n 2, 1) := by decide +kernel
theorem dX1_signersOf_7 : decode cX1_signersOf 7 = .ok (.iconst 0, 1) := by decide +kernel
theorem dX1_signersOf_8 : decode cX1_signersOf 8 = .ok (.istore_n 3, 1) := by decide +kernel
theorem dX1_signersOf_9 : decode cX1_signersOf 9 = .ok (.iload_n 3, 1) := by decide +kernel
theorem dX1_signersOf_10 : decode cX1_signersOf 10 = .ok (.aload_n 0, 1) := by decide +kernel
theorem dX1_signersOf_11 : decode cX1_signersOf 11 = .ok (.getfield 66, 3) := by decide +kernel
theorem dX1_signersOf_14 : decode cX1_signersOf 14 = .ok (.if_icmp .ge 35, 3) := by decide +kernel
theorem dX1_signersOf_17 : decode cX1_signersOf 17 = .ok (.iload_n 3, 1) := by decide +kernel
theorem dX1_signersOf_18 : decode cX1_signersOf 18 = .ok (.iconst 5, 1) := by decide +kernel
theorem dX1_signersOf_19 : decode cX1_signersOf 19 = .ok (.if_icmp .ge 30, 3) := by decide +kernel
theorem dX1_signersOf_22 : decode cX1_signersOf 22 = .ok (.aload_n 0, 1) := by decide +kernel
theorem dX1_signersOf_23 : decode cX1_signersOf 23 = .ok (.getfield 56, 3) := by decide +kernel
theorem dX1_signersOf_26 : decode cX1_signersOf 26 = .ok (.iload_n 3, 1) := by decide +kernel
theorem dX1_signersOf_27 : decode cX1_signersOf 27 = .ok (.iaload, 1) := by decide +kernel
theorem dX1_signersOf_28 : decode cX1_signersOf 28 = .ok (.aload_n 0, 1) := by decide +kernel
theorem dX1_signersOf_29 : decode cX1_signersOf 29 = .ok (.getfield 15, 3) := by decide +kernel
theorem dX1_signersOf_32 : decode cX1_signersOf 32 = .ok (.iload_n 3, 1) := by decide +kernel
theorem dX1_signersOf_33 : decode cX1_signersOf 33 = .ok (.iaload, 1) := by decide +kernel
theorem dX1_signersOf_34 : decode cX1_signersOf 34 = .ok (.if_icmp .lt 9, 3) := by decide +kernel
theorem dX1_signersOf_37 : decode cX1_signersOf 37 = .ok (.iload_n 2, 1) := by decide +kernel
theorem dX1_signersOf_38 : decode cX1_signersOf 38 = .ok (.iconst 1, 1) := by decide +kernel
theorem dX1_signersOf_39 : decode cX1_signersOf 39 = .ok (.iload_n 3, 1) := by decide +kernel
theorem dX1_signersOf_40 : decode cX1_signersOf 40 = .ok (.ishl, 1) := by decide +kernel
theorem dX1_signersOf_41 : decode cX1_signersOf 41 = .ok (.ior, 1) := by decide +kernel
theorem dX1_signersOf_42 : decode cX1_signersOf 42 = .ok (.istore_n 2, 1) := by decide +kernel
theorem dX1_signersOf_43 : decode cX1_signersOf 43 = .ok (.iinc 3 1, 3) := by decide +kernel
theorem dX1_signersOf_46 : decode cX1_signersOf 46 = .ok (.goto (-37), 3) := by decide +kernel
theorem dX1_signersOf_49 : decode cX1_signersOf 49 = .ok (.iload_n 2, 1) := by decide +kernel
theorem dX1_signersOf_50 : decode cX1_signersOf 50 = .ok (.ireturn, 1) := by decide +kernel
set_option maxHeartbeats 4000000 in
set_option maxRecDepth 100000 in
theorem ctX1_signersOf {o : Int} {p1 : Int} {σ : jq_M} {res : Int} {σ' : jq_M} (ho : jq_com o) (hp1 : jq_row p1) (h : X1_signersOf o p1 σ = some (res, σ')) : jq_MC jq_zX yX1_signersOf cX1_signersOf 4 (some .int) 4 110 [jR o, jR p1] σ (some (jI res)) σ' := by
  refine jq_met (own := RX1) (L0 := [(0, jR o), (1, jR p1)]) (by decide) rfl rfl rfl ?_
  intro X Γ hnl hlY hRT
  refine jq_use2 (P := fun r => jq_RT jq_zX X (some .int) (some (jI r.1)) r.2) ?_ h hRT
  intro K0 hK0
  unfold X1_signersOf
  refine jq_aload_n Γ dX1_signersOf_0 rfl 0 rfl (jq_at_0 (at_com ho)) ?_
  refine jq_aload_n Γ dX1_signersOf_1 rfl 1 rfl (jq_at_0 (at_row hp1)) ?_
  refine jq_cwV (jq_virt (avs := [jR p1]) (st := []) Γ hlY rfl ml_RX1_135 rfl (at_com ho) rfl rfl rfl rfl rfl dX1_signersOf_2) (fun σ' h => ctX1_weigh ho hp1 h) (fun s1 => ?_)
  refine jq_iconst Γ dX1_signersOf_5 rfl ?_
  refine jq_istore_n (L' := [(2, jI 0), (0, jR o), (1, jR p1)]) Γ dX1_signersOf_6 rfl hnl rfl rfl ?_
  refine jq_iconst Γ dX1_signersOf_7 rfl ?_
  refine jq_istore_n (L' := [(3, jI 0), (2, jI 0), (0, jR o), (1, jR p1)]) Γ dX1_signersOf_8 rfl hnl rfl rfl ?_
  refine jq_sub Γ (L' := [(0, jR o), (2, jI 0), (3, jI 0)]) [2, 1, 0] rfl ?_
  refine jq_loop2 (C := fun (t2 : Int × Int) => jq_V jq_zX X (jq_zN jq_zX) s1 9 [(0, jR o), (2, jI t2.1), (3, jI t2.2)] []) (KX := fun (e8 : Int) => jq_V jq_zX X (jq_zN jq_zX) s1 49 [(2, jI e8)] []) ?_ ?_ (0, 0)
  · intro K9_t2 hCt2 hXt2 t2
    unfold X1_signersOf_b9
    refine jq_iload_n Γ dX1_signersOf_9 rfl 2 rfl ?_
    refine jq_aload_n Γ dX1_signersOf_10 rfl 0 rfl (jq_at_0 (at_com ho)) ?_
    refine jq_getI (J := 2) Γ (at_com ho) fl_RX1_66 rfl rfl dX1_signersOf_11 ?_
    refine jq_icmp_ge (tgt := 49) Γ dX1_signersOf_14 rfl ?_ ?_
    · refine jq_sub Γ (L' := [(2, jI t2.1)]) [1] rfl ?_
      exact jq_done (hXt2 t2.1)
    · refine jq_iload_n Γ dX1_signersOf_17 rfl 2 rfl ?_
      refine jq_iconst Γ dX1_signersOf_18 rfl ?_
      refine jq_icmp_ge (tgt := 49) Γ dX1_signersOf_19 rfl ?_ ?_
      · refine jq_sub Γ (L' := [(2, jI t2.1)]) [1] rfl ?_
        exact jq_done (hXt2 t2.1)
      · refine jq_aload_n Γ dX1_signersOf_22 rfl 0 rfl (jq_at_0 (at_com ho)) ?_
        refine jq_getR (v := (o + 19)) Γ hlY (at_com ho) fl_RX1_56 rfl rfl (ly_X1_scales ho) dX1_signersOf_23 ?_
        refine jq_iload_n Γ dX1_signersOf_26 rfl 2 rfl ?_
        refine jq_iald Γ (at_com_19 ho) rfl dX1_signersOf_27 (fun v3 => ?_)
        refine jq_aload_n Γ dX1_signersOf_28 rfl 0 rfl (jq_at_0 (at_com ho)) ?_
        refine jq_getR (v := (o + 2)) Γ hlY (at_com ho) fl_RX1_15 rfl rfl (ly_X1_leasts ho) dX1_signersOf_29 ?_
        refine jq_iload_n Γ dX1_signersOf_32 rfl 2 rfl ?_
        refine jq_iald Γ (at_com_2 ho) rfl dX1_signersOf_33 (fun v4 => ?_)
        refine jq_icmp_lt (tgt := 43) Γ dX1_signersOf_34 rfl ?_ ?_
        · refine jq_iincN (L' := fun v5 => [(3, jI v5), (0, jR o), (2, jI t2.1)]) Γ dX1_signersOf_43 2 rfl hnl rfl (fun _ => rfl) (fun v5 => ?_)
          refine jq_goto Γ (tgt := 9) dX1_signersOf_46 rfl ?_
          refine jq_sub Γ (L' := [(0, jR o), (2, jI t2.1), (3, jI v5)]) [1, 2, 0] rfl ?_
          exact jq_done (hCt2 (t2.1, v5))
        · refine jq_iload_n Γ dX1_signersOf_37 rfl 1 rfl ?_
          refine jq_iconst Γ dX1_signersOf_38 rfl ?_
          refine jq_iload_n Γ dX1_signersOf_39 rfl 2 rfl ?_
          refine jq_ishl Γ dX1_signersOf_40 ?_
          refine jq_ior Γ dX1_signersOf_41 ?_
          refine jq_nmI (fun v6 => ?_)
          refine jq_istore_n (L' := [(2, jI v6), (0, jR o), (3, jI t2.2)]) Γ dX1_signersOf_42 rfl hnl rfl rfl ?_
          refine jq_iincN (L' := fun v7 => [(3, jI v7), (2, jI v6), (0, jR o)]) Γ dX1_signersOf_43 2 rfl hnl rfl (fun _ => rfl) (fun v7 => ?_)
          refine jq_goto Γ (tgt := 9) dX1_signersOf_46 rfl ?_
          refine jq_sub Γ (L' := [(0, jR o), (2, jI v6), (3, jI v7)]) [2, 1, 0] rfl ?_
          exact jq_done (hCt2 (v6, v7))
  · intro e8
    refine jq_iload_n Γ dX1_signersOf_49 rfl 0 rfl ?_
    exact jq_ireturn Γ dX1_signersOf_50 (hK0 _)


theorem dX1_isReady_0 : decode cX1_isReady 0 = .ok (.iload_n 1, 1) := by decide +kernel
theorem dX1_isReady_1 : decode cX1_isReady 1 = .ok (.ifCond .lt 40, 3) := by decide +kernel
theorem dX1_isReady_4 : decode cX1_isReady 4 = .ok (.iload_n 1, 1) := by decide +kernel
theorem dX1_isReady_5 : decode cX1_isReady 5 = .ok (.aload_n 0, 1) := by decide +kernel
theorem dX1_isReady_6 : decode cX1_isReady 6 = .ok (.getfield 43, 3) := by decide +kernel
theorem dX1_isReady_9 : decode cX1_isReady 9 = .ok (.arraylength, 1) := by decide +kernel
theorem dX1_isReady_10 : decode cX1_isReady 10 = .ok (.if_icmp .ge 31, 3) := by decide +kernel
theorem dX1_isReady_13 : decode cX1_isReady 13 = .ok (.aload_n 0, 1) := by decide +kernel
theorem dX1_isReady_14 : decode cX1_isReady 14 = .ok (.getfield 75, 3) := by decide +kernel
theorem dX1_isReady_17 : decode cX1_isReady 17 = .ok (.iconst 1, 1) := by decide +kernel
theorem dX1_isReady_18 : decode cX1_isReady 18 = .ok (.iload_n 1, 1) := by decide +kernel
theorem dX1_isReady_19 : decode cX1_isReady 19 = .ok (.ishl, 1) := by decide +kernel
theorem dX1_isReady_20 : decode cX1_isReady 20 = .ok (.aload_n 0, 1) := by decide +kernel
theorem dX1_isReady_21 : decode cX1_isReady 21 = .ok (.getfield 43, 3) := by decide +kernel
theorem dX1_isReady_24 : decode cX1_isReady 24 = .ok (.iload_n 1, 1) := by decide +kernel
theorem dX1_isReady_25 : decode cX1_isReady 25 = .ok (.iaload, 1) := by decide +kernel
theorem dX1_isReady_26 : decode cX1_isReady 26 = .ok (.ior, 1) := by decide +kernel
theorem dX1_isReady_27 : decode cX1_isReady 27 = .ok (.iand, 1) := by decide +kernel
theorem dX1_isReady_28 : decode cX1_isReady 28 = .ok (.aload_n 0, 1) := by decide +kernel
theorem dX1_isReady_29 : decode cX1_isReady 29 = .ok (.getfield 43, 3) := by decide +kernel
theorem dX1_isReady_32 : decode cX1_isReady 32 = .ok (.iload_n 1, 1) := by decide +kernel
theorem dX1_isReady_33 : decode cX1_isReady 33 = .ok (.iaload, 1) := by decide +kernel
theorem dX1_isReady_34 : decode cX1_isReady 34 = .ok (.if_icmp .ne 7, 3) := by decide +kernel
theorem dX1_isReady_37 : decode cX1_isReady 37 = .ok (.iconst 1, 1) := by decide +kernel
theorem dX1_isReady_38 : decode cX1_isReady 38 = .ok (.goto 4, 3) := by decide +kernel
theorem dX1_isReady_41 : decode cX1_isReady 41 = .ok (.iconst 0, 1) := by decide +kernel
theorem dX1_isReady_42 : decode cX1_isReady 42 = .ok (.ireturn, 1) := by decide +kernel
set_option maxHeartbeats 4000000 in
set_option maxRecDepth 100000 in
theorem ctX1_isReady {o : Int} {p1 : Int} {σ : jq_M} {res : Int} (ho : jq_com o) (h : X1_isReady o p1 σ = some res) : jq_MC jq_zX yX1_isReady cX1_isReady 2 (some .boolean) 1 40 [jR o, jI p1] σ (some (jI res)) σ := by
  refine jq_met (own := RX1) (L0 := [(0, jR o), (1, jI p1)]) (by decide) rfl rfl rfl ?_
  intro X Γ hnl hlY hRT
  refine jq_use2 (P := fun r => jq_RT jq_zX X (some .boolean) (some (jI r)) σ) ?_ h hRT
  intro K0 hK0
  unfold X1_isReady
  refine jq_iload_n Γ dX1_isReady_0 rfl 1 rfl ?_
  refine jq_if_lt (tgt := 41) Γ dX1_isReady_1 rfl ?_ ?_
  · refine jq_iconst Γ dX1_isReady_41 rfl ?_
    exact jq_zreturn Γ (Or.inl rfl) dX1_isReady_42 (hK0 _)
  · refine jq_iload_n Γ dX1_isReady_4 rfl 1 rfl ?_
    refine jq_aload_n Γ dX1_isReady_5 rfl 0 rfl (jq_at_0 (at_com ho)) ?_
    refine jq_getR (v := (o + 11)) Γ hlY (at_com ho) fl_RX1_43 rfl rfl (ly_X1_leansOn ho) dX1_isReady_6 ?_
    refine jq_alen Γ (at_com_11 ho) rfl rfl rfl dX1_isReady_9 ?_
    refine jq_icmp_ge (tgt := 41) Γ dX1_isReady_10 rfl ?_ ?_
    · refine jq_iconst Γ dX1_isReady_41 rfl ?_
      exact jq_zreturn Γ (Or.inl rfl) dX1_isReady_42 (hK0 _)
    · refine jq_aload_n Γ dX1_isReady_13 rfl 0 rfl (jq_at_0 (at_com ho)) ?_
      refine jq_getI (J := 5) Γ (at_com ho) fl_RX1_75 rfl rfl dX1_isReady_14 ?_
      refine jq_iconst Γ dX1_isReady_17 rfl ?_
      refine jq_iload_n Γ dX1_isReady_18 rfl 1 rfl ?_
      refine jq_ishl Γ dX1_isReady_19 ?_
      refine jq_aload_n Γ dX1_isReady_20 rfl 0 rfl (jq_at_0 (at_com ho)) ?_
      refine jq_getR (v := (o + 11)) Γ hlY (at_com ho) fl_RX1_43 rfl rfl (ly_X1_leansOn ho) dX1_isReady_21 ?_
      refine jq_iload_n Γ dX1_isReady_24 rfl 1 rfl ?_
      refine jq_iald Γ (at_com_11 ho) rfl dX1_isReady_25 (fun v1 => ?_)
      refine jq_ior Γ dX1_isReady_26 ?_
      refine jq_iand Γ dX1_isReady_27 ?_
      refine jq_aload_n Γ dX1_isReady_28 rfl 0 rfl (jq_at_0 (at_com ho)) ?_
      refine jq_getR (v := (o + 11)) Γ hlY (at_com ho) fl_RX1_43 rfl rfl (ly_X1_leansOn ho) dX1_isReady_29 ?_
      refine jq_iload_n Γ dX1_isReady_32 rfl 1 rfl ?_
      refine jq_iald Γ (at_com_11 ho) rfl dX1_isReady_33 (fun v2 => ?_)
      refine jq_icmp_ne (tgt := 41) Γ dX1_isReady_34 rfl ?_ ?_
      · refine jq_iconst Γ dX1_isReady_41 rfl ?_
        exact jq_zreturn Γ (Or.inl rfl) dX1_isReady_42 (hK0 _)
      · refine jq_iconst Γ dX1_isReady_37 rfl ?_
        refine jq_goto Γ (tgt := 42) dX1_isReady_38 rfl ?_
        exact jq_zreturn Γ (Or.inr rfl) dX1_isReady_42 (hK0 _)


theorem dX1_readyArticles_0 : decode cX1_readyArticles 0 = .ok (.iconst 0, 1) := by decide +kernel
theorem dX1_readyArticles_1 : decode cX1_readyArticles 1 = .ok (.istore_n 1, 1) := by decide +kernel
theorem dX1_readyArticles_2 : decode cX1_readyArticles 2 = .ok (.iconst 0, 1) := by decide +kernel
theorem dX1_readyArticles_3 : decode cX1_readyArticles 3 = .ok (.istore_n 2, 1) := by decide +kernel
theorem dX1_readyArticles_4 : decode cX1_readyArticles 4 = .ok (.iload_n 2, 1) := by decide +kernel
theorem dX1_readyArticles_5 : decode cX1_readyArticles 5 = .ok (.aload_n 0, 1) := by decide +kernel
theorem dX1_readyArticles_6 : decode cX1_readyArticles 6 = .ok (.getfield 72, 3) := by decide +kernel
theorem dX1_readyArticles_9 : decode cX1_readyArticles 9 = .ok (.if_icmp .ge 23, 3) := by decide +kernel
theorem dX1_readyArticles_12 : decode cX1_readyArticles 12 = .ok (.aload_n 0, 1) := by decide +kernel
theorem dX1_readyArticles_13 : decode cX1_readyArticles 13 = .ok (.iload_n 2, 1) := by decide +kernel
theorem dX1_readyArticles_14 : decode cX1_readyArticles 14 = .ok (.invokevirtual 143, 3) := by decide +kernel
theorem dX1_readyArticles_17 : decode cX1_readyArticles 17 = .ok (.ifCond .eq 9, 3) := by decide +kernel
theorem dX1_readyArticles_20 : decode cX1_readyArticles 20 = .ok (.iload_n 1, 1) := by decide +kernel
theorem dX1_readyArticles_21 : decode cX1_readyArticles 21 = .ok (.iconst 1, 1) := by decide +kernel
theorem dX1_readyArticles_22 : decode cX1_readyArticles 22 = .ok (.iload_n 2, 1) := by decide +kernel
theorem dX1_readyArticles_23 : decode cX1_readyArticles 23 = .ok (.ishl, 1) := by decide +kernel
theorem dX1_readyArticles_24 : decode cX1_readyArticles 24 = .ok (.ior, 1) := by decide +kernel
theorem dX1_readyArticles_25 : decode cX1_readyArticles 25 = .ok (.istore_n 1, 1) := by decide +kernel
theorem dX1_readyArticles_26 : decode cX1_readyArticles 26 = .ok (.iinc 2 1, 3) := by decide +kernel
theorem dX1_readyArticles_29 : decode cX1_readyArticles 29 = .ok (.goto (-25), 3) := by decide +kernel
theorem dX1_readyArticles_32 : decode cX1_readyArticles 32 = .ok (.iload_n 1, 1) := by decide +kernel
theorem dX1_readyArticles_33 : decode cX1_readyArticles 33 = .ok (.ireturn, 1) := by decide +kernel
set_option maxHeartbeats 4000000 in
set_option maxRecDepth 100000 in
theorem ctX1_readyArticles {o : Int} {σ : jq_M} {res : Int} (ho : jq_com o) (h : X1_readyArticles o σ = some res) : jq_MC jq_zX yX1_readyArticles cX1_readyArticles 3 (some .int) 2 61 [jR o] σ (some (jI res)) σ := by
  refine jq_met (own := RX1) (L0 := [(0, jR o)]) (by decide) rfl rfl rfl ?_
  intro X Γ hnl hlY hRT
  refine jq_use2 (P := fun r => jq_RT jq_zX X (some .int) (some (jI r)) σ) ?_ h hRT
  intro K0 hK0
  unfold X1_readyArticles
  refine jq_iconst Γ dX1_readyArticles_0 rfl ?_
  refine jq_istore_n (L' := [(1, jI 0), (0, jR o)]) Γ dX1_readyArticles_1 rfl hnl rfl rfl ?_
  refine jq_iconst Γ dX1_readyArticles_2 rfl ?_
  refine jq_istore_n (L' := [(2, jI 0), (1, jI 0), (0, jR o)]) Γ dX1_readyArticles_3 rfl hnl rfl rfl ?_
  refine jq_sub Γ (L' := [(0, jR o), (1, jI 0), (2, jI 0)]) [2, 1, 0] rfl ?_
  refine jq_loop2 (C := fun (t1 : Int × Int) => jq_V jq_zX X (jq_zN jq_zX) σ 4 [(0, jR o), (1, jI t1.1), (2, jI t1.2)] []) (KX := fun (e7 : Int) => jq_V jq_zX X (jq_zN jq_zX) σ 32 [(1, jI e7)] []) ?_ ?_ (0, 0)
  · intro K4_t1 hCt1 hXt1 t1
    unfold X1_readyArticles_b4
    refine jq_iload_n Γ dX1_readyArticles_4 rfl 2 rfl ?_
    refine jq_aload_n Γ dX1_readyArticles_5 rfl 0 rfl (jq_at_0 (at_com ho)) ?_
    refine jq_getI (J := 4) Γ (at_com ho) fl_RX1_72 rfl rfl dX1_readyArticles_6 ?_
    refine jq_icmp_ge (tgt := 32) Γ dX1_readyArticles_9 rfl ?_ ?_
    · refine jq_sub Γ (L' := [(1, jI t1.1)]) [1] rfl ?_
      exact jq_done (hXt1 t1.1)
    · refine jq_aload_n Γ dX1_readyArticles_12 rfl 0 rfl (jq_at_0 (at_com ho)) ?_
      refine jq_iload_n Γ dX1_readyArticles_13 rfl 2 rfl ?_
      refine jq_cpZ (jq_virt (avs := [jI t1.2]) (st := []) Γ hlY rfl ml_RX1_143 rfl (at_com ho) rfl rfl rfl rfl rfl dX1_readyArticles_14) rfl (fun r h => ctX1_isReady ho h) (fun v2 hz3 => ?_)
      refine jq_if_eq (tgt := 26) Γ dX1_readyArticles_17 rfl ?_ ?_
      · refine jq_iincN (L' := fun v4 => [(2, jI v4), (0, jR o), (1, jI t1.1)]) Γ dX1_readyArticles_26 2 rfl hnl rfl (fun _ => rfl) (fun v4 => ?_)
        refine jq_goto Γ (tgt := 4) dX1_readyArticles_29 rfl ?_
        refine jq_sub Γ (L' := [(0, jR o), (1, jI t1.1), (2, jI v4)]) [1, 2, 0] rfl ?_
        exact jq_done (hCt1 (t1.1, v4))
      · refine jq_iload_n Γ dX1_readyArticles_20 rfl 1 rfl ?_
        refine jq_iconst Γ dX1_readyArticles_21 rfl ?_
        refine jq_iload_n Γ dX1_readyArticles_22 rfl 2 rfl ?_
        refine jq_ishl Γ dX1_readyArticles_23 ?_
        refine jq_ior Γ dX1_readyArticles_24 ?_
        refine jq_nmI (fun v5 => ?_)
        refine jq_istore_n (L' := [(1, jI v5), (0, jR o), (2, jI t1.2)]) Γ dX1_readyArticles_25 rfl hnl rfl rfl ?_
        refine jq_iincN (L' := fun v6 => [(2, jI v6), (1, jI v5), (0, jR o)]) Γ dX1_readyArticles_26 2 rfl hnl rfl (fun _ => rfl) (fun v6 => ?_)
        refine jq_goto Γ (tgt := 4) dX1_readyArticles_29 rfl ?_
        refine jq_sub Γ (L' := [(0, jR o), (1, jI v5), (2, jI v6)]) [2, 1, 0] rfl ?_
        exact jq_done (hCt1 (v5, v6))
  · intro e7
    refine jq_iload_n Γ dX1_readyArticles_32 rfl 0 rfl ?_
    exact jq_ireturn Γ dX1_readyArticles_33 (hK0 _)


