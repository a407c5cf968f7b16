theorem fl_RX2_93 : jq_fl RX2 93 1 21 3 false := ⟨RX1, TX1, tyX1, cls_X1, by decide, jq_in 342 (by decide +kernel) rfl, by decide⟩
theorem yf_X5_takeParty : Cond.instanceMethod yX5_takeParty ∈ jq_T ∧ Cond.selects (yX5_takeParty).cls yX5_takeParty yX5_takeParty ∈ jq_T ∧ Cond.initialized (yX5_takeParty).cls ∈ jq_T ∧ Cond.code yX5_takeParty cX5_takeParty 3 (some .int) ∈ jq_T ∧ ((yX5_takeParty).cls ≠ "java/lang/invoke/MethodHandle" ∧ (yX5_takeParty).cls ≠ "java/lang/invoke/VarHandle" ∧ (parseMethodDescriptor (yX5_takeParty).desc).map (fun d => d.parameters.length) = some 1) := ⟨jq_in 774 (by decide +kernel) rfl, jq_in 775 (by decide +kernel) rfl, jq_in 136 (by decide +kernel) rfl, jq_in 776 (by decide +kernel) rfl, ⟨by decide, by decide, by decide +kernel⟩⟩
theorem ml_RX2_99 : jq_vl RX2 99 yX5_takeParty cX5_takeParty 3 (some .int) 1 := ⟨jq_in 773 (by decide +kernel) rfl, yf_X5_takeParty⟩
theorem yf_X2_readKind : Cond.static yX2_readKind ∈ jq_T ∧ Cond.initialized (yX2_readKind).cls ∈ jq_T ∧ Cond.code yX2_readKind cX2_readKind 3 none ∈ jq_T ∧ ((yX2_readKind).cls ≠ "java/lang/invoke/MethodHandle" ∧ (yX2_readKind).cls ≠ "java/lang/invoke/VarHandle" ∧ (parseMethodDescriptor (yX2_readKind).desc).map (fun d => d.parameters.length) = some 3) := ⟨jq_in 786 (by decide +kernel) rfl, jq_in 150 (by decide +kernel) rfl, jq_in 787 (by decide +kernel) rfl, ⟨by decide, by decide, by decide +kernel⟩⟩
theorem ml_RX2_106 : jq_sl RX2 106 yX2_readKind cX2_readKind 3 none 3 := ⟨jq_in 785 (by decide +kernel) rfl, yf_X2_readKind⟩
theorem yf_X5_passKeyword : Cond.instanceMethod yX5_passKeyword ∈ jq_T ∧ Cond.selects (yX5_passKeyword).cls yX5_passKeyword yX5_passKeyword ∈ jq_T ∧ Cond.initialized (yX5_passKeyword).cls ∈ jq_T ∧ Cond.code yX5_passKeyword cX5_passKeyword 2 none ∈ jq_T ∧ ((yX5_passKeyword).cls ≠ "java/lang/invoke/MethodHandle" ∧ (yX5_passKeyword).cls ≠ "java/lang/invoke/VarHandle" ∧ (parseMethodDescriptor (yX5_passKeyword).desc).map (fun d => d.parameters.length) = some 1) := ⟨jq_in 790 (by decide +kernel) rfl, jq_in 791 (by decide +kernel) rfl, jq_in 136 (by decide +kernel) rfl, jq_in 792 (by decide +kernel) rfl, ⟨by decide, by decide, by decide +kernel⟩⟩
theorem ml_RX2_109 : jq_vl RX2 109 yX5_passKeyword cX5_passKeyword 2 none 1 := ⟨jq_in 789 (by decide +kernel) rfl, yf_X5_passKeyword⟩
theorem fl_RX2_112 : jq_fl RX2 112 1 21 13 true := ⟨RX1, TX1, tyX1, cls_X1, by decide, jq_in 373 (by decide +kernel) rfl, by decide⟩
theorem yf_X5_goesOn : Cond.instanceMethod yX5_goesOn ∈ jq_T ∧ Cond.selects (yX5_goesOn).cls yX5_goesOn yX5_goesOn ∈ jq_T ∧ Cond.initialized (yX5_goesOn).cls ∈ jq_T ∧ Cond.code yX5_goesOn cX5_goesOn 1 (some .boolean) ∈ jq_T ∧ ((yX5_goesOn).cls ≠ "java/lang/invoke/MethodHandle" ∧ (yX5_goesOn).cls ≠ "java/lang/invoke/VarHandle" ∧ (parseMethodDescriptor (yX5_goesOn).desc).map (fun d => d.parameters.length) = some 0) := ⟨jq_in 711 (by decide +kernel) rfl, jq_in 712 (by decide +kernel) rfl, jq_in 136 (by decide +kernel) rfl, jq_in 713 (by decide +kernel) rfl, ⟨by decide, by decide, by decide +kernel⟩⟩
theorem ml_RX2_14 : jq_vl RX2 14 yX5_goesOn cX5_goesOn 1 (some .boolean) 0 := ⟨jq_in 710 (by decide +kernel) rfl, yf_X5_goesOn⟩
theorem ml_RX2_142 : jq_vl RX2 142 yX5_isSign cX5_isSign 2 (some .boolean) 1 := ⟨jq_in 799 (by decide +kernel) rfl, yf_X5_isSign⟩
theorem yf_X5_articleHere : Cond.instanceMethod yX5_articleHere ∈ jq_T ∧ Cond.selects (yX5_articleHere).cls yX5_articleHere yX5_articleHere ∈ jq_T ∧ Cond.initialized (yX5_articleHere).cls ∈ jq_T ∧ Cond.code yX5_articleHere cX5_articleHere 3 (some .int) ∈ jq_T ∧ ((yX5_articleHere).cls ≠ "java/lang/invoke/MethodHandle" ∧ (yX5_articleHere).cls ≠ "java/lang/invoke/VarHandle" ∧ (parseMethodDescriptor (yX5_articleHere).desc).map (fun d => d.parameters.length) = some 1) := ⟨jq_in 801 (by decide +kernel) rfl, jq_in 802 (by decide +kernel) rfl, jq_in 136 (by decide +kernel) rfl, jq_in 803 (by decide +kernel) rfl, ⟨by decide, by decide, by decide +kernel⟩⟩
theorem ml_RX2_146 : jq_vl RX2 146 yX5_articleHere cX5_articleHere 3 (some .int) 1 := ⟨jq_in 800 (by decide +kernel) rfl, yf_X5_articleHere⟩
theorem yf_X10_holds : Cond.static yX10_holds ∈ jq_T ∧ Cond.initialized (yX10_holds).cls ∈ jq_T ∧ Cond.code yX10_holds cX10_holds 2 (some .boolean) ∈ jq_T ∧ ((yX10_holds).cls ≠ "java/lang/invoke/MethodHandle" ∧ (yX10_holds).cls ≠ "java/lang/invoke/VarHandle" ∧ (parseMethodDescriptor (yX10_holds).desc).map (fun d => d.parameters.length) = some 2) := ⟨jq_in 805 (by decide +kernel) rfl, jq_in 135 (by decide +kernel) rfl, jq_in 806 (by decide +kernel) rfl, ⟨by decide, by decide, by decide +kernel⟩⟩
theorem ml_RX2_149 : jq_nl RX2 149 yX10_holds "StandTable" cX10_holds 2 (some .boolean) 2 := ⟨jq_inN 804 (by decide +kernel) rfl, yf_X10_holds⟩
theorem fl_RX2_121 : jq_fl RX2 121 1 21 4 false := ⟨RX1, TX1, tyX1, cls_X1, by decide, jq_in 346 (by decide +kernel) rfl, by decide⟩
theorem fl_RX2_124 : jq_fl RX2 124 1 21 14 true := ⟨RX1, TX1, tyX1, cls_X1, by decide, jq_in 376 (by decide +kernel) rfl, by decide⟩
theorem fl_RX2_127 : jq_fl RX2 127 1 21 15 true := ⟨RX1, TX1, tyX1, cls_X1, by decide, jq_in 379 (by decide +kernel) rfl, by decide⟩
theorem fl_RX2_130 : jq_fl RX2 130 1 21 16 true := ⟨RX1, TX1, tyX1, cls_X1, by decide, jq_in 383 (by decide +kernel) rfl, by decide⟩
theorem fl_RX2_133 : jq_fl RX2 133 1 21 17 true := ⟨RX1, TX1, tyX1, cls_X1, by decide, jq_in 387 (by decide +kernel) rfl, by decide⟩
theorem yf_X2_takeLeans : Cond.static yX2_takeLeans ∈ jq_T ∧ Cond.initialized (yX2_takeLeans).cls ∈ jq_T ∧ Cond.code yX2_takeLeans cX2_takeLeans 5 (some .int) ∈ jq_T ∧ ((yX2_takeLeans).cls ≠ "java/lang/invoke/MethodHandle" ∧ (yX2_takeLeans).cls ≠ "java/lang/invoke/VarHandle" ∧ (parseMethodDescriptor (yX2_takeLeans).desc).map (fun d => d.parameters.length) = some 2) := ⟨jq_in 797 (by decide +kernel) rfl, jq_in 150 (by decide +kernel) rfl, jq_in 798 (by decide +kernel) rfl, ⟨by decide, by decide, by decide +kernel⟩⟩
theorem ml_RX2_136 : jq_sl RX2 136 yX2_takeLeans cX2_takeLeans 5 (some .int) 2 := ⟨jq_in 796 (by decide +kernel) rfl, yf_X2_takeLeans⟩
theorem fl_RX2_139 : jq_fl RX2 139 1 21 18 true := ⟨RX1, TX1, tyX1, cls_X1, by decide, jq_in 391 (by decide +kernel) rfl, by decide⟩
theorem yf_X1_clear : Cond.instanceMethod yX1_clear ∈ jq_T ∧ Cond.selects (yX1_clear).cls yX1_clear yX1_clear ∈ jq_T ∧ Cond.initialized (yX1_clear).cls ∈ jq_T ∧ Cond.code yX1_clear cX1_clear 1 none ∈ jq_T ∧ ((yX1_clear).cls ≠ "java/lang/invoke/MethodHandle" ∧ (yX1_clear).cls ≠ "java/lang/invoke/VarHandle" ∧ (parseMethodDescriptor (yX1_clear).desc).map (fun d => d.parameters.length) = some 0) := ⟨jq_in 703 (by decide +kernel) rfl, jq_in 704 (by decide +kernel) rfl, jq_in 141 (by decide +kernel) rfl, jq_in 705 (by decide +kernel) rfl, ⟨by decide, by decide, by decide +kernel⟩⟩
theorem ml_RX2_9 : jq_vl RX2 9 yX1_clear cX1_clear 1 none 0 := ⟨jq_in 702 (by decide +kernel) rfl, yf_X1_clear⟩
theorem yf_X2_readPlaces : Cond.static yX2_readPlaces ∈ jq_T ∧ Cond.initialized (yX2_readPlaces).cls ∈ jq_T ∧ Cond.code yX2_readPlaces cX2_readPlaces 2 none ∈ jq_T ∧ ((yX2_readPlaces).cls ≠ "java/lang/invoke/MethodHandle" ∧ (yX2_readPlaces).cls ≠ "java/lang/invoke/VarHandle" ∧ (parseMethodDescriptor (yX2_readPlaces).desc).map (fun d => d.parameters.length) = some 2) := ⟨jq_in 715 (by decide +kernel) rfl, jq_in 150 (by decide +kernel) rfl, jq_in 716 (by decide +kernel) rfl, ⟨by decide, by decide, by decide +kernel⟩⟩
theorem ml_RX2_24 : jq_sl RX2 24 yX2_readPlaces cX2_readPlaces 2 none 2 := ⟨jq_in 714 (by decide +kernel) rfl, yf_X2_readPlaces⟩
theorem yf_X2_readCorner : Cond.static yX2_readCorner ∈ jq_T ∧ Cond.initialized (yX2_readCorner).cls ∈ jq_T ∧ Cond.code yX2_readCorner cX2_readCorner 2 none ∈ jq_T ∧ ((yX2_readCorner).cls ≠ "java/lang/invoke/MethodHandle" ∧ (yX2_readCorner).cls ≠ "java/lang/invoke/VarHandle" ∧ (parseMethodDescriptor (yX2_readCorner).desc).map (fun d => d.parameters.length) = some 2) := ⟨jq_in 745 (by decide +kernel) rfl, jq_in 150 (by decide +kernel) rfl, jq_in 746 (by decide +kernel) rfl, ⟨by decide, by decide, by decide +kernel⟩⟩
theorem ml_RX2_30 : jq_sl RX2 30 yX2_readCorner cX2_readCorner 2 none 2 := ⟨jq_in 744 (by decide +kernel) rfl, yf_X2_readCorner⟩
theorem yf_X2_readParty : Cond.static yX2_readParty ∈ jq_T ∧ Cond.initialized (yX2_readParty).cls ∈ jq_T ∧ Cond.code yX2_readParty cX2_readParty 3 none ∈ jq_T ∧ ((yX2_readParty).cls ≠ "java/lang/invoke/MethodHandle" ∧ (yX2_readParty).cls ≠ "java/lang/invoke/VarHandle" ∧ (parseMethodDescriptor (yX2_readParty).desc).map (fun d => d.parameters.length) = some 2) := ⟨jq_in 748 (by decide +kernel) rfl, jq_in 150 (by decide +kernel) rfl, jq_in 749 (by decide +kernel) rfl, ⟨by decide, by decide, by decide +kernel⟩⟩
theorem ml_RX2_33 : jq_sl RX2 33 yX2_readParty cX2_readParty 3 none 2 := ⟨jq_in 747 (by decide +kernel) rfl, yf_X2_readParty⟩
theorem yf_X2_readWish : Cond.static yX2_readWish ∈ jq_T ∧ Cond.initialized (yX2_readWish).cls ∈ jq_T ∧ Cond.code yX2_readWish cX2_readWish 4 none ∈ jq_T ∧ ((yX2_readWish).cls ≠ "java/lang/invoke/MethodHandle" ∧ (yX2_readWish).cls ≠ "java/lang/invoke/VarHandle" ∧ (parseMethodDescriptor (yX2_readWish).desc).map (fun d => d.parameters.length) = some 3) := ⟨jq_in 771 (by decide +kernel) rfl, jq_in 150 (by decide +kernel) rfl, jq_in 772 (by decide +kernel) rfl, ⟨by decide, by decide, by decide +kernel⟩⟩
theorem ml_RX2_36 : jq_sl RX2 36 yX2_readWish cX2_readWish 4 none 3 := ⟨jq_in 770 (by decide +kernel) rfl, yf_X2_readWish⟩
theorem yf_X2_readArticle : Cond.static yX2_readArticle ∈ jq_T ∧ Cond.initialized (yX2_readArticle).cls ∈ jq_T ∧ Cond.code yX2_readArticle cX2_readArticle 3 none ∈ jq_T ∧ ((yX2_readArticle).cls ≠ "java/lang/invoke/MethodHandle" ∧ (yX2_readArticle).cls ≠ "java/lang/invoke/VarHandle" ∧ (parseMethodDescriptor (yX2_readArticle).desc).map (fun d => d.parameters.length) = some 2) := ⟨jq_in 794 (by decide +kernel) rfl, jq_in 150 (by decide +kernel) rfl, jq_in 795 (by decide +kernel) rfl, ⟨by decide, by decide, by decide +kernel⟩⟩
theorem ml_RX2_40 : jq_sl RX2 40 yX2_readArticle cX2_readArticle 3 none 2 := ⟨jq_in 793 (by decide +kernel) rfl, yf_X2_readArticle⟩
theorem fl_RX10_447 : jq_fl RX10 447 3 14 12 false := ⟨RX5, TX5, tyX5, cls_X5, by decide, jq_in 239 (by decide +kernel) rfl, by decide⟩
theorem fl_RX10_82 : jq_fl RX10 82 7 18 5 false := ⟨RX10, TX10, tyX10, cls_X10, by decide, jq_in 531 (by decide +kernel) rfl, by decide⟩
theorem fl_RX10_450 : jq_fl RX10 450 3 14 13 false := ⟨RX5, TX5, tyX5, cls_X5, by decide, jq_in 241 (by decide +kernel) rfl, by decide⟩
theorem fl_RX10_85 : jq_fl RX10 85 7 18 6 false := ⟨RX10, TX10, tyX10, cls_X10, by decide, jq_in 532 (by decide +kernel) rfl, by decide⟩
theorem yf_X5_open : Cond.instanceMethod yX5_open ∈ jq_T ∧ Cond.selects (yX5_open).cls yX5_open yX5_open ∈ jq_T ∧ Cond.initialized (yX5_open).cls ∈ jq_T ∧ Cond.code yX5_open cX5_open 2 none ∈ jq_T ∧ ((yX5_open).cls ≠ "java/lang/invoke/MethodHandle" ∧ (yX5_open).cls ≠ "java/lang/invoke/VarHandle" ∧ (parseMethodDescriptor (yX5_open).desc).map (fun d => d.parameters.length) = some 1) := ⟨jq_in 668 (by decide +kernel) rfl, jq_in 669 (by decide +kernel) rfl, jq_in 136 (by decide +kernel) rfl, jq_in 670 (by decide +kernel) rfl, ⟨by decide, by decide, by decide +kernel⟩⟩
theorem ml_RX10_146 : jq_vl RX10 146 yX5_open cX5_open 2 none 1 := ⟨jq_in 667 (by decide +kernel) rfl, yf_X5_open⟩
theorem fl_RX10_29 : jq_fl RX10 29 7 18 8 false := ⟨RX10, TX10, tyX10, cls_X10, by decide, jq_in 534 (by decide +kernel) rfl, by decide⟩
theorem yf_X2_readAll : Cond.static yX2_readAll ∈ jq_T ∧ Cond.initialized (yX2_readAll).cls ∈ jq_T ∧ Cond.code yX2_readAll cX2_readAll 3 none ∈ jq_T ∧ ((yX2_readAll).cls ≠ "java/lang/invoke/MethodHandle" ∧ (yX2_readAll).cls ≠ "java/lang/invoke/VarHandle" ∧ (parseMethodDescriptor (yX2_readAll).desc).map (fun d => d.parameters.length) = some 2) := ⟨jq_in 700 (by decide +kernel) rfl, jq_in 150 (by decide +kernel) rfl, jq_in 701 (by decide +kernel) rfl, ⟨by decide, by decide, by decide +kernel⟩⟩
theorem ml_RX10_149 : jq_sl RX10 149 yX2_readAll cX2_readAll 3 none 2 := ⟨jq_in 699 (by decide +kernel) rfl, yf_X2_readAll⟩
theorem yf_X10_keepFault : Cond.instanceMethod yX10_keepFault ∈ jq_T ∧ Cond.selects (yX10_keepFault).cls yX10_keepFault yX10_keepFault ∈ jq_T ∧ Cond.initialized (yX10_keepFault).cls ∈ jq_T ∧ Cond.code yX10_keepFault cX10_keepFault 1 (some .boolean) ∈ jq_T ∧ ((yX10_keepFault).cls ≠ "java/lang/invoke/MethodHandle" ∧ (yX10_keepFault).cls ≠ "java/lang/invoke/VarHandle" ∧ (parseMethodDescriptor (yX10_keepFault).desc).map (fun d => d.parameters.length) = some 0) := ⟨jq_in 809 (by decide +kernel) rfl, jq_in 9 (by decide +kernel) rfl, jq_in 135 (by decide +kernel) rfl, jq_in 810 (by decide +kernel) rfl, ⟨by decide, by decide, by decide +kernel⟩⟩
theorem ml_RX10_155 : jq_vl RX10 155 yX10_keepFault cX10_keepFault 1 (some .boolean) 0 := ⟨jq_in 807 (by decide +kernel) rfl, yf_X10_keepFault⟩
theorem fl_RX10_25 : jq_fl RX10 25 7 18 7 false := ⟨RX10, TX10, tyX10, cls_X10, by decide, jq_in 533 (by decide +kernel) rfl, by decide⟩
theorem fl_RX10_158 : jq_fl RX10 158 1 21 3 false := ⟨RX1, TX1, tyX1, cls_X1, by decide, jq_in 343 (by decide +kernel) rfl, by decide⟩
theorem yf_X10_answer : Cond.instanceMethod yX10_answer ∈ jq_T ∧ Cond.selects (yX10_answer).cls yX10_answer yX10_answer ∈ jq_T ∧ Cond.initialized (yX10_answer).cls ∈ jq_T ∧ Cond.code yX10_answer cX10_answer 2 (some .int) ∈ jq_T ∧ ((yX10_answer).cls ≠ "java/lang/invoke/MethodHandle" ∧ (yX10_answer).cls ≠ "java/lang/invoke/VarHandle" ∧ (parseMethodDescriptor (yX10_answer).desc).map (fun d => d.parameters.length) = some 1) := ⟨jq_in 813 (by decide +kernel) rfl, jq_in 10 (by decide +kernel) rfl, jq_in 135 (by decide +kernel) rfl, jq_in 814 (by decide +kernel) rfl, ⟨by decide, by decide, by decide +kernel⟩⟩
theorem ml_RX10_161 : jq_vl RX10 161 yX10_answer cX10_answer 2 (some .int) 1 := ⟨jq_in 811 (by decide +kernel) rfl, yf_X10_answer⟩
theorem mw_RX7_51 : Cond.methodLink RX7 51 Lib.Math.min.name ∈ jq_T := jq_in 836 (by decide +kernel) rfl
theorem fl_RX7_9 : jq_fl RX7 9 4 9 3 true := ⟨RX7, TX7, tyX7, cls_X7, by decide, jq_in 292 (by decide +kernel) rfl, by decide⟩
theorem fl_RX7_15 : jq_fl RX7 15 4 9 4 true := ⟨RX7, TX7, tyX7, cls_X7, by decide, jq_in 295 (by decide +kernel) rfl, by decide⟩
theorem fl_RX7_18 : jq_fl RX7 18 4 9 5 true := ⟨RX7, TX7, tyX7, cls_X7, by decide, jq_in 298 (by decide +kernel) rfl, by decide⟩
theorem fl_RX7_21 : jq_fl RX7 21 4 9 6 true := ⟨RX7, TX7, tyX7, cls_X7, by decide, jq_in 301 (by decide +kernel) rfl, by decide⟩
theorem yf_X7_addLine : Cond.instanceMethod yX7_addLine ∈ jq_T ∧ Cond.selects (yX7_addLine).cls yX7_addLine yX7_addLine ∈ jq_T ∧ Cond.initialized (yX7_addLine).cls ∈ jq_T ∧ Cond.code yX7_addLine cX7_addLine 3 (some .int) ∈ jq_T ∧ ((yX7_addLine).cls ≠ "java/lang/invoke/MethodHandle" ∧ (yX7_addLine).cls ≠ "java/lang/invoke/VarHandle" ∧ (parseMethodDescriptor (yX7_addLine).desc).map (fun d => d.parameters.length) = some 1) := ⟨jq_in 834 (by decide +kernel) rfl, jq_in 11 (by decide +kernel) rfl, jq_in 142 (by decide +kernel) rfl, jq_in 835 (by decide +kernel) rfl, ⟨by decide, by decide, by decide +kernel⟩⟩
theorem ml_RX7_47 : jq_vl RX7 47 yX7_addLine cX7_addLine 3 (some .int) 1 := ⟨jq_in 832 (by decide +kernel) rfl, yf_X7_addLine⟩
theorem fl_RX7_24 : jq_fl RX7 24 4 9 7 true := ⟨RX7, TX7, tyX7, cls_X7, by decide, jq_in 303 (by decide +kernel) rfl, by decide⟩
theorem fl_RX6_57 : jq_fl RX6 57 4 9 8 false := ⟨RX7, TX7, tyX7, cls_X7, by decide, jq_in 305 (by decide +kernel) rfl, by decide⟩
theorem yf_X7_closeOne : Cond.instanceMethod yX7_closeOne ∈ jq_T ∧ Cond.selects (yX7_closeOne).cls yX7_closeOne yX7_closeOne ∈ jq_T ∧ Cond.initialized (yX7_closeOne).cls ∈ jq_T ∧ Cond.code yX7_closeOne cX7_closeOne 2 none ∈ jq_T ∧ ((yX7_closeOne).cls ≠ "java/lang/invoke/MethodHandle" ∧ (yX7_closeOne).cls ≠ "java/lang/invoke/VarHandle" ∧ (parseMethodDescriptor (yX7_closeOne).desc).map (fun d => d.parameters.length) = some 0) := ⟨jq_in 829 (by decide +kernel) rfl, jq_in 830 (by decide +kernel) rfl, jq_in 142 (by decide +kernel) rfl, jq_in 831 (by decide +kernel) rfl, ⟨by decide, by decide, by decide +kernel⟩⟩
theorem ml_RX6_64 : jq_vl RX6 64 yX7_closeOne cX7_closeOne 2 none 0 := ⟨jq_in 828 (by decide +kernel) rfl, yf_X7_closeOne⟩
theorem ml_RX6_67 : jq_vl RX6 67 yX5_next cX5_next 1 none 0 := ⟨jq_in 837 (by decide +kernel) rfl, yf_X5_next⟩
theorem ml_RX6_53 : jq_vl RX6 53 yX5_passSign cX5_passSign 2 none 1 := ⟨jq_in 838 (by decide +kernel) rfl, yf_X5_passSign⟩
theorem ml_RX6_60 : jq_vl RX6 60 yX5_blame cX5_blame 2 none 1 := ⟨jq_in 827 (by decide +kernel) rfl, yf_X5_blame⟩
theorem ml_RX6_93 : jq_nl RX6 93 yX10_within "StandTable" cX10_within 3 (some .boolean) 3 := ⟨jq_inN 845 (by decide +kernel) rfl, yf_X10_within⟩
theorem fl_RX6_24 : jq_fl RX6 24 3 14 11 false := ⟨RX5, TX5, tyX5, cls_X5, by decide, jq_in 236 (by decide +kernel) rfl, by decide⟩
theorem yf_X6_isStepWord : Cond.static yX6_isStepWord ∈ jq_T ∧ Cond.initialized (yX6_isStepWord).cls ∈ jq_T ∧ Cond.code yX6_isStepWord cX6_isStepWord 1 (some .boolean) ∈ jq_T ∧ ((yX6_isStepWord).cls ≠ "java/lang/invoke/MethodHandle" ∧ (yX6_isStepWord).cls ≠ "java/lang/invoke/VarHandle" ∧ (parseMethodDescriptor (yX6_isStepWord).desc).map (fun d => d.parameters.length) = some 1) := ⟨jq_in 843 (by decide +kernel) rfl, jq_in 151 (by decide +kernel) rfl, jq_in 844 (by decide +kernel) rfl, ⟨by decide, by decide, by decide +kernel⟩⟩
theorem ml_RX6_70 : jq_sl RX6 70 yX6_isStepWord cX6_isStepWord 1 (some .boolean) 1 := ⟨jq_in 842 (by decide +kernel) rfl, yf_X6_isStepWord⟩
theorem yf_X7_isFull : Cond.instanceMethod yX7_isFull ∈ jq_T ∧ Cond.selects (yX7_isFull).cls yX7_isFull yX7_isFull ∈ jq_T ∧ Cond.initialized (yX7_isFull).cls ∈ jq_T ∧ Cond.code yX7_isFull cX7_isFull 1 (some .boolean) ∈ jq_T ∧ ((yX7_isFull).cls ≠ "java/lang/invoke/MethodHandle" ∧ (yX7_isFull).cls ≠ "java/lang/invoke/VarHandle" ∧ (parseMethodDescriptor (yX7_isFull).desc).map (fun d => d.parameters.length) = some 0) := ⟨jq_in 847 (by decide +kernel) rfl, jq_in 848 (by decide +kernel) rfl, jq_in 142 (by decide +kernel) rfl, jq_in 849 (by decide +kernel) rfl, ⟨by decide, by decide, by decide +kernel⟩⟩
theorem ml_RX6_74 : jq_vl RX6 74 yX7_isFull cX7_isFull 1 (some .boolean) 0 := ⟨jq_in 846 (by decide +kernel) rfl, yf_X7_isFull⟩
theorem yf_X6_opens : Cond.static yX6_opens ∈ jq_T ∧ Cond.initialized (yX6_opens).cls ∈ jq_T ∧ Cond.code yX6_opens cX6_opens 1 (some .boolean) ∈ jq_T ∧ ((yX6_opens).cls ≠ "java/lang/invoke/MethodHandle" ∧ (yX6_opens).cls ≠ "java/lang/invoke/VarHandle" ∧ (parseMethodDescriptor (yX6_opens).desc).map (fun d => d.parameters.length) = some 1) := ⟨jq_in 851 (by decide +kernel) rfl, jq_in 151 (by decide +kernel) rfl, jq_in 852 (by decide +kernel) rfl, ⟨by decide, by decide, by decide +kernel⟩⟩
theorem ml_RX6_77 : jq_sl RX6 77 yX6_opens cX6_opens 1 (some .boolean) 1 := ⟨jq_in 850 (by decide +kernel) rfl, yf_X6_opens⟩
theorem ml_RX6_83 : jq_vl RX6 83 yX5_hasFault cX5_hasFault 1 (some .boolean) 0 := ⟨jq_in 857 (by decide +kernel) rfl, yf_X5_hasFault⟩
theorem yf_X7_isDeep : Cond.instanceMethod yX7_isDeep ∈ jq_T ∧ Cond.selects (yX7_isDeep).cls yX7_isDeep yX7_isDeep ∈ jq_T ∧ Cond.initialized (yX7_isDeep).cls ∈ jq_T ∧ Cond.code yX7_isDeep cX7_isDeep 1 (some .boolean) ∈ jq_T ∧ ((yX7_isDeep).cls ≠ "java/lang/invoke/MethodHandle" ∧ (yX7_isDeep).cls ≠ "java/lang/invoke/VarHandle" ∧ (parseMethodDescriptor (yX7_isDeep).desc).map (fun d => d.parameters.length) = some 0) := ⟨jq_in 854 (by decide +kernel) rfl, jq_in 855 (by decide +kernel) rfl, jq_in 142 (by decide +kernel) rfl, jq_in 856 (by decide +kernel) rfl, ⟨by decide, by decide, by decide +kernel⟩⟩
theorem ml_RX6_80 : jq_vl RX6 80 yX7_isDeep cX7_isDeep 1 (some .boolean) 0 := ⟨jq_in 853 (by decide +kernel) rfl, yf_X7_isDeep⟩
theorem yf_X7_addStep : Cond.instanceMethod yX7_addStep ∈ jq_T ∧ Cond.selects (yX7_addStep).cls yX7_addStep yX7_addStep ∈ jq_T ∧ Cond.initialized (yX7_addStep).cls ∈ jq_T ∧ Cond.code yX7_addStep cX7_addStep 2 (some .int) ∈ jq_T ∧ ((yX7_addStep).cls ≠ "java/lang/invoke/MethodHandle" ∧ (yX7_addStep).cls ≠ "java/lang/invoke/VarHandle" ∧ (parseMethodDescriptor (yX7_addStep).desc).map (fun d => d.parameters.length) = some 1) := ⟨jq_in 862 (by decide +kernel) rfl, jq_in 863 (by decide +kernel) rfl, jq_in 142 (by decide +kernel) rfl, jq_in 864 (by decide +kernel) rfl, ⟨by decide, by decide, by decide +kernel⟩⟩
theorem ml_RX6_86 : jq_vl RX6 86 yX7_addStep cX7_addStep 2 (some .int) 1 := ⟨jq_in 861 (by decide +kernel) rfl, yf_X7_addStep⟩
theorem yf_X7_openAt : Cond.instanceMethod yX7_openAt ∈ jq_T ∧ Cond.selects (yX7_openAt).cls yX7_openAt yX7_openAt ∈ jq_T ∧ Cond.initialized (yX7_openAt).cls ∈ jq_T ∧ Cond.code yX7_openAt cX7_openAt 2 none ∈ jq_T ∧ ((yX7_openAt).cls ≠ "java/lang/invoke/MethodHandle" ∧ (yX7_openAt).cls ≠ "java/lang/invoke/VarHandle" ∧ (parseMethodDescriptor (yX7_openAt).desc).map (fun d => d.parameters.length) = some 1) := ⟨jq_in 866 (by decide +kernel) rfl, jq_in 867 (by decide +kernel) rfl, jq_in 142 (by decide +kernel) rfl, jq_in 868 (by decide +kernel) rfl, ⟨by decide, by decide, by decide +kernel⟩⟩
theorem ml_RX6_90 : jq_vl RX6 90 yX7_openAt cX7_openAt 2 none 1 := ⟨jq_in 865 (by decide +kernel) rfl, yf_X7_openAt⟩
theorem fl_RX6_97 : jq_fl RX6 97 4 9 4 true := ⟨RX7, TX7, tyX7, cls_X7, by decide, jq_in 297 (by decide +kernel) rfl, by decide⟩
theorem yf_X5_takeCompares : Cond.instanceMethod yX5_takeCompares ∈ jq_T ∧ Cond.selects (yX5_takeCompares).cls yX5_takeCompares yX5_takeCompares ∈ jq_T ∧ Cond.initialized (yX5_takeCompares).cls ∈ jq_T ∧ Cond.code yX5_takeCompares cX5_takeCompares 2 (some .int) ∈ jq_T ∧ ((yX5_takeCompares).cls ≠ "java/lang/invoke/MethodHandle" ∧ (yX5_takeCompares).cls ≠ "java/lang/invoke/VarHandle" ∧ (parseMethodDescriptor (yX5_takeCompares).desc).map (fun d => d.parameters.length) = some 0) := ⟨jq_in 875 (by decide +kernel) rfl, jq_in 876 (by decide +kernel) rfl, jq_in 136 (by decide +kernel) rfl, jq_in 877 (by decide +kernel) rfl, ⟨by decide, by decide, by decide +kernel⟩⟩
theorem ml_RX6_119 : jq_vl RX6 119 yX5_takeCompares cX5_takeCompares 2 (some .int) 0 := ⟨jq_in 874 (by decide +kernel) rfl, yf_X5_takeCompares⟩
theorem fl_RX6_104 : jq_fl RX6 104 4 9 5 true := ⟨RX7, TX7, tyX7, cls_X7, by decide, jq_in 300 (by decide +kernel) rfl, by decide⟩
theorem ml_RX6_112 : jq_vl RX6 112 yX5_takeNumber cX5_takeNumber 4 (some .int) 2 := ⟨jq_in 878 (by decide +kernel) rfl, yf_X5_takeNumber⟩
theorem ml_RX6_116 : jq_vl RX6 116 yX5_articleHere cX5_articleHere 3 (some .int) 1 := ⟨jq_in 873 (by decide +kernel) rfl, yf_X5_articleHere⟩
theorem ml_RX6_100 : jq_vl RX6 100 yX5_takeParty cX5_takeParty 3 (some .int) 1 := ⟨jq_in 872 (by decide +kernel) rfl, yf_X5_takeParty⟩
theorem dX2_readWish_0 : decode cX2_readWish 0 = .ok (.aload_n 1, 1) := by decide +kernel
theorem dX2_readWish_1 : decode cX2_readWish 1 = .ok (.getfield 93, 3) := by decide +kernel
theorem dX2_readWish_4 : decode cX2_readWish 4 = .ok (.bipush 20, 2) := by decide +kernel
theorem dX2_readWish_6 : decode cX2_readWish 6 = .ok (.if_icmp .lt 10, 3) := by decide +kernel
theorem dX2_readWish_9 : decode cX2_readWish 9 = .ok (.aload_n 0, 1) := by decide +kernel
theorem dX2_readWish_10 : decode cX2_readWish 10 = .ok (.bipush 6, 2) := by decide +kernel
theorem dX2_readWish_12 : decode cX2_readWish 12 = .ok (.invokevirtual 43, 3) := by decide +kernel
theorem dX2_readWish_15 : decode cX2_readWish 15 = .ok (.return_, 1) := by decide +kernel
theorem dX2_readWish_16 : decode cX2_readWish 16 = .ok (.aload_n 0, 1) := by decide +kernel
theorem dX2_readWish_17 : decode cX2_readWish 17 = .ok (.invokevirtual 50, 3) := by decide +kernel
theorem dX2_readWish_20 : decode cX2_readWish 20 = .ok (.aload_n 1, 1) := by decide +kernel
theorem dX2_readWish_21 : decode cX2_readWish 21 = .ok (.getfield 93, 3) := by decide +kernel
theorem dX2_readWish_24 : decode cX2_readWish 24 = .ok (.istore_n 3, 1) := by decide +kernel
theorem dX2_readWish_25 : decode cX2_readWish 25 = .ok (.aload_n 1, 1) := by decide +kernel
theorem dX2_readWish_26 : decode cX2_readWish 26 = .ok (.getfield 96, 3) := by decide +kernel
theorem dX2_readWish_29 : decode cX2_readWish 29 = .ok (.iload_n 3, 1) := by decide +kernel
theorem dX2_readWish_30 : decode cX2_readWish 30 = .ok (.aload_n 0, 1) := by decide +kernel
theorem dX2_readWish_31 : decode cX2_readWish 31 = .ok (.aload_n 1, 1) := by decide +kernel
theorem dX2_readWish_32 : decode cX2_readWish 32 = .ok (.invokevirtual 99, 3) := by decide +kernel
theorem dX2_readWish_35 : decode cX2_readWish 35 = .ok (.iastore, 1) := by decide +kernel
theorem dX2_readWish_36 : decode cX2_readWish 36 = .ok (.aload_n 1, 1) := by decide +kernel
theorem dX2_readWish_37 : decode cX2_readWish 37 = .ok (.getfield 103, 3) := by decide +kernel
theorem dX2_readWish_40 : decode cX2_readWish 40 = .ok (.iload_n 3, 1) := by decide +kernel
theorem dX2_readWish_41 : decode cX2_readWish 41 = .ok (.iconst (-1), 1) := by decide +kernel
theorem dX2_readWish_42 : decode cX2_readWish 42 = .ok (.iastore, 1) := by decide +kernel
theorem dX2_readWish_43 : decode cX2_readWish 43 = .ok (.aload_n 0, 1) := by decide +kernel
theorem dX2_readWish_44 : decode cX2_readWish 44 = .ok (.aload_n 1, 1) := by decide +kernel
theorem dX2_readWish_45 : decode cX2_readWish 45 = .ok (.iload_n 3, 1) := by decide +kernel
theorem dX2_readWish_46 : decode cX2_readWish 46 = .ok (.invokestatic 106, 3) := by decide +kernel
theorem dX2_readWish_49 : decode cX2_readWish 49 = .ok (.aload_n 0, 1) := by decide +kernel
theorem dX2_readWish_50 : decode cX2_readWish 50 = .ok (.bipush 9, 2) := by decide +kernel
theorem dX2_readWish_52 : decode cX2_readWish 52 = .ok (.invokevirtual 109, 3) := by decide +kernel
theorem dX2_readWish_55 : decode cX2_readWish 55 = .ok (.aload_n 1, 1) := by decide +kernel
theorem dX2_readWish_56 : decode cX2_readWish 56 = .ok (.getfield 112, 3) := by decide +kernel
theorem dX2_readWish_59 : decode cX2_readWish 59 = .ok (.iload_n 3, 1) := by decide +kernel
theorem dX2_readWish_60 : decode cX2_readWish 60 = .ok (.iload_n 2, 1) := by decide +kernel
theorem dX2_readWish_61 : decode cX2_readWish 61 = .ok (.aload_n 0, 1) := by decide +kernel
theorem dX2_readWish_62 : decode cX2_readWish 62 = .ok (.iconst 1, 1) := by decide +kernel
theorem dX2_readWish_63 : decode cX2_readWish 63 = .ok (.bipush 9, 2) := by decide +kernel
theorem dX2_readWish_65 : decode cX2_readWish 65 = .ok (.invokevirtual 53, 3) := by decide +kernel
theorem dX2_readWish_68 : decode cX2_readWish 68 = .ok (.imul, 1) := by decide +kernel
theorem dX2_readWish_69 : decode cX2_readWish 69 = .ok (.iastore, 1) := by decide +kernel
theorem dX2_readWish_70 : decode cX2_readWish 70 = .ok (.aload_n 1, 1) := by decide +kernel
theorem dX2_readWish_71 : decode cX2_readWish 71 = .ok (.dup, 1) := by decide +kernel
theorem dX2_readWish_72 : decode cX2_readWish 72 = .ok (.getfield 93, 3) := by decide +kernel
theorem dX2_readWish_75 : decode cX2_readWish 75 = .ok (.iconst 1, 1) := by decide +kernel
theorem dX2_readWish_76 : decode cX2_readWish 76 = .ok (.iadd, 1) := by decide +kernel
theorem dX2_readWish_77 : decode cX2_readWish 77 = .ok (.putfield 93, 3) := by decide +kernel
theorem dX2_readWish_80 : decode cX2_readWish 80 = .ok (.aload_n 0, 1) := by decide +kernel
theorem dX2_readWish_81 : decode cX2_readWish 81 = .ok (.bipush 59, 2) := by decide +kernel
theorem dX2_readWish_83 : decode cX2_readWish 83 = .ok (.invokevirtual 57, 3) := by decide +kernel
theorem dX2_readWish_86 : decode cX2_readWish 86 = .ok (.return_, 1) := by decide +kernel
set_option maxHeartbeats 4000000 in
set_option maxRecDepth 100000 in
theorem ctX2_readWish {p1 : Int} {p2 : Int} {σ : jq_M} {σ' : jq_M} (hp1 : jq_com p1) (h : X2_readWish p1 p2 σ = some σ') : jq_MC jq_zX yX2_readWish cX2_readWish 4 none 5 128 [jR 2, jR p1, jI p2] σ none σ' := by
  refine jq_met (own := RX2) (L0 := [(0, jR 2), (1, jR p1), (2, jI p2)]) (by decide) rfl rfl rfl ?_
  intro X Γ hnl hlY hRT
  refine jq_use2 (P := fun r => jq_RT jq_zX X none none r) ?_ h hRT
  intro K0 hK0
  unfold X2_readWish
  refine jq_aload_n Γ dX2_readWish_0 rfl 1 rfl (jq_at_0 (at_com hp1)) ?_
  refine jq_getI (J := 3) Γ (at_com hp1) fl_RX2_93 rfl rfl dX2_readWish_1 ?_
  refine jq_bipush Γ dX2_readWish_4 rfl ?_
  refine jq_icmp_lt (tgt := 16) Γ dX2_readWish_6 rfl ?_ ?_
  · refine jq_aload_n Γ dX2_readWish_16 rfl 0 rfl (jq_at_0 at_X_2) ?_
    refine jq_cwV (jq_virt (avs := []) (st := []) Γ hlY rfl ml_RX2_50 rfl at_X_2 rfl rfl rfl rfl rfl dX2_readWish_17) (fun σ' h => ctX5_next h) (fun s1 => ?_)
    refine jq_aload_n Γ dX2_readWish_20 rfl 1 rfl (jq_at_0 (at_com hp1)) ?_
    refine jq_getI (J := 3) Γ (at_com hp1) fl_RX2_93 rfl rfl dX2_readWish_21 ?_
    refine jq_nmI (fun v2 => ?_)
    refine jq_istore_n (L' := [(3, jI v2), (0, jR 2), (1, jR p1), (2, jI p2)]) Γ dX2_readWish_24 rfl hnl rfl rfl ?_
    refine jq_aload_n Γ dX2_readWish_25 rfl 2 rfl (jq_at_0 (at_com hp1)) ?_
    refine jq_getR (v := (p1 + 4)) Γ hlY (at_com hp1) fl_RX2_96 rfl rfl (ly_X1_whose hp1) dX2_readWish_26 ?_
    refine jq_iload_n Γ dX2_readWish_29 rfl 0 rfl ?_
    refine jq_aload_n Γ dX2_readWish_30 rfl 1 rfl (jq_at_0 at_X_2) ?_
    refine jq_aload_n Γ dX2_readWish_31 rfl 2 rfl (jq_at_0 (at_com hp1)) ?_
    refine jq_cwI (jq_virt (avs := [jR p1]) (st := [jI v2, jR (p1 + 4)]) Γ hlY rfl ml_RX2_99 rfl at_X_2 rfl rfl rfl rfl rfl dX2_readWish_32) (fun r σ' h => ctX5_takeParty hp1 h) (fun v3 s4 => ?_)
    refine jq_iast Γ (at_com_4 hp1) rfl dX2_readWish_35 (fun s5 => ?_)
    refine jq_aload_n Γ dX2_readWish_36 rfl 2 rfl (jq_at_0 (at_com hp1)) ?_
    refine jq_getR (v := (p1 + 6)) Γ hlY (at_com hp1) fl_RX2_103 rfl rfl (ly_X1_whom hp1) dX2_readWish_37 ?_
    refine jq_iload_n Γ dX2_readWish_40 rfl 0 rfl ?_
    refine jq_iconst Γ dX2_readWish_41 rfl ?_
    refine jq_iast Γ (at_com_6 hp1) rfl dX2_readWish_42 (fun s6 => ?_)
    refine jq_aload_n Γ dX2_readWish_43 rfl 1 rfl (jq_at_0 at_X_2) ?_
    refine jq_aload_n Γ dX2_readWish_44 rfl 2 rfl (jq_at_0 (at_com hp1)) ?_
    refine jq_iload_n Γ dX2_readWish_45 rfl 0 rfl ?_
    refine jq_cwV (jq_stat (avs := [jR 2, jR p1, jI v2]) (st := []) Γ hlY rfl ml_RX2_106 rfl rfl rfl rfl rfl dX2_readWish_46) (fun σ' h => ctX2_readKind hp1 h) (fun s7 => ?_)
    refine jq_aload_n Γ dX2_readWish_49 rfl 1 rfl (jq_at_0 at_X_2) ?_
    refine jq_bipush Γ dX2_readWish_50 rfl ?_
    refine jq_cwV (jq_virt (avs := [jI 9]) (st := []) Γ hlY rfl ml_RX2_109 rfl at_X_2 rfl rfl rfl rfl rfl dX2_readWish_52) (fun σ' h => ctX5_passKeyword h) (fun s8 => ?_)
    refine jq_aload_n Γ dX2_readWish_55 rfl 2 rfl (jq_at_0 (at_com hp1)) ?_
    refine jq_getR (v := (p1 + 7)) Γ hlY (at_com hp1) fl_RX2_112 rfl rfl (ly_X1_worths hp1) dX2_readWish_56 ?_
    refine jq_iload_n Γ dX2_readWish_59 rfl 0 rfl ?_
    refine jq_iload_n Γ dX2_readWish_60 rfl 3 rfl ?_
    refine jq_aload_n Γ dX2_readWish_61 rfl 1 rfl (jq_at_0 at_X_2) ?_
    refine jq_iconst Γ dX2_readWish_62 rfl ?_
    refine jq_bipush Γ dX2_readWish_63 rfl ?_
    refine jq_cwI (jq_virt (avs := [jI 1, jI 9]) (st := [jI p2, jI v2, jR (p1 + 7)]) Γ hlY rfl ml_RX2_53 rfl at_X_2 rfl rfl rfl rfl rfl dX2_readWish_65) (fun r σ' h => ctX5_takeNumber h) (fun v9 s10 => ?_)
    refine jq_imul Γ dX2_readWish_68 ?_
    refine jq_iast Γ (at_com_7 hp1) rfl dX2_readWish_69 (fun s11 => ?_)
    refine jq_aload_n Γ dX2_readWish_70 rfl 2 rfl (jq_at_0 (at_com hp1)) ?_
    refine jq_dup Γ dX2_readWish_71 rfl ?_
    refine jq_getI (J := 3) Γ (at_com hp1) fl_RX2_93 rfl rfl dX2_readWish_72 ?_
    refine jq_iconst Γ dX2_readWish_75 rfl ?_
    refine jq_iadd Γ dX2_readWish_76 ?_
    refine jq_putI Γ (at_com hp1) fl_RX2_93 rfl rfl dX2_readWish_77 (fun s12 => ?_)
    refine jq_aload_n Γ dX2_readWish_80 rfl 1 rfl (jq_at_0 at_X_2) ?_
    refine jq_bipush Γ dX2_readWish_81 rfl ?_
    refine jq_cwV (jq_virt (avs := [jI 59]) (st := []) Γ hlY rfl ml_RX2_57 rfl at_X_2 rfl rfl rfl rfl rfl dX2_readWish_83) (fun σ' h => ctX5_passSign h) (fun s13 => ?_)
    exact jq_vreturn Γ dX2_readWish_86 (hK0 _)
  · refine jq_aload_n Γ dX2_readWish_9 rfl 0 rfl (jq_at_0 at_X_2) ?_
    refine jq_bipush Γ dX2_readWish_10 rfl ?_
    refine jq_cwV (jq_virt (avs := [jI 6]) (st := []) Γ hlY rfl ml_RX2_43 rfl at_X_2 rfl rfl rfl rfl rfl dX2_readWish_12) (fun σ' h => ctX5_blame h) (fun s14 => ?_)
    exact jq_vreturn Γ dX2_readWish_15 (hK0 _)


theorem dX5_articleHere_0 : decode cX5_articleHere 0 = .ok (.aload_n 1, 1) := by decide +kernel
theorem dX5_articleHere_1 : decode cX5_articleHere 1 = .ok (.aload_n 0, 1) := by decide +kernel
theorem dX5_articleHere_2 : decode cX5_articleHere 2 = .ok (.getfield 74, 3) := by decide +kernel
theorem dX5_articleHere_5 : decode cX5_articleHere 5 = .ok (.invokevirtual 135, 3) := by decide +kernel
theorem dX5_articleHere_8 : decode cX5_articleHere 8 = .ok (.istore_n 2, 1) := by decide +kernel
theorem dX5_articleHere_9 : decode cX5_articleHere 9 = .ok (.aload_n 0, 1) := by decide +kernel
theorem dX5_articleHere_10 : decode cX5_articleHere 10 = .ok (.iload_n 2, 1) := by decide +kernel
theorem dX5_articleHere_11 : decode cX5_articleHere 11 = .ok (.invokevirtual 128, 3) := by decide +kernel
theorem dX5_articleHere_14 : decode cX5_articleHere 14 = .ok (.aload_n 0, 1) := by decide +kernel
theorem dX5_articleHere_15 : decode cX5_articleHere 15 = .ok (.invokevirtual 115, 3) := by decide +kernel
theorem dX5_articleHere_18 : decode cX5_articleHere 18 = .ok (.ifCond .eq 7, 3) := by decide +kernel
theorem dX5_articleHere_21 : decode cX5_articleHere 21 = .ok (.iconst 0, 1) := by decide +kernel
theorem dX5_articleHere_22 : decode cX5_articleHere 22 = .ok (.goto 4, 3) := by decide +kernel
theorem dX5_articleHere_25 : decode cX5_articleHere 25 = .ok (.iload_n 2, 1) := by decide +kernel
theorem dX5_articleHere_26 : decode cX5_articleHere 26 = .ok (.ireturn, 1) := by decide +kernel
set_option maxHeartbeats 4000000 in
set_option maxRecDepth 100000 in
theorem ctX5_articleHere {p1 : Int} {σ : jq_M} {res : Int} {σ' : jq_M} (hp1 : jq_com p1) (h : X5_articleHere p1 σ = some (res, σ')) : jq_MC jq_zX yX5_articleHere cX5_articleHere 3 (some .int) 3 82 [jR 2, jR p1] σ (some (jI res)) σ' := by
  refine jq_met (own := RX5) (L0 := [(0, jR 2), (1, jR p1)]) (by decide) rfl rfl rfl ?_
  intro X Γ hnl hlY hRT
  refine jq_use2 (P := fun r => jq_RT jq_zX X (some .int) (some (jI r.1)) r.2) ?_ h hRT
  intro K0 hK0
  unfold X5_articleHere
  refine jq_aload_n Γ dX5_articleHere_0 rfl 1 rfl (jq_at_0 (at_com hp1)) ?_
  refine jq_aload_n Γ dX5_articleHere_1 rfl 0 rfl (jq_at_0 at_X_2) ?_
  refine jq_getL (J := 9) Γ at_X_2 fl_RX5_74 rfl rfl dX5_articleHere_2 ?_
  refine jq_cpI (jq_virt (avs := [jL (σ 2 9)]) (st := []) Γ hlY rfl ml_RX5_135 rfl (at_com hp1) rfl rfl rfl rfl rfl dX5_articleHere_5) (fun r h => ctX1_articleNamed hp1 h) (fun v1 => ?_)
  refine jq_istore_n (L' := [(2, jI v1), (0, jR 2), (1, jR p1)]) Γ dX5_articleHere_8 rfl hnl rfl rfl ?_
  refine jq_aload_n Γ dX5_articleHere_9 rfl 1 rfl (jq_at_0 at_X_2) ?_
  refine jq_iload_n Γ dX5_articleHere_10 rfl 0 rfl ?_
  refine jq_cwV (jq_virt (avs := [jI v1]) (st := []) Γ hlY rfl ml_RX5_128 rfl at_X_2 rfl rfl rfl rfl rfl dX5_articleHere_11) (fun σ' h => ctX5_blameUnlessNamed h) (fun s2 => ?_)
  refine jq_aload_n Γ dX5_articleHere_14 rfl 1 rfl (jq_at_0 at_X_2) ?_
  refine jq_cpZ (jq_virt (avs := []) (st := []) Γ hlY rfl ml_RX5_115 rfl at_X_2 rfl rfl rfl rfl rfl dX5_articleHere_15) rfl (fun r h => ctX5_hasFault h) (fun v3 hz4 => ?_)
  refine jq_if_eq (tgt := 25) Γ dX5_articleHere_18 rfl ?_ ?_
  · refine jq_iload_n Γ dX5_articleHere_25 rfl 0 rfl ?_
    exact jq_ireturn Γ dX5_articleHere_26 (hK0 _)
  · refine jq_iconst Γ dX5_articleHere_21 rfl ?_
    refine jq_goto Γ (tgt := 26) dX5_articleHere_22 rfl ?_
    exact jq_ireturn Γ dX5_articleHere_26 (hK0 _)


theorem dX10_holds_0 : decode cX10_holds 0 = .ok (.iload_n 0, 1) := by decide +kernel
theorem dX10_holds_1 : decode cX10_holds 1 = .ok (.iload_n 1, 1) := by decide +kernel
theorem dX10_holds_2 : decode cX10_holds 2 = .ok (.ishr, 1) := by decide +kernel
theorem dX10_holds_3 : decode cX10_holds 3 = .ok (.iconst 1, 1) := by decide +kernel
theorem dX10_holds_4 : decode cX10_holds 4 = .ok (.iand, 1) := by decide +kernel
theorem dX10_holds_5 : decode cX10_holds 5 = .ok (.iconst 1, 1) := by decide +kernel
theorem dX10_holds_6 : decode cX10_holds 6 = .ok (.if_icmp .ne 7, 3) := by decide +kernel
theorem dX10_holds_9 : decode cX10_holds 9 = .ok (.iconst 1, 1) := by decide +kernel
theorem dX10_holds_10 : decode cX10_holds 10 = .ok (.goto 4, 3) := by decide +kernel
theorem dX10_holds_13 : decode cX10_holds 13 = .ok (.iconst 0, 1) := by decide +kernel
theorem dX10_holds_14 : decode cX10_holds 14 = .ok (.ireturn, 1) := by decide +kernel
set_option maxHeartbeats 4000000 in
set_option maxRecDepth 100000 in
theorem ctX10_holds {p0 : Int} {p1 : Int} {σ : jq_M} {res : Int}  (h : X10_holds p0 p1 σ = some res) : jq_MC jq_zX yX10_holds cX10_holds 2 (some .boolean) 1 40 [jI p0, jI p1] σ (some (jI res)) σ := by
  refine jq_met (own := RX10) (L0 := [(0, jI p0), (1, jI p1)]) (by decide) rfl rfl rfl ?_
  intro X Γ hnl hlY hRT
  refine jq_use2 (P := fun r => jq_RT jq_zX X (some .boolean) (some (jI r)) σ) ?_ h hRT
  intro K0 hK0
  unfold X10_holds
  refine jq_iload_n Γ dX10_holds_0 rfl 0 rfl ?_
  refine jq_iload_n Γ dX10_holds_1 rfl 1 rfl ?_
  refine jq_ishr Γ dX10_holds_2 ?_
  refine jq_iconst Γ dX10_holds_3 rfl ?_
  refine jq_iand Γ dX10_holds_4 ?_
  refine jq_iconst Γ dX10_holds_5 rfl ?_
  refine jq_icmp_ne (tgt := 13) Γ dX10_holds_6 rfl ?_ ?_
  · refine jq_iconst Γ dX10_holds_13 rfl ?_
    exact jq_zreturn Γ (Or.inl rfl) dX10_holds_14 (hK0 _)
  · refine jq_iconst Γ dX10_holds_9 rfl ?_
    refine jq_goto Γ (tgt := 14) dX10_holds_10 rfl ?_
    exact jq_zreturn Γ (Or.inr rfl) dX10_holds_14 (hK0 _)


theorem dX2_takeLeans_0 : decode cX2_takeLeans 0 = .ok (.iconst 0, 1) := by decide +kernel
theorem dX2_takeLeans_1 : decode cX2_takeLeans 1 = .ok (.istore_n 2, 1) := by decide +kernel
theorem dX2_takeLeans_2 : decode cX2_takeLeans 2 = .ok (.iconst 0, 1) := by decide +kernel
theorem dX2_takeLeans_3 : decode cX2_takeLeans 3 = .ok (.istore_n 3, 1) := by decide +kernel
theorem dX2_takeLeans_4 : decode cX2_takeLeans 4 = .ok (.iload_n 3, 1) := by decide +kernel
theorem dX2_takeLeans_5 : decode cX2_takeLeans 5 = .ok (.sipush 900, 3) := by decide +kernel
theorem dX2_takeLeans_8 : decode cX2_takeLeans 8 = .ok (.if_icmp .ge 57, 3) := by decide +kernel
theorem dX2_takeLeans_11 : decode cX2_takeLeans 11 = .ok (.aload_n 0, 1) := by decide +kernel
theorem dX2_takeLeans_12 : decode cX2_takeLeans 12 = .ok (.invokevirtual 14, 3) := by decide +kernel
theorem dX2_takeLeans_15 : decode cX2_takeLeans 15 = .ok (.ifCond .eq 50, 3) := by decide +kernel
theorem dX2_takeLeans_18 : decode cX2_takeLeans 18 = .ok (.aload_n 0, 1) := by decide +kernel
theorem dX2_takeLeans_19 : decode cX2_takeLeans 19 = .ok (.bipush 59, 2) := by decide +kernel
theorem dX2_takeLeans_21 : decode cX2_takeLeans 21 = .ok (.invokevirtual 142, 3) := by decide +kernel
theorem dX2_takeLeans_24 : decode cX2_takeLeans 24 = .ok (.ifCond .ne 41, 3) := by decide +kernel
theorem dX2_takeLeans_27 : decode cX2_takeLeans 27 = .ok (.aload_n 0, 1) := by decide +kernel
theorem dX2_takeLeans_28 : decode cX2_takeLeans 28 = .ok (.aload_n 1, 1) := by decide +kernel
theorem dX2_takeLeans_29 : decode cX2_takeLeans 29 = .ok (.invokevirtual 146, 3) := by decide +kernel
theorem dX2_takeLeans_32 : decode cX2_takeLeans 32 = .ok (.istore 4, 2) := by decide +kernel
theorem dX2_takeLeans_34 : decode cX2_takeLeans 34 = .ok (.iload_n 2, 1) := by decide +kernel
theorem dX2_takeLeans_35 : decode cX2_takeLeans 35 = .ok (.iload 4, 2) := by decide +kernel
theorem dX2_takeLeans_37 : decode cX2_takeLeans 37 = .ok (.invokestatic 149, 3) := by decide +kernel
theorem dX2_takeLeans_40 : decode cX2_takeLeans 40 = .ok (.ifCond .eq 8, 3) := by decide +kernel
theorem dX2_takeLeans_43 : decode cX2_takeLeans 43 = .ok (.aload_n 0, 1) := by decide +kernel
theorem dX2_takeLeans_44 : decode cX2_takeLeans 44 = .ok (.iconst 5, 1) := by decide +kernel
theorem dX2_takeLeans_45 : decode cX2_takeLeans 45 = .ok (.invokevirtual 43, 3) := by decide +kernel
theorem dX2_takeLeans_48 : decode cX2_takeLeans 48 = .ok (.iload_n 2, 1) := by decide +kernel
theorem dX2_takeLeans_49 : decode cX2_takeLeans 49 = .ok (.iconst 1, 1) := by decide +kernel
theorem dX2_takeLeans_50 : decode cX2_takeLeans 50 = .ok (.iload 4, 2) := by decide +kernel
theorem dX2_takeLeans_52 : decode cX2_takeLeans 52 = .ok (.ishl, 1) := by decide +kernel
theorem dX2_takeLeans_53 : decode cX2_takeLeans 53 = .ok (.ior, 1) := by decide +kernel
theorem dX2_takeLeans_54 : decode cX2_takeLeans 54 = .ok (.istore_n 2, 1) := by decide +kernel
theorem dX2_takeLeans_55 : decode cX2_takeLeans 55 = .ok (.aload_n 0, 1) := by decide +kernel
theorem dX2_takeLeans_56 : decode cX2_takeLeans 56 = .ok (.invokevirtual 50, 3) := by decide +kernel
theorem dX2_takeLeans_59 : decode cX2_takeLeans 59 = .ok (.iinc 3 1, 3) := by decide +kernel
theorem dX2_takeLeans_62 : decode cX2_takeLeans 62 = .ok (.goto (-58), 3) := by decide +kernel
theorem dX2_takeLeans_65 : decode cX2_takeLeans 65 = .ok (.iload_n 2, 1) := by decide +kernel
theorem dX2_takeLeans_66 : decode cX2_takeLeans 66 = .ok (.ireturn, 1) := by decide +kernel
set_option maxHeartbeats 4000000 in
set_option maxRecDepth 100000 in
theorem ctX2_takeLeans {p1 : Int} {σ : jq_M} {res : Int} {σ' : jq_M} (hp1 : jq_com p1) (h : X2_takeLeans p1 σ = some (res, σ')) : jq_MC jq_zX yX2_takeLeans cX2_takeLeans 5 (some .int) 4 105 [jR 2, jR p1] σ (some (jI res)) σ' := by
  refine jq_met (own := RX2) (L0 := [(0, jR 2), (1, jR p1)]) (by decide) rfl rfl rfl ?_
  intro X Γ hnl hlY hRT
  refine jq_use2 (P := fun r => jq_RT jq_zX X (some .int) (some (jI r.1)) r.2) ?_ h hRT
  intro K0 hK0
  unfold X2_takeLeans
  refine jq_iconst Γ dX2_takeLeans_0 rfl ?_
  refine jq_istore_n (L' := [(2, jI 0), (0, jR 2), (1, jR p1)]) Γ dX2_takeLeans_1 rfl hnl rfl rfl ?_
  refine jq_iconst Γ dX2_takeLeans_2 rfl ?_
  refine jq_istore_n (L' := [(3, jI 0), (2, jI 0), (0, jR 2), (1, jR p1)]) Γ dX2_takeLeans_3 rfl hnl rfl rfl ?_
  refine jq_sub Γ (L' := [(0, jR 2), (1, jR p1), (2, jI 0), (3, jI 0)]) [2, 3, 1, 0] rfl ?_
  refine jq_loop2 (C := fun (t1 : Int × Int × jq_M) => jq_V jq_zX X (jq_zN jq_zX) t1.2.2 4 [(0, jR 2), (1, jR p1), (2, jI t1.1), (3, jI t1.2.1)] []) (KX := fun (e18 : Int × jq_M) => jq_V jq_zX X (jq_zN jq_zX) e18.2 65 [(2, jI e18.1)] []) ?_ ?_ (0, 0, σ)
  · intro K4_t1 hCt1 hXt1 t1
    unfold X2_takeLeans_b4
    have hj48_1005 : ∀ (j10 : Int) (j11 : Int) (j12 : Int) (s13 : jq_M), jq_J (X2_takeLeans_j48 p1 j10 j11 j12 s13) K4_t1 (jq_V jq_zX X (jq_zN jq_zX) s13 48 [(0, jR 2), (1, jR p1), (2, jI j10), (3, jI j11), (4, jI j12)] []) := by
      intro j10 j11 j12 s13
      unfold X2_takeLeans_j48
      refine jq_iload_n Γ dX2_takeLeans_48 rfl 2 rfl ?_
      refine jq_iconst Γ dX2_takeLeans_49 rfl ?_
      refine jq_iload Γ dX2_takeLeans_50 4 rfl ?_
      refine jq_ishl Γ dX2_takeLeans_52 ?_
      refine jq_ior Γ dX2_takeLeans_53 ?_
      refine jq_nmI (fun v14 => ?_)
      refine jq_istore_n (L' := [(2, jI v14), (0, jR 2), (1, jR p1), (3, jI j11), (4, jI j12)]) Γ dX2_takeLeans_54 rfl hnl rfl rfl ?_
      refine jq_aload_n Γ dX2_takeLeans_55 rfl 1 rfl (jq_at_0 at_X_2) ?_
      refine jq_cwV (jq_virt (avs := []) (st := []) Γ hlY rfl ml_RX2_50 rfl at_X_2 rfl rfl rfl rfl rfl dX2_takeLeans_56) (fun σ' h => ctX5_next h) (fun s15 => ?_)
      refine jq_iincN (L' := fun v16 => [(3, jI v16), (2, jI v14), (0, jR 2), (1, jR p1), (4, jI j12)]) Γ dX2_takeLeans_59 3 rfl hnl rfl (fun _ => rfl) (fun v16 => ?_)
      refine jq_goto Γ (tgt := 4) dX2_takeLeans_62 rfl ?_
      refine jq_sub Γ (L' := [(0, jR 2), (1, jR p1), (2, jI v14), (3, jI v16)]) [2, 3, 1, 0] rfl ?_
      exact jq_done (hCt1 (v14, v16, s15))
    refine jq_iload_n Γ dX2_takeLeans_4 rfl 3 rfl ?_
    refine jq_sipush Γ dX2_takeLeans_5 rfl ?_
    refine jq_icmp_ge (tgt := 65) Γ dX2_takeLeans_8 rfl ?_ ?_
    · refine jq_sub Γ (L' := [(2, jI t1.1)]) [2] rfl ?_
      exact jq_done (hXt1 (t1.1, t1.2.2))
    · refine jq_aload_n Γ dX2_takeLeans_11 rfl 0 rfl (jq_at_0 at_X_2) ?_
      refine jq_cpZ (jq_virt (avs := []) (st := []) Γ hlY rfl ml_RX2_14 rfl at_X_2 rfl rfl rfl rfl rfl dX2_takeLeans_12) rfl (fun r h => ctX5_goesOn h) (fun v2 hz3 => ?_)
      refine jq_if_eq (tgt := 65) Γ dX2_takeLeans_15 rfl ?_ ?_
      · refine jq_sub Γ (L' := [(2, jI t1.1)]) [2] rfl ?_
        exact jq_done (hXt1 (t1.1, t1.2.2))
      · refine jq_aload_n Γ dX2_takeLeans_18 rfl 0 rfl (jq_at_0 at_X_2) ?_
        refine jq_bipush Γ dX2_takeLeans_19 rfl ?_
        refine jq_cpZ (jq_virt (avs := [jI 59]) (st := []) Γ hlY rfl ml_RX2_142 rfl at_X_2 rfl rfl rfl rfl rfl dX2_takeLeans_21) rfl (fun r h => ctX5_isSign h) (fun v4 hz5 => ?_)
        refine jq_if_ne (tgt := 65) Γ dX2_takeLeans_24 rfl ?_ ?_
        · refine jq_sub Γ (L' := [(2, jI t1.1)]) [2] rfl ?_
          exact jq_done (hXt1 (t1.1, t1.2.2))
        · refine jq_aload_n Γ dX2_takeLeans_27 rfl 0 rfl (jq_at_0 at_X_2) ?_
          refine jq_aload_n Γ dX2_takeLeans_28 rfl 1 rfl (jq_at_0 (at_com hp1)) ?_
          refine jq_cwI (jq_virt (avs := [jR p1]) (st := []) Γ hlY rfl ml_RX2_146 rfl at_X_2 rfl rfl rfl rfl rfl dX2_takeLeans_29) (fun r σ' h => ctX5_articleHere hp1 h) (fun v6 s7 => ?_)
          refine jq_istore (L' := [(4, jI v6), (0, jR 2), (1, jR p1), (2, jI t1.1), (3, jI t1.2.1)]) Γ dX2_takeLeans_32 hnl rfl rfl ?_
          refine jq_iload_n Γ dX2_takeLeans_34 rfl 3 rfl ?_
          refine jq_iload Γ dX2_takeLeans_35 0 rfl ?_
          refine jq_cpZ (jq_nest (avs := [jI t1.1, jI v6]) (st := []) Γ hlY rfl ml_RX2_149 rfl rfl rfl rfl rfl dX2_takeLeans_37) rfl (fun r h => ctX10_holds h) (fun v8 hz9 => ?_)
          refine jq_if_eq (tgt := 48) Γ dX2_takeLeans_40 rfl ?_ ?_
          · refine jq_sub Γ (L' := [(0, jR 2), (1, jR p1), (2, jI t1.1), (3, jI t1.2.1), (4, jI v6)]) [1, 2, 3, 4, 0] rfl ?_
            exact hj48_1005 t1.1 t1.2.1 v6 s7
          · refine jq_aload_n Γ dX2_takeLeans_43 rfl 1 rfl (jq_at_0 at_X_2) ?_
            refine jq_iconst Γ dX2_takeLeans_44 rfl ?_
            refine jq_cwV (jq_virt (avs := [jI 5]) (st := []) Γ hlY rfl ml_RX2_43 rfl at_X_2 rfl rfl rfl rfl rfl dX2_takeLeans_45) (fun σ' h => ctX5_blame h) (fun s17 => ?_)
            refine jq_sub Γ (L' := [(0, jR 2), (1, jR p1), (2, jI t1.1), (3, jI t1.2.1), (4, jI v6)]) [1, 2, 3, 4, 0] rfl ?_
            exact hj48_1005 t1.1 t1.2.1 v6 s17
  · intro e18
    refine jq_iload_n Γ dX2_takeLeans_65 rfl 0 rfl ?_
    exact jq_ireturn Γ dX2_takeLeans_66 (hK0 _)


theorem dX2_readArticle_0 : decode cX2_readArticle 0 = .ok (.aload_n 1, 1) := by decide +kernel
theorem dX2_readArticle_1 : decode cX2_readArticle 1 = .ok (.getfield 121, 3) := by decide +kernel
theorem dX2_readArticle_4 : decode cX2_readArticle 4 = .ok (.bipush 8, 2) := by decide +kernel
theorem dX2_readArticle_6 : decode cX2_readArticle 6 = .ok (.if_icmp .lt 10, 3) := by decide +kernel
theorem dX2_readArticle_9 : decode cX2_readArticle 9 = .ok (.aload_n 0, 1) := by decide +kernel
theorem dX2_readArticle_10 : decode cX2_readArticle 10 = .ok (.bipush 6, 2) := by decide +kernel
theorem dX2_readArticle_12 : decode cX2_readArticle 12 = .ok (.invokevirtual 43, 3) := by decide +kernel
theorem dX2_readArticle_15 : decode cX2_readArticle 15 = .ok (.return_, 1) := by decide +kernel
theorem dX2_readArticle_16 : decode cX2_readArticle 16 = .ok (.aload_n 0, 1) := by decide +kernel
theorem dX2_readArticle_17 : decode cX2_readArticle 17 = .ok (.invokevirtual 50, 3) := by decide +kernel
theorem dX2_readArticle_20 : decode cX2_readArticle 20 = .ok (.aload_n 1, 1) := by decide +kernel
theorem dX2_readArticle_21 : decode cX2_readArticle 21 = .ok (.getfield 121, 3) := by decide +kernel
theorem dX2_readArticle_24 : decode cX2_readArticle 24 = .ok (.istore_n 2, 1) := by decide +kernel
theorem dX2_readArticle_25 : decode cX2_readArticle 25 = .ok (.aload_n 1, 1) := by decide +kernel
theorem dX2_readArticle_26 : decode cX2_readArticle 26 = .ok (.getfield 124, 3) := by decide +kernel
theorem dX2_readArticle_29 : decode cX2_readArticle 29 = .ok (.iload_n 2, 1) := by decide +kernel
theorem dX2_readArticle_30 : decode cX2_readArticle 30 = .ok (.aload_n 0, 1) := by decide +kernel
theorem dX2_readArticle_31 : decode cX2_readArticle 31 = .ok (.aload_n 1, 1) := by decide +kernel
theorem dX2_readArticle_32 : decode cX2_readArticle 32 = .ok (.invokevirtual 71, 3) := by decide +kernel
theorem dX2_readArticle_35 : decode cX2_readArticle 35 = .ok (.lastore, 1) := by decide +kernel
theorem dX2_readArticle_36 : decode cX2_readArticle 36 = .ok (.aload_n 0, 1) := by decide +kernel
theorem dX2_readArticle_37 : decode cX2_readArticle 37 = .ok (.bipush 11, 2) := by decide +kernel
theorem dX2_readArticle_39 : decode cX2_readArticle 39 = .ok (.invokevirtual 109, 3) := by decide +kernel
theorem dX2_readArticle_42 : decode cX2_readArticle 42 = .ok (.aload_n 1, 1) := by decide +kernel
theorem dX2_readArticle_43 : decode cX2_readArticle 43 = .ok (.getfield 127, 3) := by decide +kernel
theorem dX2_readArticle_46 : decode cX2_readArticle 46 = .ok (.iload_n 2, 1) := by decide +kernel
theorem dX2_readArticle_47 : decode cX2_readArticle 47 = .ok (.aload_n 0, 1) := by decide +kernel
theorem dX2_readArticle_48 : decode cX2_readArticle 48 = .ok (.iconst 1, 1) := by decide +kernel
theorem dX2_readArticle_49 : decode cX2_readArticle 49 = .ok (.bipush 30, 2) := by decide +kernel
theorem dX2_readArticle_51 : decode cX2_readArticle 51 = .ok (.invokevirtual 53, 3) := by decide +kernel
theorem dX2_readArticle_54 : decode cX2_readArticle 54 = .ok (.iastore, 1) := by decide +kernel
theorem dX2_readArticle_55 : decode cX2_readArticle 55 = .ok (.aload_n 1, 1) := by decide +kernel
theorem dX2_readArticle_56 : decode cX2_readArticle 56 = .ok (.getfield 130, 3) := by decide +kernel
theorem dX2_readArticle_59 : decode cX2_readArticle 59 = .ok (.iload_n 2, 1) := by decide +kernel
theorem dX2_readArticle_60 : decode cX2_readArticle 60 = .ok (.bipush 16, 2) := by decide +kernel
theorem dX2_readArticle_62 : decode cX2_readArticle 62 = .ok (.iastore, 1) := by decide +kernel
theorem dX2_readArticle_63 : decode cX2_readArticle 63 = .ok (.aload_n 0, 1) := by decide +kernel
theorem dX2_readArticle_64 : decode cX2_readArticle 64 = .ok (.getfield 20, 3) := by decide +kernel
theorem dX2_readArticle_67 : decode cX2_readArticle 67 = .ok (.bipush 12, 2) := by decide +kernel
theorem dX2_readArticle_69 : decode cX2_readArticle 69 = .ok (.if_icmp .ne 20, 3) := by decide +kernel
theorem dX2_readArticle_72 : decode cX2_readArticle 72 = .ok (.aload_n 0, 1) := by decide +kernel
theorem dX2_readArticle_73 : decode cX2_readArticle 73 = .ok (.invokevirtual 50, 3) := by decide +kernel
theorem dX2_readArticle_76 : decode cX2_readArticle 76 = .ok (.aload_n 1, 1) := by decide +kernel
theorem dX2_readArticle_77 : decode cX2_readArticle 77 = .ok (.getfield 130, 3) := by decide +kernel
theorem dX2_readArticle_80 : decode cX2_readArticle 80 = .ok (.iload_n 2, 1) := by decide +kernel
theorem dX2_readArticle_81 : decode cX2_readArticle 81 = .ok (.aload_n 0, 1) := by decide +kernel
theorem dX2_readArticle_82 : decode cX2_readArticle 82 = .ok (.iconst 0, 1) := by decide +kernel
theorem dX2_readArticle_83 : decode cX2_readArticle 83 = .ok (.bipush 16, 2) := by decide +kernel
theorem dX2_readArticle_85 : decode cX2_readArticle 85 = .ok (.invokevirtual 53, 3) := by decide +kernel
theorem dX2_readArticle_88 : decode cX2_readArticle 88 = .ok (.iastore, 1) := by decide +kernel
theorem dX2_readArticle_89 : decode cX2_readArticle 89 = .ok (.aload_n 1, 1) := by decide +kernel
theorem dX2_readArticle_90 : decode cX2_readArticle 90 = .ok (.getfield 133, 3) := by decide +kernel
theorem dX2_readArticle_93 : decode cX2_readArticle 93 = .ok (.iload_n 2, 1) := by decide +kernel
theorem dX2_readArticle_94 : decode cX2_readArticle 94 = .ok (.aload_n 0, 1) := by decide +kernel
theorem dX2_readArticle_95 : decode cX2_readArticle 95 = .ok (.aload_n 1, 1) := by decide +kernel
theorem dX2_readArticle_96 : decode cX2_readArticle 96 = .ok (.invokestatic 136, 3) := by decide +kernel
theorem dX2_readArticle_99 : decode cX2_readArticle 99 = .ok (.iastore, 1) := by decide +kernel
theorem dX2_readArticle_100 : decode cX2_readArticle 100 = .ok (.aload_n 1, 1) := by decide +kernel
theorem dX2_readArticle_101 : decode cX2_readArticle 101 = .ok (.getfield 139, 3) := by decide +kernel
theorem dX2_readArticle_104 : decode cX2_readArticle 104 = .ok (.iload_n 2, 1) := by decide +kernel
theorem dX2_readArticle_105 : decode cX2_readArticle 105 = .ok (.iconst 0, 1) := by decide +kernel
theorem dX2_readArticle_106 : decode cX2_readArticle 106 = .ok (.iastore, 1) := by decide +kernel
theorem dX2_readArticle_107 : decode cX2_readArticle 107 = .ok (.aload_n 1, 1) := by decide +kernel
theorem dX2_readArticle_108 : decode cX2_readArticle 108 = .ok (.dup, 1) := by decide +kernel
theorem dX2_readArticle_109 : decode cX2_readArticle 109 = .ok (.getfield 121, 3) := by decide +kernel
theorem dX2_readArticle_112 : decode cX2_readArticle 112 = .ok (.iconst 1, 1) := by decide +kernel
theorem dX2_readArticle_113 : decode cX2_readArticle 113 = .ok (.iadd, 1) := by decide +kernel
theorem dX2_readArticle_114 : decode cX2_readArticle 114 = .ok (.putfield 121, 3) := by decide +kernel
theorem dX2_readArticle_117 : decode cX2_readArticle 117 = .ok (.aload_n 0, 1) := by decide +kernel
theorem dX2_readArticle_118 : decode cX2_readArticle 118 = .ok (.bipush 59, 2) := by decide +kernel
theorem dX2_readArticle_120 : decode cX2_readArticle 120 = .ok (.invokevirtual 57, 3) := by decide +kernel
theorem dX2_readArticle_123 : decode cX2_readArticle 123 = .ok (.return_, 1) := by decide +kernel
set_option maxHeartbeats 4000000 in
set_option maxRecDepth 100000 in
theorem ctX2_readArticle {p1 : Int} {σ : jq_M} {σ' : jq_M} (hp1 : jq_com p1) (h : X2_readArticle p1 σ = some σ') : jq_MC jq_zX yX2_readArticle cX2_readArticle 3 none 5 129 [jR 2, jR p1] σ none σ' := by
  refine jq_met (own := RX2) (L0 := [(0, jR 2), (1, jR p1)]) (by decide) rfl rfl rfl ?_
  intro X Γ hnl hlY hRT
  refine jq_use2 (P := fun r => jq_RT jq_zX X none none r) ?_ h hRT
  intro K0 hK0
  unfold X2_readArticle
  have hj89_0 : ∀ (j11 : Int) (s12 : jq_M), jq_J (X2_readArticle_j89 p1 j11 s12) K0 (jq_V jq_zX X (jq_zN jq_zX) s12 89 [(0, jR 2), (1, jR p1), (2, jI j11)] []) := by
    intro j11 s12
    unfold X2_readArticle_j89
    refine jq_aload_n Γ dX2_readArticle_89 rfl 1 rfl (jq_at_0 (at_com hp1)) ?_
    refine jq_getR (v := (p1 + 11)) Γ hlY (at_com hp1) fl_RX2_133 rfl rfl (ly_X1_leansOn hp1) dX2_readArticle_90 ?_
    refine jq_iload_n Γ dX2_readArticle_93 rfl 2 rfl ?_
    refine jq_aload_n Γ dX2_readArticle_94 rfl 0 rfl (jq_at_0 at_X_2) ?_
    refine jq_aload_n Γ dX2_readArticle_95 rfl 1 rfl (jq_at_0 (at_com hp1)) ?_
    refine jq_cwI (jq_stat (avs := [jR 2, jR p1]) (st := [jI j11, jR (p1 + 11)]) Γ hlY rfl ml_RX2_136 rfl rfl rfl rfl rfl dX2_readArticle_96) (fun r σ' h => ctX2_takeLeans hp1 h) (fun v13 s14 => ?_)
    refine jq_iast Γ (at_com_11 hp1) rfl dX2_readArticle_99 (fun s15 => ?_)
    refine jq_aload_n Γ dX2_readArticle_100 rfl 1 rfl (jq_at_0 (at_com hp1)) ?_
    refine jq_getR (v := (p1 + 12)) Γ hlY (at_com hp1) fl_RX2_139 rfl rfl (ly_X1_worked hp1) dX2_readArticle_101 ?_
    refine jq_iload_n Γ dX2_readArticle_104 rfl 2 rfl ?_
    refine jq_iconst Γ dX2_readArticle_105 rfl ?_
    refine jq_iast Γ (at_com_12 hp1) rfl dX2_readArticle_106 (fun s16 => ?_)
    refine jq_aload_n Γ dX2_readArticle_107 rfl 1 rfl (jq_at_0 (at_com hp1)) ?_
    refine jq_dup Γ dX2_readArticle_108 rfl ?_
    refine jq_getI (J := 4) Γ (at_com hp1) fl_RX2_121 rfl rfl dX2_readArticle_109 ?_
    refine jq_iconst Γ dX2_readArticle_112 rfl ?_
    refine jq_iadd Γ dX2_readArticle_113 ?_
    refine jq_putI Γ (at_com hp1) fl_RX2_121 rfl rfl dX2_readArticle_114 (fun s17 => ?_)
    refine jq_aload_n Γ dX2_readArticle_117 rfl 0 rfl (jq_at_0 at_X_2) ?_
    refine jq_bipush Γ dX2_readArticle_118 rfl ?_
    refine jq_cwV (jq_virt (avs := [jI 59]) (st := []) Γ hlY rfl ml_RX2_57 rfl at_X_2 rfl rfl rfl rfl rfl dX2_readArticle_120) (fun σ' h => ctX5_passSign h) (fun s18 => ?_)
    exact jq_vreturn Γ dX2_readArticle_123 (hK0 _)
  refine jq_aload_n Γ dX2_readArticle_0 rfl 1 rfl (jq_at_0 (at_com hp1)) ?_
  refine jq_getI (J := 4) Γ (at_com hp1) fl_RX2_121 rfl rfl dX2_readArticle_1 ?_
  refine jq_bipush Γ dX2_readArticle_4 rfl ?_
  refine jq_icmp_lt (tgt := 16) Γ dX2_readArticle_6 rfl ?_ ?_
  · refine jq_aload_n Γ dX2_readArticle_16 rfl 0 rfl (jq_at_0 at_X_2) ?_
    refine jq_cwV (jq_virt (avs := []) (st := []) Γ hlY rfl ml_RX2_50 rfl at_X_2 rfl rfl rfl rfl rfl dX2_readArticle_17) (fun σ' h => ctX5_next h) (fun s1 => ?_)
    refine jq_aload_n Γ dX2_readArticle_20 rfl 1 rfl (jq_at_0 (at_com hp1)) ?_
    refine jq_getI (J := 4) Γ (at_com hp1) fl_RX2_121 rfl rfl dX2_readArticle_21 ?_
    refine jq_nmI (fun v2 => ?_)
    refine jq_istore_n (L' := [(2, jI v2), (0, jR 2), (1, jR p1)]) Γ dX2_readArticle_24 rfl hnl rfl rfl ?_
    refine jq_aload_n Γ dX2_readArticle_25 rfl 2 rfl (jq_at_0 (at_com hp1)) ?_
    refine jq_getR (v := (p1 + 8)) Γ hlY (at_com hp1) fl_RX2_124 rfl rfl (ly_X1_articleNames hp1) dX2_readArticle_26 ?_
    refine jq_iload_n Γ dX2_readArticle_29 rfl 0 rfl ?_
    refine jq_aload_n Γ dX2_readArticle_30 rfl 1 rfl (jq_at_0 at_X_2) ?_
    refine jq_aload_n Γ dX2_readArticle_31 rfl 2 rfl (jq_at_0 (at_com hp1)) ?_
    refine jq_cwL (jq_virt (avs := [jR p1]) (st := [jI v2, jR (p1 + 8)]) Γ hlY rfl ml_RX2_71 rfl at_X_2 rfl rfl rfl rfl rfl dX2_readArticle_32) (fun r σ' h => ctX5_takeNewName hp1 h) (fun v3 s4 => ?_)
    refine jq_last Γ (at_com_8 hp1) rfl dX2_readArticle_35 (fun s5 => ?_)
    refine jq_aload_n Γ dX2_readArticle_36 rfl 1 rfl (jq_at_0 at_X_2) ?_
    refine jq_bipush Γ dX2_readArticle_37 rfl ?_
    refine jq_cwV (jq_virt (avs := [jI 11]) (st := []) Γ hlY rfl ml_RX2_109 rfl at_X_2 rfl rfl rfl rfl rfl dX2_readArticle_39) (fun σ' h => ctX5_passKeyword h) (fun s6 => ?_)
    refine jq_aload_n Γ dX2_readArticle_42 rfl 2 rfl (jq_at_0 (at_com hp1)) ?_
    refine jq_getR (v := (p1 + 9)) Γ hlY (at_com hp1) fl_RX2_127 rfl rfl (ly_X1_takes hp1) dX2_readArticle_43 ?_
    refine jq_iload_n Γ dX2_readArticle_46 rfl 0 rfl ?_
    refine jq_aload_n Γ dX2_readArticle_47 rfl 1 rfl (jq_at_0 at_X_2) ?_
    refine jq_iconst Γ dX2_readArticle_48 rfl ?_
    refine jq_bipush Γ dX2_readArticle_49 rfl ?_
    refine jq_cwI (jq_virt (avs := [jI 1, jI 30]) (st := [jI v2, jR (p1 + 9)]) Γ hlY rfl ml_RX2_53 rfl at_X_2 rfl rfl rfl rfl rfl dX2_readArticle_51) (fun r σ' h => ctX5_takeNumber h) (fun v7 s8 => ?_)
    refine jq_iast Γ (at_com_9 hp1) rfl dX2_readArticle_54 (fun s9 => ?_)
    refine jq_aload_n Γ dX2_readArticle_55 rfl 2 rfl (jq_at_0 (at_com hp1)) ?_
    refine jq_getR (v := (p1 + 10)) Γ hlY (at_com hp1) fl_RX2_130 rfl rfl (ly_X1_odds hp1) dX2_readArticle_56 ?_
    refine jq_iload_n Γ dX2_readArticle_59 rfl 0 rfl ?_
    refine jq_bipush Γ dX2_readArticle_60 rfl ?_
    refine jq_iast Γ (at_com_10 hp1) rfl dX2_readArticle_62 (fun s10 => ?_)
    refine jq_aload_n Γ dX2_readArticle_63 rfl 1 rfl (jq_at_0 at_X_2) ?_
    refine jq_getI (J := 11) Γ at_X_2 fl_RX2_20 rfl rfl dX2_readArticle_64 ?_
    refine jq_bipush Γ dX2_readArticle_67 rfl ?_
    refine jq_icmp_ne (tgt := 89) Γ dX2_readArticle_69 rfl ?_ ?_
    · refine jq_sub Γ (L' := [(0, jR 2), (1, jR p1), (2, jI v2)]) [1, 2, 0] rfl ?_
      exact hj89_0 v2 s10
    · refine jq_aload_n Γ dX2_readArticle_72 rfl 1 rfl (jq_at_0 at_X_2) ?_
      refine jq_cwV (jq_virt (avs := []) (st := []) Γ hlY rfl ml_RX2_50 rfl at_X_2 rfl rfl rfl rfl rfl dX2_readArticle_73) (fun σ' h => ctX5_next h) (fun s19 => ?_)
      refine jq_aload_n Γ dX2_readArticle_76 rfl 2 rfl (jq_at_0 (at_com hp1)) ?_
      refine jq_getR (v := (p1 + 10)) Γ hlY (at_com hp1) fl_RX2_130 rfl rfl (ly_X1_odds hp1) dX2_readArticle_77 ?_
      refine jq_iload_n Γ dX2_readArticle_80 rfl 0 rfl ?_
      refine jq_aload_n Γ dX2_readArticle_81 rfl 1 rfl (jq_at_0 at_X_2) ?_
      refine jq_iconst Γ dX2_readArticle_82 rfl ?_
      refine jq_bipush Γ dX2_readArticle_83 rfl ?_
      refine jq_cwI (jq_virt (avs := [jI 0, jI 16]) (st := [jI v2, jR (p1 + 10)]) Γ hlY rfl ml_RX2_53 rfl at_X_2 rfl rfl rfl rfl rfl dX2_readArticle_85) (fun r σ' h => ctX5_takeNumber h) (fun v20 s21 => ?_)
      refine jq_iast Γ (at_com_10 hp1) rfl dX2_readArticle_88 (fun s22 => ?_)
      refine jq_sub Γ (L' := [(0, jR 2), (1, jR p1), (2, jI v2)]) [1, 2, 0] rfl ?_
      exact hj89_0 v2 s22
  · refine jq_aload_n Γ dX2_readArticle_9 rfl 0 rfl (jq_at_0 at_X_2) ?_
    refine jq_bipush Γ dX2_readArticle_10 rfl ?_
    refine jq_cwV (jq_virt (avs := [jI 6]) (st := []) Γ hlY rfl ml_RX2_43 rfl at_X_2 rfl rfl rfl rfl rfl dX2_readArticle_12) (fun σ' h => ctX5_blame h) (fun s23 => ?_)
    exact jq_vreturn Γ dX2_readArticle_15 (hK0 _)


theorem dX2_readAll_0 : decode cX2_readAll 0 = .ok (.aload_n 1, 1) := by decide +kernel
theorem dX2_readAll_1 : decode cX2_readAll 1 = .ok (.invokevirtual 9, 3) := by decide +kernel
theorem dX2_readAll_4 : decode cX2_readAll 4 = .ok (.iconst 0, 1) := by decide +kernel
theorem dX2_readAll_5 : decode cX2_readAll 5 = .ok (.istore_n 2, 1) := by decide +kernel
theorem dX2_readAll_6 : decode cX2_readAll 6 = .ok (.iload_n 2, 1) := by decide +kernel
theorem dX2_readAll_7 : decode cX2_readAll 7 = .ok (.sipush 900, 3) := by decide +kernel
theorem dX2_readAll_10 : decode cX2_readAll 10 = .ok (.if_icmp .ge 135, 3) := by decide +kernel
theorem dX2_readAll_13 : decode cX2_readAll 13 = .ok (.aload_n 0, 1) := by decide +kernel
theorem dX2_readAll_14 : decode cX2_readAll 14 = .ok (.invokevirtual 14, 3) := by decide +kernel
theorem dX2_readAll_17 : decode cX2_readAll 17 = .ok (.ifCond .eq 128, 3) := by decide +kernel
theorem dX2_readAll_20 : decode cX2_readAll 20 = .ok (.aload_n 0, 1) := by decide +kernel
theorem dX2_readAll_21 : decode cX2_readAll 21 = .ok (.getfield 20, 3) := by decide +kernel
theorem dX2_readAll_24 : decode cX2_readAll 24 = .ok (.tableswitch 110 0 10 #[60, 68, 76, 110, 110, 84, 93, 110, 110, 110, 102], 60) := by decide +kernel
theorem dX2_readAll_84 : decode cX2_readAll 84 = .ok (.aload_n 0, 1) := by decide +kernel
theorem dX2_readAll_85 : decode cX2_readAll 85 = .ok (.aload_n 1, 1) := by decide +kernel
theorem dX2_readAll_86 : decode cX2_readAll 86 = .ok (.invokestatic 24, 3) := by decide +kernel
theorem dX2_readAll_89 : decode cX2_readAll 89 = .ok (.goto 50, 3) := by decide +kernel
theorem dX2_readAll_92 : decode cX2_readAll 92 = .ok (.aload_n 0, 1) := by decide +kernel
theorem dX2_readAll_93 : decode cX2_readAll 93 = .ok (.aload_n 1, 1) := by decide +kernel
theorem dX2_readAll_94 : decode cX2_readAll 94 = .ok (.invokestatic 30, 3) := by decide +kernel
theorem dX2_readAll_97 : decode cX2_readAll 97 = .ok (.goto 42, 3) := by decide +kernel
theorem dX2_readAll_100 : decode cX2_readAll 100 = .ok (.aload_n 0, 1) := by decide +kernel
theorem dX2_readAll_101 : decode cX2_readAll 101 = .ok (.aload_n 1, 1) := by decide +kernel
theorem dX2_readAll_102 : decode cX2_readAll 102 = .ok (.invokestatic 33, 3) := by decide +kernel
theorem dX2_readAll_105 : decode cX2_readAll 105 = .ok (.goto 34, 3) := by decide +kernel
theorem dX2_readAll_108 : decode cX2_readAll 108 = .ok (.aload_n 0, 1) := by decide +kernel
theorem dX2_readAll_109 : decode cX2_readAll 109 = .ok (.aload_n 1, 1) := by decide +kernel
theorem dX2_readAll_110 : decode cX2_readAll 110 = .ok (.iconst 1, 1) := by decide +kernel
theorem dX2_readAll_111 : decode cX2_readAll 111 = .ok (.invokestatic 36, 3) := by decide +kernel
theorem dX2_readAll_114 : decode cX2_readAll 114 = .ok (.goto 25, 3) := by decide +kernel
theorem dX2_readAll_117 : decode cX2_readAll 117 = .ok (.aload_n 0, 1) := by decide +kernel
theorem dX2_readAll_118 : decode cX2_readAll 118 = .ok (.aload_n 1, 1) := by decide +kernel
theorem dX2_readAll_119 : decode cX2_readAll 119 = .ok (.iconst (-1), 1) := by decide +kernel
theorem dX2_readAll_120 : decode cX2_readAll 120 = .ok (.invokestatic 36, 3) := by decide +kernel
theorem dX2_readAll_123 : decode cX2_readAll 123 = .ok (.goto 16, 3) := by decide +kernel
theorem dX2_readAll_126 : decode cX2_readAll 126 = .ok (.aload_n 0, 1) := by decide +kernel
theorem dX2_readAll_127 : decode cX2_readAll 127 = .ok (.aload_n 1, 1) := by decide +kernel
theorem dX2_readAll_128 : decode cX2_readAll 128 = .ok (.invokestatic 40, 3) := by decide +kernel
theorem dX2_readAll_131 : decode cX2_readAll 131 = .ok (.goto 8, 3) := by decide +kernel
theorem dX2_readAll_134 : decode cX2_readAll 134 = .ok (.aload_n 0, 1) := by decide +kernel
theorem dX2_readAll_135 : decode cX2_readAll 135 = .ok (.iconst 2, 1) := by decide +kernel
theorem dX2_readAll_136 : decode cX2_readAll 136 = .ok (.invokevirtual 43, 3) := by decide +kernel
theorem dX2_readAll_139 : decode cX2_readAll 139 = .ok (.iinc 2 1, 3) := by decide +kernel
theorem dX2_readAll_142 : decode cX2_readAll 142 = .ok (.goto (-136), 3) := by decide +kernel
theorem dX2_readAll_145 : decode cX2_readAll 145 = .ok (.return_, 1) := by decide +kernel
set_option maxHeartbeats 4000000 in
set_option maxRecDepth 100000 in
theorem ctX2_readAll {p1 : Int} {σ : jq_M} {σ' : jq_M} (hp1 : jq_com p1) (h : X2_readAll p1 σ = some σ') : jq_MC jq_zX yX2_readAll cX2_readAll 3 none 6 151 [jR 2, jR p1] σ none σ' := by
  refine jq_met (own := RX2) (L0 := [(0, jR 2), (1, jR p1)]) (by decide) rfl rfl rfl ?_
  intro X Γ hnl hlY hRT
  refine jq_use2 (P := fun r => jq_RT jq_zX X none none r) ?_ h hRT
  intro K0 hK0
  unfold X2_readAll
  refine jq_aload_n Γ dX2_readAll_0 rfl 1 rfl (jq_at_0 (at_com hp1)) ?_
  refine jq_cwV (jq_virt (avs := []) (st := []) Γ hlY rfl ml_RX2_9 rfl (at_com hp1) rfl rfl rfl rfl rfl dX2_readAll_1) (fun σ' h => ctX1_clear hp1 h) (fun s1 => ?_)
  refine jq_iconst Γ dX2_readAll_4 rfl ?_
  refine jq_istore_n (L' := [(2, jI 0), (0, jR 2), (1, jR p1)]) Γ dX2_readAll_5 rfl hnl rfl rfl ?_
  refine jq_sub Γ (L' := [(0, jR 2), (1, jR p1), (2, jI 0)]) [1, 2, 0] rfl ?_
  refine jq_loop2 (C := fun (t2 : Int × jq_M) => jq_V jq_zX X (jq_zN jq_zX) t2.2 6 [(0, jR 2), (1, jR p1), (2, jI t2.1)] []) (KX := fun (e40 : jq_M) => jq_V jq_zX X (jq_zN jq_zX) e40 145 [] []) ?_ ?_ (0, s1)
  · intro K6_t2 hCt2 hXt2 t2
    unfold X2_readAll_b6
    refine jq_iload_n Γ dX2_readAll_6 rfl 2 rfl ?_
    refine jq_sipush Γ dX2_readAll_7 rfl ?_
    refine jq_icmp_ge (tgt := 145) Γ dX2_readAll_10 rfl ?_ ?_
    · refine jq_sub Γ (L' := []) [] rfl ?_
      exact jq_done (hXt2 t2.2)
    · refine jq_aload_n Γ dX2_readAll_13 rfl 0 rfl (jq_at_0 at_X_2) ?_
      refine jq_cpZ (jq_virt (avs := []) (st := []) Γ hlY rfl ml_RX2_14 rfl at_X_2 rfl rfl rfl rfl rfl dX2_readAll_14) rfl (fun r h => ctX5_goesOn h) (fun v3 hz4 => ?_)
      refine jq_if_eq (tgt := 145) Γ dX2_readAll_17 rfl ?_ ?_
      · refine jq_sub Γ (L' := []) [] rfl ?_
        exact jq_done (hXt2 t2.2)
      · refine jq_aload_n Γ dX2_readAll_20 rfl 0 rfl (jq_at_0 at_X_2) ?_
        refine jq_getI (J := 11) Γ at_X_2 fl_RX2_20 rfl rfl dX2_readAll_21 ?_
        refine jq_split (fun hc5 => ?_) (fun hn0_24 => ?_)
        · refine jq_tabIn (tgt := 84) Γ dX2_readAll_24 hc5 rfl rfl rfl ?_
          refine jq_aload_n Γ dX2_readAll_84 rfl 0 rfl (jq_at_0 at_X_2) ?_
          refine jq_aload_n Γ dX2_readAll_85 rfl 1 rfl (jq_at_0 (at_com hp1)) ?_
          refine jq_cwV (jq_stat (avs := [jR 2, jR p1]) (st := []) Γ hlY rfl ml_RX2_24 rfl rfl rfl rfl rfl dX2_readAll_86) (fun σ' h => ctX2_readPlaces hp1 h) (fun s6 => ?_)
          refine jq_goto Γ (tgt := 139) dX2_readAll_89 rfl ?_
          refine jq_iincN (L' := fun v7 => [(2, jI v7), (0, jR 2), (1, jR p1)]) Γ dX2_readAll_139 2 rfl hnl rfl (fun _ => rfl) (fun v7 => ?_)
          refine jq_goto Γ (tgt := 6) dX2_readAll_142 rfl ?_
          refine jq_sub Γ (L' := [(0, jR 2), (1, jR p1), (2, jI v7)]) [1, 2, 0] rfl ?_
          exact jq_done (hCt2 (v7, s6))
        · refine jq_split (fun hc8 => ?_) (fun hn1_24 => ?_)
          · refine jq_tabIn (tgt := 92) Γ dX2_readAll_24 hc8 rfl rfl rfl ?_
            refine jq_aload_n Γ dX2_readAll_92 rfl 0 rfl (jq_at_0 at_X_2) ?_
            refine jq_aload_n Γ dX2_readAll_93 rfl 1 rfl (jq_at_0 (at_com hp1)) ?_
            refine jq_cwV (jq_stat (avs := [jR 2, jR p1]) (st := []) Γ hlY rfl ml_RX2_30 rfl rfl rfl rfl rfl dX2_readAll_94) (fun σ' h => ctX2_readCorner hp1 h) (fun s9 => ?_)
            refine jq_goto Γ (tgt := 139) dX2_readAll_97 rfl ?_
            refine jq_iincN (L' := fun v10 => [(2, jI v10), (0, jR 2), (1, jR p1)]) Γ dX2_readAll_139 2 rfl hnl rfl (fun _ => rfl) (fun v10 => ?_)
            refine jq_goto Γ (tgt := 6) dX2_readAll_142 rfl ?_
            refine jq_sub Γ (L' := [(0, jR 2), (1, jR p1), (2, jI v10)]) [1, 2, 0] rfl ?_
            exact jq_done (hCt2 (v10, s9))
          · refine jq_split (fun hc11 => ?_) (fun hn2_24 => ?_)
            · refine jq_tabIn (tgt := 100) Γ dX2_readAll_24 hc11 rfl rfl rfl ?_
              refine jq_aload_n Γ dX2_readAll_100 rfl 0 rfl (jq_at_0 at_X_2) ?_
              refine jq_aload_n Γ dX2_readAll_101 rfl 1 rfl (jq_at_0 (at_com hp1)) ?_
              refine jq_cwV (jq_stat (avs := [jR 2, jR p1]) (st := []) Γ hlY rfl ml_RX2_33 rfl rfl rfl rfl rfl dX2_readAll_102) (fun σ' h => ctX2_readParty hp1 h) (fun s12 => ?_)
              refine jq_goto Γ (tgt := 139) dX2_readAll_105 rfl ?_
              refine jq_iincN (L' := fun v13 => [(2, jI v13), (0, jR 2), (1, jR p1)]) Γ dX2_readAll_139 2 rfl hnl rfl (fun _ => rfl) (fun v13 => ?_)
              refine jq_goto Γ (tgt := 6) dX2_readAll_142 rfl ?_
              refine jq_sub Γ (L' := [(0, jR 2), (1, jR p1), (2, jI v13)]) [1, 2, 0] rfl ?_
              exact jq_done (hCt2 (v13, s12))
            · refine jq_split (fun hc14 => ?_) (fun hn3_24 => ?_)
              · refine jq_tabIn (tgt := 134) Γ dX2_readAll_24 hc14 rfl rfl rfl ?_
                refine jq_aload_n Γ dX2_readAll_134 rfl 0 rfl (jq_at_0 at_X_2) ?_
                refine jq_iconst Γ dX2_readAll_135 rfl ?_
                refine jq_cwV (jq_virt (avs := [jI 2]) (st := []) Γ hlY rfl ml_RX2_43 rfl at_X_2 rfl rfl rfl rfl rfl dX2_readAll_136) (fun σ' h => ctX5_blame h) (fun s15 => ?_)
                refine jq_iincN (L' := fun v16 => [(2, jI v16), (0, jR 2), (1, jR p1)]) Γ dX2_readAll_139 2 rfl hnl rfl (fun _ => rfl) (fun v16 => ?_)
                refine jq_goto Γ (tgt := 6) dX2_readAll_142 rfl ?_
                refine jq_sub Γ (L' := [(0, jR 2), (1, jR p1), (2, jI v16)]) [1, 2, 0] rfl ?_
                exact jq_done (hCt2 (v16, s15))
              · refine jq_split (fun hc17 => ?_) (fun hn4_24 => ?_)
                · refine jq_tabIn (tgt := 134) Γ dX2_readAll_24 hc17 rfl rfl rfl ?_
                  refine jq_aload_n Γ dX2_readAll_134 rfl 0 rfl (jq_at_0 at_X_2) ?_
                  refine jq_iconst Γ dX2_readAll_135 rfl ?_
                  refine jq_cwV (jq_virt (avs := [jI 2]) (st := []) Γ hlY rfl ml_RX2_43 rfl at_X_2 rfl rfl rfl rfl rfl dX2_readAll_136) (fun σ' h => ctX5_blame h) (fun s18 => ?_)
                  refine jq_iincN (L' := fun v19 => [(2, jI v19), (0, jR 2), (1, jR p1)]) Γ dX2_readAll_139 2 rfl hnl rfl (fun _ => rfl) (fun v19 => ?_)
                  refine jq_goto Γ (tgt := 6) dX2_readAll_142 rfl ?_
                  refine jq_sub Γ (L' := [(0, jR 2), (1, jR p1), (2, jI v19)]) [1, 2, 0] rfl ?_
                  exact jq_done (hCt2 (v19, s18))
                · refine jq_split (fun hc20 => ?_) (fun hn5_24 => ?_)
                  · refine jq_tabIn (tgt := 108) Γ dX2_readAll_24 hc20 rfl rfl rfl ?_
                    refine jq_aload_n Γ dX2_readAll_108 rfl 0 rfl (jq_at_0 at_X_2) ?_
                    refine jq_aload_n Γ dX2_readAll_109 rfl 1 rfl (jq_at_0 (at_com hp1)) ?_
                    refine jq_iconst Γ dX2_readAll_110 rfl ?_
                    refine jq_cwV (jq_stat (avs := [jR 2, jR p1, jI 1]) (st := []) Γ hlY rfl ml_RX2_36 rfl rfl rfl rfl rfl dX2_readAll_111) (fun σ' h => ctX2_readWish hp1 h) (fun s21 => ?_)
                    refine jq_goto Γ (tgt := 139) dX2_readAll_114 rfl ?_
                    refine jq_iincN (L' := fun v22 => [(2, jI v22), (0, jR 2), (1, jR p1)]) Γ dX2_readAll_139 2 rfl hnl rfl (fun _ => rfl) (fun v22 => ?_)
                    refine jq_goto Γ (tgt := 6) dX2_readAll_142 rfl ?_
                    refine jq_sub Γ (L' := [(0, jR 2), (1, jR p1), (2, jI v22)]) [1, 2, 0] rfl ?_
                    exact jq_done (hCt2 (v22, s21))
                  · refine jq_split (fun hc23 => ?_) (fun hn6_24 => ?_)
                    · refine jq_tabIn (tgt := 117) Γ dX2_readAll_24 hc23 rfl rfl rfl ?_
                      refine jq_aload_n Γ dX2_readAll_117 rfl 0 rfl (jq_at_0 at_X_2) ?_
                      refine jq_aload_n Γ dX2_readAll_118 rfl 1 rfl (jq_at_0 (at_com hp1)) ?_
                      refine jq_iconst Γ dX2_readAll_119 rfl ?_
                      refine jq_cwV (jq_stat (avs := [jR 2, jR p1, jI (-1)]) (st := []) Γ hlY rfl ml_RX2_36 rfl rfl rfl rfl rfl dX2_readAll_120) (fun σ' h => ctX2_readWish hp1 h) (fun s24 => ?_)
                      refine jq_goto Γ (tgt := 139) dX2_readAll_123 rfl ?_
                      refine jq_iincN (L' := fun v25 => [(2, jI v25), (0, jR 2), (1, jR p1)]) Γ dX2_readAll_139 2 rfl hnl rfl (fun _ => rfl) (fun v25 => ?_)
                      refine jq_goto Γ (tgt := 6) dX2_readAll_142 rfl ?_
                      refine jq_sub Γ (L' := [(0, jR 2), (1, jR p1), (2, jI v25)]) [1, 2, 0] rfl ?_
                      exact jq_done (hCt2 (v25, s24))
                    · refine jq_split (fun hc26 => ?_) (fun hn7_24 => ?_)
                      · refine jq_tabIn (tgt := 134) Γ dX2_readAll_24 hc26 rfl rfl rfl ?_
                        refine jq_aload_n Γ dX2_readAll_134 rfl 0 rfl (jq_at_0 at_X_2) ?_
                        refine jq_iconst Γ dX2_readAll_135 rfl ?_
                        refine jq_cwV (jq_virt (avs := [jI 2]) (st := []) Γ hlY rfl ml_RX2_43 rfl at_X_2 rfl rfl rfl rfl rfl dX2_readAll_136) (fun σ' h => ctX5_blame h) (fun s27 => ?_)
                        refine jq_iincN (L' := fun v28 => [(2, jI v28), (0, jR 2), (1, jR p1)]) Γ dX2_readAll_139 2 rfl hnl rfl (fun _ => rfl) (fun v28 => ?_)
                        refine jq_goto Γ (tgt := 6) dX2_readAll_142 rfl ?_
                        refine jq_sub Γ (L' := [(0, jR 2), (1, jR p1), (2, jI v28)]) [1, 2, 0] rfl ?_
                        exact jq_done (hCt2 (v28, s27))
                      · refine jq_split (fun hc29 => ?_) (fun hn8_24 => ?_)
                        · refine jq_tabIn (tgt := 134) Γ dX2_readAll_24 hc29 rfl rfl rfl ?_
                          refine jq_aload_n Γ dX2_readAll_134 rfl 0 rfl (jq_at_0 at_X_2) ?_
                          refine jq_iconst Γ dX2_readAll_135 rfl ?_
                          refine jq_cwV (jq_virt (avs := [jI 2]) (st := []) Γ hlY rfl ml_RX2_43 rfl at_X_2 rfl rfl rfl rfl rfl dX2_readAll_136) (fun σ' h => ctX5_blame h) (fun s30 => ?_)
                          refine jq_iincN (L' := fun v31 => [(2, jI v31), (0, jR 2), (1, jR p1)]) Γ dX2_readAll_139 2 rfl hnl rfl (fun _ => rfl) (fun v31 => ?_)
                          refine jq_goto Γ (tgt := 6) dX2_readAll_142 rfl ?_
                          refine jq_sub Γ (L' := [(0, jR 2), (1, jR p1), (2, jI v31)]) [1, 2, 0] rfl ?_
                          exact jq_done (hCt2 (v31, s30))
                        · refine jq_split (fun hc32 => ?_) (fun hn9_24 => ?_)
                          · refine jq_tabIn (tgt := 134) Γ dX2_readAll_24 hc32 rfl rfl rfl ?_
                            refine jq_aload_n Γ dX2_readAll_134 rfl 0 rfl (jq_at_0 at_X_2) ?_
                            refine jq_iconst Γ dX2_readAll_135 rfl ?_
                            refine jq_cwV (jq_virt (avs := [jI 2]) (st := []) Γ hlY rfl ml_RX2_43 rfl at_X_2 rfl rfl rfl rfl rfl dX2_readAll_136) (fun σ' h => ctX5_blame h) (fun s33 => ?_)
                            refine jq_iincN (L' := fun v34 => [(2, jI v34), (0, jR 2), (1, jR p1)]) Γ dX2_readAll_139 2 rfl hnl rfl (fun _ => rfl) (fun v34 => ?_)
                            refine jq_goto Γ (tgt := 6) dX2_readAll_142 rfl ?_
                            refine jq_sub Γ (L' := [(0, jR 2), (1, jR p1), (2, jI v34)]) [1, 2, 0] rfl ?_
                            exact jq_done (hCt2 (v34, s33))
                          · refine jq_split (fun hc35 => ?_) (fun hn10_24 => ?_)
                            · refine jq_tabIn (tgt := 126) Γ dX2_readAll_24 hc35 rfl rfl rfl ?_
                              refine jq_aload_n Γ dX2_readAll_126 rfl 0 rfl (jq_at_0 at_X_2) ?_
                              refine jq_aload_n Γ dX2_readAll_127 rfl 1 rfl (jq_at_0 (at_com hp1)) ?_
                              refine jq_cwV (jq_stat (avs := [jR 2, jR p1]) (st := []) Γ hlY rfl ml_RX2_40 rfl rfl rfl rfl rfl dX2_readAll_128) (fun σ' h => ctX2_readArticle hp1 h) (fun s36 => ?_)
                              refine jq_goto Γ (tgt := 139) dX2_readAll_131 rfl ?_
                              refine jq_iincN (L' := fun v37 => [(2, jI v37), (0, jR 2), (1, jR p1)]) Γ dX2_readAll_139 2 rfl hnl rfl (fun _ => rfl) (fun v37 => ?_)
                              refine jq_goto Γ (tgt := 6) dX2_readAll_142 rfl ?_
                              refine jq_sub Γ (L' := [(0, jR 2), (1, jR p1), (2, jI v37)]) [1, 2, 0] rfl ?_
                              exact jq_done (hCt2 (v37, s36))
                            · refine jq_tabOut (tgt := 134) Γ dX2_readAll_24 (by omega) rfl ?_
                              refine jq_aload_n Γ dX2_readAll_134 rfl 0 rfl (jq_at_0 at_X_2) ?_
                              refine jq_iconst Γ dX2_readAll_135 rfl ?_
                              refine jq_cwV (jq_virt (avs := [jI 2]) (st := []) Γ hlY rfl ml_RX2_43 rfl at_X_2 rfl rfl rfl rfl rfl dX2_readAll_136) (fun σ' h => ctX5_blame h) (fun s38 => ?_)
                              refine jq_iincN (L' := fun v39 => [(2, jI v39), (0, jR 2), (1, jR p1)]) Γ dX2_readAll_139 2 rfl hnl rfl (fun _ => rfl) (fun v39 => ?_)
                              refine jq_goto Γ (tgt := 6) dX2_readAll_142 rfl ?_
                              refine jq_sub Γ (L' := [(0, jR 2), (1, jR p1), (2, jI v39)]) [1, 2, 0] rfl ?_
                              exact jq_done (hCt2 (v39, s38))
  · intro e40
    exact jq_vreturn Γ dX2_readAll_145 (hK0 _)


theorem dX10_keepFault_0 : decode cX10_keepFault 0 = .ok (.aload_n 0, 1) := by decide +kernel
theorem dX10_keepFault_1 : decode cX10_keepFault 1 = .ok (.aload_n 0, 1) := by decide +kernel
theorem dX10_keepFault_2 : decode cX10_keepFault 2 = .ok (.getfield 18, 3) := by decide +kernel
theorem dX10_keepFault_5 : decode cX10_keepFault 5 = .ok (.getfield 447, 3) := by decide +kernel
theorem dX10_keepFault_8 : decode cX10_keepFault 8 = .ok (.putfield 82, 3) := by decide +kernel
theorem dX10_keepFault_11 : decode cX10_keepFault 11 = .ok (.aload_n 0, 1) := by decide +kernel
theorem dX10_keepFault_12 : decode cX10_keepFault 12 = .ok (.aload_n 0, 1) := by decide +kernel
theorem dX10_keepFault_13 : decode cX10_keepFault 13 = .ok (.getfield 18, 3) := by decide +kernel
theorem dX10_keepFault_16 : decode cX10_keepFault 16 = .ok (.getfield 450, 3) := by decide +kernel
theorem dX10_keepFault_19 : decode cX10_keepFault 19 = .ok (.putfield 85, 3) := by decide +kernel
theorem dX10_keepFault_22 : decode cX10_keepFault 22 = .ok (.aload_n 0, 1) := by decide +kernel
theorem dX10_keepFault_23 : decode cX10_keepFault 23 = .ok (.getfield 82, 3) := by decide +kernel
theorem dX10_keepFault_26 : decode cX10_keepFault 26 = .ok (.ifCond .ne 7, 3) := by decide +kernel
theorem dX10_keepFault_29 : decode cX10_keepFault 29 = .ok (.iconst 1, 1) := by decide +kernel
theorem dX10_keepFault_30 : decode cX10_keepFault 30 = .ok (.goto 4, 3) := by decide +kernel
theorem dX10_keepFault_33 : decode cX10_keepFault 33 = .ok (.iconst 0, 1) := by decide +kernel
theorem dX10_keepFault_34 : decode cX10_keepFault 34 = .ok (.ireturn, 1) := by decide +kernel
set_option maxHeartbeats 4000000 in
set_option maxRecDepth 100000 in
theorem ctX10_keepFault  {σ : jq_M} {res : Int} {σ' : jq_M}  (h : X10_keepFault σ = some (res, σ')) : jq_MC jq_zX yX10_keepFault cX10_keepFault 1 (some .boolean) 1 40 [jR 0] σ (some (jI res)) σ' := by
  refine jq_met (own := RX10) (L0 := [(0, jR 0)]) (by decide) rfl rfl rfl ?_
  intro X Γ hnl hlY hRT
  refine jq_use2 (P := fun r => jq_RT jq_zX X (some .boolean) (some (jI r.1)) r.2) ?_ h hRT
  intro K0 hK0
  unfold X10_keepFault
  refine jq_aload_n Γ dX10_keepFault_0 rfl 0 rfl (jq_at_0 at_X_0) ?_
  refine jq_aload_n Γ dX10_keepFault_1 rfl 0 rfl (jq_at_0 at_X_0) ?_
  refine jq_getR (v := 2) Γ hlY at_X_0 fl_RX10_18 rfl rfl ly_X10_reader dX10_keepFault_2 ?_
  refine jq_getI (J := 12) Γ at_X_2 fl_RX10_447 rfl rfl dX10_keepFault_5 ?_
  refine jq_putI Γ at_X_0 fl_RX10_82 rfl rfl dX10_keepFault_8 (fun s1 => ?_)
  refine jq_aload_n Γ dX10_keepFault_11 rfl 0 rfl (jq_at_0 at_X_0) ?_
  refine jq_aload_n Γ dX10_keepFault_12 rfl 0 rfl (jq_at_0 at_X_0) ?_
  refine jq_getR (v := 2) Γ hlY at_X_0 fl_RX10_18 rfl rfl ly_X10_reader dX10_keepFault_13 ?_
  refine jq_getI (J := 13) Γ at_X_2 fl_RX10_450 rfl rfl dX10_keepFault_16 ?_
  refine jq_putI Γ at_X_0 fl_RX10_85 rfl rfl dX10_keepFault_19 (fun s2 => ?_)
  refine jq_aload_n Γ dX10_keepFault_22 rfl 0 rfl (jq_at_0 at_X_0) ?_
  refine jq_getI (J := 5) Γ at_X_0 fl_RX10_82 rfl rfl dX10_keepFault_23 ?_
  refine jq_if_ne (tgt := 33) Γ dX10_keepFault_26 rfl ?_ ?_
  · refine jq_iconst Γ dX10_keepFault_33 rfl ?_
    exact jq_zreturn Γ (Or.inl rfl) dX10_keepFault_34 (hK0 _)
  · refine jq_iconst Γ dX10_keepFault_29 rfl ?_
    refine jq_goto Γ (tgt := 34) dX10_keepFault_30 rfl ?_
    exact jq_zreturn Γ (Or.inr rfl) dX10_keepFault_34 (hK0 _)


theorem dX10_answer_0 : decode cX10_answer 0 = .ok (.aload_n 0, 1) := by decide +kernel
theorem dX10_answer_1 : decode cX10_answer 1 = .ok (.iconst 0, 1) := by decide +kernel
theorem dX10_answer_2 : decode cX10_answer 2 = .ok (.putfield 71, 3) := by decide +kernel
theorem dX10_answer_5 : decode cX10_answer 5 = .ok (.iload_n 1, 1) := by decide +kernel
theorem dX10_answer_6 : decode cX10_answer 6 = .ok (.ireturn, 1) := by decide +kernel
set_option maxHeartbeats 4000000 in
set_option maxRecDepth 100000 in
theorem ctX10_answer {p1 : Int} {σ : jq_M} {res : Int} {σ' : jq_M}  (h : X10_answer p1 σ = some (res, σ')) : jq_MC jq_zX yX10_answer cX10_answer 2 (some .int) 1 40 [jR 0, jI p1] σ (some (jI res)) σ' := by
  refine jq_met (own := RX10) (L0 := [(0, jR 0), (1, jI p1)]) (by decide) rfl rfl rfl ?_
  intro X Γ hnl hlY hRT
  refine jq_use2 (P := fun r => jq_RT jq_zX X (some .int) (some (jI r.1)) r.2) ?_ h hRT
  intro K0 hK0
  unfold X10_answer
  refine jq_aload_n Γ dX10_answer_0 rfl 0 rfl (jq_at_0 at_X_0) ?_
  refine jq_iconst Γ dX10_answer_1 rfl ?_
  refine jq_putI Γ at_X_0 fl_RX10_71 rfl rfl dX10_answer_2 (fun s1 => ?_)
  refine jq_iload_n Γ dX10_answer_5 rfl 1 rfl ?_
  exact jq_ireturn Γ dX10_answer_6 (hK0 _)


theorem dX10_committee_0 : decode cX10_committee 0 = .ok (.iload_n 1, 1) := by decide +kernel
theorem dX10_committee_1 : decode cX10_committee 1 = .ok (.ifCond .lt 14, 3) := by decide +kernel
theorem dX10_committee_4 : decode cX10_committee 4 = .ok (.iload_n 1, 1) := by decide +kernel
theorem dX10_committee_5 : decode cX10_committee 5 = .ok (.aload_n 0, 1) := by decide +kernel
theorem dX10_committee_6 : decode cX10_committee 6 = .ok (.getfield 18, 3) := by decide +kernel
theorem dX10_committee_9 : decode cX10_committee 9 = .ok (.getfield 139, 3) := by decide +kernel
theorem dX10_committee_12 : decode cX10_committee 12 = .ok (.if_icmp .le 9, 3) := by decide +kernel
theorem dX10_committee_15 : decode cX10_committee 15 = .ok (.aload_n 0, 1) := by decide +kernel
theorem dX10_committee_16 : decode cX10_committee 16 = .ok (.iconst 1, 1) := by decide +kernel
theorem dX10_committee_17 : decode cX10_committee 17 = .ok (.invokevirtual 120, 3) := by decide +kernel
theorem dX10_committee_20 : decode cX10_committee 20 = .ok (.ireturn, 1) := by decide +kernel
theorem dX10_committee_21 : decode cX10_committee 21 = .ok (.aload_n 0, 1) := by decide +kernel
theorem dX10_committee_22 : decode cX10_committee 22 = .ok (.getfield 18, 3) := by decide +kernel
theorem dX10_committee_25 : decode cX10_committee 25 = .ok (.iload_n 1, 1) := by decide +kernel
theorem dX10_committee_26 : decode cX10_committee 26 = .ok (.invokevirtual 146, 3) := by decide +kernel
theorem dX10_committee_29 : decode cX10_committee 29 = .ok (.aload_n 0, 1) := by decide +kernel
theorem dX10_committee_30 : decode cX10_committee 30 = .ok (.getfield 18, 3) := by decide +kernel
theorem dX10_committee_33 : decode cX10_committee 33 = .ok (.aload_n 0, 1) := by decide +kernel
theorem dX10_committee_34 : decode cX10_committee 34 = .ok (.getfield 29, 3) := by decide +kernel
theorem dX10_committee_37 : decode cX10_committee 37 = .ok (.invokestatic 149, 3) := by decide +kernel
theorem dX10_committee_40 : decode cX10_committee 40 = .ok (.aload_n 0, 1) := by decide +kernel
theorem dX10_committee_41 : decode cX10_committee 41 = .ok (.invokevirtual 155, 3) := by decide +kernel
theorem dX10_committee_44 : decode cX10_committee 44 = .ok (.ifCond .ne 10, 3) := by decide +kernel
theorem dX10_committee_47 : decode cX10_committee 47 = .ok (.aload_n 0, 1) := by decide +kernel
theorem dX10_committee_48 : decode cX10_committee 48 = .ok (.bipush 9, 2) := by decide +kernel
theorem dX10_committee_50 : decode cX10_committee 50 = .ok (.invokevirtual 120, 3) := by decide +kernel
theorem dX10_committee_53 : decode cX10_committee 53 = .ok (.ireturn, 1) := by decide +kernel
theorem dX10_committee_54 : decode cX10_committee 54 = .ok (.aload_n 0, 1) := by decide +kernel
theorem dX10_committee_55 : decode cX10_committee 55 = .ok (.getfield 25, 3) := by decide +kernel
theorem dX10_committee_58 : decode cX10_committee 58 = .ok (.astore_n 2, 1) := by decide +kernel
theorem dX10_committee_59 : decode cX10_committee 59 = .ok (.aload_n 0, 1) := by decide +kernel
theorem dX10_committee_60 : decode cX10_committee 60 = .ok (.aload_n 0, 1) := by decide +kernel
theorem dX10_committee_61 : decode cX10_committee 61 = .ok (.getfield 29, 3) := by decide +kernel
theorem dX10_committee_64 : decode cX10_committee 64 = .ok (.putfield 25, 3) := by decide +kernel
theorem dX10_committee_67 : decode cX10_committee 67 = .ok (.aload_n 0, 1) := by decide +kernel
theorem dX10_committee_68 : decode cX10_committee 68 = .ok (.aload_n 2, 1) := by decide +kernel
theorem dX10_committee_69 : decode cX10_committee 69 = .ok (.putfield 29, 3) := by decide +kernel
theorem dX10_committee_72 : decode cX10_committee 72 = .ok (.aload_n 0, 1) := by decide +kernel
theorem dX10_committee_73 : decode cX10_committee 73 = .ok (.aload_n 0, 1) := by decide +kernel
theorem dX10_committee_74 : decode cX10_committee 74 = .ok (.getfield 25, 3) := by decide +kernel
theorem dX10_committee_77 : decode cX10_committee 77 = .ok (.getfield 158, 3) := by decide +kernel
theorem dX10_committee_80 : decode cX10_committee 80 = .ok (.invokevirtual 161, 3) := by decide +kernel
theorem dX10_committee_83 : decode cX10_committee 83 = .ok (.ireturn, 1) := by decide +kernel
set_option maxHeartbeats 4000000 in
set_option maxRecDepth 100000 in
theorem ctX10_committee {p1 : Int} {σ : jq_M} {res : Int} {σ' : jq_M}  (h : X10_committee p1 σ = some (res, σ')) : jq_MC jq_zX yX10_committee cX10_committee 3 (some .int) 7 173 [jR 0, jI p1] σ (some (jI res)) σ' := by
  refine jq_met (own := RX10) (L0 := [(0, jR 0), (1, jI p1)]) (by decide) rfl rfl rfl ?_
  intro X Γ hnl hlY hRT
  refine jq_use2 (P := fun r => jq_RT jq_zX X (some .int) (some (jI r.1)) r.2) ?_ h hRT
  intro K0 hK0
  unfold X10_committee
  have hj15_0 : ∀ (s1 : jq_M), jq_J (X10_committee_j15 s1) K0 (jq_V jq_zX X (jq_zN jq_zX) s1 15 [(0, jR 0)] []) := by
    intro s1
    unfold X10_committee_j15
    refine jq_aload_n Γ dX10_committee_15 rfl 0 rfl (jq_at_0 at_X_0) ?_
    refine jq_iconst Γ dX10_committee_16 rfl ?_
    refine jq_cwI (jq_virt (avs := [jI 1]) (st := []) Γ hlY rfl ml_RX10_120 rfl at_X_0 rfl rfl rfl rfl rfl dX10_committee_17) (fun r σ' h => ctX10_refuse h) (fun v2 s3 => ?_)
    exact jq_ireturn Γ dX10_committee_20 (hK0 _)
  refine jq_iload_n Γ dX10_committee_0 rfl 1 rfl ?_
  refine jq_if_lt (tgt := 15) Γ dX10_committee_1 rfl ?_ ?_
  · refine jq_sub Γ (L' := [(0, jR 0)]) [0] rfl ?_
    exact hj15_0 σ
  · refine jq_iload_n Γ dX10_committee_4 rfl 1 rfl ?_
    refine jq_aload_n Γ dX10_committee_5 rfl 0 rfl (jq_at_0 at_X_0) ?_
    refine jq_getR (v := 2) Γ hlY at_X_0 fl_RX10_18 rfl rfl ly_X10_reader dX10_committee_6 ?_
    refine jq_getI (J := 2) Γ at_X_2 fl_RX10_139 rfl rfl dX10_committee_9 ?_
    refine jq_icmp_le (tgt := 21) Γ dX10_committee_12 rfl ?_ ?_
    · refine jq_aload_n Γ dX10_committee_21 rfl 0 rfl (jq_at_0 at_X_0) ?_
      refine jq_getR (v := 2) Γ hlY at_X_0 fl_RX10_18 rfl rfl ly_X10_reader dX10_committee_22 ?_
      refine jq_iload_n Γ dX10_committee_25 rfl 1 rfl ?_
      refine jq_cwV (jq_virt (avs := [jI p1]) (st := []) Γ hlY rfl ml_RX10_146 rfl at_X_2 rfl rfl rfl rfl rfl dX10_committee_26) (fun σ' h => ctX5_open h) (fun s4 => ?_)
      refine jq_aload_n Γ dX10_committee_29 rfl 0 rfl (jq_at_0 at_X_0) ?_
      refine jq_getR (v := 2) Γ hlY at_X_0 fl_RX10_18 rfl rfl ly_X10_reader dX10_committee_30 ?_
      refine jq_aload_n Γ dX10_committee_33 rfl 0 rfl (jq_at_0 at_X_0) ?_
      refine jq_getC (C := jq_cm2) Γ hlY at_X_0 fl_RX10_29 rfl rfl ly_spare dX10_committee_34 (fun c5 hc6q => ?_)
      have hc6 := jq_cm2_com hc6q
      refine jq_cwV (jq_stat (avs := [jR 2, jR c5]) (st := []) Γ hlY rfl ml_RX10_149 rfl rfl rfl rfl rfl dX10_committee_37) (fun σ' h => ctX2_readAll hc6 h) (fun s7 => ?_)
      refine jq_aload_n Γ dX10_committee_40 rfl 0 rfl (jq_at_0 at_X_0) ?_
      refine jq_cwZ (jq_virt (avs := []) (st := []) Γ hlY rfl ml_RX10_155 rfl at_X_0 rfl rfl rfl rfl rfl dX10_committee_41) rfl (fun r σ' h => ctX10_keepFault h) (fun v8 s9 hz10 => ?_)
      refine jq_if_ne (tgt := 54) Γ dX10_committee_44 rfl ?_ ?_
      · refine jq_aload_n Γ dX10_committee_54 rfl 0 rfl (jq_at_0 at_X_0) ?_
        refine jq_getC (C := jq_cm2) Γ hlY at_X_0 fl_RX10_25 rfl rfl ly_now dX10_committee_55 (fun c11 hc12q => ?_)
        have hc12 := jq_cm2_com hc12q
        refine jq_astore_n (L' := [(2, jR c11), (0, jR 0), (1, jI p1)]) Γ dX10_committee_58 rfl (jq_at_0 (at_com hc12)) hnl rfl rfl ?_
        refine jq_aload_n Γ dX10_committee_59 rfl 1 rfl (jq_at_0 at_X_0) ?_
        refine jq_aload_n Γ dX10_committee_60 rfl 1 rfl (jq_at_0 at_X_0) ?_
        refine jq_getC (C := jq_cm2) Γ hlY at_X_0 fl_RX10_29 rfl rfl ly_spare dX10_committee_61 (fun c13 hc14q => ?_)
        have hc14 := jq_cm2_com hc14q
        refine jq_putM Γ at_X_0 fl_RX10_25 rfl rfl (ly_put_now hc14q) dX10_committee_64 (fun s15 => ?_)
        refine jq_aload_n Γ dX10_committee_67 rfl 1 rfl (jq_at_0 at_X_0) ?_
        refine jq_aload_n Γ dX10_committee_68 rfl 0 rfl (jq_at_0 (at_com hc12)) ?_
        refine jq_putM Γ at_X_0 fl_RX10_29 rfl rfl (ly_put_spare hc12q) dX10_committee_69 (fun s16 => ?_)
        refine jq_aload_n Γ dX10_committee_72 rfl 1 rfl (jq_at_0 at_X_0) ?_
        refine jq_aload_n Γ dX10_committee_73 rfl 1 rfl (jq_at_0 at_X_0) ?_
        refine jq_getC (C := jq_cm2) Γ hlY at_X_0 fl_RX10_25 rfl rfl ly_now dX10_committee_74 (fun c17 hc18q => ?_)
        have hc18 := jq_cm2_com hc18q
        refine jq_getI (J := 3) Γ (at_com hc18) fl_RX10_158 rfl rfl dX10_committee_77 ?_
        refine jq_cwI (jq_virt (avs := [jI (s16 c17 3)]) (st := []) Γ hlY rfl ml_RX10_161 rfl at_X_0 rfl rfl rfl rfl rfl dX10_committee_80) (fun r σ' h => ctX10_answer h) (fun v19 s20 => ?_)
        exact jq_ireturn Γ dX10_committee_83 (hK0 _)
      · refine jq_aload_n Γ dX10_committee_47 rfl 0 rfl (jq_at_0 at_X_0) ?_
        refine jq_bipush Γ dX10_committee_48 rfl ?_
        refine jq_cwI (jq_virt (avs := [jI 9]) (st := []) Γ hlY rfl ml_RX10_120 rfl at_X_0 rfl rfl rfl rfl rfl dX10_committee_50) (fun r σ' h => ctX10_refuse h) (fun v21 s22 => ?_)
        exact jq_ireturn Γ dX10_committee_53 (hK0 _)
    · refine jq_sub Γ (L' := [(0, jR 0)]) [0] rfl ?_
      exact hj15_0 σ


theorem dX7_addLine_0 : decode cX7_addLine 0 = .ok (.aload_n 0, 1) := by decide +kernel
theorem dX7_addLine_1 : decode cX7_addLine 1 = .ok (.getfield 35, 3) := by decide +kernel
theorem dX7_addLine_4 : decode cX7_addLine 4 = .ok (.bipush 59, 2) := by decide +kernel
theorem dX7_addLine_6 : decode cX7_addLine 6 = .ok (.invokestatic 51, 3) := by decide +kernel
theorem dX7_addLine_9 : decode cX7_addLine 9 = .ok (.istore_n 2, 1) := by decide +kernel
theorem dX7_addLine_10 : decode cX7_addLine 10 = .ok (.aload_n 0, 1) := by decide +kernel
theorem dX7_addLine_11 : decode cX7_addLine 11 = .ok (.getfield 9, 3) := by decide +kernel
theorem dX7_addLine_14 : decode cX7_addLine 14 = .ok (.iload_n 2, 1) := by decide +kernel
theorem dX7_addLine_15 : decode cX7_addLine 15 = .ok (.iload_n 1, 1) := by decide +kernel
theorem dX7_addLine_16 : decode cX7_addLine 16 = .ok (.iastore, 1) := by decide +kernel
theorem dX7_addLine_17 : decode cX7_addLine 17 = .ok (.aload_n 0, 1) := by decide +kernel
theorem dX7_addLine_18 : decode cX7_addLine 18 = .ok (.getfield 15, 3) := by decide +kernel
theorem dX7_addLine_21 : decode cX7_addLine 21 = .ok (.iload_n 2, 1) := by decide +kernel
theorem dX7_addLine_22 : decode cX7_addLine 22 = .ok (.iconst 0, 1) := by decide +kernel
theorem dX7_addLine_23 : decode cX7_addLine 23 = .ok (.iastore, 1) := by decide +kernel
theorem dX7_addLine_24 : decode cX7_addLine 24 = .ok (.aload_n 0, 1) := by decide +kernel
theorem dX7_addLine_25 : decode cX7_addLine 25 = .ok (.getfield 18, 3) := by decide +kernel
theorem dX7_addLine_28 : decode cX7_addLine 28 = .ok (.iload_n 2, 1) := by decide +kernel
theorem dX7_addLine_29 : decode cX7_addLine 29 = .ok (.iconst 0, 1) := by decide +kernel
theorem dX7_addLine_30 : decode cX7_addLine 30 = .ok (.iastore, 1) := by decide +kernel
theorem dX7_addLine_31 : decode cX7_addLine 31 = .ok (.aload_n 0, 1) := by decide +kernel
theorem dX7_addLine_32 : decode cX7_addLine 32 = .ok (.getfield 21, 3) := by decide +kernel
theorem dX7_addLine_35 : decode cX7_addLine 35 = .ok (.iload_n 2, 1) := by decide +kernel
theorem dX7_addLine_36 : decode cX7_addLine 36 = .ok (.iconst 0, 1) := by decide +kernel
theorem dX7_addLine_37 : decode cX7_addLine 37 = .ok (.iastore, 1) := by decide +kernel
theorem dX7_addLine_38 : decode cX7_addLine 38 = .ok (.aload_n 0, 1) := by decide +kernel
theorem dX7_addLine_39 : decode cX7_addLine 39 = .ok (.iload_n 2, 1) := by decide +kernel
theorem dX7_addLine_40 : decode cX7_addLine 40 = .ok (.iconst 1, 1) := by decide +kernel
theorem dX7_addLine_41 : decode cX7_addLine 41 = .ok (.iadd, 1) := by decide +kernel
theorem dX7_addLine_42 : decode cX7_addLine 42 = .ok (.putfield 35, 3) := by decide +kernel
theorem dX7_addLine_45 : decode cX7_addLine 45 = .ok (.iload_n 2, 1) := by decide +kernel
theorem dX7_addLine_46 : decode cX7_addLine 46 = .ok (.ireturn, 1) := by decide +kernel
set_option maxHeartbeats 4000000 in
set_option maxRecDepth 100000 in
theorem ctX7_addLine {o : Int} {p1 : Int} {σ : jq_M} {res : Int} {σ' : jq_M} (ho : jq_stp o) (h : X7_addLine o p1 σ = some (res, σ')) : jq_MC jq_zX yX7_addLine cX7_addLine 3 (some .int) 1 40 [jR o, jI p1] σ (some (jI res)) σ' := by
  refine jq_met (own := RX7) (L0 := [(0, jR o), (1, jI p1)]) (by decide) rfl rfl rfl ?_
  intro X Γ hnl hlY hRT
  refine jq_use2 (P := fun r => jq_RT jq_zX X (some .int) (some (jI r.1)) r.2) ?_ h hRT
  intro K0 hK0
  unfold X7_addLine
  refine jq_aload_n Γ dX7_addLine_0 rfl 0 rfl (jq_at_0 (at_stp ho)) ?_
  refine jq_getI (J := 2) Γ (at_stp ho) fl_RX7_35 rfl rfl dX7_addLine_1 ?_
  refine jq_bipush Γ dX7_addLine_4 rfl ?_
  refine jq_mmin Γ mw_RX7_51 mws_min mwi mwc_min rfl rfl dX7_addLine_6 ?_
  refine jq_nmI (fun v1 => ?_)
  refine jq_istore_n (L' := [(2, jI v1), (0, jR o), (1, jI p1)]) Γ dX7_addLine_9 rfl hnl rfl rfl ?_
  refine jq_aload_n Γ dX7_addLine_10 rfl 1 rfl (jq_at_0 (at_stp ho)) ?_
  refine jq_getR (v := (o + 1)) Γ hlY (at_stp ho) fl_RX7_9 rfl rfl (ly_X7_words ho) dX7_addLine_11 ?_
  refine jq_iload_n Γ dX7_addLine_14 rfl 0 rfl ?_
  refine jq_iload_n Γ dX7_addLine_15 rfl 2 rfl ?_
  refine jq_iast Γ (at_stp_1 ho) rfl dX7_addLine_16 (fun s2 => ?_)
  refine jq_aload_n Γ dX7_addLine_17 rfl 1 rfl (jq_at_0 (at_stp ho)) ?_
  refine jq_getR (v := (o + 2)) Γ hlY (at_stp ho) fl_RX7_15 rfl rfl (ly_X7_first ho) dX7_addLine_18 ?_
  refine jq_iload_n Γ dX7_addLine_21 rfl 0 rfl ?_
  refine jq_iconst Γ dX7_addLine_22 rfl ?_
  refine jq_iast Γ (at_stp_2 ho) rfl dX7_addLine_23 (fun s3 => ?_)
  refine jq_aload_n Γ dX7_addLine_24 rfl 1 rfl (jq_at_0 (at_stp ho)) ?_
  refine jq_getR (v := (o + 3)) Γ hlY (at_stp ho) fl_RX7_18 rfl rfl (ly_X7_second ho) dX7_addLine_25 ?_
  refine jq_iload_n Γ dX7_addLine_28 rfl 0 rfl ?_
  refine jq_iconst Γ dX7_addLine_29 rfl ?_
  refine jq_iast Γ (at_stp_3 ho) rfl dX7_addLine_30 (fun s4 => ?_)
  refine jq_aload_n Γ dX7_addLine_31 rfl 1 rfl (jq_at_0 (at_stp ho)) ?_
  refine jq_getR (v := (o + 4)) Γ hlY (at_stp ho) fl_RX7_21 rfl rfl (ly_X7_mates ho) dX7_addLine_32 ?_
  refine jq_iload_n Γ dX7_addLine_35 rfl 0 rfl ?_
  refine jq_iconst Γ dX7_addLine_36 rfl ?_
  refine jq_iast Γ (at_stp_4 ho) rfl dX7_addLine_37 (fun s5 => ?_)
  refine jq_aload_n Γ dX7_addLine_38 rfl 1 rfl (jq_at_0 (at_stp ho)) ?_
  refine jq_iload_n Γ dX7_addLine_39 rfl 0 rfl ?_
  refine jq_iconst Γ dX7_addLine_40 rfl ?_
  refine jq_iadd Γ dX7_addLine_41 ?_
  refine jq_putI Γ (at_stp ho) fl_RX7_35 rfl rfl dX7_addLine_42 (fun s6 => ?_)
  refine jq_iload_n Γ dX7_addLine_45 rfl 0 rfl ?_
  exact jq_ireturn Γ dX7_addLine_46 (hK0 _)


theorem dX7_closeOne_0 : decode cX7_closeOne 0 = .ok (.aload_n 0, 1) := by decide +kernel
theorem dX7_closeOne_1 : decode cX7_closeOne 1 = .ok (.getfield 38, 3) := by decide +kernel
theorem dX7_closeOne_4 : decode cX7_closeOne 4 = .ok (.ifCond .le 50, 3) := by decide +kernel
theorem dX7_closeOne_7 : decode cX7_closeOne 7 = .ok (.aload_n 0, 1) := by decide +kernel
theorem dX7_closeOne_8 : decode cX7_closeOne 8 = .ok (.dup, 1) := by decide +kernel
theorem dX7_closeOne_9 : decode cX7_closeOne 9 = .ok (.getfield 38, 3) := by decide +kernel
theorem dX7_closeOne_12 : decode cX7_closeOne 12 = .ok (.iconst 1, 1) := by decide +kernel
theorem dX7_closeOne_13 : decode cX7_closeOne 13 = .ok (.isub, 1) := by decide +kernel
theorem dX7_closeOne_14 : decode cX7_closeOne 14 = .ok (.putfield 38, 3) := by decide +kernel
theorem dX7_closeOne_17 : decode cX7_closeOne 17 = .ok (.aload_n 0, 1) := by decide +kernel
theorem dX7_closeOne_18 : decode cX7_closeOne 18 = .ok (.bipush 26, 2) := by decide +kernel
theorem dX7_closeOne_20 : decode cX7_closeOne 20 = .ok (.invokevirtual 47, 3) := by decide +kernel
theorem dX7_closeOne_23 : decode cX7_closeOne 23 = .ok (.istore_n 1, 1) := by decide +kernel
theorem dX7_closeOne_24 : decode cX7_closeOne 24 = .ok (.aload_n 0, 1) := by decide +kernel
theorem dX7_closeOne_25 : decode cX7_closeOne 25 = .ok (.getfield 21, 3) := by decide +kernel
theorem dX7_closeOne_28 : decode cX7_closeOne 28 = .ok (.iload_n 1, 1) := by decide +kernel
theorem dX7_closeOne_29 : decode cX7_closeOne 29 = .ok (.aload_n 0, 1) := by decide +kernel
theorem dX7_closeOne_30 : decode cX7_closeOne 30 = .ok (.getfield 24, 3) := by decide +kernel
theorem dX7_closeOne_33 : decode cX7_closeOne 33 = .ok (.aload_n 0, 1) := by decide +kernel
theorem dX7_closeOne_34 : decode cX7_closeOne 34 = .ok (.getfield 38, 3) := by decide +kernel
theorem dX7_closeOne_37 : decode cX7_closeOne 37 = .ok (.iaload, 1) := by decide +kernel
theorem dX7_closeOne_38 : decode cX7_closeOne 38 = .ok (.iastore, 1) := by decide +kernel
theorem dX7_closeOne_39 : decode cX7_closeOne 39 = .ok (.aload_n 0, 1) := by decide +kernel
theorem dX7_closeOne_40 : decode cX7_closeOne 40 = .ok (.getfield 21, 3) := by decide +kernel
theorem dX7_closeOne_43 : decode cX7_closeOne 43 = .ok (.aload_n 0, 1) := by decide +kernel
theorem dX7_closeOne_44 : decode cX7_closeOne 44 = .ok (.getfield 24, 3) := by decide +kernel
theorem dX7_closeOne_47 : decode cX7_closeOne 47 = .ok (.aload_n 0, 1) := by decide +kernel
theorem dX7_closeOne_48 : decode cX7_closeOne 48 = .ok (.getfield 38, 3) := by decide +kernel
theorem dX7_closeOne_51 : decode cX7_closeOne 51 = .ok (.iaload, 1) := by decide +kernel
theorem dX7_closeOne_52 : decode cX7_closeOne 52 = .ok (.iload_n 1, 1) := by decide +kernel
theorem dX7_closeOne_53 : decode cX7_closeOne 53 = .ok (.iastore, 1) := by decide +kernel
theorem dX7_closeOne_54 : decode cX7_closeOne 54 = .ok (.return_, 1) := by decide +kernel
set_option maxHeartbeats 4000000 in
set_option maxRecDepth 100000 in
theorem ctX7_closeOne {o : Int} {σ : jq_M} {σ' : jq_M} (ho : jq_stp o) (h : X7_closeOne o σ = some σ') : jq_MC jq_zX yX7_closeOne cX7_closeOne 2 none 2 62 [jR o] σ none σ' := by
  refine jq_met (own := RX7) (L0 := [(0, jR o)]) (by decide) rfl rfl rfl ?_
  intro X Γ hnl hlY hRT
  refine jq_use2 (P := fun r => jq_RT jq_zX X none none r) ?_ h hRT
  intro K0 hK0
  unfold X7_closeOne
  refine jq_aload_n Γ dX7_closeOne_0 rfl 0 rfl (jq_at_0 (at_stp ho)) ?_
  refine jq_getI (J := 8) Γ (at_stp ho) fl_RX7_38 rfl rfl dX7_closeOne_1 ?_
  refine jq_if_le (tgt := 54) Γ dX7_closeOne_4 rfl ?_ ?_
  · exact jq_vreturn Γ dX7_closeOne_54 (hK0 _)
  · refine jq_aload_n Γ dX7_closeOne_7 rfl 0 rfl (jq_at_0 (at_stp ho)) ?_
    refine jq_dup Γ dX7_closeOne_8 rfl ?_
    refine jq_getI (J := 8) Γ (at_stp ho) fl_RX7_38 rfl rfl dX7_closeOne_9 ?_
    refine jq_iconst Γ dX7_closeOne_12 rfl ?_
    refine jq_isub Γ dX7_closeOne_13 ?_
    refine jq_putI Γ (at_stp ho) fl_RX7_38 rfl rfl dX7_closeOne_14 (fun s1 => ?_)
    refine jq_aload_n Γ dX7_closeOne_17 rfl 0 rfl (jq_at_0 (at_stp ho)) ?_
    refine jq_bipush Γ dX7_closeOne_18 rfl ?_
    refine jq_cwI (jq_virt (avs := [jI 26]) (st := []) Γ hlY rfl ml_RX7_47 rfl (at_stp ho) rfl rfl rfl rfl rfl dX7_closeOne_20) (fun r σ' h => ctX7_addLine ho h) (fun v2 s3 => ?_)
    refine jq_istore_n (L' := [(1, jI v2), (0, jR o)]) Γ dX7_closeOne_23 rfl hnl rfl rfl ?_
    refine jq_aload_n Γ dX7_closeOne_24 rfl 1 rfl (jq_at_0 (at_stp ho)) ?_
    refine jq_getR (v := (o + 4)) Γ hlY (at_stp ho) fl_RX7_21 rfl rfl (ly_X7_mates ho) dX7_closeOne_25 ?_
    refine jq_iload_n Γ dX7_closeOne_28 rfl 0 rfl ?_
    refine jq_aload_n Γ dX7_closeOne_29 rfl 1 rfl (jq_at_0 (at_stp ho)) ?_
    refine jq_getR (v := (o + 5)) Γ hlY (at_stp ho) fl_RX7_24 rfl rfl (ly_X7_open ho) dX7_closeOne_30 ?_
    refine jq_aload_n Γ dX7_closeOne_33 rfl 1 rfl (jq_at_0 (at_stp ho)) ?_
    refine jq_getI (J := 8) Γ (at_stp ho) fl_RX7_38 rfl rfl dX7_closeOne_34 ?_
    refine jq_iald Γ (at_stp_5 ho) rfl dX7_closeOne_37 (fun v4 => ?_)
    refine jq_iast Γ (at_stp_4 ho) rfl dX7_closeOne_38 (fun s5 => ?_)
    refine jq_aload_n Γ dX7_closeOne_39 rfl 1 rfl (jq_at_0 (at_stp ho)) ?_
    refine jq_getR (v := (o + 4)) Γ hlY (at_stp ho) fl_RX7_21 rfl rfl (ly_X7_mates ho) dX7_closeOne_40 ?_
    refine jq_aload_n Γ dX7_closeOne_43 rfl 1 rfl (jq_at_0 (at_stp ho)) ?_
    refine jq_getR (v := (o + 5)) Γ hlY (at_stp ho) fl_RX7_24 rfl rfl (ly_X7_open ho) dX7_closeOne_44 ?_
    refine jq_aload_n Γ dX7_closeOne_47 rfl 1 rfl (jq_at_0 (at_stp ho)) ?_
    refine jq_getI (J := 8) Γ (at_stp ho) fl_RX7_38 rfl rfl dX7_closeOne_48 ?_
    refine jq_iald Γ (at_stp_5 ho) rfl dX7_closeOne_51 (fun v6 => ?_)
    refine jq_iload_n Γ dX7_closeOne_52 rfl 0 rfl ?_
    refine jq_iast Γ (at_stp_4 ho) rfl dX7_closeOne_53 (fun s7 => ?_)
    exact jq_vreturn Γ dX7_closeOne_54 (hK0 _)


theorem dX6_readEnd_0 : decode cX6_readEnd 0 = .ok (.aload_n 1, 1) := by decide +kernel
theorem dX6_readEnd_1 : decode cX6_readEnd 1 = .ok (.getfield 57, 3) := by decide +kernel
theorem dX6_readEnd_4 : decode cX6_readEnd 4 = .ok (.ifCond .ne 9, 3) := by decide +kernel
theorem dX6_readEnd_7 : decode cX6_readEnd 7 = .ok (.aload_n 0, 1) := by decide +kernel
theorem dX6_readEnd_8 : decode cX6_readEnd 8 = .ok (.iconst 2, 1) := by decide +kernel
theorem dX6_readEnd_9 : decode cX6_readEnd 9 = .ok (.invokevirtual 60, 3) := by decide +kernel
theorem dX6_readEnd_12 : decode cX6_readEnd 12 = .ok (.return_, 1) := by decide +kernel
theorem dX6_readEnd_13 : decode cX6_readEnd 13 = .ok (.aload_n 1, 1) := by decide +kernel
theorem dX6_readEnd_14 : decode cX6_readEnd 14 = .ok (.invokevirtual 64, 3) := by decide +kernel
theorem dX6_readEnd_17 : decode cX6_readEnd 17 = .ok (.aload_n 0, 1) := by decide +kernel
theorem dX6_readEnd_18 : decode cX6_readEnd 18 = .ok (.invokevirtual 67, 3) := by decide +kernel
theorem dX6_readEnd_21 : decode cX6_readEnd 21 = .ok (.aload_n 0, 1) := by decide +kernel
theorem dX6_readEnd_22 : decode cX6_readEnd 22 = .ok (.bipush 59, 2) := by decide +kernel
theorem dX6_readEnd_24 : decode cX6_readEnd 24 = .ok (.invokevirtual 53, 3) := by decide +kernel
theorem dX6_readEnd_27 : decode cX6_readEnd 27 = .ok (.return_, 1) := by decide +kernel
set_option maxHeartbeats 4000000 in
set_option maxRecDepth 100000 in
theorem ctX6_readEnd {p1 : Int} {σ : jq_M} {σ' : jq_M} (hp1 : jq_stp p1) (h : X6_readEnd p1 σ = some σ') : jq_MC jq_zX yX6_readEnd cX6_readEnd 2 none 5 126 [jR 2, jR p1] σ none σ' := by
  refine jq_met (own := RX6) (L0 := [(0, jR 2), (1, jR p1)]) (by decide) rfl rfl rfl ?_
  intro X Γ hnl hlY hRT
  refine jq_use2 (P := fun r => jq_RT jq_zX X none none r) ?_ h hRT
  intro K0 hK0
  unfold X6_readEnd
  refine jq_aload_n Γ dX6_readEnd_0 rfl 1 rfl (jq_at_0 (at_stp hp1)) ?_
  refine jq_getI (J := 8) Γ (at_stp hp1) fl_RX6_57 rfl rfl dX6_readEnd_1 ?_
  refine jq_if_ne (tgt := 13) Γ dX6_readEnd_4 rfl ?_ ?_
  · refine jq_aload_n Γ dX6_readEnd_13 rfl 1 rfl (jq_at_0 (at_stp hp1)) ?_
    refine jq_cwV (jq_virt (avs := []) (st := []) Γ hlY rfl ml_RX6_64 rfl (at_stp hp1) rfl rfl rfl rfl rfl dX6_readEnd_14) (fun σ' h => ctX7_closeOne hp1 h) (fun s1 => ?_)
    refine jq_aload_n Γ dX6_readEnd_17 rfl 0 rfl (jq_at_0 at_X_2) ?_
    refine jq_cwV (jq_virt (avs := []) (st := []) Γ hlY rfl ml_RX6_67 rfl at_X_2 rfl rfl rfl rfl rfl dX6_readEnd_18) (fun σ' h => ctX5_next h) (fun s2 => ?_)
    refine jq_aload_n Γ dX6_readEnd_21 rfl 0 rfl (jq_at_0 at_X_2) ?_
    refine jq_bipush Γ dX6_readEnd_22 rfl ?_
    refine jq_cwV (jq_virt (avs := [jI 59]) (st := []) Γ hlY rfl ml_RX6_53 rfl at_X_2 rfl rfl rfl rfl rfl dX6_readEnd_24) (fun σ' h => ctX5_passSign h) (fun s3 => ?_)
    exact jq_vreturn Γ dX6_readEnd_27 (hK0 _)
  · refine jq_aload_n Γ dX6_readEnd_7 rfl 0 rfl (jq_at_0 at_X_2) ?_
    refine jq_iconst Γ dX6_readEnd_8 rfl ?_
    refine jq_cwV (jq_virt (avs := [jI 2]) (st := []) Γ hlY rfl ml_RX6_60 rfl at_X_2 rfl rfl rfl rfl rfl dX6_readEnd_9) (fun σ' h => ctX5_blame h) (fun s4 => ?_)
    exact jq_vreturn Γ dX6_readEnd_12 (hK0 _)


theorem dX6_isStepWord_0 : decode cX6_isStepWord 0 = .ok (.iload_n 0, 1) := by decide +kernel
theorem dX6_isStepWord_1 : decode cX6_isStepWord 1 = .ok (.bipush 13, 2) := by decide +kernel
theorem dX6_isStepWord_3 : decode cX6_isStepWord 3 = .ok (.bipush 21, 2) := by decide +kernel
theorem dX6_isStepWord_5 : decode cX6_isStepWord 5 = .ok (.invokestatic 93, 3) := by decide +kernel
theorem dX6_isStepWord_8 : decode cX6_isStepWord 8 = .ok (.ifCond .ne 15, 3) := by decide +kernel
theorem dX6_isStepWord_11 : decode cX6_isStepWord 11 = .ok (.iload_n 0, 1) := by decide +kernel
theorem dX6_isStepWord_12 : decode cX6_isStepWord 12 = .ok (.bipush 25, 2) := by decide +kernel
theorem dX6_isStepWord_14 : decode cX6_isStepWord 14 = .ok (.if_icmp .eq 9, 3) := by decide +kernel
theorem dX6_isStepWord_17 : decode cX6_isStepWord 17 = .ok (.iload_n 0, 1) := by decide +kernel
theorem dX6_isStepWord_18 : decode cX6_isStepWord 18 = .ok (.bipush 27, 2) := by decide +kernel
theorem dX6_isStepWord_20 : decode cX6_isStepWord 20 = .ok (.if_icmp .ne 7, 3) := by decide +kernel
theorem dX6_isStepWord_23 : decode cX6_isStepWord 23 = .ok (.iconst 1, 1) := by decide +kernel
theorem dX6_isStepWord_24 : decode cX6_isStepWord 24 = .ok (.goto 4, 3) := by decide +kernel
theorem dX6_isStepWord_27 : decode cX6_isStepWord 27 = .ok (.iconst 0, 1) := by decide +kernel
theorem dX6_isStepWord_28 : decode cX6_isStepWord 28 = .ok (.ireturn, 1) := by decide +kernel
set_option maxHeartbeats 4000000 in
set_option maxRecDepth 100000 in
theorem ctX6_isStepWord {p0 : Int} {σ : jq_M} {res : Int}  (h : X6_isStepWord p0 σ = some res) : jq_MC jq_zX yX6_isStepWord cX6_isStepWord 1 (some .boolean) 2 62 [jI p0] σ (some (jI res)) σ := by
  refine jq_met (own := RX6) (L0 := [(0, jI p0)]) (by decide) rfl rfl rfl ?_
  intro X Γ hnl hlY hRT
  refine jq_use2 (P := fun r => jq_RT jq_zX X (some .boolean) (some (jI r)) σ) ?_ h hRT
  intro K0 hK0
  unfold X6_isStepWord
  refine jq_iload_n Γ dX6_isStepWord_0 rfl 0 rfl ?_
  refine jq_bipush Γ dX6_isStepWord_1 rfl ?_
  refine jq_bipush Γ dX6_isStepWord_3 rfl ?_
  refine jq_cpZ (jq_nest (avs := [jI p0, jI 13, jI 21]) (st := []) Γ hlY rfl ml_RX6_93 rfl rfl rfl rfl rfl dX6_isStepWord_5) rfl (fun r h => ctX10_within h) (fun v1 hz2 => ?_)
  refine jq_if_ne (tgt := 23) Γ dX6_isStepWord_8 rfl ?_ ?_
  · refine jq_iconst Γ dX6_isStepWord_23 rfl ?_
    refine jq_goto Γ (tgt := 28) dX6_isStepWord_24 rfl ?_
    exact jq_zreturn Γ (Or.inr rfl) dX6_isStepWord_28 (hK0 _)
  · refine jq_iload_n Γ dX6_isStepWord_11 rfl 0 rfl ?_
    refine jq_bipush Γ dX6_isStepWord_12 rfl ?_
    refine jq_icmp_eq (tgt := 23) Γ dX6_isStepWord_14 rfl ?_ ?_
    · refine jq_iconst Γ dX6_isStepWord_23 rfl ?_
      refine jq_goto Γ (tgt := 28) dX6_isStepWord_24 rfl ?_
      exact jq_zreturn Γ (Or.inr rfl) dX6_isStepWord_28 (hK0 _)
    · refine jq_iload_n Γ dX6_isStepWord_17 rfl 0 rfl ?_
      refine jq_bipush Γ dX6_isStepWord_18 rfl ?_
      refine jq_icmp_ne (tgt := 27) Γ dX6_isStepWord_20 rfl ?_ ?_
      · refine jq_iconst Γ dX6_isStepWord_27 rfl ?_
        exact jq_zreturn Γ (Or.inl rfl) dX6_isStepWord_28 (hK0 _)
      · refine jq_iconst Γ dX6_isStepWord_23 rfl ?_
        refine jq_goto Γ (tgt := 28) dX6_isStepWord_24 rfl ?_
        exact jq_zreturn Γ (Or.inr rfl) dX6_isStepWord_28 (hK0 _)


theorem dX7_isFull_0 : decode cX7_isFull 0 = .ok (.aload_n 0, 1) := by decide +kernel
theorem dX7_isFull_1 : decode cX7_isFull 1 = .ok (.getfield 31, 3) := by decide +kernel
theorem dX7_isFull_4 : decode cX7_isFull 4 = .ok (.bipush 30, 2) := by decide +kernel
theorem dX7_isFull_6 : decode cX7_isFull 6 = .ok (.if_icmp .lt 7, 3) := by decide +kernel
theorem dX7_isFull_9 : decode cX7_isFull 9 = .ok (.iconst 1, 1) := by decide +kernel
theorem dX7_isFull_10 : decode cX7_isFull 10 = .ok (.goto 4, 3) := by decide +kernel
theorem dX7_isFull_13 : decode cX7_isFull 13 = .ok (.iconst 0, 1) := by decide +kernel
theorem dX7_isFull_14 : decode cX7_isFull 14 = .ok (.ireturn, 1) := by decide +kernel
set_option maxHeartbeats 4000000 in
set_option maxRecDepth 100000 in
theorem ctX7_isFull {o : Int} {σ : jq_M} {res : Int} (ho : jq_stp o) (h : X7_isFull o σ = some res) : jq_MC jq_zX yX7_isFull cX7_isFull 1 (some .boolean) 1 40 [jR o] σ (some (jI res)) σ := by
  refine jq_met (own := RX7) (L0 := [(0, jR o)]) (by decide) rfl rfl rfl ?_
  intro X Γ hnl hlY hRT
  refine jq_use2 (P := fun r => jq_RT jq_zX X (some .boolean) (some (jI r)) σ) ?_ h hRT
  intro K0 hK0
  unfold X7_isFull
  refine jq_aload_n Γ dX7_isFull_0 rfl 0 rfl (jq_at_0 (at_stp ho)) ?_
  refine jq_getI (J := 1) Γ (at_stp ho) fl_RX7_31 rfl rfl dX7_isFull_1 ?_
  refine jq_bipush Γ dX7_isFull_4 rfl ?_
  refine jq_icmp_lt (tgt := 13) Γ dX7_isFull_6 rfl ?_ ?_
  · refine jq_iconst Γ dX7_isFull_13 rfl ?_
    exact jq_zreturn Γ (Or.inl rfl) dX7_isFull_14 (hK0 _)
  · refine jq_iconst Γ dX7_isFull_9 rfl ?_
    refine jq_goto Γ (tgt := 14) dX7_isFull_10 rfl ?_
    exact jq_zreturn Γ (Or.inr rfl) dX7_isFull_14 (hK0 _)


theorem dX6_opens_0 : decode cX6_opens 0 = .ok (.iload_n 0, 1) := by decide +kernel
theorem dX6_opens_1 : decode cX6_opens 1 = .ok (.bipush 21, 2) := by decide +kernel
theorem dX6_opens_3 : decode cX6_opens 3 = .ok (.if_icmp .eq 9, 3) := by decide +kernel
theorem dX6_opens_6 : decode cX6_opens 6 = .ok (.iload_n 0, 1) := by decide +kernel
theorem dX6_opens_7 : decode cX6_opens 7 = .ok (.bipush 25, 2) := by decide +kernel
theorem dX6_opens_9 : decode cX6_opens 9 = .ok (.if_icmp .ne 7, 3) := by decide +kernel
theorem dX6_opens_12 : decode cX6_opens 12 = .ok (.iconst 1, 1) := by decide +kernel
theorem dX6_opens_13 : decode cX6_opens 13 = .ok (.goto 4, 3) := by decide +kernel
theorem dX6_opens_16 : decode cX6_opens 16 = .ok (.iconst 0, 1) := by decide +kernel
theorem dX6_opens_17 : decode cX6_opens 17 = .ok (.ireturn, 1) := by decide +kernel
set_option maxHeartbeats 4000000 in
set_option maxRecDepth 100000 in
theorem ctX6_opens {p0 : Int} {σ : jq_M} {res : Int}  (h : X6_opens p0 σ = some res) : jq_MC jq_zX yX6_opens cX6_opens 1 (some .boolean) 1 40 [jI p0] σ (some (jI res)) σ := by
  refine jq_met (own := RX6) (L0 := [(0, jI p0)]) (by decide) rfl rfl rfl ?_
  intro X Γ hnl hlY hRT
  refine jq_use2 (P := fun r => jq_RT jq_zX X (some .boolean) (some (jI r)) σ) ?_ h hRT
  intro K0 hK0
  unfold X6_opens
  refine jq_iload_n Γ dX6_opens_0 rfl 0 rfl ?_
  refine jq_bipush Γ dX6_opens_1 rfl ?_
  refine jq_icmp_eq (tgt := 12) Γ dX6_opens_3 rfl ?_ ?_
  · refine jq_iconst Γ dX6_opens_12 rfl ?_
    refine jq_goto Γ (tgt := 17) dX6_opens_13 rfl ?_
    exact jq_zreturn Γ (Or.inr rfl) dX6_opens_17 (hK0 _)
  · refine jq_iload_n Γ dX6_opens_6 rfl 0 rfl ?_
    refine jq_bipush Γ dX6_opens_7 rfl ?_
    refine jq_icmp_ne (tgt := 16) Γ dX6_opens_9 rfl ?_ ?_
    · refine jq_iconst Γ dX6_opens_16 rfl ?_
      exact jq_zreturn Γ (Or.inl rfl) dX6_opens_17 (hK0 _)
    · refine jq_iconst Γ dX6_opens_12 rfl ?_
      refine jq_goto Γ (tgt := 17) dX6_opens_13 rfl ?_
      exact jq_zreturn Γ (Or.inr rfl) dX6_opens_17 (hK0 _)


theorem dX7_isDeep_0 : decode cX7_isDeep 0 = .ok (.aload_n 0, 1) := by decide +kernel
theorem dX7_isDeep_1 : decode cX7_isDeep 1 = .ok (.getfield 38, 3) := by decide +kernel
theorem dX7_isDeep_4 : decode cX7_isDeep 4 = .ok (.iconst 3, 1) := by decide +kernel
theorem dX7_isDeep_5 : decode cX7_isDeep 5 = .ok (.if_icmp .lt 7, 3) := by decide +kernel
theorem dX7_isDeep_8 : decode cX7_isDeep 8 = .ok (.iconst 1, 1) := by decide +kernel
theorem dX7_isDeep_9 : decode cX7_isDeep 9 = .ok (.goto 4, 3) := by decide +kernel
theorem dX7_isDeep_12 : decode cX7_isDeep 12 = .ok (.iconst 0, 1) := by decide +kernel
theorem dX7_isDeep_13 : decode cX7_isDeep 13 = .ok (.ireturn, 1) := by decide +kernel
set_option maxHeartbeats 4000000 in
set_option maxRecDepth 100000 in
theorem ctX7_isDeep {o : Int} {σ : jq_M} {res : Int} (ho : jq_stp o) (h : X7_isDeep o σ = some res) : jq_MC jq_zX yX7_isDeep cX7_isDeep 1 (some .boolean) 1 40 [jR o] σ (some (jI res)) σ := by
  refine jq_met (own := RX7) (L0 := [(0, jR o)]) (by decide) rfl rfl rfl ?_
  intro X Γ hnl hlY hRT
  refine jq_use2 (P := fun r => jq_RT jq_zX X (some .boolean) (some (jI r)) σ) ?_ h hRT
  intro K0 hK0
  unfold X7_isDeep
  refine jq_aload_n Γ dX7_isDeep_0 rfl 0 rfl (jq_at_0 (at_stp ho)) ?_
  refine jq_getI (J := 8) Γ (at_stp ho) fl_RX7_38 rfl rfl dX7_isDeep_1 ?_
  refine jq_iconst Γ dX7_isDeep_4 rfl ?_
  refine jq_icmp_lt (tgt := 12) Γ dX7_isDeep_5 rfl ?_ ?_
  · refine jq_iconst Γ dX7_isDeep_12 rfl ?_
    exact jq_zreturn Γ (Or.inl rfl) dX7_isDeep_13 (hK0 _)
  · refine jq_iconst Γ dX7_isDeep_8 rfl ?_
    refine jq_goto Γ (tgt := 13) dX7_isDeep_9 rfl ?_
    exact jq_zreturn Γ (Or.inr rfl) dX7_isDeep_13 (hK0 _)


theorem dX6_mayBegin_0 : decode cX6_mayBegin 0 = .ok (.aload_n 0, 1) := by decide +kernel
theorem dX6_mayBegin_1 : decode cX6_mayBegin 1 = .ok (.getfield 24, 3) := by decide +kernel
theorem dX6_mayBegin_4 : decode cX6_mayBegin 4 = .ok (.invokestatic 70, 3) := by decide +kernel
theorem dX6_mayBegin_7 : decode cX6_mayBegin 7 = .ok (.ifCond .ne 11, 3) := by decide +kernel
theorem dX6_mayBegin_10 : decode cX6_mayBegin 10 = .ok (.aload_n 0, 1) := by decide +kernel
theorem dX6_mayBegin_11 : decode cX6_mayBegin 11 = .ok (.iconst 2, 1) := by decide +kernel
theorem dX6_mayBegin_12 : decode cX6_mayBegin 12 = .ok (.invokevirtual 60, 3) := by decide +kernel
theorem dX6_mayBegin_15 : decode cX6_mayBegin 15 = .ok (.goto 42, 3) := by decide +kernel
theorem dX6_mayBegin_18 : decode cX6_mayBegin 18 = .ok (.aload_n 1, 1) := by decide +kernel
theorem dX6_mayBegin_19 : decode cX6_mayBegin 19 = .ok (.invokevirtual 74, 3) := by decide +kernel
theorem dX6_mayBegin_22 : decode cX6_mayBegin 22 = .ok (.ifCond .eq 12, 3) := by decide +kernel
theorem dX6_mayBegin_25 : decode cX6_mayBegin 25 = .ok (.aload_n 0, 1) := by decide +kernel
theorem dX6_mayBegin_26 : decode cX6_mayBegin 26 = .ok (.bipush 6, 2) := by decide +kernel
theorem dX6_mayBegin_28 : decode cX6_mayBegin 28 = .ok (.invokevirtual 60, 3) := by decide +kernel
theorem dX6_mayBegin_31 : decode cX6_mayBegin 31 = .ok (.goto 26, 3) := by decide +kernel
theorem dX6_mayBegin_34 : decode cX6_mayBegin 34 = .ok (.aload_n 0, 1) := by decide +kernel
theorem dX6_mayBegin_35 : decode cX6_mayBegin 35 = .ok (.getfield 24, 3) := by decide +kernel
theorem dX6_mayBegin_38 : decode cX6_mayBegin 38 = .ok (.invokestatic 77, 3) := by decide +kernel
theorem dX6_mayBegin_41 : decode cX6_mayBegin 41 = .ok (.ifCond .eq 16, 3) := by decide +kernel
theorem dX6_mayBegin_44 : decode cX6_mayBegin 44 = .ok (.aload_n 1, 1) := by decide +kernel
theorem dX6_mayBegin_45 : decode cX6_mayBegin 45 = .ok (.invokevirtual 80, 3) := by decide +kernel
theorem dX6_mayBegin_48 : decode cX6_mayBegin 48 = .ok (.ifCond .eq 9, 3) := by decide +kernel
theorem dX6_mayBegin_51 : decode cX6_mayBegin 51 = .ok (.aload_n 0, 1) := by decide +kernel
theorem dX6_mayBegin_52 : decode cX6_mayBegin 52 = .ok (.bipush 7, 2) := by decide +kernel
theorem dX6_mayBegin_54 : decode cX6_mayBegin 54 = .ok (.invokevirtual 60, 3) := by decide +kernel
theorem dX6_mayBegin_57 : decode cX6_mayBegin 57 = .ok (.aload_n 0, 1) := by decide +kernel
theorem dX6_mayBegin_58 : decode cX6_mayBegin 58 = .ok (.invokevirtual 83, 3) := by decide +kernel
theorem dX6_mayBegin_61 : decode cX6_mayBegin 61 = .ok (.ifCond .ne 7, 3) := by decide +kernel
theorem dX6_mayBegin_64 : decode cX6_mayBegin 64 = .ok (.iconst 1, 1) := by decide +kernel
theorem dX6_mayBegin_65 : decode cX6_mayBegin 65 = .ok (.goto 4, 3) := by decide +kernel
theorem dX6_mayBegin_68 : decode cX6_mayBegin 68 = .ok (.iconst 0, 1) := by decide +kernel
theorem dX6_mayBegin_69 : decode cX6_mayBegin 69 = .ok (.ireturn, 1) := by decide +kernel
set_option maxHeartbeats 4000000 in
set_option maxRecDepth 100000 in
theorem ctX6_mayBegin {p1 : Int} {σ : jq_M} {res : Int} {σ' : jq_M} (hp1 : jq_stp p1) (h : X6_mayBegin p1 σ = some (res, σ')) : jq_MC jq_zX yX6_mayBegin cX6_mayBegin 2 (some .boolean) 3 82 [jR 2, jR p1] σ (some (jI res)) σ' := by
  refine jq_met (own := RX6) (L0 := [(0, jR 2), (1, jR p1)]) (by decide) rfl rfl rfl ?_
  intro X Γ hnl hlY hRT
  refine jq_use2 (P := fun r => jq_RT jq_zX X (some .boolean) (some (jI r.1)) r.2) ?_ h hRT
  intro K0 hK0
  unfold X6_mayBegin
  have hj57_0 : ∀ (s7 : jq_M), jq_J (X6_mayBegin_j57 s7) K0 (jq_V jq_zX X (jq_zN jq_zX) s7 57 [(0, jR 2)] []) := by
    intro s7
    unfold X6_mayBegin_j57
    refine jq_aload_n Γ dX6_mayBegin_57 rfl 0 rfl (jq_at_0 at_X_2) ?_
    refine jq_cpZ (jq_virt (avs := []) (st := []) Γ hlY rfl ml_RX6_83 rfl at_X_2 rfl rfl rfl rfl rfl dX6_mayBegin_58) rfl (fun r h => ctX5_hasFault h) (fun v8 hz9 => ?_)
    refine jq_if_ne (tgt := 68) Γ dX6_mayBegin_61 rfl ?_ ?_
    · refine jq_iconst Γ dX6_mayBegin_68 rfl ?_
      exact jq_zreturn Γ (Or.inl rfl) dX6_mayBegin_69 (hK0 _)
    · refine jq_iconst Γ dX6_mayBegin_64 rfl ?_
      refine jq_goto Γ (tgt := 69) dX6_mayBegin_65 rfl ?_
      exact jq_zreturn Γ (Or.inr rfl) dX6_mayBegin_69 (hK0 _)
  refine jq_aload_n Γ dX6_mayBegin_0 rfl 0 rfl (jq_at_0 at_X_2) ?_
  refine jq_getI (J := 11) Γ at_X_2 fl_RX6_24 rfl rfl dX6_mayBegin_1 ?_
  refine jq_cpZ (jq_stat (avs := [jI (σ 2 11)]) (st := []) Γ hlY rfl ml_RX6_70 rfl rfl rfl rfl rfl dX6_mayBegin_4) rfl (fun r h => ctX6_isStepWord h) (fun v1 hz2 => ?_)
  refine jq_if_ne (tgt := 18) Γ dX6_mayBegin_7 rfl ?_ ?_
  · refine jq_aload_n Γ dX6_mayBegin_18 rfl 1 rfl (jq_at_0 (at_stp hp1)) ?_
    refine jq_cpZ (jq_virt (avs := []) (st := []) Γ hlY rfl ml_RX6_74 rfl (at_stp hp1) rfl rfl rfl rfl rfl dX6_mayBegin_19) rfl (fun r h => ctX7_isFull hp1 h) (fun v3 hz4 => ?_)
    refine jq_if_eq (tgt := 34) Γ dX6_mayBegin_22 rfl ?_ ?_
    · refine jq_aload_n Γ dX6_mayBegin_34 rfl 0 rfl (jq_at_0 at_X_2) ?_
      refine jq_getI (J := 11) Γ at_X_2 fl_RX6_24 rfl rfl dX6_mayBegin_35 ?_
      refine jq_cpZ (jq_stat (avs := [jI (σ 2 11)]) (st := []) Γ hlY rfl ml_RX6_77 rfl rfl rfl rfl rfl dX6_mayBegin_38) rfl (fun r h => ctX6_opens h) (fun v5 hz6 => ?_)
      refine jq_if_eq (tgt := 57) Γ dX6_mayBegin_41 rfl ?_ ?_
      · refine jq_sub Γ (L' := [(0, jR 2)]) [0] rfl ?_
        exact hj57_0 σ
      · refine jq_aload_n Γ dX6_mayBegin_44 rfl 1 rfl (jq_at_0 (at_stp hp1)) ?_
        refine jq_cpZ (jq_virt (avs := []) (st := []) Γ hlY rfl ml_RX6_80 rfl (at_stp hp1) rfl rfl rfl rfl rfl dX6_mayBegin_45) rfl (fun r h => ctX7_isDeep hp1 h) (fun v10 hz11 => ?_)
        refine jq_if_eq (tgt := 57) Γ dX6_mayBegin_48 rfl ?_ ?_
        · refine jq_sub Γ (L' := [(0, jR 2)]) [0] rfl ?_
          exact hj57_0 σ
        · refine jq_aload_n Γ dX6_mayBegin_51 rfl 0 rfl (jq_at_0 at_X_2) ?_
          refine jq_bipush Γ dX6_mayBegin_52 rfl ?_
          refine jq_cwV (jq_virt (avs := [jI 7]) (st := []) Γ hlY rfl ml_RX6_60 rfl at_X_2 rfl rfl rfl rfl rfl dX6_mayBegin_54) (fun σ' h => ctX5_blame h) (fun s12 => ?_)
          refine jq_sub Γ (L' := [(0, jR 2)]) [0] rfl ?_
          exact hj57_0 s12
    · refine jq_aload_n Γ dX6_mayBegin_25 rfl 0 rfl (jq_at_0 at_X_2) ?_
      refine jq_bipush Γ dX6_mayBegin_26 rfl ?_
      refine jq_cwV (jq_virt (avs := [jI 6]) (st := []) Γ hlY rfl ml_RX6_60 rfl at_X_2 rfl rfl rfl rfl rfl dX6_mayBegin_28) (fun σ' h => ctX5_blame h) (fun s13 => ?_)
      refine jq_goto Γ (tgt := 57) dX6_mayBegin_31 rfl ?_
      refine jq_sub Γ (L' := [(0, jR 2)]) [0] rfl ?_
      exact hj57_0 s13
  · refine jq_aload_n Γ dX6_mayBegin_10 rfl 0 rfl (jq_at_0 at_X_2) ?_
    refine jq_iconst Γ dX6_mayBegin_11 rfl ?_
    refine jq_cwV (jq_virt (avs := [jI 2]) (st := []) Γ hlY rfl ml_RX6_60 rfl at_X_2 rfl rfl rfl rfl rfl dX6_mayBegin_12) (fun σ' h => ctX5_blame h) (fun s14 => ?_)
    refine jq_goto Γ (tgt := 57) dX6_mayBegin_15 rfl ?_
    refine jq_sub Γ (L' := [(0, jR 2)]) [0] rfl ?_
    exact hj57_0 s14


theorem dX7_addStep_0 : decode cX7_addStep 0 = .ok (.aload_n 0, 1) := by decide +kernel
theorem dX7_addStep_1 : decode cX7_addStep 1 = .ok (.dup, 1) := by decide +kernel
theorem dX7_addStep_2 : decode cX7_addStep 2 = .ok (.getfield 31, 3) := by decide +kernel
theorem dX7_addStep_5 : decode cX7_addStep 5 = .ok (.iconst 1, 1) := by decide +kernel
theorem dX7_addStep_6 : decode cX7_addStep 6 = .ok (.iadd, 1) := by decide +kernel
theorem dX7_addStep_7 : decode cX7_addStep 7 = .ok (.putfield 31, 3) := by decide +kernel
theorem dX7_addStep_10 : decode cX7_addStep 10 = .ok (.aload_n 0, 1) := by decide +kernel
theorem dX7_addStep_11 : decode cX7_addStep 11 = .ok (.iload_n 1, 1) := by decide +kernel
theorem dX7_addStep_12 : decode cX7_addStep 12 = .ok (.invokevirtual 47, 3) := by decide +kernel
theorem dX7_addStep_15 : decode cX7_addStep 15 = .ok (.ireturn, 1) := by decide +kernel
set_option maxHeartbeats 4000000 in
set_option maxRecDepth 100000 in
theorem ctX7_addStep {o : Int} {p1 : Int} {σ : jq_M} {res : Int} {σ' : jq_M} (ho : jq_stp o) (h : X7_addStep o p1 σ = some (res, σ')) : jq_MC jq_zX yX7_addStep cX7_addStep 2 (some .int) 2 62 [jR o, jI p1] σ (some (jI res)) σ' := by
  refine jq_met (own := RX7) (L0 := [(0, jR o), (1, jI p1)]) (by decide) rfl rfl rfl ?_
  intro X Γ hnl hlY hRT
  refine jq_use2 (P := fun r => jq_RT jq_zX X (some .int) (some (jI r.1)) r.2) ?_ h hRT
  intro K0 hK0
  unfold X7_addStep
  refine jq_aload_n Γ dX7_addStep_0 rfl 0 rfl (jq_at_0 (at_stp ho)) ?_
  refine jq_dup Γ dX7_addStep_1 rfl ?_
  refine jq_getI (J := 1) Γ (at_stp ho) fl_RX7_31 rfl rfl dX7_addStep_2 ?_
  refine jq_iconst Γ dX7_addStep_5 rfl ?_
  refine jq_iadd Γ dX7_addStep_6 ?_
  refine jq_putI Γ (at_stp ho) fl_RX7_31 rfl rfl dX7_addStep_7 (fun s1 => ?_)
  refine jq_aload_n Γ dX7_addStep_10 rfl 0 rfl (jq_at_0 (at_stp ho)) ?_
  refine jq_iload_n Γ dX7_addStep_11 rfl 1 rfl ?_
  refine jq_cwI (jq_virt (avs := [jI p1]) (st := []) Γ hlY rfl ml_RX7_47 rfl (at_stp ho) rfl rfl rfl rfl rfl dX7_addStep_12) (fun r σ' h => ctX7_addLine ho h) (fun v2 s3 => ?_)
  exact jq_ireturn Γ dX7_addStep_15 (hK0 _)


theorem dX7_openAt_0 : decode cX7_openAt 0 = .ok (.aload_n 0, 1) := by decide +kernel
theorem dX7_openAt_1 : decode cX7_openAt 1 = .ok (.getfield 38, 3) := by decide +kernel
theorem dX7_openAt_4 : decode cX7_openAt 4 = .ok (.iconst 3, 1) := by decide +kernel
theorem dX7_openAt_5 : decode cX7_openAt 5 = .ok (.if_icmp .ge 23, 3) := by decide +kernel
theorem dX7_openAt_8 : decode cX7_openAt 8 = .ok (.aload_n 0, 1) := by decide +kernel
theorem dX7_openAt_9 : decode cX7_openAt 9 = .ok (.getfield 24, 3) := by decide +kernel
theorem dX7_openAt_12 : decode cX7_openAt 12 = .ok (.aload_n 0, 1) := by decide +kernel
theorem dX7_openAt_13 : decode cX7_openAt 13 = .ok (.getfield 38, 3) := by decide +kernel
theorem dX7_openAt_16 : decode cX7_openAt 16 = .ok (.iload_n 1, 1) := by decide +kernel
theorem dX7_openAt_17 : decode cX7_openAt 17 = .ok (.iastore, 1) := by decide +kernel
theorem dX7_openAt_18 : decode cX7_openAt 18 = .ok (.aload_n 0, 1) := by decide +kernel
theorem dX7_openAt_19 : decode cX7_openAt 19 = .ok (.dup, 1) := by decide +kernel
theorem dX7_openAt_20 : decode cX7_openAt 20 = .ok (.getfield 38, 3) := by decide +kernel
theorem dX7_openAt_23 : decode cX7_openAt 23 = .ok (.iconst 1, 1) := by decide +kernel
theorem dX7_openAt_24 : decode cX7_openAt 24 = .ok (.iadd, 1) := by decide +kernel
theorem dX7_openAt_25 : decode cX7_openAt 25 = .ok (.putfield 38, 3) := by decide +kernel
theorem dX7_openAt_28 : decode cX7_openAt 28 = .ok (.return_, 1) := by decide +kernel
set_option maxHeartbeats 4000000 in
set_option maxRecDepth 100000 in
theorem ctX7_openAt {o : Int} {p1 : Int} {σ : jq_M} {σ' : jq_M} (ho : jq_stp o) (h : X7_openAt o p1 σ = some σ') : jq_MC jq_zX yX7_openAt cX7_openAt 2 none 1 40 [jR o, jI p1] σ none σ' := by
  refine jq_met (own := RX7) (L0 := [(0, jR o), (1, jI p1)]) (by decide) rfl rfl rfl ?_
  intro X Γ hnl hlY hRT
  refine jq_use2 (P := fun r => jq_RT jq_zX X none none r) ?_ h hRT
  intro K0 hK0
  unfold X7_openAt
  refine jq_aload_n Γ dX7_openAt_0 rfl 0 rfl (jq_at_0 (at_stp ho)) ?_
  refine jq_getI (J := 8) Γ (at_stp ho) fl_RX7_38 rfl rfl dX7_openAt_1 ?_
  refine jq_iconst Γ dX7_openAt_4 rfl ?_
  refine jq_icmp_ge (tgt := 28) Γ dX7_openAt_5 rfl ?_ ?_
  · exact jq_vreturn Γ dX7_openAt_28 (hK0 _)
  · refine jq_aload_n Γ dX7_openAt_8 rfl 0 rfl (jq_at_0 (at_stp ho)) ?_
    refine jq_getR (v := (o + 5)) Γ hlY (at_stp ho) fl_RX7_24 rfl rfl (ly_X7_open ho) dX7_openAt_9 ?_
    refine jq_aload_n Γ dX7_openAt_12 rfl 0 rfl (jq_at_0 (at_stp ho)) ?_
    refine jq_getI (J := 8) Γ (at_stp ho) fl_RX7_38 rfl rfl dX7_openAt_13 ?_
    refine jq_iload_n Γ dX7_openAt_16 rfl 1 rfl ?_
    refine jq_iast Γ (at_stp_5 ho) rfl dX7_openAt_17 (fun s1 => ?_)
    refine jq_aload_n Γ dX7_openAt_18 rfl 0 rfl (jq_at_0 (at_stp ho)) ?_
    refine jq_dup Γ dX7_openAt_19 rfl ?_
    refine jq_getI (J := 8) Γ (at_stp ho) fl_RX7_38 rfl rfl dX7_openAt_20 ?_
    refine jq_iconst Γ dX7_openAt_23 rfl ?_
    refine jq_iadd Γ dX7_openAt_24 ?_
    refine jq_putI Γ (at_stp ho) fl_RX7_38 rfl rfl dX7_openAt_25 (fun s2 => ?_)
    exact jq_vreturn Γ dX7_openAt_28 (hK0 _)


theorem dX6_beginStep_0 : decode cX6_beginStep 0 = .ok (.aload_n 1, 1) := by decide +kernel
theorem dX6_beginStep_1 : decode cX6_beginStep 1 = .ok (.aload_n 0, 1) := by decide +kernel
theorem dX6_beginStep_2 : decode cX6_beginStep 2 = .ok (.getfield 24, 3) := by decide +kernel
theorem dX6_beginStep_5 : decode cX6_beginStep 5 = .ok (.invokevirtual 86, 3) := by decide +kernel
theorem dX6_beginStep_8 : decode cX6_beginStep 8 = .ok (.istore_n 2, 1) := by decide +kernel
theorem dX6_beginStep_9 : decode cX6_beginStep 9 = .ok (.aload_n 0, 1) := by decide +kernel
theorem dX6_beginStep_10 : decode cX6_beginStep 10 = .ok (.getfield 24, 3) := by decide +kernel
theorem dX6_beginStep_13 : decode cX6_beginStep 13 = .ok (.invokestatic 77, 3) := by decide +kernel
theorem dX6_beginStep_16 : decode cX6_beginStep 16 = .ok (.ifCond .eq 8, 3) := by decide +kernel
theorem dX6_beginStep_19 : decode cX6_beginStep 19 = .ok (.aload_n 1, 1) := by decide +kernel
theorem dX6_beginStep_20 : decode cX6_beginStep 20 = .ok (.iload_n 2, 1) := by decide +kernel
theorem dX6_beginStep_21 : decode cX6_beginStep 21 = .ok (.invokevirtual 90, 3) := by decide +kernel
theorem dX6_beginStep_24 : decode cX6_beginStep 24 = .ok (.aload_n 0, 1) := by decide +kernel
theorem dX6_beginStep_25 : decode cX6_beginStep 25 = .ok (.invokevirtual 67, 3) := by decide +kernel
theorem dX6_beginStep_28 : decode cX6_beginStep 28 = .ok (.iload_n 2, 1) := by decide +kernel
theorem dX6_beginStep_29 : decode cX6_beginStep 29 = .ok (.ireturn, 1) := by decide +kernel
set_option maxHeartbeats 4000000 in
set_option maxRecDepth 100000 in
theorem ctX6_beginStep {p1 : Int} {σ : jq_M} {res : Int} {σ' : jq_M} (hp1 : jq_stp p1) (h : X6_beginStep p1 σ = some (res, σ')) : jq_MC jq_zX yX6_beginStep cX6_beginStep 3 (some .int) 4 105 [jR 2, jR p1] σ (some (jI res)) σ' := by
  refine jq_met (own := RX6) (L0 := [(0, jR 2), (1, jR p1)]) (by decide) rfl rfl rfl ?_
  intro X Γ hnl hlY hRT
  refine jq_use2 (P := fun r => jq_RT jq_zX X (some .int) (some (jI r.1)) r.2) ?_ h hRT
  intro K0 hK0
  unfold X6_beginStep
  have hj24_0 : ∀ (j5 : Int) (s6 : jq_M), jq_J (X6_beginStep_j24 j5 s6) K0 (jq_V jq_zX X (jq_zN jq_zX) s6 24 [(0, jR 2), (2, jI j5)] []) := by
    intro j5 s6
    unfold X6_beginStep_j24
    refine jq_aload_n Γ dX6_beginStep_24 rfl 0 rfl (jq_at_0 at_X_2) ?_
    refine jq_cwV (jq_virt (avs := []) (st := []) Γ hlY rfl ml_RX6_67 rfl at_X_2 rfl rfl rfl rfl rfl dX6_beginStep_25) (fun σ' h => ctX5_next h) (fun s7 => ?_)
    refine jq_iload_n Γ dX6_beginStep_28 rfl 1 rfl ?_
    exact jq_ireturn Γ dX6_beginStep_29 (hK0 _)
  refine jq_aload_n Γ dX6_beginStep_0 rfl 1 rfl (jq_at_0 (at_stp hp1)) ?_
  refine jq_aload_n Γ dX6_beginStep_1 rfl 0 rfl (jq_at_0 at_X_2) ?_
  refine jq_getI (J := 11) Γ at_X_2 fl_RX6_24 rfl rfl dX6_beginStep_2 ?_
  refine jq_cwI (jq_virt (avs := [jI (σ 2 11)]) (st := []) Γ hlY rfl ml_RX6_86 rfl (at_stp hp1) rfl rfl rfl rfl rfl dX6_beginStep_5) (fun r σ' h => ctX7_addStep hp1 h) (fun v1 s2 => ?_)
  refine jq_istore_n (L' := [(2, jI v1), (0, jR 2), (1, jR p1)]) Γ dX6_beginStep_8 rfl hnl rfl rfl ?_
  refine jq_aload_n Γ dX6_beginStep_9 rfl 1 rfl (jq_at_0 at_X_2) ?_
  refine jq_getI (J := 11) Γ at_X_2 fl_RX6_24 rfl rfl dX6_beginStep_10 ?_
  refine jq_cpZ (jq_stat (avs := [jI (s2 2 11)]) (st := []) Γ hlY rfl ml_RX6_77 rfl rfl rfl rfl rfl dX6_beginStep_13) rfl (fun r h => ctX6_opens h) (fun v3 hz4 => ?_)
  refine jq_if_eq (tgt := 24) Γ dX6_beginStep_16 rfl ?_ ?_
  · refine jq_sub Γ (L' := [(0, jR 2), (2, jI v1)]) [1, 0] rfl ?_
    exact hj24_0 v1 s2
  · refine jq_aload_n Γ dX6_beginStep_19 rfl 2 rfl (jq_at_0 (at_stp hp1)) ?_
    refine jq_iload_n Γ dX6_beginStep_20 rfl 0 rfl ?_
    refine jq_cwV (jq_virt (avs := [jI v1]) (st := []) Γ hlY rfl ml_RX6_90 rfl (at_stp hp1) rfl rfl rfl rfl rfl dX6_beginStep_21) (fun σ' h => ctX7_openAt hp1 h) (fun s8 => ?_)
    refine jq_sub Γ (L' := [(0, jR 2), (2, jI v1)]) [1, 0] rfl ?_
    exact hj24_0 v1 s8


theorem dX5_takeCompares_0 : decode cX5_takeCompares 0 = .ok (.aload_n 0, 1) := by decide +kernel
theorem dX5_takeCompares_1 : decode cX5_takeCompares 1 = .ok (.bipush 60, 2) := by decide +kernel
theorem dX5_takeCompares_3 : decode cX5_takeCompares 3 = .ok (.invokevirtual 103, 3) := by decide +kernel
theorem dX5_takeCompares_6 : decode cX5_takeCompares 6 = .ok (.ifCond .ne 26, 3) := by decide +kernel
theorem dX5_takeCompares_9 : decode cX5_takeCompares 9 = .ok (.aload_n 0, 1) := by decide +kernel
theorem dX5_takeCompares_10 : decode cX5_takeCompares 10 = .ok (.bipush 62, 2) := by decide +kernel
theorem dX5_takeCompares_12 : decode cX5_takeCompares 12 = .ok (.invokevirtual 103, 3) := by decide +kernel
theorem dX5_takeCompares_15 : decode cX5_takeCompares 15 = .ok (.ifCond .ne 17, 3) := by decide +kernel
theorem dX5_takeCompares_18 : decode cX5_takeCompares 18 = .ok (.aload_n 0, 1) := by decide +kernel
theorem dX5_takeCompares_19 : decode cX5_takeCompares 19 = .ok (.bipush 61, 2) := by decide +kernel
theorem dX5_takeCompares_21 : decode cX5_takeCompares 21 = .ok (.invokevirtual 103, 3) := by decide +kernel
theorem dX5_takeCompares_24 : decode cX5_takeCompares 24 = .ok (.ifCond .ne 8, 3) := by decide +kernel
theorem dX5_takeCompares_27 : decode cX5_takeCompares 27 = .ok (.aload_n 0, 1) := by decide +kernel
theorem dX5_takeCompares_28 : decode cX5_takeCompares 28 = .ok (.iconst 2, 1) := by decide +kernel
theorem dX5_takeCompares_29 : decode cX5_takeCompares 29 = .ok (.invokevirtual 107, 3) := by decide +kernel
theorem dX5_takeCompares_32 : decode cX5_takeCompares 32 = .ok (.aload_n 0, 1) := by decide +kernel
theorem dX5_takeCompares_33 : decode cX5_takeCompares 33 = .ok (.getfield 100, 3) := by decide +kernel
theorem dX5_takeCompares_36 : decode cX5_takeCompares 36 = .ok (.istore_n 1, 1) := by decide +kernel
theorem dX5_takeCompares_37 : decode cX5_takeCompares 37 = .ok (.aload_n 0, 1) := by decide +kernel
theorem dX5_takeCompares_38 : decode cX5_takeCompares 38 = .ok (.invokevirtual 58, 3) := by decide +kernel
theorem dX5_takeCompares_41 : decode cX5_takeCompares 41 = .ok (.iload_n 1, 1) := by decide +kernel
theorem dX5_takeCompares_42 : decode cX5_takeCompares 42 = .ok (.ireturn, 1) := by decide +kernel
set_option maxHeartbeats 4000000 in
set_option maxRecDepth 100000 in
theorem ctX5_takeCompares  {σ : jq_M} {res : Int} {σ' : jq_M}  (h : X5_takeCompares σ = some (res, σ')) : jq_MC jq_zX yX5_takeCompares cX5_takeCompares 2 (some .int) 4 105 [jR 2] σ (some (jI res)) σ' := by
  refine jq_met (own := RX5) (L0 := [(0, jR 2)]) (by decide) rfl rfl rfl ?_
  intro X Γ hnl hlY hRT
  refine jq_use2 (P := fun r => jq_RT jq_zX X (some .int) (some (jI r.1)) r.2) ?_ h hRT
  intro K0 hK0
  unfold X5_takeCompares
  have hj32_0 : ∀ (s3 : jq_M), jq_J (X5_takeCompares_j32 s3) K0 (jq_V jq_zX X (jq_zN jq_zX) s3 32 [(0, jR 2)] []) := by
    intro s3
    unfold X5_takeCompares_j32
    refine jq_aload_n Γ dX5_takeCompares_32 rfl 0 rfl (jq_at_0 at_X_2) ?_
    refine jq_getI (J := 8) Γ at_X_2 fl_RX5_100 rfl rfl dX5_takeCompares_33 ?_
    refine jq_nmI (fun v4 => ?_)
    refine jq_istore_n (L' := [(1, jI v4), (0, jR 2)]) Γ dX5_takeCompares_36 rfl hnl rfl rfl ?_
    refine jq_aload_n Γ dX5_takeCompares_37 rfl 1 rfl (jq_at_0 at_X_2) ?_
    refine jq_cwV (jq_virt (avs := []) (st := []) Γ hlY rfl ml_RX5_58 rfl at_X_2 rfl rfl rfl rfl rfl dX5_takeCompares_38) (fun σ' h => ctX5_next h) (fun s5 => ?_)
    refine jq_iload_n Γ dX5_takeCompares_41 rfl 0 rfl ?_
    exact jq_ireturn Γ dX5_takeCompares_42 (hK0 _)
  refine jq_aload_n Γ dX5_takeCompares_0 rfl 0 rfl (jq_at_0 at_X_2) ?_
  refine jq_bipush Γ dX5_takeCompares_1 rfl ?_
  refine jq_cpZ (jq_virt (avs := [jI 60]) (st := []) Γ hlY rfl ml_RX5_103 rfl at_X_2 rfl rfl rfl rfl rfl dX5_takeCompares_3) rfl (fun r h => ctX5_isSign h) (fun v1 hz2 => ?_)
  refine jq_if_ne (tgt := 32) Γ dX5_takeCompares_6 rfl ?_ ?_
  · exact hj32_0 σ
  · refine jq_aload_n Γ dX5_takeCompares_9 rfl 0 rfl (jq_at_0 at_X_2) ?_
    refine jq_bipush Γ dX5_takeCompares_10 rfl ?_
    refine jq_cpZ (jq_virt (avs := [jI 62]) (st := []) Γ hlY rfl ml_RX5_103 rfl at_X_2 rfl rfl rfl rfl rfl dX5_takeCompares_12) rfl (fun r h => ctX5_isSign h) (fun v6 hz7 => ?_)
    refine jq_if_ne (tgt := 32) Γ dX5_takeCompares_15 rfl ?_ ?_
    · exact hj32_0 σ
    · refine jq_aload_n Γ dX5_takeCompares_18 rfl 0 rfl (jq_at_0 at_X_2) ?_
      refine jq_bipush Γ dX5_takeCompares_19 rfl ?_
      refine jq_cpZ (jq_virt (avs := [jI 61]) (st := []) Γ hlY rfl ml_RX5_103 rfl at_X_2 rfl rfl rfl rfl rfl dX5_takeCompares_21) rfl (fun r h => ctX5_isSign h) (fun v8 hz9 => ?_)
      refine jq_if_ne (tgt := 32) Γ dX5_takeCompares_24 rfl ?_ ?_
      · exact hj32_0 σ
      · refine jq_aload_n Γ dX5_takeCompares_27 rfl 0 rfl (jq_at_0 at_X_2) ?_
        refine jq_iconst Γ dX5_takeCompares_28 rfl ?_
        refine jq_cwV (jq_virt (avs := [jI 2]) (st := []) Γ hlY rfl ml_RX5_107 rfl at_X_2 rfl rfl rfl rfl rfl dX5_takeCompares_29) (fun σ' h => ctX5_blame h) (fun s10 => ?_)
        exact hj32_0 s10


theorem dX6_readTest_0 : decode cX6_readTest 0 = .ok (.aload_n 2, 1) := by decide +kernel
theorem dX6_readTest_1 : decode cX6_readTest 1 = .ok (.getfield 97, 3) := by decide +kernel
theorem dX6_readTest_4 : decode cX6_readTest 4 = .ok (.iload_n 3, 1) := by decide +kernel
theorem dX6_readTest_5 : decode cX6_readTest 5 = .ok (.aload_n 0, 1) := by decide +kernel
theorem dX6_readTest_6 : decode cX6_readTest 6 = .ok (.getfield 24, 3) := by decide +kernel
theorem dX6_readTest_9 : decode cX6_readTest 9 = .ok (.iastore, 1) := by decide +kernel
theorem dX6_readTest_10 : decode cX6_readTest 10 = .ok (.aload_n 0, 1) := by decide +kernel
theorem dX6_readTest_11 : decode cX6_readTest 11 = .ok (.getfield 24, 3) := by decide +kernel
theorem dX6_readTest_14 : decode cX6_readTest 14 = .ok (.bipush 22, 2) := by decide +kernel
theorem dX6_readTest_16 : decode cX6_readTest 16 = .ok (.if_icmp .ne 21, 3) := by decide +kernel
theorem dX6_readTest_19 : decode cX6_readTest 19 = .ok (.aload_n 0, 1) := by decide +kernel
theorem dX6_readTest_20 : decode cX6_readTest 20 = .ok (.invokevirtual 67, 3) := by decide +kernel
theorem dX6_readTest_23 : decode cX6_readTest 23 = .ok (.aload_n 2, 1) := by decide +kernel
theorem dX6_readTest_24 : decode cX6_readTest 24 = .ok (.getfield 104, 3) := by decide +kernel
theorem dX6_readTest_27 : decode cX6_readTest 27 = .ok (.iload_n 3, 1) := by decide +kernel
theorem dX6_readTest_28 : decode cX6_readTest 28 = .ok (.aload_n 0, 1) := by decide +kernel
theorem dX6_readTest_29 : decode cX6_readTest 29 = .ok (.aload_n 1, 1) := by decide +kernel
theorem dX6_readTest_30 : decode cX6_readTest 30 = .ok (.invokevirtual 100, 3) := by decide +kernel
theorem dX6_readTest_33 : decode cX6_readTest 33 = .ok (.iastore, 1) := by decide +kernel
theorem dX6_readTest_34 : decode cX6_readTest 34 = .ok (.goto 79, 3) := by decide +kernel
theorem dX6_readTest_37 : decode cX6_readTest 37 = .ok (.aload_n 0, 1) := by decide +kernel
theorem dX6_readTest_38 : decode cX6_readTest 38 = .ok (.getfield 24, 3) := by decide +kernel
theorem dX6_readTest_41 : decode cX6_readTest 41 = .ok (.bipush 23, 2) := by decide +kernel
theorem dX6_readTest_43 : decode cX6_readTest 43 = .ok (.if_icmp .ne 25, 3) := by decide +kernel
theorem dX6_readTest_46 : decode cX6_readTest 46 = .ok (.aload_n 0, 1) := by decide +kernel
theorem dX6_readTest_47 : decode cX6_readTest 47 = .ok (.invokevirtual 67, 3) := by decide +kernel
theorem dX6_readTest_50 : decode cX6_readTest 50 = .ok (.aload_n 2, 1) := by decide +kernel
theorem dX6_readTest_51 : decode cX6_readTest 51 = .ok (.getfield 104, 3) := by decide +kernel
theorem dX6_readTest_54 : decode cX6_readTest 54 = .ok (.iload_n 3, 1) := by decide +kernel
theorem dX6_readTest_55 : decode cX6_readTest 55 = .ok (.aload_n 0, 1) := by decide +kernel
theorem dX6_readTest_56 : decode cX6_readTest 56 = .ok (.aload_n 1, 1) := by decide +kernel
theorem dX6_readTest_57 : decode cX6_readTest 57 = .ok (.invokevirtual 116, 3) := by decide +kernel
theorem dX6_readTest_60 : decode cX6_readTest 60 = .ok (.iastore, 1) := by decide +kernel
theorem dX6_readTest_61 : decode cX6_readTest 61 = .ok (.aload_n 0, 1) := by decide +kernel
theorem dX6_readTest_62 : decode cX6_readTest 62 = .ok (.invokevirtual 67, 3) := by decide +kernel
theorem dX6_readTest_65 : decode cX6_readTest 65 = .ok (.goto 48, 3) := by decide +kernel
theorem dX6_readTest_68 : decode cX6_readTest 68 = .ok (.aload_n 0, 1) := by decide +kernel
theorem dX6_readTest_69 : decode cX6_readTest 69 = .ok (.getfield 24, 3) := by decide +kernel
theorem dX6_readTest_72 : decode cX6_readTest 72 = .ok (.bipush 24, 2) := by decide +kernel
theorem dX6_readTest_74 : decode cX6_readTest 74 = .ok (.if_icmp .ne 34, 3) := by decide +kernel
theorem dX6_readTest_77 : decode cX6_readTest 77 = .ok (.aload_n 0, 1) := by decide +kernel
theorem dX6_readTest_78 : decode cX6_readTest 78 = .ok (.invokevirtual 67, 3) := by decide +kernel
theorem dX6_readTest_81 : decode cX6_readTest 81 = .ok (.aload_n 2, 1) := by decide +kernel
theorem dX6_readTest_82 : decode cX6_readTest 82 = .ok (.getfield 97, 3) := by decide +kernel
theorem dX6_readTest_85 : decode cX6_readTest 85 = .ok (.iload_n 3, 1) := by decide +kernel
theorem dX6_readTest_86 : decode cX6_readTest 86 = .ok (.aload_n 0, 1) := by decide +kernel
theorem dX6_readTest_87 : decode cX6_readTest 87 = .ok (.invokevirtual 119, 3) := by decide +kernel
theorem dX6_readTest_90 : decode cX6_readTest 90 = .ok (.iastore, 1) := by decide +kernel
theorem dX6_readTest_91 : decode cX6_readTest 91 = .ok (.aload_n 2, 1) := by decide +kernel
theorem dX6_readTest_92 : decode cX6_readTest 92 = .ok (.getfield 104, 3) := by decide +kernel
theorem dX6_readTest_95 : decode cX6_readTest 95 = .ok (.iload_n 3, 1) := by decide +kernel
theorem dX6_readTest_96 : decode cX6_readTest 96 = .ok (.aload_n 0, 1) := by decide +kernel
theorem dX6_readTest_97 : decode cX6_readTest 97 = .ok (.iconst 0, 1) := by decide +kernel
theorem dX6_readTest_98 : decode cX6_readTest 98 = .ok (.sipush 999, 3) := by decide +kernel
theorem dX6_readTest_101 : decode cX6_readTest 101 = .ok (.invokevirtual 112, 3) := by decide +kernel
theorem dX6_readTest_104 : decode cX6_readTest 104 = .ok (.iastore, 1) := by decide +kernel
theorem dX6_readTest_105 : decode cX6_readTest 105 = .ok (.goto 8, 3) := by decide +kernel
theorem dX6_readTest_108 : decode cX6_readTest 108 = .ok (.aload_n 0, 1) := by decide +kernel
theorem dX6_readTest_109 : decode cX6_readTest 109 = .ok (.iconst 2, 1) := by decide +kernel
theorem dX6_readTest_110 : decode cX6_readTest 110 = .ok (.invokevirtual 60, 3) := by decide +kernel
theorem dX6_readTest_113 : decode cX6_readTest 113 = .ok (.return_, 1) := by decide +kernel
set_option maxHeartbeats 4000000 in
set_option maxRecDepth 100000 in
theorem ctX6_readTest {p1 : Int} {p2 : Int} {p3 : Int} {σ : jq_M} {σ' : jq_M} (hp1 : jq_com p1) (hp2 : jq_stp p2) (h : X6_readTest p1 p2 p3 σ = some σ') : jq_MC jq_zX yX6_readTest cX6_readTest 4 none 5 128 [jR 2, jR p1, jR p2, jI p3] σ none σ' := by
  refine jq_met (own := RX6) (L0 := [(0, jR 2), (1, jR p1), (2, jR p2), (3, jI p3)]) (by decide) rfl rfl rfl ?_
  intro X Γ hnl hlY hRT
  refine jq_use2 (P := fun r => jq_RT jq_zX X none none r) ?_ h hRT
  intro K0 hK0
  unfold X6_readTest
  refine jq_aload_n Γ dX6_readTest_0 rfl 2 rfl (jq_at_0 (at_stp hp2)) ?_
  refine jq_getR (v := (p2 + 2)) Γ hlY (at_stp hp2) fl_RX6_97 rfl rfl (ly_X7_first hp2) dX6_readTest_1 ?_
  refine jq_iload_n Γ dX6_readTest_4 rfl 3 rfl ?_
  refine jq_aload_n Γ dX6_readTest_5 rfl 0 rfl (jq_at_0 at_X_2) ?_
  refine jq_getI (J := 11) Γ at_X_2 fl_RX6_24 rfl rfl dX6_readTest_6 ?_
  refine jq_iast Γ (at_stp_2 hp2) rfl dX6_readTest_9 (fun s1 => ?_)
  refine jq_aload_n Γ dX6_readTest_10 rfl 0 rfl (jq_at_0 at_X_2) ?_
  refine jq_getI (J := 11) Γ at_X_2 fl_RX6_24 rfl rfl dX6_readTest_11 ?_
  refine jq_bipush Γ dX6_readTest_14 rfl ?_
  refine jq_icmp_ne (tgt := 37) Γ dX6_readTest_16 rfl ?_ ?_
  · refine jq_aload_n Γ dX6_readTest_37 rfl 0 rfl (jq_at_0 at_X_2) ?_
    refine jq_getI (J := 11) Γ at_X_2 fl_RX6_24 rfl rfl dX6_readTest_38 ?_
    refine jq_bipush Γ dX6_readTest_41 rfl ?_
    refine jq_icmp_ne (tgt := 68) Γ dX6_readTest_43 rfl ?_ ?_
    · refine jq_aload_n Γ dX6_readTest_68 rfl 0 rfl (jq_at_0 at_X_2) ?_
      refine jq_getI (J := 11) Γ at_X_2 fl_RX6_24 rfl rfl dX6_readTest_69 ?_
      refine jq_bipush Γ dX6_readTest_72 rfl ?_
      refine jq_icmp_ne (tgt := 108) Γ dX6_readTest_74 rfl ?_ ?_
      · refine jq_aload_n Γ dX6_readTest_108 rfl 0 rfl (jq_at_0 at_X_2) ?_
        refine jq_iconst Γ dX6_readTest_109 rfl ?_
        refine jq_cwV (jq_virt (avs := [jI 2]) (st := []) Γ hlY rfl ml_RX6_60 rfl at_X_2 rfl rfl rfl rfl rfl dX6_readTest_110) (fun σ' h => ctX5_blame h) (fun s2 => ?_)
        exact jq_vreturn Γ dX6_readTest_113 (hK0 _)
      · refine jq_aload_n Γ dX6_readTest_77 rfl 0 rfl (jq_at_0 at_X_2) ?_
        refine jq_cwV (jq_virt (avs := []) (st := []) Γ hlY rfl ml_RX6_67 rfl at_X_2 rfl rfl rfl rfl rfl dX6_readTest_78) (fun σ' h => ctX5_next h) (fun s3 => ?_)
        refine jq_aload_n Γ dX6_readTest_81 rfl 2 rfl (jq_at_0 (at_stp hp2)) ?_
        refine jq_getR (v := (p2 + 2)) Γ hlY (at_stp hp2) fl_RX6_97 rfl rfl (ly_X7_first hp2) dX6_readTest_82 ?_
        refine jq_iload_n Γ dX6_readTest_85 rfl 3 rfl ?_
        refine jq_aload_n Γ dX6_readTest_86 rfl 0 rfl (jq_at_0 at_X_2) ?_
        refine jq_cwI (jq_virt (avs := []) (st := [jI p3, jR (p2 + 2)]) Γ hlY rfl ml_RX6_119 rfl at_X_2 rfl rfl rfl rfl rfl dX6_readTest_87) (fun r σ' h => ctX5_takeCompares h) (fun v4 s5 => ?_)
        refine jq_iast Γ (at_stp_2 hp2) rfl dX6_readTest_90 (fun s6 => ?_)
        refine jq_aload_n Γ dX6_readTest_91 rfl 2 rfl (jq_at_0 (at_stp hp2)) ?_
        refine jq_getR (v := (p2 + 3)) Γ hlY (at_stp hp2) fl_RX6_104 rfl rfl (ly_X7_second hp2) dX6_readTest_92 ?_
        refine jq_iload_n Γ dX6_readTest_95 rfl 3 rfl ?_
        refine jq_aload_n Γ dX6_readTest_96 rfl 0 rfl (jq_at_0 at_X_2) ?_
        refine jq_iconst Γ dX6_readTest_97 rfl ?_
        refine jq_sipush Γ dX6_readTest_98 rfl ?_
        refine jq_cwI (jq_virt (avs := [jI 0, jI 999]) (st := [jI p3, jR (p2 + 3)]) Γ hlY rfl ml_RX6_112 rfl at_X_2 rfl rfl rfl rfl rfl dX6_readTest_101) (fun r σ' h => ctX5_takeNumber h) (fun v7 s8 => ?_)
        refine jq_iast Γ (at_stp_3 hp2) rfl dX6_readTest_104 (fun s9 => ?_)
        refine jq_goto Γ (tgt := 113) dX6_readTest_105 rfl ?_
        exact jq_vreturn Γ dX6_readTest_113 (hK0 _)
    · refine jq_aload_n Γ dX6_readTest_46 rfl 0 rfl (jq_at_0 at_X_2) ?_
      refine jq_cwV (jq_virt (avs := []) (st := []) Γ hlY rfl ml_RX6_67 rfl at_X_2 rfl rfl rfl rfl rfl dX6_readTest_47) (fun σ' h => ctX5_next h) (fun s10 => ?_)
      refine jq_aload_n Γ dX6_readTest_50 rfl 2 rfl (jq_at_0 (at_stp hp2)) ?_
      refine jq_getR (v := (p2 + 3)) Γ hlY (at_stp hp2) fl_RX6_104 rfl rfl (ly_X7_second hp2) dX6_readTest_51 ?_
      refine jq_iload_n Γ dX6_readTest_54 rfl 3 rfl ?_
      refine jq_aload_n Γ dX6_readTest_55 rfl 0 rfl (jq_at_0 at_X_2) ?_
      refine jq_aload_n Γ dX6_readTest_56 rfl 1 rfl (jq_at_0 (at_com hp1)) ?_
      refine jq_cwI (jq_virt (avs := [jR p1]) (st := [jI p3, jR (p2 + 3)]) Γ hlY rfl ml_RX6_116 rfl at_X_2 rfl rfl rfl rfl rfl dX6_readTest_57) (fun r σ' h => ctX5_articleHere hp1 h) (fun v11 s12 => ?_)
      refine jq_iast Γ (at_stp_3 hp2) rfl dX6_readTest_60 (fun s13 => ?_)
      refine jq_aload_n Γ dX6_readTest_61 rfl 0 rfl (jq_at_0 at_X_2) ?_
      refine jq_cwV (jq_virt (avs := []) (st := []) Γ hlY rfl ml_RX6_67 rfl at_X_2 rfl rfl rfl rfl rfl dX6_readTest_62) (fun σ' h => ctX5_next h) (fun s14 => ?_)
      refine jq_goto Γ (tgt := 113) dX6_readTest_65 rfl ?_
      exact jq_vreturn Γ dX6_readTest_113 (hK0 _)
  · refine jq_aload_n Γ dX6_readTest_19 rfl 0 rfl (jq_at_0 at_X_2) ?_
    refine jq_cwV (jq_virt (avs := []) (st := []) Γ hlY rfl ml_RX6_67 rfl at_X_2 rfl rfl rfl rfl rfl dX6_readTest_20) (fun σ' h => ctX5_next h) (fun s15 => ?_)
    refine jq_aload_n Γ dX6_readTest_23 rfl 2 rfl (jq_at_0 (at_stp hp2)) ?_
    refine jq_getR (v := (p2 + 3)) Γ hlY (at_stp hp2) fl_RX6_104 rfl rfl (ly_X7_second hp2) dX6_readTest_24 ?_
    refine jq_iload_n Γ dX6_readTest_27 rfl 3 rfl ?_
    refine jq_aload_n Γ dX6_readTest_28 rfl 0 rfl (jq_at_0 at_X_2) ?_
    refine jq_aload_n Γ dX6_readTest_29 rfl 1 rfl (jq_at_0 (at_com hp1)) ?_
    refine jq_cwI (jq_virt (avs := [jR p1]) (st := [jI p3, jR (p2 + 3)]) Γ hlY rfl ml_RX6_100 rfl at_X_2 rfl rfl rfl rfl rfl dX6_readTest_30) (fun r σ' h => ctX5_takeParty hp1 h) (fun v16 s17 => ?_)
    refine jq_iast Γ (at_stp_3 hp2) rfl dX6_readTest_33 (fun s18 => ?_)
    refine jq_goto Γ (tgt := 113) dX6_readTest_34 rfl ?_
    exact jq_vreturn Γ dX6_readTest_113 (hK0 _)


