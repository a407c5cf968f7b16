theorem fl_RX2_97 : jq_fl RX2 97 1 21 3 false := ⟨RX1, TX1, tyX1, cls_X1, by decide, jq_in 338 (by decide +kernel) rfl, by decide⟩
theorem yf_X5_takeParty : Cond.instanceMethod yX5_takeParty ∈ jq_T ∧ Cond.selects (yX5_takeParty).cls yX5_takeParty yX5_takeParty ∈ jq_T ∧ Cond.initialized (yX5_takeParty).cls ∈ jq_T ∧ Cond.code yX5_takeParty cX5_takeParty 3 (some .int) ∈ jq_T ∧ ((yX5_takeParty).cls ≠ "java/lang/invoke/MethodHandle" ∧ (yX5_takeParty).cls ≠ "java/lang/invoke/VarHandle" ∧ (parseMethodDescriptor (yX5_takeParty).desc).map (fun d => d.parameters.length) = some 1) := ⟨jq_in 779 (by decide +kernel) rfl, jq_in 780 (by decide +kernel) rfl, jq_in 139 (by decide +kernel) rfl, jq_in 781 (by decide +kernel) rfl, ⟨by decide, by decide, by decide +kernel⟩⟩
theorem ml_RX2_100 : jq_vl RX2 100 yX5_takeParty cX5_takeParty 3 (some .int) 1 := ⟨jq_in 778 (by decide +kernel) rfl, yf_X5_takeParty⟩
theorem yf_X2_takeKind : Cond.static yX2_takeKind ∈ jq_T ∧ Cond.initialized (yX2_takeKind).cls ∈ jq_T ∧ Cond.code yX2_takeKind cX2_takeKind 2 (some .int) ∈ jq_T ∧ ((yX2_takeKind).cls ≠ "java/lang/invoke/MethodHandle" ∧ (yX2_takeKind).cls ≠ "java/lang/invoke/VarHandle" ∧ (parseMethodDescriptor (yX2_takeKind).desc).map (fun d => d.parameters.length) = some 1) := ⟨jq_in 791 (by decide +kernel) rfl, jq_in 153 (by decide +kernel) rfl, jq_in 792 (by decide +kernel) rfl, ⟨by decide, by decide, by decide +kernel⟩⟩
theorem ml_RX2_104 : jq_sl RX2 104 yX2_takeKind cX2_takeKind 2 (some .int) 1 := ⟨jq_in 790 (by decide +kernel) rfl, yf_X2_takeKind⟩
theorem fl_RX2_108 : jq_fl RX2 108 1 21 10 true := ⟨RX1, TX1, tyX1, cls_X1, by decide, jq_in 360 (by decide +kernel) rfl, by decide⟩
theorem fl_RX2_111 : jq_fl RX2 111 1 21 11 true := ⟨RX1, TX1, tyX1, cls_X1, by decide, jq_in 363 (by decide +kernel) rfl, by decide⟩
theorem fl_RX2_114 : jq_fl RX2 114 1 21 12 true := ⟨RX1, TX1, tyX1, cls_X1, by decide, jq_in 366 (by decide +kernel) rfl, by decide⟩
theorem yf_X2_takeOther : Cond.static yX2_takeOther ∈ jq_T ∧ Cond.initialized (yX2_takeOther).cls ∈ jq_T ∧ Cond.code yX2_takeOther cX2_takeOther 4 (some .int) ∈ jq_T ∧ ((yX2_takeOther).cls ≠ "java/lang/invoke/MethodHandle" ∧ (yX2_takeOther).cls ≠ "java/lang/invoke/VarHandle" ∧ (parseMethodDescriptor (yX2_takeOther).desc).map (fun d => d.parameters.length) = some 3) := ⟨jq_in 794 (by decide +kernel) rfl, jq_in 153 (by decide +kernel) rfl, jq_in 795 (by decide +kernel) rfl, ⟨by decide, by decide, by decide +kernel⟩⟩
theorem ml_RX2_117 : jq_sl RX2 117 yX2_takeOther cX2_takeOther 4 (some .int) 3 := ⟨jq_in 793 (by decide +kernel) rfl, yf_X2_takeOther⟩
theorem yf_X5_passKeyword : Cond.instanceMethod yX5_passKeyword ∈ jq_T ∧ Cond.selects (yX5_passKeyword).cls yX5_passKeyword yX5_passKeyword ∈ jq_T ∧ Cond.initialized (yX5_passKeyword).cls ∈ jq_T ∧ Cond.code yX5_passKeyword cX5_passKeyword 2 none ∈ jq_T ∧ ((yX5_passKeyword).cls ≠ "java/lang/invoke/MethodHandle" ∧ (yX5_passKeyword).cls ≠ "java/lang/invoke/VarHandle" ∧ (parseMethodDescriptor (yX5_passKeyword).desc).map (fun d => d.parameters.length) = some 1) := ⟨jq_in 798 (by decide +kernel) rfl, jq_in 799 (by decide +kernel) rfl, jq_in 139 (by decide +kernel) rfl, jq_in 800 (by decide +kernel) rfl, ⟨by decide, by decide, by decide +kernel⟩⟩
theorem ml_RX2_121 : jq_vl RX2 121 yX5_passKeyword cX5_passKeyword 2 none 1 := ⟨jq_in 797 (by decide +kernel) rfl, yf_X5_passKeyword⟩
theorem fl_RX2_124 : jq_fl RX2 124 1 21 13 true := ⟨RX1, TX1, tyX1, cls_X1, by decide, jq_in 369 (by decide +kernel) rfl, by decide⟩
theorem yf_X5_goesOn : Cond.instanceMethod yX5_goesOn ∈ jq_T ∧ Cond.selects (yX5_goesOn).cls yX5_goesOn yX5_goesOn ∈ jq_T ∧ Cond.initialized (yX5_goesOn).cls ∈ jq_T ∧ Cond.code yX5_goesOn cX5_goesOn 1 (some .boolean) ∈ jq_T ∧ ((yX5_goesOn).cls ≠ "java/lang/invoke/MethodHandle" ∧ (yX5_goesOn).cls ≠ "java/lang/invoke/VarHandle" ∧ (parseMethodDescriptor (yX5_goesOn).desc).map (fun d => d.parameters.length) = some 0) := ⟨jq_in 715 (by decide +kernel) rfl, jq_in 716 (by decide +kernel) rfl, jq_in 139 (by decide +kernel) rfl, jq_in 717 (by decide +kernel) rfl, ⟨by decide, by decide, by decide +kernel⟩⟩
theorem ml_RX2_14 : jq_vl RX2 14 yX5_goesOn cX5_goesOn 1 (some .boolean) 0 := ⟨jq_in 714 (by decide +kernel) rfl, yf_X5_goesOn⟩
theorem ml_RX2_151 : jq_vl RX2 151 yX5_isSign cX5_isSign 2 (some .boolean) 1 := ⟨jq_in 807 (by decide +kernel) rfl, yf_X5_isSign⟩
theorem yf_X5_articleHere : Cond.instanceMethod yX5_articleHere ∈ jq_T ∧ Cond.selects (yX5_articleHere).cls yX5_articleHere yX5_articleHere ∈ jq_T ∧ Cond.initialized (yX5_articleHere).cls ∈ jq_T ∧ Cond.code yX5_articleHere cX5_articleHere 3 (some .int) ∈ jq_T ∧ ((yX5_articleHere).cls ≠ "java/lang/invoke/MethodHandle" ∧ (yX5_articleHere).cls ≠ "java/lang/invoke/VarHandle" ∧ (parseMethodDescriptor (yX5_articleHere).desc).map (fun d => d.parameters.length) = some 1) := ⟨jq_in 809 (by decide +kernel) rfl, jq_in 810 (by decide +kernel) rfl, jq_in 139 (by decide +kernel) rfl, jq_in 811 (by decide +kernel) rfl, ⟨by decide, by decide, by decide +kernel⟩⟩
theorem ml_RX2_155 : jq_vl RX2 155 yX5_articleHere cX5_articleHere 3 (some .int) 1 := ⟨jq_in 808 (by decide +kernel) rfl, yf_X5_articleHere⟩
theorem yf_X10_holds : Cond.static yX10_holds ∈ jq_T ∧ Cond.initialized (yX10_holds).cls ∈ jq_T ∧ Cond.code yX10_holds cX10_holds 2 (some .boolean) ∈ jq_T ∧ ((yX10_holds).cls ≠ "java/lang/invoke/MethodHandle" ∧ (yX10_holds).cls ≠ "java/lang/invoke/VarHandle" ∧ (parseMethodDescriptor (yX10_holds).desc).map (fun d => d.parameters.length) = some 2) := ⟨jq_in 813 (by decide +kernel) rfl, jq_in 138 (by decide +kernel) rfl, jq_in 814 (by decide +kernel) rfl, ⟨by decide, by decide, by decide +kernel⟩⟩
theorem ml_RX2_158 : jq_nl RX2 158 yX10_holds "StandTable" cX10_holds 2 (some .boolean) 2 := ⟨jq_inN 812 (by decide +kernel) rfl, yf_X10_holds⟩
theorem fl_RX2_130 : jq_fl RX2 130 1 21 4 false := ⟨RX1, TX1, tyX1, cls_X1, by decide, jq_in 342 (by decide +kernel) rfl, by decide⟩
theorem fl_RX2_133 : jq_fl RX2 133 1 21 14 true := ⟨RX1, TX1, tyX1, cls_X1, by decide, jq_in 372 (by decide +kernel) rfl, by decide⟩
theorem fl_RX2_136 : jq_fl RX2 136 1 21 15 true := ⟨RX1, TX1, tyX1, cls_X1, by decide, jq_in 375 (by decide +kernel) rfl, by decide⟩
theorem fl_RX2_139 : jq_fl RX2 139 1 21 16 true := ⟨RX1, TX1, tyX1, cls_X1, by decide, jq_in 379 (by decide +kernel) rfl, by decide⟩
theorem fl_RX2_142 : jq_fl RX2 142 1 21 17 true := ⟨RX1, TX1, tyX1, cls_X1, by decide, jq_in 383 (by decide +kernel) rfl, by decide⟩
theorem yf_X2_takeLeans : Cond.static yX2_takeLeans ∈ jq_T ∧ Cond.initialized (yX2_takeLeans).cls ∈ jq_T ∧ Cond.code yX2_takeLeans cX2_takeLeans 5 (some .int) ∈ jq_T ∧ ((yX2_takeLeans).cls ≠ "java/lang/invoke/MethodHandle" ∧ (yX2_takeLeans).cls ≠ "java/lang/invoke/VarHandle" ∧ (parseMethodDescriptor (yX2_takeLeans).desc).map (fun d => d.parameters.length) = some 2) := ⟨jq_in 805 (by decide +kernel) rfl, jq_in 153 (by decide +kernel) rfl, jq_in 806 (by decide +kernel) rfl, ⟨by decide, by decide, by decide +kernel⟩⟩
theorem ml_RX2_145 : jq_sl RX2 145 yX2_takeLeans cX2_takeLeans 5 (some .int) 2 := ⟨jq_in 804 (by decide +kernel) rfl, yf_X2_takeLeans⟩
theorem fl_RX2_148 : jq_fl RX2 148 1 21 18 true := ⟨RX1, TX1, tyX1, cls_X1, by decide, jq_in 387 (by decide +kernel) rfl, by decide⟩
theorem yf_X1_clear : Cond.instanceMethod yX1_clear ∈ jq_T ∧ Cond.selects (yX1_clear).cls yX1_clear yX1_clear ∈ jq_T ∧ Cond.initialized (yX1_clear).cls ∈ jq_T ∧ Cond.code yX1_clear cX1_clear 1 none ∈ jq_T ∧ ((yX1_clear).cls ≠ "java/lang/invoke/MethodHandle" ∧ (yX1_clear).cls ≠ "java/lang/invoke/VarHandle" ∧ (parseMethodDescriptor (yX1_clear).desc).map (fun d => d.parameters.length) = some 0) := ⟨jq_in 707 (by decide +kernel) rfl, jq_in 708 (by decide +kernel) rfl, jq_in 144 (by decide +kernel) rfl, jq_in 709 (by decide +kernel) rfl, ⟨by decide, by decide, by decide +kernel⟩⟩
theorem ml_RX2_9 : jq_vl RX2 9 yX1_clear cX1_clear 1 none 0 := ⟨jq_in 706 (by decide +kernel) rfl, yf_X1_clear⟩
theorem yf_X2_readPlaces : Cond.static yX2_readPlaces ∈ jq_T ∧ Cond.initialized (yX2_readPlaces).cls ∈ jq_T ∧ Cond.code yX2_readPlaces cX2_readPlaces 2 none ∈ jq_T ∧ ((yX2_readPlaces).cls ≠ "java/lang/invoke/MethodHandle" ∧ (yX2_readPlaces).cls ≠ "java/lang/invoke/VarHandle" ∧ (parseMethodDescriptor (yX2_readPlaces).desc).map (fun d => d.parameters.length) = some 2) := ⟨jq_in 719 (by decide +kernel) rfl, jq_in 153 (by decide +kernel) rfl, jq_in 720 (by decide +kernel) rfl, ⟨by decide, by decide, by decide +kernel⟩⟩
theorem ml_RX2_24 : jq_sl RX2 24 yX2_readPlaces cX2_readPlaces 2 none 2 := ⟨jq_in 718 (by decide +kernel) rfl, yf_X2_readPlaces⟩
theorem yf_X2_readCorner : Cond.static yX2_readCorner ∈ jq_T ∧ Cond.initialized (yX2_readCorner).cls ∈ jq_T ∧ Cond.code yX2_readCorner cX2_readCorner 2 none ∈ jq_T ∧ ((yX2_readCorner).cls ≠ "java/lang/invoke/MethodHandle" ∧ (yX2_readCorner).cls ≠ "java/lang/invoke/VarHandle" ∧ (parseMethodDescriptor (yX2_readCorner).desc).map (fun d => d.parameters.length) = some 2) := ⟨jq_in 749 (by decide +kernel) rfl, jq_in 153 (by decide +kernel) rfl, jq_in 750 (by decide +kernel) rfl, ⟨by decide, by decide, by decide +kernel⟩⟩
theorem ml_RX2_30 : jq_sl RX2 30 yX2_readCorner cX2_readCorner 2 none 2 := ⟨jq_in 748 (by decide +kernel) rfl, yf_X2_readCorner⟩
theorem yf_X2_readParty : Cond.static yX2_readParty ∈ jq_T ∧ Cond.initialized (yX2_readParty).cls ∈ jq_T ∧ Cond.code yX2_readParty cX2_readParty 3 none ∈ jq_T ∧ ((yX2_readParty).cls ≠ "java/lang/invoke/MethodHandle" ∧ (yX2_readParty).cls ≠ "java/lang/invoke/VarHandle" ∧ (parseMethodDescriptor (yX2_readParty).desc).map (fun d => d.parameters.length) = some 2) := ⟨jq_in 752 (by decide +kernel) rfl, jq_in 153 (by decide +kernel) rfl, jq_in 753 (by decide +kernel) rfl, ⟨by decide, by decide, by decide +kernel⟩⟩
theorem ml_RX2_33 : jq_sl RX2 33 yX2_readParty cX2_readParty 3 none 2 := ⟨jq_in 751 (by decide +kernel) rfl, yf_X2_readParty⟩
theorem yf_X2_readWish : Cond.static yX2_readWish ∈ jq_T ∧ Cond.initialized (yX2_readWish).cls ∈ jq_T ∧ Cond.code yX2_readWish cX2_readWish 6 none ∈ jq_T ∧ ((yX2_readWish).cls ≠ "java/lang/invoke/MethodHandle" ∧ (yX2_readWish).cls ≠ "java/lang/invoke/VarHandle" ∧ (parseMethodDescriptor (yX2_readWish).desc).map (fun d => d.parameters.length) = some 3) := ⟨jq_in 776 (by decide +kernel) rfl, jq_in 153 (by decide +kernel) rfl, jq_in 777 (by decide +kernel) rfl, ⟨by decide, by decide, by decide +kernel⟩⟩
theorem ml_RX2_36 : jq_sl RX2 36 yX2_readWish cX2_readWish 6 none 3 := ⟨jq_in 775 (by decide +kernel) rfl, yf_X2_readWish⟩
theorem yf_X2_readArticle : Cond.static yX2_readArticle ∈ jq_T ∧ Cond.initialized (yX2_readArticle).cls ∈ jq_T ∧ Cond.code yX2_readArticle cX2_readArticle 3 none ∈ jq_T ∧ ((yX2_readArticle).cls ≠ "java/lang/invoke/MethodHandle" ∧ (yX2_readArticle).cls ≠ "java/lang/invoke/VarHandle" ∧ (parseMethodDescriptor (yX2_readArticle).desc).map (fun d => d.parameters.length) = some 2) := ⟨jq_in 802 (by decide +kernel) rfl, jq_in 153 (by decide +kernel) rfl, jq_in 803 (by decide +kernel) rfl, ⟨by decide, by decide, by decide +kernel⟩⟩
theorem ml_RX2_40 : jq_sl RX2 40 yX2_readArticle cX2_readArticle 3 none 2 := ⟨jq_in 801 (by decide +kernel) rfl, yf_X2_readArticle⟩
theorem fl_RX10_457 : jq_fl RX10 457 3 14 12 false := ⟨RX5, TX5, tyX5, cls_X5, by decide, jq_in 242 (by decide +kernel) rfl, by decide⟩
theorem fl_RX10_82 : jq_fl RX10 82 7 18 5 false := ⟨RX10, TX10, tyX10, cls_X10, by decide, jq_in 527 (by decide +kernel) rfl, by decide⟩
theorem fl_RX10_460 : jq_fl RX10 460 3 14 13 false := ⟨RX5, TX5, tyX5, cls_X5, by decide, jq_in 244 (by decide +kernel) rfl, by decide⟩
theorem fl_RX10_85 : jq_fl RX10 85 7 18 6 false := ⟨RX10, TX10, tyX10, cls_X10, by decide, jq_in 528 (by decide +kernel) rfl, by decide⟩
theorem yf_X5_open : Cond.instanceMethod yX5_open ∈ jq_T ∧ Cond.selects (yX5_open).cls yX5_open yX5_open ∈ jq_T ∧ Cond.initialized (yX5_open).cls ∈ jq_T ∧ Cond.code yX5_open cX5_open 2 none ∈ jq_T ∧ ((yX5_open).cls ≠ "java/lang/invoke/MethodHandle" ∧ (yX5_open).cls ≠ "java/lang/invoke/VarHandle" ∧ (parseMethodDescriptor (yX5_open).desc).map (fun d => d.parameters.length) = some 1) := ⟨jq_in 668 (by decide +kernel) rfl, jq_in 669 (by decide +kernel) rfl, jq_in 139 (by decide +kernel) rfl, jq_in 670 (by decide +kernel) rfl, ⟨by decide, by decide, by decide +kernel⟩⟩
theorem ml_RX10_152 : jq_vl RX10 152 yX5_open cX5_open 2 none 1 := ⟨jq_in 667 (by decide +kernel) rfl, yf_X5_open⟩
theorem fl_RX10_29 : jq_fl RX10 29 7 18 8 false := ⟨RX10, TX10, tyX10, cls_X10, by decide, jq_in 530 (by decide +kernel) rfl, by decide⟩
theorem yf_X2_readAll : Cond.static yX2_readAll ∈ jq_T ∧ Cond.initialized (yX2_readAll).cls ∈ jq_T ∧ Cond.code yX2_readAll cX2_readAll 3 none ∈ jq_T ∧ ((yX2_readAll).cls ≠ "java/lang/invoke/MethodHandle" ∧ (yX2_readAll).cls ≠ "java/lang/invoke/VarHandle" ∧ (parseMethodDescriptor (yX2_readAll).desc).map (fun d => d.parameters.length) = some 2) := ⟨jq_in 704 (by decide +kernel) rfl, jq_in 153 (by decide +kernel) rfl, jq_in 705 (by decide +kernel) rfl, ⟨by decide, by decide, by decide +kernel⟩⟩
theorem ml_RX10_155 : jq_sl RX10 155 yX2_readAll cX2_readAll 3 none 2 := ⟨jq_in 703 (by decide +kernel) rfl, yf_X2_readAll⟩
theorem yf_X10_keepFault : Cond.instanceMethod yX10_keepFault ∈ jq_T ∧ Cond.selects (yX10_keepFault).cls yX10_keepFault yX10_keepFault ∈ jq_T ∧ Cond.initialized (yX10_keepFault).cls ∈ jq_T ∧ Cond.code yX10_keepFault cX10_keepFault 1 (some .boolean) ∈ jq_T ∧ ((yX10_keepFault).cls ≠ "java/lang/invoke/MethodHandle" ∧ (yX10_keepFault).cls ≠ "java/lang/invoke/VarHandle" ∧ (parseMethodDescriptor (yX10_keepFault).desc).map (fun d => d.parameters.length) = some 0) := ⟨jq_in 817 (by decide +kernel) rfl, jq_in 10 (by decide +kernel) rfl, jq_in 138 (by decide +kernel) rfl, jq_in 818 (by decide +kernel) rfl, ⟨by decide, by decide, by decide +kernel⟩⟩
theorem ml_RX10_161 : jq_vl RX10 161 yX10_keepFault cX10_keepFault 1 (some .boolean) 0 := ⟨jq_in 815 (by decide +kernel) rfl, yf_X10_keepFault⟩
theorem fl_RX10_25 : jq_fl RX10 25 7 18 7 false := ⟨RX10, TX10, tyX10, cls_X10, by decide, jq_in 529 (by decide +kernel) rfl, by decide⟩
theorem fl_RX10_164 : jq_fl RX10 164 1 21 3 false := ⟨RX1, TX1, tyX1, cls_X1, by decide, jq_in 339 (by decide +kernel) rfl, by decide⟩
theorem yf_X10_answer : Cond.instanceMethod yX10_answer ∈ jq_T ∧ Cond.selects (yX10_answer).cls yX10_answer yX10_answer ∈ jq_T ∧ Cond.initialized (yX10_answer).cls ∈ jq_T ∧ Cond.code yX10_answer cX10_answer 2 (some .int) ∈ jq_T ∧ ((yX10_answer).cls ≠ "java/lang/invoke/MethodHandle" ∧ (yX10_answer).cls ≠ "java/lang/invoke/VarHandle" ∧ (parseMethodDescriptor (yX10_answer).desc).map (fun d => d.parameters.length) = some 1) := ⟨jq_in 821 (by decide +kernel) rfl, jq_in 11 (by decide +kernel) rfl, jq_in 138 (by decide +kernel) rfl, jq_in 822 (by decide +kernel) rfl, ⟨by decide, by decide, by decide +kernel⟩⟩
theorem ml_RX10_167 : jq_vl RX10 167 yX10_answer cX10_answer 2 (some .int) 1 := ⟨jq_in 819 (by decide +kernel) rfl, yf_X10_answer⟩
theorem fl_RX7_9 : jq_fl RX7 9 4 9 3 true := ⟨RX7, TX7, tyX7, cls_X7, by decide, jq_in 295 (by decide +kernel) rfl, by decide⟩
theorem fl_RX7_15 : jq_fl RX7 15 4 9 4 true := ⟨RX7, TX7, tyX7, cls_X7, by decide, jq_in 296 (by decide +kernel) rfl, by decide⟩
theorem fl_RX7_18 : jq_fl RX7 18 4 9 5 true := ⟨RX7, TX7, tyX7, cls_X7, by decide, jq_in 297 (by decide +kernel) rfl, by decide⟩
theorem fl_RX7_21 : jq_fl RX7 21 4 9 6 true := ⟨RX7, TX7, tyX7, cls_X7, by decide, jq_in 298 (by decide +kernel) rfl, by decide⟩
theorem fl_RX7_24 : jq_fl RX7 24 4 9 7 true := ⟨RX7, TX7, tyX7, cls_X7, by decide, jq_in 299 (by decide +kernel) rfl, by decide⟩
theorem yf_X7_addLine : Cond.instanceMethod yX7_addLine ∈ jq_T ∧ Cond.selects (yX7_addLine).cls yX7_addLine yX7_addLine ∈ jq_T ∧ Cond.initialized (yX7_addLine).cls ∈ jq_T ∧ Cond.code yX7_addLine cX7_addLine 3 (some .int) ∈ jq_T ∧ ((yX7_addLine).cls ≠ "java/lang/invoke/MethodHandle" ∧ (yX7_addLine).cls ≠ "java/lang/invoke/VarHandle" ∧ (parseMethodDescriptor (yX7_addLine).desc).map (fun d => d.parameters.length) = some 1) := ⟨jq_in 842 (by decide +kernel) rfl, jq_in 12 (by decide +kernel) rfl, jq_in 145 (by decide +kernel) rfl, jq_in 843 (by decide +kernel) rfl, ⟨by decide, by decide, by decide +kernel⟩⟩
theorem ml_RX7_51 : jq_vl RX7 51 yX7_addLine cX7_addLine 3 (some .int) 1 := ⟨jq_in 840 (by decide +kernel) rfl, yf_X7_addLine⟩
theorem yf_X7_setMate : Cond.instanceMethod yX7_setMate ∈ jq_T ∧ Cond.selects (yX7_setMate).cls yX7_setMate yX7_setMate ∈ jq_T ∧ Cond.initialized (yX7_setMate).cls ∈ jq_T ∧ Cond.code yX7_setMate cX7_setMate 3 none ∈ jq_T ∧ ((yX7_setMate).cls ≠ "java/lang/invoke/MethodHandle" ∧ (yX7_setMate).cls ≠ "java/lang/invoke/VarHandle" ∧ (parseMethodDescriptor (yX7_setMate).desc).map (fun d => d.parameters.length) = some 2) := ⟨jq_in 846 (by decide +kernel) rfl, jq_in 13 (by decide +kernel) rfl, jq_in 145 (by decide +kernel) rfl, jq_in 847 (by decide +kernel) rfl, ⟨by decide, by decide, by decide +kernel⟩⟩
theorem ml_RX7_55 : jq_vl RX7 55 yX7_setMate cX7_setMate 3 none 2 := ⟨jq_in 844 (by decide +kernel) rfl, yf_X7_setMate⟩
theorem fl_RX6_54 : jq_fl RX6 54 4 9 8 false := ⟨RX7, TX7, tyX7, cls_X7, by decide, jq_in 301 (by decide +kernel) rfl, by decide⟩
theorem yf_X7_closeOne : Cond.instanceMethod yX7_closeOne ∈ jq_T ∧ Cond.selects (yX7_closeOne).cls yX7_closeOne yX7_closeOne ∈ jq_T ∧ Cond.initialized (yX7_closeOne).cls ∈ jq_T ∧ Cond.code yX7_closeOne cX7_closeOne 3 none ∈ jq_T ∧ ((yX7_closeOne).cls ≠ "java/lang/invoke/MethodHandle" ∧ (yX7_closeOne).cls ≠ "java/lang/invoke/VarHandle" ∧ (parseMethodDescriptor (yX7_closeOne).desc).map (fun d => d.parameters.length) = some 0) := ⟨jq_in 837 (by decide +kernel) rfl, jq_in 838 (by decide +kernel) rfl, jq_in 145 (by decide +kernel) rfl, jq_in 839 (by decide +kernel) rfl, ⟨by decide, by decide, by decide +kernel⟩⟩
theorem ml_RX6_61 : jq_vl RX6 61 yX7_closeOne cX7_closeOne 3 none 0 := ⟨jq_in 836 (by decide +kernel) rfl, yf_X7_closeOne⟩
theorem ml_RX6_64 : jq_vl RX6 64 yX5_next cX5_next 1 none 0 := ⟨jq_in 848 (by decide +kernel) rfl, yf_X5_next⟩
theorem ml_RX6_50 : jq_vl RX6 50 yX5_passSign cX5_passSign 2 none 1 := ⟨jq_in 849 (by decide +kernel) rfl, yf_X5_passSign⟩
theorem ml_RX6_57 : jq_vl RX6 57 yX5_blame cX5_blame 2 none 1 := ⟨jq_in 835 (by decide +kernel) rfl, yf_X5_blame⟩
theorem ml_RX6_90 : jq_nl RX6 90 yX10_within "StandTable" cX10_within 3 (some .boolean) 3 := ⟨jq_inN 856 (by decide +kernel) rfl, yf_X10_within⟩
theorem fl_RX6_24 : jq_fl RX6 24 3 14 11 false := ⟨RX5, TX5, tyX5, cls_X5, by decide, jq_in 239 (by decide +kernel) rfl, by decide⟩
theorem yf_X6_isStepWord : Cond.static yX6_isStepWord ∈ jq_T ∧ Cond.initialized (yX6_isStepWord).cls ∈ jq_T ∧ Cond.code yX6_isStepWord cX6_isStepWord 1 (some .boolean) ∈ jq_T ∧ ((yX6_isStepWord).cls ≠ "java/lang/invoke/MethodHandle" ∧ (yX6_isStepWord).cls ≠ "java/lang/invoke/VarHandle" ∧ (parseMethodDescriptor (yX6_isStepWord).desc).map (fun d => d.parameters.length) = some 1) := ⟨jq_in 854 (by decide +kernel) rfl, jq_in 154 (by decide +kernel) rfl, jq_in 855 (by decide +kernel) rfl, ⟨by decide, by decide, by decide +kernel⟩⟩
theorem ml_RX6_67 : jq_sl RX6 67 yX6_isStepWord cX6_isStepWord 1 (some .boolean) 1 := ⟨jq_in 853 (by decide +kernel) rfl, yf_X6_isStepWord⟩
theorem yf_X7_isFull : Cond.instanceMethod yX7_isFull ∈ jq_T ∧ Cond.selects (yX7_isFull).cls yX7_isFull yX7_isFull ∈ jq_T ∧ Cond.initialized (yX7_isFull).cls ∈ jq_T ∧ Cond.code yX7_isFull cX7_isFull 1 (some .boolean) ∈ jq_T ∧ ((yX7_isFull).cls ≠ "java/lang/invoke/MethodHandle" ∧ (yX7_isFull).cls ≠ "java/lang/invoke/VarHandle" ∧ (parseMethodDescriptor (yX7_isFull).desc).map (fun d => d.parameters.length) = some 0) := ⟨jq_in 858 (by decide +kernel) rfl, jq_in 859 (by decide +kernel) rfl, jq_in 145 (by decide +kernel) rfl, jq_in 860 (by decide +kernel) rfl, ⟨by decide, by decide, by decide +kernel⟩⟩
theorem ml_RX6_71 : jq_vl RX6 71 yX7_isFull cX7_isFull 1 (some .boolean) 0 := ⟨jq_in 857 (by decide +kernel) rfl, yf_X7_isFull⟩
theorem yf_X6_opens : Cond.static yX6_opens ∈ jq_T ∧ Cond.initialized (yX6_opens).cls ∈ jq_T ∧ Cond.code yX6_opens cX6_opens 1 (some .boolean) ∈ jq_T ∧ ((yX6_opens).cls ≠ "java/lang/invoke/MethodHandle" ∧ (yX6_opens).cls ≠ "java/lang/invoke/VarHandle" ∧ (parseMethodDescriptor (yX6_opens).desc).map (fun d => d.parameters.length) = some 1) := ⟨jq_in 862 (by decide +kernel) rfl, jq_in 154 (by decide +kernel) rfl, jq_in 863 (by decide +kernel) rfl, ⟨by decide, by decide, by decide +kernel⟩⟩
theorem ml_RX6_74 : jq_sl RX6 74 yX6_opens cX6_opens 1 (some .boolean) 1 := ⟨jq_in 861 (by decide +kernel) rfl, yf_X6_opens⟩
theorem ml_RX6_80 : jq_vl RX6 80 yX5_hasFault cX5_hasFault 1 (some .boolean) 0 := ⟨jq_in 868 (by decide +kernel) rfl, yf_X5_hasFault⟩
theorem yf_X7_isDeep : Cond.instanceMethod yX7_isDeep ∈ jq_T ∧ Cond.selects (yX7_isDeep).cls yX7_isDeep yX7_isDeep ∈ jq_T ∧ Cond.initialized (yX7_isDeep).cls ∈ jq_T ∧ Cond.code yX7_isDeep cX7_isDeep 1 (some .boolean) ∈ jq_T ∧ ((yX7_isDeep).cls ≠ "java/lang/invoke/MethodHandle" ∧ (yX7_isDeep).cls ≠ "java/lang/invoke/VarHandle" ∧ (parseMethodDescriptor (yX7_isDeep).desc).map (fun d => d.parameters.length) = some 0) := ⟨jq_in 865 (by decide +kernel) rfl, jq_in 866 (by decide +kernel) rfl, jq_in 145 (by decide +kernel) rfl, jq_in 867 (by decide +kernel) rfl, ⟨by decide, by decide, by decide +kernel⟩⟩
theorem ml_RX6_77 : jq_vl RX6 77 yX7_isDeep cX7_isDeep 1 (some .boolean) 0 := ⟨jq_in 864 (by decide +kernel) rfl, yf_X7_isDeep⟩
theorem yf_X7_addStep : Cond.instanceMethod yX7_addStep ∈ jq_T ∧ Cond.selects (yX7_addStep).cls yX7_addStep yX7_addStep ∈ jq_T ∧ Cond.initialized (yX7_addStep).cls ∈ jq_T ∧ Cond.code yX7_addStep cX7_addStep 2 (some .int) ∈ jq_T ∧ ((yX7_addStep).cls ≠ "java/lang/invoke/MethodHandle" ∧ (yX7_addStep).cls ≠ "java/lang/invoke/VarHandle" ∧ (parseMethodDescriptor (yX7_addStep).desc).map (fun d => d.parameters.length) = some 1) := ⟨jq_in 873 (by decide +kernel) rfl, jq_in 874 (by decide +kernel) rfl, jq_in 145 (by decide +kernel) rfl, jq_in 875 (by decide +kernel) rfl, ⟨by decide, by decide, by decide +kernel⟩⟩
theorem ml_RX6_83 : jq_vl RX6 83 yX7_addStep cX7_addStep 2 (some .int) 1 := ⟨jq_in 872 (by decide +kernel) rfl, yf_X7_addStep⟩
theorem yf_X7_openAt : Cond.instanceMethod yX7_openAt ∈ jq_T ∧ Cond.selects (yX7_openAt).cls yX7_openAt yX7_openAt ∈ jq_T ∧ Cond.initialized (yX7_openAt).cls ∈ jq_T ∧ Cond.code yX7_openAt cX7_openAt 2 none ∈ jq_T ∧ ((yX7_openAt).cls ≠ "java/lang/invoke/MethodHandle" ∧ (yX7_openAt).cls ≠ "java/lang/invoke/VarHandle" ∧ (parseMethodDescriptor (yX7_openAt).desc).map (fun d => d.parameters.length) = some 1) := ⟨jq_in 877 (by decide +kernel) rfl, jq_in 878 (by decide +kernel) rfl, jq_in 145 (by decide +kernel) rfl, jq_in 879 (by decide +kernel) rfl, ⟨by decide, by decide, by decide +kernel⟩⟩
theorem ml_RX6_87 : jq_vl RX6 87 yX7_openAt cX7_openAt 2 none 1 := ⟨jq_in 876 (by decide +kernel) rfl, yf_X7_openAt⟩
theorem ml_RX5_141 : jq_vl RX5 141 yX5_articleHere cX5_articleHere 3 (some .int) 1 := ⟨jq_in 888 (by decide +kernel) rfl, yf_X5_articleHere⟩
theorem dX2_readWish_0 : decode cX2_readWish 0 = .ok (.aload_n 1, 1) := by decide +kernel
theorem dX2_readWish_1 : decode cX2_readWish 1 = .ok (.getfield 97, 3) := by decide +kernel
theorem dX2_readWish_4 : decode cX2_readWish 4 = .ok (.istore_n 3, 1) := by decide +kernel
theorem dX2_readWish_5 : decode cX2_readWish 5 = .ok (.iload_n 3, 1) := by decide +kernel
theorem dX2_readWish_6 : decode cX2_readWish 6 = .ok (.iconst 0, 1) := by decide +kernel
theorem dX2_readWish_7 : decode cX2_readWish 7 = .ok (.bipush 19, 2) := by decide +kernel
theorem dX2_readWish_9 : decode cX2_readWish 9 = .ok (.invokestatic 67, 3) := by decide +kernel
theorem dX2_readWish_12 : decode cX2_readWish 12 = .ok (.ifCond .ne 10, 3) := by decide +kernel
theorem dX2_readWish_15 : decode cX2_readWish 15 = .ok (.aload_n 0, 1) := by decide +kernel
theorem dX2_readWish_16 : decode cX2_readWish 16 = .ok (.bipush 6, 2) := by decide +kernel
theorem dX2_readWish_18 : decode cX2_readWish 18 = .ok (.invokevirtual 43, 3) := by decide +kernel
theorem dX2_readWish_21 : decode cX2_readWish 21 = .ok (.return_, 1) := by decide +kernel
theorem dX2_readWish_22 : decode cX2_readWish 22 = .ok (.aload_n 0, 1) := by decide +kernel
theorem dX2_readWish_23 : decode cX2_readWish 23 = .ok (.invokevirtual 50, 3) := by decide +kernel
theorem dX2_readWish_26 : decode cX2_readWish 26 = .ok (.aload_n 0, 1) := by decide +kernel
theorem dX2_readWish_27 : decode cX2_readWish 27 = .ok (.aload_n 1, 1) := by decide +kernel
theorem dX2_readWish_28 : decode cX2_readWish 28 = .ok (.invokevirtual 100, 3) := by decide +kernel
theorem dX2_readWish_31 : decode cX2_readWish 31 = .ok (.istore 4, 2) := by decide +kernel
theorem dX2_readWish_33 : decode cX2_readWish 33 = .ok (.aload_n 0, 1) := by decide +kernel
theorem dX2_readWish_34 : decode cX2_readWish 34 = .ok (.invokestatic 104, 3) := by decide +kernel
theorem dX2_readWish_37 : decode cX2_readWish 37 = .ok (.istore 5, 2) := by decide +kernel
theorem dX2_readWish_39 : decode cX2_readWish 39 = .ok (.aload_n 1, 1) := by decide +kernel
theorem dX2_readWish_40 : decode cX2_readWish 40 = .ok (.getfield 108, 3) := by decide +kernel
theorem dX2_readWish_43 : decode cX2_readWish 43 = .ok (.iload_n 3, 1) := by decide +kernel
theorem dX2_readWish_44 : decode cX2_readWish 44 = .ok (.iload 4, 2) := by decide +kernel
theorem dX2_readWish_46 : decode cX2_readWish 46 = .ok (.iastore, 1) := by decide +kernel
theorem dX2_readWish_47 : decode cX2_readWish 47 = .ok (.aload_n 1, 1) := by decide +kernel
theorem dX2_readWish_48 : decode cX2_readWish 48 = .ok (.getfield 111, 3) := by decide +kernel
theorem dX2_readWish_51 : decode cX2_readWish 51 = .ok (.iload_n 3, 1) := by decide +kernel
theorem dX2_readWish_52 : decode cX2_readWish 52 = .ok (.iload 5, 2) := by decide +kernel
theorem dX2_readWish_54 : decode cX2_readWish 54 = .ok (.iastore, 1) := by decide +kernel
theorem dX2_readWish_55 : decode cX2_readWish 55 = .ok (.aload_n 1, 1) := by decide +kernel
theorem dX2_readWish_56 : decode cX2_readWish 56 = .ok (.getfield 114, 3) := by decide +kernel
theorem dX2_readWish_59 : decode cX2_readWish 59 = .ok (.iload_n 3, 1) := by decide +kernel
theorem dX2_readWish_60 : decode cX2_readWish 60 = .ok (.iload 5, 2) := by decide +kernel
theorem dX2_readWish_62 : decode cX2_readWish 62 = .ok (.iconst 2, 1) := by decide +kernel
theorem dX2_readWish_63 : decode cX2_readWish 63 = .ok (.if_icmp .ne 7, 3) := by decide +kernel
theorem dX2_readWish_66 : decode cX2_readWish 66 = .ok (.iconst (-1), 1) := by decide +kernel
theorem dX2_readWish_67 : decode cX2_readWish 67 = .ok (.goto 10, 3) := by decide +kernel
theorem dX2_readWish_70 : decode cX2_readWish 70 = .ok (.aload_n 0, 1) := by decide +kernel
theorem dX2_readWish_71 : decode cX2_readWish 71 = .ok (.aload_n 1, 1) := by decide +kernel
theorem dX2_readWish_72 : decode cX2_readWish 72 = .ok (.iload 4, 2) := by decide +kernel
theorem dX2_readWish_74 : decode cX2_readWish 74 = .ok (.invokestatic 117, 3) := by decide +kernel
theorem dX2_readWish_77 : decode cX2_readWish 77 = .ok (.iastore, 1) := by decide +kernel
theorem dX2_readWish_78 : decode cX2_readWish 78 = .ok (.aload_n 0, 1) := by decide +kernel
theorem dX2_readWish_79 : decode cX2_readWish 79 = .ok (.bipush 9, 2) := by decide +kernel
theorem dX2_readWish_81 : decode cX2_readWish 81 = .ok (.invokevirtual 121, 3) := by decide +kernel
theorem dX2_readWish_84 : decode cX2_readWish 84 = .ok (.aload_n 1, 1) := by decide +kernel
theorem dX2_readWish_85 : decode cX2_readWish 85 = .ok (.getfield 124, 3) := by decide +kernel
theorem dX2_readWish_88 : decode cX2_readWish 88 = .ok (.iload_n 3, 1) := by decide +kernel
theorem dX2_readWish_89 : decode cX2_readWish 89 = .ok (.iload_n 2, 1) := by decide +kernel
theorem dX2_readWish_90 : decode cX2_readWish 90 = .ok (.aload_n 0, 1) := by decide +kernel
theorem dX2_readWish_91 : decode cX2_readWish 91 = .ok (.iconst 1, 1) := by decide +kernel
theorem dX2_readWish_92 : decode cX2_readWish 92 = .ok (.bipush 9, 2) := by decide +kernel
theorem dX2_readWish_94 : decode cX2_readWish 94 = .ok (.invokevirtual 53, 3) := by decide +kernel
theorem dX2_readWish_97 : decode cX2_readWish 97 = .ok (.imul, 1) := by decide +kernel
theorem dX2_readWish_98 : decode cX2_readWish 98 = .ok (.iastore, 1) := by decide +kernel
theorem dX2_readWish_99 : decode cX2_readWish 99 = .ok (.aload_n 1, 1) := by decide +kernel
theorem dX2_readWish_100 : decode cX2_readWish 100 = .ok (.dup, 1) := by decide +kernel
theorem dX2_readWish_101 : decode cX2_readWish 101 = .ok (.getfield 97, 3) := by decide +kernel
theorem dX2_readWish_104 : decode cX2_readWish 104 = .ok (.iconst 1, 1) := by decide +kernel
theorem dX2_readWish_105 : decode cX2_readWish 105 = .ok (.iadd, 1) := by decide +kernel
theorem dX2_readWish_106 : decode cX2_readWish 106 = .ok (.putfield 97, 3) := by decide +kernel
theorem dX2_readWish_109 : decode cX2_readWish 109 = .ok (.aload_n 0, 1) := by decide +kernel
theorem dX2_readWish_110 : decode cX2_readWish 110 = .ok (.bipush 59, 2) := by decide +kernel
theorem dX2_readWish_112 : decode cX2_readWish 112 = .ok (.invokevirtual 57, 3) := by decide +kernel
theorem dX2_readWish_115 : decode cX2_readWish 115 = .ok (.return_, 1) := by decide +kernel
set_option maxHeartbeats 4000000 in
set_option maxRecDepth 100000 in
theorem ctX2_readWish {p1 : Int} {p2 : Int} {σ : jq_M} {σ' : jq_M} (hp1 : jq_com p1) (h : X2_readWish p1 p2 σ = some σ') : jq_MC jq_zX yX2_readWish cX2_readWish 6 none 5 128 [jR 2, jR p1, jI p2] σ none σ' := by
  refine jq_met (own := RX2) (L0 := [(0, jR 2), (1, jR p1), (2, jI p2)]) (by decide) rfl rfl rfl ?_
  intro X Γ hnl hlY hRT
  refine jq_use2 (P := fun r => jq_RT jq_zX X none none r) ?_ h hRT
  intro K0 hK0
  unfold X2_readWish
  have hj77_0 : ∀ (j13 : Int) (j14 : Int) (j15 : Int) (s16 : jq_M), jq_J (X2_readWish_j77 p1 p2 j13 j14 j15 s16) K0 (jq_V jq_zX X (jq_zN jq_zX) s16 77 [(0, jR 2), (1, jR p1), (2, jI p2), (3, jI j13)] [jI j15, jI j14, jR (p1 + 6)]) := by
    intro j13 j14 j15 s16
    unfold X2_readWish_j77
    refine jq_iast Γ (at_com_6 hp1) rfl dX2_readWish_77 (fun s17 => ?_)
    refine jq_aload_n Γ dX2_readWish_78 rfl 0 rfl (jq_at_0 at_X_2) ?_
    refine jq_bipush Γ dX2_readWish_79 rfl ?_
    refine jq_cwV (jq_virt (avs := [jI 9]) (st := []) Γ hlY rfl ml_RX2_121 rfl at_X_2 rfl rfl rfl rfl rfl dX2_readWish_81) (fun σ' h => ctX5_passKeyword h) (fun s18 => ?_)
    refine jq_aload_n Γ dX2_readWish_84 rfl 1 rfl (jq_at_0 (at_com hp1)) ?_
    refine jq_getR (v := (p1 + 7)) Γ hlY (at_com hp1) fl_RX2_124 rfl rfl (ly_X1_worths hp1) dX2_readWish_85 ?_
    refine jq_iload_n Γ dX2_readWish_88 rfl 3 rfl ?_
    refine jq_iload_n Γ dX2_readWish_89 rfl 2 rfl ?_
    refine jq_aload_n Γ dX2_readWish_90 rfl 0 rfl (jq_at_0 at_X_2) ?_
    refine jq_iconst Γ dX2_readWish_91 rfl ?_
    refine jq_bipush Γ dX2_readWish_92 rfl ?_
    refine jq_cwI (jq_virt (avs := [jI 1, jI 9]) (st := [jI p2, jI j13, jR (p1 + 7)]) Γ hlY rfl ml_RX2_53 rfl at_X_2 rfl rfl rfl rfl rfl dX2_readWish_94) (fun r σ' h => ctX5_takeNumber h) (fun v19 s20 => ?_)
    refine jq_imul Γ dX2_readWish_97 ?_
    refine jq_iast Γ (at_com_7 hp1) rfl dX2_readWish_98 (fun s21 => ?_)
    refine jq_aload_n Γ dX2_readWish_99 rfl 1 rfl (jq_at_0 (at_com hp1)) ?_
    refine jq_dup Γ dX2_readWish_100 rfl ?_
    refine jq_getI (J := 3) Γ (at_com hp1) fl_RX2_97 rfl rfl dX2_readWish_101 ?_
    refine jq_iconst Γ dX2_readWish_104 rfl ?_
    refine jq_iadd Γ dX2_readWish_105 ?_
    refine jq_putI Γ (at_com hp1) fl_RX2_97 rfl rfl dX2_readWish_106 (fun s22 => ?_)
    refine jq_aload_n Γ dX2_readWish_109 rfl 0 rfl (jq_at_0 at_X_2) ?_
    refine jq_bipush Γ dX2_readWish_110 rfl ?_
    refine jq_cwV (jq_virt (avs := [jI 59]) (st := []) Γ hlY rfl ml_RX2_57 rfl at_X_2 rfl rfl rfl rfl rfl dX2_readWish_112) (fun σ' h => ctX5_passSign h) (fun s23 => ?_)
    exact jq_vreturn Γ dX2_readWish_115 (hK0 _)
  refine jq_aload_n Γ dX2_readWish_0 rfl 1 rfl (jq_at_0 (at_com hp1)) ?_
  refine jq_getI (J := 3) Γ (at_com hp1) fl_RX2_97 rfl rfl dX2_readWish_1 ?_
  refine jq_nmI (fun v1 => ?_)
  refine jq_istore_n (L' := [(3, jI v1), (0, jR 2), (1, jR p1), (2, jI p2)]) Γ dX2_readWish_4 rfl hnl rfl rfl ?_
  refine jq_iload_n Γ dX2_readWish_5 rfl 0 rfl ?_
  refine jq_iconst Γ dX2_readWish_6 rfl ?_
  refine jq_bipush Γ dX2_readWish_7 rfl ?_
  refine jq_cpZ (jq_nest (avs := [jI v1, jI 0, jI 19]) (st := []) Γ hlY rfl ml_RX2_67 rfl rfl rfl rfl rfl dX2_readWish_9) rfl (fun r h => ctX10_within h) (fun v2 hz3 => ?_)
  refine jq_if_ne (tgt := 22) Γ dX2_readWish_12 rfl ?_ ?_
  · refine jq_aload_n Γ dX2_readWish_22 rfl 1 rfl (jq_at_0 at_X_2) ?_
    refine jq_cwV (jq_virt (avs := []) (st := []) Γ hlY rfl ml_RX2_50 rfl at_X_2 rfl rfl rfl rfl rfl dX2_readWish_23) (fun σ' h => ctX5_next h) (fun s4 => ?_)
    refine jq_aload_n Γ dX2_readWish_26 rfl 1 rfl (jq_at_0 at_X_2) ?_
    refine jq_aload_n Γ dX2_readWish_27 rfl 2 rfl (jq_at_0 (at_com hp1)) ?_
    refine jq_cwI (jq_virt (avs := [jR p1]) (st := []) Γ hlY rfl ml_RX2_100 rfl at_X_2 rfl rfl rfl rfl rfl dX2_readWish_28) (fun r σ' h => ctX5_takeParty hp1 h) (fun v5 s6 => ?_)
    refine jq_istore (L' := [(4, jI v5), (3, jI v1), (0, jR 2), (1, jR p1), (2, jI p2)]) Γ dX2_readWish_31 hnl rfl rfl ?_
    refine jq_aload_n Γ dX2_readWish_33 rfl 2 rfl (jq_at_0 at_X_2) ?_
    refine jq_cwI (jq_stat (avs := [jR 2]) (st := []) Γ hlY rfl ml_RX2_104 rfl rfl rfl rfl rfl dX2_readWish_34) (fun r σ' h => ctX2_takeKind h) (fun v7 s8 => ?_)
    refine jq_istore (L' := [(5, jI v7), (4, jI v5), (3, jI v1), (0, jR 2), (1, jR p1), (2, jI p2)]) Γ dX2_readWish_37 hnl rfl rfl ?_
    refine jq_aload_n Γ dX2_readWish_39 rfl 4 rfl (jq_at_0 (at_com hp1)) ?_
    refine jq_getR (v := (p1 + 4)) Γ hlY (at_com hp1) fl_RX2_108 rfl rfl (ly_X1_whose hp1) dX2_readWish_40 ?_
    refine jq_iload_n Γ dX2_readWish_43 rfl 2 rfl ?_
    refine jq_iload Γ dX2_readWish_44 1 rfl ?_
    refine jq_iast Γ (at_com_4 hp1) rfl dX2_readWish_46 (fun s9 => ?_)
    refine jq_aload_n Γ dX2_readWish_47 rfl 4 rfl (jq_at_0 (at_com hp1)) ?_
    refine jq_getR (v := (p1 + 5)) Γ hlY (at_com hp1) fl_RX2_111 rfl rfl (ly_X1_kinds hp1) dX2_readWish_48 ?_
    refine jq_iload_n Γ dX2_readWish_51 rfl 2 rfl ?_
    refine jq_iload Γ dX2_readWish_52 0 rfl ?_
    refine jq_iast Γ (at_com_5 hp1) rfl dX2_readWish_54 (fun s10 => ?_)
    refine jq_aload_n Γ dX2_readWish_55 rfl 4 rfl (jq_at_0 (at_com hp1)) ?_
    refine jq_getR (v := (p1 + 6)) Γ hlY (at_com hp1) fl_RX2_114 rfl rfl (ly_X1_whom hp1) dX2_readWish_56 ?_
    refine jq_iload_n Γ dX2_readWish_59 rfl 2 rfl ?_
    refine jq_iload Γ dX2_readWish_60 0 rfl ?_
    refine jq_iconst Γ dX2_readWish_62 rfl ?_
    refine jq_icmp_ne (tgt := 70) Γ dX2_readWish_63 rfl ?_ ?_
    · refine jq_aload_n Γ dX2_readWish_70 rfl 3 rfl (jq_at_0 at_X_2) ?_
      refine jq_aload_n Γ dX2_readWish_71 rfl 4 rfl (jq_at_0 (at_com hp1)) ?_
      refine jq_iload Γ dX2_readWish_72 1 rfl ?_
      refine jq_cwI (jq_stat (avs := [jR 2, jR p1, jI v5]) (st := [jI v1, jR (p1 + 6)]) Γ hlY rfl ml_RX2_117 rfl rfl rfl rfl rfl dX2_readWish_74) (fun r σ' h => ctX2_takeOther hp1 h) (fun v11 s12 => ?_)
      refine jq_sub Γ (L' := [(0, jR 2), (1, jR p1), (2, jI p2), (3, jI v1)]) [3, 4, 5, 2] rfl ?_
      exact hj77_0 v1 v1 v11 s12
    · refine jq_iconst Γ dX2_readWish_66 rfl ?_
      refine jq_goto Γ (tgt := 77) dX2_readWish_67 rfl ?_
      refine jq_sub Γ (L' := [(0, jR 2), (1, jR p1), (2, jI p2), (3, jI v1)]) [3, 4, 5, 2] rfl ?_
      exact hj77_0 v1 v1 (-1) s10
  · refine jq_aload_n Γ dX2_readWish_15 rfl 1 rfl (jq_at_0 at_X_2) ?_
    refine jq_bipush Γ dX2_readWish_16 rfl ?_
    refine jq_cwV (jq_virt (avs := [jI 6]) (st := []) Γ hlY rfl ml_RX2_43 rfl at_X_2 rfl rfl rfl rfl rfl dX2_readWish_18) (fun σ' h => ctX5_blame h) (fun s24 => ?_)
    exact jq_vreturn Γ dX2_readWish_21 (hK0 _)


theorem dX5_articleHere_0 : decode cX5_articleHere 0 = .ok (.aload_n 1, 1) := by decide +kernel
theorem dX5_articleHere_1 : decode cX5_articleHere 1 = .ok (.aload_n 0, 1) := by decide +kernel
theorem dX5_articleHere_2 : decode cX5_articleHere 2 = .ok (.getfield 77, 3) := by decide +kernel
theorem dX5_articleHere_5 : decode cX5_articleHere 5 = .ok (.invokevirtual 138, 3) := by decide +kernel
theorem dX5_articleHere_8 : decode cX5_articleHere 8 = .ok (.istore_n 2, 1) := by decide +kernel
theorem dX5_articleHere_9 : decode cX5_articleHere 9 = .ok (.aload_n 0, 1) := by decide +kernel
theorem dX5_articleHere_10 : decode cX5_articleHere 10 = .ok (.iload_n 2, 1) := by decide +kernel
theorem dX5_articleHere_11 : decode cX5_articleHere 11 = .ok (.invokevirtual 131, 3) := by decide +kernel
theorem dX5_articleHere_14 : decode cX5_articleHere 14 = .ok (.aload_n 0, 1) := by decide +kernel
theorem dX5_articleHere_15 : decode cX5_articleHere 15 = .ok (.invokevirtual 118, 3) := by decide +kernel
theorem dX5_articleHere_18 : decode cX5_articleHere 18 = .ok (.ifCond .eq 7, 3) := by decide +kernel
theorem dX5_articleHere_21 : decode cX5_articleHere 21 = .ok (.iconst 0, 1) := by decide +kernel
theorem dX5_articleHere_22 : decode cX5_articleHere 22 = .ok (.goto 4, 3) := by decide +kernel
theorem dX5_articleHere_25 : decode cX5_articleHere 25 = .ok (.iload_n 2, 1) := by decide +kernel
theorem dX5_articleHere_26 : decode cX5_articleHere 26 = .ok (.ireturn, 1) := by decide +kernel
set_option maxHeartbeats 4000000 in
set_option maxRecDepth 100000 in
theorem ctX5_articleHere {p1 : Int} {σ : jq_M} {res : Int} {σ' : jq_M} (hp1 : jq_com p1) (h : X5_articleHere p1 σ = some (res, σ')) : jq_MC jq_zX yX5_articleHere cX5_articleHere 3 (some .int) 3 82 [jR 2, jR p1] σ (some (jI res)) σ' := by
  refine jq_met (own := RX5) (L0 := [(0, jR 2), (1, jR p1)]) (by decide) rfl rfl rfl ?_
  intro X Γ hnl hlY hRT
  refine jq_use2 (P := fun r => jq_RT jq_zX X (some .int) (some (jI r.1)) r.2) ?_ h hRT
  intro K0 hK0
  unfold X5_articleHere
  refine jq_aload_n Γ dX5_articleHere_0 rfl 1 rfl (jq_at_0 (at_com hp1)) ?_
  refine jq_aload_n Γ dX5_articleHere_1 rfl 0 rfl (jq_at_0 at_X_2) ?_
  refine jq_getL (J := 9) Γ at_X_2 fl_RX5_77 rfl rfl dX5_articleHere_2 ?_
  refine jq_cpI (jq_virt (avs := [jL (σ 2 9)]) (st := []) Γ hlY rfl ml_RX5_138 rfl (at_com hp1) rfl rfl rfl rfl rfl dX5_articleHere_5) (fun r h => ctX1_articleNamed hp1 h) (fun v1 => ?_)
  refine jq_istore_n (L' := [(2, jI v1), (0, jR 2), (1, jR p1)]) Γ dX5_articleHere_8 rfl hnl rfl rfl ?_
  refine jq_aload_n Γ dX5_articleHere_9 rfl 1 rfl (jq_at_0 at_X_2) ?_
  refine jq_iload_n Γ dX5_articleHere_10 rfl 0 rfl ?_
  refine jq_cwV (jq_virt (avs := [jI v1]) (st := []) Γ hlY rfl ml_RX5_131 rfl at_X_2 rfl rfl rfl rfl rfl dX5_articleHere_11) (fun σ' h => ctX5_blameUnlessNamed h) (fun s2 => ?_)
  refine jq_aload_n Γ dX5_articleHere_14 rfl 1 rfl (jq_at_0 at_X_2) ?_
  refine jq_cpZ (jq_virt (avs := []) (st := []) Γ hlY rfl ml_RX5_118 rfl at_X_2 rfl rfl rfl rfl rfl dX5_articleHere_15) rfl (fun r h => ctX5_hasFault h) (fun v3 hz4 => ?_)
  refine jq_if_eq (tgt := 25) Γ dX5_articleHere_18 rfl ?_ ?_
  · refine jq_iload_n Γ dX5_articleHere_25 rfl 0 rfl ?_
    exact jq_ireturn Γ dX5_articleHere_26 (hK0 _)
  · refine jq_iconst Γ dX5_articleHere_21 rfl ?_
    refine jq_goto Γ (tgt := 26) dX5_articleHere_22 rfl ?_
    exact jq_ireturn Γ dX5_articleHere_26 (hK0 _)


theorem dX10_holds_0 : decode cX10_holds 0 = .ok (.iload_n 0, 1) := by decide +kernel
theorem dX10_holds_1 : decode cX10_holds 1 = .ok (.iload_n 1, 1) := by decide +kernel
theorem dX10_holds_2 : decode cX10_holds 2 = .ok (.ishr, 1) := by decide +kernel
theorem dX10_holds_3 : decode cX10_holds 3 = .ok (.iconst 1, 1) := by decide +kernel
theorem dX10_holds_4 : decode cX10_holds 4 = .ok (.iand, 1) := by decide +kernel
theorem dX10_holds_5 : decode cX10_holds 5 = .ok (.iconst 1, 1) := by decide +kernel
theorem dX10_holds_6 : decode cX10_holds 6 = .ok (.if_icmp .ne 7, 3) := by decide +kernel
theorem dX10_holds_9 : decode cX10_holds 9 = .ok (.iconst 1, 1) := by decide +kernel
theorem dX10_holds_10 : decode cX10_holds 10 = .ok (.goto 4, 3) := by decide +kernel
theorem dX10_holds_13 : decode cX10_holds 13 = .ok (.iconst 0, 1) := by decide +kernel
theorem dX10_holds_14 : decode cX10_holds 14 = .ok (.ireturn, 1) := by decide +kernel
set_option maxHeartbeats 4000000 in
set_option maxRecDepth 100000 in
theorem ctX10_holds {p0 : Int} {p1 : Int} {σ : jq_M} {res : Int}  (h : X10_holds p0 p1 σ = some res) : jq_MC jq_zX yX10_holds cX10_holds 2 (some .boolean) 1 40 [jI p0, jI p1] σ (some (jI res)) σ := by
  refine jq_met (own := RX10) (L0 := [(0, jI p0), (1, jI p1)]) (by decide) rfl rfl rfl ?_
  intro X Γ hnl hlY hRT
  refine jq_use2 (P := fun r => jq_RT jq_zX X (some .boolean) (some (jI r)) σ) ?_ h hRT
  intro K0 hK0
  unfold X10_holds
  refine jq_iload_n Γ dX10_holds_0 rfl 0 rfl ?_
  refine jq_iload_n Γ dX10_holds_1 rfl 1 rfl ?_
  refine jq_ishr Γ dX10_holds_2 ?_
  refine jq_iconst Γ dX10_holds_3 rfl ?_
  refine jq_iand Γ dX10_holds_4 ?_
  refine jq_iconst Γ dX10_holds_5 rfl ?_
  refine jq_icmp_ne (tgt := 13) Γ dX10_holds_6 rfl ?_ ?_
  · refine jq_iconst Γ dX10_holds_13 rfl ?_
    exact jq_zreturn Γ (Or.inl rfl) dX10_holds_14 (hK0 _)
  · refine jq_iconst Γ dX10_holds_9 rfl ?_
    refine jq_goto Γ (tgt := 14) dX10_holds_10 rfl ?_
    exact jq_zreturn Γ (Or.inr rfl) dX10_holds_14 (hK0 _)


theorem dX2_takeLeans_0 : decode cX2_takeLeans 0 = .ok (.iconst 0, 1) := by decide +kernel
theorem dX2_takeLeans_1 : decode cX2_takeLeans 1 = .ok (.istore_n 2, 1) := by decide +kernel
theorem dX2_takeLeans_2 : decode cX2_takeLeans 2 = .ok (.iconst 0, 1) := by decide +kernel
theorem dX2_takeLeans_3 : decode cX2_takeLeans 3 = .ok (.istore_n 3, 1) := by decide +kernel
theorem dX2_takeLeans_4 : decode cX2_takeLeans 4 = .ok (.iload_n 3, 1) := by decide +kernel
theorem dX2_takeLeans_5 : decode cX2_takeLeans 5 = .ok (.sipush 900, 3) := by decide +kernel
theorem dX2_takeLeans_8 : decode cX2_takeLeans 8 = .ok (.if_icmp .ge 57, 3) := by decide +kernel
theorem dX2_takeLeans_11 : decode cX2_takeLeans 11 = .ok (.aload_n 0, 1) := by decide +kernel
theorem dX2_takeLeans_12 : decode cX2_takeLeans 12 = .ok (.invokevirtual 14, 3) := by decide +kernel
theorem dX2_takeLeans_15 : decode cX2_takeLeans 15 = .ok (.ifCond .eq 50, 3) := by decide +kernel
theorem dX2_takeLeans_18 : decode cX2_takeLeans 18 = .ok (.aload_n 0, 1) := by decide +kernel
theorem dX2_takeLeans_19 : decode cX2_takeLeans 19 = .ok (.bipush 59, 2) := by decide +kernel
theorem dX2_takeLeans_21 : decode cX2_takeLeans 21 = .ok (.invokevirtual 151, 3) := by decide +kernel
theorem dX2_takeLeans_24 : decode cX2_takeLeans 24 = .ok (.ifCond .ne 41, 3) := by decide +kernel
theorem dX2_takeLeans_27 : decode cX2_takeLeans 27 = .ok (.aload_n 0, 1) := by decide +kernel
theorem dX2_takeLeans_28 : decode cX2_takeLeans 28 = .ok (.aload_n 1, 1) := by decide +kernel
theorem dX2_takeLeans_29 : decode cX2_takeLeans 29 = .ok (.invokevirtual 155, 3) := by decide +kernel
theorem dX2_takeLeans_32 : decode cX2_takeLeans 32 = .ok (.istore 4, 2) := by decide +kernel
theorem dX2_takeLeans_34 : decode cX2_takeLeans 34 = .ok (.iload_n 2, 1) := by decide +kernel
theorem dX2_takeLeans_35 : decode cX2_takeLeans 35 = .ok (.iload 4, 2) := by decide +kernel
theorem dX2_takeLeans_37 : decode cX2_takeLeans 37 = .ok (.invokestatic 158, 3) := by decide +kernel
theorem dX2_takeLeans_40 : decode cX2_takeLeans 40 = .ok (.ifCond .eq 8, 3) := by decide +kernel
theorem dX2_takeLeans_43 : decode cX2_takeLeans 43 = .ok (.aload_n 0, 1) := by decide +kernel
theorem dX2_takeLeans_44 : decode cX2_takeLeans 44 = .ok (.iconst 5, 1) := by decide +kernel
theorem dX2_takeLeans_45 : decode cX2_takeLeans 45 = .ok (.invokevirtual 43, 3) := by decide +kernel
theorem dX2_takeLeans_48 : decode cX2_takeLeans 48 = .ok (.iload_n 2, 1) := by decide +kernel
theorem dX2_takeLeans_49 : decode cX2_takeLeans 49 = .ok (.iconst 1, 1) := by decide +kernel
theorem dX2_takeLeans_50 : decode cX2_takeLeans 50 = .ok (.iload 4, 2) := by decide +kernel
theorem dX2_takeLeans_52 : decode cX2_takeLeans 52 = .ok (.ishl, 1) := by decide +kernel
theorem dX2_takeLeans_53 : decode cX2_takeLeans 53 = .ok (.ior, 1) := by decide +kernel
theorem dX2_takeLeans_54 : decode cX2_takeLeans 54 = .ok (.istore_n 2, 1) := by decide +kernel
theorem dX2_takeLeans_55 : decode cX2_takeLeans 55 = .ok (.aload_n 0, 1) := by decide +kernel
theorem dX2_takeLeans_56 : decode cX2_takeLeans 56 = .ok (.invokevirtual 50, 3) := by decide +kernel
theorem dX2_takeLeans_59 : decode cX2_takeLeans 59 = .ok (.iinc 3 1, 3) := by decide +kernel
theorem dX2_takeLeans_62 : decode cX2_takeLeans 62 = .ok (.goto (-58), 3) := by decide +kernel
theorem dX2_takeLeans_65 : decode cX2_takeLeans 65 = .ok (.iload_n 2, 1) := by decide +kernel
theorem dX2_takeLeans_66 : decode cX2_takeLeans 66 = .ok (.ireturn, 1) := by decide +kernel
set_option maxHeartbeats 4000000 in
set_option maxRecDepth 100000 in
theorem ctX2_takeLeans {p1 : Int} {σ : jq_M} {res : Int} {σ' : jq_M} (hp1 : jq_com p1) (h : X2_takeLeans p1 σ = some (res, σ')) : jq_MC jq_zX yX2_takeLeans cX2_takeLeans 5 (some .int) 4 105 [jR 2, jR p1] σ (some (jI res)) σ' := by
  refine jq_met (own := RX2) (L0 := [(0, jR 2), (1, jR p1)]) (by decide) rfl rfl rfl ?_
  intro X Γ hnl hlY hRT
  refine jq_use2 (P := fun r => jq_RT jq_zX X (some .int) (some (jI r.1)) r.2) ?_ h hRT
  intro K0 hK0
  unfold X2_takeLeans
  refine jq_iconst Γ dX2_takeLeans_0 rfl ?_
  refine jq_istore_n (L' := [(2, jI 0), (0, jR 2), (1, jR p1)]) Γ dX2_takeLeans_1 rfl hnl rfl rfl ?_
  refine jq_iconst Γ dX2_takeLeans_2 rfl ?_
  refine jq_istore_n (L' := [(3, jI 0), (2, jI 0), (0, jR 2), (1, jR p1)]) Γ dX2_takeLeans_3 rfl hnl rfl rfl ?_
  refine jq_sub Γ (L' := [(0, jR 2), (1, jR p1), (2, jI 0), (3, jI 0)]) [2, 3, 1, 0] rfl ?_
  refine jq_loop2 (C := fun (t1 : Int × Int × jq_M) => jq_V jq_zX X (jq_zN jq_zX) t1.2.2 4 [(0, jR 2), (1, jR p1), (2, jI t1.1), (3, jI t1.2.1)] []) (KX := fun (e18 : Int × jq_M) => jq_V jq_zX X (jq_zN jq_zX) e18.2 65 [(2, jI e18.1)] []) ?_ ?_ (0, 0, σ)
  · intro K4_t1 hCt1 hXt1 t1
    unfold X2_takeLeans_b4
    have hj48_1005 : ∀ (j10 : Int) (j11 : Int) (j12 : Int) (s13 : jq_M), jq_J (X2_takeLeans_j48 p1 j10 j11 j12 s13) K4_t1 (jq_V jq_zX X (jq_zN jq_zX) s13 48 [(0, jR 2), (1, jR p1), (2, jI j10), (3, jI j11), (4, jI j12)] []) := by
      intro j10 j11 j12 s13
      unfold X2_takeLeans_j48
      refine jq_iload_n Γ dX2_takeLeans_48 rfl 2 rfl ?_
      refine jq_iconst Γ dX2_takeLeans_49 rfl ?_
      refine jq_iload Γ dX2_takeLeans_50 4 rfl ?_
      refine jq_ishl Γ dX2_takeLeans_52 ?_
      refine jq_ior Γ dX2_takeLeans_53 ?_
      refine jq_nmI (fun v14 => ?_)
      refine jq_istore_n (L' := [(2, jI v14), (0, jR 2), (1, jR p1), (3, jI j11), (4, jI j12)]) Γ dX2_takeLeans_54 rfl hnl rfl rfl ?_
      refine jq_aload_n Γ dX2_takeLeans_55 rfl 1 rfl (jq_at_0 at_X_2) ?_
      refine jq_cwV (jq_virt (avs := []) (st := []) Γ hlY rfl ml_RX2_50 rfl at_X_2 rfl rfl rfl rfl rfl dX2_takeLeans_56) (fun σ' h => ctX5_next h) (fun s15 => ?_)
      refine jq_iincN (L' := fun v16 => [(3, jI v16), (2, jI v14), (0, jR 2), (1, jR p1), (4, jI j12)]) Γ dX2_takeLeans_59 3 rfl hnl rfl (fun _ => rfl) (fun v16 => ?_)
      refine jq_goto Γ (tgt := 4) dX2_takeLeans_62 rfl ?_
      refine jq_sub Γ (L' := [(0, jR 2), (1, jR p1), (2, jI v14), (3, jI v16)]) [2, 3, 1, 0] rfl ?_
      exact jq_done (hCt1 (v14, v16, s15))
    refine jq_iload_n Γ dX2_takeLeans_4 rfl 3 rfl ?_
    refine jq_sipush Γ dX2_takeLeans_5 rfl ?_
    refine jq_icmp_ge (tgt := 65) Γ dX2_takeLeans_8 rfl ?_ ?_
    · refine jq_sub Γ (L' := [(2, jI t1.1)]) [2] rfl ?_
      exact jq_done (hXt1 (t1.1, t1.2.2))
    · refine jq_aload_n Γ dX2_takeLeans_11 rfl 0 rfl (jq_at_0 at_X_2) ?_
      refine jq_cpZ (jq_virt (avs := []) (st := []) Γ hlY rfl ml_RX2_14 rfl at_X_2 rfl rfl rfl rfl rfl dX2_takeLeans_12) rfl (fun r h => ctX5_goesOn h) (fun v2 hz3 => ?_)
      refine jq_if_eq (tgt := 65) Γ dX2_takeLeans_15 rfl ?_ ?_
      · refine jq_sub Γ (L' := [(2, jI t1.1)]) [2] rfl ?_
        exact jq_done (hXt1 (t1.1, t1.2.2))
      · refine jq_aload_n Γ dX2_takeLeans_18 rfl 0 rfl (jq_at_0 at_X_2) ?_
        refine jq_bipush Γ dX2_takeLeans_19 rfl ?_
        refine jq_cpZ (jq_virt (avs := [jI 59]) (st := []) Γ hlY rfl ml_RX2_151 rfl at_X_2 rfl rfl rfl rfl rfl dX2_takeLeans_21) rfl (fun r h => ctX5_isSign h) (fun v4 hz5 => ?_)
        refine jq_if_ne (tgt := 65) Γ dX2_takeLeans_24 rfl ?_ ?_
        · refine jq_sub Γ (L' := [(2, jI t1.1)]) [2] rfl ?_
          exact jq_done (hXt1 (t1.1, t1.2.2))
        · refine jq_aload_n Γ dX2_takeLeans_27 rfl 0 rfl (jq_at_0 at_X_2) ?_
          refine jq_aload_n Γ dX2_takeLeans_28 rfl 1 rfl (jq_at_0 (at_com hp1)) ?_
          refine jq_cwI (jq_virt (avs := [jR p1]) (st := []) Γ hlY rfl ml_RX2_155 rfl at_X_2 rfl rfl rfl rfl rfl dX2_takeLeans_29) (fun r σ' h => ctX5_articleHere hp1 h) (fun v6 s7 => ?_)
          refine jq_istore (L' := [(4, jI v6), (0, jR 2), (1, jR p1), (2, jI t1.1), (3, jI t1.2.1)]) Γ dX2_takeLeans_32 hnl rfl rfl ?_
          refine jq_iload_n Γ dX2_takeLeans_34 rfl 3 rfl ?_
          refine jq_iload Γ dX2_takeLeans_35 0 rfl ?_
          refine jq_cpZ (jq_nest (avs := [jI t1.1, jI v6]) (st := []) Γ hlY rfl ml_RX2_158 rfl rfl rfl rfl rfl dX2_takeLeans_37) rfl (fun r h => ctX10_holds h) (fun v8 hz9 => ?_)
          refine jq_if_eq (tgt := 48) Γ dX2_takeLeans_40 rfl ?_ ?_
          · refine jq_sub Γ (L' := [(0, jR 2), (1, jR p1), (2, jI t1.1), (3, jI t1.2.1), (4, jI v6)]) [1, 2, 3, 4, 0] rfl ?_
            exact hj48_1005 t1.1 t1.2.1 v6 s7
          · refine jq_aload_n Γ dX2_takeLeans_43 rfl 1 rfl (jq_at_0 at_X_2) ?_
            refine jq_iconst Γ dX2_takeLeans_44 rfl ?_
            refine jq_cwV (jq_virt (avs := [jI 5]) (st := []) Γ hlY rfl ml_RX2_43 rfl at_X_2 rfl rfl rfl rfl rfl dX2_takeLeans_45) (fun σ' h => ctX5_blame h) (fun s17 => ?_)
            refine jq_sub Γ (L' := [(0, jR 2), (1, jR p1), (2, jI t1.1), (3, jI t1.2.1), (4, jI v6)]) [1, 2, 3, 4, 0] rfl ?_
            exact hj48_1005 t1.1 t1.2.1 v6 s17
  · intro e18
    refine jq_iload_n Γ dX2_takeLeans_65 rfl 0 rfl ?_
    exact jq_ireturn Γ dX2_takeLeans_66 (hK0 _)


theorem dX2_readArticle_0 : decode cX2_readArticle 0 = .ok (.aload_n 1, 1) := by decide +kernel
theorem dX2_readArticle_1 : decode cX2_readArticle 1 = .ok (.getfield 130, 3) := by decide +kernel
theorem dX2_readArticle_4 : decode cX2_readArticle 4 = .ok (.istore_n 2, 1) := by decide +kernel
theorem dX2_readArticle_5 : decode cX2_readArticle 5 = .ok (.iload_n 2, 1) := by decide +kernel
theorem dX2_readArticle_6 : decode cX2_readArticle 6 = .ok (.iconst 0, 1) := by decide +kernel
theorem dX2_readArticle_7 : decode cX2_readArticle 7 = .ok (.bipush 7, 2) := by decide +kernel
theorem dX2_readArticle_9 : decode cX2_readArticle 9 = .ok (.invokestatic 67, 3) := by decide +kernel
theorem dX2_readArticle_12 : decode cX2_readArticle 12 = .ok (.ifCond .ne 10, 3) := by decide +kernel
theorem dX2_readArticle_15 : decode cX2_readArticle 15 = .ok (.aload_n 0, 1) := by decide +kernel
theorem dX2_readArticle_16 : decode cX2_readArticle 16 = .ok (.bipush 6, 2) := by decide +kernel
theorem dX2_readArticle_18 : decode cX2_readArticle 18 = .ok (.invokevirtual 43, 3) := by decide +kernel
theorem dX2_readArticle_21 : decode cX2_readArticle 21 = .ok (.return_, 1) := by decide +kernel
theorem dX2_readArticle_22 : decode cX2_readArticle 22 = .ok (.aload_n 0, 1) := by decide +kernel
theorem dX2_readArticle_23 : decode cX2_readArticle 23 = .ok (.invokevirtual 50, 3) := by decide +kernel
theorem dX2_readArticle_26 : decode cX2_readArticle 26 = .ok (.aload_n 1, 1) := by decide +kernel
theorem dX2_readArticle_27 : decode cX2_readArticle 27 = .ok (.getfield 133, 3) := by decide +kernel
theorem dX2_readArticle_30 : decode cX2_readArticle 30 = .ok (.iload_n 2, 1) := by decide +kernel
theorem dX2_readArticle_31 : decode cX2_readArticle 31 = .ok (.aload_n 0, 1) := by decide +kernel
theorem dX2_readArticle_32 : decode cX2_readArticle 32 = .ok (.aload_n 1, 1) := by decide +kernel
theorem dX2_readArticle_33 : decode cX2_readArticle 33 = .ok (.invokevirtual 75, 3) := by decide +kernel
theorem dX2_readArticle_36 : decode cX2_readArticle 36 = .ok (.lastore, 1) := by decide +kernel
theorem dX2_readArticle_37 : decode cX2_readArticle 37 = .ok (.aload_n 0, 1) := by decide +kernel
theorem dX2_readArticle_38 : decode cX2_readArticle 38 = .ok (.bipush 11, 2) := by decide +kernel
theorem dX2_readArticle_40 : decode cX2_readArticle 40 = .ok (.invokevirtual 121, 3) := by decide +kernel
theorem dX2_readArticle_43 : decode cX2_readArticle 43 = .ok (.aload_n 1, 1) := by decide +kernel
theorem dX2_readArticle_44 : decode cX2_readArticle 44 = .ok (.getfield 136, 3) := by decide +kernel
theorem dX2_readArticle_47 : decode cX2_readArticle 47 = .ok (.iload_n 2, 1) := by decide +kernel
theorem dX2_readArticle_48 : decode cX2_readArticle 48 = .ok (.aload_n 0, 1) := by decide +kernel
theorem dX2_readArticle_49 : decode cX2_readArticle 49 = .ok (.iconst 1, 1) := by decide +kernel
theorem dX2_readArticle_50 : decode cX2_readArticle 50 = .ok (.bipush 30, 2) := by decide +kernel
theorem dX2_readArticle_52 : decode cX2_readArticle 52 = .ok (.invokevirtual 53, 3) := by decide +kernel
theorem dX2_readArticle_55 : decode cX2_readArticle 55 = .ok (.iastore, 1) := by decide +kernel
theorem dX2_readArticle_56 : decode cX2_readArticle 56 = .ok (.aload_n 1, 1) := by decide +kernel
theorem dX2_readArticle_57 : decode cX2_readArticle 57 = .ok (.getfield 139, 3) := by decide +kernel
theorem dX2_readArticle_60 : decode cX2_readArticle 60 = .ok (.iload_n 2, 1) := by decide +kernel
theorem dX2_readArticle_61 : decode cX2_readArticle 61 = .ok (.bipush 16, 2) := by decide +kernel
theorem dX2_readArticle_63 : decode cX2_readArticle 63 = .ok (.iastore, 1) := by decide +kernel
theorem dX2_readArticle_64 : decode cX2_readArticle 64 = .ok (.aload_n 0, 1) := by decide +kernel
theorem dX2_readArticle_65 : decode cX2_readArticle 65 = .ok (.getfield 20, 3) := by decide +kernel
theorem dX2_readArticle_68 : decode cX2_readArticle 68 = .ok (.bipush 12, 2) := by decide +kernel
theorem dX2_readArticle_70 : decode cX2_readArticle 70 = .ok (.if_icmp .ne 20, 3) := by decide +kernel
theorem dX2_readArticle_73 : decode cX2_readArticle 73 = .ok (.aload_n 0, 1) := by decide +kernel
theorem dX2_readArticle_74 : decode cX2_readArticle 74 = .ok (.invokevirtual 50, 3) := by decide +kernel
theorem dX2_readArticle_77 : decode cX2_readArticle 77 = .ok (.aload_n 1, 1) := by decide +kernel
theorem dX2_readArticle_78 : decode cX2_readArticle 78 = .ok (.getfield 139, 3) := by decide +kernel
theorem dX2_readArticle_81 : decode cX2_readArticle 81 = .ok (.iload_n 2, 1) := by decide +kernel
theorem dX2_readArticle_82 : decode cX2_readArticle 82 = .ok (.aload_n 0, 1) := by decide +kernel
theorem dX2_readArticle_83 : decode cX2_readArticle 83 = .ok (.iconst 0, 1) := by decide +kernel
theorem dX2_readArticle_84 : decode cX2_readArticle 84 = .ok (.bipush 16, 2) := by decide +kernel
theorem dX2_readArticle_86 : decode cX2_readArticle 86 = .ok (.invokevirtual 53, 3) := by decide +kernel
theorem dX2_readArticle_89 : decode cX2_readArticle 89 = .ok (.iastore, 1) := by decide +kernel
theorem dX2_readArticle_90 : decode cX2_readArticle 90 = .ok (.aload_n 1, 1) := by decide +kernel
theorem dX2_readArticle_91 : decode cX2_readArticle 91 = .ok (.getfield 142, 3) := by decide +kernel
theorem dX2_readArticle_94 : decode cX2_readArticle 94 = .ok (.iload_n 2, 1) := by decide +kernel
theorem dX2_readArticle_95 : decode cX2_readArticle 95 = .ok (.aload_n 0, 1) := by decide +kernel
theorem dX2_readArticle_96 : decode cX2_readArticle 96 = .ok (.aload_n 1, 1) := by decide +kernel
theorem dX2_readArticle_97 : decode cX2_readArticle 97 = .ok (.invokestatic 145, 3) := by decide +kernel
theorem dX2_readArticle_100 : decode cX2_readArticle 100 = .ok (.iastore, 1) := by decide +kernel
theorem dX2_readArticle_101 : decode cX2_readArticle 101 = .ok (.aload_n 1, 1) := by decide +kernel
theorem dX2_readArticle_102 : decode cX2_readArticle 102 = .ok (.getfield 148, 3) := by decide +kernel
theorem dX2_readArticle_105 : decode cX2_readArticle 105 = .ok (.iload_n 2, 1) := by decide +kernel
theorem dX2_readArticle_106 : decode cX2_readArticle 106 = .ok (.iconst 0, 1) := by decide +kernel
theorem dX2_readArticle_107 : decode cX2_readArticle 107 = .ok (.iastore, 1) := by decide +kernel
theorem dX2_readArticle_108 : decode cX2_readArticle 108 = .ok (.aload_n 1, 1) := by decide +kernel
theorem dX2_readArticle_109 : decode cX2_readArticle 109 = .ok (.dup, 1) := by decide +kernel
theorem dX2_readArticle_110 : decode cX2_readArticle 110 = .ok (.getfield 130, 3) := by decide +kernel
theorem dX2_readArticle_113 : decode cX2_readArticle 113 = .ok (.iconst 1, 1) := by decide +kernel
theorem dX2_readArticle_114 : decode cX2_readArticle 114 = .ok (.iadd, 1) := by decide +kernel
theorem dX2_readArticle_115 : decode cX2_readArticle 115 = .ok (.putfield 130, 3) := by decide +kernel
theorem dX2_readArticle_118 : decode cX2_readArticle 118 = .ok (.aload_n 0, 1) := by decide +kernel
theorem dX2_readArticle_119 : decode cX2_readArticle 119 = .ok (.bipush 59, 2) := by decide +kernel
theorem dX2_readArticle_121 : decode cX2_readArticle 121 = .ok (.invokevirtual 57, 3) := by decide +kernel
theorem dX2_readArticle_124 : decode cX2_readArticle 124 = .ok (.return_, 1) := by decide +kernel
set_option maxHeartbeats 4000000 in
set_option maxRecDepth 100000 in
theorem ctX2_readArticle {p1 : Int} {σ : jq_M} {σ' : jq_M} (hp1 : jq_com p1) (h : X2_readArticle p1 σ = some σ') : jq_MC jq_zX yX2_readArticle cX2_readArticle 3 none 5 129 [jR 2, jR p1] σ none σ' := by
  refine jq_met (own := RX2) (L0 := [(0, jR 2), (1, jR p1)]) (by decide) rfl rfl rfl ?_
  intro X Γ hnl hlY hRT
  refine jq_use2 (P := fun r => jq_RT jq_zX X none none r) ?_ h hRT
  intro K0 hK0
  unfold X2_readArticle
  have hj90_0 : ∀ (j13 : Int) (s14 : jq_M), jq_J (X2_readArticle_j90 p1 j13 s14) K0 (jq_V jq_zX X (jq_zN jq_zX) s14 90 [(0, jR 2), (1, jR p1), (2, jI j13)] []) := by
    intro j13 s14
    unfold X2_readArticle_j90
    refine jq_aload_n Γ dX2_readArticle_90 rfl 1 rfl (jq_at_0 (at_com hp1)) ?_
    refine jq_getR (v := (p1 + 11)) Γ hlY (at_com hp1) fl_RX2_142 rfl rfl (ly_X1_leansOn hp1) dX2_readArticle_91 ?_
    refine jq_iload_n Γ dX2_readArticle_94 rfl 2 rfl ?_
    refine jq_aload_n Γ dX2_readArticle_95 rfl 0 rfl (jq_at_0 at_X_2) ?_
    refine jq_aload_n Γ dX2_readArticle_96 rfl 1 rfl (jq_at_0 (at_com hp1)) ?_
    refine jq_cwI (jq_stat (avs := [jR 2, jR p1]) (st := [jI j13, jR (p1 + 11)]) Γ hlY rfl ml_RX2_145 rfl rfl rfl rfl rfl dX2_readArticle_97) (fun r σ' h => ctX2_takeLeans hp1 h) (fun v15 s16 => ?_)
    refine jq_iast Γ (at_com_11 hp1) rfl dX2_readArticle_100 (fun s17 => ?_)
    refine jq_aload_n Γ dX2_readArticle_101 rfl 1 rfl (jq_at_0 (at_com hp1)) ?_
    refine jq_getR (v := (p1 + 12)) Γ hlY (at_com hp1) fl_RX2_148 rfl rfl (ly_X1_worked hp1) dX2_readArticle_102 ?_
    refine jq_iload_n Γ dX2_readArticle_105 rfl 2 rfl ?_
    refine jq_iconst Γ dX2_readArticle_106 rfl ?_
    refine jq_iast Γ (at_com_12 hp1) rfl dX2_readArticle_107 (fun s18 => ?_)
    refine jq_aload_n Γ dX2_readArticle_108 rfl 1 rfl (jq_at_0 (at_com hp1)) ?_
    refine jq_dup Γ dX2_readArticle_109 rfl ?_
    refine jq_getI (J := 4) Γ (at_com hp1) fl_RX2_130 rfl rfl dX2_readArticle_110 ?_
    refine jq_iconst Γ dX2_readArticle_113 rfl ?_
    refine jq_iadd Γ dX2_readArticle_114 ?_
    refine jq_putI Γ (at_com hp1) fl_RX2_130 rfl rfl dX2_readArticle_115 (fun s19 => ?_)
    refine jq_aload_n Γ dX2_readArticle_118 rfl 0 rfl (jq_at_0 at_X_2) ?_
    refine jq_bipush Γ dX2_readArticle_119 rfl ?_
    refine jq_cwV (jq_virt (avs := [jI 59]) (st := []) Γ hlY rfl ml_RX2_57 rfl at_X_2 rfl rfl rfl rfl rfl dX2_readArticle_121) (fun σ' h => ctX5_passSign h) (fun s20 => ?_)
    exact jq_vreturn Γ dX2_readArticle_124 (hK0 _)
  refine jq_aload_n Γ dX2_readArticle_0 rfl 1 rfl (jq_at_0 (at_com hp1)) ?_
  refine jq_getI (J := 4) Γ (at_com hp1) fl_RX2_130 rfl rfl dX2_readArticle_1 ?_
  refine jq_nmI (fun v1 => ?_)
  refine jq_istore_n (L' := [(2, jI v1), (0, jR 2), (1, jR p1)]) Γ dX2_readArticle_4 rfl hnl rfl rfl ?_
  refine jq_iload_n Γ dX2_readArticle_5 rfl 0 rfl ?_
  refine jq_iconst Γ dX2_readArticle_6 rfl ?_
  refine jq_bipush Γ dX2_readArticle_7 rfl ?_
  refine jq_cpZ (jq_nest (avs := [jI v1, jI 0, jI 7]) (st := []) Γ hlY rfl ml_RX2_67 rfl rfl rfl rfl rfl dX2_readArticle_9) rfl (fun r h => ctX10_within h) (fun v2 hz3 => ?_)
  refine jq_if_ne (tgt := 22) Γ dX2_readArticle_12 rfl ?_ ?_
  · refine jq_aload_n Γ dX2_readArticle_22 rfl 1 rfl (jq_at_0 at_X_2) ?_
    refine jq_cwV (jq_virt (avs := []) (st := []) Γ hlY rfl ml_RX2_50 rfl at_X_2 rfl rfl rfl rfl rfl dX2_readArticle_23) (fun σ' h => ctX5_next h) (fun s4 => ?_)
    refine jq_aload_n Γ dX2_readArticle_26 rfl 2 rfl (jq_at_0 (at_com hp1)) ?_
    refine jq_getR (v := (p1 + 8)) Γ hlY (at_com hp1) fl_RX2_133 rfl rfl (ly_X1_articleNames hp1) dX2_readArticle_27 ?_
    refine jq_iload_n Γ dX2_readArticle_30 rfl 0 rfl ?_
    refine jq_aload_n Γ dX2_readArticle_31 rfl 1 rfl (jq_at_0 at_X_2) ?_
    refine jq_aload_n Γ dX2_readArticle_32 rfl 2 rfl (jq_at_0 (at_com hp1)) ?_
    refine jq_cwL (jq_virt (avs := [jR p1]) (st := [jI v1, jR (p1 + 8)]) Γ hlY rfl ml_RX2_75 rfl at_X_2 rfl rfl rfl rfl rfl dX2_readArticle_33) (fun r σ' h => ctX5_takeNewName hp1 h) (fun v5 s6 => ?_)
    refine jq_last Γ (at_com_8 hp1) rfl dX2_readArticle_36 (fun s7 => ?_)
    refine jq_aload_n Γ dX2_readArticle_37 rfl 1 rfl (jq_at_0 at_X_2) ?_
    refine jq_bipush Γ dX2_readArticle_38 rfl ?_
    refine jq_cwV (jq_virt (avs := [jI 11]) (st := []) Γ hlY rfl ml_RX2_121 rfl at_X_2 rfl rfl rfl rfl rfl dX2_readArticle_40) (fun σ' h => ctX5_passKeyword h) (fun s8 => ?_)
    refine jq_aload_n Γ dX2_readArticle_43 rfl 2 rfl (jq_at_0 (at_com hp1)) ?_
    refine jq_getR (v := (p1 + 9)) Γ hlY (at_com hp1) fl_RX2_136 rfl rfl (ly_X1_takes hp1) dX2_readArticle_44 ?_
    refine jq_iload_n Γ dX2_readArticle_47 rfl 0 rfl ?_
    refine jq_aload_n Γ dX2_readArticle_48 rfl 1 rfl (jq_at_0 at_X_2) ?_
    refine jq_iconst Γ dX2_readArticle_49 rfl ?_
    refine jq_bipush Γ dX2_readArticle_50 rfl ?_
    refine jq_cwI (jq_virt (avs := [jI 1, jI 30]) (st := [jI v1, jR (p1 + 9)]) Γ hlY rfl ml_RX2_53 rfl at_X_2 rfl rfl rfl rfl rfl dX2_readArticle_52) (fun r σ' h => ctX5_takeNumber h) (fun v9 s10 => ?_)
    refine jq_iast Γ (at_com_9 hp1) rfl dX2_readArticle_55 (fun s11 => ?_)
    refine jq_aload_n Γ dX2_readArticle_56 rfl 2 rfl (jq_at_0 (at_com hp1)) ?_
    refine jq_getR (v := (p1 + 10)) Γ hlY (at_com hp1) fl_RX2_139 rfl rfl (ly_X1_odds hp1) dX2_readArticle_57 ?_
    refine jq_iload_n Γ dX2_readArticle_60 rfl 0 rfl ?_
    refine jq_bipush Γ dX2_readArticle_61 rfl ?_
    refine jq_iast Γ (at_com_10 hp1) rfl dX2_readArticle_63 (fun s12 => ?_)
    refine jq_aload_n Γ dX2_readArticle_64 rfl 1 rfl (jq_at_0 at_X_2) ?_
    refine jq_getI (J := 11) Γ at_X_2 fl_RX2_20 rfl rfl dX2_readArticle_65 ?_
    refine jq_bipush Γ dX2_readArticle_68 rfl ?_
    refine jq_icmp_ne (tgt := 90) Γ dX2_readArticle_70 rfl ?_ ?_
    · refine jq_sub Γ (L' := [(0, jR 2), (1, jR p1), (2, jI v1)]) [1, 2, 0] rfl ?_
      exact hj90_0 v1 s12
    · refine jq_aload_n Γ dX2_readArticle_73 rfl 1 rfl (jq_at_0 at_X_2) ?_
      refine jq_cwV (jq_virt (avs := []) (st := []) Γ hlY rfl ml_RX2_50 rfl at_X_2 rfl rfl rfl rfl rfl dX2_readArticle_74) (fun σ' h => ctX5_next h) (fun s21 => ?_)
      refine jq_aload_n Γ dX2_readArticle_77 rfl 2 rfl (jq_at_0 (at_com hp1)) ?_
      refine jq_getR (v := (p1 + 10)) Γ hlY (at_com hp1) fl_RX2_139 rfl rfl (ly_X1_odds hp1) dX2_readArticle_78 ?_
      refine jq_iload_n Γ dX2_readArticle_81 rfl 0 rfl ?_
      refine jq_aload_n Γ dX2_readArticle_82 rfl 1 rfl (jq_at_0 at_X_2) ?_
      refine jq_iconst Γ dX2_readArticle_83 rfl ?_
      refine jq_bipush Γ dX2_readArticle_84 rfl ?_
      refine jq_cwI (jq_virt (avs := [jI 0, jI 16]) (st := [jI v1, jR (p1 + 10)]) Γ hlY rfl ml_RX2_53 rfl at_X_2 rfl rfl rfl rfl rfl dX2_readArticle_86) (fun r σ' h => ctX5_takeNumber h) (fun v22 s23 => ?_)
      refine jq_iast Γ (at_com_10 hp1) rfl dX2_readArticle_89 (fun s24 => ?_)
      refine jq_sub Γ (L' := [(0, jR 2), (1, jR p1), (2, jI v1)]) [1, 2, 0] rfl ?_
      exact hj90_0 v1 s24
  · refine jq_aload_n Γ dX2_readArticle_15 rfl 1 rfl (jq_at_0 at_X_2) ?_
    refine jq_bipush Γ dX2_readArticle_16 rfl ?_
    refine jq_cwV (jq_virt (avs := [jI 6]) (st := []) Γ hlY rfl ml_RX2_43 rfl at_X_2 rfl rfl rfl rfl rfl dX2_readArticle_18) (fun σ' h => ctX5_blame h) (fun s25 => ?_)
    exact jq_vreturn Γ dX2_readArticle_21 (hK0 _)


theorem dX2_readAll_0 : decode cX2_readAll 0 = .ok (.aload_n 1, 1) := by decide +kernel
theorem dX2_readAll_1 : decode cX2_readAll 1 = .ok (.invokevirtual 9, 3) := by decide +kernel
theorem dX2_readAll_4 : decode cX2_readAll 4 = .ok (.iconst 0, 1) := by decide +kernel
theorem dX2_readAll_5 : decode cX2_readAll 5 = .ok (.istore_n 2, 1) := by decide +kernel
theorem dX2_readAll_6 : decode cX2_readAll 6 = .ok (.iload_n 2, 1) := by decide +kernel
theorem dX2_readAll_7 : decode cX2_readAll 7 = .ok (.sipush 900, 3) := by decide +kernel
theorem dX2_readAll_10 : decode cX2_readAll 10 = .ok (.if_icmp .ge 135, 3) := by decide +kernel
theorem dX2_readAll_13 : decode cX2_readAll 13 = .ok (.aload_n 0, 1) := by decide +kernel
theorem dX2_readAll_14 : decode cX2_readAll 14 = .ok (.invokevirtual 14, 3) := by decide +kernel
theorem dX2_readAll_17 : decode cX2_readAll 17 = .ok (.ifCond .eq 128, 3) := by decide +kernel
theorem dX2_readAll_20 : decode cX2_readAll 20 = .ok (.aload_n 0, 1) := by decide +kernel
theorem dX2_readAll_21 : decode cX2_readAll 21 = .ok (.getfield 20, 3) := by decide +kernel
theorem dX2_readAll_24 : decode cX2_readAll 24 = .ok (.tableswitch 110 0 10 #[60, 68, 76, 110, 110, 84, 93, 110, 110, 110, 102], 60) := by decide +kernel
theorem dX2_readAll_84 : decode cX2_readAll 84 = .ok (.aload_n 0, 1) := by decide +kernel
theorem dX2_readAll_85 : decode cX2_readAll 85 = .ok (.aload_n 1, 1) := by decide +kernel
theorem dX2_readAll_86 : decode cX2_readAll 86 = .ok (.invokestatic 24, 3) := by decide +kernel
theorem dX2_readAll_89 : decode cX2_readAll 89 = .ok (.goto 50, 3) := by decide +kernel
theorem dX2_readAll_92 : decode cX2_readAll 92 = .ok (.aload_n 0, 1) := by decide +kernel
theorem dX2_readAll_93 : decode cX2_readAll 93 = .ok (.aload_n 1, 1) := by decide +kernel
theorem dX2_readAll_94 : decode cX2_readAll 94 = .ok (.invokestatic 30, 3) := by decide +kernel
theorem dX2_readAll_97 : decode cX2_readAll 97 = .ok (.goto 42, 3) := by decide +kernel
theorem dX2_readAll_100 : decode cX2_readAll 100 = .ok (.aload_n 0, 1) := by decide +kernel
theorem dX2_readAll_101 : decode cX2_readAll 101 = .ok (.aload_n 1, 1) := by decide +kernel
theorem dX2_readAll_102 : decode cX2_readAll 102 = .ok (.invokestatic 33, 3) := by decide +kernel
theorem dX2_readAll_105 : decode cX2_readAll 105 = .ok (.goto 34, 3) := by decide +kernel
theorem dX2_readAll_108 : decode cX2_readAll 108 = .ok (.aload_n 0, 1) := by decide +kernel
theorem dX2_readAll_109 : decode cX2_readAll 109 = .ok (.aload_n 1, 1) := by decide +kernel
theorem dX2_readAll_110 : decode cX2_readAll 110 = .ok (.iconst 1, 1) := by decide +kernel
theorem dX2_readAll_111 : decode cX2_readAll 111 = .ok (.invokestatic 36, 3) := by decide +kernel
theorem dX2_readAll_114 : decode cX2_readAll 114 = .ok (.goto 25, 3) := by decide +kernel
theorem dX2_readAll_117 : decode cX2_readAll 117 = .ok (.aload_n 0, 1) := by decide +kernel
theorem dX2_readAll_118 : decode cX2_readAll 118 = .ok (.aload_n 1, 1) := by decide +kernel
theorem dX2_readAll_119 : decode cX2_readAll 119 = .ok (.iconst (-1), 1) := by decide +kernel
theorem dX2_readAll_120 : decode cX2_readAll 120 = .ok (.invokestatic 36, 3) := by decide +kernel
theorem dX2_readAll_123 : decode cX2_readAll 123 = .ok (.goto 16, 3) := by decide +kernel
theorem dX2_readAll_126 : decode cX2_readAll 126 = .ok (.aload_n 0, 1) := by decide +kernel
theorem dX2_readAll_127 : decode cX2_readAll 127 = .ok (.aload_n 1, 1) := by decide +kernel
theorem dX2_readAll_128 : decode cX2_readAll 128 = .ok (.invokestatic 40, 3) := by decide +kernel
theorem dX2_readAll_131 : decode cX2_readAll 131 = .ok (.goto 8, 3) := by decide +kernel
theorem dX2_readAll_134 : decode cX2_readAll 134 = .ok (.aload_n 0, 1) := by decide +kernel
theorem dX2_readAll_135 : decode cX2_readAll 135 = .ok (.iconst 2, 1) := by decide +kernel
theorem dX2_readAll_136 : decode cX2_readAll 136 = .ok (.invokevirtual 43, 3) := by decide +kernel
theorem dX2_readAll_139 : decode cX2_readAll 139 = .ok (.iinc 2 1, 3) := by decide +kernel
theorem dX2_readAll_142 : decode cX2_readAll 142 = .ok (.goto (-136), 3) := by decide +kernel
theorem dX2_readAll_145 : decode cX2_readAll 145 = .ok (.return_, 1) := by decide +kernel
set_option maxHeartbeats 4000000 in
set_option maxRecDepth 100000 in
theorem ctX2_readAll {p1 : Int} {σ : jq_M} {σ' : jq_M} (hp1 : jq_com p1) (h : X2_readAll p1 σ = some σ') : jq_MC jq_zX yX2_readAll cX2_readAll 3 none 6 153 [jR 2, jR p1] σ none σ' := by
  refine jq_met (own := RX2) (L0 := [(0, jR 2), (1, jR p1)]) (by decide) rfl rfl rfl ?_
  intro X Γ hnl hlY hRT
  refine jq_use2 (P := fun r => jq_RT jq_zX X none none r) ?_ h hRT
  intro K0 hK0
  unfold X2_readAll
  refine jq_aload_n Γ dX2_readAll_0 rfl 1 rfl (jq_at_0 (at_com hp1)) ?_
  refine jq_cwV (jq_virt (avs := []) (st := []) Γ hlY rfl ml_RX2_9 rfl (at_com hp1) rfl rfl rfl rfl rfl dX2_readAll_1) (fun σ' h => ctX1_clear hp1 h) (fun s1 => ?_)
  refine jq_iconst Γ dX2_readAll_4 rfl ?_
  refine jq_istore_n (L' := [(2, jI 0), (0, jR 2), (1, jR p1)]) Γ dX2_readAll_5 rfl hnl rfl rfl ?_
  refine jq_sub Γ (L' := [(0, jR 2), (1, jR p1), (2, jI 0)]) [1, 2, 0] rfl ?_
  refine jq_loop2 (C := fun (t2 : Int × jq_M) => jq_V jq_zX X (jq_zN jq_zX) t2.2 6 [(0, jR 2), (1, jR p1), (2, jI t2.1)] []) (KX := fun (e40 : jq_M) => jq_V jq_zX X (jq_zN jq_zX) e40 145 [] []) ?_ ?_ (0, s1)
  · intro K6_t2 hCt2 hXt2 t2
    unfold X2_readAll_b6
    refine jq_iload_n Γ dX2_readAll_6 rfl 2 rfl ?_
    refine jq_sipush Γ dX2_readAll_7 rfl ?_
    refine jq_icmp_ge (tgt := 145) Γ dX2_readAll_10 rfl ?_ ?_
    · refine jq_sub Γ (L' := []) [] rfl ?_
      exact jq_done (hXt2 t2.2)
    · refine jq_aload_n Γ dX2_readAll_13 rfl 0 rfl (jq_at_0 at_X_2) ?_
      refine jq_cpZ (jq_virt (avs := []) (st := []) Γ hlY rfl ml_RX2_14 rfl at_X_2 rfl rfl rfl rfl rfl dX2_readAll_14) rfl (fun r h => ctX5_goesOn h) (fun v3 hz4 => ?_)
      refine jq_if_eq (tgt := 145) Γ dX2_readAll_17 rfl ?_ ?_
      · refine jq_sub Γ (L' := []) [] rfl ?_
        exact jq_done (hXt2 t2.2)
      · refine jq_aload_n Γ dX2_readAll_20 rfl 0 rfl (jq_at_0 at_X_2) ?_
        refine jq_getI (J := 11) Γ at_X_2 fl_RX2_20 rfl rfl dX2_readAll_21 ?_
        refine jq_split (fun hc5 => ?_) (fun hn0_24 => ?_)
        · refine jq_tabIn (tgt := 84) Γ dX2_readAll_24 hc5 rfl rfl rfl ?_
          refine jq_aload_n Γ dX2_readAll_84 rfl 0 rfl (jq_at_0 at_X_2) ?_
          refine jq_aload_n Γ dX2_readAll_85 rfl 1 rfl (jq_at_0 (at_com hp1)) ?_
          refine jq_cwV (jq_stat (avs := [jR 2, jR p1]) (st := []) Γ hlY rfl ml_RX2_24 rfl rfl rfl rfl rfl dX2_readAll_86) (fun σ' h => ctX2_readPlaces hp1 h) (fun s6 => ?_)
          refine jq_goto Γ (tgt := 139) dX2_readAll_89 rfl ?_
          refine jq_iincN (L' := fun v7 => [(2, jI v7), (0, jR 2), (1, jR p1)]) Γ dX2_readAll_139 2 rfl hnl rfl (fun _ => rfl) (fun v7 => ?_)
          refine jq_goto Γ (tgt := 6) dX2_readAll_142 rfl ?_
          refine jq_sub Γ (L' := [(0, jR 2), (1, jR p1), (2, jI v7)]) [1, 2, 0] rfl ?_
          exact jq_done (hCt2 (v7, s6))
        · refine jq_split (fun hc8 => ?_) (fun hn1_24 => ?_)
          · refine jq_tabIn (tgt := 92) Γ dX2_readAll_24 hc8 rfl rfl rfl ?_
            refine jq_aload_n Γ dX2_readAll_92 rfl 0 rfl (jq_at_0 at_X_2) ?_
            refine jq_aload_n Γ dX2_readAll_93 rfl 1 rfl (jq_at_0 (at_com hp1)) ?_
            refine jq_cwV (jq_stat (avs := [jR 2, jR p1]) (st := []) Γ hlY rfl ml_RX2_30 rfl rfl rfl rfl rfl dX2_readAll_94) (fun σ' h => ctX2_readCorner hp1 h) (fun s9 => ?_)
            refine jq_goto Γ (tgt := 139) dX2_readAll_97 rfl ?_
            refine jq_iincN (L' := fun v10 => [(2, jI v10), (0, jR 2), (1, jR p1)]) Γ dX2_readAll_139 2 rfl hnl rfl (fun _ => rfl) (fun v10 => ?_)
            refine jq_goto Γ (tgt := 6) dX2_readAll_142 rfl ?_
            refine jq_sub Γ (L' := [(0, jR 2), (1, jR p1), (2, jI v10)]) [1, 2, 0] rfl ?_
            exact jq_done (hCt2 (v10, s9))
          · refine jq_split (fun hc11 => ?_) (fun hn2_24 => ?_)
            · refine jq_tabIn (tgt := 100) Γ dX2_readAll_24 hc11 rfl rfl rfl ?_
              refine jq_aload_n Γ dX2_readAll_100 rfl 0 rfl (jq_at_0 at_X_2) ?_
              refine jq_aload_n Γ dX2_readAll_101 rfl 1 rfl (jq_at_0 (at_com hp1)) ?_
              refine jq_cwV (jq_stat (avs := [jR 2, jR p1]) (st := []) Γ hlY rfl ml_RX2_33 rfl rfl rfl rfl rfl dX2_readAll_102) (fun σ' h => ctX2_readParty hp1 h) (fun s12 => ?_)
              refine jq_goto Γ (tgt := 139) dX2_readAll_105 rfl ?_
              refine jq_iincN (L' := fun v13 => [(2, jI v13), (0, jR 2), (1, jR p1)]) Γ dX2_readAll_139 2 rfl hnl rfl (fun _ => rfl) (fun v13 => ?_)
              refine jq_goto Γ (tgt := 6) dX2_readAll_142 rfl ?_
              refine jq_sub Γ (L' := [(0, jR 2), (1, jR p1), (2, jI v13)]) [1, 2, 0] rfl ?_
              exact jq_done (hCt2 (v13, s12))
            · refine jq_split (fun hc14 => ?_) (fun hn3_24 => ?_)
              · refine jq_tabIn (tgt := 134) Γ dX2_readAll_24 hc14 rfl rfl rfl ?_
                refine jq_aload_n Γ dX2_readAll_134 rfl 0 rfl (jq_at_0 at_X_2) ?_
                refine jq_iconst Γ dX2_readAll_135 rfl ?_
                refine jq_cwV (jq_virt (avs := [jI 2]) (st := []) Γ hlY rfl ml_RX2_43 rfl at_X_2 rfl rfl rfl rfl rfl dX2_readAll_136) (fun σ' h => ctX5_blame h) (fun s15 => ?_)
                refine jq_iincN (L' := fun v16 => [(2, jI v16), (0, jR 2), (1, jR p1)]) Γ dX2_readAll_139 2 rfl hnl rfl (fun _ => rfl) (fun v16 => ?_)
                refine jq_goto Γ (tgt := 6) dX2_readAll_142 rfl ?_
                refine jq_sub Γ (L' := [(0, jR 2), (1, jR p1), (2, jI v16)]) [1, 2, 0] rfl ?_
                exact jq_done (hCt2 (v16, s15))
              · refine jq_split (fun hc17 => ?_) (fun hn4_24 => ?_)
                · refine jq_tabIn (tgt := 134) Γ dX2_readAll_24 hc17 rfl rfl rfl ?_
                  refine jq_aload_n Γ dX2_readAll_134 rfl 0 rfl (jq_at_0 at_X_2) ?_
                  refine jq_iconst Γ dX2_readAll_135 rfl ?_
                  refine jq_cwV (jq_virt (avs := [jI 2]) (st := []) Γ hlY rfl ml_RX2_43 rfl at_X_2 rfl rfl rfl rfl rfl dX2_readAll_136) (fun σ' h => ctX5_blame h) (fun s18 => ?_)
                  refine jq_iincN (L' := fun v19 => [(2, jI v19), (0, jR 2), (1, jR p1)]) Γ dX2_readAll_139 2 rfl hnl rfl (fun _ => rfl) (fun v19 => ?_)
                  refine jq_goto Γ (tgt := 6) dX2_readAll_142 rfl ?_
                  refine jq_sub Γ (L' := [(0, jR 2), (1, jR p1), (2, jI v19)]) [1, 2, 0] rfl ?_
                  exact jq_done (hCt2 (v19, s18))
                · refine jq_split (fun hc20 => ?_) (fun hn5_24 => ?_)
                  · refine jq_tabIn (tgt := 108) Γ dX2_readAll_24 hc20 rfl rfl rfl ?_
                    refine jq_aload_n Γ dX2_readAll_108 rfl 0 rfl (jq_at_0 at_X_2) ?_
                    refine jq_aload_n Γ dX2_readAll_109 rfl 1 rfl (jq_at_0 (at_com hp1)) ?_
                    refine jq_iconst Γ dX2_readAll_110 rfl ?_
                    refine jq_cwV (jq_stat (avs := [jR 2, jR p1, jI 1]) (st := []) Γ hlY rfl ml_RX2_36 rfl rfl rfl rfl rfl dX2_readAll_111) (fun σ' h => ctX2_readWish hp1 h) (fun s21 => ?_)
                    refine jq_goto Γ (tgt := 139) dX2_readAll_114 rfl ?_
                    refine jq_iincN (L' := fun v22 => [(2, jI v22), (0, jR 2), (1, jR p1)]) Γ dX2_readAll_139 2 rfl hnl rfl (fun _ => rfl) (fun v22 => ?_)
                    refine jq_goto Γ (tgt := 6) dX2_readAll_142 rfl ?_
                    refine jq_sub Γ (L' := [(0, jR 2), (1, jR p1), (2, jI v22)]) [1, 2, 0] rfl ?_
                    exact jq_done (hCt2 (v22, s21))
                  · refine jq_split (fun hc23 => ?_) (fun hn6_24 => ?_)
                    · refine jq_tabIn (tgt := 117) Γ dX2_readAll_24 hc23 rfl rfl rfl ?_
                      refine jq_aload_n Γ dX2_readAll_117 rfl 0 rfl (jq_at_0 at_X_2) ?_
                      refine jq_aload_n Γ dX2_readAll_118 rfl 1 rfl (jq_at_0 (at_com hp1)) ?_
                      refine jq_iconst Γ dX2_readAll_119 rfl ?_
                      refine jq_cwV (jq_stat (avs := [jR 2, jR p1, jI (-1)]) (st := []) Γ hlY rfl ml_RX2_36 rfl rfl rfl rfl rfl dX2_readAll_120) (fun σ' h => ctX2_readWish hp1 h) (fun s24 => ?_)
                      refine jq_goto Γ (tgt := 139) dX2_readAll_123 rfl ?_
                      refine jq_iincN (L' := fun v25 => [(2, jI v25), (0, jR 2), (1, jR p1)]) Γ dX2_readAll_139 2 rfl hnl rfl (fun _ => rfl) (fun v25 => ?_)
                      refine jq_goto Γ (tgt := 6) dX2_readAll_142 rfl ?_
                      refine jq_sub Γ (L' := [(0, jR 2), (1, jR p1), (2, jI v25)]) [1, 2, 0] rfl ?_
                      exact jq_done (hCt2 (v25, s24))
                    · refine jq_split (fun hc26 => ?_) (fun hn7_24 => ?_)
                      · refine jq_tabIn (tgt := 134) Γ dX2_readAll_24 hc26 rfl rfl rfl ?_
                        refine jq_aload_n Γ dX2_readAll_134 rfl 0 rfl (jq_at_0 at_X_2) ?_
                        refine jq_iconst Γ dX2_readAll_135 rfl ?_
                        refine jq_cwV (jq_virt (avs := [jI 2]) (st := []) Γ hlY rfl ml_RX2_43 rfl at_X_2 rfl rfl rfl rfl rfl dX2_readAll_136) (fun σ' h => ctX5_blame h) (fun s27 => ?_)
                        refine jq_iincN (L' := fun v28 => [(2, jI v28), (0, jR 2), (1, jR p1)]) Γ dX2_readAll_139 2 rfl hnl rfl (fun _ => rfl) (fun v28 => ?_)
                        refine jq_goto Γ (tgt := 6) dX2_readAll_142 rfl ?_
                        refine jq_sub Γ (L' := [(0, jR 2), (1, jR p1), (2, jI v28)]) [1, 2, 0] rfl ?_
                        exact jq_done (hCt2 (v28, s27))
                      · refine jq_split (fun hc29 => ?_) (fun hn8_24 => ?_)
                        · refine jq_tabIn (tgt := 134) Γ dX2_readAll_24 hc29 rfl rfl rfl ?_
                          refine jq_aload_n Γ dX2_readAll_134 rfl 0 rfl (jq_at_0 at_X_2) ?_
                          refine jq_iconst Γ dX2_readAll_135 rfl ?_
                          refine jq_cwV (jq_virt (avs := [jI 2]) (st := []) Γ hlY rfl ml_RX2_43 rfl at_X_2 rfl rfl rfl rfl rfl dX2_readAll_136) (fun σ' h => ctX5_blame h) (fun s30 => ?_)
                          refine jq_iincN (L' := fun v31 => [(2, jI v31), (0, jR 2), (1, jR p1)]) Γ dX2_readAll_139 2 rfl hnl rfl (fun _ => rfl) (fun v31 => ?_)
                          refine jq_goto Γ (tgt := 6) dX2_readAll_142 rfl ?_
                          refine jq_sub Γ (L' := [(0, jR 2), (1, jR p1), (2, jI v31)]) [1, 2, 0] rfl ?_
                          exact jq_done (hCt2 (v31, s30))
                        · refine jq_split (fun hc32 => ?_) (fun hn9_24 => ?_)
                          · refine jq_tabIn (tgt := 134) Γ dX2_readAll_24 hc32 rfl rfl rfl ?_
                            refine jq_aload_n Γ dX2_readAll_134 rfl 0 rfl (jq_at_0 at_X_2) ?_
                            refine jq_iconst Γ dX2_readAll_135 rfl ?_
                            refine jq_cwV (jq_virt (avs := [jI 2]) (st := []) Γ hlY rfl ml_RX2_43 rfl at_X_2 rfl rfl rfl rfl rfl dX2_readAll_136) (fun σ' h => ctX5_blame h) (fun s33 => ?_)
                            refine jq_iincN (L' := fun v34 => [(2, jI v34), (0, jR 2), (1, jR p1)]) Γ dX2_readAll_139 2 rfl hnl rfl (fun _ => rfl) (fun v34 => ?_)
                            refine jq_goto Γ (tgt := 6) dX2_readAll_142 rfl ?_
                            refine jq_sub Γ (L' := [(0, jR 2), (1, jR p1), (2, jI v34)]) [1, 2, 0] rfl ?_
                            exact jq_done (hCt2 (v34, s33))
                          · refine jq_split (fun hc35 => ?_) (fun hn10_24 => ?_)
                            · refine jq_tabIn (tgt := 126) Γ dX2_readAll_24 hc35 rfl rfl rfl ?_
                              refine jq_aload_n Γ dX2_readAll_126 rfl 0 rfl (jq_at_0 at_X_2) ?_
                              refine jq_aload_n Γ dX2_readAll_127 rfl 1 rfl (jq_at_0 (at_com hp1)) ?_
                              refine jq_cwV (jq_stat (avs := [jR 2, jR p1]) (st := []) Γ hlY rfl ml_RX2_40 rfl rfl rfl rfl rfl dX2_readAll_128) (fun σ' h => ctX2_readArticle hp1 h) (fun s36 => ?_)
                              refine jq_goto Γ (tgt := 139) dX2_readAll_131 rfl ?_
                              refine jq_iincN (L' := fun v37 => [(2, jI v37), (0, jR 2), (1, jR p1)]) Γ dX2_readAll_139 2 rfl hnl rfl (fun _ => rfl) (fun v37 => ?_)
                              refine jq_goto Γ (tgt := 6) dX2_readAll_142 rfl ?_
                              refine jq_sub Γ (L' := [(0, jR 2), (1, jR p1), (2, jI v37)]) [1, 2, 0] rfl ?_
                              exact jq_done (hCt2 (v37, s36))
                            · refine jq_tabOut (tgt := 134) Γ dX2_readAll_24 (by omega) rfl ?_
                              refine jq_aload_n Γ dX2_readAll_134 rfl 0 rfl (jq_at_0 at_X_2) ?_
                              refine jq_iconst Γ dX2_readAll_135 rfl ?_
                              refine jq_cwV (jq_virt (avs := [jI 2]) (st := []) Γ hlY rfl ml_RX2_43 rfl at_X_2 rfl rfl rfl rfl rfl dX2_readAll_136) (fun σ' h => ctX5_blame h) (fun s38 => ?_)
                              refine jq_iincN (L' := fun v39 => [(2, jI v39), (0, jR 2), (1, jR p1)]) Γ dX2_readAll_139 2 rfl hnl rfl (fun _ => rfl) (fun v39 => ?_)
                              refine jq_goto Γ (tgt := 6) dX2_readAll_142 rfl ?_
                              refine jq_sub Γ (L' := [(0, jR 2), (1, jR p1), (2, jI v39)]) [1, 2, 0] rfl ?_
                              exact jq_done (hCt2 (v39, s38))
  · intro e40
    exact jq_vreturn Γ dX2_readAll_145 (hK0 _)


theorem dX10_keepFault_0 : decode cX10_keepFault 0 = .ok (.aload_n 0, 1) := by decide +kernel
theorem dX10_keepFault_1 : decode cX10_keepFault 1 = .ok (.aload_n 0, 1) := by decide +kernel
theorem dX10_keepFault_2 : decode cX10_keepFault 2 = .ok (.getfield 18, 3) := by decide +kernel
theorem dX10_keepFault_5 : decode cX10_keepFault 5 = .ok (.getfield 457, 3) := by decide +kernel
theorem dX10_keepFault_8 : decode cX10_keepFault 8 = .ok (.putfield 82, 3) := by decide +kernel
theorem dX10_keepFault_11 : decode cX10_keepFault 11 = .ok (.aload_n 0, 1) := by decide +kernel
theorem dX10_keepFault_12 : decode cX10_keepFault 12 = .ok (.aload_n 0, 1) := by decide +kernel
theorem dX10_keepFault_13 : decode cX10_keepFault 13 = .ok (.getfield 18, 3) := by decide +kernel
theorem dX10_keepFault_16 : decode cX10_keepFault 16 = .ok (.getfield 460, 3) := by decide +kernel
theorem dX10_keepFault_19 : decode cX10_keepFault 19 = .ok (.putfield 85, 3) := by decide +kernel
theorem dX10_keepFault_22 : decode cX10_keepFault 22 = .ok (.aload_n 0, 1) := by decide +kernel
theorem dX10_keepFault_23 : decode cX10_keepFault 23 = .ok (.getfield 82, 3) := by decide +kernel
theorem dX10_keepFault_26 : decode cX10_keepFault 26 = .ok (.ifCond .ne 7, 3) := by decide +kernel
theorem dX10_keepFault_29 : decode cX10_keepFault 29 = .ok (.iconst 1, 1) := by decide +kernel
theorem dX10_keepFault_30 : decode cX10_keepFault 30 = .ok (.goto 4, 3) := by decide +kernel
theorem dX10_keepFault_33 : decode cX10_keepFault 33 = .ok (.iconst 0, 1) := by decide +kernel
theorem dX10_keepFault_34 : decode cX10_keepFault 34 = .ok (.ireturn, 1) := by decide +kernel
set_option maxHeartbeats 4000000 in
set_option maxRecDepth 100000 in
theorem ctX10_keepFault  {σ : jq_M} {res : Int} {σ' : jq_M}  (h : X10_keepFault σ = some (res, σ')) : jq_MC jq_zX yX10_keepFault cX10_keepFault 1 (some .boolean) 1 40 [jR 0] σ (some (jI res)) σ' := by
  refine jq_met (own := RX10) (L0 := [(0, jR 0)]) (by decide) rfl rfl rfl ?_
  intro X Γ hnl hlY hRT
  refine jq_use2 (P := fun r => jq_RT jq_zX X (some .boolean) (some (jI r.1)) r.2) ?_ h hRT
  intro K0 hK0
  unfold X10_keepFault
  refine jq_aload_n Γ dX10_keepFault_0 rfl 0 rfl (jq_at_0 at_X_0) ?_
  refine jq_aload_n Γ dX10_keepFault_1 rfl 0 rfl (jq_at_0 at_X_0) ?_
  refine jq_getR (v := 2) Γ hlY at_X_0 fl_RX10_18 rfl rfl ly_X10_reader dX10_keepFault_2 ?_
  refine jq_getI (J := 12) Γ at_X_2 fl_RX10_457 rfl rfl dX10_keepFault_5 ?_
  refine jq_putI Γ at_X_0 fl_RX10_82 rfl rfl dX10_keepFault_8 (fun s1 => ?_)
  refine jq_aload_n Γ dX10_keepFault_11 rfl 0 rfl (jq_at_0 at_X_0) ?_
  refine jq_aload_n Γ dX10_keepFault_12 rfl 0 rfl (jq_at_0 at_X_0) ?_
  refine jq_getR (v := 2) Γ hlY at_X_0 fl_RX10_18 rfl rfl ly_X10_reader dX10_keepFault_13 ?_
  refine jq_getI (J := 13) Γ at_X_2 fl_RX10_460 rfl rfl dX10_keepFault_16 ?_
  refine jq_putI Γ at_X_0 fl_RX10_85 rfl rfl dX10_keepFault_19 (fun s2 => ?_)
  refine jq_aload_n Γ dX10_keepFault_22 rfl 0 rfl (jq_at_0 at_X_0) ?_
  refine jq_getI (J := 5) Γ at_X_0 fl_RX10_82 rfl rfl dX10_keepFault_23 ?_
  refine jq_if_ne (tgt := 33) Γ dX10_keepFault_26 rfl ?_ ?_
  · refine jq_iconst Γ dX10_keepFault_33 rfl ?_
    exact jq_zreturn Γ (Or.inl rfl) dX10_keepFault_34 (hK0 _)
  · refine jq_iconst Γ dX10_keepFault_29 rfl ?_
    refine jq_goto Γ (tgt := 34) dX10_keepFault_30 rfl ?_
    exact jq_zreturn Γ (Or.inr rfl) dX10_keepFault_34 (hK0 _)


theorem dX10_answer_0 : decode cX10_answer 0 = .ok (.aload_n 0, 1) := by decide +kernel
theorem dX10_answer_1 : decode cX10_answer 1 = .ok (.iconst 0, 1) := by decide +kernel
theorem dX10_answer_2 : decode cX10_answer 2 = .ok (.putfield 71, 3) := by decide +kernel
theorem dX10_answer_5 : decode cX10_answer 5 = .ok (.iload_n 1, 1) := by decide +kernel
theorem dX10_answer_6 : decode cX10_answer 6 = .ok (.ireturn, 1) := by decide +kernel
set_option maxHeartbeats 4000000 in
set_option maxRecDepth 100000 in
theorem ctX10_answer {p1 : Int} {σ : jq_M} {res : Int} {σ' : jq_M}  (h : X10_answer p1 σ = some (res, σ')) : jq_MC jq_zX yX10_answer cX10_answer 2 (some .int) 1 40 [jR 0, jI p1] σ (some (jI res)) σ' := by
  refine jq_met (own := RX10) (L0 := [(0, jR 0), (1, jI p1)]) (by decide) rfl rfl rfl ?_
  intro X Γ hnl hlY hRT
  refine jq_use2 (P := fun r => jq_RT jq_zX X (some .int) (some (jI r.1)) r.2) ?_ h hRT
  intro K0 hK0
  unfold X10_answer
  refine jq_aload_n Γ dX10_answer_0 rfl 0 rfl (jq_at_0 at_X_0) ?_
  refine jq_iconst Γ dX10_answer_1 rfl ?_
  refine jq_putI Γ at_X_0 fl_RX10_71 rfl rfl dX10_answer_2 (fun s1 => ?_)
  refine jq_iload_n Γ dX10_answer_5 rfl 1 rfl ?_
  exact jq_ireturn Γ dX10_answer_6 (hK0 _)


theorem dX10_committee_0 : decode cX10_committee 0 = .ok (.iload_n 1, 1) := by decide +kernel
theorem dX10_committee_1 : decode cX10_committee 1 = .ok (.ifCond .lt 14, 3) := by decide +kernel
theorem dX10_committee_4 : decode cX10_committee 4 = .ok (.iload_n 1, 1) := by decide +kernel
theorem dX10_committee_5 : decode cX10_committee 5 = .ok (.aload_n 0, 1) := by decide +kernel
theorem dX10_committee_6 : decode cX10_committee 6 = .ok (.getfield 18, 3) := by decide +kernel
theorem dX10_committee_9 : decode cX10_committee 9 = .ok (.getfield 145, 3) := by decide +kernel
theorem dX10_committee_12 : decode cX10_committee 12 = .ok (.if_icmp .le 9, 3) := by decide +kernel
theorem dX10_committee_15 : decode cX10_committee 15 = .ok (.aload_n 0, 1) := by decide +kernel
theorem dX10_committee_16 : decode cX10_committee 16 = .ok (.iconst 1, 1) := by decide +kernel
theorem dX10_committee_17 : decode cX10_committee 17 = .ok (.invokevirtual 117, 3) := by decide +kernel
theorem dX10_committee_20 : decode cX10_committee 20 = .ok (.ireturn, 1) := by decide +kernel
theorem dX10_committee_21 : decode cX10_committee 21 = .ok (.aload_n 0, 1) := by decide +kernel
theorem dX10_committee_22 : decode cX10_committee 22 = .ok (.getfield 18, 3) := by decide +kernel
theorem dX10_committee_25 : decode cX10_committee 25 = .ok (.iload_n 1, 1) := by decide +kernel
theorem dX10_committee_26 : decode cX10_committee 26 = .ok (.invokevirtual 152, 3) := by decide +kernel
theorem dX10_committee_29 : decode cX10_committee 29 = .ok (.aload_n 0, 1) := by decide +kernel
theorem dX10_committee_30 : decode cX10_committee 30 = .ok (.getfield 18, 3) := by decide +kernel
theorem dX10_committee_33 : decode cX10_committee 33 = .ok (.aload_n 0, 1) := by decide +kernel
theorem dX10_committee_34 : decode cX10_committee 34 = .ok (.getfield 29, 3) := by decide +kernel
theorem dX10_committee_37 : decode cX10_committee 37 = .ok (.invokestatic 155, 3) := by decide +kernel
theorem dX10_committee_40 : decode cX10_committee 40 = .ok (.aload_n 0, 1) := by decide +kernel
theorem dX10_committee_41 : decode cX10_committee 41 = .ok (.invokevirtual 161, 3) := by decide +kernel
theorem dX10_committee_44 : decode cX10_committee 44 = .ok (.ifCond .ne 10, 3) := by decide +kernel
theorem dX10_committee_47 : decode cX10_committee 47 = .ok (.aload_n 0, 1) := by decide +kernel
theorem dX10_committee_48 : decode cX10_committee 48 = .ok (.bipush 9, 2) := by decide +kernel
theorem dX10_committee_50 : decode cX10_committee 50 = .ok (.invokevirtual 117, 3) := by decide +kernel
theorem dX10_committee_53 : decode cX10_committee 53 = .ok (.ireturn, 1) := by decide +kernel
theorem dX10_committee_54 : decode cX10_committee 54 = .ok (.aload_n 0, 1) := by decide +kernel
theorem dX10_committee_55 : decode cX10_committee 55 = .ok (.getfield 25, 3) := by decide +kernel
theorem dX10_committee_58 : decode cX10_committee 58 = .ok (.astore_n 2, 1) := by decide +kernel
theorem dX10_committee_59 : decode cX10_committee 59 = .ok (.aload_n 0, 1) := by decide +kernel
theorem dX10_committee_60 : decode cX10_committee 60 = .ok (.aload_n 0, 1) := by decide +kernel
theorem dX10_committee_61 : decode cX10_committee 61 = .ok (.getfield 29, 3) := by decide +kernel
theorem dX10_committee_64 : decode cX10_committee 64 = .ok (.putfield 25, 3) := by decide +kernel
theorem dX10_committee_67 : decode cX10_committee 67 = .ok (.aload_n 0, 1) := by decide +kernel
theorem dX10_committee_68 : decode cX10_committee 68 = .ok (.aload_n 2, 1) := by decide +kernel
theorem dX10_committee_69 : decode cX10_committee 69 = .ok (.putfield 29, 3) := by decide +kernel
theorem dX10_committee_72 : decode cX10_committee 72 = .ok (.aload_n 0, 1) := by decide +kernel
theorem dX10_committee_73 : decode cX10_committee 73 = .ok (.aload_n 0, 1) := by decide +kernel
theorem dX10_committee_74 : decode cX10_committee 74 = .ok (.getfield 25, 3) := by decide +kernel
theorem dX10_committee_77 : decode cX10_committee 77 = .ok (.getfield 164, 3) := by decide +kernel
theorem dX10_committee_80 : decode cX10_committee 80 = .ok (.invokevirtual 167, 3) := by decide +kernel
theorem dX10_committee_83 : decode cX10_committee 83 = .ok (.ireturn, 1) := by decide +kernel
set_option maxHeartbeats 4000000 in
set_option maxRecDepth 100000 in
theorem ctX10_committee {p1 : Int} {σ : jq_M} {res : Int} {σ' : jq_M}  (h : X10_committee p1 σ = some (res, σ')) : jq_MC jq_zX yX10_committee cX10_committee 3 (some .int) 7 175 [jR 0, jI p1] σ (some (jI res)) σ' := by
  refine jq_met (own := RX10) (L0 := [(0, jR 0), (1, jI p1)]) (by decide) rfl rfl rfl ?_
  intro X Γ hnl hlY hRT
  refine jq_use2 (P := fun r => jq_RT jq_zX X (some .int) (some (jI r.1)) r.2) ?_ h hRT
  intro K0 hK0
  unfold X10_committee
  have hj15_0 : ∀ (s1 : jq_M), jq_J (X10_committee_j15 s1) K0 (jq_V jq_zX X (jq_zN jq_zX) s1 15 [(0, jR 0)] []) := by
    intro s1
    unfold X10_committee_j15
    refine jq_aload_n Γ dX10_committee_15 rfl 0 rfl (jq_at_0 at_X_0) ?_
    refine jq_iconst Γ dX10_committee_16 rfl ?_
    refine jq_cwI (jq_virt (avs := [jI 1]) (st := []) Γ hlY rfl ml_RX10_117 rfl at_X_0 rfl rfl rfl rfl rfl dX10_committee_17) (fun r σ' h => ctX10_refuse h) (fun v2 s3 => ?_)
    exact jq_ireturn Γ dX10_committee_20 (hK0 _)
  refine jq_iload_n Γ dX10_committee_0 rfl 1 rfl ?_
  refine jq_if_lt (tgt := 15) Γ dX10_committee_1 rfl ?_ ?_
  · refine jq_sub Γ (L' := [(0, jR 0)]) [0] rfl ?_
    exact hj15_0 σ
  · refine jq_iload_n Γ dX10_committee_4 rfl 1 rfl ?_
    refine jq_aload_n Γ dX10_committee_5 rfl 0 rfl (jq_at_0 at_X_0) ?_
    refine jq_getR (v := 2) Γ hlY at_X_0 fl_RX10_18 rfl rfl ly_X10_reader dX10_committee_6 ?_
    refine jq_getI (J := 2) Γ at_X_2 fl_RX10_145 rfl rfl dX10_committee_9 ?_
    refine jq_icmp_le (tgt := 21) Γ dX10_committee_12 rfl ?_ ?_
    · refine jq_aload_n Γ dX10_committee_21 rfl 0 rfl (jq_at_0 at_X_0) ?_
      refine jq_getR (v := 2) Γ hlY at_X_0 fl_RX10_18 rfl rfl ly_X10_reader dX10_committee_22 ?_
      refine jq_iload_n Γ dX10_committee_25 rfl 1 rfl ?_
      refine jq_cwV (jq_virt (avs := [jI p1]) (st := []) Γ hlY rfl ml_RX10_152 rfl at_X_2 rfl rfl rfl rfl rfl dX10_committee_26) (fun σ' h => ctX5_open h) (fun s4 => ?_)
      refine jq_aload_n Γ dX10_committee_29 rfl 0 rfl (jq_at_0 at_X_0) ?_
      refine jq_getR (v := 2) Γ hlY at_X_0 fl_RX10_18 rfl rfl ly_X10_reader dX10_committee_30 ?_
      refine jq_aload_n Γ dX10_committee_33 rfl 0 rfl (jq_at_0 at_X_0) ?_
      refine jq_getC (C := jq_cm2) Γ hlY at_X_0 fl_RX10_29 rfl rfl ly_spare dX10_committee_34 (fun c5 hc6q => ?_)
      have hc6 := jq_cm2_com hc6q
      refine jq_cwV (jq_stat (avs := [jR 2, jR c5]) (st := []) Γ hlY rfl ml_RX10_155 rfl rfl rfl rfl rfl dX10_committee_37) (fun σ' h => ctX2_readAll hc6 h) (fun s7 => ?_)
      refine jq_aload_n Γ dX10_committee_40 rfl 0 rfl (jq_at_0 at_X_0) ?_
      refine jq_cwZ (jq_virt (avs := []) (st := []) Γ hlY rfl ml_RX10_161 rfl at_X_0 rfl rfl rfl rfl rfl dX10_committee_41) rfl (fun r σ' h => ctX10_keepFault h) (fun v8 s9 hz10 => ?_)
      refine jq_if_ne (tgt := 54) Γ dX10_committee_44 rfl ?_ ?_
      · refine jq_aload_n Γ dX10_committee_54 rfl 0 rfl (jq_at_0 at_X_0) ?_
        refine jq_getC (C := jq_cm2) Γ hlY at_X_0 fl_RX10_25 rfl rfl ly_now dX10_committee_55 (fun c11 hc12q => ?_)
        have hc12 := jq_cm2_com hc12q
        refine jq_astore_n (L' := [(2, jR c11), (0, jR 0), (1, jI p1)]) Γ dX10_committee_58 rfl (jq_at_0 (at_com hc12)) hnl rfl rfl ?_
        refine jq_aload_n Γ dX10_committee_59 rfl 1 rfl (jq_at_0 at_X_0) ?_
        refine jq_aload_n Γ dX10_committee_60 rfl 1 rfl (jq_at_0 at_X_0) ?_
        refine jq_getC (C := jq_cm2) Γ hlY at_X_0 fl_RX10_29 rfl rfl ly_spare dX10_committee_61 (fun c13 hc14q => ?_)
        have hc14 := jq_cm2_com hc14q
        refine jq_putM Γ at_X_0 fl_RX10_25 rfl rfl (ly_put_now hc14q) dX10_committee_64 (fun s15 => ?_)
        refine jq_aload_n Γ dX10_committee_67 rfl 1 rfl (jq_at_0 at_X_0) ?_
        refine jq_aload_n Γ dX10_committee_68 rfl 0 rfl (jq_at_0 (at_com hc12)) ?_
        refine jq_putM Γ at_X_0 fl_RX10_29 rfl rfl (ly_put_spare hc12q) dX10_committee_69 (fun s16 => ?_)
        refine jq_aload_n Γ dX10_committee_72 rfl 1 rfl (jq_at_0 at_X_0) ?_
        refine jq_aload_n Γ dX10_committee_73 rfl 1 rfl (jq_at_0 at_X_0) ?_
        refine jq_getC (C := jq_cm2) Γ hlY at_X_0 fl_RX10_25 rfl rfl ly_now dX10_committee_74 (fun c17 hc18q => ?_)
        have hc18 := jq_cm2_com hc18q
        refine jq_getI (J := 3) Γ (at_com hc18) fl_RX10_164 rfl rfl dX10_committee_77 ?_
        refine jq_cwI (jq_virt (avs := [jI (s16 c17 3)]) (st := []) Γ hlY rfl ml_RX10_167 rfl at_X_0 rfl rfl rfl rfl rfl dX10_committee_80) (fun r σ' h => ctX10_answer h) (fun v19 s20 => ?_)
        exact jq_ireturn Γ dX10_committee_83 (hK0 _)
      · refine jq_aload_n Γ dX10_committee_47 rfl 0 rfl (jq_at_0 at_X_0) ?_
        refine jq_bipush Γ dX10_committee_48 rfl ?_
        refine jq_cwI (jq_virt (avs := [jI 9]) (st := []) Γ hlY rfl ml_RX10_117 rfl at_X_0 rfl rfl rfl rfl rfl dX10_committee_50) (fun r σ' h => ctX10_refuse h) (fun v21 s22 => ?_)
        exact jq_ireturn Γ dX10_committee_53 (hK0 _)
    · refine jq_sub Γ (L' := [(0, jR 0)]) [0] rfl ?_
      exact hj15_0 σ


theorem dX7_addLine_0 : decode cX7_addLine 0 = .ok (.aload_n 0, 1) := by decide +kernel
theorem dX7_addLine_1 : decode cX7_addLine 1 = .ok (.getfield 35, 3) := by decide +kernel
theorem dX7_addLine_4 : decode cX7_addLine 4 = .ok (.istore_n 2, 1) := by decide +kernel
theorem dX7_addLine_5 : decode cX7_addLine 5 = .ok (.iload_n 2, 1) := by decide +kernel
theorem dX7_addLine_6 : decode cX7_addLine 6 = .ok (.ifCond .lt 9, 3) := by decide +kernel
theorem dX7_addLine_9 : decode cX7_addLine 9 = .ok (.iload_n 2, 1) := by decide +kernel
theorem dX7_addLine_10 : decode cX7_addLine 10 = .ok (.bipush 60, 2) := by decide +kernel
theorem dX7_addLine_12 : decode cX7_addLine 12 = .ok (.if_icmp .lt 5, 3) := by decide +kernel
theorem dX7_addLine_15 : decode cX7_addLine 15 = .ok (.iconst (-1), 1) := by decide +kernel
theorem dX7_addLine_16 : decode cX7_addLine 16 = .ok (.ireturn, 1) := by decide +kernel
theorem dX7_addLine_17 : decode cX7_addLine 17 = .ok (.aload_n 0, 1) := by decide +kernel
theorem dX7_addLine_18 : decode cX7_addLine 18 = .ok (.getfield 9, 3) := by decide +kernel
theorem dX7_addLine_21 : decode cX7_addLine 21 = .ok (.iload_n 2, 1) := by decide +kernel
theorem dX7_addLine_22 : decode cX7_addLine 22 = .ok (.iload_n 1, 1) := by decide +kernel
theorem dX7_addLine_23 : decode cX7_addLine 23 = .ok (.iastore, 1) := by decide +kernel
theorem dX7_addLine_24 : decode cX7_addLine 24 = .ok (.aload_n 0, 1) := by decide +kernel
theorem dX7_addLine_25 : decode cX7_addLine 25 = .ok (.getfield 15, 3) := by decide +kernel
theorem dX7_addLine_28 : decode cX7_addLine 28 = .ok (.iload_n 2, 1) := by decide +kernel
theorem dX7_addLine_29 : decode cX7_addLine 29 = .ok (.iconst 0, 1) := by decide +kernel
theorem dX7_addLine_30 : decode cX7_addLine 30 = .ok (.iastore, 1) := by decide +kernel
theorem dX7_addLine_31 : decode cX7_addLine 31 = .ok (.aload_n 0, 1) := by decide +kernel
theorem dX7_addLine_32 : decode cX7_addLine 32 = .ok (.getfield 18, 3) := by decide +kernel
theorem dX7_addLine_35 : decode cX7_addLine 35 = .ok (.iload_n 2, 1) := by decide +kernel
theorem dX7_addLine_36 : decode cX7_addLine 36 = .ok (.iconst 0, 1) := by decide +kernel
theorem dX7_addLine_37 : decode cX7_addLine 37 = .ok (.iastore, 1) := by decide +kernel
theorem dX7_addLine_38 : decode cX7_addLine 38 = .ok (.aload_n 0, 1) := by decide +kernel
theorem dX7_addLine_39 : decode cX7_addLine 39 = .ok (.getfield 21, 3) := by decide +kernel
theorem dX7_addLine_42 : decode cX7_addLine 42 = .ok (.iload_n 2, 1) := by decide +kernel
theorem dX7_addLine_43 : decode cX7_addLine 43 = .ok (.iconst (-1), 1) := by decide +kernel
theorem dX7_addLine_44 : decode cX7_addLine 44 = .ok (.iastore, 1) := by decide +kernel
theorem dX7_addLine_45 : decode cX7_addLine 45 = .ok (.aload_n 0, 1) := by decide +kernel
theorem dX7_addLine_46 : decode cX7_addLine 46 = .ok (.dup, 1) := by decide +kernel
theorem dX7_addLine_47 : decode cX7_addLine 47 = .ok (.getfield 35, 3) := by decide +kernel
theorem dX7_addLine_50 : decode cX7_addLine 50 = .ok (.iconst 1, 1) := by decide +kernel
theorem dX7_addLine_51 : decode cX7_addLine 51 = .ok (.iadd, 1) := by decide +kernel
theorem dX7_addLine_52 : decode cX7_addLine 52 = .ok (.putfield 35, 3) := by decide +kernel
theorem dX7_addLine_55 : decode cX7_addLine 55 = .ok (.iload_n 2, 1) := by decide +kernel
theorem dX7_addLine_56 : decode cX7_addLine 56 = .ok (.ireturn, 1) := by decide +kernel
set_option maxHeartbeats 4000000 in
set_option maxRecDepth 100000 in
theorem ctX7_addLine {o : Int} {p1 : Int} {σ : jq_M} {res : Int} {σ' : jq_M} (ho : jq_stp o) (h : X7_addLine o p1 σ = some (res, σ')) : jq_MC jq_zX yX7_addLine cX7_addLine 3 (some .int) 1 40 [jR o, jI p1] σ (some (jI res)) σ' := by
  refine jq_met (own := RX7) (L0 := [(0, jR o), (1, jI p1)]) (by decide) rfl rfl rfl ?_
  intro X Γ hnl hlY hRT
  refine jq_use2 (P := fun r => jq_RT jq_zX X (some .int) (some (jI r.1)) r.2) ?_ h hRT
  intro K0 hK0
  unfold X7_addLine
  refine jq_aload_n Γ dX7_addLine_0 rfl 0 rfl (jq_at_0 (at_stp ho)) ?_
  refine jq_getI (J := 2) Γ (at_stp ho) fl_RX7_35 rfl rfl dX7_addLine_1 ?_
  refine jq_nmI (fun v1 => ?_)
  refine jq_istore_n (L' := [(2, jI v1), (0, jR o), (1, jI p1)]) Γ dX7_addLine_4 rfl hnl rfl rfl ?_
  refine jq_iload_n Γ dX7_addLine_5 rfl 0 rfl ?_
  refine jq_if_lt (tgt := 15) Γ dX7_addLine_6 rfl ?_ ?_
  · refine jq_iconst Γ dX7_addLine_15 rfl ?_
    exact jq_ireturn Γ dX7_addLine_16 (hK0 _)
  · refine jq_iload_n Γ dX7_addLine_9 rfl 0 rfl ?_
    refine jq_bipush Γ dX7_addLine_10 rfl ?_
    refine jq_icmp_lt (tgt := 17) Γ dX7_addLine_12 rfl ?_ ?_
    · refine jq_aload_n Γ dX7_addLine_17 rfl 1 rfl (jq_at_0 (at_stp ho)) ?_
      refine jq_getR (v := (o + 1)) Γ hlY (at_stp ho) fl_RX7_9 rfl rfl (ly_X7_words ho) dX7_addLine_18 ?_
      refine jq_iload_n Γ dX7_addLine_21 rfl 0 rfl ?_
      refine jq_iload_n Γ dX7_addLine_22 rfl 2 rfl ?_
      refine jq_iast Γ (at_stp_1 ho) rfl dX7_addLine_23 (fun s2 => ?_)
      refine jq_aload_n Γ dX7_addLine_24 rfl 1 rfl (jq_at_0 (at_stp ho)) ?_
      refine jq_getR (v := (o + 2)) Γ hlY (at_stp ho) fl_RX7_15 rfl rfl (ly_X7_first ho) dX7_addLine_25 ?_
      refine jq_iload_n Γ dX7_addLine_28 rfl 0 rfl ?_
      refine jq_iconst Γ dX7_addLine_29 rfl ?_
      refine jq_iast Γ (at_stp_2 ho) rfl dX7_addLine_30 (fun s3 => ?_)
      refine jq_aload_n Γ dX7_addLine_31 rfl 1 rfl (jq_at_0 (at_stp ho)) ?_
      refine jq_getR (v := (o + 3)) Γ hlY (at_stp ho) fl_RX7_18 rfl rfl (ly_X7_second ho) dX7_addLine_32 ?_
      refine jq_iload_n Γ dX7_addLine_35 rfl 0 rfl ?_
      refine jq_iconst Γ dX7_addLine_36 rfl ?_
      refine jq_iast Γ (at_stp_3 ho) rfl dX7_addLine_37 (fun s4 => ?_)
      refine jq_aload_n Γ dX7_addLine_38 rfl 1 rfl (jq_at_0 (at_stp ho)) ?_
      refine jq_getR (v := (o + 4)) Γ hlY (at_stp ho) fl_RX7_21 rfl rfl (ly_X7_mates ho) dX7_addLine_39 ?_
      refine jq_iload_n Γ dX7_addLine_42 rfl 0 rfl ?_
      refine jq_iconst Γ dX7_addLine_43 rfl ?_
      refine jq_iast Γ (at_stp_4 ho) rfl dX7_addLine_44 (fun s5 => ?_)
      refine jq_aload_n Γ dX7_addLine_45 rfl 1 rfl (jq_at_0 (at_stp ho)) ?_
      refine jq_dup Γ dX7_addLine_46 rfl ?_
      refine jq_getI (J := 2) Γ (at_stp ho) fl_RX7_35 rfl rfl dX7_addLine_47 ?_
      refine jq_iconst Γ dX7_addLine_50 rfl ?_
      refine jq_iadd Γ dX7_addLine_51 ?_
      refine jq_putI Γ (at_stp ho) fl_RX7_35 rfl rfl dX7_addLine_52 (fun s6 => ?_)
      refine jq_iload_n Γ dX7_addLine_55 rfl 0 rfl ?_
      exact jq_ireturn Γ dX7_addLine_56 (hK0 _)
    · refine jq_iconst Γ dX7_addLine_15 rfl ?_
      exact jq_ireturn Γ dX7_addLine_16 (hK0 _)


theorem dX7_setMate_0 : decode cX7_setMate 0 = .ok (.iload_n 1, 1) := by decide +kernel
theorem dX7_setMate_1 : decode cX7_setMate 1 = .ok (.ifCond .lt 19, 3) := by decide +kernel
theorem dX7_setMate_4 : decode cX7_setMate 4 = .ok (.iload_n 1, 1) := by decide +kernel
theorem dX7_setMate_5 : decode cX7_setMate 5 = .ok (.aload_n 0, 1) := by decide +kernel
theorem dX7_setMate_6 : decode cX7_setMate 6 = .ok (.getfield 21, 3) := by decide +kernel
theorem dX7_setMate_9 : decode cX7_setMate 9 = .ok (.arraylength, 1) := by decide +kernel
theorem dX7_setMate_10 : decode cX7_setMate 10 = .ok (.if_icmp .ge 10, 3) := by decide +kernel
theorem dX7_setMate_13 : decode cX7_setMate 13 = .ok (.aload_n 0, 1) := by decide +kernel
theorem dX7_setMate_14 : decode cX7_setMate 14 = .ok (.getfield 21, 3) := by decide +kernel
theorem dX7_setMate_17 : decode cX7_setMate 17 = .ok (.iload_n 1, 1) := by decide +kernel
theorem dX7_setMate_18 : decode cX7_setMate 18 = .ok (.iload_n 2, 1) := by decide +kernel
theorem dX7_setMate_19 : decode cX7_setMate 19 = .ok (.iastore, 1) := by decide +kernel
theorem dX7_setMate_20 : decode cX7_setMate 20 = .ok (.return_, 1) := by decide +kernel
set_option maxHeartbeats 4000000 in
set_option maxRecDepth 100000 in
theorem ctX7_setMate {o : Int} {p1 : Int} {p2 : Int} {σ : jq_M} {σ' : jq_M} (ho : jq_stp o) (h : X7_setMate o p1 p2 σ = some σ') : jq_MC jq_zX yX7_setMate cX7_setMate 3 none 1 40 [jR o, jI p1, jI p2] σ none σ' := by
  refine jq_met (own := RX7) (L0 := [(0, jR o), (1, jI p1), (2, jI p2)]) (by decide) rfl rfl rfl ?_
  intro X Γ hnl hlY hRT
  refine jq_use2 (P := fun r => jq_RT jq_zX X none none r) ?_ h hRT
  intro K0 hK0
  unfold X7_setMate
  refine jq_iload_n Γ dX7_setMate_0 rfl 1 rfl ?_
  refine jq_if_lt (tgt := 20) Γ dX7_setMate_1 rfl ?_ ?_
  · exact jq_vreturn Γ dX7_setMate_20 (hK0 _)
  · refine jq_iload_n Γ dX7_setMate_4 rfl 1 rfl ?_
    refine jq_aload_n Γ dX7_setMate_5 rfl 0 rfl (jq_at_0 (at_stp ho)) ?_
    refine jq_getR (v := (o + 4)) Γ hlY (at_stp ho) fl_RX7_21 rfl rfl (ly_X7_mates ho) dX7_setMate_6 ?_
    refine jq_alen Γ (at_stp_4 ho) rfl rfl rfl dX7_setMate_9 ?_
    refine jq_icmp_ge (tgt := 20) Γ dX7_setMate_10 rfl ?_ ?_
    · exact jq_vreturn Γ dX7_setMate_20 (hK0 _)
    · refine jq_aload_n Γ dX7_setMate_13 rfl 0 rfl (jq_at_0 (at_stp ho)) ?_
      refine jq_getR (v := (o + 4)) Γ hlY (at_stp ho) fl_RX7_21 rfl rfl (ly_X7_mates ho) dX7_setMate_14 ?_
      refine jq_iload_n Γ dX7_setMate_17 rfl 1 rfl ?_
      refine jq_iload_n Γ dX7_setMate_18 rfl 2 rfl ?_
      refine jq_iast Γ (at_stp_4 ho) rfl dX7_setMate_19 (fun s1 => ?_)
      exact jq_vreturn Γ dX7_setMate_20 (hK0 _)


theorem dX7_closeOne_0 : decode cX7_closeOne 0 = .ok (.aload_n 0, 1) := by decide +kernel
theorem dX7_closeOne_1 : decode cX7_closeOne 1 = .ok (.getfield 38, 3) := by decide +kernel
theorem dX7_closeOne_4 : decode cX7_closeOne 4 = .ok (.ifCond .le 54, 3) := by decide +kernel
theorem dX7_closeOne_7 : decode cX7_closeOne 7 = .ok (.aload_n 0, 1) := by decide +kernel
theorem dX7_closeOne_8 : decode cX7_closeOne 8 = .ok (.getfield 38, 3) := by decide +kernel
theorem dX7_closeOne_11 : decode cX7_closeOne 11 = .ok (.aload_n 0, 1) := by decide +kernel
theorem dX7_closeOne_12 : decode cX7_closeOne 12 = .ok (.getfield 24, 3) := by decide +kernel
theorem dX7_closeOne_15 : decode cX7_closeOne 15 = .ok (.arraylength, 1) := by decide +kernel
theorem dX7_closeOne_16 : decode cX7_closeOne 16 = .ok (.if_icmp .gt 42, 3) := by decide +kernel
theorem dX7_closeOne_19 : decode cX7_closeOne 19 = .ok (.aload_n 0, 1) := by decide +kernel
theorem dX7_closeOne_20 : decode cX7_closeOne 20 = .ok (.dup, 1) := by decide +kernel
theorem dX7_closeOne_21 : decode cX7_closeOne 21 = .ok (.getfield 38, 3) := by decide +kernel
theorem dX7_closeOne_24 : decode cX7_closeOne 24 = .ok (.iconst 1, 1) := by decide +kernel
theorem dX7_closeOne_25 : decode cX7_closeOne 25 = .ok (.isub, 1) := by decide +kernel
theorem dX7_closeOne_26 : decode cX7_closeOne 26 = .ok (.putfield 38, 3) := by decide +kernel
theorem dX7_closeOne_29 : decode cX7_closeOne 29 = .ok (.aload_n 0, 1) := by decide +kernel
theorem dX7_closeOne_30 : decode cX7_closeOne 30 = .ok (.getfield 24, 3) := by decide +kernel
theorem dX7_closeOne_33 : decode cX7_closeOne 33 = .ok (.aload_n 0, 1) := by decide +kernel
theorem dX7_closeOne_34 : decode cX7_closeOne 34 = .ok (.getfield 38, 3) := by decide +kernel
theorem dX7_closeOne_37 : decode cX7_closeOne 37 = .ok (.iaload, 1) := by decide +kernel
theorem dX7_closeOne_38 : decode cX7_closeOne 38 = .ok (.istore_n 1, 1) := by decide +kernel
theorem dX7_closeOne_39 : decode cX7_closeOne 39 = .ok (.aload_n 0, 1) := by decide +kernel
theorem dX7_closeOne_40 : decode cX7_closeOne 40 = .ok (.bipush 26, 2) := by decide +kernel
theorem dX7_closeOne_42 : decode cX7_closeOne 42 = .ok (.invokevirtual 51, 3) := by decide +kernel
theorem dX7_closeOne_45 : decode cX7_closeOne 45 = .ok (.istore_n 2, 1) := by decide +kernel
theorem dX7_closeOne_46 : decode cX7_closeOne 46 = .ok (.aload_n 0, 1) := by decide +kernel
theorem dX7_closeOne_47 : decode cX7_closeOne 47 = .ok (.iload_n 1, 1) := by decide +kernel
theorem dX7_closeOne_48 : decode cX7_closeOne 48 = .ok (.iload_n 2, 1) := by decide +kernel
theorem dX7_closeOne_49 : decode cX7_closeOne 49 = .ok (.invokevirtual 55, 3) := by decide +kernel
theorem dX7_closeOne_52 : decode cX7_closeOne 52 = .ok (.aload_n 0, 1) := by decide +kernel
theorem dX7_closeOne_53 : decode cX7_closeOne 53 = .ok (.iload_n 2, 1) := by decide +kernel
theorem dX7_closeOne_54 : decode cX7_closeOne 54 = .ok (.iload_n 1, 1) := by decide +kernel
theorem dX7_closeOne_55 : decode cX7_closeOne 55 = .ok (.invokevirtual 55, 3) := by decide +kernel
theorem dX7_closeOne_58 : decode cX7_closeOne 58 = .ok (.return_, 1) := by decide +kernel
set_option maxHeartbeats 4000000 in
set_option maxRecDepth 100000 in
theorem ctX7_closeOne {o : Int} {σ : jq_M} {σ' : jq_M} (ho : jq_stp o) (h : X7_closeOne o σ = some σ') : jq_MC jq_zX yX7_closeOne cX7_closeOne 3 none 2 62 [jR o] σ none σ' := by
  refine jq_met (own := RX7) (L0 := [(0, jR o)]) (by decide) rfl rfl rfl ?_
  intro X Γ hnl hlY hRT
  refine jq_use2 (P := fun r => jq_RT jq_zX X none none r) ?_ h hRT
  intro K0 hK0
  unfold X7_closeOne
  refine jq_aload_n Γ dX7_closeOne_0 rfl 0 rfl (jq_at_0 (at_stp ho)) ?_
  refine jq_getI (J := 8) Γ (at_stp ho) fl_RX7_38 rfl rfl dX7_closeOne_1 ?_
  refine jq_if_le (tgt := 58) Γ dX7_closeOne_4 rfl ?_ ?_
  · exact jq_vreturn Γ dX7_closeOne_58 (hK0 _)
  · refine jq_aload_n Γ dX7_closeOne_7 rfl 0 rfl (jq_at_0 (at_stp ho)) ?_
    refine jq_getI (J := 8) Γ (at_stp ho) fl_RX7_38 rfl rfl dX7_closeOne_8 ?_
    refine jq_aload_n Γ dX7_closeOne_11 rfl 0 rfl (jq_at_0 (at_stp ho)) ?_
    refine jq_getR (v := (o + 5)) Γ hlY (at_stp ho) fl_RX7_24 rfl rfl (ly_X7_open ho) dX7_closeOne_12 ?_
    refine jq_alen Γ (at_stp_5 ho) rfl rfl rfl dX7_closeOne_15 ?_
    refine jq_icmp_gt (tgt := 58) Γ dX7_closeOne_16 rfl ?_ ?_
    · exact jq_vreturn Γ dX7_closeOne_58 (hK0 _)
    · refine jq_aload_n Γ dX7_closeOne_19 rfl 0 rfl (jq_at_0 (at_stp ho)) ?_
      refine jq_dup Γ dX7_closeOne_20 rfl ?_
      refine jq_getI (J := 8) Γ (at_stp ho) fl_RX7_38 rfl rfl dX7_closeOne_21 ?_
      refine jq_iconst Γ dX7_closeOne_24 rfl ?_
      refine jq_isub Γ dX7_closeOne_25 ?_
      refine jq_putI Γ (at_stp ho) fl_RX7_38 rfl rfl dX7_closeOne_26 (fun s1 => ?_)
      refine jq_aload_n Γ dX7_closeOne_29 rfl 0 rfl (jq_at_0 (at_stp ho)) ?_
      refine jq_getR (v := (o + 5)) Γ hlY (at_stp ho) fl_RX7_24 rfl rfl (ly_X7_open ho) dX7_closeOne_30 ?_
      refine jq_aload_n Γ dX7_closeOne_33 rfl 0 rfl (jq_at_0 (at_stp ho)) ?_
      refine jq_getI (J := 8) Γ (at_stp ho) fl_RX7_38 rfl rfl dX7_closeOne_34 ?_
      refine jq_iald Γ (at_stp_5 ho) rfl dX7_closeOne_37 (fun v2 => ?_)
      refine jq_istore_n (L' := [(1, jI v2), (0, jR o)]) Γ dX7_closeOne_38 rfl hnl rfl rfl ?_
      refine jq_aload_n Γ dX7_closeOne_39 rfl 1 rfl (jq_at_0 (at_stp ho)) ?_
      refine jq_bipush Γ dX7_closeOne_40 rfl ?_
      refine jq_cwI (jq_virt (avs := [jI 26]) (st := []) Γ hlY rfl ml_RX7_51 rfl (at_stp ho) rfl rfl rfl rfl rfl dX7_closeOne_42) (fun r σ' h => ctX7_addLine ho h) (fun v3 s4 => ?_)
      refine jq_istore_n (L' := [(2, jI v3), (1, jI v2), (0, jR o)]) Γ dX7_closeOne_45 rfl hnl rfl rfl ?_
      refine jq_aload_n Γ dX7_closeOne_46 rfl 2 rfl (jq_at_0 (at_stp ho)) ?_
      refine jq_iload_n Γ dX7_closeOne_47 rfl 1 rfl ?_
      refine jq_iload_n Γ dX7_closeOne_48 rfl 0 rfl ?_
      refine jq_cwV (jq_virt (avs := [jI v2, jI v3]) (st := []) Γ hlY rfl ml_RX7_55 rfl (at_stp ho) rfl rfl rfl rfl rfl dX7_closeOne_49) (fun σ' h => ctX7_setMate ho h) (fun s5 => ?_)
      refine jq_aload_n Γ dX7_closeOne_52 rfl 2 rfl (jq_at_0 (at_stp ho)) ?_
      refine jq_iload_n Γ dX7_closeOne_53 rfl 0 rfl ?_
      refine jq_iload_n Γ dX7_closeOne_54 rfl 1 rfl ?_
      refine jq_cwV (jq_virt (avs := [jI v3, jI v2]) (st := []) Γ hlY rfl ml_RX7_55 rfl (at_stp ho) rfl rfl rfl rfl rfl dX7_closeOne_55) (fun σ' h => ctX7_setMate ho h) (fun s6 => ?_)
      exact jq_vreturn Γ dX7_closeOne_58 (hK0 _)


theorem dX6_readEnd_0 : decode cX6_readEnd 0 = .ok (.aload_n 1, 1) := by decide +kernel
theorem dX6_readEnd_1 : decode cX6_readEnd 1 = .ok (.getfield 54, 3) := by decide +kernel
theorem dX6_readEnd_4 : decode cX6_readEnd 4 = .ok (.ifCond .ne 9, 3) := by decide +kernel
theorem dX6_readEnd_7 : decode cX6_readEnd 7 = .ok (.aload_n 0, 1) := by decide +kernel
theorem dX6_readEnd_8 : decode cX6_readEnd 8 = .ok (.iconst 2, 1) := by decide +kernel
theorem dX6_readEnd_9 : decode cX6_readEnd 9 = .ok (.invokevirtual 57, 3) := by decide +kernel
theorem dX6_readEnd_12 : decode cX6_readEnd 12 = .ok (.return_, 1) := by decide +kernel
theorem dX6_readEnd_13 : decode cX6_readEnd 13 = .ok (.aload_n 1, 1) := by decide +kernel
theorem dX6_readEnd_14 : decode cX6_readEnd 14 = .ok (.invokevirtual 61, 3) := by decide +kernel
theorem dX6_readEnd_17 : decode cX6_readEnd 17 = .ok (.aload_n 0, 1) := by decide +kernel
theorem dX6_readEnd_18 : decode cX6_readEnd 18 = .ok (.invokevirtual 64, 3) := by decide +kernel
theorem dX6_readEnd_21 : decode cX6_readEnd 21 = .ok (.aload_n 0, 1) := by decide +kernel
theorem dX6_readEnd_22 : decode cX6_readEnd 22 = .ok (.bipush 59, 2) := by decide +kernel
theorem dX6_readEnd_24 : decode cX6_readEnd 24 = .ok (.invokevirtual 50, 3) := by decide +kernel
theorem dX6_readEnd_27 : decode cX6_readEnd 27 = .ok (.return_, 1) := by decide +kernel
set_option maxHeartbeats 4000000 in
set_option maxRecDepth 100000 in
theorem ctX6_readEnd {p1 : Int} {σ : jq_M} {σ' : jq_M} (hp1 : jq_stp p1) (h : X6_readEnd p1 σ = some σ') : jq_MC jq_zX yX6_readEnd cX6_readEnd 2 none 5 126 [jR 2, jR p1] σ none σ' := by
  refine jq_met (own := RX6) (L0 := [(0, jR 2), (1, jR p1)]) (by decide) rfl rfl rfl ?_
  intro X Γ hnl hlY hRT
  refine jq_use2 (P := fun r => jq_RT jq_zX X none none r) ?_ h hRT
  intro K0 hK0
  unfold X6_readEnd
  refine jq_aload_n Γ dX6_readEnd_0 rfl 1 rfl (jq_at_0 (at_stp hp1)) ?_
  refine jq_getI (J := 8) Γ (at_stp hp1) fl_RX6_54 rfl rfl dX6_readEnd_1 ?_
  refine jq_if_ne (tgt := 13) Γ dX6_readEnd_4 rfl ?_ ?_
  · refine jq_aload_n Γ dX6_readEnd_13 rfl 1 rfl (jq_at_0 (at_stp hp1)) ?_
    refine jq_cwV (jq_virt (avs := []) (st := []) Γ hlY rfl ml_RX6_61 rfl (at_stp hp1) rfl rfl rfl rfl rfl dX6_readEnd_14) (fun σ' h => ctX7_closeOne hp1 h) (fun s1 => ?_)
    refine jq_aload_n Γ dX6_readEnd_17 rfl 0 rfl (jq_at_0 at_X_2) ?_
    refine jq_cwV (jq_virt (avs := []) (st := []) Γ hlY rfl ml_RX6_64 rfl at_X_2 rfl rfl rfl rfl rfl dX6_readEnd_18) (fun σ' h => ctX5_next h) (fun s2 => ?_)
    refine jq_aload_n Γ dX6_readEnd_21 rfl 0 rfl (jq_at_0 at_X_2) ?_
    refine jq_bipush Γ dX6_readEnd_22 rfl ?_
    refine jq_cwV (jq_virt (avs := [jI 59]) (st := []) Γ hlY rfl ml_RX6_50 rfl at_X_2 rfl rfl rfl rfl rfl dX6_readEnd_24) (fun σ' h => ctX5_passSign h) (fun s3 => ?_)
    exact jq_vreturn Γ dX6_readEnd_27 (hK0 _)
  · refine jq_aload_n Γ dX6_readEnd_7 rfl 0 rfl (jq_at_0 at_X_2) ?_
    refine jq_iconst Γ dX6_readEnd_8 rfl ?_
    refine jq_cwV (jq_virt (avs := [jI 2]) (st := []) Γ hlY rfl ml_RX6_57 rfl at_X_2 rfl rfl rfl rfl rfl dX6_readEnd_9) (fun σ' h => ctX5_blame h) (fun s4 => ?_)
    exact jq_vreturn Γ dX6_readEnd_12 (hK0 _)


theorem dX6_isStepWord_0 : decode cX6_isStepWord 0 = .ok (.iload_n 0, 1) := by decide +kernel
theorem dX6_isStepWord_1 : decode cX6_isStepWord 1 = .ok (.bipush 13, 2) := by decide +kernel
theorem dX6_isStepWord_3 : decode cX6_isStepWord 3 = .ok (.bipush 21, 2) := by decide +kernel
theorem dX6_isStepWord_5 : decode cX6_isStepWord 5 = .ok (.invokestatic 90, 3) := by decide +kernel
theorem dX6_isStepWord_8 : decode cX6_isStepWord 8 = .ok (.ifCond .ne 15, 3) := by decide +kernel
theorem dX6_isStepWord_11 : decode cX6_isStepWord 11 = .ok (.iload_n 0, 1) := by decide +kernel
theorem dX6_isStepWord_12 : decode cX6_isStepWord 12 = .ok (.bipush 25, 2) := by decide +kernel
theorem dX6_isStepWord_14 : decode cX6_isStepWord 14 = .ok (.if_icmp .eq 9, 3) := by decide +kernel
theorem dX6_isStepWord_17 : decode cX6_isStepWord 17 = .ok (.iload_n 0, 1) := by decide +kernel
theorem dX6_isStepWord_18 : decode cX6_isStepWord 18 = .ok (.bipush 27, 2) := by decide +kernel
theorem dX6_isStepWord_20 : decode cX6_isStepWord 20 = .ok (.if_icmp .ne 7, 3) := by decide +kernel
theorem dX6_isStepWord_23 : decode cX6_isStepWord 23 = .ok (.iconst 1, 1) := by decide +kernel
theorem dX6_isStepWord_24 : decode cX6_isStepWord 24 = .ok (.goto 4, 3) := by decide +kernel
theorem dX6_isStepWord_27 : decode cX6_isStepWord 27 = .ok (.iconst 0, 1) := by decide +kernel
theorem dX6_isStepWord_28 : decode cX6_isStepWord 28 = .ok (.ireturn, 1) := by decide +kernel
set_option maxHeartbeats 4000000 in
set_option maxRecDepth 100000 in
theorem ctX6_isStepWord {p0 : Int} {σ : jq_M} {res : Int}  (h : X6_isStepWord p0 σ = some res) : jq_MC jq_zX yX6_isStepWord cX6_isStepWord 1 (some .boolean) 2 62 [jI p0] σ (some (jI res)) σ := by
  refine jq_met (own := RX6) (L0 := [(0, jI p0)]) (by decide) rfl rfl rfl ?_
  intro X Γ hnl hlY hRT
  refine jq_use2 (P := fun r => jq_RT jq_zX X (some .boolean) (some (jI r)) σ) ?_ h hRT
  intro K0 hK0
  unfold X6_isStepWord
  refine jq_iload_n Γ dX6_isStepWord_0 rfl 0 rfl ?_
  refine jq_bipush Γ dX6_isStepWord_1 rfl ?_
  refine jq_bipush Γ dX6_isStepWord_3 rfl ?_
  refine jq_cpZ (jq_nest (avs := [jI p0, jI 13, jI 21]) (st := []) Γ hlY rfl ml_RX6_90 rfl rfl rfl rfl rfl dX6_isStepWord_5) rfl (fun r h => ctX10_within h) (fun v1 hz2 => ?_)
  refine jq_if_ne (tgt := 23) Γ dX6_isStepWord_8 rfl ?_ ?_
  · refine jq_iconst Γ dX6_isStepWord_23 rfl ?_
    refine jq_goto Γ (tgt := 28) dX6_isStepWord_24 rfl ?_
    exact jq_zreturn Γ (Or.inr rfl) dX6_isStepWord_28 (hK0 _)
  · refine jq_iload_n Γ dX6_isStepWord_11 rfl 0 rfl ?_
    refine jq_bipush Γ dX6_isStepWord_12 rfl ?_
    refine jq_icmp_eq (tgt := 23) Γ dX6_isStepWord_14 rfl ?_ ?_
    · refine jq_iconst Γ dX6_isStepWord_23 rfl ?_
      refine jq_goto Γ (tgt := 28) dX6_isStepWord_24 rfl ?_
      exact jq_zreturn Γ (Or.inr rfl) dX6_isStepWord_28 (hK0 _)
    · refine jq_iload_n Γ dX6_isStepWord_17 rfl 0 rfl ?_
      refine jq_bipush Γ dX6_isStepWord_18 rfl ?_
      refine jq_icmp_ne (tgt := 27) Γ dX6_isStepWord_20 rfl ?_ ?_
      · refine jq_iconst Γ dX6_isStepWord_27 rfl ?_
        exact jq_zreturn Γ (Or.inl rfl) dX6_isStepWord_28 (hK0 _)
      · refine jq_iconst Γ dX6_isStepWord_23 rfl ?_
        refine jq_goto Γ (tgt := 28) dX6_isStepWord_24 rfl ?_
        exact jq_zreturn Γ (Or.inr rfl) dX6_isStepWord_28 (hK0 _)


theorem dX7_isFull_0 : decode cX7_isFull 0 = .ok (.aload_n 0, 1) := by decide +kernel
theorem dX7_isFull_1 : decode cX7_isFull 1 = .ok (.getfield 31, 3) := by decide +kernel
theorem dX7_isFull_4 : decode cX7_isFull 4 = .ok (.bipush 30, 2) := by decide +kernel
theorem dX7_isFull_6 : decode cX7_isFull 6 = .ok (.if_icmp .lt 7, 3) := by decide +kernel
theorem dX7_isFull_9 : decode cX7_isFull 9 = .ok (.iconst 1, 1) := by decide +kernel
theorem dX7_isFull_10 : decode cX7_isFull 10 = .ok (.goto 4, 3) := by decide +kernel
theorem dX7_isFull_13 : decode cX7_isFull 13 = .ok (.iconst 0, 1) := by decide +kernel
theorem dX7_isFull_14 : decode cX7_isFull 14 = .ok (.ireturn, 1) := by decide +kernel
set_option maxHeartbeats 4000000 in
set_option maxRecDepth 100000 in
theorem ctX7_isFull {o : Int} {σ : jq_M} {res : Int} (ho : jq_stp o) (h : X7_isFull o σ = some res) : jq_MC jq_zX yX7_isFull cX7_isFull 1 (some .boolean) 1 40 [jR o] σ (some (jI res)) σ := by
  refine jq_met (own := RX7) (L0 := [(0, jR o)]) (by decide) rfl rfl rfl ?_
  intro X Γ hnl hlY hRT
  refine jq_use2 (P := fun r => jq_RT jq_zX X (some .boolean) (some (jI r)) σ) ?_ h hRT
  intro K0 hK0
  unfold X7_isFull
  refine jq_aload_n Γ dX7_isFull_0 rfl 0 rfl (jq_at_0 (at_stp ho)) ?_
  refine jq_getI (J := 1) Γ (at_stp ho) fl_RX7_31 rfl rfl dX7_isFull_1 ?_
  refine jq_bipush Γ dX7_isFull_4 rfl ?_
  refine jq_icmp_lt (tgt := 13) Γ dX7_isFull_6 rfl ?_ ?_
  · refine jq_iconst Γ dX7_isFull_13 rfl ?_
    exact jq_zreturn Γ (Or.inl rfl) dX7_isFull_14 (hK0 _)
  · refine jq_iconst Γ dX7_isFull_9 rfl ?_
    refine jq_goto Γ (tgt := 14) dX7_isFull_10 rfl ?_
    exact jq_zreturn Γ (Or.inr rfl) dX7_isFull_14 (hK0 _)


theorem dX6_opens_0 : decode cX6_opens 0 = .ok (.iload_n 0, 1) := by decide +kernel
theorem dX6_opens_1 : decode cX6_opens 1 = .ok (.bipush 21, 2) := by decide +kernel
theorem dX6_opens_3 : decode cX6_opens 3 = .ok (.if_icmp .eq 9, 3) := by decide +kernel
theorem dX6_opens_6 : decode cX6_opens 6 = .ok (.iload_n 0, 1) := by decide +kernel
theorem dX6_opens_7 : decode cX6_opens 7 = .ok (.bipush 25, 2) := by decide +kernel
theorem dX6_opens_9 : decode cX6_opens 9 = .ok (.if_icmp .ne 7, 3) := by decide +kernel
theorem dX6_opens_12 : decode cX6_opens 12 = .ok (.iconst 1, 1) := by decide +kernel
theorem dX6_opens_13 : decode cX6_opens 13 = .ok (.goto 4, 3) := by decide +kernel
theorem dX6_opens_16 : decode cX6_opens 16 = .ok (.iconst 0, 1) := by decide +kernel
theorem dX6_opens_17 : decode cX6_opens 17 = .ok (.ireturn, 1) := by decide +kernel
set_option maxHeartbeats 4000000 in
set_option maxRecDepth 100000 in
theorem ctX6_opens {p0 : Int} {σ : jq_M} {res : Int}  (h : X6_opens p0 σ = some res) : jq_MC jq_zX yX6_opens cX6_opens 1 (some .boolean) 1 40 [jI p0] σ (some (jI res)) σ := by
  refine jq_met (own := RX6) (L0 := [(0, jI p0)]) (by decide) rfl rfl rfl ?_
  intro X Γ hnl hlY hRT
  refine jq_use2 (P := fun r => jq_RT jq_zX X (some .boolean) (some (jI r)) σ) ?_ h hRT
  intro K0 hK0
  unfold X6_opens
  refine jq_iload_n Γ dX6_opens_0 rfl 0 rfl ?_
  refine jq_bipush Γ dX6_opens_1 rfl ?_
  refine jq_icmp_eq (tgt := 12) Γ dX6_opens_3 rfl ?_ ?_
  · refine jq_iconst Γ dX6_opens_12 rfl ?_
    refine jq_goto Γ (tgt := 17) dX6_opens_13 rfl ?_
    exact jq_zreturn Γ (Or.inr rfl) dX6_opens_17 (hK0 _)
  · refine jq_iload_n Γ dX6_opens_6 rfl 0 rfl ?_
    refine jq_bipush Γ dX6_opens_7 rfl ?_
    refine jq_icmp_ne (tgt := 16) Γ dX6_opens_9 rfl ?_ ?_
    · refine jq_iconst Γ dX6_opens_16 rfl ?_
      exact jq_zreturn Γ (Or.inl rfl) dX6_opens_17 (hK0 _)
    · refine jq_iconst Γ dX6_opens_12 rfl ?_
      refine jq_goto Γ (tgt := 17) dX6_opens_13 rfl ?_
      exact jq_zreturn Γ (Or.inr rfl) dX6_opens_17 (hK0 _)


theorem dX7_isDeep_0 : decode cX7_isDeep 0 = .ok (.aload_n 0, 1) := by decide +kernel
theorem dX7_isDeep_1 : decode cX7_isDeep 1 = .ok (.getfield 38, 3) := by decide +kernel
theorem dX7_isDeep_4 : decode cX7_isDeep 4 = .ok (.iconst 3, 1) := by decide +kernel
theorem dX7_isDeep_5 : decode cX7_isDeep 5 = .ok (.if_icmp .lt 7, 3) := by decide +kernel
theorem dX7_isDeep_8 : decode cX7_isDeep 8 = .ok (.iconst 1, 1) := by decide +kernel
theorem dX7_isDeep_9 : decode cX7_isDeep 9 = .ok (.goto 4, 3) := by decide +kernel
theorem dX7_isDeep_12 : decode cX7_isDeep 12 = .ok (.iconst 0, 1) := by decide +kernel
theorem dX7_isDeep_13 : decode cX7_isDeep 13 = .ok (.ireturn, 1) := by decide +kernel
set_option maxHeartbeats 4000000 in
set_option maxRecDepth 100000 in
theorem ctX7_isDeep {o : Int} {σ : jq_M} {res : Int} (ho : jq_stp o) (h : X7_isDeep o σ = some res) : jq_MC jq_zX yX7_isDeep cX7_isDeep 1 (some .boolean) 1 40 [jR o] σ (some (jI res)) σ := by
  refine jq_met (own := RX7) (L0 := [(0, jR o)]) (by decide) rfl rfl rfl ?_
  intro X Γ hnl hlY hRT
  refine jq_use2 (P := fun r => jq_RT jq_zX X (some .boolean) (some (jI r)) σ) ?_ h hRT
  intro K0 hK0
  unfold X7_isDeep
  refine jq_aload_n Γ dX7_isDeep_0 rfl 0 rfl (jq_at_0 (at_stp ho)) ?_
  refine jq_getI (J := 8) Γ (at_stp ho) fl_RX7_38 rfl rfl dX7_isDeep_1 ?_
  refine jq_iconst Γ dX7_isDeep_4 rfl ?_
  refine jq_icmp_lt (tgt := 12) Γ dX7_isDeep_5 rfl ?_ ?_
  · refine jq_iconst Γ dX7_isDeep_12 rfl ?_
    exact jq_zreturn Γ (Or.inl rfl) dX7_isDeep_13 (hK0 _)
  · refine jq_iconst Γ dX7_isDeep_8 rfl ?_
    refine jq_goto Γ (tgt := 13) dX7_isDeep_9 rfl ?_
    exact jq_zreturn Γ (Or.inr rfl) dX7_isDeep_13 (hK0 _)


theorem dX6_mayBegin_0 : decode cX6_mayBegin 0 = .ok (.aload_n 0, 1) := by decide +kernel
theorem dX6_mayBegin_1 : decode cX6_mayBegin 1 = .ok (.getfield 24, 3) := by decide +kernel
theorem dX6_mayBegin_4 : decode cX6_mayBegin 4 = .ok (.invokestatic 67, 3) := by decide +kernel
theorem dX6_mayBegin_7 : decode cX6_mayBegin 7 = .ok (.ifCond .ne 11, 3) := by decide +kernel
theorem dX6_mayBegin_10 : decode cX6_mayBegin 10 = .ok (.aload_n 0, 1) := by decide +kernel
theorem dX6_mayBegin_11 : decode cX6_mayBegin 11 = .ok (.iconst 2, 1) := by decide +kernel
theorem dX6_mayBegin_12 : decode cX6_mayBegin 12 = .ok (.invokevirtual 57, 3) := by decide +kernel
theorem dX6_mayBegin_15 : decode cX6_mayBegin 15 = .ok (.goto 42, 3) := by decide +kernel
theorem dX6_mayBegin_18 : decode cX6_mayBegin 18 = .ok (.aload_n 1, 1) := by decide +kernel
theorem dX6_mayBegin_19 : decode cX6_mayBegin 19 = .ok (.invokevirtual 71, 3) := by decide +kernel
theorem dX6_mayBegin_22 : decode cX6_mayBegin 22 = .ok (.ifCond .eq 12, 3) := by decide +kernel
theorem dX6_mayBegin_25 : decode cX6_mayBegin 25 = .ok (.aload_n 0, 1) := by decide +kernel
theorem dX6_mayBegin_26 : decode cX6_mayBegin 26 = .ok (.bipush 6, 2) := by decide +kernel
theorem dX6_mayBegin_28 : decode cX6_mayBegin 28 = .ok (.invokevirtual 57, 3) := by decide +kernel
theorem dX6_mayBegin_31 : decode cX6_mayBegin 31 = .ok (.goto 26, 3) := by decide +kernel
theorem dX6_mayBegin_34 : decode cX6_mayBegin 34 = .ok (.aload_n 0, 1) := by decide +kernel
theorem dX6_mayBegin_35 : decode cX6_mayBegin 35 = .ok (.getfield 24, 3) := by decide +kernel
theorem dX6_mayBegin_38 : decode cX6_mayBegin 38 = .ok (.invokestatic 74, 3) := by decide +kernel
theorem dX6_mayBegin_41 : decode cX6_mayBegin 41 = .ok (.ifCond .eq 16, 3) := by decide +kernel
theorem dX6_mayBegin_44 : decode cX6_mayBegin 44 = .ok (.aload_n 1, 1) := by decide +kernel
theorem dX6_mayBegin_45 : decode cX6_mayBegin 45 = .ok (.invokevirtual 77, 3) := by decide +kernel
theorem dX6_mayBegin_48 : decode cX6_mayBegin 48 = .ok (.ifCond .eq 9, 3) := by decide +kernel
theorem dX6_mayBegin_51 : decode cX6_mayBegin 51 = .ok (.aload_n 0, 1) := by decide +kernel
theorem dX6_mayBegin_52 : decode cX6_mayBegin 52 = .ok (.bipush 7, 2) := by decide +kernel
theorem dX6_mayBegin_54 : decode cX6_mayBegin 54 = .ok (.invokevirtual 57, 3) := by decide +kernel
theorem dX6_mayBegin_57 : decode cX6_mayBegin 57 = .ok (.aload_n 0, 1) := by decide +kernel
theorem dX6_mayBegin_58 : decode cX6_mayBegin 58 = .ok (.invokevirtual 80, 3) := by decide +kernel
theorem dX6_mayBegin_61 : decode cX6_mayBegin 61 = .ok (.ifCond .ne 7, 3) := by decide +kernel
theorem dX6_mayBegin_64 : decode cX6_mayBegin 64 = .ok (.iconst 1, 1) := by decide +kernel
theorem dX6_mayBegin_65 : decode cX6_mayBegin 65 = .ok (.goto 4, 3) := by decide +kernel
theorem dX6_mayBegin_68 : decode cX6_mayBegin 68 = .ok (.iconst 0, 1) := by decide +kernel
theorem dX6_mayBegin_69 : decode cX6_mayBegin 69 = .ok (.ireturn, 1) := by decide +kernel
set_option maxHeartbeats 4000000 in
set_option maxRecDepth 100000 in
theorem ctX6_mayBegin {p1 : Int} {σ : jq_M} {res : Int} {σ' : jq_M} (hp1 : jq_stp p1) (h : X6_mayBegin p1 σ = some (res, σ')) : jq_MC jq_zX yX6_mayBegin cX6_mayBegin 2 (some .boolean) 3 82 [jR 2, jR p1] σ (some (jI res)) σ' := by
  refine jq_met (own := RX6) (L0 := [(0, jR 2), (1, jR p1)]) (by decide) rfl rfl rfl ?_
  intro X Γ hnl hlY hRT
  refine jq_use2 (P := fun r => jq_RT jq_zX X (some .boolean) (some (jI r.1)) r.2) ?_ h hRT
  intro K0 hK0
  unfold X6_mayBegin
  have hj57_0 : ∀ (s7 : jq_M), jq_J (X6_mayBegin_j57 s7) K0 (jq_V jq_zX X (jq_zN jq_zX) s7 57 [(0, jR 2)] []) := by
    intro s7
    unfold X6_mayBegin_j57
    refine jq_aload_n Γ dX6_mayBegin_57 rfl 0 rfl (jq_at_0 at_X_2) ?_
    refine jq_cpZ (jq_virt (avs := []) (st := []) Γ hlY rfl ml_RX6_80 rfl at_X_2 rfl rfl rfl rfl rfl dX6_mayBegin_58) rfl (fun r h => ctX5_hasFault h) (fun v8 hz9 => ?_)
    refine jq_if_ne (tgt := 68) Γ dX6_mayBegin_61 rfl ?_ ?_
    · refine jq_iconst Γ dX6_mayBegin_68 rfl ?_
      exact jq_zreturn Γ (Or.inl rfl) dX6_mayBegin_69 (hK0 _)
    · refine jq_iconst Γ dX6_mayBegin_64 rfl ?_
      refine jq_goto Γ (tgt := 69) dX6_mayBegin_65 rfl ?_
      exact jq_zreturn Γ (Or.inr rfl) dX6_mayBegin_69 (hK0 _)
  refine jq_aload_n Γ dX6_mayBegin_0 rfl 0 rfl (jq_at_0 at_X_2) ?_
  refine jq_getI (J := 11) Γ at_X_2 fl_RX6_24 rfl rfl dX6_mayBegin_1 ?_
  refine jq_cpZ (jq_stat (avs := [jI (σ 2 11)]) (st := []) Γ hlY rfl ml_RX6_67 rfl rfl rfl rfl rfl dX6_mayBegin_4) rfl (fun r h => ctX6_isStepWord h) (fun v1 hz2 => ?_)
  refine jq_if_ne (tgt := 18) Γ dX6_mayBegin_7 rfl ?_ ?_
  · refine jq_aload_n Γ dX6_mayBegin_18 rfl 1 rfl (jq_at_0 (at_stp hp1)) ?_
    refine jq_cpZ (jq_virt (avs := []) (st := []) Γ hlY rfl ml_RX6_71 rfl (at_stp hp1) rfl rfl rfl rfl rfl dX6_mayBegin_19) rfl (fun r h => ctX7_isFull hp1 h) (fun v3 hz4 => ?_)
    refine jq_if_eq (tgt := 34) Γ dX6_mayBegin_22 rfl ?_ ?_
    · refine jq_aload_n Γ dX6_mayBegin_34 rfl 0 rfl (jq_at_0 at_X_2) ?_
      refine jq_getI (J := 11) Γ at_X_2 fl_RX6_24 rfl rfl dX6_mayBegin_35 ?_
      refine jq_cpZ (jq_stat (avs := [jI (σ 2 11)]) (st := []) Γ hlY rfl ml_RX6_74 rfl rfl rfl rfl rfl dX6_mayBegin_38) rfl (fun r h => ctX6_opens h) (fun v5 hz6 => ?_)
      refine jq_if_eq (tgt := 57) Γ dX6_mayBegin_41 rfl ?_ ?_
      · refine jq_sub Γ (L' := [(0, jR 2)]) [0] rfl ?_
        exact hj57_0 σ
      · refine jq_aload_n Γ dX6_mayBegin_44 rfl 1 rfl (jq_at_0 (at_stp hp1)) ?_
        refine jq_cpZ (jq_virt (avs := []) (st := []) Γ hlY rfl ml_RX6_77 rfl (at_stp hp1) rfl rfl rfl rfl rfl dX6_mayBegin_45) rfl (fun r h => ctX7_isDeep hp1 h) (fun v10 hz11 => ?_)
        refine jq_if_eq (tgt := 57) Γ dX6_mayBegin_48 rfl ?_ ?_
        · refine jq_sub Γ (L' := [(0, jR 2)]) [0] rfl ?_
          exact hj57_0 σ
        · refine jq_aload_n Γ dX6_mayBegin_51 rfl 0 rfl (jq_at_0 at_X_2) ?_
          refine jq_bipush Γ dX6_mayBegin_52 rfl ?_
          refine jq_cwV (jq_virt (avs := [jI 7]) (st := []) Γ hlY rfl ml_RX6_57 rfl at_X_2 rfl rfl rfl rfl rfl dX6_mayBegin_54) (fun σ' h => ctX5_blame h) (fun s12 => ?_)
          refine jq_sub Γ (L' := [(0, jR 2)]) [0] rfl ?_
          exact hj57_0 s12
    · refine jq_aload_n Γ dX6_mayBegin_25 rfl 0 rfl (jq_at_0 at_X_2) ?_
      refine jq_bipush Γ dX6_mayBegin_26 rfl ?_
      refine jq_cwV (jq_virt (avs := [jI 6]) (st := []) Γ hlY rfl ml_RX6_57 rfl at_X_2 rfl rfl rfl rfl rfl dX6_mayBegin_28) (fun σ' h => ctX5_blame h) (fun s13 => ?_)
      refine jq_goto Γ (tgt := 57) dX6_mayBegin_31 rfl ?_
      refine jq_sub Γ (L' := [(0, jR 2)]) [0] rfl ?_
      exact hj57_0 s13
  · refine jq_aload_n Γ dX6_mayBegin_10 rfl 0 rfl (jq_at_0 at_X_2) ?_
    refine jq_iconst Γ dX6_mayBegin_11 rfl ?_
    refine jq_cwV (jq_virt (avs := [jI 2]) (st := []) Γ hlY rfl ml_RX6_57 rfl at_X_2 rfl rfl rfl rfl rfl dX6_mayBegin_12) (fun σ' h => ctX5_blame h) (fun s14 => ?_)
    refine jq_goto Γ (tgt := 57) dX6_mayBegin_15 rfl ?_
    refine jq_sub Γ (L' := [(0, jR 2)]) [0] rfl ?_
    exact hj57_0 s14


theorem dX7_addStep_0 : decode cX7_addStep 0 = .ok (.aload_n 0, 1) := by decide +kernel
theorem dX7_addStep_1 : decode cX7_addStep 1 = .ok (.dup, 1) := by decide +kernel
theorem dX7_addStep_2 : decode cX7_addStep 2 = .ok (.getfield 31, 3) := by decide +kernel
theorem dX7_addStep_5 : decode cX7_addStep 5 = .ok (.iconst 1, 1) := by decide +kernel
theorem dX7_addStep_6 : decode cX7_addStep 6 = .ok (.iadd, 1) := by decide +kernel
theorem dX7_addStep_7 : decode cX7_addStep 7 = .ok (.putfield 31, 3) := by decide +kernel
theorem dX7_addStep_10 : decode cX7_addStep 10 = .ok (.aload_n 0, 1) := by decide +kernel
theorem dX7_addStep_11 : decode cX7_addStep 11 = .ok (.iload_n 1, 1) := by decide +kernel
theorem dX7_addStep_12 : decode cX7_addStep 12 = .ok (.invokevirtual 51, 3) := by decide +kernel
theorem dX7_addStep_15 : decode cX7_addStep 15 = .ok (.ireturn, 1) := by decide +kernel
set_option maxHeartbeats 4000000 in
set_option maxRecDepth 100000 in
theorem ctX7_addStep {o : Int} {p1 : Int} {σ : jq_M} {res : Int} {σ' : jq_M} (ho : jq_stp o) (h : X7_addStep o p1 σ = some (res, σ')) : jq_MC jq_zX yX7_addStep cX7_addStep 2 (some .int) 2 62 [jR o, jI p1] σ (some (jI res)) σ' := by
  refine jq_met (own := RX7) (L0 := [(0, jR o), (1, jI p1)]) (by decide) rfl rfl rfl ?_
  intro X Γ hnl hlY hRT
  refine jq_use2 (P := fun r => jq_RT jq_zX X (some .int) (some (jI r.1)) r.2) ?_ h hRT
  intro K0 hK0
  unfold X7_addStep
  refine jq_aload_n Γ dX7_addStep_0 rfl 0 rfl (jq_at_0 (at_stp ho)) ?_
  refine jq_dup Γ dX7_addStep_1 rfl ?_
  refine jq_getI (J := 1) Γ (at_stp ho) fl_RX7_31 rfl rfl dX7_addStep_2 ?_
  refine jq_iconst Γ dX7_addStep_5 rfl ?_
  refine jq_iadd Γ dX7_addStep_6 ?_
  refine jq_putI Γ (at_stp ho) fl_RX7_31 rfl rfl dX7_addStep_7 (fun s1 => ?_)
  refine jq_aload_n Γ dX7_addStep_10 rfl 0 rfl (jq_at_0 (at_stp ho)) ?_
  refine jq_iload_n Γ dX7_addStep_11 rfl 1 rfl ?_
  refine jq_cwI (jq_virt (avs := [jI p1]) (st := []) Γ hlY rfl ml_RX7_51 rfl (at_stp ho) rfl rfl rfl rfl rfl dX7_addStep_12) (fun r σ' h => ctX7_addLine ho h) (fun v2 s3 => ?_)
  exact jq_ireturn Γ dX7_addStep_15 (hK0 _)


theorem dX7_openAt_0 : decode cX7_openAt 0 = .ok (.aload_n 0, 1) := by decide +kernel
theorem dX7_openAt_1 : decode cX7_openAt 1 = .ok (.getfield 38, 3) := by decide +kernel
theorem dX7_openAt_4 : decode cX7_openAt 4 = .ok (.ifCond .lt 35, 3) := by decide +kernel
theorem dX7_openAt_7 : decode cX7_openAt 7 = .ok (.aload_n 0, 1) := by decide +kernel
theorem dX7_openAt_8 : decode cX7_openAt 8 = .ok (.getfield 38, 3) := by decide +kernel
theorem dX7_openAt_11 : decode cX7_openAt 11 = .ok (.aload_n 0, 1) := by decide +kernel
theorem dX7_openAt_12 : decode cX7_openAt 12 = .ok (.getfield 24, 3) := by decide +kernel
theorem dX7_openAt_15 : decode cX7_openAt 15 = .ok (.arraylength, 1) := by decide +kernel
theorem dX7_openAt_16 : decode cX7_openAt 16 = .ok (.if_icmp .ge 23, 3) := by decide +kernel
theorem dX7_openAt_19 : decode cX7_openAt 19 = .ok (.aload_n 0, 1) := by decide +kernel
theorem dX7_openAt_20 : decode cX7_openAt 20 = .ok (.getfield 24, 3) := by decide +kernel
theorem dX7_openAt_23 : decode cX7_openAt 23 = .ok (.aload_n 0, 1) := by decide +kernel
theorem dX7_openAt_24 : decode cX7_openAt 24 = .ok (.getfield 38, 3) := by decide +kernel
theorem dX7_openAt_27 : decode cX7_openAt 27 = .ok (.iload_n 1, 1) := by decide +kernel
theorem dX7_openAt_28 : decode cX7_openAt 28 = .ok (.iastore, 1) := by decide +kernel
theorem dX7_openAt_29 : decode cX7_openAt 29 = .ok (.aload_n 0, 1) := by decide +kernel
theorem dX7_openAt_30 : decode cX7_openAt 30 = .ok (.dup, 1) := by decide +kernel
theorem dX7_openAt_31 : decode cX7_openAt 31 = .ok (.getfield 38, 3) := by decide +kernel
theorem dX7_openAt_34 : decode cX7_openAt 34 = .ok (.iconst 1, 1) := by decide +kernel
theorem dX7_openAt_35 : decode cX7_openAt 35 = .ok (.iadd, 1) := by decide +kernel
theorem dX7_openAt_36 : decode cX7_openAt 36 = .ok (.putfield 38, 3) := by decide +kernel
theorem dX7_openAt_39 : decode cX7_openAt 39 = .ok (.return_, 1) := by decide +kernel
set_option maxHeartbeats 4000000 in
set_option maxRecDepth 100000 in
theorem ctX7_openAt {o : Int} {p1 : Int} {σ : jq_M} {σ' : jq_M} (ho : jq_stp o) (h : X7_openAt o p1 σ = some σ') : jq_MC jq_zX yX7_openAt cX7_openAt 2 none 1 40 [jR o, jI p1] σ none σ' := by
  refine jq_met (own := RX7) (L0 := [(0, jR o), (1, jI p1)]) (by decide) rfl rfl rfl ?_
  intro X Γ hnl hlY hRT
  refine jq_use2 (P := fun r => jq_RT jq_zX X none none r) ?_ h hRT
  intro K0 hK0
  unfold X7_openAt
  refine jq_aload_n Γ dX7_openAt_0 rfl 0 rfl (jq_at_0 (at_stp ho)) ?_
  refine jq_getI (J := 8) Γ (at_stp ho) fl_RX7_38 rfl rfl dX7_openAt_1 ?_
  refine jq_if_lt (tgt := 39) Γ dX7_openAt_4 rfl ?_ ?_
  · exact jq_vreturn Γ dX7_openAt_39 (hK0 _)
  · refine jq_aload_n Γ dX7_openAt_7 rfl 0 rfl (jq_at_0 (at_stp ho)) ?_
    refine jq_getI (J := 8) Γ (at_stp ho) fl_RX7_38 rfl rfl dX7_openAt_8 ?_
    refine jq_aload_n Γ dX7_openAt_11 rfl 0 rfl (jq_at_0 (at_stp ho)) ?_
    refine jq_getR (v := (o + 5)) Γ hlY (at_stp ho) fl_RX7_24 rfl rfl (ly_X7_open ho) dX7_openAt_12 ?_
    refine jq_alen Γ (at_stp_5 ho) rfl rfl rfl dX7_openAt_15 ?_
    refine jq_icmp_ge (tgt := 39) Γ dX7_openAt_16 rfl ?_ ?_
    · exact jq_vreturn Γ dX7_openAt_39 (hK0 _)
    · refine jq_aload_n Γ dX7_openAt_19 rfl 0 rfl (jq_at_0 (at_stp ho)) ?_
      refine jq_getR (v := (o + 5)) Γ hlY (at_stp ho) fl_RX7_24 rfl rfl (ly_X7_open ho) dX7_openAt_20 ?_
      refine jq_aload_n Γ dX7_openAt_23 rfl 0 rfl (jq_at_0 (at_stp ho)) ?_
      refine jq_getI (J := 8) Γ (at_stp ho) fl_RX7_38 rfl rfl dX7_openAt_24 ?_
      refine jq_iload_n Γ dX7_openAt_27 rfl 1 rfl ?_
      refine jq_iast Γ (at_stp_5 ho) rfl dX7_openAt_28 (fun s1 => ?_)
      refine jq_aload_n Γ dX7_openAt_29 rfl 0 rfl (jq_at_0 (at_stp ho)) ?_
      refine jq_dup Γ dX7_openAt_30 rfl ?_
      refine jq_getI (J := 8) Γ (at_stp ho) fl_RX7_38 rfl rfl dX7_openAt_31 ?_
      refine jq_iconst Γ dX7_openAt_34 rfl ?_
      refine jq_iadd Γ dX7_openAt_35 ?_
      refine jq_putI Γ (at_stp ho) fl_RX7_38 rfl rfl dX7_openAt_36 (fun s2 => ?_)
      exact jq_vreturn Γ dX7_openAt_39 (hK0 _)


theorem dX6_beginStep_0 : decode cX6_beginStep 0 = .ok (.aload_n 1, 1) := by decide +kernel
theorem dX6_beginStep_1 : decode cX6_beginStep 1 = .ok (.aload_n 0, 1) := by decide +kernel
theorem dX6_beginStep_2 : decode cX6_beginStep 2 = .ok (.getfield 24, 3) := by decide +kernel
theorem dX6_beginStep_5 : decode cX6_beginStep 5 = .ok (.invokevirtual 83, 3) := by decide +kernel
theorem dX6_beginStep_8 : decode cX6_beginStep 8 = .ok (.istore_n 2, 1) := by decide +kernel
theorem dX6_beginStep_9 : decode cX6_beginStep 9 = .ok (.aload_n 0, 1) := by decide +kernel
theorem dX6_beginStep_10 : decode cX6_beginStep 10 = .ok (.getfield 24, 3) := by decide +kernel
theorem dX6_beginStep_13 : decode cX6_beginStep 13 = .ok (.invokestatic 74, 3) := by decide +kernel
theorem dX6_beginStep_16 : decode cX6_beginStep 16 = .ok (.ifCond .eq 8, 3) := by decide +kernel
theorem dX6_beginStep_19 : decode cX6_beginStep 19 = .ok (.aload_n 1, 1) := by decide +kernel
theorem dX6_beginStep_20 : decode cX6_beginStep 20 = .ok (.iload_n 2, 1) := by decide +kernel
theorem dX6_beginStep_21 : decode cX6_beginStep 21 = .ok (.invokevirtual 87, 3) := by decide +kernel
theorem dX6_beginStep_24 : decode cX6_beginStep 24 = .ok (.aload_n 0, 1) := by decide +kernel
theorem dX6_beginStep_25 : decode cX6_beginStep 25 = .ok (.invokevirtual 64, 3) := by decide +kernel
theorem dX6_beginStep_28 : decode cX6_beginStep 28 = .ok (.iload_n 2, 1) := by decide +kernel
theorem dX6_beginStep_29 : decode cX6_beginStep 29 = .ok (.ireturn, 1) := by decide +kernel
set_option maxHeartbeats 4000000 in
set_option maxRecDepth 100000 in
theorem ctX6_beginStep {p1 : Int} {σ : jq_M} {res : Int} {σ' : jq_M} (hp1 : jq_stp p1) (h : X6_beginStep p1 σ = some (res, σ')) : jq_MC jq_zX yX6_beginStep cX6_beginStep 3 (some .int) 4 105 [jR 2, jR p1] σ (some (jI res)) σ' := by
  refine jq_met (own := RX6) (L0 := [(0, jR 2), (1, jR p1)]) (by decide) rfl rfl rfl ?_
  intro X Γ hnl hlY hRT
  refine jq_use2 (P := fun r => jq_RT jq_zX X (some .int) (some (jI r.1)) r.2) ?_ h hRT
  intro K0 hK0
  unfold X6_beginStep
  have hj24_0 : ∀ (j5 : Int) (s6 : jq_M), jq_J (X6_beginStep_j24 j5 s6) K0 (jq_V jq_zX X (jq_zN jq_zX) s6 24 [(0, jR 2), (2, jI j5)] []) := by
    intro j5 s6
    unfold X6_beginStep_j24
    refine jq_aload_n Γ dX6_beginStep_24 rfl 0 rfl (jq_at_0 at_X_2) ?_
    refine jq_cwV (jq_virt (avs := []) (st := []) Γ hlY rfl ml_RX6_64 rfl at_X_2 rfl rfl rfl rfl rfl dX6_beginStep_25) (fun σ' h => ctX5_next h) (fun s7 => ?_)
    refine jq_iload_n Γ dX6_beginStep_28 rfl 1 rfl ?_
    exact jq_ireturn Γ dX6_beginStep_29 (hK0 _)
  refine jq_aload_n Γ dX6_beginStep_0 rfl 1 rfl (jq_at_0 (at_stp hp1)) ?_
  refine jq_aload_n Γ dX6_beginStep_1 rfl 0 rfl (jq_at_0 at_X_2) ?_
  refine jq_getI (J := 11) Γ at_X_2 fl_RX6_24 rfl rfl dX6_beginStep_2 ?_
  refine jq_cwI (jq_virt (avs := [jI (σ 2 11)]) (st := []) Γ hlY rfl ml_RX6_83 rfl (at_stp hp1) rfl rfl rfl rfl rfl dX6_beginStep_5) (fun r σ' h => ctX7_addStep hp1 h) (fun v1 s2 => ?_)
  refine jq_istore_n (L' := [(2, jI v1), (0, jR 2), (1, jR p1)]) Γ dX6_beginStep_8 rfl hnl rfl rfl ?_
  refine jq_aload_n Γ dX6_beginStep_9 rfl 1 rfl (jq_at_0 at_X_2) ?_
  refine jq_getI (J := 11) Γ at_X_2 fl_RX6_24 rfl rfl dX6_beginStep_10 ?_
  refine jq_cpZ (jq_stat (avs := [jI (s2 2 11)]) (st := []) Γ hlY rfl ml_RX6_74 rfl rfl rfl rfl rfl dX6_beginStep_13) rfl (fun r h => ctX6_opens h) (fun v3 hz4 => ?_)
  refine jq_if_eq (tgt := 24) Γ dX6_beginStep_16 rfl ?_ ?_
  · refine jq_sub Γ (L' := [(0, jR 2), (2, jI v1)]) [1, 0] rfl ?_
    exact hj24_0 v1 s2
  · refine jq_aload_n Γ dX6_beginStep_19 rfl 2 rfl (jq_at_0 (at_stp hp1)) ?_
    refine jq_iload_n Γ dX6_beginStep_20 rfl 0 rfl ?_
    refine jq_cwV (jq_virt (avs := [jI v1]) (st := []) Γ hlY rfl ml_RX6_87 rfl (at_stp hp1) rfl rfl rfl rfl rfl dX6_beginStep_21) (fun σ' h => ctX7_openAt hp1 h) (fun s8 => ?_)
    refine jq_sub Γ (L' := [(0, jR 2), (2, jI v1)]) [1, 0] rfl ?_
    exact hj24_0 v1 s8


theorem dX5_takeArticle_0 : decode cX5_takeArticle 0 = .ok (.aload_n 0, 1) := by decide +kernel
theorem dX5_takeArticle_1 : decode cX5_takeArticle 1 = .ok (.aload_n 1, 1) := by decide +kernel
theorem dX5_takeArticle_2 : decode cX5_takeArticle 2 = .ok (.invokevirtual 141, 3) := by decide +kernel
theorem dX5_takeArticle_5 : decode cX5_takeArticle 5 = .ok (.istore_n 2, 1) := by decide +kernel
theorem dX5_takeArticle_6 : decode cX5_takeArticle 6 = .ok (.aload_n 0, 1) := by decide +kernel
theorem dX5_takeArticle_7 : decode cX5_takeArticle 7 = .ok (.invokevirtual 58, 3) := by decide +kernel
theorem dX5_takeArticle_10 : decode cX5_takeArticle 10 = .ok (.iload_n 2, 1) := by decide +kernel
theorem dX5_takeArticle_11 : decode cX5_takeArticle 11 = .ok (.ireturn, 1) := by decide +kernel
set_option maxHeartbeats 4000000 in
set_option maxRecDepth 100000 in
theorem ctX5_takeArticle {p1 : Int} {σ : jq_M} {res : Int} {σ' : jq_M} (hp1 : jq_com p1) (h : X5_takeArticle p1 σ = some (res, σ')) : jq_MC jq_zX yX5_takeArticle cX5_takeArticle 3 (some .int) 4 105 [jR 2, jR p1] σ (some (jI res)) σ' := by
  refine jq_met (own := RX5) (L0 := [(0, jR 2), (1, jR p1)]) (by decide) rfl rfl rfl ?_
  intro X Γ hnl hlY hRT
  refine jq_use2 (P := fun r => jq_RT jq_zX X (some .int) (some (jI r.1)) r.2) ?_ h hRT
  intro K0 hK0
  unfold X5_takeArticle
  refine jq_aload_n Γ dX5_takeArticle_0 rfl 0 rfl (jq_at_0 at_X_2) ?_
  refine jq_aload_n Γ dX5_takeArticle_1 rfl 1 rfl (jq_at_0 (at_com hp1)) ?_
  refine jq_cwI (jq_virt (avs := [jR p1]) (st := []) Γ hlY rfl ml_RX5_141 rfl at_X_2 rfl rfl rfl rfl rfl dX5_takeArticle_2) (fun r σ' h => ctX5_articleHere hp1 h) (fun v1 s2 => ?_)
  refine jq_istore_n (L' := [(2, jI v1), (0, jR 2), (1, jR p1)]) Γ dX5_takeArticle_5 rfl hnl rfl rfl ?_
  refine jq_aload_n Γ dX5_takeArticle_6 rfl 1 rfl (jq_at_0 at_X_2) ?_
  refine jq_cwV (jq_virt (avs := []) (st := []) Γ hlY rfl ml_RX5_58 rfl at_X_2 rfl rfl rfl rfl rfl dX5_takeArticle_7) (fun σ' h => ctX5_next h) (fun s3 => ?_)
  refine jq_iload_n Γ dX5_takeArticle_10 rfl 0 rfl ?_
  exact jq_ireturn Γ dX5_takeArticle_11 (hK0 _)


theorem dX5_takeCompares_0 : decode cX5_takeCompares 0 = .ok (.aload_n 0, 1) := by decide +kernel
theorem dX5_takeCompares_1 : decode cX5_takeCompares 1 = .ok (.bipush 60, 2) := by decide +kernel
theorem dX5_takeCompares_3 : decode cX5_takeCompares 3 = .ok (.invokevirtual 106, 3) := by decide +kernel
theorem dX5_takeCompares_6 : decode cX5_takeCompares 6 = .ok (.ifCond .ne 26, 3) := by decide +kernel
theorem dX5_takeCompares_9 : decode cX5_takeCompares 9 = .ok (.aload_n 0, 1) := by decide +kernel
theorem dX5_takeCompares_10 : decode cX5_takeCompares 10 = .ok (.bipush 62, 2) := by decide +kernel
theorem dX5_takeCompares_12 : decode cX5_takeCompares 12 = .ok (.invokevirtual 106, 3) := by decide +kernel
theorem dX5_takeCompares_15 : decode cX5_takeCompares 15 = .ok (.ifCond .ne 17, 3) := by decide +kernel
theorem dX5_takeCompares_18 : decode cX5_takeCompares 18 = .ok (.aload_n 0, 1) := by decide +kernel
theorem dX5_takeCompares_19 : decode cX5_takeCompares 19 = .ok (.bipush 61, 2) := by decide +kernel
theorem dX5_takeCompares_21 : decode cX5_takeCompares 21 = .ok (.invokevirtual 106, 3) := by decide +kernel
theorem dX5_takeCompares_24 : decode cX5_takeCompares 24 = .ok (.ifCond .ne 8, 3) := by decide +kernel
theorem dX5_takeCompares_27 : decode cX5_takeCompares 27 = .ok (.aload_n 0, 1) := by decide +kernel
theorem dX5_takeCompares_28 : decode cX5_takeCompares 28 = .ok (.iconst 2, 1) := by decide +kernel
theorem dX5_takeCompares_29 : decode cX5_takeCompares 29 = .ok (.invokevirtual 110, 3) := by decide +kernel
theorem dX5_takeCompares_32 : decode cX5_takeCompares 32 = .ok (.aload_n 0, 1) := by decide +kernel
theorem dX5_takeCompares_33 : decode cX5_takeCompares 33 = .ok (.getfield 103, 3) := by decide +kernel
theorem dX5_takeCompares_36 : decode cX5_takeCompares 36 = .ok (.istore_n 1, 1) := by decide +kernel
theorem dX5_takeCompares_37 : decode cX5_takeCompares 37 = .ok (.aload_n 0, 1) := by decide +kernel
theorem dX5_takeCompares_38 : decode cX5_takeCompares 38 = .ok (.invokevirtual 58, 3) := by decide +kernel
theorem dX5_takeCompares_41 : decode cX5_takeCompares 41 = .ok (.iload_n 1, 1) := by decide +kernel
theorem dX5_takeCompares_42 : decode cX5_takeCompares 42 = .ok (.ireturn, 1) := by decide +kernel
set_option maxHeartbeats 4000000 in
set_option maxRecDepth 100000 in
theorem ctX5_takeCompares  {σ : jq_M} {res : Int} {σ' : jq_M}  (h : X5_takeCompares σ = some (res, σ')) : jq_MC jq_zX yX5_takeCompares cX5_takeCompares 2 (some .int) 4 105 [jR 2] σ (some (jI res)) σ' := by
  refine jq_met (own := RX5) (L0 := [(0, jR 2)]) (by decide) rfl rfl rfl ?_
  intro X Γ hnl hlY hRT
  refine jq_use2 (P := fun r => jq_RT jq_zX X (some .int) (some (jI r.1)) r.2) ?_ h hRT
  intro K0 hK0
  unfold X5_takeCompares
  have hj32_0 : ∀ (s3 : jq_M), jq_J (X5_takeCompares_j32 s3) K0 (jq_V jq_zX X (jq_zN jq_zX) s3 32 [(0, jR 2)] []) := by
    intro s3
    unfold X5_takeCompares_j32
    refine jq_aload_n Γ dX5_takeCompares_32 rfl 0 rfl (jq_at_0 at_X_2) ?_
    refine jq_getI (J := 8) Γ at_X_2 fl_RX5_103 rfl rfl dX5_takeCompares_33 ?_
    refine jq_nmI (fun v4 => ?_)
    refine jq_istore_n (L' := [(1, jI v4), (0, jR 2)]) Γ dX5_takeCompares_36 rfl hnl rfl rfl ?_
    refine jq_aload_n Γ dX5_takeCompares_37 rfl 1 rfl (jq_at_0 at_X_2) ?_
    refine jq_cwV (jq_virt (avs := []) (st := []) Γ hlY rfl ml_RX5_58 rfl at_X_2 rfl rfl rfl rfl rfl dX5_takeCompares_38) (fun σ' h => ctX5_next h) (fun s5 => ?_)
    refine jq_iload_n Γ dX5_takeCompares_41 rfl 0 rfl ?_
    exact jq_ireturn Γ dX5_takeCompares_42 (hK0 _)
  refine jq_aload_n Γ dX5_takeCompares_0 rfl 0 rfl (jq_at_0 at_X_2) ?_
  refine jq_bipush Γ dX5_takeCompares_1 rfl ?_
  refine jq_cpZ (jq_virt (avs := [jI 60]) (st := []) Γ hlY rfl ml_RX5_106 rfl at_X_2 rfl rfl rfl rfl rfl dX5_takeCompares_3) rfl (fun r h => ctX5_isSign h) (fun v1 hz2 => ?_)
  refine jq_if_ne (tgt := 32) Γ dX5_takeCompares_6 rfl ?_ ?_
  · exact hj32_0 σ
  · refine jq_aload_n Γ dX5_takeCompares_9 rfl 0 rfl (jq_at_0 at_X_2) ?_
    refine jq_bipush Γ dX5_takeCompares_10 rfl ?_
    refine jq_cpZ (jq_virt (avs := [jI 62]) (st := []) Γ hlY rfl ml_RX5_106 rfl at_X_2 rfl rfl rfl rfl rfl dX5_takeCompares_12) rfl (fun r h => ctX5_isSign h) (fun v6 hz7 => ?_)
    refine jq_if_ne (tgt := 32) Γ dX5_takeCompares_15 rfl ?_ ?_
    · exact hj32_0 σ
    · refine jq_aload_n Γ dX5_takeCompares_18 rfl 0 rfl (jq_at_0 at_X_2) ?_
      refine jq_bipush Γ dX5_takeCompares_19 rfl ?_
      refine jq_cpZ (jq_virt (avs := [jI 61]) (st := []) Γ hlY rfl ml_RX5_106 rfl at_X_2 rfl rfl rfl rfl rfl dX5_takeCompares_21) rfl (fun r h => ctX5_isSign h) (fun v8 hz9 => ?_)
      refine jq_if_ne (tgt := 32) Γ dX5_takeCompares_24 rfl ?_ ?_
      · exact hj32_0 σ
      · refine jq_aload_n Γ dX5_takeCompares_27 rfl 0 rfl (jq_at_0 at_X_2) ?_
        refine jq_iconst Γ dX5_takeCompares_28 rfl ?_
        refine jq_cwV (jq_virt (avs := [jI 2]) (st := []) Γ hlY rfl ml_RX5_110 rfl at_X_2 rfl rfl rfl rfl rfl dX5_takeCompares_29) (fun σ' h => ctX5_blame h) (fun s10 => ?_)
        exact hj32_0 s10


theorem dX7_setOperands_0 : decode cX7_setOperands 0 = .ok (.iload_n 1, 1) := by decide +kernel
theorem dX7_setOperands_1 : decode cX7_setOperands 1 = .ok (.ifCond .lt 23, 3) := by decide +kernel
theorem dX7_setOperands_4 : decode cX7_setOperands 4 = .ok (.iload_n 1, 1) := by decide +kernel
theorem dX7_setOperands_5 : decode cX7_setOperands 5 = .ok (.bipush 60, 2) := by decide +kernel
theorem dX7_setOperands_7 : decode cX7_setOperands 7 = .ok (.if_icmp .ge 17, 3) := by decide +kernel
theorem dX7_setOperands_10 : decode cX7_setOperands 10 = .ok (.aload_n 0, 1) := by decide +kernel
theorem dX7_setOperands_11 : decode cX7_setOperands 11 = .ok (.getfield 15, 3) := by decide +kernel
theorem dX7_setOperands_14 : decode cX7_setOperands 14 = .ok (.iload_n 1, 1) := by decide +kernel
theorem dX7_setOperands_15 : decode cX7_setOperands 15 = .ok (.iload_n 2, 1) := by decide +kernel
theorem dX7_setOperands_16 : decode cX7_setOperands 16 = .ok (.iastore, 1) := by decide +kernel
theorem dX7_setOperands_17 : decode cX7_setOperands 17 = .ok (.aload_n 0, 1) := by decide +kernel
theorem dX7_setOperands_18 : decode cX7_setOperands 18 = .ok (.getfield 18, 3) := by decide +kernel
theorem dX7_setOperands_21 : decode cX7_setOperands 21 = .ok (.iload_n 1, 1) := by decide +kernel
theorem dX7_setOperands_22 : decode cX7_setOperands 22 = .ok (.iload_n 3, 1) := by decide +kernel
theorem dX7_setOperands_23 : decode cX7_setOperands 23 = .ok (.iastore, 1) := by decide +kernel
theorem dX7_setOperands_24 : decode cX7_setOperands 24 = .ok (.return_, 1) := by decide +kernel
set_option maxHeartbeats 4000000 in
set_option maxRecDepth 100000 in
theorem ctX7_setOperands {o : Int} {p1 : Int} {p2 : Int} {p3 : Int} {σ : jq_M} {σ' : jq_M} (ho : jq_stp o) (h : X7_setOperands o p1 p2 p3 σ = some σ') : jq_MC jq_zX yX7_setOperands cX7_setOperands 4 none 1 40 [jR o, jI p1, jI p2, jI p3] σ none σ' := by
  refine jq_met (own := RX7) (L0 := [(0, jR o), (1, jI p1), (2, jI p2), (3, jI p3)]) (by decide) rfl rfl rfl ?_
  intro X Γ hnl hlY hRT
  refine jq_use2 (P := fun r => jq_RT jq_zX X none none r) ?_ h hRT
  intro K0 hK0
  unfold X7_setOperands
  refine jq_iload_n Γ dX7_setOperands_0 rfl 1 rfl ?_
  refine jq_if_lt (tgt := 24) Γ dX7_setOperands_1 rfl ?_ ?_
  · exact jq_vreturn Γ dX7_setOperands_24 (hK0 _)
  · refine jq_iload_n Γ dX7_setOperands_4 rfl 1 rfl ?_
    refine jq_bipush Γ dX7_setOperands_5 rfl ?_
    refine jq_icmp_ge (tgt := 24) Γ dX7_setOperands_7 rfl ?_ ?_
    · exact jq_vreturn Γ dX7_setOperands_24 (hK0 _)
    · refine jq_aload_n Γ dX7_setOperands_10 rfl 0 rfl (jq_at_0 (at_stp ho)) ?_
      refine jq_getR (v := (o + 2)) Γ hlY (at_stp ho) fl_RX7_15 rfl rfl (ly_X7_first ho) dX7_setOperands_11 ?_
      refine jq_iload_n Γ dX7_setOperands_14 rfl 1 rfl ?_
      refine jq_iload_n Γ dX7_setOperands_15 rfl 2 rfl ?_
      refine jq_iast Γ (at_stp_2 ho) rfl dX7_setOperands_16 (fun s1 => ?_)
      refine jq_aload_n Γ dX7_setOperands_17 rfl 0 rfl (jq_at_0 (at_stp ho)) ?_
      refine jq_getR (v := (o + 3)) Γ hlY (at_stp ho) fl_RX7_18 rfl rfl (ly_X7_second ho) dX7_setOperands_18 ?_
      refine jq_iload_n Γ dX7_setOperands_21 rfl 1 rfl ?_
      refine jq_iload_n Γ dX7_setOperands_22 rfl 3 rfl ?_
      refine jq_iast Γ (at_stp_3 ho) rfl dX7_setOperands_23 (fun s2 => ?_)
      exact jq_vreturn Γ dX7_setOperands_24 (hK0 _)


