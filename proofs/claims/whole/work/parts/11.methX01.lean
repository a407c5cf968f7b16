theorem yf_X5_isBlank : Cond.static yX5_isBlank ∈ jq_T ∧ Cond.initialized (yX5_isBlank).cls ∈ jq_T ∧ Cond.code yX5_isBlank cX5_isBlank 1 (some .boolean) ∈ jq_T ∧ ((yX5_isBlank).cls ≠ "java/lang/invoke/MethodHandle" ∧ (yX5_isBlank).cls ≠ "java/lang/invoke/VarHandle" ∧ (parseMethodDescriptor (yX5_isBlank).desc).map (fun d => d.parameters.length) = some 1) := ⟨jq_in 683 (by decide +kernel) rfl, jq_in 139 (by decide +kernel) rfl, jq_in 684 (by decide +kernel) rfl, ⟨by decide, by decide, by decide +kernel⟩⟩
theorem ml_RX5_70 : jq_sl RX5 70 yX5_isBlank cX5_isBlank 1 (some .boolean) 1 := ⟨jq_in 682 (by decide +kernel) rfl, yf_X5_isBlank⟩
theorem yf_X5_readSign : Cond.instanceMethod yX5_readSign ∈ jq_T ∧ Cond.selects (yX5_readSign).cls yX5_readSign yX5_readSign ∈ jq_T ∧ Cond.initialized (yX5_readSign).cls ∈ jq_T ∧ Cond.code yX5_readSign cX5_readSign 2 none ∈ jq_T ∧ ((yX5_readSign).cls ≠ "java/lang/invoke/MethodHandle" ∧ (yX5_readSign).cls ≠ "java/lang/invoke/VarHandle" ∧ (parseMethodDescriptor (yX5_readSign).desc).map (fun d => d.parameters.length) = some 0) := ⟨jq_in 701 (by decide +kernel) rfl, jq_in 8 (by decide +kernel) rfl, jq_in 139 (by decide +kernel) rfl, jq_in 702 (by decide +kernel) rfl, ⟨by decide, by decide, by decide +kernel⟩⟩
theorem ml_RX5_97 : jq_vl RX5 97 yX5_readSign cX5_readSign 2 none 0 := ⟨jq_in 699 (by decide +kernel) rfl, yf_X5_readSign⟩
theorem yf_X5_readNumber : Cond.instanceMethod yX5_readNumber ∈ jq_T ∧ Cond.selects (yX5_readNumber).cls yX5_readNumber yX5_readNumber ∈ jq_T ∧ Cond.initialized (yX5_readNumber).cls ∈ jq_T ∧ Cond.code yX5_readNumber cX5_readNumber 1 none ∈ jq_T ∧ ((yX5_readNumber).cls ≠ "java/lang/invoke/MethodHandle" ∧ (yX5_readNumber).cls ≠ "java/lang/invoke/VarHandle" ∧ (parseMethodDescriptor (yX5_readNumber).desc).map (fun d => d.parameters.length) = some 0) := ⟨jq_in 697 (by decide +kernel) rfl, jq_in 7 (by decide +kernel) rfl, jq_in 139 (by decide +kernel) rfl, jq_in 698 (by decide +kernel) rfl, ⟨by decide, by decide, by decide +kernel⟩⟩
theorem ml_RX5_94 : jq_vl RX5 94 yX5_readNumber cX5_readNumber 1 none 0 := ⟨jq_in 695 (by decide +kernel) rfl, yf_X5_readNumber⟩
theorem yf_X5_readWord : Cond.instanceMethod yX5_readWord ∈ jq_T ∧ Cond.selects (yX5_readWord).cls yX5_readWord yX5_readWord ∈ jq_T ∧ Cond.initialized (yX5_readWord).cls ∈ jq_T ∧ Cond.code yX5_readWord cX5_readWord 4 none ∈ jq_T ∧ ((yX5_readWord).cls ≠ "java/lang/invoke/MethodHandle" ∧ (yX5_readWord).cls ≠ "java/lang/invoke/VarHandle" ∧ (parseMethodDescriptor (yX5_readWord).desc).map (fun d => d.parameters.length) = some 0) := ⟨jq_in 690 (by decide +kernel) rfl, jq_in 6 (by decide +kernel) rfl, jq_in 139 (by decide +kernel) rfl, jq_in 691 (by decide +kernel) rfl, ⟨by decide, by decide, by decide +kernel⟩⟩
theorem ml_RX5_88 : jq_vl RX5 88 yX5_readWord cX5_readWord 4 none 0 := ⟨jq_in 688 (by decide +kernel) rfl, yf_X5_readWord⟩
theorem mw_RX5_41 : Cond.methodLink RX5 41 Lib.Math.min.name ∈ jq_T := jq_in 671 (by decide +kernel) rfl
theorem mws_min : Cond.static Lib.Math.min.name ∈ jq_T := jq_in 672 (by decide +kernel) rfl
theorem mwi : Cond.initialized "java/lang/Math" ∈ jq_T := jq_in 152 (by decide +kernel) rfl
theorem mwc_min : Cond.code Lib.Math.min.name Lib.Math.min.code 2 (some .int) ∈ jq_T := jq_in 673 (by decide +kernel) rfl
theorem fl_RX5_52 : jq_fl RX5 52 3 14 12 false := ⟨RX5, TX5, tyX5, cls_X5, by decide, jq_in 241 (by decide +kernel) rfl, by decide⟩
theorem fl_RX5_55 : jq_fl RX5 55 3 14 13 false := ⟨RX5, TX5, tyX5, cls_X5, by decide, jq_in 243 (by decide +kernel) rfl, by decide⟩
theorem yf_X5_next : Cond.instanceMethod yX5_next ∈ jq_T ∧ Cond.selects (yX5_next).cls yX5_next yX5_next ∈ jq_T ∧ Cond.initialized (yX5_next).cls ∈ jq_T ∧ Cond.code yX5_next cX5_next 1 none ∈ jq_T ∧ ((yX5_next).cls ≠ "java/lang/invoke/MethodHandle" ∧ (yX5_next).cls ≠ "java/lang/invoke/VarHandle" ∧ (parseMethodDescriptor (yX5_next).desc).map (fun d => d.parameters.length) = some 0) := ⟨jq_in 675 (by decide +kernel) rfl, jq_in 676 (by decide +kernel) rfl, jq_in 139 (by decide +kernel) rfl, jq_in 677 (by decide +kernel) rfl, ⟨by decide, by decide, by decide +kernel⟩⟩
theorem ml_RX5_58 : jq_vl RX5 58 yX5_next cX5_next 1 none 0 := ⟨jq_in 674 (by decide +kernel) rfl, yf_X5_next⟩
theorem fl_RX7_27 : jq_fl RX7 27 4 9 0 false := ⟨RX7, TX7, tyX7, cls_X7, by decide, jq_in 288 (by decide +kernel) rfl, by decide⟩
theorem fl_RX7_31 : jq_fl RX7 31 4 9 1 false := ⟨RX7, TX7, tyX7, cls_X7, by decide, jq_in 291 (by decide +kernel) rfl, by decide⟩
theorem fl_RX7_35 : jq_fl RX7 35 4 9 2 false := ⟨RX7, TX7, tyX7, cls_X7, by decide, jq_in 293 (by decide +kernel) rfl, by decide⟩
theorem fl_RX7_38 : jq_fl RX7 38 4 9 8 false := ⟨RX7, TX7, tyX7, cls_X7, by decide, jq_in 300 (by decide +kernel) rfl, by decide⟩
theorem fl_RX1_59 : jq_fl RX1 59 1 21 0 false := ⟨RX1, TX1, tyX1, cls_X1, by decide, jq_in 323 (by decide +kernel) rfl, by decide⟩
theorem fl_RX1_63 : jq_fl RX1 63 1 21 1 false := ⟨RX1, TX1, tyX1, cls_X1, by decide, jq_in 329 (by decide +kernel) rfl, by decide⟩
theorem fl_RX1_66 : jq_fl RX1 66 1 21 2 false := ⟨RX1, TX1, tyX1, cls_X1, by decide, jq_in 332 (by decide +kernel) rfl, by decide⟩
theorem fl_RX1_69 : jq_fl RX1 69 1 21 3 false := ⟨RX1, TX1, tyX1, cls_X1, by decide, jq_in 337 (by decide +kernel) rfl, by decide⟩
theorem fl_RX1_72 : jq_fl RX1 72 1 21 4 false := ⟨RX1, TX1, tyX1, cls_X1, by decide, jq_in 341 (by decide +kernel) rfl, by decide⟩
theorem fl_RX1_75 : jq_fl RX1 75 1 21 5 false := ⟨RX1, TX1, tyX1, cls_X1, by decide, jq_in 344 (by decide +kernel) rfl, by decide⟩
theorem fl_RX1_78 : jq_fl RX1 78 1 21 6 false := ⟨RX1, TX1, tyX1, cls_X1, by decide, jq_in 347 (by decide +kernel) rfl, by decide⟩
theorem fl_RX1_52 : jq_fl RX1 52 1 21 19 true := ⟨RX1, TX1, tyX1, cls_X1, by decide, jq_in 389 (by decide +kernel) rfl, by decide⟩
theorem yf_X7_clear : Cond.instanceMethod yX7_clear ∈ jq_T ∧ Cond.selects (yX7_clear).cls yX7_clear yX7_clear ∈ jq_T ∧ Cond.initialized (yX7_clear).cls ∈ jq_T ∧ Cond.code yX7_clear cX7_clear 1 none ∈ jq_T ∧ ((yX7_clear).cls ≠ "java/lang/invoke/MethodHandle" ∧ (yX7_clear).cls ≠ "java/lang/invoke/VarHandle" ∧ (parseMethodDescriptor (yX7_clear).desc).map (fun d => d.parameters.length) = some 0) := ⟨jq_in 711 (by decide +kernel) rfl, jq_in 712 (by decide +kernel) rfl, jq_in 145 (by decide +kernel) rfl, jq_in 713 (by decide +kernel) rfl, ⟨by decide, by decide, by decide +kernel⟩⟩
theorem ml_RX1_81 : jq_vl RX1 81 yX7_clear cX7_clear 1 none 0 := ⟨jq_in 710 (by decide +kernel) rfl, yf_X7_clear⟩
theorem ml_RX5_114 : jq_nl RX5 114 yX10_within "StandTable" cX10_within 3 (some .boolean) 3 := ⟨jq_inN 735 (by decide +kernel) rfl, yf_X10_within⟩
theorem yf_X5_hasFault : Cond.instanceMethod yX5_hasFault ∈ jq_T ∧ Cond.selects (yX5_hasFault).cls yX5_hasFault yX5_hasFault ∈ jq_T ∧ Cond.initialized (yX5_hasFault).cls ∈ jq_T ∧ Cond.code yX5_hasFault cX5_hasFault 1 (some .boolean) ∈ jq_T ∧ ((yX5_hasFault).cls ≠ "java/lang/invoke/MethodHandle" ∧ (yX5_hasFault).cls ≠ "java/lang/invoke/VarHandle" ∧ (parseMethodDescriptor (yX5_hasFault).desc).map (fun d => d.parameters.length) = some 0) := ⟨jq_in 737 (by decide +kernel) rfl, jq_in 738 (by decide +kernel) rfl, jq_in 139 (by decide +kernel) rfl, jq_in 739 (by decide +kernel) rfl, ⟨by decide, by decide, by decide +kernel⟩⟩
theorem ml_RX5_118 : jq_vl RX5 118 yX5_hasFault cX5_hasFault 1 (some .boolean) 0 := ⟨jq_in 736 (by decide +kernel) rfl, yf_X5_hasFault⟩
theorem yf_X5_blame : Cond.instanceMethod yX5_blame ∈ jq_T ∧ Cond.selects (yX5_blame).cls yX5_blame yX5_blame ∈ jq_T ∧ Cond.initialized (yX5_blame).cls ∈ jq_T ∧ Cond.code yX5_blame cX5_blame 2 none ∈ jq_T ∧ ((yX5_blame).cls ≠ "java/lang/invoke/MethodHandle" ∧ (yX5_blame).cls ≠ "java/lang/invoke/VarHandle" ∧ (parseMethodDescriptor (yX5_blame).desc).map (fun d => d.parameters.length) = some 1) := ⟨jq_in 722 (by decide +kernel) rfl, jq_in 723 (by decide +kernel) rfl, jq_in 139 (by decide +kernel) rfl, jq_in 724 (by decide +kernel) rfl, ⟨by decide, by decide, by decide +kernel⟩⟩
theorem ml_RX5_110 : jq_vl RX5 110 yX5_blame cX5_blame 2 none 1 := ⟨jq_in 734 (by decide +kernel) rfl, yf_X5_blame⟩
theorem yf_X5_numberWithin : Cond.instanceMethod yX5_numberWithin ∈ jq_T ∧ Cond.selects (yX5_numberWithin).cls yX5_numberWithin yX5_numberWithin ∈ jq_T ∧ Cond.initialized (yX5_numberWithin).cls ∈ jq_T ∧ Cond.code yX5_numberWithin cX5_numberWithin 3 (some .int) ∈ jq_T ∧ ((yX5_numberWithin).cls ≠ "java/lang/invoke/MethodHandle" ∧ (yX5_numberWithin).cls ≠ "java/lang/invoke/VarHandle" ∧ (parseMethodDescriptor (yX5_numberWithin).desc).map (fun d => d.parameters.length) = some 2) := ⟨jq_in 731 (by decide +kernel) rfl, jq_in 732 (by decide +kernel) rfl, jq_in 139 (by decide +kernel) rfl, jq_in 733 (by decide +kernel) rfl, ⟨by decide, by decide, by decide +kernel⟩⟩
theorem ml_RX5_122 : jq_vl RX5 122 yX5_numberWithin cX5_numberWithin 3 (some .int) 2 := ⟨jq_in 730 (by decide +kernel) rfl, yf_X5_numberWithin⟩
theorem yf_X5_isSign : Cond.instanceMethod yX5_isSign ∈ jq_T ∧ Cond.selects (yX5_isSign).cls yX5_isSign yX5_isSign ∈ jq_T ∧ Cond.initialized (yX5_isSign).cls ∈ jq_T ∧ Cond.code yX5_isSign cX5_isSign 2 (some .boolean) ∈ jq_T ∧ ((yX5_isSign).cls ≠ "java/lang/invoke/MethodHandle" ∧ (yX5_isSign).cls ≠ "java/lang/invoke/VarHandle" ∧ (parseMethodDescriptor (yX5_isSign).desc).map (fun d => d.parameters.length) = some 1) := ⟨jq_in 745 (by decide +kernel) rfl, jq_in 746 (by decide +kernel) rfl, jq_in 139 (by decide +kernel) rfl, jq_in 747 (by decide +kernel) rfl, ⟨by decide, by decide, by decide +kernel⟩⟩
theorem ml_RX5_106 : jq_vl RX5 106 yX5_isSign cX5_isSign 2 (some .boolean) 1 := ⟨jq_in 744 (by decide +kernel) rfl, yf_X5_isSign⟩
theorem fl_RX2_47 : jq_fl RX2 47 1 21 0 false := ⟨RX1, TX1, tyX1, cls_X1, by decide, jq_in 325 (by decide +kernel) rfl, by decide⟩
theorem ml_RX2_50 : jq_vl RX2 50 yX5_next cX5_next 1 none 0 := ⟨jq_in 725 (by decide +kernel) rfl, yf_X5_next⟩
theorem yf_X5_takeNumber : Cond.instanceMethod yX5_takeNumber ∈ jq_T ∧ Cond.selects (yX5_takeNumber).cls yX5_takeNumber yX5_takeNumber ∈ jq_T ∧ Cond.initialized (yX5_takeNumber).cls ∈ jq_T ∧ Cond.code yX5_takeNumber cX5_takeNumber 4 (some .int) ∈ jq_T ∧ ((yX5_takeNumber).cls ≠ "java/lang/invoke/MethodHandle" ∧ (yX5_takeNumber).cls ≠ "java/lang/invoke/VarHandle" ∧ (parseMethodDescriptor (yX5_takeNumber).desc).map (fun d => d.parameters.length) = some 2) := ⟨jq_in 727 (by decide +kernel) rfl, jq_in 728 (by decide +kernel) rfl, jq_in 139 (by decide +kernel) rfl, jq_in 729 (by decide +kernel) rfl, ⟨by decide, by decide, by decide +kernel⟩⟩
theorem ml_RX2_53 : jq_vl RX2 53 yX5_takeNumber cX5_takeNumber 4 (some .int) 2 := ⟨jq_in 726 (by decide +kernel) rfl, yf_X5_takeNumber⟩
theorem yf_X5_passSign : Cond.instanceMethod yX5_passSign ∈ jq_T ∧ Cond.selects (yX5_passSign).cls yX5_passSign yX5_passSign ∈ jq_T ∧ Cond.initialized (yX5_passSign).cls ∈ jq_T ∧ Cond.code yX5_passSign cX5_passSign 2 none ∈ jq_T ∧ ((yX5_passSign).cls ≠ "java/lang/invoke/MethodHandle" ∧ (yX5_passSign).cls ≠ "java/lang/invoke/VarHandle" ∧ (parseMethodDescriptor (yX5_passSign).desc).map (fun d => d.parameters.length) = some 1) := ⟨jq_in 741 (by decide +kernel) rfl, jq_in 742 (by decide +kernel) rfl, jq_in 139 (by decide +kernel) rfl, jq_in 743 (by decide +kernel) rfl, ⟨by decide, by decide, by decide +kernel⟩⟩
theorem ml_RX2_57 : jq_vl RX2 57 yX5_passSign cX5_passSign 2 none 1 := ⟨jq_in 740 (by decide +kernel) rfl, yf_X5_passSign⟩
theorem ml_RX2_43 : jq_vl RX2 43 yX5_blame cX5_blame 2 none 1 := ⟨jq_in 721 (by decide +kernel) rfl, yf_X5_blame⟩
theorem fl_RX2_61 : jq_fl RX2 61 1 21 1 false := ⟨RX1, TX1, tyX1, cls_X1, by decide, jq_in 330 (by decide +kernel) rfl, by decide⟩
theorem fl_RX1_9 : jq_fl RX1 9 1 21 7 true := ⟨RX1, TX1, tyX1, cls_X1, by decide, jq_in 350 (by decide +kernel) rfl, by decide⟩
theorem fl_RX1_34 : jq_fl RX1 34 1 21 14 true := ⟨RX1, TX1, tyX1, cls_X1, by decide, jq_in 371 (by decide +kernel) rfl, by decide⟩
theorem yf_X1_partyNamed : Cond.instanceMethod yX1_partyNamed ∈ jq_T ∧ Cond.selects (yX1_partyNamed).cls yX1_partyNamed yX1_partyNamed ∈ jq_T ∧ Cond.initialized (yX1_partyNamed).cls ∈ jq_T ∧ Cond.code yX1_partyNamed cX1_partyNamed 4 (some .int) ∈ jq_T ∧ ((yX1_partyNamed).cls ≠ "java/lang/invoke/MethodHandle" ∧ (yX1_partyNamed).cls ≠ "java/lang/invoke/VarHandle" ∧ (parseMethodDescriptor (yX1_partyNamed).desc).map (fun d => d.parameters.length) = some 1) := ⟨jq_in 760 (by decide +kernel) rfl, jq_in 761 (by decide +kernel) rfl, jq_in 144 (by decide +kernel) rfl, jq_in 762 (by decide +kernel) rfl, ⟨by decide, by decide, by decide +kernel⟩⟩
theorem ml_RX5_125 : jq_vl RX5 125 yX1_partyNamed cX1_partyNamed 4 (some .int) 1 := ⟨jq_in 759 (by decide +kernel) rfl, yf_X1_partyNamed⟩
theorem yf_X1_articleNamed : Cond.instanceMethod yX1_articleNamed ∈ jq_T ∧ Cond.selects (yX1_articleNamed).cls yX1_articleNamed yX1_articleNamed ∈ jq_T ∧ Cond.initialized (yX1_articleNamed).cls ∈ jq_T ∧ Cond.code yX1_articleNamed cX1_articleNamed 4 (some .int) ∈ jq_T ∧ ((yX1_articleNamed).cls ≠ "java/lang/invoke/MethodHandle" ∧ (yX1_articleNamed).cls ≠ "java/lang/invoke/VarHandle" ∧ (parseMethodDescriptor (yX1_articleNamed).desc).map (fun d => d.parameters.length) = some 1) := ⟨jq_in 764 (by decide +kernel) rfl, jq_in 765 (by decide +kernel) rfl, jq_in 144 (by decide +kernel) rfl, jq_in 766 (by decide +kernel) rfl, ⟨by decide, by decide, by decide +kernel⟩⟩
theorem ml_RX5_138 : jq_vl RX5 138 yX1_articleNamed cX1_articleNamed 4 (some .int) 1 := ⟨jq_in 763 (by decide +kernel) rfl, yf_X1_articleNamed⟩
theorem ml_RX2_90 : jq_vl RX2 90 yX5_numberWithin cX5_numberWithin 3 (some .int) 2 := ⟨jq_in 770 (by decide +kernel) rfl, yf_X5_numberWithin⟩
theorem fl_RX2_83 : jq_fl RX2 83 1 21 9 true := ⟨RX1, TX1, tyX1, cls_X1, by decide, jq_in 356 (by decide +kernel) rfl, by decide⟩
theorem yf_X1_sitterAt : Cond.instanceMethod yX1_sitterAt ∈ jq_T ∧ Cond.selects (yX1_sitterAt).cls yX1_sitterAt yX1_sitterAt ∈ jq_T ∧ Cond.initialized (yX1_sitterAt).cls ∈ jq_T ∧ Cond.code yX1_sitterAt cX1_sitterAt 4 (some .int) ∈ jq_T ∧ ((yX1_sitterAt).cls ≠ "java/lang/invoke/MethodHandle" ∧ (yX1_sitterAt).cls ≠ "java/lang/invoke/VarHandle" ∧ (parseMethodDescriptor (yX1_sitterAt).desc).map (fun d => d.parameters.length) = some 2) := ⟨jq_in 772 (by decide +kernel) rfl, jq_in 773 (by decide +kernel) rfl, jq_in 144 (by decide +kernel) rfl, jq_in 774 (by decide +kernel) rfl, ⟨by decide, by decide, by decide +kernel⟩⟩
theorem ml_RX2_93 : jq_vl RX2 93 yX1_sitterAt cX1_sitterAt 4 (some .int) 2 := ⟨jq_in 771 (by decide +kernel) rfl, yf_X1_sitterAt⟩
theorem fl_RX2_64 : jq_fl RX2 64 1 21 2 false := ⟨RX1, TX1, tyX1, cls_X1, by decide, jq_in 334 (by decide +kernel) rfl, by decide⟩
theorem ml_RX2_67 : jq_nl RX2 67 yX10_within "StandTable" cX10_within 3 (some .boolean) 3 := ⟨jq_inN 754 (by decide +kernel) rfl, yf_X10_within⟩
theorem fl_RX2_71 : jq_fl RX2 71 1 21 7 true := ⟨RX1, TX1, tyX1, cls_X1, by decide, jq_in 351 (by decide +kernel) rfl, by decide⟩
theorem yf_X5_takeNewName : Cond.instanceMethod yX5_takeNewName ∈ jq_T ∧ Cond.selects (yX5_takeNewName).cls yX5_takeNewName yX5_takeNewName ∈ jq_T ∧ Cond.initialized (yX5_takeNewName).cls ∈ jq_T ∧ Cond.code yX5_takeNewName cX5_takeNewName 4 (some .long) ∈ jq_T ∧ ((yX5_takeNewName).cls ≠ "java/lang/invoke/MethodHandle" ∧ (yX5_takeNewName).cls ≠ "java/lang/invoke/VarHandle" ∧ (parseMethodDescriptor (yX5_takeNewName).desc).map (fun d => d.parameters.length) = some 1) := ⟨jq_in 756 (by decide +kernel) rfl, jq_in 757 (by decide +kernel) rfl, jq_in 139 (by decide +kernel) rfl, jq_in 758 (by decide +kernel) rfl, ⟨by decide, by decide, by decide +kernel⟩⟩
theorem ml_RX2_75 : jq_vl RX2 75 yX5_takeNewName cX5_takeNewName 4 (some .long) 1 := ⟨jq_in 755 (by decide +kernel) rfl, yf_X5_takeNewName⟩
theorem fl_RX2_79 : jq_fl RX2 79 1 21 8 true := ⟨RX1, TX1, tyX1, cls_X1, by decide, jq_in 353 (by decide +kernel) rfl, by decide⟩
theorem fl_RX2_20 : jq_fl RX2 20 3 14 11 false := ⟨RX5, TX5, tyX5, cls_X5, by decide, jq_in 238 (by decide +kernel) rfl, by decide⟩
theorem yf_X2_takeFreePlace : Cond.static yX2_takeFreePlace ∈ jq_T ∧ Cond.initialized (yX2_takeFreePlace).cls ∈ jq_T ∧ Cond.code yX2_takeFreePlace cX2_takeFreePlace 3 (some .int) ∈ jq_T ∧ ((yX2_takeFreePlace).cls ≠ "java/lang/invoke/MethodHandle" ∧ (yX2_takeFreePlace).cls ≠ "java/lang/invoke/VarHandle" ∧ (parseMethodDescriptor (yX2_takeFreePlace).desc).map (fun d => d.parameters.length) = some 2) := ⟨jq_in 768 (by decide +kernel) rfl, jq_in 153 (by decide +kernel) rfl, jq_in 769 (by decide +kernel) rfl, ⟨by decide, by decide, by decide +kernel⟩⟩
theorem ml_RX2_86 : jq_sl RX2 86 yX2_takeFreePlace cX2_takeFreePlace 3 (some .int) 2 := ⟨jq_in 767 (by decide +kernel) rfl, yf_X2_takeFreePlace⟩
theorem yf_X5_blameUnlessNamed : Cond.instanceMethod yX5_blameUnlessNamed ∈ jq_T ∧ Cond.selects (yX5_blameUnlessNamed).cls yX5_blameUnlessNamed yX5_blameUnlessNamed ∈ jq_T ∧ Cond.initialized (yX5_blameUnlessNamed).cls ∈ jq_T ∧ Cond.code yX5_blameUnlessNamed cX5_blameUnlessNamed 2 none ∈ jq_T ∧ ((yX5_blameUnlessNamed).cls ≠ "java/lang/invoke/MethodHandle" ∧ (yX5_blameUnlessNamed).cls ≠ "java/lang/invoke/VarHandle" ∧ (parseMethodDescriptor (yX5_blameUnlessNamed).desc).map (fun d => d.parameters.length) = some 1) := ⟨jq_in 788 (by decide +kernel) rfl, jq_in 9 (by decide +kernel) rfl, jq_in 139 (by decide +kernel) rfl, jq_in 789 (by decide +kernel) rfl, ⟨by decide, by decide, by decide +kernel⟩⟩
theorem ml_RX5_131 : jq_vl RX5 131 yX5_blameUnlessNamed cX5_blameUnlessNamed 2 none 1 := ⟨jq_in 786 (by decide +kernel) rfl, yf_X5_blameUnlessNamed⟩
theorem yf_X5_partyHere : Cond.instanceMethod yX5_partyHere ∈ jq_T ∧ Cond.selects (yX5_partyHere).cls yX5_partyHere yX5_partyHere ∈ jq_T ∧ Cond.initialized (yX5_partyHere).cls ∈ jq_T ∧ Cond.code yX5_partyHere cX5_partyHere 3 (some .int) ∈ jq_T ∧ ((yX5_partyHere).cls ≠ "java/lang/invoke/MethodHandle" ∧ (yX5_partyHere).cls ≠ "java/lang/invoke/VarHandle" ∧ (parseMethodDescriptor (yX5_partyHere).desc).map (fun d => d.parameters.length) = some 1) := ⟨jq_in 783 (by decide +kernel) rfl, jq_in 784 (by decide +kernel) rfl, jq_in 139 (by decide +kernel) rfl, jq_in 785 (by decide +kernel) rfl, ⟨by decide, by decide, by decide +kernel⟩⟩
theorem ml_RX5_134 : jq_vl RX5 134 yX5_partyHere cX5_partyHere 3 (some .int) 1 := ⟨jq_in 782 (by decide +kernel) rfl, yf_X5_partyHere⟩
theorem ml_RX2_127 : jq_vl RX2 127 yX5_partyHere cX5_partyHere 3 (some .int) 1 := ⟨jq_in 796 (by decide +kernel) rfl, yf_X5_partyHere⟩
theorem dX5_next_0 : decode cX5_next 0 = .ok (.aload_n 0, 1) := by decide +kernel
theorem dX5_next_1 : decode cX5_next 1 = .ok (.getfield 49, 3) := by decide +kernel
theorem dX5_next_4 : decode cX5_next 4 = .ok (.aload_n 0, 1) := by decide +kernel
theorem dX5_next_5 : decode cX5_next 5 = .ok (.getfield 47, 3) := by decide +kernel
theorem dX5_next_8 : decode cX5_next 8 = .ok (.if_icmp .ge 26, 3) := by decide +kernel
theorem dX5_next_11 : decode cX5_next 11 = .ok (.aload_n 0, 1) := by decide +kernel
theorem dX5_next_12 : decode cX5_next 12 = .ok (.invokevirtual 67, 3) := by decide +kernel
theorem dX5_next_15 : decode cX5_next 15 = .ok (.invokestatic 70, 3) := by decide +kernel
theorem dX5_next_18 : decode cX5_next 18 = .ok (.ifCond .eq 16, 3) := by decide +kernel
theorem dX5_next_21 : decode cX5_next 21 = .ok (.aload_n 0, 1) := by decide +kernel
theorem dX5_next_22 : decode cX5_next 22 = .ok (.dup, 1) := by decide +kernel
theorem dX5_next_23 : decode cX5_next 23 = .ok (.getfield 49, 3) := by decide +kernel
theorem dX5_next_26 : decode cX5_next 26 = .ok (.iconst 1, 1) := by decide +kernel
theorem dX5_next_27 : decode cX5_next 27 = .ok (.iadd, 1) := by decide +kernel
theorem dX5_next_28 : decode cX5_next 28 = .ok (.putfield 49, 3) := by decide +kernel
theorem dX5_next_31 : decode cX5_next 31 = .ok (.goto (-31), 3) := by decide +kernel
theorem dX5_next_34 : decode cX5_next 34 = .ok (.aload_n 0, 1) := by decide +kernel
theorem dX5_next_35 : decode cX5_next 35 = .ok (.aload_n 0, 1) := by decide +kernel
theorem dX5_next_36 : decode cX5_next 36 = .ok (.getfield 49, 3) := by decide +kernel
theorem dX5_next_39 : decode cX5_next 39 = .ok (.putfield 64, 3) := by decide +kernel
theorem dX5_next_42 : decode cX5_next 42 = .ok (.aload_n 0, 1) := by decide +kernel
theorem dX5_next_43 : decode cX5_next 43 = .ok (.iconst (-1), 1) := by decide +kernel
theorem dX5_next_44 : decode cX5_next 44 = .ok (.putfield 74, 3) := by decide +kernel
theorem dX5_next_47 : decode cX5_next 47 = .ok (.aload_n 0, 1) := by decide +kernel
theorem dX5_next_48 : decode cX5_next 48 = .ok (.lconst 0, 1) := by decide +kernel
theorem dX5_next_49 : decode cX5_next 49 = .ok (.putfield 77, 3) := by decide +kernel
theorem dX5_next_52 : decode cX5_next 52 = .ok (.aload_n 0, 1) := by decide +kernel
theorem dX5_next_53 : decode cX5_next 53 = .ok (.iconst 0, 1) := by decide +kernel
theorem dX5_next_54 : decode cX5_next 54 = .ok (.putfield 81, 3) := by decide +kernel
theorem dX5_next_57 : decode cX5_next 57 = .ok (.aload_n 0, 1) := by decide +kernel
theorem dX5_next_58 : decode cX5_next 58 = .ok (.getfield 49, 3) := by decide +kernel
theorem dX5_next_61 : decode cX5_next 61 = .ok (.aload_n 0, 1) := by decide +kernel
theorem dX5_next_62 : decode cX5_next 62 = .ok (.getfield 47, 3) := by decide +kernel
theorem dX5_next_65 : decode cX5_next 65 = .ok (.if_icmp .lt 11, 3) := by decide +kernel
theorem dX5_next_68 : decode cX5_next 68 = .ok (.aload_n 0, 1) := by decide +kernel
theorem dX5_next_69 : decode cX5_next 69 = .ok (.iconst 0, 1) := by decide +kernel
theorem dX5_next_70 : decode cX5_next 70 = .ok (.putfield 61, 3) := by decide +kernel
theorem dX5_next_73 : decode cX5_next 73 = .ok (.goto 41, 3) := by decide +kernel
theorem dX5_next_76 : decode cX5_next 76 = .ok (.aload_n 0, 1) := by decide +kernel
theorem dX5_next_77 : decode cX5_next 77 = .ok (.invokevirtual 67, 3) := by decide +kernel
theorem dX5_next_80 : decode cX5_next 80 = .ok (.invokestatic 85, 3) := by decide +kernel
theorem dX5_next_83 : decode cX5_next 83 = .ok (.ifCond .eq 10, 3) := by decide +kernel
theorem dX5_next_86 : decode cX5_next 86 = .ok (.aload_n 0, 1) := by decide +kernel
theorem dX5_next_87 : decode cX5_next 87 = .ok (.invokevirtual 88, 3) := by decide +kernel
theorem dX5_next_90 : decode cX5_next 90 = .ok (.goto 24, 3) := by decide +kernel
theorem dX5_next_93 : decode cX5_next 93 = .ok (.aload_n 0, 1) := by decide +kernel
theorem dX5_next_94 : decode cX5_next 94 = .ok (.invokevirtual 67, 3) := by decide +kernel
theorem dX5_next_97 : decode cX5_next 97 = .ok (.invokestatic 91, 3) := by decide +kernel
theorem dX5_next_100 : decode cX5_next 100 = .ok (.ifCond .eq 10, 3) := by decide +kernel
theorem dX5_next_103 : decode cX5_next 103 = .ok (.aload_n 0, 1) := by decide +kernel
theorem dX5_next_104 : decode cX5_next 104 = .ok (.invokevirtual 94, 3) := by decide +kernel
theorem dX5_next_107 : decode cX5_next 107 = .ok (.goto 7, 3) := by decide +kernel
theorem dX5_next_110 : decode cX5_next 110 = .ok (.aload_n 0, 1) := by decide +kernel
theorem dX5_next_111 : decode cX5_next 111 = .ok (.invokevirtual 97, 3) := by decide +kernel
theorem dX5_next_114 : decode cX5_next 114 = .ok (.return_, 1) := by decide +kernel
set_option maxHeartbeats 4000000 in
set_option maxRecDepth 100000 in
theorem ctX5_next  {σ : jq_M} {σ' : jq_M}  (h : X5_next σ = some σ') : jq_MC jq_zX yX5_next cX5_next 1 none 3 85 [jR 2] σ none σ' := by
  refine jq_met (own := RX5) (L0 := [(0, jR 2)]) (by decide) rfl rfl rfl ?_
  intro X Γ hnl hlY hRT
  refine jq_use2 (P := fun r => jq_RT jq_zX X none none r) ?_ h hRT
  intro K0 hK0
  unfold X5_next
  have hj34_0 : ∀ (s7 : jq_M), jq_J (X5_next_j34 s7) K0 (jq_V jq_zX X (jq_zN jq_zX) s7 34 [(0, jR 2)] []) := by
    intro s7
    unfold X5_next_j34
    refine jq_aload_n Γ dX5_next_34 rfl 0 rfl (jq_at_0 at_X_2) ?_
    refine jq_aload_n Γ dX5_next_35 rfl 0 rfl (jq_at_0 at_X_2) ?_
    refine jq_getI (J := 4) Γ at_X_2 fl_RX5_49 rfl rfl dX5_next_36 ?_
    refine jq_putI Γ at_X_2 fl_RX5_64 rfl rfl dX5_next_39 (fun s8 => ?_)
    refine jq_aload_n Γ dX5_next_42 rfl 0 rfl (jq_at_0 at_X_2) ?_
    refine jq_iconst Γ dX5_next_43 rfl ?_
    refine jq_putI Γ at_X_2 fl_RX5_74 rfl rfl dX5_next_44 (fun s9 => ?_)
    refine jq_aload_n Γ dX5_next_47 rfl 0 rfl (jq_at_0 at_X_2) ?_
    refine jq_lconst Γ 0 dX5_next_48 rfl rfl ?_
    refine jq_putL Γ at_X_2 fl_RX5_77 rfl rfl dX5_next_49 (fun s10 => ?_)
    refine jq_aload_n Γ dX5_next_52 rfl 0 rfl (jq_at_0 at_X_2) ?_
    refine jq_iconst Γ dX5_next_53 rfl ?_
    refine jq_putZ Γ at_X_2 fl_RX5_81 rfl rfl (Or.inl rfl) dX5_next_54 (fun s11 => ?_)
    refine jq_aload_n Γ dX5_next_57 rfl 0 rfl (jq_at_0 at_X_2) ?_
    refine jq_getI (J := 4) Γ at_X_2 fl_RX5_49 rfl rfl dX5_next_58 ?_
    refine jq_aload_n Γ dX5_next_61 rfl 0 rfl (jq_at_0 at_X_2) ?_
    refine jq_getI (J := 3) Γ at_X_2 fl_RX5_47 rfl rfl dX5_next_62 ?_
    refine jq_icmp_lt (tgt := 76) Γ dX5_next_65 rfl ?_ ?_
    · refine jq_aload_n Γ dX5_next_76 rfl 0 rfl (jq_at_0 at_X_2) ?_
      refine jq_cpI (jq_virt (avs := []) (st := []) Γ hlY rfl ml_RX5_67 rfl at_X_2 rfl rfl rfl rfl rfl dX5_next_77) (fun r h => ctX5_here h) (fun v12 => ?_)
      refine jq_cpZ (jq_stat (avs := [jI v12]) (st := []) Γ hlY rfl ml_RX5_85 rfl rfl rfl rfl rfl dX5_next_80) rfl (fun r h => ctX5_isLetter h) (fun v13 hz14 => ?_)
      refine jq_if_eq (tgt := 93) Γ dX5_next_83 rfl ?_ ?_
      · refine jq_aload_n Γ dX5_next_93 rfl 0 rfl (jq_at_0 at_X_2) ?_
        refine jq_cpI (jq_virt (avs := []) (st := []) Γ hlY rfl ml_RX5_67 rfl at_X_2 rfl rfl rfl rfl rfl dX5_next_94) (fun r h => ctX5_here h) (fun v15 => ?_)
        refine jq_cpZ (jq_stat (avs := [jI v15]) (st := []) Γ hlY rfl ml_RX5_91 rfl rfl rfl rfl rfl dX5_next_97) rfl (fun r h => ctX5_isDigit h) (fun v16 hz17 => ?_)
        refine jq_if_eq (tgt := 110) Γ dX5_next_100 rfl ?_ ?_
        · refine jq_aload_n Γ dX5_next_110 rfl 0 rfl (jq_at_0 at_X_2) ?_
          refine jq_cwV (jq_virt (avs := []) (st := []) Γ hlY rfl ml_RX5_97 rfl at_X_2 rfl rfl rfl rfl rfl dX5_next_111) (fun σ' h => ctX5_readSign h) (fun s18 => ?_)
          exact jq_vreturn Γ dX5_next_114 (hK0 _)
        · refine jq_aload_n Γ dX5_next_103 rfl 0 rfl (jq_at_0 at_X_2) ?_
          refine jq_cwV (jq_virt (avs := []) (st := []) Γ hlY rfl ml_RX5_94 rfl at_X_2 rfl rfl rfl rfl rfl dX5_next_104) (fun σ' h => ctX5_readNumber h) (fun s19 => ?_)
          refine jq_goto Γ (tgt := 114) dX5_next_107 rfl ?_
          exact jq_vreturn Γ dX5_next_114 (hK0 _)
      · refine jq_aload_n Γ dX5_next_86 rfl 0 rfl (jq_at_0 at_X_2) ?_
        refine jq_cwV (jq_virt (avs := []) (st := []) Γ hlY rfl ml_RX5_88 rfl at_X_2 rfl rfl rfl rfl rfl dX5_next_87) (fun σ' h => ctX5_readWord h) (fun s20 => ?_)
        refine jq_goto Γ (tgt := 114) dX5_next_90 rfl ?_
        exact jq_vreturn Γ dX5_next_114 (hK0 _)
    · refine jq_aload_n Γ dX5_next_68 rfl 0 rfl (jq_at_0 at_X_2) ?_
      refine jq_iconst Γ dX5_next_69 rfl ?_
      refine jq_putI Γ at_X_2 fl_RX5_61 rfl rfl dX5_next_70 (fun s21 => ?_)
      refine jq_goto Γ (tgt := 114) dX5_next_73 rfl ?_
      exact jq_vreturn Γ dX5_next_114 (hK0 _)
  refine jq_loop2 (C := fun (t1 : jq_M) => jq_V jq_zX X (jq_zN jq_zX) t1 0 [(0, jR 2)] []) (KX := fun (e6 : jq_M) => jq_V jq_zX X (jq_zN jq_zX) e6 34 [(0, jR 2)] []) ?_ ?_ σ
  · intro K0_t1 hCt1 hXt1 t1
    unfold X5_next_b0
    refine jq_aload_n Γ dX5_next_0 rfl 0 rfl (jq_at_0 at_X_2) ?_
    refine jq_getI (J := 4) Γ at_X_2 fl_RX5_49 rfl rfl dX5_next_1 ?_
    refine jq_aload_n Γ dX5_next_4 rfl 0 rfl (jq_at_0 at_X_2) ?_
    refine jq_getI (J := 3) Γ at_X_2 fl_RX5_47 rfl rfl dX5_next_5 ?_
    refine jq_icmp_ge (tgt := 34) Γ dX5_next_8 rfl ?_ ?_
    · exact jq_done (hXt1 t1)
    · refine jq_aload_n Γ dX5_next_11 rfl 0 rfl (jq_at_0 at_X_2) ?_
      refine jq_cpI (jq_virt (avs := []) (st := []) Γ hlY rfl ml_RX5_67 rfl at_X_2 rfl rfl rfl rfl rfl dX5_next_12) (fun r h => ctX5_here h) (fun v2 => ?_)
      refine jq_cpZ (jq_stat (avs := [jI v2]) (st := []) Γ hlY rfl ml_RX5_70 rfl rfl rfl rfl rfl dX5_next_15) rfl (fun r h => ctX5_isBlank h) (fun v3 hz4 => ?_)
      refine jq_if_eq (tgt := 34) Γ dX5_next_18 rfl ?_ ?_
      · exact jq_done (hXt1 t1)
      · refine jq_aload_n Γ dX5_next_21 rfl 0 rfl (jq_at_0 at_X_2) ?_
        refine jq_dup Γ dX5_next_22 rfl ?_
        refine jq_getI (J := 4) Γ at_X_2 fl_RX5_49 rfl rfl dX5_next_23 ?_
        refine jq_iconst Γ dX5_next_26 rfl ?_
        refine jq_iadd Γ dX5_next_27 ?_
        refine jq_putI Γ at_X_2 fl_RX5_49 rfl rfl dX5_next_28 (fun s5 => ?_)
        refine jq_goto Γ (tgt := 0) dX5_next_31 rfl ?_
        exact jq_done (hCt1 s5)
  · intro e6
    exact hj34_0 e6


theorem dX5_open_0 : decode cX5_open 0 = .ok (.aload_n 0, 1) := by decide +kernel
theorem dX5_open_1 : decode cX5_open 1 = .ok (.iload_n 1, 1) := by decide +kernel
theorem dX5_open_2 : decode cX5_open 2 = .ok (.aload_n 0, 1) := by decide +kernel
theorem dX5_open_3 : decode cX5_open 3 = .ok (.getfield 37, 3) := by decide +kernel
theorem dX5_open_6 : decode cX5_open 6 = .ok (.invokestatic 41, 3) := by decide +kernel
theorem dX5_open_9 : decode cX5_open 9 = .ok (.putfield 47, 3) := by decide +kernel
theorem dX5_open_12 : decode cX5_open 12 = .ok (.aload_n 0, 1) := by decide +kernel
theorem dX5_open_13 : decode cX5_open 13 = .ok (.iconst 0, 1) := by decide +kernel
theorem dX5_open_14 : decode cX5_open 14 = .ok (.putfield 37, 3) := by decide +kernel
theorem dX5_open_17 : decode cX5_open 17 = .ok (.aload_n 0, 1) := by decide +kernel
theorem dX5_open_18 : decode cX5_open 18 = .ok (.iconst 0, 1) := by decide +kernel
theorem dX5_open_19 : decode cX5_open 19 = .ok (.putfield 49, 3) := by decide +kernel
theorem dX5_open_22 : decode cX5_open 22 = .ok (.aload_n 0, 1) := by decide +kernel
theorem dX5_open_23 : decode cX5_open 23 = .ok (.iconst 0, 1) := by decide +kernel
theorem dX5_open_24 : decode cX5_open 24 = .ok (.putfield 52, 3) := by decide +kernel
theorem dX5_open_27 : decode cX5_open 27 = .ok (.aload_n 0, 1) := by decide +kernel
theorem dX5_open_28 : decode cX5_open 28 = .ok (.iconst (-1), 1) := by decide +kernel
theorem dX5_open_29 : decode cX5_open 29 = .ok (.putfield 55, 3) := by decide +kernel
theorem dX5_open_32 : decode cX5_open 32 = .ok (.aload_n 0, 1) := by decide +kernel
theorem dX5_open_33 : decode cX5_open 33 = .ok (.invokevirtual 58, 3) := by decide +kernel
theorem dX5_open_36 : decode cX5_open 36 = .ok (.return_, 1) := by decide +kernel
set_option maxHeartbeats 4000000 in
set_option maxRecDepth 100000 in
theorem ctX5_open {p1 : Int} {σ : jq_M} {σ' : jq_M}  (h : X5_open p1 σ = some σ') : jq_MC jq_zX yX5_open cX5_open 2 none 4 105 [jR 2, jI p1] σ none σ' := by
  refine jq_met (own := RX5) (L0 := [(0, jR 2), (1, jI p1)]) (by decide) rfl rfl rfl ?_
  intro X Γ hnl hlY hRT
  refine jq_use2 (P := fun r => jq_RT jq_zX X none none r) ?_ h hRT
  intro K0 hK0
  unfold X5_open
  refine jq_aload_n Γ dX5_open_0 rfl 0 rfl (jq_at_0 at_X_2) ?_
  refine jq_iload_n Γ dX5_open_1 rfl 1 rfl ?_
  refine jq_aload_n Γ dX5_open_2 rfl 0 rfl (jq_at_0 at_X_2) ?_
  refine jq_getI (J := 2) Γ at_X_2 fl_RX5_37 rfl rfl dX5_open_3 ?_
  refine jq_mmin Γ mw_RX5_41 mws_min mwi mwc_min rfl rfl dX5_open_6 ?_
  refine jq_putI Γ at_X_2 fl_RX5_47 rfl rfl dX5_open_9 (fun s1 => ?_)
  refine jq_aload_n Γ dX5_open_12 rfl 0 rfl (jq_at_0 at_X_2) ?_
  refine jq_iconst Γ dX5_open_13 rfl ?_
  refine jq_putI Γ at_X_2 fl_RX5_37 rfl rfl dX5_open_14 (fun s2 => ?_)
  refine jq_aload_n Γ dX5_open_17 rfl 0 rfl (jq_at_0 at_X_2) ?_
  refine jq_iconst Γ dX5_open_18 rfl ?_
  refine jq_putI Γ at_X_2 fl_RX5_49 rfl rfl dX5_open_19 (fun s3 => ?_)
  refine jq_aload_n Γ dX5_open_22 rfl 0 rfl (jq_at_0 at_X_2) ?_
  refine jq_iconst Γ dX5_open_23 rfl ?_
  refine jq_putI Γ at_X_2 fl_RX5_52 rfl rfl dX5_open_24 (fun s4 => ?_)
  refine jq_aload_n Γ dX5_open_27 rfl 0 rfl (jq_at_0 at_X_2) ?_
  refine jq_iconst Γ dX5_open_28 rfl ?_
  refine jq_putI Γ at_X_2 fl_RX5_55 rfl rfl dX5_open_29 (fun s5 => ?_)
  refine jq_aload_n Γ dX5_open_32 rfl 0 rfl (jq_at_0 at_X_2) ?_
  refine jq_cwV (jq_virt (avs := []) (st := []) Γ hlY rfl ml_RX5_58 rfl at_X_2 rfl rfl rfl rfl rfl dX5_open_33) (fun σ' h => ctX5_next h) (fun s6 => ?_)
  exact jq_vreturn Γ dX5_open_36 (hK0 _)


theorem dX7_clear_0 : decode cX7_clear 0 = .ok (.aload_n 0, 1) := by decide +kernel
theorem dX7_clear_1 : decode cX7_clear 1 = .ok (.iconst 0, 1) := by decide +kernel
theorem dX7_clear_2 : decode cX7_clear 2 = .ok (.putfield 27, 3) := by decide +kernel
theorem dX7_clear_5 : decode cX7_clear 5 = .ok (.aload_n 0, 1) := by decide +kernel
theorem dX7_clear_6 : decode cX7_clear 6 = .ok (.iconst 0, 1) := by decide +kernel
theorem dX7_clear_7 : decode cX7_clear 7 = .ok (.putfield 31, 3) := by decide +kernel
theorem dX7_clear_10 : decode cX7_clear 10 = .ok (.aload_n 0, 1) := by decide +kernel
theorem dX7_clear_11 : decode cX7_clear 11 = .ok (.iconst 0, 1) := by decide +kernel
theorem dX7_clear_12 : decode cX7_clear 12 = .ok (.putfield 35, 3) := by decide +kernel
theorem dX7_clear_15 : decode cX7_clear 15 = .ok (.aload_n 0, 1) := by decide +kernel
theorem dX7_clear_16 : decode cX7_clear 16 = .ok (.iconst 0, 1) := by decide +kernel
theorem dX7_clear_17 : decode cX7_clear 17 = .ok (.putfield 38, 3) := by decide +kernel
theorem dX7_clear_20 : decode cX7_clear 20 = .ok (.return_, 1) := by decide +kernel
set_option maxHeartbeats 4000000 in
set_option maxRecDepth 100000 in
theorem ctX7_clear {o : Int} {σ : jq_M} {σ' : jq_M} (ho : jq_stp o) (h : X7_clear o σ = some σ') : jq_MC jq_zX yX7_clear cX7_clear 1 none 1 40 [jR o] σ none σ' := by
  refine jq_met (own := RX7) (L0 := [(0, jR o)]) (by decide) rfl rfl rfl ?_
  intro X Γ hnl hlY hRT
  refine jq_use2 (P := fun r => jq_RT jq_zX X none none r) ?_ h hRT
  intro K0 hK0
  unfold X7_clear
  refine jq_aload_n Γ dX7_clear_0 rfl 0 rfl (jq_at_0 (at_stp ho)) ?_
  refine jq_iconst Γ dX7_clear_1 rfl ?_
  refine jq_putZ Γ (at_stp ho) fl_RX7_27 rfl rfl (Or.inl rfl) dX7_clear_2 (fun s1 => ?_)
  refine jq_aload_n Γ dX7_clear_5 rfl 0 rfl (jq_at_0 (at_stp ho)) ?_
  refine jq_iconst Γ dX7_clear_6 rfl ?_
  refine jq_putI Γ (at_stp ho) fl_RX7_31 rfl rfl dX7_clear_7 (fun s2 => ?_)
  refine jq_aload_n Γ dX7_clear_10 rfl 0 rfl (jq_at_0 (at_stp ho)) ?_
  refine jq_iconst Γ dX7_clear_11 rfl ?_
  refine jq_putI Γ (at_stp ho) fl_RX7_35 rfl rfl dX7_clear_12 (fun s3 => ?_)
  refine jq_aload_n Γ dX7_clear_15 rfl 0 rfl (jq_at_0 (at_stp ho)) ?_
  refine jq_iconst Γ dX7_clear_16 rfl ?_
  refine jq_putI Γ (at_stp ho) fl_RX7_38 rfl rfl dX7_clear_17 (fun s4 => ?_)
  exact jq_vreturn Γ dX7_clear_20 (hK0 _)


theorem dX1_clear_0 : decode cX1_clear 0 = .ok (.aload_n 0, 1) := by decide +kernel
theorem dX1_clear_1 : decode cX1_clear 1 = .ok (.iconst 0, 1) := by decide +kernel
theorem dX1_clear_2 : decode cX1_clear 2 = .ok (.putfield 59, 3) := by decide +kernel
theorem dX1_clear_5 : decode cX1_clear 5 = .ok (.aload_n 0, 1) := by decide +kernel
theorem dX1_clear_6 : decode cX1_clear 6 = .ok (.iconst 0, 1) := by decide +kernel
theorem dX1_clear_7 : decode cX1_clear 7 = .ok (.putfield 63, 3) := by decide +kernel
theorem dX1_clear_10 : decode cX1_clear 10 = .ok (.aload_n 0, 1) := by decide +kernel
theorem dX1_clear_11 : decode cX1_clear 11 = .ok (.iconst 0, 1) := by decide +kernel
theorem dX1_clear_12 : decode cX1_clear 12 = .ok (.putfield 66, 3) := by decide +kernel
theorem dX1_clear_15 : decode cX1_clear 15 = .ok (.aload_n 0, 1) := by decide +kernel
theorem dX1_clear_16 : decode cX1_clear 16 = .ok (.iconst 0, 1) := by decide +kernel
theorem dX1_clear_17 : decode cX1_clear 17 = .ok (.putfield 69, 3) := by decide +kernel
theorem dX1_clear_20 : decode cX1_clear 20 = .ok (.aload_n 0, 1) := by decide +kernel
theorem dX1_clear_21 : decode cX1_clear 21 = .ok (.iconst 0, 1) := by decide +kernel
theorem dX1_clear_22 : decode cX1_clear 22 = .ok (.putfield 72, 3) := by decide +kernel
theorem dX1_clear_25 : decode cX1_clear 25 = .ok (.aload_n 0, 1) := by decide +kernel
theorem dX1_clear_26 : decode cX1_clear 26 = .ok (.iconst 0, 1) := by decide +kernel
theorem dX1_clear_27 : decode cX1_clear 27 = .ok (.putfield 75, 3) := by decide +kernel
theorem dX1_clear_30 : decode cX1_clear 30 = .ok (.aload_n 0, 1) := by decide +kernel
theorem dX1_clear_31 : decode cX1_clear 31 = .ok (.iconst 0, 1) := by decide +kernel
theorem dX1_clear_32 : decode cX1_clear 32 = .ok (.putfield 78, 3) := by decide +kernel
theorem dX1_clear_35 : decode cX1_clear 35 = .ok (.aload_n 0, 1) := by decide +kernel
theorem dX1_clear_36 : decode cX1_clear 36 = .ok (.getfield 52, 3) := by decide +kernel
theorem dX1_clear_39 : decode cX1_clear 39 = .ok (.invokevirtual 81, 3) := by decide +kernel
theorem dX1_clear_42 : decode cX1_clear 42 = .ok (.return_, 1) := by decide +kernel
set_option maxHeartbeats 4000000 in
set_option maxRecDepth 100000 in
theorem ctX1_clear {o : Int} {σ : jq_M} {σ' : jq_M} (ho : jq_com o) (h : X1_clear o σ = some σ') : jq_MC jq_zX yX1_clear cX1_clear 1 none 2 60 [jR o] σ none σ' := by
  refine jq_met (own := RX1) (L0 := [(0, jR o)]) (by decide) rfl rfl rfl ?_
  intro X Γ hnl hlY hRT
  refine jq_use2 (P := fun r => jq_RT jq_zX X none none r) ?_ h hRT
  intro K0 hK0
  unfold X1_clear
  refine jq_aload_n Γ dX1_clear_0 rfl 0 rfl (jq_at_0 (at_com ho)) ?_
  refine jq_iconst Γ dX1_clear_1 rfl ?_
  refine jq_putI Γ (at_com ho) fl_RX1_59 rfl rfl dX1_clear_2 (fun s1 => ?_)
  refine jq_aload_n Γ dX1_clear_5 rfl 0 rfl (jq_at_0 (at_com ho)) ?_
  refine jq_iconst Γ dX1_clear_6 rfl ?_
  refine jq_putI Γ (at_com ho) fl_RX1_63 rfl rfl dX1_clear_7 (fun s2 => ?_)
  refine jq_aload_n Γ dX1_clear_10 rfl 0 rfl (jq_at_0 (at_com ho)) ?_
  refine jq_iconst Γ dX1_clear_11 rfl ?_
  refine jq_putI Γ (at_com ho) fl_RX1_66 rfl rfl dX1_clear_12 (fun s3 => ?_)
  refine jq_aload_n Γ dX1_clear_15 rfl 0 rfl (jq_at_0 (at_com ho)) ?_
  refine jq_iconst Γ dX1_clear_16 rfl ?_
  refine jq_putI Γ (at_com ho) fl_RX1_69 rfl rfl dX1_clear_17 (fun s4 => ?_)
  refine jq_aload_n Γ dX1_clear_20 rfl 0 rfl (jq_at_0 (at_com ho)) ?_
  refine jq_iconst Γ dX1_clear_21 rfl ?_
  refine jq_putI Γ (at_com ho) fl_RX1_72 rfl rfl dX1_clear_22 (fun s5 => ?_)
  refine jq_aload_n Γ dX1_clear_25 rfl 0 rfl (jq_at_0 (at_com ho)) ?_
  refine jq_iconst Γ dX1_clear_26 rfl ?_
  refine jq_putI Γ (at_com ho) fl_RX1_75 rfl rfl dX1_clear_27 (fun s6 => ?_)
  refine jq_aload_n Γ dX1_clear_30 rfl 0 rfl (jq_at_0 (at_com ho)) ?_
  refine jq_iconst Γ dX1_clear_31 rfl ?_
  refine jq_putI Γ (at_com ho) fl_RX1_78 rfl rfl dX1_clear_32 (fun s7 => ?_)
  refine jq_aload_n Γ dX1_clear_35 rfl 0 rfl (jq_at_0 (at_com ho)) ?_
  refine jq_getR (v := (o + 13)) Γ hlY (at_com ho) fl_RX1_52 rfl rfl (ly_X1_steps ho) dX1_clear_36 ?_
  refine jq_cwV (jq_virt (avs := []) (st := []) Γ hlY rfl ml_RX1_81 rfl (at_stp (stp_com ho)) rfl rfl rfl rfl rfl dX1_clear_39) (fun σ' h => ctX7_clear (stp_com ho) h) (fun s8 => ?_)
  exact jq_vreturn Γ dX1_clear_42 (hK0 _)


theorem dX5_goesOn_0 : decode cX5_goesOn 0 = .ok (.aload_n 0, 1) := by decide +kernel
theorem dX5_goesOn_1 : decode cX5_goesOn 1 = .ok (.getfield 52, 3) := by decide +kernel
theorem dX5_goesOn_4 : decode cX5_goesOn 4 = .ok (.ifCond .ne 14, 3) := by decide +kernel
theorem dX5_goesOn_7 : decode cX5_goesOn 7 = .ok (.aload_n 0, 1) := by decide +kernel
theorem dX5_goesOn_8 : decode cX5_goesOn 8 = .ok (.getfield 61, 3) := by decide +kernel
theorem dX5_goesOn_11 : decode cX5_goesOn 11 = .ok (.ifCond .eq 7, 3) := by decide +kernel
theorem dX5_goesOn_14 : decode cX5_goesOn 14 = .ok (.iconst 1, 1) := by decide +kernel
theorem dX5_goesOn_15 : decode cX5_goesOn 15 = .ok (.goto 4, 3) := by decide +kernel
theorem dX5_goesOn_18 : decode cX5_goesOn 18 = .ok (.iconst 0, 1) := by decide +kernel
theorem dX5_goesOn_19 : decode cX5_goesOn 19 = .ok (.ireturn, 1) := by decide +kernel
set_option maxHeartbeats 4000000 in
set_option maxRecDepth 100000 in
theorem ctX5_goesOn  {σ : jq_M} {res : Int}  (h : X5_goesOn σ = some res) : jq_MC jq_zX yX5_goesOn cX5_goesOn 1 (some .boolean) 1 40 [jR 2] σ (some (jI res)) σ := by
  refine jq_met (own := RX5) (L0 := [(0, jR 2)]) (by decide) rfl rfl rfl ?_
  intro X Γ hnl hlY hRT
  refine jq_use2 (P := fun r => jq_RT jq_zX X (some .boolean) (some (jI r)) σ) ?_ h hRT
  intro K0 hK0
  unfold X5_goesOn
  refine jq_aload_n Γ dX5_goesOn_0 rfl 0 rfl (jq_at_0 at_X_2) ?_
  refine jq_getI (J := 12) Γ at_X_2 fl_RX5_52 rfl rfl dX5_goesOn_1 ?_
  refine jq_if_ne (tgt := 18) Γ dX5_goesOn_4 rfl ?_ ?_
  · refine jq_iconst Γ dX5_goesOn_18 rfl ?_
    exact jq_zreturn Γ (Or.inl rfl) dX5_goesOn_19 (hK0 _)
  · refine jq_aload_n Γ dX5_goesOn_7 rfl 0 rfl (jq_at_0 at_X_2) ?_
    refine jq_getI (J := 5) Γ at_X_2 fl_RX5_61 rfl rfl dX5_goesOn_8 ?_
    refine jq_if_eq (tgt := 18) Γ dX5_goesOn_11 rfl ?_ ?_
    · refine jq_iconst Γ dX5_goesOn_18 rfl ?_
      exact jq_zreturn Γ (Or.inl rfl) dX5_goesOn_19 (hK0 _)
    · refine jq_iconst Γ dX5_goesOn_14 rfl ?_
      refine jq_goto Γ (tgt := 19) dX5_goesOn_15 rfl ?_
      exact jq_zreturn Γ (Or.inr rfl) dX5_goesOn_19 (hK0 _)


theorem dX5_blame_0 : decode cX5_blame 0 = .ok (.aload_n 0, 1) := by decide +kernel
theorem dX5_blame_1 : decode cX5_blame 1 = .ok (.getfield 52, 3) := by decide +kernel
theorem dX5_blame_4 : decode cX5_blame 4 = .ok (.ifCond .ne 28, 3) := by decide +kernel
theorem dX5_blame_7 : decode cX5_blame 7 = .ok (.aload_n 0, 1) := by decide +kernel
theorem dX5_blame_8 : decode cX5_blame 8 = .ok (.aload_n 0, 1) := by decide +kernel
theorem dX5_blame_9 : decode cX5_blame 9 = .ok (.getfield 61, 3) := by decide +kernel
theorem dX5_blame_12 : decode cX5_blame 12 = .ok (.iconst 4, 1) := by decide +kernel
theorem dX5_blame_13 : decode cX5_blame 13 = .ok (.if_icmp .ne 7, 3) := by decide +kernel
theorem dX5_blame_16 : decode cX5_blame 16 = .ok (.iconst 1, 1) := by decide +kernel
theorem dX5_blame_17 : decode cX5_blame 17 = .ok (.goto 4, 3) := by decide +kernel
theorem dX5_blame_20 : decode cX5_blame 20 = .ok (.iload_n 1, 1) := by decide +kernel
theorem dX5_blame_21 : decode cX5_blame 21 = .ok (.putfield 52, 3) := by decide +kernel
theorem dX5_blame_24 : decode cX5_blame 24 = .ok (.aload_n 0, 1) := by decide +kernel
theorem dX5_blame_25 : decode cX5_blame 25 = .ok (.aload_n 0, 1) := by decide +kernel
theorem dX5_blame_26 : decode cX5_blame 26 = .ok (.getfield 64, 3) := by decide +kernel
theorem dX5_blame_29 : decode cX5_blame 29 = .ok (.putfield 55, 3) := by decide +kernel
theorem dX5_blame_32 : decode cX5_blame 32 = .ok (.return_, 1) := by decide +kernel
set_option maxHeartbeats 4000000 in
set_option maxRecDepth 100000 in
theorem ctX5_blame {p1 : Int} {σ : jq_M} {σ' : jq_M}  (h : X5_blame p1 σ = some σ') : jq_MC jq_zX yX5_blame cX5_blame 2 none 1 40 [jR 2, jI p1] σ none σ' := by
  refine jq_met (own := RX5) (L0 := [(0, jR 2), (1, jI p1)]) (by decide) rfl rfl rfl ?_
  intro X Γ hnl hlY hRT
  refine jq_use2 (P := fun r => jq_RT jq_zX X none none r) ?_ h hRT
  intro K0 hK0
  unfold X5_blame
  refine jq_aload_n Γ dX5_blame_0 rfl 0 rfl (jq_at_0 at_X_2) ?_
  refine jq_getI (J := 12) Γ at_X_2 fl_RX5_52 rfl rfl dX5_blame_1 ?_
  refine jq_if_ne (tgt := 32) Γ dX5_blame_4 rfl ?_ ?_
  · exact jq_vreturn Γ dX5_blame_32 (hK0 _)
  · refine jq_aload_n Γ dX5_blame_7 rfl 0 rfl (jq_at_0 at_X_2) ?_
    refine jq_aload_n Γ dX5_blame_8 rfl 0 rfl (jq_at_0 at_X_2) ?_
    refine jq_getI (J := 5) Γ at_X_2 fl_RX5_61 rfl rfl dX5_blame_9 ?_
    refine jq_iconst Γ dX5_blame_12 rfl ?_
    refine jq_icmp_ne (tgt := 20) Γ dX5_blame_13 rfl ?_ ?_
    · refine jq_iload_n Γ dX5_blame_20 rfl 1 rfl ?_
      refine jq_putI Γ at_X_2 fl_RX5_52 rfl rfl dX5_blame_21 (fun s1 => ?_)
      refine jq_aload_n Γ dX5_blame_24 rfl 0 rfl (jq_at_0 at_X_2) ?_
      refine jq_aload_n Γ dX5_blame_25 rfl 0 rfl (jq_at_0 at_X_2) ?_
      refine jq_getI (J := 6) Γ at_X_2 fl_RX5_64 rfl rfl dX5_blame_26 ?_
      refine jq_putI Γ at_X_2 fl_RX5_55 rfl rfl dX5_blame_29 (fun s2 => ?_)
      exact jq_vreturn Γ dX5_blame_32 (hK0 _)
    · refine jq_iconst Γ dX5_blame_16 rfl ?_
      refine jq_goto Γ (tgt := 21) dX5_blame_17 rfl ?_
      refine jq_putI Γ at_X_2 fl_RX5_52 rfl rfl dX5_blame_21 (fun s3 => ?_)
      refine jq_aload_n Γ dX5_blame_24 rfl 0 rfl (jq_at_0 at_X_2) ?_
      refine jq_aload_n Γ dX5_blame_25 rfl 0 rfl (jq_at_0 at_X_2) ?_
      refine jq_getI (J := 6) Γ at_X_2 fl_RX5_64 rfl rfl dX5_blame_26 ?_
      refine jq_putI Γ at_X_2 fl_RX5_55 rfl rfl dX5_blame_29 (fun s4 => ?_)
      exact jq_vreturn Γ dX5_blame_32 (hK0 _)


theorem dX5_hasFault_0 : decode cX5_hasFault 0 = .ok (.aload_n 0, 1) := by decide +kernel
theorem dX5_hasFault_1 : decode cX5_hasFault 1 = .ok (.getfield 52, 3) := by decide +kernel
theorem dX5_hasFault_4 : decode cX5_hasFault 4 = .ok (.ifCond .eq 7, 3) := by decide +kernel
theorem dX5_hasFault_7 : decode cX5_hasFault 7 = .ok (.iconst 1, 1) := by decide +kernel
theorem dX5_hasFault_8 : decode cX5_hasFault 8 = .ok (.goto 4, 3) := by decide +kernel
theorem dX5_hasFault_11 : decode cX5_hasFault 11 = .ok (.iconst 0, 1) := by decide +kernel
theorem dX5_hasFault_12 : decode cX5_hasFault 12 = .ok (.ireturn, 1) := by decide +kernel
set_option maxHeartbeats 4000000 in
set_option maxRecDepth 100000 in
theorem ctX5_hasFault  {σ : jq_M} {res : Int}  (h : X5_hasFault σ = some res) : jq_MC jq_zX yX5_hasFault cX5_hasFault 1 (some .boolean) 1 40 [jR 2] σ (some (jI res)) σ := by
  refine jq_met (own := RX5) (L0 := [(0, jR 2)]) (by decide) rfl rfl rfl ?_
  intro X Γ hnl hlY hRT
  refine jq_use2 (P := fun r => jq_RT jq_zX X (some .boolean) (some (jI r)) σ) ?_ h hRT
  intro K0 hK0
  unfold X5_hasFault
  refine jq_aload_n Γ dX5_hasFault_0 rfl 0 rfl (jq_at_0 at_X_2) ?_
  refine jq_getI (J := 12) Γ at_X_2 fl_RX5_52 rfl rfl dX5_hasFault_1 ?_
  refine jq_if_eq (tgt := 11) Γ dX5_hasFault_4 rfl ?_ ?_
  · refine jq_iconst Γ dX5_hasFault_11 rfl ?_
    exact jq_zreturn Γ (Or.inl rfl) dX5_hasFault_12 (hK0 _)
  · refine jq_iconst Γ dX5_hasFault_7 rfl ?_
    refine jq_goto Γ (tgt := 12) dX5_hasFault_8 rfl ?_
    exact jq_zreturn Γ (Or.inr rfl) dX5_hasFault_12 (hK0 _)


theorem dX5_numberWithin_0 : decode cX5_numberWithin 0 = .ok (.aload_n 0, 1) := by decide +kernel
theorem dX5_numberWithin_1 : decode cX5_numberWithin 1 = .ok (.getfield 61, 3) := by decide +kernel
theorem dX5_numberWithin_4 : decode cX5_numberWithin 4 = .ok (.iconst 2, 1) := by decide +kernel
theorem dX5_numberWithin_5 : decode cX5_numberWithin 5 = .ok (.if_icmp .eq 11, 3) := by decide +kernel
theorem dX5_numberWithin_8 : decode cX5_numberWithin 8 = .ok (.aload_n 0, 1) := by decide +kernel
theorem dX5_numberWithin_9 : decode cX5_numberWithin 9 = .ok (.iconst 2, 1) := by decide +kernel
theorem dX5_numberWithin_10 : decode cX5_numberWithin 10 = .ok (.invokevirtual 110, 3) := by decide +kernel
theorem dX5_numberWithin_13 : decode cX5_numberWithin 13 = .ok (.goto 20, 3) := by decide +kernel
theorem dX5_numberWithin_16 : decode cX5_numberWithin 16 = .ok (.aload_n 0, 1) := by decide +kernel
theorem dX5_numberWithin_17 : decode cX5_numberWithin 17 = .ok (.getfield 100, 3) := by decide +kernel
theorem dX5_numberWithin_20 : decode cX5_numberWithin 20 = .ok (.iload_n 1, 1) := by decide +kernel
theorem dX5_numberWithin_21 : decode cX5_numberWithin 21 = .ok (.iload_n 2, 1) := by decide +kernel
theorem dX5_numberWithin_22 : decode cX5_numberWithin 22 = .ok (.invokestatic 114, 3) := by decide +kernel
theorem dX5_numberWithin_25 : decode cX5_numberWithin 25 = .ok (.ifCond .ne 8, 3) := by decide +kernel
theorem dX5_numberWithin_28 : decode cX5_numberWithin 28 = .ok (.aload_n 0, 1) := by decide +kernel
theorem dX5_numberWithin_29 : decode cX5_numberWithin 29 = .ok (.iconst 4, 1) := by decide +kernel
theorem dX5_numberWithin_30 : decode cX5_numberWithin 30 = .ok (.invokevirtual 110, 3) := by decide +kernel
theorem dX5_numberWithin_33 : decode cX5_numberWithin 33 = .ok (.aload_n 0, 1) := by decide +kernel
theorem dX5_numberWithin_34 : decode cX5_numberWithin 34 = .ok (.invokevirtual 118, 3) := by decide +kernel
theorem dX5_numberWithin_37 : decode cX5_numberWithin 37 = .ok (.ifCond .eq 7, 3) := by decide +kernel
theorem dX5_numberWithin_40 : decode cX5_numberWithin 40 = .ok (.iload_n 1, 1) := by decide +kernel
theorem dX5_numberWithin_41 : decode cX5_numberWithin 41 = .ok (.goto 7, 3) := by decide +kernel
theorem dX5_numberWithin_44 : decode cX5_numberWithin 44 = .ok (.aload_n 0, 1) := by decide +kernel
theorem dX5_numberWithin_45 : decode cX5_numberWithin 45 = .ok (.getfield 100, 3) := by decide +kernel
theorem dX5_numberWithin_48 : decode cX5_numberWithin 48 = .ok (.ireturn, 1) := by decide +kernel
set_option maxHeartbeats 4000000 in
set_option maxRecDepth 100000 in
theorem ctX5_numberWithin {p1 : Int} {p2 : Int} {σ : jq_M} {res : Int} {σ' : jq_M}  (h : X5_numberWithin p1 p2 σ = some (res, σ')) : jq_MC jq_zX yX5_numberWithin cX5_numberWithin 3 (some .int) 2 62 [jR 2, jI p1, jI p2] σ (some (jI res)) σ' := by
  refine jq_met (own := RX5) (L0 := [(0, jR 2), (1, jI p1), (2, jI p2)]) (by decide) rfl rfl rfl ?_
  intro X Γ hnl hlY hRT
  refine jq_use2 (P := fun r => jq_RT jq_zX X (some .int) (some (jI r.1)) r.2) ?_ h hRT
  intro K0 hK0
  unfold X5_numberWithin
  have hj33_0 : ∀ (s3 : jq_M), jq_J (X5_numberWithin_j33 p1 s3) K0 (jq_V jq_zX X (jq_zN jq_zX) s3 33 [(0, jR 2), (1, jI p1)] []) := by
    intro s3
    unfold X5_numberWithin_j33
    refine jq_aload_n Γ dX5_numberWithin_33 rfl 0 rfl (jq_at_0 at_X_2) ?_
    refine jq_cpZ (jq_virt (avs := []) (st := []) Γ hlY rfl ml_RX5_118 rfl at_X_2 rfl rfl rfl rfl rfl dX5_numberWithin_34) rfl (fun r h => ctX5_hasFault h) (fun v4 hz5 => ?_)
    refine jq_if_eq (tgt := 44) Γ dX5_numberWithin_37 rfl ?_ ?_
    · refine jq_aload_n Γ dX5_numberWithin_44 rfl 0 rfl (jq_at_0 at_X_2) ?_
      refine jq_getI (J := 7) Γ at_X_2 fl_RX5_100 rfl rfl dX5_numberWithin_45 ?_
      exact jq_ireturn Γ dX5_numberWithin_48 (hK0 _)
    · refine jq_iload_n Γ dX5_numberWithin_40 rfl 1 rfl ?_
      refine jq_goto Γ (tgt := 48) dX5_numberWithin_41 rfl ?_
      exact jq_ireturn Γ dX5_numberWithin_48 (hK0 _)
  refine jq_aload_n Γ dX5_numberWithin_0 rfl 0 rfl (jq_at_0 at_X_2) ?_
  refine jq_getI (J := 5) Γ at_X_2 fl_RX5_61 rfl rfl dX5_numberWithin_1 ?_
  refine jq_iconst Γ dX5_numberWithin_4 rfl ?_
  refine jq_icmp_eq (tgt := 16) Γ dX5_numberWithin_5 rfl ?_ ?_
  · refine jq_aload_n Γ dX5_numberWithin_16 rfl 0 rfl (jq_at_0 at_X_2) ?_
    refine jq_getI (J := 7) Γ at_X_2 fl_RX5_100 rfl rfl dX5_numberWithin_17 ?_
    refine jq_iload_n Γ dX5_numberWithin_20 rfl 1 rfl ?_
    refine jq_iload_n Γ dX5_numberWithin_21 rfl 2 rfl ?_
    refine jq_cpZ (jq_nest (avs := [jI (σ 2 7), jI p1, jI p2]) (st := []) Γ hlY rfl ml_RX5_114 rfl rfl rfl rfl rfl dX5_numberWithin_22) rfl (fun r h => ctX10_within h) (fun v1 hz2 => ?_)
    refine jq_if_ne (tgt := 33) Γ dX5_numberWithin_25 rfl ?_ ?_
    · refine jq_sub Γ (L' := [(0, jR 2), (1, jI p1)]) [0, 1] rfl ?_
      exact hj33_0 σ
    · refine jq_aload_n Γ dX5_numberWithin_28 rfl 0 rfl (jq_at_0 at_X_2) ?_
      refine jq_iconst Γ dX5_numberWithin_29 rfl ?_
      refine jq_cwV (jq_virt (avs := [jI 4]) (st := []) Γ hlY rfl ml_RX5_110 rfl at_X_2 rfl rfl rfl rfl rfl dX5_numberWithin_30) (fun σ' h => ctX5_blame h) (fun s6 => ?_)
      refine jq_sub Γ (L' := [(0, jR 2), (1, jI p1)]) [0, 1] rfl ?_
      exact hj33_0 s6
  · refine jq_aload_n Γ dX5_numberWithin_8 rfl 0 rfl (jq_at_0 at_X_2) ?_
    refine jq_iconst Γ dX5_numberWithin_9 rfl ?_
    refine jq_cwV (jq_virt (avs := [jI 2]) (st := []) Γ hlY rfl ml_RX5_110 rfl at_X_2 rfl rfl rfl rfl rfl dX5_numberWithin_10) (fun σ' h => ctX5_blame h) (fun s7 => ?_)
    refine jq_goto Γ (tgt := 33) dX5_numberWithin_13 rfl ?_
    refine jq_sub Γ (L' := [(0, jR 2), (1, jI p1)]) [0, 1] rfl ?_
    exact hj33_0 s7


theorem dX5_takeNumber_0 : decode cX5_takeNumber 0 = .ok (.aload_n 0, 1) := by decide +kernel
theorem dX5_takeNumber_1 : decode cX5_takeNumber 1 = .ok (.iload_n 1, 1) := by decide +kernel
theorem dX5_takeNumber_2 : decode cX5_takeNumber 2 = .ok (.iload_n 2, 1) := by decide +kernel
theorem dX5_takeNumber_3 : decode cX5_takeNumber 3 = .ok (.invokevirtual 122, 3) := by decide +kernel
theorem dX5_takeNumber_6 : decode cX5_takeNumber 6 = .ok (.istore_n 3, 1) := by decide +kernel
theorem dX5_takeNumber_7 : decode cX5_takeNumber 7 = .ok (.aload_n 0, 1) := by decide +kernel
theorem dX5_takeNumber_8 : decode cX5_takeNumber 8 = .ok (.invokevirtual 58, 3) := by decide +kernel
theorem dX5_takeNumber_11 : decode cX5_takeNumber 11 = .ok (.iload_n 3, 1) := by decide +kernel
theorem dX5_takeNumber_12 : decode cX5_takeNumber 12 = .ok (.ireturn, 1) := by decide +kernel
set_option maxHeartbeats 4000000 in
set_option maxRecDepth 100000 in
theorem ctX5_takeNumber {p1 : Int} {p2 : Int} {σ : jq_M} {res : Int} {σ' : jq_M}  (h : X5_takeNumber p1 p2 σ = some (res, σ')) : jq_MC jq_zX yX5_takeNumber cX5_takeNumber 4 (some .int) 4 105 [jR 2, jI p1, jI p2] σ (some (jI res)) σ' := by
  refine jq_met (own := RX5) (L0 := [(0, jR 2), (1, jI p1), (2, jI p2)]) (by decide) rfl rfl rfl ?_
  intro X Γ hnl hlY hRT
  refine jq_use2 (P := fun r => jq_RT jq_zX X (some .int) (some (jI r.1)) r.2) ?_ h hRT
  intro K0 hK0
  unfold X5_takeNumber
  refine jq_aload_n Γ dX5_takeNumber_0 rfl 0 rfl (jq_at_0 at_X_2) ?_
  refine jq_iload_n Γ dX5_takeNumber_1 rfl 1 rfl ?_
  refine jq_iload_n Γ dX5_takeNumber_2 rfl 2 rfl ?_
  refine jq_cwI (jq_virt (avs := [jI p1, jI p2]) (st := []) Γ hlY rfl ml_RX5_122 rfl at_X_2 rfl rfl rfl rfl rfl dX5_takeNumber_3) (fun r σ' h => ctX5_numberWithin h) (fun v1 s2 => ?_)
  refine jq_istore_n (L' := [(3, jI v1), (0, jR 2), (1, jI p1), (2, jI p2)]) Γ dX5_takeNumber_6 rfl hnl rfl rfl ?_
  refine jq_aload_n Γ dX5_takeNumber_7 rfl 1 rfl (jq_at_0 at_X_2) ?_
  refine jq_cwV (jq_virt (avs := []) (st := []) Γ hlY rfl ml_RX5_58 rfl at_X_2 rfl rfl rfl rfl rfl dX5_takeNumber_8) (fun σ' h => ctX5_next h) (fun s3 => ?_)
  refine jq_iload_n Γ dX5_takeNumber_11 rfl 0 rfl ?_
  exact jq_ireturn Γ dX5_takeNumber_12 (hK0 _)


theorem dX5_isSign_0 : decode cX5_isSign 0 = .ok (.aload_n 0, 1) := by decide +kernel
theorem dX5_isSign_1 : decode cX5_isSign 1 = .ok (.getfield 61, 3) := by decide +kernel
theorem dX5_isSign_4 : decode cX5_isSign 4 = .ok (.iconst 3, 1) := by decide +kernel
theorem dX5_isSign_5 : decode cX5_isSign 5 = .ok (.if_icmp .ne 15, 3) := by decide +kernel
theorem dX5_isSign_8 : decode cX5_isSign 8 = .ok (.aload_n 0, 1) := by decide +kernel
theorem dX5_isSign_9 : decode cX5_isSign 9 = .ok (.getfield 103, 3) := by decide +kernel
theorem dX5_isSign_12 : decode cX5_isSign 12 = .ok (.iload_n 1, 1) := by decide +kernel
theorem dX5_isSign_13 : decode cX5_isSign 13 = .ok (.if_icmp .ne 7, 3) := by decide +kernel
theorem dX5_isSign_16 : decode cX5_isSign 16 = .ok (.iconst 1, 1) := by decide +kernel
theorem dX5_isSign_17 : decode cX5_isSign 17 = .ok (.goto 4, 3) := by decide +kernel
theorem dX5_isSign_20 : decode cX5_isSign 20 = .ok (.iconst 0, 1) := by decide +kernel
theorem dX5_isSign_21 : decode cX5_isSign 21 = .ok (.ireturn, 1) := by decide +kernel
set_option maxHeartbeats 4000000 in
set_option maxRecDepth 100000 in
theorem ctX5_isSign {p1 : Int} {σ : jq_M} {res : Int}  (h : X5_isSign p1 σ = some res) : jq_MC jq_zX yX5_isSign cX5_isSign 2 (some .boolean) 1 40 [jR 2, jI p1] σ (some (jI res)) σ := by
  refine jq_met (own := RX5) (L0 := [(0, jR 2), (1, jI p1)]) (by decide) rfl rfl rfl ?_
  intro X Γ hnl hlY hRT
  refine jq_use2 (P := fun r => jq_RT jq_zX X (some .boolean) (some (jI r)) σ) ?_ h hRT
  intro K0 hK0
  unfold X5_isSign
  refine jq_aload_n Γ dX5_isSign_0 rfl 0 rfl (jq_at_0 at_X_2) ?_
  refine jq_getI (J := 5) Γ at_X_2 fl_RX5_61 rfl rfl dX5_isSign_1 ?_
  refine jq_iconst Γ dX5_isSign_4 rfl ?_
  refine jq_icmp_ne (tgt := 20) Γ dX5_isSign_5 rfl ?_ ?_
  · refine jq_iconst Γ dX5_isSign_20 rfl ?_
    exact jq_zreturn Γ (Or.inl rfl) dX5_isSign_21 (hK0 _)
  · refine jq_aload_n Γ dX5_isSign_8 rfl 0 rfl (jq_at_0 at_X_2) ?_
    refine jq_getI (J := 8) Γ at_X_2 fl_RX5_103 rfl rfl dX5_isSign_9 ?_
    refine jq_iload_n Γ dX5_isSign_12 rfl 1 rfl ?_
    refine jq_icmp_ne (tgt := 20) Γ dX5_isSign_13 rfl ?_ ?_
    · refine jq_iconst Γ dX5_isSign_20 rfl ?_
      exact jq_zreturn Γ (Or.inl rfl) dX5_isSign_21 (hK0 _)
    · refine jq_iconst Γ dX5_isSign_16 rfl ?_
      refine jq_goto Γ (tgt := 21) dX5_isSign_17 rfl ?_
      exact jq_zreturn Γ (Or.inr rfl) dX5_isSign_21 (hK0 _)


theorem dX5_passSign_0 : decode cX5_passSign 0 = .ok (.aload_n 0, 1) := by decide +kernel
theorem dX5_passSign_1 : decode cX5_passSign 1 = .ok (.iload_n 1, 1) := by decide +kernel
theorem dX5_passSign_2 : decode cX5_passSign 2 = .ok (.invokevirtual 106, 3) := by decide +kernel
theorem dX5_passSign_5 : decode cX5_passSign 5 = .ok (.ifCond .ne 8, 3) := by decide +kernel
theorem dX5_passSign_8 : decode cX5_passSign 8 = .ok (.aload_n 0, 1) := by decide +kernel
theorem dX5_passSign_9 : decode cX5_passSign 9 = .ok (.iconst 2, 1) := by decide +kernel
theorem dX5_passSign_10 : decode cX5_passSign 10 = .ok (.invokevirtual 110, 3) := by decide +kernel
theorem dX5_passSign_13 : decode cX5_passSign 13 = .ok (.aload_n 0, 1) := by decide +kernel
theorem dX5_passSign_14 : decode cX5_passSign 14 = .ok (.invokevirtual 58, 3) := by decide +kernel
theorem dX5_passSign_17 : decode cX5_passSign 17 = .ok (.return_, 1) := by decide +kernel
set_option maxHeartbeats 4000000 in
set_option maxRecDepth 100000 in
theorem ctX5_passSign {p1 : Int} {σ : jq_M} {σ' : jq_M}  (h : X5_passSign p1 σ = some σ') : jq_MC jq_zX yX5_passSign cX5_passSign 2 none 4 105 [jR 2, jI p1] σ none σ' := by
  refine jq_met (own := RX5) (L0 := [(0, jR 2), (1, jI p1)]) (by decide) rfl rfl rfl ?_
  intro X Γ hnl hlY hRT
  refine jq_use2 (P := fun r => jq_RT jq_zX X none none r) ?_ h hRT
  intro K0 hK0
  unfold X5_passSign
  have hj13_0 : ∀ (s3 : jq_M), jq_J (X5_passSign_j13 s3) K0 (jq_V jq_zX X (jq_zN jq_zX) s3 13 [(0, jR 2)] []) := by
    intro s3
    unfold X5_passSign_j13
    refine jq_aload_n Γ dX5_passSign_13 rfl 0 rfl (jq_at_0 at_X_2) ?_
    refine jq_cwV (jq_virt (avs := []) (st := []) Γ hlY rfl ml_RX5_58 rfl at_X_2 rfl rfl rfl rfl rfl dX5_passSign_14) (fun σ' h => ctX5_next h) (fun s4 => ?_)
    exact jq_vreturn Γ dX5_passSign_17 (hK0 _)
  refine jq_aload_n Γ dX5_passSign_0 rfl 0 rfl (jq_at_0 at_X_2) ?_
  refine jq_iload_n Γ dX5_passSign_1 rfl 1 rfl ?_
  refine jq_cpZ (jq_virt (avs := [jI p1]) (st := []) Γ hlY rfl ml_RX5_106 rfl at_X_2 rfl rfl rfl rfl rfl dX5_passSign_2) rfl (fun r h => ctX5_isSign h) (fun v1 hz2 => ?_)
  refine jq_if_ne (tgt := 13) Γ dX5_passSign_5 rfl ?_ ?_
  · refine jq_sub Γ (L' := [(0, jR 2)]) [0] rfl ?_
    exact hj13_0 σ
  · refine jq_aload_n Γ dX5_passSign_8 rfl 0 rfl (jq_at_0 at_X_2) ?_
    refine jq_iconst Γ dX5_passSign_9 rfl ?_
    refine jq_cwV (jq_virt (avs := [jI 2]) (st := []) Γ hlY rfl ml_RX5_110 rfl at_X_2 rfl rfl rfl rfl rfl dX5_passSign_10) (fun σ' h => ctX5_blame h) (fun s5 => ?_)
    refine jq_sub Γ (L' := [(0, jR 2)]) [0] rfl ?_
    exact hj13_0 s5


theorem dX2_readPlaces_0 : decode cX2_readPlaces 0 = .ok (.aload_n 1, 1) := by decide +kernel
theorem dX2_readPlaces_1 : decode cX2_readPlaces 1 = .ok (.getfield 47, 3) := by decide +kernel
theorem dX2_readPlaces_4 : decode cX2_readPlaces 4 = .ok (.ifCond .eq 9, 3) := by decide +kernel
theorem dX2_readPlaces_7 : decode cX2_readPlaces 7 = .ok (.aload_n 0, 1) := by decide +kernel
theorem dX2_readPlaces_8 : decode cX2_readPlaces 8 = .ok (.iconst 5, 1) := by decide +kernel
theorem dX2_readPlaces_9 : decode cX2_readPlaces 9 = .ok (.invokevirtual 43, 3) := by decide +kernel
theorem dX2_readPlaces_12 : decode cX2_readPlaces 12 = .ok (.return_, 1) := by decide +kernel
theorem dX2_readPlaces_13 : decode cX2_readPlaces 13 = .ok (.aload_n 0, 1) := by decide +kernel
theorem dX2_readPlaces_14 : decode cX2_readPlaces 14 = .ok (.invokevirtual 50, 3) := by decide +kernel
theorem dX2_readPlaces_17 : decode cX2_readPlaces 17 = .ok (.aload_n 1, 1) := by decide +kernel
theorem dX2_readPlaces_18 : decode cX2_readPlaces 18 = .ok (.aload_n 0, 1) := by decide +kernel
theorem dX2_readPlaces_19 : decode cX2_readPlaces 19 = .ok (.iconst 3, 1) := by decide +kernel
theorem dX2_readPlaces_20 : decode cX2_readPlaces 20 = .ok (.bipush 6, 2) := by decide +kernel
theorem dX2_readPlaces_22 : decode cX2_readPlaces 22 = .ok (.invokevirtual 53, 3) := by decide +kernel
theorem dX2_readPlaces_25 : decode cX2_readPlaces 25 = .ok (.putfield 47, 3) := by decide +kernel
theorem dX2_readPlaces_28 : decode cX2_readPlaces 28 = .ok (.aload_n 0, 1) := by decide +kernel
theorem dX2_readPlaces_29 : decode cX2_readPlaces 29 = .ok (.bipush 59, 2) := by decide +kernel
theorem dX2_readPlaces_31 : decode cX2_readPlaces 31 = .ok (.invokevirtual 57, 3) := by decide +kernel
theorem dX2_readPlaces_34 : decode cX2_readPlaces 34 = .ok (.return_, 1) := by decide +kernel
set_option maxHeartbeats 4000000 in
set_option maxRecDepth 100000 in
theorem ctX2_readPlaces {p1 : Int} {σ : jq_M} {σ' : jq_M} (hp1 : jq_com p1) (h : X2_readPlaces p1 σ = some σ') : jq_MC jq_zX yX2_readPlaces cX2_readPlaces 2 none 5 128 [jR 2, jR p1] σ none σ' := by
  refine jq_met (own := RX2) (L0 := [(0, jR 2), (1, jR p1)]) (by decide) rfl rfl rfl ?_
  intro X Γ hnl hlY hRT
  refine jq_use2 (P := fun r => jq_RT jq_zX X none none r) ?_ h hRT
  intro K0 hK0
  unfold X2_readPlaces
  refine jq_aload_n Γ dX2_readPlaces_0 rfl 1 rfl (jq_at_0 (at_com hp1)) ?_
  refine jq_getI (J := 0) Γ (at_com hp1) fl_RX2_47 rfl rfl dX2_readPlaces_1 ?_
  refine jq_if_eq (tgt := 13) Γ dX2_readPlaces_4 rfl ?_ ?_
  · refine jq_aload_n Γ dX2_readPlaces_13 rfl 0 rfl (jq_at_0 at_X_2) ?_
    refine jq_cwV (jq_virt (avs := []) (st := []) Γ hlY rfl ml_RX2_50 rfl at_X_2 rfl rfl rfl rfl rfl dX2_readPlaces_14) (fun σ' h => ctX5_next h) (fun s1 => ?_)
    refine jq_aload_n Γ dX2_readPlaces_17 rfl 1 rfl (jq_at_0 (at_com hp1)) ?_
    refine jq_aload_n Γ dX2_readPlaces_18 rfl 0 rfl (jq_at_0 at_X_2) ?_
    refine jq_iconst Γ dX2_readPlaces_19 rfl ?_
    refine jq_bipush Γ dX2_readPlaces_20 rfl ?_
    refine jq_cwI (jq_virt (avs := [jI 3, jI 6]) (st := [jR p1]) Γ hlY rfl ml_RX2_53 rfl at_X_2 rfl rfl rfl rfl rfl dX2_readPlaces_22) (fun r σ' h => ctX5_takeNumber h) (fun v2 s3 => ?_)
    refine jq_putI Γ (at_com hp1) fl_RX2_47 rfl rfl dX2_readPlaces_25 (fun s4 => ?_)
    refine jq_aload_n Γ dX2_readPlaces_28 rfl 0 rfl (jq_at_0 at_X_2) ?_
    refine jq_bipush Γ dX2_readPlaces_29 rfl ?_
    refine jq_cwV (jq_virt (avs := [jI 59]) (st := []) Γ hlY rfl ml_RX2_57 rfl at_X_2 rfl rfl rfl rfl rfl dX2_readPlaces_31) (fun σ' h => ctX5_passSign h) (fun s5 => ?_)
    exact jq_vreturn Γ dX2_readPlaces_34 (hK0 _)
  · refine jq_aload_n Γ dX2_readPlaces_7 rfl 0 rfl (jq_at_0 at_X_2) ?_
    refine jq_iconst Γ dX2_readPlaces_8 rfl ?_
    refine jq_cwV (jq_virt (avs := [jI 5]) (st := []) Γ hlY rfl ml_RX2_43 rfl at_X_2 rfl rfl rfl rfl rfl dX2_readPlaces_9) (fun σ' h => ctX5_blame h) (fun s6 => ?_)
    exact jq_vreturn Γ dX2_readPlaces_12 (hK0 _)


theorem dX2_readCorner_0 : decode cX2_readCorner 0 = .ok (.aload_n 1, 1) := by decide +kernel
theorem dX2_readCorner_1 : decode cX2_readCorner 1 = .ok (.getfield 47, 3) := by decide +kernel
theorem dX2_readCorner_4 : decode cX2_readCorner 4 = .ok (.ifCond .ne 9, 3) := by decide +kernel
theorem dX2_readCorner_7 : decode cX2_readCorner 7 = .ok (.aload_n 0, 1) := by decide +kernel
theorem dX2_readCorner_8 : decode cX2_readCorner 8 = .ok (.iconst 2, 1) := by decide +kernel
theorem dX2_readCorner_9 : decode cX2_readCorner 9 = .ok (.invokevirtual 43, 3) := by decide +kernel
theorem dX2_readCorner_12 : decode cX2_readCorner 12 = .ok (.return_, 1) := by decide +kernel
theorem dX2_readCorner_13 : decode cX2_readCorner 13 = .ok (.aload_n 0, 1) := by decide +kernel
theorem dX2_readCorner_14 : decode cX2_readCorner 14 = .ok (.invokevirtual 50, 3) := by decide +kernel
theorem dX2_readCorner_17 : decode cX2_readCorner 17 = .ok (.aload_n 1, 1) := by decide +kernel
theorem dX2_readCorner_18 : decode cX2_readCorner 18 = .ok (.dup, 1) := by decide +kernel
theorem dX2_readCorner_19 : decode cX2_readCorner 19 = .ok (.getfield 61, 3) := by decide +kernel
theorem dX2_readCorner_22 : decode cX2_readCorner 22 = .ok (.iconst 1, 1) := by decide +kernel
theorem dX2_readCorner_23 : decode cX2_readCorner 23 = .ok (.aload_n 0, 1) := by decide +kernel
theorem dX2_readCorner_24 : decode cX2_readCorner 24 = .ok (.iconst 0, 1) := by decide +kernel
theorem dX2_readCorner_25 : decode cX2_readCorner 25 = .ok (.aload_n 1, 1) := by decide +kernel
theorem dX2_readCorner_26 : decode cX2_readCorner 26 = .ok (.getfield 47, 3) := by decide +kernel
theorem dX2_readCorner_29 : decode cX2_readCorner 29 = .ok (.iconst 1, 1) := by decide +kernel
theorem dX2_readCorner_30 : decode cX2_readCorner 30 = .ok (.isub, 1) := by decide +kernel
theorem dX2_readCorner_31 : decode cX2_readCorner 31 = .ok (.invokevirtual 53, 3) := by decide +kernel
theorem dX2_readCorner_34 : decode cX2_readCorner 34 = .ok (.ishl, 1) := by decide +kernel
theorem dX2_readCorner_35 : decode cX2_readCorner 35 = .ok (.ior, 1) := by decide +kernel
theorem dX2_readCorner_36 : decode cX2_readCorner 36 = .ok (.putfield 61, 3) := by decide +kernel
theorem dX2_readCorner_39 : decode cX2_readCorner 39 = .ok (.aload_n 0, 1) := by decide +kernel
theorem dX2_readCorner_40 : decode cX2_readCorner 40 = .ok (.bipush 59, 2) := by decide +kernel
theorem dX2_readCorner_42 : decode cX2_readCorner 42 = .ok (.invokevirtual 57, 3) := by decide +kernel
theorem dX2_readCorner_45 : decode cX2_readCorner 45 = .ok (.return_, 1) := by decide +kernel
set_option maxHeartbeats 4000000 in
set_option maxRecDepth 100000 in
theorem ctX2_readCorner {p1 : Int} {σ : jq_M} {σ' : jq_M} (hp1 : jq_com p1) (h : X2_readCorner p1 σ = some σ') : jq_MC jq_zX yX2_readCorner cX2_readCorner 2 none 5 128 [jR 2, jR p1] σ none σ' := by
  refine jq_met (own := RX2) (L0 := [(0, jR 2), (1, jR p1)]) (by decide) rfl rfl rfl ?_
  intro X Γ hnl hlY hRT
  refine jq_use2 (P := fun r => jq_RT jq_zX X none none r) ?_ h hRT
  intro K0 hK0
  unfold X2_readCorner
  refine jq_aload_n Γ dX2_readCorner_0 rfl 1 rfl (jq_at_0 (at_com hp1)) ?_
  refine jq_getI (J := 0) Γ (at_com hp1) fl_RX2_47 rfl rfl dX2_readCorner_1 ?_
  refine jq_if_ne (tgt := 13) Γ dX2_readCorner_4 rfl ?_ ?_
  · refine jq_aload_n Γ dX2_readCorner_13 rfl 0 rfl (jq_at_0 at_X_2) ?_
    refine jq_cwV (jq_virt (avs := []) (st := []) Γ hlY rfl ml_RX2_50 rfl at_X_2 rfl rfl rfl rfl rfl dX2_readCorner_14) (fun σ' h => ctX5_next h) (fun s1 => ?_)
    refine jq_aload_n Γ dX2_readCorner_17 rfl 1 rfl (jq_at_0 (at_com hp1)) ?_
    refine jq_dup Γ dX2_readCorner_18 rfl ?_
    refine jq_getI (J := 1) Γ (at_com hp1) fl_RX2_61 rfl rfl dX2_readCorner_19 ?_
    refine jq_iconst Γ dX2_readCorner_22 rfl ?_
    refine jq_aload_n Γ dX2_readCorner_23 rfl 0 rfl (jq_at_0 at_X_2) ?_
    refine jq_iconst Γ dX2_readCorner_24 rfl ?_
    refine jq_aload_n Γ dX2_readCorner_25 rfl 1 rfl (jq_at_0 (at_com hp1)) ?_
    refine jq_getI (J := 0) Γ (at_com hp1) fl_RX2_47 rfl rfl dX2_readCorner_26 ?_
    refine jq_iconst Γ dX2_readCorner_29 rfl ?_
    refine jq_isub Γ dX2_readCorner_30 ?_
    refine jq_cwI (jq_virt (avs := [jI 0, jI (jq_w ((s1 p1 0) - 1))]) (st := [jI 1, jI (s1 p1 1), jR p1]) Γ hlY rfl ml_RX2_53 rfl at_X_2 rfl rfl rfl rfl rfl dX2_readCorner_31) (fun r σ' h => ctX5_takeNumber h) (fun v2 s3 => ?_)
    refine jq_ishl Γ dX2_readCorner_34 ?_
    refine jq_ior Γ dX2_readCorner_35 ?_
    refine jq_putI Γ (at_com hp1) fl_RX2_61 rfl rfl dX2_readCorner_36 (fun s4 => ?_)
    refine jq_aload_n Γ dX2_readCorner_39 rfl 0 rfl (jq_at_0 at_X_2) ?_
    refine jq_bipush Γ dX2_readCorner_40 rfl ?_
    refine jq_cwV (jq_virt (avs := [jI 59]) (st := []) Γ hlY rfl ml_RX2_57 rfl at_X_2 rfl rfl rfl rfl rfl dX2_readCorner_42) (fun σ' h => ctX5_passSign h) (fun s5 => ?_)
    exact jq_vreturn Γ dX2_readCorner_45 (hK0 _)
  · refine jq_aload_n Γ dX2_readCorner_7 rfl 0 rfl (jq_at_0 at_X_2) ?_
    refine jq_iconst Γ dX2_readCorner_8 rfl ?_
    refine jq_cwV (jq_virt (avs := [jI 2]) (st := []) Γ hlY rfl ml_RX2_43 rfl at_X_2 rfl rfl rfl rfl rfl dX2_readCorner_9) (fun σ' h => ctX5_blame h) (fun s6 => ?_)
    exact jq_vreturn Γ dX2_readCorner_12 (hK0 _)


theorem dX1_partyNamed_0 : decode cX1_partyNamed 0 = .ok (.iconst 0, 1) := by decide +kernel
theorem dX1_partyNamed_1 : decode cX1_partyNamed 1 = .ok (.istore_n 3, 1) := by decide +kernel
theorem dX1_partyNamed_2 : decode cX1_partyNamed 2 = .ok (.iload_n 3, 1) := by decide +kernel
theorem dX1_partyNamed_3 : decode cX1_partyNamed 3 = .ok (.aload_n 0, 1) := by decide +kernel
theorem dX1_partyNamed_4 : decode cX1_partyNamed 4 = .ok (.getfield 66, 3) := by decide +kernel
theorem dX1_partyNamed_7 : decode cX1_partyNamed 7 = .ok (.if_icmp .ge 31, 3) := by decide +kernel
theorem dX1_partyNamed_10 : decode cX1_partyNamed 10 = .ok (.iload_n 3, 1) := by decide +kernel
theorem dX1_partyNamed_11 : decode cX1_partyNamed 11 = .ok (.aload_n 0, 1) := by decide +kernel
theorem dX1_partyNamed_12 : decode cX1_partyNamed 12 = .ok (.getfield 9, 3) := by decide +kernel
theorem dX1_partyNamed_15 : decode cX1_partyNamed 15 = .ok (.arraylength, 1) := by decide +kernel
theorem dX1_partyNamed_16 : decode cX1_partyNamed 16 = .ok (.if_icmp .ge 22, 3) := by decide +kernel
theorem dX1_partyNamed_19 : decode cX1_partyNamed 19 = .ok (.aload_n 0, 1) := by decide +kernel
theorem dX1_partyNamed_20 : decode cX1_partyNamed 20 = .ok (.getfield 9, 3) := by decide +kernel
theorem dX1_partyNamed_23 : decode cX1_partyNamed 23 = .ok (.iload_n 3, 1) := by decide +kernel
theorem dX1_partyNamed_24 : decode cX1_partyNamed 24 = .ok (.laload, 1) := by decide +kernel
theorem dX1_partyNamed_25 : decode cX1_partyNamed 25 = .ok (.lload_n 1, 1) := by decide +kernel
theorem dX1_partyNamed_26 : decode cX1_partyNamed 26 = .ok (.lcmp, 1) := by decide +kernel
theorem dX1_partyNamed_27 : decode cX1_partyNamed 27 = .ok (.ifCond .ne 5, 3) := by decide +kernel
theorem dX1_partyNamed_30 : decode cX1_partyNamed 30 = .ok (.iload_n 3, 1) := by decide +kernel
theorem dX1_partyNamed_31 : decode cX1_partyNamed 31 = .ok (.ireturn, 1) := by decide +kernel
theorem dX1_partyNamed_32 : decode cX1_partyNamed 32 = .ok (.iinc 3 1, 3) := by decide +kernel
theorem dX1_partyNamed_35 : decode cX1_partyNamed 35 = .ok (.goto (-33), 3) := by decide +kernel
theorem dX1_partyNamed_38 : decode cX1_partyNamed 38 = .ok (.iconst (-1), 1) := by decide +kernel
theorem dX1_partyNamed_39 : decode cX1_partyNamed 39 = .ok (.ireturn, 1) := by decide +kernel
set_option maxHeartbeats 4000000 in
set_option maxRecDepth 100000 in
theorem ctX1_partyNamed {o : Int} {p1 : Int} {σ : jq_M} {res : Int} (ho : jq_com o) (h : X1_partyNamed o p1 σ = some res) : jq_MC jq_zX yX1_partyNamed cX1_partyNamed 4 (some .int) 1 40 [jR o, jL p1] σ (some (jI res)) σ := by
  refine jq_met (own := RX1) (L0 := [(0, jR o), (1, jL p1)]) (by decide) rfl rfl rfl ?_
  intro X Γ hnl hlY hRT
  refine jq_use2 (P := fun r => jq_RT jq_zX X (some .int) (some (jI r)) σ) ?_ h hRT
  intro K0 hK0
  unfold X1_partyNamed
  refine jq_iconst Γ dX1_partyNamed_0 rfl ?_
  refine jq_istore_n (L' := [(3, jI 0), (0, jR o), (1, jL p1)]) Γ dX1_partyNamed_1 rfl hnl rfl rfl ?_
  refine jq_sub Γ (L' := [(0, jR o), (1, jL p1), (3, jI 0)]) [1, 2, 0] rfl ?_
  refine jq_loop2 (C := fun (t1 : Int) => jq_V jq_zX X (jq_zN jq_zX) σ 2 [(0, jR o), (1, jL p1), (3, jI t1)] []) (KX := Sum.elim (fun (e4 : Int) => jq_V jq_zX X (jq_zN jq_zX) σ 30 [(3, jI e4)] []) (fun (e5 : Unit) => jq_V jq_zX X (jq_zN jq_zX) σ 38 [] [])) ?_ ?_ 0
  · intro K2_t1 hCt1 hXt1 t1
    unfold X1_partyNamed_b2
    refine jq_iload_n Γ dX1_partyNamed_2 rfl 2 rfl ?_
    refine jq_aload_n Γ dX1_partyNamed_3 rfl 0 rfl (jq_at_0 (at_com ho)) ?_
    refine jq_getI (J := 2) Γ (at_com ho) fl_RX1_66 rfl rfl dX1_partyNamed_4 ?_
    refine jq_icmp_ge (tgt := 38) Γ dX1_partyNamed_7 rfl ?_ ?_
    · refine jq_sub Γ (L' := []) [] rfl ?_
      exact jq_done (hXt1 (.inr ()))
    · refine jq_iload_n Γ dX1_partyNamed_10 rfl 2 rfl ?_
      refine jq_aload_n Γ dX1_partyNamed_11 rfl 0 rfl (jq_at_0 (at_com ho)) ?_
      refine jq_getR (v := (o + 1)) Γ hlY (at_com ho) fl_RX1_9 rfl rfl (ly_X1_partyNames ho) dX1_partyNamed_12 ?_
      refine jq_alen Γ (at_com_1 ho) rfl rfl rfl dX1_partyNamed_15 ?_
      refine jq_icmp_ge (tgt := 38) Γ dX1_partyNamed_16 rfl ?_ ?_
      · refine jq_sub Γ (L' := []) [] rfl ?_
        exact jq_done (hXt1 (.inr ()))
      · refine jq_aload_n Γ dX1_partyNamed_19 rfl 0 rfl (jq_at_0 (at_com ho)) ?_
        refine jq_getR (v := (o + 1)) Γ hlY (at_com ho) fl_RX1_9 rfl rfl (ly_X1_partyNames ho) dX1_partyNamed_20 ?_
        refine jq_iload_n Γ dX1_partyNamed_23 rfl 2 rfl ?_
        refine jq_lald Γ (at_com_1 ho) rfl dX1_partyNamed_24 (fun v2 => ?_)
        refine jq_lload_n Γ dX1_partyNamed_25 rfl 1 rfl ?_
        refine jq_lcmp Γ dX1_partyNamed_26 ?_
        refine jq_if_ne (tgt := 32) Γ dX1_partyNamed_27 rfl ?_ ?_
        · refine jq_iincN (L' := fun v3 => [(3, jI v3), (0, jR o), (1, jL p1)]) Γ dX1_partyNamed_32 2 rfl hnl rfl (fun _ => rfl) (fun v3 => ?_)
          refine jq_goto Γ (tgt := 2) dX1_partyNamed_35 rfl ?_
          refine jq_sub Γ (L' := [(0, jR o), (1, jL p1), (3, jI v3)]) [1, 2, 0] rfl ?_
          exact jq_done (hCt1 v3)
        · refine jq_sub Γ (L' := [(3, jI t1)]) [2] rfl ?_
          exact jq_done (hXt1 (.inl t1))
  · refine jq_elim ?_ ?_
    · intro e4
      refine jq_iload_n Γ dX1_partyNamed_30 rfl 0 rfl ?_
      exact jq_ireturn Γ dX1_partyNamed_31 (hK0 _)
    · intro e5
      refine jq_iconst Γ dX1_partyNamed_38 rfl ?_
      exact jq_ireturn Γ dX1_partyNamed_39 (hK0 _)


theorem dX1_articleNamed_0 : decode cX1_articleNamed 0 = .ok (.iconst 0, 1) := by decide +kernel
theorem dX1_articleNamed_1 : decode cX1_articleNamed 1 = .ok (.istore_n 3, 1) := by decide +kernel
theorem dX1_articleNamed_2 : decode cX1_articleNamed 2 = .ok (.iload_n 3, 1) := by decide +kernel
theorem dX1_articleNamed_3 : decode cX1_articleNamed 3 = .ok (.aload_n 0, 1) := by decide +kernel
theorem dX1_articleNamed_4 : decode cX1_articleNamed 4 = .ok (.getfield 72, 3) := by decide +kernel
theorem dX1_articleNamed_7 : decode cX1_articleNamed 7 = .ok (.if_icmp .ge 31, 3) := by decide +kernel
theorem dX1_articleNamed_10 : decode cX1_articleNamed 10 = .ok (.iload_n 3, 1) := by decide +kernel
theorem dX1_articleNamed_11 : decode cX1_articleNamed 11 = .ok (.aload_n 0, 1) := by decide +kernel
theorem dX1_articleNamed_12 : decode cX1_articleNamed 12 = .ok (.getfield 34, 3) := by decide +kernel
theorem dX1_articleNamed_15 : decode cX1_articleNamed 15 = .ok (.arraylength, 1) := by decide +kernel
theorem dX1_articleNamed_16 : decode cX1_articleNamed 16 = .ok (.if_icmp .ge 22, 3) := by decide +kernel
theorem dX1_articleNamed_19 : decode cX1_articleNamed 19 = .ok (.aload_n 0, 1) := by decide +kernel
theorem dX1_articleNamed_20 : decode cX1_articleNamed 20 = .ok (.getfield 34, 3) := by decide +kernel
theorem dX1_articleNamed_23 : decode cX1_articleNamed 23 = .ok (.iload_n 3, 1) := by decide +kernel
theorem dX1_articleNamed_24 : decode cX1_articleNamed 24 = .ok (.laload, 1) := by decide +kernel
theorem dX1_articleNamed_25 : decode cX1_articleNamed 25 = .ok (.lload_n 1, 1) := by decide +kernel
theorem dX1_articleNamed_26 : decode cX1_articleNamed 26 = .ok (.lcmp, 1) := by decide +kernel
theorem dX1_articleNamed_27 : decode cX1_articleNamed 27 = .ok (.ifCond .ne 5, 3) := by decide +kernel
theorem dX1_articleNamed_30 : decode cX1_articleNamed 30 = .ok (.iload_n 3, 1) := by decide +kernel
theorem dX1_articleNamed_31 : decode cX1_articleNamed 31 = .ok (.ireturn, 1) := by decide +kernel
theorem dX1_articleNamed_32 : decode cX1_articleNamed 32 = .ok (.iinc 3 1, 3) := by decide +kernel
theorem dX1_articleNamed_35 : decode cX1_articleNamed 35 = .ok (.goto (-33), 3) := by decide +kernel
theorem dX1_articleNamed_38 : decode cX1_articleNamed 38 = .ok (.iconst (-1), 1) := by decide +kernel
theorem dX1_articleNamed_39 : decode cX1_articleNamed 39 = .ok (.ireturn, 1) := by decide +kernel
set_option maxHeartbeats 4000000 in
set_option maxRecDepth 100000 in
theorem ctX1_articleNamed {o : Int} {p1 : Int} {σ : jq_M} {res : Int} (ho : jq_com o) (h : X1_articleNamed o p1 σ = some res) : jq_MC jq_zX yX1_articleNamed cX1_articleNamed 4 (some .int) 1 40 [jR o, jL p1] σ (some (jI res)) σ := by
  refine jq_met (own := RX1) (L0 := [(0, jR o), (1, jL p1)]) (by decide) rfl rfl rfl ?_
  intro X Γ hnl hlY hRT
  refine jq_use2 (P := fun r => jq_RT jq_zX X (some .int) (some (jI r)) σ) ?_ h hRT
  intro K0 hK0
  unfold X1_articleNamed
  refine jq_iconst Γ dX1_articleNamed_0 rfl ?_
  refine jq_istore_n (L' := [(3, jI 0), (0, jR o), (1, jL p1)]) Γ dX1_articleNamed_1 rfl hnl rfl rfl ?_
  refine jq_sub Γ (L' := [(0, jR o), (1, jL p1), (3, jI 0)]) [1, 2, 0] rfl ?_
  refine jq_loop2 (C := fun (t1 : Int) => jq_V jq_zX X (jq_zN jq_zX) σ 2 [(0, jR o), (1, jL p1), (3, jI t1)] []) (KX := Sum.elim (fun (e4 : Int) => jq_V jq_zX X (jq_zN jq_zX) σ 30 [(3, jI e4)] []) (fun (e5 : Unit) => jq_V jq_zX X (jq_zN jq_zX) σ 38 [] [])) ?_ ?_ 0
  · intro K2_t1 hCt1 hXt1 t1
    unfold X1_articleNamed_b2
    refine jq_iload_n Γ dX1_articleNamed_2 rfl 2 rfl ?_
    refine jq_aload_n Γ dX1_articleNamed_3 rfl 0 rfl (jq_at_0 (at_com ho)) ?_
    refine jq_getI (J := 4) Γ (at_com ho) fl_RX1_72 rfl rfl dX1_articleNamed_4 ?_
    refine jq_icmp_ge (tgt := 38) Γ dX1_articleNamed_7 rfl ?_ ?_
    · refine jq_sub Γ (L' := []) [] rfl ?_
      exact jq_done (hXt1 (.inr ()))
    · refine jq_iload_n Γ dX1_articleNamed_10 rfl 2 rfl ?_
      refine jq_aload_n Γ dX1_articleNamed_11 rfl 0 rfl (jq_at_0 (at_com ho)) ?_
      refine jq_getR (v := (o + 8)) Γ hlY (at_com ho) fl_RX1_34 rfl rfl (ly_X1_articleNames ho) dX1_articleNamed_12 ?_
      refine jq_alen Γ (at_com_8 ho) rfl rfl rfl dX1_articleNamed_15 ?_
      refine jq_icmp_ge (tgt := 38) Γ dX1_articleNamed_16 rfl ?_ ?_
      · refine jq_sub Γ (L' := []) [] rfl ?_
        exact jq_done (hXt1 (.inr ()))
      · refine jq_aload_n Γ dX1_articleNamed_19 rfl 0 rfl (jq_at_0 (at_com ho)) ?_
        refine jq_getR (v := (o + 8)) Γ hlY (at_com ho) fl_RX1_34 rfl rfl (ly_X1_articleNames ho) dX1_articleNamed_20 ?_
        refine jq_iload_n Γ dX1_articleNamed_23 rfl 2 rfl ?_
        refine jq_lald Γ (at_com_8 ho) rfl dX1_articleNamed_24 (fun v2 => ?_)
        refine jq_lload_n Γ dX1_articleNamed_25 rfl 1 rfl ?_
        refine jq_lcmp Γ dX1_articleNamed_26 ?_
        refine jq_if_ne (tgt := 32) Γ dX1_articleNamed_27 rfl ?_ ?_
        · refine jq_iincN (L' := fun v3 => [(3, jI v3), (0, jR o), (1, jL p1)]) Γ dX1_articleNamed_32 2 rfl hnl rfl (fun _ => rfl) (fun v3 => ?_)
          refine jq_goto Γ (tgt := 2) dX1_articleNamed_35 rfl ?_
          refine jq_sub Γ (L' := [(0, jR o), (1, jL p1), (3, jI v3)]) [1, 2, 0] rfl ?_
          exact jq_done (hCt1 v3)
        · refine jq_sub Γ (L' := [(3, jI t1)]) [2] rfl ?_
          exact jq_done (hXt1 (.inl t1))
  · refine jq_elim ?_ ?_
    · intro e4
      refine jq_iload_n Γ dX1_articleNamed_30 rfl 0 rfl ?_
      exact jq_ireturn Γ dX1_articleNamed_31 (hK0 _)
    · intro e5
      refine jq_iconst Γ dX1_articleNamed_38 rfl ?_
      exact jq_ireturn Γ dX1_articleNamed_39 (hK0 _)


theorem dX5_takeNewName_0 : decode cX5_takeNewName 0 = .ok (.aload_n 0, 1) := by decide +kernel
theorem dX5_takeNewName_1 : decode cX5_takeNewName 1 = .ok (.getfield 77, 3) := by decide +kernel
theorem dX5_takeNewName_4 : decode cX5_takeNewName 4 = .ok (.lstore_n 2, 1) := by decide +kernel
theorem dX5_takeNewName_5 : decode cX5_takeNewName 5 = .ok (.aload_n 0, 1) := by decide +kernel
theorem dX5_takeNewName_6 : decode cX5_takeNewName 6 = .ok (.getfield 81, 3) := by decide +kernel
theorem dX5_takeNewName_9 : decode cX5_takeNewName 9 = .ok (.ifCond .ne 11, 3) := by decide +kernel
theorem dX5_takeNewName_12 : decode cX5_takeNewName 12 = .ok (.aload_n 0, 1) := by decide +kernel
theorem dX5_takeNewName_13 : decode cX5_takeNewName 13 = .ok (.iconst 2, 1) := by decide +kernel
theorem dX5_takeNewName_14 : decode cX5_takeNewName 14 = .ok (.invokevirtual 110, 3) := by decide +kernel
theorem dX5_takeNewName_17 : decode cX5_takeNewName 17 = .ok (.goto 32, 3) := by decide +kernel
theorem dX5_takeNewName_20 : decode cX5_takeNewName 20 = .ok (.aload_n 1, 1) := by decide +kernel
theorem dX5_takeNewName_21 : decode cX5_takeNewName 21 = .ok (.aload_n 0, 1) := by decide +kernel
theorem dX5_takeNewName_22 : decode cX5_takeNewName 22 = .ok (.getfield 77, 3) := by decide +kernel
theorem dX5_takeNewName_25 : decode cX5_takeNewName 25 = .ok (.invokevirtual 125, 3) := by decide +kernel
theorem dX5_takeNewName_28 : decode cX5_takeNewName 28 = .ok (.iconst (-1), 1) := by decide +kernel
theorem dX5_takeNewName_29 : decode cX5_takeNewName 29 = .ok (.if_icmp .ne 15, 3) := by decide +kernel
theorem dX5_takeNewName_32 : decode cX5_takeNewName 32 = .ok (.aload_n 1, 1) := by decide +kernel
theorem dX5_takeNewName_33 : decode cX5_takeNewName 33 = .ok (.aload_n 0, 1) := by decide +kernel
theorem dX5_takeNewName_34 : decode cX5_takeNewName 34 = .ok (.getfield 77, 3) := by decide +kernel
theorem dX5_takeNewName_37 : decode cX5_takeNewName 37 = .ok (.invokevirtual 138, 3) := by decide +kernel
theorem dX5_takeNewName_40 : decode cX5_takeNewName 40 = .ok (.iconst (-1), 1) := by decide +kernel
theorem dX5_takeNewName_41 : decode cX5_takeNewName 41 = .ok (.if_icmp .eq 8, 3) := by decide +kernel
theorem dX5_takeNewName_44 : decode cX5_takeNewName 44 = .ok (.aload_n 0, 1) := by decide +kernel
theorem dX5_takeNewName_45 : decode cX5_takeNewName 45 = .ok (.iconst 3, 1) := by decide +kernel
theorem dX5_takeNewName_46 : decode cX5_takeNewName 46 = .ok (.invokevirtual 110, 3) := by decide +kernel
theorem dX5_takeNewName_49 : decode cX5_takeNewName 49 = .ok (.aload_n 0, 1) := by decide +kernel
theorem dX5_takeNewName_50 : decode cX5_takeNewName 50 = .ok (.invokevirtual 58, 3) := by decide +kernel
theorem dX5_takeNewName_53 : decode cX5_takeNewName 53 = .ok (.lload_n 2, 1) := by decide +kernel
theorem dX5_takeNewName_54 : decode cX5_takeNewName 54 = .ok (.lreturn, 1) := by decide +kernel
set_option maxHeartbeats 4000000 in
set_option maxRecDepth 100000 in
theorem ctX5_takeNewName {p1 : Int} {σ : jq_M} {res : Int} {σ' : jq_M} (hp1 : jq_com p1) (h : X5_takeNewName p1 σ = some (res, σ')) : jq_MC jq_zX yX5_takeNewName cX5_takeNewName 4 (some .long) 4 105 [jR 2, jR p1] σ (some (jL res)) σ' := by
  refine jq_met (own := RX5) (L0 := [(0, jR 2), (1, jR p1)]) (by decide) rfl rfl rfl ?_
  intro X Γ hnl hlY hRT
  refine jq_use2 (P := fun r => jq_RT jq_zX X (some .long) (some (jL r.1)) r.2) ?_ h hRT
  intro K0 hK0
  unfold X5_takeNewName
  have hj49_0 : ∀ (j8 : Int) (s9 : jq_M), jq_J (X5_takeNewName_j49 j8 s9) K0 (jq_V jq_zX X (jq_zN jq_zX) s9 49 [(0, jR 2), (2, jL j8)] []) := by
    intro j8 s9
    unfold X5_takeNewName_j49
    refine jq_aload_n Γ dX5_takeNewName_49 rfl 0 rfl (jq_at_0 at_X_2) ?_
    refine jq_cwV (jq_virt (avs := []) (st := []) Γ hlY rfl ml_RX5_58 rfl at_X_2 rfl rfl rfl rfl rfl dX5_takeNewName_50) (fun σ' h => ctX5_next h) (fun s10 => ?_)
    refine jq_lload_n Γ dX5_takeNewName_53 rfl 1 rfl ?_
    exact jq_lreturn Γ dX5_takeNewName_54 (hK0 _)
  have hj44_0 : ∀ (j5 : Int) (s6 : jq_M), jq_J (X5_takeNewName_j44 j5 s6) K0 (jq_V jq_zX X (jq_zN jq_zX) s6 44 [(0, jR 2), (2, jL j5)] []) := by
    intro j5 s6
    unfold X5_takeNewName_j44
    refine jq_aload_n Γ dX5_takeNewName_44 rfl 0 rfl (jq_at_0 at_X_2) ?_
    refine jq_iconst Γ dX5_takeNewName_45 rfl ?_
    refine jq_cwV (jq_virt (avs := [jI 3]) (st := []) Γ hlY rfl ml_RX5_110 rfl at_X_2 rfl rfl rfl rfl rfl dX5_takeNewName_46) (fun σ' h => ctX5_blame h) (fun s7 => ?_)
    exact hj49_0 j5 s7
  refine jq_aload_n Γ dX5_takeNewName_0 rfl 0 rfl (jq_at_0 at_X_2) ?_
  refine jq_getL (J := 9) Γ at_X_2 fl_RX5_77 rfl rfl dX5_takeNewName_1 ?_
  refine jq_nmL (fun v1 => ?_)
  refine jq_lstore_n (L' := [(2, jL v1), (0, jR 2), (1, jR p1)]) Γ dX5_takeNewName_4 rfl hnl rfl rfl ?_
  refine jq_aload_n Γ dX5_takeNewName_5 rfl 1 rfl (jq_at_0 at_X_2) ?_
  refine jq_getZ (J := 10) Γ at_X_2 fl_RX5_81 rfl rfl dX5_takeNewName_6 (fun v2 hz3 => ?_)
  refine jq_if_ne (tgt := 20) Γ dX5_takeNewName_9 rfl ?_ ?_
  · refine jq_aload_n Γ dX5_takeNewName_20 rfl 2 rfl (jq_at_0 (at_com hp1)) ?_
    refine jq_aload_n Γ dX5_takeNewName_21 rfl 1 rfl (jq_at_0 at_X_2) ?_
    refine jq_getL (J := 9) Γ at_X_2 fl_RX5_77 rfl rfl dX5_takeNewName_22 ?_
    refine jq_cpI (jq_virt (avs := [jL (σ 2 9)]) (st := []) Γ hlY rfl ml_RX5_125 rfl (at_com hp1) rfl rfl rfl rfl rfl dX5_takeNewName_25) (fun r h => ctX1_partyNamed hp1 h) (fun v4 => ?_)
    refine jq_iconst Γ dX5_takeNewName_28 rfl ?_
    refine jq_icmp_ne (tgt := 44) Γ dX5_takeNewName_29 rfl ?_ ?_
    · refine jq_sub Γ (L' := [(0, jR 2), (2, jL v1)]) [1, 0] rfl ?_
      exact hj44_0 v1 σ
    · refine jq_aload_n Γ dX5_takeNewName_32 rfl 2 rfl (jq_at_0 (at_com hp1)) ?_
      refine jq_aload_n Γ dX5_takeNewName_33 rfl 1 rfl (jq_at_0 at_X_2) ?_
      refine jq_getL (J := 9) Γ at_X_2 fl_RX5_77 rfl rfl dX5_takeNewName_34 ?_
      refine jq_cpI (jq_virt (avs := [jL (σ 2 9)]) (st := []) Γ hlY rfl ml_RX5_138 rfl (at_com hp1) rfl rfl rfl rfl rfl dX5_takeNewName_37) (fun r h => ctX1_articleNamed hp1 h) (fun v11 => ?_)
      refine jq_iconst Γ dX5_takeNewName_40 rfl ?_
      refine jq_icmp_eq (tgt := 49) Γ dX5_takeNewName_41 rfl ?_ ?_
      · refine jq_sub Γ (L' := [(0, jR 2), (2, jL v1)]) [1, 0] rfl ?_
        exact hj49_0 v1 σ
      · refine jq_sub Γ (L' := [(0, jR 2), (2, jL v1)]) [1, 0] rfl ?_
        exact hj44_0 v1 σ
  · refine jq_aload_n Γ dX5_takeNewName_12 rfl 1 rfl (jq_at_0 at_X_2) ?_
    refine jq_iconst Γ dX5_takeNewName_13 rfl ?_
    refine jq_cwV (jq_virt (avs := [jI 2]) (st := []) Γ hlY rfl ml_RX5_110 rfl at_X_2 rfl rfl rfl rfl rfl dX5_takeNewName_14) (fun σ' h => ctX5_blame h) (fun s12 => ?_)
    refine jq_goto Γ (tgt := 49) dX5_takeNewName_17 rfl ?_
    refine jq_sub Γ (L' := [(0, jR 2), (2, jL v1)]) [1, 0] rfl ?_
    exact hj49_0 v1 s12


theorem dX1_sitterAt_0 : decode cX1_sitterAt 0 = .ok (.iconst 0, 1) := by decide +kernel
theorem dX1_sitterAt_1 : decode cX1_sitterAt 1 = .ok (.istore_n 3, 1) := by decide +kernel
theorem dX1_sitterAt_2 : decode cX1_sitterAt 2 = .ok (.iload_n 3, 1) := by decide +kernel
theorem dX1_sitterAt_3 : decode cX1_sitterAt 3 = .ok (.aload_n 0, 1) := by decide +kernel
theorem dX1_sitterAt_4 : decode cX1_sitterAt 4 = .ok (.getfield 66, 3) := by decide +kernel
theorem dX1_sitterAt_7 : decode cX1_sitterAt 7 = .ok (.if_icmp .ge 24, 3) := by decide +kernel
theorem dX1_sitterAt_10 : decode cX1_sitterAt 10 = .ok (.iload_n 3, 1) := by decide +kernel
theorem dX1_sitterAt_11 : decode cX1_sitterAt 11 = .ok (.aload_n 2, 1) := by decide +kernel
theorem dX1_sitterAt_12 : decode cX1_sitterAt 12 = .ok (.arraylength, 1) := by decide +kernel
theorem dX1_sitterAt_13 : decode cX1_sitterAt 13 = .ok (.if_icmp .ge 18, 3) := by decide +kernel
theorem dX1_sitterAt_16 : decode cX1_sitterAt 16 = .ok (.aload_n 2, 1) := by decide +kernel
theorem dX1_sitterAt_17 : decode cX1_sitterAt 17 = .ok (.iload_n 3, 1) := by decide +kernel
theorem dX1_sitterAt_18 : decode cX1_sitterAt 18 = .ok (.iaload, 1) := by decide +kernel
theorem dX1_sitterAt_19 : decode cX1_sitterAt 19 = .ok (.iload_n 1, 1) := by decide +kernel
theorem dX1_sitterAt_20 : decode cX1_sitterAt 20 = .ok (.if_icmp .ne 5, 3) := by decide +kernel
theorem dX1_sitterAt_23 : decode cX1_sitterAt 23 = .ok (.iload_n 3, 1) := by decide +kernel
theorem dX1_sitterAt_24 : decode cX1_sitterAt 24 = .ok (.ireturn, 1) := by decide +kernel
theorem dX1_sitterAt_25 : decode cX1_sitterAt 25 = .ok (.iinc 3 1, 3) := by decide +kernel
theorem dX1_sitterAt_28 : decode cX1_sitterAt 28 = .ok (.goto (-26), 3) := by decide +kernel
theorem dX1_sitterAt_31 : decode cX1_sitterAt 31 = .ok (.iconst (-1), 1) := by decide +kernel
theorem dX1_sitterAt_32 : decode cX1_sitterAt 32 = .ok (.ireturn, 1) := by decide +kernel
set_option maxHeartbeats 4000000 in
set_option maxRecDepth 100000 in
theorem ctX1_sitterAt {o : Int} {p1 : Int} {p2 : Int} {σ : jq_M} {res : Int} (ho : jq_com o) (hp2 : jq_row p2) (h : X1_sitterAt o p1 p2 σ = some res) : jq_MC jq_zX yX1_sitterAt cX1_sitterAt 4 (some .int) 1 40 [jR o, jI p1, jR p2] σ (some (jI res)) σ := by
  refine jq_met (own := RX1) (L0 := [(0, jR o), (1, jI p1), (2, jR p2)]) (by decide) rfl rfl rfl ?_
  intro X Γ hnl hlY hRT
  refine jq_use2 (P := fun r => jq_RT jq_zX X (some .int) (some (jI r)) σ) ?_ h hRT
  intro K0 hK0
  unfold X1_sitterAt
  refine jq_iconst Γ dX1_sitterAt_0 rfl ?_
  refine jq_istore_n (L' := [(3, jI 0), (0, jR o), (1, jI p1), (2, jR p2)]) Γ dX1_sitterAt_1 rfl hnl rfl rfl ?_
  refine jq_sub Γ (L' := [(0, jR o), (1, jI p1), (2, jR p2), (3, jI 0)]) [1, 2, 3, 0] rfl ?_
  refine jq_loop2 (C := fun (t1 : Int) => jq_V jq_zX X (jq_zN jq_zX) σ 2 [(0, jR o), (1, jI p1), (2, jR p2), (3, jI t1)] []) (KX := Sum.elim (fun (e4 : Int) => jq_V jq_zX X (jq_zN jq_zX) σ 23 [(3, jI e4)] []) (fun (e5 : Unit) => jq_V jq_zX X (jq_zN jq_zX) σ 31 [] [])) ?_ ?_ 0
  · intro K2_t1 hCt1 hXt1 t1
    unfold X1_sitterAt_b2
    refine jq_iload_n Γ dX1_sitterAt_2 rfl 3 rfl ?_
    refine jq_aload_n Γ dX1_sitterAt_3 rfl 0 rfl (jq_at_0 (at_com ho)) ?_
    refine jq_getI (J := 2) Γ (at_com ho) fl_RX1_66 rfl rfl dX1_sitterAt_4 ?_
    refine jq_icmp_ge (tgt := 31) Γ dX1_sitterAt_7 rfl ?_ ?_
    · refine jq_sub Γ (L' := []) [] rfl ?_
      exact jq_done (hXt1 (.inr ()))
    · refine jq_iload_n Γ dX1_sitterAt_10 rfl 3 rfl ?_
      refine jq_aload_n Γ dX1_sitterAt_11 rfl 2 rfl (jq_at_0 (at_row hp2)) ?_
      refine jq_alen Γ (at_row hp2) rfl rfl rfl dX1_sitterAt_12 ?_
      refine jq_icmp_ge (tgt := 31) Γ dX1_sitterAt_13 rfl ?_ ?_
      · refine jq_sub Γ (L' := []) [] rfl ?_
        exact jq_done (hXt1 (.inr ()))
      · refine jq_aload_n Γ dX1_sitterAt_16 rfl 2 rfl (jq_at_0 (at_row hp2)) ?_
        refine jq_iload_n Γ dX1_sitterAt_17 rfl 3 rfl ?_
        refine jq_iald Γ (at_row hp2) rfl dX1_sitterAt_18 (fun v2 => ?_)
        refine jq_iload_n Γ dX1_sitterAt_19 rfl 1 rfl ?_
        refine jq_icmp_ne (tgt := 25) Γ dX1_sitterAt_20 rfl ?_ ?_
        · refine jq_iincN (L' := fun v3 => [(3, jI v3), (0, jR o), (1, jI p1), (2, jR p2)]) Γ dX1_sitterAt_25 3 rfl hnl rfl (fun _ => rfl) (fun v3 => ?_)
          refine jq_goto Γ (tgt := 2) dX1_sitterAt_28 rfl ?_
          refine jq_sub Γ (L' := [(0, jR o), (1, jI p1), (2, jR p2), (3, jI v3)]) [1, 2, 3, 0] rfl ?_
          exact jq_done (hCt1 v3)
        · refine jq_sub Γ (L' := [(3, jI t1)]) [3] rfl ?_
          exact jq_done (hXt1 (.inl t1))
  · refine jq_elim ?_ ?_
    · intro e4
      refine jq_iload_n Γ dX1_sitterAt_23 rfl 0 rfl ?_
      exact jq_ireturn Γ dX1_sitterAt_24 (hK0 _)
    · intro e5
      refine jq_iconst Γ dX1_sitterAt_31 rfl ?_
      exact jq_ireturn Γ dX1_sitterAt_32 (hK0 _)


theorem dX2_takeFreePlace_0 : decode cX2_takeFreePlace 0 = .ok (.aload_n 0, 1) := by decide +kernel
theorem dX2_takeFreePlace_1 : decode cX2_takeFreePlace 1 = .ok (.iconst 0, 1) := by decide +kernel
theorem dX2_takeFreePlace_2 : decode cX2_takeFreePlace 2 = .ok (.aload_n 1, 1) := by decide +kernel
theorem dX2_takeFreePlace_3 : decode cX2_takeFreePlace 3 = .ok (.getfield 47, 3) := by decide +kernel
theorem dX2_takeFreePlace_6 : decode cX2_takeFreePlace 6 = .ok (.iconst 1, 1) := by decide +kernel
theorem dX2_takeFreePlace_7 : decode cX2_takeFreePlace 7 = .ok (.isub, 1) := by decide +kernel
theorem dX2_takeFreePlace_8 : decode cX2_takeFreePlace 8 = .ok (.invokevirtual 90, 3) := by decide +kernel
theorem dX2_takeFreePlace_11 : decode cX2_takeFreePlace 11 = .ok (.istore_n 2, 1) := by decide +kernel
theorem dX2_takeFreePlace_12 : decode cX2_takeFreePlace 12 = .ok (.aload_n 1, 1) := by decide +kernel
theorem dX2_takeFreePlace_13 : decode cX2_takeFreePlace 13 = .ok (.iload_n 2, 1) := by decide +kernel
theorem dX2_takeFreePlace_14 : decode cX2_takeFreePlace 14 = .ok (.aload_n 1, 1) := by decide +kernel
theorem dX2_takeFreePlace_15 : decode cX2_takeFreePlace 15 = .ok (.getfield 83, 3) := by decide +kernel
theorem dX2_takeFreePlace_18 : decode cX2_takeFreePlace 18 = .ok (.invokevirtual 93, 3) := by decide +kernel
theorem dX2_takeFreePlace_21 : decode cX2_takeFreePlace 21 = .ok (.iconst (-1), 1) := by decide +kernel
theorem dX2_takeFreePlace_22 : decode cX2_takeFreePlace 22 = .ok (.if_icmp .eq 8, 3) := by decide +kernel
theorem dX2_takeFreePlace_25 : decode cX2_takeFreePlace 25 = .ok (.aload_n 0, 1) := by decide +kernel
theorem dX2_takeFreePlace_26 : decode cX2_takeFreePlace 26 = .ok (.iconst 5, 1) := by decide +kernel
theorem dX2_takeFreePlace_27 : decode cX2_takeFreePlace 27 = .ok (.invokevirtual 43, 3) := by decide +kernel
theorem dX2_takeFreePlace_30 : decode cX2_takeFreePlace 30 = .ok (.aload_n 0, 1) := by decide +kernel
theorem dX2_takeFreePlace_31 : decode cX2_takeFreePlace 31 = .ok (.invokevirtual 50, 3) := by decide +kernel
theorem dX2_takeFreePlace_34 : decode cX2_takeFreePlace 34 = .ok (.iload_n 2, 1) := by decide +kernel
theorem dX2_takeFreePlace_35 : decode cX2_takeFreePlace 35 = .ok (.ireturn, 1) := by decide +kernel
set_option maxHeartbeats 4000000 in
set_option maxRecDepth 100000 in
theorem ctX2_takeFreePlace {p1 : Int} {σ : jq_M} {res : Int} {σ' : jq_M} (hp1 : jq_com p1) (h : X2_takeFreePlace p1 σ = some (res, σ')) : jq_MC jq_zX yX2_takeFreePlace cX2_takeFreePlace 3 (some .int) 4 105 [jR 2, jR p1] σ (some (jI res)) σ' := by
  refine jq_met (own := RX2) (L0 := [(0, jR 2), (1, jR p1)]) (by decide) rfl rfl rfl ?_
  intro X Γ hnl hlY hRT
  refine jq_use2 (P := fun r => jq_RT jq_zX X (some .int) (some (jI r.1)) r.2) ?_ h hRT
  intro K0 hK0
  unfold X2_takeFreePlace
  have hj30_0 : ∀ (j4 : Int) (s5 : jq_M), jq_J (X2_takeFreePlace_j30 j4 s5) K0 (jq_V jq_zX X (jq_zN jq_zX) s5 30 [(0, jR 2), (2, jI j4)] []) := by
    intro j4 s5
    unfold X2_takeFreePlace_j30
    refine jq_aload_n Γ dX2_takeFreePlace_30 rfl 0 rfl (jq_at_0 at_X_2) ?_
    refine jq_cwV (jq_virt (avs := []) (st := []) Γ hlY rfl ml_RX2_50 rfl at_X_2 rfl rfl rfl rfl rfl dX2_takeFreePlace_31) (fun σ' h => ctX5_next h) (fun s6 => ?_)
    refine jq_iload_n Γ dX2_takeFreePlace_34 rfl 1 rfl ?_
    exact jq_ireturn Γ dX2_takeFreePlace_35 (hK0 _)
  refine jq_aload_n Γ dX2_takeFreePlace_0 rfl 0 rfl (jq_at_0 at_X_2) ?_
  refine jq_iconst Γ dX2_takeFreePlace_1 rfl ?_
  refine jq_aload_n Γ dX2_takeFreePlace_2 rfl 1 rfl (jq_at_0 (at_com hp1)) ?_
  refine jq_getI (J := 0) Γ (at_com hp1) fl_RX2_47 rfl rfl dX2_takeFreePlace_3 ?_
  refine jq_iconst Γ dX2_takeFreePlace_6 rfl ?_
  refine jq_isub Γ dX2_takeFreePlace_7 ?_
  refine jq_cwI (jq_virt (avs := [jI 0, jI (jq_w ((σ p1 0) - 1))]) (st := []) Γ hlY rfl ml_RX2_90 rfl at_X_2 rfl rfl rfl rfl rfl dX2_takeFreePlace_8) (fun r σ' h => ctX5_numberWithin h) (fun v1 s2 => ?_)
  refine jq_istore_n (L' := [(2, jI v1), (0, jR 2), (1, jR p1)]) Γ dX2_takeFreePlace_11 rfl hnl rfl rfl ?_
  refine jq_aload_n Γ dX2_takeFreePlace_12 rfl 2 rfl (jq_at_0 (at_com hp1)) ?_
  refine jq_iload_n Γ dX2_takeFreePlace_13 rfl 0 rfl ?_
  refine jq_aload_n Γ dX2_takeFreePlace_14 rfl 2 rfl (jq_at_0 (at_com hp1)) ?_
  refine jq_getR (v := (p1 + 3)) Γ hlY (at_com hp1) fl_RX2_83 rfl rfl (ly_X1_seats hp1) dX2_takeFreePlace_15 ?_
  refine jq_cpI (jq_virt (avs := [jI v1, jR (p1 + 3)]) (st := []) Γ hlY rfl ml_RX2_93 rfl (at_com hp1) rfl rfl rfl rfl rfl dX2_takeFreePlace_18) (fun r h => ctX1_sitterAt hp1 (row_com hp1) h) (fun v3 => ?_)
  refine jq_iconst Γ dX2_takeFreePlace_21 rfl ?_
  refine jq_icmp_eq (tgt := 30) Γ dX2_takeFreePlace_22 rfl ?_ ?_
  · refine jq_sub Γ (L' := [(0, jR 2), (2, jI v1)]) [1, 0] rfl ?_
    exact hj30_0 v1 s2
  · refine jq_aload_n Γ dX2_takeFreePlace_25 rfl 1 rfl (jq_at_0 at_X_2) ?_
    refine jq_iconst Γ dX2_takeFreePlace_26 rfl ?_
    refine jq_cwV (jq_virt (avs := [jI 5]) (st := []) Γ hlY rfl ml_RX2_43 rfl at_X_2 rfl rfl rfl rfl rfl dX2_takeFreePlace_27) (fun σ' h => ctX5_blame h) (fun s7 => ?_)
    refine jq_sub Γ (L' := [(0, jR 2), (2, jI v1)]) [1, 0] rfl ?_
    exact hj30_0 v1 s7


theorem dX2_readParty_0 : decode cX2_readParty 0 = .ok (.aload_n 1, 1) := by decide +kernel
theorem dX2_readParty_1 : decode cX2_readParty 1 = .ok (.getfield 47, 3) := by decide +kernel
theorem dX2_readParty_4 : decode cX2_readParty 4 = .ok (.ifCond .ne 9, 3) := by decide +kernel
theorem dX2_readParty_7 : decode cX2_readParty 7 = .ok (.aload_n 0, 1) := by decide +kernel
theorem dX2_readParty_8 : decode cX2_readParty 8 = .ok (.iconst 2, 1) := by decide +kernel
theorem dX2_readParty_9 : decode cX2_readParty 9 = .ok (.invokevirtual 43, 3) := by decide +kernel
theorem dX2_readParty_12 : decode cX2_readParty 12 = .ok (.return_, 1) := by decide +kernel
theorem dX2_readParty_13 : decode cX2_readParty 13 = .ok (.aload_n 1, 1) := by decide +kernel
theorem dX2_readParty_14 : decode cX2_readParty 14 = .ok (.getfield 64, 3) := by decide +kernel
theorem dX2_readParty_17 : decode cX2_readParty 17 = .ok (.istore_n 2, 1) := by decide +kernel
theorem dX2_readParty_18 : decode cX2_readParty 18 = .ok (.iload_n 2, 1) := by decide +kernel
theorem dX2_readParty_19 : decode cX2_readParty 19 = .ok (.iconst 0, 1) := by decide +kernel
theorem dX2_readParty_20 : decode cX2_readParty 20 = .ok (.iconst 4, 1) := by decide +kernel
theorem dX2_readParty_21 : decode cX2_readParty 21 = .ok (.invokestatic 67, 3) := by decide +kernel
theorem dX2_readParty_24 : decode cX2_readParty 24 = .ok (.ifCond .eq 11, 3) := by decide +kernel
theorem dX2_readParty_27 : decode cX2_readParty 27 = .ok (.iload_n 2, 1) := by decide +kernel
theorem dX2_readParty_28 : decode cX2_readParty 28 = .ok (.aload_n 1, 1) := by decide +kernel
theorem dX2_readParty_29 : decode cX2_readParty 29 = .ok (.getfield 47, 3) := by decide +kernel
theorem dX2_readParty_32 : decode cX2_readParty 32 = .ok (.if_icmp .lt 10, 3) := by decide +kernel
theorem dX2_readParty_35 : decode cX2_readParty 35 = .ok (.aload_n 0, 1) := by decide +kernel
theorem dX2_readParty_36 : decode cX2_readParty 36 = .ok (.bipush 6, 2) := by decide +kernel
theorem dX2_readParty_38 : decode cX2_readParty 38 = .ok (.invokevirtual 43, 3) := by decide +kernel
theorem dX2_readParty_41 : decode cX2_readParty 41 = .ok (.return_, 1) := by decide +kernel
theorem dX2_readParty_42 : decode cX2_readParty 42 = .ok (.aload_n 0, 1) := by decide +kernel
theorem dX2_readParty_43 : decode cX2_readParty 43 = .ok (.invokevirtual 50, 3) := by decide +kernel
theorem dX2_readParty_46 : decode cX2_readParty 46 = .ok (.aload_n 1, 1) := by decide +kernel
theorem dX2_readParty_47 : decode cX2_readParty 47 = .ok (.getfield 71, 3) := by decide +kernel
theorem dX2_readParty_50 : decode cX2_readParty 50 = .ok (.iload_n 2, 1) := by decide +kernel
theorem dX2_readParty_51 : decode cX2_readParty 51 = .ok (.aload_n 0, 1) := by decide +kernel
theorem dX2_readParty_52 : decode cX2_readParty 52 = .ok (.aload_n 1, 1) := by decide +kernel
theorem dX2_readParty_53 : decode cX2_readParty 53 = .ok (.invokevirtual 75, 3) := by decide +kernel
theorem dX2_readParty_56 : decode cX2_readParty 56 = .ok (.lastore, 1) := by decide +kernel
theorem dX2_readParty_57 : decode cX2_readParty 57 = .ok (.aload_n 1, 1) := by decide +kernel
theorem dX2_readParty_58 : decode cX2_readParty 58 = .ok (.getfield 79, 3) := by decide +kernel
theorem dX2_readParty_61 : decode cX2_readParty 61 = .ok (.iload_n 2, 1) := by decide +kernel
theorem dX2_readParty_62 : decode cX2_readParty 62 = .ok (.iconst 0, 1) := by decide +kernel
theorem dX2_readParty_63 : decode cX2_readParty 63 = .ok (.iastore, 1) := by decide +kernel
theorem dX2_readParty_64 : decode cX2_readParty 64 = .ok (.aload_n 1, 1) := by decide +kernel
theorem dX2_readParty_65 : decode cX2_readParty 65 = .ok (.getfield 83, 3) := by decide +kernel
theorem dX2_readParty_68 : decode cX2_readParty 68 = .ok (.iload_n 2, 1) := by decide +kernel
theorem dX2_readParty_69 : decode cX2_readParty 69 = .ok (.iconst (-1), 1) := by decide +kernel
theorem dX2_readParty_70 : decode cX2_readParty 70 = .ok (.iastore, 1) := by decide +kernel
theorem dX2_readParty_71 : decode cX2_readParty 71 = .ok (.aload_n 0, 1) := by decide +kernel
theorem dX2_readParty_72 : decode cX2_readParty 72 = .ok (.getfield 20, 3) := by decide +kernel
theorem dX2_readParty_75 : decode cX2_readParty 75 = .ok (.iconst 3, 1) := by decide +kernel
theorem dX2_readParty_76 : decode cX2_readParty 76 = .ok (.if_icmp .ne 20, 3) := by decide +kernel
theorem dX2_readParty_79 : decode cX2_readParty 79 = .ok (.aload_n 0, 1) := by decide +kernel
theorem dX2_readParty_80 : decode cX2_readParty 80 = .ok (.invokevirtual 50, 3) := by decide +kernel
theorem dX2_readParty_83 : decode cX2_readParty 83 = .ok (.aload_n 1, 1) := by decide +kernel
theorem dX2_readParty_84 : decode cX2_readParty 84 = .ok (.getfield 79, 3) := by decide +kernel
theorem dX2_readParty_87 : decode cX2_readParty 87 = .ok (.iload_n 2, 1) := by decide +kernel
theorem dX2_readParty_88 : decode cX2_readParty 88 = .ok (.aload_n 0, 1) := by decide +kernel
theorem dX2_readParty_89 : decode cX2_readParty 89 = .ok (.iconst 0, 1) := by decide +kernel
theorem dX2_readParty_90 : decode cX2_readParty 90 = .ok (.bipush 50, 2) := by decide +kernel
theorem dX2_readParty_92 : decode cX2_readParty 92 = .ok (.invokevirtual 53, 3) := by decide +kernel
theorem dX2_readParty_95 : decode cX2_readParty 95 = .ok (.iastore, 1) := by decide +kernel
theorem dX2_readParty_96 : decode cX2_readParty 96 = .ok (.aload_n 0, 1) := by decide +kernel
theorem dX2_readParty_97 : decode cX2_readParty 97 = .ok (.getfield 20, 3) := by decide +kernel
theorem dX2_readParty_100 : decode cX2_readParty 100 = .ok (.iconst 4, 1) := by decide +kernel
theorem dX2_readParty_101 : decode cX2_readParty 101 = .ok (.if_icmp .ne 18, 3) := by decide +kernel
theorem dX2_readParty_104 : decode cX2_readParty 104 = .ok (.aload_n 0, 1) := by decide +kernel
theorem dX2_readParty_105 : decode cX2_readParty 105 = .ok (.invokevirtual 50, 3) := by decide +kernel
theorem dX2_readParty_108 : decode cX2_readParty 108 = .ok (.aload_n 1, 1) := by decide +kernel
theorem dX2_readParty_109 : decode cX2_readParty 109 = .ok (.getfield 83, 3) := by decide +kernel
theorem dX2_readParty_112 : decode cX2_readParty 112 = .ok (.iload_n 2, 1) := by decide +kernel
theorem dX2_readParty_113 : decode cX2_readParty 113 = .ok (.aload_n 0, 1) := by decide +kernel
theorem dX2_readParty_114 : decode cX2_readParty 114 = .ok (.aload_n 1, 1) := by decide +kernel
theorem dX2_readParty_115 : decode cX2_readParty 115 = .ok (.invokestatic 86, 3) := by decide +kernel
theorem dX2_readParty_118 : decode cX2_readParty 118 = .ok (.iastore, 1) := by decide +kernel
theorem dX2_readParty_119 : decode cX2_readParty 119 = .ok (.aload_n 1, 1) := by decide +kernel
theorem dX2_readParty_120 : decode cX2_readParty 120 = .ok (.dup, 1) := by decide +kernel
theorem dX2_readParty_121 : decode cX2_readParty 121 = .ok (.getfield 64, 3) := by decide +kernel
theorem dX2_readParty_124 : decode cX2_readParty 124 = .ok (.iconst 1, 1) := by decide +kernel
theorem dX2_readParty_125 : decode cX2_readParty 125 = .ok (.iadd, 1) := by decide +kernel
theorem dX2_readParty_126 : decode cX2_readParty 126 = .ok (.putfield 64, 3) := by decide +kernel
theorem dX2_readParty_129 : decode cX2_readParty 129 = .ok (.aload_n 0, 1) := by decide +kernel
theorem dX2_readParty_130 : decode cX2_readParty 130 = .ok (.bipush 59, 2) := by decide +kernel
theorem dX2_readParty_132 : decode cX2_readParty 132 = .ok (.invokevirtual 57, 3) := by decide +kernel
theorem dX2_readParty_135 : decode cX2_readParty 135 = .ok (.return_, 1) := by decide +kernel
set_option maxHeartbeats 4000000 in
set_option maxRecDepth 100000 in
theorem ctX2_readParty {p1 : Int} {σ : jq_M} {σ' : jq_M} (hp1 : jq_com p1) (h : X2_readParty p1 σ = some σ') : jq_MC jq_zX yX2_readParty cX2_readParty 3 none 5 128 [jR 2, jR p1] σ none σ' := by
  refine jq_met (own := RX2) (L0 := [(0, jR 2), (1, jR p1)]) (by decide) rfl rfl rfl ?_
  intro X Γ hnl hlY hRT
  refine jq_use2 (P := fun r => jq_RT jq_zX X none none r) ?_ h hRT
  intro K0 hK0
  unfold X2_readParty
  have hj35_0 : ∀ (s4 : jq_M), jq_J (X2_readParty_j35 s4) K0 (jq_V jq_zX X (jq_zN jq_zX) s4 35 [(0, jR 2)] []) := by
    intro s4
    unfold X2_readParty_j35
    refine jq_aload_n Γ dX2_readParty_35 rfl 0 rfl (jq_at_0 at_X_2) ?_
    refine jq_bipush Γ dX2_readParty_36 rfl ?_
    refine jq_cwV (jq_virt (avs := [jI 6]) (st := []) Γ hlY rfl ml_RX2_43 rfl at_X_2 rfl rfl rfl rfl rfl dX2_readParty_38) (fun σ' h => ctX5_blame h) (fun s5 => ?_)
    exact jq_vreturn Γ dX2_readParty_41 (hK0 _)
  have hj119_0 : ∀ (s14 : jq_M), jq_J (X2_readParty_j119 p1 s14) K0 (jq_V jq_zX X (jq_zN jq_zX) s14 119 [(0, jR 2), (1, jR p1)] []) := by
    intro s14
    unfold X2_readParty_j119
    refine jq_aload_n Γ dX2_readParty_119 rfl 1 rfl (jq_at_0 (at_com hp1)) ?_
    refine jq_dup Γ dX2_readParty_120 rfl ?_
    refine jq_getI (J := 2) Γ (at_com hp1) fl_RX2_64 rfl rfl dX2_readParty_121 ?_
    refine jq_iconst Γ dX2_readParty_124 rfl ?_
    refine jq_iadd Γ dX2_readParty_125 ?_
    refine jq_putI Γ (at_com hp1) fl_RX2_64 rfl rfl dX2_readParty_126 (fun s15 => ?_)
    refine jq_aload_n Γ dX2_readParty_129 rfl 0 rfl (jq_at_0 at_X_2) ?_
    refine jq_bipush Γ dX2_readParty_130 rfl ?_
    refine jq_cwV (jq_virt (avs := [jI 59]) (st := []) Γ hlY rfl ml_RX2_57 rfl at_X_2 rfl rfl rfl rfl rfl dX2_readParty_132) (fun σ' h => ctX5_passSign h) (fun s16 => ?_)
    exact jq_vreturn Γ dX2_readParty_135 (hK0 _)
  have hj96_0 : ∀ (j12 : Int) (s13 : jq_M), jq_J (X2_readParty_j96 p1 j12 s13) K0 (jq_V jq_zX X (jq_zN jq_zX) s13 96 [(0, jR 2), (1, jR p1), (2, jI j12)] []) := by
    intro j12 s13
    unfold X2_readParty_j96
    refine jq_aload_n Γ dX2_readParty_96 rfl 0 rfl (jq_at_0 at_X_2) ?_
    refine jq_getI (J := 11) Γ at_X_2 fl_RX2_20 rfl rfl dX2_readParty_97 ?_
    refine jq_iconst Γ dX2_readParty_100 rfl ?_
    refine jq_icmp_ne (tgt := 119) Γ dX2_readParty_101 rfl ?_ ?_
    · refine jq_sub Γ (L' := [(0, jR 2), (1, jR p1)]) [0, 1] rfl ?_
      exact hj119_0 s13
    · refine jq_aload_n Γ dX2_readParty_104 rfl 0 rfl (jq_at_0 at_X_2) ?_
      refine jq_cwV (jq_virt (avs := []) (st := []) Γ hlY rfl ml_RX2_50 rfl at_X_2 rfl rfl rfl rfl rfl dX2_readParty_105) (fun σ' h => ctX5_next h) (fun s17 => ?_)
      refine jq_aload_n Γ dX2_readParty_108 rfl 1 rfl (jq_at_0 (at_com hp1)) ?_
      refine jq_getR (v := (p1 + 3)) Γ hlY (at_com hp1) fl_RX2_83 rfl rfl (ly_X1_seats hp1) dX2_readParty_109 ?_
      refine jq_iload_n Γ dX2_readParty_112 rfl 2 rfl ?_
      refine jq_aload_n Γ dX2_readParty_113 rfl 0 rfl (jq_at_0 at_X_2) ?_
      refine jq_aload_n Γ dX2_readParty_114 rfl 1 rfl (jq_at_0 (at_com hp1)) ?_
      refine jq_cwI (jq_stat (avs := [jR 2, jR p1]) (st := [jI j12, jR (p1 + 3)]) Γ hlY rfl ml_RX2_86 rfl rfl rfl rfl rfl dX2_readParty_115) (fun r σ' h => ctX2_takeFreePlace hp1 h) (fun v18 s19 => ?_)
      refine jq_iast Γ (at_com_3 hp1) rfl dX2_readParty_118 (fun s20 => ?_)
      refine jq_sub Γ (L' := [(0, jR 2), (1, jR p1)]) [0, 1] rfl ?_
      exact hj119_0 s20
  refine jq_aload_n Γ dX2_readParty_0 rfl 1 rfl (jq_at_0 (at_com hp1)) ?_
  refine jq_getI (J := 0) Γ (at_com hp1) fl_RX2_47 rfl rfl dX2_readParty_1 ?_
  refine jq_if_ne (tgt := 13) Γ dX2_readParty_4 rfl ?_ ?_
  · refine jq_aload_n Γ dX2_readParty_13 rfl 1 rfl (jq_at_0 (at_com hp1)) ?_
    refine jq_getI (J := 2) Γ (at_com hp1) fl_RX2_64 rfl rfl dX2_readParty_14 ?_
    refine jq_nmI (fun v1 => ?_)
    refine jq_istore_n (L' := [(2, jI v1), (0, jR 2), (1, jR p1)]) Γ dX2_readParty_17 rfl hnl rfl rfl ?_
    refine jq_iload_n Γ dX2_readParty_18 rfl 0 rfl ?_
    refine jq_iconst Γ dX2_readParty_19 rfl ?_
    refine jq_iconst Γ dX2_readParty_20 rfl ?_
    refine jq_cpZ (jq_nest (avs := [jI v1, jI 0, jI 4]) (st := []) Γ hlY rfl ml_RX2_67 rfl rfl rfl rfl rfl dX2_readParty_21) rfl (fun r h => ctX10_within h) (fun v2 hz3 => ?_)
    refine jq_if_eq (tgt := 35) Γ dX2_readParty_24 rfl ?_ ?_
    · refine jq_sub Γ (L' := [(0, jR 2)]) [1] rfl ?_
      exact hj35_0 σ
    · refine jq_iload_n Γ dX2_readParty_27 rfl 0 rfl ?_
      refine jq_aload_n Γ dX2_readParty_28 rfl 2 rfl (jq_at_0 (at_com hp1)) ?_
      refine jq_getI (J := 0) Γ (at_com hp1) fl_RX2_47 rfl rfl dX2_readParty_29 ?_
      refine jq_icmp_lt (tgt := 42) Γ dX2_readParty_32 rfl ?_ ?_
      · refine jq_aload_n Γ dX2_readParty_42 rfl 1 rfl (jq_at_0 at_X_2) ?_
        refine jq_cwV (jq_virt (avs := []) (st := []) Γ hlY rfl ml_RX2_50 rfl at_X_2 rfl rfl rfl rfl rfl dX2_readParty_43) (fun σ' h => ctX5_next h) (fun s6 => ?_)
        refine jq_aload_n Γ dX2_readParty_46 rfl 2 rfl (jq_at_0 (at_com hp1)) ?_
        refine jq_getR (v := (p1 + 1)) Γ hlY (at_com hp1) fl_RX2_71 rfl rfl (ly_X1_partyNames hp1) dX2_readParty_47 ?_
        refine jq_iload_n Γ dX2_readParty_50 rfl 0 rfl ?_
        refine jq_aload_n Γ dX2_readParty_51 rfl 1 rfl (jq_at_0 at_X_2) ?_
        refine jq_aload_n Γ dX2_readParty_52 rfl 2 rfl (jq_at_0 (at_com hp1)) ?_
        refine jq_cwL (jq_virt (avs := [jR p1]) (st := [jI v1, jR (p1 + 1)]) Γ hlY rfl ml_RX2_75 rfl at_X_2 rfl rfl rfl rfl rfl dX2_readParty_53) (fun r σ' h => ctX5_takeNewName hp1 h) (fun v7 s8 => ?_)
        refine jq_last Γ (at_com_1 hp1) rfl dX2_readParty_56 (fun s9 => ?_)
        refine jq_aload_n Γ dX2_readParty_57 rfl 2 rfl (jq_at_0 (at_com hp1)) ?_
        refine jq_getR (v := (p1 + 2)) Γ hlY (at_com hp1) fl_RX2_79 rfl rfl (ly_X1_leasts hp1) dX2_readParty_58 ?_
        refine jq_iload_n Γ dX2_readParty_61 rfl 0 rfl ?_
        refine jq_iconst Γ dX2_readParty_62 rfl ?_
        refine jq_iast Γ (at_com_2 hp1) rfl dX2_readParty_63 (fun s10 => ?_)
        refine jq_aload_n Γ dX2_readParty_64 rfl 2 rfl (jq_at_0 (at_com hp1)) ?_
        refine jq_getR (v := (p1 + 3)) Γ hlY (at_com hp1) fl_RX2_83 rfl rfl (ly_X1_seats hp1) dX2_readParty_65 ?_
        refine jq_iload_n Γ dX2_readParty_68 rfl 0 rfl ?_
        refine jq_iconst Γ dX2_readParty_69 rfl ?_
        refine jq_iast Γ (at_com_3 hp1) rfl dX2_readParty_70 (fun s11 => ?_)
        refine jq_aload_n Γ dX2_readParty_71 rfl 1 rfl (jq_at_0 at_X_2) ?_
        refine jq_getI (J := 11) Γ at_X_2 fl_RX2_20 rfl rfl dX2_readParty_72 ?_
        refine jq_iconst Γ dX2_readParty_75 rfl ?_
        refine jq_icmp_ne (tgt := 96) Γ dX2_readParty_76 rfl ?_ ?_
        · refine jq_sub Γ (L' := [(0, jR 2), (1, jR p1), (2, jI v1)]) [1, 2, 0] rfl ?_
          exact hj96_0 v1 s11
        · refine jq_aload_n Γ dX2_readParty_79 rfl 1 rfl (jq_at_0 at_X_2) ?_
          refine jq_cwV (jq_virt (avs := []) (st := []) Γ hlY rfl ml_RX2_50 rfl at_X_2 rfl rfl rfl rfl rfl dX2_readParty_80) (fun σ' h => ctX5_next h) (fun s21 => ?_)
          refine jq_aload_n Γ dX2_readParty_83 rfl 2 rfl (jq_at_0 (at_com hp1)) ?_
          refine jq_getR (v := (p1 + 2)) Γ hlY (at_com hp1) fl_RX2_79 rfl rfl (ly_X1_leasts hp1) dX2_readParty_84 ?_
          refine jq_iload_n Γ dX2_readParty_87 rfl 0 rfl ?_
          refine jq_aload_n Γ dX2_readParty_88 rfl 1 rfl (jq_at_0 at_X_2) ?_
          refine jq_iconst Γ dX2_readParty_89 rfl ?_
          refine jq_bipush Γ dX2_readParty_90 rfl ?_
          refine jq_cwI (jq_virt (avs := [jI 0, jI 50]) (st := [jI v1, jR (p1 + 2)]) Γ hlY rfl ml_RX2_53 rfl at_X_2 rfl rfl rfl rfl rfl dX2_readParty_92) (fun r σ' h => ctX5_takeNumber h) (fun v22 s23 => ?_)
          refine jq_iast Γ (at_com_2 hp1) rfl dX2_readParty_95 (fun s24 => ?_)
          refine jq_sub Γ (L' := [(0, jR 2), (1, jR p1), (2, jI v1)]) [1, 2, 0] rfl ?_
          exact hj96_0 v1 s24
      · refine jq_sub Γ (L' := [(0, jR 2)]) [1] rfl ?_
        exact hj35_0 σ
  · refine jq_aload_n Γ dX2_readParty_7 rfl 0 rfl (jq_at_0 at_X_2) ?_
    refine jq_iconst Γ dX2_readParty_8 rfl ?_
    refine jq_cwV (jq_virt (avs := [jI 2]) (st := []) Γ hlY rfl ml_RX2_43 rfl at_X_2 rfl rfl rfl rfl rfl dX2_readParty_9) (fun σ' h => ctX5_blame h) (fun s25 => ?_)
    exact jq_vreturn Γ dX2_readParty_12 (hK0 _)


theorem dX5_blameUnlessNamed_0 : decode cX5_blameUnlessNamed 0 = .ok (.aload_n 0, 1) := by decide +kernel
theorem dX5_blameUnlessNamed_1 : decode cX5_blameUnlessNamed 1 = .ok (.getfield 81, 3) := by decide +kernel
theorem dX5_blameUnlessNamed_4 : decode cX5_blameUnlessNamed 4 = .ok (.ifCond .ne 11, 3) := by decide +kernel
theorem dX5_blameUnlessNamed_7 : decode cX5_blameUnlessNamed 7 = .ok (.aload_n 0, 1) := by decide +kernel
theorem dX5_blameUnlessNamed_8 : decode cX5_blameUnlessNamed 8 = .ok (.iconst 2, 1) := by decide +kernel
theorem dX5_blameUnlessNamed_9 : decode cX5_blameUnlessNamed 9 = .ok (.invokevirtual 110, 3) := by decide +kernel
theorem dX5_blameUnlessNamed_12 : decode cX5_blameUnlessNamed 12 = .ok (.goto 13, 3) := by decide +kernel
theorem dX5_blameUnlessNamed_15 : decode cX5_blameUnlessNamed 15 = .ok (.iload_n 1, 1) := by decide +kernel
theorem dX5_blameUnlessNamed_16 : decode cX5_blameUnlessNamed 16 = .ok (.iconst (-1), 1) := by decide +kernel
theorem dX5_blameUnlessNamed_17 : decode cX5_blameUnlessNamed 17 = .ok (.if_icmp .ne 8, 3) := by decide +kernel
theorem dX5_blameUnlessNamed_20 : decode cX5_blameUnlessNamed 20 = .ok (.aload_n 0, 1) := by decide +kernel
theorem dX5_blameUnlessNamed_21 : decode cX5_blameUnlessNamed 21 = .ok (.iconst 3, 1) := by decide +kernel
theorem dX5_blameUnlessNamed_22 : decode cX5_blameUnlessNamed 22 = .ok (.invokevirtual 110, 3) := by decide +kernel
theorem dX5_blameUnlessNamed_25 : decode cX5_blameUnlessNamed 25 = .ok (.return_, 1) := by decide +kernel
set_option maxHeartbeats 4000000 in
set_option maxRecDepth 100000 in
theorem ctX5_blameUnlessNamed {p1 : Int} {σ : jq_M} {σ' : jq_M}  (h : X5_blameUnlessNamed p1 σ = some σ') : jq_MC jq_zX yX5_blameUnlessNamed cX5_blameUnlessNamed 2 none 2 61 [jR 2, jI p1] σ none σ' := by
  refine jq_met (own := RX5) (L0 := [(0, jR 2), (1, jI p1)]) (by decide) rfl rfl rfl ?_
  intro X Γ hnl hlY hRT
  refine jq_use2 (P := fun r => jq_RT jq_zX X none none r) ?_ h hRT
  intro K0 hK0
  unfold X5_blameUnlessNamed
  refine jq_aload_n Γ dX5_blameUnlessNamed_0 rfl 0 rfl (jq_at_0 at_X_2) ?_
  refine jq_getZ (J := 10) Γ at_X_2 fl_RX5_81 rfl rfl dX5_blameUnlessNamed_1 (fun v1 hz2 => ?_)
  refine jq_if_ne (tgt := 15) Γ dX5_blameUnlessNamed_4 rfl ?_ ?_
  · refine jq_iload_n Γ dX5_blameUnlessNamed_15 rfl 1 rfl ?_
    refine jq_iconst Γ dX5_blameUnlessNamed_16 rfl ?_
    refine jq_icmp_ne (tgt := 25) Γ dX5_blameUnlessNamed_17 rfl ?_ ?_
    · exact jq_vreturn Γ dX5_blameUnlessNamed_25 (hK0 _)
    · refine jq_aload_n Γ dX5_blameUnlessNamed_20 rfl 0 rfl (jq_at_0 at_X_2) ?_
      refine jq_iconst Γ dX5_blameUnlessNamed_21 rfl ?_
      refine jq_cwV (jq_virt (avs := [jI 3]) (st := []) Γ hlY rfl ml_RX5_110 rfl at_X_2 rfl rfl rfl rfl rfl dX5_blameUnlessNamed_22) (fun σ' h => ctX5_blame h) (fun s3 => ?_)
      exact jq_vreturn Γ dX5_blameUnlessNamed_25 (hK0 _)
  · refine jq_aload_n Γ dX5_blameUnlessNamed_7 rfl 0 rfl (jq_at_0 at_X_2) ?_
    refine jq_iconst Γ dX5_blameUnlessNamed_8 rfl ?_
    refine jq_cwV (jq_virt (avs := [jI 2]) (st := []) Γ hlY rfl ml_RX5_110 rfl at_X_2 rfl rfl rfl rfl rfl dX5_blameUnlessNamed_9) (fun σ' h => ctX5_blame h) (fun s4 => ?_)
    refine jq_goto Γ (tgt := 25) dX5_blameUnlessNamed_12 rfl ?_
    exact jq_vreturn Γ dX5_blameUnlessNamed_25 (hK0 _)


theorem dX5_partyHere_0 : decode cX5_partyHere 0 = .ok (.aload_n 1, 1) := by decide +kernel
theorem dX5_partyHere_1 : decode cX5_partyHere 1 = .ok (.aload_n 0, 1) := by decide +kernel
theorem dX5_partyHere_2 : decode cX5_partyHere 2 = .ok (.getfield 77, 3) := by decide +kernel
theorem dX5_partyHere_5 : decode cX5_partyHere 5 = .ok (.invokevirtual 125, 3) := by decide +kernel
theorem dX5_partyHere_8 : decode cX5_partyHere 8 = .ok (.istore_n 2, 1) := by decide +kernel
theorem dX5_partyHere_9 : decode cX5_partyHere 9 = .ok (.aload_n 0, 1) := by decide +kernel
theorem dX5_partyHere_10 : decode cX5_partyHere 10 = .ok (.iload_n 2, 1) := by decide +kernel
theorem dX5_partyHere_11 : decode cX5_partyHere 11 = .ok (.invokevirtual 131, 3) := by decide +kernel
theorem dX5_partyHere_14 : decode cX5_partyHere 14 = .ok (.aload_n 0, 1) := by decide +kernel
theorem dX5_partyHere_15 : decode cX5_partyHere 15 = .ok (.invokevirtual 118, 3) := by decide +kernel
theorem dX5_partyHere_18 : decode cX5_partyHere 18 = .ok (.ifCond .eq 7, 3) := by decide +kernel
theorem dX5_partyHere_21 : decode cX5_partyHere 21 = .ok (.iconst 0, 1) := by decide +kernel
theorem dX5_partyHere_22 : decode cX5_partyHere 22 = .ok (.goto 4, 3) := by decide +kernel
theorem dX5_partyHere_25 : decode cX5_partyHere 25 = .ok (.iload_n 2, 1) := by decide +kernel
theorem dX5_partyHere_26 : decode cX5_partyHere 26 = .ok (.ireturn, 1) := by decide +kernel
set_option maxHeartbeats 4000000 in
set_option maxRecDepth 100000 in
theorem ctX5_partyHere {p1 : Int} {σ : jq_M} {res : Int} {σ' : jq_M} (hp1 : jq_com p1) (h : X5_partyHere p1 σ = some (res, σ')) : jq_MC jq_zX yX5_partyHere cX5_partyHere 3 (some .int) 3 82 [jR 2, jR p1] σ (some (jI res)) σ' := by
  refine jq_met (own := RX5) (L0 := [(0, jR 2), (1, jR p1)]) (by decide) rfl rfl rfl ?_
  intro X Γ hnl hlY hRT
  refine jq_use2 (P := fun r => jq_RT jq_zX X (some .int) (some (jI r.1)) r.2) ?_ h hRT
  intro K0 hK0
  unfold X5_partyHere
  refine jq_aload_n Γ dX5_partyHere_0 rfl 1 rfl (jq_at_0 (at_com hp1)) ?_
  refine jq_aload_n Γ dX5_partyHere_1 rfl 0 rfl (jq_at_0 at_X_2) ?_
  refine jq_getL (J := 9) Γ at_X_2 fl_RX5_77 rfl rfl dX5_partyHere_2 ?_
  refine jq_cpI (jq_virt (avs := [jL (σ 2 9)]) (st := []) Γ hlY rfl ml_RX5_125 rfl (at_com hp1) rfl rfl rfl rfl rfl dX5_partyHere_5) (fun r h => ctX1_partyNamed hp1 h) (fun v1 => ?_)
  refine jq_istore_n (L' := [(2, jI v1), (0, jR 2), (1, jR p1)]) Γ dX5_partyHere_8 rfl hnl rfl rfl ?_
  refine jq_aload_n Γ dX5_partyHere_9 rfl 1 rfl (jq_at_0 at_X_2) ?_
  refine jq_iload_n Γ dX5_partyHere_10 rfl 0 rfl ?_
  refine jq_cwV (jq_virt (avs := [jI v1]) (st := []) Γ hlY rfl ml_RX5_131 rfl at_X_2 rfl rfl rfl rfl rfl dX5_partyHere_11) (fun σ' h => ctX5_blameUnlessNamed h) (fun s2 => ?_)
  refine jq_aload_n Γ dX5_partyHere_14 rfl 1 rfl (jq_at_0 at_X_2) ?_
  refine jq_cpZ (jq_virt (avs := []) (st := []) Γ hlY rfl ml_RX5_118 rfl at_X_2 rfl rfl rfl rfl rfl dX5_partyHere_15) rfl (fun r h => ctX5_hasFault h) (fun v3 hz4 => ?_)
  refine jq_if_eq (tgt := 25) Γ dX5_partyHere_18 rfl ?_ ?_
  · refine jq_iload_n Γ dX5_partyHere_25 rfl 0 rfl ?_
    exact jq_ireturn Γ dX5_partyHere_26 (hK0 _)
  · refine jq_iconst Γ dX5_partyHere_21 rfl ?_
    refine jq_goto Γ (tgt := 26) dX5_partyHere_22 rfl ?_
    exact jq_ireturn Γ dX5_partyHere_26 (hK0 _)


theorem dX5_takeParty_0 : decode cX5_takeParty 0 = .ok (.aload_n 0, 1) := by decide +kernel
theorem dX5_takeParty_1 : decode cX5_takeParty 1 = .ok (.aload_n 1, 1) := by decide +kernel
theorem dX5_takeParty_2 : decode cX5_takeParty 2 = .ok (.invokevirtual 134, 3) := by decide +kernel
theorem dX5_takeParty_5 : decode cX5_takeParty 5 = .ok (.istore_n 2, 1) := by decide +kernel
theorem dX5_takeParty_6 : decode cX5_takeParty 6 = .ok (.aload_n 0, 1) := by decide +kernel
theorem dX5_takeParty_7 : decode cX5_takeParty 7 = .ok (.invokevirtual 58, 3) := by decide +kernel
theorem dX5_takeParty_10 : decode cX5_takeParty 10 = .ok (.iload_n 2, 1) := by decide +kernel
theorem dX5_takeParty_11 : decode cX5_takeParty 11 = .ok (.ireturn, 1) := by decide +kernel
set_option maxHeartbeats 4000000 in
set_option maxRecDepth 100000 in
theorem ctX5_takeParty {p1 : Int} {σ : jq_M} {res : Int} {σ' : jq_M} (hp1 : jq_com p1) (h : X5_takeParty p1 σ = some (res, σ')) : jq_MC jq_zX yX5_takeParty cX5_takeParty 3 (some .int) 4 105 [jR 2, jR p1] σ (some (jI res)) σ' := by
  refine jq_met (own := RX5) (L0 := [(0, jR 2), (1, jR p1)]) (by decide) rfl rfl rfl ?_
  intro X Γ hnl hlY hRT
  refine jq_use2 (P := fun r => jq_RT jq_zX X (some .int) (some (jI r.1)) r.2) ?_ h hRT
  intro K0 hK0
  unfold X5_takeParty
  refine jq_aload_n Γ dX5_takeParty_0 rfl 0 rfl (jq_at_0 at_X_2) ?_
  refine jq_aload_n Γ dX5_takeParty_1 rfl 1 rfl (jq_at_0 (at_com hp1)) ?_
  refine jq_cwI (jq_virt (avs := [jR p1]) (st := []) Γ hlY rfl ml_RX5_134 rfl at_X_2 rfl rfl rfl rfl rfl dX5_takeParty_2) (fun r σ' h => ctX5_partyHere hp1 h) (fun v1 s2 => ?_)
  refine jq_istore_n (L' := [(2, jI v1), (0, jR 2), (1, jR p1)]) Γ dX5_takeParty_5 rfl hnl rfl rfl ?_
  refine jq_aload_n Γ dX5_takeParty_6 rfl 1 rfl (jq_at_0 at_X_2) ?_
  refine jq_cwV (jq_virt (avs := []) (st := []) Γ hlY rfl ml_RX5_58 rfl at_X_2 rfl rfl rfl rfl rfl dX5_takeParty_7) (fun σ' h => ctX5_next h) (fun s3 => ?_)
  refine jq_iload_n Γ dX5_takeParty_10 rfl 0 rfl ?_
  exact jq_ireturn Γ dX5_takeParty_11 (hK0 _)


theorem dX2_takeKind_0 : decode cX2_takeKind 0 = .ok (.aload_n 0, 1) := by decide +kernel
theorem dX2_takeKind_1 : decode cX2_takeKind 1 = .ok (.getfield 20, 3) := by decide +kernel
theorem dX2_takeKind_4 : decode cX2_takeKind 4 = .ok (.istore_n 1, 1) := by decide +kernel
theorem dX2_takeKind_5 : decode cX2_takeKind 5 = .ok (.iload_n 1, 1) := by decide +kernel
theorem dX2_takeKind_6 : decode cX2_takeKind 6 = .ok (.bipush 7, 2) := by decide +kernel
theorem dX2_takeKind_8 : decode cX2_takeKind 8 = .ok (.if_icmp .eq 19, 3) := by decide +kernel
theorem dX2_takeKind_11 : decode cX2_takeKind 11 = .ok (.iload_n 1, 1) := by decide +kernel
theorem dX2_takeKind_12 : decode cX2_takeKind 12 = .ok (.bipush 8, 2) := by decide +kernel
theorem dX2_takeKind_14 : decode cX2_takeKind 14 = .ok (.if_icmp .eq 13, 3) := by decide +kernel
theorem dX2_takeKind_17 : decode cX2_takeKind 17 = .ok (.iload_n 1, 1) := by decide +kernel
theorem dX2_takeKind_18 : decode cX2_takeKind 18 = .ok (.iconst 1, 1) := by decide +kernel
theorem dX2_takeKind_19 : decode cX2_takeKind 19 = .ok (.if_icmp .eq 8, 3) := by decide +kernel
theorem dX2_takeKind_22 : decode cX2_takeKind 22 = .ok (.aload_n 0, 1) := by decide +kernel
theorem dX2_takeKind_23 : decode cX2_takeKind 23 = .ok (.iconst 2, 1) := by decide +kernel
theorem dX2_takeKind_24 : decode cX2_takeKind 24 = .ok (.invokevirtual 43, 3) := by decide +kernel
theorem dX2_takeKind_27 : decode cX2_takeKind 27 = .ok (.aload_n 0, 1) := by decide +kernel
theorem dX2_takeKind_28 : decode cX2_takeKind 28 = .ok (.invokevirtual 50, 3) := by decide +kernel
theorem dX2_takeKind_31 : decode cX2_takeKind 31 = .ok (.iload_n 1, 1) := by decide +kernel
theorem dX2_takeKind_32 : decode cX2_takeKind 32 = .ok (.bipush 7, 2) := by decide +kernel
theorem dX2_takeKind_34 : decode cX2_takeKind 34 = .ok (.if_icmp .ne 5, 3) := by decide +kernel
theorem dX2_takeKind_37 : decode cX2_takeKind 37 = .ok (.iconst 0, 1) := by decide +kernel
theorem dX2_takeKind_38 : decode cX2_takeKind 38 = .ok (.ireturn, 1) := by decide +kernel
theorem dX2_takeKind_39 : decode cX2_takeKind 39 = .ok (.iload_n 1, 1) := by decide +kernel
theorem dX2_takeKind_40 : decode cX2_takeKind 40 = .ok (.bipush 8, 2) := by decide +kernel
theorem dX2_takeKind_42 : decode cX2_takeKind 42 = .ok (.if_icmp .ne 7, 3) := by decide +kernel
theorem dX2_takeKind_45 : decode cX2_takeKind 45 = .ok (.iconst 1, 1) := by decide +kernel
theorem dX2_takeKind_46 : decode cX2_takeKind 46 = .ok (.goto 4, 3) := by decide +kernel
theorem dX2_takeKind_49 : decode cX2_takeKind 49 = .ok (.iconst 2, 1) := by decide +kernel
theorem dX2_takeKind_50 : decode cX2_takeKind 50 = .ok (.ireturn, 1) := by decide +kernel
set_option maxHeartbeats 4000000 in
set_option maxRecDepth 100000 in
theorem ctX2_takeKind  {σ : jq_M} {res : Int} {σ' : jq_M}  (h : X2_takeKind σ = some (res, σ')) : jq_MC jq_zX yX2_takeKind cX2_takeKind 2 (some .int) 4 105 [jR 2] σ (some (jI res)) σ' := by
  refine jq_met (own := RX2) (L0 := [(0, jR 2)]) (by decide) rfl rfl rfl ?_
  intro X Γ hnl hlY hRT
  refine jq_use2 (P := fun r => jq_RT jq_zX X (some .int) (some (jI r.1)) r.2) ?_ h hRT
  intro K0 hK0
  unfold X2_takeKind
  have hj27_0 : ∀ (j2 : Int) (s3 : jq_M), jq_J (X2_takeKind_j27 j2 s3) K0 (jq_V jq_zX X (jq_zN jq_zX) s3 27 [(0, jR 2), (1, jI j2)] []) := by
    intro j2 s3
    unfold X2_takeKind_j27
    refine jq_aload_n Γ dX2_takeKind_27 rfl 0 rfl (jq_at_0 at_X_2) ?_
    refine jq_cwV (jq_virt (avs := []) (st := []) Γ hlY rfl ml_RX2_50 rfl at_X_2 rfl rfl rfl rfl rfl dX2_takeKind_28) (fun σ' h => ctX5_next h) (fun s4 => ?_)
    refine jq_iload_n Γ dX2_takeKind_31 rfl 1 rfl ?_
    refine jq_bipush Γ dX2_takeKind_32 rfl ?_
    refine jq_icmp_ne (tgt := 39) Γ dX2_takeKind_34 rfl ?_ ?_
    · refine jq_iload_n Γ dX2_takeKind_39 rfl 1 rfl ?_
      refine jq_bipush Γ dX2_takeKind_40 rfl ?_
      refine jq_icmp_ne (tgt := 49) Γ dX2_takeKind_42 rfl ?_ ?_
      · refine jq_iconst Γ dX2_takeKind_49 rfl ?_
        exact jq_ireturn Γ dX2_takeKind_50 (hK0 _)
      · refine jq_iconst Γ dX2_takeKind_45 rfl ?_
        refine jq_goto Γ (tgt := 50) dX2_takeKind_46 rfl ?_
        exact jq_ireturn Γ dX2_takeKind_50 (hK0 _)
    · refine jq_iconst Γ dX2_takeKind_37 rfl ?_
      exact jq_ireturn Γ dX2_takeKind_38 (hK0 _)
  refine jq_aload_n Γ dX2_takeKind_0 rfl 0 rfl (jq_at_0 at_X_2) ?_
  refine jq_getI (J := 11) Γ at_X_2 fl_RX2_20 rfl rfl dX2_takeKind_1 ?_
  refine jq_nmI (fun v1 => ?_)
  refine jq_istore_n (L' := [(1, jI v1), (0, jR 2)]) Γ dX2_takeKind_4 rfl hnl rfl rfl ?_
  refine jq_iload_n Γ dX2_takeKind_5 rfl 0 rfl ?_
  refine jq_bipush Γ dX2_takeKind_6 rfl ?_
  refine jq_icmp_eq (tgt := 27) Γ dX2_takeKind_8 rfl ?_ ?_
  · refine jq_sub Γ (L' := [(0, jR 2), (1, jI v1)]) [1, 0] rfl ?_
    exact hj27_0 v1 σ
  · refine jq_iload_n Γ dX2_takeKind_11 rfl 0 rfl ?_
    refine jq_bipush Γ dX2_takeKind_12 rfl ?_
    refine jq_icmp_eq (tgt := 27) Γ dX2_takeKind_14 rfl ?_ ?_
    · refine jq_sub Γ (L' := [(0, jR 2), (1, jI v1)]) [1, 0] rfl ?_
      exact hj27_0 v1 σ
    · refine jq_iload_n Γ dX2_takeKind_17 rfl 0 rfl ?_
      refine jq_iconst Γ dX2_takeKind_18 rfl ?_
      refine jq_icmp_eq (tgt := 27) Γ dX2_takeKind_19 rfl ?_ ?_
      · refine jq_sub Γ (L' := [(0, jR 2), (1, jI v1)]) [1, 0] rfl ?_
        exact hj27_0 v1 σ
      · refine jq_aload_n Γ dX2_takeKind_22 rfl 1 rfl (jq_at_0 at_X_2) ?_
        refine jq_iconst Γ dX2_takeKind_23 rfl ?_
        refine jq_cwV (jq_virt (avs := [jI 2]) (st := []) Γ hlY rfl ml_RX2_43 rfl at_X_2 rfl rfl rfl rfl rfl dX2_takeKind_24) (fun σ' h => ctX5_blame h) (fun s5 => ?_)
        refine jq_sub Γ (L' := [(0, jR 2), (1, jI v1)]) [1, 0] rfl ?_
        exact hj27_0 v1 s5


theorem dX2_takeOther_0 : decode cX2_takeOther 0 = .ok (.aload_n 0, 1) := by decide +kernel
theorem dX2_takeOther_1 : decode cX2_takeOther 1 = .ok (.aload_n 1, 1) := by decide +kernel
theorem dX2_takeOther_2 : decode cX2_takeOther 2 = .ok (.invokevirtual 127, 3) := by decide +kernel
theorem dX2_takeOther_5 : decode cX2_takeOther 5 = .ok (.istore_n 3, 1) := by decide +kernel
theorem dX2_takeOther_6 : decode cX2_takeOther 6 = .ok (.iload_n 3, 1) := by decide +kernel
theorem dX2_takeOther_7 : decode cX2_takeOther 7 = .ok (.iload_n 2, 1) := by decide +kernel
theorem dX2_takeOther_8 : decode cX2_takeOther 8 = .ok (.if_icmp .ne 8, 3) := by decide +kernel
theorem dX2_takeOther_11 : decode cX2_takeOther 11 = .ok (.aload_n 0, 1) := by decide +kernel
theorem dX2_takeOther_12 : decode cX2_takeOther 12 = .ok (.iconst 5, 1) := by decide +kernel
theorem dX2_takeOther_13 : decode cX2_takeOther 13 = .ok (.invokevirtual 43, 3) := by decide +kernel
theorem dX2_takeOther_16 : decode cX2_takeOther 16 = .ok (.aload_n 0, 1) := by decide +kernel
theorem dX2_takeOther_17 : decode cX2_takeOther 17 = .ok (.invokevirtual 50, 3) := by decide +kernel
theorem dX2_takeOther_20 : decode cX2_takeOther 20 = .ok (.iload_n 3, 1) := by decide +kernel
theorem dX2_takeOther_21 : decode cX2_takeOther 21 = .ok (.ireturn, 1) := by decide +kernel
set_option maxHeartbeats 4000000 in
set_option maxRecDepth 100000 in
theorem ctX2_takeOther {p1 : Int} {p2 : Int} {σ : jq_M} {res : Int} {σ' : jq_M} (hp1 : jq_com p1) (h : X2_takeOther p1 p2 σ = some (res, σ')) : jq_MC jq_zX yX2_takeOther cX2_takeOther 4 (some .int) 4 105 [jR 2, jR p1, jI p2] σ (some (jI res)) σ' := by
  refine jq_met (own := RX2) (L0 := [(0, jR 2), (1, jR p1), (2, jI p2)]) (by decide) rfl rfl rfl ?_
  intro X Γ hnl hlY hRT
  refine jq_use2 (P := fun r => jq_RT jq_zX X (some .int) (some (jI r.1)) r.2) ?_ h hRT
  intro K0 hK0
  unfold X2_takeOther
  have hj16_0 : ∀ (j3 : Int) (s4 : jq_M), jq_J (X2_takeOther_j16 j3 s4) K0 (jq_V jq_zX X (jq_zN jq_zX) s4 16 [(0, jR 2), (3, jI j3)] []) := by
    intro j3 s4
    unfold X2_takeOther_j16
    refine jq_aload_n Γ dX2_takeOther_16 rfl 0 rfl (jq_at_0 at_X_2) ?_
    refine jq_cwV (jq_virt (avs := []) (st := []) Γ hlY rfl ml_RX2_50 rfl at_X_2 rfl rfl rfl rfl rfl dX2_takeOther_17) (fun σ' h => ctX5_next h) (fun s5 => ?_)
    refine jq_iload_n Γ dX2_takeOther_20 rfl 1 rfl ?_
    exact jq_ireturn Γ dX2_takeOther_21 (hK0 _)
  refine jq_aload_n Γ dX2_takeOther_0 rfl 0 rfl (jq_at_0 at_X_2) ?_
  refine jq_aload_n Γ dX2_takeOther_1 rfl 1 rfl (jq_at_0 (at_com hp1)) ?_
  refine jq_cwI (jq_virt (avs := [jR p1]) (st := []) Γ hlY rfl ml_RX2_127 rfl at_X_2 rfl rfl rfl rfl rfl dX2_takeOther_2) (fun r σ' h => ctX5_partyHere hp1 h) (fun v1 s2 => ?_)
  refine jq_istore_n (L' := [(3, jI v1), (0, jR 2), (1, jR p1), (2, jI p2)]) Γ dX2_takeOther_5 rfl hnl rfl rfl ?_
  refine jq_iload_n Γ dX2_takeOther_6 rfl 0 rfl ?_
  refine jq_iload_n Γ dX2_takeOther_7 rfl 3 rfl ?_
  refine jq_icmp_ne (tgt := 16) Γ dX2_takeOther_8 rfl ?_ ?_
  · refine jq_sub Γ (L' := [(0, jR 2), (3, jI v1)]) [1, 0] rfl ?_
    exact hj16_0 v1 s2
  · refine jq_aload_n Γ dX2_takeOther_11 rfl 1 rfl (jq_at_0 at_X_2) ?_
    refine jq_iconst Γ dX2_takeOther_12 rfl ?_
    refine jq_cwV (jq_virt (avs := [jI 5]) (st := []) Γ hlY rfl ml_RX2_43 rfl at_X_2 rfl rfl rfl rfl rfl dX2_takeOther_13) (fun σ' h => ctX5_blame h) (fun s6 => ?_)
    refine jq_sub Γ (L' := [(0, jR 2), (3, jI v1)]) [1, 0] rfl ?_
    exact hj16_0 v1 s6


theorem dX5_passKeyword_0 : decode cX5_passKeyword 0 = .ok (.aload_n 0, 1) := by decide +kernel
theorem dX5_passKeyword_1 : decode cX5_passKeyword 1 = .ok (.getfield 74, 3) := by decide +kernel
theorem dX5_passKeyword_4 : decode cX5_passKeyword 4 = .ok (.iload_n 1, 1) := by decide +kernel
theorem dX5_passKeyword_5 : decode cX5_passKeyword 5 = .ok (.if_icmp .eq 8, 3) := by decide +kernel
theorem dX5_passKeyword_8 : decode cX5_passKeyword 8 = .ok (.aload_n 0, 1) := by decide +kernel
theorem dX5_passKeyword_9 : decode cX5_passKeyword 9 = .ok (.iconst 2, 1) := by decide +kernel
theorem dX5_passKeyword_10 : decode cX5_passKeyword 10 = .ok (.invokevirtual 110, 3) := by decide +kernel
theorem dX5_passKeyword_13 : decode cX5_passKeyword 13 = .ok (.aload_n 0, 1) := by decide +kernel
theorem dX5_passKeyword_14 : decode cX5_passKeyword 14 = .ok (.invokevirtual 58, 3) := by decide +kernel
theorem dX5_passKeyword_17 : decode cX5_passKeyword 17 = .ok (.return_, 1) := by decide +kernel
set_option maxHeartbeats 4000000 in
set_option maxRecDepth 100000 in
theorem ctX5_passKeyword {p1 : Int} {σ : jq_M} {σ' : jq_M}  (h : X5_passKeyword p1 σ = some σ') : jq_MC jq_zX yX5_passKeyword cX5_passKeyword 2 none 4 105 [jR 2, jI p1] σ none σ' := by
  refine jq_met (own := RX5) (L0 := [(0, jR 2), (1, jI p1)]) (by decide) rfl rfl rfl ?_
  intro X Γ hnl hlY hRT
  refine jq_use2 (P := fun r => jq_RT jq_zX X none none r) ?_ h hRT
  intro K0 hK0
  unfold X5_passKeyword
  have hj13_0 : ∀ (s1 : jq_M), jq_J (X5_passKeyword_j13 s1) K0 (jq_V jq_zX X (jq_zN jq_zX) s1 13 [(0, jR 2)] []) := by
    intro s1
    unfold X5_passKeyword_j13
    refine jq_aload_n Γ dX5_passKeyword_13 rfl 0 rfl (jq_at_0 at_X_2) ?_
    refine jq_cwV (jq_virt (avs := []) (st := []) Γ hlY rfl ml_RX5_58 rfl at_X_2 rfl rfl rfl rfl rfl dX5_passKeyword_14) (fun σ' h => ctX5_next h) (fun s2 => ?_)
    exact jq_vreturn Γ dX5_passKeyword_17 (hK0 _)
  refine jq_aload_n Γ dX5_passKeyword_0 rfl 0 rfl (jq_at_0 at_X_2) ?_
  refine jq_getI (J := 11) Γ at_X_2 fl_RX5_74 rfl rfl dX5_passKeyword_1 ?_
  refine jq_iload_n Γ dX5_passKeyword_4 rfl 1 rfl ?_
  refine jq_icmp_eq (tgt := 13) Γ dX5_passKeyword_5 rfl ?_ ?_
  · refine jq_sub Γ (L' := [(0, jR 2)]) [0] rfl ?_
    exact hj13_0 σ
  · refine jq_aload_n Γ dX5_passKeyword_8 rfl 0 rfl (jq_at_0 at_X_2) ?_
    refine jq_iconst Γ dX5_passKeyword_9 rfl ?_
    refine jq_cwV (jq_virt (avs := [jI 2]) (st := []) Γ hlY rfl ml_RX5_110 rfl at_X_2 rfl rfl rfl rfl rfl dX5_passKeyword_10) (fun σ' h => ctX5_blame h) (fun s3 => ?_)
    refine jq_sub Γ (L' := [(0, jR 2)]) [0] rfl ?_
    exact hj13_0 s3


