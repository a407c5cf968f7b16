theorem fl_RX10_71 : jq_fl RX10 71 7 18 0 false := ⟨RX10, TX10, tyX10, cls_X10, by decide, jq_in 522 (by decide +kernel) rfl, by decide⟩
theorem fl_RX10_75 : jq_fl RX10 75 7 18 1 false := ⟨RX10, TX10, tyX10, cls_X10, by decide, jq_in 523 (by decide +kernel) rfl, by decide⟩
theorem fl_RX10_79 : jq_fl RX10 79 7 18 2 false := ⟨RX10, TX10, tyX10, cls_X10, by decide, jq_in 524 (by decide +kernel) rfl, by decide⟩
theorem fl_RX10_11 : jq_fl RX10 11 7 18 3 true := ⟨RX10, TX10, tyX10, cls_X10, by decide, jq_in 525 (by decide +kernel) rfl, by decide⟩
theorem fl_RX9_9 : jq_fl RX9 9 6 3 0 false := ⟨RX9, TX9, tyX9, cls_X9, by decide, jq_in 510 (by decide +kernel) rfl, by decide⟩
theorem fl_RX9_19 : jq_fl RX9 19 6 3 1 false := ⟨RX9, TX9, tyX9, cls_X9, by decide, jq_in 512 (by decide +kernel) rfl, by decide⟩
theorem fl_RX9_15 : jq_fl RX9 15 6 3 2 true := ⟨RX9, TX9, tyX9, cls_X9, by decide, jq_in 513 (by decide +kernel) rfl, by decide⟩
theorem yf_X10_trayAt : Cond.instanceMethod yX10_trayAt ∈ jq_T ∧ Cond.selects (yX10_trayAt).cls yX10_trayAt yX10_trayAt ∈ jq_T ∧ Cond.initialized (yX10_trayAt).cls ∈ jq_T ∧ Cond.code yX10_trayAt cX10_trayAt 2 (some (.object "StandTable$Tray")) ∈ jq_T ∧ ((yX10_trayAt).cls ≠ "java/lang/invoke/MethodHandle" ∧ (yX10_trayAt).cls ≠ "java/lang/invoke/VarHandle" ∧ (parseMethodDescriptor (yX10_trayAt).desc).map (fun d => d.parameters.length) = some 1) := ⟨jq_in 595 (by decide +kernel) rfl, jq_in 0 (by decide +kernel) rfl, jq_in 138 (by decide +kernel) rfl, jq_in 596 (by decide +kernel) rfl, ⟨by decide, by decide, by decide +kernel⟩⟩
theorem ml_RX10_89 : jq_vl RX10 89 yX10_trayAt cX10_trayAt 2 (some (.object "StandTable$Tray")) 1 := ⟨jq_in 593 (by decide +kernel) rfl, yf_X10_trayAt⟩
theorem yf_X10_deny : Cond.instanceMethod yX10_deny ∈ jq_T ∧ Cond.selects (yX10_deny).cls yX10_deny yX10_deny ∈ jq_T ∧ Cond.initialized (yX10_deny).cls ∈ jq_T ∧ Cond.code yX10_deny cX10_deny 2 (some .boolean) ∈ jq_T ∧ ((yX10_deny).cls ≠ "java/lang/invoke/MethodHandle" ∧ (yX10_deny).cls ≠ "java/lang/invoke/VarHandle" ∧ (parseMethodDescriptor (yX10_deny).desc).map (fun d => d.parameters.length) = some 1) := ⟨jq_in 602 (by decide +kernel) rfl, jq_in 1 (by decide +kernel) rfl, jq_in 138 (by decide +kernel) rfl, jq_in 603 (by decide +kernel) rfl, ⟨by decide, by decide, by decide +kernel⟩⟩
theorem ml_RX10_97 : jq_vl RX10 97 yX10_deny cX10_deny 2 (some .boolean) 1 := ⟨jq_in 600 (by decide +kernel) rfl, yf_X10_deny⟩
theorem yf_X10_within : Cond.static yX10_within ∈ jq_T ∧ Cond.initialized (yX10_within).cls ∈ jq_T ∧ Cond.code yX10_within cX10_within 3 (some .boolean) ∈ jq_T ∧ ((yX10_within).cls ≠ "java/lang/invoke/MethodHandle" ∧ (yX10_within).cls ≠ "java/lang/invoke/VarHandle" ∧ (parseMethodDescriptor (yX10_within).desc).map (fun d => d.parameters.length) = some 3) := ⟨jq_in 598 (by decide +kernel) rfl, jq_in 138 (by decide +kernel) rfl, jq_in 599 (by decide +kernel) rfl, ⟨by decide, by decide, by decide +kernel⟩⟩
theorem ml_RX10_93 : jq_sl RX10 93 yX10_within cX10_within 3 (some .boolean) 3 := ⟨jq_in 597 (by decide +kernel) rfl, yf_X10_within⟩
theorem yf_X9_make : Cond.instanceMethod yX9_make ∈ jq_T ∧ Cond.selects (yX9_make).cls yX9_make yX9_make ∈ jq_T ∧ Cond.initialized (yX9_make).cls ∈ jq_T ∧ Cond.code yX9_make cX9_make 4 none ∈ jq_T ∧ ((yX9_make).cls ≠ "java/lang/invoke/MethodHandle" ∧ (yX9_make).cls ≠ "java/lang/invoke/VarHandle" ∧ (parseMethodDescriptor (yX9_make).desc).map (fun d => d.parameters.length) = some 2) := ⟨jq_in 605 (by decide +kernel) rfl, jq_in 606 (by decide +kernel) rfl, jq_in 149 (by decide +kernel) rfl, jq_in 607 (by decide +kernel) rfl, ⟨by decide, by decide, by decide +kernel⟩⟩
theorem ml_RX10_101 : jq_vl RX10 101 yX9_make cX9_make 4 none 2 := ⟨jq_in 604 (by decide +kernel) rfl, yf_X9_make⟩
theorem yf_X10_grant : Cond.instanceMethod yX10_grant ∈ jq_T ∧ Cond.selects (yX10_grant).cls yX10_grant yX10_grant ∈ jq_T ∧ Cond.initialized (yX10_grant).cls ∈ jq_T ∧ Cond.code yX10_grant cX10_grant 1 (some .boolean) ∈ jq_T ∧ ((yX10_grant).cls ≠ "java/lang/invoke/MethodHandle" ∧ (yX10_grant).cls ≠ "java/lang/invoke/VarHandle" ∧ (parseMethodDescriptor (yX10_grant).desc).map (fun d => d.parameters.length) = some 0) := ⟨jq_in 610 (by decide +kernel) rfl, jq_in 2 (by decide +kernel) rfl, jq_in 138 (by decide +kernel) rfl, jq_in 611 (by decide +kernel) rfl, ⟨by decide, by decide, by decide +kernel⟩⟩
theorem ml_RX10_105 : jq_vl RX10 105 yX10_grant cX10_grant 1 (some .boolean) 0 := ⟨jq_in 608 (by decide +kernel) rfl, yf_X10_grant⟩
theorem yf_X9_isMissing : Cond.instanceMethod yX9_isMissing ∈ jq_T ∧ Cond.selects (yX9_isMissing).cls yX9_isMissing yX9_isMissing ∈ jq_T ∧ Cond.initialized (yX9_isMissing).cls ∈ jq_T ∧ Cond.code yX9_isMissing cX9_isMissing 1 (some .boolean) ∈ jq_T ∧ ((yX9_isMissing).cls ≠ "java/lang/invoke/MethodHandle" ∧ (yX9_isMissing).cls ≠ "java/lang/invoke/VarHandle" ∧ (parseMethodDescriptor (yX9_isMissing).desc).map (fun d => d.parameters.length) = some 0) := ⟨jq_in 620 (by decide +kernel) rfl, jq_in 621 (by decide +kernel) rfl, jq_in 149 (by decide +kernel) rfl, jq_in 622 (by decide +kernel) rfl, ⟨by decide, by decide, by decide +kernel⟩⟩
theorem ml_RX10_125 : jq_vl RX10 125 yX9_isMissing cX9_isMissing 1 (some .boolean) 0 := ⟨jq_in 619 (by decide +kernel) rfl, yf_X9_isMissing⟩
theorem yf_X9_spans : Cond.instanceMethod yX9_spans ∈ jq_T ∧ Cond.selects (yX9_spans).cls yX9_spans yX9_spans ∈ jq_T ∧ Cond.initialized (yX9_spans).cls ∈ jq_T ∧ Cond.code yX9_spans cX9_spans 3 (some .boolean) ∈ jq_T ∧ ((yX9_spans).cls ≠ "java/lang/invoke/MethodHandle" ∧ (yX9_spans).cls ≠ "java/lang/invoke/VarHandle" ∧ (parseMethodDescriptor (yX9_spans).desc).map (fun d => d.parameters.length) = some 2) := ⟨jq_in 624 (by decide +kernel) rfl, jq_in 625 (by decide +kernel) rfl, jq_in 149 (by decide +kernel) rfl, jq_in 626 (by decide +kernel) rfl, ⟨by decide, by decide, by decide +kernel⟩⟩
theorem ml_RX10_131 : jq_vl RX10 131 yX9_spans cX9_spans 3 (some .boolean) 2 := ⟨jq_in 623 (by decide +kernel) rfl, yf_X9_spans⟩
theorem ml_RX9_22 : jq_vl RX9 22 yX9_spans cX9_spans 3 (some .boolean) 2 := ⟨jq_in 631 (by decide +kernel) rfl, yf_X9_spans⟩
theorem yf_X9_cut : Cond.instanceMethod yX9_cut ∈ jq_T ∧ Cond.selects (yX9_cut).cls yX9_cut yX9_cut ∈ jq_T ∧ Cond.initialized (yX9_cut).cls ∈ jq_T ∧ Cond.code yX9_cut cX9_cut 3 (some .long) ∈ jq_T ∧ ((yX9_cut).cls ≠ "java/lang/invoke/MethodHandle" ∧ (yX9_cut).cls ≠ "java/lang/invoke/VarHandle" ∧ (parseMethodDescriptor (yX9_cut).desc).map (fun d => d.parameters.length) = some 1) := ⟨jq_in 634 (by decide +kernel) rfl, jq_in 3 (by decide +kernel) rfl, jq_in 149 (by decide +kernel) rfl, jq_in 635 (by decide +kernel) rfl, ⟨by decide, by decide, by decide +kernel⟩⟩
theorem ml_RX9_26 : jq_vl RX9 26 yX9_cut cX9_cut 3 (some .long) 1 := ⟨jq_in 632 (by decide +kernel) rfl, yf_X9_cut⟩
theorem yf_X10_whyNoNumbers : Cond.static yX10_whyNoNumbers ∈ jq_T ∧ Cond.initialized (yX10_whyNoNumbers).cls ∈ jq_T ∧ Cond.code yX10_whyNoNumbers cX10_whyNoNumbers 3 (some .int) ∈ jq_T ∧ ((yX10_whyNoNumbers).cls ≠ "java/lang/invoke/MethodHandle" ∧ (yX10_whyNoNumbers).cls ≠ "java/lang/invoke/VarHandle" ∧ (parseMethodDescriptor (yX10_whyNoNumbers).desc).map (fun d => d.parameters.length) = some 3) := ⟨jq_in 617 (by decide +kernel) rfl, jq_in 138 (by decide +kernel) rfl, jq_in 618 (by decide +kernel) rfl, ⟨by decide, by decide, by decide +kernel⟩⟩
theorem ml_RX10_109 : jq_sl RX10 109 yX10_whyNoNumbers cX10_whyNoNumbers 3 (some .int) 3 := ⟨jq_in 616 (by decide +kernel) rfl, yf_X10_whyNoNumbers⟩
theorem yf_X9_put : Cond.instanceMethod yX9_put ∈ jq_T ∧ Cond.selects (yX9_put).cls yX9_put yX9_put ∈ jq_T ∧ Cond.initialized (yX9_put).cls ∈ jq_T ∧ Cond.code yX9_put cX9_put 4 none ∈ jq_T ∧ ((yX9_put).cls ≠ "java/lang/invoke/MethodHandle" ∧ (yX9_put).cls ≠ "java/lang/invoke/VarHandle" ∧ (parseMethodDescriptor (yX9_put).desc).map (fun d => d.parameters.length) = some 2) := ⟨jq_in 628 (by decide +kernel) rfl, jq_in 629 (by decide +kernel) rfl, jq_in 149 (by decide +kernel) rfl, jq_in 630 (by decide +kernel) rfl, ⟨by decide, by decide, by decide +kernel⟩⟩
theorem ml_RX10_113 : jq_vl RX10 113 yX9_put cX9_put 4 none 2 := ⟨jq_in 627 (by decide +kernel) rfl, yf_X9_put⟩
theorem yf_X10_refuse : Cond.instanceMethod yX10_refuse ∈ jq_T ∧ Cond.selects (yX10_refuse).cls yX10_refuse yX10_refuse ∈ jq_T ∧ Cond.initialized (yX10_refuse).cls ∈ jq_T ∧ Cond.code yX10_refuse cX10_refuse 2 (some .int) ∈ jq_T ∧ ((yX10_refuse).cls ≠ "java/lang/invoke/MethodHandle" ∧ (yX10_refuse).cls ≠ "java/lang/invoke/VarHandle" ∧ (parseMethodDescriptor (yX10_refuse).desc).map (fun d => d.parameters.length) = some 1) := ⟨jq_in 642 (by decide +kernel) rfl, jq_in 4 (by decide +kernel) rfl, jq_in 138 (by decide +kernel) rfl, jq_in 643 (by decide +kernel) rfl, ⟨by decide, by decide, by decide +kernel⟩⟩
theorem ml_RX10_117 : jq_vl RX10 117 yX10_refuse cX10_refuse 2 (some .int) 1 := ⟨jq_in 640 (by decide +kernel) rfl, yf_X10_refuse⟩
theorem yf_X9_numberAt : Cond.instanceMethod yX9_numberAt ∈ jq_T ∧ Cond.selects (yX9_numberAt).cls yX9_numberAt yX9_numberAt ∈ jq_T ∧ Cond.initialized (yX9_numberAt).cls ∈ jq_T ∧ Cond.code yX9_numberAt cX9_numberAt 2 (some .long) ∈ jq_T ∧ ((yX9_numberAt).cls ≠ "java/lang/invoke/MethodHandle" ∧ (yX9_numberAt).cls ≠ "java/lang/invoke/VarHandle" ∧ (parseMethodDescriptor (yX9_numberAt).desc).map (fun d => d.parameters.length) = some 1) := ⟨jq_in 645 (by decide +kernel) rfl, jq_in 646 (by decide +kernel) rfl, jq_in 149 (by decide +kernel) rfl, jq_in 647 (by decide +kernel) rfl, ⟨by decide, by decide, by decide +kernel⟩⟩
theorem ml_RX10_121 : jq_vl RX10 121 yX9_numberAt cX9_numberAt 2 (some .long) 1 := ⟨jq_in 644 (by decide +kernel) rfl, yf_X9_numberAt⟩
theorem fl_RX10_128 : jq_fl RX10 128 6 3 0 false := ⟨RX9, TX9, tyX9, cls_X9, by decide, jq_in 511 (by decide +kernel) rfl, by decide⟩
theorem fl_RX10_135 : jq_fl RX10 135 6 3 2 true := ⟨RX9, TX9, tyX9, cls_X9, by decide, jq_in 514 (by decide +kernel) rfl, by decide⟩
theorem aw_RX10_139 : Cond.methodLink RX10 139 arraycopyName ∈ jq_T := jq_in 652 (by decide +kernel) rfl
theorem awn : Cond.native arraycopyName ∈ jq_T := jq_in 654 (by decide +kernel) rfl
theorem aws : Cond.static arraycopyName ∈ jq_T := jq_in 653 (by decide +kernel) rfl
theorem awi : Cond.initialized "java/lang/System" ∈ jq_T := jq_in 151 (by decide +kernel) rfl
theorem fl_RX5_37 : jq_fl RX5 37 3 14 2 false := ⟨RX5, TX5, tyX5, cls_X5, by decide, jq_in 228 (by decide +kernel) rfl, by decide⟩
theorem fl_RX5_15 : jq_fl RX5 15 3 14 1 true := ⟨RX5, TX5, tyX5, cls_X5, by decide, jq_in 227 (by decide +kernel) rfl, by decide⟩
theorem fl_RX10_18 : jq_fl RX10 18 7 18 4 true := ⟨RX10, TX10, tyX10, cls_X10, by decide, jq_in 526 (by decide +kernel) rfl, by decide⟩
theorem fl_RX10_145 : jq_fl RX10 145 3 14 2 false := ⟨RX5, TX5, tyX5, cls_X5, by decide, jq_in 229 (by decide +kernel) rfl, by decide⟩
theorem yf_X5_add : Cond.instanceMethod yX5_add ∈ jq_T ∧ Cond.selects (yX5_add).cls yX5_add yX5_add ∈ jq_T ∧ Cond.initialized (yX5_add).cls ∈ jq_T ∧ Cond.code yX5_add cX5_add 3 none ∈ jq_T ∧ ((yX5_add).cls ≠ "java/lang/invoke/MethodHandle" ∧ (yX5_add).cls ≠ "java/lang/invoke/VarHandle" ∧ (parseMethodDescriptor (yX5_add).desc).map (fun d => d.parameters.length) = some 1) := ⟨jq_in 660 (by decide +kernel) rfl, jq_in 661 (by decide +kernel) rfl, jq_in 139 (by decide +kernel) rfl, jq_in 662 (by decide +kernel) rfl, ⟨by decide, by decide, by decide +kernel⟩⟩
theorem ml_RX10_148 : jq_vl RX10 148 yX5_add cX5_add 3 none 1 := ⟨jq_in 659 (by decide +kernel) rfl, yf_X5_add⟩
theorem fl_RX5_49 : jq_fl RX5 49 3 14 4 false := ⟨RX5, TX5, tyX5, cls_X5, by decide, jq_in 231 (by decide +kernel) rfl, by decide⟩
theorem fl_RX5_47 : jq_fl RX5 47 3 14 3 false := ⟨RX5, TX5, tyX5, cls_X5, by decide, jq_in 230 (by decide +kernel) rfl, by decide⟩
theorem kc_RX5_35 : Cond.constantLong RX5 35 (Int64.ofInt (97)) ∈ jq_T := jq_in 225 (by decide +kernel) rfl
theorem fl_RX5_61 : jq_fl RX5 61 3 14 5 false := ⟨RX5, TX5, tyX5, cls_X5, by decide, jq_in 232 (by decide +kernel) rfl, by decide⟩
theorem yf_X5_here : Cond.instanceMethod yX5_here ∈ jq_T ∧ Cond.selects (yX5_here).cls yX5_here yX5_here ∈ jq_T ∧ Cond.initialized (yX5_here).cls ∈ jq_T ∧ Cond.code yX5_here cX5_here 1 (some .int) ∈ jq_T ∧ ((yX5_here).cls ≠ "java/lang/invoke/MethodHandle" ∧ (yX5_here).cls ≠ "java/lang/invoke/VarHandle" ∧ (parseMethodDescriptor (yX5_here).desc).map (fun d => d.parameters.length) = some 0) := ⟨jq_in 680 (by decide +kernel) rfl, jq_in 5 (by decide +kernel) rfl, jq_in 139 (by decide +kernel) rfl, jq_in 681 (by decide +kernel) rfl, ⟨by decide, by decide, by decide +kernel⟩⟩
theorem ml_RX5_67 : jq_vl RX5 67 yX5_here cX5_here 1 (some .int) 0 := ⟨jq_in 678 (by decide +kernel) rfl, yf_X5_here⟩
theorem yf_X5_isLetter : Cond.static yX5_isLetter ∈ jq_T ∧ Cond.initialized (yX5_isLetter).cls ∈ jq_T ∧ Cond.code yX5_isLetter cX5_isLetter 1 (some .boolean) ∈ jq_T ∧ ((yX5_isLetter).cls ≠ "java/lang/invoke/MethodHandle" ∧ (yX5_isLetter).cls ≠ "java/lang/invoke/VarHandle" ∧ (parseMethodDescriptor (yX5_isLetter).desc).map (fun d => d.parameters.length) = some 1) := ⟨jq_in 686 (by decide +kernel) rfl, jq_in 139 (by decide +kernel) rfl, jq_in 687 (by decide +kernel) rfl, ⟨by decide, by decide, by decide +kernel⟩⟩
theorem ml_RX5_85 : jq_sl RX5 85 yX5_isLetter cX5_isLetter 1 (some .boolean) 1 := ⟨jq_in 685 (by decide +kernel) rfl, yf_X5_isLetter⟩
theorem yf_X5_withLetter : Cond.static yX5_withLetter ∈ jq_T ∧ Cond.initialized (yX5_withLetter).cls ∈ jq_T ∧ Cond.code yX5_withLetter cX5_withLetter 3 (some .long) ∈ jq_T ∧ ((yX5_withLetter).cls ≠ "java/lang/invoke/MethodHandle" ∧ (yX5_withLetter).cls ≠ "java/lang/invoke/VarHandle" ∧ (parseMethodDescriptor (yX5_withLetter).desc).map (fun d => d.parameters.length) = some 2) := ⟨jq_in 223 (by decide +kernel) rfl, jq_in 139 (by decide +kernel) rfl, jq_in 224 (by decide +kernel) rfl, ⟨by decide, by decide, by decide +kernel⟩⟩
theorem ml_RX5_31 : jq_sl RX5 31 yX5_withLetter cX5_withLetter 3 (some .long) 2 := ⟨jq_in 222 (by decide +kernel) rfl, yf_X5_withLetter⟩
theorem fl_RX5_64 : jq_fl RX5 64 3 14 6 false := ⟨RX5, TX5, tyX5, cls_X5, by decide, jq_in 233 (by decide +kernel) rfl, by decide⟩
theorem fl_RX5_77 : jq_fl RX5 77 3 14 9 false := ⟨RX5, TX5, tyX5, cls_X5, by decide, jq_in 236 (by decide +kernel) rfl, by decide⟩
theorem fl_RX5_9 : jq_fl RX5 9 3 14 0 true := ⟨RX5, TX5, tyX5, cls_X5, by decide, jq_in 226 (by decide +kernel) rfl, by decide⟩
theorem fl_RX5_74 : jq_fl RX5 74 3 14 11 false := ⟨RX5, TX5, tyX5, cls_X5, by decide, jq_in 240 (by decide +kernel) rfl, by decide⟩
theorem fl_RX5_81 : jq_fl RX5 81 3 14 10 false := ⟨RX5, TX5, tyX5, cls_X5, by decide, jq_in 237 (by decide +kernel) rfl, by decide⟩
theorem fl_RX5_100 : jq_fl RX5 100 3 14 7 false := ⟨RX5, TX5, tyX5, cls_X5, by decide, jq_in 234 (by decide +kernel) rfl, by decide⟩
theorem yf_X5_isDigit : Cond.static yX5_isDigit ∈ jq_T ∧ Cond.initialized (yX5_isDigit).cls ∈ jq_T ∧ Cond.code yX5_isDigit cX5_isDigit 1 (some .boolean) ∈ jq_T ∧ ((yX5_isDigit).cls ≠ "java/lang/invoke/MethodHandle" ∧ (yX5_isDigit).cls ≠ "java/lang/invoke/VarHandle" ∧ (parseMethodDescriptor (yX5_isDigit).desc).map (fun d => d.parameters.length) = some 1) := ⟨jq_in 693 (by decide +kernel) rfl, jq_in 139 (by decide +kernel) rfl, jq_in 694 (by decide +kernel) rfl, ⟨by decide, by decide, by decide +kernel⟩⟩
theorem ml_RX5_91 : jq_sl RX5 91 yX5_isDigit cX5_isDigit 1 (some .boolean) 1 := ⟨jq_in 692 (by decide +kernel) rfl, yf_X5_isDigit⟩
theorem fl_RX5_103 : jq_fl RX5 103 3 14 8 false := ⟨RX5, TX5, tyX5, cls_X5, by decide, jq_in 235 (by decide +kernel) rfl, by decide⟩
theorem dX10_status_0 : decode cX10_status 0 = .ok (.aload_n 0, 1) := by decide +kernel
theorem dX10_status_1 : decode cX10_status 1 = .ok (.getfield 71, 3) := by decide +kernel
theorem dX10_status_4 : decode cX10_status 4 = .ok (.ireturn, 1) := by decide +kernel
set_option maxHeartbeats 4000000 in
set_option maxRecDepth 100000 in
theorem ctX10_status  {σ : jq_M} {res : Int}  (h : X10_status σ = some res) : jq_MC jq_zX yX10_status cX10_status 1 (some .int) 1 40 [jR 0] σ (some (jI res)) σ := by
  refine jq_met (own := RX10) (L0 := [(0, jR 0)]) (by decide) rfl rfl rfl ?_
  intro X Γ hnl hlY hRT
  refine jq_use2 (P := fun r => jq_RT jq_zX X (some .int) (some (jI r)) σ) ?_ h hRT
  intro K0 hK0
  unfold X10_status
  refine jq_aload_n Γ dX10_status_0 rfl 0 rfl (jq_at_0 at_X_0) ?_
  refine jq_getI (J := 0) Γ at_X_0 fl_RX10_71 rfl rfl dX10_status_1 ?_
  exact jq_ireturn Γ dX10_status_4 (hK0 _)


theorem dX10_top_0 : decode cX10_top 0 = .ok (.aload_n 0, 1) := by decide +kernel
theorem dX10_top_1 : decode cX10_top 1 = .ok (.getfield 75, 3) := by decide +kernel
theorem dX10_top_4 : decode cX10_top 4 = .ok (.lreturn, 1) := by decide +kernel
set_option maxHeartbeats 4000000 in
set_option maxRecDepth 100000 in
theorem ctX10_top  {σ : jq_M} {res : Int}  (h : X10_top σ = some res) : jq_MC jq_zX yX10_top cX10_top 1 (some .long) 1 40 [jR 0] σ (some (jL res)) σ := by
  refine jq_met (own := RX10) (L0 := [(0, jR 0)]) (by decide) rfl rfl rfl ?_
  intro X Γ hnl hlY hRT
  refine jq_use2 (P := fun r => jq_RT jq_zX X (some .long) (some (jL r)) σ) ?_ h hRT
  intro K0 hK0
  unfold X10_top
  refine jq_aload_n Γ dX10_top_0 rfl 0 rfl (jq_at_0 at_X_0) ?_
  refine jq_getL (J := 1) Γ at_X_0 fl_RX10_75 rfl rfl dX10_top_1 ?_
  exact jq_lreturn Γ dX10_top_4 (hK0 _)


theorem dX10_bottom_0 : decode cX10_bottom 0 = .ok (.aload_n 0, 1) := by decide +kernel
theorem dX10_bottom_1 : decode cX10_bottom 1 = .ok (.getfield 79, 3) := by decide +kernel
theorem dX10_bottom_4 : decode cX10_bottom 4 = .ok (.lreturn, 1) := by decide +kernel
set_option maxHeartbeats 4000000 in
set_option maxRecDepth 100000 in
theorem ctX10_bottom  {σ : jq_M} {res : Int}  (h : X10_bottom σ = some res) : jq_MC jq_zX yX10_bottom cX10_bottom 1 (some .long) 1 40 [jR 0] σ (some (jL res)) σ := by
  refine jq_met (own := RX10) (L0 := [(0, jR 0)]) (by decide) rfl rfl rfl ?_
  intro X Γ hnl hlY hRT
  refine jq_use2 (P := fun r => jq_RT jq_zX X (some .long) (some (jL r)) σ) ?_ h hRT
  intro K0 hK0
  unfold X10_bottom
  refine jq_aload_n Γ dX10_bottom_0 rfl 0 rfl (jq_at_0 at_X_0) ?_
  refine jq_getL (J := 2) Γ at_X_0 fl_RX10_79 rfl rfl dX10_bottom_1 ?_
  exact jq_lreturn Γ dX10_bottom_4 (hK0 _)


theorem dX10_trayAt_0 : decode cX10_trayAt 0 = .ok (.iload_n 1, 1) := by decide +kernel
theorem dX10_trayAt_1 : decode cX10_trayAt 1 = .ok (.ifCond .lt 21, 3) := by decide +kernel
theorem dX10_trayAt_4 : decode cX10_trayAt 4 = .ok (.iload_n 1, 1) := by decide +kernel
theorem dX10_trayAt_5 : decode cX10_trayAt 5 = .ok (.aload_n 0, 1) := by decide +kernel
theorem dX10_trayAt_6 : decode cX10_trayAt 6 = .ok (.getfield 11, 3) := by decide +kernel
theorem dX10_trayAt_9 : decode cX10_trayAt 9 = .ok (.arraylength, 1) := by decide +kernel
theorem dX10_trayAt_10 : decode cX10_trayAt 10 = .ok (.if_icmp .ge 12, 3) := by decide +kernel
theorem dX10_trayAt_13 : decode cX10_trayAt 13 = .ok (.aload_n 0, 1) := by decide +kernel
theorem dX10_trayAt_14 : decode cX10_trayAt 14 = .ok (.getfield 11, 3) := by decide +kernel
theorem dX10_trayAt_17 : decode cX10_trayAt 17 = .ok (.iload_n 1, 1) := by decide +kernel
theorem dX10_trayAt_18 : decode cX10_trayAt 18 = .ok (.aaload, 1) := by decide +kernel
theorem dX10_trayAt_19 : decode cX10_trayAt 19 = .ok (.goto 4, 3) := by decide +kernel
theorem dX10_trayAt_22 : decode cX10_trayAt 22 = .ok (.aconst_null, 1) := by decide +kernel
theorem dX10_trayAt_23 : decode cX10_trayAt 23 = .ok (.areturn, 1) := by decide +kernel
set_option maxHeartbeats 4000000 in
set_option maxRecDepth 100000 in
theorem ctX10_trayAt {p1 : Int} {σ : jq_M} {res : Int}  (h : X10_trayAt p1 σ = some res) : jq_MC jq_zX yX10_trayAt cX10_trayAt 2 (some (.object "StandTable$Tray")) 1 40 [jR 0, jI p1] σ (some (jR res)) σ := by
  refine jq_met (own := RX10) (L0 := [(0, jR 0), (1, jI p1)]) (by decide) rfl rfl rfl ?_
  intro X Γ hnl hlY hRT
  refine jq_use2 (P := fun r => jq_RT jq_zX X (some (.object "StandTable$Tray")) (some (jR r)) σ) ?_ h hRT
  intro K0 hK0
  unfold X10_trayAt
  refine jq_iload_n Γ dX10_trayAt_0 rfl 1 rfl ?_
  refine jq_if_lt (tgt := 22) Γ dX10_trayAt_1 rfl ?_ ?_
  · refine jq_null Γ dX10_trayAt_22 ?_
    exact jq_areturn Γ ⟨_, rfl⟩ dX10_trayAt_23 (hK0 _)
  · refine jq_iload_n Γ dX10_trayAt_4 rfl 1 rfl ?_
    refine jq_aload_n Γ dX10_trayAt_5 rfl 0 rfl (jq_at_0 at_X_0) ?_
    refine jq_getR (v := 1) Γ hlY at_X_0 fl_RX10_11 rfl rfl ly_X10_trays dX10_trayAt_6 ?_
    refine jq_alen Γ at_X_1 rfl rfl rfl dX10_trayAt_9 ?_
    refine jq_icmp_ge (tgt := 22) Γ dX10_trayAt_10 rfl ?_ ?_
    · refine jq_null Γ dX10_trayAt_22 ?_
      exact jq_areturn Γ ⟨_, rfl⟩ dX10_trayAt_23 (hK0 _)
    · refine jq_aload_n Γ dX10_trayAt_13 rfl 0 rfl (jq_at_0 at_X_0) ?_
      refine jq_getR (v := 1) Γ hlY at_X_0 fl_RX10_11 rfl rfl ly_X10_trays dX10_trayAt_14 ?_
      refine jq_iload_n Γ dX10_trayAt_17 rfl 1 rfl ?_
      refine jq_aald3 Γ hlY at_X_1 rfl (fun i => 64 + 2 * i) ly_trays_at dX10_trayAt_18 (fun i1 ha2 hb3 => ?_)
      refine jq_goto Γ (tgt := 23) dX10_trayAt_19 rfl ?_
      exact jq_areturn Γ ⟨_, rfl⟩ dX10_trayAt_23 (hK0 _)


theorem dX10_within_0 : decode cX10_within 0 = .ok (.iload_n 0, 1) := by decide +kernel
theorem dX10_within_1 : decode cX10_within 1 = .ok (.iload_n 1, 1) := by decide +kernel
theorem dX10_within_2 : decode cX10_within 2 = .ok (.if_icmp .lt 12, 3) := by decide +kernel
theorem dX10_within_5 : decode cX10_within 5 = .ok (.iload_n 0, 1) := by decide +kernel
theorem dX10_within_6 : decode cX10_within 6 = .ok (.iload_n 2, 1) := by decide +kernel
theorem dX10_within_7 : decode cX10_within 7 = .ok (.if_icmp .gt 7, 3) := by decide +kernel
theorem dX10_within_10 : decode cX10_within 10 = .ok (.iconst 1, 1) := by decide +kernel
theorem dX10_within_11 : decode cX10_within 11 = .ok (.goto 4, 3) := by decide +kernel
theorem dX10_within_14 : decode cX10_within 14 = .ok (.iconst 0, 1) := by decide +kernel
theorem dX10_within_15 : decode cX10_within 15 = .ok (.ireturn, 1) := by decide +kernel
set_option maxHeartbeats 4000000 in
set_option maxRecDepth 100000 in
theorem ctX10_within {p0 : Int} {p1 : Int} {p2 : Int} {σ : jq_M} {res : Int}  (h : X10_within p0 p1 p2 σ = some res) : jq_MC jq_zX yX10_within cX10_within 3 (some .boolean) 1 40 [jI p0, jI p1, jI p2] σ (some (jI res)) σ := by
  refine jq_met (own := RX10) (L0 := [(0, jI p0), (1, jI p1), (2, jI p2)]) (by decide) rfl rfl rfl ?_
  intro X Γ hnl hlY hRT
  refine jq_use2 (P := fun r => jq_RT jq_zX X (some .boolean) (some (jI r)) σ) ?_ h hRT
  intro K0 hK0
  unfold X10_within
  refine jq_iload_n Γ dX10_within_0 rfl 0 rfl ?_
  refine jq_iload_n Γ dX10_within_1 rfl 1 rfl ?_
  refine jq_icmp_lt (tgt := 14) Γ dX10_within_2 rfl ?_ ?_
  · refine jq_iconst Γ dX10_within_14 rfl ?_
    exact jq_zreturn Γ (Or.inl rfl) dX10_within_15 (hK0 _)
  · refine jq_iload_n Γ dX10_within_5 rfl 0 rfl ?_
    refine jq_iload_n Γ dX10_within_6 rfl 2 rfl ?_
    refine jq_icmp_gt (tgt := 14) Γ dX10_within_7 rfl ?_ ?_
    · refine jq_iconst Γ dX10_within_14 rfl ?_
      exact jq_zreturn Γ (Or.inl rfl) dX10_within_15 (hK0 _)
    · refine jq_iconst Γ dX10_within_10 rfl ?_
      refine jq_goto Γ (tgt := 15) dX10_within_11 rfl ?_
      exact jq_zreturn Γ (Or.inr rfl) dX10_within_15 (hK0 _)


theorem dX10_deny_0 : decode cX10_deny 0 = .ok (.aload_n 0, 1) := by decide +kernel
theorem dX10_deny_1 : decode cX10_deny 1 = .ok (.iload_n 1, 1) := by decide +kernel
theorem dX10_deny_2 : decode cX10_deny 2 = .ok (.putfield 71, 3) := by decide +kernel
theorem dX10_deny_5 : decode cX10_deny 5 = .ok (.iconst 0, 1) := by decide +kernel
theorem dX10_deny_6 : decode cX10_deny 6 = .ok (.ireturn, 1) := by decide +kernel
set_option maxHeartbeats 4000000 in
set_option maxRecDepth 100000 in
theorem ctX10_deny {p1 : Int} {σ : jq_M} {res : Int} {σ' : jq_M}  (h : X10_deny p1 σ = some (res, σ')) : jq_MC jq_zX yX10_deny cX10_deny 2 (some .boolean) 1 40 [jR 0, jI p1] σ (some (jI res)) σ' := by
  refine jq_met (own := RX10) (L0 := [(0, jR 0), (1, jI p1)]) (by decide) rfl rfl rfl ?_
  intro X Γ hnl hlY hRT
  refine jq_use2 (P := fun r => jq_RT jq_zX X (some .boolean) (some (jI r.1)) r.2) ?_ h hRT
  intro K0 hK0
  unfold X10_deny
  refine jq_aload_n Γ dX10_deny_0 rfl 0 rfl (jq_at_0 at_X_0) ?_
  refine jq_iload_n Γ dX10_deny_1 rfl 1 rfl ?_
  refine jq_putI Γ at_X_0 fl_RX10_71 rfl rfl dX10_deny_2 (fun s1 => ?_)
  refine jq_iconst Γ dX10_deny_5 rfl ?_
  exact jq_zreturn Γ (Or.inl rfl) dX10_deny_6 (hK0 _)


theorem dX9_make_0 : decode cX9_make 0 = .ok (.aload_n 0, 1) := by decide +kernel
theorem dX9_make_1 : decode cX9_make 1 = .ok (.iload_n 1, 1) := by decide +kernel
theorem dX9_make_2 : decode cX9_make 2 = .ok (.putfield 9, 3) := by decide +kernel
theorem dX9_make_5 : decode cX9_make 5 = .ok (.aload_n 0, 1) := by decide +kernel
theorem dX9_make_6 : decode cX9_make 6 = .ok (.iload_n 2, 1) := by decide +kernel
theorem dX9_make_7 : decode cX9_make 7 = .ok (.putfield 19, 3) := by decide +kernel
theorem dX9_make_10 : decode cX9_make 10 = .ok (.iconst 0, 1) := by decide +kernel
theorem dX9_make_11 : decode cX9_make 11 = .ok (.istore_n 3, 1) := by decide +kernel
theorem dX9_make_12 : decode cX9_make 12 = .ok (.iload_n 3, 1) := by decide +kernel
theorem dX9_make_13 : decode cX9_make 13 = .ok (.aload_n 0, 1) := by decide +kernel
theorem dX9_make_14 : decode cX9_make 14 = .ok (.getfield 15, 3) := by decide +kernel
theorem dX9_make_17 : decode cX9_make 17 = .ok (.arraylength, 1) := by decide +kernel
theorem dX9_make_18 : decode cX9_make 18 = .ok (.if_icmp .ge 16, 3) := by decide +kernel
theorem dX9_make_21 : decode cX9_make 21 = .ok (.aload_n 0, 1) := by decide +kernel
theorem dX9_make_22 : decode cX9_make 22 = .ok (.getfield 15, 3) := by decide +kernel
theorem dX9_make_25 : decode cX9_make 25 = .ok (.iload_n 3, 1) := by decide +kernel
theorem dX9_make_26 : decode cX9_make 26 = .ok (.lconst 0, 1) := by decide +kernel
theorem dX9_make_27 : decode cX9_make 27 = .ok (.lastore, 1) := by decide +kernel
theorem dX9_make_28 : decode cX9_make 28 = .ok (.iinc 3 1, 3) := by decide +kernel
theorem dX9_make_31 : decode cX9_make 31 = .ok (.goto (-19), 3) := by decide +kernel
theorem dX9_make_34 : decode cX9_make 34 = .ok (.return_, 1) := by decide +kernel
set_option maxHeartbeats 4000000 in
set_option maxRecDepth 100000 in
theorem ctX9_make {o : Int} {p1 : Int} {p2 : Int} {σ : jq_M} {σ' : jq_M} (ho : jq_trp o) (h : X9_make o p1 p2 σ = some σ') : jq_MC jq_zX yX9_make cX9_make 4 none 1 40 [jR o, jI p1, jI p2] σ none σ' := by
  refine jq_met (own := RX9) (L0 := [(0, jR o), (1, jI p1), (2, jI p2)]) (by decide) rfl rfl rfl ?_
  intro X Γ hnl hlY hRT
  refine jq_use2 (P := fun r => jq_RT jq_zX X none none r) ?_ h hRT
  intro K0 hK0
  unfold X9_make
  refine jq_aload_n Γ dX9_make_0 rfl 0 rfl (jq_at_0 (at_trp ho)) ?_
  refine jq_iload_n Γ dX9_make_1 rfl 1 rfl ?_
  refine jq_putI Γ (at_trp ho) fl_RX9_9 rfl rfl dX9_make_2 (fun s1 => ?_)
  refine jq_aload_n Γ dX9_make_5 rfl 0 rfl (jq_at_0 (at_trp ho)) ?_
  refine jq_iload_n Γ dX9_make_6 rfl 2 rfl ?_
  refine jq_putI Γ (at_trp ho) fl_RX9_19 rfl rfl dX9_make_7 (fun s2 => ?_)
  refine jq_iconst Γ dX9_make_10 rfl ?_
  refine jq_istore_n (L' := [(3, jI 0), (0, jR o), (1, jI p1), (2, jI p2)]) Γ dX9_make_11 rfl hnl rfl rfl ?_
  refine jq_sub Γ (L' := [(0, jR o), (3, jI 0)]) [1, 0] rfl ?_
  refine jq_loop2 (C := fun (t3 : Int × jq_M) => jq_V jq_zX X (jq_zN jq_zX) t3.2 12 [(0, jR o), (3, jI t3.1)] []) (KX := fun (e6 : jq_M) => jq_V jq_zX X (jq_zN jq_zX) e6 34 [] []) ?_ ?_ (0, s2)
  · intro K12_t3 hCt3 hXt3 t3
    unfold X9_make_b12
    refine jq_iload_n Γ dX9_make_12 rfl 1 rfl ?_
    refine jq_aload_n Γ dX9_make_13 rfl 0 rfl (jq_at_0 (at_trp ho)) ?_
    refine jq_getR (v := (o + 1)) Γ hlY (at_trp ho) fl_RX9_15 rfl rfl (ly_X9_row ho) dX9_make_14 ?_
    refine jq_alen Γ (at_trp_1 ho) rfl rfl rfl dX9_make_17 ?_
    refine jq_icmp_ge (tgt := 34) Γ dX9_make_18 rfl ?_ ?_
    · refine jq_sub Γ (L' := []) [] rfl ?_
      exact jq_done (hXt3 t3.2)
    · refine jq_aload_n Γ dX9_make_21 rfl 0 rfl (jq_at_0 (at_trp ho)) ?_
      refine jq_getR (v := (o + 1)) Γ hlY (at_trp ho) fl_RX9_15 rfl rfl (ly_X9_row ho) dX9_make_22 ?_
      refine jq_iload_n Γ dX9_make_25 rfl 1 rfl ?_
      refine jq_lconst Γ 0 dX9_make_26 rfl rfl ?_
      refine jq_last Γ (at_trp_1 ho) rfl dX9_make_27 (fun s4 => ?_)
      refine jq_iincN (L' := fun v5 => [(3, jI v5), (0, jR o)]) Γ dX9_make_28 1 rfl hnl rfl (fun _ => rfl) (fun v5 => ?_)
      refine jq_goto Γ (tgt := 12) dX9_make_31 rfl ?_
      refine jq_sub Γ (L' := [(0, jR o), (3, jI v5)]) [1, 0] rfl ?_
      exact jq_done (hCt3 (v5, s4))
  · intro e6
    exact jq_vreturn Γ dX9_make_34 (hK0 _)


theorem dX10_grant_0 : decode cX10_grant 0 = .ok (.aload_n 0, 1) := by decide +kernel
theorem dX10_grant_1 : decode cX10_grant 1 = .ok (.iconst 0, 1) := by decide +kernel
theorem dX10_grant_2 : decode cX10_grant 2 = .ok (.putfield 71, 3) := by decide +kernel
theorem dX10_grant_5 : decode cX10_grant 5 = .ok (.iconst 1, 1) := by decide +kernel
theorem dX10_grant_6 : decode cX10_grant 6 = .ok (.ireturn, 1) := by decide +kernel
set_option maxHeartbeats 4000000 in
set_option maxRecDepth 100000 in
theorem ctX10_grant  {σ : jq_M} {res : Int} {σ' : jq_M}  (h : X10_grant σ = some (res, σ')) : jq_MC jq_zX yX10_grant cX10_grant 1 (some .boolean) 1 40 [jR 0] σ (some (jI res)) σ' := by
  refine jq_met (own := RX10) (L0 := [(0, jR 0)]) (by decide) rfl rfl rfl ?_
  intro X Γ hnl hlY hRT
  refine jq_use2 (P := fun r => jq_RT jq_zX X (some .boolean) (some (jI r.1)) r.2) ?_ h hRT
  intro K0 hK0
  unfold X10_grant
  refine jq_aload_n Γ dX10_grant_0 rfl 0 rfl (jq_at_0 at_X_0) ?_
  refine jq_iconst Γ dX10_grant_1 rfl ?_
  refine jq_putI Γ at_X_0 fl_RX10_71 rfl rfl dX10_grant_2 (fun s1 => ?_)
  refine jq_iconst Γ dX10_grant_5 rfl ?_
  exact jq_zreturn Γ (Or.inr rfl) dX10_grant_6 (hK0 _)


theorem dX10_tray_0 : decode cX10_tray 0 = .ok (.aload_n 0, 1) := by decide +kernel
theorem dX10_tray_1 : decode cX10_tray 1 = .ok (.iload_n 1, 1) := by decide +kernel
theorem dX10_tray_2 : decode cX10_tray 2 = .ok (.invokevirtual 89, 3) := by decide +kernel
theorem dX10_tray_5 : decode cX10_tray 5 = .ok (.astore 4, 2) := by decide +kernel
theorem dX10_tray_7 : decode cX10_tray 7 = .ok (.aload 4, 2) := by decide +kernel
theorem dX10_tray_9 : decode cX10_tray 9 = .ok (.ifnull 22, 3) := by decide +kernel
theorem dX10_tray_12 : decode cX10_tray 12 = .ok (.iload_n 2, 1) := by decide +kernel
theorem dX10_tray_13 : decode cX10_tray 13 = .ok (.iconst 0, 1) := by decide +kernel
theorem dX10_tray_14 : decode cX10_tray 14 = .ok (.iconst 3, 1) := by decide +kernel
theorem dX10_tray_15 : decode cX10_tray 15 = .ok (.invokestatic 93, 3) := by decide +kernel
theorem dX10_tray_18 : decode cX10_tray 18 = .ok (.ifCond .eq 13, 3) := by decide +kernel
theorem dX10_tray_21 : decode cX10_tray 21 = .ok (.iload_n 3, 1) := by decide +kernel
theorem dX10_tray_22 : decode cX10_tray 22 = .ok (.iconst 0, 1) := by decide +kernel
theorem dX10_tray_23 : decode cX10_tray 23 = .ok (.bipush 60, 2) := by decide +kernel
theorem dX10_tray_25 : decode cX10_tray 25 = .ok (.invokestatic 93, 3) := by decide +kernel
theorem dX10_tray_28 : decode cX10_tray 28 = .ok (.ifCond .ne 9, 3) := by decide +kernel
theorem dX10_tray_31 : decode cX10_tray 31 = .ok (.aload_n 0, 1) := by decide +kernel
theorem dX10_tray_32 : decode cX10_tray 32 = .ok (.iconst 1, 1) := by decide +kernel
theorem dX10_tray_33 : decode cX10_tray 33 = .ok (.invokevirtual 97, 3) := by decide +kernel
theorem dX10_tray_36 : decode cX10_tray 36 = .ok (.ireturn, 1) := by decide +kernel
theorem dX10_tray_37 : decode cX10_tray 37 = .ok (.aload 4, 2) := by decide +kernel
theorem dX10_tray_39 : decode cX10_tray 39 = .ok (.iload_n 2, 1) := by decide +kernel
theorem dX10_tray_40 : decode cX10_tray 40 = .ok (.iload_n 3, 1) := by decide +kernel
theorem dX10_tray_41 : decode cX10_tray 41 = .ok (.invokevirtual 101, 3) := by decide +kernel
theorem dX10_tray_44 : decode cX10_tray 44 = .ok (.aload_n 0, 1) := by decide +kernel
theorem dX10_tray_45 : decode cX10_tray 45 = .ok (.invokevirtual 105, 3) := by decide +kernel
theorem dX10_tray_48 : decode cX10_tray 48 = .ok (.ireturn, 1) := by decide +kernel
set_option maxHeartbeats 4000000 in
set_option maxRecDepth 100000 in
theorem ctX10_tray {p1 : Int} {p2 : Int} {p3 : Int} {σ : jq_M} {res : Int} {σ' : jq_M}  (h : X10_tray p1 p2 p3 σ = some (res, σ')) : jq_MC jq_zX yX10_tray cX10_tray 5 (some .boolean) 2 63 [jR 0, jI p1, jI p2, jI p3] σ (some (jI res)) σ' := by
  refine jq_met (own := RX10) (L0 := [(0, jR 0), (1, jI p1), (2, jI p2), (3, jI p3)]) (by decide) rfl rfl rfl ?_
  intro X Γ hnl hlY hRT
  refine jq_use2 (P := fun r => jq_RT jq_zX X (some .boolean) (some (jI r.1)) r.2) ?_ h hRT
  intro K0 hK0
  unfold X10_tray
  have hj31_0 : ∀ (s5 : jq_M), jq_J (X10_tray_j31 s5) K0 (jq_V jq_zX X (jq_zN jq_zX) s5 31 [(0, jR 0)] []) := by
    intro s5
    unfold X10_tray_j31
    refine jq_aload_n Γ dX10_tray_31 rfl 0 rfl (jq_at_0 at_X_0) ?_
    refine jq_iconst Γ dX10_tray_32 rfl ?_
    refine jq_cwZ (jq_virt (avs := [jI 1]) (st := []) Γ hlY rfl ml_RX10_97 rfl at_X_0 rfl rfl rfl rfl rfl dX10_tray_33) rfl (fun r σ' h => ctX10_deny h) (fun v6 s7 hz8 => ?_)
    exact jq_zreturn Γ (hz8) dX10_tray_36 (hK0 _)
  refine jq_aload_n Γ dX10_tray_0 rfl 0 rfl (jq_at_0 at_X_0) ?_
  refine jq_iload_n Γ dX10_tray_1 rfl 1 rfl ?_
  refine jq_cpR (jq_virt (avs := [jI p1]) (st := []) Γ hlY rfl ml_RX10_89 rfl at_X_0 rfl rfl rfl rfl rfl dX10_tray_2) (fun r h => ctX10_trayAt h) (fun v1 => ?_)
  refine jq_trnN (fun v2 hz3 => ?_)
  refine jq_astoreQ (L' := [(4, jR v2), (0, jR 0), (1, jI p1), (2, jI p2), (3, jI p3)]) Γ dX10_tray_5 hnl rfl rfl ?_
  refine jq_aloadQ Γ dX10_tray_7 0 rfl ?_
  refine jq_ifnull (tgt := 31) Γ (jq_trn_0 hz3) dX10_tray_9 rfl (fun _ => ?_) (fun hq4 => ?_)
  · refine jq_sub Γ (L' := [(0, jR 0)]) [1] rfl ?_
    exact hj31_0 σ
  · refine jq_iload_n Γ dX10_tray_12 rfl 3 rfl ?_
    refine jq_iconst Γ dX10_tray_13 rfl ?_
    refine jq_iconst Γ dX10_tray_14 rfl ?_
    refine jq_cpZ (jq_stat (avs := [jI p2, jI 0, jI 3]) (st := []) Γ hlY rfl ml_RX10_93 rfl rfl rfl rfl rfl dX10_tray_15) rfl (fun r h => ctX10_within h) (fun v9 hz10 => ?_)
    refine jq_if_eq (tgt := 31) Γ dX10_tray_18 rfl ?_ ?_
    · refine jq_sub Γ (L' := [(0, jR 0)]) [1] rfl ?_
      exact hj31_0 σ
    · refine jq_iload_n Γ dX10_tray_21 rfl 4 rfl ?_
      refine jq_iconst Γ dX10_tray_22 rfl ?_
      refine jq_bipush Γ dX10_tray_23 rfl ?_
      refine jq_cpZ (jq_stat (avs := [jI p3, jI 0, jI 60]) (st := []) Γ hlY rfl ml_RX10_93 rfl rfl rfl rfl rfl dX10_tray_25) rfl (fun r h => ctX10_within h) (fun v11 hz12 => ?_)
      refine jq_if_ne (tgt := 37) Γ dX10_tray_28 rfl ?_ ?_
      · refine jq_aload Γ dX10_tray_37 0 rfl (jq_at_0 (at_trp (hz3.resolve_left hq4))) ?_
        refine jq_iload_n Γ dX10_tray_39 rfl 3 rfl ?_
        refine jq_iload_n Γ dX10_tray_40 rfl 4 rfl ?_
        refine jq_cwV (jq_virt (avs := [jI p2, jI p3]) (st := []) Γ hlY rfl ml_RX10_101 rfl (at_trp (hz3.resolve_left hq4)) rfl rfl rfl rfl rfl dX10_tray_41) (fun σ' h => ctX9_make (hz3.resolve_left hq4) h) (fun s13 => ?_)
        refine jq_aload_n Γ dX10_tray_44 rfl 1 rfl (jq_at_0 at_X_0) ?_
        refine jq_cwZ (jq_virt (avs := []) (st := []) Γ hlY rfl ml_RX10_105 rfl at_X_0 rfl rfl rfl rfl rfl dX10_tray_45) rfl (fun r σ' h => ctX10_grant h) (fun v14 s15 hz16 => ?_)
        exact jq_zreturn Γ (hz16) dX10_tray_48 (hK0 _)
      · refine jq_sub Γ (L' := [(0, jR 0)]) [1] rfl ?_
        exact hj31_0 σ


theorem dX9_isMissing_0 : decode cX9_isMissing 0 = .ok (.aload_n 0, 1) := by decide +kernel
theorem dX9_isMissing_1 : decode cX9_isMissing 1 = .ok (.getfield 9, 3) := by decide +kernel
theorem dX9_isMissing_4 : decode cX9_isMissing 4 = .ok (.iconst (-1), 1) := by decide +kernel
theorem dX9_isMissing_5 : decode cX9_isMissing 5 = .ok (.if_icmp .ne 7, 3) := by decide +kernel
theorem dX9_isMissing_8 : decode cX9_isMissing 8 = .ok (.iconst 1, 1) := by decide +kernel
theorem dX9_isMissing_9 : decode cX9_isMissing 9 = .ok (.goto 4, 3) := by decide +kernel
theorem dX9_isMissing_12 : decode cX9_isMissing 12 = .ok (.iconst 0, 1) := by decide +kernel
theorem dX9_isMissing_13 : decode cX9_isMissing 13 = .ok (.ireturn, 1) := by decide +kernel
set_option maxHeartbeats 4000000 in
set_option maxRecDepth 100000 in
theorem ctX9_isMissing {o : Int} {σ : jq_M} {res : Int} (ho : jq_trp o) (h : X9_isMissing o σ = some res) : jq_MC jq_zX yX9_isMissing cX9_isMissing 1 (some .boolean) 1 40 [jR o] σ (some (jI res)) σ := by
  refine jq_met (own := RX9) (L0 := [(0, jR o)]) (by decide) rfl rfl rfl ?_
  intro X Γ hnl hlY hRT
  refine jq_use2 (P := fun r => jq_RT jq_zX X (some .boolean) (some (jI r)) σ) ?_ h hRT
  intro K0 hK0
  unfold X9_isMissing
  refine jq_aload_n Γ dX9_isMissing_0 rfl 0 rfl (jq_at_0 (at_trp ho)) ?_
  refine jq_getI (J := 0) Γ (at_trp ho) fl_RX9_9 rfl rfl dX9_isMissing_1 ?_
  refine jq_iconst Γ dX9_isMissing_4 rfl ?_
  refine jq_icmp_ne (tgt := 12) Γ dX9_isMissing_5 rfl ?_ ?_
  · refine jq_iconst Γ dX9_isMissing_12 rfl ?_
    exact jq_zreturn Γ (Or.inl rfl) dX9_isMissing_13 (hK0 _)
  · refine jq_iconst Γ dX9_isMissing_8 rfl ?_
    refine jq_goto Γ (tgt := 13) dX9_isMissing_9 rfl ?_
    exact jq_zreturn Γ (Or.inr rfl) dX9_isMissing_13 (hK0 _)


theorem dX9_spans_0 : decode cX9_spans 0 = .ok (.iload_n 1, 1) := by decide +kernel
theorem dX9_spans_1 : decode cX9_spans 1 = .ok (.ifCond .lt 41, 3) := by decide +kernel
theorem dX9_spans_4 : decode cX9_spans 4 = .ok (.iload_n 2, 1) := by decide +kernel
theorem dX9_spans_5 : decode cX9_spans 5 = .ok (.ifCond .lt 37, 3) := by decide +kernel
theorem dX9_spans_8 : decode cX9_spans 8 = .ok (.aload_n 0, 1) := by decide +kernel
theorem dX9_spans_9 : decode cX9_spans 9 = .ok (.getfield 19, 3) := by decide +kernel
theorem dX9_spans_12 : decode cX9_spans 12 = .ok (.aload_n 0, 1) := by decide +kernel
theorem dX9_spans_13 : decode cX9_spans 13 = .ok (.getfield 15, 3) := by decide +kernel
theorem dX9_spans_16 : decode cX9_spans 16 = .ok (.arraylength, 1) := by decide +kernel
theorem dX9_spans_17 : decode cX9_spans 17 = .ok (.if_icmp .gt 25, 3) := by decide +kernel
theorem dX9_spans_20 : decode cX9_spans 20 = .ok (.iload_n 1, 1) := by decide +kernel
theorem dX9_spans_21 : decode cX9_spans 21 = .ok (.aload_n 0, 1) := by decide +kernel
theorem dX9_spans_22 : decode cX9_spans 22 = .ok (.getfield 19, 3) := by decide +kernel
theorem dX9_spans_25 : decode cX9_spans 25 = .ok (.if_icmp .gt 17, 3) := by decide +kernel
theorem dX9_spans_28 : decode cX9_spans 28 = .ok (.iload_n 2, 1) := by decide +kernel
theorem dX9_spans_29 : decode cX9_spans 29 = .ok (.aload_n 0, 1) := by decide +kernel
theorem dX9_spans_30 : decode cX9_spans 30 = .ok (.getfield 19, 3) := by decide +kernel
theorem dX9_spans_33 : decode cX9_spans 33 = .ok (.iload_n 1, 1) := by decide +kernel
theorem dX9_spans_34 : decode cX9_spans 34 = .ok (.isub, 1) := by decide +kernel
theorem dX9_spans_35 : decode cX9_spans 35 = .ok (.if_icmp .gt 7, 3) := by decide +kernel
theorem dX9_spans_38 : decode cX9_spans 38 = .ok (.iconst 1, 1) := by decide +kernel
theorem dX9_spans_39 : decode cX9_spans 39 = .ok (.goto 4, 3) := by decide +kernel
theorem dX9_spans_42 : decode cX9_spans 42 = .ok (.iconst 0, 1) := by decide +kernel
theorem dX9_spans_43 : decode cX9_spans 43 = .ok (.ireturn, 1) := by decide +kernel
set_option maxHeartbeats 4000000 in
set_option maxRecDepth 100000 in
theorem ctX9_spans {o : Int} {p1 : Int} {p2 : Int} {σ : jq_M} {res : Int} (ho : jq_trp o) (h : X9_spans o p1 p2 σ = some res) : jq_MC jq_zX yX9_spans cX9_spans 3 (some .boolean) 1 40 [jR o, jI p1, jI p2] σ (some (jI res)) σ := by
  refine jq_met (own := RX9) (L0 := [(0, jR o), (1, jI p1), (2, jI p2)]) (by decide) rfl rfl rfl ?_
  intro X Γ hnl hlY hRT
  refine jq_use2 (P := fun r => jq_RT jq_zX X (some .boolean) (some (jI r)) σ) ?_ h hRT
  intro K0 hK0
  unfold X9_spans
  refine jq_iload_n Γ dX9_spans_0 rfl 1 rfl ?_
  refine jq_if_lt (tgt := 42) Γ dX9_spans_1 rfl ?_ ?_
  · refine jq_iconst Γ dX9_spans_42 rfl ?_
    exact jq_zreturn Γ (Or.inl rfl) dX9_spans_43 (hK0 _)
  · refine jq_iload_n Γ dX9_spans_4 rfl 2 rfl ?_
    refine jq_if_lt (tgt := 42) Γ dX9_spans_5 rfl ?_ ?_
    · refine jq_iconst Γ dX9_spans_42 rfl ?_
      exact jq_zreturn Γ (Or.inl rfl) dX9_spans_43 (hK0 _)
    · refine jq_aload_n Γ dX9_spans_8 rfl 0 rfl (jq_at_0 (at_trp ho)) ?_
      refine jq_getI (J := 1) Γ (at_trp ho) fl_RX9_19 rfl rfl dX9_spans_9 ?_
      refine jq_aload_n Γ dX9_spans_12 rfl 0 rfl (jq_at_0 (at_trp ho)) ?_
      refine jq_getR (v := (o + 1)) Γ hlY (at_trp ho) fl_RX9_15 rfl rfl (ly_X9_row ho) dX9_spans_13 ?_
      refine jq_alen Γ (at_trp_1 ho) rfl rfl rfl dX9_spans_16 ?_
      refine jq_icmp_gt (tgt := 42) Γ dX9_spans_17 rfl ?_ ?_
      · refine jq_iconst Γ dX9_spans_42 rfl ?_
        exact jq_zreturn Γ (Or.inl rfl) dX9_spans_43 (hK0 _)
      · refine jq_iload_n Γ dX9_spans_20 rfl 1 rfl ?_
        refine jq_aload_n Γ dX9_spans_21 rfl 0 rfl (jq_at_0 (at_trp ho)) ?_
        refine jq_getI (J := 1) Γ (at_trp ho) fl_RX9_19 rfl rfl dX9_spans_22 ?_
        refine jq_icmp_gt (tgt := 42) Γ dX9_spans_25 rfl ?_ ?_
        · refine jq_iconst Γ dX9_spans_42 rfl ?_
          exact jq_zreturn Γ (Or.inl rfl) dX9_spans_43 (hK0 _)
        · refine jq_iload_n Γ dX9_spans_28 rfl 2 rfl ?_
          refine jq_aload_n Γ dX9_spans_29 rfl 0 rfl (jq_at_0 (at_trp ho)) ?_
          refine jq_getI (J := 1) Γ (at_trp ho) fl_RX9_19 rfl rfl dX9_spans_30 ?_
          refine jq_iload_n Γ dX9_spans_33 rfl 1 rfl ?_
          refine jq_isub Γ dX9_spans_34 ?_
          refine jq_icmp_gt (tgt := 42) Γ dX9_spans_35 rfl ?_ ?_
          · refine jq_iconst Γ dX9_spans_42 rfl ?_
            exact jq_zreturn Γ (Or.inl rfl) dX9_spans_43 (hK0 _)
          · refine jq_iconst Γ dX9_spans_38 rfl ?_
            refine jq_goto Γ (tgt := 43) dX9_spans_39 rfl ?_
            exact jq_zreturn Γ (Or.inr rfl) dX9_spans_43 (hK0 _)


theorem dX10_whyNoNumbers_0 : decode cX10_whyNoNumbers 0 = .ok (.aload_n 0, 1) := by decide +kernel
theorem dX10_whyNoNumbers_1 : decode cX10_whyNoNumbers 1 = .ok (.ifnonnull 5, 3) := by decide +kernel
theorem dX10_whyNoNumbers_4 : decode cX10_whyNoNumbers 4 = .ok (.iconst 1, 1) := by decide +kernel
theorem dX10_whyNoNumbers_5 : decode cX10_whyNoNumbers 5 = .ok (.ireturn, 1) := by decide +kernel
theorem dX10_whyNoNumbers_6 : decode cX10_whyNoNumbers 6 = .ok (.aload_n 0, 1) := by decide +kernel
theorem dX10_whyNoNumbers_7 : decode cX10_whyNoNumbers 7 = .ok (.invokevirtual 125, 3) := by decide +kernel
theorem dX10_whyNoNumbers_10 : decode cX10_whyNoNumbers 10 = .ok (.ifCond .eq 5, 3) := by decide +kernel
theorem dX10_whyNoNumbers_13 : decode cX10_whyNoNumbers 13 = .ok (.iconst 2, 1) := by decide +kernel
theorem dX10_whyNoNumbers_14 : decode cX10_whyNoNumbers 14 = .ok (.ireturn, 1) := by decide +kernel
theorem dX10_whyNoNumbers_15 : decode cX10_whyNoNumbers 15 = .ok (.aload_n 0, 1) := by decide +kernel
theorem dX10_whyNoNumbers_16 : decode cX10_whyNoNumbers 16 = .ok (.iload_n 1, 1) := by decide +kernel
theorem dX10_whyNoNumbers_17 : decode cX10_whyNoNumbers 17 = .ok (.iload_n 2, 1) := by decide +kernel
theorem dX10_whyNoNumbers_18 : decode cX10_whyNoNumbers 18 = .ok (.invokevirtual 131, 3) := by decide +kernel
theorem dX10_whyNoNumbers_21 : decode cX10_whyNoNumbers 21 = .ok (.ifCond .eq 7, 3) := by decide +kernel
theorem dX10_whyNoNumbers_24 : decode cX10_whyNoNumbers 24 = .ok (.iconst 0, 1) := by decide +kernel
theorem dX10_whyNoNumbers_25 : decode cX10_whyNoNumbers 25 = .ok (.goto 4, 3) := by decide +kernel
theorem dX10_whyNoNumbers_28 : decode cX10_whyNoNumbers 28 = .ok (.iconst 3, 1) := by decide +kernel
theorem dX10_whyNoNumbers_29 : decode cX10_whyNoNumbers 29 = .ok (.ireturn, 1) := by decide +kernel
set_option maxHeartbeats 4000000 in
set_option maxRecDepth 100000 in
theorem ctX10_whyNoNumbers {p0 : Int} {p1 : Int} {p2 : Int} {σ : jq_M} {res : Int} (hp0 : jq_trn p0) (h : X10_whyNoNumbers p0 p1 p2 σ = some res) : jq_MC jq_zX yX10_whyNoNumbers cX10_whyNoNumbers 3 (some .int) 2 62 [jR p0, jI p1, jI p2] σ (some (jI res)) σ := by
  refine jq_met (own := RX10) (L0 := [(0, jR p0), (1, jI p1), (2, jI p2)]) (by decide) rfl rfl rfl ?_
  intro X Γ hnl hlY hRT
  refine jq_use2 (P := fun r => jq_RT jq_zX X (some .int) (some (jI r)) σ) ?_ h hRT
  intro K0 hK0
  unfold X10_whyNoNumbers
  refine jq_aloadQ_n Γ dX10_whyNoNumbers_0 rfl 0 rfl ?_
  refine jq_ifnonnull (tgt := 6) Γ (jq_trn_0 hp0) dX10_whyNoNumbers_1 rfl (fun hq1 => ?_) (fun _ => ?_)
  · refine jq_aload_n Γ dX10_whyNoNumbers_6 rfl 0 rfl (jq_at_0 (at_trp (hp0.resolve_left hq1))) ?_
    refine jq_cpZ (jq_virt (avs := []) (st := []) Γ hlY rfl ml_RX10_125 rfl (at_trp (hp0.resolve_left hq1)) rfl rfl rfl rfl rfl dX10_whyNoNumbers_7) rfl (fun r h => ctX9_isMissing (hp0.resolve_left hq1) h) (fun v2 hz3 => ?_)
    refine jq_if_eq (tgt := 15) Γ dX10_whyNoNumbers_10 rfl ?_ ?_
    · refine jq_aload_n Γ dX10_whyNoNumbers_15 rfl 0 rfl (jq_at_0 (at_trp (hp0.resolve_left hq1))) ?_
      refine jq_iload_n Γ dX10_whyNoNumbers_16 rfl 1 rfl ?_
      refine jq_iload_n Γ dX10_whyNoNumbers_17 rfl 2 rfl ?_
      refine jq_cpZ (jq_virt (avs := [jI p1, jI p2]) (st := []) Γ hlY rfl ml_RX10_131 rfl (at_trp (hp0.resolve_left hq1)) rfl rfl rfl rfl rfl dX10_whyNoNumbers_18) rfl (fun r h => ctX9_spans (hp0.resolve_left hq1) h) (fun v4 hz5 => ?_)
      refine jq_if_eq (tgt := 28) Γ dX10_whyNoNumbers_21 rfl ?_ ?_
      · refine jq_iconst Γ dX10_whyNoNumbers_28 rfl ?_
        exact jq_ireturn Γ dX10_whyNoNumbers_29 (hK0 _)
      · refine jq_iconst Γ dX10_whyNoNumbers_24 rfl ?_
        refine jq_goto Γ (tgt := 29) dX10_whyNoNumbers_25 rfl ?_
        exact jq_ireturn Γ dX10_whyNoNumbers_29 (hK0 _)
    · refine jq_iconst Γ dX10_whyNoNumbers_13 rfl ?_
      exact jq_ireturn Γ dX10_whyNoNumbers_14 (hK0 _)
  · refine jq_iconst Γ dX10_whyNoNumbers_4 rfl ?_
    exact jq_ireturn Γ dX10_whyNoNumbers_5 (hK0 _)


theorem dX9_cut_0 : decode cX9_cut 0 = .ok (.aload_n 0, 1) := by decide +kernel
theorem dX9_cut_1 : decode cX9_cut 1 = .ok (.getfield 9, 3) := by decide +kernel
theorem dX9_cut_4 : decode cX9_cut 4 = .ok (.tableswitch 42 0 2 #[28, 33, 38], 28) := by decide +kernel
theorem dX9_cut_32 : decode cX9_cut 32 = .ok (.lload_n 1, 1) := by decide +kernel
theorem dX9_cut_33 : decode cX9_cut 33 = .ok (.l2i, 1) := by decide +kernel
theorem dX9_cut_34 : decode cX9_cut 34 = .ok (.i2b, 1) := by decide +kernel
theorem dX9_cut_35 : decode cX9_cut 35 = .ok (.i2l, 1) := by decide +kernel
theorem dX9_cut_36 : decode cX9_cut 36 = .ok (.lreturn, 1) := by decide +kernel
theorem dX9_cut_37 : decode cX9_cut 37 = .ok (.lload_n 1, 1) := by decide +kernel
theorem dX9_cut_38 : decode cX9_cut 38 = .ok (.l2i, 1) := by decide +kernel
theorem dX9_cut_39 : decode cX9_cut 39 = .ok (.i2s, 1) := by decide +kernel
theorem dX9_cut_40 : decode cX9_cut 40 = .ok (.i2l, 1) := by decide +kernel
theorem dX9_cut_41 : decode cX9_cut 41 = .ok (.lreturn, 1) := by decide +kernel
theorem dX9_cut_42 : decode cX9_cut 42 = .ok (.lload_n 1, 1) := by decide +kernel
theorem dX9_cut_43 : decode cX9_cut 43 = .ok (.l2i, 1) := by decide +kernel
theorem dX9_cut_44 : decode cX9_cut 44 = .ok (.i2l, 1) := by decide +kernel
theorem dX9_cut_45 : decode cX9_cut 45 = .ok (.lreturn, 1) := by decide +kernel
theorem dX9_cut_46 : decode cX9_cut 46 = .ok (.lload_n 1, 1) := by decide +kernel
theorem dX9_cut_47 : decode cX9_cut 47 = .ok (.lreturn, 1) := by decide +kernel
set_option maxHeartbeats 4000000 in
set_option maxRecDepth 100000 in
theorem ctX9_cut {o : Int} {p1 : Int} {σ : jq_M} {res : Int} (ho : jq_trp o) (h : X9_cut o p1 σ = some res) : jq_MC jq_zX yX9_cut cX9_cut 3 (some .long) 1 40 [jR o, jL p1] σ (some (jL res)) σ := by
  refine jq_met (own := RX9) (L0 := [(0, jR o), (1, jL p1)]) (by decide) rfl rfl rfl ?_
  intro X Γ hnl hlY hRT
  refine jq_use2 (P := fun r => jq_RT jq_zX X (some .long) (some (jL r)) σ) ?_ h hRT
  intro K0 hK0
  unfold X9_cut
  refine jq_aload_n Γ dX9_cut_0 rfl 0 rfl (jq_at_0 (at_trp ho)) ?_
  refine jq_getI (J := 0) Γ (at_trp ho) fl_RX9_9 rfl rfl dX9_cut_1 ?_
  refine jq_split (fun hc1 => ?_) (fun hn0_4 => ?_)
  · refine jq_tabIn (tgt := 32) Γ dX9_cut_4 hc1 rfl rfl rfl ?_
    refine jq_lload_n Γ dX9_cut_32 rfl 1 rfl ?_
    refine jq_l2i Γ dX9_cut_33 ?_
    refine jq_i2b Γ dX9_cut_34 ?_
    refine jq_i2l Γ dX9_cut_35 ?_
    exact jq_lreturn Γ dX9_cut_36 (hK0 _)
  · refine jq_split (fun hc2 => ?_) (fun hn1_4 => ?_)
    · refine jq_tabIn (tgt := 37) Γ dX9_cut_4 hc2 rfl rfl rfl ?_
      refine jq_lload_n Γ dX9_cut_37 rfl 1 rfl ?_
      refine jq_l2i Γ dX9_cut_38 ?_
      refine jq_i2s Γ dX9_cut_39 ?_
      refine jq_i2l Γ dX9_cut_40 ?_
      exact jq_lreturn Γ dX9_cut_41 (hK0 _)
    · refine jq_split (fun hc3 => ?_) (fun hn2_4 => ?_)
      · refine jq_tabIn (tgt := 42) Γ dX9_cut_4 hc3 rfl rfl rfl ?_
        refine jq_lload_n Γ dX9_cut_42 rfl 1 rfl ?_
        refine jq_l2i Γ dX9_cut_43 ?_
        refine jq_i2l Γ dX9_cut_44 ?_
        exact jq_lreturn Γ dX9_cut_45 (hK0 _)
      · refine jq_tabOut (tgt := 46) Γ dX9_cut_4 (by omega) rfl ?_
        refine jq_lload_n Γ dX9_cut_46 rfl 1 rfl ?_
        exact jq_lreturn Γ dX9_cut_47 (hK0 _)


theorem dX9_put_0 : decode cX9_put 0 = .ok (.aload_n 0, 1) := by decide +kernel
theorem dX9_put_1 : decode cX9_put 1 = .ok (.iload_n 1, 1) := by decide +kernel
theorem dX9_put_2 : decode cX9_put 2 = .ok (.iconst 1, 1) := by decide +kernel
theorem dX9_put_3 : decode cX9_put 3 = .ok (.invokevirtual 22, 3) := by decide +kernel
theorem dX9_put_6 : decode cX9_put 6 = .ok (.ifCond .eq 14, 3) := by decide +kernel
theorem dX9_put_9 : decode cX9_put 9 = .ok (.aload_n 0, 1) := by decide +kernel
theorem dX9_put_10 : decode cX9_put 10 = .ok (.getfield 15, 3) := by decide +kernel
theorem dX9_put_13 : decode cX9_put 13 = .ok (.iload_n 1, 1) := by decide +kernel
theorem dX9_put_14 : decode cX9_put 14 = .ok (.aload_n 0, 1) := by decide +kernel
theorem dX9_put_15 : decode cX9_put 15 = .ok (.lload_n 2, 1) := by decide +kernel
theorem dX9_put_16 : decode cX9_put 16 = .ok (.invokevirtual 26, 3) := by decide +kernel
theorem dX9_put_19 : decode cX9_put 19 = .ok (.lastore, 1) := by decide +kernel
theorem dX9_put_20 : decode cX9_put 20 = .ok (.return_, 1) := by decide +kernel
set_option maxHeartbeats 4000000 in
set_option maxRecDepth 100000 in
theorem ctX9_put {o : Int} {p1 : Int} {p2 : Int} {σ : jq_M} {σ' : jq_M} (ho : jq_trp o) (h : X9_put o p1 p2 σ = some σ') : jq_MC jq_zX yX9_put cX9_put 4 none 2 62 [jR o, jI p1, jL p2] σ none σ' := by
  refine jq_met (own := RX9) (L0 := [(0, jR o), (1, jI p1), (2, jL p2)]) (by decide) rfl rfl rfl ?_
  intro X Γ hnl hlY hRT
  refine jq_use2 (P := fun r => jq_RT jq_zX X none none r) ?_ h hRT
  intro K0 hK0
  unfold X9_put
  refine jq_aload_n Γ dX9_put_0 rfl 0 rfl (jq_at_0 (at_trp ho)) ?_
  refine jq_iload_n Γ dX9_put_1 rfl 1 rfl ?_
  refine jq_iconst Γ dX9_put_2 rfl ?_
  refine jq_cpZ (jq_virt (avs := [jI p1, jI 1]) (st := []) Γ hlY rfl ml_RX9_22 rfl (at_trp ho) rfl rfl rfl rfl rfl dX9_put_3) rfl (fun r h => ctX9_spans ho h) (fun v1 hz2 => ?_)
  refine jq_if_eq (tgt := 20) Γ dX9_put_6 rfl ?_ ?_
  · exact jq_vreturn Γ dX9_put_20 (hK0 _)
  · refine jq_aload_n Γ dX9_put_9 rfl 0 rfl (jq_at_0 (at_trp ho)) ?_
    refine jq_getR (v := (o + 1)) Γ hlY (at_trp ho) fl_RX9_15 rfl rfl (ly_X9_row ho) dX9_put_10 ?_
    refine jq_iload_n Γ dX9_put_13 rfl 1 rfl ?_
    refine jq_aload_n Γ dX9_put_14 rfl 0 rfl (jq_at_0 (at_trp ho)) ?_
    refine jq_lload_n Γ dX9_put_15 rfl 2 rfl ?_
    refine jq_cpL (jq_virt (avs := [jL p2]) (st := [jI p1, jR (o + 1)]) Γ hlY rfl ml_RX9_26 rfl (at_trp ho) rfl rfl rfl rfl rfl dX9_put_16) (fun r h => ctX9_cut ho h) (fun v3 => ?_)
    refine jq_last Γ (at_trp_1 ho) rfl dX9_put_19 (fun s4 => ?_)
    exact jq_vreturn Γ dX9_put_20 (hK0 _)


theorem dX10_write_0 : decode cX10_write 0 = .ok (.aload_n 0, 1) := by decide +kernel
theorem dX10_write_1 : decode cX10_write 1 = .ok (.iload_n 1, 1) := by decide +kernel
theorem dX10_write_2 : decode cX10_write 2 = .ok (.invokevirtual 89, 3) := by decide +kernel
theorem dX10_write_5 : decode cX10_write 5 = .ok (.astore 5, 2) := by decide +kernel
theorem dX10_write_7 : decode cX10_write 7 = .ok (.aload 5, 2) := by decide +kernel
theorem dX10_write_9 : decode cX10_write 9 = .ok (.iload_n 2, 1) := by decide +kernel
theorem dX10_write_10 : decode cX10_write 10 = .ok (.iconst 1, 1) := by decide +kernel
theorem dX10_write_11 : decode cX10_write 11 = .ok (.invokestatic 109, 3) := by decide +kernel
theorem dX10_write_14 : decode cX10_write 14 = .ok (.istore 6, 2) := by decide +kernel
theorem dX10_write_16 : decode cX10_write 16 = .ok (.aload 5, 2) := by decide +kernel
theorem dX10_write_18 : decode cX10_write 18 = .ok (.ifnull 8, 3) := by decide +kernel
theorem dX10_write_21 : decode cX10_write 21 = .ok (.iload 6, 2) := by decide +kernel
theorem dX10_write_23 : decode cX10_write 23 = .ok (.ifCond .eq 10, 3) := by decide +kernel
theorem dX10_write_26 : decode cX10_write 26 = .ok (.aload_n 0, 1) := by decide +kernel
theorem dX10_write_27 : decode cX10_write 27 = .ok (.iload 6, 2) := by decide +kernel
theorem dX10_write_29 : decode cX10_write 29 = .ok (.invokevirtual 97, 3) := by decide +kernel
theorem dX10_write_32 : decode cX10_write 32 = .ok (.ireturn, 1) := by decide +kernel
theorem dX10_write_33 : decode cX10_write 33 = .ok (.aload 5, 2) := by decide +kernel
theorem dX10_write_35 : decode cX10_write 35 = .ok (.iload_n 2, 1) := by decide +kernel
theorem dX10_write_36 : decode cX10_write 36 = .ok (.lload_n 3, 1) := by decide +kernel
theorem dX10_write_37 : decode cX10_write 37 = .ok (.invokevirtual 113, 3) := by decide +kernel
theorem dX10_write_40 : decode cX10_write 40 = .ok (.aload_n 0, 1) := by decide +kernel
theorem dX10_write_41 : decode cX10_write 41 = .ok (.invokevirtual 105, 3) := by decide +kernel
theorem dX10_write_44 : decode cX10_write 44 = .ok (.ireturn, 1) := by decide +kernel
set_option maxHeartbeats 4000000 in
set_option maxRecDepth 100000 in
theorem ctX10_write {p1 : Int} {p2 : Int} {p3 : Int} {σ : jq_M} {res : Int} {σ' : jq_M}  (h : X10_write p1 p2 p3 σ = some (res, σ')) : jq_MC jq_zX yX10_write cX10_write 7 (some .boolean) 3 85 [jR 0, jI p1, jI p2, jL p3] σ (some (jI res)) σ' := by
  refine jq_met (own := RX10) (L0 := [(0, jR 0), (1, jI p1), (2, jI p2), (3, jL p3)]) (by decide) rfl rfl rfl ?_
  intro X Γ hnl hlY hRT
  refine jq_use2 (P := fun r => jq_RT jq_zX X (some .boolean) (some (jI r.1)) r.2) ?_ h hRT
  intro K0 hK0
  unfold X10_write
  have hj26_0 : ∀ (j6 : Int) (s7 : jq_M), jq_J (X10_write_j26 j6 s7) K0 (jq_V jq_zX X (jq_zN jq_zX) s7 26 [(0, jR 0), (6, jI j6)] []) := by
    intro j6 s7
    unfold X10_write_j26
    refine jq_aload_n Γ dX10_write_26 rfl 0 rfl (jq_at_0 at_X_0) ?_
    refine jq_iload Γ dX10_write_27 1 rfl ?_
    refine jq_cwZ (jq_virt (avs := [jI j6]) (st := []) Γ hlY rfl ml_RX10_97 rfl at_X_0 rfl rfl rfl rfl rfl dX10_write_29) rfl (fun r σ' h => ctX10_deny h) (fun v8 s9 hz10 => ?_)
    exact jq_zreturn Γ (hz10) dX10_write_32 (hK0 _)
  refine jq_aload_n Γ dX10_write_0 rfl 0 rfl (jq_at_0 at_X_0) ?_
  refine jq_iload_n Γ dX10_write_1 rfl 1 rfl ?_
  refine jq_cpR (jq_virt (avs := [jI p1]) (st := []) Γ hlY rfl ml_RX10_89 rfl at_X_0 rfl rfl rfl rfl rfl dX10_write_2) (fun r h => ctX10_trayAt h) (fun v1 => ?_)
  refine jq_trnN (fun v2 hz3 => ?_)
  refine jq_astoreQ (L' := [(5, jR v2), (0, jR 0), (1, jI p1), (2, jI p2), (3, jL p3)]) Γ dX10_write_5 hnl rfl rfl ?_
  refine jq_aloadQ Γ dX10_write_7 0 rfl ?_
  refine jq_iload_n Γ dX10_write_9 rfl 3 rfl ?_
  refine jq_iconst Γ dX10_write_10 rfl ?_
  refine jq_cpI (jq_stat (avs := [jR v2, jI p2, jI 1]) (st := []) Γ hlY rfl ml_RX10_109 rfl rfl rfl rfl rfl dX10_write_11) (fun r h => ctX10_whyNoNumbers hz3 h) (fun v4 => ?_)
  refine jq_istore (L' := [(6, jI v4), (5, jR v2), (0, jR 0), (1, jI p1), (2, jI p2), (3, jL p3)]) Γ dX10_write_14 hnl rfl rfl ?_
  refine jq_aloadQ Γ dX10_write_16 1 rfl ?_
  refine jq_ifnull (tgt := 26) Γ (jq_trn_0 hz3) dX10_write_18 rfl (fun _ => ?_) (fun hq5 => ?_)
  · refine jq_sub Γ (L' := [(0, jR 0), (6, jI v4)]) [2, 0] rfl ?_
    exact hj26_0 v4 σ
  · refine jq_iload Γ dX10_write_21 0 rfl ?_
    refine jq_if_eq (tgt := 33) Γ dX10_write_23 rfl ?_ ?_
    · refine jq_aload Γ dX10_write_33 1 rfl (jq_at_0 (at_trp (hz3.resolve_left hq5))) ?_
      refine jq_iload_n Γ dX10_write_35 rfl 4 rfl ?_
      refine jq_lload_n Γ dX10_write_36 rfl 5 rfl ?_
      refine jq_cwV (jq_virt (avs := [jI p2, jL p3]) (st := []) Γ hlY rfl ml_RX10_113 rfl (at_trp (hz3.resolve_left hq5)) rfl rfl rfl rfl rfl dX10_write_37) (fun σ' h => ctX9_put (hz3.resolve_left hq5) h) (fun s11 => ?_)
      refine jq_aload_n Γ dX10_write_40 rfl 2 rfl (jq_at_0 at_X_0) ?_
      refine jq_cwZ (jq_virt (avs := []) (st := []) Γ hlY rfl ml_RX10_105 rfl at_X_0 rfl rfl rfl rfl rfl dX10_write_41) rfl (fun r σ' h => ctX10_grant h) (fun v12 s13 hz14 => ?_)
      exact jq_zreturn Γ (hz14) dX10_write_44 (hK0 _)
    · refine jq_sub Γ (L' := [(0, jR 0), (6, jI v4)]) [2, 0] rfl ?_
      exact hj26_0 v4 σ


theorem dX10_refuse_0 : decode cX10_refuse 0 = .ok (.aload_n 0, 1) := by decide +kernel
theorem dX10_refuse_1 : decode cX10_refuse 1 = .ok (.iload_n 1, 1) := by decide +kernel
theorem dX10_refuse_2 : decode cX10_refuse 2 = .ok (.putfield 71, 3) := by decide +kernel
theorem dX10_refuse_5 : decode cX10_refuse 5 = .ok (.iconst (-1), 1) := by decide +kernel
theorem dX10_refuse_6 : decode cX10_refuse 6 = .ok (.ireturn, 1) := by decide +kernel
set_option maxHeartbeats 4000000 in
set_option maxRecDepth 100000 in
theorem ctX10_refuse {p1 : Int} {σ : jq_M} {res : Int} {σ' : jq_M}  (h : X10_refuse p1 σ = some (res, σ')) : jq_MC jq_zX yX10_refuse cX10_refuse 2 (some .int) 1 40 [jR 0, jI p1] σ (some (jI res)) σ' := by
  refine jq_met (own := RX10) (L0 := [(0, jR 0), (1, jI p1)]) (by decide) rfl rfl rfl ?_
  intro X Γ hnl hlY hRT
  refine jq_use2 (P := fun r => jq_RT jq_zX X (some .int) (some (jI r.1)) r.2) ?_ h hRT
  intro K0 hK0
  unfold X10_refuse
  refine jq_aload_n Γ dX10_refuse_0 rfl 0 rfl (jq_at_0 at_X_0) ?_
  refine jq_iload_n Γ dX10_refuse_1 rfl 1 rfl ?_
  refine jq_putI Γ at_X_0 fl_RX10_71 rfl rfl dX10_refuse_2 (fun s1 => ?_)
  refine jq_iconst Γ dX10_refuse_5 rfl ?_
  exact jq_ireturn Γ dX10_refuse_6 (hK0 _)


theorem dX9_numberAt_0 : decode cX9_numberAt 0 = .ok (.aload_n 0, 1) := by decide +kernel
theorem dX9_numberAt_1 : decode cX9_numberAt 1 = .ok (.iload_n 1, 1) := by decide +kernel
theorem dX9_numberAt_2 : decode cX9_numberAt 2 = .ok (.iconst 1, 1) := by decide +kernel
theorem dX9_numberAt_3 : decode cX9_numberAt 3 = .ok (.invokevirtual 22, 3) := by decide +kernel
theorem dX9_numberAt_6 : decode cX9_numberAt 6 = .ok (.ifCond .eq 12, 3) := by decide +kernel
theorem dX9_numberAt_9 : decode cX9_numberAt 9 = .ok (.aload_n 0, 1) := by decide +kernel
theorem dX9_numberAt_10 : decode cX9_numberAt 10 = .ok (.getfield 15, 3) := by decide +kernel
theorem dX9_numberAt_13 : decode cX9_numberAt 13 = .ok (.iload_n 1, 1) := by decide +kernel
theorem dX9_numberAt_14 : decode cX9_numberAt 14 = .ok (.laload, 1) := by decide +kernel
theorem dX9_numberAt_15 : decode cX9_numberAt 15 = .ok (.goto 4, 3) := by decide +kernel
theorem dX9_numberAt_18 : decode cX9_numberAt 18 = .ok (.lconst 0, 1) := by decide +kernel
theorem dX9_numberAt_19 : decode cX9_numberAt 19 = .ok (.lreturn, 1) := by decide +kernel
set_option maxHeartbeats 4000000 in
set_option maxRecDepth 100000 in
theorem ctX9_numberAt {o : Int} {p1 : Int} {σ : jq_M} {res : Int} (ho : jq_trp o) (h : X9_numberAt o p1 σ = some res) : jq_MC jq_zX yX9_numberAt cX9_numberAt 2 (some .long) 2 62 [jR o, jI p1] σ (some (jL res)) σ := by
  refine jq_met (own := RX9) (L0 := [(0, jR o), (1, jI p1)]) (by decide) rfl rfl rfl ?_
  intro X Γ hnl hlY hRT
  refine jq_use2 (P := fun r => jq_RT jq_zX X (some .long) (some (jL r)) σ) ?_ h hRT
  intro K0 hK0
  unfold X9_numberAt
  refine jq_aload_n Γ dX9_numberAt_0 rfl 0 rfl (jq_at_0 (at_trp ho)) ?_
  refine jq_iload_n Γ dX9_numberAt_1 rfl 1 rfl ?_
  refine jq_iconst Γ dX9_numberAt_2 rfl ?_
  refine jq_cpZ (jq_virt (avs := [jI p1, jI 1]) (st := []) Γ hlY rfl ml_RX9_22 rfl (at_trp ho) rfl rfl rfl rfl rfl dX9_numberAt_3) rfl (fun r h => ctX9_spans ho h) (fun v1 hz2 => ?_)
  refine jq_if_eq (tgt := 18) Γ dX9_numberAt_6 rfl ?_ ?_
  · refine jq_lconst Γ 0 dX9_numberAt_18 rfl rfl ?_
    exact jq_lreturn Γ dX9_numberAt_19 (hK0 _)
  · refine jq_aload_n Γ dX9_numberAt_9 rfl 0 rfl (jq_at_0 (at_trp ho)) ?_
    refine jq_getR (v := (o + 1)) Γ hlY (at_trp ho) fl_RX9_15 rfl rfl (ly_X9_row ho) dX9_numberAt_10 ?_
    refine jq_iload_n Γ dX9_numberAt_13 rfl 1 rfl ?_
    refine jq_lald Γ (at_trp_1 ho) rfl dX9_numberAt_14 (fun v3 => ?_)
    refine jq_goto Γ (tgt := 19) dX9_numberAt_15 rfl ?_
    exact jq_lreturn Γ dX9_numberAt_19 (hK0 _)


theorem dX10_read_0 : decode cX10_read 0 = .ok (.aload_n 0, 1) := by decide +kernel
theorem dX10_read_1 : decode cX10_read 1 = .ok (.iload_n 1, 1) := by decide +kernel
theorem dX10_read_2 : decode cX10_read 2 = .ok (.invokevirtual 89, 3) := by decide +kernel
theorem dX10_read_5 : decode cX10_read 5 = .ok (.astore_n 3, 1) := by decide +kernel
theorem dX10_read_6 : decode cX10_read 6 = .ok (.aload_n 3, 1) := by decide +kernel
theorem dX10_read_7 : decode cX10_read 7 = .ok (.iload_n 2, 1) := by decide +kernel
theorem dX10_read_8 : decode cX10_read 8 = .ok (.iconst 1, 1) := by decide +kernel
theorem dX10_read_9 : decode cX10_read 9 = .ok (.invokestatic 109, 3) := by decide +kernel
theorem dX10_read_12 : decode cX10_read 12 = .ok (.istore 4, 2) := by decide +kernel
theorem dX10_read_14 : decode cX10_read 14 = .ok (.aload_n 3, 1) := by decide +kernel
theorem dX10_read_15 : decode cX10_read 15 = .ok (.ifnull 8, 3) := by decide +kernel
theorem dX10_read_18 : decode cX10_read 18 = .ok (.iload 4, 2) := by decide +kernel
theorem dX10_read_20 : decode cX10_read 20 = .ok (.ifCond .eq 11, 3) := by decide +kernel
theorem dX10_read_23 : decode cX10_read 23 = .ok (.aload_n 0, 1) := by decide +kernel
theorem dX10_read_24 : decode cX10_read 24 = .ok (.iload 4, 2) := by decide +kernel
theorem dX10_read_26 : decode cX10_read 26 = .ok (.invokevirtual 117, 3) := by decide +kernel
theorem dX10_read_29 : decode cX10_read 29 = .ok (.i2l, 1) := by decide +kernel
theorem dX10_read_30 : decode cX10_read 30 = .ok (.lreturn, 1) := by decide +kernel
theorem dX10_read_31 : decode cX10_read 31 = .ok (.aload_n 0, 1) := by decide +kernel
theorem dX10_read_32 : decode cX10_read 32 = .ok (.iconst 0, 1) := by decide +kernel
theorem dX10_read_33 : decode cX10_read 33 = .ok (.putfield 71, 3) := by decide +kernel
theorem dX10_read_36 : decode cX10_read 36 = .ok (.aload_n 3, 1) := by decide +kernel
theorem dX10_read_37 : decode cX10_read 37 = .ok (.iload_n 2, 1) := by decide +kernel
theorem dX10_read_38 : decode cX10_read 38 = .ok (.invokevirtual 121, 3) := by decide +kernel
theorem dX10_read_41 : decode cX10_read 41 = .ok (.lreturn, 1) := by decide +kernel
set_option maxHeartbeats 4000000 in
set_option maxRecDepth 100000 in
theorem ctX10_read {p1 : Int} {p2 : Int} {σ : jq_M} {res : Int} {σ' : jq_M}  (h : X10_read p1 p2 σ = some (res, σ')) : jq_MC jq_zX yX10_read cX10_read 5 (some .long) 3 84 [jR 0, jI p1, jI p2] σ (some (jL res)) σ' := by
  refine jq_met (own := RX10) (L0 := [(0, jR 0), (1, jI p1), (2, jI p2)]) (by decide) rfl rfl rfl ?_
  intro X Γ hnl hlY hRT
  refine jq_use2 (P := fun r => jq_RT jq_zX X (some .long) (some (jL r.1)) r.2) ?_ h hRT
  intro K0 hK0
  unfold X10_read
  have hj23_0 : ∀ (j6 : Int) (s7 : jq_M), jq_J (X10_read_j23 j6 s7) K0 (jq_V jq_zX X (jq_zN jq_zX) s7 23 [(0, jR 0), (4, jI j6)] []) := by
    intro j6 s7
    unfold X10_read_j23
    refine jq_aload_n Γ dX10_read_23 rfl 0 rfl (jq_at_0 at_X_0) ?_
    refine jq_iload Γ dX10_read_24 1 rfl ?_
    refine jq_cwI (jq_virt (avs := [jI j6]) (st := []) Γ hlY rfl ml_RX10_117 rfl at_X_0 rfl rfl rfl rfl rfl dX10_read_26) (fun r σ' h => ctX10_refuse h) (fun v8 s9 => ?_)
    refine jq_i2l Γ dX10_read_29 ?_
    exact jq_lreturn Γ dX10_read_30 (hK0 _)
  refine jq_aload_n Γ dX10_read_0 rfl 0 rfl (jq_at_0 at_X_0) ?_
  refine jq_iload_n Γ dX10_read_1 rfl 1 rfl ?_
  refine jq_cpR (jq_virt (avs := [jI p1]) (st := []) Γ hlY rfl ml_RX10_89 rfl at_X_0 rfl rfl rfl rfl rfl dX10_read_2) (fun r h => ctX10_trayAt h) (fun v1 => ?_)
  refine jq_trnN (fun v2 hz3 => ?_)
  refine jq_astoreQ_n (L' := [(3, jR v2), (0, jR 0), (1, jI p1), (2, jI p2)]) Γ dX10_read_5 rfl hnl rfl rfl ?_
  refine jq_aloadQ_n Γ dX10_read_6 rfl 0 rfl ?_
  refine jq_iload_n Γ dX10_read_7 rfl 3 rfl ?_
  refine jq_iconst Γ dX10_read_8 rfl ?_
  refine jq_cpI (jq_stat (avs := [jR v2, jI p2, jI 1]) (st := []) Γ hlY rfl ml_RX10_109 rfl rfl rfl rfl rfl dX10_read_9) (fun r h => ctX10_whyNoNumbers hz3 h) (fun v4 => ?_)
  refine jq_istore (L' := [(4, jI v4), (3, jR v2), (0, jR 0), (1, jI p1), (2, jI p2)]) Γ dX10_read_12 hnl rfl rfl ?_
  refine jq_aloadQ_n Γ dX10_read_14 rfl 1 rfl ?_
  refine jq_ifnull (tgt := 23) Γ (jq_trn_0 hz3) dX10_read_15 rfl (fun _ => ?_) (fun hq5 => ?_)
  · refine jq_sub Γ (L' := [(0, jR 0), (4, jI v4)]) [2, 0] rfl ?_
    exact hj23_0 v4 σ
  · refine jq_iload Γ dX10_read_18 0 rfl ?_
    refine jq_if_eq (tgt := 31) Γ dX10_read_20 rfl ?_ ?_
    · refine jq_aload_n Γ dX10_read_31 rfl 2 rfl (jq_at_0 at_X_0) ?_
      refine jq_iconst Γ dX10_read_32 rfl ?_
      refine jq_putI Γ at_X_0 fl_RX10_71 rfl rfl dX10_read_33 (fun s10 => ?_)
      refine jq_aload_n Γ dX10_read_36 rfl 1 rfl (jq_at_0 (at_trp (hz3.resolve_left hq5))) ?_
      refine jq_iload_n Γ dX10_read_37 rfl 4 rfl ?_
      refine jq_cpL (jq_virt (avs := [jI p2]) (st := []) Γ hlY rfl ml_RX10_121 rfl (at_trp (hz3.resolve_left hq5)) rfl rfl rfl rfl rfl dX10_read_38) (fun r h => ctX9_numberAt (hz3.resolve_left hq5) h) (fun v11 => ?_)
      exact jq_lreturn Γ dX10_read_41 (hK0 _)
    · refine jq_sub Γ (L' := [(0, jR 0), (4, jI v4)]) [2, 0] rfl ?_
      exact hj23_0 v4 σ


theorem dX10_pour_0 : decode cX10_pour 0 = .ok (.aload_n 0, 1) := by decide +kernel
theorem dX10_pour_1 : decode cX10_pour 1 = .ok (.iload_n 1, 1) := by decide +kernel
theorem dX10_pour_2 : decode cX10_pour 2 = .ok (.invokevirtual 89, 3) := by decide +kernel
theorem dX10_pour_5 : decode cX10_pour 5 = .ok (.astore 6, 2) := by decide +kernel
theorem dX10_pour_7 : decode cX10_pour 7 = .ok (.aload_n 0, 1) := by decide +kernel
theorem dX10_pour_8 : decode cX10_pour 8 = .ok (.iload_n 3, 1) := by decide +kernel
theorem dX10_pour_9 : decode cX10_pour 9 = .ok (.invokevirtual 89, 3) := by decide +kernel
theorem dX10_pour_12 : decode cX10_pour 12 = .ok (.astore 7, 2) := by decide +kernel
theorem dX10_pour_14 : decode cX10_pour 14 = .ok (.aload 6, 2) := by decide +kernel
theorem dX10_pour_16 : decode cX10_pour 16 = .ok (.ifnull 22, 3) := by decide +kernel
theorem dX10_pour_19 : decode cX10_pour 19 = .ok (.aload 7, 2) := by decide +kernel
theorem dX10_pour_21 : decode cX10_pour 21 = .ok (.ifnull 17, 3) := by decide +kernel
theorem dX10_pour_24 : decode cX10_pour 24 = .ok (.iload_n 2, 1) := by decide +kernel
theorem dX10_pour_25 : decode cX10_pour 25 = .ok (.ifCond .lt 13, 3) := by decide +kernel
theorem dX10_pour_28 : decode cX10_pour 28 = .ok (.iload 4, 2) := by decide +kernel
theorem dX10_pour_30 : decode cX10_pour 30 = .ok (.ifCond .lt 8, 3) := by decide +kernel
theorem dX10_pour_33 : decode cX10_pour 33 = .ok (.iload 5, 2) := by decide +kernel
theorem dX10_pour_35 : decode cX10_pour 35 = .ok (.ifCond .ge 9, 3) := by decide +kernel
theorem dX10_pour_38 : decode cX10_pour 38 = .ok (.aload_n 0, 1) := by decide +kernel
theorem dX10_pour_39 : decode cX10_pour 39 = .ok (.iconst 1, 1) := by decide +kernel
theorem dX10_pour_40 : decode cX10_pour 40 = .ok (.invokevirtual 97, 3) := by decide +kernel
theorem dX10_pour_43 : decode cX10_pour 43 = .ok (.ireturn, 1) := by decide +kernel
theorem dX10_pour_44 : decode cX10_pour 44 = .ok (.aload 6, 2) := by decide +kernel
theorem dX10_pour_46 : decode cX10_pour 46 = .ok (.invokevirtual 125, 3) := by decide +kernel
theorem dX10_pour_49 : decode cX10_pour 49 = .ok (.ifCond .ne 11, 3) := by decide +kernel
theorem dX10_pour_52 : decode cX10_pour 52 = .ok (.aload 7, 2) := by decide +kernel
theorem dX10_pour_54 : decode cX10_pour 54 = .ok (.invokevirtual 125, 3) := by decide +kernel
theorem dX10_pour_57 : decode cX10_pour 57 = .ok (.ifCond .eq 9, 3) := by decide +kernel
theorem dX10_pour_60 : decode cX10_pour 60 = .ok (.aload_n 0, 1) := by decide +kernel
theorem dX10_pour_61 : decode cX10_pour 61 = .ok (.iconst 2, 1) := by decide +kernel
theorem dX10_pour_62 : decode cX10_pour 62 = .ok (.invokevirtual 97, 3) := by decide +kernel
theorem dX10_pour_65 : decode cX10_pour 65 = .ok (.ireturn, 1) := by decide +kernel
theorem dX10_pour_66 : decode cX10_pour 66 = .ok (.aload 6, 2) := by decide +kernel
theorem dX10_pour_68 : decode cX10_pour 68 = .ok (.getfield 128, 3) := by decide +kernel
theorem dX10_pour_71 : decode cX10_pour 71 = .ok (.aload 7, 2) := by decide +kernel
theorem dX10_pour_73 : decode cX10_pour 73 = .ok (.getfield 128, 3) := by decide +kernel
theorem dX10_pour_76 : decode cX10_pour 76 = .ok (.if_icmp .eq 10, 3) := by decide +kernel
theorem dX10_pour_79 : decode cX10_pour 79 = .ok (.aload_n 0, 1) := by decide +kernel
theorem dX10_pour_80 : decode cX10_pour 80 = .ok (.bipush 8, 2) := by decide +kernel
theorem dX10_pour_82 : decode cX10_pour 82 = .ok (.invokevirtual 97, 3) := by decide +kernel
theorem dX10_pour_85 : decode cX10_pour 85 = .ok (.ireturn, 1) := by decide +kernel
theorem dX10_pour_86 : decode cX10_pour 86 = .ok (.aload 6, 2) := by decide +kernel
theorem dX10_pour_88 : decode cX10_pour 88 = .ok (.iload_n 2, 1) := by decide +kernel
theorem dX10_pour_89 : decode cX10_pour 89 = .ok (.iload 5, 2) := by decide +kernel
theorem dX10_pour_91 : decode cX10_pour 91 = .ok (.invokevirtual 131, 3) := by decide +kernel
theorem dX10_pour_94 : decode cX10_pour 94 = .ok (.ifCond .eq 15, 3) := by decide +kernel
theorem dX10_pour_97 : decode cX10_pour 97 = .ok (.aload 7, 2) := by decide +kernel
theorem dX10_pour_99 : decode cX10_pour 99 = .ok (.iload 4, 2) := by decide +kernel
theorem dX10_pour_101 : decode cX10_pour 101 = .ok (.iload 5, 2) := by decide +kernel
theorem dX10_pour_103 : decode cX10_pour 103 = .ok (.invokevirtual 131, 3) := by decide +kernel
theorem dX10_pour_106 : decode cX10_pour 106 = .ok (.ifCond .ne 9, 3) := by decide +kernel
theorem dX10_pour_109 : decode cX10_pour 109 = .ok (.aload_n 0, 1) := by decide +kernel
theorem dX10_pour_110 : decode cX10_pour 110 = .ok (.iconst 3, 1) := by decide +kernel
theorem dX10_pour_111 : decode cX10_pour 111 = .ok (.invokevirtual 97, 3) := by decide +kernel
theorem dX10_pour_114 : decode cX10_pour 114 = .ok (.ireturn, 1) := by decide +kernel
theorem dX10_pour_115 : decode cX10_pour 115 = .ok (.aload 6, 2) := by decide +kernel
theorem dX10_pour_117 : decode cX10_pour 117 = .ok (.getfield 135, 3) := by decide +kernel
theorem dX10_pour_120 : decode cX10_pour 120 = .ok (.iload_n 2, 1) := by decide +kernel
theorem dX10_pour_121 : decode cX10_pour 121 = .ok (.aload 7, 2) := by decide +kernel
theorem dX10_pour_123 : decode cX10_pour 123 = .ok (.getfield 135, 3) := by decide +kernel
theorem dX10_pour_126 : decode cX10_pour 126 = .ok (.iload 4, 2) := by decide +kernel
theorem dX10_pour_128 : decode cX10_pour 128 = .ok (.iload 5, 2) := by decide +kernel
theorem dX10_pour_130 : decode cX10_pour 130 = .ok (.invokestatic 139, 3) := by decide +kernel
theorem dX10_pour_133 : decode cX10_pour 133 = .ok (.aload_n 0, 1) := by decide +kernel
theorem dX10_pour_134 : decode cX10_pour 134 = .ok (.invokevirtual 105, 3) := by decide +kernel
theorem dX10_pour_137 : decode cX10_pour 137 = .ok (.ireturn, 1) := by decide +kernel
set_option maxHeartbeats 4000000 in
set_option maxRecDepth 100000 in
theorem ctX10_pour {p1 : Int} {p2 : Int} {p3 : Int} {p4 : Int} {p5 : Int} {σ : jq_M} {res : Int} {σ' : jq_M}  (h : X10_pour p1 p2 p3 p4 p5 σ = some (res, σ')) : jq_MC jq_zX yX10_pour cX10_pour 8 (some .boolean) 2 62 [jR 0, jI p1, jI p2, jI p3, jI p4, jI p5] σ (some (jI res)) σ' := by
  refine jq_met (own := RX10) (L0 := [(0, jR 0), (1, jI p1), (2, jI p2), (3, jI p3), (4, jI p4), (5, jI p5)]) (by decide) rfl rfl rfl ?_
  intro X Γ hnl hlY hRT
  refine jq_use2 (P := fun r => jq_RT jq_zX X (some .boolean) (some (jI r.1)) r.2) ?_ h hRT
  intro K0 hK0
  unfold X10_pour
  have hj38_0 : ∀ (s8 : jq_M), jq_J (X10_pour_j38 s8) K0 (jq_V jq_zX X (jq_zN jq_zX) s8 38 [(0, jR 0)] []) := by
    intro s8
    unfold X10_pour_j38
    refine jq_aload_n Γ dX10_pour_38 rfl 0 rfl (jq_at_0 at_X_0) ?_
    refine jq_iconst Γ dX10_pour_39 rfl ?_
    refine jq_cwZ (jq_virt (avs := [jI 1]) (st := []) Γ hlY rfl ml_RX10_97 rfl at_X_0 rfl rfl rfl rfl rfl dX10_pour_40) rfl (fun r σ' h => ctX10_deny h) (fun v9 s10 hz11 => ?_)
    exact jq_zreturn Γ (hz11) dX10_pour_43 (hK0 _)
  have hj60_0 : ∀ (s15 : jq_M), jq_J (X10_pour_j60 s15) K0 (jq_V jq_zX X (jq_zN jq_zX) s15 60 [(0, jR 0)] []) := by
    intro s15
    unfold X10_pour_j60
    refine jq_aload_n Γ dX10_pour_60 rfl 0 rfl (jq_at_0 at_X_0) ?_
    refine jq_iconst Γ dX10_pour_61 rfl ?_
    refine jq_cwZ (jq_virt (avs := [jI 2]) (st := []) Γ hlY rfl ml_RX10_97 rfl at_X_0 rfl rfl rfl rfl rfl dX10_pour_62) rfl (fun r σ' h => ctX10_deny h) (fun v16 s17 hz18 => ?_)
    exact jq_zreturn Γ (hz18) dX10_pour_65 (hK0 _)
  have hj109_0 : ∀ (s23 : jq_M), jq_J (X10_pour_j109 s23) K0 (jq_V jq_zX X (jq_zN jq_zX) s23 109 [(0, jR 0)] []) := by
    intro s23
    unfold X10_pour_j109
    refine jq_aload_n Γ dX10_pour_109 rfl 0 rfl (jq_at_0 at_X_0) ?_
    refine jq_iconst Γ dX10_pour_110 rfl ?_
    refine jq_cwZ (jq_virt (avs := [jI 3]) (st := []) Γ hlY rfl ml_RX10_97 rfl at_X_0 rfl rfl rfl rfl rfl dX10_pour_111) rfl (fun r σ' h => ctX10_deny h) (fun v24 s25 hz26 => ?_)
    exact jq_zreturn Γ (hz26) dX10_pour_114 (hK0 _)
  refine jq_aload_n Γ dX10_pour_0 rfl 0 rfl (jq_at_0 at_X_0) ?_
  refine jq_iload_n Γ dX10_pour_1 rfl 1 rfl ?_
  refine jq_cpR (jq_virt (avs := [jI p1]) (st := []) Γ hlY rfl ml_RX10_89 rfl at_X_0 rfl rfl rfl rfl rfl dX10_pour_2) (fun r h => ctX10_trayAt h) (fun v1 => ?_)
  refine jq_trnN (fun v2 hz3 => ?_)
  refine jq_astoreQ (L' := [(6, jR v2), (0, jR 0), (1, jI p1), (2, jI p2), (3, jI p3), (4, jI p4), (5, jI p5)]) Γ dX10_pour_5 hnl rfl rfl ?_
  refine jq_aload_n Γ dX10_pour_7 rfl 1 rfl (jq_at_0 at_X_0) ?_
  refine jq_iload_n Γ dX10_pour_8 rfl 4 rfl ?_
  refine jq_cpR (jq_virt (avs := [jI p3]) (st := []) Γ hlY rfl ml_RX10_89 rfl at_X_0 rfl rfl rfl rfl rfl dX10_pour_9) (fun r h => ctX10_trayAt h) (fun v4 => ?_)
  refine jq_trnN (fun v5 hz6 => ?_)
  refine jq_astoreQ (L' := [(7, jR v5), (6, jR v2), (0, jR 0), (1, jI p1), (2, jI p2), (3, jI p3), (4, jI p4), (5, jI p5)]) Γ dX10_pour_12 hnl rfl rfl ?_
  refine jq_aloadQ Γ dX10_pour_14 1 rfl ?_
  refine jq_ifnull (tgt := 38) Γ (jq_trn_0 hz3) dX10_pour_16 rfl (fun _ => ?_) (fun hq7 => ?_)
  · refine jq_sub Γ (L' := [(0, jR 0)]) [2] rfl ?_
    exact hj38_0 σ
  · refine jq_aloadQ Γ dX10_pour_19 0 rfl ?_
    refine jq_ifnull (tgt := 38) Γ (jq_trn_0 hz6) dX10_pour_21 rfl (fun _ => ?_) (fun hq12 => ?_)
    · refine jq_sub Γ (L' := [(0, jR 0)]) [2] rfl ?_
      exact hj38_0 σ
    · refine jq_iload_n Γ dX10_pour_24 rfl 4 rfl ?_
      refine jq_if_lt (tgt := 38) Γ dX10_pour_25 rfl ?_ ?_
      · refine jq_sub Γ (L' := [(0, jR 0)]) [2] rfl ?_
        exact hj38_0 σ
      · refine jq_iload Γ dX10_pour_28 6 rfl ?_
        refine jq_if_lt (tgt := 38) Γ dX10_pour_30 rfl ?_ ?_
        · refine jq_sub Γ (L' := [(0, jR 0)]) [2] rfl ?_
          exact hj38_0 σ
        · refine jq_iload Γ dX10_pour_33 7 rfl ?_
          refine jq_if_ge (tgt := 44) Γ dX10_pour_35 rfl ?_ ?_
          · refine jq_aload Γ dX10_pour_44 1 rfl (jq_at_0 (at_trp (hz3.resolve_left hq7))) ?_
            refine jq_cpZ (jq_virt (avs := []) (st := []) Γ hlY rfl ml_RX10_125 rfl (at_trp (hz3.resolve_left hq7)) rfl rfl rfl rfl rfl dX10_pour_46) rfl (fun r h => ctX9_isMissing (hz3.resolve_left hq7) h) (fun v13 hz14 => ?_)
            refine jq_if_ne (tgt := 60) Γ dX10_pour_49 rfl ?_ ?_
            · refine jq_sub Γ (L' := [(0, jR 0)]) [2] rfl ?_
              exact hj60_0 σ
            · refine jq_aload Γ dX10_pour_52 0 rfl (jq_at_0 (at_trp (hz6.resolve_left hq12))) ?_
              refine jq_cpZ (jq_virt (avs := []) (st := []) Γ hlY rfl ml_RX10_125 rfl (at_trp (hz6.resolve_left hq12)) rfl rfl rfl rfl rfl dX10_pour_54) rfl (fun r h => ctX9_isMissing (hz6.resolve_left hq12) h) (fun v19 hz20 => ?_)
              refine jq_if_eq (tgt := 66) Γ dX10_pour_57 rfl ?_ ?_
              · refine jq_aload Γ dX10_pour_66 1 rfl (jq_at_0 (at_trp (hz3.resolve_left hq7))) ?_
                refine jq_getI (J := 0) Γ (at_trp (hz3.resolve_left hq7)) fl_RX10_128 rfl rfl dX10_pour_68 ?_
                refine jq_aload Γ dX10_pour_71 0 rfl (jq_at_0 (at_trp (hz6.resolve_left hq12))) ?_
                refine jq_getI (J := 0) Γ (at_trp (hz6.resolve_left hq12)) fl_RX10_128 rfl rfl dX10_pour_73 ?_
                refine jq_icmp_eq (tgt := 86) Γ dX10_pour_76 rfl ?_ ?_
                · refine jq_aload Γ dX10_pour_86 1 rfl (jq_at_0 (at_trp (hz3.resolve_left hq7))) ?_
                  refine jq_iload_n Γ dX10_pour_88 rfl 4 rfl ?_
                  refine jq_iload Γ dX10_pour_89 7 rfl ?_
                  refine jq_cpZ (jq_virt (avs := [jI p2, jI p5]) (st := []) Γ hlY rfl ml_RX10_131 rfl (at_trp (hz3.resolve_left hq7)) rfl rfl rfl rfl rfl dX10_pour_91) rfl (fun r h => ctX9_spans (hz3.resolve_left hq7) h) (fun v21 hz22 => ?_)
                  refine jq_if_eq (tgt := 109) Γ dX10_pour_94 rfl ?_ ?_
                  · refine jq_sub Γ (L' := [(0, jR 0)]) [2] rfl ?_
                    exact hj109_0 σ
                  · refine jq_aload Γ dX10_pour_97 0 rfl (jq_at_0 (at_trp (hz6.resolve_left hq12))) ?_
                    refine jq_iload Γ dX10_pour_99 6 rfl ?_
                    refine jq_iload Γ dX10_pour_101 7 rfl ?_
                    refine jq_cpZ (jq_virt (avs := [jI p4, jI p5]) (st := []) Γ hlY rfl ml_RX10_131 rfl (at_trp (hz6.resolve_left hq12)) rfl rfl rfl rfl rfl dX10_pour_103) rfl (fun r h => ctX9_spans (hz6.resolve_left hq12) h) (fun v27 hz28 => ?_)
                    refine jq_if_ne (tgt := 115) Γ dX10_pour_106 rfl ?_ ?_
                    · refine jq_aload Γ dX10_pour_115 1 rfl (jq_at_0 (at_trp (hz3.resolve_left hq7))) ?_
                      refine jq_getR (v := (v2 + 1)) Γ hlY (at_trp (hz3.resolve_left hq7)) fl_RX10_135 rfl rfl (ly_X9_row (hz3.resolve_left hq7)) dX10_pour_117 ?_
                      refine jq_iload_n Γ dX10_pour_120 rfl 4 rfl ?_
                      refine jq_aload Γ dX10_pour_121 0 rfl (jq_at_0 (at_trp (hz6.resolve_left hq12))) ?_
                      refine jq_getR (v := (v5 + 1)) Γ hlY (at_trp (hz6.resolve_left hq12)) fl_RX10_135 rfl rfl (ly_X9_row (hz6.resolve_left hq12)) dX10_pour_123 ?_
                      refine jq_iload Γ dX10_pour_126 6 rfl ?_
                      refine jq_iload Γ dX10_pour_128 7 rfl ?_
                      refine jq_copyl Γ (at_trp_1 (hz3.resolve_left hq7)) (at_trp_1 (hz6.resolve_left hq12)) rfl rfl rfl aw_RX10_139 awn aws awi rfl rfl dX10_pour_130 (fun s29 => ?_)
                      refine jq_aload_n Γ dX10_pour_133 rfl 2 rfl (jq_at_0 at_X_0) ?_
                      refine jq_cwZ (jq_virt (avs := []) (st := []) Γ hlY rfl ml_RX10_105 rfl at_X_0 rfl rfl rfl rfl rfl dX10_pour_134) rfl (fun r σ' h => ctX10_grant h) (fun v30 s31 hz32 => ?_)
                      exact jq_zreturn Γ (hz32) dX10_pour_137 (hK0 _)
                    · refine jq_sub Γ (L' := [(0, jR 0)]) [2] rfl ?_
                      exact hj109_0 σ
                · refine jq_aload_n Γ dX10_pour_79 rfl 2 rfl (jq_at_0 at_X_0) ?_
                  refine jq_bipush Γ dX10_pour_80 rfl ?_
                  refine jq_cwZ (jq_virt (avs := [jI 8]) (st := []) Γ hlY rfl ml_RX10_97 rfl at_X_0 rfl rfl rfl rfl rfl dX10_pour_82) rfl (fun r σ' h => ctX10_deny h) (fun v33 s34 hz35 => ?_)
                  exact jq_zreturn Γ (hz35) dX10_pour_85 (hK0 _)
              · refine jq_sub Γ (L' := [(0, jR 0)]) [2] rfl ?_
                exact hj60_0 σ
          · refine jq_sub Γ (L' := [(0, jR 0)]) [2] rfl ?_
            exact hj38_0 σ


theorem dX5_add_0 : decode cX5_add 0 = .ok (.bipush 24, 2) := by decide +kernel
theorem dX5_add_2 : decode cX5_add 2 = .ok (.istore_n 2, 1) := by decide +kernel
theorem dX5_add_3 : decode cX5_add 3 = .ok (.iload_n 2, 1) := by decide +kernel
theorem dX5_add_4 : decode cX5_add 4 = .ok (.ifCond .lt 51, 3) := by decide +kernel
theorem dX5_add_7 : decode cX5_add 7 = .ok (.aload_n 0, 1) := by decide +kernel
theorem dX5_add_8 : decode cX5_add 8 = .ok (.getfield 37, 3) := by decide +kernel
theorem dX5_add_11 : decode cX5_add 11 = .ok (.ifCond .lt 44, 3) := by decide +kernel
theorem dX5_add_14 : decode cX5_add 14 = .ok (.aload_n 0, 1) := by decide +kernel
theorem dX5_add_15 : decode cX5_add 15 = .ok (.getfield 37, 3) := by decide +kernel
theorem dX5_add_18 : decode cX5_add 18 = .ok (.aload_n 0, 1) := by decide +kernel
theorem dX5_add_19 : decode cX5_add 19 = .ok (.getfield 15, 3) := by decide +kernel
theorem dX5_add_22 : decode cX5_add 22 = .ok (.arraylength, 1) := by decide +kernel
theorem dX5_add_23 : decode cX5_add 23 = .ok (.if_icmp .ge 32, 3) := by decide +kernel
theorem dX5_add_26 : decode cX5_add 26 = .ok (.aload_n 0, 1) := by decide +kernel
theorem dX5_add_27 : decode cX5_add 27 = .ok (.getfield 15, 3) := by decide +kernel
theorem dX5_add_30 : decode cX5_add 30 = .ok (.aload_n 0, 1) := by decide +kernel
theorem dX5_add_31 : decode cX5_add 31 = .ok (.getfield 37, 3) := by decide +kernel
theorem dX5_add_34 : decode cX5_add 34 = .ok (.iload_n 1, 1) := by decide +kernel
theorem dX5_add_35 : decode cX5_add 35 = .ok (.iload_n 2, 1) := by decide +kernel
theorem dX5_add_36 : decode cX5_add 36 = .ok (.ishr, 1) := by decide +kernel
theorem dX5_add_37 : decode cX5_add 37 = .ok (.i2b, 1) := by decide +kernel
theorem dX5_add_38 : decode cX5_add 38 = .ok (.bastore, 1) := by decide +kernel
theorem dX5_add_39 : decode cX5_add 39 = .ok (.aload_n 0, 1) := by decide +kernel
theorem dX5_add_40 : decode cX5_add 40 = .ok (.dup, 1) := by decide +kernel
theorem dX5_add_41 : decode cX5_add 41 = .ok (.getfield 37, 3) := by decide +kernel
theorem dX5_add_44 : decode cX5_add 44 = .ok (.iconst 1, 1) := by decide +kernel
theorem dX5_add_45 : decode cX5_add 45 = .ok (.iadd, 1) := by decide +kernel
theorem dX5_add_46 : decode cX5_add 46 = .ok (.putfield 37, 3) := by decide +kernel
theorem dX5_add_49 : decode cX5_add 49 = .ok (.iinc 2 (-8), 3) := by decide +kernel
theorem dX5_add_52 : decode cX5_add 52 = .ok (.goto (-49), 3) := by decide +kernel
theorem dX5_add_55 : decode cX5_add 55 = .ok (.return_, 1) := by decide +kernel
set_option maxHeartbeats 4000000 in
set_option maxRecDepth 100000 in
theorem ctX5_add {p1 : Int} {σ : jq_M} {σ' : jq_M}  (h : X5_add p1 σ = some σ') : jq_MC jq_zX yX5_add cX5_add 3 none 1 40 [jR 2, jI p1] σ none σ' := by
  refine jq_met (own := RX5) (L0 := [(0, jR 2), (1, jI p1)]) (by decide) rfl rfl rfl ?_
  intro X Γ hnl hlY hRT
  refine jq_use2 (P := fun r => jq_RT jq_zX X none none r) ?_ h hRT
  intro K0 hK0
  unfold X5_add
  refine jq_bipush Γ dX5_add_0 rfl ?_
  refine jq_istore_n (L' := [(2, jI 24), (0, jR 2), (1, jI p1)]) Γ dX5_add_2 rfl hnl rfl rfl ?_
  refine jq_sub Γ (L' := [(0, jR 2), (1, jI p1), (2, jI 24)]) [1, 2, 0] rfl ?_
  refine jq_loop2 (C := fun (t1 : Int × jq_M) => jq_V jq_zX X (jq_zN jq_zX) t1.2 3 [(0, jR 2), (1, jI p1), (2, jI t1.1)] []) (KX := fun (e5 : jq_M) => jq_V jq_zX X (jq_zN jq_zX) e5 55 [] []) ?_ ?_ (24, σ)
  · intro K3_t1 hCt1 hXt1 t1
    unfold X5_add_b3
    refine jq_iload_n Γ dX5_add_3 rfl 2 rfl ?_
    refine jq_if_lt (tgt := 55) Γ dX5_add_4 rfl ?_ ?_
    · refine jq_sub Γ (L' := []) [] rfl ?_
      exact jq_done (hXt1 t1.2)
    · refine jq_aload_n Γ dX5_add_7 rfl 0 rfl (jq_at_0 at_X_2) ?_
      refine jq_getI (J := 2) Γ at_X_2 fl_RX5_37 rfl rfl dX5_add_8 ?_
      refine jq_if_lt (tgt := 55) Γ dX5_add_11 rfl ?_ ?_
      · refine jq_sub Γ (L' := []) [] rfl ?_
        exact jq_done (hXt1 t1.2)
      · refine jq_aload_n Γ dX5_add_14 rfl 0 rfl (jq_at_0 at_X_2) ?_
        refine jq_getI (J := 2) Γ at_X_2 fl_RX5_37 rfl rfl dX5_add_15 ?_
        refine jq_aload_n Γ dX5_add_18 rfl 0 rfl (jq_at_0 at_X_2) ?_
        refine jq_getR (v := 4) Γ hlY at_X_2 fl_RX5_15 rfl rfl ly_X5_text dX5_add_19 ?_
        refine jq_alen Γ at_X_4 rfl rfl rfl dX5_add_22 ?_
        refine jq_icmp_ge (tgt := 55) Γ dX5_add_23 rfl ?_ ?_
        · refine jq_sub Γ (L' := []) [] rfl ?_
          exact jq_done (hXt1 t1.2)
        · refine jq_aload_n Γ dX5_add_26 rfl 0 rfl (jq_at_0 at_X_2) ?_
          refine jq_getR (v := 4) Γ hlY at_X_2 fl_RX5_15 rfl rfl ly_X5_text dX5_add_27 ?_
          refine jq_aload_n Γ dX5_add_30 rfl 0 rfl (jq_at_0 at_X_2) ?_
          refine jq_getI (J := 2) Γ at_X_2 fl_RX5_37 rfl rfl dX5_add_31 ?_
          refine jq_iload_n Γ dX5_add_34 rfl 1 rfl ?_
          refine jq_iload_n Γ dX5_add_35 rfl 2 rfl ?_
          refine jq_ishr Γ dX5_add_36 ?_
          refine jq_i2b Γ dX5_add_37 ?_
          refine jq_bast Γ at_X_4 rfl dX5_add_38 (fun s2 => ?_)
          refine jq_aload_n Γ dX5_add_39 rfl 0 rfl (jq_at_0 at_X_2) ?_
          refine jq_dup Γ dX5_add_40 rfl ?_
          refine jq_getI (J := 2) Γ at_X_2 fl_RX5_37 rfl rfl dX5_add_41 ?_
          refine jq_iconst Γ dX5_add_44 rfl ?_
          refine jq_iadd Γ dX5_add_45 ?_
          refine jq_putI Γ at_X_2 fl_RX5_37 rfl rfl dX5_add_46 (fun s3 => ?_)
          refine jq_iincN (L' := fun v4 => [(2, jI v4), (0, jR 2), (1, jI p1)]) Γ dX5_add_49 2 rfl hnl rfl (fun _ => rfl) (fun v4 => ?_)
          refine jq_goto Γ (tgt := 3) dX5_add_52 rfl ?_
          refine jq_sub Γ (L' := [(0, jR 2), (1, jI p1), (2, jI v4)]) [1, 2, 0] rfl ?_
          exact jq_done (hCt1 (v4, s3))
  · intro e5
    exact jq_vreturn Γ dX5_add_55 (hK0 _)


theorem dX10_feed_0 : decode cX10_feed 0 = .ok (.aload_n 0, 1) := by decide +kernel
theorem dX10_feed_1 : decode cX10_feed 1 = .ok (.getfield 18, 3) := by decide +kernel
theorem dX10_feed_4 : decode cX10_feed 4 = .ok (.getfield 145, 3) := by decide +kernel
theorem dX10_feed_7 : decode cX10_feed 7 = .ok (.sipush 880, 3) := by decide +kernel
theorem dX10_feed_10 : decode cX10_feed 10 = .ok (.if_icmp .le 5, 3) := by decide +kernel
theorem dX10_feed_13 : decode cX10_feed 13 = .ok (.iconst (-1), 1) := by decide +kernel
theorem dX10_feed_14 : decode cX10_feed 14 = .ok (.ireturn, 1) := by decide +kernel
theorem dX10_feed_15 : decode cX10_feed 15 = .ok (.aload_n 0, 1) := by decide +kernel
theorem dX10_feed_16 : decode cX10_feed 16 = .ok (.getfield 18, 3) := by decide +kernel
theorem dX10_feed_19 : decode cX10_feed 19 = .ok (.iload_n 1, 1) := by decide +kernel
theorem dX10_feed_20 : decode cX10_feed 20 = .ok (.invokevirtual 148, 3) := by decide +kernel
theorem dX10_feed_23 : decode cX10_feed 23 = .ok (.aload_n 0, 1) := by decide +kernel
theorem dX10_feed_24 : decode cX10_feed 24 = .ok (.getfield 18, 3) := by decide +kernel
theorem dX10_feed_27 : decode cX10_feed 27 = .ok (.iload_n 2, 1) := by decide +kernel
theorem dX10_feed_28 : decode cX10_feed 28 = .ok (.invokevirtual 148, 3) := by decide +kernel
theorem dX10_feed_31 : decode cX10_feed 31 = .ok (.aload_n 0, 1) := by decide +kernel
theorem dX10_feed_32 : decode cX10_feed 32 = .ok (.getfield 18, 3) := by decide +kernel
theorem dX10_feed_35 : decode cX10_feed 35 = .ok (.iload_n 3, 1) := by decide +kernel
theorem dX10_feed_36 : decode cX10_feed 36 = .ok (.invokevirtual 148, 3) := by decide +kernel
theorem dX10_feed_39 : decode cX10_feed 39 = .ok (.aload_n 0, 1) := by decide +kernel
theorem dX10_feed_40 : decode cX10_feed 40 = .ok (.getfield 18, 3) := by decide +kernel
theorem dX10_feed_43 : decode cX10_feed 43 = .ok (.iload 4, 2) := by decide +kernel
theorem dX10_feed_45 : decode cX10_feed 45 = .ok (.invokevirtual 148, 3) := by decide +kernel
theorem dX10_feed_48 : decode cX10_feed 48 = .ok (.aload_n 0, 1) := by decide +kernel
theorem dX10_feed_49 : decode cX10_feed 49 = .ok (.getfield 18, 3) := by decide +kernel
theorem dX10_feed_52 : decode cX10_feed 52 = .ok (.iload 5, 2) := by decide +kernel
theorem dX10_feed_54 : decode cX10_feed 54 = .ok (.invokevirtual 148, 3) := by decide +kernel
theorem dX10_feed_57 : decode cX10_feed 57 = .ok (.aload_n 0, 1) := by decide +kernel
theorem dX10_feed_58 : decode cX10_feed 58 = .ok (.getfield 18, 3) := by decide +kernel
theorem dX10_feed_61 : decode cX10_feed 61 = .ok (.getfield 145, 3) := by decide +kernel
theorem dX10_feed_64 : decode cX10_feed 64 = .ok (.ireturn, 1) := by decide +kernel
set_option maxHeartbeats 4000000 in
set_option maxRecDepth 100000 in
theorem ctX10_feed {p1 : Int} {p2 : Int} {p3 : Int} {p4 : Int} {p5 : Int} {σ : jq_M} {res : Int} {σ' : jq_M}  (h : X10_feed p1 p2 p3 p4 p5 σ = some (res, σ')) : jq_MC jq_zX yX10_feed cX10_feed 6 (some .int) 2 62 [jR 0, jI p1, jI p2, jI p3, jI p4, jI p5] σ (some (jI res)) σ' := by
  refine jq_met (own := RX10) (L0 := [(0, jR 0), (1, jI p1), (2, jI p2), (3, jI p3), (4, jI p4), (5, jI p5)]) (by decide) rfl rfl rfl ?_
  intro X Γ hnl hlY hRT
  refine jq_use2 (P := fun r => jq_RT jq_zX X (some .int) (some (jI r.1)) r.2) ?_ h hRT
  intro K0 hK0
  unfold X10_feed
  refine jq_aload_n Γ dX10_feed_0 rfl 0 rfl (jq_at_0 at_X_0) ?_
  refine jq_getR (v := 2) Γ hlY at_X_0 fl_RX10_18 rfl rfl ly_X10_reader dX10_feed_1 ?_
  refine jq_getI (J := 2) Γ at_X_2 fl_RX10_145 rfl rfl dX10_feed_4 ?_
  refine jq_sipush Γ dX10_feed_7 rfl ?_
  refine jq_icmp_le (tgt := 15) Γ dX10_feed_10 rfl ?_ ?_
  · refine jq_aload_n Γ dX10_feed_15 rfl 0 rfl (jq_at_0 at_X_0) ?_
    refine jq_getR (v := 2) Γ hlY at_X_0 fl_RX10_18 rfl rfl ly_X10_reader dX10_feed_16 ?_
    refine jq_iload_n Γ dX10_feed_19 rfl 1 rfl ?_
    refine jq_cwV (jq_virt (avs := [jI p1]) (st := []) Γ hlY rfl ml_RX10_148 rfl at_X_2 rfl rfl rfl rfl rfl dX10_feed_20) (fun σ' h => ctX5_add h) (fun s1 => ?_)
    refine jq_aload_n Γ dX10_feed_23 rfl 0 rfl (jq_at_0 at_X_0) ?_
    refine jq_getR (v := 2) Γ hlY at_X_0 fl_RX10_18 rfl rfl ly_X10_reader dX10_feed_24 ?_
    refine jq_iload_n Γ dX10_feed_27 rfl 2 rfl ?_
    refine jq_cwV (jq_virt (avs := [jI p2]) (st := []) Γ hlY rfl ml_RX10_148 rfl at_X_2 rfl rfl rfl rfl rfl dX10_feed_28) (fun σ' h => ctX5_add h) (fun s2 => ?_)
    refine jq_aload_n Γ dX10_feed_31 rfl 0 rfl (jq_at_0 at_X_0) ?_
    refine jq_getR (v := 2) Γ hlY at_X_0 fl_RX10_18 rfl rfl ly_X10_reader dX10_feed_32 ?_
    refine jq_iload_n Γ dX10_feed_35 rfl 3 rfl ?_
    refine jq_cwV (jq_virt (avs := [jI p3]) (st := []) Γ hlY rfl ml_RX10_148 rfl at_X_2 rfl rfl rfl rfl rfl dX10_feed_36) (fun σ' h => ctX5_add h) (fun s3 => ?_)
    refine jq_aload_n Γ dX10_feed_39 rfl 0 rfl (jq_at_0 at_X_0) ?_
    refine jq_getR (v := 2) Γ hlY at_X_0 fl_RX10_18 rfl rfl ly_X10_reader dX10_feed_40 ?_
    refine jq_iload Γ dX10_feed_43 4 rfl ?_
    refine jq_cwV (jq_virt (avs := [jI p4]) (st := []) Γ hlY rfl ml_RX10_148 rfl at_X_2 rfl rfl rfl rfl rfl dX10_feed_45) (fun σ' h => ctX5_add h) (fun s4 => ?_)
    refine jq_aload_n Γ dX10_feed_48 rfl 0 rfl (jq_at_0 at_X_0) ?_
    refine jq_getR (v := 2) Γ hlY at_X_0 fl_RX10_18 rfl rfl ly_X10_reader dX10_feed_49 ?_
    refine jq_iload Γ dX10_feed_52 5 rfl ?_
    refine jq_cwV (jq_virt (avs := [jI p5]) (st := []) Γ hlY rfl ml_RX10_148 rfl at_X_2 rfl rfl rfl rfl rfl dX10_feed_54) (fun σ' h => ctX5_add h) (fun s5 => ?_)
    refine jq_aload_n Γ dX10_feed_57 rfl 0 rfl (jq_at_0 at_X_0) ?_
    refine jq_getR (v := 2) Γ hlY at_X_0 fl_RX10_18 rfl rfl ly_X10_reader dX10_feed_58 ?_
    refine jq_getI (J := 2) Γ at_X_2 fl_RX10_145 rfl rfl dX10_feed_61 ?_
    exact jq_ireturn Γ dX10_feed_64 (hK0 _)
  · refine jq_iconst Γ dX10_feed_13 rfl ?_
    exact jq_ireturn Γ dX10_feed_14 (hK0 _)


theorem dX5_here_0 : decode cX5_here 0 = .ok (.aload_n 0, 1) := by decide +kernel
theorem dX5_here_1 : decode cX5_here 1 = .ok (.getfield 49, 3) := by decide +kernel
theorem dX5_here_4 : decode cX5_here 4 = .ok (.ifCond .lt 38, 3) := by decide +kernel
theorem dX5_here_7 : decode cX5_here 7 = .ok (.aload_n 0, 1) := by decide +kernel
theorem dX5_here_8 : decode cX5_here 8 = .ok (.getfield 49, 3) := by decide +kernel
theorem dX5_here_11 : decode cX5_here 11 = .ok (.aload_n 0, 1) := by decide +kernel
theorem dX5_here_12 : decode cX5_here 12 = .ok (.getfield 47, 3) := by decide +kernel
theorem dX5_here_15 : decode cX5_here 15 = .ok (.if_icmp .ge 27, 3) := by decide +kernel
theorem dX5_here_18 : decode cX5_here 18 = .ok (.aload_n 0, 1) := by decide +kernel
theorem dX5_here_19 : decode cX5_here 19 = .ok (.getfield 49, 3) := by decide +kernel
theorem dX5_here_22 : decode cX5_here 22 = .ok (.aload_n 0, 1) := by decide +kernel
theorem dX5_here_23 : decode cX5_here 23 = .ok (.getfield 15, 3) := by decide +kernel
theorem dX5_here_26 : decode cX5_here 26 = .ok (.arraylength, 1) := by decide +kernel
theorem dX5_here_27 : decode cX5_here 27 = .ok (.if_icmp .ge 15, 3) := by decide +kernel
theorem dX5_here_30 : decode cX5_here 30 = .ok (.aload_n 0, 1) := by decide +kernel
theorem dX5_here_31 : decode cX5_here 31 = .ok (.getfield 15, 3) := by decide +kernel
theorem dX5_here_34 : decode cX5_here 34 = .ok (.aload_n 0, 1) := by decide +kernel
theorem dX5_here_35 : decode cX5_here 35 = .ok (.getfield 49, 3) := by decide +kernel
theorem dX5_here_38 : decode cX5_here 38 = .ok (.baload, 1) := by decide +kernel
theorem dX5_here_39 : decode cX5_here 39 = .ok (.goto 4, 3) := by decide +kernel
theorem dX5_here_42 : decode cX5_here 42 = .ok (.iconst 0, 1) := by decide +kernel
theorem dX5_here_43 : decode cX5_here 43 = .ok (.ireturn, 1) := by decide +kernel
set_option maxHeartbeats 4000000 in
set_option maxRecDepth 100000 in
theorem ctX5_here  {σ : jq_M} {res : Int}  (h : X5_here σ = some res) : jq_MC jq_zX yX5_here cX5_here 1 (some .int) 1 40 [jR 2] σ (some (jI res)) σ := by
  refine jq_met (own := RX5) (L0 := [(0, jR 2)]) (by decide) rfl rfl rfl ?_
  intro X Γ hnl hlY hRT
  refine jq_use2 (P := fun r => jq_RT jq_zX X (some .int) (some (jI r)) σ) ?_ h hRT
  intro K0 hK0
  unfold X5_here
  refine jq_aload_n Γ dX5_here_0 rfl 0 rfl (jq_at_0 at_X_2) ?_
  refine jq_getI (J := 4) Γ at_X_2 fl_RX5_49 rfl rfl dX5_here_1 ?_
  refine jq_if_lt (tgt := 42) Γ dX5_here_4 rfl ?_ ?_
  · refine jq_iconst Γ dX5_here_42 rfl ?_
    exact jq_ireturn Γ dX5_here_43 (hK0 _)
  · refine jq_aload_n Γ dX5_here_7 rfl 0 rfl (jq_at_0 at_X_2) ?_
    refine jq_getI (J := 4) Γ at_X_2 fl_RX5_49 rfl rfl dX5_here_8 ?_
    refine jq_aload_n Γ dX5_here_11 rfl 0 rfl (jq_at_0 at_X_2) ?_
    refine jq_getI (J := 3) Γ at_X_2 fl_RX5_47 rfl rfl dX5_here_12 ?_
    refine jq_icmp_ge (tgt := 42) Γ dX5_here_15 rfl ?_ ?_
    · refine jq_iconst Γ dX5_here_42 rfl ?_
      exact jq_ireturn Γ dX5_here_43 (hK0 _)
    · refine jq_aload_n Γ dX5_here_18 rfl 0 rfl (jq_at_0 at_X_2) ?_
      refine jq_getI (J := 4) Γ at_X_2 fl_RX5_49 rfl rfl dX5_here_19 ?_
      refine jq_aload_n Γ dX5_here_22 rfl 0 rfl (jq_at_0 at_X_2) ?_
      refine jq_getR (v := 4) Γ hlY at_X_2 fl_RX5_15 rfl rfl ly_X5_text dX5_here_23 ?_
      refine jq_alen Γ at_X_4 rfl rfl rfl dX5_here_26 ?_
      refine jq_icmp_ge (tgt := 42) Γ dX5_here_27 rfl ?_ ?_
      · refine jq_iconst Γ dX5_here_42 rfl ?_
        exact jq_ireturn Γ dX5_here_43 (hK0 _)
      · refine jq_aload_n Γ dX5_here_30 rfl 0 rfl (jq_at_0 at_X_2) ?_
        refine jq_getR (v := 4) Γ hlY at_X_2 fl_RX5_15 rfl rfl ly_X5_text dX5_here_31 ?_
        refine jq_aload_n Γ dX5_here_34 rfl 0 rfl (jq_at_0 at_X_2) ?_
        refine jq_getI (J := 4) Γ at_X_2 fl_RX5_49 rfl rfl dX5_here_35 ?_
        refine jq_bald Γ at_X_4 rfl dX5_here_38 (fun v1 => ?_)
        refine jq_goto Γ (tgt := 43) dX5_here_39 rfl ?_
        exact jq_ireturn Γ dX5_here_43 (hK0 _)


theorem dX5_isBlank_0 : decode cX5_isBlank 0 = .ok (.iload_n 0, 1) := by decide +kernel
theorem dX5_isBlank_1 : decode cX5_isBlank 1 = .ok (.bipush 32, 2) := by decide +kernel
theorem dX5_isBlank_3 : decode cX5_isBlank 3 = .ok (.if_icmp .eq 9, 3) := by decide +kernel
theorem dX5_isBlank_6 : decode cX5_isBlank 6 = .ok (.iload_n 0, 1) := by decide +kernel
theorem dX5_isBlank_7 : decode cX5_isBlank 7 = .ok (.bipush 10, 2) := by decide +kernel
theorem dX5_isBlank_9 : decode cX5_isBlank 9 = .ok (.if_icmp .ne 7, 3) := by decide +kernel
theorem dX5_isBlank_12 : decode cX5_isBlank 12 = .ok (.iconst 1, 1) := by decide +kernel
theorem dX5_isBlank_13 : decode cX5_isBlank 13 = .ok (.goto 4, 3) := by decide +kernel
theorem dX5_isBlank_16 : decode cX5_isBlank 16 = .ok (.iconst 0, 1) := by decide +kernel
theorem dX5_isBlank_17 : decode cX5_isBlank 17 = .ok (.ireturn, 1) := by decide +kernel
set_option maxHeartbeats 4000000 in
set_option maxRecDepth 100000 in
theorem ctX5_isBlank {p0 : Int} {σ : jq_M} {res : Int}  (h : X5_isBlank p0 σ = some res) : jq_MC jq_zX yX5_isBlank cX5_isBlank 1 (some .boolean) 1 40 [jI p0] σ (some (jI res)) σ := by
  refine jq_met (own := RX5) (L0 := [(0, jI p0)]) (by decide) rfl rfl rfl ?_
  intro X Γ hnl hlY hRT
  refine jq_use2 (P := fun r => jq_RT jq_zX X (some .boolean) (some (jI r)) σ) ?_ h hRT
  intro K0 hK0
  unfold X5_isBlank
  refine jq_iload_n Γ dX5_isBlank_0 rfl 0 rfl ?_
  refine jq_bipush Γ dX5_isBlank_1 rfl ?_
  refine jq_icmp_eq (tgt := 12) Γ dX5_isBlank_3 rfl ?_ ?_
  · refine jq_iconst Γ dX5_isBlank_12 rfl ?_
    refine jq_goto Γ (tgt := 17) dX5_isBlank_13 rfl ?_
    exact jq_zreturn Γ (Or.inr rfl) dX5_isBlank_17 (hK0 _)
  · refine jq_iload_n Γ dX5_isBlank_6 rfl 0 rfl ?_
    refine jq_bipush Γ dX5_isBlank_7 rfl ?_
    refine jq_icmp_ne (tgt := 16) Γ dX5_isBlank_9 rfl ?_ ?_
    · refine jq_iconst Γ dX5_isBlank_16 rfl ?_
      exact jq_zreturn Γ (Or.inl rfl) dX5_isBlank_17 (hK0 _)
    · refine jq_iconst Γ dX5_isBlank_12 rfl ?_
      refine jq_goto Γ (tgt := 17) dX5_isBlank_13 rfl ?_
      exact jq_zreturn Γ (Or.inr rfl) dX5_isBlank_17 (hK0 _)


theorem dX5_isLetter_0 : decode cX5_isLetter 0 = .ok (.iload_n 0, 1) := by decide +kernel
theorem dX5_isLetter_1 : decode cX5_isLetter 1 = .ok (.bipush 97, 2) := by decide +kernel
theorem dX5_isLetter_3 : decode cX5_isLetter 3 = .ok (.if_icmp .lt 13, 3) := by decide +kernel
theorem dX5_isLetter_6 : decode cX5_isLetter 6 = .ok (.iload_n 0, 1) := by decide +kernel
theorem dX5_isLetter_7 : decode cX5_isLetter 7 = .ok (.bipush 122, 2) := by decide +kernel
theorem dX5_isLetter_9 : decode cX5_isLetter 9 = .ok (.if_icmp .gt 7, 3) := by decide +kernel
theorem dX5_isLetter_12 : decode cX5_isLetter 12 = .ok (.iconst 1, 1) := by decide +kernel
theorem dX5_isLetter_13 : decode cX5_isLetter 13 = .ok (.goto 4, 3) := by decide +kernel
theorem dX5_isLetter_16 : decode cX5_isLetter 16 = .ok (.iconst 0, 1) := by decide +kernel
theorem dX5_isLetter_17 : decode cX5_isLetter 17 = .ok (.ireturn, 1) := by decide +kernel
set_option maxHeartbeats 4000000 in
set_option maxRecDepth 100000 in
theorem ctX5_isLetter {p0 : Int} {σ : jq_M} {res : Int}  (h : X5_isLetter p0 σ = some res) : jq_MC jq_zX yX5_isLetter cX5_isLetter 1 (some .boolean) 1 40 [jI p0] σ (some (jI res)) σ := by
  refine jq_met (own := RX5) (L0 := [(0, jI p0)]) (by decide) rfl rfl rfl ?_
  intro X Γ hnl hlY hRT
  refine jq_use2 (P := fun r => jq_RT jq_zX X (some .boolean) (some (jI r)) σ) ?_ h hRT
  intro K0 hK0
  unfold X5_isLetter
  refine jq_iload_n Γ dX5_isLetter_0 rfl 0 rfl ?_
  refine jq_bipush Γ dX5_isLetter_1 rfl ?_
  refine jq_icmp_lt (tgt := 16) Γ dX5_isLetter_3 rfl ?_ ?_
  · refine jq_iconst Γ dX5_isLetter_16 rfl ?_
    exact jq_zreturn Γ (Or.inl rfl) dX5_isLetter_17 (hK0 _)
  · refine jq_iload_n Γ dX5_isLetter_6 rfl 0 rfl ?_
    refine jq_bipush Γ dX5_isLetter_7 rfl ?_
    refine jq_icmp_gt (tgt := 16) Γ dX5_isLetter_9 rfl ?_ ?_
    · refine jq_iconst Γ dX5_isLetter_16 rfl ?_
      exact jq_zreturn Γ (Or.inl rfl) dX5_isLetter_17 (hK0 _)
    · refine jq_iconst Γ dX5_isLetter_12 rfl ?_
      refine jq_goto Γ (tgt := 17) dX5_isLetter_13 rfl ?_
      exact jq_zreturn Γ (Or.inr rfl) dX5_isLetter_17 (hK0 _)


theorem dX5_withLetter_0 : decode cX5_withLetter 0 = .ok (.lload_n 0, 1) := by decide +kernel
theorem dX5_withLetter_1 : decode cX5_withLetter 1 = .ok (.iconst 5, 1) := by decide +kernel
theorem dX5_withLetter_2 : decode cX5_withLetter 2 = .ok (.lshl, 1) := by decide +kernel
theorem dX5_withLetter_3 : decode cX5_withLetter 3 = .ok (.iload_n 2, 1) := by decide +kernel
theorem dX5_withLetter_4 : decode cX5_withLetter 4 = .ok (.i2l, 1) := by decide +kernel
theorem dX5_withLetter_5 : decode cX5_withLetter 5 = .ok (.ladd, 1) := by decide +kernel
theorem dX5_withLetter_6 : decode cX5_withLetter 6 = .ok (.ldc2_w 35, 3) := by decide +kernel
theorem dX5_withLetter_9 : decode cX5_withLetter 9 = .ok (.lsub, 1) := by decide +kernel
theorem dX5_withLetter_10 : decode cX5_withLetter 10 = .ok (.lconst 1, 1) := by decide +kernel
theorem dX5_withLetter_11 : decode cX5_withLetter 11 = .ok (.ladd, 1) := by decide +kernel
theorem dX5_withLetter_12 : decode cX5_withLetter 12 = .ok (.lreturn, 1) := by decide +kernel
set_option maxHeartbeats 4000000 in
set_option maxRecDepth 100000 in
theorem ctX5_withLetter {Z : jq_Z} {p0 : Int} {p2 : Int} {σ : jq_M} {res : Int}  (h : X5_withLetter Z p0 p2 σ = some res) : jq_MC Z yX5_withLetter cX5_withLetter 3 (some .long) 1 40 [jL p0, jI p2] σ (some (jL res)) σ := by
  refine jq_met (own := RX5) (L0 := [(0, jL p0), (2, jI p2)]) (by decide) rfl rfl rfl ?_
  intro X Γ hnl hlY hRT
  refine jq_use2 (P := fun r => jq_RT Z X (some .long) (some (jL r)) σ) ?_ h hRT
  intro K0 hK0
  unfold X5_withLetter
  refine jq_lload_n Γ dX5_withLetter_0 rfl 0 rfl ?_
  refine jq_iconst Γ dX5_withLetter_1 rfl ?_
  refine jq_lshl Γ dX5_withLetter_2 ?_
  refine jq_iload_n Γ dX5_withLetter_3 rfl 1 rfl ?_
  refine jq_i2l Γ dX5_withLetter_4 ?_
  refine jq_ladd Γ dX5_withLetter_5 ?_
  refine jq_ldc2 Γ 97 dX5_withLetter_6 kc_RX5_35 rfl ?_
  refine jq_lsub Γ dX5_withLetter_9 ?_
  refine jq_lconst Γ 1 dX5_withLetter_10 rfl rfl ?_
  refine jq_ladd Γ dX5_withLetter_11 ?_
  exact jq_lreturn Γ dX5_withLetter_12 (hK0 _)


theorem dX5_readWord_0 : decode cX5_readWord 0 = .ok (.aload_n 0, 1) := by decide +kernel
theorem dX5_readWord_1 : decode cX5_readWord 1 = .ok (.iconst 1, 1) := by decide +kernel
theorem dX5_readWord_2 : decode cX5_readWord 2 = .ok (.putfield 61, 3) := by decide +kernel
theorem dX5_readWord_5 : decode cX5_readWord 5 = .ok (.lconst 0, 1) := by decide +kernel
theorem dX5_readWord_6 : decode cX5_readWord 6 = .ok (.lstore_n 1, 1) := by decide +kernel
theorem dX5_readWord_7 : decode cX5_readWord 7 = .ok (.aload_n 0, 1) := by decide +kernel
theorem dX5_readWord_8 : decode cX5_readWord 8 = .ok (.getfield 49, 3) := by decide +kernel
theorem dX5_readWord_11 : decode cX5_readWord 11 = .ok (.aload_n 0, 1) := by decide +kernel
theorem dX5_readWord_12 : decode cX5_readWord 12 = .ok (.getfield 47, 3) := by decide +kernel
theorem dX5_readWord_15 : decode cX5_readWord 15 = .ok (.if_icmp .ge 35, 3) := by decide +kernel
theorem dX5_readWord_18 : decode cX5_readWord 18 = .ok (.aload_n 0, 1) := by decide +kernel
theorem dX5_readWord_19 : decode cX5_readWord 19 = .ok (.invokevirtual 67, 3) := by decide +kernel
theorem dX5_readWord_22 : decode cX5_readWord 22 = .ok (.invokestatic 85, 3) := by decide +kernel
theorem dX5_readWord_25 : decode cX5_readWord 25 = .ok (.ifCond .eq 25, 3) := by decide +kernel
theorem dX5_readWord_28 : decode cX5_readWord 28 = .ok (.lload_n 1, 1) := by decide +kernel
theorem dX5_readWord_29 : decode cX5_readWord 29 = .ok (.aload_n 0, 1) := by decide +kernel
theorem dX5_readWord_30 : decode cX5_readWord 30 = .ok (.invokevirtual 67, 3) := by decide +kernel
theorem dX5_readWord_33 : decode cX5_readWord 33 = .ok (.invokestatic 31, 3) := by decide +kernel
theorem dX5_readWord_36 : decode cX5_readWord 36 = .ok (.lstore_n 1, 1) := by decide +kernel
theorem dX5_readWord_37 : decode cX5_readWord 37 = .ok (.aload_n 0, 1) := by decide +kernel
theorem dX5_readWord_38 : decode cX5_readWord 38 = .ok (.dup, 1) := by decide +kernel
theorem dX5_readWord_39 : decode cX5_readWord 39 = .ok (.getfield 49, 3) := by decide +kernel
theorem dX5_readWord_42 : decode cX5_readWord 42 = .ok (.iconst 1, 1) := by decide +kernel
theorem dX5_readWord_43 : decode cX5_readWord 43 = .ok (.iadd, 1) := by decide +kernel
theorem dX5_readWord_44 : decode cX5_readWord 44 = .ok (.putfield 49, 3) := by decide +kernel
theorem dX5_readWord_47 : decode cX5_readWord 47 = .ok (.goto (-40), 3) := by decide +kernel
theorem dX5_readWord_50 : decode cX5_readWord 50 = .ok (.aload_n 0, 1) := by decide +kernel
theorem dX5_readWord_51 : decode cX5_readWord 51 = .ok (.getfield 49, 3) := by decide +kernel
theorem dX5_readWord_54 : decode cX5_readWord 54 = .ok (.aload_n 0, 1) := by decide +kernel
theorem dX5_readWord_55 : decode cX5_readWord 55 = .ok (.getfield 64, 3) := by decide +kernel
theorem dX5_readWord_58 : decode cX5_readWord 58 = .ok (.isub, 1) := by decide +kernel
theorem dX5_readWord_59 : decode cX5_readWord 59 = .ok (.bipush 8, 2) := by decide +kernel
theorem dX5_readWord_61 : decode cX5_readWord 61 = .ok (.if_icmp .le 4, 3) := by decide +kernel
theorem dX5_readWord_64 : decode cX5_readWord 64 = .ok (.return_, 1) := by decide +kernel
theorem dX5_readWord_65 : decode cX5_readWord 65 = .ok (.aload_n 0, 1) := by decide +kernel
theorem dX5_readWord_66 : decode cX5_readWord 66 = .ok (.lload_n 1, 1) := by decide +kernel
theorem dX5_readWord_67 : decode cX5_readWord 67 = .ok (.putfield 77, 3) := by decide +kernel
theorem dX5_readWord_70 : decode cX5_readWord 70 = .ok (.iconst 0, 1) := by decide +kernel
theorem dX5_readWord_71 : decode cX5_readWord 71 = .ok (.istore_n 3, 1) := by decide +kernel
theorem dX5_readWord_72 : decode cX5_readWord 72 = .ok (.iload_n 3, 1) := by decide +kernel
theorem dX5_readWord_73 : decode cX5_readWord 73 = .ok (.aload_n 0, 1) := by decide +kernel
theorem dX5_readWord_74 : decode cX5_readWord 74 = .ok (.getfield 9, 3) := by decide +kernel
theorem dX5_readWord_77 : decode cX5_readWord 77 = .ok (.arraylength, 1) := by decide +kernel
theorem dX5_readWord_78 : decode cX5_readWord 78 = .ok (.if_icmp .ge 25, 3) := by decide +kernel
theorem dX5_readWord_81 : decode cX5_readWord 81 = .ok (.aload_n 0, 1) := by decide +kernel
theorem dX5_readWord_82 : decode cX5_readWord 82 = .ok (.getfield 9, 3) := by decide +kernel
theorem dX5_readWord_85 : decode cX5_readWord 85 = .ok (.iload_n 3, 1) := by decide +kernel
theorem dX5_readWord_86 : decode cX5_readWord 86 = .ok (.laload, 1) := by decide +kernel
theorem dX5_readWord_87 : decode cX5_readWord 87 = .ok (.lload_n 1, 1) := by decide +kernel
theorem dX5_readWord_88 : decode cX5_readWord 88 = .ok (.lcmp, 1) := by decide +kernel
theorem dX5_readWord_89 : decode cX5_readWord 89 = .ok (.ifCond .ne 8, 3) := by decide +kernel
theorem dX5_readWord_92 : decode cX5_readWord 92 = .ok (.aload_n 0, 1) := by decide +kernel
theorem dX5_readWord_93 : decode cX5_readWord 93 = .ok (.iload_n 3, 1) := by decide +kernel
theorem dX5_readWord_94 : decode cX5_readWord 94 = .ok (.putfield 74, 3) := by decide +kernel
theorem dX5_readWord_97 : decode cX5_readWord 97 = .ok (.iinc 3 1, 3) := by decide +kernel
theorem dX5_readWord_100 : decode cX5_readWord 100 = .ok (.goto (-28), 3) := by decide +kernel
theorem dX5_readWord_103 : decode cX5_readWord 103 = .ok (.aload_n 0, 1) := by decide +kernel
theorem dX5_readWord_104 : decode cX5_readWord 104 = .ok (.aload_n 0, 1) := by decide +kernel
theorem dX5_readWord_105 : decode cX5_readWord 105 = .ok (.getfield 74, 3) := by decide +kernel
theorem dX5_readWord_108 : decode cX5_readWord 108 = .ok (.iconst (-1), 1) := by decide +kernel
theorem dX5_readWord_109 : decode cX5_readWord 109 = .ok (.if_icmp .ne 7, 3) := by decide +kernel
theorem dX5_readWord_112 : decode cX5_readWord 112 = .ok (.iconst 1, 1) := by decide +kernel
theorem dX5_readWord_113 : decode cX5_readWord 113 = .ok (.goto 4, 3) := by decide +kernel
theorem dX5_readWord_116 : decode cX5_readWord 116 = .ok (.iconst 0, 1) := by decide +kernel
theorem dX5_readWord_117 : decode cX5_readWord 117 = .ok (.putfield 81, 3) := by decide +kernel
theorem dX5_readWord_120 : decode cX5_readWord 120 = .ok (.return_, 1) := by decide +kernel
set_option maxHeartbeats 4000000 in
set_option maxRecDepth 100000 in
theorem ctX5_readWord  {σ : jq_M} {σ' : jq_M}  (h : X5_readWord σ = some σ') : jq_MC jq_zX yX5_readWord cX5_readWord 4 none 2 62 [jR 2] σ none σ' := by
  refine jq_met (own := RX5) (L0 := [(0, jR 2)]) (by decide) rfl rfl rfl ?_
  intro X Γ hnl hlY hRT
  refine jq_use2 (P := fun r => jq_RT jq_zX X none none r) ?_ h hRT
  intro K0 hK0
  unfold X5_readWord
  have hj50_0 : ∀ (j10 : Int) (s11 : jq_M), jq_J (X5_readWord_j50 j10 s11) K0 (jq_V jq_zX X (jq_zN jq_zX) s11 50 [(0, jR 2), (1, jL j10)] []) := by
    intro j10 s11
    unfold X5_readWord_j50
    refine jq_aload_n Γ dX5_readWord_50 rfl 0 rfl (jq_at_0 at_X_2) ?_
    refine jq_getI (J := 4) Γ at_X_2 fl_RX5_49 rfl rfl dX5_readWord_51 ?_
    refine jq_aload_n Γ dX5_readWord_54 rfl 0 rfl (jq_at_0 at_X_2) ?_
    refine jq_getI (J := 6) Γ at_X_2 fl_RX5_64 rfl rfl dX5_readWord_55 ?_
    refine jq_isub Γ dX5_readWord_58 ?_
    refine jq_bipush Γ dX5_readWord_59 rfl ?_
    refine jq_icmp_le (tgt := 65) Γ dX5_readWord_61 rfl ?_ ?_
    · refine jq_aload_n Γ dX5_readWord_65 rfl 0 rfl (jq_at_0 at_X_2) ?_
      refine jq_lload_n Γ dX5_readWord_66 rfl 1 rfl ?_
      refine jq_putL Γ at_X_2 fl_RX5_77 rfl rfl dX5_readWord_67 (fun s12 => ?_)
      refine jq_iconst Γ dX5_readWord_70 rfl ?_
      refine jq_istore_n (L' := [(3, jI 0), (0, jR 2), (1, jL j10)]) Γ dX5_readWord_71 rfl hnl rfl rfl ?_
      refine jq_sub Γ (L' := [(0, jR 2), (1, jL j10), (3, jI 0)]) [1, 2, 0] rfl ?_
      refine jq_loop2 (C := fun (t13 : Int × jq_M) => jq_V jq_zX X (jq_zN jq_zX) t13.2 72 [(0, jR 2), (1, jL j10), (3, jI t13.1)] []) (KX := fun (e18 : jq_M) => jq_V jq_zX X (jq_zN jq_zX) e18 103 [(0, jR 2)] []) ?_ ?_ (0, s12)
      · intro K72_t13 hCt13 hXt13 t13
        unfold X5_readWord_b72
        refine jq_iload_n Γ dX5_readWord_72 rfl 2 rfl ?_
        refine jq_aload_n Γ dX5_readWord_73 rfl 0 rfl (jq_at_0 at_X_2) ?_
        refine jq_getR (v := 3) Γ hlY at_X_2 fl_RX5_9 rfl rfl ly_X5_keywords dX5_readWord_74 ?_
        refine jq_alen Γ at_X_3 rfl rfl rfl dX5_readWord_77 ?_
        refine jq_icmp_ge (tgt := 103) Γ dX5_readWord_78 rfl ?_ ?_
        · refine jq_sub Γ (L' := [(0, jR 2)]) [0] rfl ?_
          exact jq_done (hXt13 t13.2)
        · refine jq_aload_n Γ dX5_readWord_81 rfl 0 rfl (jq_at_0 at_X_2) ?_
          refine jq_getR (v := 3) Γ hlY at_X_2 fl_RX5_9 rfl rfl ly_X5_keywords dX5_readWord_82 ?_
          refine jq_iload_n Γ dX5_readWord_85 rfl 2 rfl ?_
          refine jq_lald Γ at_X_3 rfl dX5_readWord_86 (fun v14 => ?_)
          refine jq_lload_n Γ dX5_readWord_87 rfl 1 rfl ?_
          refine jq_lcmp Γ dX5_readWord_88 ?_
          refine jq_if_ne (tgt := 97) Γ dX5_readWord_89 rfl ?_ ?_
          · refine jq_iincN (L' := fun v15 => [(3, jI v15), (0, jR 2), (1, jL j10)]) Γ dX5_readWord_97 2 rfl hnl rfl (fun _ => rfl) (fun v15 => ?_)
            refine jq_goto Γ (tgt := 72) dX5_readWord_100 rfl ?_
            refine jq_sub Γ (L' := [(0, jR 2), (1, jL j10), (3, jI v15)]) [1, 2, 0] rfl ?_
            exact jq_done (hCt13 (v15, t13.2))
          · refine jq_aload_n Γ dX5_readWord_92 rfl 0 rfl (jq_at_0 at_X_2) ?_
            refine jq_iload_n Γ dX5_readWord_93 rfl 2 rfl ?_
            refine jq_putI Γ at_X_2 fl_RX5_74 rfl rfl dX5_readWord_94 (fun s16 => ?_)
            refine jq_iincN (L' := fun v17 => [(3, jI v17), (0, jR 2), (1, jL j10)]) Γ dX5_readWord_97 2 rfl hnl rfl (fun _ => rfl) (fun v17 => ?_)
            refine jq_goto Γ (tgt := 72) dX5_readWord_100 rfl ?_
            refine jq_sub Γ (L' := [(0, jR 2), (1, jL j10), (3, jI v17)]) [1, 2, 0] rfl ?_
            exact jq_done (hCt13 (v17, s16))
      · intro e18
        refine jq_aload_n Γ dX5_readWord_103 rfl 0 rfl (jq_at_0 at_X_2) ?_
        refine jq_aload_n Γ dX5_readWord_104 rfl 0 rfl (jq_at_0 at_X_2) ?_
        refine jq_getI (J := 11) Γ at_X_2 fl_RX5_74 rfl rfl dX5_readWord_105 ?_
        refine jq_iconst Γ dX5_readWord_108 rfl ?_
        refine jq_icmp_ne (tgt := 116) Γ dX5_readWord_109 rfl ?_ ?_
        · refine jq_iconst Γ dX5_readWord_116 rfl ?_
          refine jq_putZ Γ at_X_2 fl_RX5_81 rfl rfl (Or.inl rfl) dX5_readWord_117 (fun s19 => ?_)
          exact jq_vreturn Γ dX5_readWord_120 (hK0 _)
        · refine jq_iconst Γ dX5_readWord_112 rfl ?_
          refine jq_goto Γ (tgt := 117) dX5_readWord_113 rfl ?_
          refine jq_putZ Γ at_X_2 fl_RX5_81 rfl rfl (Or.inr rfl) dX5_readWord_117 (fun s20 => ?_)
          exact jq_vreturn Γ dX5_readWord_120 (hK0 _)
    · exact jq_vreturn Γ dX5_readWord_64 (hK0 _)
  refine jq_aload_n Γ dX5_readWord_0 rfl 0 rfl (jq_at_0 at_X_2) ?_
  refine jq_iconst Γ dX5_readWord_1 rfl ?_
  refine jq_putI Γ at_X_2 fl_RX5_61 rfl rfl dX5_readWord_2 (fun s1 => ?_)
  refine jq_lconst Γ 0 dX5_readWord_5 rfl rfl ?_
  refine jq_lstore_n (L' := [(1, jL 0), (0, jR 2)]) Γ dX5_readWord_6 rfl hnl rfl rfl ?_
  refine jq_sub Γ (L' := [(0, jR 2), (1, jL 0)]) [1, 0] rfl ?_
  refine jq_loop2 (C := fun (t2 : Int × jq_M) => jq_V jq_zX X (jq_zN jq_zX) t2.2 7 [(0, jR 2), (1, jL t2.1)] []) (KX := fun (e9 : Int × jq_M) => jq_V jq_zX X (jq_zN jq_zX) e9.2 50 [(0, jR 2), (1, jL e9.1)] []) ?_ ?_ (0, s1)
  · intro K7_t2 hCt2 hXt2 t2
    unfold X5_readWord_b7
    refine jq_aload_n Γ dX5_readWord_7 rfl 0 rfl (jq_at_0 at_X_2) ?_
    refine jq_getI (J := 4) Γ at_X_2 fl_RX5_49 rfl rfl dX5_readWord_8 ?_
    refine jq_aload_n Γ dX5_readWord_11 rfl 0 rfl (jq_at_0 at_X_2) ?_
    refine jq_getI (J := 3) Γ at_X_2 fl_RX5_47 rfl rfl dX5_readWord_12 ?_
    refine jq_icmp_ge (tgt := 50) Γ dX5_readWord_15 rfl ?_ ?_
    · exact jq_done (hXt2 (t2.1, t2.2))
    · refine jq_aload_n Γ dX5_readWord_18 rfl 0 rfl (jq_at_0 at_X_2) ?_
      refine jq_cpI (jq_virt (avs := []) (st := []) Γ hlY rfl ml_RX5_67 rfl at_X_2 rfl rfl rfl rfl rfl dX5_readWord_19) (fun r h => ctX5_here h) (fun v3 => ?_)
      refine jq_cpZ (jq_stat (avs := [jI v3]) (st := []) Γ hlY rfl ml_RX5_85 rfl rfl rfl rfl rfl dX5_readWord_22) rfl (fun r h => ctX5_isLetter h) (fun v4 hz5 => ?_)
      refine jq_if_eq (tgt := 50) Γ dX5_readWord_25 rfl ?_ ?_
      · exact jq_done (hXt2 (t2.1, t2.2))
      · refine jq_lload_n Γ dX5_readWord_28 rfl 1 rfl ?_
        refine jq_aload_n Γ dX5_readWord_29 rfl 0 rfl (jq_at_0 at_X_2) ?_
        refine jq_cpI (jq_virt (avs := []) (st := [jL t2.1]) Γ hlY rfl ml_RX5_67 rfl at_X_2 rfl rfl rfl rfl rfl dX5_readWord_30) (fun r h => ctX5_here h) (fun v6 => ?_)
        refine jq_cpL (jq_stat (avs := [jL t2.1, jI v6]) (st := []) Γ hlY rfl ml_RX5_31 rfl rfl rfl rfl rfl dX5_readWord_33) (fun r h => ctX5_withLetter h) (fun v7 => ?_)
        refine jq_lstore_n (L' := [(1, jL v7), (0, jR 2)]) Γ dX5_readWord_36 rfl hnl rfl rfl ?_
        refine jq_aload_n Γ dX5_readWord_37 rfl 1 rfl (jq_at_0 at_X_2) ?_
        refine jq_dup Γ dX5_readWord_38 rfl ?_
        refine jq_getI (J := 4) Γ at_X_2 fl_RX5_49 rfl rfl dX5_readWord_39 ?_
        refine jq_iconst Γ dX5_readWord_42 rfl ?_
        refine jq_iadd Γ dX5_readWord_43 ?_
        refine jq_putI Γ at_X_2 fl_RX5_49 rfl rfl dX5_readWord_44 (fun s8 => ?_)
        refine jq_goto Γ (tgt := 7) dX5_readWord_47 rfl ?_
        refine jq_sub Γ (L' := [(0, jR 2), (1, jL v7)]) [1, 0] rfl ?_
        exact jq_done (hCt2 (v7, s8))
  · intro e9
    exact hj50_0 e9.1 e9.2


theorem dX5_isDigit_0 : decode cX5_isDigit 0 = .ok (.iload_n 0, 1) := by decide +kernel
theorem dX5_isDigit_1 : decode cX5_isDigit 1 = .ok (.bipush 48, 2) := by decide +kernel
theorem dX5_isDigit_3 : decode cX5_isDigit 3 = .ok (.if_icmp .lt 13, 3) := by decide +kernel
theorem dX5_isDigit_6 : decode cX5_isDigit 6 = .ok (.iload_n 0, 1) := by decide +kernel
theorem dX5_isDigit_7 : decode cX5_isDigit 7 = .ok (.bipush 57, 2) := by decide +kernel
theorem dX5_isDigit_9 : decode cX5_isDigit 9 = .ok (.if_icmp .gt 7, 3) := by decide +kernel
theorem dX5_isDigit_12 : decode cX5_isDigit 12 = .ok (.iconst 1, 1) := by decide +kernel
theorem dX5_isDigit_13 : decode cX5_isDigit 13 = .ok (.goto 4, 3) := by decide +kernel
theorem dX5_isDigit_16 : decode cX5_isDigit 16 = .ok (.iconst 0, 1) := by decide +kernel
theorem dX5_isDigit_17 : decode cX5_isDigit 17 = .ok (.ireturn, 1) := by decide +kernel
set_option maxHeartbeats 4000000 in
set_option maxRecDepth 100000 in
theorem ctX5_isDigit {p0 : Int} {σ : jq_M} {res : Int}  (h : X5_isDigit p0 σ = some res) : jq_MC jq_zX yX5_isDigit cX5_isDigit 1 (some .boolean) 1 40 [jI p0] σ (some (jI res)) σ := by
  refine jq_met (own := RX5) (L0 := [(0, jI p0)]) (by decide) rfl rfl rfl ?_
  intro X Γ hnl hlY hRT
  refine jq_use2 (P := fun r => jq_RT jq_zX X (some .boolean) (some (jI r)) σ) ?_ h hRT
  intro K0 hK0
  unfold X5_isDigit
  refine jq_iload_n Γ dX5_isDigit_0 rfl 0 rfl ?_
  refine jq_bipush Γ dX5_isDigit_1 rfl ?_
  refine jq_icmp_lt (tgt := 16) Γ dX5_isDigit_3 rfl ?_ ?_
  · refine jq_iconst Γ dX5_isDigit_16 rfl ?_
    exact jq_zreturn Γ (Or.inl rfl) dX5_isDigit_17 (hK0 _)
  · refine jq_iload_n Γ dX5_isDigit_6 rfl 0 rfl ?_
    refine jq_bipush Γ dX5_isDigit_7 rfl ?_
    refine jq_icmp_gt (tgt := 16) Γ dX5_isDigit_9 rfl ?_ ?_
    · refine jq_iconst Γ dX5_isDigit_16 rfl ?_
      exact jq_zreturn Γ (Or.inl rfl) dX5_isDigit_17 (hK0 _)
    · refine jq_iconst Γ dX5_isDigit_12 rfl ?_
      refine jq_goto Γ (tgt := 17) dX5_isDigit_13 rfl ?_
      exact jq_zreturn Γ (Or.inr rfl) dX5_isDigit_17 (hK0 _)


theorem dX5_readNumber_0 : decode cX5_readNumber 0 = .ok (.aload_n 0, 1) := by decide +kernel
theorem dX5_readNumber_1 : decode cX5_readNumber 1 = .ok (.iconst 0, 1) := by decide +kernel
theorem dX5_readNumber_2 : decode cX5_readNumber 2 = .ok (.putfield 100, 3) := by decide +kernel
theorem dX5_readNumber_5 : decode cX5_readNumber 5 = .ok (.aload_n 0, 1) := by decide +kernel
theorem dX5_readNumber_6 : decode cX5_readNumber 6 = .ok (.getfield 49, 3) := by decide +kernel
theorem dX5_readNumber_9 : decode cX5_readNumber 9 = .ok (.aload_n 0, 1) := by decide +kernel
theorem dX5_readNumber_10 : decode cX5_readNumber 10 = .ok (.getfield 47, 3) := by decide +kernel
theorem dX5_readNumber_13 : decode cX5_readNumber 13 = .ok (.if_icmp .ge 45, 3) := by decide +kernel
theorem dX5_readNumber_16 : decode cX5_readNumber 16 = .ok (.aload_n 0, 1) := by decide +kernel
theorem dX5_readNumber_17 : decode cX5_readNumber 17 = .ok (.invokevirtual 67, 3) := by decide +kernel
theorem dX5_readNumber_20 : decode cX5_readNumber 20 = .ok (.invokestatic 91, 3) := by decide +kernel
theorem dX5_readNumber_23 : decode cX5_readNumber 23 = .ok (.ifCond .eq 35, 3) := by decide +kernel
theorem dX5_readNumber_26 : decode cX5_readNumber 26 = .ok (.aload_n 0, 1) := by decide +kernel
theorem dX5_readNumber_27 : decode cX5_readNumber 27 = .ok (.aload_n 0, 1) := by decide +kernel
theorem dX5_readNumber_28 : decode cX5_readNumber 28 = .ok (.getfield 100, 3) := by decide +kernel
theorem dX5_readNumber_31 : decode cX5_readNumber 31 = .ok (.bipush 10, 2) := by decide +kernel
theorem dX5_readNumber_33 : decode cX5_readNumber 33 = .ok (.imul, 1) := by decide +kernel
theorem dX5_readNumber_34 : decode cX5_readNumber 34 = .ok (.aload_n 0, 1) := by decide +kernel
theorem dX5_readNumber_35 : decode cX5_readNumber 35 = .ok (.invokevirtual 67, 3) := by decide +kernel
theorem dX5_readNumber_38 : decode cX5_readNumber 38 = .ok (.iadd, 1) := by decide +kernel
theorem dX5_readNumber_39 : decode cX5_readNumber 39 = .ok (.bipush 48, 2) := by decide +kernel
theorem dX5_readNumber_41 : decode cX5_readNumber 41 = .ok (.isub, 1) := by decide +kernel
theorem dX5_readNumber_42 : decode cX5_readNumber 42 = .ok (.putfield 100, 3) := by decide +kernel
theorem dX5_readNumber_45 : decode cX5_readNumber 45 = .ok (.aload_n 0, 1) := by decide +kernel
theorem dX5_readNumber_46 : decode cX5_readNumber 46 = .ok (.dup, 1) := by decide +kernel
theorem dX5_readNumber_47 : decode cX5_readNumber 47 = .ok (.getfield 49, 3) := by decide +kernel
theorem dX5_readNumber_50 : decode cX5_readNumber 50 = .ok (.iconst 1, 1) := by decide +kernel
theorem dX5_readNumber_51 : decode cX5_readNumber 51 = .ok (.iadd, 1) := by decide +kernel
theorem dX5_readNumber_52 : decode cX5_readNumber 52 = .ok (.putfield 49, 3) := by decide +kernel
theorem dX5_readNumber_55 : decode cX5_readNumber 55 = .ok (.goto (-50), 3) := by decide +kernel
theorem dX5_readNumber_58 : decode cX5_readNumber 58 = .ok (.aload_n 0, 1) := by decide +kernel
theorem dX5_readNumber_59 : decode cX5_readNumber 59 = .ok (.aload_n 0, 1) := by decide +kernel
theorem dX5_readNumber_60 : decode cX5_readNumber 60 = .ok (.getfield 49, 3) := by decide +kernel
theorem dX5_readNumber_63 : decode cX5_readNumber 63 = .ok (.aload_n 0, 1) := by decide +kernel
theorem dX5_readNumber_64 : decode cX5_readNumber 64 = .ok (.getfield 64, 3) := by decide +kernel
theorem dX5_readNumber_67 : decode cX5_readNumber 67 = .ok (.isub, 1) := by decide +kernel
theorem dX5_readNumber_68 : decode cX5_readNumber 68 = .ok (.iconst 4, 1) := by decide +kernel
theorem dX5_readNumber_69 : decode cX5_readNumber 69 = .ok (.if_icmp .le 7, 3) := by decide +kernel
theorem dX5_readNumber_72 : decode cX5_readNumber 72 = .ok (.iconst 4, 1) := by decide +kernel
theorem dX5_readNumber_73 : decode cX5_readNumber 73 = .ok (.goto 4, 3) := by decide +kernel
theorem dX5_readNumber_76 : decode cX5_readNumber 76 = .ok (.iconst 2, 1) := by decide +kernel
theorem dX5_readNumber_77 : decode cX5_readNumber 77 = .ok (.putfield 61, 3) := by decide +kernel
theorem dX5_readNumber_80 : decode cX5_readNumber 80 = .ok (.return_, 1) := by decide +kernel
set_option maxHeartbeats 4000000 in
set_option maxRecDepth 100000 in
theorem ctX5_readNumber  {σ : jq_M} {σ' : jq_M}  (h : X5_readNumber σ = some σ') : jq_MC jq_zX yX5_readNumber cX5_readNumber 1 none 2 60 [jR 2] σ none σ' := by
  refine jq_met (own := RX5) (L0 := [(0, jR 2)]) (by decide) rfl rfl rfl ?_
  intro X Γ hnl hlY hRT
  refine jq_use2 (P := fun r => jq_RT jq_zX X none none r) ?_ h hRT
  intro K0 hK0
  unfold X5_readNumber
  have hj58_0 : ∀ (s10 : jq_M), jq_J (X5_readNumber_j58 s10) K0 (jq_V jq_zX X (jq_zN jq_zX) s10 58 [(0, jR 2)] []) := by
    intro s10
    unfold X5_readNumber_j58
    refine jq_aload_n Γ dX5_readNumber_58 rfl 0 rfl (jq_at_0 at_X_2) ?_
    refine jq_aload_n Γ dX5_readNumber_59 rfl 0 rfl (jq_at_0 at_X_2) ?_
    refine jq_getI (J := 4) Γ at_X_2 fl_RX5_49 rfl rfl dX5_readNumber_60 ?_
    refine jq_aload_n Γ dX5_readNumber_63 rfl 0 rfl (jq_at_0 at_X_2) ?_
    refine jq_getI (J := 6) Γ at_X_2 fl_RX5_64 rfl rfl dX5_readNumber_64 ?_
    refine jq_isub Γ dX5_readNumber_67 ?_
    refine jq_iconst Γ dX5_readNumber_68 rfl ?_
    refine jq_icmp_le (tgt := 76) Γ dX5_readNumber_69 rfl ?_ ?_
    · refine jq_iconst Γ dX5_readNumber_76 rfl ?_
      refine jq_putI Γ at_X_2 fl_RX5_61 rfl rfl dX5_readNumber_77 (fun s11 => ?_)
      exact jq_vreturn Γ dX5_readNumber_80 (hK0 _)
    · refine jq_iconst Γ dX5_readNumber_72 rfl ?_
      refine jq_goto Γ (tgt := 77) dX5_readNumber_73 rfl ?_
      refine jq_putI Γ at_X_2 fl_RX5_61 rfl rfl dX5_readNumber_77 (fun s12 => ?_)
      exact jq_vreturn Γ dX5_readNumber_80 (hK0 _)
  refine jq_aload_n Γ dX5_readNumber_0 rfl 0 rfl (jq_at_0 at_X_2) ?_
  refine jq_iconst Γ dX5_readNumber_1 rfl ?_
  refine jq_putI Γ at_X_2 fl_RX5_100 rfl rfl dX5_readNumber_2 (fun s1 => ?_)
  refine jq_loop2 (C := fun (t2 : jq_M) => jq_V jq_zX X (jq_zN jq_zX) t2 5 [(0, jR 2)] []) (KX := fun (e9 : jq_M) => jq_V jq_zX X (jq_zN jq_zX) e9 58 [(0, jR 2)] []) ?_ ?_ s1
  · intro K5_t2 hCt2 hXt2 t2
    unfold X5_readNumber_b5
    refine jq_aload_n Γ dX5_readNumber_5 rfl 0 rfl (jq_at_0 at_X_2) ?_
    refine jq_getI (J := 4) Γ at_X_2 fl_RX5_49 rfl rfl dX5_readNumber_6 ?_
    refine jq_aload_n Γ dX5_readNumber_9 rfl 0 rfl (jq_at_0 at_X_2) ?_
    refine jq_getI (J := 3) Γ at_X_2 fl_RX5_47 rfl rfl dX5_readNumber_10 ?_
    refine jq_icmp_ge (tgt := 58) Γ dX5_readNumber_13 rfl ?_ ?_
    · exact jq_done (hXt2 t2)
    · refine jq_aload_n Γ dX5_readNumber_16 rfl 0 rfl (jq_at_0 at_X_2) ?_
      refine jq_cpI (jq_virt (avs := []) (st := []) Γ hlY rfl ml_RX5_67 rfl at_X_2 rfl rfl rfl rfl rfl dX5_readNumber_17) (fun r h => ctX5_here h) (fun v3 => ?_)
      refine jq_cpZ (jq_stat (avs := [jI v3]) (st := []) Γ hlY rfl ml_RX5_91 rfl rfl rfl rfl rfl dX5_readNumber_20) rfl (fun r h => ctX5_isDigit h) (fun v4 hz5 => ?_)
      refine jq_if_eq (tgt := 58) Γ dX5_readNumber_23 rfl ?_ ?_
      · exact jq_done (hXt2 t2)
      · refine jq_aload_n Γ dX5_readNumber_26 rfl 0 rfl (jq_at_0 at_X_2) ?_
        refine jq_aload_n Γ dX5_readNumber_27 rfl 0 rfl (jq_at_0 at_X_2) ?_
        refine jq_getI (J := 7) Γ at_X_2 fl_RX5_100 rfl rfl dX5_readNumber_28 ?_
        refine jq_bipush Γ dX5_readNumber_31 rfl ?_
        refine jq_imul Γ dX5_readNumber_33 ?_
        refine jq_aload_n Γ dX5_readNumber_34 rfl 0 rfl (jq_at_0 at_X_2) ?_
        refine jq_cpI (jq_virt (avs := []) (st := [jI (jq_w ((t2 2 7) * 10)), jR 2]) Γ hlY rfl ml_RX5_67 rfl at_X_2 rfl rfl rfl rfl rfl dX5_readNumber_35) (fun r h => ctX5_here h) (fun v6 => ?_)
        refine jq_iadd Γ dX5_readNumber_38 ?_
        refine jq_bipush Γ dX5_readNumber_39 rfl ?_
        refine jq_isub Γ dX5_readNumber_41 ?_
        refine jq_putI Γ at_X_2 fl_RX5_100 rfl rfl dX5_readNumber_42 (fun s7 => ?_)
        refine jq_aload_n Γ dX5_readNumber_45 rfl 0 rfl (jq_at_0 at_X_2) ?_
        refine jq_dup Γ dX5_readNumber_46 rfl ?_
        refine jq_getI (J := 4) Γ at_X_2 fl_RX5_49 rfl rfl dX5_readNumber_47 ?_
        refine jq_iconst Γ dX5_readNumber_50 rfl ?_
        refine jq_iadd Γ dX5_readNumber_51 ?_
        refine jq_putI Γ at_X_2 fl_RX5_49 rfl rfl dX5_readNumber_52 (fun s8 => ?_)
        refine jq_goto Γ (tgt := 5) dX5_readNumber_55 rfl ?_
        exact jq_done (hCt2 s8)
  · intro e9
    exact hj58_0 e9


theorem dX5_readSign_0 : decode cX5_readSign 0 = .ok (.aload_n 0, 1) := by decide +kernel
theorem dX5_readSign_1 : decode cX5_readSign 1 = .ok (.aload_n 0, 1) := by decide +kernel
theorem dX5_readSign_2 : decode cX5_readSign 2 = .ok (.invokevirtual 67, 3) := by decide +kernel
theorem dX5_readSign_5 : decode cX5_readSign 5 = .ok (.putfield 103, 3) := by decide +kernel
theorem dX5_readSign_8 : decode cX5_readSign 8 = .ok (.aload_n 0, 1) := by decide +kernel
theorem dX5_readSign_9 : decode cX5_readSign 9 = .ok (.dup, 1) := by decide +kernel
theorem dX5_readSign_10 : decode cX5_readSign 10 = .ok (.getfield 49, 3) := by decide +kernel
theorem dX5_readSign_13 : decode cX5_readSign 13 = .ok (.iconst 1, 1) := by decide +kernel
theorem dX5_readSign_14 : decode cX5_readSign 14 = .ok (.iadd, 1) := by decide +kernel
theorem dX5_readSign_15 : decode cX5_readSign 15 = .ok (.putfield 49, 3) := by decide +kernel
theorem dX5_readSign_18 : decode cX5_readSign 18 = .ok (.aload_n 0, 1) := by decide +kernel
theorem dX5_readSign_19 : decode cX5_readSign 19 = .ok (.getfield 103, 3) := by decide +kernel
theorem dX5_readSign_22 : decode cX5_readSign 22 = .ok (.bipush 59, 2) := by decide +kernel
theorem dX5_readSign_24 : decode cX5_readSign 24 = .ok (.if_icmp .eq 30, 3) := by decide +kernel
theorem dX5_readSign_27 : decode cX5_readSign 27 = .ok (.aload_n 0, 1) := by decide +kernel
theorem dX5_readSign_28 : decode cX5_readSign 28 = .ok (.getfield 103, 3) := by decide +kernel
theorem dX5_readSign_31 : decode cX5_readSign 31 = .ok (.bipush 60, 2) := by decide +kernel
theorem dX5_readSign_33 : decode cX5_readSign 33 = .ok (.if_icmp .eq 21, 3) := by decide +kernel
theorem dX5_readSign_36 : decode cX5_readSign 36 = .ok (.aload_n 0, 1) := by decide +kernel
theorem dX5_readSign_37 : decode cX5_readSign 37 = .ok (.getfield 103, 3) := by decide +kernel
theorem dX5_readSign_40 : decode cX5_readSign 40 = .ok (.bipush 62, 2) := by decide +kernel
theorem dX5_readSign_42 : decode cX5_readSign 42 = .ok (.if_icmp .eq 12, 3) := by decide +kernel
theorem dX5_readSign_45 : decode cX5_readSign 45 = .ok (.aload_n 0, 1) := by decide +kernel
theorem dX5_readSign_46 : decode cX5_readSign 46 = .ok (.getfield 103, 3) := by decide +kernel
theorem dX5_readSign_49 : decode cX5_readSign 49 = .ok (.bipush 61, 2) := by decide +kernel
theorem dX5_readSign_51 : decode cX5_readSign 51 = .ok (.if_icmp .ne 7, 3) := by decide +kernel
theorem dX5_readSign_54 : decode cX5_readSign 54 = .ok (.iconst 1, 1) := by decide +kernel
theorem dX5_readSign_55 : decode cX5_readSign 55 = .ok (.goto 4, 3) := by decide +kernel
theorem dX5_readSign_58 : decode cX5_readSign 58 = .ok (.iconst 0, 1) := by decide +kernel
theorem dX5_readSign_59 : decode cX5_readSign 59 = .ok (.istore_n 1, 1) := by decide +kernel
theorem dX5_readSign_60 : decode cX5_readSign 60 = .ok (.aload_n 0, 1) := by decide +kernel
theorem dX5_readSign_61 : decode cX5_readSign 61 = .ok (.iload_n 1, 1) := by decide +kernel
theorem dX5_readSign_62 : decode cX5_readSign 62 = .ok (.ifCond .eq 7, 3) := by decide +kernel
theorem dX5_readSign_65 : decode cX5_readSign 65 = .ok (.iconst 3, 1) := by decide +kernel
theorem dX5_readSign_66 : decode cX5_readSign 66 = .ok (.goto 4, 3) := by decide +kernel
theorem dX5_readSign_69 : decode cX5_readSign 69 = .ok (.iconst 4, 1) := by decide +kernel
theorem dX5_readSign_70 : decode cX5_readSign 70 = .ok (.putfield 61, 3) := by decide +kernel
theorem dX5_readSign_73 : decode cX5_readSign 73 = .ok (.return_, 1) := by decide +kernel
set_option maxHeartbeats 4000000 in
set_option maxRecDepth 100000 in
theorem ctX5_readSign  {σ : jq_M} {σ' : jq_M}  (h : X5_readSign σ = some σ') : jq_MC jq_zX yX5_readSign cX5_readSign 2 none 2 60 [jR 2] σ none σ' := by
  refine jq_met (own := RX5) (L0 := [(0, jR 2)]) (by decide) rfl rfl rfl ?_
  intro X Γ hnl hlY hRT
  refine jq_use2 (P := fun r => jq_RT jq_zX X none none r) ?_ h hRT
  intro K0 hK0
  unfold X5_readSign
  have hj59_0 : ∀ (j4 : Int) (s6 : jq_M) (hz5 : j4 = 0 ∨ j4 = 1), jq_J (X5_readSign_j59 j4 s6) K0 (jq_V jq_zX X (jq_zN jq_zX) s6 59 [(0, jR 2)] [jI j4]) := by
    intro j4 s6 hz5
    unfold X5_readSign_j59
    refine jq_istore_n (L' := [(1, jI j4), (0, jR 2)]) Γ dX5_readSign_59 rfl hnl rfl rfl ?_
    refine jq_aload_n Γ dX5_readSign_60 rfl 1 rfl (jq_at_0 at_X_2) ?_
    refine jq_iload_n Γ dX5_readSign_61 rfl 0 rfl ?_
    refine jq_if_eq (tgt := 69) Γ dX5_readSign_62 rfl ?_ ?_
    · refine jq_iconst Γ dX5_readSign_69 rfl ?_
      refine jq_putI Γ at_X_2 fl_RX5_61 rfl rfl dX5_readSign_70 (fun s7 => ?_)
      exact jq_vreturn Γ dX5_readSign_73 (hK0 _)
    · refine jq_iconst Γ dX5_readSign_65 rfl ?_
      refine jq_goto Γ (tgt := 70) dX5_readSign_66 rfl ?_
      refine jq_putI Γ at_X_2 fl_RX5_61 rfl rfl dX5_readSign_70 (fun s8 => ?_)
      exact jq_vreturn Γ dX5_readSign_73 (hK0 _)
  refine jq_aload_n Γ dX5_readSign_0 rfl 0 rfl (jq_at_0 at_X_2) ?_
  refine jq_aload_n Γ dX5_readSign_1 rfl 0 rfl (jq_at_0 at_X_2) ?_
  refine jq_cpI (jq_virt (avs := []) (st := [jR 2]) Γ hlY rfl ml_RX5_67 rfl at_X_2 rfl rfl rfl rfl rfl dX5_readSign_2) (fun r h => ctX5_here h) (fun v1 => ?_)
  refine jq_putI Γ at_X_2 fl_RX5_103 rfl rfl dX5_readSign_5 (fun s2 => ?_)
  refine jq_aload_n Γ dX5_readSign_8 rfl 0 rfl (jq_at_0 at_X_2) ?_
  refine jq_dup Γ dX5_readSign_9 rfl ?_
  refine jq_getI (J := 4) Γ at_X_2 fl_RX5_49 rfl rfl dX5_readSign_10 ?_
  refine jq_iconst Γ dX5_readSign_13 rfl ?_
  refine jq_iadd Γ dX5_readSign_14 ?_
  refine jq_putI Γ at_X_2 fl_RX5_49 rfl rfl dX5_readSign_15 (fun s3 => ?_)
  refine jq_aload_n Γ dX5_readSign_18 rfl 0 rfl (jq_at_0 at_X_2) ?_
  refine jq_getI (J := 8) Γ at_X_2 fl_RX5_103 rfl rfl dX5_readSign_19 ?_
  refine jq_bipush Γ dX5_readSign_22 rfl ?_
  refine jq_icmp_eq (tgt := 54) Γ dX5_readSign_24 rfl ?_ ?_
  · refine jq_iconst Γ dX5_readSign_54 rfl ?_
    refine jq_goto Γ (tgt := 59) dX5_readSign_55 rfl ?_
    exact hj59_0 1 s3 (Or.inr rfl)
  · refine jq_aload_n Γ dX5_readSign_27 rfl 0 rfl (jq_at_0 at_X_2) ?_
    refine jq_getI (J := 8) Γ at_X_2 fl_RX5_103 rfl rfl dX5_readSign_28 ?_
    refine jq_bipush Γ dX5_readSign_31 rfl ?_
    refine jq_icmp_eq (tgt := 54) Γ dX5_readSign_33 rfl ?_ ?_
    · refine jq_iconst Γ dX5_readSign_54 rfl ?_
      refine jq_goto Γ (tgt := 59) dX5_readSign_55 rfl ?_
      exact hj59_0 1 s3 (Or.inr rfl)
    · refine jq_aload_n Γ dX5_readSign_36 rfl 0 rfl (jq_at_0 at_X_2) ?_
      refine jq_getI (J := 8) Γ at_X_2 fl_RX5_103 rfl rfl dX5_readSign_37 ?_
      refine jq_bipush Γ dX5_readSign_40 rfl ?_
      refine jq_icmp_eq (tgt := 54) Γ dX5_readSign_42 rfl ?_ ?_
      · refine jq_iconst Γ dX5_readSign_54 rfl ?_
        refine jq_goto Γ (tgt := 59) dX5_readSign_55 rfl ?_
        exact hj59_0 1 s3 (Or.inr rfl)
      · refine jq_aload_n Γ dX5_readSign_45 rfl 0 rfl (jq_at_0 at_X_2) ?_
        refine jq_getI (J := 8) Γ at_X_2 fl_RX5_103 rfl rfl dX5_readSign_46 ?_
        refine jq_bipush Γ dX5_readSign_49 rfl ?_
        refine jq_icmp_ne (tgt := 58) Γ dX5_readSign_51 rfl ?_ ?_
        · refine jq_iconst Γ dX5_readSign_58 rfl ?_
          exact hj59_0 0 s3 (Or.inl rfl)
        · refine jq_iconst Γ dX5_readSign_54 rfl ?_
          refine jq_goto Γ (tgt := 59) dX5_readSign_55 rfl ?_
          exact hj59_0 1 s3 (Or.inr rfl)


