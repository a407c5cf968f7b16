theorem yf_J0_length_8abf5 : Cond.instanceMethod yJ0_length_8abf5 ∈ jq_T ∧ Cond.selects (yJ0_length_8abf5).cls yJ0_length_8abf5 yJ0_length_8abf5 ∈ jq_T ∧ Cond.initialized (yJ0_length_8abf5).cls ∈ jq_T ∧ Cond.code yJ0_length_8abf5 cJ0_length_8abf5 1 (some .int) ∈ jq_T ∧ ((yJ0_length_8abf5).cls ≠ "java/lang/invoke/MethodHandle" ∧ (yJ0_length_8abf5).cls ≠ "java/lang/invoke/VarHandle" ∧ (parseMethodDescriptor (yJ0_length_8abf5).desc).map (fun d => d.parameters.length) = some 0) := ⟨jq_in 175 (by decide +kernel) rfl, jq_in 176 (by decide +kernel) rfl, jq_in 140 (by decide +kernel) rfl, jq_in 177 (by decide +kernel) rfl, ⟨by decide, by decide, by decide +kernel⟩⟩
theorem ml_RX11_144 : jq_vl RX11 144 yJ0_length_8abf5 cJ0_length_8abf5 1 (some .int) 0 := ⟨jq_in 1766 (by decide +kernel) rfl, yf_J0_length_8abf5⟩
theorem yf_J0_charAt_5068e : Cond.instanceMethod yJ0_charAt_5068e ∈ jq_T ∧ Cond.selects (yJ0_charAt_5068e).cls yJ0_charAt_5068e yJ0_charAt_5068e ∈ jq_T ∧ Cond.initialized (yJ0_charAt_5068e).cls ∈ jq_T ∧ Cond.code yJ0_charAt_5068e cJ0_charAt_5068e 2 (some .char) ∈ jq_T ∧ ((yJ0_charAt_5068e).cls ≠ "java/lang/invoke/MethodHandle" ∧ (yJ0_charAt_5068e).cls ≠ "java/lang/invoke/VarHandle" ∧ (parseMethodDescriptor (yJ0_charAt_5068e).desc).map (fun d => d.parameters.length) = some 1) := ⟨jq_in 185 (by decide +kernel) rfl, jq_in 186 (by decide +kernel) rfl, jq_in 140 (by decide +kernel) rfl, jq_in 187 (by decide +kernel) rfl, ⟨by decide, by decide, by decide +kernel⟩⟩
theorem ml_RX11_150 : jq_vl RX11 150 yJ0_charAt_5068e cJ0_charAt_5068e 2 (some .char) 1 := ⟨jq_in 1767 (by decide +kernel) rfl, yf_J0_charAt_5068e⟩
theorem fl_RX11_154 : jq_fl RX11 154 8 37 18 false := ⟨RX11, TX11, tyX11, cls_X11, by decide, jq_in 1580 (by decide +kernel) rfl, by decide⟩
theorem fl_RX11_41 : jq_fl RX11 41 8 37 17 false := ⟨RX11, TX11, tyX11, cls_X11, by decide, jq_in 1579 (by decide +kernel) rfl, by decide⟩
theorem fl_RX11_157 : jq_fl RX11 157 8 37 19 false := ⟨RX11, TX11, tyX11, cls_X11, by decide, jq_in 1581 (by decide +kernel) rfl, by decide⟩
theorem yf_X11_ahead : Cond.instanceMethod yX11_ahead ∈ jq_T ∧ Cond.selects (yX11_ahead).cls yX11_ahead yX11_ahead ∈ jq_T ∧ Cond.initialized (yX11_ahead).cls ∈ jq_T ∧ Cond.code yX11_ahead cX11_ahead 2 none ∈ jq_T ∧ ((yX11_ahead).cls ≠ "java/lang/invoke/MethodHandle" ∧ (yX11_ahead).cls ≠ "java/lang/invoke/VarHandle" ∧ (parseMethodDescriptor (yX11_ahead).desc).map (fun d => d.parameters.length) = some 0) := ⟨jq_in 1739 (by decide +kernel) rfl, jq_in 43 (by decide +kernel) rfl, jq_in 150 (by decide +kernel) rfl, jq_in 1740 (by decide +kernel) rfl, ⟨by decide, by decide, by decide +kernel⟩⟩
theorem ml_RX11_160 : jq_vl RX11 160 yX11_ahead cX11_ahead 2 none 0 := ⟨jq_in 1737 (by decide +kernel) rfl, yf_X11_ahead⟩
theorem yf_X11_isSign : Cond.instanceMethod yX11_isSign ∈ jq_T ∧ Cond.selects (yX11_isSign).cls yX11_isSign yX11_isSign ∈ jq_T ∧ Cond.initialized (yX11_isSign).cls ∈ jq_T ∧ Cond.code yX11_isSign cX11_isSign 2 (some .boolean) ∈ jq_T ∧ ((yX11_isSign).cls ≠ "java/lang/invoke/MethodHandle" ∧ (yX11_isSign).cls ≠ "java/lang/invoke/VarHandle" ∧ (parseMethodDescriptor (yX11_isSign).desc).map (fun d => d.parameters.length) = some 1) := ⟨jq_in 1822 (by decide +kernel) rfl, jq_in 61 (by decide +kernel) rfl, jq_in 150 (by decide +kernel) rfl, jq_in 1823 (by decide +kernel) rfl, ⟨by decide, by decide, by decide +kernel⟩⟩
theorem ml_RX11_163 : jq_vl RX11 163 yX11_isSign cX11_isSign 2 (some .boolean) 1 := ⟨jq_in 1820 (by decide +kernel) rfl, yf_X11_isSign⟩
theorem yf_X11_fails : Cond.instanceMethod yX11_fails ∈ jq_T ∧ Cond.selects (yX11_fails).cls yX11_fails yX11_fails ∈ jq_T ∧ Cond.initialized (yX11_fails).cls ∈ jq_T ∧ Cond.code yX11_fails cX11_fails 2 (some .boolean) ∈ jq_T ∧ ((yX11_fails).cls ≠ "java/lang/invoke/MethodHandle" ∧ (yX11_fails).cls ≠ "java/lang/invoke/VarHandle" ∧ (parseMethodDescriptor (yX11_fails).desc).map (fun d => d.parameters.length) = some 1) := ⟨jq_in 1770 (by decide +kernel) rfl, jq_in 48 (by decide +kernel) rfl, jq_in 150 (by decide +kernel) rfl, jq_in 1771 (by decide +kernel) rfl, ⟨by decide, by decide, by decide +kernel⟩⟩
theorem ml_RX11_166 : jq_vl RX11 166 yX11_fails cX11_fails 2 (some .boolean) 1 := ⟨jq_in 1768 (by decide +kernel) rfl, yf_X11_fails⟩
theorem yf_X11_inWords : Cond.instanceMethod yX11_inWords ∈ jq_T ∧ Cond.selects (yX11_inWords).cls yX11_inWords yX11_inWords ∈ jq_T ∧ Cond.initialized (yX11_inWords).cls ∈ jq_T ∧ Cond.code yX11_inWords cX11_inWords 7 (some .int) ∈ jq_T ∧ ((yX11_inWords).cls ≠ "java/lang/invoke/MethodHandle" ∧ (yX11_inWords).cls ≠ "java/lang/invoke/VarHandle" ∧ (parseMethodDescriptor (yX11_inWords).desc).map (fun d => d.parameters.length) = some 1) := ⟨jq_in 1764 (by decide +kernel) rfl, jq_in 47 (by decide +kernel) rfl, jq_in 150 (by decide +kernel) rfl, jq_in 1765 (by decide +kernel) rfl, ⟨by decide, by decide, by decide +kernel⟩⟩
theorem ml_RX11_169 : jq_vl RX11 169 yX11_inWords cX11_inWords 7 (some .int) 1 := ⟨jq_in 1762 (by decide +kernel) rfl, yf_X11_inWords⟩
theorem fl_RX11_13 : jq_fl RX11 13 8 37 1 true := ⟨RX11, TX11, tyX11, cls_X11, by decide, jq_in 1563 (by decide +kernel) rfl, by decide⟩
theorem yf_X11_nameHere : Cond.instanceMethod yX11_nameHere ∈ jq_T ∧ Cond.selects (yX11_nameHere).cls yX11_nameHere yX11_nameHere ∈ jq_T ∧ Cond.initialized (yX11_nameHere).cls ∈ jq_T ∧ Cond.code yX11_nameHere cX11_nameHere 4 (some .long) ∈ jq_T ∧ ((yX11_nameHere).cls ≠ "java/lang/invoke/MethodHandle" ∧ (yX11_nameHere).cls ≠ "java/lang/invoke/VarHandle" ∧ (parseMethodDescriptor (yX11_nameHere).desc).map (fun d => d.parameters.length) = some 0) := ⟨jq_in 1794 (by decide +kernel) rfl, jq_in 54 (by decide +kernel) rfl, jq_in 150 (by decide +kernel) rfl, jq_in 1795 (by decide +kernel) rfl, ⟨by decide, by decide, by decide +kernel⟩⟩
theorem ml_RX11_173 : jq_vl RX11 173 yX11_nameHere cX11_nameHere 4 (some .long) 0 := ⟨jq_in 1792 (by decide +kernel) rfl, yf_X11_nameHere⟩
theorem fl_RX11_37 : jq_fl RX11 37 8 37 16 false := ⟨RX11, TX11, tyX11, cls_X11, by decide, jq_in 1578 (by decide +kernel) rfl, by decide⟩
theorem yf_X11_isName : Cond.instanceMethod yX11_isName ∈ jq_T ∧ Cond.selects (yX11_isName).cls yX11_isName yX11_isName ∈ jq_T ∧ Cond.initialized (yX11_isName).cls ∈ jq_T ∧ Cond.code yX11_isName cX11_isName 2 (some .boolean) ∈ jq_T ∧ ((yX11_isName).cls ≠ "java/lang/invoke/MethodHandle" ∧ (yX11_isName).cls ≠ "java/lang/invoke/VarHandle" ∧ (parseMethodDescriptor (yX11_isName).desc).map (fun d => d.parameters.length) = some 1) := ⟨jq_in 1786 (by decide +kernel) rfl, jq_in 52 (by decide +kernel) rfl, jq_in 150 (by decide +kernel) rfl, jq_in 1787 (by decide +kernel) rfl, ⟨by decide, by decide, by decide +kernel⟩⟩
theorem ml_RX11_179 : jq_vl RX11 179 yX11_isName cX11_isName 2 (some .boolean) 1 := ⟨jq_in 1784 (by decide +kernel) rfl, yf_X11_isName⟩
theorem yf_X11_findHere : Cond.instanceMethod yX11_findHere ∈ jq_T ∧ Cond.selects (yX11_findHere).cls yX11_findHere yX11_findHere ∈ jq_T ∧ Cond.initialized (yX11_findHere).cls ∈ jq_T ∧ Cond.code yX11_findHere cX11_findHere 4 (some .int) ∈ jq_T ∧ ((yX11_findHere).cls ≠ "java/lang/invoke/MethodHandle" ∧ (yX11_findHere).cls ≠ "java/lang/invoke/VarHandle" ∧ (parseMethodDescriptor (yX11_findHere).desc).map (fun d => d.parameters.length) = some 2) := ⟨jq_in 1790 (by decide +kernel) rfl, jq_in 53 (by decide +kernel) rfl, jq_in 150 (by decide +kernel) rfl, jq_in 1791 (by decide +kernel) rfl, ⟨by decide, by decide, by decide +kernel⟩⟩
theorem ml_RX11_183 : jq_vl RX11 183 yX11_findHere cX11_findHere 4 (some .int) 2 := ⟨jq_in 1788 (by decide +kernel) rfl, yf_X11_findHere⟩
theorem yf_X11_newOne : Cond.instanceMethod yX11_newOne ∈ jq_T ∧ Cond.selects (yX11_newOne).cls yX11_newOne yX11_newOne ∈ jq_T ∧ Cond.initialized (yX11_newOne).cls ∈ jq_T ∧ Cond.code yX11_newOne cX11_newOne 4 (some .boolean) ∈ jq_T ∧ ((yX11_newOne).cls ≠ "java/lang/invoke/MethodHandle" ∧ (yX11_newOne).cls ≠ "java/lang/invoke/VarHandle" ∧ (parseMethodDescriptor (yX11_newOne).desc).map (fun d => d.parameters.length) = some 3) := ⟨jq_in 1782 (by decide +kernel) rfl, jq_in 51 (by decide +kernel) rfl, jq_in 150 (by decide +kernel) rfl, jq_in 1783 (by decide +kernel) rfl, ⟨by decide, by decide, by decide +kernel⟩⟩
theorem ml_RX11_186 : jq_vl RX11 186 yX11_newOne cX11_newOne 4 (some .boolean) 3 := ⟨jq_in 1780 (by decide +kernel) rfl, yf_X11_newOne⟩
theorem yf_X11_isThere : Cond.instanceMethod yX11_isThere ∈ jq_T ∧ Cond.selects (yX11_isThere).cls yX11_isThere yX11_isThere ∈ jq_T ∧ Cond.initialized (yX11_isThere).cls ∈ jq_T ∧ Cond.code yX11_isThere cX11_isThere 2 (some .boolean) ∈ jq_T ∧ ((yX11_isThere).cls ≠ "java/lang/invoke/MethodHandle" ∧ (yX11_isThere).cls ≠ "java/lang/invoke/VarHandle" ∧ (parseMethodDescriptor (yX11_isThere).desc).map (fun d => d.parameters.length) = some 1) := ⟨jq_in 1798 (by decide +kernel) rfl, jq_in 55 (by decide +kernel) rfl, jq_in 150 (by decide +kernel) rfl, jq_in 1799 (by decide +kernel) rfl, ⟨by decide, by decide, by decide +kernel⟩⟩
theorem ml_RX11_190 : jq_vl RX11 190 yX11_isThere cX11_isThere 2 (some .boolean) 1 := ⟨jq_in 1796 (by decide +kernel) rfl, yf_X11_isThere⟩
theorem yf_X11_number : Cond.instanceMethod yX11_number ∈ jq_T ∧ Cond.selects (yX11_number).cls yX11_number yX11_number ∈ jq_T ∧ Cond.initialized (yX11_number).cls ∈ jq_T ∧ Cond.code yX11_number cX11_number 4 (some .boolean) ∈ jq_T ∧ ((yX11_number).cls ≠ "java/lang/invoke/MethodHandle" ∧ (yX11_number).cls ≠ "java/lang/invoke/VarHandle" ∧ (parseMethodDescriptor (yX11_number).desc).map (fun d => d.parameters.length) = some 3) := ⟨jq_in 1774 (by decide +kernel) rfl, jq_in 49 (by decide +kernel) rfl, jq_in 150 (by decide +kernel) rfl, jq_in 1775 (by decide +kernel) rfl, ⟨by decide, by decide, by decide +kernel⟩⟩
theorem ml_RX11_193 : jq_vl RX11 193 yX11_number cX11_number 4 (some .boolean) 3 := ⟨jq_in 1772 (by decide +kernel) rfl, yf_X11_number⟩
theorem dX11_inWords_0 : decode cX11_inWords 0 = .ok (.aload_n 0, 1) := by decide +kernel
theorem dX11_inWords_1 : decode cX11_inWords 1 = .ok (.getfield 129, 3) := by decide +kernel
theorem dX11_inWords_4 : decode cX11_inWords 4 = .ok (.iconst 2, 1) := by decide +kernel
theorem dX11_inWords_5 : decode cX11_inWords 5 = .ok (.if_icmp .eq 5, 3) := by decide +kernel
theorem dX11_inWords_8 : decode cX11_inWords 8 = .ok (.iconst (-1), 1) := by decide +kernel
theorem dX11_inWords_9 : decode cX11_inWords 9 = .ok (.ireturn, 1) := by decide +kernel
theorem dX11_inWords_10 : decode cX11_inWords 10 = .ok (.iconst 0, 1) := by decide +kernel
theorem dX11_inWords_11 : decode cX11_inWords 11 = .ok (.istore_n 2, 1) := by decide +kernel
theorem dX11_inWords_12 : decode cX11_inWords 12 = .ok (.iconst 1, 1) := by decide +kernel
theorem dX11_inWords_13 : decode cX11_inWords 13 = .ok (.istore_n 3, 1) := by decide +kernel
theorem dX11_inWords_14 : decode cX11_inWords 14 = .ok (.iload_n 3, 1) := by decide +kernel
theorem dX11_inWords_15 : decode cX11_inWords 15 = .ok (.aload_n 1, 1) := by decide +kernel
theorem dX11_inWords_16 : decode cX11_inWords 16 = .ok (.invokevirtual 144, 3) := by decide +kernel
theorem dX11_inWords_19 : decode cX11_inWords 19 = .ok (.if_icmp .ge 114, 3) := by decide +kernel
theorem dX11_inWords_22 : decode cX11_inWords 22 = .ok (.iload_n 3, 1) := by decide +kernel
theorem dX11_inWords_23 : decode cX11_inWords 23 = .ok (.istore 4, 2) := by decide +kernel
theorem dX11_inWords_25 : decode cX11_inWords 25 = .ok (.aload_n 1, 1) := by decide +kernel
theorem dX11_inWords_26 : decode cX11_inWords 26 = .ok (.iload 4, 2) := by decide +kernel
theorem dX11_inWords_28 : decode cX11_inWords 28 = .ok (.invokevirtual 150, 3) := by decide +kernel
theorem dX11_inWords_31 : decode cX11_inWords 31 = .ok (.bipush 32, 2) := by decide +kernel
theorem dX11_inWords_33 : decode cX11_inWords 33 = .ok (.if_icmp .eq 9, 3) := by decide +kernel
theorem dX11_inWords_36 : decode cX11_inWords 36 = .ok (.iinc 4 1, 3) := by decide +kernel
theorem dX11_inWords_39 : decode cX11_inWords 39 = .ok (.goto (-14), 3) := by decide +kernel
theorem dX11_inWords_42 : decode cX11_inWords 42 = .ok (.iload 4, 2) := by decide +kernel
theorem dX11_inWords_44 : decode cX11_inWords 44 = .ok (.iload_n 3, 1) := by decide +kernel
theorem dX11_inWords_45 : decode cX11_inWords 45 = .ok (.isub, 1) := by decide +kernel
theorem dX11_inWords_46 : decode cX11_inWords 46 = .ok (.aload_n 0, 1) := by decide +kernel
theorem dX11_inWords_47 : decode cX11_inWords 47 = .ok (.getfield 117, 3) := by decide +kernel
theorem dX11_inWords_50 : decode cX11_inWords 50 = .ok (.aload_n 0, 1) := by decide +kernel
theorem dX11_inWords_51 : decode cX11_inWords 51 = .ok (.getfield 123, 3) := by decide +kernel
theorem dX11_inWords_54 : decode cX11_inWords 54 = .ok (.isub, 1) := by decide +kernel
theorem dX11_inWords_55 : decode cX11_inWords 55 = .ok (.if_icmp .ne 7, 3) := by decide +kernel
theorem dX11_inWords_58 : decode cX11_inWords 58 = .ok (.iconst 1, 1) := by decide +kernel
theorem dX11_inWords_59 : decode cX11_inWords 59 = .ok (.goto 4, 3) := by decide +kernel
theorem dX11_inWords_62 : decode cX11_inWords 62 = .ok (.iconst 0, 1) := by decide +kernel
theorem dX11_inWords_63 : decode cX11_inWords 63 = .ok (.istore 5, 2) := by decide +kernel
theorem dX11_inWords_65 : decode cX11_inWords 65 = .ok (.iload_n 3, 1) := by decide +kernel
theorem dX11_inWords_66 : decode cX11_inWords 66 = .ok (.istore 6, 2) := by decide +kernel
theorem dX11_inWords_68 : decode cX11_inWords 68 = .ok (.iload 6, 2) := by decide +kernel
theorem dX11_inWords_70 : decode cX11_inWords 70 = .ok (.iload 4, 2) := by decide +kernel
theorem dX11_inWords_72 : decode cX11_inWords 72 = .ok (.if_icmp .ge 43, 3) := by decide +kernel
theorem dX11_inWords_75 : decode cX11_inWords 75 = .ok (.iload 5, 2) := by decide +kernel
theorem dX11_inWords_77 : decode cX11_inWords 77 = .ok (.ifCond .eq 38, 3) := by decide +kernel
theorem dX11_inWords_80 : decode cX11_inWords 80 = .ok (.aload_n 1, 1) := by decide +kernel
theorem dX11_inWords_81 : decode cX11_inWords 81 = .ok (.iload 6, 2) := by decide +kernel
theorem dX11_inWords_83 : decode cX11_inWords 83 = .ok (.invokevirtual 150, 3) := by decide +kernel
theorem dX11_inWords_86 : decode cX11_inWords 86 = .ok (.aload_n 0, 1) := by decide +kernel
theorem dX11_inWords_87 : decode cX11_inWords 87 = .ok (.aload_n 0, 1) := by decide +kernel
theorem dX11_inWords_88 : decode cX11_inWords 88 = .ok (.getfield 123, 3) := by decide +kernel
theorem dX11_inWords_91 : decode cX11_inWords 91 = .ok (.iload 6, 2) := by decide +kernel
theorem dX11_inWords_93 : decode cX11_inWords 93 = .ok (.iadd, 1) := by decide +kernel
theorem dX11_inWords_94 : decode cX11_inWords 94 = .ok (.iload_n 3, 1) := by decide +kernel
theorem dX11_inWords_95 : decode cX11_inWords 95 = .ok (.isub, 1) := by decide +kernel
theorem dX11_inWords_96 : decode cX11_inWords 96 = .ok (.invokevirtual 120, 3) := by decide +kernel
theorem dX11_inWords_99 : decode cX11_inWords 99 = .ok (.if_icmp .ne 7, 3) := by decide +kernel
theorem dX11_inWords_102 : decode cX11_inWords 102 = .ok (.iconst 1, 1) := by decide +kernel
theorem dX11_inWords_103 : decode cX11_inWords 103 = .ok (.goto 4, 3) := by decide +kernel
theorem dX11_inWords_106 : decode cX11_inWords 106 = .ok (.iconst 0, 1) := by decide +kernel
theorem dX11_inWords_107 : decode cX11_inWords 107 = .ok (.istore 5, 2) := by decide +kernel
theorem dX11_inWords_109 : decode cX11_inWords 109 = .ok (.iinc 6 1, 3) := by decide +kernel
theorem dX11_inWords_112 : decode cX11_inWords 112 = .ok (.goto (-44), 3) := by decide +kernel
theorem dX11_inWords_115 : decode cX11_inWords 115 = .ok (.iload 5, 2) := by decide +kernel
theorem dX11_inWords_117 : decode cX11_inWords 117 = .ok (.ifCond .eq 5, 3) := by decide +kernel
theorem dX11_inWords_120 : decode cX11_inWords 120 = .ok (.iload_n 2, 1) := by decide +kernel
theorem dX11_inWords_121 : decode cX11_inWords 121 = .ok (.ireturn, 1) := by decide +kernel
theorem dX11_inWords_122 : decode cX11_inWords 122 = .ok (.iinc 2 1, 3) := by decide +kernel
theorem dX11_inWords_125 : decode cX11_inWords 125 = .ok (.iload 4, 2) := by decide +kernel
theorem dX11_inWords_127 : decode cX11_inWords 127 = .ok (.iconst 1, 1) := by decide +kernel
theorem dX11_inWords_128 : decode cX11_inWords 128 = .ok (.iadd, 1) := by decide +kernel
theorem dX11_inWords_129 : decode cX11_inWords 129 = .ok (.istore_n 3, 1) := by decide +kernel
theorem dX11_inWords_130 : decode cX11_inWords 130 = .ok (.goto (-116), 3) := by decide +kernel
theorem dX11_inWords_133 : decode cX11_inWords 133 = .ok (.iconst (-1), 1) := by decide +kernel
theorem dX11_inWords_134 : decode cX11_inWords 134 = .ok (.ireturn, 1) := by decide +kernel
set_option maxHeartbeats 4000000 in
set_option maxRecDepth 100000 in
theorem ctX11_inWords  {σ : jq_M} {res : Int}  (h : X11_inWords σ = some res) : jq_MC jq_zM yX11_inWords cX11_inWords 7 (some .int) 5 125 [jR 0, jT 0] σ (some (jI res)) σ := by
  refine jq_met (own := RX11) (L0 := [(0, jR 0), (1, jT 0)]) (by decide) rfl rfl rfl ?_
  intro X Γ hnl hlY hRT
  refine jq_use2 (P := fun r => jq_RT jq_zM X (some .int) (some (jI r)) σ) ?_ h hRT
  intro K0 hK0
  unfold X11_inWords
  refine jq_aload_n Γ dX11_inWords_0 rfl 0 rfl (jq_at_0 at_M_0) ?_
  refine jq_getI (J := 12) Γ at_M_0 fl_RX11_129 rfl rfl dX11_inWords_1 ?_
  refine jq_iconst Γ dX11_inWords_4 rfl ?_
  refine jq_icmp_eq (tgt := 10) Γ dX11_inWords_5 rfl ?_ ?_
  · refine jq_iconst Γ dX11_inWords_10 rfl ?_
    refine jq_istore_n (L' := [(2, jI 0), (0, jR 0), (1, jT 0)]) Γ dX11_inWords_11 rfl hnl rfl rfl ?_
    refine jq_iconst Γ dX11_inWords_12 rfl ?_
    refine jq_istore_n (L' := [(3, jI 1), (2, jI 0), (0, jR 0), (1, jT 0)]) Γ dX11_inWords_13 rfl hnl rfl rfl ?_
    refine jq_sub Γ (L' := [(0, jR 0), (1, jT 0), (2, jI 0), (3, jI 1)]) [2, 3, 1, 0] rfl ?_
    refine jq_loop2 (C := fun (t1 : Int × Int) => jq_V jq_zM X (jq_zN jq_zM) σ 14 [(0, jR 0), (1, jT 0), (2, jI t1.1), (3, jI t1.2)] []) (KX := Sum.elim (fun (e23 : Int) => jq_V jq_zM X (jq_zN jq_zM) σ 120 [(2, jI e23)] []) (fun (e24 : Unit) => jq_V jq_zM X (jq_zN jq_zM) σ 133 [] [])) ?_ ?_ (0, 1)
    · intro K14_t1 hCt1 hXt1 t1
      unfold X11_inWords_b14
      have hj115_1003 : ∀ (j18 : Int) (j19 : Int) (j20 : Int), jq_J (X11_inWords_j115 σ j18 j19 j20) K14_t1 (jq_V jq_zM X (jq_zN jq_zM) σ 115 [(0, jR 0), (1, jT 0), (2, jI j18), (4, jI j19), (5, jI j20)] []) := by
        intro j18 j19 j20
        unfold X11_inWords_j115
        refine jq_iload Γ dX11_inWords_115 4 rfl ?_
        refine jq_if_eq (tgt := 122) Γ dX11_inWords_117 rfl ?_ ?_
        · refine jq_iincN (L' := fun v21 => [(2, jI v21), (0, jR 0), (1, jT 0), (4, jI j19), (5, jI j20)]) Γ dX11_inWords_122 2 rfl hnl rfl (fun _ => rfl) (fun v21 => ?_)
          refine jq_iload Γ dX11_inWords_125 3 rfl ?_
          refine jq_iconst Γ dX11_inWords_127 rfl ?_
          refine jq_iadd Γ dX11_inWords_128 ?_
          refine jq_nmI (fun v22 => ?_)
          refine jq_istore_n (L' := [(3, jI v22), (2, jI v21), (0, jR 0), (1, jT 0), (4, jI j19), (5, jI j20)]) Γ dX11_inWords_129 rfl hnl rfl rfl ?_
          refine jq_goto Γ (tgt := 14) dX11_inWords_130 rfl ?_
          refine jq_sub Γ (L' := [(0, jR 0), (1, jT 0), (2, jI v21), (3, jI v22)]) [2, 3, 1, 0] rfl ?_
          exact jq_done (hCt1 (v21, v22))
        · refine jq_sub Γ (L' := [(2, jI j18)]) [2] rfl ?_
          exact jq_done (hXt1 (.inl j18))
      have hj63_1003 : ∀ (j7 : Int) (j8 : Int) (j9 : Int) (j10 : Int) (hz11 : j10 = 0 ∨ j10 = 1), jq_J (X11_inWords_j63 σ j7 j8 j9 j10) K14_t1 (jq_V jq_zM X (jq_zN jq_zM) σ 63 [(0, jR 0), (1, jT 0), (2, jI j7), (3, jI j8), (4, jI j9)] [jI j10]) := by
        intro j7 j8 j9 j10 hz11
        unfold X11_inWords_j63
        refine jq_istore (L' := [(5, jI j10), (0, jR 0), (1, jT 0), (2, jI j7), (3, jI j8), (4, jI j9)]) Γ dX11_inWords_63 hnl rfl rfl ?_
        refine jq_iload_n Γ dX11_inWords_65 rfl 4 rfl ?_
        refine jq_istore (L' := [(6, jI j8), (5, jI j10), (0, jR 0), (1, jT 0), (2, jI j7), (3, jI j8), (4, jI j9)]) Γ dX11_inWords_66 hnl rfl rfl ?_
        refine jq_sub Γ (L' := [(0, jR 0), (1, jT 0), (2, jI j7), (3, jI j8), (4, jI j9), (5, jI j10), (6, jI j8)]) [2, 3, 4, 5, 6, 1, 0] rfl ?_
        refine jq_loop2 (C := fun (t12 : Int × Int) => jq_V jq_zM X (jq_zN jq_zM) σ 68 [(0, jR 0), (1, jT 0), (2, jI j7), (3, jI j8), (4, jI j9), (5, jI t12.1), (6, jI t12.2)] []) (KX := fun (e17 : Int) => jq_V jq_zM X (jq_zN jq_zM) σ 115 [(0, jR 0), (1, jT 0), (2, jI j7), (4, jI j9), (5, jI e17)] []) ?_ ?_ (j10, j8)
        · intro K68_t12 hCt12 hXt12 t12
          unfold X11_inWords_b68
          refine jq_iload Γ dX11_inWords_68 6 rfl ?_
          refine jq_iload Γ dX11_inWords_70 4 rfl ?_
          refine jq_icmp_ge (tgt := 115) Γ dX11_inWords_72 rfl ?_ ?_
          · refine jq_sub Γ (L' := [(0, jR 0), (1, jT 0), (2, jI j7), (4, jI j9), (5, jI t12.1)]) [0, 1, 2, 4, 5] rfl ?_
            exact jq_done (hXt12 t12.1)
          · refine jq_iload Γ dX11_inWords_75 5 rfl ?_
            refine jq_if_eq (tgt := 115) Γ dX11_inWords_77 rfl ?_ ?_
            · refine jq_sub Γ (L' := [(0, jR 0), (1, jT 0), (2, jI j7), (4, jI j9), (5, jI t12.1)]) [0, 1, 2, 4, 5] rfl ?_
              exact jq_done (hXt12 t12.1)
            · refine jq_aloadT_n Γ dX11_inWords_80 rfl 1 rfl (Or.inl rfl) ?_
              refine jq_iload Γ dX11_inWords_81 6 rfl ?_
              refine jq_cpI (jq_virtT (avs := [jI t12.2]) (st := []) Γ hlY rfl ml_RX11_150 rfl rfl rfl rfl rfl rfl dX11_inWords_83) (fun r h => ctJ0_charAt_5068e h) (fun v13 => ?_)
              refine jq_aload_n Γ dX11_inWords_86 rfl 0 rfl (jq_at_0 at_M_0) ?_
              refine jq_aload_n Γ dX11_inWords_87 rfl 0 rfl (jq_at_0 at_M_0) ?_
              refine jq_getI (J := 13) Γ at_M_0 fl_RX11_123 rfl rfl dX11_inWords_88 ?_
              refine jq_iload Γ dX11_inWords_91 6 rfl ?_
              refine jq_iadd Γ dX11_inWords_93 ?_
              refine jq_iload_n Γ dX11_inWords_94 rfl 3 rfl ?_
              refine jq_isub Γ dX11_inWords_95 ?_
              refine jq_cpI (jq_virt (avs := [jI (jq_w ((jq_w ((σ 0 13) + t12.2)) - j8))]) (st := [jI v13]) Γ hlY rfl ml_RX11_120 rfl at_M_0 rfl rfl rfl rfl rfl dX11_inWords_96) (fun r h => ctX11_byteAt h) (fun v14 => ?_)
              refine jq_icmp_ne (tgt := 106) Γ dX11_inWords_99 rfl ?_ ?_
              · refine jq_iconst Γ dX11_inWords_106 rfl ?_
                refine jq_istore (L' := [(5, jI 0), (0, jR 0), (1, jT 0), (2, jI j7), (3, jI j8), (4, jI j9), (6, jI t12.2)]) Γ dX11_inWords_107 hnl rfl rfl ?_
                refine jq_iincN (L' := fun v15 => [(6, jI v15), (5, jI 0), (0, jR 0), (1, jT 0), (2, jI j7), (3, jI j8), (4, jI j9)]) Γ dX11_inWords_109 6 rfl hnl rfl (fun _ => rfl) (fun v15 => ?_)
                refine jq_goto Γ (tgt := 68) dX11_inWords_112 rfl ?_
                refine jq_sub Γ (L' := [(0, jR 0), (1, jT 0), (2, jI j7), (3, jI j8), (4, jI j9), (5, jI 0), (6, jI v15)]) [2, 3, 4, 5, 6, 1, 0] rfl ?_
                exact jq_done (hCt12 (0, v15))
              · refine jq_iconst Γ dX11_inWords_102 rfl ?_
                refine jq_goto Γ (tgt := 107) dX11_inWords_103 rfl ?_
                refine jq_istore (L' := [(5, jI 1), (0, jR 0), (1, jT 0), (2, jI j7), (3, jI j8), (4, jI j9), (6, jI t12.2)]) Γ dX11_inWords_107 hnl rfl rfl ?_
                refine jq_iincN (L' := fun v16 => [(6, jI v16), (5, jI 1), (0, jR 0), (1, jT 0), (2, jI j7), (3, jI j8), (4, jI j9)]) Γ dX11_inWords_109 6 rfl hnl rfl (fun _ => rfl) (fun v16 => ?_)
                refine jq_goto Γ (tgt := 68) dX11_inWords_112 rfl ?_
                refine jq_sub Γ (L' := [(0, jR 0), (1, jT 0), (2, jI j7), (3, jI j8), (4, jI j9), (5, jI 1), (6, jI v16)]) [2, 3, 4, 5, 6, 1, 0] rfl ?_
                exact jq_done (hCt12 (1, v16))
        · intro e17
          exact hj115_1003 j7 j9 e17
      refine jq_iload_n Γ dX11_inWords_14 rfl 3 rfl ?_
      refine jq_aloadT_n Γ dX11_inWords_15 rfl 1 rfl (Or.inl rfl) ?_
      refine jq_cpI (jq_virtT (avs := []) (st := [jI t1.2]) Γ hlY rfl ml_RX11_144 rfl rfl rfl rfl rfl rfl dX11_inWords_16) (fun r h => ctJ0_length_8abf5 h) (fun v2 => ?_)
      refine jq_icmp_ge (tgt := 133) Γ dX11_inWords_19 rfl ?_ ?_
      · refine jq_sub Γ (L' := []) [] rfl ?_
        exact jq_done (hXt1 (.inr ()))
      · refine jq_iload_n Γ dX11_inWords_22 rfl 3 rfl ?_
        refine jq_istore (L' := [(4, jI t1.2), (0, jR 0), (1, jT 0), (2, jI t1.1), (3, jI t1.2)]) Γ dX11_inWords_23 hnl rfl rfl ?_
        refine jq_sub Γ (L' := [(0, jR 0), (1, jT 0), (2, jI t1.1), (3, jI t1.2), (4, jI t1.2)]) [1, 2, 3, 4, 0] rfl ?_
        refine jq_loop2 (C := fun (t3 : Int) => jq_V jq_zM X (jq_zN jq_zM) σ 25 [(0, jR 0), (1, jT 0), (2, jI t1.1), (3, jI t1.2), (4, jI t3)] []) (KX := fun (e6 : Int) => jq_V jq_zM X (jq_zN jq_zM) σ 42 [(0, jR 0), (1, jT 0), (2, jI t1.1), (3, jI t1.2), (4, jI e6)] []) ?_ ?_ t1.2
        · intro K25_t3 hCt3 hXt3 t3
          unfold X11_inWords_b25
          refine jq_aloadT_n Γ dX11_inWords_25 rfl 1 rfl (Or.inl rfl) ?_
          refine jq_iload Γ dX11_inWords_26 4 rfl ?_
          refine jq_cpI (jq_virtT (avs := [jI t3]) (st := []) Γ hlY rfl ml_RX11_150 rfl rfl rfl rfl rfl rfl dX11_inWords_28) (fun r h => ctJ0_charAt_5068e h) (fun v4 => ?_)
          refine jq_bipush Γ dX11_inWords_31 rfl ?_
          refine jq_icmp_eq (tgt := 42) Γ dX11_inWords_33 rfl ?_ ?_
          · exact jq_done (hXt3 t3)
          · refine jq_iincN (L' := fun v5 => [(4, jI v5), (0, jR 0), (1, jT 0), (2, jI t1.1), (3, jI t1.2)]) Γ dX11_inWords_36 4 rfl hnl rfl (fun _ => rfl) (fun v5 => ?_)
            refine jq_goto Γ (tgt := 25) dX11_inWords_39 rfl ?_
            refine jq_sub Γ (L' := [(0, jR 0), (1, jT 0), (2, jI t1.1), (3, jI t1.2), (4, jI v5)]) [1, 2, 3, 4, 0] rfl ?_
            exact jq_done (hCt3 v5)
        · intro e6
          refine jq_iload Γ dX11_inWords_42 4 rfl ?_
          refine jq_iload_n Γ dX11_inWords_44 rfl 3 rfl ?_
          refine jq_isub Γ dX11_inWords_45 ?_
          refine jq_aload_n Γ dX11_inWords_46 rfl 0 rfl (jq_at_0 at_M_0) ?_
          refine jq_getI (J := 14) Γ at_M_0 fl_RX11_117 rfl rfl dX11_inWords_47 ?_
          refine jq_aload_n Γ dX11_inWords_50 rfl 0 rfl (jq_at_0 at_M_0) ?_
          refine jq_getI (J := 13) Γ at_M_0 fl_RX11_123 rfl rfl dX11_inWords_51 ?_
          refine jq_isub Γ dX11_inWords_54 ?_
          refine jq_icmp_ne (tgt := 62) Γ dX11_inWords_55 rfl ?_ ?_
          · refine jq_iconst Γ dX11_inWords_62 rfl ?_
            exact hj63_1003 t1.1 t1.2 e6 0 (Or.inl rfl)
          · refine jq_iconst Γ dX11_inWords_58 rfl ?_
            refine jq_goto Γ (tgt := 63) dX11_inWords_59 rfl ?_
            exact hj63_1003 t1.1 t1.2 e6 1 (Or.inr rfl)
    · refine jq_elim ?_ ?_
      · intro e23
        refine jq_iload_n Γ dX11_inWords_120 rfl 0 rfl ?_
        exact jq_ireturn Γ dX11_inWords_121 (hK0 _)
      · intro e24
        refine jq_iconst Γ dX11_inWords_133 rfl ?_
        exact jq_ireturn Γ dX11_inWords_134 (hK0 _)
  · refine jq_iconst Γ dX11_inWords_8 rfl ?_
    exact jq_ireturn Γ dX11_inWords_9 (hK0 _)


theorem dX11_fails_0 : decode cX11_fails 0 = .ok (.aload_n 0, 1) := by decide +kernel
theorem dX11_fails_1 : decode cX11_fails 1 = .ok (.getfield 154, 3) := by decide +kernel
theorem dX11_fails_4 : decode cX11_fails 4 = .ok (.ifCond .ne 28, 3) := by decide +kernel
theorem dX11_fails_7 : decode cX11_fails 7 = .ok (.aload_n 0, 1) := by decide +kernel
theorem dX11_fails_8 : decode cX11_fails 8 = .ok (.aload_n 0, 1) := by decide +kernel
theorem dX11_fails_9 : decode cX11_fails 9 = .ok (.getfield 129, 3) := by decide +kernel
theorem dX11_fails_12 : decode cX11_fails 12 = .ok (.iconst 1, 1) := by decide +kernel
theorem dX11_fails_13 : decode cX11_fails 13 = .ok (.if_icmp .ne 7, 3) := by decide +kernel
theorem dX11_fails_16 : decode cX11_fails 16 = .ok (.iconst 1, 1) := by decide +kernel
theorem dX11_fails_17 : decode cX11_fails 17 = .ok (.goto 4, 3) := by decide +kernel
theorem dX11_fails_20 : decode cX11_fails 20 = .ok (.iload_n 1, 1) := by decide +kernel
theorem dX11_fails_21 : decode cX11_fails 21 = .ok (.putfield 154, 3) := by decide +kernel
theorem dX11_fails_24 : decode cX11_fails 24 = .ok (.aload_n 0, 1) := by decide +kernel
theorem dX11_fails_25 : decode cX11_fails 25 = .ok (.aload_n 0, 1) := by decide +kernel
theorem dX11_fails_26 : decode cX11_fails 26 = .ok (.getfield 123, 3) := by decide +kernel
theorem dX11_fails_29 : decode cX11_fails 29 = .ok (.putfield 41, 3) := by decide +kernel
theorem dX11_fails_32 : decode cX11_fails 32 = .ok (.iconst 0, 1) := by decide +kernel
theorem dX11_fails_33 : decode cX11_fails 33 = .ok (.ireturn, 1) := by decide +kernel
set_option maxHeartbeats 4000000 in
set_option maxRecDepth 100000 in
theorem ctX11_fails {p1 : Int} {σ : jq_M} {res : Int} {σ' : jq_M}  (h : X11_fails p1 σ = some (res, σ')) : jq_MC jq_zM yX11_fails cX11_fails 2 (some .boolean) 1 40 [jR 0, jI p1] σ (some (jI res)) σ' := by
  refine jq_met (own := RX11) (L0 := [(0, jR 0), (1, jI p1)]) (by decide) rfl rfl rfl ?_
  intro X Γ hnl hlY hRT
  refine jq_use2 (P := fun r => jq_RT jq_zM X (some .boolean) (some (jI r.1)) r.2) ?_ h hRT
  intro K0 hK0
  unfold X11_fails
  refine jq_aload_n Γ dX11_fails_0 rfl 0 rfl (jq_at_0 at_M_0) ?_
  refine jq_getI (J := 18) Γ at_M_0 fl_RX11_154 rfl rfl dX11_fails_1 ?_
  refine jq_if_ne (tgt := 32) Γ dX11_fails_4 rfl ?_ ?_
  · refine jq_iconst Γ dX11_fails_32 rfl ?_
    exact jq_zreturn Γ (Or.inl rfl) dX11_fails_33 (hK0 _)
  · refine jq_aload_n Γ dX11_fails_7 rfl 0 rfl (jq_at_0 at_M_0) ?_
    refine jq_aload_n Γ dX11_fails_8 rfl 0 rfl (jq_at_0 at_M_0) ?_
    refine jq_getI (J := 12) Γ at_M_0 fl_RX11_129 rfl rfl dX11_fails_9 ?_
    refine jq_iconst Γ dX11_fails_12 rfl ?_
    refine jq_icmp_ne (tgt := 20) Γ dX11_fails_13 rfl ?_ ?_
    · refine jq_iload_n Γ dX11_fails_20 rfl 1 rfl ?_
      refine jq_putI Γ at_M_0 fl_RX11_154 rfl rfl dX11_fails_21 (fun s1 => ?_)
      refine jq_aload_n Γ dX11_fails_24 rfl 0 rfl (jq_at_0 at_M_0) ?_
      refine jq_aload_n Γ dX11_fails_25 rfl 0 rfl (jq_at_0 at_M_0) ?_
      refine jq_getI (J := 13) Γ at_M_0 fl_RX11_123 rfl rfl dX11_fails_26 ?_
      refine jq_putI Γ at_M_0 fl_RX11_41 rfl rfl dX11_fails_29 (fun s2 => ?_)
      refine jq_iconst Γ dX11_fails_32 rfl ?_
      exact jq_zreturn Γ (Or.inl rfl) dX11_fails_33 (hK0 _)
    · refine jq_iconst Γ dX11_fails_16 rfl ?_
      refine jq_goto Γ (tgt := 21) dX11_fails_17 rfl ?_
      refine jq_putI Γ at_M_0 fl_RX11_154 rfl rfl dX11_fails_21 (fun s3 => ?_)
      refine jq_aload_n Γ dX11_fails_24 rfl 0 rfl (jq_at_0 at_M_0) ?_
      refine jq_aload_n Γ dX11_fails_25 rfl 0 rfl (jq_at_0 at_M_0) ?_
      refine jq_getI (J := 13) Γ at_M_0 fl_RX11_123 rfl rfl dX11_fails_26 ?_
      refine jq_putI Γ at_M_0 fl_RX11_41 rfl rfl dX11_fails_29 (fun s4 => ?_)
      refine jq_iconst Γ dX11_fails_32 rfl ?_
      exact jq_zreturn Γ (Or.inl rfl) dX11_fails_33 (hK0 _)


theorem dX11_begins_0 : decode cX11_begins 0 = .ok (.iload_n 1, 1) := by decide +kernel
theorem dX11_begins_1 : decode cX11_begins 1 = .ok (.ifCond .lt 16, 3) := by decide +kernel
theorem dX11_begins_4 : decode cX11_begins 4 = .ok (.iload_n 1, 1) := by decide +kernel
theorem dX11_begins_5 : decode cX11_begins 5 = .ok (.aload_n 0, 1) := by decide +kernel
theorem dX11_begins_6 : decode cX11_begins 6 = .ok (.getfield 108, 3) := by decide +kernel
theorem dX11_begins_9 : decode cX11_begins 9 = .ok (.if_icmp .gt 8, 3) := by decide +kernel
theorem dX11_begins_12 : decode cX11_begins 12 = .ok (.iload_n 1, 1) := by decide +kernel
theorem dX11_begins_13 : decode cX11_begins 13 = .ok (.iload_n 2, 1) := by decide +kernel
theorem dX11_begins_14 : decode cX11_begins 14 = .ok (.if_icmp .le 5, 3) := by decide +kernel
theorem dX11_begins_17 : decode cX11_begins 17 = .ok (.iconst 0, 1) := by decide +kernel
theorem dX11_begins_18 : decode cX11_begins 18 = .ok (.ireturn, 1) := by decide +kernel
theorem dX11_begins_19 : decode cX11_begins 19 = .ok (.aload_n 0, 1) := by decide +kernel
theorem dX11_begins_20 : decode cX11_begins 20 = .ok (.iload_n 1, 1) := by decide +kernel
theorem dX11_begins_21 : decode cX11_begins 21 = .ok (.putfield 114, 3) := by decide +kernel
theorem dX11_begins_24 : decode cX11_begins 24 = .ok (.iconst 0, 1) := by decide +kernel
theorem dX11_begins_25 : decode cX11_begins 25 = .ok (.istore_n 3, 1) := by decide +kernel
theorem dX11_begins_26 : decode cX11_begins 26 = .ok (.iload_n 3, 1) := by decide +kernel
theorem dX11_begins_27 : decode cX11_begins 27 = .ok (.iload_n 1, 1) := by decide +kernel
theorem dX11_begins_28 : decode cX11_begins 28 = .ok (.if_icmp .ge 21, 3) := by decide +kernel
theorem dX11_begins_31 : decode cX11_begins 31 = .ok (.aload_n 0, 1) := by decide +kernel
theorem dX11_begins_32 : decode cX11_begins 32 = .ok (.getfield 34, 3) := by decide +kernel
theorem dX11_begins_35 : decode cX11_begins 35 = .ok (.iload_n 3, 1) := by decide +kernel
theorem dX11_begins_36 : decode cX11_begins 36 = .ok (.aload_n 0, 1) := by decide +kernel
theorem dX11_begins_37 : decode cX11_begins 37 = .ok (.getfield 30, 3) := by decide +kernel
theorem dX11_begins_40 : decode cX11_begins 40 = .ok (.iload_n 3, 1) := by decide +kernel
theorem dX11_begins_41 : decode cX11_begins 41 = .ok (.baload, 1) := by decide +kernel
theorem dX11_begins_42 : decode cX11_begins 42 = .ok (.bastore, 1) := by decide +kernel
theorem dX11_begins_43 : decode cX11_begins 43 = .ok (.iinc 3 1, 3) := by decide +kernel
theorem dX11_begins_46 : decode cX11_begins 46 = .ok (.goto (-20), 3) := by decide +kernel
theorem dX11_begins_49 : decode cX11_begins 49 = .ok (.aload_n 0, 1) := by decide +kernel
theorem dX11_begins_50 : decode cX11_begins 50 = .ok (.iconst 0, 1) := by decide +kernel
theorem dX11_begins_51 : decode cX11_begins 51 = .ok (.putfield 108, 3) := by decide +kernel
theorem dX11_begins_54 : decode cX11_begins 54 = .ok (.aload_n 0, 1) := by decide +kernel
theorem dX11_begins_55 : decode cX11_begins 55 = .ok (.iconst 0, 1) := by decide +kernel
theorem dX11_begins_56 : decode cX11_begins 56 = .ok (.putfield 154, 3) := by decide +kernel
theorem dX11_begins_59 : decode cX11_begins 59 = .ok (.aload_n 0, 1) := by decide +kernel
theorem dX11_begins_60 : decode cX11_begins 60 = .ok (.iconst (-1), 1) := by decide +kernel
theorem dX11_begins_61 : decode cX11_begins 61 = .ok (.putfield 41, 3) := by decide +kernel
theorem dX11_begins_64 : decode cX11_begins 64 = .ok (.aload_n 0, 1) := by decide +kernel
theorem dX11_begins_65 : decode cX11_begins 65 = .ok (.iconst 0, 1) := by decide +kernel
theorem dX11_begins_66 : decode cX11_begins 66 = .ok (.putfield 117, 3) := by decide +kernel
theorem dX11_begins_69 : decode cX11_begins 69 = .ok (.aload_n 0, 1) := by decide +kernel
theorem dX11_begins_70 : decode cX11_begins 70 = .ok (.iconst 0, 1) := by decide +kernel
theorem dX11_begins_71 : decode cX11_begins 71 = .ok (.putfield 157, 3) := by decide +kernel
theorem dX11_begins_74 : decode cX11_begins 74 = .ok (.aload_n 0, 1) := by decide +kernel
theorem dX11_begins_75 : decode cX11_begins 75 = .ok (.invokevirtual 160, 3) := by decide +kernel
theorem dX11_begins_78 : decode cX11_begins 78 = .ok (.iconst 1, 1) := by decide +kernel
theorem dX11_begins_79 : decode cX11_begins 79 = .ok (.ireturn, 1) := by decide +kernel
set_option maxHeartbeats 4000000 in
set_option maxRecDepth 100000 in
theorem ctX11_begins {p1 : Int} {p2 : Int} {σ : jq_M} {res : Int} {σ' : jq_M}  (h : X11_begins p1 p2 σ = some (res, σ')) : jq_MC jq_zM yX11_begins cX11_begins 4 (some .boolean) 3 82 [jR 0, jI p1, jI p2] σ (some (jI res)) σ' := by
  refine jq_met (own := RX11) (L0 := [(0, jR 0), (1, jI p1), (2, jI p2)]) (by decide) rfl rfl rfl ?_
  intro X Γ hnl hlY hRT
  refine jq_use2 (P := fun r => jq_RT jq_zM X (some .boolean) (some (jI r.1)) r.2) ?_ h hRT
  intro K0 hK0
  unfold X11_begins
  refine jq_iload_n Γ dX11_begins_0 rfl 1 rfl ?_
  refine jq_if_lt (tgt := 17) Γ dX11_begins_1 rfl ?_ ?_
  · refine jq_iconst Γ dX11_begins_17 rfl ?_
    exact jq_zreturn Γ (Or.inl rfl) dX11_begins_18 (hK0 _)
  · refine jq_iload_n Γ dX11_begins_4 rfl 1 rfl ?_
    refine jq_aload_n Γ dX11_begins_5 rfl 0 rfl (jq_at_0 at_M_0) ?_
    refine jq_getI (J := 10) Γ at_M_0 fl_RX11_108 rfl rfl dX11_begins_6 ?_
    refine jq_icmp_gt (tgt := 17) Γ dX11_begins_9 rfl ?_ ?_
    · refine jq_iconst Γ dX11_begins_17 rfl ?_
      exact jq_zreturn Γ (Or.inl rfl) dX11_begins_18 (hK0 _)
    · refine jq_iload_n Γ dX11_begins_12 rfl 1 rfl ?_
      refine jq_iload_n Γ dX11_begins_13 rfl 2 rfl ?_
      refine jq_icmp_le (tgt := 19) Γ dX11_begins_14 rfl ?_ ?_
      · refine jq_aload_n Γ dX11_begins_19 rfl 0 rfl (jq_at_0 at_M_0) ?_
        refine jq_iload_n Γ dX11_begins_20 rfl 1 rfl ?_
        refine jq_putI Γ at_M_0 fl_RX11_114 rfl rfl dX11_begins_21 (fun s1 => ?_)
        refine jq_iconst Γ dX11_begins_24 rfl ?_
        refine jq_istore_n (L' := [(3, jI 0), (0, jR 0), (1, jI p1), (2, jI p2)]) Γ dX11_begins_25 rfl hnl rfl rfl ?_
        refine jq_sub Γ (L' := [(0, jR 0), (1, jI p1), (3, jI 0)]) [1, 2, 0] rfl ?_
        refine jq_loop2 (C := fun (t2 : Int × jq_M) => jq_V jq_zM X (jq_zN jq_zM) t2.2 26 [(0, jR 0), (1, jI p1), (3, jI t2.1)] []) (KX := fun (e6 : jq_M) => jq_V jq_zM X (jq_zN jq_zM) e6 49 [(0, jR 0)] []) ?_ ?_ (0, s1)
        · intro K26_t2 hCt2 hXt2 t2
          unfold X11_begins_b26
          refine jq_iload_n Γ dX11_begins_26 rfl 2 rfl ?_
          refine jq_iload_n Γ dX11_begins_27 rfl 1 rfl ?_
          refine jq_icmp_ge (tgt := 49) Γ dX11_begins_28 rfl ?_ ?_
          · refine jq_sub Γ (L' := [(0, jR 0)]) [0] rfl ?_
            exact jq_done (hXt2 t2.2)
          · refine jq_aload_n Γ dX11_begins_31 rfl 0 rfl (jq_at_0 at_M_0) ?_
            refine jq_getR (v := 7) Γ hlY at_M_0 fl_RX11_34 rfl rfl ly_X11_text dX11_begins_32 ?_
            refine jq_iload_n Γ dX11_begins_35 rfl 2 rfl ?_
            refine jq_aload_n Γ dX11_begins_36 rfl 0 rfl (jq_at_0 at_M_0) ?_
            refine jq_getR (v := 6) Γ hlY at_M_0 fl_RX11_30 rfl rfl ly_X11_tape dX11_begins_37 ?_
            refine jq_iload_n Γ dX11_begins_40 rfl 2 rfl ?_
            refine jq_bald Γ at_M_6 rfl dX11_begins_41 (fun v3 => ?_)
            refine jq_bast Γ at_M_7 rfl dX11_begins_42 (fun s4 => ?_)
            refine jq_iincN (L' := fun v5 => [(3, jI v5), (0, jR 0), (1, jI p1)]) Γ dX11_begins_43 2 rfl hnl rfl (fun _ => rfl) (fun v5 => ?_)
            refine jq_goto Γ (tgt := 26) dX11_begins_46 rfl ?_
            refine jq_sub Γ (L' := [(0, jR 0), (1, jI p1), (3, jI v5)]) [1, 2, 0] rfl ?_
            exact jq_done (hCt2 (v5, s4))
        · intro e6
          refine jq_aload_n Γ dX11_begins_49 rfl 0 rfl (jq_at_0 at_M_0) ?_
          refine jq_iconst Γ dX11_begins_50 rfl ?_
          refine jq_putI Γ at_M_0 fl_RX11_108 rfl rfl dX11_begins_51 (fun s7 => ?_)
          refine jq_aload_n Γ dX11_begins_54 rfl 0 rfl (jq_at_0 at_M_0) ?_
          refine jq_iconst Γ dX11_begins_55 rfl ?_
          refine jq_putI Γ at_M_0 fl_RX11_154 rfl rfl dX11_begins_56 (fun s8 => ?_)
          refine jq_aload_n Γ dX11_begins_59 rfl 0 rfl (jq_at_0 at_M_0) ?_
          refine jq_iconst Γ dX11_begins_60 rfl ?_
          refine jq_putI Γ at_M_0 fl_RX11_41 rfl rfl dX11_begins_61 (fun s9 => ?_)
          refine jq_aload_n Γ dX11_begins_64 rfl 0 rfl (jq_at_0 at_M_0) ?_
          refine jq_iconst Γ dX11_begins_65 rfl ?_
          refine jq_putI Γ at_M_0 fl_RX11_117 rfl rfl dX11_begins_66 (fun s10 => ?_)
          refine jq_aload_n Γ dX11_begins_69 rfl 0 rfl (jq_at_0 at_M_0) ?_
          refine jq_iconst Γ dX11_begins_70 rfl ?_
          refine jq_putI Γ at_M_0 fl_RX11_157 rfl rfl dX11_begins_71 (fun s11 => ?_)
          refine jq_aload_n Γ dX11_begins_74 rfl 0 rfl (jq_at_0 at_M_0) ?_
          refine jq_cwV (jq_virt (avs := []) (st := []) Γ hlY rfl ml_RX11_160 rfl at_M_0 rfl rfl rfl rfl rfl dX11_begins_75) (fun σ' h => ctX11_ahead h) (fun s12 => ?_)
          refine jq_iconst Γ dX11_begins_78 rfl ?_
          exact jq_zreturn Γ (Or.inr rfl) dX11_begins_79 (hK0 _)
      · refine jq_iconst Γ dX11_begins_17 rfl ?_
        exact jq_zreturn Γ (Or.inl rfl) dX11_begins_18 (hK0 _)


theorem dX11_wantSign_0 : decode cX11_wantSign 0 = .ok (.aload_n 0, 1) := by decide +kernel
theorem dX11_wantSign_1 : decode cX11_wantSign 1 = .ok (.iload_n 1, 1) := by decide +kernel
theorem dX11_wantSign_2 : decode cX11_wantSign 2 = .ok (.invokevirtual 163, 3) := by decide +kernel
theorem dX11_wantSign_5 : decode cX11_wantSign 5 = .ok (.ifCond .ne 9, 3) := by decide +kernel
theorem dX11_wantSign_8 : decode cX11_wantSign 8 = .ok (.aload_n 0, 1) := by decide +kernel
theorem dX11_wantSign_9 : decode cX11_wantSign 9 = .ok (.iconst 2, 1) := by decide +kernel
theorem dX11_wantSign_10 : decode cX11_wantSign 10 = .ok (.invokevirtual 166, 3) := by decide +kernel
theorem dX11_wantSign_13 : decode cX11_wantSign 13 = .ok (.ireturn, 1) := by decide +kernel
theorem dX11_wantSign_14 : decode cX11_wantSign 14 = .ok (.aload_n 0, 1) := by decide +kernel
theorem dX11_wantSign_15 : decode cX11_wantSign 15 = .ok (.invokevirtual 160, 3) := by decide +kernel
theorem dX11_wantSign_18 : decode cX11_wantSign 18 = .ok (.iconst 1, 1) := by decide +kernel
theorem dX11_wantSign_19 : decode cX11_wantSign 19 = .ok (.ireturn, 1) := by decide +kernel
set_option maxHeartbeats 4000000 in
set_option maxRecDepth 100000 in
theorem ctX11_wantSign {p1 : Int} {σ : jq_M} {res : Int} {σ' : jq_M}  (h : X11_wantSign p1 σ = some (res, σ')) : jq_MC jq_zM yX11_wantSign cX11_wantSign 2 (some .boolean) 3 82 [jR 0, jI p1] σ (some (jI res)) σ' := by
  refine jq_met (own := RX11) (L0 := [(0, jR 0), (1, jI p1)]) (by decide) rfl rfl rfl ?_
  intro X Γ hnl hlY hRT
  refine jq_use2 (P := fun r => jq_RT jq_zM X (some .boolean) (some (jI r.1)) r.2) ?_ h hRT
  intro K0 hK0
  unfold X11_wantSign
  refine jq_aload_n Γ dX11_wantSign_0 rfl 0 rfl (jq_at_0 at_M_0) ?_
  refine jq_iload_n Γ dX11_wantSign_1 rfl 1 rfl ?_
  refine jq_cpZ (jq_virt (avs := [jI p1]) (st := []) Γ hlY rfl ml_RX11_163 rfl at_M_0 rfl rfl rfl rfl rfl dX11_wantSign_2) rfl (fun r h => ctX11_isSign h) (fun v1 hz2 => ?_)
  refine jq_if_ne (tgt := 14) Γ dX11_wantSign_5 rfl ?_ ?_
  · refine jq_aload_n Γ dX11_wantSign_14 rfl 0 rfl (jq_at_0 at_M_0) ?_
    refine jq_cwV (jq_virt (avs := []) (st := []) Γ hlY rfl ml_RX11_160 rfl at_M_0 rfl rfl rfl rfl rfl dX11_wantSign_15) (fun σ' h => ctX11_ahead h) (fun s3 => ?_)
    refine jq_iconst Γ dX11_wantSign_18 rfl ?_
    exact jq_zreturn Γ (Or.inr rfl) dX11_wantSign_19 (hK0 _)
  · refine jq_aload_n Γ dX11_wantSign_8 rfl 0 rfl (jq_at_0 at_M_0) ?_
    refine jq_iconst Γ dX11_wantSign_9 rfl ?_
    refine jq_cwZ (jq_virt (avs := [jI 2]) (st := []) Γ hlY rfl ml_RX11_166 rfl at_M_0 rfl rfl rfl rfl rfl dX11_wantSign_10) rfl (fun r σ' h => ctX11_fails h) (fun v4 s5 hz6 => ?_)
    exact jq_zreturn Γ (hz6) dX11_wantSign_13 (hK0 _)


theorem dX11_wantWord_0 : decode cX11_wantWord 0 = .ok (.aload_n 0, 1) := by decide +kernel
theorem dX11_wantWord_1 : decode cX11_wantWord 1 = .ok (.aload_n 1, 1) := by decide +kernel
theorem dX11_wantWord_2 : decode cX11_wantWord 2 = .ok (.invokevirtual 169, 3) := by decide +kernel
theorem dX11_wantWord_5 : decode cX11_wantWord 5 = .ok (.iload_n 2, 1) := by decide +kernel
theorem dX11_wantWord_6 : decode cX11_wantWord 6 = .ok (.if_icmp .eq 9, 3) := by decide +kernel
theorem dX11_wantWord_9 : decode cX11_wantWord 9 = .ok (.aload_n 0, 1) := by decide +kernel
theorem dX11_wantWord_10 : decode cX11_wantWord 10 = .ok (.iconst 2, 1) := by decide +kernel
theorem dX11_wantWord_11 : decode cX11_wantWord 11 = .ok (.invokevirtual 166, 3) := by decide +kernel
theorem dX11_wantWord_14 : decode cX11_wantWord 14 = .ok (.ireturn, 1) := by decide +kernel
theorem dX11_wantWord_15 : decode cX11_wantWord 15 = .ok (.aload_n 0, 1) := by decide +kernel
theorem dX11_wantWord_16 : decode cX11_wantWord 16 = .ok (.invokevirtual 160, 3) := by decide +kernel
theorem dX11_wantWord_19 : decode cX11_wantWord 19 = .ok (.iconst 1, 1) := by decide +kernel
theorem dX11_wantWord_20 : decode cX11_wantWord 20 = .ok (.ireturn, 1) := by decide +kernel
set_option maxHeartbeats 4000000 in
set_option maxRecDepth 100000 in
theorem ctX11_wantWord {p2 : Int} {σ : jq_M} {res : Int} {σ' : jq_M}  (h : X11_wantWord p2 σ = some (res, σ')) : jq_MC jq_zM yX11_wantWord cX11_wantWord 3 (some .boolean) 6 151 [jR 0, jT 0, jI p2] σ (some (jI res)) σ' := by
  refine jq_met (own := RX11) (L0 := [(0, jR 0), (1, jT 0), (2, jI p2)]) (by decide) rfl rfl rfl ?_
  intro X Γ hnl hlY hRT
  refine jq_use2 (P := fun r => jq_RT jq_zM X (some .boolean) (some (jI r.1)) r.2) ?_ h hRT
  intro K0 hK0
  unfold X11_wantWord
  refine jq_aload_n Γ dX11_wantWord_0 rfl 0 rfl (jq_at_0 at_M_0) ?_
  refine jq_aloadT_n Γ dX11_wantWord_1 rfl 1 rfl (Or.inl rfl) ?_
  refine jq_cpI (jq_virt (avs := [jT 0]) (st := []) Γ hlY rfl ml_RX11_169 rfl at_M_0 rfl rfl rfl rfl rfl dX11_wantWord_2) (fun r h => ctX11_inWords h) (fun v1 => ?_)
  refine jq_iload_n Γ dX11_wantWord_5 rfl 2 rfl ?_
  refine jq_icmp_eq (tgt := 15) Γ dX11_wantWord_6 rfl ?_ ?_
  · refine jq_aload_n Γ dX11_wantWord_15 rfl 0 rfl (jq_at_0 at_M_0) ?_
    refine jq_cwV (jq_virt (avs := []) (st := []) Γ hlY rfl ml_RX11_160 rfl at_M_0 rfl rfl rfl rfl rfl dX11_wantWord_16) (fun σ' h => ctX11_ahead h) (fun s2 => ?_)
    refine jq_iconst Γ dX11_wantWord_19 rfl ?_
    exact jq_zreturn Γ (Or.inr rfl) dX11_wantWord_20 (hK0 _)
  · refine jq_aload_n Γ dX11_wantWord_9 rfl 0 rfl (jq_at_0 at_M_0) ?_
    refine jq_iconst Γ dX11_wantWord_10 rfl ?_
    refine jq_cwZ (jq_virt (avs := [jI 2]) (st := []) Γ hlY rfl ml_RX11_166 rfl at_M_0 rfl rfl rfl rfl rfl dX11_wantWord_11) rfl (fun r σ' h => ctX11_fails h) (fun v3 s4 hz5 => ?_)
    exact jq_zreturn Γ (hz5) dX11_wantWord_14 (hK0 _)


theorem dX11_number_0 : decode cX11_number 0 = .ok (.aload_n 0, 1) := by decide +kernel
theorem dX11_number_1 : decode cX11_number 1 = .ok (.getfield 129, 3) := by decide +kernel
theorem dX11_number_4 : decode cX11_number 4 = .ok (.iconst 3, 1) := by decide +kernel
theorem dX11_number_5 : decode cX11_number 5 = .ok (.if_icmp .eq 9, 3) := by decide +kernel
theorem dX11_number_8 : decode cX11_number 8 = .ok (.aload_n 0, 1) := by decide +kernel
theorem dX11_number_9 : decode cX11_number 9 = .ok (.iconst 2, 1) := by decide +kernel
theorem dX11_number_10 : decode cX11_number 10 = .ok (.invokevirtual 166, 3) := by decide +kernel
theorem dX11_number_13 : decode cX11_number 13 = .ok (.ireturn, 1) := by decide +kernel
theorem dX11_number_14 : decode cX11_number 14 = .ok (.aload_n 0, 1) := by decide +kernel
theorem dX11_number_15 : decode cX11_number 15 = .ok (.getfield 126, 3) := by decide +kernel
theorem dX11_number_18 : decode cX11_number 18 = .ok (.iload_n 2, 1) := by decide +kernel
theorem dX11_number_19 : decode cX11_number 19 = .ok (.if_icmp .lt 11, 3) := by decide +kernel
theorem dX11_number_22 : decode cX11_number 22 = .ok (.aload_n 0, 1) := by decide +kernel
theorem dX11_number_23 : decode cX11_number 23 = .ok (.getfield 126, 3) := by decide +kernel
theorem dX11_number_26 : decode cX11_number 26 = .ok (.iload_n 3, 1) := by decide +kernel
theorem dX11_number_27 : decode cX11_number 27 = .ok (.if_icmp .le 9, 3) := by decide +kernel
theorem dX11_number_30 : decode cX11_number 30 = .ok (.aload_n 0, 1) := by decide +kernel
theorem dX11_number_31 : decode cX11_number 31 = .ok (.iconst 4, 1) := by decide +kernel
theorem dX11_number_32 : decode cX11_number 32 = .ok (.invokevirtual 166, 3) := by decide +kernel
theorem dX11_number_35 : decode cX11_number 35 = .ok (.ireturn, 1) := by decide +kernel
theorem dX11_number_36 : decode cX11_number 36 = .ok (.aload_n 0, 1) := by decide +kernel
theorem dX11_number_37 : decode cX11_number 37 = .ok (.getfield 7, 3) := by decide +kernel
theorem dX11_number_40 : decode cX11_number 40 = .ok (.iload_n 1, 1) := by decide +kernel
theorem dX11_number_41 : decode cX11_number 41 = .ok (.aload_n 0, 1) := by decide +kernel
theorem dX11_number_42 : decode cX11_number 42 = .ok (.getfield 126, 3) := by decide +kernel
theorem dX11_number_45 : decode cX11_number 45 = .ok (.iastore, 1) := by decide +kernel
theorem dX11_number_46 : decode cX11_number 46 = .ok (.aload_n 0, 1) := by decide +kernel
theorem dX11_number_47 : decode cX11_number 47 = .ok (.invokevirtual 160, 3) := by decide +kernel
theorem dX11_number_50 : decode cX11_number 50 = .ok (.iconst 1, 1) := by decide +kernel
theorem dX11_number_51 : decode cX11_number 51 = .ok (.ireturn, 1) := by decide +kernel
set_option maxHeartbeats 4000000 in
set_option maxRecDepth 100000 in
theorem ctX11_number {p1 : Int} {p2 : Int} {p3 : Int} {σ : jq_M} {res : Int} {σ' : jq_M}  (h : X11_number p1 p2 p3 σ = some (res, σ')) : jq_MC jq_zM yX11_number cX11_number 4 (some .boolean) 3 82 [jR 0, jI p1, jI p2, jI p3] σ (some (jI res)) σ' := by
  refine jq_met (own := RX11) (L0 := [(0, jR 0), (1, jI p1), (2, jI p2), (3, jI p3)]) (by decide) rfl rfl rfl ?_
  intro X Γ hnl hlY hRT
  refine jq_use2 (P := fun r => jq_RT jq_zM X (some .boolean) (some (jI r.1)) r.2) ?_ h hRT
  intro K0 hK0
  unfold X11_number
  have hj30_0 : ∀ (s1 : jq_M), jq_J (X11_number_j30 s1) K0 (jq_V jq_zM X (jq_zN jq_zM) s1 30 [(0, jR 0)] []) := by
    intro s1
    unfold X11_number_j30
    refine jq_aload_n Γ dX11_number_30 rfl 0 rfl (jq_at_0 at_M_0) ?_
    refine jq_iconst Γ dX11_number_31 rfl ?_
    refine jq_cwZ (jq_virt (avs := [jI 4]) (st := []) Γ hlY rfl ml_RX11_166 rfl at_M_0 rfl rfl rfl rfl rfl dX11_number_32) rfl (fun r σ' h => ctX11_fails h) (fun v2 s3 hz4 => ?_)
    exact jq_zreturn Γ (hz4) dX11_number_35 (hK0 _)
  refine jq_aload_n Γ dX11_number_0 rfl 0 rfl (jq_at_0 at_M_0) ?_
  refine jq_getI (J := 12) Γ at_M_0 fl_RX11_129 rfl rfl dX11_number_1 ?_
  refine jq_iconst Γ dX11_number_4 rfl ?_
  refine jq_icmp_eq (tgt := 14) Γ dX11_number_5 rfl ?_ ?_
  · refine jq_aload_n Γ dX11_number_14 rfl 0 rfl (jq_at_0 at_M_0) ?_
    refine jq_getI (J := 15) Γ at_M_0 fl_RX11_126 rfl rfl dX11_number_15 ?_
    refine jq_iload_n Γ dX11_number_18 rfl 2 rfl ?_
    refine jq_icmp_lt (tgt := 30) Γ dX11_number_19 rfl ?_ ?_
    · refine jq_sub Γ (L' := [(0, jR 0)]) [0] rfl ?_
      exact hj30_0 σ
    · refine jq_aload_n Γ dX11_number_22 rfl 0 rfl (jq_at_0 at_M_0) ?_
      refine jq_getI (J := 15) Γ at_M_0 fl_RX11_126 rfl rfl dX11_number_23 ?_
      refine jq_iload_n Γ dX11_number_26 rfl 3 rfl ?_
      refine jq_icmp_le (tgt := 36) Γ dX11_number_27 rfl ?_ ?_
      · refine jq_aload_n Γ dX11_number_36 rfl 0 rfl (jq_at_0 at_M_0) ?_
        refine jq_getR (v := 1) Γ hlY at_M_0 fl_RX11_7 rfl rfl ly_X11_at dX11_number_37 ?_
        refine jq_iload_n Γ dX11_number_40 rfl 1 rfl ?_
        refine jq_aload_n Γ dX11_number_41 rfl 0 rfl (jq_at_0 at_M_0) ?_
        refine jq_getI (J := 15) Γ at_M_0 fl_RX11_126 rfl rfl dX11_number_42 ?_
        refine jq_iast Γ at_M_1 rfl dX11_number_45 (fun s5 => ?_)
        refine jq_aload_n Γ dX11_number_46 rfl 0 rfl (jq_at_0 at_M_0) ?_
        refine jq_cwV (jq_virt (avs := []) (st := []) Γ hlY rfl ml_RX11_160 rfl at_M_0 rfl rfl rfl rfl rfl dX11_number_47) (fun σ' h => ctX11_ahead h) (fun s6 => ?_)
        refine jq_iconst Γ dX11_number_50 rfl ?_
        exact jq_zreturn Γ (Or.inr rfl) dX11_number_51 (hK0 _)
      · refine jq_sub Γ (L' := [(0, jR 0)]) [0] rfl ?_
        exact hj30_0 σ
  · refine jq_aload_n Γ dX11_number_8 rfl 0 rfl (jq_at_0 at_M_0) ?_
    refine jq_iconst Γ dX11_number_9 rfl ?_
    refine jq_cwZ (jq_virt (avs := [jI 2]) (st := []) Γ hlY rfl ml_RX11_166 rfl at_M_0 rfl rfl rfl rfl rfl dX11_number_10) rfl (fun r σ' h => ctX11_fails h) (fun v7 s8 hz9 => ?_)
    exact jq_zreturn Γ (hz9) dX11_number_13 (hK0 _)


theorem dX11_isName_0 : decode cX11_isName 0 = .ok (.aload_n 0, 1) := by decide +kernel
theorem dX11_isName_1 : decode cX11_isName 1 = .ok (.getfield 129, 3) := by decide +kernel
theorem dX11_isName_4 : decode cX11_isName 4 = .ok (.iconst 2, 1) := by decide +kernel
theorem dX11_isName_5 : decode cX11_isName 5 = .ok (.if_icmp .ne 30, 3) := by decide +kernel
theorem dX11_isName_8 : decode cX11_isName 8 = .ok (.aload_n 0, 1) := by decide +kernel
theorem dX11_isName_9 : decode cX11_isName 9 = .ok (.getfield 117, 3) := by decide +kernel
theorem dX11_isName_12 : decode cX11_isName 12 = .ok (.aload_n 0, 1) := by decide +kernel
theorem dX11_isName_13 : decode cX11_isName 13 = .ok (.getfield 123, 3) := by decide +kernel
theorem dX11_isName_16 : decode cX11_isName 16 = .ok (.isub, 1) := by decide +kernel
theorem dX11_isName_17 : decode cX11_isName 17 = .ok (.bipush 8, 2) := by decide +kernel
theorem dX11_isName_19 : decode cX11_isName 19 = .ok (.if_icmp .gt 16, 3) := by decide +kernel
theorem dX11_isName_22 : decode cX11_isName 22 = .ok (.aload_n 0, 1) := by decide +kernel
theorem dX11_isName_23 : decode cX11_isName 23 = .ok (.aload_n 1, 1) := by decide +kernel
theorem dX11_isName_24 : decode cX11_isName 24 = .ok (.invokevirtual 169, 3) := by decide +kernel
theorem dX11_isName_27 : decode cX11_isName 27 = .ok (.iconst (-1), 1) := by decide +kernel
theorem dX11_isName_28 : decode cX11_isName 28 = .ok (.if_icmp .ne 7, 3) := by decide +kernel
theorem dX11_isName_31 : decode cX11_isName 31 = .ok (.iconst 1, 1) := by decide +kernel
theorem dX11_isName_32 : decode cX11_isName 32 = .ok (.goto 4, 3) := by decide +kernel
theorem dX11_isName_35 : decode cX11_isName 35 = .ok (.iconst 0, 1) := by decide +kernel
theorem dX11_isName_36 : decode cX11_isName 36 = .ok (.ireturn, 1) := by decide +kernel
set_option maxHeartbeats 4000000 in
set_option maxRecDepth 100000 in
theorem ctX11_isName  {σ : jq_M} {res : Int}  (h : X11_isName σ = some res) : jq_MC jq_zM yX11_isName cX11_isName 2 (some .boolean) 6 151 [jR 0, jT 0] σ (some (jI res)) σ := by
  refine jq_met (own := RX11) (L0 := [(0, jR 0), (1, jT 0)]) (by decide) rfl rfl rfl ?_
  intro X Γ hnl hlY hRT
  refine jq_use2 (P := fun r => jq_RT jq_zM X (some .boolean) (some (jI r)) σ) ?_ h hRT
  intro K0 hK0
  unfold X11_isName
  refine jq_aload_n Γ dX11_isName_0 rfl 0 rfl (jq_at_0 at_M_0) ?_
  refine jq_getI (J := 12) Γ at_M_0 fl_RX11_129 rfl rfl dX11_isName_1 ?_
  refine jq_iconst Γ dX11_isName_4 rfl ?_
  refine jq_icmp_ne (tgt := 35) Γ dX11_isName_5 rfl ?_ ?_
  · refine jq_iconst Γ dX11_isName_35 rfl ?_
    exact jq_zreturn Γ (Or.inl rfl) dX11_isName_36 (hK0 _)
  · refine jq_aload_n Γ dX11_isName_8 rfl 0 rfl (jq_at_0 at_M_0) ?_
    refine jq_getI (J := 14) Γ at_M_0 fl_RX11_117 rfl rfl dX11_isName_9 ?_
    refine jq_aload_n Γ dX11_isName_12 rfl 0 rfl (jq_at_0 at_M_0) ?_
    refine jq_getI (J := 13) Γ at_M_0 fl_RX11_123 rfl rfl dX11_isName_13 ?_
    refine jq_isub Γ dX11_isName_16 ?_
    refine jq_bipush Γ dX11_isName_17 rfl ?_
    refine jq_icmp_gt (tgt := 35) Γ dX11_isName_19 rfl ?_ ?_
    · refine jq_iconst Γ dX11_isName_35 rfl ?_
      exact jq_zreturn Γ (Or.inl rfl) dX11_isName_36 (hK0 _)
    · refine jq_aload_n Γ dX11_isName_22 rfl 0 rfl (jq_at_0 at_M_0) ?_
      refine jq_aloadT_n Γ dX11_isName_23 rfl 1 rfl (Or.inl rfl) ?_
      refine jq_cpI (jq_virt (avs := [jT 0]) (st := []) Γ hlY rfl ml_RX11_169 rfl at_M_0 rfl rfl rfl rfl rfl dX11_isName_24) (fun r h => ctX11_inWords h) (fun v1 => ?_)
      refine jq_iconst Γ dX11_isName_27 rfl ?_
      refine jq_icmp_ne (tgt := 35) Γ dX11_isName_28 rfl ?_ ?_
      · refine jq_iconst Γ dX11_isName_35 rfl ?_
        exact jq_zreturn Γ (Or.inl rfl) dX11_isName_36 (hK0 _)
      · refine jq_iconst Γ dX11_isName_31 rfl ?_
        refine jq_goto Γ (tgt := 36) dX11_isName_32 rfl ?_
        exact jq_zreturn Γ (Or.inr rfl) dX11_isName_36 (hK0 _)


theorem dX11_nameHere_0 : decode cX11_nameHere 0 = .ok (.lconst 0, 1) := by decide +kernel
theorem dX11_nameHere_1 : decode cX11_nameHere 1 = .ok (.lstore_n 1, 1) := by decide +kernel
theorem dX11_nameHere_2 : decode cX11_nameHere 2 = .ok (.aload_n 0, 1) := by decide +kernel
theorem dX11_nameHere_3 : decode cX11_nameHere 3 = .ok (.getfield 123, 3) := by decide +kernel
theorem dX11_nameHere_6 : decode cX11_nameHere 6 = .ok (.istore_n 3, 1) := by decide +kernel
theorem dX11_nameHere_7 : decode cX11_nameHere 7 = .ok (.iload_n 3, 1) := by decide +kernel
theorem dX11_nameHere_8 : decode cX11_nameHere 8 = .ok (.aload_n 0, 1) := by decide +kernel
theorem dX11_nameHere_9 : decode cX11_nameHere 9 = .ok (.getfield 117, 3) := by decide +kernel
theorem dX11_nameHere_12 : decode cX11_nameHere 12 = .ok (.if_icmp .ge 21, 3) := by decide +kernel
theorem dX11_nameHere_15 : decode cX11_nameHere 15 = .ok (.lload_n 1, 1) := by decide +kernel
theorem dX11_nameHere_16 : decode cX11_nameHere 16 = .ok (.bipush 8, 2) := by decide +kernel
theorem dX11_nameHere_18 : decode cX11_nameHere 18 = .ok (.lshl, 1) := by decide +kernel
theorem dX11_nameHere_19 : decode cX11_nameHere 19 = .ok (.aload_n 0, 1) := by decide +kernel
theorem dX11_nameHere_20 : decode cX11_nameHere 20 = .ok (.iload_n 3, 1) := by decide +kernel
theorem dX11_nameHere_21 : decode cX11_nameHere 21 = .ok (.invokevirtual 120, 3) := by decide +kernel
theorem dX11_nameHere_24 : decode cX11_nameHere 24 = .ok (.i2l, 1) := by decide +kernel
theorem dX11_nameHere_25 : decode cX11_nameHere 25 = .ok (.lor, 1) := by decide +kernel
theorem dX11_nameHere_26 : decode cX11_nameHere 26 = .ok (.lstore_n 1, 1) := by decide +kernel
theorem dX11_nameHere_27 : decode cX11_nameHere 27 = .ok (.iinc 3 1, 3) := by decide +kernel
theorem dX11_nameHere_30 : decode cX11_nameHere 30 = .ok (.goto (-23), 3) := by decide +kernel
theorem dX11_nameHere_33 : decode cX11_nameHere 33 = .ok (.lload_n 1, 1) := by decide +kernel
theorem dX11_nameHere_34 : decode cX11_nameHere 34 = .ok (.lreturn, 1) := by decide +kernel
set_option maxHeartbeats 4000000 in
set_option maxRecDepth 100000 in
theorem ctX11_nameHere  {σ : jq_M} {res : Int}  (h : X11_nameHere σ = some res) : jq_MC jq_zM yX11_nameHere cX11_nameHere 4 (some .long) 2 61 [jR 0] σ (some (jL res)) σ := by
  refine jq_met (own := RX11) (L0 := [(0, jR 0)]) (by decide) rfl rfl rfl ?_
  intro X Γ hnl hlY hRT
  refine jq_use2 (P := fun r => jq_RT jq_zM X (some .long) (some (jL r)) σ) ?_ h hRT
  intro K0 hK0
  unfold X11_nameHere
  refine jq_lconst Γ 0 dX11_nameHere_0 rfl rfl ?_
  refine jq_lstore_n (L' := [(1, jL 0), (0, jR 0)]) Γ dX11_nameHere_1 rfl hnl rfl rfl ?_
  refine jq_aload_n Γ dX11_nameHere_2 rfl 1 rfl (jq_at_0 at_M_0) ?_
  refine jq_getI (J := 13) Γ at_M_0 fl_RX11_123 rfl rfl dX11_nameHere_3 ?_
  refine jq_nmI (fun v1 => ?_)
  refine jq_istore_n (L' := [(3, jI v1), (1, jL 0), (0, jR 0)]) Γ dX11_nameHere_6 rfl hnl rfl rfl ?_
  refine jq_sub Γ (L' := [(0, jR 0), (1, jL 0), (3, jI v1)]) [2, 1, 0] rfl ?_
  refine jq_loop2 (C := fun (t2 : Int × Int) => jq_V jq_zM X (jq_zN jq_zM) σ 7 [(0, jR 0), (1, jL t2.1), (3, jI t2.2)] []) (KX := fun (e6 : Int) => jq_V jq_zM X (jq_zN jq_zM) σ 33 [(1, jL e6)] []) ?_ ?_ (0, v1)
  · intro K7_t2 hCt2 hXt2 t2
    unfold X11_nameHere_b7
    refine jq_iload_n Γ dX11_nameHere_7 rfl 2 rfl ?_
    refine jq_aload_n Γ dX11_nameHere_8 rfl 0 rfl (jq_at_0 at_M_0) ?_
    refine jq_getI (J := 14) Γ at_M_0 fl_RX11_117 rfl rfl dX11_nameHere_9 ?_
    refine jq_icmp_ge (tgt := 33) Γ dX11_nameHere_12 rfl ?_ ?_
    · refine jq_sub Γ (L' := [(1, jL t2.1)]) [1] rfl ?_
      exact jq_done (hXt2 t2.1)
    · refine jq_lload_n Γ dX11_nameHere_15 rfl 1 rfl ?_
      refine jq_bipush Γ dX11_nameHere_16 rfl ?_
      refine jq_lshl Γ dX11_nameHere_18 ?_
      refine jq_aload_n Γ dX11_nameHere_19 rfl 0 rfl (jq_at_0 at_M_0) ?_
      refine jq_iload_n Γ dX11_nameHere_20 rfl 2 rfl ?_
      refine jq_cpI (jq_virt (avs := [jI t2.2]) (st := [jL (jq_shll t2.1 8)]) Γ hlY rfl ml_RX11_120 rfl at_M_0 rfl rfl rfl rfl rfl dX11_nameHere_21) (fun r h => ctX11_byteAt h) (fun v3 => ?_)
      refine jq_i2l Γ dX11_nameHere_24 ?_
      refine jq_lor Γ dX11_nameHere_25 ?_
      refine jq_nmL (fun v4 => ?_)
      refine jq_lstore_n (L' := [(1, jL v4), (0, jR 0), (3, jI t2.2)]) Γ dX11_nameHere_26 rfl hnl rfl rfl ?_
      refine jq_iincN (L' := fun v5 => [(3, jI v5), (1, jL v4), (0, jR 0)]) Γ dX11_nameHere_27 2 rfl hnl rfl (fun _ => rfl) (fun v5 => ?_)
      refine jq_goto Γ (tgt := 7) dX11_nameHere_30 rfl ?_
      refine jq_sub Γ (L' := [(0, jR 0), (1, jL v4), (3, jI v5)]) [2, 1, 0] rfl ?_
      exact jq_done (hCt2 (v4, v5))
  · intro e6
    refine jq_lload_n Γ dX11_nameHere_33 rfl 0 rfl ?_
    exact jq_lreturn Γ dX11_nameHere_34 (hK0 _)


theorem dX11_findHere_0 : decode cX11_findHere 0 = .ok (.iconst 0, 1) := by decide +kernel
theorem dX11_findHere_1 : decode cX11_findHere 1 = .ok (.istore_n 3, 1) := by decide +kernel
theorem dX11_findHere_2 : decode cX11_findHere 2 = .ok (.iload_n 3, 1) := by decide +kernel
theorem dX11_findHere_3 : decode cX11_findHere 3 = .ok (.iload_n 2, 1) := by decide +kernel
theorem dX11_findHere_4 : decode cX11_findHere 4 = .ok (.if_icmp .ge 27, 3) := by decide +kernel
theorem dX11_findHere_7 : decode cX11_findHere 7 = .ok (.aload_n 0, 1) := by decide +kernel
theorem dX11_findHere_8 : decode cX11_findHere 8 = .ok (.getfield 13, 3) := by decide +kernel
theorem dX11_findHere_11 : decode cX11_findHere 11 = .ok (.iload_n 1, 1) := by decide +kernel
theorem dX11_findHere_12 : decode cX11_findHere 12 = .ok (.iload_n 3, 1) := by decide +kernel
theorem dX11_findHere_13 : decode cX11_findHere 13 = .ok (.iadd, 1) := by decide +kernel
theorem dX11_findHere_14 : decode cX11_findHere 14 = .ok (.laload, 1) := by decide +kernel
theorem dX11_findHere_15 : decode cX11_findHere 15 = .ok (.aload_n 0, 1) := by decide +kernel
theorem dX11_findHere_16 : decode cX11_findHere 16 = .ok (.invokevirtual 173, 3) := by decide +kernel
theorem dX11_findHere_19 : decode cX11_findHere 19 = .ok (.lcmp, 1) := by decide +kernel
theorem dX11_findHere_20 : decode cX11_findHere 20 = .ok (.ifCond .ne 5, 3) := by decide +kernel
theorem dX11_findHere_23 : decode cX11_findHere 23 = .ok (.iload_n 3, 1) := by decide +kernel
theorem dX11_findHere_24 : decode cX11_findHere 24 = .ok (.ireturn, 1) := by decide +kernel
theorem dX11_findHere_25 : decode cX11_findHere 25 = .ok (.iinc 3 1, 3) := by decide +kernel
theorem dX11_findHere_28 : decode cX11_findHere 28 = .ok (.goto (-26), 3) := by decide +kernel
theorem dX11_findHere_31 : decode cX11_findHere 31 = .ok (.iconst (-1), 1) := by decide +kernel
theorem dX11_findHere_32 : decode cX11_findHere 32 = .ok (.ireturn, 1) := by decide +kernel
set_option maxHeartbeats 4000000 in
set_option maxRecDepth 100000 in
theorem ctX11_findHere {p1 : Int} {p2 : Int} {σ : jq_M} {res : Int}  (h : X11_findHere p1 p2 σ = some res) : jq_MC jq_zM yX11_findHere cX11_findHere 4 (some .int) 3 84 [jR 0, jI p1, jI p2] σ (some (jI res)) σ := by
  refine jq_met (own := RX11) (L0 := [(0, jR 0), (1, jI p1), (2, jI p2)]) (by decide) rfl rfl rfl ?_
  intro X Γ hnl hlY hRT
  refine jq_use2 (P := fun r => jq_RT jq_zM X (some .int) (some (jI r)) σ) ?_ h hRT
  intro K0 hK0
  unfold X11_findHere
  refine jq_iconst Γ dX11_findHere_0 rfl ?_
  refine jq_istore_n (L' := [(3, jI 0), (0, jR 0), (1, jI p1), (2, jI p2)]) Γ dX11_findHere_1 rfl hnl rfl rfl ?_
  refine jq_sub Γ (L' := [(0, jR 0), (1, jI p1), (2, jI p2), (3, jI 0)]) [1, 2, 3, 0] rfl ?_
  refine jq_loop2 (C := fun (t1 : Int) => jq_V jq_zM X (jq_zN jq_zM) σ 2 [(0, jR 0), (1, jI p1), (2, jI p2), (3, jI t1)] []) (KX := Sum.elim (fun (e5 : Int) => jq_V jq_zM X (jq_zN jq_zM) σ 23 [(3, jI e5)] []) (fun (e6 : Unit) => jq_V jq_zM X (jq_zN jq_zM) σ 31 [] [])) ?_ ?_ 0
  · intro K2_t1 hCt1 hXt1 t1
    unfold X11_findHere_b2
    refine jq_iload_n Γ dX11_findHere_2 rfl 3 rfl ?_
    refine jq_iload_n Γ dX11_findHere_3 rfl 2 rfl ?_
    refine jq_icmp_ge (tgt := 31) Γ dX11_findHere_4 rfl ?_ ?_
    · refine jq_sub Γ (L' := []) [] rfl ?_
      exact jq_done (hXt1 (.inr ()))
    · refine jq_aload_n Γ dX11_findHere_7 rfl 0 rfl (jq_at_0 at_M_0) ?_
      refine jq_getR (v := 2) Γ hlY at_M_0 fl_RX11_13 rfl rfl ly_X11_names dX11_findHere_8 ?_
      refine jq_iload_n Γ dX11_findHere_11 rfl 1 rfl ?_
      refine jq_iload_n Γ dX11_findHere_12 rfl 3 rfl ?_
      refine jq_iadd Γ dX11_findHere_13 ?_
      refine jq_lald Γ at_M_2 rfl dX11_findHere_14 (fun v2 => ?_)
      refine jq_aload_n Γ dX11_findHere_15 rfl 0 rfl (jq_at_0 at_M_0) ?_
      refine jq_cpL (jq_virt (avs := []) (st := [jL v2]) Γ hlY rfl ml_RX11_173 rfl at_M_0 rfl rfl rfl rfl rfl dX11_findHere_16) (fun r h => ctX11_nameHere h) (fun v3 => ?_)
      refine jq_lcmp Γ dX11_findHere_19 ?_
      refine jq_if_ne (tgt := 25) Γ dX11_findHere_20 rfl ?_ ?_
      · refine jq_iincN (L' := fun v4 => [(3, jI v4), (0, jR 0), (1, jI p1), (2, jI p2)]) Γ dX11_findHere_25 3 rfl hnl rfl (fun _ => rfl) (fun v4 => ?_)
        refine jq_goto Γ (tgt := 2) dX11_findHere_28 rfl ?_
        refine jq_sub Γ (L' := [(0, jR 0), (1, jI p1), (2, jI p2), (3, jI v4)]) [1, 2, 3, 0] rfl ?_
        exact jq_done (hCt1 v4)
      · refine jq_sub Γ (L' := [(3, jI t1)]) [3] rfl ?_
        exact jq_done (hXt1 (.inl t1))
  · refine jq_elim ?_ ?_
    · intro e5
      refine jq_iload_n Γ dX11_findHere_23 rfl 0 rfl ?_
      exact jq_ireturn Γ dX11_findHere_24 (hK0 _)
    · intro e6
      refine jq_iconst Γ dX11_findHere_31 rfl ?_
      exact jq_ireturn Γ dX11_findHere_32 (hK0 _)


theorem dX11_fault_0 : decode cX11_fault 0 = .ok (.iload_n 1, 1) := by decide +kernel
theorem dX11_fault_1 : decode cX11_fault 1 = .ok (.ifCond .ne 10, 3) := by decide +kernel
theorem dX11_fault_4 : decode cX11_fault 4 = .ok (.aload_n 0, 1) := by decide +kernel
theorem dX11_fault_5 : decode cX11_fault 5 = .ok (.getfield 37, 3) := by decide +kernel
theorem dX11_fault_8 : decode cX11_fault 8 = .ok (.goto 16, 3) := by decide +kernel
theorem dX11_fault_11 : decode cX11_fault 11 = .ok (.iload_n 1, 1) := by decide +kernel
theorem dX11_fault_12 : decode cX11_fault 12 = .ok (.iconst 1, 1) := by decide +kernel
theorem dX11_fault_13 : decode cX11_fault 13 = .ok (.if_icmp .ne 10, 3) := by decide +kernel
theorem dX11_fault_16 : decode cX11_fault 16 = .ok (.aload_n 0, 1) := by decide +kernel
theorem dX11_fault_17 : decode cX11_fault 17 = .ok (.getfield 41, 3) := by decide +kernel
theorem dX11_fault_20 : decode cX11_fault 20 = .ok (.goto 4, 3) := by decide +kernel
theorem dX11_fault_23 : decode cX11_fault 23 = .ok (.iconst (-1), 1) := by decide +kernel
theorem dX11_fault_24 : decode cX11_fault 24 = .ok (.ireturn, 1) := by decide +kernel
set_option maxHeartbeats 4000000 in
set_option maxRecDepth 100000 in
theorem ctX11_fault {p1 : Int} {σ : jq_M} {res : Int}  (h : X11_fault p1 σ = some res) : jq_MC jq_zM yX11_fault cX11_fault 2 (some .int) 1 40 [jR 0, jI p1] σ (some (jI res)) σ := by
  refine jq_met (own := RX11) (L0 := [(0, jR 0), (1, jI p1)]) (by decide) rfl rfl rfl ?_
  intro X Γ hnl hlY hRT
  refine jq_use2 (P := fun r => jq_RT jq_zM X (some .int) (some (jI r)) σ) ?_ h hRT
  intro K0 hK0
  unfold X11_fault
  refine jq_iload_n Γ dX11_fault_0 rfl 1 rfl ?_
  refine jq_if_ne (tgt := 11) Γ dX11_fault_1 rfl ?_ ?_
  · refine jq_iload_n Γ dX11_fault_11 rfl 1 rfl ?_
    refine jq_iconst Γ dX11_fault_12 rfl ?_
    refine jq_icmp_ne (tgt := 23) Γ dX11_fault_13 rfl ?_ ?_
    · refine jq_iconst Γ dX11_fault_23 rfl ?_
      exact jq_ireturn Γ dX11_fault_24 (hK0 _)
    · refine jq_aload_n Γ dX11_fault_16 rfl 0 rfl (jq_at_0 at_M_0) ?_
      refine jq_getI (J := 17) Γ at_M_0 fl_RX11_41 rfl rfl dX11_fault_17 ?_
      refine jq_goto Γ (tgt := 24) dX11_fault_20 rfl ?_
      exact jq_ireturn Γ dX11_fault_24 (hK0 _)
  · refine jq_aload_n Γ dX11_fault_4 rfl 0 rfl (jq_at_0 at_M_0) ?_
    refine jq_getI (J := 16) Γ at_M_0 fl_RX11_37 rfl rfl dX11_fault_5 ?_
    refine jq_goto Γ (tgt := 24) dX11_fault_8 rfl ?_
    exact jq_ireturn Γ dX11_fault_24 (hK0 _)


theorem dX11_taken_0 : decode cX11_taken 0 = .ok (.aload_n 0, 1) := by decide +kernel
theorem dX11_taken_1 : decode cX11_taken 1 = .ok (.aload_n 0, 1) := by decide +kernel
theorem dX11_taken_2 : decode cX11_taken 2 = .ok (.getfield 154, 3) := by decide +kernel
theorem dX11_taken_5 : decode cX11_taken 5 = .ok (.putfield 37, 3) := by decide +kernel
theorem dX11_taken_8 : decode cX11_taken 8 = .ok (.aload_n 0, 1) := by decide +kernel
theorem dX11_taken_9 : decode cX11_taken 9 = .ok (.getfield 154, 3) := by decide +kernel
theorem dX11_taken_12 : decode cX11_taken 12 = .ok (.ifCond .le 12, 3) := by decide +kernel
theorem dX11_taken_15 : decode cX11_taken 15 = .ok (.aload_n 0, 1) := by decide +kernel
theorem dX11_taken_16 : decode cX11_taken 16 = .ok (.bipush 9, 2) := by decide +kernel
theorem dX11_taken_18 : decode cX11_taken 18 = .ok (.invokevirtual 84, 3) := by decide +kernel
theorem dX11_taken_21 : decode cX11_taken 21 = .ok (.goto 8, 3) := by decide +kernel
theorem dX11_taken_24 : decode cX11_taken 24 = .ok (.aload_n 0, 1) := by decide +kernel
theorem dX11_taken_25 : decode cX11_taken 25 = .ok (.iload_n 1, 1) := by decide +kernel
theorem dX11_taken_26 : decode cX11_taken 26 = .ok (.invokevirtual 88, 3) := by decide +kernel
theorem dX11_taken_29 : decode cX11_taken 29 = .ok (.ireturn, 1) := by decide +kernel
set_option maxHeartbeats 4000000 in
set_option maxRecDepth 100000 in
theorem ctX11_taken {p1 : Int} {σ : jq_M} {res : Int} {σ' : jq_M}  (h : X11_taken p1 σ = some (res, σ')) : jq_MC jq_zM yX11_taken cX11_taken 2 (some .int) 2 61 [jR 0, jI p1] σ (some (jI res)) σ' := by
  refine jq_met (own := RX11) (L0 := [(0, jR 0), (1, jI p1)]) (by decide) rfl rfl rfl ?_
  intro X Γ hnl hlY hRT
  refine jq_use2 (P := fun r => jq_RT jq_zM X (some .int) (some (jI r.1)) r.2) ?_ h hRT
  intro K0 hK0
  unfold X11_taken
  refine jq_aload_n Γ dX11_taken_0 rfl 0 rfl (jq_at_0 at_M_0) ?_
  refine jq_aload_n Γ dX11_taken_1 rfl 0 rfl (jq_at_0 at_M_0) ?_
  refine jq_getI (J := 18) Γ at_M_0 fl_RX11_154 rfl rfl dX11_taken_2 ?_
  refine jq_putI Γ at_M_0 fl_RX11_37 rfl rfl dX11_taken_5 (fun s1 => ?_)
  refine jq_aload_n Γ dX11_taken_8 rfl 0 rfl (jq_at_0 at_M_0) ?_
  refine jq_getI (J := 18) Γ at_M_0 fl_RX11_154 rfl rfl dX11_taken_9 ?_
  refine jq_if_le (tgt := 24) Γ dX11_taken_12 rfl ?_ ?_
  · refine jq_aload_n Γ dX11_taken_24 rfl 0 rfl (jq_at_0 at_M_0) ?_
    refine jq_iload_n Γ dX11_taken_25 rfl 1 rfl ?_
    refine jq_cwI (jq_virt (avs := [jI p1]) (st := []) Γ hlY rfl ml_RX11_88 rfl at_M_0 rfl rfl rfl rfl rfl dX11_taken_26) (fun r σ' h => ctX11_gives h) (fun v2 s3 => ?_)
    exact jq_ireturn Γ dX11_taken_29 (hK0 _)
  · refine jq_aload_n Γ dX11_taken_15 rfl 0 rfl (jq_at_0 at_M_0) ?_
    refine jq_bipush Γ dX11_taken_16 rfl ?_
    refine jq_cwI (jq_virt (avs := [jI 9]) (st := []) Γ hlY rfl ml_RX11_84 rfl at_M_0 rfl rfl rfl rfl rfl dX11_taken_18) (fun r σ' h => ctX11_refuse h) (fun v4 s5 => ?_)
    refine jq_goto Γ (tgt := 29) dX11_taken_21 rfl ?_
    exact jq_ireturn Γ dX11_taken_29 (hK0 _)


theorem dX11_isThere_0 : decode cX11_isThere 0 = .ok (.aload_n 0, 1) := by decide +kernel
theorem dX11_isThere_1 : decode cX11_isThere 1 = .ok (.ldc 177, 2) := by decide +kernel
theorem dX11_isThere_3 : decode cX11_isThere 3 = .ok (.invokevirtual 169, 3) := by decide +kernel
theorem dX11_isThere_6 : decode cX11_isThere 6 = .ok (.iload_n 1, 1) := by decide +kernel
theorem dX11_isThere_7 : decode cX11_isThere 7 = .ok (.if_icmp .eq 5, 3) := by decide +kernel
theorem dX11_isThere_10 : decode cX11_isThere 10 = .ok (.iconst 0, 1) := by decide +kernel
theorem dX11_isThere_11 : decode cX11_isThere 11 = .ok (.ireturn, 1) := by decide +kernel
theorem dX11_isThere_12 : decode cX11_isThere 12 = .ok (.aload_n 0, 1) := by decide +kernel
theorem dX11_isThere_13 : decode cX11_isThere 13 = .ok (.invokevirtual 160, 3) := by decide +kernel
theorem dX11_isThere_16 : decode cX11_isThere 16 = .ok (.iconst 1, 1) := by decide +kernel
theorem dX11_isThere_17 : decode cX11_isThere 17 = .ok (.ireturn, 1) := by decide +kernel
set_option maxHeartbeats 4000000 in
set_option maxRecDepth 100000 in
theorem ctX11_isThere {p1 : Int} {σ : jq_M} {res : Int} {σ' : jq_M}  (h : X11_isThere p1 σ = some (res, σ')) : jq_MC jq_zM yX11_isThere cX11_isThere 2 (some .boolean) 6 151 [jR 0, jI p1] σ (some (jI res)) σ' := by
  refine jq_met (own := RX11) (L0 := [(0, jR 0), (1, jI p1)]) (by decide) rfl rfl rfl ?_
  intro X Γ hnl hlY hRT
  refine jq_use2 (P := fun r => jq_RT jq_zM X (some .boolean) (some (jI r.1)) r.2) ?_ h hRT
  intro K0 hK0
  unfold X11_isThere
  refine jq_aload_n Γ dX11_isThere_0 rfl 0 rfl (jq_at_0 at_M_0) ?_
  refine jq_ldcS Γ dX11_isThere_1 rfl rfl ?_
  refine jq_cpI (jq_virt (avs := [jT 0]) (st := []) Γ hlY rfl ml_RX11_169 rfl at_M_0 rfl rfl rfl rfl rfl dX11_isThere_3) (fun r h => ctX11_inWords h) (fun v1 => ?_)
  refine jq_iload_n Γ dX11_isThere_6 rfl 1 rfl ?_
  refine jq_icmp_eq (tgt := 12) Γ dX11_isThere_7 rfl ?_ ?_
  · refine jq_aload_n Γ dX11_isThere_12 rfl 0 rfl (jq_at_0 at_M_0) ?_
    refine jq_cwV (jq_virt (avs := []) (st := []) Γ hlY rfl ml_RX11_160 rfl at_M_0 rfl rfl rfl rfl rfl dX11_isThere_13) (fun σ' h => ctX11_ahead h) (fun s2 => ?_)
    refine jq_iconst Γ dX11_isThere_16 rfl ?_
    exact jq_zreturn Γ (Or.inr rfl) dX11_isThere_17 (hK0 _)
  · refine jq_iconst Γ dX11_isThere_10 rfl ?_
    exact jq_zreturn Γ (Or.inl rfl) dX11_isThere_11 (hK0 _)


theorem dX11_newOne_0 : decode cX11_newOne 0 = .ok (.aload_n 0, 1) := by decide +kernel
theorem dX11_newOne_1 : decode cX11_newOne 1 = .ok (.getfield 7, 3) := by decide +kernel
theorem dX11_newOne_4 : decode cX11_newOne 4 = .ok (.sipush 2024, 3) := by decide +kernel
theorem dX11_newOne_7 : decode cX11_newOne 7 = .ok (.iload_n 1, 1) := by decide +kernel
theorem dX11_newOne_8 : decode cX11_newOne 8 = .ok (.iadd, 1) := by decide +kernel
theorem dX11_newOne_9 : decode cX11_newOne 9 = .ok (.iaload, 1) := by decide +kernel
theorem dX11_newOne_10 : decode cX11_newOne 10 = .ok (.iload_n 2, 1) := by decide +kernel
theorem dX11_newOne_11 : decode cX11_newOne 11 = .ok (.if_icmp .lt 10, 3) := by decide +kernel
theorem dX11_newOne_14 : decode cX11_newOne 14 = .ok (.aload_n 0, 1) := by decide +kernel
theorem dX11_newOne_15 : decode cX11_newOne 15 = .ok (.bipush 6, 2) := by decide +kernel
theorem dX11_newOne_17 : decode cX11_newOne 17 = .ok (.invokevirtual 166, 3) := by decide +kernel
theorem dX11_newOne_20 : decode cX11_newOne 20 = .ok (.ireturn, 1) := by decide +kernel
theorem dX11_newOne_21 : decode cX11_newOne 21 = .ok (.aload_n 0, 1) := by decide +kernel
theorem dX11_newOne_22 : decode cX11_newOne 22 = .ok (.invokevirtual 160, 3) := by decide +kernel
theorem dX11_newOne_25 : decode cX11_newOne 25 = .ok (.aload_n 0, 1) := by decide +kernel
theorem dX11_newOne_26 : decode cX11_newOne 26 = .ok (.ldc 177, 2) := by decide +kernel
theorem dX11_newOne_28 : decode cX11_newOne 28 = .ok (.invokevirtual 179, 3) := by decide +kernel
theorem dX11_newOne_31 : decode cX11_newOne 31 = .ok (.ifCond .ne 9, 3) := by decide +kernel
theorem dX11_newOne_34 : decode cX11_newOne 34 = .ok (.aload_n 0, 1) := by decide +kernel
theorem dX11_newOne_35 : decode cX11_newOne 35 = .ok (.iconst 2, 1) := by decide +kernel
theorem dX11_newOne_36 : decode cX11_newOne 36 = .ok (.invokevirtual 166, 3) := by decide +kernel
theorem dX11_newOne_39 : decode cX11_newOne 39 = .ok (.ireturn, 1) := by decide +kernel
theorem dX11_newOne_40 : decode cX11_newOne 40 = .ok (.aload_n 0, 1) := by decide +kernel
theorem dX11_newOne_41 : decode cX11_newOne 41 = .ok (.bipush 52, 2) := by decide +kernel
theorem dX11_newOne_43 : decode cX11_newOne 43 = .ok (.aload_n 0, 1) := by decide +kernel
theorem dX11_newOne_44 : decode cX11_newOne 44 = .ok (.getfield 7, 3) := by decide +kernel
theorem dX11_newOne_47 : decode cX11_newOne 47 = .ok (.sipush 2025, 3) := by decide +kernel
theorem dX11_newOne_50 : decode cX11_newOne 50 = .ok (.iaload, 1) := by decide +kernel
theorem dX11_newOne_51 : decode cX11_newOne 51 = .ok (.invokevirtual 183, 3) := by decide +kernel
theorem dX11_newOne_54 : decode cX11_newOne 54 = .ok (.iconst (-1), 1) := by decide +kernel
theorem dX11_newOne_55 : decode cX11_newOne 55 = .ok (.if_icmp .ne 21, 3) := by decide +kernel
theorem dX11_newOne_58 : decode cX11_newOne 58 = .ok (.aload_n 0, 1) := by decide +kernel
theorem dX11_newOne_59 : decode cX11_newOne 59 = .ok (.bipush 57, 2) := by decide +kernel
theorem dX11_newOne_61 : decode cX11_newOne 61 = .ok (.aload_n 0, 1) := by decide +kernel
theorem dX11_newOne_62 : decode cX11_newOne 62 = .ok (.getfield 7, 3) := by decide +kernel
theorem dX11_newOne_65 : decode cX11_newOne 65 = .ok (.sipush 2027, 3) := by decide +kernel
theorem dX11_newOne_68 : decode cX11_newOne 68 = .ok (.iaload, 1) := by decide +kernel
theorem dX11_newOne_69 : decode cX11_newOne 69 = .ok (.invokevirtual 183, 3) := by decide +kernel
theorem dX11_newOne_72 : decode cX11_newOne 72 = .ok (.iconst (-1), 1) := by decide +kernel
theorem dX11_newOne_73 : decode cX11_newOne 73 = .ok (.if_icmp .eq 9, 3) := by decide +kernel
theorem dX11_newOne_76 : decode cX11_newOne 76 = .ok (.aload_n 0, 1) := by decide +kernel
theorem dX11_newOne_77 : decode cX11_newOne 77 = .ok (.iconst 3, 1) := by decide +kernel
theorem dX11_newOne_78 : decode cX11_newOne 78 = .ok (.invokevirtual 166, 3) := by decide +kernel
theorem dX11_newOne_81 : decode cX11_newOne 81 = .ok (.ireturn, 1) := by decide +kernel
theorem dX11_newOne_82 : decode cX11_newOne 82 = .ok (.aload_n 0, 1) := by decide +kernel
theorem dX11_newOne_83 : decode cX11_newOne 83 = .ok (.getfield 13, 3) := by decide +kernel
theorem dX11_newOne_86 : decode cX11_newOne 86 = .ok (.bipush 52, 2) := by decide +kernel
theorem dX11_newOne_88 : decode cX11_newOne 88 = .ok (.iload_n 3, 1) := by decide +kernel
theorem dX11_newOne_89 : decode cX11_newOne 89 = .ok (.iadd, 1) := by decide +kernel
theorem dX11_newOne_90 : decode cX11_newOne 90 = .ok (.aload_n 0, 1) := by decide +kernel
theorem dX11_newOne_91 : decode cX11_newOne 91 = .ok (.getfield 7, 3) := by decide +kernel
theorem dX11_newOne_94 : decode cX11_newOne 94 = .ok (.sipush 2024, 3) := by decide +kernel
theorem dX11_newOne_97 : decode cX11_newOne 97 = .ok (.iload_n 1, 1) := by decide +kernel
theorem dX11_newOne_98 : decode cX11_newOne 98 = .ok (.iadd, 1) := by decide +kernel
theorem dX11_newOne_99 : decode cX11_newOne 99 = .ok (.iaload, 1) := by decide +kernel
theorem dX11_newOne_100 : decode cX11_newOne 100 = .ok (.iadd, 1) := by decide +kernel
theorem dX11_newOne_101 : decode cX11_newOne 101 = .ok (.aload_n 0, 1) := by decide +kernel
theorem dX11_newOne_102 : decode cX11_newOne 102 = .ok (.invokevirtual 173, 3) := by decide +kernel
theorem dX11_newOne_105 : decode cX11_newOne 105 = .ok (.lastore, 1) := by decide +kernel
theorem dX11_newOne_106 : decode cX11_newOne 106 = .ok (.aload_n 0, 1) := by decide +kernel
theorem dX11_newOne_107 : decode cX11_newOne 107 = .ok (.invokevirtual 160, 3) := by decide +kernel
theorem dX11_newOne_110 : decode cX11_newOne 110 = .ok (.iconst 1, 1) := by decide +kernel
theorem dX11_newOne_111 : decode cX11_newOne 111 = .ok (.ireturn, 1) := by decide +kernel
set_option maxHeartbeats 4000000 in
set_option maxRecDepth 100000 in
theorem ctX11_newOne {p1 : Int} {p2 : Int} {p3 : Int} {σ : jq_M} {res : Int} {σ' : jq_M}  (h : X11_newOne p1 p2 p3 σ = some (res, σ')) : jq_MC jq_zM yX11_newOne cX11_newOne 4 (some .boolean) 7 172 [jR 0, jI p1, jI p2, jI p3] σ (some (jI res)) σ' := by
  refine jq_met (own := RX11) (L0 := [(0, jR 0), (1, jI p1), (2, jI p2), (3, jI p3)]) (by decide) rfl rfl rfl ?_
  intro X Γ hnl hlY hRT
  refine jq_use2 (P := fun r => jq_RT jq_zM X (some .boolean) (some (jI r.1)) r.2) ?_ h hRT
  intro K0 hK0
  unfold X11_newOne
  have hj76_0 : ∀ (s7 : jq_M), jq_J (X11_newOne_j76 s7) K0 (jq_V jq_zM X (jq_zN jq_zM) s7 76 [(0, jR 0)] []) := by
    intro s7
    unfold X11_newOne_j76
    refine jq_aload_n Γ dX11_newOne_76 rfl 0 rfl (jq_at_0 at_M_0) ?_
    refine jq_iconst Γ dX11_newOne_77 rfl ?_
    refine jq_cwZ (jq_virt (avs := [jI 3]) (st := []) Γ hlY rfl ml_RX11_166 rfl at_M_0 rfl rfl rfl rfl rfl dX11_newOne_78) rfl (fun r σ' h => ctX11_fails h) (fun v8 s9 hz10 => ?_)
    exact jq_zreturn Γ (hz10) dX11_newOne_81 (hK0 _)
  refine jq_aload_n Γ dX11_newOne_0 rfl 0 rfl (jq_at_0 at_M_0) ?_
  refine jq_getR (v := 1) Γ hlY at_M_0 fl_RX11_7 rfl rfl ly_X11_at dX11_newOne_1 ?_
  refine jq_sipush Γ dX11_newOne_4 rfl ?_
  refine jq_iload_n Γ dX11_newOne_7 rfl 1 rfl ?_
  refine jq_iadd Γ dX11_newOne_8 ?_
  refine jq_iald Γ at_M_1 rfl dX11_newOne_9 (fun v1 => ?_)
  refine jq_iload_n Γ dX11_newOne_10 rfl 2 rfl ?_
  refine jq_icmp_lt (tgt := 21) Γ dX11_newOne_11 rfl ?_ ?_
  · refine jq_aload_n Γ dX11_newOne_21 rfl 0 rfl (jq_at_0 at_M_0) ?_
    refine jq_cwV (jq_virt (avs := []) (st := []) Γ hlY rfl ml_RX11_160 rfl at_M_0 rfl rfl rfl rfl rfl dX11_newOne_22) (fun σ' h => ctX11_ahead h) (fun s2 => ?_)
    refine jq_aload_n Γ dX11_newOne_25 rfl 0 rfl (jq_at_0 at_M_0) ?_
    refine jq_ldcS Γ dX11_newOne_26 rfl rfl ?_
    refine jq_cpZ (jq_virt (avs := [jT 0]) (st := []) Γ hlY rfl ml_RX11_179 rfl at_M_0 rfl rfl rfl rfl rfl dX11_newOne_28) rfl (fun r h => ctX11_isName h) (fun v3 hz4 => ?_)
    refine jq_if_ne (tgt := 40) Γ dX11_newOne_31 rfl ?_ ?_
    · refine jq_aload_n Γ dX11_newOne_40 rfl 0 rfl (jq_at_0 at_M_0) ?_
      refine jq_bipush Γ dX11_newOne_41 rfl ?_
      refine jq_aload_n Γ dX11_newOne_43 rfl 0 rfl (jq_at_0 at_M_0) ?_
      refine jq_getR (v := 1) Γ hlY at_M_0 fl_RX11_7 rfl rfl ly_X11_at dX11_newOne_44 ?_
      refine jq_sipush Γ dX11_newOne_47 rfl ?_
      refine jq_iald Γ at_M_1 rfl dX11_newOne_50 (fun v5 => ?_)
      refine jq_cpI (jq_virt (avs := [jI 52, jI v5]) (st := []) Γ hlY rfl ml_RX11_183 rfl at_M_0 rfl rfl rfl rfl rfl dX11_newOne_51) (fun r h => ctX11_findHere h) (fun v6 => ?_)
      refine jq_iconst Γ dX11_newOne_54 rfl ?_
      refine jq_icmp_ne (tgt := 76) Γ dX11_newOne_55 rfl ?_ ?_
      · refine jq_sub Γ (L' := [(0, jR 0)]) [0] rfl ?_
        exact hj76_0 s2
      · refine jq_aload_n Γ dX11_newOne_58 rfl 0 rfl (jq_at_0 at_M_0) ?_
        refine jq_bipush Γ dX11_newOne_59 rfl ?_
        refine jq_aload_n Γ dX11_newOne_61 rfl 0 rfl (jq_at_0 at_M_0) ?_
        refine jq_getR (v := 1) Γ hlY at_M_0 fl_RX11_7 rfl rfl ly_X11_at dX11_newOne_62 ?_
        refine jq_sipush Γ dX11_newOne_65 rfl ?_
        refine jq_iald Γ at_M_1 rfl dX11_newOne_68 (fun v11 => ?_)
        refine jq_cpI (jq_virt (avs := [jI 57, jI v11]) (st := []) Γ hlY rfl ml_RX11_183 rfl at_M_0 rfl rfl rfl rfl rfl dX11_newOne_69) (fun r h => ctX11_findHere h) (fun v12 => ?_)
        refine jq_iconst Γ dX11_newOne_72 rfl ?_
        refine jq_icmp_eq (tgt := 82) Γ dX11_newOne_73 rfl ?_ ?_
        · refine jq_aload_n Γ dX11_newOne_82 rfl 0 rfl (jq_at_0 at_M_0) ?_
          refine jq_getR (v := 2) Γ hlY at_M_0 fl_RX11_13 rfl rfl ly_X11_names dX11_newOne_83 ?_
          refine jq_bipush Γ dX11_newOne_86 rfl ?_
          refine jq_iload_n Γ dX11_newOne_88 rfl 3 rfl ?_
          refine jq_iadd Γ dX11_newOne_89 ?_
          refine jq_aload_n Γ dX11_newOne_90 rfl 0 rfl (jq_at_0 at_M_0) ?_
          refine jq_getR (v := 1) Γ hlY at_M_0 fl_RX11_7 rfl rfl ly_X11_at dX11_newOne_91 ?_
          refine jq_sipush Γ dX11_newOne_94 rfl ?_
          refine jq_iload_n Γ dX11_newOne_97 rfl 1 rfl ?_
          refine jq_iadd Γ dX11_newOne_98 ?_
          refine jq_iald Γ at_M_1 rfl dX11_newOne_99 (fun v13 => ?_)
          refine jq_iadd Γ dX11_newOne_100 ?_
          refine jq_aload_n Γ dX11_newOne_101 rfl 0 rfl (jq_at_0 at_M_0) ?_
          refine jq_cpL (jq_virt (avs := []) (st := [jI (jq_w ((jq_w (52 + p3)) + v13)), jR 2]) Γ hlY rfl ml_RX11_173 rfl at_M_0 rfl rfl rfl rfl rfl dX11_newOne_102) (fun r h => ctX11_nameHere h) (fun v14 => ?_)
          refine jq_last Γ at_M_2 rfl dX11_newOne_105 (fun s15 => ?_)
          refine jq_aload_n Γ dX11_newOne_106 rfl 0 rfl (jq_at_0 at_M_0) ?_
          refine jq_cwV (jq_virt (avs := []) (st := []) Γ hlY rfl ml_RX11_160 rfl at_M_0 rfl rfl rfl rfl rfl dX11_newOne_107) (fun σ' h => ctX11_ahead h) (fun s16 => ?_)
          refine jq_iconst Γ dX11_newOne_110 rfl ?_
          exact jq_zreturn Γ (Or.inr rfl) dX11_newOne_111 (hK0 _)
        · refine jq_sub Γ (L' := [(0, jR 0)]) [0] rfl ?_
          exact hj76_0 s2
    · refine jq_aload_n Γ dX11_newOne_34 rfl 0 rfl (jq_at_0 at_M_0) ?_
      refine jq_iconst Γ dX11_newOne_35 rfl ?_
      refine jq_cwZ (jq_virt (avs := [jI 2]) (st := []) Γ hlY rfl ml_RX11_166 rfl at_M_0 rfl rfl rfl rfl rfl dX11_newOne_36) rfl (fun r σ' h => ctX11_fails h) (fun v17 s18 hz19 => ?_)
      exact jq_zreturn Γ (hz19) dX11_newOne_39 (hK0 _)
  · refine jq_aload_n Γ dX11_newOne_14 rfl 0 rfl (jq_at_0 at_M_0) ?_
    refine jq_bipush Γ dX11_newOne_15 rfl ?_
    refine jq_cwZ (jq_virt (avs := [jI 6]) (st := []) Γ hlY rfl ml_RX11_166 rfl at_M_0 rfl rfl rfl rfl rfl dX11_newOne_17) rfl (fun r σ' h => ctX11_fails h) (fun v20 s21 hz22 => ?_)
    exact jq_zreturn Γ (hz22) dX11_newOne_20 (hK0 _)


theorem dX11_partyTo_0 : decode cX11_partyTo 0 = .ok (.aload_n 0, 1) := by decide +kernel
theorem dX11_partyTo_1 : decode cX11_partyTo 1 = .ok (.ldc 177, 2) := by decide +kernel
theorem dX11_partyTo_3 : decode cX11_partyTo 3 = .ok (.invokevirtual 179, 3) := by decide +kernel
theorem dX11_partyTo_6 : decode cX11_partyTo 6 = .ok (.ifCond .ne 9, 3) := by decide +kernel
theorem dX11_partyTo_9 : decode cX11_partyTo 9 = .ok (.aload_n 0, 1) := by decide +kernel
theorem dX11_partyTo_10 : decode cX11_partyTo 10 = .ok (.iconst 2, 1) := by decide +kernel
theorem dX11_partyTo_11 : decode cX11_partyTo 11 = .ok (.invokevirtual 166, 3) := by decide +kernel
theorem dX11_partyTo_14 : decode cX11_partyTo 14 = .ok (.ireturn, 1) := by decide +kernel
theorem dX11_partyTo_15 : decode cX11_partyTo 15 = .ok (.aload_n 0, 1) := by decide +kernel
theorem dX11_partyTo_16 : decode cX11_partyTo 16 = .ok (.getfield 7, 3) := by decide +kernel
theorem dX11_partyTo_19 : decode cX11_partyTo 19 = .ok (.iload_n 1, 1) := by decide +kernel
theorem dX11_partyTo_20 : decode cX11_partyTo 20 = .ok (.aload_n 0, 1) := by decide +kernel
theorem dX11_partyTo_21 : decode cX11_partyTo 21 = .ok (.bipush 52, 2) := by decide +kernel
theorem dX11_partyTo_23 : decode cX11_partyTo 23 = .ok (.aload_n 0, 1) := by decide +kernel
theorem dX11_partyTo_24 : decode cX11_partyTo 24 = .ok (.getfield 7, 3) := by decide +kernel
theorem dX11_partyTo_27 : decode cX11_partyTo 27 = .ok (.sipush 2025, 3) := by decide +kernel
theorem dX11_partyTo_30 : decode cX11_partyTo 30 = .ok (.iaload, 1) := by decide +kernel
theorem dX11_partyTo_31 : decode cX11_partyTo 31 = .ok (.invokevirtual 183, 3) := by decide +kernel
theorem dX11_partyTo_34 : decode cX11_partyTo 34 = .ok (.iastore, 1) := by decide +kernel
theorem dX11_partyTo_35 : decode cX11_partyTo 35 = .ok (.aload_n 0, 1) := by decide +kernel
theorem dX11_partyTo_36 : decode cX11_partyTo 36 = .ok (.getfield 7, 3) := by decide +kernel
theorem dX11_partyTo_39 : decode cX11_partyTo 39 = .ok (.iload_n 1, 1) := by decide +kernel
theorem dX11_partyTo_40 : decode cX11_partyTo 40 = .ok (.iaload, 1) := by decide +kernel
theorem dX11_partyTo_41 : decode cX11_partyTo 41 = .ok (.iconst (-1), 1) := by decide +kernel
theorem dX11_partyTo_42 : decode cX11_partyTo 42 = .ok (.if_icmp .ne 9, 3) := by decide +kernel
theorem dX11_partyTo_45 : decode cX11_partyTo 45 = .ok (.aload_n 0, 1) := by decide +kernel
theorem dX11_partyTo_46 : decode cX11_partyTo 46 = .ok (.iconst 3, 1) := by decide +kernel
theorem dX11_partyTo_47 : decode cX11_partyTo 47 = .ok (.invokevirtual 166, 3) := by decide +kernel
theorem dX11_partyTo_50 : decode cX11_partyTo 50 = .ok (.ireturn, 1) := by decide +kernel
theorem dX11_partyTo_51 : decode cX11_partyTo 51 = .ok (.aload_n 0, 1) := by decide +kernel
theorem dX11_partyTo_52 : decode cX11_partyTo 52 = .ok (.invokevirtual 160, 3) := by decide +kernel
theorem dX11_partyTo_55 : decode cX11_partyTo 55 = .ok (.iconst 1, 1) := by decide +kernel
theorem dX11_partyTo_56 : decode cX11_partyTo 56 = .ok (.ireturn, 1) := by decide +kernel
set_option maxHeartbeats 4000000 in
set_option maxRecDepth 100000 in
theorem ctX11_partyTo {p1 : Int} {σ : jq_M} {res : Int} {σ' : jq_M}  (h : X11_partyTo p1 σ = some (res, σ')) : jq_MC jq_zM yX11_partyTo cX11_partyTo 2 (some .boolean) 7 172 [jR 0, jI p1] σ (some (jI res)) σ' := by
  refine jq_met (own := RX11) (L0 := [(0, jR 0), (1, jI p1)]) (by decide) rfl rfl rfl ?_
  intro X Γ hnl hlY hRT
  refine jq_use2 (P := fun r => jq_RT jq_zM X (some .boolean) (some (jI r.1)) r.2) ?_ h hRT
  intro K0 hK0
  unfold X11_partyTo
  refine jq_aload_n Γ dX11_partyTo_0 rfl 0 rfl (jq_at_0 at_M_0) ?_
  refine jq_ldcS Γ dX11_partyTo_1 rfl rfl ?_
  refine jq_cpZ (jq_virt (avs := [jT 0]) (st := []) Γ hlY rfl ml_RX11_179 rfl at_M_0 rfl rfl rfl rfl rfl dX11_partyTo_3) rfl (fun r h => ctX11_isName h) (fun v1 hz2 => ?_)
  refine jq_if_ne (tgt := 15) Γ dX11_partyTo_6 rfl ?_ ?_
  · refine jq_aload_n Γ dX11_partyTo_15 rfl 0 rfl (jq_at_0 at_M_0) ?_
    refine jq_getR (v := 1) Γ hlY at_M_0 fl_RX11_7 rfl rfl ly_X11_at dX11_partyTo_16 ?_
    refine jq_iload_n Γ dX11_partyTo_19 rfl 1 rfl ?_
    refine jq_aload_n Γ dX11_partyTo_20 rfl 0 rfl (jq_at_0 at_M_0) ?_
    refine jq_bipush Γ dX11_partyTo_21 rfl ?_
    refine jq_aload_n Γ dX11_partyTo_23 rfl 0 rfl (jq_at_0 at_M_0) ?_
    refine jq_getR (v := 1) Γ hlY at_M_0 fl_RX11_7 rfl rfl ly_X11_at dX11_partyTo_24 ?_
    refine jq_sipush Γ dX11_partyTo_27 rfl ?_
    refine jq_iald Γ at_M_1 rfl dX11_partyTo_30 (fun v3 => ?_)
    refine jq_cpI (jq_virt (avs := [jI 52, jI v3]) (st := [jI p1, jR 1]) Γ hlY rfl ml_RX11_183 rfl at_M_0 rfl rfl rfl rfl rfl dX11_partyTo_31) (fun r h => ctX11_findHere h) (fun v4 => ?_)
    refine jq_iast Γ at_M_1 rfl dX11_partyTo_34 (fun s5 => ?_)
    refine jq_aload_n Γ dX11_partyTo_35 rfl 0 rfl (jq_at_0 at_M_0) ?_
    refine jq_getR (v := 1) Γ hlY at_M_0 fl_RX11_7 rfl rfl ly_X11_at dX11_partyTo_36 ?_
    refine jq_iload_n Γ dX11_partyTo_39 rfl 1 rfl ?_
    refine jq_iald Γ at_M_1 rfl dX11_partyTo_40 (fun v6 => ?_)
    refine jq_iconst Γ dX11_partyTo_41 rfl ?_
    refine jq_icmp_ne (tgt := 51) Γ dX11_partyTo_42 rfl ?_ ?_
    · refine jq_aload_n Γ dX11_partyTo_51 rfl 0 rfl (jq_at_0 at_M_0) ?_
      refine jq_cwV (jq_virt (avs := []) (st := []) Γ hlY rfl ml_RX11_160 rfl at_M_0 rfl rfl rfl rfl rfl dX11_partyTo_52) (fun σ' h => ctX11_ahead h) (fun s7 => ?_)
      refine jq_iconst Γ dX11_partyTo_55 rfl ?_
      exact jq_zreturn Γ (Or.inr rfl) dX11_partyTo_56 (hK0 _)
    · refine jq_aload_n Γ dX11_partyTo_45 rfl 0 rfl (jq_at_0 at_M_0) ?_
      refine jq_iconst Γ dX11_partyTo_46 rfl ?_
      refine jq_cwZ (jq_virt (avs := [jI 3]) (st := []) Γ hlY rfl ml_RX11_166 rfl at_M_0 rfl rfl rfl rfl rfl dX11_partyTo_47) rfl (fun r σ' h => ctX11_fails h) (fun v8 s9 hz10 => ?_)
      exact jq_zreturn Γ (hz10) dX11_partyTo_50 (hK0 _)
  · refine jq_aload_n Γ dX11_partyTo_9 rfl 0 rfl (jq_at_0 at_M_0) ?_
    refine jq_iconst Γ dX11_partyTo_10 rfl ?_
    refine jq_cwZ (jq_virt (avs := [jI 2]) (st := []) Γ hlY rfl ml_RX11_166 rfl at_M_0 rfl rfl rfl rfl rfl dX11_partyTo_11) rfl (fun r σ' h => ctX11_fails h) (fun v11 s12 hz13 => ?_)
    exact jq_zreturn Γ (hz13) dX11_partyTo_14 (hK0 _)


theorem dX11_aParty_0 : decode cX11_aParty 0 = .ok (.sipush 2032, 3) := by decide +kernel
theorem dX11_aParty_3 : decode cX11_aParty 3 = .ok (.iconst 2, 1) := by decide +kernel
theorem dX11_aParty_4 : decode cX11_aParty 4 = .ok (.aload_n 0, 1) := by decide +kernel
theorem dX11_aParty_5 : decode cX11_aParty 5 = .ok (.getfield 7, 3) := by decide +kernel
theorem dX11_aParty_8 : decode cX11_aParty 8 = .ok (.sipush 2025, 3) := by decide +kernel
theorem dX11_aParty_11 : decode cX11_aParty 11 = .ok (.iaload, 1) := by decide +kernel
theorem dX11_aParty_12 : decode cX11_aParty 12 = .ok (.imul, 1) := by decide +kernel
theorem dX11_aParty_13 : decode cX11_aParty 13 = .ok (.iadd, 1) := by decide +kernel
theorem dX11_aParty_14 : decode cX11_aParty 14 = .ok (.istore_n 1, 1) := by decide +kernel
theorem dX11_aParty_15 : decode cX11_aParty 15 = .ok (.aload_n 0, 1) := by decide +kernel
theorem dX11_aParty_16 : decode cX11_aParty 16 = .ok (.iconst 1, 1) := by decide +kernel
theorem dX11_aParty_17 : decode cX11_aParty 17 = .ok (.iconst 5, 1) := by decide +kernel
theorem dX11_aParty_18 : decode cX11_aParty 18 = .ok (.aload_n 0, 1) := by decide +kernel
theorem dX11_aParty_19 : decode cX11_aParty 19 = .ok (.getfield 7, 3) := by decide +kernel
theorem dX11_aParty_22 : decode cX11_aParty 22 = .ok (.sipush 2024, 3) := by decide +kernel
theorem dX11_aParty_25 : decode cX11_aParty 25 = .ok (.iaload, 1) := by decide +kernel
theorem dX11_aParty_26 : decode cX11_aParty 26 = .ok (.invokestatic 139, 3) := by decide +kernel
theorem dX11_aParty_29 : decode cX11_aParty 29 = .ok (.iconst 0, 1) := by decide +kernel
theorem dX11_aParty_30 : decode cX11_aParty 30 = .ok (.invokevirtual 186, 3) := by decide +kernel
theorem dX11_aParty_33 : decode cX11_aParty 33 = .ok (.ifCond .ne 5, 3) := by decide +kernel
theorem dX11_aParty_36 : decode cX11_aParty 36 = .ok (.iconst 0, 1) := by decide +kernel
theorem dX11_aParty_37 : decode cX11_aParty 37 = .ok (.ireturn, 1) := by decide +kernel
theorem dX11_aParty_38 : decode cX11_aParty 38 = .ok (.aload_n 0, 1) := by decide +kernel
theorem dX11_aParty_39 : decode cX11_aParty 39 = .ok (.getfield 7, 3) := by decide +kernel
theorem dX11_aParty_42 : decode cX11_aParty 42 = .ok (.iload_n 1, 1) := by decide +kernel
theorem dX11_aParty_43 : decode cX11_aParty 43 = .ok (.iconst 1, 1) := by decide +kernel
theorem dX11_aParty_44 : decode cX11_aParty 44 = .ok (.iadd, 1) := by decide +kernel
theorem dX11_aParty_45 : decode cX11_aParty 45 = .ok (.iconst (-1), 1) := by decide +kernel
theorem dX11_aParty_46 : decode cX11_aParty 46 = .ok (.iastore, 1) := by decide +kernel
theorem dX11_aParty_47 : decode cX11_aParty 47 = .ok (.aload_n 0, 1) := by decide +kernel
theorem dX11_aParty_48 : decode cX11_aParty 48 = .ok (.bipush 6, 2) := by decide +kernel
theorem dX11_aParty_50 : decode cX11_aParty 50 = .ok (.invokevirtual 190, 3) := by decide +kernel
theorem dX11_aParty_53 : decode cX11_aParty 53 = .ok (.ifCond .eq 16, 3) := by decide +kernel
theorem dX11_aParty_56 : decode cX11_aParty 56 = .ok (.aload_n 0, 1) := by decide +kernel
theorem dX11_aParty_57 : decode cX11_aParty 57 = .ok (.iload_n 1, 1) := by decide +kernel
theorem dX11_aParty_58 : decode cX11_aParty 58 = .ok (.iconst 0, 1) := by decide +kernel
theorem dX11_aParty_59 : decode cX11_aParty 59 = .ok (.bipush 50, 2) := by decide +kernel
theorem dX11_aParty_61 : decode cX11_aParty 61 = .ok (.invokevirtual 193, 3) := by decide +kernel
theorem dX11_aParty_64 : decode cX11_aParty 64 = .ok (.ifCond .ne 5, 3) := by decide +kernel
theorem dX11_aParty_67 : decode cX11_aParty 67 = .ok (.iconst 0, 1) := by decide +kernel
theorem dX11_aParty_68 : decode cX11_aParty 68 = .ok (.ireturn, 1) := by decide +kernel
theorem dX11_aParty_69 : decode cX11_aParty 69 = .ok (.aload_n 0, 1) := by decide +kernel
theorem dX11_aParty_70 : decode cX11_aParty 70 = .ok (.bipush 7, 2) := by decide +kernel
theorem dX11_aParty_72 : decode cX11_aParty 72 = .ok (.invokevirtual 190, 3) := by decide +kernel
theorem dX11_aParty_75 : decode cX11_aParty 75 = .ok (.ifCond .eq 88, 3) := by decide +kernel
theorem dX11_aParty_78 : decode cX11_aParty 78 = .ok (.iconst 0, 1) := by decide +kernel
theorem dX11_aParty_79 : decode cX11_aParty 79 = .ok (.istore_n 2, 1) := by decide +kernel
theorem dX11_aParty_80 : decode cX11_aParty 80 = .ok (.iload_n 2, 1) := by decide +kernel
theorem dX11_aParty_81 : decode cX11_aParty 81 = .ok (.aload_n 0, 1) := by decide +kernel
theorem dX11_aParty_82 : decode cX11_aParty 82 = .ok (.getfield 7, 3) := by decide +kernel
theorem dX11_aParty_85 : decode cX11_aParty 85 = .ok (.sipush 2025, 3) := by decide +kernel
theorem dX11_aParty_88 : decode cX11_aParty 88 = .ok (.iaload, 1) := by decide +kernel
theorem dX11_aParty_89 : decode cX11_aParty 89 = .ok (.if_icmp .ge 51, 3) := by decide +kernel
theorem dX11_aParty_92 : decode cX11_aParty 92 = .ok (.aload_n 0, 1) := by decide +kernel
theorem dX11_aParty_93 : decode cX11_aParty 93 = .ok (.getfield 129, 3) := by decide +kernel
theorem dX11_aParty_96 : decode cX11_aParty 96 = .ok (.iconst 3, 1) := by decide +kernel
theorem dX11_aParty_97 : decode cX11_aParty 97 = .ok (.if_icmp .ne 37, 3) := by decide +kernel
theorem dX11_aParty_100 : decode cX11_aParty 100 = .ok (.aload_n 0, 1) := by decide +kernel
theorem dX11_aParty_101 : decode cX11_aParty 101 = .ok (.getfield 7, 3) := by decide +kernel
theorem dX11_aParty_104 : decode cX11_aParty 104 = .ok (.sipush 2032, 3) := by decide +kernel
theorem dX11_aParty_107 : decode cX11_aParty 107 = .ok (.iconst 2, 1) := by decide +kernel
theorem dX11_aParty_108 : decode cX11_aParty 108 = .ok (.iload_n 2, 1) := by decide +kernel
theorem dX11_aParty_109 : decode cX11_aParty 109 = .ok (.imul, 1) := by decide +kernel
theorem dX11_aParty_110 : decode cX11_aParty 110 = .ok (.iadd, 1) := by decide +kernel
theorem dX11_aParty_111 : decode cX11_aParty 111 = .ok (.iconst 1, 1) := by decide +kernel
theorem dX11_aParty_112 : decode cX11_aParty 112 = .ok (.iadd, 1) := by decide +kernel
theorem dX11_aParty_113 : decode cX11_aParty 113 = .ok (.iaload, 1) := by decide +kernel
theorem dX11_aParty_114 : decode cX11_aParty 114 = .ok (.aload_n 0, 1) := by decide +kernel
theorem dX11_aParty_115 : decode cX11_aParty 115 = .ok (.getfield 126, 3) := by decide +kernel
theorem dX11_aParty_118 : decode cX11_aParty 118 = .ok (.if_icmp .ne 16, 3) := by decide +kernel
theorem dX11_aParty_121 : decode cX11_aParty 121 = .ok (.aload_n 0, 1) := by decide +kernel
theorem dX11_aParty_122 : decode cX11_aParty 122 = .ok (.getfield 126, 3) := by decide +kernel
theorem dX11_aParty_125 : decode cX11_aParty 125 = .ok (.ifCond .lt 9, 3) := by decide +kernel
theorem dX11_aParty_128 : decode cX11_aParty 128 = .ok (.aload_n 0, 1) := by decide +kernel
theorem dX11_aParty_129 : decode cX11_aParty 129 = .ok (.iconst 5, 1) := by decide +kernel
theorem dX11_aParty_130 : decode cX11_aParty 130 = .ok (.invokevirtual 166, 3) := by decide +kernel
theorem dX11_aParty_133 : decode cX11_aParty 133 = .ok (.ireturn, 1) := by decide +kernel
theorem dX11_aParty_134 : decode cX11_aParty 134 = .ok (.iinc 2 1, 3) := by decide +kernel
theorem dX11_aParty_137 : decode cX11_aParty 137 = .ok (.goto (-57), 3) := by decide +kernel
theorem dX11_aParty_140 : decode cX11_aParty 140 = .ok (.aload_n 0, 1) := by decide +kernel
theorem dX11_aParty_141 : decode cX11_aParty 141 = .ok (.iload_n 1, 1) := by decide +kernel
theorem dX11_aParty_142 : decode cX11_aParty 142 = .ok (.iconst 1, 1) := by decide +kernel
theorem dX11_aParty_143 : decode cX11_aParty 143 = .ok (.iadd, 1) := by decide +kernel
theorem dX11_aParty_144 : decode cX11_aParty 144 = .ok (.iconst 0, 1) := by decide +kernel
theorem dX11_aParty_145 : decode cX11_aParty 145 = .ok (.aload_n 0, 1) := by decide +kernel
theorem dX11_aParty_146 : decode cX11_aParty 146 = .ok (.getfield 7, 3) := by decide +kernel
theorem dX11_aParty_149 : decode cX11_aParty 149 = .ok (.sipush 2024, 3) := by decide +kernel
theorem dX11_aParty_152 : decode cX11_aParty 152 = .ok (.iaload, 1) := by decide +kernel
theorem dX11_aParty_153 : decode cX11_aParty 153 = .ok (.iconst 1, 1) := by decide +kernel
theorem dX11_aParty_154 : decode cX11_aParty 154 = .ok (.isub, 1) := by decide +kernel
theorem dX11_aParty_155 : decode cX11_aParty 155 = .ok (.invokevirtual 193, 3) := by decide +kernel
theorem dX11_aParty_158 : decode cX11_aParty 158 = .ok (.ifCond .ne 5, 3) := by decide +kernel
theorem dX11_aParty_161 : decode cX11_aParty 161 = .ok (.iconst 0, 1) := by decide +kernel
theorem dX11_aParty_162 : decode cX11_aParty 162 = .ok (.ireturn, 1) := by decide +kernel
theorem dX11_aParty_163 : decode cX11_aParty 163 = .ok (.aload_n 0, 1) := by decide +kernel
theorem dX11_aParty_164 : decode cX11_aParty 164 = .ok (.getfield 7, 3) := by decide +kernel
theorem dX11_aParty_167 : decode cX11_aParty 167 = .ok (.sipush 2025, 3) := by decide +kernel
theorem dX11_aParty_170 : decode cX11_aParty 170 = .ok (.dup2, 1) := by decide +kernel
theorem dX11_aParty_171 : decode cX11_aParty 171 = .ok (.iaload, 1) := by decide +kernel
theorem dX11_aParty_172 : decode cX11_aParty 172 = .ok (.iconst 1, 1) := by decide +kernel
theorem dX11_aParty_173 : decode cX11_aParty 173 = .ok (.iadd, 1) := by decide +kernel
theorem dX11_aParty_174 : decode cX11_aParty 174 = .ok (.iastore, 1) := by decide +kernel
theorem dX11_aParty_175 : decode cX11_aParty 175 = .ok (.iconst 1, 1) := by decide +kernel
theorem dX11_aParty_176 : decode cX11_aParty 176 = .ok (.ireturn, 1) := by decide +kernel
set_option maxHeartbeats 4000000 in
set_option maxRecDepth 100000 in
theorem ctX11_aParty  {σ : jq_M} {res : Int} {σ' : jq_M}  (h : X11_aParty σ = some (res, σ')) : jq_MC jq_zM yX11_aParty cX11_aParty 3 (some .boolean) 8 195 [jR 0] σ (some (jI res)) σ' := by
  refine jq_met (own := RX11) (L0 := [(0, jR 0)]) (by decide) rfl rfl rfl ?_
  intro X Γ hnl hlY hRT
  refine jq_use2 (P := fun r => jq_RT jq_zM X (some .boolean) (some (jI r.1)) r.2) ?_ h hRT
  intro K0 hK0
  unfold X11_aParty
  have hj163_0 : ∀ (s16 : jq_M), jq_J (X11_aParty_j163 s16) K0 (jq_V jq_zM X (jq_zN jq_zM) s16 163 [(0, jR 0)] []) := by
    intro s16
    unfold X11_aParty_j163
    refine jq_aload_n Γ dX11_aParty_163 rfl 0 rfl (jq_at_0 at_M_0) ?_
    refine jq_getR (v := 1) Γ hlY at_M_0 fl_RX11_7 rfl rfl ly_X11_at dX11_aParty_164 ?_
    refine jq_sipush Γ dX11_aParty_167 rfl ?_
    refine jq_dup2 Γ dX11_aParty_170 rfl rfl ?_
    refine jq_iald Γ at_M_1 rfl dX11_aParty_171 (fun v17 => ?_)
    refine jq_iconst Γ dX11_aParty_172 rfl ?_
    refine jq_iadd Γ dX11_aParty_173 ?_
    refine jq_iast Γ at_M_1 rfl dX11_aParty_174 (fun s18 => ?_)
    refine jq_iconst Γ dX11_aParty_175 rfl ?_
    exact jq_zreturn Γ (Or.inr rfl) dX11_aParty_176 (hK0 _)
  have hj69_0 : ∀ (j11 : Int) (s12 : jq_M), jq_J (X11_aParty_j69 j11 s12) K0 (jq_V jq_zM X (jq_zN jq_zM) s12 69 [(0, jR 0), (1, jI j11)] []) := by
    intro j11 s12
    unfold X11_aParty_j69
    refine jq_aload_n Γ dX11_aParty_69 rfl 0 rfl (jq_at_0 at_M_0) ?_
    refine jq_bipush Γ dX11_aParty_70 rfl ?_
    refine jq_cwZ (jq_virt (avs := [jI 7]) (st := []) Γ hlY rfl ml_RX11_190 rfl at_M_0 rfl rfl rfl rfl rfl dX11_aParty_72) rfl (fun r σ' h => ctX11_isThere h) (fun v13 s14 hz15 => ?_)
    refine jq_if_eq (tgt := 163) Γ dX11_aParty_75 rfl ?_ ?_
    · refine jq_sub Γ (L' := [(0, jR 0)]) [0] rfl ?_
      exact hj163_0 s14
    · refine jq_iconst Γ dX11_aParty_78 rfl ?_
      refine jq_istore_n (L' := [(2, jI 0), (0, jR 0), (1, jI j11)]) Γ dX11_aParty_79 rfl hnl rfl rfl ?_
      refine jq_sub Γ (L' := [(0, jR 0), (1, jI j11), (2, jI 0)]) [1, 2, 0] rfl ?_
      refine jq_loop2 (C := fun (t19 : Int) => jq_V jq_zM X (jq_zN jq_zM) s14 80 [(0, jR 0), (1, jI j11), (2, jI t19)] []) (KX := Sum.elim (fun (e25 : Unit) => jq_V jq_zM X (jq_zN jq_zM) s14 128 [(0, jR 0)] []) (fun (e29 : Unit) => jq_V jq_zM X (jq_zN jq_zM) s14 140 [(0, jR 0), (1, jI j11)] [])) ?_ ?_ 0
      · intro K80_t19 hCt19 hXt19 t19
        unfold X11_aParty_b80
        refine jq_iload_n Γ dX11_aParty_80 rfl 2 rfl ?_
        refine jq_aload_n Γ dX11_aParty_81 rfl 0 rfl (jq_at_0 at_M_0) ?_
        refine jq_getR (v := 1) Γ hlY at_M_0 fl_RX11_7 rfl rfl ly_X11_at dX11_aParty_82 ?_
        refine jq_sipush Γ dX11_aParty_85 rfl ?_
        refine jq_iald Γ at_M_1 rfl dX11_aParty_88 (fun v20 => ?_)
        refine jq_icmp_ge (tgt := 140) Γ dX11_aParty_89 rfl ?_ ?_
        · refine jq_sub Γ (L' := [(0, jR 0), (1, jI j11)]) [0, 1] rfl ?_
          exact jq_done (hXt19 (.inr ()))
        · refine jq_aload_n Γ dX11_aParty_92 rfl 0 rfl (jq_at_0 at_M_0) ?_
          refine jq_getI (J := 12) Γ at_M_0 fl_RX11_129 rfl rfl dX11_aParty_93 ?_
          refine jq_iconst Γ dX11_aParty_96 rfl ?_
          refine jq_icmp_ne (tgt := 134) Γ dX11_aParty_97 rfl ?_ ?_
          · refine jq_iincN (L' := fun v21 => [(2, jI v21), (0, jR 0), (1, jI j11)]) Γ dX11_aParty_134 2 rfl hnl rfl (fun _ => rfl) (fun v21 => ?_)
            refine jq_goto Γ (tgt := 80) dX11_aParty_137 rfl ?_
            refine jq_sub Γ (L' := [(0, jR 0), (1, jI j11), (2, jI v21)]) [1, 2, 0] rfl ?_
            exact jq_done (hCt19 v21)
          · refine jq_aload_n Γ dX11_aParty_100 rfl 0 rfl (jq_at_0 at_M_0) ?_
            refine jq_getR (v := 1) Γ hlY at_M_0 fl_RX11_7 rfl rfl ly_X11_at dX11_aParty_101 ?_
            refine jq_sipush Γ dX11_aParty_104 rfl ?_
            refine jq_iconst Γ dX11_aParty_107 rfl ?_
            refine jq_iload_n Γ dX11_aParty_108 rfl 2 rfl ?_
            refine jq_imul Γ dX11_aParty_109 ?_
            refine jq_iadd Γ dX11_aParty_110 ?_
            refine jq_iconst Γ dX11_aParty_111 rfl ?_
            refine jq_iadd Γ dX11_aParty_112 ?_
            refine jq_iald Γ at_M_1 rfl dX11_aParty_113 (fun v22 => ?_)
            refine jq_aload_n Γ dX11_aParty_114 rfl 0 rfl (jq_at_0 at_M_0) ?_
            refine jq_getI (J := 15) Γ at_M_0 fl_RX11_126 rfl rfl dX11_aParty_115 ?_
            refine jq_icmp_ne (tgt := 134) Γ dX11_aParty_118 rfl ?_ ?_
            · refine jq_iincN (L' := fun v23 => [(2, jI v23), (0, jR 0), (1, jI j11)]) Γ dX11_aParty_134 2 rfl hnl rfl (fun _ => rfl) (fun v23 => ?_)
              refine jq_goto Γ (tgt := 80) dX11_aParty_137 rfl ?_
              refine jq_sub Γ (L' := [(0, jR 0), (1, jI j11), (2, jI v23)]) [1, 2, 0] rfl ?_
              exact jq_done (hCt19 v23)
            · refine jq_aload_n Γ dX11_aParty_121 rfl 0 rfl (jq_at_0 at_M_0) ?_
              refine jq_getI (J := 15) Γ at_M_0 fl_RX11_126 rfl rfl dX11_aParty_122 ?_
              refine jq_if_lt (tgt := 134) Γ dX11_aParty_125 rfl ?_ ?_
              · refine jq_iincN (L' := fun v24 => [(2, jI v24), (0, jR 0), (1, jI j11)]) Γ dX11_aParty_134 2 rfl hnl rfl (fun _ => rfl) (fun v24 => ?_)
                refine jq_goto Γ (tgt := 80) dX11_aParty_137 rfl ?_
                refine jq_sub Γ (L' := [(0, jR 0), (1, jI j11), (2, jI v24)]) [1, 2, 0] rfl ?_
                exact jq_done (hCt19 v24)
              · refine jq_sub Γ (L' := [(0, jR 0)]) [0] rfl ?_
                exact jq_done (hXt19 (.inl ()))
      · refine jq_elim ?_ ?_
        · intro e25
          refine jq_aload_n Γ dX11_aParty_128 rfl 0 rfl (jq_at_0 at_M_0) ?_
          refine jq_iconst Γ dX11_aParty_129 rfl ?_
          refine jq_cwZ (jq_virt (avs := [jI 5]) (st := []) Γ hlY rfl ml_RX11_166 rfl at_M_0 rfl rfl rfl rfl rfl dX11_aParty_130) rfl (fun r σ' h => ctX11_fails h) (fun v26 s27 hz28 => ?_)
          exact jq_zreturn Γ (hz28) dX11_aParty_133 (hK0 _)
        · intro e29
          refine jq_aload_n Γ dX11_aParty_140 rfl 0 rfl (jq_at_0 at_M_0) ?_
          refine jq_iload_n Γ dX11_aParty_141 rfl 1 rfl ?_
          refine jq_iconst Γ dX11_aParty_142 rfl ?_
          refine jq_iadd Γ dX11_aParty_143 ?_
          refine jq_iconst Γ dX11_aParty_144 rfl ?_
          refine jq_aload_n Γ dX11_aParty_145 rfl 0 rfl (jq_at_0 at_M_0) ?_
          refine jq_getR (v := 1) Γ hlY at_M_0 fl_RX11_7 rfl rfl ly_X11_at dX11_aParty_146 ?_
          refine jq_sipush Γ dX11_aParty_149 rfl ?_
          refine jq_iald Γ at_M_1 rfl dX11_aParty_152 (fun v30 => ?_)
          refine jq_iconst Γ dX11_aParty_153 rfl ?_
          refine jq_isub Γ dX11_aParty_154 ?_
          refine jq_cwZ (jq_virt (avs := [jI (jq_w (j11 + 1)), jI 0, jI (jq_w (v30 - 1))]) (st := []) Γ hlY rfl ml_RX11_193 rfl at_M_0 rfl rfl rfl rfl rfl dX11_aParty_155) rfl (fun r σ' h => ctX11_number h) (fun v31 s32 hz33 => ?_)
          refine jq_if_ne (tgt := 163) Γ dX11_aParty_158 rfl ?_ ?_
          · refine jq_sub Γ (L' := [(0, jR 0)]) [0] rfl ?_
            exact hj163_0 s32
          · refine jq_iconst Γ dX11_aParty_161 rfl ?_
            exact jq_zreturn Γ (Or.inl rfl) dX11_aParty_162 (hK0 _)
  refine jq_sipush Γ dX11_aParty_0 rfl ?_
  refine jq_iconst Γ dX11_aParty_3 rfl ?_
  refine jq_aload_n Γ dX11_aParty_4 rfl 0 rfl (jq_at_0 at_M_0) ?_
  refine jq_getR (v := 1) Γ hlY at_M_0 fl_RX11_7 rfl rfl ly_X11_at dX11_aParty_5 ?_
  refine jq_sipush Γ dX11_aParty_8 rfl ?_
  refine jq_iald Γ at_M_1 rfl dX11_aParty_11 (fun v1 => ?_)
  refine jq_imul Γ dX11_aParty_12 ?_
  refine jq_iadd Γ dX11_aParty_13 ?_
  refine jq_nmI (fun v2 => ?_)
  refine jq_istore_n (L' := [(1, jI v2), (0, jR 0)]) Γ dX11_aParty_14 rfl hnl rfl rfl ?_
  refine jq_aload_n Γ dX11_aParty_15 rfl 1 rfl (jq_at_0 at_M_0) ?_
  refine jq_iconst Γ dX11_aParty_16 rfl ?_
  refine jq_iconst Γ dX11_aParty_17 rfl ?_
  refine jq_aload_n Γ dX11_aParty_18 rfl 1 rfl (jq_at_0 at_M_0) ?_
  refine jq_getR (v := 1) Γ hlY at_M_0 fl_RX11_7 rfl rfl ly_X11_at dX11_aParty_19 ?_
  refine jq_sipush Γ dX11_aParty_22 rfl ?_
  refine jq_iald Γ at_M_1 rfl dX11_aParty_25 (fun v3 => ?_)
  refine jq_mmin Γ mw_RX11_139 mws_min mwi mwc_min rfl rfl dX11_aParty_26 ?_
  refine jq_iconst Γ dX11_aParty_29 rfl ?_
  refine jq_cwZ (jq_virt (avs := [jI 1, jI (jq_min 5 v3), jI 0]) (st := []) Γ hlY rfl ml_RX11_186 rfl at_M_0 rfl rfl rfl rfl rfl dX11_aParty_30) rfl (fun r σ' h => ctX11_newOne h) (fun v4 s5 hz6 => ?_)
  refine jq_if_ne (tgt := 38) Γ dX11_aParty_33 rfl ?_ ?_
  · refine jq_aload_n Γ dX11_aParty_38 rfl 1 rfl (jq_at_0 at_M_0) ?_
    refine jq_getR (v := 1) Γ hlY at_M_0 fl_RX11_7 rfl rfl ly_X11_at dX11_aParty_39 ?_
    refine jq_iload_n Γ dX11_aParty_42 rfl 0 rfl ?_
    refine jq_iconst Γ dX11_aParty_43 rfl ?_
    refine jq_iadd Γ dX11_aParty_44 ?_
    refine jq_iconst Γ dX11_aParty_45 rfl ?_
    refine jq_iast Γ at_M_1 rfl dX11_aParty_46 (fun s7 => ?_)
    refine jq_aload_n Γ dX11_aParty_47 rfl 1 rfl (jq_at_0 at_M_0) ?_
    refine jq_bipush Γ dX11_aParty_48 rfl ?_
    refine jq_cwZ (jq_virt (avs := [jI 6]) (st := []) Γ hlY rfl ml_RX11_190 rfl at_M_0 rfl rfl rfl rfl rfl dX11_aParty_50) rfl (fun r σ' h => ctX11_isThere h) (fun v8 s9 hz10 => ?_)
    refine jq_if_eq (tgt := 69) Γ dX11_aParty_53 rfl ?_ ?_
    · refine jq_sub Γ (L' := [(0, jR 0), (1, jI v2)]) [1, 0] rfl ?_
      exact hj69_0 v2 s9
    · refine jq_aload_n Γ dX11_aParty_56 rfl 1 rfl (jq_at_0 at_M_0) ?_
      refine jq_iload_n Γ dX11_aParty_57 rfl 0 rfl ?_
      refine jq_iconst Γ dX11_aParty_58 rfl ?_
      refine jq_bipush Γ dX11_aParty_59 rfl ?_
      refine jq_cwZ (jq_virt (avs := [jI v2, jI 0, jI 50]) (st := []) Γ hlY rfl ml_RX11_193 rfl at_M_0 rfl rfl rfl rfl rfl dX11_aParty_61) rfl (fun r σ' h => ctX11_number h) (fun v34 s35 hz36 => ?_)
      refine jq_if_ne (tgt := 69) Γ dX11_aParty_64 rfl ?_ ?_
      · refine jq_sub Γ (L' := [(0, jR 0), (1, jI v2)]) [1, 0] rfl ?_
        exact hj69_0 v2 s35
      · refine jq_iconst Γ dX11_aParty_67 rfl ?_
        exact jq_zreturn Γ (Or.inl rfl) dX11_aParty_68 (hK0 _)
  · refine jq_iconst Γ dX11_aParty_36 rfl ?_
    exact jq_zreturn Γ (Or.inl rfl) dX11_aParty_37 (hK0 _)


