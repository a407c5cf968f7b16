theorem yf_X11_test : Cond.instanceMethod yX11_test ∈ jq_T ∧ Cond.selects (yX11_test).cls yX11_test yX11_test ∈ jq_T ∧ Cond.initialized (yX11_test).cls ∈ jq_T ∧ Cond.code yX11_test cX11_test 3 (some .boolean) ∈ jq_T ∧ ((yX11_test).cls ≠ "java/lang/invoke/MethodHandle" ∧ (yX11_test).cls ≠ "java/lang/invoke/VarHandle" ∧ (parseMethodDescriptor (yX11_test).desc).map (fun d => d.parameters.length) = some 1) := ⟨jq_in 1858 (by decide +kernel) rfl, jq_in 69 (by decide +kernel) rfl, jq_in 150 (by decide +kernel) rfl, jq_in 1859 (by decide +kernel) rfl, ⟨by decide, by decide, by decide +kernel⟩⟩
theorem ml_RX11_236 : jq_vl RX11 236 yX11_test cX11_test 3 (some .boolean) 1 := ⟨jq_in 1856 (by decide +kernel) rfl, yf_X11_test⟩
theorem fl_RX11_242 : jq_fl RX11 242 8 37 22 false := ⟨RX11, TX11, tyX11, cls_X11, by decide, jq_in 1584 (by decide +kernel) rfl, by decide⟩
theorem yf_X11_sessionOrder : Cond.instanceMethod yX11_sessionOrder ∈ jq_T ∧ Cond.selects (yX11_sessionOrder).cls yX11_sessionOrder yX11_sessionOrder ∈ jq_T ∧ Cond.initialized (yX11_sessionOrder).cls ∈ jq_T ∧ Cond.code yX11_sessionOrder cX11_sessionOrder 3 (some .boolean) ∈ jq_T ∧ ((yX11_sessionOrder).cls ≠ "java/lang/invoke/MethodHandle" ∧ (yX11_sessionOrder).cls ≠ "java/lang/invoke/VarHandle" ∧ (parseMethodDescriptor (yX11_sessionOrder).desc).map (fun d => d.parameters.length) = some 2) := ⟨jq_in 1842 (by decide +kernel) rfl, jq_in 65 (by decide +kernel) rfl, jq_in 150 (by decide +kernel) rfl, jq_in 1843 (by decide +kernel) rfl, ⟨by decide, by decide, by decide +kernel⟩⟩
theorem ml_RX11_245 : jq_vl RX11 245 yX11_sessionOrder cX11_sessionOrder 3 (some .boolean) 2 := ⟨jq_in 1840 (by decide +kernel) rfl, yf_X11_sessionOrder⟩
theorem fl_RX11_239 : jq_fl RX11 239 8 37 21 false := ⟨RX11, TX11, tyX11, cls_X11, by decide, jq_in 1583 (by decide +kernel) rfl, by decide⟩
theorem fl_RX11_44 : jq_fl RX11 44 8 37 20 true := ⟨RX11, TX11, tyX11, cls_X11, by decide, jq_in 1582 (by decide +kernel) rfl, by decide⟩
theorem yf_X11_sessionStep : Cond.instanceMethod yX11_sessionStep ∈ jq_T ∧ Cond.selects (yX11_sessionStep).cls yX11_sessionStep yX11_sessionStep ∈ jq_T ∧ Cond.initialized (yX11_sessionStep).cls ∈ jq_T ∧ Cond.code yX11_sessionStep cX11_sessionStep 6 (some .boolean) ∈ jq_T ∧ ((yX11_sessionStep).cls ≠ "java/lang/invoke/MethodHandle" ∧ (yX11_sessionStep).cls ≠ "java/lang/invoke/VarHandle" ∧ (parseMethodDescriptor (yX11_sessionStep).desc).map (fun d => d.parameters.length) = some 0) := ⟨jq_in 1838 (by decide +kernel) rfl, jq_in 64 (by decide +kernel) rfl, jq_in 150 (by decide +kernel) rfl, jq_in 1839 (by decide +kernel) rfl, ⟨by decide, by decide, by decide +kernel⟩⟩
theorem ml_RX11_248 : jq_vl RX11 248 yX11_sessionStep cX11_sessionStep 6 (some .boolean) 0 := ⟨jq_in 1836 (by decide +kernel) rfl, yf_X11_sessionStep⟩
theorem yf_X11_isParty : Cond.instanceMethod yX11_isParty ∈ jq_T ∧ Cond.selects (yX11_isParty).cls yX11_isParty yX11_isParty ∈ jq_T ∧ Cond.initialized (yX11_isParty).cls ∈ jq_T ∧ Cond.code yX11_isParty cX11_isParty 2 (some .boolean) ∈ jq_T ∧ ((yX11_isParty).cls ≠ "java/lang/invoke/MethodHandle" ∧ (yX11_isParty).cls ≠ "java/lang/invoke/VarHandle" ∧ (parseMethodDescriptor (yX11_isParty).desc).map (fun d => d.parameters.length) = some 1) := ⟨jq_in 1956 (by decide +kernel) rfl, jq_in 88 (by decide +kernel) rfl, jq_in 150 (by decide +kernel) rfl, jq_in 1957 (by decide +kernel) rfl, ⟨by decide, by decide, by decide +kernel⟩⟩
theorem ml_RX11_251 : jq_vl RX11 251 yX11_isParty cX11_isParty 2 (some .boolean) 1 := ⟨jq_in 1954 (by decide +kernel) rfl, yf_X11_isParty⟩
theorem yf_X11_partyRow : Cond.static yX11_partyRow ∈ jq_T ∧ Cond.initialized (yX11_partyRow).cls ∈ jq_T ∧ Cond.code yX11_partyRow cX11_partyRow 1 (some .int) ∈ jq_T ∧ ((yX11_partyRow).cls ≠ "java/lang/invoke/MethodHandle" ∧ (yX11_partyRow).cls ≠ "java/lang/invoke/VarHandle" ∧ (parseMethodDescriptor (yX11_partyRow).desc).map (fun d => d.parameters.length) = some 1) := ⟨jq_in 1873 (by decide +kernel) rfl, jq_in 150 (by decide +kernel) rfl, jq_in 1874 (by decide +kernel) rfl, ⟨by decide, by decide, by decide +kernel⟩⟩
theorem ml_RX11_254 : jq_sl RX11 254 yX11_partyRow cX11_partyRow 1 (some .int) 1 := ⟨jq_in 1872 (by decide +kernel) rfl, yf_X11_partyRow⟩
theorem fl_RX11_47 : jq_fl RX11 47 8 37 23 true := ⟨RX11, TX11, tyX11, cls_X11, by decide, jq_in 1585 (by decide +kernel) rfl, by decide⟩
theorem yf_X11_seatOf : Cond.instanceMethod yX11_seatOf ∈ jq_T ∧ Cond.selects (yX11_seatOf).cls yX11_seatOf yX11_seatOf ∈ jq_T ∧ Cond.initialized (yX11_seatOf).cls ∈ jq_T ∧ Cond.code yX11_seatOf cX11_seatOf 2 (some .int) ∈ jq_T ∧ ((yX11_seatOf).cls ≠ "java/lang/invoke/MethodHandle" ∧ (yX11_seatOf).cls ≠ "java/lang/invoke/VarHandle" ∧ (parseMethodDescriptor (yX11_seatOf).desc).map (fun d => d.parameters.length) = some 1) := ⟨jq_in 1870 (by decide +kernel) rfl, jq_in 71 (by decide +kernel) rfl, jq_in 150 (by decide +kernel) rfl, jq_in 1871 (by decide +kernel) rfl, ⟨by decide, by decide, by decide +kernel⟩⟩
theorem ml_RX11_257 : jq_vl RX11 257 yX11_seatOf cX11_seatOf 2 (some .int) 1 := ⟨jq_in 1868 (by decide +kernel) rfl, yf_X11_seatOf⟩
theorem mw_RX11_260 : Cond.methodLink RX11 260 Lib.Math.abs.name ∈ jq_T := jq_in 1906 (by decide +kernel) rfl
theorem yf_X11_wishRow : Cond.static yX11_wishRow ∈ jq_T ∧ Cond.initialized (yX11_wishRow).cls ∈ jq_T ∧ Cond.code yX11_wishRow cX11_wishRow 1 (some .int) ∈ jq_T ∧ ((yX11_wishRow).cls ≠ "java/lang/invoke/MethodHandle" ∧ (yX11_wishRow).cls ≠ "java/lang/invoke/VarHandle" ∧ (parseMethodDescriptor (yX11_wishRow).desc).map (fun d => d.parameters.length) = some 1) := ⟨jq_in 1892 (by decide +kernel) rfl, jq_in 150 (by decide +kernel) rfl, jq_in 1893 (by decide +kernel) rfl, ⟨by decide, by decide, by decide +kernel⟩⟩
theorem ml_RX11_263 : jq_sl RX11 263 yX11_wishRow cX11_wishRow 1 (some .int) 1 := ⟨jq_in 1891 (by decide +kernel) rfl, yf_X11_wishRow⟩
theorem yf_X11_areFacing : Cond.instanceMethod yX11_areFacing ∈ jq_T ∧ Cond.selects (yX11_areFacing).cls yX11_areFacing yX11_areFacing ∈ jq_T ∧ Cond.initialized (yX11_areFacing).cls ∈ jq_T ∧ Cond.code yX11_areFacing cX11_areFacing 3 (some .boolean) ∈ jq_T ∧ ((yX11_areFacing).cls ≠ "java/lang/invoke/MethodHandle" ∧ (yX11_areFacing).cls ≠ "java/lang/invoke/VarHandle" ∧ (parseMethodDescriptor (yX11_areFacing).desc).map (fun d => d.parameters.length) = some 2) := ⟨jq_in 1909 (by decide +kernel) rfl, jq_in 79 (by decide +kernel) rfl, jq_in 150 (by decide +kernel) rfl, jq_in 1910 (by decide +kernel) rfl, ⟨by decide, by decide, by decide +kernel⟩⟩
theorem ml_RX11_272 : jq_vl RX11 272 yX11_areFacing cX11_areFacing 3 (some .boolean) 2 := ⟨jq_in 1907 (by decide +kernel) rfl, yf_X11_areFacing⟩
theorem yf_X11_areBeside : Cond.instanceMethod yX11_areBeside ∈ jq_T ∧ Cond.selects (yX11_areBeside).cls yX11_areBeside yX11_areBeside ∈ jq_T ∧ Cond.initialized (yX11_areBeside).cls ∈ jq_T ∧ Cond.code yX11_areBeside cX11_areBeside 4 (some .boolean) ∈ jq_T ∧ ((yX11_areBeside).cls ≠ "java/lang/invoke/MethodHandle" ∧ (yX11_areBeside).cls ≠ "java/lang/invoke/VarHandle" ∧ (parseMethodDescriptor (yX11_areBeside).desc).map (fun d => d.parameters.length) = some 2) := ⟨jq_in 1904 (by decide +kernel) rfl, jq_in 78 (by decide +kernel) rfl, jq_in 150 (by decide +kernel) rfl, jq_in 1905 (by decide +kernel) rfl, ⟨by decide, by decide, by decide +kernel⟩⟩
theorem ml_RX11_269 : jq_vl RX11 269 yX11_areBeside cX11_areBeside 4 (some .boolean) 2 := ⟨jq_in 1902 (by decide +kernel) rfl, yf_X11_areBeside⟩
theorem yf_X11_isIn : Cond.instanceMethod yX11_isIn ∈ jq_T ∧ Cond.selects (yX11_isIn).cls yX11_isIn yX11_isIn ∈ jq_T ∧ Cond.initialized (yX11_isIn).cls ∈ jq_T ∧ Cond.code yX11_isIn cX11_isIn 3 (some .boolean) ∈ jq_T ∧ ((yX11_isIn).cls ≠ "java/lang/invoke/MethodHandle" ∧ (yX11_isIn).cls ≠ "java/lang/invoke/VarHandle" ∧ (parseMethodDescriptor (yX11_isIn).desc).map (fun d => d.parameters.length) = some 2) := ⟨jq_in 1900 (by decide +kernel) rfl, jq_in 77 (by decide +kernel) rfl, jq_in 150 (by decide +kernel) rfl, jq_in 1901 (by decide +kernel) rfl, ⟨by decide, by decide, by decide +kernel⟩⟩
theorem ml_RX11_266 : jq_vl RX11 266 yX11_isIn cX11_isIn 3 (some .boolean) 2 := ⟨jq_in 1898 (by decide +kernel) rfl, yf_X11_isIn⟩
theorem yf_X11_isHad : Cond.instanceMethod yX11_isHad ∈ jq_T ∧ Cond.selects (yX11_isHad).cls yX11_isHad yX11_isHad ∈ jq_T ∧ Cond.initialized (yX11_isHad).cls ∈ jq_T ∧ Cond.code yX11_isHad cX11_isHad 5 (some .boolean) ∈ jq_T ∧ ((yX11_isHad).cls ≠ "java/lang/invoke/MethodHandle" ∧ (yX11_isHad).cls ≠ "java/lang/invoke/VarHandle" ∧ (parseMethodDescriptor (yX11_isHad).desc).map (fun d => d.parameters.length) = some 1) := ⟨jq_in 1896 (by decide +kernel) rfl, jq_in 76 (by decide +kernel) rfl, jq_in 150 (by decide +kernel) rfl, jq_in 1897 (by decide +kernel) rfl, ⟨by decide, by decide, by decide +kernel⟩⟩
theorem ml_RX11_275 : jq_vl RX11 275 yX11_isHad cX11_isHad 5 (some .boolean) 1 := ⟨jq_in 1894 (by decide +kernel) rfl, yf_X11_isHad⟩
theorem dX11_sessionOrder_0 : decode cX11_sessionOrder 0 = .ok (.iload_n 1, 1) := by decide +kernel
theorem dX11_sessionOrder_1 : decode cX11_sessionOrder 1 = .ok (.tableswitch 171 13 22 #[55, 90, 98, 124, 135, 146, 146, 171, 165, 154], 55) := by decide +kernel
theorem dX11_sessionOrder_56 : decode cX11_sessionOrder 56 = .ok (.aload_n 0, 1) := by decide +kernel
theorem dX11_sessionOrder_57 : decode cX11_sessionOrder 57 = .ok (.iload_n 2, 1) := by decide +kernel
theorem dX11_sessionOrder_58 : decode cX11_sessionOrder 58 = .ok (.iconst 1, 1) := by decide +kernel
theorem dX11_sessionOrder_59 : decode cX11_sessionOrder 59 = .ok (.iadd, 1) := by decide +kernel
theorem dX11_sessionOrder_60 : decode cX11_sessionOrder 60 = .ok (.invokevirtual 230, 3) := by decide +kernel
theorem dX11_sessionOrder_63 : decode cX11_sessionOrder 63 = .ok (.ifCond .eq 26, 3) := by decide +kernel
theorem dX11_sessionOrder_66 : decode cX11_sessionOrder 66 = .ok (.aload_n 0, 1) := by decide +kernel
theorem dX11_sessionOrder_67 : decode cX11_sessionOrder 67 = .ok (.iload_n 2, 1) := by decide +kernel
theorem dX11_sessionOrder_68 : decode cX11_sessionOrder 68 = .ok (.iconst 2, 1) := by decide +kernel
theorem dX11_sessionOrder_69 : decode cX11_sessionOrder 69 = .ok (.iadd, 1) := by decide +kernel
theorem dX11_sessionOrder_70 : decode cX11_sessionOrder 70 = .ok (.iconst 0, 1) := by decide +kernel
theorem dX11_sessionOrder_71 : decode cX11_sessionOrder 71 = .ok (.aload_n 0, 1) := by decide +kernel
theorem dX11_sessionOrder_72 : decode cX11_sessionOrder 72 = .ok (.getfield 7, 3) := by decide +kernel
theorem dX11_sessionOrder_75 : decode cX11_sessionOrder 75 = .ok (.iconst 0, 1) := by decide +kernel
theorem dX11_sessionOrder_76 : decode cX11_sessionOrder 76 = .ok (.iaload, 1) := by decide +kernel
theorem dX11_sessionOrder_77 : decode cX11_sessionOrder 77 = .ok (.iconst 1, 1) := by decide +kernel
theorem dX11_sessionOrder_78 : decode cX11_sessionOrder 78 = .ok (.isub, 1) := by decide +kernel
theorem dX11_sessionOrder_79 : decode cX11_sessionOrder 79 = .ok (.invokevirtual 193, 3) := by decide +kernel
theorem dX11_sessionOrder_82 : decode cX11_sessionOrder 82 = .ok (.ifCond .eq 7, 3) := by decide +kernel
theorem dX11_sessionOrder_85 : decode cX11_sessionOrder 85 = .ok (.iconst 1, 1) := by decide +kernel
theorem dX11_sessionOrder_86 : decode cX11_sessionOrder 86 = .ok (.goto 4, 3) := by decide +kernel
theorem dX11_sessionOrder_89 : decode cX11_sessionOrder 89 = .ok (.iconst 0, 1) := by decide +kernel
theorem dX11_sessionOrder_90 : decode cX11_sessionOrder 90 = .ok (.ireturn, 1) := by decide +kernel
theorem dX11_sessionOrder_91 : decode cX11_sessionOrder 91 = .ok (.aload_n 0, 1) := by decide +kernel
theorem dX11_sessionOrder_92 : decode cX11_sessionOrder 92 = .ok (.iload_n 2, 1) := by decide +kernel
theorem dX11_sessionOrder_93 : decode cX11_sessionOrder 93 = .ok (.iconst 1, 1) := by decide +kernel
theorem dX11_sessionOrder_94 : decode cX11_sessionOrder 94 = .ok (.iadd, 1) := by decide +kernel
theorem dX11_sessionOrder_95 : decode cX11_sessionOrder 95 = .ok (.invokevirtual 230, 3) := by decide +kernel
theorem dX11_sessionOrder_98 : decode cX11_sessionOrder 98 = .ok (.ireturn, 1) := by decide +kernel
theorem dX11_sessionOrder_99 : decode cX11_sessionOrder 99 = .ok (.aload_n 0, 1) := by decide +kernel
theorem dX11_sessionOrder_100 : decode cX11_sessionOrder 100 = .ok (.iload_n 2, 1) := by decide +kernel
theorem dX11_sessionOrder_101 : decode cX11_sessionOrder 101 = .ok (.iconst 1, 1) := by decide +kernel
theorem dX11_sessionOrder_102 : decode cX11_sessionOrder 102 = .ok (.iadd, 1) := by decide +kernel
theorem dX11_sessionOrder_103 : decode cX11_sessionOrder 103 = .ok (.invokevirtual 230, 3) := by decide +kernel
theorem dX11_sessionOrder_106 : decode cX11_sessionOrder 106 = .ok (.ifCond .eq 17, 3) := by decide +kernel
theorem dX11_sessionOrder_109 : decode cX11_sessionOrder 109 = .ok (.aload_n 0, 1) := by decide +kernel
theorem dX11_sessionOrder_110 : decode cX11_sessionOrder 110 = .ok (.iload_n 2, 1) := by decide +kernel
theorem dX11_sessionOrder_111 : decode cX11_sessionOrder 111 = .ok (.iconst 2, 1) := by decide +kernel
theorem dX11_sessionOrder_112 : decode cX11_sessionOrder 112 = .ok (.iadd, 1) := by decide +kernel
theorem dX11_sessionOrder_113 : decode cX11_sessionOrder 113 = .ok (.invokevirtual 230, 3) := by decide +kernel
theorem dX11_sessionOrder_116 : decode cX11_sessionOrder 116 = .ok (.ifCond .eq 7, 3) := by decide +kernel
theorem dX11_sessionOrder_119 : decode cX11_sessionOrder 119 = .ok (.iconst 1, 1) := by decide +kernel
theorem dX11_sessionOrder_120 : decode cX11_sessionOrder 120 = .ok (.goto 4, 3) := by decide +kernel
theorem dX11_sessionOrder_123 : decode cX11_sessionOrder 123 = .ok (.iconst 0, 1) := by decide +kernel
theorem dX11_sessionOrder_124 : decode cX11_sessionOrder 124 = .ok (.ireturn, 1) := by decide +kernel
theorem dX11_sessionOrder_125 : decode cX11_sessionOrder 125 = .ok (.aload_n 0, 1) := by decide +kernel
theorem dX11_sessionOrder_126 : decode cX11_sessionOrder 126 = .ok (.iload_n 2, 1) := by decide +kernel
theorem dX11_sessionOrder_127 : decode cX11_sessionOrder 127 = .ok (.iconst 1, 1) := by decide +kernel
theorem dX11_sessionOrder_128 : decode cX11_sessionOrder 128 = .ok (.iadd, 1) := by decide +kernel
theorem dX11_sessionOrder_129 : decode cX11_sessionOrder 129 = .ok (.iconst 0, 1) := by decide +kernel
theorem dX11_sessionOrder_130 : decode cX11_sessionOrder 130 = .ok (.bipush 9, 2) := by decide +kernel
theorem dX11_sessionOrder_132 : decode cX11_sessionOrder 132 = .ok (.invokevirtual 193, 3) := by decide +kernel
theorem dX11_sessionOrder_135 : decode cX11_sessionOrder 135 = .ok (.ireturn, 1) := by decide +kernel
theorem dX11_sessionOrder_136 : decode cX11_sessionOrder 136 = .ok (.aload_n 0, 1) := by decide +kernel
theorem dX11_sessionOrder_137 : decode cX11_sessionOrder 137 = .ok (.iload_n 2, 1) := by decide +kernel
theorem dX11_sessionOrder_138 : decode cX11_sessionOrder 138 = .ok (.iconst 1, 1) := by decide +kernel
theorem dX11_sessionOrder_139 : decode cX11_sessionOrder 139 = .ok (.iadd, 1) := by decide +kernel
theorem dX11_sessionOrder_140 : decode cX11_sessionOrder 140 = .ok (.iconst 1, 1) := by decide +kernel
theorem dX11_sessionOrder_141 : decode cX11_sessionOrder 141 = .ok (.bipush 20, 2) := by decide +kernel
theorem dX11_sessionOrder_143 : decode cX11_sessionOrder 143 = .ok (.invokevirtual 193, 3) := by decide +kernel
theorem dX11_sessionOrder_146 : decode cX11_sessionOrder 146 = .ok (.ireturn, 1) := by decide +kernel
theorem dX11_sessionOrder_147 : decode cX11_sessionOrder 147 = .ok (.aload_n 0, 1) := by decide +kernel
theorem dX11_sessionOrder_148 : decode cX11_sessionOrder 148 = .ok (.iload_n 2, 1) := by decide +kernel
theorem dX11_sessionOrder_149 : decode cX11_sessionOrder 149 = .ok (.iconst 1, 1) := by decide +kernel
theorem dX11_sessionOrder_150 : decode cX11_sessionOrder 150 = .ok (.iadd, 1) := by decide +kernel
theorem dX11_sessionOrder_151 : decode cX11_sessionOrder 151 = .ok (.invokevirtual 233, 3) := by decide +kernel
theorem dX11_sessionOrder_154 : decode cX11_sessionOrder 154 = .ok (.ireturn, 1) := by decide +kernel
theorem dX11_sessionOrder_155 : decode cX11_sessionOrder 155 = .ok (.aload_n 0, 1) := by decide +kernel
theorem dX11_sessionOrder_156 : decode cX11_sessionOrder 156 = .ok (.iload_n 2, 1) := by decide +kernel
theorem dX11_sessionOrder_157 : decode cX11_sessionOrder 157 = .ok (.iconst 1, 1) := by decide +kernel
theorem dX11_sessionOrder_158 : decode cX11_sessionOrder 158 = .ok (.iadd, 1) := by decide +kernel
theorem dX11_sessionOrder_159 : decode cX11_sessionOrder 159 = .ok (.iconst 1, 1) := by decide +kernel
theorem dX11_sessionOrder_160 : decode cX11_sessionOrder 160 = .ok (.bipush 99, 2) := by decide +kernel
theorem dX11_sessionOrder_162 : decode cX11_sessionOrder 162 = .ok (.invokevirtual 193, 3) := by decide +kernel
theorem dX11_sessionOrder_165 : decode cX11_sessionOrder 165 = .ok (.ireturn, 1) := by decide +kernel
theorem dX11_sessionOrder_166 : decode cX11_sessionOrder 166 = .ok (.aload_n 0, 1) := by decide +kernel
theorem dX11_sessionOrder_167 : decode cX11_sessionOrder 167 = .ok (.iload_n 2, 1) := by decide +kernel
theorem dX11_sessionOrder_168 : decode cX11_sessionOrder 168 = .ok (.invokevirtual 236, 3) := by decide +kernel
theorem dX11_sessionOrder_171 : decode cX11_sessionOrder 171 = .ok (.ireturn, 1) := by decide +kernel
theorem dX11_sessionOrder_172 : decode cX11_sessionOrder 172 = .ok (.iconst 1, 1) := by decide +kernel
theorem dX11_sessionOrder_173 : decode cX11_sessionOrder 173 = .ok (.ireturn, 1) := by decide +kernel
set_option maxHeartbeats 4000000 in
set_option maxRecDepth 100000 in
theorem ctX11_sessionOrder {p1 : Int} {p2 : Int} {σ : jq_M} {res : Int} {σ' : jq_M}  (h : X11_sessionOrder p1 p2 σ = some (res, σ')) : jq_MC jq_zM yX11_sessionOrder cX11_sessionOrder 3 (some .boolean) 10 238 [jR 0, jI p1, jI p2] σ (some (jI res)) σ' := by
  refine jq_met (own := RX11) (L0 := [(0, jR 0), (1, jI p1), (2, jI p2)]) (by decide) rfl rfl rfl ?_
  intro X Γ hnl hlY hRT
  refine jq_use2 (P := fun r => jq_RT jq_zM X (some .boolean) (some (jI r.1)) r.2) ?_ h hRT
  intro K0 hK0
  unfold X11_sessionOrder
  refine jq_iload_n Γ dX11_sessionOrder_0 rfl 1 rfl ?_
  refine jq_split (fun hc1 => ?_) (fun hn13_1 => ?_)
  · refine jq_tabIn (tgt := 56) Γ dX11_sessionOrder_1 hc1 rfl rfl rfl ?_
    refine jq_aload_n Γ dX11_sessionOrder_56 rfl 0 rfl (jq_at_0 at_M_0) ?_
    refine jq_iload_n Γ dX11_sessionOrder_57 rfl 2 rfl ?_
    refine jq_iconst Γ dX11_sessionOrder_58 rfl ?_
    refine jq_iadd Γ dX11_sessionOrder_59 ?_
    refine jq_cwZ (jq_virt (avs := [jI (jq_w (p2 + 1))]) (st := []) Γ hlY rfl ml_RX11_230 rfl at_M_0 rfl rfl rfl rfl rfl dX11_sessionOrder_60) rfl (fun r σ' h => ctX11_oldParty h) (fun v2 s3 hz4 => ?_)
    refine jq_if_eq (tgt := 89) Γ dX11_sessionOrder_63 rfl ?_ ?_
    · refine jq_iconst Γ dX11_sessionOrder_89 rfl ?_
      exact jq_zreturn Γ (Or.inl rfl) dX11_sessionOrder_90 (hK0 _)
    · refine jq_aload_n Γ dX11_sessionOrder_66 rfl 0 rfl (jq_at_0 at_M_0) ?_
      refine jq_iload_n Γ dX11_sessionOrder_67 rfl 2 rfl ?_
      refine jq_iconst Γ dX11_sessionOrder_68 rfl ?_
      refine jq_iadd Γ dX11_sessionOrder_69 ?_
      refine jq_iconst Γ dX11_sessionOrder_70 rfl ?_
      refine jq_aload_n Γ dX11_sessionOrder_71 rfl 0 rfl (jq_at_0 at_M_0) ?_
      refine jq_getR (v := 1) Γ hlY at_M_0 fl_RX11_7 rfl rfl ly_X11_at dX11_sessionOrder_72 ?_
      refine jq_iconst Γ dX11_sessionOrder_75 rfl ?_
      refine jq_iald Γ at_M_1 rfl dX11_sessionOrder_76 (fun v5 => ?_)
      refine jq_iconst Γ dX11_sessionOrder_77 rfl ?_
      refine jq_isub Γ dX11_sessionOrder_78 ?_
      refine jq_cwZ (jq_virt (avs := [jI (jq_w (p2 + 2)), jI 0, jI (jq_w (v5 - 1))]) (st := []) Γ hlY rfl ml_RX11_193 rfl at_M_0 rfl rfl rfl rfl rfl dX11_sessionOrder_79) rfl (fun r σ' h => ctX11_number h) (fun v6 s7 hz8 => ?_)
      refine jq_if_eq (tgt := 89) Γ dX11_sessionOrder_82 rfl ?_ ?_
      · refine jq_iconst Γ dX11_sessionOrder_89 rfl ?_
        exact jq_zreturn Γ (Or.inl rfl) dX11_sessionOrder_90 (hK0 _)
      · refine jq_iconst Γ dX11_sessionOrder_85 rfl ?_
        refine jq_goto Γ (tgt := 90) dX11_sessionOrder_86 rfl ?_
        exact jq_zreturn Γ (Or.inr rfl) dX11_sessionOrder_90 (hK0 _)
  · refine jq_split (fun hc9 => ?_) (fun hn14_1 => ?_)
    · refine jq_tabIn (tgt := 91) Γ dX11_sessionOrder_1 hc9 rfl rfl rfl ?_
      refine jq_aload_n Γ dX11_sessionOrder_91 rfl 0 rfl (jq_at_0 at_M_0) ?_
      refine jq_iload_n Γ dX11_sessionOrder_92 rfl 2 rfl ?_
      refine jq_iconst Γ dX11_sessionOrder_93 rfl ?_
      refine jq_iadd Γ dX11_sessionOrder_94 ?_
      refine jq_cwZ (jq_virt (avs := [jI (jq_w (p2 + 1))]) (st := []) Γ hlY rfl ml_RX11_230 rfl at_M_0 rfl rfl rfl rfl rfl dX11_sessionOrder_95) rfl (fun r σ' h => ctX11_oldParty h) (fun v10 s11 hz12 => ?_)
      exact jq_zreturn Γ (hz12) dX11_sessionOrder_98 (hK0 _)
    · refine jq_split (fun hc13 => ?_) (fun hn15_1 => ?_)
      · refine jq_tabIn (tgt := 99) Γ dX11_sessionOrder_1 hc13 rfl rfl rfl ?_
        refine jq_aload_n Γ dX11_sessionOrder_99 rfl 0 rfl (jq_at_0 at_M_0) ?_
        refine jq_iload_n Γ dX11_sessionOrder_100 rfl 2 rfl ?_
        refine jq_iconst Γ dX11_sessionOrder_101 rfl ?_
        refine jq_iadd Γ dX11_sessionOrder_102 ?_
        refine jq_cwZ (jq_virt (avs := [jI (jq_w (p2 + 1))]) (st := []) Γ hlY rfl ml_RX11_230 rfl at_M_0 rfl rfl rfl rfl rfl dX11_sessionOrder_103) rfl (fun r σ' h => ctX11_oldParty h) (fun v14 s15 hz16 => ?_)
        refine jq_if_eq (tgt := 123) Γ dX11_sessionOrder_106 rfl ?_ ?_
        · refine jq_iconst Γ dX11_sessionOrder_123 rfl ?_
          exact jq_zreturn Γ (Or.inl rfl) dX11_sessionOrder_124 (hK0 _)
        · refine jq_aload_n Γ dX11_sessionOrder_109 rfl 0 rfl (jq_at_0 at_M_0) ?_
          refine jq_iload_n Γ dX11_sessionOrder_110 rfl 2 rfl ?_
          refine jq_iconst Γ dX11_sessionOrder_111 rfl ?_
          refine jq_iadd Γ dX11_sessionOrder_112 ?_
          refine jq_cwZ (jq_virt (avs := [jI (jq_w (p2 + 2))]) (st := []) Γ hlY rfl ml_RX11_230 rfl at_M_0 rfl rfl rfl rfl rfl dX11_sessionOrder_113) rfl (fun r σ' h => ctX11_oldParty h) (fun v17 s18 hz19 => ?_)
          refine jq_if_eq (tgt := 123) Γ dX11_sessionOrder_116 rfl ?_ ?_
          · refine jq_iconst Γ dX11_sessionOrder_123 rfl ?_
            exact jq_zreturn Γ (Or.inl rfl) dX11_sessionOrder_124 (hK0 _)
          · refine jq_iconst Γ dX11_sessionOrder_119 rfl ?_
            refine jq_goto Γ (tgt := 124) dX11_sessionOrder_120 rfl ?_
            exact jq_zreturn Γ (Or.inr rfl) dX11_sessionOrder_124 (hK0 _)
      · refine jq_split (fun hc20 => ?_) (fun hn16_1 => ?_)
        · refine jq_tabIn (tgt := 125) Γ dX11_sessionOrder_1 hc20 rfl rfl rfl ?_
          refine jq_aload_n Γ dX11_sessionOrder_125 rfl 0 rfl (jq_at_0 at_M_0) ?_
          refine jq_iload_n Γ dX11_sessionOrder_126 rfl 2 rfl ?_
          refine jq_iconst Γ dX11_sessionOrder_127 rfl ?_
          refine jq_iadd Γ dX11_sessionOrder_128 ?_
          refine jq_iconst Γ dX11_sessionOrder_129 rfl ?_
          refine jq_bipush Γ dX11_sessionOrder_130 rfl ?_
          refine jq_cwZ (jq_virt (avs := [jI (jq_w (p2 + 1)), jI 0, jI 9]) (st := []) Γ hlY rfl ml_RX11_193 rfl at_M_0 rfl rfl rfl rfl rfl dX11_sessionOrder_132) rfl (fun r σ' h => ctX11_number h) (fun v21 s22 hz23 => ?_)
          exact jq_zreturn Γ (hz23) dX11_sessionOrder_135 (hK0 _)
        · refine jq_split (fun hc24 => ?_) (fun hn17_1 => ?_)
          · refine jq_tabIn (tgt := 136) Γ dX11_sessionOrder_1 hc24 rfl rfl rfl ?_
            refine jq_aload_n Γ dX11_sessionOrder_136 rfl 0 rfl (jq_at_0 at_M_0) ?_
            refine jq_iload_n Γ dX11_sessionOrder_137 rfl 2 rfl ?_
            refine jq_iconst Γ dX11_sessionOrder_138 rfl ?_
            refine jq_iadd Γ dX11_sessionOrder_139 ?_
            refine jq_iconst Γ dX11_sessionOrder_140 rfl ?_
            refine jq_bipush Γ dX11_sessionOrder_141 rfl ?_
            refine jq_cwZ (jq_virt (avs := [jI (jq_w (p2 + 1)), jI 1, jI 20]) (st := []) Γ hlY rfl ml_RX11_193 rfl at_M_0 rfl rfl rfl rfl rfl dX11_sessionOrder_143) rfl (fun r σ' h => ctX11_number h) (fun v25 s26 hz27 => ?_)
            exact jq_zreturn Γ (hz27) dX11_sessionOrder_146 (hK0 _)
          · refine jq_split (fun hc28 => ?_) (fun hn18_1 => ?_)
            · refine jq_tabIn (tgt := 147) Γ dX11_sessionOrder_1 hc28 rfl rfl rfl ?_
              refine jq_aload_n Γ dX11_sessionOrder_147 rfl 0 rfl (jq_at_0 at_M_0) ?_
              refine jq_iload_n Γ dX11_sessionOrder_148 rfl 2 rfl ?_
              refine jq_iconst Γ dX11_sessionOrder_149 rfl ?_
              refine jq_iadd Γ dX11_sessionOrder_150 ?_
              refine jq_cwZ (jq_virt (avs := [jI (jq_w (p2 + 1))]) (st := []) Γ hlY rfl ml_RX11_233 rfl at_M_0 rfl rfl rfl rfl rfl dX11_sessionOrder_151) rfl (fun r σ' h => ctX11_oldArticle h) (fun v29 s30 hz31 => ?_)
              exact jq_zreturn Γ (hz31) dX11_sessionOrder_154 (hK0 _)
            · refine jq_split (fun hc32 => ?_) (fun hn19_1 => ?_)
              · refine jq_tabIn (tgt := 147) Γ dX11_sessionOrder_1 hc32 rfl rfl rfl ?_
                refine jq_aload_n Γ dX11_sessionOrder_147 rfl 0 rfl (jq_at_0 at_M_0) ?_
                refine jq_iload_n Γ dX11_sessionOrder_148 rfl 2 rfl ?_
                refine jq_iconst Γ dX11_sessionOrder_149 rfl ?_
                refine jq_iadd Γ dX11_sessionOrder_150 ?_
                refine jq_cwZ (jq_virt (avs := [jI (jq_w (p2 + 1))]) (st := []) Γ hlY rfl ml_RX11_233 rfl at_M_0 rfl rfl rfl rfl rfl dX11_sessionOrder_151) rfl (fun r σ' h => ctX11_oldArticle h) (fun v33 s34 hz35 => ?_)
                exact jq_zreturn Γ (hz35) dX11_sessionOrder_154 (hK0 _)
              · refine jq_split (fun hc36 => ?_) (fun hn20_1 => ?_)
                · refine jq_tabIn (tgt := 172) Γ dX11_sessionOrder_1 hc36 rfl rfl rfl ?_
                  refine jq_iconst Γ dX11_sessionOrder_172 rfl ?_
                  exact jq_zreturn Γ (Or.inr rfl) dX11_sessionOrder_173 (hK0 _)
                · refine jq_split (fun hc37 => ?_) (fun hn21_1 => ?_)
                  · refine jq_tabIn (tgt := 166) Γ dX11_sessionOrder_1 hc37 rfl rfl rfl ?_
                    refine jq_aload_n Γ dX11_sessionOrder_166 rfl 0 rfl (jq_at_0 at_M_0) ?_
                    refine jq_iload_n Γ dX11_sessionOrder_167 rfl 2 rfl ?_
                    refine jq_cwZ (jq_virt (avs := [jI p2]) (st := []) Γ hlY rfl ml_RX11_236 rfl at_M_0 rfl rfl rfl rfl rfl dX11_sessionOrder_168) rfl (fun r σ' h => ctX11_test h) (fun v38 s39 hz40 => ?_)
                    exact jq_zreturn Γ (hz40) dX11_sessionOrder_171 (hK0 _)
                  · refine jq_split (fun hc41 => ?_) (fun hn22_1 => ?_)
                    · refine jq_tabIn (tgt := 155) Γ dX11_sessionOrder_1 hc41 rfl rfl rfl ?_
                      refine jq_aload_n Γ dX11_sessionOrder_155 rfl 0 rfl (jq_at_0 at_M_0) ?_
                      refine jq_iload_n Γ dX11_sessionOrder_156 rfl 2 rfl ?_
                      refine jq_iconst Γ dX11_sessionOrder_157 rfl ?_
                      refine jq_iadd Γ dX11_sessionOrder_158 ?_
                      refine jq_iconst Γ dX11_sessionOrder_159 rfl ?_
                      refine jq_bipush Γ dX11_sessionOrder_160 rfl ?_
                      refine jq_cwZ (jq_virt (avs := [jI (jq_w (p2 + 1)), jI 1, jI 99]) (st := []) Γ hlY rfl ml_RX11_193 rfl at_M_0 rfl rfl rfl rfl rfl dX11_sessionOrder_162) rfl (fun r σ' h => ctX11_number h) (fun v42 s43 hz44 => ?_)
                      exact jq_zreturn Γ (hz44) dX11_sessionOrder_165 (hK0 _)
                    · refine jq_tabOut (tgt := 172) Γ dX11_sessionOrder_1 (by omega) rfl ?_
                      refine jq_iconst Γ dX11_sessionOrder_172 rfl ?_
                      exact jq_zreturn Γ (Or.inr rfl) dX11_sessionOrder_173 (hK0 _)


theorem dX11_sessionStep_0 : decode cX11_sessionStep 0 = .ok (.aload_n 0, 1) := by decide +kernel
theorem dX11_sessionStep_1 : decode cX11_sessionStep 1 = .ok (.ldc 177, 2) := by decide +kernel
theorem dX11_sessionStep_3 : decode cX11_sessionStep 3 = .ok (.invokevirtual 169, 3) := by decide +kernel
theorem dX11_sessionStep_6 : decode cX11_sessionStep 6 = .ok (.istore_n 1, 1) := by decide +kernel
theorem dX11_sessionStep_7 : decode cX11_sessionStep 7 = .ok (.aload_n 0, 1) := by decide +kernel
theorem dX11_sessionStep_8 : decode cX11_sessionStep 8 = .ok (.getfield 7, 3) := by decide +kernel
theorem dX11_sessionStep_11 : decode cX11_sessionStep 11 = .ok (.sipush 2030, 3) := by decide +kernel
theorem dX11_sessionStep_14 : decode cX11_sessionStep 14 = .ok (.iaload, 1) := by decide +kernel
theorem dX11_sessionStep_15 : decode cX11_sessionStep 15 = .ok (.istore_n 2, 1) := by decide +kernel
theorem dX11_sessionStep_16 : decode cX11_sessionStep 16 = .ok (.sipush 2162, 3) := by decide +kernel
theorem dX11_sessionStep_19 : decode cX11_sessionStep 19 = .ok (.bipush 6, 2) := by decide +kernel
theorem dX11_sessionStep_21 : decode cX11_sessionStep 21 = .ok (.iload_n 2, 1) := by decide +kernel
theorem dX11_sessionStep_22 : decode cX11_sessionStep 22 = .ok (.imul, 1) := by decide +kernel
theorem dX11_sessionStep_23 : decode cX11_sessionStep 23 = .ok (.iadd, 1) := by decide +kernel
theorem dX11_sessionStep_24 : decode cX11_sessionStep 24 = .ok (.istore_n 3, 1) := by decide +kernel
theorem dX11_sessionStep_25 : decode cX11_sessionStep 25 = .ok (.iload_n 1, 1) := by decide +kernel
theorem dX11_sessionStep_26 : decode cX11_sessionStep 26 = .ok (.bipush 21, 2) := by decide +kernel
theorem dX11_sessionStep_28 : decode cX11_sessionStep 28 = .ok (.if_icmp .eq 9, 3) := by decide +kernel
theorem dX11_sessionStep_31 : decode cX11_sessionStep 31 = .ok (.iload_n 1, 1) := by decide +kernel
theorem dX11_sessionStep_32 : decode cX11_sessionStep 32 = .ok (.bipush 22, 2) := by decide +kernel
theorem dX11_sessionStep_34 : decode cX11_sessionStep 34 = .ok (.if_icmp .ne 7, 3) := by decide +kernel
theorem dX11_sessionStep_37 : decode cX11_sessionStep 37 = .ok (.iconst 1, 1) := by decide +kernel
theorem dX11_sessionStep_38 : decode cX11_sessionStep 38 = .ok (.goto 4, 3) := by decide +kernel
theorem dX11_sessionStep_41 : decode cX11_sessionStep 41 = .ok (.iconst 0, 1) := by decide +kernel
theorem dX11_sessionStep_42 : decode cX11_sessionStep 42 = .ok (.istore 4, 2) := by decide +kernel
theorem dX11_sessionStep_44 : decode cX11_sessionStep 44 = .ok (.iload_n 1, 1) := by decide +kernel
theorem dX11_sessionStep_45 : decode cX11_sessionStep 45 = .ok (.bipush 13, 2) := by decide +kernel
theorem dX11_sessionStep_47 : decode cX11_sessionStep 47 = .ok (.if_icmp .lt 22, 3) := by decide +kernel
theorem dX11_sessionStep_50 : decode cX11_sessionStep 50 = .ok (.iload_n 1, 1) := by decide +kernel
theorem dX11_sessionStep_51 : decode cX11_sessionStep 51 = .ok (.bipush 24, 2) := by decide +kernel
theorem dX11_sessionStep_53 : decode cX11_sessionStep 53 = .ok (.if_icmp .gt 16, 3) := by decide +kernel
theorem dX11_sessionStep_56 : decode cX11_sessionStep 56 = .ok (.iload_n 1, 1) := by decide +kernel
theorem dX11_sessionStep_57 : decode cX11_sessionStep 57 = .ok (.bipush 23, 2) := by decide +kernel
theorem dX11_sessionStep_59 : decode cX11_sessionStep 59 = .ok (.if_icmp .ne 16, 3) := by decide +kernel
theorem dX11_sessionStep_62 : decode cX11_sessionStep 62 = .ok (.aload_n 0, 1) := by decide +kernel
theorem dX11_sessionStep_63 : decode cX11_sessionStep 63 = .ok (.getfield 239, 3) := by decide +kernel
theorem dX11_sessionStep_66 : decode cX11_sessionStep 66 = .ok (.ifCond .ne 9, 3) := by decide +kernel
theorem dX11_sessionStep_69 : decode cX11_sessionStep 69 = .ok (.aload_n 0, 1) := by decide +kernel
theorem dX11_sessionStep_70 : decode cX11_sessionStep 70 = .ok (.iconst 2, 1) := by decide +kernel
theorem dX11_sessionStep_71 : decode cX11_sessionStep 71 = .ok (.invokevirtual 166, 3) := by decide +kernel
theorem dX11_sessionStep_74 : decode cX11_sessionStep 74 = .ok (.ireturn, 1) := by decide +kernel
theorem dX11_sessionStep_75 : decode cX11_sessionStep 75 = .ok (.iload_n 1, 1) := by decide +kernel
theorem dX11_sessionStep_76 : decode cX11_sessionStep 76 = .ok (.bipush 23, 2) := by decide +kernel
theorem dX11_sessionStep_78 : decode cX11_sessionStep 78 = .ok (.if_icmp .eq 19, 3) := by decide +kernel
theorem dX11_sessionStep_81 : decode cX11_sessionStep 81 = .ok (.aload_n 0, 1) := by decide +kernel
theorem dX11_sessionStep_82 : decode cX11_sessionStep 82 = .ok (.getfield 242, 3) := by decide +kernel
theorem dX11_sessionStep_85 : decode cX11_sessionStep 85 = .ok (.bipush 30, 2) := by decide +kernel
theorem dX11_sessionStep_87 : decode cX11_sessionStep 87 = .ok (.if_icmp .ne 10, 3) := by decide +kernel
theorem dX11_sessionStep_90 : decode cX11_sessionStep 90 = .ok (.aload_n 0, 1) := by decide +kernel
theorem dX11_sessionStep_91 : decode cX11_sessionStep 91 = .ok (.bipush 6, 2) := by decide +kernel
theorem dX11_sessionStep_93 : decode cX11_sessionStep 93 = .ok (.invokevirtual 166, 3) := by decide +kernel
theorem dX11_sessionStep_96 : decode cX11_sessionStep 96 = .ok (.ireturn, 1) := by decide +kernel
theorem dX11_sessionStep_97 : decode cX11_sessionStep 97 = .ok (.iload 4, 2) := by decide +kernel
theorem dX11_sessionStep_99 : decode cX11_sessionStep 99 = .ok (.ifCond .eq 18, 3) := by decide +kernel
theorem dX11_sessionStep_102 : decode cX11_sessionStep 102 = .ok (.aload_n 0, 1) := by decide +kernel
theorem dX11_sessionStep_103 : decode cX11_sessionStep 103 = .ok (.getfield 239, 3) := by decide +kernel
theorem dX11_sessionStep_106 : decode cX11_sessionStep 106 = .ok (.iconst 3, 1) := by decide +kernel
theorem dX11_sessionStep_107 : decode cX11_sessionStep 107 = .ok (.if_icmp .ne 10, 3) := by decide +kernel
theorem dX11_sessionStep_110 : decode cX11_sessionStep 110 = .ok (.aload_n 0, 1) := by decide +kernel
theorem dX11_sessionStep_111 : decode cX11_sessionStep 111 = .ok (.bipush 7, 2) := by decide +kernel
theorem dX11_sessionStep_113 : decode cX11_sessionStep 113 = .ok (.invokevirtual 166, 3) := by decide +kernel
theorem dX11_sessionStep_116 : decode cX11_sessionStep 116 = .ok (.ireturn, 1) := by decide +kernel
theorem dX11_sessionStep_117 : decode cX11_sessionStep 117 = .ok (.aload_n 0, 1) := by decide +kernel
theorem dX11_sessionStep_118 : decode cX11_sessionStep 118 = .ok (.dup, 1) := by decide +kernel
theorem dX11_sessionStep_119 : decode cX11_sessionStep 119 = .ok (.getfield 242, 3) := by decide +kernel
theorem dX11_sessionStep_122 : decode cX11_sessionStep 122 = .ok (.iload_n 1, 1) := by decide +kernel
theorem dX11_sessionStep_123 : decode cX11_sessionStep 123 = .ok (.bipush 23, 2) := by decide +kernel
theorem dX11_sessionStep_125 : decode cX11_sessionStep 125 = .ok (.if_icmp .ne 7, 3) := by decide +kernel
theorem dX11_sessionStep_128 : decode cX11_sessionStep 128 = .ok (.iconst 0, 1) := by decide +kernel
theorem dX11_sessionStep_129 : decode cX11_sessionStep 129 = .ok (.goto 4, 3) := by decide +kernel
theorem dX11_sessionStep_132 : decode cX11_sessionStep 132 = .ok (.iconst 1, 1) := by decide +kernel
theorem dX11_sessionStep_133 : decode cX11_sessionStep 133 = .ok (.iadd, 1) := by decide +kernel
theorem dX11_sessionStep_134 : decode cX11_sessionStep 134 = .ok (.putfield 242, 3) := by decide +kernel
theorem dX11_sessionStep_137 : decode cX11_sessionStep 137 = .ok (.aload_n 0, 1) := by decide +kernel
theorem dX11_sessionStep_138 : decode cX11_sessionStep 138 = .ok (.getfield 7, 3) := by decide +kernel
theorem dX11_sessionStep_141 : decode cX11_sessionStep 141 = .ok (.iload_n 3, 1) := by decide +kernel
theorem dX11_sessionStep_142 : decode cX11_sessionStep 142 = .ok (.iload_n 1, 1) := by decide +kernel
theorem dX11_sessionStep_143 : decode cX11_sessionStep 143 = .ok (.iastore, 1) := by decide +kernel
theorem dX11_sessionStep_144 : decode cX11_sessionStep 144 = .ok (.iconst 1, 1) := by decide +kernel
theorem dX11_sessionStep_145 : decode cX11_sessionStep 145 = .ok (.istore 5, 2) := by decide +kernel
theorem dX11_sessionStep_147 : decode cX11_sessionStep 147 = .ok (.iload 5, 2) := by decide +kernel
theorem dX11_sessionStep_149 : decode cX11_sessionStep 149 = .ok (.bipush 6, 2) := by decide +kernel
theorem dX11_sessionStep_151 : decode cX11_sessionStep 151 = .ok (.if_icmp .ge 19, 3) := by decide +kernel
theorem dX11_sessionStep_154 : decode cX11_sessionStep 154 = .ok (.aload_n 0, 1) := by decide +kernel
theorem dX11_sessionStep_155 : decode cX11_sessionStep 155 = .ok (.getfield 7, 3) := by decide +kernel
theorem dX11_sessionStep_158 : decode cX11_sessionStep 158 = .ok (.iload_n 3, 1) := by decide +kernel
theorem dX11_sessionStep_159 : decode cX11_sessionStep 159 = .ok (.iload 5, 2) := by decide +kernel
theorem dX11_sessionStep_161 : decode cX11_sessionStep 161 = .ok (.iadd, 1) := by decide +kernel
theorem dX11_sessionStep_162 : decode cX11_sessionStep 162 = .ok (.iconst 0, 1) := by decide +kernel
theorem dX11_sessionStep_163 : decode cX11_sessionStep 163 = .ok (.iastore, 1) := by decide +kernel
theorem dX11_sessionStep_164 : decode cX11_sessionStep 164 = .ok (.iinc 5 1, 3) := by decide +kernel
theorem dX11_sessionStep_167 : decode cX11_sessionStep 167 = .ok (.goto (-20), 3) := by decide +kernel
theorem dX11_sessionStep_170 : decode cX11_sessionStep 170 = .ok (.aload_n 0, 1) := by decide +kernel
theorem dX11_sessionStep_171 : decode cX11_sessionStep 171 = .ok (.getfield 7, 3) := by decide +kernel
theorem dX11_sessionStep_174 : decode cX11_sessionStep 174 = .ok (.sipush 2030, 3) := by decide +kernel
theorem dX11_sessionStep_177 : decode cX11_sessionStep 177 = .ok (.dup2, 1) := by decide +kernel
theorem dX11_sessionStep_178 : decode cX11_sessionStep 178 = .ok (.iaload, 1) := by decide +kernel
theorem dX11_sessionStep_179 : decode cX11_sessionStep 179 = .ok (.iconst 1, 1) := by decide +kernel
theorem dX11_sessionStep_180 : decode cX11_sessionStep 180 = .ok (.iadd, 1) := by decide +kernel
theorem dX11_sessionStep_181 : decode cX11_sessionStep 181 = .ok (.iastore, 1) := by decide +kernel
theorem dX11_sessionStep_182 : decode cX11_sessionStep 182 = .ok (.aload_n 0, 1) := by decide +kernel
theorem dX11_sessionStep_183 : decode cX11_sessionStep 183 = .ok (.invokevirtual 160, 3) := by decide +kernel
theorem dX11_sessionStep_186 : decode cX11_sessionStep 186 = .ok (.aload_n 0, 1) := by decide +kernel
theorem dX11_sessionStep_187 : decode cX11_sessionStep 187 = .ok (.iload_n 1, 1) := by decide +kernel
theorem dX11_sessionStep_188 : decode cX11_sessionStep 188 = .ok (.iload_n 3, 1) := by decide +kernel
theorem dX11_sessionStep_189 : decode cX11_sessionStep 189 = .ok (.invokevirtual 245, 3) := by decide +kernel
theorem dX11_sessionStep_192 : decode cX11_sessionStep 192 = .ok (.ifCond .ne 5, 3) := by decide +kernel
theorem dX11_sessionStep_195 : decode cX11_sessionStep 195 = .ok (.iconst 0, 1) := by decide +kernel
theorem dX11_sessionStep_196 : decode cX11_sessionStep 196 = .ok (.ireturn, 1) := by decide +kernel
theorem dX11_sessionStep_197 : decode cX11_sessionStep 197 = .ok (.iload 4, 2) := by decide +kernel
theorem dX11_sessionStep_199 : decode cX11_sessionStep 199 = .ok (.ifCond .eq 23, 3) := by decide +kernel
theorem dX11_sessionStep_202 : decode cX11_sessionStep 202 = .ok (.aload_n 0, 1) := by decide +kernel
theorem dX11_sessionStep_203 : decode cX11_sessionStep 203 = .ok (.getfield 44, 3) := by decide +kernel
theorem dX11_sessionStep_206 : decode cX11_sessionStep 206 = .ok (.aload_n 0, 1) := by decide +kernel
theorem dX11_sessionStep_207 : decode cX11_sessionStep 207 = .ok (.getfield 239, 3) := by decide +kernel
theorem dX11_sessionStep_210 : decode cX11_sessionStep 210 = .ok (.iload_n 2, 1) := by decide +kernel
theorem dX11_sessionStep_211 : decode cX11_sessionStep 211 = .ok (.iastore, 1) := by decide +kernel
theorem dX11_sessionStep_212 : decode cX11_sessionStep 212 = .ok (.aload_n 0, 1) := by decide +kernel
theorem dX11_sessionStep_213 : decode cX11_sessionStep 213 = .ok (.dup, 1) := by decide +kernel
theorem dX11_sessionStep_214 : decode cX11_sessionStep 214 = .ok (.getfield 239, 3) := by decide +kernel
theorem dX11_sessionStep_217 : decode cX11_sessionStep 217 = .ok (.iconst 1, 1) := by decide +kernel
theorem dX11_sessionStep_218 : decode cX11_sessionStep 218 = .ok (.iadd, 1) := by decide +kernel
theorem dX11_sessionStep_219 : decode cX11_sessionStep 219 = .ok (.putfield 239, 3) := by decide +kernel
theorem dX11_sessionStep_222 : decode cX11_sessionStep 222 = .ok (.iload_n 1, 1) := by decide +kernel
theorem dX11_sessionStep_223 : decode cX11_sessionStep 223 = .ok (.bipush 23, 2) := by decide +kernel
theorem dX11_sessionStep_225 : decode cX11_sessionStep 225 = .ok (.if_icmp .ne 54, 3) := by decide +kernel
theorem dX11_sessionStep_228 : decode cX11_sessionStep 228 = .ok (.aload_n 0, 1) := by decide +kernel
theorem dX11_sessionStep_229 : decode cX11_sessionStep 229 = .ok (.dup, 1) := by decide +kernel
theorem dX11_sessionStep_230 : decode cX11_sessionStep 230 = .ok (.getfield 239, 3) := by decide +kernel
theorem dX11_sessionStep_233 : decode cX11_sessionStep 233 = .ok (.iconst 1, 1) := by decide +kernel
theorem dX11_sessionStep_234 : decode cX11_sessionStep 234 = .ok (.isub, 1) := by decide +kernel
theorem dX11_sessionStep_235 : decode cX11_sessionStep 235 = .ok (.putfield 239, 3) := by decide +kernel
theorem dX11_sessionStep_238 : decode cX11_sessionStep 238 = .ok (.aload_n 0, 1) := by decide +kernel
theorem dX11_sessionStep_239 : decode cX11_sessionStep 239 = .ok (.getfield 7, 3) := by decide +kernel
theorem dX11_sessionStep_242 : decode cX11_sessionStep 242 = .ok (.iload_n 3, 1) := by decide +kernel
theorem dX11_sessionStep_243 : decode cX11_sessionStep 243 = .ok (.iconst 4, 1) := by decide +kernel
theorem dX11_sessionStep_244 : decode cX11_sessionStep 244 = .ok (.iadd, 1) := by decide +kernel
theorem dX11_sessionStep_245 : decode cX11_sessionStep 245 = .ok (.aload_n 0, 1) := by decide +kernel
theorem dX11_sessionStep_246 : decode cX11_sessionStep 246 = .ok (.getfield 44, 3) := by decide +kernel
theorem dX11_sessionStep_249 : decode cX11_sessionStep 249 = .ok (.aload_n 0, 1) := by decide +kernel
theorem dX11_sessionStep_250 : decode cX11_sessionStep 250 = .ok (.getfield 239, 3) := by decide +kernel
theorem dX11_sessionStep_253 : decode cX11_sessionStep 253 = .ok (.iaload, 1) := by decide +kernel
theorem dX11_sessionStep_254 : decode cX11_sessionStep 254 = .ok (.iastore, 1) := by decide +kernel
theorem dX11_sessionStep_255 : decode cX11_sessionStep 255 = .ok (.aload_n 0, 1) := by decide +kernel
theorem dX11_sessionStep_256 : decode cX11_sessionStep 256 = .ok (.getfield 7, 3) := by decide +kernel
theorem dX11_sessionStep_259 : decode cX11_sessionStep 259 = .ok (.sipush 2162, 3) := by decide +kernel
theorem dX11_sessionStep_262 : decode cX11_sessionStep 262 = .ok (.bipush 6, 2) := by decide +kernel
theorem dX11_sessionStep_264 : decode cX11_sessionStep 264 = .ok (.aload_n 0, 1) := by decide +kernel
theorem dX11_sessionStep_265 : decode cX11_sessionStep 265 = .ok (.getfield 44, 3) := by decide +kernel
theorem dX11_sessionStep_268 : decode cX11_sessionStep 268 = .ok (.aload_n 0, 1) := by decide +kernel
theorem dX11_sessionStep_269 : decode cX11_sessionStep 269 = .ok (.getfield 239, 3) := by decide +kernel
theorem dX11_sessionStep_272 : decode cX11_sessionStep 272 = .ok (.iaload, 1) := by decide +kernel
theorem dX11_sessionStep_273 : decode cX11_sessionStep 273 = .ok (.imul, 1) := by decide +kernel
theorem dX11_sessionStep_274 : decode cX11_sessionStep 274 = .ok (.iadd, 1) := by decide +kernel
theorem dX11_sessionStep_275 : decode cX11_sessionStep 275 = .ok (.iconst 4, 1) := by decide +kernel
theorem dX11_sessionStep_276 : decode cX11_sessionStep 276 = .ok (.iadd, 1) := by decide +kernel
theorem dX11_sessionStep_277 : decode cX11_sessionStep 277 = .ok (.iload_n 2, 1) := by decide +kernel
theorem dX11_sessionStep_278 : decode cX11_sessionStep 278 = .ok (.iastore, 1) := by decide +kernel
theorem dX11_sessionStep_279 : decode cX11_sessionStep 279 = .ok (.aload_n 0, 1) := by decide +kernel
theorem dX11_sessionStep_280 : decode cX11_sessionStep 280 = .ok (.bipush 59, 2) := by decide +kernel
theorem dX11_sessionStep_282 : decode cX11_sessionStep 282 = .ok (.invokevirtual 214, 3) := by decide +kernel
theorem dX11_sessionStep_285 : decode cX11_sessionStep 285 = .ok (.ireturn, 1) := by decide +kernel
set_option maxHeartbeats 4000000 in
set_option maxRecDepth 100000 in
theorem ctX11_sessionStep  {σ : jq_M} {res : Int} {σ' : jq_M}  (h : X11_sessionStep σ = some (res, σ')) : jq_MC jq_zM yX11_sessionStep cX11_sessionStep 6 (some .boolean) 11 260 [jR 0] σ (some (jI res)) σ' := by
  refine jq_met (own := RX11) (L0 := [(0, jR 0)]) (by decide) rfl rfl rfl ?_
  intro X Γ hnl hlY hRT
  refine jq_use2 (P := fun r => jq_RT jq_zM X (some .boolean) (some (jI r.1)) r.2) ?_ h hRT
  intro K0 hK0
  unfold X11_sessionStep
  have hj69_0 : ∀ (s10 : jq_M), jq_J (X11_sessionStep_j69 s10) K0 (jq_V jq_zM X (jq_zN jq_zM) s10 69 [(0, jR 0)] []) := by
    intro s10
    unfold X11_sessionStep_j69
    refine jq_aload_n Γ dX11_sessionStep_69 rfl 0 rfl (jq_at_0 at_M_0) ?_
    refine jq_iconst Γ dX11_sessionStep_70 rfl ?_
    refine jq_cwZ (jq_virt (avs := [jI 2]) (st := []) Γ hlY rfl ml_RX11_166 rfl at_M_0 rfl rfl rfl rfl rfl dX11_sessionStep_71) rfl (fun r σ' h => ctX11_fails h) (fun v11 s12 hz13 => ?_)
    exact jq_zreturn Γ (hz13) dX11_sessionStep_74 (hK0 _)
  have hj279_0 : ∀ (s53 : jq_M), jq_J (X11_sessionStep_j279 s53) K0 (jq_V jq_zM X (jq_zN jq_zM) s53 279 [(0, jR 0)] []) := by
    intro s53
    unfold X11_sessionStep_j279
    refine jq_aload_n Γ dX11_sessionStep_279 rfl 0 rfl (jq_at_0 at_M_0) ?_
    refine jq_bipush Γ dX11_sessionStep_280 rfl ?_
    refine jq_cwZ (jq_virt (avs := [jI 59]) (st := []) Γ hlY rfl ml_RX11_214 rfl at_M_0 rfl rfl rfl rfl rfl dX11_sessionStep_282) rfl (fun r σ' h => ctX11_wantSign h) (fun v54 s55 hz56 => ?_)
    exact jq_zreturn Γ (hz56) dX11_sessionStep_285 (hK0 _)
  have hj222_0 : ∀ (j49 : Int) (j50 : Int) (j51 : Int) (s52 : jq_M), jq_J (X11_sessionStep_j222 j49 j50 j51 s52) K0 (jq_V jq_zM X (jq_zN jq_zM) s52 222 [(0, jR 0), (1, jI j49), (2, jI j50), (3, jI j51)] []) := by
    intro j49 j50 j51 s52
    unfold X11_sessionStep_j222
    refine jq_iload_n Γ dX11_sessionStep_222 rfl 1 rfl ?_
    refine jq_bipush Γ dX11_sessionStep_223 rfl ?_
    refine jq_icmp_ne (tgt := 279) Γ dX11_sessionStep_225 rfl ?_ ?_
    · refine jq_sub Γ (L' := [(0, jR 0)]) [0] rfl ?_
      exact hj279_0 s52
    · refine jq_aload_n Γ dX11_sessionStep_228 rfl 0 rfl (jq_at_0 at_M_0) ?_
      refine jq_dup Γ dX11_sessionStep_229 rfl ?_
      refine jq_getI (J := 21) Γ at_M_0 fl_RX11_239 rfl rfl dX11_sessionStep_230 ?_
      refine jq_iconst Γ dX11_sessionStep_233 rfl ?_
      refine jq_isub Γ dX11_sessionStep_234 ?_
      refine jq_putI Γ at_M_0 fl_RX11_239 rfl rfl dX11_sessionStep_235 (fun s57 => ?_)
      refine jq_aload_n Γ dX11_sessionStep_238 rfl 0 rfl (jq_at_0 at_M_0) ?_
      refine jq_getR (v := 1) Γ hlY at_M_0 fl_RX11_7 rfl rfl ly_X11_at dX11_sessionStep_239 ?_
      refine jq_iload_n Γ dX11_sessionStep_242 rfl 3 rfl ?_
      refine jq_iconst Γ dX11_sessionStep_243 rfl ?_
      refine jq_iadd Γ dX11_sessionStep_244 ?_
      refine jq_aload_n Γ dX11_sessionStep_245 rfl 0 rfl (jq_at_0 at_M_0) ?_
      refine jq_getR (v := 8) Γ hlY at_M_0 fl_RX11_44 rfl rfl ly_X11_opened dX11_sessionStep_246 ?_
      refine jq_aload_n Γ dX11_sessionStep_249 rfl 0 rfl (jq_at_0 at_M_0) ?_
      refine jq_getI (J := 21) Γ at_M_0 fl_RX11_239 rfl rfl dX11_sessionStep_250 ?_
      refine jq_iald Γ at_M_8 rfl dX11_sessionStep_253 (fun v58 => ?_)
      refine jq_iast Γ at_M_1 rfl dX11_sessionStep_254 (fun s59 => ?_)
      refine jq_aload_n Γ dX11_sessionStep_255 rfl 0 rfl (jq_at_0 at_M_0) ?_
      refine jq_getR (v := 1) Γ hlY at_M_0 fl_RX11_7 rfl rfl ly_X11_at dX11_sessionStep_256 ?_
      refine jq_sipush Γ dX11_sessionStep_259 rfl ?_
      refine jq_bipush Γ dX11_sessionStep_262 rfl ?_
      refine jq_aload_n Γ dX11_sessionStep_264 rfl 0 rfl (jq_at_0 at_M_0) ?_
      refine jq_getR (v := 8) Γ hlY at_M_0 fl_RX11_44 rfl rfl ly_X11_opened dX11_sessionStep_265 ?_
      refine jq_aload_n Γ dX11_sessionStep_268 rfl 0 rfl (jq_at_0 at_M_0) ?_
      refine jq_getI (J := 21) Γ at_M_0 fl_RX11_239 rfl rfl dX11_sessionStep_269 ?_
      refine jq_iald Γ at_M_8 rfl dX11_sessionStep_272 (fun v60 => ?_)
      refine jq_imul Γ dX11_sessionStep_273 ?_
      refine jq_iadd Γ dX11_sessionStep_274 ?_
      refine jq_iconst Γ dX11_sessionStep_275 rfl ?_
      refine jq_iadd Γ dX11_sessionStep_276 ?_
      refine jq_iload_n Γ dX11_sessionStep_277 rfl 2 rfl ?_
      refine jq_iast Γ at_M_1 rfl dX11_sessionStep_278 (fun s61 => ?_)
      refine jq_sub Γ (L' := [(0, jR 0)]) [0] rfl ?_
      exact hj279_0 s61
  have hj133_0 : ∀ (j29 : Int) (j30 : Int) (j31 : Int) (j32 : Int) (j33 : Int) (j34 : Int) (s36 : jq_M) (hz35 : j34 = 0 ∨ j34 = 1), jq_J (X11_sessionStep_j133 j29 j30 j31 j32 j33 j34 s36) K0 (jq_V jq_zM X (jq_zN jq_zM) s36 133 [(0, jR 0), (1, jI j29), (2, jI j30), (3, jI j31), (4, jI j32)] [jI j34, jI j33, jR 0]) := by
    intro j29 j30 j31 j32 j33 j34 s36 hz35
    unfold X11_sessionStep_j133
    refine jq_iadd Γ dX11_sessionStep_133 ?_
    refine jq_putI Γ at_M_0 fl_RX11_242 rfl rfl dX11_sessionStep_134 (fun s37 => ?_)
    refine jq_aload_n Γ dX11_sessionStep_137 rfl 0 rfl (jq_at_0 at_M_0) ?_
    refine jq_getR (v := 1) Γ hlY at_M_0 fl_RX11_7 rfl rfl ly_X11_at dX11_sessionStep_138 ?_
    refine jq_iload_n Γ dX11_sessionStep_141 rfl 3 rfl ?_
    refine jq_iload_n Γ dX11_sessionStep_142 rfl 1 rfl ?_
    refine jq_iast Γ at_M_1 rfl dX11_sessionStep_143 (fun s38 => ?_)
    refine jq_iconst Γ dX11_sessionStep_144 rfl ?_
    refine jq_istore (L' := [(5, jI 1), (0, jR 0), (1, jI j29), (2, jI j30), (3, jI j31), (4, jI j32)]) Γ dX11_sessionStep_145 hnl rfl rfl ?_
    refine jq_sub Γ (L' := [(0, jR 0), (1, jI j29), (2, jI j30), (3, jI j31), (4, jI j32), (5, jI 1)]) [1, 2, 3, 4, 5, 0] rfl ?_
    refine jq_loop2 (C := fun (t39 : Int × jq_M) => jq_V jq_zM X (jq_zN jq_zM) t39.2 147 [(0, jR 0), (1, jI j29), (2, jI j30), (3, jI j31), (4, jI j32), (5, jI t39.1)] []) (KX := fun (e42 : jq_M) => jq_V jq_zM X (jq_zN jq_zM) e42 170 [(0, jR 0), (1, jI j29), (2, jI j30), (3, jI j31), (4, jI j32)] []) ?_ ?_ (1, s38)
    · intro K147_t39 hCt39 hXt39 t39
      unfold X11_sessionStep_b147
      refine jq_iload Γ dX11_sessionStep_147 5 rfl ?_
      refine jq_bipush Γ dX11_sessionStep_149 rfl ?_
      refine jq_icmp_ge (tgt := 170) Γ dX11_sessionStep_151 rfl ?_ ?_
      · refine jq_sub Γ (L' := [(0, jR 0), (1, jI j29), (2, jI j30), (3, jI j31), (4, jI j32)]) [0, 1, 2, 3, 4] rfl ?_
        exact jq_done (hXt39 t39.2)
      · refine jq_aload_n Γ dX11_sessionStep_154 rfl 0 rfl (jq_at_0 at_M_0) ?_
        refine jq_getR (v := 1) Γ hlY at_M_0 fl_RX11_7 rfl rfl ly_X11_at dX11_sessionStep_155 ?_
        refine jq_iload_n Γ dX11_sessionStep_158 rfl 3 rfl ?_
        refine jq_iload Γ dX11_sessionStep_159 5 rfl ?_
        refine jq_iadd Γ dX11_sessionStep_161 ?_
        refine jq_iconst Γ dX11_sessionStep_162 rfl ?_
        refine jq_iast Γ at_M_1 rfl dX11_sessionStep_163 (fun s40 => ?_)
        refine jq_iincN (L' := fun v41 => [(5, jI v41), (0, jR 0), (1, jI j29), (2, jI j30), (3, jI j31), (4, jI j32)]) Γ dX11_sessionStep_164 5 rfl hnl rfl (fun _ => rfl) (fun v41 => ?_)
        refine jq_goto Γ (tgt := 147) dX11_sessionStep_167 rfl ?_
        refine jq_sub Γ (L' := [(0, jR 0), (1, jI j29), (2, jI j30), (3, jI j31), (4, jI j32), (5, jI v41)]) [1, 2, 3, 4, 5, 0] rfl ?_
        exact jq_done (hCt39 (v41, s40))
    · intro e42
      refine jq_aload_n Γ dX11_sessionStep_170 rfl 0 rfl (jq_at_0 at_M_0) ?_
      refine jq_getR (v := 1) Γ hlY at_M_0 fl_RX11_7 rfl rfl ly_X11_at dX11_sessionStep_171 ?_
      refine jq_sipush Γ dX11_sessionStep_174 rfl ?_
      refine jq_dup2 Γ dX11_sessionStep_177 rfl rfl ?_
      refine jq_iald Γ at_M_1 rfl dX11_sessionStep_178 (fun v43 => ?_)
      refine jq_iconst Γ dX11_sessionStep_179 rfl ?_
      refine jq_iadd Γ dX11_sessionStep_180 ?_
      refine jq_iast Γ at_M_1 rfl dX11_sessionStep_181 (fun s44 => ?_)
      refine jq_aload_n Γ dX11_sessionStep_182 rfl 0 rfl (jq_at_0 at_M_0) ?_
      refine jq_cwV (jq_virt (avs := []) (st := []) Γ hlY rfl ml_RX11_160 rfl at_M_0 rfl rfl rfl rfl rfl dX11_sessionStep_183) (fun σ' h => ctX11_ahead h) (fun s45 => ?_)
      refine jq_aload_n Γ dX11_sessionStep_186 rfl 0 rfl (jq_at_0 at_M_0) ?_
      refine jq_iload_n Γ dX11_sessionStep_187 rfl 1 rfl ?_
      refine jq_iload_n Γ dX11_sessionStep_188 rfl 3 rfl ?_
      refine jq_cwZ (jq_virt (avs := [jI j29, jI j31]) (st := []) Γ hlY rfl ml_RX11_245 rfl at_M_0 rfl rfl rfl rfl rfl dX11_sessionStep_189) rfl (fun r σ' h => ctX11_sessionOrder h) (fun v46 s47 hz48 => ?_)
      refine jq_if_ne (tgt := 197) Γ dX11_sessionStep_192 rfl ?_ ?_
      · refine jq_iload Γ dX11_sessionStep_197 4 rfl ?_
        refine jq_if_eq (tgt := 222) Γ dX11_sessionStep_199 rfl ?_ ?_
        · refine jq_sub Γ (L' := [(0, jR 0), (1, jI j29), (2, jI j30), (3, jI j31)]) [0, 1, 2, 3] rfl ?_
          exact hj222_0 j29 j30 j31 s47
        · refine jq_aload_n Γ dX11_sessionStep_202 rfl 0 rfl (jq_at_0 at_M_0) ?_
          refine jq_getR (v := 8) Γ hlY at_M_0 fl_RX11_44 rfl rfl ly_X11_opened dX11_sessionStep_203 ?_
          refine jq_aload_n Γ dX11_sessionStep_206 rfl 0 rfl (jq_at_0 at_M_0) ?_
          refine jq_getI (J := 21) Γ at_M_0 fl_RX11_239 rfl rfl dX11_sessionStep_207 ?_
          refine jq_iload_n Γ dX11_sessionStep_210 rfl 2 rfl ?_
          refine jq_iast Γ at_M_8 rfl dX11_sessionStep_211 (fun s62 => ?_)
          refine jq_aload_n Γ dX11_sessionStep_212 rfl 0 rfl (jq_at_0 at_M_0) ?_
          refine jq_dup Γ dX11_sessionStep_213 rfl ?_
          refine jq_getI (J := 21) Γ at_M_0 fl_RX11_239 rfl rfl dX11_sessionStep_214 ?_
          refine jq_iconst Γ dX11_sessionStep_217 rfl ?_
          refine jq_iadd Γ dX11_sessionStep_218 ?_
          refine jq_putI Γ at_M_0 fl_RX11_239 rfl rfl dX11_sessionStep_219 (fun s63 => ?_)
          refine jq_sub Γ (L' := [(0, jR 0), (1, jI j29), (2, jI j30), (3, jI j31)]) [0, 1, 2, 3] rfl ?_
          exact hj222_0 j29 j30 j31 s63
      · refine jq_iconst Γ dX11_sessionStep_195 rfl ?_
        exact jq_zreturn Γ (Or.inl rfl) dX11_sessionStep_196 (hK0 _)
  have hj117_0 : ∀ (j24 : Int) (j25 : Int) (j26 : Int) (j27 : Int) (s28 : jq_M), jq_J (X11_sessionStep_j117 j24 j25 j26 j27 s28) K0 (jq_V jq_zM X (jq_zN jq_zM) s28 117 [(0, jR 0), (1, jI j24), (2, jI j25), (3, jI j26), (4, jI j27)] []) := by
    intro j24 j25 j26 j27 s28
    unfold X11_sessionStep_j117
    refine jq_aload_n Γ dX11_sessionStep_117 rfl 0 rfl (jq_at_0 at_M_0) ?_
    refine jq_dup Γ dX11_sessionStep_118 rfl ?_
    refine jq_getI (J := 22) Γ at_M_0 fl_RX11_242 rfl rfl dX11_sessionStep_119 ?_
    refine jq_iload_n Γ dX11_sessionStep_122 rfl 1 rfl ?_
    refine jq_bipush Γ dX11_sessionStep_123 rfl ?_
    refine jq_icmp_ne (tgt := 132) Γ dX11_sessionStep_125 rfl ?_ ?_
    · refine jq_iconst Γ dX11_sessionStep_132 rfl ?_
      exact hj133_0 j24 j25 j26 j27 (s28 0 22) 1 s28 (Or.inr rfl)
    · refine jq_iconst Γ dX11_sessionStep_128 rfl ?_
      refine jq_goto Γ (tgt := 133) dX11_sessionStep_129 rfl ?_
      exact hj133_0 j24 j25 j26 j27 (s28 0 22) 0 s28 (Or.inl rfl)
  have hj97_0 : ∀ (j19 : Int) (j20 : Int) (j21 : Int) (j22 : Int) (s23 : jq_M), jq_J (X11_sessionStep_j97 j19 j20 j21 j22 s23) K0 (jq_V jq_zM X (jq_zN jq_zM) s23 97 [(0, jR 0), (1, jI j19), (2, jI j20), (3, jI j21), (4, jI j22)] []) := by
    intro j19 j20 j21 j22 s23
    unfold X11_sessionStep_j97
    refine jq_iload Γ dX11_sessionStep_97 4 rfl ?_
    refine jq_if_eq (tgt := 117) Γ dX11_sessionStep_99 rfl ?_ ?_
    · exact hj117_0 j19 j20 j21 j22 s23
    · refine jq_aload_n Γ dX11_sessionStep_102 rfl 0 rfl (jq_at_0 at_M_0) ?_
      refine jq_getI (J := 21) Γ at_M_0 fl_RX11_239 rfl rfl dX11_sessionStep_103 ?_
      refine jq_iconst Γ dX11_sessionStep_106 rfl ?_
      refine jq_icmp_ne (tgt := 117) Γ dX11_sessionStep_107 rfl ?_ ?_
      · exact hj117_0 j19 j20 j21 j22 s23
      · refine jq_aload_n Γ dX11_sessionStep_110 rfl 0 rfl (jq_at_0 at_M_0) ?_
        refine jq_bipush Γ dX11_sessionStep_111 rfl ?_
        refine jq_cwZ (jq_virt (avs := [jI 7]) (st := []) Γ hlY rfl ml_RX11_166 rfl at_M_0 rfl rfl rfl rfl rfl dX11_sessionStep_113) rfl (fun r σ' h => ctX11_fails h) (fun v64 s65 hz66 => ?_)
        exact jq_zreturn Γ (hz66) dX11_sessionStep_116 (hK0 _)
  have hj75_0 : ∀ (j14 : Int) (j15 : Int) (j16 : Int) (j17 : Int) (s18 : jq_M), jq_J (X11_sessionStep_j75 j14 j15 j16 j17 s18) K0 (jq_V jq_zM X (jq_zN jq_zM) s18 75 [(0, jR 0), (1, jI j14), (2, jI j15), (3, jI j16), (4, jI j17)] []) := by
    intro j14 j15 j16 j17 s18
    unfold X11_sessionStep_j75
    refine jq_iload_n Γ dX11_sessionStep_75 rfl 1 rfl ?_
    refine jq_bipush Γ dX11_sessionStep_76 rfl ?_
    refine jq_icmp_eq (tgt := 97) Γ dX11_sessionStep_78 rfl ?_ ?_
    · exact hj97_0 j14 j15 j16 j17 s18
    · refine jq_aload_n Γ dX11_sessionStep_81 rfl 0 rfl (jq_at_0 at_M_0) ?_
      refine jq_getI (J := 22) Γ at_M_0 fl_RX11_242 rfl rfl dX11_sessionStep_82 ?_
      refine jq_bipush Γ dX11_sessionStep_85 rfl ?_
      refine jq_icmp_ne (tgt := 97) Γ dX11_sessionStep_87 rfl ?_ ?_
      · exact hj97_0 j14 j15 j16 j17 s18
      · refine jq_aload_n Γ dX11_sessionStep_90 rfl 0 rfl (jq_at_0 at_M_0) ?_
        refine jq_bipush Γ dX11_sessionStep_91 rfl ?_
        refine jq_cwZ (jq_virt (avs := [jI 6]) (st := []) Γ hlY rfl ml_RX11_166 rfl at_M_0 rfl rfl rfl rfl rfl dX11_sessionStep_93) rfl (fun r σ' h => ctX11_fails h) (fun v67 s68 hz69 => ?_)
        exact jq_zreturn Γ (hz69) dX11_sessionStep_96 (hK0 _)
  have hj42_0 : ∀ (j4 : Int) (j5 : Int) (j6 : Int) (j7 : Int) (s9 : jq_M) (hz8 : j7 = 0 ∨ j7 = 1), jq_J (X11_sessionStep_j42 j4 j5 j6 j7 s9) K0 (jq_V jq_zM X (jq_zN jq_zM) s9 42 [(0, jR 0), (1, jI j4), (2, jI j5), (3, jI j6)] [jI j7]) := by
    intro j4 j5 j6 j7 s9 hz8
    unfold X11_sessionStep_j42
    refine jq_istore (L' := [(4, jI j7), (0, jR 0), (1, jI j4), (2, jI j5), (3, jI j6)]) Γ dX11_sessionStep_42 hnl rfl rfl ?_
    refine jq_iload_n Γ dX11_sessionStep_44 rfl 2 rfl ?_
    refine jq_bipush Γ dX11_sessionStep_45 rfl ?_
    refine jq_icmp_lt (tgt := 69) Γ dX11_sessionStep_47 rfl ?_ ?_
    · refine jq_sub Γ (L' := [(0, jR 0)]) [1] rfl ?_
      exact hj69_0 s9
    · refine jq_iload_n Γ dX11_sessionStep_50 rfl 2 rfl ?_
      refine jq_bipush Γ dX11_sessionStep_51 rfl ?_
      refine jq_icmp_gt (tgt := 69) Γ dX11_sessionStep_53 rfl ?_ ?_
      · refine jq_sub Γ (L' := [(0, jR 0)]) [1] rfl ?_
        exact hj69_0 s9
      · refine jq_iload_n Γ dX11_sessionStep_56 rfl 2 rfl ?_
        refine jq_bipush Γ dX11_sessionStep_57 rfl ?_
        refine jq_icmp_ne (tgt := 75) Γ dX11_sessionStep_59 rfl ?_ ?_
        · refine jq_sub Γ (L' := [(0, jR 0), (1, jI j4), (2, jI j5), (3, jI j6), (4, jI j7)]) [1, 2, 3, 4, 0] rfl ?_
          exact hj75_0 j4 j5 j6 j7 s9
        · refine jq_aload_n Γ dX11_sessionStep_62 rfl 1 rfl (jq_at_0 at_M_0) ?_
          refine jq_getI (J := 21) Γ at_M_0 fl_RX11_239 rfl rfl dX11_sessionStep_63 ?_
          refine jq_if_ne (tgt := 75) Γ dX11_sessionStep_66 rfl ?_ ?_
          · refine jq_sub Γ (L' := [(0, jR 0), (1, jI j4), (2, jI j5), (3, jI j6), (4, jI j7)]) [1, 2, 3, 4, 0] rfl ?_
            exact hj75_0 j4 j5 j6 j7 s9
          · refine jq_sub Γ (L' := [(0, jR 0)]) [1] rfl ?_
            exact hj69_0 s9
  refine jq_aload_n Γ dX11_sessionStep_0 rfl 0 rfl (jq_at_0 at_M_0) ?_
  refine jq_ldcS Γ dX11_sessionStep_1 rfl rfl ?_
  refine jq_cpI (jq_virt (avs := [jT 0]) (st := []) Γ hlY rfl ml_RX11_169 rfl at_M_0 rfl rfl rfl rfl rfl dX11_sessionStep_3) (fun r h => ctX11_inWords h) (fun v1 => ?_)
  refine jq_istore_n (L' := [(1, jI v1), (0, jR 0)]) Γ dX11_sessionStep_6 rfl hnl rfl rfl ?_
  refine jq_aload_n Γ dX11_sessionStep_7 rfl 1 rfl (jq_at_0 at_M_0) ?_
  refine jq_getR (v := 1) Γ hlY at_M_0 fl_RX11_7 rfl rfl ly_X11_at dX11_sessionStep_8 ?_
  refine jq_sipush Γ dX11_sessionStep_11 rfl ?_
  refine jq_iald Γ at_M_1 rfl dX11_sessionStep_14 (fun v2 => ?_)
  refine jq_istore_n (L' := [(2, jI v2), (1, jI v1), (0, jR 0)]) Γ dX11_sessionStep_15 rfl hnl rfl rfl ?_
  refine jq_sipush Γ dX11_sessionStep_16 rfl ?_
  refine jq_bipush Γ dX11_sessionStep_19 rfl ?_
  refine jq_iload_n Γ dX11_sessionStep_21 rfl 0 rfl ?_
  refine jq_imul Γ dX11_sessionStep_22 ?_
  refine jq_iadd Γ dX11_sessionStep_23 ?_
  refine jq_nmI (fun v3 => ?_)
  refine jq_istore_n (L' := [(3, jI v3), (2, jI v2), (1, jI v1), (0, jR 0)]) Γ dX11_sessionStep_24 rfl hnl rfl rfl ?_
  refine jq_iload_n Γ dX11_sessionStep_25 rfl 2 rfl ?_
  refine jq_bipush Γ dX11_sessionStep_26 rfl ?_
  refine jq_icmp_eq (tgt := 37) Γ dX11_sessionStep_28 rfl ?_ ?_
  · refine jq_iconst Γ dX11_sessionStep_37 rfl ?_
    refine jq_goto Γ (tgt := 42) dX11_sessionStep_38 rfl ?_
    refine jq_sub Γ (L' := [(0, jR 0), (1, jI v1), (2, jI v2), (3, jI v3)]) [3, 2, 1, 0] rfl ?_
    exact hj42_0 v1 v2 v3 1 σ (Or.inr rfl)
  · refine jq_iload_n Γ dX11_sessionStep_31 rfl 2 rfl ?_
    refine jq_bipush Γ dX11_sessionStep_32 rfl ?_
    refine jq_icmp_ne (tgt := 41) Γ dX11_sessionStep_34 rfl ?_ ?_
    · refine jq_iconst Γ dX11_sessionStep_41 rfl ?_
      refine jq_sub Γ (L' := [(0, jR 0), (1, jI v1), (2, jI v2), (3, jI v3)]) [3, 2, 1, 0] rfl ?_
      exact hj42_0 v1 v2 v3 0 σ (Or.inl rfl)
    · refine jq_iconst Γ dX11_sessionStep_37 rfl ?_
      refine jq_goto Γ (tgt := 42) dX11_sessionStep_38 rfl ?_
      refine jq_sub Γ (L' := [(0, jR 0), (1, jI v1), (2, jI v2), (3, jI v3)]) [3, 2, 1, 0] rfl ?_
      exact hj42_0 v1 v2 v3 1 σ (Or.inr rfl)


theorem dX11_sessions_0 : decode cX11_sessions 0 = .ok (.aload_n 0, 1) := by decide +kernel
theorem dX11_sessions_1 : decode cX11_sessions 1 = .ok (.iload_n 1, 1) := by decide +kernel
theorem dX11_sessions_2 : decode cX11_sessions 2 = .ok (.sipush 300, 3) := by decide +kernel
theorem dX11_sessions_5 : decode cX11_sessions 5 = .ok (.invokevirtual 217, 3) := by decide +kernel
theorem dX11_sessions_8 : decode cX11_sessions 8 = .ok (.ifCond .ne 9, 3) := by decide +kernel
theorem dX11_sessions_11 : decode cX11_sessions 11 = .ok (.aload_n 0, 1) := by decide +kernel
theorem dX11_sessions_12 : decode cX11_sessions 12 = .ok (.iconst 1, 1) := by decide +kernel
theorem dX11_sessions_13 : decode cX11_sessions 13 = .ok (.invokevirtual 84, 3) := by decide +kernel
theorem dX11_sessions_16 : decode cX11_sessions 16 = .ok (.ireturn, 1) := by decide +kernel
theorem dX11_sessions_17 : decode cX11_sessions 17 = .ok (.aload_n 0, 1) := by decide +kernel
theorem dX11_sessions_18 : decode cX11_sessions 18 = .ok (.getfield 7, 3) := by decide +kernel
theorem dX11_sessions_21 : decode cX11_sessions 21 = .ok (.sipush 2030, 3) := by decide +kernel
theorem dX11_sessions_24 : decode cX11_sessions 24 = .ok (.iconst 0, 1) := by decide +kernel
theorem dX11_sessions_25 : decode cX11_sessions 25 = .ok (.iastore, 1) := by decide +kernel
theorem dX11_sessions_26 : decode cX11_sessions 26 = .ok (.aload_n 0, 1) := by decide +kernel
theorem dX11_sessions_27 : decode cX11_sessions 27 = .ok (.iconst 0, 1) := by decide +kernel
theorem dX11_sessions_28 : decode cX11_sessions 28 = .ok (.putfield 239, 3) := by decide +kernel
theorem dX11_sessions_31 : decode cX11_sessions 31 = .ok (.aload_n 0, 1) := by decide +kernel
theorem dX11_sessions_32 : decode cX11_sessions 32 = .ok (.iconst 0, 1) := by decide +kernel
theorem dX11_sessions_33 : decode cX11_sessions 33 = .ok (.putfield 242, 3) := by decide +kernel
theorem dX11_sessions_36 : decode cX11_sessions 36 = .ok (.iconst 1, 1) := by decide +kernel
theorem dX11_sessions_37 : decode cX11_sessions 37 = .ok (.istore_n 2, 1) := by decide +kernel
theorem dX11_sessions_38 : decode cX11_sessions 38 = .ok (.iload_n 2, 1) := by decide +kernel
theorem dX11_sessions_39 : decode cX11_sessions 39 = .ok (.ifCond .eq 18, 3) := by decide +kernel
theorem dX11_sessions_42 : decode cX11_sessions 42 = .ok (.aload_n 0, 1) := by decide +kernel
theorem dX11_sessions_43 : decode cX11_sessions 43 = .ok (.getfield 129, 3) := by decide +kernel
theorem dX11_sessions_46 : decode cX11_sessions 46 = .ok (.ifCond .eq 11, 3) := by decide +kernel
theorem dX11_sessions_49 : decode cX11_sessions 49 = .ok (.aload_n 0, 1) := by decide +kernel
theorem dX11_sessions_50 : decode cX11_sessions 50 = .ok (.invokevirtual 248, 3) := by decide +kernel
theorem dX11_sessions_53 : decode cX11_sessions 53 = .ok (.istore_n 2, 1) := by decide +kernel
theorem dX11_sessions_54 : decode cX11_sessions 54 = .ok (.goto (-16), 3) := by decide +kernel
theorem dX11_sessions_57 : decode cX11_sessions 57 = .ok (.aload_n 0, 1) := by decide +kernel
theorem dX11_sessions_58 : decode cX11_sessions 58 = .ok (.getfield 154, 3) := by decide +kernel
theorem dX11_sessions_61 : decode cX11_sessions 61 = .ok (.ifCond .ne 16, 3) := by decide +kernel
theorem dX11_sessions_64 : decode cX11_sessions 64 = .ok (.aload_n 0, 1) := by decide +kernel
theorem dX11_sessions_65 : decode cX11_sessions 65 = .ok (.getfield 239, 3) := by decide +kernel
theorem dX11_sessions_68 : decode cX11_sessions 68 = .ok (.ifCond .le 9, 3) := by decide +kernel
theorem dX11_sessions_71 : decode cX11_sessions 71 = .ok (.aload_n 0, 1) := by decide +kernel
theorem dX11_sessions_72 : decode cX11_sessions 72 = .ok (.iconst 2, 1) := by decide +kernel
theorem dX11_sessions_73 : decode cX11_sessions 73 = .ok (.invokevirtual 166, 3) := by decide +kernel
theorem dX11_sessions_76 : decode cX11_sessions 76 = .ok (.pop, 1) := by decide +kernel
theorem dX11_sessions_77 : decode cX11_sessions 77 = .ok (.aload_n 0, 1) := by decide +kernel
theorem dX11_sessions_78 : decode cX11_sessions 78 = .ok (.getfield 154, 3) := by decide +kernel
theorem dX11_sessions_81 : decode cX11_sessions 81 = .ok (.ifCond .ne 51, 3) := by decide +kernel
theorem dX11_sessions_84 : decode cX11_sessions 84 = .ok (.aload_n 0, 1) := by decide +kernel
theorem dX11_sessions_85 : decode cX11_sessions 85 = .ok (.getfield 7, 3) := by decide +kernel
theorem dX11_sessions_88 : decode cX11_sessions 88 = .ok (.bipush 6, 2) := by decide +kernel
theorem dX11_sessions_90 : decode cX11_sessions 90 = .ok (.aload_n 0, 1) := by decide +kernel
theorem dX11_sessions_91 : decode cX11_sessions 91 = .ok (.getfield 7, 3) := by decide +kernel
theorem dX11_sessions_94 : decode cX11_sessions 94 = .ok (.sipush 2030, 3) := by decide +kernel
theorem dX11_sessions_97 : decode cX11_sessions 97 = .ok (.iaload, 1) := by decide +kernel
theorem dX11_sessions_98 : decode cX11_sessions 98 = .ok (.iastore, 1) := by decide +kernel
theorem dX11_sessions_99 : decode cX11_sessions 99 = .ok (.sipush 138, 3) := by decide +kernel
theorem dX11_sessions_102 : decode cX11_sessions 102 = .ok (.istore_n 3, 1) := by decide +kernel
theorem dX11_sessions_103 : decode cX11_sessions 103 = .ok (.iload_n 3, 1) := by decide +kernel
theorem dX11_sessions_104 : decode cX11_sessions 104 = .ok (.sipush 498, 3) := by decide +kernel
theorem dX11_sessions_107 : decode cX11_sessions 107 = .ok (.if_icmp .ge 25, 3) := by decide +kernel
theorem dX11_sessions_110 : decode cX11_sessions 110 = .ok (.aload_n 0, 1) := by decide +kernel
theorem dX11_sessions_111 : decode cX11_sessions 111 = .ok (.getfield 7, 3) := by decide +kernel
theorem dX11_sessions_114 : decode cX11_sessions 114 = .ok (.iload_n 3, 1) := by decide +kernel
theorem dX11_sessions_115 : decode cX11_sessions 115 = .ok (.aload_n 0, 1) := by decide +kernel
theorem dX11_sessions_116 : decode cX11_sessions 116 = .ok (.getfield 7, 3) := by decide +kernel
theorem dX11_sessions_119 : decode cX11_sessions 119 = .ok (.sipush 2024, 3) := by decide +kernel
theorem dX11_sessions_122 : decode cX11_sessions 122 = .ok (.iload_n 3, 1) := by decide +kernel
theorem dX11_sessions_123 : decode cX11_sessions 123 = .ok (.iadd, 1) := by decide +kernel
theorem dX11_sessions_124 : decode cX11_sessions 124 = .ok (.iaload, 1) := by decide +kernel
theorem dX11_sessions_125 : decode cX11_sessions 125 = .ok (.iastore, 1) := by decide +kernel
theorem dX11_sessions_126 : decode cX11_sessions 126 = .ok (.iinc 3 1, 3) := by decide +kernel
theorem dX11_sessions_129 : decode cX11_sessions 129 = .ok (.goto (-26), 3) := by decide +kernel
theorem dX11_sessions_132 : decode cX11_sessions 132 = .ok (.aload_n 0, 1) := by decide +kernel
theorem dX11_sessions_133 : decode cX11_sessions 133 = .ok (.aload_n 0, 1) := by decide +kernel
theorem dX11_sessions_134 : decode cX11_sessions 134 = .ok (.getfield 242, 3) := by decide +kernel
theorem dX11_sessions_137 : decode cX11_sessions 137 = .ok (.invokevirtual 224, 3) := by decide +kernel
theorem dX11_sessions_140 : decode cX11_sessions 140 = .ok (.ireturn, 1) := by decide +kernel
set_option maxHeartbeats 4000000 in
set_option maxRecDepth 100000 in
theorem ctX11_sessions {p1 : Int} {σ : jq_M} {res : Int} {σ' : jq_M}  (h : X11_sessions p1 σ = some (res, σ')) : jq_MC jq_zM yX11_sessions cX11_sessions 4 (some .int) 12 285 [jR 0, jI p1] σ (some (jI res)) σ' := by
  refine jq_met (own := RX11) (L0 := [(0, jR 0), (1, jI p1)]) (by decide) rfl rfl rfl ?_
  intro X Γ hnl hlY hRT
  refine jq_use2 (P := fun r => jq_RT jq_zM X (some .int) (some (jI r.1)) r.2) ?_ h hRT
  intro K0 hK0
  unfold X11_sessions
  have hj132_0 : ∀ (s14 : jq_M), jq_J (X11_sessions_j132 s14) K0 (jq_V jq_zM X (jq_zN jq_zM) s14 132 [(0, jR 0)] []) := by
    intro s14
    unfold X11_sessions_j132
    refine jq_aload_n Γ dX11_sessions_132 rfl 0 rfl (jq_at_0 at_M_0) ?_
    refine jq_aload_n Γ dX11_sessions_133 rfl 0 rfl (jq_at_0 at_M_0) ?_
    refine jq_getI (J := 22) Γ at_M_0 fl_RX11_242 rfl rfl dX11_sessions_134 ?_
    refine jq_cwI (jq_virt (avs := [jI (s14 0 22)]) (st := []) Γ hlY rfl ml_RX11_224 rfl at_M_0 rfl rfl rfl rfl rfl dX11_sessions_137) (fun r σ' h => ctX11_taken h) (fun v15 s16 => ?_)
    exact jq_ireturn Γ dX11_sessions_140 (hK0 _)
  have hj77_0 : ∀ (s13 : jq_M), jq_J (X11_sessions_j77 s13) K0 (jq_V jq_zM X (jq_zN jq_zM) s13 77 [(0, jR 0)] []) := by
    intro s13
    unfold X11_sessions_j77
    refine jq_aload_n Γ dX11_sessions_77 rfl 0 rfl (jq_at_0 at_M_0) ?_
    refine jq_getI (J := 18) Γ at_M_0 fl_RX11_154 rfl rfl dX11_sessions_78 ?_
    refine jq_if_ne (tgt := 132) Γ dX11_sessions_81 rfl ?_ ?_
    · exact hj132_0 s13
    · refine jq_aload_n Γ dX11_sessions_84 rfl 0 rfl (jq_at_0 at_M_0) ?_
      refine jq_getR (v := 1) Γ hlY at_M_0 fl_RX11_7 rfl rfl ly_X11_at dX11_sessions_85 ?_
      refine jq_bipush Γ dX11_sessions_88 rfl ?_
      refine jq_aload_n Γ dX11_sessions_90 rfl 0 rfl (jq_at_0 at_M_0) ?_
      refine jq_getR (v := 1) Γ hlY at_M_0 fl_RX11_7 rfl rfl ly_X11_at dX11_sessions_91 ?_
      refine jq_sipush Γ dX11_sessions_94 rfl ?_
      refine jq_iald Γ at_M_1 rfl dX11_sessions_97 (fun v17 => ?_)
      refine jq_iast Γ at_M_1 rfl dX11_sessions_98 (fun s18 => ?_)
      refine jq_sipush Γ dX11_sessions_99 rfl ?_
      refine jq_istore_n (L' := [(3, jI 138), (0, jR 0)]) Γ dX11_sessions_102 rfl hnl rfl rfl ?_
      refine jq_sub Γ (L' := [(0, jR 0), (3, jI 138)]) [1, 0] rfl ?_
      refine jq_loop2 (C := fun (t19 : Int × jq_M) => jq_V jq_zM X (jq_zN jq_zM) t19.2 103 [(0, jR 0), (3, jI t19.1)] []) (KX := fun (e23 : jq_M) => jq_V jq_zM X (jq_zN jq_zM) e23 132 [(0, jR 0)] []) ?_ ?_ (138, s18)
      · intro K103_t19 hCt19 hXt19 t19
        unfold X11_sessions_b103
        refine jq_iload_n Γ dX11_sessions_103 rfl 1 rfl ?_
        refine jq_sipush Γ dX11_sessions_104 rfl ?_
        refine jq_icmp_ge (tgt := 132) Γ dX11_sessions_107 rfl ?_ ?_
        · refine jq_sub Γ (L' := [(0, jR 0)]) [0] rfl ?_
          exact jq_done (hXt19 t19.2)
        · refine jq_aload_n Γ dX11_sessions_110 rfl 0 rfl (jq_at_0 at_M_0) ?_
          refine jq_getR (v := 1) Γ hlY at_M_0 fl_RX11_7 rfl rfl ly_X11_at dX11_sessions_111 ?_
          refine jq_iload_n Γ dX11_sessions_114 rfl 1 rfl ?_
          refine jq_aload_n Γ dX11_sessions_115 rfl 0 rfl (jq_at_0 at_M_0) ?_
          refine jq_getR (v := 1) Γ hlY at_M_0 fl_RX11_7 rfl rfl ly_X11_at dX11_sessions_116 ?_
          refine jq_sipush Γ dX11_sessions_119 rfl ?_
          refine jq_iload_n Γ dX11_sessions_122 rfl 1 rfl ?_
          refine jq_iadd Γ dX11_sessions_123 ?_
          refine jq_iald Γ at_M_1 rfl dX11_sessions_124 (fun v20 => ?_)
          refine jq_iast Γ at_M_1 rfl dX11_sessions_125 (fun s21 => ?_)
          refine jq_iincN (L' := fun v22 => [(3, jI v22), (0, jR 0)]) Γ dX11_sessions_126 1 rfl hnl rfl (fun _ => rfl) (fun v22 => ?_)
          refine jq_goto Γ (tgt := 103) dX11_sessions_129 rfl ?_
          refine jq_sub Γ (L' := [(0, jR 0), (3, jI v22)]) [1, 0] rfl ?_
          exact jq_done (hCt19 (v22, s21))
      · intro e23
        exact hj132_0 e23
  have hj57_0 : ∀ (s12 : jq_M), jq_J (X11_sessions_j57 s12) K0 (jq_V jq_zM X (jq_zN jq_zM) s12 57 [(0, jR 0)] []) := by
    intro s12
    unfold X11_sessions_j57
    refine jq_aload_n Γ dX11_sessions_57 rfl 0 rfl (jq_at_0 at_M_0) ?_
    refine jq_getI (J := 18) Γ at_M_0 fl_RX11_154 rfl rfl dX11_sessions_58 ?_
    refine jq_if_ne (tgt := 77) Γ dX11_sessions_61 rfl ?_ ?_
    · exact hj77_0 s12
    · refine jq_aload_n Γ dX11_sessions_64 rfl 0 rfl (jq_at_0 at_M_0) ?_
      refine jq_getI (J := 21) Γ at_M_0 fl_RX11_239 rfl rfl dX11_sessions_65 ?_
      refine jq_if_le (tgt := 77) Γ dX11_sessions_68 rfl ?_ ?_
      · exact hj77_0 s12
      · refine jq_aload_n Γ dX11_sessions_71 rfl 0 rfl (jq_at_0 at_M_0) ?_
        refine jq_iconst Γ dX11_sessions_72 rfl ?_
        refine jq_cwZ (jq_virt (avs := [jI 2]) (st := []) Γ hlY rfl ml_RX11_166 rfl at_M_0 rfl rfl rfl rfl rfl dX11_sessions_73) rfl (fun r σ' h => ctX11_fails h) (fun v24 s25 hz26 => ?_)
        refine jq_pop Γ dX11_sessions_76 rfl ?_
        exact hj77_0 s25
  refine jq_aload_n Γ dX11_sessions_0 rfl 0 rfl (jq_at_0 at_M_0) ?_
  refine jq_iload_n Γ dX11_sessions_1 rfl 1 rfl ?_
  refine jq_sipush Γ dX11_sessions_2 rfl ?_
  refine jq_cwZ (jq_virt (avs := [jI p1, jI 300]) (st := []) Γ hlY rfl ml_RX11_217 rfl at_M_0 rfl rfl rfl rfl rfl dX11_sessions_5) rfl (fun r σ' h => ctX11_begins h) (fun v1 s2 hz3 => ?_)
  refine jq_if_ne (tgt := 17) Γ dX11_sessions_8 rfl ?_ ?_
  · refine jq_aload_n Γ dX11_sessions_17 rfl 0 rfl (jq_at_0 at_M_0) ?_
    refine jq_getR (v := 1) Γ hlY at_M_0 fl_RX11_7 rfl rfl ly_X11_at dX11_sessions_18 ?_
    refine jq_sipush Γ dX11_sessions_21 rfl ?_
    refine jq_iconst Γ dX11_sessions_24 rfl ?_
    refine jq_iast Γ at_M_1 rfl dX11_sessions_25 (fun s4 => ?_)
    refine jq_aload_n Γ dX11_sessions_26 rfl 0 rfl (jq_at_0 at_M_0) ?_
    refine jq_iconst Γ dX11_sessions_27 rfl ?_
    refine jq_putI Γ at_M_0 fl_RX11_239 rfl rfl dX11_sessions_28 (fun s5 => ?_)
    refine jq_aload_n Γ dX11_sessions_31 rfl 0 rfl (jq_at_0 at_M_0) ?_
    refine jq_iconst Γ dX11_sessions_32 rfl ?_
    refine jq_putI Γ at_M_0 fl_RX11_242 rfl rfl dX11_sessions_33 (fun s6 => ?_)
    refine jq_iconst Γ dX11_sessions_36 rfl ?_
    refine jq_istore_n (L' := [(2, jI 1), (0, jR 0), (1, jI p1)]) Γ dX11_sessions_37 rfl hnl rfl rfl ?_
    refine jq_sub Γ (L' := [(0, jR 0), (2, jI 1)]) [1, 0] rfl ?_
    refine jq_loop2 (C := fun (t7 : Int × jq_M) => jq_V jq_zM X (jq_zN jq_zM) t7.2 38 [(0, jR 0), (2, jI t7.1)] []) (KX := fun (e11 : jq_M) => jq_V jq_zM X (jq_zN jq_zM) e11 57 [(0, jR 0)] []) ?_ ?_ (1, s6)
    · intro K38_t7 hCt7 hXt7 t7
      unfold X11_sessions_b38
      refine jq_iload_n Γ dX11_sessions_38 rfl 1 rfl ?_
      refine jq_if_eq (tgt := 57) Γ dX11_sessions_39 rfl ?_ ?_
      · refine jq_sub Γ (L' := [(0, jR 0)]) [0] rfl ?_
        exact jq_done (hXt7 t7.2)
      · refine jq_aload_n Γ dX11_sessions_42 rfl 0 rfl (jq_at_0 at_M_0) ?_
        refine jq_getI (J := 12) Γ at_M_0 fl_RX11_129 rfl rfl dX11_sessions_43 ?_
        refine jq_if_eq (tgt := 57) Γ dX11_sessions_46 rfl ?_ ?_
        · refine jq_sub Γ (L' := [(0, jR 0)]) [0] rfl ?_
          exact jq_done (hXt7 t7.2)
        · refine jq_aload_n Γ dX11_sessions_49 rfl 0 rfl (jq_at_0 at_M_0) ?_
          refine jq_cwZ (jq_virt (avs := []) (st := []) Γ hlY rfl ml_RX11_248 rfl at_M_0 rfl rfl rfl rfl rfl dX11_sessions_50) rfl (fun r σ' h => ctX11_sessionStep h) (fun v8 s9 hz10 => ?_)
          refine jq_istore_n (L' := [(2, jI v8), (0, jR 0)]) Γ dX11_sessions_53 rfl hnl rfl rfl ?_
          refine jq_goto Γ (tgt := 38) dX11_sessions_54 rfl ?_
          refine jq_sub Γ (L' := [(0, jR 0), (2, jI v8)]) [1, 0] rfl ?_
          exact jq_done (hCt7 (v8, s9))
    · intro e11
      exact hj57_0 e11
  · refine jq_aload_n Γ dX11_sessions_11 rfl 0 rfl (jq_at_0 at_M_0) ?_
    refine jq_iconst Γ dX11_sessions_12 rfl ?_
    refine jq_cwI (jq_virt (avs := [jI 1]) (st := []) Γ hlY rfl ml_RX11_84 rfl at_M_0 rfl rfl rfl rfl rfl dX11_sessions_13) (fun r σ' h => ctX11_refuse h) (fun v27 s28 => ?_)
    exact jq_ireturn Γ dX11_sessions_16 (hK0 _)


theorem dX11_partyRow_0 : decode cX11_partyRow 0 = .ok (.bipush 8, 2) := by decide +kernel
theorem dX11_partyRow_2 : decode cX11_partyRow 2 = .ok (.iconst 2, 1) := by decide +kernel
theorem dX11_partyRow_3 : decode cX11_partyRow 3 = .ok (.iload_n 0, 1) := by decide +kernel
theorem dX11_partyRow_4 : decode cX11_partyRow 4 = .ok (.imul, 1) := by decide +kernel
theorem dX11_partyRow_5 : decode cX11_partyRow 5 = .ok (.iadd, 1) := by decide +kernel
theorem dX11_partyRow_6 : decode cX11_partyRow 6 = .ok (.ireturn, 1) := by decide +kernel
set_option maxHeartbeats 4000000 in
set_option maxRecDepth 100000 in
theorem ctX11_partyRow {p0 : Int} {σ : jq_M} {res : Int}  (h : X11_partyRow p0 σ = some res) : jq_MC jq_zM yX11_partyRow cX11_partyRow 1 (some .int) 1 40 [jI p0] σ (some (jI res)) σ := by
  refine jq_met (own := RX11) (L0 := [(0, jI p0)]) (by decide) rfl rfl rfl ?_
  intro X Γ hnl hlY hRT
  refine jq_use2 (P := fun r => jq_RT jq_zM X (some .int) (some (jI r)) σ) ?_ h hRT
  intro K0 hK0
  unfold X11_partyRow
  refine jq_bipush Γ dX11_partyRow_0 rfl ?_
  refine jq_iconst Γ dX11_partyRow_2 rfl ?_
  refine jq_iload_n Γ dX11_partyRow_3 rfl 0 rfl ?_
  refine jq_imul Γ dX11_partyRow_4 ?_
  refine jq_iadd Γ dX11_partyRow_5 ?_
  exact jq_ireturn Γ dX11_partyRow_6 (hK0 _)


theorem dX11_wishRow_0 : decode cX11_wishRow 0 = .ok (.bipush 18, 2) := by decide +kernel
theorem dX11_wishRow_2 : decode cX11_wishRow 2 = .ok (.iconst 4, 1) := by decide +kernel
theorem dX11_wishRow_3 : decode cX11_wishRow 3 = .ok (.iload_n 0, 1) := by decide +kernel
theorem dX11_wishRow_4 : decode cX11_wishRow 4 = .ok (.imul, 1) := by decide +kernel
theorem dX11_wishRow_5 : decode cX11_wishRow 5 = .ok (.iadd, 1) := by decide +kernel
theorem dX11_wishRow_6 : decode cX11_wishRow 6 = .ok (.ireturn, 1) := by decide +kernel
set_option maxHeartbeats 4000000 in
set_option maxRecDepth 100000 in
theorem ctX11_wishRow {p0 : Int} {σ : jq_M} {res : Int}  (h : X11_wishRow p0 σ = some res) : jq_MC jq_zM yX11_wishRow cX11_wishRow 1 (some .int) 1 40 [jI p0] σ (some (jI res)) σ := by
  refine jq_met (own := RX11) (L0 := [(0, jI p0)]) (by decide) rfl rfl rfl ?_
  intro X Γ hnl hlY hRT
  refine jq_use2 (P := fun r => jq_RT jq_zM X (some .int) (some (jI r)) σ) ?_ h hRT
  intro K0 hK0
  unfold X11_wishRow
  refine jq_bipush Γ dX11_wishRow_0 rfl ?_
  refine jq_iconst Γ dX11_wishRow_2 rfl ?_
  refine jq_iload_n Γ dX11_wishRow_3 rfl 0 rfl ?_
  refine jq_imul Γ dX11_wishRow_4 ?_
  refine jq_iadd Γ dX11_wishRow_5 ?_
  exact jq_ireturn Γ dX11_wishRow_6 (hK0 _)


theorem dX11_articleRow_0 : decode cX11_articleRow 0 = .ok (.bipush 98, 2) := by decide +kernel
theorem dX11_articleRow_2 : decode cX11_articleRow 2 = .ok (.iconst 5, 1) := by decide +kernel
theorem dX11_articleRow_3 : decode cX11_articleRow 3 = .ok (.iload_n 0, 1) := by decide +kernel
theorem dX11_articleRow_4 : decode cX11_articleRow 4 = .ok (.imul, 1) := by decide +kernel
theorem dX11_articleRow_5 : decode cX11_articleRow 5 = .ok (.iadd, 1) := by decide +kernel
theorem dX11_articleRow_6 : decode cX11_articleRow 6 = .ok (.ireturn, 1) := by decide +kernel
set_option maxHeartbeats 4000000 in
set_option maxRecDepth 100000 in
theorem ctX11_articleRow {p0 : Int} {σ : jq_M} {res : Int}  (h : X11_articleRow p0 σ = some res) : jq_MC jq_zM yX11_articleRow cX11_articleRow 1 (some .int) 1 40 [jI p0] σ (some (jI res)) σ := by
  refine jq_met (own := RX11) (L0 := [(0, jI p0)]) (by decide) rfl rfl rfl ?_
  intro X Γ hnl hlY hRT
  refine jq_use2 (P := fun r => jq_RT jq_zM X (some .int) (some (jI r)) σ) ?_ h hRT
  intro K0 hK0
  unfold X11_articleRow
  refine jq_bipush Γ dX11_articleRow_0 rfl ?_
  refine jq_iconst Γ dX11_articleRow_2 rfl ?_
  refine jq_iload_n Γ dX11_articleRow_3 rfl 0 rfl ?_
  refine jq_imul Γ dX11_articleRow_4 ?_
  refine jq_iadd Γ dX11_articleRow_5 ?_
  exact jq_ireturn Γ dX11_articleRow_6 (hK0 _)


theorem dX11_isPlace_0 : decode cX11_isPlace 0 = .ok (.iload_n 1, 1) := by decide +kernel
theorem dX11_isPlace_1 : decode cX11_isPlace 1 = .ok (.ifCond .lt 17, 3) := by decide +kernel
theorem dX11_isPlace_4 : decode cX11_isPlace 4 = .ok (.iload_n 1, 1) := by decide +kernel
theorem dX11_isPlace_5 : decode cX11_isPlace 5 = .ok (.aload_n 0, 1) := by decide +kernel
theorem dX11_isPlace_6 : decode cX11_isPlace 6 = .ok (.getfield 7, 3) := by decide +kernel
theorem dX11_isPlace_9 : decode cX11_isPlace 9 = .ok (.iconst 0, 1) := by decide +kernel
theorem dX11_isPlace_10 : decode cX11_isPlace 10 = .ok (.iaload, 1) := by decide +kernel
theorem dX11_isPlace_11 : decode cX11_isPlace 11 = .ok (.if_icmp .ge 7, 3) := by decide +kernel
theorem dX11_isPlace_14 : decode cX11_isPlace 14 = .ok (.iconst 1, 1) := by decide +kernel
theorem dX11_isPlace_15 : decode cX11_isPlace 15 = .ok (.goto 4, 3) := by decide +kernel
theorem dX11_isPlace_18 : decode cX11_isPlace 18 = .ok (.iconst 0, 1) := by decide +kernel
theorem dX11_isPlace_19 : decode cX11_isPlace 19 = .ok (.ireturn, 1) := by decide +kernel
set_option maxHeartbeats 4000000 in
set_option maxRecDepth 100000 in
theorem ctX11_isPlace {p1 : Int} {σ : jq_M} {res : Int}  (h : X11_isPlace p1 σ = some res) : jq_MC jq_zM yX11_isPlace cX11_isPlace 2 (some .boolean) 1 40 [jR 0, jI p1] σ (some (jI res)) σ := by
  refine jq_met (own := RX11) (L0 := [(0, jR 0), (1, jI p1)]) (by decide) rfl rfl rfl ?_
  intro X Γ hnl hlY hRT
  refine jq_use2 (P := fun r => jq_RT jq_zM X (some .boolean) (some (jI r)) σ) ?_ h hRT
  intro K0 hK0
  unfold X11_isPlace
  refine jq_iload_n Γ dX11_isPlace_0 rfl 1 rfl ?_
  refine jq_if_lt (tgt := 18) Γ dX11_isPlace_1 rfl ?_ ?_
  · refine jq_iconst Γ dX11_isPlace_18 rfl ?_
    exact jq_zreturn Γ (Or.inl rfl) dX11_isPlace_19 (hK0 _)
  · refine jq_iload_n Γ dX11_isPlace_4 rfl 1 rfl ?_
    refine jq_aload_n Γ dX11_isPlace_5 rfl 0 rfl (jq_at_0 at_M_0) ?_
    refine jq_getR (v := 1) Γ hlY at_M_0 fl_RX11_7 rfl rfl ly_X11_at dX11_isPlace_6 ?_
    refine jq_iconst Γ dX11_isPlace_9 rfl ?_
    refine jq_iald Γ at_M_1 rfl dX11_isPlace_10 (fun v1 => ?_)
    refine jq_icmp_ge (tgt := 18) Γ dX11_isPlace_11 rfl ?_ ?_
    · refine jq_iconst Γ dX11_isPlace_18 rfl ?_
      exact jq_zreturn Γ (Or.inl rfl) dX11_isPlace_19 (hK0 _)
    · refine jq_iconst Γ dX11_isPlace_14 rfl ?_
      refine jq_goto Γ (tgt := 19) dX11_isPlace_15 rfl ?_
      exact jq_zreturn Γ (Or.inr rfl) dX11_isPlace_19 (hK0 _)


theorem dX11_isParty_0 : decode cX11_isParty 0 = .ok (.iload_n 1, 1) := by decide +kernel
theorem dX11_isParty_1 : decode cX11_isParty 1 = .ok (.ifCond .lt 17, 3) := by decide +kernel
theorem dX11_isParty_4 : decode cX11_isParty 4 = .ok (.iload_n 1, 1) := by decide +kernel
theorem dX11_isParty_5 : decode cX11_isParty 5 = .ok (.aload_n 0, 1) := by decide +kernel
theorem dX11_isParty_6 : decode cX11_isParty 6 = .ok (.getfield 7, 3) := by decide +kernel
theorem dX11_isParty_9 : decode cX11_isParty 9 = .ok (.iconst 1, 1) := by decide +kernel
theorem dX11_isParty_10 : decode cX11_isParty 10 = .ok (.iaload, 1) := by decide +kernel
theorem dX11_isParty_11 : decode cX11_isParty 11 = .ok (.if_icmp .ge 7, 3) := by decide +kernel
theorem dX11_isParty_14 : decode cX11_isParty 14 = .ok (.iconst 1, 1) := by decide +kernel
theorem dX11_isParty_15 : decode cX11_isParty 15 = .ok (.goto 4, 3) := by decide +kernel
theorem dX11_isParty_18 : decode cX11_isParty 18 = .ok (.iconst 0, 1) := by decide +kernel
theorem dX11_isParty_19 : decode cX11_isParty 19 = .ok (.ireturn, 1) := by decide +kernel
set_option maxHeartbeats 4000000 in
set_option maxRecDepth 100000 in
theorem ctX11_isParty {p1 : Int} {σ : jq_M} {res : Int}  (h : X11_isParty p1 σ = some res) : jq_MC jq_zM yX11_isParty cX11_isParty 2 (some .boolean) 1 40 [jR 0, jI p1] σ (some (jI res)) σ := by
  refine jq_met (own := RX11) (L0 := [(0, jR 0), (1, jI p1)]) (by decide) rfl rfl rfl ?_
  intro X Γ hnl hlY hRT
  refine jq_use2 (P := fun r => jq_RT jq_zM X (some .boolean) (some (jI r)) σ) ?_ h hRT
  intro K0 hK0
  unfold X11_isParty
  refine jq_iload_n Γ dX11_isParty_0 rfl 1 rfl ?_
  refine jq_if_lt (tgt := 18) Γ dX11_isParty_1 rfl ?_ ?_
  · refine jq_iconst Γ dX11_isParty_18 rfl ?_
    exact jq_zreturn Γ (Or.inl rfl) dX11_isParty_19 (hK0 _)
  · refine jq_iload_n Γ dX11_isParty_4 rfl 1 rfl ?_
    refine jq_aload_n Γ dX11_isParty_5 rfl 0 rfl (jq_at_0 at_M_0) ?_
    refine jq_getR (v := 1) Γ hlY at_M_0 fl_RX11_7 rfl rfl ly_X11_at dX11_isParty_6 ?_
    refine jq_iconst Γ dX11_isParty_9 rfl ?_
    refine jq_iald Γ at_M_1 rfl dX11_isParty_10 (fun v1 => ?_)
    refine jq_icmp_ge (tgt := 18) Γ dX11_isParty_11 rfl ?_ ?_
    · refine jq_iconst Γ dX11_isParty_18 rfl ?_
      exact jq_zreturn Γ (Or.inl rfl) dX11_isParty_19 (hK0 _)
    · refine jq_iconst Γ dX11_isParty_14 rfl ?_
      refine jq_goto Γ (tgt := 19) dX11_isParty_15 rfl ?_
      exact jq_zreturn Γ (Or.inr rfl) dX11_isParty_19 (hK0 _)


theorem dX11_areTwo_0 : decode cX11_areTwo 0 = .ok (.aload_n 0, 1) := by decide +kernel
theorem dX11_areTwo_1 : decode cX11_areTwo 1 = .ok (.iload_n 1, 1) := by decide +kernel
theorem dX11_areTwo_2 : decode cX11_areTwo 2 = .ok (.invokevirtual 251, 3) := by decide +kernel
theorem dX11_areTwo_5 : decode cX11_areTwo 5 = .ok (.ifCond .eq 20, 3) := by decide +kernel
theorem dX11_areTwo_8 : decode cX11_areTwo 8 = .ok (.aload_n 0, 1) := by decide +kernel
theorem dX11_areTwo_9 : decode cX11_areTwo 9 = .ok (.iload_n 2, 1) := by decide +kernel
theorem dX11_areTwo_10 : decode cX11_areTwo 10 = .ok (.invokevirtual 251, 3) := by decide +kernel
theorem dX11_areTwo_13 : decode cX11_areTwo 13 = .ok (.ifCond .eq 12, 3) := by decide +kernel
theorem dX11_areTwo_16 : decode cX11_areTwo 16 = .ok (.iload_n 1, 1) := by decide +kernel
theorem dX11_areTwo_17 : decode cX11_areTwo 17 = .ok (.iload_n 2, 1) := by decide +kernel
theorem dX11_areTwo_18 : decode cX11_areTwo 18 = .ok (.if_icmp .eq 7, 3) := by decide +kernel
theorem dX11_areTwo_21 : decode cX11_areTwo 21 = .ok (.iconst 1, 1) := by decide +kernel
theorem dX11_areTwo_22 : decode cX11_areTwo 22 = .ok (.goto 4, 3) := by decide +kernel
theorem dX11_areTwo_25 : decode cX11_areTwo 25 = .ok (.iconst 0, 1) := by decide +kernel
theorem dX11_areTwo_26 : decode cX11_areTwo 26 = .ok (.ireturn, 1) := by decide +kernel
set_option maxHeartbeats 4000000 in
set_option maxRecDepth 100000 in
theorem ctX11_areTwo {p1 : Int} {p2 : Int} {σ : jq_M} {res : Int}  (h : X11_areTwo p1 p2 σ = some res) : jq_MC jq_zM yX11_areTwo cX11_areTwo 3 (some .boolean) 2 61 [jR 0, jI p1, jI p2] σ (some (jI res)) σ := by
  refine jq_met (own := RX11) (L0 := [(0, jR 0), (1, jI p1), (2, jI p2)]) (by decide) rfl rfl rfl ?_
  intro X Γ hnl hlY hRT
  refine jq_use2 (P := fun r => jq_RT jq_zM X (some .boolean) (some (jI r)) σ) ?_ h hRT
  intro K0 hK0
  unfold X11_areTwo
  refine jq_aload_n Γ dX11_areTwo_0 rfl 0 rfl (jq_at_0 at_M_0) ?_
  refine jq_iload_n Γ dX11_areTwo_1 rfl 1 rfl ?_
  refine jq_cpZ (jq_virt (avs := [jI p1]) (st := []) Γ hlY rfl ml_RX11_251 rfl at_M_0 rfl rfl rfl rfl rfl dX11_areTwo_2) rfl (fun r h => ctX11_isParty h) (fun v1 hz2 => ?_)
  refine jq_if_eq (tgt := 25) Γ dX11_areTwo_5 rfl ?_ ?_
  · refine jq_iconst Γ dX11_areTwo_25 rfl ?_
    exact jq_zreturn Γ (Or.inl rfl) dX11_areTwo_26 (hK0 _)
  · refine jq_aload_n Γ dX11_areTwo_8 rfl 0 rfl (jq_at_0 at_M_0) ?_
    refine jq_iload_n Γ dX11_areTwo_9 rfl 2 rfl ?_
    refine jq_cpZ (jq_virt (avs := [jI p2]) (st := []) Γ hlY rfl ml_RX11_251 rfl at_M_0 rfl rfl rfl rfl rfl dX11_areTwo_10) rfl (fun r h => ctX11_isParty h) (fun v3 hz4 => ?_)
    refine jq_if_eq (tgt := 25) Γ dX11_areTwo_13 rfl ?_ ?_
    · refine jq_iconst Γ dX11_areTwo_25 rfl ?_
      exact jq_zreturn Γ (Or.inl rfl) dX11_areTwo_26 (hK0 _)
    · refine jq_iload_n Γ dX11_areTwo_16 rfl 1 rfl ?_
      refine jq_iload_n Γ dX11_areTwo_17 rfl 2 rfl ?_
      refine jq_icmp_eq (tgt := 25) Γ dX11_areTwo_18 rfl ?_ ?_
      · refine jq_iconst Γ dX11_areTwo_25 rfl ?_
        exact jq_zreturn Γ (Or.inl rfl) dX11_areTwo_26 (hK0 _)
      · refine jq_iconst Γ dX11_areTwo_21 rfl ?_
        refine jq_goto Γ (tgt := 26) dX11_areTwo_22 rfl ?_
        exact jq_zreturn Γ (Or.inr rfl) dX11_areTwo_26 (hK0 _)


theorem dX11_isArticle_0 : decode cX11_isArticle 0 = .ok (.iload_n 1, 1) := by decide +kernel
theorem dX11_isArticle_1 : decode cX11_isArticle 1 = .ok (.ifCond .lt 17, 3) := by decide +kernel
theorem dX11_isArticle_4 : decode cX11_isArticle 4 = .ok (.iload_n 1, 1) := by decide +kernel
theorem dX11_isArticle_5 : decode cX11_isArticle 5 = .ok (.aload_n 0, 1) := by decide +kernel
theorem dX11_isArticle_6 : decode cX11_isArticle 6 = .ok (.getfield 7, 3) := by decide +kernel
theorem dX11_isArticle_9 : decode cX11_isArticle 9 = .ok (.iconst 3, 1) := by decide +kernel
theorem dX11_isArticle_10 : decode cX11_isArticle 10 = .ok (.iaload, 1) := by decide +kernel
theorem dX11_isArticle_11 : decode cX11_isArticle 11 = .ok (.if_icmp .ge 7, 3) := by decide +kernel
theorem dX11_isArticle_14 : decode cX11_isArticle 14 = .ok (.iconst 1, 1) := by decide +kernel
theorem dX11_isArticle_15 : decode cX11_isArticle 15 = .ok (.goto 4, 3) := by decide +kernel
theorem dX11_isArticle_18 : decode cX11_isArticle 18 = .ok (.iconst 0, 1) := by decide +kernel
theorem dX11_isArticle_19 : decode cX11_isArticle 19 = .ok (.ireturn, 1) := by decide +kernel
set_option maxHeartbeats 4000000 in
set_option maxRecDepth 100000 in
theorem ctX11_isArticle {p1 : Int} {σ : jq_M} {res : Int}  (h : X11_isArticle p1 σ = some res) : jq_MC jq_zM yX11_isArticle cX11_isArticle 2 (some .boolean) 1 40 [jR 0, jI p1] σ (some (jI res)) σ := by
  refine jq_met (own := RX11) (L0 := [(0, jR 0), (1, jI p1)]) (by decide) rfl rfl rfl ?_
  intro X Γ hnl hlY hRT
  refine jq_use2 (P := fun r => jq_RT jq_zM X (some .boolean) (some (jI r)) σ) ?_ h hRT
  intro K0 hK0
  unfold X11_isArticle
  refine jq_iload_n Γ dX11_isArticle_0 rfl 1 rfl ?_
  refine jq_if_lt (tgt := 18) Γ dX11_isArticle_1 rfl ?_ ?_
  · refine jq_iconst Γ dX11_isArticle_18 rfl ?_
    exact jq_zreturn Γ (Or.inl rfl) dX11_isArticle_19 (hK0 _)
  · refine jq_iload_n Γ dX11_isArticle_4 rfl 1 rfl ?_
    refine jq_aload_n Γ dX11_isArticle_5 rfl 0 rfl (jq_at_0 at_M_0) ?_
    refine jq_getR (v := 1) Γ hlY at_M_0 fl_RX11_7 rfl rfl ly_X11_at dX11_isArticle_6 ?_
    refine jq_iconst Γ dX11_isArticle_9 rfl ?_
    refine jq_iald Γ at_M_1 rfl dX11_isArticle_10 (fun v1 => ?_)
    refine jq_icmp_ge (tgt := 18) Γ dX11_isArticle_11 rfl ?_ ?_
    · refine jq_iconst Γ dX11_isArticle_18 rfl ?_
      exact jq_zreturn Γ (Or.inl rfl) dX11_isArticle_19 (hK0 _)
    · refine jq_iconst Γ dX11_isArticle_14 rfl ?_
      refine jq_goto Γ (tgt := 19) dX11_isArticle_15 rfl ?_
      exact jq_zreturn Γ (Or.inr rfl) dX11_isArticle_19 (hK0 _)


theorem dX11_isIn_0 : decode cX11_isIn 0 = .ok (.iload_n 1, 1) := by decide +kernel
theorem dX11_isIn_1 : decode cX11_isIn 1 = .ok (.iload_n 2, 1) := by decide +kernel
theorem dX11_isIn_2 : decode cX11_isIn 2 = .ok (.ishr, 1) := by decide +kernel
theorem dX11_isIn_3 : decode cX11_isIn 3 = .ok (.iconst 1, 1) := by decide +kernel
theorem dX11_isIn_4 : decode cX11_isIn 4 = .ok (.iand, 1) := by decide +kernel
theorem dX11_isIn_5 : decode cX11_isIn 5 = .ok (.iconst 1, 1) := by decide +kernel
theorem dX11_isIn_6 : decode cX11_isIn 6 = .ok (.if_icmp .ne 7, 3) := by decide +kernel
theorem dX11_isIn_9 : decode cX11_isIn 9 = .ok (.iconst 1, 1) := by decide +kernel
theorem dX11_isIn_10 : decode cX11_isIn 10 = .ok (.goto 4, 3) := by decide +kernel
theorem dX11_isIn_13 : decode cX11_isIn 13 = .ok (.iconst 0, 1) := by decide +kernel
theorem dX11_isIn_14 : decode cX11_isIn 14 = .ok (.ireturn, 1) := by decide +kernel
set_option maxHeartbeats 4000000 in
set_option maxRecDepth 100000 in
theorem ctX11_isIn {p1 : Int} {p2 : Int} {σ : jq_M} {res : Int}  (h : X11_isIn p1 p2 σ = some res) : jq_MC jq_zM yX11_isIn cX11_isIn 3 (some .boolean) 1 40 [jR 0, jI p1, jI p2] σ (some (jI res)) σ := by
  refine jq_met (own := RX11) (L0 := [(0, jR 0), (1, jI p1), (2, jI p2)]) (by decide) rfl rfl rfl ?_
  intro X Γ hnl hlY hRT
  refine jq_use2 (P := fun r => jq_RT jq_zM X (some .boolean) (some (jI r)) σ) ?_ h hRT
  intro K0 hK0
  unfold X11_isIn
  refine jq_iload_n Γ dX11_isIn_0 rfl 1 rfl ?_
  refine jq_iload_n Γ dX11_isIn_1 rfl 2 rfl ?_
  refine jq_ishr Γ dX11_isIn_2 ?_
  refine jq_iconst Γ dX11_isIn_3 rfl ?_
  refine jq_iand Γ dX11_isIn_4 ?_
  refine jq_iconst Γ dX11_isIn_5 rfl ?_
  refine jq_icmp_ne (tgt := 13) Γ dX11_isIn_6 rfl ?_ ?_
  · refine jq_iconst Γ dX11_isIn_13 rfl ?_
    exact jq_zreturn Γ (Or.inl rfl) dX11_isIn_14 (hK0 _)
  · refine jq_iconst Γ dX11_isIn_9 rfl ?_
    refine jq_goto Γ (tgt := 14) dX11_isIn_10 rfl ?_
    exact jq_zreturn Γ (Or.inr rfl) dX11_isIn_14 (hK0 _)


theorem dX11_bits_0 : decode cX11_bits 0 = .ok (.iconst 0, 1) := by decide +kernel
theorem dX11_bits_1 : decode cX11_bits 1 = .ok (.istore_n 1, 1) := by decide +kernel
theorem dX11_bits_2 : decode cX11_bits 2 = .ok (.iload_n 0, 1) := by decide +kernel
theorem dX11_bits_3 : decode cX11_bits 3 = .ok (.istore_n 2, 1) := by decide +kernel
theorem dX11_bits_4 : decode cX11_bits 4 = .ok (.iload_n 2, 1) := by decide +kernel
theorem dX11_bits_5 : decode cX11_bits 5 = .ok (.ifCond .eq 15, 3) := by decide +kernel
theorem dX11_bits_8 : decode cX11_bits 8 = .ok (.iinc 1 1, 3) := by decide +kernel
theorem dX11_bits_11 : decode cX11_bits 11 = .ok (.iload_n 2, 1) := by decide +kernel
theorem dX11_bits_12 : decode cX11_bits 12 = .ok (.iload_n 2, 1) := by decide +kernel
theorem dX11_bits_13 : decode cX11_bits 13 = .ok (.iconst 1, 1) := by decide +kernel
theorem dX11_bits_14 : decode cX11_bits 14 = .ok (.isub, 1) := by decide +kernel
theorem dX11_bits_15 : decode cX11_bits 15 = .ok (.iand, 1) := by decide +kernel
theorem dX11_bits_16 : decode cX11_bits 16 = .ok (.istore_n 2, 1) := by decide +kernel
theorem dX11_bits_17 : decode cX11_bits 17 = .ok (.goto (-13), 3) := by decide +kernel
theorem dX11_bits_20 : decode cX11_bits 20 = .ok (.iload_n 1, 1) := by decide +kernel
theorem dX11_bits_21 : decode cX11_bits 21 = .ok (.ireturn, 1) := by decide +kernel
set_option maxHeartbeats 4000000 in
set_option maxRecDepth 100000 in
theorem ctX11_bits {p0 : Int} {σ : jq_M} {res : Int}  (h : X11_bits p0 σ = some res) : jq_MC jq_zM yX11_bits cX11_bits 3 (some .int) 1 40 [jI p0] σ (some (jI res)) σ := by
  refine jq_met (own := RX11) (L0 := [(0, jI p0)]) (by decide) rfl rfl rfl ?_
  intro X Γ hnl hlY hRT
  refine jq_use2 (P := fun r => jq_RT jq_zM X (some .int) (some (jI r)) σ) ?_ h hRT
  intro K0 hK0
  unfold X11_bits
  refine jq_iconst Γ dX11_bits_0 rfl ?_
  refine jq_istore_n (L' := [(1, jI 0), (0, jI p0)]) Γ dX11_bits_1 rfl hnl rfl rfl ?_
  refine jq_iload_n Γ dX11_bits_2 rfl 1 rfl ?_
  refine jq_istore_n (L' := [(2, jI p0), (1, jI 0), (0, jI p0)]) Γ dX11_bits_3 rfl hnl rfl rfl ?_
  refine jq_sub Γ (L' := [(1, jI 0), (2, jI p0)]) [1, 0] rfl ?_
  refine jq_loop2 (C := fun (t1 : Int × Int) => jq_V jq_zM X (jq_zN jq_zM) σ 4 [(1, jI t1.1), (2, jI t1.2)] []) (KX := fun (e4 : Int) => jq_V jq_zM X (jq_zN jq_zM) σ 20 [(1, jI e4)] []) ?_ ?_ (0, p0)
  · intro K4_t1 hCt1 hXt1 t1
    unfold X11_bits_b4
    refine jq_iload_n Γ dX11_bits_4 rfl 1 rfl ?_
    refine jq_if_eq (tgt := 20) Γ dX11_bits_5 rfl ?_ ?_
    · refine jq_sub Γ (L' := [(1, jI t1.1)]) [0] rfl ?_
      exact jq_done (hXt1 t1.1)
    · refine jq_iincN (L' := fun v2 => [(1, jI v2), (2, jI t1.2)]) Γ dX11_bits_8 0 rfl hnl rfl (fun _ => rfl) (fun v2 => ?_)
      refine jq_iload_n Γ dX11_bits_11 rfl 1 rfl ?_
      refine jq_iload_n Γ dX11_bits_12 rfl 1 rfl ?_
      refine jq_iconst Γ dX11_bits_13 rfl ?_
      refine jq_isub Γ dX11_bits_14 ?_
      refine jq_iand Γ dX11_bits_15 ?_
      refine jq_nmI (fun v3 => ?_)
      refine jq_istore_n (L' := [(2, jI v3), (1, jI v2)]) Γ dX11_bits_16 rfl hnl rfl rfl ?_
      refine jq_goto Γ (tgt := 4) dX11_bits_17 rfl ?_
      refine jq_sub Γ (L' := [(1, jI v2), (2, jI v3)]) [1, 0] rfl ?_
      exact jq_done (hCt1 (v2, v3))
  · intro e4
    refine jq_iload_n Γ dX11_bits_20 rfl 0 rfl ?_
    exact jq_ireturn Γ dX11_bits_21 (hK0 _)


theorem dX11_seatOf_0 : decode cX11_seatOf 0 = .ok (.aload_n 0, 1) := by decide +kernel
theorem dX11_seatOf_1 : decode cX11_seatOf 1 = .ok (.getfield 7, 3) := by decide +kernel
theorem dX11_seatOf_4 : decode cX11_seatOf 4 = .ok (.iload_n 1, 1) := by decide +kernel
theorem dX11_seatOf_5 : decode cX11_seatOf 5 = .ok (.invokestatic 254, 3) := by decide +kernel
theorem dX11_seatOf_8 : decode cX11_seatOf 8 = .ok (.iconst 1, 1) := by decide +kernel
theorem dX11_seatOf_9 : decode cX11_seatOf 9 = .ok (.iadd, 1) := by decide +kernel
theorem dX11_seatOf_10 : decode cX11_seatOf 10 = .ok (.iaload, 1) := by decide +kernel
theorem dX11_seatOf_11 : decode cX11_seatOf 11 = .ok (.ireturn, 1) := by decide +kernel
set_option maxHeartbeats 4000000 in
set_option maxRecDepth 100000 in
theorem ctX11_seatOf {p1 : Int} {σ : jq_M} {res : Int}  (h : X11_seatOf p1 σ = some res) : jq_MC jq_zM yX11_seatOf cX11_seatOf 2 (some .int) 2 60 [jR 0, jI p1] σ (some (jI res)) σ := by
  refine jq_met (own := RX11) (L0 := [(0, jR 0), (1, jI p1)]) (by decide) rfl rfl rfl ?_
  intro X Γ hnl hlY hRT
  refine jq_use2 (P := fun r => jq_RT jq_zM X (some .int) (some (jI r)) σ) ?_ h hRT
  intro K0 hK0
  unfold X11_seatOf
  refine jq_aload_n Γ dX11_seatOf_0 rfl 0 rfl (jq_at_0 at_M_0) ?_
  refine jq_getR (v := 1) Γ hlY at_M_0 fl_RX11_7 rfl rfl ly_X11_at dX11_seatOf_1 ?_
  refine jq_iload_n Γ dX11_seatOf_4 rfl 1 rfl ?_
  refine jq_cpI (jq_stat (avs := [jI p1]) (st := [jR 1]) Γ hlY rfl ml_RX11_254 rfl rfl rfl rfl rfl dX11_seatOf_5) (fun r h => ctX11_partyRow h) (fun v1 => ?_)
  refine jq_iconst Γ dX11_seatOf_8 rfl ?_
  refine jq_iadd Γ dX11_seatOf_9 ?_
  refine jq_iald Γ at_M_1 rfl dX11_seatOf_10 (fun v2 => ?_)
  exact jq_ireturn Γ dX11_seatOf_11 (hK0 _)


theorem dX11_leastOf_0 : decode cX11_leastOf 0 = .ok (.aload_n 0, 1) := by decide +kernel
theorem dX11_leastOf_1 : decode cX11_leastOf 1 = .ok (.getfield 7, 3) := by decide +kernel
theorem dX11_leastOf_4 : decode cX11_leastOf 4 = .ok (.iload_n 1, 1) := by decide +kernel
theorem dX11_leastOf_5 : decode cX11_leastOf 5 = .ok (.invokestatic 254, 3) := by decide +kernel
theorem dX11_leastOf_8 : decode cX11_leastOf 8 = .ok (.iaload, 1) := by decide +kernel
theorem dX11_leastOf_9 : decode cX11_leastOf 9 = .ok (.ireturn, 1) := by decide +kernel
set_option maxHeartbeats 4000000 in
set_option maxRecDepth 100000 in
theorem ctX11_leastOf {p1 : Int} {σ : jq_M} {res : Int}  (h : X11_leastOf p1 σ = some res) : jq_MC jq_zM yX11_leastOf cX11_leastOf 2 (some .int) 2 60 [jR 0, jI p1] σ (some (jI res)) σ := by
  refine jq_met (own := RX11) (L0 := [(0, jR 0), (1, jI p1)]) (by decide) rfl rfl rfl ?_
  intro X Γ hnl hlY hRT
  refine jq_use2 (P := fun r => jq_RT jq_zM X (some .int) (some (jI r)) σ) ?_ h hRT
  intro K0 hK0
  unfold X11_leastOf
  refine jq_aload_n Γ dX11_leastOf_0 rfl 0 rfl (jq_at_0 at_M_0) ?_
  refine jq_getR (v := 1) Γ hlY at_M_0 fl_RX11_7 rfl rfl ly_X11_at dX11_leastOf_1 ?_
  refine jq_iload_n Γ dX11_leastOf_4 rfl 1 rfl ?_
  refine jq_cpI (jq_stat (avs := [jI p1]) (st := [jR 1]) Γ hlY rfl ml_RX11_254 rfl rfl rfl rfl rfl dX11_leastOf_5) (fun r h => ctX11_partyRow h) (fun v1 => ?_)
  refine jq_iald Γ at_M_1 rfl dX11_leastOf_8 (fun v2 => ?_)
  exact jq_ireturn Γ dX11_leastOf_9 (hK0 _)


theorem dX11_seatsNow_0 : decode cX11_seatsNow 0 = .ok (.iconst 0, 1) := by decide +kernel
theorem dX11_seatsNow_1 : decode cX11_seatsNow 1 = .ok (.istore_n 1, 1) := by decide +kernel
theorem dX11_seatsNow_2 : decode cX11_seatsNow 2 = .ok (.iload_n 1, 1) := by decide +kernel
theorem dX11_seatsNow_3 : decode cX11_seatsNow 3 = .ok (.aload_n 0, 1) := by decide +kernel
theorem dX11_seatsNow_4 : decode cX11_seatsNow 4 = .ok (.getfield 7, 3) := by decide +kernel
theorem dX11_seatsNow_7 : decode cX11_seatsNow 7 = .ok (.iconst 1, 1) := by decide +kernel
theorem dX11_seatsNow_8 : decode cX11_seatsNow 8 = .ok (.iaload, 1) := by decide +kernel
theorem dX11_seatsNow_9 : decode cX11_seatsNow 9 = .ok (.if_icmp .ge 20, 3) := by decide +kernel
theorem dX11_seatsNow_12 : decode cX11_seatsNow 12 = .ok (.aload_n 0, 1) := by decide +kernel
theorem dX11_seatsNow_13 : decode cX11_seatsNow 13 = .ok (.getfield 47, 3) := by decide +kernel
theorem dX11_seatsNow_16 : decode cX11_seatsNow 16 = .ok (.iload_n 1, 1) := by decide +kernel
theorem dX11_seatsNow_17 : decode cX11_seatsNow 17 = .ok (.aload_n 0, 1) := by decide +kernel
theorem dX11_seatsNow_18 : decode cX11_seatsNow 18 = .ok (.iload_n 1, 1) := by decide +kernel
theorem dX11_seatsNow_19 : decode cX11_seatsNow 19 = .ok (.invokevirtual 257, 3) := by decide +kernel
theorem dX11_seatsNow_22 : decode cX11_seatsNow 22 = .ok (.iastore, 1) := by decide +kernel
theorem dX11_seatsNow_23 : decode cX11_seatsNow 23 = .ok (.iinc 1 1, 3) := by decide +kernel
theorem dX11_seatsNow_26 : decode cX11_seatsNow 26 = .ok (.goto (-24), 3) := by decide +kernel
theorem dX11_seatsNow_29 : decode cX11_seatsNow 29 = .ok (.return_, 1) := by decide +kernel
set_option maxHeartbeats 4000000 in
set_option maxRecDepth 100000 in
theorem ctX11_seatsNow  {σ : jq_M} {σ' : jq_M}  (h : X11_seatsNow σ = some σ') : jq_MC jq_zM yX11_seatsNow cX11_seatsNow 2 none 3 81 [jR 0] σ none σ' := by
  refine jq_met (own := RX11) (L0 := [(0, jR 0)]) (by decide) rfl rfl rfl ?_
  intro X Γ hnl hlY hRT
  refine jq_use2 (P := fun r => jq_RT jq_zM X none none r) ?_ h hRT
  intro K0 hK0
  unfold X11_seatsNow
  refine jq_iconst Γ dX11_seatsNow_0 rfl ?_
  refine jq_istore_n (L' := [(1, jI 0), (0, jR 0)]) Γ dX11_seatsNow_1 rfl hnl rfl rfl ?_
  refine jq_sub Γ (L' := [(0, jR 0), (1, jI 0)]) [1, 0] rfl ?_
  refine jq_loop2 (C := fun (t1 : Int × jq_M) => jq_V jq_zM X (jq_zN jq_zM) t1.2 2 [(0, jR 0), (1, jI t1.1)] []) (KX := fun (e6 : jq_M) => jq_V jq_zM X (jq_zN jq_zM) e6 29 [] []) ?_ ?_ (0, σ)
  · intro K2_t1 hCt1 hXt1 t1
    unfold X11_seatsNow_b2
    refine jq_iload_n Γ dX11_seatsNow_2 rfl 1 rfl ?_
    refine jq_aload_n Γ dX11_seatsNow_3 rfl 0 rfl (jq_at_0 at_M_0) ?_
    refine jq_getR (v := 1) Γ hlY at_M_0 fl_RX11_7 rfl rfl ly_X11_at dX11_seatsNow_4 ?_
    refine jq_iconst Γ dX11_seatsNow_7 rfl ?_
    refine jq_iald Γ at_M_1 rfl dX11_seatsNow_8 (fun v2 => ?_)
    refine jq_icmp_ge (tgt := 29) Γ dX11_seatsNow_9 rfl ?_ ?_
    · refine jq_sub Γ (L' := []) [] rfl ?_
      exact jq_done (hXt1 t1.2)
    · refine jq_aload_n Γ dX11_seatsNow_12 rfl 0 rfl (jq_at_0 at_M_0) ?_
      refine jq_getR (v := 9) Γ hlY at_M_0 fl_RX11_47 rfl rfl ly_X11_seat dX11_seatsNow_13 ?_
      refine jq_iload_n Γ dX11_seatsNow_16 rfl 1 rfl ?_
      refine jq_aload_n Γ dX11_seatsNow_17 rfl 0 rfl (jq_at_0 at_M_0) ?_
      refine jq_iload_n Γ dX11_seatsNow_18 rfl 1 rfl ?_
      refine jq_cpI (jq_virt (avs := [jI t1.1]) (st := [jI t1.1, jR 9]) Γ hlY rfl ml_RX11_257 rfl at_M_0 rfl rfl rfl rfl rfl dX11_seatsNow_19) (fun r h => ctX11_seatOf h) (fun v3 => ?_)
      refine jq_iast Γ at_M_9 rfl dX11_seatsNow_22 (fun s4 => ?_)
      refine jq_iincN (L' := fun v5 => [(1, jI v5), (0, jR 0)]) Γ dX11_seatsNow_23 1 rfl hnl rfl (fun _ => rfl) (fun v5 => ?_)
      refine jq_goto Γ (tgt := 2) dX11_seatsNow_26 rfl ?_
      refine jq_sub Γ (L' := [(0, jR 0), (1, jI v5)]) [1, 0] rfl ?_
      exact jq_done (hCt1 (v5, s4))
  · intro e6
    exact jq_vreturn Γ dX11_seatsNow_29 (hK0 _)


theorem dX11_areBeside_0 : decode cX11_areBeside 0 = .ok (.iload_n 1, 1) := by decide +kernel
theorem dX11_areBeside_1 : decode cX11_areBeside 1 = .ok (.iload_n 2, 1) := by decide +kernel
theorem dX11_areBeside_2 : decode cX11_areBeside 2 = .ok (.isub, 1) := by decide +kernel
theorem dX11_areBeside_3 : decode cX11_areBeside 3 = .ok (.invokestatic 260, 3) := by decide +kernel
theorem dX11_areBeside_6 : decode cX11_areBeside 6 = .ok (.istore_n 3, 1) := by decide +kernel
theorem dX11_areBeside_7 : decode cX11_areBeside 7 = .ok (.iload_n 3, 1) := by decide +kernel
theorem dX11_areBeside_8 : decode cX11_areBeside 8 = .ok (.iconst 1, 1) := by decide +kernel
theorem dX11_areBeside_9 : decode cX11_areBeside 9 = .ok (.if_icmp .eq 15, 3) := by decide +kernel
theorem dX11_areBeside_12 : decode cX11_areBeside 12 = .ok (.iload_n 3, 1) := by decide +kernel
theorem dX11_areBeside_13 : decode cX11_areBeside 13 = .ok (.aload_n 0, 1) := by decide +kernel
theorem dX11_areBeside_14 : decode cX11_areBeside 14 = .ok (.getfield 7, 3) := by decide +kernel
theorem dX11_areBeside_17 : decode cX11_areBeside 17 = .ok (.iconst 0, 1) := by decide +kernel
theorem dX11_areBeside_18 : decode cX11_areBeside 18 = .ok (.iaload, 1) := by decide +kernel
theorem dX11_areBeside_19 : decode cX11_areBeside 19 = .ok (.iconst 1, 1) := by decide +kernel
theorem dX11_areBeside_20 : decode cX11_areBeside 20 = .ok (.isub, 1) := by decide +kernel
theorem dX11_areBeside_21 : decode cX11_areBeside 21 = .ok (.if_icmp .ne 7, 3) := by decide +kernel
theorem dX11_areBeside_24 : decode cX11_areBeside 24 = .ok (.iconst 1, 1) := by decide +kernel
theorem dX11_areBeside_25 : decode cX11_areBeside 25 = .ok (.goto 4, 3) := by decide +kernel
theorem dX11_areBeside_28 : decode cX11_areBeside 28 = .ok (.iconst 0, 1) := by decide +kernel
theorem dX11_areBeside_29 : decode cX11_areBeside 29 = .ok (.ireturn, 1) := by decide +kernel
set_option maxHeartbeats 4000000 in
set_option maxRecDepth 100000 in
theorem ctX11_areBeside {p1 : Int} {p2 : Int} {σ : jq_M} {res : Int}  (h : X11_areBeside p1 p2 σ = some res) : jq_MC jq_zM yX11_areBeside cX11_areBeside 4 (some .boolean) 1 40 [jR 0, jI p1, jI p2] σ (some (jI res)) σ := by
  refine jq_met (own := RX11) (L0 := [(0, jR 0), (1, jI p1), (2, jI p2)]) (by decide) rfl rfl rfl ?_
  intro X Γ hnl hlY hRT
  refine jq_use2 (P := fun r => jq_RT jq_zM X (some .boolean) (some (jI r)) σ) ?_ h hRT
  intro K0 hK0
  unfold X11_areBeside
  refine jq_iload_n Γ dX11_areBeside_0 rfl 1 rfl ?_
  refine jq_iload_n Γ dX11_areBeside_1 rfl 2 rfl ?_
  refine jq_isub Γ dX11_areBeside_2 ?_
  refine jq_mabs Γ mw_RX11_260 mws_abs mwi mwc_abs rfl rfl dX11_areBeside_3 ?_
  refine jq_nmI (fun v1 => ?_)
  refine jq_istore_n (L' := [(3, jI v1), (0, jR 0), (1, jI p1), (2, jI p2)]) Γ dX11_areBeside_6 rfl hnl rfl rfl ?_
  refine jq_iload_n Γ dX11_areBeside_7 rfl 0 rfl ?_
  refine jq_iconst Γ dX11_areBeside_8 rfl ?_
  refine jq_icmp_eq (tgt := 24) Γ dX11_areBeside_9 rfl ?_ ?_
  · refine jq_iconst Γ dX11_areBeside_24 rfl ?_
    refine jq_goto Γ (tgt := 29) dX11_areBeside_25 rfl ?_
    exact jq_zreturn Γ (Or.inr rfl) dX11_areBeside_29 (hK0 _)
  · refine jq_iload_n Γ dX11_areBeside_12 rfl 0 rfl ?_
    refine jq_aload_n Γ dX11_areBeside_13 rfl 1 rfl (jq_at_0 at_M_0) ?_
    refine jq_getR (v := 1) Γ hlY at_M_0 fl_RX11_7 rfl rfl ly_X11_at dX11_areBeside_14 ?_
    refine jq_iconst Γ dX11_areBeside_17 rfl ?_
    refine jq_iald Γ at_M_1 rfl dX11_areBeside_18 (fun v2 => ?_)
    refine jq_iconst Γ dX11_areBeside_19 rfl ?_
    refine jq_isub Γ dX11_areBeside_20 ?_
    refine jq_icmp_ne (tgt := 28) Γ dX11_areBeside_21 rfl ?_ ?_
    · refine jq_iconst Γ dX11_areBeside_28 rfl ?_
      exact jq_zreturn Γ (Or.inl rfl) dX11_areBeside_29 (hK0 _)
    · refine jq_iconst Γ dX11_areBeside_24 rfl ?_
      refine jq_goto Γ (tgt := 29) dX11_areBeside_25 rfl ?_
      exact jq_zreturn Γ (Or.inr rfl) dX11_areBeside_29 (hK0 _)


theorem dX11_areFacing_0 : decode cX11_areFacing 0 = .ok (.iconst 2, 1) := by decide +kernel
theorem dX11_areFacing_1 : decode cX11_areFacing 1 = .ok (.iload_n 1, 1) := by decide +kernel
theorem dX11_areFacing_2 : decode cX11_areFacing 2 = .ok (.iload_n 2, 1) := by decide +kernel
theorem dX11_areFacing_3 : decode cX11_areFacing 3 = .ok (.isub, 1) := by decide +kernel
theorem dX11_areFacing_4 : decode cX11_areFacing 4 = .ok (.invokestatic 260, 3) := by decide +kernel
theorem dX11_areFacing_7 : decode cX11_areFacing 7 = .ok (.imul, 1) := by decide +kernel
theorem dX11_areFacing_8 : decode cX11_areFacing 8 = .ok (.aload_n 0, 1) := by decide +kernel
theorem dX11_areFacing_9 : decode cX11_areFacing 9 = .ok (.getfield 7, 3) := by decide +kernel
theorem dX11_areFacing_12 : decode cX11_areFacing 12 = .ok (.iconst 0, 1) := by decide +kernel
theorem dX11_areFacing_13 : decode cX11_areFacing 13 = .ok (.iaload, 1) := by decide +kernel
theorem dX11_areFacing_14 : decode cX11_areFacing 14 = .ok (.if_icmp .ne 7, 3) := by decide +kernel
theorem dX11_areFacing_17 : decode cX11_areFacing 17 = .ok (.iconst 1, 1) := by decide +kernel
theorem dX11_areFacing_18 : decode cX11_areFacing 18 = .ok (.goto 4, 3) := by decide +kernel
theorem dX11_areFacing_21 : decode cX11_areFacing 21 = .ok (.iconst 0, 1) := by decide +kernel
theorem dX11_areFacing_22 : decode cX11_areFacing 22 = .ok (.ireturn, 1) := by decide +kernel
set_option maxHeartbeats 4000000 in
set_option maxRecDepth 100000 in
theorem ctX11_areFacing {p1 : Int} {p2 : Int} {σ : jq_M} {res : Int}  (h : X11_areFacing p1 p2 σ = some res) : jq_MC jq_zM yX11_areFacing cX11_areFacing 3 (some .boolean) 1 40 [jR 0, jI p1, jI p2] σ (some (jI res)) σ := by
  refine jq_met (own := RX11) (L0 := [(0, jR 0), (1, jI p1), (2, jI p2)]) (by decide) rfl rfl rfl ?_
  intro X Γ hnl hlY hRT
  refine jq_use2 (P := fun r => jq_RT jq_zM X (some .boolean) (some (jI r)) σ) ?_ h hRT
  intro K0 hK0
  unfold X11_areFacing
  refine jq_iconst Γ dX11_areFacing_0 rfl ?_
  refine jq_iload_n Γ dX11_areFacing_1 rfl 1 rfl ?_
  refine jq_iload_n Γ dX11_areFacing_2 rfl 2 rfl ?_
  refine jq_isub Γ dX11_areFacing_3 ?_
  refine jq_mabs Γ mw_RX11_260 mws_abs mwi mwc_abs rfl rfl dX11_areFacing_4 ?_
  refine jq_imul Γ dX11_areFacing_7 ?_
  refine jq_aload_n Γ dX11_areFacing_8 rfl 0 rfl (jq_at_0 at_M_0) ?_
  refine jq_getR (v := 1) Γ hlY at_M_0 fl_RX11_7 rfl rfl ly_X11_at dX11_areFacing_9 ?_
  refine jq_iconst Γ dX11_areFacing_12 rfl ?_
  refine jq_iald Γ at_M_1 rfl dX11_areFacing_13 (fun v1 => ?_)
  refine jq_icmp_ne (tgt := 21) Γ dX11_areFacing_14 rfl ?_ ?_
  · refine jq_iconst Γ dX11_areFacing_21 rfl ?_
    exact jq_zreturn Γ (Or.inl rfl) dX11_areFacing_22 (hK0 _)
  · refine jq_iconst Γ dX11_areFacing_17 rfl ?_
    refine jq_goto Γ (tgt := 22) dX11_areFacing_18 rfl ?_
    exact jq_zreturn Γ (Or.inr rfl) dX11_areFacing_22 (hK0 _)


theorem dX11_isHad_0 : decode cX11_isHad 0 = .ok (.iload_n 1, 1) := by decide +kernel
theorem dX11_isHad_1 : decode cX11_isHad 1 = .ok (.invokestatic 263, 3) := by decide +kernel
theorem dX11_isHad_4 : decode cX11_isHad 4 = .ok (.istore_n 2, 1) := by decide +kernel
theorem dX11_isHad_5 : decode cX11_isHad 5 = .ok (.aload_n 0, 1) := by decide +kernel
theorem dX11_isHad_6 : decode cX11_isHad 6 = .ok (.getfield 47, 3) := by decide +kernel
theorem dX11_isHad_9 : decode cX11_isHad 9 = .ok (.aload_n 0, 1) := by decide +kernel
theorem dX11_isHad_10 : decode cX11_isHad 10 = .ok (.getfield 7, 3) := by decide +kernel
theorem dX11_isHad_13 : decode cX11_isHad 13 = .ok (.iload_n 2, 1) := by decide +kernel
theorem dX11_isHad_14 : decode cX11_isHad 14 = .ok (.iaload, 1) := by decide +kernel
theorem dX11_isHad_15 : decode cX11_isHad 15 = .ok (.iaload, 1) := by decide +kernel
theorem dX11_isHad_16 : decode cX11_isHad 16 = .ok (.istore_n 3, 1) := by decide +kernel
theorem dX11_isHad_17 : decode cX11_isHad 17 = .ok (.iload_n 3, 1) := by decide +kernel
theorem dX11_isHad_18 : decode cX11_isHad 18 = .ok (.iconst (-1), 1) := by decide +kernel
theorem dX11_isHad_19 : decode cX11_isHad 19 = .ok (.if_icmp .ne 5, 3) := by decide +kernel
theorem dX11_isHad_22 : decode cX11_isHad 22 = .ok (.iconst 0, 1) := by decide +kernel
theorem dX11_isHad_23 : decode cX11_isHad 23 = .ok (.ireturn, 1) := by decide +kernel
theorem dX11_isHad_24 : decode cX11_isHad 24 = .ok (.aload_n 0, 1) := by decide +kernel
theorem dX11_isHad_25 : decode cX11_isHad 25 = .ok (.getfield 7, 3) := by decide +kernel
theorem dX11_isHad_28 : decode cX11_isHad 28 = .ok (.iload_n 2, 1) := by decide +kernel
theorem dX11_isHad_29 : decode cX11_isHad 29 = .ok (.iconst 1, 1) := by decide +kernel
theorem dX11_isHad_30 : decode cX11_isHad 30 = .ok (.iadd, 1) := by decide +kernel
theorem dX11_isHad_31 : decode cX11_isHad 31 = .ok (.iaload, 1) := by decide +kernel
theorem dX11_isHad_32 : decode cX11_isHad 32 = .ok (.iconst 2, 1) := by decide +kernel
theorem dX11_isHad_33 : decode cX11_isHad 33 = .ok (.if_icmp .ne 15, 3) := by decide +kernel
theorem dX11_isHad_36 : decode cX11_isHad 36 = .ok (.aload_n 0, 1) := by decide +kernel
theorem dX11_isHad_37 : decode cX11_isHad 37 = .ok (.aload_n 0, 1) := by decide +kernel
theorem dX11_isHad_38 : decode cX11_isHad 38 = .ok (.getfield 7, 3) := by decide +kernel
theorem dX11_isHad_41 : decode cX11_isHad 41 = .ok (.iconst 5, 1) := by decide +kernel
theorem dX11_isHad_42 : decode cX11_isHad 42 = .ok (.iaload, 1) := by decide +kernel
theorem dX11_isHad_43 : decode cX11_isHad 43 = .ok (.iload_n 3, 1) := by decide +kernel
theorem dX11_isHad_44 : decode cX11_isHad 44 = .ok (.invokevirtual 266, 3) := by decide +kernel
theorem dX11_isHad_47 : decode cX11_isHad 47 = .ok (.ireturn, 1) := by decide +kernel
theorem dX11_isHad_48 : decode cX11_isHad 48 = .ok (.aload_n 0, 1) := by decide +kernel
theorem dX11_isHad_49 : decode cX11_isHad 49 = .ok (.getfield 47, 3) := by decide +kernel
theorem dX11_isHad_52 : decode cX11_isHad 52 = .ok (.aload_n 0, 1) := by decide +kernel
theorem dX11_isHad_53 : decode cX11_isHad 53 = .ok (.getfield 7, 3) := by decide +kernel
theorem dX11_isHad_56 : decode cX11_isHad 56 = .ok (.iload_n 2, 1) := by decide +kernel
theorem dX11_isHad_57 : decode cX11_isHad 57 = .ok (.iconst 2, 1) := by decide +kernel
theorem dX11_isHad_58 : decode cX11_isHad 58 = .ok (.iadd, 1) := by decide +kernel
theorem dX11_isHad_59 : decode cX11_isHad 59 = .ok (.iaload, 1) := by decide +kernel
theorem dX11_isHad_60 : decode cX11_isHad 60 = .ok (.iaload, 1) := by decide +kernel
theorem dX11_isHad_61 : decode cX11_isHad 61 = .ok (.istore 4, 2) := by decide +kernel
theorem dX11_isHad_63 : decode cX11_isHad 63 = .ok (.iload 4, 2) := by decide +kernel
theorem dX11_isHad_65 : decode cX11_isHad 65 = .ok (.iconst (-1), 1) := by decide +kernel
theorem dX11_isHad_66 : decode cX11_isHad 66 = .ok (.if_icmp .eq 41, 3) := by decide +kernel
theorem dX11_isHad_69 : decode cX11_isHad 69 = .ok (.aload_n 0, 1) := by decide +kernel
theorem dX11_isHad_70 : decode cX11_isHad 70 = .ok (.getfield 7, 3) := by decide +kernel
theorem dX11_isHad_73 : decode cX11_isHad 73 = .ok (.iload_n 2, 1) := by decide +kernel
theorem dX11_isHad_74 : decode cX11_isHad 74 = .ok (.iconst 1, 1) := by decide +kernel
theorem dX11_isHad_75 : decode cX11_isHad 75 = .ok (.iadd, 1) := by decide +kernel
theorem dX11_isHad_76 : decode cX11_isHad 76 = .ok (.iaload, 1) := by decide +kernel
theorem dX11_isHad_77 : decode cX11_isHad 77 = .ok (.ifCond .ne 16, 3) := by decide +kernel
theorem dX11_isHad_80 : decode cX11_isHad 80 = .ok (.aload_n 0, 1) := by decide +kernel
theorem dX11_isHad_81 : decode cX11_isHad 81 = .ok (.iload_n 3, 1) := by decide +kernel
theorem dX11_isHad_82 : decode cX11_isHad 82 = .ok (.iload 4, 2) := by decide +kernel
theorem dX11_isHad_84 : decode cX11_isHad 84 = .ok (.invokevirtual 269, 3) := by decide +kernel
theorem dX11_isHad_87 : decode cX11_isHad 87 = .ok (.ifCond .eq 20, 3) := by decide +kernel
theorem dX11_isHad_90 : decode cX11_isHad 90 = .ok (.goto 13, 3) := by decide +kernel
theorem dX11_isHad_93 : decode cX11_isHad 93 = .ok (.aload_n 0, 1) := by decide +kernel
theorem dX11_isHad_94 : decode cX11_isHad 94 = .ok (.iload_n 3, 1) := by decide +kernel
theorem dX11_isHad_95 : decode cX11_isHad 95 = .ok (.iload 4, 2) := by decide +kernel
theorem dX11_isHad_97 : decode cX11_isHad 97 = .ok (.invokevirtual 272, 3) := by decide +kernel
theorem dX11_isHad_100 : decode cX11_isHad 100 = .ok (.ifCond .eq 7, 3) := by decide +kernel
theorem dX11_isHad_103 : decode cX11_isHad 103 = .ok (.iconst 1, 1) := by decide +kernel
theorem dX11_isHad_104 : decode cX11_isHad 104 = .ok (.goto 4, 3) := by decide +kernel
theorem dX11_isHad_107 : decode cX11_isHad 107 = .ok (.iconst 0, 1) := by decide +kernel
theorem dX11_isHad_108 : decode cX11_isHad 108 = .ok (.ireturn, 1) := by decide +kernel
set_option maxHeartbeats 4000000 in
set_option maxRecDepth 100000 in
theorem ctX11_isHad {p1 : Int} {σ : jq_M} {res : Int}  (h : X11_isHad p1 σ = some res) : jq_MC jq_zM yX11_isHad cX11_isHad 5 (some .boolean) 2 63 [jR 0, jI p1] σ (some (jI res)) σ := by
  refine jq_met (own := RX11) (L0 := [(0, jR 0), (1, jI p1)]) (by decide) rfl rfl rfl ?_
  intro X Γ hnl hlY hRT
  refine jq_use2 (P := fun r => jq_RT jq_zM X (some .boolean) (some (jI r)) σ) ?_ h hRT
  intro K0 hK0
  unfold X11_isHad
  refine jq_iload_n Γ dX11_isHad_0 rfl 1 rfl ?_
  refine jq_cpI (jq_stat (avs := [jI p1]) (st := []) Γ hlY rfl ml_RX11_263 rfl rfl rfl rfl rfl dX11_isHad_1) (fun r h => ctX11_wishRow h) (fun v1 => ?_)
  refine jq_istore_n (L' := [(2, jI v1), (0, jR 0), (1, jI p1)]) Γ dX11_isHad_4 rfl hnl rfl rfl ?_
  refine jq_aload_n Γ dX11_isHad_5 rfl 1 rfl (jq_at_0 at_M_0) ?_
  refine jq_getR (v := 9) Γ hlY at_M_0 fl_RX11_47 rfl rfl ly_X11_seat dX11_isHad_6 ?_
  refine jq_aload_n Γ dX11_isHad_9 rfl 1 rfl (jq_at_0 at_M_0) ?_
  refine jq_getR (v := 1) Γ hlY at_M_0 fl_RX11_7 rfl rfl ly_X11_at dX11_isHad_10 ?_
  refine jq_iload_n Γ dX11_isHad_13 rfl 0 rfl ?_
  refine jq_iald Γ at_M_1 rfl dX11_isHad_14 (fun v2 => ?_)
  refine jq_iald Γ at_M_9 rfl dX11_isHad_15 (fun v3 => ?_)
  refine jq_istore_n (L' := [(3, jI v3), (2, jI v1), (0, jR 0), (1, jI p1)]) Γ dX11_isHad_16 rfl hnl rfl rfl ?_
  refine jq_iload_n Γ dX11_isHad_17 rfl 0 rfl ?_
  refine jq_iconst Γ dX11_isHad_18 rfl ?_
  refine jq_icmp_ne (tgt := 24) Γ dX11_isHad_19 rfl ?_ ?_
  · refine jq_aload_n Γ dX11_isHad_24 rfl 2 rfl (jq_at_0 at_M_0) ?_
    refine jq_getR (v := 1) Γ hlY at_M_0 fl_RX11_7 rfl rfl ly_X11_at dX11_isHad_25 ?_
    refine jq_iload_n Γ dX11_isHad_28 rfl 1 rfl ?_
    refine jq_iconst Γ dX11_isHad_29 rfl ?_
    refine jq_iadd Γ dX11_isHad_30 ?_
    refine jq_iald Γ at_M_1 rfl dX11_isHad_31 (fun v4 => ?_)
    refine jq_iconst Γ dX11_isHad_32 rfl ?_
    refine jq_icmp_ne (tgt := 48) Γ dX11_isHad_33 rfl ?_ ?_
    · refine jq_aload_n Γ dX11_isHad_48 rfl 2 rfl (jq_at_0 at_M_0) ?_
      refine jq_getR (v := 9) Γ hlY at_M_0 fl_RX11_47 rfl rfl ly_X11_seat dX11_isHad_49 ?_
      refine jq_aload_n Γ dX11_isHad_52 rfl 2 rfl (jq_at_0 at_M_0) ?_
      refine jq_getR (v := 1) Γ hlY at_M_0 fl_RX11_7 rfl rfl ly_X11_at dX11_isHad_53 ?_
      refine jq_iload_n Γ dX11_isHad_56 rfl 1 rfl ?_
      refine jq_iconst Γ dX11_isHad_57 rfl ?_
      refine jq_iadd Γ dX11_isHad_58 ?_
      refine jq_iald Γ at_M_1 rfl dX11_isHad_59 (fun v5 => ?_)
      refine jq_iald Γ at_M_9 rfl dX11_isHad_60 (fun v6 => ?_)
      refine jq_istore (L' := [(4, jI v6), (3, jI v3), (2, jI v1), (0, jR 0), (1, jI p1)]) Γ dX11_isHad_61 hnl rfl rfl ?_
      refine jq_iload Γ dX11_isHad_63 0 rfl ?_
      refine jq_iconst Γ dX11_isHad_65 rfl ?_
      refine jq_icmp_eq (tgt := 107) Γ dX11_isHad_66 rfl ?_ ?_
      · refine jq_iconst Γ dX11_isHad_107 rfl ?_
        exact jq_zreturn Γ (Or.inl rfl) dX11_isHad_108 (hK0 _)
      · refine jq_aload_n Γ dX11_isHad_69 rfl 3 rfl (jq_at_0 at_M_0) ?_
        refine jq_getR (v := 1) Γ hlY at_M_0 fl_RX11_7 rfl rfl ly_X11_at dX11_isHad_70 ?_
        refine jq_iload_n Γ dX11_isHad_73 rfl 2 rfl ?_
        refine jq_iconst Γ dX11_isHad_74 rfl ?_
        refine jq_iadd Γ dX11_isHad_75 ?_
        refine jq_iald Γ at_M_1 rfl dX11_isHad_76 (fun v7 => ?_)
        refine jq_if_ne (tgt := 93) Γ dX11_isHad_77 rfl ?_ ?_
        · refine jq_aload_n Γ dX11_isHad_93 rfl 3 rfl (jq_at_0 at_M_0) ?_
          refine jq_iload_n Γ dX11_isHad_94 rfl 1 rfl ?_
          refine jq_iload Γ dX11_isHad_95 0 rfl ?_
          refine jq_cpZ (jq_virt (avs := [jI v3, jI v6]) (st := []) Γ hlY rfl ml_RX11_272 rfl at_M_0 rfl rfl rfl rfl rfl dX11_isHad_97) rfl (fun r h => ctX11_areFacing h) (fun v8 hz9 => ?_)
          refine jq_if_eq (tgt := 107) Γ dX11_isHad_100 rfl ?_ ?_
          · refine jq_iconst Γ dX11_isHad_107 rfl ?_
            exact jq_zreturn Γ (Or.inl rfl) dX11_isHad_108 (hK0 _)
          · refine jq_iconst Γ dX11_isHad_103 rfl ?_
            refine jq_goto Γ (tgt := 108) dX11_isHad_104 rfl ?_
            exact jq_zreturn Γ (Or.inr rfl) dX11_isHad_108 (hK0 _)
        · refine jq_aload_n Γ dX11_isHad_80 rfl 3 rfl (jq_at_0 at_M_0) ?_
          refine jq_iload_n Γ dX11_isHad_81 rfl 1 rfl ?_
          refine jq_iload Γ dX11_isHad_82 0 rfl ?_
          refine jq_cpZ (jq_virt (avs := [jI v3, jI v6]) (st := []) Γ hlY rfl ml_RX11_269 rfl at_M_0 rfl rfl rfl rfl rfl dX11_isHad_84) rfl (fun r h => ctX11_areBeside h) (fun v10 hz11 => ?_)
          refine jq_if_eq (tgt := 107) Γ dX11_isHad_87 rfl ?_ ?_
          · refine jq_iconst Γ dX11_isHad_107 rfl ?_
            exact jq_zreturn Γ (Or.inl rfl) dX11_isHad_108 (hK0 _)
          · refine jq_goto Γ (tgt := 103) dX11_isHad_90 rfl ?_
            refine jq_iconst Γ dX11_isHad_103 rfl ?_
            refine jq_goto Γ (tgt := 108) dX11_isHad_104 rfl ?_
            exact jq_zreturn Γ (Or.inr rfl) dX11_isHad_108 (hK0 _)
    · refine jq_aload_n Γ dX11_isHad_36 rfl 2 rfl (jq_at_0 at_M_0) ?_
      refine jq_aload_n Γ dX11_isHad_37 rfl 2 rfl (jq_at_0 at_M_0) ?_
      refine jq_getR (v := 1) Γ hlY at_M_0 fl_RX11_7 rfl rfl ly_X11_at dX11_isHad_38 ?_
      refine jq_iconst Γ dX11_isHad_41 rfl ?_
      refine jq_iald Γ at_M_1 rfl dX11_isHad_42 (fun v12 => ?_)
      refine jq_iload_n Γ dX11_isHad_43 rfl 0 rfl ?_
      refine jq_cpZ (jq_virt (avs := [jI v12, jI v3]) (st := []) Γ hlY rfl ml_RX11_266 rfl at_M_0 rfl rfl rfl rfl rfl dX11_isHad_44) rfl (fun r h => ctX11_isIn h) (fun v13 hz14 => ?_)
      exact jq_zreturn Γ (hz14) dX11_isHad_47 (hK0 _)
  · refine jq_iconst Γ dX11_isHad_22 rfl ?_
    exact jq_zreturn Γ (Or.inl rfl) dX11_isHad_23 (hK0 _)


theorem dX11_worthOf_0 : decode cX11_worthOf 0 = .ok (.iconst 0, 1) := by decide +kernel
theorem dX11_worthOf_1 : decode cX11_worthOf 1 = .ok (.istore_n 2, 1) := by decide +kernel
theorem dX11_worthOf_2 : decode cX11_worthOf 2 = .ok (.iconst 0, 1) := by decide +kernel
theorem dX11_worthOf_3 : decode cX11_worthOf 3 = .ok (.istore_n 3, 1) := by decide +kernel
theorem dX11_worthOf_4 : decode cX11_worthOf 4 = .ok (.iload_n 3, 1) := by decide +kernel
theorem dX11_worthOf_5 : decode cX11_worthOf 5 = .ok (.aload_n 0, 1) := by decide +kernel
theorem dX11_worthOf_6 : decode cX11_worthOf 6 = .ok (.getfield 7, 3) := by decide +kernel
theorem dX11_worthOf_9 : decode cX11_worthOf 9 = .ok (.iconst 2, 1) := by decide +kernel
theorem dX11_worthOf_10 : decode cX11_worthOf 10 = .ok (.iaload, 1) := by decide +kernel
theorem dX11_worthOf_11 : decode cX11_worthOf 11 = .ok (.if_icmp .ge 48, 3) := by decide +kernel
theorem dX11_worthOf_14 : decode cX11_worthOf 14 = .ok (.iload_n 2, 1) := by decide +kernel
theorem dX11_worthOf_15 : decode cX11_worthOf 15 = .ok (.aload_n 0, 1) := by decide +kernel
theorem dX11_worthOf_16 : decode cX11_worthOf 16 = .ok (.getfield 7, 3) := by decide +kernel
theorem dX11_worthOf_19 : decode cX11_worthOf 19 = .ok (.iload_n 3, 1) := by decide +kernel
theorem dX11_worthOf_20 : decode cX11_worthOf 20 = .ok (.invokestatic 263, 3) := by decide +kernel
theorem dX11_worthOf_23 : decode cX11_worthOf 23 = .ok (.iaload, 1) := by decide +kernel
theorem dX11_worthOf_24 : decode cX11_worthOf 24 = .ok (.iload_n 1, 1) := by decide +kernel
theorem dX11_worthOf_25 : decode cX11_worthOf 25 = .ok (.if_icmp .ne 25, 3) := by decide +kernel
theorem dX11_worthOf_28 : decode cX11_worthOf 28 = .ok (.aload_n 0, 1) := by decide +kernel
theorem dX11_worthOf_29 : decode cX11_worthOf 29 = .ok (.iload_n 3, 1) := by decide +kernel
theorem dX11_worthOf_30 : decode cX11_worthOf 30 = .ok (.invokevirtual 275, 3) := by decide +kernel
theorem dX11_worthOf_33 : decode cX11_worthOf 33 = .ok (.ifCond .eq 17, 3) := by decide +kernel
theorem dX11_worthOf_36 : decode cX11_worthOf 36 = .ok (.aload_n 0, 1) := by decide +kernel
theorem dX11_worthOf_37 : decode cX11_worthOf 37 = .ok (.getfield 7, 3) := by decide +kernel
theorem dX11_worthOf_40 : decode cX11_worthOf 40 = .ok (.iload_n 3, 1) := by decide +kernel
theorem dX11_worthOf_41 : decode cX11_worthOf 41 = .ok (.invokestatic 263, 3) := by decide +kernel
theorem dX11_worthOf_44 : decode cX11_worthOf 44 = .ok (.iconst 3, 1) := by decide +kernel
theorem dX11_worthOf_45 : decode cX11_worthOf 45 = .ok (.iadd, 1) := by decide +kernel
theorem dX11_worthOf_46 : decode cX11_worthOf 46 = .ok (.iaload, 1) := by decide +kernel
theorem dX11_worthOf_47 : decode cX11_worthOf 47 = .ok (.goto 4, 3) := by decide +kernel
theorem dX11_worthOf_50 : decode cX11_worthOf 50 = .ok (.iconst 0, 1) := by decide +kernel
theorem dX11_worthOf_51 : decode cX11_worthOf 51 = .ok (.iadd, 1) := by decide +kernel
theorem dX11_worthOf_52 : decode cX11_worthOf 52 = .ok (.istore_n 2, 1) := by decide +kernel
theorem dX11_worthOf_53 : decode cX11_worthOf 53 = .ok (.iinc 3 1, 3) := by decide +kernel
theorem dX11_worthOf_56 : decode cX11_worthOf 56 = .ok (.goto (-52), 3) := by decide +kernel
theorem dX11_worthOf_59 : decode cX11_worthOf 59 = .ok (.iload_n 2, 1) := by decide +kernel
theorem dX11_worthOf_60 : decode cX11_worthOf 60 = .ok (.ireturn, 1) := by decide +kernel
set_option maxHeartbeats 4000000 in
set_option maxRecDepth 100000 in
theorem ctX11_worthOf {p1 : Int} {σ : jq_M} {res : Int}  (h : X11_worthOf p1 σ = some res) : jq_MC jq_zM yX11_worthOf cX11_worthOf 4 (some .int) 3 87 [jR 0, jI p1] σ (some (jI res)) σ := by
  refine jq_met (own := RX11) (L0 := [(0, jR 0), (1, jI p1)]) (by decide) rfl rfl rfl ?_
  intro X Γ hnl hlY hRT
  refine jq_use2 (P := fun r => jq_RT jq_zM X (some .int) (some (jI r)) σ) ?_ h hRT
  intro K0 hK0
  unfold X11_worthOf
  refine jq_iconst Γ dX11_worthOf_0 rfl ?_
  refine jq_istore_n (L' := [(2, jI 0), (0, jR 0), (1, jI p1)]) Γ dX11_worthOf_1 rfl hnl rfl rfl ?_
  refine jq_iconst Γ dX11_worthOf_2 rfl ?_
  refine jq_istore_n (L' := [(3, jI 0), (2, jI 0), (0, jR 0), (1, jI p1)]) Γ dX11_worthOf_3 rfl hnl rfl rfl ?_
  refine jq_sub Γ (L' := [(0, jR 0), (1, jI p1), (2, jI 0), (3, jI 0)]) [2, 3, 1, 0] rfl ?_
  refine jq_loop2 (C := fun (t1 : Int × Int) => jq_V jq_zM X (jq_zN jq_zM) σ 4 [(0, jR 0), (1, jI p1), (2, jI t1.1), (3, jI t1.2)] []) (KX := fun (e15 : Int) => jq_V jq_zM X (jq_zN jq_zM) σ 59 [(2, jI e15)] []) ?_ ?_ (0, 0)
  · intro K4_t1 hCt1 hXt1 t1
    unfold X11_worthOf_b4
    refine jq_iload_n Γ dX11_worthOf_4 rfl 3 rfl ?_
    refine jq_aload_n Γ dX11_worthOf_5 rfl 0 rfl (jq_at_0 at_M_0) ?_
    refine jq_getR (v := 1) Γ hlY at_M_0 fl_RX11_7 rfl rfl ly_X11_at dX11_worthOf_6 ?_
    refine jq_iconst Γ dX11_worthOf_9 rfl ?_
    refine jq_iald Γ at_M_1 rfl dX11_worthOf_10 (fun v2 => ?_)
    refine jq_icmp_ge (tgt := 59) Γ dX11_worthOf_11 rfl ?_ ?_
    · refine jq_sub Γ (L' := [(2, jI t1.1)]) [2] rfl ?_
      exact jq_done (hXt1 t1.1)
    · refine jq_iload_n Γ dX11_worthOf_14 rfl 2 rfl ?_
      refine jq_aload_n Γ dX11_worthOf_15 rfl 0 rfl (jq_at_0 at_M_0) ?_
      refine jq_getR (v := 1) Γ hlY at_M_0 fl_RX11_7 rfl rfl ly_X11_at dX11_worthOf_16 ?_
      refine jq_iload_n Γ dX11_worthOf_19 rfl 3 rfl ?_
      refine jq_cpI (jq_stat (avs := [jI t1.2]) (st := [jR 1, jI t1.1]) Γ hlY rfl ml_RX11_263 rfl rfl rfl rfl rfl dX11_worthOf_20) (fun r h => ctX11_wishRow h) (fun v3 => ?_)
      refine jq_iald Γ at_M_1 rfl dX11_worthOf_23 (fun v4 => ?_)
      refine jq_iload_n Γ dX11_worthOf_24 rfl 1 rfl ?_
      refine jq_icmp_ne (tgt := 50) Γ dX11_worthOf_25 rfl ?_ ?_
      · refine jq_iconst Γ dX11_worthOf_50 rfl ?_
        refine jq_iadd Γ dX11_worthOf_51 ?_
        refine jq_nmI (fun v5 => ?_)
        refine jq_istore_n (L' := [(2, jI v5), (0, jR 0), (1, jI p1), (3, jI t1.2)]) Γ dX11_worthOf_52 rfl hnl rfl rfl ?_
        refine jq_iincN (L' := fun v6 => [(3, jI v6), (2, jI v5), (0, jR 0), (1, jI p1)]) Γ dX11_worthOf_53 3 rfl hnl rfl (fun _ => rfl) (fun v6 => ?_)
        refine jq_goto Γ (tgt := 4) dX11_worthOf_56 rfl ?_
        refine jq_sub Γ (L' := [(0, jR 0), (1, jI p1), (2, jI v5), (3, jI v6)]) [2, 3, 1, 0] rfl ?_
        exact jq_done (hCt1 (v5, v6))
      · refine jq_aload_n Γ dX11_worthOf_28 rfl 0 rfl (jq_at_0 at_M_0) ?_
        refine jq_iload_n Γ dX11_worthOf_29 rfl 3 rfl ?_
        refine jq_cpZ (jq_virt (avs := [jI t1.2]) (st := [jI t1.1]) Γ hlY rfl ml_RX11_275 rfl at_M_0 rfl rfl rfl rfl rfl dX11_worthOf_30) rfl (fun r h => ctX11_isHad h) (fun v7 hz8 => ?_)
        refine jq_if_eq (tgt := 50) Γ dX11_worthOf_33 rfl ?_ ?_
        · refine jq_iconst Γ dX11_worthOf_50 rfl ?_
          refine jq_iadd Γ dX11_worthOf_51 ?_
          refine jq_nmI (fun v9 => ?_)
          refine jq_istore_n (L' := [(2, jI v9), (0, jR 0), (1, jI p1), (3, jI t1.2)]) Γ dX11_worthOf_52 rfl hnl rfl rfl ?_
          refine jq_iincN (L' := fun v10 => [(3, jI v10), (2, jI v9), (0, jR 0), (1, jI p1)]) Γ dX11_worthOf_53 3 rfl hnl rfl (fun _ => rfl) (fun v10 => ?_)
          refine jq_goto Γ (tgt := 4) dX11_worthOf_56 rfl ?_
          refine jq_sub Γ (L' := [(0, jR 0), (1, jI p1), (2, jI v9), (3, jI v10)]) [2, 3, 1, 0] rfl ?_
          exact jq_done (hCt1 (v9, v10))
        · refine jq_aload_n Γ dX11_worthOf_36 rfl 0 rfl (jq_at_0 at_M_0) ?_
          refine jq_getR (v := 1) Γ hlY at_M_0 fl_RX11_7 rfl rfl ly_X11_at dX11_worthOf_37 ?_
          refine jq_iload_n Γ dX11_worthOf_40 rfl 3 rfl ?_
          refine jq_cpI (jq_stat (avs := [jI t1.2]) (st := [jR 1, jI t1.1]) Γ hlY rfl ml_RX11_263 rfl rfl rfl rfl rfl dX11_worthOf_41) (fun r h => ctX11_wishRow h) (fun v11 => ?_)
          refine jq_iconst Γ dX11_worthOf_44 rfl ?_
          refine jq_iadd Γ dX11_worthOf_45 ?_
          refine jq_iald Γ at_M_1 rfl dX11_worthOf_46 (fun v12 => ?_)
          refine jq_goto Γ (tgt := 51) dX11_worthOf_47 rfl ?_
          refine jq_iadd Γ dX11_worthOf_51 ?_
          refine jq_nmI (fun v13 => ?_)
          refine jq_istore_n (L' := [(2, jI v13), (0, jR 0), (1, jI p1), (3, jI t1.2)]) Γ dX11_worthOf_52 rfl hnl rfl rfl ?_
          refine jq_iincN (L' := fun v14 => [(3, jI v14), (2, jI v13), (0, jR 0), (1, jI p1)]) Γ dX11_worthOf_53 3 rfl hnl rfl (fun _ => rfl) (fun v14 => ?_)
          refine jq_goto Γ (tgt := 4) dX11_worthOf_56 rfl ?_
          refine jq_sub Γ (L' := [(0, jR 0), (1, jI p1), (2, jI v13), (3, jI v14)]) [2, 3, 1, 0] rfl ?_
          exact jq_done (hCt1 (v13, v14))
  · intro e15
    refine jq_iload_n Γ dX11_worthOf_59 rfl 0 rfl ?_
    exact jq_ireturn Γ dX11_worthOf_60 (hK0 _)


