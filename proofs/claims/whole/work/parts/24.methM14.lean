theorem yf_X11_partyTo : Cond.instanceMethod yX11_partyTo ∈ jq_T ∧ Cond.selects (yX11_partyTo).cls yX11_partyTo yX11_partyTo ∈ jq_T ∧ Cond.initialized (yX11_partyTo).cls ∈ jq_T ∧ Cond.code yX11_partyTo cX11_partyTo 2 (some .boolean) ∈ jq_T ∧ ((yX11_partyTo).cls ≠ "java/lang/invoke/MethodHandle" ∧ (yX11_partyTo).cls ≠ "java/lang/invoke/VarHandle" ∧ (parseMethodDescriptor (yX11_partyTo).desc).map (fun d => d.parameters.length) = some 1) := ⟨jq_in 1806 (by decide +kernel) rfl, jq_in 57 (by decide +kernel) rfl, jq_in 150 (by decide +kernel) rfl, jq_in 1807 (by decide +kernel) rfl, ⟨by decide, by decide, by decide +kernel⟩⟩
theorem ml_RX11_196 : jq_vl RX11 196 yX11_partyTo cX11_partyTo 2 (some .boolean) 1 := ⟨jq_in 1804 (by decide +kernel) rfl, yf_X11_partyTo⟩
theorem yf_X11_wantWord : Cond.instanceMethod yX11_wantWord ∈ jq_T ∧ Cond.selects (yX11_wantWord).cls yX11_wantWord yX11_wantWord ∈ jq_T ∧ Cond.initialized (yX11_wantWord).cls ∈ jq_T ∧ Cond.code yX11_wantWord cX11_wantWord 3 (some .boolean) ∈ jq_T ∧ ((yX11_wantWord).cls ≠ "java/lang/invoke/MethodHandle" ∧ (yX11_wantWord).cls ≠ "java/lang/invoke/VarHandle" ∧ (parseMethodDescriptor (yX11_wantWord).desc).map (fun d => d.parameters.length) = some 2) := ⟨jq_in 1810 (by decide +kernel) rfl, jq_in 58 (by decide +kernel) rfl, jq_in 150 (by decide +kernel) rfl, jq_in 1811 (by decide +kernel) rfl, ⟨by decide, by decide, by decide +kernel⟩⟩
theorem ml_RX11_199 : jq_vl RX11 199 yX11_wantWord cX11_wantWord 3 (some .boolean) 2 := ⟨jq_in 1808 (by decide +kernel) rfl, yf_X11_wantWord⟩
theorem yf_X11_wantSign : Cond.instanceMethod yX11_wantSign ∈ jq_T ∧ Cond.selects (yX11_wantSign).cls yX11_wantSign yX11_wantSign ∈ jq_T ∧ Cond.initialized (yX11_wantSign).cls ∈ jq_T ∧ Cond.code yX11_wantSign cX11_wantSign 2 (some .boolean) ∈ jq_T ∧ ((yX11_wantSign).cls ≠ "java/lang/invoke/MethodHandle" ∧ (yX11_wantSign).cls ≠ "java/lang/invoke/VarHandle" ∧ (parseMethodDescriptor (yX11_wantSign).desc).map (fun d => d.parameters.length) = some 1) := ⟨jq_in 1818 (by decide +kernel) rfl, jq_in 60 (by decide +kernel) rfl, jq_in 150 (by decide +kernel) rfl, jq_in 1819 (by decide +kernel) rfl, ⟨by decide, by decide, by decide +kernel⟩⟩
theorem ml_RX11_214 : jq_vl RX11 214 yX11_wantSign cX11_wantSign 2 (some .boolean) 1 := ⟨jq_in 1816 (by decide +kernel) rfl, yf_X11_wantSign⟩
theorem yf_X11_aParty : Cond.instanceMethod yX11_aParty ∈ jq_T ∧ Cond.selects (yX11_aParty).cls yX11_aParty yX11_aParty ∈ jq_T ∧ Cond.initialized (yX11_aParty).cls ∈ jq_T ∧ Cond.code yX11_aParty cX11_aParty 3 (some .boolean) ∈ jq_T ∧ ((yX11_aParty).cls ≠ "java/lang/invoke/MethodHandle" ∧ (yX11_aParty).cls ≠ "java/lang/invoke/VarHandle" ∧ (parseMethodDescriptor (yX11_aParty).desc).map (fun d => d.parameters.length) = some 0) := ⟨jq_in 1778 (by decide +kernel) rfl, jq_in 50 (by decide +kernel) rfl, jq_in 150 (by decide +kernel) rfl, jq_in 1779 (by decide +kernel) rfl, ⟨by decide, by decide, by decide +kernel⟩⟩
theorem ml_RX11_203 : jq_vl RX11 203 yX11_aParty cX11_aParty 3 (some .boolean) 0 := ⟨jq_in 1776 (by decide +kernel) rfl, yf_X11_aParty⟩
theorem yf_X11_aWish : Cond.instanceMethod yX11_aWish ∈ jq_T ∧ Cond.selects (yX11_aWish).cls yX11_aWish yX11_aWish ∈ jq_T ∧ Cond.initialized (yX11_aWish).cls ∈ jq_T ∧ Cond.code yX11_aWish cX11_aWish 4 (some .boolean) ∈ jq_T ∧ ((yX11_aWish).cls ≠ "java/lang/invoke/MethodHandle" ∧ (yX11_aWish).cls ≠ "java/lang/invoke/VarHandle" ∧ (parseMethodDescriptor (yX11_aWish).desc).map (fun d => d.parameters.length) = some 1) := ⟨jq_in 1802 (by decide +kernel) rfl, jq_in 56 (by decide +kernel) rfl, jq_in 150 (by decide +kernel) rfl, jq_in 1803 (by decide +kernel) rfl, ⟨by decide, by decide, by decide +kernel⟩⟩
theorem ml_RX11_207 : jq_vl RX11 207 yX11_aWish cX11_aWish 4 (some .boolean) 1 := ⟨jq_in 1800 (by decide +kernel) rfl, yf_X11_aWish⟩
theorem yf_X11_anArticle : Cond.instanceMethod yX11_anArticle ∈ jq_T ∧ Cond.selects (yX11_anArticle).cls yX11_anArticle yX11_anArticle ∈ jq_T ∧ Cond.initialized (yX11_anArticle).cls ∈ jq_T ∧ Cond.code yX11_anArticle cX11_anArticle 3 (some .boolean) ∈ jq_T ∧ ((yX11_anArticle).cls ≠ "java/lang/invoke/MethodHandle" ∧ (yX11_anArticle).cls ≠ "java/lang/invoke/VarHandle" ∧ (parseMethodDescriptor (yX11_anArticle).desc).map (fun d => d.parameters.length) = some 0) := ⟨jq_in 1814 (by decide +kernel) rfl, jq_in 59 (by decide +kernel) rfl, jq_in 150 (by decide +kernel) rfl, jq_in 1815 (by decide +kernel) rfl, ⟨by decide, by decide, by decide +kernel⟩⟩
theorem ml_RX11_211 : jq_vl RX11 211 yX11_anArticle cX11_anArticle 3 (some .boolean) 0 := ⟨jq_in 1812 (by decide +kernel) rfl, yf_X11_anArticle⟩
theorem yf_X11_begins : Cond.instanceMethod yX11_begins ∈ jq_T ∧ Cond.selects (yX11_begins).cls yX11_begins yX11_begins ∈ jq_T ∧ Cond.initialized (yX11_begins).cls ∈ jq_T ∧ Cond.code yX11_begins cX11_begins 4 (some .boolean) ∈ jq_T ∧ ((yX11_begins).cls ≠ "java/lang/invoke/MethodHandle" ∧ (yX11_begins).cls ≠ "java/lang/invoke/VarHandle" ∧ (parseMethodDescriptor (yX11_begins).desc).map (fun d => d.parameters.length) = some 2) := ⟨jq_in 1735 (by decide +kernel) rfl, jq_in 42 (by decide +kernel) rfl, jq_in 150 (by decide +kernel) rfl, jq_in 1736 (by decide +kernel) rfl, ⟨by decide, by decide, by decide +kernel⟩⟩
theorem ml_RX11_217 : jq_vl RX11 217 yX11_begins cX11_begins 4 (some .boolean) 2 := ⟨jq_in 1733 (by decide +kernel) rfl, yf_X11_begins⟩
theorem yf_X11_plain : Cond.instanceMethod yX11_plain ∈ jq_T ∧ Cond.selects (yX11_plain).cls yX11_plain yX11_plain ∈ jq_T ∧ Cond.initialized (yX11_plain).cls ∈ jq_T ∧ Cond.code yX11_plain cX11_plain 3 none ∈ jq_T ∧ ((yX11_plain).cls ≠ "java/lang/invoke/MethodHandle" ∧ (yX11_plain).cls ≠ "java/lang/invoke/VarHandle" ∧ (parseMethodDescriptor (yX11_plain).desc).map (fun d => d.parameters.length) = some 1) := ⟨jq_in 1560 (by decide +kernel) rfl, jq_in 38 (by decide +kernel) rfl, jq_in 150 (by decide +kernel) rfl, jq_in 1561 (by decide +kernel) rfl, ⟨by decide, by decide, by decide +kernel⟩⟩
theorem ml_RX11_74 : jq_vl RX11 74 yX11_plain cX11_plain 3 none 1 := ⟨jq_in 1558 (by decide +kernel) rfl, yf_X11_plain⟩
theorem yf_X11_committeePart : Cond.instanceMethod yX11_committeePart ∈ jq_T ∧ Cond.selects (yX11_committeePart).cls yX11_committeePart yX11_committeePart ∈ jq_T ∧ Cond.initialized (yX11_committeePart).cls ∈ jq_T ∧ Cond.code yX11_committeePart cX11_committeePart 3 (some .boolean) ∈ jq_T ∧ ((yX11_committeePart).cls ≠ "java/lang/invoke/MethodHandle" ∧ (yX11_committeePart).cls ≠ "java/lang/invoke/VarHandle" ∧ (parseMethodDescriptor (yX11_committeePart).desc).map (fun d => d.parameters.length) = some 0) := ⟨jq_in 1759 (by decide +kernel) rfl, jq_in 46 (by decide +kernel) rfl, jq_in 150 (by decide +kernel) rfl, jq_in 1760 (by decide +kernel) rfl, ⟨by decide, by decide, by decide +kernel⟩⟩
theorem ml_RX11_221 : jq_vl RX11 221 yX11_committeePart cX11_committeePart 3 (some .boolean) 0 := ⟨jq_in 1757 (by decide +kernel) rfl, yf_X11_committeePart⟩
theorem yf_X11_taken : Cond.instanceMethod yX11_taken ∈ jq_T ∧ Cond.selects (yX11_taken).cls yX11_taken yX11_taken ∈ jq_T ∧ Cond.initialized (yX11_taken).cls ∈ jq_T ∧ Cond.code yX11_taken cX11_taken 2 (some .int) ∈ jq_T ∧ ((yX11_taken).cls ≠ "java/lang/invoke/MethodHandle" ∧ (yX11_taken).cls ≠ "java/lang/invoke/VarHandle" ∧ (parseMethodDescriptor (yX11_taken).desc).map (fun d => d.parameters.length) = some 1) := ⟨jq_in 1826 (by decide +kernel) rfl, jq_in 62 (by decide +kernel) rfl, jq_in 150 (by decide +kernel) rfl, jq_in 1827 (by decide +kernel) rfl, ⟨by decide, by decide, by decide +kernel⟩⟩
theorem ml_RX11_224 : jq_vl RX11 224 yX11_taken cX11_taken 2 (some .int) 1 := ⟨jq_in 1824 (by decide +kernel) rfl, yf_X11_taken⟩
theorem yf_X11_oldOne : Cond.instanceMethod yX11_oldOne ∈ jq_T ∧ Cond.selects (yX11_oldOne).cls yX11_oldOne yX11_oldOne ∈ jq_T ∧ Cond.initialized (yX11_oldOne).cls ∈ jq_T ∧ Cond.code yX11_oldOne cX11_oldOne 4 (some .boolean) ∈ jq_T ∧ ((yX11_oldOne).cls ≠ "java/lang/invoke/MethodHandle" ∧ (yX11_oldOne).cls ≠ "java/lang/invoke/VarHandle" ∧ (parseMethodDescriptor (yX11_oldOne).desc).map (fun d => d.parameters.length) = some 3) := ⟨jq_in 1850 (by decide +kernel) rfl, jq_in 67 (by decide +kernel) rfl, jq_in 150 (by decide +kernel) rfl, jq_in 1851 (by decide +kernel) rfl, ⟨by decide, by decide, by decide +kernel⟩⟩
theorem ml_RX11_227 : jq_vl RX11 227 yX11_oldOne cX11_oldOne 4 (some .boolean) 3 := ⟨jq_in 1848 (by decide +kernel) rfl, yf_X11_oldOne⟩
theorem yf_X11_oldArticle : Cond.instanceMethod yX11_oldArticle ∈ jq_T ∧ Cond.selects (yX11_oldArticle).cls yX11_oldArticle yX11_oldArticle ∈ jq_T ∧ Cond.initialized (yX11_oldArticle).cls ∈ jq_T ∧ Cond.code yX11_oldArticle cX11_oldArticle 2 (some .boolean) ∈ jq_T ∧ ((yX11_oldArticle).cls ≠ "java/lang/invoke/MethodHandle" ∧ (yX11_oldArticle).cls ≠ "java/lang/invoke/VarHandle" ∧ (parseMethodDescriptor (yX11_oldArticle).desc).map (fun d => d.parameters.length) = some 1) := ⟨jq_in 1854 (by decide +kernel) rfl, jq_in 68 (by decide +kernel) rfl, jq_in 150 (by decide +kernel) rfl, jq_in 1855 (by decide +kernel) rfl, ⟨by decide, by decide, by decide +kernel⟩⟩
theorem ml_RX11_233 : jq_vl RX11 233 yX11_oldArticle cX11_oldArticle 2 (some .boolean) 1 := ⟨jq_in 1852 (by decide +kernel) rfl, yf_X11_oldArticle⟩
theorem yf_X11_oldParty : Cond.instanceMethod yX11_oldParty ∈ jq_T ∧ Cond.selects (yX11_oldParty).cls yX11_oldParty yX11_oldParty ∈ jq_T ∧ Cond.initialized (yX11_oldParty).cls ∈ jq_T ∧ Cond.code yX11_oldParty cX11_oldParty 2 (some .boolean) ∈ jq_T ∧ ((yX11_oldParty).cls ≠ "java/lang/invoke/MethodHandle" ∧ (yX11_oldParty).cls ≠ "java/lang/invoke/VarHandle" ∧ (parseMethodDescriptor (yX11_oldParty).desc).map (fun d => d.parameters.length) = some 1) := ⟨jq_in 1846 (by decide +kernel) rfl, jq_in 66 (by decide +kernel) rfl, jq_in 150 (by decide +kernel) rfl, jq_in 1847 (by decide +kernel) rfl, ⟨by decide, by decide, by decide +kernel⟩⟩
theorem ml_RX11_230 : jq_vl RX11 230 yX11_oldParty cX11_oldParty 2 (some .boolean) 1 := ⟨jq_in 1844 (by decide +kernel) rfl, yf_X11_oldParty⟩
theorem dX11_aWish_0 : decode cX11_aWish 0 = .ok (.sipush 2042, 3) := by decide +kernel
theorem dX11_aWish_3 : decode cX11_aWish 3 = .ok (.iconst 4, 1) := by decide +kernel
theorem dX11_aWish_4 : decode cX11_aWish 4 = .ok (.aload_n 0, 1) := by decide +kernel
theorem dX11_aWish_5 : decode cX11_aWish 5 = .ok (.getfield 7, 3) := by decide +kernel
theorem dX11_aWish_8 : decode cX11_aWish 8 = .ok (.sipush 2026, 3) := by decide +kernel
theorem dX11_aWish_11 : decode cX11_aWish 11 = .ok (.iaload, 1) := by decide +kernel
theorem dX11_aWish_12 : decode cX11_aWish 12 = .ok (.imul, 1) := by decide +kernel
theorem dX11_aWish_13 : decode cX11_aWish 13 = .ok (.iadd, 1) := by decide +kernel
theorem dX11_aWish_14 : decode cX11_aWish 14 = .ok (.istore_n 2, 1) := by decide +kernel
theorem dX11_aWish_15 : decode cX11_aWish 15 = .ok (.aload_n 0, 1) := by decide +kernel
theorem dX11_aWish_16 : decode cX11_aWish 16 = .ok (.getfield 7, 3) := by decide +kernel
theorem dX11_aWish_19 : decode cX11_aWish 19 = .ok (.sipush 2026, 3) := by decide +kernel
theorem dX11_aWish_22 : decode cX11_aWish 22 = .ok (.iaload, 1) := by decide +kernel
theorem dX11_aWish_23 : decode cX11_aWish 23 = .ok (.bipush 20, 2) := by decide +kernel
theorem dX11_aWish_25 : decode cX11_aWish 25 = .ok (.if_icmp .ne 10, 3) := by decide +kernel
theorem dX11_aWish_28 : decode cX11_aWish 28 = .ok (.aload_n 0, 1) := by decide +kernel
theorem dX11_aWish_29 : decode cX11_aWish 29 = .ok (.bipush 6, 2) := by decide +kernel
theorem dX11_aWish_31 : decode cX11_aWish 31 = .ok (.invokevirtual 166, 3) := by decide +kernel
theorem dX11_aWish_34 : decode cX11_aWish 34 = .ok (.ireturn, 1) := by decide +kernel
theorem dX11_aWish_35 : decode cX11_aWish 35 = .ok (.aload_n 0, 1) := by decide +kernel
theorem dX11_aWish_36 : decode cX11_aWish 36 = .ok (.invokevirtual 160, 3) := by decide +kernel
theorem dX11_aWish_39 : decode cX11_aWish 39 = .ok (.aload_n 0, 1) := by decide +kernel
theorem dX11_aWish_40 : decode cX11_aWish 40 = .ok (.iload_n 2, 1) := by decide +kernel
theorem dX11_aWish_41 : decode cX11_aWish 41 = .ok (.invokevirtual 196, 3) := by decide +kernel
theorem dX11_aWish_44 : decode cX11_aWish 44 = .ok (.ifCond .ne 5, 3) := by decide +kernel
theorem dX11_aWish_47 : decode cX11_aWish 47 = .ok (.iconst 0, 1) := by decide +kernel
theorem dX11_aWish_48 : decode cX11_aWish 48 = .ok (.ireturn, 1) := by decide +kernel
theorem dX11_aWish_49 : decode cX11_aWish 49 = .ok (.aload_n 0, 1) := by decide +kernel
theorem dX11_aWish_50 : decode cX11_aWish 50 = .ok (.ldc 177, 2) := by decide +kernel
theorem dX11_aWish_52 : decode cX11_aWish 52 = .ok (.invokevirtual 169, 3) := by decide +kernel
theorem dX11_aWish_55 : decode cX11_aWish 55 = .ok (.istore_n 3, 1) := by decide +kernel
theorem dX11_aWish_56 : decode cX11_aWish 56 = .ok (.iload_n 3, 1) := by decide +kernel
theorem dX11_aWish_57 : decode cX11_aWish 57 = .ok (.bipush 8, 2) := by decide +kernel
theorem dX11_aWish_59 : decode cX11_aWish 59 = .ok (.if_icmp .eq 20, 3) := by decide +kernel
theorem dX11_aWish_62 : decode cX11_aWish 62 = .ok (.iload_n 3, 1) := by decide +kernel
theorem dX11_aWish_63 : decode cX11_aWish 63 = .ok (.bipush 9, 2) := by decide +kernel
theorem dX11_aWish_65 : decode cX11_aWish 65 = .ok (.if_icmp .eq 14, 3) := by decide +kernel
theorem dX11_aWish_68 : decode cX11_aWish 68 = .ok (.iload_n 3, 1) := by decide +kernel
theorem dX11_aWish_69 : decode cX11_aWish 69 = .ok (.iconst 1, 1) := by decide +kernel
theorem dX11_aWish_70 : decode cX11_aWish 70 = .ok (.if_icmp .eq 9, 3) := by decide +kernel
theorem dX11_aWish_73 : decode cX11_aWish 73 = .ok (.aload_n 0, 1) := by decide +kernel
theorem dX11_aWish_74 : decode cX11_aWish 74 = .ok (.iconst 2, 1) := by decide +kernel
theorem dX11_aWish_75 : decode cX11_aWish 75 = .ok (.invokevirtual 166, 3) := by decide +kernel
theorem dX11_aWish_78 : decode cX11_aWish 78 = .ok (.ireturn, 1) := by decide +kernel
theorem dX11_aWish_79 : decode cX11_aWish 79 = .ok (.aload_n 0, 1) := by decide +kernel
theorem dX11_aWish_80 : decode cX11_aWish 80 = .ok (.getfield 7, 3) := by decide +kernel
theorem dX11_aWish_83 : decode cX11_aWish 83 = .ok (.iload_n 2, 1) := by decide +kernel
theorem dX11_aWish_84 : decode cX11_aWish 84 = .ok (.iconst 1, 1) := by decide +kernel
theorem dX11_aWish_85 : decode cX11_aWish 85 = .ok (.iadd, 1) := by decide +kernel
theorem dX11_aWish_86 : decode cX11_aWish 86 = .ok (.iload_n 3, 1) := by decide +kernel
theorem dX11_aWish_87 : decode cX11_aWish 87 = .ok (.bipush 8, 2) := by decide +kernel
theorem dX11_aWish_89 : decode cX11_aWish 89 = .ok (.if_icmp .ne 7, 3) := by decide +kernel
theorem dX11_aWish_92 : decode cX11_aWish 92 = .ok (.iconst 0, 1) := by decide +kernel
theorem dX11_aWish_93 : decode cX11_aWish 93 = .ok (.goto 14, 3) := by decide +kernel
theorem dX11_aWish_96 : decode cX11_aWish 96 = .ok (.iload_n 3, 1) := by decide +kernel
theorem dX11_aWish_97 : decode cX11_aWish 97 = .ok (.bipush 9, 2) := by decide +kernel
theorem dX11_aWish_99 : decode cX11_aWish 99 = .ok (.if_icmp .ne 7, 3) := by decide +kernel
theorem dX11_aWish_102 : decode cX11_aWish 102 = .ok (.iconst 1, 1) := by decide +kernel
theorem dX11_aWish_103 : decode cX11_aWish 103 = .ok (.goto 4, 3) := by decide +kernel
theorem dX11_aWish_106 : decode cX11_aWish 106 = .ok (.iconst 2, 1) := by decide +kernel
theorem dX11_aWish_107 : decode cX11_aWish 107 = .ok (.iastore, 1) := by decide +kernel
theorem dX11_aWish_108 : decode cX11_aWish 108 = .ok (.aload_n 0, 1) := by decide +kernel
theorem dX11_aWish_109 : decode cX11_aWish 109 = .ok (.getfield 7, 3) := by decide +kernel
theorem dX11_aWish_112 : decode cX11_aWish 112 = .ok (.iload_n 2, 1) := by decide +kernel
theorem dX11_aWish_113 : decode cX11_aWish 113 = .ok (.iconst 2, 1) := by decide +kernel
theorem dX11_aWish_114 : decode cX11_aWish 114 = .ok (.iadd, 1) := by decide +kernel
theorem dX11_aWish_115 : decode cX11_aWish 115 = .ok (.iconst (-1), 1) := by decide +kernel
theorem dX11_aWish_116 : decode cX11_aWish 116 = .ok (.iastore, 1) := by decide +kernel
theorem dX11_aWish_117 : decode cX11_aWish 117 = .ok (.aload_n 0, 1) := by decide +kernel
theorem dX11_aWish_118 : decode cX11_aWish 118 = .ok (.invokevirtual 160, 3) := by decide +kernel
theorem dX11_aWish_121 : decode cX11_aWish 121 = .ok (.iload_n 3, 1) := by decide +kernel
theorem dX11_aWish_122 : decode cX11_aWish 122 = .ok (.iconst 1, 1) := by decide +kernel
theorem dX11_aWish_123 : decode cX11_aWish 123 = .ok (.if_icmp .eq 53, 3) := by decide +kernel
theorem dX11_aWish_126 : decode cX11_aWish 126 = .ok (.aload_n 0, 1) := by decide +kernel
theorem dX11_aWish_127 : decode cX11_aWish 127 = .ok (.ldc 177, 2) := by decide +kernel
theorem dX11_aWish_129 : decode cX11_aWish 129 = .ok (.invokevirtual 179, 3) := by decide +kernel
theorem dX11_aWish_132 : decode cX11_aWish 132 = .ok (.ifCond .eq 32, 3) := by decide +kernel
theorem dX11_aWish_135 : decode cX11_aWish 135 = .ok (.aload_n 0, 1) := by decide +kernel
theorem dX11_aWish_136 : decode cX11_aWish 136 = .ok (.bipush 52, 2) := by decide +kernel
theorem dX11_aWish_138 : decode cX11_aWish 138 = .ok (.aload_n 0, 1) := by decide +kernel
theorem dX11_aWish_139 : decode cX11_aWish 139 = .ok (.getfield 7, 3) := by decide +kernel
theorem dX11_aWish_142 : decode cX11_aWish 142 = .ok (.sipush 2025, 3) := by decide +kernel
theorem dX11_aWish_145 : decode cX11_aWish 145 = .ok (.iaload, 1) := by decide +kernel
theorem dX11_aWish_146 : decode cX11_aWish 146 = .ok (.invokevirtual 183, 3) := by decide +kernel
theorem dX11_aWish_149 : decode cX11_aWish 149 = .ok (.aload_n 0, 1) := by decide +kernel
theorem dX11_aWish_150 : decode cX11_aWish 150 = .ok (.getfield 7, 3) := by decide +kernel
theorem dX11_aWish_153 : decode cX11_aWish 153 = .ok (.iload_n 2, 1) := by decide +kernel
theorem dX11_aWish_154 : decode cX11_aWish 154 = .ok (.iaload, 1) := by decide +kernel
theorem dX11_aWish_155 : decode cX11_aWish 155 = .ok (.if_icmp .ne 9, 3) := by decide +kernel
theorem dX11_aWish_158 : decode cX11_aWish 158 = .ok (.aload_n 0, 1) := by decide +kernel
theorem dX11_aWish_159 : decode cX11_aWish 159 = .ok (.iconst 5, 1) := by decide +kernel
theorem dX11_aWish_160 : decode cX11_aWish 160 = .ok (.invokevirtual 166, 3) := by decide +kernel
theorem dX11_aWish_163 : decode cX11_aWish 163 = .ok (.ireturn, 1) := by decide +kernel
theorem dX11_aWish_164 : decode cX11_aWish 164 = .ok (.aload_n 0, 1) := by decide +kernel
theorem dX11_aWish_165 : decode cX11_aWish 165 = .ok (.iload_n 2, 1) := by decide +kernel
theorem dX11_aWish_166 : decode cX11_aWish 166 = .ok (.iconst 2, 1) := by decide +kernel
theorem dX11_aWish_167 : decode cX11_aWish 167 = .ok (.iadd, 1) := by decide +kernel
theorem dX11_aWish_168 : decode cX11_aWish 168 = .ok (.invokevirtual 196, 3) := by decide +kernel
theorem dX11_aWish_171 : decode cX11_aWish 171 = .ok (.ifCond .ne 5, 3) := by decide +kernel
theorem dX11_aWish_174 : decode cX11_aWish 174 = .ok (.iconst 0, 1) := by decide +kernel
theorem dX11_aWish_175 : decode cX11_aWish 175 = .ok (.ireturn, 1) := by decide +kernel
theorem dX11_aWish_176 : decode cX11_aWish 176 = .ok (.aload_n 0, 1) := by decide +kernel
theorem dX11_aWish_177 : decode cX11_aWish 177 = .ok (.ldc 177, 2) := by decide +kernel
theorem dX11_aWish_179 : decode cX11_aWish 179 = .ok (.bipush 10, 2) := by decide +kernel
theorem dX11_aWish_181 : decode cX11_aWish 181 = .ok (.invokevirtual 199, 3) := by decide +kernel
theorem dX11_aWish_184 : decode cX11_aWish 184 = .ok (.ifCond .eq 16, 3) := by decide +kernel
theorem dX11_aWish_187 : decode cX11_aWish 187 = .ok (.aload_n 0, 1) := by decide +kernel
theorem dX11_aWish_188 : decode cX11_aWish 188 = .ok (.iload_n 2, 1) := by decide +kernel
theorem dX11_aWish_189 : decode cX11_aWish 189 = .ok (.iconst 3, 1) := by decide +kernel
theorem dX11_aWish_190 : decode cX11_aWish 190 = .ok (.iadd, 1) := by decide +kernel
theorem dX11_aWish_191 : decode cX11_aWish 191 = .ok (.iconst 1, 1) := by decide +kernel
theorem dX11_aWish_192 : decode cX11_aWish 192 = .ok (.bipush 9, 2) := by decide +kernel
theorem dX11_aWish_194 : decode cX11_aWish 194 = .ok (.invokevirtual 193, 3) := by decide +kernel
theorem dX11_aWish_197 : decode cX11_aWish 197 = .ok (.ifCond .ne 5, 3) := by decide +kernel
theorem dX11_aWish_200 : decode cX11_aWish 200 = .ok (.iconst 0, 1) := by decide +kernel
theorem dX11_aWish_201 : decode cX11_aWish 201 = .ok (.ireturn, 1) := by decide +kernel
theorem dX11_aWish_202 : decode cX11_aWish 202 = .ok (.aload_n 0, 1) := by decide +kernel
theorem dX11_aWish_203 : decode cX11_aWish 203 = .ok (.getfield 7, 3) := by decide +kernel
theorem dX11_aWish_206 : decode cX11_aWish 206 = .ok (.iload_n 2, 1) := by decide +kernel
theorem dX11_aWish_207 : decode cX11_aWish 207 = .ok (.iconst 3, 1) := by decide +kernel
theorem dX11_aWish_208 : decode cX11_aWish 208 = .ok (.iadd, 1) := by decide +kernel
theorem dX11_aWish_209 : decode cX11_aWish 209 = .ok (.dup2, 1) := by decide +kernel
theorem dX11_aWish_210 : decode cX11_aWish 210 = .ok (.iaload, 1) := by decide +kernel
theorem dX11_aWish_211 : decode cX11_aWish 211 = .ok (.iload_n 1, 1) := by decide +kernel
theorem dX11_aWish_212 : decode cX11_aWish 212 = .ok (.ifCond .eq 7, 3) := by decide +kernel
theorem dX11_aWish_215 : decode cX11_aWish 215 = .ok (.iconst 1, 1) := by decide +kernel
theorem dX11_aWish_216 : decode cX11_aWish 216 = .ok (.goto 4, 3) := by decide +kernel
theorem dX11_aWish_219 : decode cX11_aWish 219 = .ok (.iconst (-1), 1) := by decide +kernel
theorem dX11_aWish_220 : decode cX11_aWish 220 = .ok (.imul, 1) := by decide +kernel
theorem dX11_aWish_221 : decode cX11_aWish 221 = .ok (.iastore, 1) := by decide +kernel
theorem dX11_aWish_222 : decode cX11_aWish 222 = .ok (.aload_n 0, 1) := by decide +kernel
theorem dX11_aWish_223 : decode cX11_aWish 223 = .ok (.getfield 7, 3) := by decide +kernel
theorem dX11_aWish_226 : decode cX11_aWish 226 = .ok (.sipush 2026, 3) := by decide +kernel
theorem dX11_aWish_229 : decode cX11_aWish 229 = .ok (.dup2, 1) := by decide +kernel
theorem dX11_aWish_230 : decode cX11_aWish 230 = .ok (.iaload, 1) := by decide +kernel
theorem dX11_aWish_231 : decode cX11_aWish 231 = .ok (.iconst 1, 1) := by decide +kernel
theorem dX11_aWish_232 : decode cX11_aWish 232 = .ok (.iadd, 1) := by decide +kernel
theorem dX11_aWish_233 : decode cX11_aWish 233 = .ok (.iastore, 1) := by decide +kernel
theorem dX11_aWish_234 : decode cX11_aWish 234 = .ok (.iconst 1, 1) := by decide +kernel
theorem dX11_aWish_235 : decode cX11_aWish 235 = .ok (.ireturn, 1) := by decide +kernel
set_option maxHeartbeats 4000000 in
set_option maxRecDepth 100000 in
theorem ctX11_aWish {p1 : Int} {σ : jq_M} {res : Int} {σ' : jq_M}  (h : X11_aWish p1 σ = some (res, σ')) : jq_MC jq_zM yX11_aWish cX11_aWish 4 (some .boolean) 8 193 [jR 0, jI p1] σ (some (jI res)) σ' := by
  refine jq_met (own := RX11) (L0 := [(0, jR 0), (1, jI p1)]) (by decide) rfl rfl rfl ?_
  intro X Γ hnl hlY hRT
  refine jq_use2 (P := fun r => jq_RT jq_zM X (some .boolean) (some (jI r.1)) r.2) ?_ h hRT
  intro K0 hK0
  unfold X11_aWish
  have hj220_0 : ∀ (j30 : Int) (j31 : Int) (j32 : Int) (s33 : jq_M), jq_J (X11_aWish_j220 j30 j31 j32 s33) K0 (jq_V jq_zM X (jq_zN jq_zM) s33 220 [(0, jR 0)] [jI j32, jI j31, jI j30, jR 1]) := by
    intro j30 j31 j32 s33
    unfold X11_aWish_j220
    refine jq_imul Γ dX11_aWish_220 ?_
    refine jq_iast Γ at_M_1 rfl dX11_aWish_221 (fun s34 => ?_)
    refine jq_aload_n Γ dX11_aWish_222 rfl 0 rfl (jq_at_0 at_M_0) ?_
    refine jq_getR (v := 1) Γ hlY at_M_0 fl_RX11_7 rfl rfl ly_X11_at dX11_aWish_223 ?_
    refine jq_sipush Γ dX11_aWish_226 rfl ?_
    refine jq_dup2 Γ dX11_aWish_229 rfl rfl ?_
    refine jq_iald Γ at_M_1 rfl dX11_aWish_230 (fun v35 => ?_)
    refine jq_iconst Γ dX11_aWish_231 rfl ?_
    refine jq_iadd Γ dX11_aWish_232 ?_
    refine jq_iast Γ at_M_1 rfl dX11_aWish_233 (fun s36 => ?_)
    refine jq_iconst Γ dX11_aWish_234 rfl ?_
    exact jq_zreturn Γ (Or.inr rfl) dX11_aWish_235 (hK0 _)
  have hj176_0 : ∀ (j20 : Int) (s21 : jq_M), jq_J (X11_aWish_j176 p1 j20 s21) K0 (jq_V jq_zM X (jq_zN jq_zM) s21 176 [(0, jR 0), (1, jI p1), (2, jI j20)] []) := by
    intro j20 s21
    unfold X11_aWish_j176
    refine jq_aload_n Γ dX11_aWish_176 rfl 0 rfl (jq_at_0 at_M_0) ?_
    refine jq_ldcS Γ dX11_aWish_177 rfl rfl ?_
    refine jq_bipush Γ dX11_aWish_179 rfl ?_
    refine jq_cwZ (jq_virt (avs := [jT 0, jI 10]) (st := []) Γ hlY rfl ml_RX11_199 rfl at_M_0 rfl rfl rfl rfl rfl dX11_aWish_181) rfl (fun r σ' h => ctX11_wantWord h) (fun v22 s23 hz24 => ?_)
    refine jq_if_eq (tgt := 200) Γ dX11_aWish_184 rfl ?_ ?_
    · refine jq_iconst Γ dX11_aWish_200 rfl ?_
      exact jq_zreturn Γ (Or.inl rfl) dX11_aWish_201 (hK0 _)
    · refine jq_aload_n Γ dX11_aWish_187 rfl 0 rfl (jq_at_0 at_M_0) ?_
      refine jq_iload_n Γ dX11_aWish_188 rfl 2 rfl ?_
      refine jq_iconst Γ dX11_aWish_189 rfl ?_
      refine jq_iadd Γ dX11_aWish_190 ?_
      refine jq_iconst Γ dX11_aWish_191 rfl ?_
      refine jq_bipush Γ dX11_aWish_192 rfl ?_
      refine jq_cwZ (jq_virt (avs := [jI (jq_w (j20 + 3)), jI 1, jI 9]) (st := []) Γ hlY rfl ml_RX11_193 rfl at_M_0 rfl rfl rfl rfl rfl dX11_aWish_194) rfl (fun r σ' h => ctX11_number h) (fun v25 s26 hz27 => ?_)
      refine jq_if_ne (tgt := 202) Γ dX11_aWish_197 rfl ?_ ?_
      · refine jq_aload_n Γ dX11_aWish_202 rfl 0 rfl (jq_at_0 at_M_0) ?_
        refine jq_getR (v := 1) Γ hlY at_M_0 fl_RX11_7 rfl rfl ly_X11_at dX11_aWish_203 ?_
        refine jq_iload_n Γ dX11_aWish_206 rfl 2 rfl ?_
        refine jq_iconst Γ dX11_aWish_207 rfl ?_
        refine jq_iadd Γ dX11_aWish_208 ?_
        refine jq_nmI (fun v28 => ?_)
        refine jq_dup2 Γ dX11_aWish_209 rfl rfl ?_
        refine jq_iald Γ at_M_1 rfl dX11_aWish_210 (fun v29 => ?_)
        refine jq_iload_n Γ dX11_aWish_211 rfl 1 rfl ?_
        refine jq_if_eq (tgt := 219) Γ dX11_aWish_212 rfl ?_ ?_
        · refine jq_iconst Γ dX11_aWish_219 rfl ?_
          refine jq_sub Γ (L' := [(0, jR 0)]) [0] rfl ?_
          exact hj220_0 v28 v29 (-1) s26
        · refine jq_iconst Γ dX11_aWish_215 rfl ?_
          refine jq_goto Γ (tgt := 220) dX11_aWish_216 rfl ?_
          refine jq_sub Γ (L' := [(0, jR 0)]) [0] rfl ?_
          exact hj220_0 v28 v29 1 s26
      · refine jq_iconst Γ dX11_aWish_200 rfl ?_
        exact jq_zreturn Γ (Or.inl rfl) dX11_aWish_201 (hK0 _)
  have hj164_0 : ∀ (j39 : Int) (s40 : jq_M), jq_J (X11_aWish_j164 p1 j39 s40) K0 (jq_V jq_zM X (jq_zN jq_zM) s40 164 [(0, jR 0), (1, jI p1), (2, jI j39)] []) := by
    intro j39 s40
    unfold X11_aWish_j164
    refine jq_aload_n Γ dX11_aWish_164 rfl 0 rfl (jq_at_0 at_M_0) ?_
    refine jq_iload_n Γ dX11_aWish_165 rfl 2 rfl ?_
    refine jq_iconst Γ dX11_aWish_166 rfl ?_
    refine jq_iadd Γ dX11_aWish_167 ?_
    refine jq_cwZ (jq_virt (avs := [jI (jq_w (j39 + 2))]) (st := []) Γ hlY rfl ml_RX11_196 rfl at_M_0 rfl rfl rfl rfl rfl dX11_aWish_168) rfl (fun r σ' h => ctX11_partyTo h) (fun v41 s42 hz43 => ?_)
    refine jq_if_ne (tgt := 176) Γ dX11_aWish_171 rfl ?_ ?_
    · exact hj176_0 j39 s42
    · refine jq_iconst Γ dX11_aWish_174 rfl ?_
      exact jq_zreturn Γ (Or.inl rfl) dX11_aWish_175 (hK0 _)
  have hj107_0 : ∀ (j12 : Int) (j13 : Int) (j14 : Int) (j15 : Int) (s16 : jq_M), jq_J (X11_aWish_j107 p1 j12 j13 j14 j15 s16) K0 (jq_V jq_zM X (jq_zN jq_zM) s16 107 [(0, jR 0), (1, jI p1), (2, jI j12), (3, jI j13)] [jI j15, jI j14, jR 1]) := by
    intro j12 j13 j14 j15 s16
    unfold X11_aWish_j107
    refine jq_iast Γ at_M_1 rfl dX11_aWish_107 (fun s17 => ?_)
    refine jq_aload_n Γ dX11_aWish_108 rfl 0 rfl (jq_at_0 at_M_0) ?_
    refine jq_getR (v := 1) Γ hlY at_M_0 fl_RX11_7 rfl rfl ly_X11_at dX11_aWish_109 ?_
    refine jq_iload_n Γ dX11_aWish_112 rfl 2 rfl ?_
    refine jq_iconst Γ dX11_aWish_113 rfl ?_
    refine jq_iadd Γ dX11_aWish_114 ?_
    refine jq_iconst Γ dX11_aWish_115 rfl ?_
    refine jq_iast Γ at_M_1 rfl dX11_aWish_116 (fun s18 => ?_)
    refine jq_aload_n Γ dX11_aWish_117 rfl 0 rfl (jq_at_0 at_M_0) ?_
    refine jq_cwV (jq_virt (avs := []) (st := []) Γ hlY rfl ml_RX11_160 rfl at_M_0 rfl rfl rfl rfl rfl dX11_aWish_118) (fun σ' h => ctX11_ahead h) (fun s19 => ?_)
    refine jq_iload_n Γ dX11_aWish_121 rfl 3 rfl ?_
    refine jq_iconst Γ dX11_aWish_122 rfl ?_
    refine jq_icmp_eq (tgt := 176) Γ dX11_aWish_123 rfl ?_ ?_
    · refine jq_sub Γ (L' := [(0, jR 0), (1, jI p1), (2, jI j12)]) [0, 1, 2] rfl ?_
      exact hj176_0 j12 s19
    · refine jq_aload_n Γ dX11_aWish_126 rfl 0 rfl (jq_at_0 at_M_0) ?_
      refine jq_ldcS Γ dX11_aWish_127 rfl rfl ?_
      refine jq_cpZ (jq_virt (avs := [jT 0]) (st := []) Γ hlY rfl ml_RX11_179 rfl at_M_0 rfl rfl rfl rfl rfl dX11_aWish_129) rfl (fun r h => ctX11_isName h) (fun v37 hz38 => ?_)
      refine jq_if_eq (tgt := 164) Γ dX11_aWish_132 rfl ?_ ?_
      · refine jq_sub Γ (L' := [(0, jR 0), (1, jI p1), (2, jI j12)]) [0, 1, 2] rfl ?_
        exact hj164_0 j12 s19
      · refine jq_aload_n Γ dX11_aWish_135 rfl 0 rfl (jq_at_0 at_M_0) ?_
        refine jq_bipush Γ dX11_aWish_136 rfl ?_
        refine jq_aload_n Γ dX11_aWish_138 rfl 0 rfl (jq_at_0 at_M_0) ?_
        refine jq_getR (v := 1) Γ hlY at_M_0 fl_RX11_7 rfl rfl ly_X11_at dX11_aWish_139 ?_
        refine jq_sipush Γ dX11_aWish_142 rfl ?_
        refine jq_iald Γ at_M_1 rfl dX11_aWish_145 (fun v44 => ?_)
        refine jq_cpI (jq_virt (avs := [jI 52, jI v44]) (st := []) Γ hlY rfl ml_RX11_183 rfl at_M_0 rfl rfl rfl rfl rfl dX11_aWish_146) (fun r h => ctX11_findHere h) (fun v45 => ?_)
        refine jq_aload_n Γ dX11_aWish_149 rfl 0 rfl (jq_at_0 at_M_0) ?_
        refine jq_getR (v := 1) Γ hlY at_M_0 fl_RX11_7 rfl rfl ly_X11_at dX11_aWish_150 ?_
        refine jq_iload_n Γ dX11_aWish_153 rfl 2 rfl ?_
        refine jq_iald Γ at_M_1 rfl dX11_aWish_154 (fun v46 => ?_)
        refine jq_icmp_ne (tgt := 164) Γ dX11_aWish_155 rfl ?_ ?_
        · refine jq_sub Γ (L' := [(0, jR 0), (1, jI p1), (2, jI j12)]) [0, 1, 2] rfl ?_
          exact hj164_0 j12 s19
        · refine jq_aload_n Γ dX11_aWish_158 rfl 0 rfl (jq_at_0 at_M_0) ?_
          refine jq_iconst Γ dX11_aWish_159 rfl ?_
          refine jq_cwZ (jq_virt (avs := [jI 5]) (st := []) Γ hlY rfl ml_RX11_166 rfl at_M_0 rfl rfl rfl rfl rfl dX11_aWish_160) rfl (fun r σ' h => ctX11_fails h) (fun v47 s48 hz49 => ?_)
          exact jq_zreturn Γ (hz49) dX11_aWish_163 (hK0 _)
  have hj79_0 : ∀ (j9 : Int) (j10 : Int) (s11 : jq_M), jq_J (X11_aWish_j79 p1 j9 j10 s11) K0 (jq_V jq_zM X (jq_zN jq_zM) s11 79 [(0, jR 0), (1, jI p1), (2, jI j9), (3, jI j10)] []) := by
    intro j9 j10 s11
    unfold X11_aWish_j79
    refine jq_aload_n Γ dX11_aWish_79 rfl 0 rfl (jq_at_0 at_M_0) ?_
    refine jq_getR (v := 1) Γ hlY at_M_0 fl_RX11_7 rfl rfl ly_X11_at dX11_aWish_80 ?_
    refine jq_iload_n Γ dX11_aWish_83 rfl 2 rfl ?_
    refine jq_iconst Γ dX11_aWish_84 rfl ?_
    refine jq_iadd Γ dX11_aWish_85 ?_
    refine jq_iload_n Γ dX11_aWish_86 rfl 3 rfl ?_
    refine jq_bipush Γ dX11_aWish_87 rfl ?_
    refine jq_icmp_ne (tgt := 96) Γ dX11_aWish_89 rfl ?_ ?_
    · refine jq_iload_n Γ dX11_aWish_96 rfl 3 rfl ?_
      refine jq_bipush Γ dX11_aWish_97 rfl ?_
      refine jq_icmp_ne (tgt := 106) Γ dX11_aWish_99 rfl ?_ ?_
      · refine jq_iconst Γ dX11_aWish_106 rfl ?_
        exact hj107_0 j9 j10 (jq_w (j9 + 1)) 2 s11
      · refine jq_iconst Γ dX11_aWish_102 rfl ?_
        refine jq_goto Γ (tgt := 107) dX11_aWish_103 rfl ?_
        exact hj107_0 j9 j10 (jq_w (j9 + 1)) 1 s11
    · refine jq_iconst Γ dX11_aWish_92 rfl ?_
      refine jq_goto Γ (tgt := 107) dX11_aWish_93 rfl ?_
      exact hj107_0 j9 j10 (jq_w (j9 + 1)) 0 s11
  refine jq_sipush Γ dX11_aWish_0 rfl ?_
  refine jq_iconst Γ dX11_aWish_3 rfl ?_
  refine jq_aload_n Γ dX11_aWish_4 rfl 0 rfl (jq_at_0 at_M_0) ?_
  refine jq_getR (v := 1) Γ hlY at_M_0 fl_RX11_7 rfl rfl ly_X11_at dX11_aWish_5 ?_
  refine jq_sipush Γ dX11_aWish_8 rfl ?_
  refine jq_iald Γ at_M_1 rfl dX11_aWish_11 (fun v1 => ?_)
  refine jq_imul Γ dX11_aWish_12 ?_
  refine jq_iadd Γ dX11_aWish_13 ?_
  refine jq_nmI (fun v2 => ?_)
  refine jq_istore_n (L' := [(2, jI v2), (0, jR 0), (1, jI p1)]) Γ dX11_aWish_14 rfl hnl rfl rfl ?_
  refine jq_aload_n Γ dX11_aWish_15 rfl 1 rfl (jq_at_0 at_M_0) ?_
  refine jq_getR (v := 1) Γ hlY at_M_0 fl_RX11_7 rfl rfl ly_X11_at dX11_aWish_16 ?_
  refine jq_sipush Γ dX11_aWish_19 rfl ?_
  refine jq_iald Γ at_M_1 rfl dX11_aWish_22 (fun v3 => ?_)
  refine jq_bipush Γ dX11_aWish_23 rfl ?_
  refine jq_icmp_ne (tgt := 35) Γ dX11_aWish_25 rfl ?_ ?_
  · refine jq_aload_n Γ dX11_aWish_35 rfl 1 rfl (jq_at_0 at_M_0) ?_
    refine jq_cwV (jq_virt (avs := []) (st := []) Γ hlY rfl ml_RX11_160 rfl at_M_0 rfl rfl rfl rfl rfl dX11_aWish_36) (fun σ' h => ctX11_ahead h) (fun s4 => ?_)
    refine jq_aload_n Γ dX11_aWish_39 rfl 1 rfl (jq_at_0 at_M_0) ?_
    refine jq_iload_n Γ dX11_aWish_40 rfl 0 rfl ?_
    refine jq_cwZ (jq_virt (avs := [jI v2]) (st := []) Γ hlY rfl ml_RX11_196 rfl at_M_0 rfl rfl rfl rfl rfl dX11_aWish_41) rfl (fun r σ' h => ctX11_partyTo h) (fun v5 s6 hz7 => ?_)
    refine jq_if_ne (tgt := 49) Γ dX11_aWish_44 rfl ?_ ?_
    · refine jq_aload_n Γ dX11_aWish_49 rfl 1 rfl (jq_at_0 at_M_0) ?_
      refine jq_ldcS Γ dX11_aWish_50 rfl rfl ?_
      refine jq_cpI (jq_virt (avs := [jT 0]) (st := []) Γ hlY rfl ml_RX11_169 rfl at_M_0 rfl rfl rfl rfl rfl dX11_aWish_52) (fun r h => ctX11_inWords h) (fun v8 => ?_)
      refine jq_istore_n (L' := [(3, jI v8), (2, jI v2), (0, jR 0), (1, jI p1)]) Γ dX11_aWish_55 rfl hnl rfl rfl ?_
      refine jq_iload_n Γ dX11_aWish_56 rfl 0 rfl ?_
      refine jq_bipush Γ dX11_aWish_57 rfl ?_
      refine jq_icmp_eq (tgt := 79) Γ dX11_aWish_59 rfl ?_ ?_
      · refine jq_sub Γ (L' := [(0, jR 0), (1, jI p1), (2, jI v2), (3, jI v8)]) [2, 3, 1, 0] rfl ?_
        exact hj79_0 v2 v8 s6
      · refine jq_iload_n Γ dX11_aWish_62 rfl 0 rfl ?_
        refine jq_bipush Γ dX11_aWish_63 rfl ?_
        refine jq_icmp_eq (tgt := 79) Γ dX11_aWish_65 rfl ?_ ?_
        · refine jq_sub Γ (L' := [(0, jR 0), (1, jI p1), (2, jI v2), (3, jI v8)]) [2, 3, 1, 0] rfl ?_
          exact hj79_0 v2 v8 s6
        · refine jq_iload_n Γ dX11_aWish_68 rfl 0 rfl ?_
          refine jq_iconst Γ dX11_aWish_69 rfl ?_
          refine jq_icmp_eq (tgt := 79) Γ dX11_aWish_70 rfl ?_ ?_
          · refine jq_sub Γ (L' := [(0, jR 0), (1, jI p1), (2, jI v2), (3, jI v8)]) [2, 3, 1, 0] rfl ?_
            exact hj79_0 v2 v8 s6
          · refine jq_aload_n Γ dX11_aWish_73 rfl 2 rfl (jq_at_0 at_M_0) ?_
            refine jq_iconst Γ dX11_aWish_74 rfl ?_
            refine jq_cwZ (jq_virt (avs := [jI 2]) (st := []) Γ hlY rfl ml_RX11_166 rfl at_M_0 rfl rfl rfl rfl rfl dX11_aWish_75) rfl (fun r σ' h => ctX11_fails h) (fun v50 s51 hz52 => ?_)
            exact jq_zreturn Γ (hz52) dX11_aWish_78 (hK0 _)
    · refine jq_iconst Γ dX11_aWish_47 rfl ?_
      exact jq_zreturn Γ (Or.inl rfl) dX11_aWish_48 (hK0 _)
  · refine jq_aload_n Γ dX11_aWish_28 rfl 1 rfl (jq_at_0 at_M_0) ?_
    refine jq_bipush Γ dX11_aWish_29 rfl ?_
    refine jq_cwZ (jq_virt (avs := [jI 6]) (st := []) Γ hlY rfl ml_RX11_166 rfl at_M_0 rfl rfl rfl rfl rfl dX11_aWish_31) rfl (fun r σ' h => ctX11_fails h) (fun v53 s54 hz55 => ?_)
    exact jq_zreturn Γ (hz55) dX11_aWish_34 (hK0 _)


theorem dX11_anArticle_0 : decode cX11_anArticle 0 = .ok (.sipush 2122, 3) := by decide +kernel
theorem dX11_anArticle_3 : decode cX11_anArticle 3 = .ok (.iconst 5, 1) := by decide +kernel
theorem dX11_anArticle_4 : decode cX11_anArticle 4 = .ok (.aload_n 0, 1) := by decide +kernel
theorem dX11_anArticle_5 : decode cX11_anArticle 5 = .ok (.getfield 7, 3) := by decide +kernel
theorem dX11_anArticle_8 : decode cX11_anArticle 8 = .ok (.sipush 2027, 3) := by decide +kernel
theorem dX11_anArticle_11 : decode cX11_anArticle 11 = .ok (.iaload, 1) := by decide +kernel
theorem dX11_anArticle_12 : decode cX11_anArticle 12 = .ok (.imul, 1) := by decide +kernel
theorem dX11_anArticle_13 : decode cX11_anArticle 13 = .ok (.iadd, 1) := by decide +kernel
theorem dX11_anArticle_14 : decode cX11_anArticle 14 = .ok (.istore_n 1, 1) := by decide +kernel
theorem dX11_anArticle_15 : decode cX11_anArticle 15 = .ok (.aload_n 0, 1) := by decide +kernel
theorem dX11_anArticle_16 : decode cX11_anArticle 16 = .ok (.iconst 3, 1) := by decide +kernel
theorem dX11_anArticle_17 : decode cX11_anArticle 17 = .ok (.bipush 8, 2) := by decide +kernel
theorem dX11_anArticle_19 : decode cX11_anArticle 19 = .ok (.iconst 5, 1) := by decide +kernel
theorem dX11_anArticle_20 : decode cX11_anArticle 20 = .ok (.invokevirtual 186, 3) := by decide +kernel
theorem dX11_anArticle_23 : decode cX11_anArticle 23 = .ok (.ifCond .eq 25, 3) := by decide +kernel
theorem dX11_anArticle_26 : decode cX11_anArticle 26 = .ok (.aload_n 0, 1) := by decide +kernel
theorem dX11_anArticle_27 : decode cX11_anArticle 27 = .ok (.ldc 177, 2) := by decide +kernel
theorem dX11_anArticle_29 : decode cX11_anArticle 29 = .ok (.bipush 11, 2) := by decide +kernel
theorem dX11_anArticle_31 : decode cX11_anArticle 31 = .ok (.invokevirtual 199, 3) := by decide +kernel
theorem dX11_anArticle_34 : decode cX11_anArticle 34 = .ok (.ifCond .eq 14, 3) := by decide +kernel
theorem dX11_anArticle_37 : decode cX11_anArticle 37 = .ok (.aload_n 0, 1) := by decide +kernel
theorem dX11_anArticle_38 : decode cX11_anArticle 38 = .ok (.iload_n 1, 1) := by decide +kernel
theorem dX11_anArticle_39 : decode cX11_anArticle 39 = .ok (.iconst 1, 1) := by decide +kernel
theorem dX11_anArticle_40 : decode cX11_anArticle 40 = .ok (.bipush 30, 2) := by decide +kernel
theorem dX11_anArticle_42 : decode cX11_anArticle 42 = .ok (.invokevirtual 193, 3) := by decide +kernel
theorem dX11_anArticle_45 : decode cX11_anArticle 45 = .ok (.ifCond .ne 5, 3) := by decide +kernel
theorem dX11_anArticle_48 : decode cX11_anArticle 48 = .ok (.iconst 0, 1) := by decide +kernel
theorem dX11_anArticle_49 : decode cX11_anArticle 49 = .ok (.ireturn, 1) := by decide +kernel
theorem dX11_anArticle_50 : decode cX11_anArticle 50 = .ok (.aload_n 0, 1) := by decide +kernel
theorem dX11_anArticle_51 : decode cX11_anArticle 51 = .ok (.getfield 7, 3) := by decide +kernel
theorem dX11_anArticle_54 : decode cX11_anArticle 54 = .ok (.iload_n 1, 1) := by decide +kernel
theorem dX11_anArticle_55 : decode cX11_anArticle 55 = .ok (.iconst 1, 1) := by decide +kernel
theorem dX11_anArticle_56 : decode cX11_anArticle 56 = .ok (.iadd, 1) := by decide +kernel
theorem dX11_anArticle_57 : decode cX11_anArticle 57 = .ok (.bipush 16, 2) := by decide +kernel
theorem dX11_anArticle_59 : decode cX11_anArticle 59 = .ok (.iastore, 1) := by decide +kernel
theorem dX11_anArticle_60 : decode cX11_anArticle 60 = .ok (.aload_n 0, 1) := by decide +kernel
theorem dX11_anArticle_61 : decode cX11_anArticle 61 = .ok (.bipush 12, 2) := by decide +kernel
theorem dX11_anArticle_63 : decode cX11_anArticle 63 = .ok (.invokevirtual 190, 3) := by decide +kernel
theorem dX11_anArticle_66 : decode cX11_anArticle 66 = .ok (.ifCond .eq 18, 3) := by decide +kernel
theorem dX11_anArticle_69 : decode cX11_anArticle 69 = .ok (.aload_n 0, 1) := by decide +kernel
theorem dX11_anArticle_70 : decode cX11_anArticle 70 = .ok (.iload_n 1, 1) := by decide +kernel
theorem dX11_anArticle_71 : decode cX11_anArticle 71 = .ok (.iconst 1, 1) := by decide +kernel
theorem dX11_anArticle_72 : decode cX11_anArticle 72 = .ok (.iadd, 1) := by decide +kernel
theorem dX11_anArticle_73 : decode cX11_anArticle 73 = .ok (.iconst 0, 1) := by decide +kernel
theorem dX11_anArticle_74 : decode cX11_anArticle 74 = .ok (.bipush 16, 2) := by decide +kernel
theorem dX11_anArticle_76 : decode cX11_anArticle 76 = .ok (.invokevirtual 193, 3) := by decide +kernel
theorem dX11_anArticle_79 : decode cX11_anArticle 79 = .ok (.ifCond .ne 5, 3) := by decide +kernel
theorem dX11_anArticle_82 : decode cX11_anArticle 82 = .ok (.iconst 0, 1) := by decide +kernel
theorem dX11_anArticle_83 : decode cX11_anArticle 83 = .ok (.ireturn, 1) := by decide +kernel
theorem dX11_anArticle_84 : decode cX11_anArticle 84 = .ok (.aload_n 0, 1) := by decide +kernel
theorem dX11_anArticle_85 : decode cX11_anArticle 85 = .ok (.ldc 177, 2) := by decide +kernel
theorem dX11_anArticle_87 : decode cX11_anArticle 87 = .ok (.invokevirtual 179, 3) := by decide +kernel
theorem dX11_anArticle_90 : decode cX11_anArticle 90 = .ok (.ifCond .eq 72, 3) := by decide +kernel
theorem dX11_anArticle_93 : decode cX11_anArticle 93 = .ok (.aload_n 0, 1) := by decide +kernel
theorem dX11_anArticle_94 : decode cX11_anArticle 94 = .ok (.bipush 57, 2) := by decide +kernel
theorem dX11_anArticle_96 : decode cX11_anArticle 96 = .ok (.aload_n 0, 1) := by decide +kernel
theorem dX11_anArticle_97 : decode cX11_anArticle 97 = .ok (.getfield 7, 3) := by decide +kernel
theorem dX11_anArticle_100 : decode cX11_anArticle 100 = .ok (.sipush 2027, 3) := by decide +kernel
theorem dX11_anArticle_103 : decode cX11_anArticle 103 = .ok (.iaload, 1) := by decide +kernel
theorem dX11_anArticle_104 : decode cX11_anArticle 104 = .ok (.invokevirtual 183, 3) := by decide +kernel
theorem dX11_anArticle_107 : decode cX11_anArticle 107 = .ok (.istore_n 2, 1) := by decide +kernel
theorem dX11_anArticle_108 : decode cX11_anArticle 108 = .ok (.iload_n 2, 1) := by decide +kernel
theorem dX11_anArticle_109 : decode cX11_anArticle 109 = .ok (.iconst (-1), 1) := by decide +kernel
theorem dX11_anArticle_110 : decode cX11_anArticle 110 = .ok (.if_icmp .ne 9, 3) := by decide +kernel
theorem dX11_anArticle_113 : decode cX11_anArticle 113 = .ok (.aload_n 0, 1) := by decide +kernel
theorem dX11_anArticle_114 : decode cX11_anArticle 114 = .ok (.iconst 3, 1) := by decide +kernel
theorem dX11_anArticle_115 : decode cX11_anArticle 115 = .ok (.invokevirtual 166, 3) := by decide +kernel
theorem dX11_anArticle_118 : decode cX11_anArticle 118 = .ok (.ireturn, 1) := by decide +kernel
theorem dX11_anArticle_119 : decode cX11_anArticle 119 = .ok (.aload_n 0, 1) := by decide +kernel
theorem dX11_anArticle_120 : decode cX11_anArticle 120 = .ok (.getfield 7, 3) := by decide +kernel
theorem dX11_anArticle_123 : decode cX11_anArticle 123 = .ok (.iload_n 1, 1) := by decide +kernel
theorem dX11_anArticle_124 : decode cX11_anArticle 124 = .ok (.iconst 2, 1) := by decide +kernel
theorem dX11_anArticle_125 : decode cX11_anArticle 125 = .ok (.iadd, 1) := by decide +kernel
theorem dX11_anArticle_126 : decode cX11_anArticle 126 = .ok (.iaload, 1) := by decide +kernel
theorem dX11_anArticle_127 : decode cX11_anArticle 127 = .ok (.iload_n 2, 1) := by decide +kernel
theorem dX11_anArticle_128 : decode cX11_anArticle 128 = .ok (.ishr, 1) := by decide +kernel
theorem dX11_anArticle_129 : decode cX11_anArticle 129 = .ok (.iconst 1, 1) := by decide +kernel
theorem dX11_anArticle_130 : decode cX11_anArticle 130 = .ok (.iand, 1) := by decide +kernel
theorem dX11_anArticle_131 : decode cX11_anArticle 131 = .ok (.iconst 1, 1) := by decide +kernel
theorem dX11_anArticle_132 : decode cX11_anArticle 132 = .ok (.if_icmp .ne 9, 3) := by decide +kernel
theorem dX11_anArticle_135 : decode cX11_anArticle 135 = .ok (.aload_n 0, 1) := by decide +kernel
theorem dX11_anArticle_136 : decode cX11_anArticle 136 = .ok (.iconst 5, 1) := by decide +kernel
theorem dX11_anArticle_137 : decode cX11_anArticle 137 = .ok (.invokevirtual 166, 3) := by decide +kernel
theorem dX11_anArticle_140 : decode cX11_anArticle 140 = .ok (.ireturn, 1) := by decide +kernel
theorem dX11_anArticle_141 : decode cX11_anArticle 141 = .ok (.aload_n 0, 1) := by decide +kernel
theorem dX11_anArticle_142 : decode cX11_anArticle 142 = .ok (.getfield 7, 3) := by decide +kernel
theorem dX11_anArticle_145 : decode cX11_anArticle 145 = .ok (.iload_n 1, 1) := by decide +kernel
theorem dX11_anArticle_146 : decode cX11_anArticle 146 = .ok (.iconst 2, 1) := by decide +kernel
theorem dX11_anArticle_147 : decode cX11_anArticle 147 = .ok (.iadd, 1) := by decide +kernel
theorem dX11_anArticle_148 : decode cX11_anArticle 148 = .ok (.dup2, 1) := by decide +kernel
theorem dX11_anArticle_149 : decode cX11_anArticle 149 = .ok (.iaload, 1) := by decide +kernel
theorem dX11_anArticle_150 : decode cX11_anArticle 150 = .ok (.iconst 1, 1) := by decide +kernel
theorem dX11_anArticle_151 : decode cX11_anArticle 151 = .ok (.iload_n 2, 1) := by decide +kernel
theorem dX11_anArticle_152 : decode cX11_anArticle 152 = .ok (.ishl, 1) := by decide +kernel
theorem dX11_anArticle_153 : decode cX11_anArticle 153 = .ok (.ior, 1) := by decide +kernel
theorem dX11_anArticle_154 : decode cX11_anArticle 154 = .ok (.iastore, 1) := by decide +kernel
theorem dX11_anArticle_155 : decode cX11_anArticle 155 = .ok (.aload_n 0, 1) := by decide +kernel
theorem dX11_anArticle_156 : decode cX11_anArticle 156 = .ok (.invokevirtual 160, 3) := by decide +kernel
theorem dX11_anArticle_159 : decode cX11_anArticle 159 = .ok (.goto (-75), 3) := by decide +kernel
theorem dX11_anArticle_162 : decode cX11_anArticle 162 = .ok (.aload_n 0, 1) := by decide +kernel
theorem dX11_anArticle_163 : decode cX11_anArticle 163 = .ok (.getfield 7, 3) := by decide +kernel
theorem dX11_anArticle_166 : decode cX11_anArticle 166 = .ok (.sipush 2027, 3) := by decide +kernel
theorem dX11_anArticle_169 : decode cX11_anArticle 169 = .ok (.dup2, 1) := by decide +kernel
theorem dX11_anArticle_170 : decode cX11_anArticle 170 = .ok (.iaload, 1) := by decide +kernel
theorem dX11_anArticle_171 : decode cX11_anArticle 171 = .ok (.iconst 1, 1) := by decide +kernel
theorem dX11_anArticle_172 : decode cX11_anArticle 172 = .ok (.iadd, 1) := by decide +kernel
theorem dX11_anArticle_173 : decode cX11_anArticle 173 = .ok (.iastore, 1) := by decide +kernel
theorem dX11_anArticle_174 : decode cX11_anArticle 174 = .ok (.iconst 1, 1) := by decide +kernel
theorem dX11_anArticle_175 : decode cX11_anArticle 175 = .ok (.ireturn, 1) := by decide +kernel
set_option maxHeartbeats 4000000 in
set_option maxRecDepth 100000 in
theorem ctX11_anArticle  {σ : jq_M} {res : Int} {σ' : jq_M}  (h : X11_anArticle σ = some (res, σ')) : jq_MC jq_zM yX11_anArticle cX11_anArticle 3 (some .boolean) 8 195 [jR 0] σ (some (jI res)) σ' := by
  refine jq_met (own := RX11) (L0 := [(0, jR 0)]) (by decide) rfl rfl rfl ?_
  intro X Γ hnl hlY hRT
  refine jq_use2 (P := fun r => jq_RT jq_zM X (some .boolean) (some (jI r.1)) r.2) ?_ h hRT
  intro K0 hK0
  unfold X11_anArticle
  have hj84_0 : ∀ (j16 : Int) (s17 : jq_M), jq_J (X11_anArticle_j84 j16 s17) K0 (jq_V jq_zM X (jq_zN jq_zM) s17 84 [(0, jR 0), (1, jI j16)] []) := by
    intro j16 s17
    unfold X11_anArticle_j84
    refine jq_loop2 (C := fun (t18 : jq_M) => jq_V jq_zM X (jq_zN jq_zM) t18 84 [(0, jR 0), (1, jI j16)] []) (KX := Sum.elim (fun (e28 : jq_M) => jq_V jq_zM X (jq_zN jq_zM) e28 113 [(0, jR 0)] []) (Sum.elim (fun (e32 : jq_M) => jq_V jq_zM X (jq_zN jq_zM) e32 135 [(0, jR 0)] []) (fun (e36 : jq_M) => jq_V jq_zM X (jq_zN jq_zM) e36 162 [(0, jR 0)] []))) ?_ ?_ s17
    · intro K84_t18 hCt18 hXt18 t18
      unfold X11_anArticle_b84
      refine jq_aload_n Γ dX11_anArticle_84 rfl 0 rfl (jq_at_0 at_M_0) ?_
      refine jq_ldcS Γ dX11_anArticle_85 rfl rfl ?_
      refine jq_cpZ (jq_virt (avs := [jT 0]) (st := []) Γ hlY rfl ml_RX11_179 rfl at_M_0 rfl rfl rfl rfl rfl dX11_anArticle_87) rfl (fun r h => ctX11_isName h) (fun v19 hz20 => ?_)
      refine jq_if_eq (tgt := 162) Γ dX11_anArticle_90 rfl ?_ ?_
      · refine jq_sub Γ (L' := [(0, jR 0)]) [0] rfl ?_
        exact jq_done (hXt18 (.inr (.inr t18)))
      · refine jq_aload_n Γ dX11_anArticle_93 rfl 0 rfl (jq_at_0 at_M_0) ?_
        refine jq_bipush Γ dX11_anArticle_94 rfl ?_
        refine jq_aload_n Γ dX11_anArticle_96 rfl 0 rfl (jq_at_0 at_M_0) ?_
        refine jq_getR (v := 1) Γ hlY at_M_0 fl_RX11_7 rfl rfl ly_X11_at dX11_anArticle_97 ?_
        refine jq_sipush Γ dX11_anArticle_100 rfl ?_
        refine jq_iald Γ at_M_1 rfl dX11_anArticle_103 (fun v21 => ?_)
        refine jq_cpI (jq_virt (avs := [jI 57, jI v21]) (st := []) Γ hlY rfl ml_RX11_183 rfl at_M_0 rfl rfl rfl rfl rfl dX11_anArticle_104) (fun r h => ctX11_findHere h) (fun v22 => ?_)
        refine jq_istore_n (L' := [(2, jI v22), (0, jR 0), (1, jI j16)]) Γ dX11_anArticle_107 rfl hnl rfl rfl ?_
        refine jq_iload_n Γ dX11_anArticle_108 rfl 0 rfl ?_
        refine jq_iconst Γ dX11_anArticle_109 rfl ?_
        refine jq_icmp_ne (tgt := 119) Γ dX11_anArticle_110 rfl ?_ ?_
        · refine jq_aload_n Γ dX11_anArticle_119 rfl 1 rfl (jq_at_0 at_M_0) ?_
          refine jq_getR (v := 1) Γ hlY at_M_0 fl_RX11_7 rfl rfl ly_X11_at dX11_anArticle_120 ?_
          refine jq_iload_n Γ dX11_anArticle_123 rfl 2 rfl ?_
          refine jq_iconst Γ dX11_anArticle_124 rfl ?_
          refine jq_iadd Γ dX11_anArticle_125 ?_
          refine jq_iald Γ at_M_1 rfl dX11_anArticle_126 (fun v23 => ?_)
          refine jq_iload_n Γ dX11_anArticle_127 rfl 0 rfl ?_
          refine jq_ishr Γ dX11_anArticle_128 ?_
          refine jq_iconst Γ dX11_anArticle_129 rfl ?_
          refine jq_iand Γ dX11_anArticle_130 ?_
          refine jq_iconst Γ dX11_anArticle_131 rfl ?_
          refine jq_icmp_ne (tgt := 141) Γ dX11_anArticle_132 rfl ?_ ?_
          · refine jq_aload_n Γ dX11_anArticle_141 rfl 1 rfl (jq_at_0 at_M_0) ?_
            refine jq_getR (v := 1) Γ hlY at_M_0 fl_RX11_7 rfl rfl ly_X11_at dX11_anArticle_142 ?_
            refine jq_iload_n Γ dX11_anArticle_145 rfl 2 rfl ?_
            refine jq_iconst Γ dX11_anArticle_146 rfl ?_
            refine jq_iadd Γ dX11_anArticle_147 ?_
            refine jq_nmI (fun v24 => ?_)
            refine jq_dup2 Γ dX11_anArticle_148 rfl rfl ?_
            refine jq_iald Γ at_M_1 rfl dX11_anArticle_149 (fun v25 => ?_)
            refine jq_iconst Γ dX11_anArticle_150 rfl ?_
            refine jq_iload_n Γ dX11_anArticle_151 rfl 0 rfl ?_
            refine jq_ishl Γ dX11_anArticle_152 ?_
            refine jq_ior Γ dX11_anArticle_153 ?_
            refine jq_iast Γ at_M_1 rfl dX11_anArticle_154 (fun s26 => ?_)
            refine jq_aload_n Γ dX11_anArticle_155 rfl 1 rfl (jq_at_0 at_M_0) ?_
            refine jq_cwV (jq_virt (avs := []) (st := []) Γ hlY rfl ml_RX11_160 rfl at_M_0 rfl rfl rfl rfl rfl dX11_anArticle_156) (fun σ' h => ctX11_ahead h) (fun s27 => ?_)
            refine jq_goto Γ (tgt := 84) dX11_anArticle_159 rfl ?_
            refine jq_sub Γ (L' := [(0, jR 0), (1, jI j16)]) [1, 2] rfl ?_
            exact jq_done (hCt18 s27)
          · refine jq_sub Γ (L' := [(0, jR 0)]) [1] rfl ?_
            exact jq_done (hXt18 (.inr (.inl t18)))
        · refine jq_sub Γ (L' := [(0, jR 0)]) [1] rfl ?_
          exact jq_done (hXt18 (.inl t18))
    · refine jq_elim ?_ ?_
      · intro e28
        refine jq_aload_n Γ dX11_anArticle_113 rfl 0 rfl (jq_at_0 at_M_0) ?_
        refine jq_iconst Γ dX11_anArticle_114 rfl ?_
        refine jq_cwZ (jq_virt (avs := [jI 3]) (st := []) Γ hlY rfl ml_RX11_166 rfl at_M_0 rfl rfl rfl rfl rfl dX11_anArticle_115) rfl (fun r σ' h => ctX11_fails h) (fun v29 s30 hz31 => ?_)
        exact jq_zreturn Γ (hz31) dX11_anArticle_118 (hK0 _)
      · refine jq_elim ?_ ?_
        · intro e32
          refine jq_aload_n Γ dX11_anArticle_135 rfl 0 rfl (jq_at_0 at_M_0) ?_
          refine jq_iconst Γ dX11_anArticle_136 rfl ?_
          refine jq_cwZ (jq_virt (avs := [jI 5]) (st := []) Γ hlY rfl ml_RX11_166 rfl at_M_0 rfl rfl rfl rfl rfl dX11_anArticle_137) rfl (fun r σ' h => ctX11_fails h) (fun v33 s34 hz35 => ?_)
          exact jq_zreturn Γ (hz35) dX11_anArticle_140 (hK0 _)
        · intro e36
          refine jq_aload_n Γ dX11_anArticle_162 rfl 0 rfl (jq_at_0 at_M_0) ?_
          refine jq_getR (v := 1) Γ hlY at_M_0 fl_RX11_7 rfl rfl ly_X11_at dX11_anArticle_163 ?_
          refine jq_sipush Γ dX11_anArticle_166 rfl ?_
          refine jq_dup2 Γ dX11_anArticle_169 rfl rfl ?_
          refine jq_iald Γ at_M_1 rfl dX11_anArticle_170 (fun v37 => ?_)
          refine jq_iconst Γ dX11_anArticle_171 rfl ?_
          refine jq_iadd Γ dX11_anArticle_172 ?_
          refine jq_iast Γ at_M_1 rfl dX11_anArticle_173 (fun s38 => ?_)
          refine jq_iconst Γ dX11_anArticle_174 rfl ?_
          exact jq_zreturn Γ (Or.inr rfl) dX11_anArticle_175 (hK0 _)
  refine jq_sipush Γ dX11_anArticle_0 rfl ?_
  refine jq_iconst Γ dX11_anArticle_3 rfl ?_
  refine jq_aload_n Γ dX11_anArticle_4 rfl 0 rfl (jq_at_0 at_M_0) ?_
  refine jq_getR (v := 1) Γ hlY at_M_0 fl_RX11_7 rfl rfl ly_X11_at dX11_anArticle_5 ?_
  refine jq_sipush Γ dX11_anArticle_8 rfl ?_
  refine jq_iald Γ at_M_1 rfl dX11_anArticle_11 (fun v1 => ?_)
  refine jq_imul Γ dX11_anArticle_12 ?_
  refine jq_iadd Γ dX11_anArticle_13 ?_
  refine jq_nmI (fun v2 => ?_)
  refine jq_istore_n (L' := [(1, jI v2), (0, jR 0)]) Γ dX11_anArticle_14 rfl hnl rfl rfl ?_
  refine jq_aload_n Γ dX11_anArticle_15 rfl 1 rfl (jq_at_0 at_M_0) ?_
  refine jq_iconst Γ dX11_anArticle_16 rfl ?_
  refine jq_bipush Γ dX11_anArticle_17 rfl ?_
  refine jq_iconst Γ dX11_anArticle_19 rfl ?_
  refine jq_cwZ (jq_virt (avs := [jI 3, jI 8, jI 5]) (st := []) Γ hlY rfl ml_RX11_186 rfl at_M_0 rfl rfl rfl rfl rfl dX11_anArticle_20) rfl (fun r σ' h => ctX11_newOne h) (fun v3 s4 hz5 => ?_)
  refine jq_if_eq (tgt := 48) Γ dX11_anArticle_23 rfl ?_ ?_
  · refine jq_iconst Γ dX11_anArticle_48 rfl ?_
    exact jq_zreturn Γ (Or.inl rfl) dX11_anArticle_49 (hK0 _)
  · refine jq_aload_n Γ dX11_anArticle_26 rfl 1 rfl (jq_at_0 at_M_0) ?_
    refine jq_ldcS Γ dX11_anArticle_27 rfl rfl ?_
    refine jq_bipush Γ dX11_anArticle_29 rfl ?_
    refine jq_cwZ (jq_virt (avs := [jT 0, jI 11]) (st := []) Γ hlY rfl ml_RX11_199 rfl at_M_0 rfl rfl rfl rfl rfl dX11_anArticle_31) rfl (fun r σ' h => ctX11_wantWord h) (fun v6 s7 hz8 => ?_)
    refine jq_if_eq (tgt := 48) Γ dX11_anArticle_34 rfl ?_ ?_
    · refine jq_iconst Γ dX11_anArticle_48 rfl ?_
      exact jq_zreturn Γ (Or.inl rfl) dX11_anArticle_49 (hK0 _)
    · refine jq_aload_n Γ dX11_anArticle_37 rfl 1 rfl (jq_at_0 at_M_0) ?_
      refine jq_iload_n Γ dX11_anArticle_38 rfl 0 rfl ?_
      refine jq_iconst Γ dX11_anArticle_39 rfl ?_
      refine jq_bipush Γ dX11_anArticle_40 rfl ?_
      refine jq_cwZ (jq_virt (avs := [jI v2, jI 1, jI 30]) (st := []) Γ hlY rfl ml_RX11_193 rfl at_M_0 rfl rfl rfl rfl rfl dX11_anArticle_42) rfl (fun r σ' h => ctX11_number h) (fun v9 s10 hz11 => ?_)
      refine jq_if_ne (tgt := 50) Γ dX11_anArticle_45 rfl ?_ ?_
      · refine jq_aload_n Γ dX11_anArticle_50 rfl 1 rfl (jq_at_0 at_M_0) ?_
        refine jq_getR (v := 1) Γ hlY at_M_0 fl_RX11_7 rfl rfl ly_X11_at dX11_anArticle_51 ?_
        refine jq_iload_n Γ dX11_anArticle_54 rfl 0 rfl ?_
        refine jq_iconst Γ dX11_anArticle_55 rfl ?_
        refine jq_iadd Γ dX11_anArticle_56 ?_
        refine jq_bipush Γ dX11_anArticle_57 rfl ?_
        refine jq_iast Γ at_M_1 rfl dX11_anArticle_59 (fun s12 => ?_)
        refine jq_aload_n Γ dX11_anArticle_60 rfl 1 rfl (jq_at_0 at_M_0) ?_
        refine jq_bipush Γ dX11_anArticle_61 rfl ?_
        refine jq_cwZ (jq_virt (avs := [jI 12]) (st := []) Γ hlY rfl ml_RX11_190 rfl at_M_0 rfl rfl rfl rfl rfl dX11_anArticle_63) rfl (fun r σ' h => ctX11_isThere h) (fun v13 s14 hz15 => ?_)
        refine jq_if_eq (tgt := 84) Γ dX11_anArticle_66 rfl ?_ ?_
        · refine jq_sub Γ (L' := [(0, jR 0), (1, jI v2)]) [1, 0] rfl ?_
          exact hj84_0 v2 s14
        · refine jq_aload_n Γ dX11_anArticle_69 rfl 1 rfl (jq_at_0 at_M_0) ?_
          refine jq_iload_n Γ dX11_anArticle_70 rfl 0 rfl ?_
          refine jq_iconst Γ dX11_anArticle_71 rfl ?_
          refine jq_iadd Γ dX11_anArticle_72 ?_
          refine jq_iconst Γ dX11_anArticle_73 rfl ?_
          refine jq_bipush Γ dX11_anArticle_74 rfl ?_
          refine jq_cwZ (jq_virt (avs := [jI (jq_w (v2 + 1)), jI 0, jI 16]) (st := []) Γ hlY rfl ml_RX11_193 rfl at_M_0 rfl rfl rfl rfl rfl dX11_anArticle_76) rfl (fun r σ' h => ctX11_number h) (fun v39 s40 hz41 => ?_)
          refine jq_if_ne (tgt := 84) Γ dX11_anArticle_79 rfl ?_ ?_
          · refine jq_sub Γ (L' := [(0, jR 0), (1, jI v2)]) [1, 0] rfl ?_
            exact hj84_0 v2 s40
          · refine jq_iconst Γ dX11_anArticle_82 rfl ?_
            exact jq_zreturn Γ (Or.inl rfl) dX11_anArticle_83 (hK0 _)
      · refine jq_iconst Γ dX11_anArticle_48 rfl ?_
        exact jq_zreturn Γ (Or.inl rfl) dX11_anArticle_49 (hK0 _)


theorem dX11_committeePart_0 : decode cX11_committeePart 0 = .ok (.aload_n 0, 1) := by decide +kernel
theorem dX11_committeePart_1 : decode cX11_committeePart 1 = .ok (.ldc 177, 2) := by decide +kernel
theorem dX11_committeePart_3 : decode cX11_committeePart 3 = .ok (.invokevirtual 169, 3) := by decide +kernel
theorem dX11_committeePart_6 : decode cX11_committeePart 6 = .ok (.istore_n 1, 1) := by decide +kernel
theorem dX11_committeePart_7 : decode cX11_committeePart 7 = .ok (.iload_n 1, 1) := by decide +kernel
theorem dX11_committeePart_8 : decode cX11_committeePart 8 = .ok (.ifCond .lt 29, 3) := by decide +kernel
theorem dX11_committeePart_11 : decode cX11_committeePart 11 = .ok (.iload_n 1, 1) := by decide +kernel
theorem dX11_committeePart_12 : decode cX11_committeePart 12 = .ok (.iconst 5, 1) := by decide +kernel
theorem dX11_committeePart_13 : decode cX11_committeePart 13 = .ok (.if_icmp .gt 24, 3) := by decide +kernel
theorem dX11_committeePart_16 : decode cX11_committeePart 16 = .ok (.iload_n 1, 1) := by decide +kernel
theorem dX11_committeePart_17 : decode cX11_committeePart 17 = .ok (.iconst 1, 1) := by decide +kernel
theorem dX11_committeePart_18 : decode cX11_committeePart 18 = .ok (.if_icmp .eq 8, 3) := by decide +kernel
theorem dX11_committeePart_21 : decode cX11_committeePart 21 = .ok (.iload_n 1, 1) := by decide +kernel
theorem dX11_committeePart_22 : decode cX11_committeePart 22 = .ok (.iconst 2, 1) := by decide +kernel
theorem dX11_committeePart_23 : decode cX11_committeePart 23 = .ok (.if_icmp .ne 20, 3) := by decide +kernel
theorem dX11_committeePart_26 : decode cX11_committeePart 26 = .ok (.aload_n 0, 1) := by decide +kernel
theorem dX11_committeePart_27 : decode cX11_committeePart 27 = .ok (.getfield 7, 3) := by decide +kernel
theorem dX11_committeePart_30 : decode cX11_committeePart 30 = .ok (.sipush 2024, 3) := by decide +kernel
theorem dX11_committeePart_33 : decode cX11_committeePart 33 = .ok (.iaload, 1) := by decide +kernel
theorem dX11_committeePart_34 : decode cX11_committeePart 34 = .ok (.ifCond .ne 9, 3) := by decide +kernel
theorem dX11_committeePart_37 : decode cX11_committeePart 37 = .ok (.aload_n 0, 1) := by decide +kernel
theorem dX11_committeePart_38 : decode cX11_committeePart 38 = .ok (.iconst 2, 1) := by decide +kernel
theorem dX11_committeePart_39 : decode cX11_committeePart 39 = .ok (.invokevirtual 166, 3) := by decide +kernel
theorem dX11_committeePart_42 : decode cX11_committeePart 42 = .ok (.ireturn, 1) := by decide +kernel
theorem dX11_committeePart_43 : decode cX11_committeePart 43 = .ok (.iload_n 1, 1) := by decide +kernel
theorem dX11_committeePart_44 : decode cX11_committeePart 44 = .ok (.tableswitch 148 0 4 #[36, 71, 122, 130, 139], 36) := by decide +kernel
theorem dX11_committeePart_80 : decode cX11_committeePart 80 = .ok (.aload_n 0, 1) := by decide +kernel
theorem dX11_committeePart_81 : decode cX11_committeePart 81 = .ok (.getfield 7, 3) := by decide +kernel
theorem dX11_committeePart_84 : decode cX11_committeePart 84 = .ok (.sipush 2024, 3) := by decide +kernel
theorem dX11_committeePart_87 : decode cX11_committeePart 87 = .ok (.iaload, 1) := by decide +kernel
theorem dX11_committeePart_88 : decode cX11_committeePart 88 = .ok (.ifCond .le 9, 3) := by decide +kernel
theorem dX11_committeePart_91 : decode cX11_committeePart 91 = .ok (.aload_n 0, 1) := by decide +kernel
theorem dX11_committeePart_92 : decode cX11_committeePart 92 = .ok (.iconst 5, 1) := by decide +kernel
theorem dX11_committeePart_93 : decode cX11_committeePart 93 = .ok (.invokevirtual 166, 3) := by decide +kernel
theorem dX11_committeePart_96 : decode cX11_committeePart 96 = .ok (.ireturn, 1) := by decide +kernel
theorem dX11_committeePart_97 : decode cX11_committeePart 97 = .ok (.aload_n 0, 1) := by decide +kernel
theorem dX11_committeePart_98 : decode cX11_committeePart 98 = .ok (.invokevirtual 160, 3) := by decide +kernel
theorem dX11_committeePart_101 : decode cX11_committeePart 101 = .ok (.aload_n 0, 1) := by decide +kernel
theorem dX11_committeePart_102 : decode cX11_committeePart 102 = .ok (.sipush 2024, 3) := by decide +kernel
theorem dX11_committeePart_105 : decode cX11_committeePart 105 = .ok (.iconst 3, 1) := by decide +kernel
theorem dX11_committeePart_106 : decode cX11_committeePart 106 = .ok (.bipush 6, 2) := by decide +kernel
theorem dX11_committeePart_108 : decode cX11_committeePart 108 = .ok (.invokevirtual 193, 3) := by decide +kernel
theorem dX11_committeePart_111 : decode cX11_committeePart 111 = .ok (.istore_n 2, 1) := by decide +kernel
theorem dX11_committeePart_112 : decode cX11_committeePart 112 = .ok (.goto 85, 3) := by decide +kernel
theorem dX11_committeePart_115 : decode cX11_committeePart 115 = .ok (.aload_n 0, 1) := by decide +kernel
theorem dX11_committeePart_116 : decode cX11_committeePart 116 = .ok (.invokevirtual 160, 3) := by decide +kernel
theorem dX11_committeePart_119 : decode cX11_committeePart 119 = .ok (.aload_n 0, 1) := by decide +kernel
theorem dX11_committeePart_120 : decode cX11_committeePart 120 = .ok (.sipush 2522, 3) := by decide +kernel
theorem dX11_committeePart_123 : decode cX11_committeePart 123 = .ok (.iconst 0, 1) := by decide +kernel
theorem dX11_committeePart_124 : decode cX11_committeePart 124 = .ok (.aload_n 0, 1) := by decide +kernel
theorem dX11_committeePart_125 : decode cX11_committeePart 125 = .ok (.getfield 7, 3) := by decide +kernel
theorem dX11_committeePart_128 : decode cX11_committeePart 128 = .ok (.sipush 2024, 3) := by decide +kernel
theorem dX11_committeePart_131 : decode cX11_committeePart 131 = .ok (.iaload, 1) := by decide +kernel
theorem dX11_committeePart_132 : decode cX11_committeePart 132 = .ok (.iconst 1, 1) := by decide +kernel
theorem dX11_committeePart_133 : decode cX11_committeePart 133 = .ok (.isub, 1) := by decide +kernel
theorem dX11_committeePart_134 : decode cX11_committeePart 134 = .ok (.invokevirtual 193, 3) := by decide +kernel
theorem dX11_committeePart_137 : decode cX11_committeePart 137 = .ok (.istore_n 2, 1) := by decide +kernel
theorem dX11_committeePart_138 : decode cX11_committeePart 138 = .ok (.iload_n 2, 1) := by decide +kernel
theorem dX11_committeePart_139 : decode cX11_committeePart 139 = .ok (.ifCond .eq 58, 3) := by decide +kernel
theorem dX11_committeePart_142 : decode cX11_committeePart 142 = .ok (.aload_n 0, 1) := by decide +kernel
theorem dX11_committeePart_143 : decode cX11_committeePart 143 = .ok (.getfield 7, 3) := by decide +kernel
theorem dX11_committeePart_146 : decode cX11_committeePart 146 = .ok (.sipush 2029, 3) := by decide +kernel
theorem dX11_committeePart_149 : decode cX11_committeePart 149 = .ok (.dup2, 1) := by decide +kernel
theorem dX11_committeePart_150 : decode cX11_committeePart 150 = .ok (.iaload, 1) := by decide +kernel
theorem dX11_committeePart_151 : decode cX11_committeePart 151 = .ok (.iconst 1, 1) := by decide +kernel
theorem dX11_committeePart_152 : decode cX11_committeePart 152 = .ok (.aload_n 0, 1) := by decide +kernel
theorem dX11_committeePart_153 : decode cX11_committeePart 153 = .ok (.getfield 7, 3) := by decide +kernel
theorem dX11_committeePart_156 : decode cX11_committeePart 156 = .ok (.sipush 2522, 3) := by decide +kernel
theorem dX11_committeePart_159 : decode cX11_committeePart 159 = .ok (.iaload, 1) := by decide +kernel
theorem dX11_committeePart_160 : decode cX11_committeePart 160 = .ok (.ishl, 1) := by decide +kernel
theorem dX11_committeePart_161 : decode cX11_committeePart 161 = .ok (.ior, 1) := by decide +kernel
theorem dX11_committeePart_162 : decode cX11_committeePart 162 = .ok (.iastore, 1) := by decide +kernel
theorem dX11_committeePart_163 : decode cX11_committeePart 163 = .ok (.goto 34, 3) := by decide +kernel
theorem dX11_committeePart_166 : decode cX11_committeePart 166 = .ok (.aload_n 0, 1) := by decide +kernel
theorem dX11_committeePart_167 : decode cX11_committeePart 167 = .ok (.invokevirtual 203, 3) := by decide +kernel
theorem dX11_committeePart_170 : decode cX11_committeePart 170 = .ok (.istore_n 2, 1) := by decide +kernel
theorem dX11_committeePart_171 : decode cX11_committeePart 171 = .ok (.goto 26, 3) := by decide +kernel
theorem dX11_committeePart_174 : decode cX11_committeePart 174 = .ok (.aload_n 0, 1) := by decide +kernel
theorem dX11_committeePart_175 : decode cX11_committeePart 175 = .ok (.iconst 1, 1) := by decide +kernel
theorem dX11_committeePart_176 : decode cX11_committeePart 176 = .ok (.invokevirtual 207, 3) := by decide +kernel
theorem dX11_committeePart_179 : decode cX11_committeePart 179 = .ok (.istore_n 2, 1) := by decide +kernel
theorem dX11_committeePart_180 : decode cX11_committeePart 180 = .ok (.goto 17, 3) := by decide +kernel
theorem dX11_committeePart_183 : decode cX11_committeePart 183 = .ok (.aload_n 0, 1) := by decide +kernel
theorem dX11_committeePart_184 : decode cX11_committeePart 184 = .ok (.iconst 0, 1) := by decide +kernel
theorem dX11_committeePart_185 : decode cX11_committeePart 185 = .ok (.invokevirtual 207, 3) := by decide +kernel
theorem dX11_committeePart_188 : decode cX11_committeePart 188 = .ok (.istore_n 2, 1) := by decide +kernel
theorem dX11_committeePart_189 : decode cX11_committeePart 189 = .ok (.goto 8, 3) := by decide +kernel
theorem dX11_committeePart_192 : decode cX11_committeePart 192 = .ok (.aload_n 0, 1) := by decide +kernel
theorem dX11_committeePart_193 : decode cX11_committeePart 193 = .ok (.invokevirtual 211, 3) := by decide +kernel
theorem dX11_committeePart_196 : decode cX11_committeePart 196 = .ok (.istore_n 2, 1) := by decide +kernel
theorem dX11_committeePart_197 : decode cX11_committeePart 197 = .ok (.iload_n 2, 1) := by decide +kernel
theorem dX11_committeePart_198 : decode cX11_committeePart 198 = .ok (.ifCond .eq 16, 3) := by decide +kernel
theorem dX11_committeePart_201 : decode cX11_committeePart 201 = .ok (.aload_n 0, 1) := by decide +kernel
theorem dX11_committeePart_202 : decode cX11_committeePart 202 = .ok (.bipush 59, 2) := by decide +kernel
theorem dX11_committeePart_204 : decode cX11_committeePart 204 = .ok (.invokevirtual 214, 3) := by decide +kernel
theorem dX11_committeePart_207 : decode cX11_committeePart 207 = .ok (.ifCond .eq 7, 3) := by decide +kernel
theorem dX11_committeePart_210 : decode cX11_committeePart 210 = .ok (.iconst 1, 1) := by decide +kernel
theorem dX11_committeePart_211 : decode cX11_committeePart 211 = .ok (.goto 4, 3) := by decide +kernel
theorem dX11_committeePart_214 : decode cX11_committeePart 214 = .ok (.iconst 0, 1) := by decide +kernel
theorem dX11_committeePart_215 : decode cX11_committeePart 215 = .ok (.ireturn, 1) := by decide +kernel
set_option maxHeartbeats 4000000 in
set_option maxRecDepth 100000 in
theorem ctX11_committeePart  {σ : jq_M} {res : Int} {σ' : jq_M}  (h : X11_committeePart σ = some (res, σ')) : jq_MC jq_zM yX11_committeePart cX11_committeePart 3 (some .boolean) 9 217 [jR 0] σ (some (jI res)) σ' := by
  refine jq_met (own := RX11) (L0 := [(0, jR 0)]) (by decide) rfl rfl rfl ?_
  intro X Γ hnl hlY hRT
  refine jq_use2 (P := fun r => jq_RT jq_zM X (some .boolean) (some (jI r.1)) r.2) ?_ h hRT
  intro K0 hK0
  unfold X11_committeePart
  have hj37_0 : ∀ (s2 : jq_M), jq_J (X11_committeePart_j37 s2) K0 (jq_V jq_zM X (jq_zN jq_zM) s2 37 [(0, jR 0)] []) := by
    intro s2
    unfold X11_committeePart_j37
    refine jq_aload_n Γ dX11_committeePart_37 rfl 0 rfl (jq_at_0 at_M_0) ?_
    refine jq_iconst Γ dX11_committeePart_38 rfl ?_
    refine jq_cwZ (jq_virt (avs := [jI 2]) (st := []) Γ hlY rfl ml_RX11_166 rfl at_M_0 rfl rfl rfl rfl rfl dX11_committeePart_39) rfl (fun r σ' h => ctX11_fails h) (fun v3 s4 hz5 => ?_)
    exact jq_zreturn Γ (hz5) dX11_committeePart_42 (hK0 _)
  have hj197_0 : ∀ (j17 : Int) (s18 : jq_M), jq_J (X11_committeePart_j197 j17 s18) K0 (jq_V jq_zM X (jq_zN jq_zM) s18 197 [(0, jR 0), (2, jI j17)] []) := by
    intro j17 s18
    unfold X11_committeePart_j197
    refine jq_iload_n Γ dX11_committeePart_197 rfl 1 rfl ?_
    refine jq_if_eq (tgt := 214) Γ dX11_committeePart_198 rfl ?_ ?_
    · refine jq_iconst Γ dX11_committeePart_214 rfl ?_
      exact jq_zreturn Γ (Or.inl rfl) dX11_committeePart_215 (hK0 _)
    · refine jq_aload_n Γ dX11_committeePart_201 rfl 0 rfl (jq_at_0 at_M_0) ?_
      refine jq_bipush Γ dX11_committeePart_202 rfl ?_
      refine jq_cwZ (jq_virt (avs := [jI 59]) (st := []) Γ hlY rfl ml_RX11_214 rfl at_M_0 rfl rfl rfl rfl rfl dX11_committeePart_204) rfl (fun r σ' h => ctX11_wantSign h) (fun v19 s20 hz21 => ?_)
      refine jq_if_eq (tgt := 214) Γ dX11_committeePart_207 rfl ?_ ?_
      · refine jq_iconst Γ dX11_committeePart_214 rfl ?_
        exact jq_zreturn Γ (Or.inl rfl) dX11_committeePart_215 (hK0 _)
      · refine jq_iconst Γ dX11_committeePart_210 rfl ?_
        refine jq_goto Γ (tgt := 215) dX11_committeePart_211 rfl ?_
        exact jq_zreturn Γ (Or.inr rfl) dX11_committeePart_215 (hK0 _)
  have hj43_0 : ∀ (j9 : Int) (s10 : jq_M), jq_J (X11_committeePart_j43 j9 s10) K0 (jq_V jq_zM X (jq_zN jq_zM) s10 43 [(0, jR 0), (1, jI j9)] []) := by
    intro j9 s10
    unfold X11_committeePart_j43
    refine jq_iload_n Γ dX11_committeePart_43 rfl 1 rfl ?_
    refine jq_split (fun hc11 => ?_) (fun hn0_44 => ?_)
    · refine jq_tabIn (tgt := 80) Γ dX11_committeePart_44 hc11 rfl rfl rfl ?_
      refine jq_aload_n Γ dX11_committeePart_80 rfl 0 rfl (jq_at_0 at_M_0) ?_
      refine jq_getR (v := 1) Γ hlY at_M_0 fl_RX11_7 rfl rfl ly_X11_at dX11_committeePart_81 ?_
      refine jq_sipush Γ dX11_committeePart_84 rfl ?_
      refine jq_iald Γ at_M_1 rfl dX11_committeePart_87 (fun v12 => ?_)
      refine jq_if_le (tgt := 97) Γ dX11_committeePart_88 rfl ?_ ?_
      · refine jq_aload_n Γ dX11_committeePart_97 rfl 0 rfl (jq_at_0 at_M_0) ?_
        refine jq_cwV (jq_virt (avs := []) (st := []) Γ hlY rfl ml_RX11_160 rfl at_M_0 rfl rfl rfl rfl rfl dX11_committeePart_98) (fun σ' h => ctX11_ahead h) (fun s13 => ?_)
        refine jq_aload_n Γ dX11_committeePart_101 rfl 0 rfl (jq_at_0 at_M_0) ?_
        refine jq_sipush Γ dX11_committeePart_102 rfl ?_
        refine jq_iconst Γ dX11_committeePart_105 rfl ?_
        refine jq_bipush Γ dX11_committeePart_106 rfl ?_
        refine jq_cwZ (jq_virt (avs := [jI 2024, jI 3, jI 6]) (st := []) Γ hlY rfl ml_RX11_193 rfl at_M_0 rfl rfl rfl rfl rfl dX11_committeePart_108) rfl (fun r σ' h => ctX11_number h) (fun v14 s15 hz16 => ?_)
        refine jq_istore_n (L' := [(2, jI v14), (0, jR 0), (1, jI j9)]) Γ dX11_committeePart_111 rfl hnl rfl rfl ?_
        refine jq_goto Γ (tgt := 197) dX11_committeePart_112 rfl ?_
        refine jq_sub Γ (L' := [(0, jR 0), (2, jI v14)]) [1, 0] rfl ?_
        exact hj197_0 v14 s15
      · refine jq_aload_n Γ dX11_committeePart_91 rfl 0 rfl (jq_at_0 at_M_0) ?_
        refine jq_iconst Γ dX11_committeePart_92 rfl ?_
        refine jq_cwZ (jq_virt (avs := [jI 5]) (st := []) Γ hlY rfl ml_RX11_166 rfl at_M_0 rfl rfl rfl rfl rfl dX11_committeePart_93) rfl (fun r σ' h => ctX11_fails h) (fun v22 s23 hz24 => ?_)
        exact jq_zreturn Γ (hz24) dX11_committeePart_96 (hK0 _)
    · refine jq_split (fun hc25 => ?_) (fun hn1_44 => ?_)
      · refine jq_tabIn (tgt := 115) Γ dX11_committeePart_44 hc25 rfl rfl rfl ?_
        refine jq_aload_n Γ dX11_committeePart_115 rfl 0 rfl (jq_at_0 at_M_0) ?_
        refine jq_cwV (jq_virt (avs := []) (st := []) Γ hlY rfl ml_RX11_160 rfl at_M_0 rfl rfl rfl rfl rfl dX11_committeePart_116) (fun σ' h => ctX11_ahead h) (fun s26 => ?_)
        refine jq_aload_n Γ dX11_committeePart_119 rfl 0 rfl (jq_at_0 at_M_0) ?_
        refine jq_sipush Γ dX11_committeePart_120 rfl ?_
        refine jq_iconst Γ dX11_committeePart_123 rfl ?_
        refine jq_aload_n Γ dX11_committeePart_124 rfl 0 rfl (jq_at_0 at_M_0) ?_
        refine jq_getR (v := 1) Γ hlY at_M_0 fl_RX11_7 rfl rfl ly_X11_at dX11_committeePart_125 ?_
        refine jq_sipush Γ dX11_committeePart_128 rfl ?_
        refine jq_iald Γ at_M_1 rfl dX11_committeePart_131 (fun v27 => ?_)
        refine jq_iconst Γ dX11_committeePart_132 rfl ?_
        refine jq_isub Γ dX11_committeePart_133 ?_
        refine jq_cwZ (jq_virt (avs := [jI 2522, jI 0, jI (jq_w (v27 - 1))]) (st := []) Γ hlY rfl ml_RX11_193 rfl at_M_0 rfl rfl rfl rfl rfl dX11_committeePart_134) rfl (fun r σ' h => ctX11_number h) (fun v28 s29 hz30 => ?_)
        refine jq_istore_n (L' := [(2, jI v28), (0, jR 0), (1, jI j9)]) Γ dX11_committeePart_137 rfl hnl rfl rfl ?_
        refine jq_iload_n Γ dX11_committeePart_138 rfl 0 rfl ?_
        refine jq_if_eq (tgt := 197) Γ dX11_committeePart_139 rfl ?_ ?_
        · refine jq_sub Γ (L' := [(0, jR 0), (2, jI v28)]) [1, 0] rfl ?_
          exact hj197_0 v28 s29
        · refine jq_aload_n Γ dX11_committeePart_142 rfl 1 rfl (jq_at_0 at_M_0) ?_
          refine jq_getR (v := 1) Γ hlY at_M_0 fl_RX11_7 rfl rfl ly_X11_at dX11_committeePart_143 ?_
          refine jq_sipush Γ dX11_committeePart_146 rfl ?_
          refine jq_dup2 Γ dX11_committeePart_149 rfl rfl ?_
          refine jq_iald Γ at_M_1 rfl dX11_committeePart_150 (fun v31 => ?_)
          refine jq_iconst Γ dX11_committeePart_151 rfl ?_
          refine jq_aload_n Γ dX11_committeePart_152 rfl 1 rfl (jq_at_0 at_M_0) ?_
          refine jq_getR (v := 1) Γ hlY at_M_0 fl_RX11_7 rfl rfl ly_X11_at dX11_committeePart_153 ?_
          refine jq_sipush Γ dX11_committeePart_156 rfl ?_
          refine jq_iald Γ at_M_1 rfl dX11_committeePart_159 (fun v32 => ?_)
          refine jq_ishl Γ dX11_committeePart_160 ?_
          refine jq_ior Γ dX11_committeePart_161 ?_
          refine jq_iast Γ at_M_1 rfl dX11_committeePart_162 (fun s33 => ?_)
          refine jq_goto Γ (tgt := 197) dX11_committeePart_163 rfl ?_
          refine jq_sub Γ (L' := [(0, jR 0), (2, jI v28)]) [1, 0] rfl ?_
          exact hj197_0 v28 s33
      · refine jq_split (fun hc34 => ?_) (fun hn2_44 => ?_)
        · refine jq_tabIn (tgt := 166) Γ dX11_committeePart_44 hc34 rfl rfl rfl ?_
          refine jq_aload_n Γ dX11_committeePart_166 rfl 0 rfl (jq_at_0 at_M_0) ?_
          refine jq_cwZ (jq_virt (avs := []) (st := []) Γ hlY rfl ml_RX11_203 rfl at_M_0 rfl rfl rfl rfl rfl dX11_committeePart_167) rfl (fun r σ' h => ctX11_aParty h) (fun v35 s36 hz37 => ?_)
          refine jq_istore_n (L' := [(2, jI v35), (0, jR 0), (1, jI j9)]) Γ dX11_committeePart_170 rfl hnl rfl rfl ?_
          refine jq_goto Γ (tgt := 197) dX11_committeePart_171 rfl ?_
          refine jq_sub Γ (L' := [(0, jR 0), (2, jI v35)]) [1, 0] rfl ?_
          exact hj197_0 v35 s36
        · refine jq_split (fun hc38 => ?_) (fun hn3_44 => ?_)
          · refine jq_tabIn (tgt := 174) Γ dX11_committeePart_44 hc38 rfl rfl rfl ?_
            refine jq_aload_n Γ dX11_committeePart_174 rfl 0 rfl (jq_at_0 at_M_0) ?_
            refine jq_iconst Γ dX11_committeePart_175 rfl ?_
            refine jq_cwZ (jq_virt (avs := [jI 1]) (st := []) Γ hlY rfl ml_RX11_207 rfl at_M_0 rfl rfl rfl rfl rfl dX11_committeePart_176) rfl (fun r σ' h => ctX11_aWish h) (fun v39 s40 hz41 => ?_)
            refine jq_istore_n (L' := [(2, jI v39), (0, jR 0), (1, jI j9)]) Γ dX11_committeePart_179 rfl hnl rfl rfl ?_
            refine jq_goto Γ (tgt := 197) dX11_committeePart_180 rfl ?_
            refine jq_sub Γ (L' := [(0, jR 0), (2, jI v39)]) [1, 0] rfl ?_
            exact hj197_0 v39 s40
          · refine jq_split (fun hc42 => ?_) (fun hn4_44 => ?_)
            · refine jq_tabIn (tgt := 183) Γ dX11_committeePart_44 hc42 rfl rfl rfl ?_
              refine jq_aload_n Γ dX11_committeePart_183 rfl 0 rfl (jq_at_0 at_M_0) ?_
              refine jq_iconst Γ dX11_committeePart_184 rfl ?_
              refine jq_cwZ (jq_virt (avs := [jI 0]) (st := []) Γ hlY rfl ml_RX11_207 rfl at_M_0 rfl rfl rfl rfl rfl dX11_committeePart_185) rfl (fun r σ' h => ctX11_aWish h) (fun v43 s44 hz45 => ?_)
              refine jq_istore_n (L' := [(2, jI v43), (0, jR 0), (1, jI j9)]) Γ dX11_committeePart_188 rfl hnl rfl rfl ?_
              refine jq_goto Γ (tgt := 197) dX11_committeePart_189 rfl ?_
              refine jq_sub Γ (L' := [(0, jR 0), (2, jI v43)]) [1, 0] rfl ?_
              exact hj197_0 v43 s44
            · refine jq_tabOut (tgt := 192) Γ dX11_committeePart_44 (by omega) rfl ?_
              refine jq_aload_n Γ dX11_committeePart_192 rfl 0 rfl (jq_at_0 at_M_0) ?_
              refine jq_cwZ (jq_virt (avs := []) (st := []) Γ hlY rfl ml_RX11_211 rfl at_M_0 rfl rfl rfl rfl rfl dX11_committeePart_193) rfl (fun r σ' h => ctX11_anArticle h) (fun v46 s47 hz48 => ?_)
              refine jq_istore_n (L' := [(2, jI v46), (0, jR 0), (1, jI j9)]) Γ dX11_committeePart_196 rfl hnl rfl rfl ?_
              refine jq_sub Γ (L' := [(0, jR 0), (2, jI v46)]) [1, 0] rfl ?_
              exact hj197_0 v46 s47
  have hj26_0 : ∀ (j6 : Int) (s7 : jq_M), jq_J (X11_committeePart_j26 j6 s7) K0 (jq_V jq_zM X (jq_zN jq_zM) s7 26 [(0, jR 0), (1, jI j6)] []) := by
    intro j6 s7
    unfold X11_committeePart_j26
    refine jq_aload_n Γ dX11_committeePart_26 rfl 0 rfl (jq_at_0 at_M_0) ?_
    refine jq_getR (v := 1) Γ hlY at_M_0 fl_RX11_7 rfl rfl ly_X11_at dX11_committeePart_27 ?_
    refine jq_sipush Γ dX11_committeePart_30 rfl ?_
    refine jq_iald Γ at_M_1 rfl dX11_committeePart_33 (fun v8 => ?_)
    refine jq_if_ne (tgt := 43) Γ dX11_committeePart_34 rfl ?_ ?_
    · exact hj43_0 j6 s7
    · refine jq_sub Γ (L' := [(0, jR 0)]) [0] rfl ?_
      exact hj37_0 s7
  refine jq_aload_n Γ dX11_committeePart_0 rfl 0 rfl (jq_at_0 at_M_0) ?_
  refine jq_ldcS Γ dX11_committeePart_1 rfl rfl ?_
  refine jq_cpI (jq_virt (avs := [jT 0]) (st := []) Γ hlY rfl ml_RX11_169 rfl at_M_0 rfl rfl rfl rfl rfl dX11_committeePart_3) (fun r h => ctX11_inWords h) (fun v1 => ?_)
  refine jq_istore_n (L' := [(1, jI v1), (0, jR 0)]) Γ dX11_committeePart_6 rfl hnl rfl rfl ?_
  refine jq_iload_n Γ dX11_committeePart_7 rfl 0 rfl ?_
  refine jq_if_lt (tgt := 37) Γ dX11_committeePart_8 rfl ?_ ?_
  · refine jq_sub Γ (L' := [(0, jR 0)]) [1] rfl ?_
    exact hj37_0 σ
  · refine jq_iload_n Γ dX11_committeePart_11 rfl 0 rfl ?_
    refine jq_iconst Γ dX11_committeePart_12 rfl ?_
    refine jq_icmp_gt (tgt := 37) Γ dX11_committeePart_13 rfl ?_ ?_
    · refine jq_sub Γ (L' := [(0, jR 0)]) [1] rfl ?_
      exact hj37_0 σ
    · refine jq_iload_n Γ dX11_committeePart_16 rfl 0 rfl ?_
      refine jq_iconst Γ dX11_committeePart_17 rfl ?_
      refine jq_icmp_eq (tgt := 26) Γ dX11_committeePart_18 rfl ?_ ?_
      · refine jq_sub Γ (L' := [(0, jR 0), (1, jI v1)]) [1, 0] rfl ?_
        exact hj26_0 v1 σ
      · refine jq_iload_n Γ dX11_committeePart_21 rfl 0 rfl ?_
        refine jq_iconst Γ dX11_committeePart_22 rfl ?_
        refine jq_icmp_ne (tgt := 43) Γ dX11_committeePart_23 rfl ?_ ?_
        · refine jq_sub Γ (L' := [(0, jR 0), (1, jI v1)]) [1, 0] rfl ?_
          exact hj43_0 v1 σ
        · refine jq_sub Γ (L' := [(0, jR 0), (1, jI v1)]) [1, 0] rfl ?_
          exact hj26_0 v1 σ


theorem dX11_committee_0 : decode cX11_committee 0 = .ok (.aload_n 0, 1) := by decide +kernel
theorem dX11_committee_1 : decode cX11_committee 1 = .ok (.iload_n 1, 1) := by decide +kernel
theorem dX11_committee_2 : decode cX11_committee 2 = .ok (.sipush 900, 3) := by decide +kernel
theorem dX11_committee_5 : decode cX11_committee 5 = .ok (.invokevirtual 217, 3) := by decide +kernel
theorem dX11_committee_8 : decode cX11_committee 8 = .ok (.ifCond .ne 9, 3) := by decide +kernel
theorem dX11_committee_11 : decode cX11_committee 11 = .ok (.aload_n 0, 1) := by decide +kernel
theorem dX11_committee_12 : decode cX11_committee 12 = .ok (.iconst 1, 1) := by decide +kernel
theorem dX11_committee_13 : decode cX11_committee 13 = .ok (.invokevirtual 84, 3) := by decide +kernel
theorem dX11_committee_16 : decode cX11_committee 16 = .ok (.ireturn, 1) := by decide +kernel
theorem dX11_committee_17 : decode cX11_committee 17 = .ok (.aload_n 0, 1) := by decide +kernel
theorem dX11_committee_18 : decode cX11_committee 18 = .ok (.sipush 2024, 3) := by decide +kernel
theorem dX11_committee_21 : decode cX11_committee 21 = .ok (.invokevirtual 74, 3) := by decide +kernel
theorem dX11_committee_24 : decode cX11_committee 24 = .ok (.iconst 1, 1) := by decide +kernel
theorem dX11_committee_25 : decode cX11_committee 25 = .ok (.istore_n 2, 1) := by decide +kernel
theorem dX11_committee_26 : decode cX11_committee 26 = .ok (.iload_n 2, 1) := by decide +kernel
theorem dX11_committee_27 : decode cX11_committee 27 = .ok (.ifCond .eq 18, 3) := by decide +kernel
theorem dX11_committee_30 : decode cX11_committee 30 = .ok (.aload_n 0, 1) := by decide +kernel
theorem dX11_committee_31 : decode cX11_committee 31 = .ok (.getfield 129, 3) := by decide +kernel
theorem dX11_committee_34 : decode cX11_committee 34 = .ok (.ifCond .eq 11, 3) := by decide +kernel
theorem dX11_committee_37 : decode cX11_committee 37 = .ok (.aload_n 0, 1) := by decide +kernel
theorem dX11_committee_38 : decode cX11_committee 38 = .ok (.invokevirtual 221, 3) := by decide +kernel
theorem dX11_committee_41 : decode cX11_committee 41 = .ok (.istore_n 2, 1) := by decide +kernel
theorem dX11_committee_42 : decode cX11_committee 42 = .ok (.goto (-16), 3) := by decide +kernel
theorem dX11_committee_45 : decode cX11_committee 45 = .ok (.aload_n 0, 1) := by decide +kernel
theorem dX11_committee_46 : decode cX11_committee 46 = .ok (.getfield 154, 3) := by decide +kernel
theorem dX11_committee_49 : decode cX11_committee 49 = .ok (.ifCond .ne 63, 3) := by decide +kernel
theorem dX11_committee_52 : decode cX11_committee 52 = .ok (.iconst 0, 1) := by decide +kernel
theorem dX11_committee_53 : decode cX11_committee 53 = .ok (.istore_n 3, 1) := by decide +kernel
theorem dX11_committee_54 : decode cX11_committee 54 = .ok (.iload_n 3, 1) := by decide +kernel
theorem dX11_committee_55 : decode cX11_committee 55 = .ok (.sipush 506, 3) := by decide +kernel
theorem dX11_committee_58 : decode cX11_committee 58 = .ok (.if_icmp .ge 25, 3) := by decide +kernel
theorem dX11_committee_61 : decode cX11_committee 61 = .ok (.aload_n 0, 1) := by decide +kernel
theorem dX11_committee_62 : decode cX11_committee 62 = .ok (.getfield 7, 3) := by decide +kernel
theorem dX11_committee_65 : decode cX11_committee 65 = .ok (.iload_n 3, 1) := by decide +kernel
theorem dX11_committee_66 : decode cX11_committee 66 = .ok (.aload_n 0, 1) := by decide +kernel
theorem dX11_committee_67 : decode cX11_committee 67 = .ok (.getfield 7, 3) := by decide +kernel
theorem dX11_committee_70 : decode cX11_committee 70 = .ok (.sipush 2024, 3) := by decide +kernel
theorem dX11_committee_73 : decode cX11_committee 73 = .ok (.iload_n 3, 1) := by decide +kernel
theorem dX11_committee_74 : decode cX11_committee 74 = .ok (.iadd, 1) := by decide +kernel
theorem dX11_committee_75 : decode cX11_committee 75 = .ok (.iaload, 1) := by decide +kernel
theorem dX11_committee_76 : decode cX11_committee 76 = .ok (.iastore, 1) := by decide +kernel
theorem dX11_committee_77 : decode cX11_committee 77 = .ok (.iinc 3 1, 3) := by decide +kernel
theorem dX11_committee_80 : decode cX11_committee 80 = .ok (.goto (-26), 3) := by decide +kernel
theorem dX11_committee_83 : decode cX11_committee 83 = .ok (.iconst 0, 1) := by decide +kernel
theorem dX11_committee_84 : decode cX11_committee 84 = .ok (.istore_n 3, 1) := by decide +kernel
theorem dX11_committee_85 : decode cX11_committee 85 = .ok (.iload_n 3, 1) := by decide +kernel
theorem dX11_committee_86 : decode cX11_committee 86 = .ok (.bipush 13, 2) := by decide +kernel
theorem dX11_committee_88 : decode cX11_committee 88 = .ok (.if_icmp .ge 24, 3) := by decide +kernel
theorem dX11_committee_91 : decode cX11_committee 91 = .ok (.aload_n 0, 1) := by decide +kernel
theorem dX11_committee_92 : decode cX11_committee 92 = .ok (.getfield 13, 3) := by decide +kernel
theorem dX11_committee_95 : decode cX11_committee 95 = .ok (.iload_n 3, 1) := by decide +kernel
theorem dX11_committee_96 : decode cX11_committee 96 = .ok (.aload_n 0, 1) := by decide +kernel
theorem dX11_committee_97 : decode cX11_committee 97 = .ok (.getfield 13, 3) := by decide +kernel
theorem dX11_committee_100 : decode cX11_committee 100 = .ok (.bipush 52, 2) := by decide +kernel
theorem dX11_committee_102 : decode cX11_committee 102 = .ok (.iload_n 3, 1) := by decide +kernel
theorem dX11_committee_103 : decode cX11_committee 103 = .ok (.iadd, 1) := by decide +kernel
theorem dX11_committee_104 : decode cX11_committee 104 = .ok (.laload, 1) := by decide +kernel
theorem dX11_committee_105 : decode cX11_committee 105 = .ok (.lastore, 1) := by decide +kernel
theorem dX11_committee_106 : decode cX11_committee 106 = .ok (.iinc 3 1, 3) := by decide +kernel
theorem dX11_committee_109 : decode cX11_committee 109 = .ok (.goto (-24), 3) := by decide +kernel
theorem dX11_committee_112 : decode cX11_committee 112 = .ok (.aload_n 0, 1) := by decide +kernel
theorem dX11_committee_113 : decode cX11_committee 113 = .ok (.aload_n 0, 1) := by decide +kernel
theorem dX11_committee_114 : decode cX11_committee 114 = .ok (.getfield 7, 3) := by decide +kernel
theorem dX11_committee_117 : decode cX11_committee 117 = .ok (.iconst 2, 1) := by decide +kernel
theorem dX11_committee_118 : decode cX11_committee 118 = .ok (.iaload, 1) := by decide +kernel
theorem dX11_committee_119 : decode cX11_committee 119 = .ok (.invokevirtual 224, 3) := by decide +kernel
theorem dX11_committee_122 : decode cX11_committee 122 = .ok (.ireturn, 1) := by decide +kernel
set_option maxHeartbeats 4000000 in
set_option maxRecDepth 100000 in
theorem ctX11_committee {p1 : Int} {σ : jq_M} {res : Int} {σ' : jq_M}  (h : X11_committee p1 σ = some (res, σ')) : jq_MC jq_zM yX11_committee cX11_committee 4 (some .int) 10 239 [jR 0, jI p1] σ (some (jI res)) σ' := by
  refine jq_met (own := RX11) (L0 := [(0, jR 0), (1, jI p1)]) (by decide) rfl rfl rfl ?_
  intro X Γ hnl hlY hRT
  refine jq_use2 (P := fun r => jq_RT jq_zM X (some .int) (some (jI r.1)) r.2) ?_ h hRT
  intro K0 hK0
  unfold X11_committee
  have hj112_0 : ∀ (s11 : jq_M), jq_J (X11_committee_j112 s11) K0 (jq_V jq_zM X (jq_zN jq_zM) s11 112 [(0, jR 0)] []) := by
    intro s11
    unfold X11_committee_j112
    refine jq_aload_n Γ dX11_committee_112 rfl 0 rfl (jq_at_0 at_M_0) ?_
    refine jq_aload_n Γ dX11_committee_113 rfl 0 rfl (jq_at_0 at_M_0) ?_
    refine jq_getR (v := 1) Γ hlY at_M_0 fl_RX11_7 rfl rfl ly_X11_at dX11_committee_114 ?_
    refine jq_iconst Γ dX11_committee_117 rfl ?_
    refine jq_iald Γ at_M_1 rfl dX11_committee_118 (fun v12 => ?_)
    refine jq_cwI (jq_virt (avs := [jI v12]) (st := []) Γ hlY rfl ml_RX11_224 rfl at_M_0 rfl rfl rfl rfl rfl dX11_committee_119) (fun r σ' h => ctX11_taken h) (fun v13 s14 => ?_)
    exact jq_ireturn Γ dX11_committee_122 (hK0 _)
  have hj45_0 : ∀ (s10 : jq_M), jq_J (X11_committee_j45 s10) K0 (jq_V jq_zM X (jq_zN jq_zM) s10 45 [(0, jR 0)] []) := by
    intro s10
    unfold X11_committee_j45
    refine jq_aload_n Γ dX11_committee_45 rfl 0 rfl (jq_at_0 at_M_0) ?_
    refine jq_getI (J := 18) Γ at_M_0 fl_RX11_154 rfl rfl dX11_committee_46 ?_
    refine jq_if_ne (tgt := 112) Γ dX11_committee_49 rfl ?_ ?_
    · exact hj112_0 s10
    · refine jq_iconst Γ dX11_committee_52 rfl ?_
      refine jq_istore_n (L' := [(3, jI 0), (0, jR 0)]) Γ dX11_committee_53 rfl hnl rfl rfl ?_
      refine jq_sub Γ (L' := [(0, jR 0), (3, jI 0)]) [1, 0] rfl ?_
      refine jq_loop2 (C := fun (t15 : Int × jq_M) => jq_V jq_zM X (jq_zN jq_zM) t15.2 54 [(0, jR 0), (3, jI t15.1)] []) (KX := fun (e19 : jq_M) => jq_V jq_zM X (jq_zN jq_zM) e19 83 [(0, jR 0)] []) ?_ ?_ (0, s10)
      · intro K54_t15 hCt15 hXt15 t15
        unfold X11_committee_b54
        refine jq_iload_n Γ dX11_committee_54 rfl 1 rfl ?_
        refine jq_sipush Γ dX11_committee_55 rfl ?_
        refine jq_icmp_ge (tgt := 83) Γ dX11_committee_58 rfl ?_ ?_
        · refine jq_sub Γ (L' := [(0, jR 0)]) [0] rfl ?_
          exact jq_done (hXt15 t15.2)
        · refine jq_aload_n Γ dX11_committee_61 rfl 0 rfl (jq_at_0 at_M_0) ?_
          refine jq_getR (v := 1) Γ hlY at_M_0 fl_RX11_7 rfl rfl ly_X11_at dX11_committee_62 ?_
          refine jq_iload_n Γ dX11_committee_65 rfl 1 rfl ?_
          refine jq_aload_n Γ dX11_committee_66 rfl 0 rfl (jq_at_0 at_M_0) ?_
          refine jq_getR (v := 1) Γ hlY at_M_0 fl_RX11_7 rfl rfl ly_X11_at dX11_committee_67 ?_
          refine jq_sipush Γ dX11_committee_70 rfl ?_
          refine jq_iload_n Γ dX11_committee_73 rfl 1 rfl ?_
          refine jq_iadd Γ dX11_committee_74 ?_
          refine jq_iald Γ at_M_1 rfl dX11_committee_75 (fun v16 => ?_)
          refine jq_iast Γ at_M_1 rfl dX11_committee_76 (fun s17 => ?_)
          refine jq_iincN (L' := fun v18 => [(3, jI v18), (0, jR 0)]) Γ dX11_committee_77 1 rfl hnl rfl (fun _ => rfl) (fun v18 => ?_)
          refine jq_goto Γ (tgt := 54) dX11_committee_80 rfl ?_
          refine jq_sub Γ (L' := [(0, jR 0), (3, jI v18)]) [1, 0] rfl ?_
          exact jq_done (hCt15 (v18, s17))
      · intro e19
        refine jq_iconst Γ dX11_committee_83 rfl ?_
        refine jq_istore_n (L' := [(3, jI 0), (0, jR 0)]) Γ dX11_committee_84 rfl hnl rfl rfl ?_
        refine jq_sub Γ (L' := [(0, jR 0), (3, jI 0)]) [1, 0] rfl ?_
        refine jq_loop2 (C := fun (t20 : Int × jq_M) => jq_V jq_zM X (jq_zN jq_zM) t20.2 85 [(0, jR 0), (3, jI t20.1)] []) (KX := fun (e24 : jq_M) => jq_V jq_zM X (jq_zN jq_zM) e24 112 [(0, jR 0)] []) ?_ ?_ (0, e19)
        · intro K85_t20 hCt20 hXt20 t20
          unfold X11_committee_b85
          refine jq_iload_n Γ dX11_committee_85 rfl 1 rfl ?_
          refine jq_bipush Γ dX11_committee_86 rfl ?_
          refine jq_icmp_ge (tgt := 112) Γ dX11_committee_88 rfl ?_ ?_
          · refine jq_sub Γ (L' := [(0, jR 0)]) [0] rfl ?_
            exact jq_done (hXt20 t20.2)
          · refine jq_aload_n Γ dX11_committee_91 rfl 0 rfl (jq_at_0 at_M_0) ?_
            refine jq_getR (v := 2) Γ hlY at_M_0 fl_RX11_13 rfl rfl ly_X11_names dX11_committee_92 ?_
            refine jq_iload_n Γ dX11_committee_95 rfl 1 rfl ?_
            refine jq_aload_n Γ dX11_committee_96 rfl 0 rfl (jq_at_0 at_M_0) ?_
            refine jq_getR (v := 2) Γ hlY at_M_0 fl_RX11_13 rfl rfl ly_X11_names dX11_committee_97 ?_
            refine jq_bipush Γ dX11_committee_100 rfl ?_
            refine jq_iload_n Γ dX11_committee_102 rfl 1 rfl ?_
            refine jq_iadd Γ dX11_committee_103 ?_
            refine jq_lald Γ at_M_2 rfl dX11_committee_104 (fun v21 => ?_)
            refine jq_last Γ at_M_2 rfl dX11_committee_105 (fun s22 => ?_)
            refine jq_iincN (L' := fun v23 => [(3, jI v23), (0, jR 0)]) Γ dX11_committee_106 1 rfl hnl rfl (fun _ => rfl) (fun v23 => ?_)
            refine jq_goto Γ (tgt := 85) dX11_committee_109 rfl ?_
            refine jq_sub Γ (L' := [(0, jR 0), (3, jI v23)]) [1, 0] rfl ?_
            exact jq_done (hCt20 (v23, s22))
        · intro e24
          exact hj112_0 e24
  refine jq_aload_n Γ dX11_committee_0 rfl 0 rfl (jq_at_0 at_M_0) ?_
  refine jq_iload_n Γ dX11_committee_1 rfl 1 rfl ?_
  refine jq_sipush Γ dX11_committee_2 rfl ?_
  refine jq_cwZ (jq_virt (avs := [jI p1, jI 900]) (st := []) Γ hlY rfl ml_RX11_217 rfl at_M_0 rfl rfl rfl rfl rfl dX11_committee_5) rfl (fun r σ' h => ctX11_begins h) (fun v1 s2 hz3 => ?_)
  refine jq_if_ne (tgt := 17) Γ dX11_committee_8 rfl ?_ ?_
  · refine jq_aload_n Γ dX11_committee_17 rfl 0 rfl (jq_at_0 at_M_0) ?_
    refine jq_sipush Γ dX11_committee_18 rfl ?_
    refine jq_cwV (jq_virt (avs := [jI 2024]) (st := []) Γ hlY rfl ml_RX11_74 rfl at_M_0 rfl rfl rfl rfl rfl dX11_committee_21) (fun σ' h => ctX11_plain h) (fun s4 => ?_)
    refine jq_iconst Γ dX11_committee_24 rfl ?_
    refine jq_istore_n (L' := [(2, jI 1), (0, jR 0), (1, jI p1)]) Γ dX11_committee_25 rfl hnl rfl rfl ?_
    refine jq_sub Γ (L' := [(0, jR 0), (2, jI 1)]) [1, 0] rfl ?_
    refine jq_loop2 (C := fun (t5 : Int × jq_M) => jq_V jq_zM X (jq_zN jq_zM) t5.2 26 [(0, jR 0), (2, jI t5.1)] []) (KX := fun (e9 : jq_M) => jq_V jq_zM X (jq_zN jq_zM) e9 45 [(0, jR 0)] []) ?_ ?_ (1, s4)
    · intro K26_t5 hCt5 hXt5 t5
      unfold X11_committee_b26
      refine jq_iload_n Γ dX11_committee_26 rfl 1 rfl ?_
      refine jq_if_eq (tgt := 45) Γ dX11_committee_27 rfl ?_ ?_
      · refine jq_sub Γ (L' := [(0, jR 0)]) [0] rfl ?_
        exact jq_done (hXt5 t5.2)
      · refine jq_aload_n Γ dX11_committee_30 rfl 0 rfl (jq_at_0 at_M_0) ?_
        refine jq_getI (J := 12) Γ at_M_0 fl_RX11_129 rfl rfl dX11_committee_31 ?_
        refine jq_if_eq (tgt := 45) Γ dX11_committee_34 rfl ?_ ?_
        · refine jq_sub Γ (L' := [(0, jR 0)]) [0] rfl ?_
          exact jq_done (hXt5 t5.2)
        · refine jq_aload_n Γ dX11_committee_37 rfl 0 rfl (jq_at_0 at_M_0) ?_
          refine jq_cwZ (jq_virt (avs := []) (st := []) Γ hlY rfl ml_RX11_221 rfl at_M_0 rfl rfl rfl rfl rfl dX11_committee_38) rfl (fun r σ' h => ctX11_committeePart h) (fun v6 s7 hz8 => ?_)
          refine jq_istore_n (L' := [(2, jI v6), (0, jR 0)]) Γ dX11_committee_41 rfl hnl rfl rfl ?_
          refine jq_goto Γ (tgt := 26) dX11_committee_42 rfl ?_
          refine jq_sub Γ (L' := [(0, jR 0), (2, jI v6)]) [1, 0] rfl ?_
          exact jq_done (hCt5 (v6, s7))
    · intro e9
      exact hj45_0 e9
  · refine jq_aload_n Γ dX11_committee_11 rfl 0 rfl (jq_at_0 at_M_0) ?_
    refine jq_iconst Γ dX11_committee_12 rfl ?_
    refine jq_cwI (jq_virt (avs := [jI 1]) (st := []) Γ hlY rfl ml_RX11_84 rfl at_M_0 rfl rfl rfl rfl rfl dX11_committee_13) (fun r σ' h => ctX11_refuse h) (fun v25 s26 => ?_)
    exact jq_ireturn Γ dX11_committee_16 (hK0 _)


theorem dX11_oldOne_0 : decode cX11_oldOne 0 = .ok (.aload_n 0, 1) := by decide +kernel
theorem dX11_oldOne_1 : decode cX11_oldOne 1 = .ok (.ldc 177, 2) := by decide +kernel
theorem dX11_oldOne_3 : decode cX11_oldOne 3 = .ok (.invokevirtual 179, 3) := by decide +kernel
theorem dX11_oldOne_6 : decode cX11_oldOne 6 = .ok (.ifCond .ne 9, 3) := by decide +kernel
theorem dX11_oldOne_9 : decode cX11_oldOne 9 = .ok (.aload_n 0, 1) := by decide +kernel
theorem dX11_oldOne_10 : decode cX11_oldOne 10 = .ok (.iconst 2, 1) := by decide +kernel
theorem dX11_oldOne_11 : decode cX11_oldOne 11 = .ok (.invokevirtual 166, 3) := by decide +kernel
theorem dX11_oldOne_14 : decode cX11_oldOne 14 = .ok (.ireturn, 1) := by decide +kernel
theorem dX11_oldOne_15 : decode cX11_oldOne 15 = .ok (.aload_n 0, 1) := by decide +kernel
theorem dX11_oldOne_16 : decode cX11_oldOne 16 = .ok (.getfield 7, 3) := by decide +kernel
theorem dX11_oldOne_19 : decode cX11_oldOne 19 = .ok (.iload_n 3, 1) := by decide +kernel
theorem dX11_oldOne_20 : decode cX11_oldOne 20 = .ok (.aload_n 0, 1) := by decide +kernel
theorem dX11_oldOne_21 : decode cX11_oldOne 21 = .ok (.iload_n 1, 1) := by decide +kernel
theorem dX11_oldOne_22 : decode cX11_oldOne 22 = .ok (.iload_n 2, 1) := by decide +kernel
theorem dX11_oldOne_23 : decode cX11_oldOne 23 = .ok (.invokevirtual 183, 3) := by decide +kernel
theorem dX11_oldOne_26 : decode cX11_oldOne 26 = .ok (.iastore, 1) := by decide +kernel
theorem dX11_oldOne_27 : decode cX11_oldOne 27 = .ok (.aload_n 0, 1) := by decide +kernel
theorem dX11_oldOne_28 : decode cX11_oldOne 28 = .ok (.getfield 7, 3) := by decide +kernel
theorem dX11_oldOne_31 : decode cX11_oldOne 31 = .ok (.iload_n 3, 1) := by decide +kernel
theorem dX11_oldOne_32 : decode cX11_oldOne 32 = .ok (.iaload, 1) := by decide +kernel
theorem dX11_oldOne_33 : decode cX11_oldOne 33 = .ok (.iconst (-1), 1) := by decide +kernel
theorem dX11_oldOne_34 : decode cX11_oldOne 34 = .ok (.if_icmp .ne 9, 3) := by decide +kernel
theorem dX11_oldOne_37 : decode cX11_oldOne 37 = .ok (.aload_n 0, 1) := by decide +kernel
theorem dX11_oldOne_38 : decode cX11_oldOne 38 = .ok (.iconst 3, 1) := by decide +kernel
theorem dX11_oldOne_39 : decode cX11_oldOne 39 = .ok (.invokevirtual 166, 3) := by decide +kernel
theorem dX11_oldOne_42 : decode cX11_oldOne 42 = .ok (.ireturn, 1) := by decide +kernel
theorem dX11_oldOne_43 : decode cX11_oldOne 43 = .ok (.aload_n 0, 1) := by decide +kernel
theorem dX11_oldOne_44 : decode cX11_oldOne 44 = .ok (.invokevirtual 160, 3) := by decide +kernel
theorem dX11_oldOne_47 : decode cX11_oldOne 47 = .ok (.iconst 1, 1) := by decide +kernel
theorem dX11_oldOne_48 : decode cX11_oldOne 48 = .ok (.ireturn, 1) := by decide +kernel
set_option maxHeartbeats 4000000 in
set_option maxRecDepth 100000 in
theorem ctX11_oldOne {p1 : Int} {p2 : Int} {p3 : Int} {σ : jq_M} {res : Int} {σ' : jq_M}  (h : X11_oldOne p1 p2 p3 σ = some (res, σ')) : jq_MC jq_zM yX11_oldOne cX11_oldOne 4 (some .boolean) 7 172 [jR 0, jI p1, jI p2, jI p3] σ (some (jI res)) σ' := by
  refine jq_met (own := RX11) (L0 := [(0, jR 0), (1, jI p1), (2, jI p2), (3, jI p3)]) (by decide) rfl rfl rfl ?_
  intro X Γ hnl hlY hRT
  refine jq_use2 (P := fun r => jq_RT jq_zM X (some .boolean) (some (jI r.1)) r.2) ?_ h hRT
  intro K0 hK0
  unfold X11_oldOne
  refine jq_aload_n Γ dX11_oldOne_0 rfl 0 rfl (jq_at_0 at_M_0) ?_
  refine jq_ldcS Γ dX11_oldOne_1 rfl rfl ?_
  refine jq_cpZ (jq_virt (avs := [jT 0]) (st := []) Γ hlY rfl ml_RX11_179 rfl at_M_0 rfl rfl rfl rfl rfl dX11_oldOne_3) rfl (fun r h => ctX11_isName h) (fun v1 hz2 => ?_)
  refine jq_if_ne (tgt := 15) Γ dX11_oldOne_6 rfl ?_ ?_
  · refine jq_aload_n Γ dX11_oldOne_15 rfl 0 rfl (jq_at_0 at_M_0) ?_
    refine jq_getR (v := 1) Γ hlY at_M_0 fl_RX11_7 rfl rfl ly_X11_at dX11_oldOne_16 ?_
    refine jq_iload_n Γ dX11_oldOne_19 rfl 3 rfl ?_
    refine jq_aload_n Γ dX11_oldOne_20 rfl 0 rfl (jq_at_0 at_M_0) ?_
    refine jq_iload_n Γ dX11_oldOne_21 rfl 1 rfl ?_
    refine jq_iload_n Γ dX11_oldOne_22 rfl 2 rfl ?_
    refine jq_cpI (jq_virt (avs := [jI p1, jI p2]) (st := [jI p3, jR 1]) Γ hlY rfl ml_RX11_183 rfl at_M_0 rfl rfl rfl rfl rfl dX11_oldOne_23) (fun r h => ctX11_findHere h) (fun v3 => ?_)
    refine jq_iast Γ at_M_1 rfl dX11_oldOne_26 (fun s4 => ?_)
    refine jq_aload_n Γ dX11_oldOne_27 rfl 0 rfl (jq_at_0 at_M_0) ?_
    refine jq_getR (v := 1) Γ hlY at_M_0 fl_RX11_7 rfl rfl ly_X11_at dX11_oldOne_28 ?_
    refine jq_iload_n Γ dX11_oldOne_31 rfl 3 rfl ?_
    refine jq_iald Γ at_M_1 rfl dX11_oldOne_32 (fun v5 => ?_)
    refine jq_iconst Γ dX11_oldOne_33 rfl ?_
    refine jq_icmp_ne (tgt := 43) Γ dX11_oldOne_34 rfl ?_ ?_
    · refine jq_aload_n Γ dX11_oldOne_43 rfl 0 rfl (jq_at_0 at_M_0) ?_
      refine jq_cwV (jq_virt (avs := []) (st := []) Γ hlY rfl ml_RX11_160 rfl at_M_0 rfl rfl rfl rfl rfl dX11_oldOne_44) (fun σ' h => ctX11_ahead h) (fun s6 => ?_)
      refine jq_iconst Γ dX11_oldOne_47 rfl ?_
      exact jq_zreturn Γ (Or.inr rfl) dX11_oldOne_48 (hK0 _)
    · refine jq_aload_n Γ dX11_oldOne_37 rfl 0 rfl (jq_at_0 at_M_0) ?_
      refine jq_iconst Γ dX11_oldOne_38 rfl ?_
      refine jq_cwZ (jq_virt (avs := [jI 3]) (st := []) Γ hlY rfl ml_RX11_166 rfl at_M_0 rfl rfl rfl rfl rfl dX11_oldOne_39) rfl (fun r σ' h => ctX11_fails h) (fun v7 s8 hz9 => ?_)
      exact jq_zreturn Γ (hz9) dX11_oldOne_42 (hK0 _)
  · refine jq_aload_n Γ dX11_oldOne_9 rfl 0 rfl (jq_at_0 at_M_0) ?_
    refine jq_iconst Γ dX11_oldOne_10 rfl ?_
    refine jq_cwZ (jq_virt (avs := [jI 2]) (st := []) Γ hlY rfl ml_RX11_166 rfl at_M_0 rfl rfl rfl rfl rfl dX11_oldOne_11) rfl (fun r σ' h => ctX11_fails h) (fun v10 s11 hz12 => ?_)
    exact jq_zreturn Γ (hz12) dX11_oldOne_14 (hK0 _)


theorem dX11_oldParty_0 : decode cX11_oldParty 0 = .ok (.aload_n 0, 1) := by decide +kernel
theorem dX11_oldParty_1 : decode cX11_oldParty 1 = .ok (.iconst 0, 1) := by decide +kernel
theorem dX11_oldParty_2 : decode cX11_oldParty 2 = .ok (.aload_n 0, 1) := by decide +kernel
theorem dX11_oldParty_3 : decode cX11_oldParty 3 = .ok (.getfield 7, 3) := by decide +kernel
theorem dX11_oldParty_6 : decode cX11_oldParty 6 = .ok (.iconst 1, 1) := by decide +kernel
theorem dX11_oldParty_7 : decode cX11_oldParty 7 = .ok (.iaload, 1) := by decide +kernel
theorem dX11_oldParty_8 : decode cX11_oldParty 8 = .ok (.iload_n 1, 1) := by decide +kernel
theorem dX11_oldParty_9 : decode cX11_oldParty 9 = .ok (.invokevirtual 227, 3) := by decide +kernel
theorem dX11_oldParty_12 : decode cX11_oldParty 12 = .ok (.ireturn, 1) := by decide +kernel
set_option maxHeartbeats 4000000 in
set_option maxRecDepth 100000 in
theorem ctX11_oldParty {p1 : Int} {σ : jq_M} {res : Int} {σ' : jq_M}  (h : X11_oldParty p1 σ = some (res, σ')) : jq_MC jq_zM yX11_oldParty cX11_oldParty 2 (some .boolean) 8 195 [jR 0, jI p1] σ (some (jI res)) σ' := by
  refine jq_met (own := RX11) (L0 := [(0, jR 0), (1, jI p1)]) (by decide) rfl rfl rfl ?_
  intro X Γ hnl hlY hRT
  refine jq_use2 (P := fun r => jq_RT jq_zM X (some .boolean) (some (jI r.1)) r.2) ?_ h hRT
  intro K0 hK0
  unfold X11_oldParty
  refine jq_aload_n Γ dX11_oldParty_0 rfl 0 rfl (jq_at_0 at_M_0) ?_
  refine jq_iconst Γ dX11_oldParty_1 rfl ?_
  refine jq_aload_n Γ dX11_oldParty_2 rfl 0 rfl (jq_at_0 at_M_0) ?_
  refine jq_getR (v := 1) Γ hlY at_M_0 fl_RX11_7 rfl rfl ly_X11_at dX11_oldParty_3 ?_
  refine jq_iconst Γ dX11_oldParty_6 rfl ?_
  refine jq_iald Γ at_M_1 rfl dX11_oldParty_7 (fun v1 => ?_)
  refine jq_iload_n Γ dX11_oldParty_8 rfl 1 rfl ?_
  refine jq_cwZ (jq_virt (avs := [jI 0, jI v1, jI p1]) (st := []) Γ hlY rfl ml_RX11_227 rfl at_M_0 rfl rfl rfl rfl rfl dX11_oldParty_9) rfl (fun r σ' h => ctX11_oldOne h) (fun v2 s3 hz4 => ?_)
  exact jq_zreturn Γ (hz4) dX11_oldParty_12 (hK0 _)


theorem dX11_oldArticle_0 : decode cX11_oldArticle 0 = .ok (.aload_n 0, 1) := by decide +kernel
theorem dX11_oldArticle_1 : decode cX11_oldArticle 1 = .ok (.iconst 5, 1) := by decide +kernel
theorem dX11_oldArticle_2 : decode cX11_oldArticle 2 = .ok (.aload_n 0, 1) := by decide +kernel
theorem dX11_oldArticle_3 : decode cX11_oldArticle 3 = .ok (.getfield 7, 3) := by decide +kernel
theorem dX11_oldArticle_6 : decode cX11_oldArticle 6 = .ok (.iconst 3, 1) := by decide +kernel
theorem dX11_oldArticle_7 : decode cX11_oldArticle 7 = .ok (.iaload, 1) := by decide +kernel
theorem dX11_oldArticle_8 : decode cX11_oldArticle 8 = .ok (.iload_n 1, 1) := by decide +kernel
theorem dX11_oldArticle_9 : decode cX11_oldArticle 9 = .ok (.invokevirtual 227, 3) := by decide +kernel
theorem dX11_oldArticle_12 : decode cX11_oldArticle 12 = .ok (.ireturn, 1) := by decide +kernel
set_option maxHeartbeats 4000000 in
set_option maxRecDepth 100000 in
theorem ctX11_oldArticle {p1 : Int} {σ : jq_M} {res : Int} {σ' : jq_M}  (h : X11_oldArticle p1 σ = some (res, σ')) : jq_MC jq_zM yX11_oldArticle cX11_oldArticle 2 (some .boolean) 8 195 [jR 0, jI p1] σ (some (jI res)) σ' := by
  refine jq_met (own := RX11) (L0 := [(0, jR 0), (1, jI p1)]) (by decide) rfl rfl rfl ?_
  intro X Γ hnl hlY hRT
  refine jq_use2 (P := fun r => jq_RT jq_zM X (some .boolean) (some (jI r.1)) r.2) ?_ h hRT
  intro K0 hK0
  unfold X11_oldArticle
  refine jq_aload_n Γ dX11_oldArticle_0 rfl 0 rfl (jq_at_0 at_M_0) ?_
  refine jq_iconst Γ dX11_oldArticle_1 rfl ?_
  refine jq_aload_n Γ dX11_oldArticle_2 rfl 0 rfl (jq_at_0 at_M_0) ?_
  refine jq_getR (v := 1) Γ hlY at_M_0 fl_RX11_7 rfl rfl ly_X11_at dX11_oldArticle_3 ?_
  refine jq_iconst Γ dX11_oldArticle_6 rfl ?_
  refine jq_iald Γ at_M_1 rfl dX11_oldArticle_7 (fun v1 => ?_)
  refine jq_iload_n Γ dX11_oldArticle_8 rfl 1 rfl ?_
  refine jq_cwZ (jq_virt (avs := [jI 5, jI v1, jI p1]) (st := []) Γ hlY rfl ml_RX11_227 rfl at_M_0 rfl rfl rfl rfl rfl dX11_oldArticle_9) rfl (fun r σ' h => ctX11_oldOne h) (fun v2 s3 hz4 => ?_)
  exact jq_zreturn Γ (hz4) dX11_oldArticle_12 (hK0 _)


theorem dX11_test_0 : decode cX11_test 0 = .ok (.aload_n 0, 1) := by decide +kernel
theorem dX11_test_1 : decode cX11_test 1 = .ok (.ldc 177, 2) := by decide +kernel
theorem dX11_test_3 : decode cX11_test 3 = .ok (.invokevirtual 169, 3) := by decide +kernel
theorem dX11_test_6 : decode cX11_test 6 = .ok (.istore_n 2, 1) := by decide +kernel
theorem dX11_test_7 : decode cX11_test 7 = .ok (.iload_n 2, 1) := by decide +kernel
theorem dX11_test_8 : decode cX11_test 8 = .ok (.bipush 25, 2) := by decide +kernel
theorem dX11_test_10 : decode cX11_test 10 = .ok (.if_icmp .ge 9, 3) := by decide +kernel
theorem dX11_test_13 : decode cX11_test 13 = .ok (.aload_n 0, 1) := by decide +kernel
theorem dX11_test_14 : decode cX11_test 14 = .ok (.iconst 2, 1) := by decide +kernel
theorem dX11_test_15 : decode cX11_test 15 = .ok (.invokevirtual 166, 3) := by decide +kernel
theorem dX11_test_18 : decode cX11_test 18 = .ok (.ireturn, 1) := by decide +kernel
theorem dX11_test_19 : decode cX11_test 19 = .ok (.aload_n 0, 1) := by decide +kernel
theorem dX11_test_20 : decode cX11_test 20 = .ok (.getfield 7, 3) := by decide +kernel
theorem dX11_test_23 : decode cX11_test 23 = .ok (.iload_n 1, 1) := by decide +kernel
theorem dX11_test_24 : decode cX11_test 24 = .ok (.sipush 2100, 3) := by decide +kernel
theorem dX11_test_27 : decode cX11_test 27 = .ok (.iload_n 2, 1) := by decide +kernel
theorem dX11_test_28 : decode cX11_test 28 = .ok (.iadd, 1) := by decide +kernel
theorem dX11_test_29 : decode cX11_test 29 = .ok (.iastore, 1) := by decide +kernel
theorem dX11_test_30 : decode cX11_test 30 = .ok (.aload_n 0, 1) := by decide +kernel
theorem dX11_test_31 : decode cX11_test 31 = .ok (.invokevirtual 160, 3) := by decide +kernel
theorem dX11_test_34 : decode cX11_test 34 = .ok (.iload_n 2, 1) := by decide +kernel
theorem dX11_test_35 : decode cX11_test 35 = .ok (.bipush 25, 2) := by decide +kernel
theorem dX11_test_37 : decode cX11_test 37 = .ok (.if_icmp .ne 11, 3) := by decide +kernel
theorem dX11_test_40 : decode cX11_test 40 = .ok (.aload_n 0, 1) := by decide +kernel
theorem dX11_test_41 : decode cX11_test 41 = .ok (.iload_n 1, 1) := by decide +kernel
theorem dX11_test_42 : decode cX11_test 42 = .ok (.iconst 1, 1) := by decide +kernel
theorem dX11_test_43 : decode cX11_test 43 = .ok (.iadd, 1) := by decide +kernel
theorem dX11_test_44 : decode cX11_test 44 = .ok (.invokevirtual 230, 3) := by decide +kernel
theorem dX11_test_47 : decode cX11_test 47 = .ok (.ireturn, 1) := by decide +kernel
theorem dX11_test_48 : decode cX11_test 48 = .ok (.iload_n 2, 1) := by decide +kernel
theorem dX11_test_49 : decode cX11_test 49 = .ok (.bipush 26, 2) := by decide +kernel
theorem dX11_test_51 : decode cX11_test 51 = .ok (.if_icmp .ne 11, 3) := by decide +kernel
theorem dX11_test_54 : decode cX11_test 54 = .ok (.aload_n 0, 1) := by decide +kernel
theorem dX11_test_55 : decode cX11_test 55 = .ok (.iload_n 1, 1) := by decide +kernel
theorem dX11_test_56 : decode cX11_test 56 = .ok (.iconst 1, 1) := by decide +kernel
theorem dX11_test_57 : decode cX11_test 57 = .ok (.iadd, 1) := by decide +kernel
theorem dX11_test_58 : decode cX11_test 58 = .ok (.invokevirtual 233, 3) := by decide +kernel
theorem dX11_test_61 : decode cX11_test 61 = .ok (.ireturn, 1) := by decide +kernel
theorem dX11_test_62 : decode cX11_test 62 = .ok (.aload_n 0, 1) := by decide +kernel
theorem dX11_test_63 : decode cX11_test 63 = .ok (.bipush 60, 2) := by decide +kernel
theorem dX11_test_65 : decode cX11_test 65 = .ok (.invokevirtual 163, 3) := by decide +kernel
theorem dX11_test_68 : decode cX11_test 68 = .ok (.ifCond .ne 27, 3) := by decide +kernel
theorem dX11_test_71 : decode cX11_test 71 = .ok (.aload_n 0, 1) := by decide +kernel
theorem dX11_test_72 : decode cX11_test 72 = .ok (.bipush 62, 2) := by decide +kernel
theorem dX11_test_74 : decode cX11_test 74 = .ok (.invokevirtual 163, 3) := by decide +kernel
theorem dX11_test_77 : decode cX11_test 77 = .ok (.ifCond .ne 18, 3) := by decide +kernel
theorem dX11_test_80 : decode cX11_test 80 = .ok (.aload_n 0, 1) := by decide +kernel
theorem dX11_test_81 : decode cX11_test 81 = .ok (.bipush 61, 2) := by decide +kernel
theorem dX11_test_83 : decode cX11_test 83 = .ok (.invokevirtual 163, 3) := by decide +kernel
theorem dX11_test_86 : decode cX11_test 86 = .ok (.ifCond .ne 9, 3) := by decide +kernel
theorem dX11_test_89 : decode cX11_test 89 = .ok (.aload_n 0, 1) := by decide +kernel
theorem dX11_test_90 : decode cX11_test 90 = .ok (.iconst 2, 1) := by decide +kernel
theorem dX11_test_91 : decode cX11_test 91 = .ok (.invokevirtual 166, 3) := by decide +kernel
theorem dX11_test_94 : decode cX11_test 94 = .ok (.ireturn, 1) := by decide +kernel
theorem dX11_test_95 : decode cX11_test 95 = .ok (.aload_n 0, 1) := by decide +kernel
theorem dX11_test_96 : decode cX11_test 96 = .ok (.getfield 7, 3) := by decide +kernel
theorem dX11_test_99 : decode cX11_test 99 = .ok (.iload_n 1, 1) := by decide +kernel
theorem dX11_test_100 : decode cX11_test 100 = .ok (.iconst 5, 1) := by decide +kernel
theorem dX11_test_101 : decode cX11_test 101 = .ok (.iadd, 1) := by decide +kernel
theorem dX11_test_102 : decode cX11_test 102 = .ok (.aload_n 0, 1) := by decide +kernel
theorem dX11_test_103 : decode cX11_test 103 = .ok (.getfield 126, 3) := by decide +kernel
theorem dX11_test_106 : decode cX11_test 106 = .ok (.iastore, 1) := by decide +kernel
theorem dX11_test_107 : decode cX11_test 107 = .ok (.aload_n 0, 1) := by decide +kernel
theorem dX11_test_108 : decode cX11_test 108 = .ok (.invokevirtual 160, 3) := by decide +kernel
theorem dX11_test_111 : decode cX11_test 111 = .ok (.aload_n 0, 1) := by decide +kernel
theorem dX11_test_112 : decode cX11_test 112 = .ok (.iload_n 1, 1) := by decide +kernel
theorem dX11_test_113 : decode cX11_test 113 = .ok (.iconst 2, 1) := by decide +kernel
theorem dX11_test_114 : decode cX11_test 114 = .ok (.iadd, 1) := by decide +kernel
theorem dX11_test_115 : decode cX11_test 115 = .ok (.iconst 0, 1) := by decide +kernel
theorem dX11_test_116 : decode cX11_test 116 = .ok (.sipush 999, 3) := by decide +kernel
theorem dX11_test_119 : decode cX11_test 119 = .ok (.invokevirtual 193, 3) := by decide +kernel
theorem dX11_test_122 : decode cX11_test 122 = .ok (.ireturn, 1) := by decide +kernel
set_option maxHeartbeats 4000000 in
set_option maxRecDepth 100000 in
theorem ctX11_test {p1 : Int} {σ : jq_M} {res : Int} {σ' : jq_M}  (h : X11_test p1 σ = some (res, σ')) : jq_MC jq_zM yX11_test cX11_test 3 (some .boolean) 9 216 [jR 0, jI p1] σ (some (jI res)) σ' := by
  refine jq_met (own := RX11) (L0 := [(0, jR 0), (1, jI p1)]) (by decide) rfl rfl rfl ?_
  intro X Γ hnl hlY hRT
  refine jq_use2 (P := fun r => jq_RT jq_zM X (some .boolean) (some (jI r.1)) r.2) ?_ h hRT
  intro K0 hK0
  unfold X11_test
  have hj95_0 : ∀ (s6 : jq_M), jq_J (X11_test_j95 p1 s6) K0 (jq_V jq_zM X (jq_zN jq_zM) s6 95 [(0, jR 0), (1, jI p1)] []) := by
    intro s6
    unfold X11_test_j95
    refine jq_aload_n Γ dX11_test_95 rfl 0 rfl (jq_at_0 at_M_0) ?_
    refine jq_getR (v := 1) Γ hlY at_M_0 fl_RX11_7 rfl rfl ly_X11_at dX11_test_96 ?_
    refine jq_iload_n Γ dX11_test_99 rfl 1 rfl ?_
    refine jq_iconst Γ dX11_test_100 rfl ?_
    refine jq_iadd Γ dX11_test_101 ?_
    refine jq_aload_n Γ dX11_test_102 rfl 0 rfl (jq_at_0 at_M_0) ?_
    refine jq_getI (J := 15) Γ at_M_0 fl_RX11_126 rfl rfl dX11_test_103 ?_
    refine jq_iast Γ at_M_1 rfl dX11_test_106 (fun s7 => ?_)
    refine jq_aload_n Γ dX11_test_107 rfl 0 rfl (jq_at_0 at_M_0) ?_
    refine jq_cwV (jq_virt (avs := []) (st := []) Γ hlY rfl ml_RX11_160 rfl at_M_0 rfl rfl rfl rfl rfl dX11_test_108) (fun σ' h => ctX11_ahead h) (fun s8 => ?_)
    refine jq_aload_n Γ dX11_test_111 rfl 0 rfl (jq_at_0 at_M_0) ?_
    refine jq_iload_n Γ dX11_test_112 rfl 1 rfl ?_
    refine jq_iconst Γ dX11_test_113 rfl ?_
    refine jq_iadd Γ dX11_test_114 ?_
    refine jq_iconst Γ dX11_test_115 rfl ?_
    refine jq_sipush Γ dX11_test_116 rfl ?_
    refine jq_cwZ (jq_virt (avs := [jI (jq_w (p1 + 2)), jI 0, jI 999]) (st := []) Γ hlY rfl ml_RX11_193 rfl at_M_0 rfl rfl rfl rfl rfl dX11_test_119) rfl (fun r σ' h => ctX11_number h) (fun v9 s10 hz11 => ?_)
    exact jq_zreturn Γ (hz11) dX11_test_122 (hK0 _)
  refine jq_aload_n Γ dX11_test_0 rfl 0 rfl (jq_at_0 at_M_0) ?_
  refine jq_ldcS Γ dX11_test_1 rfl rfl ?_
  refine jq_cpI (jq_virt (avs := [jT 0]) (st := []) Γ hlY rfl ml_RX11_169 rfl at_M_0 rfl rfl rfl rfl rfl dX11_test_3) (fun r h => ctX11_inWords h) (fun v1 => ?_)
  refine jq_istore_n (L' := [(2, jI v1), (0, jR 0), (1, jI p1)]) Γ dX11_test_6 rfl hnl rfl rfl ?_
  refine jq_iload_n Γ dX11_test_7 rfl 0 rfl ?_
  refine jq_bipush Γ dX11_test_8 rfl ?_
  refine jq_icmp_ge (tgt := 19) Γ dX11_test_10 rfl ?_ ?_
  · refine jq_aload_n Γ dX11_test_19 rfl 1 rfl (jq_at_0 at_M_0) ?_
    refine jq_getR (v := 1) Γ hlY at_M_0 fl_RX11_7 rfl rfl ly_X11_at dX11_test_20 ?_
    refine jq_iload_n Γ dX11_test_23 rfl 2 rfl ?_
    refine jq_sipush Γ dX11_test_24 rfl ?_
    refine jq_iload_n Γ dX11_test_27 rfl 0 rfl ?_
    refine jq_iadd Γ dX11_test_28 ?_
    refine jq_iast Γ at_M_1 rfl dX11_test_29 (fun s2 => ?_)
    refine jq_aload_n Γ dX11_test_30 rfl 1 rfl (jq_at_0 at_M_0) ?_
    refine jq_cwV (jq_virt (avs := []) (st := []) Γ hlY rfl ml_RX11_160 rfl at_M_0 rfl rfl rfl rfl rfl dX11_test_31) (fun σ' h => ctX11_ahead h) (fun s3 => ?_)
    refine jq_iload_n Γ dX11_test_34 rfl 0 rfl ?_
    refine jq_bipush Γ dX11_test_35 rfl ?_
    refine jq_icmp_ne (tgt := 48) Γ dX11_test_37 rfl ?_ ?_
    · refine jq_iload_n Γ dX11_test_48 rfl 0 rfl ?_
      refine jq_bipush Γ dX11_test_49 rfl ?_
      refine jq_icmp_ne (tgt := 62) Γ dX11_test_51 rfl ?_ ?_
      · refine jq_aload_n Γ dX11_test_62 rfl 1 rfl (jq_at_0 at_M_0) ?_
        refine jq_bipush Γ dX11_test_63 rfl ?_
        refine jq_cpZ (jq_virt (avs := [jI 60]) (st := []) Γ hlY rfl ml_RX11_163 rfl at_M_0 rfl rfl rfl rfl rfl dX11_test_65) rfl (fun r h => ctX11_isSign h) (fun v4 hz5 => ?_)
        refine jq_if_ne (tgt := 95) Γ dX11_test_68 rfl ?_ ?_
        · refine jq_sub Γ (L' := [(0, jR 0), (1, jI p1)]) [1, 2] rfl ?_
          exact hj95_0 s3
        · refine jq_aload_n Γ dX11_test_71 rfl 1 rfl (jq_at_0 at_M_0) ?_
          refine jq_bipush Γ dX11_test_72 rfl ?_
          refine jq_cpZ (jq_virt (avs := [jI 62]) (st := []) Γ hlY rfl ml_RX11_163 rfl at_M_0 rfl rfl rfl rfl rfl dX11_test_74) rfl (fun r h => ctX11_isSign h) (fun v12 hz13 => ?_)
          refine jq_if_ne (tgt := 95) Γ dX11_test_77 rfl ?_ ?_
          · refine jq_sub Γ (L' := [(0, jR 0), (1, jI p1)]) [1, 2] rfl ?_
            exact hj95_0 s3
          · refine jq_aload_n Γ dX11_test_80 rfl 1 rfl (jq_at_0 at_M_0) ?_
            refine jq_bipush Γ dX11_test_81 rfl ?_
            refine jq_cpZ (jq_virt (avs := [jI 61]) (st := []) Γ hlY rfl ml_RX11_163 rfl at_M_0 rfl rfl rfl rfl rfl dX11_test_83) rfl (fun r h => ctX11_isSign h) (fun v14 hz15 => ?_)
            refine jq_if_ne (tgt := 95) Γ dX11_test_86 rfl ?_ ?_
            · refine jq_sub Γ (L' := [(0, jR 0), (1, jI p1)]) [1, 2] rfl ?_
              exact hj95_0 s3
            · refine jq_aload_n Γ dX11_test_89 rfl 1 rfl (jq_at_0 at_M_0) ?_
              refine jq_iconst Γ dX11_test_90 rfl ?_
              refine jq_cwZ (jq_virt (avs := [jI 2]) (st := []) Γ hlY rfl ml_RX11_166 rfl at_M_0 rfl rfl rfl rfl rfl dX11_test_91) rfl (fun r σ' h => ctX11_fails h) (fun v16 s17 hz18 => ?_)
              exact jq_zreturn Γ (hz18) dX11_test_94 (hK0 _)
      · refine jq_aload_n Γ dX11_test_54 rfl 1 rfl (jq_at_0 at_M_0) ?_
        refine jq_iload_n Γ dX11_test_55 rfl 2 rfl ?_
        refine jq_iconst Γ dX11_test_56 rfl ?_
        refine jq_iadd Γ dX11_test_57 ?_
        refine jq_cwZ (jq_virt (avs := [jI (jq_w (p1 + 1))]) (st := []) Γ hlY rfl ml_RX11_233 rfl at_M_0 rfl rfl rfl rfl rfl dX11_test_58) rfl (fun r σ' h => ctX11_oldArticle h) (fun v19 s20 hz21 => ?_)
        exact jq_zreturn Γ (hz21) dX11_test_61 (hK0 _)
    · refine jq_aload_n Γ dX11_test_40 rfl 1 rfl (jq_at_0 at_M_0) ?_
      refine jq_iload_n Γ dX11_test_41 rfl 2 rfl ?_
      refine jq_iconst Γ dX11_test_42 rfl ?_
      refine jq_iadd Γ dX11_test_43 ?_
      refine jq_cwZ (jq_virt (avs := [jI (jq_w (p1 + 1))]) (st := []) Γ hlY rfl ml_RX11_230 rfl at_M_0 rfl rfl rfl rfl rfl dX11_test_44) rfl (fun r σ' h => ctX11_oldParty h) (fun v22 s23 hz24 => ?_)
      exact jq_zreturn Γ (hz24) dX11_test_47 (hK0 _)
  · refine jq_aload_n Γ dX11_test_13 rfl 1 rfl (jq_at_0 at_M_0) ?_
    refine jq_iconst Γ dX11_test_14 rfl ?_
    refine jq_cwZ (jq_virt (avs := [jI 2]) (st := []) Γ hlY rfl ml_RX11_166 rfl at_M_0 rfl rfl rfl rfl rfl dX11_test_15) rfl (fun r σ' h => ctX11_fails h) (fun v25 s26 hz27 => ?_)
    exact jq_zreturn Γ (hz27) dX11_test_18 (hK0 _)


