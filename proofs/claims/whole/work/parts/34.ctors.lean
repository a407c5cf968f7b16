theorem oi_RX10_1 : Cond.methodLink RX10 1 Lib.objectInit ∈ jq_T := jq_in 162 (by decide +kernel) rfl
theorem oi_i : Cond.instanceMethod Lib.objectInit ∈ jq_T := jq_in 163 (by decide +kernel) rfl
theorem oi_c : Cond.code Lib.objectInit ⟨#[0xb1]⟩ 1 none ∈ jq_T := jq_in 164 (by decide +kernel) rfl
theorem aq_RX10_9 : Cond.classLink RX10 9 "StandTable$Tray" ∈ jq_T := jq_in 165 (by decide +kernel) rfl
theorem nw_RX10_15 : Cond.classLink RX10 15 RX5 ∈ jq_T := jq_in 167 (by decide +kernel) rfl
theorem nwi_X5 : Cond.instantiable RX5 14 ∈ jq_T := jq_in 168 (by decide +kernel) rfl
theorem nwz_X5 : Cond.initialized RX5 ∈ jq_T := jq_in 139 (by decide +kernel) rfl
theorem oi_RX5_3 : Cond.methodLink RX5 3 Lib.objectInit ∈ jq_T := jq_in 172 (by decide +kernel) rfl
theorem aw_long : Cond.arrayClass .long ∈ jq_T := jq_in 274 (by decide +kernel) rfl
theorem aw_byte : Cond.arrayClass .byte ∈ jq_T := jq_in 275 (by decide +kernel) rfl
theorem ml_RX5_21 : jq_vl RX5 21 yJ0_length_8abf5 cJ0_length_8abf5 1 (some .int) 0 := ⟨jq_in 174 (by decide +kernel) rfl, yf_J0_length_8abf5⟩
theorem ml_RX5_27 : jq_vl RX5 27 yJ0_charAt_5068e cJ0_charAt_5068e 2 (some .char) 1 := ⟨jq_in 184 (by decide +kernel) rfl, yf_J0_charAt_5068e⟩
theorem ml_RX10_17 : jq_il RX10 17 yX5_init cX5_init 6 := ⟨jq_in 169 (by decide +kernel) rfl, jq_in 170 (by decide +kernel) rfl, jq_in 139 (by decide +kernel) rfl, jq_in 171 (by decide +kernel) rfl, ⟨by decide, by decide, by decide +kernel⟩, rfl⟩
theorem nw_RX10_22 : Cond.classLink RX10 22 RX1 ∈ jq_T := jq_in 276 (by decide +kernel) rfl
theorem nwi_X1 : Cond.instantiable RX1 21 ∈ jq_T := jq_in 277 (by decide +kernel) rfl
theorem nwz_X1 : Cond.initialized RX1 ∈ jq_T := jq_in 144 (by decide +kernel) rfl
theorem oi_RX1_3 : Cond.methodLink RX1 3 Lib.objectInit ∈ jq_T := jq_in 281 (by decide +kernel) rfl
theorem aw_int : Cond.arrayClass .int ∈ jq_T := jq_in 321 (by decide +kernel) rfl
theorem nw_RX1_49 : Cond.classLink RX1 49 RX7 ∈ jq_T := jq_in 282 (by decide +kernel) rfl
theorem nwi_X7 : Cond.instantiable RX7 9 ∈ jq_T := jq_in 283 (by decide +kernel) rfl
theorem nwz_X7 : Cond.initialized RX7 ∈ jq_T := jq_in 145 (by decide +kernel) rfl
theorem oi_RX7_3 : Cond.methodLink RX7 3 Lib.objectInit ∈ jq_T := jq_in 287 (by decide +kernel) rfl
theorem ml_RX1_51 : jq_inl RX1 51 yX7_init "StandTable" cX7_init 1 := ⟨jq_inN 284 (by decide +kernel) rfl, jq_in 285 (by decide +kernel) rfl, jq_in 145 (by decide +kernel) rfl, jq_in 286 (by decide +kernel) rfl, ⟨by decide, by decide, by decide +kernel⟩, rfl⟩
theorem ml_RX10_24 : jq_inl RX10 24 yX1_init "StandTable" cX1_init 1 := ⟨jq_inN 278 (by decide +kernel) rfl, jq_in 279 (by decide +kernel) rfl, jq_in 144 (by decide +kernel) rfl, jq_in 280 (by decide +kernel) rfl, ⟨by decide, by decide, by decide +kernel⟩, rfl⟩
theorem nw_RX10_32 : Cond.classLink RX10 32 RX7 ∈ jq_T := jq_in 436 (by decide +kernel) rfl
theorem ml_RX10_34 : jq_inl RX10 34 yX7_init "StandTable" cX7_init 1 := ⟨jq_inN 437 (by decide +kernel) rfl, jq_in 285 (by decide +kernel) rfl, jq_in 145 (by decide +kernel) rfl, jq_in 286 (by decide +kernel) rfl, ⟨by decide, by decide, by decide +kernel⟩, rfl⟩
theorem aq_RX10_22 : Cond.classLink RX10 22 "StandTable$Committee" ∈ jq_T := jq_in 276 (by decide +kernel) rfl
theorem nw_RX10_43 : Cond.classLink RX10 43 RX8 ∈ jq_T := jq_in 439 (by decide +kernel) rfl
theorem nwi_X8 : Cond.instantiable RX8 4 ∈ jq_T := jq_in 440 (by decide +kernel) rfl
theorem nwz_X8 : Cond.initialized RX8 ∈ jq_T := jq_in 146 (by decide +kernel) rfl
theorem oi_RX8_3 : Cond.methodLink RX8 3 Lib.objectInit ∈ jq_T := jq_in 444 (by decide +kernel) rfl
theorem ml_RX10_45 : jq_inl RX10 45 yX8_init "StandTable" cX8_init 1 := ⟨jq_inN 441 (by decide +kernel) rfl, jq_in 442 (by decide +kernel) rfl, jq_in 146 (by decide +kernel) rfl, jq_in 443 (by decide +kernel) rfl, ⟨by decide, by decide, by decide +kernel⟩, rfl⟩
theorem nw_RX10_50 : Cond.classLink RX10 50 RX0 ∈ jq_T := jq_in 460 (by decide +kernel) rfl
theorem nwi_X0 : Cond.instantiable RX0 2 ∈ jq_T := jq_in 461 (by decide +kernel) rfl
theorem nwz_X0 : Cond.initialized RX0 ∈ jq_T := jq_in 147 (by decide +kernel) rfl
theorem oi_RX0_3 : Cond.methodLink RX0 3 Lib.objectInit ∈ jq_T := jq_in 465 (by decide +kernel) rfl
theorem ml_RX10_52 : jq_inl RX10 52 yX0_init "StandTable" cX0_init 1 := ⟨jq_inN 462 (by decide +kernel) rfl, jq_in 463 (by decide +kernel) rfl, jq_in 147 (by decide +kernel) rfl, jq_in 464 (by decide +kernel) rfl, ⟨by decide, by decide, by decide +kernel⟩, rfl⟩
theorem nw_RX10_57 : Cond.classLink RX10 57 RX3 ∈ jq_T := jq_in 473 (by decide +kernel) rfl
theorem nwi_X3 : Cond.instantiable RX3 8 ∈ jq_T := jq_in 474 (by decide +kernel) rfl
theorem nwz_X3 : Cond.initialized RX3 ∈ jq_T := jq_in 148 (by decide +kernel) rfl
theorem oi_RX3_3 : Cond.methodLink RX3 3 Lib.objectInit ∈ jq_T := jq_in 478 (by decide +kernel) rfl
theorem ml_RX10_59 : jq_inl RX10 59 yX3_init "StandTable" cX3_init 1 := ⟨jq_inN 475 (by decide +kernel) rfl, jq_in 476 (by decide +kernel) rfl, jq_in 148 (by decide +kernel) rfl, jq_in 477 (by decide +kernel) rfl, ⟨by decide, by decide, by decide +kernel⟩, rfl⟩
theorem nw_RX10_9 : Cond.classLink RX10 9 RX9 ∈ jq_T := jq_in 165 (by decide +kernel) rfl
theorem nwi_X9 : Cond.instantiable RX9 3 ∈ jq_T := jq_in 505 (by decide +kernel) rfl
theorem nwz_X9 : Cond.initialized RX9 ∈ jq_T := jq_in 149 (by decide +kernel) rfl
theorem oi_RX9_3 : Cond.methodLink RX9 3 Lib.objectInit ∈ jq_T := jq_in 509 (by decide +kernel) rfl
theorem ml_RX10_88 : jq_inl RX10 88 yX9_init "StandTable" cX9_init 1 := ⟨jq_inN 506 (by decide +kernel) rfl, jq_in 507 (by decide +kernel) rfl, jq_in 149 (by decide +kernel) rfl, jq_in 508 (by decide +kernel) rfl, ⟨by decide, by decide, by decide +kernel⟩, rfl⟩
theorem oi_RX11_1 : Cond.methodLink RX11 1 Lib.objectInit ∈ jq_T := jq_in 1557 (by decide +kernel) rfl
theorem dX10_init_0 : decode cX10_init 0 = .ok (.aload_n 0, 1) := by decide +kernel
theorem dX10_init_1 : decode cX10_init 1 = .ok (.invokespecial 1, 3) := by decide +kernel
theorem dX10_init_4 : decode cX10_init 4 = .ok (.aload_n 0, 1) := by decide +kernel
theorem dX10_init_5 : decode cX10_init 5 = .ok (.iconst 4, 1) := by decide +kernel
theorem dX10_init_6 : decode cX10_init 6 = .ok (.anewarray 9, 3) := by decide +kernel
theorem dX10_init_9 : decode cX10_init 9 = .ok (.putfield 11, 3) := by decide +kernel
theorem dX10_init_12 : decode cX10_init 12 = .ok (.aload_n 0, 1) := by decide +kernel
theorem dX10_init_13 : decode cX10_init 13 = .ok (.new 15, 3) := by decide +kernel
theorem dX10_init_16 : decode cX10_init 16 = .ok (.dup, 1) := by decide +kernel
theorem dX10_init_17 : decode cX10_init 17 = .ok (.invokespecial 17, 3) := by decide +kernel
theorem dX10_init_20 : decode cX10_init 20 = .ok (.putfield 18, 3) := by decide +kernel
theorem dX10_init_23 : decode cX10_init 23 = .ok (.aload_n 0, 1) := by decide +kernel
theorem dX10_init_24 : decode cX10_init 24 = .ok (.new 22, 3) := by decide +kernel
theorem dX10_init_27 : decode cX10_init 27 = .ok (.dup, 1) := by decide +kernel
theorem dX10_init_28 : decode cX10_init 28 = .ok (.invokespecial 24, 3) := by decide +kernel
theorem dX10_init_31 : decode cX10_init 31 = .ok (.putfield 25, 3) := by decide +kernel
theorem dX10_init_34 : decode cX10_init 34 = .ok (.aload_n 0, 1) := by decide +kernel
theorem dX10_init_35 : decode cX10_init 35 = .ok (.new 22, 3) := by decide +kernel
theorem dX10_init_38 : decode cX10_init 38 = .ok (.dup, 1) := by decide +kernel
theorem dX10_init_39 : decode cX10_init 39 = .ok (.invokespecial 24, 3) := by decide +kernel
theorem dX10_init_42 : decode cX10_init 42 = .ok (.putfield 29, 3) := by decide +kernel
theorem dX10_init_45 : decode cX10_init 45 = .ok (.aload_n 0, 1) := by decide +kernel
theorem dX10_init_46 : decode cX10_init 46 = .ok (.new 32, 3) := by decide +kernel
theorem dX10_init_49 : decode cX10_init 49 = .ok (.dup, 1) := by decide +kernel
theorem dX10_init_50 : decode cX10_init 50 = .ok (.invokespecial 34, 3) := by decide +kernel
theorem dX10_init_53 : decode cX10_init 53 = .ok (.putfield 35, 3) := by decide +kernel
theorem dX10_init_56 : decode cX10_init 56 = .ok (.aload_n 0, 1) := by decide +kernel
theorem dX10_init_57 : decode cX10_init 57 = .ok (.iconst 3, 1) := by decide +kernel
theorem dX10_init_58 : decode cX10_init 58 = .ok (.anewarray 22, 3) := by decide +kernel
theorem dX10_init_61 : decode cX10_init 61 = .ok (.putfield 39, 3) := by decide +kernel
theorem dX10_init_64 : decode cX10_init 64 = .ok (.aload_n 0, 1) := by decide +kernel
theorem dX10_init_65 : decode cX10_init 65 = .ok (.new 43, 3) := by decide +kernel
theorem dX10_init_68 : decode cX10_init 68 = .ok (.dup, 1) := by decide +kernel
theorem dX10_init_69 : decode cX10_init 69 = .ok (.invokespecial 45, 3) := by decide +kernel
theorem dX10_init_72 : decode cX10_init 72 = .ok (.putfield 46, 3) := by decide +kernel
theorem dX10_init_75 : decode cX10_init 75 = .ok (.aload_n 0, 1) := by decide +kernel
theorem dX10_init_76 : decode cX10_init 76 = .ok (.new 50, 3) := by decide +kernel
theorem dX10_init_79 : decode cX10_init 79 = .ok (.dup, 1) := by decide +kernel
theorem dX10_init_80 : decode cX10_init 80 = .ok (.invokespecial 52, 3) := by decide +kernel
theorem dX10_init_83 : decode cX10_init 83 = .ok (.putfield 53, 3) := by decide +kernel
theorem dX10_init_86 : decode cX10_init 86 = .ok (.aload_n 0, 1) := by decide +kernel
theorem dX10_init_87 : decode cX10_init 87 = .ok (.new 57, 3) := by decide +kernel
theorem dX10_init_90 : decode cX10_init 90 = .ok (.dup, 1) := by decide +kernel
theorem dX10_init_91 : decode cX10_init 91 = .ok (.invokespecial 59, 3) := by decide +kernel
theorem dX10_init_94 : decode cX10_init 94 = .ok (.putfield 60, 3) := by decide +kernel
theorem dX10_init_97 : decode cX10_init 97 = .ok (.aload_n 0, 1) := by decide +kernel
theorem dX10_init_98 : decode cX10_init 98 = .ok (.iconst 5, 1) := by decide +kernel
theorem dX10_init_99 : decode cX10_init 99 = .ok (.newarray .int, 2) := by decide +kernel
theorem dX10_init_101 : decode cX10_init 101 = .ok (.putfield 64, 3) := by decide +kernel
theorem dX10_init_104 : decode cX10_init 104 = .ok (.aload_n 0, 1) := by decide +kernel
theorem dX10_init_105 : decode cX10_init 105 = .ok (.iconst 5, 1) := by decide +kernel
theorem dX10_init_106 : decode cX10_init 106 = .ok (.newarray .int, 2) := by decide +kernel
theorem dX10_init_108 : decode cX10_init 108 = .ok (.putfield 68, 3) := by decide +kernel
theorem dX10_init_111 : decode cX10_init 111 = .ok (.aload_n 0, 1) := by decide +kernel
theorem dX10_init_112 : decode cX10_init 112 = .ok (.iconst 0, 1) := by decide +kernel
theorem dX10_init_113 : decode cX10_init 113 = .ok (.putfield 71, 3) := by decide +kernel
theorem dX10_init_116 : decode cX10_init 116 = .ok (.aload_n 0, 1) := by decide +kernel
theorem dX10_init_117 : decode cX10_init 117 = .ok (.lconst 0, 1) := by decide +kernel
theorem dX10_init_118 : decode cX10_init 118 = .ok (.putfield 75, 3) := by decide +kernel
theorem dX10_init_121 : decode cX10_init 121 = .ok (.aload_n 0, 1) := by decide +kernel
theorem dX10_init_122 : decode cX10_init 122 = .ok (.lconst 1, 1) := by decide +kernel
theorem dX10_init_123 : decode cX10_init 123 = .ok (.putfield 79, 3) := by decide +kernel
theorem dX10_init_126 : decode cX10_init 126 = .ok (.aload_n 0, 1) := by decide +kernel
theorem dX10_init_127 : decode cX10_init 127 = .ok (.iconst (-1), 1) := by decide +kernel
theorem dX10_init_128 : decode cX10_init 128 = .ok (.putfield 82, 3) := by decide +kernel
theorem dX10_init_131 : decode cX10_init 131 = .ok (.aload_n 0, 1) := by decide +kernel
theorem dX10_init_132 : decode cX10_init 132 = .ok (.iconst (-1), 1) := by decide +kernel
theorem dX10_init_133 : decode cX10_init 133 = .ok (.putfield 85, 3) := by decide +kernel
theorem dX10_init_136 : decode cX10_init 136 = .ok (.iconst 0, 1) := by decide +kernel
theorem dX10_init_137 : decode cX10_init 137 = .ok (.istore_n 1, 1) := by decide +kernel
theorem dX10_init_138 : decode cX10_init 138 = .ok (.iload_n 1, 1) := by decide +kernel
theorem dX10_init_139 : decode cX10_init 139 = .ok (.aload_n 0, 1) := by decide +kernel
theorem dX10_init_140 : decode cX10_init 140 = .ok (.getfield 11, 3) := by decide +kernel
theorem dX10_init_143 : decode cX10_init 143 = .ok (.arraylength, 1) := by decide +kernel
theorem dX10_init_144 : decode cX10_init 144 = .ok (.if_icmp .ge 22, 3) := by decide +kernel
theorem dX10_init_147 : decode cX10_init 147 = .ok (.aload_n 0, 1) := by decide +kernel
theorem dX10_init_148 : decode cX10_init 148 = .ok (.getfield 11, 3) := by decide +kernel
theorem dX10_init_151 : decode cX10_init 151 = .ok (.iload_n 1, 1) := by decide +kernel
theorem dX10_init_152 : decode cX10_init 152 = .ok (.new 9, 3) := by decide +kernel
theorem dX10_init_155 : decode cX10_init 155 = .ok (.dup, 1) := by decide +kernel
theorem dX10_init_156 : decode cX10_init 156 = .ok (.invokespecial 88, 3) := by decide +kernel
theorem dX10_init_159 : decode cX10_init 159 = .ok (.aastore, 1) := by decide +kernel
theorem dX10_init_160 : decode cX10_init 160 = .ok (.iinc 1 1, 3) := by decide +kernel
theorem dX10_init_163 : decode cX10_init 163 = .ok (.goto (-25), 3) := by decide +kernel
theorem dX10_init_166 : decode cX10_init 166 = .ok (.iconst 0, 1) := by decide +kernel
theorem dX10_init_167 : decode cX10_init 167 = .ok (.istore_n 1, 1) := by decide +kernel
theorem dX10_init_168 : decode cX10_init 168 = .ok (.iload_n 1, 1) := by decide +kernel
theorem dX10_init_169 : decode cX10_init 169 = .ok (.aload_n 0, 1) := by decide +kernel
theorem dX10_init_170 : decode cX10_init 170 = .ok (.getfield 39, 3) := by decide +kernel
theorem dX10_init_173 : decode cX10_init 173 = .ok (.arraylength, 1) := by decide +kernel
theorem dX10_init_174 : decode cX10_init 174 = .ok (.if_icmp .ge 22, 3) := by decide +kernel
theorem dX10_init_177 : decode cX10_init 177 = .ok (.aload_n 0, 1) := by decide +kernel
theorem dX10_init_178 : decode cX10_init 178 = .ok (.getfield 39, 3) := by decide +kernel
theorem dX10_init_181 : decode cX10_init 181 = .ok (.iload_n 1, 1) := by decide +kernel
theorem dX10_init_182 : decode cX10_init 182 = .ok (.new 22, 3) := by decide +kernel
theorem dX10_init_185 : decode cX10_init 185 = .ok (.dup, 1) := by decide +kernel
theorem dX10_init_186 : decode cX10_init 186 = .ok (.invokespecial 24, 3) := by decide +kernel
theorem dX10_init_189 : decode cX10_init 189 = .ok (.aastore, 1) := by decide +kernel
theorem dX10_init_190 : decode cX10_init 190 = .ok (.iinc 1 1, 3) := by decide +kernel
theorem dX10_init_193 : decode cX10_init 193 = .ok (.goto (-25), 3) := by decide +kernel
theorem dX10_init_196 : decode cX10_init 196 = .ok (.return_, 1) := by decide +kernel
theorem dX11_init_0 : decode cX11_init 0 = .ok (.aload_n 0, 1) := by decide +kernel
theorem dX11_init_1 : decode cX11_init 1 = .ok (.invokespecial 1, 3) := by decide +kernel
theorem dX11_init_4 : decode cX11_init 4 = .ok (.aload_n 0, 1) := by decide +kernel
theorem dX11_init_5 : decode cX11_init 5 = .ok (.sipush 3174, 3) := by decide +kernel
theorem dX11_init_8 : decode cX11_init 8 = .ok (.newarray .int, 2) := by decide +kernel
theorem dX11_init_10 : decode cX11_init 10 = .ok (.putfield 7, 3) := by decide +kernel
theorem dX11_init_13 : decode cX11_init 13 = .ok (.aload_n 0, 1) := by decide +kernel
theorem dX11_init_14 : decode cX11_init 14 = .ok (.bipush 78, 2) := by decide +kernel
theorem dX11_init_16 : decode cX11_init 16 = .ok (.newarray .long, 2) := by decide +kernel
theorem dX11_init_18 : decode cX11_init 18 = .ok (.putfield 13, 3) := by decide +kernel
theorem dX11_init_21 : decode cX11_init 21 = .ok (.aload_n 0, 1) := by decide +kernel
theorem dX11_init_22 : decode cX11_init 22 = .ok (.lconst 1, 1) := by decide +kernel
theorem dX11_init_23 : decode cX11_init 23 = .ok (.putfield 17, 3) := by decide +kernel
theorem dX11_init_26 : decode cX11_init 26 = .ok (.aload_n 0, 1) := by decide +kernel
theorem dX11_init_27 : decode cX11_init 27 = .ok (.iconst 4, 1) := by decide +kernel
theorem dX11_init_28 : decode cX11_init 28 = .ok (.newarray .int, 2) := by decide +kernel
theorem dX11_init_30 : decode cX11_init 30 = .ok (.putfield 21, 3) := by decide +kernel
theorem dX11_init_33 : decode cX11_init 33 = .ok (.aload_n 0, 1) := by decide +kernel
theorem dX11_init_34 : decode cX11_init 34 = .ok (.iconst 4, 1) := by decide +kernel
theorem dX11_init_35 : decode cX11_init 35 = .ok (.newarray .int, 2) := by decide +kernel
theorem dX11_init_37 : decode cX11_init 37 = .ok (.dup, 1) := by decide +kernel
theorem dX11_init_38 : decode cX11_init 38 = .ok (.iconst 0, 1) := by decide +kernel
theorem dX11_init_39 : decode cX11_init 39 = .ok (.iconst (-1), 1) := by decide +kernel
theorem dX11_init_40 : decode cX11_init 40 = .ok (.iastore, 1) := by decide +kernel
theorem dX11_init_41 : decode cX11_init 41 = .ok (.dup, 1) := by decide +kernel
theorem dX11_init_42 : decode cX11_init 42 = .ok (.iconst 1, 1) := by decide +kernel
theorem dX11_init_43 : decode cX11_init 43 = .ok (.iconst (-1), 1) := by decide +kernel
theorem dX11_init_44 : decode cX11_init 44 = .ok (.iastore, 1) := by decide +kernel
theorem dX11_init_45 : decode cX11_init 45 = .ok (.dup, 1) := by decide +kernel
theorem dX11_init_46 : decode cX11_init 46 = .ok (.iconst 2, 1) := by decide +kernel
theorem dX11_init_47 : decode cX11_init 47 = .ok (.iconst (-1), 1) := by decide +kernel
theorem dX11_init_48 : decode cX11_init 48 = .ok (.iastore, 1) := by decide +kernel
theorem dX11_init_49 : decode cX11_init 49 = .ok (.dup, 1) := by decide +kernel
theorem dX11_init_50 : decode cX11_init 50 = .ok (.iconst 3, 1) := by decide +kernel
theorem dX11_init_51 : decode cX11_init 51 = .ok (.iconst (-1), 1) := by decide +kernel
theorem dX11_init_52 : decode cX11_init 52 = .ok (.iastore, 1) := by decide +kernel
theorem dX11_init_53 : decode cX11_init 53 = .ok (.putfield 24, 3) := by decide +kernel
theorem dX11_init_56 : decode cX11_init 56 = .ok (.aload_n 0, 1) := by decide +kernel
theorem dX11_init_57 : decode cX11_init 57 = .ok (.sipush 240, 3) := by decide +kernel
theorem dX11_init_60 : decode cX11_init 60 = .ok (.newarray .long, 2) := by decide +kernel
theorem dX11_init_62 : decode cX11_init 62 = .ok (.putfield 27, 3) := by decide +kernel
theorem dX11_init_65 : decode cX11_init 65 = .ok (.aload_n 0, 1) := by decide +kernel
theorem dX11_init_66 : decode cX11_init 66 = .ok (.sipush 900, 3) := by decide +kernel
theorem dX11_init_69 : decode cX11_init 69 = .ok (.newarray .byte, 2) := by decide +kernel
theorem dX11_init_71 : decode cX11_init 71 = .ok (.putfield 30, 3) := by decide +kernel
theorem dX11_init_74 : decode cX11_init 74 = .ok (.aload_n 0, 1) := by decide +kernel
theorem dX11_init_75 : decode cX11_init 75 = .ok (.sipush 900, 3) := by decide +kernel
theorem dX11_init_78 : decode cX11_init 78 = .ok (.newarray .byte, 2) := by decide +kernel
theorem dX11_init_80 : decode cX11_init 80 = .ok (.putfield 34, 3) := by decide +kernel
theorem dX11_init_83 : decode cX11_init 83 = .ok (.aload_n 0, 1) := by decide +kernel
theorem dX11_init_84 : decode cX11_init 84 = .ok (.iconst (-1), 1) := by decide +kernel
theorem dX11_init_85 : decode cX11_init 85 = .ok (.putfield 37, 3) := by decide +kernel
theorem dX11_init_88 : decode cX11_init 88 = .ok (.aload_n 0, 1) := by decide +kernel
theorem dX11_init_89 : decode cX11_init 89 = .ok (.iconst (-1), 1) := by decide +kernel
theorem dX11_init_90 : decode cX11_init 90 = .ok (.putfield 41, 3) := by decide +kernel
theorem dX11_init_93 : decode cX11_init 93 = .ok (.aload_n 0, 1) := by decide +kernel
theorem dX11_init_94 : decode cX11_init 94 = .ok (.iconst 3, 1) := by decide +kernel
theorem dX11_init_95 : decode cX11_init 95 = .ok (.newarray .int, 2) := by decide +kernel
theorem dX11_init_97 : decode cX11_init 97 = .ok (.putfield 44, 3) := by decide +kernel
theorem dX11_init_100 : decode cX11_init 100 = .ok (.aload_n 0, 1) := by decide +kernel
theorem dX11_init_101 : decode cX11_init 101 = .ok (.iconst 5, 1) := by decide +kernel
theorem dX11_init_102 : decode cX11_init 102 = .ok (.newarray .int, 2) := by decide +kernel
theorem dX11_init_104 : decode cX11_init 104 = .ok (.putfield 47, 3) := by decide +kernel
theorem dX11_init_107 : decode cX11_init 107 = .ok (.aload_n 0, 1) := by decide +kernel
theorem dX11_init_108 : decode cX11_init 108 = .ok (.iconst 4, 1) := by decide +kernel
theorem dX11_init_109 : decode cX11_init 109 = .ok (.newarray .int, 2) := by decide +kernel
theorem dX11_init_111 : decode cX11_init 111 = .ok (.putfield 50, 3) := by decide +kernel
theorem dX11_init_114 : decode cX11_init 114 = .ok (.aload_n 0, 1) := by decide +kernel
theorem dX11_init_115 : decode cX11_init 115 = .ok (.iconst 4, 1) := by decide +kernel
theorem dX11_init_116 : decode cX11_init 116 = .ok (.newarray .int, 2) := by decide +kernel
theorem dX11_init_118 : decode cX11_init 118 = .ok (.putfield 53, 3) := by decide +kernel
theorem dX11_init_121 : decode cX11_init 121 = .ok (.aload_n 0, 1) := by decide +kernel
theorem dX11_init_122 : decode cX11_init 122 = .ok (.bipush 20, 2) := by decide +kernel
theorem dX11_init_124 : decode cX11_init 124 = .ok (.newarray .int, 2) := by decide +kernel
theorem dX11_init_126 : decode cX11_init 126 = .ok (.putfield 56, 3) := by decide +kernel
theorem dX11_init_129 : decode cX11_init 129 = .ok (.aload_n 0, 1) := by decide +kernel
theorem dX11_init_130 : decode cX11_init 130 = .ok (.sipush 256, 3) := by decide +kernel
theorem dX11_init_133 : decode cX11_init 133 = .ok (.newarray .int, 2) := by decide +kernel
theorem dX11_init_135 : decode cX11_init 135 = .ok (.putfield 59, 3) := by decide +kernel
theorem dX11_init_138 : decode cX11_init 138 = .ok (.aload_n 0, 1) := by decide +kernel
theorem dX11_init_139 : decode cX11_init 139 = .ok (.bipush 8, 2) := by decide +kernel
theorem dX11_init_141 : decode cX11_init 141 = .ok (.newarray .int, 2) := by decide +kernel
theorem dX11_init_143 : decode cX11_init 143 = .ok (.putfield 62, 3) := by decide +kernel
theorem dX11_init_146 : decode cX11_init 146 = .ok (.aload_n 0, 1) := by decide +kernel
theorem dX11_init_147 : decode cX11_init 147 = .ok (.bipush 80, 2) := by decide +kernel
theorem dX11_init_149 : decode cX11_init 149 = .ok (.newarray .int, 2) := by decide +kernel
theorem dX11_init_151 : decode cX11_init 151 = .ok (.putfield 65, 3) := by decide +kernel
theorem dX11_init_154 : decode cX11_init 154 = .ok (.aload_n 0, 1) := by decide +kernel
theorem dX11_init_155 : decode cX11_init 155 = .ok (.iconst 5, 1) := by decide +kernel
theorem dX11_init_156 : decode cX11_init 156 = .ok (.newarray .int, 2) := by decide +kernel
theorem dX11_init_158 : decode cX11_init 158 = .ok (.putfield 68, 3) := by decide +kernel
theorem dX11_init_161 : decode cX11_init 161 = .ok (.aload_n 0, 1) := by decide +kernel
theorem dX11_init_162 : decode cX11_init 162 = .ok (.iconst 5, 1) := by decide +kernel
theorem dX11_init_163 : decode cX11_init 163 = .ok (.newarray .int, 2) := by decide +kernel
theorem dX11_init_165 : decode cX11_init 165 = .ok (.putfield 71, 3) := by decide +kernel
theorem dX11_init_168 : decode cX11_init 168 = .ok (.aload_n 0, 1) := by decide +kernel
theorem dX11_init_169 : decode cX11_init 169 = .ok (.iconst 0, 1) := by decide +kernel
theorem dX11_init_170 : decode cX11_init 170 = .ok (.invokevirtual 74, 3) := by decide +kernel
theorem dX11_init_173 : decode cX11_init 173 = .ok (.return_, 1) := by decide +kernel
theorem dX0_init_0 : decode cX0_init 0 = .ok (.aload_n 0, 1) := by decide +kernel
theorem dX0_init_1 : decode cX0_init 1 = .ok (.invokespecial 3, 3) := by decide +kernel
theorem dX0_init_4 : decode cX0_init 4 = .ok (.aload_n 0, 1) := by decide +kernel
theorem dX0_init_5 : decode cX0_init 5 = .ok (.sipush 256, 3) := by decide +kernel
theorem dX0_init_8 : decode cX0_init 8 = .ok (.newarray .int, 2) := by decide +kernel
theorem dX0_init_10 : decode cX0_init 10 = .ok (.putfield 9, 3) := by decide +kernel
theorem dX0_init_13 : decode cX0_init 13 = .ok (.aload_n 0, 1) := by decide +kernel
theorem dX0_init_14 : decode cX0_init 14 = .ok (.bipush 8, 2) := by decide +kernel
theorem dX0_init_16 : decode cX0_init 16 = .ok (.newarray .int, 2) := by decide +kernel
theorem dX0_init_18 : decode cX0_init 18 = .ok (.putfield 15, 3) := by decide +kernel
theorem dX0_init_21 : decode cX0_init 21 = .ok (.return_, 1) := by decide +kernel
theorem dX1_init_0 : decode cX1_init 0 = .ok (.aload_n 0, 1) := by decide +kernel
theorem dX1_init_1 : decode cX1_init 1 = .ok (.invokespecial 3, 3) := by decide +kernel
theorem dX1_init_4 : decode cX1_init 4 = .ok (.aload_n 0, 1) := by decide +kernel
theorem dX1_init_5 : decode cX1_init 5 = .ok (.iconst 5, 1) := by decide +kernel
theorem dX1_init_6 : decode cX1_init 6 = .ok (.newarray .long, 2) := by decide +kernel
theorem dX1_init_8 : decode cX1_init 8 = .ok (.putfield 9, 3) := by decide +kernel
theorem dX1_init_11 : decode cX1_init 11 = .ok (.aload_n 0, 1) := by decide +kernel
theorem dX1_init_12 : decode cX1_init 12 = .ok (.iconst 5, 1) := by decide +kernel
theorem dX1_init_13 : decode cX1_init 13 = .ok (.newarray .int, 2) := by decide +kernel
theorem dX1_init_15 : decode cX1_init 15 = .ok (.putfield 15, 3) := by decide +kernel
theorem dX1_init_18 : decode cX1_init 18 = .ok (.aload_n 0, 1) := by decide +kernel
theorem dX1_init_19 : decode cX1_init 19 = .ok (.iconst 5, 1) := by decide +kernel
theorem dX1_init_20 : decode cX1_init 20 = .ok (.newarray .int, 2) := by decide +kernel
theorem dX1_init_22 : decode cX1_init 22 = .ok (.putfield 19, 3) := by decide +kernel
theorem dX1_init_25 : decode cX1_init 25 = .ok (.aload_n 0, 1) := by decide +kernel
theorem dX1_init_26 : decode cX1_init 26 = .ok (.bipush 20, 2) := by decide +kernel
theorem dX1_init_28 : decode cX1_init 28 = .ok (.newarray .int, 2) := by decide +kernel
theorem dX1_init_30 : decode cX1_init 30 = .ok (.putfield 22, 3) := by decide +kernel
theorem dX1_init_33 : decode cX1_init 33 = .ok (.aload_n 0, 1) := by decide +kernel
theorem dX1_init_34 : decode cX1_init 34 = .ok (.bipush 20, 2) := by decide +kernel
theorem dX1_init_36 : decode cX1_init 36 = .ok (.newarray .int, 2) := by decide +kernel
theorem dX1_init_38 : decode cX1_init 38 = .ok (.putfield 25, 3) := by decide +kernel
theorem dX1_init_41 : decode cX1_init 41 = .ok (.aload_n 0, 1) := by decide +kernel
theorem dX1_init_42 : decode cX1_init 42 = .ok (.bipush 20, 2) := by decide +kernel
theorem dX1_init_44 : decode cX1_init 44 = .ok (.newarray .int, 2) := by decide +kernel
theorem dX1_init_46 : decode cX1_init 46 = .ok (.putfield 28, 3) := by decide +kernel
theorem dX1_init_49 : decode cX1_init 49 = .ok (.aload_n 0, 1) := by decide +kernel
theorem dX1_init_50 : decode cX1_init 50 = .ok (.bipush 20, 2) := by decide +kernel
theorem dX1_init_52 : decode cX1_init 52 = .ok (.newarray .int, 2) := by decide +kernel
theorem dX1_init_54 : decode cX1_init 54 = .ok (.putfield 31, 3) := by decide +kernel
theorem dX1_init_57 : decode cX1_init 57 = .ok (.aload_n 0, 1) := by decide +kernel
theorem dX1_init_58 : decode cX1_init 58 = .ok (.bipush 8, 2) := by decide +kernel
theorem dX1_init_60 : decode cX1_init 60 = .ok (.newarray .long, 2) := by decide +kernel
theorem dX1_init_62 : decode cX1_init 62 = .ok (.putfield 34, 3) := by decide +kernel
theorem dX1_init_65 : decode cX1_init 65 = .ok (.aload_n 0, 1) := by decide +kernel
theorem dX1_init_66 : decode cX1_init 66 = .ok (.bipush 8, 2) := by decide +kernel
theorem dX1_init_68 : decode cX1_init 68 = .ok (.newarray .int, 2) := by decide +kernel
theorem dX1_init_70 : decode cX1_init 70 = .ok (.putfield 37, 3) := by decide +kernel
theorem dX1_init_73 : decode cX1_init 73 = .ok (.aload_n 0, 1) := by decide +kernel
theorem dX1_init_74 : decode cX1_init 74 = .ok (.bipush 8, 2) := by decide +kernel
theorem dX1_init_76 : decode cX1_init 76 = .ok (.newarray .int, 2) := by decide +kernel
theorem dX1_init_78 : decode cX1_init 78 = .ok (.putfield 40, 3) := by decide +kernel
theorem dX1_init_81 : decode cX1_init 81 = .ok (.aload_n 0, 1) := by decide +kernel
theorem dX1_init_82 : decode cX1_init 82 = .ok (.bipush 8, 2) := by decide +kernel
theorem dX1_init_84 : decode cX1_init 84 = .ok (.newarray .int, 2) := by decide +kernel
theorem dX1_init_86 : decode cX1_init 86 = .ok (.putfield 43, 3) := by decide +kernel
theorem dX1_init_89 : decode cX1_init 89 = .ok (.aload_n 0, 1) := by decide +kernel
theorem dX1_init_90 : decode cX1_init 90 = .ok (.bipush 8, 2) := by decide +kernel
theorem dX1_init_92 : decode cX1_init 92 = .ok (.newarray .int, 2) := by decide +kernel
theorem dX1_init_94 : decode cX1_init 94 = .ok (.putfield 46, 3) := by decide +kernel
theorem dX1_init_97 : decode cX1_init 97 = .ok (.aload_n 0, 1) := by decide +kernel
theorem dX1_init_98 : decode cX1_init 98 = .ok (.new 49, 3) := by decide +kernel
theorem dX1_init_101 : decode cX1_init 101 = .ok (.dup, 1) := by decide +kernel
theorem dX1_init_102 : decode cX1_init 102 = .ok (.invokespecial 51, 3) := by decide +kernel
theorem dX1_init_105 : decode cX1_init 105 = .ok (.putfield 52, 3) := by decide +kernel
theorem dX1_init_108 : decode cX1_init 108 = .ok (.aload_n 0, 1) := by decide +kernel
theorem dX1_init_109 : decode cX1_init 109 = .ok (.iconst 5, 1) := by decide +kernel
theorem dX1_init_110 : decode cX1_init 110 = .ok (.newarray .int, 2) := by decide +kernel
theorem dX1_init_112 : decode cX1_init 112 = .ok (.putfield 56, 3) := by decide +kernel
theorem dX1_init_115 : decode cX1_init 115 = .ok (.return_, 1) := by decide +kernel
theorem dX3_init_0 : decode cX3_init 0 = .ok (.aload_n 0, 1) := by decide +kernel
theorem dX3_init_1 : decode cX3_init 1 = .ok (.invokespecial 3, 3) := by decide +kernel
theorem dX3_init_4 : decode cX3_init 4 = .ok (.aload_n 0, 1) := by decide +kernel
theorem dX3_init_5 : decode cX3_init 5 = .ok (.bipush 60, 2) := by decide +kernel
theorem dX3_init_7 : decode cX3_init 7 = .ok (.newarray .int, 2) := by decide +kernel
theorem dX3_init_9 : decode cX3_init 9 = .ok (.putfield 9, 3) := by decide +kernel
theorem dX3_init_12 : decode cX3_init 12 = .ok (.return_, 1) := by decide +kernel
theorem dX5_init_0 : decode cX5_init 0 = .ok (.aload_n 0, 1) := by decide +kernel
theorem dX5_init_1 : decode cX5_init 1 = .ok (.invokespecial 3, 3) := by decide +kernel
theorem dX5_init_4 : decode cX5_init 4 = .ok (.aload_n 0, 1) := by decide +kernel
theorem dX5_init_5 : decode cX5_init 5 = .ok (.bipush 28, 2) := by decide +kernel
theorem dX5_init_7 : decode cX5_init 7 = .ok (.newarray .long, 2) := by decide +kernel
theorem dX5_init_9 : decode cX5_init 9 = .ok (.putfield 9, 3) := by decide +kernel
theorem dX5_init_12 : decode cX5_init 12 = .ok (.aload_n 0, 1) := by decide +kernel
theorem dX5_init_13 : decode cX5_init 13 = .ok (.sipush 900, 3) := by decide +kernel
theorem dX5_init_16 : decode cX5_init 16 = .ok (.newarray .byte, 2) := by decide +kernel
theorem dX5_init_18 : decode cX5_init 18 = .ok (.putfield 15, 3) := by decide +kernel
theorem dX5_init_21 : decode cX5_init 21 = .ok (.iconst 0, 1) := by decide +kernel
theorem dX5_init_22 : decode cX5_init 22 = .ok (.istore_n 1, 1) := by decide +kernel
theorem dX5_init_23 : decode cX5_init 23 = .ok (.lconst 0, 1) := by decide +kernel
theorem dX5_init_24 : decode cX5_init 24 = .ok (.lstore_n 2, 1) := by decide +kernel
theorem dX5_init_25 : decode cX5_init 25 = .ok (.iconst 0, 1) := by decide +kernel
theorem dX5_init_26 : decode cX5_init 26 = .ok (.istore 4, 2) := by decide +kernel
theorem dX5_init_28 : decode cX5_init 28 = .ok (.iload 4, 2) := by decide +kernel
theorem dX5_init_30 : decode cX5_init 30 = .ok (.ldc 19, 2) := by decide +kernel
theorem dX5_init_32 : decode cX5_init 32 = .ok (.invokevirtual 21, 3) := by decide +kernel
theorem dX5_init_35 : decode cX5_init 35 = .ok (.if_icmp .ge 56, 3) := by decide +kernel
theorem dX5_init_38 : decode cX5_init 38 = .ok (.iload_n 1, 1) := by decide +kernel
theorem dX5_init_39 : decode cX5_init 39 = .ok (.aload_n 0, 1) := by decide +kernel
theorem dX5_init_40 : decode cX5_init 40 = .ok (.getfield 9, 3) := by decide +kernel
theorem dX5_init_43 : decode cX5_init 43 = .ok (.arraylength, 1) := by decide +kernel
theorem dX5_init_44 : decode cX5_init 44 = .ok (.if_icmp .ge 47, 3) := by decide +kernel
theorem dX5_init_47 : decode cX5_init 47 = .ok (.ldc 19, 2) := by decide +kernel
theorem dX5_init_49 : decode cX5_init 49 = .ok (.iload 4, 2) := by decide +kernel
theorem dX5_init_51 : decode cX5_init 51 = .ok (.invokevirtual 27, 3) := by decide +kernel
theorem dX5_init_54 : decode cX5_init 54 = .ok (.istore 5, 2) := by decide +kernel
theorem dX5_init_56 : decode cX5_init 56 = .ok (.iload 5, 2) := by decide +kernel
theorem dX5_init_58 : decode cX5_init 58 = .ok (.bipush 32, 2) := by decide +kernel
theorem dX5_init_60 : decode cX5_init 60 = .ok (.if_icmp .ne 18, 3) := by decide +kernel
theorem dX5_init_63 : decode cX5_init 63 = .ok (.aload_n 0, 1) := by decide +kernel
theorem dX5_init_64 : decode cX5_init 64 = .ok (.getfield 9, 3) := by decide +kernel
theorem dX5_init_67 : decode cX5_init 67 = .ok (.iload_n 1, 1) := by decide +kernel
theorem dX5_init_68 : decode cX5_init 68 = .ok (.lload_n 2, 1) := by decide +kernel
theorem dX5_init_69 : decode cX5_init 69 = .ok (.lastore, 1) := by decide +kernel
theorem dX5_init_70 : decode cX5_init 70 = .ok (.iinc 1 1, 3) := by decide +kernel
theorem dX5_init_73 : decode cX5_init 73 = .ok (.lconst 0, 1) := by decide +kernel
theorem dX5_init_74 : decode cX5_init 74 = .ok (.lstore_n 2, 1) := by decide +kernel
theorem dX5_init_75 : decode cX5_init 75 = .ok (.goto 10, 3) := by decide +kernel
theorem dX5_init_78 : decode cX5_init 78 = .ok (.lload_n 2, 1) := by decide +kernel
theorem dX5_init_79 : decode cX5_init 79 = .ok (.iload 5, 2) := by decide +kernel
theorem dX5_init_81 : decode cX5_init 81 = .ok (.invokestatic 31, 3) := by decide +kernel
theorem dX5_init_84 : decode cX5_init 84 = .ok (.lstore_n 2, 1) := by decide +kernel
theorem dX5_init_85 : decode cX5_init 85 = .ok (.iinc 4 1, 3) := by decide +kernel
theorem dX5_init_88 : decode cX5_init 88 = .ok (.goto (-60), 3) := by decide +kernel
theorem dX5_init_91 : decode cX5_init 91 = .ok (.return_, 1) := by decide +kernel
theorem dX7_init_0 : decode cX7_init 0 = .ok (.aload_n 0, 1) := by decide +kernel
theorem dX7_init_1 : decode cX7_init 1 = .ok (.invokespecial 3, 3) := by decide +kernel
theorem dX7_init_4 : decode cX7_init 4 = .ok (.aload_n 0, 1) := by decide +kernel
theorem dX7_init_5 : decode cX7_init 5 = .ok (.bipush 60, 2) := by decide +kernel
theorem dX7_init_7 : decode cX7_init 7 = .ok (.newarray .int, 2) := by decide +kernel
theorem dX7_init_9 : decode cX7_init 9 = .ok (.putfield 9, 3) := by decide +kernel
theorem dX7_init_12 : decode cX7_init 12 = .ok (.aload_n 0, 1) := by decide +kernel
theorem dX7_init_13 : decode cX7_init 13 = .ok (.bipush 60, 2) := by decide +kernel
theorem dX7_init_15 : decode cX7_init 15 = .ok (.newarray .int, 2) := by decide +kernel
theorem dX7_init_17 : decode cX7_init 17 = .ok (.putfield 15, 3) := by decide +kernel
theorem dX7_init_20 : decode cX7_init 20 = .ok (.aload_n 0, 1) := by decide +kernel
theorem dX7_init_21 : decode cX7_init 21 = .ok (.bipush 60, 2) := by decide +kernel
theorem dX7_init_23 : decode cX7_init 23 = .ok (.newarray .int, 2) := by decide +kernel
theorem dX7_init_25 : decode cX7_init 25 = .ok (.putfield 18, 3) := by decide +kernel
theorem dX7_init_28 : decode cX7_init 28 = .ok (.aload_n 0, 1) := by decide +kernel
theorem dX7_init_29 : decode cX7_init 29 = .ok (.bipush 60, 2) := by decide +kernel
theorem dX7_init_31 : decode cX7_init 31 = .ok (.newarray .int, 2) := by decide +kernel
theorem dX7_init_33 : decode cX7_init 33 = .ok (.putfield 21, 3) := by decide +kernel
theorem dX7_init_36 : decode cX7_init 36 = .ok (.aload_n 0, 1) := by decide +kernel
theorem dX7_init_37 : decode cX7_init 37 = .ok (.iconst 3, 1) := by decide +kernel
theorem dX7_init_38 : decode cX7_init 38 = .ok (.newarray .int, 2) := by decide +kernel
theorem dX7_init_40 : decode cX7_init 40 = .ok (.putfield 24, 3) := by decide +kernel
theorem dX7_init_43 : decode cX7_init 43 = .ok (.return_, 1) := by decide +kernel
theorem dX8_init_0 : decode cX8_init 0 = .ok (.aload_n 0, 1) := by decide +kernel
theorem dX8_init_1 : decode cX8_init 1 = .ok (.invokespecial 3, 3) := by decide +kernel
theorem dX8_init_4 : decode cX8_init 4 = .ok (.aload_n 0, 1) := by decide +kernel
theorem dX8_init_5 : decode cX8_init 5 = .ok (.iconst 5, 1) := by decide +kernel
theorem dX8_init_6 : decode cX8_init 6 = .ok (.newarray .int, 2) := by decide +kernel
theorem dX8_init_8 : decode cX8_init 8 = .ok (.putfield 9, 3) := by decide +kernel
theorem dX8_init_11 : decode cX8_init 11 = .ok (.aload_n 0, 1) := by decide +kernel
theorem dX8_init_12 : decode cX8_init 12 = .ok (.iconst 5, 1) := by decide +kernel
theorem dX8_init_13 : decode cX8_init 13 = .ok (.newarray .int, 2) := by decide +kernel
theorem dX8_init_15 : decode cX8_init 15 = .ok (.putfield 15, 3) := by decide +kernel
theorem dX8_init_18 : decode cX8_init 18 = .ok (.aload_n 0, 1) := by decide +kernel
theorem dX8_init_19 : decode cX8_init 19 = .ok (.iconst 5, 1) := by decide +kernel
theorem dX8_init_20 : decode cX8_init 20 = .ok (.newarray .int, 2) := by decide +kernel
theorem dX8_init_22 : decode cX8_init 22 = .ok (.putfield 18, 3) := by decide +kernel
theorem dX8_init_25 : decode cX8_init 25 = .ok (.aload_n 0, 1) := by decide +kernel
theorem dX8_init_26 : decode cX8_init 26 = .ok (.sipush 720, 3) := by decide +kernel
theorem dX8_init_29 : decode cX8_init 29 = .ok (.newarray .int, 2) := by decide +kernel
theorem dX8_init_31 : decode cX8_init 31 = .ok (.putfield 21, 3) := by decide +kernel
theorem dX8_init_34 : decode cX8_init 34 = .ok (.return_, 1) := by decide +kernel
theorem dX9_init_0 : decode cX9_init 0 = .ok (.aload_n 0, 1) := by decide +kernel
theorem dX9_init_1 : decode cX9_init 1 = .ok (.invokespecial 3, 3) := by decide +kernel
theorem dX9_init_4 : decode cX9_init 4 = .ok (.aload_n 0, 1) := by decide +kernel
theorem dX9_init_5 : decode cX9_init 5 = .ok (.iconst (-1), 1) := by decide +kernel
theorem dX9_init_6 : decode cX9_init 6 = .ok (.putfield 9, 3) := by decide +kernel
theorem dX9_init_9 : decode cX9_init 9 = .ok (.aload_n 0, 1) := by decide +kernel
theorem dX9_init_10 : decode cX9_init 10 = .ok (.bipush 60, 2) := by decide +kernel
theorem dX9_init_12 : decode cX9_init 12 = .ok (.newarray .long, 2) := by decide +kernel
theorem dX9_init_14 : decode cX9_init 14 = .ok (.putfield 15, 3) := by decide +kernel
theorem dX9_init_17 : decode cX9_init 17 = .ok (.return_, 1) := by decide +kernel
noncomputable def X5_init_b28  (t5 : Int × Int × Int × jq_M) : Option ((Int × Int × Int × jq_M) ⊕ (jq_M)) :=
  (J0_length_8abf5 (jq_Z0 jq_zX) t5.2.2.2).bind fun v6 =>
  if t5.2.2.1 < v6 then
    jq_els (t5.2.2.2 2 0 = 3) <|
    if t5.1 < 28 then
      (J0_charAt_5068e (jq_Z0 jq_zX) t5.2.2.1 t5.2.2.2).bind fun v7 =>
      if v7 = 32 then
        jq_els (t5.2.2.2 2 0 = 3) <|
        (jq_sa t5.2.2.2 3 28 t5.1 t5.2.1).bind fun s10 =>
        jq_lt (jq_w (t5.1 + 1)) fun v11 =>
        jq_lt (jq_w (t5.2.2.1 + 1)) fun v12 =>
        some (.inl (v11, 0, v12, s10))
      
      else
        (X5_withLetter (jq_Z0 jq_zX) t5.2.1 v7 t5.2.2.2).bind fun v8 =>
        jq_lt (jq_w (t5.2.2.1 + 1)) fun v9 =>
        some (.inl (t5.1, v8, v9, t5.2.2.2))
    
    else
      some (.inr t5.2.2.2)
  
  else
    some (.inr t5.2.2.2)

noncomputable def X5_init_2 (σ : jq_M) : Option jq_M :=
  jq_lt (jq_al σ 3 (fun _ => 0)) fun s1 =>
  jq_lt (jq_st s1 2 0 3) fun s2 =>
  jq_lt (jq_al s2 4 (fun _ => 0)) fun s3 =>
  jq_lt (jq_st s3 2 1 4) fun s4 =>
  (jq_lp (X5_init_b28) (0, 0, 0, s4)).bind (fun e13 =>
    some e13
  )

set_option maxHeartbeats 8000000 in
set_option maxRecDepth 100000 in
theorem ctX5_init_2 {σ σ' : jq_M} (h : X5_init_2 σ = some σ') : jq_MI jq_zX yX5_init cX5_init 6 7 260 2 928 [jR 2] 3 σ 5 σ' := by
  refine jq_metI (own := RX5) (L0 := [(0, jR 2)]) (by decide) rfl rfl rfl rfl ?_
  intro X Γ hnl hlY hAO hRT
  refine jq_use2 (P := fun r => jq_RI jq_zX X 2 928 5 r) ?_ h hRT
  intro K0 hK0
  unfold X5_init_2
  refine jq_aload_n Γ.1 dX5_init_0 rfl 0 rfl (by decide) ?_
  refine jq_oinit Γ.1 (by decide) oi_RX5_3 oi_i oi_c rfl rfl dX5_init_1 ?_
  refine jq_aload_n Γ.1 dX5_init_4 rfl 0 rfl (by decide) ?_
  refine jq_bipush Γ.1 dX5_init_5 rfl ?_
  refine jq_newL Γ (by decide) hlY (by decide +kernel) rfl rfl rfl aw_long rfl rfl dX5_init_7 (fun Γ s1 => ?_)
  refine jq_aput Γ hlY ⟨2, rfl, by decide +kernel, by decide +kernel⟩ fl_RX5_9 rfl rfl rfl dX5_init_9 (fun s2 => ?_)
  refine jq_aload_n Γ.1 dX5_init_12 rfl 0 rfl (by decide) ?_
  refine jq_sipush Γ.1 dX5_init_13 rfl ?_
  refine jq_newB Γ (by decide) hlY (by decide +kernel) rfl rfl rfl aw_byte rfl rfl dX5_init_16 (fun Γ s3 => ?_)
  refine jq_aput Γ hlY ⟨2, rfl, by decide +kernel, by decide +kernel⟩ fl_RX5_15 rfl rfl rfl dX5_init_18 (fun s4 => ?_)
  refine jq_iconst Γ.1 dX5_init_21 rfl ?_
  refine jq_istore_n (L' := [(1, jI 0), (0, jR 2)]) Γ.1 dX5_init_22 rfl hnl rfl rfl ?_
  refine jq_lconst Γ.1 0 dX5_init_23 rfl rfl ?_
  refine jq_lstore_n (L' := [(2, jL 0), (1, jI 0), (0, jR 2)]) Γ.1 dX5_init_24 rfl hnl rfl rfl ?_
  refine jq_iconst Γ.1 dX5_init_25 rfl ?_
  refine jq_istore (L' := [(4, jI 0), (2, jL 0), (1, jI 0), (0, jR 2)]) Γ.1 dX5_init_26 hnl rfl rfl ?_
  refine jq_sub Γ.1 (L' := [(0, jR 2), (1, jI 0), (2, jL 0), (4, jI 0)]) [3, 2, 1, 0] rfl ?_
  refine jq_loop2 (C := fun (t5 : Int × Int × Int × jq_M) => jq_V jq_zX X (5, 2, 928, false) t5.2.2.2 28 [(0, jR 2), (1, jI t5.1), (2, jL t5.2.1), (4, jI t5.2.2.1)] []) (KX := fun (e13 : jq_M) => jq_V jq_zX X (5, 2, 928, false) e13 91 [] []) ?_ ?_ (0, 0, 0, s4)
  · intro K28_t5 hCt5 hXt5 t5
    unfold X5_init_b28
    refine jq_iload Γ.1 dX5_init_28 3 rfl ?_
    refine jq_ldcS Γ.1 dX5_init_30 rfl rfl ?_
    refine jq_bind0 (fun v6 hv6 => ?_)
    refine jq_mono (fun kk => jq_virtT0 (avs := []) (st := [jI t5.2.2.1]) Γ.1 rfl ml_RX5_21 rfl rfl rfl rfl rfl rfl dX5_init_32 (ctJ0_length_8abf5 hv6) kk) ?_
    refine jq_icmp_ge (tgt := 91) Γ.1 dX5_init_35 rfl ?_ ?_
    · refine jq_sub Γ.1 (L' := []) [] rfl ?_
      exact jq_done (hXt5 t5.2.2.2)
    · refine jq_iload_n Γ.1 dX5_init_38 rfl 1 rfl ?_
      refine jq_aload_n Γ.1 dX5_init_39 rfl 0 rfl (by decide) ?_
      refine jq_ageT (J := 0) Γ.1 ⟨2, rfl, by decide +kernel, by decide +kernel⟩ fl_RX5_9 rfl rfl dX5_init_40 ?_
      refine jq_alen (t := 1) (n := 28) Γ.1 ⟨3, rfl, by decide +kernel, by decide +kernel⟩ rfl rfl rfl dX5_init_43 ?_
      refine jq_icmp_ge (tgt := 91) Γ.1 dX5_init_44 rfl ?_ ?_
      · refine jq_sub Γ.1 (L' := []) [] rfl ?_
        exact jq_done (hXt5 t5.2.2.2)
      · refine jq_ldcS Γ.1 dX5_init_47 rfl rfl ?_
        refine jq_iload Γ.1 dX5_init_49 3 rfl ?_
        refine jq_bind0 (fun v7 hv7 => ?_)
        refine jq_mono (fun kk => jq_virtT0 (avs := [jI t5.2.2.1]) (st := []) Γ.1 rfl ml_RX5_27 rfl rfl rfl rfl rfl rfl dX5_init_51 (ctJ0_charAt_5068e hv7) kk) ?_
        refine jq_istore (L' := [(5, jI v7), (0, jR 2), (1, jI t5.1), (2, jL t5.2.1), (4, jI t5.2.2.1)]) Γ.1 dX5_init_54 hnl rfl rfl ?_
        refine jq_iload Γ.1 dX5_init_56 0 rfl ?_
        refine jq_bipush Γ.1 dX5_init_58 rfl ?_
        refine jq_icmp_ne (tgt := 78) Γ.1 dX5_init_60 rfl ?_ ?_
        · refine jq_lload_n Γ.1 dX5_init_78 rfl 3 rfl ?_
          refine jq_iload Γ.1 dX5_init_79 0 rfl ?_
          refine jq_bind0 (fun v8 hv8 => ?_)
          refine jq_mono (fun kk => jq_statT0 (avs := [jL t5.2.1, jI v7]) (st := []) Γ.1 rfl ml_RX5_31 rfl rfl rfl rfl rfl dX5_init_81 (ctX5_withLetter hv8) kk) ?_
          refine jq_lstore_n (L' := [(2, jL v8), (5, jI v7), (0, jR 2), (1, jI t5.1), (4, jI t5.2.2.1)]) Γ.1 dX5_init_84 rfl hnl rfl rfl ?_
          refine jq_iincN (L' := fun v9 => [(4, jI v9), (2, jL v8), (5, jI v7), (0, jR 2), (1, jI t5.1)]) Γ.1 dX5_init_85 4 rfl hnl rfl (fun _ => rfl) (fun v9 => ?_)
          refine jq_goto Γ.1 (tgt := 28) dX5_init_88 rfl ?_
          refine jq_sub Γ.1 (L' := [(0, jR 2), (1, jI t5.1), (2, jL v8), (4, jI v9)]) [3, 4, 1, 0] rfl ?_
          exact jq_done (hCt5 (t5.1, v8, v9, t5.2.2.2))
        · refine jq_aload_n Γ.1 dX5_init_63 rfl 1 rfl (by decide) ?_
          refine jq_ageT (J := 0) Γ.1 ⟨2, rfl, by decide +kernel, by decide +kernel⟩ fl_RX5_9 rfl rfl dX5_init_64 ?_
          refine jq_iload_n Γ.1 dX5_init_67 rfl 2 rfl ?_
          refine jq_lload_n Γ.1 dX5_init_68 rfl 3 rfl ?_
          refine jq_last Γ.1 ⟨3, rfl, by decide +kernel, by decide +kernel⟩ rfl dX5_init_69 (fun s10 => ?_)
          refine jq_iincN (L' := fun v11 => [(1, jI v11), (5, jI v7), (0, jR 2), (2, jL t5.2.1), (4, jI t5.2.2.1)]) Γ.1 dX5_init_70 2 rfl hnl rfl (fun _ => rfl) (fun v11 => ?_)
          refine jq_lconst Γ.1 0 dX5_init_73 rfl rfl ?_
          refine jq_lstore_n (L' := [(2, jL 0), (1, jI v11), (5, jI v7), (0, jR 2), (4, jI t5.2.2.1)]) Γ.1 dX5_init_74 rfl hnl rfl rfl ?_
          refine jq_goto Γ.1 (tgt := 85) dX5_init_75 rfl ?_
          refine jq_iincN (L' := fun v12 => [(4, jI v12), (2, jL 0), (1, jI v11), (5, jI v7), (0, jR 2)]) Γ.1 dX5_init_85 4 rfl hnl rfl (fun _ => rfl) (fun v12 => ?_)
          refine jq_goto Γ.1 (tgt := 28) dX5_init_88 rfl ?_
          refine jq_sub Γ.1 (L' := [(0, jR 2), (1, jI v11), (2, jL 0), (4, jI v12)]) [4, 2, 1, 0] rfl ?_
          exact jq_done (hCt5 (v11, 0, v12, s10))
  · intro e13
    exact jq_ireti Γ dX5_init_91 (hK0 _)


noncomputable def X7_init_18 (σ : jq_M) : Option jq_M :=
  jq_lt (jq_al σ 19 (fun _ => 0)) fun s1 =>
  jq_lt (jq_st s1 18 3 19) fun s2 =>
  jq_lt (jq_al s2 20 (fun _ => 0)) fun s3 =>
  jq_lt (jq_st s3 18 4 20) fun s4 =>
  jq_lt (jq_al s4 21 (fun _ => 0)) fun s5 =>
  jq_lt (jq_st s5 18 5 21) fun s6 =>
  jq_lt (jq_al s6 22 (fun _ => 0)) fun s7 =>
  jq_lt (jq_st s7 18 6 22) fun s8 =>
  jq_lt (jq_al s8 23 (fun _ => 0)) fun s9 =>
  jq_lt (jq_st s9 18 7 23) fun s10 =>
  some s10

set_option maxHeartbeats 8000000 in
set_option maxRecDepth 100000 in
theorem ctX7_init_18 {σ σ' : jq_M} (h : X7_init_18 σ = some σ') : jq_MI jq_zX yX7_init cX7_init 1 1 60 5 243 [jR 18] 19 σ 24 σ' := by
  refine jq_metI (own := RX7) (L0 := [(0, jR 18)]) (by decide) rfl rfl rfl rfl ?_
  intro X Γ hnl hlY hAO hRT
  refine jq_use2 (P := fun r => jq_RI jq_zX X 5 243 24 r) ?_ h hRT
  intro K0 hK0
  unfold X7_init_18
  refine jq_aload_n Γ.1 dX7_init_0 rfl 0 rfl (by decide) ?_
  refine jq_oinit Γ.1 (by decide) oi_RX7_3 oi_i oi_c rfl rfl dX7_init_1 ?_
  refine jq_aload_n Γ.1 dX7_init_4 rfl 0 rfl (by decide) ?_
  refine jq_bipush Γ.1 dX7_init_5 rfl ?_
  refine jq_newI Γ (by decide) hlY (by decide +kernel) rfl rfl rfl aw_int rfl rfl dX7_init_7 (fun Γ s1 => ?_)
  refine jq_aput Γ hlY ⟨18, rfl, by decide +kernel, by decide +kernel⟩ fl_RX7_9 rfl rfl rfl dX7_init_9 (fun s2 => ?_)
  refine jq_aload_n Γ.1 dX7_init_12 rfl 0 rfl (by decide) ?_
  refine jq_bipush Γ.1 dX7_init_13 rfl ?_
  refine jq_newI Γ (by decide) hlY (by decide +kernel) rfl rfl rfl aw_int rfl rfl dX7_init_15 (fun Γ s3 => ?_)
  refine jq_aput Γ hlY ⟨18, rfl, by decide +kernel, by decide +kernel⟩ fl_RX7_15 rfl rfl rfl dX7_init_17 (fun s4 => ?_)
  refine jq_aload_n Γ.1 dX7_init_20 rfl 0 rfl (by decide) ?_
  refine jq_bipush Γ.1 dX7_init_21 rfl ?_
  refine jq_newI Γ (by decide) hlY (by decide +kernel) rfl rfl rfl aw_int rfl rfl dX7_init_23 (fun Γ s5 => ?_)
  refine jq_aput Γ hlY ⟨18, rfl, by decide +kernel, by decide +kernel⟩ fl_RX7_18 rfl rfl rfl dX7_init_25 (fun s6 => ?_)
  refine jq_aload_n Γ.1 dX7_init_28 rfl 0 rfl (by decide) ?_
  refine jq_bipush Γ.1 dX7_init_29 rfl ?_
  refine jq_newI Γ (by decide) hlY (by decide +kernel) rfl rfl rfl aw_int rfl rfl dX7_init_31 (fun Γ s7 => ?_)
  refine jq_aput Γ hlY ⟨18, rfl, by decide +kernel, by decide +kernel⟩ fl_RX7_21 rfl rfl rfl dX7_init_33 (fun s8 => ?_)
  refine jq_aload_n Γ.1 dX7_init_36 rfl 0 rfl (by decide) ?_
  refine jq_iconst Γ.1 dX7_init_37 rfl ?_
  refine jq_newI Γ (by decide) hlY (by decide +kernel) rfl rfl rfl aw_int rfl rfl dX7_init_38 (fun Γ s9 => ?_)
  refine jq_aput Γ hlY ⟨18, rfl, by decide +kernel, by decide +kernel⟩ fl_RX7_24 rfl rfl rfl dX7_init_40 (fun s10 => ?_)
  exact jq_ireti Γ dX7_init_43 (hK0 _)


noncomputable def X1_init_5 (σ : jq_M) : Option jq_M :=
  jq_lt (jq_al σ 6 (fun _ => 0)) fun s1 =>
  jq_lt (jq_st s1 5 7 6) fun s2 =>
  jq_lt (jq_al s2 7 (fun _ => 0)) fun s3 =>
  jq_lt (jq_st s3 5 8 7) fun s4 =>
  jq_lt (jq_al s4 8 (fun _ => 0)) fun s5 =>
  jq_lt (jq_st s5 5 9 8) fun s6 =>
  jq_lt (jq_al s6 9 (fun _ => 0)) fun s7 =>
  jq_lt (jq_st s7 5 10 9) fun s8 =>
  jq_lt (jq_al s8 10 (fun _ => 0)) fun s9 =>
  jq_lt (jq_st s9 5 11 10) fun s10 =>
  jq_lt (jq_al s10 11 (fun _ => 0)) fun s11 =>
  jq_lt (jq_st s11 5 12 11) fun s12 =>
  jq_lt (jq_al s12 12 (fun _ => 0)) fun s13 =>
  jq_lt (jq_st s13 5 13 12) fun s14 =>
  jq_lt (jq_al s14 13 (fun _ => 0)) fun s15 =>
  jq_lt (jq_st s15 5 14 13) fun s16 =>
  jq_lt (jq_al s16 14 (fun _ => 0)) fun s17 =>
  jq_lt (jq_st s17 5 15 14) fun s18 =>
  jq_lt (jq_al s18 15 (fun _ => 0)) fun s19 =>
  jq_lt (jq_st s19 5 16 15) fun s20 =>
  jq_lt (jq_al s20 16 (fun _ => 0)) fun s21 =>
  jq_lt (jq_st s21 5 17 16) fun s22 =>
  jq_lt (jq_al s22 17 (fun _ => 0)) fun s23 =>
  jq_lt (jq_st s23 5 18 17) fun s24 =>
  jq_lt (jq_al s24 18 (jq_df 4)) fun s25 =>
  (X7_init_18 s25).bind fun s26 =>
  jq_lt (jq_st s26 5 19 18) fun s27 =>
  jq_lt (jq_al s27 24 (fun _ => 0)) fun s28 =>
  jq_lt (jq_st s28 5 20 24) fun s29 =>
  some s29

set_option maxHeartbeats 8000000 in
set_option maxRecDepth 100000 in
theorem ctX1_init_5 {σ σ' : jq_M} (h : X1_init_5 σ = some σ') : jq_MI jq_zX yX1_init cX1_init 1 2 80 19 392 [jR 5] 6 σ 25 σ' := by
  refine jq_metI (own := RX1) (L0 := [(0, jR 5)]) (by decide) rfl rfl rfl rfl ?_
  intro X Γ hnl hlY hAO hRT
  refine jq_use2 (P := fun r => jq_RI jq_zX X 19 392 25 r) ?_ h hRT
  intro K0 hK0
  unfold X1_init_5
  refine jq_aload_n Γ.1 dX1_init_0 rfl 0 rfl (by decide) ?_
  refine jq_oinit Γ.1 (by decide) oi_RX1_3 oi_i oi_c rfl rfl dX1_init_1 ?_
  refine jq_aload_n Γ.1 dX1_init_4 rfl 0 rfl (by decide) ?_
  refine jq_iconst Γ.1 dX1_init_5 rfl ?_
  refine jq_newL Γ (by decide) hlY (by decide +kernel) rfl rfl rfl aw_long rfl rfl dX1_init_6 (fun Γ s1 => ?_)
  refine jq_aput Γ hlY ⟨5, rfl, by decide +kernel, by decide +kernel⟩ fl_RX1_9 rfl rfl rfl dX1_init_8 (fun s2 => ?_)
  refine jq_aload_n Γ.1 dX1_init_11 rfl 0 rfl (by decide) ?_
  refine jq_iconst Γ.1 dX1_init_12 rfl ?_
  refine jq_newI Γ (by decide) hlY (by decide +kernel) rfl rfl rfl aw_int rfl rfl dX1_init_13 (fun Γ s3 => ?_)
  refine jq_aput Γ hlY ⟨5, rfl, by decide +kernel, by decide +kernel⟩ fl_RX1_15 rfl rfl rfl dX1_init_15 (fun s4 => ?_)
  refine jq_aload_n Γ.1 dX1_init_18 rfl 0 rfl (by decide) ?_
  refine jq_iconst Γ.1 dX1_init_19 rfl ?_
  refine jq_newI Γ (by decide) hlY (by decide +kernel) rfl rfl rfl aw_int rfl rfl dX1_init_20 (fun Γ s5 => ?_)
  refine jq_aput Γ hlY ⟨5, rfl, by decide +kernel, by decide +kernel⟩ fl_RX1_19 rfl rfl rfl dX1_init_22 (fun s6 => ?_)
  refine jq_aload_n Γ.1 dX1_init_25 rfl 0 rfl (by decide) ?_
  refine jq_bipush Γ.1 dX1_init_26 rfl ?_
  refine jq_newI Γ (by decide) hlY (by decide +kernel) rfl rfl rfl aw_int rfl rfl dX1_init_28 (fun Γ s7 => ?_)
  refine jq_aput Γ hlY ⟨5, rfl, by decide +kernel, by decide +kernel⟩ fl_RX1_22 rfl rfl rfl dX1_init_30 (fun s8 => ?_)
  refine jq_aload_n Γ.1 dX1_init_33 rfl 0 rfl (by decide) ?_
  refine jq_bipush Γ.1 dX1_init_34 rfl ?_
  refine jq_newI Γ (by decide) hlY (by decide +kernel) rfl rfl rfl aw_int rfl rfl dX1_init_36 (fun Γ s9 => ?_)
  refine jq_aput Γ hlY ⟨5, rfl, by decide +kernel, by decide +kernel⟩ fl_RX1_25 rfl rfl rfl dX1_init_38 (fun s10 => ?_)
  refine jq_aload_n Γ.1 dX1_init_41 rfl 0 rfl (by decide) ?_
  refine jq_bipush Γ.1 dX1_init_42 rfl ?_
  refine jq_newI Γ (by decide) hlY (by decide +kernel) rfl rfl rfl aw_int rfl rfl dX1_init_44 (fun Γ s11 => ?_)
  refine jq_aput Γ hlY ⟨5, rfl, by decide +kernel, by decide +kernel⟩ fl_RX1_28 rfl rfl rfl dX1_init_46 (fun s12 => ?_)
  refine jq_aload_n Γ.1 dX1_init_49 rfl 0 rfl (by decide) ?_
  refine jq_bipush Γ.1 dX1_init_50 rfl ?_
  refine jq_newI Γ (by decide) hlY (by decide +kernel) rfl rfl rfl aw_int rfl rfl dX1_init_52 (fun Γ s13 => ?_)
  refine jq_aput Γ hlY ⟨5, rfl, by decide +kernel, by decide +kernel⟩ fl_RX1_31 rfl rfl rfl dX1_init_54 (fun s14 => ?_)
  refine jq_aload_n Γ.1 dX1_init_57 rfl 0 rfl (by decide) ?_
  refine jq_bipush Γ.1 dX1_init_58 rfl ?_
  refine jq_newL Γ (by decide) hlY (by decide +kernel) rfl rfl rfl aw_long rfl rfl dX1_init_60 (fun Γ s15 => ?_)
  refine jq_aput Γ hlY ⟨5, rfl, by decide +kernel, by decide +kernel⟩ fl_RX1_34 rfl rfl rfl dX1_init_62 (fun s16 => ?_)
  refine jq_aload_n Γ.1 dX1_init_65 rfl 0 rfl (by decide) ?_
  refine jq_bipush Γ.1 dX1_init_66 rfl ?_
  refine jq_newI Γ (by decide) hlY (by decide +kernel) rfl rfl rfl aw_int rfl rfl dX1_init_68 (fun Γ s17 => ?_)
  refine jq_aput Γ hlY ⟨5, rfl, by decide +kernel, by decide +kernel⟩ fl_RX1_37 rfl rfl rfl dX1_init_70 (fun s18 => ?_)
  refine jq_aload_n Γ.1 dX1_init_73 rfl 0 rfl (by decide) ?_
  refine jq_bipush Γ.1 dX1_init_74 rfl ?_
  refine jq_newI Γ (by decide) hlY (by decide +kernel) rfl rfl rfl aw_int rfl rfl dX1_init_76 (fun Γ s19 => ?_)
  refine jq_aput Γ hlY ⟨5, rfl, by decide +kernel, by decide +kernel⟩ fl_RX1_40 rfl rfl rfl dX1_init_78 (fun s20 => ?_)
  refine jq_aload_n Γ.1 dX1_init_81 rfl 0 rfl (by decide) ?_
  refine jq_bipush Γ.1 dX1_init_82 rfl ?_
  refine jq_newI Γ (by decide) hlY (by decide +kernel) rfl rfl rfl aw_int rfl rfl dX1_init_84 (fun Γ s21 => ?_)
  refine jq_aput Γ hlY ⟨5, rfl, by decide +kernel, by decide +kernel⟩ fl_RX1_43 rfl rfl rfl dX1_init_86 (fun s22 => ?_)
  refine jq_aload_n Γ.1 dX1_init_89 rfl 0 rfl (by decide) ?_
  refine jq_bipush Γ.1 dX1_init_90 rfl ?_
  refine jq_newI Γ (by decide) hlY (by decide +kernel) rfl rfl rfl aw_int rfl rfl dX1_init_92 (fun Γ s23 => ?_)
  refine jq_aput Γ hlY ⟨5, rfl, by decide +kernel, by decide +kernel⟩ fl_RX1_46 rfl rfl rfl dX1_init_94 (fun s24 => ?_)
  refine jq_aload_n Γ.1 dX1_init_97 rfl 0 rfl (by decide) ?_
  refine jq_new Γ (by decide) hlY cls_X7 (by decide +kernel) rfl nw_RX1_49 nwi_X7 nwz_X7 rfl rfl dX1_init_98 (fun Γ s25 => ?_)
  refine jq_dup Γ.1 dX1_init_101 rfl ?_
  refine jq_cinitN Γ (by decide) hlY hAO ml_RX1_51 (by decide) rfl rfl rfl rfl rfl rfl rfl dX1_init_102 (fun σ' h => ctX7_init_18 h) (fun Γ s26 => ?_)
  refine jq_aput Γ hlY ⟨5, rfl, by decide +kernel, by decide +kernel⟩ fl_RX1_52 rfl rfl rfl dX1_init_105 (fun s27 => ?_)
  refine jq_aload_n Γ.1 dX1_init_108 rfl 0 rfl (by decide) ?_
  refine jq_iconst Γ.1 dX1_init_109 rfl ?_
  refine jq_newI Γ (by decide) hlY (by decide +kernel) rfl rfl rfl aw_int rfl rfl dX1_init_110 (fun Γ s28 => ?_)
  refine jq_aput Γ hlY ⟨5, rfl, by decide +kernel, by decide +kernel⟩ fl_RX1_56 rfl rfl rfl dX1_init_112 (fun s29 => ?_)
  exact jq_ireti Γ dX1_init_115 (hK0 _)


noncomputable def X7_init_38 (σ : jq_M) : Option jq_M :=
  jq_lt (jq_al σ 39 (fun _ => 0)) fun s1 =>
  jq_lt (jq_st s1 38 3 39) fun s2 =>
  jq_lt (jq_al s2 40 (fun _ => 0)) fun s3 =>
  jq_lt (jq_st s3 38 4 40) fun s4 =>
  jq_lt (jq_al s4 41 (fun _ => 0)) fun s5 =>
  jq_lt (jq_st s5 38 5 41) fun s6 =>
  jq_lt (jq_al s6 42 (fun _ => 0)) fun s7 =>
  jq_lt (jq_st s7 38 6 42) fun s8 =>
  jq_lt (jq_al s8 43 (fun _ => 0)) fun s9 =>
  jq_lt (jq_st s9 38 7 43) fun s10 =>
  some s10

set_option maxHeartbeats 8000000 in
set_option maxRecDepth 100000 in
theorem ctX7_init_38 {σ σ' : jq_M} (h : X7_init_38 σ = some σ') : jq_MI jq_zX yX7_init cX7_init 1 1 60 5 243 [jR 38] 39 σ 44 σ' := by
  refine jq_metI (own := RX7) (L0 := [(0, jR 38)]) (by decide) rfl rfl rfl rfl ?_
  intro X Γ hnl hlY hAO hRT
  refine jq_use2 (P := fun r => jq_RI jq_zX X 5 243 44 r) ?_ h hRT
  intro K0 hK0
  unfold X7_init_38
  refine jq_aload_n Γ.1 dX7_init_0 rfl 0 rfl (by decide) ?_
  refine jq_oinit Γ.1 (by decide) oi_RX7_3 oi_i oi_c rfl rfl dX7_init_1 ?_
  refine jq_aload_n Γ.1 dX7_init_4 rfl 0 rfl (by decide) ?_
  refine jq_bipush Γ.1 dX7_init_5 rfl ?_
  refine jq_newI Γ (by decide) hlY (by decide +kernel) rfl rfl rfl aw_int rfl rfl dX7_init_7 (fun Γ s1 => ?_)
  refine jq_aput Γ hlY ⟨38, rfl, by decide +kernel, by decide +kernel⟩ fl_RX7_9 rfl rfl rfl dX7_init_9 (fun s2 => ?_)
  refine jq_aload_n Γ.1 dX7_init_12 rfl 0 rfl (by decide) ?_
  refine jq_bipush Γ.1 dX7_init_13 rfl ?_
  refine jq_newI Γ (by decide) hlY (by decide +kernel) rfl rfl rfl aw_int rfl rfl dX7_init_15 (fun Γ s3 => ?_)
  refine jq_aput Γ hlY ⟨38, rfl, by decide +kernel, by decide +kernel⟩ fl_RX7_15 rfl rfl rfl dX7_init_17 (fun s4 => ?_)
  refine jq_aload_n Γ.1 dX7_init_20 rfl 0 rfl (by decide) ?_
  refine jq_bipush Γ.1 dX7_init_21 rfl ?_
  refine jq_newI Γ (by decide) hlY (by decide +kernel) rfl rfl rfl aw_int rfl rfl dX7_init_23 (fun Γ s5 => ?_)
  refine jq_aput Γ hlY ⟨38, rfl, by decide +kernel, by decide +kernel⟩ fl_RX7_18 rfl rfl rfl dX7_init_25 (fun s6 => ?_)
  refine jq_aload_n Γ.1 dX7_init_28 rfl 0 rfl (by decide) ?_
  refine jq_bipush Γ.1 dX7_init_29 rfl ?_
  refine jq_newI Γ (by decide) hlY (by decide +kernel) rfl rfl rfl aw_int rfl rfl dX7_init_31 (fun Γ s7 => ?_)
  refine jq_aput Γ hlY ⟨38, rfl, by decide +kernel, by decide +kernel⟩ fl_RX7_21 rfl rfl rfl dX7_init_33 (fun s8 => ?_)
  refine jq_aload_n Γ.1 dX7_init_36 rfl 0 rfl (by decide) ?_
  refine jq_iconst Γ.1 dX7_init_37 rfl ?_
  refine jq_newI Γ (by decide) hlY (by decide +kernel) rfl rfl rfl aw_int rfl rfl dX7_init_38 (fun Γ s9 => ?_)
  refine jq_aput Γ hlY ⟨38, rfl, by decide +kernel, by decide +kernel⟩ fl_RX7_24 rfl rfl rfl dX7_init_40 (fun s10 => ?_)
  exact jq_ireti Γ dX7_init_43 (hK0 _)


noncomputable def X1_init_25 (σ : jq_M) : Option jq_M :=
  jq_lt (jq_al σ 26 (fun _ => 0)) fun s1 =>
  jq_lt (jq_st s1 25 7 26) fun s2 =>
  jq_lt (jq_al s2 27 (fun _ => 0)) fun s3 =>
  jq_lt (jq_st s3 25 8 27) fun s4 =>
  jq_lt (jq_al s4 28 (fun _ => 0)) fun s5 =>
  jq_lt (jq_st s5 25 9 28) fun s6 =>
  jq_lt (jq_al s6 29 (fun _ => 0)) fun s7 =>
  jq_lt (jq_st s7 25 10 29) fun s8 =>
  jq_lt (jq_al s8 30 (fun _ => 0)) fun s9 =>
  jq_lt (jq_st s9 25 11 30) fun s10 =>
  jq_lt (jq_al s10 31 (fun _ => 0)) fun s11 =>
  jq_lt (jq_st s11 25 12 31) fun s12 =>
  jq_lt (jq_al s12 32 (fun _ => 0)) fun s13 =>
  jq_lt (jq_st s13 25 13 32) fun s14 =>
  jq_lt (jq_al s14 33 (fun _ => 0)) fun s15 =>
  jq_lt (jq_st s15 25 14 33) fun s16 =>
  jq_lt (jq_al s16 34 (fun _ => 0)) fun s17 =>
  jq_lt (jq_st s17 25 15 34) fun s18 =>
  jq_lt (jq_al s18 35 (fun _ => 0)) fun s19 =>
  jq_lt (jq_st s19 25 16 35) fun s20 =>
  jq_lt (jq_al s20 36 (fun _ => 0)) fun s21 =>
  jq_lt (jq_st s21 25 17 36) fun s22 =>
  jq_lt (jq_al s22 37 (fun _ => 0)) fun s23 =>
  jq_lt (jq_st s23 25 18 37) fun s24 =>
  jq_lt (jq_al s24 38 (jq_df 4)) fun s25 =>
  (X7_init_38 s25).bind fun s26 =>
  jq_lt (jq_st s26 25 19 38) fun s27 =>
  jq_lt (jq_al s27 44 (fun _ => 0)) fun s28 =>
  jq_lt (jq_st s28 25 20 44) fun s29 =>
  some s29

set_option maxHeartbeats 8000000 in
set_option maxRecDepth 100000 in
theorem ctX1_init_25 {σ σ' : jq_M} (h : X1_init_25 σ = some σ') : jq_MI jq_zX yX1_init cX1_init 1 2 80 19 392 [jR 25] 26 σ 45 σ' := by
  refine jq_metI (own := RX1) (L0 := [(0, jR 25)]) (by decide) rfl rfl rfl rfl ?_
  intro X Γ hnl hlY hAO hRT
  refine jq_use2 (P := fun r => jq_RI jq_zX X 19 392 45 r) ?_ h hRT
  intro K0 hK0
  unfold X1_init_25
  refine jq_aload_n Γ.1 dX1_init_0 rfl 0 rfl (by decide) ?_
  refine jq_oinit Γ.1 (by decide) oi_RX1_3 oi_i oi_c rfl rfl dX1_init_1 ?_
  refine jq_aload_n Γ.1 dX1_init_4 rfl 0 rfl (by decide) ?_
  refine jq_iconst Γ.1 dX1_init_5 rfl ?_
  refine jq_newL Γ (by decide) hlY (by decide +kernel) rfl rfl rfl aw_long rfl rfl dX1_init_6 (fun Γ s1 => ?_)
  refine jq_aput Γ hlY ⟨25, rfl, by decide +kernel, by decide +kernel⟩ fl_RX1_9 rfl rfl rfl dX1_init_8 (fun s2 => ?_)
  refine jq_aload_n Γ.1 dX1_init_11 rfl 0 rfl (by decide) ?_
  refine jq_iconst Γ.1 dX1_init_12 rfl ?_
  refine jq_newI Γ (by decide) hlY (by decide +kernel) rfl rfl rfl aw_int rfl rfl dX1_init_13 (fun Γ s3 => ?_)
  refine jq_aput Γ hlY ⟨25, rfl, by decide +kernel, by decide +kernel⟩ fl_RX1_15 rfl rfl rfl dX1_init_15 (fun s4 => ?_)
  refine jq_aload_n Γ.1 dX1_init_18 rfl 0 rfl (by decide) ?_
  refine jq_iconst Γ.1 dX1_init_19 rfl ?_
  refine jq_newI Γ (by decide) hlY (by decide +kernel) rfl rfl rfl aw_int rfl rfl dX1_init_20 (fun Γ s5 => ?_)
  refine jq_aput Γ hlY ⟨25, rfl, by decide +kernel, by decide +kernel⟩ fl_RX1_19 rfl rfl rfl dX1_init_22 (fun s6 => ?_)
  refine jq_aload_n Γ.1 dX1_init_25 rfl 0 rfl (by decide) ?_
  refine jq_bipush Γ.1 dX1_init_26 rfl ?_
  refine jq_newI Γ (by decide) hlY (by decide +kernel) rfl rfl rfl aw_int rfl rfl dX1_init_28 (fun Γ s7 => ?_)
  refine jq_aput Γ hlY ⟨25, rfl, by decide +kernel, by decide +kernel⟩ fl_RX1_22 rfl rfl rfl dX1_init_30 (fun s8 => ?_)
  refine jq_aload_n Γ.1 dX1_init_33 rfl 0 rfl (by decide) ?_
  refine jq_bipush Γ.1 dX1_init_34 rfl ?_
  refine jq_newI Γ (by decide) hlY (by decide +kernel) rfl rfl rfl aw_int rfl rfl dX1_init_36 (fun Γ s9 => ?_)
  refine jq_aput Γ hlY ⟨25, rfl, by decide +kernel, by decide +kernel⟩ fl_RX1_25 rfl rfl rfl dX1_init_38 (fun s10 => ?_)
  refine jq_aload_n Γ.1 dX1_init_41 rfl 0 rfl (by decide) ?_
  refine jq_bipush Γ.1 dX1_init_42 rfl ?_
  refine jq_newI Γ (by decide) hlY (by decide +kernel) rfl rfl rfl aw_int rfl rfl dX1_init_44 (fun Γ s11 => ?_)
  refine jq_aput Γ hlY ⟨25, rfl, by decide +kernel, by decide +kernel⟩ fl_RX1_28 rfl rfl rfl dX1_init_46 (fun s12 => ?_)
  refine jq_aload_n Γ.1 dX1_init_49 rfl 0 rfl (by decide) ?_
  refine jq_bipush Γ.1 dX1_init_50 rfl ?_
  refine jq_newI Γ (by decide) hlY (by decide +kernel) rfl rfl rfl aw_int rfl rfl dX1_init_52 (fun Γ s13 => ?_)
  refine jq_aput Γ hlY ⟨25, rfl, by decide +kernel, by decide +kernel⟩ fl_RX1_31 rfl rfl rfl dX1_init_54 (fun s14 => ?_)
  refine jq_aload_n Γ.1 dX1_init_57 rfl 0 rfl (by decide) ?_
  refine jq_bipush Γ.1 dX1_init_58 rfl ?_
  refine jq_newL Γ (by decide) hlY (by decide +kernel) rfl rfl rfl aw_long rfl rfl dX1_init_60 (fun Γ s15 => ?_)
  refine jq_aput Γ hlY ⟨25, rfl, by decide +kernel, by decide +kernel⟩ fl_RX1_34 rfl rfl rfl dX1_init_62 (fun s16 => ?_)
  refine jq_aload_n Γ.1 dX1_init_65 rfl 0 rfl (by decide) ?_
  refine jq_bipush Γ.1 dX1_init_66 rfl ?_
  refine jq_newI Γ (by decide) hlY (by decide +kernel) rfl rfl rfl aw_int rfl rfl dX1_init_68 (fun Γ s17 => ?_)
  refine jq_aput Γ hlY ⟨25, rfl, by decide +kernel, by decide +kernel⟩ fl_RX1_37 rfl rfl rfl dX1_init_70 (fun s18 => ?_)
  refine jq_aload_n Γ.1 dX1_init_73 rfl 0 rfl (by decide) ?_
  refine jq_bipush Γ.1 dX1_init_74 rfl ?_
  refine jq_newI Γ (by decide) hlY (by decide +kernel) rfl rfl rfl aw_int rfl rfl dX1_init_76 (fun Γ s19 => ?_)
  refine jq_aput Γ hlY ⟨25, rfl, by decide +kernel, by decide +kernel⟩ fl_RX1_40 rfl rfl rfl dX1_init_78 (fun s20 => ?_)
  refine jq_aload_n Γ.1 dX1_init_81 rfl 0 rfl (by decide) ?_
  refine jq_bipush Γ.1 dX1_init_82 rfl ?_
  refine jq_newI Γ (by decide) hlY (by decide +kernel) rfl rfl rfl aw_int rfl rfl dX1_init_84 (fun Γ s21 => ?_)
  refine jq_aput Γ hlY ⟨25, rfl, by decide +kernel, by decide +kernel⟩ fl_RX1_43 rfl rfl rfl dX1_init_86 (fun s22 => ?_)
  refine jq_aload_n Γ.1 dX1_init_89 rfl 0 rfl (by decide) ?_
  refine jq_bipush Γ.1 dX1_init_90 rfl ?_
  refine jq_newI Γ (by decide) hlY (by decide +kernel) rfl rfl rfl aw_int rfl rfl dX1_init_92 (fun Γ s23 => ?_)
  refine jq_aput Γ hlY ⟨25, rfl, by decide +kernel, by decide +kernel⟩ fl_RX1_46 rfl rfl rfl dX1_init_94 (fun s24 => ?_)
  refine jq_aload_n Γ.1 dX1_init_97 rfl 0 rfl (by decide) ?_
  refine jq_new Γ (by decide) hlY cls_X7 (by decide +kernel) rfl nw_RX1_49 nwi_X7 nwz_X7 rfl rfl dX1_init_98 (fun Γ s25 => ?_)
  refine jq_dup Γ.1 dX1_init_101 rfl ?_
  refine jq_cinitN Γ (by decide) hlY hAO ml_RX1_51 (by decide) rfl rfl rfl rfl rfl rfl rfl dX1_init_102 (fun σ' h => ctX7_init_38 h) (fun Γ s26 => ?_)
  refine jq_aput Γ hlY ⟨25, rfl, by decide +kernel, by decide +kernel⟩ fl_RX1_52 rfl rfl rfl dX1_init_105 (fun s27 => ?_)
  refine jq_aload_n Γ.1 dX1_init_108 rfl 0 rfl (by decide) ?_
  refine jq_iconst Γ.1 dX1_init_109 rfl ?_
  refine jq_newI Γ (by decide) hlY (by decide +kernel) rfl rfl rfl aw_int rfl rfl dX1_init_110 (fun Γ s28 => ?_)
  refine jq_aput Γ hlY ⟨25, rfl, by decide +kernel, by decide +kernel⟩ fl_RX1_56 rfl rfl rfl dX1_init_112 (fun s29 => ?_)
  exact jq_ireti Γ dX1_init_115 (hK0 _)


noncomputable def X7_init_45 (σ : jq_M) : Option jq_M :=
  jq_lt (jq_al σ 46 (fun _ => 0)) fun s1 =>
  jq_lt (jq_st s1 45 3 46) fun s2 =>
  jq_lt (jq_al s2 47 (fun _ => 0)) fun s3 =>
  jq_lt (jq_st s3 45 4 47) fun s4 =>
  jq_lt (jq_al s4 48 (fun _ => 0)) fun s5 =>
  jq_lt (jq_st s5 45 5 48) fun s6 =>
  jq_lt (jq_al s6 49 (fun _ => 0)) fun s7 =>
  jq_lt (jq_st s7 45 6 49) fun s8 =>
  jq_lt (jq_al s8 50 (fun _ => 0)) fun s9 =>
  jq_lt (jq_st s9 45 7 50) fun s10 =>
  some s10

set_option maxHeartbeats 8000000 in
set_option maxRecDepth 100000 in
theorem ctX7_init_45 {σ σ' : jq_M} (h : X7_init_45 σ = some σ') : jq_MI jq_zX yX7_init cX7_init 1 1 60 5 243 [jR 45] 46 σ 51 σ' := by
  refine jq_metI (own := RX7) (L0 := [(0, jR 45)]) (by decide) rfl rfl rfl rfl ?_
  intro X Γ hnl hlY hAO hRT
  refine jq_use2 (P := fun r => jq_RI jq_zX X 5 243 51 r) ?_ h hRT
  intro K0 hK0
  unfold X7_init_45
  refine jq_aload_n Γ.1 dX7_init_0 rfl 0 rfl (by decide) ?_
  refine jq_oinit Γ.1 (by decide) oi_RX7_3 oi_i oi_c rfl rfl dX7_init_1 ?_
  refine jq_aload_n Γ.1 dX7_init_4 rfl 0 rfl (by decide) ?_
  refine jq_bipush Γ.1 dX7_init_5 rfl ?_
  refine jq_newI Γ (by decide) hlY (by decide +kernel) rfl rfl rfl aw_int rfl rfl dX7_init_7 (fun Γ s1 => ?_)
  refine jq_aput Γ hlY ⟨45, rfl, by decide +kernel, by decide +kernel⟩ fl_RX7_9 rfl rfl rfl dX7_init_9 (fun s2 => ?_)
  refine jq_aload_n Γ.1 dX7_init_12 rfl 0 rfl (by decide) ?_
  refine jq_bipush Γ.1 dX7_init_13 rfl ?_
  refine jq_newI Γ (by decide) hlY (by decide +kernel) rfl rfl rfl aw_int rfl rfl dX7_init_15 (fun Γ s3 => ?_)
  refine jq_aput Γ hlY ⟨45, rfl, by decide +kernel, by decide +kernel⟩ fl_RX7_15 rfl rfl rfl dX7_init_17 (fun s4 => ?_)
  refine jq_aload_n Γ.1 dX7_init_20 rfl 0 rfl (by decide) ?_
  refine jq_bipush Γ.1 dX7_init_21 rfl ?_
  refine jq_newI Γ (by decide) hlY (by decide +kernel) rfl rfl rfl aw_int rfl rfl dX7_init_23 (fun Γ s5 => ?_)
  refine jq_aput Γ hlY ⟨45, rfl, by decide +kernel, by decide +kernel⟩ fl_RX7_18 rfl rfl rfl dX7_init_25 (fun s6 => ?_)
  refine jq_aload_n Γ.1 dX7_init_28 rfl 0 rfl (by decide) ?_
  refine jq_bipush Γ.1 dX7_init_29 rfl ?_
  refine jq_newI Γ (by decide) hlY (by decide +kernel) rfl rfl rfl aw_int rfl rfl dX7_init_31 (fun Γ s7 => ?_)
  refine jq_aput Γ hlY ⟨45, rfl, by decide +kernel, by decide +kernel⟩ fl_RX7_21 rfl rfl rfl dX7_init_33 (fun s8 => ?_)
  refine jq_aload_n Γ.1 dX7_init_36 rfl 0 rfl (by decide) ?_
  refine jq_iconst Γ.1 dX7_init_37 rfl ?_
  refine jq_newI Γ (by decide) hlY (by decide +kernel) rfl rfl rfl aw_int rfl rfl dX7_init_38 (fun Γ s9 => ?_)
  refine jq_aput Γ hlY ⟨45, rfl, by decide +kernel, by decide +kernel⟩ fl_RX7_24 rfl rfl rfl dX7_init_40 (fun s10 => ?_)
  exact jq_ireti Γ dX7_init_43 (hK0 _)


noncomputable def X8_init_52 (σ : jq_M) : Option jq_M :=
  jq_lt (jq_al σ 53 (fun _ => 0)) fun s1 =>
  jq_lt (jq_st s1 52 0 53) fun s2 =>
  jq_lt (jq_al s2 54 (fun _ => 0)) fun s3 =>
  jq_lt (jq_st s3 52 1 54) fun s4 =>
  jq_lt (jq_al s4 55 (fun _ => 0)) fun s5 =>
  jq_lt (jq_st s5 52 2 55) fun s6 =>
  jq_lt (jq_al s6 56 (fun _ => 0)) fun s7 =>
  jq_lt (jq_st s7 52 3 56) fun s8 =>
  some s8

set_option maxHeartbeats 8000000 in
set_option maxRecDepth 100000 in
theorem ctX8_init_52 {σ σ' : jq_M} (h : X8_init_52 σ = some σ') : jq_MI jq_zX yX8_init cX8_init 1 1 60 4 735 [jR 52] 53 σ 57 σ' := by
  refine jq_metI (own := RX8) (L0 := [(0, jR 52)]) (by decide) rfl rfl rfl rfl ?_
  intro X Γ hnl hlY hAO hRT
  refine jq_use2 (P := fun r => jq_RI jq_zX X 4 735 57 r) ?_ h hRT
  intro K0 hK0
  unfold X8_init_52
  refine jq_aload_n Γ.1 dX8_init_0 rfl 0 rfl (by decide) ?_
  refine jq_oinit Γ.1 (by decide) oi_RX8_3 oi_i oi_c rfl rfl dX8_init_1 ?_
  refine jq_aload_n Γ.1 dX8_init_4 rfl 0 rfl (by decide) ?_
  refine jq_iconst Γ.1 dX8_init_5 rfl ?_
  refine jq_newI Γ (by decide) hlY (by decide +kernel) rfl rfl rfl aw_int rfl rfl dX8_init_6 (fun Γ s1 => ?_)
  refine jq_aput Γ hlY ⟨52, rfl, by decide +kernel, by decide +kernel⟩ fl_RX8_9 rfl rfl rfl dX8_init_8 (fun s2 => ?_)
  refine jq_aload_n Γ.1 dX8_init_11 rfl 0 rfl (by decide) ?_
  refine jq_iconst Γ.1 dX8_init_12 rfl ?_
  refine jq_newI Γ (by decide) hlY (by decide +kernel) rfl rfl rfl aw_int rfl rfl dX8_init_13 (fun Γ s3 => ?_)
  refine jq_aput Γ hlY ⟨52, rfl, by decide +kernel, by decide +kernel⟩ fl_RX8_15 rfl rfl rfl dX8_init_15 (fun s4 => ?_)
  refine jq_aload_n Γ.1 dX8_init_18 rfl 0 rfl (by decide) ?_
  refine jq_iconst Γ.1 dX8_init_19 rfl ?_
  refine jq_newI Γ (by decide) hlY (by decide +kernel) rfl rfl rfl aw_int rfl rfl dX8_init_20 (fun Γ s5 => ?_)
  refine jq_aput Γ hlY ⟨52, rfl, by decide +kernel, by decide +kernel⟩ fl_RX8_18 rfl rfl rfl dX8_init_22 (fun s6 => ?_)
  refine jq_aload_n Γ.1 dX8_init_25 rfl 0 rfl (by decide) ?_
  refine jq_sipush Γ.1 dX8_init_26 rfl ?_
  refine jq_newI Γ (by decide) hlY (by decide +kernel) rfl rfl rfl aw_int rfl rfl dX8_init_29 (fun Γ s7 => ?_)
  refine jq_aput Γ hlY ⟨52, rfl, by decide +kernel, by decide +kernel⟩ fl_RX8_21 rfl rfl rfl dX8_init_31 (fun s8 => ?_)
  exact jq_ireti Γ dX8_init_34 (hK0 _)


noncomputable def X0_init_57 (σ : jq_M) : Option jq_M :=
  jq_lt (jq_al σ 58 (fun _ => 0)) fun s1 =>
  jq_lt (jq_st s1 57 0 58) fun s2 =>
  jq_lt (jq_al s2 59 (fun _ => 0)) fun s3 =>
  jq_lt (jq_st s3 57 1 59) fun s4 =>
  some s4

set_option maxHeartbeats 8000000 in
set_option maxRecDepth 100000 in
theorem ctX0_init_57 {σ σ' : jq_M} (h : X0_init_57 σ = some σ') : jq_MI jq_zX yX0_init cX0_init 1 1 60 2 264 [jR 57] 58 σ 60 σ' := by
  refine jq_metI (own := RX0) (L0 := [(0, jR 57)]) (by decide) rfl rfl rfl rfl ?_
  intro X Γ hnl hlY hAO hRT
  refine jq_use2 (P := fun r => jq_RI jq_zX X 2 264 60 r) ?_ h hRT
  intro K0 hK0
  unfold X0_init_57
  refine jq_aload_n Γ.1 dX0_init_0 rfl 0 rfl (by decide) ?_
  refine jq_oinit Γ.1 (by decide) oi_RX0_3 oi_i oi_c rfl rfl dX0_init_1 ?_
  refine jq_aload_n Γ.1 dX0_init_4 rfl 0 rfl (by decide) ?_
  refine jq_sipush Γ.1 dX0_init_5 rfl ?_
  refine jq_newI Γ (by decide) hlY (by decide +kernel) rfl rfl rfl aw_int rfl rfl dX0_init_8 (fun Γ s1 => ?_)
  refine jq_aput Γ hlY ⟨57, rfl, by decide +kernel, by decide +kernel⟩ fl_RX0_9 rfl rfl rfl dX0_init_10 (fun s2 => ?_)
  refine jq_aload_n Γ.1 dX0_init_13 rfl 0 rfl (by decide) ?_
  refine jq_bipush Γ.1 dX0_init_14 rfl ?_
  refine jq_newI Γ (by decide) hlY (by decide +kernel) rfl rfl rfl aw_int rfl rfl dX0_init_16 (fun Γ s3 => ?_)
  refine jq_aput Γ hlY ⟨57, rfl, by decide +kernel, by decide +kernel⟩ fl_RX0_15 rfl rfl rfl dX0_init_18 (fun s4 => ?_)
  exact jq_ireti Γ dX0_init_21 (hK0 _)


noncomputable def X3_init_60 (σ : jq_M) : Option jq_M :=
  jq_lt (jq_al σ 61 (fun _ => 0)) fun s1 =>
  jq_lt (jq_st s1 60 7 61) fun s2 =>
  some s2

set_option maxHeartbeats 8000000 in
set_option maxRecDepth 100000 in
theorem ctX3_init_60 {σ σ' : jq_M} (h : X3_init_60 σ = some σ') : jq_MI jq_zX yX3_init cX3_init 1 1 60 1 60 [jR 60] 61 σ 62 σ' := by
  refine jq_metI (own := RX3) (L0 := [(0, jR 60)]) (by decide) rfl rfl rfl rfl ?_
  intro X Γ hnl hlY hAO hRT
  refine jq_use2 (P := fun r => jq_RI jq_zX X 1 60 62 r) ?_ h hRT
  intro K0 hK0
  unfold X3_init_60
  refine jq_aload_n Γ.1 dX3_init_0 rfl 0 rfl (by decide) ?_
  refine jq_oinit Γ.1 (by decide) oi_RX3_3 oi_i oi_c rfl rfl dX3_init_1 ?_
  refine jq_aload_n Γ.1 dX3_init_4 rfl 0 rfl (by decide) ?_
  refine jq_bipush Γ.1 dX3_init_5 rfl ?_
  refine jq_newI Γ (by decide) hlY (by decide +kernel) rfl rfl rfl aw_int rfl rfl dX3_init_7 (fun Γ s1 => ?_)
  refine jq_aput Γ hlY ⟨60, rfl, by decide +kernel, by decide +kernel⟩ fl_RX3_9 rfl rfl rfl dX3_init_9 (fun s2 => ?_)
  exact jq_ireti Γ dX3_init_12 (hK0 _)


noncomputable def X9_init_64 (σ : jq_M) : Option jq_M :=
  jq_lt (jq_st σ 64 0 (-1)) fun s1 =>
  jq_lt (jq_al s1 65 (fun _ => 0)) fun s2 =>
  jq_lt (jq_st s2 64 2 65) fun s3 =>
  some s3

set_option maxHeartbeats 8000000 in
set_option maxRecDepth 100000 in
theorem ctX9_init_64 {σ σ' : jq_M} (h : X9_init_64 σ = some σ') : jq_MI jq_zX yX9_init cX9_init 1 1 60 1 60 [jR 64] 65 σ 66 σ' := by
  refine jq_metI (own := RX9) (L0 := [(0, jR 64)]) (by decide) rfl rfl rfl rfl ?_
  intro X Γ hnl hlY hAO hRT
  refine jq_use2 (P := fun r => jq_RI jq_zX X 1 60 66 r) ?_ h hRT
  intro K0 hK0
  unfold X9_init_64
  refine jq_aload_n Γ.1 dX9_init_0 rfl 0 rfl (by decide) ?_
  refine jq_oinit Γ.1 (by decide) oi_RX9_3 oi_i oi_c rfl rfl dX9_init_1 ?_
  refine jq_aload_n Γ.1 dX9_init_4 rfl 0 rfl (by decide) ?_
  refine jq_iconst Γ.1 dX9_init_5 rfl ?_
  refine jq_putI Γ.1 ⟨64, rfl, by decide +kernel, by decide +kernel⟩ fl_RX9_9 rfl rfl dX9_init_6 (fun s1 => ?_)
  refine jq_aload_n Γ.1 dX9_init_9 rfl 0 rfl (by decide) ?_
  refine jq_bipush Γ.1 dX9_init_10 rfl ?_
  refine jq_newL Γ (by decide) hlY (by decide +kernel) rfl rfl rfl aw_long rfl rfl dX9_init_12 (fun Γ s2 => ?_)
  refine jq_aput Γ hlY ⟨64, rfl, by decide +kernel, by decide +kernel⟩ fl_RX9_15 rfl rfl rfl dX9_init_14 (fun s3 => ?_)
  exact jq_ireti Γ dX9_init_17 (hK0 _)


noncomputable def X9_init_66 (σ : jq_M) : Option jq_M :=
  jq_lt (jq_st σ 66 0 (-1)) fun s1 =>
  jq_lt (jq_al s1 67 (fun _ => 0)) fun s2 =>
  jq_lt (jq_st s2 66 2 67) fun s3 =>
  some s3

set_option maxHeartbeats 8000000 in
set_option maxRecDepth 100000 in
theorem ctX9_init_66 {σ σ' : jq_M} (h : X9_init_66 σ = some σ') : jq_MI jq_zX yX9_init cX9_init 1 1 60 1 60 [jR 66] 67 σ 68 σ' := by
  refine jq_metI (own := RX9) (L0 := [(0, jR 66)]) (by decide) rfl rfl rfl rfl ?_
  intro X Γ hnl hlY hAO hRT
  refine jq_use2 (P := fun r => jq_RI jq_zX X 1 60 68 r) ?_ h hRT
  intro K0 hK0
  unfold X9_init_66
  refine jq_aload_n Γ.1 dX9_init_0 rfl 0 rfl (by decide) ?_
  refine jq_oinit Γ.1 (by decide) oi_RX9_3 oi_i oi_c rfl rfl dX9_init_1 ?_
  refine jq_aload_n Γ.1 dX9_init_4 rfl 0 rfl (by decide) ?_
  refine jq_iconst Γ.1 dX9_init_5 rfl ?_
  refine jq_putI Γ.1 ⟨66, rfl, by decide +kernel, by decide +kernel⟩ fl_RX9_9 rfl rfl dX9_init_6 (fun s1 => ?_)
  refine jq_aload_n Γ.1 dX9_init_9 rfl 0 rfl (by decide) ?_
  refine jq_bipush Γ.1 dX9_init_10 rfl ?_
  refine jq_newL Γ (by decide) hlY (by decide +kernel) rfl rfl rfl aw_long rfl rfl dX9_init_12 (fun Γ s2 => ?_)
  refine jq_aput Γ hlY ⟨66, rfl, by decide +kernel, by decide +kernel⟩ fl_RX9_15 rfl rfl rfl dX9_init_14 (fun s3 => ?_)
  exact jq_ireti Γ dX9_init_17 (hK0 _)


noncomputable def X9_init_68 (σ : jq_M) : Option jq_M :=
  jq_lt (jq_st σ 68 0 (-1)) fun s1 =>
  jq_lt (jq_al s1 69 (fun _ => 0)) fun s2 =>
  jq_lt (jq_st s2 68 2 69) fun s3 =>
  some s3

set_option maxHeartbeats 8000000 in
set_option maxRecDepth 100000 in
theorem ctX9_init_68 {σ σ' : jq_M} (h : X9_init_68 σ = some σ') : jq_MI jq_zX yX9_init cX9_init 1 1 60 1 60 [jR 68] 69 σ 70 σ' := by
  refine jq_metI (own := RX9) (L0 := [(0, jR 68)]) (by decide) rfl rfl rfl rfl ?_
  intro X Γ hnl hlY hAO hRT
  refine jq_use2 (P := fun r => jq_RI jq_zX X 1 60 70 r) ?_ h hRT
  intro K0 hK0
  unfold X9_init_68
  refine jq_aload_n Γ.1 dX9_init_0 rfl 0 rfl (by decide) ?_
  refine jq_oinit Γ.1 (by decide) oi_RX9_3 oi_i oi_c rfl rfl dX9_init_1 ?_
  refine jq_aload_n Γ.1 dX9_init_4 rfl 0 rfl (by decide) ?_
  refine jq_iconst Γ.1 dX9_init_5 rfl ?_
  refine jq_putI Γ.1 ⟨68, rfl, by decide +kernel, by decide +kernel⟩ fl_RX9_9 rfl rfl dX9_init_6 (fun s1 => ?_)
  refine jq_aload_n Γ.1 dX9_init_9 rfl 0 rfl (by decide) ?_
  refine jq_bipush Γ.1 dX9_init_10 rfl ?_
  refine jq_newL Γ (by decide) hlY (by decide +kernel) rfl rfl rfl aw_long rfl rfl dX9_init_12 (fun Γ s2 => ?_)
  refine jq_aput Γ hlY ⟨68, rfl, by decide +kernel, by decide +kernel⟩ fl_RX9_15 rfl rfl rfl dX9_init_14 (fun s3 => ?_)
  exact jq_ireti Γ dX9_init_17 (hK0 _)


noncomputable def X9_init_70 (σ : jq_M) : Option jq_M :=
  jq_lt (jq_st σ 70 0 (-1)) fun s1 =>
  jq_lt (jq_al s1 71 (fun _ => 0)) fun s2 =>
  jq_lt (jq_st s2 70 2 71) fun s3 =>
  some s3

set_option maxHeartbeats 8000000 in
set_option maxRecDepth 100000 in
theorem ctX9_init_70 {σ σ' : jq_M} (h : X9_init_70 σ = some σ') : jq_MI jq_zX yX9_init cX9_init 1 1 60 1 60 [jR 70] 71 σ 72 σ' := by
  refine jq_metI (own := RX9) (L0 := [(0, jR 70)]) (by decide) rfl rfl rfl rfl ?_
  intro X Γ hnl hlY hAO hRT
  refine jq_use2 (P := fun r => jq_RI jq_zX X 1 60 72 r) ?_ h hRT
  intro K0 hK0
  unfold X9_init_70
  refine jq_aload_n Γ.1 dX9_init_0 rfl 0 rfl (by decide) ?_
  refine jq_oinit Γ.1 (by decide) oi_RX9_3 oi_i oi_c rfl rfl dX9_init_1 ?_
  refine jq_aload_n Γ.1 dX9_init_4 rfl 0 rfl (by decide) ?_
  refine jq_iconst Γ.1 dX9_init_5 rfl ?_
  refine jq_putI Γ.1 ⟨70, rfl, by decide +kernel, by decide +kernel⟩ fl_RX9_9 rfl rfl dX9_init_6 (fun s1 => ?_)
  refine jq_aload_n Γ.1 dX9_init_9 rfl 0 rfl (by decide) ?_
  refine jq_bipush Γ.1 dX9_init_10 rfl ?_
  refine jq_newL Γ (by decide) hlY (by decide +kernel) rfl rfl rfl aw_long rfl rfl dX9_init_12 (fun Γ s2 => ?_)
  refine jq_aput Γ hlY ⟨70, rfl, by decide +kernel, by decide +kernel⟩ fl_RX9_15 rfl rfl rfl dX9_init_14 (fun s3 => ?_)
  exact jq_ireti Γ dX9_init_17 (hK0 _)


noncomputable def X7_init_85 (σ : jq_M) : Option jq_M :=
  jq_lt (jq_al σ 86 (fun _ => 0)) fun s1 =>
  jq_lt (jq_st s1 85 3 86) fun s2 =>
  jq_lt (jq_al s2 87 (fun _ => 0)) fun s3 =>
  jq_lt (jq_st s3 85 4 87) fun s4 =>
  jq_lt (jq_al s4 88 (fun _ => 0)) fun s5 =>
  jq_lt (jq_st s5 85 5 88) fun s6 =>
  jq_lt (jq_al s6 89 (fun _ => 0)) fun s7 =>
  jq_lt (jq_st s7 85 6 89) fun s8 =>
  jq_lt (jq_al s8 90 (fun _ => 0)) fun s9 =>
  jq_lt (jq_st s9 85 7 90) fun s10 =>
  some s10

set_option maxHeartbeats 8000000 in
set_option maxRecDepth 100000 in
theorem ctX7_init_85 {σ σ' : jq_M} (h : X7_init_85 σ = some σ') : jq_MI jq_zX yX7_init cX7_init 1 1 60 5 243 [jR 85] 86 σ 91 σ' := by
  refine jq_metI (own := RX7) (L0 := [(0, jR 85)]) (by decide) rfl rfl rfl rfl ?_
  intro X Γ hnl hlY hAO hRT
  refine jq_use2 (P := fun r => jq_RI jq_zX X 5 243 91 r) ?_ h hRT
  intro K0 hK0
  unfold X7_init_85
  refine jq_aload_n Γ.1 dX7_init_0 rfl 0 rfl (by decide) ?_
  refine jq_oinit Γ.1 (by decide) oi_RX7_3 oi_i oi_c rfl rfl dX7_init_1 ?_
  refine jq_aload_n Γ.1 dX7_init_4 rfl 0 rfl (by decide) ?_
  refine jq_bipush Γ.1 dX7_init_5 rfl ?_
  refine jq_newI Γ (by decide) hlY (by decide +kernel) rfl rfl rfl aw_int rfl rfl dX7_init_7 (fun Γ s1 => ?_)
  refine jq_aput Γ hlY ⟨85, rfl, by decide +kernel, by decide +kernel⟩ fl_RX7_9 rfl rfl rfl dX7_init_9 (fun s2 => ?_)
  refine jq_aload_n Γ.1 dX7_init_12 rfl 0 rfl (by decide) ?_
  refine jq_bipush Γ.1 dX7_init_13 rfl ?_
  refine jq_newI Γ (by decide) hlY (by decide +kernel) rfl rfl rfl aw_int rfl rfl dX7_init_15 (fun Γ s3 => ?_)
  refine jq_aput Γ hlY ⟨85, rfl, by decide +kernel, by decide +kernel⟩ fl_RX7_15 rfl rfl rfl dX7_init_17 (fun s4 => ?_)
  refine jq_aload_n Γ.1 dX7_init_20 rfl 0 rfl (by decide) ?_
  refine jq_bipush Γ.1 dX7_init_21 rfl ?_
  refine jq_newI Γ (by decide) hlY (by decide +kernel) rfl rfl rfl aw_int rfl rfl dX7_init_23 (fun Γ s5 => ?_)
  refine jq_aput Γ hlY ⟨85, rfl, by decide +kernel, by decide +kernel⟩ fl_RX7_18 rfl rfl rfl dX7_init_25 (fun s6 => ?_)
  refine jq_aload_n Γ.1 dX7_init_28 rfl 0 rfl (by decide) ?_
  refine jq_bipush Γ.1 dX7_init_29 rfl ?_
  refine jq_newI Γ (by decide) hlY (by decide +kernel) rfl rfl rfl aw_int rfl rfl dX7_init_31 (fun Γ s7 => ?_)
  refine jq_aput Γ hlY ⟨85, rfl, by decide +kernel, by decide +kernel⟩ fl_RX7_21 rfl rfl rfl dX7_init_33 (fun s8 => ?_)
  refine jq_aload_n Γ.1 dX7_init_36 rfl 0 rfl (by decide) ?_
  refine jq_iconst Γ.1 dX7_init_37 rfl ?_
  refine jq_newI Γ (by decide) hlY (by decide +kernel) rfl rfl rfl aw_int rfl rfl dX7_init_38 (fun Γ s9 => ?_)
  refine jq_aput Γ hlY ⟨85, rfl, by decide +kernel, by decide +kernel⟩ fl_RX7_24 rfl rfl rfl dX7_init_40 (fun s10 => ?_)
  exact jq_ireti Γ dX7_init_43 (hK0 _)


noncomputable def X1_init_72 (σ : jq_M) : Option jq_M :=
  jq_lt (jq_al σ 73 (fun _ => 0)) fun s1 =>
  jq_lt (jq_st s1 72 7 73) fun s2 =>
  jq_lt (jq_al s2 74 (fun _ => 0)) fun s3 =>
  jq_lt (jq_st s3 72 8 74) fun s4 =>
  jq_lt (jq_al s4 75 (fun _ => 0)) fun s5 =>
  jq_lt (jq_st s5 72 9 75) fun s6 =>
  jq_lt (jq_al s6 76 (fun _ => 0)) fun s7 =>
  jq_lt (jq_st s7 72 10 76) fun s8 =>
  jq_lt (jq_al s8 77 (fun _ => 0)) fun s9 =>
  jq_lt (jq_st s9 72 11 77) fun s10 =>
  jq_lt (jq_al s10 78 (fun _ => 0)) fun s11 =>
  jq_lt (jq_st s11 72 12 78) fun s12 =>
  jq_lt (jq_al s12 79 (fun _ => 0)) fun s13 =>
  jq_lt (jq_st s13 72 13 79) fun s14 =>
  jq_lt (jq_al s14 80 (fun _ => 0)) fun s15 =>
  jq_lt (jq_st s15 72 14 80) fun s16 =>
  jq_lt (jq_al s16 81 (fun _ => 0)) fun s17 =>
  jq_lt (jq_st s17 72 15 81) fun s18 =>
  jq_lt (jq_al s18 82 (fun _ => 0)) fun s19 =>
  jq_lt (jq_st s19 72 16 82) fun s20 =>
  jq_lt (jq_al s20 83 (fun _ => 0)) fun s21 =>
  jq_lt (jq_st s21 72 17 83) fun s22 =>
  jq_lt (jq_al s22 84 (fun _ => 0)) fun s23 =>
  jq_lt (jq_st s23 72 18 84) fun s24 =>
  jq_lt (jq_al s24 85 (jq_df 4)) fun s25 =>
  (X7_init_85 s25).bind fun s26 =>
  jq_lt (jq_st s26 72 19 85) fun s27 =>
  jq_lt (jq_al s27 91 (fun _ => 0)) fun s28 =>
  jq_lt (jq_st s28 72 20 91) fun s29 =>
  some s29

set_option maxHeartbeats 8000000 in
set_option maxRecDepth 100000 in
theorem ctX1_init_72 {σ σ' : jq_M} (h : X1_init_72 σ = some σ') : jq_MI jq_zX yX1_init cX1_init 1 2 80 19 392 [jR 72] 73 σ 92 σ' := by
  refine jq_metI (own := RX1) (L0 := [(0, jR 72)]) (by decide) rfl rfl rfl rfl ?_
  intro X Γ hnl hlY hAO hRT
  refine jq_use2 (P := fun r => jq_RI jq_zX X 19 392 92 r) ?_ h hRT
  intro K0 hK0
  unfold X1_init_72
  refine jq_aload_n Γ.1 dX1_init_0 rfl 0 rfl (by decide) ?_
  refine jq_oinit Γ.1 (by decide) oi_RX1_3 oi_i oi_c rfl rfl dX1_init_1 ?_
  refine jq_aload_n Γ.1 dX1_init_4 rfl 0 rfl (by decide) ?_
  refine jq_iconst Γ.1 dX1_init_5 rfl ?_
  refine jq_newL Γ (by decide) hlY (by decide +kernel) rfl rfl rfl aw_long rfl rfl dX1_init_6 (fun Γ s1 => ?_)
  refine jq_aput Γ hlY ⟨72, rfl, by decide +kernel, by decide +kernel⟩ fl_RX1_9 rfl rfl rfl dX1_init_8 (fun s2 => ?_)
  refine jq_aload_n Γ.1 dX1_init_11 rfl 0 rfl (by decide) ?_
  refine jq_iconst Γ.1 dX1_init_12 rfl ?_
  refine jq_newI Γ (by decide) hlY (by decide +kernel) rfl rfl rfl aw_int rfl rfl dX1_init_13 (fun Γ s3 => ?_)
  refine jq_aput Γ hlY ⟨72, rfl, by decide +kernel, by decide +kernel⟩ fl_RX1_15 rfl rfl rfl dX1_init_15 (fun s4 => ?_)
  refine jq_aload_n Γ.1 dX1_init_18 rfl 0 rfl (by decide) ?_
  refine jq_iconst Γ.1 dX1_init_19 rfl ?_
  refine jq_newI Γ (by decide) hlY (by decide +kernel) rfl rfl rfl aw_int rfl rfl dX1_init_20 (fun Γ s5 => ?_)
  refine jq_aput Γ hlY ⟨72, rfl, by decide +kernel, by decide +kernel⟩ fl_RX1_19 rfl rfl rfl dX1_init_22 (fun s6 => ?_)
  refine jq_aload_n Γ.1 dX1_init_25 rfl 0 rfl (by decide) ?_
  refine jq_bipush Γ.1 dX1_init_26 rfl ?_
  refine jq_newI Γ (by decide) hlY (by decide +kernel) rfl rfl rfl aw_int rfl rfl dX1_init_28 (fun Γ s7 => ?_)
  refine jq_aput Γ hlY ⟨72, rfl, by decide +kernel, by decide +kernel⟩ fl_RX1_22 rfl rfl rfl dX1_init_30 (fun s8 => ?_)
  refine jq_aload_n Γ.1 dX1_init_33 rfl 0 rfl (by decide) ?_
  refine jq_bipush Γ.1 dX1_init_34 rfl ?_
  refine jq_newI Γ (by decide) hlY (by decide +kernel) rfl rfl rfl aw_int rfl rfl dX1_init_36 (fun Γ s9 => ?_)
  refine jq_aput Γ hlY ⟨72, rfl, by decide +kernel, by decide +kernel⟩ fl_RX1_25 rfl rfl rfl dX1_init_38 (fun s10 => ?_)
  refine jq_aload_n Γ.1 dX1_init_41 rfl 0 rfl (by decide) ?_
  refine jq_bipush Γ.1 dX1_init_42 rfl ?_
  refine jq_newI Γ (by decide) hlY (by decide +kernel) rfl rfl rfl aw_int rfl rfl dX1_init_44 (fun Γ s11 => ?_)
  refine jq_aput Γ hlY ⟨72, rfl, by decide +kernel, by decide +kernel⟩ fl_RX1_28 rfl rfl rfl dX1_init_46 (fun s12 => ?_)
  refine jq_aload_n Γ.1 dX1_init_49 rfl 0 rfl (by decide) ?_
  refine jq_bipush Γ.1 dX1_init_50 rfl ?_
  refine jq_newI Γ (by decide) hlY (by decide +kernel) rfl rfl rfl aw_int rfl rfl dX1_init_52 (fun Γ s13 => ?_)
  refine jq_aput Γ hlY ⟨72, rfl, by decide +kernel, by decide +kernel⟩ fl_RX1_31 rfl rfl rfl dX1_init_54 (fun s14 => ?_)
  refine jq_aload_n Γ.1 dX1_init_57 rfl 0 rfl (by decide) ?_
  refine jq_bipush Γ.1 dX1_init_58 rfl ?_
  refine jq_newL Γ (by decide) hlY (by decide +kernel) rfl rfl rfl aw_long rfl rfl dX1_init_60 (fun Γ s15 => ?_)
  refine jq_aput Γ hlY ⟨72, rfl, by decide +kernel, by decide +kernel⟩ fl_RX1_34 rfl rfl rfl dX1_init_62 (fun s16 => ?_)
  refine jq_aload_n Γ.1 dX1_init_65 rfl 0 rfl (by decide) ?_
  refine jq_bipush Γ.1 dX1_init_66 rfl ?_
  refine jq_newI Γ (by decide) hlY (by decide +kernel) rfl rfl rfl aw_int rfl rfl dX1_init_68 (fun Γ s17 => ?_)
  refine jq_aput Γ hlY ⟨72, rfl, by decide +kernel, by decide +kernel⟩ fl_RX1_37 rfl rfl rfl dX1_init_70 (fun s18 => ?_)
  refine jq_aload_n Γ.1 dX1_init_73 rfl 0 rfl (by decide) ?_
  refine jq_bipush Γ.1 dX1_init_74 rfl ?_
  refine jq_newI Γ (by decide) hlY (by decide +kernel) rfl rfl rfl aw_int rfl rfl dX1_init_76 (fun Γ s19 => ?_)
  refine jq_aput Γ hlY ⟨72, rfl, by decide +kernel, by decide +kernel⟩ fl_RX1_40 rfl rfl rfl dX1_init_78 (fun s20 => ?_)
  refine jq_aload_n Γ.1 dX1_init_81 rfl 0 rfl (by decide) ?_
  refine jq_bipush Γ.1 dX1_init_82 rfl ?_
  refine jq_newI Γ (by decide) hlY (by decide +kernel) rfl rfl rfl aw_int rfl rfl dX1_init_84 (fun Γ s21 => ?_)
  refine jq_aput Γ hlY ⟨72, rfl, by decide +kernel, by decide +kernel⟩ fl_RX1_43 rfl rfl rfl dX1_init_86 (fun s22 => ?_)
  refine jq_aload_n Γ.1 dX1_init_89 rfl 0 rfl (by decide) ?_
  refine jq_bipush Γ.1 dX1_init_90 rfl ?_
  refine jq_newI Γ (by decide) hlY (by decide +kernel) rfl rfl rfl aw_int rfl rfl dX1_init_92 (fun Γ s23 => ?_)
  refine jq_aput Γ hlY ⟨72, rfl, by decide +kernel, by decide +kernel⟩ fl_RX1_46 rfl rfl rfl dX1_init_94 (fun s24 => ?_)
  refine jq_aload_n Γ.1 dX1_init_97 rfl 0 rfl (by decide) ?_
  refine jq_new Γ (by decide) hlY cls_X7 (by decide +kernel) rfl nw_RX1_49 nwi_X7 nwz_X7 rfl rfl dX1_init_98 (fun Γ s25 => ?_)
  refine jq_dup Γ.1 dX1_init_101 rfl ?_
  refine jq_cinitN Γ (by decide) hlY hAO ml_RX1_51 (by decide) rfl rfl rfl rfl rfl rfl rfl dX1_init_102 (fun σ' h => ctX7_init_85 h) (fun Γ s26 => ?_)
  refine jq_aput Γ hlY ⟨72, rfl, by decide +kernel, by decide +kernel⟩ fl_RX1_52 rfl rfl rfl dX1_init_105 (fun s27 => ?_)
  refine jq_aload_n Γ.1 dX1_init_108 rfl 0 rfl (by decide) ?_
  refine jq_iconst Γ.1 dX1_init_109 rfl ?_
  refine jq_newI Γ (by decide) hlY (by decide +kernel) rfl rfl rfl aw_int rfl rfl dX1_init_110 (fun Γ s28 => ?_)
  refine jq_aput Γ hlY ⟨72, rfl, by decide +kernel, by decide +kernel⟩ fl_RX1_56 rfl rfl rfl dX1_init_112 (fun s29 => ?_)
  exact jq_ireti Γ dX1_init_115 (hK0 _)


noncomputable def X7_init_105 (σ : jq_M) : Option jq_M :=
  jq_lt (jq_al σ 106 (fun _ => 0)) fun s1 =>
  jq_lt (jq_st s1 105 3 106) fun s2 =>
  jq_lt (jq_al s2 107 (fun _ => 0)) fun s3 =>
  jq_lt (jq_st s3 105 4 107) fun s4 =>
  jq_lt (jq_al s4 108 (fun _ => 0)) fun s5 =>
  jq_lt (jq_st s5 105 5 108) fun s6 =>
  jq_lt (jq_al s6 109 (fun _ => 0)) fun s7 =>
  jq_lt (jq_st s7 105 6 109) fun s8 =>
  jq_lt (jq_al s8 110 (fun _ => 0)) fun s9 =>
  jq_lt (jq_st s9 105 7 110) fun s10 =>
  some s10

set_option maxHeartbeats 8000000 in
set_option maxRecDepth 100000 in
theorem ctX7_init_105 {σ σ' : jq_M} (h : X7_init_105 σ = some σ') : jq_MI jq_zX yX7_init cX7_init 1 1 60 5 243 [jR 105] 106 σ 111 σ' := by
  refine jq_metI (own := RX7) (L0 := [(0, jR 105)]) (by decide) rfl rfl rfl rfl ?_
  intro X Γ hnl hlY hAO hRT
  refine jq_use2 (P := fun r => jq_RI jq_zX X 5 243 111 r) ?_ h hRT
  intro K0 hK0
  unfold X7_init_105
  refine jq_aload_n Γ.1 dX7_init_0 rfl 0 rfl (by decide) ?_
  refine jq_oinit Γ.1 (by decide) oi_RX7_3 oi_i oi_c rfl rfl dX7_init_1 ?_
  refine jq_aload_n Γ.1 dX7_init_4 rfl 0 rfl (by decide) ?_
  refine jq_bipush Γ.1 dX7_init_5 rfl ?_
  refine jq_newI Γ (by decide) hlY (by decide +kernel) rfl rfl rfl aw_int rfl rfl dX7_init_7 (fun Γ s1 => ?_)
  refine jq_aput Γ hlY ⟨105, rfl, by decide +kernel, by decide +kernel⟩ fl_RX7_9 rfl rfl rfl dX7_init_9 (fun s2 => ?_)
  refine jq_aload_n Γ.1 dX7_init_12 rfl 0 rfl (by decide) ?_
  refine jq_bipush Γ.1 dX7_init_13 rfl ?_
  refine jq_newI Γ (by decide) hlY (by decide +kernel) rfl rfl rfl aw_int rfl rfl dX7_init_15 (fun Γ s3 => ?_)
  refine jq_aput Γ hlY ⟨105, rfl, by decide +kernel, by decide +kernel⟩ fl_RX7_15 rfl rfl rfl dX7_init_17 (fun s4 => ?_)
  refine jq_aload_n Γ.1 dX7_init_20 rfl 0 rfl (by decide) ?_
  refine jq_bipush Γ.1 dX7_init_21 rfl ?_
  refine jq_newI Γ (by decide) hlY (by decide +kernel) rfl rfl rfl aw_int rfl rfl dX7_init_23 (fun Γ s5 => ?_)
  refine jq_aput Γ hlY ⟨105, rfl, by decide +kernel, by decide +kernel⟩ fl_RX7_18 rfl rfl rfl dX7_init_25 (fun s6 => ?_)
  refine jq_aload_n Γ.1 dX7_init_28 rfl 0 rfl (by decide) ?_
  refine jq_bipush Γ.1 dX7_init_29 rfl ?_
  refine jq_newI Γ (by decide) hlY (by decide +kernel) rfl rfl rfl aw_int rfl rfl dX7_init_31 (fun Γ s7 => ?_)
  refine jq_aput Γ hlY ⟨105, rfl, by decide +kernel, by decide +kernel⟩ fl_RX7_21 rfl rfl rfl dX7_init_33 (fun s8 => ?_)
  refine jq_aload_n Γ.1 dX7_init_36 rfl 0 rfl (by decide) ?_
  refine jq_iconst Γ.1 dX7_init_37 rfl ?_
  refine jq_newI Γ (by decide) hlY (by decide +kernel) rfl rfl rfl aw_int rfl rfl dX7_init_38 (fun Γ s9 => ?_)
  refine jq_aput Γ hlY ⟨105, rfl, by decide +kernel, by decide +kernel⟩ fl_RX7_24 rfl rfl rfl dX7_init_40 (fun s10 => ?_)
  exact jq_ireti Γ dX7_init_43 (hK0 _)


noncomputable def X1_init_92 (σ : jq_M) : Option jq_M :=
  jq_lt (jq_al σ 93 (fun _ => 0)) fun s1 =>
  jq_lt (jq_st s1 92 7 93) fun s2 =>
  jq_lt (jq_al s2 94 (fun _ => 0)) fun s3 =>
  jq_lt (jq_st s3 92 8 94) fun s4 =>
  jq_lt (jq_al s4 95 (fun _ => 0)) fun s5 =>
  jq_lt (jq_st s5 92 9 95) fun s6 =>
  jq_lt (jq_al s6 96 (fun _ => 0)) fun s7 =>
  jq_lt (jq_st s7 92 10 96) fun s8 =>
  jq_lt (jq_al s8 97 (fun _ => 0)) fun s9 =>
  jq_lt (jq_st s9 92 11 97) fun s10 =>
  jq_lt (jq_al s10 98 (fun _ => 0)) fun s11 =>
  jq_lt (jq_st s11 92 12 98) fun s12 =>
  jq_lt (jq_al s12 99 (fun _ => 0)) fun s13 =>
  jq_lt (jq_st s13 92 13 99) fun s14 =>
  jq_lt (jq_al s14 100 (fun _ => 0)) fun s15 =>
  jq_lt (jq_st s15 92 14 100) fun s16 =>
  jq_lt (jq_al s16 101 (fun _ => 0)) fun s17 =>
  jq_lt (jq_st s17 92 15 101) fun s18 =>
  jq_lt (jq_al s18 102 (fun _ => 0)) fun s19 =>
  jq_lt (jq_st s19 92 16 102) fun s20 =>
  jq_lt (jq_al s20 103 (fun _ => 0)) fun s21 =>
  jq_lt (jq_st s21 92 17 103) fun s22 =>
  jq_lt (jq_al s22 104 (fun _ => 0)) fun s23 =>
  jq_lt (jq_st s23 92 18 104) fun s24 =>
  jq_lt (jq_al s24 105 (jq_df 4)) fun s25 =>
  (X7_init_105 s25).bind fun s26 =>
  jq_lt (jq_st s26 92 19 105) fun s27 =>
  jq_lt (jq_al s27 111 (fun _ => 0)) fun s28 =>
  jq_lt (jq_st s28 92 20 111) fun s29 =>
  some s29

set_option maxHeartbeats 8000000 in
set_option maxRecDepth 100000 in
theorem ctX1_init_92 {σ σ' : jq_M} (h : X1_init_92 σ = some σ') : jq_MI jq_zX yX1_init cX1_init 1 2 80 19 392 [jR 92] 93 σ 112 σ' := by
  refine jq_metI (own := RX1) (L0 := [(0, jR 92)]) (by decide) rfl rfl rfl rfl ?_
  intro X Γ hnl hlY hAO hRT
  refine jq_use2 (P := fun r => jq_RI jq_zX X 19 392 112 r) ?_ h hRT
  intro K0 hK0
  unfold X1_init_92
  refine jq_aload_n Γ.1 dX1_init_0 rfl 0 rfl (by decide) ?_
  refine jq_oinit Γ.1 (by decide) oi_RX1_3 oi_i oi_c rfl rfl dX1_init_1 ?_
  refine jq_aload_n Γ.1 dX1_init_4 rfl 0 rfl (by decide) ?_
  refine jq_iconst Γ.1 dX1_init_5 rfl ?_
  refine jq_newL Γ (by decide) hlY (by decide +kernel) rfl rfl rfl aw_long rfl rfl dX1_init_6 (fun Γ s1 => ?_)
  refine jq_aput Γ hlY ⟨92, rfl, by decide +kernel, by decide +kernel⟩ fl_RX1_9 rfl rfl rfl dX1_init_8 (fun s2 => ?_)
  refine jq_aload_n Γ.1 dX1_init_11 rfl 0 rfl (by decide) ?_
  refine jq_iconst Γ.1 dX1_init_12 rfl ?_
  refine jq_newI Γ (by decide) hlY (by decide +kernel) rfl rfl rfl aw_int rfl rfl dX1_init_13 (fun Γ s3 => ?_)
  refine jq_aput Γ hlY ⟨92, rfl, by decide +kernel, by decide +kernel⟩ fl_RX1_15 rfl rfl rfl dX1_init_15 (fun s4 => ?_)
  refine jq_aload_n Γ.1 dX1_init_18 rfl 0 rfl (by decide) ?_
  refine jq_iconst Γ.1 dX1_init_19 rfl ?_
  refine jq_newI Γ (by decide) hlY (by decide +kernel) rfl rfl rfl aw_int rfl rfl dX1_init_20 (fun Γ s5 => ?_)
  refine jq_aput Γ hlY ⟨92, rfl, by decide +kernel, by decide +kernel⟩ fl_RX1_19 rfl rfl rfl dX1_init_22 (fun s6 => ?_)
  refine jq_aload_n Γ.1 dX1_init_25 rfl 0 rfl (by decide) ?_
  refine jq_bipush Γ.1 dX1_init_26 rfl ?_
  refine jq_newI Γ (by decide) hlY (by decide +kernel) rfl rfl rfl aw_int rfl rfl dX1_init_28 (fun Γ s7 => ?_)
  refine jq_aput Γ hlY ⟨92, rfl, by decide +kernel, by decide +kernel⟩ fl_RX1_22 rfl rfl rfl dX1_init_30 (fun s8 => ?_)
  refine jq_aload_n Γ.1 dX1_init_33 rfl 0 rfl (by decide) ?_
  refine jq_bipush Γ.1 dX1_init_34 rfl ?_
  refine jq_newI Γ (by decide) hlY (by decide +kernel) rfl rfl rfl aw_int rfl rfl dX1_init_36 (fun Γ s9 => ?_)
  refine jq_aput Γ hlY ⟨92, rfl, by decide +kernel, by decide +kernel⟩ fl_RX1_25 rfl rfl rfl dX1_init_38 (fun s10 => ?_)
  refine jq_aload_n Γ.1 dX1_init_41 rfl 0 rfl (by decide) ?_
  refine jq_bipush Γ.1 dX1_init_42 rfl ?_
  refine jq_newI Γ (by decide) hlY (by decide +kernel) rfl rfl rfl aw_int rfl rfl dX1_init_44 (fun Γ s11 => ?_)
  refine jq_aput Γ hlY ⟨92, rfl, by decide +kernel, by decide +kernel⟩ fl_RX1_28 rfl rfl rfl dX1_init_46 (fun s12 => ?_)
  refine jq_aload_n Γ.1 dX1_init_49 rfl 0 rfl (by decide) ?_
  refine jq_bipush Γ.1 dX1_init_50 rfl ?_
  refine jq_newI Γ (by decide) hlY (by decide +kernel) rfl rfl rfl aw_int rfl rfl dX1_init_52 (fun Γ s13 => ?_)
  refine jq_aput Γ hlY ⟨92, rfl, by decide +kernel, by decide +kernel⟩ fl_RX1_31 rfl rfl rfl dX1_init_54 (fun s14 => ?_)
  refine jq_aload_n Γ.1 dX1_init_57 rfl 0 rfl (by decide) ?_
  refine jq_bipush Γ.1 dX1_init_58 rfl ?_
  refine jq_newL Γ (by decide) hlY (by decide +kernel) rfl rfl rfl aw_long rfl rfl dX1_init_60 (fun Γ s15 => ?_)
  refine jq_aput Γ hlY ⟨92, rfl, by decide +kernel, by decide +kernel⟩ fl_RX1_34 rfl rfl rfl dX1_init_62 (fun s16 => ?_)
  refine jq_aload_n Γ.1 dX1_init_65 rfl 0 rfl (by decide) ?_
  refine jq_bipush Γ.1 dX1_init_66 rfl ?_
  refine jq_newI Γ (by decide) hlY (by decide +kernel) rfl rfl rfl aw_int rfl rfl dX1_init_68 (fun Γ s17 => ?_)
  refine jq_aput Γ hlY ⟨92, rfl, by decide +kernel, by decide +kernel⟩ fl_RX1_37 rfl rfl rfl dX1_init_70 (fun s18 => ?_)
  refine jq_aload_n Γ.1 dX1_init_73 rfl 0 rfl (by decide) ?_
  refine jq_bipush Γ.1 dX1_init_74 rfl ?_
  refine jq_newI Γ (by decide) hlY (by decide +kernel) rfl rfl rfl aw_int rfl rfl dX1_init_76 (fun Γ s19 => ?_)
  refine jq_aput Γ hlY ⟨92, rfl, by decide +kernel, by decide +kernel⟩ fl_RX1_40 rfl rfl rfl dX1_init_78 (fun s20 => ?_)
  refine jq_aload_n Γ.1 dX1_init_81 rfl 0 rfl (by decide) ?_
  refine jq_bipush Γ.1 dX1_init_82 rfl ?_
  refine jq_newI Γ (by decide) hlY (by decide +kernel) rfl rfl rfl aw_int rfl rfl dX1_init_84 (fun Γ s21 => ?_)
  refine jq_aput Γ hlY ⟨92, rfl, by decide +kernel, by decide +kernel⟩ fl_RX1_43 rfl rfl rfl dX1_init_86 (fun s22 => ?_)
  refine jq_aload_n Γ.1 dX1_init_89 rfl 0 rfl (by decide) ?_
  refine jq_bipush Γ.1 dX1_init_90 rfl ?_
  refine jq_newI Γ (by decide) hlY (by decide +kernel) rfl rfl rfl aw_int rfl rfl dX1_init_92 (fun Γ s23 => ?_)
  refine jq_aput Γ hlY ⟨92, rfl, by decide +kernel, by decide +kernel⟩ fl_RX1_46 rfl rfl rfl dX1_init_94 (fun s24 => ?_)
  refine jq_aload_n Γ.1 dX1_init_97 rfl 0 rfl (by decide) ?_
  refine jq_new Γ (by decide) hlY cls_X7 (by decide +kernel) rfl nw_RX1_49 nwi_X7 nwz_X7 rfl rfl dX1_init_98 (fun Γ s25 => ?_)
  refine jq_dup Γ.1 dX1_init_101 rfl ?_
  refine jq_cinitN Γ (by decide) hlY hAO ml_RX1_51 (by decide) rfl rfl rfl rfl rfl rfl rfl dX1_init_102 (fun σ' h => ctX7_init_105 h) (fun Γ s26 => ?_)
  refine jq_aput Γ hlY ⟨92, rfl, by decide +kernel, by decide +kernel⟩ fl_RX1_52 rfl rfl rfl dX1_init_105 (fun s27 => ?_)
  refine jq_aload_n Γ.1 dX1_init_108 rfl 0 rfl (by decide) ?_
  refine jq_iconst Γ.1 dX1_init_109 rfl ?_
  refine jq_newI Γ (by decide) hlY (by decide +kernel) rfl rfl rfl aw_int rfl rfl dX1_init_110 (fun Γ s28 => ?_)
  refine jq_aput Γ hlY ⟨92, rfl, by decide +kernel, by decide +kernel⟩ fl_RX1_56 rfl rfl rfl dX1_init_112 (fun s29 => ?_)
  exact jq_ireti Γ dX1_init_115 (hK0 _)


noncomputable def X7_init_125 (σ : jq_M) : Option jq_M :=
  jq_lt (jq_al σ 126 (fun _ => 0)) fun s1 =>
  jq_lt (jq_st s1 125 3 126) fun s2 =>
  jq_lt (jq_al s2 127 (fun _ => 0)) fun s3 =>
  jq_lt (jq_st s3 125 4 127) fun s4 =>
  jq_lt (jq_al s4 128 (fun _ => 0)) fun s5 =>
  jq_lt (jq_st s5 125 5 128) fun s6 =>
  jq_lt (jq_al s6 129 (fun _ => 0)) fun s7 =>
  jq_lt (jq_st s7 125 6 129) fun s8 =>
  jq_lt (jq_al s8 130 (fun _ => 0)) fun s9 =>
  jq_lt (jq_st s9 125 7 130) fun s10 =>
  some s10

set_option maxHeartbeats 8000000 in
set_option maxRecDepth 100000 in
theorem ctX7_init_125 {σ σ' : jq_M} (h : X7_init_125 σ = some σ') : jq_MI jq_zX yX7_init cX7_init 1 1 60 5 243 [jR 125] 126 σ 131 σ' := by
  refine jq_metI (own := RX7) (L0 := [(0, jR 125)]) (by decide) rfl rfl rfl rfl ?_
  intro X Γ hnl hlY hAO hRT
  refine jq_use2 (P := fun r => jq_RI jq_zX X 5 243 131 r) ?_ h hRT
  intro K0 hK0
  unfold X7_init_125
  refine jq_aload_n Γ.1 dX7_init_0 rfl 0 rfl (by decide) ?_
  refine jq_oinit Γ.1 (by decide) oi_RX7_3 oi_i oi_c rfl rfl dX7_init_1 ?_
  refine jq_aload_n Γ.1 dX7_init_4 rfl 0 rfl (by decide) ?_
  refine jq_bipush Γ.1 dX7_init_5 rfl ?_
  refine jq_newI Γ (by decide) hlY (by decide +kernel) rfl rfl rfl aw_int rfl rfl dX7_init_7 (fun Γ s1 => ?_)
  refine jq_aput Γ hlY ⟨125, rfl, by decide +kernel, by decide +kernel⟩ fl_RX7_9 rfl rfl rfl dX7_init_9 (fun s2 => ?_)
  refine jq_aload_n Γ.1 dX7_init_12 rfl 0 rfl (by decide) ?_
  refine jq_bipush Γ.1 dX7_init_13 rfl ?_
  refine jq_newI Γ (by decide) hlY (by decide +kernel) rfl rfl rfl aw_int rfl rfl dX7_init_15 (fun Γ s3 => ?_)
  refine jq_aput Γ hlY ⟨125, rfl, by decide +kernel, by decide +kernel⟩ fl_RX7_15 rfl rfl rfl dX7_init_17 (fun s4 => ?_)
  refine jq_aload_n Γ.1 dX7_init_20 rfl 0 rfl (by decide) ?_
  refine jq_bipush Γ.1 dX7_init_21 rfl ?_
  refine jq_newI Γ (by decide) hlY (by decide +kernel) rfl rfl rfl aw_int rfl rfl dX7_init_23 (fun Γ s5 => ?_)
  refine jq_aput Γ hlY ⟨125, rfl, by decide +kernel, by decide +kernel⟩ fl_RX7_18 rfl rfl rfl dX7_init_25 (fun s6 => ?_)
  refine jq_aload_n Γ.1 dX7_init_28 rfl 0 rfl (by decide) ?_
  refine jq_bipush Γ.1 dX7_init_29 rfl ?_
  refine jq_newI Γ (by decide) hlY (by decide +kernel) rfl rfl rfl aw_int rfl rfl dX7_init_31 (fun Γ s7 => ?_)
  refine jq_aput Γ hlY ⟨125, rfl, by decide +kernel, by decide +kernel⟩ fl_RX7_21 rfl rfl rfl dX7_init_33 (fun s8 => ?_)
  refine jq_aload_n Γ.1 dX7_init_36 rfl 0 rfl (by decide) ?_
  refine jq_iconst Γ.1 dX7_init_37 rfl ?_
  refine jq_newI Γ (by decide) hlY (by decide +kernel) rfl rfl rfl aw_int rfl rfl dX7_init_38 (fun Γ s9 => ?_)
  refine jq_aput Γ hlY ⟨125, rfl, by decide +kernel, by decide +kernel⟩ fl_RX7_24 rfl rfl rfl dX7_init_40 (fun s10 => ?_)
  exact jq_ireti Γ dX7_init_43 (hK0 _)


noncomputable def X1_init_112 (σ : jq_M) : Option jq_M :=
  jq_lt (jq_al σ 113 (fun _ => 0)) fun s1 =>
  jq_lt (jq_st s1 112 7 113) fun s2 =>
  jq_lt (jq_al s2 114 (fun _ => 0)) fun s3 =>
  jq_lt (jq_st s3 112 8 114) fun s4 =>
  jq_lt (jq_al s4 115 (fun _ => 0)) fun s5 =>
  jq_lt (jq_st s5 112 9 115) fun s6 =>
  jq_lt (jq_al s6 116 (fun _ => 0)) fun s7 =>
  jq_lt (jq_st s7 112 10 116) fun s8 =>
  jq_lt (jq_al s8 117 (fun _ => 0)) fun s9 =>
  jq_lt (jq_st s9 112 11 117) fun s10 =>
  jq_lt (jq_al s10 118 (fun _ => 0)) fun s11 =>
  jq_lt (jq_st s11 112 12 118) fun s12 =>
  jq_lt (jq_al s12 119 (fun _ => 0)) fun s13 =>
  jq_lt (jq_st s13 112 13 119) fun s14 =>
  jq_lt (jq_al s14 120 (fun _ => 0)) fun s15 =>
  jq_lt (jq_st s15 112 14 120) fun s16 =>
  jq_lt (jq_al s16 121 (fun _ => 0)) fun s17 =>
  jq_lt (jq_st s17 112 15 121) fun s18 =>
  jq_lt (jq_al s18 122 (fun _ => 0)) fun s19 =>
  jq_lt (jq_st s19 112 16 122) fun s20 =>
  jq_lt (jq_al s20 123 (fun _ => 0)) fun s21 =>
  jq_lt (jq_st s21 112 17 123) fun s22 =>
  jq_lt (jq_al s22 124 (fun _ => 0)) fun s23 =>
  jq_lt (jq_st s23 112 18 124) fun s24 =>
  jq_lt (jq_al s24 125 (jq_df 4)) fun s25 =>
  (X7_init_125 s25).bind fun s26 =>
  jq_lt (jq_st s26 112 19 125) fun s27 =>
  jq_lt (jq_al s27 131 (fun _ => 0)) fun s28 =>
  jq_lt (jq_st s28 112 20 131) fun s29 =>
  some s29

set_option maxHeartbeats 8000000 in
set_option maxRecDepth 100000 in
theorem ctX1_init_112 {σ σ' : jq_M} (h : X1_init_112 σ = some σ') : jq_MI jq_zX yX1_init cX1_init 1 2 80 19 392 [jR 112] 113 σ 132 σ' := by
  refine jq_metI (own := RX1) (L0 := [(0, jR 112)]) (by decide) rfl rfl rfl rfl ?_
  intro X Γ hnl hlY hAO hRT
  refine jq_use2 (P := fun r => jq_RI jq_zX X 19 392 132 r) ?_ h hRT
  intro K0 hK0
  unfold X1_init_112
  refine jq_aload_n Γ.1 dX1_init_0 rfl 0 rfl (by decide) ?_
  refine jq_oinit Γ.1 (by decide) oi_RX1_3 oi_i oi_c rfl rfl dX1_init_1 ?_
  refine jq_aload_n Γ.1 dX1_init_4 rfl 0 rfl (by decide) ?_
  refine jq_iconst Γ.1 dX1_init_5 rfl ?_
  refine jq_newL Γ (by decide) hlY (by decide +kernel) rfl rfl rfl aw_long rfl rfl dX1_init_6 (fun Γ s1 => ?_)
  refine jq_aput Γ hlY ⟨112, rfl, by decide +kernel, by decide +kernel⟩ fl_RX1_9 rfl rfl rfl dX1_init_8 (fun s2 => ?_)
  refine jq_aload_n Γ.1 dX1_init_11 rfl 0 rfl (by decide) ?_
  refine jq_iconst Γ.1 dX1_init_12 rfl ?_
  refine jq_newI Γ (by decide) hlY (by decide +kernel) rfl rfl rfl aw_int rfl rfl dX1_init_13 (fun Γ s3 => ?_)
  refine jq_aput Γ hlY ⟨112, rfl, by decide +kernel, by decide +kernel⟩ fl_RX1_15 rfl rfl rfl dX1_init_15 (fun s4 => ?_)
  refine jq_aload_n Γ.1 dX1_init_18 rfl 0 rfl (by decide) ?_
  refine jq_iconst Γ.1 dX1_init_19 rfl ?_
  refine jq_newI Γ (by decide) hlY (by decide +kernel) rfl rfl rfl aw_int rfl rfl dX1_init_20 (fun Γ s5 => ?_)
  refine jq_aput Γ hlY ⟨112, rfl, by decide +kernel, by decide +kernel⟩ fl_RX1_19 rfl rfl rfl dX1_init_22 (fun s6 => ?_)
  refine jq_aload_n Γ.1 dX1_init_25 rfl 0 rfl (by decide) ?_
  refine jq_bipush Γ.1 dX1_init_26 rfl ?_
  refine jq_newI Γ (by decide) hlY (by decide +kernel) rfl rfl rfl aw_int rfl rfl dX1_init_28 (fun Γ s7 => ?_)
  refine jq_aput Γ hlY ⟨112, rfl, by decide +kernel, by decide +kernel⟩ fl_RX1_22 rfl rfl rfl dX1_init_30 (fun s8 => ?_)
  refine jq_aload_n Γ.1 dX1_init_33 rfl 0 rfl (by decide) ?_
  refine jq_bipush Γ.1 dX1_init_34 rfl ?_
  refine jq_newI Γ (by decide) hlY (by decide +kernel) rfl rfl rfl aw_int rfl rfl dX1_init_36 (fun Γ s9 => ?_)
  refine jq_aput Γ hlY ⟨112, rfl, by decide +kernel, by decide +kernel⟩ fl_RX1_25 rfl rfl rfl dX1_init_38 (fun s10 => ?_)
  refine jq_aload_n Γ.1 dX1_init_41 rfl 0 rfl (by decide) ?_
  refine jq_bipush Γ.1 dX1_init_42 rfl ?_
  refine jq_newI Γ (by decide) hlY (by decide +kernel) rfl rfl rfl aw_int rfl rfl dX1_init_44 (fun Γ s11 => ?_)
  refine jq_aput Γ hlY ⟨112, rfl, by decide +kernel, by decide +kernel⟩ fl_RX1_28 rfl rfl rfl dX1_init_46 (fun s12 => ?_)
  refine jq_aload_n Γ.1 dX1_init_49 rfl 0 rfl (by decide) ?_
  refine jq_bipush Γ.1 dX1_init_50 rfl ?_
  refine jq_newI Γ (by decide) hlY (by decide +kernel) rfl rfl rfl aw_int rfl rfl dX1_init_52 (fun Γ s13 => ?_)
  refine jq_aput Γ hlY ⟨112, rfl, by decide +kernel, by decide +kernel⟩ fl_RX1_31 rfl rfl rfl dX1_init_54 (fun s14 => ?_)
  refine jq_aload_n Γ.1 dX1_init_57 rfl 0 rfl (by decide) ?_
  refine jq_bipush Γ.1 dX1_init_58 rfl ?_
  refine jq_newL Γ (by decide) hlY (by decide +kernel) rfl rfl rfl aw_long rfl rfl dX1_init_60 (fun Γ s15 => ?_)
  refine jq_aput Γ hlY ⟨112, rfl, by decide +kernel, by decide +kernel⟩ fl_RX1_34 rfl rfl rfl dX1_init_62 (fun s16 => ?_)
  refine jq_aload_n Γ.1 dX1_init_65 rfl 0 rfl (by decide) ?_
  refine jq_bipush Γ.1 dX1_init_66 rfl ?_
  refine jq_newI Γ (by decide) hlY (by decide +kernel) rfl rfl rfl aw_int rfl rfl dX1_init_68 (fun Γ s17 => ?_)
  refine jq_aput Γ hlY ⟨112, rfl, by decide +kernel, by decide +kernel⟩ fl_RX1_37 rfl rfl rfl dX1_init_70 (fun s18 => ?_)
  refine jq_aload_n Γ.1 dX1_init_73 rfl 0 rfl (by decide) ?_
  refine jq_bipush Γ.1 dX1_init_74 rfl ?_
  refine jq_newI Γ (by decide) hlY (by decide +kernel) rfl rfl rfl aw_int rfl rfl dX1_init_76 (fun Γ s19 => ?_)
  refine jq_aput Γ hlY ⟨112, rfl, by decide +kernel, by decide +kernel⟩ fl_RX1_40 rfl rfl rfl dX1_init_78 (fun s20 => ?_)
  refine jq_aload_n Γ.1 dX1_init_81 rfl 0 rfl (by decide) ?_
  refine jq_bipush Γ.1 dX1_init_82 rfl ?_
  refine jq_newI Γ (by decide) hlY (by decide +kernel) rfl rfl rfl aw_int rfl rfl dX1_init_84 (fun Γ s21 => ?_)
  refine jq_aput Γ hlY ⟨112, rfl, by decide +kernel, by decide +kernel⟩ fl_RX1_43 rfl rfl rfl dX1_init_86 (fun s22 => ?_)
  refine jq_aload_n Γ.1 dX1_init_89 rfl 0 rfl (by decide) ?_
  refine jq_bipush Γ.1 dX1_init_90 rfl ?_
  refine jq_newI Γ (by decide) hlY (by decide +kernel) rfl rfl rfl aw_int rfl rfl dX1_init_92 (fun Γ s23 => ?_)
  refine jq_aput Γ hlY ⟨112, rfl, by decide +kernel, by decide +kernel⟩ fl_RX1_46 rfl rfl rfl dX1_init_94 (fun s24 => ?_)
  refine jq_aload_n Γ.1 dX1_init_97 rfl 0 rfl (by decide) ?_
  refine jq_new Γ (by decide) hlY cls_X7 (by decide +kernel) rfl nw_RX1_49 nwi_X7 nwz_X7 rfl rfl dX1_init_98 (fun Γ s25 => ?_)
  refine jq_dup Γ.1 dX1_init_101 rfl ?_
  refine jq_cinitN Γ (by decide) hlY hAO ml_RX1_51 (by decide) rfl rfl rfl rfl rfl rfl rfl dX1_init_102 (fun σ' h => ctX7_init_125 h) (fun Γ s26 => ?_)
  refine jq_aput Γ hlY ⟨112, rfl, by decide +kernel, by decide +kernel⟩ fl_RX1_52 rfl rfl rfl dX1_init_105 (fun s27 => ?_)
  refine jq_aload_n Γ.1 dX1_init_108 rfl 0 rfl (by decide) ?_
  refine jq_iconst Γ.1 dX1_init_109 rfl ?_
  refine jq_newI Γ (by decide) hlY (by decide +kernel) rfl rfl rfl aw_int rfl rfl dX1_init_110 (fun Γ s28 => ?_)
  refine jq_aput Γ hlY ⟨112, rfl, by decide +kernel, by decide +kernel⟩ fl_RX1_56 rfl rfl rfl dX1_init_112 (fun s29 => ?_)
  exact jq_ireti Γ dX1_init_115 (hK0 _)


noncomputable def X10_init_0 (σ : jq_M) : Option jq_M :=
  jq_lt (jq_al σ 1 (fun _ => -1)) fun s1 =>
  jq_lt (jq_st s1 0 3 1) fun s2 =>
  jq_lt (jq_al s2 2 (jq_df 3)) fun s3 =>
  (X5_init_2 s3).bind fun s4 =>
  jq_lt (jq_st s4 0 4 2) fun s5 =>
  jq_lt (jq_al s5 5 (jq_df 1)) fun s6 =>
  (X1_init_5 s6).bind fun s7 =>
  jq_lt (jq_st s7 0 7 5) fun s8 =>
  jq_lt (jq_al s8 25 (jq_df 1)) fun s9 =>
  (X1_init_25 s9).bind fun s10 =>
  jq_lt (jq_st s10 0 8 25) fun s11 =>
  jq_lt (jq_al s11 45 (jq_df 4)) fun s12 =>
  (X7_init_45 s12).bind fun s13 =>
  jq_lt (jq_st s13 0 9 45) fun s14 =>
  jq_lt (jq_al s14 51 (fun _ => -1)) fun s15 =>
  jq_lt (jq_st s15 0 10 51) fun s16 =>
  jq_lt (jq_al s16 52 (jq_df 5)) fun s17 =>
  (X8_init_52 s17).bind fun s18 =>
  jq_lt (jq_st s18 0 12 52) fun s19 =>
  jq_lt (jq_al s19 57 (jq_df 0)) fun s20 =>
  (X0_init_57 s20).bind fun s21 =>
  jq_lt (jq_st s21 0 13 57) fun s22 =>
  jq_lt (jq_al s22 60 (jq_df 2)) fun s23 =>
  (X3_init_60 s23).bind fun s24 =>
  jq_lt (jq_st s24 0 14 60) fun s25 =>
  jq_lt (jq_al s25 62 (fun _ => 0)) fun s26 =>
  jq_lt (jq_st s26 0 15 62) fun s27 =>
  jq_lt (jq_al s27 63 (fun _ => 0)) fun s28 =>
  jq_lt (jq_st s28 0 17 63) fun s29 =>
  jq_lt (jq_st s29 0 0 0) fun s30 =>
  jq_lt (jq_st s30 0 1 0) fun s31 =>
  jq_lt (jq_st s31 0 2 1) fun s32 =>
  jq_lt (jq_st s32 0 5 (-1)) fun s33 =>
  jq_lt (jq_st s33 0 6 (-1)) fun s34 =>
  jq_els (s34 0 3 = 1) <|
  jq_els ((0 : Int) < 4) <|
  jq_els (s34 0 3 = 1) <|
  jq_lt (jq_al s34 64 (jq_df 6)) fun s35 =>
  (X9_init_64 s35).bind fun s36 =>
  (jq_sa s36 1 4 0 64).bind fun s37 =>
  jq_els (s37 0 3 = 1) <|
  jq_els ((1 : Int) < 4) <|
  jq_els (s37 0 3 = 1) <|
  jq_lt (jq_al s37 66 (jq_df 6)) fun s38 =>
  (X9_init_66 s38).bind fun s39 =>
  (jq_sa s39 1 4 1 66).bind fun s40 =>
  jq_els (s40 0 3 = 1) <|
  jq_els ((2 : Int) < 4) <|
  jq_els (s40 0 3 = 1) <|
  jq_lt (jq_al s40 68 (jq_df 6)) fun s41 =>
  (X9_init_68 s41).bind fun s42 =>
  (jq_sa s42 1 4 2 68).bind fun s43 =>
  jq_els (s43 0 3 = 1) <|
  jq_els ((3 : Int) < 4) <|
  jq_els (s43 0 3 = 1) <|
  jq_lt (jq_al s43 70 (jq_df 6)) fun s44 =>
  (X9_init_70 s44).bind fun s45 =>
  (jq_sa s45 1 4 3 70).bind fun s46 =>
  jq_els (s46 0 3 = 1) <|
  if (4 : Int) < 4 then none else
  jq_els (s46 0 10 = 51) <|
  jq_els ((0 : Int) < 3) <|
  jq_els (s46 0 10 = 51) <|
  jq_lt (jq_al s46 72 (jq_df 1)) fun s47 =>
  (X1_init_72 s47).bind fun s48 =>
  (jq_sa s48 51 3 0 72).bind fun s49 =>
  jq_els (s49 0 10 = 51) <|
  jq_els ((1 : Int) < 3) <|
  jq_els (s49 0 10 = 51) <|
  jq_lt (jq_al s49 92 (jq_df 1)) fun s50 =>
  (X1_init_92 s50).bind fun s51 =>
  (jq_sa s51 51 3 1 92).bind fun s52 =>
  jq_els (s52 0 10 = 51) <|
  jq_els ((2 : Int) < 3) <|
  jq_els (s52 0 10 = 51) <|
  jq_lt (jq_al s52 112 (jq_df 1)) fun s53 =>
  (X1_init_112 s53).bind fun s54 =>
  (jq_sa s54 51 3 2 112).bind fun s55 =>
  jq_els (s55 0 10 = 51) <|
  if (3 : Int) < 3 then none else
  some s55

set_option maxHeartbeats 8000000 in
set_option maxRecDepth 100000 in
theorem ctX10_init_0 {σ σ' : jq_M} (h : X10_init_0 σ = some σ') : jq_MI jq_zX yX10_init cX10_init 2 8 285 131 4601 [jR 0] 1 σ 132 σ' := by
  refine jq_metI (own := RX10) (L0 := [(0, jR 0)]) (by decide) rfl rfl rfl rfl ?_
  intro X Γ hnl hlY hAO hRT
  refine jq_use2 (P := fun r => jq_RI jq_zX X 131 4601 132 r) ?_ h hRT
  intro K0 hK0
  unfold X10_init_0
  refine jq_aload_n Γ.1 dX10_init_0 rfl 0 rfl (by decide) ?_
  refine jq_oinit Γ.1 (by decide) oi_RX10_1 oi_i oi_c rfl rfl dX10_init_1 ?_
  refine jq_aload_n Γ.1 dX10_init_4 rfl 0 rfl (by decide) ?_
  refine jq_iconst Γ.1 dX10_init_5 rfl ?_
  refine jq_anew3 Γ (by decide) hlY (by decide +kernel) rfl rfl rfl aq_RX10_9 rfl rfl dX10_init_6 hAO (fun Γ s1 => ?_)
  refine jq_aput Γ hlY ⟨0, rfl, by decide +kernel, by decide +kernel⟩ fl_RX10_11 rfl rfl rfl dX10_init_9 (fun s2 => ?_)
  refine jq_aload_n Γ.1 dX10_init_12 rfl 0 rfl (by decide) ?_
  refine jq_new Γ (by decide) hlY cls_X5 (by decide +kernel) rfl nw_RX10_15 nwi_X5 nwz_X5 rfl rfl dX10_init_13 (fun Γ s3 => ?_)
  refine jq_dup Γ.1 dX10_init_16 rfl ?_
  refine jq_cinit Γ (by decide) hlY hAO ml_RX10_17 (by decide) rfl rfl rfl rfl rfl rfl rfl dX10_init_17 (fun σ' h => ctX5_init_2 h) (fun Γ s4 => ?_)
  refine jq_aput Γ hlY ⟨0, rfl, by decide +kernel, by decide +kernel⟩ fl_RX10_18 rfl rfl rfl dX10_init_20 (fun s5 => ?_)
  refine jq_aload_n Γ.1 dX10_init_23 rfl 0 rfl (by decide) ?_
  refine jq_new Γ (by decide) hlY cls_X1 (by decide +kernel) rfl nw_RX10_22 nwi_X1 nwz_X1 rfl rfl dX10_init_24 (fun Γ s6 => ?_)
  refine jq_dup Γ.1 dX10_init_27 rfl ?_
  refine jq_cinitN Γ (by decide) hlY hAO ml_RX10_24 (by decide) rfl rfl rfl rfl rfl rfl rfl dX10_init_28 (fun σ' h => ctX1_init_5 h) (fun Γ s7 => ?_)
  refine jq_aput Γ hlY ⟨0, rfl, by decide +kernel, by decide +kernel⟩ fl_RX10_25 rfl rfl rfl dX10_init_31 (fun s8 => ?_)
  refine jq_aload_n Γ.1 dX10_init_34 rfl 0 rfl (by decide) ?_
  refine jq_new Γ (by decide) hlY cls_X1 (by decide +kernel) rfl nw_RX10_22 nwi_X1 nwz_X1 rfl rfl dX10_init_35 (fun Γ s9 => ?_)
  refine jq_dup Γ.1 dX10_init_38 rfl ?_
  refine jq_cinitN Γ (by decide) hlY hAO ml_RX10_24 (by decide) rfl rfl rfl rfl rfl rfl rfl dX10_init_39 (fun σ' h => ctX1_init_25 h) (fun Γ s10 => ?_)
  refine jq_aput Γ hlY ⟨0, rfl, by decide +kernel, by decide +kernel⟩ fl_RX10_29 rfl rfl rfl dX10_init_42 (fun s11 => ?_)
  refine jq_aload_n Γ.1 dX10_init_45 rfl 0 rfl (by decide) ?_
  refine jq_new Γ (by decide) hlY cls_X7 (by decide +kernel) rfl nw_RX10_32 nwi_X7 nwz_X7 rfl rfl dX10_init_46 (fun Γ s12 => ?_)
  refine jq_dup Γ.1 dX10_init_49 rfl ?_
  refine jq_cinitN Γ (by decide) hlY hAO ml_RX10_34 (by decide) rfl rfl rfl rfl rfl rfl rfl dX10_init_50 (fun σ' h => ctX7_init_45 h) (fun Γ s13 => ?_)
  refine jq_aput Γ hlY ⟨0, rfl, by decide +kernel, by decide +kernel⟩ fl_RX10_35 rfl rfl rfl dX10_init_53 (fun s14 => ?_)
  refine jq_aload_n Γ.1 dX10_init_56 rfl 0 rfl (by decide) ?_
  refine jq_iconst Γ.1 dX10_init_57 rfl ?_
  refine jq_anew4 Γ (by decide) hlY (by decide +kernel) rfl rfl rfl aq_RX10_22 rfl rfl dX10_init_58 hAO (fun Γ s15 => ?_)
  refine jq_aput Γ hlY ⟨0, rfl, by decide +kernel, by decide +kernel⟩ fl_RX10_39 rfl rfl rfl dX10_init_61 (fun s16 => ?_)
  refine jq_aload_n Γ.1 dX10_init_64 rfl 0 rfl (by decide) ?_
  refine jq_new Γ (by decide) hlY cls_X8 (by decide +kernel) rfl nw_RX10_43 nwi_X8 nwz_X8 rfl rfl dX10_init_65 (fun Γ s17 => ?_)
  refine jq_dup Γ.1 dX10_init_68 rfl ?_
  refine jq_cinitN Γ (by decide) hlY hAO ml_RX10_45 (by decide) rfl rfl rfl rfl rfl rfl rfl dX10_init_69 (fun σ' h => ctX8_init_52 h) (fun Γ s18 => ?_)
  refine jq_aput Γ hlY ⟨0, rfl, by decide +kernel, by decide +kernel⟩ fl_RX10_46 rfl rfl rfl dX10_init_72 (fun s19 => ?_)
  refine jq_aload_n Γ.1 dX10_init_75 rfl 0 rfl (by decide) ?_
  refine jq_new Γ (by decide) hlY cls_X0 (by decide +kernel) rfl nw_RX10_50 nwi_X0 nwz_X0 rfl rfl dX10_init_76 (fun Γ s20 => ?_)
  refine jq_dup Γ.1 dX10_init_79 rfl ?_
  refine jq_cinitN Γ (by decide) hlY hAO ml_RX10_52 (by decide) rfl rfl rfl rfl rfl rfl rfl dX10_init_80 (fun σ' h => ctX0_init_57 h) (fun Γ s21 => ?_)
  refine jq_aput Γ hlY ⟨0, rfl, by decide +kernel, by decide +kernel⟩ fl_RX10_53 rfl rfl rfl dX10_init_83 (fun s22 => ?_)
  refine jq_aload_n Γ.1 dX10_init_86 rfl 0 rfl (by decide) ?_
  refine jq_new Γ (by decide) hlY cls_X3 (by decide +kernel) rfl nw_RX10_57 nwi_X3 nwz_X3 rfl rfl dX10_init_87 (fun Γ s23 => ?_)
  refine jq_dup Γ.1 dX10_init_90 rfl ?_
  refine jq_cinitN Γ (by decide) hlY hAO ml_RX10_59 (by decide) rfl rfl rfl rfl rfl rfl rfl dX10_init_91 (fun σ' h => ctX3_init_60 h) (fun Γ s24 => ?_)
  refine jq_aput Γ hlY ⟨0, rfl, by decide +kernel, by decide +kernel⟩ fl_RX10_60 rfl rfl rfl dX10_init_94 (fun s25 => ?_)
  refine jq_aload_n Γ.1 dX10_init_97 rfl 0 rfl (by decide) ?_
  refine jq_iconst Γ.1 dX10_init_98 rfl ?_
  refine jq_newI Γ (by decide) hlY (by decide +kernel) rfl rfl rfl aw_int rfl rfl dX10_init_99 (fun Γ s26 => ?_)
  refine jq_aput Γ hlY ⟨0, rfl, by decide +kernel, by decide +kernel⟩ fl_RX10_64 rfl rfl rfl dX10_init_101 (fun s27 => ?_)
  refine jq_aload_n Γ.1 dX10_init_104 rfl 0 rfl (by decide) ?_
  refine jq_iconst Γ.1 dX10_init_105 rfl ?_
  refine jq_newI Γ (by decide) hlY (by decide +kernel) rfl rfl rfl aw_int rfl rfl dX10_init_106 (fun Γ s28 => ?_)
  refine jq_aput Γ hlY ⟨0, rfl, by decide +kernel, by decide +kernel⟩ fl_RX10_68 rfl rfl rfl dX10_init_108 (fun s29 => ?_)
  refine jq_aload_n Γ.1 dX10_init_111 rfl 0 rfl (by decide) ?_
  refine jq_iconst Γ.1 dX10_init_112 rfl ?_
  refine jq_putI Γ.1 ⟨0, rfl, by decide +kernel, by decide +kernel⟩ fl_RX10_71 rfl rfl dX10_init_113 (fun s30 => ?_)
  refine jq_aload_n Γ.1 dX10_init_116 rfl 0 rfl (by decide) ?_
  refine jq_lconst Γ.1 0 dX10_init_117 rfl rfl ?_
  refine jq_putL Γ.1 ⟨0, rfl, by decide +kernel, by decide +kernel⟩ fl_RX10_75 rfl rfl dX10_init_118 (fun s31 => ?_)
  refine jq_aload_n Γ.1 dX10_init_121 rfl 0 rfl (by decide) ?_
  refine jq_lconst Γ.1 1 dX10_init_122 rfl rfl ?_
  refine jq_putL Γ.1 ⟨0, rfl, by decide +kernel, by decide +kernel⟩ fl_RX10_79 rfl rfl dX10_init_123 (fun s32 => ?_)
  refine jq_aload_n Γ.1 dX10_init_126 rfl 0 rfl (by decide) ?_
  refine jq_iconst Γ.1 dX10_init_127 rfl ?_
  refine jq_putI Γ.1 ⟨0, rfl, by decide +kernel, by decide +kernel⟩ fl_RX10_82 rfl rfl dX10_init_128 (fun s33 => ?_)
  refine jq_aload_n Γ.1 dX10_init_131 rfl 0 rfl (by decide) ?_
  refine jq_iconst Γ.1 dX10_init_132 rfl ?_
  refine jq_putI Γ.1 ⟨0, rfl, by decide +kernel, by decide +kernel⟩ fl_RX10_85 rfl rfl dX10_init_133 (fun s34 => ?_)
  refine jq_iconst Γ.1 dX10_init_136 rfl ?_
  refine jq_istore_n (L' := [(1, jI 0), (0, jR 0)]) Γ.1 dX10_init_137 rfl hnl rfl rfl ?_
  refine jq_iload_n Γ.1 dX10_init_138 rfl 0 rfl ?_
  refine jq_aload_n Γ.1 dX10_init_139 rfl 1 rfl (by decide) ?_
  refine jq_ageT (J := 3) Γ.1 ⟨0, rfl, by decide +kernel, by decide +kernel⟩ fl_RX10_11 rfl rfl dX10_init_140 ?_
  refine jq_alen (t := 3) (n := 4) Γ.1 ⟨1, rfl, by decide +kernel, by decide +kernel⟩ rfl rfl rfl dX10_init_143 ?_
  refine jq_icmp_ge (tgt := 166) Γ.1 dX10_init_144 rfl ?_ ?_
  · exact jq_none
  refine jq_aload_n Γ.1 dX10_init_147 rfl 1 rfl (by decide) ?_
  refine jq_ageT (J := 3) Γ.1 ⟨0, rfl, by decide +kernel, by decide +kernel⟩ fl_RX10_11 rfl rfl dX10_init_148 ?_
  refine jq_iload_n Γ.1 dX10_init_151 rfl 0 rfl ?_
  refine jq_new Γ (by decide) hlY cls_X9 (by decide +kernel) rfl nw_RX10_9 nwi_X9 nwz_X9 rfl rfl dX10_init_152 (fun Γ s35 => ?_)
  refine jq_dup Γ.1 dX10_init_155 rfl ?_
  refine jq_cinitN Γ (by decide) hlY hAO ml_RX10_88 (by decide) rfl rfl rfl rfl rfl rfl rfl dX10_init_156 (fun σ' h => ctX9_init_64 h) (fun Γ s36 => ?_)
  refine jq_aast3 (ci := 6) (M := 3) Γ.1 rfl hlY ⟨1, rfl, by decide +kernel, by decide +kernel⟩ rfl ⟨64, rfl, by decide +kernel, by decide +kernel⟩ rfl dX10_init_159 (fun s37 => ?_)
  refine jq_iinc (L' := [(1, jI 1), (0, jR 0)]) Γ.1 dX10_init_160 0 rfl hnl rfl 1 (by decide) rfl ?_
  refine jq_goto Γ.1 (tgt := 138) dX10_init_163 rfl ?_
  refine jq_iload_n Γ.1 dX10_init_138 rfl 0 rfl ?_
  refine jq_aload_n Γ.1 dX10_init_139 rfl 1 rfl (by decide) ?_
  refine jq_ageT (J := 3) Γ.1 ⟨0, rfl, by decide +kernel, by decide +kernel⟩ fl_RX10_11 rfl rfl dX10_init_140 ?_
  refine jq_alen (t := 3) (n := 4) Γ.1 ⟨1, rfl, by decide +kernel, by decide +kernel⟩ rfl rfl rfl dX10_init_143 ?_
  refine jq_icmp_ge (tgt := 166) Γ.1 dX10_init_144 rfl ?_ ?_
  · exact jq_none
  refine jq_aload_n Γ.1 dX10_init_147 rfl 1 rfl (by decide) ?_
  refine jq_ageT (J := 3) Γ.1 ⟨0, rfl, by decide +kernel, by decide +kernel⟩ fl_RX10_11 rfl rfl dX10_init_148 ?_
  refine jq_iload_n Γ.1 dX10_init_151 rfl 0 rfl ?_
  refine jq_new Γ (by decide) hlY cls_X9 (by decide +kernel) rfl nw_RX10_9 nwi_X9 nwz_X9 rfl rfl dX10_init_152 (fun Γ s38 => ?_)
  refine jq_dup Γ.1 dX10_init_155 rfl ?_
  refine jq_cinitN Γ (by decide) hlY hAO ml_RX10_88 (by decide) rfl rfl rfl rfl rfl rfl rfl dX10_init_156 (fun σ' h => ctX9_init_66 h) (fun Γ s39 => ?_)
  refine jq_aast3 (ci := 6) (M := 3) Γ.1 rfl hlY ⟨1, rfl, by decide +kernel, by decide +kernel⟩ rfl ⟨66, rfl, by decide +kernel, by decide +kernel⟩ rfl dX10_init_159 (fun s40 => ?_)
  refine jq_iinc (L' := [(1, jI 2), (0, jR 0)]) Γ.1 dX10_init_160 0 rfl hnl rfl 2 (by decide) rfl ?_
  refine jq_goto Γ.1 (tgt := 138) dX10_init_163 rfl ?_
  refine jq_iload_n Γ.1 dX10_init_138 rfl 0 rfl ?_
  refine jq_aload_n Γ.1 dX10_init_139 rfl 1 rfl (by decide) ?_
  refine jq_ageT (J := 3) Γ.1 ⟨0, rfl, by decide +kernel, by decide +kernel⟩ fl_RX10_11 rfl rfl dX10_init_140 ?_
  refine jq_alen (t := 3) (n := 4) Γ.1 ⟨1, rfl, by decide +kernel, by decide +kernel⟩ rfl rfl rfl dX10_init_143 ?_
  refine jq_icmp_ge (tgt := 166) Γ.1 dX10_init_144 rfl ?_ ?_
  · exact jq_none
  refine jq_aload_n Γ.1 dX10_init_147 rfl 1 rfl (by decide) ?_
  refine jq_ageT (J := 3) Γ.1 ⟨0, rfl, by decide +kernel, by decide +kernel⟩ fl_RX10_11 rfl rfl dX10_init_148 ?_
  refine jq_iload_n Γ.1 dX10_init_151 rfl 0 rfl ?_
  refine jq_new Γ (by decide) hlY cls_X9 (by decide +kernel) rfl nw_RX10_9 nwi_X9 nwz_X9 rfl rfl dX10_init_152 (fun Γ s41 => ?_)
  refine jq_dup Γ.1 dX10_init_155 rfl ?_
  refine jq_cinitN Γ (by decide) hlY hAO ml_RX10_88 (by decide) rfl rfl rfl rfl rfl rfl rfl dX10_init_156 (fun σ' h => ctX9_init_68 h) (fun Γ s42 => ?_)
  refine jq_aast3 (ci := 6) (M := 3) Γ.1 rfl hlY ⟨1, rfl, by decide +kernel, by decide +kernel⟩ rfl ⟨68, rfl, by decide +kernel, by decide +kernel⟩ rfl dX10_init_159 (fun s43 => ?_)
  refine jq_iinc (L' := [(1, jI 3), (0, jR 0)]) Γ.1 dX10_init_160 0 rfl hnl rfl 3 (by decide) rfl ?_
  refine jq_goto Γ.1 (tgt := 138) dX10_init_163 rfl ?_
  refine jq_iload_n Γ.1 dX10_init_138 rfl 0 rfl ?_
  refine jq_aload_n Γ.1 dX10_init_139 rfl 1 rfl (by decide) ?_
  refine jq_ageT (J := 3) Γ.1 ⟨0, rfl, by decide +kernel, by decide +kernel⟩ fl_RX10_11 rfl rfl dX10_init_140 ?_
  refine jq_alen (t := 3) (n := 4) Γ.1 ⟨1, rfl, by decide +kernel, by decide +kernel⟩ rfl rfl rfl dX10_init_143 ?_
  refine jq_icmp_ge (tgt := 166) Γ.1 dX10_init_144 rfl ?_ ?_
  · exact jq_none
  refine jq_aload_n Γ.1 dX10_init_147 rfl 1 rfl (by decide) ?_
  refine jq_ageT (J := 3) Γ.1 ⟨0, rfl, by decide +kernel, by decide +kernel⟩ fl_RX10_11 rfl rfl dX10_init_148 ?_
  refine jq_iload_n Γ.1 dX10_init_151 rfl 0 rfl ?_
  refine jq_new Γ (by decide) hlY cls_X9 (by decide +kernel) rfl nw_RX10_9 nwi_X9 nwz_X9 rfl rfl dX10_init_152 (fun Γ s44 => ?_)
  refine jq_dup Γ.1 dX10_init_155 rfl ?_
  refine jq_cinitN Γ (by decide) hlY hAO ml_RX10_88 (by decide) rfl rfl rfl rfl rfl rfl rfl dX10_init_156 (fun σ' h => ctX9_init_70 h) (fun Γ s45 => ?_)
  refine jq_aast3 (ci := 6) (M := 3) Γ.1 rfl hlY ⟨1, rfl, by decide +kernel, by decide +kernel⟩ rfl ⟨70, rfl, by decide +kernel, by decide +kernel⟩ rfl dX10_init_159 (fun s46 => ?_)
  refine jq_iinc (L' := [(1, jI 4), (0, jR 0)]) Γ.1 dX10_init_160 0 rfl hnl rfl 4 (by decide) rfl ?_
  refine jq_goto Γ.1 (tgt := 138) dX10_init_163 rfl ?_
  refine jq_iload_n Γ.1 dX10_init_138 rfl 0 rfl ?_
  refine jq_aload_n Γ.1 dX10_init_139 rfl 1 rfl (by decide) ?_
  refine jq_ageT (J := 3) Γ.1 ⟨0, rfl, by decide +kernel, by decide +kernel⟩ fl_RX10_11 rfl rfl dX10_init_140 ?_
  refine jq_alen (t := 3) (n := 4) Γ.1 ⟨1, rfl, by decide +kernel, by decide +kernel⟩ rfl rfl rfl dX10_init_143 ?_
  refine jq_icmp_ge (tgt := 166) Γ.1 dX10_init_144 rfl ?_ ?_
  rotate_left
  · exact jq_none
  refine jq_iconst Γ.1 dX10_init_166 rfl ?_
  refine jq_istore_n (L' := [(1, jI 0), (0, jR 0)]) Γ.1 dX10_init_167 rfl hnl rfl rfl ?_
  refine jq_iload_n Γ.1 dX10_init_168 rfl 0 rfl ?_
  refine jq_aload_n Γ.1 dX10_init_169 rfl 1 rfl (by decide) ?_
  refine jq_ageT (J := 10) Γ.1 ⟨0, rfl, by decide +kernel, by decide +kernel⟩ fl_RX10_39 rfl rfl dX10_init_170 ?_
  refine jq_alen (t := 4) (n := 3) Γ.1 ⟨51, rfl, by decide +kernel, by decide +kernel⟩ rfl rfl rfl dX10_init_173 ?_
  refine jq_icmp_ge (tgt := 196) Γ.1 dX10_init_174 rfl ?_ ?_
  · exact jq_none
  refine jq_aload_n Γ.1 dX10_init_177 rfl 1 rfl (by decide) ?_
  refine jq_ageT (J := 10) Γ.1 ⟨0, rfl, by decide +kernel, by decide +kernel⟩ fl_RX10_39 rfl rfl dX10_init_178 ?_
  refine jq_iload_n Γ.1 dX10_init_181 rfl 0 rfl ?_
  refine jq_new Γ (by decide) hlY cls_X1 (by decide +kernel) rfl nw_RX10_22 nwi_X1 nwz_X1 rfl rfl dX10_init_182 (fun Γ s47 => ?_)
  refine jq_dup Γ.1 dX10_init_185 rfl ?_
  refine jq_cinitN Γ (by decide) hlY hAO ml_RX10_24 (by decide) rfl rfl rfl rfl rfl rfl rfl dX10_init_186 (fun σ' h => ctX1_init_72 h) (fun Γ s48 => ?_)
  refine jq_aast4 (ci := 1) (M := 21) Γ.1 rfl hlY ⟨51, rfl, by decide +kernel, by decide +kernel⟩ rfl ⟨72, rfl, by decide +kernel, by decide +kernel⟩ rfl dX10_init_189 (fun s49 => ?_)
  refine jq_iinc (L' := [(1, jI 1), (0, jR 0)]) Γ.1 dX10_init_190 0 rfl hnl rfl 1 (by decide) rfl ?_
  refine jq_goto Γ.1 (tgt := 168) dX10_init_193 rfl ?_
  refine jq_iload_n Γ.1 dX10_init_168 rfl 0 rfl ?_
  refine jq_aload_n Γ.1 dX10_init_169 rfl 1 rfl (by decide) ?_
  refine jq_ageT (J := 10) Γ.1 ⟨0, rfl, by decide +kernel, by decide +kernel⟩ fl_RX10_39 rfl rfl dX10_init_170 ?_
  refine jq_alen (t := 4) (n := 3) Γ.1 ⟨51, rfl, by decide +kernel, by decide +kernel⟩ rfl rfl rfl dX10_init_173 ?_
  refine jq_icmp_ge (tgt := 196) Γ.1 dX10_init_174 rfl ?_ ?_
  · exact jq_none
  refine jq_aload_n Γ.1 dX10_init_177 rfl 1 rfl (by decide) ?_
  refine jq_ageT (J := 10) Γ.1 ⟨0, rfl, by decide +kernel, by decide +kernel⟩ fl_RX10_39 rfl rfl dX10_init_178 ?_
  refine jq_iload_n Γ.1 dX10_init_181 rfl 0 rfl ?_
  refine jq_new Γ (by decide) hlY cls_X1 (by decide +kernel) rfl nw_RX10_22 nwi_X1 nwz_X1 rfl rfl dX10_init_182 (fun Γ s50 => ?_)
  refine jq_dup Γ.1 dX10_init_185 rfl ?_
  refine jq_cinitN Γ (by decide) hlY hAO ml_RX10_24 (by decide) rfl rfl rfl rfl rfl rfl rfl dX10_init_186 (fun σ' h => ctX1_init_92 h) (fun Γ s51 => ?_)
  refine jq_aast4 (ci := 1) (M := 21) Γ.1 rfl hlY ⟨51, rfl, by decide +kernel, by decide +kernel⟩ rfl ⟨92, rfl, by decide +kernel, by decide +kernel⟩ rfl dX10_init_189 (fun s52 => ?_)
  refine jq_iinc (L' := [(1, jI 2), (0, jR 0)]) Γ.1 dX10_init_190 0 rfl hnl rfl 2 (by decide) rfl ?_
  refine jq_goto Γ.1 (tgt := 168) dX10_init_193 rfl ?_
  refine jq_iload_n Γ.1 dX10_init_168 rfl 0 rfl ?_
  refine jq_aload_n Γ.1 dX10_init_169 rfl 1 rfl (by decide) ?_
  refine jq_ageT (J := 10) Γ.1 ⟨0, rfl, by decide +kernel, by decide +kernel⟩ fl_RX10_39 rfl rfl dX10_init_170 ?_
  refine jq_alen (t := 4) (n := 3) Γ.1 ⟨51, rfl, by decide +kernel, by decide +kernel⟩ rfl rfl rfl dX10_init_173 ?_
  refine jq_icmp_ge (tgt := 196) Γ.1 dX10_init_174 rfl ?_ ?_
  · exact jq_none
  refine jq_aload_n Γ.1 dX10_init_177 rfl 1 rfl (by decide) ?_
  refine jq_ageT (J := 10) Γ.1 ⟨0, rfl, by decide +kernel, by decide +kernel⟩ fl_RX10_39 rfl rfl dX10_init_178 ?_
  refine jq_iload_n Γ.1 dX10_init_181 rfl 0 rfl ?_
  refine jq_new Γ (by decide) hlY cls_X1 (by decide +kernel) rfl nw_RX10_22 nwi_X1 nwz_X1 rfl rfl dX10_init_182 (fun Γ s53 => ?_)
  refine jq_dup Γ.1 dX10_init_185 rfl ?_
  refine jq_cinitN Γ (by decide) hlY hAO ml_RX10_24 (by decide) rfl rfl rfl rfl rfl rfl rfl dX10_init_186 (fun σ' h => ctX1_init_112 h) (fun Γ s54 => ?_)
  refine jq_aast4 (ci := 1) (M := 21) Γ.1 rfl hlY ⟨51, rfl, by decide +kernel, by decide +kernel⟩ rfl ⟨112, rfl, by decide +kernel, by decide +kernel⟩ rfl dX10_init_189 (fun s55 => ?_)
  refine jq_iinc (L' := [(1, jI 3), (0, jR 0)]) Γ.1 dX10_init_190 0 rfl hnl rfl 3 (by decide) rfl ?_
  refine jq_goto Γ.1 (tgt := 168) dX10_init_193 rfl ?_
  refine jq_iload_n Γ.1 dX10_init_168 rfl 0 rfl ?_
  refine jq_aload_n Γ.1 dX10_init_169 rfl 1 rfl (by decide) ?_
  refine jq_ageT (J := 10) Γ.1 ⟨0, rfl, by decide +kernel, by decide +kernel⟩ fl_RX10_39 rfl rfl dX10_init_170 ?_
  refine jq_alen (t := 4) (n := 3) Γ.1 ⟨51, rfl, by decide +kernel, by decide +kernel⟩ rfl rfl rfl dX10_init_173 ?_
  refine jq_icmp_ge (tgt := 196) Γ.1 dX10_init_174 rfl ?_ ?_
  rotate_left
  · exact jq_none
  exact jq_ireti Γ dX10_init_196 (hK0 _)


noncomputable def X11_init_0 (σ : jq_M) : Option jq_M :=
  jq_lt (jq_al σ 1 (fun _ => 0)) fun s1 =>
  jq_lt (jq_st s1 0 0 1) fun s2 =>
  jq_lt (jq_al s2 2 (fun _ => 0)) fun s3 =>
  jq_lt (jq_st s3 0 1 2) fun s4 =>
  jq_lt (jq_st s4 0 4 1) fun s5 =>
  jq_lt (jq_al s5 3 (fun _ => 0)) fun s6 =>
  jq_lt (jq_st s6 0 5 3) fun s7 =>
  jq_lt (jq_al s7 4 (fun _ => 0)) fun s8 =>
  (jq_sa s8 4 4 0 (-1)).bind fun s9 =>
  (jq_sa s9 4 4 1 (-1)).bind fun s10 =>
  (jq_sa s10 4 4 2 (-1)).bind fun s11 =>
  (jq_sa s11 4 4 3 (-1)).bind fun s12 =>
  jq_lt (jq_st s12 0 6 4) fun s13 =>
  jq_lt (jq_al s13 5 (fun _ => 0)) fun s14 =>
  jq_lt (jq_st s14 0 7 5) fun s15 =>
  jq_lt (jq_al s15 6 (fun _ => 0)) fun s16 =>
  jq_lt (jq_st s16 0 8 6) fun s17 =>
  jq_lt (jq_al s17 7 (fun _ => 0)) fun s18 =>
  jq_lt (jq_st s18 0 9 7) fun s19 =>
  jq_lt (jq_st s19 0 16 (-1)) fun s20 =>
  jq_lt (jq_st s20 0 17 (-1)) fun s21 =>
  jq_lt (jq_al s21 8 (fun _ => 0)) fun s22 =>
  jq_lt (jq_st s22 0 20 8) fun s23 =>
  jq_lt (jq_al s23 9 (fun _ => 0)) fun s24 =>
  jq_lt (jq_st s24 0 23 9) fun s25 =>
  jq_lt (jq_al s25 10 (fun _ => 0)) fun s26 =>
  jq_lt (jq_st s26 0 24 10) fun s27 =>
  jq_lt (jq_al s27 11 (fun _ => 0)) fun s28 =>
  jq_lt (jq_st s28 0 25 11) fun s29 =>
  jq_lt (jq_al s29 12 (fun _ => 0)) fun s30 =>
  jq_lt (jq_st s30 0 26 12) fun s31 =>
  jq_lt (jq_al s31 13 (fun _ => 0)) fun s32 =>
  jq_lt (jq_st s32 0 28 13) fun s33 =>
  jq_lt (jq_al s33 14 (fun _ => 0)) fun s34 =>
  jq_lt (jq_st s34 0 29 14) fun s35 =>
  jq_lt (jq_al s35 15 (fun _ => 0)) fun s36 =>
  jq_lt (jq_st s36 0 32 15) fun s37 =>
  jq_lt (jq_al s37 16 (fun _ => 0)) fun s38 =>
  jq_lt (jq_st s38 0 33 16) fun s39 =>
  jq_lt (jq_al s39 17 (fun _ => 0)) fun s40 =>
  jq_lt (jq_st s40 0 34 17) fun s41 =>
  jq_asr (jq_lay jq_zM s41) <|
  (X11_plain 0 s41).bind fun s42 =>
  some s42

set_option maxHeartbeats 8000000 in
set_option maxRecDepth 100000 in
theorem ctX11_init_0 {σ σ' : jq_M} (h : X11_init_0 σ = some σ') : jq_MI jq_zM yX11_init cX11_init 1 2 62 17 5690 [jR 0] 1 σ 18 σ' := by
  refine jq_metI (own := RX11) (L0 := [(0, jR 0)]) (by decide) rfl rfl rfl rfl ?_
  intro X Γ hnl hlY hAO hRT
  refine jq_use2 (P := fun r => jq_RI jq_zM X 17 5690 18 r) ?_ h hRT
  intro K0 hK0
  unfold X11_init_0
  refine jq_aload_n Γ.1 dX11_init_0 rfl 0 rfl (by decide) ?_
  refine jq_oinit Γ.1 (by decide) oi_RX11_1 oi_i oi_c rfl rfl dX11_init_1 ?_
  refine jq_aload_n Γ.1 dX11_init_4 rfl 0 rfl (by decide) ?_
  refine jq_sipush Γ.1 dX11_init_5 rfl ?_
  refine jq_newI Γ (by decide) hlY (by decide +kernel) rfl rfl rfl aw_int rfl rfl dX11_init_8 (fun Γ s1 => ?_)
  refine jq_aput Γ hlY ⟨0, rfl, by decide +kernel, by decide +kernel⟩ fl_RX11_7 rfl rfl rfl dX11_init_10 (fun s2 => ?_)
  refine jq_aload_n Γ.1 dX11_init_13 rfl 0 rfl (by decide) ?_
  refine jq_bipush Γ.1 dX11_init_14 rfl ?_
  refine jq_newL Γ (by decide) hlY (by decide +kernel) rfl rfl rfl aw_long rfl rfl dX11_init_16 (fun Γ s3 => ?_)
  refine jq_aput Γ hlY ⟨0, rfl, by decide +kernel, by decide +kernel⟩ fl_RX11_13 rfl rfl rfl dX11_init_18 (fun s4 => ?_)
  refine jq_aload_n Γ.1 dX11_init_21 rfl 0 rfl (by decide) ?_
  refine jq_lconst Γ.1 1 dX11_init_22 rfl rfl ?_
  refine jq_putL Γ.1 ⟨0, rfl, by decide +kernel, by decide +kernel⟩ fl_RX11_17 rfl rfl dX11_init_23 (fun s5 => ?_)
  refine jq_aload_n Γ.1 dX11_init_26 rfl 0 rfl (by decide) ?_
  refine jq_iconst Γ.1 dX11_init_27 rfl ?_
  refine jq_newI Γ (by decide) hlY (by decide +kernel) rfl rfl rfl aw_int rfl rfl dX11_init_28 (fun Γ s6 => ?_)
  refine jq_aput Γ hlY ⟨0, rfl, by decide +kernel, by decide +kernel⟩ fl_RX11_21 rfl rfl rfl dX11_init_30 (fun s7 => ?_)
  refine jq_aload_n Γ.1 dX11_init_33 rfl 0 rfl (by decide) ?_
  refine jq_iconst Γ.1 dX11_init_34 rfl ?_
  refine jq_newI Γ (by decide) hlY (by decide +kernel) rfl rfl rfl aw_int rfl rfl dX11_init_35 (fun Γ s8 => ?_)
  refine jq_dup Γ.1 dX11_init_37 rfl ?_
  refine jq_iconst Γ.1 dX11_init_38 rfl ?_
  refine jq_iconst Γ.1 dX11_init_39 rfl ?_
  refine jq_iast Γ.1 ⟨4, rfl, by decide +kernel, by decide +kernel⟩ rfl dX11_init_40 (fun s9 => ?_)
  refine jq_dup Γ.1 dX11_init_41 rfl ?_
  refine jq_iconst Γ.1 dX11_init_42 rfl ?_
  refine jq_iconst Γ.1 dX11_init_43 rfl ?_
  refine jq_iast Γ.1 ⟨4, rfl, by decide +kernel, by decide +kernel⟩ rfl dX11_init_44 (fun s10 => ?_)
  refine jq_dup Γ.1 dX11_init_45 rfl ?_
  refine jq_iconst Γ.1 dX11_init_46 rfl ?_
  refine jq_iconst Γ.1 dX11_init_47 rfl ?_
  refine jq_iast Γ.1 ⟨4, rfl, by decide +kernel, by decide +kernel⟩ rfl dX11_init_48 (fun s11 => ?_)
  refine jq_dup Γ.1 dX11_init_49 rfl ?_
  refine jq_iconst Γ.1 dX11_init_50 rfl ?_
  refine jq_iconst Γ.1 dX11_init_51 rfl ?_
  refine jq_iast Γ.1 ⟨4, rfl, by decide +kernel, by decide +kernel⟩ rfl dX11_init_52 (fun s12 => ?_)
  refine jq_aput Γ hlY ⟨0, rfl, by decide +kernel, by decide +kernel⟩ fl_RX11_24 rfl rfl rfl dX11_init_53 (fun s13 => ?_)
  refine jq_aload_n Γ.1 dX11_init_56 rfl 0 rfl (by decide) ?_
  refine jq_sipush Γ.1 dX11_init_57 rfl ?_
  refine jq_newL Γ (by decide) hlY (by decide +kernel) rfl rfl rfl aw_long rfl rfl dX11_init_60 (fun Γ s14 => ?_)
  refine jq_aput Γ hlY ⟨0, rfl, by decide +kernel, by decide +kernel⟩ fl_RX11_27 rfl rfl rfl dX11_init_62 (fun s15 => ?_)
  refine jq_aload_n Γ.1 dX11_init_65 rfl 0 rfl (by decide) ?_
  refine jq_sipush Γ.1 dX11_init_66 rfl ?_
  refine jq_newB Γ (by decide) hlY (by decide +kernel) rfl rfl rfl aw_byte rfl rfl dX11_init_69 (fun Γ s16 => ?_)
  refine jq_aput Γ hlY ⟨0, rfl, by decide +kernel, by decide +kernel⟩ fl_RX11_30 rfl rfl rfl dX11_init_71 (fun s17 => ?_)
  refine jq_aload_n Γ.1 dX11_init_74 rfl 0 rfl (by decide) ?_
  refine jq_sipush Γ.1 dX11_init_75 rfl ?_
  refine jq_newB Γ (by decide) hlY (by decide +kernel) rfl rfl rfl aw_byte rfl rfl dX11_init_78 (fun Γ s18 => ?_)
  refine jq_aput Γ hlY ⟨0, rfl, by decide +kernel, by decide +kernel⟩ fl_RX11_34 rfl rfl rfl dX11_init_80 (fun s19 => ?_)
  refine jq_aload_n Γ.1 dX11_init_83 rfl 0 rfl (by decide) ?_
  refine jq_iconst Γ.1 dX11_init_84 rfl ?_
  refine jq_putI Γ.1 ⟨0, rfl, by decide +kernel, by decide +kernel⟩ fl_RX11_37 rfl rfl dX11_init_85 (fun s20 => ?_)
  refine jq_aload_n Γ.1 dX11_init_88 rfl 0 rfl (by decide) ?_
  refine jq_iconst Γ.1 dX11_init_89 rfl ?_
  refine jq_putI Γ.1 ⟨0, rfl, by decide +kernel, by decide +kernel⟩ fl_RX11_41 rfl rfl dX11_init_90 (fun s21 => ?_)
  refine jq_aload_n Γ.1 dX11_init_93 rfl 0 rfl (by decide) ?_
  refine jq_iconst Γ.1 dX11_init_94 rfl ?_
  refine jq_newI Γ (by decide) hlY (by decide +kernel) rfl rfl rfl aw_int rfl rfl dX11_init_95 (fun Γ s22 => ?_)
  refine jq_aput Γ hlY ⟨0, rfl, by decide +kernel, by decide +kernel⟩ fl_RX11_44 rfl rfl rfl dX11_init_97 (fun s23 => ?_)
  refine jq_aload_n Γ.1 dX11_init_100 rfl 0 rfl (by decide) ?_
  refine jq_iconst Γ.1 dX11_init_101 rfl ?_
  refine jq_newI Γ (by decide) hlY (by decide +kernel) rfl rfl rfl aw_int rfl rfl dX11_init_102 (fun Γ s24 => ?_)
  refine jq_aput Γ hlY ⟨0, rfl, by decide +kernel, by decide +kernel⟩ fl_RX11_47 rfl rfl rfl dX11_init_104 (fun s25 => ?_)
  refine jq_aload_n Γ.1 dX11_init_107 rfl 0 rfl (by decide) ?_
  refine jq_iconst Γ.1 dX11_init_108 rfl ?_
  refine jq_newI Γ (by decide) hlY (by decide +kernel) rfl rfl rfl aw_int rfl rfl dX11_init_109 (fun Γ s26 => ?_)
  refine jq_aput Γ hlY ⟨0, rfl, by decide +kernel, by decide +kernel⟩ fl_RX11_50 rfl rfl rfl dX11_init_111 (fun s27 => ?_)
  refine jq_aload_n Γ.1 dX11_init_114 rfl 0 rfl (by decide) ?_
  refine jq_iconst Γ.1 dX11_init_115 rfl ?_
  refine jq_newI Γ (by decide) hlY (by decide +kernel) rfl rfl rfl aw_int rfl rfl dX11_init_116 (fun Γ s28 => ?_)
  refine jq_aput Γ hlY ⟨0, rfl, by decide +kernel, by decide +kernel⟩ fl_RX11_53 rfl rfl rfl dX11_init_118 (fun s29 => ?_)
  refine jq_aload_n Γ.1 dX11_init_121 rfl 0 rfl (by decide) ?_
  refine jq_bipush Γ.1 dX11_init_122 rfl ?_
  refine jq_newI Γ (by decide) hlY (by decide +kernel) rfl rfl rfl aw_int rfl rfl dX11_init_124 (fun Γ s30 => ?_)
  refine jq_aput Γ hlY ⟨0, rfl, by decide +kernel, by decide +kernel⟩ fl_RX11_56 rfl rfl rfl dX11_init_126 (fun s31 => ?_)
  refine jq_aload_n Γ.1 dX11_init_129 rfl 0 rfl (by decide) ?_
  refine jq_sipush Γ.1 dX11_init_130 rfl ?_
  refine jq_newI Γ (by decide) hlY (by decide +kernel) rfl rfl rfl aw_int rfl rfl dX11_init_133 (fun Γ s32 => ?_)
  refine jq_aput Γ hlY ⟨0, rfl, by decide +kernel, by decide +kernel⟩ fl_RX11_59 rfl rfl rfl dX11_init_135 (fun s33 => ?_)
  refine jq_aload_n Γ.1 dX11_init_138 rfl 0 rfl (by decide) ?_
  refine jq_bipush Γ.1 dX11_init_139 rfl ?_
  refine jq_newI Γ (by decide) hlY (by decide +kernel) rfl rfl rfl aw_int rfl rfl dX11_init_141 (fun Γ s34 => ?_)
  refine jq_aput Γ hlY ⟨0, rfl, by decide +kernel, by decide +kernel⟩ fl_RX11_62 rfl rfl rfl dX11_init_143 (fun s35 => ?_)
  refine jq_aload_n Γ.1 dX11_init_146 rfl 0 rfl (by decide) ?_
  refine jq_bipush Γ.1 dX11_init_147 rfl ?_
  refine jq_newI Γ (by decide) hlY (by decide +kernel) rfl rfl rfl aw_int rfl rfl dX11_init_149 (fun Γ s36 => ?_)
  refine jq_aput Γ hlY ⟨0, rfl, by decide +kernel, by decide +kernel⟩ fl_RX11_65 rfl rfl rfl dX11_init_151 (fun s37 => ?_)
  refine jq_aload_n Γ.1 dX11_init_154 rfl 0 rfl (by decide) ?_
  refine jq_iconst Γ.1 dX11_init_155 rfl ?_
  refine jq_newI Γ (by decide) hlY (by decide +kernel) rfl rfl rfl aw_int rfl rfl dX11_init_156 (fun Γ s38 => ?_)
  refine jq_aput Γ hlY ⟨0, rfl, by decide +kernel, by decide +kernel⟩ fl_RX11_68 rfl rfl rfl dX11_init_158 (fun s39 => ?_)
  refine jq_aload_n Γ.1 dX11_init_161 rfl 0 rfl (by decide) ?_
  refine jq_iconst Γ.1 dX11_init_162 rfl ?_
  refine jq_newI Γ (by decide) hlY (by decide +kernel) rfl rfl rfl aw_int rfl rfl dX11_init_163 (fun Γ s40 => ?_)
  refine jq_aput Γ hlY ⟨0, rfl, by decide +kernel, by decide +kernel⟩ fl_RX11_71 rfl rfl rfl dX11_init_165 (fun s41 => ?_)
  refine jq_aload_n Γ.1 dX11_init_168 rfl 0 rfl (by decide) ?_
  refine jq_iconst Γ.1 dX11_init_169 rfl ?_
  refine jq_asrR (fun hlay => ?_)
  refine jq_cwV (jq_virtA (avs := [jI 0]) (st := []) (ci := 8) (N := 37) Γ.1 hlay hlY rfl rfl ml_RX11_74 rfl ⟨0, rfl, by decide +kernel, by decide +kernel⟩ rfl rfl rfl rfl rfl dX11_init_170) (fun σ' h => ctX11_plain h) (fun s42 => ?_)
  exact jq_ireti Γ dX11_init_173 (hK0 _)


