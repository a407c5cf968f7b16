theorem gs_RJ0_38 : Cond.fieldLink RJ0 38 "java/lang/String" "COMPACT_STRINGS" "Z" ∈ jq_T := jq_in 182 (by decide +kernel) rfl
theorem gf_RJ0_15 : Cond.fieldLink RJ0 15 "java/lang/String" "coder" "B" ∈ jq_T := jq_in 2388 (by decide +kernel) rfl
theorem gf_RJ0_9 : Cond.fieldLink RJ0 9 "java/lang/String" "value" "[B" ∈ jq_T := jq_in 2387 (by decide +kernel) rfl
theorem yf_J0_coder_7d493 : Cond.instanceMethod yJ0_coder_7d493 ∈ jq_T ∧ Cond.selects (yJ0_coder_7d493).cls yJ0_coder_7d493 yJ0_coder_7d493 ∈ jq_T ∧ Cond.initialized (yJ0_coder_7d493).cls ∈ jq_T ∧ Cond.code yJ0_coder_7d493 cJ0_coder_7d493 1 (some .byte) ∈ jq_T ∧ ((yJ0_coder_7d493).cls ≠ "java/lang/invoke/MethodHandle" ∧ (yJ0_coder_7d493).cls ≠ "java/lang/invoke/VarHandle" ∧ (parseMethodDescriptor (yJ0_coder_7d493).desc).map (fun d => d.parameters.length) = some 0) := ⟨jq_in 179 (by decide +kernel) rfl, jq_in 180 (by decide +kernel) rfl, jq_in 140 (by decide +kernel) rfl, jq_in 181 (by decide +kernel) rfl, ⟨by decide, by decide, by decide +kernel⟩⟩
theorem ml_RJ0_335 : jq_vl RJ0 335 yJ0_coder_7d493 cJ0_coder_7d493 1 (some .byte) 0 := ⟨jq_in 178 (by decide +kernel) rfl, yf_J0_coder_7d493⟩
theorem gs_RJ0_1053 : Cond.fieldLink RJ0 1053 "jdk/internal/util/Preconditions" "SIOOBE_FORMATTER" "Ljava/util/function/BiFunction;" ∈ jq_T := jq_in 198 (by decide +kernel) rfl
theorem yf_J3_checkIndex_8e157 : Cond.static yJ3_checkIndex_8e157 ∈ jq_T ∧ Cond.initialized (yJ3_checkIndex_8e157).cls ∈ jq_T ∧ Cond.code yJ3_checkIndex_8e157 cJ3_checkIndex_8e157 3 (some .int) ∈ jq_T ∧ ((yJ3_checkIndex_8e157).cls ≠ "java/lang/invoke/MethodHandle" ∧ (yJ3_checkIndex_8e157).cls ≠ "java/lang/invoke/VarHandle" ∧ (parseMethodDescriptor (yJ3_checkIndex_8e157).desc).map (fun d => d.parameters.length) = some 3) := ⟨jq_in 201 (by decide +kernel) rfl, jq_in 142 (by decide +kernel) rfl, jq_in 202 (by decide +kernel) rfl, ⟨by decide, by decide, by decide +kernel⟩⟩
theorem ml_RJ0_1059 : jq_sl RJ0 1059 yJ3_checkIndex_8e157 cJ3_checkIndex_8e157 3 (some .int) 3 := ⟨jq_in 200 (by decide +kernel) rfl, yf_J3_checkIndex_8e157⟩
theorem yf_J0_checkIndex_df160 : Cond.static yJ0_checkIndex_df160 ∈ jq_T ∧ Cond.initialized (yJ0_checkIndex_df160).cls ∈ jq_T ∧ Cond.code yJ0_checkIndex_df160 cJ0_checkIndex_df160 2 none ∈ jq_T ∧ ((yJ0_checkIndex_df160).cls ≠ "java/lang/invoke/MethodHandle" ∧ (yJ0_checkIndex_df160).cls ≠ "java/lang/invoke/VarHandle" ∧ (parseMethodDescriptor (yJ0_checkIndex_df160).desc).map (fun d => d.parameters.length) = some 2) := ⟨jq_in 196 (by decide +kernel) rfl, jq_in 140 (by decide +kernel) rfl, jq_in 197 (by decide +kernel) rfl, ⟨by decide, by decide, by decide +kernel⟩⟩
theorem ml_RJ1_9 : jq_sl RJ1 9 yJ0_checkIndex_df160 cJ0_checkIndex_df160 2 none 2 := ⟨jq_in 195 (by decide +kernel) rfl, yf_J0_checkIndex_df160⟩
theorem yf_J0_isLatin1_aae02 : Cond.instanceMethod yJ0_isLatin1_aae02 ∈ jq_T ∧ Cond.selects (yJ0_isLatin1_aae02).cls yJ0_isLatin1_aae02 yJ0_isLatin1_aae02 ∈ jq_T ∧ Cond.initialized (yJ0_isLatin1_aae02).cls ∈ jq_T ∧ Cond.code yJ0_isLatin1_aae02 cJ0_isLatin1_aae02 1 (some .boolean) ∈ jq_T ∧ ((yJ0_isLatin1_aae02).cls ≠ "java/lang/invoke/MethodHandle" ∧ (yJ0_isLatin1_aae02).cls ≠ "java/lang/invoke/VarHandle" ∧ (parseMethodDescriptor (yJ0_isLatin1_aae02).desc).map (fun d => d.parameters.length) = some 0) := ⟨jq_in 189 (by decide +kernel) rfl, jq_in 190 (by decide +kernel) rfl, jq_in 140 (by decide +kernel) rfl, jq_in 191 (by decide +kernel) rfl, ⟨by decide, by decide, by decide +kernel⟩⟩
theorem ml_RJ0_492 : jq_vl RJ0 492 yJ0_isLatin1_aae02 cJ0_isLatin1_aae02 1 (some .boolean) 0 := ⟨jq_in 188 (by decide +kernel) rfl, yf_J0_isLatin1_aae02⟩
theorem yf_J1_charAt_3b067 : Cond.static yJ1_charAt_3b067 ∈ jq_T ∧ Cond.initialized (yJ1_charAt_3b067).cls ∈ jq_T ∧ Cond.code yJ1_charAt_3b067 cJ1_charAt_3b067 2 (some .char) ∈ jq_T ∧ ((yJ1_charAt_3b067).cls ≠ "java/lang/invoke/MethodHandle" ∧ (yJ1_charAt_3b067).cls ≠ "java/lang/invoke/VarHandle" ∧ (parseMethodDescriptor (yJ1_charAt_3b067).desc).map (fun d => d.parameters.length) = some 2) := ⟨jq_in 193 (by decide +kernel) rfl, jq_in 141 (by decide +kernel) rfl, jq_in 194 (by decide +kernel) rfl, ⟨by decide, by decide, by decide +kernel⟩⟩
theorem ml_RJ0_495 : jq_sl RJ0 495 yJ1_charAt_3b067 cJ1_charAt_3b067 2 (some .char) 2 := ⟨jq_in 192 (by decide +kernel) rfl, yf_J1_charAt_3b067⟩
theorem dJ0_coder_7d493_0 : decode cJ0_coder_7d493 0 = .ok (.getstatic 38, 3) := by decide +kernel
theorem dJ0_coder_7d493_3 : decode cJ0_coder_7d493 3 = .ok (.ifCond .eq 10, 3) := by decide +kernel
theorem dJ0_coder_7d493_6 : decode cJ0_coder_7d493 6 = .ok (.aload_n 0, 1) := by decide +kernel
theorem dJ0_coder_7d493_7 : decode cJ0_coder_7d493 7 = .ok (.getfield 15, 3) := by decide +kernel
theorem dJ0_coder_7d493_10 : decode cJ0_coder_7d493 10 = .ok (.goto 4, 3) := by decide +kernel
theorem dJ0_coder_7d493_13 : decode cJ0_coder_7d493 13 = .ok (.iconst 1, 1) := by decide +kernel
theorem dJ0_coder_7d493_14 : decode cJ0_coder_7d493 14 = .ok (.ireturn, 1) := by decide +kernel
set_option maxHeartbeats 4000000 in
set_option maxRecDepth 100000 in
theorem ctJ0_coder_7d493 {Z : jq_Z} {σ : jq_M} {res : Int}  (h : J0_coder_7d493 Z σ = some res) : jq_MC Z yJ0_coder_7d493 cJ0_coder_7d493 1 (some .byte) 1 40 [jT 0] σ (some (jI res)) σ := by
  refine jq_met (own := RJ0) (L0 := [(0, jT 0)]) (by decide) rfl rfl rfl ?_
  intro X Γ hnl hlY hRT
  refine jq_use2 (P := fun r => jq_RT Z X (some .byte) (some (jI r)) σ) ?_ h hRT
  intro K0 hK0
  unfold J0_coder_7d493
  refine jq_getsC Γ gs_RJ0_38 dJ0_coder_7d493_0 ?_
  refine jq_if_eq (tgt := 13) Γ dJ0_coder_7d493_3 rfl ?_ ?_
  · refine jq_iconst Γ dJ0_coder_7d493_13 rfl ?_
    exact jq_nreturn Γ (by decide) rfl dJ0_coder_7d493_14 (hK0 _)
  · refine jq_aloadT_n Γ dJ0_coder_7d493_6 rfl 0 rfl (Or.inl rfl) ?_
    refine jq_getSc Γ gf_RJ0_15 dJ0_coder_7d493_7 ?_
    refine jq_goto Γ (tgt := 14) dJ0_coder_7d493_10 rfl ?_
    exact jq_nreturn Γ (by decide) rfl dJ0_coder_7d493_14 (hK0 _)


theorem dJ0_length_8abf5_0 : decode cJ0_length_8abf5 0 = .ok (.aload_n 0, 1) := by decide +kernel
theorem dJ0_length_8abf5_1 : decode cJ0_length_8abf5 1 = .ok (.getfield 9, 3) := by decide +kernel
theorem dJ0_length_8abf5_4 : decode cJ0_length_8abf5 4 = .ok (.arraylength, 1) := by decide +kernel
theorem dJ0_length_8abf5_5 : decode cJ0_length_8abf5 5 = .ok (.aload_n 0, 1) := by decide +kernel
theorem dJ0_length_8abf5_6 : decode cJ0_length_8abf5 6 = .ok (.invokevirtual 335, 3) := by decide +kernel
theorem dJ0_length_8abf5_9 : decode cJ0_length_8abf5 9 = .ok (.ishr, 1) := by decide +kernel
theorem dJ0_length_8abf5_10 : decode cJ0_length_8abf5 10 = .ok (.ireturn, 1) := by decide +kernel
set_option maxHeartbeats 4000000 in
set_option maxRecDepth 100000 in
theorem ctJ0_length_8abf5 {Z : jq_Z} {σ : jq_M} {res : Int}  (h : J0_length_8abf5 Z σ = some res) : jq_MC Z yJ0_length_8abf5 cJ0_length_8abf5 1 (some .int) 2 60 [jT 0] σ (some (jI res)) σ := by
  refine jq_met (own := RJ0) (L0 := [(0, jT 0)]) (by decide) rfl rfl rfl ?_
  intro X Γ hnl hlY hRT
  refine jq_use2 (P := fun r => jq_RT Z X (some .int) (some (jI r)) σ) ?_ h hRT
  intro K0 hK0
  unfold J0_length_8abf5
  refine jq_aloadT_n Γ dJ0_length_8abf5_0 rfl 0 rfl (Or.inl rfl) ?_
  refine jq_getSv Γ gf_RJ0_9 dJ0_length_8abf5_1 ?_
  refine jq_alenS Γ dJ0_length_8abf5_4 ?_
  refine jq_aloadT_n Γ dJ0_length_8abf5_5 rfl 0 rfl (Or.inl rfl) ?_
  refine jq_cpI (jq_virtT (avs := []) (st := [jI (jq_sln Z)]) Γ hlY rfl ml_RJ0_335 rfl rfl rfl rfl rfl rfl dJ0_length_8abf5_6) (fun r h => ctJ0_coder_7d493 h) (fun v1 => ?_)
  refine jq_ishr Γ dJ0_length_8abf5_9 ?_
  exact jq_ireturn Γ dJ0_length_8abf5_10 (hK0 _)


theorem dJ0_isLatin1_aae02_0 : decode cJ0_isLatin1_aae02 0 = .ok (.getstatic 38, 3) := by decide +kernel
theorem dJ0_isLatin1_aae02_3 : decode cJ0_isLatin1_aae02 3 = .ok (.ifCond .eq 14, 3) := by decide +kernel
theorem dJ0_isLatin1_aae02_6 : decode cJ0_isLatin1_aae02 6 = .ok (.aload_n 0, 1) := by decide +kernel
theorem dJ0_isLatin1_aae02_7 : decode cJ0_isLatin1_aae02 7 = .ok (.getfield 15, 3) := by decide +kernel
theorem dJ0_isLatin1_aae02_10 : decode cJ0_isLatin1_aae02 10 = .ok (.ifCond .ne 7, 3) := by decide +kernel
theorem dJ0_isLatin1_aae02_13 : decode cJ0_isLatin1_aae02 13 = .ok (.iconst 1, 1) := by decide +kernel
theorem dJ0_isLatin1_aae02_14 : decode cJ0_isLatin1_aae02 14 = .ok (.goto 4, 3) := by decide +kernel
theorem dJ0_isLatin1_aae02_17 : decode cJ0_isLatin1_aae02 17 = .ok (.iconst 0, 1) := by decide +kernel
theorem dJ0_isLatin1_aae02_18 : decode cJ0_isLatin1_aae02 18 = .ok (.ireturn, 1) := by decide +kernel
set_option maxHeartbeats 4000000 in
set_option maxRecDepth 100000 in
theorem ctJ0_isLatin1_aae02 {Z : jq_Z} {σ : jq_M} {res : Int}  (h : J0_isLatin1_aae02 Z σ = some res) : jq_MC Z yJ0_isLatin1_aae02 cJ0_isLatin1_aae02 1 (some .boolean) 1 40 [jT 0] σ (some (jI res)) σ := by
  refine jq_met (own := RJ0) (L0 := [(0, jT 0)]) (by decide) rfl rfl rfl ?_
  intro X Γ hnl hlY hRT
  refine jq_use2 (P := fun r => jq_RT Z X (some .boolean) (some (jI r)) σ) ?_ h hRT
  intro K0 hK0
  unfold J0_isLatin1_aae02
  refine jq_getsC Γ gs_RJ0_38 dJ0_isLatin1_aae02_0 ?_
  refine jq_if_eq (tgt := 17) Γ dJ0_isLatin1_aae02_3 rfl ?_ ?_
  · refine jq_iconst Γ dJ0_isLatin1_aae02_17 rfl ?_
    exact jq_zreturn Γ (Or.inl rfl) dJ0_isLatin1_aae02_18 (hK0 _)
  · refine jq_aloadT_n Γ dJ0_isLatin1_aae02_6 rfl 0 rfl (Or.inl rfl) ?_
    refine jq_getSc Γ gf_RJ0_15 dJ0_isLatin1_aae02_7 ?_
    refine jq_if_ne (tgt := 17) Γ dJ0_isLatin1_aae02_10 rfl ?_ ?_
    · refine jq_iconst Γ dJ0_isLatin1_aae02_17 rfl ?_
      exact jq_zreturn Γ (Or.inl rfl) dJ0_isLatin1_aae02_18 (hK0 _)
    · refine jq_iconst Γ dJ0_isLatin1_aae02_13 rfl ?_
      refine jq_goto Γ (tgt := 18) dJ0_isLatin1_aae02_14 rfl ?_
      exact jq_zreturn Γ (Or.inr rfl) dJ0_isLatin1_aae02_18 (hK0 _)


theorem dJ3_checkIndex_8e157_0 : decode cJ3_checkIndex_8e157 0 = .ok (.iload_n 0, 1) := by decide +kernel
theorem dJ3_checkIndex_8e157_1 : decode cJ3_checkIndex_8e157 1 = .ok (.ifCond .lt 8, 3) := by decide +kernel
theorem dJ3_checkIndex_8e157_4 : decode cJ3_checkIndex_8e157 4 = .ok (.iload_n 0, 1) := by decide +kernel
theorem dJ3_checkIndex_8e157_5 : decode cJ3_checkIndex_8e157 5 = .ok (.iload_n 1, 1) := by decide +kernel
theorem dJ3_checkIndex_8e157_6 : decode cJ3_checkIndex_8e157 6 = .ok (.if_icmp .lt 10, 3) := by decide +kernel
theorem dJ3_checkIndex_8e157_9 : decode cJ3_checkIndex_8e157 9 = .ok (.aload_n 2, 1) := by decide +kernel
theorem dJ3_checkIndex_8e157_10 : decode cJ3_checkIndex_8e157 10 = .ok (.iload_n 0, 1) := by decide +kernel
theorem dJ3_checkIndex_8e157_11 : decode cJ3_checkIndex_8e157 11 = .ok (.iload_n 1, 1) := by decide +kernel
theorem dJ3_checkIndex_8e157_12 : decode cJ3_checkIndex_8e157 12 = .ok (.invokestatic 95, 3) := by decide +kernel
theorem dJ3_checkIndex_8e157_15 : decode cJ3_checkIndex_8e157 15 = .ok (.athrow, 1) := by decide +kernel
theorem dJ3_checkIndex_8e157_16 : decode cJ3_checkIndex_8e157 16 = .ok (.iload_n 0, 1) := by decide +kernel
theorem dJ3_checkIndex_8e157_17 : decode cJ3_checkIndex_8e157 17 = .ok (.ireturn, 1) := by decide +kernel
set_option maxHeartbeats 4000000 in
set_option maxRecDepth 100000 in
theorem ctJ3_checkIndex_8e157 {Z : jq_Z} {p0 : Int} {p1 : Int} {σ : jq_M} {res : Int}  (h : J3_checkIndex_8e157 Z p0 p1 σ = some res) : jq_MC Z yJ3_checkIndex_8e157 cJ3_checkIndex_8e157 3 (some .int) 1 40 [jI p0, jI p1, jT 2] σ (some (jI res)) σ := by
  refine jq_met (own := RJ3) (L0 := [(0, jI p0), (1, jI p1), (2, jT 2)]) (by decide) rfl rfl rfl ?_
  intro X Γ hnl hlY hRT
  refine jq_use2 (P := fun r => jq_RT Z X (some .int) (some (jI r)) σ) ?_ h hRT
  intro K0 hK0
  unfold J3_checkIndex_8e157
  have hj9_0 : jq_J (J3_checkIndex_8e157_j9 p0 p1 σ) K0 (jq_V Z X (jq_zN Z) σ 9 [(0, jI p0), (1, jI p1), (2, jT 2)] []) := by
    unfold J3_checkIndex_8e157_j9
    exact jq_none
  refine jq_iload_n Γ dJ3_checkIndex_8e157_0 rfl 0 rfl ?_
  refine jq_if_lt (tgt := 9) Γ dJ3_checkIndex_8e157_1 rfl ?_ ?_
  · exact hj9_0
  · refine jq_iload_n Γ dJ3_checkIndex_8e157_4 rfl 0 rfl ?_
    refine jq_iload_n Γ dJ3_checkIndex_8e157_5 rfl 1 rfl ?_
    refine jq_icmp_lt (tgt := 16) Γ dJ3_checkIndex_8e157_6 rfl ?_ ?_
    · refine jq_iload_n Γ dJ3_checkIndex_8e157_16 rfl 0 rfl ?_
      exact jq_ireturn Γ dJ3_checkIndex_8e157_17 (hK0 _)
    · exact hj9_0


theorem dJ0_checkIndex_df160_0 : decode cJ0_checkIndex_df160 0 = .ok (.iload_n 0, 1) := by decide +kernel
theorem dJ0_checkIndex_df160_1 : decode cJ0_checkIndex_df160 1 = .ok (.iload_n 1, 1) := by decide +kernel
theorem dJ0_checkIndex_df160_2 : decode cJ0_checkIndex_df160 2 = .ok (.getstatic 1053, 3) := by decide +kernel
theorem dJ0_checkIndex_df160_5 : decode cJ0_checkIndex_df160 5 = .ok (.invokestatic 1059, 3) := by decide +kernel
theorem dJ0_checkIndex_df160_8 : decode cJ0_checkIndex_df160 8 = .ok (.pop, 1) := by decide +kernel
theorem dJ0_checkIndex_df160_9 : decode cJ0_checkIndex_df160 9 = .ok (.return_, 1) := by decide +kernel
set_option maxHeartbeats 4000000 in
set_option maxRecDepth 100000 in
theorem ctJ0_checkIndex_df160 {Z : jq_Z} {p0 : Int} {p1 : Int} {σ : jq_M} {res : Int}  (h : J0_checkIndex_df160 Z p0 p1 σ = some res) : jq_MC Z yJ0_checkIndex_df160 cJ0_checkIndex_df160 2 none 2 62 [jI p0, jI p1] σ none σ := by
  refine jq_met (own := RJ0) (L0 := [(0, jI p0), (1, jI p1)]) (by decide) rfl rfl rfl ?_
  intro X Γ hnl hlY hRT
  refine jq_use2 (P := fun r => jq_RT Z X none none σ) ?_ h hRT
  intro K0 hK0
  unfold J0_checkIndex_df160
  refine jq_iload_n Γ dJ0_checkIndex_df160_0 rfl 0 rfl ?_
  refine jq_iload_n Γ dJ0_checkIndex_df160_1 rfl 1 rfl ?_
  refine jq_getsF Γ gs_RJ0_1053 dJ0_checkIndex_df160_2 ?_
  refine jq_cpI (jq_stat (avs := [jI p0, jI p1, jT 2]) (st := []) Γ hlY rfl ml_RJ0_1059 rfl rfl rfl rfl rfl dJ0_checkIndex_df160_5) (fun r h => ctJ3_checkIndex_8e157 h) (fun v1 => ?_)
  refine jq_pop Γ dJ0_checkIndex_df160_8 rfl ?_
  exact jq_vreturn Γ dJ0_checkIndex_df160_9 (hK0 _)


theorem dJ1_charAt_3b067_0 : decode cJ1_charAt_3b067 0 = .ok (.iload_n 1, 1) := by decide +kernel
theorem dJ1_charAt_3b067_1 : decode cJ1_charAt_3b067 1 = .ok (.aload_n 0, 1) := by decide +kernel
theorem dJ1_charAt_3b067_2 : decode cJ1_charAt_3b067 2 = .ok (.arraylength, 1) := by decide +kernel
theorem dJ1_charAt_3b067_3 : decode cJ1_charAt_3b067 3 = .ok (.invokestatic 9, 3) := by decide +kernel
theorem dJ1_charAt_3b067_6 : decode cJ1_charAt_3b067 6 = .ok (.aload_n 0, 1) := by decide +kernel
theorem dJ1_charAt_3b067_7 : decode cJ1_charAt_3b067 7 = .ok (.iload_n 1, 1) := by decide +kernel
theorem dJ1_charAt_3b067_8 : decode cJ1_charAt_3b067 8 = .ok (.baload, 1) := by decide +kernel
theorem dJ1_charAt_3b067_9 : decode cJ1_charAt_3b067 9 = .ok (.sipush 255, 3) := by decide +kernel
theorem dJ1_charAt_3b067_12 : decode cJ1_charAt_3b067 12 = .ok (.iand, 1) := by decide +kernel
theorem dJ1_charAt_3b067_13 : decode cJ1_charAt_3b067 13 = .ok (.i2c, 1) := by decide +kernel
theorem dJ1_charAt_3b067_14 : decode cJ1_charAt_3b067 14 = .ok (.ireturn, 1) := by decide +kernel
set_option maxHeartbeats 4000000 in
set_option maxRecDepth 100000 in
theorem ctJ1_charAt_3b067 {Z : jq_Z} {p1 : Int} {σ : jq_M} {res : Int}  (h : J1_charAt_3b067 Z p1 σ = some res) : jq_MC Z yJ1_charAt_3b067 cJ1_charAt_3b067 2 (some .char) 3 83 [jT 1, jI p1] σ (some (jI res)) σ := by
  refine jq_met (own := RJ1) (L0 := [(0, jT 1), (1, jI p1)]) (by decide) rfl rfl rfl ?_
  intro X Γ hnl hlY hRT
  refine jq_use2 (P := fun r => jq_RT Z X (some .char) (some (jI r)) σ) ?_ h hRT
  intro K0 hK0
  unfold J1_charAt_3b067
  refine jq_iload_n Γ dJ1_charAt_3b067_0 rfl 1 rfl ?_
  refine jq_aloadT_n Γ dJ1_charAt_3b067_1 rfl 0 rfl (Or.inr rfl) ?_
  refine jq_alenS Γ dJ1_charAt_3b067_2 ?_
  refine jq_cpU (jq_stat (avs := [jI p1, jI (jq_sln Z)]) (st := []) Γ hlY rfl ml_RJ1_9 rfl rfl rfl rfl rfl dJ1_charAt_3b067_3) (fun r h => ctJ0_checkIndex_df160 h) (fun v1 => ?_)
  refine jq_aloadT_n Γ dJ1_charAt_3b067_6 rfl 0 rfl (Or.inr rfl) ?_
  refine jq_iload_n Γ dJ1_charAt_3b067_7 rfl 1 rfl ?_
  refine jq_baldS Γ dJ1_charAt_3b067_8 (fun v2 => ?_)
  refine jq_sipush Γ dJ1_charAt_3b067_9 rfl ?_
  refine jq_iand Γ dJ1_charAt_3b067_12 ?_
  refine jq_i2cA Γ dJ1_charAt_3b067_13 ?_
  exact jq_nreturn Γ (by decide) (jq_narC _) dJ1_charAt_3b067_14 (hK0 _)


theorem dJ0_charAt_5068e_0 : decode cJ0_charAt_5068e 0 = .ok (.aload_n 0, 1) := by decide +kernel
theorem dJ0_charAt_5068e_1 : decode cJ0_charAt_5068e 1 = .ok (.invokevirtual 492, 3) := by decide +kernel
theorem dJ0_charAt_5068e_4 : decode cJ0_charAt_5068e 4 = .ok (.ifCond .eq 12, 3) := by decide +kernel
theorem dJ0_charAt_5068e_7 : decode cJ0_charAt_5068e 7 = .ok (.aload_n 0, 1) := by decide +kernel
theorem dJ0_charAt_5068e_8 : decode cJ0_charAt_5068e 8 = .ok (.getfield 9, 3) := by decide +kernel
theorem dJ0_charAt_5068e_11 : decode cJ0_charAt_5068e 11 = .ok (.iload_n 1, 1) := by decide +kernel
theorem dJ0_charAt_5068e_12 : decode cJ0_charAt_5068e 12 = .ok (.invokestatic 495, 3) := by decide +kernel
theorem dJ0_charAt_5068e_15 : decode cJ0_charAt_5068e 15 = .ok (.ireturn, 1) := by decide +kernel
theorem dJ0_charAt_5068e_16 : decode cJ0_charAt_5068e 16 = .ok (.aload_n 0, 1) := by decide +kernel
theorem dJ0_charAt_5068e_17 : decode cJ0_charAt_5068e 17 = .ok (.getfield 9, 3) := by decide +kernel
theorem dJ0_charAt_5068e_20 : decode cJ0_charAt_5068e 20 = .ok (.iload_n 1, 1) := by decide +kernel
theorem dJ0_charAt_5068e_21 : decode cJ0_charAt_5068e 21 = .ok (.invokestatic 498, 3) := by decide +kernel
theorem dJ0_charAt_5068e_24 : decode cJ0_charAt_5068e 24 = .ok (.ireturn, 1) := by decide +kernel
set_option maxHeartbeats 4000000 in
set_option maxRecDepth 100000 in
theorem ctJ0_charAt_5068e {Z : jq_Z} {p1 : Int} {σ : jq_M} {res : Int}  (h : J0_charAt_5068e Z p1 σ = some res) : jq_MC Z yJ0_charAt_5068e cJ0_charAt_5068e 2 (some .char) 4 104 [jT 0, jI p1] σ (some (jI res)) σ := by
  refine jq_met (own := RJ0) (L0 := [(0, jT 0), (1, jI p1)]) (by decide) rfl rfl rfl ?_
  intro X Γ hnl hlY hRT
  refine jq_use2 (P := fun r => jq_RT Z X (some .char) (some (jI r)) σ) ?_ h hRT
  intro K0 hK0
  unfold J0_charAt_5068e
  refine jq_aloadT_n Γ dJ0_charAt_5068e_0 rfl 0 rfl (Or.inl rfl) ?_
  refine jq_cpZ (jq_virtT (avs := []) (st := []) Γ hlY rfl ml_RJ0_492 rfl rfl rfl rfl rfl rfl dJ0_charAt_5068e_1) rfl (fun r h => ctJ0_isLatin1_aae02 h) (fun v1 hz2 => ?_)
  refine jq_if_eq (tgt := 16) Γ dJ0_charAt_5068e_4 rfl ?_ ?_
  · refine jq_aloadT_n Γ dJ0_charAt_5068e_16 rfl 0 rfl (Or.inl rfl) ?_
    refine jq_getSv Γ gf_RJ0_9 dJ0_charAt_5068e_17 ?_
    refine jq_iload_n Γ dJ0_charAt_5068e_20 rfl 1 rfl ?_
    exact jq_none
  · refine jq_aloadT_n Γ dJ0_charAt_5068e_7 rfl 0 rfl (Or.inl rfl) ?_
    refine jq_getSv Γ gf_RJ0_9 dJ0_charAt_5068e_8 ?_
    refine jq_iload_n Γ dJ0_charAt_5068e_11 rfl 1 rfl ?_
    refine jq_cpI (jq_stat (avs := [jT 1, jI p1]) (st := []) Γ hlY rfl ml_RJ0_495 rfl rfl rfl rfl rfl dJ0_charAt_5068e_12) (fun r h => ctJ1_charAt_3b067 h) (fun v3 => ?_)
    refine jq_blcN (fun v4 hz5 => ?_)
    exact jq_nreturn Γ (by decide) hz5 dJ0_charAt_5068e_15 (hK0 _)


