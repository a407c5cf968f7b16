theorem yf_X11_sits : Cond.instanceMethod yX11_sits ∈ jq_T ∧ Cond.selects (yX11_sits).cls yX11_sits yX11_sits ∈ jq_T ∧ Cond.initialized (yX11_sits).cls ∈ jq_T ∧ Cond.code yX11_sits cX11_sits 4 (some .boolean) ∈ jq_T ∧ ((yX11_sits).cls ≠ "java/lang/invoke/MethodHandle" ∧ (yX11_sits).cls ≠ "java/lang/invoke/VarHandle" ∧ (parseMethodDescriptor (yX11_sits).desc).map (fun d => d.parameters.length) = some 2) := ⟨jq_in 2016 (by decide +kernel) rfl, jq_in 93 (by decide +kernel) rfl, jq_in 150 (by decide +kernel) rfl, jq_in 2017 (by decide +kernel) rfl, ⟨by decide, by decide, by decide +kernel⟩⟩
theorem ml_RX11_335 : jq_vl RX11 335 yX11_sits cX11_sits 4 (some .boolean) 2 := ⟨jq_in 2014 (by decide +kernel) rfl, yf_X11_sits⟩
theorem yf_X11_swaps : Cond.instanceMethod yX11_swaps ∈ jq_T ∧ Cond.selects (yX11_swaps).cls yX11_swaps yX11_swaps ∈ jq_T ∧ Cond.initialized (yX11_swaps).cls ∈ jq_T ∧ Cond.code yX11_swaps cX11_swaps 4 (some .boolean) ∈ jq_T ∧ ((yX11_swaps).cls ≠ "java/lang/invoke/MethodHandle" ∧ (yX11_swaps).cls ≠ "java/lang/invoke/VarHandle" ∧ (parseMethodDescriptor (yX11_swaps).desc).map (fun d => d.parameters.length) = some 2) := ⟨jq_in 2028 (by decide +kernel) rfl, jq_in 94 (by decide +kernel) rfl, jq_in 150 (by decide +kernel) rfl, jq_in 2029 (by decide +kernel) rfl, ⟨by decide, by decide, by decide +kernel⟩⟩
theorem ml_RX11_338 : jq_vl RX11 338 yX11_swaps cX11_swaps 4 (some .boolean) 2 := ⟨jq_in 2026 (by decide +kernel) rfl, yf_X11_swaps⟩
theorem kc_RX11_341 : Cond.constantLong RX11 341 (Int64.ofInt (99)) ∈ jq_T := jq_in 2034 (by decide +kernel) rfl
theorem yf_X11_isFrom : Cond.static yX11_isFrom ∈ jq_T ∧ Cond.initialized (yX11_isFrom).cls ∈ jq_T ∧ Cond.code yX11_isFrom cX11_isFrom 6 (some .boolean) ∈ jq_T ∧ ((yX11_isFrom).cls ≠ "java/lang/invoke/MethodHandle" ∧ (yX11_isFrom).cls ≠ "java/lang/invoke/VarHandle" ∧ (parseMethodDescriptor (yX11_isFrom).desc).map (fun d => d.parameters.length) = some 3) := ⟨jq_in 2036 (by decide +kernel) rfl, jq_in 150 (by decide +kernel) rfl, jq_in 2037 (by decide +kernel) rfl, ⟨by decide, by decide, by decide +kernel⟩⟩
theorem ml_RX11_343 : jq_sl RX11 343 yX11_isFrom cX11_isFrom 6 (some .boolean) 3 := ⟨jq_in 2035 (by decide +kernel) rfl, yf_X11_isFrom⟩
theorem yf_X11_turnsBy : Cond.instanceMethod yX11_turnsBy ∈ jq_T ∧ Cond.selects (yX11_turnsBy).cls yX11_turnsBy yX11_turnsBy ∈ jq_T ∧ Cond.initialized (yX11_turnsBy).cls ∈ jq_T ∧ Cond.code yX11_turnsBy cX11_turnsBy 3 none ∈ jq_T ∧ ((yX11_turnsBy).cls ≠ "java/lang/invoke/MethodHandle" ∧ (yX11_turnsBy).cls ≠ "java/lang/invoke/VarHandle" ∧ (parseMethodDescriptor (yX11_turnsBy).desc).map (fun d => d.parameters.length) = some 1) := ⟨jq_in 2040 (by decide +kernel) rfl, jq_in 95 (by decide +kernel) rfl, jq_in 150 (by decide +kernel) rfl, jq_in 2041 (by decide +kernel) rfl, ⟨by decide, by decide, by decide +kernel⟩⟩
theorem ml_RX11_347 : jq_vl RX11 347 yX11_turnsBy cX11_turnsBy 3 none 1 := ⟨jq_in 2038 (by decide +kernel) rfl, yf_X11_turnsBy⟩
theorem yf_X11_bits : Cond.static yX11_bits ∈ jq_T ∧ Cond.initialized (yX11_bits).cls ∈ jq_T ∧ Cond.code yX11_bits cX11_bits 3 (some .int) ∈ jq_T ∧ ((yX11_bits).cls ≠ "java/lang/invoke/MethodHandle" ∧ (yX11_bits).cls ≠ "java/lang/invoke/VarHandle" ∧ (parseMethodDescriptor (yX11_bits).desc).map (fun d => d.parameters.length) = some 1) := ⟨jq_in 2043 (by decide +kernel) rfl, jq_in 150 (by decide +kernel) rfl, jq_in 2044 (by decide +kernel) rfl, ⟨by decide, by decide, by decide +kernel⟩⟩
theorem ml_RX11_350 : jq_sl RX11 350 yX11_bits cX11_bits 3 (some .int) 1 := ⟨jq_in 2042 (by decide +kernel) rfl, yf_X11_bits⟩
theorem yf_X11_dayGoes : Cond.instanceMethod yX11_dayGoes ∈ jq_T ∧ Cond.selects (yX11_dayGoes).cls yX11_dayGoes yX11_dayGoes ∈ jq_T ∧ Cond.initialized (yX11_dayGoes).cls ∈ jq_T ∧ Cond.code yX11_dayGoes cX11_dayGoes 3 (some .int) ∈ jq_T ∧ ((yX11_dayGoes).cls ≠ "java/lang/invoke/MethodHandle" ∧ (yX11_dayGoes).cls ≠ "java/lang/invoke/VarHandle" ∧ (parseMethodDescriptor (yX11_dayGoes).desc).map (fun d => d.parameters.length) = some 0) := ⟨jq_in 2055 (by decide +kernel) rfl, jq_in 97 (by decide +kernel) rfl, jq_in 150 (by decide +kernel) rfl, jq_in 2056 (by decide +kernel) rfl, ⟨by decide, by decide, by decide +kernel⟩⟩
theorem ml_RX11_353 : jq_vl RX11 353 yX11_dayGoes cX11_dayGoes 3 (some .int) 0 := ⟨jq_in 2053 (by decide +kernel) rfl, yf_X11_dayGoes⟩
theorem yf_X11_daysGo : Cond.instanceMethod yX11_daysGo ∈ jq_T ∧ Cond.selects (yX11_daysGo).cls yX11_daysGo yX11_daysGo ∈ jq_T ∧ Cond.initialized (yX11_daysGo).cls ∈ jq_T ∧ Cond.code yX11_daysGo cX11_daysGo 4 (some .int) ∈ jq_T ∧ ((yX11_daysGo).cls ≠ "java/lang/invoke/MethodHandle" ∧ (yX11_daysGo).cls ≠ "java/lang/invoke/VarHandle" ∧ (parseMethodDescriptor (yX11_daysGo).desc).map (fun d => d.parameters.length) = some 1) := ⟨jq_in 2051 (by decide +kernel) rfl, jq_in 96 (by decide +kernel) rfl, jq_in 150 (by decide +kernel) rfl, jq_in 2052 (by decide +kernel) rfl, ⟨by decide, by decide, by decide +kernel⟩⟩
theorem ml_RX11_356 : jq_vl RX11 356 yX11_daysGo cX11_daysGo 4 (some .int) 1 := ⟨jq_in 2049 (by decide +kernel) rfl, yf_X11_daysGo⟩
theorem yf_X11_agrees : Cond.instanceMethod yX11_agrees ∈ jq_T ∧ Cond.selects (yX11_agrees).cls yX11_agrees yX11_agrees ∈ jq_T ∧ Cond.initialized (yX11_agrees).cls ∈ jq_T ∧ Cond.code yX11_agrees cX11_agrees 2 (some .boolean) ∈ jq_T ∧ ((yX11_agrees).cls ≠ "java/lang/invoke/MethodHandle" ∧ (yX11_agrees).cls ≠ "java/lang/invoke/VarHandle" ∧ (parseMethodDescriptor (yX11_agrees).desc).map (fun d => d.parameters.length) = some 1) := ⟨jq_in 2063 (by decide +kernel) rfl, jq_in 98 (by decide +kernel) rfl, jq_in 150 (by decide +kernel) rfl, jq_in 2064 (by decide +kernel) rfl, ⟨by decide, by decide, by decide +kernel⟩⟩
theorem ml_RX11_359 : jq_vl RX11 359 yX11_agrees cX11_agrees 2 (some .boolean) 1 := ⟨jq_in 2061 (by decide +kernel) rfl, yf_X11_agrees⟩
theorem yf_X11_fallsWith : Cond.instanceMethod yX11_fallsWith ∈ jq_T ∧ Cond.selects (yX11_fallsWith).cls yX11_fallsWith yX11_fallsWith ∈ jq_T ∧ Cond.initialized (yX11_fallsWith).cls ∈ jq_T ∧ Cond.code yX11_fallsWith cX11_fallsWith 4 (some .int) ∈ jq_T ∧ ((yX11_fallsWith).cls ≠ "java/lang/invoke/MethodHandle" ∧ (yX11_fallsWith).cls ≠ "java/lang/invoke/VarHandle" ∧ (parseMethodDescriptor (yX11_fallsWith).desc).map (fun d => d.parameters.length) = some 1) := ⟨jq_in 2075 (by decide +kernel) rfl, jq_in 100 (by decide +kernel) rfl, jq_in 150 (by decide +kernel) rfl, jq_in 2076 (by decide +kernel) rfl, ⟨by decide, by decide, by decide +kernel⟩⟩
theorem ml_RX11_362 : jq_vl RX11 362 yX11_fallsWith cX11_fallsWith 4 (some .int) 1 := ⟨jq_in 2073 (by decide +kernel) rfl, yf_X11_fallsWith⟩
theorem yf_X11_fallsNow : Cond.instanceMethod yX11_fallsNow ∈ jq_T ∧ Cond.selects (yX11_fallsNow).cls yX11_fallsNow yX11_fallsNow ∈ jq_T ∧ Cond.initialized (yX11_fallsNow).cls ∈ jq_T ∧ Cond.code yX11_fallsNow cX11_fallsNow 4 (some .int) ∈ jq_T ∧ ((yX11_fallsNow).cls ≠ "java/lang/invoke/MethodHandle" ∧ (yX11_fallsNow).cls ≠ "java/lang/invoke/VarHandle" ∧ (parseMethodDescriptor (yX11_fallsNow).desc).map (fun d => d.parameters.length) = some 1) := ⟨jq_in 2071 (by decide +kernel) rfl, jq_in 99 (by decide +kernel) rfl, jq_in 150 (by decide +kernel) rfl, jq_in 2072 (by decide +kernel) rfl, ⟨by decide, by decide, by decide +kernel⟩⟩
theorem ml_RX11_365 : jq_vl RX11 365 yX11_fallsNow cX11_fallsNow 4 (some .int) 1 := ⟨jq_in 2069 (by decide +kernel) rfl, yf_X11_fallsNow⟩
theorem kc_RX11_368 : Cond.constantLong RX11 368 (Int64.ofInt (50)) ∈ jq_T := jq_in 2081 (by decide +kernel) rfl
theorem kc_RX11_370 : Cond.constantLong RX11 370 (Int64.ofInt (-9)) ∈ jq_T := jq_in 2086 (by decide +kernel) rfl
theorem kc_RX11_372 : Cond.constantLong RX11 372 (Int64.ofInt (9)) ∈ jq_T := jq_in 2087 (by decide +kernel) rfl
theorem dX11_sit_0 : decode cX11_sit 0 = .ok (.aload_n 0, 1) := by decide +kernel
theorem dX11_sit_1 : decode cX11_sit 1 = .ok (.iload_n 1, 1) := by decide +kernel
theorem dX11_sit_2 : decode cX11_sit 2 = .ok (.invokevirtual 251, 3) := by decide +kernel
theorem dX11_sit_5 : decode cX11_sit 5 = .ok (.ifCond .eq 11, 3) := by decide +kernel
theorem dX11_sit_8 : decode cX11_sit 8 = .ok (.aload_n 0, 1) := by decide +kernel
theorem dX11_sit_9 : decode cX11_sit 9 = .ok (.iload_n 2, 1) := by decide +kernel
theorem dX11_sit_10 : decode cX11_sit 10 = .ok (.invokevirtual 314, 3) := by decide +kernel
theorem dX11_sit_13 : decode cX11_sit 13 = .ok (.ifCond .ne 9, 3) := by decide +kernel
theorem dX11_sit_16 : decode cX11_sit 16 = .ok (.aload_n 0, 1) := by decide +kernel
theorem dX11_sit_17 : decode cX11_sit 17 = .ok (.iconst 1, 1) := by decide +kernel
theorem dX11_sit_18 : decode cX11_sit 18 = .ok (.invokevirtual 84, 3) := by decide +kernel
theorem dX11_sit_21 : decode cX11_sit 21 = .ok (.ireturn, 1) := by decide +kernel
theorem dX11_sit_22 : decode cX11_sit 22 = .ok (.aload_n 0, 1) := by decide +kernel
theorem dX11_sit_23 : decode cX11_sit 23 = .ok (.iload_n 1, 1) := by decide +kernel
theorem dX11_sit_24 : decode cX11_sit 24 = .ok (.invokevirtual 257, 3) := by decide +kernel
theorem dX11_sit_27 : decode cX11_sit 27 = .ok (.istore_n 3, 1) := by decide +kernel
theorem dX11_sit_28 : decode cX11_sit 28 = .ok (.aload_n 0, 1) := by decide +kernel
theorem dX11_sit_29 : decode cX11_sit 29 = .ok (.iload_n 1, 1) := by decide +kernel
theorem dX11_sit_30 : decode cX11_sit 30 = .ok (.iload_n 2, 1) := by decide +kernel
theorem dX11_sit_31 : decode cX11_sit 31 = .ok (.invokevirtual 335, 3) := by decide +kernel
theorem dX11_sit_34 : decode cX11_sit 34 = .ok (.ifCond .eq 11, 3) := by decide +kernel
theorem dX11_sit_37 : decode cX11_sit 37 = .ok (.aload_n 0, 1) := by decide +kernel
theorem dX11_sit_38 : decode cX11_sit 38 = .ok (.iload_n 3, 1) := by decide +kernel
theorem dX11_sit_39 : decode cX11_sit 39 = .ok (.invokevirtual 88, 3) := by decide +kernel
theorem dX11_sit_42 : decode cX11_sit 42 = .ok (.goto 9, 3) := by decide +kernel
theorem dX11_sit_45 : decode cX11_sit 45 = .ok (.aload_n 0, 1) := by decide +kernel
theorem dX11_sit_46 : decode cX11_sit 46 = .ok (.bipush 7, 2) := by decide +kernel
theorem dX11_sit_48 : decode cX11_sit 48 = .ok (.invokevirtual 84, 3) := by decide +kernel
theorem dX11_sit_51 : decode cX11_sit 51 = .ok (.ireturn, 1) := by decide +kernel
set_option maxHeartbeats 4000000 in
set_option maxRecDepth 100000 in
theorem ctX11_sit {p1 : Int} {p2 : Int} {σ : jq_M} {res : Int} {σ' : jq_M}  (h : X11_sit p1 p2 σ = some (res, σ')) : jq_MC jq_zM yX11_sit cX11_sit 4 (some .int) 5 126 [jR 0, jI p1, jI p2] σ (some (jI res)) σ' := by
  refine jq_met (own := RX11) (L0 := [(0, jR 0), (1, jI p1), (2, jI p2)]) (by decide) rfl rfl rfl ?_
  intro X Γ hnl hlY hRT
  refine jq_use2 (P := fun r => jq_RT jq_zM X (some .int) (some (jI r.1)) r.2) ?_ h hRT
  intro K0 hK0
  unfold X11_sit
  have hj16_0 : ∀ (s3 : jq_M), jq_J (X11_sit_j16 s3) K0 (jq_V jq_zM X (jq_zN jq_zM) s3 16 [(0, jR 0)] []) := by
    intro s3
    unfold X11_sit_j16
    refine jq_aload_n Γ dX11_sit_16 rfl 0 rfl (jq_at_0 at_M_0) ?_
    refine jq_iconst Γ dX11_sit_17 rfl ?_
    refine jq_cwI (jq_virt (avs := [jI 1]) (st := []) Γ hlY rfl ml_RX11_84 rfl at_M_0 rfl rfl rfl rfl rfl dX11_sit_18) (fun r σ' h => ctX11_refuse h) (fun v4 s5 => ?_)
    exact jq_ireturn Γ dX11_sit_21 (hK0 _)
  refine jq_aload_n Γ dX11_sit_0 rfl 0 rfl (jq_at_0 at_M_0) ?_
  refine jq_iload_n Γ dX11_sit_1 rfl 1 rfl ?_
  refine jq_cpZ (jq_virt (avs := [jI p1]) (st := []) Γ hlY rfl ml_RX11_251 rfl at_M_0 rfl rfl rfl rfl rfl dX11_sit_2) rfl (fun r h => ctX11_isParty h) (fun v1 hz2 => ?_)
  refine jq_if_eq (tgt := 16) Γ dX11_sit_5 rfl ?_ ?_
  · refine jq_sub Γ (L' := [(0, jR 0)]) [0] rfl ?_
    exact hj16_0 σ
  · refine jq_aload_n Γ dX11_sit_8 rfl 0 rfl (jq_at_0 at_M_0) ?_
    refine jq_iload_n Γ dX11_sit_9 rfl 2 rfl ?_
    refine jq_cpZ (jq_virt (avs := [jI p2]) (st := []) Γ hlY rfl ml_RX11_314 rfl at_M_0 rfl rfl rfl rfl rfl dX11_sit_10) rfl (fun r h => ctX11_isPlace h) (fun v6 hz7 => ?_)
    refine jq_if_ne (tgt := 22) Γ dX11_sit_13 rfl ?_ ?_
    · refine jq_aload_n Γ dX11_sit_22 rfl 0 rfl (jq_at_0 at_M_0) ?_
      refine jq_iload_n Γ dX11_sit_23 rfl 1 rfl ?_
      refine jq_cpI (jq_virt (avs := [jI p1]) (st := []) Γ hlY rfl ml_RX11_257 rfl at_M_0 rfl rfl rfl rfl rfl dX11_sit_24) (fun r h => ctX11_seatOf h) (fun v8 => ?_)
      refine jq_istore_n (L' := [(3, jI v8), (0, jR 0), (1, jI p1), (2, jI p2)]) Γ dX11_sit_27 rfl hnl rfl rfl ?_
      refine jq_aload_n Γ dX11_sit_28 rfl 1 rfl (jq_at_0 at_M_0) ?_
      refine jq_iload_n Γ dX11_sit_29 rfl 2 rfl ?_
      refine jq_iload_n Γ dX11_sit_30 rfl 3 rfl ?_
      refine jq_cwZ (jq_virt (avs := [jI p1, jI p2]) (st := []) Γ hlY rfl ml_RX11_335 rfl at_M_0 rfl rfl rfl rfl rfl dX11_sit_31) rfl (fun r σ' h => ctX11_sits h) (fun v9 s10 hz11 => ?_)
      refine jq_if_eq (tgt := 45) Γ dX11_sit_34 rfl ?_ ?_
      · refine jq_aload_n Γ dX11_sit_45 rfl 1 rfl (jq_at_0 at_M_0) ?_
        refine jq_bipush Γ dX11_sit_46 rfl ?_
        refine jq_cwI (jq_virt (avs := [jI 7]) (st := []) Γ hlY rfl ml_RX11_84 rfl at_M_0 rfl rfl rfl rfl rfl dX11_sit_48) (fun r σ' h => ctX11_refuse h) (fun v12 s13 => ?_)
        exact jq_ireturn Γ dX11_sit_51 (hK0 _)
      · refine jq_aload_n Γ dX11_sit_37 rfl 1 rfl (jq_at_0 at_M_0) ?_
        refine jq_iload_n Γ dX11_sit_38 rfl 0 rfl ?_
        refine jq_cwI (jq_virt (avs := [jI v8]) (st := []) Γ hlY rfl ml_RX11_88 rfl at_M_0 rfl rfl rfl rfl rfl dX11_sit_39) (fun r σ' h => ctX11_gives h) (fun v14 s15 => ?_)
        refine jq_goto Γ (tgt := 51) dX11_sit_42 rfl ?_
        exact jq_ireturn Γ dX11_sit_51 (hK0 _)
    · refine jq_sub Γ (L' := [(0, jR 0)]) [0] rfl ?_
      exact hj16_0 σ


theorem dX11_rise_0 : decode cX11_rise 0 = .ok (.aload_n 0, 1) := by decide +kernel
theorem dX11_rise_1 : decode cX11_rise 1 = .ok (.iload_n 1, 1) := by decide +kernel
theorem dX11_rise_2 : decode cX11_rise 2 = .ok (.invokevirtual 251, 3) := by decide +kernel
theorem dX11_rise_5 : decode cX11_rise 5 = .ok (.ifCond .ne 9, 3) := by decide +kernel
theorem dX11_rise_8 : decode cX11_rise 8 = .ok (.aload_n 0, 1) := by decide +kernel
theorem dX11_rise_9 : decode cX11_rise 9 = .ok (.iconst 1, 1) := by decide +kernel
theorem dX11_rise_10 : decode cX11_rise 10 = .ok (.invokevirtual 84, 3) := by decide +kernel
theorem dX11_rise_13 : decode cX11_rise 13 = .ok (.ireturn, 1) := by decide +kernel
theorem dX11_rise_14 : decode cX11_rise 14 = .ok (.aload_n 0, 1) := by decide +kernel
theorem dX11_rise_15 : decode cX11_rise 15 = .ok (.iload_n 1, 1) := by decide +kernel
theorem dX11_rise_16 : decode cX11_rise 16 = .ok (.invokevirtual 257, 3) := by decide +kernel
theorem dX11_rise_19 : decode cX11_rise 19 = .ok (.istore_n 2, 1) := by decide +kernel
theorem dX11_rise_20 : decode cX11_rise 20 = .ok (.iload_n 2, 1) := by decide +kernel
theorem dX11_rise_21 : decode cX11_rise 21 = .ok (.iconst (-1), 1) := by decide +kernel
theorem dX11_rise_22 : decode cX11_rise 22 = .ok (.if_icmp .ne 10, 3) := by decide +kernel
theorem dX11_rise_25 : decode cX11_rise 25 = .ok (.aload_n 0, 1) := by decide +kernel
theorem dX11_rise_26 : decode cX11_rise 26 = .ok (.bipush 7, 2) := by decide +kernel
theorem dX11_rise_28 : decode cX11_rise 28 = .ok (.invokevirtual 84, 3) := by decide +kernel
theorem dX11_rise_31 : decode cX11_rise 31 = .ok (.ireturn, 1) := by decide +kernel
theorem dX11_rise_32 : decode cX11_rise 32 = .ok (.aload_n 0, 1) := by decide +kernel
theorem dX11_rise_33 : decode cX11_rise 33 = .ok (.getfield 7, 3) := by decide +kernel
theorem dX11_rise_36 : decode cX11_rise 36 = .ok (.iload_n 1, 1) := by decide +kernel
theorem dX11_rise_37 : decode cX11_rise 37 = .ok (.invokestatic 254, 3) := by decide +kernel
theorem dX11_rise_40 : decode cX11_rise 40 = .ok (.iconst 1, 1) := by decide +kernel
theorem dX11_rise_41 : decode cX11_rise 41 = .ok (.iadd, 1) := by decide +kernel
theorem dX11_rise_42 : decode cX11_rise 42 = .ok (.iconst (-1), 1) := by decide +kernel
theorem dX11_rise_43 : decode cX11_rise 43 = .ok (.iastore, 1) := by decide +kernel
theorem dX11_rise_44 : decode cX11_rise 44 = .ok (.aload_n 0, 1) := by decide +kernel
theorem dX11_rise_45 : decode cX11_rise 45 = .ok (.iload_n 2, 1) := by decide +kernel
theorem dX11_rise_46 : decode cX11_rise 46 = .ok (.invokevirtual 88, 3) := by decide +kernel
theorem dX11_rise_49 : decode cX11_rise 49 = .ok (.ireturn, 1) := by decide +kernel
set_option maxHeartbeats 4000000 in
set_option maxRecDepth 100000 in
theorem ctX11_rise {p1 : Int} {σ : jq_M} {res : Int} {σ' : jq_M}  (h : X11_rise p1 σ = some (res, σ')) : jq_MC jq_zM yX11_rise cX11_rise 3 (some .int) 3 81 [jR 0, jI p1] σ (some (jI res)) σ' := by
  refine jq_met (own := RX11) (L0 := [(0, jR 0), (1, jI p1)]) (by decide) rfl rfl rfl ?_
  intro X Γ hnl hlY hRT
  refine jq_use2 (P := fun r => jq_RT jq_zM X (some .int) (some (jI r.1)) r.2) ?_ h hRT
  intro K0 hK0
  unfold X11_rise
  refine jq_aload_n Γ dX11_rise_0 rfl 0 rfl (jq_at_0 at_M_0) ?_
  refine jq_iload_n Γ dX11_rise_1 rfl 1 rfl ?_
  refine jq_cpZ (jq_virt (avs := [jI p1]) (st := []) Γ hlY rfl ml_RX11_251 rfl at_M_0 rfl rfl rfl rfl rfl dX11_rise_2) rfl (fun r h => ctX11_isParty h) (fun v1 hz2 => ?_)
  refine jq_if_ne (tgt := 14) Γ dX11_rise_5 rfl ?_ ?_
  · refine jq_aload_n Γ dX11_rise_14 rfl 0 rfl (jq_at_0 at_M_0) ?_
    refine jq_iload_n Γ dX11_rise_15 rfl 1 rfl ?_
    refine jq_cpI (jq_virt (avs := [jI p1]) (st := []) Γ hlY rfl ml_RX11_257 rfl at_M_0 rfl rfl rfl rfl rfl dX11_rise_16) (fun r h => ctX11_seatOf h) (fun v3 => ?_)
    refine jq_istore_n (L' := [(2, jI v3), (0, jR 0), (1, jI p1)]) Γ dX11_rise_19 rfl hnl rfl rfl ?_
    refine jq_iload_n Γ dX11_rise_20 rfl 0 rfl ?_
    refine jq_iconst Γ dX11_rise_21 rfl ?_
    refine jq_icmp_ne (tgt := 32) Γ dX11_rise_22 rfl ?_ ?_
    · refine jq_aload_n Γ dX11_rise_32 rfl 1 rfl (jq_at_0 at_M_0) ?_
      refine jq_getR (v := 1) Γ hlY at_M_0 fl_RX11_7 rfl rfl ly_X11_at dX11_rise_33 ?_
      refine jq_iload_n Γ dX11_rise_36 rfl 2 rfl ?_
      refine jq_cpI (jq_stat (avs := [jI p1]) (st := [jR 1]) Γ hlY rfl ml_RX11_254 rfl rfl rfl rfl rfl dX11_rise_37) (fun r h => ctX11_partyRow h) (fun v4 => ?_)
      refine jq_iconst Γ dX11_rise_40 rfl ?_
      refine jq_iadd Γ dX11_rise_41 ?_
      refine jq_iconst Γ dX11_rise_42 rfl ?_
      refine jq_iast Γ at_M_1 rfl dX11_rise_43 (fun s5 => ?_)
      refine jq_aload_n Γ dX11_rise_44 rfl 1 rfl (jq_at_0 at_M_0) ?_
      refine jq_iload_n Γ dX11_rise_45 rfl 0 rfl ?_
      refine jq_cwI (jq_virt (avs := [jI v3]) (st := []) Γ hlY rfl ml_RX11_88 rfl at_M_0 rfl rfl rfl rfl rfl dX11_rise_46) (fun r σ' h => ctX11_gives h) (fun v6 s7 => ?_)
      exact jq_ireturn Γ dX11_rise_49 (hK0 _)
    · refine jq_aload_n Γ dX11_rise_25 rfl 1 rfl (jq_at_0 at_M_0) ?_
      refine jq_bipush Γ dX11_rise_26 rfl ?_
      refine jq_cwI (jq_virt (avs := [jI 7]) (st := []) Γ hlY rfl ml_RX11_84 rfl at_M_0 rfl rfl rfl rfl rfl dX11_rise_28) (fun r σ' h => ctX11_refuse h) (fun v8 s9 => ?_)
      exact jq_ireturn Γ dX11_rise_31 (hK0 _)
  · refine jq_aload_n Γ dX11_rise_8 rfl 0 rfl (jq_at_0 at_M_0) ?_
    refine jq_iconst Γ dX11_rise_9 rfl ?_
    refine jq_cwI (jq_virt (avs := [jI 1]) (st := []) Γ hlY rfl ml_RX11_84 rfl at_M_0 rfl rfl rfl rfl rfl dX11_rise_10) (fun r σ' h => ctX11_refuse h) (fun v10 s11 => ?_)
    exact jq_ireturn Γ dX11_rise_13 (hK0 _)


theorem dX11_swaps_0 : decode cX11_swaps 0 = .ok (.iload_n 1, 1) := by decide +kernel
theorem dX11_swaps_1 : decode cX11_swaps 1 = .ok (.iload_n 2, 1) := by decide +kernel
theorem dX11_swaps_2 : decode cX11_swaps 2 = .ok (.if_icmp .eq 21, 3) := by decide +kernel
theorem dX11_swaps_5 : decode cX11_swaps 5 = .ok (.aload_n 0, 1) := by decide +kernel
theorem dX11_swaps_6 : decode cX11_swaps 6 = .ok (.iload_n 1, 1) := by decide +kernel
theorem dX11_swaps_7 : decode cX11_swaps 7 = .ok (.invokevirtual 257, 3) := by decide +kernel
theorem dX11_swaps_10 : decode cX11_swaps 10 = .ok (.iconst (-1), 1) := by decide +kernel
theorem dX11_swaps_11 : decode cX11_swaps 11 = .ok (.if_icmp .ne 14, 3) := by decide +kernel
theorem dX11_swaps_14 : decode cX11_swaps 14 = .ok (.aload_n 0, 1) := by decide +kernel
theorem dX11_swaps_15 : decode cX11_swaps 15 = .ok (.iload_n 2, 1) := by decide +kernel
theorem dX11_swaps_16 : decode cX11_swaps 16 = .ok (.invokevirtual 257, 3) := by decide +kernel
theorem dX11_swaps_19 : decode cX11_swaps 19 = .ok (.iconst (-1), 1) := by decide +kernel
theorem dX11_swaps_20 : decode cX11_swaps 20 = .ok (.if_icmp .ne 5, 3) := by decide +kernel
theorem dX11_swaps_23 : decode cX11_swaps 23 = .ok (.iconst 0, 1) := by decide +kernel
theorem dX11_swaps_24 : decode cX11_swaps 24 = .ok (.ireturn, 1) := by decide +kernel
theorem dX11_swaps_25 : decode cX11_swaps 25 = .ok (.aload_n 0, 1) := by decide +kernel
theorem dX11_swaps_26 : decode cX11_swaps 26 = .ok (.iload_n 1, 1) := by decide +kernel
theorem dX11_swaps_27 : decode cX11_swaps 27 = .ok (.invokevirtual 257, 3) := by decide +kernel
theorem dX11_swaps_30 : decode cX11_swaps 30 = .ok (.istore_n 3, 1) := by decide +kernel
theorem dX11_swaps_31 : decode cX11_swaps 31 = .ok (.aload_n 0, 1) := by decide +kernel
theorem dX11_swaps_32 : decode cX11_swaps 32 = .ok (.getfield 7, 3) := by decide +kernel
theorem dX11_swaps_35 : decode cX11_swaps 35 = .ok (.iload_n 1, 1) := by decide +kernel
theorem dX11_swaps_36 : decode cX11_swaps 36 = .ok (.invokestatic 254, 3) := by decide +kernel
theorem dX11_swaps_39 : decode cX11_swaps 39 = .ok (.iconst 1, 1) := by decide +kernel
theorem dX11_swaps_40 : decode cX11_swaps 40 = .ok (.iadd, 1) := by decide +kernel
theorem dX11_swaps_41 : decode cX11_swaps 41 = .ok (.aload_n 0, 1) := by decide +kernel
theorem dX11_swaps_42 : decode cX11_swaps 42 = .ok (.iload_n 2, 1) := by decide +kernel
theorem dX11_swaps_43 : decode cX11_swaps 43 = .ok (.invokevirtual 257, 3) := by decide +kernel
theorem dX11_swaps_46 : decode cX11_swaps 46 = .ok (.iastore, 1) := by decide +kernel
theorem dX11_swaps_47 : decode cX11_swaps 47 = .ok (.aload_n 0, 1) := by decide +kernel
theorem dX11_swaps_48 : decode cX11_swaps 48 = .ok (.getfield 7, 3) := by decide +kernel
theorem dX11_swaps_51 : decode cX11_swaps 51 = .ok (.iload_n 2, 1) := by decide +kernel
theorem dX11_swaps_52 : decode cX11_swaps 52 = .ok (.invokestatic 254, 3) := by decide +kernel
theorem dX11_swaps_55 : decode cX11_swaps 55 = .ok (.iconst 1, 1) := by decide +kernel
theorem dX11_swaps_56 : decode cX11_swaps 56 = .ok (.iadd, 1) := by decide +kernel
theorem dX11_swaps_57 : decode cX11_swaps 57 = .ok (.iload_n 3, 1) := by decide +kernel
theorem dX11_swaps_58 : decode cX11_swaps 58 = .ok (.iastore, 1) := by decide +kernel
theorem dX11_swaps_59 : decode cX11_swaps 59 = .ok (.iconst 1, 1) := by decide +kernel
theorem dX11_swaps_60 : decode cX11_swaps 60 = .ok (.ireturn, 1) := by decide +kernel
set_option maxHeartbeats 4000000 in
set_option maxRecDepth 100000 in
theorem ctX11_swaps {p1 : Int} {p2 : Int} {σ : jq_M} {res : Int} {σ' : jq_M}  (h : X11_swaps p1 p2 σ = some (res, σ')) : jq_MC jq_zM yX11_swaps cX11_swaps 4 (some .boolean) 3 81 [jR 0, jI p1, jI p2] σ (some (jI res)) σ' := by
  refine jq_met (own := RX11) (L0 := [(0, jR 0), (1, jI p1), (2, jI p2)]) (by decide) rfl rfl rfl ?_
  intro X Γ hnl hlY hRT
  refine jq_use2 (P := fun r => jq_RT jq_zM X (some .boolean) (some (jI r.1)) r.2) ?_ h hRT
  intro K0 hK0
  unfold X11_swaps
  have hj25_0 : ∀ (s2 : jq_M), jq_J (X11_swaps_j25 p1 p2 s2) K0 (jq_V jq_zM X (jq_zN jq_zM) s2 25 [(0, jR 0), (1, jI p1), (2, jI p2)] []) := by
    intro s2
    unfold X11_swaps_j25
    refine jq_aload_n Γ dX11_swaps_25 rfl 0 rfl (jq_at_0 at_M_0) ?_
    refine jq_iload_n Γ dX11_swaps_26 rfl 1 rfl ?_
    refine jq_cpI (jq_virt (avs := [jI p1]) (st := []) Γ hlY rfl ml_RX11_257 rfl at_M_0 rfl rfl rfl rfl rfl dX11_swaps_27) (fun r h => ctX11_seatOf h) (fun v3 => ?_)
    refine jq_istore_n (L' := [(3, jI v3), (0, jR 0), (1, jI p1), (2, jI p2)]) Γ dX11_swaps_30 rfl hnl rfl rfl ?_
    refine jq_aload_n Γ dX11_swaps_31 rfl 1 rfl (jq_at_0 at_M_0) ?_
    refine jq_getR (v := 1) Γ hlY at_M_0 fl_RX11_7 rfl rfl ly_X11_at dX11_swaps_32 ?_
    refine jq_iload_n Γ dX11_swaps_35 rfl 2 rfl ?_
    refine jq_cpI (jq_stat (avs := [jI p1]) (st := [jR 1]) Γ hlY rfl ml_RX11_254 rfl rfl rfl rfl rfl dX11_swaps_36) (fun r h => ctX11_partyRow h) (fun v4 => ?_)
    refine jq_iconst Γ dX11_swaps_39 rfl ?_
    refine jq_iadd Γ dX11_swaps_40 ?_
    refine jq_aload_n Γ dX11_swaps_41 rfl 1 rfl (jq_at_0 at_M_0) ?_
    refine jq_iload_n Γ dX11_swaps_42 rfl 3 rfl ?_
    refine jq_cpI (jq_virt (avs := [jI p2]) (st := [jI (jq_w (v4 + 1)), jR 1]) Γ hlY rfl ml_RX11_257 rfl at_M_0 rfl rfl rfl rfl rfl dX11_swaps_43) (fun r h => ctX11_seatOf h) (fun v5 => ?_)
    refine jq_iast Γ at_M_1 rfl dX11_swaps_46 (fun s6 => ?_)
    refine jq_aload_n Γ dX11_swaps_47 rfl 1 rfl (jq_at_0 at_M_0) ?_
    refine jq_getR (v := 1) Γ hlY at_M_0 fl_RX11_7 rfl rfl ly_X11_at dX11_swaps_48 ?_
    refine jq_iload_n Γ dX11_swaps_51 rfl 3 rfl ?_
    refine jq_cpI (jq_stat (avs := [jI p2]) (st := [jR 1]) Γ hlY rfl ml_RX11_254 rfl rfl rfl rfl rfl dX11_swaps_52) (fun r h => ctX11_partyRow h) (fun v7 => ?_)
    refine jq_iconst Γ dX11_swaps_55 rfl ?_
    refine jq_iadd Γ dX11_swaps_56 ?_
    refine jq_iload_n Γ dX11_swaps_57 rfl 0 rfl ?_
    refine jq_iast Γ at_M_1 rfl dX11_swaps_58 (fun s8 => ?_)
    refine jq_iconst Γ dX11_swaps_59 rfl ?_
    exact jq_zreturn Γ (Or.inr rfl) dX11_swaps_60 (hK0 _)
  refine jq_iload_n Γ dX11_swaps_0 rfl 1 rfl ?_
  refine jq_iload_n Γ dX11_swaps_1 rfl 2 rfl ?_
  refine jq_icmp_eq (tgt := 23) Γ dX11_swaps_2 rfl ?_ ?_
  · refine jq_iconst Γ dX11_swaps_23 rfl ?_
    exact jq_zreturn Γ (Or.inl rfl) dX11_swaps_24 (hK0 _)
  · refine jq_aload_n Γ dX11_swaps_5 rfl 0 rfl (jq_at_0 at_M_0) ?_
    refine jq_iload_n Γ dX11_swaps_6 rfl 1 rfl ?_
    refine jq_cpI (jq_virt (avs := [jI p1]) (st := []) Γ hlY rfl ml_RX11_257 rfl at_M_0 rfl rfl rfl rfl rfl dX11_swaps_7) (fun r h => ctX11_seatOf h) (fun v1 => ?_)
    refine jq_iconst Γ dX11_swaps_10 rfl ?_
    refine jq_icmp_ne (tgt := 25) Γ dX11_swaps_11 rfl ?_ ?_
    · exact hj25_0 σ
    · refine jq_aload_n Γ dX11_swaps_14 rfl 0 rfl (jq_at_0 at_M_0) ?_
      refine jq_iload_n Γ dX11_swaps_15 rfl 2 rfl ?_
      refine jq_cpI (jq_virt (avs := [jI p2]) (st := []) Γ hlY rfl ml_RX11_257 rfl at_M_0 rfl rfl rfl rfl rfl dX11_swaps_16) (fun r h => ctX11_seatOf h) (fun v9 => ?_)
      refine jq_iconst Γ dX11_swaps_19 rfl ?_
      refine jq_icmp_ne (tgt := 25) Γ dX11_swaps_20 rfl ?_ ?_
      · exact hj25_0 σ
      · refine jq_iconst Γ dX11_swaps_23 rfl ?_
        exact jq_zreturn Γ (Or.inl rfl) dX11_swaps_24 (hK0 _)


theorem dX11_swap_0 : decode cX11_swap 0 = .ok (.aload_n 0, 1) := by decide +kernel
theorem dX11_swap_1 : decode cX11_swap 1 = .ok (.aload_n 0, 1) := by decide +kernel
theorem dX11_swap_2 : decode cX11_swap 2 = .ok (.iload_n 1, 1) := by decide +kernel
theorem dX11_swap_3 : decode cX11_swap 3 = .ok (.iload_n 2, 1) := by decide +kernel
theorem dX11_swap_4 : decode cX11_swap 4 = .ok (.invokevirtual 326, 3) := by decide +kernel
theorem dX11_swap_7 : decode cX11_swap 7 = .ok (.ifCond .ne 7, 3) := by decide +kernel
theorem dX11_swap_10 : decode cX11_swap 10 = .ok (.iconst 1, 1) := by decide +kernel
theorem dX11_swap_11 : decode cX11_swap 11 = .ok (.goto 18, 3) := by decide +kernel
theorem dX11_swap_14 : decode cX11_swap 14 = .ok (.aload_n 0, 1) := by decide +kernel
theorem dX11_swap_15 : decode cX11_swap 15 = .ok (.iload_n 1, 1) := by decide +kernel
theorem dX11_swap_16 : decode cX11_swap 16 = .ok (.iload_n 2, 1) := by decide +kernel
theorem dX11_swap_17 : decode cX11_swap 17 = .ok (.invokevirtual 338, 3) := by decide +kernel
theorem dX11_swap_20 : decode cX11_swap 20 = .ok (.ifCond .eq 7, 3) := by decide +kernel
theorem dX11_swap_23 : decode cX11_swap 23 = .ok (.iconst 0, 1) := by decide +kernel
theorem dX11_swap_24 : decode cX11_swap 24 = .ok (.goto 5, 3) := by decide +kernel
theorem dX11_swap_27 : decode cX11_swap 27 = .ok (.bipush 7, 2) := by decide +kernel
theorem dX11_swap_29 : decode cX11_swap 29 = .ok (.invokevirtual 91, 3) := by decide +kernel
theorem dX11_swap_32 : decode cX11_swap 32 = .ok (.ireturn, 1) := by decide +kernel
set_option maxHeartbeats 4000000 in
set_option maxRecDepth 100000 in
theorem ctX11_swap {p1 : Int} {p2 : Int} {σ : jq_M} {res : Int} {σ' : jq_M}  (h : X11_swap p1 p2 σ = some (res, σ')) : jq_MC jq_zM yX11_swap cX11_swap 3 (some .boolean) 4 104 [jR 0, jI p1, jI p2] σ (some (jI res)) σ' := by
  refine jq_met (own := RX11) (L0 := [(0, jR 0), (1, jI p1), (2, jI p2)]) (by decide) rfl rfl rfl ?_
  intro X Γ hnl hlY hRT
  refine jq_use2 (P := fun r => jq_RT jq_zM X (some .boolean) (some (jI r.1)) r.2) ?_ h hRT
  intro K0 hK0
  unfold X11_swap
  have hj29_0 : ∀ (j6 : Int) (s7 : jq_M), jq_J (X11_swap_j29 j6 s7) K0 (jq_V jq_zM X (jq_zN jq_zM) s7 29 [] [jI j6, jR 0]) := by
    intro j6 s7
    unfold X11_swap_j29
    refine jq_cwZ (jq_virt (avs := [jI j6]) (st := []) Γ hlY rfl ml_RX11_91 rfl at_M_0 rfl rfl rfl rfl rfl dX11_swap_29) rfl (fun r σ' h => ctX11_is h) (fun v8 s9 hz10 => ?_)
    exact jq_zreturn Γ (hz10) dX11_swap_32 (hK0 _)
  refine jq_aload_n Γ dX11_swap_0 rfl 0 rfl (jq_at_0 at_M_0) ?_
  refine jq_aload_n Γ dX11_swap_1 rfl 0 rfl (jq_at_0 at_M_0) ?_
  refine jq_iload_n Γ dX11_swap_2 rfl 1 rfl ?_
  refine jq_iload_n Γ dX11_swap_3 rfl 2 rfl ?_
  refine jq_cpZ (jq_virt (avs := [jI p1, jI p2]) (st := [jR 0]) Γ hlY rfl ml_RX11_326 rfl at_M_0 rfl rfl rfl rfl rfl dX11_swap_4) rfl (fun r h => ctX11_areTwo h) (fun v1 hz2 => ?_)
  refine jq_if_ne (tgt := 14) Γ dX11_swap_7 rfl ?_ ?_
  · refine jq_aload_n Γ dX11_swap_14 rfl 0 rfl (jq_at_0 at_M_0) ?_
    refine jq_iload_n Γ dX11_swap_15 rfl 1 rfl ?_
    refine jq_iload_n Γ dX11_swap_16 rfl 2 rfl ?_
    refine jq_cwZ (jq_virt (avs := [jI p1, jI p2]) (st := [jR 0]) Γ hlY rfl ml_RX11_338 rfl at_M_0 rfl rfl rfl rfl rfl dX11_swap_17) rfl (fun r σ' h => ctX11_swaps h) (fun v3 s4 hz5 => ?_)
    refine jq_if_eq (tgt := 27) Γ dX11_swap_20 rfl ?_ ?_
    · refine jq_bipush Γ dX11_swap_27 rfl ?_
      refine jq_sub Γ (L' := []) [] rfl ?_
      exact hj29_0 7 s4
    · refine jq_iconst Γ dX11_swap_23 rfl ?_
      refine jq_goto Γ (tgt := 29) dX11_swap_24 rfl ?_
      refine jq_sub Γ (L' := []) [] rfl ?_
      exact hj29_0 0 s4
  · refine jq_iconst Γ dX11_swap_10 rfl ?_
    refine jq_goto Γ (tgt := 29) dX11_swap_11 rfl ?_
    refine jq_sub Γ (L' := []) [] rfl ?_
    exact hj29_0 1 σ


theorem dX11_turnsBy_0 : decode cX11_turnsBy 0 = .ok (.iconst 0, 1) := by decide +kernel
theorem dX11_turnsBy_1 : decode cX11_turnsBy 1 = .ok (.istore_n 2, 1) := by decide +kernel
theorem dX11_turnsBy_2 : decode cX11_turnsBy 2 = .ok (.iload_n 2, 1) := by decide +kernel
theorem dX11_turnsBy_3 : decode cX11_turnsBy 3 = .ok (.aload_n 0, 1) := by decide +kernel
theorem dX11_turnsBy_4 : decode cX11_turnsBy 4 = .ok (.getfield 7, 3) := by decide +kernel
theorem dX11_turnsBy_7 : decode cX11_turnsBy 7 = .ok (.iconst 1, 1) := by decide +kernel
theorem dX11_turnsBy_8 : decode cX11_turnsBy 8 = .ok (.iaload, 1) := by decide +kernel
theorem dX11_turnsBy_9 : decode cX11_turnsBy 9 = .ok (.if_icmp .ge 43, 3) := by decide +kernel
theorem dX11_turnsBy_12 : decode cX11_turnsBy 12 = .ok (.aload_n 0, 1) := by decide +kernel
theorem dX11_turnsBy_13 : decode cX11_turnsBy 13 = .ok (.iload_n 2, 1) := by decide +kernel
theorem dX11_turnsBy_14 : decode cX11_turnsBy 14 = .ok (.invokevirtual 257, 3) := by decide +kernel
theorem dX11_turnsBy_17 : decode cX11_turnsBy 17 = .ok (.iconst (-1), 1) := by decide +kernel
theorem dX11_turnsBy_18 : decode cX11_turnsBy 18 = .ok (.if_icmp .eq 28, 3) := by decide +kernel
theorem dX11_turnsBy_21 : decode cX11_turnsBy 21 = .ok (.aload_n 0, 1) := by decide +kernel
theorem dX11_turnsBy_22 : decode cX11_turnsBy 22 = .ok (.getfield 7, 3) := by decide +kernel
theorem dX11_turnsBy_25 : decode cX11_turnsBy 25 = .ok (.iload_n 2, 1) := by decide +kernel
theorem dX11_turnsBy_26 : decode cX11_turnsBy 26 = .ok (.invokestatic 254, 3) := by decide +kernel
theorem dX11_turnsBy_29 : decode cX11_turnsBy 29 = .ok (.iconst 1, 1) := by decide +kernel
theorem dX11_turnsBy_30 : decode cX11_turnsBy 30 = .ok (.iadd, 1) := by decide +kernel
theorem dX11_turnsBy_31 : decode cX11_turnsBy 31 = .ok (.aload_n 0, 1) := by decide +kernel
theorem dX11_turnsBy_32 : decode cX11_turnsBy 32 = .ok (.iload_n 2, 1) := by decide +kernel
theorem dX11_turnsBy_33 : decode cX11_turnsBy 33 = .ok (.invokevirtual 257, 3) := by decide +kernel
theorem dX11_turnsBy_36 : decode cX11_turnsBy 36 = .ok (.iload_n 1, 1) := by decide +kernel
theorem dX11_turnsBy_37 : decode cX11_turnsBy 37 = .ok (.iadd, 1) := by decide +kernel
theorem dX11_turnsBy_38 : decode cX11_turnsBy 38 = .ok (.aload_n 0, 1) := by decide +kernel
theorem dX11_turnsBy_39 : decode cX11_turnsBy 39 = .ok (.getfield 7, 3) := by decide +kernel
theorem dX11_turnsBy_42 : decode cX11_turnsBy 42 = .ok (.iconst 0, 1) := by decide +kernel
theorem dX11_turnsBy_43 : decode cX11_turnsBy 43 = .ok (.iaload, 1) := by decide +kernel
theorem dX11_turnsBy_44 : decode cX11_turnsBy 44 = .ok (.irem, 1) := by decide +kernel
theorem dX11_turnsBy_45 : decode cX11_turnsBy 45 = .ok (.iastore, 1) := by decide +kernel
theorem dX11_turnsBy_46 : decode cX11_turnsBy 46 = .ok (.iinc 2 1, 3) := by decide +kernel
theorem dX11_turnsBy_49 : decode cX11_turnsBy 49 = .ok (.goto (-47), 3) := by decide +kernel
theorem dX11_turnsBy_52 : decode cX11_turnsBy 52 = .ok (.return_, 1) := by decide +kernel
set_option maxHeartbeats 4000000 in
set_option maxRecDepth 100000 in
theorem ctX11_turnsBy {p1 : Int} {σ : jq_M} {σ' : jq_M}  (h : X11_turnsBy p1 σ = some σ') : jq_MC jq_zM yX11_turnsBy cX11_turnsBy 3 none 3 81 [jR 0, jI p1] σ none σ' := by
  refine jq_met (own := RX11) (L0 := [(0, jR 0), (1, jI p1)]) (by decide) rfl rfl rfl ?_
  intro X Γ hnl hlY hRT
  refine jq_use2 (P := fun r => jq_RT jq_zM X none none r) ?_ h hRT
  intro K0 hK0
  unfold X11_turnsBy
  refine jq_iconst Γ dX11_turnsBy_0 rfl ?_
  refine jq_istore_n (L' := [(2, jI 0), (0, jR 0), (1, jI p1)]) Γ dX11_turnsBy_1 rfl hnl rfl rfl ?_
  refine jq_sub Γ (L' := [(0, jR 0), (1, jI p1), (2, jI 0)]) [1, 2, 0] rfl ?_
  refine jq_loop2 (C := fun (t1 : Int × jq_M) => jq_V jq_zM X (jq_zN jq_zM) t1.2 2 [(0, jR 0), (1, jI p1), (2, jI t1.1)] []) (KX := fun (e11 : jq_M) => jq_V jq_zM X (jq_zN jq_zM) e11 52 [] []) ?_ ?_ (0, σ)
  · intro K2_t1 hCt1 hXt1 t1
    unfold X11_turnsBy_b2
    refine jq_iload_n Γ dX11_turnsBy_2 rfl 2 rfl ?_
    refine jq_aload_n Γ dX11_turnsBy_3 rfl 0 rfl (jq_at_0 at_M_0) ?_
    refine jq_getR (v := 1) Γ hlY at_M_0 fl_RX11_7 rfl rfl ly_X11_at dX11_turnsBy_4 ?_
    refine jq_iconst Γ dX11_turnsBy_7 rfl ?_
    refine jq_iald Γ at_M_1 rfl dX11_turnsBy_8 (fun v2 => ?_)
    refine jq_icmp_ge (tgt := 52) Γ dX11_turnsBy_9 rfl ?_ ?_
    · refine jq_sub Γ (L' := []) [] rfl ?_
      exact jq_done (hXt1 t1.2)
    · refine jq_aload_n Γ dX11_turnsBy_12 rfl 0 rfl (jq_at_0 at_M_0) ?_
      refine jq_iload_n Γ dX11_turnsBy_13 rfl 2 rfl ?_
      refine jq_cpI (jq_virt (avs := [jI t1.1]) (st := []) Γ hlY rfl ml_RX11_257 rfl at_M_0 rfl rfl rfl rfl rfl dX11_turnsBy_14) (fun r h => ctX11_seatOf h) (fun v3 => ?_)
      refine jq_iconst Γ dX11_turnsBy_17 rfl ?_
      refine jq_icmp_eq (tgt := 46) Γ dX11_turnsBy_18 rfl ?_ ?_
      · refine jq_iincN (L' := fun v4 => [(2, jI v4), (0, jR 0), (1, jI p1)]) Γ dX11_turnsBy_46 2 rfl hnl rfl (fun _ => rfl) (fun v4 => ?_)
        refine jq_goto Γ (tgt := 2) dX11_turnsBy_49 rfl ?_
        refine jq_sub Γ (L' := [(0, jR 0), (1, jI p1), (2, jI v4)]) [1, 2, 0] rfl ?_
        exact jq_done (hCt1 (v4, t1.2))
      · refine jq_aload_n Γ dX11_turnsBy_21 rfl 0 rfl (jq_at_0 at_M_0) ?_
        refine jq_getR (v := 1) Γ hlY at_M_0 fl_RX11_7 rfl rfl ly_X11_at dX11_turnsBy_22 ?_
        refine jq_iload_n Γ dX11_turnsBy_25 rfl 2 rfl ?_
        refine jq_cpI (jq_stat (avs := [jI t1.1]) (st := [jR 1]) Γ hlY rfl ml_RX11_254 rfl rfl rfl rfl rfl dX11_turnsBy_26) (fun r h => ctX11_partyRow h) (fun v5 => ?_)
        refine jq_iconst Γ dX11_turnsBy_29 rfl ?_
        refine jq_iadd Γ dX11_turnsBy_30 ?_
        refine jq_aload_n Γ dX11_turnsBy_31 rfl 0 rfl (jq_at_0 at_M_0) ?_
        refine jq_iload_n Γ dX11_turnsBy_32 rfl 2 rfl ?_
        refine jq_cpI (jq_virt (avs := [jI t1.1]) (st := [jI (jq_w (v5 + 1)), jR 1]) Γ hlY rfl ml_RX11_257 rfl at_M_0 rfl rfl rfl rfl rfl dX11_turnsBy_33) (fun r h => ctX11_seatOf h) (fun v6 => ?_)
        refine jq_iload_n Γ dX11_turnsBy_36 rfl 1 rfl ?_
        refine jq_iadd Γ dX11_turnsBy_37 ?_
        refine jq_aload_n Γ dX11_turnsBy_38 rfl 0 rfl (jq_at_0 at_M_0) ?_
        refine jq_getR (v := 1) Γ hlY at_M_0 fl_RX11_7 rfl rfl ly_X11_at dX11_turnsBy_39 ?_
        refine jq_iconst Γ dX11_turnsBy_42 rfl ?_
        refine jq_iald Γ at_M_1 rfl dX11_turnsBy_43 (fun v7 => ?_)
        refine jq_iremR Γ dX11_turnsBy_44 (fun v8 => ?_)
        refine jq_iast Γ at_M_1 rfl dX11_turnsBy_45 (fun s9 => ?_)
        refine jq_iincN (L' := fun v10 => [(2, jI v10), (0, jR 0), (1, jI p1)]) Γ dX11_turnsBy_46 2 rfl hnl rfl (fun _ => rfl) (fun v10 => ?_)
        refine jq_goto Γ (tgt := 2) dX11_turnsBy_49 rfl ?_
        refine jq_sub Γ (L' := [(0, jR 0), (1, jI p1), (2, jI v10)]) [1, 2, 0] rfl ?_
        exact jq_done (hCt1 (v10, s9))
  · intro e11
    exact jq_vreturn Γ dX11_turnsBy_52 (hK0 _)


theorem dX11_turn_0 : decode cX11_turn 0 = .ok (.iload_n 1, 1) := by decide +kernel
theorem dX11_turn_1 : decode cX11_turn 1 = .ok (.i2l, 1) := by decide +kernel
theorem dX11_turn_2 : decode cX11_turn 2 = .ok (.lconst 0, 1) := by decide +kernel
theorem dX11_turn_3 : decode cX11_turn 3 = .ok (.ldc2_w 341, 3) := by decide +kernel
theorem dX11_turn_6 : decode cX11_turn 6 = .ok (.invokestatic 343, 3) := by decide +kernel
theorem dX11_turn_9 : decode cX11_turn 9 = .ok (.ifCond .ne 9, 3) := by decide +kernel
theorem dX11_turn_12 : decode cX11_turn 12 = .ok (.aload_n 0, 1) := by decide +kernel
theorem dX11_turn_13 : decode cX11_turn 13 = .ok (.iconst 1, 1) := by decide +kernel
theorem dX11_turn_14 : decode cX11_turn 14 = .ok (.invokevirtual 84, 3) := by decide +kernel
theorem dX11_turn_17 : decode cX11_turn 17 = .ok (.ireturn, 1) := by decide +kernel
theorem dX11_turn_18 : decode cX11_turn 18 = .ok (.aload_n 0, 1) := by decide +kernel
theorem dX11_turn_19 : decode cX11_turn 19 = .ok (.iload_n 1, 1) := by decide +kernel
theorem dX11_turn_20 : decode cX11_turn 20 = .ok (.invokevirtual 347, 3) := by decide +kernel
theorem dX11_turn_23 : decode cX11_turn 23 = .ok (.aload_n 0, 1) := by decide +kernel
theorem dX11_turn_24 : decode cX11_turn 24 = .ok (.aload_n 0, 1) := by decide +kernel
theorem dX11_turn_25 : decode cX11_turn 25 = .ok (.invokevirtual 305, 3) := by decide +kernel
theorem dX11_turn_28 : decode cX11_turn 28 = .ok (.invokestatic 350, 3) := by decide +kernel
theorem dX11_turn_31 : decode cX11_turn 31 = .ok (.invokevirtual 88, 3) := by decide +kernel
theorem dX11_turn_34 : decode cX11_turn 34 = .ok (.ireturn, 1) := by decide +kernel
set_option maxHeartbeats 4000000 in
set_option maxRecDepth 100000 in
theorem ctX11_turn {p1 : Int} {σ : jq_M} {res : Int} {σ' : jq_M}  (h : X11_turn p1 σ = some (res, σ')) : jq_MC jq_zM yX11_turn cX11_turn 2 (some .int) 4 103 [jR 0, jI p1] σ (some (jI res)) σ' := by
  refine jq_met (own := RX11) (L0 := [(0, jR 0), (1, jI p1)]) (by decide) rfl rfl rfl ?_
  intro X Γ hnl hlY hRT
  refine jq_use2 (P := fun r => jq_RT jq_zM X (some .int) (some (jI r.1)) r.2) ?_ h hRT
  intro K0 hK0
  unfold X11_turn
  refine jq_iload_n Γ dX11_turn_0 rfl 1 rfl ?_
  refine jq_i2l Γ dX11_turn_1 ?_
  refine jq_lconst Γ 0 dX11_turn_2 rfl rfl ?_
  refine jq_ldc2 Γ 99 dX11_turn_3 kc_RX11_341 rfl ?_
  refine jq_cpZ (jq_stat (avs := [jL p1, jL 0, jL 99]) (st := []) Γ hlY rfl ml_RX11_343 rfl rfl rfl rfl rfl dX11_turn_6) rfl (fun r h => ctX11_isFrom h) (fun v1 hz2 => ?_)
  refine jq_if_ne (tgt := 18) Γ dX11_turn_9 rfl ?_ ?_
  · refine jq_aload_n Γ dX11_turn_18 rfl 0 rfl (jq_at_0 at_M_0) ?_
    refine jq_iload_n Γ dX11_turn_19 rfl 1 rfl ?_
    refine jq_cwV (jq_virt (avs := [jI p1]) (st := []) Γ hlY rfl ml_RX11_347 rfl at_M_0 rfl rfl rfl rfl rfl dX11_turn_20) (fun σ' h => ctX11_turnsBy h) (fun s3 => ?_)
    refine jq_aload_n Γ dX11_turn_23 rfl 0 rfl (jq_at_0 at_M_0) ?_
    refine jq_aload_n Γ dX11_turn_24 rfl 0 rfl (jq_at_0 at_M_0) ?_
    refine jq_cpI (jq_virt (avs := []) (st := [jR 0]) Γ hlY rfl ml_RX11_305 rfl at_M_0 rfl rfl rfl rfl rfl dX11_turn_25) (fun r h => ctX11_sitting h) (fun v4 => ?_)
    refine jq_cpI (jq_stat (avs := [jI v4]) (st := [jR 0]) Γ hlY rfl ml_RX11_350 rfl rfl rfl rfl rfl dX11_turn_28) (fun r h => ctX11_bits h) (fun v5 => ?_)
    refine jq_cwI (jq_virt (avs := [jI v5]) (st := []) Γ hlY rfl ml_RX11_88 rfl at_M_0 rfl rfl rfl rfl rfl dX11_turn_31) (fun r σ' h => ctX11_gives h) (fun v6 s7 => ?_)
    exact jq_ireturn Γ dX11_turn_34 (hK0 _)
  · refine jq_aload_n Γ dX11_turn_12 rfl 0 rfl (jq_at_0 at_M_0) ?_
    refine jq_iconst Γ dX11_turn_13 rfl ?_
    refine jq_cwI (jq_virt (avs := [jI 1]) (st := []) Γ hlY rfl ml_RX11_84 rfl at_M_0 rfl rfl rfl rfl rfl dX11_turn_14) (fun r σ' h => ctX11_refuse h) (fun v8 s9 => ?_)
    exact jq_ireturn Γ dX11_turn_17 (hK0 _)


theorem dX11_dayGoes_0 : decode cX11_dayGoes 0 = .ok (.aload_n 0, 1) := by decide +kernel
theorem dX11_dayGoes_1 : decode cX11_dayGoes 1 = .ok (.getfield 7, 3) := by decide +kernel
theorem dX11_dayGoes_4 : decode cX11_dayGoes 4 = .ok (.iconst 4, 1) := by decide +kernel
theorem dX11_dayGoes_5 : decode cX11_dayGoes 5 = .ok (.dup2, 1) := by decide +kernel
theorem dX11_dayGoes_6 : decode cX11_dayGoes 6 = .ok (.iaload, 1) := by decide +kernel
theorem dX11_dayGoes_7 : decode cX11_dayGoes 7 = .ok (.iconst 1, 1) := by decide +kernel
theorem dX11_dayGoes_8 : decode cX11_dayGoes 8 = .ok (.iadd, 1) := by decide +kernel
theorem dX11_dayGoes_9 : decode cX11_dayGoes 9 = .ok (.iastore, 1) := by decide +kernel
theorem dX11_dayGoes_10 : decode cX11_dayGoes 10 = .ok (.iconst 0, 1) := by decide +kernel
theorem dX11_dayGoes_11 : decode cX11_dayGoes 11 = .ok (.istore_n 1, 1) := by decide +kernel
theorem dX11_dayGoes_12 : decode cX11_dayGoes 12 = .ok (.iload_n 1, 1) := by decide +kernel
theorem dX11_dayGoes_13 : decode cX11_dayGoes 13 = .ok (.aload_n 0, 1) := by decide +kernel
theorem dX11_dayGoes_14 : decode cX11_dayGoes 14 = .ok (.getfield 7, 3) := by decide +kernel
theorem dX11_dayGoes_17 : decode cX11_dayGoes 17 = .ok (.iconst 3, 1) := by decide +kernel
theorem dX11_dayGoes_18 : decode cX11_dayGoes 18 = .ok (.iaload, 1) := by decide +kernel
theorem dX11_dayGoes_19 : decode cX11_dayGoes 19 = .ok (.if_icmp .ge 67, 3) := by decide +kernel
theorem dX11_dayGoes_22 : decode cX11_dayGoes 22 = .ok (.aload_n 0, 1) := by decide +kernel
theorem dX11_dayGoes_23 : decode cX11_dayGoes 23 = .ok (.iload_n 1, 1) := by decide +kernel
theorem dX11_dayGoes_24 : decode cX11_dayGoes 24 = .ok (.invokevirtual 299, 3) := by decide +kernel
theorem dX11_dayGoes_27 : decode cX11_dayGoes 27 = .ok (.ifCond .ne 6, 3) := by decide +kernel
theorem dX11_dayGoes_30 : decode cX11_dayGoes 30 = .ok (.goto 50, 3) := by decide +kernel
theorem dX11_dayGoes_33 : decode cX11_dayGoes 33 = .ok (.iload_n 1, 1) := by decide +kernel
theorem dX11_dayGoes_34 : decode cX11_dayGoes 34 = .ok (.invokestatic 290, 3) := by decide +kernel
theorem dX11_dayGoes_37 : decode cX11_dayGoes 37 = .ok (.istore_n 2, 1) := by decide +kernel
theorem dX11_dayGoes_38 : decode cX11_dayGoes 38 = .ok (.aload_n 0, 1) := by decide +kernel
theorem dX11_dayGoes_39 : decode cX11_dayGoes 39 = .ok (.getfield 7, 3) := by decide +kernel
theorem dX11_dayGoes_42 : decode cX11_dayGoes 42 = .ok (.iload_n 2, 1) := by decide +kernel
theorem dX11_dayGoes_43 : decode cX11_dayGoes 43 = .ok (.iconst 3, 1) := by decide +kernel
theorem dX11_dayGoes_44 : decode cX11_dayGoes 44 = .ok (.iadd, 1) := by decide +kernel
theorem dX11_dayGoes_45 : decode cX11_dayGoes 45 = .ok (.dup2, 1) := by decide +kernel
theorem dX11_dayGoes_46 : decode cX11_dayGoes 46 = .ok (.iaload, 1) := by decide +kernel
theorem dX11_dayGoes_47 : decode cX11_dayGoes 47 = .ok (.iconst 1, 1) := by decide +kernel
theorem dX11_dayGoes_48 : decode cX11_dayGoes 48 = .ok (.iadd, 1) := by decide +kernel
theorem dX11_dayGoes_49 : decode cX11_dayGoes 49 = .ok (.iastore, 1) := by decide +kernel
theorem dX11_dayGoes_50 : decode cX11_dayGoes 50 = .ok (.aload_n 0, 1) := by decide +kernel
theorem dX11_dayGoes_51 : decode cX11_dayGoes 51 = .ok (.getfield 7, 3) := by decide +kernel
theorem dX11_dayGoes_54 : decode cX11_dayGoes 54 = .ok (.iload_n 2, 1) := by decide +kernel
theorem dX11_dayGoes_55 : decode cX11_dayGoes 55 = .ok (.iconst 3, 1) := by decide +kernel
theorem dX11_dayGoes_56 : decode cX11_dayGoes 56 = .ok (.iadd, 1) := by decide +kernel
theorem dX11_dayGoes_57 : decode cX11_dayGoes 57 = .ok (.iaload, 1) := by decide +kernel
theorem dX11_dayGoes_58 : decode cX11_dayGoes 58 = .ok (.aload_n 0, 1) := by decide +kernel
theorem dX11_dayGoes_59 : decode cX11_dayGoes 59 = .ok (.getfield 7, 3) := by decide +kernel
theorem dX11_dayGoes_62 : decode cX11_dayGoes 62 = .ok (.iload_n 2, 1) := by decide +kernel
theorem dX11_dayGoes_63 : decode cX11_dayGoes 63 = .ok (.iaload, 1) := by decide +kernel
theorem dX11_dayGoes_64 : decode cX11_dayGoes 64 = .ok (.if_icmp .ge 5, 3) := by decide +kernel
theorem dX11_dayGoes_67 : decode cX11_dayGoes 67 = .ok (.iconst 0, 1) := by decide +kernel
theorem dX11_dayGoes_68 : decode cX11_dayGoes 68 = .ok (.ireturn, 1) := by decide +kernel
theorem dX11_dayGoes_69 : decode cX11_dayGoes 69 = .ok (.aload_n 0, 1) := by decide +kernel
theorem dX11_dayGoes_70 : decode cX11_dayGoes 70 = .ok (.getfield 7, 3) := by decide +kernel
theorem dX11_dayGoes_73 : decode cX11_dayGoes 73 = .ok (.iload_n 2, 1) := by decide +kernel
theorem dX11_dayGoes_74 : decode cX11_dayGoes 74 = .ok (.iconst 4, 1) := by decide +kernel
theorem dX11_dayGoes_75 : decode cX11_dayGoes 75 = .ok (.iadd, 1) := by decide +kernel
theorem dX11_dayGoes_76 : decode cX11_dayGoes 76 = .ok (.iconst 1, 1) := by decide +kernel
theorem dX11_dayGoes_77 : decode cX11_dayGoes 77 = .ok (.iastore, 1) := by decide +kernel
theorem dX11_dayGoes_78 : decode cX11_dayGoes 78 = .ok (.iconst 1, 1) := by decide +kernel
theorem dX11_dayGoes_79 : decode cX11_dayGoes 79 = .ok (.ireturn, 1) := by decide +kernel
theorem dX11_dayGoes_80 : decode cX11_dayGoes 80 = .ok (.iinc 1 1, 3) := by decide +kernel
theorem dX11_dayGoes_83 : decode cX11_dayGoes 83 = .ok (.goto (-71), 3) := by decide +kernel
theorem dX11_dayGoes_86 : decode cX11_dayGoes 86 = .ok (.iconst 0, 1) := by decide +kernel
theorem dX11_dayGoes_87 : decode cX11_dayGoes 87 = .ok (.ireturn, 1) := by decide +kernel
set_option maxHeartbeats 4000000 in
set_option maxRecDepth 100000 in
theorem ctX11_dayGoes  {σ : jq_M} {res : Int} {σ' : jq_M}  (h : X11_dayGoes σ = some (res, σ')) : jq_MC jq_zM yX11_dayGoes cX11_dayGoes 3 (some .int) 5 124 [jR 0] σ (some (jI res)) σ' := by
  refine jq_met (own := RX11) (L0 := [(0, jR 0)]) (by decide) rfl rfl rfl ?_
  intro X Γ hnl hlY hRT
  refine jq_use2 (P := fun r => jq_RT jq_zM X (some .int) (some (jI r.1)) r.2) ?_ h hRT
  intro K0 hK0
  unfold X11_dayGoes
  refine jq_aload_n Γ dX11_dayGoes_0 rfl 0 rfl (jq_at_0 at_M_0) ?_
  refine jq_getR (v := 1) Γ hlY at_M_0 fl_RX11_7 rfl rfl ly_X11_at dX11_dayGoes_1 ?_
  refine jq_iconst Γ dX11_dayGoes_4 rfl ?_
  refine jq_dup2 Γ dX11_dayGoes_5 rfl rfl ?_
  refine jq_iald Γ at_M_1 rfl dX11_dayGoes_6 (fun v1 => ?_)
  refine jq_iconst Γ dX11_dayGoes_7 rfl ?_
  refine jq_iadd Γ dX11_dayGoes_8 ?_
  refine jq_iast Γ at_M_1 rfl dX11_dayGoes_9 (fun s2 => ?_)
  refine jq_iconst Γ dX11_dayGoes_10 rfl ?_
  refine jq_istore_n (L' := [(1, jI 0), (0, jR 0)]) Γ dX11_dayGoes_11 rfl hnl rfl rfl ?_
  refine jq_sub Γ (L' := [(0, jR 0), (1, jI 0)]) [1, 0] rfl ?_
  refine jq_loop2 (C := fun (t3 : Int) => jq_V jq_zM X (jq_zN jq_zM) s2 12 [(0, jR 0), (1, jI t3)] []) (KX := Sum.elim (fun (e8 : Int) => jq_V jq_zM X (jq_zN jq_zM) s2 33 [(0, jR 0), (1, jI e8)] []) (fun (e16 : Unit) => jq_V jq_zM X (jq_zN jq_zM) s2 86 [] [])) ?_ ?_ 0
  · intro K12_t3 hCt3 hXt3 t3
    unfold X11_dayGoes_b12
    refine jq_iload_n Γ dX11_dayGoes_12 rfl 1 rfl ?_
    refine jq_aload_n Γ dX11_dayGoes_13 rfl 0 rfl (jq_at_0 at_M_0) ?_
    refine jq_getR (v := 1) Γ hlY at_M_0 fl_RX11_7 rfl rfl ly_X11_at dX11_dayGoes_14 ?_
    refine jq_iconst Γ dX11_dayGoes_17 rfl ?_
    refine jq_iald Γ at_M_1 rfl dX11_dayGoes_18 (fun v4 => ?_)
    refine jq_icmp_ge (tgt := 86) Γ dX11_dayGoes_19 rfl ?_ ?_
    · refine jq_sub Γ (L' := []) [] rfl ?_
      exact jq_done (hXt3 (.inr ()))
    · refine jq_aload_n Γ dX11_dayGoes_22 rfl 0 rfl (jq_at_0 at_M_0) ?_
      refine jq_iload_n Γ dX11_dayGoes_23 rfl 1 rfl ?_
      refine jq_cpZ (jq_virt (avs := [jI t3]) (st := []) Γ hlY rfl ml_RX11_299 rfl at_M_0 rfl rfl rfl rfl rfl dX11_dayGoes_24) rfl (fun r h => ctX11_isOpen h) (fun v5 hz6 => ?_)
      refine jq_if_ne (tgt := 33) Γ dX11_dayGoes_27 rfl ?_ ?_
      · exact jq_done (hXt3 (.inl t3))
      · refine jq_goto Γ (tgt := 80) dX11_dayGoes_30 rfl ?_
        refine jq_iincN (L' := fun v7 => [(1, jI v7), (0, jR 0)]) Γ dX11_dayGoes_80 1 rfl hnl rfl (fun _ => rfl) (fun v7 => ?_)
        refine jq_goto Γ (tgt := 12) dX11_dayGoes_83 rfl ?_
        refine jq_sub Γ (L' := [(0, jR 0), (1, jI v7)]) [1, 0] rfl ?_
        exact jq_done (hCt3 v7)
  · refine jq_elim ?_ ?_
    · intro e8
      refine jq_iload_n Γ dX11_dayGoes_33 rfl 1 rfl ?_
      refine jq_cpI (jq_stat (avs := [jI e8]) (st := []) Γ hlY rfl ml_RX11_290 rfl rfl rfl rfl rfl dX11_dayGoes_34) (fun r h => ctX11_articleRow h) (fun v9 => ?_)
      refine jq_istore_n (L' := [(2, jI v9), (0, jR 0), (1, jI e8)]) Γ dX11_dayGoes_37 rfl hnl rfl rfl ?_
      refine jq_aload_n Γ dX11_dayGoes_38 rfl 1 rfl (jq_at_0 at_M_0) ?_
      refine jq_getR (v := 1) Γ hlY at_M_0 fl_RX11_7 rfl rfl ly_X11_at dX11_dayGoes_39 ?_
      refine jq_iload_n Γ dX11_dayGoes_42 rfl 0 rfl ?_
      refine jq_iconst Γ dX11_dayGoes_43 rfl ?_
      refine jq_iadd Γ dX11_dayGoes_44 ?_
      refine jq_nmI (fun v10 => ?_)
      refine jq_dup2 Γ dX11_dayGoes_45 rfl rfl ?_
      refine jq_iald Γ at_M_1 rfl dX11_dayGoes_46 (fun v11 => ?_)
      refine jq_iconst Γ dX11_dayGoes_47 rfl ?_
      refine jq_iadd Γ dX11_dayGoes_48 ?_
      refine jq_iast Γ at_M_1 rfl dX11_dayGoes_49 (fun s12 => ?_)
      refine jq_aload_n Γ dX11_dayGoes_50 rfl 1 rfl (jq_at_0 at_M_0) ?_
      refine jq_getR (v := 1) Γ hlY at_M_0 fl_RX11_7 rfl rfl ly_X11_at dX11_dayGoes_51 ?_
      refine jq_iload_n Γ dX11_dayGoes_54 rfl 0 rfl ?_
      refine jq_iconst Γ dX11_dayGoes_55 rfl ?_
      refine jq_iadd Γ dX11_dayGoes_56 ?_
      refine jq_iald Γ at_M_1 rfl dX11_dayGoes_57 (fun v13 => ?_)
      refine jq_aload_n Γ dX11_dayGoes_58 rfl 1 rfl (jq_at_0 at_M_0) ?_
      refine jq_getR (v := 1) Γ hlY at_M_0 fl_RX11_7 rfl rfl ly_X11_at dX11_dayGoes_59 ?_
      refine jq_iload_n Γ dX11_dayGoes_62 rfl 0 rfl ?_
      refine jq_iald Γ at_M_1 rfl dX11_dayGoes_63 (fun v14 => ?_)
      refine jq_icmp_ge (tgt := 69) Γ dX11_dayGoes_64 rfl ?_ ?_
      · refine jq_aload_n Γ dX11_dayGoes_69 rfl 1 rfl (jq_at_0 at_M_0) ?_
        refine jq_getR (v := 1) Γ hlY at_M_0 fl_RX11_7 rfl rfl ly_X11_at dX11_dayGoes_70 ?_
        refine jq_iload_n Γ dX11_dayGoes_73 rfl 0 rfl ?_
        refine jq_iconst Γ dX11_dayGoes_74 rfl ?_
        refine jq_iadd Γ dX11_dayGoes_75 ?_
        refine jq_iconst Γ dX11_dayGoes_76 rfl ?_
        refine jq_iast Γ at_M_1 rfl dX11_dayGoes_77 (fun s15 => ?_)
        refine jq_iconst Γ dX11_dayGoes_78 rfl ?_
        exact jq_ireturn Γ dX11_dayGoes_79 (hK0 _)
      · refine jq_iconst Γ dX11_dayGoes_67 rfl ?_
        exact jq_ireturn Γ dX11_dayGoes_68 (hK0 _)
    · intro e16
      refine jq_iconst Γ dX11_dayGoes_86 rfl ?_
      exact jq_ireturn Γ dX11_dayGoes_87 (hK0 _)


theorem dX11_daysGo_0 : decode cX11_daysGo 0 = .ok (.iconst 0, 1) := by decide +kernel
theorem dX11_daysGo_1 : decode cX11_daysGo 1 = .ok (.istore_n 2, 1) := by decide +kernel
theorem dX11_daysGo_2 : decode cX11_daysGo 2 = .ok (.iconst 0, 1) := by decide +kernel
theorem dX11_daysGo_3 : decode cX11_daysGo 3 = .ok (.istore_n 3, 1) := by decide +kernel
theorem dX11_daysGo_4 : decode cX11_daysGo 4 = .ok (.iload_n 3, 1) := by decide +kernel
theorem dX11_daysGo_5 : decode cX11_daysGo 5 = .ok (.iload_n 1, 1) := by decide +kernel
theorem dX11_daysGo_6 : decode cX11_daysGo 6 = .ok (.if_icmp .ge 16, 3) := by decide +kernel
theorem dX11_daysGo_9 : decode cX11_daysGo 9 = .ok (.iload_n 2, 1) := by decide +kernel
theorem dX11_daysGo_10 : decode cX11_daysGo 10 = .ok (.aload_n 0, 1) := by decide +kernel
theorem dX11_daysGo_11 : decode cX11_daysGo 11 = .ok (.invokevirtual 353, 3) := by decide +kernel
theorem dX11_daysGo_14 : decode cX11_daysGo 14 = .ok (.iadd, 1) := by decide +kernel
theorem dX11_daysGo_15 : decode cX11_daysGo 15 = .ok (.istore_n 2, 1) := by decide +kernel
theorem dX11_daysGo_16 : decode cX11_daysGo 16 = .ok (.iinc 3 1, 3) := by decide +kernel
theorem dX11_daysGo_19 : decode cX11_daysGo 19 = .ok (.goto (-15), 3) := by decide +kernel
theorem dX11_daysGo_22 : decode cX11_daysGo 22 = .ok (.iload_n 2, 1) := by decide +kernel
theorem dX11_daysGo_23 : decode cX11_daysGo 23 = .ok (.ireturn, 1) := by decide +kernel
set_option maxHeartbeats 4000000 in
set_option maxRecDepth 100000 in
theorem ctX11_daysGo {p1 : Int} {σ : jq_M} {res : Int} {σ' : jq_M}  (h : X11_daysGo p1 σ = some (res, σ')) : jq_MC jq_zM yX11_daysGo cX11_daysGo 4 (some .int) 6 146 [jR 0, jI p1] σ (some (jI res)) σ' := by
  refine jq_met (own := RX11) (L0 := [(0, jR 0), (1, jI p1)]) (by decide) rfl rfl rfl ?_
  intro X Γ hnl hlY hRT
  refine jq_use2 (P := fun r => jq_RT jq_zM X (some .int) (some (jI r.1)) r.2) ?_ h hRT
  intro K0 hK0
  unfold X11_daysGo
  refine jq_iconst Γ dX11_daysGo_0 rfl ?_
  refine jq_istore_n (L' := [(2, jI 0), (0, jR 0), (1, jI p1)]) Γ dX11_daysGo_1 rfl hnl rfl rfl ?_
  refine jq_iconst Γ dX11_daysGo_2 rfl ?_
  refine jq_istore_n (L' := [(3, jI 0), (2, jI 0), (0, jR 0), (1, jI p1)]) Γ dX11_daysGo_3 rfl hnl rfl rfl ?_
  refine jq_sub Γ (L' := [(0, jR 0), (1, jI p1), (2, jI 0), (3, jI 0)]) [2, 3, 1, 0] rfl ?_
  refine jq_loop2 (C := fun (t1 : Int × Int × jq_M) => jq_V jq_zM X (jq_zN jq_zM) t1.2.2 4 [(0, jR 0), (1, jI p1), (2, jI t1.1), (3, jI t1.2.1)] []) (KX := fun (e6 : Int × jq_M) => jq_V jq_zM X (jq_zN jq_zM) e6.2 22 [(2, jI e6.1)] []) ?_ ?_ (0, 0, σ)
  · intro K4_t1 hCt1 hXt1 t1
    unfold X11_daysGo_b4
    refine jq_iload_n Γ dX11_daysGo_4 rfl 3 rfl ?_
    refine jq_iload_n Γ dX11_daysGo_5 rfl 1 rfl ?_
    refine jq_icmp_ge (tgt := 22) Γ dX11_daysGo_6 rfl ?_ ?_
    · refine jq_sub Γ (L' := [(2, jI t1.1)]) [2] rfl ?_
      exact jq_done (hXt1 (t1.1, t1.2.2))
    · refine jq_iload_n Γ dX11_daysGo_9 rfl 2 rfl ?_
      refine jq_aload_n Γ dX11_daysGo_10 rfl 0 rfl (jq_at_0 at_M_0) ?_
      refine jq_cwI (jq_virt (avs := []) (st := [jI t1.1]) Γ hlY rfl ml_RX11_353 rfl at_M_0 rfl rfl rfl rfl rfl dX11_daysGo_11) (fun r σ' h => ctX11_dayGoes h) (fun v2 s3 => ?_)
      refine jq_iadd Γ dX11_daysGo_14 ?_
      refine jq_nmI (fun v4 => ?_)
      refine jq_istore_n (L' := [(2, jI v4), (0, jR 0), (1, jI p1), (3, jI t1.2.1)]) Γ dX11_daysGo_15 rfl hnl rfl rfl ?_
      refine jq_iincN (L' := fun v5 => [(3, jI v5), (2, jI v4), (0, jR 0), (1, jI p1)]) Γ dX11_daysGo_16 3 rfl hnl rfl (fun _ => rfl) (fun v5 => ?_)
      refine jq_goto Γ (tgt := 4) dX11_daysGo_19 rfl ?_
      refine jq_sub Γ (L' := [(0, jR 0), (1, jI p1), (2, jI v4), (3, jI v5)]) [2, 3, 1, 0] rfl ?_
      exact jq_done (hCt1 (v4, v5, s3))
  · intro e6
    refine jq_iload_n Γ dX11_daysGo_22 rfl 0 rfl ?_
    exact jq_ireturn Γ dX11_daysGo_23 (hK0 _)


theorem dX11_day_0 : decode cX11_day 0 = .ok (.iload_n 1, 1) := by decide +kernel
theorem dX11_day_1 : decode cX11_day 1 = .ok (.i2l, 1) := by decide +kernel
theorem dX11_day_2 : decode cX11_day 2 = .ok (.lconst 1, 1) := by decide +kernel
theorem dX11_day_3 : decode cX11_day 3 = .ok (.ldc2_w 341, 3) := by decide +kernel
theorem dX11_day_6 : decode cX11_day 6 = .ok (.invokestatic 343, 3) := by decide +kernel
theorem dX11_day_9 : decode cX11_day 9 = .ok (.ifCond .ne 9, 3) := by decide +kernel
theorem dX11_day_12 : decode cX11_day 12 = .ok (.aload_n 0, 1) := by decide +kernel
theorem dX11_day_13 : decode cX11_day 13 = .ok (.iconst 1, 1) := by decide +kernel
theorem dX11_day_14 : decode cX11_day 14 = .ok (.invokevirtual 84, 3) := by decide +kernel
theorem dX11_day_17 : decode cX11_day 17 = .ok (.ireturn, 1) := by decide +kernel
theorem dX11_day_18 : decode cX11_day 18 = .ok (.aload_n 0, 1) := by decide +kernel
theorem dX11_day_19 : decode cX11_day 19 = .ok (.getfield 7, 3) := by decide +kernel
theorem dX11_day_22 : decode cX11_day 22 = .ok (.iconst 4, 1) := by decide +kernel
theorem dX11_day_23 : decode cX11_day 23 = .ok (.iaload, 1) := by decide +kernel
theorem dX11_day_24 : decode cX11_day 24 = .ok (.iload_n 1, 1) := by decide +kernel
theorem dX11_day_25 : decode cX11_day 25 = .ok (.iadd, 1) := by decide +kernel
theorem dX11_day_26 : decode cX11_day 26 = .ok (.sipush 9999, 3) := by decide +kernel
theorem dX11_day_29 : decode cX11_day 29 = .ok (.if_icmp .le 11, 3) := by decide +kernel
theorem dX11_day_32 : decode cX11_day 32 = .ok (.aload_n 0, 1) := by decide +kernel
theorem dX11_day_33 : decode cX11_day 33 = .ok (.iconst 4, 1) := by decide +kernel
theorem dX11_day_34 : decode cX11_day 34 = .ok (.invokevirtual 84, 3) := by decide +kernel
theorem dX11_day_37 : decode cX11_day 37 = .ok (.goto 12, 3) := by decide +kernel
theorem dX11_day_40 : decode cX11_day 40 = .ok (.aload_n 0, 1) := by decide +kernel
theorem dX11_day_41 : decode cX11_day 41 = .ok (.aload_n 0, 1) := by decide +kernel
theorem dX11_day_42 : decode cX11_day 42 = .ok (.iload_n 1, 1) := by decide +kernel
theorem dX11_day_43 : decode cX11_day 43 = .ok (.invokevirtual 356, 3) := by decide +kernel
theorem dX11_day_46 : decode cX11_day 46 = .ok (.invokevirtual 88, 3) := by decide +kernel
theorem dX11_day_49 : decode cX11_day 49 = .ok (.ireturn, 1) := by decide +kernel
set_option maxHeartbeats 4000000 in
set_option maxRecDepth 100000 in
theorem ctX11_day {p1 : Int} {σ : jq_M} {res : Int} {σ' : jq_M}  (h : X11_day p1 σ = some (res, σ')) : jq_MC jq_zM yX11_day cX11_day 2 (some .int) 7 169 [jR 0, jI p1] σ (some (jI res)) σ' := by
  refine jq_met (own := RX11) (L0 := [(0, jR 0), (1, jI p1)]) (by decide) rfl rfl rfl ?_
  intro X Γ hnl hlY hRT
  refine jq_use2 (P := fun r => jq_RT jq_zM X (some .int) (some (jI r.1)) r.2) ?_ h hRT
  intro K0 hK0
  unfold X11_day
  refine jq_iload_n Γ dX11_day_0 rfl 1 rfl ?_
  refine jq_i2l Γ dX11_day_1 ?_
  refine jq_lconst Γ 1 dX11_day_2 rfl rfl ?_
  refine jq_ldc2 Γ 99 dX11_day_3 kc_RX11_341 rfl ?_
  refine jq_cpZ (jq_stat (avs := [jL p1, jL 1, jL 99]) (st := []) Γ hlY rfl ml_RX11_343 rfl rfl rfl rfl rfl dX11_day_6) rfl (fun r h => ctX11_isFrom h) (fun v1 hz2 => ?_)
  refine jq_if_ne (tgt := 18) Γ dX11_day_9 rfl ?_ ?_
  · refine jq_aload_n Γ dX11_day_18 rfl 0 rfl (jq_at_0 at_M_0) ?_
    refine jq_getR (v := 1) Γ hlY at_M_0 fl_RX11_7 rfl rfl ly_X11_at dX11_day_19 ?_
    refine jq_iconst Γ dX11_day_22 rfl ?_
    refine jq_iald Γ at_M_1 rfl dX11_day_23 (fun v3 => ?_)
    refine jq_iload_n Γ dX11_day_24 rfl 1 rfl ?_
    refine jq_iadd Γ dX11_day_25 ?_
    refine jq_sipush Γ dX11_day_26 rfl ?_
    refine jq_icmp_le (tgt := 40) Γ dX11_day_29 rfl ?_ ?_
    · refine jq_aload_n Γ dX11_day_40 rfl 0 rfl (jq_at_0 at_M_0) ?_
      refine jq_aload_n Γ dX11_day_41 rfl 0 rfl (jq_at_0 at_M_0) ?_
      refine jq_iload_n Γ dX11_day_42 rfl 1 rfl ?_
      refine jq_cwI (jq_virt (avs := [jI p1]) (st := [jR 0]) Γ hlY rfl ml_RX11_356 rfl at_M_0 rfl rfl rfl rfl rfl dX11_day_43) (fun r σ' h => ctX11_daysGo h) (fun v4 s5 => ?_)
      refine jq_cwI (jq_virt (avs := [jI v4]) (st := []) Γ hlY rfl ml_RX11_88 rfl at_M_0 rfl rfl rfl rfl rfl dX11_day_46) (fun r σ' h => ctX11_gives h) (fun v6 s7 => ?_)
      exact jq_ireturn Γ dX11_day_49 (hK0 _)
    · refine jq_aload_n Γ dX11_day_32 rfl 0 rfl (jq_at_0 at_M_0) ?_
      refine jq_iconst Γ dX11_day_33 rfl ?_
      refine jq_cwI (jq_virt (avs := [jI 4]) (st := []) Γ hlY rfl ml_RX11_84 rfl at_M_0 rfl rfl rfl rfl rfl dX11_day_34) (fun r σ' h => ctX11_refuse h) (fun v8 s9 => ?_)
      refine jq_goto Γ (tgt := 49) dX11_day_37 rfl ?_
      exact jq_ireturn Γ dX11_day_49 (hK0 _)
  · refine jq_aload_n Γ dX11_day_12 rfl 0 rfl (jq_at_0 at_M_0) ?_
    refine jq_iconst Γ dX11_day_13 rfl ?_
    refine jq_cwI (jq_virt (avs := [jI 1]) (st := []) Γ hlY rfl ml_RX11_84 rfl at_M_0 rfl rfl rfl rfl rfl dX11_day_14) (fun r σ' h => ctX11_refuse h) (fun v10 s11 => ?_)
    exact jq_ireturn Γ dX11_day_17 (hK0 _)


theorem dX11_agrees_0 : decode cX11_agrees 0 = .ok (.aload_n 0, 1) := by decide +kernel
theorem dX11_agrees_1 : decode cX11_agrees 1 = .ok (.iload_n 1, 1) := by decide +kernel
theorem dX11_agrees_2 : decode cX11_agrees 2 = .ok (.invokevirtual 299, 3) := by decide +kernel
theorem dX11_agrees_5 : decode cX11_agrees 5 = .ok (.ifCond .ne 5, 3) := by decide +kernel
theorem dX11_agrees_8 : decode cX11_agrees 8 = .ok (.iconst 0, 1) := by decide +kernel
theorem dX11_agrees_9 : decode cX11_agrees 9 = .ok (.ireturn, 1) := by decide +kernel
theorem dX11_agrees_10 : decode cX11_agrees 10 = .ok (.aload_n 0, 1) := by decide +kernel
theorem dX11_agrees_11 : decode cX11_agrees 11 = .ok (.getfield 7, 3) := by decide +kernel
theorem dX11_agrees_14 : decode cX11_agrees 14 = .ok (.iload_n 1, 1) := by decide +kernel
theorem dX11_agrees_15 : decode cX11_agrees 15 = .ok (.invokestatic 290, 3) := by decide +kernel
theorem dX11_agrees_18 : decode cX11_agrees 18 = .ok (.iconst 4, 1) := by decide +kernel
theorem dX11_agrees_19 : decode cX11_agrees 19 = .ok (.iadd, 1) := by decide +kernel
theorem dX11_agrees_20 : decode cX11_agrees 20 = .ok (.iconst 1, 1) := by decide +kernel
theorem dX11_agrees_21 : decode cX11_agrees 21 = .ok (.iastore, 1) := by decide +kernel
theorem dX11_agrees_22 : decode cX11_agrees 22 = .ok (.iconst 1, 1) := by decide +kernel
theorem dX11_agrees_23 : decode cX11_agrees 23 = .ok (.ireturn, 1) := by decide +kernel
set_option maxHeartbeats 4000000 in
set_option maxRecDepth 100000 in
theorem ctX11_agrees {p1 : Int} {σ : jq_M} {res : Int} {σ' : jq_M}  (h : X11_agrees p1 σ = some (res, σ')) : jq_MC jq_zM yX11_agrees cX11_agrees 2 (some .boolean) 5 124 [jR 0, jI p1] σ (some (jI res)) σ' := by
  refine jq_met (own := RX11) (L0 := [(0, jR 0), (1, jI p1)]) (by decide) rfl rfl rfl ?_
  intro X Γ hnl hlY hRT
  refine jq_use2 (P := fun r => jq_RT jq_zM X (some .boolean) (some (jI r.1)) r.2) ?_ h hRT
  intro K0 hK0
  unfold X11_agrees
  refine jq_aload_n Γ dX11_agrees_0 rfl 0 rfl (jq_at_0 at_M_0) ?_
  refine jq_iload_n Γ dX11_agrees_1 rfl 1 rfl ?_
  refine jq_cpZ (jq_virt (avs := [jI p1]) (st := []) Γ hlY rfl ml_RX11_299 rfl at_M_0 rfl rfl rfl rfl rfl dX11_agrees_2) rfl (fun r h => ctX11_isOpen h) (fun v1 hz2 => ?_)
  refine jq_if_ne (tgt := 10) Γ dX11_agrees_5 rfl ?_ ?_
  · refine jq_aload_n Γ dX11_agrees_10 rfl 0 rfl (jq_at_0 at_M_0) ?_
    refine jq_getR (v := 1) Γ hlY at_M_0 fl_RX11_7 rfl rfl ly_X11_at dX11_agrees_11 ?_
    refine jq_iload_n Γ dX11_agrees_14 rfl 1 rfl ?_
    refine jq_cpI (jq_stat (avs := [jI p1]) (st := [jR 1]) Γ hlY rfl ml_RX11_290 rfl rfl rfl rfl rfl dX11_agrees_15) (fun r h => ctX11_articleRow h) (fun v3 => ?_)
    refine jq_iconst Γ dX11_agrees_18 rfl ?_
    refine jq_iadd Γ dX11_agrees_19 ?_
    refine jq_iconst Γ dX11_agrees_20 rfl ?_
    refine jq_iast Γ at_M_1 rfl dX11_agrees_21 (fun s4 => ?_)
    refine jq_iconst Γ dX11_agrees_22 rfl ?_
    exact jq_zreturn Γ (Or.inr rfl) dX11_agrees_23 (hK0 _)
  · refine jq_iconst Γ dX11_agrees_8 rfl ?_
    exact jq_zreturn Γ (Or.inl rfl) dX11_agrees_9 (hK0 _)


theorem dX11_agree_0 : decode cX11_agree 0 = .ok (.aload_n 0, 1) := by decide +kernel
theorem dX11_agree_1 : decode cX11_agree 1 = .ok (.iload_n 1, 1) := by decide +kernel
theorem dX11_agree_2 : decode cX11_agree 2 = .ok (.invokevirtual 323, 3) := by decide +kernel
theorem dX11_agree_5 : decode cX11_agree 5 = .ok (.ifCond .ne 11, 3) := by decide +kernel
theorem dX11_agree_8 : decode cX11_agree 8 = .ok (.aload_n 0, 1) := by decide +kernel
theorem dX11_agree_9 : decode cX11_agree 9 = .ok (.iconst 1, 1) := by decide +kernel
theorem dX11_agree_10 : decode cX11_agree 10 = .ok (.invokevirtual 84, 3) := by decide +kernel
theorem dX11_agree_13 : decode cX11_agree 13 = .ok (.goto 31, 3) := by decide +kernel
theorem dX11_agree_16 : decode cX11_agree 16 = .ok (.aload_n 0, 1) := by decide +kernel
theorem dX11_agree_17 : decode cX11_agree 17 = .ok (.iload_n 1, 1) := by decide +kernel
theorem dX11_agree_18 : decode cX11_agree 18 = .ok (.invokevirtual 359, 3) := by decide +kernel
theorem dX11_agree_21 : decode cX11_agree 21 = .ok (.ifCond .eq 17, 3) := by decide +kernel
theorem dX11_agree_24 : decode cX11_agree 24 = .ok (.aload_n 0, 1) := by decide +kernel
theorem dX11_agree_25 : decode cX11_agree 25 = .ok (.aload_n 0, 1) := by decide +kernel
theorem dX11_agree_26 : decode cX11_agree 26 = .ok (.invokevirtual 296, 3) := by decide +kernel
theorem dX11_agree_29 : decode cX11_agree 29 = .ok (.invokestatic 350, 3) := by decide +kernel
theorem dX11_agree_32 : decode cX11_agree 32 = .ok (.invokevirtual 88, 3) := by decide +kernel
theorem dX11_agree_35 : decode cX11_agree 35 = .ok (.goto 9, 3) := by decide +kernel
theorem dX11_agree_38 : decode cX11_agree 38 = .ok (.aload_n 0, 1) := by decide +kernel
theorem dX11_agree_39 : decode cX11_agree 39 = .ok (.bipush 7, 2) := by decide +kernel
theorem dX11_agree_41 : decode cX11_agree 41 = .ok (.invokevirtual 84, 3) := by decide +kernel
theorem dX11_agree_44 : decode cX11_agree 44 = .ok (.ireturn, 1) := by decide +kernel
set_option maxHeartbeats 4000000 in
set_option maxRecDepth 100000 in
theorem ctX11_agree {p1 : Int} {σ : jq_M} {res : Int} {σ' : jq_M}  (h : X11_agree p1 σ = some (res, σ')) : jq_MC jq_zM yX11_agree cX11_agree 2 (some .int) 6 145 [jR 0, jI p1] σ (some (jI res)) σ' := by
  refine jq_met (own := RX11) (L0 := [(0, jR 0), (1, jI p1)]) (by decide) rfl rfl rfl ?_
  intro X Γ hnl hlY hRT
  refine jq_use2 (P := fun r => jq_RT jq_zM X (some .int) (some (jI r.1)) r.2) ?_ h hRT
  intro K0 hK0
  unfold X11_agree
  refine jq_aload_n Γ dX11_agree_0 rfl 0 rfl (jq_at_0 at_M_0) ?_
  refine jq_iload_n Γ dX11_agree_1 rfl 1 rfl ?_
  refine jq_cpZ (jq_virt (avs := [jI p1]) (st := []) Γ hlY rfl ml_RX11_323 rfl at_M_0 rfl rfl rfl rfl rfl dX11_agree_2) rfl (fun r h => ctX11_isArticle h) (fun v1 hz2 => ?_)
  refine jq_if_ne (tgt := 16) Γ dX11_agree_5 rfl ?_ ?_
  · refine jq_aload_n Γ dX11_agree_16 rfl 0 rfl (jq_at_0 at_M_0) ?_
    refine jq_iload_n Γ dX11_agree_17 rfl 1 rfl ?_
    refine jq_cwZ (jq_virt (avs := [jI p1]) (st := []) Γ hlY rfl ml_RX11_359 rfl at_M_0 rfl rfl rfl rfl rfl dX11_agree_18) rfl (fun r σ' h => ctX11_agrees h) (fun v3 s4 hz5 => ?_)
    refine jq_if_eq (tgt := 38) Γ dX11_agree_21 rfl ?_ ?_
    · refine jq_aload_n Γ dX11_agree_38 rfl 0 rfl (jq_at_0 at_M_0) ?_
      refine jq_bipush Γ dX11_agree_39 rfl ?_
      refine jq_cwI (jq_virt (avs := [jI 7]) (st := []) Γ hlY rfl ml_RX11_84 rfl at_M_0 rfl rfl rfl rfl rfl dX11_agree_41) (fun r σ' h => ctX11_refuse h) (fun v6 s7 => ?_)
      exact jq_ireturn Γ dX11_agree_44 (hK0 _)
    · refine jq_aload_n Γ dX11_agree_24 rfl 0 rfl (jq_at_0 at_M_0) ?_
      refine jq_aload_n Γ dX11_agree_25 rfl 0 rfl (jq_at_0 at_M_0) ?_
      refine jq_cpI (jq_virt (avs := []) (st := [jR 0]) Γ hlY rfl ml_RX11_296 rfl at_M_0 rfl rfl rfl rfl rfl dX11_agree_26) (fun r h => ctX11_agreedNow h) (fun v8 => ?_)
      refine jq_cpI (jq_stat (avs := [jI v8]) (st := [jR 0]) Γ hlY rfl ml_RX11_350 rfl rfl rfl rfl rfl dX11_agree_29) (fun r h => ctX11_bits h) (fun v9 => ?_)
      refine jq_cwI (jq_virt (avs := [jI v9]) (st := []) Γ hlY rfl ml_RX11_88 rfl at_M_0 rfl rfl rfl rfl rfl dX11_agree_32) (fun r σ' h => ctX11_gives h) (fun v10 s11 => ?_)
      refine jq_goto Γ (tgt := 44) dX11_agree_35 rfl ?_
      exact jq_ireturn Γ dX11_agree_44 (hK0 _)
  · refine jq_aload_n Γ dX11_agree_8 rfl 0 rfl (jq_at_0 at_M_0) ?_
    refine jq_iconst Γ dX11_agree_9 rfl ?_
    refine jq_cwI (jq_virt (avs := [jI 1]) (st := []) Γ hlY rfl ml_RX11_84 rfl at_M_0 rfl rfl rfl rfl rfl dX11_agree_10) (fun r σ' h => ctX11_refuse h) (fun v12 s13 => ?_)
    refine jq_goto Γ (tgt := 44) dX11_agree_13 rfl ?_
    exact jq_ireturn Γ dX11_agree_44 (hK0 _)


theorem dX11_fallsWith_0 : decode cX11_fallsWith 0 = .ok (.iconst 1, 1) := by decide +kernel
theorem dX11_fallsWith_1 : decode cX11_fallsWith 1 = .ok (.iload_n 1, 1) := by decide +kernel
theorem dX11_fallsWith_2 : decode cX11_fallsWith 2 = .ok (.ishl, 1) := by decide +kernel
theorem dX11_fallsWith_3 : decode cX11_fallsWith 3 = .ok (.istore_n 2, 1) := by decide +kernel
theorem dX11_fallsWith_4 : decode cX11_fallsWith 4 = .ok (.iload_n 1, 1) := by decide +kernel
theorem dX11_fallsWith_5 : decode cX11_fallsWith 5 = .ok (.iconst 1, 1) := by decide +kernel
theorem dX11_fallsWith_6 : decode cX11_fallsWith 6 = .ok (.iadd, 1) := by decide +kernel
theorem dX11_fallsWith_7 : decode cX11_fallsWith 7 = .ok (.istore_n 3, 1) := by decide +kernel
theorem dX11_fallsWith_8 : decode cX11_fallsWith 8 = .ok (.iload_n 3, 1) := by decide +kernel
theorem dX11_fallsWith_9 : decode cX11_fallsWith 9 = .ok (.aload_n 0, 1) := by decide +kernel
theorem dX11_fallsWith_10 : decode cX11_fallsWith 10 = .ok (.getfield 7, 3) := by decide +kernel
theorem dX11_fallsWith_13 : decode cX11_fallsWith 13 = .ok (.iconst 3, 1) := by decide +kernel
theorem dX11_fallsWith_14 : decode cX11_fallsWith 14 = .ok (.iaload, 1) := by decide +kernel
theorem dX11_fallsWith_15 : decode cX11_fallsWith 15 = .ok (.if_icmp .ge 35, 3) := by decide +kernel
theorem dX11_fallsWith_18 : decode cX11_fallsWith 18 = .ok (.iload_n 2, 1) := by decide +kernel
theorem dX11_fallsWith_19 : decode cX11_fallsWith 19 = .ok (.aload_n 0, 1) := by decide +kernel
theorem dX11_fallsWith_20 : decode cX11_fallsWith 20 = .ok (.getfield 7, 3) := by decide +kernel
theorem dX11_fallsWith_23 : decode cX11_fallsWith 23 = .ok (.iload_n 3, 1) := by decide +kernel
theorem dX11_fallsWith_24 : decode cX11_fallsWith 24 = .ok (.invokestatic 290, 3) := by decide +kernel
theorem dX11_fallsWith_27 : decode cX11_fallsWith 27 = .ok (.iconst 2, 1) := by decide +kernel
theorem dX11_fallsWith_28 : decode cX11_fallsWith 28 = .ok (.iadd, 1) := by decide +kernel
theorem dX11_fallsWith_29 : decode cX11_fallsWith 29 = .ok (.iaload, 1) := by decide +kernel
theorem dX11_fallsWith_30 : decode cX11_fallsWith 30 = .ok (.iload_n 2, 1) := by decide +kernel
theorem dX11_fallsWith_31 : decode cX11_fallsWith 31 = .ok (.iand, 1) := by decide +kernel
theorem dX11_fallsWith_32 : decode cX11_fallsWith 32 = .ok (.ifCond .eq 9, 3) := by decide +kernel
theorem dX11_fallsWith_35 : decode cX11_fallsWith 35 = .ok (.iconst 1, 1) := by decide +kernel
theorem dX11_fallsWith_36 : decode cX11_fallsWith 36 = .ok (.iload_n 3, 1) := by decide +kernel
theorem dX11_fallsWith_37 : decode cX11_fallsWith 37 = .ok (.ishl, 1) := by decide +kernel
theorem dX11_fallsWith_38 : decode cX11_fallsWith 38 = .ok (.goto 4, 3) := by decide +kernel
theorem dX11_fallsWith_41 : decode cX11_fallsWith 41 = .ok (.iconst 0, 1) := by decide +kernel
theorem dX11_fallsWith_42 : decode cX11_fallsWith 42 = .ok (.ior, 1) := by decide +kernel
theorem dX11_fallsWith_43 : decode cX11_fallsWith 43 = .ok (.istore_n 2, 1) := by decide +kernel
theorem dX11_fallsWith_44 : decode cX11_fallsWith 44 = .ok (.iinc 3 1, 3) := by decide +kernel
theorem dX11_fallsWith_47 : decode cX11_fallsWith 47 = .ok (.goto (-39), 3) := by decide +kernel
theorem dX11_fallsWith_50 : decode cX11_fallsWith 50 = .ok (.iload_n 2, 1) := by decide +kernel
theorem dX11_fallsWith_51 : decode cX11_fallsWith 51 = .ok (.ireturn, 1) := by decide +kernel
set_option maxHeartbeats 4000000 in
set_option maxRecDepth 100000 in
theorem ctX11_fallsWith {p1 : Int} {σ : jq_M} {res : Int}  (h : X11_fallsWith p1 σ = some res) : jq_MC jq_zM yX11_fallsWith cX11_fallsWith 4 (some .int) 2 60 [jR 0, jI p1] σ (some (jI res)) σ := by
  refine jq_met (own := RX11) (L0 := [(0, jR 0), (1, jI p1)]) (by decide) rfl rfl rfl ?_
  intro X Γ hnl hlY hRT
  refine jq_use2 (P := fun r => jq_RT jq_zM X (some .int) (some (jI r)) σ) ?_ h hRT
  intro K0 hK0
  unfold X11_fallsWith
  refine jq_iconst Γ dX11_fallsWith_0 rfl ?_
  refine jq_iload_n Γ dX11_fallsWith_1 rfl 1 rfl ?_
  refine jq_ishl Γ dX11_fallsWith_2 ?_
  refine jq_nmI (fun v1 => ?_)
  refine jq_istore_n (L' := [(2, jI v1), (0, jR 0), (1, jI p1)]) Γ dX11_fallsWith_3 rfl hnl rfl rfl ?_
  refine jq_iload_n Γ dX11_fallsWith_4 rfl 2 rfl ?_
  refine jq_iconst Γ dX11_fallsWith_5 rfl ?_
  refine jq_iadd Γ dX11_fallsWith_6 ?_
  refine jq_nmI (fun v2 => ?_)
  refine jq_istore_n (L' := [(3, jI v2), (2, jI v1), (0, jR 0), (1, jI p1)]) Γ dX11_fallsWith_7 rfl hnl rfl rfl ?_
  refine jq_sub Γ (L' := [(0, jR 0), (2, jI v1), (3, jI v2)]) [2, 1, 0] rfl ?_
  refine jq_loop2 (C := fun (t3 : Int × Int) => jq_V jq_zM X (jq_zN jq_zM) σ 8 [(0, jR 0), (2, jI t3.1), (3, jI t3.2)] []) (KX := fun (e11 : Int) => jq_V jq_zM X (jq_zN jq_zM) σ 50 [(2, jI e11)] []) ?_ ?_ (v1, v2)
  · intro K8_t3 hCt3 hXt3 t3
    unfold X11_fallsWith_b8
    refine jq_iload_n Γ dX11_fallsWith_8 rfl 2 rfl ?_
    refine jq_aload_n Γ dX11_fallsWith_9 rfl 0 rfl (jq_at_0 at_M_0) ?_
    refine jq_getR (v := 1) Γ hlY at_M_0 fl_RX11_7 rfl rfl ly_X11_at dX11_fallsWith_10 ?_
    refine jq_iconst Γ dX11_fallsWith_13 rfl ?_
    refine jq_iald Γ at_M_1 rfl dX11_fallsWith_14 (fun v4 => ?_)
    refine jq_icmp_ge (tgt := 50) Γ dX11_fallsWith_15 rfl ?_ ?_
    · refine jq_sub Γ (L' := [(2, jI t3.1)]) [1] rfl ?_
      exact jq_done (hXt3 t3.1)
    · refine jq_iload_n Γ dX11_fallsWith_18 rfl 1 rfl ?_
      refine jq_aload_n Γ dX11_fallsWith_19 rfl 0 rfl (jq_at_0 at_M_0) ?_
      refine jq_getR (v := 1) Γ hlY at_M_0 fl_RX11_7 rfl rfl ly_X11_at dX11_fallsWith_20 ?_
      refine jq_iload_n Γ dX11_fallsWith_23 rfl 2 rfl ?_
      refine jq_cpI (jq_stat (avs := [jI t3.2]) (st := [jR 1, jI t3.1]) Γ hlY rfl ml_RX11_290 rfl rfl rfl rfl rfl dX11_fallsWith_24) (fun r h => ctX11_articleRow h) (fun v5 => ?_)
      refine jq_iconst Γ dX11_fallsWith_27 rfl ?_
      refine jq_iadd Γ dX11_fallsWith_28 ?_
      refine jq_iald Γ at_M_1 rfl dX11_fallsWith_29 (fun v6 => ?_)
      refine jq_iload_n Γ dX11_fallsWith_30 rfl 1 rfl ?_
      refine jq_iand Γ dX11_fallsWith_31 ?_
      refine jq_if_eq (tgt := 41) Γ dX11_fallsWith_32 rfl ?_ ?_
      · refine jq_iconst Γ dX11_fallsWith_41 rfl ?_
        refine jq_ior Γ dX11_fallsWith_42 ?_
        refine jq_nmI (fun v7 => ?_)
        refine jq_istore_n (L' := [(2, jI v7), (0, jR 0), (3, jI t3.2)]) Γ dX11_fallsWith_43 rfl hnl rfl rfl ?_
        refine jq_iincN (L' := fun v8 => [(3, jI v8), (2, jI v7), (0, jR 0)]) Γ dX11_fallsWith_44 2 rfl hnl rfl (fun _ => rfl) (fun v8 => ?_)
        refine jq_goto Γ (tgt := 8) dX11_fallsWith_47 rfl ?_
        refine jq_sub Γ (L' := [(0, jR 0), (2, jI v7), (3, jI v8)]) [2, 1, 0] rfl ?_
        exact jq_done (hCt3 (v7, v8))
      · refine jq_iconst Γ dX11_fallsWith_35 rfl ?_
        refine jq_iload_n Γ dX11_fallsWith_36 rfl 2 rfl ?_
        refine jq_ishl Γ dX11_fallsWith_37 ?_
        refine jq_goto Γ (tgt := 42) dX11_fallsWith_38 rfl ?_
        refine jq_ior Γ dX11_fallsWith_42 ?_
        refine jq_nmI (fun v9 => ?_)
        refine jq_istore_n (L' := [(2, jI v9), (0, jR 0), (3, jI t3.2)]) Γ dX11_fallsWith_43 rfl hnl rfl rfl ?_
        refine jq_iincN (L' := fun v10 => [(3, jI v10), (2, jI v9), (0, jR 0)]) Γ dX11_fallsWith_44 2 rfl hnl rfl (fun _ => rfl) (fun v10 => ?_)
        refine jq_goto Γ (tgt := 8) dX11_fallsWith_47 rfl ?_
        refine jq_sub Γ (L' := [(0, jR 0), (2, jI v9), (3, jI v10)]) [2, 1, 0] rfl ?_
        exact jq_done (hCt3 (v9, v10))
  · intro e11
    refine jq_iload_n Γ dX11_fallsWith_50 rfl 0 rfl ?_
    exact jq_ireturn Γ dX11_fallsWith_51 (hK0 _)


theorem dX11_fallsNow_0 : decode cX11_fallsNow 0 = .ok (.aload_n 0, 1) := by decide +kernel
theorem dX11_fallsNow_1 : decode cX11_fallsNow 1 = .ok (.iload_n 1, 1) := by decide +kernel
theorem dX11_fallsNow_2 : decode cX11_fallsNow 2 = .ok (.invokevirtual 362, 3) := by decide +kernel
theorem dX11_fallsNow_5 : decode cX11_fallsNow 5 = .ok (.aload_n 0, 1) := by decide +kernel
theorem dX11_fallsNow_6 : decode cX11_fallsNow 6 = .ok (.invokevirtual 296, 3) := by decide +kernel
theorem dX11_fallsNow_9 : decode cX11_fallsNow 9 = .ok (.iand, 1) := by decide +kernel
theorem dX11_fallsNow_10 : decode cX11_fallsNow 10 = .ok (.istore_n 2, 1) := by decide +kernel
theorem dX11_fallsNow_11 : decode cX11_fallsNow 11 = .ok (.iconst 0, 1) := by decide +kernel
theorem dX11_fallsNow_12 : decode cX11_fallsNow 12 = .ok (.istore_n 3, 1) := by decide +kernel
theorem dX11_fallsNow_13 : decode cX11_fallsNow 13 = .ok (.iload_n 3, 1) := by decide +kernel
theorem dX11_fallsNow_14 : decode cX11_fallsNow 14 = .ok (.aload_n 0, 1) := by decide +kernel
theorem dX11_fallsNow_15 : decode cX11_fallsNow 15 = .ok (.getfield 7, 3) := by decide +kernel
theorem dX11_fallsNow_18 : decode cX11_fallsNow 18 = .ok (.iconst 3, 1) := by decide +kernel
theorem dX11_fallsNow_19 : decode cX11_fallsNow 19 = .ok (.iaload, 1) := by decide +kernel
theorem dX11_fallsNow_20 : decode cX11_fallsNow 20 = .ok (.if_icmp .ge 45, 3) := by decide +kernel
theorem dX11_fallsNow_23 : decode cX11_fallsNow 23 = .ok (.aload_n 0, 1) := by decide +kernel
theorem dX11_fallsNow_24 : decode cX11_fallsNow 24 = .ok (.iload_n 2, 1) := by decide +kernel
theorem dX11_fallsNow_25 : decode cX11_fallsNow 25 = .ok (.iload_n 3, 1) := by decide +kernel
theorem dX11_fallsNow_26 : decode cX11_fallsNow 26 = .ok (.invokevirtual 266, 3) := by decide +kernel
theorem dX11_fallsNow_29 : decode cX11_fallsNow 29 = .ok (.ifCond .ne 6, 3) := by decide +kernel
theorem dX11_fallsNow_32 : decode cX11_fallsNow 32 = .ok (.goto 27, 3) := by decide +kernel
theorem dX11_fallsNow_35 : decode cX11_fallsNow 35 = .ok (.aload_n 0, 1) := by decide +kernel
theorem dX11_fallsNow_36 : decode cX11_fallsNow 36 = .ok (.getfield 7, 3) := by decide +kernel
theorem dX11_fallsNow_39 : decode cX11_fallsNow 39 = .ok (.iload_n 3, 1) := by decide +kernel
theorem dX11_fallsNow_40 : decode cX11_fallsNow 40 = .ok (.invokestatic 290, 3) := by decide +kernel
theorem dX11_fallsNow_43 : decode cX11_fallsNow 43 = .ok (.iconst 4, 1) := by decide +kernel
theorem dX11_fallsNow_44 : decode cX11_fallsNow 44 = .ok (.iadd, 1) := by decide +kernel
theorem dX11_fallsNow_45 : decode cX11_fallsNow 45 = .ok (.iconst 0, 1) := by decide +kernel
theorem dX11_fallsNow_46 : decode cX11_fallsNow 46 = .ok (.iastore, 1) := by decide +kernel
theorem dX11_fallsNow_47 : decode cX11_fallsNow 47 = .ok (.aload_n 0, 1) := by decide +kernel
theorem dX11_fallsNow_48 : decode cX11_fallsNow 48 = .ok (.getfield 7, 3) := by decide +kernel
theorem dX11_fallsNow_51 : decode cX11_fallsNow 51 = .ok (.iload_n 3, 1) := by decide +kernel
theorem dX11_fallsNow_52 : decode cX11_fallsNow 52 = .ok (.invokestatic 290, 3) := by decide +kernel
theorem dX11_fallsNow_55 : decode cX11_fallsNow 55 = .ok (.iconst 3, 1) := by decide +kernel
theorem dX11_fallsNow_56 : decode cX11_fallsNow 56 = .ok (.iadd, 1) := by decide +kernel
theorem dX11_fallsNow_57 : decode cX11_fallsNow 57 = .ok (.iconst 0, 1) := by decide +kernel
theorem dX11_fallsNow_58 : decode cX11_fallsNow 58 = .ok (.iastore, 1) := by decide +kernel
theorem dX11_fallsNow_59 : decode cX11_fallsNow 59 = .ok (.iinc 3 1, 3) := by decide +kernel
theorem dX11_fallsNow_62 : decode cX11_fallsNow 62 = .ok (.goto (-49), 3) := by decide +kernel
theorem dX11_fallsNow_65 : decode cX11_fallsNow 65 = .ok (.iload_n 2, 1) := by decide +kernel
theorem dX11_fallsNow_66 : decode cX11_fallsNow 66 = .ok (.invokestatic 350, 3) := by decide +kernel
theorem dX11_fallsNow_69 : decode cX11_fallsNow 69 = .ok (.ireturn, 1) := by decide +kernel
set_option maxHeartbeats 4000000 in
set_option maxRecDepth 100000 in
theorem ctX11_fallsNow {p1 : Int} {σ : jq_M} {res : Int} {σ' : jq_M}  (h : X11_fallsNow p1 σ = some (res, σ')) : jq_MC jq_zM yX11_fallsNow cX11_fallsNow 4 (some .int) 4 103 [jR 0, jI p1] σ (some (jI res)) σ' := by
  refine jq_met (own := RX11) (L0 := [(0, jR 0), (1, jI p1)]) (by decide) rfl rfl rfl ?_
  intro X Γ hnl hlY hRT
  refine jq_use2 (P := fun r => jq_RT jq_zM X (some .int) (some (jI r.1)) r.2) ?_ h hRT
  intro K0 hK0
  unfold X11_fallsNow
  refine jq_aload_n Γ dX11_fallsNow_0 rfl 0 rfl (jq_at_0 at_M_0) ?_
  refine jq_iload_n Γ dX11_fallsNow_1 rfl 1 rfl ?_
  refine jq_cpI (jq_virt (avs := [jI p1]) (st := []) Γ hlY rfl ml_RX11_362 rfl at_M_0 rfl rfl rfl rfl rfl dX11_fallsNow_2) (fun r h => ctX11_fallsWith h) (fun v1 => ?_)
  refine jq_aload_n Γ dX11_fallsNow_5 rfl 0 rfl (jq_at_0 at_M_0) ?_
  refine jq_cpI (jq_virt (avs := []) (st := [jI v1]) Γ hlY rfl ml_RX11_296 rfl at_M_0 rfl rfl rfl rfl rfl dX11_fallsNow_6) (fun r h => ctX11_agreedNow h) (fun v2 => ?_)
  refine jq_iand Γ dX11_fallsNow_9 ?_
  refine jq_nmI (fun v3 => ?_)
  refine jq_istore_n (L' := [(2, jI v3), (0, jR 0), (1, jI p1)]) Γ dX11_fallsNow_10 rfl hnl rfl rfl ?_
  refine jq_iconst Γ dX11_fallsNow_11 rfl ?_
  refine jq_istore_n (L' := [(3, jI 0), (2, jI v3), (0, jR 0), (1, jI p1)]) Γ dX11_fallsNow_12 rfl hnl rfl rfl ?_
  refine jq_sub Γ (L' := [(0, jR 0), (2, jI v3), (3, jI 0)]) [2, 1, 0] rfl ?_
  refine jq_loop2 (C := fun (t4 : Int × jq_M) => jq_V jq_zM X (jq_zN jq_zM) t4.2 13 [(0, jR 0), (2, jI v3), (3, jI t4.1)] []) (KX := fun (e14 : jq_M) => jq_V jq_zM X (jq_zN jq_zM) e14 65 [(2, jI v3)] []) ?_ ?_ (0, σ)
  · intro K13_t4 hCt4 hXt4 t4
    unfold X11_fallsNow_b13
    refine jq_iload_n Γ dX11_fallsNow_13 rfl 2 rfl ?_
    refine jq_aload_n Γ dX11_fallsNow_14 rfl 0 rfl (jq_at_0 at_M_0) ?_
    refine jq_getR (v := 1) Γ hlY at_M_0 fl_RX11_7 rfl rfl ly_X11_at dX11_fallsNow_15 ?_
    refine jq_iconst Γ dX11_fallsNow_18 rfl ?_
    refine jq_iald Γ at_M_1 rfl dX11_fallsNow_19 (fun v5 => ?_)
    refine jq_icmp_ge (tgt := 65) Γ dX11_fallsNow_20 rfl ?_ ?_
    · refine jq_sub Γ (L' := [(2, jI v3)]) [1] rfl ?_
      exact jq_done (hXt4 t4.2)
    · refine jq_aload_n Γ dX11_fallsNow_23 rfl 0 rfl (jq_at_0 at_M_0) ?_
      refine jq_iload_n Γ dX11_fallsNow_24 rfl 1 rfl ?_
      refine jq_iload_n Γ dX11_fallsNow_25 rfl 2 rfl ?_
      refine jq_cpZ (jq_virt (avs := [jI v3, jI t4.1]) (st := []) Γ hlY rfl ml_RX11_266 rfl at_M_0 rfl rfl rfl rfl rfl dX11_fallsNow_26) rfl (fun r h => ctX11_isIn h) (fun v6 hz7 => ?_)
      refine jq_if_ne (tgt := 35) Γ dX11_fallsNow_29 rfl ?_ ?_
      · refine jq_aload_n Γ dX11_fallsNow_35 rfl 0 rfl (jq_at_0 at_M_0) ?_
        refine jq_getR (v := 1) Γ hlY at_M_0 fl_RX11_7 rfl rfl ly_X11_at dX11_fallsNow_36 ?_
        refine jq_iload_n Γ dX11_fallsNow_39 rfl 2 rfl ?_
        refine jq_cpI (jq_stat (avs := [jI t4.1]) (st := [jR 1]) Γ hlY rfl ml_RX11_290 rfl rfl rfl rfl rfl dX11_fallsNow_40) (fun r h => ctX11_articleRow h) (fun v8 => ?_)
        refine jq_iconst Γ dX11_fallsNow_43 rfl ?_
        refine jq_iadd Γ dX11_fallsNow_44 ?_
        refine jq_iconst Γ dX11_fallsNow_45 rfl ?_
        refine jq_iast Γ at_M_1 rfl dX11_fallsNow_46 (fun s9 => ?_)
        refine jq_aload_n Γ dX11_fallsNow_47 rfl 0 rfl (jq_at_0 at_M_0) ?_
        refine jq_getR (v := 1) Γ hlY at_M_0 fl_RX11_7 rfl rfl ly_X11_at dX11_fallsNow_48 ?_
        refine jq_iload_n Γ dX11_fallsNow_51 rfl 2 rfl ?_
        refine jq_cpI (jq_stat (avs := [jI t4.1]) (st := [jR 1]) Γ hlY rfl ml_RX11_290 rfl rfl rfl rfl rfl dX11_fallsNow_52) (fun r h => ctX11_articleRow h) (fun v10 => ?_)
        refine jq_iconst Γ dX11_fallsNow_55 rfl ?_
        refine jq_iadd Γ dX11_fallsNow_56 ?_
        refine jq_iconst Γ dX11_fallsNow_57 rfl ?_
        refine jq_iast Γ at_M_1 rfl dX11_fallsNow_58 (fun s11 => ?_)
        refine jq_iincN (L' := fun v12 => [(3, jI v12), (0, jR 0), (2, jI v3)]) Γ dX11_fallsNow_59 2 rfl hnl rfl (fun _ => rfl) (fun v12 => ?_)
        refine jq_goto Γ (tgt := 13) dX11_fallsNow_62 rfl ?_
        refine jq_sub Γ (L' := [(0, jR 0), (2, jI v3), (3, jI v12)]) [1, 2, 0] rfl ?_
        exact jq_done (hCt4 (v12, s11))
      · refine jq_goto Γ (tgt := 59) dX11_fallsNow_32 rfl ?_
        refine jq_iincN (L' := fun v13 => [(3, jI v13), (0, jR 0), (2, jI v3)]) Γ dX11_fallsNow_59 2 rfl hnl rfl (fun _ => rfl) (fun v13 => ?_)
        refine jq_goto Γ (tgt := 13) dX11_fallsNow_62 rfl ?_
        refine jq_sub Γ (L' := [(0, jR 0), (2, jI v3), (3, jI v13)]) [1, 2, 0] rfl ?_
        exact jq_done (hCt4 (v13, t4.2))
  · intro e14
    refine jq_iload_n Γ dX11_fallsNow_65 rfl 0 rfl ?_
    refine jq_cpI (jq_stat (avs := [jI v3]) (st := []) Γ hlY rfl ml_RX11_350 rfl rfl rfl rfl rfl dX11_fallsNow_66) (fun r h => ctX11_bits h) (fun v15 => ?_)
    exact jq_ireturn Γ dX11_fallsNow_69 (hK0 _)


theorem dX11_withdraw_0 : decode cX11_withdraw 0 = .ok (.aload_n 0, 1) := by decide +kernel
theorem dX11_withdraw_1 : decode cX11_withdraw 1 = .ok (.iload_n 1, 1) := by decide +kernel
theorem dX11_withdraw_2 : decode cX11_withdraw 2 = .ok (.invokevirtual 323, 3) := by decide +kernel
theorem dX11_withdraw_5 : decode cX11_withdraw 5 = .ok (.ifCond .ne 11, 3) := by decide +kernel
theorem dX11_withdraw_8 : decode cX11_withdraw 8 = .ok (.aload_n 0, 1) := by decide +kernel
theorem dX11_withdraw_9 : decode cX11_withdraw 9 = .ok (.iconst 1, 1) := by decide +kernel
theorem dX11_withdraw_10 : decode cX11_withdraw 10 = .ok (.invokevirtual 84, 3) := by decide +kernel
theorem dX11_withdraw_13 : decode cX11_withdraw 13 = .ok (.goto 29, 3) := by decide +kernel
theorem dX11_withdraw_16 : decode cX11_withdraw 16 = .ok (.aload_n 0, 1) := by decide +kernel
theorem dX11_withdraw_17 : decode cX11_withdraw 17 = .ok (.iload_n 1, 1) := by decide +kernel
theorem dX11_withdraw_18 : decode cX11_withdraw 18 = .ok (.invokevirtual 293, 3) := by decide +kernel
theorem dX11_withdraw_21 : decode cX11_withdraw 21 = .ok (.ifCond .eq 15, 3) := by decide +kernel
theorem dX11_withdraw_24 : decode cX11_withdraw 24 = .ok (.aload_n 0, 1) := by decide +kernel
theorem dX11_withdraw_25 : decode cX11_withdraw 25 = .ok (.aload_n 0, 1) := by decide +kernel
theorem dX11_withdraw_26 : decode cX11_withdraw 26 = .ok (.iload_n 1, 1) := by decide +kernel
theorem dX11_withdraw_27 : decode cX11_withdraw 27 = .ok (.invokevirtual 365, 3) := by decide +kernel
theorem dX11_withdraw_30 : decode cX11_withdraw 30 = .ok (.invokevirtual 88, 3) := by decide +kernel
theorem dX11_withdraw_33 : decode cX11_withdraw 33 = .ok (.goto 9, 3) := by decide +kernel
theorem dX11_withdraw_36 : decode cX11_withdraw 36 = .ok (.aload_n 0, 1) := by decide +kernel
theorem dX11_withdraw_37 : decode cX11_withdraw 37 = .ok (.bipush 7, 2) := by decide +kernel
theorem dX11_withdraw_39 : decode cX11_withdraw 39 = .ok (.invokevirtual 84, 3) := by decide +kernel
theorem dX11_withdraw_42 : decode cX11_withdraw 42 = .ok (.ireturn, 1) := by decide +kernel
set_option maxHeartbeats 4000000 in
set_option maxRecDepth 100000 in
theorem ctX11_withdraw {p1 : Int} {σ : jq_M} {res : Int} {σ' : jq_M}  (h : X11_withdraw p1 σ = some (res, σ')) : jq_MC jq_zM yX11_withdraw cX11_withdraw 2 (some .int) 5 126 [jR 0, jI p1] σ (some (jI res)) σ' := by
  refine jq_met (own := RX11) (L0 := [(0, jR 0), (1, jI p1)]) (by decide) rfl rfl rfl ?_
  intro X Γ hnl hlY hRT
  refine jq_use2 (P := fun r => jq_RT jq_zM X (some .int) (some (jI r.1)) r.2) ?_ h hRT
  intro K0 hK0
  unfold X11_withdraw
  refine jq_aload_n Γ dX11_withdraw_0 rfl 0 rfl (jq_at_0 at_M_0) ?_
  refine jq_iload_n Γ dX11_withdraw_1 rfl 1 rfl ?_
  refine jq_cpZ (jq_virt (avs := [jI p1]) (st := []) Γ hlY rfl ml_RX11_323 rfl at_M_0 rfl rfl rfl rfl rfl dX11_withdraw_2) rfl (fun r h => ctX11_isArticle h) (fun v1 hz2 => ?_)
  refine jq_if_ne (tgt := 16) Γ dX11_withdraw_5 rfl ?_ ?_
  · refine jq_aload_n Γ dX11_withdraw_16 rfl 0 rfl (jq_at_0 at_M_0) ?_
    refine jq_iload_n Γ dX11_withdraw_17 rfl 1 rfl ?_
    refine jq_cpZ (jq_virt (avs := [jI p1]) (st := []) Γ hlY rfl ml_RX11_293 rfl at_M_0 rfl rfl rfl rfl rfl dX11_withdraw_18) rfl (fun r h => ctX11_isAgreed h) (fun v3 hz4 => ?_)
    refine jq_if_eq (tgt := 36) Γ dX11_withdraw_21 rfl ?_ ?_
    · refine jq_aload_n Γ dX11_withdraw_36 rfl 0 rfl (jq_at_0 at_M_0) ?_
      refine jq_bipush Γ dX11_withdraw_37 rfl ?_
      refine jq_cwI (jq_virt (avs := [jI 7]) (st := []) Γ hlY rfl ml_RX11_84 rfl at_M_0 rfl rfl rfl rfl rfl dX11_withdraw_39) (fun r σ' h => ctX11_refuse h) (fun v5 s6 => ?_)
      exact jq_ireturn Γ dX11_withdraw_42 (hK0 _)
    · refine jq_aload_n Γ dX11_withdraw_24 rfl 0 rfl (jq_at_0 at_M_0) ?_
      refine jq_aload_n Γ dX11_withdraw_25 rfl 0 rfl (jq_at_0 at_M_0) ?_
      refine jq_iload_n Γ dX11_withdraw_26 rfl 1 rfl ?_
      refine jq_cwI (jq_virt (avs := [jI p1]) (st := [jR 0]) Γ hlY rfl ml_RX11_365 rfl at_M_0 rfl rfl rfl rfl rfl dX11_withdraw_27) (fun r σ' h => ctX11_fallsNow h) (fun v7 s8 => ?_)
      refine jq_cwI (jq_virt (avs := [jI v7]) (st := []) Γ hlY rfl ml_RX11_88 rfl at_M_0 rfl rfl rfl rfl rfl dX11_withdraw_30) (fun r σ' h => ctX11_gives h) (fun v9 s10 => ?_)
      refine jq_goto Γ (tgt := 42) dX11_withdraw_33 rfl ?_
      exact jq_ireturn Γ dX11_withdraw_42 (hK0 _)
  · refine jq_aload_n Γ dX11_withdraw_8 rfl 0 rfl (jq_at_0 at_M_0) ?_
    refine jq_iconst Γ dX11_withdraw_9 rfl ?_
    refine jq_cwI (jq_virt (avs := [jI 1]) (st := []) Γ hlY rfl ml_RX11_84 rfl at_M_0 rfl rfl rfl rfl rfl dX11_withdraw_10) (fun r σ' h => ctX11_refuse h) (fun v11 s12 => ?_)
    refine jq_goto Γ (tgt := 42) dX11_withdraw_13 rfl ?_
    exact jq_ireturn Γ dX11_withdraw_42 (hK0 _)


theorem dX11_insist_0 : decode cX11_insist 0 = .ok (.aload_n 0, 1) := by decide +kernel
theorem dX11_insist_1 : decode cX11_insist 1 = .ok (.iload_n 1, 1) := by decide +kernel
theorem dX11_insist_2 : decode cX11_insist 2 = .ok (.invokevirtual 251, 3) := by decide +kernel
theorem dX11_insist_5 : decode cX11_insist 5 = .ok (.ifCond .eq 15, 3) := by decide +kernel
theorem dX11_insist_8 : decode cX11_insist 8 = .ok (.iload_n 2, 1) := by decide +kernel
theorem dX11_insist_9 : decode cX11_insist 9 = .ok (.i2l, 1) := by decide +kernel
theorem dX11_insist_10 : decode cX11_insist 10 = .ok (.lconst 0, 1) := by decide +kernel
theorem dX11_insist_11 : decode cX11_insist 11 = .ok (.ldc2_w 368, 3) := by decide +kernel
theorem dX11_insist_14 : decode cX11_insist 14 = .ok (.invokestatic 343, 3) := by decide +kernel
theorem dX11_insist_17 : decode cX11_insist 17 = .ok (.ifCond .ne 9, 3) := by decide +kernel
theorem dX11_insist_20 : decode cX11_insist 20 = .ok (.aload_n 0, 1) := by decide +kernel
theorem dX11_insist_21 : decode cX11_insist 21 = .ok (.iconst 1, 1) := by decide +kernel
theorem dX11_insist_22 : decode cX11_insist 22 = .ok (.invokevirtual 91, 3) := by decide +kernel
theorem dX11_insist_25 : decode cX11_insist 25 = .ok (.ireturn, 1) := by decide +kernel
theorem dX11_insist_26 : decode cX11_insist 26 = .ok (.aload_n 0, 1) := by decide +kernel
theorem dX11_insist_27 : decode cX11_insist 27 = .ok (.getfield 7, 3) := by decide +kernel
theorem dX11_insist_30 : decode cX11_insist 30 = .ok (.iload_n 1, 1) := by decide +kernel
theorem dX11_insist_31 : decode cX11_insist 31 = .ok (.invokestatic 254, 3) := by decide +kernel
theorem dX11_insist_34 : decode cX11_insist 34 = .ok (.iload_n 2, 1) := by decide +kernel
theorem dX11_insist_35 : decode cX11_insist 35 = .ok (.iastore, 1) := by decide +kernel
theorem dX11_insist_36 : decode cX11_insist 36 = .ok (.aload_n 0, 1) := by decide +kernel
theorem dX11_insist_37 : decode cX11_insist 37 = .ok (.iconst 0, 1) := by decide +kernel
theorem dX11_insist_38 : decode cX11_insist 38 = .ok (.invokevirtual 91, 3) := by decide +kernel
theorem dX11_insist_41 : decode cX11_insist 41 = .ok (.ireturn, 1) := by decide +kernel
set_option maxHeartbeats 4000000 in
set_option maxRecDepth 100000 in
theorem ctX11_insist {p1 : Int} {p2 : Int} {σ : jq_M} {res : Int} {σ' : jq_M}  (h : X11_insist p1 p2 σ = some (res, σ')) : jq_MC jq_zM yX11_insist cX11_insist 3 (some .boolean) 2 65 [jR 0, jI p1, jI p2] σ (some (jI res)) σ' := by
  refine jq_met (own := RX11) (L0 := [(0, jR 0), (1, jI p1), (2, jI p2)]) (by decide) rfl rfl rfl ?_
  intro X Γ hnl hlY hRT
  refine jq_use2 (P := fun r => jq_RT jq_zM X (some .boolean) (some (jI r.1)) r.2) ?_ h hRT
  intro K0 hK0
  unfold X11_insist
  have hj20_0 : ∀ (s3 : jq_M), jq_J (X11_insist_j20 s3) K0 (jq_V jq_zM X (jq_zN jq_zM) s3 20 [(0, jR 0)] []) := by
    intro s3
    unfold X11_insist_j20
    refine jq_aload_n Γ dX11_insist_20 rfl 0 rfl (jq_at_0 at_M_0) ?_
    refine jq_iconst Γ dX11_insist_21 rfl ?_
    refine jq_cwZ (jq_virt (avs := [jI 1]) (st := []) Γ hlY rfl ml_RX11_91 rfl at_M_0 rfl rfl rfl rfl rfl dX11_insist_22) rfl (fun r σ' h => ctX11_is h) (fun v4 s5 hz6 => ?_)
    exact jq_zreturn Γ (hz6) dX11_insist_25 (hK0 _)
  refine jq_aload_n Γ dX11_insist_0 rfl 0 rfl (jq_at_0 at_M_0) ?_
  refine jq_iload_n Γ dX11_insist_1 rfl 1 rfl ?_
  refine jq_cpZ (jq_virt (avs := [jI p1]) (st := []) Γ hlY rfl ml_RX11_251 rfl at_M_0 rfl rfl rfl rfl rfl dX11_insist_2) rfl (fun r h => ctX11_isParty h) (fun v1 hz2 => ?_)
  refine jq_if_eq (tgt := 20) Γ dX11_insist_5 rfl ?_ ?_
  · refine jq_sub Γ (L' := [(0, jR 0)]) [0] rfl ?_
    exact hj20_0 σ
  · refine jq_iload_n Γ dX11_insist_8 rfl 2 rfl ?_
    refine jq_i2l Γ dX11_insist_9 ?_
    refine jq_lconst Γ 0 dX11_insist_10 rfl rfl ?_
    refine jq_ldc2 Γ 50 dX11_insist_11 kc_RX11_368 rfl ?_
    refine jq_cpZ (jq_stat (avs := [jL p2, jL 0, jL 50]) (st := []) Γ hlY rfl ml_RX11_343 rfl rfl rfl rfl rfl dX11_insist_14) rfl (fun r h => ctX11_isFrom h) (fun v7 hz8 => ?_)
    refine jq_if_ne (tgt := 26) Γ dX11_insist_17 rfl ?_ ?_
    · refine jq_aload_n Γ dX11_insist_26 rfl 0 rfl (jq_at_0 at_M_0) ?_
      refine jq_getR (v := 1) Γ hlY at_M_0 fl_RX11_7 rfl rfl ly_X11_at dX11_insist_27 ?_
      refine jq_iload_n Γ dX11_insist_30 rfl 1 rfl ?_
      refine jq_cpI (jq_stat (avs := [jI p1]) (st := [jR 1]) Γ hlY rfl ml_RX11_254 rfl rfl rfl rfl rfl dX11_insist_31) (fun r h => ctX11_partyRow h) (fun v9 => ?_)
      refine jq_iload_n Γ dX11_insist_34 rfl 2 rfl ?_
      refine jq_iast Γ at_M_1 rfl dX11_insist_35 (fun s10 => ?_)
      refine jq_aload_n Γ dX11_insist_36 rfl 0 rfl (jq_at_0 at_M_0) ?_
      refine jq_iconst Γ dX11_insist_37 rfl ?_
      refine jq_cwZ (jq_virt (avs := [jI 0]) (st := []) Γ hlY rfl ml_RX11_91 rfl at_M_0 rfl rfl rfl rfl rfl dX11_insist_38) rfl (fun r σ' h => ctX11_is h) (fun v11 s12 hz13 => ?_)
      exact jq_zreturn Γ (hz13) dX11_insist_41 (hK0 _)
    · refine jq_sub Γ (L' := [(0, jR 0)]) [0] rfl ?_
      exact hj20_0 σ


theorem dX11_value_0 : decode cX11_value 0 = .ok (.iload_n 1, 1) := by decide +kernel
theorem dX11_value_1 : decode cX11_value 1 = .ok (.ifCond .lt 31, 3) := by decide +kernel
theorem dX11_value_4 : decode cX11_value 4 = .ok (.iload_n 1, 1) := by decide +kernel
theorem dX11_value_5 : decode cX11_value 5 = .ok (.aload_n 0, 1) := by decide +kernel
theorem dX11_value_6 : decode cX11_value 6 = .ok (.getfield 7, 3) := by decide +kernel
theorem dX11_value_9 : decode cX11_value 9 = .ok (.iconst 2, 1) := by decide +kernel
theorem dX11_value_10 : decode cX11_value 10 = .ok (.iaload, 1) := by decide +kernel
theorem dX11_value_11 : decode cX11_value 11 = .ok (.if_icmp .ge 21, 3) := by decide +kernel
theorem dX11_value_14 : decode cX11_value 14 = .ok (.iload_n 2, 1) := by decide +kernel
theorem dX11_value_15 : decode cX11_value 15 = .ok (.i2l, 1) := by decide +kernel
theorem dX11_value_16 : decode cX11_value 16 = .ok (.ldc2_w 370, 3) := by decide +kernel
theorem dX11_value_19 : decode cX11_value 19 = .ok (.ldc2_w 372, 3) := by decide +kernel
theorem dX11_value_22 : decode cX11_value 22 = .ok (.invokestatic 343, 3) := by decide +kernel
theorem dX11_value_25 : decode cX11_value 25 = .ok (.ifCond .eq 7, 3) := by decide +kernel
theorem dX11_value_28 : decode cX11_value 28 = .ok (.iload_n 2, 1) := by decide +kernel
theorem dX11_value_29 : decode cX11_value 29 = .ok (.ifCond .ne 9, 3) := by decide +kernel
theorem dX11_value_32 : decode cX11_value 32 = .ok (.aload_n 0, 1) := by decide +kernel
theorem dX11_value_33 : decode cX11_value 33 = .ok (.iconst 1, 1) := by decide +kernel
theorem dX11_value_34 : decode cX11_value 34 = .ok (.invokevirtual 91, 3) := by decide +kernel
theorem dX11_value_37 : decode cX11_value 37 = .ok (.ireturn, 1) := by decide +kernel
theorem dX11_value_38 : decode cX11_value 38 = .ok (.aload_n 0, 1) := by decide +kernel
theorem dX11_value_39 : decode cX11_value 39 = .ok (.getfield 7, 3) := by decide +kernel
theorem dX11_value_42 : decode cX11_value 42 = .ok (.iload_n 1, 1) := by decide +kernel
theorem dX11_value_43 : decode cX11_value 43 = .ok (.invokestatic 263, 3) := by decide +kernel
theorem dX11_value_46 : decode cX11_value 46 = .ok (.iconst 3, 1) := by decide +kernel
theorem dX11_value_47 : decode cX11_value 47 = .ok (.iadd, 1) := by decide +kernel
theorem dX11_value_48 : decode cX11_value 48 = .ok (.iload_n 2, 1) := by decide +kernel
theorem dX11_value_49 : decode cX11_value 49 = .ok (.iastore, 1) := by decide +kernel
theorem dX11_value_50 : decode cX11_value 50 = .ok (.aload_n 0, 1) := by decide +kernel
theorem dX11_value_51 : decode cX11_value 51 = .ok (.iconst 0, 1) := by decide +kernel
theorem dX11_value_52 : decode cX11_value 52 = .ok (.invokevirtual 91, 3) := by decide +kernel
theorem dX11_value_55 : decode cX11_value 55 = .ok (.ireturn, 1) := by decide +kernel
set_option maxHeartbeats 4000000 in
set_option maxRecDepth 100000 in
theorem ctX11_value {p1 : Int} {p2 : Int} {σ : jq_M} {res : Int} {σ' : jq_M}  (h : X11_value p1 p2 σ = some (res, σ')) : jq_MC jq_zM yX11_value cX11_value 3 (some .boolean) 2 65 [jR 0, jI p1, jI p2] σ (some (jI res)) σ' := by
  refine jq_met (own := RX11) (L0 := [(0, jR 0), (1, jI p1), (2, jI p2)]) (by decide) rfl rfl rfl ?_
  intro X Γ hnl hlY hRT
  refine jq_use2 (P := fun r => jq_RT jq_zM X (some .boolean) (some (jI r.1)) r.2) ?_ h hRT
  intro K0 hK0
  unfold X11_value
  have hj32_0 : ∀ (s1 : jq_M), jq_J (X11_value_j32 s1) K0 (jq_V jq_zM X (jq_zN jq_zM) s1 32 [(0, jR 0)] []) := by
    intro s1
    unfold X11_value_j32
    refine jq_aload_n Γ dX11_value_32 rfl 0 rfl (jq_at_0 at_M_0) ?_
    refine jq_iconst Γ dX11_value_33 rfl ?_
    refine jq_cwZ (jq_virt (avs := [jI 1]) (st := []) Γ hlY rfl ml_RX11_91 rfl at_M_0 rfl rfl rfl rfl rfl dX11_value_34) rfl (fun r σ' h => ctX11_is h) (fun v2 s3 hz4 => ?_)
    exact jq_zreturn Γ (hz4) dX11_value_37 (hK0 _)
  refine jq_iload_n Γ dX11_value_0 rfl 1 rfl ?_
  refine jq_if_lt (tgt := 32) Γ dX11_value_1 rfl ?_ ?_
  · refine jq_sub Γ (L' := [(0, jR 0)]) [0] rfl ?_
    exact hj32_0 σ
  · refine jq_iload_n Γ dX11_value_4 rfl 1 rfl ?_
    refine jq_aload_n Γ dX11_value_5 rfl 0 rfl (jq_at_0 at_M_0) ?_
    refine jq_getR (v := 1) Γ hlY at_M_0 fl_RX11_7 rfl rfl ly_X11_at dX11_value_6 ?_
    refine jq_iconst Γ dX11_value_9 rfl ?_
    refine jq_iald Γ at_M_1 rfl dX11_value_10 (fun v5 => ?_)
    refine jq_icmp_ge (tgt := 32) Γ dX11_value_11 rfl ?_ ?_
    · refine jq_sub Γ (L' := [(0, jR 0)]) [0] rfl ?_
      exact hj32_0 σ
    · refine jq_iload_n Γ dX11_value_14 rfl 2 rfl ?_
      refine jq_i2l Γ dX11_value_15 ?_
      refine jq_ldc2 Γ (-9) dX11_value_16 kc_RX11_370 rfl ?_
      refine jq_ldc2 Γ 9 dX11_value_19 kc_RX11_372 rfl ?_
      refine jq_cpZ (jq_stat (avs := [jL p2, jL (-9), jL 9]) (st := []) Γ hlY rfl ml_RX11_343 rfl rfl rfl rfl rfl dX11_value_22) rfl (fun r h => ctX11_isFrom h) (fun v6 hz7 => ?_)
      refine jq_if_eq (tgt := 32) Γ dX11_value_25 rfl ?_ ?_
      · refine jq_sub Γ (L' := [(0, jR 0)]) [0] rfl ?_
        exact hj32_0 σ
      · refine jq_iload_n Γ dX11_value_28 rfl 2 rfl ?_
        refine jq_if_ne (tgt := 38) Γ dX11_value_29 rfl ?_ ?_
        · refine jq_aload_n Γ dX11_value_38 rfl 0 rfl (jq_at_0 at_M_0) ?_
          refine jq_getR (v := 1) Γ hlY at_M_0 fl_RX11_7 rfl rfl ly_X11_at dX11_value_39 ?_
          refine jq_iload_n Γ dX11_value_42 rfl 1 rfl ?_
          refine jq_cpI (jq_stat (avs := [jI p1]) (st := [jR 1]) Γ hlY rfl ml_RX11_263 rfl rfl rfl rfl rfl dX11_value_43) (fun r h => ctX11_wishRow h) (fun v8 => ?_)
          refine jq_iconst Γ dX11_value_46 rfl ?_
          refine jq_iadd Γ dX11_value_47 ?_
          refine jq_iload_n Γ dX11_value_48 rfl 2 rfl ?_
          refine jq_iast Γ at_M_1 rfl dX11_value_49 (fun s9 => ?_)
          refine jq_aload_n Γ dX11_value_50 rfl 0 rfl (jq_at_0 at_M_0) ?_
          refine jq_iconst Γ dX11_value_51 rfl ?_
          refine jq_cwZ (jq_virt (avs := [jI 0]) (st := []) Γ hlY rfl ml_RX11_91 rfl at_M_0 rfl rfl rfl rfl rfl dX11_value_52) rfl (fun r σ' h => ctX11_is h) (fun v10 s11 hz12 => ?_)
          exact jq_zreturn Γ (hz12) dX11_value_55 (hK0 _)
        · refine jq_sub Γ (L' := [(0, jR 0)]) [0] rfl ?_
          exact hj32_0 σ


theorem dX11_carve_0 : decode cX11_carve 0 = .ok (.aload_n 0, 1) := by decide +kernel
theorem dX11_carve_1 : decode cX11_carve 1 = .ok (.iload_n 1, 1) := by decide +kernel
theorem dX11_carve_2 : decode cX11_carve 2 = .ok (.invokevirtual 314, 3) := by decide +kernel
theorem dX11_carve_5 : decode cX11_carve 5 = .ok (.ifCond .ne 9, 3) := by decide +kernel
theorem dX11_carve_8 : decode cX11_carve 8 = .ok (.aload_n 0, 1) := by decide +kernel
theorem dX11_carve_9 : decode cX11_carve 9 = .ok (.iconst 1, 1) := by decide +kernel
theorem dX11_carve_10 : decode cX11_carve 10 = .ok (.invokevirtual 91, 3) := by decide +kernel
theorem dX11_carve_13 : decode cX11_carve 13 = .ok (.ireturn, 1) := by decide +kernel
theorem dX11_carve_14 : decode cX11_carve 14 = .ok (.aload_n 0, 1) := by decide +kernel
theorem dX11_carve_15 : decode cX11_carve 15 = .ok (.aload_n 0, 1) := by decide +kernel
theorem dX11_carve_16 : decode cX11_carve 16 = .ok (.getfield 7, 3) := by decide +kernel
theorem dX11_carve_19 : decode cX11_carve 19 = .ok (.iconst 5, 1) := by decide +kernel
theorem dX11_carve_20 : decode cX11_carve 20 = .ok (.iaload, 1) := by decide +kernel
theorem dX11_carve_21 : decode cX11_carve 21 = .ok (.iload_n 1, 1) := by decide +kernel
theorem dX11_carve_22 : decode cX11_carve 22 = .ok (.invokevirtual 266, 3) := by decide +kernel
theorem dX11_carve_25 : decode cX11_carve 25 = .ok (.iload_n 2, 1) := by decide +kernel
theorem dX11_carve_26 : decode cX11_carve 26 = .ok (.if_icmp .ne 10, 3) := by decide +kernel
theorem dX11_carve_29 : decode cX11_carve 29 = .ok (.aload_n 0, 1) := by decide +kernel
theorem dX11_carve_30 : decode cX11_carve 30 = .ok (.bipush 7, 2) := by decide +kernel
theorem dX11_carve_32 : decode cX11_carve 32 = .ok (.invokevirtual 91, 3) := by decide +kernel
theorem dX11_carve_35 : decode cX11_carve 35 = .ok (.ireturn, 1) := by decide +kernel
theorem dX11_carve_36 : decode cX11_carve 36 = .ok (.aload_n 0, 1) := by decide +kernel
theorem dX11_carve_37 : decode cX11_carve 37 = .ok (.getfield 7, 3) := by decide +kernel
theorem dX11_carve_40 : decode cX11_carve 40 = .ok (.iconst 5, 1) := by decide +kernel
theorem dX11_carve_41 : decode cX11_carve 41 = .ok (.dup2, 1) := by decide +kernel
theorem dX11_carve_42 : decode cX11_carve 42 = .ok (.iaload, 1) := by decide +kernel
theorem dX11_carve_43 : decode cX11_carve 43 = .ok (.iconst 1, 1) := by decide +kernel
theorem dX11_carve_44 : decode cX11_carve 44 = .ok (.iload_n 1, 1) := by decide +kernel
theorem dX11_carve_45 : decode cX11_carve 45 = .ok (.ishl, 1) := by decide +kernel
theorem dX11_carve_46 : decode cX11_carve 46 = .ok (.ixor, 1) := by decide +kernel
theorem dX11_carve_47 : decode cX11_carve 47 = .ok (.iastore, 1) := by decide +kernel
theorem dX11_carve_48 : decode cX11_carve 48 = .ok (.aload_n 0, 1) := by decide +kernel
theorem dX11_carve_49 : decode cX11_carve 49 = .ok (.iconst 0, 1) := by decide +kernel
theorem dX11_carve_50 : decode cX11_carve 50 = .ok (.invokevirtual 91, 3) := by decide +kernel
theorem dX11_carve_53 : decode cX11_carve 53 = .ok (.ireturn, 1) := by decide +kernel
set_option maxHeartbeats 4000000 in
set_option maxRecDepth 100000 in
theorem ctX11_carve {p1 : Int} {p2 : Int} {σ : jq_M} {res : Int} {σ' : jq_M}  (h : X11_carve p1 p2 σ = some (res, σ')) : jq_MC jq_zM yX11_carve cX11_carve 3 (some .boolean) 2 62 [jR 0, jI p1, jI p2] σ (some (jI res)) σ' := by
  refine jq_met (own := RX11) (L0 := [(0, jR 0), (1, jI p1), (2, jI p2)]) (by decide) rfl rfl rfl ?_
  intro X Γ hnl hlY hRT
  refine jq_use2 (P := fun r => jq_RT jq_zM X (some .boolean) (some (jI r.1)) r.2) ?_ h hRT
  intro K0 hK0
  unfold X11_carve
  refine jq_aload_n Γ dX11_carve_0 rfl 0 rfl (jq_at_0 at_M_0) ?_
  refine jq_iload_n Γ dX11_carve_1 rfl 1 rfl ?_
  refine jq_cpZ (jq_virt (avs := [jI p1]) (st := []) Γ hlY rfl ml_RX11_314 rfl at_M_0 rfl rfl rfl rfl rfl dX11_carve_2) rfl (fun r h => ctX11_isPlace h) (fun v1 hz2 => ?_)
  refine jq_if_ne (tgt := 14) Γ dX11_carve_5 rfl ?_ ?_
  · refine jq_aload_n Γ dX11_carve_14 rfl 0 rfl (jq_at_0 at_M_0) ?_
    refine jq_aload_n Γ dX11_carve_15 rfl 0 rfl (jq_at_0 at_M_0) ?_
    refine jq_getR (v := 1) Γ hlY at_M_0 fl_RX11_7 rfl rfl ly_X11_at dX11_carve_16 ?_
    refine jq_iconst Γ dX11_carve_19 rfl ?_
    refine jq_iald Γ at_M_1 rfl dX11_carve_20 (fun v3 => ?_)
    refine jq_iload_n Γ dX11_carve_21 rfl 1 rfl ?_
    refine jq_cpZ (jq_virt (avs := [jI v3, jI p1]) (st := []) Γ hlY rfl ml_RX11_266 rfl at_M_0 rfl rfl rfl rfl rfl dX11_carve_22) rfl (fun r h => ctX11_isIn h) (fun v4 hz5 => ?_)
    refine jq_iload_n Γ dX11_carve_25 rfl 2 rfl ?_
    refine jq_icmp_ne (tgt := 36) Γ dX11_carve_26 rfl ?_ ?_
    · refine jq_aload_n Γ dX11_carve_36 rfl 0 rfl (jq_at_0 at_M_0) ?_
      refine jq_getR (v := 1) Γ hlY at_M_0 fl_RX11_7 rfl rfl ly_X11_at dX11_carve_37 ?_
      refine jq_iconst Γ dX11_carve_40 rfl ?_
      refine jq_dup2 Γ dX11_carve_41 rfl rfl ?_
      refine jq_iald Γ at_M_1 rfl dX11_carve_42 (fun v6 => ?_)
      refine jq_iconst Γ dX11_carve_43 rfl ?_
      refine jq_iload_n Γ dX11_carve_44 rfl 1 rfl ?_
      refine jq_ishl Γ dX11_carve_45 ?_
      refine jq_ixor Γ dX11_carve_46 ?_
      refine jq_iast Γ at_M_1 rfl dX11_carve_47 (fun s7 => ?_)
      refine jq_aload_n Γ dX11_carve_48 rfl 0 rfl (jq_at_0 at_M_0) ?_
      refine jq_iconst Γ dX11_carve_49 rfl ?_
      refine jq_cwZ (jq_virt (avs := [jI 0]) (st := []) Γ hlY rfl ml_RX11_91 rfl at_M_0 rfl rfl rfl rfl rfl dX11_carve_50) rfl (fun r σ' h => ctX11_is h) (fun v8 s9 hz10 => ?_)
      exact jq_zreturn Γ (hz10) dX11_carve_53 (hK0 _)
    · refine jq_aload_n Γ dX11_carve_29 rfl 0 rfl (jq_at_0 at_M_0) ?_
      refine jq_bipush Γ dX11_carve_30 rfl ?_
      refine jq_cwZ (jq_virt (avs := [jI 7]) (st := []) Γ hlY rfl ml_RX11_91 rfl at_M_0 rfl rfl rfl rfl rfl dX11_carve_32) rfl (fun r σ' h => ctX11_is h) (fun v11 s12 hz13 => ?_)
      exact jq_zreturn Γ (hz13) dX11_carve_35 (hK0 _)
  · refine jq_aload_n Γ dX11_carve_8 rfl 0 rfl (jq_at_0 at_M_0) ?_
    refine jq_iconst Γ dX11_carve_9 rfl ?_
    refine jq_cwZ (jq_virt (avs := [jI 1]) (st := []) Γ hlY rfl ml_RX11_91 rfl at_M_0 rfl rfl rfl rfl rfl dX11_carve_10) rfl (fun r σ' h => ctX11_is h) (fun v14 s15 hz16 => ?_)
    exact jq_zreturn Γ (hz16) dX11_carve_13 (hK0 _)


theorem dX11_codes_0 : decode cX11_codes 0 = .ok (.aload_n 0, 1) := by decide +kernel
theorem dX11_codes_1 : decode cX11_codes 1 = .ok (.getfield 7, 3) := by decide +kernel
theorem dX11_codes_4 : decode cX11_codes 4 = .ok (.iconst 0, 1) := by decide +kernel
theorem dX11_codes_5 : decode cX11_codes 5 = .ok (.iaload, 1) := by decide +kernel
theorem dX11_codes_6 : decode cX11_codes 6 = .ok (.ifCond .ne 7, 3) := by decide +kernel
theorem dX11_codes_9 : decode cX11_codes 9 = .ok (.iconst 0, 1) := by decide +kernel
theorem dX11_codes_10 : decode cX11_codes 10 = .ok (.goto 4, 3) := by decide +kernel
theorem dX11_codes_13 : decode cX11_codes 13 = .ok (.iconst 1, 1) := by decide +kernel
theorem dX11_codes_14 : decode cX11_codes 14 = .ok (.istore_n 1, 1) := by decide +kernel
theorem dX11_codes_15 : decode cX11_codes 15 = .ok (.iconst 0, 1) := by decide +kernel
theorem dX11_codes_16 : decode cX11_codes 16 = .ok (.istore_n 2, 1) := by decide +kernel
theorem dX11_codes_17 : decode cX11_codes 17 = .ok (.iload_n 2, 1) := by decide +kernel
theorem dX11_codes_18 : decode cX11_codes 18 = .ok (.aload_n 0, 1) := by decide +kernel
theorem dX11_codes_19 : decode cX11_codes 19 = .ok (.getfield 7, 3) := by decide +kernel
theorem dX11_codes_22 : decode cX11_codes 22 = .ok (.iconst 1, 1) := by decide +kernel
theorem dX11_codes_23 : decode cX11_codes 23 = .ok (.iaload, 1) := by decide +kernel
theorem dX11_codes_24 : decode cX11_codes 24 = .ok (.if_icmp .ge 18, 3) := by decide +kernel
theorem dX11_codes_27 : decode cX11_codes 27 = .ok (.iload_n 1, 1) := by decide +kernel
theorem dX11_codes_28 : decode cX11_codes 28 = .ok (.aload_n 0, 1) := by decide +kernel
theorem dX11_codes_29 : decode cX11_codes 29 = .ok (.getfield 7, 3) := by decide +kernel
theorem dX11_codes_32 : decode cX11_codes 32 = .ok (.iconst 0, 1) := by decide +kernel
theorem dX11_codes_33 : decode cX11_codes 33 = .ok (.iaload, 1) := by decide +kernel
theorem dX11_codes_34 : decode cX11_codes 34 = .ok (.imul, 1) := by decide +kernel
theorem dX11_codes_35 : decode cX11_codes 35 = .ok (.istore_n 1, 1) := by decide +kernel
theorem dX11_codes_36 : decode cX11_codes 36 = .ok (.iinc 2 1, 3) := by decide +kernel
theorem dX11_codes_39 : decode cX11_codes 39 = .ok (.goto (-22), 3) := by decide +kernel
theorem dX11_codes_42 : decode cX11_codes 42 = .ok (.iload_n 1, 1) := by decide +kernel
theorem dX11_codes_43 : decode cX11_codes 43 = .ok (.ireturn, 1) := by decide +kernel
set_option maxHeartbeats 4000000 in
set_option maxRecDepth 100000 in
theorem ctX11_codes  {σ : jq_M} {res : Int}  (h : X11_codes σ = some res) : jq_MC jq_zM yX11_codes cX11_codes 3 (some .int) 1 40 [jR 0] σ (some (jI res)) σ := by
  refine jq_met (own := RX11) (L0 := [(0, jR 0)]) (by decide) rfl rfl rfl ?_
  intro X Γ hnl hlY hRT
  refine jq_use2 (P := fun r => jq_RT jq_zM X (some .int) (some (jI r)) σ) ?_ h hRT
  intro K0 hK0
  unfold X11_codes
  have hj14_0 : ∀ (j2 : Int) (hz3 : j2 = 0 ∨ j2 = 1), jq_J (X11_codes_j14 σ j2) K0 (jq_V jq_zM X (jq_zN jq_zM) σ 14 [(0, jR 0)] [jI j2]) := by
    intro j2 hz3
    unfold X11_codes_j14
    refine jq_istore_n (L' := [(1, jI j2), (0, jR 0)]) Γ dX11_codes_14 rfl hnl rfl rfl ?_
    refine jq_iconst Γ dX11_codes_15 rfl ?_
    refine jq_istore_n (L' := [(2, jI 0), (1, jI j2), (0, jR 0)]) Γ dX11_codes_16 rfl hnl rfl rfl ?_
    refine jq_sub Γ (L' := [(0, jR 0), (1, jI j2), (2, jI 0)]) [2, 1, 0] rfl ?_
    refine jq_loop2 (C := fun (t4 : Int × Int) => jq_V jq_zM X (jq_zN jq_zM) σ 17 [(0, jR 0), (1, jI t4.1), (2, jI t4.2)] []) (KX := fun (e9 : Int) => jq_V jq_zM X (jq_zN jq_zM) σ 42 [(1, jI e9)] []) ?_ ?_ (j2, 0)
    · intro K17_t4 hCt4 hXt4 t4
      unfold X11_codes_b17
      refine jq_iload_n Γ dX11_codes_17 rfl 2 rfl ?_
      refine jq_aload_n Γ dX11_codes_18 rfl 0 rfl (jq_at_0 at_M_0) ?_
      refine jq_getR (v := 1) Γ hlY at_M_0 fl_RX11_7 rfl rfl ly_X11_at dX11_codes_19 ?_
      refine jq_iconst Γ dX11_codes_22 rfl ?_
      refine jq_iald Γ at_M_1 rfl dX11_codes_23 (fun v5 => ?_)
      refine jq_icmp_ge (tgt := 42) Γ dX11_codes_24 rfl ?_ ?_
      · refine jq_sub Γ (L' := [(1, jI t4.1)]) [1] rfl ?_
        exact jq_done (hXt4 t4.1)
      · refine jq_iload_n Γ dX11_codes_27 rfl 1 rfl ?_
        refine jq_aload_n Γ dX11_codes_28 rfl 0 rfl (jq_at_0 at_M_0) ?_
        refine jq_getR (v := 1) Γ hlY at_M_0 fl_RX11_7 rfl rfl ly_X11_at dX11_codes_29 ?_
        refine jq_iconst Γ dX11_codes_32 rfl ?_
        refine jq_iald Γ at_M_1 rfl dX11_codes_33 (fun v6 => ?_)
        refine jq_imul Γ dX11_codes_34 ?_
        refine jq_nmI (fun v7 => ?_)
        refine jq_istore_n (L' := [(1, jI v7), (0, jR 0), (2, jI t4.2)]) Γ dX11_codes_35 rfl hnl rfl rfl ?_
        refine jq_iincN (L' := fun v8 => [(2, jI v8), (1, jI v7), (0, jR 0)]) Γ dX11_codes_36 2 rfl hnl rfl (fun _ => rfl) (fun v8 => ?_)
        refine jq_goto Γ (tgt := 17) dX11_codes_39 rfl ?_
        refine jq_sub Γ (L' := [(0, jR 0), (1, jI v7), (2, jI v8)]) [2, 1, 0] rfl ?_
        exact jq_done (hCt4 (v7, v8))
    · intro e9
      refine jq_iload_n Γ dX11_codes_42 rfl 0 rfl ?_
      exact jq_ireturn Γ dX11_codes_43 (hK0 _)
  refine jq_aload_n Γ dX11_codes_0 rfl 0 rfl (jq_at_0 at_M_0) ?_
  refine jq_getR (v := 1) Γ hlY at_M_0 fl_RX11_7 rfl rfl ly_X11_at dX11_codes_1 ?_
  refine jq_iconst Γ dX11_codes_4 rfl ?_
  refine jq_iald Γ at_M_1 rfl dX11_codes_5 (fun v1 => ?_)
  refine jq_if_ne (tgt := 13) Γ dX11_codes_6 rfl ?_ ?_
  · refine jq_iconst Γ dX11_codes_13 rfl ?_
    exact hj14_0 1 (Or.inr rfl)
  · refine jq_iconst Γ dX11_codes_9 rfl ?_
    refine jq_goto Γ (tgt := 14) dX11_codes_10 rfl ?_
    exact hj14_0 0 (Or.inl rfl)


theorem dX11_seatsBy_0 : decode cX11_seatsBy 0 = .ok (.iload_n 1, 1) := by decide +kernel
theorem dX11_seatsBy_1 : decode cX11_seatsBy 1 = .ok (.istore_n 2, 1) := by decide +kernel
theorem dX11_seatsBy_2 : decode cX11_seatsBy 2 = .ok (.iconst 0, 1) := by decide +kernel
theorem dX11_seatsBy_3 : decode cX11_seatsBy 3 = .ok (.istore_n 3, 1) := by decide +kernel
theorem dX11_seatsBy_4 : decode cX11_seatsBy 4 = .ok (.aload_n 0, 1) := by decide +kernel
theorem dX11_seatsBy_5 : decode cX11_seatsBy 5 = .ok (.getfield 7, 3) := by decide +kernel
theorem dX11_seatsBy_8 : decode cX11_seatsBy 8 = .ok (.iconst 1, 1) := by decide +kernel
theorem dX11_seatsBy_9 : decode cX11_seatsBy 9 = .ok (.iaload, 1) := by decide +kernel
theorem dX11_seatsBy_10 : decode cX11_seatsBy 10 = .ok (.iconst 1, 1) := by decide +kernel
theorem dX11_seatsBy_11 : decode cX11_seatsBy 11 = .ok (.isub, 1) := by decide +kernel
theorem dX11_seatsBy_12 : decode cX11_seatsBy 12 = .ok (.istore 4, 2) := by decide +kernel
theorem dX11_seatsBy_14 : decode cX11_seatsBy 14 = .ok (.iload 4, 2) := by decide +kernel
theorem dX11_seatsBy_16 : decode cX11_seatsBy 16 = .ok (.ifCond .lt 62, 3) := by decide +kernel
theorem dX11_seatsBy_19 : decode cX11_seatsBy 19 = .ok (.aload_n 0, 1) := by decide +kernel
theorem dX11_seatsBy_20 : decode cX11_seatsBy 20 = .ok (.getfield 47, 3) := by decide +kernel
theorem dX11_seatsBy_23 : decode cX11_seatsBy 23 = .ok (.iload 4, 2) := by decide +kernel
theorem dX11_seatsBy_25 : decode cX11_seatsBy 25 = .ok (.iload_n 2, 1) := by decide +kernel
theorem dX11_seatsBy_26 : decode cX11_seatsBy 26 = .ok (.aload_n 0, 1) := by decide +kernel
theorem dX11_seatsBy_27 : decode cX11_seatsBy 27 = .ok (.getfield 7, 3) := by decide +kernel
theorem dX11_seatsBy_30 : decode cX11_seatsBy 30 = .ok (.iconst 0, 1) := by decide +kernel
theorem dX11_seatsBy_31 : decode cX11_seatsBy 31 = .ok (.iaload, 1) := by decide +kernel
theorem dX11_seatsBy_32 : decode cX11_seatsBy 32 = .ok (.irem, 1) := by decide +kernel
theorem dX11_seatsBy_33 : decode cX11_seatsBy 33 = .ok (.iastore, 1) := by decide +kernel
theorem dX11_seatsBy_34 : decode cX11_seatsBy 34 = .ok (.iload_n 2, 1) := by decide +kernel
theorem dX11_seatsBy_35 : decode cX11_seatsBy 35 = .ok (.aload_n 0, 1) := by decide +kernel
theorem dX11_seatsBy_36 : decode cX11_seatsBy 36 = .ok (.getfield 7, 3) := by decide +kernel
theorem dX11_seatsBy_39 : decode cX11_seatsBy 39 = .ok (.iconst 0, 1) := by decide +kernel
theorem dX11_seatsBy_40 : decode cX11_seatsBy 40 = .ok (.iaload, 1) := by decide +kernel
theorem dX11_seatsBy_41 : decode cX11_seatsBy 41 = .ok (.idiv, 1) := by decide +kernel
theorem dX11_seatsBy_42 : decode cX11_seatsBy 42 = .ok (.istore_n 2, 1) := by decide +kernel
theorem dX11_seatsBy_43 : decode cX11_seatsBy 43 = .ok (.aload_n 0, 1) := by decide +kernel
theorem dX11_seatsBy_44 : decode cX11_seatsBy 44 = .ok (.iload_n 3, 1) := by decide +kernel
theorem dX11_seatsBy_45 : decode cX11_seatsBy 45 = .ok (.aload_n 0, 1) := by decide +kernel
theorem dX11_seatsBy_46 : decode cX11_seatsBy 46 = .ok (.getfield 47, 3) := by decide +kernel
theorem dX11_seatsBy_49 : decode cX11_seatsBy 49 = .ok (.iload 4, 2) := by decide +kernel
theorem dX11_seatsBy_51 : decode cX11_seatsBy 51 = .ok (.iaload, 1) := by decide +kernel
theorem dX11_seatsBy_52 : decode cX11_seatsBy 52 = .ok (.invokevirtual 266, 3) := by decide +kernel
theorem dX11_seatsBy_55 : decode cX11_seatsBy 55 = .ok (.ifCond .eq 5, 3) := by decide +kernel
theorem dX11_seatsBy_58 : decode cX11_seatsBy 58 = .ok (.iconst 0, 1) := by decide +kernel
theorem dX11_seatsBy_59 : decode cX11_seatsBy 59 = .ok (.ireturn, 1) := by decide +kernel
theorem dX11_seatsBy_60 : decode cX11_seatsBy 60 = .ok (.iload_n 3, 1) := by decide +kernel
theorem dX11_seatsBy_61 : decode cX11_seatsBy 61 = .ok (.iconst 1, 1) := by decide +kernel
theorem dX11_seatsBy_62 : decode cX11_seatsBy 62 = .ok (.aload_n 0, 1) := by decide +kernel
theorem dX11_seatsBy_63 : decode cX11_seatsBy 63 = .ok (.getfield 47, 3) := by decide +kernel
theorem dX11_seatsBy_66 : decode cX11_seatsBy 66 = .ok (.iload 4, 2) := by decide +kernel
theorem dX11_seatsBy_68 : decode cX11_seatsBy 68 = .ok (.iaload, 1) := by decide +kernel
theorem dX11_seatsBy_69 : decode cX11_seatsBy 69 = .ok (.ishl, 1) := by decide +kernel
theorem dX11_seatsBy_70 : decode cX11_seatsBy 70 = .ok (.ior, 1) := by decide +kernel
theorem dX11_seatsBy_71 : decode cX11_seatsBy 71 = .ok (.istore_n 3, 1) := by decide +kernel
theorem dX11_seatsBy_72 : decode cX11_seatsBy 72 = .ok (.iinc 4 (-1), 3) := by decide +kernel
theorem dX11_seatsBy_75 : decode cX11_seatsBy 75 = .ok (.goto (-61), 3) := by decide +kernel
theorem dX11_seatsBy_78 : decode cX11_seatsBy 78 = .ok (.iconst 1, 1) := by decide +kernel
theorem dX11_seatsBy_79 : decode cX11_seatsBy 79 = .ok (.ireturn, 1) := by decide +kernel
set_option maxHeartbeats 4000000 in
set_option maxRecDepth 100000 in
theorem ctX11_seatsBy {p1 : Int} {σ : jq_M} {res : Int} {σ' : jq_M}  (h : X11_seatsBy p1 σ = some (res, σ')) : jq_MC jq_zM yX11_seatsBy cX11_seatsBy 5 (some .boolean) 2 62 [jR 0, jI p1] σ (some (jI res)) σ' := by
  refine jq_met (own := RX11) (L0 := [(0, jR 0), (1, jI p1)]) (by decide) rfl rfl rfl ?_
  intro X Γ hnl hlY hRT
  refine jq_use2 (P := fun r => jq_RT jq_zM X (some .boolean) (some (jI r.1)) r.2) ?_ h hRT
  intro K0 hK0
  unfold X11_seatsBy
  refine jq_iload_n Γ dX11_seatsBy_0 rfl 1 rfl ?_
  refine jq_istore_n (L' := [(2, jI p1), (0, jR 0), (1, jI p1)]) Γ dX11_seatsBy_1 rfl hnl rfl rfl ?_
  refine jq_iconst Γ dX11_seatsBy_2 rfl ?_
  refine jq_istore_n (L' := [(3, jI 0), (2, jI p1), (0, jR 0), (1, jI p1)]) Γ dX11_seatsBy_3 rfl hnl rfl rfl ?_
  refine jq_aload_n Γ dX11_seatsBy_4 rfl 2 rfl (jq_at_0 at_M_0) ?_
  refine jq_getR (v := 1) Γ hlY at_M_0 fl_RX11_7 rfl rfl ly_X11_at dX11_seatsBy_5 ?_
  refine jq_iconst Γ dX11_seatsBy_8 rfl ?_
  refine jq_iald Γ at_M_1 rfl dX11_seatsBy_9 (fun v1 => ?_)
  refine jq_iconst Γ dX11_seatsBy_10 rfl ?_
  refine jq_isub Γ dX11_seatsBy_11 ?_
  refine jq_nmI (fun v2 => ?_)
  refine jq_istore (L' := [(4, jI v2), (3, jI 0), (2, jI p1), (0, jR 0), (1, jI p1)]) Γ dX11_seatsBy_12 hnl rfl rfl ?_
  refine jq_sub Γ (L' := [(0, jR 0), (2, jI p1), (3, jI 0), (4, jI v2)]) [3, 2, 1, 0] rfl ?_
  refine jq_loop2 (C := fun (t3 : Int × Int × Int × jq_M) => jq_V jq_zM X (jq_zN jq_zM) t3.2.2.2 14 [(0, jR 0), (2, jI t3.1), (3, jI t3.2.1), (4, jI t3.2.2.1)] []) (KX := Sum.elim (fun (e15 : jq_M) => jq_V jq_zM X (jq_zN jq_zM) e15 58 [] []) (fun (e16 : jq_M) => jq_V jq_zM X (jq_zN jq_zM) e16 78 [] [])) ?_ ?_ (p1, 0, v2, σ)
  · intro K14_t3 hCt3 hXt3 t3
    unfold X11_seatsBy_b14
    refine jq_iload Γ dX11_seatsBy_14 3 rfl ?_
    refine jq_if_lt (tgt := 78) Γ dX11_seatsBy_16 rfl ?_ ?_
    · refine jq_sub Γ (L' := []) [] rfl ?_
      exact jq_done (hXt3 (.inr t3.2.2.2))
    · refine jq_aload_n Γ dX11_seatsBy_19 rfl 0 rfl (jq_at_0 at_M_0) ?_
      refine jq_getR (v := 9) Γ hlY at_M_0 fl_RX11_47 rfl rfl ly_X11_seat dX11_seatsBy_20 ?_
      refine jq_iload Γ dX11_seatsBy_23 3 rfl ?_
      refine jq_iload_n Γ dX11_seatsBy_25 rfl 1 rfl ?_
      refine jq_aload_n Γ dX11_seatsBy_26 rfl 0 rfl (jq_at_0 at_M_0) ?_
      refine jq_getR (v := 1) Γ hlY at_M_0 fl_RX11_7 rfl rfl ly_X11_at dX11_seatsBy_27 ?_
      refine jq_iconst Γ dX11_seatsBy_30 rfl ?_
      refine jq_iald Γ at_M_1 rfl dX11_seatsBy_31 (fun v4 => ?_)
      refine jq_iremR Γ dX11_seatsBy_32 (fun v5 => ?_)
      refine jq_iast Γ at_M_9 rfl dX11_seatsBy_33 (fun s6 => ?_)
      refine jq_iload_n Γ dX11_seatsBy_34 rfl 1 rfl ?_
      refine jq_aload_n Γ dX11_seatsBy_35 rfl 0 rfl (jq_at_0 at_M_0) ?_
      refine jq_getR (v := 1) Γ hlY at_M_0 fl_RX11_7 rfl rfl ly_X11_at dX11_seatsBy_36 ?_
      refine jq_iconst Γ dX11_seatsBy_39 rfl ?_
      refine jq_iald Γ at_M_1 rfl dX11_seatsBy_40 (fun v7 => ?_)
      refine jq_idivR Γ dX11_seatsBy_41 (fun v8 => ?_)
      refine jq_istore_n (L' := [(2, jI v8), (0, jR 0), (3, jI t3.2.1), (4, jI t3.2.2.1)]) Γ dX11_seatsBy_42 rfl hnl rfl rfl ?_
      refine jq_aload_n Γ dX11_seatsBy_43 rfl 1 rfl (jq_at_0 at_M_0) ?_
      refine jq_iload_n Γ dX11_seatsBy_44 rfl 2 rfl ?_
      refine jq_aload_n Γ dX11_seatsBy_45 rfl 1 rfl (jq_at_0 at_M_0) ?_
      refine jq_getR (v := 9) Γ hlY at_M_0 fl_RX11_47 rfl rfl ly_X11_seat dX11_seatsBy_46 ?_
      refine jq_iload Γ dX11_seatsBy_49 3 rfl ?_
      refine jq_iald Γ at_M_9 rfl dX11_seatsBy_51 (fun v9 => ?_)
      refine jq_cpZ (jq_virt (avs := [jI t3.2.1, jI v9]) (st := []) Γ hlY rfl ml_RX11_266 rfl at_M_0 rfl rfl rfl rfl rfl dX11_seatsBy_52) rfl (fun r h => ctX11_isIn h) (fun v10 hz11 => ?_)
      refine jq_if_eq (tgt := 60) Γ dX11_seatsBy_55 rfl ?_ ?_
      · refine jq_iload_n Γ dX11_seatsBy_60 rfl 2 rfl ?_
        refine jq_iconst Γ dX11_seatsBy_61 rfl ?_
        refine jq_aload_n Γ dX11_seatsBy_62 rfl 1 rfl (jq_at_0 at_M_0) ?_
        refine jq_getR (v := 9) Γ hlY at_M_0 fl_RX11_47 rfl rfl ly_X11_seat dX11_seatsBy_63 ?_
        refine jq_iload Γ dX11_seatsBy_66 3 rfl ?_
        refine jq_iald Γ at_M_9 rfl dX11_seatsBy_68 (fun v12 => ?_)
        refine jq_ishl Γ dX11_seatsBy_69 ?_
        refine jq_ior Γ dX11_seatsBy_70 ?_
        refine jq_nmI (fun v13 => ?_)
        refine jq_istore_n (L' := [(3, jI v13), (2, jI v8), (0, jR 0), (4, jI t3.2.2.1)]) Γ dX11_seatsBy_71 rfl hnl rfl rfl ?_
        refine jq_iincN (L' := fun v14 => [(4, jI v14), (3, jI v13), (2, jI v8), (0, jR 0)]) Γ dX11_seatsBy_72 3 rfl hnl rfl (fun _ => rfl) (fun v14 => ?_)
        refine jq_goto Γ (tgt := 14) dX11_seatsBy_75 rfl ?_
        refine jq_sub Γ (L' := [(0, jR 0), (2, jI v8), (3, jI v13), (4, jI v14)]) [3, 2, 1, 0] rfl ?_
        exact jq_done (hCt3 (v8, v13, v14, s6))
      · refine jq_sub Γ (L' := []) [] rfl ?_
        exact jq_done (hXt3 (.inl s6))
  · refine jq_elim ?_ ?_
    · intro e15
      refine jq_iconst Γ dX11_seatsBy_58 rfl ?_
      exact jq_zreturn Γ (Or.inl rfl) dX11_seatsBy_59 (hK0 _)
    · intro e16
      refine jq_iconst Γ dX11_seatsBy_78 rfl ?_
      exact jq_zreturn Γ (Or.inr rfl) dX11_seatsBy_79 (hK0 _)


