theorem yf_X11_everybody : Cond.instanceMethod yX11_everybody ∈ jq_T ∧ Cond.selects (yX11_everybody).cls yX11_everybody yX11_everybody ∈ jq_T ∧ Cond.initialized (yX11_everybody).cls ∈ jq_T ∧ Cond.code yX11_everybody cX11_everybody 1 (some .int) ∈ jq_T ∧ ((yX11_everybody).cls ≠ "java/lang/invoke/MethodHandle" ∧ (yX11_everybody).cls ≠ "java/lang/invoke/VarHandle" ∧ (parseMethodDescriptor (yX11_everybody).desc).map (fun d => d.parameters.length) = some 0) := ⟨jq_in 2114 (by decide +kernel) rfl, jq_in 104 (by decide +kernel) rfl, jq_in 150 (by decide +kernel) rfl, jq_in 2115 (by decide +kernel) rfl, ⟨by decide, by decide, by decide +kernel⟩⟩
theorem ml_RX11_374 : jq_vl RX11 374 yX11_everybody cX11_everybody 1 (some .int) 0 := ⟨jq_in 2112 (by decide +kernel) rfl, yf_X11_everybody⟩
theorem yf_X11_codes : Cond.instanceMethod yX11_codes ∈ jq_T ∧ Cond.selects (yX11_codes).cls yX11_codes yX11_codes ∈ jq_T ∧ Cond.initialized (yX11_codes).cls ∈ jq_T ∧ Cond.code yX11_codes cX11_codes 3 (some .int) ∈ jq_T ∧ ((yX11_codes).cls ≠ "java/lang/invoke/MethodHandle" ∧ (yX11_codes).cls ≠ "java/lang/invoke/VarHandle" ∧ (parseMethodDescriptor (yX11_codes).desc).map (fun d => d.parameters.length) = some 0) := ⟨jq_in 2098 (by decide +kernel) rfl, jq_in 101 (by decide +kernel) rfl, jq_in 150 (by decide +kernel) rfl, jq_in 2099 (by decide +kernel) rfl, ⟨by decide, by decide, by decide +kernel⟩⟩
theorem ml_RX11_377 : jq_vl RX11 377 yX11_codes cX11_codes 3 (some .int) 0 := ⟨jq_in 2096 (by decide +kernel) rfl, yf_X11_codes⟩
theorem yf_X11_seatsBy : Cond.instanceMethod yX11_seatsBy ∈ jq_T ∧ Cond.selects (yX11_seatsBy).cls yX11_seatsBy yX11_seatsBy ∈ jq_T ∧ Cond.initialized (yX11_seatsBy).cls ∈ jq_T ∧ Cond.code yX11_seatsBy cX11_seatsBy 5 (some .boolean) ∈ jq_T ∧ ((yX11_seatsBy).cls ≠ "java/lang/invoke/MethodHandle" ∧ (yX11_seatsBy).cls ≠ "java/lang/invoke/VarHandle" ∧ (parseMethodDescriptor (yX11_seatsBy).desc).map (fun d => d.parameters.length) = some 1) := ⟨jq_in 2102 (by decide +kernel) rfl, jq_in 102 (by decide +kernel) rfl, jq_in 150 (by decide +kernel) rfl, jq_in 2103 (by decide +kernel) rfl, ⟨by decide, by decide, by decide +kernel⟩⟩
theorem ml_RX11_380 : jq_vl RX11 380 yX11_seatsBy cX11_seatsBy 5 (some .boolean) 1 := ⟨jq_in 2100 (by decide +kernel) rfl, yf_X11_seatsBy⟩
theorem yf_X11_isGood : Cond.instanceMethod yX11_isGood ∈ jq_T ∧ Cond.selects (yX11_isGood).cls yX11_isGood yX11_isGood ∈ jq_T ∧ Cond.initialized (yX11_isGood).cls ∈ jq_T ∧ Cond.code yX11_isGood cX11_isGood 1 (some .boolean) ∈ jq_T ∧ ((yX11_isGood).cls ≠ "java/lang/invoke/MethodHandle" ∧ (yX11_isGood).cls ≠ "java/lang/invoke/VarHandle" ∧ (parseMethodDescriptor (yX11_isGood).desc).map (fun d => d.parameters.length) = some 0) := ⟨jq_in 2110 (by decide +kernel) rfl, jq_in 103 (by decide +kernel) rfl, jq_in 150 (by decide +kernel) rfl, jq_in 2111 (by decide +kernel) rfl, ⟨by decide, by decide, by decide +kernel⟩⟩
theorem ml_RX11_383 : jq_vl RX11 383 yX11_isGood cX11_isGood 1 (some .boolean) 0 := ⟨jq_in 2108 (by decide +kernel) rfl, yf_X11_isGood⟩
theorem yf_X11_codeOf : Cond.instanceMethod yX11_codeOf ∈ jq_T ∧ Cond.selects (yX11_codeOf).cls yX11_codeOf yX11_codeOf ∈ jq_T ∧ Cond.initialized (yX11_codeOf).cls ∈ jq_T ∧ Cond.code yX11_codeOf cX11_codeOf 3 (some .int) ∈ jq_T ∧ ((yX11_codeOf).cls ≠ "java/lang/invoke/MethodHandle" ∧ (yX11_codeOf).cls ≠ "java/lang/invoke/VarHandle" ∧ (parseMethodDescriptor (yX11_codeOf).desc).map (fun d => d.parameters.length) = some 0) := ⟨jq_in 2126 (by decide +kernel) rfl, jq_in 106 (by decide +kernel) rfl, jq_in 150 (by decide +kernel) rfl, jq_in 2127 (by decide +kernel) rfl, ⟨by decide, by decide, by decide +kernel⟩⟩
theorem ml_RX11_386 : jq_vl RX11 386 yX11_codeOf cX11_codeOf 3 (some .int) 0 := ⟨jq_in 2124 (by decide +kernel) rfl, yf_X11_codeOf⟩
theorem yf_X11_moves : Cond.instanceMethod yX11_moves ∈ jq_T ∧ Cond.selects (yX11_moves).cls yX11_moves yX11_moves ∈ jq_T ∧ Cond.initialized (yX11_moves).cls ∈ jq_T ∧ Cond.code yX11_moves cX11_moves 3 none ∈ jq_T ∧ ((yX11_moves).cls ≠ "java/lang/invoke/MethodHandle" ∧ (yX11_moves).cls ≠ "java/lang/invoke/VarHandle" ∧ (parseMethodDescriptor (yX11_moves).desc).map (fun d => d.parameters.length) = some 1) := ⟨jq_in 2130 (by decide +kernel) rfl, jq_in 107 (by decide +kernel) rfl, jq_in 150 (by decide +kernel) rfl, jq_in 2131 (by decide +kernel) rfl, ⟨by decide, by decide, by decide +kernel⟩⟩
theorem ml_RX11_389 : jq_vl RX11 389 yX11_moves cX11_moves 3 none 1 := ⟨jq_in 2128 (by decide +kernel) rfl, yf_X11_moves⟩
theorem yf_X11_isClass : Cond.instanceMethod yX11_isClass ∈ jq_T ∧ Cond.selects (yX11_isClass).cls yX11_isClass yX11_isClass ∈ jq_T ∧ Cond.initialized (yX11_isClass).cls ∈ jq_T ∧ Cond.code yX11_isClass cX11_isClass 5 (some .boolean) ∈ jq_T ∧ ((yX11_isClass).cls ≠ "java/lang/invoke/MethodHandle" ∧ (yX11_isClass).cls ≠ "java/lang/invoke/VarHandle" ∧ (parseMethodDescriptor (yX11_isClass).desc).map (fun d => d.parameters.length) = some 1) := ⟨jq_in 2122 (by decide +kernel) rfl, jq_in 105 (by decide +kernel) rfl, jq_in 150 (by decide +kernel) rfl, jq_in 2123 (by decide +kernel) rfl, ⟨by decide, by decide, by decide +kernel⟩⟩
theorem ml_RX11_393 : jq_vl RX11 393 yX11_isClass cX11_isClass 5 (some .boolean) 1 := ⟨jq_in 2120 (by decide +kernel) rfl, yf_X11_isClass⟩
theorem yf_X11_firstGood : Cond.instanceMethod yX11_firstGood ∈ jq_T ∧ Cond.selects (yX11_firstGood).cls yX11_firstGood yX11_firstGood ∈ jq_T ∧ Cond.initialized (yX11_firstGood).cls ∈ jq_T ∧ Cond.code yX11_firstGood cX11_firstGood 2 (some .int) ∈ jq_T ∧ ((yX11_firstGood).cls ≠ "java/lang/invoke/MethodHandle" ∧ (yX11_firstGood).cls ≠ "java/lang/invoke/VarHandle" ∧ (parseMethodDescriptor (yX11_firstGood).desc).map (fun d => d.parameters.length) = some 0) := ⟨jq_in 2138 (by decide +kernel) rfl, jq_in 108 (by decide +kernel) rfl, jq_in 150 (by decide +kernel) rfl, jq_in 2139 (by decide +kernel) rfl, ⟨by decide, by decide, by decide +kernel⟩⟩
theorem ml_RX11_396 : jq_vl RX11 396 yX11_firstGood cX11_firstGood 2 (some .int) 0 := ⟨jq_in 2136 (by decide +kernel) rfl, yf_X11_firstGood⟩
theorem yf_X11_bestCode : Cond.instanceMethod yX11_bestCode ∈ jq_T ∧ Cond.selects (yX11_bestCode).cls yX11_bestCode yX11_bestCode ∈ jq_T ∧ Cond.initialized (yX11_bestCode).cls ∈ jq_T ∧ Cond.code yX11_bestCode cX11_bestCode 4 (some .int) ∈ jq_T ∧ ((yX11_bestCode).cls ≠ "java/lang/invoke/MethodHandle" ∧ (yX11_bestCode).cls ≠ "java/lang/invoke/VarHandle" ∧ (parseMethodDescriptor (yX11_bestCode).desc).map (fun d => d.parameters.length) = some 0) := ⟨jq_in 2146 (by decide +kernel) rfl, jq_in 109 (by decide +kernel) rfl, jq_in 150 (by decide +kernel) rfl, jq_in 2147 (by decide +kernel) rfl, ⟨by decide, by decide, by decide +kernel⟩⟩
theorem ml_RX11_399 : jq_vl RX11 399 yX11_bestCode cX11_bestCode 4 (some .int) 0 := ⟨jq_in 2144 (by decide +kernel) rfl, yf_X11_bestCode⟩
theorem yf_X11_arePleased : Cond.instanceMethod yX11_arePleased ∈ jq_T ∧ Cond.selects (yX11_arePleased).cls yX11_arePleased yX11_arePleased ∈ jq_T ∧ Cond.initialized (yX11_arePleased).cls ∈ jq_T ∧ Cond.code yX11_arePleased cX11_arePleased 3 (some .boolean) ∈ jq_T ∧ ((yX11_arePleased).cls ≠ "java/lang/invoke/MethodHandle" ∧ (yX11_arePleased).cls ≠ "java/lang/invoke/VarHandle" ∧ (parseMethodDescriptor (yX11_arePleased).desc).map (fun d => d.parameters.length) = some 1) := ⟨jq_in 2163 (by decide +kernel) rfl, jq_in 110 (by decide +kernel) rfl, jq_in 150 (by decide +kernel) rfl, jq_in 2164 (by decide +kernel) rfl, ⟨by decide, by decide, by decide +kernel⟩⟩
theorem ml_RX11_402 : jq_vl RX11 402 yX11_arePleased cX11_arePleased 3 (some .boolean) 1 := ⟨jq_in 2161 (by decide +kernel) rfl, yf_X11_arePleased⟩
theorem kc_RX11_405 : Cond.constant RX11 405 (Int32.ofInt (-1000000)) ∈ jq_T := jq_in 2173 (by decide +kernel) rfl
theorem yf_X11_fishing : Cond.instanceMethod yX11_fishing ∈ jq_T ∧ Cond.selects (yX11_fishing).cls yX11_fishing yX11_fishing ∈ jq_T ∧ Cond.initialized (yX11_fishing).cls ∈ jq_T ∧ Cond.code yX11_fishing cX11_fishing 3 (some .int) ∈ jq_T ∧ ((yX11_fishing).cls ≠ "java/lang/invoke/MethodHandle" ∧ (yX11_fishing).cls ≠ "java/lang/invoke/VarHandle" ∧ (parseMethodDescriptor (yX11_fishing).desc).map (fun d => d.parameters.length) = some 0) := ⟨jq_in 2188 (by decide +kernel) rfl, jq_in 111 (by decide +kernel) rfl, jq_in 150 (by decide +kernel) rfl, jq_in 2189 (by decide +kernel) rfl, ⟨by decide, by decide, by decide +kernel⟩⟩
theorem ml_RX11_406 : jq_vl RX11 406 yX11_fishing cX11_fishing 3 (some .int) 0 := ⟨jq_in 2186 (by decide +kernel) rfl, yf_X11_fishing⟩
theorem kc_RX11_409 : Cond.constant RX11 409 (Int32.ofInt (1000000)) ∈ jq_T := jq_in 2194 (by decide +kernel) rfl
theorem dX11_codeOf_0 : decode cX11_codeOf 0 = .ok (.iconst 0, 1) := by decide +kernel
theorem dX11_codeOf_1 : decode cX11_codeOf 1 = .ok (.istore_n 1, 1) := by decide +kernel
theorem dX11_codeOf_2 : decode cX11_codeOf 2 = .ok (.iconst 0, 1) := by decide +kernel
theorem dX11_codeOf_3 : decode cX11_codeOf 3 = .ok (.istore_n 2, 1) := by decide +kernel
theorem dX11_codeOf_4 : decode cX11_codeOf 4 = .ok (.iload_n 2, 1) := by decide +kernel
theorem dX11_codeOf_5 : decode cX11_codeOf 5 = .ok (.aload_n 0, 1) := by decide +kernel
theorem dX11_codeOf_6 : decode cX11_codeOf 6 = .ok (.getfield 7, 3) := by decide +kernel
theorem dX11_codeOf_9 : decode cX11_codeOf 9 = .ok (.iconst 1, 1) := by decide +kernel
theorem dX11_codeOf_10 : decode cX11_codeOf 10 = .ok (.iaload, 1) := by decide +kernel
theorem dX11_codeOf_11 : decode cX11_codeOf 11 = .ok (.if_icmp .ge 25, 3) := by decide +kernel
theorem dX11_codeOf_14 : decode cX11_codeOf 14 = .ok (.iload_n 1, 1) := by decide +kernel
theorem dX11_codeOf_15 : decode cX11_codeOf 15 = .ok (.aload_n 0, 1) := by decide +kernel
theorem dX11_codeOf_16 : decode cX11_codeOf 16 = .ok (.getfield 7, 3) := by decide +kernel
theorem dX11_codeOf_19 : decode cX11_codeOf 19 = .ok (.iconst 0, 1) := by decide +kernel
theorem dX11_codeOf_20 : decode cX11_codeOf 20 = .ok (.iaload, 1) := by decide +kernel
theorem dX11_codeOf_21 : decode cX11_codeOf 21 = .ok (.imul, 1) := by decide +kernel
theorem dX11_codeOf_22 : decode cX11_codeOf 22 = .ok (.aload_n 0, 1) := by decide +kernel
theorem dX11_codeOf_23 : decode cX11_codeOf 23 = .ok (.getfield 47, 3) := by decide +kernel
theorem dX11_codeOf_26 : decode cX11_codeOf 26 = .ok (.iload_n 2, 1) := by decide +kernel
theorem dX11_codeOf_27 : decode cX11_codeOf 27 = .ok (.iaload, 1) := by decide +kernel
theorem dX11_codeOf_28 : decode cX11_codeOf 28 = .ok (.iadd, 1) := by decide +kernel
theorem dX11_codeOf_29 : decode cX11_codeOf 29 = .ok (.istore_n 1, 1) := by decide +kernel
theorem dX11_codeOf_30 : decode cX11_codeOf 30 = .ok (.iinc 2 1, 3) := by decide +kernel
theorem dX11_codeOf_33 : decode cX11_codeOf 33 = .ok (.goto (-29), 3) := by decide +kernel
theorem dX11_codeOf_36 : decode cX11_codeOf 36 = .ok (.iload_n 1, 1) := by decide +kernel
theorem dX11_codeOf_37 : decode cX11_codeOf 37 = .ok (.ireturn, 1) := by decide +kernel
set_option maxHeartbeats 4000000 in
set_option maxRecDepth 100000 in
theorem ctX11_codeOf  {σ : jq_M} {res : Int}  (h : X11_codeOf σ = some res) : jq_MC jq_zM yX11_codeOf cX11_codeOf 3 (some .int) 1 40 [jR 0] σ (some (jI res)) σ := by
  refine jq_met (own := RX11) (L0 := [(0, jR 0)]) (by decide) rfl rfl rfl ?_
  intro X Γ hnl hlY hRT
  refine jq_use2 (P := fun r => jq_RT jq_zM X (some .int) (some (jI r)) σ) ?_ h hRT
  intro K0 hK0
  unfold X11_codeOf
  refine jq_iconst Γ dX11_codeOf_0 rfl ?_
  refine jq_istore_n (L' := [(1, jI 0), (0, jR 0)]) Γ dX11_codeOf_1 rfl hnl rfl rfl ?_
  refine jq_iconst Γ dX11_codeOf_2 rfl ?_
  refine jq_istore_n (L' := [(2, jI 0), (1, jI 0), (0, jR 0)]) Γ dX11_codeOf_3 rfl hnl rfl rfl ?_
  refine jq_sub Γ (L' := [(0, jR 0), (1, jI 0), (2, jI 0)]) [2, 1, 0] rfl ?_
  refine jq_loop2 (C := fun (t1 : Int × Int) => jq_V jq_zM X (jq_zN jq_zM) σ 4 [(0, jR 0), (1, jI t1.1), (2, jI t1.2)] []) (KX := fun (e7 : Int) => jq_V jq_zM X (jq_zN jq_zM) σ 36 [(1, jI e7)] []) ?_ ?_ (0, 0)
  · intro K4_t1 hCt1 hXt1 t1
    unfold X11_codeOf_b4
    refine jq_iload_n Γ dX11_codeOf_4 rfl 2 rfl ?_
    refine jq_aload_n Γ dX11_codeOf_5 rfl 0 rfl (jq_at_0 at_M_0) ?_
    refine jq_getR (v := 1) Γ hlY at_M_0 fl_RX11_7 rfl rfl ly_X11_at dX11_codeOf_6 ?_
    refine jq_iconst Γ dX11_codeOf_9 rfl ?_
    refine jq_iald Γ at_M_1 rfl dX11_codeOf_10 (fun v2 => ?_)
    refine jq_icmp_ge (tgt := 36) Γ dX11_codeOf_11 rfl ?_ ?_
    · refine jq_sub Γ (L' := [(1, jI t1.1)]) [1] rfl ?_
      exact jq_done (hXt1 t1.1)
    · refine jq_iload_n Γ dX11_codeOf_14 rfl 1 rfl ?_
      refine jq_aload_n Γ dX11_codeOf_15 rfl 0 rfl (jq_at_0 at_M_0) ?_
      refine jq_getR (v := 1) Γ hlY at_M_0 fl_RX11_7 rfl rfl ly_X11_at dX11_codeOf_16 ?_
      refine jq_iconst Γ dX11_codeOf_19 rfl ?_
      refine jq_iald Γ at_M_1 rfl dX11_codeOf_20 (fun v3 => ?_)
      refine jq_imul Γ dX11_codeOf_21 ?_
      refine jq_aload_n Γ dX11_codeOf_22 rfl 0 rfl (jq_at_0 at_M_0) ?_
      refine jq_getR (v := 9) Γ hlY at_M_0 fl_RX11_47 rfl rfl ly_X11_seat dX11_codeOf_23 ?_
      refine jq_iload_n Γ dX11_codeOf_26 rfl 2 rfl ?_
      refine jq_iald Γ at_M_9 rfl dX11_codeOf_27 (fun v4 => ?_)
      refine jq_iadd Γ dX11_codeOf_28 ?_
      refine jq_nmI (fun v5 => ?_)
      refine jq_istore_n (L' := [(1, jI v5), (0, jR 0), (2, jI t1.2)]) Γ dX11_codeOf_29 rfl hnl rfl rfl ?_
      refine jq_iincN (L' := fun v6 => [(2, jI v6), (1, jI v5), (0, jR 0)]) Γ dX11_codeOf_30 2 rfl hnl rfl (fun _ => rfl) (fun v6 => ?_)
      refine jq_goto Γ (tgt := 4) dX11_codeOf_33 rfl ?_
      refine jq_sub Γ (L' := [(0, jR 0), (1, jI v5), (2, jI v6)]) [2, 1, 0] rfl ?_
      exact jq_done (hCt1 (v5, v6))
  · intro e7
    refine jq_iload_n Γ dX11_codeOf_36 rfl 0 rfl ?_
    exact jq_ireturn Γ dX11_codeOf_37 (hK0 _)


theorem dX11_isGood_0 : decode cX11_isGood 0 = .ok (.aload_n 0, 1) := by decide +kernel
theorem dX11_isGood_1 : decode cX11_isGood 1 = .ok (.invokevirtual 308, 3) := by decide +kernel
theorem dX11_isGood_4 : decode cX11_isGood 4 = .ok (.aload_n 0, 1) := by decide +kernel
theorem dX11_isGood_5 : decode cX11_isGood 5 = .ok (.invokevirtual 374, 3) := by decide +kernel
theorem dX11_isGood_8 : decode cX11_isGood 8 = .ok (.if_icmp .ne 7, 3) := by decide +kernel
theorem dX11_isGood_11 : decode cX11_isGood 11 = .ok (.iconst 1, 1) := by decide +kernel
theorem dX11_isGood_12 : decode cX11_isGood 12 = .ok (.goto 4, 3) := by decide +kernel
theorem dX11_isGood_15 : decode cX11_isGood 15 = .ok (.iconst 0, 1) := by decide +kernel
theorem dX11_isGood_16 : decode cX11_isGood 16 = .ok (.ireturn, 1) := by decide +kernel
set_option maxHeartbeats 4000000 in
set_option maxRecDepth 100000 in
theorem ctX11_isGood  {σ : jq_M} {res : Int}  (h : X11_isGood σ = some res) : jq_MC jq_zM yX11_isGood cX11_isGood 1 (some .boolean) 6 153 [jR 0] σ (some (jI res)) σ := by
  refine jq_met (own := RX11) (L0 := [(0, jR 0)]) (by decide) rfl rfl rfl ?_
  intro X Γ hnl hlY hRT
  refine jq_use2 (P := fun r => jq_RT jq_zM X (some .boolean) (some (jI r)) σ) ?_ h hRT
  intro K0 hK0
  unfold X11_isGood
  refine jq_aload_n Γ dX11_isGood_0 rfl 0 rfl (jq_at_0 at_M_0) ?_
  refine jq_cpI (jq_virt (avs := []) (st := []) Γ hlY rfl ml_RX11_308 rfl at_M_0 rfl rfl rfl rfl rfl dX11_isGood_1) (fun r h => ctX11_signing h) (fun v1 => ?_)
  refine jq_aload_n Γ dX11_isGood_4 rfl 0 rfl (jq_at_0 at_M_0) ?_
  refine jq_cpI (jq_virt (avs := []) (st := [jI v1]) Γ hlY rfl ml_RX11_374 rfl at_M_0 rfl rfl rfl rfl rfl dX11_isGood_5) (fun r h => ctX11_everybody h) (fun v2 => ?_)
  refine jq_icmp_ne (tgt := 15) Γ dX11_isGood_8 rfl ?_ ?_
  · refine jq_iconst Γ dX11_isGood_15 rfl ?_
    exact jq_zreturn Γ (Or.inl rfl) dX11_isGood_16 (hK0 _)
  · refine jq_iconst Γ dX11_isGood_11 rfl ?_
    refine jq_goto Γ (tgt := 16) dX11_isGood_12 rfl ?_
    exact jq_zreturn Γ (Or.inr rfl) dX11_isGood_16 (hK0 _)


theorem dX11_seatings_0 : decode cX11_seatings 0 = .ok (.iconst 0, 1) := by decide +kernel
theorem dX11_seatings_1 : decode cX11_seatings 1 = .ok (.istore_n 1, 1) := by decide +kernel
theorem dX11_seatings_2 : decode cX11_seatings 2 = .ok (.iconst 0, 1) := by decide +kernel
theorem dX11_seatings_3 : decode cX11_seatings 3 = .ok (.istore_n 2, 1) := by decide +kernel
theorem dX11_seatings_4 : decode cX11_seatings 4 = .ok (.iload_n 2, 1) := by decide +kernel
theorem dX11_seatings_5 : decode cX11_seatings 5 = .ok (.aload_n 0, 1) := by decide +kernel
theorem dX11_seatings_6 : decode cX11_seatings 6 = .ok (.invokevirtual 377, 3) := by decide +kernel
theorem dX11_seatings_9 : decode cX11_seatings 9 = .ok (.if_icmp .ge 25, 3) := by decide +kernel
theorem dX11_seatings_12 : decode cX11_seatings 12 = .ok (.iload_n 1, 1) := by decide +kernel
theorem dX11_seatings_13 : decode cX11_seatings 13 = .ok (.aload_n 0, 1) := by decide +kernel
theorem dX11_seatings_14 : decode cX11_seatings 14 = .ok (.iload_n 2, 1) := by decide +kernel
theorem dX11_seatings_15 : decode cX11_seatings 15 = .ok (.invokevirtual 380, 3) := by decide +kernel
theorem dX11_seatings_18 : decode cX11_seatings 18 = .ok (.ifCond .eq 7, 3) := by decide +kernel
theorem dX11_seatings_21 : decode cX11_seatings 21 = .ok (.iconst 1, 1) := by decide +kernel
theorem dX11_seatings_22 : decode cX11_seatings 22 = .ok (.goto 4, 3) := by decide +kernel
theorem dX11_seatings_25 : decode cX11_seatings 25 = .ok (.iconst 0, 1) := by decide +kernel
theorem dX11_seatings_26 : decode cX11_seatings 26 = .ok (.iadd, 1) := by decide +kernel
theorem dX11_seatings_27 : decode cX11_seatings 27 = .ok (.istore_n 1, 1) := by decide +kernel
theorem dX11_seatings_28 : decode cX11_seatings 28 = .ok (.iinc 2 1, 3) := by decide +kernel
theorem dX11_seatings_31 : decode cX11_seatings 31 = .ok (.goto (-27), 3) := by decide +kernel
theorem dX11_seatings_34 : decode cX11_seatings 34 = .ok (.aload_n 0, 1) := by decide +kernel
theorem dX11_seatings_35 : decode cX11_seatings 35 = .ok (.iload_n 1, 1) := by decide +kernel
theorem dX11_seatings_36 : decode cX11_seatings 36 = .ok (.invokevirtual 88, 3) := by decide +kernel
theorem dX11_seatings_39 : decode cX11_seatings 39 = .ok (.ireturn, 1) := by decide +kernel
set_option maxHeartbeats 4000000 in
set_option maxRecDepth 100000 in
theorem ctX11_seatings  {σ : jq_M} {res : Int} {σ' : jq_M}  (h : X11_seatings σ = some (res, σ')) : jq_MC jq_zM yX11_seatings cX11_seatings 3 (some .int) 3 86 [jR 0] σ (some (jI res)) σ' := by
  refine jq_met (own := RX11) (L0 := [(0, jR 0)]) (by decide) rfl rfl rfl ?_
  intro X Γ hnl hlY hRT
  refine jq_use2 (P := fun r => jq_RT jq_zM X (some .int) (some (jI r.1)) r.2) ?_ h hRT
  intro K0 hK0
  unfold X11_seatings
  refine jq_iconst Γ dX11_seatings_0 rfl ?_
  refine jq_istore_n (L' := [(1, jI 0), (0, jR 0)]) Γ dX11_seatings_1 rfl hnl rfl rfl ?_
  refine jq_iconst Γ dX11_seatings_2 rfl ?_
  refine jq_istore_n (L' := [(2, jI 0), (1, jI 0), (0, jR 0)]) Γ dX11_seatings_3 rfl hnl rfl rfl ?_
  refine jq_sub Γ (L' := [(0, jR 0), (1, jI 0), (2, jI 0)]) [2, 1, 0] rfl ?_
  refine jq_loop2 (C := fun (t1 : Int × Int × jq_M) => jq_V jq_zM X (jq_zN jq_zM) t1.2.2 4 [(0, jR 0), (1, jI t1.1), (2, jI t1.2.1)] []) (KX := fun (e10 : Int × jq_M) => jq_V jq_zM X (jq_zN jq_zM) e10.2 34 [(0, jR 0), (1, jI e10.1)] []) ?_ ?_ (0, 0, σ)
  · intro K4_t1 hCt1 hXt1 t1
    unfold X11_seatings_b4
    refine jq_iload_n Γ dX11_seatings_4 rfl 2 rfl ?_
    refine jq_aload_n Γ dX11_seatings_5 rfl 0 rfl (jq_at_0 at_M_0) ?_
    refine jq_cpI (jq_virt (avs := []) (st := [jI t1.2.1]) Γ hlY rfl ml_RX11_377 rfl at_M_0 rfl rfl rfl rfl rfl dX11_seatings_6) (fun r h => ctX11_codes h) (fun v2 => ?_)
    refine jq_icmp_ge (tgt := 34) Γ dX11_seatings_9 rfl ?_ ?_
    · refine jq_sub Γ (L' := [(0, jR 0), (1, jI t1.1)]) [0, 1] rfl ?_
      exact jq_done (hXt1 (t1.1, t1.2.2))
    · refine jq_iload_n Γ dX11_seatings_12 rfl 1 rfl ?_
      refine jq_aload_n Γ dX11_seatings_13 rfl 0 rfl (jq_at_0 at_M_0) ?_
      refine jq_iload_n Γ dX11_seatings_14 rfl 2 rfl ?_
      refine jq_cwZ (jq_virt (avs := [jI t1.2.1]) (st := [jI t1.1]) Γ hlY rfl ml_RX11_380 rfl at_M_0 rfl rfl rfl rfl rfl dX11_seatings_15) rfl (fun r σ' h => ctX11_seatsBy h) (fun v3 s4 hz5 => ?_)
      refine jq_if_eq (tgt := 25) Γ dX11_seatings_18 rfl ?_ ?_
      · refine jq_iconst Γ dX11_seatings_25 rfl ?_
        refine jq_iadd Γ dX11_seatings_26 ?_
        refine jq_nmI (fun v6 => ?_)
        refine jq_istore_n (L' := [(1, jI v6), (0, jR 0), (2, jI t1.2.1)]) Γ dX11_seatings_27 rfl hnl rfl rfl ?_
        refine jq_iincN (L' := fun v7 => [(2, jI v7), (1, jI v6), (0, jR 0)]) Γ dX11_seatings_28 2 rfl hnl rfl (fun _ => rfl) (fun v7 => ?_)
        refine jq_goto Γ (tgt := 4) dX11_seatings_31 rfl ?_
        refine jq_sub Γ (L' := [(0, jR 0), (1, jI v6), (2, jI v7)]) [2, 1, 0] rfl ?_
        exact jq_done (hCt1 (v6, v7, s4))
      · refine jq_iconst Γ dX11_seatings_21 rfl ?_
        refine jq_goto Γ (tgt := 26) dX11_seatings_22 rfl ?_
        refine jq_iadd Γ dX11_seatings_26 ?_
        refine jq_nmI (fun v8 => ?_)
        refine jq_istore_n (L' := [(1, jI v8), (0, jR 0), (2, jI t1.2.1)]) Γ dX11_seatings_27 rfl hnl rfl rfl ?_
        refine jq_iincN (L' := fun v9 => [(2, jI v9), (1, jI v8), (0, jR 0)]) Γ dX11_seatings_28 2 rfl hnl rfl (fun _ => rfl) (fun v9 => ?_)
        refine jq_goto Γ (tgt := 4) dX11_seatings_31 rfl ?_
        refine jq_sub Γ (L' := [(0, jR 0), (1, jI v8), (2, jI v9)]) [2, 1, 0] rfl ?_
        exact jq_done (hCt1 (v8, v9, s4))
  · intro e10
    refine jq_aload_n Γ dX11_seatings_34 rfl 0 rfl (jq_at_0 at_M_0) ?_
    refine jq_iload_n Γ dX11_seatings_35 rfl 1 rfl ?_
    refine jq_cwI (jq_virt (avs := [jI e10.1]) (st := []) Γ hlY rfl ml_RX11_88 rfl at_M_0 rfl rfl rfl rfl rfl dX11_seatings_36) (fun r σ' h => ctX11_gives h) (fun v11 s12 => ?_)
    exact jq_ireturn Γ dX11_seatings_39 (hK0 _)


theorem dX11_good_0 : decode cX11_good 0 = .ok (.iconst 0, 1) := by decide +kernel
theorem dX11_good_1 : decode cX11_good 1 = .ok (.istore_n 1, 1) := by decide +kernel
theorem dX11_good_2 : decode cX11_good 2 = .ok (.iconst 0, 1) := by decide +kernel
theorem dX11_good_3 : decode cX11_good 3 = .ok (.istore_n 2, 1) := by decide +kernel
theorem dX11_good_4 : decode cX11_good 4 = .ok (.iload_n 2, 1) := by decide +kernel
theorem dX11_good_5 : decode cX11_good 5 = .ok (.aload_n 0, 1) := by decide +kernel
theorem dX11_good_6 : decode cX11_good 6 = .ok (.invokevirtual 377, 3) := by decide +kernel
theorem dX11_good_9 : decode cX11_good 9 = .ok (.if_icmp .ge 32, 3) := by decide +kernel
theorem dX11_good_12 : decode cX11_good 12 = .ok (.iload_n 1, 1) := by decide +kernel
theorem dX11_good_13 : decode cX11_good 13 = .ok (.aload_n 0, 1) := by decide +kernel
theorem dX11_good_14 : decode cX11_good 14 = .ok (.iload_n 2, 1) := by decide +kernel
theorem dX11_good_15 : decode cX11_good 15 = .ok (.invokevirtual 380, 3) := by decide +kernel
theorem dX11_good_18 : decode cX11_good 18 = .ok (.ifCond .eq 14, 3) := by decide +kernel
theorem dX11_good_21 : decode cX11_good 21 = .ok (.aload_n 0, 1) := by decide +kernel
theorem dX11_good_22 : decode cX11_good 22 = .ok (.invokevirtual 383, 3) := by decide +kernel
theorem dX11_good_25 : decode cX11_good 25 = .ok (.ifCond .eq 7, 3) := by decide +kernel
theorem dX11_good_28 : decode cX11_good 28 = .ok (.iconst 1, 1) := by decide +kernel
theorem dX11_good_29 : decode cX11_good 29 = .ok (.goto 4, 3) := by decide +kernel
theorem dX11_good_32 : decode cX11_good 32 = .ok (.iconst 0, 1) := by decide +kernel
theorem dX11_good_33 : decode cX11_good 33 = .ok (.iadd, 1) := by decide +kernel
theorem dX11_good_34 : decode cX11_good 34 = .ok (.istore_n 1, 1) := by decide +kernel
theorem dX11_good_35 : decode cX11_good 35 = .ok (.iinc 2 1, 3) := by decide +kernel
theorem dX11_good_38 : decode cX11_good 38 = .ok (.goto (-34), 3) := by decide +kernel
theorem dX11_good_41 : decode cX11_good 41 = .ok (.aload_n 0, 1) := by decide +kernel
theorem dX11_good_42 : decode cX11_good 42 = .ok (.iload_n 1, 1) := by decide +kernel
theorem dX11_good_43 : decode cX11_good 43 = .ok (.invokevirtual 88, 3) := by decide +kernel
theorem dX11_good_46 : decode cX11_good 46 = .ok (.ireturn, 1) := by decide +kernel
set_option maxHeartbeats 4000000 in
set_option maxRecDepth 100000 in
theorem ctX11_good  {σ : jq_M} {res : Int} {σ' : jq_M}  (h : X11_good σ = some (res, σ')) : jq_MC jq_zM yX11_good cX11_good 3 (some .int) 7 173 [jR 0] σ (some (jI res)) σ' := by
  refine jq_met (own := RX11) (L0 := [(0, jR 0)]) (by decide) rfl rfl rfl ?_
  intro X Γ hnl hlY hRT
  refine jq_use2 (P := fun r => jq_RT jq_zM X (some .int) (some (jI r.1)) r.2) ?_ h hRT
  intro K0 hK0
  unfold X11_good
  refine jq_iconst Γ dX11_good_0 rfl ?_
  refine jq_istore_n (L' := [(1, jI 0), (0, jR 0)]) Γ dX11_good_1 rfl hnl rfl rfl ?_
  refine jq_iconst Γ dX11_good_2 rfl ?_
  refine jq_istore_n (L' := [(2, jI 0), (1, jI 0), (0, jR 0)]) Γ dX11_good_3 rfl hnl rfl rfl ?_
  refine jq_sub Γ (L' := [(0, jR 0), (1, jI 0), (2, jI 0)]) [2, 1, 0] rfl ?_
  refine jq_loop2 (C := fun (t1 : Int × Int × jq_M) => jq_V jq_zM X (jq_zN jq_zM) t1.2.2 4 [(0, jR 0), (1, jI t1.1), (2, jI t1.2.1)] []) (KX := fun (e14 : Int × jq_M) => jq_V jq_zM X (jq_zN jq_zM) e14.2 41 [(0, jR 0), (1, jI e14.1)] []) ?_ ?_ (0, 0, σ)
  · intro K4_t1 hCt1 hXt1 t1
    unfold X11_good_b4
    refine jq_iload_n Γ dX11_good_4 rfl 2 rfl ?_
    refine jq_aload_n Γ dX11_good_5 rfl 0 rfl (jq_at_0 at_M_0) ?_
    refine jq_cpI (jq_virt (avs := []) (st := [jI t1.2.1]) Γ hlY rfl ml_RX11_377 rfl at_M_0 rfl rfl rfl rfl rfl dX11_good_6) (fun r h => ctX11_codes h) (fun v2 => ?_)
    refine jq_icmp_ge (tgt := 41) Γ dX11_good_9 rfl ?_ ?_
    · refine jq_sub Γ (L' := [(0, jR 0), (1, jI t1.1)]) [0, 1] rfl ?_
      exact jq_done (hXt1 (t1.1, t1.2.2))
    · refine jq_iload_n Γ dX11_good_12 rfl 1 rfl ?_
      refine jq_aload_n Γ dX11_good_13 rfl 0 rfl (jq_at_0 at_M_0) ?_
      refine jq_iload_n Γ dX11_good_14 rfl 2 rfl ?_
      refine jq_cwZ (jq_virt (avs := [jI t1.2.1]) (st := [jI t1.1]) Γ hlY rfl ml_RX11_380 rfl at_M_0 rfl rfl rfl rfl rfl dX11_good_15) rfl (fun r σ' h => ctX11_seatsBy h) (fun v3 s4 hz5 => ?_)
      refine jq_if_eq (tgt := 32) Γ dX11_good_18 rfl ?_ ?_
      · refine jq_iconst Γ dX11_good_32 rfl ?_
        refine jq_iadd Γ dX11_good_33 ?_
        refine jq_nmI (fun v6 => ?_)
        refine jq_istore_n (L' := [(1, jI v6), (0, jR 0), (2, jI t1.2.1)]) Γ dX11_good_34 rfl hnl rfl rfl ?_
        refine jq_iincN (L' := fun v7 => [(2, jI v7), (1, jI v6), (0, jR 0)]) Γ dX11_good_35 2 rfl hnl rfl (fun _ => rfl) (fun v7 => ?_)
        refine jq_goto Γ (tgt := 4) dX11_good_38 rfl ?_
        refine jq_sub Γ (L' := [(0, jR 0), (1, jI v6), (2, jI v7)]) [2, 1, 0] rfl ?_
        exact jq_done (hCt1 (v6, v7, s4))
      · refine jq_aload_n Γ dX11_good_21 rfl 0 rfl (jq_at_0 at_M_0) ?_
        refine jq_cpZ (jq_virt (avs := []) (st := [jI t1.1]) Γ hlY rfl ml_RX11_383 rfl at_M_0 rfl rfl rfl rfl rfl dX11_good_22) rfl (fun r h => ctX11_isGood h) (fun v8 hz9 => ?_)
        refine jq_if_eq (tgt := 32) Γ dX11_good_25 rfl ?_ ?_
        · refine jq_iconst Γ dX11_good_32 rfl ?_
          refine jq_iadd Γ dX11_good_33 ?_
          refine jq_nmI (fun v10 => ?_)
          refine jq_istore_n (L' := [(1, jI v10), (0, jR 0), (2, jI t1.2.1)]) Γ dX11_good_34 rfl hnl rfl rfl ?_
          refine jq_iincN (L' := fun v11 => [(2, jI v11), (1, jI v10), (0, jR 0)]) Γ dX11_good_35 2 rfl hnl rfl (fun _ => rfl) (fun v11 => ?_)
          refine jq_goto Γ (tgt := 4) dX11_good_38 rfl ?_
          refine jq_sub Γ (L' := [(0, jR 0), (1, jI v10), (2, jI v11)]) [2, 1, 0] rfl ?_
          exact jq_done (hCt1 (v10, v11, s4))
        · refine jq_iconst Γ dX11_good_28 rfl ?_
          refine jq_goto Γ (tgt := 33) dX11_good_29 rfl ?_
          refine jq_iadd Γ dX11_good_33 ?_
          refine jq_nmI (fun v12 => ?_)
          refine jq_istore_n (L' := [(1, jI v12), (0, jR 0), (2, jI t1.2.1)]) Γ dX11_good_34 rfl hnl rfl rfl ?_
          refine jq_iincN (L' := fun v13 => [(2, jI v13), (1, jI v12), (0, jR 0)]) Γ dX11_good_35 2 rfl hnl rfl (fun _ => rfl) (fun v13 => ?_)
          refine jq_goto Γ (tgt := 4) dX11_good_38 rfl ?_
          refine jq_sub Γ (L' := [(0, jR 0), (1, jI v12), (2, jI v13)]) [2, 1, 0] rfl ?_
          exact jq_done (hCt1 (v12, v13, s4))
  · intro e14
    refine jq_aload_n Γ dX11_good_41 rfl 0 rfl (jq_at_0 at_M_0) ?_
    refine jq_iload_n Γ dX11_good_42 rfl 1 rfl ?_
    refine jq_cwI (jq_virt (avs := [jI e14.1]) (st := []) Γ hlY rfl ml_RX11_88 rfl at_M_0 rfl rfl rfl rfl rfl dX11_good_43) (fun r σ' h => ctX11_gives h) (fun v15 s16 => ?_)
    exact jq_ireturn Γ dX11_good_46 (hK0 _)


theorem dX11_moves_0 : decode cX11_moves 0 = .ok (.iconst 0, 1) := by decide +kernel
theorem dX11_moves_1 : decode cX11_moves 1 = .ok (.istore_n 2, 1) := by decide +kernel
theorem dX11_moves_2 : decode cX11_moves 2 = .ok (.iload_n 2, 1) := by decide +kernel
theorem dX11_moves_3 : decode cX11_moves 3 = .ok (.aload_n 0, 1) := by decide +kernel
theorem dX11_moves_4 : decode cX11_moves 4 = .ok (.getfield 7, 3) := by decide +kernel
theorem dX11_moves_7 : decode cX11_moves 7 = .ok (.iconst 1, 1) := by decide +kernel
theorem dX11_moves_8 : decode cX11_moves 8 = .ok (.iaload, 1) := by decide +kernel
theorem dX11_moves_9 : decode cX11_moves 9 = .ok (.if_icmp .ge 52, 3) := by decide +kernel
theorem dX11_moves_12 : decode cX11_moves 12 = .ok (.aload_n 0, 1) := by decide +kernel
theorem dX11_moves_13 : decode cX11_moves 13 = .ok (.getfield 47, 3) := by decide +kernel
theorem dX11_moves_16 : decode cX11_moves 16 = .ok (.iload_n 2, 1) := by decide +kernel
theorem dX11_moves_17 : decode cX11_moves 17 = .ok (.iload_n 1, 1) := by decide +kernel
theorem dX11_moves_18 : decode cX11_moves 18 = .ok (.ifCond .eq 21, 3) := by decide +kernel
theorem dX11_moves_21 : decode cX11_moves 21 = .ok (.aload_n 0, 1) := by decide +kernel
theorem dX11_moves_22 : decode cX11_moves 22 = .ok (.getfield 7, 3) := by decide +kernel
theorem dX11_moves_25 : decode cX11_moves 25 = .ok (.iconst 0, 1) := by decide +kernel
theorem dX11_moves_26 : decode cX11_moves 26 = .ok (.iaload, 1) := by decide +kernel
theorem dX11_moves_27 : decode cX11_moves 27 = .ok (.iconst 1, 1) := by decide +kernel
theorem dX11_moves_28 : decode cX11_moves 28 = .ok (.isub, 1) := by decide +kernel
theorem dX11_moves_29 : decode cX11_moves 29 = .ok (.aload_n 0, 1) := by decide +kernel
theorem dX11_moves_30 : decode cX11_moves 30 = .ok (.getfield 47, 3) := by decide +kernel
theorem dX11_moves_33 : decode cX11_moves 33 = .ok (.iload_n 2, 1) := by decide +kernel
theorem dX11_moves_34 : decode cX11_moves 34 = .ok (.iaload, 1) := by decide +kernel
theorem dX11_moves_35 : decode cX11_moves 35 = .ok (.isub, 1) := by decide +kernel
theorem dX11_moves_36 : decode cX11_moves 36 = .ok (.goto 18, 3) := by decide +kernel
theorem dX11_moves_39 : decode cX11_moves 39 = .ok (.aload_n 0, 1) := by decide +kernel
theorem dX11_moves_40 : decode cX11_moves 40 = .ok (.getfield 47, 3) := by decide +kernel
theorem dX11_moves_43 : decode cX11_moves 43 = .ok (.iload_n 2, 1) := by decide +kernel
theorem dX11_moves_44 : decode cX11_moves 44 = .ok (.iaload, 1) := by decide +kernel
theorem dX11_moves_45 : decode cX11_moves 45 = .ok (.iconst 1, 1) := by decide +kernel
theorem dX11_moves_46 : decode cX11_moves 46 = .ok (.iadd, 1) := by decide +kernel
theorem dX11_moves_47 : decode cX11_moves 47 = .ok (.aload_n 0, 1) := by decide +kernel
theorem dX11_moves_48 : decode cX11_moves 48 = .ok (.getfield 7, 3) := by decide +kernel
theorem dX11_moves_51 : decode cX11_moves 51 = .ok (.iconst 0, 1) := by decide +kernel
theorem dX11_moves_52 : decode cX11_moves 52 = .ok (.iaload, 1) := by decide +kernel
theorem dX11_moves_53 : decode cX11_moves 53 = .ok (.irem, 1) := by decide +kernel
theorem dX11_moves_54 : decode cX11_moves 54 = .ok (.iastore, 1) := by decide +kernel
theorem dX11_moves_55 : decode cX11_moves 55 = .ok (.iinc 2 1, 3) := by decide +kernel
theorem dX11_moves_58 : decode cX11_moves 58 = .ok (.goto (-56), 3) := by decide +kernel
theorem dX11_moves_61 : decode cX11_moves 61 = .ok (.return_, 1) := by decide +kernel
set_option maxHeartbeats 4000000 in
set_option maxRecDepth 100000 in
theorem ctX11_moves {p1 : Int} {σ : jq_M} {σ' : jq_M}  (h : X11_moves p1 σ = some σ') : jq_MC jq_zM yX11_moves cX11_moves 3 none 1 40 [jR 0, jI p1] σ none σ' := by
  refine jq_met (own := RX11) (L0 := [(0, jR 0), (1, jI p1)]) (by decide) rfl rfl rfl ?_
  intro X Γ hnl hlY hRT
  refine jq_use2 (P := fun r => jq_RT jq_zM X none none r) ?_ h hRT
  intro K0 hK0
  unfold X11_moves
  refine jq_iconst Γ dX11_moves_0 rfl ?_
  refine jq_istore_n (L' := [(2, jI 0), (0, jR 0), (1, jI p1)]) Γ dX11_moves_1 rfl hnl rfl rfl ?_
  refine jq_sub Γ (L' := [(0, jR 0), (1, jI p1), (2, jI 0)]) [1, 2, 0] rfl ?_
  refine jq_loop2 (C := fun (t1 : Int × jq_M) => jq_V jq_zM X (jq_zN jq_zM) t1.2 2 [(0, jR 0), (1, jI p1), (2, jI t1.1)] []) (KX := fun (e12 : jq_M) => jq_V jq_zM X (jq_zN jq_zM) e12 61 [] []) ?_ ?_ (0, σ)
  · intro K2_t1 hCt1 hXt1 t1
    unfold X11_moves_b2
    refine jq_iload_n Γ dX11_moves_2 rfl 2 rfl ?_
    refine jq_aload_n Γ dX11_moves_3 rfl 0 rfl (jq_at_0 at_M_0) ?_
    refine jq_getR (v := 1) Γ hlY at_M_0 fl_RX11_7 rfl rfl ly_X11_at dX11_moves_4 ?_
    refine jq_iconst Γ dX11_moves_7 rfl ?_
    refine jq_iald Γ at_M_1 rfl dX11_moves_8 (fun v2 => ?_)
    refine jq_icmp_ge (tgt := 61) Γ dX11_moves_9 rfl ?_ ?_
    · refine jq_sub Γ (L' := []) [] rfl ?_
      exact jq_done (hXt1 t1.2)
    · refine jq_aload_n Γ dX11_moves_12 rfl 0 rfl (jq_at_0 at_M_0) ?_
      refine jq_getR (v := 9) Γ hlY at_M_0 fl_RX11_47 rfl rfl ly_X11_seat dX11_moves_13 ?_
      refine jq_iload_n Γ dX11_moves_16 rfl 2 rfl ?_
      refine jq_iload_n Γ dX11_moves_17 rfl 1 rfl ?_
      refine jq_if_eq (tgt := 39) Γ dX11_moves_18 rfl ?_ ?_
      · refine jq_aload_n Γ dX11_moves_39 rfl 0 rfl (jq_at_0 at_M_0) ?_
        refine jq_getR (v := 9) Γ hlY at_M_0 fl_RX11_47 rfl rfl ly_X11_seat dX11_moves_40 ?_
        refine jq_iload_n Γ dX11_moves_43 rfl 2 rfl ?_
        refine jq_iald Γ at_M_9 rfl dX11_moves_44 (fun v3 => ?_)
        refine jq_iconst Γ dX11_moves_45 rfl ?_
        refine jq_iadd Γ dX11_moves_46 ?_
        refine jq_aload_n Γ dX11_moves_47 rfl 0 rfl (jq_at_0 at_M_0) ?_
        refine jq_getR (v := 1) Γ hlY at_M_0 fl_RX11_7 rfl rfl ly_X11_at dX11_moves_48 ?_
        refine jq_iconst Γ dX11_moves_51 rfl ?_
        refine jq_iald Γ at_M_1 rfl dX11_moves_52 (fun v4 => ?_)
        refine jq_iremR Γ dX11_moves_53 (fun v5 => ?_)
        refine jq_iast Γ at_M_9 rfl dX11_moves_54 (fun s6 => ?_)
        refine jq_iincN (L' := fun v7 => [(2, jI v7), (0, jR 0), (1, jI p1)]) Γ dX11_moves_55 2 rfl hnl rfl (fun _ => rfl) (fun v7 => ?_)
        refine jq_goto Γ (tgt := 2) dX11_moves_58 rfl ?_
        refine jq_sub Γ (L' := [(0, jR 0), (1, jI p1), (2, jI v7)]) [1, 2, 0] rfl ?_
        exact jq_done (hCt1 (v7, s6))
      · refine jq_aload_n Γ dX11_moves_21 rfl 0 rfl (jq_at_0 at_M_0) ?_
        refine jq_getR (v := 1) Γ hlY at_M_0 fl_RX11_7 rfl rfl ly_X11_at dX11_moves_22 ?_
        refine jq_iconst Γ dX11_moves_25 rfl ?_
        refine jq_iald Γ at_M_1 rfl dX11_moves_26 (fun v8 => ?_)
        refine jq_iconst Γ dX11_moves_27 rfl ?_
        refine jq_isub Γ dX11_moves_28 ?_
        refine jq_aload_n Γ dX11_moves_29 rfl 0 rfl (jq_at_0 at_M_0) ?_
        refine jq_getR (v := 9) Γ hlY at_M_0 fl_RX11_47 rfl rfl ly_X11_seat dX11_moves_30 ?_
        refine jq_iload_n Γ dX11_moves_33 rfl 2 rfl ?_
        refine jq_iald Γ at_M_9 rfl dX11_moves_34 (fun v9 => ?_)
        refine jq_isub Γ dX11_moves_35 ?_
        refine jq_goto Γ (tgt := 54) dX11_moves_36 rfl ?_
        refine jq_iast Γ at_M_9 rfl dX11_moves_54 (fun s10 => ?_)
        refine jq_iincN (L' := fun v11 => [(2, jI v11), (0, jR 0), (1, jI p1)]) Γ dX11_moves_55 2 rfl hnl rfl (fun _ => rfl) (fun v11 => ?_)
        refine jq_goto Γ (tgt := 2) dX11_moves_58 rfl ?_
        refine jq_sub Γ (L' := [(0, jR 0), (1, jI p1), (2, jI v11)]) [1, 2, 0] rfl ?_
        exact jq_done (hCt1 (v11, s10))
  · intro e12
    exact jq_vreturn Γ dX11_moves_61 (hK0 _)


theorem dX11_isClass_0 : decode cX11_isClass 0 = .ok (.iconst 0, 1) := by decide +kernel
theorem dX11_isClass_1 : decode cX11_isClass 1 = .ok (.istore_n 2, 1) := by decide +kernel
theorem dX11_isClass_2 : decode cX11_isClass 2 = .ok (.iconst 0, 1) := by decide +kernel
theorem dX11_isClass_3 : decode cX11_isClass 3 = .ok (.istore_n 3, 1) := by decide +kernel
theorem dX11_isClass_4 : decode cX11_isClass 4 = .ok (.iload_n 3, 1) := by decide +kernel
theorem dX11_isClass_5 : decode cX11_isClass 5 = .ok (.iconst 2, 1) := by decide +kernel
theorem dX11_isClass_6 : decode cX11_isClass 6 = .ok (.if_icmp .ge 66, 3) := by decide +kernel
theorem dX11_isClass_9 : decode cX11_isClass 9 = .ok (.iconst 0, 1) := by decide +kernel
theorem dX11_isClass_10 : decode cX11_isClass 10 = .ok (.istore 4, 2) := by decide +kernel
theorem dX11_isClass_12 : decode cX11_isClass 12 = .ok (.iload 4, 2) := by decide +kernel
theorem dX11_isClass_14 : decode cX11_isClass 14 = .ok (.aload_n 0, 1) := by decide +kernel
theorem dX11_isClass_15 : decode cX11_isClass 15 = .ok (.getfield 7, 3) := by decide +kernel
theorem dX11_isClass_18 : decode cX11_isClass 18 = .ok (.iconst 0, 1) := by decide +kernel
theorem dX11_isClass_19 : decode cX11_isClass 19 = .ok (.iaload, 1) := by decide +kernel
theorem dX11_isClass_20 : decode cX11_isClass 20 = .ok (.if_icmp .ge 41, 3) := by decide +kernel
theorem dX11_isClass_23 : decode cX11_isClass 23 = .ok (.aload_n 0, 1) := by decide +kernel
theorem dX11_isClass_24 : decode cX11_isClass 24 = .ok (.invokevirtual 386, 3) := by decide +kernel
theorem dX11_isClass_27 : decode cX11_isClass 27 = .ok (.iload_n 1, 1) := by decide +kernel
theorem dX11_isClass_28 : decode cX11_isClass 28 = .ok (.if_icmp .ge 5, 3) := by decide +kernel
theorem dX11_isClass_31 : decode cX11_isClass 31 = .ok (.iconst 0, 1) := by decide +kernel
theorem dX11_isClass_32 : decode cX11_isClass 32 = .ok (.ireturn, 1) := by decide +kernel
theorem dX11_isClass_33 : decode cX11_isClass 33 = .ok (.iload_n 2, 1) := by decide +kernel
theorem dX11_isClass_34 : decode cX11_isClass 34 = .ok (.ifCond .ne 10, 3) := by decide +kernel
theorem dX11_isClass_37 : decode cX11_isClass 37 = .ok (.aload_n 0, 1) := by decide +kernel
theorem dX11_isClass_38 : decode cX11_isClass 38 = .ok (.invokevirtual 383, 3) := by decide +kernel
theorem dX11_isClass_41 : decode cX11_isClass 41 = .ok (.ifCond .eq 7, 3) := by decide +kernel
theorem dX11_isClass_44 : decode cX11_isClass 44 = .ok (.iconst 1, 1) := by decide +kernel
theorem dX11_isClass_45 : decode cX11_isClass 45 = .ok (.goto 4, 3) := by decide +kernel
theorem dX11_isClass_48 : decode cX11_isClass 48 = .ok (.iconst 0, 1) := by decide +kernel
theorem dX11_isClass_49 : decode cX11_isClass 49 = .ok (.istore_n 2, 1) := by decide +kernel
theorem dX11_isClass_50 : decode cX11_isClass 50 = .ok (.aload_n 0, 1) := by decide +kernel
theorem dX11_isClass_51 : decode cX11_isClass 51 = .ok (.iconst 0, 1) := by decide +kernel
theorem dX11_isClass_52 : decode cX11_isClass 52 = .ok (.invokevirtual 389, 3) := by decide +kernel
theorem dX11_isClass_55 : decode cX11_isClass 55 = .ok (.iinc 4 1, 3) := by decide +kernel
theorem dX11_isClass_58 : decode cX11_isClass 58 = .ok (.goto (-46), 3) := by decide +kernel
theorem dX11_isClass_61 : decode cX11_isClass 61 = .ok (.aload_n 0, 1) := by decide +kernel
theorem dX11_isClass_62 : decode cX11_isClass 62 = .ok (.iconst 1, 1) := by decide +kernel
theorem dX11_isClass_63 : decode cX11_isClass 63 = .ok (.invokevirtual 389, 3) := by decide +kernel
theorem dX11_isClass_66 : decode cX11_isClass 66 = .ok (.iinc 3 1, 3) := by decide +kernel
theorem dX11_isClass_69 : decode cX11_isClass 69 = .ok (.goto (-65), 3) := by decide +kernel
theorem dX11_isClass_72 : decode cX11_isClass 72 = .ok (.iload_n 2, 1) := by decide +kernel
theorem dX11_isClass_73 : decode cX11_isClass 73 = .ok (.ireturn, 1) := by decide +kernel
set_option maxHeartbeats 4000000 in
set_option maxRecDepth 100000 in
theorem ctX11_isClass {p1 : Int} {σ : jq_M} {res : Int} {σ' : jq_M}  (h : X11_isClass p1 σ = some (res, σ')) : jq_MC jq_zM yX11_isClass cX11_isClass 5 (some .boolean) 7 173 [jR 0, jI p1] σ (some (jI res)) σ' := by
  refine jq_met (own := RX11) (L0 := [(0, jR 0), (1, jI p1)]) (by decide) rfl rfl rfl ?_
  intro X Γ hnl hlY hRT
  refine jq_use2 (P := fun r => jq_RT jq_zM X (some .boolean) (some (jI r.1)) r.2) ?_ h hRT
  intro K0 hK0
  unfold X11_isClass
  refine jq_iconst Γ dX11_isClass_0 rfl ?_
  refine jq_istore_n (L' := [(2, jI 0), (0, jR 0), (1, jI p1)]) Γ dX11_isClass_1 rfl hnl rfl rfl ?_
  refine jq_iconst Γ dX11_isClass_2 rfl ?_
  refine jq_istore_n (L' := [(3, jI 0), (2, jI 0), (0, jR 0), (1, jI p1)]) Γ dX11_isClass_3 rfl hnl rfl rfl ?_
  refine jq_sub Γ (L' := [(0, jR 0), (1, jI p1), (2, jI 0), (3, jI 0)]) [2, 3, 1, 0] rfl ?_
  refine jq_loop2 (C := fun (t1 : Int × Int × jq_M) => jq_V jq_zM X (jq_zN jq_zM) t1.2.2 4 [(0, jR 0), (1, jI p1), (2, jI t1.1), (3, jI t1.2.1)] []) (KX := Sum.elim (fun (e17 : jq_M) => jq_V jq_zM X (jq_zN jq_zM) e17 31 [] []) (fun (e18 : Int × jq_M) => jq_V jq_zM X (jq_zN jq_zM) e18.2 72 [(2, jI e18.1)] [])) ?_ ?_ (0, 0, σ)
  · intro K4_t1 hCt1 hXt1 t1
    unfold X11_isClass_b4
    refine jq_iload_n Γ dX11_isClass_4 rfl 3 rfl ?_
    refine jq_iconst Γ dX11_isClass_5 rfl ?_
    refine jq_icmp_ge (tgt := 72) Γ dX11_isClass_6 rfl ?_ ?_
    · refine jq_sub Γ (L' := [(2, jI t1.1)]) [2] rfl ?_
      exact jq_done (hXt1 (.inr (t1.1, t1.2.2)))
    · refine jq_iconst Γ dX11_isClass_9 rfl ?_
      refine jq_istore (L' := [(4, jI 0), (0, jR 0), (1, jI p1), (2, jI t1.1), (3, jI t1.2.1)]) Γ dX11_isClass_10 hnl rfl rfl ?_
      refine jq_sub Γ (L' := [(0, jR 0), (1, jI p1), (2, jI t1.1), (3, jI t1.2.1), (4, jI 0)]) [1, 2, 3, 4, 0] rfl ?_
      refine jq_loop2 (C := fun (t2 : Int × Int × jq_M) => jq_V jq_zM X (jq_zN jq_zM) t2.2.2 12 [(0, jR 0), (1, jI p1), (2, jI t2.1), (3, jI t1.2.1), (4, jI t2.2.1)] []) (KX := Sum.elim (fun (e13 : jq_M) => jq_V jq_zM X (jq_zN jq_zM) e13 31 [] []) (fun (e14 : Int × jq_M) => jq_V jq_zM X (jq_zN jq_zM) e14.2 61 [(0, jR 0), (1, jI p1), (2, jI e14.1), (3, jI t1.2.1)] [])) ?_ ?_ (t1.1, 0, t1.2.2)
      · intro K12_t2 hCt2 hXt2 t2
        unfold X11_isClass_b12
        have hj49_1006 : ∀ (j5 : Int) (j6 : Int) (s8 : jq_M) (hz7 : j6 = 0 ∨ j6 = 1), jq_J (X11_isClass_j49 p1 t1 j5 j6 s8) K12_t2 (jq_V jq_zM X (jq_zN jq_zM) s8 49 [(0, jR 0), (1, jI p1), (3, jI t1.2.1), (4, jI j5)] [jI j6]) := by
          intro j5 j6 s8 hz7
          unfold X11_isClass_j49
          refine jq_istore_n (L' := [(2, jI j6), (0, jR 0), (1, jI p1), (3, jI t1.2.1), (4, jI j5)]) Γ dX11_isClass_49 rfl hnl rfl rfl ?_
          refine jq_aload_n Γ dX11_isClass_50 rfl 1 rfl (jq_at_0 at_M_0) ?_
          refine jq_iconst Γ dX11_isClass_51 rfl ?_
          refine jq_cwV (jq_virt (avs := [jI 0]) (st := []) Γ hlY rfl ml_RX11_389 rfl at_M_0 rfl rfl rfl rfl rfl dX11_isClass_52) (fun σ' h => ctX11_moves h) (fun s9 => ?_)
          refine jq_iincN (L' := fun v10 => [(4, jI v10), (2, jI j6), (0, jR 0), (1, jI p1), (3, jI t1.2.1)]) Γ dX11_isClass_55 4 rfl hnl rfl (fun _ => rfl) (fun v10 => ?_)
          refine jq_goto Γ (tgt := 12) dX11_isClass_58 rfl ?_
          refine jq_sub Γ (L' := [(0, jR 0), (1, jI p1), (2, jI j6), (3, jI t1.2.1), (4, jI v10)]) [2, 3, 1, 4, 0] rfl ?_
          exact jq_done (hCt2 (j6, v10, s9))
        refine jq_iload Γ dX11_isClass_12 4 rfl ?_
        refine jq_aload_n Γ dX11_isClass_14 rfl 0 rfl (jq_at_0 at_M_0) ?_
        refine jq_getR (v := 1) Γ hlY at_M_0 fl_RX11_7 rfl rfl ly_X11_at dX11_isClass_15 ?_
        refine jq_iconst Γ dX11_isClass_18 rfl ?_
        refine jq_iald Γ at_M_1 rfl dX11_isClass_19 (fun v3 => ?_)
        refine jq_icmp_ge (tgt := 61) Γ dX11_isClass_20 rfl ?_ ?_
        · refine jq_sub Γ (L' := [(0, jR 0), (1, jI p1), (2, jI t2.1), (3, jI t1.2.1)]) [0, 1, 2, 3] rfl ?_
          exact jq_done (hXt2 (.inr (t2.1, t2.2.2)))
        · refine jq_aload_n Γ dX11_isClass_23 rfl 0 rfl (jq_at_0 at_M_0) ?_
          refine jq_cpI (jq_virt (avs := []) (st := []) Γ hlY rfl ml_RX11_386 rfl at_M_0 rfl rfl rfl rfl rfl dX11_isClass_24) (fun r h => ctX11_codeOf h) (fun v4 => ?_)
          refine jq_iload_n Γ dX11_isClass_27 rfl 1 rfl ?_
          refine jq_icmp_ge (tgt := 33) Γ dX11_isClass_28 rfl ?_ ?_
          · refine jq_iload_n Γ dX11_isClass_33 rfl 2 rfl ?_
            refine jq_if_ne (tgt := 44) Γ dX11_isClass_34 rfl ?_ ?_
            · refine jq_iconst Γ dX11_isClass_44 rfl ?_
              refine jq_goto Γ (tgt := 49) dX11_isClass_45 rfl ?_
              refine jq_sub Γ (L' := [(0, jR 0), (1, jI p1), (3, jI t1.2.1), (4, jI t2.2.1)]) [0, 1, 3, 4] rfl ?_
              exact hj49_1006 t2.2.1 1 t2.2.2 (Or.inr rfl)
            · refine jq_aload_n Γ dX11_isClass_37 rfl 0 rfl (jq_at_0 at_M_0) ?_
              refine jq_cpZ (jq_virt (avs := []) (st := []) Γ hlY rfl ml_RX11_383 rfl at_M_0 rfl rfl rfl rfl rfl dX11_isClass_38) rfl (fun r h => ctX11_isGood h) (fun v11 hz12 => ?_)
              refine jq_if_eq (tgt := 48) Γ dX11_isClass_41 rfl ?_ ?_
              · refine jq_iconst Γ dX11_isClass_48 rfl ?_
                refine jq_sub Γ (L' := [(0, jR 0), (1, jI p1), (3, jI t1.2.1), (4, jI t2.2.1)]) [0, 1, 3, 4] rfl ?_
                exact hj49_1006 t2.2.1 0 t2.2.2 (Or.inl rfl)
              · refine jq_iconst Γ dX11_isClass_44 rfl ?_
                refine jq_goto Γ (tgt := 49) dX11_isClass_45 rfl ?_
                refine jq_sub Γ (L' := [(0, jR 0), (1, jI p1), (3, jI t1.2.1), (4, jI t2.2.1)]) [0, 1, 3, 4] rfl ?_
                exact hj49_1006 t2.2.1 1 t2.2.2 (Or.inr rfl)
          · refine jq_sub Γ (L' := []) [] rfl ?_
            exact jq_done (hXt2 (.inl t2.2.2))
      · refine jq_elim ?_ ?_
        · intro e13
          exact jq_done (hXt1 (.inl e13))
        · intro e14
          refine jq_aload_n Γ dX11_isClass_61 rfl 0 rfl (jq_at_0 at_M_0) ?_
          refine jq_iconst Γ dX11_isClass_62 rfl ?_
          refine jq_cwV (jq_virt (avs := [jI 1]) (st := []) Γ hlY rfl ml_RX11_389 rfl at_M_0 rfl rfl rfl rfl rfl dX11_isClass_63) (fun σ' h => ctX11_moves h) (fun s15 => ?_)
          refine jq_iincN (L' := fun v16 => [(3, jI v16), (0, jR 0), (1, jI p1), (2, jI e14.1)]) Γ dX11_isClass_66 3 rfl hnl rfl (fun _ => rfl) (fun v16 => ?_)
          refine jq_goto Γ (tgt := 4) dX11_isClass_69 rfl ?_
          refine jq_sub Γ (L' := [(0, jR 0), (1, jI p1), (2, jI e14.1), (3, jI v16)]) [1, 2, 3, 0] rfl ?_
          exact jq_done (hCt1 (e14.1, v16, s15))
  · refine jq_elim ?_ ?_
    · intro e17
      refine jq_iconst Γ dX11_isClass_31 rfl ?_
      exact jq_zreturn Γ (Or.inl rfl) dX11_isClass_32 (hK0 _)
    · intro e18
      refine jq_iload_n Γ dX11_isClass_72 rfl 0 rfl ?_
      refine jq_blN (fun v19 hz20 => ?_)
      exact jq_zreturn Γ (hz20) dX11_isClass_73 (hK0 _)


theorem dX11_classes_0 : decode cX11_classes 0 = .ok (.iconst 0, 1) := by decide +kernel
theorem dX11_classes_1 : decode cX11_classes 1 = .ok (.istore_n 1, 1) := by decide +kernel
theorem dX11_classes_2 : decode cX11_classes 2 = .ok (.iconst 0, 1) := by decide +kernel
theorem dX11_classes_3 : decode cX11_classes 3 = .ok (.istore_n 2, 1) := by decide +kernel
theorem dX11_classes_4 : decode cX11_classes 4 = .ok (.iload_n 2, 1) := by decide +kernel
theorem dX11_classes_5 : decode cX11_classes 5 = .ok (.aload_n 0, 1) := by decide +kernel
theorem dX11_classes_6 : decode cX11_classes 6 = .ok (.invokevirtual 377, 3) := by decide +kernel
theorem dX11_classes_9 : decode cX11_classes 9 = .ok (.if_icmp .ge 33, 3) := by decide +kernel
theorem dX11_classes_12 : decode cX11_classes 12 = .ok (.iload_n 1, 1) := by decide +kernel
theorem dX11_classes_13 : decode cX11_classes 13 = .ok (.aload_n 0, 1) := by decide +kernel
theorem dX11_classes_14 : decode cX11_classes 14 = .ok (.iload_n 2, 1) := by decide +kernel
theorem dX11_classes_15 : decode cX11_classes 15 = .ok (.invokevirtual 380, 3) := by decide +kernel
theorem dX11_classes_18 : decode cX11_classes 18 = .ok (.ifCond .eq 15, 3) := by decide +kernel
theorem dX11_classes_21 : decode cX11_classes 21 = .ok (.aload_n 0, 1) := by decide +kernel
theorem dX11_classes_22 : decode cX11_classes 22 = .ok (.iload_n 2, 1) := by decide +kernel
theorem dX11_classes_23 : decode cX11_classes 23 = .ok (.invokevirtual 393, 3) := by decide +kernel
theorem dX11_classes_26 : decode cX11_classes 26 = .ok (.ifCond .eq 7, 3) := by decide +kernel
theorem dX11_classes_29 : decode cX11_classes 29 = .ok (.iconst 1, 1) := by decide +kernel
theorem dX11_classes_30 : decode cX11_classes 30 = .ok (.goto 4, 3) := by decide +kernel
theorem dX11_classes_33 : decode cX11_classes 33 = .ok (.iconst 0, 1) := by decide +kernel
theorem dX11_classes_34 : decode cX11_classes 34 = .ok (.iadd, 1) := by decide +kernel
theorem dX11_classes_35 : decode cX11_classes 35 = .ok (.istore_n 1, 1) := by decide +kernel
theorem dX11_classes_36 : decode cX11_classes 36 = .ok (.iinc 2 1, 3) := by decide +kernel
theorem dX11_classes_39 : decode cX11_classes 39 = .ok (.goto (-35), 3) := by decide +kernel
theorem dX11_classes_42 : decode cX11_classes 42 = .ok (.aload_n 0, 1) := by decide +kernel
theorem dX11_classes_43 : decode cX11_classes 43 = .ok (.iload_n 1, 1) := by decide +kernel
theorem dX11_classes_44 : decode cX11_classes 44 = .ok (.invokevirtual 88, 3) := by decide +kernel
theorem dX11_classes_47 : decode cX11_classes 47 = .ok (.ireturn, 1) := by decide +kernel
set_option maxHeartbeats 4000000 in
set_option maxRecDepth 100000 in
theorem ctX11_classes  {σ : jq_M} {res : Int} {σ' : jq_M}  (h : X11_classes σ = some (res, σ')) : jq_MC jq_zM yX11_classes cX11_classes 3 (some .int) 8 197 [jR 0] σ (some (jI res)) σ' := by
  refine jq_met (own := RX11) (L0 := [(0, jR 0)]) (by decide) rfl rfl rfl ?_
  intro X Γ hnl hlY hRT
  refine jq_use2 (P := fun r => jq_RT jq_zM X (some .int) (some (jI r.1)) r.2) ?_ h hRT
  intro K0 hK0
  unfold X11_classes
  refine jq_iconst Γ dX11_classes_0 rfl ?_
  refine jq_istore_n (L' := [(1, jI 0), (0, jR 0)]) Γ dX11_classes_1 rfl hnl rfl rfl ?_
  refine jq_iconst Γ dX11_classes_2 rfl ?_
  refine jq_istore_n (L' := [(2, jI 0), (1, jI 0), (0, jR 0)]) Γ dX11_classes_3 rfl hnl rfl rfl ?_
  refine jq_sub Γ (L' := [(0, jR 0), (1, jI 0), (2, jI 0)]) [2, 1, 0] rfl ?_
  refine jq_loop2 (C := fun (t1 : Int × Int × jq_M) => jq_V jq_zM X (jq_zN jq_zM) t1.2.2 4 [(0, jR 0), (1, jI t1.1), (2, jI t1.2.1)] []) (KX := fun (e15 : Int × jq_M) => jq_V jq_zM X (jq_zN jq_zM) e15.2 42 [(0, jR 0), (1, jI e15.1)] []) ?_ ?_ (0, 0, σ)
  · intro K4_t1 hCt1 hXt1 t1
    unfold X11_classes_b4
    refine jq_iload_n Γ dX11_classes_4 rfl 2 rfl ?_
    refine jq_aload_n Γ dX11_classes_5 rfl 0 rfl (jq_at_0 at_M_0) ?_
    refine jq_cpI (jq_virt (avs := []) (st := [jI t1.2.1]) Γ hlY rfl ml_RX11_377 rfl at_M_0 rfl rfl rfl rfl rfl dX11_classes_6) (fun r h => ctX11_codes h) (fun v2 => ?_)
    refine jq_icmp_ge (tgt := 42) Γ dX11_classes_9 rfl ?_ ?_
    · refine jq_sub Γ (L' := [(0, jR 0), (1, jI t1.1)]) [0, 1] rfl ?_
      exact jq_done (hXt1 (t1.1, t1.2.2))
    · refine jq_iload_n Γ dX11_classes_12 rfl 1 rfl ?_
      refine jq_aload_n Γ dX11_classes_13 rfl 0 rfl (jq_at_0 at_M_0) ?_
      refine jq_iload_n Γ dX11_classes_14 rfl 2 rfl ?_
      refine jq_cwZ (jq_virt (avs := [jI t1.2.1]) (st := [jI t1.1]) Γ hlY rfl ml_RX11_380 rfl at_M_0 rfl rfl rfl rfl rfl dX11_classes_15) rfl (fun r σ' h => ctX11_seatsBy h) (fun v3 s4 hz5 => ?_)
      refine jq_if_eq (tgt := 33) Γ dX11_classes_18 rfl ?_ ?_
      · refine jq_iconst Γ dX11_classes_33 rfl ?_
        refine jq_iadd Γ dX11_classes_34 ?_
        refine jq_nmI (fun v6 => ?_)
        refine jq_istore_n (L' := [(1, jI v6), (0, jR 0), (2, jI t1.2.1)]) Γ dX11_classes_35 rfl hnl rfl rfl ?_
        refine jq_iincN (L' := fun v7 => [(2, jI v7), (1, jI v6), (0, jR 0)]) Γ dX11_classes_36 2 rfl hnl rfl (fun _ => rfl) (fun v7 => ?_)
        refine jq_goto Γ (tgt := 4) dX11_classes_39 rfl ?_
        refine jq_sub Γ (L' := [(0, jR 0), (1, jI v6), (2, jI v7)]) [2, 1, 0] rfl ?_
        exact jq_done (hCt1 (v6, v7, s4))
      · refine jq_aload_n Γ dX11_classes_21 rfl 0 rfl (jq_at_0 at_M_0) ?_
        refine jq_iload_n Γ dX11_classes_22 rfl 2 rfl ?_
        refine jq_cwZ (jq_virt (avs := [jI t1.2.1]) (st := [jI t1.1]) Γ hlY rfl ml_RX11_393 rfl at_M_0 rfl rfl rfl rfl rfl dX11_classes_23) rfl (fun r σ' h => ctX11_isClass h) (fun v8 s9 hz10 => ?_)
        refine jq_if_eq (tgt := 33) Γ dX11_classes_26 rfl ?_ ?_
        · refine jq_iconst Γ dX11_classes_33 rfl ?_
          refine jq_iadd Γ dX11_classes_34 ?_
          refine jq_nmI (fun v11 => ?_)
          refine jq_istore_n (L' := [(1, jI v11), (0, jR 0), (2, jI t1.2.1)]) Γ dX11_classes_35 rfl hnl rfl rfl ?_
          refine jq_iincN (L' := fun v12 => [(2, jI v12), (1, jI v11), (0, jR 0)]) Γ dX11_classes_36 2 rfl hnl rfl (fun _ => rfl) (fun v12 => ?_)
          refine jq_goto Γ (tgt := 4) dX11_classes_39 rfl ?_
          refine jq_sub Γ (L' := [(0, jR 0), (1, jI v11), (2, jI v12)]) [2, 1, 0] rfl ?_
          exact jq_done (hCt1 (v11, v12, s9))
        · refine jq_iconst Γ dX11_classes_29 rfl ?_
          refine jq_goto Γ (tgt := 34) dX11_classes_30 rfl ?_
          refine jq_iadd Γ dX11_classes_34 ?_
          refine jq_nmI (fun v13 => ?_)
          refine jq_istore_n (L' := [(1, jI v13), (0, jR 0), (2, jI t1.2.1)]) Γ dX11_classes_35 rfl hnl rfl rfl ?_
          refine jq_iincN (L' := fun v14 => [(2, jI v14), (1, jI v13), (0, jR 0)]) Γ dX11_classes_36 2 rfl hnl rfl (fun _ => rfl) (fun v14 => ?_)
          refine jq_goto Γ (tgt := 4) dX11_classes_39 rfl ?_
          refine jq_sub Γ (L' := [(0, jR 0), (1, jI v13), (2, jI v14)]) [2, 1, 0] rfl ?_
          exact jq_done (hCt1 (v13, v14, s9))
  · intro e15
    refine jq_aload_n Γ dX11_classes_42 rfl 0 rfl (jq_at_0 at_M_0) ?_
    refine jq_iload_n Γ dX11_classes_43 rfl 1 rfl ?_
    refine jq_cwI (jq_virt (avs := [jI e15.1]) (st := []) Γ hlY rfl ml_RX11_88 rfl at_M_0 rfl rfl rfl rfl rfl dX11_classes_44) (fun r σ' h => ctX11_gives h) (fun v16 s17 => ?_)
    exact jq_ireturn Γ dX11_classes_47 (hK0 _)


theorem dX11_firstGood_0 : decode cX11_firstGood 0 = .ok (.iconst 0, 1) := by decide +kernel
theorem dX11_firstGood_1 : decode cX11_firstGood 1 = .ok (.istore_n 1, 1) := by decide +kernel
theorem dX11_firstGood_2 : decode cX11_firstGood 2 = .ok (.iload_n 1, 1) := by decide +kernel
theorem dX11_firstGood_3 : decode cX11_firstGood 3 = .ok (.aload_n 0, 1) := by decide +kernel
theorem dX11_firstGood_4 : decode cX11_firstGood 4 = .ok (.invokevirtual 377, 3) := by decide +kernel
theorem dX11_firstGood_7 : decode cX11_firstGood 7 = .ok (.if_icmp .ge 26, 3) := by decide +kernel
theorem dX11_firstGood_10 : decode cX11_firstGood 10 = .ok (.aload_n 0, 1) := by decide +kernel
theorem dX11_firstGood_11 : decode cX11_firstGood 11 = .ok (.iload_n 1, 1) := by decide +kernel
theorem dX11_firstGood_12 : decode cX11_firstGood 12 = .ok (.invokevirtual 380, 3) := by decide +kernel
theorem dX11_firstGood_15 : decode cX11_firstGood 15 = .ok (.ifCond .eq 12, 3) := by decide +kernel
theorem dX11_firstGood_18 : decode cX11_firstGood 18 = .ok (.aload_n 0, 1) := by decide +kernel
theorem dX11_firstGood_19 : decode cX11_firstGood 19 = .ok (.invokevirtual 383, 3) := by decide +kernel
theorem dX11_firstGood_22 : decode cX11_firstGood 22 = .ok (.ifCond .eq 5, 3) := by decide +kernel
theorem dX11_firstGood_25 : decode cX11_firstGood 25 = .ok (.iload_n 1, 1) := by decide +kernel
theorem dX11_firstGood_26 : decode cX11_firstGood 26 = .ok (.ireturn, 1) := by decide +kernel
theorem dX11_firstGood_27 : decode cX11_firstGood 27 = .ok (.iinc 1 1, 3) := by decide +kernel
theorem dX11_firstGood_30 : decode cX11_firstGood 30 = .ok (.goto (-28), 3) := by decide +kernel
theorem dX11_firstGood_33 : decode cX11_firstGood 33 = .ok (.iconst (-1), 1) := by decide +kernel
theorem dX11_firstGood_34 : decode cX11_firstGood 34 = .ok (.ireturn, 1) := by decide +kernel
set_option maxHeartbeats 4000000 in
set_option maxRecDepth 100000 in
theorem ctX11_firstGood  {σ : jq_M} {res : Int} {σ' : jq_M}  (h : X11_firstGood σ = some (res, σ')) : jq_MC jq_zM yX11_firstGood cX11_firstGood 2 (some .int) 7 173 [jR 0] σ (some (jI res)) σ' := by
  refine jq_met (own := RX11) (L0 := [(0, jR 0)]) (by decide) rfl rfl rfl ?_
  intro X Γ hnl hlY hRT
  refine jq_use2 (P := fun r => jq_RT jq_zM X (some .int) (some (jI r.1)) r.2) ?_ h hRT
  intro K0 hK0
  unfold X11_firstGood
  refine jq_iconst Γ dX11_firstGood_0 rfl ?_
  refine jq_istore_n (L' := [(1, jI 0), (0, jR 0)]) Γ dX11_firstGood_1 rfl hnl rfl rfl ?_
  refine jq_sub Γ (L' := [(0, jR 0), (1, jI 0)]) [1, 0] rfl ?_
  refine jq_loop2 (C := fun (t1 : Int × jq_M) => jq_V jq_zM X (jq_zN jq_zM) t1.2 2 [(0, jR 0), (1, jI t1.1)] []) (KX := Sum.elim (fun (e10 : Int × jq_M) => jq_V jq_zM X (jq_zN jq_zM) e10.2 25 [(1, jI e10.1)] []) (fun (e11 : jq_M) => jq_V jq_zM X (jq_zN jq_zM) e11 33 [] [])) ?_ ?_ (0, σ)
  · intro K2_t1 hCt1 hXt1 t1
    unfold X11_firstGood_b2
    refine jq_iload_n Γ dX11_firstGood_2 rfl 1 rfl ?_
    refine jq_aload_n Γ dX11_firstGood_3 rfl 0 rfl (jq_at_0 at_M_0) ?_
    refine jq_cpI (jq_virt (avs := []) (st := [jI t1.1]) Γ hlY rfl ml_RX11_377 rfl at_M_0 rfl rfl rfl rfl rfl dX11_firstGood_4) (fun r h => ctX11_codes h) (fun v2 => ?_)
    refine jq_icmp_ge (tgt := 33) Γ dX11_firstGood_7 rfl ?_ ?_
    · refine jq_sub Γ (L' := []) [] rfl ?_
      exact jq_done (hXt1 (.inr t1.2))
    · refine jq_aload_n Γ dX11_firstGood_10 rfl 0 rfl (jq_at_0 at_M_0) ?_
      refine jq_iload_n Γ dX11_firstGood_11 rfl 1 rfl ?_
      refine jq_cwZ (jq_virt (avs := [jI t1.1]) (st := []) Γ hlY rfl ml_RX11_380 rfl at_M_0 rfl rfl rfl rfl rfl dX11_firstGood_12) rfl (fun r σ' h => ctX11_seatsBy h) (fun v3 s4 hz5 => ?_)
      refine jq_if_eq (tgt := 27) Γ dX11_firstGood_15 rfl ?_ ?_
      · refine jq_iincN (L' := fun v6 => [(1, jI v6), (0, jR 0)]) Γ dX11_firstGood_27 1 rfl hnl rfl (fun _ => rfl) (fun v6 => ?_)
        refine jq_goto Γ (tgt := 2) dX11_firstGood_30 rfl ?_
        refine jq_sub Γ (L' := [(0, jR 0), (1, jI v6)]) [1, 0] rfl ?_
        exact jq_done (hCt1 (v6, s4))
      · refine jq_aload_n Γ dX11_firstGood_18 rfl 0 rfl (jq_at_0 at_M_0) ?_
        refine jq_cpZ (jq_virt (avs := []) (st := []) Γ hlY rfl ml_RX11_383 rfl at_M_0 rfl rfl rfl rfl rfl dX11_firstGood_19) rfl (fun r h => ctX11_isGood h) (fun v7 hz8 => ?_)
        refine jq_if_eq (tgt := 27) Γ dX11_firstGood_22 rfl ?_ ?_
        · refine jq_iincN (L' := fun v9 => [(1, jI v9), (0, jR 0)]) Γ dX11_firstGood_27 1 rfl hnl rfl (fun _ => rfl) (fun v9 => ?_)
          refine jq_goto Γ (tgt := 2) dX11_firstGood_30 rfl ?_
          refine jq_sub Γ (L' := [(0, jR 0), (1, jI v9)]) [1, 0] rfl ?_
          exact jq_done (hCt1 (v9, s4))
        · refine jq_sub Γ (L' := [(1, jI t1.1)]) [1] rfl ?_
          exact jq_done (hXt1 (.inl (t1.1, s4)))
  · refine jq_elim ?_ ?_
    · intro e10
      refine jq_iload_n Γ dX11_firstGood_25 rfl 0 rfl ?_
      exact jq_ireturn Γ dX11_firstGood_26 (hK0 _)
    · intro e11
      refine jq_iconst Γ dX11_firstGood_33 rfl ?_
      exact jq_ireturn Γ dX11_firstGood_34 (hK0 _)


theorem dX11_goodAt_0 : decode cX11_goodAt 0 = .ok (.aload_n 0, 1) := by decide +kernel
theorem dX11_goodAt_1 : decode cX11_goodAt 1 = .ok (.iload_n 1, 1) := by decide +kernel
theorem dX11_goodAt_2 : decode cX11_goodAt 2 = .ok (.invokevirtual 251, 3) := by decide +kernel
theorem dX11_goodAt_5 : decode cX11_goodAt 5 = .ok (.ifCond .ne 11, 3) := by decide +kernel
theorem dX11_goodAt_8 : decode cX11_goodAt 8 = .ok (.aload_n 0, 1) := by decide +kernel
theorem dX11_goodAt_9 : decode cX11_goodAt 9 = .ok (.iconst 1, 1) := by decide +kernel
theorem dX11_goodAt_10 : decode cX11_goodAt 10 = .ok (.invokevirtual 84, 3) := by decide +kernel
theorem dX11_goodAt_13 : decode cX11_goodAt 13 = .ok (.goto 30, 3) := by decide +kernel
theorem dX11_goodAt_16 : decode cX11_goodAt 16 = .ok (.aload_n 0, 1) := by decide +kernel
theorem dX11_goodAt_17 : decode cX11_goodAt 17 = .ok (.invokevirtual 396, 3) := by decide +kernel
theorem dX11_goodAt_20 : decode cX11_goodAt 20 = .ok (.iconst (-1), 1) := by decide +kernel
theorem dX11_goodAt_21 : decode cX11_goodAt 21 = .ok (.if_icmp .ne 12, 3) := by decide +kernel
theorem dX11_goodAt_24 : decode cX11_goodAt 24 = .ok (.aload_n 0, 1) := by decide +kernel
theorem dX11_goodAt_25 : decode cX11_goodAt 25 = .ok (.bipush 6, 2) := by decide +kernel
theorem dX11_goodAt_27 : decode cX11_goodAt 27 = .ok (.invokevirtual 84, 3) := by decide +kernel
theorem dX11_goodAt_30 : decode cX11_goodAt 30 = .ok (.goto 13, 3) := by decide +kernel
theorem dX11_goodAt_33 : decode cX11_goodAt 33 = .ok (.aload_n 0, 1) := by decide +kernel
theorem dX11_goodAt_34 : decode cX11_goodAt 34 = .ok (.aload_n 0, 1) := by decide +kernel
theorem dX11_goodAt_35 : decode cX11_goodAt 35 = .ok (.getfield 47, 3) := by decide +kernel
theorem dX11_goodAt_38 : decode cX11_goodAt 38 = .ok (.iload_n 1, 1) := by decide +kernel
theorem dX11_goodAt_39 : decode cX11_goodAt 39 = .ok (.iaload, 1) := by decide +kernel
theorem dX11_goodAt_40 : decode cX11_goodAt 40 = .ok (.invokevirtual 88, 3) := by decide +kernel
theorem dX11_goodAt_43 : decode cX11_goodAt 43 = .ok (.ireturn, 1) := by decide +kernel
set_option maxHeartbeats 4000000 in
set_option maxRecDepth 100000 in
theorem ctX11_goodAt {p1 : Int} {σ : jq_M} {res : Int} {σ' : jq_M}  (h : X11_goodAt p1 σ = some (res, σ')) : jq_MC jq_zM yX11_goodAt cX11_goodAt 2 (some .int) 8 194 [jR 0, jI p1] σ (some (jI res)) σ' := by
  refine jq_met (own := RX11) (L0 := [(0, jR 0), (1, jI p1)]) (by decide) rfl rfl rfl ?_
  intro X Γ hnl hlY hRT
  refine jq_use2 (P := fun r => jq_RT jq_zM X (some .int) (some (jI r.1)) r.2) ?_ h hRT
  intro K0 hK0
  unfold X11_goodAt
  refine jq_aload_n Γ dX11_goodAt_0 rfl 0 rfl (jq_at_0 at_M_0) ?_
  refine jq_iload_n Γ dX11_goodAt_1 rfl 1 rfl ?_
  refine jq_cpZ (jq_virt (avs := [jI p1]) (st := []) Γ hlY rfl ml_RX11_251 rfl at_M_0 rfl rfl rfl rfl rfl dX11_goodAt_2) rfl (fun r h => ctX11_isParty h) (fun v1 hz2 => ?_)
  refine jq_if_ne (tgt := 16) Γ dX11_goodAt_5 rfl ?_ ?_
  · refine jq_aload_n Γ dX11_goodAt_16 rfl 0 rfl (jq_at_0 at_M_0) ?_
    refine jq_cwI (jq_virt (avs := []) (st := []) Γ hlY rfl ml_RX11_396 rfl at_M_0 rfl rfl rfl rfl rfl dX11_goodAt_17) (fun r σ' h => ctX11_firstGood h) (fun v3 s4 => ?_)
    refine jq_iconst Γ dX11_goodAt_20 rfl ?_
    refine jq_icmp_ne (tgt := 33) Γ dX11_goodAt_21 rfl ?_ ?_
    · refine jq_aload_n Γ dX11_goodAt_33 rfl 0 rfl (jq_at_0 at_M_0) ?_
      refine jq_aload_n Γ dX11_goodAt_34 rfl 0 rfl (jq_at_0 at_M_0) ?_
      refine jq_getR (v := 9) Γ hlY at_M_0 fl_RX11_47 rfl rfl ly_X11_seat dX11_goodAt_35 ?_
      refine jq_iload_n Γ dX11_goodAt_38 rfl 1 rfl ?_
      refine jq_iald Γ at_M_9 rfl dX11_goodAt_39 (fun v5 => ?_)
      refine jq_cwI (jq_virt (avs := [jI v5]) (st := []) Γ hlY rfl ml_RX11_88 rfl at_M_0 rfl rfl rfl rfl rfl dX11_goodAt_40) (fun r σ' h => ctX11_gives h) (fun v6 s7 => ?_)
      exact jq_ireturn Γ dX11_goodAt_43 (hK0 _)
    · refine jq_aload_n Γ dX11_goodAt_24 rfl 0 rfl (jq_at_0 at_M_0) ?_
      refine jq_bipush Γ dX11_goodAt_25 rfl ?_
      refine jq_cwI (jq_virt (avs := [jI 6]) (st := []) Γ hlY rfl ml_RX11_84 rfl at_M_0 rfl rfl rfl rfl rfl dX11_goodAt_27) (fun r σ' h => ctX11_refuse h) (fun v8 s9 => ?_)
      refine jq_goto Γ (tgt := 43) dX11_goodAt_30 rfl ?_
      exact jq_ireturn Γ dX11_goodAt_43 (hK0 _)
  · refine jq_aload_n Γ dX11_goodAt_8 rfl 0 rfl (jq_at_0 at_M_0) ?_
    refine jq_iconst Γ dX11_goodAt_9 rfl ?_
    refine jq_cwI (jq_virt (avs := [jI 1]) (st := []) Γ hlY rfl ml_RX11_84 rfl at_M_0 rfl rfl rfl rfl rfl dX11_goodAt_10) (fun r σ' h => ctX11_refuse h) (fun v10 s11 => ?_)
    refine jq_goto Γ (tgt := 43) dX11_goodAt_13 rfl ?_
    exact jq_ireturn Γ dX11_goodAt_43 (hK0 _)


theorem dX11_bestCode_0 : decode cX11_bestCode 0 = .ok (.iconst (-1), 1) := by decide +kernel
theorem dX11_bestCode_1 : decode cX11_bestCode 1 = .ok (.istore_n 1, 1) := by decide +kernel
theorem dX11_bestCode_2 : decode cX11_bestCode 2 = .ok (.iconst 0, 1) := by decide +kernel
theorem dX11_bestCode_3 : decode cX11_bestCode 3 = .ok (.istore_n 2, 1) := by decide +kernel
theorem dX11_bestCode_4 : decode cX11_bestCode 4 = .ok (.iconst 0, 1) := by decide +kernel
theorem dX11_bestCode_5 : decode cX11_bestCode 5 = .ok (.istore_n 3, 1) := by decide +kernel
theorem dX11_bestCode_6 : decode cX11_bestCode 6 = .ok (.iload_n 3, 1) := by decide +kernel
theorem dX11_bestCode_7 : decode cX11_bestCode 7 = .ok (.aload_n 0, 1) := by decide +kernel
theorem dX11_bestCode_8 : decode cX11_bestCode 8 = .ok (.invokevirtual 377, 3) := by decide +kernel
theorem dX11_bestCode_11 : decode cX11_bestCode 11 = .ok (.if_icmp .ge 40, 3) := by decide +kernel
theorem dX11_bestCode_14 : decode cX11_bestCode 14 = .ok (.aload_n 0, 1) := by decide +kernel
theorem dX11_bestCode_15 : decode cX11_bestCode 15 = .ok (.iload_n 3, 1) := by decide +kernel
theorem dX11_bestCode_16 : decode cX11_bestCode 16 = .ok (.invokevirtual 380, 3) := by decide +kernel
theorem dX11_bestCode_19 : decode cX11_bestCode 19 = .ok (.ifCond .eq 26, 3) := by decide +kernel
theorem dX11_bestCode_22 : decode cX11_bestCode 22 = .ok (.iload_n 1, 1) := by decide +kernel
theorem dX11_bestCode_23 : decode cX11_bestCode 23 = .ok (.iconst (-1), 1) := by decide +kernel
theorem dX11_bestCode_24 : decode cX11_bestCode 24 = .ok (.if_icmp .eq 14, 3) := by decide +kernel
theorem dX11_bestCode_27 : decode cX11_bestCode 27 = .ok (.aload_n 0, 1) := by decide +kernel
theorem dX11_bestCode_28 : decode cX11_bestCode 28 = .ok (.invokevirtual 332, 3) := by decide +kernel
theorem dX11_bestCode_31 : decode cX11_bestCode 31 = .ok (.iload_n 2, 1) := by decide +kernel
theorem dX11_bestCode_32 : decode cX11_bestCode 32 = .ok (.if_icmp .gt 6, 3) := by decide +kernel
theorem dX11_bestCode_35 : decode cX11_bestCode 35 = .ok (.goto 10, 3) := by decide +kernel
theorem dX11_bestCode_38 : decode cX11_bestCode 38 = .ok (.aload_n 0, 1) := by decide +kernel
theorem dX11_bestCode_39 : decode cX11_bestCode 39 = .ok (.invokevirtual 332, 3) := by decide +kernel
theorem dX11_bestCode_42 : decode cX11_bestCode 42 = .ok (.istore_n 2, 1) := by decide +kernel
theorem dX11_bestCode_43 : decode cX11_bestCode 43 = .ok (.iload_n 3, 1) := by decide +kernel
theorem dX11_bestCode_44 : decode cX11_bestCode 44 = .ok (.istore_n 1, 1) := by decide +kernel
theorem dX11_bestCode_45 : decode cX11_bestCode 45 = .ok (.iinc 3 1, 3) := by decide +kernel
theorem dX11_bestCode_48 : decode cX11_bestCode 48 = .ok (.goto (-42), 3) := by decide +kernel
theorem dX11_bestCode_51 : decode cX11_bestCode 51 = .ok (.iload_n 1, 1) := by decide +kernel
theorem dX11_bestCode_52 : decode cX11_bestCode 52 = .ok (.iconst (-1), 1) := by decide +kernel
theorem dX11_bestCode_53 : decode cX11_bestCode 53 = .ok (.if_icmp .eq 9, 3) := by decide +kernel
theorem dX11_bestCode_56 : decode cX11_bestCode 56 = .ok (.aload_n 0, 1) := by decide +kernel
theorem dX11_bestCode_57 : decode cX11_bestCode 57 = .ok (.iload_n 1, 1) := by decide +kernel
theorem dX11_bestCode_58 : decode cX11_bestCode 58 = .ok (.invokevirtual 380, 3) := by decide +kernel
theorem dX11_bestCode_61 : decode cX11_bestCode 61 = .ok (.pop, 1) := by decide +kernel
theorem dX11_bestCode_62 : decode cX11_bestCode 62 = .ok (.iload_n 1, 1) := by decide +kernel
theorem dX11_bestCode_63 : decode cX11_bestCode 63 = .ok (.ireturn, 1) := by decide +kernel
set_option maxHeartbeats 4000000 in
set_option maxRecDepth 100000 in
theorem ctX11_bestCode  {σ : jq_M} {res : Int} {σ' : jq_M}  (h : X11_bestCode σ = some (res, σ')) : jq_MC jq_zM yX11_bestCode cX11_bestCode 4 (some .int) 4 109 [jR 0] σ (some (jI res)) σ' := by
  refine jq_met (own := RX11) (L0 := [(0, jR 0)]) (by decide) rfl rfl rfl ?_
  intro X Γ hnl hlY hRT
  refine jq_use2 (P := fun r => jq_RT jq_zM X (some .int) (some (jI r.1)) r.2) ?_ h hRT
  intro K0 hK0
  unfold X11_bestCode
  refine jq_iconst Γ dX11_bestCode_0 rfl ?_
  refine jq_istore_n (L' := [(1, jI (-1)), (0, jR 0)]) Γ dX11_bestCode_1 rfl hnl rfl rfl ?_
  refine jq_iconst Γ dX11_bestCode_2 rfl ?_
  refine jq_istore_n (L' := [(2, jI 0), (1, jI (-1)), (0, jR 0)]) Γ dX11_bestCode_3 rfl hnl rfl rfl ?_
  refine jq_iconst Γ dX11_bestCode_4 rfl ?_
  refine jq_istore_n (L' := [(3, jI 0), (2, jI 0), (1, jI (-1)), (0, jR 0)]) Γ dX11_bestCode_5 rfl hnl rfl rfl ?_
  refine jq_sub Γ (L' := [(0, jR 0), (1, jI (-1)), (2, jI 0), (3, jI 0)]) [3, 2, 1, 0] rfl ?_
  refine jq_loop2 (C := fun (t1 : Int × Int × Int × jq_M) => jq_V jq_zM X (jq_zN jq_zM) t1.2.2.2 6 [(0, jR 0), (1, jI t1.1), (2, jI t1.2.1), (3, jI t1.2.2.1)] []) (KX := fun (e13 : Int × jq_M) => jq_V jq_zM X (jq_zN jq_zM) e13.2 51 [(0, jR 0), (1, jI e13.1)] []) ?_ ?_ ((-1), 0, 0, σ)
  · intro K6_t1 hCt1 hXt1 t1
    unfold X11_bestCode_b6
    have hj38_1003 : ∀ (j7 : Int) (s8 : jq_M), jq_J (X11_bestCode_j38 j7 s8) K6_t1 (jq_V jq_zM X (jq_zN jq_zM) s8 38 [(0, jR 0), (3, jI j7)] []) := by
      intro j7 s8
      unfold X11_bestCode_j38
      refine jq_aload_n Γ dX11_bestCode_38 rfl 0 rfl (jq_at_0 at_M_0) ?_
      refine jq_cpI (jq_virt (avs := []) (st := []) Γ hlY rfl ml_RX11_332 rfl at_M_0 rfl rfl rfl rfl rfl dX11_bestCode_39) (fun r h => ctX11_worthOfAll h) (fun v9 => ?_)
      refine jq_istore_n (L' := [(2, jI v9), (0, jR 0), (3, jI j7)]) Γ dX11_bestCode_42 rfl hnl rfl rfl ?_
      refine jq_iload_n Γ dX11_bestCode_43 rfl 2 rfl ?_
      refine jq_istore_n (L' := [(1, jI j7), (2, jI v9), (0, jR 0), (3, jI j7)]) Γ dX11_bestCode_44 rfl hnl rfl rfl ?_
      refine jq_iincN (L' := fun v10 => [(3, jI v10), (1, jI j7), (2, jI v9), (0, jR 0)]) Γ dX11_bestCode_45 3 rfl hnl rfl (fun _ => rfl) (fun v10 => ?_)
      refine jq_goto Γ (tgt := 6) dX11_bestCode_48 rfl ?_
      refine jq_sub Γ (L' := [(0, jR 0), (1, jI j7), (2, jI v9), (3, jI v10)]) [3, 1, 2, 0] rfl ?_
      exact jq_done (hCt1 (j7, v9, v10, s8))
    refine jq_iload_n Γ dX11_bestCode_6 rfl 3 rfl ?_
    refine jq_aload_n Γ dX11_bestCode_7 rfl 0 rfl (jq_at_0 at_M_0) ?_
    refine jq_cpI (jq_virt (avs := []) (st := [jI t1.2.2.1]) Γ hlY rfl ml_RX11_377 rfl at_M_0 rfl rfl rfl rfl rfl dX11_bestCode_8) (fun r h => ctX11_codes h) (fun v2 => ?_)
    refine jq_icmp_ge (tgt := 51) Γ dX11_bestCode_11 rfl ?_ ?_
    · refine jq_sub Γ (L' := [(0, jR 0), (1, jI t1.1)]) [0, 1] rfl ?_
      exact jq_done (hXt1 (t1.1, t1.2.2.2))
    · refine jq_aload_n Γ dX11_bestCode_14 rfl 0 rfl (jq_at_0 at_M_0) ?_
      refine jq_iload_n Γ dX11_bestCode_15 rfl 3 rfl ?_
      refine jq_cwZ (jq_virt (avs := [jI t1.2.2.1]) (st := []) Γ hlY rfl ml_RX11_380 rfl at_M_0 rfl rfl rfl rfl rfl dX11_bestCode_16) rfl (fun r σ' h => ctX11_seatsBy h) (fun v3 s4 hz5 => ?_)
      refine jq_if_eq (tgt := 45) Γ dX11_bestCode_19 rfl ?_ ?_
      · refine jq_iincN (L' := fun v6 => [(3, jI v6), (0, jR 0), (1, jI t1.1), (2, jI t1.2.1)]) Γ dX11_bestCode_45 3 rfl hnl rfl (fun _ => rfl) (fun v6 => ?_)
        refine jq_goto Γ (tgt := 6) dX11_bestCode_48 rfl ?_
        refine jq_sub Γ (L' := [(0, jR 0), (1, jI t1.1), (2, jI t1.2.1), (3, jI v6)]) [1, 2, 3, 0] rfl ?_
        exact jq_done (hCt1 (t1.1, t1.2.1, v6, s4))
      · refine jq_iload_n Γ dX11_bestCode_22 rfl 1 rfl ?_
        refine jq_iconst Γ dX11_bestCode_23 rfl ?_
        refine jq_icmp_eq (tgt := 38) Γ dX11_bestCode_24 rfl ?_ ?_
        · refine jq_sub Γ (L' := [(0, jR 0), (3, jI t1.2.2.1)]) [0, 3] rfl ?_
          exact hj38_1003 t1.2.2.1 s4
        · refine jq_aload_n Γ dX11_bestCode_27 rfl 0 rfl (jq_at_0 at_M_0) ?_
          refine jq_cpI (jq_virt (avs := []) (st := []) Γ hlY rfl ml_RX11_332 rfl at_M_0 rfl rfl rfl rfl rfl dX11_bestCode_28) (fun r h => ctX11_worthOfAll h) (fun v11 => ?_)
          refine jq_iload_n Γ dX11_bestCode_31 rfl 2 rfl ?_
          refine jq_icmp_gt (tgt := 38) Γ dX11_bestCode_32 rfl ?_ ?_
          · refine jq_sub Γ (L' := [(0, jR 0), (3, jI t1.2.2.1)]) [0, 3] rfl ?_
            exact hj38_1003 t1.2.2.1 s4
          · refine jq_goto Γ (tgt := 45) dX11_bestCode_35 rfl ?_
            refine jq_iincN (L' := fun v12 => [(3, jI v12), (0, jR 0), (1, jI t1.1), (2, jI t1.2.1)]) Γ dX11_bestCode_45 3 rfl hnl rfl (fun _ => rfl) (fun v12 => ?_)
            refine jq_goto Γ (tgt := 6) dX11_bestCode_48 rfl ?_
            refine jq_sub Γ (L' := [(0, jR 0), (1, jI t1.1), (2, jI t1.2.1), (3, jI v12)]) [1, 2, 3, 0] rfl ?_
            exact jq_done (hCt1 (t1.1, t1.2.1, v12, s4))
  · intro e13
    refine jq_iload_n Γ dX11_bestCode_51 rfl 1 rfl ?_
    refine jq_iconst Γ dX11_bestCode_52 rfl ?_
    refine jq_icmp_eq (tgt := 62) Γ dX11_bestCode_53 rfl ?_ ?_
    · refine jq_iload_n Γ dX11_bestCode_62 rfl 1 rfl ?_
      exact jq_ireturn Γ dX11_bestCode_63 (hK0 _)
    · refine jq_aload_n Γ dX11_bestCode_56 rfl 0 rfl (jq_at_0 at_M_0) ?_
      refine jq_iload_n Γ dX11_bestCode_57 rfl 1 rfl ?_
      refine jq_cwZ (jq_virt (avs := [jI e13.1]) (st := []) Γ hlY rfl ml_RX11_380 rfl at_M_0 rfl rfl rfl rfl rfl dX11_bestCode_58) rfl (fun r σ' h => ctX11_seatsBy h) (fun v14 s15 hz16 => ?_)
      refine jq_pop Γ dX11_bestCode_61 rfl ?_
      refine jq_iload_n Γ dX11_bestCode_62 rfl 1 rfl ?_
      exact jq_ireturn Γ dX11_bestCode_63 (hK0 _)


theorem dX11_best_0 : decode cX11_best 0 = .ok (.aload_n 0, 1) := by decide +kernel
theorem dX11_best_1 : decode cX11_best 1 = .ok (.invokevirtual 399, 3) := by decide +kernel
theorem dX11_best_4 : decode cX11_best 4 = .ok (.iconst (-1), 1) := by decide +kernel
theorem dX11_best_5 : decode cX11_best 5 = .ok (.if_icmp .ne 12, 3) := by decide +kernel
theorem dX11_best_8 : decode cX11_best 8 = .ok (.aload_n 0, 1) := by decide +kernel
theorem dX11_best_9 : decode cX11_best 9 = .ok (.bipush 6, 2) := by decide +kernel
theorem dX11_best_11 : decode cX11_best 11 = .ok (.invokevirtual 84, 3) := by decide +kernel
theorem dX11_best_14 : decode cX11_best 14 = .ok (.goto 11, 3) := by decide +kernel
theorem dX11_best_17 : decode cX11_best 17 = .ok (.aload_n 0, 1) := by decide +kernel
theorem dX11_best_18 : decode cX11_best 18 = .ok (.aload_n 0, 1) := by decide +kernel
theorem dX11_best_19 : decode cX11_best 19 = .ok (.invokevirtual 332, 3) := by decide +kernel
theorem dX11_best_22 : decode cX11_best 22 = .ok (.invokevirtual 88, 3) := by decide +kernel
theorem dX11_best_25 : decode cX11_best 25 = .ok (.ireturn, 1) := by decide +kernel
set_option maxHeartbeats 4000000 in
set_option maxRecDepth 100000 in
theorem ctX11_best  {σ : jq_M} {res : Int} {σ' : jq_M}  (h : X11_best σ = some (res, σ')) : jq_MC jq_zM yX11_best cX11_best 1 (some .int) 5 132 [jR 0] σ (some (jI res)) σ' := by
  refine jq_met (own := RX11) (L0 := [(0, jR 0)]) (by decide) rfl rfl rfl ?_
  intro X Γ hnl hlY hRT
  refine jq_use2 (P := fun r => jq_RT jq_zM X (some .int) (some (jI r.1)) r.2) ?_ h hRT
  intro K0 hK0
  unfold X11_best
  refine jq_aload_n Γ dX11_best_0 rfl 0 rfl (jq_at_0 at_M_0) ?_
  refine jq_cwI (jq_virt (avs := []) (st := []) Γ hlY rfl ml_RX11_399 rfl at_M_0 rfl rfl rfl rfl rfl dX11_best_1) (fun r σ' h => ctX11_bestCode h) (fun v1 s2 => ?_)
  refine jq_iconst Γ dX11_best_4 rfl ?_
  refine jq_icmp_ne (tgt := 17) Γ dX11_best_5 rfl ?_ ?_
  · refine jq_aload_n Γ dX11_best_17 rfl 0 rfl (jq_at_0 at_M_0) ?_
    refine jq_aload_n Γ dX11_best_18 rfl 0 rfl (jq_at_0 at_M_0) ?_
    refine jq_cpI (jq_virt (avs := []) (st := [jR 0]) Γ hlY rfl ml_RX11_332 rfl at_M_0 rfl rfl rfl rfl rfl dX11_best_19) (fun r h => ctX11_worthOfAll h) (fun v3 => ?_)
    refine jq_cwI (jq_virt (avs := [jI v3]) (st := []) Γ hlY rfl ml_RX11_88 rfl at_M_0 rfl rfl rfl rfl rfl dX11_best_22) (fun r σ' h => ctX11_gives h) (fun v4 s5 => ?_)
    exact jq_ireturn Γ dX11_best_25 (hK0 _)
  · refine jq_aload_n Γ dX11_best_8 rfl 0 rfl (jq_at_0 at_M_0) ?_
    refine jq_bipush Γ dX11_best_9 rfl ?_
    refine jq_cwI (jq_virt (avs := [jI 6]) (st := []) Γ hlY rfl ml_RX11_84 rfl at_M_0 rfl rfl rfl rfl rfl dX11_best_11) (fun r σ' h => ctX11_refuse h) (fun v6 s7 => ?_)
    refine jq_goto Γ (tgt := 25) dX11_best_14 rfl ?_
    exact jq_ireturn Γ dX11_best_25 (hK0 _)


theorem dX11_bestAt_0 : decode cX11_bestAt 0 = .ok (.aload_n 0, 1) := by decide +kernel
theorem dX11_bestAt_1 : decode cX11_bestAt 1 = .ok (.iload_n 1, 1) := by decide +kernel
theorem dX11_bestAt_2 : decode cX11_bestAt 2 = .ok (.invokevirtual 251, 3) := by decide +kernel
theorem dX11_bestAt_5 : decode cX11_bestAt 5 = .ok (.ifCond .ne 9, 3) := by decide +kernel
theorem dX11_bestAt_8 : decode cX11_bestAt 8 = .ok (.aload_n 0, 1) := by decide +kernel
theorem dX11_bestAt_9 : decode cX11_bestAt 9 = .ok (.iconst 1, 1) := by decide +kernel
theorem dX11_bestAt_10 : decode cX11_bestAt 10 = .ok (.invokevirtual 84, 3) := by decide +kernel
theorem dX11_bestAt_13 : decode cX11_bestAt 13 = .ok (.ireturn, 1) := by decide +kernel
theorem dX11_bestAt_14 : decode cX11_bestAt 14 = .ok (.aload_n 0, 1) := by decide +kernel
theorem dX11_bestAt_15 : decode cX11_bestAt 15 = .ok (.invokevirtual 399, 3) := by decide +kernel
theorem dX11_bestAt_18 : decode cX11_bestAt 18 = .ok (.pop, 1) := by decide +kernel
theorem dX11_bestAt_19 : decode cX11_bestAt 19 = .ok (.aload_n 0, 1) := by decide +kernel
theorem dX11_bestAt_20 : decode cX11_bestAt 20 = .ok (.aload_n 0, 1) := by decide +kernel
theorem dX11_bestAt_21 : decode cX11_bestAt 21 = .ok (.getfield 47, 3) := by decide +kernel
theorem dX11_bestAt_24 : decode cX11_bestAt 24 = .ok (.iload_n 1, 1) := by decide +kernel
theorem dX11_bestAt_25 : decode cX11_bestAt 25 = .ok (.iaload, 1) := by decide +kernel
theorem dX11_bestAt_26 : decode cX11_bestAt 26 = .ok (.invokevirtual 88, 3) := by decide +kernel
theorem dX11_bestAt_29 : decode cX11_bestAt 29 = .ok (.ireturn, 1) := by decide +kernel
set_option maxHeartbeats 4000000 in
set_option maxRecDepth 100000 in
theorem ctX11_bestAt {p1 : Int} {σ : jq_M} {res : Int} {σ' : jq_M}  (h : X11_bestAt p1 σ = some (res, σ')) : jq_MC jq_zM yX11_bestAt cX11_bestAt 2 (some .int) 5 132 [jR 0, jI p1] σ (some (jI res)) σ' := by
  refine jq_met (own := RX11) (L0 := [(0, jR 0), (1, jI p1)]) (by decide) rfl rfl rfl ?_
  intro X Γ hnl hlY hRT
  refine jq_use2 (P := fun r => jq_RT jq_zM X (some .int) (some (jI r.1)) r.2) ?_ h hRT
  intro K0 hK0
  unfold X11_bestAt
  refine jq_aload_n Γ dX11_bestAt_0 rfl 0 rfl (jq_at_0 at_M_0) ?_
  refine jq_iload_n Γ dX11_bestAt_1 rfl 1 rfl ?_
  refine jq_cpZ (jq_virt (avs := [jI p1]) (st := []) Γ hlY rfl ml_RX11_251 rfl at_M_0 rfl rfl rfl rfl rfl dX11_bestAt_2) rfl (fun r h => ctX11_isParty h) (fun v1 hz2 => ?_)
  refine jq_if_ne (tgt := 14) Γ dX11_bestAt_5 rfl ?_ ?_
  · refine jq_aload_n Γ dX11_bestAt_14 rfl 0 rfl (jq_at_0 at_M_0) ?_
    refine jq_cwI (jq_virt (avs := []) (st := []) Γ hlY rfl ml_RX11_399 rfl at_M_0 rfl rfl rfl rfl rfl dX11_bestAt_15) (fun r σ' h => ctX11_bestCode h) (fun v3 s4 => ?_)
    refine jq_pop Γ dX11_bestAt_18 rfl ?_
    refine jq_aload_n Γ dX11_bestAt_19 rfl 0 rfl (jq_at_0 at_M_0) ?_
    refine jq_aload_n Γ dX11_bestAt_20 rfl 0 rfl (jq_at_0 at_M_0) ?_
    refine jq_getR (v := 9) Γ hlY at_M_0 fl_RX11_47 rfl rfl ly_X11_seat dX11_bestAt_21 ?_
    refine jq_iload_n Γ dX11_bestAt_24 rfl 1 rfl ?_
    refine jq_iald Γ at_M_9 rfl dX11_bestAt_25 (fun v5 => ?_)
    refine jq_cwI (jq_virt (avs := [jI v5]) (st := []) Γ hlY rfl ml_RX11_88 rfl at_M_0 rfl rfl rfl rfl rfl dX11_bestAt_26) (fun r σ' h => ctX11_gives h) (fun v6 s7 => ?_)
    exact jq_ireturn Γ dX11_bestAt_29 (hK0 _)
  · refine jq_aload_n Γ dX11_bestAt_8 rfl 0 rfl (jq_at_0 at_M_0) ?_
    refine jq_iconst Γ dX11_bestAt_9 rfl ?_
    refine jq_cwI (jq_virt (avs := [jI 1]) (st := []) Γ hlY rfl ml_RX11_84 rfl at_M_0 rfl rfl rfl rfl rfl dX11_bestAt_10) (fun r σ' h => ctX11_refuse h) (fun v8 s9 => ?_)
    exact jq_ireturn Γ dX11_bestAt_13 (hK0 _)


theorem dX11_mostSign_0 : decode cX11_mostSign 0 = .ok (.iconst (-1), 1) := by decide +kernel
theorem dX11_mostSign_1 : decode cX11_mostSign 1 = .ok (.istore_n 1, 1) := by decide +kernel
theorem dX11_mostSign_2 : decode cX11_mostSign 2 = .ok (.iconst 0, 1) := by decide +kernel
theorem dX11_mostSign_3 : decode cX11_mostSign 3 = .ok (.istore_n 2, 1) := by decide +kernel
theorem dX11_mostSign_4 : decode cX11_mostSign 4 = .ok (.iload_n 2, 1) := by decide +kernel
theorem dX11_mostSign_5 : decode cX11_mostSign 5 = .ok (.aload_n 0, 1) := by decide +kernel
theorem dX11_mostSign_6 : decode cX11_mostSign 6 = .ok (.invokevirtual 377, 3) := by decide +kernel
theorem dX11_mostSign_9 : decode cX11_mostSign 9 = .ok (.if_icmp .ge 29, 3) := by decide +kernel
theorem dX11_mostSign_12 : decode cX11_mostSign 12 = .ok (.aload_n 0, 1) := by decide +kernel
theorem dX11_mostSign_13 : decode cX11_mostSign 13 = .ok (.iload_n 2, 1) := by decide +kernel
theorem dX11_mostSign_14 : decode cX11_mostSign 14 = .ok (.invokevirtual 380, 3) := by decide +kernel
theorem dX11_mostSign_17 : decode cX11_mostSign 17 = .ok (.ifCond .eq 15, 3) := by decide +kernel
theorem dX11_mostSign_20 : decode cX11_mostSign 20 = .ok (.iload_n 1, 1) := by decide +kernel
theorem dX11_mostSign_21 : decode cX11_mostSign 21 = .ok (.aload_n 0, 1) := by decide +kernel
theorem dX11_mostSign_22 : decode cX11_mostSign 22 = .ok (.invokevirtual 308, 3) := by decide +kernel
theorem dX11_mostSign_25 : decode cX11_mostSign 25 = .ok (.invokestatic 350, 3) := by decide +kernel
theorem dX11_mostSign_28 : decode cX11_mostSign 28 = .ok (.invokestatic 287, 3) := by decide +kernel
theorem dX11_mostSign_31 : decode cX11_mostSign 31 = .ok (.istore_n 1, 1) := by decide +kernel
theorem dX11_mostSign_32 : decode cX11_mostSign 32 = .ok (.iinc 2 1, 3) := by decide +kernel
theorem dX11_mostSign_35 : decode cX11_mostSign 35 = .ok (.goto (-31), 3) := by decide +kernel
theorem dX11_mostSign_38 : decode cX11_mostSign 38 = .ok (.aload_n 0, 1) := by decide +kernel
theorem dX11_mostSign_39 : decode cX11_mostSign 39 = .ok (.iload_n 1, 1) := by decide +kernel
theorem dX11_mostSign_40 : decode cX11_mostSign 40 = .ok (.invokevirtual 320, 3) := by decide +kernel
theorem dX11_mostSign_43 : decode cX11_mostSign 43 = .ok (.ireturn, 1) := by decide +kernel
set_option maxHeartbeats 4000000 in
set_option maxRecDepth 100000 in
theorem ctX11_mostSign  {σ : jq_M} {res : Int} {σ' : jq_M}  (h : X11_mostSign σ = some (res, σ')) : jq_MC jq_zM yX11_mostSign cX11_mostSign 3 (some .int) 6 153 [jR 0] σ (some (jI res)) σ' := by
  refine jq_met (own := RX11) (L0 := [(0, jR 0)]) (by decide) rfl rfl rfl ?_
  intro X Γ hnl hlY hRT
  refine jq_use2 (P := fun r => jq_RT jq_zM X (some .int) (some (jI r.1)) r.2) ?_ h hRT
  intro K0 hK0
  unfold X11_mostSign
  refine jq_iconst Γ dX11_mostSign_0 rfl ?_
  refine jq_istore_n (L' := [(1, jI (-1)), (0, jR 0)]) Γ dX11_mostSign_1 rfl hnl rfl rfl ?_
  refine jq_iconst Γ dX11_mostSign_2 rfl ?_
  refine jq_istore_n (L' := [(2, jI 0), (1, jI (-1)), (0, jR 0)]) Γ dX11_mostSign_3 rfl hnl rfl rfl ?_
  refine jq_sub Γ (L' := [(0, jR 0), (1, jI (-1)), (2, jI 0)]) [2, 1, 0] rfl ?_
  refine jq_loop2 (C := fun (t1 : Int × Int × jq_M) => jq_V jq_zM X (jq_zN jq_zM) t1.2.2 4 [(0, jR 0), (1, jI t1.1), (2, jI t1.2.1)] []) (KX := fun (e11 : Int × jq_M) => jq_V jq_zM X (jq_zN jq_zM) e11.2 38 [(0, jR 0), (1, jI e11.1)] []) ?_ ?_ ((-1), 0, σ)
  · intro K4_t1 hCt1 hXt1 t1
    unfold X11_mostSign_b4
    refine jq_iload_n Γ dX11_mostSign_4 rfl 2 rfl ?_
    refine jq_aload_n Γ dX11_mostSign_5 rfl 0 rfl (jq_at_0 at_M_0) ?_
    refine jq_cpI (jq_virt (avs := []) (st := [jI t1.2.1]) Γ hlY rfl ml_RX11_377 rfl at_M_0 rfl rfl rfl rfl rfl dX11_mostSign_6) (fun r h => ctX11_codes h) (fun v2 => ?_)
    refine jq_icmp_ge (tgt := 38) Γ dX11_mostSign_9 rfl ?_ ?_
    · refine jq_sub Γ (L' := [(0, jR 0), (1, jI t1.1)]) [0, 1] rfl ?_
      exact jq_done (hXt1 (t1.1, t1.2.2))
    · refine jq_aload_n Γ dX11_mostSign_12 rfl 0 rfl (jq_at_0 at_M_0) ?_
      refine jq_iload_n Γ dX11_mostSign_13 rfl 2 rfl ?_
      refine jq_cwZ (jq_virt (avs := [jI t1.2.1]) (st := []) Γ hlY rfl ml_RX11_380 rfl at_M_0 rfl rfl rfl rfl rfl dX11_mostSign_14) rfl (fun r σ' h => ctX11_seatsBy h) (fun v3 s4 hz5 => ?_)
      refine jq_if_eq (tgt := 32) Γ dX11_mostSign_17 rfl ?_ ?_
      · refine jq_iincN (L' := fun v6 => [(2, jI v6), (0, jR 0), (1, jI t1.1)]) Γ dX11_mostSign_32 2 rfl hnl rfl (fun _ => rfl) (fun v6 => ?_)
        refine jq_goto Γ (tgt := 4) dX11_mostSign_35 rfl ?_
        refine jq_sub Γ (L' := [(0, jR 0), (1, jI t1.1), (2, jI v6)]) [1, 2, 0] rfl ?_
        exact jq_done (hCt1 (t1.1, v6, s4))
      · refine jq_iload_n Γ dX11_mostSign_20 rfl 1 rfl ?_
        refine jq_aload_n Γ dX11_mostSign_21 rfl 0 rfl (jq_at_0 at_M_0) ?_
        refine jq_cpI (jq_virt (avs := []) (st := [jI t1.1]) Γ hlY rfl ml_RX11_308 rfl at_M_0 rfl rfl rfl rfl rfl dX11_mostSign_22) (fun r h => ctX11_signing h) (fun v7 => ?_)
        refine jq_cpI (jq_stat (avs := [jI v7]) (st := [jI t1.1]) Γ hlY rfl ml_RX11_350 rfl rfl rfl rfl rfl dX11_mostSign_25) (fun r h => ctX11_bits h) (fun v8 => ?_)
        refine jq_mmax Γ mw_RX11_287 mws_max mwi mwc_max rfl rfl dX11_mostSign_28 ?_
        refine jq_nmI (fun v9 => ?_)
        refine jq_istore_n (L' := [(1, jI v9), (0, jR 0), (2, jI t1.2.1)]) Γ dX11_mostSign_31 rfl hnl rfl rfl ?_
        refine jq_iincN (L' := fun v10 => [(2, jI v10), (1, jI v9), (0, jR 0)]) Γ dX11_mostSign_32 2 rfl hnl rfl (fun _ => rfl) (fun v10 => ?_)
        refine jq_goto Γ (tgt := 4) dX11_mostSign_35 rfl ?_
        refine jq_sub Γ (L' := [(0, jR 0), (1, jI v9), (2, jI v10)]) [2, 1, 0] rfl ?_
        exact jq_done (hCt1 (v9, v10, s4))
  · intro e11
    refine jq_aload_n Γ dX11_mostSign_38 rfl 0 rfl (jq_at_0 at_M_0) ?_
    refine jq_iload_n Γ dX11_mostSign_39 rfl 1 rfl ?_
    refine jq_cwI (jq_virt (avs := [jI e11.1]) (st := []) Γ hlY rfl ml_RX11_320 rfl at_M_0 rfl rfl rfl rfl rfl dX11_mostSign_40) (fun r σ' h => ctX11_orNone h) (fun v12 s13 => ?_)
    exact jq_ireturn Γ dX11_mostSign_43 (hK0 _)


theorem dX11_arePleased_0 : decode cX11_arePleased 0 = .ok (.iconst 0, 1) := by decide +kernel
theorem dX11_arePleased_1 : decode cX11_arePleased 1 = .ok (.istore_n 2, 1) := by decide +kernel
theorem dX11_arePleased_2 : decode cX11_arePleased 2 = .ok (.iload_n 2, 1) := by decide +kernel
theorem dX11_arePleased_3 : decode cX11_arePleased 3 = .ok (.aload_n 0, 1) := by decide +kernel
theorem dX11_arePleased_4 : decode cX11_arePleased 4 = .ok (.invokevirtual 377, 3) := by decide +kernel
theorem dX11_arePleased_7 : decode cX11_arePleased 7 = .ok (.if_icmp .ge 30, 3) := by decide +kernel
theorem dX11_arePleased_10 : decode cX11_arePleased 10 = .ok (.aload_n 0, 1) := by decide +kernel
theorem dX11_arePleased_11 : decode cX11_arePleased 11 = .ok (.iload_n 2, 1) := by decide +kernel
theorem dX11_arePleased_12 : decode cX11_arePleased 12 = .ok (.invokevirtual 380, 3) := by decide +kernel
theorem dX11_arePleased_15 : decode cX11_arePleased 15 = .ok (.ifCond .eq 16, 3) := by decide +kernel
theorem dX11_arePleased_18 : decode cX11_arePleased 18 = .ok (.iload_n 1, 1) := by decide +kernel
theorem dX11_arePleased_19 : decode cX11_arePleased 19 = .ok (.aload_n 0, 1) := by decide +kernel
theorem dX11_arePleased_20 : decode cX11_arePleased 20 = .ok (.invokevirtual 308, 3) := by decide +kernel
theorem dX11_arePleased_23 : decode cX11_arePleased 23 = .ok (.iconst (-1), 1) := by decide +kernel
theorem dX11_arePleased_24 : decode cX11_arePleased 24 = .ok (.ixor, 1) := by decide +kernel
theorem dX11_arePleased_25 : decode cX11_arePleased 25 = .ok (.iand, 1) := by decide +kernel
theorem dX11_arePleased_26 : decode cX11_arePleased 26 = .ok (.ifCond .ne 5, 3) := by decide +kernel
theorem dX11_arePleased_29 : decode cX11_arePleased 29 = .ok (.iconst 1, 1) := by decide +kernel
theorem dX11_arePleased_30 : decode cX11_arePleased 30 = .ok (.ireturn, 1) := by decide +kernel
theorem dX11_arePleased_31 : decode cX11_arePleased 31 = .ok (.iinc 2 1, 3) := by decide +kernel
theorem dX11_arePleased_34 : decode cX11_arePleased 34 = .ok (.goto (-32), 3) := by decide +kernel
theorem dX11_arePleased_37 : decode cX11_arePleased 37 = .ok (.iconst 0, 1) := by decide +kernel
theorem dX11_arePleased_38 : decode cX11_arePleased 38 = .ok (.ireturn, 1) := by decide +kernel
set_option maxHeartbeats 4000000 in
set_option maxRecDepth 100000 in
theorem ctX11_arePleased {p1 : Int} {σ : jq_M} {res : Int} {σ' : jq_M}  (h : X11_arePleased p1 σ = some (res, σ')) : jq_MC jq_zM yX11_arePleased cX11_arePleased 3 (some .boolean) 6 153 [jR 0, jI p1] σ (some (jI res)) σ' := by
  refine jq_met (own := RX11) (L0 := [(0, jR 0), (1, jI p1)]) (by decide) rfl rfl rfl ?_
  intro X Γ hnl hlY hRT
  refine jq_use2 (P := fun r => jq_RT jq_zM X (some .boolean) (some (jI r.1)) r.2) ?_ h hRT
  intro K0 hK0
  unfold X11_arePleased
  refine jq_iconst Γ dX11_arePleased_0 rfl ?_
  refine jq_istore_n (L' := [(2, jI 0), (0, jR 0), (1, jI p1)]) Γ dX11_arePleased_1 rfl hnl rfl rfl ?_
  refine jq_sub Γ (L' := [(0, jR 0), (1, jI p1), (2, jI 0)]) [1, 2, 0] rfl ?_
  refine jq_loop2 (C := fun (t1 : Int × jq_M) => jq_V jq_zM X (jq_zN jq_zM) t1.2 2 [(0, jR 0), (1, jI p1), (2, jI t1.1)] []) (KX := Sum.elim (fun (e9 : jq_M) => jq_V jq_zM X (jq_zN jq_zM) e9 29 [] []) (fun (e10 : jq_M) => jq_V jq_zM X (jq_zN jq_zM) e10 37 [] [])) ?_ ?_ (0, σ)
  · intro K2_t1 hCt1 hXt1 t1
    unfold X11_arePleased_b2
    refine jq_iload_n Γ dX11_arePleased_2 rfl 2 rfl ?_
    refine jq_aload_n Γ dX11_arePleased_3 rfl 0 rfl (jq_at_0 at_M_0) ?_
    refine jq_cpI (jq_virt (avs := []) (st := [jI t1.1]) Γ hlY rfl ml_RX11_377 rfl at_M_0 rfl rfl rfl rfl rfl dX11_arePleased_4) (fun r h => ctX11_codes h) (fun v2 => ?_)
    refine jq_icmp_ge (tgt := 37) Γ dX11_arePleased_7 rfl ?_ ?_
    · refine jq_sub Γ (L' := []) [] rfl ?_
      exact jq_done (hXt1 (.inr t1.2))
    · refine jq_aload_n Γ dX11_arePleased_10 rfl 0 rfl (jq_at_0 at_M_0) ?_
      refine jq_iload_n Γ dX11_arePleased_11 rfl 2 rfl ?_
      refine jq_cwZ (jq_virt (avs := [jI t1.1]) (st := []) Γ hlY rfl ml_RX11_380 rfl at_M_0 rfl rfl rfl rfl rfl dX11_arePleased_12) rfl (fun r σ' h => ctX11_seatsBy h) (fun v3 s4 hz5 => ?_)
      refine jq_if_eq (tgt := 31) Γ dX11_arePleased_15 rfl ?_ ?_
      · refine jq_iincN (L' := fun v6 => [(2, jI v6), (0, jR 0), (1, jI p1)]) Γ dX11_arePleased_31 2 rfl hnl rfl (fun _ => rfl) (fun v6 => ?_)
        refine jq_goto Γ (tgt := 2) dX11_arePleased_34 rfl ?_
        refine jq_sub Γ (L' := [(0, jR 0), (1, jI p1), (2, jI v6)]) [1, 2, 0] rfl ?_
        exact jq_done (hCt1 (v6, s4))
      · refine jq_iload_n Γ dX11_arePleased_18 rfl 1 rfl ?_
        refine jq_aload_n Γ dX11_arePleased_19 rfl 0 rfl (jq_at_0 at_M_0) ?_
        refine jq_cpI (jq_virt (avs := []) (st := [jI p1]) Γ hlY rfl ml_RX11_308 rfl at_M_0 rfl rfl rfl rfl rfl dX11_arePleased_20) (fun r h => ctX11_signing h) (fun v7 => ?_)
        refine jq_iconst Γ dX11_arePleased_23 rfl ?_
        refine jq_ixor Γ dX11_arePleased_24 ?_
        refine jq_iand Γ dX11_arePleased_25 ?_
        refine jq_if_ne (tgt := 31) Γ dX11_arePleased_26 rfl ?_ ?_
        · refine jq_iincN (L' := fun v8 => [(2, jI v8), (0, jR 0), (1, jI p1)]) Γ dX11_arePleased_31 2 rfl hnl rfl (fun _ => rfl) (fun v8 => ?_)
          refine jq_goto Γ (tgt := 2) dX11_arePleased_34 rfl ?_
          refine jq_sub Γ (L' := [(0, jR 0), (1, jI p1), (2, jI v8)]) [1, 2, 0] rfl ?_
          exact jq_done (hCt1 (v8, s4))
        · refine jq_sub Γ (L' := []) [] rfl ?_
          exact jq_done (hXt1 (.inl s4))
  · refine jq_elim ?_ ?_
    · intro e9
      refine jq_iconst Γ dX11_arePleased_29 rfl ?_
      exact jq_zreturn Γ (Or.inr rfl) dX11_arePleased_30 (hK0 _)
    · intro e10
      refine jq_iconst Γ dX11_arePleased_37 rfl ?_
      exact jq_zreturn Γ (Or.inl rfl) dX11_arePleased_38 (hK0 _)


theorem dX11_quarrel_0 : decode cX11_quarrel 0 = .ok (.iconst (-1), 1) := by decide +kernel
theorem dX11_quarrel_1 : decode cX11_quarrel 1 = .ok (.istore_n 1, 1) := by decide +kernel
theorem dX11_quarrel_2 : decode cX11_quarrel 2 = .ok (.iconst 1, 1) := by decide +kernel
theorem dX11_quarrel_3 : decode cX11_quarrel 3 = .ok (.istore_n 2, 1) := by decide +kernel
theorem dX11_quarrel_4 : decode cX11_quarrel 4 = .ok (.iload_n 2, 1) := by decide +kernel
theorem dX11_quarrel_5 : decode cX11_quarrel 5 = .ok (.iconst 1, 1) := by decide +kernel
theorem dX11_quarrel_6 : decode cX11_quarrel 6 = .ok (.aload_n 0, 1) := by decide +kernel
theorem dX11_quarrel_7 : decode cX11_quarrel 7 = .ok (.getfield 7, 3) := by decide +kernel
theorem dX11_quarrel_10 : decode cX11_quarrel 10 = .ok (.iconst 1, 1) := by decide +kernel
theorem dX11_quarrel_11 : decode cX11_quarrel 11 = .ok (.iaload, 1) := by decide +kernel
theorem dX11_quarrel_12 : decode cX11_quarrel 12 = .ok (.ishl, 1) := by decide +kernel
theorem dX11_quarrel_13 : decode cX11_quarrel 13 = .ok (.if_icmp .ge 42, 3) := by decide +kernel
theorem dX11_quarrel_16 : decode cX11_quarrel 16 = .ok (.aload_n 0, 1) := by decide +kernel
theorem dX11_quarrel_17 : decode cX11_quarrel 17 = .ok (.invokevirtual 377, 3) := by decide +kernel
theorem dX11_quarrel_20 : decode cX11_quarrel 20 = .ok (.ifCond .le 35, 3) := by decide +kernel
theorem dX11_quarrel_23 : decode cX11_quarrel 23 = .ok (.iload_n 1, 1) := by decide +kernel
theorem dX11_quarrel_24 : decode cX11_quarrel 24 = .ok (.iconst (-1), 1) := by decide +kernel
theorem dX11_quarrel_25 : decode cX11_quarrel 25 = .ok (.if_icmp .eq 14, 3) := by decide +kernel
theorem dX11_quarrel_28 : decode cX11_quarrel 28 = .ok (.iload_n 2, 1) := by decide +kernel
theorem dX11_quarrel_29 : decode cX11_quarrel 29 = .ok (.invokestatic 350, 3) := by decide +kernel
theorem dX11_quarrel_32 : decode cX11_quarrel 32 = .ok (.iload_n 1, 1) := by decide +kernel
theorem dX11_quarrel_33 : decode cX11_quarrel 33 = .ok (.invokestatic 350, 3) := by decide +kernel
theorem dX11_quarrel_36 : decode cX11_quarrel 36 = .ok (.if_icmp .ge 13, 3) := by decide +kernel
theorem dX11_quarrel_39 : decode cX11_quarrel 39 = .ok (.aload_n 0, 1) := by decide +kernel
theorem dX11_quarrel_40 : decode cX11_quarrel 40 = .ok (.iload_n 2, 1) := by decide +kernel
theorem dX11_quarrel_41 : decode cX11_quarrel 41 = .ok (.invokevirtual 402, 3) := by decide +kernel
theorem dX11_quarrel_44 : decode cX11_quarrel 44 = .ok (.ifCond .ne 5, 3) := by decide +kernel
theorem dX11_quarrel_47 : decode cX11_quarrel 47 = .ok (.iload_n 2, 1) := by decide +kernel
theorem dX11_quarrel_48 : decode cX11_quarrel 48 = .ok (.istore_n 1, 1) := by decide +kernel
theorem dX11_quarrel_49 : decode cX11_quarrel 49 = .ok (.iinc 2 1, 3) := by decide +kernel
theorem dX11_quarrel_52 : decode cX11_quarrel 52 = .ok (.goto (-48), 3) := by decide +kernel
theorem dX11_quarrel_55 : decode cX11_quarrel 55 = .ok (.aload_n 0, 1) := by decide +kernel
theorem dX11_quarrel_56 : decode cX11_quarrel 56 = .ok (.iload_n 1, 1) := by decide +kernel
theorem dX11_quarrel_57 : decode cX11_quarrel 57 = .ok (.invokevirtual 320, 3) := by decide +kernel
theorem dX11_quarrel_60 : decode cX11_quarrel 60 = .ok (.ireturn, 1) := by decide +kernel
set_option maxHeartbeats 4000000 in
set_option maxRecDepth 100000 in
theorem ctX11_quarrel  {σ : jq_M} {res : Int} {σ' : jq_M}  (h : X11_quarrel σ = some (res, σ')) : jq_MC jq_zM yX11_quarrel cX11_quarrel 3 (some .int) 7 175 [jR 0] σ (some (jI res)) σ' := by
  refine jq_met (own := RX11) (L0 := [(0, jR 0)]) (by decide) rfl rfl rfl ?_
  intro X Γ hnl hlY hRT
  refine jq_use2 (P := fun r => jq_RT jq_zM X (some .int) (some (jI r.1)) r.2) ?_ h hRT
  intro K0 hK0
  unfold X11_quarrel
  have hj55_0 : ∀ (j16 : Int) (s17 : jq_M), jq_J (X11_quarrel_j55 j16 s17) K0 (jq_V jq_zM X (jq_zN jq_zM) s17 55 [(0, jR 0), (1, jI j16)] []) := by
    intro j16 s17
    unfold X11_quarrel_j55
    refine jq_aload_n Γ dX11_quarrel_55 rfl 0 rfl (jq_at_0 at_M_0) ?_
    refine jq_iload_n Γ dX11_quarrel_56 rfl 1 rfl ?_
    refine jq_cwI (jq_virt (avs := [jI j16]) (st := []) Γ hlY rfl ml_RX11_320 rfl at_M_0 rfl rfl rfl rfl rfl dX11_quarrel_57) (fun r σ' h => ctX11_orNone h) (fun v18 s19 => ?_)
    exact jq_ireturn Γ dX11_quarrel_60 (hK0 _)
  refine jq_iconst Γ dX11_quarrel_0 rfl ?_
  refine jq_istore_n (L' := [(1, jI (-1)), (0, jR 0)]) Γ dX11_quarrel_1 rfl hnl rfl rfl ?_
  refine jq_iconst Γ dX11_quarrel_2 rfl ?_
  refine jq_istore_n (L' := [(2, jI 1), (1, jI (-1)), (0, jR 0)]) Γ dX11_quarrel_3 rfl hnl rfl rfl ?_
  refine jq_sub Γ (L' := [(0, jR 0), (1, jI (-1)), (2, jI 1)]) [2, 1, 0] rfl ?_
  refine jq_loop2 (C := fun (t1 : Int × Int × jq_M) => jq_V jq_zM X (jq_zN jq_zM) t1.2.2 4 [(0, jR 0), (1, jI t1.1), (2, jI t1.2.1)] []) (KX := fun (e15 : Int × jq_M) => jq_V jq_zM X (jq_zN jq_zM) e15.2 55 [(0, jR 0), (1, jI e15.1)] []) ?_ ?_ ((-1), 1, σ)
  · intro K4_t1 hCt1 hXt1 t1
    unfold X11_quarrel_b4
    have hj39_1003 : ∀ (j4 : Int) (j5 : Int) (s6 : jq_M), jq_J (X11_quarrel_j39 j4 j5 s6) K4_t1 (jq_V jq_zM X (jq_zN jq_zM) s6 39 [(0, jR 0), (1, jI j4), (2, jI j5)] []) := by
      intro j4 j5 s6
      unfold X11_quarrel_j39
      refine jq_aload_n Γ dX11_quarrel_39 rfl 0 rfl (jq_at_0 at_M_0) ?_
      refine jq_iload_n Γ dX11_quarrel_40 rfl 2 rfl ?_
      refine jq_cwZ (jq_virt (avs := [jI j5]) (st := []) Γ hlY rfl ml_RX11_402 rfl at_M_0 rfl rfl rfl rfl rfl dX11_quarrel_41) rfl (fun r σ' h => ctX11_arePleased h) (fun v7 s8 hz9 => ?_)
      refine jq_if_ne (tgt := 49) Γ dX11_quarrel_44 rfl ?_ ?_
      · refine jq_iincN (L' := fun v10 => [(2, jI v10), (0, jR 0), (1, jI j4)]) Γ dX11_quarrel_49 2 rfl hnl rfl (fun _ => rfl) (fun v10 => ?_)
        refine jq_goto Γ (tgt := 4) dX11_quarrel_52 rfl ?_
        refine jq_sub Γ (L' := [(0, jR 0), (1, jI j4), (2, jI v10)]) [1, 2, 0] rfl ?_
        exact jq_done (hCt1 (j4, v10, s8))
      · refine jq_iload_n Γ dX11_quarrel_47 rfl 2 rfl ?_
        refine jq_istore_n (L' := [(1, jI j5), (0, jR 0), (2, jI j5)]) Γ dX11_quarrel_48 rfl hnl rfl rfl ?_
        refine jq_iincN (L' := fun v11 => [(2, jI v11), (1, jI j5), (0, jR 0)]) Γ dX11_quarrel_49 2 rfl hnl rfl (fun _ => rfl) (fun v11 => ?_)
        refine jq_goto Γ (tgt := 4) dX11_quarrel_52 rfl ?_
        refine jq_sub Γ (L' := [(0, jR 0), (1, jI j5), (2, jI v11)]) [2, 1, 0] rfl ?_
        exact jq_done (hCt1 (j5, v11, s8))
    refine jq_iload_n Γ dX11_quarrel_4 rfl 2 rfl ?_
    refine jq_iconst Γ dX11_quarrel_5 rfl ?_
    refine jq_aload_n Γ dX11_quarrel_6 rfl 0 rfl (jq_at_0 at_M_0) ?_
    refine jq_getR (v := 1) Γ hlY at_M_0 fl_RX11_7 rfl rfl ly_X11_at dX11_quarrel_7 ?_
    refine jq_iconst Γ dX11_quarrel_10 rfl ?_
    refine jq_iald Γ at_M_1 rfl dX11_quarrel_11 (fun v2 => ?_)
    refine jq_ishl Γ dX11_quarrel_12 ?_
    refine jq_icmp_ge (tgt := 55) Γ dX11_quarrel_13 rfl ?_ ?_
    · refine jq_sub Γ (L' := [(0, jR 0), (1, jI t1.1)]) [0, 1] rfl ?_
      exact jq_done (hXt1 (t1.1, t1.2.2))
    · refine jq_aload_n Γ dX11_quarrel_16 rfl 0 rfl (jq_at_0 at_M_0) ?_
      refine jq_cpI (jq_virt (avs := []) (st := []) Γ hlY rfl ml_RX11_377 rfl at_M_0 rfl rfl rfl rfl rfl dX11_quarrel_17) (fun r h => ctX11_codes h) (fun v3 => ?_)
      refine jq_if_le (tgt := 55) Γ dX11_quarrel_20 rfl ?_ ?_
      · refine jq_sub Γ (L' := [(0, jR 0), (1, jI t1.1)]) [0, 1] rfl ?_
        exact jq_done (hXt1 (t1.1, t1.2.2))
      · refine jq_iload_n Γ dX11_quarrel_23 rfl 1 rfl ?_
        refine jq_iconst Γ dX11_quarrel_24 rfl ?_
        refine jq_icmp_eq (tgt := 39) Γ dX11_quarrel_25 rfl ?_ ?_
        · exact hj39_1003 t1.1 t1.2.1 t1.2.2
        · refine jq_iload_n Γ dX11_quarrel_28 rfl 2 rfl ?_
          refine jq_cpI (jq_stat (avs := [jI t1.2.1]) (st := []) Γ hlY rfl ml_RX11_350 rfl rfl rfl rfl rfl dX11_quarrel_29) (fun r h => ctX11_bits h) (fun v12 => ?_)
          refine jq_iload_n Γ dX11_quarrel_32 rfl 1 rfl ?_
          refine jq_cpI (jq_stat (avs := [jI t1.1]) (st := [jI v12]) Γ hlY rfl ml_RX11_350 rfl rfl rfl rfl rfl dX11_quarrel_33) (fun r h => ctX11_bits h) (fun v13 => ?_)
          refine jq_icmp_ge (tgt := 49) Γ dX11_quarrel_36 rfl ?_ ?_
          · refine jq_iincN (L' := fun v14 => [(2, jI v14), (0, jR 0), (1, jI t1.1)]) Γ dX11_quarrel_49 2 rfl hnl rfl (fun _ => rfl) (fun v14 => ?_)
            refine jq_goto Γ (tgt := 4) dX11_quarrel_52 rfl ?_
            refine jq_sub Γ (L' := [(0, jR 0), (1, jI t1.1), (2, jI v14)]) [1, 2, 0] rfl ?_
            exact jq_done (hCt1 (t1.1, v14, t1.2.2))
          · exact hj39_1003 t1.1 t1.2.1 t1.2.2
  · intro e15
    exact hj55_0 e15.1 e15.2


theorem dX11_pleased_0 : decode cX11_pleased 0 = .ok (.iload_n 1, 1) := by decide +kernel
theorem dX11_pleased_1 : decode cX11_pleased 1 = .ok (.i2l, 1) := by decide +kernel
theorem dX11_pleased_2 : decode cX11_pleased 2 = .ok (.lconst 0, 1) := by decide +kernel
theorem dX11_pleased_3 : decode cX11_pleased 3 = .ok (.aload_n 0, 1) := by decide +kernel
theorem dX11_pleased_4 : decode cX11_pleased 4 = .ok (.invokevirtual 374, 3) := by decide +kernel
theorem dX11_pleased_7 : decode cX11_pleased 7 = .ok (.i2l, 1) := by decide +kernel
theorem dX11_pleased_8 : decode cX11_pleased 8 = .ok (.invokestatic 343, 3) := by decide +kernel
theorem dX11_pleased_11 : decode cX11_pleased 11 = .ok (.ifCond .ne 11, 3) := by decide +kernel
theorem dX11_pleased_14 : decode cX11_pleased 14 = .ok (.aload_n 0, 1) := by decide +kernel
theorem dX11_pleased_15 : decode cX11_pleased 15 = .ok (.iconst 1, 1) := by decide +kernel
theorem dX11_pleased_16 : decode cX11_pleased 16 = .ok (.invokevirtual 84, 3) := by decide +kernel
theorem dX11_pleased_19 : decode cX11_pleased 19 = .ok (.goto 36, 3) := by decide +kernel
theorem dX11_pleased_22 : decode cX11_pleased 22 = .ok (.aload_n 0, 1) := by decide +kernel
theorem dX11_pleased_23 : decode cX11_pleased 23 = .ok (.invokevirtual 377, 3) := by decide +kernel
theorem dX11_pleased_26 : decode cX11_pleased 26 = .ok (.ifCond .ne 12, 3) := by decide +kernel
theorem dX11_pleased_29 : decode cX11_pleased 29 = .ok (.aload_n 0, 1) := by decide +kernel
theorem dX11_pleased_30 : decode cX11_pleased 30 = .ok (.bipush 6, 2) := by decide +kernel
theorem dX11_pleased_32 : decode cX11_pleased 32 = .ok (.invokevirtual 84, 3) := by decide +kernel
theorem dX11_pleased_35 : decode cX11_pleased 35 = .ok (.goto 20, 3) := by decide +kernel
theorem dX11_pleased_38 : decode cX11_pleased 38 = .ok (.aload_n 0, 1) := by decide +kernel
theorem dX11_pleased_39 : decode cX11_pleased 39 = .ok (.aload_n 0, 1) := by decide +kernel
theorem dX11_pleased_40 : decode cX11_pleased 40 = .ok (.iload_n 1, 1) := by decide +kernel
theorem dX11_pleased_41 : decode cX11_pleased 41 = .ok (.invokevirtual 402, 3) := by decide +kernel
theorem dX11_pleased_44 : decode cX11_pleased 44 = .ok (.ifCond .eq 7, 3) := by decide +kernel
theorem dX11_pleased_47 : decode cX11_pleased 47 = .ok (.iconst 1, 1) := by decide +kernel
theorem dX11_pleased_48 : decode cX11_pleased 48 = .ok (.goto 4, 3) := by decide +kernel
theorem dX11_pleased_51 : decode cX11_pleased 51 = .ok (.iconst 0, 1) := by decide +kernel
theorem dX11_pleased_52 : decode cX11_pleased 52 = .ok (.invokevirtual 88, 3) := by decide +kernel
theorem dX11_pleased_55 : decode cX11_pleased 55 = .ok (.ireturn, 1) := by decide +kernel
set_option maxHeartbeats 4000000 in
set_option maxRecDepth 100000 in
theorem ctX11_pleased {p1 : Int} {σ : jq_M} {res : Int} {σ' : jq_M}  (h : X11_pleased p1 σ = some (res, σ')) : jq_MC jq_zM yX11_pleased cX11_pleased 2 (some .int) 7 175 [jR 0, jI p1] σ (some (jI res)) σ' := by
  refine jq_met (own := RX11) (L0 := [(0, jR 0), (1, jI p1)]) (by decide) rfl rfl rfl ?_
  intro X Γ hnl hlY hRT
  refine jq_use2 (P := fun r => jq_RT jq_zM X (some .int) (some (jI r.1)) r.2) ?_ h hRT
  intro K0 hK0
  unfold X11_pleased
  have hj52_0 : ∀ (j8 : Int) (s10 : jq_M) (hz9 : j8 = 0 ∨ j8 = 1), jq_J (X11_pleased_j52 j8 s10) K0 (jq_V jq_zM X (jq_zN jq_zM) s10 52 [] [jI j8, jR 0]) := by
    intro j8 s10 hz9
    unfold X11_pleased_j52
    refine jq_cwI (jq_virt (avs := [jI j8]) (st := []) Γ hlY rfl ml_RX11_88 rfl at_M_0 rfl rfl rfl rfl rfl dX11_pleased_52) (fun r σ' h => ctX11_gives h) (fun v11 s12 => ?_)
    exact jq_ireturn Γ dX11_pleased_55 (hK0 _)
  refine jq_iload_n Γ dX11_pleased_0 rfl 1 rfl ?_
  refine jq_i2l Γ dX11_pleased_1 ?_
  refine jq_lconst Γ 0 dX11_pleased_2 rfl rfl ?_
  refine jq_aload_n Γ dX11_pleased_3 rfl 0 rfl (jq_at_0 at_M_0) ?_
  refine jq_cpI (jq_virt (avs := []) (st := [jL 0, jL p1]) Γ hlY rfl ml_RX11_374 rfl at_M_0 rfl rfl rfl rfl rfl dX11_pleased_4) (fun r h => ctX11_everybody h) (fun v1 => ?_)
  refine jq_i2l Γ dX11_pleased_7 ?_
  refine jq_cpZ (jq_stat (avs := [jL p1, jL 0, jL v1]) (st := []) Γ hlY rfl ml_RX11_343 rfl rfl rfl rfl rfl dX11_pleased_8) rfl (fun r h => ctX11_isFrom h) (fun v2 hz3 => ?_)
  refine jq_if_ne (tgt := 22) Γ dX11_pleased_11 rfl ?_ ?_
  · refine jq_aload_n Γ dX11_pleased_22 rfl 0 rfl (jq_at_0 at_M_0) ?_
    refine jq_cpI (jq_virt (avs := []) (st := []) Γ hlY rfl ml_RX11_377 rfl at_M_0 rfl rfl rfl rfl rfl dX11_pleased_23) (fun r h => ctX11_codes h) (fun v4 => ?_)
    refine jq_if_ne (tgt := 38) Γ dX11_pleased_26 rfl ?_ ?_
    · refine jq_aload_n Γ dX11_pleased_38 rfl 0 rfl (jq_at_0 at_M_0) ?_
      refine jq_aload_n Γ dX11_pleased_39 rfl 0 rfl (jq_at_0 at_M_0) ?_
      refine jq_iload_n Γ dX11_pleased_40 rfl 1 rfl ?_
      refine jq_cwZ (jq_virt (avs := [jI p1]) (st := [jR 0]) Γ hlY rfl ml_RX11_402 rfl at_M_0 rfl rfl rfl rfl rfl dX11_pleased_41) rfl (fun r σ' h => ctX11_arePleased h) (fun v5 s6 hz7 => ?_)
      refine jq_if_eq (tgt := 51) Γ dX11_pleased_44 rfl ?_ ?_
      · refine jq_iconst Γ dX11_pleased_51 rfl ?_
        refine jq_sub Γ (L' := []) [] rfl ?_
        exact hj52_0 0 s6 (Or.inl rfl)
      · refine jq_iconst Γ dX11_pleased_47 rfl ?_
        refine jq_goto Γ (tgt := 52) dX11_pleased_48 rfl ?_
        refine jq_sub Γ (L' := []) [] rfl ?_
        exact hj52_0 1 s6 (Or.inr rfl)
    · refine jq_aload_n Γ dX11_pleased_29 rfl 0 rfl (jq_at_0 at_M_0) ?_
      refine jq_bipush Γ dX11_pleased_30 rfl ?_
      refine jq_cwI (jq_virt (avs := [jI 6]) (st := []) Γ hlY rfl ml_RX11_84 rfl at_M_0 rfl rfl rfl rfl rfl dX11_pleased_32) (fun r σ' h => ctX11_refuse h) (fun v13 s14 => ?_)
      refine jq_goto Γ (tgt := 55) dX11_pleased_35 rfl ?_
      exact jq_ireturn Γ dX11_pleased_55 (hK0 _)
  · refine jq_aload_n Γ dX11_pleased_14 rfl 0 rfl (jq_at_0 at_M_0) ?_
    refine jq_iconst Γ dX11_pleased_15 rfl ?_
    refine jq_cwI (jq_virt (avs := [jI 1]) (st := []) Γ hlY rfl ml_RX11_84 rfl at_M_0 rfl rfl rfl rfl rfl dX11_pleased_16) (fun r σ' h => ctX11_refuse h) (fun v15 s16 => ?_)
    refine jq_goto Γ (tgt := 55) dX11_pleased_19 rfl ?_
    exact jq_ireturn Γ dX11_pleased_55 (hK0 _)


theorem dX11_mostFor_0 : decode cX11_mostFor 0 = .ok (.aload_n 0, 1) := by decide +kernel
theorem dX11_mostFor_1 : decode cX11_mostFor 1 = .ok (.iload_n 1, 1) := by decide +kernel
theorem dX11_mostFor_2 : decode cX11_mostFor 2 = .ok (.invokevirtual 251, 3) := by decide +kernel
theorem dX11_mostFor_5 : decode cX11_mostFor 5 = .ok (.ifCond .ne 9, 3) := by decide +kernel
theorem dX11_mostFor_8 : decode cX11_mostFor 8 = .ok (.aload_n 0, 1) := by decide +kernel
theorem dX11_mostFor_9 : decode cX11_mostFor 9 = .ok (.iconst 1, 1) := by decide +kernel
theorem dX11_mostFor_10 : decode cX11_mostFor 10 = .ok (.invokevirtual 84, 3) := by decide +kernel
theorem dX11_mostFor_13 : decode cX11_mostFor 13 = .ok (.ireturn, 1) := by decide +kernel
theorem dX11_mostFor_14 : decode cX11_mostFor 14 = .ok (.ldc_w 405, 3) := by decide +kernel
theorem dX11_mostFor_17 : decode cX11_mostFor 17 = .ok (.istore_n 2, 1) := by decide +kernel
theorem dX11_mostFor_18 : decode cX11_mostFor 18 = .ok (.iconst 0, 1) := by decide +kernel
theorem dX11_mostFor_19 : decode cX11_mostFor 19 = .ok (.istore_n 3, 1) := by decide +kernel
theorem dX11_mostFor_20 : decode cX11_mostFor 20 = .ok (.iload_n 3, 1) := by decide +kernel
theorem dX11_mostFor_21 : decode cX11_mostFor 21 = .ok (.aload_n 0, 1) := by decide +kernel
theorem dX11_mostFor_22 : decode cX11_mostFor 22 = .ok (.invokevirtual 377, 3) := by decide +kernel
theorem dX11_mostFor_25 : decode cX11_mostFor 25 = .ok (.if_icmp .ge 27, 3) := by decide +kernel
theorem dX11_mostFor_28 : decode cX11_mostFor 28 = .ok (.aload_n 0, 1) := by decide +kernel
theorem dX11_mostFor_29 : decode cX11_mostFor 29 = .ok (.iload_n 3, 1) := by decide +kernel
theorem dX11_mostFor_30 : decode cX11_mostFor 30 = .ok (.invokevirtual 380, 3) := by decide +kernel
theorem dX11_mostFor_33 : decode cX11_mostFor 33 = .ok (.ifCond .eq 13, 3) := by decide +kernel
theorem dX11_mostFor_36 : decode cX11_mostFor 36 = .ok (.iload_n 2, 1) := by decide +kernel
theorem dX11_mostFor_37 : decode cX11_mostFor 37 = .ok (.aload_n 0, 1) := by decide +kernel
theorem dX11_mostFor_38 : decode cX11_mostFor 38 = .ok (.iload_n 1, 1) := by decide +kernel
theorem dX11_mostFor_39 : decode cX11_mostFor 39 = .ok (.invokevirtual 278, 3) := by decide +kernel
theorem dX11_mostFor_42 : decode cX11_mostFor 42 = .ok (.invokestatic 287, 3) := by decide +kernel
theorem dX11_mostFor_45 : decode cX11_mostFor 45 = .ok (.istore_n 2, 1) := by decide +kernel
theorem dX11_mostFor_46 : decode cX11_mostFor 46 = .ok (.iinc 3 1, 3) := by decide +kernel
theorem dX11_mostFor_49 : decode cX11_mostFor 49 = .ok (.goto (-29), 3) := by decide +kernel
theorem dX11_mostFor_52 : decode cX11_mostFor 52 = .ok (.aload_n 0, 1) := by decide +kernel
theorem dX11_mostFor_53 : decode cX11_mostFor 53 = .ok (.iload_n 2, 1) := by decide +kernel
theorem dX11_mostFor_54 : decode cX11_mostFor 54 = .ok (.invokevirtual 88, 3) := by decide +kernel
theorem dX11_mostFor_57 : decode cX11_mostFor 57 = .ok (.ireturn, 1) := by decide +kernel
set_option maxHeartbeats 4000000 in
set_option maxRecDepth 100000 in
theorem ctX11_mostFor {p1 : Int} {σ : jq_M} {res : Int} {σ' : jq_M}  (h : X11_mostFor p1 σ = some (res, σ')) : jq_MC jq_zM yX11_mostFor cX11_mostFor 4 (some .int) 4 110 [jR 0, jI p1] σ (some (jI res)) σ' := by
  refine jq_met (own := RX11) (L0 := [(0, jR 0), (1, jI p1)]) (by decide) rfl rfl rfl ?_
  intro X Γ hnl hlY hRT
  refine jq_use2 (P := fun r => jq_RT jq_zM X (some .int) (some (jI r.1)) r.2) ?_ h hRT
  intro K0 hK0
  unfold X11_mostFor
  refine jq_aload_n Γ dX11_mostFor_0 rfl 0 rfl (jq_at_0 at_M_0) ?_
  refine jq_iload_n Γ dX11_mostFor_1 rfl 1 rfl ?_
  refine jq_cpZ (jq_virt (avs := [jI p1]) (st := []) Γ hlY rfl ml_RX11_251 rfl at_M_0 rfl rfl rfl rfl rfl dX11_mostFor_2) rfl (fun r h => ctX11_isParty h) (fun v1 hz2 => ?_)
  refine jq_if_ne (tgt := 14) Γ dX11_mostFor_5 rfl ?_ ?_
  · refine jq_ldcw Γ (-1000000) dX11_mostFor_14 kc_RX11_405 rfl ?_
    refine jq_istore_n (L' := [(2, jI (-1000000)), (0, jR 0), (1, jI p1)]) Γ dX11_mostFor_17 rfl hnl rfl rfl ?_
    refine jq_iconst Γ dX11_mostFor_18 rfl ?_
    refine jq_istore_n (L' := [(3, jI 0), (2, jI (-1000000)), (0, jR 0), (1, jI p1)]) Γ dX11_mostFor_19 rfl hnl rfl rfl ?_
    refine jq_sub Γ (L' := [(0, jR 0), (1, jI p1), (2, jI (-1000000)), (3, jI 0)]) [2, 3, 1, 0] rfl ?_
    refine jq_loop2 (C := fun (t3 : Int × Int × jq_M) => jq_V jq_zM X (jq_zN jq_zM) t3.2.2 20 [(0, jR 0), (1, jI p1), (2, jI t3.1), (3, jI t3.2.1)] []) (KX := fun (e12 : Int × jq_M) => jq_V jq_zM X (jq_zN jq_zM) e12.2 52 [(0, jR 0), (2, jI e12.1)] []) ?_ ?_ ((-1000000), 0, σ)
    · intro K20_t3 hCt3 hXt3 t3
      unfold X11_mostFor_b20
      refine jq_iload_n Γ dX11_mostFor_20 rfl 3 rfl ?_
      refine jq_aload_n Γ dX11_mostFor_21 rfl 0 rfl (jq_at_0 at_M_0) ?_
      refine jq_cpI (jq_virt (avs := []) (st := [jI t3.2.1]) Γ hlY rfl ml_RX11_377 rfl at_M_0 rfl rfl rfl rfl rfl dX11_mostFor_22) (fun r h => ctX11_codes h) (fun v4 => ?_)
      refine jq_icmp_ge (tgt := 52) Γ dX11_mostFor_25 rfl ?_ ?_
      · refine jq_sub Γ (L' := [(0, jR 0), (2, jI t3.1)]) [0, 2] rfl ?_
        exact jq_done (hXt3 (t3.1, t3.2.2))
      · refine jq_aload_n Γ dX11_mostFor_28 rfl 0 rfl (jq_at_0 at_M_0) ?_
        refine jq_iload_n Γ dX11_mostFor_29 rfl 3 rfl ?_
        refine jq_cwZ (jq_virt (avs := [jI t3.2.1]) (st := []) Γ hlY rfl ml_RX11_380 rfl at_M_0 rfl rfl rfl rfl rfl dX11_mostFor_30) rfl (fun r σ' h => ctX11_seatsBy h) (fun v5 s6 hz7 => ?_)
        refine jq_if_eq (tgt := 46) Γ dX11_mostFor_33 rfl ?_ ?_
        · refine jq_iincN (L' := fun v8 => [(3, jI v8), (0, jR 0), (1, jI p1), (2, jI t3.1)]) Γ dX11_mostFor_46 3 rfl hnl rfl (fun _ => rfl) (fun v8 => ?_)
          refine jq_goto Γ (tgt := 20) dX11_mostFor_49 rfl ?_
          refine jq_sub Γ (L' := [(0, jR 0), (1, jI p1), (2, jI t3.1), (3, jI v8)]) [1, 2, 3, 0] rfl ?_
          exact jq_done (hCt3 (t3.1, v8, s6))
        · refine jq_iload_n Γ dX11_mostFor_36 rfl 2 rfl ?_
          refine jq_aload_n Γ dX11_mostFor_37 rfl 0 rfl (jq_at_0 at_M_0) ?_
          refine jq_iload_n Γ dX11_mostFor_38 rfl 1 rfl ?_
          refine jq_cpI (jq_virt (avs := [jI p1]) (st := [jI t3.1]) Γ hlY rfl ml_RX11_278 rfl at_M_0 rfl rfl rfl rfl rfl dX11_mostFor_39) (fun r h => ctX11_worthOf h) (fun v9 => ?_)
          refine jq_mmax Γ mw_RX11_287 mws_max mwi mwc_max rfl rfl dX11_mostFor_42 ?_
          refine jq_nmI (fun v10 => ?_)
          refine jq_istore_n (L' := [(2, jI v10), (0, jR 0), (1, jI p1), (3, jI t3.2.1)]) Γ dX11_mostFor_45 rfl hnl rfl rfl ?_
          refine jq_iincN (L' := fun v11 => [(3, jI v11), (2, jI v10), (0, jR 0), (1, jI p1)]) Γ dX11_mostFor_46 3 rfl hnl rfl (fun _ => rfl) (fun v11 => ?_)
          refine jq_goto Γ (tgt := 20) dX11_mostFor_49 rfl ?_
          refine jq_sub Γ (L' := [(0, jR 0), (1, jI p1), (2, jI v10), (3, jI v11)]) [2, 3, 1, 0] rfl ?_
          exact jq_done (hCt3 (v10, v11, s6))
    · intro e12
      refine jq_aload_n Γ dX11_mostFor_52 rfl 0 rfl (jq_at_0 at_M_0) ?_
      refine jq_iload_n Γ dX11_mostFor_53 rfl 1 rfl ?_
      refine jq_cwI (jq_virt (avs := [jI e12.1]) (st := []) Γ hlY rfl ml_RX11_88 rfl at_M_0 rfl rfl rfl rfl rfl dX11_mostFor_54) (fun r σ' h => ctX11_gives h) (fun v13 s14 => ?_)
      exact jq_ireturn Γ dX11_mostFor_57 (hK0 _)
  · refine jq_aload_n Γ dX11_mostFor_8 rfl 0 rfl (jq_at_0 at_M_0) ?_
    refine jq_iconst Γ dX11_mostFor_9 rfl ?_
    refine jq_cwI (jq_virt (avs := [jI 1]) (st := []) Γ hlY rfl ml_RX11_84 rfl at_M_0 rfl rfl rfl rfl rfl dX11_mostFor_10) (fun r σ' h => ctX11_refuse h) (fun v15 s16 => ?_)
    exact jq_ireturn Γ dX11_mostFor_13 (hK0 _)


theorem dX11_signsIn_0 : decode cX11_signsIn 0 = .ok (.aload_n 0, 1) := by decide +kernel
theorem dX11_signsIn_1 : decode cX11_signsIn 1 = .ok (.iload_n 1, 1) := by decide +kernel
theorem dX11_signsIn_2 : decode cX11_signsIn 2 = .ok (.invokevirtual 251, 3) := by decide +kernel
theorem dX11_signsIn_5 : decode cX11_signsIn 5 = .ok (.ifCond .ne 9, 3) := by decide +kernel
theorem dX11_signsIn_8 : decode cX11_signsIn 8 = .ok (.aload_n 0, 1) := by decide +kernel
theorem dX11_signsIn_9 : decode cX11_signsIn 9 = .ok (.iconst 1, 1) := by decide +kernel
theorem dX11_signsIn_10 : decode cX11_signsIn 10 = .ok (.invokevirtual 84, 3) := by decide +kernel
theorem dX11_signsIn_13 : decode cX11_signsIn 13 = .ok (.ireturn, 1) := by decide +kernel
theorem dX11_signsIn_14 : decode cX11_signsIn 14 = .ok (.iconst 0, 1) := by decide +kernel
theorem dX11_signsIn_15 : decode cX11_signsIn 15 = .ok (.istore_n 2, 1) := by decide +kernel
theorem dX11_signsIn_16 : decode cX11_signsIn 16 = .ok (.iconst 0, 1) := by decide +kernel
theorem dX11_signsIn_17 : decode cX11_signsIn 17 = .ok (.istore_n 3, 1) := by decide +kernel
theorem dX11_signsIn_18 : decode cX11_signsIn 18 = .ok (.iload_n 3, 1) := by decide +kernel
theorem dX11_signsIn_19 : decode cX11_signsIn 19 = .ok (.aload_n 0, 1) := by decide +kernel
theorem dX11_signsIn_20 : decode cX11_signsIn 20 = .ok (.invokevirtual 377, 3) := by decide +kernel
theorem dX11_signsIn_23 : decode cX11_signsIn 23 = .ok (.if_icmp .ge 33, 3) := by decide +kernel
theorem dX11_signsIn_26 : decode cX11_signsIn 26 = .ok (.iload_n 2, 1) := by decide +kernel
theorem dX11_signsIn_27 : decode cX11_signsIn 27 = .ok (.aload_n 0, 1) := by decide +kernel
theorem dX11_signsIn_28 : decode cX11_signsIn 28 = .ok (.iload_n 3, 1) := by decide +kernel
theorem dX11_signsIn_29 : decode cX11_signsIn 29 = .ok (.invokevirtual 380, 3) := by decide +kernel
theorem dX11_signsIn_32 : decode cX11_signsIn 32 = .ok (.ifCond .eq 15, 3) := by decide +kernel
theorem dX11_signsIn_35 : decode cX11_signsIn 35 = .ok (.aload_n 0, 1) := by decide +kernel
theorem dX11_signsIn_36 : decode cX11_signsIn 36 = .ok (.iload_n 1, 1) := by decide +kernel
theorem dX11_signsIn_37 : decode cX11_signsIn 37 = .ok (.invokevirtual 284, 3) := by decide +kernel
theorem dX11_signsIn_40 : decode cX11_signsIn 40 = .ok (.ifCond .eq 7, 3) := by decide +kernel
theorem dX11_signsIn_43 : decode cX11_signsIn 43 = .ok (.iconst 1, 1) := by decide +kernel
theorem dX11_signsIn_44 : decode cX11_signsIn 44 = .ok (.goto 4, 3) := by decide +kernel
theorem dX11_signsIn_47 : decode cX11_signsIn 47 = .ok (.iconst 0, 1) := by decide +kernel
theorem dX11_signsIn_48 : decode cX11_signsIn 48 = .ok (.iadd, 1) := by decide +kernel
theorem dX11_signsIn_49 : decode cX11_signsIn 49 = .ok (.istore_n 2, 1) := by decide +kernel
theorem dX11_signsIn_50 : decode cX11_signsIn 50 = .ok (.iinc 3 1, 3) := by decide +kernel
theorem dX11_signsIn_53 : decode cX11_signsIn 53 = .ok (.goto (-35), 3) := by decide +kernel
theorem dX11_signsIn_56 : decode cX11_signsIn 56 = .ok (.aload_n 0, 1) := by decide +kernel
theorem dX11_signsIn_57 : decode cX11_signsIn 57 = .ok (.iload_n 2, 1) := by decide +kernel
theorem dX11_signsIn_58 : decode cX11_signsIn 58 = .ok (.invokevirtual 88, 3) := by decide +kernel
theorem dX11_signsIn_61 : decode cX11_signsIn 61 = .ok (.ireturn, 1) := by decide +kernel
set_option maxHeartbeats 4000000 in
set_option maxRecDepth 100000 in
theorem ctX11_signsIn {p1 : Int} {σ : jq_M} {res : Int} {σ' : jq_M}  (h : X11_signsIn p1 σ = some (res, σ')) : jq_MC jq_zM yX11_signsIn cX11_signsIn 4 (some .int) 5 131 [jR 0, jI p1] σ (some (jI res)) σ' := by
  refine jq_met (own := RX11) (L0 := [(0, jR 0), (1, jI p1)]) (by decide) rfl rfl rfl ?_
  intro X Γ hnl hlY hRT
  refine jq_use2 (P := fun r => jq_RT jq_zM X (some .int) (some (jI r.1)) r.2) ?_ h hRT
  intro K0 hK0
  unfold X11_signsIn
  refine jq_aload_n Γ dX11_signsIn_0 rfl 0 rfl (jq_at_0 at_M_0) ?_
  refine jq_iload_n Γ dX11_signsIn_1 rfl 1 rfl ?_
  refine jq_cpZ (jq_virt (avs := [jI p1]) (st := []) Γ hlY rfl ml_RX11_251 rfl at_M_0 rfl rfl rfl rfl rfl dX11_signsIn_2) rfl (fun r h => ctX11_isParty h) (fun v1 hz2 => ?_)
  refine jq_if_ne (tgt := 14) Γ dX11_signsIn_5 rfl ?_ ?_
  · refine jq_iconst Γ dX11_signsIn_14 rfl ?_
    refine jq_istore_n (L' := [(2, jI 0), (0, jR 0), (1, jI p1)]) Γ dX11_signsIn_15 rfl hnl rfl rfl ?_
    refine jq_iconst Γ dX11_signsIn_16 rfl ?_
    refine jq_istore_n (L' := [(3, jI 0), (2, jI 0), (0, jR 0), (1, jI p1)]) Γ dX11_signsIn_17 rfl hnl rfl rfl ?_
    refine jq_sub Γ (L' := [(0, jR 0), (1, jI p1), (2, jI 0), (3, jI 0)]) [2, 3, 1, 0] rfl ?_
    refine jq_loop2 (C := fun (t3 : Int × Int × jq_M) => jq_V jq_zM X (jq_zN jq_zM) t3.2.2 18 [(0, jR 0), (1, jI p1), (2, jI t3.1), (3, jI t3.2.1)] []) (KX := fun (e16 : Int × jq_M) => jq_V jq_zM X (jq_zN jq_zM) e16.2 56 [(0, jR 0), (2, jI e16.1)] []) ?_ ?_ (0, 0, σ)
    · intro K18_t3 hCt3 hXt3 t3
      unfold X11_signsIn_b18
      refine jq_iload_n Γ dX11_signsIn_18 rfl 3 rfl ?_
      refine jq_aload_n Γ dX11_signsIn_19 rfl 0 rfl (jq_at_0 at_M_0) ?_
      refine jq_cpI (jq_virt (avs := []) (st := [jI t3.2.1]) Γ hlY rfl ml_RX11_377 rfl at_M_0 rfl rfl rfl rfl rfl dX11_signsIn_20) (fun r h => ctX11_codes h) (fun v4 => ?_)
      refine jq_icmp_ge (tgt := 56) Γ dX11_signsIn_23 rfl ?_ ?_
      · refine jq_sub Γ (L' := [(0, jR 0), (2, jI t3.1)]) [0, 2] rfl ?_
        exact jq_done (hXt3 (t3.1, t3.2.2))
      · refine jq_iload_n Γ dX11_signsIn_26 rfl 2 rfl ?_
        refine jq_aload_n Γ dX11_signsIn_27 rfl 0 rfl (jq_at_0 at_M_0) ?_
        refine jq_iload_n Γ dX11_signsIn_28 rfl 3 rfl ?_
        refine jq_cwZ (jq_virt (avs := [jI t3.2.1]) (st := [jI t3.1]) Γ hlY rfl ml_RX11_380 rfl at_M_0 rfl rfl rfl rfl rfl dX11_signsIn_29) rfl (fun r σ' h => ctX11_seatsBy h) (fun v5 s6 hz7 => ?_)
        refine jq_if_eq (tgt := 47) Γ dX11_signsIn_32 rfl ?_ ?_
        · refine jq_iconst Γ dX11_signsIn_47 rfl ?_
          refine jq_iadd Γ dX11_signsIn_48 ?_
          refine jq_nmI (fun v8 => ?_)
          refine jq_istore_n (L' := [(2, jI v8), (0, jR 0), (1, jI p1), (3, jI t3.2.1)]) Γ dX11_signsIn_49 rfl hnl rfl rfl ?_
          refine jq_iincN (L' := fun v9 => [(3, jI v9), (2, jI v8), (0, jR 0), (1, jI p1)]) Γ dX11_signsIn_50 3 rfl hnl rfl (fun _ => rfl) (fun v9 => ?_)
          refine jq_goto Γ (tgt := 18) dX11_signsIn_53 rfl ?_
          refine jq_sub Γ (L' := [(0, jR 0), (1, jI p1), (2, jI v8), (3, jI v9)]) [2, 3, 1, 0] rfl ?_
          exact jq_done (hCt3 (v8, v9, s6))
        · refine jq_aload_n Γ dX11_signsIn_35 rfl 0 rfl (jq_at_0 at_M_0) ?_
          refine jq_iload_n Γ dX11_signsIn_36 rfl 1 rfl ?_
          refine jq_cpZ (jq_virt (avs := [jI p1]) (st := [jI t3.1]) Γ hlY rfl ml_RX11_284 rfl at_M_0 rfl rfl rfl rfl rfl dX11_signsIn_37) rfl (fun r h => ctX11_doesSign h) (fun v10 hz11 => ?_)
          refine jq_if_eq (tgt := 47) Γ dX11_signsIn_40 rfl ?_ ?_
          · refine jq_iconst Γ dX11_signsIn_47 rfl ?_
            refine jq_iadd Γ dX11_signsIn_48 ?_
            refine jq_nmI (fun v12 => ?_)
            refine jq_istore_n (L' := [(2, jI v12), (0, jR 0), (1, jI p1), (3, jI t3.2.1)]) Γ dX11_signsIn_49 rfl hnl rfl rfl ?_
            refine jq_iincN (L' := fun v13 => [(3, jI v13), (2, jI v12), (0, jR 0), (1, jI p1)]) Γ dX11_signsIn_50 3 rfl hnl rfl (fun _ => rfl) (fun v13 => ?_)
            refine jq_goto Γ (tgt := 18) dX11_signsIn_53 rfl ?_
            refine jq_sub Γ (L' := [(0, jR 0), (1, jI p1), (2, jI v12), (3, jI v13)]) [2, 3, 1, 0] rfl ?_
            exact jq_done (hCt3 (v12, v13, s6))
          · refine jq_iconst Γ dX11_signsIn_43 rfl ?_
            refine jq_goto Γ (tgt := 48) dX11_signsIn_44 rfl ?_
            refine jq_iadd Γ dX11_signsIn_48 ?_
            refine jq_nmI (fun v14 => ?_)
            refine jq_istore_n (L' := [(2, jI v14), (0, jR 0), (1, jI p1), (3, jI t3.2.1)]) Γ dX11_signsIn_49 rfl hnl rfl rfl ?_
            refine jq_iincN (L' := fun v15 => [(3, jI v15), (2, jI v14), (0, jR 0), (1, jI p1)]) Γ dX11_signsIn_50 3 rfl hnl rfl (fun _ => rfl) (fun v15 => ?_)
            refine jq_goto Γ (tgt := 18) dX11_signsIn_53 rfl ?_
            refine jq_sub Γ (L' := [(0, jR 0), (1, jI p1), (2, jI v14), (3, jI v15)]) [2, 3, 1, 0] rfl ?_
            exact jq_done (hCt3 (v14, v15, s6))
    · intro e16
      refine jq_aload_n Γ dX11_signsIn_56 rfl 0 rfl (jq_at_0 at_M_0) ?_
      refine jq_iload_n Γ dX11_signsIn_57 rfl 1 rfl ?_
      refine jq_cwI (jq_virt (avs := [jI e16.1]) (st := []) Γ hlY rfl ml_RX11_88 rfl at_M_0 rfl rfl rfl rfl rfl dX11_signsIn_58) (fun r σ' h => ctX11_gives h) (fun v17 s18 => ?_)
      exact jq_ireturn Γ dX11_signsIn_61 (hK0 _)
  · refine jq_aload_n Γ dX11_signsIn_8 rfl 0 rfl (jq_at_0 at_M_0) ?_
    refine jq_iconst Γ dX11_signsIn_9 rfl ?_
    refine jq_cwI (jq_virt (avs := [jI 1]) (st := []) Γ hlY rfl ml_RX11_84 rfl at_M_0 rfl rfl rfl rfl rfl dX11_signsIn_10) (fun r σ' h => ctX11_refuse h) (fun v19 s20 => ?_)
    exact jq_ireturn Γ dX11_signsIn_13 (hK0 _)


theorem dX11_seatBest_0 : decode cX11_seatBest 0 = .ok (.aload_n 0, 1) := by decide +kernel
theorem dX11_seatBest_1 : decode cX11_seatBest 1 = .ok (.invokevirtual 399, 3) := by decide +kernel
theorem dX11_seatBest_4 : decode cX11_seatBest 4 = .ok (.iconst (-1), 1) := by decide +kernel
theorem dX11_seatBest_5 : decode cX11_seatBest 5 = .ok (.if_icmp .ne 10, 3) := by decide +kernel
theorem dX11_seatBest_8 : decode cX11_seatBest 8 = .ok (.aload_n 0, 1) := by decide +kernel
theorem dX11_seatBest_9 : decode cX11_seatBest 9 = .ok (.bipush 6, 2) := by decide +kernel
theorem dX11_seatBest_11 : decode cX11_seatBest 11 = .ok (.invokevirtual 84, 3) := by decide +kernel
theorem dX11_seatBest_14 : decode cX11_seatBest 14 = .ok (.ireturn, 1) := by decide +kernel
theorem dX11_seatBest_15 : decode cX11_seatBest 15 = .ok (.iconst 0, 1) := by decide +kernel
theorem dX11_seatBest_16 : decode cX11_seatBest 16 = .ok (.istore_n 1, 1) := by decide +kernel
theorem dX11_seatBest_17 : decode cX11_seatBest 17 = .ok (.iload_n 1, 1) := by decide +kernel
theorem dX11_seatBest_18 : decode cX11_seatBest 18 = .ok (.aload_n 0, 1) := by decide +kernel
theorem dX11_seatBest_19 : decode cX11_seatBest 19 = .ok (.getfield 7, 3) := by decide +kernel
theorem dX11_seatBest_22 : decode cX11_seatBest 22 = .ok (.iconst 1, 1) := by decide +kernel
theorem dX11_seatBest_23 : decode cX11_seatBest 23 = .ok (.iaload, 1) := by decide +kernel
theorem dX11_seatBest_24 : decode cX11_seatBest 24 = .ok (.if_icmp .ge 26, 3) := by decide +kernel
theorem dX11_seatBest_27 : decode cX11_seatBest 27 = .ok (.aload_n 0, 1) := by decide +kernel
theorem dX11_seatBest_28 : decode cX11_seatBest 28 = .ok (.getfield 7, 3) := by decide +kernel
theorem dX11_seatBest_31 : decode cX11_seatBest 31 = .ok (.iload_n 1, 1) := by decide +kernel
theorem dX11_seatBest_32 : decode cX11_seatBest 32 = .ok (.invokestatic 254, 3) := by decide +kernel
theorem dX11_seatBest_35 : decode cX11_seatBest 35 = .ok (.iconst 1, 1) := by decide +kernel
theorem dX11_seatBest_36 : decode cX11_seatBest 36 = .ok (.iadd, 1) := by decide +kernel
theorem dX11_seatBest_37 : decode cX11_seatBest 37 = .ok (.aload_n 0, 1) := by decide +kernel
theorem dX11_seatBest_38 : decode cX11_seatBest 38 = .ok (.getfield 47, 3) := by decide +kernel
theorem dX11_seatBest_41 : decode cX11_seatBest 41 = .ok (.iload_n 1, 1) := by decide +kernel
theorem dX11_seatBest_42 : decode cX11_seatBest 42 = .ok (.iaload, 1) := by decide +kernel
theorem dX11_seatBest_43 : decode cX11_seatBest 43 = .ok (.iastore, 1) := by decide +kernel
theorem dX11_seatBest_44 : decode cX11_seatBest 44 = .ok (.iinc 1 1, 3) := by decide +kernel
theorem dX11_seatBest_47 : decode cX11_seatBest 47 = .ok (.goto (-30), 3) := by decide +kernel
theorem dX11_seatBest_50 : decode cX11_seatBest 50 = .ok (.aload_n 0, 1) := by decide +kernel
theorem dX11_seatBest_51 : decode cX11_seatBest 51 = .ok (.aload_n 0, 1) := by decide +kernel
theorem dX11_seatBest_52 : decode cX11_seatBest 52 = .ok (.invokevirtual 332, 3) := by decide +kernel
theorem dX11_seatBest_55 : decode cX11_seatBest 55 = .ok (.invokevirtual 88, 3) := by decide +kernel
theorem dX11_seatBest_58 : decode cX11_seatBest 58 = .ok (.ireturn, 1) := by decide +kernel
set_option maxHeartbeats 4000000 in
set_option maxRecDepth 100000 in
theorem ctX11_seatBest  {σ : jq_M} {res : Int} {σ' : jq_M}  (h : X11_seatBest σ = some (res, σ')) : jq_MC jq_zM yX11_seatBest cX11_seatBest 2 (some .int) 5 132 [jR 0] σ (some (jI res)) σ' := by
  refine jq_met (own := RX11) (L0 := [(0, jR 0)]) (by decide) rfl rfl rfl ?_
  intro X Γ hnl hlY hRT
  refine jq_use2 (P := fun r => jq_RT jq_zM X (some .int) (some (jI r.1)) r.2) ?_ h hRT
  intro K0 hK0
  unfold X11_seatBest
  refine jq_aload_n Γ dX11_seatBest_0 rfl 0 rfl (jq_at_0 at_M_0) ?_
  refine jq_cwI (jq_virt (avs := []) (st := []) Γ hlY rfl ml_RX11_399 rfl at_M_0 rfl rfl rfl rfl rfl dX11_seatBest_1) (fun r σ' h => ctX11_bestCode h) (fun v1 s2 => ?_)
  refine jq_iconst Γ dX11_seatBest_4 rfl ?_
  refine jq_icmp_ne (tgt := 15) Γ dX11_seatBest_5 rfl ?_ ?_
  · refine jq_iconst Γ dX11_seatBest_15 rfl ?_
    refine jq_istore_n (L' := [(1, jI 0), (0, jR 0)]) Γ dX11_seatBest_16 rfl hnl rfl rfl ?_
    refine jq_sub Γ (L' := [(0, jR 0), (1, jI 0)]) [1, 0] rfl ?_
    refine jq_loop2 (C := fun (t3 : Int × jq_M) => jq_V jq_zM X (jq_zN jq_zM) t3.2 17 [(0, jR 0), (1, jI t3.1)] []) (KX := fun (e9 : jq_M) => jq_V jq_zM X (jq_zN jq_zM) e9 50 [(0, jR 0)] []) ?_ ?_ (0, s2)
    · intro K17_t3 hCt3 hXt3 t3
      unfold X11_seatBest_b17
      refine jq_iload_n Γ dX11_seatBest_17 rfl 1 rfl ?_
      refine jq_aload_n Γ dX11_seatBest_18 rfl 0 rfl (jq_at_0 at_M_0) ?_
      refine jq_getR (v := 1) Γ hlY at_M_0 fl_RX11_7 rfl rfl ly_X11_at dX11_seatBest_19 ?_
      refine jq_iconst Γ dX11_seatBest_22 rfl ?_
      refine jq_iald Γ at_M_1 rfl dX11_seatBest_23 (fun v4 => ?_)
      refine jq_icmp_ge (tgt := 50) Γ dX11_seatBest_24 rfl ?_ ?_
      · refine jq_sub Γ (L' := [(0, jR 0)]) [0] rfl ?_
        exact jq_done (hXt3 t3.2)
      · refine jq_aload_n Γ dX11_seatBest_27 rfl 0 rfl (jq_at_0 at_M_0) ?_
        refine jq_getR (v := 1) Γ hlY at_M_0 fl_RX11_7 rfl rfl ly_X11_at dX11_seatBest_28 ?_
        refine jq_iload_n Γ dX11_seatBest_31 rfl 1 rfl ?_
        refine jq_cpI (jq_stat (avs := [jI t3.1]) (st := [jR 1]) Γ hlY rfl ml_RX11_254 rfl rfl rfl rfl rfl dX11_seatBest_32) (fun r h => ctX11_partyRow h) (fun v5 => ?_)
        refine jq_iconst Γ dX11_seatBest_35 rfl ?_
        refine jq_iadd Γ dX11_seatBest_36 ?_
        refine jq_aload_n Γ dX11_seatBest_37 rfl 0 rfl (jq_at_0 at_M_0) ?_
        refine jq_getR (v := 9) Γ hlY at_M_0 fl_RX11_47 rfl rfl ly_X11_seat dX11_seatBest_38 ?_
        refine jq_iload_n Γ dX11_seatBest_41 rfl 1 rfl ?_
        refine jq_iald Γ at_M_9 rfl dX11_seatBest_42 (fun v6 => ?_)
        refine jq_iast Γ at_M_1 rfl dX11_seatBest_43 (fun s7 => ?_)
        refine jq_iincN (L' := fun v8 => [(1, jI v8), (0, jR 0)]) Γ dX11_seatBest_44 1 rfl hnl rfl (fun _ => rfl) (fun v8 => ?_)
        refine jq_goto Γ (tgt := 17) dX11_seatBest_47 rfl ?_
        refine jq_sub Γ (L' := [(0, jR 0), (1, jI v8)]) [1, 0] rfl ?_
        exact jq_done (hCt3 (v8, s7))
    · intro e9
      refine jq_aload_n Γ dX11_seatBest_50 rfl 0 rfl (jq_at_0 at_M_0) ?_
      refine jq_aload_n Γ dX11_seatBest_51 rfl 0 rfl (jq_at_0 at_M_0) ?_
      refine jq_cpI (jq_virt (avs := []) (st := [jR 0]) Γ hlY rfl ml_RX11_332 rfl at_M_0 rfl rfl rfl rfl rfl dX11_seatBest_52) (fun r h => ctX11_worthOfAll h) (fun v10 => ?_)
      refine jq_cwI (jq_virt (avs := [jI v10]) (st := []) Γ hlY rfl ml_RX11_88 rfl at_M_0 rfl rfl rfl rfl rfl dX11_seatBest_55) (fun r σ' h => ctX11_gives h) (fun v11 s12 => ?_)
      exact jq_ireturn Γ dX11_seatBest_58 (hK0 _)
  · refine jq_aload_n Γ dX11_seatBest_8 rfl 0 rfl (jq_at_0 at_M_0) ?_
    refine jq_bipush Γ dX11_seatBest_9 rfl ?_
    refine jq_cwI (jq_virt (avs := [jI 6]) (st := []) Γ hlY rfl ml_RX11_84 rfl at_M_0 rfl rfl rfl rfl rfl dX11_seatBest_11) (fun r σ' h => ctX11_refuse h) (fun v13 s14 => ?_)
    exact jq_ireturn Γ dX11_seatBest_14 (hK0 _)


theorem dX11_fish_0 : decode cX11_fish 0 = .ok (.aload_n 0, 1) := by decide +kernel
theorem dX11_fish_1 : decode cX11_fish 1 = .ok (.invokevirtual 302, 3) := by decide +kernel
theorem dX11_fish_4 : decode cX11_fish 4 = .ok (.aload_n 0, 1) := by decide +kernel
theorem dX11_fish_5 : decode cX11_fish 5 = .ok (.aload_n 0, 1) := by decide +kernel
theorem dX11_fish_6 : decode cX11_fish 6 = .ok (.invokevirtual 406, 3) := by decide +kernel
theorem dX11_fish_9 : decode cX11_fish 9 = .ok (.invokevirtual 88, 3) := by decide +kernel
theorem dX11_fish_12 : decode cX11_fish 12 = .ok (.ireturn, 1) := by decide +kernel
set_option maxHeartbeats 4000000 in
set_option maxRecDepth 100000 in
theorem ctX11_fish  {σ : jq_M} {res : Int} {σ' : jq_M}  (h : X11_fish σ = some (res, σ')) : jq_MC jq_zM yX11_fish cX11_fish 1 (some .int) 5 132 [jR 0] σ (some (jI res)) σ' := by
  refine jq_met (own := RX11) (L0 := [(0, jR 0)]) (by decide) rfl rfl rfl ?_
  intro X Γ hnl hlY hRT
  refine jq_use2 (P := fun r => jq_RT jq_zM X (some .int) (some (jI r.1)) r.2) ?_ h hRT
  intro K0 hK0
  unfold X11_fish
  refine jq_aload_n Γ dX11_fish_0 rfl 0 rfl (jq_at_0 at_M_0) ?_
  refine jq_cwV (jq_virt (avs := []) (st := []) Γ hlY rfl ml_RX11_302 rfl at_M_0 rfl rfl rfl rfl rfl dX11_fish_1) (fun σ' h => ctX11_seatsNow h) (fun s1 => ?_)
  refine jq_aload_n Γ dX11_fish_4 rfl 0 rfl (jq_at_0 at_M_0) ?_
  refine jq_aload_n Γ dX11_fish_5 rfl 0 rfl (jq_at_0 at_M_0) ?_
  refine jq_cpI (jq_virt (avs := []) (st := [jR 0]) Γ hlY rfl ml_RX11_406 rfl at_M_0 rfl rfl rfl rfl rfl dX11_fish_6) (fun r h => ctX11_fishing h) (fun v2 => ?_)
  refine jq_cwI (jq_virt (avs := [jI v2]) (st := []) Γ hlY rfl ml_RX11_88 rfl at_M_0 rfl rfl rfl rfl rfl dX11_fish_9) (fun r σ' h => ctX11_gives h) (fun v3 s4 => ?_)
  exact jq_ireturn Γ dX11_fish_12 (hK0 _)


theorem dX11_leastFish_0 : decode cX11_leastFish 0 = .ok (.ldc_w 409, 3) := by decide +kernel
theorem dX11_leastFish_3 : decode cX11_leastFish 3 = .ok (.istore_n 1, 1) := by decide +kernel
theorem dX11_leastFish_4 : decode cX11_leastFish 4 = .ok (.iconst 0, 1) := by decide +kernel
theorem dX11_leastFish_5 : decode cX11_leastFish 5 = .ok (.istore_n 2, 1) := by decide +kernel
theorem dX11_leastFish_6 : decode cX11_leastFish 6 = .ok (.iload_n 2, 1) := by decide +kernel
theorem dX11_leastFish_7 : decode cX11_leastFish 7 = .ok (.aload_n 0, 1) := by decide +kernel
theorem dX11_leastFish_8 : decode cX11_leastFish 8 = .ok (.invokevirtual 377, 3) := by decide +kernel
theorem dX11_leastFish_11 : decode cX11_leastFish 11 = .ok (.if_icmp .ge 26, 3) := by decide +kernel
theorem dX11_leastFish_14 : decode cX11_leastFish 14 = .ok (.aload_n 0, 1) := by decide +kernel
theorem dX11_leastFish_15 : decode cX11_leastFish 15 = .ok (.iload_n 2, 1) := by decide +kernel
theorem dX11_leastFish_16 : decode cX11_leastFish 16 = .ok (.invokevirtual 380, 3) := by decide +kernel
theorem dX11_leastFish_19 : decode cX11_leastFish 19 = .ok (.ifCond .eq 12, 3) := by decide +kernel
theorem dX11_leastFish_22 : decode cX11_leastFish 22 = .ok (.iload_n 1, 1) := by decide +kernel
theorem dX11_leastFish_23 : decode cX11_leastFish 23 = .ok (.aload_n 0, 1) := by decide +kernel
theorem dX11_leastFish_24 : decode cX11_leastFish 24 = .ok (.invokevirtual 406, 3) := by decide +kernel
theorem dX11_leastFish_27 : decode cX11_leastFish 27 = .ok (.invokestatic 139, 3) := by decide +kernel
theorem dX11_leastFish_30 : decode cX11_leastFish 30 = .ok (.istore_n 1, 1) := by decide +kernel
theorem dX11_leastFish_31 : decode cX11_leastFish 31 = .ok (.iinc 2 1, 3) := by decide +kernel
theorem dX11_leastFish_34 : decode cX11_leastFish 34 = .ok (.goto (-28), 3) := by decide +kernel
theorem dX11_leastFish_37 : decode cX11_leastFish 37 = .ok (.iload_n 1, 1) := by decide +kernel
theorem dX11_leastFish_38 : decode cX11_leastFish 38 = .ok (.ldc_w 409, 3) := by decide +kernel
theorem dX11_leastFish_41 : decode cX11_leastFish 41 = .ok (.if_icmp .ne 12, 3) := by decide +kernel
theorem dX11_leastFish_44 : decode cX11_leastFish 44 = .ok (.aload_n 0, 1) := by decide +kernel
theorem dX11_leastFish_45 : decode cX11_leastFish 45 = .ok (.bipush 6, 2) := by decide +kernel
theorem dX11_leastFish_47 : decode cX11_leastFish 47 = .ok (.invokevirtual 84, 3) := by decide +kernel
theorem dX11_leastFish_50 : decode cX11_leastFish 50 = .ok (.goto 8, 3) := by decide +kernel
theorem dX11_leastFish_53 : decode cX11_leastFish 53 = .ok (.aload_n 0, 1) := by decide +kernel
theorem dX11_leastFish_54 : decode cX11_leastFish 54 = .ok (.iload_n 1, 1) := by decide +kernel
theorem dX11_leastFish_55 : decode cX11_leastFish 55 = .ok (.invokevirtual 88, 3) := by decide +kernel
theorem dX11_leastFish_58 : decode cX11_leastFish 58 = .ok (.ireturn, 1) := by decide +kernel
set_option maxHeartbeats 4000000 in
set_option maxRecDepth 100000 in
theorem ctX11_leastFish  {σ : jq_M} {res : Int} {σ' : jq_M}  (h : X11_leastFish σ = some (res, σ')) : jq_MC jq_zM yX11_leastFish cX11_leastFish 3 (some .int) 5 132 [jR 0] σ (some (jI res)) σ' := by
  refine jq_met (own := RX11) (L0 := [(0, jR 0)]) (by decide) rfl rfl rfl ?_
  intro X Γ hnl hlY hRT
  refine jq_use2 (P := fun r => jq_RT jq_zM X (some .int) (some (jI r.1)) r.2) ?_ h hRT
  intro K0 hK0
  unfold X11_leastFish
  refine jq_ldcw Γ 1000000 dX11_leastFish_0 kc_RX11_409 rfl ?_
  refine jq_istore_n (L' := [(1, jI 1000000), (0, jR 0)]) Γ dX11_leastFish_3 rfl hnl rfl rfl ?_
  refine jq_iconst Γ dX11_leastFish_4 rfl ?_
  refine jq_istore_n (L' := [(2, jI 0), (1, jI 1000000), (0, jR 0)]) Γ dX11_leastFish_5 rfl hnl rfl rfl ?_
  refine jq_sub Γ (L' := [(0, jR 0), (1, jI 1000000), (2, jI 0)]) [2, 1, 0] rfl ?_
  refine jq_loop2 (C := fun (t1 : Int × Int × jq_M) => jq_V jq_zM X (jq_zN jq_zM) t1.2.2 6 [(0, jR 0), (1, jI t1.1), (2, jI t1.2.1)] []) (KX := fun (e10 : Int × jq_M) => jq_V jq_zM X (jq_zN jq_zM) e10.2 37 [(0, jR 0), (1, jI e10.1)] []) ?_ ?_ (1000000, 0, σ)
  · intro K6_t1 hCt1 hXt1 t1
    unfold X11_leastFish_b6
    refine jq_iload_n Γ dX11_leastFish_6 rfl 2 rfl ?_
    refine jq_aload_n Γ dX11_leastFish_7 rfl 0 rfl (jq_at_0 at_M_0) ?_
    refine jq_cpI (jq_virt (avs := []) (st := [jI t1.2.1]) Γ hlY rfl ml_RX11_377 rfl at_M_0 rfl rfl rfl rfl rfl dX11_leastFish_8) (fun r h => ctX11_codes h) (fun v2 => ?_)
    refine jq_icmp_ge (tgt := 37) Γ dX11_leastFish_11 rfl ?_ ?_
    · refine jq_sub Γ (L' := [(0, jR 0), (1, jI t1.1)]) [0, 1] rfl ?_
      exact jq_done (hXt1 (t1.1, t1.2.2))
    · refine jq_aload_n Γ dX11_leastFish_14 rfl 0 rfl (jq_at_0 at_M_0) ?_
      refine jq_iload_n Γ dX11_leastFish_15 rfl 2 rfl ?_
      refine jq_cwZ (jq_virt (avs := [jI t1.2.1]) (st := []) Γ hlY rfl ml_RX11_380 rfl at_M_0 rfl rfl rfl rfl rfl dX11_leastFish_16) rfl (fun r σ' h => ctX11_seatsBy h) (fun v3 s4 hz5 => ?_)
      refine jq_if_eq (tgt := 31) Γ dX11_leastFish_19 rfl ?_ ?_
      · refine jq_iincN (L' := fun v6 => [(2, jI v6), (0, jR 0), (1, jI t1.1)]) Γ dX11_leastFish_31 2 rfl hnl rfl (fun _ => rfl) (fun v6 => ?_)
        refine jq_goto Γ (tgt := 6) dX11_leastFish_34 rfl ?_
        refine jq_sub Γ (L' := [(0, jR 0), (1, jI t1.1), (2, jI v6)]) [1, 2, 0] rfl ?_
        exact jq_done (hCt1 (t1.1, v6, s4))
      · refine jq_iload_n Γ dX11_leastFish_22 rfl 1 rfl ?_
        refine jq_aload_n Γ dX11_leastFish_23 rfl 0 rfl (jq_at_0 at_M_0) ?_
        refine jq_cpI (jq_virt (avs := []) (st := [jI t1.1]) Γ hlY rfl ml_RX11_406 rfl at_M_0 rfl rfl rfl rfl rfl dX11_leastFish_24) (fun r h => ctX11_fishing h) (fun v7 => ?_)
        refine jq_mmin Γ mw_RX11_139 mws_min mwi mwc_min rfl rfl dX11_leastFish_27 ?_
        refine jq_nmI (fun v8 => ?_)
        refine jq_istore_n (L' := [(1, jI v8), (0, jR 0), (2, jI t1.2.1)]) Γ dX11_leastFish_30 rfl hnl rfl rfl ?_
        refine jq_iincN (L' := fun v9 => [(2, jI v9), (1, jI v8), (0, jR 0)]) Γ dX11_leastFish_31 2 rfl hnl rfl (fun _ => rfl) (fun v9 => ?_)
        refine jq_goto Γ (tgt := 6) dX11_leastFish_34 rfl ?_
        refine jq_sub Γ (L' := [(0, jR 0), (1, jI v8), (2, jI v9)]) [2, 1, 0] rfl ?_
        exact jq_done (hCt1 (v8, v9, s4))
  · intro e10
    refine jq_iload_n Γ dX11_leastFish_37 rfl 1 rfl ?_
    refine jq_ldcw Γ 1000000 dX11_leastFish_38 kc_RX11_409 rfl ?_
    refine jq_icmp_ne (tgt := 53) Γ dX11_leastFish_41 rfl ?_ ?_
    · refine jq_aload_n Γ dX11_leastFish_53 rfl 0 rfl (jq_at_0 at_M_0) ?_
      refine jq_iload_n Γ dX11_leastFish_54 rfl 1 rfl ?_
      refine jq_cwI (jq_virt (avs := [jI e10.1]) (st := []) Γ hlY rfl ml_RX11_88 rfl at_M_0 rfl rfl rfl rfl rfl dX11_leastFish_55) (fun r σ' h => ctX11_gives h) (fun v11 s12 => ?_)
      exact jq_ireturn Γ dX11_leastFish_58 (hK0 _)
    · refine jq_aload_n Γ dX11_leastFish_44 rfl 0 rfl (jq_at_0 at_M_0) ?_
      refine jq_bipush Γ dX11_leastFish_45 rfl ?_
      refine jq_cwI (jq_virt (avs := [jI 6]) (st := []) Γ hlY rfl ml_RX11_84 rfl at_M_0 rfl rfl rfl rfl rfl dX11_leastFish_47) (fun r σ' h => ctX11_refuse h) (fun v13 s14 => ?_)
      refine jq_goto Γ (tgt := 58) dX11_leastFish_50 rfl ?_
      exact jq_ireturn Γ dX11_leastFish_58 (hK0 _)


theorem dX11_swapsSeats_0 : decode cX11_swapsSeats 0 = .ok (.aload_n 0, 1) := by decide +kernel
theorem dX11_swapsSeats_1 : decode cX11_swapsSeats 1 = .ok (.getfield 47, 3) := by decide +kernel
theorem dX11_swapsSeats_4 : decode cX11_swapsSeats 4 = .ok (.iload_n 1, 1) := by decide +kernel
theorem dX11_swapsSeats_5 : decode cX11_swapsSeats 5 = .ok (.iaload, 1) := by decide +kernel
theorem dX11_swapsSeats_6 : decode cX11_swapsSeats 6 = .ok (.istore_n 3, 1) := by decide +kernel
theorem dX11_swapsSeats_7 : decode cX11_swapsSeats 7 = .ok (.aload_n 0, 1) := by decide +kernel
theorem dX11_swapsSeats_8 : decode cX11_swapsSeats 8 = .ok (.getfield 47, 3) := by decide +kernel
theorem dX11_swapsSeats_11 : decode cX11_swapsSeats 11 = .ok (.iload_n 1, 1) := by decide +kernel
theorem dX11_swapsSeats_12 : decode cX11_swapsSeats 12 = .ok (.aload_n 0, 1) := by decide +kernel
theorem dX11_swapsSeats_13 : decode cX11_swapsSeats 13 = .ok (.getfield 47, 3) := by decide +kernel
theorem dX11_swapsSeats_16 : decode cX11_swapsSeats 16 = .ok (.iload_n 2, 1) := by decide +kernel
theorem dX11_swapsSeats_17 : decode cX11_swapsSeats 17 = .ok (.iaload, 1) := by decide +kernel
theorem dX11_swapsSeats_18 : decode cX11_swapsSeats 18 = .ok (.iastore, 1) := by decide +kernel
theorem dX11_swapsSeats_19 : decode cX11_swapsSeats 19 = .ok (.aload_n 0, 1) := by decide +kernel
theorem dX11_swapsSeats_20 : decode cX11_swapsSeats 20 = .ok (.getfield 47, 3) := by decide +kernel
theorem dX11_swapsSeats_23 : decode cX11_swapsSeats 23 = .ok (.iload_n 2, 1) := by decide +kernel
theorem dX11_swapsSeats_24 : decode cX11_swapsSeats 24 = .ok (.iload_n 3, 1) := by decide +kernel
theorem dX11_swapsSeats_25 : decode cX11_swapsSeats 25 = .ok (.iastore, 1) := by decide +kernel
theorem dX11_swapsSeats_26 : decode cX11_swapsSeats 26 = .ok (.return_, 1) := by decide +kernel
set_option maxHeartbeats 4000000 in
set_option maxRecDepth 100000 in
theorem ctX11_swapsSeats {p1 : Int} {p2 : Int} {σ : jq_M} {σ' : jq_M}  (h : X11_swapsSeats p1 p2 σ = some σ') : jq_MC jq_zM yX11_swapsSeats cX11_swapsSeats 4 none 1 40 [jR 0, jI p1, jI p2] σ none σ' := by
  refine jq_met (own := RX11) (L0 := [(0, jR 0), (1, jI p1), (2, jI p2)]) (by decide) rfl rfl rfl ?_
  intro X Γ hnl hlY hRT
  refine jq_use2 (P := fun r => jq_RT jq_zM X none none r) ?_ h hRT
  intro K0 hK0
  unfold X11_swapsSeats
  refine jq_aload_n Γ dX11_swapsSeats_0 rfl 0 rfl (jq_at_0 at_M_0) ?_
  refine jq_getR (v := 9) Γ hlY at_M_0 fl_RX11_47 rfl rfl ly_X11_seat dX11_swapsSeats_1 ?_
  refine jq_iload_n Γ dX11_swapsSeats_4 rfl 1 rfl ?_
  refine jq_iald Γ at_M_9 rfl dX11_swapsSeats_5 (fun v1 => ?_)
  refine jq_istore_n (L' := [(3, jI v1), (0, jR 0), (1, jI p1), (2, jI p2)]) Γ dX11_swapsSeats_6 rfl hnl rfl rfl ?_
  refine jq_aload_n Γ dX11_swapsSeats_7 rfl 1 rfl (jq_at_0 at_M_0) ?_
  refine jq_getR (v := 9) Γ hlY at_M_0 fl_RX11_47 rfl rfl ly_X11_seat dX11_swapsSeats_8 ?_
  refine jq_iload_n Γ dX11_swapsSeats_11 rfl 2 rfl ?_
  refine jq_aload_n Γ dX11_swapsSeats_12 rfl 1 rfl (jq_at_0 at_M_0) ?_
  refine jq_getR (v := 9) Γ hlY at_M_0 fl_RX11_47 rfl rfl ly_X11_seat dX11_swapsSeats_13 ?_
  refine jq_iload_n Γ dX11_swapsSeats_16 rfl 3 rfl ?_
  refine jq_iald Γ at_M_9 rfl dX11_swapsSeats_17 (fun v2 => ?_)
  refine jq_iast Γ at_M_9 rfl dX11_swapsSeats_18 (fun s3 => ?_)
  refine jq_aload_n Γ dX11_swapsSeats_19 rfl 1 rfl (jq_at_0 at_M_0) ?_
  refine jq_getR (v := 9) Γ hlY at_M_0 fl_RX11_47 rfl rfl ly_X11_seat dX11_swapsSeats_20 ?_
  refine jq_iload_n Γ dX11_swapsSeats_23 rfl 3 rfl ?_
  refine jq_iload_n Γ dX11_swapsSeats_24 rfl 0 rfl ?_
  refine jq_iast Γ at_M_9 rfl dX11_swapsSeats_25 (fun s4 => ?_)
  exact jq_vreturn Γ dX11_swapsSeats_26 (hK0 _)


