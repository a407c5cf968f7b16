theorem fl_RX11_68 : jq_fl RX11 68 8 37 33 true := ⟨RX11, TX11, tyX11, cls_X11, by decide, jq_in 1595 (by decide +kernel) rfl, by decide⟩
theorem yf_X11_draw : Cond.instanceMethod yX11_draw ∈ jq_T ∧ Cond.selects (yX11_draw).cls yX11_draw yX11_draw ∈ jq_T ∧ Cond.initialized (yX11_draw).cls ∈ jq_T ∧ Cond.code yX11_draw cX11_draw 2 (some .int) ∈ jq_T ∧ ((yX11_draw).cls ≠ "java/lang/invoke/MethodHandle" ∧ (yX11_draw).cls ≠ "java/lang/invoke/VarHandle" ∧ (parseMethodDescriptor (yX11_draw).desc).map (fun d => d.parameters.length) = some 1) := ⟨jq_in 2354 (by decide +kernel) rfl, jq_in 133 (by decide +kernel) rfl, jq_in 150 (by decide +kernel) rfl, jq_in 2355 (by decide +kernel) rfl, ⟨by decide, by decide, by decide +kernel⟩⟩
theorem ml_RX11_469 : jq_vl RX11 469 yX11_draw cX11_draw 2 (some .int) 1 := ⟨jq_in 2352 (by decide +kernel) rfl, yf_X11_draw⟩
theorem yf_X11_risesBy : Cond.instanceMethod yX11_risesBy ∈ jq_T ∧ Cond.selects (yX11_risesBy).cls yX11_risesBy yX11_risesBy ∈ jq_T ∧ Cond.initialized (yX11_risesBy).cls ∈ jq_T ∧ Cond.code yX11_risesBy cX11_risesBy 3 (some .boolean) ∈ jq_T ∧ ((yX11_risesBy).cls ≠ "java/lang/invoke/MethodHandle" ∧ (yX11_risesBy).cls ≠ "java/lang/invoke/VarHandle" ∧ (parseMethodDescriptor (yX11_risesBy).desc).map (fun d => d.parameters.length) = some 1) := ⟨jq_in 2330 (by decide +kernel) rfl, jq_in 127 (by decide +kernel) rfl, jq_in 150 (by decide +kernel) rfl, jq_in 2331 (by decide +kernel) rfl, ⟨by decide, by decide, by decide +kernel⟩⟩
theorem ml_RX11_472 : jq_vl RX11 472 yX11_risesBy cX11_risesBy 3 (some .boolean) 1 := ⟨jq_in 2328 (by decide +kernel) rfl, yf_X11_risesBy⟩
theorem yf_X11_turnsAll : Cond.instanceMethod yX11_turnsAll ∈ jq_T ∧ Cond.selects (yX11_turnsAll).cls yX11_turnsAll yX11_turnsAll ∈ jq_T ∧ Cond.initialized (yX11_turnsAll).cls ∈ jq_T ∧ Cond.code yX11_turnsAll cX11_turnsAll 2 (some .boolean) ∈ jq_T ∧ ((yX11_turnsAll).cls ≠ "java/lang/invoke/MethodHandle" ∧ (yX11_turnsAll).cls ≠ "java/lang/invoke/VarHandle" ∧ (parseMethodDescriptor (yX11_turnsAll).desc).map (fun d => d.parameters.length) = some 1) := ⟨jq_in 2334 (by decide +kernel) rfl, jq_in 128 (by decide +kernel) rfl, jq_in 150 (by decide +kernel) rfl, jq_in 2335 (by decide +kernel) rfl, ⟨by decide, by decide, by decide +kernel⟩⟩
theorem ml_RX11_475 : jq_vl RX11 475 yX11_turnsAll cX11_turnsAll 2 (some .boolean) 1 := ⟨jq_in 2332 (by decide +kernel) rfl, yf_X11_turnsAll⟩
theorem yf_X11_daysBy : Cond.instanceMethod yX11_daysBy ∈ jq_T ∧ Cond.selects (yX11_daysBy).cls yX11_daysBy yX11_daysBy ∈ jq_T ∧ Cond.initialized (yX11_daysBy).cls ∈ jq_T ∧ Cond.code yX11_daysBy cX11_daysBy 2 (some .boolean) ∈ jq_T ∧ ((yX11_daysBy).cls ≠ "java/lang/invoke/MethodHandle" ∧ (yX11_daysBy).cls ≠ "java/lang/invoke/VarHandle" ∧ (parseMethodDescriptor (yX11_daysBy).desc).map (fun d => d.parameters.length) = some 1) := ⟨jq_in 2338 (by decide +kernel) rfl, jq_in 129 (by decide +kernel) rfl, jq_in 150 (by decide +kernel) rfl, jq_in 2339 (by decide +kernel) rfl, ⟨by decide, by decide, by decide +kernel⟩⟩
theorem ml_RX11_478 : jq_vl RX11 478 yX11_daysBy cX11_daysBy 2 (some .boolean) 1 := ⟨jq_in 2336 (by decide +kernel) rfl, yf_X11_daysBy⟩
theorem yf_X11_agreesBy : Cond.instanceMethod yX11_agreesBy ∈ jq_T ∧ Cond.selects (yX11_agreesBy).cls yX11_agreesBy yX11_agreesBy ∈ jq_T ∧ Cond.initialized (yX11_agreesBy).cls ∈ jq_T ∧ Cond.code yX11_agreesBy cX11_agreesBy 2 (some .boolean) ∈ jq_T ∧ ((yX11_agreesBy).cls ≠ "java/lang/invoke/MethodHandle" ∧ (yX11_agreesBy).cls ≠ "java/lang/invoke/VarHandle" ∧ (parseMethodDescriptor (yX11_agreesBy).desc).map (fun d => d.parameters.length) = some 1) := ⟨jq_in 2342 (by decide +kernel) rfl, jq_in 130 (by decide +kernel) rfl, jq_in 150 (by decide +kernel) rfl, jq_in 2343 (by decide +kernel) rfl, ⟨by decide, by decide, by decide +kernel⟩⟩
theorem ml_RX11_481 : jq_vl RX11 481 yX11_agreesBy cX11_agreesBy 2 (some .boolean) 1 := ⟨jq_in 2340 (by decide +kernel) rfl, yf_X11_agreesBy⟩
theorem yf_X11_withdrawsBy : Cond.instanceMethod yX11_withdrawsBy ∈ jq_T ∧ Cond.selects (yX11_withdrawsBy).cls yX11_withdrawsBy yX11_withdrawsBy ∈ jq_T ∧ Cond.initialized (yX11_withdrawsBy).cls ∈ jq_T ∧ Cond.code yX11_withdrawsBy cX11_withdrawsBy 2 (some .boolean) ∈ jq_T ∧ ((yX11_withdrawsBy).cls ≠ "java/lang/invoke/MethodHandle" ∧ (yX11_withdrawsBy).cls ≠ "java/lang/invoke/VarHandle" ∧ (parseMethodDescriptor (yX11_withdrawsBy).desc).map (fun d => d.parameters.length) = some 1) := ⟨jq_in 2346 (by decide +kernel) rfl, jq_in 131 (by decide +kernel) rfl, jq_in 150 (by decide +kernel) rfl, jq_in 2347 (by decide +kernel) rfl, ⟨by decide, by decide, by decide +kernel⟩⟩
theorem ml_RX11_484 : jq_vl RX11 484 yX11_withdrawsBy cX11_withdrawsBy 2 (some .boolean) 1 := ⟨jq_in 2344 (by decide +kernel) rfl, yf_X11_withdrawsBy⟩
theorem yf_X11_sitsAny : Cond.instanceMethod yX11_sitsAny ∈ jq_T ∧ Cond.selects (yX11_sitsAny).cls yX11_sitsAny yX11_sitsAny ∈ jq_T ∧ Cond.initialized (yX11_sitsAny).cls ∈ jq_T ∧ Cond.code yX11_sitsAny cX11_sitsAny 2 (some .boolean) ∈ jq_T ∧ ((yX11_sitsAny).cls ≠ "java/lang/invoke/MethodHandle" ∧ (yX11_sitsAny).cls ≠ "java/lang/invoke/VarHandle" ∧ (parseMethodDescriptor (yX11_sitsAny).desc).map (fun d => d.parameters.length) = some 0) := ⟨jq_in 2350 (by decide +kernel) rfl, jq_in 132 (by decide +kernel) rfl, jq_in 150 (by decide +kernel) rfl, jq_in 2351 (by decide +kernel) rfl, ⟨by decide, by decide, by decide +kernel⟩⟩
theorem ml_RX11_487 : jq_vl RX11 487 yX11_sitsAny cX11_sitsAny 2 (some .boolean) 0 := ⟨jq_in 2348 (by decide +kernel) rfl, yf_X11_sitsAny⟩
theorem fl_RX11_65 : jq_fl RX11 65 8 37 32 true := ⟨RX11, TX11, tyX11, cls_X11, by decide, jq_in 1594 (by decide +kernel) rfl, by decide⟩
theorem fl_RX11_490 : jq_fl RX11 490 8 37 31 false := ⟨RX11, TX11, tyX11, cls_X11, by decide, jq_in 1593 (by decide +kernel) rfl, by decide⟩
theorem yf_X11_does : Cond.instanceMethod yX11_does ∈ jq_T ∧ Cond.selects (yX11_does).cls yX11_does yX11_does ∈ jq_T ∧ Cond.initialized (yX11_does).cls ∈ jq_T ∧ Cond.code yX11_does cX11_does 3 (some .boolean) ∈ jq_T ∧ ((yX11_does).cls ≠ "java/lang/invoke/MethodHandle" ∧ (yX11_does).cls ≠ "java/lang/invoke/VarHandle" ∧ (parseMethodDescriptor (yX11_does).desc).map (fun d => d.parameters.length) = some 1) := ⟨jq_in 2326 (by decide +kernel) rfl, jq_in 126 (by decide +kernel) rfl, jq_in 150 (by decide +kernel) rfl, jq_in 2327 (by decide +kernel) rfl, ⟨by decide, by decide, by decide +kernel⟩⟩
theorem ml_RX11_493 : jq_vl RX11 493 yX11_does cX11_does 3 (some .boolean) 1 := ⟨jq_in 2324 (by decide +kernel) rfl, yf_X11_does⟩
theorem yf_X11_behindEnds : Cond.instanceMethod yX11_behindEnds ∈ jq_T ∧ Cond.selects (yX11_behindEnds).cls yX11_behindEnds yX11_behindEnds ∈ jq_T ∧ Cond.initialized (yX11_behindEnds).cls ∈ jq_T ∧ Cond.code yX11_behindEnds cX11_behindEnds 5 (some .int) ∈ jq_T ∧ ((yX11_behindEnds).cls ≠ "java/lang/invoke/MethodHandle" ∧ (yX11_behindEnds).cls ≠ "java/lang/invoke/VarHandle" ∧ (parseMethodDescriptor (yX11_behindEnds).desc).map (fun d => d.parameters.length) = some 1) := ⟨jq_in 2363 (by decide +kernel) rfl, jq_in 135 (by decide +kernel) rfl, jq_in 150 (by decide +kernel) rfl, jq_in 2364 (by decide +kernel) rfl, ⟨by decide, by decide, by decide +kernel⟩⟩
theorem ml_RX11_499 : jq_vl RX11 499 yX11_behindEnds cX11_behindEnds 5 (some .int) 1 := ⟨jq_in 2361 (by decide +kernel) rfl, yf_X11_behindEnds⟩
theorem yf_X11_holds : Cond.instanceMethod yX11_holds ∈ jq_T ∧ Cond.selects (yX11_holds).cls yX11_holds yX11_holds ∈ jq_T ∧ Cond.initialized (yX11_holds).cls ∈ jq_T ∧ Cond.code yX11_holds cX11_holds 4 (some .boolean) ∈ jq_T ∧ ((yX11_holds).cls ≠ "java/lang/invoke/MethodHandle" ∧ (yX11_holds).cls ≠ "java/lang/invoke/VarHandle" ∧ (parseMethodDescriptor (yX11_holds).desc).map (fun d => d.parameters.length) = some 1) := ⟨jq_in 2359 (by decide +kernel) rfl, jq_in 134 (by decide +kernel) rfl, jq_in 150 (by decide +kernel) rfl, jq_in 2360 (by decide +kernel) rfl, ⟨by decide, by decide, by decide +kernel⟩⟩
theorem ml_RX11_496 : jq_vl RX11 496 yX11_holds cX11_holds 4 (some .boolean) 1 := ⟨jq_in 2357 (by decide +kernel) rfl, yf_X11_holds⟩
theorem kc_RX11_502 : Cond.constantLong RX11 502 (Int64.ofInt (9999)) ∈ jq_T := jq_in 2319 (by decide +kernel) rfl
theorem yf_X11_lives : Cond.instanceMethod yX11_lives ∈ jq_T ∧ Cond.selects (yX11_lives).cls yX11_lives yX11_lives ∈ jq_T ∧ Cond.initialized (yX11_lives).cls ∈ jq_T ∧ Cond.code yX11_lives cX11_lives 4 none ∈ jq_T ∧ ((yX11_lives).cls ≠ "java/lang/invoke/MethodHandle" ∧ (yX11_lives).cls ≠ "java/lang/invoke/VarHandle" ∧ (parseMethodDescriptor (yX11_lives).desc).map (fun d => d.parameters.length) = some 1) := ⟨jq_in 2322 (by decide +kernel) rfl, jq_in 125 (by decide +kernel) rfl, jq_in 150 (by decide +kernel) rfl, jq_in 2323 (by decide +kernel) rfl, ⟨by decide, by decide, by decide +kernel⟩⟩
theorem ml_RX11_504 : jq_vl RX11 504 yX11_lives cX11_lives 4 none 1 := ⟨jq_in 2320 (by decide +kernel) rfl, yf_X11_lives⟩
theorem fl_RX11_71 : jq_fl RX11 71 8 37 34 true := ⟨RX11, TX11, tyX11, cls_X11, by decide, jq_in 1596 (by decide +kernel) rfl, by decide⟩
theorem fl_RX11_507 : jq_fl RX11 507 8 37 35 false := ⟨RX11, TX11, tyX11, cls_X11, by decide, jq_in 1597 (by decide +kernel) rfl, by decide⟩
theorem kc_RX11_511 : Cond.constantLong RX11 511 (Int64.ofInt (20)) ∈ jq_T := jq_in 2373 (by decide +kernel) rfl
theorem dX11_daysBy_0 : decode cX11_daysBy 0 = .ok (.aload_n 0, 1) := by decide +kernel
theorem dX11_daysBy_1 : decode cX11_daysBy 1 = .ok (.getfield 7, 3) := by decide +kernel
theorem dX11_daysBy_4 : decode cX11_daysBy 4 = .ok (.iconst 4, 1) := by decide +kernel
theorem dX11_daysBy_5 : decode cX11_daysBy 5 = .ok (.iaload, 1) := by decide +kernel
theorem dX11_daysBy_6 : decode cX11_daysBy 6 = .ok (.iload_n 1, 1) := by decide +kernel
theorem dX11_daysBy_7 : decode cX11_daysBy 7 = .ok (.iadd, 1) := by decide +kernel
theorem dX11_daysBy_8 : decode cX11_daysBy 8 = .ok (.sipush 9999, 3) := by decide +kernel
theorem dX11_daysBy_11 : decode cX11_daysBy 11 = .ok (.if_icmp .le 5, 3) := by decide +kernel
theorem dX11_daysBy_14 : decode cX11_daysBy 14 = .ok (.iconst 0, 1) := by decide +kernel
theorem dX11_daysBy_15 : decode cX11_daysBy 15 = .ok (.ireturn, 1) := by decide +kernel
theorem dX11_daysBy_16 : decode cX11_daysBy 16 = .ok (.aload_n 0, 1) := by decide +kernel
theorem dX11_daysBy_17 : decode cX11_daysBy 17 = .ok (.getfield 68, 3) := by decide +kernel
theorem dX11_daysBy_20 : decode cX11_daysBy 20 = .ok (.iconst 2, 1) := by decide +kernel
theorem dX11_daysBy_21 : decode cX11_daysBy 21 = .ok (.dup2, 1) := by decide +kernel
theorem dX11_daysBy_22 : decode cX11_daysBy 22 = .ok (.iaload, 1) := by decide +kernel
theorem dX11_daysBy_23 : decode cX11_daysBy 23 = .ok (.aload_n 0, 1) := by decide +kernel
theorem dX11_daysBy_24 : decode cX11_daysBy 24 = .ok (.iload_n 1, 1) := by decide +kernel
theorem dX11_daysBy_25 : decode cX11_daysBy 25 = .ok (.invokevirtual 356, 3) := by decide +kernel
theorem dX11_daysBy_28 : decode cX11_daysBy 28 = .ok (.iadd, 1) := by decide +kernel
theorem dX11_daysBy_29 : decode cX11_daysBy 29 = .ok (.iastore, 1) := by decide +kernel
theorem dX11_daysBy_30 : decode cX11_daysBy 30 = .ok (.aload_n 0, 1) := by decide +kernel
theorem dX11_daysBy_31 : decode cX11_daysBy 31 = .ok (.getfield 68, 3) := by decide +kernel
theorem dX11_daysBy_34 : decode cX11_daysBy 34 = .ok (.iconst 1, 1) := by decide +kernel
theorem dX11_daysBy_35 : decode cX11_daysBy 35 = .ok (.dup2, 1) := by decide +kernel
theorem dX11_daysBy_36 : decode cX11_daysBy 36 = .ok (.iaload, 1) := by decide +kernel
theorem dX11_daysBy_37 : decode cX11_daysBy 37 = .ok (.iload_n 1, 1) := by decide +kernel
theorem dX11_daysBy_38 : decode cX11_daysBy 38 = .ok (.iadd, 1) := by decide +kernel
theorem dX11_daysBy_39 : decode cX11_daysBy 39 = .ok (.iastore, 1) := by decide +kernel
theorem dX11_daysBy_40 : decode cX11_daysBy 40 = .ok (.iconst 1, 1) := by decide +kernel
theorem dX11_daysBy_41 : decode cX11_daysBy 41 = .ok (.ireturn, 1) := by decide +kernel
set_option maxHeartbeats 4000000 in
set_option maxRecDepth 100000 in
theorem ctX11_daysBy {p1 : Int} {σ : jq_M} {res : Int} {σ' : jq_M}  (h : X11_daysBy p1 σ = some (res, σ')) : jq_MC jq_zM yX11_daysBy cX11_daysBy 2 (some .boolean) 7 169 [jR 0, jI p1] σ (some (jI res)) σ' := by
  refine jq_met (own := RX11) (L0 := [(0, jR 0), (1, jI p1)]) (by decide) rfl rfl rfl ?_
  intro X Γ hnl hlY hRT
  refine jq_use2 (P := fun r => jq_RT jq_zM X (some .boolean) (some (jI r.1)) r.2) ?_ h hRT
  intro K0 hK0
  unfold X11_daysBy
  refine jq_aload_n Γ dX11_daysBy_0 rfl 0 rfl (jq_at_0 at_M_0) ?_
  refine jq_getR (v := 1) Γ hlY at_M_0 fl_RX11_7 rfl rfl ly_X11_at dX11_daysBy_1 ?_
  refine jq_iconst Γ dX11_daysBy_4 rfl ?_
  refine jq_iald Γ at_M_1 rfl dX11_daysBy_5 (fun v1 => ?_)
  refine jq_iload_n Γ dX11_daysBy_6 rfl 1 rfl ?_
  refine jq_iadd Γ dX11_daysBy_7 ?_
  refine jq_sipush Γ dX11_daysBy_8 rfl ?_
  refine jq_icmp_le (tgt := 16) Γ dX11_daysBy_11 rfl ?_ ?_
  · refine jq_aload_n Γ dX11_daysBy_16 rfl 0 rfl (jq_at_0 at_M_0) ?_
    refine jq_getR (v := 16) Γ hlY at_M_0 fl_RX11_68 rfl rfl ly_X11_ran dX11_daysBy_17 ?_
    refine jq_iconst Γ dX11_daysBy_20 rfl ?_
    refine jq_dup2 Γ dX11_daysBy_21 rfl rfl ?_
    refine jq_iald Γ at_M_16 rfl dX11_daysBy_22 (fun v2 => ?_)
    refine jq_aload_n Γ dX11_daysBy_23 rfl 0 rfl (jq_at_0 at_M_0) ?_
    refine jq_iload_n Γ dX11_daysBy_24 rfl 1 rfl ?_
    refine jq_cwI (jq_virt (avs := [jI p1]) (st := [jI v2, jI 2, jR 16]) Γ hlY rfl ml_RX11_356 rfl at_M_0 rfl rfl rfl rfl rfl dX11_daysBy_25) (fun r σ' h => ctX11_daysGo h) (fun v3 s4 => ?_)
    refine jq_iadd Γ dX11_daysBy_28 ?_
    refine jq_iast Γ at_M_16 rfl dX11_daysBy_29 (fun s5 => ?_)
    refine jq_aload_n Γ dX11_daysBy_30 rfl 0 rfl (jq_at_0 at_M_0) ?_
    refine jq_getR (v := 16) Γ hlY at_M_0 fl_RX11_68 rfl rfl ly_X11_ran dX11_daysBy_31 ?_
    refine jq_iconst Γ dX11_daysBy_34 rfl ?_
    refine jq_dup2 Γ dX11_daysBy_35 rfl rfl ?_
    refine jq_iald Γ at_M_16 rfl dX11_daysBy_36 (fun v6 => ?_)
    refine jq_iload_n Γ dX11_daysBy_37 rfl 1 rfl ?_
    refine jq_iadd Γ dX11_daysBy_38 ?_
    refine jq_iast Γ at_M_16 rfl dX11_daysBy_39 (fun s7 => ?_)
    refine jq_iconst Γ dX11_daysBy_40 rfl ?_
    exact jq_zreturn Γ (Or.inr rfl) dX11_daysBy_41 (hK0 _)
  · refine jq_iconst Γ dX11_daysBy_14 rfl ?_
    exact jq_zreturn Γ (Or.inl rfl) dX11_daysBy_15 (hK0 _)


theorem dX11_agreesBy_0 : decode cX11_agreesBy 0 = .ok (.aload_n 0, 1) := by decide +kernel
theorem dX11_agreesBy_1 : decode cX11_agreesBy 1 = .ok (.iload_n 1, 1) := by decide +kernel
theorem dX11_agreesBy_2 : decode cX11_agreesBy 2 = .ok (.invokevirtual 359, 3) := by decide +kernel
theorem dX11_agreesBy_5 : decode cX11_agreesBy 5 = .ok (.ifCond .ne 5, 3) := by decide +kernel
theorem dX11_agreesBy_8 : decode cX11_agreesBy 8 = .ok (.iconst 0, 1) := by decide +kernel
theorem dX11_agreesBy_9 : decode cX11_agreesBy 9 = .ok (.ireturn, 1) := by decide +kernel
theorem dX11_agreesBy_10 : decode cX11_agreesBy 10 = .ok (.aload_n 0, 1) := by decide +kernel
theorem dX11_agreesBy_11 : decode cX11_agreesBy 11 = .ok (.getfield 68, 3) := by decide +kernel
theorem dX11_agreesBy_14 : decode cX11_agreesBy 14 = .ok (.iconst 2, 1) := by decide +kernel
theorem dX11_agreesBy_15 : decode cX11_agreesBy 15 = .ok (.dup2, 1) := by decide +kernel
theorem dX11_agreesBy_16 : decode cX11_agreesBy 16 = .ok (.iaload, 1) := by decide +kernel
theorem dX11_agreesBy_17 : decode cX11_agreesBy 17 = .ok (.iconst 1, 1) := by decide +kernel
theorem dX11_agreesBy_18 : decode cX11_agreesBy 18 = .ok (.iadd, 1) := by decide +kernel
theorem dX11_agreesBy_19 : decode cX11_agreesBy 19 = .ok (.iastore, 1) := by decide +kernel
theorem dX11_agreesBy_20 : decode cX11_agreesBy 20 = .ok (.iconst 1, 1) := by decide +kernel
theorem dX11_agreesBy_21 : decode cX11_agreesBy 21 = .ok (.ireturn, 1) := by decide +kernel
set_option maxHeartbeats 4000000 in
set_option maxRecDepth 100000 in
theorem ctX11_agreesBy {p1 : Int} {σ : jq_M} {res : Int} {σ' : jq_M}  (h : X11_agreesBy p1 σ = some (res, σ')) : jq_MC jq_zM yX11_agreesBy cX11_agreesBy 2 (some .boolean) 6 145 [jR 0, jI p1] σ (some (jI res)) σ' := by
  refine jq_met (own := RX11) (L0 := [(0, jR 0), (1, jI p1)]) (by decide) rfl rfl rfl ?_
  intro X Γ hnl hlY hRT
  refine jq_use2 (P := fun r => jq_RT jq_zM X (some .boolean) (some (jI r.1)) r.2) ?_ h hRT
  intro K0 hK0
  unfold X11_agreesBy
  refine jq_aload_n Γ dX11_agreesBy_0 rfl 0 rfl (jq_at_0 at_M_0) ?_
  refine jq_iload_n Γ dX11_agreesBy_1 rfl 1 rfl ?_
  refine jq_cwZ (jq_virt (avs := [jI p1]) (st := []) Γ hlY rfl ml_RX11_359 rfl at_M_0 rfl rfl rfl rfl rfl dX11_agreesBy_2) rfl (fun r σ' h => ctX11_agrees h) (fun v1 s2 hz3 => ?_)
  refine jq_if_ne (tgt := 10) Γ dX11_agreesBy_5 rfl ?_ ?_
  · refine jq_aload_n Γ dX11_agreesBy_10 rfl 0 rfl (jq_at_0 at_M_0) ?_
    refine jq_getR (v := 16) Γ hlY at_M_0 fl_RX11_68 rfl rfl ly_X11_ran dX11_agreesBy_11 ?_
    refine jq_iconst Γ dX11_agreesBy_14 rfl ?_
    refine jq_dup2 Γ dX11_agreesBy_15 rfl rfl ?_
    refine jq_iald Γ at_M_16 rfl dX11_agreesBy_16 (fun v4 => ?_)
    refine jq_iconst Γ dX11_agreesBy_17 rfl ?_
    refine jq_iadd Γ dX11_agreesBy_18 ?_
    refine jq_iast Γ at_M_16 rfl dX11_agreesBy_19 (fun s5 => ?_)
    refine jq_iconst Γ dX11_agreesBy_20 rfl ?_
    exact jq_zreturn Γ (Or.inr rfl) dX11_agreesBy_21 (hK0 _)
  · refine jq_iconst Γ dX11_agreesBy_8 rfl ?_
    exact jq_zreturn Γ (Or.inl rfl) dX11_agreesBy_9 (hK0 _)


theorem dX11_withdrawsBy_0 : decode cX11_withdrawsBy 0 = .ok (.aload_n 0, 1) := by decide +kernel
theorem dX11_withdrawsBy_1 : decode cX11_withdrawsBy 1 = .ok (.iload_n 1, 1) := by decide +kernel
theorem dX11_withdrawsBy_2 : decode cX11_withdrawsBy 2 = .ok (.invokevirtual 293, 3) := by decide +kernel
theorem dX11_withdrawsBy_5 : decode cX11_withdrawsBy 5 = .ok (.ifCond .ne 5, 3) := by decide +kernel
theorem dX11_withdrawsBy_8 : decode cX11_withdrawsBy 8 = .ok (.iconst 0, 1) := by decide +kernel
theorem dX11_withdrawsBy_9 : decode cX11_withdrawsBy 9 = .ok (.ireturn, 1) := by decide +kernel
theorem dX11_withdrawsBy_10 : decode cX11_withdrawsBy 10 = .ok (.aload_n 0, 1) := by decide +kernel
theorem dX11_withdrawsBy_11 : decode cX11_withdrawsBy 11 = .ok (.getfield 68, 3) := by decide +kernel
theorem dX11_withdrawsBy_14 : decode cX11_withdrawsBy 14 = .ok (.iconst 3, 1) := by decide +kernel
theorem dX11_withdrawsBy_15 : decode cX11_withdrawsBy 15 = .ok (.dup2, 1) := by decide +kernel
theorem dX11_withdrawsBy_16 : decode cX11_withdrawsBy 16 = .ok (.iaload, 1) := by decide +kernel
theorem dX11_withdrawsBy_17 : decode cX11_withdrawsBy 17 = .ok (.aload_n 0, 1) := by decide +kernel
theorem dX11_withdrawsBy_18 : decode cX11_withdrawsBy 18 = .ok (.iload_n 1, 1) := by decide +kernel
theorem dX11_withdrawsBy_19 : decode cX11_withdrawsBy 19 = .ok (.invokevirtual 365, 3) := by decide +kernel
theorem dX11_withdrawsBy_22 : decode cX11_withdrawsBy 22 = .ok (.iadd, 1) := by decide +kernel
theorem dX11_withdrawsBy_23 : decode cX11_withdrawsBy 23 = .ok (.iastore, 1) := by decide +kernel
theorem dX11_withdrawsBy_24 : decode cX11_withdrawsBy 24 = .ok (.iconst 1, 1) := by decide +kernel
theorem dX11_withdrawsBy_25 : decode cX11_withdrawsBy 25 = .ok (.ireturn, 1) := by decide +kernel
set_option maxHeartbeats 4000000 in
set_option maxRecDepth 100000 in
theorem ctX11_withdrawsBy {p1 : Int} {σ : jq_M} {res : Int} {σ' : jq_M}  (h : X11_withdrawsBy p1 σ = some (res, σ')) : jq_MC jq_zM yX11_withdrawsBy cX11_withdrawsBy 2 (some .boolean) 5 126 [jR 0, jI p1] σ (some (jI res)) σ' := by
  refine jq_met (own := RX11) (L0 := [(0, jR 0), (1, jI p1)]) (by decide) rfl rfl rfl ?_
  intro X Γ hnl hlY hRT
  refine jq_use2 (P := fun r => jq_RT jq_zM X (some .boolean) (some (jI r.1)) r.2) ?_ h hRT
  intro K0 hK0
  unfold X11_withdrawsBy
  refine jq_aload_n Γ dX11_withdrawsBy_0 rfl 0 rfl (jq_at_0 at_M_0) ?_
  refine jq_iload_n Γ dX11_withdrawsBy_1 rfl 1 rfl ?_
  refine jq_cpZ (jq_virt (avs := [jI p1]) (st := []) Γ hlY rfl ml_RX11_293 rfl at_M_0 rfl rfl rfl rfl rfl dX11_withdrawsBy_2) rfl (fun r h => ctX11_isAgreed h) (fun v1 hz2 => ?_)
  refine jq_if_ne (tgt := 10) Γ dX11_withdrawsBy_5 rfl ?_ ?_
  · refine jq_aload_n Γ dX11_withdrawsBy_10 rfl 0 rfl (jq_at_0 at_M_0) ?_
    refine jq_getR (v := 16) Γ hlY at_M_0 fl_RX11_68 rfl rfl ly_X11_ran dX11_withdrawsBy_11 ?_
    refine jq_iconst Γ dX11_withdrawsBy_14 rfl ?_
    refine jq_dup2 Γ dX11_withdrawsBy_15 rfl rfl ?_
    refine jq_iald Γ at_M_16 rfl dX11_withdrawsBy_16 (fun v3 => ?_)
    refine jq_aload_n Γ dX11_withdrawsBy_17 rfl 0 rfl (jq_at_0 at_M_0) ?_
    refine jq_iload_n Γ dX11_withdrawsBy_18 rfl 1 rfl ?_
    refine jq_cwI (jq_virt (avs := [jI p1]) (st := [jI v3, jI 3, jR 16]) Γ hlY rfl ml_RX11_365 rfl at_M_0 rfl rfl rfl rfl rfl dX11_withdrawsBy_19) (fun r σ' h => ctX11_fallsNow h) (fun v4 s5 => ?_)
    refine jq_iadd Γ dX11_withdrawsBy_22 ?_
    refine jq_iast Γ at_M_16 rfl dX11_withdrawsBy_23 (fun s6 => ?_)
    refine jq_iconst Γ dX11_withdrawsBy_24 rfl ?_
    exact jq_zreturn Γ (Or.inr rfl) dX11_withdrawsBy_25 (hK0 _)
  · refine jq_iconst Γ dX11_withdrawsBy_8 rfl ?_
    exact jq_zreturn Γ (Or.inl rfl) dX11_withdrawsBy_9 (hK0 _)


theorem dX11_sitsAny_0 : decode cX11_sitsAny 0 = .ok (.aload_n 0, 1) := by decide +kernel
theorem dX11_sitsAny_1 : decode cX11_sitsAny 1 = .ok (.getfield 7, 3) := by decide +kernel
theorem dX11_sitsAny_4 : decode cX11_sitsAny 4 = .ok (.iconst 1, 1) := by decide +kernel
theorem dX11_sitsAny_5 : decode cX11_sitsAny 5 = .ok (.iaload, 1) := by decide +kernel
theorem dX11_sitsAny_6 : decode cX11_sitsAny 6 = .ok (.ifCond .ne 5, 3) := by decide +kernel
theorem dX11_sitsAny_9 : decode cX11_sitsAny 9 = .ok (.iconst 0, 1) := by decide +kernel
theorem dX11_sitsAny_10 : decode cX11_sitsAny 10 = .ok (.ireturn, 1) := by decide +kernel
theorem dX11_sitsAny_11 : decode cX11_sitsAny 11 = .ok (.aload_n 0, 1) := by decide +kernel
theorem dX11_sitsAny_12 : decode cX11_sitsAny 12 = .ok (.aload_n 0, 1) := by decide +kernel
theorem dX11_sitsAny_13 : decode cX11_sitsAny 13 = .ok (.getfield 7, 3) := by decide +kernel
theorem dX11_sitsAny_16 : decode cX11_sitsAny 16 = .ok (.iconst 1, 1) := by decide +kernel
theorem dX11_sitsAny_17 : decode cX11_sitsAny 17 = .ok (.iaload, 1) := by decide +kernel
theorem dX11_sitsAny_18 : decode cX11_sitsAny 18 = .ok (.invokevirtual 469, 3) := by decide +kernel
theorem dX11_sitsAny_21 : decode cX11_sitsAny 21 = .ok (.istore_n 1, 1) := by decide +kernel
theorem dX11_sitsAny_22 : decode cX11_sitsAny 22 = .ok (.aload_n 0, 1) := by decide +kernel
theorem dX11_sitsAny_23 : decode cX11_sitsAny 23 = .ok (.iload_n 1, 1) := by decide +kernel
theorem dX11_sitsAny_24 : decode cX11_sitsAny 24 = .ok (.aload_n 0, 1) := by decide +kernel
theorem dX11_sitsAny_25 : decode cX11_sitsAny 25 = .ok (.aload_n 0, 1) := by decide +kernel
theorem dX11_sitsAny_26 : decode cX11_sitsAny 26 = .ok (.getfield 7, 3) := by decide +kernel
theorem dX11_sitsAny_29 : decode cX11_sitsAny 29 = .ok (.iconst 0, 1) := by decide +kernel
theorem dX11_sitsAny_30 : decode cX11_sitsAny 30 = .ok (.iaload, 1) := by decide +kernel
theorem dX11_sitsAny_31 : decode cX11_sitsAny 31 = .ok (.invokevirtual 469, 3) := by decide +kernel
theorem dX11_sitsAny_34 : decode cX11_sitsAny 34 = .ok (.invokevirtual 335, 3) := by decide +kernel
theorem dX11_sitsAny_37 : decode cX11_sitsAny 37 = .ok (.ireturn, 1) := by decide +kernel
set_option maxHeartbeats 4000000 in
set_option maxRecDepth 100000 in
theorem ctX11_sitsAny  {σ : jq_M} {res : Int} {σ' : jq_M}  (h : X11_sitsAny σ = some (res, σ')) : jq_MC jq_zM yX11_sitsAny cX11_sitsAny 2 (some .boolean) 5 126 [jR 0] σ (some (jI res)) σ' := by
  refine jq_met (own := RX11) (L0 := [(0, jR 0)]) (by decide) rfl rfl rfl ?_
  intro X Γ hnl hlY hRT
  refine jq_use2 (P := fun r => jq_RT jq_zM X (some .boolean) (some (jI r.1)) r.2) ?_ h hRT
  intro K0 hK0
  unfold X11_sitsAny
  refine jq_aload_n Γ dX11_sitsAny_0 rfl 0 rfl (jq_at_0 at_M_0) ?_
  refine jq_getR (v := 1) Γ hlY at_M_0 fl_RX11_7 rfl rfl ly_X11_at dX11_sitsAny_1 ?_
  refine jq_iconst Γ dX11_sitsAny_4 rfl ?_
  refine jq_iald Γ at_M_1 rfl dX11_sitsAny_5 (fun v1 => ?_)
  refine jq_if_ne (tgt := 11) Γ dX11_sitsAny_6 rfl ?_ ?_
  · refine jq_aload_n Γ dX11_sitsAny_11 rfl 0 rfl (jq_at_0 at_M_0) ?_
    refine jq_aload_n Γ dX11_sitsAny_12 rfl 0 rfl (jq_at_0 at_M_0) ?_
    refine jq_getR (v := 1) Γ hlY at_M_0 fl_RX11_7 rfl rfl ly_X11_at dX11_sitsAny_13 ?_
    refine jq_iconst Γ dX11_sitsAny_16 rfl ?_
    refine jq_iald Γ at_M_1 rfl dX11_sitsAny_17 (fun v2 => ?_)
    refine jq_cwI (jq_virt (avs := [jI v2]) (st := []) Γ hlY rfl ml_RX11_469 rfl at_M_0 rfl rfl rfl rfl rfl dX11_sitsAny_18) (fun r σ' h => ctX11_draw h) (fun v3 s4 => ?_)
    refine jq_istore_n (L' := [(1, jI v3), (0, jR 0)]) Γ dX11_sitsAny_21 rfl hnl rfl rfl ?_
    refine jq_aload_n Γ dX11_sitsAny_22 rfl 1 rfl (jq_at_0 at_M_0) ?_
    refine jq_iload_n Γ dX11_sitsAny_23 rfl 0 rfl ?_
    refine jq_aload_n Γ dX11_sitsAny_24 rfl 1 rfl (jq_at_0 at_M_0) ?_
    refine jq_aload_n Γ dX11_sitsAny_25 rfl 1 rfl (jq_at_0 at_M_0) ?_
    refine jq_getR (v := 1) Γ hlY at_M_0 fl_RX11_7 rfl rfl ly_X11_at dX11_sitsAny_26 ?_
    refine jq_iconst Γ dX11_sitsAny_29 rfl ?_
    refine jq_iald Γ at_M_1 rfl dX11_sitsAny_30 (fun v5 => ?_)
    refine jq_cwI (jq_virt (avs := [jI v5]) (st := [jI v3, jR 0]) Γ hlY rfl ml_RX11_469 rfl at_M_0 rfl rfl rfl rfl rfl dX11_sitsAny_31) (fun r σ' h => ctX11_draw h) (fun v6 s7 => ?_)
    refine jq_cwZ (jq_virt (avs := [jI v3, jI v6]) (st := []) Γ hlY rfl ml_RX11_335 rfl at_M_0 rfl rfl rfl rfl rfl dX11_sitsAny_34) rfl (fun r σ' h => ctX11_sits h) (fun v8 s9 hz10 => ?_)
    exact jq_zreturn Γ (hz10) dX11_sitsAny_37 (hK0 _)
  · refine jq_iconst Γ dX11_sitsAny_9 rfl ?_
    exact jq_zreturn Γ (Or.inl rfl) dX11_sitsAny_10 (hK0 _)


theorem dX11_does_0 : decode cX11_does 0 = .ok (.aload_n 0, 1) := by decide +kernel
theorem dX11_does_1 : decode cX11_does 1 = .ok (.getfield 7, 3) := by decide +kernel
theorem dX11_does_4 : decode cX11_does 4 = .ok (.iload_n 1, 1) := by decide +kernel
theorem dX11_does_5 : decode cX11_does 5 = .ok (.iconst 1, 1) := by decide +kernel
theorem dX11_does_6 : decode cX11_does 6 = .ok (.iadd, 1) := by decide +kernel
theorem dX11_does_7 : decode cX11_does 7 = .ok (.iaload, 1) := by decide +kernel
theorem dX11_does_8 : decode cX11_does 8 = .ok (.istore_n 2, 1) := by decide +kernel
theorem dX11_does_9 : decode cX11_does 9 = .ok (.aload_n 0, 1) := by decide +kernel
theorem dX11_does_10 : decode cX11_does 10 = .ok (.getfield 7, 3) := by decide +kernel
theorem dX11_does_13 : decode cX11_does 13 = .ok (.iload_n 1, 1) := by decide +kernel
theorem dX11_does_14 : decode cX11_does 14 = .ok (.iaload, 1) := by decide +kernel
theorem dX11_does_15 : decode cX11_does 15 = .ok (.tableswitch 108 13 20 #[45, 59, 65, 79, 85, 91, 97, 103], 45) := by decide +kernel
theorem dX11_does_60 : decode cX11_does 60 = .ok (.aload_n 0, 1) := by decide +kernel
theorem dX11_does_61 : decode cX11_does 61 = .ok (.iload_n 2, 1) := by decide +kernel
theorem dX11_does_62 : decode cX11_does 62 = .ok (.aload_n 0, 1) := by decide +kernel
theorem dX11_does_63 : decode cX11_does 63 = .ok (.getfield 7, 3) := by decide +kernel
theorem dX11_does_66 : decode cX11_does 66 = .ok (.iload_n 1, 1) := by decide +kernel
theorem dX11_does_67 : decode cX11_does 67 = .ok (.iconst 2, 1) := by decide +kernel
theorem dX11_does_68 : decode cX11_does 68 = .ok (.iadd, 1) := by decide +kernel
theorem dX11_does_69 : decode cX11_does 69 = .ok (.iaload, 1) := by decide +kernel
theorem dX11_does_70 : decode cX11_does 70 = .ok (.invokevirtual 335, 3) := by decide +kernel
theorem dX11_does_73 : decode cX11_does 73 = .ok (.ireturn, 1) := by decide +kernel
theorem dX11_does_74 : decode cX11_does 74 = .ok (.aload_n 0, 1) := by decide +kernel
theorem dX11_does_75 : decode cX11_does 75 = .ok (.iload_n 2, 1) := by decide +kernel
theorem dX11_does_76 : decode cX11_does 76 = .ok (.invokevirtual 472, 3) := by decide +kernel
theorem dX11_does_79 : decode cX11_does 79 = .ok (.ireturn, 1) := by decide +kernel
theorem dX11_does_80 : decode cX11_does 80 = .ok (.aload_n 0, 1) := by decide +kernel
theorem dX11_does_81 : decode cX11_does 81 = .ok (.iload_n 2, 1) := by decide +kernel
theorem dX11_does_82 : decode cX11_does 82 = .ok (.aload_n 0, 1) := by decide +kernel
theorem dX11_does_83 : decode cX11_does 83 = .ok (.getfield 7, 3) := by decide +kernel
theorem dX11_does_86 : decode cX11_does 86 = .ok (.iload_n 1, 1) := by decide +kernel
theorem dX11_does_87 : decode cX11_does 87 = .ok (.iconst 2, 1) := by decide +kernel
theorem dX11_does_88 : decode cX11_does 88 = .ok (.iadd, 1) := by decide +kernel
theorem dX11_does_89 : decode cX11_does 89 = .ok (.iaload, 1) := by decide +kernel
theorem dX11_does_90 : decode cX11_does 90 = .ok (.invokevirtual 338, 3) := by decide +kernel
theorem dX11_does_93 : decode cX11_does 93 = .ok (.ireturn, 1) := by decide +kernel
theorem dX11_does_94 : decode cX11_does 94 = .ok (.aload_n 0, 1) := by decide +kernel
theorem dX11_does_95 : decode cX11_does 95 = .ok (.iload_n 2, 1) := by decide +kernel
theorem dX11_does_96 : decode cX11_does 96 = .ok (.invokevirtual 475, 3) := by decide +kernel
theorem dX11_does_99 : decode cX11_does 99 = .ok (.ireturn, 1) := by decide +kernel
theorem dX11_does_100 : decode cX11_does 100 = .ok (.aload_n 0, 1) := by decide +kernel
theorem dX11_does_101 : decode cX11_does 101 = .ok (.iload_n 2, 1) := by decide +kernel
theorem dX11_does_102 : decode cX11_does 102 = .ok (.invokevirtual 478, 3) := by decide +kernel
theorem dX11_does_105 : decode cX11_does 105 = .ok (.ireturn, 1) := by decide +kernel
theorem dX11_does_106 : decode cX11_does 106 = .ok (.aload_n 0, 1) := by decide +kernel
theorem dX11_does_107 : decode cX11_does 107 = .ok (.iload_n 2, 1) := by decide +kernel
theorem dX11_does_108 : decode cX11_does 108 = .ok (.invokevirtual 481, 3) := by decide +kernel
theorem dX11_does_111 : decode cX11_does 111 = .ok (.ireturn, 1) := by decide +kernel
theorem dX11_does_112 : decode cX11_does 112 = .ok (.aload_n 0, 1) := by decide +kernel
theorem dX11_does_113 : decode cX11_does 113 = .ok (.iload_n 2, 1) := by decide +kernel
theorem dX11_does_114 : decode cX11_does 114 = .ok (.invokevirtual 484, 3) := by decide +kernel
theorem dX11_does_117 : decode cX11_does 117 = .ok (.ireturn, 1) := by decide +kernel
theorem dX11_does_118 : decode cX11_does 118 = .ok (.aload_n 0, 1) := by decide +kernel
theorem dX11_does_119 : decode cX11_does 119 = .ok (.invokevirtual 487, 3) := by decide +kernel
theorem dX11_does_122 : decode cX11_does 122 = .ok (.ireturn, 1) := by decide +kernel
theorem dX11_does_123 : decode cX11_does 123 = .ok (.iconst 1, 1) := by decide +kernel
theorem dX11_does_124 : decode cX11_does 124 = .ok (.ireturn, 1) := by decide +kernel
set_option maxHeartbeats 4000000 in
set_option maxRecDepth 100000 in
theorem ctX11_does {p1 : Int} {σ : jq_M} {res : Int} {σ' : jq_M}  (h : X11_does p1 σ = some (res, σ')) : jq_MC jq_zM yX11_does cX11_does 3 (some .boolean) 8 190 [jR 0, jI p1] σ (some (jI res)) σ' := by
  refine jq_met (own := RX11) (L0 := [(0, jR 0), (1, jI p1)]) (by decide) rfl rfl rfl ?_
  intro X Γ hnl hlY hRT
  refine jq_use2 (P := fun r => jq_RT jq_zM X (some .boolean) (some (jI r.1)) r.2) ?_ h hRT
  intro K0 hK0
  unfold X11_does
  refine jq_aload_n Γ dX11_does_0 rfl 0 rfl (jq_at_0 at_M_0) ?_
  refine jq_getR (v := 1) Γ hlY at_M_0 fl_RX11_7 rfl rfl ly_X11_at dX11_does_1 ?_
  refine jq_iload_n Γ dX11_does_4 rfl 1 rfl ?_
  refine jq_iconst Γ dX11_does_5 rfl ?_
  refine jq_iadd Γ dX11_does_6 ?_
  refine jq_iald Γ at_M_1 rfl dX11_does_7 (fun v1 => ?_)
  refine jq_istore_n (L' := [(2, jI v1), (0, jR 0), (1, jI p1)]) Γ dX11_does_8 rfl hnl rfl rfl ?_
  refine jq_aload_n Γ dX11_does_9 rfl 1 rfl (jq_at_0 at_M_0) ?_
  refine jq_getR (v := 1) Γ hlY at_M_0 fl_RX11_7 rfl rfl ly_X11_at dX11_does_10 ?_
  refine jq_iload_n Γ dX11_does_13 rfl 2 rfl ?_
  refine jq_iald Γ at_M_1 rfl dX11_does_14 (fun v2 => ?_)
  refine jq_split (fun hc3 => ?_) (fun hn13_15 => ?_)
  · refine jq_tabIn (tgt := 60) Γ dX11_does_15 hc3 rfl rfl rfl ?_
    refine jq_aload_n Γ dX11_does_60 rfl 1 rfl (jq_at_0 at_M_0) ?_
    refine jq_iload_n Γ dX11_does_61 rfl 0 rfl ?_
    refine jq_aload_n Γ dX11_does_62 rfl 1 rfl (jq_at_0 at_M_0) ?_
    refine jq_getR (v := 1) Γ hlY at_M_0 fl_RX11_7 rfl rfl ly_X11_at dX11_does_63 ?_
    refine jq_iload_n Γ dX11_does_66 rfl 2 rfl ?_
    refine jq_iconst Γ dX11_does_67 rfl ?_
    refine jq_iadd Γ dX11_does_68 ?_
    refine jq_iald Γ at_M_1 rfl dX11_does_69 (fun v4 => ?_)
    refine jq_cwZ (jq_virt (avs := [jI v1, jI v4]) (st := []) Γ hlY rfl ml_RX11_335 rfl at_M_0 rfl rfl rfl rfl rfl dX11_does_70) rfl (fun r σ' h => ctX11_sits h) (fun v5 s6 hz7 => ?_)
    exact jq_zreturn Γ (hz7) dX11_does_73 (hK0 _)
  · refine jq_split (fun hc8 => ?_) (fun hn14_15 => ?_)
    · refine jq_tabIn (tgt := 74) Γ dX11_does_15 hc8 rfl rfl rfl ?_
      refine jq_aload_n Γ dX11_does_74 rfl 1 rfl (jq_at_0 at_M_0) ?_
      refine jq_iload_n Γ dX11_does_75 rfl 0 rfl ?_
      refine jq_cwZ (jq_virt (avs := [jI v1]) (st := []) Γ hlY rfl ml_RX11_472 rfl at_M_0 rfl rfl rfl rfl rfl dX11_does_76) rfl (fun r σ' h => ctX11_risesBy h) (fun v9 s10 hz11 => ?_)
      exact jq_zreturn Γ (hz11) dX11_does_79 (hK0 _)
    · refine jq_split (fun hc12 => ?_) (fun hn15_15 => ?_)
      · refine jq_tabIn (tgt := 80) Γ dX11_does_15 hc12 rfl rfl rfl ?_
        refine jq_aload_n Γ dX11_does_80 rfl 1 rfl (jq_at_0 at_M_0) ?_
        refine jq_iload_n Γ dX11_does_81 rfl 0 rfl ?_
        refine jq_aload_n Γ dX11_does_82 rfl 1 rfl (jq_at_0 at_M_0) ?_
        refine jq_getR (v := 1) Γ hlY at_M_0 fl_RX11_7 rfl rfl ly_X11_at dX11_does_83 ?_
        refine jq_iload_n Γ dX11_does_86 rfl 2 rfl ?_
        refine jq_iconst Γ dX11_does_87 rfl ?_
        refine jq_iadd Γ dX11_does_88 ?_
        refine jq_iald Γ at_M_1 rfl dX11_does_89 (fun v13 => ?_)
        refine jq_cwZ (jq_virt (avs := [jI v1, jI v13]) (st := []) Γ hlY rfl ml_RX11_338 rfl at_M_0 rfl rfl rfl rfl rfl dX11_does_90) rfl (fun r σ' h => ctX11_swaps h) (fun v14 s15 hz16 => ?_)
        exact jq_zreturn Γ (hz16) dX11_does_93 (hK0 _)
      · refine jq_split (fun hc17 => ?_) (fun hn16_15 => ?_)
        · refine jq_tabIn (tgt := 94) Γ dX11_does_15 hc17 rfl rfl rfl ?_
          refine jq_aload_n Γ dX11_does_94 rfl 1 rfl (jq_at_0 at_M_0) ?_
          refine jq_iload_n Γ dX11_does_95 rfl 0 rfl ?_
          refine jq_cwZ (jq_virt (avs := [jI v1]) (st := []) Γ hlY rfl ml_RX11_475 rfl at_M_0 rfl rfl rfl rfl rfl dX11_does_96) rfl (fun r σ' h => ctX11_turnsAll h) (fun v18 s19 hz20 => ?_)
          exact jq_zreturn Γ (hz20) dX11_does_99 (hK0 _)
        · refine jq_split (fun hc21 => ?_) (fun hn17_15 => ?_)
          · refine jq_tabIn (tgt := 100) Γ dX11_does_15 hc21 rfl rfl rfl ?_
            refine jq_aload_n Γ dX11_does_100 rfl 1 rfl (jq_at_0 at_M_0) ?_
            refine jq_iload_n Γ dX11_does_101 rfl 0 rfl ?_
            refine jq_cwZ (jq_virt (avs := [jI v1]) (st := []) Γ hlY rfl ml_RX11_478 rfl at_M_0 rfl rfl rfl rfl rfl dX11_does_102) rfl (fun r σ' h => ctX11_daysBy h) (fun v22 s23 hz24 => ?_)
            exact jq_zreturn Γ (hz24) dX11_does_105 (hK0 _)
          · refine jq_split (fun hc25 => ?_) (fun hn18_15 => ?_)
            · refine jq_tabIn (tgt := 106) Γ dX11_does_15 hc25 rfl rfl rfl ?_
              refine jq_aload_n Γ dX11_does_106 rfl 1 rfl (jq_at_0 at_M_0) ?_
              refine jq_iload_n Γ dX11_does_107 rfl 0 rfl ?_
              refine jq_cwZ (jq_virt (avs := [jI v1]) (st := []) Γ hlY rfl ml_RX11_481 rfl at_M_0 rfl rfl rfl rfl rfl dX11_does_108) rfl (fun r σ' h => ctX11_agreesBy h) (fun v26 s27 hz28 => ?_)
              exact jq_zreturn Γ (hz28) dX11_does_111 (hK0 _)
            · refine jq_split (fun hc29 => ?_) (fun hn19_15 => ?_)
              · refine jq_tabIn (tgt := 112) Γ dX11_does_15 hc29 rfl rfl rfl ?_
                refine jq_aload_n Γ dX11_does_112 rfl 1 rfl (jq_at_0 at_M_0) ?_
                refine jq_iload_n Γ dX11_does_113 rfl 0 rfl ?_
                refine jq_cwZ (jq_virt (avs := [jI v1]) (st := []) Γ hlY rfl ml_RX11_484 rfl at_M_0 rfl rfl rfl rfl rfl dX11_does_114) rfl (fun r σ' h => ctX11_withdrawsBy h) (fun v30 s31 hz32 => ?_)
                exact jq_zreturn Γ (hz32) dX11_does_117 (hK0 _)
              · refine jq_split (fun hc33 => ?_) (fun hn20_15 => ?_)
                · refine jq_tabIn (tgt := 118) Γ dX11_does_15 hc33 rfl rfl rfl ?_
                  refine jq_aload_n Γ dX11_does_118 rfl 1 rfl (jq_at_0 at_M_0) ?_
                  refine jq_cwZ (jq_virt (avs := []) (st := []) Γ hlY rfl ml_RX11_487 rfl at_M_0 rfl rfl rfl rfl rfl dX11_does_119) rfl (fun r σ' h => ctX11_sitsAny h) (fun v34 s35 hz36 => ?_)
                  exact jq_zreturn Γ (hz36) dX11_does_122 (hK0 _)
                · refine jq_tabOut (tgt := 123) Γ dX11_does_15 (by omega) rfl ?_
                  refine jq_iconst Γ dX11_does_123 rfl ?_
                  exact jq_zreturn Γ (Or.inr rfl) dX11_does_124 (hK0 _)


theorem dX11_holds_0 : decode cX11_holds 0 = .ok (.aload_n 0, 1) := by decide +kernel
theorem dX11_holds_1 : decode cX11_holds 1 = .ok (.getfield 7, 3) := by decide +kernel
theorem dX11_holds_4 : decode cX11_holds 4 = .ok (.iload_n 1, 1) := by decide +kernel
theorem dX11_holds_5 : decode cX11_holds 5 = .ok (.iaload, 1) := by decide +kernel
theorem dX11_holds_6 : decode cX11_holds 6 = .ok (.sipush 2100, 3) := by decide +kernel
theorem dX11_holds_9 : decode cX11_holds 9 = .ok (.isub, 1) := by decide +kernel
theorem dX11_holds_10 : decode cX11_holds 10 = .ok (.istore_n 2, 1) := by decide +kernel
theorem dX11_holds_11 : decode cX11_holds 11 = .ok (.aload_n 0, 1) := by decide +kernel
theorem dX11_holds_12 : decode cX11_holds 12 = .ok (.invokevirtual 302, 3) := by decide +kernel
theorem dX11_holds_15 : decode cX11_holds 15 = .ok (.iload_n 2, 1) := by decide +kernel
theorem dX11_holds_16 : decode cX11_holds 16 = .ok (.bipush 27, 2) := by decide +kernel
theorem dX11_holds_18 : decode cX11_holds 18 = .ok (.if_icmp .eq 37, 3) := by decide +kernel
theorem dX11_holds_21 : decode cX11_holds 21 = .ok (.iload_n 2, 1) := by decide +kernel
theorem dX11_holds_22 : decode cX11_holds 22 = .ok (.bipush 25, 2) := by decide +kernel
theorem dX11_holds_24 : decode cX11_holds 24 = .ok (.if_icmp .ne 18, 3) := by decide +kernel
theorem dX11_holds_27 : decode cX11_holds 27 = .ok (.aload_n 0, 1) := by decide +kernel
theorem dX11_holds_28 : decode cX11_holds 28 = .ok (.aload_n 0, 1) := by decide +kernel
theorem dX11_holds_29 : decode cX11_holds 29 = .ok (.getfield 7, 3) := by decide +kernel
theorem dX11_holds_32 : decode cX11_holds 32 = .ok (.iload_n 1, 1) := by decide +kernel
theorem dX11_holds_33 : decode cX11_holds 33 = .ok (.iconst 1, 1) := by decide +kernel
theorem dX11_holds_34 : decode cX11_holds 34 = .ok (.iadd, 1) := by decide +kernel
theorem dX11_holds_35 : decode cX11_holds 35 = .ok (.iaload, 1) := by decide +kernel
theorem dX11_holds_36 : decode cX11_holds 36 = .ok (.invokevirtual 284, 3) := by decide +kernel
theorem dX11_holds_39 : decode cX11_holds 39 = .ok (.goto 15, 3) := by decide +kernel
theorem dX11_holds_42 : decode cX11_holds 42 = .ok (.aload_n 0, 1) := by decide +kernel
theorem dX11_holds_43 : decode cX11_holds 43 = .ok (.aload_n 0, 1) := by decide +kernel
theorem dX11_holds_44 : decode cX11_holds 44 = .ok (.getfield 7, 3) := by decide +kernel
theorem dX11_holds_47 : decode cX11_holds 47 = .ok (.iload_n 1, 1) := by decide +kernel
theorem dX11_holds_48 : decode cX11_holds 48 = .ok (.iconst 1, 1) := by decide +kernel
theorem dX11_holds_49 : decode cX11_holds 49 = .ok (.iadd, 1) := by decide +kernel
theorem dX11_holds_50 : decode cX11_holds 50 = .ok (.iaload, 1) := by decide +kernel
theorem dX11_holds_51 : decode cX11_holds 51 = .ok (.invokevirtual 293, 3) := by decide +kernel
theorem dX11_holds_54 : decode cX11_holds 54 = .ok (.ireturn, 1) := by decide +kernel
theorem dX11_holds_55 : decode cX11_holds 55 = .ok (.aload_n 0, 1) := by decide +kernel
theorem dX11_holds_56 : decode cX11_holds 56 = .ok (.invokevirtual 332, 3) := by decide +kernel
theorem dX11_holds_59 : decode cX11_holds 59 = .ok (.istore_n 3, 1) := by decide +kernel
theorem dX11_holds_60 : decode cX11_holds 60 = .ok (.aload_n 0, 1) := by decide +kernel
theorem dX11_holds_61 : decode cX11_holds 61 = .ok (.getfield 7, 3) := by decide +kernel
theorem dX11_holds_64 : decode cX11_holds 64 = .ok (.iload_n 1, 1) := by decide +kernel
theorem dX11_holds_65 : decode cX11_holds 65 = .ok (.iconst 5, 1) := by decide +kernel
theorem dX11_holds_66 : decode cX11_holds 66 = .ok (.iadd, 1) := by decide +kernel
theorem dX11_holds_67 : decode cX11_holds 67 = .ok (.iaload, 1) := by decide +kernel
theorem dX11_holds_68 : decode cX11_holds 68 = .ok (.bipush 60, 2) := by decide +kernel
theorem dX11_holds_70 : decode cX11_holds 70 = .ok (.if_icmp .ne 23, 3) := by decide +kernel
theorem dX11_holds_73 : decode cX11_holds 73 = .ok (.iload_n 3, 1) := by decide +kernel
theorem dX11_holds_74 : decode cX11_holds 74 = .ok (.aload_n 0, 1) := by decide +kernel
theorem dX11_holds_75 : decode cX11_holds 75 = .ok (.getfield 7, 3) := by decide +kernel
theorem dX11_holds_78 : decode cX11_holds 78 = .ok (.iload_n 1, 1) := by decide +kernel
theorem dX11_holds_79 : decode cX11_holds 79 = .ok (.iconst 2, 1) := by decide +kernel
theorem dX11_holds_80 : decode cX11_holds 80 = .ok (.iadd, 1) := by decide +kernel
theorem dX11_holds_81 : decode cX11_holds 81 = .ok (.iaload, 1) := by decide +kernel
theorem dX11_holds_82 : decode cX11_holds 82 = .ok (.if_icmp .ge 7, 3) := by decide +kernel
theorem dX11_holds_85 : decode cX11_holds 85 = .ok (.iconst 1, 1) := by decide +kernel
theorem dX11_holds_86 : decode cX11_holds 86 = .ok (.goto 57, 3) := by decide +kernel
theorem dX11_holds_89 : decode cX11_holds 89 = .ok (.iconst 0, 1) := by decide +kernel
theorem dX11_holds_90 : decode cX11_holds 90 = .ok (.goto 53, 3) := by decide +kernel
theorem dX11_holds_93 : decode cX11_holds 93 = .ok (.aload_n 0, 1) := by decide +kernel
theorem dX11_holds_94 : decode cX11_holds 94 = .ok (.getfield 7, 3) := by decide +kernel
theorem dX11_holds_97 : decode cX11_holds 97 = .ok (.iload_n 1, 1) := by decide +kernel
theorem dX11_holds_98 : decode cX11_holds 98 = .ok (.iconst 5, 1) := by decide +kernel
theorem dX11_holds_99 : decode cX11_holds 99 = .ok (.iadd, 1) := by decide +kernel
theorem dX11_holds_100 : decode cX11_holds 100 = .ok (.iaload, 1) := by decide +kernel
theorem dX11_holds_101 : decode cX11_holds 101 = .ok (.bipush 62, 2) := by decide +kernel
theorem dX11_holds_103 : decode cX11_holds 103 = .ok (.if_icmp .ne 23, 3) := by decide +kernel
theorem dX11_holds_106 : decode cX11_holds 106 = .ok (.iload_n 3, 1) := by decide +kernel
theorem dX11_holds_107 : decode cX11_holds 107 = .ok (.aload_n 0, 1) := by decide +kernel
theorem dX11_holds_108 : decode cX11_holds 108 = .ok (.getfield 7, 3) := by decide +kernel
theorem dX11_holds_111 : decode cX11_holds 111 = .ok (.iload_n 1, 1) := by decide +kernel
theorem dX11_holds_112 : decode cX11_holds 112 = .ok (.iconst 2, 1) := by decide +kernel
theorem dX11_holds_113 : decode cX11_holds 113 = .ok (.iadd, 1) := by decide +kernel
theorem dX11_holds_114 : decode cX11_holds 114 = .ok (.iaload, 1) := by decide +kernel
theorem dX11_holds_115 : decode cX11_holds 115 = .ok (.if_icmp .le 7, 3) := by decide +kernel
theorem dX11_holds_118 : decode cX11_holds 118 = .ok (.iconst 1, 1) := by decide +kernel
theorem dX11_holds_119 : decode cX11_holds 119 = .ok (.goto 24, 3) := by decide +kernel
theorem dX11_holds_122 : decode cX11_holds 122 = .ok (.iconst 0, 1) := by decide +kernel
theorem dX11_holds_123 : decode cX11_holds 123 = .ok (.goto 20, 3) := by decide +kernel
theorem dX11_holds_126 : decode cX11_holds 126 = .ok (.iload_n 3, 1) := by decide +kernel
theorem dX11_holds_127 : decode cX11_holds 127 = .ok (.aload_n 0, 1) := by decide +kernel
theorem dX11_holds_128 : decode cX11_holds 128 = .ok (.getfield 7, 3) := by decide +kernel
theorem dX11_holds_131 : decode cX11_holds 131 = .ok (.iload_n 1, 1) := by decide +kernel
theorem dX11_holds_132 : decode cX11_holds 132 = .ok (.iconst 2, 1) := by decide +kernel
theorem dX11_holds_133 : decode cX11_holds 133 = .ok (.iadd, 1) := by decide +kernel
theorem dX11_holds_134 : decode cX11_holds 134 = .ok (.iaload, 1) := by decide +kernel
theorem dX11_holds_135 : decode cX11_holds 135 = .ok (.if_icmp .ne 7, 3) := by decide +kernel
theorem dX11_holds_138 : decode cX11_holds 138 = .ok (.iconst 1, 1) := by decide +kernel
theorem dX11_holds_139 : decode cX11_holds 139 = .ok (.goto 4, 3) := by decide +kernel
theorem dX11_holds_142 : decode cX11_holds 142 = .ok (.iconst 0, 1) := by decide +kernel
theorem dX11_holds_143 : decode cX11_holds 143 = .ok (.ireturn, 1) := by decide +kernel
set_option maxHeartbeats 4000000 in
set_option maxRecDepth 100000 in
theorem ctX11_holds {p1 : Int} {σ : jq_M} {res : Int} {σ' : jq_M}  (h : X11_holds p1 σ = some (res, σ')) : jq_MC jq_zM yX11_holds cX11_holds 4 (some .boolean) 5 131 [jR 0, jI p1] σ (some (jI res)) σ' := by
  refine jq_met (own := RX11) (L0 := [(0, jR 0), (1, jI p1)]) (by decide) rfl rfl rfl ?_
  intro X Γ hnl hlY hRT
  refine jq_use2 (P := fun r => jq_RT jq_zM X (some .boolean) (some (jI r.1)) r.2) ?_ h hRT
  intro K0 hK0
  unfold X11_holds
  refine jq_aload_n Γ dX11_holds_0 rfl 0 rfl (jq_at_0 at_M_0) ?_
  refine jq_getR (v := 1) Γ hlY at_M_0 fl_RX11_7 rfl rfl ly_X11_at dX11_holds_1 ?_
  refine jq_iload_n Γ dX11_holds_4 rfl 1 rfl ?_
  refine jq_iald Γ at_M_1 rfl dX11_holds_5 (fun v1 => ?_)
  refine jq_sipush Γ dX11_holds_6 rfl ?_
  refine jq_isub Γ dX11_holds_9 ?_
  refine jq_nmI (fun v2 => ?_)
  refine jq_istore_n (L' := [(2, jI v2), (0, jR 0), (1, jI p1)]) Γ dX11_holds_10 rfl hnl rfl rfl ?_
  refine jq_aload_n Γ dX11_holds_11 rfl 1 rfl (jq_at_0 at_M_0) ?_
  refine jq_cwV (jq_virt (avs := []) (st := []) Γ hlY rfl ml_RX11_302 rfl at_M_0 rfl rfl rfl rfl rfl dX11_holds_12) (fun σ' h => ctX11_seatsNow h) (fun s3 => ?_)
  refine jq_iload_n Γ dX11_holds_15 rfl 0 rfl ?_
  refine jq_bipush Γ dX11_holds_16 rfl ?_
  refine jq_icmp_eq (tgt := 55) Γ dX11_holds_18 rfl ?_ ?_
  · refine jq_aload_n Γ dX11_holds_55 rfl 1 rfl (jq_at_0 at_M_0) ?_
    refine jq_cpI (jq_virt (avs := []) (st := []) Γ hlY rfl ml_RX11_332 rfl at_M_0 rfl rfl rfl rfl rfl dX11_holds_56) (fun r h => ctX11_worthOfAll h) (fun v4 => ?_)
    refine jq_istore_n (L' := [(3, jI v4), (2, jI v2), (0, jR 0), (1, jI p1)]) Γ dX11_holds_59 rfl hnl rfl rfl ?_
    refine jq_aload_n Γ dX11_holds_60 rfl 2 rfl (jq_at_0 at_M_0) ?_
    refine jq_getR (v := 1) Γ hlY at_M_0 fl_RX11_7 rfl rfl ly_X11_at dX11_holds_61 ?_
    refine jq_iload_n Γ dX11_holds_64 rfl 3 rfl ?_
    refine jq_iconst Γ dX11_holds_65 rfl ?_
    refine jq_iadd Γ dX11_holds_66 ?_
    refine jq_iald Γ at_M_1 rfl dX11_holds_67 (fun v5 => ?_)
    refine jq_bipush Γ dX11_holds_68 rfl ?_
    refine jq_icmp_ne (tgt := 93) Γ dX11_holds_70 rfl ?_ ?_
    · refine jq_aload_n Γ dX11_holds_93 rfl 2 rfl (jq_at_0 at_M_0) ?_
      refine jq_getR (v := 1) Γ hlY at_M_0 fl_RX11_7 rfl rfl ly_X11_at dX11_holds_94 ?_
      refine jq_iload_n Γ dX11_holds_97 rfl 3 rfl ?_
      refine jq_iconst Γ dX11_holds_98 rfl ?_
      refine jq_iadd Γ dX11_holds_99 ?_
      refine jq_iald Γ at_M_1 rfl dX11_holds_100 (fun v6 => ?_)
      refine jq_bipush Γ dX11_holds_101 rfl ?_
      refine jq_icmp_ne (tgt := 126) Γ dX11_holds_103 rfl ?_ ?_
      · refine jq_iload_n Γ dX11_holds_126 rfl 0 rfl ?_
        refine jq_aload_n Γ dX11_holds_127 rfl 2 rfl (jq_at_0 at_M_0) ?_
        refine jq_getR (v := 1) Γ hlY at_M_0 fl_RX11_7 rfl rfl ly_X11_at dX11_holds_128 ?_
        refine jq_iload_n Γ dX11_holds_131 rfl 3 rfl ?_
        refine jq_iconst Γ dX11_holds_132 rfl ?_
        refine jq_iadd Γ dX11_holds_133 ?_
        refine jq_iald Γ at_M_1 rfl dX11_holds_134 (fun v7 => ?_)
        refine jq_icmp_ne (tgt := 142) Γ dX11_holds_135 rfl ?_ ?_
        · refine jq_iconst Γ dX11_holds_142 rfl ?_
          exact jq_zreturn Γ (Or.inl rfl) dX11_holds_143 (hK0 _)
        · refine jq_iconst Γ dX11_holds_138 rfl ?_
          refine jq_goto Γ (tgt := 143) dX11_holds_139 rfl ?_
          exact jq_zreturn Γ (Or.inr rfl) dX11_holds_143 (hK0 _)
      · refine jq_iload_n Γ dX11_holds_106 rfl 0 rfl ?_
        refine jq_aload_n Γ dX11_holds_107 rfl 2 rfl (jq_at_0 at_M_0) ?_
        refine jq_getR (v := 1) Γ hlY at_M_0 fl_RX11_7 rfl rfl ly_X11_at dX11_holds_108 ?_
        refine jq_iload_n Γ dX11_holds_111 rfl 3 rfl ?_
        refine jq_iconst Γ dX11_holds_112 rfl ?_
        refine jq_iadd Γ dX11_holds_113 ?_
        refine jq_iald Γ at_M_1 rfl dX11_holds_114 (fun v8 => ?_)
        refine jq_icmp_le (tgt := 122) Γ dX11_holds_115 rfl ?_ ?_
        · refine jq_iconst Γ dX11_holds_122 rfl ?_
          refine jq_goto Γ (tgt := 143) dX11_holds_123 rfl ?_
          exact jq_zreturn Γ (Or.inl rfl) dX11_holds_143 (hK0 _)
        · refine jq_iconst Γ dX11_holds_118 rfl ?_
          refine jq_goto Γ (tgt := 143) dX11_holds_119 rfl ?_
          exact jq_zreturn Γ (Or.inr rfl) dX11_holds_143 (hK0 _)
    · refine jq_iload_n Γ dX11_holds_73 rfl 0 rfl ?_
      refine jq_aload_n Γ dX11_holds_74 rfl 2 rfl (jq_at_0 at_M_0) ?_
      refine jq_getR (v := 1) Γ hlY at_M_0 fl_RX11_7 rfl rfl ly_X11_at dX11_holds_75 ?_
      refine jq_iload_n Γ dX11_holds_78 rfl 3 rfl ?_
      refine jq_iconst Γ dX11_holds_79 rfl ?_
      refine jq_iadd Γ dX11_holds_80 ?_
      refine jq_iald Γ at_M_1 rfl dX11_holds_81 (fun v9 => ?_)
      refine jq_icmp_ge (tgt := 89) Γ dX11_holds_82 rfl ?_ ?_
      · refine jq_iconst Γ dX11_holds_89 rfl ?_
        refine jq_goto Γ (tgt := 143) dX11_holds_90 rfl ?_
        exact jq_zreturn Γ (Or.inl rfl) dX11_holds_143 (hK0 _)
      · refine jq_iconst Γ dX11_holds_85 rfl ?_
        refine jq_goto Γ (tgt := 143) dX11_holds_86 rfl ?_
        exact jq_zreturn Γ (Or.inr rfl) dX11_holds_143 (hK0 _)
  · refine jq_iload_n Γ dX11_holds_21 rfl 0 rfl ?_
    refine jq_bipush Γ dX11_holds_22 rfl ?_
    refine jq_icmp_ne (tgt := 42) Γ dX11_holds_24 rfl ?_ ?_
    · refine jq_aload_n Γ dX11_holds_42 rfl 1 rfl (jq_at_0 at_M_0) ?_
      refine jq_aload_n Γ dX11_holds_43 rfl 1 rfl (jq_at_0 at_M_0) ?_
      refine jq_getR (v := 1) Γ hlY at_M_0 fl_RX11_7 rfl rfl ly_X11_at dX11_holds_44 ?_
      refine jq_iload_n Γ dX11_holds_47 rfl 2 rfl ?_
      refine jq_iconst Γ dX11_holds_48 rfl ?_
      refine jq_iadd Γ dX11_holds_49 ?_
      refine jq_iald Γ at_M_1 rfl dX11_holds_50 (fun v10 => ?_)
      refine jq_cpZ (jq_virt (avs := [jI v10]) (st := []) Γ hlY rfl ml_RX11_293 rfl at_M_0 rfl rfl rfl rfl rfl dX11_holds_51) rfl (fun r h => ctX11_isAgreed h) (fun v11 hz12 => ?_)
      exact jq_zreturn Γ (hz12) dX11_holds_54 (hK0 _)
    · refine jq_aload_n Γ dX11_holds_27 rfl 1 rfl (jq_at_0 at_M_0) ?_
      refine jq_aload_n Γ dX11_holds_28 rfl 1 rfl (jq_at_0 at_M_0) ?_
      refine jq_getR (v := 1) Γ hlY at_M_0 fl_RX11_7 rfl rfl ly_X11_at dX11_holds_29 ?_
      refine jq_iload_n Γ dX11_holds_32 rfl 2 rfl ?_
      refine jq_iconst Γ dX11_holds_33 rfl ?_
      refine jq_iadd Γ dX11_holds_34 ?_
      refine jq_iald Γ at_M_1 rfl dX11_holds_35 (fun v13 => ?_)
      refine jq_cpZ (jq_virt (avs := [jI v13]) (st := []) Γ hlY rfl ml_RX11_284 rfl at_M_0 rfl rfl rfl rfl rfl dX11_holds_36) rfl (fun r h => ctX11_doesSign h) (fun v14 hz15 => ?_)
      refine jq_goto Γ (tgt := 54) dX11_holds_39 rfl ?_
      exact jq_zreturn Γ (hz15) dX11_holds_54 (hK0 _)


theorem dX11_behindEnds_0 : decode cX11_behindEnds 0 = .ok (.iload_n 1, 1) := by decide +kernel
theorem dX11_behindEnds_1 : decode cX11_behindEnds 1 = .ok (.istore_n 2, 1) := by decide +kernel
theorem dX11_behindEnds_2 : decode cX11_behindEnds 2 = .ok (.iload_n 2, 1) := by decide +kernel
theorem dX11_behindEnds_3 : decode cX11_behindEnds 3 = .ok (.aload_n 0, 1) := by decide +kernel
theorem dX11_behindEnds_4 : decode cX11_behindEnds 4 = .ok (.getfield 7, 3) := by decide +kernel
theorem dX11_behindEnds_7 : decode cX11_behindEnds 7 = .ok (.bipush 6, 2) := by decide +kernel
theorem dX11_behindEnds_9 : decode cX11_behindEnds 9 = .ok (.iaload, 1) := by decide +kernel
theorem dX11_behindEnds_10 : decode cX11_behindEnds 10 = .ok (.if_icmp .ge 108, 3) := by decide +kernel
theorem dX11_behindEnds_13 : decode cX11_behindEnds 13 = .ok (.aload_n 0, 1) := by decide +kernel
theorem dX11_behindEnds_14 : decode cX11_behindEnds 14 = .ok (.getfield 7, 3) := by decide +kernel
theorem dX11_behindEnds_17 : decode cX11_behindEnds 17 = .ok (.sipush 138, 3) := by decide +kernel
theorem dX11_behindEnds_20 : decode cX11_behindEnds 20 = .ok (.bipush 6, 2) := by decide +kernel
theorem dX11_behindEnds_22 : decode cX11_behindEnds 22 = .ok (.iload_n 2, 1) := by decide +kernel
theorem dX11_behindEnds_23 : decode cX11_behindEnds 23 = .ok (.imul, 1) := by decide +kernel
theorem dX11_behindEnds_24 : decode cX11_behindEnds 24 = .ok (.iadd, 1) := by decide +kernel
theorem dX11_behindEnds_25 : decode cX11_behindEnds 25 = .ok (.iaload, 1) := by decide +kernel
theorem dX11_behindEnds_26 : decode cX11_behindEnds 26 = .ok (.bipush 23, 2) := by decide +kernel
theorem dX11_behindEnds_28 : decode cX11_behindEnds 28 = .ok (.if_icmp .ne 90, 3) := by decide +kernel
theorem dX11_behindEnds_31 : decode cX11_behindEnds 31 = .ok (.aload_n 0, 1) := by decide +kernel
theorem dX11_behindEnds_32 : decode cX11_behindEnds 32 = .ok (.getfield 7, 3) := by decide +kernel
theorem dX11_behindEnds_35 : decode cX11_behindEnds 35 = .ok (.sipush 138, 3) := by decide +kernel
theorem dX11_behindEnds_38 : decode cX11_behindEnds 38 = .ok (.bipush 6, 2) := by decide +kernel
theorem dX11_behindEnds_40 : decode cX11_behindEnds 40 = .ok (.iload_n 2, 1) := by decide +kernel
theorem dX11_behindEnds_41 : decode cX11_behindEnds 41 = .ok (.imul, 1) := by decide +kernel
theorem dX11_behindEnds_42 : decode cX11_behindEnds 42 = .ok (.iadd, 1) := by decide +kernel
theorem dX11_behindEnds_43 : decode cX11_behindEnds 43 = .ok (.iconst 4, 1) := by decide +kernel
theorem dX11_behindEnds_44 : decode cX11_behindEnds 44 = .ok (.iadd, 1) := by decide +kernel
theorem dX11_behindEnds_45 : decode cX11_behindEnds 45 = .ok (.iaload, 1) := by decide +kernel
theorem dX11_behindEnds_46 : decode cX11_behindEnds 46 = .ok (.istore_n 3, 1) := by decide +kernel
theorem dX11_behindEnds_47 : decode cX11_behindEnds 47 = .ok (.aload_n 0, 1) := by decide +kernel
theorem dX11_behindEnds_48 : decode cX11_behindEnds 48 = .ok (.getfield 7, 3) := by decide +kernel
theorem dX11_behindEnds_51 : decode cX11_behindEnds 51 = .ok (.sipush 138, 3) := by decide +kernel
theorem dX11_behindEnds_54 : decode cX11_behindEnds 54 = .ok (.bipush 6, 2) := by decide +kernel
theorem dX11_behindEnds_56 : decode cX11_behindEnds 56 = .ok (.iload_n 3, 1) := by decide +kernel
theorem dX11_behindEnds_57 : decode cX11_behindEnds 57 = .ok (.imul, 1) := by decide +kernel
theorem dX11_behindEnds_58 : decode cX11_behindEnds 58 = .ok (.iadd, 1) := by decide +kernel
theorem dX11_behindEnds_59 : decode cX11_behindEnds 59 = .ok (.iaload, 1) := by decide +kernel
theorem dX11_behindEnds_60 : decode cX11_behindEnds 60 = .ok (.bipush 22, 2) := by decide +kernel
theorem dX11_behindEnds_62 : decode cX11_behindEnds 62 = .ok (.if_icmp .ne 16, 3) := by decide +kernel
theorem dX11_behindEnds_65 : decode cX11_behindEnds 65 = .ok (.aload_n 0, 1) := by decide +kernel
theorem dX11_behindEnds_66 : decode cX11_behindEnds 66 = .ok (.getfield 65, 3) := by decide +kernel
theorem dX11_behindEnds_69 : decode cX11_behindEnds 69 = .ok (.iload_n 3, 1) := by decide +kernel
theorem dX11_behindEnds_70 : decode cX11_behindEnds 70 = .ok (.iaload, 1) := by decide +kernel
theorem dX11_behindEnds_71 : decode cX11_behindEnds 71 = .ok (.ifCond .le 7, 3) := by decide +kernel
theorem dX11_behindEnds_74 : decode cX11_behindEnds 74 = .ok (.iconst 1, 1) := by decide +kernel
theorem dX11_behindEnds_75 : decode cX11_behindEnds 75 = .ok (.goto 4, 3) := by decide +kernel
theorem dX11_behindEnds_78 : decode cX11_behindEnds 78 = .ok (.iconst 0, 1) := by decide +kernel
theorem dX11_behindEnds_79 : decode cX11_behindEnds 79 = .ok (.istore 4, 2) := by decide +kernel
theorem dX11_behindEnds_81 : decode cX11_behindEnds 81 = .ok (.aload_n 0, 1) := by decide +kernel
theorem dX11_behindEnds_82 : decode cX11_behindEnds 82 = .ok (.getfield 65, 3) := by decide +kernel
theorem dX11_behindEnds_85 : decode cX11_behindEnds 85 = .ok (.iload_n 3, 1) := by decide +kernel
theorem dX11_behindEnds_86 : decode cX11_behindEnds 86 = .ok (.dup2, 1) := by decide +kernel
theorem dX11_behindEnds_87 : decode cX11_behindEnds 87 = .ok (.iaload, 1) := by decide +kernel
theorem dX11_behindEnds_88 : decode cX11_behindEnds 88 = .ok (.iload 4, 2) := by decide +kernel
theorem dX11_behindEnds_90 : decode cX11_behindEnds 90 = .ok (.ifCond .eq 7, 3) := by decide +kernel
theorem dX11_behindEnds_93 : decode cX11_behindEnds 93 = .ok (.iconst 1, 1) := by decide +kernel
theorem dX11_behindEnds_94 : decode cX11_behindEnds 94 = .ok (.goto 4, 3) := by decide +kernel
theorem dX11_behindEnds_97 : decode cX11_behindEnds 97 = .ok (.iconst 0, 1) := by decide +kernel
theorem dX11_behindEnds_98 : decode cX11_behindEnds 98 = .ok (.isub, 1) := by decide +kernel
theorem dX11_behindEnds_99 : decode cX11_behindEnds 99 = .ok (.iastore, 1) := by decide +kernel
theorem dX11_behindEnds_100 : decode cX11_behindEnds 100 = .ok (.iload 4, 2) := by decide +kernel
theorem dX11_behindEnds_102 : decode cX11_behindEnds 102 = .ok (.ifCond .eq 9, 3) := by decide +kernel
theorem dX11_behindEnds_105 : decode cX11_behindEnds 105 = .ok (.iload_n 3, 1) := by decide +kernel
theorem dX11_behindEnds_106 : decode cX11_behindEnds 106 = .ok (.iconst 1, 1) := by decide +kernel
theorem dX11_behindEnds_107 : decode cX11_behindEnds 107 = .ok (.iadd, 1) := by decide +kernel
theorem dX11_behindEnds_108 : decode cX11_behindEnds 108 = .ok (.goto 6, 3) := by decide +kernel
theorem dX11_behindEnds_111 : decode cX11_behindEnds 111 = .ok (.iload_n 2, 1) := by decide +kernel
theorem dX11_behindEnds_112 : decode cX11_behindEnds 112 = .ok (.iconst 1, 1) := by decide +kernel
theorem dX11_behindEnds_113 : decode cX11_behindEnds 113 = .ok (.iadd, 1) := by decide +kernel
theorem dX11_behindEnds_114 : decode cX11_behindEnds 114 = .ok (.istore_n 2, 1) := by decide +kernel
theorem dX11_behindEnds_115 : decode cX11_behindEnds 115 = .ok (.goto (-113), 3) := by decide +kernel
theorem dX11_behindEnds_118 : decode cX11_behindEnds 118 = .ok (.iload_n 2, 1) := by decide +kernel
theorem dX11_behindEnds_119 : decode cX11_behindEnds 119 = .ok (.ireturn, 1) := by decide +kernel
set_option maxHeartbeats 4000000 in
set_option maxRecDepth 100000 in
theorem ctX11_behindEnds {p1 : Int} {σ : jq_M} {res : Int} {σ' : jq_M}  (h : X11_behindEnds p1 σ = some (res, σ')) : jq_MC jq_zM yX11_behindEnds cX11_behindEnds 5 (some .int) 1 40 [jR 0, jI p1] σ (some (jI res)) σ' := by
  refine jq_met (own := RX11) (L0 := [(0, jR 0), (1, jI p1)]) (by decide) rfl rfl rfl ?_
  intro X Γ hnl hlY hRT
  refine jq_use2 (P := fun r => jq_RT jq_zM X (some .int) (some (jI r.1)) r.2) ?_ h hRT
  intro K0 hK0
  unfold X11_behindEnds
  refine jq_iload_n Γ dX11_behindEnds_0 rfl 1 rfl ?_
  refine jq_istore_n (L' := [(2, jI p1), (0, jR 0), (1, jI p1)]) Γ dX11_behindEnds_1 rfl hnl rfl rfl ?_
  refine jq_sub Γ (L' := [(0, jR 0), (2, jI p1)]) [1, 0] rfl ?_
  refine jq_loop2 (C := fun (t1 : Int × jq_M) => jq_V jq_zM X (jq_zN jq_zM) t1.2 2 [(0, jR 0), (2, jI t1.1)] []) (KX := fun (e27 : Int × jq_M) => jq_V jq_zM X (jq_zN jq_zM) e27.2 118 [(2, jI e27.1)] []) ?_ ?_ (p1, σ)
  · intro K2_t1 hCt1 hXt1 t1
    unfold X11_behindEnds_b2
    have hj98_1004 : ∀ (j15 : Int) (j16 : Int) (j17 : Int) (j18 : Int) (j19 : Int) (j20 : Int) (s22 : jq_M) (hz21 : j20 = 0 ∨ j20 = 1), jq_J (X11_behindEnds_j98 j15 j16 j17 j18 j19 j20 s22) K2_t1 (jq_V jq_zM X (jq_zN jq_zM) s22 98 [(0, jR 0), (2, jI j15), (3, jI j16), (4, jI j17)] [jI j20, jI j19, jI j18, jR 15]) := by
      intro j15 j16 j17 j18 j19 j20 s22 hz21
      unfold X11_behindEnds_j98
      refine jq_isub Γ dX11_behindEnds_98 ?_
      refine jq_iast Γ at_M_15 rfl dX11_behindEnds_99 (fun s23 => ?_)
      refine jq_iload Γ dX11_behindEnds_100 3 rfl ?_
      refine jq_if_eq (tgt := 111) Γ dX11_behindEnds_102 rfl ?_ ?_
      · refine jq_iload_n Γ dX11_behindEnds_111 rfl 1 rfl ?_
        refine jq_iconst Γ dX11_behindEnds_112 rfl ?_
        refine jq_iadd Γ dX11_behindEnds_113 ?_
        refine jq_nmI (fun v24 => ?_)
        refine jq_istore_n (L' := [(2, jI v24), (0, jR 0), (3, jI j16), (4, jI j17)]) Γ dX11_behindEnds_114 rfl hnl rfl rfl ?_
        refine jq_goto Γ (tgt := 2) dX11_behindEnds_115 rfl ?_
        refine jq_sub Γ (L' := [(0, jR 0), (2, jI v24)]) [1, 0] rfl ?_
        exact jq_done (hCt1 (v24, s23))
      · refine jq_iload_n Γ dX11_behindEnds_105 rfl 2 rfl ?_
        refine jq_iconst Γ dX11_behindEnds_106 rfl ?_
        refine jq_iadd Γ dX11_behindEnds_107 ?_
        refine jq_goto Γ (tgt := 114) dX11_behindEnds_108 rfl ?_
        refine jq_nmI (fun v25 => ?_)
        refine jq_istore_n (L' := [(2, jI v25), (0, jR 0), (3, jI j16), (4, jI j17)]) Γ dX11_behindEnds_114 rfl hnl rfl rfl ?_
        refine jq_goto Γ (tgt := 2) dX11_behindEnds_115 rfl ?_
        refine jq_sub Γ (L' := [(0, jR 0), (2, jI v25)]) [1, 0] rfl ?_
        exact jq_done (hCt1 (v25, s23))
    have hj79_1004 : ∀ (j9 : Int) (j10 : Int) (j11 : Int) (s13 : jq_M) (hz12 : j11 = 0 ∨ j11 = 1), jq_J (X11_behindEnds_j79 j9 j10 j11 s13) K2_t1 (jq_V jq_zM X (jq_zN jq_zM) s13 79 [(0, jR 0), (2, jI j9), (3, jI j10)] [jI j11]) := by
      intro j9 j10 j11 s13 hz12
      unfold X11_behindEnds_j79
      refine jq_istore (L' := [(4, jI j11), (0, jR 0), (2, jI j9), (3, jI j10)]) Γ dX11_behindEnds_79 hnl rfl rfl ?_
      refine jq_aload_n Γ dX11_behindEnds_81 rfl 1 rfl (jq_at_0 at_M_0) ?_
      refine jq_getR (v := 15) Γ hlY at_M_0 fl_RX11_65 rfl rfl ly_X11_loops dX11_behindEnds_82 ?_
      refine jq_iload_n Γ dX11_behindEnds_85 rfl 3 rfl ?_
      refine jq_dup2 Γ dX11_behindEnds_86 rfl rfl ?_
      refine jq_iald Γ at_M_15 rfl dX11_behindEnds_87 (fun v14 => ?_)
      refine jq_iload Γ dX11_behindEnds_88 0 rfl ?_
      refine jq_if_eq (tgt := 97) Γ dX11_behindEnds_90 rfl ?_ ?_
      · refine jq_iconst Γ dX11_behindEnds_97 rfl ?_
        refine jq_sub Γ (L' := [(0, jR 0), (2, jI j9), (3, jI j10), (4, jI j11)]) [1, 2, 3, 0] rfl ?_
        exact hj98_1004 j9 j10 j11 j10 v14 0 s13 (Or.inl rfl)
      · refine jq_iconst Γ dX11_behindEnds_93 rfl ?_
        refine jq_goto Γ (tgt := 98) dX11_behindEnds_94 rfl ?_
        refine jq_sub Γ (L' := [(0, jR 0), (2, jI j9), (3, jI j10), (4, jI j11)]) [1, 2, 3, 0] rfl ?_
        exact hj98_1004 j9 j10 j11 j10 v14 1 s13 (Or.inr rfl)
    have hj78_1004 : ∀ (j6 : Int) (j7 : Int) (s8 : jq_M), jq_J (X11_behindEnds_j78 j6 j7 s8) K2_t1 (jq_V jq_zM X (jq_zN jq_zM) s8 78 [(0, jR 0), (2, jI j6), (3, jI j7)] []) := by
      intro j6 j7 s8
      unfold X11_behindEnds_j78
      refine jq_iconst Γ dX11_behindEnds_78 rfl ?_
      exact hj79_1004 j6 j7 0 s8 (Or.inl rfl)
    refine jq_iload_n Γ dX11_behindEnds_2 rfl 1 rfl ?_
    refine jq_aload_n Γ dX11_behindEnds_3 rfl 0 rfl (jq_at_0 at_M_0) ?_
    refine jq_getR (v := 1) Γ hlY at_M_0 fl_RX11_7 rfl rfl ly_X11_at dX11_behindEnds_4 ?_
    refine jq_bipush Γ dX11_behindEnds_7 rfl ?_
    refine jq_iald Γ at_M_1 rfl dX11_behindEnds_9 (fun v2 => ?_)
    refine jq_icmp_ge (tgt := 118) Γ dX11_behindEnds_10 rfl ?_ ?_
    · refine jq_sub Γ (L' := [(2, jI t1.1)]) [1] rfl ?_
      exact jq_done (hXt1 (t1.1, t1.2))
    · refine jq_aload_n Γ dX11_behindEnds_13 rfl 0 rfl (jq_at_0 at_M_0) ?_
      refine jq_getR (v := 1) Γ hlY at_M_0 fl_RX11_7 rfl rfl ly_X11_at dX11_behindEnds_14 ?_
      refine jq_sipush Γ dX11_behindEnds_17 rfl ?_
      refine jq_bipush Γ dX11_behindEnds_20 rfl ?_
      refine jq_iload_n Γ dX11_behindEnds_22 rfl 1 rfl ?_
      refine jq_imul Γ dX11_behindEnds_23 ?_
      refine jq_iadd Γ dX11_behindEnds_24 ?_
      refine jq_iald Γ at_M_1 rfl dX11_behindEnds_25 (fun v3 => ?_)
      refine jq_bipush Γ dX11_behindEnds_26 rfl ?_
      refine jq_icmp_ne (tgt := 118) Γ dX11_behindEnds_28 rfl ?_ ?_
      · refine jq_sub Γ (L' := [(2, jI t1.1)]) [1] rfl ?_
        exact jq_done (hXt1 (t1.1, t1.2))
      · refine jq_aload_n Γ dX11_behindEnds_31 rfl 0 rfl (jq_at_0 at_M_0) ?_
        refine jq_getR (v := 1) Γ hlY at_M_0 fl_RX11_7 rfl rfl ly_X11_at dX11_behindEnds_32 ?_
        refine jq_sipush Γ dX11_behindEnds_35 rfl ?_
        refine jq_bipush Γ dX11_behindEnds_38 rfl ?_
        refine jq_iload_n Γ dX11_behindEnds_40 rfl 1 rfl ?_
        refine jq_imul Γ dX11_behindEnds_41 ?_
        refine jq_iadd Γ dX11_behindEnds_42 ?_
        refine jq_iconst Γ dX11_behindEnds_43 rfl ?_
        refine jq_iadd Γ dX11_behindEnds_44 ?_
        refine jq_iald Γ at_M_1 rfl dX11_behindEnds_45 (fun v4 => ?_)
        refine jq_istore_n (L' := [(3, jI v4), (0, jR 0), (2, jI t1.1)]) Γ dX11_behindEnds_46 rfl hnl rfl rfl ?_
        refine jq_aload_n Γ dX11_behindEnds_47 rfl 1 rfl (jq_at_0 at_M_0) ?_
        refine jq_getR (v := 1) Γ hlY at_M_0 fl_RX11_7 rfl rfl ly_X11_at dX11_behindEnds_48 ?_
        refine jq_sipush Γ dX11_behindEnds_51 rfl ?_
        refine jq_bipush Γ dX11_behindEnds_54 rfl ?_
        refine jq_iload_n Γ dX11_behindEnds_56 rfl 0 rfl ?_
        refine jq_imul Γ dX11_behindEnds_57 ?_
        refine jq_iadd Γ dX11_behindEnds_58 ?_
        refine jq_iald Γ at_M_1 rfl dX11_behindEnds_59 (fun v5 => ?_)
        refine jq_bipush Γ dX11_behindEnds_60 rfl ?_
        refine jq_icmp_ne (tgt := 78) Γ dX11_behindEnds_62 rfl ?_ ?_
        · refine jq_sub Γ (L' := [(0, jR 0), (2, jI t1.1), (3, jI v4)]) [1, 2, 0] rfl ?_
          exact hj78_1004 t1.1 v4 t1.2
        · refine jq_aload_n Γ dX11_behindEnds_65 rfl 1 rfl (jq_at_0 at_M_0) ?_
          refine jq_getR (v := 15) Γ hlY at_M_0 fl_RX11_65 rfl rfl ly_X11_loops dX11_behindEnds_66 ?_
          refine jq_iload_n Γ dX11_behindEnds_69 rfl 0 rfl ?_
          refine jq_iald Γ at_M_15 rfl dX11_behindEnds_70 (fun v26 => ?_)
          refine jq_if_le (tgt := 78) Γ dX11_behindEnds_71 rfl ?_ ?_
          · refine jq_sub Γ (L' := [(0, jR 0), (2, jI t1.1), (3, jI v4)]) [1, 2, 0] rfl ?_
            exact hj78_1004 t1.1 v4 t1.2
          · refine jq_iconst Γ dX11_behindEnds_74 rfl ?_
            refine jq_goto Γ (tgt := 79) dX11_behindEnds_75 rfl ?_
            refine jq_sub Γ (L' := [(0, jR 0), (2, jI t1.1), (3, jI v4)]) [1, 2, 0] rfl ?_
            exact hj79_1004 t1.1 v4 1 t1.2 (Or.inr rfl)
  · intro e27
    refine jq_iload_n Γ dX11_behindEnds_118 rfl 0 rfl ?_
    exact jq_ireturn Γ dX11_behindEnds_119 (hK0 _)


theorem dX11_lives_0 : decode cX11_lives 0 = .ok (.aload_n 0, 1) := by decide +kernel
theorem dX11_lives_1 : decode cX11_lives 1 = .ok (.iload_n 1, 1) := by decide +kernel
theorem dX11_lives_2 : decode cX11_lives 2 = .ok (.putfield 465, 3) := by decide +kernel
theorem dX11_lives_5 : decode cX11_lives 5 = .ok (.aload_n 0, 1) := by decide +kernel
theorem dX11_lives_6 : decode cX11_lives 6 = .ok (.iconst 0, 1) := by decide +kernel
theorem dX11_lives_7 : decode cX11_lives 7 = .ok (.putfield 490, 3) := by decide +kernel
theorem dX11_lives_10 : decode cX11_lives 10 = .ok (.iconst 0, 1) := by decide +kernel
theorem dX11_lives_11 : decode cX11_lives 11 = .ok (.istore_n 2, 1) := by decide +kernel
theorem dX11_lives_12 : decode cX11_lives 12 = .ok (.iload_n 2, 1) := by decide +kernel
theorem dX11_lives_13 : decode cX11_lives 13 = .ok (.iconst 5, 1) := by decide +kernel
theorem dX11_lives_14 : decode cX11_lives 14 = .ok (.if_icmp .ge 16, 3) := by decide +kernel
theorem dX11_lives_17 : decode cX11_lives 17 = .ok (.aload_n 0, 1) := by decide +kernel
theorem dX11_lives_18 : decode cX11_lives 18 = .ok (.getfield 68, 3) := by decide +kernel
theorem dX11_lives_21 : decode cX11_lives 21 = .ok (.iload_n 2, 1) := by decide +kernel
theorem dX11_lives_22 : decode cX11_lives 22 = .ok (.iconst 0, 1) := by decide +kernel
theorem dX11_lives_23 : decode cX11_lives 23 = .ok (.iastore, 1) := by decide +kernel
theorem dX11_lives_24 : decode cX11_lives 24 = .ok (.iinc 2 1, 3) := by decide +kernel
theorem dX11_lives_27 : decode cX11_lives 27 = .ok (.goto (-15), 3) := by decide +kernel
theorem dX11_lives_30 : decode cX11_lives 30 = .ok (.iconst 0, 1) := by decide +kernel
theorem dX11_lives_31 : decode cX11_lives 31 = .ok (.istore_n 2, 1) := by decide +kernel
theorem dX11_lives_32 : decode cX11_lives 32 = .ok (.iload_n 2, 1) := by decide +kernel
theorem dX11_lives_33 : decode cX11_lives 33 = .ok (.aload_n 0, 1) := by decide +kernel
theorem dX11_lives_34 : decode cX11_lives 34 = .ok (.getfield 7, 3) := by decide +kernel
theorem dX11_lives_37 : decode cX11_lives 37 = .ok (.bipush 6, 2) := by decide +kernel
theorem dX11_lives_39 : decode cX11_lives 39 = .ok (.iaload, 1) := by decide +kernel
theorem dX11_lives_40 : decode cX11_lives 40 = .ok (.if_icmp .ge 145, 3) := by decide +kernel
theorem dX11_lives_43 : decode cX11_lives 43 = .ok (.aload_n 0, 1) := by decide +kernel
theorem dX11_lives_44 : decode cX11_lives 44 = .ok (.getfield 490, 3) := by decide +kernel
theorem dX11_lives_47 : decode cX11_lives 47 = .ok (.sipush 300, 3) := by decide +kernel
theorem dX11_lives_50 : decode cX11_lives 50 = .ok (.if_icmp .ne 11, 3) := by decide +kernel
theorem dX11_lives_53 : decode cX11_lives 53 = .ok (.aload_n 0, 1) := by decide +kernel
theorem dX11_lives_54 : decode cX11_lives 54 = .ok (.getfield 68, 3) := by decide +kernel
theorem dX11_lives_57 : decode cX11_lives 57 = .ok (.iconst 4, 1) := by decide +kernel
theorem dX11_lives_58 : decode cX11_lives 58 = .ok (.iconst 1, 1) := by decide +kernel
theorem dX11_lives_59 : decode cX11_lives 59 = .ok (.iastore, 1) := by decide +kernel
theorem dX11_lives_60 : decode cX11_lives 60 = .ok (.return_, 1) := by decide +kernel
theorem dX11_lives_61 : decode cX11_lives 61 = .ok (.sipush 138, 3) := by decide +kernel
theorem dX11_lives_64 : decode cX11_lives 64 = .ok (.bipush 6, 2) := by decide +kernel
theorem dX11_lives_66 : decode cX11_lives 66 = .ok (.iload_n 2, 1) := by decide +kernel
theorem dX11_lives_67 : decode cX11_lives 67 = .ok (.imul, 1) := by decide +kernel
theorem dX11_lives_68 : decode cX11_lives 68 = .ok (.iadd, 1) := by decide +kernel
theorem dX11_lives_69 : decode cX11_lives 69 = .ok (.istore_n 3, 1) := by decide +kernel
theorem dX11_lives_70 : decode cX11_lives 70 = .ok (.aload_n 0, 1) := by decide +kernel
theorem dX11_lives_71 : decode cX11_lives 71 = .ok (.dup, 1) := by decide +kernel
theorem dX11_lives_72 : decode cX11_lives 72 = .ok (.getfield 490, 3) := by decide +kernel
theorem dX11_lives_75 : decode cX11_lives 75 = .ok (.iconst 1, 1) := by decide +kernel
theorem dX11_lives_76 : decode cX11_lives 76 = .ok (.iadd, 1) := by decide +kernel
theorem dX11_lives_77 : decode cX11_lives 77 = .ok (.putfield 490, 3) := by decide +kernel
theorem dX11_lives_80 : decode cX11_lives 80 = .ok (.aload_n 0, 1) := by decide +kernel
theorem dX11_lives_81 : decode cX11_lives 81 = .ok (.getfield 7, 3) := by decide +kernel
theorem dX11_lives_84 : decode cX11_lives 84 = .ok (.iload_n 3, 1) := by decide +kernel
theorem dX11_lives_85 : decode cX11_lives 85 = .ok (.iaload, 1) := by decide +kernel
theorem dX11_lives_86 : decode cX11_lives 86 = .ok (.bipush 24, 2) := by decide +kernel
theorem dX11_lives_88 : decode cX11_lives 88 = .ok (.if_icmp .ne 4, 3) := by decide +kernel
theorem dX11_lives_91 : decode cX11_lives 91 = .ok (.return_, 1) := by decide +kernel
theorem dX11_lives_92 : decode cX11_lives 92 = .ok (.aload_n 0, 1) := by decide +kernel
theorem dX11_lives_93 : decode cX11_lives 93 = .ok (.getfield 68, 3) := by decide +kernel
theorem dX11_lives_96 : decode cX11_lives 96 = .ok (.iconst 0, 1) := by decide +kernel
theorem dX11_lives_97 : decode cX11_lives 97 = .ok (.dup2, 1) := by decide +kernel
theorem dX11_lives_98 : decode cX11_lives 98 = .ok (.iaload, 1) := by decide +kernel
theorem dX11_lives_99 : decode cX11_lives 99 = .ok (.aload_n 0, 1) := by decide +kernel
theorem dX11_lives_100 : decode cX11_lives 100 = .ok (.iload_n 3, 1) := by decide +kernel
theorem dX11_lives_101 : decode cX11_lives 101 = .ok (.invokevirtual 493, 3) := by decide +kernel
theorem dX11_lives_104 : decode cX11_lives 104 = .ok (.ifCond .eq 7, 3) := by decide +kernel
theorem dX11_lives_107 : decode cX11_lives 107 = .ok (.iconst 0, 1) := by decide +kernel
theorem dX11_lives_108 : decode cX11_lives 108 = .ok (.goto 4, 3) := by decide +kernel
theorem dX11_lives_111 : decode cX11_lives 111 = .ok (.iconst 1, 1) := by decide +kernel
theorem dX11_lives_112 : decode cX11_lives 112 = .ok (.iadd, 1) := by decide +kernel
theorem dX11_lives_113 : decode cX11_lives 113 = .ok (.iastore, 1) := by decide +kernel
theorem dX11_lives_114 : decode cX11_lives 114 = .ok (.aload_n 0, 1) := by decide +kernel
theorem dX11_lives_115 : decode cX11_lives 115 = .ok (.getfield 7, 3) := by decide +kernel
theorem dX11_lives_118 : decode cX11_lives 118 = .ok (.iload_n 3, 1) := by decide +kernel
theorem dX11_lives_119 : decode cX11_lives 119 = .ok (.iaload, 1) := by decide +kernel
theorem dX11_lives_120 : decode cX11_lives 120 = .ok (.bipush 22, 2) := by decide +kernel
theorem dX11_lives_122 : decode cX11_lives 122 = .ok (.if_icmp .ne 19, 3) := by decide +kernel
theorem dX11_lives_125 : decode cX11_lives 125 = .ok (.aload_n 0, 1) := by decide +kernel
theorem dX11_lives_126 : decode cX11_lives 126 = .ok (.getfield 65, 3) := by decide +kernel
theorem dX11_lives_129 : decode cX11_lives 129 = .ok (.iload_n 2, 1) := by decide +kernel
theorem dX11_lives_130 : decode cX11_lives 130 = .ok (.aload_n 0, 1) := by decide +kernel
theorem dX11_lives_131 : decode cX11_lives 131 = .ok (.getfield 7, 3) := by decide +kernel
theorem dX11_lives_134 : decode cX11_lives 134 = .ok (.iload_n 3, 1) := by decide +kernel
theorem dX11_lives_135 : decode cX11_lives 135 = .ok (.iconst 1, 1) := by decide +kernel
theorem dX11_lives_136 : decode cX11_lives 136 = .ok (.iadd, 1) := by decide +kernel
theorem dX11_lives_137 : decode cX11_lives 137 = .ok (.iaload, 1) := by decide +kernel
theorem dX11_lives_138 : decode cX11_lives 138 = .ok (.iconst 1, 1) := by decide +kernel
theorem dX11_lives_139 : decode cX11_lives 139 = .ok (.isub, 1) := by decide +kernel
theorem dX11_lives_140 : decode cX11_lives 140 = .ok (.iastore, 1) := by decide +kernel
theorem dX11_lives_141 : decode cX11_lives 141 = .ok (.aload_n 0, 1) := by decide +kernel
theorem dX11_lives_142 : decode cX11_lives 142 = .ok (.aload_n 0, 1) := by decide +kernel
theorem dX11_lives_143 : decode cX11_lives 143 = .ok (.getfield 7, 3) := by decide +kernel
theorem dX11_lives_146 : decode cX11_lives 146 = .ok (.iload_n 3, 1) := by decide +kernel
theorem dX11_lives_147 : decode cX11_lives 147 = .ok (.iaload, 1) := by decide +kernel
theorem dX11_lives_148 : decode cX11_lives 148 = .ok (.sipush 2100, 3) := by decide +kernel
theorem dX11_lives_151 : decode cX11_lives 151 = .ok (.if_icmp .lt 24, 3) := by decide +kernel
theorem dX11_lives_154 : decode cX11_lives 154 = .ok (.aload_n 0, 1) := by decide +kernel
theorem dX11_lives_155 : decode cX11_lives 155 = .ok (.iload_n 3, 1) := by decide +kernel
theorem dX11_lives_156 : decode cX11_lives 156 = .ok (.invokevirtual 496, 3) := by decide +kernel
theorem dX11_lives_159 : decode cX11_lives 159 = .ok (.ifCond .ne 16, 3) := by decide +kernel
theorem dX11_lives_162 : decode cX11_lives 162 = .ok (.aload_n 0, 1) := by decide +kernel
theorem dX11_lives_163 : decode cX11_lives 163 = .ok (.getfield 7, 3) := by decide +kernel
theorem dX11_lives_166 : decode cX11_lives 166 = .ok (.iload_n 3, 1) := by decide +kernel
theorem dX11_lives_167 : decode cX11_lives 167 = .ok (.iconst 4, 1) := by decide +kernel
theorem dX11_lives_168 : decode cX11_lives 168 = .ok (.iadd, 1) := by decide +kernel
theorem dX11_lives_169 : decode cX11_lives 169 = .ok (.iaload, 1) := by decide +kernel
theorem dX11_lives_170 : decode cX11_lives 170 = .ok (.iconst 1, 1) := by decide +kernel
theorem dX11_lives_171 : decode cX11_lives 171 = .ok (.iadd, 1) := by decide +kernel
theorem dX11_lives_172 : decode cX11_lives 172 = .ok (.goto 6, 3) := by decide +kernel
theorem dX11_lives_175 : decode cX11_lives 175 = .ok (.iload_n 2, 1) := by decide +kernel
theorem dX11_lives_176 : decode cX11_lives 176 = .ok (.iconst 1, 1) := by decide +kernel
theorem dX11_lives_177 : decode cX11_lives 177 = .ok (.iadd, 1) := by decide +kernel
theorem dX11_lives_178 : decode cX11_lives 178 = .ok (.invokevirtual 499, 3) := by decide +kernel
theorem dX11_lives_181 : decode cX11_lives 181 = .ok (.istore_n 2, 1) := by decide +kernel
theorem dX11_lives_182 : decode cX11_lives 182 = .ok (.goto (-150), 3) := by decide +kernel
theorem dX11_lives_185 : decode cX11_lives 185 = .ok (.return_, 1) := by decide +kernel
set_option maxHeartbeats 4000000 in
set_option maxRecDepth 100000 in
theorem ctX11_lives {p1 : Int} {σ : jq_M} {σ' : jq_M}  (h : X11_lives p1 σ = some σ') : jq_MC jq_zM yX11_lives cX11_lives 4 none 9 212 [jR 0, jI p1] σ none σ' := by
  refine jq_met (own := RX11) (L0 := [(0, jR 0), (1, jI p1)]) (by decide) rfl rfl rfl ?_
  intro X Γ hnl hlY hRT
  refine jq_use2 (P := fun r => jq_RT jq_zM X none none r) ?_ h hRT
  intro K0 hK0
  unfold X11_lives
  refine jq_aload_n Γ dX11_lives_0 rfl 0 rfl (jq_at_0 at_M_0) ?_
  refine jq_iload_n Γ dX11_lives_1 rfl 1 rfl ?_
  refine jq_putI Γ at_M_0 fl_RX11_465 rfl rfl dX11_lives_2 (fun s1 => ?_)
  refine jq_aload_n Γ dX11_lives_5 rfl 0 rfl (jq_at_0 at_M_0) ?_
  refine jq_iconst Γ dX11_lives_6 rfl ?_
  refine jq_putI Γ at_M_0 fl_RX11_490 rfl rfl dX11_lives_7 (fun s2 => ?_)
  refine jq_iconst Γ dX11_lives_10 rfl ?_
  refine jq_istore_n (L' := [(2, jI 0), (0, jR 0), (1, jI p1)]) Γ dX11_lives_11 rfl hnl rfl rfl ?_
  refine jq_sub Γ (L' := [(0, jR 0), (2, jI 0)]) [1, 0] rfl ?_
  refine jq_loop2 (C := fun (t3 : Int × jq_M) => jq_V jq_zM X (jq_zN jq_zM) t3.2 12 [(0, jR 0), (2, jI t3.1)] []) (KX := fun (e6 : jq_M) => jq_V jq_zM X (jq_zN jq_zM) e6 30 [(0, jR 0)] []) ?_ ?_ (0, s2)
  · intro K12_t3 hCt3 hXt3 t3
    unfold X11_lives_b12
    refine jq_iload_n Γ dX11_lives_12 rfl 1 rfl ?_
    refine jq_iconst Γ dX11_lives_13 rfl ?_
    refine jq_icmp_ge (tgt := 30) Γ dX11_lives_14 rfl ?_ ?_
    · refine jq_sub Γ (L' := [(0, jR 0)]) [0] rfl ?_
      exact jq_done (hXt3 t3.2)
    · refine jq_aload_n Γ dX11_lives_17 rfl 0 rfl (jq_at_0 at_M_0) ?_
      refine jq_getR (v := 16) Γ hlY at_M_0 fl_RX11_68 rfl rfl ly_X11_ran dX11_lives_18 ?_
      refine jq_iload_n Γ dX11_lives_21 rfl 1 rfl ?_
      refine jq_iconst Γ dX11_lives_22 rfl ?_
      refine jq_iast Γ at_M_16 rfl dX11_lives_23 (fun s4 => ?_)
      refine jq_iincN (L' := fun v5 => [(2, jI v5), (0, jR 0)]) Γ dX11_lives_24 1 rfl hnl rfl (fun _ => rfl) (fun v5 => ?_)
      refine jq_goto Γ (tgt := 12) dX11_lives_27 rfl ?_
      refine jq_sub Γ (L' := [(0, jR 0), (2, jI v5)]) [1, 0] rfl ?_
      exact jq_done (hCt3 (v5, s4))
  · intro e6
    refine jq_iconst Γ dX11_lives_30 rfl ?_
    refine jq_istore_n (L' := [(2, jI 0), (0, jR 0)]) Γ dX11_lives_31 rfl hnl rfl rfl ?_
    refine jq_sub Γ (L' := [(0, jR 0), (2, jI 0)]) [1, 0] rfl ?_
    refine jq_loop2 (C := fun (t7 : Int × jq_M) => jq_V jq_zM X (jq_zN jq_zM) t7.2 32 [(0, jR 0), (2, jI t7.1)] []) (KX := Sum.elim (fun (e42 : jq_M) => jq_V jq_zM X (jq_zN jq_zM) e42 53 [(0, jR 0)] []) (Sum.elim (fun (e44 : jq_M) => jq_V jq_zM X (jq_zN jq_zM) e44 91 [] []) (fun (e45 : jq_M) => jq_V jq_zM X (jq_zN jq_zM) e45 185 [] []))) ?_ ?_ (0, e6)
    · intro K32_t7 hCt7 hXt7 t7
      unfold X11_lives_b32
      have hj178_1016 : ∀ (j32 : Int) (s33 : jq_M), jq_J (X11_lives_j178 j32 s33) K32_t7 (jq_V jq_zM X (jq_zN jq_zM) s33 178 [(0, jR 0)] [jI j32, jR 0]) := by
        intro j32 s33
        unfold X11_lives_j178
        refine jq_cwI (jq_virt (avs := [jI j32]) (st := []) Γ hlY rfl ml_RX11_499 rfl at_M_0 rfl rfl rfl rfl rfl dX11_lives_178) (fun r σ' h => ctX11_behindEnds h) (fun v34 s35 => ?_)
        refine jq_istore_n (L' := [(2, jI v34), (0, jR 0)]) Γ dX11_lives_181 rfl hnl rfl rfl ?_
        refine jq_goto Γ (tgt := 32) dX11_lives_182 rfl ?_
        refine jq_sub Γ (L' := [(0, jR 0), (2, jI v34)]) [1, 0] rfl ?_
        exact jq_done (hCt7 (v34, s35))
      have hj175_1016 : ∀ (j30 : Int) (s31 : jq_M), jq_J (X11_lives_j175 j30 s31) K32_t7 (jq_V jq_zM X (jq_zN jq_zM) s31 175 [(0, jR 0), (2, jI j30)] [jR 0]) := by
        intro j30 s31
        unfold X11_lives_j175
        refine jq_iload_n Γ dX11_lives_175 rfl 1 rfl ?_
        refine jq_iconst Γ dX11_lives_176 rfl ?_
        refine jq_iadd Γ dX11_lives_177 ?_
        refine jq_sub Γ (L' := [(0, jR 0)]) [0] rfl ?_
        exact hj178_1016 (jq_w (j30 + 1)) s31
      have hj141_1016 : ∀ (j26 : Int) (j27 : Int) (s28 : jq_M), jq_J (X11_lives_j141 j26 j27 s28) K32_t7 (jq_V jq_zM X (jq_zN jq_zM) s28 141 [(0, jR 0), (2, jI j26), (3, jI j27)] []) := by
        intro j26 j27 s28
        unfold X11_lives_j141
        refine jq_aload_n Γ dX11_lives_141 rfl 0 rfl (jq_at_0 at_M_0) ?_
        refine jq_aload_n Γ dX11_lives_142 rfl 0 rfl (jq_at_0 at_M_0) ?_
        refine jq_getR (v := 1) Γ hlY at_M_0 fl_RX11_7 rfl rfl ly_X11_at dX11_lives_143 ?_
        refine jq_iload_n Γ dX11_lives_146 rfl 2 rfl ?_
        refine jq_iald Γ at_M_1 rfl dX11_lives_147 (fun v29 => ?_)
        refine jq_sipush Γ dX11_lives_148 rfl ?_
        refine jq_icmp_lt (tgt := 175) Γ dX11_lives_151 rfl ?_ ?_
        · refine jq_sub Γ (L' := [(0, jR 0), (2, jI j26)]) [0, 1] rfl ?_
          exact hj175_1016 j26 s28
        · refine jq_aload_n Γ dX11_lives_154 rfl 0 rfl (jq_at_0 at_M_0) ?_
          refine jq_iload_n Γ dX11_lives_155 rfl 2 rfl ?_
          refine jq_cwZ (jq_virt (avs := [jI j27]) (st := [jR 0]) Γ hlY rfl ml_RX11_496 rfl at_M_0 rfl rfl rfl rfl rfl dX11_lives_156) rfl (fun r σ' h => ctX11_holds h) (fun v36 s37 hz38 => ?_)
          refine jq_if_ne (tgt := 175) Γ dX11_lives_159 rfl ?_ ?_
          · refine jq_sub Γ (L' := [(0, jR 0), (2, jI j26)]) [0, 1] rfl ?_
            exact hj175_1016 j26 s37
          · refine jq_aload_n Γ dX11_lives_162 rfl 0 rfl (jq_at_0 at_M_0) ?_
            refine jq_getR (v := 1) Γ hlY at_M_0 fl_RX11_7 rfl rfl ly_X11_at dX11_lives_163 ?_
            refine jq_iload_n Γ dX11_lives_166 rfl 2 rfl ?_
            refine jq_iconst Γ dX11_lives_167 rfl ?_
            refine jq_iadd Γ dX11_lives_168 ?_
            refine jq_iald Γ at_M_1 rfl dX11_lives_169 (fun v39 => ?_)
            refine jq_iconst Γ dX11_lives_170 rfl ?_
            refine jq_iadd Γ dX11_lives_171 ?_
            refine jq_goto Γ (tgt := 178) dX11_lives_172 rfl ?_
            refine jq_sub Γ (L' := [(0, jR 0)]) [0] rfl ?_
            exact hj178_1016 (jq_w (v39 + 1)) s37
      have hj112_1016 : ∀ (j16 : Int) (j17 : Int) (j18 : Int) (j20 : Int) (j21 : Int) (s23 : jq_M) (hz19 : j18 = 0 ∨ j18 = 1) (hz22 : j21 = 0 ∨ j21 = 1), jq_J (X11_lives_j112 j16 j17 j18 j20 j21 s23) K32_t7 (jq_V jq_zM X (jq_zN jq_zM) s23 112 [(0, jR 0), (2, jI j16), (3, jI j17)] [jI j21, jI j20, jI j18, jR 16]) := by
        intro j16 j17 j18 j20 j21 s23 hz19 hz22
        unfold X11_lives_j112
        refine jq_iadd Γ dX11_lives_112 ?_
        refine jq_iast Γ at_M_16 rfl dX11_lives_113 (fun s24 => ?_)
        refine jq_aload_n Γ dX11_lives_114 rfl 0 rfl (jq_at_0 at_M_0) ?_
        refine jq_getR (v := 1) Γ hlY at_M_0 fl_RX11_7 rfl rfl ly_X11_at dX11_lives_115 ?_
        refine jq_iload_n Γ dX11_lives_118 rfl 2 rfl ?_
        refine jq_iald Γ at_M_1 rfl dX11_lives_119 (fun v25 => ?_)
        refine jq_bipush Γ dX11_lives_120 rfl ?_
        refine jq_icmp_ne (tgt := 141) Γ dX11_lives_122 rfl ?_ ?_
        · exact hj141_1016 j16 j17 s24
        · refine jq_aload_n Γ dX11_lives_125 rfl 0 rfl (jq_at_0 at_M_0) ?_
          refine jq_getR (v := 15) Γ hlY at_M_0 fl_RX11_65 rfl rfl ly_X11_loops dX11_lives_126 ?_
          refine jq_iload_n Γ dX11_lives_129 rfl 1 rfl ?_
          refine jq_aload_n Γ dX11_lives_130 rfl 0 rfl (jq_at_0 at_M_0) ?_
          refine jq_getR (v := 1) Γ hlY at_M_0 fl_RX11_7 rfl rfl ly_X11_at dX11_lives_131 ?_
          refine jq_iload_n Γ dX11_lives_134 rfl 2 rfl ?_
          refine jq_iconst Γ dX11_lives_135 rfl ?_
          refine jq_iadd Γ dX11_lives_136 ?_
          refine jq_iald Γ at_M_1 rfl dX11_lives_137 (fun v40 => ?_)
          refine jq_iconst Γ dX11_lives_138 rfl ?_
          refine jq_isub Γ dX11_lives_139 ?_
          refine jq_iast Γ at_M_15 rfl dX11_lives_140 (fun s41 => ?_)
          exact hj141_1016 j16 j17 s41
      refine jq_iload_n Γ dX11_lives_32 rfl 1 rfl ?_
      refine jq_aload_n Γ dX11_lives_33 rfl 0 rfl (jq_at_0 at_M_0) ?_
      refine jq_getR (v := 1) Γ hlY at_M_0 fl_RX11_7 rfl rfl ly_X11_at dX11_lives_34 ?_
      refine jq_bipush Γ dX11_lives_37 rfl ?_
      refine jq_iald Γ at_M_1 rfl dX11_lives_39 (fun v8 => ?_)
      refine jq_icmp_ge (tgt := 185) Γ dX11_lives_40 rfl ?_ ?_
      · refine jq_sub Γ (L' := []) [] rfl ?_
        exact jq_done (hXt7 (.inr (.inr t7.2)))
      · refine jq_aload_n Γ dX11_lives_43 rfl 0 rfl (jq_at_0 at_M_0) ?_
        refine jq_getI (J := 31) Γ at_M_0 fl_RX11_490 rfl rfl dX11_lives_44 ?_
        refine jq_sipush Γ dX11_lives_47 rfl ?_
        refine jq_icmp_ne (tgt := 61) Γ dX11_lives_50 rfl ?_ ?_
        · refine jq_sipush Γ dX11_lives_61 rfl ?_
          refine jq_bipush Γ dX11_lives_64 rfl ?_
          refine jq_iload_n Γ dX11_lives_66 rfl 1 rfl ?_
          refine jq_imul Γ dX11_lives_67 ?_
          refine jq_iadd Γ dX11_lives_68 ?_
          refine jq_nmI (fun v9 => ?_)
          refine jq_istore_n (L' := [(3, jI v9), (0, jR 0), (2, jI t7.1)]) Γ dX11_lives_69 rfl hnl rfl rfl ?_
          refine jq_aload_n Γ dX11_lives_70 rfl 1 rfl (jq_at_0 at_M_0) ?_
          refine jq_dup Γ dX11_lives_71 rfl ?_
          refine jq_getI (J := 31) Γ at_M_0 fl_RX11_490 rfl rfl dX11_lives_72 ?_
          refine jq_iconst Γ dX11_lives_75 rfl ?_
          refine jq_iadd Γ dX11_lives_76 ?_
          refine jq_putI Γ at_M_0 fl_RX11_490 rfl rfl dX11_lives_77 (fun s10 => ?_)
          refine jq_aload_n Γ dX11_lives_80 rfl 1 rfl (jq_at_0 at_M_0) ?_
          refine jq_getR (v := 1) Γ hlY at_M_0 fl_RX11_7 rfl rfl ly_X11_at dX11_lives_81 ?_
          refine jq_iload_n Γ dX11_lives_84 rfl 0 rfl ?_
          refine jq_iald Γ at_M_1 rfl dX11_lives_85 (fun v11 => ?_)
          refine jq_bipush Γ dX11_lives_86 rfl ?_
          refine jq_icmp_ne (tgt := 92) Γ dX11_lives_88 rfl ?_ ?_
          · refine jq_aload_n Γ dX11_lives_92 rfl 1 rfl (jq_at_0 at_M_0) ?_
            refine jq_getR (v := 16) Γ hlY at_M_0 fl_RX11_68 rfl rfl ly_X11_ran dX11_lives_93 ?_
            refine jq_iconst Γ dX11_lives_96 rfl ?_
            refine jq_dup2 Γ dX11_lives_97 rfl rfl ?_
            refine jq_iald Γ at_M_16 rfl dX11_lives_98 (fun v12 => ?_)
            refine jq_aload_n Γ dX11_lives_99 rfl 1 rfl (jq_at_0 at_M_0) ?_
            refine jq_iload_n Γ dX11_lives_100 rfl 0 rfl ?_
            refine jq_cwZ (jq_virt (avs := [jI v9]) (st := [jI v12, jI 0, jR 16]) Γ hlY rfl ml_RX11_493 rfl at_M_0 rfl rfl rfl rfl rfl dX11_lives_101) rfl (fun r σ' h => ctX11_does h) (fun v13 s14 hz15 => ?_)
            refine jq_if_eq (tgt := 111) Γ dX11_lives_104 rfl ?_ ?_
            · refine jq_iconst Γ dX11_lives_111 rfl ?_
              refine jq_sub Γ (L' := [(0, jR 0), (2, jI t7.1), (3, jI v9)]) [1, 2, 0] rfl ?_
              exact hj112_1016 t7.1 v9 0 v12 1 s14 (Or.inl rfl) (Or.inr rfl)
            · refine jq_iconst Γ dX11_lives_107 rfl ?_
              refine jq_goto Γ (tgt := 112) dX11_lives_108 rfl ?_
              refine jq_sub Γ (L' := [(0, jR 0), (2, jI t7.1), (3, jI v9)]) [1, 2, 0] rfl ?_
              exact hj112_1016 t7.1 v9 0 v12 0 s14 (Or.inl rfl) (Or.inl rfl)
          · refine jq_sub Γ (L' := []) [] rfl ?_
            exact jq_done (hXt7 (.inr (.inl s10)))
        · refine jq_sub Γ (L' := [(0, jR 0)]) [0] rfl ?_
          exact jq_done (hXt7 (.inl t7.2))
    · refine jq_elim ?_ ?_
      · intro e42
        refine jq_aload_n Γ dX11_lives_53 rfl 0 rfl (jq_at_0 at_M_0) ?_
        refine jq_getR (v := 16) Γ hlY at_M_0 fl_RX11_68 rfl rfl ly_X11_ran dX11_lives_54 ?_
        refine jq_iconst Γ dX11_lives_57 rfl ?_
        refine jq_iconst Γ dX11_lives_58 rfl ?_
        refine jq_iast Γ at_M_16 rfl dX11_lives_59 (fun s43 => ?_)
        exact jq_vreturn Γ dX11_lives_60 (hK0 _)
      · refine jq_elim ?_ ?_
        · intro e44
          exact jq_vreturn Γ dX11_lives_91 (hK0 _)
        · intro e45
          exact jq_vreturn Γ dX11_lives_185 (hK0 _)


theorem dX11_live_0 : decode cX11_live 0 = .ok (.iload_n 1, 1) := by decide +kernel
theorem dX11_live_1 : decode cX11_live 1 = .ok (.i2l, 1) := by decide +kernel
theorem dX11_live_2 : decode cX11_live 2 = .ok (.lconst 0, 1) := by decide +kernel
theorem dX11_live_3 : decode cX11_live 3 = .ok (.ldc2_w 502, 3) := by decide +kernel
theorem dX11_live_6 : decode cX11_live 6 = .ok (.invokestatic 343, 3) := by decide +kernel
theorem dX11_live_9 : decode cX11_live 9 = .ok (.ifCond .ne 9, 3) := by decide +kernel
theorem dX11_live_12 : decode cX11_live 12 = .ok (.aload_n 0, 1) := by decide +kernel
theorem dX11_live_13 : decode cX11_live 13 = .ok (.iconst 1, 1) := by decide +kernel
theorem dX11_live_14 : decode cX11_live 14 = .ok (.invokevirtual 84, 3) := by decide +kernel
theorem dX11_live_17 : decode cX11_live 17 = .ok (.ireturn, 1) := by decide +kernel
theorem dX11_live_18 : decode cX11_live 18 = .ok (.aload_n 0, 1) := by decide +kernel
theorem dX11_live_19 : decode cX11_live 19 = .ok (.getfield 7, 3) := by decide +kernel
theorem dX11_live_22 : decode cX11_live 22 = .ok (.bipush 6, 2) := by decide +kernel
theorem dX11_live_24 : decode cX11_live 24 = .ok (.iaload, 1) := by decide +kernel
theorem dX11_live_25 : decode cX11_live 25 = .ok (.iconst (-1), 1) := by decide +kernel
theorem dX11_live_26 : decode cX11_live 26 = .ok (.if_icmp .ne 10, 3) := by decide +kernel
theorem dX11_live_29 : decode cX11_live 29 = .ok (.aload_n 0, 1) := by decide +kernel
theorem dX11_live_30 : decode cX11_live 30 = .ok (.bipush 6, 2) := by decide +kernel
theorem dX11_live_32 : decode cX11_live 32 = .ok (.invokevirtual 84, 3) := by decide +kernel
theorem dX11_live_35 : decode cX11_live 35 = .ok (.ireturn, 1) := by decide +kernel
theorem dX11_live_36 : decode cX11_live 36 = .ok (.aload_n 0, 1) := by decide +kernel
theorem dX11_live_37 : decode cX11_live 37 = .ok (.iload_n 1, 1) := by decide +kernel
theorem dX11_live_38 : decode cX11_live 38 = .ok (.invokevirtual 504, 3) := by decide +kernel
theorem dX11_live_41 : decode cX11_live 41 = .ok (.iconst 0, 1) := by decide +kernel
theorem dX11_live_42 : decode cX11_live 42 = .ok (.istore_n 2, 1) := by decide +kernel
theorem dX11_live_43 : decode cX11_live 43 = .ok (.iload_n 2, 1) := by decide +kernel
theorem dX11_live_44 : decode cX11_live 44 = .ok (.iconst 5, 1) := by decide +kernel
theorem dX11_live_45 : decode cX11_live 45 = .ok (.if_icmp .ge 21, 3) := by decide +kernel
theorem dX11_live_48 : decode cX11_live 48 = .ok (.aload_n 0, 1) := by decide +kernel
theorem dX11_live_49 : decode cX11_live 49 = .ok (.getfield 71, 3) := by decide +kernel
theorem dX11_live_52 : decode cX11_live 52 = .ok (.iload_n 2, 1) := by decide +kernel
theorem dX11_live_53 : decode cX11_live 53 = .ok (.aload_n 0, 1) := by decide +kernel
theorem dX11_live_54 : decode cX11_live 54 = .ok (.getfield 68, 3) := by decide +kernel
theorem dX11_live_57 : decode cX11_live 57 = .ok (.iload_n 2, 1) := by decide +kernel
theorem dX11_live_58 : decode cX11_live 58 = .ok (.iaload, 1) := by decide +kernel
theorem dX11_live_59 : decode cX11_live 59 = .ok (.iastore, 1) := by decide +kernel
theorem dX11_live_60 : decode cX11_live 60 = .ok (.iinc 2 1, 3) := by decide +kernel
theorem dX11_live_63 : decode cX11_live 63 = .ok (.goto (-20), 3) := by decide +kernel
theorem dX11_live_66 : decode cX11_live 66 = .ok (.aload_n 0, 1) := by decide +kernel
theorem dX11_live_67 : decode cX11_live 67 = .ok (.iconst 1, 1) := by decide +kernel
theorem dX11_live_68 : decode cX11_live 68 = .ok (.putfield 507, 3) := by decide +kernel
theorem dX11_live_71 : decode cX11_live 71 = .ok (.aload_n 0, 1) := by decide +kernel
theorem dX11_live_72 : decode cX11_live 72 = .ok (.aload_n 0, 1) := by decide +kernel
theorem dX11_live_73 : decode cX11_live 73 = .ok (.getfield 490, 3) := by decide +kernel
theorem dX11_live_76 : decode cX11_live 76 = .ok (.invokevirtual 88, 3) := by decide +kernel
theorem dX11_live_79 : decode cX11_live 79 = .ok (.ireturn, 1) := by decide +kernel
set_option maxHeartbeats 4000000 in
set_option maxRecDepth 100000 in
theorem ctX11_live {p1 : Int} {σ : jq_M} {res : Int} {σ' : jq_M}  (h : X11_live p1 σ = some (res, σ')) : jq_MC jq_zM yX11_live cX11_live 3 (some .int) 10 235 [jR 0, jI p1] σ (some (jI res)) σ' := by
  refine jq_met (own := RX11) (L0 := [(0, jR 0), (1, jI p1)]) (by decide) rfl rfl rfl ?_
  intro X Γ hnl hlY hRT
  refine jq_use2 (P := fun r => jq_RT jq_zM X (some .int) (some (jI r.1)) r.2) ?_ h hRT
  intro K0 hK0
  unfold X11_live
  refine jq_iload_n Γ dX11_live_0 rfl 1 rfl ?_
  refine jq_i2l Γ dX11_live_1 ?_
  refine jq_lconst Γ 0 dX11_live_2 rfl rfl ?_
  refine jq_ldc2 Γ 9999 dX11_live_3 kc_RX11_502 rfl ?_
  refine jq_cpZ (jq_stat (avs := [jL p1, jL 0, jL 9999]) (st := []) Γ hlY rfl ml_RX11_343 rfl rfl rfl rfl rfl dX11_live_6) rfl (fun r h => ctX11_isFrom h) (fun v1 hz2 => ?_)
  refine jq_if_ne (tgt := 18) Γ dX11_live_9 rfl ?_ ?_
  · refine jq_aload_n Γ dX11_live_18 rfl 0 rfl (jq_at_0 at_M_0) ?_
    refine jq_getR (v := 1) Γ hlY at_M_0 fl_RX11_7 rfl rfl ly_X11_at dX11_live_19 ?_
    refine jq_bipush Γ dX11_live_22 rfl ?_
    refine jq_iald Γ at_M_1 rfl dX11_live_24 (fun v3 => ?_)
    refine jq_iconst Γ dX11_live_25 rfl ?_
    refine jq_icmp_ne (tgt := 36) Γ dX11_live_26 rfl ?_ ?_
    · refine jq_aload_n Γ dX11_live_36 rfl 0 rfl (jq_at_0 at_M_0) ?_
      refine jq_iload_n Γ dX11_live_37 rfl 1 rfl ?_
      refine jq_cwV (jq_virt (avs := [jI p1]) (st := []) Γ hlY rfl ml_RX11_504 rfl at_M_0 rfl rfl rfl rfl rfl dX11_live_38) (fun σ' h => ctX11_lives h) (fun s4 => ?_)
      refine jq_iconst Γ dX11_live_41 rfl ?_
      refine jq_istore_n (L' := [(2, jI 0), (0, jR 0), (1, jI p1)]) Γ dX11_live_42 rfl hnl rfl rfl ?_
      refine jq_sub Γ (L' := [(0, jR 0), (2, jI 0)]) [1, 0] rfl ?_
      refine jq_loop2 (C := fun (t5 : Int × jq_M) => jq_V jq_zM X (jq_zN jq_zM) t5.2 43 [(0, jR 0), (2, jI t5.1)] []) (KX := fun (e9 : jq_M) => jq_V jq_zM X (jq_zN jq_zM) e9 66 [(0, jR 0)] []) ?_ ?_ (0, s4)
      · intro K43_t5 hCt5 hXt5 t5
        unfold X11_live_b43
        refine jq_iload_n Γ dX11_live_43 rfl 1 rfl ?_
        refine jq_iconst Γ dX11_live_44 rfl ?_
        refine jq_icmp_ge (tgt := 66) Γ dX11_live_45 rfl ?_ ?_
        · refine jq_sub Γ (L' := [(0, jR 0)]) [0] rfl ?_
          exact jq_done (hXt5 t5.2)
        · refine jq_aload_n Γ dX11_live_48 rfl 0 rfl (jq_at_0 at_M_0) ?_
          refine jq_getR (v := 17) Γ hlY at_M_0 fl_RX11_71 rfl rfl ly_X11_told1 dX11_live_49 ?_
          refine jq_iload_n Γ dX11_live_52 rfl 1 rfl ?_
          refine jq_aload_n Γ dX11_live_53 rfl 0 rfl (jq_at_0 at_M_0) ?_
          refine jq_getR (v := 16) Γ hlY at_M_0 fl_RX11_68 rfl rfl ly_X11_ran dX11_live_54 ?_
          refine jq_iload_n Γ dX11_live_57 rfl 1 rfl ?_
          refine jq_iald Γ at_M_16 rfl dX11_live_58 (fun v6 => ?_)
          refine jq_iast Γ at_M_17 rfl dX11_live_59 (fun s7 => ?_)
          refine jq_iincN (L' := fun v8 => [(2, jI v8), (0, jR 0)]) Γ dX11_live_60 1 rfl hnl rfl (fun _ => rfl) (fun v8 => ?_)
          refine jq_goto Γ (tgt := 43) dX11_live_63 rfl ?_
          refine jq_sub Γ (L' := [(0, jR 0), (2, jI v8)]) [1, 0] rfl ?_
          exact jq_done (hCt5 (v8, s7))
      · intro e9
        refine jq_aload_n Γ dX11_live_66 rfl 0 rfl (jq_at_0 at_M_0) ?_
        refine jq_iconst Γ dX11_live_67 rfl ?_
        refine jq_putZ Γ at_M_0 fl_RX11_507 rfl rfl (Or.inr rfl) dX11_live_68 (fun s10 => ?_)
        refine jq_aload_n Γ dX11_live_71 rfl 0 rfl (jq_at_0 at_M_0) ?_
        refine jq_aload_n Γ dX11_live_72 rfl 0 rfl (jq_at_0 at_M_0) ?_
        refine jq_getI (J := 31) Γ at_M_0 fl_RX11_490 rfl rfl dX11_live_73 ?_
        refine jq_cwI (jq_virt (avs := [jI (s10 0 31)]) (st := []) Γ hlY rfl ml_RX11_88 rfl at_M_0 rfl rfl rfl rfl rfl dX11_live_76) (fun r σ' h => ctX11_gives h) (fun v11 s12 => ?_)
        exact jq_ireturn Γ dX11_live_79 (hK0 _)
    · refine jq_aload_n Γ dX11_live_29 rfl 0 rfl (jq_at_0 at_M_0) ?_
      refine jq_bipush Γ dX11_live_30 rfl ?_
      refine jq_cwI (jq_virt (avs := [jI 6]) (st := []) Γ hlY rfl ml_RX11_84 rfl at_M_0 rfl rfl rfl rfl rfl dX11_live_32) (fun r σ' h => ctX11_refuse h) (fun v13 s14 => ?_)
      exact jq_ireturn Γ dX11_live_35 (hK0 _)
  · refine jq_aload_n Γ dX11_live_12 rfl 0 rfl (jq_at_0 at_M_0) ?_
    refine jq_iconst Γ dX11_live_13 rfl ?_
    refine jq_cwI (jq_virt (avs := [jI 1]) (st := []) Γ hlY rfl ml_RX11_84 rfl at_M_0 rfl rfl rfl rfl rfl dX11_live_14) (fun r σ' h => ctX11_refuse h) (fun v15 s16 => ?_)
    exact jq_ireturn Γ dX11_live_17 (hK0 _)


theorem dX11_lived_0 : decode cX11_lived 0 = .ok (.iload_n 1, 1) := by decide +kernel
theorem dX11_lived_1 : decode cX11_lived 1 = .ok (.ifCond .lt 8, 3) := by decide +kernel
theorem dX11_lived_4 : decode cX11_lived 4 = .ok (.iload_n 1, 1) := by decide +kernel
theorem dX11_lived_5 : decode cX11_lived 5 = .ok (.iconst 4, 1) := by decide +kernel
theorem dX11_lived_6 : decode cX11_lived 6 = .ok (.if_icmp .le 11, 3) := by decide +kernel
theorem dX11_lived_9 : decode cX11_lived 9 = .ok (.aload_n 0, 1) := by decide +kernel
theorem dX11_lived_10 : decode cX11_lived 10 = .ok (.iconst 1, 1) := by decide +kernel
theorem dX11_lived_11 : decode cX11_lived 11 = .ok (.invokevirtual 84, 3) := by decide +kernel
theorem dX11_lived_14 : decode cX11_lived 14 = .ok (.goto 29, 3) := by decide +kernel
theorem dX11_lived_17 : decode cX11_lived 17 = .ok (.aload_n 0, 1) := by decide +kernel
theorem dX11_lived_18 : decode cX11_lived 18 = .ok (.getfield 507, 3) := by decide +kernel
theorem dX11_lived_21 : decode cX11_lived 21 = .ok (.ifCond .eq 16, 3) := by decide +kernel
theorem dX11_lived_24 : decode cX11_lived 24 = .ok (.aload_n 0, 1) := by decide +kernel
theorem dX11_lived_25 : decode cX11_lived 25 = .ok (.aload_n 0, 1) := by decide +kernel
theorem dX11_lived_26 : decode cX11_lived 26 = .ok (.getfield 71, 3) := by decide +kernel
theorem dX11_lived_29 : decode cX11_lived 29 = .ok (.iload_n 1, 1) := by decide +kernel
theorem dX11_lived_30 : decode cX11_lived 30 = .ok (.iaload, 1) := by decide +kernel
theorem dX11_lived_31 : decode cX11_lived 31 = .ok (.invokevirtual 88, 3) := by decide +kernel
theorem dX11_lived_34 : decode cX11_lived 34 = .ok (.goto 9, 3) := by decide +kernel
theorem dX11_lived_37 : decode cX11_lived 37 = .ok (.aload_n 0, 1) := by decide +kernel
theorem dX11_lived_38 : decode cX11_lived 38 = .ok (.bipush 6, 2) := by decide +kernel
theorem dX11_lived_40 : decode cX11_lived 40 = .ok (.invokevirtual 84, 3) := by decide +kernel
theorem dX11_lived_43 : decode cX11_lived 43 = .ok (.ireturn, 1) := by decide +kernel
set_option maxHeartbeats 4000000 in
set_option maxRecDepth 100000 in
theorem ctX11_lived {p1 : Int} {σ : jq_M} {res : Int} {σ' : jq_M}  (h : X11_lived p1 σ = some (res, σ')) : jq_MC jq_zM yX11_lived cX11_lived 2 (some .int) 2 61 [jR 0, jI p1] σ (some (jI res)) σ' := by
  refine jq_met (own := RX11) (L0 := [(0, jR 0), (1, jI p1)]) (by decide) rfl rfl rfl ?_
  intro X Γ hnl hlY hRT
  refine jq_use2 (P := fun r => jq_RT jq_zM X (some .int) (some (jI r.1)) r.2) ?_ h hRT
  intro K0 hK0
  unfold X11_lived
  have hj9_0 : ∀ (s1 : jq_M), jq_J (X11_lived_j9 s1) K0 (jq_V jq_zM X (jq_zN jq_zM) s1 9 [(0, jR 0)] []) := by
    intro s1
    unfold X11_lived_j9
    refine jq_aload_n Γ dX11_lived_9 rfl 0 rfl (jq_at_0 at_M_0) ?_
    refine jq_iconst Γ dX11_lived_10 rfl ?_
    refine jq_cwI (jq_virt (avs := [jI 1]) (st := []) Γ hlY rfl ml_RX11_84 rfl at_M_0 rfl rfl rfl rfl rfl dX11_lived_11) (fun r σ' h => ctX11_refuse h) (fun v2 s3 => ?_)
    refine jq_goto Γ (tgt := 43) dX11_lived_14 rfl ?_
    exact jq_ireturn Γ dX11_lived_43 (hK0 _)
  refine jq_iload_n Γ dX11_lived_0 rfl 1 rfl ?_
  refine jq_if_lt (tgt := 9) Γ dX11_lived_1 rfl ?_ ?_
  · refine jq_sub Γ (L' := [(0, jR 0)]) [0] rfl ?_
    exact hj9_0 σ
  · refine jq_iload_n Γ dX11_lived_4 rfl 1 rfl ?_
    refine jq_iconst Γ dX11_lived_5 rfl ?_
    refine jq_icmp_le (tgt := 17) Γ dX11_lived_6 rfl ?_ ?_
    · refine jq_aload_n Γ dX11_lived_17 rfl 0 rfl (jq_at_0 at_M_0) ?_
      refine jq_getZ (J := 35) Γ at_M_0 fl_RX11_507 rfl rfl dX11_lived_18 (fun v4 hz5 => ?_)
      refine jq_if_eq (tgt := 37) Γ dX11_lived_21 rfl ?_ ?_
      · refine jq_aload_n Γ dX11_lived_37 rfl 0 rfl (jq_at_0 at_M_0) ?_
        refine jq_bipush Γ dX11_lived_38 rfl ?_
        refine jq_cwI (jq_virt (avs := [jI 6]) (st := []) Γ hlY rfl ml_RX11_84 rfl at_M_0 rfl rfl rfl rfl rfl dX11_lived_40) (fun r σ' h => ctX11_refuse h) (fun v6 s7 => ?_)
        exact jq_ireturn Γ dX11_lived_43 (hK0 _)
      · refine jq_aload_n Γ dX11_lived_24 rfl 0 rfl (jq_at_0 at_M_0) ?_
        refine jq_aload_n Γ dX11_lived_25 rfl 0 rfl (jq_at_0 at_M_0) ?_
        refine jq_getR (v := 17) Γ hlY at_M_0 fl_RX11_71 rfl rfl ly_X11_told1 dX11_lived_26 ?_
        refine jq_iload_n Γ dX11_lived_29 rfl 1 rfl ?_
        refine jq_iald Γ at_M_17 rfl dX11_lived_30 (fun v8 => ?_)
        refine jq_cwI (jq_virt (avs := [jI v8]) (st := []) Γ hlY rfl ml_RX11_88 rfl at_M_0 rfl rfl rfl rfl rfl dX11_lived_31) (fun r σ' h => ctX11_gives h) (fun v9 s10 => ?_)
        refine jq_goto Γ (tgt := 43) dX11_lived_34 rfl ?_
        exact jq_ireturn Γ dX11_lived_43 (hK0 _)
    · refine jq_sub Γ (L' := [(0, jR 0)]) [0] rfl ?_
      exact hj9_0 σ


theorem dX11_mean_0 : decode cX11_mean 0 = .ok (.iload_n 1, 1) := by decide +kernel
theorem dX11_mean_1 : decode cX11_mean 1 = .ok (.i2l, 1) := by decide +kernel
theorem dX11_mean_2 : decode cX11_mean 2 = .ok (.lconst 0, 1) := by decide +kernel
theorem dX11_mean_3 : decode cX11_mean 3 = .ok (.ldc2_w 502, 3) := by decide +kernel
theorem dX11_mean_6 : decode cX11_mean 6 = .ok (.invokestatic 343, 3) := by decide +kernel
theorem dX11_mean_9 : decode cX11_mean 9 = .ok (.ifCond .eq 26, 3) := by decide +kernel
theorem dX11_mean_12 : decode cX11_mean 12 = .ok (.iload_n 2, 1) := by decide +kernel
theorem dX11_mean_13 : decode cX11_mean 13 = .ok (.i2l, 1) := by decide +kernel
theorem dX11_mean_14 : decode cX11_mean 14 = .ok (.lconst 1, 1) := by decide +kernel
theorem dX11_mean_15 : decode cX11_mean 15 = .ok (.ldc2_w 511, 3) := by decide +kernel
theorem dX11_mean_18 : decode cX11_mean 18 = .ok (.invokestatic 343, 3) := by decide +kernel
theorem dX11_mean_21 : decode cX11_mean 21 = .ok (.ifCond .eq 14, 3) := by decide +kernel
theorem dX11_mean_24 : decode cX11_mean 24 = .ok (.iload_n 1, 1) := by decide +kernel
theorem dX11_mean_25 : decode cX11_mean 25 = .ok (.iload_n 2, 1) := by decide +kernel
theorem dX11_mean_26 : decode cX11_mean 26 = .ok (.iadd, 1) := by decide +kernel
theorem dX11_mean_27 : decode cX11_mean 27 = .ok (.iconst 1, 1) := by decide +kernel
theorem dX11_mean_28 : decode cX11_mean 28 = .ok (.isub, 1) := by decide +kernel
theorem dX11_mean_29 : decode cX11_mean 29 = .ok (.sipush 9999, 3) := by decide +kernel
theorem dX11_mean_32 : decode cX11_mean 32 = .ok (.if_icmp .le 9, 3) := by decide +kernel
theorem dX11_mean_35 : decode cX11_mean 35 = .ok (.aload_n 0, 1) := by decide +kernel
theorem dX11_mean_36 : decode cX11_mean 36 = .ok (.iconst 1, 1) := by decide +kernel
theorem dX11_mean_37 : decode cX11_mean 37 = .ok (.invokevirtual 91, 3) := by decide +kernel
theorem dX11_mean_40 : decode cX11_mean 40 = .ok (.ireturn, 1) := by decide +kernel
theorem dX11_mean_41 : decode cX11_mean 41 = .ok (.aload_n 0, 1) := by decide +kernel
theorem dX11_mean_42 : decode cX11_mean 42 = .ok (.getfield 7, 3) := by decide +kernel
theorem dX11_mean_45 : decode cX11_mean 45 = .ok (.bipush 6, 2) := by decide +kernel
theorem dX11_mean_47 : decode cX11_mean 47 = .ok (.iaload, 1) := by decide +kernel
theorem dX11_mean_48 : decode cX11_mean 48 = .ok (.iconst (-1), 1) := by decide +kernel
theorem dX11_mean_49 : decode cX11_mean 49 = .ok (.if_icmp .ne 10, 3) := by decide +kernel
theorem dX11_mean_52 : decode cX11_mean 52 = .ok (.aload_n 0, 1) := by decide +kernel
theorem dX11_mean_53 : decode cX11_mean 53 = .ok (.bipush 6, 2) := by decide +kernel
theorem dX11_mean_55 : decode cX11_mean 55 = .ok (.invokevirtual 91, 3) := by decide +kernel
theorem dX11_mean_58 : decode cX11_mean 58 = .ok (.ireturn, 1) := by decide +kernel
theorem dX11_mean_59 : decode cX11_mean 59 = .ok (.aload_n 0, 1) := by decide +kernel
theorem dX11_mean_60 : decode cX11_mean 60 = .ok (.sipush 2530, 3) := by decide +kernel
theorem dX11_mean_63 : decode cX11_mean 63 = .ok (.invokevirtual 442, 3) := by decide +kernel
theorem dX11_mean_66 : decode cX11_mean 66 = .ok (.lconst 0, 1) := by decide +kernel
theorem dX11_mean_67 : decode cX11_mean 67 = .ok (.lstore_n 3, 1) := by decide +kernel
theorem dX11_mean_68 : decode cX11_mean 68 = .ok (.iconst 0, 1) := by decide +kernel
theorem dX11_mean_69 : decode cX11_mean 69 = .ok (.istore 5, 2) := by decide +kernel
theorem dX11_mean_71 : decode cX11_mean 71 = .ok (.iload 5, 2) := by decide +kernel
theorem dX11_mean_73 : decode cX11_mean 73 = .ok (.iload_n 2, 1) := by decide +kernel
theorem dX11_mean_74 : decode cX11_mean 74 = .ok (.if_icmp .ge 36, 3) := by decide +kernel
theorem dX11_mean_77 : decode cX11_mean 77 = .ok (.aload_n 0, 1) := by decide +kernel
theorem dX11_mean_78 : decode cX11_mean 78 = .ok (.iload_n 1, 1) := by decide +kernel
theorem dX11_mean_79 : decode cX11_mean 79 = .ok (.iload 5, 2) := by decide +kernel
theorem dX11_mean_81 : decode cX11_mean 81 = .ok (.iadd, 1) := by decide +kernel
theorem dX11_mean_82 : decode cX11_mean 82 = .ok (.invokevirtual 504, 3) := by decide +kernel
theorem dX11_mean_85 : decode cX11_mean 85 = .ok (.aload_n 0, 1) := by decide +kernel
theorem dX11_mean_86 : decode cX11_mean 86 = .ok (.invokevirtual 302, 3) := by decide +kernel
theorem dX11_mean_89 : decode cX11_mean 89 = .ok (.lload_n 3, 1) := by decide +kernel
theorem dX11_mean_90 : decode cX11_mean 90 = .ok (.aload_n 0, 1) := by decide +kernel
theorem dX11_mean_91 : decode cX11_mean 91 = .ok (.invokevirtual 332, 3) := by decide +kernel
theorem dX11_mean_94 : decode cX11_mean 94 = .ok (.i2l, 1) := by decide +kernel
theorem dX11_mean_95 : decode cX11_mean 95 = .ok (.ladd, 1) := by decide +kernel
theorem dX11_mean_96 : decode cX11_mean 96 = .ok (.lstore_n 3, 1) := by decide +kernel
theorem dX11_mean_97 : decode cX11_mean 97 = .ok (.aload_n 0, 1) := by decide +kernel
theorem dX11_mean_98 : decode cX11_mean 98 = .ok (.sipush 2530, 3) := by decide +kernel
theorem dX11_mean_101 : decode cX11_mean 101 = .ok (.invokevirtual 445, 3) := by decide +kernel
theorem dX11_mean_104 : decode cX11_mean 104 = .ok (.iinc 5 1, 3) := by decide +kernel
theorem dX11_mean_107 : decode cX11_mean 107 = .ok (.goto (-36), 3) := by decide +kernel
theorem dX11_mean_110 : decode cX11_mean 110 = .ok (.aload_n 0, 1) := by decide +kernel
theorem dX11_mean_111 : decode cX11_mean 111 = .ok (.lload_n 3, 1) := by decide +kernel
theorem dX11_mean_112 : decode cX11_mean 112 = .ok (.iload_n 2, 1) := by decide +kernel
theorem dX11_mean_113 : decode cX11_mean 113 = .ok (.i2l, 1) := by decide +kernel
theorem dX11_mean_114 : decode cX11_mean 114 = .ok (.invokevirtual 458, 3) := by decide +kernel
theorem dX11_mean_117 : decode cX11_mean 117 = .ok (.ireturn, 1) := by decide +kernel
set_option maxHeartbeats 4000000 in
set_option maxRecDepth 100000 in
theorem ctX11_mean {p1 : Int} {p2 : Int} {σ : jq_M} {res : Int} {σ' : jq_M}  (h : X11_mean p1 p2 σ = some (res, σ')) : jq_MC jq_zM yX11_mean cX11_mean 6 (some .boolean) 10 235 [jR 0, jI p1, jI p2] σ (some (jI res)) σ' := by
  refine jq_met (own := RX11) (L0 := [(0, jR 0), (1, jI p1), (2, jI p2)]) (by decide) rfl rfl rfl ?_
  intro X Γ hnl hlY hRT
  refine jq_use2 (P := fun r => jq_RT jq_zM X (some .boolean) (some (jI r.1)) r.2) ?_ h hRT
  intro K0 hK0
  unfold X11_mean
  have hj35_0 : ∀ (s3 : jq_M), jq_J (X11_mean_j35 s3) K0 (jq_V jq_zM X (jq_zN jq_zM) s3 35 [(0, jR 0)] []) := by
    intro s3
    unfold X11_mean_j35
    refine jq_aload_n Γ dX11_mean_35 rfl 0 rfl (jq_at_0 at_M_0) ?_
    refine jq_iconst Γ dX11_mean_36 rfl ?_
    refine jq_cwZ (jq_virt (avs := [jI 1]) (st := []) Γ hlY rfl ml_RX11_91 rfl at_M_0 rfl rfl rfl rfl rfl dX11_mean_37) rfl (fun r σ' h => ctX11_is h) (fun v4 s5 hz6 => ?_)
    exact jq_zreturn Γ (hz6) dX11_mean_40 (hK0 _)
  refine jq_iload_n Γ dX11_mean_0 rfl 1 rfl ?_
  refine jq_i2l Γ dX11_mean_1 ?_
  refine jq_lconst Γ 0 dX11_mean_2 rfl rfl ?_
  refine jq_ldc2 Γ 9999 dX11_mean_3 kc_RX11_502 rfl ?_
  refine jq_cpZ (jq_stat (avs := [jL p1, jL 0, jL 9999]) (st := []) Γ hlY rfl ml_RX11_343 rfl rfl rfl rfl rfl dX11_mean_6) rfl (fun r h => ctX11_isFrom h) (fun v1 hz2 => ?_)
  refine jq_if_eq (tgt := 35) Γ dX11_mean_9 rfl ?_ ?_
  · refine jq_sub Γ (L' := [(0, jR 0)]) [0] rfl ?_
    exact hj35_0 σ
  · refine jq_iload_n Γ dX11_mean_12 rfl 2 rfl ?_
    refine jq_i2l Γ dX11_mean_13 ?_
    refine jq_lconst Γ 1 dX11_mean_14 rfl rfl ?_
    refine jq_ldc2 Γ 20 dX11_mean_15 kc_RX11_511 rfl ?_
    refine jq_cpZ (jq_stat (avs := [jL p2, jL 1, jL 20]) (st := []) Γ hlY rfl ml_RX11_343 rfl rfl rfl rfl rfl dX11_mean_18) rfl (fun r h => ctX11_isFrom h) (fun v7 hz8 => ?_)
    refine jq_if_eq (tgt := 35) Γ dX11_mean_21 rfl ?_ ?_
    · refine jq_sub Γ (L' := [(0, jR 0)]) [0] rfl ?_
      exact hj35_0 σ
    · refine jq_iload_n Γ dX11_mean_24 rfl 1 rfl ?_
      refine jq_iload_n Γ dX11_mean_25 rfl 2 rfl ?_
      refine jq_iadd Γ dX11_mean_26 ?_
      refine jq_iconst Γ dX11_mean_27 rfl ?_
      refine jq_isub Γ dX11_mean_28 ?_
      refine jq_sipush Γ dX11_mean_29 rfl ?_
      refine jq_icmp_le (tgt := 41) Γ dX11_mean_32 rfl ?_ ?_
      · refine jq_aload_n Γ dX11_mean_41 rfl 0 rfl (jq_at_0 at_M_0) ?_
        refine jq_getR (v := 1) Γ hlY at_M_0 fl_RX11_7 rfl rfl ly_X11_at dX11_mean_42 ?_
        refine jq_bipush Γ dX11_mean_45 rfl ?_
        refine jq_iald Γ at_M_1 rfl dX11_mean_47 (fun v9 => ?_)
        refine jq_iconst Γ dX11_mean_48 rfl ?_
        refine jq_icmp_ne (tgt := 59) Γ dX11_mean_49 rfl ?_ ?_
        · refine jq_aload_n Γ dX11_mean_59 rfl 0 rfl (jq_at_0 at_M_0) ?_
          refine jq_sipush Γ dX11_mean_60 rfl ?_
          refine jq_cwV (jq_virt (avs := [jI 2530]) (st := []) Γ hlY rfl ml_RX11_442 rfl at_M_0 rfl rfl rfl rfl rfl dX11_mean_63) (fun σ' h => ctX11_keeps h) (fun s10 => ?_)
          refine jq_lconst Γ 0 dX11_mean_66 rfl rfl ?_
          refine jq_lstore_n (L' := [(3, jL 0), (0, jR 0), (1, jI p1), (2, jI p2)]) Γ dX11_mean_67 rfl hnl rfl rfl ?_
          refine jq_iconst Γ dX11_mean_68 rfl ?_
          refine jq_istore (L' := [(5, jI 0), (3, jL 0), (0, jR 0), (1, jI p1), (2, jI p2)]) Γ dX11_mean_69 hnl rfl rfl ?_
          refine jq_sub Γ (L' := [(0, jR 0), (1, jI p1), (2, jI p2), (3, jL 0), (5, jI 0)]) [2, 3, 4, 1, 0] rfl ?_
          refine jq_loop2 (C := fun (t11 : Int × Int × jq_M) => jq_V jq_zM X (jq_zN jq_zM) t11.2.2 71 [(0, jR 0), (1, jI p1), (2, jI p2), (3, jL t11.1), (5, jI t11.2.1)] []) (KX := fun (e18 : Int × jq_M) => jq_V jq_zM X (jq_zN jq_zM) e18.2 110 [(0, jR 0), (2, jI p2), (3, jL e18.1)] []) ?_ ?_ (0, 0, s10)
          · intro K71_t11 hCt11 hXt11 t11
            unfold X11_mean_b71
            refine jq_iload Γ dX11_mean_71 4 rfl ?_
            refine jq_iload_n Γ dX11_mean_73 rfl 2 rfl ?_
            refine jq_icmp_ge (tgt := 110) Γ dX11_mean_74 rfl ?_ ?_
            · refine jq_sub Γ (L' := [(0, jR 0), (2, jI p2), (3, jL t11.1)]) [0, 2, 3] rfl ?_
              exact jq_done (hXt11 (t11.1, t11.2.2))
            · refine jq_aload_n Γ dX11_mean_77 rfl 0 rfl (jq_at_0 at_M_0) ?_
              refine jq_iload_n Γ dX11_mean_78 rfl 1 rfl ?_
              refine jq_iload Γ dX11_mean_79 4 rfl ?_
              refine jq_iadd Γ dX11_mean_81 ?_
              refine jq_cwV (jq_virt (avs := [jI (jq_w (p1 + t11.2.1))]) (st := []) Γ hlY rfl ml_RX11_504 rfl at_M_0 rfl rfl rfl rfl rfl dX11_mean_82) (fun σ' h => ctX11_lives h) (fun s12 => ?_)
              refine jq_aload_n Γ dX11_mean_85 rfl 0 rfl (jq_at_0 at_M_0) ?_
              refine jq_cwV (jq_virt (avs := []) (st := []) Γ hlY rfl ml_RX11_302 rfl at_M_0 rfl rfl rfl rfl rfl dX11_mean_86) (fun σ' h => ctX11_seatsNow h) (fun s13 => ?_)
              refine jq_lload_n Γ dX11_mean_89 rfl 3 rfl ?_
              refine jq_aload_n Γ dX11_mean_90 rfl 0 rfl (jq_at_0 at_M_0) ?_
              refine jq_cpI (jq_virt (avs := []) (st := [jL t11.1]) Γ hlY rfl ml_RX11_332 rfl at_M_0 rfl rfl rfl rfl rfl dX11_mean_91) (fun r h => ctX11_worthOfAll h) (fun v14 => ?_)
              refine jq_i2l Γ dX11_mean_94 ?_
              refine jq_ladd Γ dX11_mean_95 ?_
              refine jq_nmL (fun v15 => ?_)
              refine jq_lstore_n (L' := [(3, jL v15), (0, jR 0), (1, jI p1), (2, jI p2), (5, jI t11.2.1)]) Γ dX11_mean_96 rfl hnl rfl rfl ?_
              refine jq_aload_n Γ dX11_mean_97 rfl 1 rfl (jq_at_0 at_M_0) ?_
              refine jq_sipush Γ dX11_mean_98 rfl ?_
              refine jq_cwV (jq_virt (avs := [jI 2530]) (st := []) Γ hlY rfl ml_RX11_445 rfl at_M_0 rfl rfl rfl rfl rfl dX11_mean_101) (fun σ' h => ctX11_restores h) (fun s16 => ?_)
              refine jq_iincN (L' := fun v17 => [(5, jI v17), (3, jL v15), (0, jR 0), (1, jI p1), (2, jI p2)]) Γ dX11_mean_104 4 rfl hnl rfl (fun _ => rfl) (fun v17 => ?_)
              refine jq_goto Γ (tgt := 71) dX11_mean_107 rfl ?_
              refine jq_sub Γ (L' := [(0, jR 0), (1, jI p1), (2, jI p2), (3, jL v15), (5, jI v17)]) [2, 3, 4, 1, 0] rfl ?_
              exact jq_done (hCt11 (v15, v17, s16))
          · intro e18
            refine jq_aload_n Γ dX11_mean_110 rfl 0 rfl (jq_at_0 at_M_0) ?_
            refine jq_lload_n Γ dX11_mean_111 rfl 2 rfl ?_
            refine jq_iload_n Γ dX11_mean_112 rfl 1 rfl ?_
            refine jq_i2l Γ dX11_mean_113 ?_
            refine jq_cwZ (jq_virt (avs := [jL e18.1, jL p2]) (st := []) Γ hlY rfl ml_RX11_458 rfl at_M_0 rfl rfl rfl rfl rfl dX11_mean_114) rfl (fun r σ' h => ctX11_tellsBy h) (fun v19 s20 hz21 => ?_)
            exact jq_zreturn Γ (hz21) dX11_mean_117 (hK0 _)
        · refine jq_aload_n Γ dX11_mean_52 rfl 0 rfl (jq_at_0 at_M_0) ?_
          refine jq_bipush Γ dX11_mean_53 rfl ?_
          refine jq_cwZ (jq_virt (avs := [jI 6]) (st := []) Γ hlY rfl ml_RX11_91 rfl at_M_0 rfl rfl rfl rfl rfl dX11_mean_55) rfl (fun r σ' h => ctX11_is h) (fun v22 s23 hz24 => ?_)
          exact jq_zreturn Γ (hz24) dX11_mean_58 (hK0 _)
      · refine jq_sub Γ (L' := [(0, jR 0)]) [0] rfl ?_
        exact hj35_0 σ


