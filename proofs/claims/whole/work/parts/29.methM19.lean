theorem yf_X11_swapsSeats : Cond.instanceMethod yX11_swapsSeats ∈ jq_T ∧ Cond.selects (yX11_swapsSeats).cls yX11_swapsSeats yX11_swapsSeats ∈ jq_T ∧ Cond.initialized (yX11_swapsSeats).cls ∈ jq_T ∧ Cond.code yX11_swapsSeats cX11_swapsSeats 4 none ∈ jq_T ∧ ((yX11_swapsSeats).cls ≠ "java/lang/invoke/MethodHandle" ∧ (yX11_swapsSeats).cls ≠ "java/lang/invoke/VarHandle" ∧ (parseMethodDescriptor (yX11_swapsSeats).desc).map (fun d => d.parameters.length) = some 2) := ⟨jq_in 2201 (by decide +kernel) rfl, jq_in 112 (by decide +kernel) rfl, jq_in 150 (by decide +kernel) rfl, jq_in 2202 (by decide +kernel) rfl, ⟨by decide, by decide, by decide +kernel⟩⟩
theorem ml_RX11_410 : jq_vl RX11 410 yX11_swapsSeats cX11_swapsSeats 4 none 2 := ⟨jq_in 2199 (by decide +kernel) rfl, yf_X11_swapsSeats⟩
theorem fl_RX11_56 : jq_fl RX11 56 8 37 26 true := ⟨RX11, TX11, tyX11, cls_X11, by decide, jq_in 1588 (by decide +kernel) rfl, by decide⟩
theorem fl_RX11_53 : jq_fl RX11 53 8 37 25 true := ⟨RX11, TX11, tyX11, cls_X11, by decide, jq_in 1587 (by decide +kernel) rfl, by decide⟩
theorem fl_RX11_50 : jq_fl RX11 50 8 37 24 true := ⟨RX11, TX11, tyX11, cls_X11, by decide, jq_in 1586 (by decide +kernel) rfl, by decide⟩
theorem fl_RX11_414 : jq_fl RX11 414 8 37 27 false := ⟨RX11, TX11, tyX11, cls_X11, by decide, jq_in 1589 (by decide +kernel) rfl, by decide⟩
theorem yf_X11_keepsSeats : Cond.instanceMethod yX11_keepsSeats ∈ jq_T ∧ Cond.selects (yX11_keepsSeats).cls yX11_keepsSeats yX11_keepsSeats ∈ jq_T ∧ Cond.initialized (yX11_keepsSeats).cls ∈ jq_T ∧ Cond.code yX11_keepsSeats cX11_keepsSeats 3 none ∈ jq_T ∧ ((yX11_keepsSeats).cls ≠ "java/lang/invoke/MethodHandle" ∧ (yX11_keepsSeats).cls ≠ "java/lang/invoke/VarHandle" ∧ (parseMethodDescriptor (yX11_keepsSeats).desc).map (fun d => d.parameters.length) = some 1) := ⟨jq_in 2226 (by decide +kernel) rfl, jq_in 115 (by decide +kernel) rfl, jq_in 150 (by decide +kernel) rfl, jq_in 2227 (by decide +kernel) rfl, ⟨by decide, by decide, by decide +kernel⟩⟩
theorem ml_RX11_417 : jq_vl RX11 417 yX11_keepsSeats cX11_keepsSeats 3 none 1 := ⟨jq_in 2224 (by decide +kernel) rfl, yf_X11_keepsSeats⟩
theorem yf_X11_givesSeats : Cond.instanceMethod yX11_givesSeats ∈ jq_T ∧ Cond.selects (yX11_givesSeats).cls yX11_givesSeats yX11_givesSeats ∈ jq_T ∧ Cond.initialized (yX11_givesSeats).cls ∈ jq_T ∧ Cond.code yX11_givesSeats cX11_givesSeats 3 none ∈ jq_T ∧ ((yX11_givesSeats).cls ≠ "java/lang/invoke/MethodHandle" ∧ (yX11_givesSeats).cls ≠ "java/lang/invoke/VarHandle" ∧ (parseMethodDescriptor (yX11_givesSeats).desc).map (fun d => d.parameters.length) = some 1) := ⟨jq_in 2230 (by decide +kernel) rfl, jq_in 116 (by decide +kernel) rfl, jq_in 150 (by decide +kernel) rfl, jq_in 2231 (by decide +kernel) rfl, ⟨by decide, by decide, by decide +kernel⟩⟩
theorem ml_RX11_420 : jq_vl RX11 420 yX11_givesSeats cX11_givesSeats 3 none 1 := ⟨jq_in 2228 (by decide +kernel) rfl, yf_X11_givesSeats⟩
theorem yf_X11_weighs : Cond.instanceMethod yX11_weighs ∈ jq_T ∧ Cond.selects (yX11_weighs).cls yX11_weighs yX11_weighs ∈ jq_T ∧ Cond.initialized (yX11_weighs).cls ∈ jq_T ∧ Cond.code yX11_weighs cX11_weighs 3 none ∈ jq_T ∧ ((yX11_weighs).cls ≠ "java/lang/invoke/MethodHandle" ∧ (yX11_weighs).cls ≠ "java/lang/invoke/VarHandle" ∧ (parseMethodDescriptor (yX11_weighs).desc).map (fun d => d.parameters.length) = some 2) := ⟨jq_in 2234 (by decide +kernel) rfl, jq_in 117 (by decide +kernel) rfl, jq_in 150 (by decide +kernel) rfl, jq_in 2235 (by decide +kernel) rfl, ⟨by decide, by decide, by decide +kernel⟩⟩
theorem ml_RX11_423 : jq_vl RX11 423 yX11_weighs cX11_weighs 3 none 2 := ⟨jq_in 2232 (by decide +kernel) rfl, yf_X11_weighs⟩
theorem yf_X11_changes : Cond.instanceMethod yX11_changes ∈ jq_T ∧ Cond.selects (yX11_changes).cls yX11_changes yX11_changes ∈ jq_T ∧ Cond.initialized (yX11_changes).cls ∈ jq_T ∧ Cond.code yX11_changes cX11_changes 4 none ∈ jq_T ∧ ((yX11_changes).cls ≠ "java/lang/invoke/MethodHandle" ∧ (yX11_changes).cls ≠ "java/lang/invoke/VarHandle" ∧ (parseMethodDescriptor (yX11_changes).desc).map (fun d => d.parameters.length) = some 2) := ⟨jq_in 2238 (by decide +kernel) rfl, jq_in 118 (by decide +kernel) rfl, jq_in 150 (by decide +kernel) rfl, jq_in 2239 (by decide +kernel) rfl, ⟨by decide, by decide, by decide +kernel⟩⟩
theorem ml_RX11_426 : jq_vl RX11 426 yX11_changes cX11_changes 4 none 2 := ⟨jq_in 2236 (by decide +kernel) rfl, yf_X11_changes⟩
theorem kc_RX11_429 : Cond.constantLong RX11 429 (Int64.ofInt (3)) ∈ jq_T := jq_in 2219 (by decide +kernel) rfl
theorem yf_X11_wrongGame : Cond.instanceMethod yX11_wrongGame ∈ jq_T ∧ Cond.selects (yX11_wrongGame).cls yX11_wrongGame yX11_wrongGame ∈ jq_T ∧ Cond.initialized (yX11_wrongGame).cls ∈ jq_T ∧ Cond.code yX11_wrongGame cX11_wrongGame 5 (some .int) ∈ jq_T ∧ ((yX11_wrongGame).cls ≠ "java/lang/invoke/MethodHandle" ∧ (yX11_wrongGame).cls ≠ "java/lang/invoke/VarHandle" ∧ (parseMethodDescriptor (yX11_wrongGame).desc).map (fun d => d.parameters.length) = some 4) := ⟨jq_in 2217 (by decide +kernel) rfl, jq_in 113 (by decide +kernel) rfl, jq_in 150 (by decide +kernel) rfl, jq_in 2218 (by decide +kernel) rfl, ⟨by decide, by decide, by decide +kernel⟩⟩
theorem ml_RX11_431 : jq_vl RX11 431 yX11_wrongGame cX11_wrongGame 5 (some .int) 4 := ⟨jq_in 2215 (by decide +kernel) rfl, yf_X11_wrongGame⟩
theorem yf_X11_playing : Cond.instanceMethod yX11_playing ∈ jq_T ∧ Cond.selects (yX11_playing).cls yX11_playing yX11_playing ∈ jq_T ∧ Cond.initialized (yX11_playing).cls ∈ jq_T ∧ Cond.code yX11_playing cX11_playing 6 (some .int) ∈ jq_T ∧ ((yX11_playing).cls ≠ "java/lang/invoke/MethodHandle" ∧ (yX11_playing).cls ≠ "java/lang/invoke/VarHandle" ∧ (parseMethodDescriptor (yX11_playing).desc).map (fun d => d.parameters.length) = some 3) := ⟨jq_in 2222 (by decide +kernel) rfl, jq_in 114 (by decide +kernel) rfl, jq_in 150 (by decide +kernel) rfl, jq_in 2223 (by decide +kernel) rfl, ⟨by decide, by decide, by decide +kernel⟩⟩
theorem ml_RX11_435 : jq_vl RX11 435 yX11_playing cX11_playing 6 (some .int) 3 := ⟨jq_in 2220 (by decide +kernel) rfl, yf_X11_playing⟩
theorem yf_X11_leansOf : Cond.instanceMethod yX11_leansOf ∈ jq_T ∧ Cond.selects (yX11_leansOf).cls yX11_leansOf yX11_leansOf ∈ jq_T ∧ Cond.initialized (yX11_leansOf).cls ∈ jq_T ∧ Cond.code yX11_leansOf cX11_leansOf 4 (some .int) ∈ jq_T ∧ ((yX11_leansOf).cls ≠ "java/lang/invoke/MethodHandle" ∧ (yX11_leansOf).cls ≠ "java/lang/invoke/VarHandle" ∧ (parseMethodDescriptor (yX11_leansOf).desc).map (fun d => d.parameters.length) = some 1) := ⟨jq_in 2250 (by decide +kernel) rfl, jq_in 119 (by decide +kernel) rfl, jq_in 150 (by decide +kernel) rfl, jq_in 2251 (by decide +kernel) rfl, ⟨by decide, by decide, by decide +kernel⟩⟩
theorem ml_RX11_439 : jq_vl RX11 439 yX11_leansOf cX11_leansOf 4 (some .int) 1 := ⟨jq_in 2248 (by decide +kernel) rfl, yf_X11_leansOf⟩
theorem dX11_bestSwap_0 : decode cX11_bestSwap 0 = .ok (.aload_n 0, 1) := by decide +kernel
theorem dX11_bestSwap_1 : decode cX11_bestSwap 1 = .ok (.invokevirtual 302, 3) := by decide +kernel
theorem dX11_bestSwap_4 : decode cX11_bestSwap 4 = .ok (.aload_n 0, 1) := by decide +kernel
theorem dX11_bestSwap_5 : decode cX11_bestSwap 5 = .ok (.invokevirtual 332, 3) := by decide +kernel
theorem dX11_bestSwap_8 : decode cX11_bestSwap 8 = .ok (.istore_n 1, 1) := by decide +kernel
theorem dX11_bestSwap_9 : decode cX11_bestSwap 9 = .ok (.iconst (-1), 1) := by decide +kernel
theorem dX11_bestSwap_10 : decode cX11_bestSwap 10 = .ok (.istore_n 2, 1) := by decide +kernel
theorem dX11_bestSwap_11 : decode cX11_bestSwap 11 = .ok (.iconst 0, 1) := by decide +kernel
theorem dX11_bestSwap_12 : decode cX11_bestSwap 12 = .ok (.istore_n 3, 1) := by decide +kernel
theorem dX11_bestSwap_13 : decode cX11_bestSwap 13 = .ok (.iload_n 3, 1) := by decide +kernel
theorem dX11_bestSwap_14 : decode cX11_bestSwap 14 = .ok (.aload_n 0, 1) := by decide +kernel
theorem dX11_bestSwap_15 : decode cX11_bestSwap 15 = .ok (.getfield 7, 3) := by decide +kernel
theorem dX11_bestSwap_18 : decode cX11_bestSwap 18 = .ok (.iconst 1, 1) := by decide +kernel
theorem dX11_bestSwap_19 : decode cX11_bestSwap 19 = .ok (.iaload, 1) := by decide +kernel
theorem dX11_bestSwap_20 : decode cX11_bestSwap 20 = .ok (.if_icmp .ge 95, 3) := by decide +kernel
theorem dX11_bestSwap_23 : decode cX11_bestSwap 23 = .ok (.iload_n 3, 1) := by decide +kernel
theorem dX11_bestSwap_24 : decode cX11_bestSwap 24 = .ok (.iconst 1, 1) := by decide +kernel
theorem dX11_bestSwap_25 : decode cX11_bestSwap 25 = .ok (.iadd, 1) := by decide +kernel
theorem dX11_bestSwap_26 : decode cX11_bestSwap 26 = .ok (.istore 4, 2) := by decide +kernel
theorem dX11_bestSwap_28 : decode cX11_bestSwap 28 = .ok (.iload 4, 2) := by decide +kernel
theorem dX11_bestSwap_30 : decode cX11_bestSwap 30 = .ok (.aload_n 0, 1) := by decide +kernel
theorem dX11_bestSwap_31 : decode cX11_bestSwap 31 = .ok (.getfield 7, 3) := by decide +kernel
theorem dX11_bestSwap_34 : decode cX11_bestSwap 34 = .ok (.iconst 1, 1) := by decide +kernel
theorem dX11_bestSwap_35 : decode cX11_bestSwap 35 = .ok (.iaload, 1) := by decide +kernel
theorem dX11_bestSwap_36 : decode cX11_bestSwap 36 = .ok (.if_icmp .ge 73, 3) := by decide +kernel
theorem dX11_bestSwap_39 : decode cX11_bestSwap 39 = .ok (.aload_n 0, 1) := by decide +kernel
theorem dX11_bestSwap_40 : decode cX11_bestSwap 40 = .ok (.getfield 47, 3) := by decide +kernel
theorem dX11_bestSwap_43 : decode cX11_bestSwap 43 = .ok (.iload_n 3, 1) := by decide +kernel
theorem dX11_bestSwap_44 : decode cX11_bestSwap 44 = .ok (.iaload, 1) := by decide +kernel
theorem dX11_bestSwap_45 : decode cX11_bestSwap 45 = .ok (.iconst (-1), 1) := by decide +kernel
theorem dX11_bestSwap_46 : decode cX11_bestSwap 46 = .ok (.if_icmp .ne 17, 3) := by decide +kernel
theorem dX11_bestSwap_49 : decode cX11_bestSwap 49 = .ok (.aload_n 0, 1) := by decide +kernel
theorem dX11_bestSwap_50 : decode cX11_bestSwap 50 = .ok (.getfield 47, 3) := by decide +kernel
theorem dX11_bestSwap_53 : decode cX11_bestSwap 53 = .ok (.iload 4, 2) := by decide +kernel
theorem dX11_bestSwap_55 : decode cX11_bestSwap 55 = .ok (.iaload, 1) := by decide +kernel
theorem dX11_bestSwap_56 : decode cX11_bestSwap 56 = .ok (.iconst (-1), 1) := by decide +kernel
theorem dX11_bestSwap_57 : decode cX11_bestSwap 57 = .ok (.if_icmp .ne 6, 3) := by decide +kernel
theorem dX11_bestSwap_60 : decode cX11_bestSwap 60 = .ok (.goto 43, 3) := by decide +kernel
theorem dX11_bestSwap_63 : decode cX11_bestSwap 63 = .ok (.aload_n 0, 1) := by decide +kernel
theorem dX11_bestSwap_64 : decode cX11_bestSwap 64 = .ok (.iload_n 3, 1) := by decide +kernel
theorem dX11_bestSwap_65 : decode cX11_bestSwap 65 = .ok (.iload 4, 2) := by decide +kernel
theorem dX11_bestSwap_67 : decode cX11_bestSwap 67 = .ok (.invokevirtual 410, 3) := by decide +kernel
theorem dX11_bestSwap_70 : decode cX11_bestSwap 70 = .ok (.aload_n 0, 1) := by decide +kernel
theorem dX11_bestSwap_71 : decode cX11_bestSwap 71 = .ok (.invokevirtual 332, 3) := by decide +kernel
theorem dX11_bestSwap_74 : decode cX11_bestSwap 74 = .ok (.istore 5, 2) := by decide +kernel
theorem dX11_bestSwap_76 : decode cX11_bestSwap 76 = .ok (.aload_n 0, 1) := by decide +kernel
theorem dX11_bestSwap_77 : decode cX11_bestSwap 77 = .ok (.iload_n 3, 1) := by decide +kernel
theorem dX11_bestSwap_78 : decode cX11_bestSwap 78 = .ok (.iload 4, 2) := by decide +kernel
theorem dX11_bestSwap_80 : decode cX11_bestSwap 80 = .ok (.invokevirtual 410, 3) := by decide +kernel
theorem dX11_bestSwap_83 : decode cX11_bestSwap 83 = .ok (.iload 5, 2) := by decide +kernel
theorem dX11_bestSwap_85 : decode cX11_bestSwap 85 = .ok (.iload_n 1, 1) := by decide +kernel
theorem dX11_bestSwap_86 : decode cX11_bestSwap 86 = .ok (.if_icmp .gt 6, 3) := by decide +kernel
theorem dX11_bestSwap_89 : decode cX11_bestSwap 89 = .ok (.goto 14, 3) := by decide +kernel
theorem dX11_bestSwap_92 : decode cX11_bestSwap 92 = .ok (.iload 5, 2) := by decide +kernel
theorem dX11_bestSwap_94 : decode cX11_bestSwap 94 = .ok (.istore_n 1, 1) := by decide +kernel
theorem dX11_bestSwap_95 : decode cX11_bestSwap 95 = .ok (.bipush 10, 2) := by decide +kernel
theorem dX11_bestSwap_97 : decode cX11_bestSwap 97 = .ok (.iload_n 3, 1) := by decide +kernel
theorem dX11_bestSwap_98 : decode cX11_bestSwap 98 = .ok (.imul, 1) := by decide +kernel
theorem dX11_bestSwap_99 : decode cX11_bestSwap 99 = .ok (.iload 4, 2) := by decide +kernel
theorem dX11_bestSwap_101 : decode cX11_bestSwap 101 = .ok (.iadd, 1) := by decide +kernel
theorem dX11_bestSwap_102 : decode cX11_bestSwap 102 = .ok (.istore_n 2, 1) := by decide +kernel
theorem dX11_bestSwap_103 : decode cX11_bestSwap 103 = .ok (.iinc 4 1, 3) := by decide +kernel
theorem dX11_bestSwap_106 : decode cX11_bestSwap 106 = .ok (.goto (-78), 3) := by decide +kernel
theorem dX11_bestSwap_109 : decode cX11_bestSwap 109 = .ok (.iinc 3 1, 3) := by decide +kernel
theorem dX11_bestSwap_112 : decode cX11_bestSwap 112 = .ok (.goto (-99), 3) := by decide +kernel
theorem dX11_bestSwap_115 : decode cX11_bestSwap 115 = .ok (.aload_n 0, 1) := by decide +kernel
theorem dX11_bestSwap_116 : decode cX11_bestSwap 116 = .ok (.iload_n 2, 1) := by decide +kernel
theorem dX11_bestSwap_117 : decode cX11_bestSwap 117 = .ok (.invokevirtual 320, 3) := by decide +kernel
theorem dX11_bestSwap_120 : decode cX11_bestSwap 120 = .ok (.ireturn, 1) := by decide +kernel
set_option maxHeartbeats 4000000 in
set_option maxRecDepth 100000 in
theorem ctX11_bestSwap  {σ : jq_M} {res : Int} {σ' : jq_M}  (h : X11_bestSwap σ = some (res, σ')) : jq_MC jq_zM yX11_bestSwap cX11_bestSwap 6 (some .int) 4 109 [jR 0] σ (some (jI res)) σ' := by
  refine jq_met (own := RX11) (L0 := [(0, jR 0)]) (by decide) rfl rfl rfl ?_
  intro X Γ hnl hlY hRT
  refine jq_use2 (P := fun r => jq_RT jq_zM X (some .int) (some (jI r.1)) r.2) ?_ h hRT
  intro K0 hK0
  unfold X11_bestSwap
  refine jq_aload_n Γ dX11_bestSwap_0 rfl 0 rfl (jq_at_0 at_M_0) ?_
  refine jq_cwV (jq_virt (avs := []) (st := []) Γ hlY rfl ml_RX11_302 rfl at_M_0 rfl rfl rfl rfl rfl dX11_bestSwap_1) (fun σ' h => ctX11_seatsNow h) (fun s1 => ?_)
  refine jq_aload_n Γ dX11_bestSwap_4 rfl 0 rfl (jq_at_0 at_M_0) ?_
  refine jq_cpI (jq_virt (avs := []) (st := []) Γ hlY rfl ml_RX11_332 rfl at_M_0 rfl rfl rfl rfl rfl dX11_bestSwap_5) (fun r h => ctX11_worthOfAll h) (fun v2 => ?_)
  refine jq_istore_n (L' := [(1, jI v2), (0, jR 0)]) Γ dX11_bestSwap_8 rfl hnl rfl rfl ?_
  refine jq_iconst Γ dX11_bestSwap_9 rfl ?_
  refine jq_istore_n (L' := [(2, jI (-1)), (1, jI v2), (0, jR 0)]) Γ dX11_bestSwap_10 rfl hnl rfl rfl ?_
  refine jq_iconst Γ dX11_bestSwap_11 rfl ?_
  refine jq_istore_n (L' := [(3, jI 0), (2, jI (-1)), (1, jI v2), (0, jR 0)]) Γ dX11_bestSwap_12 rfl hnl rfl rfl ?_
  refine jq_sub Γ (L' := [(0, jR 0), (1, jI v2), (2, jI (-1)), (3, jI 0)]) [3, 2, 1, 0] rfl ?_
  refine jq_loop2 (C := fun (t3 : Int × Int × Int × jq_M) => jq_V jq_zM X (jq_zN jq_zM) t3.2.2.2 13 [(0, jR 0), (1, jI t3.1), (2, jI t3.2.1), (3, jI t3.2.2.1)] []) (KX := fun (e23 : Int × jq_M) => jq_V jq_zM X (jq_zN jq_zM) e23.2 115 [(0, jR 0), (2, jI e23.1)] []) ?_ ?_ (v2, (-1), 0, s1)
  · intro K13_t3 hCt3 hXt3 t3
    unfold X11_bestSwap_b13
    refine jq_iload_n Γ dX11_bestSwap_13 rfl 3 rfl ?_
    refine jq_aload_n Γ dX11_bestSwap_14 rfl 0 rfl (jq_at_0 at_M_0) ?_
    refine jq_getR (v := 1) Γ hlY at_M_0 fl_RX11_7 rfl rfl ly_X11_at dX11_bestSwap_15 ?_
    refine jq_iconst Γ dX11_bestSwap_18 rfl ?_
    refine jq_iald Γ at_M_1 rfl dX11_bestSwap_19 (fun v4 => ?_)
    refine jq_icmp_ge (tgt := 115) Γ dX11_bestSwap_20 rfl ?_ ?_
    · refine jq_sub Γ (L' := [(0, jR 0), (2, jI t3.2.1)]) [0, 2] rfl ?_
      exact jq_done (hXt3 (t3.2.1, t3.2.2.2))
    · refine jq_iload_n Γ dX11_bestSwap_23 rfl 3 rfl ?_
      refine jq_iconst Γ dX11_bestSwap_24 rfl ?_
      refine jq_iadd Γ dX11_bestSwap_25 ?_
      refine jq_nmI (fun v5 => ?_)
      refine jq_istore (L' := [(4, jI v5), (0, jR 0), (1, jI t3.1), (2, jI t3.2.1), (3, jI t3.2.2.1)]) Γ dX11_bestSwap_26 hnl rfl rfl ?_
      refine jq_sub Γ (L' := [(0, jR 0), (1, jI t3.1), (2, jI t3.2.1), (3, jI t3.2.2.1), (4, jI v5)]) [1, 2, 3, 4, 0] rfl ?_
      refine jq_loop2 (C := fun (t6 : Int × Int × Int × jq_M) => jq_V jq_zM X (jq_zN jq_zM) t6.2.2.2 28 [(0, jR 0), (1, jI t6.1), (2, jI t6.2.1), (3, jI t3.2.2.1), (4, jI t6.2.2.1)] []) (KX := fun (e21 : Int × Int × jq_M) => jq_V jq_zM X (jq_zN jq_zM) e21.2.2 109 [(0, jR 0), (1, jI e21.1), (2, jI e21.2.1), (3, jI t3.2.2.1)] []) ?_ ?_ (t3.1, t3.2.1, v5, t3.2.2.2)
      · intro K28_t6 hCt6 hXt6 t6
        unfold X11_bestSwap_b28
        have hj63_1013 : ∀ (j9 : Int) (j10 : Int) (j11 : Int) (s12 : jq_M), jq_J (X11_bestSwap_j63 t3 j9 j10 j11 s12) K28_t6 (jq_V jq_zM X (jq_zN jq_zM) s12 63 [(0, jR 0), (1, jI j9), (2, jI j10), (3, jI t3.2.2.1), (4, jI j11)] []) := by
          intro j9 j10 j11 s12
          unfold X11_bestSwap_j63
          refine jq_aload_n Γ dX11_bestSwap_63 rfl 0 rfl (jq_at_0 at_M_0) ?_
          refine jq_iload_n Γ dX11_bestSwap_64 rfl 3 rfl ?_
          refine jq_iload Γ dX11_bestSwap_65 4 rfl ?_
          refine jq_cwV (jq_virt (avs := [jI t3.2.2.1, jI j11]) (st := []) Γ hlY rfl ml_RX11_410 rfl at_M_0 rfl rfl rfl rfl rfl dX11_bestSwap_67) (fun σ' h => ctX11_swapsSeats h) (fun s13 => ?_)
          refine jq_aload_n Γ dX11_bestSwap_70 rfl 0 rfl (jq_at_0 at_M_0) ?_
          refine jq_cpI (jq_virt (avs := []) (st := []) Γ hlY rfl ml_RX11_332 rfl at_M_0 rfl rfl rfl rfl rfl dX11_bestSwap_71) (fun r h => ctX11_worthOfAll h) (fun v14 => ?_)
          refine jq_istore (L' := [(5, jI v14), (0, jR 0), (1, jI j9), (2, jI j10), (3, jI t3.2.2.1), (4, jI j11)]) Γ dX11_bestSwap_74 hnl rfl rfl ?_
          refine jq_aload_n Γ dX11_bestSwap_76 rfl 1 rfl (jq_at_0 at_M_0) ?_
          refine jq_iload_n Γ dX11_bestSwap_77 rfl 4 rfl ?_
          refine jq_iload Γ dX11_bestSwap_78 5 rfl ?_
          refine jq_cwV (jq_virt (avs := [jI t3.2.2.1, jI j11]) (st := []) Γ hlY rfl ml_RX11_410 rfl at_M_0 rfl rfl rfl rfl rfl dX11_bestSwap_80) (fun σ' h => ctX11_swapsSeats h) (fun s15 => ?_)
          refine jq_iload Γ dX11_bestSwap_83 0 rfl ?_
          refine jq_iload_n Γ dX11_bestSwap_85 rfl 2 rfl ?_
          refine jq_icmp_gt (tgt := 92) Γ dX11_bestSwap_86 rfl ?_ ?_
          · refine jq_iload Γ dX11_bestSwap_92 0 rfl ?_
            refine jq_istore_n (L' := [(1, jI v14), (5, jI v14), (0, jR 0), (2, jI j10), (3, jI t3.2.2.1), (4, jI j11)]) Γ dX11_bestSwap_94 rfl hnl rfl rfl ?_
            refine jq_bipush Γ dX11_bestSwap_95 rfl ?_
            refine jq_iload_n Γ dX11_bestSwap_97 rfl 4 rfl ?_
            refine jq_imul Γ dX11_bestSwap_98 ?_
            refine jq_iload Γ dX11_bestSwap_99 5 rfl ?_
            refine jq_iadd Γ dX11_bestSwap_101 ?_
            refine jq_nmI (fun v16 => ?_)
            refine jq_istore_n (L' := [(2, jI v16), (1, jI v14), (5, jI v14), (0, jR 0), (3, jI t3.2.2.1), (4, jI j11)]) Γ dX11_bestSwap_102 rfl hnl rfl rfl ?_
            refine jq_iincN (L' := fun v17 => [(4, jI v17), (2, jI v16), (1, jI v14), (5, jI v14), (0, jR 0), (3, jI t3.2.2.1)]) Γ dX11_bestSwap_103 5 rfl hnl rfl (fun _ => rfl) (fun v17 => ?_)
            refine jq_goto Γ (tgt := 28) dX11_bestSwap_106 rfl ?_
            refine jq_sub Γ (L' := [(0, jR 0), (1, jI v14), (2, jI v16), (3, jI t3.2.2.1), (4, jI v17)]) [4, 2, 1, 5, 0] rfl ?_
            exact jq_done (hCt6 (v14, v16, v17, s15))
          · refine jq_goto Γ (tgt := 103) dX11_bestSwap_89 rfl ?_
            refine jq_iincN (L' := fun v18 => [(4, jI v18), (5, jI v14), (0, jR 0), (1, jI j9), (2, jI j10), (3, jI t3.2.2.1)]) Γ dX11_bestSwap_103 5 rfl hnl rfl (fun _ => rfl) (fun v18 => ?_)
            refine jq_goto Γ (tgt := 28) dX11_bestSwap_106 rfl ?_
            refine jq_sub Γ (L' := [(0, jR 0), (1, jI j9), (2, jI j10), (3, jI t3.2.2.1), (4, jI v18)]) [2, 3, 4, 5, 0] rfl ?_
            exact jq_done (hCt6 (j9, j10, v18, s15))
        refine jq_iload Γ dX11_bestSwap_28 4 rfl ?_
        refine jq_aload_n Γ dX11_bestSwap_30 rfl 0 rfl (jq_at_0 at_M_0) ?_
        refine jq_getR (v := 1) Γ hlY at_M_0 fl_RX11_7 rfl rfl ly_X11_at dX11_bestSwap_31 ?_
        refine jq_iconst Γ dX11_bestSwap_34 rfl ?_
        refine jq_iald Γ at_M_1 rfl dX11_bestSwap_35 (fun v7 => ?_)
        refine jq_icmp_ge (tgt := 109) Γ dX11_bestSwap_36 rfl ?_ ?_
        · refine jq_sub Γ (L' := [(0, jR 0), (1, jI t6.1), (2, jI t6.2.1), (3, jI t3.2.2.1)]) [0, 1, 2, 3] rfl ?_
          exact jq_done (hXt6 (t6.1, t6.2.1, t6.2.2.2))
        · refine jq_aload_n Γ dX11_bestSwap_39 rfl 0 rfl (jq_at_0 at_M_0) ?_
          refine jq_getR (v := 9) Γ hlY at_M_0 fl_RX11_47 rfl rfl ly_X11_seat dX11_bestSwap_40 ?_
          refine jq_iload_n Γ dX11_bestSwap_43 rfl 3 rfl ?_
          refine jq_iald Γ at_M_9 rfl dX11_bestSwap_44 (fun v8 => ?_)
          refine jq_iconst Γ dX11_bestSwap_45 rfl ?_
          refine jq_icmp_ne (tgt := 63) Γ dX11_bestSwap_46 rfl ?_ ?_
          · exact hj63_1013 t6.1 t6.2.1 t6.2.2.1 t6.2.2.2
          · refine jq_aload_n Γ dX11_bestSwap_49 rfl 0 rfl (jq_at_0 at_M_0) ?_
            refine jq_getR (v := 9) Γ hlY at_M_0 fl_RX11_47 rfl rfl ly_X11_seat dX11_bestSwap_50 ?_
            refine jq_iload Γ dX11_bestSwap_53 4 rfl ?_
            refine jq_iald Γ at_M_9 rfl dX11_bestSwap_55 (fun v19 => ?_)
            refine jq_iconst Γ dX11_bestSwap_56 rfl ?_
            refine jq_icmp_ne (tgt := 63) Γ dX11_bestSwap_57 rfl ?_ ?_
            · exact hj63_1013 t6.1 t6.2.1 t6.2.2.1 t6.2.2.2
            · refine jq_goto Γ (tgt := 103) dX11_bestSwap_60 rfl ?_
              refine jq_iincN (L' := fun v20 => [(4, jI v20), (0, jR 0), (1, jI t6.1), (2, jI t6.2.1), (3, jI t3.2.2.1)]) Γ dX11_bestSwap_103 4 rfl hnl rfl (fun _ => rfl) (fun v20 => ?_)
              refine jq_goto Γ (tgt := 28) dX11_bestSwap_106 rfl ?_
              refine jq_sub Γ (L' := [(0, jR 0), (1, jI t6.1), (2, jI t6.2.1), (3, jI t3.2.2.1), (4, jI v20)]) [1, 2, 3, 4, 0] rfl ?_
              exact jq_done (hCt6 (t6.1, t6.2.1, v20, t6.2.2.2))
      · intro e21
        refine jq_iincN (L' := fun v22 => [(3, jI v22), (0, jR 0), (1, jI e21.1), (2, jI e21.2.1)]) Γ dX11_bestSwap_109 3 rfl hnl rfl (fun _ => rfl) (fun v22 => ?_)
        refine jq_goto Γ (tgt := 13) dX11_bestSwap_112 rfl ?_
        refine jq_sub Γ (L' := [(0, jR 0), (1, jI e21.1), (2, jI e21.2.1), (3, jI v22)]) [1, 2, 3, 0] rfl ?_
        exact jq_done (hCt3 (e21.1, e21.2.1, v22, e21.2.2))
  · intro e23
    refine jq_aload_n Γ dX11_bestSwap_115 rfl 0 rfl (jq_at_0 at_M_0) ?_
    refine jq_iload_n Γ dX11_bestSwap_116 rfl 1 rfl ?_
    refine jq_cwI (jq_virt (avs := [jI e23.1]) (st := []) Γ hlY rfl ml_RX11_320 rfl at_M_0 rfl rfl rfl rfl rfl dX11_bestSwap_117) (fun r σ' h => ctX11_orNone h) (fun v24 s25 => ?_)
    exact jq_ireturn Γ dX11_bestSwap_120 (hK0 _)


theorem dX11_bestTurn_0 : decode cX11_bestTurn 0 = .ok (.aload_n 0, 1) := by decide +kernel
theorem dX11_bestTurn_1 : decode cX11_bestTurn 1 = .ok (.invokevirtual 302, 3) := by decide +kernel
theorem dX11_bestTurn_4 : decode cX11_bestTurn 4 = .ok (.aload_n 0, 1) := by decide +kernel
theorem dX11_bestTurn_5 : decode cX11_bestTurn 5 = .ok (.invokevirtual 332, 3) := by decide +kernel
theorem dX11_bestTurn_8 : decode cX11_bestTurn 8 = .ok (.istore_n 1, 1) := by decide +kernel
theorem dX11_bestTurn_9 : decode cX11_bestTurn 9 = .ok (.iconst (-1), 1) := by decide +kernel
theorem dX11_bestTurn_10 : decode cX11_bestTurn 10 = .ok (.istore_n 2, 1) := by decide +kernel
theorem dX11_bestTurn_11 : decode cX11_bestTurn 11 = .ok (.iconst 1, 1) := by decide +kernel
theorem dX11_bestTurn_12 : decode cX11_bestTurn 12 = .ok (.istore_n 3, 1) := by decide +kernel
theorem dX11_bestTurn_13 : decode cX11_bestTurn 13 = .ok (.iload_n 3, 1) := by decide +kernel
theorem dX11_bestTurn_14 : decode cX11_bestTurn 14 = .ok (.aload_n 0, 1) := by decide +kernel
theorem dX11_bestTurn_15 : decode cX11_bestTurn 15 = .ok (.getfield 7, 3) := by decide +kernel
theorem dX11_bestTurn_18 : decode cX11_bestTurn 18 = .ok (.iconst 0, 1) := by decide +kernel
theorem dX11_bestTurn_19 : decode cX11_bestTurn 19 = .ok (.iaload, 1) := by decide +kernel
theorem dX11_bestTurn_20 : decode cX11_bestTurn 20 = .ok (.if_icmp .ge 83, 3) := by decide +kernel
theorem dX11_bestTurn_23 : decode cX11_bestTurn 23 = .ok (.iconst 0, 1) := by decide +kernel
theorem dX11_bestTurn_24 : decode cX11_bestTurn 24 = .ok (.istore 4, 2) := by decide +kernel
theorem dX11_bestTurn_26 : decode cX11_bestTurn 26 = .ok (.iload 4, 2) := by decide +kernel
theorem dX11_bestTurn_28 : decode cX11_bestTurn 28 = .ok (.aload_n 0, 1) := by decide +kernel
theorem dX11_bestTurn_29 : decode cX11_bestTurn 29 = .ok (.getfield 7, 3) := by decide +kernel
theorem dX11_bestTurn_32 : decode cX11_bestTurn 32 = .ok (.iconst 1, 1) := by decide +kernel
theorem dX11_bestTurn_33 : decode cX11_bestTurn 33 = .ok (.iaload, 1) := by decide +kernel
theorem dX11_bestTurn_34 : decode cX11_bestTurn 34 = .ok (.if_icmp .ge 45, 3) := by decide +kernel
theorem dX11_bestTurn_37 : decode cX11_bestTurn 37 = .ok (.aload_n 0, 1) := by decide +kernel
theorem dX11_bestTurn_38 : decode cX11_bestTurn 38 = .ok (.getfield 47, 3) := by decide +kernel
theorem dX11_bestTurn_41 : decode cX11_bestTurn 41 = .ok (.iload 4, 2) := by decide +kernel
theorem dX11_bestTurn_43 : decode cX11_bestTurn 43 = .ok (.aload_n 0, 1) := by decide +kernel
theorem dX11_bestTurn_44 : decode cX11_bestTurn 44 = .ok (.iload 4, 2) := by decide +kernel
theorem dX11_bestTurn_46 : decode cX11_bestTurn 46 = .ok (.invokevirtual 257, 3) := by decide +kernel
theorem dX11_bestTurn_49 : decode cX11_bestTurn 49 = .ok (.iconst (-1), 1) := by decide +kernel
theorem dX11_bestTurn_50 : decode cX11_bestTurn 50 = .ok (.if_icmp .ne 7, 3) := by decide +kernel
theorem dX11_bestTurn_53 : decode cX11_bestTurn 53 = .ok (.iconst (-1), 1) := by decide +kernel
theorem dX11_bestTurn_54 : decode cX11_bestTurn 54 = .ok (.goto 18, 3) := by decide +kernel
theorem dX11_bestTurn_57 : decode cX11_bestTurn 57 = .ok (.aload_n 0, 1) := by decide +kernel
theorem dX11_bestTurn_58 : decode cX11_bestTurn 58 = .ok (.iload 4, 2) := by decide +kernel
theorem dX11_bestTurn_60 : decode cX11_bestTurn 60 = .ok (.invokevirtual 257, 3) := by decide +kernel
theorem dX11_bestTurn_63 : decode cX11_bestTurn 63 = .ok (.iload_n 3, 1) := by decide +kernel
theorem dX11_bestTurn_64 : decode cX11_bestTurn 64 = .ok (.iadd, 1) := by decide +kernel
theorem dX11_bestTurn_65 : decode cX11_bestTurn 65 = .ok (.aload_n 0, 1) := by decide +kernel
theorem dX11_bestTurn_66 : decode cX11_bestTurn 66 = .ok (.getfield 7, 3) := by decide +kernel
theorem dX11_bestTurn_69 : decode cX11_bestTurn 69 = .ok (.iconst 0, 1) := by decide +kernel
theorem dX11_bestTurn_70 : decode cX11_bestTurn 70 = .ok (.iaload, 1) := by decide +kernel
theorem dX11_bestTurn_71 : decode cX11_bestTurn 71 = .ok (.irem, 1) := by decide +kernel
theorem dX11_bestTurn_72 : decode cX11_bestTurn 72 = .ok (.iastore, 1) := by decide +kernel
theorem dX11_bestTurn_73 : decode cX11_bestTurn 73 = .ok (.iinc 4 1, 3) := by decide +kernel
theorem dX11_bestTurn_76 : decode cX11_bestTurn 76 = .ok (.goto (-50), 3) := by decide +kernel
theorem dX11_bestTurn_79 : decode cX11_bestTurn 79 = .ok (.aload_n 0, 1) := by decide +kernel
theorem dX11_bestTurn_80 : decode cX11_bestTurn 80 = .ok (.invokevirtual 332, 3) := by decide +kernel
theorem dX11_bestTurn_83 : decode cX11_bestTurn 83 = .ok (.iload_n 1, 1) := by decide +kernel
theorem dX11_bestTurn_84 : decode cX11_bestTurn 84 = .ok (.if_icmp .gt 6, 3) := by decide +kernel
theorem dX11_bestTurn_87 : decode cX11_bestTurn 87 = .ok (.goto 10, 3) := by decide +kernel
theorem dX11_bestTurn_90 : decode cX11_bestTurn 90 = .ok (.aload_n 0, 1) := by decide +kernel
theorem dX11_bestTurn_91 : decode cX11_bestTurn 91 = .ok (.invokevirtual 332, 3) := by decide +kernel
theorem dX11_bestTurn_94 : decode cX11_bestTurn 94 = .ok (.istore_n 1, 1) := by decide +kernel
theorem dX11_bestTurn_95 : decode cX11_bestTurn 95 = .ok (.iload_n 3, 1) := by decide +kernel
theorem dX11_bestTurn_96 : decode cX11_bestTurn 96 = .ok (.istore_n 2, 1) := by decide +kernel
theorem dX11_bestTurn_97 : decode cX11_bestTurn 97 = .ok (.iinc 3 1, 3) := by decide +kernel
theorem dX11_bestTurn_100 : decode cX11_bestTurn 100 = .ok (.goto (-87), 3) := by decide +kernel
theorem dX11_bestTurn_103 : decode cX11_bestTurn 103 = .ok (.aload_n 0, 1) := by decide +kernel
theorem dX11_bestTurn_104 : decode cX11_bestTurn 104 = .ok (.iload_n 2, 1) := by decide +kernel
theorem dX11_bestTurn_105 : decode cX11_bestTurn 105 = .ok (.invokevirtual 320, 3) := by decide +kernel
theorem dX11_bestTurn_108 : decode cX11_bestTurn 108 = .ok (.ireturn, 1) := by decide +kernel
set_option maxHeartbeats 4000000 in
set_option maxRecDepth 100000 in
theorem ctX11_bestTurn  {σ : jq_M} {res : Int} {σ' : jq_M}  (h : X11_bestTurn σ = some (res, σ')) : jq_MC jq_zM yX11_bestTurn cX11_bestTurn 5 (some .int) 4 109 [jR 0] σ (some (jI res)) σ' := by
  refine jq_met (own := RX11) (L0 := [(0, jR 0)]) (by decide) rfl rfl rfl ?_
  intro X Γ hnl hlY hRT
  refine jq_use2 (P := fun r => jq_RT jq_zM X (some .int) (some (jI r.1)) r.2) ?_ h hRT
  intro K0 hK0
  unfold X11_bestTurn
  refine jq_aload_n Γ dX11_bestTurn_0 rfl 0 rfl (jq_at_0 at_M_0) ?_
  refine jq_cwV (jq_virt (avs := []) (st := []) Γ hlY rfl ml_RX11_302 rfl at_M_0 rfl rfl rfl rfl rfl dX11_bestTurn_1) (fun σ' h => ctX11_seatsNow h) (fun s1 => ?_)
  refine jq_aload_n Γ dX11_bestTurn_4 rfl 0 rfl (jq_at_0 at_M_0) ?_
  refine jq_cpI (jq_virt (avs := []) (st := []) Γ hlY rfl ml_RX11_332 rfl at_M_0 rfl rfl rfl rfl rfl dX11_bestTurn_5) (fun r h => ctX11_worthOfAll h) (fun v2 => ?_)
  refine jq_istore_n (L' := [(1, jI v2), (0, jR 0)]) Γ dX11_bestTurn_8 rfl hnl rfl rfl ?_
  refine jq_iconst Γ dX11_bestTurn_9 rfl ?_
  refine jq_istore_n (L' := [(2, jI (-1)), (1, jI v2), (0, jR 0)]) Γ dX11_bestTurn_10 rfl hnl rfl rfl ?_
  refine jq_iconst Γ dX11_bestTurn_11 rfl ?_
  refine jq_istore_n (L' := [(3, jI 1), (2, jI (-1)), (1, jI v2), (0, jR 0)]) Γ dX11_bestTurn_12 rfl hnl rfl rfl ?_
  refine jq_sub Γ (L' := [(0, jR 0), (1, jI v2), (2, jI (-1)), (3, jI 1)]) [3, 2, 1, 0] rfl ?_
  refine jq_loop2 (C := fun (t3 : Int × Int × Int × jq_M) => jq_V jq_zM X (jq_zN jq_zM) t3.2.2.2 13 [(0, jR 0), (1, jI t3.1), (2, jI t3.2.1), (3, jI t3.2.2.1)] []) (KX := fun (e20 : Int × jq_M) => jq_V jq_zM X (jq_zN jq_zM) e20.2 103 [(0, jR 0), (2, jI e20.1)] []) ?_ ?_ (v2, (-1), 1, s1)
  · intro K13_t3 hCt3 hXt3 t3
    unfold X11_bestTurn_b13
    refine jq_iload_n Γ dX11_bestTurn_13 rfl 3 rfl ?_
    refine jq_aload_n Γ dX11_bestTurn_14 rfl 0 rfl (jq_at_0 at_M_0) ?_
    refine jq_getR (v := 1) Γ hlY at_M_0 fl_RX11_7 rfl rfl ly_X11_at dX11_bestTurn_15 ?_
    refine jq_iconst Γ dX11_bestTurn_18 rfl ?_
    refine jq_iald Γ at_M_1 rfl dX11_bestTurn_19 (fun v4 => ?_)
    refine jq_icmp_ge (tgt := 103) Γ dX11_bestTurn_20 rfl ?_ ?_
    · refine jq_sub Γ (L' := [(0, jR 0), (2, jI t3.2.1)]) [0, 2] rfl ?_
      exact jq_done (hXt3 (t3.2.1, t3.2.2.2))
    · refine jq_iconst Γ dX11_bestTurn_23 rfl ?_
      refine jq_istore (L' := [(4, jI 0), (0, jR 0), (1, jI t3.1), (2, jI t3.2.1), (3, jI t3.2.2.1)]) Γ dX11_bestTurn_24 hnl rfl rfl ?_
      refine jq_sub Γ (L' := [(0, jR 0), (1, jI t3.1), (2, jI t3.2.1), (3, jI t3.2.2.1), (4, jI 0)]) [1, 2, 3, 4, 0] rfl ?_
      refine jq_loop2 (C := fun (t5 : Int × jq_M) => jq_V jq_zM X (jq_zN jq_zM) t5.2 26 [(0, jR 0), (1, jI t3.1), (2, jI t3.2.1), (3, jI t3.2.2.1), (4, jI t5.1)] []) (KX := fun (e15 : jq_M) => jq_V jq_zM X (jq_zN jq_zM) e15 79 [(0, jR 0), (1, jI t3.1), (2, jI t3.2.1), (3, jI t3.2.2.1)] []) ?_ ?_ (0, t3.2.2.2)
      · intro K26_t5 hCt5 hXt5 t5
        unfold X11_bestTurn_b26
        refine jq_iload Γ dX11_bestTurn_26 4 rfl ?_
        refine jq_aload_n Γ dX11_bestTurn_28 rfl 0 rfl (jq_at_0 at_M_0) ?_
        refine jq_getR (v := 1) Γ hlY at_M_0 fl_RX11_7 rfl rfl ly_X11_at dX11_bestTurn_29 ?_
        refine jq_iconst Γ dX11_bestTurn_32 rfl ?_
        refine jq_iald Γ at_M_1 rfl dX11_bestTurn_33 (fun v6 => ?_)
        refine jq_icmp_ge (tgt := 79) Γ dX11_bestTurn_34 rfl ?_ ?_
        · refine jq_sub Γ (L' := [(0, jR 0), (1, jI t3.1), (2, jI t3.2.1), (3, jI t3.2.2.1)]) [0, 1, 2, 3] rfl ?_
          exact jq_done (hXt5 t5.2)
        · refine jq_aload_n Γ dX11_bestTurn_37 rfl 0 rfl (jq_at_0 at_M_0) ?_
          refine jq_getR (v := 9) Γ hlY at_M_0 fl_RX11_47 rfl rfl ly_X11_seat dX11_bestTurn_38 ?_
          refine jq_iload Γ dX11_bestTurn_41 4 rfl ?_
          refine jq_aload_n Γ dX11_bestTurn_43 rfl 0 rfl (jq_at_0 at_M_0) ?_
          refine jq_iload Γ dX11_bestTurn_44 4 rfl ?_
          refine jq_cpI (jq_virt (avs := [jI t5.1]) (st := [jI t5.1, jR 9]) Γ hlY rfl ml_RX11_257 rfl at_M_0 rfl rfl rfl rfl rfl dX11_bestTurn_46) (fun r h => ctX11_seatOf h) (fun v7 => ?_)
          refine jq_iconst Γ dX11_bestTurn_49 rfl ?_
          refine jq_icmp_ne (tgt := 57) Γ dX11_bestTurn_50 rfl ?_ ?_
          · refine jq_aload_n Γ dX11_bestTurn_57 rfl 0 rfl (jq_at_0 at_M_0) ?_
            refine jq_iload Γ dX11_bestTurn_58 4 rfl ?_
            refine jq_cpI (jq_virt (avs := [jI t5.1]) (st := [jI t5.1, jR 9]) Γ hlY rfl ml_RX11_257 rfl at_M_0 rfl rfl rfl rfl rfl dX11_bestTurn_60) (fun r h => ctX11_seatOf h) (fun v8 => ?_)
            refine jq_iload_n Γ dX11_bestTurn_63 rfl 3 rfl ?_
            refine jq_iadd Γ dX11_bestTurn_64 ?_
            refine jq_aload_n Γ dX11_bestTurn_65 rfl 0 rfl (jq_at_0 at_M_0) ?_
            refine jq_getR (v := 1) Γ hlY at_M_0 fl_RX11_7 rfl rfl ly_X11_at dX11_bestTurn_66 ?_
            refine jq_iconst Γ dX11_bestTurn_69 rfl ?_
            refine jq_iald Γ at_M_1 rfl dX11_bestTurn_70 (fun v9 => ?_)
            refine jq_iremR Γ dX11_bestTurn_71 (fun v10 => ?_)
            refine jq_iast Γ at_M_9 rfl dX11_bestTurn_72 (fun s11 => ?_)
            refine jq_iincN (L' := fun v12 => [(4, jI v12), (0, jR 0), (1, jI t3.1), (2, jI t3.2.1), (3, jI t3.2.2.1)]) Γ dX11_bestTurn_73 4 rfl hnl rfl (fun _ => rfl) (fun v12 => ?_)
            refine jq_goto Γ (tgt := 26) dX11_bestTurn_76 rfl ?_
            refine jq_sub Γ (L' := [(0, jR 0), (1, jI t3.1), (2, jI t3.2.1), (3, jI t3.2.2.1), (4, jI v12)]) [1, 2, 3, 4, 0] rfl ?_
            exact jq_done (hCt5 (v12, s11))
          · refine jq_iconst Γ dX11_bestTurn_53 rfl ?_
            refine jq_goto Γ (tgt := 72) dX11_bestTurn_54 rfl ?_
            refine jq_iast Γ at_M_9 rfl dX11_bestTurn_72 (fun s13 => ?_)
            refine jq_iincN (L' := fun v14 => [(4, jI v14), (0, jR 0), (1, jI t3.1), (2, jI t3.2.1), (3, jI t3.2.2.1)]) Γ dX11_bestTurn_73 4 rfl hnl rfl (fun _ => rfl) (fun v14 => ?_)
            refine jq_goto Γ (tgt := 26) dX11_bestTurn_76 rfl ?_
            refine jq_sub Γ (L' := [(0, jR 0), (1, jI t3.1), (2, jI t3.2.1), (3, jI t3.2.2.1), (4, jI v14)]) [1, 2, 3, 4, 0] rfl ?_
            exact jq_done (hCt5 (v14, s13))
      · intro e15
        refine jq_aload_n Γ dX11_bestTurn_79 rfl 0 rfl (jq_at_0 at_M_0) ?_
        refine jq_cpI (jq_virt (avs := []) (st := []) Γ hlY rfl ml_RX11_332 rfl at_M_0 rfl rfl rfl rfl rfl dX11_bestTurn_80) (fun r h => ctX11_worthOfAll h) (fun v16 => ?_)
        refine jq_iload_n Γ dX11_bestTurn_83 rfl 1 rfl ?_
        refine jq_icmp_gt (tgt := 90) Γ dX11_bestTurn_84 rfl ?_ ?_
        · refine jq_aload_n Γ dX11_bestTurn_90 rfl 0 rfl (jq_at_0 at_M_0) ?_
          refine jq_cpI (jq_virt (avs := []) (st := []) Γ hlY rfl ml_RX11_332 rfl at_M_0 rfl rfl rfl rfl rfl dX11_bestTurn_91) (fun r h => ctX11_worthOfAll h) (fun v17 => ?_)
          refine jq_istore_n (L' := [(1, jI v17), (0, jR 0), (2, jI t3.2.1), (3, jI t3.2.2.1)]) Γ dX11_bestTurn_94 rfl hnl rfl rfl ?_
          refine jq_iload_n Γ dX11_bestTurn_95 rfl 3 rfl ?_
          refine jq_istore_n (L' := [(2, jI t3.2.2.1), (1, jI v17), (0, jR 0), (3, jI t3.2.2.1)]) Γ dX11_bestTurn_96 rfl hnl rfl rfl ?_
          refine jq_iincN (L' := fun v18 => [(3, jI v18), (2, jI t3.2.2.1), (1, jI v17), (0, jR 0)]) Γ dX11_bestTurn_97 3 rfl hnl rfl (fun _ => rfl) (fun v18 => ?_)
          refine jq_goto Γ (tgt := 13) dX11_bestTurn_100 rfl ?_
          refine jq_sub Γ (L' := [(0, jR 0), (1, jI v17), (2, jI t3.2.2.1), (3, jI v18)]) [3, 2, 1, 0] rfl ?_
          exact jq_done (hCt3 (v17, t3.2.2.1, v18, e15))
        · refine jq_goto Γ (tgt := 97) dX11_bestTurn_87 rfl ?_
          refine jq_iincN (L' := fun v19 => [(3, jI v19), (0, jR 0), (1, jI t3.1), (2, jI t3.2.1)]) Γ dX11_bestTurn_97 3 rfl hnl rfl (fun _ => rfl) (fun v19 => ?_)
          refine jq_goto Γ (tgt := 13) dX11_bestTurn_100 rfl ?_
          refine jq_sub Γ (L' := [(0, jR 0), (1, jI t3.1), (2, jI t3.2.1), (3, jI v19)]) [1, 2, 3, 0] rfl ?_
          exact jq_done (hCt3 (t3.1, t3.2.1, v19, e15))
  · intro e20
    refine jq_aload_n Γ dX11_bestTurn_103 rfl 0 rfl (jq_at_0 at_M_0) ?_
    refine jq_iload_n Γ dX11_bestTurn_104 rfl 1 rfl ?_
    refine jq_cwI (jq_virt (avs := [jI e20.1]) (st := []) Γ hlY rfl ml_RX11_320 rfl at_M_0 rfl rfl rfl rfl rfl dX11_bestTurn_105) (fun r σ' h => ctX11_orNone h) (fun v21 s22 => ?_)
    exact jq_ireturn Γ dX11_bestTurn_108 (hK0 _)


theorem dX11_signsBy_0 : decode cX11_signsBy 0 = .ok (.aload_n 0, 1) := by decide +kernel
theorem dX11_signsBy_1 : decode cX11_signsBy 1 = .ok (.iload_n 1, 1) := by decide +kernel
theorem dX11_signsBy_2 : decode cX11_signsBy 2 = .ok (.iload_n 2, 1) := by decide +kernel
theorem dX11_signsBy_3 : decode cX11_signsBy 3 = .ok (.invokevirtual 326, 3) := by decide +kernel
theorem dX11_signsBy_6 : decode cX11_signsBy 6 = .ok (.ifCond .ne 9, 3) := by decide +kernel
theorem dX11_signsBy_9 : decode cX11_signsBy 9 = .ok (.aload_n 0, 1) := by decide +kernel
theorem dX11_signsBy_10 : decode cX11_signsBy 10 = .ok (.iconst 1, 1) := by decide +kernel
theorem dX11_signsBy_11 : decode cX11_signsBy 11 = .ok (.invokevirtual 84, 3) := by decide +kernel
theorem dX11_signsBy_14 : decode cX11_signsBy 14 = .ok (.ireturn, 1) := by decide +kernel
theorem dX11_signsBy_15 : decode cX11_signsBy 15 = .ok (.aload_n 0, 1) := by decide +kernel
theorem dX11_signsBy_16 : decode cX11_signsBy 16 = .ok (.invokevirtual 302, 3) := by decide +kernel
theorem dX11_signsBy_19 : decode cX11_signsBy 19 = .ok (.aload_n 0, 1) := by decide +kernel
theorem dX11_signsBy_20 : decode cX11_signsBy 20 = .ok (.getfield 47, 3) := by decide +kernel
theorem dX11_signsBy_23 : decode cX11_signsBy 23 = .ok (.iload_n 1, 1) := by decide +kernel
theorem dX11_signsBy_24 : decode cX11_signsBy 24 = .ok (.iaload, 1) := by decide +kernel
theorem dX11_signsBy_25 : decode cX11_signsBy 25 = .ok (.iconst (-1), 1) := by decide +kernel
theorem dX11_signsBy_26 : decode cX11_signsBy 26 = .ok (.if_icmp .ne 20, 3) := by decide +kernel
theorem dX11_signsBy_29 : decode cX11_signsBy 29 = .ok (.aload_n 0, 1) := by decide +kernel
theorem dX11_signsBy_30 : decode cX11_signsBy 30 = .ok (.getfield 47, 3) := by decide +kernel
theorem dX11_signsBy_33 : decode cX11_signsBy 33 = .ok (.iload_n 2, 1) := by decide +kernel
theorem dX11_signsBy_34 : decode cX11_signsBy 34 = .ok (.iaload, 1) := by decide +kernel
theorem dX11_signsBy_35 : decode cX11_signsBy 35 = .ok (.iconst (-1), 1) := by decide +kernel
theorem dX11_signsBy_36 : decode cX11_signsBy 36 = .ok (.if_icmp .ne 10, 3) := by decide +kernel
theorem dX11_signsBy_39 : decode cX11_signsBy 39 = .ok (.aload_n 0, 1) := by decide +kernel
theorem dX11_signsBy_40 : decode cX11_signsBy 40 = .ok (.bipush 7, 2) := by decide +kernel
theorem dX11_signsBy_42 : decode cX11_signsBy 42 = .ok (.invokevirtual 84, 3) := by decide +kernel
theorem dX11_signsBy_45 : decode cX11_signsBy 45 = .ok (.ireturn, 1) := by decide +kernel
theorem dX11_signsBy_46 : decode cX11_signsBy 46 = .ok (.aload_n 0, 1) := by decide +kernel
theorem dX11_signsBy_47 : decode cX11_signsBy 47 = .ok (.iload_n 1, 1) := by decide +kernel
theorem dX11_signsBy_48 : decode cX11_signsBy 48 = .ok (.iload_n 2, 1) := by decide +kernel
theorem dX11_signsBy_49 : decode cX11_signsBy 49 = .ok (.invokevirtual 410, 3) := by decide +kernel
theorem dX11_signsBy_52 : decode cX11_signsBy 52 = .ok (.aload_n 0, 1) := by decide +kernel
theorem dX11_signsBy_53 : decode cX11_signsBy 53 = .ok (.aload_n 0, 1) := by decide +kernel
theorem dX11_signsBy_54 : decode cX11_signsBy 54 = .ok (.invokevirtual 308, 3) := by decide +kernel
theorem dX11_signsBy_57 : decode cX11_signsBy 57 = .ok (.invokevirtual 88, 3) := by decide +kernel
theorem dX11_signsBy_60 : decode cX11_signsBy 60 = .ok (.ireturn, 1) := by decide +kernel
set_option maxHeartbeats 4000000 in
set_option maxRecDepth 100000 in
theorem ctX11_signsBy {p1 : Int} {p2 : Int} {σ : jq_M} {res : Int} {σ' : jq_M}  (h : X11_signsBy p1 p2 σ = some (res, σ')) : jq_MC jq_zM yX11_signsBy cX11_signsBy 3 (some .int) 6 153 [jR 0, jI p1, jI p2] σ (some (jI res)) σ' := by
  refine jq_met (own := RX11) (L0 := [(0, jR 0), (1, jI p1), (2, jI p2)]) (by decide) rfl rfl rfl ?_
  intro X Γ hnl hlY hRT
  refine jq_use2 (P := fun r => jq_RT jq_zM X (some .int) (some (jI r.1)) r.2) ?_ h hRT
  intro K0 hK0
  unfold X11_signsBy
  have hj46_0 : ∀ (s5 : jq_M), jq_J (X11_signsBy_j46 p1 p2 s5) K0 (jq_V jq_zM X (jq_zN jq_zM) s5 46 [(0, jR 0), (1, jI p1), (2, jI p2)] []) := by
    intro s5
    unfold X11_signsBy_j46
    refine jq_aload_n Γ dX11_signsBy_46 rfl 0 rfl (jq_at_0 at_M_0) ?_
    refine jq_iload_n Γ dX11_signsBy_47 rfl 1 rfl ?_
    refine jq_iload_n Γ dX11_signsBy_48 rfl 2 rfl ?_
    refine jq_cwV (jq_virt (avs := [jI p1, jI p2]) (st := []) Γ hlY rfl ml_RX11_410 rfl at_M_0 rfl rfl rfl rfl rfl dX11_signsBy_49) (fun σ' h => ctX11_swapsSeats h) (fun s6 => ?_)
    refine jq_aload_n Γ dX11_signsBy_52 rfl 0 rfl (jq_at_0 at_M_0) ?_
    refine jq_aload_n Γ dX11_signsBy_53 rfl 0 rfl (jq_at_0 at_M_0) ?_
    refine jq_cpI (jq_virt (avs := []) (st := [jR 0]) Γ hlY rfl ml_RX11_308 rfl at_M_0 rfl rfl rfl rfl rfl dX11_signsBy_54) (fun r h => ctX11_signing h) (fun v7 => ?_)
    refine jq_cwI (jq_virt (avs := [jI v7]) (st := []) Γ hlY rfl ml_RX11_88 rfl at_M_0 rfl rfl rfl rfl rfl dX11_signsBy_57) (fun r σ' h => ctX11_gives h) (fun v8 s9 => ?_)
    exact jq_ireturn Γ dX11_signsBy_60 (hK0 _)
  refine jq_aload_n Γ dX11_signsBy_0 rfl 0 rfl (jq_at_0 at_M_0) ?_
  refine jq_iload_n Γ dX11_signsBy_1 rfl 1 rfl ?_
  refine jq_iload_n Γ dX11_signsBy_2 rfl 2 rfl ?_
  refine jq_cpZ (jq_virt (avs := [jI p1, jI p2]) (st := []) Γ hlY rfl ml_RX11_326 rfl at_M_0 rfl rfl rfl rfl rfl dX11_signsBy_3) rfl (fun r h => ctX11_areTwo h) (fun v1 hz2 => ?_)
  refine jq_if_ne (tgt := 15) Γ dX11_signsBy_6 rfl ?_ ?_
  · refine jq_aload_n Γ dX11_signsBy_15 rfl 0 rfl (jq_at_0 at_M_0) ?_
    refine jq_cwV (jq_virt (avs := []) (st := []) Γ hlY rfl ml_RX11_302 rfl at_M_0 rfl rfl rfl rfl rfl dX11_signsBy_16) (fun σ' h => ctX11_seatsNow h) (fun s3 => ?_)
    refine jq_aload_n Γ dX11_signsBy_19 rfl 0 rfl (jq_at_0 at_M_0) ?_
    refine jq_getR (v := 9) Γ hlY at_M_0 fl_RX11_47 rfl rfl ly_X11_seat dX11_signsBy_20 ?_
    refine jq_iload_n Γ dX11_signsBy_23 rfl 1 rfl ?_
    refine jq_iald Γ at_M_9 rfl dX11_signsBy_24 (fun v4 => ?_)
    refine jq_iconst Γ dX11_signsBy_25 rfl ?_
    refine jq_icmp_ne (tgt := 46) Γ dX11_signsBy_26 rfl ?_ ?_
    · exact hj46_0 s3
    · refine jq_aload_n Γ dX11_signsBy_29 rfl 0 rfl (jq_at_0 at_M_0) ?_
      refine jq_getR (v := 9) Γ hlY at_M_0 fl_RX11_47 rfl rfl ly_X11_seat dX11_signsBy_30 ?_
      refine jq_iload_n Γ dX11_signsBy_33 rfl 2 rfl ?_
      refine jq_iald Γ at_M_9 rfl dX11_signsBy_34 (fun v10 => ?_)
      refine jq_iconst Γ dX11_signsBy_35 rfl ?_
      refine jq_icmp_ne (tgt := 46) Γ dX11_signsBy_36 rfl ?_ ?_
      · exact hj46_0 s3
      · refine jq_aload_n Γ dX11_signsBy_39 rfl 0 rfl (jq_at_0 at_M_0) ?_
        refine jq_bipush Γ dX11_signsBy_40 rfl ?_
        refine jq_cwI (jq_virt (avs := [jI 7]) (st := []) Γ hlY rfl ml_RX11_84 rfl at_M_0 rfl rfl rfl rfl rfl dX11_signsBy_42) (fun r σ' h => ctX11_refuse h) (fun v11 s12 => ?_)
        exact jq_ireturn Γ dX11_signsBy_45 (hK0 _)
  · refine jq_aload_n Γ dX11_signsBy_9 rfl 0 rfl (jq_at_0 at_M_0) ?_
    refine jq_iconst Γ dX11_signsBy_10 rfl ?_
    refine jq_cwI (jq_virt (avs := [jI 1]) (st := []) Γ hlY rfl ml_RX11_84 rfl at_M_0 rfl rfl rfl rfl rfl dX11_signsBy_11) (fun r σ' h => ctX11_refuse h) (fun v13 s14 => ?_)
    exact jq_ireturn Γ dX11_signsBy_14 (hK0 _)


theorem dX11_keepsSeats_0 : decode cX11_keepsSeats 0 = .ok (.iconst 0, 1) := by decide +kernel
theorem dX11_keepsSeats_1 : decode cX11_keepsSeats 1 = .ok (.istore_n 2, 1) := by decide +kernel
theorem dX11_keepsSeats_2 : decode cX11_keepsSeats 2 = .ok (.iload_n 2, 1) := by decide +kernel
theorem dX11_keepsSeats_3 : decode cX11_keepsSeats 3 = .ok (.iconst 5, 1) := by decide +kernel
theorem dX11_keepsSeats_4 : decode cX11_keepsSeats 4 = .ok (.if_icmp .ge 25, 3) := by decide +kernel
theorem dX11_keepsSeats_7 : decode cX11_keepsSeats 7 = .ok (.aload_n 0, 1) := by decide +kernel
theorem dX11_keepsSeats_8 : decode cX11_keepsSeats 8 = .ok (.getfield 56, 3) := by decide +kernel
theorem dX11_keepsSeats_11 : decode cX11_keepsSeats 11 = .ok (.iconst 5, 1) := by decide +kernel
theorem dX11_keepsSeats_12 : decode cX11_keepsSeats 12 = .ok (.iload_n 1, 1) := by decide +kernel
theorem dX11_keepsSeats_13 : decode cX11_keepsSeats 13 = .ok (.imul, 1) := by decide +kernel
theorem dX11_keepsSeats_14 : decode cX11_keepsSeats 14 = .ok (.iload_n 2, 1) := by decide +kernel
theorem dX11_keepsSeats_15 : decode cX11_keepsSeats 15 = .ok (.iadd, 1) := by decide +kernel
theorem dX11_keepsSeats_16 : decode cX11_keepsSeats 16 = .ok (.aload_n 0, 1) := by decide +kernel
theorem dX11_keepsSeats_17 : decode cX11_keepsSeats 17 = .ok (.getfield 47, 3) := by decide +kernel
theorem dX11_keepsSeats_20 : decode cX11_keepsSeats 20 = .ok (.iload_n 2, 1) := by decide +kernel
theorem dX11_keepsSeats_21 : decode cX11_keepsSeats 21 = .ok (.iaload, 1) := by decide +kernel
theorem dX11_keepsSeats_22 : decode cX11_keepsSeats 22 = .ok (.iastore, 1) := by decide +kernel
theorem dX11_keepsSeats_23 : decode cX11_keepsSeats 23 = .ok (.iinc 2 1, 3) := by decide +kernel
theorem dX11_keepsSeats_26 : decode cX11_keepsSeats 26 = .ok (.goto (-24), 3) := by decide +kernel
theorem dX11_keepsSeats_29 : decode cX11_keepsSeats 29 = .ok (.return_, 1) := by decide +kernel
set_option maxHeartbeats 4000000 in
set_option maxRecDepth 100000 in
theorem ctX11_keepsSeats {p1 : Int} {σ : jq_M} {σ' : jq_M}  (h : X11_keepsSeats p1 σ = some σ') : jq_MC jq_zM yX11_keepsSeats cX11_keepsSeats 3 none 1 40 [jR 0, jI p1] σ none σ' := by
  refine jq_met (own := RX11) (L0 := [(0, jR 0), (1, jI p1)]) (by decide) rfl rfl rfl ?_
  intro X Γ hnl hlY hRT
  refine jq_use2 (P := fun r => jq_RT jq_zM X none none r) ?_ h hRT
  intro K0 hK0
  unfold X11_keepsSeats
  refine jq_iconst Γ dX11_keepsSeats_0 rfl ?_
  refine jq_istore_n (L' := [(2, jI 0), (0, jR 0), (1, jI p1)]) Γ dX11_keepsSeats_1 rfl hnl rfl rfl ?_
  refine jq_sub Γ (L' := [(0, jR 0), (1, jI p1), (2, jI 0)]) [1, 2, 0] rfl ?_
  refine jq_loop2 (C := fun (t1 : Int × jq_M) => jq_V jq_zM X (jq_zN jq_zM) t1.2 2 [(0, jR 0), (1, jI p1), (2, jI t1.1)] []) (KX := fun (e5 : jq_M) => jq_V jq_zM X (jq_zN jq_zM) e5 29 [] []) ?_ ?_ (0, σ)
  · intro K2_t1 hCt1 hXt1 t1
    unfold X11_keepsSeats_b2
    refine jq_iload_n Γ dX11_keepsSeats_2 rfl 2 rfl ?_
    refine jq_iconst Γ dX11_keepsSeats_3 rfl ?_
    refine jq_icmp_ge (tgt := 29) Γ dX11_keepsSeats_4 rfl ?_ ?_
    · refine jq_sub Γ (L' := []) [] rfl ?_
      exact jq_done (hXt1 t1.2)
    · refine jq_aload_n Γ dX11_keepsSeats_7 rfl 0 rfl (jq_at_0 at_M_0) ?_
      refine jq_getR (v := 12) Γ hlY at_M_0 fl_RX11_56 rfl rfl ly_X11_seatsOn dX11_keepsSeats_8 ?_
      refine jq_iconst Γ dX11_keepsSeats_11 rfl ?_
      refine jq_iload_n Γ dX11_keepsSeats_12 rfl 1 rfl ?_
      refine jq_imul Γ dX11_keepsSeats_13 ?_
      refine jq_iload_n Γ dX11_keepsSeats_14 rfl 2 rfl ?_
      refine jq_iadd Γ dX11_keepsSeats_15 ?_
      refine jq_aload_n Γ dX11_keepsSeats_16 rfl 0 rfl (jq_at_0 at_M_0) ?_
      refine jq_getR (v := 9) Γ hlY at_M_0 fl_RX11_47 rfl rfl ly_X11_seat dX11_keepsSeats_17 ?_
      refine jq_iload_n Γ dX11_keepsSeats_20 rfl 2 rfl ?_
      refine jq_iald Γ at_M_9 rfl dX11_keepsSeats_21 (fun v2 => ?_)
      refine jq_iast Γ at_M_12 rfl dX11_keepsSeats_22 (fun s3 => ?_)
      refine jq_iincN (L' := fun v4 => [(2, jI v4), (0, jR 0), (1, jI p1)]) Γ dX11_keepsSeats_23 2 rfl hnl rfl (fun _ => rfl) (fun v4 => ?_)
      refine jq_goto Γ (tgt := 2) dX11_keepsSeats_26 rfl ?_
      refine jq_sub Γ (L' := [(0, jR 0), (1, jI p1), (2, jI v4)]) [1, 2, 0] rfl ?_
      exact jq_done (hCt1 (v4, s3))
  · intro e5
    exact jq_vreturn Γ dX11_keepsSeats_29 (hK0 _)


theorem dX11_givesSeats_0 : decode cX11_givesSeats 0 = .ok (.iconst 0, 1) := by decide +kernel
theorem dX11_givesSeats_1 : decode cX11_givesSeats 1 = .ok (.istore_n 2, 1) := by decide +kernel
theorem dX11_givesSeats_2 : decode cX11_givesSeats 2 = .ok (.iload_n 2, 1) := by decide +kernel
theorem dX11_givesSeats_3 : decode cX11_givesSeats 3 = .ok (.iconst 5, 1) := by decide +kernel
theorem dX11_givesSeats_4 : decode cX11_givesSeats 4 = .ok (.if_icmp .ge 25, 3) := by decide +kernel
theorem dX11_givesSeats_7 : decode cX11_givesSeats 7 = .ok (.aload_n 0, 1) := by decide +kernel
theorem dX11_givesSeats_8 : decode cX11_givesSeats 8 = .ok (.getfield 47, 3) := by decide +kernel
theorem dX11_givesSeats_11 : decode cX11_givesSeats 11 = .ok (.iload_n 2, 1) := by decide +kernel
theorem dX11_givesSeats_12 : decode cX11_givesSeats 12 = .ok (.aload_n 0, 1) := by decide +kernel
theorem dX11_givesSeats_13 : decode cX11_givesSeats 13 = .ok (.getfield 56, 3) := by decide +kernel
theorem dX11_givesSeats_16 : decode cX11_givesSeats 16 = .ok (.iconst 5, 1) := by decide +kernel
theorem dX11_givesSeats_17 : decode cX11_givesSeats 17 = .ok (.iload_n 1, 1) := by decide +kernel
theorem dX11_givesSeats_18 : decode cX11_givesSeats 18 = .ok (.imul, 1) := by decide +kernel
theorem dX11_givesSeats_19 : decode cX11_givesSeats 19 = .ok (.iload_n 2, 1) := by decide +kernel
theorem dX11_givesSeats_20 : decode cX11_givesSeats 20 = .ok (.iadd, 1) := by decide +kernel
theorem dX11_givesSeats_21 : decode cX11_givesSeats 21 = .ok (.iaload, 1) := by decide +kernel
theorem dX11_givesSeats_22 : decode cX11_givesSeats 22 = .ok (.iastore, 1) := by decide +kernel
theorem dX11_givesSeats_23 : decode cX11_givesSeats 23 = .ok (.iinc 2 1, 3) := by decide +kernel
theorem dX11_givesSeats_26 : decode cX11_givesSeats 26 = .ok (.goto (-24), 3) := by decide +kernel
theorem dX11_givesSeats_29 : decode cX11_givesSeats 29 = .ok (.return_, 1) := by decide +kernel
set_option maxHeartbeats 4000000 in
set_option maxRecDepth 100000 in
theorem ctX11_givesSeats {p1 : Int} {σ : jq_M} {σ' : jq_M}  (h : X11_givesSeats p1 σ = some σ') : jq_MC jq_zM yX11_givesSeats cX11_givesSeats 3 none 1 40 [jR 0, jI p1] σ none σ' := by
  refine jq_met (own := RX11) (L0 := [(0, jR 0), (1, jI p1)]) (by decide) rfl rfl rfl ?_
  intro X Γ hnl hlY hRT
  refine jq_use2 (P := fun r => jq_RT jq_zM X none none r) ?_ h hRT
  intro K0 hK0
  unfold X11_givesSeats
  refine jq_iconst Γ dX11_givesSeats_0 rfl ?_
  refine jq_istore_n (L' := [(2, jI 0), (0, jR 0), (1, jI p1)]) Γ dX11_givesSeats_1 rfl hnl rfl rfl ?_
  refine jq_sub Γ (L' := [(0, jR 0), (1, jI p1), (2, jI 0)]) [1, 2, 0] rfl ?_
  refine jq_loop2 (C := fun (t1 : Int × jq_M) => jq_V jq_zM X (jq_zN jq_zM) t1.2 2 [(0, jR 0), (1, jI p1), (2, jI t1.1)] []) (KX := fun (e5 : jq_M) => jq_V jq_zM X (jq_zN jq_zM) e5 29 [] []) ?_ ?_ (0, σ)
  · intro K2_t1 hCt1 hXt1 t1
    unfold X11_givesSeats_b2
    refine jq_iload_n Γ dX11_givesSeats_2 rfl 2 rfl ?_
    refine jq_iconst Γ dX11_givesSeats_3 rfl ?_
    refine jq_icmp_ge (tgt := 29) Γ dX11_givesSeats_4 rfl ?_ ?_
    · refine jq_sub Γ (L' := []) [] rfl ?_
      exact jq_done (hXt1 t1.2)
    · refine jq_aload_n Γ dX11_givesSeats_7 rfl 0 rfl (jq_at_0 at_M_0) ?_
      refine jq_getR (v := 9) Γ hlY at_M_0 fl_RX11_47 rfl rfl ly_X11_seat dX11_givesSeats_8 ?_
      refine jq_iload_n Γ dX11_givesSeats_11 rfl 2 rfl ?_
      refine jq_aload_n Γ dX11_givesSeats_12 rfl 0 rfl (jq_at_0 at_M_0) ?_
      refine jq_getR (v := 12) Γ hlY at_M_0 fl_RX11_56 rfl rfl ly_X11_seatsOn dX11_givesSeats_13 ?_
      refine jq_iconst Γ dX11_givesSeats_16 rfl ?_
      refine jq_iload_n Γ dX11_givesSeats_17 rfl 1 rfl ?_
      refine jq_imul Γ dX11_givesSeats_18 ?_
      refine jq_iload_n Γ dX11_givesSeats_19 rfl 2 rfl ?_
      refine jq_iadd Γ dX11_givesSeats_20 ?_
      refine jq_iald Γ at_M_12 rfl dX11_givesSeats_21 (fun v2 => ?_)
      refine jq_iast Γ at_M_9 rfl dX11_givesSeats_22 (fun s3 => ?_)
      refine jq_iincN (L' := fun v4 => [(2, jI v4), (0, jR 0), (1, jI p1)]) Γ dX11_givesSeats_23 2 rfl hnl rfl (fun _ => rfl) (fun v4 => ?_)
      refine jq_goto Γ (tgt := 2) dX11_givesSeats_26 rfl ?_
      refine jq_sub Γ (L' := [(0, jR 0), (1, jI p1), (2, jI v4)]) [1, 2, 0] rfl ?_
      exact jq_done (hCt1 (v4, s3))
  · intro e5
    exact jq_vreturn Γ dX11_givesSeats_29 (hK0 _)


theorem dX11_weighs_0 : decode cX11_weighs 0 = .ok (.aload_n 0, 1) := by decide +kernel
theorem dX11_weighs_1 : decode cX11_weighs 1 = .ok (.getfield 53, 3) := by decide +kernel
theorem dX11_weighs_4 : decode cX11_weighs 4 = .ok (.iload_n 1, 1) := by decide +kernel
theorem dX11_weighs_5 : decode cX11_weighs 5 = .ok (.iaload, 1) := by decide +kernel
theorem dX11_weighs_6 : decode cX11_weighs 6 = .ok (.ldc_w 409, 3) := by decide +kernel
theorem dX11_weighs_9 : decode cX11_weighs 9 = .ok (.if_icmp .eq 33, 3) := by decide +kernel
theorem dX11_weighs_12 : decode cX11_weighs 12 = .ok (.iload_n 1, 1) := by decide +kernel
theorem dX11_weighs_13 : decode cX11_weighs 13 = .ok (.iconst 2, 1) := by decide +kernel
theorem dX11_weighs_14 : decode cX11_weighs 14 = .ok (.irem, 1) := by decide +kernel
theorem dX11_weighs_15 : decode cX11_weighs 15 = .ok (.ifCond .ne 16, 3) := by decide +kernel
theorem dX11_weighs_18 : decode cX11_weighs 18 = .ok (.iload_n 2, 1) := by decide +kernel
theorem dX11_weighs_19 : decode cX11_weighs 19 = .ok (.aload_n 0, 1) := by decide +kernel
theorem dX11_weighs_20 : decode cX11_weighs 20 = .ok (.getfield 53, 3) := by decide +kernel
theorem dX11_weighs_23 : decode cX11_weighs 23 = .ok (.iload_n 1, 1) := by decide +kernel
theorem dX11_weighs_24 : decode cX11_weighs 24 = .ok (.iaload, 1) := by decide +kernel
theorem dX11_weighs_25 : decode cX11_weighs 25 = .ok (.if_icmp .gt 17, 3) := by decide +kernel
theorem dX11_weighs_28 : decode cX11_weighs 28 = .ok (.goto 13, 3) := by decide +kernel
theorem dX11_weighs_31 : decode cX11_weighs 31 = .ok (.iload_n 2, 1) := by decide +kernel
theorem dX11_weighs_32 : decode cX11_weighs 32 = .ok (.aload_n 0, 1) := by decide +kernel
theorem dX11_weighs_33 : decode cX11_weighs 33 = .ok (.getfield 53, 3) := by decide +kernel
theorem dX11_weighs_36 : decode cX11_weighs 36 = .ok (.iload_n 1, 1) := by decide +kernel
theorem dX11_weighs_37 : decode cX11_weighs 37 = .ok (.iaload, 1) := by decide +kernel
theorem dX11_weighs_38 : decode cX11_weighs 38 = .ok (.if_icmp .lt 4, 3) := by decide +kernel
theorem dX11_weighs_41 : decode cX11_weighs 41 = .ok (.return_, 1) := by decide +kernel
theorem dX11_weighs_42 : decode cX11_weighs 42 = .ok (.aload_n 0, 1) := by decide +kernel
theorem dX11_weighs_43 : decode cX11_weighs 43 = .ok (.getfield 53, 3) := by decide +kernel
theorem dX11_weighs_46 : decode cX11_weighs 46 = .ok (.iload_n 1, 1) := by decide +kernel
theorem dX11_weighs_47 : decode cX11_weighs 47 = .ok (.iload_n 2, 1) := by decide +kernel
theorem dX11_weighs_48 : decode cX11_weighs 48 = .ok (.iastore, 1) := by decide +kernel
theorem dX11_weighs_49 : decode cX11_weighs 49 = .ok (.iload_n 1, 1) := by decide +kernel
theorem dX11_weighs_50 : decode cX11_weighs 50 = .ok (.ifCond .ne 13, 3) := by decide +kernel
theorem dX11_weighs_53 : decode cX11_weighs 53 = .ok (.aload_n 0, 1) := by decide +kernel
theorem dX11_weighs_54 : decode cX11_weighs 54 = .ok (.aload_n 0, 1) := by decide +kernel
theorem dX11_weighs_55 : decode cX11_weighs 55 = .ok (.getfield 50, 3) := by decide +kernel
theorem dX11_weighs_58 : decode cX11_weighs 58 = .ok (.iconst 0, 1) := by decide +kernel
theorem dX11_weighs_59 : decode cX11_weighs 59 = .ok (.iaload, 1) := by decide +kernel
theorem dX11_weighs_60 : decode cX11_weighs 60 = .ok (.putfield 414, 3) := by decide +kernel
theorem dX11_weighs_63 : decode cX11_weighs 63 = .ok (.return_, 1) := by decide +kernel
set_option maxHeartbeats 4000000 in
set_option maxRecDepth 100000 in
theorem ctX11_weighs {p1 : Int} {p2 : Int} {σ : jq_M} {σ' : jq_M}  (h : X11_weighs p1 p2 σ = some σ') : jq_MC jq_zM yX11_weighs cX11_weighs 3 none 1 40 [jR 0, jI p1, jI p2] σ none σ' := by
  refine jq_met (own := RX11) (L0 := [(0, jR 0), (1, jI p1), (2, jI p2)]) (by decide) rfl rfl rfl ?_
  intro X Γ hnl hlY hRT
  refine jq_use2 (P := fun r => jq_RT jq_zM X none none r) ?_ h hRT
  intro K0 hK0
  unfold X11_weighs
  have hj42_0 : ∀ (s2 : jq_M), jq_J (X11_weighs_j42 p1 p2 s2) K0 (jq_V jq_zM X (jq_zN jq_zM) s2 42 [(0, jR 0), (1, jI p1), (2, jI p2)] []) := by
    intro s2
    unfold X11_weighs_j42
    refine jq_aload_n Γ dX11_weighs_42 rfl 0 rfl (jq_at_0 at_M_0) ?_
    refine jq_getR (v := 11) Γ hlY at_M_0 fl_RX11_53 rfl rfl ly_X11_comes dX11_weighs_43 ?_
    refine jq_iload_n Γ dX11_weighs_46 rfl 1 rfl ?_
    refine jq_iload_n Γ dX11_weighs_47 rfl 2 rfl ?_
    refine jq_iast Γ at_M_11 rfl dX11_weighs_48 (fun s3 => ?_)
    refine jq_iload_n Γ dX11_weighs_49 rfl 1 rfl ?_
    refine jq_if_ne (tgt := 63) Γ dX11_weighs_50 rfl ?_ ?_
    · exact jq_vreturn Γ dX11_weighs_63 (hK0 _)
    · refine jq_aload_n Γ dX11_weighs_53 rfl 0 rfl (jq_at_0 at_M_0) ?_
      refine jq_aload_n Γ dX11_weighs_54 rfl 0 rfl (jq_at_0 at_M_0) ?_
      refine jq_getR (v := 10) Γ hlY at_M_0 fl_RX11_50 rfl rfl ly_X11_tried dX11_weighs_55 ?_
      refine jq_iconst Γ dX11_weighs_58 rfl ?_
      refine jq_iald Γ at_M_10 rfl dX11_weighs_59 (fun v4 => ?_)
      refine jq_putI Γ at_M_0 fl_RX11_414 rfl rfl dX11_weighs_60 (fun s5 => ?_)
      exact jq_vreturn Γ dX11_weighs_63 (hK0 _)
  refine jq_aload_n Γ dX11_weighs_0 rfl 0 rfl (jq_at_0 at_M_0) ?_
  refine jq_getR (v := 11) Γ hlY at_M_0 fl_RX11_53 rfl rfl ly_X11_comes dX11_weighs_1 ?_
  refine jq_iload_n Γ dX11_weighs_4 rfl 1 rfl ?_
  refine jq_iald Γ at_M_11 rfl dX11_weighs_5 (fun v1 => ?_)
  refine jq_ldcw Γ 1000000 dX11_weighs_6 kc_RX11_409 rfl ?_
  refine jq_icmp_eq (tgt := 42) Γ dX11_weighs_9 rfl ?_ ?_
  · exact hj42_0 σ
  · refine jq_iload_n Γ dX11_weighs_12 rfl 1 rfl ?_
    refine jq_iconst Γ dX11_weighs_13 rfl ?_
    refine jq_iremR Γ dX11_weighs_14 (fun v6 => ?_)
    refine jq_if_ne (tgt := 31) Γ dX11_weighs_15 rfl ?_ ?_
    · refine jq_iload_n Γ dX11_weighs_31 rfl 2 rfl ?_
      refine jq_aload_n Γ dX11_weighs_32 rfl 0 rfl (jq_at_0 at_M_0) ?_
      refine jq_getR (v := 11) Γ hlY at_M_0 fl_RX11_53 rfl rfl ly_X11_comes dX11_weighs_33 ?_
      refine jq_iload_n Γ dX11_weighs_36 rfl 1 rfl ?_
      refine jq_iald Γ at_M_11 rfl dX11_weighs_37 (fun v7 => ?_)
      refine jq_icmp_lt (tgt := 42) Γ dX11_weighs_38 rfl ?_ ?_
      · exact hj42_0 σ
      · exact jq_vreturn Γ dX11_weighs_41 (hK0 _)
    · refine jq_iload_n Γ dX11_weighs_18 rfl 2 rfl ?_
      refine jq_aload_n Γ dX11_weighs_19 rfl 0 rfl (jq_at_0 at_M_0) ?_
      refine jq_getR (v := 11) Γ hlY at_M_0 fl_RX11_53 rfl rfl ly_X11_comes dX11_weighs_20 ?_
      refine jq_iload_n Γ dX11_weighs_23 rfl 1 rfl ?_
      refine jq_iald Γ at_M_11 rfl dX11_weighs_24 (fun v8 => ?_)
      refine jq_icmp_gt (tgt := 42) Γ dX11_weighs_25 rfl ?_ ?_
      · exact hj42_0 σ
      · refine jq_goto Γ (tgt := 41) dX11_weighs_28 rfl ?_
        exact jq_vreturn Γ dX11_weighs_41 (hK0 _)


theorem dX11_changes_0 : decode cX11_changes 0 = .ok (.iconst 0, 1) := by decide +kernel
theorem dX11_changes_1 : decode cX11_changes 1 = .ok (.istore_n 3, 1) := by decide +kernel
theorem dX11_changes_2 : decode cX11_changes 2 = .ok (.iload_n 3, 1) := by decide +kernel
theorem dX11_changes_3 : decode cX11_changes 3 = .ok (.aload_n 0, 1) := by decide +kernel
theorem dX11_changes_4 : decode cX11_changes 4 = .ok (.getfield 7, 3) := by decide +kernel
theorem dX11_changes_7 : decode cX11_changes 7 = .ok (.iconst 1, 1) := by decide +kernel
theorem dX11_changes_8 : decode cX11_changes 8 = .ok (.iaload, 1) := by decide +kernel
theorem dX11_changes_9 : decode cX11_changes 9 = .ok (.if_icmp .ge 37, 3) := by decide +kernel
theorem dX11_changes_12 : decode cX11_changes 12 = .ok (.aload_n 0, 1) := by decide +kernel
theorem dX11_changes_13 : decode cX11_changes 13 = .ok (.getfield 47, 3) := by decide +kernel
theorem dX11_changes_16 : decode cX11_changes 16 = .ok (.iload_n 3, 1) := by decide +kernel
theorem dX11_changes_17 : decode cX11_changes 17 = .ok (.iaload, 1) := by decide +kernel
theorem dX11_changes_18 : decode cX11_changes 18 = .ok (.iload_n 2, 1) := by decide +kernel
theorem dX11_changes_19 : decode cX11_changes 19 = .ok (.if_icmp .eq 6, 3) := by decide +kernel
theorem dX11_changes_22 : decode cX11_changes 22 = .ok (.goto 18, 3) := by decide +kernel
theorem dX11_changes_25 : decode cX11_changes 25 = .ok (.aload_n 0, 1) := by decide +kernel
theorem dX11_changes_26 : decode cX11_changes 26 = .ok (.getfield 47, 3) := by decide +kernel
theorem dX11_changes_29 : decode cX11_changes 29 = .ok (.iload_n 3, 1) := by decide +kernel
theorem dX11_changes_30 : decode cX11_changes 30 = .ok (.aload_n 0, 1) := by decide +kernel
theorem dX11_changes_31 : decode cX11_changes 31 = .ok (.getfield 47, 3) := by decide +kernel
theorem dX11_changes_34 : decode cX11_changes 34 = .ok (.iload_n 1, 1) := by decide +kernel
theorem dX11_changes_35 : decode cX11_changes 35 = .ok (.iaload, 1) := by decide +kernel
theorem dX11_changes_36 : decode cX11_changes 36 = .ok (.iastore, 1) := by decide +kernel
theorem dX11_changes_37 : decode cX11_changes 37 = .ok (.goto 9, 3) := by decide +kernel
theorem dX11_changes_40 : decode cX11_changes 40 = .ok (.iinc 3 1, 3) := by decide +kernel
theorem dX11_changes_43 : decode cX11_changes 43 = .ok (.goto (-41), 3) := by decide +kernel
theorem dX11_changes_46 : decode cX11_changes 46 = .ok (.aload_n 0, 1) := by decide +kernel
theorem dX11_changes_47 : decode cX11_changes 47 = .ok (.getfield 47, 3) := by decide +kernel
theorem dX11_changes_50 : decode cX11_changes 50 = .ok (.iload_n 1, 1) := by decide +kernel
theorem dX11_changes_51 : decode cX11_changes 51 = .ok (.iload_n 2, 1) := by decide +kernel
theorem dX11_changes_52 : decode cX11_changes 52 = .ok (.iastore, 1) := by decide +kernel
theorem dX11_changes_53 : decode cX11_changes 53 = .ok (.return_, 1) := by decide +kernel
set_option maxHeartbeats 4000000 in
set_option maxRecDepth 100000 in
theorem ctX11_changes {p1 : Int} {p2 : Int} {σ : jq_M} {σ' : jq_M}  (h : X11_changes p1 p2 σ = some σ') : jq_MC jq_zM yX11_changes cX11_changes 4 none 1 40 [jR 0, jI p1, jI p2] σ none σ' := by
  refine jq_met (own := RX11) (L0 := [(0, jR 0), (1, jI p1), (2, jI p2)]) (by decide) rfl rfl rfl ?_
  intro X Γ hnl hlY hRT
  refine jq_use2 (P := fun r => jq_RT jq_zM X none none r) ?_ h hRT
  intro K0 hK0
  unfold X11_changes
  refine jq_iconst Γ dX11_changes_0 rfl ?_
  refine jq_istore_n (L' := [(3, jI 0), (0, jR 0), (1, jI p1), (2, jI p2)]) Γ dX11_changes_1 rfl hnl rfl rfl ?_
  refine jq_sub Γ (L' := [(0, jR 0), (1, jI p1), (2, jI p2), (3, jI 0)]) [1, 2, 3, 0] rfl ?_
  refine jq_loop2 (C := fun (t1 : Int) => jq_V jq_zM X (jq_zN jq_zM) σ 2 [(0, jR 0), (1, jI p1), (2, jI p2), (3, jI t1)] []) (KX := Sum.elim (fun (e5 : Int) => jq_V jq_zM X (jq_zN jq_zM) σ 25 [(0, jR 0), (1, jI p1), (2, jI p2), (3, jI e5)] []) (fun (e9 : Unit) => jq_V jq_zM X (jq_zN jq_zM) σ 46 [(0, jR 0), (1, jI p1), (2, jI p2)] [])) ?_ ?_ 0
  · intro K2_t1 hCt1 hXt1 t1
    unfold X11_changes_b2
    refine jq_iload_n Γ dX11_changes_2 rfl 3 rfl ?_
    refine jq_aload_n Γ dX11_changes_3 rfl 0 rfl (jq_at_0 at_M_0) ?_
    refine jq_getR (v := 1) Γ hlY at_M_0 fl_RX11_7 rfl rfl ly_X11_at dX11_changes_4 ?_
    refine jq_iconst Γ dX11_changes_7 rfl ?_
    refine jq_iald Γ at_M_1 rfl dX11_changes_8 (fun v2 => ?_)
    refine jq_icmp_ge (tgt := 46) Γ dX11_changes_9 rfl ?_ ?_
    · refine jq_sub Γ (L' := [(0, jR 0), (1, jI p1), (2, jI p2)]) [0, 1, 2] rfl ?_
      exact jq_done (hXt1 (.inr ()))
    · refine jq_aload_n Γ dX11_changes_12 rfl 0 rfl (jq_at_0 at_M_0) ?_
      refine jq_getR (v := 9) Γ hlY at_M_0 fl_RX11_47 rfl rfl ly_X11_seat dX11_changes_13 ?_
      refine jq_iload_n Γ dX11_changes_16 rfl 3 rfl ?_
      refine jq_iald Γ at_M_9 rfl dX11_changes_17 (fun v3 => ?_)
      refine jq_iload_n Γ dX11_changes_18 rfl 2 rfl ?_
      refine jq_icmp_eq (tgt := 25) Γ dX11_changes_19 rfl ?_ ?_
      · exact jq_done (hXt1 (.inl t1))
      · refine jq_goto Γ (tgt := 40) dX11_changes_22 rfl ?_
        refine jq_iincN (L' := fun v4 => [(3, jI v4), (0, jR 0), (1, jI p1), (2, jI p2)]) Γ dX11_changes_40 3 rfl hnl rfl (fun _ => rfl) (fun v4 => ?_)
        refine jq_goto Γ (tgt := 2) dX11_changes_43 rfl ?_
        refine jq_sub Γ (L' := [(0, jR 0), (1, jI p1), (2, jI p2), (3, jI v4)]) [1, 2, 3, 0] rfl ?_
        exact jq_done (hCt1 v4)
  · refine jq_elim ?_ ?_
    · intro e5
      refine jq_aload_n Γ dX11_changes_25 rfl 0 rfl (jq_at_0 at_M_0) ?_
      refine jq_getR (v := 9) Γ hlY at_M_0 fl_RX11_47 rfl rfl ly_X11_seat dX11_changes_26 ?_
      refine jq_iload_n Γ dX11_changes_29 rfl 3 rfl ?_
      refine jq_aload_n Γ dX11_changes_30 rfl 0 rfl (jq_at_0 at_M_0) ?_
      refine jq_getR (v := 9) Γ hlY at_M_0 fl_RX11_47 rfl rfl ly_X11_seat dX11_changes_31 ?_
      refine jq_iload_n Γ dX11_changes_34 rfl 1 rfl ?_
      refine jq_iald Γ at_M_9 rfl dX11_changes_35 (fun v6 => ?_)
      refine jq_iast Γ at_M_9 rfl dX11_changes_36 (fun s7 => ?_)
      refine jq_goto Γ (tgt := 46) dX11_changes_37 rfl ?_
      refine jq_aload_n Γ dX11_changes_46 rfl 0 rfl (jq_at_0 at_M_0) ?_
      refine jq_getR (v := 9) Γ hlY at_M_0 fl_RX11_47 rfl rfl ly_X11_seat dX11_changes_47 ?_
      refine jq_iload_n Γ dX11_changes_50 rfl 1 rfl ?_
      refine jq_iload_n Γ dX11_changes_51 rfl 2 rfl ?_
      refine jq_iast Γ at_M_9 rfl dX11_changes_52 (fun s8 => ?_)
      exact jq_vreturn Γ dX11_changes_53 (hK0 _)
    · intro e9
      refine jq_aload_n Γ dX11_changes_46 rfl 0 rfl (jq_at_0 at_M_0) ?_
      refine jq_getR (v := 9) Γ hlY at_M_0 fl_RX11_47 rfl rfl ly_X11_seat dX11_changes_47 ?_
      refine jq_iload_n Γ dX11_changes_50 rfl 1 rfl ?_
      refine jq_iload_n Γ dX11_changes_51 rfl 2 rfl ?_
      refine jq_iast Γ at_M_9 rfl dX11_changes_52 (fun s10 => ?_)
      exact jq_vreturn Γ dX11_changes_53 (hK0 _)


theorem dX11_playing_0 : decode cX11_playing 0 = .ok (.aload_n 0, 1) := by decide +kernel
theorem dX11_playing_1 : decode cX11_playing 1 = .ok (.invokevirtual 302, 3) := by decide +kernel
theorem dX11_playing_4 : decode cX11_playing 4 = .ok (.aload_n 0, 1) := by decide +kernel
theorem dX11_playing_5 : decode cX11_playing 5 = .ok (.aload_n 0, 1) := by decide +kernel
theorem dX11_playing_6 : decode cX11_playing 6 = .ok (.getfield 7, 3) := by decide +kernel
theorem dX11_playing_9 : decode cX11_playing 9 = .ok (.iconst 0, 1) := by decide +kernel
theorem dX11_playing_10 : decode cX11_playing 10 = .ok (.iaload, 1) := by decide +kernel
theorem dX11_playing_11 : decode cX11_playing 11 = .ok (.putfield 414, 3) := by decide +kernel
theorem dX11_playing_14 : decode cX11_playing 14 = .ok (.iload_n 3, 1) := by decide +kernel
theorem dX11_playing_15 : decode cX11_playing 15 = .ok (.ifCond .ne 15, 3) := by decide +kernel
theorem dX11_playing_18 : decode cX11_playing 18 = .ok (.aload_n 0, 1) := by decide +kernel
theorem dX11_playing_19 : decode cX11_playing 19 = .ok (.iload_n 1, 1) := by decide +kernel
theorem dX11_playing_20 : decode cX11_playing 20 = .ok (.invokevirtual 278, 3) := by decide +kernel
theorem dX11_playing_23 : decode cX11_playing 23 = .ok (.aload_n 0, 1) := by decide +kernel
theorem dX11_playing_24 : decode cX11_playing 24 = .ok (.iload_n 2, 1) := by decide +kernel
theorem dX11_playing_25 : decode cX11_playing 25 = .ok (.invokevirtual 278, 3) := by decide +kernel
theorem dX11_playing_28 : decode cX11_playing 28 = .ok (.isub, 1) := by decide +kernel
theorem dX11_playing_29 : decode cX11_playing 29 = .ok (.ireturn, 1) := by decide +kernel
theorem dX11_playing_30 : decode cX11_playing 30 = .ok (.iconst 0, 1) := by decide +kernel
theorem dX11_playing_31 : decode cX11_playing 31 = .ok (.istore 4, 2) := by decide +kernel
theorem dX11_playing_33 : decode cX11_playing 33 = .ok (.aload_n 0, 1) := by decide +kernel
theorem dX11_playing_34 : decode cX11_playing 34 = .ok (.getfield 50, 3) := by decide +kernel
theorem dX11_playing_37 : decode cX11_playing 37 = .ok (.iconst 0, 1) := by decide +kernel
theorem dX11_playing_38 : decode cX11_playing 38 = .ok (.iconst (-1), 1) := by decide +kernel
theorem dX11_playing_39 : decode cX11_playing 39 = .ok (.iastore, 1) := by decide +kernel
theorem dX11_playing_40 : decode cX11_playing 40 = .ok (.aload_n 0, 1) := by decide +kernel
theorem dX11_playing_41 : decode cX11_playing 41 = .ok (.getfield 53, 3) := by decide +kernel
theorem dX11_playing_44 : decode cX11_playing 44 = .ok (.iconst 0, 1) := by decide +kernel
theorem dX11_playing_45 : decode cX11_playing 45 = .ok (.ldc_w 409, 3) := by decide +kernel
theorem dX11_playing_48 : decode cX11_playing 48 = .ok (.iastore, 1) := by decide +kernel
theorem dX11_playing_49 : decode cX11_playing 49 = .ok (.aload_n 0, 1) := by decide +kernel
theorem dX11_playing_50 : decode cX11_playing 50 = .ok (.iconst 0, 1) := by decide +kernel
theorem dX11_playing_51 : decode cX11_playing 51 = .ok (.invokevirtual 417, 3) := by decide +kernel
theorem dX11_playing_54 : decode cX11_playing 54 = .ok (.iload 4, 2) := by decide +kernel
theorem dX11_playing_56 : decode cX11_playing 56 = .ok (.ifCond .lt 183, 3) := by decide +kernel
theorem dX11_playing_59 : decode cX11_playing 59 = .ok (.aload_n 0, 1) := by decide +kernel
theorem dX11_playing_60 : decode cX11_playing 60 = .ok (.iload 4, 2) := by decide +kernel
theorem dX11_playing_62 : decode cX11_playing 62 = .ok (.invokevirtual 420, 3) := by decide +kernel
theorem dX11_playing_65 : decode cX11_playing 65 = .ok (.aload_n 0, 1) := by decide +kernel
theorem dX11_playing_66 : decode cX11_playing 66 = .ok (.getfield 50, 3) := by decide +kernel
theorem dX11_playing_69 : decode cX11_playing 69 = .ok (.iload 4, 2) := by decide +kernel
theorem dX11_playing_71 : decode cX11_playing 71 = .ok (.dup2, 1) := by decide +kernel
theorem dX11_playing_72 : decode cX11_playing 72 = .ok (.iaload, 1) := by decide +kernel
theorem dX11_playing_73 : decode cX11_playing 73 = .ok (.iconst 1, 1) := by decide +kernel
theorem dX11_playing_74 : decode cX11_playing 74 = .ok (.iadd, 1) := by decide +kernel
theorem dX11_playing_75 : decode cX11_playing 75 = .ok (.iastore, 1) := by decide +kernel
theorem dX11_playing_76 : decode cX11_playing 76 = .ok (.aload_n 0, 1) := by decide +kernel
theorem dX11_playing_77 : decode cX11_playing 77 = .ok (.getfield 50, 3) := by decide +kernel
theorem dX11_playing_80 : decode cX11_playing 80 = .ok (.iload 4, 2) := by decide +kernel
theorem dX11_playing_82 : decode cX11_playing 82 = .ok (.iaload, 1) := by decide +kernel
theorem dX11_playing_83 : decode cX11_playing 83 = .ok (.aload_n 0, 1) := by decide +kernel
theorem dX11_playing_84 : decode cX11_playing 84 = .ok (.getfield 7, 3) := by decide +kernel
theorem dX11_playing_87 : decode cX11_playing 87 = .ok (.iconst 0, 1) := by decide +kernel
theorem dX11_playing_88 : decode cX11_playing 88 = .ok (.iaload, 1) := by decide +kernel
theorem dX11_playing_89 : decode cX11_playing 89 = .ok (.if_icmp .le 29, 3) := by decide +kernel
theorem dX11_playing_92 : decode cX11_playing 92 = .ok (.iinc 4 (-1), 3) := by decide +kernel
theorem dX11_playing_95 : decode cX11_playing 95 = .ok (.iload 4, 2) := by decide +kernel
theorem dX11_playing_97 : decode cX11_playing 97 = .ok (.ifCond .lt (-43), 3) := by decide +kernel
theorem dX11_playing_100 : decode cX11_playing 100 = .ok (.aload_n 0, 1) := by decide +kernel
theorem dX11_playing_101 : decode cX11_playing 101 = .ok (.iload 4, 2) := by decide +kernel
theorem dX11_playing_103 : decode cX11_playing 103 = .ok (.aload_n 0, 1) := by decide +kernel
theorem dX11_playing_104 : decode cX11_playing 104 = .ok (.getfield 53, 3) := by decide +kernel
theorem dX11_playing_107 : decode cX11_playing 107 = .ok (.iload 4, 2) := by decide +kernel
theorem dX11_playing_109 : decode cX11_playing 109 = .ok (.iconst 1, 1) := by decide +kernel
theorem dX11_playing_110 : decode cX11_playing 110 = .ok (.iadd, 1) := by decide +kernel
theorem dX11_playing_111 : decode cX11_playing 111 = .ok (.iaload, 1) := by decide +kernel
theorem dX11_playing_112 : decode cX11_playing 112 = .ok (.invokevirtual 423, 3) := by decide +kernel
theorem dX11_playing_115 : decode cX11_playing 115 = .ok (.goto (-61), 3) := by decide +kernel
theorem dX11_playing_118 : decode cX11_playing 118 = .ok (.iload 4, 2) := by decide +kernel
theorem dX11_playing_120 : decode cX11_playing 120 = .ok (.iconst 2, 1) := by decide +kernel
theorem dX11_playing_121 : decode cX11_playing 121 = .ok (.irem, 1) := by decide +kernel
theorem dX11_playing_122 : decode cX11_playing 122 = .ok (.ifCond .ne 7, 3) := by decide +kernel
theorem dX11_playing_125 : decode cX11_playing 125 = .ok (.iload_n 1, 1) := by decide +kernel
theorem dX11_playing_126 : decode cX11_playing 126 = .ok (.goto 4, 3) := by decide +kernel
theorem dX11_playing_129 : decode cX11_playing 129 = .ok (.iload_n 2, 1) := by decide +kernel
theorem dX11_playing_130 : decode cX11_playing 130 = .ok (.istore 5, 2) := by decide +kernel
theorem dX11_playing_132 : decode cX11_playing 132 = .ok (.aload_n 0, 1) := by decide +kernel
theorem dX11_playing_133 : decode cX11_playing 133 = .ok (.getfield 50, 3) := by decide +kernel
theorem dX11_playing_136 : decode cX11_playing 136 = .ok (.iload 4, 2) := by decide +kernel
theorem dX11_playing_138 : decode cX11_playing 138 = .ok (.iaload, 1) := by decide +kernel
theorem dX11_playing_139 : decode cX11_playing 139 = .ok (.aload_n 0, 1) := by decide +kernel
theorem dX11_playing_140 : decode cX11_playing 140 = .ok (.getfield 47, 3) := by decide +kernel
theorem dX11_playing_143 : decode cX11_playing 143 = .ok (.iload 5, 2) := by decide +kernel
theorem dX11_playing_145 : decode cX11_playing 145 = .ok (.iaload, 1) := by decide +kernel
theorem dX11_playing_146 : decode cX11_playing 146 = .ok (.if_icmp .ne 6, 3) := by decide +kernel
theorem dX11_playing_149 : decode cX11_playing 149 = .ok (.goto (-95), 3) := by decide +kernel
theorem dX11_playing_152 : decode cX11_playing 152 = .ok (.aload_n 0, 1) := by decide +kernel
theorem dX11_playing_153 : decode cX11_playing 153 = .ok (.getfield 50, 3) := by decide +kernel
theorem dX11_playing_156 : decode cX11_playing 156 = .ok (.iload 4, 2) := by decide +kernel
theorem dX11_playing_158 : decode cX11_playing 158 = .ok (.iaload, 1) := by decide +kernel
theorem dX11_playing_159 : decode cX11_playing 159 = .ok (.aload_n 0, 1) := by decide +kernel
theorem dX11_playing_160 : decode cX11_playing 160 = .ok (.getfield 7, 3) := by decide +kernel
theorem dX11_playing_163 : decode cX11_playing 163 = .ok (.iconst 0, 1) := by decide +kernel
theorem dX11_playing_164 : decode cX11_playing 164 = .ok (.iaload, 1) := by decide +kernel
theorem dX11_playing_165 : decode cX11_playing 165 = .ok (.if_icmp .ge 16, 3) := by decide +kernel
theorem dX11_playing_168 : decode cX11_playing 168 = .ok (.aload_n 0, 1) := by decide +kernel
theorem dX11_playing_169 : decode cX11_playing 169 = .ok (.iload 5, 2) := by decide +kernel
theorem dX11_playing_171 : decode cX11_playing 171 = .ok (.aload_n 0, 1) := by decide +kernel
theorem dX11_playing_172 : decode cX11_playing 172 = .ok (.getfield 50, 3) := by decide +kernel
theorem dX11_playing_175 : decode cX11_playing 175 = .ok (.iload 4, 2) := by decide +kernel
theorem dX11_playing_177 : decode cX11_playing 177 = .ok (.iaload, 1) := by decide +kernel
theorem dX11_playing_178 : decode cX11_playing 178 = .ok (.invokevirtual 426, 3) := by decide +kernel
theorem dX11_playing_181 : decode cX11_playing 181 = .ok (.iload 4, 2) := by decide +kernel
theorem dX11_playing_183 : decode cX11_playing 183 = .ok (.iconst 1, 1) := by decide +kernel
theorem dX11_playing_184 : decode cX11_playing 184 = .ok (.iadd, 1) := by decide +kernel
theorem dX11_playing_185 : decode cX11_playing 185 = .ok (.iload_n 3, 1) := by decide +kernel
theorem dX11_playing_186 : decode cX11_playing 186 = .ok (.if_icmp .ge 33, 3) := by decide +kernel
theorem dX11_playing_189 : decode cX11_playing 189 = .ok (.iinc 4 1, 3) := by decide +kernel
theorem dX11_playing_192 : decode cX11_playing 192 = .ok (.aload_n 0, 1) := by decide +kernel
theorem dX11_playing_193 : decode cX11_playing 193 = .ok (.getfield 50, 3) := by decide +kernel
theorem dX11_playing_196 : decode cX11_playing 196 = .ok (.iload 4, 2) := by decide +kernel
theorem dX11_playing_198 : decode cX11_playing 198 = .ok (.iconst (-1), 1) := by decide +kernel
theorem dX11_playing_199 : decode cX11_playing 199 = .ok (.iastore, 1) := by decide +kernel
theorem dX11_playing_200 : decode cX11_playing 200 = .ok (.aload_n 0, 1) := by decide +kernel
theorem dX11_playing_201 : decode cX11_playing 201 = .ok (.getfield 53, 3) := by decide +kernel
theorem dX11_playing_204 : decode cX11_playing 204 = .ok (.iload 4, 2) := by decide +kernel
theorem dX11_playing_206 : decode cX11_playing 206 = .ok (.ldc_w 409, 3) := by decide +kernel
theorem dX11_playing_209 : decode cX11_playing 209 = .ok (.iastore, 1) := by decide +kernel
theorem dX11_playing_210 : decode cX11_playing 210 = .ok (.aload_n 0, 1) := by decide +kernel
theorem dX11_playing_211 : decode cX11_playing 211 = .ok (.iload 4, 2) := by decide +kernel
theorem dX11_playing_213 : decode cX11_playing 213 = .ok (.invokevirtual 417, 3) := by decide +kernel
theorem dX11_playing_216 : decode cX11_playing 216 = .ok (.goto 20, 3) := by decide +kernel
theorem dX11_playing_219 : decode cX11_playing 219 = .ok (.aload_n 0, 1) := by decide +kernel
theorem dX11_playing_220 : decode cX11_playing 220 = .ok (.iload 4, 2) := by decide +kernel
theorem dX11_playing_222 : decode cX11_playing 222 = .ok (.aload_n 0, 1) := by decide +kernel
theorem dX11_playing_223 : decode cX11_playing 223 = .ok (.iload_n 1, 1) := by decide +kernel
theorem dX11_playing_224 : decode cX11_playing 224 = .ok (.invokevirtual 278, 3) := by decide +kernel
theorem dX11_playing_227 : decode cX11_playing 227 = .ok (.aload_n 0, 1) := by decide +kernel
theorem dX11_playing_228 : decode cX11_playing 228 = .ok (.iload_n 2, 1) := by decide +kernel
theorem dX11_playing_229 : decode cX11_playing 229 = .ok (.invokevirtual 278, 3) := by decide +kernel
theorem dX11_playing_232 : decode cX11_playing 232 = .ok (.isub, 1) := by decide +kernel
theorem dX11_playing_233 : decode cX11_playing 233 = .ok (.invokevirtual 423, 3) := by decide +kernel
theorem dX11_playing_236 : decode cX11_playing 236 = .ok (.goto (-182), 3) := by decide +kernel
theorem dX11_playing_239 : decode cX11_playing 239 = .ok (.aload_n 0, 1) := by decide +kernel
theorem dX11_playing_240 : decode cX11_playing 240 = .ok (.getfield 53, 3) := by decide +kernel
theorem dX11_playing_243 : decode cX11_playing 243 = .ok (.iconst 0, 1) := by decide +kernel
theorem dX11_playing_244 : decode cX11_playing 244 = .ok (.iaload, 1) := by decide +kernel
theorem dX11_playing_245 : decode cX11_playing 245 = .ok (.ireturn, 1) := by decide +kernel
set_option maxHeartbeats 4000000 in
set_option maxRecDepth 100000 in
theorem ctX11_playing {p1 : Int} {p2 : Int} {p3 : Int} {σ : jq_M} {res : Int} {σ' : jq_M}  (h : X11_playing p1 p2 p3 σ = some (res, σ')) : jq_MC jq_zM yX11_playing cX11_playing 6 (some .int) 4 110 [jR 0, jI p1, jI p2, jI p3] σ (some (jI res)) σ' := by
  refine jq_met (own := RX11) (L0 := [(0, jR 0), (1, jI p1), (2, jI p2), (3, jI p3)]) (by decide) rfl rfl rfl ?_
  intro X Γ hnl hlY hRT
  refine jq_use2 (P := fun r => jq_RT jq_zM X (some .int) (some (jI r.1)) r.2) ?_ h hRT
  intro K0 hK0
  unfold X11_playing
  refine jq_aload_n Γ dX11_playing_0 rfl 0 rfl (jq_at_0 at_M_0) ?_
  refine jq_cwV (jq_virt (avs := []) (st := []) Γ hlY rfl ml_RX11_302 rfl at_M_0 rfl rfl rfl rfl rfl dX11_playing_1) (fun σ' h => ctX11_seatsNow h) (fun s1 => ?_)
  refine jq_aload_n Γ dX11_playing_4 rfl 0 rfl (jq_at_0 at_M_0) ?_
  refine jq_aload_n Γ dX11_playing_5 rfl 0 rfl (jq_at_0 at_M_0) ?_
  refine jq_getR (v := 1) Γ hlY at_M_0 fl_RX11_7 rfl rfl ly_X11_at dX11_playing_6 ?_
  refine jq_iconst Γ dX11_playing_9 rfl ?_
  refine jq_iald Γ at_M_1 rfl dX11_playing_10 (fun v2 => ?_)
  refine jq_putI Γ at_M_0 fl_RX11_414 rfl rfl dX11_playing_11 (fun s3 => ?_)
  refine jq_iload_n Γ dX11_playing_14 rfl 3 rfl ?_
  refine jq_if_ne (tgt := 30) Γ dX11_playing_15 rfl ?_ ?_
  · refine jq_iconst Γ dX11_playing_30 rfl ?_
    refine jq_istore (L' := [(4, jI 0), (0, jR 0), (1, jI p1), (2, jI p2), (3, jI p3)]) Γ dX11_playing_31 hnl rfl rfl ?_
    refine jq_aload_n Γ dX11_playing_33 rfl 1 rfl (jq_at_0 at_M_0) ?_
    refine jq_getR (v := 10) Γ hlY at_M_0 fl_RX11_50 rfl rfl ly_X11_tried dX11_playing_34 ?_
    refine jq_iconst Γ dX11_playing_37 rfl ?_
    refine jq_iconst Γ dX11_playing_38 rfl ?_
    refine jq_iast Γ at_M_10 rfl dX11_playing_39 (fun s4 => ?_)
    refine jq_aload_n Γ dX11_playing_40 rfl 1 rfl (jq_at_0 at_M_0) ?_
    refine jq_getR (v := 11) Γ hlY at_M_0 fl_RX11_53 rfl rfl ly_X11_comes dX11_playing_41 ?_
    refine jq_iconst Γ dX11_playing_44 rfl ?_
    refine jq_ldcw Γ 1000000 dX11_playing_45 kc_RX11_409 rfl ?_
    refine jq_iast Γ at_M_11 rfl dX11_playing_48 (fun s5 => ?_)
    refine jq_aload_n Γ dX11_playing_49 rfl 1 rfl (jq_at_0 at_M_0) ?_
    refine jq_iconst Γ dX11_playing_50 rfl ?_
    refine jq_cwV (jq_virt (avs := [jI 0]) (st := []) Γ hlY rfl ml_RX11_417 rfl at_M_0 rfl rfl rfl rfl rfl dX11_playing_51) (fun σ' h => ctX11_keepsSeats h) (fun s6 => ?_)
    refine jq_sub Γ (L' := [(0, jR 0), (1, jI p1), (2, jI p2), (3, jI p3), (4, jI 0)]) [1, 2, 3, 4, 0] rfl ?_
    refine jq_loop2 (C := fun (t7 : Int × jq_M) => jq_V jq_zM X (jq_zN jq_zM) t7.2 54 [(0, jR 0), (1, jI p1), (2, jI p2), (3, jI p3), (4, jI t7.1)] []) (KX := fun (e35 : jq_M) => jq_V jq_zM X (jq_zN jq_zM) e35 239 [(0, jR 0)] []) ?_ ?_ (0, s6)
    · intro K54_t7 hCt7 hXt7 t7
      unfold X11_playing_b54
      have hj181_1018 : ∀ (j21 : Int) (s22 : jq_M), jq_J (X11_playing_j181 p1 p2 p3 j21 s22) K54_t7 (jq_V jq_zM X (jq_zN jq_zM) s22 181 [(0, jR 0), (1, jI p1), (2, jI p2), (3, jI p3), (4, jI j21)] []) := by
        intro j21 s22
        unfold X11_playing_j181
        refine jq_iload Γ dX11_playing_181 4 rfl ?_
        refine jq_iconst Γ dX11_playing_183 rfl ?_
        refine jq_iadd Γ dX11_playing_184 ?_
        refine jq_iload_n Γ dX11_playing_185 rfl 3 rfl ?_
        refine jq_icmp_ge (tgt := 219) Γ dX11_playing_186 rfl ?_ ?_
        · refine jq_aload_n Γ dX11_playing_219 rfl 0 rfl (jq_at_0 at_M_0) ?_
          refine jq_iload Γ dX11_playing_220 4 rfl ?_
          refine jq_aload_n Γ dX11_playing_222 rfl 0 rfl (jq_at_0 at_M_0) ?_
          refine jq_iload_n Γ dX11_playing_223 rfl 1 rfl ?_
          refine jq_cpI (jq_virt (avs := [jI p1]) (st := [jI j21, jR 0]) Γ hlY rfl ml_RX11_278 rfl at_M_0 rfl rfl rfl rfl rfl dX11_playing_224) (fun r h => ctX11_worthOf h) (fun v23 => ?_)
          refine jq_aload_n Γ dX11_playing_227 rfl 0 rfl (jq_at_0 at_M_0) ?_
          refine jq_iload_n Γ dX11_playing_228 rfl 2 rfl ?_
          refine jq_cpI (jq_virt (avs := [jI p2]) (st := [jI v23, jI j21, jR 0]) Γ hlY rfl ml_RX11_278 rfl at_M_0 rfl rfl rfl rfl rfl dX11_playing_229) (fun r h => ctX11_worthOf h) (fun v24 => ?_)
          refine jq_isub Γ dX11_playing_232 ?_
          refine jq_cwV (jq_virt (avs := [jI j21, jI (jq_w (v23 - v24))]) (st := []) Γ hlY rfl ml_RX11_423 rfl at_M_0 rfl rfl rfl rfl rfl dX11_playing_233) (fun σ' h => ctX11_weighs h) (fun s25 => ?_)
          refine jq_goto Γ (tgt := 54) dX11_playing_236 rfl ?_
          exact jq_done (hCt7 (j21, s25))
        · refine jq_iincN (L' := fun v26 => [(4, jI v26), (0, jR 0), (1, jI p1), (2, jI p2), (3, jI p3)]) Γ dX11_playing_189 4 rfl hnl rfl (fun _ => rfl) (fun v26 => ?_)
          refine jq_aload_n Γ dX11_playing_192 rfl 1 rfl (jq_at_0 at_M_0) ?_
          refine jq_getR (v := 10) Γ hlY at_M_0 fl_RX11_50 rfl rfl ly_X11_tried dX11_playing_193 ?_
          refine jq_iload Γ dX11_playing_196 0 rfl ?_
          refine jq_iconst Γ dX11_playing_198 rfl ?_
          refine jq_iast Γ at_M_10 rfl dX11_playing_199 (fun s27 => ?_)
          refine jq_aload_n Γ dX11_playing_200 rfl 1 rfl (jq_at_0 at_M_0) ?_
          refine jq_getR (v := 11) Γ hlY at_M_0 fl_RX11_53 rfl rfl ly_X11_comes dX11_playing_201 ?_
          refine jq_iload Γ dX11_playing_204 0 rfl ?_
          refine jq_ldcw Γ 1000000 dX11_playing_206 kc_RX11_409 rfl ?_
          refine jq_iast Γ at_M_11 rfl dX11_playing_209 (fun s28 => ?_)
          refine jq_aload_n Γ dX11_playing_210 rfl 1 rfl (jq_at_0 at_M_0) ?_
          refine jq_iload Γ dX11_playing_211 0 rfl ?_
          refine jq_cwV (jq_virt (avs := [jI v26]) (st := []) Γ hlY rfl ml_RX11_417 rfl at_M_0 rfl rfl rfl rfl rfl dX11_playing_213) (fun σ' h => ctX11_keepsSeats h) (fun s29 => ?_)
          refine jq_goto Γ (tgt := 236) dX11_playing_216 rfl ?_
          refine jq_goto Γ (tgt := 54) dX11_playing_236 rfl ?_
          refine jq_sub Γ (L' := [(0, jR 0), (1, jI p1), (2, jI p2), (3, jI p3), (4, jI v26)]) [1, 2, 3, 4, 0] rfl ?_
          exact jq_done (hCt7 (v26, s29))
      have hj130_1018 : ∀ (j14 : Int) (j15 : Int) (s16 : jq_M), jq_J (X11_playing_j130 p1 p2 p3 j14 j15 s16) K54_t7 (jq_V jq_zM X (jq_zN jq_zM) s16 130 [(0, jR 0), (1, jI p1), (2, jI p2), (3, jI p3), (4, jI j14)] [jI j15]) := by
        intro j14 j15 s16
        unfold X11_playing_j130
        refine jq_istore (L' := [(5, jI j15), (0, jR 0), (1, jI p1), (2, jI p2), (3, jI p3), (4, jI j14)]) Γ dX11_playing_130 hnl rfl rfl ?_
        refine jq_aload_n Γ dX11_playing_132 rfl 1 rfl (jq_at_0 at_M_0) ?_
        refine jq_getR (v := 10) Γ hlY at_M_0 fl_RX11_50 rfl rfl ly_X11_tried dX11_playing_133 ?_
        refine jq_iload Γ dX11_playing_136 5 rfl ?_
        refine jq_iald Γ at_M_10 rfl dX11_playing_138 (fun v17 => ?_)
        refine jq_aload_n Γ dX11_playing_139 rfl 1 rfl (jq_at_0 at_M_0) ?_
        refine jq_getR (v := 9) Γ hlY at_M_0 fl_RX11_47 rfl rfl ly_X11_seat dX11_playing_140 ?_
        refine jq_iload Γ dX11_playing_143 0 rfl ?_
        refine jq_iald Γ at_M_9 rfl dX11_playing_145 (fun v18 => ?_)
        refine jq_icmp_ne (tgt := 152) Γ dX11_playing_146 rfl ?_ ?_
        · refine jq_aload_n Γ dX11_playing_152 rfl 1 rfl (jq_at_0 at_M_0) ?_
          refine jq_getR (v := 10) Γ hlY at_M_0 fl_RX11_50 rfl rfl ly_X11_tried dX11_playing_153 ?_
          refine jq_iload Γ dX11_playing_156 5 rfl ?_
          refine jq_iald Γ at_M_10 rfl dX11_playing_158 (fun v19 => ?_)
          refine jq_aload_n Γ dX11_playing_159 rfl 1 rfl (jq_at_0 at_M_0) ?_
          refine jq_getR (v := 1) Γ hlY at_M_0 fl_RX11_7 rfl rfl ly_X11_at dX11_playing_160 ?_
          refine jq_iconst Γ dX11_playing_163 rfl ?_
          refine jq_iald Γ at_M_1 rfl dX11_playing_164 (fun v20 => ?_)
          refine jq_icmp_ge (tgt := 181) Γ dX11_playing_165 rfl ?_ ?_
          · refine jq_sub Γ (L' := [(0, jR 0), (1, jI p1), (2, jI p2), (3, jI p3), (4, jI j14)]) [1, 2, 3, 4, 5] rfl ?_
            exact hj181_1018 j14 s16
          · refine jq_aload_n Γ dX11_playing_168 rfl 1 rfl (jq_at_0 at_M_0) ?_
            refine jq_iload Γ dX11_playing_169 0 rfl ?_
            refine jq_aload_n Γ dX11_playing_171 rfl 1 rfl (jq_at_0 at_M_0) ?_
            refine jq_getR (v := 10) Γ hlY at_M_0 fl_RX11_50 rfl rfl ly_X11_tried dX11_playing_172 ?_
            refine jq_iload Γ dX11_playing_175 5 rfl ?_
            refine jq_iald Γ at_M_10 rfl dX11_playing_177 (fun v30 => ?_)
            refine jq_cwV (jq_virt (avs := [jI j15, jI v30]) (st := []) Γ hlY rfl ml_RX11_426 rfl at_M_0 rfl rfl rfl rfl rfl dX11_playing_178) (fun σ' h => ctX11_changes h) (fun s31 => ?_)
            refine jq_sub Γ (L' := [(0, jR 0), (1, jI p1), (2, jI p2), (3, jI p3), (4, jI j14)]) [1, 2, 3, 4, 5] rfl ?_
            exact hj181_1018 j14 s31
        · refine jq_goto Γ (tgt := 54) dX11_playing_149 rfl ?_
          refine jq_sub Γ (L' := [(0, jR 0), (1, jI p1), (2, jI p2), (3, jI p3), (4, jI j14)]) [1, 2, 3, 4, 5] rfl ?_
          exact jq_done (hCt7 (j14, s16))
      refine jq_iload Γ dX11_playing_54 4 rfl ?_
      refine jq_if_lt (tgt := 239) Γ dX11_playing_56 rfl ?_ ?_
      · refine jq_sub Γ (L' := [(0, jR 0)]) [0] rfl ?_
        exact jq_done (hXt7 t7.2)
      · refine jq_aload_n Γ dX11_playing_59 rfl 0 rfl (jq_at_0 at_M_0) ?_
        refine jq_iload Γ dX11_playing_60 4 rfl ?_
        refine jq_cwV (jq_virt (avs := [jI t7.1]) (st := []) Γ hlY rfl ml_RX11_420 rfl at_M_0 rfl rfl rfl rfl rfl dX11_playing_62) (fun σ' h => ctX11_givesSeats h) (fun s8 => ?_)
        refine jq_aload_n Γ dX11_playing_65 rfl 0 rfl (jq_at_0 at_M_0) ?_
        refine jq_getR (v := 10) Γ hlY at_M_0 fl_RX11_50 rfl rfl ly_X11_tried dX11_playing_66 ?_
        refine jq_iload Γ dX11_playing_69 4 rfl ?_
        refine jq_dup2 Γ dX11_playing_71 rfl rfl ?_
        refine jq_iald Γ at_M_10 rfl dX11_playing_72 (fun v9 => ?_)
        refine jq_iconst Γ dX11_playing_73 rfl ?_
        refine jq_iadd Γ dX11_playing_74 ?_
        refine jq_iast Γ at_M_10 rfl dX11_playing_75 (fun s10 => ?_)
        refine jq_aload_n Γ dX11_playing_76 rfl 0 rfl (jq_at_0 at_M_0) ?_
        refine jq_getR (v := 10) Γ hlY at_M_0 fl_RX11_50 rfl rfl ly_X11_tried dX11_playing_77 ?_
        refine jq_iload Γ dX11_playing_80 4 rfl ?_
        refine jq_iald Γ at_M_10 rfl dX11_playing_82 (fun v11 => ?_)
        refine jq_aload_n Γ dX11_playing_83 rfl 0 rfl (jq_at_0 at_M_0) ?_
        refine jq_getR (v := 1) Γ hlY at_M_0 fl_RX11_7 rfl rfl ly_X11_at dX11_playing_84 ?_
        refine jq_iconst Γ dX11_playing_87 rfl ?_
        refine jq_iald Γ at_M_1 rfl dX11_playing_88 (fun v12 => ?_)
        refine jq_icmp_le (tgt := 118) Γ dX11_playing_89 rfl ?_ ?_
        · refine jq_iload Γ dX11_playing_118 4 rfl ?_
          refine jq_iconst Γ dX11_playing_120 rfl ?_
          refine jq_iremR Γ dX11_playing_121 (fun v13 => ?_)
          refine jq_if_ne (tgt := 129) Γ dX11_playing_122 rfl ?_ ?_
          · refine jq_iload_n Γ dX11_playing_129 rfl 2 rfl ?_
            exact hj130_1018 t7.1 p2 s10
          · refine jq_iload_n Γ dX11_playing_125 rfl 1 rfl ?_
            refine jq_goto Γ (tgt := 130) dX11_playing_126 rfl ?_
            exact hj130_1018 t7.1 p1 s10
        · refine jq_iincN (L' := fun v32 => [(4, jI v32), (0, jR 0), (1, jI p1), (2, jI p2), (3, jI p3)]) Γ dX11_playing_92 4 rfl hnl rfl (fun _ => rfl) (fun v32 => ?_)
          refine jq_iload Γ dX11_playing_95 0 rfl ?_
          refine jq_if_lt (tgt := 54) Γ dX11_playing_97 rfl ?_ ?_
          · refine jq_sub Γ (L' := [(0, jR 0), (1, jI p1), (2, jI p2), (3, jI p3), (4, jI v32)]) [1, 2, 3, 4, 0] rfl ?_
            exact jq_done (hCt7 (v32, s10))
          · refine jq_aload_n Γ dX11_playing_100 rfl 1 rfl (jq_at_0 at_M_0) ?_
            refine jq_iload Γ dX11_playing_101 0 rfl ?_
            refine jq_aload_n Γ dX11_playing_103 rfl 1 rfl (jq_at_0 at_M_0) ?_
            refine jq_getR (v := 11) Γ hlY at_M_0 fl_RX11_53 rfl rfl ly_X11_comes dX11_playing_104 ?_
            refine jq_iload Γ dX11_playing_107 0 rfl ?_
            refine jq_iconst Γ dX11_playing_109 rfl ?_
            refine jq_iadd Γ dX11_playing_110 ?_
            refine jq_iald Γ at_M_11 rfl dX11_playing_111 (fun v33 => ?_)
            refine jq_cwV (jq_virt (avs := [jI v32, jI v33]) (st := []) Γ hlY rfl ml_RX11_423 rfl at_M_0 rfl rfl rfl rfl rfl dX11_playing_112) (fun σ' h => ctX11_weighs h) (fun s34 => ?_)
            refine jq_goto Γ (tgt := 54) dX11_playing_115 rfl ?_
            refine jq_sub Γ (L' := [(0, jR 0), (1, jI p1), (2, jI p2), (3, jI p3), (4, jI v32)]) [1, 2, 3, 4, 0] rfl ?_
            exact jq_done (hCt7 (v32, s34))
    · intro e35
      refine jq_aload_n Γ dX11_playing_239 rfl 0 rfl (jq_at_0 at_M_0) ?_
      refine jq_getR (v := 11) Γ hlY at_M_0 fl_RX11_53 rfl rfl ly_X11_comes dX11_playing_240 ?_
      refine jq_iconst Γ dX11_playing_243 rfl ?_
      refine jq_iald Γ at_M_11 rfl dX11_playing_244 (fun v36 => ?_)
      exact jq_ireturn Γ dX11_playing_245 (hK0 _)
  · refine jq_aload_n Γ dX11_playing_18 rfl 0 rfl (jq_at_0 at_M_0) ?_
    refine jq_iload_n Γ dX11_playing_19 rfl 1 rfl ?_
    refine jq_cpI (jq_virt (avs := [jI p1]) (st := []) Γ hlY rfl ml_RX11_278 rfl at_M_0 rfl rfl rfl rfl rfl dX11_playing_20) (fun r h => ctX11_worthOf h) (fun v37 => ?_)
    refine jq_aload_n Γ dX11_playing_23 rfl 0 rfl (jq_at_0 at_M_0) ?_
    refine jq_iload_n Γ dX11_playing_24 rfl 2 rfl ?_
    refine jq_cpI (jq_virt (avs := [jI p2]) (st := [jI v37]) Γ hlY rfl ml_RX11_278 rfl at_M_0 rfl rfl rfl rfl rfl dX11_playing_25) (fun r h => ctX11_worthOf h) (fun v38 => ?_)
    refine jq_isub Γ dX11_playing_28 ?_
    exact jq_ireturn Γ dX11_playing_29 (hK0 _)


theorem dX11_wrongGame_0 : decode cX11_wrongGame 0 = .ok (.aload_n 0, 1) := by decide +kernel
theorem dX11_wrongGame_1 : decode cX11_wrongGame 1 = .ok (.iload_n 1, 1) := by decide +kernel
theorem dX11_wrongGame_2 : decode cX11_wrongGame 2 = .ok (.iload_n 2, 1) := by decide +kernel
theorem dX11_wrongGame_3 : decode cX11_wrongGame 3 = .ok (.invokevirtual 326, 3) := by decide +kernel
theorem dX11_wrongGame_6 : decode cX11_wrongGame 6 = .ok (.ifCond .eq 17, 3) := by decide +kernel
theorem dX11_wrongGame_9 : decode cX11_wrongGame 9 = .ok (.iload_n 3, 1) := by decide +kernel
theorem dX11_wrongGame_10 : decode cX11_wrongGame 10 = .ok (.i2l, 1) := by decide +kernel
theorem dX11_wrongGame_11 : decode cX11_wrongGame 11 = .ok (.iload 4, 2) := by decide +kernel
theorem dX11_wrongGame_13 : decode cX11_wrongGame 13 = .ok (.i2l, 1) := by decide +kernel
theorem dX11_wrongGame_14 : decode cX11_wrongGame 14 = .ok (.ldc2_w 429, 3) := by decide +kernel
theorem dX11_wrongGame_17 : decode cX11_wrongGame 17 = .ok (.invokestatic 343, 3) := by decide +kernel
theorem dX11_wrongGame_20 : decode cX11_wrongGame 20 = .ok (.ifCond .ne 7, 3) := by decide +kernel
theorem dX11_wrongGame_23 : decode cX11_wrongGame 23 = .ok (.iconst 1, 1) := by decide +kernel
theorem dX11_wrongGame_24 : decode cX11_wrongGame 24 = .ok (.goto 18, 3) := by decide +kernel
theorem dX11_wrongGame_27 : decode cX11_wrongGame 27 = .ok (.aload_n 0, 1) := by decide +kernel
theorem dX11_wrongGame_28 : decode cX11_wrongGame 28 = .ok (.iload_n 1, 1) := by decide +kernel
theorem dX11_wrongGame_29 : decode cX11_wrongGame 29 = .ok (.iload_n 2, 1) := by decide +kernel
theorem dX11_wrongGame_30 : decode cX11_wrongGame 30 = .ok (.invokevirtual 329, 3) := by decide +kernel
theorem dX11_wrongGame_33 : decode cX11_wrongGame 33 = .ok (.ifCond .eq 7, 3) := by decide +kernel
theorem dX11_wrongGame_36 : decode cX11_wrongGame 36 = .ok (.iconst 0, 1) := by decide +kernel
theorem dX11_wrongGame_37 : decode cX11_wrongGame 37 = .ok (.goto 5, 3) := by decide +kernel
theorem dX11_wrongGame_40 : decode cX11_wrongGame 40 = .ok (.bipush 7, 2) := by decide +kernel
theorem dX11_wrongGame_42 : decode cX11_wrongGame 42 = .ok (.ireturn, 1) := by decide +kernel
set_option maxHeartbeats 4000000 in
set_option maxRecDepth 100000 in
theorem ctX11_wrongGame {p1 : Int} {p2 : Int} {p3 : Int} {p4 : Int} {σ : jq_M} {res : Int}  (h : X11_wrongGame p1 p2 p3 p4 σ = some res) : jq_MC jq_zM yX11_wrongGame cX11_wrongGame 5 (some .int) 4 103 [jR 0, jI p1, jI p2, jI p3, jI p4] σ (some (jI res)) σ := by
  refine jq_met (own := RX11) (L0 := [(0, jR 0), (1, jI p1), (2, jI p2), (3, jI p3), (4, jI p4)]) (by decide) rfl rfl rfl ?_
  intro X Γ hnl hlY hRT
  refine jq_use2 (P := fun r => jq_RT jq_zM X (some .int) (some (jI r)) σ) ?_ h hRT
  intro K0 hK0
  unfold X11_wrongGame
  refine jq_aload_n Γ dX11_wrongGame_0 rfl 0 rfl (jq_at_0 at_M_0) ?_
  refine jq_iload_n Γ dX11_wrongGame_1 rfl 1 rfl ?_
  refine jq_iload_n Γ dX11_wrongGame_2 rfl 2 rfl ?_
  refine jq_cpZ (jq_virt (avs := [jI p1, jI p2]) (st := []) Γ hlY rfl ml_RX11_326 rfl at_M_0 rfl rfl rfl rfl rfl dX11_wrongGame_3) rfl (fun r h => ctX11_areTwo h) (fun v1 hz2 => ?_)
  refine jq_if_eq (tgt := 23) Γ dX11_wrongGame_6 rfl ?_ ?_
  · refine jq_iconst Γ dX11_wrongGame_23 rfl ?_
    refine jq_goto Γ (tgt := 42) dX11_wrongGame_24 rfl ?_
    exact jq_ireturn Γ dX11_wrongGame_42 (hK0 _)
  · refine jq_iload_n Γ dX11_wrongGame_9 rfl 3 rfl ?_
    refine jq_i2l Γ dX11_wrongGame_10 ?_
    refine jq_iload Γ dX11_wrongGame_11 4 rfl ?_
    refine jq_i2l Γ dX11_wrongGame_13 ?_
    refine jq_ldc2 Γ 3 dX11_wrongGame_14 kc_RX11_429 rfl ?_
    refine jq_cpZ (jq_stat (avs := [jL p3, jL p4, jL 3]) (st := []) Γ hlY rfl ml_RX11_343 rfl rfl rfl rfl rfl dX11_wrongGame_17) rfl (fun r h => ctX11_isFrom h) (fun v3 hz4 => ?_)
    refine jq_if_ne (tgt := 27) Γ dX11_wrongGame_20 rfl ?_ ?_
    · refine jq_aload_n Γ dX11_wrongGame_27 rfl 0 rfl (jq_at_0 at_M_0) ?_
      refine jq_iload_n Γ dX11_wrongGame_28 rfl 1 rfl ?_
      refine jq_iload_n Γ dX11_wrongGame_29 rfl 2 rfl ?_
      refine jq_cpZ (jq_virt (avs := [jI p1, jI p2]) (st := []) Γ hlY rfl ml_RX11_329 rfl at_M_0 rfl rfl rfl rfl rfl dX11_wrongGame_30) rfl (fun r h => ctX11_bothSit h) (fun v5 hz6 => ?_)
      refine jq_if_eq (tgt := 40) Γ dX11_wrongGame_33 rfl ?_ ?_
      · refine jq_bipush Γ dX11_wrongGame_40 rfl ?_
        exact jq_ireturn Γ dX11_wrongGame_42 (hK0 _)
      · refine jq_iconst Γ dX11_wrongGame_36 rfl ?_
        refine jq_goto Γ (tgt := 42) dX11_wrongGame_37 rfl ?_
        exact jq_ireturn Γ dX11_wrongGame_42 (hK0 _)
    · refine jq_iconst Γ dX11_wrongGame_23 rfl ?_
      refine jq_goto Γ (tgt := 42) dX11_wrongGame_24 rfl ?_
      exact jq_ireturn Γ dX11_wrongGame_42 (hK0 _)


theorem dX11_game_0 : decode cX11_game 0 = .ok (.aload_n 0, 1) := by decide +kernel
theorem dX11_game_1 : decode cX11_game 1 = .ok (.iload_n 1, 1) := by decide +kernel
theorem dX11_game_2 : decode cX11_game 2 = .ok (.iload_n 2, 1) := by decide +kernel
theorem dX11_game_3 : decode cX11_game 3 = .ok (.iload_n 3, 1) := by decide +kernel
theorem dX11_game_4 : decode cX11_game 4 = .ok (.iconst 0, 1) := by decide +kernel
theorem dX11_game_5 : decode cX11_game 5 = .ok (.invokevirtual 431, 3) := by decide +kernel
theorem dX11_game_8 : decode cX11_game 8 = .ok (.istore 4, 2) := by decide +kernel
theorem dX11_game_10 : decode cX11_game 10 = .ok (.iload 4, 2) := by decide +kernel
theorem dX11_game_12 : decode cX11_game 12 = .ok (.ifCond .le 12, 3) := by decide +kernel
theorem dX11_game_15 : decode cX11_game 15 = .ok (.aload_n 0, 1) := by decide +kernel
theorem dX11_game_16 : decode cX11_game 16 = .ok (.iload 4, 2) := by decide +kernel
theorem dX11_game_18 : decode cX11_game 18 = .ok (.invokevirtual 84, 3) := by decide +kernel
theorem dX11_game_21 : decode cX11_game 21 = .ok (.goto 14, 3) := by decide +kernel
theorem dX11_game_24 : decode cX11_game 24 = .ok (.aload_n 0, 1) := by decide +kernel
theorem dX11_game_25 : decode cX11_game 25 = .ok (.aload_n 0, 1) := by decide +kernel
theorem dX11_game_26 : decode cX11_game 26 = .ok (.iload_n 1, 1) := by decide +kernel
theorem dX11_game_27 : decode cX11_game 27 = .ok (.iload_n 2, 1) := by decide +kernel
theorem dX11_game_28 : decode cX11_game 28 = .ok (.iload_n 3, 1) := by decide +kernel
theorem dX11_game_29 : decode cX11_game 29 = .ok (.invokevirtual 435, 3) := by decide +kernel
theorem dX11_game_32 : decode cX11_game 32 = .ok (.invokevirtual 88, 3) := by decide +kernel
theorem dX11_game_35 : decode cX11_game 35 = .ok (.ireturn, 1) := by decide +kernel
set_option maxHeartbeats 4000000 in
set_option maxRecDepth 100000 in
theorem ctX11_game {p1 : Int} {p2 : Int} {p3 : Int} {σ : jq_M} {res : Int} {σ' : jq_M}  (h : X11_game p1 p2 p3 σ = some (res, σ')) : jq_MC jq_zM yX11_game cX11_game 5 (some .int) 5 135 [jR 0, jI p1, jI p2, jI p3] σ (some (jI res)) σ' := by
  refine jq_met (own := RX11) (L0 := [(0, jR 0), (1, jI p1), (2, jI p2), (3, jI p3)]) (by decide) rfl rfl rfl ?_
  intro X Γ hnl hlY hRT
  refine jq_use2 (P := fun r => jq_RT jq_zM X (some .int) (some (jI r.1)) r.2) ?_ h hRT
  intro K0 hK0
  unfold X11_game
  refine jq_aload_n Γ dX11_game_0 rfl 0 rfl (jq_at_0 at_M_0) ?_
  refine jq_iload_n Γ dX11_game_1 rfl 1 rfl ?_
  refine jq_iload_n Γ dX11_game_2 rfl 2 rfl ?_
  refine jq_iload_n Γ dX11_game_3 rfl 3 rfl ?_
  refine jq_iconst Γ dX11_game_4 rfl ?_
  refine jq_cpI (jq_virt (avs := [jI p1, jI p2, jI p3, jI 0]) (st := []) Γ hlY rfl ml_RX11_431 rfl at_M_0 rfl rfl rfl rfl rfl dX11_game_5) (fun r h => ctX11_wrongGame h) (fun v1 => ?_)
  refine jq_istore (L' := [(4, jI v1), (0, jR 0), (1, jI p1), (2, jI p2), (3, jI p3)]) Γ dX11_game_8 hnl rfl rfl ?_
  refine jq_iload Γ dX11_game_10 0 rfl ?_
  refine jq_if_le (tgt := 24) Γ dX11_game_12 rfl ?_ ?_
  · refine jq_aload_n Γ dX11_game_24 rfl 1 rfl (jq_at_0 at_M_0) ?_
    refine jq_aload_n Γ dX11_game_25 rfl 1 rfl (jq_at_0 at_M_0) ?_
    refine jq_iload_n Γ dX11_game_26 rfl 2 rfl ?_
    refine jq_iload_n Γ dX11_game_27 rfl 3 rfl ?_
    refine jq_iload_n Γ dX11_game_28 rfl 4 rfl ?_
    refine jq_cwI (jq_virt (avs := [jI p1, jI p2, jI p3]) (st := [jR 0]) Γ hlY rfl ml_RX11_435 rfl at_M_0 rfl rfl rfl rfl rfl dX11_game_29) (fun r σ' h => ctX11_playing h) (fun v2 s3 => ?_)
    refine jq_cwI (jq_virt (avs := [jI v2]) (st := []) Γ hlY rfl ml_RX11_88 rfl at_M_0 rfl rfl rfl rfl rfl dX11_game_32) (fun r σ' h => ctX11_gives h) (fun v4 s5 => ?_)
    exact jq_ireturn Γ dX11_game_35 (hK0 _)
  · refine jq_aload_n Γ dX11_game_15 rfl 1 rfl (jq_at_0 at_M_0) ?_
    refine jq_iload Γ dX11_game_16 0 rfl ?_
    refine jq_cwI (jq_virt (avs := [jI v1]) (st := []) Γ hlY rfl ml_RX11_84 rfl at_M_0 rfl rfl rfl rfl rfl dX11_game_18) (fun r σ' h => ctX11_refuse h) (fun v6 s7 => ?_)
    refine jq_goto Γ (tgt := 35) dX11_game_21 rfl ?_
    exact jq_ireturn Γ dX11_game_35 (hK0 _)


theorem dX11_moveOf_0 : decode cX11_moveOf 0 = .ok (.aload_n 0, 1) := by decide +kernel
theorem dX11_moveOf_1 : decode cX11_moveOf 1 = .ok (.iload_n 1, 1) := by decide +kernel
theorem dX11_moveOf_2 : decode cX11_moveOf 2 = .ok (.iload_n 2, 1) := by decide +kernel
theorem dX11_moveOf_3 : decode cX11_moveOf 3 = .ok (.iload_n 3, 1) := by decide +kernel
theorem dX11_moveOf_4 : decode cX11_moveOf 4 = .ok (.iconst 1, 1) := by decide +kernel
theorem dX11_moveOf_5 : decode cX11_moveOf 5 = .ok (.invokevirtual 431, 3) := by decide +kernel
theorem dX11_moveOf_8 : decode cX11_moveOf 8 = .ok (.istore 4, 2) := by decide +kernel
theorem dX11_moveOf_10 : decode cX11_moveOf 10 = .ok (.iload 4, 2) := by decide +kernel
theorem dX11_moveOf_12 : decode cX11_moveOf 12 = .ok (.ifCond .le 10, 3) := by decide +kernel
theorem dX11_moveOf_15 : decode cX11_moveOf 15 = .ok (.aload_n 0, 1) := by decide +kernel
theorem dX11_moveOf_16 : decode cX11_moveOf 16 = .ok (.iload 4, 2) := by decide +kernel
theorem dX11_moveOf_18 : decode cX11_moveOf 18 = .ok (.invokevirtual 84, 3) := by decide +kernel
theorem dX11_moveOf_21 : decode cX11_moveOf 21 = .ok (.ireturn, 1) := by decide +kernel
theorem dX11_moveOf_22 : decode cX11_moveOf 22 = .ok (.aload_n 0, 1) := by decide +kernel
theorem dX11_moveOf_23 : decode cX11_moveOf 23 = .ok (.iload_n 1, 1) := by decide +kernel
theorem dX11_moveOf_24 : decode cX11_moveOf 24 = .ok (.iload_n 2, 1) := by decide +kernel
theorem dX11_moveOf_25 : decode cX11_moveOf 25 = .ok (.iload_n 3, 1) := by decide +kernel
theorem dX11_moveOf_26 : decode cX11_moveOf 26 = .ok (.invokevirtual 435, 3) := by decide +kernel
theorem dX11_moveOf_29 : decode cX11_moveOf 29 = .ok (.pop, 1) := by decide +kernel
theorem dX11_moveOf_30 : decode cX11_moveOf 30 = .ok (.aload_n 0, 1) := by decide +kernel
theorem dX11_moveOf_31 : decode cX11_moveOf 31 = .ok (.getfield 414, 3) := by decide +kernel
theorem dX11_moveOf_34 : decode cX11_moveOf 34 = .ok (.aload_n 0, 1) := by decide +kernel
theorem dX11_moveOf_35 : decode cX11_moveOf 35 = .ok (.getfield 7, 3) := by decide +kernel
theorem dX11_moveOf_38 : decode cX11_moveOf 38 = .ok (.iconst 0, 1) := by decide +kernel
theorem dX11_moveOf_39 : decode cX11_moveOf 39 = .ok (.iaload, 1) := by decide +kernel
theorem dX11_moveOf_40 : decode cX11_moveOf 40 = .ok (.if_icmp .ne 12, 3) := by decide +kernel
theorem dX11_moveOf_43 : decode cX11_moveOf 43 = .ok (.aload_n 0, 1) := by decide +kernel
theorem dX11_moveOf_44 : decode cX11_moveOf 44 = .ok (.bipush 6, 2) := by decide +kernel
theorem dX11_moveOf_46 : decode cX11_moveOf 46 = .ok (.invokevirtual 84, 3) := by decide +kernel
theorem dX11_moveOf_49 : decode cX11_moveOf 49 = .ok (.goto 11, 3) := by decide +kernel
theorem dX11_moveOf_52 : decode cX11_moveOf 52 = .ok (.aload_n 0, 1) := by decide +kernel
theorem dX11_moveOf_53 : decode cX11_moveOf 53 = .ok (.aload_n 0, 1) := by decide +kernel
theorem dX11_moveOf_54 : decode cX11_moveOf 54 = .ok (.getfield 414, 3) := by decide +kernel
theorem dX11_moveOf_57 : decode cX11_moveOf 57 = .ok (.invokevirtual 88, 3) := by decide +kernel
theorem dX11_moveOf_60 : decode cX11_moveOf 60 = .ok (.ireturn, 1) := by decide +kernel
set_option maxHeartbeats 4000000 in
set_option maxRecDepth 100000 in
theorem ctX11_moveOf {p1 : Int} {p2 : Int} {p3 : Int} {σ : jq_M} {res : Int} {σ' : jq_M}  (h : X11_moveOf p1 p2 p3 σ = some (res, σ')) : jq_MC jq_zM yX11_moveOf cX11_moveOf 5 (some .int) 5 135 [jR 0, jI p1, jI p2, jI p3] σ (some (jI res)) σ' := by
  refine jq_met (own := RX11) (L0 := [(0, jR 0), (1, jI p1), (2, jI p2), (3, jI p3)]) (by decide) rfl rfl rfl ?_
  intro X Γ hnl hlY hRT
  refine jq_use2 (P := fun r => jq_RT jq_zM X (some .int) (some (jI r.1)) r.2) ?_ h hRT
  intro K0 hK0
  unfold X11_moveOf
  refine jq_aload_n Γ dX11_moveOf_0 rfl 0 rfl (jq_at_0 at_M_0) ?_
  refine jq_iload_n Γ dX11_moveOf_1 rfl 1 rfl ?_
  refine jq_iload_n Γ dX11_moveOf_2 rfl 2 rfl ?_
  refine jq_iload_n Γ dX11_moveOf_3 rfl 3 rfl ?_
  refine jq_iconst Γ dX11_moveOf_4 rfl ?_
  refine jq_cpI (jq_virt (avs := [jI p1, jI p2, jI p3, jI 1]) (st := []) Γ hlY rfl ml_RX11_431 rfl at_M_0 rfl rfl rfl rfl rfl dX11_moveOf_5) (fun r h => ctX11_wrongGame h) (fun v1 => ?_)
  refine jq_istore (L' := [(4, jI v1), (0, jR 0), (1, jI p1), (2, jI p2), (3, jI p3)]) Γ dX11_moveOf_8 hnl rfl rfl ?_
  refine jq_iload Γ dX11_moveOf_10 0 rfl ?_
  refine jq_if_le (tgt := 22) Γ dX11_moveOf_12 rfl ?_ ?_
  · refine jq_aload_n Γ dX11_moveOf_22 rfl 1 rfl (jq_at_0 at_M_0) ?_
    refine jq_iload_n Γ dX11_moveOf_23 rfl 2 rfl ?_
    refine jq_iload_n Γ dX11_moveOf_24 rfl 3 rfl ?_
    refine jq_iload_n Γ dX11_moveOf_25 rfl 4 rfl ?_
    refine jq_cwI (jq_virt (avs := [jI p1, jI p2, jI p3]) (st := []) Γ hlY rfl ml_RX11_435 rfl at_M_0 rfl rfl rfl rfl rfl dX11_moveOf_26) (fun r σ' h => ctX11_playing h) (fun v2 s3 => ?_)
    refine jq_pop Γ dX11_moveOf_29 rfl ?_
    refine jq_aload_n Γ dX11_moveOf_30 rfl 1 rfl (jq_at_0 at_M_0) ?_
    refine jq_getI (J := 27) Γ at_M_0 fl_RX11_414 rfl rfl dX11_moveOf_31 ?_
    refine jq_aload_n Γ dX11_moveOf_34 rfl 1 rfl (jq_at_0 at_M_0) ?_
    refine jq_getR (v := 1) Γ hlY at_M_0 fl_RX11_7 rfl rfl ly_X11_at dX11_moveOf_35 ?_
    refine jq_iconst Γ dX11_moveOf_38 rfl ?_
    refine jq_iald Γ at_M_1 rfl dX11_moveOf_39 (fun v4 => ?_)
    refine jq_icmp_ne (tgt := 52) Γ dX11_moveOf_40 rfl ?_ ?_
    · refine jq_aload_n Γ dX11_moveOf_52 rfl 1 rfl (jq_at_0 at_M_0) ?_
      refine jq_aload_n Γ dX11_moveOf_53 rfl 1 rfl (jq_at_0 at_M_0) ?_
      refine jq_getI (J := 27) Γ at_M_0 fl_RX11_414 rfl rfl dX11_moveOf_54 ?_
      refine jq_cwI (jq_virt (avs := [jI (s3 0 27)]) (st := []) Γ hlY rfl ml_RX11_88 rfl at_M_0 rfl rfl rfl rfl rfl dX11_moveOf_57) (fun r σ' h => ctX11_gives h) (fun v5 s6 => ?_)
      exact jq_ireturn Γ dX11_moveOf_60 (hK0 _)
    · refine jq_aload_n Γ dX11_moveOf_43 rfl 1 rfl (jq_at_0 at_M_0) ?_
      refine jq_bipush Γ dX11_moveOf_44 rfl ?_
      refine jq_cwI (jq_virt (avs := [jI 6]) (st := []) Γ hlY rfl ml_RX11_84 rfl at_M_0 rfl rfl rfl rfl rfl dX11_moveOf_46) (fun r σ' h => ctX11_refuse h) (fun v7 s8 => ?_)
      refine jq_goto Γ (tgt := 60) dX11_moveOf_49 rfl ?_
      exact jq_ireturn Γ dX11_moveOf_60 (hK0 _)
  · refine jq_aload_n Γ dX11_moveOf_15 rfl 1 rfl (jq_at_0 at_M_0) ?_
    refine jq_iload Γ dX11_moveOf_16 0 rfl ?_
    refine jq_cwI (jq_virt (avs := [jI v1]) (st := []) Γ hlY rfl ml_RX11_84 rfl at_M_0 rfl rfl rfl rfl rfl dX11_moveOf_18) (fun r σ' h => ctX11_refuse h) (fun v9 s10 => ?_)
    exact jq_ireturn Γ dX11_moveOf_21 (hK0 _)


theorem dX11_leansOf_0 : decode cX11_leansOf 0 = .ok (.aload_n 0, 1) := by decide +kernel
theorem dX11_leansOf_1 : decode cX11_leansOf 1 = .ok (.getfield 7, 3) := by decide +kernel
theorem dX11_leansOf_4 : decode cX11_leansOf 4 = .ok (.iload_n 1, 1) := by decide +kernel
theorem dX11_leansOf_5 : decode cX11_leansOf 5 = .ok (.invokestatic 290, 3) := by decide +kernel
theorem dX11_leansOf_8 : decode cX11_leansOf 8 = .ok (.iconst 2, 1) := by decide +kernel
theorem dX11_leansOf_9 : decode cX11_leansOf 9 = .ok (.iadd, 1) := by decide +kernel
theorem dX11_leansOf_10 : decode cX11_leansOf 10 = .ok (.iaload, 1) := by decide +kernel
theorem dX11_leansOf_11 : decode cX11_leansOf 11 = .ok (.istore_n 2, 1) := by decide +kernel
theorem dX11_leansOf_12 : decode cX11_leansOf 12 = .ok (.iload_n 1, 1) := by decide +kernel
theorem dX11_leansOf_13 : decode cX11_leansOf 13 = .ok (.iconst 1, 1) := by decide +kernel
theorem dX11_leansOf_14 : decode cX11_leansOf 14 = .ok (.isub, 1) := by decide +kernel
theorem dX11_leansOf_15 : decode cX11_leansOf 15 = .ok (.istore_n 3, 1) := by decide +kernel
theorem dX11_leansOf_16 : decode cX11_leansOf 16 = .ok (.iload_n 3, 1) := by decide +kernel
theorem dX11_leansOf_17 : decode cX11_leansOf 17 = .ok (.ifCond .lt 36, 3) := by decide +kernel
theorem dX11_leansOf_20 : decode cX11_leansOf 20 = .ok (.iload_n 2, 1) := by decide +kernel
theorem dX11_leansOf_21 : decode cX11_leansOf 21 = .ok (.aload_n 0, 1) := by decide +kernel
theorem dX11_leansOf_22 : decode cX11_leansOf 22 = .ok (.iload_n 2, 1) := by decide +kernel
theorem dX11_leansOf_23 : decode cX11_leansOf 23 = .ok (.iload_n 3, 1) := by decide +kernel
theorem dX11_leansOf_24 : decode cX11_leansOf 24 = .ok (.invokevirtual 266, 3) := by decide +kernel
theorem dX11_leansOf_27 : decode cX11_leansOf 27 = .ok (.ifCond .eq 17, 3) := by decide +kernel
theorem dX11_leansOf_30 : decode cX11_leansOf 30 = .ok (.aload_n 0, 1) := by decide +kernel
theorem dX11_leansOf_31 : decode cX11_leansOf 31 = .ok (.getfield 7, 3) := by decide +kernel
theorem dX11_leansOf_34 : decode cX11_leansOf 34 = .ok (.iload_n 3, 1) := by decide +kernel
theorem dX11_leansOf_35 : decode cX11_leansOf 35 = .ok (.invokestatic 290, 3) := by decide +kernel
theorem dX11_leansOf_38 : decode cX11_leansOf 38 = .ok (.iconst 2, 1) := by decide +kernel
theorem dX11_leansOf_39 : decode cX11_leansOf 39 = .ok (.iadd, 1) := by decide +kernel
theorem dX11_leansOf_40 : decode cX11_leansOf 40 = .ok (.iaload, 1) := by decide +kernel
theorem dX11_leansOf_41 : decode cX11_leansOf 41 = .ok (.goto 4, 3) := by decide +kernel
theorem dX11_leansOf_44 : decode cX11_leansOf 44 = .ok (.iconst 0, 1) := by decide +kernel
theorem dX11_leansOf_45 : decode cX11_leansOf 45 = .ok (.ior, 1) := by decide +kernel
theorem dX11_leansOf_46 : decode cX11_leansOf 46 = .ok (.istore_n 2, 1) := by decide +kernel
theorem dX11_leansOf_47 : decode cX11_leansOf 47 = .ok (.iinc 3 (-1), 3) := by decide +kernel
theorem dX11_leansOf_50 : decode cX11_leansOf 50 = .ok (.goto (-34), 3) := by decide +kernel
theorem dX11_leansOf_53 : decode cX11_leansOf 53 = .ok (.iload_n 2, 1) := by decide +kernel
theorem dX11_leansOf_54 : decode cX11_leansOf 54 = .ok (.ireturn, 1) := by decide +kernel
set_option maxHeartbeats 4000000 in
set_option maxRecDepth 100000 in
theorem ctX11_leansOf {p1 : Int} {σ : jq_M} {res : Int}  (h : X11_leansOf p1 σ = some res) : jq_MC jq_zM yX11_leansOf cX11_leansOf 4 (some .int) 2 62 [jR 0, jI p1] σ (some (jI res)) σ := by
  refine jq_met (own := RX11) (L0 := [(0, jR 0), (1, jI p1)]) (by decide) rfl rfl rfl ?_
  intro X Γ hnl hlY hRT
  refine jq_use2 (P := fun r => jq_RT jq_zM X (some .int) (some (jI r)) σ) ?_ h hRT
  intro K0 hK0
  unfold X11_leansOf
  refine jq_aload_n Γ dX11_leansOf_0 rfl 0 rfl (jq_at_0 at_M_0) ?_
  refine jq_getR (v := 1) Γ hlY at_M_0 fl_RX11_7 rfl rfl ly_X11_at dX11_leansOf_1 ?_
  refine jq_iload_n Γ dX11_leansOf_4 rfl 1 rfl ?_
  refine jq_cpI (jq_stat (avs := [jI p1]) (st := [jR 1]) Γ hlY rfl ml_RX11_290 rfl rfl rfl rfl rfl dX11_leansOf_5) (fun r h => ctX11_articleRow h) (fun v1 => ?_)
  refine jq_iconst Γ dX11_leansOf_8 rfl ?_
  refine jq_iadd Γ dX11_leansOf_9 ?_
  refine jq_iald Γ at_M_1 rfl dX11_leansOf_10 (fun v2 => ?_)
  refine jq_istore_n (L' := [(2, jI v2), (0, jR 0), (1, jI p1)]) Γ dX11_leansOf_11 rfl hnl rfl rfl ?_
  refine jq_iload_n Γ dX11_leansOf_12 rfl 2 rfl ?_
  refine jq_iconst Γ dX11_leansOf_13 rfl ?_
  refine jq_isub Γ dX11_leansOf_14 ?_
  refine jq_nmI (fun v3 => ?_)
  refine jq_istore_n (L' := [(3, jI v3), (2, jI v2), (0, jR 0), (1, jI p1)]) Γ dX11_leansOf_15 rfl hnl rfl rfl ?_
  refine jq_sub Γ (L' := [(0, jR 0), (2, jI v2), (3, jI v3)]) [2, 1, 0] rfl ?_
  refine jq_loop2 (C := fun (t4 : Int × Int) => jq_V jq_zM X (jq_zN jq_zM) σ 16 [(0, jR 0), (2, jI t4.1), (3, jI t4.2)] []) (KX := fun (e13 : Int) => jq_V jq_zM X (jq_zN jq_zM) σ 53 [(2, jI e13)] []) ?_ ?_ (v2, v3)
  · intro K16_t4 hCt4 hXt4 t4
    unfold X11_leansOf_b16
    refine jq_iload_n Γ dX11_leansOf_16 rfl 2 rfl ?_
    refine jq_if_lt (tgt := 53) Γ dX11_leansOf_17 rfl ?_ ?_
    · refine jq_sub Γ (L' := [(2, jI t4.1)]) [1] rfl ?_
      exact jq_done (hXt4 t4.1)
    · refine jq_iload_n Γ dX11_leansOf_20 rfl 1 rfl ?_
      refine jq_aload_n Γ dX11_leansOf_21 rfl 0 rfl (jq_at_0 at_M_0) ?_
      refine jq_iload_n Γ dX11_leansOf_22 rfl 1 rfl ?_
      refine jq_iload_n Γ dX11_leansOf_23 rfl 2 rfl ?_
      refine jq_cpZ (jq_virt (avs := [jI t4.1, jI t4.2]) (st := [jI t4.1]) Γ hlY rfl ml_RX11_266 rfl at_M_0 rfl rfl rfl rfl rfl dX11_leansOf_24) rfl (fun r h => ctX11_isIn h) (fun v5 hz6 => ?_)
      refine jq_if_eq (tgt := 44) Γ dX11_leansOf_27 rfl ?_ ?_
      · refine jq_iconst Γ dX11_leansOf_44 rfl ?_
        refine jq_ior Γ dX11_leansOf_45 ?_
        refine jq_nmI (fun v7 => ?_)
        refine jq_istore_n (L' := [(2, jI v7), (0, jR 0), (3, jI t4.2)]) Γ dX11_leansOf_46 rfl hnl rfl rfl ?_
        refine jq_iincN (L' := fun v8 => [(3, jI v8), (2, jI v7), (0, jR 0)]) Γ dX11_leansOf_47 2 rfl hnl rfl (fun _ => rfl) (fun v8 => ?_)
        refine jq_goto Γ (tgt := 16) dX11_leansOf_50 rfl ?_
        refine jq_sub Γ (L' := [(0, jR 0), (2, jI v7), (3, jI v8)]) [2, 1, 0] rfl ?_
        exact jq_done (hCt4 (v7, v8))
      · refine jq_aload_n Γ dX11_leansOf_30 rfl 0 rfl (jq_at_0 at_M_0) ?_
        refine jq_getR (v := 1) Γ hlY at_M_0 fl_RX11_7 rfl rfl ly_X11_at dX11_leansOf_31 ?_
        refine jq_iload_n Γ dX11_leansOf_34 rfl 2 rfl ?_
        refine jq_cpI (jq_stat (avs := [jI t4.2]) (st := [jR 1, jI t4.1]) Γ hlY rfl ml_RX11_290 rfl rfl rfl rfl rfl dX11_leansOf_35) (fun r h => ctX11_articleRow h) (fun v9 => ?_)
        refine jq_iconst Γ dX11_leansOf_38 rfl ?_
        refine jq_iadd Γ dX11_leansOf_39 ?_
        refine jq_iald Γ at_M_1 rfl dX11_leansOf_40 (fun v10 => ?_)
        refine jq_goto Γ (tgt := 45) dX11_leansOf_41 rfl ?_
        refine jq_ior Γ dX11_leansOf_45 ?_
        refine jq_nmI (fun v11 => ?_)
        refine jq_istore_n (L' := [(2, jI v11), (0, jR 0), (3, jI t4.2)]) Γ dX11_leansOf_46 rfl hnl rfl rfl ?_
        refine jq_iincN (L' := fun v12 => [(3, jI v12), (2, jI v11), (0, jR 0)]) Γ dX11_leansOf_47 2 rfl hnl rfl (fun _ => rfl) (fun v12 => ?_)
        refine jq_goto Γ (tgt := 16) dX11_leansOf_50 rfl ?_
        refine jq_sub Γ (L' := [(0, jR 0), (2, jI v11), (3, jI v12)]) [2, 1, 0] rfl ?_
        exact jq_done (hCt4 (v11, v12))
  · intro e13
    refine jq_iload_n Γ dX11_leansOf_53 rfl 0 rfl ?_
    exact jq_ireturn Γ dX11_leansOf_54 (hK0 _)


theorem dX11_leans_0 : decode cX11_leans 0 = .ok (.aload_n 0, 1) := by decide +kernel
theorem dX11_leans_1 : decode cX11_leans 1 = .ok (.iload_n 1, 1) := by decide +kernel
theorem dX11_leans_2 : decode cX11_leans 2 = .ok (.invokevirtual 323, 3) := by decide +kernel
theorem dX11_leans_5 : decode cX11_leans 5 = .ok (.ifCond .eq 15, 3) := by decide +kernel
theorem dX11_leans_8 : decode cX11_leans 8 = .ok (.aload_n 0, 1) := by decide +kernel
theorem dX11_leans_9 : decode cX11_leans 9 = .ok (.aload_n 0, 1) := by decide +kernel
theorem dX11_leans_10 : decode cX11_leans 10 = .ok (.iload_n 1, 1) := by decide +kernel
theorem dX11_leans_11 : decode cX11_leans 11 = .ok (.invokevirtual 439, 3) := by decide +kernel
theorem dX11_leans_14 : decode cX11_leans 14 = .ok (.invokevirtual 88, 3) := by decide +kernel
theorem dX11_leans_17 : decode cX11_leans 17 = .ok (.goto 8, 3) := by decide +kernel
theorem dX11_leans_20 : decode cX11_leans 20 = .ok (.aload_n 0, 1) := by decide +kernel
theorem dX11_leans_21 : decode cX11_leans 21 = .ok (.iconst 1, 1) := by decide +kernel
theorem dX11_leans_22 : decode cX11_leans 22 = .ok (.invokevirtual 84, 3) := by decide +kernel
theorem dX11_leans_25 : decode cX11_leans 25 = .ok (.ireturn, 1) := by decide +kernel
set_option maxHeartbeats 4000000 in
set_option maxRecDepth 100000 in
theorem ctX11_leans {p1 : Int} {σ : jq_M} {res : Int} {σ' : jq_M}  (h : X11_leans p1 σ = some (res, σ')) : jq_MC jq_zM yX11_leans cX11_leans 2 (some .int) 3 85 [jR 0, jI p1] σ (some (jI res)) σ' := by
  refine jq_met (own := RX11) (L0 := [(0, jR 0), (1, jI p1)]) (by decide) rfl rfl rfl ?_
  intro X Γ hnl hlY hRT
  refine jq_use2 (P := fun r => jq_RT jq_zM X (some .int) (some (jI r.1)) r.2) ?_ h hRT
  intro K0 hK0
  unfold X11_leans
  refine jq_aload_n Γ dX11_leans_0 rfl 0 rfl (jq_at_0 at_M_0) ?_
  refine jq_iload_n Γ dX11_leans_1 rfl 1 rfl ?_
  refine jq_cpZ (jq_virt (avs := [jI p1]) (st := []) Γ hlY rfl ml_RX11_323 rfl at_M_0 rfl rfl rfl rfl rfl dX11_leans_2) rfl (fun r h => ctX11_isArticle h) (fun v1 hz2 => ?_)
  refine jq_if_eq (tgt := 20) Γ dX11_leans_5 rfl ?_ ?_
  · refine jq_aload_n Γ dX11_leans_20 rfl 0 rfl (jq_at_0 at_M_0) ?_
    refine jq_iconst Γ dX11_leans_21 rfl ?_
    refine jq_cwI (jq_virt (avs := [jI 1]) (st := []) Γ hlY rfl ml_RX11_84 rfl at_M_0 rfl rfl rfl rfl rfl dX11_leans_22) (fun r σ' h => ctX11_refuse h) (fun v3 s4 => ?_)
    exact jq_ireturn Γ dX11_leans_25 (hK0 _)
  · refine jq_aload_n Γ dX11_leans_8 rfl 0 rfl (jq_at_0 at_M_0) ?_
    refine jq_aload_n Γ dX11_leans_9 rfl 0 rfl (jq_at_0 at_M_0) ?_
    refine jq_iload_n Γ dX11_leans_10 rfl 1 rfl ?_
    refine jq_cpI (jq_virt (avs := [jI p1]) (st := [jR 0]) Γ hlY rfl ml_RX11_439 rfl at_M_0 rfl rfl rfl rfl rfl dX11_leans_11) (fun r h => ctX11_leansOf h) (fun v5 => ?_)
    refine jq_cwI (jq_virt (avs := [jI v5]) (st := []) Γ hlY rfl ml_RX11_88 rfl at_M_0 rfl rfl rfl rfl rfl dX11_leans_14) (fun r σ' h => ctX11_gives h) (fun v6 s7 => ?_)
    refine jq_goto Γ (tgt := 25) dX11_leans_17 rfl ?_
    exact jq_ireturn Γ dX11_leans_25 (hK0 _)


theorem dX11_falls_0 : decode cX11_falls 0 = .ok (.aload_n 0, 1) := by decide +kernel
theorem dX11_falls_1 : decode cX11_falls 1 = .ok (.iload_n 1, 1) := by decide +kernel
theorem dX11_falls_2 : decode cX11_falls 2 = .ok (.invokevirtual 323, 3) := by decide +kernel
theorem dX11_falls_5 : decode cX11_falls 5 = .ok (.ifCond .eq 15, 3) := by decide +kernel
theorem dX11_falls_8 : decode cX11_falls 8 = .ok (.aload_n 0, 1) := by decide +kernel
theorem dX11_falls_9 : decode cX11_falls 9 = .ok (.aload_n 0, 1) := by decide +kernel
theorem dX11_falls_10 : decode cX11_falls 10 = .ok (.iload_n 1, 1) := by decide +kernel
theorem dX11_falls_11 : decode cX11_falls 11 = .ok (.invokevirtual 362, 3) := by decide +kernel
theorem dX11_falls_14 : decode cX11_falls 14 = .ok (.invokevirtual 88, 3) := by decide +kernel
theorem dX11_falls_17 : decode cX11_falls 17 = .ok (.goto 8, 3) := by decide +kernel
theorem dX11_falls_20 : decode cX11_falls 20 = .ok (.aload_n 0, 1) := by decide +kernel
theorem dX11_falls_21 : decode cX11_falls 21 = .ok (.iconst 1, 1) := by decide +kernel
theorem dX11_falls_22 : decode cX11_falls 22 = .ok (.invokevirtual 84, 3) := by decide +kernel
theorem dX11_falls_25 : decode cX11_falls 25 = .ok (.ireturn, 1) := by decide +kernel
set_option maxHeartbeats 4000000 in
set_option maxRecDepth 100000 in
theorem ctX11_falls {p1 : Int} {σ : jq_M} {res : Int} {σ' : jq_M}  (h : X11_falls p1 σ = some (res, σ')) : jq_MC jq_zM yX11_falls cX11_falls 2 (some .int) 3 83 [jR 0, jI p1] σ (some (jI res)) σ' := by
  refine jq_met (own := RX11) (L0 := [(0, jR 0), (1, jI p1)]) (by decide) rfl rfl rfl ?_
  intro X Γ hnl hlY hRT
  refine jq_use2 (P := fun r => jq_RT jq_zM X (some .int) (some (jI r.1)) r.2) ?_ h hRT
  intro K0 hK0
  unfold X11_falls
  refine jq_aload_n Γ dX11_falls_0 rfl 0 rfl (jq_at_0 at_M_0) ?_
  refine jq_iload_n Γ dX11_falls_1 rfl 1 rfl ?_
  refine jq_cpZ (jq_virt (avs := [jI p1]) (st := []) Γ hlY rfl ml_RX11_323 rfl at_M_0 rfl rfl rfl rfl rfl dX11_falls_2) rfl (fun r h => ctX11_isArticle h) (fun v1 hz2 => ?_)
  refine jq_if_eq (tgt := 20) Γ dX11_falls_5 rfl ?_ ?_
  · refine jq_aload_n Γ dX11_falls_20 rfl 0 rfl (jq_at_0 at_M_0) ?_
    refine jq_iconst Γ dX11_falls_21 rfl ?_
    refine jq_cwI (jq_virt (avs := [jI 1]) (st := []) Γ hlY rfl ml_RX11_84 rfl at_M_0 rfl rfl rfl rfl rfl dX11_falls_22) (fun r σ' h => ctX11_refuse h) (fun v3 s4 => ?_)
    exact jq_ireturn Γ dX11_falls_25 (hK0 _)
  · refine jq_aload_n Γ dX11_falls_8 rfl 0 rfl (jq_at_0 at_M_0) ?_
    refine jq_aload_n Γ dX11_falls_9 rfl 0 rfl (jq_at_0 at_M_0) ?_
    refine jq_iload_n Γ dX11_falls_10 rfl 1 rfl ?_
    refine jq_cpI (jq_virt (avs := [jI p1]) (st := [jR 0]) Γ hlY rfl ml_RX11_362 rfl at_M_0 rfl rfl rfl rfl rfl dX11_falls_11) (fun r h => ctX11_fallsWith h) (fun v5 => ?_)
    refine jq_cwI (jq_virt (avs := [jI v5]) (st := []) Γ hlY rfl ml_RX11_88 rfl at_M_0 rfl rfl rfl rfl rfl dX11_falls_14) (fun r σ' h => ctX11_gives h) (fun v6 s7 => ?_)
    refine jq_goto Γ (tgt := 25) dX11_falls_17 rfl ?_
    exact jq_ireturn Γ dX11_falls_25 (hK0 _)


theorem dX11_keystone_0 : decode cX11_keystone 0 = .ok (.iconst (-1), 1) := by decide +kernel
theorem dX11_keystone_1 : decode cX11_keystone 1 = .ok (.istore_n 1, 1) := by decide +kernel
theorem dX11_keystone_2 : decode cX11_keystone 2 = .ok (.iconst 0, 1) := by decide +kernel
theorem dX11_keystone_3 : decode cX11_keystone 3 = .ok (.istore_n 2, 1) := by decide +kernel
theorem dX11_keystone_4 : decode cX11_keystone 4 = .ok (.iload_n 2, 1) := by decide +kernel
theorem dX11_keystone_5 : decode cX11_keystone 5 = .ok (.aload_n 0, 1) := by decide +kernel
theorem dX11_keystone_6 : decode cX11_keystone 6 = .ok (.getfield 7, 3) := by decide +kernel
theorem dX11_keystone_9 : decode cX11_keystone 9 = .ok (.iconst 3, 1) := by decide +kernel
theorem dX11_keystone_10 : decode cX11_keystone 10 = .ok (.iaload, 1) := by decide +kernel
theorem dX11_keystone_11 : decode cX11_keystone 11 = .ok (.if_icmp .ge 35, 3) := by decide +kernel
theorem dX11_keystone_14 : decode cX11_keystone 14 = .ok (.iload_n 1, 1) := by decide +kernel
theorem dX11_keystone_15 : decode cX11_keystone 15 = .ok (.iconst (-1), 1) := by decide +kernel
theorem dX11_keystone_16 : decode cX11_keystone 16 = .ok (.if_icmp .eq 22, 3) := by decide +kernel
theorem dX11_keystone_19 : decode cX11_keystone 19 = .ok (.aload_n 0, 1) := by decide +kernel
theorem dX11_keystone_20 : decode cX11_keystone 20 = .ok (.iload_n 2, 1) := by decide +kernel
theorem dX11_keystone_21 : decode cX11_keystone 21 = .ok (.invokevirtual 362, 3) := by decide +kernel
theorem dX11_keystone_24 : decode cX11_keystone 24 = .ok (.invokestatic 350, 3) := by decide +kernel
theorem dX11_keystone_27 : decode cX11_keystone 27 = .ok (.aload_n 0, 1) := by decide +kernel
theorem dX11_keystone_28 : decode cX11_keystone 28 = .ok (.iload_n 1, 1) := by decide +kernel
theorem dX11_keystone_29 : decode cX11_keystone 29 = .ok (.invokevirtual 362, 3) := by decide +kernel
theorem dX11_keystone_32 : decode cX11_keystone 32 = .ok (.invokestatic 350, 3) := by decide +kernel
theorem dX11_keystone_35 : decode cX11_keystone 35 = .ok (.if_icmp .le 5, 3) := by decide +kernel
theorem dX11_keystone_38 : decode cX11_keystone 38 = .ok (.iload_n 2, 1) := by decide +kernel
theorem dX11_keystone_39 : decode cX11_keystone 39 = .ok (.istore_n 1, 1) := by decide +kernel
theorem dX11_keystone_40 : decode cX11_keystone 40 = .ok (.iinc 2 1, 3) := by decide +kernel
theorem dX11_keystone_43 : decode cX11_keystone 43 = .ok (.goto (-39), 3) := by decide +kernel
theorem dX11_keystone_46 : decode cX11_keystone 46 = .ok (.aload_n 0, 1) := by decide +kernel
theorem dX11_keystone_47 : decode cX11_keystone 47 = .ok (.iload_n 1, 1) := by decide +kernel
theorem dX11_keystone_48 : decode cX11_keystone 48 = .ok (.invokevirtual 320, 3) := by decide +kernel
theorem dX11_keystone_51 : decode cX11_keystone 51 = .ok (.ireturn, 1) := by decide +kernel
set_option maxHeartbeats 4000000 in
set_option maxRecDepth 100000 in
theorem ctX11_keystone  {σ : jq_M} {res : Int} {σ' : jq_M}  (h : X11_keystone σ = some (res, σ')) : jq_MC jq_zM yX11_keystone cX11_keystone 3 (some .int) 3 83 [jR 0] σ (some (jI res)) σ' := by
  refine jq_met (own := RX11) (L0 := [(0, jR 0)]) (by decide) rfl rfl rfl ?_
  intro X Γ hnl hlY hRT
  refine jq_use2 (P := fun r => jq_RT jq_zM X (some .int) (some (jI r.1)) r.2) ?_ h hRT
  intro K0 hK0
  unfold X11_keystone
  refine jq_iconst Γ dX11_keystone_0 rfl ?_
  refine jq_istore_n (L' := [(1, jI (-1)), (0, jR 0)]) Γ dX11_keystone_1 rfl hnl rfl rfl ?_
  refine jq_iconst Γ dX11_keystone_2 rfl ?_
  refine jq_istore_n (L' := [(2, jI 0), (1, jI (-1)), (0, jR 0)]) Γ dX11_keystone_3 rfl hnl rfl rfl ?_
  refine jq_sub Γ (L' := [(0, jR 0), (1, jI (-1)), (2, jI 0)]) [2, 1, 0] rfl ?_
  refine jq_loop2 (C := fun (t1 : Int × Int) => jq_V jq_zM X (jq_zN jq_zM) σ 4 [(0, jR 0), (1, jI t1.1), (2, jI t1.2)] []) (KX := fun (e10 : Int) => jq_V jq_zM X (jq_zN jq_zM) σ 46 [(0, jR 0), (1, jI e10)] []) ?_ ?_ ((-1), 0)
  · intro K4_t1 hCt1 hXt1 t1
    unfold X11_keystone_b4
    refine jq_iload_n Γ dX11_keystone_4 rfl 2 rfl ?_
    refine jq_aload_n Γ dX11_keystone_5 rfl 0 rfl (jq_at_0 at_M_0) ?_
    refine jq_getR (v := 1) Γ hlY at_M_0 fl_RX11_7 rfl rfl ly_X11_at dX11_keystone_6 ?_
    refine jq_iconst Γ dX11_keystone_9 rfl ?_
    refine jq_iald Γ at_M_1 rfl dX11_keystone_10 (fun v2 => ?_)
    refine jq_icmp_ge (tgt := 46) Γ dX11_keystone_11 rfl ?_ ?_
    · refine jq_sub Γ (L' := [(0, jR 0), (1, jI t1.1)]) [0, 1] rfl ?_
      exact jq_done (hXt1 t1.1)
    · refine jq_iload_n Γ dX11_keystone_14 rfl 1 rfl ?_
      refine jq_iconst Γ dX11_keystone_15 rfl ?_
      refine jq_icmp_eq (tgt := 38) Γ dX11_keystone_16 rfl ?_ ?_
      · refine jq_iload_n Γ dX11_keystone_38 rfl 2 rfl ?_
        refine jq_istore_n (L' := [(1, jI t1.2), (0, jR 0), (2, jI t1.2)]) Γ dX11_keystone_39 rfl hnl rfl rfl ?_
        refine jq_iincN (L' := fun v3 => [(2, jI v3), (1, jI t1.2), (0, jR 0)]) Γ dX11_keystone_40 2 rfl hnl rfl (fun _ => rfl) (fun v3 => ?_)
        refine jq_goto Γ (tgt := 4) dX11_keystone_43 rfl ?_
        refine jq_sub Γ (L' := [(0, jR 0), (1, jI t1.2), (2, jI v3)]) [2, 1, 0] rfl ?_
        exact jq_done (hCt1 (t1.2, v3))
      · refine jq_aload_n Γ dX11_keystone_19 rfl 0 rfl (jq_at_0 at_M_0) ?_
        refine jq_iload_n Γ dX11_keystone_20 rfl 2 rfl ?_
        refine jq_cpI (jq_virt (avs := [jI t1.2]) (st := []) Γ hlY rfl ml_RX11_362 rfl at_M_0 rfl rfl rfl rfl rfl dX11_keystone_21) (fun r h => ctX11_fallsWith h) (fun v4 => ?_)
        refine jq_cpI (jq_stat (avs := [jI v4]) (st := []) Γ hlY rfl ml_RX11_350 rfl rfl rfl rfl rfl dX11_keystone_24) (fun r h => ctX11_bits h) (fun v5 => ?_)
        refine jq_aload_n Γ dX11_keystone_27 rfl 0 rfl (jq_at_0 at_M_0) ?_
        refine jq_iload_n Γ dX11_keystone_28 rfl 1 rfl ?_
        refine jq_cpI (jq_virt (avs := [jI t1.1]) (st := [jI v5]) Γ hlY rfl ml_RX11_362 rfl at_M_0 rfl rfl rfl rfl rfl dX11_keystone_29) (fun r h => ctX11_fallsWith h) (fun v6 => ?_)
        refine jq_cpI (jq_stat (avs := [jI v6]) (st := [jI v5]) Γ hlY rfl ml_RX11_350 rfl rfl rfl rfl rfl dX11_keystone_32) (fun r h => ctX11_bits h) (fun v7 => ?_)
        refine jq_icmp_le (tgt := 40) Γ dX11_keystone_35 rfl ?_ ?_
        · refine jq_iincN (L' := fun v8 => [(2, jI v8), (0, jR 0), (1, jI t1.1)]) Γ dX11_keystone_40 2 rfl hnl rfl (fun _ => rfl) (fun v8 => ?_)
          refine jq_goto Γ (tgt := 4) dX11_keystone_43 rfl ?_
          refine jq_sub Γ (L' := [(0, jR 0), (1, jI t1.1), (2, jI v8)]) [1, 2, 0] rfl ?_
          exact jq_done (hCt1 (t1.1, v8))
        · refine jq_iload_n Γ dX11_keystone_38 rfl 2 rfl ?_
          refine jq_istore_n (L' := [(1, jI t1.2), (0, jR 0), (2, jI t1.2)]) Γ dX11_keystone_39 rfl hnl rfl rfl ?_
          refine jq_iincN (L' := fun v9 => [(2, jI v9), (1, jI t1.2), (0, jR 0)]) Γ dX11_keystone_40 2 rfl hnl rfl (fun _ => rfl) (fun v9 => ?_)
          refine jq_goto Γ (tgt := 4) dX11_keystone_43 rfl ?_
          refine jq_sub Γ (L' := [(0, jR 0), (1, jI t1.2), (2, jI v9)]) [2, 1, 0] rfl ?_
          exact jq_done (hCt1 (t1.2, v9))
  · intro e10
    refine jq_aload_n Γ dX11_keystone_46 rfl 0 rfl (jq_at_0 at_M_0) ?_
    refine jq_iload_n Γ dX11_keystone_47 rfl 1 rfl ?_
    refine jq_cwI (jq_virt (avs := [jI e10]) (st := []) Γ hlY rfl ml_RX11_320 rfl at_M_0 rfl rfl rfl rfl rfl dX11_keystone_48) (fun r σ' h => ctX11_orNone h) (fun v11 s12 => ?_)
    exact jq_ireturn Γ dX11_keystone_51 (hK0 _)


