theorem fl_RX11_59 : jq_fl RX11 59 8 37 28 true := ⟨RX11, TX11, tyX11, cls_X11, by decide, jq_in 1590 (by decide +kernel) rfl, by decide⟩
theorem yf_X11_keeps : Cond.instanceMethod yX11_keeps ∈ jq_T ∧ Cond.selects (yX11_keeps).cls yX11_keeps yX11_keeps ∈ jq_T ∧ Cond.initialized (yX11_keeps).cls ∈ jq_T ∧ Cond.code yX11_keeps cX11_keeps 3 none ∈ jq_T ∧ ((yX11_keeps).cls ≠ "java/lang/invoke/MethodHandle" ∧ (yX11_keeps).cls ≠ "java/lang/invoke/VarHandle" ∧ (parseMethodDescriptor (yX11_keeps).desc).map (fun d => d.parameters.length) = some 1) := ⟨jq_in 2270 (by decide +kernel) rfl, jq_in 120 (by decide +kernel) rfl, jq_in 150 (by decide +kernel) rfl, jq_in 2271 (by decide +kernel) rfl, ⟨by decide, by decide, by decide +kernel⟩⟩
theorem ml_RX11_442 : jq_vl RX11 442 yX11_keeps cX11_keeps 3 none 1 := ⟨jq_in 2268 (by decide +kernel) rfl, yf_X11_keeps⟩
theorem yf_X11_restores : Cond.instanceMethod yX11_restores ∈ jq_T ∧ Cond.selects (yX11_restores).cls yX11_restores yX11_restores ∈ jq_T ∧ Cond.initialized (yX11_restores).cls ∈ jq_T ∧ Cond.code yX11_restores cX11_restores 3 none ∈ jq_T ∧ ((yX11_restores).cls ≠ "java/lang/invoke/MethodHandle" ∧ (yX11_restores).cls ≠ "java/lang/invoke/VarHandle" ∧ (parseMethodDescriptor (yX11_restores).desc).map (fun d => d.parameters.length) = some 1) := ⟨jq_in 2274 (by decide +kernel) rfl, jq_in 121 (by decide +kernel) rfl, jq_in 150 (by decide +kernel) rfl, jq_in 2275 (by decide +kernel) rfl, ⟨by decide, by decide, by decide +kernel⟩⟩
theorem ml_RX11_445 : jq_vl RX11 445 yX11_restores cX11_restores 3 none 1 := ⟨jq_in 2272 (by decide +kernel) rfl, yf_X11_restores⟩
theorem fl_RX11_62 : jq_fl RX11 62 8 37 29 true := ⟨RX11, TX11, tyX11, cls_X11, by decide, jq_in 1591 (by decide +kernel) rfl, by decide⟩
theorem kc_RX11_448 : Cond.constantLong RX11 448 (Int64.ofInt (300)) ∈ jq_T := jq_in 2284 (by decide +kernel) rfl
theorem kc_RX11_450 : Cond.constantLong RX11 450 (Int64.ofInt (16)) ∈ jq_T := jq_in 2293 (by decide +kernel) rfl
theorem yf_X11_luckOf : Cond.instanceMethod yX11_luckOf ∈ jq_T ∧ Cond.selects (yX11_luckOf).cls yX11_luckOf yX11_luckOf ∈ jq_T ∧ Cond.initialized (yX11_luckOf).cls ∈ jq_T ∧ Cond.code yX11_luckOf cX11_luckOf 6 (some .long) ∈ jq_T ∧ ((yX11_luckOf).cls ≠ "java/lang/invoke/MethodHandle" ∧ (yX11_luckOf).cls ≠ "java/lang/invoke/VarHandle" ∧ (parseMethodDescriptor (yX11_luckOf).desc).map (fun d => d.parameters.length) = some 1) := ⟨jq_in 2291 (by decide +kernel) rfl, jq_in 122 (by decide +kernel) rfl, jq_in 150 (by decide +kernel) rfl, jq_in 2292 (by decide +kernel) rfl, ⟨by decide, by decide, by decide +kernel⟩⟩
theorem ml_RX11_452 : jq_vl RX11 452 yX11_luckOf cX11_luckOf 6 (some .long) 1 := ⟨jq_in 2289 (by decide +kernel) rfl, yf_X11_luckOf⟩
theorem kc_RX11_456 : Cond.constantLong RX11 456 (Int64.ofInt (4294967296)) ∈ jq_T := jq_in 2294 (by decide +kernel) rfl
theorem yf_X11_tellsBy : Cond.instanceMethod yX11_tellsBy ∈ jq_T ∧ Cond.selects (yX11_tellsBy).cls yX11_tellsBy yX11_tellsBy ∈ jq_T ∧ Cond.initialized (yX11_tellsBy).cls ∈ jq_T ∧ Cond.code yX11_tellsBy cX11_tellsBy 11 (some .boolean) ∈ jq_T ∧ ((yX11_tellsBy).cls ≠ "java/lang/invoke/MethodHandle" ∧ (yX11_tellsBy).cls ≠ "java/lang/invoke/VarHandle" ∧ (parseMethodDescriptor (yX11_tellsBy).desc).map (fun d => d.parameters.length) = some 2) := ⟨jq_in 2297 (by decide +kernel) rfl, jq_in 123 (by decide +kernel) rfl, jq_in 150 (by decide +kernel) rfl, jq_in 2298 (by decide +kernel) rfl, ⟨by decide, by decide, by decide +kernel⟩⟩
theorem ml_RX11_458 : jq_vl RX11 458 yX11_tellsBy cX11_tellsBy 11 (some .boolean) 2 := ⟨jq_in 2295 (by decide +kernel) rfl, yf_X11_tellsBy⟩
theorem yf_X11_wrongSeats : Cond.instanceMethod yX11_wrongSeats ∈ jq_T ∧ Cond.selects (yX11_wrongSeats).cls yX11_wrongSeats yX11_wrongSeats ∈ jq_T ∧ Cond.initialized (yX11_wrongSeats).cls ∈ jq_T ∧ Cond.code yX11_wrongSeats cX11_wrongSeats 6 (some .int) ∈ jq_T ∧ ((yX11_wrongSeats).cls ≠ "java/lang/invoke/MethodHandle" ∧ (yX11_wrongSeats).cls ≠ "java/lang/invoke/VarHandle" ∧ (parseMethodDescriptor (yX11_wrongSeats).desc).map (fun d => d.parameters.length) = some 1) := ⟨jq_in 2313 (by decide +kernel) rfl, jq_in 124 (by decide +kernel) rfl, jq_in 150 (by decide +kernel) rfl, jq_in 2314 (by decide +kernel) rfl, ⟨by decide, by decide, by decide +kernel⟩⟩
theorem ml_RX11_462 : jq_vl RX11 462 yX11_wrongSeats cX11_wrongSeats 6 (some .int) 1 := ⟨jq_in 2311 (by decide +kernel) rfl, yf_X11_wrongSeats⟩
theorem fl_RX11_465 : jq_fl RX11 465 8 37 30 false := ⟨RX11, TX11, tyX11, cls_X11, by decide, jq_in 1592 (by decide +kernel) rfl, by decide⟩
theorem kc_RX11_468 : Cond.constant RX11 468 (Int32.ofInt (65536)) ∈ jq_T := jq_in 2356 (by decide +kernel) rfl
theorem dX11_orders_0 : decode cX11_orders 0 = .ok (.iconst 1, 1) := by decide +kernel
theorem dX11_orders_1 : decode cX11_orders 1 = .ok (.aload_n 0, 1) := by decide +kernel
theorem dX11_orders_2 : decode cX11_orders 2 = .ok (.getfield 7, 3) := by decide +kernel
theorem dX11_orders_5 : decode cX11_orders 5 = .ok (.iconst 3, 1) := by decide +kernel
theorem dX11_orders_6 : decode cX11_orders 6 = .ok (.iaload, 1) := by decide +kernel
theorem dX11_orders_7 : decode cX11_orders 7 = .ok (.ishl, 1) := by decide +kernel
theorem dX11_orders_8 : decode cX11_orders 8 = .ok (.iconst 1, 1) := by decide +kernel
theorem dX11_orders_9 : decode cX11_orders 9 = .ok (.isub, 1) := by decide +kernel
theorem dX11_orders_10 : decode cX11_orders 10 = .ok (.istore_n 1, 1) := by decide +kernel
theorem dX11_orders_11 : decode cX11_orders 11 = .ok (.aload_n 0, 1) := by decide +kernel
theorem dX11_orders_12 : decode cX11_orders 12 = .ok (.invokevirtual 296, 3) := by decide +kernel
theorem dX11_orders_15 : decode cX11_orders 15 = .ok (.istore_n 2, 1) := by decide +kernel
theorem dX11_orders_16 : decode cX11_orders 16 = .ok (.iconst 0, 1) := by decide +kernel
theorem dX11_orders_17 : decode cX11_orders 17 = .ok (.istore_n 3, 1) := by decide +kernel
theorem dX11_orders_18 : decode cX11_orders 18 = .ok (.iload_n 3, 1) := by decide +kernel
theorem dX11_orders_19 : decode cX11_orders 19 = .ok (.iload_n 1, 1) := by decide +kernel
theorem dX11_orders_20 : decode cX11_orders 20 = .ok (.if_icmp .gt 120, 3) := by decide +kernel
theorem dX11_orders_23 : decode cX11_orders 23 = .ok (.aload_n 0, 1) := by decide +kernel
theorem dX11_orders_24 : decode cX11_orders 24 = .ok (.getfield 59, 3) := by decide +kernel
theorem dX11_orders_27 : decode cX11_orders 27 = .ok (.iload_n 3, 1) := by decide +kernel
theorem dX11_orders_28 : decode cX11_orders 28 = .ok (.iload_n 3, 1) := by decide +kernel
theorem dX11_orders_29 : decode cX11_orders 29 = .ok (.iload_n 2, 1) := by decide +kernel
theorem dX11_orders_30 : decode cX11_orders 30 = .ok (.if_icmp .ne 7, 3) := by decide +kernel
theorem dX11_orders_33 : decode cX11_orders 33 = .ok (.iconst 1, 1) := by decide +kernel
theorem dX11_orders_34 : decode cX11_orders 34 = .ok (.goto 4, 3) := by decide +kernel
theorem dX11_orders_37 : decode cX11_orders 37 = .ok (.iconst 0, 1) := by decide +kernel
theorem dX11_orders_38 : decode cX11_orders 38 = .ok (.iastore, 1) := by decide +kernel
theorem dX11_orders_39 : decode cX11_orders 39 = .ok (.iconst 0, 1) := by decide +kernel
theorem dX11_orders_40 : decode cX11_orders 40 = .ok (.istore 4, 2) := by decide +kernel
theorem dX11_orders_42 : decode cX11_orders 42 = .ok (.iload 4, 2) := by decide +kernel
theorem dX11_orders_44 : decode cX11_orders 44 = .ok (.aload_n 0, 1) := by decide +kernel
theorem dX11_orders_45 : decode cX11_orders 45 = .ok (.getfield 7, 3) := by decide +kernel
theorem dX11_orders_48 : decode cX11_orders 48 = .ok (.iconst 3, 1) := by decide +kernel
theorem dX11_orders_49 : decode cX11_orders 49 = .ok (.iaload, 1) := by decide +kernel
theorem dX11_orders_50 : decode cX11_orders 50 = .ok (.if_icmp .ge 84, 3) := by decide +kernel
theorem dX11_orders_53 : decode cX11_orders 53 = .ok (.iload_n 3, 1) := by decide +kernel
theorem dX11_orders_54 : decode cX11_orders 54 = .ok (.iconst 1, 1) := by decide +kernel
theorem dX11_orders_55 : decode cX11_orders 55 = .ok (.iload 4, 2) := by decide +kernel
theorem dX11_orders_57 : decode cX11_orders 57 = .ok (.ishl, 1) := by decide +kernel
theorem dX11_orders_58 : decode cX11_orders 58 = .ok (.iconst (-1), 1) := by decide +kernel
theorem dX11_orders_59 : decode cX11_orders 59 = .ok (.ixor, 1) := by decide +kernel
theorem dX11_orders_60 : decode cX11_orders 60 = .ok (.iand, 1) := by decide +kernel
theorem dX11_orders_61 : decode cX11_orders 61 = .ok (.istore 5, 2) := by decide +kernel
theorem dX11_orders_63 : decode cX11_orders 63 = .ok (.aload_n 0, 1) := by decide +kernel
theorem dX11_orders_64 : decode cX11_orders 64 = .ok (.iload_n 3, 1) := by decide +kernel
theorem dX11_orders_65 : decode cX11_orders 65 = .ok (.iload 4, 2) := by decide +kernel
theorem dX11_orders_67 : decode cX11_orders 67 = .ok (.invokevirtual 266, 3) := by decide +kernel
theorem dX11_orders_70 : decode cX11_orders 70 = .ok (.ifCond .eq 58, 3) := by decide +kernel
theorem dX11_orders_73 : decode cX11_orders 73 = .ok (.aload_n 0, 1) := by decide +kernel
theorem dX11_orders_74 : decode cX11_orders 74 = .ok (.iload_n 2, 1) := by decide +kernel
theorem dX11_orders_75 : decode cX11_orders 75 = .ok (.iload 4, 2) := by decide +kernel
theorem dX11_orders_77 : decode cX11_orders 77 = .ok (.invokevirtual 266, 3) := by decide +kernel
theorem dX11_orders_80 : decode cX11_orders 80 = .ok (.ifCond .ne 48, 3) := by decide +kernel
theorem dX11_orders_83 : decode cX11_orders 83 = .ok (.iload_n 2, 1) := by decide +kernel
theorem dX11_orders_84 : decode cX11_orders 84 = .ok (.iload 5, 2) := by decide +kernel
theorem dX11_orders_86 : decode cX11_orders 86 = .ok (.iconst (-1), 1) := by decide +kernel
theorem dX11_orders_87 : decode cX11_orders 87 = .ok (.ixor, 1) := by decide +kernel
theorem dX11_orders_88 : decode cX11_orders 88 = .ok (.iand, 1) := by decide +kernel
theorem dX11_orders_89 : decode cX11_orders 89 = .ok (.ifCond .ne 39, 3) := by decide +kernel
theorem dX11_orders_92 : decode cX11_orders 92 = .ok (.aload_n 0, 1) := by decide +kernel
theorem dX11_orders_93 : decode cX11_orders 93 = .ok (.getfield 7, 3) := by decide +kernel
theorem dX11_orders_96 : decode cX11_orders 96 = .ok (.iload 4, 2) := by decide +kernel
theorem dX11_orders_98 : decode cX11_orders 98 = .ok (.invokestatic 290, 3) := by decide +kernel
theorem dX11_orders_101 : decode cX11_orders 101 = .ok (.iconst 2, 1) := by decide +kernel
theorem dX11_orders_102 : decode cX11_orders 102 = .ok (.iadd, 1) := by decide +kernel
theorem dX11_orders_103 : decode cX11_orders 103 = .ok (.iaload, 1) := by decide +kernel
theorem dX11_orders_104 : decode cX11_orders 104 = .ok (.iload 5, 2) := by decide +kernel
theorem dX11_orders_106 : decode cX11_orders 106 = .ok (.iconst (-1), 1) := by decide +kernel
theorem dX11_orders_107 : decode cX11_orders 107 = .ok (.ixor, 1) := by decide +kernel
theorem dX11_orders_108 : decode cX11_orders 108 = .ok (.iand, 1) := by decide +kernel
theorem dX11_orders_109 : decode cX11_orders 109 = .ok (.ifCond .ne 19, 3) := by decide +kernel
theorem dX11_orders_112 : decode cX11_orders 112 = .ok (.aload_n 0, 1) := by decide +kernel
theorem dX11_orders_113 : decode cX11_orders 113 = .ok (.getfield 59, 3) := by decide +kernel
theorem dX11_orders_116 : decode cX11_orders 116 = .ok (.iload_n 3, 1) := by decide +kernel
theorem dX11_orders_117 : decode cX11_orders 117 = .ok (.dup2, 1) := by decide +kernel
theorem dX11_orders_118 : decode cX11_orders 118 = .ok (.iaload, 1) := by decide +kernel
theorem dX11_orders_119 : decode cX11_orders 119 = .ok (.aload_n 0, 1) := by decide +kernel
theorem dX11_orders_120 : decode cX11_orders 120 = .ok (.getfield 59, 3) := by decide +kernel
theorem dX11_orders_123 : decode cX11_orders 123 = .ok (.iload 5, 2) := by decide +kernel
theorem dX11_orders_125 : decode cX11_orders 125 = .ok (.iaload, 1) := by decide +kernel
theorem dX11_orders_126 : decode cX11_orders 126 = .ok (.iadd, 1) := by decide +kernel
theorem dX11_orders_127 : decode cX11_orders 127 = .ok (.iastore, 1) := by decide +kernel
theorem dX11_orders_128 : decode cX11_orders 128 = .ok (.iinc 4 1, 3) := by decide +kernel
theorem dX11_orders_131 : decode cX11_orders 131 = .ok (.goto (-89), 3) := by decide +kernel
theorem dX11_orders_134 : decode cX11_orders 134 = .ok (.iinc 3 1, 3) := by decide +kernel
theorem dX11_orders_137 : decode cX11_orders 137 = .ok (.goto (-119), 3) := by decide +kernel
theorem dX11_orders_140 : decode cX11_orders 140 = .ok (.aload_n 0, 1) := by decide +kernel
theorem dX11_orders_141 : decode cX11_orders 141 = .ok (.aload_n 0, 1) := by decide +kernel
theorem dX11_orders_142 : decode cX11_orders 142 = .ok (.getfield 59, 3) := by decide +kernel
theorem dX11_orders_145 : decode cX11_orders 145 = .ok (.iload_n 1, 1) := by decide +kernel
theorem dX11_orders_146 : decode cX11_orders 146 = .ok (.iaload, 1) := by decide +kernel
theorem dX11_orders_147 : decode cX11_orders 147 = .ok (.invokevirtual 88, 3) := by decide +kernel
theorem dX11_orders_150 : decode cX11_orders 150 = .ok (.ireturn, 1) := by decide +kernel
set_option maxHeartbeats 4000000 in
set_option maxRecDepth 100000 in
theorem ctX11_orders  {σ : jq_M} {res : Int} {σ' : jq_M}  (h : X11_orders σ = some (res, σ')) : jq_MC jq_zM yX11_orders cX11_orders 6 (some .int) 4 103 [jR 0] σ (some (jI res)) σ' := by
  refine jq_met (own := RX11) (L0 := [(0, jR 0)]) (by decide) rfl rfl rfl ?_
  intro X Γ hnl hlY hRT
  refine jq_use2 (P := fun r => jq_RT jq_zM X (some .int) (some (jI r.1)) r.2) ?_ h hRT
  intro K0 hK0
  unfold X11_orders
  refine jq_iconst Γ dX11_orders_0 rfl ?_
  refine jq_aload_n Γ dX11_orders_1 rfl 0 rfl (jq_at_0 at_M_0) ?_
  refine jq_getR (v := 1) Γ hlY at_M_0 fl_RX11_7 rfl rfl ly_X11_at dX11_orders_2 ?_
  refine jq_iconst Γ dX11_orders_5 rfl ?_
  refine jq_iald Γ at_M_1 rfl dX11_orders_6 (fun v1 => ?_)
  refine jq_ishl Γ dX11_orders_7 ?_
  refine jq_iconst Γ dX11_orders_8 rfl ?_
  refine jq_isub Γ dX11_orders_9 ?_
  refine jq_nmI (fun v2 => ?_)
  refine jq_istore_n (L' := [(1, jI v2), (0, jR 0)]) Γ dX11_orders_10 rfl hnl rfl rfl ?_
  refine jq_aload_n Γ dX11_orders_11 rfl 1 rfl (jq_at_0 at_M_0) ?_
  refine jq_cpI (jq_virt (avs := []) (st := []) Γ hlY rfl ml_RX11_296 rfl at_M_0 rfl rfl rfl rfl rfl dX11_orders_12) (fun r h => ctX11_agreedNow h) (fun v3 => ?_)
  refine jq_istore_n (L' := [(2, jI v3), (1, jI v2), (0, jR 0)]) Γ dX11_orders_15 rfl hnl rfl rfl ?_
  refine jq_iconst Γ dX11_orders_16 rfl ?_
  refine jq_istore_n (L' := [(3, jI 0), (2, jI v3), (1, jI v2), (0, jR 0)]) Γ dX11_orders_17 rfl hnl rfl rfl ?_
  refine jq_sub Γ (L' := [(0, jR 0), (1, jI v2), (2, jI v3), (3, jI 0)]) [3, 2, 1, 0] rfl ?_
  refine jq_loop2 (C := fun (t4 : Int × jq_M) => jq_V jq_zM X (jq_zN jq_zM) t4.2 18 [(0, jR 0), (1, jI v2), (2, jI v3), (3, jI t4.1)] []) (KX := fun (e30 : jq_M) => jq_V jq_zM X (jq_zN jq_zM) e30 140 [(0, jR 0), (1, jI v2)] []) ?_ ?_ (0, σ)
  · intro K18_t4 hCt4 hXt4 t4
    unfold X11_orders_b18
    have hj38_1009 : ∀ (j5 : Int) (j6 : Int) (j7 : Int) (s9 : jq_M) (hz8 : j7 = 0 ∨ j7 = 1), jq_J (X11_orders_j38 v2 v3 j5 j6 j7 s9) K18_t4 (jq_V jq_zM X (jq_zN jq_zM) s9 38 [(0, jR 0), (1, jI v2), (2, jI v3), (3, jI j5)] [jI j7, jI j6, jR 13]) := by
      intro j5 j6 j7 s9 hz8
      unfold X11_orders_j38
      refine jq_iast Γ at_M_13 rfl dX11_orders_38 (fun s10 => ?_)
      refine jq_iconst Γ dX11_orders_39 rfl ?_
      refine jq_istore (L' := [(4, jI 0), (0, jR 0), (1, jI v2), (2, jI v3), (3, jI j5)]) Γ dX11_orders_40 hnl rfl rfl ?_
      refine jq_sub Γ (L' := [(0, jR 0), (1, jI v2), (2, jI v3), (3, jI j5), (4, jI 0)]) [1, 2, 3, 4, 0] rfl ?_
      refine jq_loop2 (C := fun (t11 : Int × jq_M) => jq_V jq_zM X (jq_zN jq_zM) t11.2 42 [(0, jR 0), (1, jI v2), (2, jI v3), (3, jI j5), (4, jI t11.1)] []) (KX := fun (e28 : jq_M) => jq_V jq_zM X (jq_zN jq_zM) e28 134 [(0, jR 0), (1, jI v2), (2, jI v3), (3, jI j5)] []) ?_ ?_ (0, s10)
      · intro K42_t11 hCt11 hXt11 t11
        unfold X11_orders_b42
        refine jq_iload Γ dX11_orders_42 4 rfl ?_
        refine jq_aload_n Γ dX11_orders_44 rfl 0 rfl (jq_at_0 at_M_0) ?_
        refine jq_getR (v := 1) Γ hlY at_M_0 fl_RX11_7 rfl rfl ly_X11_at dX11_orders_45 ?_
        refine jq_iconst Γ dX11_orders_48 rfl ?_
        refine jq_iald Γ at_M_1 rfl dX11_orders_49 (fun v12 => ?_)
        refine jq_icmp_ge (tgt := 134) Γ dX11_orders_50 rfl ?_ ?_
        · refine jq_sub Γ (L' := [(0, jR 0), (1, jI v2), (2, jI v3), (3, jI j5)]) [0, 1, 2, 3] rfl ?_
          exact jq_done (hXt11 t11.2)
        · refine jq_iload_n Γ dX11_orders_53 rfl 3 rfl ?_
          refine jq_iconst Γ dX11_orders_54 rfl ?_
          refine jq_iload Γ dX11_orders_55 4 rfl ?_
          refine jq_ishl Γ dX11_orders_57 ?_
          refine jq_iconst Γ dX11_orders_58 rfl ?_
          refine jq_ixor Γ dX11_orders_59 ?_
          refine jq_iand Γ dX11_orders_60 ?_
          refine jq_nmI (fun v13 => ?_)
          refine jq_istore (L' := [(5, jI v13), (0, jR 0), (1, jI v2), (2, jI v3), (3, jI j5), (4, jI t11.1)]) Γ dX11_orders_61 hnl rfl rfl ?_
          refine jq_aload_n Γ dX11_orders_63 rfl 1 rfl (jq_at_0 at_M_0) ?_
          refine jq_iload_n Γ dX11_orders_64 rfl 4 rfl ?_
          refine jq_iload Γ dX11_orders_65 5 rfl ?_
          refine jq_cpZ (jq_virt (avs := [jI j5, jI t11.1]) (st := []) Γ hlY rfl ml_RX11_266 rfl at_M_0 rfl rfl rfl rfl rfl dX11_orders_67) rfl (fun r h => ctX11_isIn h) (fun v14 hz15 => ?_)
          refine jq_if_eq (tgt := 128) Γ dX11_orders_70 rfl ?_ ?_
          · refine jq_iincN (L' := fun v16 => [(4, jI v16), (5, jI v13), (0, jR 0), (1, jI v2), (2, jI v3), (3, jI j5)]) Γ dX11_orders_128 5 rfl hnl rfl (fun _ => rfl) (fun v16 => ?_)
            refine jq_goto Γ (tgt := 42) dX11_orders_131 rfl ?_
            refine jq_sub Γ (L' := [(0, jR 0), (1, jI v2), (2, jI v3), (3, jI j5), (4, jI v16)]) [2, 3, 4, 5, 0] rfl ?_
            exact jq_done (hCt11 (v16, t11.2))
          · refine jq_aload_n Γ dX11_orders_73 rfl 1 rfl (jq_at_0 at_M_0) ?_
            refine jq_iload_n Γ dX11_orders_74 rfl 3 rfl ?_
            refine jq_iload Γ dX11_orders_75 5 rfl ?_
            refine jq_cpZ (jq_virt (avs := [jI v3, jI t11.1]) (st := []) Γ hlY rfl ml_RX11_266 rfl at_M_0 rfl rfl rfl rfl rfl dX11_orders_77) rfl (fun r h => ctX11_isIn h) (fun v17 hz18 => ?_)
            refine jq_if_ne (tgt := 128) Γ dX11_orders_80 rfl ?_ ?_
            · refine jq_iincN (L' := fun v19 => [(4, jI v19), (5, jI v13), (0, jR 0), (1, jI v2), (2, jI v3), (3, jI j5)]) Γ dX11_orders_128 5 rfl hnl rfl (fun _ => rfl) (fun v19 => ?_)
              refine jq_goto Γ (tgt := 42) dX11_orders_131 rfl ?_
              refine jq_sub Γ (L' := [(0, jR 0), (1, jI v2), (2, jI v3), (3, jI j5), (4, jI v19)]) [2, 3, 4, 5, 0] rfl ?_
              exact jq_done (hCt11 (v19, t11.2))
            · refine jq_iload_n Γ dX11_orders_83 rfl 3 rfl ?_
              refine jq_iload Γ dX11_orders_84 0 rfl ?_
              refine jq_iconst Γ dX11_orders_86 rfl ?_
              refine jq_ixor Γ dX11_orders_87 ?_
              refine jq_iand Γ dX11_orders_88 ?_
              refine jq_if_ne (tgt := 128) Γ dX11_orders_89 rfl ?_ ?_
              · refine jq_iincN (L' := fun v20 => [(4, jI v20), (5, jI v13), (0, jR 0), (1, jI v2), (2, jI v3), (3, jI j5)]) Γ dX11_orders_128 5 rfl hnl rfl (fun _ => rfl) (fun v20 => ?_)
                refine jq_goto Γ (tgt := 42) dX11_orders_131 rfl ?_
                refine jq_sub Γ (L' := [(0, jR 0), (1, jI v2), (2, jI v3), (3, jI j5), (4, jI v20)]) [2, 3, 4, 5, 0] rfl ?_
                exact jq_done (hCt11 (v20, t11.2))
              · refine jq_aload_n Γ dX11_orders_92 rfl 1 rfl (jq_at_0 at_M_0) ?_
                refine jq_getR (v := 1) Γ hlY at_M_0 fl_RX11_7 rfl rfl ly_X11_at dX11_orders_93 ?_
                refine jq_iload Γ dX11_orders_96 5 rfl ?_
                refine jq_cpI (jq_stat (avs := [jI t11.1]) (st := [jR 1]) Γ hlY rfl ml_RX11_290 rfl rfl rfl rfl rfl dX11_orders_98) (fun r h => ctX11_articleRow h) (fun v21 => ?_)
                refine jq_iconst Γ dX11_orders_101 rfl ?_
                refine jq_iadd Γ dX11_orders_102 ?_
                refine jq_iald Γ at_M_1 rfl dX11_orders_103 (fun v22 => ?_)
                refine jq_iload Γ dX11_orders_104 0 rfl ?_
                refine jq_iconst Γ dX11_orders_106 rfl ?_
                refine jq_ixor Γ dX11_orders_107 ?_
                refine jq_iand Γ dX11_orders_108 ?_
                refine jq_if_ne (tgt := 128) Γ dX11_orders_109 rfl ?_ ?_
                · refine jq_iincN (L' := fun v23 => [(4, jI v23), (5, jI v13), (0, jR 0), (1, jI v2), (2, jI v3), (3, jI j5)]) Γ dX11_orders_128 5 rfl hnl rfl (fun _ => rfl) (fun v23 => ?_)
                  refine jq_goto Γ (tgt := 42) dX11_orders_131 rfl ?_
                  refine jq_sub Γ (L' := [(0, jR 0), (1, jI v2), (2, jI v3), (3, jI j5), (4, jI v23)]) [2, 3, 4, 5, 0] rfl ?_
                  exact jq_done (hCt11 (v23, t11.2))
                · refine jq_aload_n Γ dX11_orders_112 rfl 1 rfl (jq_at_0 at_M_0) ?_
                  refine jq_getR (v := 13) Γ hlY at_M_0 fl_RX11_59 rfl rfl ly_X11_ordersBy dX11_orders_113 ?_
                  refine jq_iload_n Γ dX11_orders_116 rfl 4 rfl ?_
                  refine jq_dup2 Γ dX11_orders_117 rfl rfl ?_
                  refine jq_iald Γ at_M_13 rfl dX11_orders_118 (fun v24 => ?_)
                  refine jq_aload_n Γ dX11_orders_119 rfl 1 rfl (jq_at_0 at_M_0) ?_
                  refine jq_getR (v := 13) Γ hlY at_M_0 fl_RX11_59 rfl rfl ly_X11_ordersBy dX11_orders_120 ?_
                  refine jq_iload Γ dX11_orders_123 0 rfl ?_
                  refine jq_iald Γ at_M_13 rfl dX11_orders_125 (fun v25 => ?_)
                  refine jq_iadd Γ dX11_orders_126 ?_
                  refine jq_iast Γ at_M_13 rfl dX11_orders_127 (fun s26 => ?_)
                  refine jq_iincN (L' := fun v27 => [(4, jI v27), (5, jI v13), (0, jR 0), (1, jI v2), (2, jI v3), (3, jI j5)]) Γ dX11_orders_128 5 rfl hnl rfl (fun _ => rfl) (fun v27 => ?_)
                  refine jq_goto Γ (tgt := 42) dX11_orders_131 rfl ?_
                  refine jq_sub Γ (L' := [(0, jR 0), (1, jI v2), (2, jI v3), (3, jI j5), (4, jI v27)]) [2, 3, 4, 5, 0] rfl ?_
                  exact jq_done (hCt11 (v27, s26))
      · intro e28
        refine jq_iincN (L' := fun v29 => [(3, jI v29), (0, jR 0), (1, jI v2), (2, jI v3)]) Γ dX11_orders_134 3 rfl hnl rfl (fun _ => rfl) (fun v29 => ?_)
        refine jq_goto Γ (tgt := 18) dX11_orders_137 rfl ?_
        refine jq_sub Γ (L' := [(0, jR 0), (1, jI v2), (2, jI v3), (3, jI v29)]) [1, 2, 3, 0] rfl ?_
        exact jq_done (hCt4 (v29, e28))
    refine jq_iload_n Γ dX11_orders_18 rfl 3 rfl ?_
    refine jq_iload_n Γ dX11_orders_19 rfl 1 rfl ?_
    refine jq_icmp_gt (tgt := 140) Γ dX11_orders_20 rfl ?_ ?_
    · refine jq_sub Γ (L' := [(0, jR 0), (1, jI v2)]) [0, 1] rfl ?_
      exact jq_done (hXt4 t4.2)
    · refine jq_aload_n Γ dX11_orders_23 rfl 0 rfl (jq_at_0 at_M_0) ?_
      refine jq_getR (v := 13) Γ hlY at_M_0 fl_RX11_59 rfl rfl ly_X11_ordersBy dX11_orders_24 ?_
      refine jq_iload_n Γ dX11_orders_27 rfl 3 rfl ?_
      refine jq_iload_n Γ dX11_orders_28 rfl 3 rfl ?_
      refine jq_iload_n Γ dX11_orders_29 rfl 2 rfl ?_
      refine jq_icmp_ne (tgt := 37) Γ dX11_orders_30 rfl ?_ ?_
      · refine jq_iconst Γ dX11_orders_37 rfl ?_
        exact hj38_1009 t4.1 t4.1 0 t4.2 (Or.inl rfl)
      · refine jq_iconst Γ dX11_orders_33 rfl ?_
        refine jq_goto Γ (tgt := 38) dX11_orders_34 rfl ?_
        exact hj38_1009 t4.1 t4.1 1 t4.2 (Or.inr rfl)
  · intro e30
    refine jq_aload_n Γ dX11_orders_140 rfl 0 rfl (jq_at_0 at_M_0) ?_
    refine jq_aload_n Γ dX11_orders_141 rfl 0 rfl (jq_at_0 at_M_0) ?_
    refine jq_getR (v := 13) Γ hlY at_M_0 fl_RX11_59 rfl rfl ly_X11_ordersBy dX11_orders_142 ?_
    refine jq_iload_n Γ dX11_orders_145 rfl 1 rfl ?_
    refine jq_iald Γ at_M_13 rfl dX11_orders_146 (fun v31 => ?_)
    refine jq_cwI (jq_virt (avs := [jI v31]) (st := []) Γ hlY rfl ml_RX11_88 rfl at_M_0 rfl rfl rfl rfl rfl dX11_orders_147) (fun r σ' h => ctX11_gives h) (fun v32 s33 => ?_)
    exact jq_ireturn Γ dX11_orders_150 (hK0 _)


theorem dX11_keeps_0 : decode cX11_keeps 0 = .ok (.iconst 0, 1) := by decide +kernel
theorem dX11_keeps_1 : decode cX11_keeps 1 = .ok (.istore_n 2, 1) := by decide +kernel
theorem dX11_keeps_2 : decode cX11_keeps 2 = .ok (.iload_n 2, 1) := by decide +kernel
theorem dX11_keeps_3 : decode cX11_keeps 3 = .ok (.sipush 138, 3) := by decide +kernel
theorem dX11_keeps_6 : decode cX11_keeps 6 = .ok (.if_icmp .ge 23, 3) := by decide +kernel
theorem dX11_keeps_9 : decode cX11_keeps 9 = .ok (.aload_n 0, 1) := by decide +kernel
theorem dX11_keeps_10 : decode cX11_keeps 10 = .ok (.getfield 7, 3) := by decide +kernel
theorem dX11_keeps_13 : decode cX11_keeps 13 = .ok (.iload_n 1, 1) := by decide +kernel
theorem dX11_keeps_14 : decode cX11_keeps 14 = .ok (.iload_n 2, 1) := by decide +kernel
theorem dX11_keeps_15 : decode cX11_keeps 15 = .ok (.iadd, 1) := by decide +kernel
theorem dX11_keeps_16 : decode cX11_keeps 16 = .ok (.aload_n 0, 1) := by decide +kernel
theorem dX11_keeps_17 : decode cX11_keeps 17 = .ok (.getfield 7, 3) := by decide +kernel
theorem dX11_keeps_20 : decode cX11_keeps 20 = .ok (.iload_n 2, 1) := by decide +kernel
theorem dX11_keeps_21 : decode cX11_keeps 21 = .ok (.iaload, 1) := by decide +kernel
theorem dX11_keeps_22 : decode cX11_keeps 22 = .ok (.iastore, 1) := by decide +kernel
theorem dX11_keeps_23 : decode cX11_keeps 23 = .ok (.iinc 2 1, 3) := by decide +kernel
theorem dX11_keeps_26 : decode cX11_keeps 26 = .ok (.goto (-24), 3) := by decide +kernel
theorem dX11_keeps_29 : decode cX11_keeps 29 = .ok (.return_, 1) := by decide +kernel
set_option maxHeartbeats 4000000 in
set_option maxRecDepth 100000 in
theorem ctX11_keeps {p1 : Int} {σ : jq_M} {σ' : jq_M}  (h : X11_keeps p1 σ = some σ') : jq_MC jq_zM yX11_keeps cX11_keeps 3 none 1 40 [jR 0, jI p1] σ none σ' := by
  refine jq_met (own := RX11) (L0 := [(0, jR 0), (1, jI p1)]) (by decide) rfl rfl rfl ?_
  intro X Γ hnl hlY hRT
  refine jq_use2 (P := fun r => jq_RT jq_zM X none none r) ?_ h hRT
  intro K0 hK0
  unfold X11_keeps
  refine jq_iconst Γ dX11_keeps_0 rfl ?_
  refine jq_istore_n (L' := [(2, jI 0), (0, jR 0), (1, jI p1)]) Γ dX11_keeps_1 rfl hnl rfl rfl ?_
  refine jq_sub Γ (L' := [(0, jR 0), (1, jI p1), (2, jI 0)]) [1, 2, 0] rfl ?_
  refine jq_loop2 (C := fun (t1 : Int × jq_M) => jq_V jq_zM X (jq_zN jq_zM) t1.2 2 [(0, jR 0), (1, jI p1), (2, jI t1.1)] []) (KX := fun (e5 : jq_M) => jq_V jq_zM X (jq_zN jq_zM) e5 29 [] []) ?_ ?_ (0, σ)
  · intro K2_t1 hCt1 hXt1 t1
    unfold X11_keeps_b2
    refine jq_iload_n Γ dX11_keeps_2 rfl 2 rfl ?_
    refine jq_sipush Γ dX11_keeps_3 rfl ?_
    refine jq_icmp_ge (tgt := 29) Γ dX11_keeps_6 rfl ?_ ?_
    · refine jq_sub Γ (L' := []) [] rfl ?_
      exact jq_done (hXt1 t1.2)
    · refine jq_aload_n Γ dX11_keeps_9 rfl 0 rfl (jq_at_0 at_M_0) ?_
      refine jq_getR (v := 1) Γ hlY at_M_0 fl_RX11_7 rfl rfl ly_X11_at dX11_keeps_10 ?_
      refine jq_iload_n Γ dX11_keeps_13 rfl 1 rfl ?_
      refine jq_iload_n Γ dX11_keeps_14 rfl 2 rfl ?_
      refine jq_iadd Γ dX11_keeps_15 ?_
      refine jq_aload_n Γ dX11_keeps_16 rfl 0 rfl (jq_at_0 at_M_0) ?_
      refine jq_getR (v := 1) Γ hlY at_M_0 fl_RX11_7 rfl rfl ly_X11_at dX11_keeps_17 ?_
      refine jq_iload_n Γ dX11_keeps_20 rfl 2 rfl ?_
      refine jq_iald Γ at_M_1 rfl dX11_keeps_21 (fun v2 => ?_)
      refine jq_iast Γ at_M_1 rfl dX11_keeps_22 (fun s3 => ?_)
      refine jq_iincN (L' := fun v4 => [(2, jI v4), (0, jR 0), (1, jI p1)]) Γ dX11_keeps_23 2 rfl hnl rfl (fun _ => rfl) (fun v4 => ?_)
      refine jq_goto Γ (tgt := 2) dX11_keeps_26 rfl ?_
      refine jq_sub Γ (L' := [(0, jR 0), (1, jI p1), (2, jI v4)]) [1, 2, 0] rfl ?_
      exact jq_done (hCt1 (v4, s3))
  · intro e5
    exact jq_vreturn Γ dX11_keeps_29 (hK0 _)


theorem dX11_restores_0 : decode cX11_restores 0 = .ok (.iconst 0, 1) := by decide +kernel
theorem dX11_restores_1 : decode cX11_restores 1 = .ok (.istore_n 2, 1) := by decide +kernel
theorem dX11_restores_2 : decode cX11_restores 2 = .ok (.iload_n 2, 1) := by decide +kernel
theorem dX11_restores_3 : decode cX11_restores 3 = .ok (.sipush 138, 3) := by decide +kernel
theorem dX11_restores_6 : decode cX11_restores 6 = .ok (.if_icmp .ge 23, 3) := by decide +kernel
theorem dX11_restores_9 : decode cX11_restores 9 = .ok (.aload_n 0, 1) := by decide +kernel
theorem dX11_restores_10 : decode cX11_restores 10 = .ok (.getfield 7, 3) := by decide +kernel
theorem dX11_restores_13 : decode cX11_restores 13 = .ok (.iload_n 2, 1) := by decide +kernel
theorem dX11_restores_14 : decode cX11_restores 14 = .ok (.aload_n 0, 1) := by decide +kernel
theorem dX11_restores_15 : decode cX11_restores 15 = .ok (.getfield 7, 3) := by decide +kernel
theorem dX11_restores_18 : decode cX11_restores 18 = .ok (.iload_n 1, 1) := by decide +kernel
theorem dX11_restores_19 : decode cX11_restores 19 = .ok (.iload_n 2, 1) := by decide +kernel
theorem dX11_restores_20 : decode cX11_restores 20 = .ok (.iadd, 1) := by decide +kernel
theorem dX11_restores_21 : decode cX11_restores 21 = .ok (.iaload, 1) := by decide +kernel
theorem dX11_restores_22 : decode cX11_restores 22 = .ok (.iastore, 1) := by decide +kernel
theorem dX11_restores_23 : decode cX11_restores 23 = .ok (.iinc 2 1, 3) := by decide +kernel
theorem dX11_restores_26 : decode cX11_restores 26 = .ok (.goto (-24), 3) := by decide +kernel
theorem dX11_restores_29 : decode cX11_restores 29 = .ok (.return_, 1) := by decide +kernel
set_option maxHeartbeats 4000000 in
set_option maxRecDepth 100000 in
theorem ctX11_restores {p1 : Int} {σ : jq_M} {σ' : jq_M}  (h : X11_restores p1 σ = some σ') : jq_MC jq_zM yX11_restores cX11_restores 3 none 1 40 [jR 0, jI p1] σ none σ' := by
  refine jq_met (own := RX11) (L0 := [(0, jR 0), (1, jI p1)]) (by decide) rfl rfl rfl ?_
  intro X Γ hnl hlY hRT
  refine jq_use2 (P := fun r => jq_RT jq_zM X none none r) ?_ h hRT
  intro K0 hK0
  unfold X11_restores
  refine jq_iconst Γ dX11_restores_0 rfl ?_
  refine jq_istore_n (L' := [(2, jI 0), (0, jR 0), (1, jI p1)]) Γ dX11_restores_1 rfl hnl rfl rfl ?_
  refine jq_sub Γ (L' := [(0, jR 0), (1, jI p1), (2, jI 0)]) [1, 2, 0] rfl ?_
  refine jq_loop2 (C := fun (t1 : Int × jq_M) => jq_V jq_zM X (jq_zN jq_zM) t1.2 2 [(0, jR 0), (1, jI p1), (2, jI t1.1)] []) (KX := fun (e5 : jq_M) => jq_V jq_zM X (jq_zN jq_zM) e5 29 [] []) ?_ ?_ (0, σ)
  · intro K2_t1 hCt1 hXt1 t1
    unfold X11_restores_b2
    refine jq_iload_n Γ dX11_restores_2 rfl 2 rfl ?_
    refine jq_sipush Γ dX11_restores_3 rfl ?_
    refine jq_icmp_ge (tgt := 29) Γ dX11_restores_6 rfl ?_ ?_
    · refine jq_sub Γ (L' := []) [] rfl ?_
      exact jq_done (hXt1 t1.2)
    · refine jq_aload_n Γ dX11_restores_9 rfl 0 rfl (jq_at_0 at_M_0) ?_
      refine jq_getR (v := 1) Γ hlY at_M_0 fl_RX11_7 rfl rfl ly_X11_at dX11_restores_10 ?_
      refine jq_iload_n Γ dX11_restores_13 rfl 2 rfl ?_
      refine jq_aload_n Γ dX11_restores_14 rfl 0 rfl (jq_at_0 at_M_0) ?_
      refine jq_getR (v := 1) Γ hlY at_M_0 fl_RX11_7 rfl rfl ly_X11_at dX11_restores_15 ?_
      refine jq_iload_n Γ dX11_restores_18 rfl 1 rfl ?_
      refine jq_iload_n Γ dX11_restores_19 rfl 2 rfl ?_
      refine jq_iadd Γ dX11_restores_20 ?_
      refine jq_iald Γ at_M_1 rfl dX11_restores_21 (fun v2 => ?_)
      refine jq_iast Γ at_M_1 rfl dX11_restores_22 (fun s3 => ?_)
      refine jq_iincN (L' := fun v4 => [(2, jI v4), (0, jR 0), (1, jI p1)]) Γ dX11_restores_23 2 rfl hnl rfl (fun _ => rfl) (fun v4 => ?_)
      refine jq_goto Γ (tgt := 2) dX11_restores_26 rfl ?_
      refine jq_sub Γ (L' := [(0, jR 0), (1, jI p1), (2, jI v4)]) [1, 2, 0] rfl ?_
      exact jq_done (hCt1 (v4, s3))
  · intro e5
    exact jq_vreturn Γ dX11_restores_29 (hK0 _)


theorem dX11_soonest_0 : decode cX11_soonest 0 = .ok (.aload_n 0, 1) := by decide +kernel
theorem dX11_soonest_1 : decode cX11_soonest 1 = .ok (.iload_n 1, 1) := by decide +kernel
theorem dX11_soonest_2 : decode cX11_soonest 2 = .ok (.invokevirtual 323, 3) := by decide +kernel
theorem dX11_soonest_5 : decode cX11_soonest 5 = .ok (.ifCond .ne 9, 3) := by decide +kernel
theorem dX11_soonest_8 : decode cX11_soonest 8 = .ok (.aload_n 0, 1) := by decide +kernel
theorem dX11_soonest_9 : decode cX11_soonest 9 = .ok (.iconst 1, 1) := by decide +kernel
theorem dX11_soonest_10 : decode cX11_soonest 10 = .ok (.invokevirtual 84, 3) := by decide +kernel
theorem dX11_soonest_13 : decode cX11_soonest 13 = .ok (.ireturn, 1) := by decide +kernel
theorem dX11_soonest_14 : decode cX11_soonest 14 = .ok (.aload_n 0, 1) := by decide +kernel
theorem dX11_soonest_15 : decode cX11_soonest 15 = .ok (.sipush 3036, 3) := by decide +kernel
theorem dX11_soonest_18 : decode cX11_soonest 18 = .ok (.invokevirtual 442, 3) := by decide +kernel
theorem dX11_soonest_21 : decode cX11_soonest 21 = .ok (.iconst 0, 1) := by decide +kernel
theorem dX11_soonest_22 : decode cX11_soonest 22 = .ok (.istore_n 2, 1) := by decide +kernel
theorem dX11_soonest_23 : decode cX11_soonest 23 = .ok (.aload_n 0, 1) := by decide +kernel
theorem dX11_soonest_24 : decode cX11_soonest 24 = .ok (.iload_n 1, 1) := by decide +kernel
theorem dX11_soonest_25 : decode cX11_soonest 25 = .ok (.invokevirtual 293, 3) := by decide +kernel
theorem dX11_soonest_28 : decode cX11_soonest 28 = .ok (.ifCond .ne 14, 3) := by decide +kernel
theorem dX11_soonest_31 : decode cX11_soonest 31 = .ok (.aload_n 0, 1) := by decide +kernel
theorem dX11_soonest_32 : decode cX11_soonest 32 = .ok (.invokevirtual 353, 3) := by decide +kernel
theorem dX11_soonest_35 : decode cX11_soonest 35 = .ok (.pop, 1) := by decide +kernel
theorem dX11_soonest_36 : decode cX11_soonest 36 = .ok (.iinc 2 1, 3) := by decide +kernel
theorem dX11_soonest_39 : decode cX11_soonest 39 = .ok (.goto (-16), 3) := by decide +kernel
theorem dX11_soonest_42 : decode cX11_soonest 42 = .ok (.aload_n 0, 1) := by decide +kernel
theorem dX11_soonest_43 : decode cX11_soonest 43 = .ok (.sipush 3036, 3) := by decide +kernel
theorem dX11_soonest_46 : decode cX11_soonest 46 = .ok (.invokevirtual 445, 3) := by decide +kernel
theorem dX11_soonest_49 : decode cX11_soonest 49 = .ok (.aload_n 0, 1) := by decide +kernel
theorem dX11_soonest_50 : decode cX11_soonest 50 = .ok (.iload_n 2, 1) := by decide +kernel
theorem dX11_soonest_51 : decode cX11_soonest 51 = .ok (.invokevirtual 88, 3) := by decide +kernel
theorem dX11_soonest_54 : decode cX11_soonest 54 = .ok (.ireturn, 1) := by decide +kernel
set_option maxHeartbeats 4000000 in
set_option maxRecDepth 100000 in
theorem ctX11_soonest {p1 : Int} {σ : jq_M} {res : Int} {σ' : jq_M}  (h : X11_soonest p1 σ = some (res, σ')) : jq_MC jq_zM yX11_soonest cX11_soonest 3 (some .int) 6 146 [jR 0, jI p1] σ (some (jI res)) σ' := by
  refine jq_met (own := RX11) (L0 := [(0, jR 0), (1, jI p1)]) (by decide) rfl rfl rfl ?_
  intro X Γ hnl hlY hRT
  refine jq_use2 (P := fun r => jq_RT jq_zM X (some .int) (some (jI r.1)) r.2) ?_ h hRT
  intro K0 hK0
  unfold X11_soonest
  refine jq_aload_n Γ dX11_soonest_0 rfl 0 rfl (jq_at_0 at_M_0) ?_
  refine jq_iload_n Γ dX11_soonest_1 rfl 1 rfl ?_
  refine jq_cpZ (jq_virt (avs := [jI p1]) (st := []) Γ hlY rfl ml_RX11_323 rfl at_M_0 rfl rfl rfl rfl rfl dX11_soonest_2) rfl (fun r h => ctX11_isArticle h) (fun v1 hz2 => ?_)
  refine jq_if_ne (tgt := 14) Γ dX11_soonest_5 rfl ?_ ?_
  · refine jq_aload_n Γ dX11_soonest_14 rfl 0 rfl (jq_at_0 at_M_0) ?_
    refine jq_sipush Γ dX11_soonest_15 rfl ?_
    refine jq_cwV (jq_virt (avs := [jI 3036]) (st := []) Γ hlY rfl ml_RX11_442 rfl at_M_0 rfl rfl rfl rfl rfl dX11_soonest_18) (fun σ' h => ctX11_keeps h) (fun s3 => ?_)
    refine jq_iconst Γ dX11_soonest_21 rfl ?_
    refine jq_istore_n (L' := [(2, jI 0), (0, jR 0), (1, jI p1)]) Γ dX11_soonest_22 rfl hnl rfl rfl ?_
    refine jq_sub Γ (L' := [(0, jR 0), (1, jI p1), (2, jI 0)]) [1, 2, 0] rfl ?_
    refine jq_loop2 (C := fun (t4 : Int × jq_M) => jq_V jq_zM X (jq_zN jq_zM) t4.2 23 [(0, jR 0), (1, jI p1), (2, jI t4.1)] []) (KX := fun (e10 : Int × jq_M) => jq_V jq_zM X (jq_zN jq_zM) e10.2 42 [(0, jR 0), (2, jI e10.1)] []) ?_ ?_ (0, s3)
    · intro K23_t4 hCt4 hXt4 t4
      unfold X11_soonest_b23
      refine jq_aload_n Γ dX11_soonest_23 rfl 0 rfl (jq_at_0 at_M_0) ?_
      refine jq_iload_n Γ dX11_soonest_24 rfl 1 rfl ?_
      refine jq_cpZ (jq_virt (avs := [jI p1]) (st := []) Γ hlY rfl ml_RX11_293 rfl at_M_0 rfl rfl rfl rfl rfl dX11_soonest_25) rfl (fun r h => ctX11_isAgreed h) (fun v5 hz6 => ?_)
      refine jq_if_ne (tgt := 42) Γ dX11_soonest_28 rfl ?_ ?_
      · refine jq_sub Γ (L' := [(0, jR 0), (2, jI t4.1)]) [0, 2] rfl ?_
        exact jq_done (hXt4 (t4.1, t4.2))
      · refine jq_aload_n Γ dX11_soonest_31 rfl 0 rfl (jq_at_0 at_M_0) ?_
        refine jq_cwI (jq_virt (avs := []) (st := []) Γ hlY rfl ml_RX11_353 rfl at_M_0 rfl rfl rfl rfl rfl dX11_soonest_32) (fun r σ' h => ctX11_dayGoes h) (fun v7 s8 => ?_)
        refine jq_pop Γ dX11_soonest_35 rfl ?_
        refine jq_iincN (L' := fun v9 => [(2, jI v9), (0, jR 0), (1, jI p1)]) Γ dX11_soonest_36 2 rfl hnl rfl (fun _ => rfl) (fun v9 => ?_)
        refine jq_goto Γ (tgt := 23) dX11_soonest_39 rfl ?_
        refine jq_sub Γ (L' := [(0, jR 0), (1, jI p1), (2, jI v9)]) [1, 2, 0] rfl ?_
        exact jq_done (hCt4 (v9, s8))
    · intro e10
      refine jq_aload_n Γ dX11_soonest_42 rfl 0 rfl (jq_at_0 at_M_0) ?_
      refine jq_sipush Γ dX11_soonest_43 rfl ?_
      refine jq_cwV (jq_virt (avs := [jI 3036]) (st := []) Γ hlY rfl ml_RX11_445 rfl at_M_0 rfl rfl rfl rfl rfl dX11_soonest_46) (fun σ' h => ctX11_restores h) (fun s11 => ?_)
      refine jq_aload_n Γ dX11_soonest_49 rfl 0 rfl (jq_at_0 at_M_0) ?_
      refine jq_iload_n Γ dX11_soonest_50 rfl 1 rfl ?_
      refine jq_cwI (jq_virt (avs := [jI e10.1]) (st := []) Γ hlY rfl ml_RX11_88 rfl at_M_0 rfl rfl rfl rfl rfl dX11_soonest_51) (fun r σ' h => ctX11_gives h) (fun v12 s13 => ?_)
      exact jq_ireturn Γ dX11_soonest_54 (hK0 _)
  · refine jq_aload_n Γ dX11_soonest_8 rfl 0 rfl (jq_at_0 at_M_0) ?_
    refine jq_iconst Γ dX11_soonest_9 rfl ?_
    refine jq_cwI (jq_virt (avs := [jI 1]) (st := []) Γ hlY rfl ml_RX11_84 rfl at_M_0 rfl rfl rfl rfl rfl dX11_soonest_10) (fun r σ' h => ctX11_refuse h) (fun v14 s15 => ?_)
    exact jq_ireturn Γ dX11_soonest_13 (hK0 _)


theorem dX11_chain_0 : decode cX11_chain 0 = .ok (.aload_n 0, 1) := by decide +kernel
theorem dX11_chain_1 : decode cX11_chain 1 = .ok (.iload_n 1, 1) := by decide +kernel
theorem dX11_chain_2 : decode cX11_chain 2 = .ok (.invokevirtual 323, 3) := by decide +kernel
theorem dX11_chain_5 : decode cX11_chain 5 = .ok (.ifCond .ne 9, 3) := by decide +kernel
theorem dX11_chain_8 : decode cX11_chain 8 = .ok (.aload_n 0, 1) := by decide +kernel
theorem dX11_chain_9 : decode cX11_chain 9 = .ok (.iconst 1, 1) := by decide +kernel
theorem dX11_chain_10 : decode cX11_chain 10 = .ok (.invokevirtual 84, 3) := by decide +kernel
theorem dX11_chain_13 : decode cX11_chain 13 = .ok (.ireturn, 1) := by decide +kernel
theorem dX11_chain_14 : decode cX11_chain 14 = .ok (.iconst 0, 1) := by decide +kernel
theorem dX11_chain_15 : decode cX11_chain 15 = .ok (.istore_n 2, 1) := by decide +kernel
theorem dX11_chain_16 : decode cX11_chain 16 = .ok (.iload_n 2, 1) := by decide +kernel
theorem dX11_chain_17 : decode cX11_chain 17 = .ok (.iload_n 1, 1) := by decide +kernel
theorem dX11_chain_18 : decode cX11_chain 18 = .ok (.if_icmp .gt 119, 3) := by decide +kernel
theorem dX11_chain_21 : decode cX11_chain 21 = .ok (.iload_n 2, 1) := by decide +kernel
theorem dX11_chain_22 : decode cX11_chain 22 = .ok (.invokestatic 290, 3) := by decide +kernel
theorem dX11_chain_25 : decode cX11_chain 25 = .ok (.istore_n 3, 1) := by decide +kernel
theorem dX11_chain_26 : decode cX11_chain 26 = .ok (.aload_n 0, 1) := by decide +kernel
theorem dX11_chain_27 : decode cX11_chain 27 = .ok (.getfield 62, 3) := by decide +kernel
theorem dX11_chain_30 : decode cX11_chain 30 = .ok (.iload_n 2, 1) := by decide +kernel
theorem dX11_chain_31 : decode cX11_chain 31 = .ok (.iconst 0, 1) := by decide +kernel
theorem dX11_chain_32 : decode cX11_chain 32 = .ok (.iastore, 1) := by decide +kernel
theorem dX11_chain_33 : decode cX11_chain 33 = .ok (.iconst 0, 1) := by decide +kernel
theorem dX11_chain_34 : decode cX11_chain 34 = .ok (.istore 4, 2) := by decide +kernel
theorem dX11_chain_36 : decode cX11_chain 36 = .ok (.iload 4, 2) := by decide +kernel
theorem dX11_chain_38 : decode cX11_chain 38 = .ok (.iload_n 2, 1) := by decide +kernel
theorem dX11_chain_39 : decode cX11_chain 39 = .ok (.if_icmp .ge 56, 3) := by decide +kernel
theorem dX11_chain_42 : decode cX11_chain 42 = .ok (.aload_n 0, 1) := by decide +kernel
theorem dX11_chain_43 : decode cX11_chain 43 = .ok (.iload_n 2, 1) := by decide +kernel
theorem dX11_chain_44 : decode cX11_chain 44 = .ok (.invokevirtual 293, 3) := by decide +kernel
theorem dX11_chain_47 : decode cX11_chain 47 = .ok (.ifCond .ne 48, 3) := by decide +kernel
theorem dX11_chain_50 : decode cX11_chain 50 = .ok (.aload_n 0, 1) := by decide +kernel
theorem dX11_chain_51 : decode cX11_chain 51 = .ok (.aload_n 0, 1) := by decide +kernel
theorem dX11_chain_52 : decode cX11_chain 52 = .ok (.getfield 7, 3) := by decide +kernel
theorem dX11_chain_55 : decode cX11_chain 55 = .ok (.iload_n 3, 1) := by decide +kernel
theorem dX11_chain_56 : decode cX11_chain 56 = .ok (.iconst 2, 1) := by decide +kernel
theorem dX11_chain_57 : decode cX11_chain 57 = .ok (.iadd, 1) := by decide +kernel
theorem dX11_chain_58 : decode cX11_chain 58 = .ok (.iaload, 1) := by decide +kernel
theorem dX11_chain_59 : decode cX11_chain 59 = .ok (.iload 4, 2) := by decide +kernel
theorem dX11_chain_61 : decode cX11_chain 61 = .ok (.invokevirtual 266, 3) := by decide +kernel
theorem dX11_chain_64 : decode cX11_chain 64 = .ok (.ifCond .eq 25, 3) := by decide +kernel
theorem dX11_chain_67 : decode cX11_chain 67 = .ok (.aload_n 0, 1) := by decide +kernel
theorem dX11_chain_68 : decode cX11_chain 68 = .ok (.getfield 62, 3) := by decide +kernel
theorem dX11_chain_71 : decode cX11_chain 71 = .ok (.iload_n 2, 1) := by decide +kernel
theorem dX11_chain_72 : decode cX11_chain 72 = .ok (.aload_n 0, 1) := by decide +kernel
theorem dX11_chain_73 : decode cX11_chain 73 = .ok (.getfield 62, 3) := by decide +kernel
theorem dX11_chain_76 : decode cX11_chain 76 = .ok (.iload_n 2, 1) := by decide +kernel
theorem dX11_chain_77 : decode cX11_chain 77 = .ok (.iaload, 1) := by decide +kernel
theorem dX11_chain_78 : decode cX11_chain 78 = .ok (.aload_n 0, 1) := by decide +kernel
theorem dX11_chain_79 : decode cX11_chain 79 = .ok (.getfield 62, 3) := by decide +kernel
theorem dX11_chain_82 : decode cX11_chain 82 = .ok (.iload 4, 2) := by decide +kernel
theorem dX11_chain_84 : decode cX11_chain 84 = .ok (.iaload, 1) := by decide +kernel
theorem dX11_chain_85 : decode cX11_chain 85 = .ok (.invokestatic 287, 3) := by decide +kernel
theorem dX11_chain_88 : decode cX11_chain 88 = .ok (.iastore, 1) := by decide +kernel
theorem dX11_chain_89 : decode cX11_chain 89 = .ok (.iinc 4 1, 3) := by decide +kernel
theorem dX11_chain_92 : decode cX11_chain 92 = .ok (.goto (-56), 3) := by decide +kernel
theorem dX11_chain_95 : decode cX11_chain 95 = .ok (.aload_n 0, 1) := by decide +kernel
theorem dX11_chain_96 : decode cX11_chain 96 = .ok (.getfield 62, 3) := by decide +kernel
theorem dX11_chain_99 : decode cX11_chain 99 = .ok (.iload_n 2, 1) := by decide +kernel
theorem dX11_chain_100 : decode cX11_chain 100 = .ok (.dup2, 1) := by decide +kernel
theorem dX11_chain_101 : decode cX11_chain 101 = .ok (.iaload, 1) := by decide +kernel
theorem dX11_chain_102 : decode cX11_chain 102 = .ok (.aload_n 0, 1) := by decide +kernel
theorem dX11_chain_103 : decode cX11_chain 103 = .ok (.iload_n 2, 1) := by decide +kernel
theorem dX11_chain_104 : decode cX11_chain 104 = .ok (.invokevirtual 293, 3) := by decide +kernel
theorem dX11_chain_107 : decode cX11_chain 107 = .ok (.ifCond .eq 7, 3) := by decide +kernel
theorem dX11_chain_110 : decode cX11_chain 110 = .ok (.iconst 0, 1) := by decide +kernel
theorem dX11_chain_111 : decode cX11_chain 111 = .ok (.goto 18, 3) := by decide +kernel
theorem dX11_chain_114 : decode cX11_chain 114 = .ok (.aload_n 0, 1) := by decide +kernel
theorem dX11_chain_115 : decode cX11_chain 115 = .ok (.getfield 7, 3) := by decide +kernel
theorem dX11_chain_118 : decode cX11_chain 118 = .ok (.iload_n 3, 1) := by decide +kernel
theorem dX11_chain_119 : decode cX11_chain 119 = .ok (.iaload, 1) := by decide +kernel
theorem dX11_chain_120 : decode cX11_chain 120 = .ok (.aload_n 0, 1) := by decide +kernel
theorem dX11_chain_121 : decode cX11_chain 121 = .ok (.getfield 7, 3) := by decide +kernel
theorem dX11_chain_124 : decode cX11_chain 124 = .ok (.iload_n 3, 1) := by decide +kernel
theorem dX11_chain_125 : decode cX11_chain 125 = .ok (.iconst 3, 1) := by decide +kernel
theorem dX11_chain_126 : decode cX11_chain 126 = .ok (.iadd, 1) := by decide +kernel
theorem dX11_chain_127 : decode cX11_chain 127 = .ok (.iaload, 1) := by decide +kernel
theorem dX11_chain_128 : decode cX11_chain 128 = .ok (.isub, 1) := by decide +kernel
theorem dX11_chain_129 : decode cX11_chain 129 = .ok (.iadd, 1) := by decide +kernel
theorem dX11_chain_130 : decode cX11_chain 130 = .ok (.iastore, 1) := by decide +kernel
theorem dX11_chain_131 : decode cX11_chain 131 = .ok (.iinc 2 1, 3) := by decide +kernel
theorem dX11_chain_134 : decode cX11_chain 134 = .ok (.goto (-118), 3) := by decide +kernel
theorem dX11_chain_137 : decode cX11_chain 137 = .ok (.aload_n 0, 1) := by decide +kernel
theorem dX11_chain_138 : decode cX11_chain 138 = .ok (.aload_n 0, 1) := by decide +kernel
theorem dX11_chain_139 : decode cX11_chain 139 = .ok (.getfield 62, 3) := by decide +kernel
theorem dX11_chain_142 : decode cX11_chain 142 = .ok (.iload_n 1, 1) := by decide +kernel
theorem dX11_chain_143 : decode cX11_chain 143 = .ok (.iaload, 1) := by decide +kernel
theorem dX11_chain_144 : decode cX11_chain 144 = .ok (.invokevirtual 88, 3) := by decide +kernel
theorem dX11_chain_147 : decode cX11_chain 147 = .ok (.ireturn, 1) := by decide +kernel
set_option maxHeartbeats 4000000 in
set_option maxRecDepth 100000 in
theorem ctX11_chain {p1 : Int} {σ : jq_M} {res : Int} {σ' : jq_M}  (h : X11_chain p1 σ = some (res, σ')) : jq_MC jq_zM yX11_chain cX11_chain 5 (some .int) 3 81 [jR 0, jI p1] σ (some (jI res)) σ' := by
  refine jq_met (own := RX11) (L0 := [(0, jR 0), (1, jI p1)]) (by decide) rfl rfl rfl ?_
  intro X Γ hnl hlY hRT
  refine jq_use2 (P := fun r => jq_RT jq_zM X (some .int) (some (jI r.1)) r.2) ?_ h hRT
  intro K0 hK0
  unfold X11_chain
  refine jq_aload_n Γ dX11_chain_0 rfl 0 rfl (jq_at_0 at_M_0) ?_
  refine jq_iload_n Γ dX11_chain_1 rfl 1 rfl ?_
  refine jq_cpZ (jq_virt (avs := [jI p1]) (st := []) Γ hlY rfl ml_RX11_323 rfl at_M_0 rfl rfl rfl rfl rfl dX11_chain_2) rfl (fun r h => ctX11_isArticle h) (fun v1 hz2 => ?_)
  refine jq_if_ne (tgt := 14) Γ dX11_chain_5 rfl ?_ ?_
  · refine jq_iconst Γ dX11_chain_14 rfl ?_
    refine jq_istore_n (L' := [(2, jI 0), (0, jR 0), (1, jI p1)]) Γ dX11_chain_15 rfl hnl rfl rfl ?_
    refine jq_sub Γ (L' := [(0, jR 0), (1, jI p1), (2, jI 0)]) [1, 2, 0] rfl ?_
    refine jq_loop2 (C := fun (t3 : Int × jq_M) => jq_V jq_zM X (jq_zN jq_zM) t3.2 16 [(0, jR 0), (1, jI p1), (2, jI t3.1)] []) (KX := fun (e30 : jq_M) => jq_V jq_zM X (jq_zN jq_zM) e30 137 [(0, jR 0), (1, jI p1)] []) ?_ ?_ (0, σ)
    · intro K16_t3 hCt3 hXt3 t3
      unfold X11_chain_b16
      have hj95_1008 : ∀ (j18 : Int) (j19 : Int) (s20 : jq_M), jq_J (X11_chain_j95 p1 j18 j19 s20) K16_t3 (jq_V jq_zM X (jq_zN jq_zM) s20 95 [(0, jR 0), (1, jI p1), (2, jI j18), (3, jI j19)] []) := by
        intro j18 j19 s20
        unfold X11_chain_j95
        refine jq_aload_n Γ dX11_chain_95 rfl 0 rfl (jq_at_0 at_M_0) ?_
        refine jq_getR (v := 14) Γ hlY at_M_0 fl_RX11_62 rfl rfl ly_X11_chains dX11_chain_96 ?_
        refine jq_iload_n Γ dX11_chain_99 rfl 2 rfl ?_
        refine jq_dup2 Γ dX11_chain_100 rfl rfl ?_
        refine jq_iald Γ at_M_14 rfl dX11_chain_101 (fun v21 => ?_)
        refine jq_aload_n Γ dX11_chain_102 rfl 0 rfl (jq_at_0 at_M_0) ?_
        refine jq_iload_n Γ dX11_chain_103 rfl 2 rfl ?_
        refine jq_cpZ (jq_virt (avs := [jI j18]) (st := [jI v21, jI j18, jR 14]) Γ hlY rfl ml_RX11_293 rfl at_M_0 rfl rfl rfl rfl rfl dX11_chain_104) rfl (fun r h => ctX11_isAgreed h) (fun v22 hz23 => ?_)
        refine jq_if_eq (tgt := 114) Γ dX11_chain_107 rfl ?_ ?_
        · refine jq_aload_n Γ dX11_chain_114 rfl 0 rfl (jq_at_0 at_M_0) ?_
          refine jq_getR (v := 1) Γ hlY at_M_0 fl_RX11_7 rfl rfl ly_X11_at dX11_chain_115 ?_
          refine jq_iload_n Γ dX11_chain_118 rfl 3 rfl ?_
          refine jq_iald Γ at_M_1 rfl dX11_chain_119 (fun v24 => ?_)
          refine jq_aload_n Γ dX11_chain_120 rfl 0 rfl (jq_at_0 at_M_0) ?_
          refine jq_getR (v := 1) Γ hlY at_M_0 fl_RX11_7 rfl rfl ly_X11_at dX11_chain_121 ?_
          refine jq_iload_n Γ dX11_chain_124 rfl 3 rfl ?_
          refine jq_iconst Γ dX11_chain_125 rfl ?_
          refine jq_iadd Γ dX11_chain_126 ?_
          refine jq_iald Γ at_M_1 rfl dX11_chain_127 (fun v25 => ?_)
          refine jq_isub Γ dX11_chain_128 ?_
          refine jq_iadd Γ dX11_chain_129 ?_
          refine jq_iast Γ at_M_14 rfl dX11_chain_130 (fun s26 => ?_)
          refine jq_iincN (L' := fun v27 => [(2, jI v27), (0, jR 0), (1, jI p1), (3, jI j19)]) Γ dX11_chain_131 2 rfl hnl rfl (fun _ => rfl) (fun v27 => ?_)
          refine jq_goto Γ (tgt := 16) dX11_chain_134 rfl ?_
          refine jq_sub Γ (L' := [(0, jR 0), (1, jI p1), (2, jI v27)]) [1, 2, 0] rfl ?_
          exact jq_done (hCt3 (v27, s26))
        · refine jq_iconst Γ dX11_chain_110 rfl ?_
          refine jq_goto Γ (tgt := 129) dX11_chain_111 rfl ?_
          refine jq_iadd Γ dX11_chain_129 ?_
          refine jq_iast Γ at_M_14 rfl dX11_chain_130 (fun s28 => ?_)
          refine jq_iincN (L' := fun v29 => [(2, jI v29), (0, jR 0), (1, jI p1), (3, jI j19)]) Γ dX11_chain_131 2 rfl hnl rfl (fun _ => rfl) (fun v29 => ?_)
          refine jq_goto Γ (tgt := 16) dX11_chain_134 rfl ?_
          refine jq_sub Γ (L' := [(0, jR 0), (1, jI p1), (2, jI v29)]) [1, 2, 0] rfl ?_
          exact jq_done (hCt3 (v29, s28))
      refine jq_iload_n Γ dX11_chain_16 rfl 2 rfl ?_
      refine jq_iload_n Γ dX11_chain_17 rfl 1 rfl ?_
      refine jq_icmp_gt (tgt := 137) Γ dX11_chain_18 rfl ?_ ?_
      · refine jq_sub Γ (L' := [(0, jR 0), (1, jI p1)]) [0, 1] rfl ?_
        exact jq_done (hXt3 t3.2)
      · refine jq_iload_n Γ dX11_chain_21 rfl 2 rfl ?_
        refine jq_cpI (jq_stat (avs := [jI t3.1]) (st := []) Γ hlY rfl ml_RX11_290 rfl rfl rfl rfl rfl dX11_chain_22) (fun r h => ctX11_articleRow h) (fun v4 => ?_)
        refine jq_istore_n (L' := [(3, jI v4), (0, jR 0), (1, jI p1), (2, jI t3.1)]) Γ dX11_chain_25 rfl hnl rfl rfl ?_
        refine jq_aload_n Γ dX11_chain_26 rfl 1 rfl (jq_at_0 at_M_0) ?_
        refine jq_getR (v := 14) Γ hlY at_M_0 fl_RX11_62 rfl rfl ly_X11_chains dX11_chain_27 ?_
        refine jq_iload_n Γ dX11_chain_30 rfl 3 rfl ?_
        refine jq_iconst Γ dX11_chain_31 rfl ?_
        refine jq_iast Γ at_M_14 rfl dX11_chain_32 (fun s5 => ?_)
        refine jq_iconst Γ dX11_chain_33 rfl ?_
        refine jq_istore (L' := [(4, jI 0), (3, jI v4), (0, jR 0), (1, jI p1), (2, jI t3.1)]) Γ dX11_chain_34 hnl rfl rfl ?_
        refine jq_sub Γ (L' := [(0, jR 0), (1, jI p1), (2, jI t3.1), (3, jI v4), (4, jI 0)]) [2, 3, 4, 1, 0] rfl ?_
        refine jq_loop2 (C := fun (t6 : Int × jq_M) => jq_V jq_zM X (jq_zN jq_zM) t6.2 36 [(0, jR 0), (1, jI p1), (2, jI t3.1), (3, jI v4), (4, jI t6.1)] []) (KX := fun (e17 : jq_M) => jq_V jq_zM X (jq_zN jq_zM) e17 95 [(0, jR 0), (1, jI p1), (2, jI t3.1), (3, jI v4)] []) ?_ ?_ (0, s5)
        · intro K36_t6 hCt6 hXt6 t6
          unfold X11_chain_b36
          refine jq_iload Γ dX11_chain_36 4 rfl ?_
          refine jq_iload_n Γ dX11_chain_38 rfl 2 rfl ?_
          refine jq_icmp_ge (tgt := 95) Γ dX11_chain_39 rfl ?_ ?_
          · refine jq_sub Γ (L' := [(0, jR 0), (1, jI p1), (2, jI t3.1), (3, jI v4)]) [0, 1, 2, 3] rfl ?_
            exact jq_done (hXt6 t6.2)
          · refine jq_aload_n Γ dX11_chain_42 rfl 0 rfl (jq_at_0 at_M_0) ?_
            refine jq_iload_n Γ dX11_chain_43 rfl 2 rfl ?_
            refine jq_cpZ (jq_virt (avs := [jI t3.1]) (st := []) Γ hlY rfl ml_RX11_293 rfl at_M_0 rfl rfl rfl rfl rfl dX11_chain_44) rfl (fun r h => ctX11_isAgreed h) (fun v7 hz8 => ?_)
            refine jq_if_ne (tgt := 95) Γ dX11_chain_47 rfl ?_ ?_
            · refine jq_sub Γ (L' := [(0, jR 0), (1, jI p1), (2, jI t3.1), (3, jI v4)]) [0, 1, 2, 3] rfl ?_
              exact jq_done (hXt6 t6.2)
            · refine jq_aload_n Γ dX11_chain_50 rfl 0 rfl (jq_at_0 at_M_0) ?_
              refine jq_aload_n Γ dX11_chain_51 rfl 0 rfl (jq_at_0 at_M_0) ?_
              refine jq_getR (v := 1) Γ hlY at_M_0 fl_RX11_7 rfl rfl ly_X11_at dX11_chain_52 ?_
              refine jq_iload_n Γ dX11_chain_55 rfl 3 rfl ?_
              refine jq_iconst Γ dX11_chain_56 rfl ?_
              refine jq_iadd Γ dX11_chain_57 ?_
              refine jq_iald Γ at_M_1 rfl dX11_chain_58 (fun v9 => ?_)
              refine jq_iload Γ dX11_chain_59 4 rfl ?_
              refine jq_cpZ (jq_virt (avs := [jI v9, jI t6.1]) (st := []) Γ hlY rfl ml_RX11_266 rfl at_M_0 rfl rfl rfl rfl rfl dX11_chain_61) rfl (fun r h => ctX11_isIn h) (fun v10 hz11 => ?_)
              refine jq_if_eq (tgt := 89) Γ dX11_chain_64 rfl ?_ ?_
              · refine jq_iincN (L' := fun v12 => [(4, jI v12), (0, jR 0), (1, jI p1), (2, jI t3.1), (3, jI v4)]) Γ dX11_chain_89 4 rfl hnl rfl (fun _ => rfl) (fun v12 => ?_)
                refine jq_goto Γ (tgt := 36) dX11_chain_92 rfl ?_
                refine jq_sub Γ (L' := [(0, jR 0), (1, jI p1), (2, jI t3.1), (3, jI v4), (4, jI v12)]) [1, 2, 3, 4, 0] rfl ?_
                exact jq_done (hCt6 (v12, t6.2))
              · refine jq_aload_n Γ dX11_chain_67 rfl 0 rfl (jq_at_0 at_M_0) ?_
                refine jq_getR (v := 14) Γ hlY at_M_0 fl_RX11_62 rfl rfl ly_X11_chains dX11_chain_68 ?_
                refine jq_iload_n Γ dX11_chain_71 rfl 2 rfl ?_
                refine jq_aload_n Γ dX11_chain_72 rfl 0 rfl (jq_at_0 at_M_0) ?_
                refine jq_getR (v := 14) Γ hlY at_M_0 fl_RX11_62 rfl rfl ly_X11_chains dX11_chain_73 ?_
                refine jq_iload_n Γ dX11_chain_76 rfl 2 rfl ?_
                refine jq_iald Γ at_M_14 rfl dX11_chain_77 (fun v13 => ?_)
                refine jq_aload_n Γ dX11_chain_78 rfl 0 rfl (jq_at_0 at_M_0) ?_
                refine jq_getR (v := 14) Γ hlY at_M_0 fl_RX11_62 rfl rfl ly_X11_chains dX11_chain_79 ?_
                refine jq_iload Γ dX11_chain_82 4 rfl ?_
                refine jq_iald Γ at_M_14 rfl dX11_chain_84 (fun v14 => ?_)
                refine jq_mmax Γ mw_RX11_287 mws_max mwi mwc_max rfl rfl dX11_chain_85 ?_
                refine jq_iast Γ at_M_14 rfl dX11_chain_88 (fun s15 => ?_)
                refine jq_iincN (L' := fun v16 => [(4, jI v16), (0, jR 0), (1, jI p1), (2, jI t3.1), (3, jI v4)]) Γ dX11_chain_89 4 rfl hnl rfl (fun _ => rfl) (fun v16 => ?_)
                refine jq_goto Γ (tgt := 36) dX11_chain_92 rfl ?_
                refine jq_sub Γ (L' := [(0, jR 0), (1, jI p1), (2, jI t3.1), (3, jI v4), (4, jI v16)]) [1, 2, 3, 4, 0] rfl ?_
                exact jq_done (hCt6 (v16, s15))
        · intro e17
          exact hj95_1008 t3.1 v4 e17
    · intro e30
      refine jq_aload_n Γ dX11_chain_137 rfl 0 rfl (jq_at_0 at_M_0) ?_
      refine jq_aload_n Γ dX11_chain_138 rfl 0 rfl (jq_at_0 at_M_0) ?_
      refine jq_getR (v := 14) Γ hlY at_M_0 fl_RX11_62 rfl rfl ly_X11_chains dX11_chain_139 ?_
      refine jq_iload_n Γ dX11_chain_142 rfl 1 rfl ?_
      refine jq_iald Γ at_M_14 rfl dX11_chain_143 (fun v31 => ?_)
      refine jq_cwI (jq_virt (avs := [jI v31]) (st := []) Γ hlY rfl ml_RX11_88 rfl at_M_0 rfl rfl rfl rfl rfl dX11_chain_144) (fun r σ' h => ctX11_gives h) (fun v32 s33 => ?_)
      exact jq_ireturn Γ dX11_chain_147 (hK0 _)
  · refine jq_aload_n Γ dX11_chain_8 rfl 0 rfl (jq_at_0 at_M_0) ?_
    refine jq_iconst Γ dX11_chain_9 rfl ?_
    refine jq_cwI (jq_virt (avs := [jI 1]) (st := []) Γ hlY rfl ml_RX11_84 rfl at_M_0 rfl rfl rfl rfl rfl dX11_chain_10) (fun r σ' h => ctX11_refuse h) (fun v34 s35 => ?_)
    exact jq_ireturn Γ dX11_chain_13 (hK0 _)


theorem dX11_agreedIn_0 : decode cX11_agreedIn 0 = .ok (.iload_n 1, 1) := by decide +kernel
theorem dX11_agreedIn_1 : decode cX11_agreedIn 1 = .ok (.i2l, 1) := by decide +kernel
theorem dX11_agreedIn_2 : decode cX11_agreedIn 2 = .ok (.lconst 0, 1) := by decide +kernel
theorem dX11_agreedIn_3 : decode cX11_agreedIn 3 = .ok (.ldc2_w 448, 3) := by decide +kernel
theorem dX11_agreedIn_6 : decode cX11_agreedIn 6 = .ok (.invokestatic 343, 3) := by decide +kernel
theorem dX11_agreedIn_9 : decode cX11_agreedIn 9 = .ok (.ifCond .ne 9, 3) := by decide +kernel
theorem dX11_agreedIn_12 : decode cX11_agreedIn 12 = .ok (.aload_n 0, 1) := by decide +kernel
theorem dX11_agreedIn_13 : decode cX11_agreedIn 13 = .ok (.iconst 1, 1) := by decide +kernel
theorem dX11_agreedIn_14 : decode cX11_agreedIn 14 = .ok (.invokevirtual 84, 3) := by decide +kernel
theorem dX11_agreedIn_17 : decode cX11_agreedIn 17 = .ok (.ireturn, 1) := by decide +kernel
theorem dX11_agreedIn_18 : decode cX11_agreedIn 18 = .ok (.aload_n 0, 1) := by decide +kernel
theorem dX11_agreedIn_19 : decode cX11_agreedIn 19 = .ok (.sipush 3036, 3) := by decide +kernel
theorem dX11_agreedIn_22 : decode cX11_agreedIn 22 = .ok (.invokevirtual 442, 3) := by decide +kernel
theorem dX11_agreedIn_25 : decode cX11_agreedIn 25 = .ok (.aload_n 0, 1) := by decide +kernel
theorem dX11_agreedIn_26 : decode cX11_agreedIn 26 = .ok (.iload_n 1, 1) := by decide +kernel
theorem dX11_agreedIn_27 : decode cX11_agreedIn 27 = .ok (.invokevirtual 356, 3) := by decide +kernel
theorem dX11_agreedIn_30 : decode cX11_agreedIn 30 = .ok (.pop, 1) := by decide +kernel
theorem dX11_agreedIn_31 : decode cX11_agreedIn 31 = .ok (.aload_n 0, 1) := by decide +kernel
theorem dX11_agreedIn_32 : decode cX11_agreedIn 32 = .ok (.invokevirtual 296, 3) := by decide +kernel
theorem dX11_agreedIn_35 : decode cX11_agreedIn 35 = .ok (.istore_n 2, 1) := by decide +kernel
theorem dX11_agreedIn_36 : decode cX11_agreedIn 36 = .ok (.aload_n 0, 1) := by decide +kernel
theorem dX11_agreedIn_37 : decode cX11_agreedIn 37 = .ok (.sipush 3036, 3) := by decide +kernel
theorem dX11_agreedIn_40 : decode cX11_agreedIn 40 = .ok (.invokevirtual 445, 3) := by decide +kernel
theorem dX11_agreedIn_43 : decode cX11_agreedIn 43 = .ok (.aload_n 0, 1) := by decide +kernel
theorem dX11_agreedIn_44 : decode cX11_agreedIn 44 = .ok (.iload_n 2, 1) := by decide +kernel
theorem dX11_agreedIn_45 : decode cX11_agreedIn 45 = .ok (.invokevirtual 88, 3) := by decide +kernel
theorem dX11_agreedIn_48 : decode cX11_agreedIn 48 = .ok (.ireturn, 1) := by decide +kernel
set_option maxHeartbeats 4000000 in
set_option maxRecDepth 100000 in
theorem ctX11_agreedIn {p1 : Int} {σ : jq_M} {res : Int} {σ' : jq_M}  (h : X11_agreedIn p1 σ = some (res, σ')) : jq_MC jq_zM yX11_agreedIn cX11_agreedIn 3 (some .int) 7 169 [jR 0, jI p1] σ (some (jI res)) σ' := by
  refine jq_met (own := RX11) (L0 := [(0, jR 0), (1, jI p1)]) (by decide) rfl rfl rfl ?_
  intro X Γ hnl hlY hRT
  refine jq_use2 (P := fun r => jq_RT jq_zM X (some .int) (some (jI r.1)) r.2) ?_ h hRT
  intro K0 hK0
  unfold X11_agreedIn
  refine jq_iload_n Γ dX11_agreedIn_0 rfl 1 rfl ?_
  refine jq_i2l Γ dX11_agreedIn_1 ?_
  refine jq_lconst Γ 0 dX11_agreedIn_2 rfl rfl ?_
  refine jq_ldc2 Γ 300 dX11_agreedIn_3 kc_RX11_448 rfl ?_
  refine jq_cpZ (jq_stat (avs := [jL p1, jL 0, jL 300]) (st := []) Γ hlY rfl ml_RX11_343 rfl rfl rfl rfl rfl dX11_agreedIn_6) rfl (fun r h => ctX11_isFrom h) (fun v1 hz2 => ?_)
  refine jq_if_ne (tgt := 18) Γ dX11_agreedIn_9 rfl ?_ ?_
  · refine jq_aload_n Γ dX11_agreedIn_18 rfl 0 rfl (jq_at_0 at_M_0) ?_
    refine jq_sipush Γ dX11_agreedIn_19 rfl ?_
    refine jq_cwV (jq_virt (avs := [jI 3036]) (st := []) Γ hlY rfl ml_RX11_442 rfl at_M_0 rfl rfl rfl rfl rfl dX11_agreedIn_22) (fun σ' h => ctX11_keeps h) (fun s3 => ?_)
    refine jq_aload_n Γ dX11_agreedIn_25 rfl 0 rfl (jq_at_0 at_M_0) ?_
    refine jq_iload_n Γ dX11_agreedIn_26 rfl 1 rfl ?_
    refine jq_cwI (jq_virt (avs := [jI p1]) (st := []) Γ hlY rfl ml_RX11_356 rfl at_M_0 rfl rfl rfl rfl rfl dX11_agreedIn_27) (fun r σ' h => ctX11_daysGo h) (fun v4 s5 => ?_)
    refine jq_pop Γ dX11_agreedIn_30 rfl ?_
    refine jq_aload_n Γ dX11_agreedIn_31 rfl 0 rfl (jq_at_0 at_M_0) ?_
    refine jq_cpI (jq_virt (avs := []) (st := []) Γ hlY rfl ml_RX11_296 rfl at_M_0 rfl rfl rfl rfl rfl dX11_agreedIn_32) (fun r h => ctX11_agreedNow h) (fun v6 => ?_)
    refine jq_istore_n (L' := [(2, jI v6), (0, jR 0), (1, jI p1)]) Γ dX11_agreedIn_35 rfl hnl rfl rfl ?_
    refine jq_aload_n Γ dX11_agreedIn_36 rfl 1 rfl (jq_at_0 at_M_0) ?_
    refine jq_sipush Γ dX11_agreedIn_37 rfl ?_
    refine jq_cwV (jq_virt (avs := [jI 3036]) (st := []) Γ hlY rfl ml_RX11_445 rfl at_M_0 rfl rfl rfl rfl rfl dX11_agreedIn_40) (fun σ' h => ctX11_restores h) (fun s7 => ?_)
    refine jq_aload_n Γ dX11_agreedIn_43 rfl 1 rfl (jq_at_0 at_M_0) ?_
    refine jq_iload_n Γ dX11_agreedIn_44 rfl 0 rfl ?_
    refine jq_cwI (jq_virt (avs := [jI v6]) (st := []) Γ hlY rfl ml_RX11_88 rfl at_M_0 rfl rfl rfl rfl rfl dX11_agreedIn_45) (fun r σ' h => ctX11_gives h) (fun v8 s9 => ?_)
    exact jq_ireturn Γ dX11_agreedIn_48 (hK0 _)
  · refine jq_aload_n Γ dX11_agreedIn_12 rfl 0 rfl (jq_at_0 at_M_0) ?_
    refine jq_iconst Γ dX11_agreedIn_13 rfl ?_
    refine jq_cwI (jq_virt (avs := [jI 1]) (st := []) Γ hlY rfl ml_RX11_84 rfl at_M_0 rfl rfl rfl rfl rfl dX11_agreedIn_14) (fun r σ' h => ctX11_refuse h) (fun v10 s11 => ?_)
    exact jq_ireturn Γ dX11_agreedIn_17 (hK0 _)


theorem dX11_luckOf_0 : decode cX11_luckOf 0 = .ok (.aload_n 0, 1) := by decide +kernel
theorem dX11_luckOf_1 : decode cX11_luckOf 1 = .ok (.iload_n 1, 1) := by decide +kernel
theorem dX11_luckOf_2 : decode cX11_luckOf 2 = .ok (.invokevirtual 439, 3) := by decide +kernel
theorem dX11_luckOf_5 : decode cX11_luckOf 5 = .ok (.iconst 1, 1) := by decide +kernel
theorem dX11_luckOf_6 : decode cX11_luckOf 6 = .ok (.iload_n 1, 1) := by decide +kernel
theorem dX11_luckOf_7 : decode cX11_luckOf 7 = .ok (.ishl, 1) := by decide +kernel
theorem dX11_luckOf_8 : decode cX11_luckOf 8 = .ok (.ior, 1) := by decide +kernel
theorem dX11_luckOf_9 : decode cX11_luckOf 9 = .ok (.istore_n 2, 1) := by decide +kernel
theorem dX11_luckOf_10 : decode cX11_luckOf 10 = .ok (.lconst 1, 1) := by decide +kernel
theorem dX11_luckOf_11 : decode cX11_luckOf 11 = .ok (.lstore_n 3, 1) := by decide +kernel
theorem dX11_luckOf_12 : decode cX11_luckOf 12 = .ok (.iconst 0, 1) := by decide +kernel
theorem dX11_luckOf_13 : decode cX11_luckOf 13 = .ok (.istore 5, 2) := by decide +kernel
theorem dX11_luckOf_15 : decode cX11_luckOf 15 = .ok (.iload 5, 2) := by decide +kernel
theorem dX11_luckOf_17 : decode cX11_luckOf 17 = .ok (.bipush 8, 2) := by decide +kernel
theorem dX11_luckOf_19 : decode cX11_luckOf 19 = .ok (.if_icmp .ge 41, 3) := by decide +kernel
theorem dX11_luckOf_22 : decode cX11_luckOf 22 = .ok (.lload_n 3, 1) := by decide +kernel
theorem dX11_luckOf_23 : decode cX11_luckOf 23 = .ok (.aload_n 0, 1) := by decide +kernel
theorem dX11_luckOf_24 : decode cX11_luckOf 24 = .ok (.iload_n 2, 1) := by decide +kernel
theorem dX11_luckOf_25 : decode cX11_luckOf 25 = .ok (.iload 5, 2) := by decide +kernel
theorem dX11_luckOf_27 : decode cX11_luckOf 27 = .ok (.invokevirtual 266, 3) := by decide +kernel
theorem dX11_luckOf_30 : decode cX11_luckOf 30 = .ok (.ifCond .eq 19, 3) := by decide +kernel
theorem dX11_luckOf_33 : decode cX11_luckOf 33 = .ok (.aload_n 0, 1) := by decide +kernel
theorem dX11_luckOf_34 : decode cX11_luckOf 34 = .ok (.getfield 7, 3) := by decide +kernel
theorem dX11_luckOf_37 : decode cX11_luckOf 37 = .ok (.iload 5, 2) := by decide +kernel
theorem dX11_luckOf_39 : decode cX11_luckOf 39 = .ok (.invokestatic 290, 3) := by decide +kernel
theorem dX11_luckOf_42 : decode cX11_luckOf 42 = .ok (.iconst 1, 1) := by decide +kernel
theorem dX11_luckOf_43 : decode cX11_luckOf 43 = .ok (.iadd, 1) := by decide +kernel
theorem dX11_luckOf_44 : decode cX11_luckOf 44 = .ok (.iaload, 1) := by decide +kernel
theorem dX11_luckOf_45 : decode cX11_luckOf 45 = .ok (.i2l, 1) := by decide +kernel
theorem dX11_luckOf_46 : decode cX11_luckOf 46 = .ok (.goto 6, 3) := by decide +kernel
theorem dX11_luckOf_49 : decode cX11_luckOf 49 = .ok (.ldc2_w 450, 3) := by decide +kernel
theorem dX11_luckOf_52 : decode cX11_luckOf 52 = .ok (.lmul, 1) := by decide +kernel
theorem dX11_luckOf_53 : decode cX11_luckOf 53 = .ok (.lstore_n 3, 1) := by decide +kernel
theorem dX11_luckOf_54 : decode cX11_luckOf 54 = .ok (.iinc 5 1, 3) := by decide +kernel
theorem dX11_luckOf_57 : decode cX11_luckOf 57 = .ok (.goto (-42), 3) := by decide +kernel
theorem dX11_luckOf_60 : decode cX11_luckOf 60 = .ok (.lload_n 3, 1) := by decide +kernel
theorem dX11_luckOf_61 : decode cX11_luckOf 61 = .ok (.lreturn, 1) := by decide +kernel
set_option maxHeartbeats 4000000 in
set_option maxRecDepth 100000 in
theorem ctX11_luckOf {p1 : Int} {σ : jq_M} {res : Int}  (h : X11_luckOf p1 σ = some res) : jq_MC jq_zM yX11_luckOf cX11_luckOf 6 (some .long) 3 85 [jR 0, jI p1] σ (some (jL res)) σ := by
  refine jq_met (own := RX11) (L0 := [(0, jR 0), (1, jI p1)]) (by decide) rfl rfl rfl ?_
  intro X Γ hnl hlY hRT
  refine jq_use2 (P := fun r => jq_RT jq_zM X (some .long) (some (jL r)) σ) ?_ h hRT
  intro K0 hK0
  unfold X11_luckOf
  refine jq_aload_n Γ dX11_luckOf_0 rfl 0 rfl (jq_at_0 at_M_0) ?_
  refine jq_iload_n Γ dX11_luckOf_1 rfl 1 rfl ?_
  refine jq_cpI (jq_virt (avs := [jI p1]) (st := []) Γ hlY rfl ml_RX11_439 rfl at_M_0 rfl rfl rfl rfl rfl dX11_luckOf_2) (fun r h => ctX11_leansOf h) (fun v1 => ?_)
  refine jq_iconst Γ dX11_luckOf_5 rfl ?_
  refine jq_iload_n Γ dX11_luckOf_6 rfl 1 rfl ?_
  refine jq_ishl Γ dX11_luckOf_7 ?_
  refine jq_ior Γ dX11_luckOf_8 ?_
  refine jq_nmI (fun v2 => ?_)
  refine jq_istore_n (L' := [(2, jI v2), (0, jR 0), (1, jI p1)]) Γ dX11_luckOf_9 rfl hnl rfl rfl ?_
  refine jq_lconst Γ 1 dX11_luckOf_10 rfl rfl ?_
  refine jq_lstore_n (L' := [(3, jL 1), (2, jI v2), (0, jR 0), (1, jI p1)]) Γ dX11_luckOf_11 rfl hnl rfl rfl ?_
  refine jq_iconst Γ dX11_luckOf_12 rfl ?_
  refine jq_istore (L' := [(5, jI 0), (3, jL 1), (2, jI v2), (0, jR 0), (1, jI p1)]) Γ dX11_luckOf_13 hnl rfl rfl ?_
  refine jq_sub Γ (L' := [(0, jR 0), (2, jI v2), (3, jL 1), (5, jI 0)]) [3, 2, 1, 0] rfl ?_
  refine jq_loop2 (C := fun (t3 : Int × Int) => jq_V jq_zM X (jq_zN jq_zM) σ 15 [(0, jR 0), (2, jI v2), (3, jL t3.1), (5, jI t3.2)] []) (KX := fun (e12 : Int) => jq_V jq_zM X (jq_zN jq_zM) σ 60 [(3, jL e12)] []) ?_ ?_ (1, 0)
  · intro K15_t3 hCt3 hXt3 t3
    unfold X11_luckOf_b15
    refine jq_iload Γ dX11_luckOf_15 3 rfl ?_
    refine jq_bipush Γ dX11_luckOf_17 rfl ?_
    refine jq_icmp_ge (tgt := 60) Γ dX11_luckOf_19 rfl ?_ ?_
    · refine jq_sub Γ (L' := [(3, jL t3.1)]) [2] rfl ?_
      exact jq_done (hXt3 t3.1)
    · refine jq_lload_n Γ dX11_luckOf_22 rfl 2 rfl ?_
      refine jq_aload_n Γ dX11_luckOf_23 rfl 0 rfl (jq_at_0 at_M_0) ?_
      refine jq_iload_n Γ dX11_luckOf_24 rfl 1 rfl ?_
      refine jq_iload Γ dX11_luckOf_25 3 rfl ?_
      refine jq_cpZ (jq_virt (avs := [jI v2, jI t3.2]) (st := [jL t3.1]) Γ hlY rfl ml_RX11_266 rfl at_M_0 rfl rfl rfl rfl rfl dX11_luckOf_27) rfl (fun r h => ctX11_isIn h) (fun v4 hz5 => ?_)
      refine jq_if_eq (tgt := 49) Γ dX11_luckOf_30 rfl ?_ ?_
      · refine jq_ldc2 Γ 16 dX11_luckOf_49 kc_RX11_450 rfl ?_
        refine jq_lmul Γ dX11_luckOf_52 ?_
        refine jq_nmL (fun v6 => ?_)
        refine jq_lstore_n (L' := [(3, jL v6), (0, jR 0), (2, jI v2), (5, jI t3.2)]) Γ dX11_luckOf_53 rfl hnl rfl rfl ?_
        refine jq_iincN (L' := fun v7 => [(5, jI v7), (3, jL v6), (0, jR 0), (2, jI v2)]) Γ dX11_luckOf_54 3 rfl hnl rfl (fun _ => rfl) (fun v7 => ?_)
        refine jq_goto Γ (tgt := 15) dX11_luckOf_57 rfl ?_
        refine jq_sub Γ (L' := [(0, jR 0), (2, jI v2), (3, jL v6), (5, jI v7)]) [2, 3, 1, 0] rfl ?_
        exact jq_done (hCt3 (v6, v7))
      · refine jq_aload_n Γ dX11_luckOf_33 rfl 0 rfl (jq_at_0 at_M_0) ?_
        refine jq_getR (v := 1) Γ hlY at_M_0 fl_RX11_7 rfl rfl ly_X11_at dX11_luckOf_34 ?_
        refine jq_iload Γ dX11_luckOf_37 3 rfl ?_
        refine jq_cpI (jq_stat (avs := [jI t3.2]) (st := [jR 1, jL t3.1]) Γ hlY rfl ml_RX11_290 rfl rfl rfl rfl rfl dX11_luckOf_39) (fun r h => ctX11_articleRow h) (fun v8 => ?_)
        refine jq_iconst Γ dX11_luckOf_42 rfl ?_
        refine jq_iadd Γ dX11_luckOf_43 ?_
        refine jq_iald Γ at_M_1 rfl dX11_luckOf_44 (fun v9 => ?_)
        refine jq_i2l Γ dX11_luckOf_45 ?_
        refine jq_goto Γ (tgt := 52) dX11_luckOf_46 rfl ?_
        refine jq_lmul Γ dX11_luckOf_52 ?_
        refine jq_nmL (fun v10 => ?_)
        refine jq_lstore_n (L' := [(3, jL v10), (0, jR 0), (2, jI v2), (5, jI t3.2)]) Γ dX11_luckOf_53 rfl hnl rfl rfl ?_
        refine jq_iincN (L' := fun v11 => [(5, jI v11), (3, jL v10), (0, jR 0), (2, jI v2)]) Γ dX11_luckOf_54 3 rfl hnl rfl (fun _ => rfl) (fun v11 => ?_)
        refine jq_goto Γ (tgt := 15) dX11_luckOf_57 rfl ?_
        refine jq_sub Γ (L' := [(0, jR 0), (2, jI v2), (3, jL v10), (5, jI v11)]) [2, 3, 1, 0] rfl ?_
        exact jq_done (hCt3 (v10, v11))
  · intro e12
    refine jq_lload_n Γ dX11_luckOf_60 rfl 0 rfl ?_
    exact jq_lreturn Γ dX11_luckOf_61 (hK0 _)


theorem dX11_luck_0 : decode cX11_luck 0 = .ok (.aload_n 0, 1) := by decide +kernel
theorem dX11_luck_1 : decode cX11_luck 1 = .ok (.iload_n 1, 1) := by decide +kernel
theorem dX11_luck_2 : decode cX11_luck 2 = .ok (.invokevirtual 323, 3) := by decide +kernel
theorem dX11_luck_5 : decode cX11_luck 5 = .ok (.ifCond .eq 18, 3) := by decide +kernel
theorem dX11_luck_8 : decode cX11_luck 8 = .ok (.aload_n 0, 1) := by decide +kernel
theorem dX11_luck_9 : decode cX11_luck 9 = .ok (.aload_n 0, 1) := by decide +kernel
theorem dX11_luck_10 : decode cX11_luck 10 = .ok (.iload_n 1, 1) := by decide +kernel
theorem dX11_luck_11 : decode cX11_luck 11 = .ok (.invokevirtual 452, 3) := by decide +kernel
theorem dX11_luck_14 : decode cX11_luck 14 = .ok (.ldc2_w 456, 3) := by decide +kernel
theorem dX11_luck_17 : decode cX11_luck 17 = .ok (.invokevirtual 458, 3) := by decide +kernel
theorem dX11_luck_20 : decode cX11_luck 20 = .ok (.goto 8, 3) := by decide +kernel
theorem dX11_luck_23 : decode cX11_luck 23 = .ok (.aload_n 0, 1) := by decide +kernel
theorem dX11_luck_24 : decode cX11_luck 24 = .ok (.iconst 1, 1) := by decide +kernel
theorem dX11_luck_25 : decode cX11_luck 25 = .ok (.invokevirtual 91, 3) := by decide +kernel
theorem dX11_luck_28 : decode cX11_luck 28 = .ok (.ireturn, 1) := by decide +kernel
set_option maxHeartbeats 4000000 in
set_option maxRecDepth 100000 in
theorem ctX11_luck {p1 : Int} {σ : jq_M} {res : Int} {σ' : jq_M}  (h : X11_luck p1 σ = some (res, σ')) : jq_MC jq_zM yX11_luck cX11_luck 2 (some .boolean) 4 110 [jR 0, jI p1] σ (some (jI res)) σ' := by
  refine jq_met (own := RX11) (L0 := [(0, jR 0), (1, jI p1)]) (by decide) rfl rfl rfl ?_
  intro X Γ hnl hlY hRT
  refine jq_use2 (P := fun r => jq_RT jq_zM X (some .boolean) (some (jI r.1)) r.2) ?_ h hRT
  intro K0 hK0
  unfold X11_luck
  refine jq_aload_n Γ dX11_luck_0 rfl 0 rfl (jq_at_0 at_M_0) ?_
  refine jq_iload_n Γ dX11_luck_1 rfl 1 rfl ?_
  refine jq_cpZ (jq_virt (avs := [jI p1]) (st := []) Γ hlY rfl ml_RX11_323 rfl at_M_0 rfl rfl rfl rfl rfl dX11_luck_2) rfl (fun r h => ctX11_isArticle h) (fun v1 hz2 => ?_)
  refine jq_if_eq (tgt := 23) Γ dX11_luck_5 rfl ?_ ?_
  · refine jq_aload_n Γ dX11_luck_23 rfl 0 rfl (jq_at_0 at_M_0) ?_
    refine jq_iconst Γ dX11_luck_24 rfl ?_
    refine jq_cwZ (jq_virt (avs := [jI 1]) (st := []) Γ hlY rfl ml_RX11_91 rfl at_M_0 rfl rfl rfl rfl rfl dX11_luck_25) rfl (fun r σ' h => ctX11_is h) (fun v3 s4 hz5 => ?_)
    exact jq_zreturn Γ (hz5) dX11_luck_28 (hK0 _)
  · refine jq_aload_n Γ dX11_luck_8 rfl 0 rfl (jq_at_0 at_M_0) ?_
    refine jq_aload_n Γ dX11_luck_9 rfl 0 rfl (jq_at_0 at_M_0) ?_
    refine jq_iload_n Γ dX11_luck_10 rfl 1 rfl ?_
    refine jq_cpL (jq_virt (avs := [jI p1]) (st := [jR 0]) Γ hlY rfl ml_RX11_452 rfl at_M_0 rfl rfl rfl rfl rfl dX11_luck_11) (fun r h => ctX11_luckOf h) (fun v6 => ?_)
    refine jq_ldc2 Γ 4294967296 dX11_luck_14 kc_RX11_456 rfl ?_
    refine jq_cwZ (jq_virt (avs := [jL v6, jL 4294967296]) (st := []) Γ hlY rfl ml_RX11_458 rfl at_M_0 rfl rfl rfl rfl rfl dX11_luck_17) rfl (fun r σ' h => ctX11_tellsBy h) (fun v7 s8 hz9 => ?_)
    refine jq_goto Γ (tgt := 28) dX11_luck_20 rfl ?_
    exact jq_zreturn Γ (hz9) dX11_luck_28 (hK0 _)


theorem dX11_weakest_0 : decode cX11_weakest 0 = .ok (.iconst (-1), 1) := by decide +kernel
theorem dX11_weakest_1 : decode cX11_weakest 1 = .ok (.istore_n 1, 1) := by decide +kernel
theorem dX11_weakest_2 : decode cX11_weakest 2 = .ok (.iconst 0, 1) := by decide +kernel
theorem dX11_weakest_3 : decode cX11_weakest 3 = .ok (.istore_n 2, 1) := by decide +kernel
theorem dX11_weakest_4 : decode cX11_weakest 4 = .ok (.iload_n 2, 1) := by decide +kernel
theorem dX11_weakest_5 : decode cX11_weakest 5 = .ok (.aload_n 0, 1) := by decide +kernel
theorem dX11_weakest_6 : decode cX11_weakest 6 = .ok (.getfield 7, 3) := by decide +kernel
theorem dX11_weakest_9 : decode cX11_weakest 9 = .ok (.iconst 3, 1) := by decide +kernel
theorem dX11_weakest_10 : decode cX11_weakest 10 = .ok (.iaload, 1) := by decide +kernel
theorem dX11_weakest_11 : decode cX11_weakest 11 = .ok (.if_icmp .ge 30, 3) := by decide +kernel
theorem dX11_weakest_14 : decode cX11_weakest 14 = .ok (.iload_n 1, 1) := by decide +kernel
theorem dX11_weakest_15 : decode cX11_weakest 15 = .ok (.iconst (-1), 1) := by decide +kernel
theorem dX11_weakest_16 : decode cX11_weakest 16 = .ok (.if_icmp .eq 17, 3) := by decide +kernel
theorem dX11_weakest_19 : decode cX11_weakest 19 = .ok (.aload_n 0, 1) := by decide +kernel
theorem dX11_weakest_20 : decode cX11_weakest 20 = .ok (.iload_n 2, 1) := by decide +kernel
theorem dX11_weakest_21 : decode cX11_weakest 21 = .ok (.invokevirtual 452, 3) := by decide +kernel
theorem dX11_weakest_24 : decode cX11_weakest 24 = .ok (.aload_n 0, 1) := by decide +kernel
theorem dX11_weakest_25 : decode cX11_weakest 25 = .ok (.iload_n 1, 1) := by decide +kernel
theorem dX11_weakest_26 : decode cX11_weakest 26 = .ok (.invokevirtual 452, 3) := by decide +kernel
theorem dX11_weakest_29 : decode cX11_weakest 29 = .ok (.lcmp, 1) := by decide +kernel
theorem dX11_weakest_30 : decode cX11_weakest 30 = .ok (.ifCond .ge 5, 3) := by decide +kernel
theorem dX11_weakest_33 : decode cX11_weakest 33 = .ok (.iload_n 2, 1) := by decide +kernel
theorem dX11_weakest_34 : decode cX11_weakest 34 = .ok (.istore_n 1, 1) := by decide +kernel
theorem dX11_weakest_35 : decode cX11_weakest 35 = .ok (.iinc 2 1, 3) := by decide +kernel
theorem dX11_weakest_38 : decode cX11_weakest 38 = .ok (.goto (-34), 3) := by decide +kernel
theorem dX11_weakest_41 : decode cX11_weakest 41 = .ok (.aload_n 0, 1) := by decide +kernel
theorem dX11_weakest_42 : decode cX11_weakest 42 = .ok (.iload_n 1, 1) := by decide +kernel
theorem dX11_weakest_43 : decode cX11_weakest 43 = .ok (.invokevirtual 320, 3) := by decide +kernel
theorem dX11_weakest_46 : decode cX11_weakest 46 = .ok (.ireturn, 1) := by decide +kernel
set_option maxHeartbeats 4000000 in
set_option maxRecDepth 100000 in
theorem ctX11_weakest  {σ : jq_M} {res : Int} {σ' : jq_M}  (h : X11_weakest σ = some (res, σ')) : jq_MC jq_zM yX11_weakest cX11_weakest 3 (some .int) 4 110 [jR 0] σ (some (jI res)) σ' := by
  refine jq_met (own := RX11) (L0 := [(0, jR 0)]) (by decide) rfl rfl rfl ?_
  intro X Γ hnl hlY hRT
  refine jq_use2 (P := fun r => jq_RT jq_zM X (some .int) (some (jI r.1)) r.2) ?_ h hRT
  intro K0 hK0
  unfold X11_weakest
  refine jq_iconst Γ dX11_weakest_0 rfl ?_
  refine jq_istore_n (L' := [(1, jI (-1)), (0, jR 0)]) Γ dX11_weakest_1 rfl hnl rfl rfl ?_
  refine jq_iconst Γ dX11_weakest_2 rfl ?_
  refine jq_istore_n (L' := [(2, jI 0), (1, jI (-1)), (0, jR 0)]) Γ dX11_weakest_3 rfl hnl rfl rfl ?_
  refine jq_sub Γ (L' := [(0, jR 0), (1, jI (-1)), (2, jI 0)]) [2, 1, 0] rfl ?_
  refine jq_loop2 (C := fun (t1 : Int × Int) => jq_V jq_zM X (jq_zN jq_zM) σ 4 [(0, jR 0), (1, jI t1.1), (2, jI t1.2)] []) (KX := fun (e8 : Int) => jq_V jq_zM X (jq_zN jq_zM) σ 41 [(0, jR 0), (1, jI e8)] []) ?_ ?_ ((-1), 0)
  · intro K4_t1 hCt1 hXt1 t1
    unfold X11_weakest_b4
    refine jq_iload_n Γ dX11_weakest_4 rfl 2 rfl ?_
    refine jq_aload_n Γ dX11_weakest_5 rfl 0 rfl (jq_at_0 at_M_0) ?_
    refine jq_getR (v := 1) Γ hlY at_M_0 fl_RX11_7 rfl rfl ly_X11_at dX11_weakest_6 ?_
    refine jq_iconst Γ dX11_weakest_9 rfl ?_
    refine jq_iald Γ at_M_1 rfl dX11_weakest_10 (fun v2 => ?_)
    refine jq_icmp_ge (tgt := 41) Γ dX11_weakest_11 rfl ?_ ?_
    · refine jq_sub Γ (L' := [(0, jR 0), (1, jI t1.1)]) [0, 1] rfl ?_
      exact jq_done (hXt1 t1.1)
    · refine jq_iload_n Γ dX11_weakest_14 rfl 1 rfl ?_
      refine jq_iconst Γ dX11_weakest_15 rfl ?_
      refine jq_icmp_eq (tgt := 33) Γ dX11_weakest_16 rfl ?_ ?_
      · refine jq_iload_n Γ dX11_weakest_33 rfl 2 rfl ?_
        refine jq_istore_n (L' := [(1, jI t1.2), (0, jR 0), (2, jI t1.2)]) Γ dX11_weakest_34 rfl hnl rfl rfl ?_
        refine jq_iincN (L' := fun v3 => [(2, jI v3), (1, jI t1.2), (0, jR 0)]) Γ dX11_weakest_35 2 rfl hnl rfl (fun _ => rfl) (fun v3 => ?_)
        refine jq_goto Γ (tgt := 4) dX11_weakest_38 rfl ?_
        refine jq_sub Γ (L' := [(0, jR 0), (1, jI t1.2), (2, jI v3)]) [2, 1, 0] rfl ?_
        exact jq_done (hCt1 (t1.2, v3))
      · refine jq_aload_n Γ dX11_weakest_19 rfl 0 rfl (jq_at_0 at_M_0) ?_
        refine jq_iload_n Γ dX11_weakest_20 rfl 2 rfl ?_
        refine jq_cpL (jq_virt (avs := [jI t1.2]) (st := []) Γ hlY rfl ml_RX11_452 rfl at_M_0 rfl rfl rfl rfl rfl dX11_weakest_21) (fun r h => ctX11_luckOf h) (fun v4 => ?_)
        refine jq_aload_n Γ dX11_weakest_24 rfl 0 rfl (jq_at_0 at_M_0) ?_
        refine jq_iload_n Γ dX11_weakest_25 rfl 1 rfl ?_
        refine jq_cpL (jq_virt (avs := [jI t1.1]) (st := [jL v4]) Γ hlY rfl ml_RX11_452 rfl at_M_0 rfl rfl rfl rfl rfl dX11_weakest_26) (fun r h => ctX11_luckOf h) (fun v5 => ?_)
        refine jq_lcmp Γ dX11_weakest_29 ?_
        refine jq_if_ge (tgt := 35) Γ dX11_weakest_30 rfl ?_ ?_
        · refine jq_iincN (L' := fun v6 => [(2, jI v6), (0, jR 0), (1, jI t1.1)]) Γ dX11_weakest_35 2 rfl hnl rfl (fun _ => rfl) (fun v6 => ?_)
          refine jq_goto Γ (tgt := 4) dX11_weakest_38 rfl ?_
          refine jq_sub Γ (L' := [(0, jR 0), (1, jI t1.1), (2, jI v6)]) [1, 2, 0] rfl ?_
          exact jq_done (hCt1 (t1.1, v6))
        · refine jq_iload_n Γ dX11_weakest_33 rfl 2 rfl ?_
          refine jq_istore_n (L' := [(1, jI t1.2), (0, jR 0), (2, jI t1.2)]) Γ dX11_weakest_34 rfl hnl rfl rfl ?_
          refine jq_iincN (L' := fun v7 => [(2, jI v7), (1, jI t1.2), (0, jR 0)]) Γ dX11_weakest_35 2 rfl hnl rfl (fun _ => rfl) (fun v7 => ?_)
          refine jq_goto Γ (tgt := 4) dX11_weakest_38 rfl ?_
          refine jq_sub Γ (L' := [(0, jR 0), (1, jI t1.2), (2, jI v7)]) [2, 1, 0] rfl ?_
          exact jq_done (hCt1 (t1.2, v7))
  · intro e8
    refine jq_aload_n Γ dX11_weakest_41 rfl 0 rfl (jq_at_0 at_M_0) ?_
    refine jq_iload_n Γ dX11_weakest_42 rfl 1 rfl ?_
    refine jq_cwI (jq_virt (avs := [jI e8]) (st := []) Γ hlY rfl ml_RX11_320 rfl at_M_0 rfl rfl rfl rfl rfl dX11_weakest_43) (fun r σ' h => ctX11_orNone h) (fun v9 s10 => ?_)
    exact jq_ireturn Γ dX11_weakest_46 (hK0 _)


theorem dX11_copySeats_0 : decode cX11_copySeats 0 = .ok (.iload_n 1, 1) := by decide +kernel
theorem dX11_copySeats_1 : decode cX11_copySeats 1 = .ok (.invokestatic 95, 3) := by decide +kernel
theorem dX11_copySeats_4 : decode cX11_copySeats 4 = .ok (.ifCond .ne 9, 3) := by decide +kernel
theorem dX11_copySeats_7 : decode cX11_copySeats 7 = .ok (.aload_n 0, 1) := by decide +kernel
theorem dX11_copySeats_8 : decode cX11_copySeats 8 = .ok (.iconst 1, 1) := by decide +kernel
theorem dX11_copySeats_9 : decode cX11_copySeats 9 = .ok (.invokevirtual 84, 3) := by decide +kernel
theorem dX11_copySeats_12 : decode cX11_copySeats 12 = .ok (.ireturn, 1) := by decide +kernel
theorem dX11_copySeats_13 : decode cX11_copySeats 13 = .ok (.aload_n 0, 1) := by decide +kernel
theorem dX11_copySeats_14 : decode cX11_copySeats 14 = .ok (.getfield 24, 3) := by decide +kernel
theorem dX11_copySeats_17 : decode cX11_copySeats 17 = .ok (.iload_n 1, 1) := by decide +kernel
theorem dX11_copySeats_18 : decode cX11_copySeats 18 = .ok (.iaload, 1) := by decide +kernel
theorem dX11_copySeats_19 : decode cX11_copySeats 19 = .ok (.iconst (-1), 1) := by decide +kernel
theorem dX11_copySeats_20 : decode cX11_copySeats 20 = .ok (.if_icmp .ne 9, 3) := by decide +kernel
theorem dX11_copySeats_23 : decode cX11_copySeats 23 = .ok (.aload_n 0, 1) := by decide +kernel
theorem dX11_copySeats_24 : decode cX11_copySeats 24 = .ok (.iconst 2, 1) := by decide +kernel
theorem dX11_copySeats_25 : decode cX11_copySeats 25 = .ok (.invokevirtual 84, 3) := by decide +kernel
theorem dX11_copySeats_28 : decode cX11_copySeats 28 = .ok (.ireturn, 1) := by decide +kernel
theorem dX11_copySeats_29 : decode cX11_copySeats 29 = .ok (.aload_n 0, 1) := by decide +kernel
theorem dX11_copySeats_30 : decode cX11_copySeats 30 = .ok (.getfield 24, 3) := by decide +kernel
theorem dX11_copySeats_33 : decode cX11_copySeats 33 = .ok (.iload_n 1, 1) := by decide +kernel
theorem dX11_copySeats_34 : decode cX11_copySeats 34 = .ok (.iaload, 1) := by decide +kernel
theorem dX11_copySeats_35 : decode cX11_copySeats 35 = .ok (.aload_n 0, 1) := by decide +kernel
theorem dX11_copySeats_36 : decode cX11_copySeats 36 = .ok (.getfield 7, 3) := by decide +kernel
theorem dX11_copySeats_39 : decode cX11_copySeats 39 = .ok (.iconst 1, 1) := by decide +kernel
theorem dX11_copySeats_40 : decode cX11_copySeats 40 = .ok (.iaload, 1) := by decide +kernel
theorem dX11_copySeats_41 : decode cX11_copySeats 41 = .ok (.if_icmp .ge 9, 3) := by decide +kernel
theorem dX11_copySeats_44 : decode cX11_copySeats 44 = .ok (.aload_n 0, 1) := by decide +kernel
theorem dX11_copySeats_45 : decode cX11_copySeats 45 = .ok (.iconst 3, 1) := by decide +kernel
theorem dX11_copySeats_46 : decode cX11_copySeats 46 = .ok (.invokevirtual 84, 3) := by decide +kernel
theorem dX11_copySeats_49 : decode cX11_copySeats 49 = .ok (.ireturn, 1) := by decide +kernel
theorem dX11_copySeats_50 : decode cX11_copySeats 50 = .ok (.iconst 0, 1) := by decide +kernel
theorem dX11_copySeats_51 : decode cX11_copySeats 51 = .ok (.istore_n 2, 1) := by decide +kernel
theorem dX11_copySeats_52 : decode cX11_copySeats 52 = .ok (.iload_n 2, 1) := by decide +kernel
theorem dX11_copySeats_53 : decode cX11_copySeats 53 = .ok (.aload_n 0, 1) := by decide +kernel
theorem dX11_copySeats_54 : decode cX11_copySeats 54 = .ok (.getfield 7, 3) := by decide +kernel
theorem dX11_copySeats_57 : decode cX11_copySeats 57 = .ok (.iconst 1, 1) := by decide +kernel
theorem dX11_copySeats_58 : decode cX11_copySeats 58 = .ok (.iaload, 1) := by decide +kernel
theorem dX11_copySeats_59 : decode cX11_copySeats 59 = .ok (.if_icmp .ge 35, 3) := by decide +kernel
theorem dX11_copySeats_62 : decode cX11_copySeats 62 = .ok (.aload_n 0, 1) := by decide +kernel
theorem dX11_copySeats_63 : decode cX11_copySeats 63 = .ok (.getfield 27, 3) := by decide +kernel
theorem dX11_copySeats_66 : decode cX11_copySeats 66 = .ok (.bipush 60, 2) := by decide +kernel
theorem dX11_copySeats_68 : decode cX11_copySeats 68 = .ok (.iload_n 1, 1) := by decide +kernel
theorem dX11_copySeats_69 : decode cX11_copySeats 69 = .ok (.imul, 1) := by decide +kernel
theorem dX11_copySeats_70 : decode cX11_copySeats 70 = .ok (.iload_n 2, 1) := by decide +kernel
theorem dX11_copySeats_71 : decode cX11_copySeats 71 = .ok (.iadd, 1) := by decide +kernel
theorem dX11_copySeats_72 : decode cX11_copySeats 72 = .ok (.aload_n 0, 1) := by decide +kernel
theorem dX11_copySeats_73 : decode cX11_copySeats 73 = .ok (.iload_n 2, 1) := by decide +kernel
theorem dX11_copySeats_74 : decode cX11_copySeats 74 = .ok (.invokevirtual 257, 3) := by decide +kernel
theorem dX11_copySeats_77 : decode cX11_copySeats 77 = .ok (.i2l, 1) := by decide +kernel
theorem dX11_copySeats_78 : decode cX11_copySeats 78 = .ok (.aload_n 0, 1) := by decide +kernel
theorem dX11_copySeats_79 : decode cX11_copySeats 79 = .ok (.getfield 21, 3) := by decide +kernel
theorem dX11_copySeats_82 : decode cX11_copySeats 82 = .ok (.iload_n 1, 1) := by decide +kernel
theorem dX11_copySeats_83 : decode cX11_copySeats 83 = .ok (.iaload, 1) := by decide +kernel
theorem dX11_copySeats_84 : decode cX11_copySeats 84 = .ok (.invokestatic 102, 3) := by decide +kernel
theorem dX11_copySeats_87 : decode cX11_copySeats 87 = .ok (.lastore, 1) := by decide +kernel
theorem dX11_copySeats_88 : decode cX11_copySeats 88 = .ok (.iinc 2 1, 3) := by decide +kernel
theorem dX11_copySeats_91 : decode cX11_copySeats 91 = .ok (.goto (-39), 3) := by decide +kernel
theorem dX11_copySeats_94 : decode cX11_copySeats 94 = .ok (.aload_n 0, 1) := by decide +kernel
theorem dX11_copySeats_95 : decode cX11_copySeats 95 = .ok (.aload_n 0, 1) := by decide +kernel
theorem dX11_copySeats_96 : decode cX11_copySeats 96 = .ok (.getfield 7, 3) := by decide +kernel
theorem dX11_copySeats_99 : decode cX11_copySeats 99 = .ok (.iconst 1, 1) := by decide +kernel
theorem dX11_copySeats_100 : decode cX11_copySeats 100 = .ok (.iaload, 1) := by decide +kernel
theorem dX11_copySeats_101 : decode cX11_copySeats 101 = .ok (.invokevirtual 88, 3) := by decide +kernel
theorem dX11_copySeats_104 : decode cX11_copySeats 104 = .ok (.ireturn, 1) := by decide +kernel
set_option maxHeartbeats 4000000 in
set_option maxRecDepth 100000 in
theorem ctX11_copySeats {p1 : Int} {σ : jq_M} {res : Int} {σ' : jq_M}  (h : X11_copySeats p1 σ = some (res, σ')) : jq_MC jq_zM yX11_copySeats cX11_copySeats 3 (some .int) 3 81 [jR 0, jI p1] σ (some (jI res)) σ' := by
  refine jq_met (own := RX11) (L0 := [(0, jR 0), (1, jI p1)]) (by decide) rfl rfl rfl ?_
  intro X Γ hnl hlY hRT
  refine jq_use2 (P := fun r => jq_RT jq_zM X (some .int) (some (jI r.1)) r.2) ?_ h hRT
  intro K0 hK0
  unfold X11_copySeats
  refine jq_iload_n Γ dX11_copySeats_0 rfl 1 rfl ?_
  refine jq_cpZ (jq_stat (avs := [jI p1]) (st := []) Γ hlY rfl ml_RX11_95 rfl rfl rfl rfl rfl dX11_copySeats_1) rfl (fun r h => ctX11_isTray h) (fun v1 hz2 => ?_)
  refine jq_if_ne (tgt := 13) Γ dX11_copySeats_4 rfl ?_ ?_
  · refine jq_aload_n Γ dX11_copySeats_13 rfl 0 rfl (jq_at_0 at_M_0) ?_
    refine jq_getR (v := 4) Γ hlY at_M_0 fl_RX11_24 rfl rfl ly_X11_trayMany dX11_copySeats_14 ?_
    refine jq_iload_n Γ dX11_copySeats_17 rfl 1 rfl ?_
    refine jq_iald Γ at_M_4 rfl dX11_copySeats_18 (fun v3 => ?_)
    refine jq_iconst Γ dX11_copySeats_19 rfl ?_
    refine jq_icmp_ne (tgt := 29) Γ dX11_copySeats_20 rfl ?_ ?_
    · refine jq_aload_n Γ dX11_copySeats_29 rfl 0 rfl (jq_at_0 at_M_0) ?_
      refine jq_getR (v := 4) Γ hlY at_M_0 fl_RX11_24 rfl rfl ly_X11_trayMany dX11_copySeats_30 ?_
      refine jq_iload_n Γ dX11_copySeats_33 rfl 1 rfl ?_
      refine jq_iald Γ at_M_4 rfl dX11_copySeats_34 (fun v4 => ?_)
      refine jq_aload_n Γ dX11_copySeats_35 rfl 0 rfl (jq_at_0 at_M_0) ?_
      refine jq_getR (v := 1) Γ hlY at_M_0 fl_RX11_7 rfl rfl ly_X11_at dX11_copySeats_36 ?_
      refine jq_iconst Γ dX11_copySeats_39 rfl ?_
      refine jq_iald Γ at_M_1 rfl dX11_copySeats_40 (fun v5 => ?_)
      refine jq_icmp_ge (tgt := 50) Γ dX11_copySeats_41 rfl ?_ ?_
      · refine jq_iconst Γ dX11_copySeats_50 rfl ?_
        refine jq_istore_n (L' := [(2, jI 0), (0, jR 0), (1, jI p1)]) Γ dX11_copySeats_51 rfl hnl rfl rfl ?_
        refine jq_sub Γ (L' := [(0, jR 0), (1, jI p1), (2, jI 0)]) [1, 2, 0] rfl ?_
        refine jq_loop2 (C := fun (t6 : Int × jq_M) => jq_V jq_zM X (jq_zN jq_zM) t6.2 52 [(0, jR 0), (1, jI p1), (2, jI t6.1)] []) (KX := fun (e13 : jq_M) => jq_V jq_zM X (jq_zN jq_zM) e13 94 [(0, jR 0)] []) ?_ ?_ (0, σ)
        · intro K52_t6 hCt6 hXt6 t6
          unfold X11_copySeats_b52
          refine jq_iload_n Γ dX11_copySeats_52 rfl 2 rfl ?_
          refine jq_aload_n Γ dX11_copySeats_53 rfl 0 rfl (jq_at_0 at_M_0) ?_
          refine jq_getR (v := 1) Γ hlY at_M_0 fl_RX11_7 rfl rfl ly_X11_at dX11_copySeats_54 ?_
          refine jq_iconst Γ dX11_copySeats_57 rfl ?_
          refine jq_iald Γ at_M_1 rfl dX11_copySeats_58 (fun v7 => ?_)
          refine jq_icmp_ge (tgt := 94) Γ dX11_copySeats_59 rfl ?_ ?_
          · refine jq_sub Γ (L' := [(0, jR 0)]) [0] rfl ?_
            exact jq_done (hXt6 t6.2)
          · refine jq_aload_n Γ dX11_copySeats_62 rfl 0 rfl (jq_at_0 at_M_0) ?_
            refine jq_getR (v := 5) Γ hlY at_M_0 fl_RX11_27 rfl rfl ly_X11_trays dX11_copySeats_63 ?_
            refine jq_bipush Γ dX11_copySeats_66 rfl ?_
            refine jq_iload_n Γ dX11_copySeats_68 rfl 1 rfl ?_
            refine jq_imul Γ dX11_copySeats_69 ?_
            refine jq_iload_n Γ dX11_copySeats_70 rfl 2 rfl ?_
            refine jq_iadd Γ dX11_copySeats_71 ?_
            refine jq_aload_n Γ dX11_copySeats_72 rfl 0 rfl (jq_at_0 at_M_0) ?_
            refine jq_iload_n Γ dX11_copySeats_73 rfl 2 rfl ?_
            refine jq_cpI (jq_virt (avs := [jI t6.1]) (st := [jI (jq_w ((jq_w (60 * p1)) + t6.1)), jR 5]) Γ hlY rfl ml_RX11_257 rfl at_M_0 rfl rfl rfl rfl rfl dX11_copySeats_74) (fun r h => ctX11_seatOf h) (fun v8 => ?_)
            refine jq_i2l Γ dX11_copySeats_77 ?_
            refine jq_aload_n Γ dX11_copySeats_78 rfl 0 rfl (jq_at_0 at_M_0) ?_
            refine jq_getR (v := 3) Γ hlY at_M_0 fl_RX11_21 rfl rfl ly_X11_sort dX11_copySeats_79 ?_
            refine jq_iload_n Γ dX11_copySeats_82 rfl 1 rfl ?_
            refine jq_iald Γ at_M_3 rfl dX11_copySeats_83 (fun v9 => ?_)
            refine jq_cpL (jq_stat (avs := [jL v8, jI v9]) (st := [jI (jq_w ((jq_w (60 * p1)) + t6.1)), jR 5]) Γ hlY rfl ml_RX11_102 rfl rfl rfl rfl rfl dX11_copySeats_84) (fun r h => ctX11_cut h) (fun v10 => ?_)
            refine jq_last Γ at_M_5 rfl dX11_copySeats_87 (fun s11 => ?_)
            refine jq_iincN (L' := fun v12 => [(2, jI v12), (0, jR 0), (1, jI p1)]) Γ dX11_copySeats_88 2 rfl hnl rfl (fun _ => rfl) (fun v12 => ?_)
            refine jq_goto Γ (tgt := 52) dX11_copySeats_91 rfl ?_
            refine jq_sub Γ (L' := [(0, jR 0), (1, jI p1), (2, jI v12)]) [1, 2, 0] rfl ?_
            exact jq_done (hCt6 (v12, s11))
        · intro e13
          refine jq_aload_n Γ dX11_copySeats_94 rfl 0 rfl (jq_at_0 at_M_0) ?_
          refine jq_aload_n Γ dX11_copySeats_95 rfl 0 rfl (jq_at_0 at_M_0) ?_
          refine jq_getR (v := 1) Γ hlY at_M_0 fl_RX11_7 rfl rfl ly_X11_at dX11_copySeats_96 ?_
          refine jq_iconst Γ dX11_copySeats_99 rfl ?_
          refine jq_iald Γ at_M_1 rfl dX11_copySeats_100 (fun v14 => ?_)
          refine jq_cwI (jq_virt (avs := [jI v14]) (st := []) Γ hlY rfl ml_RX11_88 rfl at_M_0 rfl rfl rfl rfl rfl dX11_copySeats_101) (fun r σ' h => ctX11_gives h) (fun v15 s16 => ?_)
          exact jq_ireturn Γ dX11_copySeats_104 (hK0 _)
      · refine jq_aload_n Γ dX11_copySeats_44 rfl 0 rfl (jq_at_0 at_M_0) ?_
        refine jq_iconst Γ dX11_copySeats_45 rfl ?_
        refine jq_cwI (jq_virt (avs := [jI 3]) (st := []) Γ hlY rfl ml_RX11_84 rfl at_M_0 rfl rfl rfl rfl rfl dX11_copySeats_46) (fun r σ' h => ctX11_refuse h) (fun v17 s18 => ?_)
        exact jq_ireturn Γ dX11_copySeats_49 (hK0 _)
    · refine jq_aload_n Γ dX11_copySeats_23 rfl 0 rfl (jq_at_0 at_M_0) ?_
      refine jq_iconst Γ dX11_copySeats_24 rfl ?_
      refine jq_cwI (jq_virt (avs := [jI 2]) (st := []) Γ hlY rfl ml_RX11_84 rfl at_M_0 rfl rfl rfl rfl rfl dX11_copySeats_25) (fun r σ' h => ctX11_refuse h) (fun v19 s20 => ?_)
      exact jq_ireturn Γ dX11_copySeats_28 (hK0 _)
  · refine jq_aload_n Γ dX11_copySeats_7 rfl 0 rfl (jq_at_0 at_M_0) ?_
    refine jq_iconst Γ dX11_copySeats_8 rfl ?_
    refine jq_cwI (jq_virt (avs := [jI 1]) (st := []) Γ hlY rfl ml_RX11_84 rfl at_M_0 rfl rfl rfl rfl rfl dX11_copySeats_9) (fun r σ' h => ctX11_refuse h) (fun v21 s22 => ?_)
    exact jq_ireturn Γ dX11_copySeats_12 (hK0 _)


theorem dX11_wrongSeats_0 : decode cX11_wrongSeats 0 = .ok (.iload_n 1, 1) := by decide +kernel
theorem dX11_wrongSeats_1 : decode cX11_wrongSeats 1 = .ok (.invokestatic 95, 3) := by decide +kernel
theorem dX11_wrongSeats_4 : decode cX11_wrongSeats 4 = .ok (.ifCond .ne 5, 3) := by decide +kernel
theorem dX11_wrongSeats_7 : decode cX11_wrongSeats 7 = .ok (.iconst 1, 1) := by decide +kernel
theorem dX11_wrongSeats_8 : decode cX11_wrongSeats 8 = .ok (.ireturn, 1) := by decide +kernel
theorem dX11_wrongSeats_9 : decode cX11_wrongSeats 9 = .ok (.aload_n 0, 1) := by decide +kernel
theorem dX11_wrongSeats_10 : decode cX11_wrongSeats 10 = .ok (.getfield 24, 3) := by decide +kernel
theorem dX11_wrongSeats_13 : decode cX11_wrongSeats 13 = .ok (.iload_n 1, 1) := by decide +kernel
theorem dX11_wrongSeats_14 : decode cX11_wrongSeats 14 = .ok (.iaload, 1) := by decide +kernel
theorem dX11_wrongSeats_15 : decode cX11_wrongSeats 15 = .ok (.iconst (-1), 1) := by decide +kernel
theorem dX11_wrongSeats_16 : decode cX11_wrongSeats 16 = .ok (.if_icmp .ne 5, 3) := by decide +kernel
theorem dX11_wrongSeats_19 : decode cX11_wrongSeats 19 = .ok (.iconst 2, 1) := by decide +kernel
theorem dX11_wrongSeats_20 : decode cX11_wrongSeats 20 = .ok (.ireturn, 1) := by decide +kernel
theorem dX11_wrongSeats_21 : decode cX11_wrongSeats 21 = .ok (.aload_n 0, 1) := by decide +kernel
theorem dX11_wrongSeats_22 : decode cX11_wrongSeats 22 = .ok (.getfield 24, 3) := by decide +kernel
theorem dX11_wrongSeats_25 : decode cX11_wrongSeats 25 = .ok (.iload_n 1, 1) := by decide +kernel
theorem dX11_wrongSeats_26 : decode cX11_wrongSeats 26 = .ok (.iaload, 1) := by decide +kernel
theorem dX11_wrongSeats_27 : decode cX11_wrongSeats 27 = .ok (.aload_n 0, 1) := by decide +kernel
theorem dX11_wrongSeats_28 : decode cX11_wrongSeats 28 = .ok (.getfield 7, 3) := by decide +kernel
theorem dX11_wrongSeats_31 : decode cX11_wrongSeats 31 = .ok (.iconst 1, 1) := by decide +kernel
theorem dX11_wrongSeats_32 : decode cX11_wrongSeats 32 = .ok (.iaload, 1) := by decide +kernel
theorem dX11_wrongSeats_33 : decode cX11_wrongSeats 33 = .ok (.if_icmp .ge 5, 3) := by decide +kernel
theorem dX11_wrongSeats_36 : decode cX11_wrongSeats 36 = .ok (.iconst 3, 1) := by decide +kernel
theorem dX11_wrongSeats_37 : decode cX11_wrongSeats 37 = .ok (.ireturn, 1) := by decide +kernel
theorem dX11_wrongSeats_38 : decode cX11_wrongSeats 38 = .ok (.iconst 0, 1) := by decide +kernel
theorem dX11_wrongSeats_39 : decode cX11_wrongSeats 39 = .ok (.istore_n 2, 1) := by decide +kernel
theorem dX11_wrongSeats_40 : decode cX11_wrongSeats 40 = .ok (.iconst 0, 1) := by decide +kernel
theorem dX11_wrongSeats_41 : decode cX11_wrongSeats 41 = .ok (.istore_n 3, 1) := by decide +kernel
theorem dX11_wrongSeats_42 : decode cX11_wrongSeats 42 = .ok (.iload_n 3, 1) := by decide +kernel
theorem dX11_wrongSeats_43 : decode cX11_wrongSeats 43 = .ok (.aload_n 0, 1) := by decide +kernel
theorem dX11_wrongSeats_44 : decode cX11_wrongSeats 44 = .ok (.getfield 7, 3) := by decide +kernel
theorem dX11_wrongSeats_47 : decode cX11_wrongSeats 47 = .ok (.iconst 1, 1) := by decide +kernel
theorem dX11_wrongSeats_48 : decode cX11_wrongSeats 48 = .ok (.iaload, 1) := by decide +kernel
theorem dX11_wrongSeats_49 : decode cX11_wrongSeats 49 = .ok (.if_icmp .ge 81, 3) := by decide +kernel
theorem dX11_wrongSeats_52 : decode cX11_wrongSeats 52 = .ok (.aload_n 0, 1) := by decide +kernel
theorem dX11_wrongSeats_53 : decode cX11_wrongSeats 53 = .ok (.getfield 27, 3) := by decide +kernel
theorem dX11_wrongSeats_56 : decode cX11_wrongSeats 56 = .ok (.bipush 60, 2) := by decide +kernel
theorem dX11_wrongSeats_58 : decode cX11_wrongSeats 58 = .ok (.iload_n 1, 1) := by decide +kernel
theorem dX11_wrongSeats_59 : decode cX11_wrongSeats 59 = .ok (.imul, 1) := by decide +kernel
theorem dX11_wrongSeats_60 : decode cX11_wrongSeats 60 = .ok (.iload_n 3, 1) := by decide +kernel
theorem dX11_wrongSeats_61 : decode cX11_wrongSeats 61 = .ok (.iadd, 1) := by decide +kernel
theorem dX11_wrongSeats_62 : decode cX11_wrongSeats 62 = .ok (.laload, 1) := by decide +kernel
theorem dX11_wrongSeats_63 : decode cX11_wrongSeats 63 = .ok (.lstore 4, 2) := by decide +kernel
theorem dX11_wrongSeats_65 : decode cX11_wrongSeats 65 = .ok (.lload 4, 2) := by decide +kernel
theorem dX11_wrongSeats_67 : decode cX11_wrongSeats 67 = .ok (.ldc2_w 106, 3) := by decide +kernel
theorem dX11_wrongSeats_70 : decode cX11_wrongSeats 70 = .ok (.aload_n 0, 1) := by decide +kernel
theorem dX11_wrongSeats_71 : decode cX11_wrongSeats 71 = .ok (.getfield 7, 3) := by decide +kernel
theorem dX11_wrongSeats_74 : decode cX11_wrongSeats 74 = .ok (.iconst 0, 1) := by decide +kernel
theorem dX11_wrongSeats_75 : decode cX11_wrongSeats 75 = .ok (.iaload, 1) := by decide +kernel
theorem dX11_wrongSeats_76 : decode cX11_wrongSeats 76 = .ok (.i2l, 1) := by decide +kernel
theorem dX11_wrongSeats_77 : decode cX11_wrongSeats 77 = .ok (.lconst 1, 1) := by decide +kernel
theorem dX11_wrongSeats_78 : decode cX11_wrongSeats 78 = .ok (.lsub, 1) := by decide +kernel
theorem dX11_wrongSeats_79 : decode cX11_wrongSeats 79 = .ok (.invokestatic 343, 3) := by decide +kernel
theorem dX11_wrongSeats_82 : decode cX11_wrongSeats 82 = .ok (.ifCond .eq 21, 3) := by decide +kernel
theorem dX11_wrongSeats_85 : decode cX11_wrongSeats 85 = .ok (.lload 4, 2) := by decide +kernel
theorem dX11_wrongSeats_87 : decode cX11_wrongSeats 87 = .ok (.lconst 0, 1) := by decide +kernel
theorem dX11_wrongSeats_88 : decode cX11_wrongSeats 88 = .ok (.lcmp, 1) := by decide +kernel
theorem dX11_wrongSeats_89 : decode cX11_wrongSeats 89 = .ok (.ifCond .lt 16, 3) := by decide +kernel
theorem dX11_wrongSeats_92 : decode cX11_wrongSeats 92 = .ok (.aload_n 0, 1) := by decide +kernel
theorem dX11_wrongSeats_93 : decode cX11_wrongSeats 93 = .ok (.iload_n 2, 1) := by decide +kernel
theorem dX11_wrongSeats_94 : decode cX11_wrongSeats 94 = .ok (.lload 4, 2) := by decide +kernel
theorem dX11_wrongSeats_96 : decode cX11_wrongSeats 96 = .ok (.l2i, 1) := by decide +kernel
theorem dX11_wrongSeats_97 : decode cX11_wrongSeats 97 = .ok (.invokevirtual 266, 3) := by decide +kernel
theorem dX11_wrongSeats_100 : decode cX11_wrongSeats 100 = .ok (.ifCond .eq 5, 3) := by decide +kernel
theorem dX11_wrongSeats_103 : decode cX11_wrongSeats 103 = .ok (.iconst 5, 1) := by decide +kernel
theorem dX11_wrongSeats_104 : decode cX11_wrongSeats 104 = .ok (.ireturn, 1) := by decide +kernel
theorem dX11_wrongSeats_105 : decode cX11_wrongSeats 105 = .ok (.iload_n 2, 1) := by decide +kernel
theorem dX11_wrongSeats_106 : decode cX11_wrongSeats 106 = .ok (.lload 4, 2) := by decide +kernel
theorem dX11_wrongSeats_108 : decode cX11_wrongSeats 108 = .ok (.lconst 0, 1) := by decide +kernel
theorem dX11_wrongSeats_109 : decode cX11_wrongSeats 109 = .ok (.lcmp, 1) := by decide +kernel
theorem dX11_wrongSeats_110 : decode cX11_wrongSeats 110 = .ok (.ifCond .lt 11, 3) := by decide +kernel
theorem dX11_wrongSeats_113 : decode cX11_wrongSeats 113 = .ok (.iconst 1, 1) := by decide +kernel
theorem dX11_wrongSeats_114 : decode cX11_wrongSeats 114 = .ok (.lload 4, 2) := by decide +kernel
theorem dX11_wrongSeats_116 : decode cX11_wrongSeats 116 = .ok (.l2i, 1) := by decide +kernel
theorem dX11_wrongSeats_117 : decode cX11_wrongSeats 117 = .ok (.ishl, 1) := by decide +kernel
theorem dX11_wrongSeats_118 : decode cX11_wrongSeats 118 = .ok (.goto 4, 3) := by decide +kernel
theorem dX11_wrongSeats_121 : decode cX11_wrongSeats 121 = .ok (.iconst 0, 1) := by decide +kernel
theorem dX11_wrongSeats_122 : decode cX11_wrongSeats 122 = .ok (.ior, 1) := by decide +kernel
theorem dX11_wrongSeats_123 : decode cX11_wrongSeats 123 = .ok (.istore_n 2, 1) := by decide +kernel
theorem dX11_wrongSeats_124 : decode cX11_wrongSeats 124 = .ok (.iinc 3 1, 3) := by decide +kernel
theorem dX11_wrongSeats_127 : decode cX11_wrongSeats 127 = .ok (.goto (-85), 3) := by decide +kernel
theorem dX11_wrongSeats_130 : decode cX11_wrongSeats 130 = .ok (.iconst 0, 1) := by decide +kernel
theorem dX11_wrongSeats_131 : decode cX11_wrongSeats 131 = .ok (.ireturn, 1) := by decide +kernel
set_option maxHeartbeats 4000000 in
set_option maxRecDepth 100000 in
theorem ctX11_wrongSeats {p1 : Int} {σ : jq_M} {res : Int}  (h : X11_wrongSeats p1 σ = some res) : jq_MC jq_zM yX11_wrongSeats cX11_wrongSeats 6 (some .int) 2 65 [jR 0, jI p1] σ (some (jI res)) σ := by
  refine jq_met (own := RX11) (L0 := [(0, jR 0), (1, jI p1)]) (by decide) rfl rfl rfl ?_
  intro X Γ hnl hlY hRT
  refine jq_use2 (P := fun r => jq_RT jq_zM X (some .int) (some (jI r)) σ) ?_ h hRT
  intro K0 hK0
  unfold X11_wrongSeats
  refine jq_iload_n Γ dX11_wrongSeats_0 rfl 1 rfl ?_
  refine jq_cpZ (jq_stat (avs := [jI p1]) (st := []) Γ hlY rfl ml_RX11_95 rfl rfl rfl rfl rfl dX11_wrongSeats_1) rfl (fun r h => ctX11_isTray h) (fun v1 hz2 => ?_)
  refine jq_if_ne (tgt := 9) Γ dX11_wrongSeats_4 rfl ?_ ?_
  · refine jq_aload_n Γ dX11_wrongSeats_9 rfl 0 rfl (jq_at_0 at_M_0) ?_
    refine jq_getR (v := 4) Γ hlY at_M_0 fl_RX11_24 rfl rfl ly_X11_trayMany dX11_wrongSeats_10 ?_
    refine jq_iload_n Γ dX11_wrongSeats_13 rfl 1 rfl ?_
    refine jq_iald Γ at_M_4 rfl dX11_wrongSeats_14 (fun v3 => ?_)
    refine jq_iconst Γ dX11_wrongSeats_15 rfl ?_
    refine jq_icmp_ne (tgt := 21) Γ dX11_wrongSeats_16 rfl ?_ ?_
    · refine jq_aload_n Γ dX11_wrongSeats_21 rfl 0 rfl (jq_at_0 at_M_0) ?_
      refine jq_getR (v := 4) Γ hlY at_M_0 fl_RX11_24 rfl rfl ly_X11_trayMany dX11_wrongSeats_22 ?_
      refine jq_iload_n Γ dX11_wrongSeats_25 rfl 1 rfl ?_
      refine jq_iald Γ at_M_4 rfl dX11_wrongSeats_26 (fun v4 => ?_)
      refine jq_aload_n Γ dX11_wrongSeats_27 rfl 0 rfl (jq_at_0 at_M_0) ?_
      refine jq_getR (v := 1) Γ hlY at_M_0 fl_RX11_7 rfl rfl ly_X11_at dX11_wrongSeats_28 ?_
      refine jq_iconst Γ dX11_wrongSeats_31 rfl ?_
      refine jq_iald Γ at_M_1 rfl dX11_wrongSeats_32 (fun v5 => ?_)
      refine jq_icmp_ge (tgt := 38) Γ dX11_wrongSeats_33 rfl ?_ ?_
      · refine jq_iconst Γ dX11_wrongSeats_38 rfl ?_
        refine jq_istore_n (L' := [(2, jI 0), (0, jR 0), (1, jI p1)]) Γ dX11_wrongSeats_39 rfl hnl rfl rfl ?_
        refine jq_iconst Γ dX11_wrongSeats_40 rfl ?_
        refine jq_istore_n (L' := [(3, jI 0), (2, jI 0), (0, jR 0), (1, jI p1)]) Γ dX11_wrongSeats_41 rfl hnl rfl rfl ?_
        refine jq_sub Γ (L' := [(0, jR 0), (1, jI p1), (2, jI 0), (3, jI 0)]) [2, 3, 1, 0] rfl ?_
        refine jq_loop2 (C := fun (t6 : Int × Int) => jq_V jq_zM X (jq_zN jq_zM) σ 42 [(0, jR 0), (1, jI p1), (2, jI t6.1), (3, jI t6.2)] []) (KX := Sum.elim (fun (e21 : Unit) => jq_V jq_zM X (jq_zN jq_zM) σ 103 [] []) (fun (e22 : Unit) => jq_V jq_zM X (jq_zN jq_zM) σ 130 [] [])) ?_ ?_ (0, 0)
        · intro K42_t6 hCt6 hXt6 t6
          unfold X11_wrongSeats_b42
          have hj105_1014 : ∀ (j12 : Int) (j13 : Int) (j14 : Int), jq_J (X11_wrongSeats_j105 p1 σ j12 j13 j14) K42_t6 (jq_V jq_zM X (jq_zN jq_zM) σ 105 [(0, jR 0), (1, jI p1), (2, jI j12), (3, jI j13), (4, jL j14)] []) := by
            intro j12 j13 j14
            unfold X11_wrongSeats_j105
            refine jq_iload_n Γ dX11_wrongSeats_105 rfl 2 rfl ?_
            refine jq_lload Γ dX11_wrongSeats_106 4 rfl ?_
            refine jq_lconst Γ 0 dX11_wrongSeats_108 rfl rfl ?_
            refine jq_lcmp Γ dX11_wrongSeats_109 ?_
            refine jq_if_lt (tgt := 121) Γ dX11_wrongSeats_110 rfl ?_ ?_
            · refine jq_iconst Γ dX11_wrongSeats_121 rfl ?_
              refine jq_ior Γ dX11_wrongSeats_122 ?_
              refine jq_nmI (fun v15 => ?_)
              refine jq_istore_n (L' := [(2, jI v15), (0, jR 0), (1, jI p1), (3, jI j13), (4, jL j14)]) Γ dX11_wrongSeats_123 rfl hnl rfl rfl ?_
              refine jq_iincN (L' := fun v16 => [(3, jI v16), (2, jI v15), (0, jR 0), (1, jI p1), (4, jL j14)]) Γ dX11_wrongSeats_124 3 rfl hnl rfl (fun _ => rfl) (fun v16 => ?_)
              refine jq_goto Γ (tgt := 42) dX11_wrongSeats_127 rfl ?_
              refine jq_sub Γ (L' := [(0, jR 0), (1, jI p1), (2, jI v15), (3, jI v16)]) [2, 3, 1, 0] rfl ?_
              exact jq_done (hCt6 (v15, v16))
            · refine jq_iconst Γ dX11_wrongSeats_113 rfl ?_
              refine jq_lload Γ dX11_wrongSeats_114 4 rfl ?_
              refine jq_l2i Γ dX11_wrongSeats_116 ?_
              refine jq_ishl Γ dX11_wrongSeats_117 ?_
              refine jq_goto Γ (tgt := 122) dX11_wrongSeats_118 rfl ?_
              refine jq_ior Γ dX11_wrongSeats_122 ?_
              refine jq_nmI (fun v17 => ?_)
              refine jq_istore_n (L' := [(2, jI v17), (0, jR 0), (1, jI p1), (3, jI j13), (4, jL j14)]) Γ dX11_wrongSeats_123 rfl hnl rfl rfl ?_
              refine jq_iincN (L' := fun v18 => [(3, jI v18), (2, jI v17), (0, jR 0), (1, jI p1), (4, jL j14)]) Γ dX11_wrongSeats_124 3 rfl hnl rfl (fun _ => rfl) (fun v18 => ?_)
              refine jq_goto Γ (tgt := 42) dX11_wrongSeats_127 rfl ?_
              refine jq_sub Γ (L' := [(0, jR 0), (1, jI p1), (2, jI v17), (3, jI v18)]) [2, 3, 1, 0] rfl ?_
              exact jq_done (hCt6 (v17, v18))
          refine jq_iload_n Γ dX11_wrongSeats_42 rfl 3 rfl ?_
          refine jq_aload_n Γ dX11_wrongSeats_43 rfl 0 rfl (jq_at_0 at_M_0) ?_
          refine jq_getR (v := 1) Γ hlY at_M_0 fl_RX11_7 rfl rfl ly_X11_at dX11_wrongSeats_44 ?_
          refine jq_iconst Γ dX11_wrongSeats_47 rfl ?_
          refine jq_iald Γ at_M_1 rfl dX11_wrongSeats_48 (fun v7 => ?_)
          refine jq_icmp_ge (tgt := 130) Γ dX11_wrongSeats_49 rfl ?_ ?_
          · refine jq_sub Γ (L' := []) [] rfl ?_
            exact jq_done (hXt6 (.inr ()))
          · refine jq_aload_n Γ dX11_wrongSeats_52 rfl 0 rfl (jq_at_0 at_M_0) ?_
            refine jq_getR (v := 5) Γ hlY at_M_0 fl_RX11_27 rfl rfl ly_X11_trays dX11_wrongSeats_53 ?_
            refine jq_bipush Γ dX11_wrongSeats_56 rfl ?_
            refine jq_iload_n Γ dX11_wrongSeats_58 rfl 1 rfl ?_
            refine jq_imul Γ dX11_wrongSeats_59 ?_
            refine jq_iload_n Γ dX11_wrongSeats_60 rfl 3 rfl ?_
            refine jq_iadd Γ dX11_wrongSeats_61 ?_
            refine jq_lald Γ at_M_5 rfl dX11_wrongSeats_62 (fun v8 => ?_)
            refine jq_lstore (L' := [(4, jL v8), (0, jR 0), (1, jI p1), (2, jI t6.1), (3, jI t6.2)]) Γ dX11_wrongSeats_63 hnl rfl rfl ?_
            refine jq_lload Γ dX11_wrongSeats_65 0 rfl ?_
            refine jq_ldc2 Γ (-1) dX11_wrongSeats_67 kc_RX11_106 rfl ?_
            refine jq_aload_n Γ dX11_wrongSeats_70 rfl 1 rfl (jq_at_0 at_M_0) ?_
            refine jq_getR (v := 1) Γ hlY at_M_0 fl_RX11_7 rfl rfl ly_X11_at dX11_wrongSeats_71 ?_
            refine jq_iconst Γ dX11_wrongSeats_74 rfl ?_
            refine jq_iald Γ at_M_1 rfl dX11_wrongSeats_75 (fun v9 => ?_)
            refine jq_i2l Γ dX11_wrongSeats_76 ?_
            refine jq_lconst Γ 1 dX11_wrongSeats_77 rfl rfl ?_
            refine jq_lsub Γ dX11_wrongSeats_78 ?_
            refine jq_cpZ (jq_stat (avs := [jL v8, jL (-1), jL (jq_w64 (v9 - 1))]) (st := []) Γ hlY rfl ml_RX11_343 rfl rfl rfl rfl rfl dX11_wrongSeats_79) rfl (fun r h => ctX11_isFrom h) (fun v10 hz11 => ?_)
            refine jq_if_eq (tgt := 103) Γ dX11_wrongSeats_82 rfl ?_ ?_
            · refine jq_sub Γ (L' := []) [] rfl ?_
              exact jq_done (hXt6 (.inl ()))
            · refine jq_lload Γ dX11_wrongSeats_85 0 rfl ?_
              refine jq_lconst Γ 0 dX11_wrongSeats_87 rfl rfl ?_
              refine jq_lcmp Γ dX11_wrongSeats_88 ?_
              refine jq_if_lt (tgt := 105) Γ dX11_wrongSeats_89 rfl ?_ ?_
              · refine jq_sub Γ (L' := [(0, jR 0), (1, jI p1), (2, jI t6.1), (3, jI t6.2), (4, jL v8)]) [1, 2, 3, 4, 0] rfl ?_
                exact hj105_1014 t6.1 t6.2 v8
              · refine jq_aload_n Γ dX11_wrongSeats_92 rfl 1 rfl (jq_at_0 at_M_0) ?_
                refine jq_iload_n Γ dX11_wrongSeats_93 rfl 3 rfl ?_
                refine jq_lload Γ dX11_wrongSeats_94 0 rfl ?_
                refine jq_l2i Γ dX11_wrongSeats_96 ?_
                refine jq_cpZ (jq_virt (avs := [jI t6.1, jI (jq_w v8)]) (st := []) Γ hlY rfl ml_RX11_266 rfl at_M_0 rfl rfl rfl rfl rfl dX11_wrongSeats_97) rfl (fun r h => ctX11_isIn h) (fun v19 hz20 => ?_)
                refine jq_if_eq (tgt := 105) Γ dX11_wrongSeats_100 rfl ?_ ?_
                · refine jq_sub Γ (L' := [(0, jR 0), (1, jI p1), (2, jI t6.1), (3, jI t6.2), (4, jL v8)]) [1, 2, 3, 4, 0] rfl ?_
                  exact hj105_1014 t6.1 t6.2 v8
                · refine jq_sub Γ (L' := []) [] rfl ?_
                  exact jq_done (hXt6 (.inl ()))
        · refine jq_elim ?_ ?_
          · intro e21
            refine jq_iconst Γ dX11_wrongSeats_103 rfl ?_
            exact jq_ireturn Γ dX11_wrongSeats_104 (hK0 _)
          · intro e22
            refine jq_iconst Γ dX11_wrongSeats_130 rfl ?_
            exact jq_ireturn Γ dX11_wrongSeats_131 (hK0 _)
      · refine jq_iconst Γ dX11_wrongSeats_36 rfl ?_
        exact jq_ireturn Γ dX11_wrongSeats_37 (hK0 _)
    · refine jq_iconst Γ dX11_wrongSeats_19 rfl ?_
      exact jq_ireturn Γ dX11_wrongSeats_20 (hK0 _)
  · refine jq_iconst Γ dX11_wrongSeats_7 rfl ?_
    exact jq_ireturn Γ dX11_wrongSeats_8 (hK0 _)


theorem dX11_seatBy_0 : decode cX11_seatBy 0 = .ok (.aload_n 0, 1) := by decide +kernel
theorem dX11_seatBy_1 : decode cX11_seatBy 1 = .ok (.iload_n 1, 1) := by decide +kernel
theorem dX11_seatBy_2 : decode cX11_seatBy 2 = .ok (.invokevirtual 462, 3) := by decide +kernel
theorem dX11_seatBy_5 : decode cX11_seatBy 5 = .ok (.istore_n 2, 1) := by decide +kernel
theorem dX11_seatBy_6 : decode cX11_seatBy 6 = .ok (.iload_n 2, 1) := by decide +kernel
theorem dX11_seatBy_7 : decode cX11_seatBy 7 = .ok (.ifCond .le 9, 3) := by decide +kernel
theorem dX11_seatBy_10 : decode cX11_seatBy 10 = .ok (.aload_n 0, 1) := by decide +kernel
theorem dX11_seatBy_11 : decode cX11_seatBy 11 = .ok (.iload_n 2, 1) := by decide +kernel
theorem dX11_seatBy_12 : decode cX11_seatBy 12 = .ok (.invokevirtual 84, 3) := by decide +kernel
theorem dX11_seatBy_15 : decode cX11_seatBy 15 = .ok (.ireturn, 1) := by decide +kernel
theorem dX11_seatBy_16 : decode cX11_seatBy 16 = .ok (.iconst 0, 1) := by decide +kernel
theorem dX11_seatBy_17 : decode cX11_seatBy 17 = .ok (.istore_n 3, 1) := by decide +kernel
theorem dX11_seatBy_18 : decode cX11_seatBy 18 = .ok (.iload_n 3, 1) := by decide +kernel
theorem dX11_seatBy_19 : decode cX11_seatBy 19 = .ok (.aload_n 0, 1) := by decide +kernel
theorem dX11_seatBy_20 : decode cX11_seatBy 20 = .ok (.getfield 7, 3) := by decide +kernel
theorem dX11_seatBy_23 : decode cX11_seatBy 23 = .ok (.iconst 1, 1) := by decide +kernel
theorem dX11_seatBy_24 : decode cX11_seatBy 24 = .ok (.iaload, 1) := by decide +kernel
theorem dX11_seatBy_25 : decode cX11_seatBy 25 = .ok (.if_icmp .ge 32, 3) := by decide +kernel
theorem dX11_seatBy_28 : decode cX11_seatBy 28 = .ok (.aload_n 0, 1) := by decide +kernel
theorem dX11_seatBy_29 : decode cX11_seatBy 29 = .ok (.getfield 7, 3) := by decide +kernel
theorem dX11_seatBy_32 : decode cX11_seatBy 32 = .ok (.iload_n 3, 1) := by decide +kernel
theorem dX11_seatBy_33 : decode cX11_seatBy 33 = .ok (.invokestatic 254, 3) := by decide +kernel
theorem dX11_seatBy_36 : decode cX11_seatBy 36 = .ok (.iconst 1, 1) := by decide +kernel
theorem dX11_seatBy_37 : decode cX11_seatBy 37 = .ok (.iadd, 1) := by decide +kernel
theorem dX11_seatBy_38 : decode cX11_seatBy 38 = .ok (.aload_n 0, 1) := by decide +kernel
theorem dX11_seatBy_39 : decode cX11_seatBy 39 = .ok (.getfield 27, 3) := by decide +kernel
theorem dX11_seatBy_42 : decode cX11_seatBy 42 = .ok (.bipush 60, 2) := by decide +kernel
theorem dX11_seatBy_44 : decode cX11_seatBy 44 = .ok (.iload_n 1, 1) := by decide +kernel
theorem dX11_seatBy_45 : decode cX11_seatBy 45 = .ok (.imul, 1) := by decide +kernel
theorem dX11_seatBy_46 : decode cX11_seatBy 46 = .ok (.iload_n 3, 1) := by decide +kernel
theorem dX11_seatBy_47 : decode cX11_seatBy 47 = .ok (.iadd, 1) := by decide +kernel
theorem dX11_seatBy_48 : decode cX11_seatBy 48 = .ok (.laload, 1) := by decide +kernel
theorem dX11_seatBy_49 : decode cX11_seatBy 49 = .ok (.l2i, 1) := by decide +kernel
theorem dX11_seatBy_50 : decode cX11_seatBy 50 = .ok (.iastore, 1) := by decide +kernel
theorem dX11_seatBy_51 : decode cX11_seatBy 51 = .ok (.iinc 3 1, 3) := by decide +kernel
theorem dX11_seatBy_54 : decode cX11_seatBy 54 = .ok (.goto (-36), 3) := by decide +kernel
theorem dX11_seatBy_57 : decode cX11_seatBy 57 = .ok (.aload_n 0, 1) := by decide +kernel
theorem dX11_seatBy_58 : decode cX11_seatBy 58 = .ok (.invokevirtual 302, 3) := by decide +kernel
theorem dX11_seatBy_61 : decode cX11_seatBy 61 = .ok (.aload_n 0, 1) := by decide +kernel
theorem dX11_seatBy_62 : decode cX11_seatBy 62 = .ok (.aload_n 0, 1) := by decide +kernel
theorem dX11_seatBy_63 : decode cX11_seatBy 63 = .ok (.invokevirtual 308, 3) := by decide +kernel
theorem dX11_seatBy_66 : decode cX11_seatBy 66 = .ok (.invokevirtual 88, 3) := by decide +kernel
theorem dX11_seatBy_69 : decode cX11_seatBy 69 = .ok (.ireturn, 1) := by decide +kernel
set_option maxHeartbeats 4000000 in
set_option maxRecDepth 100000 in
theorem ctX11_seatBy {p1 : Int} {σ : jq_M} {res : Int} {σ' : jq_M}  (h : X11_seatBy p1 σ = some (res, σ')) : jq_MC jq_zM yX11_seatBy cX11_seatBy 4 (some .int) 6 153 [jR 0, jI p1] σ (some (jI res)) σ' := by
  refine jq_met (own := RX11) (L0 := [(0, jR 0), (1, jI p1)]) (by decide) rfl rfl rfl ?_
  intro X Γ hnl hlY hRT
  refine jq_use2 (P := fun r => jq_RT jq_zM X (some .int) (some (jI r.1)) r.2) ?_ h hRT
  intro K0 hK0
  unfold X11_seatBy
  refine jq_aload_n Γ dX11_seatBy_0 rfl 0 rfl (jq_at_0 at_M_0) ?_
  refine jq_iload_n Γ dX11_seatBy_1 rfl 1 rfl ?_
  refine jq_cpI (jq_virt (avs := [jI p1]) (st := []) Γ hlY rfl ml_RX11_462 rfl at_M_0 rfl rfl rfl rfl rfl dX11_seatBy_2) (fun r h => ctX11_wrongSeats h) (fun v1 => ?_)
  refine jq_istore_n (L' := [(2, jI v1), (0, jR 0), (1, jI p1)]) Γ dX11_seatBy_5 rfl hnl rfl rfl ?_
  refine jq_iload_n Γ dX11_seatBy_6 rfl 0 rfl ?_
  refine jq_if_le (tgt := 16) Γ dX11_seatBy_7 rfl ?_ ?_
  · refine jq_iconst Γ dX11_seatBy_16 rfl ?_
    refine jq_istore_n (L' := [(3, jI 0), (2, jI v1), (0, jR 0), (1, jI p1)]) Γ dX11_seatBy_17 rfl hnl rfl rfl ?_
    refine jq_sub Γ (L' := [(0, jR 0), (1, jI p1), (3, jI 0)]) [2, 3, 0] rfl ?_
    refine jq_loop2 (C := fun (t2 : Int × jq_M) => jq_V jq_zM X (jq_zN jq_zM) t2.2 18 [(0, jR 0), (1, jI p1), (3, jI t2.1)] []) (KX := fun (e8 : jq_M) => jq_V jq_zM X (jq_zN jq_zM) e8 57 [(0, jR 0)] []) ?_ ?_ (0, σ)
    · intro K18_t2 hCt2 hXt2 t2
      unfold X11_seatBy_b18
      refine jq_iload_n Γ dX11_seatBy_18 rfl 2 rfl ?_
      refine jq_aload_n Γ dX11_seatBy_19 rfl 0 rfl (jq_at_0 at_M_0) ?_
      refine jq_getR (v := 1) Γ hlY at_M_0 fl_RX11_7 rfl rfl ly_X11_at dX11_seatBy_20 ?_
      refine jq_iconst Γ dX11_seatBy_23 rfl ?_
      refine jq_iald Γ at_M_1 rfl dX11_seatBy_24 (fun v3 => ?_)
      refine jq_icmp_ge (tgt := 57) Γ dX11_seatBy_25 rfl ?_ ?_
      · refine jq_sub Γ (L' := [(0, jR 0)]) [0] rfl ?_
        exact jq_done (hXt2 t2.2)
      · refine jq_aload_n Γ dX11_seatBy_28 rfl 0 rfl (jq_at_0 at_M_0) ?_
        refine jq_getR (v := 1) Γ hlY at_M_0 fl_RX11_7 rfl rfl ly_X11_at dX11_seatBy_29 ?_
        refine jq_iload_n Γ dX11_seatBy_32 rfl 2 rfl ?_
        refine jq_cpI (jq_stat (avs := [jI t2.1]) (st := [jR 1]) Γ hlY rfl ml_RX11_254 rfl rfl rfl rfl rfl dX11_seatBy_33) (fun r h => ctX11_partyRow h) (fun v4 => ?_)
        refine jq_iconst Γ dX11_seatBy_36 rfl ?_
        refine jq_iadd Γ dX11_seatBy_37 ?_
        refine jq_aload_n Γ dX11_seatBy_38 rfl 0 rfl (jq_at_0 at_M_0) ?_
        refine jq_getR (v := 5) Γ hlY at_M_0 fl_RX11_27 rfl rfl ly_X11_trays dX11_seatBy_39 ?_
        refine jq_bipush Γ dX11_seatBy_42 rfl ?_
        refine jq_iload_n Γ dX11_seatBy_44 rfl 1 rfl ?_
        refine jq_imul Γ dX11_seatBy_45 ?_
        refine jq_iload_n Γ dX11_seatBy_46 rfl 2 rfl ?_
        refine jq_iadd Γ dX11_seatBy_47 ?_
        refine jq_lald Γ at_M_5 rfl dX11_seatBy_48 (fun v5 => ?_)
        refine jq_l2i Γ dX11_seatBy_49 ?_
        refine jq_iast Γ at_M_1 rfl dX11_seatBy_50 (fun s6 => ?_)
        refine jq_iincN (L' := fun v7 => [(3, jI v7), (0, jR 0), (1, jI p1)]) Γ dX11_seatBy_51 2 rfl hnl rfl (fun _ => rfl) (fun v7 => ?_)
        refine jq_goto Γ (tgt := 18) dX11_seatBy_54 rfl ?_
        refine jq_sub Γ (L' := [(0, jR 0), (1, jI p1), (3, jI v7)]) [1, 2, 0] rfl ?_
        exact jq_done (hCt2 (v7, s6))
    · intro e8
      refine jq_aload_n Γ dX11_seatBy_57 rfl 0 rfl (jq_at_0 at_M_0) ?_
      refine jq_cwV (jq_virt (avs := []) (st := []) Γ hlY rfl ml_RX11_302 rfl at_M_0 rfl rfl rfl rfl rfl dX11_seatBy_58) (fun σ' h => ctX11_seatsNow h) (fun s9 => ?_)
      refine jq_aload_n Γ dX11_seatBy_61 rfl 0 rfl (jq_at_0 at_M_0) ?_
      refine jq_aload_n Γ dX11_seatBy_62 rfl 0 rfl (jq_at_0 at_M_0) ?_
      refine jq_cpI (jq_virt (avs := []) (st := [jR 0]) Γ hlY rfl ml_RX11_308 rfl at_M_0 rfl rfl rfl rfl rfl dX11_seatBy_63) (fun r h => ctX11_signing h) (fun v10 => ?_)
      refine jq_cwI (jq_virt (avs := [jI v10]) (st := []) Γ hlY rfl ml_RX11_88 rfl at_M_0 rfl rfl rfl rfl rfl dX11_seatBy_66) (fun r σ' h => ctX11_gives h) (fun v11 s12 => ?_)
      exact jq_ireturn Γ dX11_seatBy_69 (hK0 _)
  · refine jq_aload_n Γ dX11_seatBy_10 rfl 1 rfl (jq_at_0 at_M_0) ?_
    refine jq_iload_n Γ dX11_seatBy_11 rfl 0 rfl ?_
    refine jq_cwI (jq_virt (avs := [jI v1]) (st := []) Γ hlY rfl ml_RX11_84 rfl at_M_0 rfl rfl rfl rfl rfl dX11_seatBy_12) (fun r σ' h => ctX11_refuse h) (fun v13 s14 => ?_)
    exact jq_ireturn Γ dX11_seatBy_15 (hK0 _)


theorem dX11_draw_0 : decode cX11_draw 0 = .ok (.aload_n 0, 1) := by decide +kernel
theorem dX11_draw_1 : decode cX11_draw 1 = .ok (.aload_n 0, 1) := by decide +kernel
theorem dX11_draw_2 : decode cX11_draw 2 = .ok (.getfield 465, 3) := by decide +kernel
theorem dX11_draw_5 : decode cX11_draw 5 = .ok (.sipush 3061, 3) := by decide +kernel
theorem dX11_draw_8 : decode cX11_draw 8 = .ok (.imul, 1) := by decide +kernel
theorem dX11_draw_9 : decode cX11_draw 9 = .ok (.sipush 11279, 3) := by decide +kernel
theorem dX11_draw_12 : decode cX11_draw 12 = .ok (.iadd, 1) := by decide +kernel
theorem dX11_draw_13 : decode cX11_draw 13 = .ok (.ldc_w 468, 3) := by decide +kernel
theorem dX11_draw_16 : decode cX11_draw 16 = .ok (.irem, 1) := by decide +kernel
theorem dX11_draw_17 : decode cX11_draw 17 = .ok (.putfield 465, 3) := by decide +kernel
theorem dX11_draw_20 : decode cX11_draw 20 = .ok (.aload_n 0, 1) := by decide +kernel
theorem dX11_draw_21 : decode cX11_draw 21 = .ok (.getfield 465, 3) := by decide +kernel
theorem dX11_draw_24 : decode cX11_draw 24 = .ok (.bipush 8, 2) := by decide +kernel
theorem dX11_draw_26 : decode cX11_draw 26 = .ok (.idiv, 1) := by decide +kernel
theorem dX11_draw_27 : decode cX11_draw 27 = .ok (.iload_n 1, 1) := by decide +kernel
theorem dX11_draw_28 : decode cX11_draw 28 = .ok (.irem, 1) := by decide +kernel
theorem dX11_draw_29 : decode cX11_draw 29 = .ok (.ireturn, 1) := by decide +kernel
set_option maxHeartbeats 4000000 in
set_option maxRecDepth 100000 in
theorem ctX11_draw {p1 : Int} {σ : jq_M} {res : Int} {σ' : jq_M}  (h : X11_draw p1 σ = some (res, σ')) : jq_MC jq_zM yX11_draw cX11_draw 2 (some .int) 1 40 [jR 0, jI p1] σ (some (jI res)) σ' := by
  refine jq_met (own := RX11) (L0 := [(0, jR 0), (1, jI p1)]) (by decide) rfl rfl rfl ?_
  intro X Γ hnl hlY hRT
  refine jq_use2 (P := fun r => jq_RT jq_zM X (some .int) (some (jI r.1)) r.2) ?_ h hRT
  intro K0 hK0
  unfold X11_draw
  refine jq_aload_n Γ dX11_draw_0 rfl 0 rfl (jq_at_0 at_M_0) ?_
  refine jq_aload_n Γ dX11_draw_1 rfl 0 rfl (jq_at_0 at_M_0) ?_
  refine jq_getI (J := 30) Γ at_M_0 fl_RX11_465 rfl rfl dX11_draw_2 ?_
  refine jq_sipush Γ dX11_draw_5 rfl ?_
  refine jq_imul Γ dX11_draw_8 ?_
  refine jq_sipush Γ dX11_draw_9 rfl ?_
  refine jq_iadd Γ dX11_draw_12 ?_
  refine jq_ldcw Γ 65536 dX11_draw_13 kc_RX11_468 rfl ?_
  refine jq_iremR Γ dX11_draw_16 (fun v1 => ?_)
  refine jq_putI Γ at_M_0 fl_RX11_465 rfl rfl dX11_draw_17 (fun s2 => ?_)
  refine jq_aload_n Γ dX11_draw_20 rfl 0 rfl (jq_at_0 at_M_0) ?_
  refine jq_getI (J := 30) Γ at_M_0 fl_RX11_465 rfl rfl dX11_draw_21 ?_
  refine jq_bipush Γ dX11_draw_24 rfl ?_
  refine jq_idivR Γ dX11_draw_26 (fun v3 => ?_)
  refine jq_iload_n Γ dX11_draw_27 rfl 1 rfl ?_
  refine jq_iremR Γ dX11_draw_28 (fun v4 => ?_)
  exact jq_ireturn Γ dX11_draw_29 (hK0 _)


theorem dX11_risesBy_0 : decode cX11_risesBy 0 = .ok (.aload_n 0, 1) := by decide +kernel
theorem dX11_risesBy_1 : decode cX11_risesBy 1 = .ok (.iload_n 1, 1) := by decide +kernel
theorem dX11_risesBy_2 : decode cX11_risesBy 2 = .ok (.invokevirtual 257, 3) := by decide +kernel
theorem dX11_risesBy_5 : decode cX11_risesBy 5 = .ok (.iconst (-1), 1) := by decide +kernel
theorem dX11_risesBy_6 : decode cX11_risesBy 6 = .ok (.if_icmp .eq 7, 3) := by decide +kernel
theorem dX11_risesBy_9 : decode cX11_risesBy 9 = .ok (.iconst 1, 1) := by decide +kernel
theorem dX11_risesBy_10 : decode cX11_risesBy 10 = .ok (.goto 4, 3) := by decide +kernel
theorem dX11_risesBy_13 : decode cX11_risesBy 13 = .ok (.iconst 0, 1) := by decide +kernel
theorem dX11_risesBy_14 : decode cX11_risesBy 14 = .ok (.istore_n 2, 1) := by decide +kernel
theorem dX11_risesBy_15 : decode cX11_risesBy 15 = .ok (.aload_n 0, 1) := by decide +kernel
theorem dX11_risesBy_16 : decode cX11_risesBy 16 = .ok (.getfield 7, 3) := by decide +kernel
theorem dX11_risesBy_19 : decode cX11_risesBy 19 = .ok (.iload_n 1, 1) := by decide +kernel
theorem dX11_risesBy_20 : decode cX11_risesBy 20 = .ok (.invokestatic 254, 3) := by decide +kernel
theorem dX11_risesBy_23 : decode cX11_risesBy 23 = .ok (.iconst 1, 1) := by decide +kernel
theorem dX11_risesBy_24 : decode cX11_risesBy 24 = .ok (.iadd, 1) := by decide +kernel
theorem dX11_risesBy_25 : decode cX11_risesBy 25 = .ok (.iconst (-1), 1) := by decide +kernel
theorem dX11_risesBy_26 : decode cX11_risesBy 26 = .ok (.iastore, 1) := by decide +kernel
theorem dX11_risesBy_27 : decode cX11_risesBy 27 = .ok (.iload_n 2, 1) := by decide +kernel
theorem dX11_risesBy_28 : decode cX11_risesBy 28 = .ok (.ireturn, 1) := by decide +kernel
set_option maxHeartbeats 4000000 in
set_option maxRecDepth 100000 in
theorem ctX11_risesBy {p1 : Int} {σ : jq_M} {res : Int} {σ' : jq_M}  (h : X11_risesBy p1 σ = some (res, σ')) : jq_MC jq_zM yX11_risesBy cX11_risesBy 3 (some .boolean) 3 81 [jR 0, jI p1] σ (some (jI res)) σ' := by
  refine jq_met (own := RX11) (L0 := [(0, jR 0), (1, jI p1)]) (by decide) rfl rfl rfl ?_
  intro X Γ hnl hlY hRT
  refine jq_use2 (P := fun r => jq_RT jq_zM X (some .boolean) (some (jI r.1)) r.2) ?_ h hRT
  intro K0 hK0
  unfold X11_risesBy
  have hj14_0 : ∀ (j2 : Int) (s4 : jq_M) (hz3 : j2 = 0 ∨ j2 = 1), jq_J (X11_risesBy_j14 p1 j2 s4) K0 (jq_V jq_zM X (jq_zN jq_zM) s4 14 [(0, jR 0), (1, jI p1)] [jI j2]) := by
    intro j2 s4 hz3
    unfold X11_risesBy_j14
    refine jq_istore_n (L' := [(2, jI j2), (0, jR 0), (1, jI p1)]) Γ dX11_risesBy_14 rfl hnl rfl rfl ?_
    refine jq_aload_n Γ dX11_risesBy_15 rfl 1 rfl (jq_at_0 at_M_0) ?_
    refine jq_getR (v := 1) Γ hlY at_M_0 fl_RX11_7 rfl rfl ly_X11_at dX11_risesBy_16 ?_
    refine jq_iload_n Γ dX11_risesBy_19 rfl 2 rfl ?_
    refine jq_cpI (jq_stat (avs := [jI p1]) (st := [jR 1]) Γ hlY rfl ml_RX11_254 rfl rfl rfl rfl rfl dX11_risesBy_20) (fun r h => ctX11_partyRow h) (fun v5 => ?_)
    refine jq_iconst Γ dX11_risesBy_23 rfl ?_
    refine jq_iadd Γ dX11_risesBy_24 ?_
    refine jq_iconst Γ dX11_risesBy_25 rfl ?_
    refine jq_iast Γ at_M_1 rfl dX11_risesBy_26 (fun s6 => ?_)
    refine jq_iload_n Γ dX11_risesBy_27 rfl 0 rfl ?_
    exact jq_zreturn Γ (hz3) dX11_risesBy_28 (hK0 _)
  refine jq_aload_n Γ dX11_risesBy_0 rfl 0 rfl (jq_at_0 at_M_0) ?_
  refine jq_iload_n Γ dX11_risesBy_1 rfl 1 rfl ?_
  refine jq_cpI (jq_virt (avs := [jI p1]) (st := []) Γ hlY rfl ml_RX11_257 rfl at_M_0 rfl rfl rfl rfl rfl dX11_risesBy_2) (fun r h => ctX11_seatOf h) (fun v1 => ?_)
  refine jq_iconst Γ dX11_risesBy_5 rfl ?_
  refine jq_icmp_eq (tgt := 13) Γ dX11_risesBy_6 rfl ?_ ?_
  · refine jq_iconst Γ dX11_risesBy_13 rfl ?_
    exact hj14_0 0 σ (Or.inl rfl)
  · refine jq_iconst Γ dX11_risesBy_9 rfl ?_
    refine jq_goto Γ (tgt := 14) dX11_risesBy_10 rfl ?_
    exact hj14_0 1 σ (Or.inr rfl)


theorem dX11_turnsAll_0 : decode cX11_turnsAll 0 = .ok (.aload_n 0, 1) := by decide +kernel
theorem dX11_turnsAll_1 : decode cX11_turnsAll 1 = .ok (.iload_n 1, 1) := by decide +kernel
theorem dX11_turnsAll_2 : decode cX11_turnsAll 2 = .ok (.invokevirtual 347, 3) := by decide +kernel
theorem dX11_turnsAll_5 : decode cX11_turnsAll 5 = .ok (.iconst 1, 1) := by decide +kernel
theorem dX11_turnsAll_6 : decode cX11_turnsAll 6 = .ok (.ireturn, 1) := by decide +kernel
set_option maxHeartbeats 4000000 in
set_option maxRecDepth 100000 in
theorem ctX11_turnsAll {p1 : Int} {σ : jq_M} {res : Int} {σ' : jq_M}  (h : X11_turnsAll p1 σ = some (res, σ')) : jq_MC jq_zM yX11_turnsAll cX11_turnsAll 2 (some .boolean) 4 103 [jR 0, jI p1] σ (some (jI res)) σ' := by
  refine jq_met (own := RX11) (L0 := [(0, jR 0), (1, jI p1)]) (by decide) rfl rfl rfl ?_
  intro X Γ hnl hlY hRT
  refine jq_use2 (P := fun r => jq_RT jq_zM X (some .boolean) (some (jI r.1)) r.2) ?_ h hRT
  intro K0 hK0
  unfold X11_turnsAll
  refine jq_aload_n Γ dX11_turnsAll_0 rfl 0 rfl (jq_at_0 at_M_0) ?_
  refine jq_iload_n Γ dX11_turnsAll_1 rfl 1 rfl ?_
  refine jq_cwV (jq_virt (avs := [jI p1]) (st := []) Γ hlY rfl ml_RX11_347 rfl at_M_0 rfl rfl rfl rfl rfl dX11_turnsAll_2) (fun σ' h => ctX11_turnsBy h) (fun s1 => ?_)
  refine jq_iconst Γ dX11_turnsAll_5 rfl ?_
  exact jq_zreturn Γ (Or.inr rfl) dX11_turnsAll_6 (hK0 _)


