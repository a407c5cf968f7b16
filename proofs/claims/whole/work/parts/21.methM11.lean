theorem fl_RX11_7 : jq_fl RX11 7 8 37 0 true := ⟨RX11, TX11, tyX11, cls_X11, by decide, jq_in 1562 (by decide +kernel) rfl, by decide⟩
theorem fl_RX11_78 : jq_fl RX11 78 8 37 2 false := ⟨RX11, TX11, tyX11, cls_X11, by decide, jq_in 1564 (by decide +kernel) rfl, by decide⟩
theorem fl_RX11_81 : jq_fl RX11 81 8 37 3 false := ⟨RX11, TX11, tyX11, cls_X11, by decide, jq_in 1565 (by decide +kernel) rfl, by decide⟩
theorem fl_RX11_17 : jq_fl RX11 17 8 37 4 false := ⟨RX11, TX11, tyX11, cls_X11, by decide, jq_in 1566 (by decide +kernel) rfl, by decide⟩
theorem yf_X11_gives : Cond.instanceMethod yX11_gives ∈ jq_T ∧ Cond.selects (yX11_gives).cls yX11_gives yX11_gives ∈ jq_T ∧ Cond.initialized (yX11_gives).cls ∈ jq_T ∧ Cond.code yX11_gives cX11_gives 2 (some .int) ∈ jq_T ∧ ((yX11_gives).cls ≠ "java/lang/invoke/MethodHandle" ∧ (yX11_gives).cls ≠ "java/lang/invoke/VarHandle" ∧ (parseMethodDescriptor (yX11_gives).desc).map (fun d => d.parameters.length) = some 1) := ⟨jq_in 1830 (by decide +kernel) rfl, jq_in 63 (by decide +kernel) rfl, jq_in 150 (by decide +kernel) rfl, jq_in 1831 (by decide +kernel) rfl, ⟨by decide, by decide, by decide +kernel⟩⟩
theorem ml_RX11_88 : jq_vl RX11 88 yX11_gives cX11_gives 2 (some .int) 1 := ⟨jq_in 1828 (by decide +kernel) rfl, yf_X11_gives⟩
theorem yf_X11_refuse : Cond.instanceMethod yX11_refuse ∈ jq_T ∧ Cond.selects (yX11_refuse).cls yX11_refuse yX11_refuse ∈ jq_T ∧ Cond.initialized (yX11_refuse).cls ∈ jq_T ∧ Cond.code yX11_refuse cX11_refuse 2 (some .int) ∈ jq_T ∧ ((yX11_refuse).cls ≠ "java/lang/invoke/MethodHandle" ∧ (yX11_refuse).cls ≠ "java/lang/invoke/VarHandle" ∧ (parseMethodDescriptor (yX11_refuse).desc).map (fun d => d.parameters.length) = some 1) := ⟨jq_in 1755 (by decide +kernel) rfl, jq_in 45 (by decide +kernel) rfl, jq_in 150 (by decide +kernel) rfl, jq_in 1756 (by decide +kernel) rfl, ⟨by decide, by decide, by decide +kernel⟩⟩
theorem ml_RX11_84 : jq_vl RX11 84 yX11_refuse cX11_refuse 2 (some .int) 1 := ⟨jq_in 1753 (by decide +kernel) rfl, yf_X11_refuse⟩
theorem yf_X11_is : Cond.instanceMethod yX11_is ∈ jq_T ∧ Cond.selects (yX11_is).cls yX11_is yX11_is ∈ jq_T ∧ Cond.initialized (yX11_is).cls ∈ jq_T ∧ Cond.code yX11_is cX11_is 2 (some .boolean) ∈ jq_T ∧ ((yX11_is).cls ≠ "java/lang/invoke/MethodHandle" ∧ (yX11_is).cls ≠ "java/lang/invoke/VarHandle" ∧ (parseMethodDescriptor (yX11_is).desc).map (fun d => d.parameters.length) = some 1) := ⟨jq_in 1695 (by decide +kernel) rfl, jq_in 39 (by decide +kernel) rfl, jq_in 150 (by decide +kernel) rfl, jq_in 1696 (by decide +kernel) rfl, ⟨by decide, by decide, by decide +kernel⟩⟩
theorem ml_RX11_91 : jq_vl RX11 91 yX11_is cX11_is 2 (some .boolean) 1 := ⟨jq_in 1693 (by decide +kernel) rfl, yf_X11_is⟩
theorem yf_X11_isTray : Cond.static yX11_isTray ∈ jq_T ∧ Cond.initialized (yX11_isTray).cls ∈ jq_T ∧ Cond.code yX11_isTray cX11_isTray 1 (some .boolean) ∈ jq_T ∧ ((yX11_isTray).cls ≠ "java/lang/invoke/MethodHandle" ∧ (yX11_isTray).cls ≠ "java/lang/invoke/VarHandle" ∧ (parseMethodDescriptor (yX11_isTray).desc).map (fun d => d.parameters.length) = some 1) := ⟨jq_in 1691 (by decide +kernel) rfl, jq_in 150 (by decide +kernel) rfl, jq_in 1692 (by decide +kernel) rfl, ⟨by decide, by decide, by decide +kernel⟩⟩
theorem ml_RX11_95 : jq_sl RX11 95 yX11_isTray cX11_isTray 1 (some .boolean) 1 := ⟨jq_in 1690 (by decide +kernel) rfl, yf_X11_isTray⟩
theorem fl_RX11_21 : jq_fl RX11 21 8 37 5 true := ⟨RX11, TX11, tyX11, cls_X11, by decide, jq_in 1567 (by decide +kernel) rfl, by decide⟩
theorem fl_RX11_24 : jq_fl RX11 24 8 37 6 true := ⟨RX11, TX11, tyX11, cls_X11, by decide, jq_in 1568 (by decide +kernel) rfl, by decide⟩
theorem fl_RX11_27 : jq_fl RX11 27 8 37 7 true := ⟨RX11, TX11, tyX11, cls_X11, by decide, jq_in 1569 (by decide +kernel) rfl, by decide⟩
theorem yf_X11_wrongPlace : Cond.instanceMethod yX11_wrongPlace ∈ jq_T ∧ Cond.selects (yX11_wrongPlace).cls yX11_wrongPlace yX11_wrongPlace ∈ jq_T ∧ Cond.initialized (yX11_wrongPlace).cls ∈ jq_T ∧ Cond.code yX11_wrongPlace cX11_wrongPlace 3 (some .int) ∈ jq_T ∧ ((yX11_wrongPlace).cls ≠ "java/lang/invoke/MethodHandle" ∧ (yX11_wrongPlace).cls ≠ "java/lang/invoke/VarHandle" ∧ (parseMethodDescriptor (yX11_wrongPlace).desc).map (fun d => d.parameters.length) = some 2) := ⟨jq_in 1703 (by decide +kernel) rfl, jq_in 40 (by decide +kernel) rfl, jq_in 150 (by decide +kernel) rfl, jq_in 1704 (by decide +kernel) rfl, ⟨by decide, by decide, by decide +kernel⟩⟩
theorem ml_RX11_98 : jq_vl RX11 98 yX11_wrongPlace cX11_wrongPlace 3 (some .int) 2 := ⟨jq_in 1701 (by decide +kernel) rfl, yf_X11_wrongPlace⟩
theorem yf_X11_cut : Cond.static yX11_cut ∈ jq_T ∧ Cond.initialized (yX11_cut).cls ∈ jq_T ∧ Cond.code yX11_cut cX11_cut 3 (some .long) ∈ jq_T ∧ ((yX11_cut).cls ≠ "java/lang/invoke/MethodHandle" ∧ (yX11_cut).cls ≠ "java/lang/invoke/VarHandle" ∧ (parseMethodDescriptor (yX11_cut).desc).map (fun d => d.parameters.length) = some 2) := ⟨jq_in 1706 (by decide +kernel) rfl, jq_in 150 (by decide +kernel) rfl, jq_in 1707 (by decide +kernel) rfl, ⟨by decide, by decide, by decide +kernel⟩⟩
theorem ml_RX11_102 : jq_sl RX11 102 yX11_cut cX11_cut 3 (some .long) 2 := ⟨jq_in 1705 (by decide +kernel) rfl, yf_X11_cut⟩
theorem kc_RX11_106 : Cond.constantLong RX11 106 (Int64.ofInt (-1)) ∈ jq_T := jq_in 1712 (by decide +kernel) rfl
theorem fl_RX11_30 : jq_fl RX11 30 8 37 8 true := ⟨RX11, TX11, tyX11, cls_X11, by decide, jq_in 1570 (by decide +kernel) rfl, by decide⟩
theorem fl_RX11_108 : jq_fl RX11 108 8 37 10 false := ⟨RX11, TX11, tyX11, cls_X11, by decide, jq_in 1572 (by decide +kernel) rfl, by decide⟩
theorem yf_X11_four : Cond.instanceMethod yX11_four ∈ jq_T ∧ Cond.selects (yX11_four).cls yX11_four yX11_four ∈ jq_T ∧ Cond.initialized (yX11_four).cls ∈ jq_T ∧ Cond.code yX11_four cX11_four 3 none ∈ jq_T ∧ ((yX11_four).cls ≠ "java/lang/invoke/MethodHandle" ∧ (yX11_four).cls ≠ "java/lang/invoke/VarHandle" ∧ (parseMethodDescriptor (yX11_four).desc).map (fun d => d.parameters.length) = some 1) := ⟨jq_in 1723 (by decide +kernel) rfl, jq_in 41 (by decide +kernel) rfl, jq_in 150 (by decide +kernel) rfl, jq_in 1724 (by decide +kernel) rfl, ⟨by decide, by decide, by decide +kernel⟩⟩
theorem ml_RX11_111 : jq_vl RX11 111 yX11_four cX11_four 3 none 1 := ⟨jq_in 1721 (by decide +kernel) rfl, yf_X11_four⟩
theorem fl_RX11_114 : jq_fl RX11 114 8 37 11 false := ⟨RX11, TX11, tyX11, cls_X11, by decide, jq_in 1573 (by decide +kernel) rfl, by decide⟩
theorem fl_RX11_34 : jq_fl RX11 34 8 37 9 true := ⟨RX11, TX11, tyX11, cls_X11, by decide, jq_in 1571 (by decide +kernel) rfl, by decide⟩
theorem fl_RX11_117 : jq_fl RX11 117 8 37 14 false := ⟨RX11, TX11, tyX11, cls_X11, by decide, jq_in 1576 (by decide +kernel) rfl, by decide⟩
theorem yf_X11_byteAt : Cond.instanceMethod yX11_byteAt ∈ jq_T ∧ Cond.selects (yX11_byteAt).cls yX11_byteAt yX11_byteAt ∈ jq_T ∧ Cond.initialized (yX11_byteAt).cls ∈ jq_T ∧ Cond.code yX11_byteAt cX11_byteAt 2 (some .int) ∈ jq_T ∧ ((yX11_byteAt).cls ≠ "java/lang/invoke/MethodHandle" ∧ (yX11_byteAt).cls ≠ "java/lang/invoke/VarHandle" ∧ (parseMethodDescriptor (yX11_byteAt).desc).map (fun d => d.parameters.length) = some 1) := ⟨jq_in 1743 (by decide +kernel) rfl, jq_in 44 (by decide +kernel) rfl, jq_in 150 (by decide +kernel) rfl, jq_in 1744 (by decide +kernel) rfl, ⟨by decide, by decide, by decide +kernel⟩⟩
theorem ml_RX11_120 : jq_vl RX11 120 yX11_byteAt cX11_byteAt 2 (some .int) 1 := ⟨jq_in 1741 (by decide +kernel) rfl, yf_X11_byteAt⟩
theorem fl_RX11_123 : jq_fl RX11 123 8 37 13 false := ⟨RX11, TX11, tyX11, cls_X11, by decide, jq_in 1575 (by decide +kernel) rfl, by decide⟩
theorem fl_RX11_126 : jq_fl RX11 126 8 37 15 false := ⟨RX11, TX11, tyX11, cls_X11, by decide, jq_in 1577 (by decide +kernel) rfl, by decide⟩
theorem yf_X11_isSmall : Cond.static yX11_isSmall ∈ jq_T ∧ Cond.initialized (yX11_isSmall).cls ∈ jq_T ∧ Cond.code yX11_isSmall cX11_isSmall 1 (some .boolean) ∈ jq_T ∧ ((yX11_isSmall).cls ≠ "java/lang/invoke/MethodHandle" ∧ (yX11_isSmall).cls ≠ "java/lang/invoke/VarHandle" ∧ (parseMethodDescriptor (yX11_isSmall).desc).map (fun d => d.parameters.length) = some 1) := ⟨jq_in 1746 (by decide +kernel) rfl, jq_in 150 (by decide +kernel) rfl, jq_in 1747 (by decide +kernel) rfl, ⟨by decide, by decide, by decide +kernel⟩⟩
theorem ml_RX11_132 : jq_sl RX11 132 yX11_isSmall cX11_isSmall 1 (some .boolean) 1 := ⟨jq_in 1745 (by decide +kernel) rfl, yf_X11_isSmall⟩
theorem yf_X11_isDigit : Cond.static yX11_isDigit ∈ jq_T ∧ Cond.initialized (yX11_isDigit).cls ∈ jq_T ∧ Cond.code yX11_isDigit cX11_isDigit 1 (some .boolean) ∈ jq_T ∧ ((yX11_isDigit).cls ≠ "java/lang/invoke/MethodHandle" ∧ (yX11_isDigit).cls ≠ "java/lang/invoke/VarHandle" ∧ (parseMethodDescriptor (yX11_isDigit).desc).map (fun d => d.parameters.length) = some 1) := ⟨jq_in 1749 (by decide +kernel) rfl, jq_in 150 (by decide +kernel) rfl, jq_in 1750 (by decide +kernel) rfl, ⟨by decide, by decide, by decide +kernel⟩⟩
theorem ml_RX11_135 : jq_sl RX11 135 yX11_isDigit cX11_isDigit 1 (some .boolean) 1 := ⟨jq_in 1748 (by decide +kernel) rfl, yf_X11_isDigit⟩
theorem fl_RX11_129 : jq_fl RX11 129 8 37 12 false := ⟨RX11, TX11, tyX11, cls_X11, by decide, jq_in 1574 (by decide +kernel) rfl, by decide⟩
theorem kc_RX11_138 : Cond.constant RX11 138 (Int32.ofInt (100000)) ∈ jq_T := jq_in 1751 (by decide +kernel) rfl
theorem mw_RX11_139 : Cond.methodLink RX11 139 Lib.Math.min.name ∈ jq_T := jq_in 1752 (by decide +kernel) rfl
theorem dX11_plain_0 : decode cX11_plain 0 = .ok (.iconst 0, 1) := by decide +kernel
theorem dX11_plain_1 : decode cX11_plain 1 = .ok (.istore_n 2, 1) := by decide +kernel
theorem dX11_plain_2 : decode cX11_plain 2 = .ok (.iload_n 2, 1) := by decide +kernel
theorem dX11_plain_3 : decode cX11_plain 3 = .ok (.sipush 506, 3) := by decide +kernel
theorem dX11_plain_6 : decode cX11_plain 6 = .ok (.if_icmp .ge 18, 3) := by decide +kernel
theorem dX11_plain_9 : decode cX11_plain 9 = .ok (.aload_n 0, 1) := by decide +kernel
theorem dX11_plain_10 : decode cX11_plain 10 = .ok (.getfield 7, 3) := by decide +kernel
theorem dX11_plain_13 : decode cX11_plain 13 = .ok (.iload_n 1, 1) := by decide +kernel
theorem dX11_plain_14 : decode cX11_plain 14 = .ok (.iload_n 2, 1) := by decide +kernel
theorem dX11_plain_15 : decode cX11_plain 15 = .ok (.iadd, 1) := by decide +kernel
theorem dX11_plain_16 : decode cX11_plain 16 = .ok (.iconst 0, 1) := by decide +kernel
theorem dX11_plain_17 : decode cX11_plain 17 = .ok (.iastore, 1) := by decide +kernel
theorem dX11_plain_18 : decode cX11_plain 18 = .ok (.iinc 2 1, 3) := by decide +kernel
theorem dX11_plain_21 : decode cX11_plain 21 = .ok (.goto (-19), 3) := by decide +kernel
theorem dX11_plain_24 : decode cX11_plain 24 = .ok (.aload_n 0, 1) := by decide +kernel
theorem dX11_plain_25 : decode cX11_plain 25 = .ok (.getfield 7, 3) := by decide +kernel
theorem dX11_plain_28 : decode cX11_plain 28 = .ok (.iload_n 1, 1) := by decide +kernel
theorem dX11_plain_29 : decode cX11_plain 29 = .ok (.bipush 6, 2) := by decide +kernel
theorem dX11_plain_31 : decode cX11_plain 31 = .ok (.iadd, 1) := by decide +kernel
theorem dX11_plain_32 : decode cX11_plain 32 = .ok (.iconst (-1), 1) := by decide +kernel
theorem dX11_plain_33 : decode cX11_plain 33 = .ok (.iastore, 1) := by decide +kernel
theorem dX11_plain_34 : decode cX11_plain 34 = .ok (.return_, 1) := by decide +kernel
set_option maxHeartbeats 4000000 in
set_option maxRecDepth 100000 in
theorem ctX11_plain {p1 : Int} {σ : jq_M} {σ' : jq_M}  (h : X11_plain p1 σ = some σ') : jq_MC jq_zM yX11_plain cX11_plain 3 none 1 40 [jR 0, jI p1] σ none σ' := by
  refine jq_met (own := RX11) (L0 := [(0, jR 0), (1, jI p1)]) (by decide) rfl rfl rfl ?_
  intro X Γ hnl hlY hRT
  refine jq_use2 (P := fun r => jq_RT jq_zM X none none r) ?_ h hRT
  intro K0 hK0
  unfold X11_plain
  refine jq_iconst Γ dX11_plain_0 rfl ?_
  refine jq_istore_n (L' := [(2, jI 0), (0, jR 0), (1, jI p1)]) Γ dX11_plain_1 rfl hnl rfl rfl ?_
  refine jq_sub Γ (L' := [(0, jR 0), (1, jI p1), (2, jI 0)]) [1, 2, 0] rfl ?_
  refine jq_loop2 (C := fun (t1 : Int × jq_M) => jq_V jq_zM X (jq_zN jq_zM) t1.2 2 [(0, jR 0), (1, jI p1), (2, jI t1.1)] []) (KX := fun (e4 : jq_M) => jq_V jq_zM X (jq_zN jq_zM) e4 24 [(0, jR 0), (1, jI p1)] []) ?_ ?_ (0, σ)
  · intro K2_t1 hCt1 hXt1 t1
    unfold X11_plain_b2
    refine jq_iload_n Γ dX11_plain_2 rfl 2 rfl ?_
    refine jq_sipush Γ dX11_plain_3 rfl ?_
    refine jq_icmp_ge (tgt := 24) Γ dX11_plain_6 rfl ?_ ?_
    · refine jq_sub Γ (L' := [(0, jR 0), (1, jI p1)]) [0, 1] rfl ?_
      exact jq_done (hXt1 t1.2)
    · refine jq_aload_n Γ dX11_plain_9 rfl 0 rfl (jq_at_0 at_M_0) ?_
      refine jq_getR (v := 1) Γ hlY at_M_0 fl_RX11_7 rfl rfl ly_X11_at dX11_plain_10 ?_
      refine jq_iload_n Γ dX11_plain_13 rfl 1 rfl ?_
      refine jq_iload_n Γ dX11_plain_14 rfl 2 rfl ?_
      refine jq_iadd Γ dX11_plain_15 ?_
      refine jq_iconst Γ dX11_plain_16 rfl ?_
      refine jq_iast Γ at_M_1 rfl dX11_plain_17 (fun s2 => ?_)
      refine jq_iincN (L' := fun v3 => [(2, jI v3), (0, jR 0), (1, jI p1)]) Γ dX11_plain_18 2 rfl hnl rfl (fun _ => rfl) (fun v3 => ?_)
      refine jq_goto Γ (tgt := 2) dX11_plain_21 rfl ?_
      refine jq_sub Γ (L' := [(0, jR 0), (1, jI p1), (2, jI v3)]) [1, 2, 0] rfl ?_
      exact jq_done (hCt1 (v3, s2))
  · intro e4
    refine jq_aload_n Γ dX11_plain_24 rfl 0 rfl (jq_at_0 at_M_0) ?_
    refine jq_getR (v := 1) Γ hlY at_M_0 fl_RX11_7 rfl rfl ly_X11_at dX11_plain_25 ?_
    refine jq_iload_n Γ dX11_plain_28 rfl 1 rfl ?_
    refine jq_bipush Γ dX11_plain_29 rfl ?_
    refine jq_iadd Γ dX11_plain_31 ?_
    refine jq_iconst Γ dX11_plain_32 rfl ?_
    refine jq_iast Γ at_M_1 rfl dX11_plain_33 (fun s5 => ?_)
    exact jq_vreturn Γ dX11_plain_34 (hK0 _)


theorem dX11_status_0 : decode cX11_status 0 = .ok (.aload_n 0, 1) := by decide +kernel
theorem dX11_status_1 : decode cX11_status 1 = .ok (.getfield 78, 3) := by decide +kernel
theorem dX11_status_4 : decode cX11_status 4 = .ok (.ireturn, 1) := by decide +kernel
set_option maxHeartbeats 4000000 in
set_option maxRecDepth 100000 in
theorem ctX11_status  {σ : jq_M} {res : Int}  (h : X11_status σ = some res) : jq_MC jq_zM yX11_status cX11_status 1 (some .int) 1 40 [jR 0] σ (some (jI res)) σ := by
  refine jq_met (own := RX11) (L0 := [(0, jR 0)]) (by decide) rfl rfl rfl ?_
  intro X Γ hnl hlY hRT
  refine jq_use2 (P := fun r => jq_RT jq_zM X (some .int) (some (jI r)) σ) ?_ h hRT
  intro K0 hK0
  unfold X11_status
  refine jq_aload_n Γ dX11_status_0 rfl 0 rfl (jq_at_0 at_M_0) ?_
  refine jq_getI (J := 2) Γ at_M_0 fl_RX11_78 rfl rfl dX11_status_1 ?_
  exact jq_ireturn Γ dX11_status_4 (hK0 _)


theorem dX11_top_0 : decode cX11_top 0 = .ok (.aload_n 0, 1) := by decide +kernel
theorem dX11_top_1 : decode cX11_top 1 = .ok (.getfield 81, 3) := by decide +kernel
theorem dX11_top_4 : decode cX11_top 4 = .ok (.lreturn, 1) := by decide +kernel
set_option maxHeartbeats 4000000 in
set_option maxRecDepth 100000 in
theorem ctX11_top  {σ : jq_M} {res : Int}  (h : X11_top σ = some res) : jq_MC jq_zM yX11_top cX11_top 1 (some .long) 1 40 [jR 0] σ (some (jL res)) σ := by
  refine jq_met (own := RX11) (L0 := [(0, jR 0)]) (by decide) rfl rfl rfl ?_
  intro X Γ hnl hlY hRT
  refine jq_use2 (P := fun r => jq_RT jq_zM X (some .long) (some (jL r)) σ) ?_ h hRT
  intro K0 hK0
  unfold X11_top
  refine jq_aload_n Γ dX11_top_0 rfl 0 rfl (jq_at_0 at_M_0) ?_
  refine jq_getL (J := 3) Γ at_M_0 fl_RX11_81 rfl rfl dX11_top_1 ?_
  exact jq_lreturn Γ dX11_top_4 (hK0 _)


theorem dX11_bottom_0 : decode cX11_bottom 0 = .ok (.aload_n 0, 1) := by decide +kernel
theorem dX11_bottom_1 : decode cX11_bottom 1 = .ok (.getfield 17, 3) := by decide +kernel
theorem dX11_bottom_4 : decode cX11_bottom 4 = .ok (.lreturn, 1) := by decide +kernel
set_option maxHeartbeats 4000000 in
set_option maxRecDepth 100000 in
theorem ctX11_bottom  {σ : jq_M} {res : Int}  (h : X11_bottom σ = some res) : jq_MC jq_zM yX11_bottom cX11_bottom 1 (some .long) 1 40 [jR 0] σ (some (jL res)) σ := by
  refine jq_met (own := RX11) (L0 := [(0, jR 0)]) (by decide) rfl rfl rfl ?_
  intro X Γ hnl hlY hRT
  refine jq_use2 (P := fun r => jq_RT jq_zM X (some .long) (some (jL r)) σ) ?_ h hRT
  intro K0 hK0
  unfold X11_bottom
  refine jq_aload_n Γ dX11_bottom_0 rfl 0 rfl (jq_at_0 at_M_0) ?_
  refine jq_getL (J := 4) Γ at_M_0 fl_RX11_17 rfl rfl dX11_bottom_1 ?_
  exact jq_lreturn Γ dX11_bottom_4 (hK0 _)


theorem dX11_is_0 : decode cX11_is 0 = .ok (.aload_n 0, 1) := by decide +kernel
theorem dX11_is_1 : decode cX11_is 1 = .ok (.iload_n 1, 1) := by decide +kernel
theorem dX11_is_2 : decode cX11_is 2 = .ok (.putfield 78, 3) := by decide +kernel
theorem dX11_is_5 : decode cX11_is 5 = .ok (.iload_n 1, 1) := by decide +kernel
theorem dX11_is_6 : decode cX11_is 6 = .ok (.ifCond .ne 7, 3) := by decide +kernel
theorem dX11_is_9 : decode cX11_is 9 = .ok (.iconst 1, 1) := by decide +kernel
theorem dX11_is_10 : decode cX11_is 10 = .ok (.goto 4, 3) := by decide +kernel
theorem dX11_is_13 : decode cX11_is 13 = .ok (.iconst 0, 1) := by decide +kernel
theorem dX11_is_14 : decode cX11_is 14 = .ok (.ireturn, 1) := by decide +kernel
set_option maxHeartbeats 4000000 in
set_option maxRecDepth 100000 in
theorem ctX11_is {p1 : Int} {σ : jq_M} {res : Int} {σ' : jq_M}  (h : X11_is p1 σ = some (res, σ')) : jq_MC jq_zM yX11_is cX11_is 2 (some .boolean) 1 40 [jR 0, jI p1] σ (some (jI res)) σ' := by
  refine jq_met (own := RX11) (L0 := [(0, jR 0), (1, jI p1)]) (by decide) rfl rfl rfl ?_
  intro X Γ hnl hlY hRT
  refine jq_use2 (P := fun r => jq_RT jq_zM X (some .boolean) (some (jI r.1)) r.2) ?_ h hRT
  intro K0 hK0
  unfold X11_is
  refine jq_aload_n Γ dX11_is_0 rfl 0 rfl (jq_at_0 at_M_0) ?_
  refine jq_iload_n Γ dX11_is_1 rfl 1 rfl ?_
  refine jq_putI Γ at_M_0 fl_RX11_78 rfl rfl dX11_is_2 (fun s1 => ?_)
  refine jq_iload_n Γ dX11_is_5 rfl 1 rfl ?_
  refine jq_if_ne (tgt := 13) Γ dX11_is_6 rfl ?_ ?_
  · refine jq_iconst Γ dX11_is_13 rfl ?_
    exact jq_zreturn Γ (Or.inl rfl) dX11_is_14 (hK0 _)
  · refine jq_iconst Γ dX11_is_9 rfl ?_
    refine jq_goto Γ (tgt := 14) dX11_is_10 rfl ?_
    exact jq_zreturn Γ (Or.inr rfl) dX11_is_14 (hK0 _)


theorem dX11_refuse_0 : decode cX11_refuse 0 = .ok (.aload_n 0, 1) := by decide +kernel
theorem dX11_refuse_1 : decode cX11_refuse 1 = .ok (.iload_n 1, 1) := by decide +kernel
theorem dX11_refuse_2 : decode cX11_refuse 2 = .ok (.putfield 78, 3) := by decide +kernel
theorem dX11_refuse_5 : decode cX11_refuse 5 = .ok (.iconst (-1), 1) := by decide +kernel
theorem dX11_refuse_6 : decode cX11_refuse 6 = .ok (.ireturn, 1) := by decide +kernel
set_option maxHeartbeats 4000000 in
set_option maxRecDepth 100000 in
theorem ctX11_refuse {p1 : Int} {σ : jq_M} {res : Int} {σ' : jq_M}  (h : X11_refuse p1 σ = some (res, σ')) : jq_MC jq_zM yX11_refuse cX11_refuse 2 (some .int) 1 40 [jR 0, jI p1] σ (some (jI res)) σ' := by
  refine jq_met (own := RX11) (L0 := [(0, jR 0), (1, jI p1)]) (by decide) rfl rfl rfl ?_
  intro X Γ hnl hlY hRT
  refine jq_use2 (P := fun r => jq_RT jq_zM X (some .int) (some (jI r.1)) r.2) ?_ h hRT
  intro K0 hK0
  unfold X11_refuse
  refine jq_aload_n Γ dX11_refuse_0 rfl 0 rfl (jq_at_0 at_M_0) ?_
  refine jq_iload_n Γ dX11_refuse_1 rfl 1 rfl ?_
  refine jq_putI Γ at_M_0 fl_RX11_78 rfl rfl dX11_refuse_2 (fun s1 => ?_)
  refine jq_iconst Γ dX11_refuse_5 rfl ?_
  exact jq_ireturn Γ dX11_refuse_6 (hK0 _)


theorem dX11_gives_0 : decode cX11_gives 0 = .ok (.aload_n 0, 1) := by decide +kernel
theorem dX11_gives_1 : decode cX11_gives 1 = .ok (.iconst 0, 1) := by decide +kernel
theorem dX11_gives_2 : decode cX11_gives 2 = .ok (.putfield 78, 3) := by decide +kernel
theorem dX11_gives_5 : decode cX11_gives 5 = .ok (.iload_n 1, 1) := by decide +kernel
theorem dX11_gives_6 : decode cX11_gives 6 = .ok (.ireturn, 1) := by decide +kernel
set_option maxHeartbeats 4000000 in
set_option maxRecDepth 100000 in
theorem ctX11_gives {p1 : Int} {σ : jq_M} {res : Int} {σ' : jq_M}  (h : X11_gives p1 σ = some (res, σ')) : jq_MC jq_zM yX11_gives cX11_gives 2 (some .int) 1 40 [jR 0, jI p1] σ (some (jI res)) σ' := by
  refine jq_met (own := RX11) (L0 := [(0, jR 0), (1, jI p1)]) (by decide) rfl rfl rfl ?_
  intro X Γ hnl hlY hRT
  refine jq_use2 (P := fun r => jq_RT jq_zM X (some .int) (some (jI r.1)) r.2) ?_ h hRT
  intro K0 hK0
  unfold X11_gives
  refine jq_aload_n Γ dX11_gives_0 rfl 0 rfl (jq_at_0 at_M_0) ?_
  refine jq_iconst Γ dX11_gives_1 rfl ?_
  refine jq_putI Γ at_M_0 fl_RX11_78 rfl rfl dX11_gives_2 (fun s1 => ?_)
  refine jq_iload_n Γ dX11_gives_5 rfl 1 rfl ?_
  exact jq_ireturn Γ dX11_gives_6 (hK0 _)


theorem dX11_orNone_0 : decode cX11_orNone 0 = .ok (.iload_n 1, 1) := by decide +kernel
theorem dX11_orNone_1 : decode cX11_orNone 1 = .ok (.iconst (-1), 1) := by decide +kernel
theorem dX11_orNone_2 : decode cX11_orNone 2 = .ok (.if_icmp .ne 12, 3) := by decide +kernel
theorem dX11_orNone_5 : decode cX11_orNone 5 = .ok (.aload_n 0, 1) := by decide +kernel
theorem dX11_orNone_6 : decode cX11_orNone 6 = .ok (.bipush 6, 2) := by decide +kernel
theorem dX11_orNone_8 : decode cX11_orNone 8 = .ok (.invokevirtual 84, 3) := by decide +kernel
theorem dX11_orNone_11 : decode cX11_orNone 11 = .ok (.goto 8, 3) := by decide +kernel
theorem dX11_orNone_14 : decode cX11_orNone 14 = .ok (.aload_n 0, 1) := by decide +kernel
theorem dX11_orNone_15 : decode cX11_orNone 15 = .ok (.iload_n 1, 1) := by decide +kernel
theorem dX11_orNone_16 : decode cX11_orNone 16 = .ok (.invokevirtual 88, 3) := by decide +kernel
theorem dX11_orNone_19 : decode cX11_orNone 19 = .ok (.ireturn, 1) := by decide +kernel
set_option maxHeartbeats 4000000 in
set_option maxRecDepth 100000 in
theorem ctX11_orNone {p1 : Int} {σ : jq_M} {res : Int} {σ' : jq_M}  (h : X11_orNone p1 σ = some (res, σ')) : jq_MC jq_zM yX11_orNone cX11_orNone 2 (some .int) 2 61 [jR 0, jI p1] σ (some (jI res)) σ' := by
  refine jq_met (own := RX11) (L0 := [(0, jR 0), (1, jI p1)]) (by decide) rfl rfl rfl ?_
  intro X Γ hnl hlY hRT
  refine jq_use2 (P := fun r => jq_RT jq_zM X (some .int) (some (jI r.1)) r.2) ?_ h hRT
  intro K0 hK0
  unfold X11_orNone
  refine jq_iload_n Γ dX11_orNone_0 rfl 1 rfl ?_
  refine jq_iconst Γ dX11_orNone_1 rfl ?_
  refine jq_icmp_ne (tgt := 14) Γ dX11_orNone_2 rfl ?_ ?_
  · refine jq_aload_n Γ dX11_orNone_14 rfl 0 rfl (jq_at_0 at_M_0) ?_
    refine jq_iload_n Γ dX11_orNone_15 rfl 1 rfl ?_
    refine jq_cwI (jq_virt (avs := [jI p1]) (st := []) Γ hlY rfl ml_RX11_88 rfl at_M_0 rfl rfl rfl rfl rfl dX11_orNone_16) (fun r σ' h => ctX11_gives h) (fun v1 s2 => ?_)
    exact jq_ireturn Γ dX11_orNone_19 (hK0 _)
  · refine jq_aload_n Γ dX11_orNone_5 rfl 0 rfl (jq_at_0 at_M_0) ?_
    refine jq_bipush Γ dX11_orNone_6 rfl ?_
    refine jq_cwI (jq_virt (avs := [jI 6]) (st := []) Γ hlY rfl ml_RX11_84 rfl at_M_0 rfl rfl rfl rfl rfl dX11_orNone_8) (fun r σ' h => ctX11_refuse h) (fun v3 s4 => ?_)
    refine jq_goto Γ (tgt := 19) dX11_orNone_11 rfl ?_
    exact jq_ireturn Γ dX11_orNone_19 (hK0 _)


theorem dX11_tellsBy_0 : decode cX11_tellsBy 0 = .ok (.lload_n 1, 1) := by decide +kernel
theorem dX11_tellsBy_1 : decode cX11_tellsBy 1 = .ok (.lconst 0, 1) := by decide +kernel
theorem dX11_tellsBy_2 : decode cX11_tellsBy 2 = .ok (.lcmp, 1) := by decide +kernel
theorem dX11_tellsBy_3 : decode cX11_tellsBy 3 = .ok (.ifCond .ge 8, 3) := by decide +kernel
theorem dX11_tellsBy_6 : decode cX11_tellsBy 6 = .ok (.lload_n 1, 1) := by decide +kernel
theorem dX11_tellsBy_7 : decode cX11_tellsBy 7 = .ok (.lneg, 1) := by decide +kernel
theorem dX11_tellsBy_8 : decode cX11_tellsBy 8 = .ok (.goto 4, 3) := by decide +kernel
theorem dX11_tellsBy_11 : decode cX11_tellsBy 11 = .ok (.lload_n 1, 1) := by decide +kernel
theorem dX11_tellsBy_12 : decode cX11_tellsBy 12 = .ok (.lstore 5, 2) := by decide +kernel
theorem dX11_tellsBy_14 : decode cX11_tellsBy 14 = .ok (.lload_n 3, 1) := by decide +kernel
theorem dX11_tellsBy_15 : decode cX11_tellsBy 15 = .ok (.lstore 7, 2) := by decide +kernel
theorem dX11_tellsBy_17 : decode cX11_tellsBy 17 = .ok (.lload 7, 2) := by decide +kernel
theorem dX11_tellsBy_19 : decode cX11_tellsBy 19 = .ok (.lconst 0, 1) := by decide +kernel
theorem dX11_tellsBy_20 : decode cX11_tellsBy 20 = .ok (.lcmp, 1) := by decide +kernel
theorem dX11_tellsBy_21 : decode cX11_tellsBy 21 = .ok (.ifCond .eq 21, 3) := by decide +kernel
theorem dX11_tellsBy_24 : decode cX11_tellsBy 24 = .ok (.lload 5, 2) := by decide +kernel
theorem dX11_tellsBy_26 : decode cX11_tellsBy 26 = .ok (.lload 7, 2) := by decide +kernel
theorem dX11_tellsBy_28 : decode cX11_tellsBy 28 = .ok (.lrem, 1) := by decide +kernel
theorem dX11_tellsBy_29 : decode cX11_tellsBy 29 = .ok (.lstore 9, 2) := by decide +kernel
theorem dX11_tellsBy_31 : decode cX11_tellsBy 31 = .ok (.lload 7, 2) := by decide +kernel
theorem dX11_tellsBy_33 : decode cX11_tellsBy 33 = .ok (.lstore 5, 2) := by decide +kernel
theorem dX11_tellsBy_35 : decode cX11_tellsBy 35 = .ok (.lload 9, 2) := by decide +kernel
theorem dX11_tellsBy_37 : decode cX11_tellsBy 37 = .ok (.lstore 7, 2) := by decide +kernel
theorem dX11_tellsBy_39 : decode cX11_tellsBy 39 = .ok (.goto (-22), 3) := by decide +kernel
theorem dX11_tellsBy_42 : decode cX11_tellsBy 42 = .ok (.aload_n 0, 1) := by decide +kernel
theorem dX11_tellsBy_43 : decode cX11_tellsBy 43 = .ok (.lload_n 1, 1) := by decide +kernel
theorem dX11_tellsBy_44 : decode cX11_tellsBy 44 = .ok (.lload 5, 2) := by decide +kernel
theorem dX11_tellsBy_46 : decode cX11_tellsBy 46 = .ok (.ldiv, 1) := by decide +kernel
theorem dX11_tellsBy_47 : decode cX11_tellsBy 47 = .ok (.putfield 81, 3) := by decide +kernel
theorem dX11_tellsBy_50 : decode cX11_tellsBy 50 = .ok (.aload_n 0, 1) := by decide +kernel
theorem dX11_tellsBy_51 : decode cX11_tellsBy 51 = .ok (.lload_n 3, 1) := by decide +kernel
theorem dX11_tellsBy_52 : decode cX11_tellsBy 52 = .ok (.lload 5, 2) := by decide +kernel
theorem dX11_tellsBy_54 : decode cX11_tellsBy 54 = .ok (.ldiv, 1) := by decide +kernel
theorem dX11_tellsBy_55 : decode cX11_tellsBy 55 = .ok (.putfield 17, 3) := by decide +kernel
theorem dX11_tellsBy_58 : decode cX11_tellsBy 58 = .ok (.aload_n 0, 1) := by decide +kernel
theorem dX11_tellsBy_59 : decode cX11_tellsBy 59 = .ok (.iconst 0, 1) := by decide +kernel
theorem dX11_tellsBy_60 : decode cX11_tellsBy 60 = .ok (.invokevirtual 91, 3) := by decide +kernel
theorem dX11_tellsBy_63 : decode cX11_tellsBy 63 = .ok (.ireturn, 1) := by decide +kernel
set_option maxHeartbeats 4000000 in
set_option maxRecDepth 100000 in
theorem ctX11_tellsBy {p1 : Int} {p3 : Int} {σ : jq_M} {res : Int} {σ' : jq_M}  (h : X11_tellsBy p1 p3 σ = some (res, σ')) : jq_MC jq_zM yX11_tellsBy cX11_tellsBy 11 (some .boolean) 2 61 [jR 0, jL p1, jL p3] σ (some (jI res)) σ' := by
  refine jq_met (own := RX11) (L0 := [(0, jR 0), (1, jL p1), (3, jL p3)]) (by decide) rfl rfl rfl ?_
  intro X Γ hnl hlY hRT
  refine jq_use2 (P := fun r => jq_RT jq_zM X (some .boolean) (some (jI r.1)) r.2) ?_ h hRT
  intro K0 hK0
  unfold X11_tellsBy
  have hj12_0 : ∀ (j1 : Int) (s2 : jq_M), jq_J (X11_tellsBy_j12 p1 p3 j1 s2) K0 (jq_V jq_zM X (jq_zN jq_zM) s2 12 [(0, jR 0), (1, jL p1), (3, jL p3)] [jL j1]) := by
    intro j1 s2
    unfold X11_tellsBy_j12
    refine jq_lstore (L' := [(5, jL j1), (0, jR 0), (1, jL p1), (3, jL p3)]) Γ dX11_tellsBy_12 hnl rfl rfl ?_
    refine jq_lload_n Γ dX11_tellsBy_14 rfl 3 rfl ?_
    refine jq_lstore (L' := [(7, jL p3), (5, jL j1), (0, jR 0), (1, jL p1), (3, jL p3)]) Γ dX11_tellsBy_15 hnl rfl rfl ?_
    refine jq_sub Γ (L' := [(0, jR 0), (1, jL p1), (3, jL p3), (5, jL j1), (7, jL p3)]) [2, 3, 4, 1, 0] rfl ?_
    refine jq_loop2 (C := fun (t3 : Int × Int) => jq_V jq_zM X (jq_zN jq_zM) s2 17 [(0, jR 0), (1, jL p1), (3, jL p3), (5, jL t3.1), (7, jL t3.2)] []) (KX := fun (e5 : Int) => jq_V jq_zM X (jq_zN jq_zM) s2 42 [(0, jR 0), (1, jL p1), (3, jL p3), (5, jL e5)] []) ?_ ?_ (j1, p3)
    · intro K17_t3 hCt3 hXt3 t3
      unfold X11_tellsBy_b17
      refine jq_lload Γ dX11_tellsBy_17 4 rfl ?_
      refine jq_lconst Γ 0 dX11_tellsBy_19 rfl rfl ?_
      refine jq_lcmp Γ dX11_tellsBy_20 ?_
      refine jq_if_eq (tgt := 42) Γ dX11_tellsBy_21 rfl ?_ ?_
      · refine jq_sub Γ (L' := [(0, jR 0), (1, jL p1), (3, jL p3), (5, jL t3.1)]) [0, 1, 2, 3] rfl ?_
        exact jq_done (hXt3 t3.1)
      · refine jq_lload Γ dX11_tellsBy_24 3 rfl ?_
        refine jq_lload Γ dX11_tellsBy_26 4 rfl ?_
        refine jq_lremR Γ dX11_tellsBy_28 (fun v4 => ?_)
        refine jq_lstore (L' := [(9, jL v4), (0, jR 0), (1, jL p1), (3, jL p3), (5, jL t3.1), (7, jL t3.2)]) Γ dX11_tellsBy_29 hnl rfl rfl ?_
        refine jq_lload Γ dX11_tellsBy_31 5 rfl ?_
        refine jq_lstore (L' := [(5, jL t3.2), (9, jL v4), (0, jR 0), (1, jL p1), (3, jL p3), (7, jL t3.2)]) Γ dX11_tellsBy_33 hnl rfl rfl ?_
        refine jq_lload Γ dX11_tellsBy_35 1 rfl ?_
        refine jq_lstore (L' := [(7, jL v4), (5, jL t3.2), (9, jL v4), (0, jR 0), (1, jL p1), (3, jL p3)]) Γ dX11_tellsBy_37 hnl rfl rfl ?_
        refine jq_goto Γ (tgt := 17) dX11_tellsBy_39 rfl ?_
        refine jq_sub Γ (L' := [(0, jR 0), (1, jL p1), (3, jL p3), (5, jL t3.2), (7, jL v4)]) [3, 4, 5, 1, 0] rfl ?_
        exact jq_done (hCt3 (t3.2, v4))
    · intro e5
      refine jq_aload_n Γ dX11_tellsBy_42 rfl 0 rfl (jq_at_0 at_M_0) ?_
      refine jq_lload_n Γ dX11_tellsBy_43 rfl 1 rfl ?_
      refine jq_lload Γ dX11_tellsBy_44 3 rfl ?_
      refine jq_ldivR Γ dX11_tellsBy_46 (fun v6 => ?_)
      refine jq_putL Γ at_M_0 fl_RX11_81 rfl rfl dX11_tellsBy_47 (fun s7 => ?_)
      refine jq_aload_n Γ dX11_tellsBy_50 rfl 0 rfl (jq_at_0 at_M_0) ?_
      refine jq_lload_n Γ dX11_tellsBy_51 rfl 2 rfl ?_
      refine jq_lload Γ dX11_tellsBy_52 3 rfl ?_
      refine jq_ldivR Γ dX11_tellsBy_54 (fun v8 => ?_)
      refine jq_putL Γ at_M_0 fl_RX11_17 rfl rfl dX11_tellsBy_55 (fun s9 => ?_)
      refine jq_aload_n Γ dX11_tellsBy_58 rfl 0 rfl (jq_at_0 at_M_0) ?_
      refine jq_iconst Γ dX11_tellsBy_59 rfl ?_
      refine jq_cwZ (jq_virt (avs := [jI 0]) (st := []) Γ hlY rfl ml_RX11_91 rfl at_M_0 rfl rfl rfl rfl rfl dX11_tellsBy_60) rfl (fun r σ' h => ctX11_is h) (fun v10 s11 hz12 => ?_)
      exact jq_zreturn Γ (hz12) dX11_tellsBy_63 (hK0 _)
  refine jq_lload_n Γ dX11_tellsBy_0 rfl 1 rfl ?_
  refine jq_lconst Γ 0 dX11_tellsBy_1 rfl rfl ?_
  refine jq_lcmp Γ dX11_tellsBy_2 ?_
  refine jq_if_ge (tgt := 11) Γ dX11_tellsBy_3 rfl ?_ ?_
  · refine jq_lload_n Γ dX11_tellsBy_11 rfl 1 rfl ?_
    exact hj12_0 p1 σ
  · refine jq_lload_n Γ dX11_tellsBy_6 rfl 1 rfl ?_
    refine jq_lneg Γ dX11_tellsBy_7 ?_
    refine jq_goto Γ (tgt := 12) dX11_tellsBy_8 rfl ?_
    exact hj12_0 (jq_w64 (-p1)) σ


theorem dX11_isTray_0 : decode cX11_isTray 0 = .ok (.iload_n 0, 1) := by decide +kernel
theorem dX11_isTray_1 : decode cX11_isTray 1 = .ok (.ifCond .lt 12, 3) := by decide +kernel
theorem dX11_isTray_4 : decode cX11_isTray 4 = .ok (.iload_n 0, 1) := by decide +kernel
theorem dX11_isTray_5 : decode cX11_isTray 5 = .ok (.iconst 4, 1) := by decide +kernel
theorem dX11_isTray_6 : decode cX11_isTray 6 = .ok (.if_icmp .ge 7, 3) := by decide +kernel
theorem dX11_isTray_9 : decode cX11_isTray 9 = .ok (.iconst 1, 1) := by decide +kernel
theorem dX11_isTray_10 : decode cX11_isTray 10 = .ok (.goto 4, 3) := by decide +kernel
theorem dX11_isTray_13 : decode cX11_isTray 13 = .ok (.iconst 0, 1) := by decide +kernel
theorem dX11_isTray_14 : decode cX11_isTray 14 = .ok (.ireturn, 1) := by decide +kernel
set_option maxHeartbeats 4000000 in
set_option maxRecDepth 100000 in
theorem ctX11_isTray {p0 : Int} {σ : jq_M} {res : Int}  (h : X11_isTray p0 σ = some res) : jq_MC jq_zM yX11_isTray cX11_isTray 1 (some .boolean) 1 40 [jI p0] σ (some (jI res)) σ := by
  refine jq_met (own := RX11) (L0 := [(0, jI p0)]) (by decide) rfl rfl rfl ?_
  intro X Γ hnl hlY hRT
  refine jq_use2 (P := fun r => jq_RT jq_zM X (some .boolean) (some (jI r)) σ) ?_ h hRT
  intro K0 hK0
  unfold X11_isTray
  refine jq_iload_n Γ dX11_isTray_0 rfl 0 rfl ?_
  refine jq_if_lt (tgt := 13) Γ dX11_isTray_1 rfl ?_ ?_
  · refine jq_iconst Γ dX11_isTray_13 rfl ?_
    exact jq_zreturn Γ (Or.inl rfl) dX11_isTray_14 (hK0 _)
  · refine jq_iload_n Γ dX11_isTray_4 rfl 0 rfl ?_
    refine jq_iconst Γ dX11_isTray_5 rfl ?_
    refine jq_icmp_ge (tgt := 13) Γ dX11_isTray_6 rfl ?_ ?_
    · refine jq_iconst Γ dX11_isTray_13 rfl ?_
      exact jq_zreturn Γ (Or.inl rfl) dX11_isTray_14 (hK0 _)
    · refine jq_iconst Γ dX11_isTray_9 rfl ?_
      refine jq_goto Γ (tgt := 14) dX11_isTray_10 rfl ?_
      exact jq_zreturn Γ (Or.inr rfl) dX11_isTray_14 (hK0 _)


theorem dX11_cut_0 : decode cX11_cut 0 = .ok (.iload_n 2, 1) := by decide +kernel
theorem dX11_cut_1 : decode cX11_cut 1 = .ok (.ifCond .ne 10, 3) := by decide +kernel
theorem dX11_cut_4 : decode cX11_cut 4 = .ok (.lload_n 0, 1) := by decide +kernel
theorem dX11_cut_5 : decode cX11_cut 5 = .ok (.l2i, 1) := by decide +kernel
theorem dX11_cut_6 : decode cX11_cut 6 = .ok (.i2b, 1) := by decide +kernel
theorem dX11_cut_7 : decode cX11_cut 7 = .ok (.i2l, 1) := by decide +kernel
theorem dX11_cut_8 : decode cX11_cut 8 = .ok (.goto 27, 3) := by decide +kernel
theorem dX11_cut_11 : decode cX11_cut 11 = .ok (.iload_n 2, 1) := by decide +kernel
theorem dX11_cut_12 : decode cX11_cut 12 = .ok (.iconst 1, 1) := by decide +kernel
theorem dX11_cut_13 : decode cX11_cut 13 = .ok (.if_icmp .ne 10, 3) := by decide +kernel
theorem dX11_cut_16 : decode cX11_cut 16 = .ok (.lload_n 0, 1) := by decide +kernel
theorem dX11_cut_17 : decode cX11_cut 17 = .ok (.l2i, 1) := by decide +kernel
theorem dX11_cut_18 : decode cX11_cut 18 = .ok (.i2s, 1) := by decide +kernel
theorem dX11_cut_19 : decode cX11_cut 19 = .ok (.i2l, 1) := by decide +kernel
theorem dX11_cut_20 : decode cX11_cut 20 = .ok (.goto 15, 3) := by decide +kernel
theorem dX11_cut_23 : decode cX11_cut 23 = .ok (.iload_n 2, 1) := by decide +kernel
theorem dX11_cut_24 : decode cX11_cut 24 = .ok (.iconst 2, 1) := by decide +kernel
theorem dX11_cut_25 : decode cX11_cut 25 = .ok (.if_icmp .ne 9, 3) := by decide +kernel
theorem dX11_cut_28 : decode cX11_cut 28 = .ok (.lload_n 0, 1) := by decide +kernel
theorem dX11_cut_29 : decode cX11_cut 29 = .ok (.l2i, 1) := by decide +kernel
theorem dX11_cut_30 : decode cX11_cut 30 = .ok (.i2l, 1) := by decide +kernel
theorem dX11_cut_31 : decode cX11_cut 31 = .ok (.goto 4, 3) := by decide +kernel
theorem dX11_cut_34 : decode cX11_cut 34 = .ok (.lload_n 0, 1) := by decide +kernel
theorem dX11_cut_35 : decode cX11_cut 35 = .ok (.lreturn, 1) := by decide +kernel
set_option maxHeartbeats 4000000 in
set_option maxRecDepth 100000 in
theorem ctX11_cut {p0 : Int} {p2 : Int} {σ : jq_M} {res : Int}  (h : X11_cut p0 p2 σ = some res) : jq_MC jq_zM yX11_cut cX11_cut 3 (some .long) 1 40 [jL p0, jI p2] σ (some (jL res)) σ := by
  refine jq_met (own := RX11) (L0 := [(0, jL p0), (2, jI p2)]) (by decide) rfl rfl rfl ?_
  intro X Γ hnl hlY hRT
  refine jq_use2 (P := fun r => jq_RT jq_zM X (some .long) (some (jL r)) σ) ?_ h hRT
  intro K0 hK0
  unfold X11_cut
  refine jq_iload_n Γ dX11_cut_0 rfl 1 rfl ?_
  refine jq_if_ne (tgt := 11) Γ dX11_cut_1 rfl ?_ ?_
  · refine jq_iload_n Γ dX11_cut_11 rfl 1 rfl ?_
    refine jq_iconst Γ dX11_cut_12 rfl ?_
    refine jq_icmp_ne (tgt := 23) Γ dX11_cut_13 rfl ?_ ?_
    · refine jq_iload_n Γ dX11_cut_23 rfl 1 rfl ?_
      refine jq_iconst Γ dX11_cut_24 rfl ?_
      refine jq_icmp_ne (tgt := 34) Γ dX11_cut_25 rfl ?_ ?_
      · refine jq_lload_n Γ dX11_cut_34 rfl 0 rfl ?_
        exact jq_lreturn Γ dX11_cut_35 (hK0 _)
      · refine jq_lload_n Γ dX11_cut_28 rfl 0 rfl ?_
        refine jq_l2i Γ dX11_cut_29 ?_
        refine jq_i2l Γ dX11_cut_30 ?_
        refine jq_goto Γ (tgt := 35) dX11_cut_31 rfl ?_
        exact jq_lreturn Γ dX11_cut_35 (hK0 _)
    · refine jq_lload_n Γ dX11_cut_16 rfl 0 rfl ?_
      refine jq_l2i Γ dX11_cut_17 ?_
      refine jq_i2s Γ dX11_cut_18 ?_
      refine jq_i2l Γ dX11_cut_19 ?_
      refine jq_goto Γ (tgt := 35) dX11_cut_20 rfl ?_
      exact jq_lreturn Γ dX11_cut_35 (hK0 _)
  · refine jq_lload_n Γ dX11_cut_4 rfl 0 rfl ?_
    refine jq_l2i Γ dX11_cut_5 ?_
    refine jq_i2b Γ dX11_cut_6 ?_
    refine jq_i2l Γ dX11_cut_7 ?_
    refine jq_goto Γ (tgt := 35) dX11_cut_8 rfl ?_
    exact jq_lreturn Γ dX11_cut_35 (hK0 _)


theorem dX11_tray_0 : decode cX11_tray 0 = .ok (.iload_n 1, 1) := by decide +kernel
theorem dX11_tray_1 : decode cX11_tray 1 = .ok (.invokestatic 95, 3) := by decide +kernel
theorem dX11_tray_4 : decode cX11_tray 4 = .ok (.ifCond .eq 22, 3) := by decide +kernel
theorem dX11_tray_7 : decode cX11_tray 7 = .ok (.iload_n 2, 1) := by decide +kernel
theorem dX11_tray_8 : decode cX11_tray 8 = .ok (.ifCond .lt 18, 3) := by decide +kernel
theorem dX11_tray_11 : decode cX11_tray 11 = .ok (.iload_n 2, 1) := by decide +kernel
theorem dX11_tray_12 : decode cX11_tray 12 = .ok (.iconst 3, 1) := by decide +kernel
theorem dX11_tray_13 : decode cX11_tray 13 = .ok (.if_icmp .gt 13, 3) := by decide +kernel
theorem dX11_tray_16 : decode cX11_tray 16 = .ok (.iload_n 3, 1) := by decide +kernel
theorem dX11_tray_17 : decode cX11_tray 17 = .ok (.ifCond .lt 9, 3) := by decide +kernel
theorem dX11_tray_20 : decode cX11_tray 20 = .ok (.iload_n 3, 1) := by decide +kernel
theorem dX11_tray_21 : decode cX11_tray 21 = .ok (.bipush 60, 2) := by decide +kernel
theorem dX11_tray_23 : decode cX11_tray 23 = .ok (.if_icmp .le 9, 3) := by decide +kernel
theorem dX11_tray_26 : decode cX11_tray 26 = .ok (.aload_n 0, 1) := by decide +kernel
theorem dX11_tray_27 : decode cX11_tray 27 = .ok (.iconst 1, 1) := by decide +kernel
theorem dX11_tray_28 : decode cX11_tray 28 = .ok (.invokevirtual 91, 3) := by decide +kernel
theorem dX11_tray_31 : decode cX11_tray 31 = .ok (.ireturn, 1) := by decide +kernel
theorem dX11_tray_32 : decode cX11_tray 32 = .ok (.aload_n 0, 1) := by decide +kernel
theorem dX11_tray_33 : decode cX11_tray 33 = .ok (.getfield 21, 3) := by decide +kernel
theorem dX11_tray_36 : decode cX11_tray 36 = .ok (.iload_n 1, 1) := by decide +kernel
theorem dX11_tray_37 : decode cX11_tray 37 = .ok (.iload_n 2, 1) := by decide +kernel
theorem dX11_tray_38 : decode cX11_tray 38 = .ok (.iastore, 1) := by decide +kernel
theorem dX11_tray_39 : decode cX11_tray 39 = .ok (.aload_n 0, 1) := by decide +kernel
theorem dX11_tray_40 : decode cX11_tray 40 = .ok (.getfield 24, 3) := by decide +kernel
theorem dX11_tray_43 : decode cX11_tray 43 = .ok (.iload_n 1, 1) := by decide +kernel
theorem dX11_tray_44 : decode cX11_tray 44 = .ok (.iload_n 3, 1) := by decide +kernel
theorem dX11_tray_45 : decode cX11_tray 45 = .ok (.iastore, 1) := by decide +kernel
theorem dX11_tray_46 : decode cX11_tray 46 = .ok (.iconst 0, 1) := by decide +kernel
theorem dX11_tray_47 : decode cX11_tray 47 = .ok (.istore 4, 2) := by decide +kernel
theorem dX11_tray_49 : decode cX11_tray 49 = .ok (.iload 4, 2) := by decide +kernel
theorem dX11_tray_51 : decode cX11_tray 51 = .ok (.iload_n 3, 1) := by decide +kernel
theorem dX11_tray_52 : decode cX11_tray 52 = .ok (.if_icmp .ge 22, 3) := by decide +kernel
theorem dX11_tray_55 : decode cX11_tray 55 = .ok (.aload_n 0, 1) := by decide +kernel
theorem dX11_tray_56 : decode cX11_tray 56 = .ok (.getfield 27, 3) := by decide +kernel
theorem dX11_tray_59 : decode cX11_tray 59 = .ok (.bipush 60, 2) := by decide +kernel
theorem dX11_tray_61 : decode cX11_tray 61 = .ok (.iload_n 1, 1) := by decide +kernel
theorem dX11_tray_62 : decode cX11_tray 62 = .ok (.imul, 1) := by decide +kernel
theorem dX11_tray_63 : decode cX11_tray 63 = .ok (.iload 4, 2) := by decide +kernel
theorem dX11_tray_65 : decode cX11_tray 65 = .ok (.iadd, 1) := by decide +kernel
theorem dX11_tray_66 : decode cX11_tray 66 = .ok (.lconst 0, 1) := by decide +kernel
theorem dX11_tray_67 : decode cX11_tray 67 = .ok (.lastore, 1) := by decide +kernel
theorem dX11_tray_68 : decode cX11_tray 68 = .ok (.iinc 4 1, 3) := by decide +kernel
theorem dX11_tray_71 : decode cX11_tray 71 = .ok (.goto (-22), 3) := by decide +kernel
theorem dX11_tray_74 : decode cX11_tray 74 = .ok (.aload_n 0, 1) := by decide +kernel
theorem dX11_tray_75 : decode cX11_tray 75 = .ok (.iconst 0, 1) := by decide +kernel
theorem dX11_tray_76 : decode cX11_tray 76 = .ok (.invokevirtual 91, 3) := by decide +kernel
theorem dX11_tray_79 : decode cX11_tray 79 = .ok (.ireturn, 1) := by decide +kernel
set_option maxHeartbeats 4000000 in
set_option maxRecDepth 100000 in
theorem ctX11_tray {p1 : Int} {p2 : Int} {p3 : Int} {σ : jq_M} {res : Int} {σ' : jq_M}  (h : X11_tray p1 p2 p3 σ = some (res, σ')) : jq_MC jq_zM yX11_tray cX11_tray 5 (some .boolean) 2 61 [jR 0, jI p1, jI p2, jI p3] σ (some (jI res)) σ' := by
  refine jq_met (own := RX11) (L0 := [(0, jR 0), (1, jI p1), (2, jI p2), (3, jI p3)]) (by decide) rfl rfl rfl ?_
  intro X Γ hnl hlY hRT
  refine jq_use2 (P := fun r => jq_RT jq_zM X (some .boolean) (some (jI r.1)) r.2) ?_ h hRT
  intro K0 hK0
  unfold X11_tray
  have hj26_0 : ∀ (s3 : jq_M), jq_J (X11_tray_j26 s3) K0 (jq_V jq_zM X (jq_zN jq_zM) s3 26 [(0, jR 0)] []) := by
    intro s3
    unfold X11_tray_j26
    refine jq_aload_n Γ dX11_tray_26 rfl 0 rfl (jq_at_0 at_M_0) ?_
    refine jq_iconst Γ dX11_tray_27 rfl ?_
    refine jq_cwZ (jq_virt (avs := [jI 1]) (st := []) Γ hlY rfl ml_RX11_91 rfl at_M_0 rfl rfl rfl rfl rfl dX11_tray_28) rfl (fun r σ' h => ctX11_is h) (fun v4 s5 hz6 => ?_)
    exact jq_zreturn Γ (hz6) dX11_tray_31 (hK0 _)
  refine jq_iload_n Γ dX11_tray_0 rfl 1 rfl ?_
  refine jq_cpZ (jq_stat (avs := [jI p1]) (st := []) Γ hlY rfl ml_RX11_95 rfl rfl rfl rfl rfl dX11_tray_1) rfl (fun r h => ctX11_isTray h) (fun v1 hz2 => ?_)
  refine jq_if_eq (tgt := 26) Γ dX11_tray_4 rfl ?_ ?_
  · refine jq_sub Γ (L' := [(0, jR 0)]) [0] rfl ?_
    exact hj26_0 σ
  · refine jq_iload_n Γ dX11_tray_7 rfl 2 rfl ?_
    refine jq_if_lt (tgt := 26) Γ dX11_tray_8 rfl ?_ ?_
    · refine jq_sub Γ (L' := [(0, jR 0)]) [0] rfl ?_
      exact hj26_0 σ
    · refine jq_iload_n Γ dX11_tray_11 rfl 2 rfl ?_
      refine jq_iconst Γ dX11_tray_12 rfl ?_
      refine jq_icmp_gt (tgt := 26) Γ dX11_tray_13 rfl ?_ ?_
      · refine jq_sub Γ (L' := [(0, jR 0)]) [0] rfl ?_
        exact hj26_0 σ
      · refine jq_iload_n Γ dX11_tray_16 rfl 3 rfl ?_
        refine jq_if_lt (tgt := 26) Γ dX11_tray_17 rfl ?_ ?_
        · refine jq_sub Γ (L' := [(0, jR 0)]) [0] rfl ?_
          exact hj26_0 σ
        · refine jq_iload_n Γ dX11_tray_20 rfl 3 rfl ?_
          refine jq_bipush Γ dX11_tray_21 rfl ?_
          refine jq_icmp_le (tgt := 32) Γ dX11_tray_23 rfl ?_ ?_
          · refine jq_aload_n Γ dX11_tray_32 rfl 0 rfl (jq_at_0 at_M_0) ?_
            refine jq_getR (v := 3) Γ hlY at_M_0 fl_RX11_21 rfl rfl ly_X11_sort dX11_tray_33 ?_
            refine jq_iload_n Γ dX11_tray_36 rfl 1 rfl ?_
            refine jq_iload_n Γ dX11_tray_37 rfl 2 rfl ?_
            refine jq_iast Γ at_M_3 rfl dX11_tray_38 (fun s7 => ?_)
            refine jq_aload_n Γ dX11_tray_39 rfl 0 rfl (jq_at_0 at_M_0) ?_
            refine jq_getR (v := 4) Γ hlY at_M_0 fl_RX11_24 rfl rfl ly_X11_trayMany dX11_tray_40 ?_
            refine jq_iload_n Γ dX11_tray_43 rfl 1 rfl ?_
            refine jq_iload_n Γ dX11_tray_44 rfl 3 rfl ?_
            refine jq_iast Γ at_M_4 rfl dX11_tray_45 (fun s8 => ?_)
            refine jq_iconst Γ dX11_tray_46 rfl ?_
            refine jq_istore (L' := [(4, jI 0), (0, jR 0), (1, jI p1), (2, jI p2), (3, jI p3)]) Γ dX11_tray_47 hnl rfl rfl ?_
            refine jq_sub Γ (L' := [(0, jR 0), (1, jI p1), (3, jI p3), (4, jI 0)]) [1, 2, 4, 0] rfl ?_
            refine jq_loop2 (C := fun (t9 : Int × jq_M) => jq_V jq_zM X (jq_zN jq_zM) t9.2 49 [(0, jR 0), (1, jI p1), (3, jI p3), (4, jI t9.1)] []) (KX := fun (e12 : jq_M) => jq_V jq_zM X (jq_zN jq_zM) e12 74 [(0, jR 0)] []) ?_ ?_ (0, s8)
            · intro K49_t9 hCt9 hXt9 t9
              unfold X11_tray_b49
              refine jq_iload Γ dX11_tray_49 3 rfl ?_
              refine jq_iload_n Γ dX11_tray_51 rfl 2 rfl ?_
              refine jq_icmp_ge (tgt := 74) Γ dX11_tray_52 rfl ?_ ?_
              · refine jq_sub Γ (L' := [(0, jR 0)]) [0] rfl ?_
                exact jq_done (hXt9 t9.2)
              · refine jq_aload_n Γ dX11_tray_55 rfl 0 rfl (jq_at_0 at_M_0) ?_
                refine jq_getR (v := 5) Γ hlY at_M_0 fl_RX11_27 rfl rfl ly_X11_trays dX11_tray_56 ?_
                refine jq_bipush Γ dX11_tray_59 rfl ?_
                refine jq_iload_n Γ dX11_tray_61 rfl 1 rfl ?_
                refine jq_imul Γ dX11_tray_62 ?_
                refine jq_iload Γ dX11_tray_63 3 rfl ?_
                refine jq_iadd Γ dX11_tray_65 ?_
                refine jq_lconst Γ 0 dX11_tray_66 rfl rfl ?_
                refine jq_last Γ at_M_5 rfl dX11_tray_67 (fun s10 => ?_)
                refine jq_iincN (L' := fun v11 => [(4, jI v11), (0, jR 0), (1, jI p1), (3, jI p3)]) Γ dX11_tray_68 3 rfl hnl rfl (fun _ => rfl) (fun v11 => ?_)
                refine jq_goto Γ (tgt := 49) dX11_tray_71 rfl ?_
                refine jq_sub Γ (L' := [(0, jR 0), (1, jI p1), (3, jI p3), (4, jI v11)]) [1, 2, 3, 0] rfl ?_
                exact jq_done (hCt9 (v11, s10))
            · intro e12
              refine jq_aload_n Γ dX11_tray_74 rfl 0 rfl (jq_at_0 at_M_0) ?_
              refine jq_iconst Γ dX11_tray_75 rfl ?_
              refine jq_cwZ (jq_virt (avs := [jI 0]) (st := []) Γ hlY rfl ml_RX11_91 rfl at_M_0 rfl rfl rfl rfl rfl dX11_tray_76) rfl (fun r σ' h => ctX11_is h) (fun v13 s14 hz15 => ?_)
              exact jq_zreturn Γ (hz15) dX11_tray_79 (hK0 _)
          · refine jq_sub Γ (L' := [(0, jR 0)]) [0] rfl ?_
            exact hj26_0 σ


theorem dX11_wrongPlace_0 : decode cX11_wrongPlace 0 = .ok (.iload_n 1, 1) := by decide +kernel
theorem dX11_wrongPlace_1 : decode cX11_wrongPlace 1 = .ok (.invokestatic 95, 3) := by decide +kernel
theorem dX11_wrongPlace_4 : decode cX11_wrongPlace 4 = .ok (.ifCond .ne 7, 3) := by decide +kernel
theorem dX11_wrongPlace_7 : decode cX11_wrongPlace 7 = .ok (.iconst 1, 1) := by decide +kernel
theorem dX11_wrongPlace_8 : decode cX11_wrongPlace 8 = .ok (.goto 36, 3) := by decide +kernel
theorem dX11_wrongPlace_11 : decode cX11_wrongPlace 11 = .ok (.aload_n 0, 1) := by decide +kernel
theorem dX11_wrongPlace_12 : decode cX11_wrongPlace 12 = .ok (.getfield 24, 3) := by decide +kernel
theorem dX11_wrongPlace_15 : decode cX11_wrongPlace 15 = .ok (.iload_n 1, 1) := by decide +kernel
theorem dX11_wrongPlace_16 : decode cX11_wrongPlace 16 = .ok (.iaload, 1) := by decide +kernel
theorem dX11_wrongPlace_17 : decode cX11_wrongPlace 17 = .ok (.iconst (-1), 1) := by decide +kernel
theorem dX11_wrongPlace_18 : decode cX11_wrongPlace 18 = .ok (.if_icmp .ne 7, 3) := by decide +kernel
theorem dX11_wrongPlace_21 : decode cX11_wrongPlace 21 = .ok (.iconst 2, 1) := by decide +kernel
theorem dX11_wrongPlace_22 : decode cX11_wrongPlace 22 = .ok (.goto 22, 3) := by decide +kernel
theorem dX11_wrongPlace_25 : decode cX11_wrongPlace 25 = .ok (.iload_n 2, 1) := by decide +kernel
theorem dX11_wrongPlace_26 : decode cX11_wrongPlace 26 = .ok (.ifCond .lt 13, 3) := by decide +kernel
theorem dX11_wrongPlace_29 : decode cX11_wrongPlace 29 = .ok (.iload_n 2, 1) := by decide +kernel
theorem dX11_wrongPlace_30 : decode cX11_wrongPlace 30 = .ok (.aload_n 0, 1) := by decide +kernel
theorem dX11_wrongPlace_31 : decode cX11_wrongPlace 31 = .ok (.getfield 24, 3) := by decide +kernel
theorem dX11_wrongPlace_34 : decode cX11_wrongPlace 34 = .ok (.iload_n 1, 1) := by decide +kernel
theorem dX11_wrongPlace_35 : decode cX11_wrongPlace 35 = .ok (.iaload, 1) := by decide +kernel
theorem dX11_wrongPlace_36 : decode cX11_wrongPlace 36 = .ok (.if_icmp .lt 7, 3) := by decide +kernel
theorem dX11_wrongPlace_39 : decode cX11_wrongPlace 39 = .ok (.iconst 3, 1) := by decide +kernel
theorem dX11_wrongPlace_40 : decode cX11_wrongPlace 40 = .ok (.goto 4, 3) := by decide +kernel
theorem dX11_wrongPlace_43 : decode cX11_wrongPlace 43 = .ok (.iconst 0, 1) := by decide +kernel
theorem dX11_wrongPlace_44 : decode cX11_wrongPlace 44 = .ok (.ireturn, 1) := by decide +kernel
set_option maxHeartbeats 4000000 in
set_option maxRecDepth 100000 in
theorem ctX11_wrongPlace {p1 : Int} {p2 : Int} {σ : jq_M} {res : Int}  (h : X11_wrongPlace p1 p2 σ = some res) : jq_MC jq_zM yX11_wrongPlace cX11_wrongPlace 3 (some .int) 2 60 [jR 0, jI p1, jI p2] σ (some (jI res)) σ := by
  refine jq_met (own := RX11) (L0 := [(0, jR 0), (1, jI p1), (2, jI p2)]) (by decide) rfl rfl rfl ?_
  intro X Γ hnl hlY hRT
  refine jq_use2 (P := fun r => jq_RT jq_zM X (some .int) (some (jI r)) σ) ?_ h hRT
  intro K0 hK0
  unfold X11_wrongPlace
  refine jq_iload_n Γ dX11_wrongPlace_0 rfl 1 rfl ?_
  refine jq_cpZ (jq_stat (avs := [jI p1]) (st := []) Γ hlY rfl ml_RX11_95 rfl rfl rfl rfl rfl dX11_wrongPlace_1) rfl (fun r h => ctX11_isTray h) (fun v1 hz2 => ?_)
  refine jq_if_ne (tgt := 11) Γ dX11_wrongPlace_4 rfl ?_ ?_
  · refine jq_aload_n Γ dX11_wrongPlace_11 rfl 0 rfl (jq_at_0 at_M_0) ?_
    refine jq_getR (v := 4) Γ hlY at_M_0 fl_RX11_24 rfl rfl ly_X11_trayMany dX11_wrongPlace_12 ?_
    refine jq_iload_n Γ dX11_wrongPlace_15 rfl 1 rfl ?_
    refine jq_iald Γ at_M_4 rfl dX11_wrongPlace_16 (fun v3 => ?_)
    refine jq_iconst Γ dX11_wrongPlace_17 rfl ?_
    refine jq_icmp_ne (tgt := 25) Γ dX11_wrongPlace_18 rfl ?_ ?_
    · refine jq_iload_n Γ dX11_wrongPlace_25 rfl 2 rfl ?_
      refine jq_if_lt (tgt := 39) Γ dX11_wrongPlace_26 rfl ?_ ?_
      · refine jq_iconst Γ dX11_wrongPlace_39 rfl ?_
        refine jq_goto Γ (tgt := 44) dX11_wrongPlace_40 rfl ?_
        exact jq_ireturn Γ dX11_wrongPlace_44 (hK0 _)
      · refine jq_iload_n Γ dX11_wrongPlace_29 rfl 2 rfl ?_
        refine jq_aload_n Γ dX11_wrongPlace_30 rfl 0 rfl (jq_at_0 at_M_0) ?_
        refine jq_getR (v := 4) Γ hlY at_M_0 fl_RX11_24 rfl rfl ly_X11_trayMany dX11_wrongPlace_31 ?_
        refine jq_iload_n Γ dX11_wrongPlace_34 rfl 1 rfl ?_
        refine jq_iald Γ at_M_4 rfl dX11_wrongPlace_35 (fun v4 => ?_)
        refine jq_icmp_lt (tgt := 43) Γ dX11_wrongPlace_36 rfl ?_ ?_
        · refine jq_iconst Γ dX11_wrongPlace_43 rfl ?_
          exact jq_ireturn Γ dX11_wrongPlace_44 (hK0 _)
        · refine jq_iconst Γ dX11_wrongPlace_39 rfl ?_
          refine jq_goto Γ (tgt := 44) dX11_wrongPlace_40 rfl ?_
          exact jq_ireturn Γ dX11_wrongPlace_44 (hK0 _)
    · refine jq_iconst Γ dX11_wrongPlace_21 rfl ?_
      refine jq_goto Γ (tgt := 44) dX11_wrongPlace_22 rfl ?_
      exact jq_ireturn Γ dX11_wrongPlace_44 (hK0 _)
  · refine jq_iconst Γ dX11_wrongPlace_7 rfl ?_
    refine jq_goto Γ (tgt := 44) dX11_wrongPlace_8 rfl ?_
    exact jq_ireturn Γ dX11_wrongPlace_44 (hK0 _)


theorem dX11_write_0 : decode cX11_write 0 = .ok (.aload_n 0, 1) := by decide +kernel
theorem dX11_write_1 : decode cX11_write 1 = .ok (.iload_n 1, 1) := by decide +kernel
theorem dX11_write_2 : decode cX11_write 2 = .ok (.iload_n 2, 1) := by decide +kernel
theorem dX11_write_3 : decode cX11_write 3 = .ok (.invokevirtual 98, 3) := by decide +kernel
theorem dX11_write_6 : decode cX11_write 6 = .ok (.istore 5, 2) := by decide +kernel
theorem dX11_write_8 : decode cX11_write 8 = .ok (.iload 5, 2) := by decide +kernel
theorem dX11_write_10 : decode cX11_write 10 = .ok (.ifCond .ne 24, 3) := by decide +kernel
theorem dX11_write_13 : decode cX11_write 13 = .ok (.aload_n 0, 1) := by decide +kernel
theorem dX11_write_14 : decode cX11_write 14 = .ok (.getfield 27, 3) := by decide +kernel
theorem dX11_write_17 : decode cX11_write 17 = .ok (.bipush 60, 2) := by decide +kernel
theorem dX11_write_19 : decode cX11_write 19 = .ok (.iload_n 1, 1) := by decide +kernel
theorem dX11_write_20 : decode cX11_write 20 = .ok (.imul, 1) := by decide +kernel
theorem dX11_write_21 : decode cX11_write 21 = .ok (.iload_n 2, 1) := by decide +kernel
theorem dX11_write_22 : decode cX11_write 22 = .ok (.iadd, 1) := by decide +kernel
theorem dX11_write_23 : decode cX11_write 23 = .ok (.lload_n 3, 1) := by decide +kernel
theorem dX11_write_24 : decode cX11_write 24 = .ok (.aload_n 0, 1) := by decide +kernel
theorem dX11_write_25 : decode cX11_write 25 = .ok (.getfield 21, 3) := by decide +kernel
theorem dX11_write_28 : decode cX11_write 28 = .ok (.iload_n 1, 1) := by decide +kernel
theorem dX11_write_29 : decode cX11_write 29 = .ok (.iaload, 1) := by decide +kernel
theorem dX11_write_30 : decode cX11_write 30 = .ok (.invokestatic 102, 3) := by decide +kernel
theorem dX11_write_33 : decode cX11_write 33 = .ok (.lastore, 1) := by decide +kernel
theorem dX11_write_34 : decode cX11_write 34 = .ok (.aload_n 0, 1) := by decide +kernel
theorem dX11_write_35 : decode cX11_write 35 = .ok (.iload 5, 2) := by decide +kernel
theorem dX11_write_37 : decode cX11_write 37 = .ok (.invokevirtual 91, 3) := by decide +kernel
theorem dX11_write_40 : decode cX11_write 40 = .ok (.ireturn, 1) := by decide +kernel
set_option maxHeartbeats 4000000 in
set_option maxRecDepth 100000 in
theorem ctX11_write {p1 : Int} {p2 : Int} {p3 : Int} {σ : jq_M} {res : Int} {σ' : jq_M}  (h : X11_write p1 p2 p3 σ = some (res, σ')) : jq_MC jq_zM yX11_write cX11_write 6 (some .boolean) 3 82 [jR 0, jI p1, jI p2, jL p3] σ (some (jI res)) σ' := by
  refine jq_met (own := RX11) (L0 := [(0, jR 0), (1, jI p1), (2, jI p2), (3, jL p3)]) (by decide) rfl rfl rfl ?_
  intro X Γ hnl hlY hRT
  refine jq_use2 (P := fun r => jq_RT jq_zM X (some .boolean) (some (jI r.1)) r.2) ?_ h hRT
  intro K0 hK0
  unfold X11_write
  have hj34_0 : ∀ (j2 : Int) (s3 : jq_M), jq_J (X11_write_j34 j2 s3) K0 (jq_V jq_zM X (jq_zN jq_zM) s3 34 [(0, jR 0), (5, jI j2)] []) := by
    intro j2 s3
    unfold X11_write_j34
    refine jq_aload_n Γ dX11_write_34 rfl 0 rfl (jq_at_0 at_M_0) ?_
    refine jq_iload Γ dX11_write_35 1 rfl ?_
    refine jq_cwZ (jq_virt (avs := [jI j2]) (st := []) Γ hlY rfl ml_RX11_91 rfl at_M_0 rfl rfl rfl rfl rfl dX11_write_37) rfl (fun r σ' h => ctX11_is h) (fun v4 s5 hz6 => ?_)
    exact jq_zreturn Γ (hz6) dX11_write_40 (hK0 _)
  refine jq_aload_n Γ dX11_write_0 rfl 0 rfl (jq_at_0 at_M_0) ?_
  refine jq_iload_n Γ dX11_write_1 rfl 1 rfl ?_
  refine jq_iload_n Γ dX11_write_2 rfl 2 rfl ?_
  refine jq_cpI (jq_virt (avs := [jI p1, jI p2]) (st := []) Γ hlY rfl ml_RX11_98 rfl at_M_0 rfl rfl rfl rfl rfl dX11_write_3) (fun r h => ctX11_wrongPlace h) (fun v1 => ?_)
  refine jq_istore (L' := [(5, jI v1), (0, jR 0), (1, jI p1), (2, jI p2), (3, jL p3)]) Γ dX11_write_6 hnl rfl rfl ?_
  refine jq_iload Γ dX11_write_8 0 rfl ?_
  refine jq_if_ne (tgt := 34) Γ dX11_write_10 rfl ?_ ?_
  · refine jq_sub Γ (L' := [(0, jR 0), (5, jI v1)]) [1, 0] rfl ?_
    exact hj34_0 v1 σ
  · refine jq_aload_n Γ dX11_write_13 rfl 1 rfl (jq_at_0 at_M_0) ?_
    refine jq_getR (v := 5) Γ hlY at_M_0 fl_RX11_27 rfl rfl ly_X11_trays dX11_write_14 ?_
    refine jq_bipush Γ dX11_write_17 rfl ?_
    refine jq_iload_n Γ dX11_write_19 rfl 2 rfl ?_
    refine jq_imul Γ dX11_write_20 ?_
    refine jq_iload_n Γ dX11_write_21 rfl 3 rfl ?_
    refine jq_iadd Γ dX11_write_22 ?_
    refine jq_lload_n Γ dX11_write_23 rfl 4 rfl ?_
    refine jq_aload_n Γ dX11_write_24 rfl 1 rfl (jq_at_0 at_M_0) ?_
    refine jq_getR (v := 3) Γ hlY at_M_0 fl_RX11_21 rfl rfl ly_X11_sort dX11_write_25 ?_
    refine jq_iload_n Γ dX11_write_28 rfl 2 rfl ?_
    refine jq_iald Γ at_M_3 rfl dX11_write_29 (fun v7 => ?_)
    refine jq_cpL (jq_stat (avs := [jL p3, jI v7]) (st := [jI (jq_w ((jq_w (60 * p1)) + p2)), jR 5]) Γ hlY rfl ml_RX11_102 rfl rfl rfl rfl rfl dX11_write_30) (fun r h => ctX11_cut h) (fun v8 => ?_)
    refine jq_last Γ at_M_5 rfl dX11_write_33 (fun s9 => ?_)
    refine jq_sub Γ (L' := [(0, jR 0), (5, jI v1)]) [1, 0] rfl ?_
    exact hj34_0 v1 s9


theorem dX11_read_0 : decode cX11_read 0 = .ok (.aload_n 0, 1) := by decide +kernel
theorem dX11_read_1 : decode cX11_read 1 = .ok (.aload_n 0, 1) := by decide +kernel
theorem dX11_read_2 : decode cX11_read 2 = .ok (.iload_n 1, 1) := by decide +kernel
theorem dX11_read_3 : decode cX11_read 3 = .ok (.iload_n 2, 1) := by decide +kernel
theorem dX11_read_4 : decode cX11_read 4 = .ok (.invokevirtual 98, 3) := by decide +kernel
theorem dX11_read_7 : decode cX11_read 7 = .ok (.putfield 78, 3) := by decide +kernel
theorem dX11_read_10 : decode cX11_read 10 = .ok (.aload_n 0, 1) := by decide +kernel
theorem dX11_read_11 : decode cX11_read 11 = .ok (.getfield 78, 3) := by decide +kernel
theorem dX11_read_14 : decode cX11_read 14 = .ok (.ifCond .le 9, 3) := by decide +kernel
theorem dX11_read_17 : decode cX11_read 17 = .ok (.ldc2_w 106, 3) := by decide +kernel
theorem dX11_read_20 : decode cX11_read 20 = .ok (.goto 14, 3) := by decide +kernel
theorem dX11_read_23 : decode cX11_read 23 = .ok (.aload_n 0, 1) := by decide +kernel
theorem dX11_read_24 : decode cX11_read 24 = .ok (.getfield 27, 3) := by decide +kernel
theorem dX11_read_27 : decode cX11_read 27 = .ok (.bipush 60, 2) := by decide +kernel
theorem dX11_read_29 : decode cX11_read 29 = .ok (.iload_n 1, 1) := by decide +kernel
theorem dX11_read_30 : decode cX11_read 30 = .ok (.imul, 1) := by decide +kernel
theorem dX11_read_31 : decode cX11_read 31 = .ok (.iload_n 2, 1) := by decide +kernel
theorem dX11_read_32 : decode cX11_read 32 = .ok (.iadd, 1) := by decide +kernel
theorem dX11_read_33 : decode cX11_read 33 = .ok (.laload, 1) := by decide +kernel
theorem dX11_read_34 : decode cX11_read 34 = .ok (.lreturn, 1) := by decide +kernel
set_option maxHeartbeats 4000000 in
set_option maxRecDepth 100000 in
theorem ctX11_read {p1 : Int} {p2 : Int} {σ : jq_M} {res : Int} {σ' : jq_M}  (h : X11_read p1 p2 σ = some (res, σ')) : jq_MC jq_zM yX11_read cX11_read 3 (some .long) 3 82 [jR 0, jI p1, jI p2] σ (some (jL res)) σ' := by
  refine jq_met (own := RX11) (L0 := [(0, jR 0), (1, jI p1), (2, jI p2)]) (by decide) rfl rfl rfl ?_
  intro X Γ hnl hlY hRT
  refine jq_use2 (P := fun r => jq_RT jq_zM X (some .long) (some (jL r.1)) r.2) ?_ h hRT
  intro K0 hK0
  unfold X11_read
  refine jq_aload_n Γ dX11_read_0 rfl 0 rfl (jq_at_0 at_M_0) ?_
  refine jq_aload_n Γ dX11_read_1 rfl 0 rfl (jq_at_0 at_M_0) ?_
  refine jq_iload_n Γ dX11_read_2 rfl 1 rfl ?_
  refine jq_iload_n Γ dX11_read_3 rfl 2 rfl ?_
  refine jq_cpI (jq_virt (avs := [jI p1, jI p2]) (st := [jR 0]) Γ hlY rfl ml_RX11_98 rfl at_M_0 rfl rfl rfl rfl rfl dX11_read_4) (fun r h => ctX11_wrongPlace h) (fun v1 => ?_)
  refine jq_putI Γ at_M_0 fl_RX11_78 rfl rfl dX11_read_7 (fun s2 => ?_)
  refine jq_aload_n Γ dX11_read_10 rfl 0 rfl (jq_at_0 at_M_0) ?_
  refine jq_getI (J := 2) Γ at_M_0 fl_RX11_78 rfl rfl dX11_read_11 ?_
  refine jq_if_le (tgt := 23) Γ dX11_read_14 rfl ?_ ?_
  · refine jq_aload_n Γ dX11_read_23 rfl 0 rfl (jq_at_0 at_M_0) ?_
    refine jq_getR (v := 5) Γ hlY at_M_0 fl_RX11_27 rfl rfl ly_X11_trays dX11_read_24 ?_
    refine jq_bipush Γ dX11_read_27 rfl ?_
    refine jq_iload_n Γ dX11_read_29 rfl 1 rfl ?_
    refine jq_imul Γ dX11_read_30 ?_
    refine jq_iload_n Γ dX11_read_31 rfl 2 rfl ?_
    refine jq_iadd Γ dX11_read_32 ?_
    refine jq_lald Γ at_M_5 rfl dX11_read_33 (fun v3 => ?_)
    exact jq_lreturn Γ dX11_read_34 (hK0 _)
  · refine jq_ldc2 Γ (-1) dX11_read_17 kc_RX11_106 rfl ?_
    refine jq_goto Γ (tgt := 34) dX11_read_20 rfl ?_
    exact jq_lreturn Γ dX11_read_34 (hK0 _)


theorem dX11_pour_0 : decode cX11_pour 0 = .ok (.iload_n 1, 1) := by decide +kernel
theorem dX11_pour_1 : decode cX11_pour 1 = .ok (.invokestatic 95, 3) := by decide +kernel
theorem dX11_pour_4 : decode cX11_pour 4 = .ok (.ifCond .eq 24, 3) := by decide +kernel
theorem dX11_pour_7 : decode cX11_pour 7 = .ok (.iload_n 3, 1) := by decide +kernel
theorem dX11_pour_8 : decode cX11_pour 8 = .ok (.invokestatic 95, 3) := by decide +kernel
theorem dX11_pour_11 : decode cX11_pour 11 = .ok (.ifCond .eq 17, 3) := by decide +kernel
theorem dX11_pour_14 : decode cX11_pour 14 = .ok (.iload_n 2, 1) := by decide +kernel
theorem dX11_pour_15 : decode cX11_pour 15 = .ok (.ifCond .lt 13, 3) := by decide +kernel
theorem dX11_pour_18 : decode cX11_pour 18 = .ok (.iload 4, 2) := by decide +kernel
theorem dX11_pour_20 : decode cX11_pour 20 = .ok (.ifCond .lt 8, 3) := by decide +kernel
theorem dX11_pour_23 : decode cX11_pour 23 = .ok (.iload 5, 2) := by decide +kernel
theorem dX11_pour_25 : decode cX11_pour 25 = .ok (.ifCond .ge 9, 3) := by decide +kernel
theorem dX11_pour_28 : decode cX11_pour 28 = .ok (.aload_n 0, 1) := by decide +kernel
theorem dX11_pour_29 : decode cX11_pour 29 = .ok (.iconst 1, 1) := by decide +kernel
theorem dX11_pour_30 : decode cX11_pour 30 = .ok (.invokevirtual 91, 3) := by decide +kernel
theorem dX11_pour_33 : decode cX11_pour 33 = .ok (.ireturn, 1) := by decide +kernel
theorem dX11_pour_34 : decode cX11_pour 34 = .ok (.aload_n 0, 1) := by decide +kernel
theorem dX11_pour_35 : decode cX11_pour 35 = .ok (.getfield 24, 3) := by decide +kernel
theorem dX11_pour_38 : decode cX11_pour 38 = .ok (.iload_n 1, 1) := by decide +kernel
theorem dX11_pour_39 : decode cX11_pour 39 = .ok (.iaload, 1) := by decide +kernel
theorem dX11_pour_40 : decode cX11_pour 40 = .ok (.iconst (-1), 1) := by decide +kernel
theorem dX11_pour_41 : decode cX11_pour 41 = .ok (.if_icmp .eq 13, 3) := by decide +kernel
theorem dX11_pour_44 : decode cX11_pour 44 = .ok (.aload_n 0, 1) := by decide +kernel
theorem dX11_pour_45 : decode cX11_pour 45 = .ok (.getfield 24, 3) := by decide +kernel
theorem dX11_pour_48 : decode cX11_pour 48 = .ok (.iload_n 3, 1) := by decide +kernel
theorem dX11_pour_49 : decode cX11_pour 49 = .ok (.iaload, 1) := by decide +kernel
theorem dX11_pour_50 : decode cX11_pour 50 = .ok (.iconst (-1), 1) := by decide +kernel
theorem dX11_pour_51 : decode cX11_pour 51 = .ok (.if_icmp .ne 9, 3) := by decide +kernel
theorem dX11_pour_54 : decode cX11_pour 54 = .ok (.aload_n 0, 1) := by decide +kernel
theorem dX11_pour_55 : decode cX11_pour 55 = .ok (.iconst 2, 1) := by decide +kernel
theorem dX11_pour_56 : decode cX11_pour 56 = .ok (.invokevirtual 91, 3) := by decide +kernel
theorem dX11_pour_59 : decode cX11_pour 59 = .ok (.ireturn, 1) := by decide +kernel
theorem dX11_pour_60 : decode cX11_pour 60 = .ok (.aload_n 0, 1) := by decide +kernel
theorem dX11_pour_61 : decode cX11_pour 61 = .ok (.getfield 21, 3) := by decide +kernel
theorem dX11_pour_64 : decode cX11_pour 64 = .ok (.iload_n 1, 1) := by decide +kernel
theorem dX11_pour_65 : decode cX11_pour 65 = .ok (.iaload, 1) := by decide +kernel
theorem dX11_pour_66 : decode cX11_pour 66 = .ok (.aload_n 0, 1) := by decide +kernel
theorem dX11_pour_67 : decode cX11_pour 67 = .ok (.getfield 21, 3) := by decide +kernel
theorem dX11_pour_70 : decode cX11_pour 70 = .ok (.iload_n 3, 1) := by decide +kernel
theorem dX11_pour_71 : decode cX11_pour 71 = .ok (.iaload, 1) := by decide +kernel
theorem dX11_pour_72 : decode cX11_pour 72 = .ok (.if_icmp .eq 10, 3) := by decide +kernel
theorem dX11_pour_75 : decode cX11_pour 75 = .ok (.aload_n 0, 1) := by decide +kernel
theorem dX11_pour_76 : decode cX11_pour 76 = .ok (.bipush 8, 2) := by decide +kernel
theorem dX11_pour_78 : decode cX11_pour 78 = .ok (.invokevirtual 91, 3) := by decide +kernel
theorem dX11_pour_81 : decode cX11_pour 81 = .ok (.ireturn, 1) := by decide +kernel
theorem dX11_pour_82 : decode cX11_pour 82 = .ok (.iload 5, 2) := by decide +kernel
theorem dX11_pour_84 : decode cX11_pour 84 = .ok (.aload_n 0, 1) := by decide +kernel
theorem dX11_pour_85 : decode cX11_pour 85 = .ok (.getfield 24, 3) := by decide +kernel
theorem dX11_pour_88 : decode cX11_pour 88 = .ok (.iload_n 1, 1) := by decide +kernel
theorem dX11_pour_89 : decode cX11_pour 89 = .ok (.iaload, 1) := by decide +kernel
theorem dX11_pour_90 : decode cX11_pour 90 = .ok (.iload_n 2, 1) := by decide +kernel
theorem dX11_pour_91 : decode cX11_pour 91 = .ok (.isub, 1) := by decide +kernel
theorem dX11_pour_92 : decode cX11_pour 92 = .ok (.if_icmp .gt 17, 3) := by decide +kernel
theorem dX11_pour_95 : decode cX11_pour 95 = .ok (.iload 5, 2) := by decide +kernel
theorem dX11_pour_97 : decode cX11_pour 97 = .ok (.aload_n 0, 1) := by decide +kernel
theorem dX11_pour_98 : decode cX11_pour 98 = .ok (.getfield 24, 3) := by decide +kernel
theorem dX11_pour_101 : decode cX11_pour 101 = .ok (.iload_n 3, 1) := by decide +kernel
theorem dX11_pour_102 : decode cX11_pour 102 = .ok (.iaload, 1) := by decide +kernel
theorem dX11_pour_103 : decode cX11_pour 103 = .ok (.iload 4, 2) := by decide +kernel
theorem dX11_pour_105 : decode cX11_pour 105 = .ok (.isub, 1) := by decide +kernel
theorem dX11_pour_106 : decode cX11_pour 106 = .ok (.if_icmp .le 9, 3) := by decide +kernel
theorem dX11_pour_109 : decode cX11_pour 109 = .ok (.aload_n 0, 1) := by decide +kernel
theorem dX11_pour_110 : decode cX11_pour 110 = .ok (.iconst 3, 1) := by decide +kernel
theorem dX11_pour_111 : decode cX11_pour 111 = .ok (.invokevirtual 91, 3) := by decide +kernel
theorem dX11_pour_114 : decode cX11_pour 114 = .ok (.ireturn, 1) := by decide +kernel
theorem dX11_pour_115 : decode cX11_pour 115 = .ok (.iconst 0, 1) := by decide +kernel
theorem dX11_pour_116 : decode cX11_pour 116 = .ok (.istore 6, 2) := by decide +kernel
theorem dX11_pour_118 : decode cX11_pour 118 = .ok (.iload 6, 2) := by decide +kernel
theorem dX11_pour_120 : decode cX11_pour 120 = .ok (.iload 5, 2) := by decide +kernel
theorem dX11_pour_122 : decode cX11_pour 122 = .ok (.if_icmp .ge 58, 3) := by decide +kernel
theorem dX11_pour_125 : decode cX11_pour 125 = .ok (.iload_n 2, 1) := by decide +kernel
theorem dX11_pour_126 : decode cX11_pour 126 = .ok (.iload 4, 2) := by decide +kernel
theorem dX11_pour_128 : decode cX11_pour 128 = .ok (.if_icmp .ge 13, 3) := by decide +kernel
theorem dX11_pour_131 : decode cX11_pour 131 = .ok (.iload 5, 2) := by decide +kernel
theorem dX11_pour_133 : decode cX11_pour 133 = .ok (.iconst 1, 1) := by decide +kernel
theorem dX11_pour_134 : decode cX11_pour 134 = .ok (.isub, 1) := by decide +kernel
theorem dX11_pour_135 : decode cX11_pour 135 = .ok (.iload 6, 2) := by decide +kernel
theorem dX11_pour_137 : decode cX11_pour 137 = .ok (.isub, 1) := by decide +kernel
theorem dX11_pour_138 : decode cX11_pour 138 = .ok (.goto 5, 3) := by decide +kernel
theorem dX11_pour_141 : decode cX11_pour 141 = .ok (.iload 6, 2) := by decide +kernel
theorem dX11_pour_143 : decode cX11_pour 143 = .ok (.istore 7, 2) := by decide +kernel
theorem dX11_pour_145 : decode cX11_pour 145 = .ok (.aload_n 0, 1) := by decide +kernel
theorem dX11_pour_146 : decode cX11_pour 146 = .ok (.getfield 27, 3) := by decide +kernel
theorem dX11_pour_149 : decode cX11_pour 149 = .ok (.bipush 60, 2) := by decide +kernel
theorem dX11_pour_151 : decode cX11_pour 151 = .ok (.iload_n 3, 1) := by decide +kernel
theorem dX11_pour_152 : decode cX11_pour 152 = .ok (.imul, 1) := by decide +kernel
theorem dX11_pour_153 : decode cX11_pour 153 = .ok (.iload 4, 2) := by decide +kernel
theorem dX11_pour_155 : decode cX11_pour 155 = .ok (.iadd, 1) := by decide +kernel
theorem dX11_pour_156 : decode cX11_pour 156 = .ok (.iload 7, 2) := by decide +kernel
theorem dX11_pour_158 : decode cX11_pour 158 = .ok (.iadd, 1) := by decide +kernel
theorem dX11_pour_159 : decode cX11_pour 159 = .ok (.aload_n 0, 1) := by decide +kernel
theorem dX11_pour_160 : decode cX11_pour 160 = .ok (.getfield 27, 3) := by decide +kernel
theorem dX11_pour_163 : decode cX11_pour 163 = .ok (.bipush 60, 2) := by decide +kernel
theorem dX11_pour_165 : decode cX11_pour 165 = .ok (.iload_n 1, 1) := by decide +kernel
theorem dX11_pour_166 : decode cX11_pour 166 = .ok (.imul, 1) := by decide +kernel
theorem dX11_pour_167 : decode cX11_pour 167 = .ok (.iload_n 2, 1) := by decide +kernel
theorem dX11_pour_168 : decode cX11_pour 168 = .ok (.iadd, 1) := by decide +kernel
theorem dX11_pour_169 : decode cX11_pour 169 = .ok (.iload 7, 2) := by decide +kernel
theorem dX11_pour_171 : decode cX11_pour 171 = .ok (.iadd, 1) := by decide +kernel
theorem dX11_pour_172 : decode cX11_pour 172 = .ok (.laload, 1) := by decide +kernel
theorem dX11_pour_173 : decode cX11_pour 173 = .ok (.lastore, 1) := by decide +kernel
theorem dX11_pour_174 : decode cX11_pour 174 = .ok (.iinc 6 1, 3) := by decide +kernel
theorem dX11_pour_177 : decode cX11_pour 177 = .ok (.goto (-59), 3) := by decide +kernel
theorem dX11_pour_180 : decode cX11_pour 180 = .ok (.aload_n 0, 1) := by decide +kernel
theorem dX11_pour_181 : decode cX11_pour 181 = .ok (.iconst 0, 1) := by decide +kernel
theorem dX11_pour_182 : decode cX11_pour 182 = .ok (.invokevirtual 91, 3) := by decide +kernel
theorem dX11_pour_185 : decode cX11_pour 185 = .ok (.ireturn, 1) := by decide +kernel
set_option maxHeartbeats 4000000 in
set_option maxRecDepth 100000 in
theorem ctX11_pour {p1 : Int} {p2 : Int} {p3 : Int} {p4 : Int} {p5 : Int} {σ : jq_M} {res : Int} {σ' : jq_M}  (h : X11_pour p1 p2 p3 p4 p5 σ = some (res, σ')) : jq_MC jq_zM yX11_pour cX11_pour 8 (some .boolean) 2 61 [jR 0, jI p1, jI p2, jI p3, jI p4, jI p5] σ (some (jI res)) σ' := by
  refine jq_met (own := RX11) (L0 := [(0, jR 0), (1, jI p1), (2, jI p2), (3, jI p3), (4, jI p4), (5, jI p5)]) (by decide) rfl rfl rfl ?_
  intro X Γ hnl hlY hRT
  refine jq_use2 (P := fun r => jq_RT jq_zM X (some .boolean) (some (jI r.1)) r.2) ?_ h hRT
  intro K0 hK0
  unfold X11_pour
  have hj28_0 : ∀ (s3 : jq_M), jq_J (X11_pour_j28 s3) K0 (jq_V jq_zM X (jq_zN jq_zM) s3 28 [(0, jR 0)] []) := by
    intro s3
    unfold X11_pour_j28
    refine jq_aload_n Γ dX11_pour_28 rfl 0 rfl (jq_at_0 at_M_0) ?_
    refine jq_iconst Γ dX11_pour_29 rfl ?_
    refine jq_cwZ (jq_virt (avs := [jI 1]) (st := []) Γ hlY rfl ml_RX11_91 rfl at_M_0 rfl rfl rfl rfl rfl dX11_pour_30) rfl (fun r σ' h => ctX11_is h) (fun v4 s5 hz6 => ?_)
    exact jq_zreturn Γ (hz6) dX11_pour_33 (hK0 _)
  have hj54_0 : ∀ (s10 : jq_M), jq_J (X11_pour_j54 s10) K0 (jq_V jq_zM X (jq_zN jq_zM) s10 54 [(0, jR 0)] []) := by
    intro s10
    unfold X11_pour_j54
    refine jq_aload_n Γ dX11_pour_54 rfl 0 rfl (jq_at_0 at_M_0) ?_
    refine jq_iconst Γ dX11_pour_55 rfl ?_
    refine jq_cwZ (jq_virt (avs := [jI 2]) (st := []) Γ hlY rfl ml_RX11_91 rfl at_M_0 rfl rfl rfl rfl rfl dX11_pour_56) rfl (fun r σ' h => ctX11_is h) (fun v11 s12 hz13 => ?_)
    exact jq_zreturn Γ (hz13) dX11_pour_59 (hK0 _)
  have hj109_0 : ∀ (s18 : jq_M), jq_J (X11_pour_j109 s18) K0 (jq_V jq_zM X (jq_zN jq_zM) s18 109 [(0, jR 0)] []) := by
    intro s18
    unfold X11_pour_j109
    refine jq_aload_n Γ dX11_pour_109 rfl 0 rfl (jq_at_0 at_M_0) ?_
    refine jq_iconst Γ dX11_pour_110 rfl ?_
    refine jq_cwZ (jq_virt (avs := [jI 3]) (st := []) Γ hlY rfl ml_RX11_91 rfl at_M_0 rfl rfl rfl rfl rfl dX11_pour_111) rfl (fun r σ' h => ctX11_is h) (fun v19 s20 hz21 => ?_)
    exact jq_zreturn Γ (hz21) dX11_pour_114 (hK0 _)
  refine jq_iload_n Γ dX11_pour_0 rfl 1 rfl ?_
  refine jq_cpZ (jq_stat (avs := [jI p1]) (st := []) Γ hlY rfl ml_RX11_95 rfl rfl rfl rfl rfl dX11_pour_1) rfl (fun r h => ctX11_isTray h) (fun v1 hz2 => ?_)
  refine jq_if_eq (tgt := 28) Γ dX11_pour_4 rfl ?_ ?_
  · refine jq_sub Γ (L' := [(0, jR 0)]) [0] rfl ?_
    exact hj28_0 σ
  · refine jq_iload_n Γ dX11_pour_7 rfl 3 rfl ?_
    refine jq_cpZ (jq_stat (avs := [jI p3]) (st := []) Γ hlY rfl ml_RX11_95 rfl rfl rfl rfl rfl dX11_pour_8) rfl (fun r h => ctX11_isTray h) (fun v7 hz8 => ?_)
    refine jq_if_eq (tgt := 28) Γ dX11_pour_11 rfl ?_ ?_
    · refine jq_sub Γ (L' := [(0, jR 0)]) [0] rfl ?_
      exact hj28_0 σ
    · refine jq_iload_n Γ dX11_pour_14 rfl 2 rfl ?_
      refine jq_if_lt (tgt := 28) Γ dX11_pour_15 rfl ?_ ?_
      · refine jq_sub Γ (L' := [(0, jR 0)]) [0] rfl ?_
        exact hj28_0 σ
      · refine jq_iload Γ dX11_pour_18 4 rfl ?_
        refine jq_if_lt (tgt := 28) Γ dX11_pour_20 rfl ?_ ?_
        · refine jq_sub Γ (L' := [(0, jR 0)]) [0] rfl ?_
          exact hj28_0 σ
        · refine jq_iload Γ dX11_pour_23 5 rfl ?_
          refine jq_if_ge (tgt := 34) Γ dX11_pour_25 rfl ?_ ?_
          · refine jq_aload_n Γ dX11_pour_34 rfl 0 rfl (jq_at_0 at_M_0) ?_
            refine jq_getR (v := 4) Γ hlY at_M_0 fl_RX11_24 rfl rfl ly_X11_trayMany dX11_pour_35 ?_
            refine jq_iload_n Γ dX11_pour_38 rfl 1 rfl ?_
            refine jq_iald Γ at_M_4 rfl dX11_pour_39 (fun v9 => ?_)
            refine jq_iconst Γ dX11_pour_40 rfl ?_
            refine jq_icmp_eq (tgt := 54) Γ dX11_pour_41 rfl ?_ ?_
            · refine jq_sub Γ (L' := [(0, jR 0)]) [0] rfl ?_
              exact hj54_0 σ
            · refine jq_aload_n Γ dX11_pour_44 rfl 0 rfl (jq_at_0 at_M_0) ?_
              refine jq_getR (v := 4) Γ hlY at_M_0 fl_RX11_24 rfl rfl ly_X11_trayMany dX11_pour_45 ?_
              refine jq_iload_n Γ dX11_pour_48 rfl 3 rfl ?_
              refine jq_iald Γ at_M_4 rfl dX11_pour_49 (fun v14 => ?_)
              refine jq_iconst Γ dX11_pour_50 rfl ?_
              refine jq_icmp_ne (tgt := 60) Γ dX11_pour_51 rfl ?_ ?_
              · refine jq_aload_n Γ dX11_pour_60 rfl 0 rfl (jq_at_0 at_M_0) ?_
                refine jq_getR (v := 3) Γ hlY at_M_0 fl_RX11_21 rfl rfl ly_X11_sort dX11_pour_61 ?_
                refine jq_iload_n Γ dX11_pour_64 rfl 1 rfl ?_
                refine jq_iald Γ at_M_3 rfl dX11_pour_65 (fun v15 => ?_)
                refine jq_aload_n Γ dX11_pour_66 rfl 0 rfl (jq_at_0 at_M_0) ?_
                refine jq_getR (v := 3) Γ hlY at_M_0 fl_RX11_21 rfl rfl ly_X11_sort dX11_pour_67 ?_
                refine jq_iload_n Γ dX11_pour_70 rfl 3 rfl ?_
                refine jq_iald Γ at_M_3 rfl dX11_pour_71 (fun v16 => ?_)
                refine jq_icmp_eq (tgt := 82) Γ dX11_pour_72 rfl ?_ ?_
                · refine jq_iload Γ dX11_pour_82 5 rfl ?_
                  refine jq_aload_n Γ dX11_pour_84 rfl 0 rfl (jq_at_0 at_M_0) ?_
                  refine jq_getR (v := 4) Γ hlY at_M_0 fl_RX11_24 rfl rfl ly_X11_trayMany dX11_pour_85 ?_
                  refine jq_iload_n Γ dX11_pour_88 rfl 1 rfl ?_
                  refine jq_iald Γ at_M_4 rfl dX11_pour_89 (fun v17 => ?_)
                  refine jq_iload_n Γ dX11_pour_90 rfl 2 rfl ?_
                  refine jq_isub Γ dX11_pour_91 ?_
                  refine jq_icmp_gt (tgt := 109) Γ dX11_pour_92 rfl ?_ ?_
                  · refine jq_sub Γ (L' := [(0, jR 0)]) [0] rfl ?_
                    exact hj109_0 σ
                  · refine jq_iload Γ dX11_pour_95 5 rfl ?_
                    refine jq_aload_n Γ dX11_pour_97 rfl 0 rfl (jq_at_0 at_M_0) ?_
                    refine jq_getR (v := 4) Γ hlY at_M_0 fl_RX11_24 rfl rfl ly_X11_trayMany dX11_pour_98 ?_
                    refine jq_iload_n Γ dX11_pour_101 rfl 3 rfl ?_
                    refine jq_iald Γ at_M_4 rfl dX11_pour_102 (fun v22 => ?_)
                    refine jq_iload Γ dX11_pour_103 4 rfl ?_
                    refine jq_isub Γ dX11_pour_105 ?_
                    refine jq_icmp_le (tgt := 115) Γ dX11_pour_106 rfl ?_ ?_
                    · refine jq_iconst Γ dX11_pour_115 rfl ?_
                      refine jq_istore (L' := [(6, jI 0), (0, jR 0), (1, jI p1), (2, jI p2), (3, jI p3), (4, jI p4), (5, jI p5)]) Γ dX11_pour_116 hnl rfl rfl ?_
                      refine jq_sub Γ (L' := [(0, jR 0), (1, jI p1), (2, jI p2), (3, jI p3), (4, jI p4), (5, jI p5), (6, jI 0)]) [1, 2, 3, 4, 5, 6, 0] rfl ?_
                      refine jq_loop2 (C := fun (t23 : Int × jq_M) => jq_V jq_zM X (jq_zN jq_zM) t23.2 118 [(0, jR 0), (1, jI p1), (2, jI p2), (3, jI p3), (4, jI p4), (5, jI p5), (6, jI t23.1)] []) (KX := fun (e30 : jq_M) => jq_V jq_zM X (jq_zN jq_zM) e30 180 [(0, jR 0)] []) ?_ ?_ (0, σ)
                      · intro K118_t23 hCt23 hXt23 t23
                        unfold X11_pour_b118
                        have hj143_1052 : ∀ (j24 : Int) (j25 : Int) (s26 : jq_M), jq_J (X11_pour_j143 p1 p2 p3 p4 p5 j24 j25 s26) K118_t23 (jq_V jq_zM X (jq_zN jq_zM) s26 143 [(0, jR 0), (1, jI p1), (2, jI p2), (3, jI p3), (4, jI p4), (5, jI p5), (6, jI j24)] [jI j25]) := by
                          intro j24 j25 s26
                          unfold X11_pour_j143
                          refine jq_istore (L' := [(7, jI j25), (0, jR 0), (1, jI p1), (2, jI p2), (3, jI p3), (4, jI p4), (5, jI p5), (6, jI j24)]) Γ dX11_pour_143 hnl rfl rfl ?_
                          refine jq_aload_n Γ dX11_pour_145 rfl 1 rfl (jq_at_0 at_M_0) ?_
                          refine jq_getR (v := 5) Γ hlY at_M_0 fl_RX11_27 rfl rfl ly_X11_trays dX11_pour_146 ?_
                          refine jq_bipush Γ dX11_pour_149 rfl ?_
                          refine jq_iload_n Γ dX11_pour_151 rfl 4 rfl ?_
                          refine jq_imul Γ dX11_pour_152 ?_
                          refine jq_iload Γ dX11_pour_153 5 rfl ?_
                          refine jq_iadd Γ dX11_pour_155 ?_
                          refine jq_iload Γ dX11_pour_156 0 rfl ?_
                          refine jq_iadd Γ dX11_pour_158 ?_
                          refine jq_aload_n Γ dX11_pour_159 rfl 1 rfl (jq_at_0 at_M_0) ?_
                          refine jq_getR (v := 5) Γ hlY at_M_0 fl_RX11_27 rfl rfl ly_X11_trays dX11_pour_160 ?_
                          refine jq_bipush Γ dX11_pour_163 rfl ?_
                          refine jq_iload_n Γ dX11_pour_165 rfl 2 rfl ?_
                          refine jq_imul Γ dX11_pour_166 ?_
                          refine jq_iload_n Γ dX11_pour_167 rfl 3 rfl ?_
                          refine jq_iadd Γ dX11_pour_168 ?_
                          refine jq_iload Γ dX11_pour_169 0 rfl ?_
                          refine jq_iadd Γ dX11_pour_171 ?_
                          refine jq_lald Γ at_M_5 rfl dX11_pour_172 (fun v27 => ?_)
                          refine jq_last Γ at_M_5 rfl dX11_pour_173 (fun s28 => ?_)
                          refine jq_iincN (L' := fun v29 => [(6, jI v29), (7, jI j25), (0, jR 0), (1, jI p1), (2, jI p2), (3, jI p3), (4, jI p4), (5, jI p5)]) Γ dX11_pour_174 7 rfl hnl rfl (fun _ => rfl) (fun v29 => ?_)
                          refine jq_goto Γ (tgt := 118) dX11_pour_177 rfl ?_
                          refine jq_sub Γ (L' := [(0, jR 0), (1, jI p1), (2, jI p2), (3, jI p3), (4, jI p4), (5, jI p5), (6, jI v29)]) [2, 3, 4, 5, 6, 7, 0] rfl ?_
                          exact jq_done (hCt23 (v29, s28))
                        refine jq_iload Γ dX11_pour_118 6 rfl ?_
                        refine jq_iload Γ dX11_pour_120 5 rfl ?_
                        refine jq_icmp_ge (tgt := 180) Γ dX11_pour_122 rfl ?_ ?_
                        · refine jq_sub Γ (L' := [(0, jR 0)]) [0] rfl ?_
                          exact jq_done (hXt23 t23.2)
                        · refine jq_iload_n Γ dX11_pour_125 rfl 2 rfl ?_
                          refine jq_iload Γ dX11_pour_126 4 rfl ?_
                          refine jq_icmp_ge (tgt := 141) Γ dX11_pour_128 rfl ?_ ?_
                          · refine jq_iload Γ dX11_pour_141 6 rfl ?_
                            exact hj143_1052 t23.1 t23.1 t23.2
                          · refine jq_iload Γ dX11_pour_131 5 rfl ?_
                            refine jq_iconst Γ dX11_pour_133 rfl ?_
                            refine jq_isub Γ dX11_pour_134 ?_
                            refine jq_iload Γ dX11_pour_135 6 rfl ?_
                            refine jq_isub Γ dX11_pour_137 ?_
                            refine jq_goto Γ (tgt := 143) dX11_pour_138 rfl ?_
                            exact hj143_1052 t23.1 (jq_w ((jq_w (p5 - 1)) - t23.1)) t23.2
                      · intro e30
                        refine jq_aload_n Γ dX11_pour_180 rfl 0 rfl (jq_at_0 at_M_0) ?_
                        refine jq_iconst Γ dX11_pour_181 rfl ?_
                        refine jq_cwZ (jq_virt (avs := [jI 0]) (st := []) Γ hlY rfl ml_RX11_91 rfl at_M_0 rfl rfl rfl rfl rfl dX11_pour_182) rfl (fun r σ' h => ctX11_is h) (fun v31 s32 hz33 => ?_)
                        exact jq_zreturn Γ (hz33) dX11_pour_185 (hK0 _)
                    · refine jq_sub Γ (L' := [(0, jR 0)]) [0] rfl ?_
                      exact hj109_0 σ
                · refine jq_aload_n Γ dX11_pour_75 rfl 0 rfl (jq_at_0 at_M_0) ?_
                  refine jq_bipush Γ dX11_pour_76 rfl ?_
                  refine jq_cwZ (jq_virt (avs := [jI 8]) (st := []) Γ hlY rfl ml_RX11_91 rfl at_M_0 rfl rfl rfl rfl rfl dX11_pour_78) rfl (fun r σ' h => ctX11_is h) (fun v34 s35 hz36 => ?_)
                  exact jq_zreturn Γ (hz36) dX11_pour_81 (hK0 _)
              · refine jq_sub Γ (L' := [(0, jR 0)]) [0] rfl ?_
                exact hj54_0 σ
          · refine jq_sub Γ (L' := [(0, jR 0)]) [0] rfl ?_
            exact hj28_0 σ


theorem dX11_isFrom_0 : decode cX11_isFrom 0 = .ok (.lload_n 0, 1) := by decide +kernel
theorem dX11_isFrom_1 : decode cX11_isFrom 1 = .ok (.lload_n 2, 1) := by decide +kernel
theorem dX11_isFrom_2 : decode cX11_isFrom 2 = .ok (.lcmp, 1) := by decide +kernel
theorem dX11_isFrom_3 : decode cX11_isFrom 3 = .ok (.ifCond .lt 14, 3) := by decide +kernel
theorem dX11_isFrom_6 : decode cX11_isFrom 6 = .ok (.lload_n 0, 1) := by decide +kernel
theorem dX11_isFrom_7 : decode cX11_isFrom 7 = .ok (.lload 4, 2) := by decide +kernel
theorem dX11_isFrom_9 : decode cX11_isFrom 9 = .ok (.lcmp, 1) := by decide +kernel
theorem dX11_isFrom_10 : decode cX11_isFrom 10 = .ok (.ifCond .gt 7, 3) := by decide +kernel
theorem dX11_isFrom_13 : decode cX11_isFrom 13 = .ok (.iconst 1, 1) := by decide +kernel
theorem dX11_isFrom_14 : decode cX11_isFrom 14 = .ok (.goto 4, 3) := by decide +kernel
theorem dX11_isFrom_17 : decode cX11_isFrom 17 = .ok (.iconst 0, 1) := by decide +kernel
theorem dX11_isFrom_18 : decode cX11_isFrom 18 = .ok (.ireturn, 1) := by decide +kernel
set_option maxHeartbeats 4000000 in
set_option maxRecDepth 100000 in
theorem ctX11_isFrom {p0 : Int} {p2 : Int} {p4 : Int} {σ : jq_M} {res : Int}  (h : X11_isFrom p0 p2 p4 σ = some res) : jq_MC jq_zM yX11_isFrom cX11_isFrom 6 (some .boolean) 1 40 [jL p0, jL p2, jL p4] σ (some (jI res)) σ := by
  refine jq_met (own := RX11) (L0 := [(0, jL p0), (2, jL p2), (4, jL p4)]) (by decide) rfl rfl rfl ?_
  intro X Γ hnl hlY hRT
  refine jq_use2 (P := fun r => jq_RT jq_zM X (some .boolean) (some (jI r)) σ) ?_ h hRT
  intro K0 hK0
  unfold X11_isFrom
  refine jq_lload_n Γ dX11_isFrom_0 rfl 0 rfl ?_
  refine jq_lload_n Γ dX11_isFrom_1 rfl 1 rfl ?_
  refine jq_lcmp Γ dX11_isFrom_2 ?_
  refine jq_if_lt (tgt := 17) Γ dX11_isFrom_3 rfl ?_ ?_
  · refine jq_iconst Γ dX11_isFrom_17 rfl ?_
    exact jq_zreturn Γ (Or.inl rfl) dX11_isFrom_18 (hK0 _)
  · refine jq_lload_n Γ dX11_isFrom_6 rfl 0 rfl ?_
    refine jq_lload Γ dX11_isFrom_7 2 rfl ?_
    refine jq_lcmp Γ dX11_isFrom_9 ?_
    refine jq_if_gt (tgt := 17) Γ dX11_isFrom_10 rfl ?_ ?_
    · refine jq_iconst Γ dX11_isFrom_17 rfl ?_
      exact jq_zreturn Γ (Or.inl rfl) dX11_isFrom_18 (hK0 _)
    · refine jq_iconst Γ dX11_isFrom_13 rfl ?_
      refine jq_goto Γ (tgt := 18) dX11_isFrom_14 rfl ?_
      exact jq_zreturn Γ (Or.inr rfl) dX11_isFrom_18 (hK0 _)


theorem dX11_four_0 : decode cX11_four 0 = .ok (.bipush 24, 2) := by decide +kernel
theorem dX11_four_2 : decode cX11_four 2 = .ok (.istore_n 2, 1) := by decide +kernel
theorem dX11_four_3 : decode cX11_four 3 = .ok (.iload_n 2, 1) := by decide +kernel
theorem dX11_four_4 : decode cX11_four 4 = .ok (.ifCond .lt 32, 3) := by decide +kernel
theorem dX11_four_7 : decode cX11_four 7 = .ok (.aload_n 0, 1) := by decide +kernel
theorem dX11_four_8 : decode cX11_four 8 = .ok (.getfield 30, 3) := by decide +kernel
theorem dX11_four_11 : decode cX11_four 11 = .ok (.aload_n 0, 1) := by decide +kernel
theorem dX11_four_12 : decode cX11_four 12 = .ok (.getfield 108, 3) := by decide +kernel
theorem dX11_four_15 : decode cX11_four 15 = .ok (.iload_n 1, 1) := by decide +kernel
theorem dX11_four_16 : decode cX11_four 16 = .ok (.iload_n 2, 1) := by decide +kernel
theorem dX11_four_17 : decode cX11_four 17 = .ok (.ishr, 1) := by decide +kernel
theorem dX11_four_18 : decode cX11_four 18 = .ok (.i2b, 1) := by decide +kernel
theorem dX11_four_19 : decode cX11_four 19 = .ok (.bastore, 1) := by decide +kernel
theorem dX11_four_20 : decode cX11_four 20 = .ok (.aload_n 0, 1) := by decide +kernel
theorem dX11_four_21 : decode cX11_four 21 = .ok (.dup, 1) := by decide +kernel
theorem dX11_four_22 : decode cX11_four 22 = .ok (.getfield 108, 3) := by decide +kernel
theorem dX11_four_25 : decode cX11_four 25 = .ok (.iconst 1, 1) := by decide +kernel
theorem dX11_four_26 : decode cX11_four 26 = .ok (.iadd, 1) := by decide +kernel
theorem dX11_four_27 : decode cX11_four 27 = .ok (.putfield 108, 3) := by decide +kernel
theorem dX11_four_30 : decode cX11_four 30 = .ok (.iinc 2 (-8), 3) := by decide +kernel
theorem dX11_four_33 : decode cX11_four 33 = .ok (.goto (-30), 3) := by decide +kernel
theorem dX11_four_36 : decode cX11_four 36 = .ok (.return_, 1) := by decide +kernel
set_option maxHeartbeats 4000000 in
set_option maxRecDepth 100000 in
theorem ctX11_four {p1 : Int} {σ : jq_M} {σ' : jq_M}  (h : X11_four p1 σ = some σ') : jq_MC jq_zM yX11_four cX11_four 3 none 1 40 [jR 0, jI p1] σ none σ' := by
  refine jq_met (own := RX11) (L0 := [(0, jR 0), (1, jI p1)]) (by decide) rfl rfl rfl ?_
  intro X Γ hnl hlY hRT
  refine jq_use2 (P := fun r => jq_RT jq_zM X none none r) ?_ h hRT
  intro K0 hK0
  unfold X11_four
  refine jq_bipush Γ dX11_four_0 rfl ?_
  refine jq_istore_n (L' := [(2, jI 24), (0, jR 0), (1, jI p1)]) Γ dX11_four_2 rfl hnl rfl rfl ?_
  refine jq_sub Γ (L' := [(0, jR 0), (1, jI p1), (2, jI 24)]) [1, 2, 0] rfl ?_
  refine jq_loop2 (C := fun (t1 : Int × jq_M) => jq_V jq_zM X (jq_zN jq_zM) t1.2 3 [(0, jR 0), (1, jI p1), (2, jI t1.1)] []) (KX := fun (e5 : jq_M) => jq_V jq_zM X (jq_zN jq_zM) e5 36 [] []) ?_ ?_ (24, σ)
  · intro K3_t1 hCt1 hXt1 t1
    unfold X11_four_b3
    refine jq_iload_n Γ dX11_four_3 rfl 2 rfl ?_
    refine jq_if_lt (tgt := 36) Γ dX11_four_4 rfl ?_ ?_
    · refine jq_sub Γ (L' := []) [] rfl ?_
      exact jq_done (hXt1 t1.2)
    · refine jq_aload_n Γ dX11_four_7 rfl 0 rfl (jq_at_0 at_M_0) ?_
      refine jq_getR (v := 6) Γ hlY at_M_0 fl_RX11_30 rfl rfl ly_X11_tape dX11_four_8 ?_
      refine jq_aload_n Γ dX11_four_11 rfl 0 rfl (jq_at_0 at_M_0) ?_
      refine jq_getI (J := 10) Γ at_M_0 fl_RX11_108 rfl rfl dX11_four_12 ?_
      refine jq_iload_n Γ dX11_four_15 rfl 1 rfl ?_
      refine jq_iload_n Γ dX11_four_16 rfl 2 rfl ?_
      refine jq_ishr Γ dX11_four_17 ?_
      refine jq_i2b Γ dX11_four_18 ?_
      refine jq_bast Γ at_M_6 rfl dX11_four_19 (fun s2 => ?_)
      refine jq_aload_n Γ dX11_four_20 rfl 0 rfl (jq_at_0 at_M_0) ?_
      refine jq_dup Γ dX11_four_21 rfl ?_
      refine jq_getI (J := 10) Γ at_M_0 fl_RX11_108 rfl rfl dX11_four_22 ?_
      refine jq_iconst Γ dX11_four_25 rfl ?_
      refine jq_iadd Γ dX11_four_26 ?_
      refine jq_putI Γ at_M_0 fl_RX11_108 rfl rfl dX11_four_27 (fun s3 => ?_)
      refine jq_iincN (L' := fun v4 => [(2, jI v4), (0, jR 0), (1, jI p1)]) Γ dX11_four_30 2 rfl hnl rfl (fun _ => rfl) (fun v4 => ?_)
      refine jq_goto Γ (tgt := 3) dX11_four_33 rfl ?_
      refine jq_sub Γ (L' := [(0, jR 0), (1, jI p1), (2, jI v4)]) [1, 2, 0] rfl ?_
      exact jq_done (hCt1 (v4, s3))
  · intro e5
    exact jq_vreturn Γ dX11_four_36 (hK0 _)


theorem dX11_feed_0 : decode cX11_feed 0 = .ok (.aload_n 0, 1) := by decide +kernel
theorem dX11_feed_1 : decode cX11_feed 1 = .ok (.getfield 108, 3) := by decide +kernel
theorem dX11_feed_4 : decode cX11_feed 4 = .ok (.bipush 20, 2) := by decide +kernel
theorem dX11_feed_6 : decode cX11_feed 6 = .ok (.iadd, 1) := by decide +kernel
theorem dX11_feed_7 : decode cX11_feed 7 = .ok (.sipush 900, 3) := by decide +kernel
theorem dX11_feed_10 : decode cX11_feed 10 = .ok (.if_icmp .le 5, 3) := by decide +kernel
theorem dX11_feed_13 : decode cX11_feed 13 = .ok (.iconst (-1), 1) := by decide +kernel
theorem dX11_feed_14 : decode cX11_feed 14 = .ok (.ireturn, 1) := by decide +kernel
theorem dX11_feed_15 : decode cX11_feed 15 = .ok (.aload_n 0, 1) := by decide +kernel
theorem dX11_feed_16 : decode cX11_feed 16 = .ok (.iload_n 1, 1) := by decide +kernel
theorem dX11_feed_17 : decode cX11_feed 17 = .ok (.invokevirtual 111, 3) := by decide +kernel
theorem dX11_feed_20 : decode cX11_feed 20 = .ok (.aload_n 0, 1) := by decide +kernel
theorem dX11_feed_21 : decode cX11_feed 21 = .ok (.iload_n 2, 1) := by decide +kernel
theorem dX11_feed_22 : decode cX11_feed 22 = .ok (.invokevirtual 111, 3) := by decide +kernel
theorem dX11_feed_25 : decode cX11_feed 25 = .ok (.aload_n 0, 1) := by decide +kernel
theorem dX11_feed_26 : decode cX11_feed 26 = .ok (.iload_n 3, 1) := by decide +kernel
theorem dX11_feed_27 : decode cX11_feed 27 = .ok (.invokevirtual 111, 3) := by decide +kernel
theorem dX11_feed_30 : decode cX11_feed 30 = .ok (.aload_n 0, 1) := by decide +kernel
theorem dX11_feed_31 : decode cX11_feed 31 = .ok (.iload 4, 2) := by decide +kernel
theorem dX11_feed_33 : decode cX11_feed 33 = .ok (.invokevirtual 111, 3) := by decide +kernel
theorem dX11_feed_36 : decode cX11_feed 36 = .ok (.aload_n 0, 1) := by decide +kernel
theorem dX11_feed_37 : decode cX11_feed 37 = .ok (.iload 5, 2) := by decide +kernel
theorem dX11_feed_39 : decode cX11_feed 39 = .ok (.invokevirtual 111, 3) := by decide +kernel
theorem dX11_feed_42 : decode cX11_feed 42 = .ok (.aload_n 0, 1) := by decide +kernel
theorem dX11_feed_43 : decode cX11_feed 43 = .ok (.getfield 108, 3) := by decide +kernel
theorem dX11_feed_46 : decode cX11_feed 46 = .ok (.ireturn, 1) := by decide +kernel
set_option maxHeartbeats 4000000 in
set_option maxRecDepth 100000 in
theorem ctX11_feed {p1 : Int} {p2 : Int} {p3 : Int} {p4 : Int} {p5 : Int} {σ : jq_M} {res : Int} {σ' : jq_M}  (h : X11_feed p1 p2 p3 p4 p5 σ = some (res, σ')) : jq_MC jq_zM yX11_feed cX11_feed 6 (some .int) 2 62 [jR 0, jI p1, jI p2, jI p3, jI p4, jI p5] σ (some (jI res)) σ' := by
  refine jq_met (own := RX11) (L0 := [(0, jR 0), (1, jI p1), (2, jI p2), (3, jI p3), (4, jI p4), (5, jI p5)]) (by decide) rfl rfl rfl ?_
  intro X Γ hnl hlY hRT
  refine jq_use2 (P := fun r => jq_RT jq_zM X (some .int) (some (jI r.1)) r.2) ?_ h hRT
  intro K0 hK0
  unfold X11_feed
  refine jq_aload_n Γ dX11_feed_0 rfl 0 rfl (jq_at_0 at_M_0) ?_
  refine jq_getI (J := 10) Γ at_M_0 fl_RX11_108 rfl rfl dX11_feed_1 ?_
  refine jq_bipush Γ dX11_feed_4 rfl ?_
  refine jq_iadd Γ dX11_feed_6 ?_
  refine jq_sipush Γ dX11_feed_7 rfl ?_
  refine jq_icmp_le (tgt := 15) Γ dX11_feed_10 rfl ?_ ?_
  · refine jq_aload_n Γ dX11_feed_15 rfl 0 rfl (jq_at_0 at_M_0) ?_
    refine jq_iload_n Γ dX11_feed_16 rfl 1 rfl ?_
    refine jq_cwV (jq_virt (avs := [jI p1]) (st := []) Γ hlY rfl ml_RX11_111 rfl at_M_0 rfl rfl rfl rfl rfl dX11_feed_17) (fun σ' h => ctX11_four h) (fun s1 => ?_)
    refine jq_aload_n Γ dX11_feed_20 rfl 0 rfl (jq_at_0 at_M_0) ?_
    refine jq_iload_n Γ dX11_feed_21 rfl 2 rfl ?_
    refine jq_cwV (jq_virt (avs := [jI p2]) (st := []) Γ hlY rfl ml_RX11_111 rfl at_M_0 rfl rfl rfl rfl rfl dX11_feed_22) (fun σ' h => ctX11_four h) (fun s2 => ?_)
    refine jq_aload_n Γ dX11_feed_25 rfl 0 rfl (jq_at_0 at_M_0) ?_
    refine jq_iload_n Γ dX11_feed_26 rfl 3 rfl ?_
    refine jq_cwV (jq_virt (avs := [jI p3]) (st := []) Γ hlY rfl ml_RX11_111 rfl at_M_0 rfl rfl rfl rfl rfl dX11_feed_27) (fun σ' h => ctX11_four h) (fun s3 => ?_)
    refine jq_aload_n Γ dX11_feed_30 rfl 0 rfl (jq_at_0 at_M_0) ?_
    refine jq_iload Γ dX11_feed_31 4 rfl ?_
    refine jq_cwV (jq_virt (avs := [jI p4]) (st := []) Γ hlY rfl ml_RX11_111 rfl at_M_0 rfl rfl rfl rfl rfl dX11_feed_33) (fun σ' h => ctX11_four h) (fun s4 => ?_)
    refine jq_aload_n Γ dX11_feed_36 rfl 0 rfl (jq_at_0 at_M_0) ?_
    refine jq_iload Γ dX11_feed_37 5 rfl ?_
    refine jq_cwV (jq_virt (avs := [jI p5]) (st := []) Γ hlY rfl ml_RX11_111 rfl at_M_0 rfl rfl rfl rfl rfl dX11_feed_39) (fun σ' h => ctX11_four h) (fun s5 => ?_)
    refine jq_aload_n Γ dX11_feed_42 rfl 0 rfl (jq_at_0 at_M_0) ?_
    refine jq_getI (J := 10) Γ at_M_0 fl_RX11_108 rfl rfl dX11_feed_43 ?_
    exact jq_ireturn Γ dX11_feed_46 (hK0 _)
  · refine jq_iconst Γ dX11_feed_13 rfl ?_
    exact jq_ireturn Γ dX11_feed_14 (hK0 _)


theorem dX11_byteAt_0 : decode cX11_byteAt 0 = .ok (.iload_n 1, 1) := by decide +kernel
theorem dX11_byteAt_1 : decode cX11_byteAt 1 = .ok (.aload_n 0, 1) := by decide +kernel
theorem dX11_byteAt_2 : decode cX11_byteAt 2 = .ok (.getfield 114, 3) := by decide +kernel
theorem dX11_byteAt_5 : decode cX11_byteAt 5 = .ok (.if_icmp .ge 16, 3) := by decide +kernel
theorem dX11_byteAt_8 : decode cX11_byteAt 8 = .ok (.aload_n 0, 1) := by decide +kernel
theorem dX11_byteAt_9 : decode cX11_byteAt 9 = .ok (.getfield 34, 3) := by decide +kernel
theorem dX11_byteAt_12 : decode cX11_byteAt 12 = .ok (.iload_n 1, 1) := by decide +kernel
theorem dX11_byteAt_13 : decode cX11_byteAt 13 = .ok (.baload, 1) := by decide +kernel
theorem dX11_byteAt_14 : decode cX11_byteAt 14 = .ok (.sipush 255, 3) := by decide +kernel
theorem dX11_byteAt_17 : decode cX11_byteAt 17 = .ok (.iand, 1) := by decide +kernel
theorem dX11_byteAt_18 : decode cX11_byteAt 18 = .ok (.goto 4, 3) := by decide +kernel
theorem dX11_byteAt_21 : decode cX11_byteAt 21 = .ok (.iconst (-1), 1) := by decide +kernel
theorem dX11_byteAt_22 : decode cX11_byteAt 22 = .ok (.ireturn, 1) := by decide +kernel
set_option maxHeartbeats 4000000 in
set_option maxRecDepth 100000 in
theorem ctX11_byteAt {p1 : Int} {σ : jq_M} {res : Int}  (h : X11_byteAt p1 σ = some res) : jq_MC jq_zM yX11_byteAt cX11_byteAt 2 (some .int) 1 40 [jR 0, jI p1] σ (some (jI res)) σ := by
  refine jq_met (own := RX11) (L0 := [(0, jR 0), (1, jI p1)]) (by decide) rfl rfl rfl ?_
  intro X Γ hnl hlY hRT
  refine jq_use2 (P := fun r => jq_RT jq_zM X (some .int) (some (jI r)) σ) ?_ h hRT
  intro K0 hK0
  unfold X11_byteAt
  refine jq_iload_n Γ dX11_byteAt_0 rfl 1 rfl ?_
  refine jq_aload_n Γ dX11_byteAt_1 rfl 0 rfl (jq_at_0 at_M_0) ?_
  refine jq_getI (J := 11) Γ at_M_0 fl_RX11_114 rfl rfl dX11_byteAt_2 ?_
  refine jq_icmp_ge (tgt := 21) Γ dX11_byteAt_5 rfl ?_ ?_
  · refine jq_iconst Γ dX11_byteAt_21 rfl ?_
    exact jq_ireturn Γ dX11_byteAt_22 (hK0 _)
  · refine jq_aload_n Γ dX11_byteAt_8 rfl 0 rfl (jq_at_0 at_M_0) ?_
    refine jq_getR (v := 7) Γ hlY at_M_0 fl_RX11_34 rfl rfl ly_X11_text dX11_byteAt_9 ?_
    refine jq_iload_n Γ dX11_byteAt_12 rfl 1 rfl ?_
    refine jq_bald Γ at_M_7 rfl dX11_byteAt_13 (fun v1 => ?_)
    refine jq_sipush Γ dX11_byteAt_14 rfl ?_
    refine jq_iand Γ dX11_byteAt_17 ?_
    refine jq_goto Γ (tgt := 22) dX11_byteAt_18 rfl ?_
    exact jq_ireturn Γ dX11_byteAt_22 (hK0 _)


theorem dX11_isSmall_0 : decode cX11_isSmall 0 = .ok (.iload_n 0, 1) := by decide +kernel
theorem dX11_isSmall_1 : decode cX11_isSmall 1 = .ok (.bipush 97, 2) := by decide +kernel
theorem dX11_isSmall_3 : decode cX11_isSmall 3 = .ok (.if_icmp .lt 13, 3) := by decide +kernel
theorem dX11_isSmall_6 : decode cX11_isSmall 6 = .ok (.iload_n 0, 1) := by decide +kernel
theorem dX11_isSmall_7 : decode cX11_isSmall 7 = .ok (.bipush 122, 2) := by decide +kernel
theorem dX11_isSmall_9 : decode cX11_isSmall 9 = .ok (.if_icmp .gt 7, 3) := by decide +kernel
theorem dX11_isSmall_12 : decode cX11_isSmall 12 = .ok (.iconst 1, 1) := by decide +kernel
theorem dX11_isSmall_13 : decode cX11_isSmall 13 = .ok (.goto 4, 3) := by decide +kernel
theorem dX11_isSmall_16 : decode cX11_isSmall 16 = .ok (.iconst 0, 1) := by decide +kernel
theorem dX11_isSmall_17 : decode cX11_isSmall 17 = .ok (.ireturn, 1) := by decide +kernel
set_option maxHeartbeats 4000000 in
set_option maxRecDepth 100000 in
theorem ctX11_isSmall {p0 : Int} {σ : jq_M} {res : Int}  (h : X11_isSmall p0 σ = some res) : jq_MC jq_zM yX11_isSmall cX11_isSmall 1 (some .boolean) 1 40 [jI p0] σ (some (jI res)) σ := by
  refine jq_met (own := RX11) (L0 := [(0, jI p0)]) (by decide) rfl rfl rfl ?_
  intro X Γ hnl hlY hRT
  refine jq_use2 (P := fun r => jq_RT jq_zM X (some .boolean) (some (jI r)) σ) ?_ h hRT
  intro K0 hK0
  unfold X11_isSmall
  refine jq_iload_n Γ dX11_isSmall_0 rfl 0 rfl ?_
  refine jq_bipush Γ dX11_isSmall_1 rfl ?_
  refine jq_icmp_lt (tgt := 16) Γ dX11_isSmall_3 rfl ?_ ?_
  · refine jq_iconst Γ dX11_isSmall_16 rfl ?_
    exact jq_zreturn Γ (Or.inl rfl) dX11_isSmall_17 (hK0 _)
  · refine jq_iload_n Γ dX11_isSmall_6 rfl 0 rfl ?_
    refine jq_bipush Γ dX11_isSmall_7 rfl ?_
    refine jq_icmp_gt (tgt := 16) Γ dX11_isSmall_9 rfl ?_ ?_
    · refine jq_iconst Γ dX11_isSmall_16 rfl ?_
      exact jq_zreturn Γ (Or.inl rfl) dX11_isSmall_17 (hK0 _)
    · refine jq_iconst Γ dX11_isSmall_12 rfl ?_
      refine jq_goto Γ (tgt := 17) dX11_isSmall_13 rfl ?_
      exact jq_zreturn Γ (Or.inr rfl) dX11_isSmall_17 (hK0 _)


theorem dX11_isDigit_0 : decode cX11_isDigit 0 = .ok (.iload_n 0, 1) := by decide +kernel
theorem dX11_isDigit_1 : decode cX11_isDigit 1 = .ok (.bipush 48, 2) := by decide +kernel
theorem dX11_isDigit_3 : decode cX11_isDigit 3 = .ok (.if_icmp .lt 13, 3) := by decide +kernel
theorem dX11_isDigit_6 : decode cX11_isDigit 6 = .ok (.iload_n 0, 1) := by decide +kernel
theorem dX11_isDigit_7 : decode cX11_isDigit 7 = .ok (.bipush 57, 2) := by decide +kernel
theorem dX11_isDigit_9 : decode cX11_isDigit 9 = .ok (.if_icmp .gt 7, 3) := by decide +kernel
theorem dX11_isDigit_12 : decode cX11_isDigit 12 = .ok (.iconst 1, 1) := by decide +kernel
theorem dX11_isDigit_13 : decode cX11_isDigit 13 = .ok (.goto 4, 3) := by decide +kernel
theorem dX11_isDigit_16 : decode cX11_isDigit 16 = .ok (.iconst 0, 1) := by decide +kernel
theorem dX11_isDigit_17 : decode cX11_isDigit 17 = .ok (.ireturn, 1) := by decide +kernel
set_option maxHeartbeats 4000000 in
set_option maxRecDepth 100000 in
theorem ctX11_isDigit {p0 : Int} {σ : jq_M} {res : Int}  (h : X11_isDigit p0 σ = some res) : jq_MC jq_zM yX11_isDigit cX11_isDigit 1 (some .boolean) 1 40 [jI p0] σ (some (jI res)) σ := by
  refine jq_met (own := RX11) (L0 := [(0, jI p0)]) (by decide) rfl rfl rfl ?_
  intro X Γ hnl hlY hRT
  refine jq_use2 (P := fun r => jq_RT jq_zM X (some .boolean) (some (jI r)) σ) ?_ h hRT
  intro K0 hK0
  unfold X11_isDigit
  refine jq_iload_n Γ dX11_isDigit_0 rfl 0 rfl ?_
  refine jq_bipush Γ dX11_isDigit_1 rfl ?_
  refine jq_icmp_lt (tgt := 16) Γ dX11_isDigit_3 rfl ?_ ?_
  · refine jq_iconst Γ dX11_isDigit_16 rfl ?_
    exact jq_zreturn Γ (Or.inl rfl) dX11_isDigit_17 (hK0 _)
  · refine jq_iload_n Γ dX11_isDigit_6 rfl 0 rfl ?_
    refine jq_bipush Γ dX11_isDigit_7 rfl ?_
    refine jq_icmp_gt (tgt := 16) Γ dX11_isDigit_9 rfl ?_ ?_
    · refine jq_iconst Γ dX11_isDigit_16 rfl ?_
      exact jq_zreturn Γ (Or.inl rfl) dX11_isDigit_17 (hK0 _)
    · refine jq_iconst Γ dX11_isDigit_12 rfl ?_
      refine jq_goto Γ (tgt := 17) dX11_isDigit_13 rfl ?_
      exact jq_zreturn Γ (Or.inr rfl) dX11_isDigit_17 (hK0 _)


theorem dX11_ahead_0 : decode cX11_ahead 0 = .ok (.aload_n 0, 1) := by decide +kernel
theorem dX11_ahead_1 : decode cX11_ahead 1 = .ok (.aload_n 0, 1) := by decide +kernel
theorem dX11_ahead_2 : decode cX11_ahead 2 = .ok (.getfield 117, 3) := by decide +kernel
theorem dX11_ahead_5 : decode cX11_ahead 5 = .ok (.invokevirtual 120, 3) := by decide +kernel
theorem dX11_ahead_8 : decode cX11_ahead 8 = .ok (.bipush 32, 2) := by decide +kernel
theorem dX11_ahead_10 : decode cX11_ahead 10 = .ok (.if_icmp .eq 16, 3) := by decide +kernel
theorem dX11_ahead_13 : decode cX11_ahead 13 = .ok (.aload_n 0, 1) := by decide +kernel
theorem dX11_ahead_14 : decode cX11_ahead 14 = .ok (.aload_n 0, 1) := by decide +kernel
theorem dX11_ahead_15 : decode cX11_ahead 15 = .ok (.getfield 117, 3) := by decide +kernel
theorem dX11_ahead_18 : decode cX11_ahead 18 = .ok (.invokevirtual 120, 3) := by decide +kernel
theorem dX11_ahead_21 : decode cX11_ahead 21 = .ok (.bipush 10, 2) := by decide +kernel
theorem dX11_ahead_23 : decode cX11_ahead 23 = .ok (.if_icmp .ne 16, 3) := by decide +kernel
theorem dX11_ahead_26 : decode cX11_ahead 26 = .ok (.aload_n 0, 1) := by decide +kernel
theorem dX11_ahead_27 : decode cX11_ahead 27 = .ok (.dup, 1) := by decide +kernel
theorem dX11_ahead_28 : decode cX11_ahead 28 = .ok (.getfield 117, 3) := by decide +kernel
theorem dX11_ahead_31 : decode cX11_ahead 31 = .ok (.iconst 1, 1) := by decide +kernel
theorem dX11_ahead_32 : decode cX11_ahead 32 = .ok (.iadd, 1) := by decide +kernel
theorem dX11_ahead_33 : decode cX11_ahead 33 = .ok (.putfield 117, 3) := by decide +kernel
theorem dX11_ahead_36 : decode cX11_ahead 36 = .ok (.goto (-36), 3) := by decide +kernel
theorem dX11_ahead_39 : decode cX11_ahead 39 = .ok (.aload_n 0, 1) := by decide +kernel
theorem dX11_ahead_40 : decode cX11_ahead 40 = .ok (.aload_n 0, 1) := by decide +kernel
theorem dX11_ahead_41 : decode cX11_ahead 41 = .ok (.getfield 117, 3) := by decide +kernel
theorem dX11_ahead_44 : decode cX11_ahead 44 = .ok (.putfield 123, 3) := by decide +kernel
theorem dX11_ahead_47 : decode cX11_ahead 47 = .ok (.aload_n 0, 1) := by decide +kernel
theorem dX11_ahead_48 : decode cX11_ahead 48 = .ok (.aload_n 0, 1) := by decide +kernel
theorem dX11_ahead_49 : decode cX11_ahead 49 = .ok (.getfield 117, 3) := by decide +kernel
theorem dX11_ahead_52 : decode cX11_ahead 52 = .ok (.invokevirtual 120, 3) := by decide +kernel
theorem dX11_ahead_55 : decode cX11_ahead 55 = .ok (.istore_n 1, 1) := by decide +kernel
theorem dX11_ahead_56 : decode cX11_ahead 56 = .ok (.aload_n 0, 1) := by decide +kernel
theorem dX11_ahead_57 : decode cX11_ahead 57 = .ok (.iload_n 1, 1) := by decide +kernel
theorem dX11_ahead_58 : decode cX11_ahead 58 = .ok (.putfield 126, 3) := by decide +kernel
theorem dX11_ahead_61 : decode cX11_ahead 61 = .ok (.iload_n 1, 1) := by decide +kernel
theorem dX11_ahead_62 : decode cX11_ahead 62 = .ok (.iconst (-1), 1) := by decide +kernel
theorem dX11_ahead_63 : decode cX11_ahead 63 = .ok (.if_icmp .ne 11, 3) := by decide +kernel
theorem dX11_ahead_66 : decode cX11_ahead 66 = .ok (.aload_n 0, 1) := by decide +kernel
theorem dX11_ahead_67 : decode cX11_ahead 67 = .ok (.iconst 0, 1) := by decide +kernel
theorem dX11_ahead_68 : decode cX11_ahead 68 = .ok (.putfield 129, 3) := by decide +kernel
theorem dX11_ahead_71 : decode cX11_ahead 71 = .ok (.goto 180, 3) := by decide +kernel
theorem dX11_ahead_74 : decode cX11_ahead 74 = .ok (.iload_n 1, 1) := by decide +kernel
theorem dX11_ahead_75 : decode cX11_ahead 75 = .ok (.invokestatic 132, 3) := by decide +kernel
theorem dX11_ahead_78 : decode cX11_ahead 78 = .ok (.ifCond .eq 38, 3) := by decide +kernel
theorem dX11_ahead_81 : decode cX11_ahead 81 = .ok (.aload_n 0, 1) := by decide +kernel
theorem dX11_ahead_82 : decode cX11_ahead 82 = .ok (.aload_n 0, 1) := by decide +kernel
theorem dX11_ahead_83 : decode cX11_ahead 83 = .ok (.getfield 117, 3) := by decide +kernel
theorem dX11_ahead_86 : decode cX11_ahead 86 = .ok (.invokevirtual 120, 3) := by decide +kernel
theorem dX11_ahead_89 : decode cX11_ahead 89 = .ok (.invokestatic 132, 3) := by decide +kernel
theorem dX11_ahead_92 : decode cX11_ahead 92 = .ok (.ifCond .eq 16, 3) := by decide +kernel
theorem dX11_ahead_95 : decode cX11_ahead 95 = .ok (.aload_n 0, 1) := by decide +kernel
theorem dX11_ahead_96 : decode cX11_ahead 96 = .ok (.dup, 1) := by decide +kernel
theorem dX11_ahead_97 : decode cX11_ahead 97 = .ok (.getfield 117, 3) := by decide +kernel
theorem dX11_ahead_100 : decode cX11_ahead 100 = .ok (.iconst 1, 1) := by decide +kernel
theorem dX11_ahead_101 : decode cX11_ahead 101 = .ok (.iadd, 1) := by decide +kernel
theorem dX11_ahead_102 : decode cX11_ahead 102 = .ok (.putfield 117, 3) := by decide +kernel
theorem dX11_ahead_105 : decode cX11_ahead 105 = .ok (.goto (-24), 3) := by decide +kernel
theorem dX11_ahead_108 : decode cX11_ahead 108 = .ok (.aload_n 0, 1) := by decide +kernel
theorem dX11_ahead_109 : decode cX11_ahead 109 = .ok (.iconst 2, 1) := by decide +kernel
theorem dX11_ahead_110 : decode cX11_ahead 110 = .ok (.putfield 129, 3) := by decide +kernel
theorem dX11_ahead_113 : decode cX11_ahead 113 = .ok (.goto 138, 3) := by decide +kernel
theorem dX11_ahead_116 : decode cX11_ahead 116 = .ok (.iload_n 1, 1) := by decide +kernel
theorem dX11_ahead_117 : decode cX11_ahead 117 = .ok (.invokestatic 135, 3) := by decide +kernel
theorem dX11_ahead_120 : decode cX11_ahead 120 = .ok (.ifCond .eq 88, 3) := by decide +kernel
theorem dX11_ahead_123 : decode cX11_ahead 123 = .ok (.aload_n 0, 1) := by decide +kernel
theorem dX11_ahead_124 : decode cX11_ahead 124 = .ok (.iconst 0, 1) := by decide +kernel
theorem dX11_ahead_125 : decode cX11_ahead 125 = .ok (.putfield 126, 3) := by decide +kernel
theorem dX11_ahead_128 : decode cX11_ahead 128 = .ok (.aload_n 0, 1) := by decide +kernel
theorem dX11_ahead_129 : decode cX11_ahead 129 = .ok (.aload_n 0, 1) := by decide +kernel
theorem dX11_ahead_130 : decode cX11_ahead 130 = .ok (.getfield 117, 3) := by decide +kernel
theorem dX11_ahead_133 : decode cX11_ahead 133 = .ok (.invokevirtual 120, 3) := by decide +kernel
theorem dX11_ahead_136 : decode cX11_ahead 136 = .ok (.invokestatic 135, 3) := by decide +kernel
theorem dX11_ahead_139 : decode cX11_ahead 139 = .ok (.ifCond .eq 44, 3) := by decide +kernel
theorem dX11_ahead_142 : decode cX11_ahead 142 = .ok (.aload_n 0, 1) := by decide +kernel
theorem dX11_ahead_143 : decode cX11_ahead 143 = .ok (.ldc 138, 2) := by decide +kernel
theorem dX11_ahead_145 : decode cX11_ahead 145 = .ok (.bipush 10, 2) := by decide +kernel
theorem dX11_ahead_147 : decode cX11_ahead 147 = .ok (.aload_n 0, 1) := by decide +kernel
theorem dX11_ahead_148 : decode cX11_ahead 148 = .ok (.getfield 126, 3) := by decide +kernel
theorem dX11_ahead_151 : decode cX11_ahead 151 = .ok (.imul, 1) := by decide +kernel
theorem dX11_ahead_152 : decode cX11_ahead 152 = .ok (.aload_n 0, 1) := by decide +kernel
theorem dX11_ahead_153 : decode cX11_ahead 153 = .ok (.aload_n 0, 1) := by decide +kernel
theorem dX11_ahead_154 : decode cX11_ahead 154 = .ok (.getfield 117, 3) := by decide +kernel
theorem dX11_ahead_157 : decode cX11_ahead 157 = .ok (.invokevirtual 120, 3) := by decide +kernel
theorem dX11_ahead_160 : decode cX11_ahead 160 = .ok (.iadd, 1) := by decide +kernel
theorem dX11_ahead_161 : decode cX11_ahead 161 = .ok (.bipush 48, 2) := by decide +kernel
theorem dX11_ahead_163 : decode cX11_ahead 163 = .ok (.isub, 1) := by decide +kernel
theorem dX11_ahead_164 : decode cX11_ahead 164 = .ok (.invokestatic 139, 3) := by decide +kernel
theorem dX11_ahead_167 : decode cX11_ahead 167 = .ok (.putfield 126, 3) := by decide +kernel
theorem dX11_ahead_170 : decode cX11_ahead 170 = .ok (.aload_n 0, 1) := by decide +kernel
theorem dX11_ahead_171 : decode cX11_ahead 171 = .ok (.dup, 1) := by decide +kernel
theorem dX11_ahead_172 : decode cX11_ahead 172 = .ok (.getfield 117, 3) := by decide +kernel
theorem dX11_ahead_175 : decode cX11_ahead 175 = .ok (.iconst 1, 1) := by decide +kernel
theorem dX11_ahead_176 : decode cX11_ahead 176 = .ok (.iadd, 1) := by decide +kernel
theorem dX11_ahead_177 : decode cX11_ahead 177 = .ok (.putfield 117, 3) := by decide +kernel
theorem dX11_ahead_180 : decode cX11_ahead 180 = .ok (.goto (-52), 3) := by decide +kernel
theorem dX11_ahead_183 : decode cX11_ahead 183 = .ok (.aload_n 0, 1) := by decide +kernel
theorem dX11_ahead_184 : decode cX11_ahead 184 = .ok (.aload_n 0, 1) := by decide +kernel
theorem dX11_ahead_185 : decode cX11_ahead 185 = .ok (.getfield 117, 3) := by decide +kernel
theorem dX11_ahead_188 : decode cX11_ahead 188 = .ok (.aload_n 0, 1) := by decide +kernel
theorem dX11_ahead_189 : decode cX11_ahead 189 = .ok (.getfield 123, 3) := by decide +kernel
theorem dX11_ahead_192 : decode cX11_ahead 192 = .ok (.isub, 1) := by decide +kernel
theorem dX11_ahead_193 : decode cX11_ahead 193 = .ok (.iconst 4, 1) := by decide +kernel
theorem dX11_ahead_194 : decode cX11_ahead 194 = .ok (.if_icmp .le 7, 3) := by decide +kernel
theorem dX11_ahead_197 : decode cX11_ahead 197 = .ok (.iconst 1, 1) := by decide +kernel
theorem dX11_ahead_198 : decode cX11_ahead 198 = .ok (.goto 4, 3) := by decide +kernel
theorem dX11_ahead_201 : decode cX11_ahead 201 = .ok (.iconst 3, 1) := by decide +kernel
theorem dX11_ahead_202 : decode cX11_ahead 202 = .ok (.putfield 129, 3) := by decide +kernel
theorem dX11_ahead_205 : decode cX11_ahead 205 = .ok (.goto 46, 3) := by decide +kernel
theorem dX11_ahead_208 : decode cX11_ahead 208 = .ok (.aload_n 0, 1) := by decide +kernel
theorem dX11_ahead_209 : decode cX11_ahead 209 = .ok (.dup, 1) := by decide +kernel
theorem dX11_ahead_210 : decode cX11_ahead 210 = .ok (.getfield 117, 3) := by decide +kernel
theorem dX11_ahead_213 : decode cX11_ahead 213 = .ok (.iconst 1, 1) := by decide +kernel
theorem dX11_ahead_214 : decode cX11_ahead 214 = .ok (.iadd, 1) := by decide +kernel
theorem dX11_ahead_215 : decode cX11_ahead 215 = .ok (.putfield 117, 3) := by decide +kernel
theorem dX11_ahead_218 : decode cX11_ahead 218 = .ok (.aload_n 0, 1) := by decide +kernel
theorem dX11_ahead_219 : decode cX11_ahead 219 = .ok (.iload_n 1, 1) := by decide +kernel
theorem dX11_ahead_220 : decode cX11_ahead 220 = .ok (.bipush 59, 2) := by decide +kernel
theorem dX11_ahead_222 : decode cX11_ahead 222 = .ok (.if_icmp .eq 21, 3) := by decide +kernel
theorem dX11_ahead_225 : decode cX11_ahead 225 = .ok (.iload_n 1, 1) := by decide +kernel
theorem dX11_ahead_226 : decode cX11_ahead 226 = .ok (.bipush 60, 2) := by decide +kernel
theorem dX11_ahead_228 : decode cX11_ahead 228 = .ok (.if_icmp .eq 15, 3) := by decide +kernel
theorem dX11_ahead_231 : decode cX11_ahead 231 = .ok (.iload_n 1, 1) := by decide +kernel
theorem dX11_ahead_232 : decode cX11_ahead 232 = .ok (.bipush 62, 2) := by decide +kernel
theorem dX11_ahead_234 : decode cX11_ahead 234 = .ok (.if_icmp .eq 9, 3) := by decide +kernel
theorem dX11_ahead_237 : decode cX11_ahead 237 = .ok (.iload_n 1, 1) := by decide +kernel
theorem dX11_ahead_238 : decode cX11_ahead 238 = .ok (.bipush 61, 2) := by decide +kernel
theorem dX11_ahead_240 : decode cX11_ahead 240 = .ok (.if_icmp .ne 7, 3) := by decide +kernel
theorem dX11_ahead_243 : decode cX11_ahead 243 = .ok (.iconst 4, 1) := by decide +kernel
theorem dX11_ahead_244 : decode cX11_ahead 244 = .ok (.goto 4, 3) := by decide +kernel
theorem dX11_ahead_247 : decode cX11_ahead 247 = .ok (.iconst 1, 1) := by decide +kernel
theorem dX11_ahead_248 : decode cX11_ahead 248 = .ok (.putfield 129, 3) := by decide +kernel
theorem dX11_ahead_251 : decode cX11_ahead 251 = .ok (.return_, 1) := by decide +kernel
set_option maxHeartbeats 4000000 in
set_option maxRecDepth 100000 in
theorem ctX11_ahead  {σ : jq_M} {σ' : jq_M}  (h : X11_ahead σ = some σ') : jq_MC jq_zM yX11_ahead cX11_ahead 2 none 2 61 [jR 0] σ none σ' := by
  refine jq_met (own := RX11) (L0 := [(0, jR 0)]) (by decide) rfl rfl rfl ?_
  intro X Γ hnl hlY hRT
  refine jq_use2 (P := fun r => jq_RT jq_zM X none none r) ?_ h hRT
  intro K0 hK0
  unfold X11_ahead
  refine jq_loop2 (C := fun (t1 : jq_M) => jq_V jq_zM X (jq_zN jq_zM) t1 0 [(0, jR 0)] []) (KX := fun (e6 : jq_M) => jq_V jq_zM X (jq_zN jq_zM) e6 39 [(0, jR 0)] []) ?_ ?_ σ
  · intro K0_t1 hCt1 hXt1 t1
    unfold X11_ahead_b0
    refine jq_aload_n Γ dX11_ahead_0 rfl 0 rfl (jq_at_0 at_M_0) ?_
    refine jq_aload_n Γ dX11_ahead_1 rfl 0 rfl (jq_at_0 at_M_0) ?_
    refine jq_getI (J := 14) Γ at_M_0 fl_RX11_117 rfl rfl dX11_ahead_2 ?_
    refine jq_cpI (jq_virt (avs := [jI (t1 0 14)]) (st := []) Γ hlY rfl ml_RX11_120 rfl at_M_0 rfl rfl rfl rfl rfl dX11_ahead_5) (fun r h => ctX11_byteAt h) (fun v2 => ?_)
    refine jq_bipush Γ dX11_ahead_8 rfl ?_
    refine jq_icmp_eq (tgt := 26) Γ dX11_ahead_10 rfl ?_ ?_
    · refine jq_aload_n Γ dX11_ahead_26 rfl 0 rfl (jq_at_0 at_M_0) ?_
      refine jq_dup Γ dX11_ahead_27 rfl ?_
      refine jq_getI (J := 14) Γ at_M_0 fl_RX11_117 rfl rfl dX11_ahead_28 ?_
      refine jq_iconst Γ dX11_ahead_31 rfl ?_
      refine jq_iadd Γ dX11_ahead_32 ?_
      refine jq_putI Γ at_M_0 fl_RX11_117 rfl rfl dX11_ahead_33 (fun s3 => ?_)
      refine jq_goto Γ (tgt := 0) dX11_ahead_36 rfl ?_
      exact jq_done (hCt1 s3)
    · refine jq_aload_n Γ dX11_ahead_13 rfl 0 rfl (jq_at_0 at_M_0) ?_
      refine jq_aload_n Γ dX11_ahead_14 rfl 0 rfl (jq_at_0 at_M_0) ?_
      refine jq_getI (J := 14) Γ at_M_0 fl_RX11_117 rfl rfl dX11_ahead_15 ?_
      refine jq_cpI (jq_virt (avs := [jI (t1 0 14)]) (st := []) Γ hlY rfl ml_RX11_120 rfl at_M_0 rfl rfl rfl rfl rfl dX11_ahead_18) (fun r h => ctX11_byteAt h) (fun v4 => ?_)
      refine jq_bipush Γ dX11_ahead_21 rfl ?_
      refine jq_icmp_ne (tgt := 39) Γ dX11_ahead_23 rfl ?_ ?_
      · exact jq_done (hXt1 t1)
      · refine jq_aload_n Γ dX11_ahead_26 rfl 0 rfl (jq_at_0 at_M_0) ?_
        refine jq_dup Γ dX11_ahead_27 rfl ?_
        refine jq_getI (J := 14) Γ at_M_0 fl_RX11_117 rfl rfl dX11_ahead_28 ?_
        refine jq_iconst Γ dX11_ahead_31 rfl ?_
        refine jq_iadd Γ dX11_ahead_32 ?_
        refine jq_putI Γ at_M_0 fl_RX11_117 rfl rfl dX11_ahead_33 (fun s5 => ?_)
        refine jq_goto Γ (tgt := 0) dX11_ahead_36 rfl ?_
        exact jq_done (hCt1 s5)
  · intro e6
    refine jq_aload_n Γ dX11_ahead_39 rfl 0 rfl (jq_at_0 at_M_0) ?_
    refine jq_aload_n Γ dX11_ahead_40 rfl 0 rfl (jq_at_0 at_M_0) ?_
    refine jq_getI (J := 14) Γ at_M_0 fl_RX11_117 rfl rfl dX11_ahead_41 ?_
    refine jq_putI Γ at_M_0 fl_RX11_123 rfl rfl dX11_ahead_44 (fun s7 => ?_)
    refine jq_aload_n Γ dX11_ahead_47 rfl 0 rfl (jq_at_0 at_M_0) ?_
    refine jq_aload_n Γ dX11_ahead_48 rfl 0 rfl (jq_at_0 at_M_0) ?_
    refine jq_getI (J := 14) Γ at_M_0 fl_RX11_117 rfl rfl dX11_ahead_49 ?_
    refine jq_cpI (jq_virt (avs := [jI (s7 0 14)]) (st := []) Γ hlY rfl ml_RX11_120 rfl at_M_0 rfl rfl rfl rfl rfl dX11_ahead_52) (fun r h => ctX11_byteAt h) (fun v8 => ?_)
    refine jq_istore_n (L' := [(1, jI v8), (0, jR 0)]) Γ dX11_ahead_55 rfl hnl rfl rfl ?_
    refine jq_aload_n Γ dX11_ahead_56 rfl 1 rfl (jq_at_0 at_M_0) ?_
    refine jq_iload_n Γ dX11_ahead_57 rfl 0 rfl ?_
    refine jq_putI Γ at_M_0 fl_RX11_126 rfl rfl dX11_ahead_58 (fun s9 => ?_)
    refine jq_iload_n Γ dX11_ahead_61 rfl 0 rfl ?_
    refine jq_iconst Γ dX11_ahead_62 rfl ?_
    refine jq_icmp_ne (tgt := 74) Γ dX11_ahead_63 rfl ?_ ?_
    · refine jq_iload_n Γ dX11_ahead_74 rfl 0 rfl ?_
      refine jq_cpZ (jq_stat (avs := [jI v8]) (st := []) Γ hlY rfl ml_RX11_132 rfl rfl rfl rfl rfl dX11_ahead_75) rfl (fun r h => ctX11_isSmall h) (fun v10 hz11 => ?_)
      refine jq_if_eq (tgt := 116) Γ dX11_ahead_78 rfl ?_ ?_
      · refine jq_iload_n Γ dX11_ahead_116 rfl 0 rfl ?_
        refine jq_cpZ (jq_stat (avs := [jI v8]) (st := []) Γ hlY rfl ml_RX11_135 rfl rfl rfl rfl rfl dX11_ahead_117) rfl (fun r h => ctX11_isDigit h) (fun v12 hz13 => ?_)
        refine jq_if_eq (tgt := 208) Γ dX11_ahead_120 rfl ?_ ?_
        · refine jq_aload_n Γ dX11_ahead_208 rfl 1 rfl (jq_at_0 at_M_0) ?_
          refine jq_dup Γ dX11_ahead_209 rfl ?_
          refine jq_getI (J := 14) Γ at_M_0 fl_RX11_117 rfl rfl dX11_ahead_210 ?_
          refine jq_iconst Γ dX11_ahead_213 rfl ?_
          refine jq_iadd Γ dX11_ahead_214 ?_
          refine jq_putI Γ at_M_0 fl_RX11_117 rfl rfl dX11_ahead_215 (fun s14 => ?_)
          refine jq_aload_n Γ dX11_ahead_218 rfl 1 rfl (jq_at_0 at_M_0) ?_
          refine jq_iload_n Γ dX11_ahead_219 rfl 0 rfl ?_
          refine jq_bipush Γ dX11_ahead_220 rfl ?_
          refine jq_icmp_eq (tgt := 243) Γ dX11_ahead_222 rfl ?_ ?_
          · refine jq_iconst Γ dX11_ahead_243 rfl ?_
            refine jq_goto Γ (tgt := 248) dX11_ahead_244 rfl ?_
            refine jq_putI Γ at_M_0 fl_RX11_129 rfl rfl dX11_ahead_248 (fun s15 => ?_)
            exact jq_vreturn Γ dX11_ahead_251 (hK0 _)
          · refine jq_iload_n Γ dX11_ahead_225 rfl 0 rfl ?_
            refine jq_bipush Γ dX11_ahead_226 rfl ?_
            refine jq_icmp_eq (tgt := 243) Γ dX11_ahead_228 rfl ?_ ?_
            · refine jq_iconst Γ dX11_ahead_243 rfl ?_
              refine jq_goto Γ (tgt := 248) dX11_ahead_244 rfl ?_
              refine jq_putI Γ at_M_0 fl_RX11_129 rfl rfl dX11_ahead_248 (fun s16 => ?_)
              exact jq_vreturn Γ dX11_ahead_251 (hK0 _)
            · refine jq_iload_n Γ dX11_ahead_231 rfl 0 rfl ?_
              refine jq_bipush Γ dX11_ahead_232 rfl ?_
              refine jq_icmp_eq (tgt := 243) Γ dX11_ahead_234 rfl ?_ ?_
              · refine jq_iconst Γ dX11_ahead_243 rfl ?_
                refine jq_goto Γ (tgt := 248) dX11_ahead_244 rfl ?_
                refine jq_putI Γ at_M_0 fl_RX11_129 rfl rfl dX11_ahead_248 (fun s17 => ?_)
                exact jq_vreturn Γ dX11_ahead_251 (hK0 _)
              · refine jq_iload_n Γ dX11_ahead_237 rfl 0 rfl ?_
                refine jq_bipush Γ dX11_ahead_238 rfl ?_
                refine jq_icmp_ne (tgt := 247) Γ dX11_ahead_240 rfl ?_ ?_
                · refine jq_iconst Γ dX11_ahead_247 rfl ?_
                  refine jq_putI Γ at_M_0 fl_RX11_129 rfl rfl dX11_ahead_248 (fun s18 => ?_)
                  exact jq_vreturn Γ dX11_ahead_251 (hK0 _)
                · refine jq_iconst Γ dX11_ahead_243 rfl ?_
                  refine jq_goto Γ (tgt := 248) dX11_ahead_244 rfl ?_
                  refine jq_putI Γ at_M_0 fl_RX11_129 rfl rfl dX11_ahead_248 (fun s19 => ?_)
                  exact jq_vreturn Γ dX11_ahead_251 (hK0 _)
        · refine jq_aload_n Γ dX11_ahead_123 rfl 1 rfl (jq_at_0 at_M_0) ?_
          refine jq_iconst Γ dX11_ahead_124 rfl ?_
          refine jq_putI Γ at_M_0 fl_RX11_126 rfl rfl dX11_ahead_125 (fun s20 => ?_)
          refine jq_sub Γ (L' := [(0, jR 0)]) [1] rfl ?_
          refine jq_loop2 (C := fun (t21 : jq_M) => jq_V jq_zM X (jq_zN jq_zM) t21 128 [(0, jR 0)] []) (KX := fun (e28 : jq_M) => jq_V jq_zM X (jq_zN jq_zM) e28 183 [(0, jR 0)] []) ?_ ?_ s20
          · intro K128_t21 hCt21 hXt21 t21
            unfold X11_ahead_b128
            refine jq_aload_n Γ dX11_ahead_128 rfl 0 rfl (jq_at_0 at_M_0) ?_
            refine jq_aload_n Γ dX11_ahead_129 rfl 0 rfl (jq_at_0 at_M_0) ?_
            refine jq_getI (J := 14) Γ at_M_0 fl_RX11_117 rfl rfl dX11_ahead_130 ?_
            refine jq_cpI (jq_virt (avs := [jI (t21 0 14)]) (st := []) Γ hlY rfl ml_RX11_120 rfl at_M_0 rfl rfl rfl rfl rfl dX11_ahead_133) (fun r h => ctX11_byteAt h) (fun v22 => ?_)
            refine jq_cpZ (jq_stat (avs := [jI v22]) (st := []) Γ hlY rfl ml_RX11_135 rfl rfl rfl rfl rfl dX11_ahead_136) rfl (fun r h => ctX11_isDigit h) (fun v23 hz24 => ?_)
            refine jq_if_eq (tgt := 183) Γ dX11_ahead_139 rfl ?_ ?_
            · exact jq_done (hXt21 t21)
            · refine jq_aload_n Γ dX11_ahead_142 rfl 0 rfl (jq_at_0 at_M_0) ?_
              refine jq_ldc Γ 100000 dX11_ahead_143 kc_RX11_138 rfl ?_
              refine jq_bipush Γ dX11_ahead_145 rfl ?_
              refine jq_aload_n Γ dX11_ahead_147 rfl 0 rfl (jq_at_0 at_M_0) ?_
              refine jq_getI (J := 15) Γ at_M_0 fl_RX11_126 rfl rfl dX11_ahead_148 ?_
              refine jq_imul Γ dX11_ahead_151 ?_
              refine jq_aload_n Γ dX11_ahead_152 rfl 0 rfl (jq_at_0 at_M_0) ?_
              refine jq_aload_n Γ dX11_ahead_153 rfl 0 rfl (jq_at_0 at_M_0) ?_
              refine jq_getI (J := 14) Γ at_M_0 fl_RX11_117 rfl rfl dX11_ahead_154 ?_
              refine jq_cpI (jq_virt (avs := [jI (t21 0 14)]) (st := [jI (jq_w (10 * (t21 0 15))), jI 100000, jR 0]) Γ hlY rfl ml_RX11_120 rfl at_M_0 rfl rfl rfl rfl rfl dX11_ahead_157) (fun r h => ctX11_byteAt h) (fun v25 => ?_)
              refine jq_iadd Γ dX11_ahead_160 ?_
              refine jq_bipush Γ dX11_ahead_161 rfl ?_
              refine jq_isub Γ dX11_ahead_163 ?_
              refine jq_mmin Γ mw_RX11_139 mws_min mwi mwc_min rfl rfl dX11_ahead_164 ?_
              refine jq_putI Γ at_M_0 fl_RX11_126 rfl rfl dX11_ahead_167 (fun s26 => ?_)
              refine jq_aload_n Γ dX11_ahead_170 rfl 0 rfl (jq_at_0 at_M_0) ?_
              refine jq_dup Γ dX11_ahead_171 rfl ?_
              refine jq_getI (J := 14) Γ at_M_0 fl_RX11_117 rfl rfl dX11_ahead_172 ?_
              refine jq_iconst Γ dX11_ahead_175 rfl ?_
              refine jq_iadd Γ dX11_ahead_176 ?_
              refine jq_putI Γ at_M_0 fl_RX11_117 rfl rfl dX11_ahead_177 (fun s27 => ?_)
              refine jq_goto Γ (tgt := 128) dX11_ahead_180 rfl ?_
              exact jq_done (hCt21 s27)
          · intro e28
            refine jq_aload_n Γ dX11_ahead_183 rfl 0 rfl (jq_at_0 at_M_0) ?_
            refine jq_aload_n Γ dX11_ahead_184 rfl 0 rfl (jq_at_0 at_M_0) ?_
            refine jq_getI (J := 14) Γ at_M_0 fl_RX11_117 rfl rfl dX11_ahead_185 ?_
            refine jq_aload_n Γ dX11_ahead_188 rfl 0 rfl (jq_at_0 at_M_0) ?_
            refine jq_getI (J := 13) Γ at_M_0 fl_RX11_123 rfl rfl dX11_ahead_189 ?_
            refine jq_isub Γ dX11_ahead_192 ?_
            refine jq_iconst Γ dX11_ahead_193 rfl ?_
            refine jq_icmp_le (tgt := 201) Γ dX11_ahead_194 rfl ?_ ?_
            · refine jq_iconst Γ dX11_ahead_201 rfl ?_
              refine jq_putI Γ at_M_0 fl_RX11_129 rfl rfl dX11_ahead_202 (fun s29 => ?_)
              refine jq_goto Γ (tgt := 251) dX11_ahead_205 rfl ?_
              exact jq_vreturn Γ dX11_ahead_251 (hK0 _)
            · refine jq_iconst Γ dX11_ahead_197 rfl ?_
              refine jq_goto Γ (tgt := 202) dX11_ahead_198 rfl ?_
              refine jq_putI Γ at_M_0 fl_RX11_129 rfl rfl dX11_ahead_202 (fun s30 => ?_)
              refine jq_goto Γ (tgt := 251) dX11_ahead_205 rfl ?_
              exact jq_vreturn Γ dX11_ahead_251 (hK0 _)
      · refine jq_sub Γ (L' := [(0, jR 0)]) [1] rfl ?_
        refine jq_loop2 (C := fun (t31 : jq_M) => jq_V jq_zM X (jq_zN jq_zM) t31 81 [(0, jR 0)] []) (KX := fun (e36 : jq_M) => jq_V jq_zM X (jq_zN jq_zM) e36 108 [(0, jR 0)] []) ?_ ?_ s9
        · intro K81_t31 hCt31 hXt31 t31
          unfold X11_ahead_b81
          refine jq_aload_n Γ dX11_ahead_81 rfl 0 rfl (jq_at_0 at_M_0) ?_
          refine jq_aload_n Γ dX11_ahead_82 rfl 0 rfl (jq_at_0 at_M_0) ?_
          refine jq_getI (J := 14) Γ at_M_0 fl_RX11_117 rfl rfl dX11_ahead_83 ?_
          refine jq_cpI (jq_virt (avs := [jI (t31 0 14)]) (st := []) Γ hlY rfl ml_RX11_120 rfl at_M_0 rfl rfl rfl rfl rfl dX11_ahead_86) (fun r h => ctX11_byteAt h) (fun v32 => ?_)
          refine jq_cpZ (jq_stat (avs := [jI v32]) (st := []) Γ hlY rfl ml_RX11_132 rfl rfl rfl rfl rfl dX11_ahead_89) rfl (fun r h => ctX11_isSmall h) (fun v33 hz34 => ?_)
          refine jq_if_eq (tgt := 108) Γ dX11_ahead_92 rfl ?_ ?_
          · exact jq_done (hXt31 t31)
          · refine jq_aload_n Γ dX11_ahead_95 rfl 0 rfl (jq_at_0 at_M_0) ?_
            refine jq_dup Γ dX11_ahead_96 rfl ?_
            refine jq_getI (J := 14) Γ at_M_0 fl_RX11_117 rfl rfl dX11_ahead_97 ?_
            refine jq_iconst Γ dX11_ahead_100 rfl ?_
            refine jq_iadd Γ dX11_ahead_101 ?_
            refine jq_putI Γ at_M_0 fl_RX11_117 rfl rfl dX11_ahead_102 (fun s35 => ?_)
            refine jq_goto Γ (tgt := 81) dX11_ahead_105 rfl ?_
            exact jq_done (hCt31 s35)
        · intro e36
          refine jq_aload_n Γ dX11_ahead_108 rfl 0 rfl (jq_at_0 at_M_0) ?_
          refine jq_iconst Γ dX11_ahead_109 rfl ?_
          refine jq_putI Γ at_M_0 fl_RX11_129 rfl rfl dX11_ahead_110 (fun s37 => ?_)
          refine jq_goto Γ (tgt := 251) dX11_ahead_113 rfl ?_
          exact jq_vreturn Γ dX11_ahead_251 (hK0 _)
    · refine jq_aload_n Γ dX11_ahead_66 rfl 1 rfl (jq_at_0 at_M_0) ?_
      refine jq_iconst Γ dX11_ahead_67 rfl ?_
      refine jq_putI Γ at_M_0 fl_RX11_129 rfl rfl dX11_ahead_68 (fun s38 => ?_)
      refine jq_goto Γ (tgt := 251) dX11_ahead_71 rfl ?_
      exact jq_vreturn Γ dX11_ahead_251 (hK0 _)


theorem dX11_isSign_0 : decode cX11_isSign 0 = .ok (.aload_n 0, 1) := by decide +kernel
theorem dX11_isSign_1 : decode cX11_isSign 1 = .ok (.getfield 129, 3) := by decide +kernel
theorem dX11_isSign_4 : decode cX11_isSign 4 = .ok (.iconst 4, 1) := by decide +kernel
theorem dX11_isSign_5 : decode cX11_isSign 5 = .ok (.if_icmp .ne 15, 3) := by decide +kernel
theorem dX11_isSign_8 : decode cX11_isSign 8 = .ok (.aload_n 0, 1) := by decide +kernel
theorem dX11_isSign_9 : decode cX11_isSign 9 = .ok (.getfield 126, 3) := by decide +kernel
theorem dX11_isSign_12 : decode cX11_isSign 12 = .ok (.iload_n 1, 1) := by decide +kernel
theorem dX11_isSign_13 : decode cX11_isSign 13 = .ok (.if_icmp .ne 7, 3) := by decide +kernel
theorem dX11_isSign_16 : decode cX11_isSign 16 = .ok (.iconst 1, 1) := by decide +kernel
theorem dX11_isSign_17 : decode cX11_isSign 17 = .ok (.goto 4, 3) := by decide +kernel
theorem dX11_isSign_20 : decode cX11_isSign 20 = .ok (.iconst 0, 1) := by decide +kernel
theorem dX11_isSign_21 : decode cX11_isSign 21 = .ok (.ireturn, 1) := by decide +kernel
set_option maxHeartbeats 4000000 in
set_option maxRecDepth 100000 in
theorem ctX11_isSign {p1 : Int} {σ : jq_M} {res : Int}  (h : X11_isSign p1 σ = some res) : jq_MC jq_zM yX11_isSign cX11_isSign 2 (some .boolean) 1 40 [jR 0, jI p1] σ (some (jI res)) σ := by
  refine jq_met (own := RX11) (L0 := [(0, jR 0), (1, jI p1)]) (by decide) rfl rfl rfl ?_
  intro X Γ hnl hlY hRT
  refine jq_use2 (P := fun r => jq_RT jq_zM X (some .boolean) (some (jI r)) σ) ?_ h hRT
  intro K0 hK0
  unfold X11_isSign
  refine jq_aload_n Γ dX11_isSign_0 rfl 0 rfl (jq_at_0 at_M_0) ?_
  refine jq_getI (J := 12) Γ at_M_0 fl_RX11_129 rfl rfl dX11_isSign_1 ?_
  refine jq_iconst Γ dX11_isSign_4 rfl ?_
  refine jq_icmp_ne (tgt := 20) Γ dX11_isSign_5 rfl ?_ ?_
  · refine jq_iconst Γ dX11_isSign_20 rfl ?_
    exact jq_zreturn Γ (Or.inl rfl) dX11_isSign_21 (hK0 _)
  · refine jq_aload_n Γ dX11_isSign_8 rfl 0 rfl (jq_at_0 at_M_0) ?_
    refine jq_getI (J := 15) Γ at_M_0 fl_RX11_126 rfl rfl dX11_isSign_9 ?_
    refine jq_iload_n Γ dX11_isSign_12 rfl 1 rfl ?_
    refine jq_icmp_ne (tgt := 20) Γ dX11_isSign_13 rfl ?_ ?_
    · refine jq_iconst Γ dX11_isSign_20 rfl ?_
      exact jq_zreturn Γ (Or.inl rfl) dX11_isSign_21 (hK0 _)
    · refine jq_iconst Γ dX11_isSign_16 rfl ?_
      refine jq_goto Γ (tgt := 21) dX11_isSign_17 rfl ?_
      exact jq_zreturn Γ (Or.inr rfl) dX11_isSign_21 (hK0 _)


