theorem fl_RX11_513 : jq_fl RX11 513 8 37 36 false := ⟨RX11, TX11, tyX11, cls_X11, by decide, jq_in 1598 (by decide +kernel) rfl, by decide⟩
theorem yf_X11_copies : Cond.instanceMethod yX11_copies ∈ jq_T ∧ Cond.selects (yX11_copies).cls yX11_copies yX11_copies ∈ jq_T ∧ Cond.initialized (yX11_copies).cls ∈ jq_T ∧ Cond.code yX11_copies cX11_copies 4 none ∈ jq_T ∧ ((yX11_copies).cls ≠ "java/lang/invoke/MethodHandle" ∧ (yX11_copies).cls ≠ "java/lang/invoke/VarHandle" ∧ (parseMethodDescriptor (yX11_copies).desc).map (fun d => d.parameters.length) = some 2) := ⟨jq_in 2380 (by decide +kernel) rfl, jq_in 136 (by decide +kernel) rfl, jq_in 150 (by decide +kernel) rfl, jq_in 2381 (by decide +kernel) rfl, ⟨by decide, by decide, by decide +kernel⟩⟩
theorem ml_RX11_516 : jq_vl RX11 516 yX11_copies cX11_copies 4 none 2 := ⟨jq_in 2378 (by decide +kernel) rfl, yf_X11_copies⟩
theorem dX11_copies_0 : decode cX11_copies 0 = .ok (.iconst 0, 1) := by decide +kernel
theorem dX11_copies_1 : decode cX11_copies 1 = .ok (.istore_n 3, 1) := by decide +kernel
theorem dX11_copies_2 : decode cX11_copies 2 = .ok (.iload_n 3, 1) := by decide +kernel
theorem dX11_copies_3 : decode cX11_copies 3 = .ok (.sipush 506, 3) := by decide +kernel
theorem dX11_copies_6 : decode cX11_copies 6 = .ok (.if_icmp .ge 33, 3) := by decide +kernel
theorem dX11_copies_9 : decode cX11_copies 9 = .ok (.aload_n 0, 1) := by decide +kernel
theorem dX11_copies_10 : decode cX11_copies 10 = .ok (.getfield 7, 3) := by decide +kernel
theorem dX11_copies_13 : decode cX11_copies 13 = .ok (.sipush 506, 3) := by decide +kernel
theorem dX11_copies_16 : decode cX11_copies 16 = .ok (.iload_n 2, 1) := by decide +kernel
theorem dX11_copies_17 : decode cX11_copies 17 = .ok (.imul, 1) := by decide +kernel
theorem dX11_copies_18 : decode cX11_copies 18 = .ok (.iload_n 3, 1) := by decide +kernel
theorem dX11_copies_19 : decode cX11_copies 19 = .ok (.iadd, 1) := by decide +kernel
theorem dX11_copies_20 : decode cX11_copies 20 = .ok (.aload_n 0, 1) := by decide +kernel
theorem dX11_copies_21 : decode cX11_copies 21 = .ok (.getfield 7, 3) := by decide +kernel
theorem dX11_copies_24 : decode cX11_copies 24 = .ok (.sipush 506, 3) := by decide +kernel
theorem dX11_copies_27 : decode cX11_copies 27 = .ok (.iload_n 1, 1) := by decide +kernel
theorem dX11_copies_28 : decode cX11_copies 28 = .ok (.imul, 1) := by decide +kernel
theorem dX11_copies_29 : decode cX11_copies 29 = .ok (.iload_n 3, 1) := by decide +kernel
theorem dX11_copies_30 : decode cX11_copies 30 = .ok (.iadd, 1) := by decide +kernel
theorem dX11_copies_31 : decode cX11_copies 31 = .ok (.iaload, 1) := by decide +kernel
theorem dX11_copies_32 : decode cX11_copies 32 = .ok (.iastore, 1) := by decide +kernel
theorem dX11_copies_33 : decode cX11_copies 33 = .ok (.iinc 3 1, 3) := by decide +kernel
theorem dX11_copies_36 : decode cX11_copies 36 = .ok (.goto (-34), 3) := by decide +kernel
theorem dX11_copies_39 : decode cX11_copies 39 = .ok (.iconst 0, 1) := by decide +kernel
theorem dX11_copies_40 : decode cX11_copies 40 = .ok (.istore_n 3, 1) := by decide +kernel
theorem dX11_copies_41 : decode cX11_copies 41 = .ok (.iload_n 3, 1) := by decide +kernel
theorem dX11_copies_42 : decode cX11_copies 42 = .ok (.bipush 13, 2) := by decide +kernel
theorem dX11_copies_44 : decode cX11_copies 44 = .ok (.if_icmp .ge 31, 3) := by decide +kernel
theorem dX11_copies_47 : decode cX11_copies 47 = .ok (.aload_n 0, 1) := by decide +kernel
theorem dX11_copies_48 : decode cX11_copies 48 = .ok (.getfield 13, 3) := by decide +kernel
theorem dX11_copies_51 : decode cX11_copies 51 = .ok (.bipush 13, 2) := by decide +kernel
theorem dX11_copies_53 : decode cX11_copies 53 = .ok (.iload_n 2, 1) := by decide +kernel
theorem dX11_copies_54 : decode cX11_copies 54 = .ok (.imul, 1) := by decide +kernel
theorem dX11_copies_55 : decode cX11_copies 55 = .ok (.iload_n 3, 1) := by decide +kernel
theorem dX11_copies_56 : decode cX11_copies 56 = .ok (.iadd, 1) := by decide +kernel
theorem dX11_copies_57 : decode cX11_copies 57 = .ok (.aload_n 0, 1) := by decide +kernel
theorem dX11_copies_58 : decode cX11_copies 58 = .ok (.getfield 13, 3) := by decide +kernel
theorem dX11_copies_61 : decode cX11_copies 61 = .ok (.bipush 13, 2) := by decide +kernel
theorem dX11_copies_63 : decode cX11_copies 63 = .ok (.iload_n 1, 1) := by decide +kernel
theorem dX11_copies_64 : decode cX11_copies 64 = .ok (.imul, 1) := by decide +kernel
theorem dX11_copies_65 : decode cX11_copies 65 = .ok (.iload_n 3, 1) := by decide +kernel
theorem dX11_copies_66 : decode cX11_copies 66 = .ok (.iadd, 1) := by decide +kernel
theorem dX11_copies_67 : decode cX11_copies 67 = .ok (.laload, 1) := by decide +kernel
theorem dX11_copies_68 : decode cX11_copies 68 = .ok (.lastore, 1) := by decide +kernel
theorem dX11_copies_69 : decode cX11_copies 69 = .ok (.iinc 3 1, 3) := by decide +kernel
theorem dX11_copies_72 : decode cX11_copies 72 = .ok (.goto (-31), 3) := by decide +kernel
theorem dX11_copies_75 : decode cX11_copies 75 = .ok (.return_, 1) := by decide +kernel
set_option maxHeartbeats 4000000 in
set_option maxRecDepth 100000 in
theorem ctX11_copies {p1 : Int} {p2 : Int} {σ : jq_M} {σ' : jq_M}  (h : X11_copies p1 p2 σ = some σ') : jq_MC jq_zM yX11_copies cX11_copies 4 none 1 40 [jR 0, jI p1, jI p2] σ none σ' := by
  refine jq_met (own := RX11) (L0 := [(0, jR 0), (1, jI p1), (2, jI p2)]) (by decide) rfl rfl rfl ?_
  intro X Γ hnl hlY hRT
  refine jq_use2 (P := fun r => jq_RT jq_zM X none none r) ?_ h hRT
  intro K0 hK0
  unfold X11_copies
  refine jq_iconst Γ dX11_copies_0 rfl ?_
  refine jq_istore_n (L' := [(3, jI 0), (0, jR 0), (1, jI p1), (2, jI p2)]) Γ dX11_copies_1 rfl hnl rfl rfl ?_
  refine jq_sub Γ (L' := [(0, jR 0), (1, jI p1), (2, jI p2), (3, jI 0)]) [1, 2, 3, 0] rfl ?_
  refine jq_loop2 (C := fun (t1 : Int × jq_M) => jq_V jq_zM X (jq_zN jq_zM) t1.2 2 [(0, jR 0), (1, jI p1), (2, jI p2), (3, jI t1.1)] []) (KX := fun (e5 : jq_M) => jq_V jq_zM X (jq_zN jq_zM) e5 39 [(0, jR 0), (1, jI p1), (2, jI p2)] []) ?_ ?_ (0, σ)
  · intro K2_t1 hCt1 hXt1 t1
    unfold X11_copies_b2
    refine jq_iload_n Γ dX11_copies_2 rfl 3 rfl ?_
    refine jq_sipush Γ dX11_copies_3 rfl ?_
    refine jq_icmp_ge (tgt := 39) Γ dX11_copies_6 rfl ?_ ?_
    · refine jq_sub Γ (L' := [(0, jR 0), (1, jI p1), (2, jI p2)]) [0, 1, 2] rfl ?_
      exact jq_done (hXt1 t1.2)
    · refine jq_aload_n Γ dX11_copies_9 rfl 0 rfl (jq_at_0 at_M_0) ?_
      refine jq_getR (v := 1) Γ hlY at_M_0 fl_RX11_7 rfl rfl ly_X11_at dX11_copies_10 ?_
      refine jq_sipush Γ dX11_copies_13 rfl ?_
      refine jq_iload_n Γ dX11_copies_16 rfl 2 rfl ?_
      refine jq_imul Γ dX11_copies_17 ?_
      refine jq_iload_n Γ dX11_copies_18 rfl 3 rfl ?_
      refine jq_iadd Γ dX11_copies_19 ?_
      refine jq_aload_n Γ dX11_copies_20 rfl 0 rfl (jq_at_0 at_M_0) ?_
      refine jq_getR (v := 1) Γ hlY at_M_0 fl_RX11_7 rfl rfl ly_X11_at dX11_copies_21 ?_
      refine jq_sipush Γ dX11_copies_24 rfl ?_
      refine jq_iload_n Γ dX11_copies_27 rfl 1 rfl ?_
      refine jq_imul Γ dX11_copies_28 ?_
      refine jq_iload_n Γ dX11_copies_29 rfl 3 rfl ?_
      refine jq_iadd Γ dX11_copies_30 ?_
      refine jq_iald Γ at_M_1 rfl dX11_copies_31 (fun v2 => ?_)
      refine jq_iast Γ at_M_1 rfl dX11_copies_32 (fun s3 => ?_)
      refine jq_iincN (L' := fun v4 => [(3, jI v4), (0, jR 0), (1, jI p1), (2, jI p2)]) Γ dX11_copies_33 3 rfl hnl rfl (fun _ => rfl) (fun v4 => ?_)
      refine jq_goto Γ (tgt := 2) dX11_copies_36 rfl ?_
      refine jq_sub Γ (L' := [(0, jR 0), (1, jI p1), (2, jI p2), (3, jI v4)]) [1, 2, 3, 0] rfl ?_
      exact jq_done (hCt1 (v4, s3))
  · intro e5
    refine jq_iconst Γ dX11_copies_39 rfl ?_
    refine jq_istore_n (L' := [(3, jI 0), (0, jR 0), (1, jI p1), (2, jI p2)]) Γ dX11_copies_40 rfl hnl rfl rfl ?_
    refine jq_sub Γ (L' := [(0, jR 0), (1, jI p1), (2, jI p2), (3, jI 0)]) [1, 2, 3, 0] rfl ?_
    refine jq_loop2 (C := fun (t6 : Int × jq_M) => jq_V jq_zM X (jq_zN jq_zM) t6.2 41 [(0, jR 0), (1, jI p1), (2, jI p2), (3, jI t6.1)] []) (KX := fun (e10 : jq_M) => jq_V jq_zM X (jq_zN jq_zM) e10 75 [] []) ?_ ?_ (0, e5)
    · intro K41_t6 hCt6 hXt6 t6
      unfold X11_copies_b41
      refine jq_iload_n Γ dX11_copies_41 rfl 3 rfl ?_
      refine jq_bipush Γ dX11_copies_42 rfl ?_
      refine jq_icmp_ge (tgt := 75) Γ dX11_copies_44 rfl ?_ ?_
      · refine jq_sub Γ (L' := []) [] rfl ?_
        exact jq_done (hXt6 t6.2)
      · refine jq_aload_n Γ dX11_copies_47 rfl 0 rfl (jq_at_0 at_M_0) ?_
        refine jq_getR (v := 2) Γ hlY at_M_0 fl_RX11_13 rfl rfl ly_X11_names dX11_copies_48 ?_
        refine jq_bipush Γ dX11_copies_51 rfl ?_
        refine jq_iload_n Γ dX11_copies_53 rfl 2 rfl ?_
        refine jq_imul Γ dX11_copies_54 ?_
        refine jq_iload_n Γ dX11_copies_55 rfl 3 rfl ?_
        refine jq_iadd Γ dX11_copies_56 ?_
        refine jq_aload_n Γ dX11_copies_57 rfl 0 rfl (jq_at_0 at_M_0) ?_
        refine jq_getR (v := 2) Γ hlY at_M_0 fl_RX11_13 rfl rfl ly_X11_names dX11_copies_58 ?_
        refine jq_bipush Γ dX11_copies_61 rfl ?_
        refine jq_iload_n Γ dX11_copies_63 rfl 1 rfl ?_
        refine jq_imul Γ dX11_copies_64 ?_
        refine jq_iload_n Γ dX11_copies_65 rfl 3 rfl ?_
        refine jq_iadd Γ dX11_copies_66 ?_
        refine jq_lald Γ at_M_2 rfl dX11_copies_67 (fun v7 => ?_)
        refine jq_last Γ at_M_2 rfl dX11_copies_68 (fun s8 => ?_)
        refine jq_iincN (L' := fun v9 => [(3, jI v9), (0, jR 0), (1, jI p1), (2, jI p2)]) Γ dX11_copies_69 3 rfl hnl rfl (fun _ => rfl) (fun v9 => ?_)
        refine jq_goto Γ (tgt := 41) dX11_copies_72 rfl ?_
        refine jq_sub Γ (L' := [(0, jR 0), (1, jI p1), (2, jI p2), (3, jI v9)]) [1, 2, 3, 0] rfl ?_
        exact jq_done (hCt6 (v9, s8))
    · intro e10
      exact jq_vreturn Γ dX11_copies_75 (hK0 _)


theorem dX11_mark_0 : decode cX11_mark 0 = .ok (.aload_n 0, 1) := by decide +kernel
theorem dX11_mark_1 : decode cX11_mark 1 = .ok (.getfield 513, 3) := by decide +kernel
theorem dX11_mark_4 : decode cX11_mark 4 = .ok (.iconst 3, 1) := by decide +kernel
theorem dX11_mark_5 : decode cX11_mark 5 = .ok (.if_icmp .ne 9, 3) := by decide +kernel
theorem dX11_mark_8 : decode cX11_mark 8 = .ok (.aload_n 0, 1) := by decide +kernel
theorem dX11_mark_9 : decode cX11_mark 9 = .ok (.iconst 4, 1) := by decide +kernel
theorem dX11_mark_10 : decode cX11_mark 10 = .ok (.invokevirtual 84, 3) := by decide +kernel
theorem dX11_mark_13 : decode cX11_mark 13 = .ok (.ireturn, 1) := by decide +kernel
theorem dX11_mark_14 : decode cX11_mark 14 = .ok (.aload_n 0, 1) := by decide +kernel
theorem dX11_mark_15 : decode cX11_mark 15 = .ok (.dup, 1) := by decide +kernel
theorem dX11_mark_16 : decode cX11_mark 16 = .ok (.getfield 513, 3) := by decide +kernel
theorem dX11_mark_19 : decode cX11_mark 19 = .ok (.iconst 1, 1) := by decide +kernel
theorem dX11_mark_20 : decode cX11_mark 20 = .ok (.iadd, 1) := by decide +kernel
theorem dX11_mark_21 : decode cX11_mark 21 = .ok (.putfield 513, 3) := by decide +kernel
theorem dX11_mark_24 : decode cX11_mark 24 = .ok (.aload_n 0, 1) := by decide +kernel
theorem dX11_mark_25 : decode cX11_mark 25 = .ok (.iconst 0, 1) := by decide +kernel
theorem dX11_mark_26 : decode cX11_mark 26 = .ok (.aload_n 0, 1) := by decide +kernel
theorem dX11_mark_27 : decode cX11_mark 27 = .ok (.getfield 513, 3) := by decide +kernel
theorem dX11_mark_30 : decode cX11_mark 30 = .ok (.invokevirtual 516, 3) := by decide +kernel
theorem dX11_mark_33 : decode cX11_mark 33 = .ok (.aload_n 0, 1) := by decide +kernel
theorem dX11_mark_34 : decode cX11_mark 34 = .ok (.aload_n 0, 1) := by decide +kernel
theorem dX11_mark_35 : decode cX11_mark 35 = .ok (.getfield 513, 3) := by decide +kernel
theorem dX11_mark_38 : decode cX11_mark 38 = .ok (.invokevirtual 88, 3) := by decide +kernel
theorem dX11_mark_41 : decode cX11_mark 41 = .ok (.ireturn, 1) := by decide +kernel
set_option maxHeartbeats 4000000 in
set_option maxRecDepth 100000 in
theorem ctX11_mark  {σ : jq_M} {res : Int} {σ' : jq_M}  (h : X11_mark σ = some (res, σ')) : jq_MC jq_zM yX11_mark cX11_mark 1 (some .int) 2 63 [jR 0] σ (some (jI res)) σ' := by
  refine jq_met (own := RX11) (L0 := [(0, jR 0)]) (by decide) rfl rfl rfl ?_
  intro X Γ hnl hlY hRT
  refine jq_use2 (P := fun r => jq_RT jq_zM X (some .int) (some (jI r.1)) r.2) ?_ h hRT
  intro K0 hK0
  unfold X11_mark
  refine jq_aload_n Γ dX11_mark_0 rfl 0 rfl (jq_at_0 at_M_0) ?_
  refine jq_getI (J := 36) Γ at_M_0 fl_RX11_513 rfl rfl dX11_mark_1 ?_
  refine jq_iconst Γ dX11_mark_4 rfl ?_
  refine jq_icmp_ne (tgt := 14) Γ dX11_mark_5 rfl ?_ ?_
  · refine jq_aload_n Γ dX11_mark_14 rfl 0 rfl (jq_at_0 at_M_0) ?_
    refine jq_dup Γ dX11_mark_15 rfl ?_
    refine jq_getI (J := 36) Γ at_M_0 fl_RX11_513 rfl rfl dX11_mark_16 ?_
    refine jq_iconst Γ dX11_mark_19 rfl ?_
    refine jq_iadd Γ dX11_mark_20 ?_
    refine jq_putI Γ at_M_0 fl_RX11_513 rfl rfl dX11_mark_21 (fun s1 => ?_)
    refine jq_aload_n Γ dX11_mark_24 rfl 0 rfl (jq_at_0 at_M_0) ?_
    refine jq_iconst Γ dX11_mark_25 rfl ?_
    refine jq_aload_n Γ dX11_mark_26 rfl 0 rfl (jq_at_0 at_M_0) ?_
    refine jq_getI (J := 36) Γ at_M_0 fl_RX11_513 rfl rfl dX11_mark_27 ?_
    refine jq_cwV (jq_virt (avs := [jI 0, jI (s1 0 36)]) (st := []) Γ hlY rfl ml_RX11_516 rfl at_M_0 rfl rfl rfl rfl rfl dX11_mark_30) (fun σ' h => ctX11_copies h) (fun s2 => ?_)
    refine jq_aload_n Γ dX11_mark_33 rfl 0 rfl (jq_at_0 at_M_0) ?_
    refine jq_aload_n Γ dX11_mark_34 rfl 0 rfl (jq_at_0 at_M_0) ?_
    refine jq_getI (J := 36) Γ at_M_0 fl_RX11_513 rfl rfl dX11_mark_35 ?_
    refine jq_cwI (jq_virt (avs := [jI (s2 0 36)]) (st := []) Γ hlY rfl ml_RX11_88 rfl at_M_0 rfl rfl rfl rfl rfl dX11_mark_38) (fun r σ' h => ctX11_gives h) (fun v3 s4 => ?_)
    exact jq_ireturn Γ dX11_mark_41 (hK0 _)
  · refine jq_aload_n Γ dX11_mark_8 rfl 0 rfl (jq_at_0 at_M_0) ?_
    refine jq_iconst Γ dX11_mark_9 rfl ?_
    refine jq_cwI (jq_virt (avs := [jI 4]) (st := []) Γ hlY rfl ml_RX11_84 rfl at_M_0 rfl rfl rfl rfl rfl dX11_mark_10) (fun r σ' h => ctX11_refuse h) (fun v5 s6 => ?_)
    exact jq_ireturn Γ dX11_mark_13 (hK0 _)


theorem dX11_undo_0 : decode cX11_undo 0 = .ok (.aload_n 0, 1) := by decide +kernel
theorem dX11_undo_1 : decode cX11_undo 1 = .ok (.getfield 513, 3) := by decide +kernel
theorem dX11_undo_4 : decode cX11_undo 4 = .ok (.ifCond .ne 10, 3) := by decide +kernel
theorem dX11_undo_7 : decode cX11_undo 7 = .ok (.aload_n 0, 1) := by decide +kernel
theorem dX11_undo_8 : decode cX11_undo 8 = .ok (.bipush 6, 2) := by decide +kernel
theorem dX11_undo_10 : decode cX11_undo 10 = .ok (.invokevirtual 84, 3) := by decide +kernel
theorem dX11_undo_13 : decode cX11_undo 13 = .ok (.ireturn, 1) := by decide +kernel
theorem dX11_undo_14 : decode cX11_undo 14 = .ok (.aload_n 0, 1) := by decide +kernel
theorem dX11_undo_15 : decode cX11_undo 15 = .ok (.aload_n 0, 1) := by decide +kernel
theorem dX11_undo_16 : decode cX11_undo 16 = .ok (.getfield 513, 3) := by decide +kernel
theorem dX11_undo_19 : decode cX11_undo 19 = .ok (.iconst 0, 1) := by decide +kernel
theorem dX11_undo_20 : decode cX11_undo 20 = .ok (.invokevirtual 516, 3) := by decide +kernel
theorem dX11_undo_23 : decode cX11_undo 23 = .ok (.aload_n 0, 1) := by decide +kernel
theorem dX11_undo_24 : decode cX11_undo 24 = .ok (.dup, 1) := by decide +kernel
theorem dX11_undo_25 : decode cX11_undo 25 = .ok (.getfield 513, 3) := by decide +kernel
theorem dX11_undo_28 : decode cX11_undo 28 = .ok (.iconst 1, 1) := by decide +kernel
theorem dX11_undo_29 : decode cX11_undo 29 = .ok (.isub, 1) := by decide +kernel
theorem dX11_undo_30 : decode cX11_undo 30 = .ok (.putfield 513, 3) := by decide +kernel
theorem dX11_undo_33 : decode cX11_undo 33 = .ok (.aload_n 0, 1) := by decide +kernel
theorem dX11_undo_34 : decode cX11_undo 34 = .ok (.aload_n 0, 1) := by decide +kernel
theorem dX11_undo_35 : decode cX11_undo 35 = .ok (.getfield 513, 3) := by decide +kernel
theorem dX11_undo_38 : decode cX11_undo 38 = .ok (.invokevirtual 88, 3) := by decide +kernel
theorem dX11_undo_41 : decode cX11_undo 41 = .ok (.ireturn, 1) := by decide +kernel
set_option maxHeartbeats 4000000 in
set_option maxRecDepth 100000 in
theorem ctX11_undo  {σ : jq_M} {res : Int} {σ' : jq_M}  (h : X11_undo σ = some (res, σ')) : jq_MC jq_zM yX11_undo cX11_undo 1 (some .int) 2 63 [jR 0] σ (some (jI res)) σ' := by
  refine jq_met (own := RX11) (L0 := [(0, jR 0)]) (by decide) rfl rfl rfl ?_
  intro X Γ hnl hlY hRT
  refine jq_use2 (P := fun r => jq_RT jq_zM X (some .int) (some (jI r.1)) r.2) ?_ h hRT
  intro K0 hK0
  unfold X11_undo
  refine jq_aload_n Γ dX11_undo_0 rfl 0 rfl (jq_at_0 at_M_0) ?_
  refine jq_getI (J := 36) Γ at_M_0 fl_RX11_513 rfl rfl dX11_undo_1 ?_
  refine jq_if_ne (tgt := 14) Γ dX11_undo_4 rfl ?_ ?_
  · refine jq_aload_n Γ dX11_undo_14 rfl 0 rfl (jq_at_0 at_M_0) ?_
    refine jq_aload_n Γ dX11_undo_15 rfl 0 rfl (jq_at_0 at_M_0) ?_
    refine jq_getI (J := 36) Γ at_M_0 fl_RX11_513 rfl rfl dX11_undo_16 ?_
    refine jq_iconst Γ dX11_undo_19 rfl ?_
    refine jq_cwV (jq_virt (avs := [jI (σ 0 36), jI 0]) (st := []) Γ hlY rfl ml_RX11_516 rfl at_M_0 rfl rfl rfl rfl rfl dX11_undo_20) (fun σ' h => ctX11_copies h) (fun s1 => ?_)
    refine jq_aload_n Γ dX11_undo_23 rfl 0 rfl (jq_at_0 at_M_0) ?_
    refine jq_dup Γ dX11_undo_24 rfl ?_
    refine jq_getI (J := 36) Γ at_M_0 fl_RX11_513 rfl rfl dX11_undo_25 ?_
    refine jq_iconst Γ dX11_undo_28 rfl ?_
    refine jq_isub Γ dX11_undo_29 ?_
    refine jq_putI Γ at_M_0 fl_RX11_513 rfl rfl dX11_undo_30 (fun s2 => ?_)
    refine jq_aload_n Γ dX11_undo_33 rfl 0 rfl (jq_at_0 at_M_0) ?_
    refine jq_aload_n Γ dX11_undo_34 rfl 0 rfl (jq_at_0 at_M_0) ?_
    refine jq_getI (J := 36) Γ at_M_0 fl_RX11_513 rfl rfl dX11_undo_35 ?_
    refine jq_cwI (jq_virt (avs := [jI (s2 0 36)]) (st := []) Γ hlY rfl ml_RX11_88 rfl at_M_0 rfl rfl rfl rfl rfl dX11_undo_38) (fun r σ' h => ctX11_gives h) (fun v3 s4 => ?_)
    exact jq_ireturn Γ dX11_undo_41 (hK0 _)
  · refine jq_aload_n Γ dX11_undo_7 rfl 0 rfl (jq_at_0 at_M_0) ?_
    refine jq_bipush Γ dX11_undo_8 rfl ?_
    refine jq_cwI (jq_virt (avs := [jI 6]) (st := []) Γ hlY rfl ml_RX11_84 rfl at_M_0 rfl rfl rfl rfl rfl dX11_undo_10) (fun r σ' h => ctX11_refuse h) (fun v5 s6 => ?_)
    exact jq_ireturn Γ dX11_undo_13 (hK0 _)


