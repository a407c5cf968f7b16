theorem fl_RX10_444 : jq_fl RX10 444 7 18 11 false := ⟨RX10, TX10, tyX10, cls_X10, by decide, jq_in 537 (by decide +kernel) rfl, by decide⟩
theorem fl_RX10_39 : jq_fl RX10 39 7 18 10 true := ⟨RX10, TX10, tyX10, cls_X10, by decide, jq_in 536 (by decide +kernel) rfl, by decide⟩
theorem dX10_mean_0 : decode cX10_mean 0 = .ok (.iload_n 1, 1) := by decide +kernel
theorem dX10_mean_1 : decode cX10_mean 1 = .ok (.iconst 0, 1) := by decide +kernel
theorem dX10_mean_2 : decode cX10_mean 2 = .ok (.sipush 9999, 3) := by decide +kernel
theorem dX10_mean_5 : decode cX10_mean 5 = .ok (.invokestatic 93, 3) := by decide +kernel
theorem dX10_mean_8 : decode cX10_mean 8 = .ok (.ifCond .eq 24, 3) := by decide +kernel
theorem dX10_mean_11 : decode cX10_mean 11 = .ok (.iload_n 2, 1) := by decide +kernel
theorem dX10_mean_12 : decode cX10_mean 12 = .ok (.iconst 1, 1) := by decide +kernel
theorem dX10_mean_13 : decode cX10_mean 13 = .ok (.bipush 20, 2) := by decide +kernel
theorem dX10_mean_15 : decode cX10_mean 15 = .ok (.invokestatic 93, 3) := by decide +kernel
theorem dX10_mean_18 : decode cX10_mean 18 = .ok (.ifCond .eq 14, 3) := by decide +kernel
theorem dX10_mean_21 : decode cX10_mean 21 = .ok (.iload_n 1, 1) := by decide +kernel
theorem dX10_mean_22 : decode cX10_mean 22 = .ok (.sipush 9999, 3) := by decide +kernel
theorem dX10_mean_25 : decode cX10_mean 25 = .ok (.iload_n 2, 1) := by decide +kernel
theorem dX10_mean_26 : decode cX10_mean 26 = .ok (.iconst 1, 1) := by decide +kernel
theorem dX10_mean_27 : decode cX10_mean 27 = .ok (.isub, 1) := by decide +kernel
theorem dX10_mean_28 : decode cX10_mean 28 = .ok (.isub, 1) := by decide +kernel
theorem dX10_mean_29 : decode cX10_mean 29 = .ok (.if_icmp .le 9, 3) := by decide +kernel
theorem dX10_mean_32 : decode cX10_mean 32 = .ok (.aload_n 0, 1) := by decide +kernel
theorem dX10_mean_33 : decode cX10_mean 33 = .ok (.iconst 1, 1) := by decide +kernel
theorem dX10_mean_34 : decode cX10_mean 34 = .ok (.invokevirtual 97, 3) := by decide +kernel
theorem dX10_mean_37 : decode cX10_mean 37 = .ok (.ireturn, 1) := by decide +kernel
theorem dX10_mean_38 : decode cX10_mean 38 = .ok (.aload_n 0, 1) := by decide +kernel
theorem dX10_mean_39 : decode cX10_mean 39 = .ok (.getfield 25, 3) := by decide +kernel
theorem dX10_mean_42 : decode cX10_mean 42 = .ok (.getfield 169, 3) := by decide +kernel
theorem dX10_mean_45 : decode cX10_mean 45 = .ok (.getfield 426, 3) := by decide +kernel
theorem dX10_mean_48 : decode cX10_mean 48 = .ok (.ifCond .ne 10, 3) := by decide +kernel
theorem dX10_mean_51 : decode cX10_mean 51 = .ok (.aload_n 0, 1) := by decide +kernel
theorem dX10_mean_52 : decode cX10_mean 52 = .ok (.bipush 6, 2) := by decide +kernel
theorem dX10_mean_54 : decode cX10_mean 54 = .ok (.invokevirtual 97, 3) := by decide +kernel
theorem dX10_mean_57 : decode cX10_mean 57 = .ok (.ireturn, 1) := by decide +kernel
theorem dX10_mean_58 : decode cX10_mean 58 = .ok (.lconst 0, 1) := by decide +kernel
theorem dX10_mean_59 : decode cX10_mean 59 = .ok (.lstore_n 3, 1) := by decide +kernel
theorem dX10_mean_60 : decode cX10_mean 60 = .ok (.iconst 0, 1) := by decide +kernel
theorem dX10_mean_61 : decode cX10_mean 61 = .ok (.istore 5, 2) := by decide +kernel
theorem dX10_mean_63 : decode cX10_mean 63 = .ok (.iload 5, 2) := by decide +kernel
theorem dX10_mean_65 : decode cX10_mean 65 = .ok (.iload_n 2, 1) := by decide +kernel
theorem dX10_mean_66 : decode cX10_mean 66 = .ok (.if_icmp .ge 53, 3) := by decide +kernel
theorem dX10_mean_69 : decode cX10_mean 69 = .ok (.aload_n 0, 1) := by decide +kernel
theorem dX10_mean_70 : decode cX10_mean 70 = .ok (.getfield 29, 3) := by decide +kernel
theorem dX10_mean_73 : decode cX10_mean 73 = .ok (.aload_n 0, 1) := by decide +kernel
theorem dX10_mean_74 : decode cX10_mean 74 = .ok (.getfield 25, 3) := by decide +kernel
theorem dX10_mean_77 : decode cX10_mean 77 = .ok (.invokevirtual 397, 3) := by decide +kernel
theorem dX10_mean_80 : decode cX10_mean 80 = .ok (.aload_n 0, 1) := by decide +kernel
theorem dX10_mean_81 : decode cX10_mean 81 = .ok (.getfield 60, 3) := by decide +kernel
theorem dX10_mean_84 : decode cX10_mean 84 = .ok (.aload_n 0, 1) := by decide +kernel
theorem dX10_mean_85 : decode cX10_mean 85 = .ok (.getfield 29, 3) := by decide +kernel
theorem dX10_mean_88 : decode cX10_mean 88 = .ok (.iload_n 1, 1) := by decide +kernel
theorem dX10_mean_89 : decode cX10_mean 89 = .ok (.iload 5, 2) := by decide +kernel
theorem dX10_mean_91 : decode cX10_mean 91 = .ok (.iadd, 1) := by decide +kernel
theorem dX10_mean_92 : decode cX10_mean 92 = .ok (.invokevirtual 430, 3) := by decide +kernel
theorem dX10_mean_95 : decode cX10_mean 95 = .ok (.lload_n 3, 1) := by decide +kernel
theorem dX10_mean_96 : decode cX10_mean 96 = .ok (.aload_n 0, 1) := by decide +kernel
theorem dX10_mean_97 : decode cX10_mean 97 = .ok (.getfield 29, 3) := by decide +kernel
theorem dX10_mean_100 : decode cX10_mean 100 = .ok (.aload_n 0, 1) := by decide +kernel
theorem dX10_mean_101 : decode cX10_mean 101 = .ok (.getfield 29, 3) := by decide +kernel
theorem dX10_mean_104 : decode cX10_mean 104 = .ok (.getfield 194, 3) := by decide +kernel
theorem dX10_mean_107 : decode cX10_mean 107 = .ok (.invokevirtual 276, 3) := by decide +kernel
theorem dX10_mean_110 : decode cX10_mean 110 = .ok (.i2l, 1) := by decide +kernel
theorem dX10_mean_111 : decode cX10_mean 111 = .ok (.ladd, 1) := by decide +kernel
theorem dX10_mean_112 : decode cX10_mean 112 = .ok (.lstore_n 3, 1) := by decide +kernel
theorem dX10_mean_113 : decode cX10_mean 113 = .ok (.iinc 5 1, 3) := by decide +kernel
theorem dX10_mean_116 : decode cX10_mean 116 = .ok (.goto (-53), 3) := by decide +kernel
theorem dX10_mean_119 : decode cX10_mean 119 = .ok (.aload_n 0, 1) := by decide +kernel
theorem dX10_mean_120 : decode cX10_mean 120 = .ok (.lload_n 3, 1) := by decide +kernel
theorem dX10_mean_121 : decode cX10_mean 121 = .ok (.iload_n 2, 1) := by decide +kernel
theorem dX10_mean_122 : decode cX10_mean 122 = .ok (.i2l, 1) := by decide +kernel
theorem dX10_mean_123 : decode cX10_mean 123 = .ok (.invokevirtual 412, 3) := by decide +kernel
theorem dX10_mean_126 : decode cX10_mean 126 = .ok (.aload_n 0, 1) := by decide +kernel
theorem dX10_mean_127 : decode cX10_mean 127 = .ok (.invokevirtual 104, 3) := by decide +kernel
theorem dX10_mean_130 : decode cX10_mean 130 = .ok (.ireturn, 1) := by decide +kernel
set_option maxHeartbeats 4000000 in
set_option maxRecDepth 100000 in
theorem ctX10_mean {p1 : Int} {p2 : Int} {σ : jq_M} {res : Int} {σ' : jq_M}  (h : X10_mean p1 p2 σ = some (res, σ')) : jq_MC jq_zX yX10_mean cX10_mean 6 (some .boolean) 7 181 [jR 0, jI p1, jI p2] σ (some (jI res)) σ' := by
  refine jq_met (own := RX10) (L0 := [(0, jR 0), (1, jI p1), (2, jI p2)]) (by decide) rfl rfl rfl ?_
  intro X Γ hnl hlY hRT
  refine jq_use2 (P := fun r => jq_RT jq_zX X (some .boolean) (some (jI r.1)) r.2) ?_ h hRT
  intro K0 hK0
  unfold X10_mean
  have hj32_0 : ∀ (s3 : jq_M), jq_J (X10_mean_j32 s3) K0 (jq_V jq_zX X (jq_zN jq_zX) s3 32 [(0, jR 0)] []) := by
    intro s3
    unfold X10_mean_j32
    refine jq_aload_n Γ dX10_mean_32 rfl 0 rfl (jq_at_0 at_X_0) ?_
    refine jq_iconst Γ dX10_mean_33 rfl ?_
    refine jq_cwZ (jq_virt (avs := [jI 1]) (st := []) Γ hlY rfl ml_RX10_97 rfl at_X_0 rfl rfl rfl rfl rfl dX10_mean_34) rfl (fun r σ' h => ctX10_deny h) (fun v4 s5 hz6 => ?_)
    exact jq_zreturn Γ (hz6) dX10_mean_37 (hK0 _)
  refine jq_iload_n Γ dX10_mean_0 rfl 1 rfl ?_
  refine jq_iconst Γ dX10_mean_1 rfl ?_
  refine jq_sipush Γ dX10_mean_2 rfl ?_
  refine jq_cpZ (jq_stat (avs := [jI p1, jI 0, jI 9999]) (st := []) Γ hlY rfl ml_RX10_93 rfl rfl rfl rfl rfl dX10_mean_5) rfl (fun r h => ctX10_within h) (fun v1 hz2 => ?_)
  refine jq_if_eq (tgt := 32) Γ dX10_mean_8 rfl ?_ ?_
  · refine jq_sub Γ (L' := [(0, jR 0)]) [0] rfl ?_
    exact hj32_0 σ
  · refine jq_iload_n Γ dX10_mean_11 rfl 2 rfl ?_
    refine jq_iconst Γ dX10_mean_12 rfl ?_
    refine jq_bipush Γ dX10_mean_13 rfl ?_
    refine jq_cpZ (jq_stat (avs := [jI p2, jI 1, jI 20]) (st := []) Γ hlY rfl ml_RX10_93 rfl rfl rfl rfl rfl dX10_mean_15) rfl (fun r h => ctX10_within h) (fun v7 hz8 => ?_)
    refine jq_if_eq (tgt := 32) Γ dX10_mean_18 rfl ?_ ?_
    · refine jq_sub Γ (L' := [(0, jR 0)]) [0] rfl ?_
      exact hj32_0 σ
    · refine jq_iload_n Γ dX10_mean_21 rfl 1 rfl ?_
      refine jq_sipush Γ dX10_mean_22 rfl ?_
      refine jq_iload_n Γ dX10_mean_25 rfl 2 rfl ?_
      refine jq_iconst Γ dX10_mean_26 rfl ?_
      refine jq_isub Γ dX10_mean_27 ?_
      refine jq_isub Γ dX10_mean_28 ?_
      refine jq_icmp_le (tgt := 38) Γ dX10_mean_29 rfl ?_ ?_
      · refine jq_aload_n Γ dX10_mean_38 rfl 0 rfl (jq_at_0 at_X_0) ?_
        refine jq_getC (C := jq_cm2) Γ hlY at_X_0 fl_RX10_25 rfl rfl ly_now dX10_mean_39 (fun c9 hc10q => ?_)
        have hc10 := jq_cm2_com hc10q
        refine jq_getR (v := (c9 + 13)) Γ hlY (at_com hc10) fl_RX10_169 rfl rfl (ly_X1_steps hc10) dX10_mean_42 ?_
        refine jq_getZ (J := 0) Γ (at_stp (stp_com hc10)) fl_RX10_426 rfl rfl dX10_mean_45 (fun v11 hz12 => ?_)
        refine jq_if_ne (tgt := 58) Γ dX10_mean_48 rfl ?_ ?_
        · refine jq_lconst Γ 0 dX10_mean_58 rfl rfl ?_
          refine jq_lstore_n (L' := [(3, jL 0), (0, jR 0), (1, jI p1), (2, jI p2)]) Γ dX10_mean_59 rfl hnl rfl rfl ?_
          refine jq_iconst Γ dX10_mean_60 rfl ?_
          refine jq_istore (L' := [(5, jI 0), (3, jL 0), (0, jR 0), (1, jI p1), (2, jI p2)]) Γ dX10_mean_61 hnl rfl rfl ?_
          refine jq_sub Γ (L' := [(0, jR 0), (1, jI p1), (2, jI p2), (3, jL 0), (5, jI 0)]) [2, 3, 4, 1, 0] rfl ?_
          refine jq_loop2 (C := fun (t13 : Int × Int × jq_M) => jq_V jq_zX X (jq_zN jq_zX) t13.2.2 63 [(0, jR 0), (1, jI p1), (2, jI p2), (3, jL t13.1), (5, jI t13.2.1)] []) (KX := fun (e29 : Int × jq_M) => jq_V jq_zX X (jq_zN jq_zX) e29.2 119 [(0, jR 0), (2, jI p2), (3, jL e29.1)] []) ?_ ?_ (0, 0, σ)
          · intro K63_t13 hCt13 hXt13 t13
            unfold X10_mean_b63
            refine jq_iload Γ dX10_mean_63 4 rfl ?_
            refine jq_iload_n Γ dX10_mean_65 rfl 2 rfl ?_
            refine jq_icmp_ge (tgt := 119) Γ dX10_mean_66 rfl ?_ ?_
            · refine jq_sub Γ (L' := [(0, jR 0), (2, jI p2), (3, jL t13.1)]) [0, 2, 3] rfl ?_
              exact jq_done (hXt13 (t13.1, t13.2.2))
            · refine jq_aload_n Γ dX10_mean_69 rfl 0 rfl (jq_at_0 at_X_0) ?_
              refine jq_getC (C := jq_cm2) Γ hlY at_X_0 fl_RX10_29 rfl rfl ly_spare dX10_mean_70 (fun c14 hc15q => ?_)
              have hc15 := jq_cm2_com hc15q
              refine jq_aload_n Γ dX10_mean_73 rfl 0 rfl (jq_at_0 at_X_0) ?_
              refine jq_getC (C := jq_cm2) Γ hlY at_X_0 fl_RX10_25 rfl rfl ly_now dX10_mean_74 (fun c16 hc17q => ?_)
              have hc17 := jq_cm2_com hc17q
              refine jq_cwV (jq_virt (avs := [jR c16]) (st := []) Γ hlY rfl ml_RX10_397 rfl (at_com hc15) rfl rfl rfl rfl rfl dX10_mean_77) (fun σ' h => ctX1_takeFrom hc15 hc17 h) (fun s18 => ?_)
              refine jq_aload_n Γ dX10_mean_80 rfl 0 rfl (jq_at_0 at_X_0) ?_
              refine jq_getR (v := 60) Γ hlY at_X_0 fl_RX10_60 rfl rfl ly_X10_life dX10_mean_81 ?_
              refine jq_aload_n Γ dX10_mean_84 rfl 0 rfl (jq_at_0 at_X_0) ?_
              refine jq_getC (C := jq_cm2) Γ hlY at_X_0 fl_RX10_29 rfl rfl ly_spare dX10_mean_85 (fun c19 hc20q => ?_)
              have hc20 := jq_cm2_com hc20q
              refine jq_iload_n Γ dX10_mean_88 rfl 1 rfl ?_
              refine jq_iload Γ dX10_mean_89 4 rfl ?_
              refine jq_iadd Γ dX10_mean_91 ?_
              refine jq_cwV (jq_virt (avs := [jR c19, jI (jq_w (p1 + t13.2.1))]) (st := []) Γ hlY rfl ml_RX10_430 rfl at_X_60 rfl rfl rfl rfl rfl dX10_mean_92) (fun σ' h => ctX3_run hc20 h) (fun s21 => ?_)
              refine jq_lload_n Γ dX10_mean_95 rfl 3 rfl ?_
              refine jq_aload_n Γ dX10_mean_96 rfl 0 rfl (jq_at_0 at_X_0) ?_
              refine jq_getC (C := jq_cm2) Γ hlY at_X_0 fl_RX10_29 rfl rfl ly_spare dX10_mean_97 (fun c22 hc23q => ?_)
              have hc23 := jq_cm2_com hc23q
              refine jq_aload_n Γ dX10_mean_100 rfl 0 rfl (jq_at_0 at_X_0) ?_
              refine jq_getC (C := jq_cm2) Γ hlY at_X_0 fl_RX10_29 rfl rfl ly_spare dX10_mean_101 (fun c24 hc25q => ?_)
              have hc25 := jq_cm2_com hc25q
              refine jq_getR (v := (c24 + 3)) Γ hlY (at_com hc25) fl_RX10_194 rfl rfl (ly_X1_seats hc25) dX10_mean_104 ?_
              refine jq_cpI (jq_virt (avs := [jR (c24 + 3)]) (st := [jL t13.1]) Γ hlY rfl ml_RX10_276 rfl (at_com hc23) rfl rfl rfl rfl rfl dX10_mean_107) (fun r h => ctX1_worthOfAll hc23 (row_com hc25) h) (fun v26 => ?_)
              refine jq_i2l Γ dX10_mean_110 ?_
              refine jq_ladd Γ dX10_mean_111 ?_
              refine jq_nmL (fun v27 => ?_)
              refine jq_lstore_n (L' := [(3, jL v27), (0, jR 0), (1, jI p1), (2, jI p2), (5, jI t13.2.1)]) Γ dX10_mean_112 rfl hnl rfl rfl ?_
              refine jq_iincN (L' := fun v28 => [(5, jI v28), (3, jL v27), (0, jR 0), (1, jI p1), (2, jI p2)]) Γ dX10_mean_113 4 rfl hnl rfl (fun _ => rfl) (fun v28 => ?_)
              refine jq_goto Γ (tgt := 63) dX10_mean_116 rfl ?_
              refine jq_sub Γ (L' := [(0, jR 0), (1, jI p1), (2, jI p2), (3, jL v27), (5, jI v28)]) [2, 3, 4, 1, 0] rfl ?_
              exact jq_done (hCt13 (v27, v28, s21))
          · intro e29
            refine jq_aload_n Γ dX10_mean_119 rfl 0 rfl (jq_at_0 at_X_0) ?_
            refine jq_lload_n Γ dX10_mean_120 rfl 2 rfl ?_
            refine jq_iload_n Γ dX10_mean_121 rfl 1 rfl ?_
            refine jq_i2l Γ dX10_mean_122 ?_
            refine jq_cwV (jq_virt (avs := [jL e29.1, jL p2]) (st := []) Γ hlY rfl ml_RX10_412 rfl at_X_0 rfl rfl rfl rfl rfl dX10_mean_123) (fun σ' h => ctX10_tellFraction h) (fun s30 => ?_)
            refine jq_aload_n Γ dX10_mean_126 rfl 0 rfl (jq_at_0 at_X_0) ?_
            refine jq_cwZ (jq_virt (avs := []) (st := []) Γ hlY rfl ml_RX10_104 rfl at_X_0 rfl rfl rfl rfl rfl dX10_mean_127) rfl (fun r σ' h => ctX10_grant h) (fun v31 s32 hz33 => ?_)
            exact jq_zreturn Γ (hz33) dX10_mean_130 (hK0 _)
        · refine jq_aload_n Γ dX10_mean_51 rfl 0 rfl (jq_at_0 at_X_0) ?_
          refine jq_bipush Γ dX10_mean_52 rfl ?_
          refine jq_cwZ (jq_virt (avs := [jI 6]) (st := []) Γ hlY rfl ml_RX10_97 rfl at_X_0 rfl rfl rfl rfl rfl dX10_mean_54) rfl (fun r σ' h => ctX10_deny h) (fun v34 s35 hz36 => ?_)
          exact jq_zreturn Γ (hz36) dX10_mean_57 (hK0 _)
      · refine jq_sub Γ (L' := [(0, jR 0)]) [0] rfl ?_
        exact hj32_0 σ


theorem dX10_mark_0 : decode cX10_mark 0 = .ok (.aload_n 0, 1) := by decide +kernel
theorem dX10_mark_1 : decode cX10_mark 1 = .ok (.getfield 444, 3) := by decide +kernel
theorem dX10_mark_4 : decode cX10_mark 4 = .ok (.iconst 3, 1) := by decide +kernel
theorem dX10_mark_5 : decode cX10_mark 5 = .ok (.if_icmp .lt 9, 3) := by decide +kernel
theorem dX10_mark_8 : decode cX10_mark 8 = .ok (.aload_n 0, 1) := by decide +kernel
theorem dX10_mark_9 : decode cX10_mark 9 = .ok (.iconst 4, 1) := by decide +kernel
theorem dX10_mark_10 : decode cX10_mark 10 = .ok (.invokevirtual 120, 3) := by decide +kernel
theorem dX10_mark_13 : decode cX10_mark 13 = .ok (.ireturn, 1) := by decide +kernel
theorem dX10_mark_14 : decode cX10_mark 14 = .ok (.aload_n 0, 1) := by decide +kernel
theorem dX10_mark_15 : decode cX10_mark 15 = .ok (.getfield 39, 3) := by decide +kernel
theorem dX10_mark_18 : decode cX10_mark 18 = .ok (.aload_n 0, 1) := by decide +kernel
theorem dX10_mark_19 : decode cX10_mark 19 = .ok (.getfield 444, 3) := by decide +kernel
theorem dX10_mark_22 : decode cX10_mark 22 = .ok (.aaload, 1) := by decide +kernel
theorem dX10_mark_23 : decode cX10_mark 23 = .ok (.aload_n 0, 1) := by decide +kernel
theorem dX10_mark_24 : decode cX10_mark 24 = .ok (.getfield 25, 3) := by decide +kernel
theorem dX10_mark_27 : decode cX10_mark 27 = .ok (.invokevirtual 397, 3) := by decide +kernel
theorem dX10_mark_30 : decode cX10_mark 30 = .ok (.aload_n 0, 1) := by decide +kernel
theorem dX10_mark_31 : decode cX10_mark 31 = .ok (.dup, 1) := by decide +kernel
theorem dX10_mark_32 : decode cX10_mark 32 = .ok (.getfield 444, 3) := by decide +kernel
theorem dX10_mark_35 : decode cX10_mark 35 = .ok (.iconst 1, 1) := by decide +kernel
theorem dX10_mark_36 : decode cX10_mark 36 = .ok (.iadd, 1) := by decide +kernel
theorem dX10_mark_37 : decode cX10_mark 37 = .ok (.putfield 444, 3) := by decide +kernel
theorem dX10_mark_40 : decode cX10_mark 40 = .ok (.aload_n 0, 1) := by decide +kernel
theorem dX10_mark_41 : decode cX10_mark 41 = .ok (.aload_n 0, 1) := by decide +kernel
theorem dX10_mark_42 : decode cX10_mark 42 = .ok (.getfield 444, 3) := by decide +kernel
theorem dX10_mark_45 : decode cX10_mark 45 = .ok (.invokevirtual 161, 3) := by decide +kernel
theorem dX10_mark_48 : decode cX10_mark 48 = .ok (.ireturn, 1) := by decide +kernel
set_option maxHeartbeats 4000000 in
set_option maxRecDepth 100000 in
theorem ctX10_mark  {σ : jq_M} {res : Int} {σ' : jq_M}  (h : X10_mark σ = some (res, σ')) : jq_MC jq_zX yX10_mark cX10_mark 1 (some .int) 3 82 [jR 0] σ (some (jI res)) σ' := by
  refine jq_met (own := RX10) (L0 := [(0, jR 0)]) (by decide) rfl rfl rfl ?_
  intro X Γ hnl hlY hRT
  refine jq_use2 (P := fun r => jq_RT jq_zX X (some .int) (some (jI r.1)) r.2) ?_ h hRT
  intro K0 hK0
  unfold X10_mark
  refine jq_aload_n Γ dX10_mark_0 rfl 0 rfl (jq_at_0 at_X_0) ?_
  refine jq_getI (J := 11) Γ at_X_0 fl_RX10_444 rfl rfl dX10_mark_1 ?_
  refine jq_iconst Γ dX10_mark_4 rfl ?_
  refine jq_icmp_lt (tgt := 14) Γ dX10_mark_5 rfl ?_ ?_
  · refine jq_aload_n Γ dX10_mark_14 rfl 0 rfl (jq_at_0 at_X_0) ?_
    refine jq_getR (v := 51) Γ hlY at_X_0 fl_RX10_39 rfl rfl ly_X10_kept dX10_mark_15 ?_
    refine jq_aload_n Γ dX10_mark_18 rfl 0 rfl (jq_at_0 at_X_0) ?_
    refine jq_getI (J := 11) Γ at_X_0 fl_RX10_444 rfl rfl dX10_mark_19 ?_
    refine jq_aald4 Γ hlY at_X_51 rfl (fun i => 72 + 20 * i) ly_kept_at dX10_mark_22 (fun i1 ha2 hb3 => ?_)
    refine jq_aload_n Γ dX10_mark_23 rfl 0 rfl (jq_at_0 at_X_0) ?_
    refine jq_getC (C := jq_cm2) Γ hlY at_X_0 fl_RX10_25 rfl rfl ly_now dX10_mark_24 (fun c4 hc5q => ?_)
    have hc5 := jq_cm2_com hc5q
    refine jq_cwV (jq_virt (avs := [jR c4]) (st := []) Γ hlY rfl ml_RX10_397 rfl (at_com (com_i ha2 hb3)) rfl rfl rfl rfl rfl dX10_mark_27) (fun σ' h => ctX1_takeFrom (com_i ha2 hb3) hc5 h) (fun s6 => ?_)
    refine jq_aload_n Γ dX10_mark_30 rfl 0 rfl (jq_at_0 at_X_0) ?_
    refine jq_dup Γ dX10_mark_31 rfl ?_
    refine jq_getI (J := 11) Γ at_X_0 fl_RX10_444 rfl rfl dX10_mark_32 ?_
    refine jq_iconst Γ dX10_mark_35 rfl ?_
    refine jq_iadd Γ dX10_mark_36 ?_
    refine jq_putI Γ at_X_0 fl_RX10_444 rfl rfl dX10_mark_37 (fun s7 => ?_)
    refine jq_aload_n Γ dX10_mark_40 rfl 0 rfl (jq_at_0 at_X_0) ?_
    refine jq_aload_n Γ dX10_mark_41 rfl 0 rfl (jq_at_0 at_X_0) ?_
    refine jq_getI (J := 11) Γ at_X_0 fl_RX10_444 rfl rfl dX10_mark_42 ?_
    refine jq_cwI (jq_virt (avs := [jI (s7 0 11)]) (st := []) Γ hlY rfl ml_RX10_161 rfl at_X_0 rfl rfl rfl rfl rfl dX10_mark_45) (fun r σ' h => ctX10_answer h) (fun v8 s9 => ?_)
    exact jq_ireturn Γ dX10_mark_48 (hK0 _)
  · refine jq_aload_n Γ dX10_mark_8 rfl 0 rfl (jq_at_0 at_X_0) ?_
    refine jq_iconst Γ dX10_mark_9 rfl ?_
    refine jq_cwI (jq_virt (avs := [jI 4]) (st := []) Γ hlY rfl ml_RX10_120 rfl at_X_0 rfl rfl rfl rfl rfl dX10_mark_10) (fun r σ' h => ctX10_refuse h) (fun v10 s11 => ?_)
    exact jq_ireturn Γ dX10_mark_13 (hK0 _)


theorem dX10_undo_0 : decode cX10_undo 0 = .ok (.aload_n 0, 1) := by decide +kernel
theorem dX10_undo_1 : decode cX10_undo 1 = .ok (.getfield 444, 3) := by decide +kernel
theorem dX10_undo_4 : decode cX10_undo 4 = .ok (.ifCond .gt 10, 3) := by decide +kernel
theorem dX10_undo_7 : decode cX10_undo 7 = .ok (.aload_n 0, 1) := by decide +kernel
theorem dX10_undo_8 : decode cX10_undo 8 = .ok (.bipush 6, 2) := by decide +kernel
theorem dX10_undo_10 : decode cX10_undo 10 = .ok (.invokevirtual 120, 3) := by decide +kernel
theorem dX10_undo_13 : decode cX10_undo 13 = .ok (.ireturn, 1) := by decide +kernel
theorem dX10_undo_14 : decode cX10_undo 14 = .ok (.aload_n 0, 1) := by decide +kernel
theorem dX10_undo_15 : decode cX10_undo 15 = .ok (.dup, 1) := by decide +kernel
theorem dX10_undo_16 : decode cX10_undo 16 = .ok (.getfield 444, 3) := by decide +kernel
theorem dX10_undo_19 : decode cX10_undo 19 = .ok (.iconst 1, 1) := by decide +kernel
theorem dX10_undo_20 : decode cX10_undo 20 = .ok (.isub, 1) := by decide +kernel
theorem dX10_undo_21 : decode cX10_undo 21 = .ok (.putfield 444, 3) := by decide +kernel
theorem dX10_undo_24 : decode cX10_undo 24 = .ok (.aload_n 0, 1) := by decide +kernel
theorem dX10_undo_25 : decode cX10_undo 25 = .ok (.getfield 25, 3) := by decide +kernel
theorem dX10_undo_28 : decode cX10_undo 28 = .ok (.aload_n 0, 1) := by decide +kernel
theorem dX10_undo_29 : decode cX10_undo 29 = .ok (.getfield 39, 3) := by decide +kernel
theorem dX10_undo_32 : decode cX10_undo 32 = .ok (.aload_n 0, 1) := by decide +kernel
theorem dX10_undo_33 : decode cX10_undo 33 = .ok (.getfield 444, 3) := by decide +kernel
theorem dX10_undo_36 : decode cX10_undo 36 = .ok (.aaload, 1) := by decide +kernel
theorem dX10_undo_37 : decode cX10_undo 37 = .ok (.invokevirtual 397, 3) := by decide +kernel
theorem dX10_undo_40 : decode cX10_undo 40 = .ok (.aload_n 0, 1) := by decide +kernel
theorem dX10_undo_41 : decode cX10_undo 41 = .ok (.aload_n 0, 1) := by decide +kernel
theorem dX10_undo_42 : decode cX10_undo 42 = .ok (.getfield 444, 3) := by decide +kernel
theorem dX10_undo_45 : decode cX10_undo 45 = .ok (.invokevirtual 161, 3) := by decide +kernel
theorem dX10_undo_48 : decode cX10_undo 48 = .ok (.ireturn, 1) := by decide +kernel
set_option maxHeartbeats 4000000 in
set_option maxRecDepth 100000 in
theorem ctX10_undo  {σ : jq_M} {res : Int} {σ' : jq_M}  (h : X10_undo σ = some (res, σ')) : jq_MC jq_zX yX10_undo cX10_undo 1 (some .int) 3 82 [jR 0] σ (some (jI res)) σ' := by
  refine jq_met (own := RX10) (L0 := [(0, jR 0)]) (by decide) rfl rfl rfl ?_
  intro X Γ hnl hlY hRT
  refine jq_use2 (P := fun r => jq_RT jq_zX X (some .int) (some (jI r.1)) r.2) ?_ h hRT
  intro K0 hK0
  unfold X10_undo
  refine jq_aload_n Γ dX10_undo_0 rfl 0 rfl (jq_at_0 at_X_0) ?_
  refine jq_getI (J := 11) Γ at_X_0 fl_RX10_444 rfl rfl dX10_undo_1 ?_
  refine jq_if_gt (tgt := 14) Γ dX10_undo_4 rfl ?_ ?_
  · refine jq_aload_n Γ dX10_undo_14 rfl 0 rfl (jq_at_0 at_X_0) ?_
    refine jq_dup Γ dX10_undo_15 rfl ?_
    refine jq_getI (J := 11) Γ at_X_0 fl_RX10_444 rfl rfl dX10_undo_16 ?_
    refine jq_iconst Γ dX10_undo_19 rfl ?_
    refine jq_isub Γ dX10_undo_20 ?_
    refine jq_putI Γ at_X_0 fl_RX10_444 rfl rfl dX10_undo_21 (fun s1 => ?_)
    refine jq_aload_n Γ dX10_undo_24 rfl 0 rfl (jq_at_0 at_X_0) ?_
    refine jq_getC (C := jq_cm2) Γ hlY at_X_0 fl_RX10_25 rfl rfl ly_now dX10_undo_25 (fun c2 hc3q => ?_)
    have hc3 := jq_cm2_com hc3q
    refine jq_aload_n Γ dX10_undo_28 rfl 0 rfl (jq_at_0 at_X_0) ?_
    refine jq_getR (v := 51) Γ hlY at_X_0 fl_RX10_39 rfl rfl ly_X10_kept dX10_undo_29 ?_
    refine jq_aload_n Γ dX10_undo_32 rfl 0 rfl (jq_at_0 at_X_0) ?_
    refine jq_getI (J := 11) Γ at_X_0 fl_RX10_444 rfl rfl dX10_undo_33 ?_
    refine jq_aald4 Γ hlY at_X_51 rfl (fun i => 72 + 20 * i) ly_kept_at dX10_undo_36 (fun i4 ha5 hb6 => ?_)
    refine jq_cwV (jq_virt (avs := [jR (72 + 20 * i4)]) (st := []) Γ hlY rfl ml_RX10_397 rfl (at_com hc3) rfl rfl rfl rfl rfl dX10_undo_37) (fun σ' h => ctX1_takeFrom hc3 (com_i ha5 hb6) h) (fun s7 => ?_)
    refine jq_aload_n Γ dX10_undo_40 rfl 0 rfl (jq_at_0 at_X_0) ?_
    refine jq_aload_n Γ dX10_undo_41 rfl 0 rfl (jq_at_0 at_X_0) ?_
    refine jq_getI (J := 11) Γ at_X_0 fl_RX10_444 rfl rfl dX10_undo_42 ?_
    refine jq_cwI (jq_virt (avs := [jI (s7 0 11)]) (st := []) Γ hlY rfl ml_RX10_161 rfl at_X_0 rfl rfl rfl rfl rfl dX10_undo_45) (fun r σ' h => ctX10_answer h) (fun v8 s9 => ?_)
    exact jq_ireturn Γ dX10_undo_48 (hK0 _)
  · refine jq_aload_n Γ dX10_undo_7 rfl 0 rfl (jq_at_0 at_X_0) ?_
    refine jq_bipush Γ dX10_undo_8 rfl ?_
    refine jq_cwI (jq_virt (avs := [jI 6]) (st := []) Γ hlY rfl ml_RX10_120 rfl at_X_0 rfl rfl rfl rfl rfl dX10_undo_10) (fun r σ' h => ctX10_refuse h) (fun v10 s11 => ?_)
    exact jq_ireturn Γ dX10_undo_13 (hK0 _)


