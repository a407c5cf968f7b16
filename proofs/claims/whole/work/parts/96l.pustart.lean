/-! THE BEGINNING: the two memories that the constructors leave -/
def pu_z0 : jq_M := jq_al (fun _ _ => 0) 0 (jq_df 7)
def pu_z3 : jq_M := jq_al (jq_st (jq_al pu_z0 1 (fun _ => -1)) 0 3 1) 2 (jq_df 3)
def pu_z4 : jq_M := jq_st (jq_al (jq_st (jq_al pu_z3 3 (fun _ => 0)) 2 0 3) 4 (fun _ => 0)) 2 1 4
noncomputable def pu_zr : Option jq_M := jq_iter X5_init_b28 200 (0, 0, 0, pu_z4)
theorem pu_zr1 : pu_zr.isSome = true := by decide +kernel
noncomputable def pu_z5 : jq_M := pu_zr.get pu_zr1
theorem pu_zi : X5_init_2 pu_z3 = some pu_z5 := by
  have h : jq_lp X5_init_b28 (0, 0, 0, pu_z4) = some pu_z5 := jq_lp_some.mpr ⟨200, (Option.some_get pu_zr1).symm⟩
  show (jq_lp X5_init_b28 (0, 0, 0, pu_z4)).bind (fun e13 => some e13) = some pu_z5
  rw [h]
  rfl
noncomputable def pu_xK (s4 : jq_M) : Option jq_M :=
  jq_lt (jq_st s4 0 4 2) fun s5 =>
  jq_lt (jq_al s5 5 (jq_df 1)) fun s6 =>
  (X1_init_5 s6).bind fun s7 =>
  jq_lt (jq_st s7 0 7 5) fun s8 =>
  jq_lt (jq_al s8 25 (jq_df 1)) fun s9 =>
  (X1_init_25 s9).bind fun s10 =>
  jq_lt (jq_st s10 0 8 25) fun s11 =>
  jq_lt (jq_al s11 45 (jq_df 4)) fun s12 =>
  (X7_init_45 s12).bind fun s13 =>
  jq_lt (jq_st s13 0 9 45) fun s14 =>
  jq_lt (jq_al s14 51 (fun _ => -1)) fun s15 =>
  jq_lt (jq_st s15 0 10 51) fun s16 =>
  jq_lt (jq_al s16 52 (jq_df 5)) fun s17 =>
  (X8_init_52 s17).bind fun s18 =>
  jq_lt (jq_st s18 0 12 52) fun s19 =>
  jq_lt (jq_al s19 57 (jq_df 0)) fun s20 =>
  (X0_init_57 s20).bind fun s21 =>
  jq_lt (jq_st s21 0 13 57) fun s22 =>
  jq_lt (jq_al s22 60 (jq_df 2)) fun s23 =>
  (X3_init_60 s23).bind fun s24 =>
  jq_lt (jq_st s24 0 14 60) fun s25 =>
  jq_lt (jq_al s25 62 (fun _ => 0)) fun s26 =>
  jq_lt (jq_st s26 0 15 62) fun s27 =>
  jq_lt (jq_al s27 63 (fun _ => 0)) fun s28 =>
  jq_lt (jq_st s28 0 17 63) fun s29 =>
  jq_lt (jq_st s29 0 0 0) fun s30 =>
  jq_lt (jq_st s30 0 1 0) fun s31 =>
  jq_lt (jq_st s31 0 2 1) fun s32 =>
  jq_lt (jq_st s32 0 5 (-1)) fun s33 =>
  jq_lt (jq_st s33 0 6 (-1)) fun s34 =>
  jq_els (s34 0 3 = 1) <|
  jq_els ((0 : Int) < 4) <|
  jq_els (s34 0 3 = 1) <|
  jq_lt (jq_al s34 64 (jq_df 6)) fun s35 =>
  (X9_init_64 s35).bind fun s36 =>
  (jq_sa s36 1 4 0 64).bind fun s37 =>
  jq_els (s37 0 3 = 1) <|
  jq_els ((1 : Int) < 4) <|
  jq_els (s37 0 3 = 1) <|
  jq_lt (jq_al s37 66 (jq_df 6)) fun s38 =>
  (X9_init_66 s38).bind fun s39 =>
  (jq_sa s39 1 4 1 66).bind fun s40 =>
  jq_els (s40 0 3 = 1) <|
  jq_els ((2 : Int) < 4) <|
  jq_els (s40 0 3 = 1) <|
  jq_lt (jq_al s40 68 (jq_df 6)) fun s41 =>
  (X9_init_68 s41).bind fun s42 =>
  (jq_sa s42 1 4 2 68).bind fun s43 =>
  jq_els (s43 0 3 = 1) <|
  jq_els ((3 : Int) < 4) <|
  jq_els (s43 0 3 = 1) <|
  jq_lt (jq_al s43 70 (jq_df 6)) fun s44 =>
  (X9_init_70 s44).bind fun s45 =>
  (jq_sa s45 1 4 3 70).bind fun s46 =>
  jq_els (s46 0 3 = 1) <|
  if (4 : Int) < 4 then none else
  jq_els (s46 0 10 = 51) <|
  jq_els ((0 : Int) < 3) <|
  jq_els (s46 0 10 = 51) <|
  jq_lt (jq_al s46 72 (jq_df 1)) fun s47 =>
  (X1_init_72 s47).bind fun s48 =>
  (jq_sa s48 51 3 0 72).bind fun s49 =>
  jq_els (s49 0 10 = 51) <|
  jq_els ((1 : Int) < 3) <|
  jq_els (s49 0 10 = 51) <|
  jq_lt (jq_al s49 92 (jq_df 1)) fun s50 =>
  (X1_init_92 s50).bind fun s51 =>
  (jq_sa s51 51 3 1 92).bind fun s52 =>
  jq_els (s52 0 10 = 51) <|
  jq_els ((2 : Int) < 3) <|
  jq_els (s52 0 10 = 51) <|
  jq_lt (jq_al s52 112 (jq_df 1)) fun s53 =>
  (X1_init_112 s53).bind fun s54 =>
  (jq_sa s54 51 3 2 112).bind fun s55 =>
  jq_els (s55 0 10 = 51) <|
  if (3 : Int) < 3 then none else
  some s55
noncomputable def pu_xr : Option jq_M := pu_xK pu_z5
theorem pu_xr1 : pu_xr.isSome = true := by decide +kernel
noncomputable def pu_x : jq_M := pu_xr.get pu_xr1
theorem pu_xi : X10_init_0 pu_z0 = some pu_x := by
  have h : X10_init_0 pu_z0 = (X5_init_2 pu_z3).bind pu_xK := rfl
  rw [h, pu_zi, Option.bind_some]
  exact (Option.some_get pu_xr1).symm
theorem pu_xl : jq_lay jq_zX pu_x := by
  unfold jq_lay
  decide +kernel
theorem pu_xk : ∀ i : Nat, i < 28 → pu_x 3 (i : Int) = pu_c5 (pu_kw.getD i []) := by decide +kernel
theorem pu_xc : pu_x 0 0 = 0 ∧ pu_x 0 1 = 0 ∧ pu_x 0 2 = 1 ∧ pu_x 0 5 = -1 ∧ pu_x 0 6 = -1 ∧ pu_x 0 7 = 5 ∧ pu_x 0 8 = 25 ∧ pu_x 0 11 = 0 ∧ pu_x 0 16 = 0 ∧ pu_x 2 2 = 0 ∧ pu_x 18 0 = 0 := by decide +kernel
theorem pu_x5 : pu_x 5 0 = 0 ∧ pu_x 5 1 = 0 ∧ pu_x 5 2 = 0 ∧ pu_x 5 3 = 0 ∧ pu_x 5 4 = 0 ∧ pu_x 5 5 = 0 ∧ pu_x 5 6 = 0 := by decide +kernel
theorem pu_xt : (pu_x 64 0 = -1 ∧ pu_x 66 0 = -1 ∧ pu_x 68 0 = -1 ∧ pu_x 70 0 = -1) ∧ pu_x 62 0 = 0 ∧ pu_x 62 1 = 0 ∧ pu_x 62 2 = 0 ∧ pu_x 62 3 = 0 ∧ pu_x 62 4 = 0 := by decide +kernel
def pu_n0 : jq_M := jq_al (fun _ _ => 0) 0 (jq_df 8)
noncomputable def pu_mK (σ : jq_M) : Option jq_M :=
  jq_lt (jq_al σ 1 (fun _ => 0)) fun s1 =>
  jq_lt (jq_st s1 0 0 1) fun s2 =>
  jq_lt (jq_al s2 2 (fun _ => 0)) fun s3 =>
  jq_lt (jq_st s3 0 1 2) fun s4 =>
  jq_lt (jq_st s4 0 4 1) fun s5 =>
  jq_lt (jq_al s5 3 (fun _ => 0)) fun s6 =>
  jq_lt (jq_st s6 0 5 3) fun s7 =>
  jq_lt (jq_al s7 4 (fun _ => 0)) fun s8 =>
  (jq_sa s8 4 4 0 (-1)).bind fun s9 =>
  (jq_sa s9 4 4 1 (-1)).bind fun s10 =>
  (jq_sa s10 4 4 2 (-1)).bind fun s11 =>
  (jq_sa s11 4 4 3 (-1)).bind fun s12 =>
  jq_lt (jq_st s12 0 6 4) fun s13 =>
  jq_lt (jq_al s13 5 (fun _ => 0)) fun s14 =>
  jq_lt (jq_st s14 0 7 5) fun s15 =>
  jq_lt (jq_al s15 6 (fun _ => 0)) fun s16 =>
  jq_lt (jq_st s16 0 8 6) fun s17 =>
  jq_lt (jq_al s17 7 (fun _ => 0)) fun s18 =>
  jq_lt (jq_st s18 0 9 7) fun s19 =>
  jq_lt (jq_st s19 0 16 (-1)) fun s20 =>
  jq_lt (jq_st s20 0 17 (-1)) fun s21 =>
  jq_lt (jq_al s21 8 (fun _ => 0)) fun s22 =>
  jq_lt (jq_st s22 0 20 8) fun s23 =>
  jq_lt (jq_al s23 9 (fun _ => 0)) fun s24 =>
  jq_lt (jq_st s24 0 23 9) fun s25 =>
  jq_lt (jq_al s25 10 (fun _ => 0)) fun s26 =>
  jq_lt (jq_st s26 0 24 10) fun s27 =>
  jq_lt (jq_al s27 11 (fun _ => 0)) fun s28 =>
  jq_lt (jq_st s28 0 25 11) fun s29 =>
  jq_lt (jq_al s29 12 (fun _ => 0)) fun s30 =>
  jq_lt (jq_st s30 0 26 12) fun s31 =>
  jq_lt (jq_al s31 13 (fun _ => 0)) fun s32 =>
  jq_lt (jq_st s32 0 28 13) fun s33 =>
  jq_lt (jq_al s33 14 (fun _ => 0)) fun s34 =>
  jq_lt (jq_st s34 0 29 14) fun s35 =>
  jq_lt (jq_al s35 15 (fun _ => 0)) fun s36 =>
  jq_lt (jq_st s36 0 32 15) fun s37 =>
  jq_lt (jq_al s37 16 (fun _ => 0)) fun s38 =>
  jq_lt (jq_st s38 0 33 16) fun s39 =>
  jq_lt (jq_al s39 17 (fun _ => 0)) fun s40 =>
  jq_lt (jq_st s40 0 34 17) fun s41 =>
  some s41
noncomputable def pu_mr : Option jq_M := pu_mK pu_n0
theorem pu_mr1 : pu_mr.isSome = true := by decide +kernel
noncomputable def pu_nmm : jq_M := pu_mr.get pu_mr1
theorem pu_ml' : jq_lay jq_zM pu_nmm := by
  unfold jq_lay
  decide +kernel
theorem pu_ml1 : ∀ q ∈ jq_zM.2.1, q.1 ≠ 1 := by decide +kernel
theorem pu_nmc : pu_nmm 0 2 = 0 ∧ pu_nmm 0 3 = 0 ∧ pu_nmm 0 4 = 1 ∧ pu_nmm 0 16 = -1 ∧ pu_nmm 0 17 = -1 ∧ pu_nmm 0 36 = 0 ∧ pu_nmm 0 35 = 0 ∧ pu_nmm 0 10 = 0 ∧ (pu_nmm 4 0 = -1 ∧ pu_nmm 4 1 = -1 ∧ pu_nmm 4 2 = -1 ∧ pu_nmm 4 3 = -1) ∧ pu_nmm 17 0 = 0 ∧ pu_nmm 17 1 = 0 ∧ pu_nmm 17 2 = 0 ∧ pu_nmm 17 3 = 0 ∧ pu_nmm 17 4 = 0 := by decide +kernel
theorem pm_plain0 {σ : jq_M} : ∃ τ, X11_plain 0 σ = some τ ∧ (∀ k, k ≠ 1 → τ k = σ k) ∧ (∀ j, 0 ≤ j → j < 506 → τ 1 j = if j = 6 then -1 else 0) := by
  have lp : ∃ e, jq_lp (X11_plain_b2 0) (0, σ) = some e ∧ (∀ k, k ≠ 1 → e k = σ k) ∧ ∀ j, 0 ≤ j → j < 506 → e 1 j = 0 := by
    refine pu_lpE (f := X11_plain_b2 0) (s := ((0 : Int), σ)) (fun i t => t.1 = (i : Int) ∧ (∀ k, k ≠ 1 → t.2 k = σ k) ∧ ∀ j, 0 ≤ j → j < t.1 → t.2 1 j = 0) (fun e => (∀ k, k ≠ 1 → e k = σ k) ∧ ∀ j, 0 ≤ j → j < 506 → e 1 j = 0) 506 ⟨rfl, fun _ _ => rfl, fun j a b => by dsimp only at b; omega⟩ (fun i t ht hi => ?_) (fun e a b => ⟨e, a, b⟩)
    obtain ⟨x1, x2⟩ := t
    obtain ⟨q0, q1, q3⟩ := ht
    dsimp only at q0 q1 q3
    unfold X11_plain_b2
    dsimp only
    by_cases w : x1 < 506
    · rw [if_pos w, Int.zero_add, pu_w (x := x1) (by omega) (by omega), pu_sa (by omega) (by omega), Option.bind_some, pu_lt, pu_w (by omega) (by omega)]
      refine Or.inr ⟨by omega, _, rfl, by dsimp only; omega, fun k hk => (pu_st_ne hk).trans (q1 k hk), fun j a b => ?_⟩
      dsimp only at b ⊢
      by_cases z : j = x1
      · rw [z, pu_st_a]
      · rw [pu_st_b z]; exact q3 j a (by omega)
    · rw [if_neg w]
      exact Or.inl ⟨_, rfl, q1, fun j a b => q3 j a (by omega)⟩
  obtain ⟨e, l1, l2, l4⟩ := lp
  unfold X11_plain
  rw [l1, Option.bind_some, pu_w (x := 0 + 6) (by omega) (by omega), pu_sa (by omega) (by omega), Option.bind_some]
  refine ⟨_, rfl, fun k hk => (pu_st_ne hk).trans (l2 k hk), fun j a b => ?_⟩
  by_cases z : j = 6
  · rw [if_pos z, z]
    exact pu_st_a
  · rw [if_neg z, pu_st_b (by omega)]
    exact l4 j a b
theorem pr_start : ∃ σ1 σ2 : jq_M, X10_init_0 (jq_al (fun _ _ => 0) 0 (jq_df 7)) = some σ1 ∧ X11_init_0 (jq_al (fun _ _ => 0) 0 (jq_df 8)) = some σ2 ∧ jq_lay jq_zX σ1 ∧ jq_lay jq_zM σ2 ∧ jq_Rel σ1 σ2 := by
  obtain ⟨τ, p1, p2, p3⟩ := pm_plain0 (σ := pu_nmm)
  have mi : X11_init_0 pu_n0 = some τ := by
    have h : X11_init_0 pu_n0 = pu_mr.bind (fun s41 => jq_asr (jq_lay jq_zM s41) ((X11_plain 0 s41).bind fun s42 => some s42)) := rfl
    have hs : pu_mr = some pu_nmm := (Option.some_get pu_mr1).symm
    rw [h, hs, Option.bind_some]
    unfold jq_asr
    rw [if_pos pu_ml', p1]
    rfl
  obtain ⟨c1, c2, c3, c4, c5, c6, c7, c8, c9, c10, c11⟩ := pu_xc
  obtain ⟨d0, d1, d2, d3, d4, d5, d6⟩ := pu_x5
  obtain ⟨⟨t0, t1, t2, t3⟩, u0, u1, u2, u3, u4⟩ := pu_xt
  obtain ⟨m2, m3, m4, m16, m17, m36, m35, m10, ⟨n0, n1, n2, n3⟩, v0, v1, v2, v3, v4⟩ := pu_nmc
  have z : ∀ j, 0 ≤ j → j < 506 → j ≠ 6 → τ 1 j = 0 := fun j a b c => by rw [p3 j a b, if_neg c]
  have z0 := z 0 (by decide) (by decide) (by decide)
  have z1 := z 1 (by decide) (by decide) (by decide)
  have z2 := z 2 (by decide) (by decide) (by decide)
  have z3 := z 3 (by decide) (by decide) (by decide)
  have z4 := z 4 (by decide) (by decide) (by decide)
  have z5 := z 5 (by decide) (by decide) (by decide)
  have z6 : τ 1 6 = -1 := by rw [p3 6 (by decide) (by decide), if_pos rfl]
  have ag : pu_ag (τ 1) = 0 := pu_ag_0 (fun a x y => z _ (by omega) (by omega) (by omega)) (by omega)
  refine ⟨pu_x, τ, pu_xi, mi, pu_xl, fun q hq => ?_, ?_⟩
  · rw [p2 _ (pu_ml1 q hq)]
    exact pu_ml' q hq
  unfold jq_Rel
  rw [p2 0 (by decide), p2 3 (by decide), p2 4 (by decide), p2 5 (by decide), p2 6 (by decide), p2 17 (by decide)]
  refine ⟨⟨by omega, by omega, by omega, by omega, by omega⟩, Or.inl ⟨c6, c7⟩, ?_, ⟨by omega, by omega, by omega, fun i a b => by omega⟩, fun t a b => Or.inl ?_, ⟨by omega, by omega, by omega, fun j a b => by omega⟩, ⟨by omega, fun k a b => ?_⟩, fun i w hw => ?_⟩
  · rw [c6]
    refine ⟨⟨Or.inl z0, by omega, by omega, by omega, by omega, by omega, by omega, fun p x y => by omega, fun p q x y w => by omega, fun k x y => by omega, fun a x y => by omega⟩, ⟨⟨by omega, by omega, by omega, by omega, by omega, ?_, by omega⟩, fun p x y => by omega, fun k x y => by omega, fun a x y => by omega⟩, ⟨fun p x y => by omega, fun a x y => by omega⟩, ⟨Or.inl ⟨z6, c11⟩, fun g => by omega⟩, by omega⟩
    rw [d5, ag]
    rfl
  · rcases (show t = 0 ∨ t = 1 ∨ t = 2 ∨ t = 3 by omega) with rfl | rfl | rfl | rfl
    · exact ⟨t0, n0⟩
    · exact ⟨t1, n1⟩
    · exact ⟨t2, n2⟩
    · exact ⟨t3, n3⟩
  · rcases (show k = 0 ∨ k = 1 ∨ k = 2 ∨ k = 3 ∨ k = 4 by omega) with rfl | rfl | rfl | rfl | rfl
    · rw [u0, v0]
    · rw [u1, v1]
    · rw [u2, v2]
    · rw [u3, v3]
    · rw [u4, v4]
  · have hi : i < 28 := by
      have := (List.getElem?_eq_some_iff.mp hw).1
      exact this
    rw [pu_xk i hi, List.getD_eq_getElem?_getD, hw]
    rfl
