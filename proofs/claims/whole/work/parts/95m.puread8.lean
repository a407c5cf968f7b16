section
variable {T : Int → Int} {L s e x v : Int} {m m1 m2 m3 σ τ τ1 τ2 : jq_M} {o f k lo hi to : Int} {A B N : Int → Int}
theorem pu_or64 (h0 : 0 ≤ x) (h1 : x < 64) (v0 : 0 ≤ v) (v1 : v < 6) : 0 ≤ jq_or x (jq_shl 1 v) ∧ jq_or x (jq_shl 1 v) < 64 := by
  have pv : (2 : Nat) ^ v.toNat < 2 ^ 6 := Nat.pow_lt_pow_right (by decide) (by omega)
  have := Nat.or_lt_two_pow (n := 6) (x := x.toNat) (y := 2 ^ v.toNat) (by omega) pv
  rw [show x = ((x.toNat : Nat) : Int) by omega, pu_shl1_i v0 (by omega), pu_or (by omega) (by omega)]
  omega
theorem pa_corner (ho : o = 5 ∨ o = 25) (hl : pu_lv T L m1 m2) (hb : pu_bd o m1 m2) : pu_IT o T L m1 m2 (X2_readCorner o m1) (X11_committeePart_j26 1 m2) := by
  obtain ⟨hI, hC, hN, hz, h13⟩ := id hb
  have c0 : m1 o 0 = m2 1 2024 := hC.1.1
  have i0 : m2 1 2024 = 0 ∨ 3 ≤ m2 1 2024 ∧ m2 1 2024 ≤ 6 := hI.1
  unfold X2_readCorner X11_committeePart_j26
  rw [pu_ld (by omega) (by omega), Option.bind_some]
  by_cases z : m1 o 0 = 0
  · obtain ⟨u1, u2, a1, a2, a3, a4, a5⟩ := pa_blame (f := 2) hl (by decide)
    unfold X11_committeePart_j37
    rw [if_pos z, if_pos (by omega), a1, a2]
    exact ⟨u1, u2, 0, rfl, rfl, pu_g1_o a4, pu_g2_o a5, Or.inr ⟨rfl, a3⟩⟩
  · obtain ⟨u1, u2, a1, a2, a3, a4, a5, a6, a7⟩ := pa_adv hl
    have e3 : ∀ m : jq_M, pu_semi m = ((X5_passSign 59 m).bind fun s5 => some s5) := fun m => rfl
    have uo : u1 o = m1 o := a4.1 o (by omega)
    have um : u2 1 = m2 1 := a5.1 1 (by omega)
    obtain ⟨v, k1, k2, g, b1, b2, b3, b4, b5, b6⟩ := pa_takeNumber (lo := 0) (hi := m1 o 0 - 1) (to := 2522) a3 (by omega) (by omega)
    unfold X11_committeePart_j43
    rw [if_neg z, if_neg (by omega), if_neg (show ¬ ((1 : Int) = 0) by decide), if_pos rfl, a1, a2, Option.bind_some, Option.bind_some, pu_ld (by omega) (by omega), Option.bind_some, uo, um, ← c0, pu_w (x := m1 o 0 - 1) (by omega) (by omega), b1, b2, pu_b2, pu_b2, pu_lt, ← e3]
    have gg : pu_g1 o m1 (jq_st k1 o 1 (jq_or (m1 o 1) (jq_shl 1 v))) := pu_g1_t (pu_g1_o (pu_o2_t a4 b3)) (pu_g1_s (Int.le_refl _) (by omega) (by omega))
    rcases b4 with ⟨rfl, c1, c2⟩ | ⟨rfl, c1⟩
    · obtain ⟨d1, d2, d3⟩ := b5 rfl
      have k25 : k2 1 2522 = v := by rw [d3.1 1 (by omega), pu_st_a]
      have k29 : k2 1 2029 = m1 o 1 := by rw [d3.1 1 (by omega), pu_st_b (by omega), um]; exact hC.1.2.1.symm
      rw [if_neg (show ¬ ((1 : Int) = 0) by decide), pu_ld (by omega) (by omega), Option.bind_some, pu_ld (by omega) (by omega), Option.bind_some, pu_sa (by omega) (by omega), Option.bind_some, k25, k29]
      obtain ⟨i0', i1, i2, i3, i4, i5, i6, i7, i8, i9, i10⟩ := hI
      obtain ⟨⟨r0, r1, r2, r3, r4, r5, r6⟩, rp, rw', ra⟩ := hC
      have or6 := pu_or64 (x := m1 o 1) (v := v) (by omega) (by omega) d1 (by omega)
      generalize jq_or (m1 o 1) (jq_shl 1 v) = y at gg or6
      have l2 : pu_lv T L (jq_st k1 o 1 y) (jq_st k2 1 2029 y) := c1.mv (pu_st_ne (by omega)) (pu_st_ne (by omega)) (pu_st_ne (by omega)) (pu_st_ne (by omega)) (pu_st_ne (by omega))
      have nn : pu_nN (jq_st k2 1 2029 y) = pu_nN m2 := by unfold pu_nN; rw [pu_st_ne (by omega)]; have := pu_nN_o d3; unfold pu_nN at this; rw [this, pu_st_ne (by omega), a5.1 2 (by omega)]
      have n5 : pu_nB (jq_st k2 1 2029 y) 5 = y := pu_nB_s (by omega)
      have nj : ∀ j, j ≠ 5 → j ≠ 498 → pu_nB (jq_st k2 1 2029 y) j = pu_nB m2 j := fun j hj hj2 => by rw [pu_nB_b (by omega), pu_nB_o d3, pu_nB_b (by omega), pu_nB_o a5]
      have fr : ∀ k, k ≠ 2 → k1 k = m1 k := fun k hk => (b3.1 k hk).trans (a4.1 k hk)
      refine pu_IT_t (pa_semi l2 ?_ (by omega)) gg (pu_g2_t (pu_g2_t (pu_g2_o a5) (pu_g2_t (pu_g2_s (to := 2522) (x := v) (by omega)) (pu_g2_o d3))) (pu_g2_s (by omega))) (by rw [pu_st_ne (by omega)]; omega)
      generalize jq_st k2 1 2029 y = q2 at nn n5 nj
      have ag : pu_ag (pu_nB q2) = pu_ag (pu_nB m2) := by
        rw [pu_ag_0 hz.2.2.1 (by omega), pu_ag_0 (fun a x y => by rw [nj _ (by omega) (by omega)]; exact hz.2.2.1 a x y) (by rw [nj 3 (by omega) (by omega)]; omega)]
      refine ⟨⟨?_, ?_, ?_, ?_, ?_, ?_, ?_, ?_, ?_, ?_, ?_⟩, ⟨⟨?_, ?_, ?_, ?_, ?_, ?_, ?_⟩, ?_, ?_, ?_⟩, ?_, ⟨?_, ?_, ?_, ?_, ?_⟩, ?_⟩
      · rw [nj 0 (by omega) (by omega)]; exact i0'
      · rw [nj 1 (by omega) (by omega), nj 0 (by omega) (by omega)]; exact i1
      · rw [nj 2 (by omega) (by omega)]; exact i2
      · rw [nj 3 (by omega) (by omega)]; exact i3
      · rw [nj 4 (by omega) (by omega)]; exact i4
      · rw [n5]; omega
      · rw [nj 6 (by omega) (by omega)]; exact i6
      · rw [nj 1 (by omega) (by omega), nj 0 (by omega) (by omega)]; intro p p0 p1; rw [nj _ (by omega) (by omega), nj _ (by omega) (by omega)]; exact i7 p p0 p1
      · rw [nj 1 (by omega) (by omega)]; intro p q p0 p1 p2; rw [nj _ (by omega) (by omega), nj _ (by omega) (by omega)]; exact i8 p q p0 p1 p2
      · rw [nj 2 (by omega) (by omega), nj 1 (by omega) (by omega)]
        intro k x y
        have := i9 k x y
        rw [nj _ (by omega) (by omega), nj _ (by omega) (by omega), nj _ (by omega) (by omega), nj _ (by omega) (by omega)]
        exact this
      · rw [nj 3 (by omega) (by omega)]
        intro k x y
        have := i10 k x y
        rw [nj _ (by omega) (by omega), nj _ (by omega) (by omega), nj _ (by omega) (by omega), nj _ (by omega) (by omega), nj _ (by omega) (by omega)]
        exact this
      · rw [pu_st_b (by omega), fr o (by omega), nj 0 (by omega) (by omega)]; exact r0
      · rw [pu_st_a, n5]
      · rw [pu_st_b (by omega), fr o (by omega), nj 1 (by omega) (by omega)]; exact r2
      · rw [pu_st_b (by omega), fr o (by omega), nj 2 (by omega) (by omega)]; exact r3
      · rw [pu_st_b (by omega), fr o (by omega), nj 3 (by omega) (by omega)]; exact r4
      · rw [pu_st_b (by omega), fr o (by omega), ag]; exact r5
      · rw [pu_st_b (by omega), fr o (by omega), nj 4 (by omega) (by omega)]; exact r6
      · rw [nj 1 (by omega) (by omega)]
        intro p p0 p1
        rw [nj _ (by omega) (by omega), nj _ (by omega) (by omega), pu_st_ne (by omega), pu_st_ne (by omega), fr _ (by omega), fr _ (by omega)]
        exact rp p p0 p1
      · rw [nj 2 (by omega) (by omega)]
        intro k x y
        have := rw' k x y
        rw [nj _ (by omega) (by omega), nj _ (by omega) (by omega), nj _ (by omega) (by omega), nj _ (by omega) (by omega), pu_st_ne (by omega), pu_st_ne (by omega), pu_st_ne (by omega), pu_st_ne (by omega), fr _ (by omega), fr _ (by omega), fr _ (by omega), fr _ (by omega)]
        exact this
      · rw [nj 3 (by omega) (by omega)]
        intro k x y
        have := ra k x y
        rw [nj _ (by omega) (by omega), nj _ (by omega) (by omega), nj _ (by omega) (by omega), nj _ (by omega) (by omega), pu_st_ne (by omega), pu_st_ne (by omega), pu_st_ne (by omega), pu_st_ne (by omega), fr _ (by omega), fr _ (by omega), fr _ (by omega), fr _ (by omega)]
        exact this
      · unfold pu_RN at hN ⊢
        rw [nj 1 (by omega) (by omega), nj 3 (by omega) (by omega), nn, pu_st_ne (by omega), pu_st_ne (by omega), fr _ (by omega), fr _ (by omega)]
        exact hN
      · rw [nj 4 (by omega) (by omega)]; exact hz.1
      · rw [nj 6 (by omega) (by omega)]; exact hz.2.1
      · intro a x y; rw [nj _ (by omega) (by omega)]; exact hz.2.2.1 a x y
      · rw [nj 1 (by omega) (by omega)]; intro p x y; rw [nj _ (by omega) (by omega)]; exact hz.2.2.2.1 p x y
      · rw [nj 3 (by omega) (by omega)]; intro a x y c c0 c1; rw [nj _ (by omega) (by omega)]; exact hz.2.2.2.2 a x y c c0 c1
      · rw [pu_st_ne (by omega), fr _ (by omega)]; exact h13
    · rw [if_pos rfl, pm_j197d]
      have d2 : pu_dd T L (jq_st k1 o 1 (jq_or (m1 o 1) (jq_shl 1 v))) k2 := c1.mv (pu_st_ne (by omega)) (pu_st_ne (by omega)) (pu_st_ne (by omega)) rfl
      obtain ⟨ω, s1, s2, s3⟩ := ps_semid (o := o) d2
      exact ⟨ω, k2, 0, s1, rfl, pu_g1_t gg s3, pu_g2_o (pu_o0_t a5 (b6 rfl)), Or.inr ⟨rfl, s2⟩⟩
end
