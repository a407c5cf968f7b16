section
variable {σ σ1 σ2 τ1 τ2 : jq_M} {o v p n a b c t row P : Int} {A S : Int → Int}
def pu_sw (S : Int → Int) (a b : Int) : Int → Int := fun p => if p = b then S a else if p = a then S b else S p
theorem ps_layTrial : ∃ τ, X10_layTrial σ = some τ ∧ (∀ k, k ≠ 63 → τ k = σ k) ∧ ∀ p, 0 ≤ p → p < 5 → τ 63 p = σ (σ 0 7 + 3) p := by
  unfold X10_layTrial
  simp only [pu_lt]
  rw [pu_cpn (by omega) (by omega), Option.bind_some]
  exact ⟨_, rfl, fun k hk => pu_cp_ne hk, fun p h0 h1 => pu_cp0 h0 h1⟩
theorem ps_swapRow (h5 : σ o 2 ≤ 5) (ha2 : a < σ o 2) (hb2 : b < σ o 2) (a0 : 0 ≤ a) (a1 : a < 5) (b0 : 0 ≤ b) (b1 : b < 5) (hab : a ≠ b) (ha : σ row a = S a) (hb : σ row b = S b) : X1_swapTwo o a b row σ = if S a = -1 ∧ S b = -1 then some (0, σ) else some (1, jq_st (jq_st σ row a (S b)) row b (S a)) := by
  have n10 : ¬ ((1 : Int) = 0) := by decide
  have j : X1_swapTwo_j31 o a b row (S a) (S b) σ = some (1, jq_st (jq_st σ row a (S b)) row b (S a)) := by
    unfold X1_swapTwo_j31
    rw [ps_isParty h5, Option.bind_some, pu_i_p ⟨a0, ha2⟩, if_neg n10, ps_isParty h5, Option.bind_some, pu_i_p ⟨b0, hb2⟩, if_neg n10, pu_sa a0 a1, Option.bind_some, pu_sa b0 b1, Option.bind_some]
  unfold X1_swapTwo
  rw [ps_seatIn a0 a1, ps_seatIn b0 b1, Option.bind_some, Option.bind_some, if_neg hab, ha, hb, j]
  by_cases g1 : S a = -1
  · rw [if_pos g1]
    by_cases g2 : S b = -1
    · rw [if_pos g2, if_pos ⟨g1, g2⟩]
    · rw [if_neg g2, if_neg (fun q => g2 q.2)]
  · rw [if_neg g1, if_neg (fun q => g1 q.1)]
theorem pm_swapsSeats (a0 : 0 ≤ a) (a1 : a < 5) (b0 : 0 ≤ b) (b1 : b < 5) : X11_swapsSeats a b σ = some (jq_st (jq_st σ 9 a (σ 9 b)) 9 b (σ 9 a)) := by
  unfold X11_swapsSeats
  rw [pu_ld a0 a1, pu_ld b0 b1, Option.bind_some, Option.bind_some, pu_sa a0 a1, Option.bind_some, pu_sa b0 b1, Option.bind_some]
theorem pu_swst {k : Int} (h : ∀ p, 0 ≤ p → p < n → σ k p = S p) (a0 : 0 ≤ a) (a1 : a < n) (b0 : 0 ≤ b) (b1 : b < n) (p0 : 0 ≤ p) (p1 : p < n) : jq_st (jq_st σ k a (S b)) k b (S a) k p = pu_sw S a b p := by
  unfold pu_sw
  by_cases g1 : p = b
  · rw [if_pos g1, g1, pu_st_a]
  · rw [if_neg g1, pu_st_b g1]
    by_cases g2 : p = a
    · rw [if_pos g2, g2, pu_st_a]
    · rw [if_neg g2, pu_st_b g2, h p p0 p1]
theorem pu_sw_sw (h : ∀ p, 0 ≤ p → p < n → σ 9 p = S p) (a0 : 0 ≤ a) (a1 : a < n) (b0 : 0 ≤ b) (b1 : b < n) (hab : a ≠ b) (τ : jq_M) (hτ : τ = jq_st (jq_st σ 9 a (S b)) 9 b (S a)) (p0 : 0 ≤ p) (p1 : p < n) : jq_st (jq_st τ 9 a (τ 9 b)) 9 b (τ 9 a) 9 p = S p := by
  have e1 : τ 9 b = S a := by rw [hτ, pu_st_a]
  have e2 : τ 9 a = S b := by rw [hτ, pu_st_b hab, pu_st_a]
  rw [e1, e2]
  by_cases g1 : p = b
  · rw [g1, pu_st_a]
  · rw [pu_st_b g1]
    by_cases g2 : p = a
    · rw [g2, pu_st_a]
    · rw [pu_st_b g2, hτ, pu_st_b g1, pu_st_b g2, h p p0 p1]
theorem pr_signsBy {σ1 σ2 : jq_M} (h : jq_Rel σ1 σ2) (w1 : jq_wf jq_zX 132 σ1) (w2 : jq_wf jq_zM 18 σ2) (y1 : jq_lay jq_zX σ1) (y2 : jq_lay jq_zM σ2) {p1 p2 : Int} (hp1 : jq_r p1) (hp2 : jq_r p2) : ∃ (r : Int) (σ1' σ2' : jq_M), X10_signsBy p1 p2 σ1 = some (r, σ1') ∧ X11_signsBy p1 p2 σ2 = some (r, σ2') ∧ jq_Rel σ1' σ2' := by
  have hI := h.2.2.1.1
  have hC := h.2.2.1.2.1
  have hn : σ1 0 7 = 5 ∨ σ1 0 7 = 25 := by have := h.2.1; omega
  obtain ⟨⟨i0, i1, i2, i3, i4, i5, i6, ip, iq, iw, ia⟩, ⟨⟨c0, c1, c2, c3, c4, c5, c6⟩, cp, cw, ca⟩, cN, cS⟩ := h.2.2.1
  unfold X10_signsBy X11_signsBy
  by_cases hp : (0 ≤ p1 ∧ p1 < σ2 1 1) ∧ (0 ≤ p2 ∧ p2 < σ2 1 1) ∧ p1 ≠ p2
  · have hpn : ¬ ¬ ((0 ≤ p1 ∧ p1 < σ2 1 1) ∧ (0 ≤ p2 ∧ p2 < σ2 1 1) ∧ p1 ≠ p2) := fun q => q hp
    obtain ⟨⟨a0, a1⟩, ⟨b0, b1⟩, ab⟩ := hp
    obtain ⟨τ, s1, s2, s3, s4, -⟩ := pm_sn hI
    obtain ⟨υ, u1, u2, u3⟩ := ps_layTrial (σ := σ1)
    have u0 : υ 0 = σ1 0 := u2 0 (by omega)
    have u4 : ∀ p, 0 ≤ p → p < σ2 1 1 → υ 63 p = pu_se (σ2 1) p := fun p x y => by rw [u3 p x (by omega)]; exact (cp p x y).2
    have e1 : τ 1 = σ2 1 := s2 1 (by omega)
    have sr := ps_swapRow (σ := υ) (o := σ1 0 7) (row := 63) (S := pu_se (σ2 1)) (by rw [u2 _ (by omega), c2]; omega) (by rw [u2 _ (by omega), c2]; exact a1) (by rw [u2 _ (by omega), c2]; exact b1) a0 (show p1 < 5 by omega) b0 (show p2 < 5 by omega) ab (u4 p1 a0 a1) (u4 p2 b0 b1)
    simp only [ps_areTwo (pu_cP h), c2, Option.bind_some, pu_i_0, if_neg hpn, pm_areTwo, u1, pu_lt, u0, s1, pu_ld a0 (show p1 < 5 by omega), pu_ld b0 (show p2 < 5 by omega), s3 p1 a0 a1, s3 p2 b0 b1, sr]
    have z1 : ∀ k, k ≠ 63 → jq_st (jq_st υ 63 p1 (pu_se (σ2 1) p2)) 63 p2 (pu_se (σ2 1) p1) k = σ1 k := fun k hk => ((pu_st_ne hk).trans (pu_st_ne hk)).trans (u2 k hk)
    have hC2 : pu_RC (jq_st (jq_st υ 63 p1 (pu_se (σ2 1) p2)) 63 p2 (pu_se (σ2 1) p1)) (σ1 0 7) (σ2 1) := hC.mv (fun k x y => z1 _ (by omega))
    obtain ⟨ω, w1, w2⟩ := ps_signersOf hI hC2 (show (63 : Int) ≠ σ1 0 7 + 19 by omega) (S := pu_sw (pu_se (σ2 1)) p1 p2) (fun p x y => pu_swst u4 a0 a1 b0 b1 x y)
    have z0 := z1 0 (by omega)
    have v1 : X11_signsBy_j46 p1 p2 τ = some (pu_sg (σ2 1) (pu_sw (pu_se (σ2 1)) p1 p2), jq_st (jq_st (jq_st τ 9 p1 (pu_se (σ2 1) p2)) 9 p2 (pu_se (σ2 1) p1)) 0 2 0) := by
      unfold X11_signsBy_j46
      have q1 : jq_st (jq_st τ 9 p1 (pu_se (σ2 1) p2)) 9 p2 (pu_se (σ2 1) p1) 1 = σ2 1 := ((pu_st_ne (by omega)).trans (pu_st_ne (by omega))).trans e1
      have q2 := pm_signing (σ := jq_st (jq_st τ 9 p1 (pu_se (σ2 1) p2)) 9 p2 (pu_se (σ2 1) p1)) (by rw [q1]; exact hI)
      rw [pm_swapsSeats a0 (by omega) b0 (by omega), Option.bind_some, s3 p1 a0 a1, s3 p2 b0 b1, q2, Option.bind_some, q1, pu_sg_cg hI (S' := pu_sw (pu_se (σ2 1)) p1 p2) (fun p x y => pu_swst s3 a0 a1 b0 b1 x y)]
      rfl
    have f2 : pu_fr2 σ2 (jq_st (jq_st τ 9 p1 (pu_se (σ2 1) p2)) 9 p2 (pu_se (σ2 1) p1)) := pu_fr2_9 (fun k hk => ((pu_st_ne hk).trans (pu_st_ne hk)).trans (s2 k hk))
    have f1 : pu_fr1 σ1 ω := fun k hk => (w2 k (fun q => hk (by unfold pu_scr; omega))).trans (z1 k (fun q => hk (by unfold pu_scr; omega)))
    have f3 : pu_fr1 σ1 υ := fun k hk => u2 k (fun q => hk (by unfold pu_scr; omega))
    rw [v1]
    by_cases g1 : pu_se (σ2 1) p1 = -1
    · by_cases g2 : pu_se (σ2 1) p2 = -1
      · rw [if_pos ⟨g1, g2⟩, if_pos g1, if_pos g2]
        exact pu_nf h f3 (pu_fr2_9 s2) rfl rfl
      · rw [if_neg (fun q => g2 q.2), if_pos g1, if_neg g2, pu_b2, if_neg (by decide), z0, w1]
        exact pu_nf h f1 f2 rfl rfl
    · rw [if_neg (fun q => g1 q.1), if_neg g1, pu_b2, if_neg (by decide), z0, w1]
      exact pu_nf h f1 f2 rfl rfl
  · refine pu_no h (r := -1) (v := 1) ?_ ?_
    · simp only [ps_areTwo (pu_cP h), c2, Option.bind_some, pu_i_0, if_pos hp, ps_refuse, pu_b2]
    · simp only [pm_areTwo, Option.bind_some, pu_i_0, if_pos hp, pm_refuse, pu_b2]
theorem pr_bestSwap {σ1 σ2 : jq_M} (h : jq_Rel σ1 σ2) (w1 : jq_wf jq_zX 132 σ1) (w2 : jq_wf jq_zM 18 σ2) (y1 : jq_lay jq_zX σ1) (y2 : jq_lay jq_zM σ2) : ∃ (r : Int) (σ1' σ2' : jq_M), X10_bestSwap σ1 = some (r, σ1') ∧ X11_bestSwap σ2 = some (r, σ2') ∧ jq_Rel σ1' σ2' := by
  have hI := h.2.2.1.1
  have hC := h.2.2.1.2.1
  have hn : σ1 0 7 = 5 ∨ σ1 0 7 = 25 := by have := h.2.1; omega
  obtain ⟨⟨i0, i1, i2, i3, i4, i5, i6, ip, iq, iw, ia⟩, ⟨⟨c0, c1, c2, c3, c4, c5, c6⟩, cp, cw, ca⟩, cN, cS⟩ := h.2.2.1
  obtain ⟨τ, s1, s2, s3, s4, sw, sa, -⟩ := pm_sn hI
  obtain ⟨e, e', h1, h2, h3, h4, h5⟩ := pu_sim (f := X10_bestSwap_b19) (g := X11_bestSwap_b13) (s := (pu_all (σ2 1) (pu_se (σ2 1)), -1, 0, σ1)) (t := (pu_all (σ2 1) (pu_se (σ2 1)), -1, 0, τ)) (fun i s t => s.1 = t.1 ∧ s.2.1 = t.2.1 ∧ s.2.2.1 = (i : Int) ∧ t.2.2.1 = (i : Int) ∧ (∀ k, k ≠ 63 → s.2.2.2 k = σ1 k) ∧ (∀ k, k ≠ 9 → t.2.2.2 k = σ2 k) ∧ ∀ p, 0 ≤ p → p < σ2 1 1 → t.2.2.2 9 p = pu_se (σ2 1) p) (fun e e' => e.1 = e'.1 ∧ (∀ k, k ≠ 63 → e.2 k = σ1 k) ∧ ∀ k, k ≠ 9 → e'.2 k = σ2 k) (σ2 1 1).toNat (fun i s t hR hi => by
    obtain ⟨x1, x2, x3, x4⟩ := s
    obtain ⟨y1', y2', y3, y4⟩ := t
    obtain ⟨r1, r2, r3, r4, r5, r6, r7⟩ := hR
    dsimp only at r1 r2 r3 r4 r5 r6 r7
    have r8 : x3 = y3 := by omega
    subst r1 r2 r8
    have k0 : 0 ≤ x3 := by omega
    have m0 : x4 0 = σ1 0 := r5 0 (by omega)
    have m1 : x4 (σ1 0 7) = σ1 (σ1 0 7) := r5 _ (by omega)
    have m2 : y4 1 = σ2 1 := r6 1 (by omega)
    unfold X10_bestSwap_b19 X11_bestSwap_b13
    dsimp only
    simp only [pu_lt, m0, m1, c2, pu_ld (σ := y4) (k := 1) (n := 3174) (i := 1) (by omega) (by omega), Option.bind_some, m2]
    by_cases hl : x3 < σ2 1 1
    · rw [if_pos hl, if_pos hl, pu_w (by omega) (by omega)]
      obtain ⟨e, e', h1, h2, h3, h4, h5, h6, h7⟩ := pu_sim (f := X10_bestSwap_b35 (x1, x2, x3, x4)) (g := X11_bestSwap_b28 (x1, x2, x3, y4)) (s := (x1, x2, x3 + 1, x4)) (t := (x1, x2, x3 + 1, y4)) (fun i s t => s.1 = t.1 ∧ s.2.1 = t.2.1 ∧ s.2.2.1 = x3 + 1 + (i : Int) ∧ t.2.2.1 = x3 + 1 + (i : Int) ∧ (∀ k, k ≠ 63 → s.2.2.2 k = σ1 k) ∧ (∀ k, k ≠ 9 → t.2.2.2 k = σ2 k) ∧ ∀ p, 0 ≤ p → p < σ2 1 1 → t.2.2.2 9 p = pu_se (σ2 1) p) (fun e e' => e.1 = e'.1 ∧ e.2.1 = e'.2.1 ∧ (∀ k, k ≠ 63 → e.2.2 k = σ1 k) ∧ (∀ k, k ≠ 9 → e'.2.2 k = σ2 k) ∧ ∀ p, 0 ≤ p → p < σ2 1 1 → e'.2.2 9 p = pu_se (σ2 1) p) (σ2 1 1).toNat (fun i s t hR hi => by
        obtain ⟨z1, z2, z3, z4⟩ := s
        obtain ⟨w1, w2, w3, w4⟩ := t
        obtain ⟨r1, r2, r3, r4, r5, r6, r7⟩ := hR
        dsimp only at r1 r2 r3 r4 r5 r6 r7
        have r8 : z3 = w3 := by omega
        subst r1 r2 r8
        have k1 : 0 ≤ z3 := by omega
        have ab : x3 ≠ z3 := by omega
        have m0 : z4 0 = σ1 0 := r5 0 (by omega)
        have m1 : z4 (σ1 0 7) = σ1 (σ1 0 7) := r5 _ (by omega)
        have m2 : w4 1 = σ2 1 := r6 1 (by omega)
        unfold X10_bestSwap_b35 X11_bestSwap_b28
        dsimp only
        simp only [pu_lt, m0, m1, c2, pu_ld (σ := w4) (k := 1) (n := 3174) (i := 1) (by omega) (by omega), Option.bind_some, m2]
        by_cases hl2 : z3 < σ2 1 1
        · obtain ⟨υ, u1, u2, u3⟩ := ps_layTrial (σ := z4)
          have u5 : ∀ k, k ≠ 63 → υ k = σ1 k := fun k hk => (u2 k hk).trans (r5 k hk)
          have u0 : υ 0 = σ1 0 := u5 0 (by omega)
          have u4 : ∀ p, 0 ≤ p → p < σ2 1 1 → υ 63 p = pu_se (σ2 1) p := fun p x y => by
            rw [u3 p x (by omega), m0, r5 _ (by omega)]; exact (cp p x y).2
          have sr := ps_swapRow (σ := υ) (o := σ1 0 7) (row := 63) (S := pu_se (σ2 1)) (by rw [u5 _ (by omega), c2]; omega) (by rw [u5 _ (by omega), c2]; exact hl) (by rw [u5 _ (by omega), c2]; exact hl2) k0 (show x3 < 5 by omega) k1 (show z3 < 5 by omega) ab (u4 x3 k0 hl) (u4 z3 k1 hl2)
          rw [if_pos hl2, if_pos hl2, u1, Option.bind_some, u0, sr, pu_ld k0 (by omega), pu_ld k1 (by omega), Option.bind_some, Option.bind_some, r7 x3 k0 hl, r7 z3 k1 hl2, pu_w (x := z3 + 1) (by omega) (by omega), pu_w (x := 10 * x3) (by omega) (by omega), pu_w (x := 10 * x3 + z3) (by omega) (by omega)]
          have q1 : ∀ k, k ≠ 63 → jq_st (jq_st υ 63 x3 (pu_se (σ2 1) z3)) 63 z3 (pu_se (σ2 1) x3) k = σ1 k := fun k hk => ((pu_st_ne hk).trans (pu_st_ne hk)).trans (u5 k hk)
          have q0 := q1 0 (by omega)
          have hC2 : pu_RC (jq_st (jq_st υ 63 x3 (pu_se (σ2 1) z3)) 63 z3 (pu_se (σ2 1) x3)) (σ1 0 7) (σ2 1) := hC.mv (fun k x y => q1 _ (by omega))
          have q2 := ps_worthOfAll (row := 63) hI hC2 (S := pu_sw (pu_se (σ2 1)) x3 z3) (fun p x y => pu_swst u4 k0 hl k1 hl2 x y)
          have fin : (∃ s' t', (if z1 < pu_all (σ2 1) (pu_sw (pu_se (σ2 1)) x3 z3) then some (Sum.inl (pu_all (σ2 1) (pu_sw (pu_se (σ2 1)) x3 z3), 10 * x3 + z3, z3 + 1, jq_st (jq_st υ 63 x3 (pu_se (σ2 1) z3)) 63 z3 (pu_se (σ2 1) x3))) else some (Sum.inl (z1, z2, z3 + 1, jq_st (jq_st υ 63 x3 (pu_se (σ2 1) z3)) 63 z3 (pu_se (σ2 1) x3)))) = (some (Sum.inl s') : Option ((Int × Int × Int × jq_M) ⊕ (Int × Int × jq_M))) ∧ X11_bestSwap_j63 (x1, x2, x3, y4) z1 z2 z3 w4 = some (.inl t') ∧ s'.1 = t'.1 ∧ s'.2.1 = t'.2.1 ∧ s'.2.2.1 = x3 + 1 + ((i + 1 : Nat) : Int) ∧ t'.2.2.1 = x3 + 1 + ((i + 1 : Nat) : Int) ∧ (∀ k, k ≠ 63 → s'.2.2.2 k = σ1 k) ∧ (∀ k, k ≠ 9 → t'.2.2.2 k = σ2 k) ∧ ∀ p, 0 ≤ p → p < σ2 1 1 → t'.2.2.2 9 p = pu_se (σ2 1) p) := by
            unfold X11_bestSwap_j63
            dsimp only
            have p1 : jq_st (jq_st w4 9 x3 (pu_se (σ2 1) z3)) 9 z3 (pu_se (σ2 1) x3) 1 = σ2 1 := ((pu_st_ne (by omega)).trans (pu_st_ne (by omega))).trans m2
            have p2 := pm_worthOfAll (σ := jq_st (jq_st w4 9 x3 (pu_se (σ2 1) z3)) 9 z3 (pu_se (σ2 1) x3)) (by rw [p1]; exact hI)
            rw [pm_swapsSeats k0 (by omega) k1 (by omega), Option.bind_some, r7 x3 k0 hl, r7 z3 k1 hl2, p2, Option.bind_some, p1, pu_all_cg hI (S' := pu_sw (pu_se (σ2 1)) x3 z3) (fun p x y => pu_swst r7 k0 hl k1 hl2 x y), pm_swapsSeats k0 (by omega) k1 (by omega), Option.bind_some]
            simp only [pu_lt]
            rw [pu_w (x := z3 + 1) (by omega) (by omega), pu_w (x := 10 * x3) (by omega) (by omega), pu_w (x := 10 * x3 + z3) (by omega) (by omega)]
            by_cases gw : z1 < pu_all (σ2 1) (pu_sw (pu_se (σ2 1)) x3 z3)
            · rw [if_pos gw, if_pos gw]
              exact ⟨_, _, rfl, rfl, rfl, rfl, by dsimp only; omega, by dsimp only; omega, q1, fun k hk => ((((pu_st_ne hk).trans (pu_st_ne hk)).trans (pu_st_ne hk)).trans (pu_st_ne hk)).trans (r6 k hk), fun p x y => pu_sw_sw r7 k0 hl k1 hl2 ab _ rfl x y⟩
            · rw [if_neg gw, if_neg gw]
              exact ⟨_, _, rfl, rfl, rfl, rfl, by dsimp only; omega, by dsimp only; omega, q1, fun k hk => ((((pu_st_ne hk).trans (pu_st_ne hk)).trans (pu_st_ne hk)).trans (pu_st_ne hk)).trans (r6 k hk), fun p x y => pu_sw_sw r7 k0 hl k1 hl2 ab _ rfl x y⟩
          by_cases g1 : pu_se (σ2 1) x3 = -1
          · by_cases g2 : pu_se (σ2 1) z3 = -1
            · rw [if_pos ⟨g1, g2⟩, if_pos g1, if_pos g2, pu_b2, if_pos rfl]
              exact Or.inr ⟨by omega, _, _, rfl, rfl, rfl, rfl, by dsimp only; omega, by dsimp only; omega, u5, r6, r7⟩
            · rw [if_neg (fun q => g2 q.2), if_pos g1, if_neg g2, pu_b2, if_neg (by decide), q0, q2, Option.bind_some, Option.bind_some]
              exact Or.inr ⟨by omega, fin⟩
          · rw [if_neg (fun q => g1 q.1), if_neg g1, pu_b2, if_neg (by decide), q0, q2, Option.bind_some, Option.bind_some]
            exact Or.inr ⟨by omega, fin⟩
        · rw [if_neg hl2, if_neg hl2]
          exact Or.inl ⟨_, _, rfl, rfl, rfl, rfl, r5, r6, r7⟩) ⟨rfl, rfl, by dsimp only; omega, by dsimp only; omega, r5, r6, r7⟩
      rw [h1, h2, Option.bind_some, Option.bind_some]
      exact Or.inr ⟨by omega, _, _, rfl, rfl, h3, h4, by dsimp only; omega, by dsimp only; omega, h5, h6, h7⟩
    · rw [if_neg hl, if_neg hl]
      exact Or.inl ⟨_, _, rfl, rfl, rfl, r5, r6⟩) ⟨rfl, rfl, rfl, rfl, fun _ _ => rfl, s2, s3⟩
  obtain ⟨e1, e2⟩ := e
  obtain ⟨e1', e2'⟩ := e'
  dsimp only at h3 h4 h5
  subst h3
  unfold X10_bestSwap X11_bestSwap
  simp only [pu_lt, ps_worthOfAll hI hC (S := pu_se (σ2 1)) (row := σ1 0 7 + 3) (fun p h0 h1 => (cp p h0 h1).2), Option.bind_some, h1, s1, sa, h2, ps_orNone, pm_orNone, pu_b2]
  exact pu_nf h (fun k hk => h4 k (fun q => hk (by unfold pu_scr; omega))) (pu_fr2_9 h5) rfl rfl
theorem pm_turnSeats {x : Int × Int × Int × jq_M} (hI : pu_inv (σ 1)) (hx : x.2.2.1 = n) (n0 : 0 ≤ n) (n1 : n ≤ 99) : ∃ τ, jq_lp (X11_bestTurn_b26 x) (0, σ) = some τ ∧ (∀ k, k ≠ 9 → τ k = σ k) ∧ ∀ p, 0 ≤ p → p < σ 1 1 → τ 9 p = pu_tn (σ 1 0) n (σ 1 (9 + 2 * p)) := by
  obtain ⟨i0, i1, -, -, -, -, -, ip, iq, -⟩ := hI
  refine pu_lpE (f := X11_bestTurn_b26 x) (s := (0, σ)) (fun i t => t.1 = (i : Int) ∧ (∀ k, k ≠ 9 → t.2 k = σ k) ∧ ∀ p, 0 ≤ p → p < t.1 → t.2 9 p = pu_tn (σ 1 0) n (σ 1 (9 + 2 * p))) (fun e => (∀ k, k ≠ 9 → e k = σ k) ∧ ∀ p, 0 ≤ p → p < σ 1 1 → e 9 p = pu_tn (σ 1 0) n (σ 1 (9 + 2 * p))) (σ 1 1).toNat ⟨rfl, fun _ _ => rfl, fun p h0 h1 => by dsimp only at h1; omega⟩ (fun i t ht hi => ?_) (fun e h1 h2 => ⟨e, h1, h2⟩)
  obtain ⟨t1, t2⟩ := t
  obtain ⟨hk, q1, q2⟩ := ht
  dsimp only at hk q1 q2
  have m : t2 1 = σ 1 := q1 1 (by omega)
  have hk0 : 0 ≤ t1 := by omega
  unfold X11_bestTurn_b26
  dsimp only
  rw [pu_ld (by omega) (by omega), Option.bind_some, m, hx]
  by_cases hl : t1 < σ 1 1
  · obtain ⟨-, -, e1, e2⟩ := ip t1 hk0 hl
    rw [if_pos hl, pm_seatOf hk0 (by omega), Option.bind_some, Option.bind_some, m, pu_ld (by omega) (by omega), Option.bind_some, m, pu_sa hk0 (by omega), Option.bind_some]
    simp only [pu_lt]
    rw [pu_w (x := t1 + 1) (by omega) (by omega)]
    by_cases g : σ 1 (9 + 2 * t1) = -1
    · rw [if_pos g]
      refine Or.inr ⟨by omega, _, rfl, by dsimp only; omega, fun k hk => (pu_st_ne hk).trans (q1 k hk), fun p a b => ?_⟩
      dsimp only at b ⊢
      by_cases z : p = t1
      · rw [z, pu_st_a]; unfold pu_tn; rw [if_pos g]
      · rw [pu_st_b z]; exact q2 p a (by omega)
    · rw [if_neg g, pu_w (by omega) (by omega), pu_rem (by omega) (by omega) (by omega), Option.bind_some, pu_sa hk0 (by omega), Option.bind_some]
      refine Or.inr ⟨by omega, _, rfl, by dsimp only; omega, fun k hk => (pu_st_ne hk).trans (q1 k hk), fun p a b => ?_⟩
      dsimp only at b ⊢
      by_cases z : p = t1
      · rw [z, pu_st_a]; unfold pu_tn; rw [if_neg g]
      · rw [pu_st_b z]; exact q2 p a (by omega)
  · rw [if_neg hl]
    exact Or.inl ⟨_, rfl, q1, fun p a b => q2 p a (by omega)⟩
theorem pr_bestTurn {σ1 σ2 : jq_M} (h : jq_Rel σ1 σ2) (w1 : jq_wf jq_zX 132 σ1) (w2 : jq_wf jq_zM 18 σ2) (y1 : jq_lay jq_zX σ1) (y2 : jq_lay jq_zM σ2) : ∃ (r : Int) (σ1' σ2' : jq_M), X10_bestTurn σ1 = some (r, σ1') ∧ X11_bestTurn σ2 = some (r, σ2') ∧ jq_Rel σ1' σ2' := by
  have hI := h.2.2.1.1
  have hC := h.2.2.1.2.1
  have hn : σ1 0 7 = 5 ∨ σ1 0 7 = 25 := by have := h.2.1; omega
  obtain ⟨⟨i0, i1, i2, i3, i4, i5, i6, ip, iq, iw, ia⟩, ⟨⟨c0, c1, c2, c3, c4, c5, c6⟩, cp, cw, ca⟩, cN, cS⟩ := h.2.2.1
  obtain ⟨τ, s1, s2, s3, s4, sw, sa, -⟩ := pm_sn hI
  obtain ⟨e, e', h1, h2, h3, h4, h5⟩ := pu_sim (f := X10_bestTurn_b19) (g := X11_bestTurn_b13) (s := (pu_all (σ2 1) (pu_se (σ2 1)), -1, 1, σ1)) (t := (pu_all (σ2 1) (pu_se (σ2 1)), -1, 1, τ)) (fun i s t => s.1 = t.1 ∧ s.2.1 = t.2.1 ∧ s.2.2.1 = 1 + (i : Int) ∧ t.2.2.1 = 1 + (i : Int) ∧ (∀ k, k ≠ 63 → s.2.2.2 k = σ1 k) ∧ (∀ k, k ≠ 9 → t.2.2.2 k = σ2 k)) (fun e e' => e.1 = e'.1 ∧ (∀ k, k ≠ 63 → e.2 k = σ1 k) ∧ ∀ k, k ≠ 9 → e'.2 k = σ2 k) (σ2 1 0).toNat (fun i s t hR hi => by
    obtain ⟨x1, x2, x3, x4⟩ := s
    obtain ⟨y1', y2', y3, y4⟩ := t
    obtain ⟨r1, r2, r3, r4, r5, r6⟩ := hR
    dsimp only at r1 r2 r3 r4 r5 r6
    have r8 : x3 = y3 := by omega
    subst r1 r2 r8
    have k0 : 1 ≤ x3 := by omega
    have m0 : x4 0 = σ1 0 := r5 0 (by omega)
    have m1 : x4 (σ1 0 7) = σ1 (σ1 0 7) := r5 _ (by omega)
    have m2 : y4 1 = σ2 1 := r6 1 (by omega)
    unfold X10_bestTurn_b19 X11_bestTurn_b13
    dsimp only
    simp only [pu_lt, m0, m1, c0, pu_ld (σ := y4) (k := 1) (n := 3174) (i := 0) (by omega) (by omega), Option.bind_some, m2]
    by_cases hl : x3 < σ2 1 0
    · obtain ⟨υ, u1, u2, u3⟩ := ps_layTrial (σ := x4)
      have u5 : ∀ k, k ≠ 63 → υ k = σ1 k := fun k hk => (u2 k hk).trans (r5 k hk)
      have u0 : υ 0 = σ1 0 := u5 0 (by omega)
      have u4 : ∀ p, 0 ≤ p → p < σ2 1 1 → υ 63 p = pu_se (σ2 1) p := fun p x y => by
        rw [u3 p x (by omega), m0, r5 _ (by omega)]; exact (cp p x y).2
      have uc := u5 (σ1 0 7) (by omega)
      obtain ⟨ω, w1, w2, w3, -⟩ := ps_turnAll (σ := υ) (o := σ1 0 7) (row := 63) (n := x3) (P := σ2 1 0) (m := σ2 1 1) (by rw [uc]; exact c0) (by rw [uc]; exact c2) (by omega) (by omega) (by omega) (by omega) (by omega) (by omega) (by omega) (fun p a b => by rw [u4 p a b]; exact (ip p a b).2.2)
      have w4 : ∀ k, k ≠ 63 → ω k = σ1 k := fun k hk => (w2 k hk).trans (u5 k hk)
      have w0 := w4 0 (by omega)
      have q2 := ps_worthOfAll (σ := ω) (row := 63) hI (hC.mv (fun k x y => w4 _ (by omega))) (S := fun p => pu_tn (σ2 1 0) x3 (pu_se (σ2 1) p)) (fun p x y => by rw [w3 p x y, u4 p x y])
      obtain ⟨ρ, v1, v2, v3⟩ := pm_turnSeats (σ := y4) (x := (x1, x2, x3, y4)) (n := x3) (by rw [m2]; exact hI) rfl (by omega) (by omega)
      have v4 : ρ 1 = σ2 1 := (v2 1 (by omega)).trans m2
      rw [m2] at v3
      have v5 := pm_worthOfAll (σ := ρ) (by rw [v4]; exact hI)
      rw [v4, pu_all_cg hI (S' := fun p => pu_tn (σ2 1 0) x3 (pu_se (σ2 1) p)) v3] at v5
      rw [if_pos hl, if_pos hl, u1, Option.bind_some, u0, w1, Option.bind_some, w0, q2, Option.bind_some, v1, Option.bind_some, v5, Option.bind_some, Option.bind_some, pu_w (by omega) (by omega)]
      by_cases gw : x1 < pu_all (σ2 1) (fun p => pu_tn (σ2 1 0) x3 (pu_se (σ2 1) p))
      · rw [if_pos gw, if_pos gw]
        exact Or.inr ⟨by omega, _, _, rfl, rfl, rfl, rfl, by dsimp only; omega, by dsimp only; omega, w4, fun k hk => (v2 k hk).trans (r6 k hk)⟩
      · rw [if_neg gw, if_neg gw]
        exact Or.inr ⟨by omega, _, _, rfl, rfl, rfl, rfl, by dsimp only; omega, by dsimp only; omega, w4, fun k hk => (v2 k hk).trans (r6 k hk)⟩
    · rw [if_neg hl, if_neg hl]
      exact Or.inl ⟨_, _, rfl, rfl, rfl, r5, r6⟩) ⟨rfl, rfl, by dsimp only; omega, by dsimp only; omega, fun _ _ => rfl, s2⟩
  obtain ⟨e1, e2⟩ := e
  obtain ⟨e1', e2'⟩ := e'
  dsimp only at h3 h4 h5
  subst h3
  unfold X10_bestTurn X11_bestTurn
  simp only [pu_lt, ps_worthOfAll hI hC (S := pu_se (σ2 1)) (row := σ1 0 7 + 3) (fun p h0 h1 => (cp p h0 h1).2), Option.bind_some, h1, s1, sa, h2, ps_orNone, pm_orNone, pu_b2]
  exact pu_nf h (fun k hk => h4 k (fun q => hk (by unfold pu_scr; omega))) (pu_fr2_9 h5) rfl rfl
end
