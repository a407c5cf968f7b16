section
variable {σ σ1 σ2 m1 m2 : jq_M} {o x p : Int} {A S : Int → Int} {c : Nat}
theorem ps_all (h : σ o 2 = A 1) : X1_allParties o σ = some (jq_w (jq_shl 1 (A 1) - 1)) := by
  unfold X1_allParties
  rw [h]
theorem pm_everybody : X11_everybody σ = some (jq_w (jq_shl 1 (σ 1 1) - 1)) := by
  unfold X11_everybody
  rw [pu_ld (by omega) (by omega)]
  rfl
theorem pm_isGood (hI : pu_inv (σ 1)) : X11_isGood σ = some (pu_i (pu_sg (σ 1) (σ 9) = jq_w (jq_shl 1 (σ 1 1) - 1))) := by
  unfold X11_isGood
  rw [pm_signing hI, pm_everybody, Option.bind_some, Option.bind_some]
  by_cases h : pu_sg (σ 1) (σ 9) = jq_w (jq_shl 1 (σ 1 1) - 1)
  · rw [if_pos h, pu_i_p h]
  · rw [if_neg h, pu_i_n h]
theorem pu_v2_1 (h : pu_v2 σ2 m2) : m2 1 = σ2 1 := h 1 (by omega)
theorem pm_codes2 (hI : pu_inv (σ2 1)) (h : pu_v2 σ2 m2) : X11_codes m2 = some ((pu_N (σ2 1) : Nat) : Int) := by
  have := pu_v2_1 h
  rw [pm_codes (by rw [this]; exact hI), this]
theorem pu_v1_C (hC : pu_RC σ1 o A) (hoo : o = 5 ∨ o = 25) (h : pu_v1 σ1 o A c m1) : pu_RC m1 o A := hC.mv (fun k x y => h.1 _ (by omega) (by omega) (by omega) (by omega) (by omega))
/-- scratch of a survey -/
theorem pu_sfr (hoo : o = 5 ∨ o = 25) (h : ∀ k, k ≠ 53 → k ≠ o + 19 → k ≠ 54 → k ≠ 55 → k ≠ 56 → m1 k = σ1 k) : pu_fr1 σ1 m1 := fun k hk => h k (fun q => hk (by unfold pu_scr; omega)) (fun q => hk (by unfold pu_scr; omega)) (fun q => hk (by unfold pu_scr; omega)) (fun q => hk (by unfold pu_scr; omega)) (fun q => hk (by unfold pu_scr; omega))
end
section
variable {σ1 σ2 : jq_M}
theorem pr_seatings {σ1 σ2 : jq_M} (h : jq_Rel σ1 σ2) (w1 : jq_wf jq_zX 132 σ1) (w2 : jq_wf jq_zM 18 σ2) (y1 : jq_lay jq_zX σ1) (y2 : jq_lay jq_zM σ2) : ∃ (r : Int) (σ1' σ2' : jq_M), X10_seatings σ1 = some (r, σ1') ∧ X11_seatings σ2 = some (r, σ2') ∧ jq_Rel σ1' σ2' := by
  have hI := h.2.2.1.1
  have hC := h.2.2.1.2.1
  have nb := pu_N_b hI
  obtain ⟨mc, mb⟩ := ps_many hI hC
  have lp : ∃ e, jq_lp X11_seatings_b4 (0, 0, σ2) = some e ∧ e.1 = ((pu_ci (σ2 1) (pu_N (σ2 1)) : Nat) : Int) ∧ pu_v2 σ2 e.2 := by
    refine pu_lpE (f := X11_seatings_b4) (s := (0, 0, σ2)) (fun i t => t.2.1 = (i : Int) ∧ t.1 = ((pu_ci (σ2 1) i : Nat) : Int) ∧ pu_ci (σ2 1) i ≤ i ∧ pu_v2 σ2 t.2.2) (fun e => e.1 = ((pu_ci (σ2 1) (pu_N (σ2 1)) : Nat) : Int) ∧ pu_v2 σ2 e.2) (pu_N (σ2 1)) ⟨rfl, rfl, Nat.le_refl _, fun _ _ => rfl⟩ (fun i t ht hi => ?_) (fun e h1 h2 => ⟨e, h1, h2⟩)
    obtain ⟨t1, t2, t3⟩ := t
    obtain ⟨hk, q1, q2, q3⟩ := ht
    dsimp only at hk q1 q2 q3
    unfold X11_seatings_b4
    dsimp only
    rw [pm_codes2 hI q3, Option.bind_some]
    by_cases hl : t2 < ((pu_N (σ2 1) : Nat) : Int)
    · have cs : pu_ci (σ2 1) (i + 1) = pu_ci (σ2 1) i + if pu_ok (σ2 1) i = true then 1 else 0 := rfl
      obtain ⟨p3, pc⟩ := pu_N_p hI (c := i) (by omega)
      have e1 := pu_v2_1 q3
      rw [if_pos hl]
      rcases pm_seatsBy (σ := t3) (x := t2) (c := i) (by rw [e1]; exact hI) (by rw [e1]; omega) hk (by omega) with ⟨g0, τ, g1, g2⟩ | ⟨r, τ, g0, g1, g2, -⟩
      · have ok : pu_ok (σ2 1) i = false := by unfold pu_ok; rw [e1] at g0; rw [g0]; rfl
        rw [ok] at cs
        rw [g1, pu_b2, if_pos rfl, pu_lt, pu_lt, Int.add_zero, pu_w (x := t1) (by omega) (by omega), pu_w (by omega) (by omega)]
        exact Or.inr ⟨by omega, _, rfl, by dsimp only; omega, by dsimp only; rw [cs, q1]; rfl, by rw [cs]; show pu_ci (σ2 1) i + 0 ≤ _; omega, fun k hk => (g2 k hk).trans (q3 k hk)⟩
      · have ok : pu_ok (σ2 1) i = true := by unfold pu_ok; rw [e1] at g0; rw [g0]; rfl
        rw [ok, if_pos rfl] at cs
        rw [g1, pu_b2, if_neg (by decide), pu_lt, pu_lt, pu_w (x := t1 + 1) (by omega) (by omega), pu_w (by omega) (by omega)]
        exact Or.inr ⟨by omega, _, rfl, by dsimp only; omega, by dsimp only; rw [cs, q1]; omega, by rw [cs]; omega, fun k hk => (g2 k hk).trans (q3 k hk)⟩
    · rw [if_neg hl]
      exact Or.inl ⟨_, rfl, by rw [q1, show i = pu_N (σ2 1) by omega], q3⟩
  obtain ⟨e, l1, l2, l3⟩ := lp
  refine pu_nf h (τ2 := e.2) (pu_fr1_r _) (pu_fr2_9 l3) (r := ((pu_ci (σ2 1) (pu_N (σ2 1)) : Nat) : Int)) (v := 0) ?_ ?_
  · unfold X10_seatings
    simp only [pu_lt, mc, Option.bind_some, ps_answer, pu_b2]
  · unfold X11_seatings
    rw [l1, Option.bind_some, l2]
    rfl
theorem pr_good {σ1 σ2 : jq_M} (h : jq_Rel σ1 σ2) (w1 : jq_wf jq_zX 132 σ1) (w2 : jq_wf jq_zM 18 σ2) (y1 : jq_lay jq_zX σ1) (y2 : jq_lay jq_zM σ2) : ∃ (r : Int) (σ1' σ2' : jq_M), X10_good σ1 = some (r, σ1') ∧ X11_good σ2 = some (r, σ2') ∧ jq_Rel σ1' σ2' := by
  have hI := h.2.2.1.1
  have hC := h.2.2.1.2.1
  have hoo : σ1 0 7 = 5 ∨ σ1 0 7 = 25 := by have := h.2.1; omega
  have c2 := hC.1.2.2.1
  have nb := pu_N_b hI
  obtain ⟨-, mb⟩ := ps_many hI hC
  obtain ⟨τ, b1, b2, -⟩ := ps_begin (m1 := σ1) hI hC hoo (fun _ _ _ _ _ _ => rfl)
  generalize hM : pu_ci (σ2 1) (pu_N (σ2 1)) = M at b1 mb
  obtain ⟨e, e', h1, h2, h3, h4, h5⟩ := pu_enum (f := X8_countGood_b11 (σ1 0 7) (M : Int)) (g := X11_good_b4) (s := (0, 0, τ)) (t := (0, 0, σ2)) (pu_N (σ2 1)) (pu_ok (σ2 1)) (fun c s t => s.1 = t.1 ∧ 0 ≤ t.1 ∧ t.1 ≤ (c : Int) ∧ s.2.1 = ((pu_ci (σ2 1) c : Nat) : Int) ∧ t.2.1 = (c : Int) ∧ pu_v1 σ1 (σ1 0 7) (σ2 1) c s.2.2 ∧ pu_v2 σ2 t.2.2) (fun e e' => e.1 = e'.1 ∧ pu_fr1 σ1 e.2 ∧ pu_v2 σ2 e'.2) (fun c s t hc ho hR => by
      obtain ⟨s1, s2, s3⟩ := s
      obtain ⟨t1, t2, t3⟩ := t
      obtain ⟨r1, r2, r3, r4, r5, r6, r7⟩ := hR
      dsimp only at r1 r2 r3 r4 r5 r6 r7
      obtain ⟨⟨ρ, u1, u2⟩, u3, u4⟩ := pu_sv0 hI r5 hc ho r6 r7
      unfold X11_good_b4
      dsimp only
      rw [pm_codes2 hI r7, Option.bind_some, if_pos (show t2 < ((pu_N (σ2 1) : Nat) : Int) by omega), u1, pu_b2, if_pos rfl, pu_lt, pu_lt, Int.add_zero, pu_w (x := t1) (by omega) (by omega), pu_w (by omega) (by omega)]
      exact ⟨_, rfl, r1, r2, by dsimp only; omega, by rw [u4]; exact r4, by dsimp only; omega, u3, u2⟩) (fun c s t hc ho hR => by
      obtain ⟨s1, s2, s3⟩ := s
      obtain ⟨t1, t2, t3⟩ := t
      obtain ⟨r1, r2, r3, r4, r5, r6, r7⟩ := hR
      dsimp only at r1 r2 r3 r4 r5 r6 r7
      subst r1
      obtain ⟨w1, ⟨ρ, u1, u2, u3⟩, w2, w3⟩ := pu_sv1 hI hC hoo r5 hc ho r6 r7
      have lt := pu_ci_lt hc ho
      rw [hM] at lt
      obtain ⟨υ, g1, g2⟩ := ps_signersOf hI (pu_v1_C hC hoo r6) (show (53 : Int) ≠ σ1 0 7 + 19 by omega) (S := pu_sr (pu_cu (σ2 1) c)) w1
      obtain ⟨ω, g3, g4, g5⟩ := w2 υ (fun k a b c d => g2 k a)
      have e1 := pu_v2_1 u2
      have gd := pm_isGood (σ := ρ) (by rw [e1]; exact hI)
      rw [e1, pu_sg_cg hI u3] at gd
      have al := ps_all (σ := υ) (o := σ1 0 7) (A := σ2 1) (by rw [g2 _ (by omega), r6.1 _ (by omega) (by omega) (by omega) (by omega) (by omega)]; exact c2)
      refine Or.inl ?_
      unfold X8_countGood_b11 X11_good_b4 X8_countGood_j35
      dsimp only
      rw [if_pos (show s2 < (M : Int) by omega), g1, pu_b2, al, Option.bind_some, g3, Option.bind_some, pm_codes2 hI r7, Option.bind_some, if_pos (show t2 < ((pu_N (σ2 1) : Nat) : Int) by omega), u1, pu_b2, if_neg (show ¬ (1 : Int) = 0 by decide), gd, Option.bind_some]
      simp only [pu_lt]
      rw [Int.add_zero, pu_w (x := s1 + 1) (by omega) (by omega), pu_w (x := s1) (by omega) (by omega), pu_w (x := s2 + 1) (by omega) (by omega), pu_w (x := t2 + 1) (by omega) (by omega)]
      by_cases z : pu_sg (σ2 1) (pu_sr (pu_cu (σ2 1) c)) = jq_w (jq_shl 1 (σ2 1 1) - 1)
      · rw [if_pos z, pu_i_p z, if_neg (by decide)]
        exact ⟨_, _, rfl, rfl, rfl, by dsimp only; omega, by dsimp only; omega, by dsimp only; rw [w3]; omega, by dsimp only; omega, g5, u2⟩
      · rw [if_neg z, pu_i_n z, if_pos rfl]
        exact ⟨_, _, rfl, rfl, rfl, by dsimp only; omega, by dsimp only; omega, by dsimp only; rw [w3]; omega, by dsimp only; omega, g5, u2⟩) (fun s t hR => by
      obtain ⟨s1, s2, s3⟩ := s
      obtain ⟨t1, t2, t3⟩ := t
      obtain ⟨r1, r2, r3, r4, r5, r6, r7⟩ := hR
      dsimp only at r1 r2 r3 r4 r5 r6 r7
      rw [hM] at r4
      unfold X8_countGood_b11 X11_good_b4
      dsimp only
      rw [if_neg (by omega), pm_codes2 hI r7, Option.bind_some, if_neg (by omega)]
      exact ⟨_, _, rfl, rfl, r1, pu_sfr hoo r6.1, r7⟩) ⟨rfl, by dsimp only; omega, by dsimp only; omega, rfl, rfl, b2, fun _ _ => rfl⟩
  obtain ⟨e1, e2⟩ := e
  obtain ⟨e1', e2'⟩ := e'
  dsimp only at h3 h4 h5
  subst h3
  refine pu_nf h (τ1 := e2) (τ2 := e2') h4 (pu_fr2_9 h5) (r := e1) (v := 0) ?_ ?_
  · unfold X10_good X8_countGood
    simp only [pu_lt, b1, pu_b2, h1, Option.bind_some, ps_answer]
  · unfold X11_good
    simp only [h2, Option.bind_some, pm_gives, pu_b2]
theorem pr_signsIn {σ1 σ2 : jq_M} (h : jq_Rel σ1 σ2) (w1 : jq_wf jq_zX 132 σ1) (w2 : jq_wf jq_zM 18 σ2) (y1 : jq_lay jq_zX σ1) (y2 : jq_lay jq_zM σ2) {p1 : Int} (hp1 : jq_r p1) : ∃ (r : Int) (σ1' σ2' : jq_M), X10_signsIn p1 σ1 = some (r, σ1') ∧ X11_signsIn p1 σ2 = some (r, σ2') ∧ jq_Rel σ1' σ2' := by
  have hI := h.2.2.1.1
  have hC := h.2.2.1.2.1
  have hoo : σ1 0 7 = 5 ∨ σ1 0 7 = 25 := by have := h.2.1; omega
  have c2 := hC.1.2.2.1
  have i1 := hI.2.1
  have nb := pu_N_b hI
  unfold X10_signsIn X11_signsIn
  by_cases hp : 0 ≤ p1 ∧ p1 < σ2 1 1
  · have hpn : ¬ ¬ (0 ≤ p1 ∧ p1 < σ2 1 1) := fun q => q hp
    obtain ⟨-, mb⟩ := ps_many hI hC
    obtain ⟨τ, b1, b2, -⟩ := ps_begin (m1 := σ1) hI hC hoo (fun _ _ _ _ _ _ => rfl)
    generalize hM : pu_ci (σ2 1) (pu_N (σ2 1)) = M at b1 mb
    obtain ⟨e, e', h1, h2, h3, h4, h5⟩ := pu_enum (f := X8_countSigned_b12 (σ1 0 7) p1 (M : Int)) (g := X11_signsIn_b18 p1) (s := (0, 0, τ)) (t := (0, 0, σ2)) (pu_N (σ2 1)) (pu_ok (σ2 1)) (fun c s t => s.1 = t.1 ∧ 0 ≤ t.1 ∧ t.1 ≤ (c : Int) ∧ s.2.1 = ((pu_ci (σ2 1) c : Nat) : Int) ∧ t.2.1 = (c : Int) ∧ pu_v1 σ1 (σ1 0 7) (σ2 1) c s.2.2 ∧ pu_v2 σ2 t.2.2) (fun e e' => e.1 = e'.1 ∧ pu_fr1 σ1 e.2 ∧ pu_v2 σ2 e'.2) (fun c s t hc ho hR => by
        obtain ⟨s1, s2, s3⟩ := s
        obtain ⟨t1, t2, t3⟩ := t
        obtain ⟨r1, r2, r3, r4, r5, r6, r7⟩ := hR
        dsimp only at r1 r2 r3 r4 r5 r6 r7
        obtain ⟨⟨ρ, u1, u2⟩, u3, u4⟩ := pu_sv0 hI r5 hc ho r6 r7
        unfold X11_signsIn_b18
        dsimp only
        rw [pm_codes2 hI r7, Option.bind_some, if_pos (show t2 < ((pu_N (σ2 1) : Nat) : Int) by omega), u1, pu_b2, if_pos rfl, pu_lt, pu_lt, Int.add_zero, pu_w (x := t1) (by omega) (by omega), pu_w (by omega) (by omega)]
        exact ⟨_, rfl, r1, r2, by dsimp only; omega, by rw [u4]; exact r4, by dsimp only; omega, u3, u2⟩) (fun c s t hc ho hR => by
        obtain ⟨s1, s2, s3⟩ := s
        obtain ⟨t1, t2, t3⟩ := t
        obtain ⟨r1, r2, r3, r4, r5, r6, r7⟩ := hR
        dsimp only at r1 r2 r3 r4 r5 r6 r7
        subst r1
        obtain ⟨w1, ⟨ρ, u1, u2, u3⟩, w2, w3⟩ := pu_sv1 hI hC hoo r5 hc ho r6 r7
        have lt := pu_ci_lt hc ho
        rw [hM] at lt
        have g1 := ps_doesSign hI (pu_v1_C hC hoo r6) (row := 53) (S := pu_sr (pu_cu (σ2 1) c)) w1 hp.1 hp.2
        obtain ⟨ω, g3, g4, g5⟩ := w2 s3 (fun k a b c d => rfl)
        have e1 := pu_v2_1 u2
        have gd := pm_doesSign (σ := ρ) (p := p1) (by rw [e1]; exact hI) hp.1 (by omega)
        rw [e1, pu_worth_cg hI u3] at gd
        refine Or.inl ?_
        unfold X8_countSigned_b12 X11_signsIn_b18 X8_countSigned_j33
        dsimp only
        rw [if_pos (show s2 < (M : Int) by omega), g1, Option.bind_some, g3, Option.bind_some, pm_codes2 hI r7, Option.bind_some, if_pos (show t2 < ((pu_N (σ2 1) : Nat) : Int) by omega), u1, pu_b2, if_neg (show ¬ (1 : Int) = 0 by decide), gd, Option.bind_some]
        simp only [pu_lt]
        rw [Int.add_zero, pu_w (x := s1 + 1) (by omega) (by omega), pu_w (x := s1) (by omega) (by omega), pu_w (x := s2 + 1) (by omega) (by omega), pu_w (x := t2 + 1) (by omega) (by omega)]
        by_cases z : σ2 1 (8 + 2 * p1) ≤ pu_worth (σ2 1) (pu_sr (pu_cu (σ2 1) c)) p1
        · rw [pu_i_p z, if_neg (by decide), if_neg (by decide)]
          exact ⟨_, _, rfl, rfl, rfl, by dsimp only; omega, by dsimp only; omega, by dsimp only; rw [w3]; omega, by dsimp only; omega, g5, u2⟩
        · rw [pu_i_n z, if_pos rfl, if_pos rfl]
          exact ⟨_, _, rfl, rfl, rfl, by dsimp only; omega, by dsimp only; omega, by dsimp only; rw [w3]; omega, by dsimp only; omega, g5, u2⟩) (fun s t hR => by
        obtain ⟨s1, s2, s3⟩ := s
        obtain ⟨t1, t2, t3⟩ := t
        obtain ⟨r1, r2, r3, r4, r5, r6, r7⟩ := hR
        dsimp only at r1 r2 r3 r4 r5 r6 r7
        rw [hM] at r4
        unfold X8_countSigned_b12 X11_signsIn_b18
        dsimp only
        rw [if_neg (show ¬ s2 < (M : Int) by omega), pm_codes2 hI r7, Option.bind_some, if_neg (show ¬ t2 < ((pu_N (σ2 1) : Nat) : Int) by omega)]
        exact ⟨_, _, rfl, rfl, r1, pu_sfr hoo r6.1, r7⟩) ⟨rfl, by dsimp only; omega, by dsimp only; omega, rfl, rfl, b2, fun _ _ => rfl⟩
    obtain ⟨e1, e2⟩ := e
    obtain ⟨e1', e2'⟩ := e'
    dsimp only at h3 h4 h5
    subst h3
    refine pu_nf h (τ1 := e2) (τ2 := e2') h4 (pu_fr2_9 h5) (r := e1) (v := 0) ?_ ?_
    · unfold X8_countSigned
      simp only [pu_lt, ps_isParty (pu_cP h), c2, Option.bind_some, pu_i_0, if_neg hpn, b1, pu_b2, h1, ps_answer]
    · simp only [pm_isParty, Option.bind_some, pu_i_0, if_neg hpn, h2, pm_gives, pu_b2]
  · refine pu_no h (r := -1) (v := 1) ?_ ?_
    · simp only [pu_lt, ps_isParty (pu_cP h), c2, Option.bind_some, pu_i_0, if_pos hp, ps_refuse, pu_b2]
    · simp only [pm_isParty, Option.bind_some, pu_i_0, if_pos hp, pm_refuse, pu_b2]
end
