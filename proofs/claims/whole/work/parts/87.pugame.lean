section
variable {A S S' : Int → Int} {κ m m1 m2 τ1 τ2 σ σ1 σ2 : jq_M} {o n v x k a b f p mv K P l y s T : Int}
theorem ps_sits (hb : σ o 2 ≤ 5) (h0 : 0 ≤ p) (h1 : p < σ o 2) : X1_sits o p σ = some (if σ (o + 3) p = -1 then 0 else 1) := by
  unfold X1_sits
  rw [ps_isParty hb, Option.bind_some, pu_i_p ⟨h0, h1⟩, if_neg (show ¬ ((1 : Int) = 0) by decide), pu_ld h0 (by omega), Option.bind_some]
  by_cases g : σ (o + 3) p = -1
  · rw [if_pos g, if_pos g]
  · rw [if_neg g, if_neg g]
theorem pu_why (h : jq_Rel σ1 σ2) {p1 p2 p3 p4 : Int} (h4 : 0 ≤ p4) : (∃ w : Int, 0 < w ∧ X10_whyNoGame p1 p2 p3 p4 σ1 = some w ∧ X11_wrongGame p1 p2 p3 p4 σ2 = some w) ∨ (X10_whyNoGame p1 p2 p3 p4 σ1 = some 0 ∧ X11_wrongGame p1 p2 p3 p4 σ2 = some 0 ∧ (0 ≤ p1 ∧ p1 < σ2 1 1) ∧ (0 ≤ p2 ∧ p2 < σ2 1 1) ∧ p1 ≠ p2 ∧ p4 ≤ p3 ∧ p3 ≤ 3 ∧ σ2 1 (9 + 2 * p1) ≠ -1 ∧ σ2 1 (9 + 2 * p2) ≠ -1) := by
  obtain ⟨⟨i0, i1, i2, i3, i4, i5, i6, ip, iq, iw, ia⟩, ⟨⟨c0, c1, c2, c3, c4, c5, c6⟩, cp, cw, ca⟩, cN, cS⟩ := h.2.2.1
  unfold X10_whyNoGame X11_wrongGame
  by_cases hp : (0 ≤ p1 ∧ p1 < σ2 1 1) ∧ (0 ≤ p2 ∧ p2 < σ2 1 1) ∧ p1 ≠ p2
  · obtain ⟨⟨a0, a1⟩, ⟨b0, b1⟩, ab⟩ := hp
    have hp : (0 ≤ p1 ∧ p1 < σ2 1 1) ∧ (0 ≤ p2 ∧ p2 < σ2 1 1) ∧ p1 ≠ p2 := ⟨⟨a0, a1⟩, ⟨b0, b1⟩, ab⟩
    rw [ps_areTwo (pu_cP h), pm_areTwo, c2, pu_i_p hp, Option.bind_some, Option.bind_some, if_neg (show ¬ ((1 : Int) = 0) by decide), if_neg (show ¬ ((1 : Int) = 0) by decide), ps_within, pm_isFrom, Option.bind_some, Option.bind_some]
    by_cases hr : p4 ≤ p3 ∧ p3 ≤ 3
    · rw [pu_i_p hr, if_neg (show ¬ ((1 : Int) = 0) by decide), if_neg (show ¬ ((1 : Int) = 0) by decide)]
      simp only [pu_lt]
      have n10 : ¬ ((1 : Int) = 0) := by decide
      rw [ps_sits (pu_cP h) a0 (by rw [c2]; exact a1), ps_sits (pu_cP h) b0 (by rw [c2]; exact b1), (cp p1 a0 a1).2, (cp p2 b0 b1).2]
      unfold X11_bothSit
      rw [pm_seatOf a0 (by omega)]
      simp only [Option.bind_some]
      by_cases g1 : σ2 1 (9 + 2 * p1) = -1
      · left
        rw [if_pos g1, if_pos rfl, if_pos g1, Option.bind_some, if_pos rfl]
        exact ⟨7, by decide, rfl, rfl⟩
      · rw [if_neg g1, if_neg n10, if_neg g1, pm_seatOf b0 (by omega), Option.bind_some]
        by_cases g2 : σ2 1 (9 + 2 * p2) = -1
        · left
          rw [if_pos g2, if_pos rfl, if_pos g2, Option.bind_some, if_pos rfl]
          exact ⟨7, by decide, rfl, rfl⟩
        · right
          rw [if_neg g2, if_neg n10, if_neg g2, Option.bind_some, if_neg n10]
          exact ⟨rfl, rfl, ⟨a0, a1⟩, ⟨b0, b1⟩, ab, hr.1, hr.2, g1, g2⟩
    · left
      rw [pu_i_n hr, if_pos rfl, if_pos rfl]
      exact ⟨1, by decide, rfl, rfl⟩
  · left
    rw [ps_areTwo (pu_cP h), pm_areTwo, c2, pu_i_n hp, Option.bind_some, Option.bind_some, if_pos rfl, if_pos rfl]
    exact ⟨1, by decide, rfl, rfl⟩
/-- the reference's game -/
theorem pm_playing {t : Nat} (hI : pu_inv (σ 1)) (ha : 0 ≤ a) (ha1 : a < σ 1 1) (hb : 0 ≤ b) (hb1 : b < σ 1 1) (hT : T = (t : Int) + 1) (hT3 : T ≤ 3) (hS : ∀ q, 0 ≤ q → q < σ 1 1 → σ 1 (9 + 2 * q) = S q) (hk : pu_okr (σ 1 1) (σ 1 0) S) (sa : 0 ≤ S a) (sb : 0 ≤ S b) : ∃ m', X11_playing a b T σ = some (pu_bl (σ 1) a b (t + 1) 1 S, m') ∧ pu_gf σ m' ∧ m' 0 27 = pu_ff (σ 1) a b t 1 S (σ 1 0) ((σ 1 0).toNat + 1) := by
  have i0 := hI.1
  have i1 := hI.2.1
  obtain ⟨ρ, q1, q2, q3⟩ := pm_seatsNow hI
  obtain ⟨ω, d1, d2, d3, d4⟩ := pm_keepsSeats (m := jq_st (jq_st (jq_st ρ 0 27 (σ 1 0)) 10 0 (-1)) 11 0 1000000) (l := 0) (by omega) (by omega)
  have hmo : S (pu_mo a b 1) < σ 1 0 := (hk.1 a ha ha1).2
  have hd : pu_hd σ 0 S 0 1000000 ω := by
    refine ⟨⟨fun k p q r s t => by rw [d2 k t, pu_st_ne s, pu_st_ne r, pu_st_ne p, q2 k q], fun j hj => by rw [d2 0 (by omega), pu_st_ne (by omega), pu_st_ne (by omega), pu_st_b hj, q2 0 (by omega)]⟩, fun q q0 r1 => ?_, ?_, ?_⟩
    · have := d3 q q0 (by omega)
      rw [this, pu_st_ne (by omega), pu_st_ne (by omega), pu_st_ne (by omega), q3 q q0 r1, hS q q0 r1]
    · rw [d2 10 (by omega), pu_st_ne (by omega), pu_st_a]
      rfl
    · rw [d2 11 (by omega), pu_st_a]
  have hf : pu_lf 0 1 := Or.inl ⟨rfl, rfl⟩
  obtain ⟨m', e1, ⟨e2, e3, e4, e5⟩, e6, -, e8⟩ := pu_iter (l := 0) (f := 1) (pu_cand_all (T := T) hI ha ha1 hb hb1 hT3 t) (by omega) (by omega) hf hk sa sb hd ((σ 1 0).toNat + 1) (by omega)
  rw [pu_rf_eq hI hmo] at e5
  obtain ⟨-, -, hh⟩ := pm_head (T := T) (S := S) hI e2 hk (show (0 : Int) ≤ 0 by omega) (show (0 : Int) < 3 by omega) hf ha ha1 hb hb1 e3 (v := σ 1 0 + 1) (by omega) (by rw [e4]; omega)
  obtain ⟨υ, g1, g2, g3, g4, g5, g6⟩ := hh rfl
  rw [if_pos (by omega)] at g1
  have last : X11_playing_b54 a b T (0 - 1, υ) = some (.inr υ) := by
    unfold X11_playing_b54
    dsimp only
    rw [if_pos (by omega)]
  have z27 : ω 0 27 = σ 1 0 := by rw [d2 0 (by omega), pu_st_ne (by omega), pu_st_ne (by omega), pu_st_a]
  have lp : jq_lp (X11_playing_b54 a b T) (0, ω) = some υ := by
    rw [e1, jq_lp_inl g1, jq_lp_inr last]
  refine ⟨υ, ?_, g2, by rw [g6, e8 rfl, z27]⟩
  unfold X11_playing
  rw [q1, Option.bind_some, pu_ld (by omega) (by omega), Option.bind_some, q2 1 (by omega), pu_lt, if_neg (by omega), pu_sa (by omega) (by omega), Option.bind_some, pu_sa (by omega) (by omega), Option.bind_some, d1, Option.bind_some, lp, Option.bind_some, pu_ld (by omega) (by omega), Option.bind_some, g4, e5]
theorem pu_okr_of (hI : pu_inv A) : pu_okr (A 1) (A 0) (fun q => A (9 + 2 * q)) := by
  obtain ⟨i0, i1, i2, i3, i4, i5, i6, ip, iq, -⟩ := hI
  refine ⟨fun q a b => (ip q a b).2.2, fun q r a b c d e g => ?_⟩
  dsimp only at g ⊢
  by_cases w : A (9 + 2 * q) = -1
  · exact w
  · by_cases z : q < r
    · exact absurd g (iq q r a z d w)
    · exact absurd g.symm (iq r q c (by omega) b (by rw [← g]; exact w))
theorem pu_gf_fr (h : pu_gf σ m) : pu_fr2 σ m := ⟨⟨h.1 1 (by omega) (by omega) (by omega) (by omega) (by omega), h.1 2 (by omega) (by omega) (by omega) (by omega) (by omega), h.1 3 (by omega) (by omega) (by omega) (by omega) (by omega), h.1 4 (by omega) (by omega) (by omega) (by omega) (by omega), h.1 5 (by omega) (by omega) (by omega) (by omega) (by omega), h.1 6 (by omega) (by omega) (by omega) (by omega) (by omega), h.1 17 (by omega) (by omega) (by omega) (by omega) (by omega)⟩, fun j hj => h.2 j (by omega)⟩
theorem pr_game {σ1 σ2 : jq_M} (h : jq_Rel σ1 σ2) (w1 : jq_wf jq_zX 132 σ1) (w2 : jq_wf jq_zM 18 σ2) (y1 : jq_lay jq_zX σ1) (y2 : jq_lay jq_zM σ2) {p1 p2 p3 : Int} (hp1 : jq_r p1) (hp2 : jq_r p2) (hp3 : jq_r p3) : ∃ (r : Int) (σ1' σ2' : jq_M), X10_game p1 p2 p3 σ1 = some (r, σ1') ∧ X11_game p1 p2 p3 σ2 = some (r, σ2') ∧ jq_Rel σ1' σ2' := by
  have hn := h.2.1
  have hI := h.2.2.1.1
  have hC := h.2.2.1.2.1
  unfold X10_game X11_game
  rcases pu_why (p1 := p1) (p2 := p2) (p3 := p3) h (Int.le_refl 0) with ⟨w, w0, e1, e2⟩ | ⟨e1, e2, ⟨a0, a1⟩, ⟨b0, b1⟩, ab, r0, r1, s1, s2⟩
  · rw [e1, e2, Option.bind_some, Option.bind_some, if_neg (show ¬ w = 0 by omega), if_pos w0, ps_refuse, pm_refuse, pu_b2, pu_b2]
    exact pu_no h rfl rfl
  · obtain ⟨i0, i1, i2, i3, i4, i5, i6, ip, iq, -⟩ := hI
    have hI := h.2.2.1.1
    have sa : 0 ≤ σ2 1 (9 + 2 * p1) := by have := ip p1 a0 a1; omega
    have sb : 0 ≤ σ2 1 (9 + 2 * p2) := by have := ip p2 b0 b1; omega
    rw [e1, e2, Option.bind_some, Option.bind_some, if_pos rfl, if_neg (show ¬ (0 : Int) < 0 by decide)]
    obtain ⟨υ, u1, u2, u3⟩ := ps_layTrial (σ := σ1)
    have u0 : υ 0 = σ1 0 := u2 0 (by omega)
    have cl := ps_bl (a := p1) (b := p2) (o := σ1 0 7) hI (by omega) a0 a1 b0 b1 p3.toNat 8 1 p3 (fun q => σ2 1 (9 + 2 * q)) υ (by omega) (by omega) (by omega) (Or.inr rfl) (hC.mv (fun k c d => u2 _ (by omega))) (fun q q0 q1 => by rw [u3 q q0 (by omega), (hC.2.1 q q0 q1).2]) (pu_okr_of hI) sa sb
    have rf : ∃ m', X11_playing p1 p2 p3 σ2 = some (pu_bl (σ2 1) p1 p2 p3.toNat 1 (fun q => σ2 1 (9 + 2 * q)), m') ∧ pu_gf σ2 m' := by
      by_cases z : p3 = 0
      · obtain ⟨ρ, q1, q2, q3⟩ := pm_seatsNow hI
        have e1 : jq_st ρ 0 27 (σ2 1 0) 1 = σ2 1 := (pu_st_ne (by omega)).trans (q2 1 (by omega))
        have e9 : jq_st ρ 0 27 (σ2 1 0) 9 = ρ 9 := pu_st_ne (by omega)
        have v1 := pu_worth_b hI (S := fun q => σ2 1 (9 + 2 * q)) (p := p1)
        have v2 := pu_worth_b hI (S := fun q => σ2 1 (9 + 2 * q)) (p := p2)
        have wo : ∀ x, X11_worthOf x (jq_st ρ 0 27 (σ2 1 0)) = some (pu_worth (σ2 1) (fun q => σ2 1 (9 + 2 * q)) x) := fun x => by
          rw [pm_worthOf (by rw [e1]; exact hI), e1, e9, pu_worth_cg hI (S := ρ 9) (S' := fun q => σ2 1 (9 + 2 * q)) q3]
        refine ⟨jq_st ρ 0 27 (σ2 1 0), ?_, fun k p q r s t => by rw [pu_st_ne p, q2 k q], fun j hj => by rw [pu_st_b hj, q2 0 (by omega)]⟩
        unfold X11_playing
        rw [q1, Option.bind_some, pu_ld (by omega) (by omega), Option.bind_some, q2 1 (by omega), pu_lt, if_pos z, wo, Option.bind_some, wo, Option.bind_some, pu_w (by omega) (by omega), z]
        rfl
      · obtain ⟨m', g1, g2, -⟩ := pm_playing (t := (p3 - 1).toNat) (T := p3) (S := fun q => σ2 1 (9 + 2 * q)) hI a0 a1 b0 b1 (by omega) r1 (fun _ _ _ => rfl) (pu_okr_of hI) sa sb
        exact ⟨m', by rw [g1, show (p3 - 1).toNat + 1 = p3.toNat by omega], g2⟩
    obtain ⟨m', g1, g2⟩ := rf
    rw [u1, Option.bind_some]
    simp only [pu_lt]
    rw [u0, cl, g1, pu_b2, pu_b2, ps_answer, pm_gives, pu_b2, pu_b2]
    exact pu_nf h (fun k hk => u2 k (fun q => hk (by unfold pu_scr; omega))) (pu_gf_fr g2) rfl rfl
end
