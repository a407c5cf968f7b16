section
variable {σ : jq_M} {o p k v : Int} {A S : Int → Int}
/-- the reference's seats of now -/
theorem pm_sn (hI : pu_inv (σ 1)) : ∃ τ, X11_seatsNow σ = some τ ∧ (∀ k, k ≠ 9 → τ k = σ k) ∧ (∀ p, 0 ≤ p → p < σ 1 1 → τ 9 p = pu_se (σ 1) p) ∧ pu_inv (τ 1) ∧ (∀ p, X11_worthOf p τ = some (pu_worth (σ 1) (pu_se (σ 1)) p)) ∧ X11_worthOfAll τ = some (pu_all (σ 1) (pu_se (σ 1))) ∧ X11_signing τ = some (pu_sg (σ 1) (pu_se (σ 1))) ∧ X11_fishing τ = some (pu_lack (σ 1) (pu_se (σ 1))) ∧ (∀ k, 0 ≤ k → k < σ 1 2 → X11_isHad k τ = some (pu_i (pu_met (σ 1) (pu_se (σ 1)) k))) ∧ ∀ p, 0 ≤ p → p < 5 → X11_doesSign p τ = some (pu_i (σ 1 (8 + 2 * p) ≤ pu_worth (σ 1) (pu_se (σ 1)) p)) := by
  obtain ⟨τ, h1, h2, h3⟩ := pm_seatsNow hI
  have e1 : τ 1 = σ 1 := h2 1 (by omega)
  have hI' : pu_inv (τ 1) := by rw [e1]; exact hI
  have h4 : ∀ p, 0 ≤ p → p < τ 1 1 → τ 9 p = pu_se (σ 1) p := by rw [e1]; exact h3
  refine ⟨τ, h1, h2, h3, hI', fun p => ?_, ?_, ?_, ?_, fun k k0 k1 => ?_, fun p p0 p1 => ?_⟩
  · rw [pm_worthOf hI', pu_worth_cg hI' h4, e1]
  · rw [pm_worthOfAll hI', pu_all_cg hI' h4, e1]
  · rw [pm_signing hI', pu_sg_cg hI' h4, e1]
  · rw [pm_fishing hI', pu_lack_cg hI' h4, e1]
  · rw [pm_isHad hI' k0 (by rw [e1]; exact k1), pu_met_cg hI' h4 k0 (by rw [e1]; exact k1), e1]
  · rw [pm_doesSign hI' p0 p1, pu_worth_cg hI' h4, e1]
theorem pm_bothSit {a b : Int} (a0 : 0 ≤ a) (a1 : a < 5) (b0 : 0 ≤ b) (b1 : b < 5) : X11_bothSit a b σ = some (pu_i (σ 1 (9 + 2 * a) ≠ -1 ∧ σ 1 (9 + 2 * b) ≠ -1)) := by
  unfold X11_bothSit pu_i
  rw [pm_seatOf a0 a1, pm_seatOf b0 b1, Option.bind_some, Option.bind_some]
  by_cases h1 : σ 1 (9 + 2 * a) = -1
  · rw [if_pos h1, if_neg (fun q => q.1 h1)]
  · rw [if_neg h1]
    by_cases h2 : σ 1 (9 + 2 * b) = -1
    · rw [if_pos h2, if_neg (fun q => q.2 h2)]
    · rw [if_neg h2, if_pos ⟨h1, h2⟩]
theorem pu_fr1_19 {σ' : jq_M} (ho : o = 5 ∨ o = 25) (h : ∀ k, k ≠ o + 19 → σ' k = σ k) : pu_fr1 σ σ' := fun k hk => h k (fun q => hk (by unfold pu_scr; omega))
/-- the wish that is dearest: the place and the worth so far -/
noncomputable def pu_dst (A S : Int → Int) (p : Int) (k : Int) (s : Int × Int) : Int × Int := pu_if (A (18 + 4 * k) = p ∧ s.2 < A (21 + 4 * k) ∧ pu_met A S k) (k, A (21 + 4 * k)) s
theorem pu_forK3 {S1 S2 E : Type} {f : S1 × S2 × Int → Option ((S1 × S2 × Int) ⊕ E)} (P : S1 × S2 → Prop) (e : S1 × S2 → E) (a : S1) (b : S2) (step : Int → S1 × S2 → S1 × S2) (n : Int) (hn : 0 ≤ n) (ha : P (a, b)) (h : ∀ (k : Int) (s1 : S1) (s2 : S2), 0 ≤ k → k < n → P (s1, s2) → f (s1, s2, k) = some (.inl ((step k (s1, s2)).1, (step k (s1, s2)).2, k + 1)) ∧ P (step k (s1, s2))) (hx : ∀ s1 s2, P (s1, s2) → f (s1, s2, n) = some (.inr (e (s1, s2)))) : jq_lp f (a, b, 0) = some (e (pu_fold (a, b) (fun i : Nat => step (i : Int)) n.toNat)) := by
  have key : ∀ i, i ≤ n.toNat → P (pu_fold (a, b) (fun i : Nat => step (i : Int)) i) := by
    intro i
    induction i with
    | zero => intro _; exact ha
    | succ i ih => intro hi; exact (h i _ _ (by omega) (by omega) (ih (by omega))).2
  refine pu_for (f := f) (fun (s : S1 × S2) i => (s.1, s.2, i)) (pu_fold (a, b) (fun i : Nat => step (i : Int))) n.toNat (fun i hi => (h i _ _ (by omega) (by omega) (key i (by omega))).1) ?_
  rw [show ((n.toNat : Nat) : Int) = n by omega]
  exact hx _ _ (key _ (Nat.le_refl _))
theorem ps_dearest (hI : pu_inv A) (hC : pu_RC σ o A) : X1_dearestWish o p σ = some (pu_fold (-1, 0) (fun i : Nat => pu_dst A (pu_se A) p (i : Int)) (A 2).toNat).1 := by
  have hI0 := hI
  have hC0 := hC
  obtain ⟨i0, i1, i2, i3, i4, i5, i6, ip, iq, iw, ia⟩ := hI
  obtain ⟨⟨c0, c1, c2, c3, c4, c5, c6⟩, cp, cw, ca⟩ := hC
  unfold X1_dearestWish
  rw [pu_forK3 (fun _ => True) (fun s => s.1) (-1) 0 (pu_dst A (pu_se A) p) (A 2) (by omega) trivial (fun κ s1 s2 z0 z1 _ => ⟨?_, trivial⟩) (fun s1 s2 _ => ?_)]
  · rfl
  · unfold pu_dst X1_dearestWish_b7
    dsimp only
    obtain ⟨d1, d2, d3, d4⟩ := cw κ z0 z1
    have m := ps_isMet (σ := σ) (o := o) (row := o + 3) (k := κ) hI0 hC0 (S := pu_se A) (fun p h0 h1 => (cp p h0 h1).2) z0 z1
    rw [c3, if_pos z1, if_pos (show κ < 20 by omega), pu_ld (by omega) (by omega), Option.bind_some, d1, pu_lt, pu_w (x := κ + 1) (by omega) (by omega)]
    by_cases h1 : A (18 + 4 * κ) = p
    · rw [if_pos h1, pu_ld (by omega) (by omega), Option.bind_some, d4]
      by_cases h2 : s2 < A (21 + 4 * κ)
      · rw [if_pos h2, m, Option.bind_some, pu_ii]
        by_cases h3 : pu_met A (pu_se A) κ
        · rw [pu_if_p h3, pu_if_p ⟨h1, h2, h3⟩]; simp only [Option.bind_some, pu_lt]
        · rw [pu_if_n h3, pu_if_n (fun q => h3 q.2.2)]
      · rw [if_neg h2, pu_if_n (fun q => h2 q.2.1)]
    · rw [if_neg h1, pu_if_n (fun q => h1 q.1)]
  · unfold X1_dearestWish_b7
    rw [c3, if_neg (by dsimp only; omega)]
theorem pm_dearest (hI : pu_inv (σ 1)) (hw : ∀ k, 0 ≤ k → k < σ 1 2 → X11_isHad k σ = some (pu_i (pu_met (σ 1) S k))) : jq_lp (X11_dearest_b25 p σ) (-1, 0, 0) = some (pu_fold (-1, 0) (fun i : Nat => pu_dst (σ 1) S p (i : Int)) (σ 1 2).toNat).1 := by
  have i2 := hI.2.2.1
  rw [pu_forK3 (fun _ => True) (fun s => s.1) (-1) 0 (pu_dst (σ 1) S p) (σ 1 2) (by omega) trivial (fun κ s1 s2 z0 z1 _ => ⟨?_, trivial⟩) (fun s1 s2 _ => ?_)]
  · unfold pu_dst X11_dearest_b25
    dsimp only
    simp only [pm_wishRow z0 (show κ < 20 by omega), Option.bind_some, hw κ z0 z1, pu_lt, pu_w (x := κ + 1) (by omega) (by omega), pu_w (x := 18 + 4 * κ + 3) (by omega) (by omega)]
    rw [pu_ld (by omega) (by omega), Option.bind_some, if_pos z1, pu_ld (by omega) (by omega), Option.bind_some, show 18 + 4 * κ + 3 = 21 + 4 * κ by omega, pu_ld (i := 21 + 4 * κ) (by omega) (by omega)]
    simp only [Option.bind_some]
    by_cases h1 : σ 1 (18 + 4 * κ) = p
    · rw [if_pos h1, pu_ii]
      by_cases h3 : pu_met (σ 1) S κ
      · rw [pu_if_p h3]
        by_cases h2 : s2 < σ 1 (21 + 4 * κ)
        · rw [if_pos h2, pu_if_p ⟨h1, h2, h3⟩]
        · rw [if_neg h2, pu_if_n (fun q => h2 q.2.1)]
      · rw [pu_if_n h3, pu_if_n (fun q => h3 q.2.2)]
    · rw [if_neg h1, pu_if_n (fun q => h1 q.1)]
  · unfold X11_dearest_b25
    rw [pu_ld (by omega) (by omega), Option.bind_some, if_neg (by dsimp only; omega)]
end
section
variable {σ1 σ2 : jq_M}
theorem pr_beside {σ1 σ2 : jq_M} (h : jq_Rel σ1 σ2) (w1 : jq_wf jq_zX 132 σ1) (w2 : jq_wf jq_zM 18 σ2) (y1 : jq_lay jq_zX σ1) (y2 : jq_lay jq_zM σ2) {p1 p2 : Int} (hp1 : jq_r p1) (hp2 : jq_r p2) : ∃ (r : Int) (σ1' σ2' : jq_M), X10_beside p1 p2 σ1 = some (r, σ1') ∧ X11_beside p1 p2 σ2 = some (r, σ2') ∧ jq_Rel σ1' σ2' := by
  obtain ⟨⟨i0, i1, i2, i3, i4, i5, i6, ip, iq, iw, ia⟩, ⟨⟨c0, c1, c2, c3, c4, c5, c6⟩, cp, cw, ca⟩, cN, cS⟩ := h.2.2.1
  unfold X10_beside X11_beside
  by_cases hp : (0 ≤ p1 ∧ p1 < σ2 1 1) ∧ (0 ≤ p2 ∧ p2 < σ2 1 1) ∧ p1 ≠ p2
  · obtain ⟨⟨a0, a1⟩, ⟨b0, b1⟩, ab⟩ := hp
    refine pu_no h (r := pu_i (σ2 1 (9 + 2 * p1) ≠ -1 ∧ σ2 1 (9 + 2 * p2) ≠ -1 ∧ pu_bes (σ2 1) (σ2 1 (9 + 2 * p1)) (σ2 1 (9 + 2 * p2)))) (v := 0) ?_ ?_
    · simp (disch := omega) only [pu_lt, ps_areTwo (pu_cP h), c2, Option.bind_some, pu_i_0, if_neg, pu_ld, (cp p1 a0 a1).2, (cp p2 b0 b1).2, ps_nextTo c0, ps_number, ps_answer, pu_b2]
      rw [pu_num]
    · simp (disch := omega) only [pu_lt, pm_areTwo, Option.bind_some, pu_i_0, if_neg, pm_bothSit, pm_seatOf, pm_beside, pm_gives, pu_b2, X11_beside_j40, X11_beside_j41]
      by_cases h1 : σ2 1 (9 + 2 * p1) ≠ -1 ∧ σ2 1 (9 + 2 * p2) ≠ -1
      · rw [if_neg (fun q => q h1)]
        by_cases h2 : pu_bes (σ2 1) (σ2 1 (9 + 2 * p1)) (σ2 1 (9 + 2 * p2))
        · rw [pu_ii, pu_if_p h2, pu_i_p ⟨h1.1, h1.2, h2⟩]
        · rw [pu_ii, pu_if_n h2, pu_i_n (fun q => h2 q.2.2)]
      · rw [if_pos h1, pu_i_n (fun q => h1 ⟨q.1, q.2.1⟩)]
  · refine pu_no h (r := -1) (v := 1) ?_ ?_
    · simp only [ps_areTwo (pu_cP h), c2, Option.bind_some, pu_i_0, if_pos hp, ps_refuse, pu_b2]
    · simp only [pm_areTwo, Option.bind_some, pu_i_0, if_pos hp, pm_refuse, pu_b2]
theorem pr_facing {σ1 σ2 : jq_M} (h : jq_Rel σ1 σ2) (w1 : jq_wf jq_zX 132 σ1) (w2 : jq_wf jq_zM 18 σ2) (y1 : jq_lay jq_zX σ1) (y2 : jq_lay jq_zM σ2) {p1 p2 : Int} (hp1 : jq_r p1) (hp2 : jq_r p2) : ∃ (r : Int) (σ1' σ2' : jq_M), X10_facing p1 p2 σ1 = some (r, σ1') ∧ X11_facing p1 p2 σ2 = some (r, σ2') ∧ jq_Rel σ1' σ2' := by
  obtain ⟨⟨i0, i1, i2, i3, i4, i5, i6, ip, iq, iw, ia⟩, ⟨⟨c0, c1, c2, c3, c4, c5, c6⟩, cp, cw, ca⟩, cN, cS⟩ := h.2.2.1
  unfold X10_facing X11_facing
  by_cases hp : (0 ≤ p1 ∧ p1 < σ2 1 1) ∧ (0 ≤ p2 ∧ p2 < σ2 1 1) ∧ p1 ≠ p2
  · obtain ⟨⟨a0, a1⟩, ⟨b0, b1⟩, ab⟩ := hp
    refine pu_no h (r := pu_i (σ2 1 (9 + 2 * p1) ≠ -1 ∧ σ2 1 (9 + 2 * p2) ≠ -1 ∧ pu_fac (σ2 1) (σ2 1 (9 + 2 * p1)) (σ2 1 (9 + 2 * p2)))) (v := 0) ?_ ?_
    · simp (disch := omega) only [pu_lt, ps_areTwo (pu_cP h), c2, Option.bind_some, pu_i_0, if_neg, pu_ld, (cp p1 a0 a1).2, (cp p2 b0 b1).2, ps_opposite c0, ps_number, ps_answer, pu_b2]
      rw [pu_num]
    · simp (disch := omega) only [pu_lt, pm_areTwo, Option.bind_some, pu_i_0, if_neg, pm_bothSit, pm_seatOf, pm_facing, pm_gives, pu_b2, X11_facing_j40, X11_facing_j41]
      by_cases h1 : σ2 1 (9 + 2 * p1) ≠ -1 ∧ σ2 1 (9 + 2 * p2) ≠ -1
      · rw [if_neg (fun q => q h1)]
        by_cases h2 : pu_fac (σ2 1) (σ2 1 (9 + 2 * p1)) (σ2 1 (9 + 2 * p2))
        · rw [pu_ii, pu_if_p h2, pu_i_p ⟨h1.1, h1.2, h2⟩]
        · rw [pu_ii, pu_if_n h2, pu_i_n (fun q => h2 q.2.2)]
      · rw [if_pos h1, pu_i_n (fun q => h1 ⟨q.1, q.2.1⟩)]
  · refine pu_no h (r := -1) (v := 1) ?_ ?_
    · simp only [ps_areTwo (pu_cP h), c2, Option.bind_some, pu_i_0, if_pos hp, ps_refuse, pu_b2]
    · simp only [pm_areTwo, Option.bind_some, pu_i_0, if_pos hp, pm_refuse, pu_b2]
theorem pr_worth {σ1 σ2 : jq_M} (h : jq_Rel σ1 σ2) (w1 : jq_wf jq_zX 132 σ1) (w2 : jq_wf jq_zM 18 σ2) (y1 : jq_lay jq_zX σ1) (y2 : jq_lay jq_zM σ2) {p1 : Int} (hp1 : jq_r p1) : ∃ (r : Int) (σ1' σ2' : jq_M), X10_worth p1 σ1 = some (r, σ1') ∧ X11_worth p1 σ2 = some (r, σ2') ∧ jq_Rel σ1' σ2' := by
  have hI := h.2.2.1.1
  have hC := h.2.2.1.2.1
  obtain ⟨⟨i0, i1, i2, i3, i4, i5, i6, ip, iq, iw, ia⟩, ⟨⟨c0, c1, c2, c3, c4, c5, c6⟩, cp, cw, ca⟩, cN, cS⟩ := h.2.2.1
  obtain ⟨τ, s1, s2, s3, s4, sw, -⟩ := pm_sn hI
  unfold X10_worth X11_worth
  by_cases hp : 0 ≤ p1 ∧ p1 < σ2 1 1
  · refine pu_nf h (pu_fr1_r _) (pu_fr2_9 s2) (r := pu_worth (σ2 1) (pu_se (σ2 1)) p1) (v := 0) ?_ ?_
    · simp only [pu_lt, ps_isParty (pu_cP h), c2, Option.bind_some, pu_i_0, if_neg (show ¬ ¬ (0 ≤ p1 ∧ p1 < σ2 1 1) from fun q => q hp), ps_worthTo hI hC (S := pu_se (σ2 1)) (row := σ1 0 7 + 3) (fun p h0 h1 => (cp p h0 h1).2), ps_answer, pu_b2]
    · simp only [pm_isParty, Option.bind_some, pu_i_0, if_neg (show ¬ ¬ (0 ≤ p1 ∧ p1 < σ2 1 1) from fun q => q hp), s1, sw, pm_gives, pu_b2]
  · refine pu_no h (r := -1) (v := 1) ?_ ?_
    · simp only [pu_lt, ps_isParty (pu_cP h), c2, Option.bind_some, pu_i_0, if_pos hp, ps_refuse, pu_b2]
    · simp only [pm_isParty, Option.bind_some, pu_i_0, if_pos hp, pm_refuse, pu_b2]
theorem pr_allWorth {σ1 σ2 : jq_M} (h : jq_Rel σ1 σ2) (w1 : jq_wf jq_zX 132 σ1) (w2 : jq_wf jq_zM 18 σ2) (y1 : jq_lay jq_zX σ1) (y2 : jq_lay jq_zM σ2) : ∃ (r : Int) (σ1' σ2' : jq_M), X10_allWorth σ1 = some (r, σ1') ∧ X11_allWorth σ2 = some (r, σ2') ∧ jq_Rel σ1' σ2' := by
  have hI := h.2.2.1.1
  have hC := h.2.2.1.2.1
  have cp := hC.2.1
  obtain ⟨τ, s1, s2, s3, s4, sw, sa, -⟩ := pm_sn hI
  refine pu_nf h (pu_fr1_r _) (pu_fr2_9 s2) (r := pu_all (σ2 1) (pu_se (σ2 1))) (v := 0) ?_ ?_
  · unfold X10_allWorth
    simp only [pu_lt, Option.bind_some, ps_worthOfAll hI hC (S := pu_se (σ2 1)) (row := σ1 0 7 + 3) (fun p h0 h1 => (cp p h0 h1).2), ps_answer, pu_b2]
  · unfold X11_allWorth
    simp only [Option.bind_some, s1, sa, pm_gives, pu_b2]
theorem pr_signs {σ1 σ2 : jq_M} (h : jq_Rel σ1 σ2) (w1 : jq_wf jq_zX 132 σ1) (w2 : jq_wf jq_zM 18 σ2) (y1 : jq_lay jq_zX σ1) (y2 : jq_lay jq_zM σ2) {p1 : Int} (hp1 : jq_r p1) : ∃ (r : Int) (σ1' σ2' : jq_M), X10_signs p1 σ1 = some (r, σ1') ∧ X11_signs p1 σ2 = some (r, σ2') ∧ jq_Rel σ1' σ2' := by
  have hI := h.2.2.1.1
  have hC := h.2.2.1.2.1
  obtain ⟨⟨i0, i1, i2, i3, i4, i5, i6, ip, iq, iw, ia⟩, ⟨⟨c0, c1, c2, c3, c4, c5, c6⟩, cp, cw, ca⟩, cN, cS⟩ := h.2.2.1
  obtain ⟨τ, s1, s2, s3, s4, sw, sa, sg, sf, sh, sd⟩ := pm_sn hI
  unfold X10_signs X11_signs
  by_cases hp : 0 ≤ p1 ∧ p1 < σ2 1 1
  · have hpn : ¬ ¬ (0 ≤ p1 ∧ p1 < σ2 1 1) := fun q => q hp
    refine pu_nf h (pu_fr1_r _) (pu_fr2_9 s2) (r := pu_i (σ2 1 (8 + 2 * p1) ≤ pu_worth (σ2 1) (pu_se (σ2 1)) p1)) (v := 0) ?_ ?_
    · simp only [pu_lt, ps_isParty (pu_cP h), c2, Option.bind_some, pu_i_0, if_neg hpn, ps_doesSign hI hC (S := pu_se (σ2 1)) (row := σ1 0 7 + 3) (fun p h0 h1 => (cp p h0 h1).2) hp.1 hp.2, ps_answer, pu_b2, ps_number]
      by_cases q : σ2 1 (8 + 2 * p1) ≤ pu_worth (σ2 1) (pu_se (σ2 1)) p1
      · rw [if_neg (fun z => z q), pu_i_p q]
      · rw [if_pos q, pu_i_n q]
    · simp only [pm_isParty, Option.bind_some, pu_i_0, if_neg hpn, s1, sd p1 hp.1 (by omega), pm_gives, pu_b2, X11_signs_j32]
      by_cases q : σ2 1 (8 + 2 * p1) ≤ pu_worth (σ2 1) (pu_se (σ2 1)) p1
      · rw [if_neg (fun z => z q), pu_i_p q]
      · rw [if_pos q, pu_i_n q]
  · refine pu_no h (r := -1) (v := 1) ?_ ?_
    · simp only [pu_lt, ps_isParty (pu_cP h), c2, Option.bind_some, pu_i_0, if_pos hp, ps_refuse, pu_b2]
    · simp only [pm_isParty, Option.bind_some, pu_i_0, if_pos hp, pm_refuse, pu_b2]
theorem pr_dearest {σ1 σ2 : jq_M} (h : jq_Rel σ1 σ2) (w1 : jq_wf jq_zX 132 σ1) (w2 : jq_wf jq_zM 18 σ2) (y1 : jq_lay jq_zX σ1) (y2 : jq_lay jq_zM σ2) {p1 : Int} (hp1 : jq_r p1) : ∃ (r : Int) (σ1' σ2' : jq_M), X10_dearest p1 σ1 = some (r, σ1') ∧ X11_dearest p1 σ2 = some (r, σ2') ∧ jq_Rel σ1' σ2' := by
  have hI := h.2.2.1.1
  have hC := h.2.2.1.2.1
  obtain ⟨⟨i0, i1, i2, i3, i4, i5, i6, ip, iq, iw, ia⟩, ⟨⟨c0, c1, c2, c3, c4, c5, c6⟩, cp, cw, ca⟩, cN, cS⟩ := h.2.2.1
  obtain ⟨τ, s1, s2, s3, s4, sw, sa, sg, sf, sh, sd⟩ := pm_sn hI
  have e1 : τ 1 = σ2 1 := s2 1 (by omega)
  have hD := pm_dearest (S := pu_se (σ2 1)) (p := p1) s4 (by rw [e1]; exact sh)
  rw [e1] at hD
  unfold X10_dearest X11_dearest
  by_cases hp : 0 ≤ p1 ∧ p1 < σ2 1 1
  · have hpn : ¬ ¬ (0 ≤ p1 ∧ p1 < σ2 1 1) := fun q => q hp
    generalize hr : (pu_fold ((-1 : Int), (0 : Int)) (fun i : Nat => pu_dst (σ2 1) (pu_se (σ2 1)) p1 (i : Int)) (σ2 1 2).toNat).1 = r at hD
    refine pu_nf h (pu_fr1_r _) (pu_fr2_9 s2) (r := r) (v := if r = -1 then 6 else 0) ?_ ?_
    · simp only [pu_lt, ps_isParty (pu_cP h), c2, Option.bind_some, pu_i_0, if_neg hpn, ps_dearest hI hC, hr, ps_orNone, pu_b2]
    · simp only [pm_isParty, Option.bind_some, pu_i_0, if_neg hpn, s1, hD, pm_orNone, pu_b2]
  · refine pu_no h (r := -1) (v := 1) ?_ ?_
    · simp only [pu_lt, ps_isParty (pu_cP h), c2, Option.bind_some, pu_i_0, if_pos hp, ps_refuse, pu_b2]
    · simp only [pm_isParty, Option.bind_some, pu_i_0, if_pos hp, pm_refuse, pu_b2]
theorem pr_who {σ1 σ2 : jq_M} (h : jq_Rel σ1 σ2) (w1 : jq_wf jq_zX 132 σ1) (w2 : jq_wf jq_zM 18 σ2) (y1 : jq_lay jq_zX σ1) (y2 : jq_lay jq_zM σ2) {p1 : Int} (hp1 : jq_r p1) : ∃ (r : Int) (σ1' σ2' : jq_M), X10_who p1 σ1 = some (r, σ1') ∧ X11_who p1 σ2 = some (r, σ2') ∧ jq_Rel σ1' σ2' := by
  have hI := h.2.2.1.1
  obtain ⟨⟨i0, i1, i2, i3, i4, i5, i6, ip, iq, iw, ia⟩, ⟨⟨c0, c1, c2, c3, c4, c5, c6⟩, cp, cw, ca⟩, cN, cS⟩ := h.2.2.1
  unfold X10_who X11_who
  by_cases hp : 0 ≤ p1 ∧ p1 < σ2 1 0
  · have hpn : ¬ ¬ (0 ≤ p1 ∧ p1 < σ2 1 0) := fun q => q hp
    refine pu_no h (r := pu_who (pu_se (σ2 1)) p1 (σ2 1 1).toNat) (v := if pu_who (pu_se (σ2 1)) p1 (σ2 1 1).toNat = -1 then 6 else 0) ?_ ?_
    · simp only [pu_lt, ps_isPlace, c0, Option.bind_some, pu_i_0, if_neg hpn, ps_sitterAt (S := pu_se (σ2 1)) c2 (by omega) (by omega) (fun p h0 h1 => (cp p h0 h1).2), ps_orNone, pu_b2]
    · simp only [pm_isPlace, Option.bind_some, pu_i_0, if_neg hpn, pm_sitsAt hI, pm_orNone, pu_b2]
  · refine pu_no h (r := -1) (v := 1) ?_ ?_
    · simp only [pu_lt, ps_isPlace, c0, Option.bind_some, pu_i_0, if_pos hp, ps_refuse, pu_b2]
    · simp only [pm_isPlace, Option.bind_some, pu_i_0, if_pos hp, pm_refuse, pu_b2]
theorem pr_article {σ1 σ2 : jq_M} (h : jq_Rel σ1 σ2) (w1 : jq_wf jq_zX 132 σ1) (w2 : jq_wf jq_zM 18 σ2) (y1 : jq_lay jq_zX σ1) (y2 : jq_lay jq_zM σ2) {p1 p2 : Int} (hp1 : jq_r p1) (hp2 : jq_r p2) : ∃ (r : Int) (σ1' σ2' : jq_M), X10_article p1 p2 σ1 = some (r, σ1') ∧ X11_article p1 p2 σ2 = some (r, σ2') ∧ jq_Rel σ1' σ2' := by
  have hI := h.2.2.1.1
  obtain ⟨⟨i0, i1, i2, i3, i4, i5, i6, ip, iq, iw, ia⟩, ⟨⟨c0, c1, c2, c3, c4, c5, c6⟩, cp, cw, ca⟩, cN, cS⟩ := h.2.2.1
  have g := pu_ag_lt (A := σ2 1) (by omega)
  by_cases hp : (0 ≤ p1 ∧ p1 < σ2 1 3) ∧ 0 ≤ p2 ∧ p2 ≤ 4
  · obtain ⟨⟨a0, a1⟩, b0, b1⟩ := hp
    have hpn : ¬ ¬ (0 ≤ p1 ∧ p1 < σ2 1 3) := fun q => q ⟨a0, a1⟩
    obtain ⟨d1, d2, d3, d4⟩ := ca p1 a0 a1
    obtain ⟨e1, e2, e3, e4, e5, e6, e7⟩ := ia p1 a0 a1
    have tb := pu_ag_tb (A := σ2 1) p1.toNat
    rw [show 98 + 5 * ((p1.toNat : Nat) : Int) + 4 = 102 + 5 * p1 by omega, decide_eq_true (show p1.toNat < (σ2 1 3).toNat by omega), Bool.true_and] at tb
    have tb2 : X1_isAgreed (σ1 0 7) p1 σ1 = some (σ2 1 (102 + 5 * p1)) := by
      unfold X1_isAgreed
      rw [ps_holds, Option.bind_some, c5, pu_isin_i (by omega) a0 (by omega), tb]
      rcases e7 with ⟨e7, -⟩ | e7
      · rw [pu_i_n (by rw [e7]; decide), e7]
      · rw [pu_i_p (by rw [e7]; decide), e7]
    refine pu_no h (r := σ2 1 (98 + 5 * p1 + p2)) (v := 0) ?_ ?_
    · unfold X10_article
      simp only [pu_lt, pu_b2, ps_isArticle (pu_cA h), ps_within, Option.bind_some, pu_i_0, c4, ps_answer, if_neg hpn, if_neg (show ¬ ¬ (0 ≤ p2 ∧ p2 ≤ 4) from fun q => q ⟨b0, b1⟩), pu_ld (show 0 ≤ p1 by omega) (show p1 < 8 by omega), d1, d2, d3, d4, tb2, ps_number]
      rcases (show p2 = 0 ∨ p2 = 1 ∨ p2 = 2 ∨ p2 = 3 ∨ p2 = 4 by omega) with rfl | rfl | rfl | rfl | rfl
      · simp
      · simp [show 98 + 5 * p1 + 1 = 99 + 5 * p1 by omega]
      · simp [show 98 + 5 * p1 + 2 = 100 + 5 * p1 by omega]
      · simp [show 98 + 5 * p1 + 3 = 101 + 5 * p1 by omega]
      · simp [show 98 + 5 * p1 + 4 = 102 + 5 * p1 by omega]
        rcases e7 with ⟨e7, -⟩ | e7
        · rw [e7]; rfl
        · rw [e7]; rfl
    · unfold X11_article
      simp only [pm_isArticle, Option.bind_some, pu_i_0, if_neg hpn, if_neg (show ¬ p2 < 0 by omega), if_neg (show ¬ 4 < p2 by omega), pm_articleRow a0 (show p1 < 8 by omega), pu_w (x := 98 + 5 * p1 + p2) (by omega) (by omega), pu_ld (σ := σ2) (k := 1) (n := 3174) (i := 98 + 5 * p1 + p2) (by omega) (by omega), pm_gives, pu_b2]
  · refine pu_no h (r := -1) (v := 1) ?_ ?_
    · unfold X10_article X10_article_j20
      simp only [pu_lt, pu_b2, ps_isArticle (pu_cA h), ps_within, Option.bind_some, pu_i_0, c4, ps_refuse]
      by_cases q : 0 ≤ p1 ∧ p1 < σ2 1 3
      · rw [if_neg (fun z => z q), if_pos (fun z => hp ⟨q, z⟩)]
      · rw [if_pos q]
    · unfold X11_article X11_article_j35
      simp only [pm_isArticle, Option.bind_some, pu_i_0, pm_refuse, pu_b2]
      by_cases q : 0 ≤ p1 ∧ p1 < σ2 1 3
      · rw [if_neg (fun z => z q)]
        by_cases q2 : p2 < 0
        · rw [if_pos q2]
        · rw [if_neg q2, if_pos (by omega)]
      · rw [if_pos q]
theorem pr_told {σ1 σ2 : jq_M} (h : jq_Rel σ1 σ2) (w1 : jq_wf jq_zX 132 σ1) (w2 : jq_wf jq_zM 18 σ2) (y1 : jq_lay jq_zX σ1) (y2 : jq_lay jq_zM σ2) {p1 : Int} (hp1 : jq_r p1) : ∃ (r : Int) (σ1' σ2' : jq_M), X10_told p1 σ1 = some (r, σ1') ∧ X11_told p1 σ2 = some (r, σ2') ∧ jq_Rel σ1' σ2' := by
  have hI := h.2.2.1.1
  have hC := h.2.2.1.2.1
  obtain ⟨⟨i0, i1, i2, i3, i4, i5, i6, ip, iq, iw, ia⟩, ⟨⟨c0, c1, c2, c3, c4, c5, c6⟩, cp, cw, ca⟩, cN, cS⟩ := h.2.2.1
  obtain ⟨τ, s1, s2, s3, s4, sw, sa, sg, sf, sh, sd⟩ := pm_sn hI
  have e1 : τ 1 = σ2 1 := s2 1 (by omega)
  have e3 := pm_sitting s4
  have e4 := pm_agreedNow s4
  have e5 := pm_openNow s4
  rw [e1] at e3 e4 e5
  obtain ⟨υ, u1, u2⟩ := ps_signersOf hI hC (show σ1 0 7 + 3 ≠ σ1 0 7 + 19 by omega) (S := pu_se (σ2 1)) (fun p h0 h1 => (cp p h0 h1).2)
  have hn : σ1 0 7 = 5 ∨ σ1 0 7 = 25 := by have := h.2.1; omega
  have fin : ∀ r : Int, X10_told p1 σ1 = some (r, jq_st σ1 0 0 0) → X11_told p1 σ2 = some (r, jq_st τ 0 2 0) → ∃ (r : Int) (σ1' σ2' : jq_M), X10_told p1 σ1 = some (r, σ1') ∧ X11_told p1 σ2 = some (r, σ2') ∧ jq_Rel σ1' σ2' := fun r a b => pu_nf h (pu_fr1_r _) (pu_fr2_9 s2) a b
  unfold X10_told X11_told at fin ⊢
  simp only [pu_lt, pu_b2, ps_answer, pm_gives, s1, Option.bind_some, e3, e4, e5, sg, u1, ps_refuse, X11_told_j10, pm_refuse, ps_sittersOf hI hC, ps_ready hI hC, c0, c1, c2, c3, c4, c5, c6] at fin ⊢
  by_cases hp : 0 ≤ p1 ∧ p1 ≤ 9
  · simp only [if_neg (show ¬ p1 < 0 by omega), if_neg (show ¬ 9 < p1 by omega)] at fin ⊢
    rcases (show p1 = 0 ∨ p1 = 1 ∨ p1 = 2 ∨ p1 = 3 ∨ p1 = 4 ∨ p1 = 5 ∨ p1 = 6 ∨ p1 = 7 ∨ p1 = 8 ∨ p1 = 9 by omega) with rfl | rfl | rfl | rfl | rfl | rfl | rfl | rfl | rfl | rfl
    · exact fin (σ2 1 0) (by simp) (by simp [pu_ld, e1])
    · exact fin (σ2 1 1) (by simp) (by simp [pu_ld, e1])
    · exact fin (σ2 1 2) (by simp) (by simp [pu_ld, e1])
    · exact fin (σ2 1 3) (by simp) (by simp [pu_ld, e1])
    · exact fin (σ2 1 4) (by simp) (by simp [pu_ld, e1])
    · exact fin (σ2 1 5) (by simp) (by simp [pu_ld, e1])
    · exact fin (pu_sit (σ2 1) : Nat) (by simp) (by simp)
    · exact pu_nf h (pu_fr1_19 hn u2) (pu_fr2_9 s2) (r := pu_sg (σ2 1) (pu_se (σ2 1))) (v := 0) (by simp) (by simp)
    · exact fin (pu_ag (σ2 1) : Nat) (by simp) (by simp)
    · exact fin (pu_opens (σ2 1)) (by simp) (by simp)
  · refine pu_no h (r := -1) (v := 1) ?_ ?_
    · rw [if_neg (by omega), if_neg (by omega), if_neg (by omega), if_neg (by omega), if_neg (by omega), if_neg (by omega), if_neg (by omega), if_neg (by omega), if_neg (by omega), if_neg (by omega)]
    · by_cases q : p1 < 0
      · rw [if_pos q]
      · rw [if_neg q, if_pos (by omega)]
end
