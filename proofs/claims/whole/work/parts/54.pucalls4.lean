section
variable {σ1 σ2 τ1 τ2 : jq_M} {r v : Int} {a b : Option (Int × jq_M)}
theorem pu_na (h : jq_Rel σ1 σ2) (hK : pu_K τ1 (σ1 0 7) τ2) (f1 : pu_F1 (σ1 0 7) σ1 τ1) (f2 : pu_F2 σ2 τ2) (hd : τ2 1 4 ≤ 9999) (h1 : a = some (r, jq_st τ1 0 0 v)) (h2 : b = some (r, jq_st τ2 0 2 v)) : ∃ (r : Int) (σ1' σ2' : jq_M), a = some (r, σ1') ∧ b = some (r, σ2') ∧ jq_Rel σ1' σ2' :=
  ⟨r, _, _, h1, h2, pu_fina h hK f1 f2 hd⟩
theorem pr_sit {σ1 σ2 : jq_M} (h : jq_Rel σ1 σ2) (w1 : jq_wf jq_zX 132 σ1) (w2 : jq_wf jq_zM 18 σ2) (y1 : jq_lay jq_zX σ1) (y2 : jq_lay jq_zM σ2) {p1 p2 : Int} (hp1 : jq_r p1) (hp2 : jq_r p2) : ∃ (r : Int) (σ1' σ2' : jq_M), X10_sit p1 p2 σ1 = some (r, σ1') ∧ X11_sit p1 p2 σ2 = some (r, σ2') ∧ jq_Rel σ1' σ2' := by
  have hK : pu_K σ1 (σ1 0 7) σ2 := ⟨h.2.2.1.1, h.2.2.1.2.1⟩
  have hD := h.2.2.1.2.2.2.2
  obtain ⟨⟨i0, i1, i2, i3, i4, i5, i6, ip, iq, iw, ia⟩, ⟨⟨c0, c1, c2, c3, c4, c5, c6⟩, cp, cw, ca⟩, cN, cS⟩ := h.2.2.1
  unfold X10_sit X11_sit
  by_cases hp : (0 ≤ p1 ∧ p1 < σ2 1 1) ∧ 0 ≤ p2 ∧ p2 < σ2 1 0
  · obtain ⟨⟨a0, a1⟩, b0, b1⟩ := hp
    have hn1 : ¬ ¬ (0 ≤ p1 ∧ p1 < σ2 1 1) := fun q => q ⟨a0, a1⟩
    have hn2 : ¬ ¬ (0 ≤ p2 ∧ p2 < σ2 1 0) := fun q => q ⟨b0, b1⟩
    obtain ⟨r, τ1, τ2, e1, e2, k1, k2, k3, hr, k4⟩ := pa_sit hK a0 a1 b0 b1
    have hd : τ2 1 4 ≤ 9999 := by omega
    simp only [pu_lt, ps_isParty (pu_cP h), ps_isPlace, c2, c0, Option.bind_some, pu_i_0, if_neg hn1, if_neg hn2, pm_isParty, pm_isPlace, pu_ld a0 (show p1 < 5 by omega), (cp p1 a0 a1).2, pm_seatOf a0 (show p1 < 5 by omega), e1, e2, pu_b2, ps_refuse, pm_refuse, ps_answer, pm_gives]
    rcases hr with rfl | rfl
    · exact pu_na h k1 k2 k3 hd rfl rfl
    · exact pu_na h k1 k2 k3 hd rfl rfl
  · refine pu_no h (r := -1) (v := 1) ?_ ?_
    · simp only [pu_lt, ps_isParty (pu_cP h), ps_isPlace, c2, c0, Option.bind_some, pu_i_0, X10_sit_j22, ps_refuse, pu_b2]
      by_cases q : 0 ≤ p1 ∧ p1 < σ2 1 1
      · rw [if_neg (fun z => z q), if_pos (fun z => hp ⟨q, z⟩)]
      · rw [if_pos q]
    · simp only [pm_isParty, pm_isPlace, Option.bind_some, pu_i_0, X11_sit_j16, pm_refuse, pu_b2]
      by_cases q : 0 ≤ p1 ∧ p1 < σ2 1 1
      · rw [if_neg (fun z => z q), if_pos (fun z => hp ⟨q, z⟩)]
      · rw [if_pos q]
theorem pr_rise {σ1 σ2 : jq_M} (h : jq_Rel σ1 σ2) (w1 : jq_wf jq_zX 132 σ1) (w2 : jq_wf jq_zM 18 σ2) (y1 : jq_lay jq_zX σ1) (y2 : jq_lay jq_zM σ2) {p1 : Int} (hp1 : jq_r p1) : ∃ (r : Int) (σ1' σ2' : jq_M), X10_rise p1 σ1 = some (r, σ1') ∧ X11_rise p1 σ2 = some (r, σ2') ∧ jq_Rel σ1' σ2' := by
  have hK : pu_K σ1 (σ1 0 7) σ2 := ⟨h.2.2.1.1, h.2.2.1.2.1⟩
  have hD := h.2.2.1.2.2.2.2
  obtain ⟨⟨i0, i1, i2, i3, i4, i5, i6, ip, iq, iw, ia⟩, ⟨⟨c0, c1, c2, c3, c4, c5, c6⟩, cp, cw, ca⟩, cN, cS⟩ := h.2.2.1
  unfold X10_rise X11_rise
  by_cases hp : 0 ≤ p1 ∧ p1 < σ2 1 1
  · obtain ⟨a0, a1⟩ := hp
    have hn1 : ¬ ¬ (0 ≤ p1 ∧ p1 < σ2 1 1) := fun q => q ⟨a0, a1⟩
    obtain ⟨e1, k1, k2, k3, k4⟩ := pa_rise hK a0 a1
    simp only [pu_lt, ps_isParty (pu_cP h), c2, Option.bind_some, pu_i_0, if_neg hn1, pm_isParty, pu_ld a0 (show p1 < 5 by omega), (cp p1 a0 a1).2, pm_seatOf a0 (show p1 < 5 by omega), pm_partyRow a0 (show p1 < 5 by omega), e1, pu_b2, ps_refuse, pm_refuse, ps_answer, pm_gives]
    rw [pu_w (by omega) (by omega), pu_sa (by omega) (by omega), Option.bind_some, show 8 + 2 * p1 + 1 = 9 + 2 * p1 by omega]
    by_cases g : σ2 1 (9 + 2 * p1) = -1
    · rw [if_pos g, if_pos rfl, if_pos g]
      refine pu_na h k1 k2 k3 (by omega) rfl ?_
      rw [pu_st_id g]
    · rw [if_neg g, if_neg (by decide), if_neg g]
      exact pu_na h k1 k2 k3 (by omega) rfl rfl
  · refine pu_no h (r := -1) (v := 1) ?_ ?_
    · simp only [pu_lt, ps_isParty (pu_cP h), c2, Option.bind_some, pu_i_0, if_pos hp, ps_refuse, pu_b2]
    · simp only [pm_isParty, Option.bind_some, pu_i_0, if_pos hp, pm_refuse, pu_b2]
theorem pr_swap {σ1 σ2 : jq_M} (h : jq_Rel σ1 σ2) (w1 : jq_wf jq_zX 132 σ1) (w2 : jq_wf jq_zM 18 σ2) (y1 : jq_lay jq_zX σ1) (y2 : jq_lay jq_zM σ2) {p1 p2 : Int} (hp1 : jq_r p1) (hp2 : jq_r p2) : ∃ (r : Int) (σ1' σ2' : jq_M), X10_swap p1 p2 σ1 = some (r, σ1') ∧ X11_swap p1 p2 σ2 = some (r, σ2') ∧ jq_Rel σ1' σ2' := by
  have hK : pu_K σ1 (σ1 0 7) σ2 := ⟨h.2.2.1.1, h.2.2.1.2.1⟩
  have hD := h.2.2.1.2.2.2.2
  obtain ⟨⟨i0, i1, i2, i3, i4, i5, i6, ip, iq, iw, ia⟩, ⟨⟨c0, c1, c2, c3, c4, c5, c6⟩, cp, cw, ca⟩, cN, cS⟩ := h.2.2.1
  unfold X10_swap X11_swap
  by_cases hp : (0 ≤ p1 ∧ p1 < σ2 1 1) ∧ (0 ≤ p2 ∧ p2 < σ2 1 1) ∧ p1 ≠ p2
  · have hn1 : ¬ ¬ ((0 ≤ p1 ∧ p1 < σ2 1 1) ∧ (0 ≤ p2 ∧ p2 < σ2 1 1) ∧ p1 ≠ p2) := fun q => q hp
    obtain ⟨r, τ1, τ2, e1, e2, k1, k2, k3, hr, k4⟩ := pa_swap hK hp.1.1 hp.1.2 hp.2.1.1 hp.2.1.2
    have hd : τ2 1 4 ≤ 9999 := by omega
    simp only [pu_lt, ps_areTwo (pu_cP h), c2, Option.bind_some, pu_i_0, if_neg hn1, pm_areTwo, e1, e2, pu_b2, X11_swap_j29, ps_deny, ps_grant, pm_is]
    rcases hr with rfl | rfl
    · exact pu_na h k1 k2 k3 hd rfl rfl
    · exact pu_na h k1 k2 k3 hd rfl rfl
  · refine pu_no h (r := 0) (v := 1) ?_ ?_
    · simp only [ps_areTwo (pu_cP h), c2, Option.bind_some, pu_i_0, if_pos hp, ps_deny, pu_b2]
    · simp only [pm_areTwo, Option.bind_some, pu_i_0, if_pos hp, X11_swap_j29, pm_is, pu_b2]
      rfl
theorem pu_sit_lt {A : Int → Int} (h : A 1 ≤ 5) : pu_sit A < 256 := by
  unfold pu_sit
  exact Nat.lt_of_lt_of_le (pu_set_lt _ _) (show (2 : Nat) ^ (A 1).toNat ≤ 2 ^ 8 from Nat.pow_le_pow_right (by decide) (by omega))
theorem pr_turn {σ1 σ2 : jq_M} (h : jq_Rel σ1 σ2) (w1 : jq_wf jq_zX 132 σ1) (w2 : jq_wf jq_zM 18 σ2) (y1 : jq_lay jq_zX σ1) (y2 : jq_lay jq_zM σ2) {p1 : Int} (hp1 : jq_r p1) : ∃ (r : Int) (σ1' σ2' : jq_M), X10_turn p1 σ1 = some (r, σ1') ∧ X11_turn p1 σ2 = some (r, σ2') ∧ jq_Rel σ1' σ2' := by
  have hK : pu_K σ1 (σ1 0 7) σ2 := ⟨h.2.2.1.1, h.2.2.1.2.1⟩
  have hD := h.2.2.1.2.2.2.2
  have hn : σ1 0 7 = 5 ∨ σ1 0 7 = 25 := by have := h.2.1; omega
  unfold X10_turn X11_turn
  by_cases hp : 0 ≤ p1 ∧ p1 ≤ 99
  · obtain ⟨a0, a1⟩ := hp
    have hn1 : ¬ ¬ (0 ≤ p1 ∧ p1 ≤ 99) := fun q => q ⟨a0, a1⟩
    obtain ⟨τ1, τ2, e1, e2, k1, k2, k3, k4⟩ := pa_turn hK a0 a1
    have g0 : τ1 0 = σ1 0 := k2 0 (by omega) (by omega) (by omega) (by omega)
    have s1 := ps_sittersOf k1.1 k1.2
    have s2 := pm_sitting k1.1
    have g1 := pu_sit_lt (A := τ2 1) (by have := k1.1.2.1; omega)
    have hd : τ2 1 4 ≤ 9999 := by omega
    simp only [pu_lt, ps_within, Option.bind_some, pu_i_0, if_neg hn1, pm_isFrom, e1, e2, g0, s1, s2, pu_bc g1, pu_bits g1, ps_answer, pm_gives, pu_b2]
    exact pu_na h k1 k2 k3 hd rfl rfl
  · refine pu_no h (r := -1) (v := 1) ?_ ?_
    · simp only [ps_within, Option.bind_some, pu_i_0, if_pos hp, ps_refuse, pu_b2]
    · simp only [pm_isFrom, Option.bind_some, pu_i_0, if_pos hp, pm_refuse, pu_b2]
theorem pr_day {σ1 σ2 : jq_M} (h : jq_Rel σ1 σ2) (w1 : jq_wf jq_zX 132 σ1) (w2 : jq_wf jq_zM 18 σ2) (y1 : jq_lay jq_zX σ1) (y2 : jq_lay jq_zM σ2) {p1 : Int} (hp1 : jq_r p1) : ∃ (r : Int) (σ1' σ2' : jq_M), X10_day p1 σ1 = some (r, σ1') ∧ X11_day p1 σ2 = some (r, σ2') ∧ jq_Rel σ1' σ2' := by
  have hK : pu_K σ1 (σ1 0 7) σ2 := ⟨h.2.2.1.1, h.2.2.1.2.1⟩
  have hD := h.2.2.1.2.2.2.2
  obtain ⟨⟨i0, i1, i2, i3, i4, i5, i6, ip, iq, iw, ia⟩, ⟨⟨c0, c1, c2, c3, c4, c5, c6⟩, cp, cw, ca⟩, cN, cS⟩ := h.2.2.1
  unfold X10_day X11_day
  by_cases hp : 1 ≤ p1 ∧ p1 ≤ 99
  · obtain ⟨a0, a1⟩ := hp
    have hn1 : ¬ ¬ (1 ≤ p1 ∧ p1 ≤ 99) := fun q => q ⟨a0, a1⟩
    simp only [pu_lt, ps_within, Option.bind_some, pu_i_0, if_neg hn1, pm_isFrom, c6]
    rw [pu_ld (by omega) (by omega), Option.bind_some, pu_w (by omega) (by omega), pu_w (by omega) (by omega)]
    by_cases g : 9999 < σ2 1 4 + p1
    · rw [if_pos g, if_pos (by omega)]
      exact pu_no h rfl rfl
    · obtain ⟨r, τ1, τ2, e1, e2, k1, k2, k3, hr, k4⟩ := pa_days hK (by omega) (by omega) (show σ2 1 4 + p1 ≤ 1000000 by omega)
      rw [if_neg g, if_neg (by omega), e1, e2]
      exact pu_na h k1 k2 k3 (by omega) rfl rfl
  · refine pu_no h (r := -1) (v := 1) ?_ ?_
    · simp only [ps_within, Option.bind_some, pu_i_0, if_pos hp, ps_refuse, pu_b2]
    · simp only [pm_isFrom, Option.bind_some, pu_i_0, if_pos hp, pm_refuse, pu_b2]
theorem pr_agree {σ1 σ2 : jq_M} (h : jq_Rel σ1 σ2) (w1 : jq_wf jq_zX 132 σ1) (w2 : jq_wf jq_zM 18 σ2) (y1 : jq_lay jq_zX σ1) (y2 : jq_lay jq_zM σ2) {p1 : Int} (hp1 : jq_r p1) : ∃ (r : Int) (σ1' σ2' : jq_M), X10_agree p1 σ1 = some (r, σ1') ∧ X11_agree p1 σ2 = some (r, σ2') ∧ jq_Rel σ1' σ2' := by
  have hK : pu_K σ1 (σ1 0 7) σ2 := ⟨h.2.2.1.1, h.2.2.1.2.1⟩
  have hD := h.2.2.1.2.2.2.2
  have hn : σ1 0 7 = 5 ∨ σ1 0 7 = 25 := by have := h.2.1; omega
  obtain ⟨⟨i0, i1, i2, i3, i4, i5, i6, ip, iq, iw, ia⟩, ⟨⟨c0, c1, c2, c3, c4, c5, c6⟩, cp, cw, ca⟩, cN, cS⟩ := h.2.2.1
  unfold X10_agree X11_agree
  by_cases hp : 0 ≤ p1 ∧ p1 < σ2 1 3
  · obtain ⟨a0, a1⟩ := hp
    have hn1 : ¬ ¬ (0 ≤ p1 ∧ p1 < σ2 1 3) := fun q => q ⟨a0, a1⟩
    obtain ⟨r, τ1, τ2, e1, e2, k1, k2, k3, hr, k4⟩ := pa_agree hK a0 a1
    have g0 : τ1 0 = σ1 0 := k2 0 (by omega) (by omega) (by omega) (by omega)
    have g1 := pu_ag_lt (A := τ2 1) (by have := k1.1.2.2.2.1; omega)
    have g5 : τ1 (σ1 0 7) 5 = ((pu_ag (τ2 1) : Nat) : Int) := k1.2.1.2.2.2.2.2.1
    have hd : τ2 1 4 ≤ 9999 := by omega
    simp only [pu_lt, ps_isArticle (pu_cA h), c4, Option.bind_some, pu_i_0, if_neg hn1, pm_isArticle, e1, e2, g0, g5, pu_bc g1, pm_agreedNow k1.1, pu_bits g1, ps_answer, pm_gives, pu_b2, ps_refuse, pm_refuse]
    rcases hr with rfl | rfl
    · exact pu_na h k1 k2 k3 hd rfl rfl
    · exact pu_na h k1 k2 k3 hd rfl rfl
  · refine pu_no h (r := -1) (v := 1) ?_ ?_
    · simp only [pu_lt, ps_isArticle (pu_cA h), c4, Option.bind_some, pu_i_0, if_pos hp, ps_refuse, pu_b2]
    · simp only [pm_isArticle, Option.bind_some, pu_i_0, if_pos hp, pm_refuse, pu_b2]
theorem pr_withdraw {σ1 σ2 : jq_M} (h : jq_Rel σ1 σ2) (w1 : jq_wf jq_zX 132 σ1) (w2 : jq_wf jq_zM 18 σ2) (y1 : jq_lay jq_zX σ1) (y2 : jq_lay jq_zM σ2) {p1 : Int} (hp1 : jq_r p1) : ∃ (r : Int) (σ1' σ2' : jq_M), X10_withdraw p1 σ1 = some (r, σ1') ∧ X11_withdraw p1 σ2 = some (r, σ2') ∧ jq_Rel σ1' σ2' := by
  have hK : pu_K σ1 (σ1 0 7) σ2 := ⟨h.2.2.1.1, h.2.2.1.2.1⟩
  have hD := h.2.2.1.2.2.2.2
  obtain ⟨⟨i0, i1, i2, i3, i4, i5, i6, ip, iq, iw, ia⟩, ⟨⟨c0, c1, c2, c3, c4, c5, c6⟩, cp, cw, ca⟩, cN, cS⟩ := h.2.2.1
  unfold X10_withdraw X11_withdraw
  by_cases hp : 0 ≤ p1 ∧ p1 < σ2 1 3
  · obtain ⟨a0, a1⟩ := hp
    have hn1 : ¬ ¬ (0 ≤ p1 ∧ p1 < σ2 1 3) := fun q => q ⟨a0, a1⟩
    simp only [pu_lt, ps_isArticle (pu_cA h), c4, Option.bind_some, pu_i_0, if_neg hn1, pm_isArticle, pm_isAgreed a0 (show p1 < 8 by omega)]
    by_cases g : σ2 1 (102 + 5 * p1) = 1
    · obtain ⟨r, τ1, τ2, e1, e2, k1, k2, k3, hr, k4⟩ := pa_fall hK a0 a1 g
      rw [if_neg (fun z => z g), e1, e2, pu_b2, pu_b2, if_neg (by omega)]
      exact pu_na h k1 k2 k3 (by omega) rfl rfl
    · have e1 : X1_letFall (σ1 0 7) p1 σ1 = some (0, σ1) := by
        unfold X1_letFall
        rw [ps_isAgreed hK.1 hK.2 a0 a1, Option.bind_some, pu_i_n g, if_pos rfl]
      rw [if_pos g, e1, pu_b2, if_pos rfl]
      exact pu_no h rfl rfl
  · refine pu_no h (r := -1) (v := 1) ?_ ?_
    · simp only [pu_lt, ps_isArticle (pu_cA h), c4, Option.bind_some, pu_i_0, if_pos hp, ps_refuse, pu_b2]
    · simp only [pm_isArticle, Option.bind_some, pu_i_0, if_pos hp, pm_refuse, pu_b2]
/-- the end of a call that changes one number that both sides keep -/
theorem pu_n1 (h : jq_Rel σ1 σ2) {k d e j w w' : Int} (hk : k = 1 ∧ d = 0 ∨ d = 2 ∨ d = 7) (he : pu_dynj e) (he4 : e ≠ 4) (hI : pu_inv (jq_st σ2 1 e w' 1)) (hC : pu_RC (jq_st σ1 (σ1 0 7 + d) j w) (σ1 0 7) (jq_st σ2 1 e w' 1)) (h1 : a = some (r, jq_st (jq_st σ1 (σ1 0 7 + d) j w) 0 0 v)) (h2 : b = some (r, jq_st (jq_st σ2 1 e w') 0 2 v)) : ∃ (r : Int) (σ1' σ2' : jq_M), a = some (r, σ1') ∧ b = some (r, σ2') ∧ jq_Rel σ1' σ2' := by
  have hn : σ1 0 7 = 5 ∨ σ1 0 7 = 25 := by have := h.2.1; omega
  refine ⟨r, _, _, h1, h2, pu_end h (fun k a b c => pu_st_ne (by omega)) (fun j _ => by rw [pu_st_ne (by omega)]) (fun k hk => pu_st_ne (by omega)) (fun j a b => pu_st_b (by unfold pu_dynj at he; omega)) (fun j a b => by rw [pu_st_ne (by omega)]) (fun j _ => by rw [pu_st_ne (by omega)]) ?_⟩
  refine h.2.2.1.act hI hC (fun j a b c => pu_st_b (fun q => c (by rw [q]; exact he))) (fun k hk => pu_st_ne (by omega)) (fun j a b => by rw [pu_st_ne (by omega)]) ?_
  rw [pu_st_b (fun q => he4 q.symm)]
  exact h.2.2.1.2.2.2.2
theorem pr_insist {σ1 σ2 : jq_M} (h : jq_Rel σ1 σ2) (w1 : jq_wf jq_zX 132 σ1) (w2 : jq_wf jq_zM 18 σ2) (y1 : jq_lay jq_zX σ1) (y2 : jq_lay jq_zM σ2) {p1 p2 : Int} (hp1 : jq_r p1) (hp2 : jq_r p2) : ∃ (r : Int) (σ1' σ2' : jq_M), X10_insist p1 p2 σ1 = some (r, σ1') ∧ X11_insist p1 p2 σ2 = some (r, σ2') ∧ jq_Rel σ1' σ2' := by
  obtain ⟨⟨i0, i1, i2, i3, i4, i5, i6, ip, iq, iw, ia⟩, ⟨⟨c0, c1, c2, c3, c4, c5, c6⟩, cp, cw, ca⟩, cN, cS⟩ := h.2.2.1
  unfold X10_insist X11_insist
  by_cases hp : (0 ≤ p1 ∧ p1 < σ2 1 1) ∧ 0 ≤ p2 ∧ p2 ≤ 50
  · obtain ⟨⟨a0, a1⟩, b0, b1⟩ := hp
    have hn1 : ¬ ¬ (0 ≤ p1 ∧ p1 < σ2 1 1) := fun q => q ⟨a0, a1⟩
    have hn2 : ¬ ¬ (0 ≤ p2 ∧ p2 ≤ 50) := fun q => q ⟨b0, b1⟩
    refine pu_n1 h (k := 0) (d := 2) (e := 8 + 2 * p1) (j := p1) (w := p2) (w' := p2) (r := 1) (v := 0) (Or.inr (Or.inl rfl)) (by unfold pu_dynj; omega) (by omega) ?_ ?_ ?_ ?_
    · unfold pu_inv
      rw [pu_st_b (by omega), pu_st_b (by omega), pu_st_b (by omega), pu_st_b (by omega), pu_st_b (by omega), pu_st_b (by omega), pu_st_b (by omega)]
      refine ⟨i0, i1, i2, i3, i4, i5, i6, fun p a b => ?_, fun p q a b c => ?_, fun k a b => ?_, fun k a b => ?_⟩
      · rw [pu_st_b (show 9 + 2 * p ≠ 8 + 2 * p1 by omega)]
        by_cases z : p = p1
        · rw [z, pu_st_a, ← z]; exact ⟨b0, b1, (ip p a b).2.2⟩
        · rw [pu_st_b (by omega)]; exact ip p a b
      · rw [pu_st_b (by omega), pu_st_b (by omega)]; exact iq p q a b c
      · rw [pu_st_b (by omega), pu_st_b (by omega), pu_st_b (by omega), pu_st_b (by omega)]; exact iw k a b
      · rw [pu_st_b (by omega), pu_st_b (by omega), pu_st_b (by omega), pu_st_b (by omega), pu_st_b (by omega)]; exact ia k a b
    · unfold pu_RC
      rw [pu_ag_cg (A := σ2 1) (pu_st_b (by omega)) (fun a x y => pu_st_b (by omega)), pu_st_ne (show σ1 0 7 ≠ σ1 0 7 + 2 by omega), pu_st_ne (show σ1 0 7 + 3 ≠ σ1 0 7 + 2 by omega), pu_st_ne (show σ1 0 7 + 4 ≠ σ1 0 7 + 2 by omega), pu_st_ne (show σ1 0 7 + 5 ≠ σ1 0 7 + 2 by omega), pu_st_ne (show σ1 0 7 + 6 ≠ σ1 0 7 + 2 by omega), pu_st_ne (show σ1 0 7 + 7 ≠ σ1 0 7 + 2 by omega), pu_st_ne (show σ1 0 7 + 9 ≠ σ1 0 7 + 2 by omega), pu_st_ne (show σ1 0 7 + 10 ≠ σ1 0 7 + 2 by omega), pu_st_ne (show σ1 0 7 + 11 ≠ σ1 0 7 + 2 by omega), pu_st_ne (show σ1 0 7 + 12 ≠ σ1 0 7 + 2 by omega), pu_st_b (show (0 : Int) ≠ 8 + 2 * p1 by omega), pu_st_b (show (1 : Int) ≠ 8 + 2 * p1 by omega), pu_st_b (show (2 : Int) ≠ 8 + 2 * p1 by omega), pu_st_b (show (3 : Int) ≠ 8 + 2 * p1 by omega), pu_st_b (show (4 : Int) ≠ 8 + 2 * p1 by omega), pu_st_b (show (5 : Int) ≠ 8 + 2 * p1 by omega)]
      refine ⟨⟨c0, c1, c2, c3, c4, c5, c6⟩, fun p a b => ?_, fun k a b => ?_, fun k a b => ?_⟩
      · rw [pu_st_b (show 9 + 2 * p ≠ 8 + 2 * p1 by omega)]
        by_cases z : p = p1
        · rw [z, pu_st_a, pu_st_a, ← z]; exact ⟨rfl, (cp p a b).2⟩
        · rw [pu_st_b z, pu_st_b (by omega)]; exact cp p a b
      · rw [pu_st_b (by omega), pu_st_b (by omega), pu_st_b (by omega), pu_st_b (by omega)]; exact cw k a b
      · rw [pu_st_b (by omega), pu_st_b (by omega), pu_st_b (by omega), pu_st_b (by omega)]; exact ca k a b
    · simp only [pu_lt, ps_isParty (pu_cP h), ps_within, c2, Option.bind_some, pu_i_0, if_neg hn1, if_neg hn2, pu_sa a0 (show p1 < 5 by omega), ps_grant, pu_b2]
    · simp only [pm_isParty, pm_isFrom, Option.bind_some, pu_i_0, if_neg hn1, if_neg hn2, pm_partyRow a0 (show p1 < 5 by omega), pu_sa (show 0 ≤ 8 + 2 * p1 by omega) (show 8 + 2 * p1 < 3174 by omega), pm_is, pu_b2]
      rfl
  · refine pu_no h (r := 0) (v := 1) ?_ ?_
    · simp only [pu_lt, ps_isParty (pu_cP h), ps_within, c2, Option.bind_some, pu_i_0, X10_insist_j21, ps_deny, pu_b2]
      by_cases q : 0 ≤ p1 ∧ p1 < σ2 1 1
      · rw [if_neg (fun z => z q), if_pos (fun z => hp ⟨q, z⟩)]
      · rw [if_pos q]
    · simp only [pm_isParty, pm_isFrom, Option.bind_some, pu_i_0, X11_insist_j20, pm_is, pu_b2]
      by_cases q : 0 ≤ p1 ∧ p1 < σ2 1 1
      · rw [if_neg (fun z => z q), if_pos (fun z => hp ⟨q, z⟩)]; rfl
      · rw [if_pos q]; rfl
theorem pr_value {σ1 σ2 : jq_M} (h : jq_Rel σ1 σ2) (w1 : jq_wf jq_zX 132 σ1) (w2 : jq_wf jq_zM 18 σ2) (y1 : jq_lay jq_zX σ1) (y2 : jq_lay jq_zM σ2) {p1 p2 : Int} (hp1 : jq_r p1) (hp2 : jq_r p2) : ∃ (r : Int) (σ1' σ2' : jq_M), X10_value p1 p2 σ1 = some (r, σ1') ∧ X11_value p1 p2 σ2 = some (r, σ2') ∧ jq_Rel σ1' σ2' := by
  obtain ⟨⟨i0, i1, i2, i3, i4, i5, i6, ip, iq, iw, ia⟩, ⟨⟨c0, c1, c2, c3, c4, c5, c6⟩, cp, cw, ca⟩, cN, cS⟩ := h.2.2.1
  unfold X10_value X11_value
  by_cases hp : (0 ≤ p1 ∧ p1 < σ2 1 2) ∧ (-9 ≤ p2 ∧ p2 ≤ 9) ∧ p2 ≠ 0
  · obtain ⟨⟨a0, a1⟩, ⟨b0, b1⟩, b2⟩ := hp
    have hn1 : ¬ ¬ (0 ≤ p1 ∧ p1 < σ2 1 2) := fun q => q ⟨a0, a1⟩
    have hn2 : ¬ ¬ (-9 ≤ p2 ∧ p2 ≤ 9) := fun q => q ⟨b0, b1⟩
    refine pu_n1 h (k := 0) (d := 7) (e := 21 + 4 * p1) (j := p1) (w := p2) (w' := p2) (r := 1) (v := 0) (Or.inr (Or.inr rfl)) (by unfold pu_dynj; omega) (by omega) ?_ ?_ ?_ ?_
    · unfold pu_inv
      rw [pu_st_b (by omega), pu_st_b (by omega), pu_st_b (by omega), pu_st_b (by omega), pu_st_b (by omega), pu_st_b (by omega), pu_st_b (by omega)]
      refine ⟨i0, i1, i2, i3, i4, i5, i6, fun p a b => ?_, fun p q a b c => ?_, fun k a b => ?_, fun k a b => ?_⟩
      · rw [pu_st_b (by omega), pu_st_b (by omega)]; exact ip p a b
      · rw [pu_st_b (by omega), pu_st_b (by omega)]; exact iq p q a b c
      · rw [pu_st_b (show 18 + 4 * k ≠ 21 + 4 * p1 by omega), pu_st_b (show 19 + 4 * k ≠ 21 + 4 * p1 by omega), pu_st_b (show 20 + 4 * k ≠ 21 + 4 * p1 by omega)]
        obtain ⟨e1, e2, e3, e4, e5, e6⟩ := iw k a b
        refine ⟨e1, e2, e3, e4, ?_⟩
        by_cases z : k = p1
        · rw [z, pu_st_a]; exact ⟨b0, b1⟩
        · rw [pu_st_b (by omega)]; exact ⟨e5, e6⟩
      · rw [pu_st_b (by omega), pu_st_b (by omega), pu_st_b (by omega), pu_st_b (by omega), pu_st_b (by omega)]; exact ia k a b
    · unfold pu_RC
      rw [pu_ag_cg (A := σ2 1) (pu_st_b (by omega)) (fun a x y => pu_st_b (by omega)), pu_st_ne (show σ1 0 7 ≠ σ1 0 7 + 7 by omega), pu_st_ne (show σ1 0 7 + 2 ≠ σ1 0 7 + 7 by omega), pu_st_ne (show σ1 0 7 + 3 ≠ σ1 0 7 + 7 by omega), pu_st_ne (show σ1 0 7 + 4 ≠ σ1 0 7 + 7 by omega), pu_st_ne (show σ1 0 7 + 5 ≠ σ1 0 7 + 7 by omega), pu_st_ne (show σ1 0 7 + 6 ≠ σ1 0 7 + 7 by omega), pu_st_ne (show σ1 0 7 + 9 ≠ σ1 0 7 + 7 by omega), pu_st_ne (show σ1 0 7 + 10 ≠ σ1 0 7 + 7 by omega), pu_st_ne (show σ1 0 7 + 11 ≠ σ1 0 7 + 7 by omega), pu_st_ne (show σ1 0 7 + 12 ≠ σ1 0 7 + 7 by omega), pu_st_b (show (0 : Int) ≠ 21 + 4 * p1 by omega), pu_st_b (show (1 : Int) ≠ 21 + 4 * p1 by omega), pu_st_b (show (2 : Int) ≠ 21 + 4 * p1 by omega), pu_st_b (show (3 : Int) ≠ 21 + 4 * p1 by omega), pu_st_b (show (4 : Int) ≠ 21 + 4 * p1 by omega), pu_st_b (show (5 : Int) ≠ 21 + 4 * p1 by omega)]
      refine ⟨⟨c0, c1, c2, c3, c4, c5, c6⟩, fun p a b => ?_, fun k a b => ?_, fun k a b => ?_⟩
      · rw [pu_st_b (by omega), pu_st_b (by omega)]; exact cp p a b
      · rw [pu_st_b (show 18 + 4 * k ≠ 21 + 4 * p1 by omega), pu_st_b (show 19 + 4 * k ≠ 21 + 4 * p1 by omega), pu_st_b (show 20 + 4 * k ≠ 21 + 4 * p1 by omega)]
        obtain ⟨e1, e2, e3, e4⟩ := cw k a b
        refine ⟨e1, e2, e3, ?_⟩
        by_cases z : k = p1
        · rw [z, pu_st_a, pu_st_a]
        · rw [pu_st_b z, pu_st_b (by omega)]; exact e4
      · rw [pu_st_b (by omega), pu_st_b (by omega), pu_st_b (by omega), pu_st_b (by omega)]; exact ca k a b
    · simp only [pu_lt, ps_isWish (pu_cW h), ps_within, c3, Option.bind_some, pu_i_0, if_neg hn1, if_neg hn2, if_neg b2, pu_sa a0 (show p1 < 20 by omega), ps_grant, pu_b2]
    · simp only [pm_isFrom, Option.bind_some, pu_i_0, if_neg (show ¬ p1 < 0 by omega), pu_ld (σ := σ2) (k := 1) (n := 3174) (i := 2) (by omega) (by omega), if_pos a1, if_neg hn2, if_neg b2, pm_wishRow a0 (show p1 < 20 by omega), pu_w (x := 18 + 4 * p1 + 3) (by omega) (by omega), show 18 + 4 * p1 + 3 = 21 + 4 * p1 by omega, pu_w (x := 21 + 4 * p1) (by omega) (by omega), pu_sa (show 0 ≤ 21 + 4 * p1 by omega) (show 21 + 4 * p1 < 3174 by omega), pm_is, pu_b2]
      rfl
  · refine pu_no h (r := 0) (v := 1) ?_ ?_
    · simp only [pu_lt, ps_isWish (pu_cW h), ps_within, c3, Option.bind_some, pu_i_0, X10_value_j26, ps_deny, pu_b2]
      by_cases q : 0 ≤ p1 ∧ p1 < σ2 1 2
      · rw [if_neg (fun z => z q)]
        by_cases q2 : p2 = 0
        · rw [if_pos q2]
        · rw [if_neg q2, if_pos (fun z => hp ⟨q, z, q2⟩)]
      · rw [if_pos q]
    · simp only [pm_isFrom, Option.bind_some, pu_i_0, X11_value_j32, pm_is, pu_b2, pu_ld (σ := σ2) (k := 1) (n := 3174) (i := 2) (by omega) (by omega)]
      by_cases q : p1 < 0
      · rw [if_pos q]; rfl
      · rw [if_neg q]
        by_cases q1 : p1 < σ2 1 2
        · rw [if_pos q1]
          by_cases q2 : -9 ≤ p2 ∧ p2 ≤ 9
          · rw [if_neg (fun z => z q2), if_pos (by
              by_cases z : p2 = 0
              · exact z
              · exact absurd ⟨⟨by omega, q1⟩, q2, z⟩ hp)]; rfl
          · rw [if_pos q2]; rfl
        · rw [if_neg q1]; rfl
theorem pr_carve {σ1 σ2 : jq_M} (h : jq_Rel σ1 σ2) (w1 : jq_wf jq_zX 132 σ1) (w2 : jq_wf jq_zM 18 σ2) (y1 : jq_lay jq_zX σ1) (y2 : jq_lay jq_zM σ2) {p1 p2 : Int} (hp1 : jq_r p1) (hp2 : p2 = 0 ∨ p2 = 1) : ∃ (r : Int) (σ1' σ2' : jq_M), X10_carve p1 p2 σ1 = some (r, σ1') ∧ X11_carve p1 p2 σ2 = some (r, σ2') ∧ jq_Rel σ1' σ2' := by
  obtain ⟨⟨i0, i1, i2, i3, i4, i5, i6, ip, iq, iw, ia⟩, ⟨⟨c0, c1, c2, c3, c4, c5, c6⟩, cp, cw, ca⟩, cN, cS⟩ := h.2.2.1
  unfold X10_carve X11_carve
  by_cases hp : 0 ≤ p1 ∧ p1 < σ2 1 0
  · have hn1 : ¬ ¬ (0 ≤ p1 ∧ p1 < σ2 1 0) := fun q => q hp
    obtain ⟨a0, a1⟩ := hp
    have ib : X1_isCorner (σ1 0 7) p1 σ1 = some (pu_i (jq_and (jq_shr (σ2 1 5) p1) 1 = 1)) := by
      unfold X1_isCorner
      rw [ps_holds, Option.bind_some, c1]
    simp only [pu_lt, ps_isPlace, c0, Option.bind_some, pu_i_0, if_neg hn1, pm_isPlace, ib, pu_ld (σ := σ2) (k := 1) (n := 3174) (i := 5) (by omega) (by omega), pm_isIn, pu_sa (σ := σ2) (k := 1) (n := 3174) (i := 5) (by omega) (by omega), c1, ps_deny, ps_grant, pu_b2, pm_is]
    by_cases g : pu_i (jq_and (jq_shr (σ2 1 5) p1) 1 = 1) = p2
    · rw [if_pos g, if_pos g]
      exact pu_no h rfl rfl
    · rw [if_neg g, if_neg g]
      obtain ⟨s, hs⟩ : ∃ s : Nat, σ2 1 5 = (s : Int) := ⟨(σ2 1 5).toNat, by omega⟩
      have s64 : s < 64 := by omega
      have h2 : (2 : Nat) ^ p1.toNat < 64 := Nat.lt_of_le_of_lt (Nat.pow_le_pow_right (by decide) (show p1.toNat ≤ 5 by omega)) (by decide)
      have hx : jq_xor (σ2 1 5) (jq_shl 1 p1) = ((s ^^^ 2 ^ p1.toNat : Nat) : Int) := by
        rw [hs, pu_shl1_i a0 (by omega), pu_xor (by omega) (by omega)]
      have hx2 : s ^^^ 2 ^ p1.toNat < 64 := Nat.xor_lt_two_pow (n := 6) s64 h2
      rw [hx]
      have e0 : σ1 0 7 + 0 = σ1 0 7 := by omega
      refine pu_n1 h (k := 1) (d := 0) (e := 5) (j := 1) (w := ((s ^^^ 2 ^ p1.toNat : Nat) : Int)) (w' := ((s ^^^ 2 ^ p1.toNat : Nat) : Int)) (r := 1) (v := 0) (Or.inl ⟨rfl, rfl⟩) (by unfold pu_dynj; omega) (by omega) ?_ ?_ (by rw [e0]) rfl
      · unfold pu_inv
        rw [pu_st_b (by omega), pu_st_b (by omega), pu_st_b (by omega), pu_st_b (by omega), pu_st_b (by omega), pu_st_a, pu_st_b (by omega)]
        refine ⟨i0, i1, i2, i3, i4, by omega, i6, fun p a b => ?_, fun p q a b c => ?_, fun k a b => ?_, fun k a b => ?_⟩
        · rw [pu_st_b (by omega), pu_st_b (by omega)]; exact ip p a b
        · rw [pu_st_b (by omega), pu_st_b (by omega)]; exact iq p q a b c
        · rw [pu_st_b (by omega), pu_st_b (by omega), pu_st_b (by omega), pu_st_b (by omega)]; exact iw k a b
        · rw [pu_st_b (by omega), pu_st_b (by omega), pu_st_b (by omega), pu_st_b (by omega), pu_st_b (by omega)]; exact ia k a b
      · rw [e0]
        unfold pu_RC
        rw [pu_ag_cg (A := σ2 1) (pu_st_b (by omega)) (fun a x y => pu_st_b (by omega)), pu_st_ne (show σ1 0 7 + 2 ≠ σ1 0 7 by omega), pu_st_ne (show σ1 0 7 + 3 ≠ σ1 0 7 by omega), pu_st_ne (show σ1 0 7 + 4 ≠ σ1 0 7 by omega), pu_st_ne (show σ1 0 7 + 5 ≠ σ1 0 7 by omega), pu_st_ne (show σ1 0 7 + 6 ≠ σ1 0 7 by omega), pu_st_ne (show σ1 0 7 + 7 ≠ σ1 0 7 by omega), pu_st_ne (show σ1 0 7 + 9 ≠ σ1 0 7 by omega), pu_st_ne (show σ1 0 7 + 10 ≠ σ1 0 7 by omega), pu_st_ne (show σ1 0 7 + 11 ≠ σ1 0 7 by omega), pu_st_ne (show σ1 0 7 + 12 ≠ σ1 0 7 by omega), pu_st_b (show (0 : Int) ≠ 1 by omega), pu_st_b (show (0 : Int) ≠ 5 by omega), pu_st_b (show (1 : Int) ≠ 5 by omega), pu_st_b (show (2 : Int) ≠ 5 by omega), pu_st_b (show (3 : Int) ≠ 5 by omega), pu_st_b (show (4 : Int) ≠ 5 by omega), pu_st_a, pu_st_a, pu_st_b (show (2 : Int) ≠ 1 by omega), pu_st_b (show (3 : Int) ≠ 1 by omega), pu_st_b (show (4 : Int) ≠ 1 by omega), pu_st_b (show (5 : Int) ≠ 1 by omega), pu_st_b (show (6 : Int) ≠ 1 by omega)]
        refine ⟨⟨c0, rfl, c2, c3, c4, c5, c6⟩, fun p a b => ?_, fun k a b => ?_, fun k a b => ?_⟩
        · rw [pu_st_b (by omega), pu_st_b (by omega)]; exact cp p a b
        · rw [pu_st_b (by omega), pu_st_b (by omega), pu_st_b (by omega), pu_st_b (by omega)]; exact cw k a b
        · rw [pu_st_b (by omega), pu_st_b (by omega), pu_st_b (by omega), pu_st_b (by omega)]; exact ca k a b
  · refine pu_no h (r := 0) (v := 1) ?_ ?_
    · simp only [pu_lt, ps_isPlace, c0, Option.bind_some, pu_i_0, if_pos hp, ps_deny, pu_b2]
    · simp only [pm_isPlace, Option.bind_some, pu_i_0, if_pos hp, pm_is, pu_b2]
      rfl
end
