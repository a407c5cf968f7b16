section
variable {σ1 σ2 : jq_M}
theorem pr_status (h : jq_Rel σ1 σ2) (w1 : jq_wf jq_zX 132 σ1) (w2 : jq_wf jq_zM 18 σ2) (y1 : jq_lay jq_zX σ1) (y2 : jq_lay jq_zM σ2) : ∃ r : Int, X10_status σ1 = some r ∧ X11_status σ2 = some r :=
  ⟨σ1 0 0, rfl, by rw [h.1.1]; rfl⟩
theorem pr_top (h : jq_Rel σ1 σ2) (w1 : jq_wf jq_zX 132 σ1) (w2 : jq_wf jq_zM 18 σ2) (y1 : jq_lay jq_zX σ1) (y2 : jq_lay jq_zM σ2) : ∃ r : Int, X10_top σ1 = some r ∧ X11_top σ2 = some r :=
  ⟨σ1 0 1, rfl, by rw [h.1.2.1]; rfl⟩
theorem pr_bottom (h : jq_Rel σ1 σ2) (w1 : jq_wf jq_zX 132 σ1) (w2 : jq_wf jq_zM 18 σ2) (y1 : jq_lay jq_zX σ1) (y2 : jq_lay jq_zM σ2) : ∃ r : Int, X10_bottom σ1 = some r ∧ X11_bottom σ2 = some r :=
  ⟨σ1 0 2, rfl, by rw [h.1.2.2.1]; rfl⟩
theorem pr_fault (h : jq_Rel σ1 σ2) (w1 : jq_wf jq_zX 132 σ1) (w2 : jq_wf jq_zM 18 σ2) (y1 : jq_lay jq_zX σ1) (y2 : jq_lay jq_zM σ2) {p1 : Int} (hp1 : jq_r p1) : ∃ r : Int, X10_fault p1 σ1 = some r ∧ X11_fault p1 σ2 = some r := by
  unfold X10_fault X11_fault
  rw [h.1.2.2.2.1, h.1.2.2.2.2]
  by_cases a : p1 = 0
  · exact ⟨_, if_pos a, if_pos a⟩
  · by_cases b : p1 = 1
    · exact ⟨_, (if_neg a).trans (if_pos b), (if_neg a).trans (if_pos b)⟩
    · exact ⟨_, (if_neg a).trans (if_neg b), (if_neg a).trans (if_neg b)⟩
theorem pu_no (h : jq_Rel σ1 σ2) {r v : Int} {a b : Option (Int × jq_M)} (h1 : a = some (r, jq_st σ1 0 0 v)) (h2 : b = some (r, jq_st σ2 0 2 v)) : ∃ (r : Int) (σ1' σ2' : jq_M), a = some (r, σ1') ∧ b = some (r, σ2') ∧ jq_Rel σ1' σ2' :=
  ⟨r, _, _, h1, h2, pu_fin h (pu_fr1_r _) (pu_fr2_r _)⟩
theorem pr_least (h : jq_Rel σ1 σ2) (w1 : jq_wf jq_zX 132 σ1) (w2 : jq_wf jq_zM 18 σ2) (y1 : jq_lay jq_zX σ1) (y2 : jq_lay jq_zM σ2) {p1 : Int} (hp1 : jq_r p1) : ∃ (r : Int) (σ1' σ2' : jq_M), X10_least p1 σ1 = some (r, σ1') ∧ X11_least p1 σ2 = some (r, σ2') ∧ jq_Rel σ1' σ2' := by
  obtain ⟨⟨i0, i1, i2, i3, i4, i5, i6, ip, iq, iw, ia⟩, ⟨⟨c0, c1, c2, c3, c4, c5, c6⟩, cp, cw, ca⟩, -⟩ := h.2.2.1
  unfold X10_least X11_least
  simp only [pu_lt, ps_isParty (pu_cP h), pm_isParty, Option.bind_some, pu_i_0, c2, ps_refuse, pm_refuse, ps_answer, pm_gives, pu_b2]
  by_cases hp : 0 ≤ p1 ∧ p1 < σ2 1 1
  · obtain ⟨hp0, hp1⟩ := hp
    refine pu_no h (r := σ2 1 (8 + 2 * p1)) (v := 0) ?_ ?_
    · rw [if_neg (by omega), pu_ld (by omega) (by omega), (cp p1 hp0 hp1).1]; rfl
    · rw [if_neg (by omega), pm_leastOf (by omega) (by omega)]; rfl
  · exact pu_no h (if_pos hp) (if_pos hp)
theorem pr_placeOf (h : jq_Rel σ1 σ2) (w1 : jq_wf jq_zX 132 σ1) (w2 : jq_wf jq_zM 18 σ2) (y1 : jq_lay jq_zX σ1) (y2 : jq_lay jq_zM σ2) {p1 : Int} (hp1 : jq_r p1) : ∃ (r : Int) (σ1' σ2' : jq_M), X10_placeOf p1 σ1 = some (r, σ1') ∧ X11_placeOf p1 σ2 = some (r, σ2') ∧ jq_Rel σ1' σ2' := by
  obtain ⟨⟨i0, i1, i2, i3, i4, i5, i6, ip, iq, iw, ia⟩, ⟨⟨c0, c1, c2, c3, c4, c5, c6⟩, cp, cw, ca⟩, -⟩ := h.2.2.1
  unfold X10_placeOf X11_placeOf
  simp only [pu_lt, ps_isParty (pu_cP h), pm_isParty, Option.bind_some, pu_i_0, c2, ps_refuse, pm_refuse, ps_answer, pm_gives, pu_b2]
  by_cases hp : 0 ≤ p1 ∧ p1 < σ2 1 1
  · obtain ⟨hp0, hp1⟩ := hp
    refine pu_no h (r := σ2 1 (9 + 2 * p1)) (v := if σ2 1 (9 + 2 * p1) = -1 then 6 else 0) ?_ ?_
    · rw [if_neg (by omega), pu_ld (by omega) (by omega), (cp p1 hp0 hp1).2, Option.bind_some, ps_orNone]; rfl
    · rw [if_neg (by omega), pm_seatOf (by omega) (by omega), Option.bind_some, pm_orNone]; rfl
  · exact pu_no h (if_pos hp) (if_pos hp)
theorem pr_wish (h : jq_Rel σ1 σ2) (w1 : jq_wf jq_zX 132 σ1) (w2 : jq_wf jq_zM 18 σ2) (y1 : jq_lay jq_zX σ1) (y2 : jq_lay jq_zM σ2) {p1 p2 : Int} (hp1 : jq_r p1) (hp2 : jq_r p2) : ∃ (r : Int) (σ1' σ2' : jq_M), X10_wish p1 p2 σ1 = some (r, σ1') ∧ X11_wish p1 p2 σ2 = some (r, σ2') ∧ jq_Rel σ1' σ2' := by
  obtain ⟨⟨i0, i1, i2, i3, i4, i5, i6, ip, iq, iw, ia⟩, ⟨⟨c0, c1, c2, c3, c4, c5, c6⟩, cp, cw, ca⟩, -⟩ := h.2.2.1
  by_cases hp : (0 ≤ p1 ∧ p1 < σ2 1 2) ∧ 0 ≤ p2 ∧ p2 ≤ 3
  · obtain ⟨⟨hq0, hq1⟩, hw0, hw1⟩ := hp
    obtain ⟨d1, d2, d3, d4⟩ := cw p1 hq0 hq1
    refine pu_no h (r := σ2 1 (18 + 4 * p1 + p2)) (v := if p2 = 2 ∧ σ2 1 (18 + 4 * p1 + p2) = -1 then 6 else 0) ?_ ?_
    · simp (disch := omega) only [X10_wish, pu_lt, pu_b2, ps_isWish (pu_cW h), ps_within, Option.bind_some, pu_i_0, c3, ps_refuse, ps_answer, ps_orNone, if_pos, if_neg, pu_ld, d1, d2, d3, d4]
      rcases (show p2 = 0 ∨ p2 = 1 ∨ p2 = 2 ∨ p2 = 3 by omega) with rfl | rfl | rfl | rfl
      · simp
      · simp [show 18 + 4 * p1 + 1 = 19 + 4 * p1 by omega]
      · simp [show 18 + 4 * p1 + 2 = 20 + 4 * p1 by omega]
      · simp [show 18 + 4 * p1 + 3 = 21 + 4 * p1 by omega]
    · simp (disch := omega) only [X11_wish, pu_lt, pu_b2, pm_wishRow, Option.bind_some, pm_refuse, pm_gives, pm_orNone, if_pos, if_neg, pu_ld, pu_w]
      by_cases q : p2 = 2
      · subst q; simp
      · simp [q]
  · refine pu_no h (r := -1) (v := 1) ?_ ?_
    · unfold X10_wish X10_wish_j20
      simp only [pu_lt, pu_b2, ps_isWish (pu_cW h), ps_within, Option.bind_some, pu_i_0, c3, ps_refuse]
      by_cases q : 0 ≤ p1 ∧ p1 < σ2 1 2
      · simp (disch := omega) only [if_pos, if_neg]
      · simp (disch := omega) only [if_pos, if_neg]
    · unfold X11_wish X11_wish_j23
      simp (disch := omega) only [pu_b2, Option.bind_some, pm_refuse, pu_ld]
      by_cases q : p1 < 0
      · rw [if_pos q]
      · by_cases q2 : p1 < σ2 1 2
        · by_cases q3 : p2 < 0
          · simp (disch := omega) only [if_pos, if_neg]
          · simp (disch := omega) only [if_pos, if_neg]
        · simp (disch := omega) only [if_pos, if_neg]
end
