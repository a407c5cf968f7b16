section
variable {T : Int → Int} {L e x v n l s a c d : Int} {b1 b2 m m1 m2 m3 σ τ τ1 τ2 : jq_M} {o f k lo hi to base cnt p1 p2 : Int} {A B N : Int → Int} {w : List Int}
/-- the party, the article that stands here -/
theorem pa_partyHere (hl : pu_lv T L m1 m2) (hc : m1 o 2 = cnt) (c0 : 0 ≤ cnt) (c5 : cnt ≤ 5) (b0 : 0 ≤ base) (b6 : base ≤ 60) (hN : ∀ p, 0 ≤ p → p < cnt → pu_nm (m1 (o + 1) p) (m2 2 (base + p))) : (m1 2 10 = 1 ∧ ∃ v, 0 ≤ v ∧ v < cnt ∧ X5_partyHere o m1 = some (v, m1) ∧ X11_findHere base cnt m2 = some v) ∨ (m1 2 10 = 1 ∧ X11_findHere base cnt m2 = some (-1) ∧ ∀ τ1, X5_blame 3 m1 = some τ1 → pu_dd T L τ1 τ1 ∨ X5_hasFault τ1 = some 1 → X5_partyHere o m1 = some (0, τ1)) ∨ (m1 2 10 = 0 ∧ ∀ τ1, X5_blame 2 m1 = some τ1 → X5_hasFault τ1 = some 1 → X5_partyHere o m1 = some (0, τ1)) := by
  obtain ⟨-, -, -, -, -, -, -, -, -, -, -, -, -, -, q1⟩ := pu_tk_p hl.1
  have cp := ps_partyNamed (σ := m1) (x := m1 2 9) (o := o) (by omega) (by omega)
  have ph : X5_partyHere o m1 = (X1_partyNamed o (m1 2 9) m1).bind fun v1 => (X5_blameUnlessNamed v1 m1).bind fun s2 => (X5_hasFault s2).bind fun v3 => if v3 = 0 then some (v1, s2) else some (0, s2) := rfl
  by_cases z : m1 2 10 = 0
  · refine Or.inr (Or.inr ⟨z, fun τ1 h1 h2 => ?_⟩)
    rw [ph, cp, Option.bind_some]
    unfold X5_blameUnlessNamed
    rw [pu_lt, if_pos z, h1, Option.bind_some, Option.bind_some, h2]
    rfl
  · obtain ⟨w, w1, w2, w3⟩ := pm_nameHere hl.1 (by omega)
    have fp := pm_findHere (σ := m2) (base := base) (n := cnt) w3 b0 c0 (by omega)
    rw [hc, w2, pu_who_nm (N := fun k => m2 2 (base + k)) w1 _ (fun p x y => hN p x (by omega))] at cp
    by_cases y : pu_who (fun k => m2 2 (base + k)) (pu_c8 w) cnt.toNat = -1
    · refine Or.inr (Or.inl ⟨by omega, by rw [fp, y], fun τ1 h1 h2 => ?_⟩)
      have h3 : X5_hasFault τ1 = some 1 := by
        rcases h2 with h2 | h2
        · exact ps_faultd h2
        · exact h2
      rw [ph, w2, cp, Option.bind_some, y]
      unfold X5_blameUnlessNamed
      rw [pu_lt, if_neg z, if_pos rfl, h1, Option.bind_some, Option.bind_some, h3]
      rfl
    · refine Or.inl ⟨by omega, _, ?_, ?_, ?_, fp⟩
      · rcases pu_who_s (S := fun k => m2 2 (base + k)) (x := pu_c8 w) cnt.toNat with g | g <;> omega
      · rcases pu_who_s (S := fun k => m2 2 (base + k)) (x := pu_c8 w) cnt.toNat with g | g <;> omega
      · rw [ph, w2, cp, Option.bind_some]
        unfold X5_blameUnlessNamed
        rw [pu_lt, if_neg z, if_neg y, Option.bind_some, ps_faultl hl]
        rfl
theorem pa_articleHere (hl : pu_lv T L m1 m2) (hc : m1 o 4 = cnt) (c0 : 0 ≤ cnt) (c5 : cnt ≤ 8) (b0 : 0 ≤ base) (b6 : base ≤ 60) (hN : ∀ p, 0 ≤ p → p < cnt → pu_nm (m1 (o + 8) p) (m2 2 (base + p))) : (m1 2 10 = 1 ∧ ∃ v, 0 ≤ v ∧ v < cnt ∧ X5_articleHere o m1 = some (v, m1) ∧ X11_findHere base cnt m2 = some v) ∨ (m1 2 10 = 1 ∧ X11_findHere base cnt m2 = some (-1) ∧ ∀ τ1, X5_blame 3 m1 = some τ1 → X5_hasFault τ1 = some 1 → X5_articleHere o m1 = some (0, τ1)) ∨ (m1 2 10 = 0 ∧ ∀ τ1, X5_blame 2 m1 = some τ1 → X5_hasFault τ1 = some 1 → X5_articleHere o m1 = some (0, τ1)) := by
  obtain ⟨-, -, -, -, -, -, -, -, -, -, -, -, -, -, q1⟩ := pu_tk_p hl.1
  have cp := ps_articleNamed (σ := m1) (x := m1 2 9) (o := o) (by omega) (by omega)
  have ph : X5_articleHere o m1 = (X1_articleNamed o (m1 2 9) m1).bind fun v1 => (X5_blameUnlessNamed v1 m1).bind fun s2 => (X5_hasFault s2).bind fun v3 => if v3 = 0 then some (v1, s2) else some (0, s2) := rfl
  by_cases z : m1 2 10 = 0
  · refine Or.inr (Or.inr ⟨z, fun τ1 h1 h2 => ?_⟩)
    rw [ph, cp, Option.bind_some]
    unfold X5_blameUnlessNamed
    rw [pu_lt, if_pos z, h1, Option.bind_some, Option.bind_some, h2]
    rfl
  · obtain ⟨w, w1, w2, w3⟩ := pm_nameHere hl.1 (by omega)
    have fp := pm_findHere (σ := m2) (base := base) (n := cnt) w3 b0 c0 (by omega)
    rw [hc, w2, pu_who_nm (N := fun k => m2 2 (base + k)) w1 _ (fun p x y => hN p x (by omega))] at cp
    by_cases y : pu_who (fun k => m2 2 (base + k)) (pu_c8 w) cnt.toNat = -1
    · refine Or.inr (Or.inl ⟨by omega, by rw [fp, y], fun τ1 h1 h3 => ?_⟩)
      rw [ph, w2, cp, Option.bind_some, y]
      unfold X5_blameUnlessNamed
      rw [pu_lt, if_neg z, if_pos rfl, h1, Option.bind_some, Option.bind_some, h3]
      rfl
    · refine Or.inl ⟨by omega, _, ?_, ?_, ?_, fp⟩
      · rcases pu_who_s (S := fun k => m2 2 (base + k)) (x := pu_c8 w) cnt.toNat with g | g <;> omega
      · rcases pu_who_s (S := fun k => m2 2 (base + k)) (x := pu_c8 w) cnt.toNat with g | g <;> omega
      · rw [ph, w2, cp, Option.bind_some]
        unfold X5_blameUnlessNamed
        rw [pu_lt, if_neg z, if_neg y, Option.bind_some, ps_faultl hl]
        rfl
theorem ps_partyHered (hl : pu_dd T L m1 m2) (h2 : 0 ≤ m1 o 2 ∧ m1 o 2 ≤ 5) : X5_partyHere o m1 = some (0, m1) := by
  unfold X5_partyHere X5_blameUnlessNamed
  rw [ps_partyNamed h2.1 h2.2, Option.bind_some, pu_lt, ps_blamed hl, ps_blamed hl, Option.bind_some]
  have : (if m1 2 10 = 0 then some m1 else if pu_who (m1 (o + 1)) (m1 2 9) (m1 o 2).toNat = -1 then some m1 else some m1) = some m1 := by
    split
    · rfl
    · split <;> rfl
  rw [this, Option.bind_some, ps_faultd hl, Option.bind_some, if_neg (show ¬ ((1 : Int) = 0) by decide)]
theorem ps_articleHered (hl : pu_dd T L m1 m2) (h2 : 0 ≤ m1 o 4 ∧ m1 o 4 ≤ 8) : X5_articleHere o m1 = some (0, m1) := by
  unfold X5_articleHere X5_blameUnlessNamed
  rw [ps_articleNamed h2.1 h2.2, Option.bind_some, pu_lt, ps_blamed hl, ps_blamed hl, Option.bind_some]
  have : (if m1 2 10 = 0 then some m1 else if pu_who (m1 (o + 8)) (m1 2 9) (m1 o 4).toNat = -1 then some m1 else some m1) = some m1 := by
    split
    · rfl
    · split <;> rfl
  rw [this, Option.bind_some, ps_faultd hl, Option.bind_some, if_neg (show ¬ ((1 : Int) = 0) by decide)]
/-- a party, taken -/
theorem pm_partyTo (h : 0 ≤ m2 1 2025) : X11_partyTo to m2 = X11_oldOne 52 (m2 1 2025) to m2 := by
  unfold X11_partyTo X11_oldOne
  rw [pu_ld (σ := m2) (k := 1) (by omega) (by omega), Option.bind_some]
theorem pm_oldOne (hl : pu_lv T L m1 m2) (h10 : m1 2 10 = 1) (hf : X11_findHere base cnt m2 = some v) (v0 : 0 ≤ v) (t0 : 0 ≤ to) (t1 : to < 3174) : X11_oldOne base cnt to m2 = (X11_ahead (jq_st m2 1 to v)).bind fun s6 => some (1, s6) := by
  unfold X11_oldOne
  rw [pm_isName hl.1, Option.bind_some, h10, if_neg (show ¬ ((1 : Int) = 0) by decide), hf, Option.bind_some, pu_sa t0 t1, Option.bind_some, pu_ld t0 t1, Option.bind_some, pu_st_a, if_neg (by omega)]
theorem pm_oldOne3 (hl : pu_lv T L m1 m2) (h10 : m1 2 10 = 1) (hf : X11_findHere base cnt m2 = some (-1)) (t0 : 0 ≤ to) (t1 : to < 3174) : X11_oldOne base cnt to m2 = jq_b2 (X11_fails 3 (jq_st m2 1 to (-1))) fun v s => some (v, s) := by
  unfold X11_oldOne
  rw [pm_isName hl.1, Option.bind_some, h10, if_neg (show ¬ ((1 : Int) = 0) by decide), hf, Option.bind_some, pu_sa t0 t1, Option.bind_some, pu_ld t0 t1, Option.bind_some, pu_st_a, if_pos rfl]
theorem pm_oldOne2 (hl : pu_lv T L m1 m2) (h10 : m1 2 10 = 0) : X11_oldOne base cnt to m2 = jq_b2 (X11_fails 2 m2) fun v s => some (v, s) := by
  unfold X11_oldOne
  rw [pm_isName hl.1, Option.bind_some, h10, if_pos rfl]
/-- taken and gone on: the class's party against the reference's cell -/
def pu_tko (T : Int → Int) (L : Int) (m1 m2 τ1 τ2 : jq_M) (to cnt v g : Int) : Prop := pu_rr T L m1 m2 τ1 τ2 g ∧ (g = 1 → 0 ≤ v ∧ v < cnt ∧ pu_o0 (jq_st m2 1 to v) τ2) ∧ (g = 0 → v = 0 ∧ ∃ y, pu_o0 (jq_st m2 1 to y) τ2)
theorem pa_takeParty (hl : pu_lv T L m1 m2) (hc : m1 o 2 = cnt) (c0 : 0 ≤ cnt) (c5 : cnt ≤ 5) (b0 : 0 ≤ base) (b6 : base ≤ 60) (hN : ∀ p, 0 ≤ p → p < cnt → pu_nm (m1 (o + 1) p) (m2 2 (base + p))) (t0 : 0 ≤ to) (t1 : to < 3174) : ∃ v τ1 τ2 g, X5_takeParty o m1 = some (v, τ1) ∧ X11_oldOne base cnt to m2 = some (g, τ2) ∧ pu_o2 m1 τ1 ∧ pu_tko T L m1 m2 τ1 τ2 to cnt v g := by
  obtain ⟨-, -, -, -, -, -, -, -, -, -, -, -, -, -, q1⟩ := pu_tk_p hl.1
  unfold X5_takeParty
  have lv : ∀ y, pu_lv T L m1 (jq_st m2 1 to y) := fun y => hl.mv rfl rfl rfl (pu_st_ne (by omega)) (pu_st_ne (by omega))
  rcases pa_partyHere hl hc c0 c5 b0 b6 hN with ⟨h1, v, h2, h3, h4, h5⟩ | ⟨h1, h2, h3⟩ | ⟨h1, h2⟩
  · obtain ⟨k1, k2, f1, f2, f3, f4, f5, f6, f7⟩ := pa_adv (lv v)
    rw [h4, pu_b2, f1, pm_oldOne hl h1 h5 h2 t0 t1, f2]
    exact ⟨v, k1, k2, 1, rfl, rfl, f4, Or.inl ⟨rfl, f3, f7 (by omega)⟩, fun _ => ⟨h2, h3, f5⟩, fun q => absurd q (by decide)⟩
  · obtain ⟨k1, k2, d1, d2, d3, d4, d5⟩ := pa_blame (f := 3) (lv (-1)) (by decide)
    obtain ⟨ω, f1, f2, f3⟩ := ps_nextd d3
    rw [h3 k1 d1 (Or.inr (ps_faultd d3)), pu_b2, f1, pm_oldOne3 hl h1 h2 t0 t1, d2]
    exact ⟨0, ω, k2, 0, rfl, rfl, pu_o2_t d4 f3, Or.inr ⟨rfl, f2⟩, fun q => absurd q (by decide), fun _ => ⟨rfl, -1, d5⟩⟩
  · obtain ⟨k1, k2, d1, d2, d3, d4, d5⟩ := pa_blame (f := 2) hl (by decide)
    obtain ⟨ω, f1, f2, f3⟩ := ps_nextd d3
    rw [h2 k1 d1 (ps_faultd d3), pu_b2, f1, pm_oldOne2 hl h1, d2]
    refine ⟨0, ω, k2, 0, rfl, rfl, pu_o2_t d4 f3, Or.inr ⟨rfl, f2⟩, fun q => absurd q (by decide), fun _ => ⟨rfl, m2 1 to, ?_⟩⟩
    have : jq_st m2 1 to (m2 1 to) = m2 := by
      funext i j
      unfold jq_st
      split
      · rename_i h
        rw [h.1, h.2]
      · rfl
    rw [this]
    exact d5
theorem ps_takePartyd (hl : pu_dd T L m1 m2) (h2 : 0 ≤ m1 o 2 ∧ m1 o 2 ≤ 5) : ∃ τ, X5_takeParty o m1 = some (0, τ) ∧ pu_dd T L τ m2 ∧ pu_o2 m1 τ := by
  obtain ⟨ω, f1, f2, f3⟩ := ps_nextd hl
  unfold X5_takeParty
  rw [ps_partyHered hl h2, pu_b2, f1]
  exact ⟨ω, rfl, f2, f3⟩
end
