section
variable {T : Int → Int} {L e x y v n l s : Int} {m m1 m2 m3 σ σ1 σ2 τ τ1 τ2 : jq_M} {o f k i : Int}
/-- one part, whichever -/
theorem pa_part (ho : o = 5 ∨ o = 25) (hl : pu_lv T L m1 m2) (hb : pu_bd o m1 m2) (hk : m1 2 5 ≠ 0) (i0 : 0 ≤ i) (i9 : i < 900) : ∃ τ1 τ2 g, X2_readAll_b6 o (i, m1) = some (.inl (i + 1, τ1)) ∧ X11_committeePart m2 = some (g, τ2) ∧ pu_g1 o m1 τ1 ∧ pu_g2 m2 τ2 ∧ (g = 1 ∧ pu_lv T L τ1 τ2 ∧ pu_bd o τ1 τ2 ∧ m1 2 6 < τ1 2 6 ∨ g = 0 ∧ pu_dd T L τ1 τ2) := by
  obtain ⟨-, -, -, -, -, -, -, -, -, -, -, -, t1, t2, -⟩ := pu_tk_p hl.1
  have i0' := hb.1.1
  have g : X5_goesOn m1 = some 1 := by
    unfold X5_goesOn
    rw [if_pos hl.2.1, if_neg hk]
  have wi : jq_w (i + 1) = i + 1 := pu_w (by omega) (by omega)
  unfold X2_readAll_b6 X11_committeePart
  dsimp only
  rw [if_pos i9, g, Option.bind_some, if_neg (show ¬ ((1 : Int) = 0) by decide), wi, pm_inWords hl.1, Option.bind_some]
  have fin : ∀ (c : Option jq_M) (r : Option (Int × jq_M)), pu_IT o T L m1 m2 c r → ∃ τ1 τ2 g, (c.bind fun s6 => jq_lt (i + 1) fun v7 => (some (.inl (v7, s6)) : Option ((Int × jq_M) ⊕ jq_M))) = some (.inl (i + 1, τ1)) ∧ r = some (g, τ2) ∧ pu_g1 o m1 τ1 ∧ pu_g2 m2 τ2 ∧ (g = 1 ∧ pu_lv T L τ1 τ2 ∧ pu_bd o τ1 τ2 ∧ m1 2 6 < τ1 2 6 ∨ g = 0 ∧ pu_dd T L τ1 τ2) := fun c r ⟨τ1, τ2, g, h1, h2, h3, h4, h5⟩ => by
    rw [h1]
    exact ⟨τ1, τ2, g, rfl, h2, h3, h4, h5⟩
  have bad : pu_IT o T L m1 m2 (X5_blame 2 m1) (X11_committeePart_j37 m2) := by
    obtain ⟨u1, u2, a1, a2, a3, a4, a5⟩ := pa_blame (f := 2) hl (by decide)
    unfold X11_committeePart_j37
    rw [a1, a2]
    exact ⟨u1, u2, 0, rfl, rfl, pu_g1_o a4, pu_g2_o a5, Or.inr ⟨rfl, a3⟩⟩
  have big : ∀ r : Int, 5 < r → (if r < 0 then X11_committeePart_j37 m2 else if 5 < r then X11_committeePart_j37 m2 else if r = 1 then X11_committeePart_j26 r m2 else if r = 2 then X11_committeePart_j26 r m2 else X11_committeePart_j43 r m2) = X11_committeePart_j37 m2 := fun r h => by
    rw [if_neg (by omega), if_pos h]
  by_cases z0 : m1 2 11 = 0
  · rw [if_pos z0, show pu_ri (m1 2 11) = 0 by rw [z0]; rfl, if_neg (show ¬ (0 : Int) < 0 by decide), if_neg (show ¬ (5 : Int) < 0 by decide), if_neg (show ¬ (0 : Int) = 1 by decide), if_neg (show ¬ (0 : Int) = 2 by decide)]
    exact fin _ _ (pa_places ho hl hb)
  by_cases z1 : m1 2 11 = 1
  · rw [if_neg z0, if_pos z1, show pu_ri (m1 2 11) = 1 by rw [z1]; rfl, if_neg (show ¬ (1 : Int) < 0 by decide), if_neg (show ¬ (5 : Int) < 1 by decide), if_pos rfl]
    exact fin _ _ (pa_corner ho hl hb)
  by_cases z2 : m1 2 11 = 2
  · rw [if_neg z0, if_neg z1, if_pos z2, show pu_ri (m1 2 11) = 2 by rw [z2]; rfl, if_neg (show ¬ (2 : Int) < 0 by decide), if_neg (show ¬ (5 : Int) < 2 by decide), if_neg (show ¬ (2 : Int) = 1 by decide), if_pos rfl]
    exact fin _ _ (pa_party ho hl hb hk)
  by_cases z3 : m1 2 11 = 3
  · rw [if_neg z0, if_neg z1, if_neg z2, if_pos z3, big _ (by rw [z3]; decide)]
    exact fin _ _ bad
  by_cases z4 : m1 2 11 = 4
  · rw [if_neg z0, if_neg z1, if_neg z2, if_neg z3, if_pos z4, big _ (by rw [z4]; decide)]
    exact fin _ _ bad
  by_cases z5 : m1 2 11 = 5
  · rw [if_neg z0, if_neg z1, if_neg z2, if_neg z3, if_neg z4, if_pos z5, show pu_ri (m1 2 11) = 3 by rw [z5]; rfl, if_neg (show ¬ (3 : Int) < 0 by decide), if_neg (show ¬ (5 : Int) < 3 by decide), if_neg (show ¬ (3 : Int) = 1 by decide), if_neg (show ¬ (3 : Int) = 2 by decide)]
    unfold X11_committeePart_j43
    rw [if_neg (show ¬ (3 : Int) = 0 by decide), if_neg (show ¬ (3 : Int) = 1 by decide), if_neg (show ¬ (3 : Int) = 2 by decide), if_pos rfl]
    exact fin _ _ (pa_wish ho hl hb hk (Or.inl ⟨rfl, rfl⟩))
  by_cases z6 : m1 2 11 = 6
  · rw [if_neg z0, if_neg z1, if_neg z2, if_neg z3, if_neg z4, if_neg z5, if_pos z6, show pu_ri (m1 2 11) = 4 by rw [z6]; rfl, if_neg (show ¬ (4 : Int) < 0 by decide), if_neg (show ¬ (5 : Int) < 4 by decide), if_neg (show ¬ (4 : Int) = 1 by decide), if_neg (show ¬ (4 : Int) = 2 by decide)]
    unfold X11_committeePart_j43
    rw [if_neg (show ¬ (4 : Int) = 0 by decide), if_neg (show ¬ (4 : Int) = 1 by decide), if_neg (show ¬ (4 : Int) = 2 by decide), if_neg (show ¬ (4 : Int) = 3 by decide), if_pos rfl]
    exact fin _ _ (pa_wish ho hl hb hk (Or.inr ⟨rfl, rfl⟩))
  by_cases z7 : m1 2 11 = 7
  · rw [if_neg z0, if_neg z1, if_neg z2, if_neg z3, if_neg z4, if_neg z5, if_neg z6, if_pos z7, big _ (by rw [z7]; decide)]
    exact fin _ _ bad
  by_cases z8 : m1 2 11 = 8
  · rw [if_neg z0, if_neg z1, if_neg z2, if_neg z3, if_neg z4, if_neg z5, if_neg z6, if_neg z7, if_pos z8, big _ (by rw [z8]; decide)]
    exact fin _ _ bad
  by_cases z9 : m1 2 11 = 9
  · rw [if_neg z0, if_neg z1, if_neg z2, if_neg z3, if_neg z4, if_neg z5, if_neg z6, if_neg z7, if_neg z8, if_pos z9, big _ (by rw [z9]; decide)]
    exact fin _ _ bad
  by_cases z10 : m1 2 11 = 10
  · rw [if_neg z0, if_neg z1, if_neg z2, if_neg z3, if_neg z4, if_neg z5, if_neg z6, if_neg z7, if_neg z8, if_neg z9, if_pos z10, show pu_ri (m1 2 11) = 5 by rw [z10]; rfl, if_neg (show ¬ (5 : Int) < 0 by decide), if_neg (show ¬ (5 : Int) < 5 by decide), if_neg (show ¬ (5 : Int) = 1 by decide), if_neg (show ¬ (5 : Int) = 2 by decide)]
    unfold X11_committeePart_j43
    rw [if_neg (show ¬ (5 : Int) = 0 by decide), if_neg (show ¬ (5 : Int) = 1 by decide), if_neg (show ¬ (5 : Int) = 2 by decide), if_neg (show ¬ (5 : Int) = 3 by decide), if_neg (show ¬ (5 : Int) = 4 by decide)]
    exact fin _ _ (pa_article ho hl hb hk)
  · rw [if_neg z0, if_neg z1, if_neg z2, if_neg z3, if_neg z4, if_neg z5, if_neg z6, if_neg z7, if_neg z8, if_neg z9, if_neg z10]
    by_cases zz : m1 2 11 = -1
    · rw [zz, show pu_ri (-1) = -1 from rfl, if_pos (show (-1 : Int) < 0 by decide)]
      exact fin _ _ bad
    · have rl : ∀ j : Nat, j < 28 → 10 < j → 5 < pu_rl.getD j 0 := by decide +kernel
      have := rl (m1 2 11).toNat (by omega) (by omega)
      rw [big _ (by unfold pu_ri; rw [if_neg (by omega)]; omega)]
      exact fin _ _ bad
theorem ps_readd (hl : pu_dd T L m1 m2) : jq_lp (X2_readAll_b6 o) (i, m1) = some m1 := by
  refine jq_lp_inr ?_
  have g : X5_goesOn m1 = some 0 := by
    unfold X5_goesOn
    rw [if_neg hl.2.2.1]
  unfold X2_readAll_b6
  dsimp only
  rw [g, Option.bind_some, if_pos rfl]
  split <;> rfl
theorem pa_parts (ho : o = 5 ∨ o = 25) : ∀ (D : Nat) (m1 m2 : jq_M) (i : Int), pu_lv T L m1 m2 → pu_bd o m1 m2 → L - m1 2 6 ≤ (D : Int) → 0 ≤ i → i ≤ m1 2 6 → ∃ τ1 τ2, jq_lp (X2_readAll_b6 o) (i, m1) = some τ1 ∧ jq_lp X11_committee_b26 (1, m2) = some τ2 ∧ pu_g1 o m1 τ1 ∧ pu_g2 m2 τ2 ∧ (pu_lv T L τ1 τ2 ∧ pu_bd o τ1 τ2 ∨ pu_dd T L τ1 τ2) := by
  intro D
  induction D with
  | zero =>
    intro m1 m2 i hl hb hD i0 i1
    obtain ⟨p0, p1, p2, p3, -, -, p6, -⟩ := pu_tk_p hl.1
    have k0 : m1 2 5 = 0 := by
      apply Classical.byContradiction
      intro g
      have := p3 g
      clear p6
      omega
    refine ⟨m1, m2, jq_lp_inr ?_, jq_lp_inr ?_, pu_g1_r, pu_g2_r, Or.inl ⟨hl, hb⟩⟩
    · have g : X5_goesOn m1 = some 0 := by
        unfold X5_goesOn
        rw [if_pos hl.2.1, if_pos k0]
      unfold X2_readAll_b6
      dsimp only
      rw [g, Option.bind_some, if_pos rfl]
      split <;> rfl
    · unfold X11_committee_b26
      dsimp only
      rw [if_neg (show ¬ ((1 : Int) = 0) by decide), if_pos (p6.mp k0)]
  | succ D ih =>
    intro m1 m2 i hl hb hD i0 i1
    obtain ⟨p0, p1, p2, p3, -, -, p6, -⟩ := pu_tk_p hl.1
    by_cases k0 : m1 2 5 = 0
    · refine ⟨m1, m2, jq_lp_inr ?_, jq_lp_inr ?_, pu_g1_r, pu_g2_r, Or.inl ⟨hl, hb⟩⟩
      · have g : X5_goesOn m1 = some 0 := by
          unfold X5_goesOn
          rw [if_pos hl.2.1, if_pos k0]
        unfold X2_readAll_b6
        dsimp only
        rw [g, Option.bind_some, if_pos rfl]
        split <;> rfl
      · unfold X11_committee_b26
        dsimp only
        rw [if_neg (show ¬ ((1 : Int) = 0) by decide), if_pos (p6.mp k0)]
    · have L9 := hl.1.1.2.1
      have st := p3 k0
      have k2 : ¬ m2 0 12 = 0 := fun g => k0 (p6.mpr g)
      clear p6
      obtain ⟨u1, u2, g, a1, a2, a3, a4, a5⟩ := pa_part (i := i) ho hl hb k0 i0 (by omega)
      have b1 : X11_committee_b26 (1, m2) = some (.inl (g, u2)) := by
        unfold X11_committee_b26
        dsimp only
        rw [if_neg (show ¬ ((1 : Int) = 0) by decide), if_neg k2, a2]
        rfl
      rcases a5 with ⟨rfl, c1, c2, c3⟩ | ⟨rfl, c1⟩
      · obtain ⟨τ1, τ2, d1, d2, d3, d4, d5⟩ := ih u1 u2 (i + 1) c1 c2 (by omega) (by omega) (by omega)
        exact ⟨τ1, τ2, (jq_lp_inl a1).trans d1, (jq_lp_inl b1).trans d2, pu_g1_t a3 d3, pu_g2_t a4 d4, d5⟩
      · refine ⟨u1, u2, (jq_lp_inl a1).trans (ps_readd c1), (jq_lp_inl b1).trans (jq_lp_inr ?_), a3, a4, Or.inr c1⟩
        unfold X11_committee_b26
        dsimp only
        rw [if_pos rfl]
end
