section
variable {T : Int → Int} {L e x y v n l s O t : Int} {b1 b2 m m1 m2 m3 σ σ1 σ2 τ τ1 τ2 F1 F2 : jq_M} {o f k i to W lo hi D : Int}
theorem ps_sreadd (hl : pu_dd T L m1 m2) : jq_lp (X6_readAll_b11 o 45) (i, m1) = some m1 := by
  refine jq_lp_inr ?_
  have g : X5_goesOn m1 = some 0 := by
    unfold X5_goesOn
    rw [if_neg hl.2.2.1]
  unfold X6_readAll_b11
  dsimp only
  rw [g, Option.bind_some, if_pos rfl]
  split <;> rfl
theorem pa_steps : ∀ (D : Nat) (m1 m2 : jq_M) (i : Int), pu_lv T L m1 m2 → pu_cf o m1 m2 → pu_sl m1 m2 → L - m1 2 6 ≤ (D : Int) → 0 ≤ i → i ≤ m1 2 6 → ∃ τ1 τ2, jq_lp (X6_readAll_b11 o 45) (i, m1) = some τ1 ∧ jq_lp X11_sessions_b38 (1, m2) = some τ2 ∧ pu_h1 m1 τ1 ∧ pu_h2 m2 τ2 ∧ (pu_lv T L τ1 τ2 ∧ pu_sl τ1 τ2 ∨ pu_dd T L τ1 τ2) := by
  have endd : ∀ (m1 m2 : jq_M) (i : Int), pu_lv T L m1 m2 → m1 2 5 = 0 → pu_sl m1 m2 → ∃ τ1 τ2, jq_lp (X6_readAll_b11 o 45) (i, m1) = some τ1 ∧ jq_lp X11_sessions_b38 (1, m2) = some τ2 ∧ pu_h1 m1 τ1 ∧ pu_h2 m2 τ2 ∧ (pu_lv T L τ1 τ2 ∧ pu_sl τ1 τ2 ∨ pu_dd T L τ1 τ2) := fun m1 m2 i hl k0 hs => by
    obtain ⟨p0, p1, p2, p3, -, -, p6, -⟩ := pu_tk_p hl.1
    refine ⟨m1, m2, jq_lp_inr ?_, jq_lp_inr ?_, pu_h1_r, pu_h2_r, Or.inl ⟨hl, hs⟩⟩
    · have g : X5_goesOn m1 = some 0 := by
        unfold X5_goesOn
        rw [if_pos hl.2.1, if_pos k0]
      unfold X6_readAll_b11
      dsimp only
      rw [g, Option.bind_some, if_pos rfl]
      split <;> rfl
    · unfold X11_sessions_b38
      dsimp only
      rw [if_neg (show ¬ ((1 : Int) = 0) by decide), if_pos (p6.mp k0)]
  intro D
  induction D with
  | zero =>
    intro m1 m2 i hl hc hs hD i0 i1
    obtain ⟨p0, p1, p2, p3, -, -, p6, -⟩ := pu_tk_p hl.1
    have k0 : m1 2 5 = 0 := by
      apply Classical.byContradiction
      intro g
      have := p3 g
      clear p6
      omega
    exact endd m1 m2 i hl k0 hs
  | succ D ih =>
    intro m1 m2 i hl hc hs hD i0 i1
    obtain ⟨p0, p1, p2, p3, -, -, p6, -⟩ := pu_tk_p hl.1
    by_cases k0 : m1 2 5 = 0
    · exact endd m1 m2 i hl k0 hs
    · have L9 := hl.1.1.2.1
      have st := p3 k0
      have k2 : ¬ m2 0 12 = 0 := fun g => k0 (p6.mpr g)
      clear p6
      obtain ⟨u1, u2, g, a1, a2, a3, a4, a5⟩ := pa_sstep (i := i) hl hc hs k0 i0 (by omega)
      have b1 : X11_sessions_b38 (1, m2) = some (.inl (g, u2)) := by
        unfold X11_sessions_b38
        dsimp only
        rw [if_neg (show ¬ ((1 : Int) = 0) by decide), if_neg k2, a2]
        rfl
      rcases a5 with ⟨rfl, c1, c2, c3⟩ | ⟨rfl, c1⟩
      · obtain ⟨τ1, τ2, d1, d2, d3, d4, d5⟩ := ih u1 u2 (i + 1) c1 (pu_cf_h hc a3 a4) c2 (by omega) (by omega) (by omega)
        exact ⟨τ1, τ2, (jq_lp_inl a1).trans d1, (jq_lp_inl b1).trans d2, pu_h1_t a3 d3, pu_h2_t a4 d4, d5⟩
      · refine ⟨u1, u2, (jq_lp_inl a1).trans (ps_sreadd c1), (jq_lp_inl b1).trans (jq_lp_inr ?_), a3, a4, Or.inr c1⟩
        unfold X11_sessions_b38
        dsimp only
        rw [if_pos rfl]
/-- what a reading of sessions may leave behind -/
theorem pu_RelD (h : jq_Rel σ1 σ2) (a1 : ∀ k, k = 3 ∨ k = 4 ∨ 62 ≤ k → F1 k = σ1 k) (a2 : ∀ j, j ≠ 0 → j ≠ 5 → j ≠ 6 → F1 0 j = σ1 0 j) (a3 : F1 2 2 = 0) (b1 : ∀ k, k ≠ 0 → k ≠ 1 → k ≠ 7 → k ≠ 8 → F2 k = σ2 k) (b2 : ∀ j, 506 ≤ j → j < 2024 → F2 1 j = σ2 1 j) (b4 : ∀ j, j = 3 ∨ j = 4 ∨ j = 35 ∨ j = 36 → F2 0 j = σ2 0 j) (b5 : F2 0 10 = 0) (e1 : F1 0 0 = F2 0 2) (e2 : F1 0 5 = F2 0 16) (e3 : F1 0 6 = F2 0 17) (hC : pu_CM F1 (σ1 0 7) (F2 1) (F2 2)) : jq_Rel F1 F2 := by
  obtain ⟨⟨g0, g1, g2, g3, g4⟩, gn, gC, ⟨m1, m2, m3, m4⟩, hT, ⟨t1, t2, t3, t4⟩, ⟨l1, l2⟩, hK⟩ := h
  unfold jq_Rel
  rw [b4 3 (by omega), b4 4 (by omega), b4 35 (by omega), b4 36 (by omega), a2 1 (by omega) (by omega) (by omega), a2 2 (by omega) (by omega) (by omega), a2 7 (by omega) (by omega) (by omega), a2 8 (by omega) (by omega) (by omega), a2 11 (by omega) (by omega) (by omega), a2 16 (by omega) (by omega) (by omega), b1 3 (by omega) (by omega) (by omega) (by omega), b1 4 (by omega) (by omega) (by omega) (by omega), b1 5 (by omega) (by omega) (by omega) (by omega), b1 6 (by omega) (by omega) (by omega) (by omega), b1 17 (by omega) (by omega) (by omega) (by omega), a1 62 (by omega), a1 3 (by omega), a1 4 (by omega)]
  refine ⟨⟨e1, g1, g2, e2, e3⟩, gn, hC, ⟨m1, m2, m3, fun i i0 i1 => ?_⟩, fun t t0 t1 => ?_, ⟨by omega, by omega, by omega, fun j x y => by omega⟩, ⟨l1, l2⟩, hK⟩
  · refine ((m4 i i0 i1).mv (fun k x y => a1 _ (by omega))).cg (fun j x y => ?_) (fun j x y => ?_)
    · exact b2 _ (by omega) (by omega)
    · rw [b1 2 (by omega) (by omega) (by omega) (by omega)]
  · rw [a1 (64 + 2 * t) (by omega), a1 (65 + 2 * t) (by omega)]
    exact hT t t0 t1
/-- the new sessions in the old committee -/
theorem pu_CM_s (hC : pu_CM σ1 o (σ2 1) (σ2 2)) (hs : pu_sl m1 m2) (hd : m1 45 8 = 0) (hm : ∀ j, j < 2024 → m2 1 j = σ2 1 j) (f1 : ∀ k, 0 ≤ k → k < 13 → F1 (o + k) = σ1 (o + k)) (g0 : F1 (o + 13) 0 = 1) (g2 : F1 (o + 13) 2 = m1 45 2) (g : ∀ d i, 1 ≤ d → d ≤ 4 → 0 ≤ i → i < 60 → F1 (o + 13 + d) i = m1 (45 + d) i) (b1 : ∀ j, j < 138 → j ≠ 6 → F2 1 j = σ2 1 j) (b6 : F2 1 6 = m1 45 2) (br : ∀ j, 138 ≤ j → j < 498 → F2 1 j = m2 1 (2024 + j)) (b2 : F2 2 = σ2 2) : pu_CM F1 o (F2 1) (F2 2) := by
  obtain ⟨hI, hR, hN, -, h4⟩ := hC
  obtain ⟨-, ⟨s4, s5, s6, s7⟩, -, -, k3, k4, -⟩ := hs
  have A : ∀ j, j < 138 → j ≠ 6 → F2 1 j = σ2 1 j := b1
  have f0 := f1 0 (by omega) (by omega)
  rw [Int.add_zero] at f0
  refine ⟨?_, ?_, ?_, ⟨Or.inr ⟨by omega, g0, by rw [g2, b6], fun n x y => ?_⟩, fun _ e1 e2 x y z u v => ?_⟩, by rw [A 4 (by decide) (by decide)]; exact h4⟩
  · obtain ⟨i0, i1, i2, i3, i4, i5, i6, i7, i8, i9, i10⟩ := hI
    refine ⟨?_, ?_, ?_, ?_, ?_, ?_, ?_, ?_, ?_, ?_, ?_⟩
    · rw [A 0 (by decide) (by decide)]; exact i0
    · rw [A 1 (by decide) (by decide), A 0 (by decide) (by decide)]; exact i1
    · rw [A 2 (by decide) (by decide)]; exact i2
    · rw [A 3 (by decide) (by decide)]; exact i3
    · rw [A 4 (by decide) (by decide)]; exact i4
    · rw [A 5 (by decide) (by decide)]; exact i5
    · rw [b6]; omega
    · rw [A 1 (by decide) (by decide), A 0 (by decide) (by decide)]; intro p p0 p1; rw [A _ (by omega) (by omega), A _ (by omega) (by omega)]; exact i7 p p0 p1
    · rw [A 1 (by decide) (by decide)]; intro p q p0 p1 p2; rw [A _ (by omega) (by omega), A _ (by omega) (by omega)]; exact i8 p q p0 p1 p2
    · rw [A 2 (by decide) (by decide), A 1 (by decide) (by decide)]
      intro k x y
      have := i9 k x y
      rw [A _ (by omega) (by omega), A _ (by omega) (by omega), A _ (by omega) (by omega), A _ (by omega) (by omega)]
      exact this
    · rw [A 3 (by decide) (by decide)]
      intro k x y
      have := i10 k x y
      rw [A _ (by omega) (by omega), A _ (by omega) (by omega), A _ (by omega) (by omega), A _ (by omega) (by omega), A _ (by omega) (by omega)]
      exact this
  · obtain ⟨⟨r0, r1, r2, r3, r4, r5, r6⟩, rp, rw', ra⟩ := hR
    obtain ⟨i0, i1, i2, i3, i4, i5, i6, i7, i8, i9, i10⟩ := hI
    have ag : pu_ag (F2 1) = pu_ag (σ2 1) := pu_ag_cg (A 3 (by decide) (by decide)) (fun a x y => A _ (by omega) (by omega))
    unfold pu_RC
    rw [f0, f1 2 (by omega) (by omega), f1 3 (by omega) (by omega), f1 4 (by omega) (by omega), f1 5 (by omega) (by omega), f1 6 (by omega) (by omega), f1 7 (by omega) (by omega), f1 9 (by omega) (by omega), f1 10 (by omega) (by omega), f1 11 (by omega) (by omega), f1 12 (by omega) (by omega), ag, A 0 (by decide) (by decide), A 1 (by decide) (by decide), A 2 (by decide) (by decide), A 3 (by decide) (by decide), A 4 (by decide) (by decide), A 5 (by decide) (by decide)]
    refine ⟨⟨r0, r1, r2, r3, r4, r5, r6⟩, fun p x y => ?_, fun k x y => ?_, fun k x y => ?_⟩
    · rw [A _ (by omega) (by omega), A _ (by omega) (by omega)]; exact rp p x y
    · have := rw' k x y
      rw [A _ (by omega) (by omega), A _ (by omega) (by omega), A _ (by omega) (by omega), A _ (by omega) (by omega)]
      exact this
    · have := ra k x y
      rw [A _ (by omega) (by omega), A _ (by omega) (by omega), A _ (by omega) (by omega), A _ (by omega) (by omega)]
      exact this
  · unfold pu_RN at hN ⊢
    rw [f1 1 (by omega) (by omega), f1 8 (by omega) (by omega), A 1 (by decide) (by decide), A 3 (by decide) (by decide), b2]
    exact hN
  · rw [b6] at y ⊢
    have w : ∀ i, 0 ≤ i → i < 60 → F1 (o + 14) i = m1 46 i := fun i a b => by have := g 1 i (by decide) (by decide) a b; rw [show o + 13 + 1 = o + 14 by omega] at this; exact this
    have w15 : ∀ i, 0 ≤ i → i < 60 → F1 (o + 15) i = m1 47 i := fun i a b => by have := g 2 i (by decide) (by decide) a b; rw [show o + 13 + 2 = o + 15 by omega] at this; exact this
    have w16 : ∀ i, 0 ≤ i → i < 60 → F1 (o + 16) i = m1 48 i := fun i a b => by have := g 3 i (by decide) (by decide) a b; rw [show o + 13 + 3 = o + 16 by omega] at this; exact this
    have w17 : ∀ i, 0 ≤ i → i < 60 → F1 (o + 17) i = m1 49 i := fun i a b => by have := g 4 i (by decide) (by decide) a b; rw [show o + 13 + 4 = o + 17 by omega] at this; exact this
    rw [w n x (by omega), w15 n x (by omega), w16 n x (by omega), w17 n x (by omega)]
    rcases k3 n x y with q | ⟨-, -, j, q3, q4, -⟩
    · refine pu_line_mv q (Int.le_refl _) ?_ ?_ ?_ (fun c a b => ?_) y (fun _ a b d => ?_) (fun _ a b => ?_) x
      · rw [pu_hy_l (by decide), A 0 (by decide) (by decide)]; exact (hm 0 (by decide)).symm
      · rw [pu_hy_l (by decide), A 1 (by decide) (by decide)]; exact (hm 1 (by decide)).symm
      · rw [pu_hy_l (by decide), A 3 (by decide) (by decide)]; exact (hm 3 (by decide)).symm
      · rw [pu_hy_r (by omega)]; exact br _ (by omega) (by omega)
      · rw [w _ a (by omega), w17 _ a (by omega)]; exact ⟨d, rfl⟩
      · rw [w _ a (by omega)]
    · omega
  · rw [b6] at z
    have w : ∀ i, 0 ≤ i → i < 60 → F1 (o + 14) i = m1 46 i := fun i a b => by have := g 1 i (by decide) (by decide) a b; rw [show o + 13 + 1 = o + 14 by omega] at this; exact this
    have w17 : ∀ i, 0 ≤ i → i < 60 → F1 (o + 17) i = m1 49 i := fun i a b => by have := g 4 i (by decide) (by decide) a b; rw [show o + 13 + 4 = o + 17 by omega] at this; exact this
    rw [w e1 x (by omega)] at u
    rw [w e2 (by omega) (by omega)] at v
    rw [w17 e1 x (by omega), w17 e2 (by omega) (by omega)]
    exact k4 e1 e2 x y z u v
end
