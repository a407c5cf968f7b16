section
variable {σ σ1 σ2 τ1 τ2 : jq_M} {v a b : Int}
theorem pu_asm (h : jq_Rel σ1 σ2) (e : τ1 0 0 = τ2 0 2 ∧ τ1 0 1 = τ2 0 3 ∧ τ1 0 2 = τ2 0 4) (g1 : ∀ j, j = 5 ∨ j = 6 ∨ j = 7 ∨ j = 8 ∨ j = 16 → τ1 0 j = σ1 0 j) (g2 : ∀ j, j = 10 ∨ j = 16 ∨ j = 17 ∨ j = 35 → τ2 0 j = σ2 0 j) (f1 : ∀ k, k = 2 ∨ k = 3 ∨ k = 4 ∨ k = 62 ∨ 64 ≤ k ∧ k < 72 → τ1 k = σ1 k) (f2 : ∀ k, k = 3 ∨ k = 4 ∨ k = 5 ∨ k = 6 ∨ k = 17 → τ2 k = σ2 k) (hC : pu_CM τ1 (σ1 0 7) (τ2 1) (τ2 2))
    (hM : τ1 0 11 = τ2 0 36 ∧ 0 ≤ τ1 0 11 ∧ τ1 0 11 ≤ 3 ∧ ∀ i, 0 ≤ i → i < τ1 0 11 → pu_CM τ1 (72 + 20 * i) (fun j => τ2 1 (506 * (i + 1) + j)) (fun j => τ2 2 (13 * (i + 1) + j))) : jq_Rel τ1 τ2 := by
  obtain ⟨⟨e0, e1, e2, e3, e4⟩, hn, -, -, hT, ⟨t1, t2, t3, t4⟩, ⟨l1, l2⟩, hK⟩ := h
  unfold jq_Rel
  rw [g1 5 (by omega), g1 6 (by omega), g1 7 (by omega), g1 8 (by omega), g1 16 (by omega), g2 16 (by omega), g2 17 (by omega), g2 10 (by omega), g2 35 (by omega), f2 3 (by omega), f2 4 (by omega), f2 5 (by omega), f2 6 (by omega), f2 17 (by omega), f1 2 (by omega), f1 3 (by omega), f1 4 (by omega), f1 62 (by omega)]
  refine ⟨⟨e.1, e.2.1, e.2.2, e3, e4⟩, hn, hC, hM, fun t h0 h1 => ?_, ⟨t1, t2, t3, t4⟩, ⟨l1, l2⟩, hK⟩
  rw [f1 (64 + 2 * t) (by omega), f1 (65 + 2 * t) (by omega)]
  exact hT t h0 h1
theorem pm_copies (a0 : 0 ≤ a) (a1 : a ≤ 3) (b0 : 0 ≤ b) (b1 : b ≤ 3) (hab : a ≠ b) : ∃ τ, X11_copies a b σ = some τ ∧ (∀ k, k ≠ 1 → k ≠ 2 → τ k = σ k) ∧ (∀ j, 0 ≤ j → j < 506 → τ 1 (506 * b + j) = σ 1 (506 * a + j)) ∧ (∀ j, ¬ (506 * b ≤ j ∧ j < 506 * b + 506) → τ 1 j = σ 1 j) ∧ (∀ j, 0 ≤ j → j < 13 → τ 2 (13 * b + j) = σ 2 (13 * a + j)) ∧ ∀ j, ¬ (13 * b ≤ j ∧ j < 13 * b + 13) → τ 2 j = σ 2 j := by
  unfold X11_copies
  refine pu_lpE (f := X11_copies_b2 a b) (s := ((0 : Int), σ)) (fun i t => t.1 = (i : Int) ∧ (∀ k, k ≠ 1 → t.2 k = σ k) ∧ (∀ j, 0 ≤ j → j < t.1 → t.2 1 (506 * b + j) = σ 1 (506 * a + j)) ∧ ∀ j, ¬ (506 * b ≤ j ∧ j < 506 * b + 506) → t.2 1 j = σ 1 j) (fun τ => (∀ k, k ≠ 1 → τ k = σ k) ∧ (∀ j, 0 ≤ j → j < 506 → τ 1 (506 * b + j) = σ 1 (506 * a + j)) ∧ ∀ j, ¬ (506 * b ≤ j ∧ j < 506 * b + 506) → τ 1 j = σ 1 j) 506 ⟨rfl, fun _ _ => rfl, fun j x y => by dsimp only at y; omega, fun _ _ => rfl⟩ (fun i t ht hi => ?_) ?_
  · obtain ⟨t1, t2⟩ := t
    obtain ⟨hk, q1, q2, q3⟩ := ht
    dsimp only at hk q1 q2 q3
    have k0 : 0 ≤ t1 := by omega
    unfold X11_copies_b2
    dsimp only
    by_cases hl : t1 < 506
    · rw [if_pos hl, pu_w (x := 506 * a) (by omega) (by omega), pu_w (x := 506 * a + t1) (by omega) (by omega), pu_ld (by omega) (by omega), Option.bind_some, pu_w (x := 506 * b) (by omega) (by omega), pu_w (x := 506 * b + t1) (by omega) (by omega), pu_sa (by omega) (by omega), Option.bind_some]
      simp only [pu_lt]
      rw [pu_w (by omega) (by omega)]
      refine Or.inr ⟨by omega, _, rfl, by dsimp only; omega, fun k hk => (pu_st_ne hk).trans (q1 k hk), fun j x y => ?_, fun j hj => (pu_st_b (by omega)).trans (q3 j hj)⟩
      dsimp only at y ⊢
      by_cases z : j = t1
      · rw [z, pu_st_a, q3 (506 * a + t1) (by omega)]
      · rw [pu_st_b (by omega)]; exact q2 j x (by omega)
    · rw [if_neg hl]
      exact Or.inl ⟨_, rfl, q1, fun j x y => q2 j x (by omega), q3⟩
  · rintro e h1 ⟨g1, g2, g3⟩
    rw [h1, Option.bind_some]
    refine pu_lpE (f := X11_copies_b41 a b) (s := ((0 : Int), e)) (fun i t => t.1 = (i : Int) ∧ (∀ k, k ≠ 2 → t.2 k = e k) ∧ (∀ j, 0 ≤ j → j < t.1 → t.2 2 (13 * b + j) = e 2 (13 * a + j)) ∧ ∀ j, ¬ (13 * b ≤ j ∧ j < 13 * b + 13) → t.2 2 j = e 2 j) (fun τ => (∀ k, k ≠ 2 → τ k = e k) ∧ (∀ j, 0 ≤ j → j < 13 → τ 2 (13 * b + j) = e 2 (13 * a + j)) ∧ ∀ j, ¬ (13 * b ≤ j ∧ j < 13 * b + 13) → τ 2 j = e 2 j) 13 ⟨rfl, fun _ _ => rfl, fun j x y => by dsimp only at y; omega, fun _ _ => rfl⟩ (fun i t ht hi => ?_) ?_
    · obtain ⟨t1, t2⟩ := t
      obtain ⟨hk, q1, q2, q3⟩ := ht
      dsimp only at hk q1 q2 q3
      have k0 : 0 ≤ t1 := by omega
      unfold X11_copies_b41
      dsimp only
      by_cases hl : t1 < 13
      · rw [if_pos hl, pu_w (x := 13 * a) (by omega) (by omega), pu_w (x := 13 * a + t1) (by omega) (by omega), pu_ld (by omega) (by omega), Option.bind_some, pu_w (x := 13 * b) (by omega) (by omega), pu_w (x := 13 * b + t1) (by omega) (by omega), pu_sa (by omega) (by omega), Option.bind_some]
        simp only [pu_lt]
        rw [pu_w (by omega) (by omega)]
        refine Or.inr ⟨by omega, _, rfl, by dsimp only; omega, fun k hk => (pu_st_ne hk).trans (q1 k hk), fun j x y => ?_, fun j hj => (pu_st_b (by omega)).trans (q3 j hj)⟩
        dsimp only at y ⊢
        by_cases z : j = t1
        · rw [z, pu_st_a, q3 (13 * a + t1) (by omega)]
        · rw [pu_st_b (by omega)]; exact q2 j x (by omega)
      · rw [if_neg hl]
        exact Or.inl ⟨_, rfl, q1, fun j x y => q2 j x (by omega), q3⟩
    · rintro e' h2 ⟨f1, f2, f3⟩
      have n2 : e 2 = σ 2 := g1 2 (by omega)
      have n1 : e' 1 = e 1 := f1 1 (by omega)
      rw [n2] at f2 f3
      exact ⟨e', by rw [h2]; rfl, fun k x y => (f1 k y).trans (g1 k x), by rw [n1]; exact g2, by rw [n1]; exact g3, f2, f3⟩
theorem ps_keptAt {i : Int} (h0 : 0 ≤ i) (h1 : i < 3) : X10_keptAt i σ = some (72 + 20 * i) := by
  unfold X10_keptAt
  rw [if_neg (by omega), if_pos h1, pu_chk h0 h1]
  rfl
theorem ps_keptNo {i : Int} (h : ¬ (0 ≤ i ∧ i < 3)) : X10_keptAt i σ = some (-1) := by
  unfold X10_keptAt
  by_cases h1 : i < 0
  · rw [if_pos h1]
  · rw [if_neg h1, if_neg (by omega)]
theorem ps_cmnc {i : Int} (h0 : 0 ≤ i) (h1 : i < 3) : jq_cmnc (72 + 20 * i) = some (72 + 20 * i) := by
  unfold jq_cmnc
  rw [if_pos (by omega)]
theorem ps_cmncN : jq_cmnc (-1) = some (-1) := by
  unfold jq_cmnc
  rw [if_pos (Or.inl rfl)]
theorem pr_mark {σ1 σ2 : jq_M} (h : jq_Rel σ1 σ2) (w1 : jq_wf jq_zX 132 σ1) (w2 : jq_wf jq_zM 18 σ2) (y1 : jq_lay jq_zX σ1) (y2 : jq_lay jq_zM σ2) : ∃ (r : Int) (σ1' σ2' : jq_M), X10_mark σ1 = some (r, σ1') ∧ X11_mark σ2 = some (r, σ2') ∧ jq_Rel σ1' σ2' := by
  have h0 := h
  obtain ⟨⟨e0, e1, e2, e3, e4⟩, hn, hC, ⟨m1, m2, m3, m4⟩, hT, ⟨t1, t2, t3, t4⟩, ⟨l1, l2⟩, hK⟩ := h0
  unfold X10_mark X11_mark
  by_cases g : σ1 0 11 < 3
  · have hm : σ2 0 36 = σ1 0 11 := m1.symm
    rw [ps_keptAt m2 g, Option.bind_some, ps_cmnc m2 g, Option.bind_some, if_neg (show ¬ 72 + 20 * σ1 0 11 = -1 by omega), hm, if_neg (by omega), pu_lt, pu_lt, pu_w (by omega) (by omega), pu_st_a]
    obtain ⟨τ1, a1, a2, a3⟩ := ps_takeFrom (σ := σ1) (o := 72 + 20 * σ1 0 11) (p := σ1 0 7) (by omega)
    obtain ⟨τ2, b1, b2, b3, b4, b5, b6⟩ := pm_copies (σ := jq_st σ2 0 36 (σ1 0 11 + 1)) (a := 0) (b := σ1 0 11 + 1) (by omega) (by omega) (by omega) (by omega) (by omega)
    have z1 : τ1 0 = σ1 0 := a2 0 (by omega)
    have z2 : τ2 0 36 = σ1 0 11 + 1 := by rw [b2 0 (by omega) (by omega), pu_st_a]
    rw [a1, b1, Option.bind_some, Option.bind_some, pu_lt, z1, pu_w (by omega) (by omega), pu_st_a, z2, ps_answer, pm_gives, pu_b2, pu_b2]
    refine ⟨_, _, _, rfl, rfl, pu_asm h ⟨?_, ?_, ?_⟩ (fun j hj => ?_) (fun j hj => ?_) (fun k hk => ?_) (fun k hk => ?_) ?_ ⟨?_, ?_, ?_, ?_⟩⟩
    · rw [pu_st_a, pu_st_a]
    · rw [pu_st_b (by omega), pu_st_b (by omega), pu_st_b (by omega), z1, b2 0 (by omega) (by omega), pu_st_b (by omega)]; exact e1
    · rw [pu_st_b (by omega), pu_st_b (by omega), pu_st_b (by omega), z1, b2 0 (by omega) (by omega), pu_st_b (by omega)]; exact e2
    · rw [pu_st_b (by omega), pu_st_b (by omega), z1]
    · rw [pu_st_b (by omega), b2 0 (by omega) (by omega), pu_st_b (by omega)]
    · rw [pu_st_ne (by omega), pu_st_ne (by omega), a2 k (by omega)]
    · rw [pu_st_ne (by omega), b2 k (by omega) (by omega), pu_st_ne (by omega)]
    · rw [pu_st_ne (by omega), pu_st_ne (by omega)]
      refine (hC.mv (fun k x y => ?_)).cg (fun j x y => ?_) (fun j x y => ?_)
      · rw [pu_st_ne (by omega), pu_st_ne (by omega), a2 _ (by omega)]
      · rw [b4 j (by omega), pu_st_ne (by omega)]
      · rw [b6 j (by omega), pu_st_ne (by omega)]
    · rw [pu_st_b (by omega), pu_st_a, pu_st_b (by omega), z2]
    · rw [pu_st_b (by omega), pu_st_a]; omega
    · rw [pu_st_b (by omega), pu_st_a]; omega
    · rw [pu_st_b (by omega), pu_st_a]
      intro i i0 i1
      rw [pu_st_ne (show (1 : Int) ≠ 0 by omega), pu_st_ne (show (2 : Int) ≠ 0 by omega)]
      by_cases q : i = σ1 0 11
      · subst q
        refine ((a3.CM hC).mv (fun k x y => ?_)).cg (fun j x y => ?_) (fun j x y => ?_)
        · rw [pu_st_ne (by omega), pu_st_ne (by omega)]
        · rw [b3 j x y, pu_st_ne (by omega), show 506 * 0 + j = j by omega]
        · rw [b5 j x y, pu_st_ne (by omega), show 13 * 0 + j = j by omega]
      · refine ((m4 i i0 (by omega)).mv (fun k x y => ?_)).cg (fun j x y => ?_) (fun j x y => ?_)
        · rw [pu_st_ne (by omega), pu_st_ne (by omega), a2 _ (by omega)]
        · rw [b4 _ (by omega), pu_st_ne (by omega)]
        · rw [b6 _ (by omega), pu_st_ne (by omega)]
  · rw [ps_keptNo (by omega), Option.bind_some, ps_cmncN, Option.bind_some, if_pos rfl, if_pos (by omega)]
    exact pu_no h rfl rfl
theorem pr_undo {σ1 σ2 : jq_M} (h : jq_Rel σ1 σ2) (w1 : jq_wf jq_zX 132 σ1) (w2 : jq_wf jq_zM 18 σ2) (y1 : jq_lay jq_zX σ1) (y2 : jq_lay jq_zM σ2) : ∃ (r : Int) (σ1' σ2' : jq_M), X10_undo σ1 = some (r, σ1') ∧ X11_undo σ2 = some (r, σ2') ∧ jq_Rel σ1' σ2' := by
  have h0 := h
  obtain ⟨⟨e0, e1, e2, e3, e4⟩, hn, hC, ⟨m1, m2, m3, m4⟩, hT, ⟨t1, t2, t3, t4⟩, ⟨l1, l2⟩, hK⟩ := h0
  unfold X10_undo X11_undo
  by_cases g : 0 < σ1 0 11
  · have hm : σ2 0 36 = σ1 0 11 := m1.symm
    rw [pu_w (x := σ1 0 11 - 1) (by omega) (by omega), ps_keptAt (by omega) (by omega), Option.bind_some, ps_cmnc (by omega) (by omega), Option.bind_some, if_neg (show ¬ 72 + 20 * (σ1 0 11 - 1) = -1 by omega), hm, if_neg (by omega), pu_lt, pu_lt, pu_st_b (show (7 : Int) ≠ 11 by omega)]
    obtain ⟨τ1, a1, a2, a3⟩ := ps_takeFrom (σ := jq_st σ1 0 11 (σ1 0 11 - 1)) (o := σ1 0 7) (p := 72 + 20 * (σ1 0 11 - 1)) (by omega)
    obtain ⟨τ2, b1, b2, b3, b4, b5, b6⟩ := pm_copies (σ := σ2) (a := σ1 0 11) (b := 0) (by omega) (by omega) (by omega) (by omega) (by omega)
    have z1 : τ1 0 = jq_st σ1 0 11 (σ1 0 11 - 1) 0 := a2 0 (by omega)
    have z2 : τ2 0 36 = σ1 0 11 := by rw [b2 0 (by omega) (by omega)]; exact hm
    have hC2 := (m4 (σ1 0 11 - 1) (by omega) (by omega)).mv (σ' := jq_st σ1 0 11 (σ1 0 11 - 1)) (fun k x y => pu_st_ne (by omega))
    rw [a1, b1, Option.bind_some, Option.bind_some, pu_lt, z1, z2, pu_st_a, pu_w (by omega) (by omega), pu_st_a, ps_answer, pm_gives, pu_b2, pu_b2]
    refine ⟨_, _, _, rfl, rfl, pu_asm h ⟨?_, ?_, ?_⟩ (fun j hj => ?_) (fun j hj => ?_) (fun k hk => ?_) (fun k hk => ?_) ?_ ⟨?_, ?_, ?_, ?_⟩⟩
    · rw [pu_st_a, pu_st_a]
    · rw [pu_st_b (by omega), pu_st_b (by omega), pu_st_b (by omega), z1, b2 0 (by omega) (by omega), pu_st_b (by omega)]; exact e1
    · rw [pu_st_b (by omega), pu_st_b (by omega), pu_st_b (by omega), z1, b2 0 (by omega) (by omega), pu_st_b (by omega)]; exact e2
    · rw [pu_st_b (by omega), z1, pu_st_b (by omega)]
    · rw [pu_st_b (by omega), pu_st_b (by omega), b2 0 (by omega) (by omega)]
    · rw [pu_st_ne (by omega), a2 k (by omega), pu_st_ne (by omega)]
    · rw [pu_st_ne (by omega), pu_st_ne (by omega), b2 k (by omega) (by omega)]
    · rw [pu_st_ne (show (1 : Int) ≠ 0 by omega), pu_st_ne (show (1 : Int) ≠ 0 by omega), pu_st_ne (show (2 : Int) ≠ 0 by omega), pu_st_ne (show (2 : Int) ≠ 0 by omega)]
      refine ((a3.CM hC2).mv (fun k x y => pu_st_ne (by omega))).cg (fun j x y => ?_) (fun j x y => ?_)
      · rw [show j = 506 * 0 + j by omega, b3 j x y, show 506 * (σ1 0 11 - 1 + 1) + (506 * 0 + j) = 506 * σ1 0 11 + j by omega]
      · rw [show j = 13 * 0 + j by omega, b5 j x y, show 13 * (σ1 0 11 - 1 + 1) + (13 * 0 + j) = 13 * σ1 0 11 + j by omega]
    · rw [pu_st_b (by omega), z1, pu_st_a, pu_st_b (by omega), pu_st_a]
    · rw [pu_st_b (by omega), z1, pu_st_a]; omega
    · rw [pu_st_b (by omega), z1, pu_st_a]; omega
    · rw [pu_st_b (by omega), z1, pu_st_a]
      intro i i0 i1
      rw [pu_st_ne (show (1 : Int) ≠ 0 by omega), pu_st_ne (show (1 : Int) ≠ 0 by omega), pu_st_ne (show (2 : Int) ≠ 0 by omega), pu_st_ne (show (2 : Int) ≠ 0 by omega)]
      refine ((m4 i i0 (by omega)).mv (fun k x y => ?_)).cg (fun j x y => ?_) (fun j x y => ?_)
      · rw [pu_st_ne (by omega), a2 _ (by omega), pu_st_ne (by omega)]
      · rw [b4 _ (by omega)]
      · rw [b6 _ (by omega)]
  · rw [pu_w (x := σ1 0 11 - 1) (by omega) (by omega), ps_keptNo (by omega), Option.bind_some, ps_cmncN, Option.bind_some, if_pos rfl, if_pos (by omega)]
    exact pu_no h rfl rfl
/-- a trial on the spare committee -/
theorem pu_spare (h : jq_Rel σ1 σ2) (b0 : 2024 ≤ b) (b1 : b ≤ 3036) : ∃ τ1 τ2, X1_takeFrom (σ1 0 8) (σ1 0 7) σ1 = some τ1 ∧ X11_keeps b σ2 = some τ2 ∧ pu_CM τ1 (σ1 0 8) (τ2 1) (τ2 2) ∧ (∀ k, ¬ (σ1 0 8 ≤ k ∧ k < σ1 0 8 + 18) → τ1 k = σ1 k) ∧ (∀ k, k ≠ 1 → τ2 k = σ2 k) ∧ (∀ j, 0 ≤ j → j < 138 → τ2 1 (b + j) = σ2 1 j) ∧ ∀ j, ¬ (b ≤ j ∧ j < b + 138) → τ2 1 j = σ2 1 j := by
  have hn := h.2.1
  obtain ⟨τ1, a1, a2, a3⟩ := ps_takeFrom (σ := σ1) (o := σ1 0 8) (p := σ1 0 7) (by omega)
  obtain ⟨τ2, b1, b2, b3, b4⟩ := pm_keeps (σ := σ2) (b := b) (by omega) b1
  refine ⟨τ1, τ2, a1, b1, (a3.CM h.2.2.1).cg (fun j x y => b4 j (by omega)) (fun j x y => by rw [b2 2 (by omega)]), a2, b2, b3, b4⟩
theorem pu_back (h : jq_Rel σ1 σ2) (f1 : ∀ k, ¬ (σ1 0 8 ≤ k ∧ k < σ1 0 8 + 20) → ¬ pu_scr k → τ1 k = σ1 k) (f2 : ∀ k, k ≠ 1 → k ≠ 9 → τ2 k = σ2 k) (f3 : ∀ j, 0 ≤ j → j < 2024 → τ2 1 j = σ2 1 j) : jq_Rel (jq_st τ1 0 0 v) (jq_st τ2 0 2 v) := by
  have hn := h.2.1
  have z1 : τ1 0 = σ1 0 := f1 0 (by omega) (by unfold pu_scr; omega)
  have z2 : τ2 0 = σ2 0 := f2 0 (by omega) (by omega)
  refine pu_end h (fun k a b c => f1 k (by omega) c) (fun j _ => by rw [z1]) (fun k hk => f2 k (by omega) (by omega)) (fun j a b => f3 j (by omega) b) (fun j a b => by rw [f2 2 (by omega) (by omega)]) (fun j _ => by rw [z2]) ?_
  exact (h.2.2.1.mv (fun k x y => f1 _ (by omega) (by unfold pu_scr; omega))).cg (fun j x y => f3 j x (by omega)) (fun j x y => by rw [f2 2 (by omega) (by omega)])
theorem pr_agreedIn {σ1 σ2 : jq_M} (h : jq_Rel σ1 σ2) (w1 : jq_wf jq_zX 132 σ1) (w2 : jq_wf jq_zM 18 σ2) (y1 : jq_lay jq_zX σ1) (y2 : jq_lay jq_zM σ2) {p1 : Int} (hp1 : jq_r p1) : ∃ (r : Int) (σ1' σ2' : jq_M), X10_agreedIn p1 σ1 = some (r, σ1') ∧ X11_agreedIn p1 σ2 = some (r, σ2') ∧ jq_Rel σ1' σ2' := by
  have hn := h.2.1
  unfold X10_agreedIn X11_agreedIn
  by_cases hp : 0 ≤ p1 ∧ p1 ≤ 300
  · obtain ⟨a0, a1⟩ := hp
    have hn1 : ¬ ¬ (0 ≤ p1 ∧ p1 ≤ 300) := fun q => q ⟨a0, a1⟩
    obtain ⟨τ1, τ2, t1, t2, t3, t4, t5, t6, t7⟩ := pu_spare h (b := 3036) (by omega) (by omega)
    have hK : pu_K τ1 (σ1 0 8) τ2 := ⟨t3.1, t3.2.1⟩
    obtain ⟨r, υ1, υ2, e1, e2, k1, k2, k3, -⟩ := pa_days hK a0 (by omega) (by have := t3.2.2.2.2; omega)
    obtain ⟨ω, w1, w2, w3, w4⟩ := pm_restores (σ := υ2) (b := 3036) (by omega) (by omega)
    have z1 : τ1 0 = σ1 0 := t4 0 (by omega)
    have z2 : υ1 0 = σ1 0 := (k2 0 (by omega) (by omega) (by omega) (by omega)).trans z1
    have g5 : υ1 (σ1 0 8) 5 = ((pu_ag (υ2 1) : Nat) : Int) := k1.2.1.2.2.2.2.2.1
    simp only [pu_lt, ps_within, Option.bind_some, pu_i_0, if_neg hn1, pm_isFrom, t1, t2, z1, e1, e2, pu_b2, z2, g5, pm_agreedNow k1.1, w1, ps_answer, pm_gives]
    refine ⟨_, _, _, rfl, rfl, pu_back h (fun k x y => ?_) (fun k x y => ?_) (fun j x y => ?_)⟩
    · rw [k2 k (by omega) (by omega) (by omega) (by omega), t4 k (by omega)]
    · rw [w2 k x, k3.1 k x y, t5 k x]
    · by_cases q : j < 138
      · rw [w3 j x q, k3.2 (3036 + j) (by unfold pu_dynj; omega), t6 j x q]
      · rw [w4 j (by omega), k3.2 j (by unfold pu_dynj; omega), t7 j (by omega)]
  · refine pu_no h (r := -1) (v := 1) ?_ ?_
    · simp only [ps_within, Option.bind_some, pu_i_0, if_pos hp, ps_refuse, pu_b2]
    · simp only [pm_isFrom, Option.bind_some, pu_i_0, if_pos hp, pm_refuse, pu_b2]
theorem pr_soonest {σ1 σ2 : jq_M} (h : jq_Rel σ1 σ2) (w1 : jq_wf jq_zX 132 σ1) (w2 : jq_wf jq_zM 18 σ2) (y1 : jq_lay jq_zX σ1) (y2 : jq_lay jq_zM σ2) {p1 : Int} (hp1 : jq_r p1) : ∃ (r : Int) (σ1' σ2' : jq_M), X10_soonest p1 σ1 = some (r, σ1') ∧ X11_soonest p1 σ2 = some (r, σ2') ∧ jq_Rel σ1' σ2' := by
  have hn := h.2.1
  obtain ⟨⟨i0, i1, i2, i3, i4, i5, i6, ip, iq, iw, ia⟩, ⟨⟨c0, c1, c2, c3, c4, c5, c6⟩, cp, cw, ca⟩, cN, cS⟩ := h.2.2.1
  unfold X10_soonest X11_soonest
  by_cases hp : 0 ≤ p1 ∧ p1 < σ2 1 3
  · have hpn : ¬ ¬ (0 ≤ p1 ∧ p1 < σ2 1 3) := fun q => q hp
    obtain ⟨a0, a1⟩ := hp
    obtain ⟨τ1, τ2, t1, t2, t3, t4, t5, t6, t7⟩ := pu_spare h (b := 3036) (by omega) (by omega)
    have hK : pu_K τ1 (σ1 0 8) τ2 := ⟨t3.1, t3.2.1⟩
    have d9 := t3.2.2.2.2
    have n3 : τ2 1 3 = σ2 1 3 := t7 3 (by omega)
    obtain ⟨⟨r, υ1⟩, ⟨r', υ2⟩, e1, e2, e3, k1, k2, k3⟩ := pu_sim (f := X0_daysTill_b2 (σ1 0 8) p1) (g := X11_soonest_b23 p1) (s := (0, τ1)) (t := (0, τ2)) (fun i s t => s.1 = (i : Int) ∧ t.1 = (i : Int) ∧ pu_K s.2 (σ1 0 8) t.2 ∧ pu_F1 (σ1 0 8) τ1 s.2 ∧ pu_F2 τ2 t.2 ∧ pu_ms (t.2 1) + s.1 ≤ 240 ∧ t.2 1 4 = τ2 1 4 + t.1) (fun e e' => e.1 = e'.1 ∧ pu_K e.2 (σ1 0 8) e'.2 ∧ pu_F1 (σ1 0 8) τ1 e.2 ∧ pu_F2 τ2 e'.2) 240 (fun i s t hR hi => by
      obtain ⟨s1, s2⟩ := s
      obtain ⟨u1, u2⟩ := t
      obtain ⟨r1, r2, r3, r4, r5, r6, r7⟩ := hR
      dsimp only at r1 r2 r3 r4 r5 r6 r7
      have r8 : s1 = u1 := by omega
      subst r8
      have k0 : 0 ≤ s1 := by omega
      have m3 : u2 1 3 = σ2 1 3 := by rw [r5.2 3 (by unfold pu_dynj; omega), n3]
      unfold X0_daysTill_b2 X11_soonest_b23
      dsimp only
      rw [ps_isAgreed r3.1 r3.2 a0 (by omega), pm_isAgreed a0 (by omega), Option.bind_some, Option.bind_some]
      by_cases g : u2 1 (102 + 5 * p1) = 1
      · rw [pu_i_p g, if_neg (by decide), if_neg (by decide)]
        exact Or.inl ⟨_, _, rfl, rfl, rfl, r3, r4, r5⟩
      · obtain ⟨r, υ1, υ2, b1, b2, b3, b4, b5, b6, b7, b8⟩ := pa_day r3 (by omega)
        have b9 : pu_ms (υ2 1) < pu_ms (u2 1) := b8.resolve_left (fun z => g (z p1 a0 (by omega)))
        have b10 := pu_ms_b b3.1
        rw [pu_i_n g, if_pos rfl, if_pos rfl, if_pos (by omega), b1, b2, pu_b2, pu_b2]
        simp only [pu_lt]
        rw [pu_w (by omega) (by omega)]
        exact Or.inr ⟨by omega, _, _, rfl, rfl, by dsimp only; omega, by dsimp only; omega, b3, r4.tr b4, r5.tr b5, by dsimp only; omega, by dsimp only; omega⟩) ⟨rfl, rfl, hK, pu_F1_r _ _, pu_F2_r _, by dsimp only; have := pu_ms_b hK.1; omega, by dsimp only; omega⟩
    dsimp only at e3 k1 k2 k3
    subst e3
    obtain ⟨ω, w1, w2, w3, w4⟩ := pm_restores (σ := υ2) (b := 3036) (by omega) (by omega)
    have z1 : τ1 0 = σ1 0 := t4 0 (by omega)
    unfold X0_daysTill
    simp only [pu_lt, ps_isArticle (pu_cA h), c4, Option.bind_some, pu_i_0, if_neg hpn, pm_isArticle, t1, t2, z1, e1, e2, pu_b2, w1, ps_answer, pm_gives]
    refine ⟨_, _, _, rfl, rfl, pu_back h (fun k x y => ?_) (fun k x y => ?_) (fun j x y => ?_)⟩
    · rw [k2 k (by omega) (by omega) (by omega) (by omega), t4 k (by omega)]
    · rw [w2 k x, k3.1 k x y, t5 k x]
    · by_cases q : j < 138
      · rw [w3 j x q, k3.2 (3036 + j) (by unfold pu_dynj; omega), t6 j x q]
      · rw [w4 j (by omega), k3.2 j (by unfold pu_dynj; omega), t7 j (by omega)]
  · refine pu_no h (r := -1) (v := 1) ?_ ?_
    · simp only [pu_lt, ps_isArticle (pu_cA h), c4, Option.bind_some, pu_i_0, if_pos hp, ps_refuse, pu_b2]
    · simp only [pm_isArticle, Option.bind_some, pu_i_0, if_pos hp, pm_refuse, pu_b2]
end
