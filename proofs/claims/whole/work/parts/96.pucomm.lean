section
variable {σ1 σ2 : jq_M}
theorem pr_committee {σ1 σ2 : jq_M} (h : jq_Rel σ1 σ2) (w1 : jq_wf jq_zX 132 σ1) (w2 : jq_wf jq_zM 18 σ2) (y1 : jq_lay jq_zX σ1) (y2 : jq_lay jq_zM σ2) {p1 : Int} (hp1 : jq_r p1) : ∃ (r : Int) (σ1' σ2' : jq_M), X10_committee p1 σ1 = some (r, σ1') ∧ X11_committee p1 σ2 = some (r, σ2') ∧ jq_Rel σ1' σ2' := by
  have h0 := h
  obtain ⟨⟨g0, g1, g2, g3, g4⟩, gn, gC, gM, gT, ⟨t1, t2, t3, t4⟩, gl, gK⟩ := h0
  have ho : σ1 0 8 = 5 ∨ σ1 0 8 = 25 := by omega
  unfold X10_committee X11_committee
  by_cases z0 : p1 < 0
  · refine pu_no h (r := -1) (v := 1) ?_ ?_
    · unfold X10_committee_j15
      rw [if_pos z0]
      rfl
    · unfold X11_begins
      rw [if_pos z0]
      rfl
  by_cases z1 : σ1 2 2 < p1
  · refine pu_no h (r := -1) (v := 1) ?_ ?_
    · unfold X10_committee_j15
      rw [if_neg z0, if_pos z1]
      rfl
    · unfold X11_begins
      rw [if_neg z0, if_pos (by omega)]
      rfl
  obtain ⟨a1, a2, b1, b2, hl, b3, b4, b5, b6, b7⟩ := pa_begin (n := p1) (mx := 900) h (by omega) (by omega) (by omega)
  have o8 : a1 0 8 = σ1 0 8 := by rw [b3 0 (by omega)]
  rw [if_neg z0, if_neg z1, b1, b2, Option.bind_some, pu_b2, if_neg (show ¬ ((1 : Int) = 0) by decide), pu_lt, o8]
  obtain ⟨c1, d1, d2, d3, d4⟩ := ps_clear (o := σ1 0 8) (σ := a1)
  obtain ⟨c2, e1, e2, e3, e4⟩ := pm_plain (σ := a2)
  have lv : pu_lv (σ1 4) p1 c1 c2 := hl.mv (d2 2 (by omega) (by omega)) (d2 3 (by omega) (by omega)) (d2 4 (by omega) (by omega)) (e2 0 (by omega)) (e2 7 (by omega))
  have B : ∀ j, 0 ≤ j → j < 506 → pu_nB c2 j = if j = 6 then -1 else 0 := e4
  have Bz : ∀ j, 0 ≤ j → j < 506 → j ≠ 6 → pu_nB c2 j = 0 := fun j x y z => by rw [B j x y, if_neg z]
  have bd : pu_bd (σ1 0 8) c1 c2 := by
    have q0 := Bz 0 (by decide) (by decide) (by decide)
    have q1 := Bz 1 (by decide) (by decide) (by decide)
    have q2 := Bz 2 (by decide) (by decide) (by decide)
    have q3 := Bz 3 (by decide) (by decide) (by decide)
    have q4 := Bz 4 (by decide) (by decide) (by decide)
    have q5 := Bz 5 (by decide) (by decide) (by decide)
    have q6 : pu_nB c2 6 = -1 := by rw [B 6 (by decide) (by decide), if_pos rfl]
    have zer : ∀ a, 0 ≤ a → a < 8 → pu_nB c2 (98 + 5 * a + 4) = 0 := fun a x y => Bz _ (by omega) (by omega) (by omega)
    have ag : pu_ag (pu_nB c2) = 0 := pu_ag_0 zer (by omega)
    refine ⟨⟨Or.inl q0, by omega, by omega, by omega, by omega, by omega, by omega, fun p x y => by omega, fun p q x y z => by omega, fun k x y => by omega, fun a x y => by omega⟩, ⟨⟨?_, ?_, ?_, ?_, ?_, ?_, ?_⟩, fun p x y => by omega, fun k x y => by omega, fun a x y => by omega⟩, ⟨fun p x y => by omega, fun a x y => by omega⟩, ⟨q4, q6, zer, fun p x y => Bz _ (by omega) (by omega) (by omega), fun a x y c z w => Bz _ (by omega) (by omega) (by omega)⟩, d4⟩
    · rw [d3 0 (by omega) (by omega), q0]
    · rw [d3 1 (by omega) (by omega), q5]
    · rw [d3 2 (by omega) (by omega), q1]
    · rw [d3 3 (by omega) (by omega), q2]
    · rw [d3 4 (by omega) (by omega), q3]
    · rw [d3 5 (by omega) (by omega), ag]; rfl
    · rw [d3 6 (by omega) (by omega), q4]
  have s0 := (pu_tk_p lv.1).1
  obtain ⟨r1, r2, f1, f2, f3, f4, f5⟩ := pa_parts (T := σ1 4) (L := p1) ho 900 c1 c2 0 lv bd (by omega) (Int.le_refl _) s0
  -- what has changed
  have k1 : ∀ k, k ≠ 2 → ¬ (σ1 0 8 ≤ k ∧ k < σ1 0 8 + 18) → r1 k = σ1 k := fun k x y => by rw [f3.1 k x y, d2 k (by omega) (by omega)]; exact b3 k x
  have k22 : r1 2 2 = 0 := by rw [f3.2 2 (by omega), d2 2 (by omega) (by omega)]; exact b4
  have m1 : ∀ k, k ≠ 0 → k ≠ 1 → k ≠ 2 → k ≠ 7 → r2 k = σ2 k := fun k x y z w => by rw [f4.1 k x y z, e2 k y]; exact b5 k x w
  have m2 : ∀ j, j < 2024 → r2 1 j = σ2 1 j := fun j x => by rw [f4.2.1 j x, e3 j x, b5 1 (by omega) (by omega)]
  have m3 : ∀ j, j < 52 → r2 2 j = σ2 2 j := fun j x => by rw [f4.2.2.1 j x, e2 2 (by omega), b5 2 (by omega) (by omega)]
  have m4 : ∀ j, j < 10 ∨ j = 16 ∨ 19 < j → r2 0 j = σ2 0 j := fun j x => by rw [f4.2.2.2 j (by omega), e2 0 (by omega)]; exact b6 j x
  have m5 : r2 0 10 = 0 := by rw [f4.2.2.2 10 (by omega), e2 0 (by omega)]; exact b7
  have rd : X2_readAll (σ1 0 8) a1 = some r1 := by
    unfold X2_readAll
    rw [d1, Option.bind_some, f1]
    rfl
  rw [rd, Option.bind_some, ps_keep, pu_b2, e1, Option.bind_some, f2, Option.bind_some]
  unfold X11_committee_j45
  rcases f5 with ⟨l1, l2⟩ | l1
  · have z12 : r1 2 12 = 0 := l1.2.1
    have z18 : r2 0 18 = 0 := l1.2.2.1
    have z13 : r1 2 13 = r2 0 17 := l1.2.2.2
    have lp1 : ∃ e, jq_lp X11_committee_b54 (0, r2) = some e ∧ (∀ k, k ≠ 1 → e k = r2 k) ∧ (∀ j, 506 ≤ j → e 1 j = r2 1 j) ∧ ∀ j, 0 ≤ j → j < 506 → e 1 j = r2 1 (2024 + j) := by
      refine pu_lpE (f := X11_committee_b54) (s := ((0 : Int), r2)) (fun i t => t.1 = (i : Int) ∧ (∀ k, k ≠ 1 → t.2 k = r2 k) ∧ (∀ j, 506 ≤ j → t.2 1 j = r2 1 j) ∧ ∀ j, 0 ≤ j → j < t.1 → t.2 1 j = r2 1 (2024 + j)) (fun e => (∀ k, k ≠ 1 → e k = r2 k) ∧ (∀ j, 506 ≤ j → e 1 j = r2 1 j) ∧ ∀ j, 0 ≤ j → j < 506 → e 1 j = r2 1 (2024 + j)) 506 ⟨rfl, fun _ _ => rfl, fun _ _ => rfl, fun j a b => by dsimp only at b; omega⟩ (fun i t ht hi => ?_) (fun e a b => ⟨e, a, b⟩)
      obtain ⟨x1, x2⟩ := t
      obtain ⟨q0, q1, q2, q3⟩ := ht
      dsimp only at q0 q1 q2 q3
      unfold X11_committee_b54
      dsimp only
      by_cases w : x1 < 506
      · rw [if_pos w, pu_w (x := 2024 + x1) (by omega) (by omega), pu_ld (by omega) (by omega), Option.bind_some, pu_sa (by omega) (by omega), Option.bind_some, pu_lt, pu_w (by omega) (by omega), q2 _ (by omega)]
        refine Or.inr ⟨by omega, _, rfl, by dsimp only; omega, fun k hk => (pu_st_ne hk).trans (q1 k hk), fun j hj => (pu_st_b (by omega)).trans (q2 j hj), fun j a b => ?_⟩
        dsimp only at b ⊢
        by_cases z : j = x1
        · rw [z, pu_st_a]
        · rw [pu_st_b z]; exact q3 j a (by omega)
      · rw [if_neg w]
        exact Or.inl ⟨_, rfl, q1, q2, fun j a b => q3 j a (by omega)⟩
    obtain ⟨u, u1, u2, u3, u4⟩ := lp1
    have lp2 : ∃ e, jq_lp X11_committee_b85 (0, u) = some e ∧ (∀ k, k ≠ 2 → e k = u k) ∧ (∀ j, 13 ≤ j → e 2 j = u 2 j) ∧ ∀ j, 0 ≤ j → j < 13 → e 2 j = u 2 (52 + j) := by
      refine pu_lpE (f := X11_committee_b85) (s := ((0 : Int), u)) (fun i t => t.1 = (i : Int) ∧ (∀ k, k ≠ 2 → t.2 k = u k) ∧ (∀ j, 13 ≤ j → t.2 2 j = u 2 j) ∧ ∀ j, 0 ≤ j → j < t.1 → t.2 2 j = u 2 (52 + j)) (fun e => (∀ k, k ≠ 2 → e k = u k) ∧ (∀ j, 13 ≤ j → e 2 j = u 2 j) ∧ ∀ j, 0 ≤ j → j < 13 → e 2 j = u 2 (52 + j)) 13 ⟨rfl, fun _ _ => rfl, fun _ _ => rfl, fun j a b => by dsimp only at b; omega⟩ (fun i t ht hi => ?_) (fun e a b => ⟨e, a, b⟩)
      obtain ⟨x1, x2⟩ := t
      obtain ⟨q0, q1, q2, q3⟩ := ht
      dsimp only at q0 q1 q2 q3
      unfold X11_committee_b85
      dsimp only
      by_cases w : x1 < 13
      · rw [if_pos w, pu_w (x := 52 + x1) (by omega) (by omega), pu_ld (by omega) (by omega), Option.bind_some, pu_sa (by omega) (by omega), Option.bind_some, pu_lt, pu_w (by omega) (by omega), q2 _ (by omega)]
        refine Or.inr ⟨by omega, _, rfl, by dsimp only; omega, fun k hk => (pu_st_ne hk).trans (q1 k hk), fun j hj => (pu_st_b (by omega)).trans (q2 j hj), fun j a b => ?_⟩
        dsimp only at b ⊢
        by_cases z : j = x1
        · rw [z, pu_st_a]
        · rw [pu_st_b z]; exact q3 j a (by omega)
      · rw [if_neg w]
        exact Or.inl ⟨_, rfl, q1, q2, fun j a b => q3 j a (by omega)⟩
    obtain ⟨y, y1, y2, y3, y4⟩ := lp2
    have yA : ∀ j, 0 ≤ j → j < 506 → y 1 j = pu_nB r2 j := fun j a b => by rw [y2 1 (by omega)]; exact u4 j a b
    have yN : ∀ j, 0 ≤ j → j < 13 → y 2 j = pu_nN r2 j := fun j a b => by rw [y4 j a b, u2 2 (by omega)]; rfl
    have y0 : y 0 = r2 0 := by rw [y2 0 (by omega), u2 0 (by omega)]
    unfold X11_committee_j112 X11_taken
    rw [z12, pu_i_p rfl, if_neg (show ¬ ((1 : Int) = 0) by decide), pu_lt, pu_lt, pu_lt, pu_lt, pu_lt, ps_answer, pu_b2, if_pos z18, u1, Option.bind_some, y1, Option.bind_some, pu_ld (by omega) (by omega), Option.bind_some, pu_lt, if_neg (show ¬ 0 < jq_st y 0 16 (y 0 18) 0 18 by rw [pu_st_b (by omega), y0, z18]; decide), pm_gives, pu_b2, pu_b2]
    have n7 : jq_st (jq_st r1 0 5 0) 0 6 (r1 2 13) 0 7 = σ1 0 7 := by rw [pu_st_b (by omega), pu_st_b (by omega), k1 0 (by omega) (by omega)]
    have n8 : jq_st (jq_st r1 0 5 0) 0 6 (r1 2 13) 0 8 = σ1 0 8 := by rw [pu_st_b (by omega), pu_st_b (by omega), k1 0 (by omega) (by omega)]
    rw [n7, n8]
    have w7 : jq_st (jq_st (jq_st (jq_st r1 0 5 0) 0 6 (r1 2 13)) 0 7 (σ1 0 8)) 0 8 (σ1 0 7) 0 7 = σ1 0 8 := by rw [pu_st_b (by omega), pu_st_a]
    rw [w7]
    have wk : ∀ k, k ≠ 0 → jq_st (jq_st (jq_st (jq_st r1 0 5 0) 0 6 (r1 2 13)) 0 7 (σ1 0 8)) 0 8 (σ1 0 7) k = r1 k := fun k hk => by rw [pu_st_ne hk, pu_st_ne hk, pu_st_ne hk, pu_st_ne hk]
    have val : r1 (σ1 0 8) 3 = y 1 2 := by rw [yA 2 (by omega) (by omega)]; exact l2.2.1.1.2.2.2.1
    have w5 : jq_st (jq_st (jq_st (jq_st r1 0 5 0) 0 6 (r1 2 13)) 0 7 (σ1 0 8)) 0 8 (σ1 0 7) 0 5 = 0 := by rw [pu_st_b (by omega), pu_st_b (by omega), pu_st_b (by omega), pu_st_a]
    have w6 : jq_st (jq_st (jq_st (jq_st r1 0 5 0) 0 6 (r1 2 13)) 0 7 (σ1 0 8)) 0 8 (σ1 0 7) 0 6 = r1 2 13 := by rw [pu_st_b (by omega), pu_st_b (by omega), pu_st_a]
    have w8 : jq_st (jq_st (jq_st (jq_st r1 0 5 0) 0 6 (r1 2 13)) 0 7 (σ1 0 8)) 0 8 (σ1 0 7) 0 8 = σ1 0 7 := pu_st_a
    have wj : ∀ j, j ≠ 5 → j ≠ 6 → j ≠ 7 → j ≠ 8 → jq_st (jq_st (jq_st (jq_st r1 0 5 0) 0 6 (r1 2 13)) 0 7 (σ1 0 8)) 0 8 (σ1 0 7) 0 j = σ1 0 j := fun j a b c d => by rw [pu_st_b d, pu_st_b c, pu_st_b b, pu_st_b a, k1 0 (by omega) (by omega)]
    rw [wk _ (by omega), val]
    generalize jq_st (jq_st (jq_st (jq_st r1 0 5 0) 0 6 (r1 2 13)) 0 7 (σ1 0 8)) 0 8 (σ1 0 7) = W at w7 wk w5 w6 w8 wj
    have q4 := l2.2.2.2.1.1
    have q6 := l2.2.2.2.1.2.1
    have cm : pu_CM r1 (σ1 0 8) (pu_nB r2) (pu_nN r2) := by
      refine ⟨l2.1, l2.2.1, l2.2.2.1, ⟨Or.inl ⟨q6, l2.2.2.2.2⟩, fun g => ?_⟩, by omega⟩
      omega
    refine ⟨_, _, _, rfl, rfl, pu_RelC (F1 := jq_st W 0 0 0) (F2 := jq_st (jq_st y 0 16 (y 0 18)) 0 2 0) h (fun k a b c => ?_) (fun j a b c d e => ?_) ?_ (fun k a b c d => ?_) (fun j a b => ?_) (fun j a b => ?_) (fun j a => ?_) ?_ ?_ ?_ ?_ ?_ ?_⟩
    · rw [pu_st_ne a, wk k a]; exact k1 k b c
    · rw [pu_st_b a]; exact wj j b c d e
    · rw [pu_st_ne (by omega), wk 2 (by omega)]; exact k22
    · rw [pu_st_ne a, pu_st_ne a, y2 k c, u2 k b]; exact m1 k a b c d
    · rw [pu_st_ne (by omega), pu_st_ne (by omega), y2 1 (by omega), u3 j a]; exact m2 j b
    · rw [pu_st_ne (by omega), pu_st_ne (by omega), y3 j a, u2 2 (by omega)]; exact m3 j b
    · rw [pu_st_b (by omega), pu_st_b (by omega), y0]; exact m4 j (by omega)
    · rw [pu_st_b (by omega), pu_st_b (by omega), y0]; exact m5
    · rw [pu_st_a, pu_st_a]
    · rw [pu_st_b (by omega), w5, pu_st_b (by omega), pu_st_a, y0, z18]
    · rw [pu_st_b (by omega), w6, pu_st_b (by omega), pu_st_b (by omega), y0]; exact z13
    · rw [pu_st_b (by omega), pu_st_b (by omega), w7, w8]; omega
    · rw [pu_st_b (show (7 : Int) ≠ 0 by omega), w7, pu_st_ne (show (1 : Int) ≠ 0 by omega), pu_st_ne (show (1 : Int) ≠ 0 by omega), pu_st_ne (show (2 : Int) ≠ 0 by omega), pu_st_ne (show (2 : Int) ≠ 0 by omega)]
      exact (cm.mv (fun k a b => by rw [pu_st_ne (by omega)]; exact wk _ (by omega))).cg yA yN
  · have z12 : ¬ r1 2 12 = 0 := l1.2.2.1
    have e12 : r1 2 12 = r2 0 18 := l1.2.1
    have e13 : r1 2 13 = r2 0 17 := l1.2.2.2.1
    have pos := l1.2.2.2.2
    have i2 : σ2 1 2 = σ2 1 2 := rfl
    unfold X11_committee_j112 X11_taken
    rw [pu_i_n z12, if_pos rfl, ps_refuse, pu_b2, if_neg (show ¬ r2 0 18 = 0 by omega), pu_ld (by omega) (by omega), Option.bind_some, pu_lt, if_pos (show 0 < jq_st r2 0 16 (r2 0 18) 0 18 by rw [pu_st_b (by omega)]; omega), pm_refuse, pu_b2, pu_b2]
    refine ⟨_, _, _, rfl, rfl, pu_RelC (F1 := jq_st (jq_st (jq_st r1 0 5 (r1 2 12)) 0 6 (r1 2 13)) 0 0 9) (F2 := jq_st (jq_st r2 0 16 (r2 0 18)) 0 2 9) h (fun k a b c => ?_) (fun j a b c d e => ?_) ?_ (fun k a b c d => ?_) (fun j a b => ?_) (fun j a b => ?_) (fun j a => ?_) ?_ ?_ ?_ ?_ ?_ ?_⟩
    · rw [pu_st_ne a, pu_st_ne a, pu_st_ne a]; exact k1 k b c
    · rw [pu_st_b a, pu_st_b c, pu_st_b b, k1 0 (by omega) (by omega)]
    · rw [pu_st_ne (by omega), pu_st_ne (by omega), pu_st_ne (by omega)]; exact k22
    · rw [pu_st_ne a, pu_st_ne a]; exact m1 k a b c d
    · rw [pu_st_ne (by omega), pu_st_ne (by omega)]; exact m2 j b
    · rw [pu_st_ne (by omega), pu_st_ne (by omega)]; exact m3 j b
    · rw [pu_st_b (by omega), pu_st_b (by omega)]; exact m4 j (by omega)
    · rw [pu_st_b (by omega), pu_st_b (by omega)]; exact m5
    · rw [pu_st_a, pu_st_a]
    · rw [pu_st_b (by omega), pu_st_b (by omega), pu_st_a, pu_st_b (by omega), pu_st_a]; exact e12
    · rw [pu_st_b (by omega), pu_st_a, pu_st_b (by omega), pu_st_b (by omega)]; exact e13
    · rw [pu_st_b (by omega), pu_st_b (by omega), pu_st_b (by omega), pu_st_b (by omega), pu_st_b (by omega), pu_st_b (by omega), k1 0 (by omega) (by omega)]; exact gn
    · have n7 : jq_st (jq_st (jq_st r1 0 5 (r1 2 12)) 0 6 (r1 2 13)) 0 0 9 0 7 = σ1 0 7 := by rw [pu_st_b (by omega), pu_st_b (by omega), pu_st_b (by omega), k1 0 (by omega) (by omega)]
      rw [n7]
      refine (gC.mv (fun k a b => ?_)).cg (fun j a b => ?_) (fun j a b => ?_)
      · rw [pu_st_ne (by omega), pu_st_ne (by omega), pu_st_ne (by omega)]; exact k1 _ (by omega) (by omega)
      · rw [pu_st_ne (by omega), pu_st_ne (by omega)]; exact m2 j (by omega)
      · rw [pu_st_ne (by omega), pu_st_ne (by omega)]; exact m3 j (by omega)
end
