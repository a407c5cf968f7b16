section
variable {T : Int → Int} {L e x y v n l s O t : Int} {b1 b2 m m1 m2 m3 σ σ1 σ2 τ τ1 τ2 : jq_M} {o f k i to W lo hi D : Int}
/-- the class's step, from its first line on -/
noncomputable def pu_cst (o : Int) (m : jq_M) : Option jq_M := jq_b2 (X6_beginStep 45 m) fun v11 s12 => if m 2 11 = 21 then (X6_readTest o 45 v11 s12).bind fun s18 => X5_passSign 59 s18 else (X6_readOperands o 45 v11 (m 2 11) s12).bind fun s13 => X5_passSign 59 s13
theorem ps_opens : X6_opens k σ = some (pu_i (k = 21 ∨ k = 25)) := by
  unfold X6_opens
  by_cases a : k = 21
  · rw [if_pos a, pu_i_p (Or.inl a)]
  · by_cases b : k = 25
    · rw [if_neg a, if_pos b, pu_i_p (Or.inr b)]
    · rw [if_neg a, if_neg b, pu_i_n (by omega)]
theorem pa_step1 (hl : pu_lv T L m1 m2) (hc : pu_cf o m1 m2) (hs : pu_sl m1 m2) (hW : 13 ≤ m1 2 11 ∧ m1 2 11 ≤ 21 ∨ m1 2 11 = 25 ∨ m1 2 11 = 27) (t30 : m1 45 1 < 30) (hd : (m1 2 11 = 21 ∨ m1 2 11 = 25) → m1 45 8 < 3) : pu_ST T L m1 m2 (pu_cst o m1) (X11_sessionStep_j133 (pu_ri (m1 2 11)) (m2 1 2030) (2162 + 6 * m2 1 2030) (pu_i (m1 2 11 = 21 ∨ m1 2 11 = 25)) (m2 0 22) 1 m2) := by
  obtain ⟨⟨s0, s1, s2, s3⟩, ⟨s4, s5, s6, s7⟩, k1, k2, k3, k4, k5⟩ := id hs
  have n6 : m2 1 2030 < 60 := by omega
  have n0 : 0 ≤ m2 1 2030 := by omega
  generalize hn : m2 1 2030 = n at n6 n0 s1
  generalize hD : m1 45 8 = D at s3 s4 s7 hd
  generalize hWd : m1 2 11 = W at hW hd
  obtain ⟨c2, r1, r2, r3, r4, r5, r6, r7⟩ := pm_row (m2 := m2) (n := n) (wd := pu_ri W) (op := pu_i (W = 21 ∨ W = 25)) (cc := m2 0 22) (add := 1) hn n0 n6 (by omega) (by omega) (by decide) (by decide)
  obtain ⟨c1, q1, q2, q3, q4, q5, q6⟩ := ps_addLine (m1 := jq_st m1 45 1 (m1 45 1 + 1)) (n := n) (wd := W) (by rw [pu_st_b (by omega), s1]) n0 n6
  have c2w : c1 2 = m1 2 := by rw [q2 2 (by omega), pu_st_ne (by omega)]
  have c50 : c1 50 = m1 50 := by rw [q2 50 (by omega), pu_st_ne (by omega)]
  have c8 : c1 45 8 = D := by rw [q3 8 (by omega), pu_st_b (by omega)]; exact hD
  -- the class opens a level where the word opens one
  obtain ⟨d1, e1, e2, e3, e4, e5⟩ : ∃ d1, (if pu_i (W = 21 ∨ W = 25) = 0 then X6_beginStep_j24 n c1 else (X7_openAt 45 n c1).bind fun s8 => X6_beginStep_j24 n s8) = ((X5_next d1).bind fun s7 => some (n, s7)) ∧ (∀ k, k ≠ 45 → k ≠ 50 → d1 k = c1 k) ∧ (∀ j, j ≠ 8 → d1 45 j = c1 45 j) ∧ (∀ j, j ≠ D → d1 50 j = c1 50 j) ∧ (d1 45 8 = D ∧ ¬ (W = 21 ∨ W = 25) ∨ d1 45 8 = D + 1 ∧ D < 3 ∧ d1 50 D = n ∧ (W = 21 ∨ W = 25)) := by
    by_cases z : W = 21 ∨ W = 25
    · have d3 := hd z
      refine ⟨jq_st (jq_st c1 50 D n) 45 8 (D + 1), ?_, fun k a b => by rw [pu_st_ne a, pu_st_ne b], fun j hj => by rw [pu_st_b hj, pu_st_ne (by omega)], fun j hj => by rw [pu_st_ne (by omega), pu_st_b hj], Or.inr ⟨pu_st_a, d3, by rw [pu_st_ne (by omega), pu_st_a], z⟩⟩
      rw [pu_i_p z, if_neg (show ¬ ((1 : Int) = 0) by decide)]
      unfold X7_openAt X6_beginStep_j24
      rw [if_neg (show ¬ c1 45 8 < 0 by omega), if_pos (show c1 45 8 < 3 by omega), c8, show (45 : Int) + 5 = 50 from rfl, pu_sa (by omega) d3, Option.bind_some, pu_lt, pu_st_ne (show (45 : Int) ≠ 50 by omega), c8, pu_w (x := D + 1) (by omega) (by omega), Option.bind_some]
    · refine ⟨c1, ?_, fun _ _ _ => rfl, fun _ _ => rfl, fun _ _ => rfl, Or.inl ⟨c8, z⟩⟩
      rw [pu_i_n z, if_pos rfl]
      rfl
  have d2w : d1 2 = m1 2 := (e2 2 (by omega) (by omega)).trans c2w
  have l2 : pu_lv T L d1 c2 := hl.mv0 d2w (by rw [e2 3 (by omega) (by omega), q2 3 (by omega), pu_st_ne (by omega)]) (by rw [e2 4 (by omega) (by omega), q2 4 (by omega), pu_st_ne (by omega)]) (fun j a b => r3 j (by omega)) (r2 7 (by omega) (by omega))
  obtain ⟨u1, u2, a1, a2, a3, a4, a5, a6, -⟩ := pa_adv l2
  rw [d2w] at a6
  have bs : X6_beginStep 45 m1 = some (n, u1) := by
    unfold X6_beginStep X7_addStep
    rw [pu_lt, pu_w (x := m1 45 1 + 1) (by omega) (by omega), hWd, q1, pu_b2, pu_b2, ps_opens, Option.bind_some, c2w, hWd, e1, a1]
    rfl
  have H1 : pu_h1 m1 u1 := by
    refine pu_h1_t (m2 := d1) ⟨fun k a b => ?_, fun j hj => by rw [d2w]⟩ (pu_h1_o a4)
    rw [e2 k (by omega) (by omega), q2 k (by omega), pu_st_ne (by omega)]
  have H2 : pu_h2 m2 u2 := by
    refine pu_h2_t (m2 := c2) ⟨fun k a b c => r2 k a b, fun j hj => r5 j (by omega) (by omega), fun j hj => r3 j (by omega)⟩ (pu_h2_o a5)
  have hcu := pu_cf_h hc H1 H2
  have u46 : u1 46 n = W := by rw [a4.1 46 (by omega), e2 46 (by omega) (by omega)]; exact q6
  have uwd : u2 1 (2162 + 6 * n) = pu_ri W := by rw [a5.1 1 (by omega)]; exact r6
  -- its operands
  have op : pu_OP T L n W u1 u2 (if W = 21 then X6_readTest o 45 n u1 else X6_readOperands o 45 n W u1) (X11_sessionOrder (pu_ri W) (2162 + 6 * n) u2) := by
    by_cases z : W = 21
    · rw [if_pos z, z]
      have so : X11_sessionOrder (pu_ri 21) (2162 + 6 * n) u2 = jq_b2 (X11_test (2162 + 6 * n) u2) fun v s => some (v, s) := rfl
      rw [so]
      exact pa_test a3 hcu n0 n6
    · rw [if_neg z]
      exact pa_ops a3 hcu n0 n6 uwd (by omega)
  obtain ⟨τ1, τ2, g, o1, o2, o3, o4, o5⟩ := op
  have cst : pu_cst o m1 = X5_passSign 59 τ1 := by
    unfold pu_cst
    rw [bs, pu_b2, hWd]
    by_cases z : W = 21
    · rw [if_pos z] at o1 ⊢
      rw [o1, Option.bind_some]
    · rw [if_neg z] at o1 ⊢
      rw [o1, Option.bind_some]
  rw [cst, r1, a2, Option.bind_some, o2, pu_b2]
  rcases o5 with ⟨rfl, p1, p2, p3, p4⟩ | ⟨rfl, p1⟩
  · rw [if_neg (show ¬ ((1 : Int) = 0) by decide)]
    have t21 : τ2 0 21 = D := by rw [p3.2.2 21 (by omega), a5.2 21 (by omega), r3 21 (by omega)]; exact s3
    have t8 : τ2 8 = m2 8 := by rw [p3.1 8 (by omega) (by omega), a5.1 8 (by omega), r2 8 (by omega) (by omega)]
    have ri23 : pu_ri W ≠ 23 := by
      have rl : ∀ j : Nat, j < 28 → j ≠ 26 → pu_rl.getD j 0 ≠ 23 := by decide +kernel
      unfold pu_ri
      rw [if_neg (by omega)]
      have := rl W.toNat (by omega) (by omega)
      omega
    have ref : (if pu_i (W = 21 ∨ W = 25) = 0 then X11_sessionStep_j222 (pu_ri W) n (2162 + 6 * n) τ2 else (jq_sa τ2 8 3 (τ2 0 21) n).bind fun s62 => jq_lt (jq_st s62 0 21 (jq_w ((s62 0 21) + 1))) fun s63 => X11_sessionStep_j222 (pu_ri W) n (2162 + 6 * n) s63) = X11_sessionStep_j279 (if pu_i (W = 21 ∨ W = 25) = 0 then τ2 else jq_st (jq_st τ2 8 D n) 0 21 (D + 1)) := by
      unfold X11_sessionStep_j222
      by_cases z : W = 21 ∨ W = 25
      · have d3 := hd z
        rw [pu_i_p z, if_neg (show ¬ ((1 : Int) = 0) by decide), if_neg (show ¬ ((1 : Int) = 0) by decide), t21, pu_sa (by omega) d3, Option.bind_some, pu_st_ne (show (0 : Int) ≠ 8 by omega), t21, pu_w (x := D + 1) (by omega) (by omega), pu_lt, if_neg ri23]
      · rw [pu_i_n z, if_pos rfl, if_pos rfl, if_neg ri23]
    rw [ref]
    have q2k : ∀ k, k ≠ 0 → k ≠ 8 → (if pu_i (W = 21 ∨ W = 25) = 0 then τ2 else jq_st (jq_st τ2 8 D n) 0 21 (D + 1)) k = τ2 k := fun k a b => by
      split
      · rfl
      · rw [pu_st_ne a, pu_st_ne b]
    have q20 : ∀ j, j ≠ 21 → (if pu_i (W = 21 ∨ W = 25) = 0 then τ2 else jq_st (jq_st τ2 8 D n) 0 21 (D + 1)) 0 j = τ2 0 j := fun j hj => by
      split
      · rfl
      · rw [pu_st_b hj, pu_st_ne (by omega)]
    have q8 : ∀ j, j ≠ D → (if pu_i (W = 21 ∨ W = 25) = 0 then τ2 else jq_st (jq_st τ2 8 D n) 0 21 (D + 1)) 8 j = m2 8 j := fun j hj => by
      split
      · rw [t8]
      · rw [pu_st_ne (by omega), pu_st_b hj, t8]
    have qz : (¬ (W = 21 ∨ W = 25) → (if pu_i (W = 21 ∨ W = 25) = 0 then τ2 else jq_st (jq_st τ2 8 D n) 0 21 (D + 1)) 0 21 = D) ∧ ((W = 21 ∨ W = 25) → (if pu_i (W = 21 ∨ W = 25) = 0 then τ2 else jq_st (jq_st τ2 8 D n) 0 21 (D + 1)) 0 21 = D + 1 ∧ (if pu_i (W = 21 ∨ W = 25) = 0 then τ2 else jq_st (jq_st τ2 8 D n) 0 21 (D + 1)) 8 D = n) := by
      refine ⟨fun z => ?_, fun z => ?_⟩
      · rw [pu_i_n z, if_pos rfl]; exact t21
      · rw [pu_i_p z, if_neg (show ¬ ((1 : Int) = 0) by decide)]
        exact ⟨pu_st_a, by rw [pu_st_ne (by omega), pu_st_a]⟩
    generalize (if pu_i (W = 21 ∨ W = 25) = 0 then τ2 else jq_st (jq_st τ2 8 D n) 0 21 (D + 1)) = w2 at q2k q20 q8 qz
    have l3 : pu_lv T L τ1 w2 := p1.mv0 rfl rfl rfl (fun j a b => q20 j (by omega)) (q2k 7 (by omega) (by omega))
    have F2 : pu_h2 m2 w2 := by
      refine pu_h2_t H2 (pu_h2_t (pu_h2_q n0 p3) ⟨fun k a b c => q2k k a c, fun j hj => by rw [q2k 1 (by omega) (by omega)], fun j hj => q20 j (by omega)⟩)
    refine pu_ST_t (pa_ssemi l3 ?_) (pu_h1_t H1 (pu_h1_q o3)) F2 (by omega)
    have t45 : τ1 45 = d1 45 := by rw [o3.1 45 (by omega) (by omega) (by omega), a4.1 45 (by omega)]
    have t46 : τ1 46 = c1 46 := by rw [o3.1 46 (by omega) (by omega) (by omega), a4.1 46 (by omega), e2 46 (by omega) (by omega)]
    have t49 : τ1 49 = c1 49 := by rw [o3.1 49 (by omega) (by omega) (by omega), a4.1 49 (by omega), e2 49 (by omega) (by omega)]
    have t50 : τ1 50 = d1 50 := by rw [o3.1 50 (by omega) (by omega) (by omega), a4.1 50 (by omega)]
    have t46n : τ1 46 n = W := by rw [t46]; exact q6
    have w1 : w2 1 = τ2 1 := q2k 1 (by omega) (by omega)
    have row : ∀ j, ¬ (2162 + 6 * n ≤ j ∧ j ≤ 2167 + 6 * n) → j ≠ 2030 → w2 1 j = m2 1 j := fun j x y => by rw [w1, p3.2.1 j x, a5.1 1 (by omega)]; exact r5 j x y
    refine pu_sl_step (b1 := m1) (b2 := m2) (L := n) (D := D) hs s1 hD.symm t30 (fun j hj => ?_) (fun j hj => ?_) (fun j hj => ?_) (fun j hj => ?_) ?_ ?_ ?_ (fun j hj => ?_) (fun j hj => q8 j (by omega)) F2.2.1 (fun j x y => row j (by omega) (by omega)) ?_ ?_ ?_ ?_ ?_
    · rw [t46, (q5 j hj).1, pu_st_ne (by omega)]
    · rw [(o3.2.1 j hj).1, a4.1 47 (by omega), e2 47 (by omega) (by omega), (q5 j hj).2.1, pu_st_ne (by omega)]
    · rw [(o3.2.1 j hj).2, a4.1 48 (by omega), e2 48 (by omega) (by omega), (q5 j hj).2.2.1, pu_st_ne (by omega)]
    · rw [t49, (q5 j hj).2.2.2, pu_st_ne (by omega)]
    · rw [t45, e3 0 (by omega), q3 0 (by omega), pu_st_b (by omega)]
    · rw [t45, e3 1 (by omega), q3 1 (by omega), pu_st_a]
    · rw [t45, e3 2 (by omega)]; exact q4
    · rw [t50, e4 j (by omega), c50]
    · rw [w1, p3.2.1 2030 (by omega), a5.1 1 (by omega)]; exact r7
    · rw [q20 22 (by omega), p3.2.2 22 (by omega), a5.2 22 (by omega)]; exact r4
    · rw [t45]
      rcases e5 with g | g
      · rw [qz.1 g.2, g.1]
      · rw [(qz.2 g.2.2.2).1, g.1]
    · rw [t46n]
      unfold pu_dt at p4 ⊢
      rw [w1]
      exact p4
    · rw [t45, t50, t46n]
      rcases e5 with g | g
      · exact Or.inl ⟨g.1, fun z => g.2 (Or.inl z)⟩
      · exact Or.inr ⟨g.1, g.2.1, g.2.2.1, (qz.2 g.2.2.2).2, g.2.2.2⟩
  · obtain ⟨ω, f1, f2, f3⟩ := ps_passSignd (k := 59) p1
    rw [f1, if_pos rfl]
    exact ⟨ω, τ2, 0, rfl, rfl, pu_h1_t H1 (pu_h1_t (pu_h1_q o3) (pu_h1_o f3)), pu_h2_t H2 o4, Or.inr ⟨rfl, f2⟩⟩
end
