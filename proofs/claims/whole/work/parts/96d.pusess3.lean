section
variable {T : Int → Int} {L e x y v n l s : Int} {m m1 m2 m3 σ σ1 σ2 τ τ1 τ2 : jq_M} {o f k i to W lo hi : Int}
theorem pa_test (hl : pu_lv T L m1 m2) (hc : pu_cf o m1 m2) (n0 : 0 ≤ n) (n6 : n < 60) : pu_OP T L n 21 m1 m2 (X6_readTest o 45 n m1) (jq_b2 (X11_test (2162 + 6 * n) m2) fun v s => some (v, s)) := by
  have ho : o = 5 ∨ o = 25 := hc.1
  have p0 := hc.2.2.1
  have e1 : jq_w (2162 + 6 * n + 1) = 2163 + 6 * n := by rw [pu_w (by omega) (by omega)]; omega
  have e2 : jq_w (2162 + 6 * n + 2) = 2164 + 6 * n := by rw [pu_w (by omega) (by omega)]; omega
  have e5 : jq_w (2162 + 6 * n + 5) = 2167 + 6 * n := by rw [pu_w (by omega) (by omega)]; omega
  obtain ⟨-, -, -, -, -, -, -, -, -, -, -, -, t1, t2, -⟩ := pu_tk_p hl.1
  unfold X6_readTest X11_test
  rw [pu_lt, pm_inWords hl.1, Option.bind_some]
  -- the word, then the token behind it
  have go : ∀ c : Int, ∃ u1 u2, X5_next m1 = some u1 ∧ X11_ahead (jq_st m2 1 (2162 + 6 * n) c) = some u2 ∧ pu_lv T L u1 u2 ∧ pu_o2 m1 u1 ∧ pu_q2 n m2 u2 ∧ pu_cf o u1 u2 ∧ m1 2 6 ≤ u1 2 6 ∧ u2 1 (2162 + 6 * n) = c := fun c => by
    have l2 : pu_lv T L m1 (jq_st m2 1 (2162 + 6 * n) c) := hl.mv rfl rfl rfl (pu_st_ne (by omega)) (pu_st_ne (by omega))
    obtain ⟨u1, u2, a1, a2, a3, a4, a5, a6, -⟩ := pa_adv l2
    have q2 : pu_q2 n m2 u2 := pu_q2_t (pu_q2_s (to := 2162 + 6 * n) (x := c) (by omega) (by omega)) (pu_q2_o a5)
    exact ⟨u1, u2, a1, a2, a3, a4, q2, pu_cf_q n0 hc (pu_q1_o a4) q2, a6, by rw [a5.1 1 (by omega), pu_st_a]⟩
  by_cases z22 : m1 2 11 = 22
  · have r : pu_ri (m1 2 11) = 25 := by rw [z22]; rfl
    obtain ⟨u1, u2, a1, a2, a3, a4, a5, a6, a7, a9⟩ := go 2125
    obtain ⟨v, k1, k2, g, b1, b2, b3, b5, b6⟩ := pa_opP (n := n) (to := 2163 + 6 * n) a3 a6 n0 n6 (by omega) (by omega)
    rw [if_pos z22, r, if_neg (show ¬ (25 : Int) < 25 by decide), pu_w (x := 2100 + 25) (by decide) (by decide), show (2100 : Int) + 25 = 2125 from rfl, pu_sa (by omega) (by omega), Option.bind_some, a1, a2, Option.bind_some, Option.bind_some, if_pos rfl, e1, b1, b2, pu_b2, pu_b2, pu_b2, ps_j86 n0 n6]
    refine pa_opZ n0 n6 (pu_o2_t a4 b3) (pu_h2_t (pu_h2_q n0 a5) b5) ?_
    rcases b6 with ⟨rfl, c1, c2, c3, c4, c5, c6, c7⟩ | ⟨rfl, c1⟩
    · refine Or.inl ⟨rfl, c1, by omega, pu_q2_t a5 c3, Or.inr (Or.inr (Or.inr (Or.inr (Or.inr (Or.inr (Or.inr (Or.inl ⟨rfl, Or.inl ⟨?_, z22, c6.symm, c4, ?_⟩⟩)))))))⟩
      · rw [c7 _ (by omega)]; exact a9
      · rw [c7 1 (by omega)]; omega
    · exact Or.inr ⟨rfl, c1⟩
  by_cases z23 : m1 2 11 = 23
  · have r : pu_ri (m1 2 11) = 26 := by rw [z23]; rfl
    obtain ⟨u1, u2, a1, a2, a3, a4, a5, a6, a7, a9⟩ := go 2126
    obtain ⟨v, k1, k2, g, b1, b2, b3, b5, b6⟩ := pa_opA (n := n) (to := 2163 + 6 * n) a3 a6 n0 n6 (by omega) (by omega)
    rw [if_neg z22, if_pos z23, r, if_neg (show ¬ (26 : Int) < 25 by decide), pu_w (x := 2100 + 26) (by decide) (by decide), show (2100 : Int) + 26 = 2126 from rfl, pu_sa (by omega) (by omega), Option.bind_some, a1, a2, Option.bind_some, Option.bind_some, if_neg (show ¬ (26 : Int) = 25 by decide), if_pos rfl, e1, b1, b2, pu_b2, pu_b2, pu_b2, ps_j86 n0 n6]
    refine pa_opZ n0 n6 (pu_o2_t a4 b3) (pu_h2_t (pu_h2_q n0 a5) b5) ?_
    rcases b6 with ⟨rfl, c1, c2, c3, c4, c5, c6, c7⟩ | ⟨rfl, c1⟩
    · refine Or.inl ⟨rfl, c1, by omega, pu_q2_t a5 c3, Or.inr (Or.inr (Or.inr (Or.inr (Or.inr (Or.inr (Or.inr (Or.inl ⟨rfl, Or.inr (Or.inl ⟨?_, z23, c6.symm, c4, ?_⟩)⟩)))))))⟩
      · rw [c7 _ (by omega)]; exact a9
      · rw [c7 3 (by omega)]; omega
    · exact Or.inr ⟨rfl, c1⟩
  by_cases z24 : m1 2 11 = 24
  · have r : pu_ri (m1 2 11) = 27 := by rw [z24]; rfl
    obtain ⟨u1, u2, a1, a2, a3, a4, a5, a6, a7, a9⟩ := go 2127
    obtain ⟨-, -, -, -, -, -, -, -, -, s1, -, s2, -⟩ := pu_tk_p a3.1
    rw [if_neg z22, if_neg z23, if_pos z24, r, if_neg (show ¬ (27 : Int) < 25 by decide), pu_w (x := 2100 + 27) (by decide) (by decide), show (2100 : Int) + 27 = 2127 from rfl, pu_sa (by omega) (by omega), Option.bind_some, a1, a2, Option.bind_some, Option.bind_some, if_neg (show ¬ (27 : Int) = 25 by decide), if_neg (show ¬ (27 : Int) = 26 by decide)]
    have sg : ∀ c, (u1 2 5 = 3 ∧ u1 2 8 = c) ↔ (u2 0 12 = 4 ∧ u2 0 15 = c) := fun c => pu_sgk a3.1
    have yes : u1 2 5 = 3 → (u1 2 8 = 60 ∨ u1 2 8 = 61 ∨ u1 2 8 = 62) → pu_OP T L n 21 m1 m2 (jq_b2 (X5_takeCompares_j32 u1) fun v8 s9 => jq_b2 (X5_takeNumber 0 999 s9) fun v10 s11 => X6_readTest_j86 45 n v8 v10 s11) (jq_b2 (X11_test_j95 (2162 + 6 * n) u2) fun v s => some (v, s)) := fun h3 h4 => by
      have s2' := s2 h3
      have l2 : pu_lv T L u1 (jq_st u2 1 (2167 + 6 * n) (u1 2 8)) := a3.mv rfl rfl rfl (pu_st_ne (by omega)) (pu_st_ne (by omega))
      obtain ⟨w1, w2, b1, b2, b3, b4, b5, b6, -⟩ := pa_adv l2
      obtain ⟨v, k1, k2, g, c1, c2, c3, c5, c6⟩ := pa_opN (n := n) (lo := 0) (hi := 999) (to := 2164 + 6 * n) b3 n0 n6 (by omega) (by omega)
      have qw2 : pu_q2 n m2 w2 := pu_q2_t a5 (pu_q2_t (pu_q2_s (to := 2167 + 6 * n) (x := u1 2 8) (by omega) (by omega)) (pu_q2_o b5))
      unfold X5_takeCompares_j32 X11_test_j95
      rw [pu_lt, b1, Option.bind_some, pu_b2, e5, e2, ← s2'.1, pu_sa (by omega) (by omega), Option.bind_some, b2, Option.bind_some, c1, c2, pu_b2, pu_b2, pu_b2, ps_j86 n0 n6]
      refine pa_opZ n0 n6 (pu_o2_t a4 (pu_o2_t b4 c3)) (pu_h2_t (pu_h2_q n0 qw2) c5) ?_
      rcases c6 with ⟨rfl, d1, d2, d3, d4, d5, d6, d7⟩ | ⟨rfl, d1⟩
      · refine Or.inl ⟨rfl, d1, by omega, pu_q2_t qw2 d3, Or.inr (Or.inr (Or.inr (Or.inr (Or.inr (Or.inr (Or.inr (Or.inl ⟨rfl, Or.inr (Or.inr ⟨?_, ?_, h4, d6.symm, d4, d5⟩)⟩)))))))⟩
        · rw [d7 _ (by omega), b5.1 1 (by omega), pu_st_b (by omega)]; exact a9
        · rw [d7 _ (by omega), b5.1 1 (by omega), pu_st_a]
      · exact Or.inr ⟨rfl, d1⟩
    have no : pu_OP T L n 21 m1 m2 (jq_b2 ((X5_blame 2 u1).bind fun s10 => X5_takeCompares_j32 s10) fun v8 s9 => jq_b2 (X5_takeNumber 0 999 s9) fun v10 s11 => X6_readTest_j86 45 n v8 v10 s11) (jq_b2 (jq_b2 (X11_fails 2 u2) fun v s => some (v, s)) fun v s => some (v, s)) := by
      obtain ⟨k1, k2, d1, d2, d3, d4, d5⟩ := pa_blame (f := 2) a3 (by decide)
      obtain ⟨ω, f1, f2, f3⟩ := ps_nextd d3
      obtain ⟨ψ, g1, g2, g3⟩ := ps_takeNumberd (lo := 0) (hi := 999) f2
      unfold X5_takeCompares_j32
      rw [d1, Option.bind_some, pu_lt, f1, Option.bind_some, pu_b2, g1, pu_b2, ps_j86 n0 n6, d2, pu_b2, pu_b2]
      exact pa_opZ n0 n6 (pu_o2_t a4 (pu_o2_t d4 (pu_o2_t f3 g3))) (pu_h2_t (pu_h2_q n0 a5) (pu_h2_o d5)) (Or.inr ⟨rfl, g2⟩)
    unfold X5_takeCompares
    rw [ps_isSign, ps_isSign, ps_isSign, pm_isSign, pm_isSign, pm_isSign, Option.bind_some, Option.bind_some, Option.bind_some, Option.bind_some, Option.bind_some, Option.bind_some]
    by_cases y60 : u1 2 5 = 3 ∧ u1 2 8 = 60
    · rw [pu_i_p y60, pu_i_p ((sg 60).mp y60), if_neg (show ¬ ((1 : Int) = 0) by decide), if_neg (show ¬ ((1 : Int) = 0) by decide)]
      exact yes y60.1 (Or.inl y60.2)
    by_cases y62 : u1 2 5 = 3 ∧ u1 2 8 = 62
    · rw [pu_i_n y60, pu_i_n (fun q => y60 ((sg 60).mpr q)), if_pos rfl, if_pos rfl, pu_i_p y62, pu_i_p ((sg 62).mp y62), if_neg (show ¬ ((1 : Int) = 0) by decide), if_neg (show ¬ ((1 : Int) = 0) by decide)]
      exact yes y62.1 (Or.inr (Or.inr y62.2))
    by_cases y61 : u1 2 5 = 3 ∧ u1 2 8 = 61
    · rw [pu_i_n y60, pu_i_n (fun q => y60 ((sg 60).mpr q)), if_pos rfl, if_pos rfl, pu_i_n y62, pu_i_n (fun q => y62 ((sg 62).mpr q)), if_pos rfl, if_pos rfl, pu_i_p y61, pu_i_p ((sg 61).mp y61), if_neg (show ¬ ((1 : Int) = 0) by decide), if_neg (show ¬ ((1 : Int) = 0) by decide)]
      exact yes y61.1 (Or.inr (Or.inl y61.2))
    · rw [pu_i_n y60, pu_i_n (fun q => y60 ((sg 60).mpr q)), if_pos rfl, if_pos rfl, pu_i_n y62, pu_i_n (fun q => y62 ((sg 62).mpr q)), if_pos rfl, if_pos rfl, pu_i_n y61, pu_i_n (fun q => y61 ((sg 61).mpr q)), if_pos rfl, if_pos rfl]
      exact no
  · have rl : ∀ j : Nat, j < 28 → j ≠ 22 → j ≠ 23 → j ≠ 24 → pu_rl.getD j 0 < 25 := by decide +kernel
    have lt : pu_ri (m1 2 11) < 25 := by
      unfold pu_ri
      split
      · omega
      · have := rl (m1 2 11).toNat (by omega) (by omega) (by omega) (by omega)
        omega
    obtain ⟨k1, k2, d1, d2, d3, d4, d5⟩ := pa_blame (f := 2) hl (by decide)
    rw [if_neg z22, if_neg z23, if_neg z24, if_pos lt, d1, d2, Option.bind_some, ps_j86 n0 n6, pu_b2, pu_b2]
    exact pa_opZ n0 n6 d4 (pu_h2_o d5) (Or.inr ⟨rfl, d3⟩)
end
