section
variable {T : Int → Int} {L e x y v n l s : Int} {m m1 m2 m3 σ σ1 σ2 τ τ1 τ2 : jq_M} {o f k i to W lo hi : Int}
theorem pu_cf_q (n0 : 0 ≤ n) (h : pu_cf o m1 m2) (h1 : pu_q1 n m1 τ1) (h2 : pu_q2 n m2 τ2) : pu_cf o τ1 τ2 := h.mv (fun k a b => h1.1 k (by omega) (by omega) (by omega)) (fun j hj => h2.2.1 j (by omega)) (h2.1 2 (by omega) (by omega))
theorem pa_ops (hl : pu_lv T L m1 m2) (hc : pu_cf o m1 m2) (n0 : 0 ≤ n) (n6 : n < 60) (hr : m2 1 (2162 + 6 * n) = pu_ri W) (hW : 13 ≤ W ∧ W ≤ 20 ∨ W = 25 ∨ W = 27) : pu_OP T L n W m1 m2 (X6_readOperands o 45 n W m1) (X11_sessionOrder (pu_ri W) (2162 + 6 * n) m2) := by
  have ho : o = 5 ∨ o = 25 := hc.1
  have p0 := hc.2.2.1
  have e1 : jq_w (2162 + 6 * n + 1) = 2163 + 6 * n := by rw [pu_w (by omega) (by omega)]; omega
  have e2 : jq_w (2162 + 6 * n + 2) = 2164 + 6 * n := by rw [pu_w (by omega) (by omega)]; omega
  -- one operand
  have one : ∀ (lo hi : Int) (c r : Option (Int × jq_M)), pu_on T L n (2163 + 6 * n) lo hi m1 m2 c r → (∀ (τ2 : jq_M) (v : Int), τ2 1 (2162 + 6 * n) = pu_ri W → (∀ j, j ≠ 2163 + 6 * n → τ2 1 j = m2 1 j) → v = τ2 1 (2163 + 6 * n) → lo ≤ v → v ≤ hi → pu_dt τ2 n W v 0) → pu_OP T L n W m1 m2 (jq_b2 c fun v s => X6_readOperands_j172 45 n v 0 s) (jq_b2 r fun v s => some (v, s)) := fun lo hi c r h hd => by
    obtain ⟨v, k1, k2, g, a1, a2, a3, a5, a6⟩ := h
    rw [a1, a2, pu_b2, pu_b2, ps_j172 n0 n6]
    refine pa_opZ n0 n6 a3 a5 ?_
    rcases a6 with ⟨rfl, b1, b2, b3, b4, b5, b6, b7⟩ | ⟨rfl, b1⟩
    · exact Or.inl ⟨rfl, b1, b2, b3, hd _ _ (by rw [b7 _ (by omega)]; exact hr) b7 b6.symm b4 b5⟩
    · exact Or.inr ⟨rfl, b1⟩
  have num : ∀ lo hi : Int, (∀ (τ2 : jq_M) (v : Int), τ2 1 (2162 + 6 * n) = pu_ri W → v = τ2 1 (2163 + 6 * n) → lo ≤ v → v ≤ hi → pu_dt τ2 n W v 0) → pu_OP T L n W m1 m2 (jq_b2 (X5_takeNumber lo hi m1) fun v s => X6_readOperands_j172 45 n v 0 s) (jq_b2 (X11_number (2163 + 6 * n) lo hi m2) fun v s => some (v, s)) := fun lo hi hd => one lo hi _ _ (pa_opN hl n0 n6 (by omega) (by omega)) fun τ2 v h1 _ h3 h4 h5 => hd τ2 v h1 h3 h4 h5
  -- one article
  have art : (∀ (τ2 : jq_M) (v : Int), τ2 1 (2162 + 6 * n) = pu_ri W → v = τ2 1 (2163 + 6 * n) → 0 ≤ v → v < τ2 1 3 → pu_dt τ2 n W v 0) → pu_OP T L n W m1 m2 (jq_b2 (X5_takeArticle o m1) fun v s => X6_readOperands_j172 45 n v 0 s) (jq_b2 (X11_oldArticle (2163 + 6 * n) m2) fun v s => some (v, s)) := fun hd => one 0 (m2 1 3 - 1) _ _ (pa_opA hl hc n0 n6 (by omega) (by omega)) fun τ2 v h1 h2 h3 h4 h5 => hd τ2 v h1 h3 h4 (by rw [h2 3 (by omega)]; omega)
  have non : (∀ (τ2 : jq_M), τ2 1 (2162 + 6 * n) = pu_ri W → pu_dt τ2 n W 0 0) → pu_OP T L n W m1 m2 (X6_readOperands_j172 45 n 0 0 m1) (some (1, m2)) := fun hd => by
    rw [ps_j172 n0 n6]
    exact pa_opZ n0 n6 pu_o2_r pu_h2_r (Or.inl ⟨rfl, hl, Int.le_refl _, pu_q2_r, hd m2 hr⟩)
  unfold X6_readOperands X11_sessionOrder
  rw [e1, e2]
  rcases (show W = 13 ∨ W = 14 ∨ W = 15 ∨ W = 16 ∨ W = 17 ∨ W = 18 ∨ W = 19 ∨ W = 20 ∨ W = 25 ∨ W = 27 by omega) with rfl | rfl | rfl | rfl | rfl | rfl | rfl | rfl | rfl | rfl
  · rw [if_pos rfl, show pu_ri 13 = 13 from rfl, if_pos rfl]
    rw [show pu_ri 13 = 13 from rfl] at hr
    obtain ⟨v, k1, k2, g, a1, a2, a3, a5, a6⟩ := pa_opP (n := n) (to := 2163 + 6 * n) hl hc n0 n6 (by omega) (by omega)
    rw [a1, a2, pu_b2, pu_b2, a3.1 o (by omega), hc.2.1.1, pu_w (x := m2 1 0 - 1) (by omega) (by omega)]
    rcases a6 with ⟨rfl, b1, b2, b3, b4, b5, b6, b7⟩ | ⟨rfl, b1⟩
    · obtain ⟨v', k1', k2', g', c1, c2, c3, c5, c6⟩ := pa_opN (n := n) (lo := 0) (hi := m2 1 0 - 1) (to := 2164 + 6 * n) b1 n0 n6 (by omega) (by omega)
      rw [if_neg (show ¬ ((1 : Int) = 0) by decide), c1, pu_b2, ps_j172 n0 n6, pu_ld (by omega) (by omega), Option.bind_some, b7 0 (by omega), pu_w (x := m2 1 0 - 1) (by omega) (by omega), c2, pu_b2]
      rcases c6 with ⟨rfl, d1, d2, d3, d4, d5, d6, d7⟩ | ⟨rfl, d1⟩
      · rw [if_neg (show ¬ ((1 : Int) = 0) by decide)]
        refine pa_opZ n0 n6 (pu_o2_t a3 c3) (pu_h2_t a5 c5) (Or.inl ⟨rfl, d1, by omega, pu_q2_t b3 d3, Or.inl ⟨rfl, ?_, ?_, d6.symm, b4, ?_, d4, ?_⟩⟩)
        · rw [d7 _ (by omega), b7 _ (by omega)]; exact hr
        · rw [d7 _ (by omega), b6]
        · rw [d7 1 (by omega), b7 1 (by omega)]; omega
        · rw [d7 0 (by omega), b7 0 (by omega)]; omega
      · rw [if_pos rfl]
        exact pa_opZ n0 n6 (pu_o2_t a3 c3) (pu_h2_t a5 c5) (Or.inr ⟨rfl, d1⟩)
    · obtain ⟨ω, c1, c2, c3⟩ := ps_takeNumberd (lo := 0) (hi := m2 1 0 - 1) b1
      rw [if_pos rfl, c1, pu_b2, ps_j172 n0 n6]
      exact pa_opZ n0 n6 (pu_o2_t a3 c3) a5 (Or.inr ⟨rfl, c2⟩)
  · rw [if_neg (by decide), if_pos rfl, show pu_ri 14 = 14 from rfl, if_neg (by decide), if_pos rfl]
    exact one 0 (m2 1 1 - 1) _ _ (pa_opP hl hc n0 n6 (by omega) (by omega)) fun τ2 v h1 h2 h3 h4 h5 => Or.inr (Or.inl ⟨rfl, h1, h3, h4, by rw [h2 1 (by omega)]; omega⟩)
  · rw [if_neg (by decide), if_neg (by decide), if_pos rfl, show pu_ri 15 = 15 from rfl, if_neg (by decide), if_neg (by decide), if_pos rfl]
    rw [show pu_ri 15 = 15 from rfl] at hr
    obtain ⟨v, k1, k2, g, a1, a2, a3, a5, a6⟩ := pa_opP (n := n) (to := 2163 + 6 * n) hl hc n0 n6 (by omega) (by omega)
    rw [a1, a2, pu_b2, pu_b2]
    rcases a6 with ⟨rfl, b1, b2, b3, b4, b5, b6, b7⟩ | ⟨rfl, b1⟩
    · obtain ⟨v', k1', k2', g', c1, c2, c3, c5, c6⟩ := pa_opP (n := n) (to := 2164 + 6 * n) b1 (pu_cf_q n0 hc (pu_q1_o a3) b3) n0 n6 (by omega) (by omega)
      rw [if_neg (show ¬ ((1 : Int) = 0) by decide), c1, pu_b2, ps_j172 n0 n6, c2, pu_b2]
      rcases c6 with ⟨rfl, d1, d2, d3, d4, d5, d6, d7⟩ | ⟨rfl, d1⟩
      · rw [if_neg (show ¬ ((1 : Int) = 0) by decide)]
        rw [b7 1 (by omega)] at d5
        refine pa_opZ n0 n6 (pu_o2_t a3 c3) (pu_h2_t a5 c5) (Or.inl ⟨rfl, d1, by omega, pu_q2_t b3 d3, Or.inr (Or.inr (Or.inl ⟨rfl, ?_, ?_, d6.symm, b4, ?_, d4, ?_⟩))⟩)
        · rw [d7 _ (by omega), b7 _ (by omega)]; exact hr
        · rw [d7 _ (by omega), b6]
        · rw [d7 1 (by omega), b7 1 (by omega)]; omega
        · rw [d7 1 (by omega), b7 1 (by omega)]; omega
      · rw [if_pos rfl]
        exact pa_opZ n0 n6 (pu_o2_t a3 c3) (pu_h2_t a5 c5) (Or.inr ⟨rfl, d1⟩)
    · have q2 : k1 o 2 = m2 1 1 := by rw [a3.1 o (by omega)]; exact hc.2.1.2.1
      obtain ⟨ω, c1, c2, c3⟩ := ps_takePartyd (o := o) b1 (by rw [q2]; exact hc.2.2.2.1)
      rw [if_pos rfl, c1, pu_b2, ps_j172 n0 n6]
      exact pa_opZ n0 n6 (pu_o2_t a3 c3) a5 (Or.inr ⟨rfl, c2⟩)
  · rw [if_neg (by decide), if_neg (by decide), if_neg (by decide), if_pos rfl, show pu_ri 16 = 16 from rfl, if_neg (by decide), if_neg (by decide), if_neg (by decide), if_pos rfl]
    exact num 0 9 (fun τ2 v h1 h2 h3 h4 => Or.inr (Or.inr (Or.inr (Or.inl ⟨rfl, h1, h2, h3, h4⟩))))
  · rw [if_neg (by decide), if_neg (by decide), if_neg (by decide), if_neg (by decide), if_pos rfl, show pu_ri 17 = 17 from rfl, if_neg (by decide), if_neg (by decide), if_neg (by decide), if_neg (by decide), if_pos rfl]
    exact num 1 20 (fun τ2 v h1 h2 h3 h4 => Or.inr (Or.inr (Or.inr (Or.inr (Or.inl ⟨rfl, h1, h2, h3, h4⟩)))))
  · rw [if_neg (by decide), if_neg (by decide), if_neg (by decide), if_neg (by decide), if_neg (by decide), if_pos rfl, show pu_ri 18 = 18 from rfl, if_neg (by decide), if_neg (by decide), if_neg (by decide), if_neg (by decide), if_neg (by decide), if_pos rfl]
    exact art (fun τ2 v h1 h2 h3 h4 => Or.inr (Or.inr (Or.inr (Or.inr (Or.inr (Or.inl ⟨Or.inl rfl, h1, h2, h3, h4⟩))))))
  · rw [if_neg (by decide), if_neg (by decide), if_neg (by decide), if_neg (by decide), if_neg (by decide), if_neg (by decide), if_pos rfl, show pu_ri 19 = 19 from rfl, if_neg (by decide), if_neg (by decide), if_neg (by decide), if_neg (by decide), if_neg (by decide), if_neg (by decide), if_pos rfl]
    exact art (fun τ2 v h1 h2 h3 h4 => Or.inr (Or.inr (Or.inr (Or.inr (Or.inr (Or.inl ⟨Or.inr rfl, h1, h2, h3, h4⟩))))))
  · exact non (fun τ2 h1 => Or.inr (Or.inr (Or.inr (Or.inr (Or.inr (Or.inr (Or.inl ⟨rfl, h1⟩)))))))
  · exact num 1 99 (fun τ2 v h1 h2 h3 h4 => Or.inr (Or.inr (Or.inr (Or.inr (Or.inr (Or.inr (Or.inr (Or.inr (Or.inl ⟨rfl, h1, h2, h3, h4⟩)))))))))
  · exact non (fun τ2 h1 => Or.inr (Or.inr (Or.inr (Or.inr (Or.inr (Or.inr (Or.inr (Or.inr (Or.inr ⟨rfl, h1⟩)))))))))
end
