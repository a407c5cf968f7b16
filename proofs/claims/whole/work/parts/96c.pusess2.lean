section
variable {T : Int → Int} {L e x y v n l s : Int} {m m1 m2 m3 σ σ1 σ2 τ τ1 τ2 : jq_M} {o f k i to W lo hi : Int}
theorem pu_cf_q (n0 : 0 ≤ n) (h : pu_cf o m1 m2) (h1 : pu_q1 n m1 τ1) (h2 : pu_q2 n m2 τ2) : pu_cf o τ1 τ2 := h.mv (fun k a b => h1.1 k (by omega) (by omega) (by omega)) (fun j hj => h2.2.1 j (by omega)) (h2.1 2 (by omega) (by omega))
theorem pa_ops (hl : pu_lv T L m1 m2) (hc : pu_cf o m1 m2) (n0 : 0 ≤ n) (n6 : n < 60) (hw : m1 46 n = W) (hr : m2 1 (2162 + 6 * n) = pu_ri W) (hW : 13 ≤ W ∧ W ≤ 20 ∨ W = 25 ∨ W = 27) : pu_OP T L n W m1 m2 (X6_readOperands o 45 n m1) (X11_sessionOrder (pu_ri W) (2162 + 6 * n) m2) := by
  have ho : o = 5 ∨ o = 25 := hc.1
  have p0 := hc.2.2.1
  have e1 : jq_w (2162 + 6 * n + 1) = 2163 + 6 * n := by rw [pu_w (by omega) (by omega)]; omega
  have e2 : jq_w (2162 + 6 * n + 2) = 2164 + 6 * n := by rw [pu_w (by omega) (by omega)]; omega
  -- one number
  have num : ∀ lo hi : Int, (∀ (τ1 τ2 : jq_M), τ2 1 (2162 + 6 * n) = pu_ri W → τ1 47 n = τ2 1 (2163 + 6 * n) → lo ≤ τ1 47 n → τ1 47 n ≤ hi → pu_dt τ2 n W (τ1 47 n) (τ1 48 n)) → pu_OP T L n W m1 m2 (jq_b2 (X5_takeNumber lo hi m1) fun v s => (jq_sa s 47 60 n v).bind fun s' => some s') (jq_b2 (X11_number (2163 + 6 * n) lo hi m2) fun v s => some (v, s)) := fun lo hi hd => by
    obtain ⟨v, k1, k2, g, a1, a2, a3, a4, a4x, a5, a6⟩ := pa_opN (lo := lo) (hi := hi) (k := 47) (to := 2163 + 6 * n) hl n0 n6 (Or.inl rfl) (by omega) (by omega)
    rw [a1, a2, pu_b2, pu_b2, pu_sa n0 n6, Option.bind_some]
    refine ⟨_, k2, g, rfl, rfl, a3, a5, ?_⟩
    rcases a6 with ⟨rfl, b1, b2, b3, b4, b5, b6, b7⟩ | ⟨rfl, b1⟩
    · exact Or.inl ⟨rfl, b1, b2, b3, hd _ _ (by rw [b7 _ (by omega)]; exact hr) (by rw [a4, b6]) (by rw [a4]; exact b4) (by rw [a4]; exact b5)⟩
    · exact Or.inr ⟨rfl, b1⟩
  -- one article
  have art : (∀ (τ1 τ2 : jq_M), τ2 1 (2162 + 6 * n) = pu_ri W → τ1 47 n = τ2 1 (2163 + 6 * n) → 0 ≤ τ1 47 n → τ1 47 n < τ2 1 3 → pu_dt τ2 n W (τ1 47 n) (τ1 48 n)) → pu_OP T L n W m1 m2 (jq_b2 (X5_articleHere o m1) fun v s => (jq_sa s 47 60 n v).bind fun s' => (X5_next s').bind fun s'' => some s'') (jq_b2 (X11_oldArticle (2163 + 6 * n) m2) fun v s => some (v, s)) := fun hd => by
    obtain ⟨v, k1, k2, g, a1, a2, a3, a4, a5, a6⟩ := pa_oldArticle (k := 47) (n := n) (to := 2163 + 6 * n) hl hc (by omega) (by omega) (Or.inl rfl) n0 n6
    rw [a1, a2, pu_b2]
    refine ⟨k1, k2, g, rfl, rfl, pu_q1_t (pu_q1_s (Or.inl rfl)) (pu_q1_o a3), ?_, ?_⟩
    · rcases a4 with ⟨rfl, -⟩ | ⟨rfl, -⟩
      · exact pu_h2_t (pu_h2_s (to := 2163 + 6 * n) (x := v) (by omega)) (pu_h2_o (a5 rfl).2.2)
      · obtain ⟨y, hy⟩ := (a6 rfl).2
        exact pu_h2_t (pu_h2_s (to := 2163 + 6 * n) (x := y) (by omega)) (pu_h2_o hy)
    · rcases a4 with ⟨rfl, b1, b2⟩ | ⟨rfl, b1⟩
      · obtain ⟨c1, c2, c3⟩ := a5 rfl
        have k47 : k1 47 n = v := by rw [a3.1 47 (by omega), pu_st_a]
        refine Or.inl ⟨rfl, b1, by omega, pu_q2_t (pu_q2_s (to := 2163 + 6 * n) (x := v) (by omega) (by omega)) (pu_q2_o c3), hd _ _ (by rw [c3.1 1 (by omega), pu_st_b (by omega)]; exact hr) (by rw [k47, c3.1 1 (by omega), pu_st_a]) (by rw [k47]; exact c1) (by rw [k47, c3.1 1 (by omega), pu_st_b (by omega)]; exact c2)⟩
      · exact Or.inr ⟨rfl, b1⟩
  have non : (∀ (τ1 τ2 : jq_M), τ2 1 (2162 + 6 * n) = pu_ri W → pu_dt τ2 n W (τ1 47 n) (τ1 48 n)) → pu_OP T L n W m1 m2 (some m1) (some (1, m2)) := fun hd => ⟨m1, m2, 1, rfl, rfl, pu_q1_r, pu_h2_r, Or.inl ⟨rfl, hl, Int.le_refl _, pu_q2_r, hd m1 m2 hr⟩⟩
  unfold X6_readOperands X11_sessionOrder
  rw [show (45 : Int) + 1 = 46 from rfl, show (45 : Int) + 2 = 47 from rfl, show (45 : Int) + 3 = 48 from rfl, pu_ld n0 n6, Option.bind_some, hw, e1, e2]
  rcases (show W = 13 ∨ W = 14 ∨ W = 15 ∨ W = 16 ∨ W = 17 ∨ W = 18 ∨ W = 19 ∨ W = 20 ∨ W = 25 ∨ W = 27 by omega) with rfl | rfl | rfl | rfl | rfl | rfl | rfl | rfl | rfl | rfl
  · rw [if_pos rfl, show pu_ri 13 = 13 from rfl, if_pos rfl]
    rw [show pu_ri 13 = 13 from rfl] at hr
    obtain ⟨v, k1, k2, g, a1, a2, a3, a4, a4x, a5, a6⟩ := pa_opP (k := 47) (to := 2163 + 6 * n) hl hc n0 n6 (Or.inl rfl) (by omega) (by omega)
    rw [a1, a2, pu_b2, pu_b2, pu_sa n0 n6, Option.bind_some, a3.1 o (by omega) (by omega) (by omega), hc.2.1.1, pu_w (x := m2 1 0 - 1) (by omega) (by omega)]
    rcases a6 with ⟨rfl, b1, b2, b3, b4, b5, b6, b7⟩ | ⟨rfl, b1⟩
    · obtain ⟨v', k1', k2', g', c1, c2, c3, c4, c4x, c5, c6⟩ := pa_opN (lo := 0) (hi := m2 1 0 - 1) (k := 48) (to := 2164 + 6 * n) b1 n0 n6 (Or.inr rfl) (by omega) (by omega)
      rw [if_neg (show ¬ ((1 : Int) = 0) by decide), c1, pu_b2, pu_sa n0 n6, Option.bind_some, pu_ld (by omega) (by omega), Option.bind_some, b7 0 (by omega), pu_w (x := m2 1 0 - 1) (by omega) (by omega), c2, pu_b2]
      have f47 : jq_st k1' 48 n v' 47 n = v := by
        rw [c4x 47 (by omega) (by omega)]
        exact a4
      rcases c6 with ⟨rfl, d1, d2, d3, d4, d5, d6, d7⟩ | ⟨rfl, d1⟩
      · rw [if_neg (show ¬ ((1 : Int) = 0) by decide)]
        refine ⟨_, k2', 1, rfl, rfl, pu_q1_t a3 c3, pu_h2_t a5 c5, Or.inl ⟨rfl, d1, by omega, pu_q2_t b3 d3, Or.inl ⟨rfl, ?_, ?_, ?_, ?_, ?_, ?_, ?_⟩⟩⟩
        · rw [d7 _ (by omega), b7 _ (by omega)]; exact hr
        · rw [f47, d7 _ (by omega), b6]
        · rw [c4, d6]
        · rw [f47]; exact b4
        · rw [f47, d7 1 (by omega), b7 1 (by omega)]; omega
        · rw [c4]; exact d4
        · rw [c4, d7 0 (by omega), b7 0 (by omega)]; omega
      · rw [if_pos rfl]
        exact ⟨_, k2', 0, rfl, rfl, pu_q1_t a3 c3, pu_h2_t a5 c5, Or.inr ⟨rfl, d1⟩⟩
    · obtain ⟨ω, c1, c2, c3⟩ := ps_takeNumberd (lo := 0) (hi := m2 1 0 - 1) b1
      rw [if_pos rfl, c1, pu_b2, pu_sa n0 n6, Option.bind_some]
      exact ⟨_, k2, 0, rfl, rfl, pu_q1_t a3 (pu_q1_t (pu_q1_o c3) (pu_q1_s (Or.inr rfl))), a5, Or.inr ⟨rfl, c2.mv (pu_st_ne (by omega)) (pu_st_ne (by omega)) (pu_st_ne (by omega)) rfl⟩⟩
  · rw [if_neg (by decide), if_pos rfl, show pu_ri 14 = 14 from rfl, if_neg (by decide), if_pos rfl]
    rw [show pu_ri 14 = 14 from rfl] at hr
    obtain ⟨v, k1, k2, g, a1, a2, a3, a4, a4x, a5, a6⟩ := pa_opP (k := 47) (to := 2163 + 6 * n) hl hc n0 n6 (Or.inl rfl) (by omega) (by omega)
    rw [a1, a2, pu_b2, pu_b2, pu_sa n0 n6, Option.bind_some]
    refine ⟨_, k2, g, rfl, rfl, a3, a5, ?_⟩
    rcases a6 with ⟨rfl, b1, b2, b3, b4, b5, b6, b7⟩ | ⟨rfl, b1⟩
    · refine Or.inl ⟨rfl, b1, b2, b3, Or.inr (Or.inl ⟨rfl, ?_, ?_, ?_, ?_⟩)⟩
      · rw [b7 _ (by omega)]; exact hr
      · rw [a4, b6]
      · rw [a4]; exact b4
      · rw [a4, b7 1 (by omega)]; omega
    · exact Or.inr ⟨rfl, b1⟩
  · rw [if_neg (by decide), if_neg (by decide), if_pos rfl, show pu_ri 15 = 15 from rfl, if_neg (by decide), if_neg (by decide), if_pos rfl]
    rw [show pu_ri 15 = 15 from rfl] at hr
    obtain ⟨v, k1, k2, g, a1, a2, a3, a4, a4x, a5, a6⟩ := pa_opP (k := 47) (to := 2163 + 6 * n) hl hc n0 n6 (Or.inl rfl) (by omega) (by omega)
    rw [a1, a2, pu_b2, pu_b2, pu_sa n0 n6, Option.bind_some]
    rcases a6 with ⟨rfl, b1, b2, b3, b4, b5, b6, b7⟩ | ⟨rfl, b1⟩
    · obtain ⟨v', k1', k2', g', c1, c2, c3, c4, c4x, c5, c6⟩ := pa_opP (k := 48) (to := 2164 + 6 * n) b1 (pu_cf_q n0 hc a3 b3) n0 n6 (Or.inr rfl) (by omega) (by omega)
      rw [if_neg (show ¬ ((1 : Int) = 0) by decide), c1, pu_b2, pu_sa n0 n6, Option.bind_some, c2, pu_b2]
      have f47 : jq_st k1' 48 n v' 47 n = v := by
        rw [c4x 47 (by omega) (by omega)]
        exact a4
      rcases c6 with ⟨rfl, d1, d2, d3, d4, d5, d6, d7⟩ | ⟨rfl, d1⟩
      · rw [if_neg (show ¬ ((1 : Int) = 0) by decide)]
        rw [b7 1 (by omega)] at d5
        refine ⟨_, k2', 1, rfl, rfl, pu_q1_t a3 c3, pu_h2_t a5 c5, Or.inl ⟨rfl, d1, by omega, pu_q2_t b3 d3, Or.inr (Or.inr (Or.inl ⟨rfl, ?_, ?_, ?_, ?_, ?_, ?_, ?_⟩))⟩⟩
        · rw [d7 _ (by omega), b7 _ (by omega)]; exact hr
        · rw [f47, d7 _ (by omega), b6]
        · rw [c4, d6]
        · rw [f47]; exact b4
        · rw [f47, d7 1 (by omega), b7 1 (by omega)]; omega
        · rw [c4]; exact d4
        · rw [c4, d7 1 (by omega), b7 1 (by omega)]; omega
      · rw [if_pos rfl]
        exact ⟨_, k2', 0, rfl, rfl, pu_q1_t a3 c3, pu_h2_t a5 c5, Or.inr ⟨rfl, d1⟩⟩
    · have q2 : jq_st k1 47 n v o 2 = m2 1 1 := by rw [a3.1 o (by omega) (by omega) (by omega)]; exact hc.2.1.2.1
      obtain ⟨ω, c1, c2, c3⟩ := ps_takePartyd (o := o) b1 (by rw [q2]; exact hc.2.2.2.1)
      rw [if_pos rfl, c1, pu_b2, pu_sa n0 n6, Option.bind_some]
      exact ⟨_, k2, 0, rfl, rfl, pu_q1_t a3 (pu_q1_t (pu_q1_o c3) (pu_q1_s (Or.inr rfl))), a5, Or.inr ⟨rfl, c2.mv (pu_st_ne (by omega)) (pu_st_ne (by omega)) (pu_st_ne (by omega)) rfl⟩⟩
  · rw [if_neg (by decide), if_neg (by decide), if_neg (by decide), if_pos rfl, show pu_ri 16 = 16 from rfl, if_neg (by decide), if_neg (by decide), if_neg (by decide), if_pos rfl]
    exact num 0 9 (fun τ1 τ2 h1 h2 h3 h4 => Or.inr (Or.inr (Or.inr (Or.inl ⟨rfl, h1, h2, h3, h4⟩))))
  · rw [if_neg (by decide), if_neg (by decide), if_neg (by decide), if_neg (by decide), if_pos rfl, show pu_ri 17 = 17 from rfl, if_neg (by decide), if_neg (by decide), if_neg (by decide), if_neg (by decide), if_pos rfl]
    exact num 1 20 (fun τ1 τ2 h1 h2 h3 h4 => Or.inr (Or.inr (Or.inr (Or.inr (Or.inl ⟨rfl, h1, h2, h3, h4⟩)))))
  · rw [if_neg (by decide), if_neg (by decide), if_neg (by decide), if_neg (by decide), if_neg (by decide), if_pos rfl, show pu_ri 18 = 18 from rfl, if_neg (by decide), if_neg (by decide), if_neg (by decide), if_neg (by decide), if_neg (by decide), if_pos rfl]
    exact art (fun τ1 τ2 h1 h2 h3 h4 => Or.inr (Or.inr (Or.inr (Or.inr (Or.inr (Or.inl ⟨Or.inl rfl, h1, h2, h3, h4⟩))))))
  · rw [if_neg (by decide), if_neg (by decide), if_neg (by decide), if_neg (by decide), if_neg (by decide), if_neg (by decide), if_pos rfl, show pu_ri 19 = 19 from rfl, if_neg (by decide), if_neg (by decide), if_neg (by decide), if_neg (by decide), if_neg (by decide), if_neg (by decide), if_pos rfl]
    exact art (fun τ1 τ2 h1 h2 h3 h4 => Or.inr (Or.inr (Or.inr (Or.inr (Or.inr (Or.inl ⟨Or.inr rfl, h1, h2, h3, h4⟩))))))
  · exact non (fun τ1 τ2 h1 => Or.inr (Or.inr (Or.inr (Or.inr (Or.inr (Or.inr (Or.inl ⟨rfl, h1⟩)))))))
  · exact num 1 99 (fun τ1 τ2 h1 h2 h3 h4 => Or.inr (Or.inr (Or.inr (Or.inr (Or.inr (Or.inr (Or.inr (Or.inr (Or.inl ⟨rfl, h1, h2, h3, h4⟩)))))))))
  · exact non (fun τ1 τ2 h1 => Or.inr (Or.inr (Or.inr (Or.inr (Or.inr (Or.inr (Or.inr (Or.inr (Or.inr ⟨rfl, h1⟩)))))))))
end
