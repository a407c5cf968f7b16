section
variable {T : Int → Int} {L e x y v n l s a c d t q S : Int} {b1 b2 m m1 m2 m3 σ τ τ1 τ2 : jq_M} {o f k lo hi to base cnt p1 p2 i : Int} {A B N : Int → Int} {w : List Int}
noncomputable def pu_as1 (o n : Int) (s10 : jq_M) : Option jq_M := if s10 2 11 = 12 then (X5_next s10).bind fun s19 => jq_b2 (X5_takeNumber 0 16 s19) fun v20 s21 => (jq_sa s21 (o + 10) 8 n v20).bind fun s22 => X2_readArticle_j90 o n s22 else X2_readArticle_j90 o n s10
noncomputable def pu_as0 (o n : Int) (s5 : jq_M) : Option jq_M := (X5_passKeyword 11 s5).bind fun s6 => jq_b2 (X5_takeNumber 1 30 s6) fun v7 s8 => (jq_sa s8 (o + 9) 8 n v7).bind fun s9 => (jq_sa s9 (o + 10) 8 n 16).bind fun s10 => pu_as1 o n s10
noncomputable def pu_am1 (v2 : Int) (s12 : jq_M) : Option (Int × jq_M) := jq_b2 (X11_isThere 12 s12) fun v13 s14 => if v13 = 0 then X11_anArticle_j84 v2 s14 else jq_b2 (X11_number (jq_w (v2 + 1)) 0 16 s14) fun v39 s40 => if v39 = 0 then some (0, s40) else X11_anArticle_j84 v2 s40
noncomputable def pu_am0 (v2 : Int) (s4 : jq_M) : Option (Int × jq_M) := jq_b2 (X11_wantWord 11 s4) fun v6 s7 => if v6 = 0 then some (0, s7) else jq_b2 (X11_number v2 1 30 s7) fun v9 s10 => if v9 = 0 then some (0, s10) else (jq_sa s10 1 3174 (jq_w (v2 + 1)) 16).bind fun s12 => pu_am1 v2 s12
theorem ps_as1d (ho : o = 5 ∨ o = 25) (hl : pu_dd T L m1 m2) (n0 : 0 ≤ n) (n8 : n < 8) : ∃ τ, pu_as1 o n m1 = some τ ∧ pu_dd T L τ m2 ∧ pu_g1 o m1 τ := by
  unfold pu_as1
  by_cases z : m1 2 11 = 12
  · obtain ⟨ω, d1, d2, d3⟩ := ps_nextd hl
    obtain ⟨κ, c1, c2, c3⟩ := ps_takeNumberd (lo := 0) (hi := 16) d2
    have e2 : pu_dd T L (jq_st κ (o + 10) n 0) m2 := c2.mv (pu_st_ne (by omega)) (pu_st_ne (by omega)) (pu_st_ne (by omega)) rfl
    obtain ⟨ψ, f1, f2, f3⟩ := ps_j89d ho e2 n0 n8
    rw [if_pos z, d1, Option.bind_some, c1, pu_b2, pu_sa n0 n8, Option.bind_some]
    exact ⟨ψ, f1, f2, pu_g1_t (pu_g1_o (pu_o2_t d3 c3)) (pu_g1_t (pu_g1_s (by omega) (by omega) (by omega)) f3)⟩
  · rw [if_neg z]
    exact ps_j89d ho hl n0 n8
theorem ps_as0e (ho : o = 5 ∨ o = 25) (hl : pu_dd T L m1 m2) (n0 : 0 ≤ n) (n8 : n < 8) : ∃ τ, ((jq_sa m1 (o + 9) 8 n x).bind fun s9 => (jq_sa s9 (o + 10) 8 n 16).bind fun s10 => pu_as1 o n s10) = some τ ∧ pu_dd T L τ m2 ∧ pu_g1 o m1 τ := by
  rw [pu_sa n0 n8, Option.bind_some, pu_sa n0 n8, Option.bind_some]
  have e2 : pu_dd T L (jq_st (jq_st m1 (o + 9) n x) (o + 10) n 16) m2 := hl.mv (by rw [pu_st_ne (by omega), pu_st_ne (by omega)]) (by rw [pu_st_ne (by omega), pu_st_ne (by omega)]) (by rw [pu_st_ne (by omega), pu_st_ne (by omega)]) rfl
  obtain ⟨ψ, f1, f2, f3⟩ := ps_as1d ho e2 n0 n8
  exact ⟨ψ, f1, f2, pu_g1_t (pu_g1_t (pu_g1_s (by omega) (by omega) (by omega)) (pu_g1_s (by omega) (by omega) (by omega))) f3⟩
theorem ps_as0d (ho : o = 5 ∨ o = 25) (hl : pu_dd T L m1 m2) (n0 : 0 ≤ n) (n8 : n < 8) : ∃ τ, pu_as0 o n m1 = some τ ∧ pu_dd T L τ m2 ∧ pu_g1 o m1 τ := by
  obtain ⟨ω, d1, d2, d3⟩ := ps_passKeywordd (k := 11) hl
  obtain ⟨κ, c1, c2, c3⟩ := ps_takeNumberd (lo := 1) (hi := 30) d2
  obtain ⟨ψ, f1, f2, f3⟩ := ps_as0e (x := 1) ho c2 n0 n8
  unfold pu_as0
  rw [d1, Option.bind_some, c1, pu_b2]
  exact ⟨ψ, f1, f2, pu_g1_t (pu_g1_o (pu_o2_t d3 c3)) f3⟩
theorem pa_as1 (ho : o = 5 ∨ o = 25) (hb : pu_bd o b1 b2) (hl : pu_lv T L m1 m2) (hf : pu_aw o b1 b2 m1 m2 n) (hv : pu_av o m1 m2 n w t 16) (hS : m2 1 (2124 + 5 * n) = 0) (hn : n = b2 1 2027) (n8 : n < 8) (hw : pu_wd w) (ht : 1 ≤ t ∧ t ≤ 30) : pu_IT o T L m1 m2 (pu_as1 o n m1) (jq_b2 (pu_am1 (2122 + 5 * n) m2) fun v s => X11_committeePart_j197 v s) := by
  have i3 : 0 ≤ b2 1 2027 ∧ b2 1 2027 ≤ 8 := hb.1.2.2.2.1
  unfold pu_as1 pu_am1
  rcases pm_there (k := 12) (r := 12) hl (by decide) (by decide) (by decide) with ⟨z, th⟩ | ⟨z, th⟩
  · obtain ⟨u1, u2, a1, a2, a3, a4, a5, a6, a7⟩ := pa_adv hl
    obtain ⟨v, k1, k2, g, c1, c2, c3, c4, c5, c6⟩ := pa_takeNumber (lo := 0) (hi := 16) (to := 2123 + 5 * n) a3 (by omega) (by omega)
    rw [if_pos z, th, a1, a2, Option.bind_some, Option.bind_some, pu_b2, if_neg (show ¬ ((1 : Int) = 0) by decide), pu_w (x := 2122 + 5 * n + 1) (by omega) (by omega), show 2122 + 5 * n + 1 = 2123 + 5 * n by omega, c1, c2, pu_b2, pu_b2, pu_sa (by omega) n8, Option.bind_some]
    have gg : pu_g1 o m1 (jq_st k1 (o + 10) n v) := pu_g1_t (pu_g1_o (pu_o2_t a4 c3)) (pu_g1_s (by omega) (by omega) (by omega))
    rcases c4 with ⟨rfl, d1, d2⟩ | ⟨rfl, d1⟩
    · obtain ⟨e1, e2, e3⟩ := c5 rfl
      rw [if_neg (show ¬ ((1 : Int) = 0) by decide)]
      have l4 : pu_lv T L (jq_st k1 (o + 10) n v) k2 := d1.mv (pu_st_ne (by omega)) (pu_st_ne (by omega)) (pu_st_ne (by omega)) rfl rfl
      have f2 : pu_aw o b1 b2 (jq_st k1 (o + 10) n v) k2 n := pu_aw_1 (pu_aw_o ho (pu_aw_2 (pu_aw_o ho hf a4 a5) (k := 2123 + 5 * n) (x := v) (by omega) (by omega)) c3 e3) (by omega) (by omega)
      obtain ⟨v1, v2, v3, v4, v5, v6, v7, v8⟩ := hv
      refine pu_IT_t (pa_j89 (w := w) (t := t) (q := v) ho hb l4 f2 ⟨?_, ?_, ?_, ?_, pu_st_a, ?_, ?_, ?_⟩ ?_ hn n8 hw ht ⟨e1, e2⟩) gg (pu_g2_t (pu_g2_o a5) (pu_g2_t (pu_g2_s (to := 2123 + 5 * n) (x := v) (by omega)) (pu_g2_o e3))) (by rw [pu_st_ne (by omega)]; omega)
      · rw [pu_st_ne (by omega), c3.1 _ (by omega), a4.1 _ (by omega)]; exact v1
      · rw [e3.1 2 (by omega), pu_st_ne (by omega), a5.1 2 (by omega)]; exact v2
      · rw [pu_st_ne (by omega), c3.1 _ (by omega), a4.1 _ (by omega)]; exact v3
      · rw [e3.1 1 (by omega), pu_st_b (by omega), a5.1 1 (by omega)]; exact v4
      · rw [e3.1 1 (by omega), pu_st_a]
      · rw [e3.1 1 (by omega), pu_st_b (by omega), a5.1 1 (by omega)]; exact v7
      · rw [e3.1 1 (by omega), pu_st_b (by omega), a5.1 1 (by omega)]; exact v8
      · rw [e3.1 1 (by omega), pu_st_b (by omega), a5.1 1 (by omega)]; exact hS
    · rw [if_pos rfl, pu_b2, pm_j197d]
      have e2 : pu_dd T L (jq_st k1 (o + 10) n v) k2 := d1.mv (pu_st_ne (by omega)) (pu_st_ne (by omega)) (pu_st_ne (by omega)) rfl
      obtain ⟨ψ, f1, f2, f3⟩ := ps_j89d ho e2 (by omega) n8
      exact ⟨ψ, k2, 0, f1, rfl, pu_g1_t gg f3, pu_g2_o (pu_o0_t a5 (c6 rfl)), Or.inr ⟨rfl, f2⟩⟩
  · rw [if_neg z, th, pu_b2, if_pos rfl]
    exact pa_j89 ho hb hl hf hv hS hn n8 hw ht (by decide)
theorem pa_as0 (ho : o = 5 ∨ o = 25) (hb : pu_bd o b1 b2) (hl : pu_lv T L m1 m2) (hf : pu_aw o b1 b2 m1 m2 n) (h8 : m1 (o + 8) n = pu_c5 w ∧ m2 2 (57 + n) = pu_c8 w) (hz : ∀ c, 0 ≤ c → c < 5 → m2 1 (2122 + 5 * n + c) = 0) (hn : n = b2 1 2027) (n8 : n < 8) (hw : pu_wd w) : pu_IT o T L m1 m2 (pu_as0 o n m1) (jq_b2 (pu_am0 (2122 + 5 * n) m2) fun v s => X11_committeePart_j197 v s) := by
  have i3 : 0 ≤ b2 1 2027 ∧ b2 1 2027 ≤ 8 := hb.1.2.2.2.1
  obtain ⟨u1, u2, g, a1, a2, a3, a4, a5⟩ := pa_passKeyword (k := 11) (r := 11) hl (by decide) (by decide) (by decide)
  unfold pu_as0 pu_am0
  rw [a1, a2, Option.bind_some, pu_b2]
  rcases a5 with ⟨rfl, c1, c2⟩ | ⟨rfl, c1⟩
  · obtain ⟨v, k1, k2, g, d1, d2, d3, d4, d5, d6⟩ := pa_takeNumber (lo := 1) (hi := 30) (to := 2122 + 5 * n) c1 (by omega) (by omega)
    rw [if_neg (show ¬ ((1 : Int) = 0) by decide), d1, d2, pu_b2, pu_b2]
    rcases d4 with ⟨rfl, e1, e2⟩ | ⟨rfl, e1⟩
    · obtain ⟨f1, f2, f3⟩ := d5 rfl
      rw [if_neg (show ¬ ((1 : Int) = 0) by decide), pu_w (x := 2122 + 5 * n + 1) (by omega) (by omega), show 2122 + 5 * n + 1 = 2123 + 5 * n by omega, pu_sa (by omega) n8, Option.bind_some, pu_sa (by omega) n8, Option.bind_some, pu_sa (σ := k2) (by omega) (by omega), Option.bind_some]
      have ne : ∀ k, k ≠ o + 9 → k ≠ o + 10 → jq_st (jq_st k1 (o + 9) n v) (o + 10) n 16 k = k1 k := fun k x y => by rw [pu_st_ne y, pu_st_ne x]
      have l4 : pu_lv T L (jq_st (jq_st k1 (o + 9) n v) (o + 10) n 16) (jq_st k2 1 (2123 + 5 * n) 16) := e1.mv (ne 2 (by omega) (by omega)) (ne 3 (by omega) (by omega)) (ne 4 (by omega) (by omega)) (pu_st_ne (by omega)) (pu_st_ne (by omega))
      have w2 : pu_aw o b1 b2 (jq_st (jq_st k1 (o + 9) n v) (o + 10) n 16) (jq_st k2 1 (2123 + 5 * n) 16) n := pu_aw_2 (pu_aw_1 (pu_aw_1 (pu_aw_o ho (pu_aw_2 (pu_aw_o ho hf a3 a4) (k := 2122 + 5 * n) (x := v) (by omega) (by omega)) d3 f3) (k := o + 9) (by omega) (by omega)) (k := o + 10) (by omega) (by omega)) (by omega) (by omega)
      refine pu_IT_t (pa_as1 (w := w) (t := v) ho hb l4 w2 ⟨?_, ?_, ?_, ?_, pu_st_a, pu_st_a, ?_, ?_⟩ ?_ hn n8 hw ⟨f1, f2⟩) (pu_g1_t (pu_g1_o (pu_o2_t a3 d3)) (pu_g1_t (pu_g1_s (k := o + 9) (x := n) (f := v) (by omega) (by omega) (by omega)) (pu_g1_s (by omega) (by omega) (by omega)))) (pu_g2_t (pu_g2_o a4) (pu_g2_t (pu_g2_t (pu_g2_s (to := 2122 + 5 * n) (x := v) (by omega)) (pu_g2_o f3)) (pu_g2_s (by omega)))) (by rw [ne 2 (by omega) (by omega)]; omega)
      · rw [ne _ (by omega) (by omega), d3.1 _ (by omega), a3.1 _ (by omega)]; exact h8.1
      · rw [pu_st_ne (by omega), f3.1 2 (by omega), pu_st_ne (by omega), a4.1 2 (by omega)]; exact h8.2
      · rw [pu_st_ne (by omega), pu_st_a]
      · rw [pu_st_b (by omega), f3.1 1 (by omega), pu_st_a]
      · rw [pu_st_b (by omega), f3.1 1 (by omega), pu_st_b (by omega), a4.1 1 (by omega), show 2125 + 5 * n = 2122 + 5 * n + 3 by omega]; exact hz 3 (by decide) (by decide)
      · rw [pu_st_b (by omega), f3.1 1 (by omega), pu_st_b (by omega), a4.1 1 (by omega), show 2126 + 5 * n = 2122 + 5 * n + 4 by omega]; exact hz 4 (by decide) (by decide)
      · rw [pu_st_b (by omega), f3.1 1 (by omega), pu_st_b (by omega), a4.1 1 (by omega), show 2124 + 5 * n = 2122 + 5 * n + 2 by omega]; exact hz 2 (by decide) (by decide)
    · obtain ⟨ω, s1, s2, s3⟩ := ps_as0e (n := n) (x := v) ho e1 (by omega) n8
      rw [if_pos rfl, pu_b2, pm_j197d]
      exact ⟨ω, k2, 0, s1, rfl, pu_g1_t (pu_g1_o (pu_o2_t a3 d3)) s3, pu_g2_o (pu_o0_t a4 (d6 rfl)), Or.inr ⟨rfl, s2⟩⟩
  · obtain ⟨u3, d1, d2, d3⟩ := ps_takeNumberd (lo := 1) (hi := 30) c1
    obtain ⟨ω, s1, s2, s3⟩ := ps_as0e (n := n) (x := 1) ho d2 (by omega) n8
    rw [if_pos rfl, pu_b2, pm_j197d, d1, pu_b2]
    exact ⟨ω, u2, 0, s1, rfl, pu_g1_t (pu_g1_o (pu_o2_t a3 d3)) s3, pu_g2_o a4, Or.inr ⟨rfl, s2⟩⟩
theorem pa_article (ho : o = 5 ∨ o = 25) (hl : pu_lv T L m1 m2) (hb : pu_bd o m1 m2) (hk : m1 2 5 ≠ 0) : pu_IT o T L m1 m2 (X2_readArticle o m1) (jq_b2 (X11_anArticle m2) fun v s => X11_committeePart_j197 v s) := by
  have c2 : m1 o 2 = m2 1 2025 := hb.2.1.1.2.2.1
  have c4 : m1 o 4 = m2 1 2027 := hb.2.1.1.2.2.2.2.1
  have i1 : 0 ≤ m2 1 2025 ∧ m2 1 2025 ≤ 5 ∧ m2 1 2025 ≤ m2 1 2024 := hb.1.2.1
  have i3 : 0 ≤ m2 1 2027 ∧ m2 1 2027 ≤ 8 := hb.1.2.2.2.1
  have hz := hb.2.2.2.1.2.2.2.2
  have hs : ∀ s5 : jq_M, ((X5_passKeyword 11 s5).bind fun s6 => jq_b2 (X5_takeNumber 1 30 s6) fun v7 s8 => (jq_sa s8 (o + 9) 8 (m2 1 2027) v7).bind fun s9 => (jq_sa s9 (o + 10) 8 (m2 1 2027) 16).bind fun s10 => if s10 2 11 = 12 then (X5_next s10).bind fun s19 => jq_b2 (X5_takeNumber 0 16 s19) fun v20 s21 => (jq_sa s21 (o + 10) 8 (m2 1 2027) v20).bind fun s22 => X2_readArticle_j90 o (m2 1 2027) s22 else X2_readArticle_j90 o (m2 1 2027) s10) = pu_as0 o (m2 1 2027) s5 := fun _ => rfl
  have refe : X11_anArticle m2 = jq_b2 (X11_newOne 3 8 5 m2) fun v3 s4 => if v3 = 0 then some (0, s4) else pu_am0 (2122 + 5 * m2 1 2027) s4 := by
    unfold X11_anArticle
    rw [pu_ld (by omega) (by omega), Option.bind_some, pu_lt, pu_w (x := 5 * m2 1 2027) (by omega) (by omega), pu_w (x := 2122 + 5 * m2 1 2027) (by omega) (by omega)]
    rfl
  rw [refe]
  unfold X2_readArticle
  by_cases z : m2 1 2027 < 8
  · obtain ⟨u1, v, k1, k2, g, a1, a2, a3, a4, a5, a6, a7, a8⟩ := pa_newOne (p1 := 3) (p2 := 8) (p3 := 5) (n := m2 1 2027) ho hl hb hk (Or.inr ⟨rfl, rfl⟩) rfl i3.1 z z
    have uo : u1 o = m1 o := a2.1 o (by omega)
    rw [pu_lt, ps_within, Option.bind_some, c4, pu_i_p (show 0 ≤ m2 1 2027 ∧ m2 1 2027 ≤ 7 by omega), if_neg (show ¬ ((1 : Int) = 0) by decide), a1, Option.bind_some, a3, pu_b2, a5, pu_b2, pu_sa (by omega) z, Option.bind_some, hs]
    have k1k : ∀ k, k ≠ 2 → k1 k = m1 k := fun k hk => (a4.1 k hk).trans (a2.1 k hk)
    have gg : pu_g1 o m1 (jq_st k1 (o + 8) (m2 1 2027) v) := pu_g1_t (pu_g1_o (pu_o2_t a2 a4)) (pu_g1_s (by omega) (by omega) (by omega))
    rcases a6 with ⟨rfl, d1, d2⟩ | ⟨rfl, d1⟩
    · obtain ⟨w, w1, w2, w3⟩ := a7 rfl
      rw [if_neg (show ¬ ((1 : Int) = 0) by decide)]
      have l4 : pu_lv T L (jq_st k1 (o + 8) (m2 1 2027) v) k2 := d1.mv (pu_st_ne (by omega)) (pu_st_ne (by omega)) (pu_st_ne (by omega)) rfl rfl
      refine pu_IT_t (pa_as0 (n := m2 1 2027) (w := w) ho hb l4 ⟨fun k x y => ?_, fun k x y j hj => ?_, fun j hj => ?_, fun j hj => ?_⟩ ⟨?_, ?_⟩ (fun c x y => ?_) rfl z w1) gg (pu_g2_t (pu_g2_n (to := 52 + 5 + m2 1 2027) (x := pu_c8 w) (by omega)) (pu_g2_o w3)) (by rw [pu_st_ne (by omega)]; omega)
      · rw [pu_st_ne (by omega)]; exact k1k k x
      · rw [← k1k k (by omega)]
        by_cases e : k = o + 8
        · rw [e, pu_st_b hj]
        · rw [pu_st_ne e]
      · rw [w3.1 1 (by omega), pu_st_ne (by omega)]
      · rw [w3.1 2 (by omega), pu_st_b (by omega)]
      · rw [pu_st_a]; exact w2
      · rw [w3.1 2 (by omega), show 57 + m2 1 2027 = 52 + 5 + m2 1 2027 by omega, pu_st_a]
      · rw [w3.1 1 (by omega), pu_st_ne (by omega)]
        have := hz (m2 1 2027) (Int.le_refl _) z c x y
        rw [← this]
        unfold pu_nB
        congr 1
        omega
    · rw [if_pos rfl, pu_b2, pm_j197d]
      have e2 : pu_dd T L (jq_st k1 (o + 8) (m2 1 2027) v) k2 := d1.mv (pu_st_ne (by omega)) (pu_st_ne (by omega)) (pu_st_ne (by omega)) rfl
      obtain ⟨ψ, f1, f2, f3⟩ := ps_as0d ho e2 i3.1 z
      exact ⟨ψ, k2, 0, f1, rfl, pu_g1_t gg f3, pu_g2_o (a8 rfl), Or.inr ⟨rfl, f2⟩⟩
  · obtain ⟨u1, u2, a1, a2, a3, a4, a5⟩ := pa_blame (f := 6) hl (by decide)
    rw [pu_lt, ps_within, Option.bind_some, c4, pu_i_n (show ¬ (0 ≤ m2 1 2027 ∧ m2 1 2027 ≤ 7) by omega), if_pos rfl, a1, Option.bind_some]
    unfold X11_newOne
    rw [pu_w (x := 2024 + 3) (by omega) (by omega), show (2024 : Int) + 3 = 2027 from rfl, pu_ld (by omega) (by omega), Option.bind_some, if_neg z, a2, pu_b2, pu_b2, if_pos rfl, pu_b2, pm_j197d]
    exact ⟨u1, u2, 0, rfl, rfl, pu_g1_o a4, pu_g2_o a5, Or.inr ⟨rfl, a3⟩⟩
end
