section
variable {T : Int → Int} {L e x y v n l s a c d : Int} {b1 b2 m m1 m2 m3 σ τ τ1 τ2 : jq_M} {o f k lo hi to base cnt p1 p2 : Int} {A B N : Int → Int} {w : List Int}
noncomputable def pu_mkd (p1 v2 : Int) (s6 : jq_M) : Option (Int × jq_M) := (X11_inWords s6).bind fun v8 => if v8 = 8 then X11_aWish_j79 p1 v2 v8 s6 else if v8 = 9 then X11_aWish_j79 p1 v2 v8 s6 else if v8 = 1 then X11_aWish_j79 p1 v2 v8 s6 else jq_b2 (X11_fails 2 s6) fun v50 s51 => some (v50, s51)
theorem pu_bd_nm (hb : pu_bd o b1 b2) (h1 : m1 (o + 1) = b1 (o + 1)) (h2 : m2 2 = b2 2) : ∀ p, 0 ≤ p → p < b2 1 2025 → pu_nm (m1 (o + 1) p) (m2 2 (52 + p)) := fun p x y => by
  rw [h1, h2]
  exact hb.2.2.1.1 p x y
/-- beside, facing: whom -/
theorem pa_wwho (ho : o = 5 ∨ o = 25) (hb : pu_bd o b1 b2) (hl : pu_lv T L m1 m2) (hf : pu_wf o b1 b2 m1 m2 n) (h5 : m2 1 (2042 + 4 * n) = a) (hc : c = 0 ∨ c = 1) (hn : n = b2 1 2026) (n2 : n < 20) (ha : 0 ≤ a ∧ a < b2 1 2025) (hp : p2 = 1 ∧ p1 = 1 ∨ p2 = -1 ∧ p1 = 0) (hk : m1 2 5 ≠ 0) (hj : k = 8 ∨ k = 9) : pu_IT o T L m1 m2 (jq_b2 ((X5_next m1).bind fun s4 => some (c, s4)) fun v7 s8 => (jq_sa s8 (o + 4) 20 n a).bind fun s9 => (jq_sa s9 (o + 5) 20 n v7).bind fun s10 => if v7 = 2 then pu_wmd o p2 n (-1) s10 else pu_wot o p2 n a s10) (jq_b2 (X11_aWish_j107 p1 (2042 + 4 * n) k (2043 + 4 * n) c m2) fun v s => X11_committeePart_j197 v s) := by
  have i1 : 0 ≤ b2 1 2025 ∧ b2 1 2025 ≤ 5 ∧ b2 1 2025 ≤ b2 1 2024 := hb.1.2.1
  have i2 : 0 ≤ b2 1 2026 ∧ b2 1 2026 ≤ 20 := hb.1.2.2.1
  have l0 : pu_lv T L m1 (jq_st (jq_st m2 1 (2043 + 4 * n) c) 1 (2044 + 4 * n) (-1)) := hl.mv rfl rfl rfl (by rw [pu_st_ne (by omega), pu_st_ne (by omega)]) (by rw [pu_st_ne (by omega), pu_st_ne (by omega)])
  have f0 : pu_wf o b1 b2 m1 (jq_st (jq_st m2 1 (2043 + 4 * n) c) 1 (2044 + 4 * n) (-1)) n := pu_wf_2 (pu_wf_2 hf (by omega) (by omega)) (by omega) (by omega)
  obtain ⟨u0, u2, a1, a2, a0, a4, a5, a6, a7⟩ := pa_adv l0
  obtain ⟨u1, hu1⟩ : ∃ u1, u1 = jq_st (jq_st u0 (o + 4) n a) (o + 5) n c := ⟨_, rfl⟩
  have u1k : ∀ k, k ≠ o + 4 → k ≠ o + 5 → u1 k = u0 k := fun k x y => by rw [hu1, pu_st_ne y, pu_st_ne x]
  have a3 : pu_lv T L u1 u2 := a0.mv (u1k 2 (by omega) (by omega)) (u1k 3 (by omega) (by omega)) (u1k 4 (by omega) (by omega)) rfl rfl
  have f1 : pu_wf o b1 b2 u1 u2 n := by
    rw [hu1]
    exact pu_wf_1 (pu_wf_1 (pu_wf_o ho f0 a4 a5) (by omega) (by omega)) (by omega) (by omega)
  have prog : m1 2 6 < u1 2 6 := by
    rw [u1k 2 (by omega) (by omega)]
    exact a7 hk
  have u14 : u1 (o + 4) n = a := by rw [hu1, pu_st_ne (by omega), pu_st_a]
  have u15 : u1 (o + 5) n = c := by rw [hu1, pu_st_a]
  have u20 : u2 1 (2042 + 4 * n) = a := by rw [a5.1 1 (by omega), pu_st_b (by omega), pu_st_b (by omega)]; exact h5
  have u21 : u2 1 (2043 + 4 * n) = c := by rw [a5.1 1 (by omega), pu_st_b (by omega), pu_st_a]
  have u25 : u2 1 2025 = b2 1 2025 := f1.2.2.1 _ (by omega)
  have cnt : u1 o 2 = b2 1 2025 := by rw [f1.1 o (by omega) (by omega)]; exact hb.2.1.1.2.2.1
  have nms := pu_bd_nm hb (f1.1 (o + 1) (by omega) (by omega)) f1.2.2.2
  have g0 : pu_g1 o m1 u1 := pu_g1_t (pu_g1_o a4) (by rw [hu1]; exact pu_g1_t (pu_g1_s (by omega) (by omega) (by omega)) (pu_g1_s (by omega) (by omega) (by omega)))
  have g0' : pu_g2 m2 u2 := pu_g2_t (pu_g2_t (pu_g2_s (to := 2043 + 4 * n) (x := c) (by omega)) (pu_g2_s (to := 2044 + 4 * n) (x := -1) (by omega))) (pu_g2_o a5)
  have refe : X11_aWish_j107 p1 (2042 + 4 * n) k (2043 + 4 * n) c m2 = (X11_isName u2).bind fun v37 => if v37 = 0 then X11_aWish_j164 p1 (2042 + 4 * n) u2 else (X11_findHere 52 (b2 1 2025) u2).bind fun v45 => if v45 = a then jq_b2 (X11_fails 5 u2) fun v47 s48 => some (v47, s48) else X11_aWish_j164 p1 (2042 + 4 * n) u2 := by
    unfold X11_aWish_j107
    rw [pu_sa (by omega) (by omega), Option.bind_some, pu_w (x := 2042 + 4 * n + 2) (by omega) (by omega), show 2042 + 4 * n + 2 = 2044 + 4 * n by omega, pu_sa (by omega) (by omega), Option.bind_some, a2, Option.bind_some, if_neg (by omega), pu_ld (by omega) (by omega), Option.bind_some, u25, pu_ld (by omega) (by omega), u20]
    rfl
  have j164 : X11_aWish_j164 p1 (2042 + 4 * n) u2 = jq_b2 (X11_oldOne 52 (b2 1 2025) (2044 + 4 * n) u2) fun v41 s42 => if v41 = 0 then some (0, s42) else X11_aWish_j176 p1 (2042 + 4 * n) s42 := by
    unfold X11_aWish_j164
    rw [pu_w (x := 2042 + 4 * n + 2) (by omega) (by omega), show 2042 + 4 * n + 2 = 2044 + 4 * n by omega, pm_partyTo (by rw [u25]; omega), u25]
  have clse : (jq_b2 ((X5_next m1).bind fun s4 => some (c, s4)) fun v7 s8 => (jq_sa s8 (o + 4) 20 n a).bind fun s9 => (jq_sa s9 (o + 5) 20 n v7).bind fun s10 => if v7 = 2 then pu_wmd o p2 n (-1) s10 else pu_wot o p2 n a s10) = jq_b2 (jq_b2 (X5_partyHere o u1) fun v1 s2 => if v1 = a then (X5_blame 5 s2).bind fun s6 => X2_takeOther_j16 v1 s6 else X2_takeOther_j16 v1 s2) fun v11 s12 => pu_wmd o p2 n v11 s12 := by
    rw [a1, Option.bind_some, pu_b2, pu_sa (by omega) n2, Option.bind_some, pu_sa (by omega) n2, Option.bind_some, ← hu1, if_neg (show ¬ c = 2 by omega)]
    rfl
  have nm := pm_isName a3.1
  rw [refe, clse, nm, Option.bind_some]
  obtain ⟨-, -, -, -, -, -, -, -, -, -, -, -, -, -, q1⟩ := pu_tk_p a3.1
  have dead : ∀ (q t2 : jq_M) (v : Int), pu_dd T L q t2 → pu_o2 u1 q → pu_g2 u2 t2 → pu_IT o T L m1 m2 (jq_b2 (jq_b2 (some (v, q)) fun v1 s2 => if v1 = a then (X5_blame 5 s2).bind fun s6 => X2_takeOther_j16 v1 s6 else X2_takeOther_j16 v1 s2) fun v11 s12 => pu_wmd o p2 n v11 s12) (some (0, t2)) := fun q t2 v hd h2 hg => by
    obtain ⟨u4, c1, c2, c3⟩ := ps_nextd hd
    obtain ⟨ω, s1, s2, s3⟩ := ps_wmdd (n := n) (p2 := p2) (x := v) ho c2 (by omega) n2
    have e : (if v = a then (X5_blame 5 q).bind fun s6 => X2_takeOther_j16 v s6 else X2_takeOther_j16 v q) = some (v, u4) := by
      rw [ps_blamed hd, Option.bind_some]
      unfold X2_takeOther_j16
      rw [c1]
      split <;> rfl
    rw [pu_b2, e, pu_b2]
    exact ⟨ω, t2, 0, s1, rfl, pu_g1_t g0 (pu_g1_t (pu_g1_o h2) (pu_g1_t (pu_g1_o c3) s3)), pu_g2_t g0' hg, Or.inr ⟨rfl, s2⟩⟩
  rcases pa_partyHere (o := o) (base := 52) a3 cnt i1.1 i1.2.1 (by decide) (by decide) nms with ⟨h1, v, h2, h3, h4, h5'⟩ | ⟨h1, h2, h3⟩ | ⟨h1, h2⟩
  · rw [h1, if_neg (show ¬ ((1 : Int) = 0) by decide), h5', Option.bind_some]
    by_cases z : v = a
    · obtain ⟨k1, k2, d1, d2, d3, d4, d5⟩ := pa_blame (f := 5) a3 (by decide)
      obtain ⟨u4, c1, c2, c3⟩ := ps_nextd d3
      obtain ⟨ω, s1, s2, s3⟩ := ps_wmdd (n := n) (p2 := p2) (x := v) ho c2 (by omega) n2
      rw [h4, pu_b2, if_pos z, d1, Option.bind_some, if_pos z, d2, pu_b2, pu_b2, pm_j197d]
      unfold X2_takeOther_j16
      rw [c1, Option.bind_some, pu_b2]
      exact ⟨ω, k2, 0, s1, rfl, pu_g1_t g0 (pu_g1_t (pu_g1_o (pu_o2_t d4 c3)) s3), pu_g2_t g0' (pu_g2_o d5), Or.inr ⟨rfl, s2⟩⟩
    · have l4 : pu_lv T L u1 (jq_st u2 1 (2044 + 4 * n) v) := a3.mv rfl rfl rfl (pu_st_ne (by omega)) (pu_st_ne (by omega))
      obtain ⟨k1, k2, d1, d2, d3, d4, d5, d6, d7⟩ := pa_adv l4
      rw [h4, pu_b2, if_neg z, if_neg z, j164, pm_oldOne a3 h1 h5' h2 (by omega) (by omega), d2, Option.bind_some, pu_b2, if_neg (show ¬ ((1 : Int) = 0) by decide)]
      unfold X2_takeOther_j16
      rw [d1, Option.bind_some, pu_b2]
      unfold pu_wmd
      rw [pu_sa (by omega) n2, Option.bind_some]
      have f2 : pu_wf o b1 b2 (jq_st k1 (o + 6) n v) k2 n := pu_wf_1 (pu_wf_o ho (pu_wf_2 f1 (k := 2044 + 4 * n) (x := v) (by omega) (by omega)) d4 d5) (by omega) (by omega)
      have l5 : pu_lv T L (jq_st k1 (o + 6) n v) k2 := d3.mv (pu_st_ne (by omega)) (pu_st_ne (by omega)) (pu_st_ne (by omega)) rfl rfl
      refine pu_IT_t (pa_wtl (a := a) (c := c) (d := v) ho hb l5 f2 ⟨?_, ?_, ?_, ?_, ?_, ?_⟩ hn n2 ha (Or.inr ⟨hc, h2, h3⟩) (by omega) hp) (pu_g1_t g0 (pu_g1_t (pu_g1_o d4) (pu_g1_s (k := o + 6) (x := n) (f := v) (by omega) (by omega) (by omega)))) (pu_g2_t g0' (pu_g2_t (pu_g2_s (to := 2044 + 4 * n) (x := v) (by omega)) (pu_g2_o d5))) (by rw [pu_st_ne (by omega)]; omega)
      · rw [pu_st_ne (by omega), d4.1 _ (by omega)]; exact u14
      · rw [d5.1 1 (by omega), pu_st_b (by omega)]; exact u20
      · rw [pu_st_ne (by omega), d4.1 _ (by omega)]; exact u15
      · rw [d5.1 1 (by omega), pu_st_b (by omega)]; exact u21
      · rw [pu_st_a]
      · rw [d5.1 1 (by omega), pu_st_a]
  · have l4 : pu_lv T L u1 (jq_st u2 1 (2044 + 4 * n) (-1)) := a3.mv rfl rfl rfl (pu_st_ne (by omega)) (pu_st_ne (by omega))
    obtain ⟨k1, k2, d1, d2, d3, d4, d5⟩ := pa_blame (f := 3) l4 (by decide)
    rw [h1, if_neg (show ¬ ((1 : Int) = 0) by decide), h2, Option.bind_some, if_neg (by omega), j164, pm_oldOne3 a3 h1 h2 (by omega) (by omega), d2, pu_b2, pu_b2, if_pos rfl, pu_b2, pm_j197d, h3 k1 d1 (Or.inr (ps_faultd d3))]
    exact dead k1 k2 0 d3 d4 (pu_g2_t (pu_g2_s (by omega)) (pu_g2_o d5))
  · obtain ⟨k1, k2, d1, d2, d3, d4, d5⟩ := pa_blame (f := 2) a3 (by decide)
    rw [h1, if_pos rfl, j164, pm_oldOne2 a3 h1, d2, pu_b2, pu_b2, if_pos rfl, pu_b2, pm_j197d, h2 k1 d1 (ps_faultd d3)]
    exact dead k1 k2 0 d3 d4 (pu_g2_o d5)
theorem pa_wkd (ho : o = 5 ∨ o = 25) (hb : pu_bd o b1 b2) (hl : pu_lv T L m1 m2) (hf : pu_wf o b1 b2 m1 m2 n) (h5 : m2 1 (2042 + 4 * n) = a) (hn : n = b2 1 2026) (n2 : n < 20) (ha : 0 ≤ a ∧ a < b2 1 2025) (hp : p2 = 1 ∧ p1 = 1 ∨ p2 = -1 ∧ p1 = 0) : pu_IT o T L m1 m2 (pu_wkd o p2 n a m1) (jq_b2 (pu_mkd p1 (2042 + 4 * n) m2) fun v s => X11_committeePart_j197 v s) := by
  have i2 : 0 ≤ b2 1 2026 ∧ b2 1 2026 ≤ 20 := hb.1.2.2.1
  obtain ⟨-, -, -, -, -, -, -, -, -, -, -, -, t1, t2, -⟩ := pu_tk_p hl.1
  have ri : ∀ k : Int, 0 ≤ k → k < 28 → (pu_ri (m1 2 11) = pu_ri k ↔ m1 2 11 = k) := fun k x y => pu_ri_i t1.1 t1.2 (by omega) y
  unfold pu_wkd pu_mkd X11_aWish_j79
  rw [pm_inWords hl.1, Option.bind_some, pu_w (x := 2042 + 4 * n + 1) (by omega) (by omega), show 2042 + 4 * n + 1 = 2043 + 4 * n by omega]
  by_cases z1 : m1 2 11 = 1
  · have l0 : pu_lv T L m1 (jq_st (jq_st m2 1 (2043 + 4 * n) 2) 1 (2044 + 4 * n) (-1)) := hl.mv rfl rfl rfl (by rw [pu_st_ne (by omega), pu_st_ne (by omega)]) (by rw [pu_st_ne (by omega), pu_st_ne (by omega)])
    have f0 : pu_wf o b1 b2 m1 (jq_st (jq_st m2 1 (2043 + 4 * n) 2) 1 (2044 + 4 * n) (-1)) n := pu_wf_2 (pu_wf_2 hf (by omega) (by omega)) (by omega) (by omega)
    obtain ⟨u1, u2, a1, a2, a3, a4, a5, a6, a7⟩ := pa_adv l0
    rw [ps_tk1 z1, a1, Option.bind_some, pu_b2, pu_sa (by omega) n2, Option.bind_some, pu_sa (by omega) n2, Option.bind_some, if_pos (show (2 : Int) = 2 from rfl)]
    unfold pu_wmd
    rw [pu_sa (by omega) n2, Option.bind_some, z1, show pu_ri 1 = 1 from rfl, if_neg (show ¬ ((1 : Int) = 8) by decide), if_neg (show ¬ ((1 : Int) = 9) by decide), if_pos rfl, if_neg (show ¬ ((1 : Int) = 8) by decide), if_neg (show ¬ ((1 : Int) = 9) by decide)]
    unfold X11_aWish_j107
    rw [pu_sa (by omega) (by omega), Option.bind_some, pu_w (x := 2042 + 4 * n + 2) (by omega) (by omega), show 2042 + 4 * n + 2 = 2044 + 4 * n by omega, pu_sa (by omega) (by omega), Option.bind_some, a2, Option.bind_some, if_pos rfl]
    have st : ∀ k, k ≠ o + 4 → k ≠ o + 5 → k ≠ o + 6 → jq_st (jq_st (jq_st u1 (o + 4) n a) (o + 5) n 2) (o + 6) n (-1) k = u1 k := fun k x y w => by rw [pu_st_ne w, pu_st_ne y, pu_st_ne x]
    refine pu_IT_t (pa_wtl (a := a) (c := 2) (d := -1) ho hb (a3.mv (st 2 (by omega) (by omega) (by omega)) (st 3 (by omega) (by omega) (by omega)) (st 4 (by omega) (by omega) (by omega)) rfl rfl) (pu_wf_1 (pu_wf_1 (pu_wf_1 (pu_wf_o ho f0 a4 a5) (by omega) (by omega)) (by omega) (by omega)) (by omega) (by omega)) ⟨?_, ?_, ?_, ?_, ?_, ?_⟩ hn n2 ha (Or.inl rfl) (by omega) hp) (pu_g1_t (pu_g1_o a4) (pu_g1_t (pu_g1_s (by omega) (by omega) (by omega)) (pu_g1_t (pu_g1_s (by omega) (by omega) (by omega)) (pu_g1_s (by omega) (by omega) (by omega))))) (pu_g2_t (pu_g2_t (pu_g2_s (to := 2043 + 4 * n) (x := 2) (by omega)) (pu_g2_s (to := 2044 + 4 * n) (x := -1) (by omega))) (pu_g2_o a5)) (by rw [st 2 (by omega) (by omega) (by omega)]; omega)
    · rw [pu_st_ne (by omega), pu_st_ne (by omega), pu_st_a]
    · rw [a5.1 1 (by omega), pu_st_b (by omega), pu_st_b (by omega)]; exact h5
    · rw [pu_st_ne (by omega), pu_st_a]
    · rw [a5.1 1 (by omega), pu_st_b (by omega), pu_st_a]
    · rw [pu_st_a]
    · rw [a5.1 1 (by omega), pu_st_a]
  · by_cases z7 : m1 2 11 = 7
    · rw [ps_tk7 z7, if_pos (show pu_ri (m1 2 11) = 8 by rw [z7]; rfl), if_pos (show pu_ri (m1 2 11) = 8 by rw [z7]; rfl), show pu_ri (m1 2 11) = 8 by rw [z7]; rfl]
      exact pa_wwho ho hb hl hf h5 (Or.inl rfl) hn n2 ha hp (by have := t2 (by omega); omega) (Or.inl rfl)
    · by_cases z8 : m1 2 11 = 8
      · have r9 : pu_ri (m1 2 11) = 9 := by rw [z8]; rfl
        rw [ps_tk8 z8, r9, if_neg (show ¬ ((9 : Int) = 8) by decide), if_neg (show ¬ ((9 : Int) = 8) by decide), if_pos rfl, if_pos rfl]
        exact pa_wwho ho hb hl hf h5 (Or.inr rfl) hn n2 ha hp (by have := t2 (by omega); omega) (Or.inr rfl)
      · obtain ⟨k1, k2, d1, d2, d3, d4, d5⟩ := pa_blame (f := 2) hl (by decide)
        obtain ⟨u4, c1, c2, c3⟩ := ps_nextd d3
        have d6 : pu_dd T L (jq_st (jq_st u4 (o + 4) n a) (o + 5) n 2) k2 := c2.mv (by rw [pu_st_ne (by omega), pu_st_ne (by omega)]) (by rw [pu_st_ne (by omega), pu_st_ne (by omega)]) (by rw [pu_st_ne (by omega), pu_st_ne (by omega)]) rfl
        obtain ⟨ω, s1, s2, s3⟩ := ps_wmdd (n := n) (p2 := p2) (x := -1) ho d6 (by omega) n2
        rw [ps_tk0 z7 z8 z1, d1, Option.bind_some, c1, Option.bind_some, pu_b2, pu_sa (by omega) n2, Option.bind_some, pu_sa (by omega) n2, Option.bind_some, if_pos (show (2 : Int) = 2 from rfl), if_neg (fun g => z7 ((ri 7 (by decide) (by decide)).mp (g.trans rfl))), if_neg (fun g => z8 ((ri 8 (by decide) (by decide)).mp (g.trans rfl))), if_neg (fun g => z1 ((ri 1 (by decide) (by decide)).mp (g.trans rfl))), d2, pu_b2, pu_b2, pm_j197d]
        exact ⟨ω, k2, 0, s1, rfl, pu_g1_t (pu_g1_o (pu_o2_t d4 c3)) (pu_g1_t (pu_g1_t (pu_g1_s (by omega) (by omega) (by omega)) (pu_g1_s (by omega) (by omega) (by omega))) s3), pu_g2_o d5, Or.inr ⟨rfl, s2⟩⟩
theorem pa_wish (ho : o = 5 ∨ o = 25) (hl : pu_lv T L m1 m2) (hb : pu_bd o m1 m2) (hk : m1 2 5 ≠ 0) (hp : p2 = 1 ∧ p1 = 1 ∨ p2 = -1 ∧ p1 = 0) : pu_IT o T L m1 m2 (X2_readWish o p2 m1) (jq_b2 (X11_aWish p1 m2) fun v s => X11_committeePart_j197 v s) := by
  have c2 : m1 o 2 = m2 1 2025 := hb.2.1.1.2.2.1
  have c3 : m1 o 3 = m2 1 2026 := hb.2.1.1.2.2.2.1
  have i1 : 0 ≤ m2 1 2025 ∧ m2 1 2025 ≤ 5 ∧ m2 1 2025 ≤ m2 1 2024 := hb.1.2.1
  have i2 : 0 ≤ m2 1 2026 ∧ m2 1 2026 ≤ 20 := hb.1.2.2.1
  unfold X2_readWish X11_aWish
  rw [pu_lt, ps_within, Option.bind_some, c3, pu_ld (by omega) (by omega), Option.bind_some, pu_lt, Option.bind_some, pu_w (x := 4 * m2 1 2026) (by omega) (by omega), pu_w (x := 2042 + 4 * m2 1 2026) (by omega) (by omega)]
  by_cases z : m2 1 2026 < 20
  · obtain ⟨u1, u2, a1, a2, a3, a4, a5, a6, a7⟩ := pa_adv hl
    have prog := a7 hk
    have uo : ∀ k, k ≠ 2 → u1 k = m1 k := a4.1
    have um : u2 1 = m2 1 := a5.1 1 (by omega)
    obtain ⟨v, k1, k2, g, b1, b2, b3, b4, b5, b6⟩ := pa_takeParty (o := o) (base := 52) (to := 2042 + 4 * m2 1 2026) a3 (by rw [uo o (by omega)]; exact c2) i1.1 i1.2.1 (by decide) (by decide) (pu_bd_nm hb (uo _ (by omega)) (a5.1 2 (by omega))) (by omega) (by omega)
    rw [pu_i_p (show 0 ≤ m2 1 2026 ∧ m2 1 2026 ≤ 19 by omega), if_neg (show ¬ ((1 : Int) = 0) by decide), if_neg (by omega), a1, a2, Option.bind_some, Option.bind_some, b1, pu_b2, pm_partyTo (by rw [um]; omega), um, b2, pu_b2]
    show pu_IT o T L m1 m2 (pu_wkd o p2 (m2 1 2026) v k1) _
    have k1k : ∀ k, k ≠ 2 → k1 k = m1 k := fun k hk => (b3.1 k hk).trans (uo k hk)
    have gg : pu_g1 o m1 k1 := pu_g1_o (pu_o2_t a4 b3)
    rcases b4 with ⟨rfl, d1, d2⟩ | ⟨rfl, d1⟩
    · obtain ⟨e1, e2, e3⟩ := b5 rfl
      rw [if_neg (show ¬ ((1 : Int) = 0) by decide)]
      refine pu_IT_t (pa_wkd (a := v) ho hb d1 ⟨fun k x y => k1k k x, fun k x y j hj => by rw [k1k k (by omega)], fun j hj => ?_, ?_⟩ ?_ rfl z ⟨e1, e2⟩ hp) gg (pu_g2_t (pu_g2_o a5) (pu_g2_t (pu_g2_s (to := 2042 + 4 * m2 1 2026) (x := v) (by omega)) (pu_g2_o e3))) (by omega)
      · rw [e3.1 1 (by omega), pu_st_b (by omega), um]
      · rw [e3.1 2 (by omega), pu_st_ne (by omega)]; exact a5.1 2 (by omega)
      · rw [e3.1 1 (by omega), pu_st_a]
    · obtain ⟨e1, yy, e2⟩ := b6 rfl
      obtain ⟨ω, s1, s2, s3⟩ := ps_wkdd (p2 := p2) (a := v) ho d1 (by rw [k1k o (by omega), c2]; omega) i2.1 z
      rw [if_pos rfl, pu_b2, pm_j197d]
      exact ⟨ω, k2, 0, s1, rfl, pu_g1_t gg s3, pu_g2_t (pu_g2_o a5) (pu_g2_t (pu_g2_s (to := 2042 + 4 * m2 1 2026) (x := yy) (by omega)) (pu_g2_o e2)), Or.inr ⟨rfl, s2⟩⟩
  · obtain ⟨u1, u2, a1, a2, a3, a4, a5⟩ := pa_blame (f := 6) hl (by decide)
    rw [pu_i_n (show ¬ (0 ≤ m2 1 2026 ∧ m2 1 2026 ≤ 19) by omega), if_pos rfl, if_pos (by omega), a1, a2, pu_b2, pu_b2, pm_j197d]
    exact ⟨u1, u2, 0, rfl, rfl, pu_g1_o a4, pu_g2_o a5, Or.inr ⟨rfl, a3⟩⟩
end
