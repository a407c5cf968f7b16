section
variable {T : Int → Int} {L e x y v n l s a c d : Int} {b1 b2 m m1 m2 m3 σ τ τ1 τ2 : jq_M} {o f k lo hi to base cnt p1 p2 : Int} {A B N : Int → Int} {w : List Int}
noncomputable def pu_wtl (o p2 n : Int) (s7 : jq_M) : Option jq_M := (X5_passKeyword 9 s7).bind fun s8 => jq_b2 (X5_takeNumber 1 9 s8) fun v9 s10 => pu_wend o n (jq_w (p2 * v9)) s10
theorem ps_wtld (ho : o = 5 ∨ o = 25) (hl : pu_dd T L m1 m2) (n0 : 0 ≤ n) (n2 : n < 20) : ∃ τ, pu_wtl o p2 n m1 = some τ ∧ pu_dd T L τ m2 ∧ pu_g1 o m1 τ := by
  obtain ⟨u1, a1, a2, a3⟩ := ps_passKeywordd (k := 9) hl
  obtain ⟨u2, c1, c2, c3⟩ := ps_takeNumberd (lo := 1) (hi := 9) a2
  obtain ⟨u3, d1, d2, d3⟩ := ps_wendd (y := jq_w (p2 * 1)) ho c2 n0 n2
  unfold pu_wtl
  rw [a1, Option.bind_some, c1, pu_b2]
  exact ⟨u3, d1, d2, pu_g1_t (pu_g1_o (pu_o2_t a3 c3)) d3⟩
theorem pa_wtl (ho : o = 5 ∨ o = 25) (hb : pu_bd o b1 b2) (hl : pu_lv T L m1 m2) (hf : pu_wf o b1 b2 m1 m2 n) (hv : pu_wv o m1 m2 n a c d) (hn : n = b2 1 2026) (n2 : n < 20) (ha : 0 ≤ a ∧ a < b2 1 2025) (hc : c = 2 ∨ (c = 0 ∨ c = 1) ∧ 0 ≤ d ∧ d < b2 1 2025) (hd : -1 ≤ d) (hp : p2 = 1 ∧ p1 = 1 ∨ p2 = -1 ∧ p1 = 0) : pu_IT o T L m1 m2 (pu_wtl o p2 n m1) (jq_b2 (X11_aWish_j176 p1 (2042 + 4 * n) m2) fun v s => X11_committeePart_j197 v s) := by
  have i2 : 0 ≤ b2 1 2026 ∧ b2 1 2026 ≤ 20 := hb.1.2.2.1
  obtain ⟨u1, u2, g, a1, a2, a3, a4, a5⟩ := pa_passKeyword (k := 9) (r := 10) hl (by decide) (by decide) (by decide)
  unfold pu_wtl X11_aWish_j176
  rw [a1, a2, Option.bind_some, pu_b2]
  rcases a5 with ⟨rfl, c1, c2⟩ | ⟨rfl, c1⟩
  · obtain ⟨v, k1, k2, g, d1, d2, d3, d4, d5, d6⟩ := pa_takeNumber (lo := 1) (hi := 9) (to := 2045 + 4 * n) c1 (by omega) (by omega)
    rw [if_neg (show ¬ ((1 : Int) = 0) by decide), pu_w (x := 2042 + 4 * n + 3) (by omega) (by omega), show 2042 + 4 * n + 3 = 2045 + 4 * n by omega, d1, d2, pu_b2, pu_b2]
    rcases d4 with ⟨rfl, e1, e2⟩ | ⟨rfl, e1⟩
    · obtain ⟨f1, f2, f3⟩ := d5 rfl
      have kv : k2 1 (2045 + 4 * n) = v := by rw [f3.1 1 (by omega), pu_st_a]
      have wf2 : pu_wf o b1 b2 k1 k2 n := pu_wf_o ho (pu_wf_2 (pu_wf_o ho hf a3 a4) (k := 2045 + 4 * n) (by omega) (by omega)) d3 f3
      have wv2 : pu_wv o k1 k2 n a c d := by
        obtain ⟨v1, v2, v3, v4, v5, v6⟩ := pu_wv_o ho hv a3 a4
        refine pu_wv_o ho (τ1 := k1) (τ2 := k2) (m1 := u1) (m2 := jq_st u2 1 (2045 + 4 * n) v) ⟨v1, ?_, v3, ?_, v5, ?_⟩ d3 f3
        · rw [pu_st_b (by omega)]; exact v2
        · rw [pu_st_b (by omega)]; exact v4
        · rw [pu_st_b (by omega)]; exact v6
      have fin : ∀ y, jq_w (p2 * v) = y → -9 ≤ y → y ≤ 9 → pu_IT o T L m1 m2 (pu_wend o n (jq_w (p2 * v)) k1) (jq_b2 ((jq_sa k2 1 3174 (2045 + 4 * n) y).bind fun s34 => (jq_ld s34 1 3174 2026).bind fun v35 => (jq_sa s34 1 3174 2026 (jq_w (v35 + 1))).bind fun s36 => some ((1 : Int), s36)) fun v s => X11_committeePart_j197 v s) := fun y h1 h2 h3 => by
        rw [h1]
        exact pu_IT_t (pa_wend ho hb e1 wf2 wv2 hn n2 ha hc hd ⟨h2, h3⟩) (pu_g1_o (pu_o2_t a3 d3)) (pu_g2_t (pu_g2_o a4) (pu_g2_t (pu_g2_s (to := 2045 + 4 * n) (x := v) (by omega)) (pu_g2_o f3))) (by omega)
      unfold X11_aWish_j220
      rw [if_neg (show ¬ ((1 : Int) = 0) by decide), pu_lt, pu_ld (by omega) (by omega), Option.bind_some, kv]
      rcases hp with ⟨rfl, rfl⟩ | ⟨rfl, rfl⟩
      · rw [if_neg (show ¬ ((1 : Int) = 0) by decide)]
        exact fin _ (by rw [Int.mul_comm]) (by rw [pu_w (by omega) (by omega)]; omega) (by rw [pu_w (by omega) (by omega)]; omega)
      · rw [if_pos rfl]
        exact fin _ (by rw [Int.mul_comm]) (by rw [pu_w (by omega) (by omega)]; omega) (by rw [pu_w (by omega) (by omega)]; omega)
    · obtain ⟨ω, s1, s2, s3⟩ := ps_wendd (n := n) (y := jq_w (p2 * v)) ho e1 (by omega) n2
      rw [if_pos rfl, pu_b2, pm_j197d]
      exact ⟨ω, k2, 0, s1, rfl, pu_g1_t (pu_g1_o (pu_o2_t a3 d3)) s3, pu_g2_o (pu_o0_t a4 (d6 rfl)), Or.inr ⟨rfl, s2⟩⟩
  · obtain ⟨u3, d1, d2, d3⟩ := ps_takeNumberd (lo := 1) (hi := 9) c1
    obtain ⟨ω, s1, s2, s3⟩ := ps_wendd (n := n) (y := jq_w (p2 * 1)) ho d2 (by omega) n2
    rw [if_pos rfl, pu_b2, pm_j197d, d1, pu_b2]
    exact ⟨ω, u2, 0, s1, rfl, pu_g1_t (pu_g1_o (pu_o2_t a3 d3)) s3, pu_g2_o a4, Or.inr ⟨rfl, s2⟩⟩
noncomputable def pu_wmd (o p2 n x : Int) (s : jq_M) : Option jq_M := (jq_sa s (o + 6) 20 n x).bind fun s17 => pu_wtl o p2 n s17
noncomputable def pu_wot (o p2 n a : Int) (s : jq_M) : Option jq_M := jq_b2 (X2_takeOther o a s) fun v11 s12 => pu_wmd o p2 n v11 s12
noncomputable def pu_wkd (o p2 n a : Int) (s6 : jq_M) : Option jq_M := jq_b2 (X2_takeKind s6) fun v7 s8 => (jq_sa s8 (o + 4) 20 n a).bind fun s9 => (jq_sa s9 (o + 5) 20 n v7).bind fun s10 => if v7 = 2 then pu_wmd o p2 n (-1) s10 else pu_wot o p2 n a s10
theorem ps_wmdd (ho : o = 5 ∨ o = 25) (hl : pu_dd T L m1 m2) (n0 : 0 ≤ n) (n2 : n < 20) : ∃ τ, pu_wmd o p2 n x m1 = some τ ∧ pu_dd T L τ m2 ∧ pu_g1 o m1 τ := by
  obtain ⟨ω, s1, s2, s3⟩ := ps_wtld (p2 := p2) (n := n) ho (hl.mv (τ1 := jq_st m1 (o + 6) n x) (pu_st_ne (by omega)) (pu_st_ne (by omega)) (pu_st_ne (by omega)) rfl) n0 n2
  unfold pu_wmd
  rw [pu_sa n0 n2, Option.bind_some]
  exact ⟨ω, s1, s2, pu_g1_t (pu_g1_s (by omega) (by omega) (by omega)) s3⟩
theorem ps_wotd (ho : o = 5 ∨ o = 25) (hl : pu_dd T L m1 m2) (h2 : 0 ≤ m1 o 2 ∧ m1 o 2 ≤ 5) (n0 : 0 ≤ n) (n2 : n < 20) : ∃ τ, pu_wot o p2 n a m1 = some τ ∧ pu_dd T L τ m2 ∧ pu_g1 o m1 τ := by
  obtain ⟨u, a1, a2, a3⟩ := ps_nextd hl
  obtain ⟨ω, s1, s2, s3⟩ := ps_wmdd (p2 := p2) (n := n) (x := 0) ho a2 n0 n2
  have e : X2_takeOther o a m1 = some (0, u) := by
    unfold X2_takeOther
    rw [ps_partyHered hl h2, pu_b2, ps_blamed hl, Option.bind_some]
    unfold X2_takeOther_j16
    rw [a1]
    split <;> rfl
  unfold pu_wot
  rw [e, pu_b2]
  exact ⟨ω, s1, s2, pu_g1_t (pu_g1_o a3) s3⟩
theorem ps_takeKindd (hl : pu_dd T L m1 m2) : ∃ v τ, X2_takeKind m1 = some (v, τ) ∧ pu_dd T L τ m2 ∧ pu_o2 m1 τ := by
  obtain ⟨u, a1, a2, a3⟩ := ps_nextd hl
  obtain ⟨v, hv⟩ : ∃ v, X2_takeKind_j27 (m1 2 11) m1 = some (v, u) := by
    unfold X2_takeKind_j27
    rw [a1, Option.bind_some]
    split
    · exact ⟨0, rfl⟩
    · split
      · exact ⟨1, rfl⟩
      · exact ⟨2, rfl⟩
  unfold X2_takeKind
  rw [pu_lt, ps_blamed hl, Option.bind_some, hv]
  refine ⟨v, u, ?_, a2, a3⟩
  split
  · rfl
  · split
    · rfl
    · split <;> rfl
theorem ps_wkdd (ho : o = 5 ∨ o = 25) (hl : pu_dd T L m1 m2) (h2 : 0 ≤ m1 o 2 ∧ m1 o 2 ≤ 5) (n0 : 0 ≤ n) (n2 : n < 20) : ∃ τ, pu_wkd o p2 n a m1 = some τ ∧ pu_dd T L τ m2 ∧ pu_g1 o m1 τ := by
  obtain ⟨v, u, a1, a2, a3⟩ := ps_takeKindd hl
  have d2 : pu_dd T L (jq_st (jq_st u (o + 4) n a) (o + 5) n v) m2 := a2.mv (by rw [pu_st_ne (by omega), pu_st_ne (by omega)]) (by rw [pu_st_ne (by omega), pu_st_ne (by omega)]) (by rw [pu_st_ne (by omega), pu_st_ne (by omega)]) rfl
  have gg : pu_g1 o m1 (jq_st (jq_st u (o + 4) n a) (o + 5) n v) := pu_g1_t (pu_g1_o a3) (pu_g1_t (pu_g1_s (by omega) (by omega) (by omega)) (pu_g1_s (by omega) (by omega) (by omega)))
  unfold pu_wkd
  rw [a1, pu_b2, pu_sa n0 n2, Option.bind_some, pu_sa n0 n2, Option.bind_some]
  by_cases z : v = 2
  · obtain ⟨ω, s1, s2, s3⟩ := ps_wmdd (p2 := p2) (n := n) (x := -1) ho d2 n0 n2
    rw [if_pos z]
    exact ⟨ω, s1, s2, pu_g1_t gg s3⟩
  · obtain ⟨ω, s1, s2, s3⟩ := ps_wotd (p2 := p2) (n := n) (a := a) ho d2 (by rw [pu_st_ne (by omega), pu_st_ne (by omega), a3.1 o (by omega)]; exact h2) n0 n2
    rw [if_neg z]
    exact ⟨ω, s1, s2, pu_g1_t gg s3⟩
/-- the kind, by the word that stands there -/
theorem ps_tk7 (z : m1 2 11 = 7) : X2_takeKind m1 = (X5_next m1).bind fun s4 => some (0, s4) := by
  unfold X2_takeKind X2_takeKind_j27
  rw [pu_lt, if_pos z]
  congr 1
  funext s4
  rw [if_pos z]
theorem ps_tk8 (z : m1 2 11 = 8) : X2_takeKind m1 = (X5_next m1).bind fun s4 => some (1, s4) := by
  unfold X2_takeKind X2_takeKind_j27
  rw [pu_lt, if_neg (show ¬ m1 2 11 = 7 by omega), if_pos z]
  congr 1
  funext s4
  rw [if_neg (show ¬ m1 2 11 = 7 by omega), if_pos z]
theorem ps_tk1 (z : m1 2 11 = 1) : X2_takeKind m1 = (X5_next m1).bind fun s4 => some (2, s4) := by
  unfold X2_takeKind X2_takeKind_j27
  rw [pu_lt, if_neg (show ¬ m1 2 11 = 7 by omega), if_neg (show ¬ m1 2 11 = 8 by omega), if_pos z]
  congr 1
  funext s4
  rw [if_neg (show ¬ m1 2 11 = 7 by omega), if_neg (show ¬ m1 2 11 = 8 by omega)]
theorem ps_tk0 (z7 : ¬ m1 2 11 = 7) (z8 : ¬ m1 2 11 = 8) (z1 : ¬ m1 2 11 = 1) : X2_takeKind m1 = (X5_blame 2 m1).bind fun s5 => (X5_next s5).bind fun s4 => some (2, s4) := by
  unfold X2_takeKind X2_takeKind_j27
  rw [pu_lt, if_neg z7, if_neg z8, if_neg z1]
  congr 1
  funext s5
  congr 1
  funext s4
  rw [if_neg z7, if_neg z8]
end
