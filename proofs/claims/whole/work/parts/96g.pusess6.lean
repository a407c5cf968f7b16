section
variable {T : Int → Int} {L e x y v n l s O t : Int} {b1 b2 m m1 m2 m3 σ σ1 σ2 τ τ1 τ2 : jq_M} {o f k i to W lo hi D : Int}
theorem pu_lv.mv0 (h : pu_lv T L m1 m2) (h2 : τ1 2 = m1 2) (h3 : τ1 3 = m1 3) (h4 : τ1 4 = m1 4) (h0 : ∀ j, 11 ≤ j → j ≤ 18 → τ2 0 j = m2 0 j) (h7 : τ2 7 = m2 7) : pu_lv T L τ1 τ2 := by
  unfold pu_lv pu_rd pu_sf pu_mf pu_tkn at h ⊢
  rw [h2, h3, h4, h7, h0 11 (by decide) (by decide), h0 12 (by decide) (by decide), h0 13 (by decide) (by decide), h0 14 (by decide) (by decide), h0 15 (by decide) (by decide), h0 17 (by decide) (by decide), h0 18 (by decide) (by decide)]
  exact h
def pu_h1 (m τ : jq_M) : Prop := (∀ k, k ≠ 2 → ¬ (45 ≤ k ∧ k ≤ 50) → τ k = m k) ∧ ∀ j, j < 4 → τ 2 j = m 2 j
theorem pu_h1_r : pu_h1 m m := ⟨fun _ _ _ => rfl, fun _ _ => rfl⟩
theorem pu_h1_t (h : pu_h1 m1 m2) (h2 : pu_h1 m2 m3) : pu_h1 m1 m3 := ⟨fun k a b => (h2.1 k a b).trans (h.1 k a b), fun j hj => (h2.2 j hj).trans (h.2 j hj)⟩
theorem pu_h1_o (h : pu_o2 m τ) : pu_h1 m τ := ⟨fun k a _ => h.1 k a, h.2⟩
theorem pu_h1_q (h : pu_q1 n m τ) : pu_h1 m τ := ⟨fun k a b => h.1 k a (by omega) (by omega), h.2.2⟩
theorem pu_cf_h (h : pu_cf o m1 m2) (h1 : pu_h1 m1 τ1) (h2 : pu_h2 m2 τ2) : pu_cf o τ1 τ2 := h.mv (fun k a b => h1.1 k (by omega) (by omega)) h2.2.1 (h2.1 2 (by omega) (by omega) (by omega))
theorem pu_sl_o (h : pu_sl m1 m2) (h1 : pu_o2 m1 τ1) (h2 : pu_o0 m2 τ2) : pu_sl τ1 τ2 := by
  have hy : pu_hy τ2 = pu_hy m2 := by unfold pu_hy; rw [h2.1 1 (by omega)]
  have hd : ∀ n W F S, pu_dt τ2 n W F S = pu_dt m2 n W F S := fun n W F S => by unfold pu_dt; rw [h2.1 1 (by omega)]
  unfold pu_sl at h ⊢
  simp only [hd]
  rw [hy, h1.1 45 (by omega), h1.1 46 (by omega), h1.1 47 (by omega), h1.1 48 (by omega), h1.1 49 (by omega), h1.1 50 (by omega), h2.1 1 (by omega), h2.1 8 (by omega), h2.2 21 (by omega), h2.2 22 (by omega)]
  exact h
/-- the reference writes the line's word, and clears the rest -/
theorem pm_row {wd op cc add : Int} (hL : m2 1 2030 = n) (n0 : 0 ≤ n) (n6 : n < 60) (c0 : 0 ≤ cc) (c1 : cc ≤ 30) (a0 : 0 ≤ add) (a1 : add ≤ 1) : ∃ c2, X11_sessionStep_j133 wd n (2162 + 6 * n) op cc add m2 = ((X11_ahead c2).bind fun s45 => jq_b2 (X11_sessionOrder wd (2162 + 6 * n) s45) fun v46 s47 => if v46 = 0 then some (0, s47) else if op = 0 then X11_sessionStep_j222 wd n (2162 + 6 * n) s47 else (jq_sa s47 8 3 (s47 0 21) n).bind fun s62 => jq_lt (jq_st s62 0 21 (jq_w ((s62 0 21) + 1))) fun s63 => X11_sessionStep_j222 wd n (2162 + 6 * n) s63) ∧ (∀ k, k ≠ 0 → k ≠ 1 → c2 k = m2 k) ∧ (∀ j, j ≠ 22 → c2 0 j = m2 0 j) ∧ c2 0 22 = cc + add ∧ (∀ j, ¬ (2162 + 6 * n ≤ j ∧ j ≤ 2167 + 6 * n) → j ≠ 2030 → c2 1 j = m2 1 j) ∧ c2 1 (2162 + 6 * n) = wd ∧ c2 1 2030 = n + 1 := by
  have lp : ∃ e, jq_lp (X11_sessionStep_b147 (2162 + 6 * n)) (1, jq_st (jq_st m2 0 22 (cc + add)) 1 (2162 + 6 * n) wd) = some e ∧ (∀ k, k ≠ 1 → e k = jq_st m2 0 22 (cc + add) k) ∧ (∀ j, ¬ (2162 + 6 * n ≤ j ∧ j ≤ 2167 + 6 * n) → e 1 j = m2 1 j) ∧ e 1 (2162 + 6 * n) = wd := by
    refine pu_lpE (f := X11_sessionStep_b147 (2162 + 6 * n)) (s := ((1 : Int), jq_st (jq_st m2 0 22 (cc + add)) 1 (2162 + 6 * n) wd)) (fun i t => t.1 = (i : Int) + 1 ∧ (∀ k, k ≠ 1 → t.2 k = jq_st m2 0 22 (cc + add) k) ∧ (∀ j, ¬ (2162 + 6 * n ≤ j ∧ j ≤ 2167 + 6 * n) → t.2 1 j = m2 1 j) ∧ t.2 1 (2162 + 6 * n) = wd) (fun e => (∀ k, k ≠ 1 → e k = jq_st m2 0 22 (cc + add) k) ∧ (∀ j, ¬ (2162 + 6 * n ≤ j ∧ j ≤ 2167 + 6 * n) → e 1 j = m2 1 j) ∧ e 1 (2162 + 6 * n) = wd) 5 ⟨rfl, fun k hk => pu_st_ne hk, fun j hj => by dsimp only; rw [pu_st_b (by omega), pu_st_ne (by omega)], pu_st_a⟩ (fun i t ht hi => ?_) (fun e a b => ⟨e, a, b⟩)
    obtain ⟨x1, x2⟩ := t
    obtain ⟨q0, q1, q2, q3⟩ := ht
    dsimp only at q0 q1 q2 q3
    unfold X11_sessionStep_b147
    dsimp only
    by_cases w : x1 < 6
    · rw [if_pos w, pu_w (x := 2162 + 6 * n + x1) (by omega) (by omega), pu_sa (by omega) (by omega), Option.bind_some, pu_lt, pu_w (by omega) (by omega)]
      refine Or.inr ⟨by omega, _, rfl, by dsimp only; omega, fun k hk => (pu_st_ne hk).trans (q1 k hk), fun j hj => (pu_st_b (by omega)).trans (q2 j hj), ?_⟩
      dsimp only
      rw [pu_st_b (by omega)]; exact q3
    · rw [if_neg w]
      exact Or.inl ⟨_, rfl, q1, q2, q3⟩
  obtain ⟨e, l1, l2, l3, l4⟩ := lp
  have e30 : e 1 2030 = n := by rw [l3 2030 (by omega)]; exact hL
  refine ⟨jq_st e 1 2030 (n + 1), ?_, fun k a b => ?_, fun j hj => ?_, ?_, fun j hj hj2 => ?_, ?_, pu_st_a⟩
  · unfold X11_sessionStep_j133
    rw [pu_w (x := cc + add) (by omega) (by omega), pu_lt, pu_sa (by omega) (by omega), Option.bind_some, l1, Option.bind_some, pu_ld (by omega) (by omega), Option.bind_some, e30, pu_w (x := n + 1) (by omega) (by omega), pu_sa (by omega) (by omega), Option.bind_some]
  · rw [pu_st_ne b, l2 k b, pu_st_ne a]
  · rw [pu_st_ne (by omega), l2 0 (by omega), pu_st_b hj]
  · rw [pu_st_ne (by omega), l2 0 (by omega), pu_st_a]
  · rw [pu_st_b hj2]; exact l3 j hj
  · rw [pu_st_b (by omega)]; exact l4
/-- the class's new line -/
theorem ps_addLine {wd : Int} (hL : m1 45 2 = n) (n0 : 0 ≤ n) (n6 : n < 60) : ∃ c1, X7_addLine 45 wd m1 = some (n, c1) ∧ (∀ k, ¬ (45 ≤ k ∧ k ≤ 49) → c1 k = m1 k) ∧ (∀ j, j ≠ 2 → c1 45 j = m1 45 j) ∧ c1 45 2 = n + 1 ∧ (∀ j, j ≠ n → c1 46 j = m1 46 j ∧ c1 47 j = m1 47 j ∧ c1 48 j = m1 48 j ∧ c1 49 j = m1 49 j) ∧ c1 46 n = wd := by
  unfold X7_addLine
  rw [hL, pu_lt, if_neg (show ¬ n < 0 by omega), if_pos n6, pu_sa n0 n6, Option.bind_some, pu_sa n0 n6, Option.bind_some, pu_sa n0 n6, Option.bind_some, pu_sa n0 n6, Option.bind_some, pu_lt, pu_st_ne (show (45 : Int) ≠ 45 + 4 by decide), pu_st_ne (show (45 : Int) ≠ 45 + 3 by decide), pu_st_ne (show (45 : Int) ≠ 45 + 2 by decide), pu_st_ne (show (45 : Int) ≠ 45 + 1 by decide), hL, pu_w (x := n + 1) (by omega) (by omega)]
  refine ⟨_, rfl, fun k hk => ?_, fun j hj => ?_, pu_st_a, fun j hj => ⟨?_, ?_, ?_, ?_⟩, ?_⟩
  · rw [pu_st_ne (by omega), pu_st_ne (by omega), pu_st_ne (by omega), pu_st_ne (by omega), pu_st_ne (by omega)]
  · rw [pu_st_b hj, pu_st_ne (by omega), pu_st_ne (by omega), pu_st_ne (by omega), pu_st_ne (by omega)]
  · rw [pu_st_ne (by omega), pu_st_ne (by omega), pu_st_ne (by omega), pu_st_ne (by omega), show (45 : Int) + 1 = 46 from rfl, pu_st_b hj]
  · rw [pu_st_ne (by omega), pu_st_ne (by omega), pu_st_ne (by omega), show (45 : Int) + 2 = 47 from rfl, pu_st_b hj, pu_st_ne (by omega)]
  · rw [pu_st_ne (by omega), pu_st_ne (by omega), show (45 : Int) + 3 = 48 from rfl, pu_st_b hj, pu_st_ne (by omega), pu_st_ne (by omega)]
  · rw [pu_st_ne (by omega), show (45 : Int) + 4 = 49 from rfl, pu_st_b hj, pu_st_ne (by omega), pu_st_ne (by omega), pu_st_ne (by omega)]
  · rw [pu_st_ne (by omega), pu_st_ne (by omega), pu_st_ne (by omega), pu_st_ne (by omega), show (45 : Int) + 1 = 46 from rfl, pu_st_a]
/-- one part of the sessions -/
def pu_ST (T : Int → Int) (L : Int) (m1 m2 : jq_M) (c : Option jq_M) (r : Option (Int × jq_M)) : Prop := ∃ τ1 τ2 g, c = some τ1 ∧ r = some (g, τ2) ∧ pu_h1 m1 τ1 ∧ pu_h2 m2 τ2 ∧ (g = 1 ∧ pu_lv T L τ1 τ2 ∧ pu_sl τ1 τ2 ∧ m1 2 6 < τ1 2 6 ∨ g = 0 ∧ pu_dd T L τ1 τ2)
theorem pu_ST_t {c : Option jq_M} {r : Option (Int × jq_M)} {a1 a2 : jq_M} (h : pu_ST T L m1 m2 c r) (g1 : pu_h1 a1 m1) (g2 : pu_h2 a2 m2) (hp : a1 2 6 ≤ m1 2 6) : pu_ST T L a1 a2 c r := by
  obtain ⟨τ1, τ2, g, h1, h2, h3, h4, h5⟩ := h
  refine ⟨τ1, τ2, g, h1, h2, pu_h1_t g1 h3, pu_h2_t g2 h4, ?_⟩
  rcases h5 with ⟨a, b, c, d⟩ | h5
  · exact Or.inl ⟨a, b, c, by omega⟩
  · exact Or.inr h5
theorem pa_ssemi (hl : pu_lv T L m1 m2) (hs : pu_sl m1 m2) : pu_ST T L m1 m2 (X5_passSign 59 m1) (X11_sessionStep_j279 m2) := by
  obtain ⟨τ1, τ2, g, a1, a2, a3, a4, a5⟩ := pa_passSign (k := 59) hl
  unfold X11_sessionStep_j279
  rw [a1, a2]
  rcases a5 with ⟨rfl, b1, b2⟩ | ⟨rfl, b1⟩
  · exact ⟨τ1, τ2, 1, rfl, rfl, pu_h1_o a3, pu_h2_o a4, Or.inl ⟨rfl, b1, pu_sl_o hs a3 a4, b2⟩⟩
  · exact ⟨τ1, τ2, 0, rfl, rfl, pu_h1_o a3, pu_h2_o a4, Or.inr ⟨rfl, b1⟩⟩
/-- an end -/
theorem pa_send (hl : pu_lv T L m1 m2) (hs : pu_sl m1 m2) (hD : 0 < m1 45 8) : pu_ST T L m1 m2 ((X7_closeOne 45 m1).bind fun s1 => (X5_next s1).bind fun s2 => (X5_passSign 59 s2).bind fun s3 => some s3) (X11_sessionStep_j133 23 (m2 1 2030) (2162 + 6 * m2 1 2030) 0 (m2 0 22) 0 m2) := by
  obtain ⟨⟨s0, s1, s2, s3⟩, ⟨s4, s5, s6, s7⟩, k1, k2, k3, k4, k5⟩ := id hs
  obtain ⟨t1, t2, t3, t4⟩ := k1 (m1 45 8 - 1) (by omega) (by omega)
  obtain ⟨c2, r1, r2, r3, r4, r5, r6, r7⟩ := pm_row (m2 := m2) (n := m2 1 2030) (wd := 23) (op := 0) (cc := m2 0 22) (add := 0) rfl (by omega) (by omega) (by omega) (by omega) (by decide) (by decide)
  obtain ⟨c1, q1, q2, q3, q4, q5, q6⟩ := ps_addLine (m1 := jq_st m1 45 8 (m1 45 8 - 1)) (n := m2 1 2030) (wd := 26) (by rw [pu_st_b (by omega), s1]) (by omega) (by omega)
  have c8 : c1 45 8 = m1 45 8 - 1 := by rw [q3 8 (by omega), pu_st_a]
  have c50 : c1 50 = m1 50 := by rw [q2 50 (by omega), pu_st_ne (by omega)]
  generalize hO : m1 50 (m1 45 8 - 1) = O at t1 t2 t3 t4
  have cl : X7_closeOne 45 m1 = some (jq_st (jq_st c1 49 O (m2 1 2030)) 49 (m2 1 2030) O) := by
    unfold X7_closeOne X7_setMate
    rw [if_pos hD, if_neg (show ¬ 3 < m1 45 8 by omega), pu_w (x := m1 45 8 - 1) (by omega) (by omega), pu_lt, show (45 : Int) + 5 = 50 from rfl, show (45 : Int) + 4 = 49 from rfl, pu_st_a, pu_ld (by omega) (by omega), Option.bind_some, pu_st_ne (show (50 : Int) ≠ 45 by omega), hO, q1, pu_b2, if_neg (show ¬ O < 0 by omega), if_pos (show O < 60 by omega), pu_sa (by omega) (by omega), Option.bind_some, Option.bind_some, if_neg (show ¬ m2 1 2030 < 0 by omega), if_pos (show m2 1 2030 < 60 by omega), pu_sa (by omega) (by omega), Option.bind_some, Option.bind_some]
  have st2 : ∀ k, k ≠ 49 → jq_st (jq_st c1 49 O (m2 1 2030)) 49 (m2 1 2030) O k = c1 k := fun k hk => by rw [pu_st_ne hk, pu_st_ne hk]
  have l2 : pu_lv T L (jq_st (jq_st c1 49 O (m2 1 2030)) 49 (m2 1 2030) O) c2 := hl.mv0 (by rw [st2 2 (by omega), q2 2 (by omega), pu_st_ne (by omega)]) (by rw [st2 3 (by omega), q2 3 (by omega), pu_st_ne (by omega)]) (by rw [st2 4 (by omega), q2 4 (by omega), pu_st_ne (by omega)]) (fun j a b => r3 j (by omega)) (r2 7 (by omega) (by omega))
  obtain ⟨u1, u2, a1, a2, a3, a4, a5, a6, -⟩ := pa_adv l2
  have e26 : jq_st (jq_st c1 49 O (m2 1 2030)) 49 (m2 1 2030) O 2 = m1 2 := by rw [st2 2 (by omega), q2 2 (by omega), pu_st_ne (by omega)]
  rw [e26] at a6
  have so : X11_sessionOrder 23 (2162 + 6 * m2 1 2030) u2 = some (1, u2) := by
    unfold X11_sessionOrder
    rfl
  have u21 : u2 0 21 = m1 45 8 := by rw [a5.2 21 (by omega), r3 21 (by omega)]; exact s3
  have u8 : u2 8 = m2 8 := by rw [a5.1 8 (by omega), r2 8 (by omega) (by omega)]
  have t1' : m2 8 (m1 45 8 - 1) = O := t1
  rw [cl, Option.bind_some, a1, Option.bind_some, r1, a2, Option.bind_some, so, pu_b2, if_neg (show ¬ ((1 : Int) = 0) by decide), if_pos rfl]
  unfold X11_sessionStep_j222
  rw [if_pos rfl, u21, pu_w (x := m1 45 8 - 1) (by omega) (by omega), pu_lt, pu_st_a, pu_ld (by omega) (by omega), Option.bind_some, pu_st_ne (show (8 : Int) ≠ 0 by omega), u8, t1', pu_w (x := 2162 + 6 * m2 1 2030 + 4) (by omega) (by omega), pu_sa (by omega) (by omega), Option.bind_some, pu_st_ne (show (0 : Int) ≠ 1 by omega), pu_st_a, pu_ld (by omega) (by omega), Option.bind_some, pu_st_ne (show (8 : Int) ≠ 1 by omega), pu_st_ne (show (8 : Int) ≠ 0 by omega), u8, t1', pu_w (x := 6 * O) (by omega) (by omega), pu_w (x := 2162 + 6 * O) (by omega) (by omega), pu_w (x := 2162 + 6 * O + 4) (by omega) (by omega), pu_sa (by omega) (by omega), Option.bind_some]
  have e3 : ((X5_passSign 59 u1).bind fun s3 => some s3) = X5_passSign 59 u1 := by cases X5_passSign 59 u1 <;> rfl
  rw [e3, show 2162 + 6 * m2 1 2030 + 4 = 2166 + 6 * m2 1 2030 by omega, show 2162 + 6 * O + 4 = 2166 + 6 * O by omega]
  have l3 : pu_lv T L u1 (jq_st (jq_st (jq_st u2 0 21 (m1 45 8 - 1)) 1 (2166 + 6 * m2 1 2030) O) 1 (2166 + 6 * O) (m2 1 2030)) := a3.mv0 rfl rfl rfl (fun j a b => by rw [pu_st_ne (by omega), pu_st_ne (by omega), pu_st_b (by omega)]) (by rw [pu_st_ne (by omega), pu_st_ne (by omega), pu_st_ne (by omega)])
  have F1 : pu_h1 m1 u1 := by
    refine pu_h1_t (m2 := jq_st (jq_st c1 49 O (m2 1 2030)) 49 (m2 1 2030) O) ⟨fun k a b => ?_, fun j hj => by rw [e26]⟩ (pu_h1_o a4)
    rw [st2 k (by omega), q2 k (by omega), pu_st_ne (by omega)]
  have F2 : pu_h2 m2 (jq_st (jq_st (jq_st u2 0 21 (m1 45 8 - 1)) 1 (2166 + 6 * m2 1 2030) O) 1 (2166 + 6 * O) (m2 1 2030)) := by
    refine ⟨fun k a b c => ?_, fun j hj => ?_, fun j hj => ?_⟩
    · rw [pu_st_ne b, pu_st_ne b, pu_st_ne a, a5.1 k a]; exact r2 k a b
    · rw [pu_st_b (by omega), pu_st_b (by omega), pu_st_ne (by omega), a5.1 1 (by omega)]; exact r5 j (by omega) (by omega)
    · rw [pu_st_ne (by omega), pu_st_ne (by omega), pu_st_b (by omega), a5.2 j (by omega)]; exact r3 j (by omega)
  refine pu_ST_t (pa_ssemi l3 ?_) F1 F2 a6
  refine pu_sl_end (b1 := m1) (b2 := m2) (L := m2 1 2030) (D := m1 45 8) (O := O) hs s1 rfl hD hO.symm (fun j hj => ?_) ?_ (fun j hj => ?_) (fun j hj => ?_) (fun j hj hj2 => ?_) ?_ ?_ ?_ ?_ ?_ ?_ (fun j => ?_) ?_ (fun j hj => ?_) (fun j x y z => ?_) ?_ ?_ ?_ ?_ ?_ ?_
  · rw [a4.1 46 (by omega), st2 46 (by omega), (q5 j hj).1, pu_st_ne (by omega)]
  · rw [a4.1 46 (by omega), st2 46 (by omega)]; exact q6
  · rw [a4.1 47 (by omega), st2 47 (by omega), (q5 j hj).2.1, pu_st_ne (by omega)]
  · rw [a4.1 48 (by omega), st2 48 (by omega), (q5 j hj).2.2.1, pu_st_ne (by omega)]
  · rw [a4.1 49 (by omega), pu_st_b hj, pu_st_b hj2, (q5 j hj).2.2.2, pu_st_ne (by omega)]
  · rw [a4.1 49 (by omega), pu_st_a]
  · rw [a4.1 49 (by omega), pu_st_b (by omega), pu_st_a]
  · rw [a4.1 45 (by omega), st2 45 (by omega), q3 0 (by omega), pu_st_b (by omega)]
  · rw [a4.1 45 (by omega), st2 45 (by omega), q3 1 (by omega), pu_st_b (by omega)]
  · rw [a4.1 45 (by omega), st2 45 (by omega)]; exact q4
  · rw [a4.1 45 (by omega), st2 45 (by omega)]; exact c8
  · rw [a4.1 50 (by omega), st2 50 (by omega), c50]
  · rw [pu_st_ne (by omega), pu_st_ne (by omega), pu_st_ne (by omega)]; exact u8
  · exact F2.2.1 j hj
  · rw [pu_st_b z]
    by_cases w : j = 2166 + 6 * m2 1 2030
    · omega
    · rw [pu_st_b w, pu_st_ne (by omega), a5.1 1 (by omega)]; exact r5 j (by omega) (by omega)
  · rw [pu_st_a]
  · rw [pu_st_b (by omega), pu_st_b (by omega), pu_st_ne (by omega), a5.1 1 (by omega)]; exact r6
  · rw [pu_st_b (by omega), pu_st_a]
  · rw [pu_st_b (by omega), pu_st_b (by omega), pu_st_ne (by omega), a5.1 1 (by omega)]; exact r7
  · rw [pu_st_ne (by omega), pu_st_ne (by omega), pu_st_b (by omega), a5.2 22 (by omega), r4, Int.add_zero]
  · rw [pu_st_ne (by omega), pu_st_ne (by omega), pu_st_a]
end
