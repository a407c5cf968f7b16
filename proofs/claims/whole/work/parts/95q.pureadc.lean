section
variable {T : Int → Int} {L e x v n l s : Int} {b1 b2 m m1 m2 m3 σ τ τ1 τ2 : jq_M} {o f k lo hi to : Int} {A B N : Int → Int} {w : List Int}
noncomputable def pu_psuf (o n : Int) (s9 : jq_M) : Option jq_M := if s9 2 11 = 3 then (X5_next s9).bind fun s19 => jq_b2 (X5_takeNumber 0 50 s19) fun v20 s21 => (jq_sa s21 (o + 2) 5 n v20).bind fun s22 => X2_readParty_j96 o n s22 else X2_readParty_j96 o n s9
theorem ps_psufd (ho : o = 5 ∨ o = 25) (hl : pu_dd T L m1 m2) (h2 : 0 ≤ m1 o 2 ∧ m1 o 2 ≤ 5) (n0 : 0 ≤ n) (n5 : n < 5) : ∃ τ, pu_psuf o n m1 = some τ ∧ pu_dd T L τ m2 ∧ pu_g1 o m1 τ := by
  unfold pu_psuf
  by_cases z : m1 2 11 = 3
  · obtain ⟨ω, d1, d2, d3⟩ := ps_nextd hl
    obtain ⟨κ, c1, c2, c3⟩ := ps_takeNumberd (lo := 0) (hi := 50) d2
    have e2 : pu_dd T L (jq_st κ (o + 2) n 0) m2 := c2.mv (pu_st_ne (by omega)) (pu_st_ne (by omega)) (pu_st_ne (by omega)) rfl
    obtain ⟨ψ, f1, f2, f3⟩ := ps_j98d ho e2 (by rw [pu_st_ne (by omega), c3.1 o (by omega), d3.1 o (by omega)]; exact h2) n0 n5
    rw [if_pos z, d1, Option.bind_some, c1, pu_b2, pu_sa n0 n5, Option.bind_some]
    exact ⟨ψ, f1, f2, pu_g1_t (pu_g1_o (pu_o2_t d3 c3)) (pu_g1_t (pu_g1_s (by omega) (by omega) (by omega)) f3)⟩
  · rw [if_neg z]
    exact ps_j98d ho hl h2 n0 n5
theorem pa_psuf (ho : o = 5 ∨ o = 25) (hb : pu_bd o b1 b2) (hl : pu_lv T L m1 m2) (hp : pu_pb o b1 b2 m1 m2 n 0 (-1) w) (hn : n = b2 1 2025) (n5 : n < 5) (np : n < b2 1 2024) (hw : pu_wd w) : pu_IT o T L m1 m2 (pu_psuf o n m1) (jq_b2 (jq_b2 (X11_isThere 6 m2) fun v8 s9 => if v8 = 0 then X11_aParty_j69 (2032 + 2 * n) s9 else jq_b2 (X11_number (2032 + 2 * n) 0 50 s9) fun v34 s35 => if v34 = 0 then some (0, s35) else X11_aParty_j69 (2032 + 2 * n) s35) fun v s => X11_committeePart_j197 v s) := by
  have i1 : 0 ≤ b2 1 2025 ∧ b2 1 2025 ≤ 5 ∧ b2 1 2025 ≤ b2 1 2024 := hb.1.2.1
  unfold pu_psuf
  rcases pm_there (k := 3) (r := 6) hl (by decide) (by decide) (by decide) with ⟨z, t⟩ | ⟨z, t⟩
  · obtain ⟨u1, u2, a1, a2, a3, a4, a5, a6, a7⟩ := pa_adv hl
    have hp2 := pu_pb_o ho hp a4 a5
    obtain ⟨⟨p1, p2, p3, p4, p5⟩, p6, p7, p8, p9, p10⟩ := hp2
    have prog := a7 (by have := (pu_tk_p hl.1).2.2.2.2.2.2.2.2.2.2.2.2.2.1 (by omega); omega)
    obtain ⟨v, k1, k2, g, c1, c2, c3, c4, c5, c6⟩ := pa_takeNumber (lo := 0) (hi := 50) (to := 2032 + 2 * n) a3 (by omega) (by omega)
    rw [if_pos z, t, a1, a2, Option.bind_some, Option.bind_some, pu_b2, if_neg (show ¬ ((1 : Int) = 0) by decide), c1, c2, pu_b2, pu_b2, pu_sa (by omega) (by omega), Option.bind_some]
    have k1k : ∀ k, k ≠ 2 → k1 k = u1 k := c3.1
    have gg : pu_g1 o m1 (jq_st k1 (o + 2) n v) := pu_g1_t (pu_g1_o (pu_o2_t a4 c3)) (pu_g1_s (by omega) (by omega) (by omega))
    rcases c4 with ⟨rfl, d1, d2⟩ | ⟨rfl, d1⟩
    · obtain ⟨e1, e2, e3⟩ := c5 rfl
      rw [if_neg (show ¬ ((1 : Int) = 0) by decide)]
      have l4 : pu_lv T L (jq_st k1 (o + 2) n v) k2 := d1.mv (pu_st_ne (by omega)) (pu_st_ne (by omega)) (pu_st_ne (by omega)) rfl rfl
      refine pu_IT_t (pa_j98 (l := v) ho hb l4 ⟨⟨fun k a b c d => ?_, fun j hj => ?_, ?_, pu_st_a, ?_⟩, fun j x y => ?_, ?_, ?_, fun j x => ?_, ?_⟩ hn n5 np hw ⟨e1, e2⟩) gg (pu_g2_t (pu_g2_o a5) (pu_g2_t (pu_g2_s (to := 2032 + 2 * n) (x := v) (by omega)) (pu_g2_o e3))) (by rw [pu_st_ne (by omega)]; omega)
      · rw [pu_st_ne c, k1k k a]; exact p1 k a b c d
      · rw [pu_st_ne (show o + 1 ≠ o + 2 by omega), pu_st_b hj, pu_st_ne (show o + 3 ≠ o + 2 by omega), k1k _ (by omega), k1k _ (by omega), k1k _ (by omega)]; exact p2 j hj
      · rw [pu_st_ne (by omega), k1k _ (by omega)]; exact p3
      · rw [pu_st_ne (by omega), k1k _ (by omega)]; exact p5
      · rw [e3.1 1 (by omega), pu_st_b x]; exact p6 j x y
      · rw [e3.1 1 (by omega), pu_st_a]
      · rw [e3.1 1 (by omega), pu_st_b (by omega)]; exact p8
      · rw [e3.1 2 (by omega), pu_st_ne (by omega)]; exact p9 j x
      · rw [e3.1 2 (by omega), pu_st_ne (by omega)]; exact p10
    · rw [if_pos rfl, pu_b2, pm_j197d]
      have e2 : pu_dd T L (jq_st k1 (o + 2) n v) k2 := d1.mv (pu_st_ne (by omega)) (pu_st_ne (by omega)) (pu_st_ne (by omega)) rfl
      have q : b1 o 2 = b2 1 2025 := hb.2.1.1.2.2.1
      obtain ⟨ψ, f1, f2, f3⟩ := ps_j98d ho e2 (by rw [pu_st_ne (by omega), k1k o (by omega), p1 o (by omega) (by omega) (by omega) (by omega), q]; omega) (by omega) n5
      exact ⟨ψ, k2, 0, f1, rfl, pu_g1_t gg f3, pu_g2_o (pu_o0_t a5 (c6 rfl)), Or.inr ⟨rfl, f2⟩⟩
  · rw [if_neg z, t, pu_b2, if_pos rfl]
    exact pa_j98 ho hb hl hp hn n5 np hw (by decide)
theorem pa_party (ho : o = 5 ∨ o = 25) (hl : pu_lv T L m1 m2) (hb : pu_bd o m1 m2) (hk : m1 2 5 ≠ 0) : pu_IT o T L m1 m2 (X2_readParty o m1) (X11_committeePart_j26 2 m2) := by
  have c0 : m1 o 0 = m2 1 2024 := hb.2.1.1.1
  have c2 : m1 o 2 = m2 1 2025 := hb.2.1.1.2.2.1
  have c4 : m1 o 4 = m2 1 2027 := hb.2.1.1.2.2.2.2.1
  have i0 : m2 1 2024 = 0 ∨ 3 ≤ m2 1 2024 ∧ m2 1 2024 ≤ 6 := hb.1.1
  have i1 : 0 ≤ m2 1 2025 ∧ m2 1 2025 ≤ 5 ∧ m2 1 2025 ≤ m2 1 2024 := hb.1.2.1
  have i3 : 0 ≤ m2 1 2027 ∧ m2 1 2027 ≤ 8 := hb.1.2.2.2.1
  have hz := hb.2.2.2.1.2.2.2.1
  unfold X2_readParty X11_committeePart_j26
  rw [pu_ld (by omega) (by omega), Option.bind_some]
  by_cases z : m1 o 0 = 0
  · obtain ⟨u1, u2, a1, a2, a3, a4, a5⟩ := pa_blame (f := 2) hl (by decide)
    unfold X11_committeePart_j37
    rw [if_pos z, if_pos (by omega), a1, a2]
    exact ⟨u1, u2, 0, rfl, rfl, pu_g1_o a4, pu_g2_o a5, Or.inr ⟨rfl, a3⟩⟩
  · unfold X11_committeePart_j43 X11_aParty
    rw [if_neg z, pu_lt, ps_within, Option.bind_some, c2, if_neg (show ¬ m2 1 2024 = 0 by omega), if_neg (show ¬ (2 : Int) = 0 by decide), if_neg (show ¬ (2 : Int) = 1 by decide), if_pos (show (2 : Int) = 2 from rfl), pu_ld (by omega) (by omega), Option.bind_some, pu_lt, pu_ld (by omega) (by omega), Option.bind_some, pu_w (x := 2 * m2 1 2025) (by omega) (by omega), pu_w (x := 2032 + 2 * m2 1 2025) (by omega) (by omega)]
    have hs : ∀ s9 : jq_M, (if s9 2 11 = 3 then (X5_next s9).bind fun s19 => jq_b2 (X5_takeNumber 0 50 s19) fun v20 s21 => (jq_sa s21 (o + 2) 5 (m2 1 2025) v20).bind fun s22 => X2_readParty_j96 o (m2 1 2025) s22 else X2_readParty_j96 o (m2 1 2025) s9) = pu_psuf o (m2 1 2025) s9 := fun _ => rfl
    by_cases y : m2 1 2025 < jq_min 5 (m2 1 2024)
    · have y' : m2 1 2025 < 5 ∧ m2 1 2025 < m2 1 2024 := by
        unfold jq_min at y
        split at y <;> omega
      obtain ⟨u1, v, k1, k2, g, a1, a2, a3, a4, a5, a6, a7, a8⟩ := pa_newOne (p1 := 1) (p2 := jq_min 5 (m2 1 2024)) (p3 := 0) (n := m2 1 2025) ho hl hb hk (Or.inl ⟨rfl, rfl⟩) rfl (by omega) (by omega) y
      have uo : u1 o = m1 o := a2.1 o (by omega)
      rw [pu_i_p (show 0 ≤ m2 1 2025 ∧ m2 1 2025 ≤ 4 by omega), if_neg (show ¬ ((1 : Int) = 0) by decide), if_pos (show m2 1 2025 < m1 o 0 by omega), a1, Option.bind_some, a3, pu_b2, a5, pu_b2, pu_sa (by omega) (by omega), Option.bind_some, pu_sa (by omega) (by omega), Option.bind_some, pu_sa (by omega) (by omega), Option.bind_some, hs]
      have k1k : ∀ k, k ≠ 2 → k1 k = m1 k := fun k hk => (a4.1 k hk).trans (a2.1 k hk)
      have gg : pu_g1 o m1 (jq_st (jq_st (jq_st k1 (o + 1) (m2 1 2025) v) (o + 2) (m2 1 2025) 0) (o + 3) (m2 1 2025) (-1)) := pu_g1_t (pu_g1_o (pu_o2_t a2 a4)) (pu_g1_t (pu_g1_s (by omega) (by omega) (by omega)) (pu_g1_t (pu_g1_s (by omega) (by omega) (by omega)) (pu_g1_s (by omega) (by omega) (by omega))))
      have st : ∀ k, k ≠ o + 1 → k ≠ o + 2 → k ≠ o + 3 → jq_st (jq_st (jq_st k1 (o + 1) (m2 1 2025) v) (o + 2) (m2 1 2025) 0) (o + 3) (m2 1 2025) (-1) k = k1 k := fun k a b c => by rw [pu_st_ne c, pu_st_ne b, pu_st_ne a]
      rcases a6 with ⟨rfl, d1, d2⟩ | ⟨rfl, d1⟩
      · obtain ⟨w, w1, w2, w3⟩ := a7 rfl
        rw [if_neg (show ¬ ((1 : Int) = 0) by decide), pu_w (x := 2032 + 2 * m2 1 2025 + 1) (by omega) (by omega), pu_sa (by omega) (by omega), Option.bind_some]
        have l4 : pu_lv T L (jq_st (jq_st (jq_st k1 (o + 1) (m2 1 2025) v) (o + 2) (m2 1 2025) 0) (o + 3) (m2 1 2025) (-1)) (jq_st k2 1 (2032 + 2 * m2 1 2025 + 1) (-1)) := d1.mv (st 2 (by omega) (by omega) (by omega)) (st 3 (by omega) (by omega) (by omega)) (st 4 (by omega) (by omega) (by omega)) (pu_st_ne (by omega)) (pu_st_ne (by omega))
        refine pu_IT_t (pa_psuf (n := m2 1 2025) (w := w) ho hb l4 ⟨⟨fun k a b c d => ?_, fun j hj => ?_, ?_, ?_, pu_st_a⟩, fun j x y => ?_, ?_, ?_, fun j x => ?_, ?_⟩ rfl y'.1 y'.2 w1) gg (pu_g2_t (pu_g2_t (pu_g2_n (to := 52 + 0 + m2 1 2025) (x := pu_c8 w) (by omega)) (pu_g2_o w3)) (pu_g2_s (by omega))) (by rw [st 2 (by omega) (by omega) (by omega)]; omega)
        · rw [st k b c d]; exact k1k k a
        · rw [pu_st_ne (show o + 1 ≠ o + 3 by omega), pu_st_ne (show o + 1 ≠ o + 2 by omega), pu_st_b hj, pu_st_ne (show o + 2 ≠ o + 3 by omega), pu_st_b hj, pu_st_ne (by omega), pu_st_b hj, pu_st_ne (by omega), pu_st_ne (by omega), k1k _ (by omega), k1k _ (by omega), k1k _ (by omega)]
          exact ⟨rfl, rfl, rfl⟩
        · rw [pu_st_ne (by omega), pu_st_ne (by omega), pu_st_a]; exact w2
        · rw [pu_st_ne (by omega), pu_st_a]
        · rw [pu_st_b (by omega), w3.1 1 (by omega), pu_st_ne (by omega)]
        · rw [pu_st_b (by omega), w3.1 1 (by omega), pu_st_ne (by omega)]
          have := hz (m2 1 2025) (Int.le_refl _) (by omega)
          rw [← this]
          unfold pu_nB
          congr 1
          omega
        · rw [show 2032 + 2 * m2 1 2025 + 1 = 2033 + 2 * m2 1 2025 by omega, pu_st_a]
        · rw [pu_st_ne (by omega), w3.1 2 (by omega), pu_st_b (by omega)]
        · rw [pu_st_ne (by omega), w3.1 2 (by omega), show 52 + m2 1 2025 = 52 + 0 + m2 1 2025 by omega, pu_st_a]
      · rw [if_pos rfl, pu_b2, pm_j197d]
        have e2 : pu_dd T L (jq_st (jq_st (jq_st k1 (o + 1) (m2 1 2025) v) (o + 2) (m2 1 2025) 0) (o + 3) (m2 1 2025) (-1)) k2 := d1.mv (st 2 (by omega) (by omega) (by omega)) (st 3 (by omega) (by omega) (by omega)) (st 4 (by omega) (by omega) (by omega)) rfl
        obtain ⟨ψ, f1, f2, f3⟩ := ps_psufd (n := m2 1 2025) ho e2 (by rw [st o (by omega) (by omega) (by omega), k1k o (by omega)]; omega) (by omega) y'.1
        exact ⟨ψ, k2, 0, f1, rfl, pu_g1_t gg f3, pu_g2_o (a8 rfl), Or.inr ⟨rfl, f2⟩⟩
    · have y' : ¬ (m2 1 2025 < 5 ∧ m2 1 2025 < m2 1 2024) := by
        unfold jq_min at y
        split at y <;> omega
      obtain ⟨u1, u2, a1, a2, a3, a4, a5⟩ := pa_blame (f := 6) hl (by decide)
      have c35 : X2_readParty_j35 m1 = some u1 := by
        unfold X2_readParty_j35
        rw [a1]
        rfl
      have cls : ∀ R, pu_IT o T L m1 m2 (some u1) R → pu_IT o T L m1 m2 (if pu_i (0 ≤ m2 1 2025 ∧ m2 1 2025 ≤ 4) = 0 then X2_readParty_j35 m1 else if m2 1 2025 < m1 o 0 then (X5_next m1).bind fun s6 => jq_b2 (X5_takeNewName o s6) fun v7 s8 => (jq_sa s8 (o + 1) 5 (m2 1 2025) v7).bind fun s9 => (jq_sa s9 (o + 2) 5 (m2 1 2025) 0).bind fun s10 => (jq_sa s10 (o + 3) 5 (m2 1 2025) (-1)).bind fun s11 => if s11 2 11 = 3 then (X5_next s11).bind fun s21 => jq_b2 (X5_takeNumber 0 50 s21) fun v22 s23 => (jq_sa s23 (o + 2) 5 (m2 1 2025) v22).bind fun s24 => X2_readParty_j96 o (m2 1 2025) s24 else X2_readParty_j96 o (m2 1 2025) s11 else X2_readParty_j35 m1) R := fun R hR => by
        by_cases p : 0 ≤ m2 1 2025 ∧ m2 1 2025 ≤ 4
        · rw [pu_i_p p, if_neg (show ¬ ((1 : Int) = 0) by decide), if_neg (show ¬ m2 1 2025 < m1 o 0 by omega), c35]
          exact hR
        · rw [pu_i_n p, if_pos rfl, c35]
          exact hR
      refine cls _ ?_
      unfold X11_newOne
      rw [pu_w (x := 2024 + 1) (by omega) (by omega), show (2024 : Int) + 1 = 2025 from rfl, pu_ld (by omega) (by omega), Option.bind_some, if_neg y, a2, pu_b2, pu_b2, if_pos rfl, pu_b2, pm_j197d]
      exact ⟨u1, u2, 0, rfl, rfl, pu_g1_o a4, pu_g2_o a5, Or.inr ⟨rfl, a3⟩⟩
end
