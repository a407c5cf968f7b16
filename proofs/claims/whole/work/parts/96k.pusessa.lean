section
variable {σ1 σ2 : jq_M}
theorem pr_sessions {σ1 σ2 : jq_M} (h : jq_Rel σ1 σ2) (w1 : jq_wf jq_zX 132 σ1) (w2 : jq_wf jq_zM 18 σ2) (y1 : jq_lay jq_zX σ1) (y2 : jq_lay jq_zM σ2) {p1 : Int} (hp1 : jq_r p1) : ∃ (r : Int) (σ1' σ2' : jq_M), X10_sessions p1 σ1 = some (r, σ1') ∧ X11_sessions p1 σ2 = some (r, σ2') ∧ jq_Rel σ1' σ2' := by
  have h0 := h
  obtain ⟨⟨g0, g1, g2, g3, g4⟩, gn, gC, gM, gT, ⟨t1, t2, t3, t4⟩, gl, gK⟩ := h0
  have ho : σ1 0 7 = 5 ∨ σ1 0 7 = 25 := by omega
  unfold X10_sessions X11_sessions
  by_cases z0 : p1 < 0
  · refine pu_no h (r := -1) (v := 1) ?_ ?_
    · unfold X10_sessions_j22
      rw [if_pos z0]
      rfl
    · unfold X11_begins
      rw [if_pos z0]
      rfl
  by_cases z1 : σ1 2 2 < p1
  · refine pu_no h (r := -1) (v := 1) ?_ ?_
    · unfold X10_sessions_j22
      rw [if_neg z0, if_pos z1]
      rfl
    · unfold X11_begins
      rw [if_neg z0, if_pos (by omega)]
      rfl
  by_cases z3 : 300 < p1
  · refine pu_no h (r := -1) (v := 1) ?_ ?_
    · unfold X10_sessions_j22
      rw [if_neg z0, if_neg z1, if_pos z3]
      rfl
    · unfold X11_begins
      rw [if_neg z0, if_neg (by omega), if_pos z3]
      rfl
  obtain ⟨a1, a2, b1, b2, hl, b3, b4, b5, b6, b7⟩ := pa_begin (n := p1) (mx := 300) h (by omega) (by omega) (by omega)
  have o7 : a1 0 7 = σ1 0 7 := by rw [b3 0 (by omega)]
  rw [if_neg z0, if_neg z1, if_neg z3, b1, b2, Option.bind_some, pu_b2, if_neg (show ¬ ((1 : Int) = 0) by decide), pu_lt, o7, pu_sa (by omega) (by omega), Option.bind_some, pu_lt, pu_lt]
  generalize hoo : σ1 0 7 = o at ho gC
  -- both are empty
  obtain ⟨c1, d1, d2, d3, d4, d5, d6⟩ : ∃ c1, (∀ x : jq_M → Option jq_M, (X7_clear 45 a1).bind (fun s1 => jq_lt (jq_st s1 45 0 1) x) = x c1) ∧ (∀ k, k ≠ 45 → c1 k = a1 k) ∧ c1 45 0 = 1 ∧ c1 45 1 = 0 ∧ c1 45 2 = 0 ∧ c1 45 8 = 0 := by
    refine ⟨_, fun x => rfl, fun k a => by simp only [pu_st_ne a], pu_st_a, ?_, ?_, ?_⟩
    · rw [pu_st_b (by omega), pu_st_b (by omega), pu_st_b (by omega), pu_st_a]
    · rw [pu_st_b (by omega), pu_st_b (by omega), pu_st_a]
    · rw [pu_st_b (by omega), pu_st_a]
  obtain ⟨c2, hc2⟩ : ∃ c2, c2 = jq_st (jq_st (jq_st a2 1 2030 0) 0 21 0) 0 22 0 := ⟨_, rfl⟩
  rw [← hc2]
  have e30 : c2 1 2030 = 0 := by rw [hc2, pu_st_ne (by omega), pu_st_ne (by omega), pu_st_a]
  have e21 : c2 0 21 = 0 := by rw [hc2, pu_st_b (by omega), pu_st_a]
  have e22 : c2 0 22 = 0 := by rw [hc2, pu_st_a]
  have ek : ∀ k, k ≠ 0 → k ≠ 1 → c2 k = a2 k := fun k x y => by rw [hc2, pu_st_ne x, pu_st_ne x, pu_st_ne y]
  have e1 : ∀ j, j ≠ 2030 → c2 1 j = a2 1 j := fun j x => by rw [hc2, pu_st_ne (by omega), pu_st_ne (by omega), pu_st_b x]
  have e0 : ∀ j, j ≠ 21 → j ≠ 22 → c2 0 j = a2 0 j := fun j x y => by rw [hc2, pu_st_b y, pu_st_b x, pu_st_ne (by omega)]
  have lv : pu_lv (σ1 4) p1 c1 c2 := hl.mv0 (d2 2 (by omega)) (d2 3 (by omega)) (d2 4 (by omega)) (fun j x y => e0 j (by omega) (by omega)) (ek 7 (by omega) (by omega))
  have cf0 : pu_cf o σ1 σ2 := by
    obtain ⟨i0, i1, i2, i3, -⟩ := gC.1
    obtain ⟨⟨r0, r1, r2, r3, r4, r5, r6⟩, -⟩ := gC.2.1
    refine ⟨ho, ⟨r0, r2, r4⟩, i0, ⟨i1.1, i1.2.1⟩, i3, fun p x y => ?_, gC.2.2.1.2⟩
    rw [Int.zero_add]
    exact gC.2.2.1.1 p x y
  have cf : pu_cf o c1 c2 := cf0.mv (fun k x y => by rw [d2 k (by omega)]; exact b3 k (by omega)) (fun j x => by rw [e1 j (by omega), b5 1 (by omega) (by omega)]) (by rw [ek 2 (by omega) (by omega)]; exact b5 2 (by omega) (by omega))
  have sl : pu_sl c1 c2 := ⟨⟨d3, by omega, by omega, by omega⟩, ⟨by omega, by omega, by omega, by omega⟩, fun j x y => by omega, fun i j x y z => by omega, fun n x y => by omega, fun a b x y z => by omega, fun a j x y => by omega⟩
  have s0 := (pu_tk_p lv.1).1
  obtain ⟨r1, r2, f1, f2, f3, f4, f5⟩ := pa_steps (T := σ1 4) (L := p1) (o := o) 900 c1 c2 0 lv cf sl (by omega) (Int.le_refl _) s0
  -- what has changed
  have k1 : ∀ k, k ≠ 2 → ¬ (45 ≤ k ∧ k ≤ 50) → r1 k = σ1 k := fun k x y => by rw [f3.1 k x y, d2 k (by omega)]; exact b3 k x
  have k22 : r1 2 2 = 0 := by rw [f3.2 2 (by omega), d2 2 (by omega)]; exact b4
  have m1 : ∀ k, k ≠ 0 → k ≠ 1 → k ≠ 7 → k ≠ 8 → r2 k = σ2 k := fun k x y z w => by rw [f4.1 k x y w, ek k x y]; exact b5 k x z
  have m2 : ∀ j, j < 2024 → r2 1 j = σ2 1 j := fun j x => by rw [f4.2.1 j x, e1 j (by omega), b5 1 (by omega) (by omega)]
  have m4 : ∀ j, j < 10 ∨ j = 16 ∨ j = 20 ∨ 22 < j → r2 0 j = σ2 0 j := fun j x => by rw [f4.2.2 j (by omega), e0 j (by omega) (by omega)]; exact b6 j (by omega)
  have m5 : r2 0 10 = 0 := by rw [f4.2.2 10 (by omega), e0 10 (by omega) (by omega)]; exact b7
  have rd : X6_readAll o 45 a1 = X6_readAll_j103 45 r1 := by
    unfold X6_readAll
    rw [d1, f1]
    rfl
  rw [rd, f2, Option.bind_some]
  -- a fault
  have bad : ∀ (q1 q2 : jq_M), pu_dd (σ1 4) p1 q1 q2 → pu_o2 r1 q1 → pu_o0 r2 q2 → ∃ (r : Int) (σ1' σ2' : jq_M), (jq_b2 (X10_keepFault q1) fun v8 s9 => if v8 = 0 then jq_b2 (X10_refuse 9 s9) fun v18 s19 => some (v18, s19) else jq_lt (s9 0 7) fun c11 => (X7_takeFrom (c11 + 13) 45 s9).bind fun s13 => jq_lt (s13 0 7) fun c14 => jq_b2 (X10_answer (s13 (c14 + 13) 1) s13) fun v16 s17 => some (v16, s17)) = some (r, σ1') ∧ X11_sessions_j77 q2 = some (r, σ2') ∧ jq_Rel σ1' σ2' := fun q1 q2 hd h1 h2 => by
    have z12 : ¬ q1 2 12 = 0 := hd.2.2.1
    have e12 : q1 2 12 = q2 0 18 := hd.2.1
    have e13 : q1 2 13 = q2 0 17 := hd.2.2.2.1
    have pos := hd.2.2.2.2
    unfold X11_sessions_j77 X11_sessions_j132 X11_taken
    rw [ps_keep, pu_b2, pu_i_n z12, if_pos rfl, ps_refuse, pu_b2, if_neg (show ¬ q2 0 18 = 0 by omega), pu_lt, if_pos (show 0 < jq_st q2 0 16 (q2 0 18) 0 18 by rw [pu_st_b (by omega)]; omega), pm_refuse, pu_b2, pu_b2]
    refine ⟨_, _, _, rfl, rfl, pu_RelD (F1 := jq_st (jq_st (jq_st q1 0 5 (q1 2 12)) 0 6 (q1 2 13)) 0 0 9) (F2 := jq_st (jq_st q2 0 16 (q2 0 18)) 0 2 9) h (fun k a => ?_) (fun j a b c => ?_) ?_ (fun k a b c d => ?_) (fun j a b => ?_) (fun j a => ?_) ?_ ?_ ?_ ?_ ?_⟩
    · rw [pu_st_ne (by omega), pu_st_ne (by omega), pu_st_ne (by omega), h1.1 k (by omega)]; exact k1 k (by omega) (by omega)
    · rw [pu_st_b a, pu_st_b c, pu_st_b b, h1.1 0 (by omega), k1 0 (by omega) (by omega)]
    · rw [pu_st_ne (by omega), pu_st_ne (by omega), pu_st_ne (by omega), h1.2 2 (by omega)]; exact k22
    · rw [pu_st_ne a, pu_st_ne a, h2.1 k a]; exact m1 k a b c d
    · rw [pu_st_ne (by omega), pu_st_ne (by omega), h2.1 1 (by omega)]; exact m2 j b
    · rw [pu_st_b (by omega), pu_st_b (by omega), h2.2 j (by omega)]; exact m4 j (by omega)
    · rw [pu_st_b (by omega), pu_st_b (by omega), h2.2 10 (by omega)]; exact m5
    · rw [pu_st_a, pu_st_a]
    · rw [pu_st_b (by omega), pu_st_b (by omega), pu_st_a, pu_st_b (by omega), pu_st_a]; exact e12
    · rw [pu_st_b (by omega), pu_st_a, pu_st_b (by omega), pu_st_b (by omega)]; exact e13
    · rw [hoo]
      refine (gC.mv (fun k a b => ?_)).cg (fun j a b => ?_) (fun j a b => ?_)
      · rw [pu_st_ne (by omega), pu_st_ne (by omega), pu_st_ne (by omega), h1.1 _ (by omega)]; exact k1 _ (by omega) (by omega)
      · rw [pu_st_ne (by omega), pu_st_ne (by omega), h2.1 1 (by omega)]; exact m2 j (by omega)
      · rw [pu_st_ne (by omega), pu_st_ne (by omega), h2.1 2 (by omega), m1 2 (by omega) (by omega) (by omega) (by omega)]
  unfold X6_readAll_j103 X11_sessions_j57
  rcases f5 with ⟨l1, l2⟩ | l1
  · have z18 : r2 0 18 = 0 := l1.2.2.1
    have l20 := l2
    obtain ⟨⟨q0, q1, q2, q3⟩, ⟨q4, q5, q6, q7⟩, -⟩ := l20
    rw [if_pos z18]
    by_cases zd : 0 < r1 45 8
    · obtain ⟨u1, u2, x1, x2, x3, x4, x5⟩ := pa_blame (f := 2) l1 (by decide)
      rw [if_pos zd, x1, Option.bind_some, Option.bind_some, if_pos (by omega), x2, pu_b2]
      exact bad u1 u2 x3 x4 x5
    · rw [if_neg zd, Option.bind_some, if_neg (by omega)]
      have z12 : r1 2 12 = 0 := l1.2.1
      have z13 : r1 2 13 = r2 0 17 := l1.2.2.2
      have lp1 : ∃ e, jq_lp X11_sessions_b103 (138, jq_st r2 1 6 (r1 45 2)) = some e ∧ (∀ k, k ≠ 1 → e k = r2 k) ∧ (∀ j, j < 138 ∨ 498 ≤ j → e 1 j = jq_st r2 1 6 (r1 45 2) 1 j) ∧ ∀ j, 138 ≤ j → j < 498 → e 1 j = r2 1 (2024 + j) := by
        refine pu_lpE (f := X11_sessions_b103) (s := ((138 : Int), jq_st r2 1 6 (r1 45 2))) (fun i t => t.1 = (i : Int) + 138 ∧ (∀ k, k ≠ 1 → t.2 k = r2 k) ∧ (∀ j, j < 138 ∨ t.1 ≤ j → t.2 1 j = jq_st r2 1 6 (r1 45 2) 1 j) ∧ ∀ j, 138 ≤ j → j < t.1 → t.2 1 j = r2 1 (2024 + j)) (fun e => (∀ k, k ≠ 1 → e k = r2 k) ∧ (∀ j, j < 138 ∨ 498 ≤ j → e 1 j = jq_st r2 1 6 (r1 45 2) 1 j) ∧ ∀ j, 138 ≤ j → j < 498 → e 1 j = r2 1 (2024 + j)) 360 ⟨rfl, fun k hk => pu_st_ne hk, fun _ _ => rfl, fun j a b => by dsimp only at b; omega⟩ (fun i t ht hi => ?_) (fun e a b => ⟨e, a, b⟩)
        obtain ⟨x1, x2⟩ := t
        obtain ⟨w0, w1, w2, w3⟩ := ht
        dsimp only at w0 w1 w2 w3
        unfold X11_sessions_b103
        dsimp only
        by_cases w : x1 < 498
        · rw [if_pos w, pu_w (x := 2024 + x1) (by omega) (by omega), pu_ld (by omega) (by omega), Option.bind_some, pu_sa (by omega) (by omega), Option.bind_some, pu_lt, pu_w (by omega) (by omega), w2 (2024 + x1) (by omega), pu_st_b (show 2024 + x1 ≠ 6 by omega)]
          refine Or.inr ⟨by omega, _, rfl, by dsimp only; omega, fun k hk => (pu_st_ne hk).trans (w1 k hk), fun j hj => ?_, fun j a b => ?_⟩
          · dsimp only at hj ⊢
            rw [pu_st_b (by omega)]; exact w2 j (by omega)
          · dsimp only at b ⊢
            by_cases z : j = x1
            · rw [z, pu_st_a]
            · rw [pu_st_b z]; exact w3 j a (by omega)
        · rw [if_neg w]
          exact Or.inl ⟨_, rfl, w1, fun j a => w2 j (by omega), fun j a b => w3 j a (by omega)⟩
      obtain ⟨y, y1, y2, y3, y4⟩ := lp1
      have y0 : y 0 = r2 0 := y2 0 (by omega)
      have s9 : jq_st (jq_st r1 0 5 (r1 2 12)) 0 6 (r1 2 13) 0 7 = o := by rw [pu_st_b (by omega), pu_st_b (by omega), k1 0 (by omega) (by omega)]; exact hoo
      obtain ⟨t, v1, v2, v3, v4⟩ := ps_stepsTake (σ := jq_st (jq_st r1 0 5 (r1 2 12)) 0 6 (r1 2 13)) (o := o + 13) (p := 45) (fun d x y d' x' y' => by omega)
      have t07 : t 0 7 = o := by rw [v2 0 (by omega)]; exact s9
      unfold X11_sessions_j77 X11_sessions_j132 X11_taken
      rw [ps_keep, pu_b2, pu_i_p z12, if_neg (show ¬ ((1 : Int) = 0) by decide), pu_lt, s9, v1, Option.bind_some, pu_lt, t07, ps_answer, pu_b2, if_pos z18, pu_ld (by omega) (by omega), Option.bind_some, q1, pu_sa (by omega) (by omega), Option.bind_some, y1, Option.bind_some, pu_lt, if_neg (show ¬ 0 < jq_st y 0 16 (y 0 18) 0 18 by rw [pu_st_b (by omega), y0, z18]; decide), pm_gives, pu_b2, pu_b2]
      have tv : t (o + 13) 1 = y 0 22 := by rw [v3 1 (by omega) (by omega), pu_st_ne (by omega), pu_st_ne (by omega), y0]; exact q2.symm
      rw [tv]
      refine ⟨_, _, _, rfl, rfl, pu_RelD (F1 := jq_st t 0 0 0) (F2 := jq_st (jq_st y 0 16 (y 0 18)) 0 2 0) h (fun k a => ?_) (fun j a b c => ?_) ?_ (fun k a b c d => ?_) (fun j a b => ?_) (fun j a => ?_) ?_ ?_ ?_ ?_ ?_⟩
      · rw [pu_st_ne (by omega), v2 k (by omega), pu_st_ne (by omega), pu_st_ne (by omega)]; exact k1 k (by omega) (by omega)
      · rw [pu_st_b a, v2 0 (by omega), pu_st_b c, pu_st_b b, k1 0 (by omega) (by omega)]
      · rw [pu_st_ne (by omega), v2 2 (by omega), pu_st_ne (by omega), pu_st_ne (by omega)]; exact k22
      · rw [pu_st_ne a, pu_st_ne a, y2 k b]; exact m1 k a b c d
      · rw [pu_st_ne (by omega), pu_st_ne (by omega), y3 j (by omega), pu_st_b (by omega)]; exact m2 j b
      · rw [pu_st_b (by omega), pu_st_b (by omega), y0]; exact m4 j (by omega)
      · rw [pu_st_b (by omega), pu_st_b (by omega), y0]; exact m5
      · rw [pu_st_a, pu_st_a]
      · rw [pu_st_b (by omega), v2 0 (by omega), pu_st_b (by omega), pu_st_a, pu_st_b (by omega), pu_st_a, y0, z18]; exact z12
      · rw [pu_st_b (by omega), v2 0 (by omega), pu_st_a, pu_st_b (by omega), pu_st_b (by omega), y0]; exact z13
      · rw [hoo]
        refine pu_CM_s (m1 := r1) (m2 := r2) gC l2 (by omega) m2 (fun k a b => ?_) ?_ ?_ (fun d i a b c e => ?_) (fun j a b => ?_) ?_ (fun j a b => ?_) ?_
        · rw [pu_st_ne (by omega), v2 _ (by omega), pu_st_ne (by omega), pu_st_ne (by omega)]; exact k1 _ (by omega) (by omega)
        · rw [pu_st_ne (by omega), v3 0 (by omega) (by omega), pu_st_ne (by omega), pu_st_ne (by omega)]; exact q0
        · rw [pu_st_ne (by omega), v3 2 (by omega) (by omega), pu_st_ne (by omega), pu_st_ne (by omega)]
        · rw [pu_st_ne (by omega), v4 d i a b c e, pu_st_ne (by omega), pu_st_ne (by omega)]
        · rw [pu_st_ne (by omega), pu_st_ne (by omega), y3 j (by omega), pu_st_b b]; exact m2 j (by omega)
        · rw [pu_st_ne (by omega), pu_st_ne (by omega), y3 6 (by omega), pu_st_a]
        · rw [pu_st_ne (by omega), pu_st_ne (by omega)]; exact y4 j a b
        · rw [pu_st_ne (by omega), pu_st_ne (by omega), y2 2 (by omega), m1 2 (by omega) (by omega) (by omega) (by omega)]
  · have z18 : ¬ r2 0 18 = 0 := by have := l1.2.1; have := l1.2.2.1; omega
    rw [if_neg z18, ps_blamed l1, Option.bind_some]
    have ite : (if 0 < r1 45 8 then some r1 else some r1) = some r1 := by split <;> rfl
    rw [ite, Option.bind_some]
    exact bad r1 r2 l1 pu_o2_r pu_o0_r
end
