section
variable {T : Int → Int} {L e x y v n l s O t : Int} {b1 b2 m m1 m2 m3 σ σ1 σ2 τ τ1 τ2 F1 F2 : jq_M} {o f k i to W lo hi D : Int}
theorem pa_sstep (hl : pu_lv T L m1 m2) (hc : pu_cf o m1 m2) (hs : pu_sl m1 m2) (hk : m1 2 5 ≠ 0) (i0 : 0 ≤ i) (i9 : i < 900) : ∃ τ1 τ2 g, X6_readAll_b11 o 45 (i, m1) = some (.inl (i + 1, τ1)) ∧ X11_sessionStep m2 = some (g, τ2) ∧ pu_h1 m1 τ1 ∧ pu_h2 m2 τ2 ∧ (g = 1 ∧ pu_lv T L τ1 τ2 ∧ pu_sl τ1 τ2 ∧ m1 2 6 < τ1 2 6 ∨ g = 0 ∧ pu_dd T L τ1 τ2) := by
  obtain ⟨-, -, -, -, -, -, -, -, -, -, -, -, t1, t2, -⟩ := pu_tk_p hl.1
  obtain ⟨⟨s0, s1, s2, s3⟩, ⟨s4, s5, s6, s7⟩, -⟩ := id hs
  have gg : X5_goesOn m1 = some 1 := by
    unfold X5_goesOn
    rw [if_pos hl.2.1, if_neg hk]
  have wi : jq_w (i + 1) = i + 1 := pu_w (by omega) (by omega)
  have wr : jq_w (2162 + jq_w (6 * m2 1 2030)) = 2162 + 6 * m2 1 2030 := by rw [pu_w (x := 6 * m2 1 2030) (by omega) (by omega), pu_w (by omega) (by omega)]
  have fin : ∀ (c : Option jq_M) (r : Option (Int × jq_M)), pu_ST T L m1 m2 c r → ∃ τ1 τ2 g, (c.bind fun s6 => jq_lt (i + 1) fun v7 => (some (.inl (v7, s6)) : Option ((Int × jq_M) ⊕ jq_M))) = some (.inl (i + 1, τ1)) ∧ r = some (g, τ2) ∧ pu_h1 m1 τ1 ∧ pu_h2 m2 τ2 ∧ (g = 1 ∧ pu_lv T L τ1 τ2 ∧ pu_sl τ1 τ2 ∧ m1 2 6 < τ1 2 6 ∨ g = 0 ∧ pu_dd T L τ1 τ2) := fun c r ⟨τ1, τ2, g, h1, h2, h3, h4, h5⟩ => by
    rw [h1]
    exact ⟨τ1, τ2, g, rfl, h2, h3, h4, h5⟩
  have bad : ∀ f : Int, 0 < f → ∃ τ1 τ2, X5_blame f m1 = some τ1 ∧ (jq_b2 (X11_fails f m2) fun v s => some (v, s)) = some (0, τ2) ∧ pu_h1 m1 τ1 ∧ pu_h2 m2 τ2 ∧ pu_dd T L τ1 τ2 := fun f hf => by
    obtain ⟨u1, u2, a1, a2, a3, a4, a5⟩ := pa_blame (f := f) hl hf
    rw [a1, a2]
    exact ⟨u1, u2, rfl, rfl, pu_h1_o a4, pu_h2_o a5, a3⟩
  unfold X6_readAll_b11 X11_sessionStep
  dsimp only
  rw [if_pos i9, gg, Option.bind_some, if_neg (show ¬ ((1 : Int) = 0) by decide), wi, pm_inWords hl.1, Option.bind_some, pu_ld (by omega) (by omega), Option.bind_some, wr, pu_lt]
  by_cases z26 : m1 2 11 = 26
  · have r : pu_ri (m1 2 11) = 23 := by rw [z26]; rfl
    rw [if_pos z26, r, if_neg (show ¬ (23 : Int) = 21 by decide), if_neg (show ¬ (23 : Int) = 22 by decide)]
    unfold X11_sessionStep_j42 X6_readEnd
    rw [if_neg (show ¬ (23 : Int) < 13 by decide), if_neg (show ¬ (24 : Int) < 23 by decide), if_pos rfl]
    by_cases zd : m1 45 8 = 0
    · obtain ⟨u1, u2, a1, a2, a3, a4, a5⟩ := bad 2 (by decide)
      unfold X11_sessionStep_j69
      rw [if_pos zd, if_pos (by omega), a1, a2]
      exact ⟨u1, u2, 0, rfl, rfl, a3, a4, Or.inr ⟨rfl, a5⟩⟩
    · unfold X11_sessionStep_j75 X11_sessionStep_j97 X11_sessionStep_j117
      rw [if_neg zd, if_neg (by omega), if_pos rfl, if_pos rfl, if_pos rfl]
      exact fin _ _ (pa_send hl hs (by omega))
  · rw [if_neg z26]
    have mb : X6_mayBegin 45 m1 = if 13 ≤ m1 2 11 ∧ m1 2 11 ≤ 21 ∨ m1 2 11 = 25 ∨ m1 2 11 = 27 then (if m1 45 1 < 30 then (if (m1 2 11 = 21 ∨ m1 2 11 = 25) ∧ ¬ m1 45 8 < 3 then (X5_blame 7 m1).bind fun s12 => X6_mayBegin_j57 s12 else X6_mayBegin_j57 m1) else (X5_blame 6 m1).bind fun s13 => X6_mayBegin_j57 s13) else (X5_blame 2 m1).bind fun s14 => X6_mayBegin_j57 s14 := by
      unfold X6_mayBegin X6_isStepWord X7_isFull X7_isDeep
      rw [ps_within, Option.bind_some, ps_opens]
      by_cases a : 13 ≤ m1 2 11 ∧ m1 2 11 ≤ 21
      · rw [pu_i_p a, if_neg (show ¬ ((1 : Int) = 0) by decide), if_pos (Or.inl a), Option.bind_some, if_neg (show ¬ ((1 : Int) = 0) by decide)]
        by_cases b : m1 45 1 < 30
        · rw [if_pos b, if_pos b, Option.bind_some, if_pos rfl, Option.bind_some]
          by_cases c : m1 2 11 = 21 ∨ m1 2 11 = 25
          · rw [pu_i_p c, if_neg (show ¬ ((1 : Int) = 0) by decide)]
            by_cases d : m1 45 8 < 3
            · rw [if_pos d, Option.bind_some, if_pos rfl, if_neg (fun g => g.2 d)]
            · rw [if_neg d, Option.bind_some, if_neg (show ¬ ((1 : Int) = 0) by decide), if_pos ⟨c, d⟩]
          · rw [pu_i_n c, if_pos rfl, if_neg (fun g => c g.1)]
        · rw [if_neg b, if_neg b, Option.bind_some, if_neg (show ¬ ((1 : Int) = 0) by decide)]
      · rw [pu_i_n a, if_pos rfl]
        by_cases a5 : m1 2 11 = 25
        · rw [if_pos a5, if_pos (Or.inr (Or.inl a5)), Option.bind_some, if_neg (show ¬ ((1 : Int) = 0) by decide)]
          by_cases b : m1 45 1 < 30
          · rw [if_pos b, if_pos b, Option.bind_some, if_pos rfl, Option.bind_some]
            rw [pu_i_p (Or.inr a5), if_neg (show ¬ ((1 : Int) = 0) by decide)]
            by_cases d : m1 45 8 < 3
            · rw [if_pos d, Option.bind_some, if_pos rfl, if_neg (fun g => g.2 d)]
            · rw [if_neg d, Option.bind_some, if_neg (show ¬ ((1 : Int) = 0) by decide), if_pos ⟨Or.inr a5, d⟩]
          · rw [if_neg b, if_neg b, Option.bind_some, if_neg (show ¬ ((1 : Int) = 0) by decide)]
        · by_cases a7 : m1 2 11 = 27
          · rw [if_neg a5, if_pos a7, if_pos (Or.inr (Or.inr a7)), Option.bind_some, if_neg (show ¬ ((1 : Int) = 0) by decide)]
            by_cases b : m1 45 1 < 30
            · rw [if_pos b, if_pos b, Option.bind_some, if_pos rfl, Option.bind_some, pu_i_n (by omega), if_pos rfl, if_neg (fun g => by have := g.1; omega)]
            · rw [if_neg b, if_neg b, Option.bind_some, if_neg (show ¬ ((1 : Int) = 0) by decide)]
          · rw [if_neg a5, if_neg a7, Option.bind_some, if_pos rfl, if_neg (fun g => by rcases g with g | g | g; exact a g; exact a5 g; exact a7 g)]
    have no : ∀ (f : Int) (r : Option (Int × jq_M)), 0 < f → r = (jq_b2 (X11_fails f m2) fun v s => some (v, s)) → ∃ τ1 τ2 g, (jq_b2 ((X5_blame f m1).bind fun s => X6_mayBegin_j57 s) fun v6 s7 => if v6 = 0 then jq_lt (i + 1) fun v9 => some (.inl (v9, s7)) else jq_lt (s7 2 11) fun v10 => jq_b2 (X6_beginStep 45 s7) fun v11 s12 => if v10 = 21 then (X6_readTest o 45 v11 s12).bind fun s18 => X6_readAll_j91 o 45 i s18 else (X6_readOperands o 45 v11 v10 s12).bind fun s13 => X6_readAll_j91 o 45 i s13) = some (.inl (i + 1, τ1)) ∧ r = some (g, τ2) ∧ pu_h1 m1 τ1 ∧ pu_h2 m2 τ2 ∧ (g = 1 ∧ pu_lv T L τ1 τ2 ∧ pu_sl τ1 τ2 ∧ m1 2 6 < τ1 2 6 ∨ g = 0 ∧ pu_dd T L τ1 τ2) := fun f r hf hr => by
      obtain ⟨u1, u2, a1, a2, a3, a4, a5⟩ := bad f hf
      unfold X6_mayBegin_j57
      rw [a1, Option.bind_some, ps_faultd a5, Option.bind_some, if_neg (show ¬ ((1 : Int) = 0) by decide), pu_b2, if_pos rfl, hr, a2]
      exact ⟨u1, u2, 0, rfl, rfl, a3, a4, Or.inr ⟨rfl, a5⟩⟩
    rw [mb]
    by_cases hW : 13 ≤ m1 2 11 ∧ m1 2 11 ≤ 21 ∨ m1 2 11 = 25 ∨ m1 2 11 = 27
    · have rb : 13 ≤ pu_ri (m1 2 11) ∧ pu_ri (m1 2 11) ≤ 24 ∧ pu_ri (m1 2 11) ≠ 23 ∧ ((pu_ri (m1 2 11) = 21 ∨ pu_ri (m1 2 11) = 22) ↔ (m1 2 11 = 21 ∨ m1 2 11 = 25)) := by
        rcases (show m1 2 11 = 13 ∨ m1 2 11 = 14 ∨ m1 2 11 = 15 ∨ m1 2 11 = 16 ∨ m1 2 11 = 17 ∨ m1 2 11 = 18 ∨ m1 2 11 = 19 ∨ m1 2 11 = 20 ∨ m1 2 11 = 21 ∨ m1 2 11 = 25 ∨ m1 2 11 = 27 by omega) with g | g | g | g | g | g | g | g | g | g | g <;> rw [g] <;> decide
      obtain ⟨q1, q2, q3, q4⟩ := rb
      rw [if_pos hW]
      have st : pu_ST T L m1 m2 (pu_cst o m1) (X11_sessionStep_j133 (pu_ri (m1 2 11)) (m2 1 2030) (2162 + 6 * m2 1 2030) (pu_i (m1 2 11 = 21 ∨ m1 2 11 = 25)) (m2 0 22) 1 m2) → ∃ τ1 τ2 g, (jq_lt (m1 2 11) fun v10 => jq_b2 (X6_beginStep 45 m1) fun v11 s12 => if v10 = 21 then (X6_readTest o 45 v11 s12).bind fun s18 => X6_readAll_j91 o 45 i s18 else (X6_readOperands o 45 v11 v10 s12).bind fun s13 => X6_readAll_j91 o 45 i s13) = some (.inl (i + 1, τ1)) ∧ X11_sessionStep_j133 (pu_ri (m1 2 11)) (m2 1 2030) (2162 + 6 * m2 1 2030) (pu_i (m1 2 11 = 21 ∨ m1 2 11 = 25)) (m2 0 22) 1 m2 = some (g, τ2) ∧ pu_h1 m1 τ1 ∧ pu_h2 m2 τ2 ∧ (g = 1 ∧ pu_lv T L τ1 τ2 ∧ pu_sl τ1 τ2 ∧ m1 2 6 < τ1 2 6 ∨ g = 0 ∧ pu_dd T L τ1 τ2) := fun ⟨τ1, τ2, g, h1, h2, h3, h4, h5⟩ => by
        refine ⟨τ1, τ2, g, ?_, h2, h3, h4, h5⟩
        unfold pu_cst at h1
        unfold X6_readAll_j91
        rw [wi, pu_lt]
        cases hb : X6_beginStep 45 m1 with
        | none => rw [hb] at h1; cases h1
        | some q =>
          obtain ⟨q1, q2⟩ := q
          rw [hb, pu_b2] at h1
          rw [pu_b2]
          by_cases z : m1 2 11 = 21
          · rw [if_pos z] at h1 ⊢
            cases hr : X6_readTest o 45 q1 q2 with
            | none => rw [hr] at h1; cases h1
            | some p =>
              rw [hr, Option.bind_some] at h1
              rw [Option.bind_some, h1]
              rfl
          · rw [if_neg z] at h1 ⊢
            cases hr : X6_readOperands o 45 q1 (m1 2 11) q2 with
            | none => rw [hr] at h1; cases h1
            | some p =>
              rw [hr, Option.bind_some] at h1
              rw [Option.bind_some, h1]
              rfl
      have rf : ∀ op : Int, X11_sessionStep_j42 (pu_ri (m1 2 11)) (m2 1 2030) (2162 + 6 * m2 1 2030) op m2 = if m2 0 22 = 30 then (jq_b2 (X11_fails 6 m2) fun v s => some (v, s)) else if op = 0 then X11_sessionStep_j133 (pu_ri (m1 2 11)) (m2 1 2030) (2162 + 6 * m2 1 2030) op (m2 0 22) 1 m2 else if m2 0 21 = 3 then (jq_b2 (X11_fails 7 m2) fun v s => some (v, s)) else X11_sessionStep_j133 (pu_ri (m1 2 11)) (m2 1 2030) (2162 + 6 * m2 1 2030) op (m2 0 22) 1 m2 := fun op => by
        unfold X11_sessionStep_j42 X11_sessionStep_j75 X11_sessionStep_j97 X11_sessionStep_j117
        rw [if_neg (by omega), if_neg (by omega), if_neg q3, if_neg q3, if_neg q3]
      have op : (if pu_ri (m1 2 11) = 21 then X11_sessionStep_j42 (pu_ri (m1 2 11)) (m2 1 2030) (2162 + 6 * m2 1 2030) 1 m2 else if pu_ri (m1 2 11) = 22 then X11_sessionStep_j42 (pu_ri (m1 2 11)) (m2 1 2030) (2162 + 6 * m2 1 2030) 1 m2 else X11_sessionStep_j42 (pu_ri (m1 2 11)) (m2 1 2030) (2162 + 6 * m2 1 2030) 0 m2) = X11_sessionStep_j42 (pu_ri (m1 2 11)) (m2 1 2030) (2162 + 6 * m2 1 2030) (pu_i (m1 2 11 = 21 ∨ m1 2 11 = 25)) m2 := by
        by_cases z : m1 2 11 = 21 ∨ m1 2 11 = 25
        · rw [pu_i_p z]
          have := q4.mpr z
          by_cases a : pu_ri (m1 2 11) = 21
          · rw [if_pos a]
          · rw [if_neg a, if_pos (by rcases this with g | g; exact absurd g a; exact g)]
        · rw [pu_i_n z, if_neg (fun g => z (q4.mp (Or.inl g))), if_neg (fun g => z (q4.mp (Or.inr g)))]
      rw [op, rf]
      clear q4
      by_cases t30 : m1 45 1 < 30
      · rw [if_pos t30, if_neg (show ¬ m2 0 22 = 30 by omega)]
        by_cases zo : m1 2 11 = 21 ∨ m1 2 11 = 25
        · by_cases zd : m1 45 8 < 3
          · rw [if_neg (fun g => g.2 zd)]
            have st' := st (pa_step1 hl hc hs hW t30 (fun _ => zd))
            rw [pu_i_p zo] at st' ⊢
            unfold X6_mayBegin_j57
            rw [ps_faultl hl, Option.bind_some, if_pos rfl, pu_b2, if_neg (show ¬ ((1 : Int) = 0) by decide), if_neg (show ¬ ((1 : Int) = 0) by decide), if_neg (show ¬ m2 0 21 = 3 by omega)]
            exact st'
          · rw [if_pos ⟨zo, zd⟩, pu_i_p zo, if_neg (show ¬ ((1 : Int) = 0) by decide), if_pos (show m2 0 21 = 3 by omega)]
            exact no 7 _ (by decide) rfl
        · rw [if_neg (fun g => zo g.1)]
          have st' := st (pa_step1 hl hc hs hW t30 (fun g => absurd g zo))
          rw [pu_i_n zo] at st' ⊢
          unfold X6_mayBegin_j57
          rw [ps_faultl hl, Option.bind_some, if_pos rfl, pu_b2, if_neg (show ¬ ((1 : Int) = 0) by decide), if_pos rfl]
          exact st'
      · rw [if_neg t30, if_pos (show m2 0 22 = 30 by omega)]
        exact no 6 _ (by decide) rfl
    · have rl : ∀ j : Nat, j < 13 → pu_rl.getD j 0 < 13 := by decide +kernel
      have rb : pu_ri (m1 2 11) < 13 ∨ 24 < pu_ri (m1 2 11) := by
        by_cases y : m1 2 11 < 13
        · unfold pu_ri
          split
          · omega
          · have := rl (m1 2 11).toNat (by omega)
            omega
        · rcases (show m1 2 11 = 22 ∨ m1 2 11 = 23 ∨ m1 2 11 = 24 by omega) with g | g | g <;> rw [g] <;> decide
      have j42 : ∀ op : Int, X11_sessionStep_j42 (pu_ri (m1 2 11)) (m2 1 2030) (2162 + 6 * m2 1 2030) op m2 = jq_b2 (X11_fails 2 m2) fun v s => some (v, s) := fun op => by
        unfold X11_sessionStep_j42 X11_sessionStep_j69
        rcases rb with g | g
        · rw [if_pos g]
        · rw [if_neg (by omega), if_pos g]
      rw [if_neg hW, j42, j42]
      exact no 2 _ (by decide) (by split <;> (first | rfl | (split <;> rfl)))
end
