section
variable {T : Int → Int} {L e x v n l s : Int} {b1 b2 m m1 m2 m3 σ τ τ1 τ2 : jq_M} {o f k lo hi to : Int} {A B N : Int → Int} {w : List Int}
theorem pm_b80 (h : m2 1 2025 = n) (n0 : 0 ≤ n) (n5 : n ≤ 5) : ∃ e, jq_lp (X11_aParty_b80 m2) 0 = some e ∧ (e = .inl () ∧ m2 0 12 = 3 ∧ 0 ≤ m2 0 15 ∧ (∃ k, 0 ≤ k ∧ k < n ∧ m2 1 (2033 + 2 * k) = m2 0 15) ∨ e = .inr () ∧ ¬ (m2 0 12 = 3 ∧ 0 ≤ m2 0 15 ∧ ∃ k, 0 ≤ k ∧ k < n ∧ m2 1 (2033 + 2 * k) = m2 0 15)) := by
  refine pu_lpE (f := X11_aParty_b80 m2) (s := (0 : Int)) (fun i t => t = (i : Int) ∧ ¬ (m2 0 12 = 3 ∧ 0 ≤ m2 0 15 ∧ ∃ k, 0 ≤ k ∧ k < t ∧ m2 1 (2033 + 2 * k) = m2 0 15)) (fun e => e = .inl () ∧ m2 0 12 = 3 ∧ 0 ≤ m2 0 15 ∧ (∃ k, 0 ≤ k ∧ k < n ∧ m2 1 (2033 + 2 * k) = m2 0 15) ∨ e = .inr () ∧ ¬ (m2 0 12 = 3 ∧ 0 ≤ m2 0 15 ∧ ∃ k, 0 ≤ k ∧ k < n ∧ m2 1 (2033 + 2 * k) = m2 0 15)) n.toNat ⟨rfl, fun ⟨_, _, k, a, b, _⟩ => by omega⟩ (fun i t ht hi => ?_) (fun e h1 h2 => ⟨e, h1, h2⟩)
  obtain ⟨hk, q⟩ := ht
  have k0 : 0 ≤ t := by clear q; omega
  have tn : t ≤ n := by clear q; omega
  unfold X11_aParty_b80
  rw [pu_ld (by omega) (by omega), Option.bind_some, h]
  by_cases l : t < n
  · have nxt : ¬ (m2 0 12 = 3 ∧ 0 ≤ m2 0 15 ∧ m2 1 (2033 + 2 * t) = m2 0 15) → i < n.toNat ∧ ∃ s', (some (.inl (t + 1)) : Option (Int ⊕ (Unit ⊕ Unit))) = some (.inl s') ∧ s' = ((i + 1 : Nat) : Int) ∧ ¬ (m2 0 12 = 3 ∧ 0 ≤ m2 0 15 ∧ ∃ k, 0 ≤ k ∧ k < s' ∧ m2 1 (2033 + 2 * k) = m2 0 15) := fun g => by
      refine ⟨by clear q g; omega, _, rfl, by clear q g; omega, ?_⟩
      rintro ⟨a, b, k, c, d, e⟩
      by_cases z : k = t
      · rw [z] at e
        exact g ⟨a, b, e⟩
      · exact q ⟨a, b, k, c, by clear q g; omega, e⟩
    have ww : jq_w (t + 1) = t + 1 := pu_w (by omega) (by omega)
    have wi : jq_w (jq_w (2032 + jq_w (2 * t)) + 1) = 2033 + 2 * t := by
      rw [pu_w (x := 2 * t) (by omega) (by omega), pu_w (x := 2032 + 2 * t) (by omega) (by omega), pu_w (by omega) (by omega)]
      omega
    rw [if_pos l, ww, wi]
    by_cases z : m2 0 12 = 3
    · rw [if_pos z, pu_ld (by omega) (by omega), Option.bind_some]
      by_cases y : m2 1 (2033 + 2 * t) = m2 0 15
      · rw [if_pos y]
        by_cases u : m2 0 15 < 0
        · rw [if_pos u, pu_lt]
          exact Or.inr (nxt (fun g => by omega))
        · rw [if_neg u]
          exact Or.inl ⟨_, rfl, Or.inl ⟨rfl, z, by omega, t, k0, l, y⟩⟩
      · rw [if_neg y, pu_lt]
        exact Or.inr (nxt (fun g => y g.2.2))
    · rw [if_neg z, pu_lt]
      exact Or.inr (nxt (fun g => z g.1))
  · rw [if_neg l]
    refine Or.inl ⟨_, rfl, Or.inr ⟨rfl, ?_⟩⟩
    rintro ⟨a, b, k, c, d, e⟩
    exact q ⟨a, b, k, c, by clear q; omega, e⟩
theorem ps_freed (ho : o = 5 ∨ o = 25) (hl : pu_dd T L m1 m2) (h2 : 0 ≤ m1 o 2 ∧ m1 o 2 ≤ 5) : ∃ v τ, X2_takeFreePlace o m1 = some (v, τ) ∧ pu_dd T L τ m2 ∧ pu_o2 m1 τ := by
  obtain ⟨ω, d1, d2, d3⟩ := ps_nextd hl
  refine ⟨0, ω, ?_, d2, d3⟩
  unfold X2_takeFreePlace X2_takeFreePlace_j30
  rw [ps_within2 hl, pu_b2, ps_sitterAt (n := m1 o 2) (S := m1 (o + 3)) rfl h2.1 h2.2 (fun _ _ _ => rfl), Option.bind_some, ps_blamed hl, Option.bind_some, d1]
  split <;> rfl
theorem ps_j98d (ho : o = 5 ∨ o = 25) (hl : pu_dd T L m1 m2) (h2 : 0 ≤ m1 o 2 ∧ m1 o 2 ≤ 5) (n0 : 0 ≤ n) (n5 : n < 5) : ∃ τ, X2_readParty_j96 o n m1 = some τ ∧ pu_dd T L τ m2 ∧ pu_g1 o m1 τ := by
  unfold X2_readParty_j96
  by_cases z : m1 2 11 = 4
  · obtain ⟨ω, d1, d2, d3⟩ := ps_nextd hl
    obtain ⟨v, κ, c1, c2, c3⟩ := ps_freed ho d2 (by rw [d3.1 o (by omega)]; exact h2)
    rw [if_pos z, d1, Option.bind_some, c1, pu_b2, pu_sa n0 n5, Option.bind_some]
    have e2 : pu_dd T L (jq_st κ (o + 3) n v) m2 := c2.mv (pu_st_ne (by omega)) (pu_st_ne (by omega)) (pu_st_ne (by omega)) rfl
    obtain ⟨ψ, f1, f2, f3⟩ := ps_j121d ho e2
    exact ⟨ψ, f1, f2, pu_g1_t (pu_g1_o (pu_o2_t d3 c3)) (pu_g1_t (pu_g1_s (by omega) (by omega) (by omega)) f3)⟩
  · rw [if_neg z]
    exact ps_j121d ho hl
theorem pa_j98 (ho : o = 5 ∨ o = 25) (hb : pu_bd o b1 b2) (hl : pu_lv T L m1 m2) (hp : pu_pb o b1 b2 m1 m2 n l (-1) w) (hn : n = b2 1 2025) (n5 : n < 5) (np : n < b2 1 2024) (hw : pu_wd w) (hl0 : 0 ≤ l ∧ l ≤ 50) : pu_IT o T L m1 m2 (X2_readParty_j96 o n m1) (jq_b2 (X11_aParty_j69 (2032 + 2 * n) m2) fun v s => X11_committeePart_j197 v s) := by
  have i0 : b2 1 2024 = 0 ∨ 3 ≤ b2 1 2024 ∧ b2 1 2024 ≤ 6 := hb.1.1
  have i1 : 0 ≤ b2 1 2025 ∧ b2 1 2025 ≤ 5 ∧ b2 1 2025 ≤ b2 1 2024 := hb.1.2.1
  have i7 := hb.1.2.2.2.2.2.2.2.1
  have rp := hb.2.1.2.1
  unfold X2_readParty_j96 X11_aParty_j69
  rcases pm_there (k := 4) (r := 7) hl (by decide) (by decide) (by decide) with ⟨z, t⟩ | ⟨z, t⟩
  · obtain ⟨u1, u2, a1, a2, a3, a4, a5, a6, a7⟩ := pa_adv hl
    have hp2 := pu_pb_o ho hp a4 a5
    obtain ⟨⟨p1, p2, p3, p4, p5⟩, p6, p7, p8, p9, p10⟩ := id hp2
    have uo : u1 o = b1 o := p1 o (by omega) (by omega) (by omega) (by omega)
    have uc0 : u1 o 0 = b2 1 2024 := by rw [uo]; exact hb.2.1.1.1
    have uc2 : u1 o 2 = n := by rw [uo, hn]; exact hb.2.1.1.2.2.1
    have q25 : u2 1 2025 = n := by rw [p6 2025 (by omega) (by omega), hn]
    have q24 : u2 1 2024 = b2 1 2024 := p6 2024 (by omega) (by omega)
    have seat : ∀ k, 0 ≤ k → k < n → u1 (o + 3) k = u2 1 (2033 + 2 * k) ∧ u2 1 (2033 + 2 * k) = b2 1 (2033 + 2 * k) ∧ -1 ≤ u2 1 (2033 + 2 * k) ∧ u2 1 (2033 + 2 * k) < b2 1 2024 := fun k x y => by
      have e : pu_nB b2 (9 + 2 * k) = b2 1 (2033 + 2 * k) := by unfold pu_nB; congr 1; omega
      have r := (rp k x (by show k < b2 1 2025; omega)).2
      have i := (i7 k x (by show k < b2 1 2025; omega)).2.2
      rw [e] at r i
      rw [p6 _ (by omega) (by omega), (p2 k (by omega)).2.2]
      exact ⟨r, rfl, i.1, i.2⟩
    obtain ⟨e, b80, hE⟩ := pm_b80 q25 (by omega) (by omega)
    have prog := a7 (by have := (pu_tk_p hl.1).2.2.2.2.2.2.2.2.2.2.2.2.2.1 (by omega); omega)
    rw [if_pos z, t, a1, a2, Option.bind_some, Option.bind_some, pu_b2, if_neg (show ¬ ((1 : Int) = 0) by decide), b80, Option.bind_some]
    unfold X2_takeFreePlace
    rw [uc0, pu_w (x := b2 1 2024 - 1) (by omega) (by omega)]
    obtain ⟨-, -, -, -, -, -, -, -, y1, -, y2, -⟩ := pu_tk_p a3.1
    rcases pa_within (lo := 0) (hi := b2 1 2024 - 1) a3 with ⟨c1, c2, c3, c4⟩ | ⟨f, k1, k2, c1, c2, c3, c4, c5, c6, c7⟩
    · have sit := ps_sitterAt (σ := u1) (o := o) (v := u1 2 7) (row := o + 3) (n := n) (S := fun k => u2 1 (2033 + 2 * k)) uc2 (by omega) (by omega) (fun p x y => (seat p x y).1)
      rw [c4, pu_b2, sit, Option.bind_some]
      rcases pu_who_s (S := fun k => u2 1 (2033 + 2 * k)) (x := u1 2 7) n.toNat with g | ⟨g1, g2, g3⟩
      · rw [if_pos g]
        have no : ∀ k, 0 ≤ k → k < n → u2 1 (2033 + 2 * k) ≠ u1 2 7 := fun k x y => by
          have := (pu_who_n (S := fun k => u2 1 (2033 + 2 * k)) (x := u1 2 7) n.toNat).mp g k.toNat (by omega)
          rw [show ((k.toNat : Nat) : Int) = k by omega] at this
          exact this
        have e1 : e = .inr () := by
          rcases hE with ⟨_, _, _, k, x, y, h⟩ | h
          · exact absurd (h.trans (y2 c1).1.symm) (no k x y)
          · exact h.1
        clear hE
        have nb := (y2 c1).1
        have l3 : pu_lv T L u1 (jq_st u2 1 (2033 + 2 * n) (u1 2 7)) := a3.mv rfl rfl rfl (pu_st_ne (by omega)) (pu_st_ne (by omega))
        obtain ⟨w1, w2, d1, d2, d3, d4, d5, d6, d7⟩ := pa_adv l3
        rw [e1]
        dsimp only [Sum.elim_inr]
        rw [pu_ld (by omega) (by omega), Option.bind_some, q24, pu_w (x := 2032 + 2 * n + 1) (by omega) (by omega), pu_w (x := b2 1 2024 - 1) (by omega) (by omega), pm_number_ok (y1.mp c1) (by omega) (by omega) (by omega) (by omega), ← nb, show 2032 + 2 * n + 1 = 2033 + 2 * n by omega, d2]
        unfold X2_takeFreePlace_j30
        rw [d1, Option.bind_some, Option.bind_some, pu_b2, pu_b2, if_neg (show ¬ ((1 : Int) = 0) by decide), pu_sa (by omega) (by omega), Option.bind_some]
        have l4 : pu_lv T L (jq_st w1 (o + 3) n (u1 2 7)) w2 := d3.mv (pu_st_ne (by omega)) (pu_st_ne (by omega)) (pu_st_ne (by omega)) rfl rfl
        have w1k : ∀ k, k ≠ 2 → w1 k = u1 k := d4.1
        refine pu_IT_t (pa_j121 (s := u1 2 7) ho hb l4 ⟨⟨fun k a b c d => ?_, fun j hj => ?_, ?_, ?_, pu_st_a⟩, fun j x y => ?_, ?_, ?_, fun j x => ?_, ?_⟩ hn n5 np hw hl0 (Or.inr ⟨c2, by omega, fun p x y => ?_⟩)) (pu_g1_t (pu_g1_o (pu_o2_t a4 d4)) (pu_g1_s (by omega) (by omega) (by omega))) (pu_g2_t (pu_g2_o a5) (pu_g2_t (pu_g2_s (to := 2033 + 2 * n) (x := u1 2 7) (by omega)) (pu_g2_o d5))) (by rw [pu_st_ne (by omega)]; omega)
        · rw [pu_st_ne d, w1k k a]; exact p1 k a b c d
        · rw [pu_st_ne (by omega), pu_st_ne (by omega), pu_st_b hj, w1k _ (by omega), w1k _ (by omega), w1k _ (by omega)]; exact p2 j hj
        · rw [pu_st_ne (by omega), w1k _ (by omega)]; exact p3
        · rw [pu_st_ne (by omega), w1k _ (by omega)]; exact p4
        · rw [d5.1 1 (by omega), pu_st_b y]; exact p6 j x y
        · rw [d5.1 1 (by omega), pu_st_b (by omega)]; exact p7
        · rw [d5.1 1 (by omega), pu_st_a]
        · rw [d5.1 2 (by omega), pu_st_ne (by omega)]; exact p9 j x
        · rw [d5.1 2 (by omega), pu_st_ne (by omega)]; exact p10
        · rw [← (seat p x y).2.1]; exact no p x y
      · rw [if_neg (by omega)]
        have e1 : e = .inl () := by
          rcases hE with h | ⟨_, h⟩
          · exact h.1
          · exact absurd ⟨y1.mp c1, by have := (y2 c1).1; omega, _, g1, by omega, g3.trans (y2 c1).1⟩ h
        clear hE
        obtain ⟨k1, k2, d1, d2, d3, d4, d5⟩ := pa_blame (f := 5) a3 (by decide)
        obtain ⟨ω, f1, f2, f3⟩ := ps_nextd d3
        have e2 : pu_dd T L (jq_st ω (o + 3) n (u1 2 7)) k2 := f2.mv (pu_st_ne (by omega)) (pu_st_ne (by omega)) (pu_st_ne (by omega)) rfl
        obtain ⟨ψ, s1, s2, s3⟩ := ps_j121d ho e2
        rw [e1]
        dsimp only [Sum.elim_inl]
        rw [d1, d2, Option.bind_some]
        unfold X2_takeFreePlace_j30
        rw [f1, Option.bind_some, pu_b2, pu_b2, pu_b2, pm_j197d, pu_sa (by omega) (by omega), Option.bind_some]
        exact ⟨ψ, k2, 0, s1, rfl, pu_g1_t (pu_g1_o (pu_o2_t a4 (pu_o2_t d4 f3))) (pu_g1_t (pu_g1_s (by omega) (by omega) (by omega)) s3), pu_g2_o (pu_o0_t a5 d5), Or.inr ⟨rfl, s2⟩⟩
    · have e1 : e = .inr () := by
        rcases hE with ⟨_, g1, g2, k, g3, g4, g5⟩ | h
        · exfalso
          have sk := seat k g3 g4
          rcases c2 with ⟨h1, h2, h3⟩ | ⟨h1, h2⟩
          · have := (y2 h1).1
            exact h3 (by omega)
          · exact h1 (y1.mpr g1)
        · exact h.1
      clear hE
      have hf := ps_sitterAt (σ := k1) (o := o) (v := 0) (row := o + 3) (n := n) (S := k1 (o + 3)) (by rw [c6.1 o (by omega)]; exact uc2) (by omega) (by omega) (fun _ _ _ => rfl)
      obtain ⟨ω, f1, f2, f3⟩ := ps_nextd c5
      have e2 : pu_dd T L (jq_st ω (o + 3) n 0) k2 := f2.mv (pu_st_ne (by omega)) (pu_st_ne (by omega)) (pu_st_ne (by omega)) rfl
      obtain ⟨ψ, s1, s2, s3⟩ := ps_j121d ho e2
      rw [e1]
      dsimp only [Sum.elim_inr]
      rw [pu_ld (by omega) (by omega), Option.bind_some, q24, pu_w (x := 2032 + 2 * n + 1) (by omega) (by omega), pu_w (x := b2 1 2024 - 1) (by omega) (by omega), pm_number_no a3 c2, c4, c3, pu_b2, pu_b2, pu_b2, hf, Option.bind_some, if_pos rfl, pu_b2, pm_j197d, ps_blamed c5, Option.bind_some]
      unfold X2_takeFreePlace_j30
      rw [f1]
      have ite : ∀ c : Prop, [Decidable c] → (if c then (some ω).bind fun s6 => some ((0 : Int), s6) else (some ω).bind fun s6 => some ((0 : Int), s6)) = some (0, ω) := fun c _ => by split <;> rfl
      rw [ite, pu_b2, pu_sa (by omega) (by omega), Option.bind_some]
      exact ⟨ψ, k2, 0, s1, rfl, pu_g1_t (pu_g1_o (pu_o2_t a4 (pu_o2_t c6 f3))) (pu_g1_t (pu_g1_s (by omega) (by omega) (by omega)) s3), pu_g2_o (pu_o0_t a5 c7), Or.inr ⟨rfl, s2⟩⟩
  · rw [if_neg z, t, pu_b2, if_pos rfl]
    exact pa_j121 ho hb hl hp hn n5 np hw hl0 (Or.inl rfl)
end
