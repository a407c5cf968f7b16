section
variable {T : Int → Int} {L e x y v n l s a c d t q S : Int} {b1 b2 m m1 m2 m3 σ τ τ1 τ2 : jq_M} {o f k lo hi to base cnt p1 p2 i : Int} {A B N : Int → Int} {w : List Int}
def pu_aw (o : Int) (b1 b2 m1 m2 : jq_M) (n : Int) : Prop := (∀ k, k ≠ 2 → ¬ (o + 8 ≤ k ∧ k ≤ o + 12) → m1 k = b1 k) ∧ (∀ k, o + 8 ≤ k → k ≤ o + 12 → ∀ j, j ≠ n → m1 k j = b1 k j) ∧ (∀ j, ¬ (2122 + 5 * n ≤ j ∧ j ≤ 2126 + 5 * n) → m2 1 j = b2 1 j) ∧ ∀ j, j ≠ 57 + n → m2 2 j = b2 2 j
theorem pu_aw_o (ho : o = 5 ∨ o = 25) (h : pu_aw o b1 b2 m1 m2 n) (h1 : pu_o2 m1 τ1) (h2 : pu_o0 m2 τ2) : pu_aw o b1 b2 τ1 τ2 n := by
  refine ⟨fun k x y => (h1.1 k x).trans (h.1 k x y), fun k x y j z => ?_, ?_, ?_⟩
  · rw [h1.1 k (by omega)]; exact h.2.1 k x y j z
  · rw [h2.1 1 (by omega)]; exact h.2.2.1
  · rw [h2.1 2 (by omega)]; exact h.2.2.2
theorem pu_aw_1 (h : pu_aw o b1 b2 m1 m2 n) (h1 : o + 8 ≤ k) (h2 : k ≤ o + 12) : pu_aw o b1 b2 (jq_st m1 k n x) m2 n := by
  refine ⟨fun j x y => ?_, fun j x y i z => ?_, h.2.2⟩
  · rw [pu_st_ne (by omega)]; exact h.1 j x y
  · by_cases q : j = k
    · rw [q, pu_st_b z]; exact h.2.1 k h1 h2 i z
    · rw [pu_st_ne q]; exact h.2.1 j x y i z
theorem pu_aw_2 (h : pu_aw o b1 b2 m1 m2 n) (h1 : 2122 + 5 * n ≤ k) (h2 : k ≤ 2126 + 5 * n) : pu_aw o b1 b2 m1 (jq_st m2 1 k x) n := by
  refine ⟨h.1, h.2.1, fun j hj => ?_, fun j hj => ?_⟩
  · rw [pu_st_b (by omega)]; exact h.2.2.1 j hj
  · rw [pu_st_ne (by omega)]; exact h.2.2.2 j hj
/-- the article stands in both: its name, its days, its odds -/
def pu_av (o : Int) (m1 m2 : jq_M) (n : Int) (w : List Int) (t q : Int) : Prop := m1 (o + 8) n = pu_c5 w ∧ m2 2 (57 + n) = pu_c8 w ∧ m1 (o + 9) n = t ∧ m2 1 (2122 + 5 * n) = t ∧ m1 (o + 10) n = q ∧ m2 1 (2123 + 5 * n) = q ∧ m2 1 (2125 + 5 * n) = 0 ∧ m2 1 (2126 + 5 * n) = 0
theorem pu_orn (n0 : 0 ≤ n) (n8 : n ≤ 8) (h0 : 0 ≤ x) (h1 : x < 2 ^ n.toNat) (v0 : 0 ≤ v) (v1 : v < n) : 0 ≤ jq_or x (jq_shl 1 v) ∧ jq_or x (jq_shl 1 v) < 2 ^ n.toNat := by
  have pv : (2 : Nat) ^ v.toNat < 2 ^ n.toNat := Nat.pow_lt_pow_right (by decide) (by omega)
  have e : ((2 : Int) ^ n.toNat) = (((2 : Nat) ^ n.toNat : Nat) : Int) := by rw [Int.natCast_pow]; rfl
  rw [e] at h1 ⊢
  have p8 : (2 : Nat) ^ n.toNat ≤ 2 ^ 8 := Nat.pow_le_pow_right (by decide) (by omega)
  have := Nat.or_lt_two_pow (n := n.toNat) (x := x.toNat) (y := 2 ^ v.toNat) (by omega) pv
  rw [show x = ((x.toNat : Nat) : Int) by omega, pu_shl1_i v0 (by omega), pu_or (by omega) (by omega)]
  omega
theorem ps_leansd (hl : pu_dd T L m1 m2) : jq_lp (X2_takeLeans_b4 o) (S, i, m1) = some (S, m1) := by
  refine jq_lp_inr ?_
  have g : X5_goesOn m1 = some 0 := by
    unfold X5_goesOn
    rw [if_neg hl.2.2.1]
  unfold X2_takeLeans_b4
  dsimp only
  rw [g, Option.bind_some, if_pos rfl]
  split <;> rfl
/-- what it leans on: both go on to the semicolon, or have the fault -/
theorem pa_leans (ho : o = 5 ∨ o = 25) (n0 : 0 ≤ n) (n8 : n < 8) : ∀ (D : Nat) (m1 m2 : jq_M) (S i : Int), pu_lv T L m1 m2 → L - m1 2 6 ≤ (D : Int) → 0 ≤ i → i ≤ m1 2 6 → m1 o 4 = n → m2 1 2027 = n → (∀ p, 0 ≤ p → p < n → pu_nm (m1 (o + 8) p) (m2 2 (57 + p))) → m2 1 (2124 + 5 * n) = S → 0 ≤ S → S < 2 ^ n.toNat → ∃ S' τ1, jq_lp (X2_takeLeans_b4 o) (S, i, m1) = some (S', τ1) ∧ pu_o2 m1 τ1 ∧ ((∃ τ2, jq_lp (X11_anArticle_b84 (2122 + 5 * n)) m2 = some (.inr (.inr τ2)) ∧ pu_lv T L τ1 τ2 ∧ pu_o0 (jq_st m2 1 (2124 + 5 * n) S') τ2 ∧ 0 ≤ S' ∧ S' < 2 ^ n.toNat ∧ m1 2 6 ≤ τ1 2 6) ∨ ∃ κ, jq_b2 (X11_anArticle_j84 (2122 + 5 * n) m2) (fun v s => X11_committeePart_j197 v s) = some (0, κ) ∧ pu_dd T L τ1 κ ∧ pu_g2 m2 κ) := by
  intro D
  induction D with
  | zero =>
    intro m1 m2 S i hl hD i0 i1 hc hc2 hN hS s0 s1
    obtain ⟨p0, p1, p2, p3, -⟩ := pu_tk_p hl.1
    have k0 : m1 2 5 = 0 := by
      apply Classical.byContradiction
      intro g
      have := p3 g
      omega
    obtain ⟨-, -, -, -, -, -, -, -, -, -, -, -, -, -, q1⟩ := pu_tk_p hl.1
    have g : X5_goesOn m1 = some 0 := by
      unfold X5_goesOn
      rw [if_pos hl.2.1, if_pos k0]
    refine ⟨S, m1, jq_lp_inr ?_, pu_o2_r, Or.inl ⟨m2, jq_lp_inr ?_, hl, ?_, s0, s1, Int.le_refl _⟩⟩
    · unfold X2_takeLeans_b4
      dsimp only
      rw [g, Option.bind_some, if_pos rfl]
      split <;> rfl
    · unfold X11_anArticle_b84
      rw [pm_isName hl.1, Option.bind_some, if_pos (by omega)]
    · rw [← hS]
      have : jq_st m2 1 (2124 + 5 * n) (m2 1 (2124 + 5 * n)) = m2 := by
        funext i j
        unfold jq_st
        split
        · rename_i h
          rw [h.1, h.2]
        · rfl
      rw [this]
      exact pu_o0_r
  | succ D ih =>
    intro m1 m2 S i hl hD i0 i1 hc hc2 hN hS s0 s1
    obtain ⟨p0, p1, p2, p3, -, -, -, -, -, -, -, -, -, -, q1⟩ := pu_tk_p hl.1
    have L9 : L ≤ 900 := hl.1.1.2.1
    have same : jq_st m2 1 (2124 + 5 * n) S = m2 := by
      rw [← hS]
      funext i j
      unfold jq_st
      split
      · rename_i h
        rw [h.1, h.2]
      · rfl
    by_cases k0 : m1 2 5 = 0
    · have g : X5_goesOn m1 = some 0 := by
        unfold X5_goesOn
        rw [if_pos hl.2.1, if_pos k0]
      refine ⟨S, m1, jq_lp_inr ?_, pu_o2_r, Or.inl ⟨m2, jq_lp_inr ?_, hl, ?_, s0, s1, Int.le_refl _⟩⟩
      · unfold X2_takeLeans_b4
        dsimp only
        rw [g, Option.bind_some, if_pos rfl]
        split <;> rfl
      · unfold X11_anArticle_b84
        rw [pm_isName hl.1, Option.bind_some, if_pos (by omega)]
      · rw [same]
        exact pu_o0_r
    · have st := p3 k0
      have g : X5_goesOn m1 = some 1 := by
        unfold X5_goesOn
        rw [if_pos hl.2.1, if_neg k0]
      by_cases sg : m1 2 5 = 3 ∧ m1 2 8 = 59
      · refine ⟨S, m1, jq_lp_inr ?_, pu_o2_r, Or.inl ⟨m2, jq_lp_inr ?_, hl, ?_, s0, s1, Int.le_refl _⟩⟩
        · unfold X2_takeLeans_b4
          dsimp only
          rw [if_pos (by omega), g, Option.bind_some, if_neg (show ¬ ((1 : Int) = 0) by decide), ps_isSign, Option.bind_some, pu_i_p sg, if_neg (show ¬ ((1 : Int) = 0) by decide)]
        · unfold X11_anArticle_b84
          rw [pm_isName hl.1, Option.bind_some, if_pos (by omega)]
        · rw [same]
          exact pu_o0_r
      · have cl : X2_takeLeans_b4 o (S, i, m1) = jq_b2 (X5_articleHere o m1) fun v6 s7 => (X10_holds S v6 s7).bind fun v8 => if v8 = 0 then X2_takeLeans_j48 o S i v6 s7 else (X5_blame 5 s7).bind fun s17 => X2_takeLeans_j48 o S i v6 s17 := by
          unfold X2_takeLeans_b4
          dsimp only
          rw [if_pos (by omega), g, Option.bind_some, if_neg (show ¬ ((1 : Int) = 0) by decide), ps_isSign, Option.bind_some, pu_i_n sg, if_pos rfl]
        -- behind a fault: once more round, and out
        have out : ∀ (u1 κ : jq_M), pu_dd T L u1 κ → pu_o2 m1 u1 → X5_articleHere o m1 = some (0, u1) → ∃ S' τ1, jq_lp (X2_takeLeans_b4 o) (S, i, m1) = some (S', τ1) ∧ pu_o2 m1 τ1 ∧ pu_dd T L τ1 κ := fun u1 κ hd h2 he => by
          obtain ⟨ω, f1, f2, f3⟩ := ps_nextd hd
          have j48 : X2_takeLeans_j48 o S i 0 u1 = some (.inl (jq_or S (jq_shl 1 0), i + 1, ω)) := by
            unfold X2_takeLeans_j48
            rw [pu_lt, f1, Option.bind_some, pu_lt, pu_w (x := i + 1) (by omega) (by omega)]
          refine ⟨_, ω, (jq_lp_inl (s' := (jq_or S (jq_shl 1 0), i + 1, ω)) ?_).trans (ps_leansd f2), pu_o2_t h2 f3, f2⟩
          rw [cl, he, pu_b2, ps_blamed hd, Option.bind_some, j48]
          unfold X10_holds
          split <;> rfl
        rcases pa_articleHere (o := o) (base := 57) hl hc n0 (by omega) (by decide) (by decide) hN with ⟨h1, v, h2, h3, h4, h5⟩ | ⟨h1, h2, h3⟩ | ⟨h1, h2⟩
        · have rf : X11_anArticle_b84 (2122 + 5 * n) m2 = if jq_and (jq_shr S v) 1 = 1 then some (.inr (.inr (.inl m2))) else (X11_ahead (jq_st m2 1 (2124 + 5 * n) (jq_or S (jq_shl 1 v)))).bind fun s27 => some (.inl s27) := by
            unfold X11_anArticle_b84
            rw [pm_isName hl.1, Option.bind_some, h1, if_neg (show ¬ ((1 : Int) = 0) by decide), pu_ld (by omega) (by omega), Option.bind_some, hc2, h5, Option.bind_some, if_neg (by omega), pu_w (x := 2122 + 5 * n + 2) (by omega) (by omega), show 2122 + 5 * n + 2 = 2124 + 5 * n by omega, pu_ld (by omega) (by omega), Option.bind_some, hS, pu_lt, pu_ld (by omega) (by omega), Option.bind_some, hS, pu_sa (by omega) (by omega)]
            rfl
          by_cases bt : jq_and (jq_shr S v) 1 = 1
          · obtain ⟨k1, k2, d1, d2, d3, d4, d5⟩ := pa_blame (f := 5) hl (by decide)
            obtain ⟨ω, f1, f2, f3⟩ := ps_nextd d3
            have j48 : X2_takeLeans_j48 o S i v k1 = some (.inl (jq_or S (jq_shl 1 v), i + 1, ω)) := by
              unfold X2_takeLeans_j48
              rw [pu_lt, f1, Option.bind_some, pu_lt, pu_w (x := i + 1) (by omega) (by omega)]
            refine ⟨_, ω, (jq_lp_inl (s' := (jq_or S (jq_shl 1 v), i + 1, ω)) ?_).trans (ps_leansd f2), pu_o2_t d4 f3, Or.inr ⟨k2, ?_, f2, pu_g2_o d5⟩⟩
            · rw [cl, h4, pu_b2]
              unfold X10_holds
              rw [if_pos bt, Option.bind_some, if_neg (show ¬ ((1 : Int) = 0) by decide), d1, Option.bind_some, j48]
            · unfold X11_anArticle_j84
              rw [jq_lp_inr (rf.trans (if_pos bt)), Option.bind_some]
              dsimp only [Sum.elim_inr, Sum.elim_inl]
              rw [d2, pu_b2, pu_b2, pm_j197d]
          · have sb := pu_orn (n := n) n0 (by omega) s0 s1 h2 h3
            have l4 : pu_lv T L m1 (jq_st m2 1 (2124 + 5 * n) (jq_or S (jq_shl 1 v))) := hl.mv rfl rfl rfl (pu_st_ne (by omega)) (pu_st_ne (by omega))
            obtain ⟨k1, k2, d1, d2, d3, d4, d5, d6, d7⟩ := pa_adv l4
            have d7' := d7 k0
            have j48 : X2_takeLeans_j48 o S i v m1 = some (.inl (jq_or S (jq_shl 1 v), i + 1, k1)) := by
              unfold X2_takeLeans_j48
              rw [pu_lt, d1, Option.bind_some, pu_lt, pu_w (x := i + 1) (by omega) (by omega)]
            have c1 : X2_takeLeans_b4 o (S, i, m1) = some (.inl (jq_or S (jq_shl 1 v), i + 1, k1)) := by
              rw [cl, h4, pu_b2]
              unfold X10_holds
              rw [if_neg bt, Option.bind_some, if_pos rfl, j48]
            have r1 : X11_anArticle_b84 (2122 + 5 * n) m2 = some (.inl k2) := by
              rw [rf, if_neg bt, d2]
              rfl
            generalize hS2 : jq_or S (jq_shl 1 v) = S2 at sb l4 d2 d5 c1
            obtain ⟨S', τ1, e1, e2, e3⟩ := ih k1 k2 S2 (i + 1) d3 (by omega) (by omega) (by omega) (by rw [d4.1 o (by omega)]; exact hc) (by rw [d5.1 1 (by omega), pu_st_b (by omega)]; exact hc2) (fun p x y => by rw [d4.1 _ (by omega), d5.1 2 (by omega), pu_st_ne (by omega)]; exact hN p x y) (by rw [d5.1 1 (by omega), pu_st_a]) sb.1 sb.2
            refine ⟨S', τ1, (jq_lp_inl c1).trans e1, pu_o2_t d4 e2, ?_⟩
            rcases e3 with ⟨τ2, f1, f2, f3, f4, f5, f6⟩ | ⟨κ, f1, f2, f3⟩
            · refine Or.inl ⟨τ2, (jq_lp_inl r1).trans f1, f2, ?_, f4, f5, by omega⟩
              have := pu_o0_s (k := 1) (i := 2124 + 5 * n) (x := S') (by decide) d5
              have ss : jq_st (jq_st m2 1 (2124 + 5 * n) S2) 1 (2124 + 5 * n) S' = jq_st m2 1 (2124 + 5 * n) S' := by
                funext i j
                unfold jq_st
                split <;> rfl
              rw [ss] at this
              exact pu_o0_t this f3
            · refine Or.inr ⟨κ, ?_, f2, pu_g2_t (pu_g2_t (pu_g2_s (to := 2124 + 5 * n) (x := S2) (by omega)) (pu_g2_o d5)) f3⟩
              rw [← f1]
              unfold X11_anArticle_j84
              rw [jq_lp_inl r1]
        · obtain ⟨k1, k2, d1, d2, d3, d4, d5⟩ := pa_blame (f := 3) hl (by decide)
          obtain ⟨S', τ1, e1, e2, e3⟩ := out k1 k2 d3 d4 (h3 k1 d1 (ps_faultd d3))
          refine ⟨S', τ1, e1, e2, Or.inr ⟨k2, ?_, e3, pu_g2_o d5⟩⟩
          have rf : X11_anArticle_b84 (2122 + 5 * n) m2 = some (.inr (.inl m2)) := by
            unfold X11_anArticle_b84
            rw [pm_isName hl.1, Option.bind_some, h1, if_neg (show ¬ ((1 : Int) = 0) by decide), pu_ld (by omega) (by omega), Option.bind_some, hc2, h2, Option.bind_some, if_pos rfl]
          unfold X11_anArticle_j84
          rw [jq_lp_inr rf, Option.bind_some]
          dsimp only [Sum.elim_inl]
          rw [d2, pu_b2, pu_b2, pm_j197d]
        · have l4 : pu_lv T L m1 (jq_st m2 1 2027 (n + 1)) := hl.mv rfl rfl rfl (pu_st_ne (by omega)) (pu_st_ne (by omega))
          obtain ⟨k1, k2, d1, d2, d3, d4, d5⟩ := pa_blame (f := 2) l4 (by decide)
          obtain ⟨S', τ1, e1, e2, e3⟩ := out k1 k2 d3 d4 (h2 k1 d1 (ps_faultd d3))
          refine ⟨S', τ1, e1, e2, Or.inr ⟨k2, ?_, e3, pu_g2_t (pu_g2_s (to := 2027) (x := n + 1) (by omega)) (pu_g2_o d5)⟩⟩
          have rf : X11_anArticle_b84 (2122 + 5 * n) m2 = some (.inr (.inr (.inr m2))) := by
            unfold X11_anArticle_b84
            rw [pm_isName hl.1, Option.bind_some, h1, if_pos rfl]
          unfold X11_anArticle_j84
          rw [jq_lp_inr rf, Option.bind_some]
          dsimp only [Sum.elim_inr]
          rw [pu_ld (by omega) (by omega), Option.bind_some, hc2, pu_w (x := n + 1) (by omega) (by omega), pu_sa (by omega) (by omega), Option.bind_some, pu_b2]
          unfold X11_committeePart_j197 X11_wantSign
          rw [if_neg (show ¬ ((1 : Int) = 0) by decide), pm_isSign, Option.bind_some, pu_i_n (fun q => sg ((pu_sgk l4.1).mpr q)), if_pos rfl, d2]
          rfl
end
