/-! THE COMMITTEE'S TEXT -/
section
variable {T : Int → Int} {L s e x : Int} {m m1 m2 m3 σ τ τ1 τ2 : jq_M} {o f k lo hi to : Int} {A B N : Int → Int}
/-- what a reading of a committee may change -/
def pu_g1 (o : Int) (m τ : jq_M) : Prop := (∀ k, k ≠ 2 → ¬ (o ≤ k ∧ k < o + 18) → τ k = m k) ∧ ∀ j, j < 4 → τ 2 j = m 2 j
def pu_g2 (m τ : jq_M) : Prop := (∀ k, k ≠ 0 → k ≠ 1 → k ≠ 2 → τ k = m k) ∧ (∀ j, j < 2024 → τ 1 j = m 1 j) ∧ (∀ j, j < 52 → τ 2 j = m 2 j) ∧ ∀ j, j < 12 ∨ j = 16 ∨ 18 < j → τ 0 j = m 0 j
theorem pu_g1_r : pu_g1 o m m := ⟨fun _ _ _ => rfl, fun _ _ => rfl⟩
theorem pu_g2_r : pu_g2 m m := ⟨fun _ _ _ _ => rfl, fun _ _ => rfl, fun _ _ => rfl, fun _ _ => rfl⟩
theorem pu_g1_t (h : pu_g1 o m1 m2) (h2 : pu_g1 o m2 m3) : pu_g1 o m1 m3 := ⟨fun k a b => (h2.1 k a b).trans (h.1 k a b), fun j hj => (h2.2 j hj).trans (h.2 j hj)⟩
theorem pu_g2_t (h : pu_g2 m1 m2) (h2 : pu_g2 m2 m3) : pu_g2 m1 m3 := ⟨fun k a b c => (h2.1 k a b c).trans (h.1 k a b c), fun j hj => (h2.2.1 j hj).trans (h.2.1 j hj), fun j hj => (h2.2.2.1 j hj).trans (h.2.2.1 j hj), fun j hj => (h2.2.2.2 j hj).trans (h.2.2.2 j hj)⟩
theorem pu_g1_o (h : pu_o2 m τ) : pu_g1 o m τ := ⟨fun k a _ => h.1 k a, h.2⟩
theorem pu_g2_o (h : pu_o0 m τ) : pu_g2 m τ := ⟨fun k a _ _ => h.1 k a, fun j _ => by rw [h.1 1 (by omega)], fun j _ => by rw [h.1 2 (by omega)], h.2⟩
theorem pu_g1_s (hk : o ≤ k) (hk2 : k < o + 18) (ho : 2 < o) : pu_g1 o m (jq_st m k x f) := ⟨fun j a b => pu_st_ne (by omega), fun j hj => by rw [pu_st_ne (by omega)]⟩
theorem pu_g2_s (h : 2024 ≤ to) : pu_g2 m (jq_st m 1 to x) := ⟨fun k a b c => pu_st_ne b, fun j hj => pu_st_b (by omega), fun j _ => by rw [pu_st_ne (by omega)], fun j _ => by rw [pu_st_ne (by omega)]⟩
theorem pu_g2_n (h : 52 ≤ to) : pu_g2 m (jq_st m 2 to x) := ⟨fun k a b c => pu_st_ne c, fun j hj => by rw [pu_st_ne (by omega)], fun j hj => pu_st_b (by omega), fun j _ => by rw [pu_st_ne (by omega)]⟩
/-- the committee that is being read -/
def pu_nB (m : jq_M) : Int → Int := fun j => m 1 (2024 + j)
def pu_nN (m : jq_M) : Int → Int := fun j => m 2 (52 + j)
def pu_zz (B : Int → Int) : Prop := B 4 = 0 ∧ B 6 = -1 ∧ (∀ a, 0 ≤ a → a < 8 → B (98 + 5 * a + 4) = 0) ∧ (∀ p, B 1 ≤ p → p < 5 → B (8 + 2 * p) = 0) ∧ ∀ a, B 3 ≤ a → a < 8 → ∀ c, 0 ≤ c → c < 5 → B (98 + 5 * a + c) = 0
def pu_bd (o : Int) (m1 m2 : jq_M) : Prop := pu_inv (pu_nB m2) ∧ pu_RC m1 o (pu_nB m2) ∧ pu_RN m1 o (pu_nB m2) (pu_nN m2) ∧ pu_zz (pu_nB m2) ∧ m1 (o + 13) 0 = 0
theorem pu_bd.mv (h : pu_bd o m1 m2) (h1 : ∀ k, 0 ≤ k → k < 18 → τ1 (o + k) = m1 (o + k)) (h2 : τ2 1 = m2 1) (h3 : τ2 2 = m2 2) : pu_bd o τ1 τ2 := by
  have e1 : pu_nB τ2 = pu_nB m2 := by unfold pu_nB; rw [h2]
  have e2 : pu_nN τ2 = pu_nN m2 := by unfold pu_nN; rw [h3]
  obtain ⟨a, b, c, d, e⟩ := h
  unfold pu_bd
  rw [e1, e2, h1 13 (by omega) (by omega)]
  refine ⟨a, b.mv h1, ?_, d, e⟩
  unfold pu_RN at c ⊢
  rw [h1 1 (by omega) (by omega), h1 8 (by omega) (by omega)]
  exact c
theorem pu_bd_o (h : pu_bd o m1 m2) (ho : 2 < o) (h1 : pu_o2 m1 τ1) (h2 : pu_o0 m2 τ2) : pu_bd o τ1 τ2 := h.mv (fun k a b => h1.1 _ (by omega)) (h2.1 1 (by omega)) (h2.1 2 (by omega))
/-- one part of the text: both go on, or both have the fault -/
def pu_IT (o : Int) (T : Int → Int) (L : Int) (m1 m2 : jq_M) (c : Option jq_M) (r : Option (Int × jq_M)) : Prop := ∃ τ1 τ2 g, c = some τ1 ∧ r = some (g, τ2) ∧ pu_g1 o m1 τ1 ∧ pu_g2 m2 τ2 ∧ (g = 1 ∧ pu_lv T L τ1 τ2 ∧ pu_bd o τ1 τ2 ∧ m1 2 6 < τ1 2 6 ∨ g = 0 ∧ pu_dd T L τ1 τ2)
theorem pu_IT_t {c : Option jq_M} {r : Option (Int × jq_M)} {a1 a2 : jq_M} (h : pu_IT o T L m1 m2 c r) (g1 : pu_g1 o a1 m1) (g2 : pu_g2 a2 m2) (hp : a1 2 6 ≤ m1 2 6) : pu_IT o T L a1 a2 c r := by
  obtain ⟨τ1, τ2, g, h1, h2, h3, h4, h5⟩ := h
  refine ⟨τ1, τ2, g, h1, h2, pu_g1_t g1 h3, pu_g2_t g2 h4, ?_⟩
  rcases h5 with ⟨a, b, c, d⟩ | h5
  · exact Or.inl ⟨a, b, c, by omega⟩
  · exact Or.inr h5
/-- behind a fault the class goes on alone -/
theorem pu_IT_d {c : Option jq_M} {r : Option (Int × jq_M)} (hr : r = some (0, m2)) (h : ∃ τ, c = some τ ∧ pu_dd T L τ m2 ∧ pu_g1 o m1 τ) : pu_IT o T L m1 m2 c r := by
  obtain ⟨τ, h1, h2, h3⟩ := h
  exact ⟨τ, m2, 0, h1, hr, h3, pu_g2_r, Or.inr ⟨rfl, h2⟩⟩
noncomputable def pu_semi (τ : jq_M) : Option jq_M := (X5_passSign 59 τ).bind fun s => some s
theorem pa_semi (hl : pu_lv T L m1 m2) (hb : pu_bd o m1 m2) (ho : 2 < o) : pu_IT o T L m1 m2 (pu_semi m1) (X11_committeePart_j197 1 m2) := by
  obtain ⟨τ1, τ2, g, a1, a2, a3, a4, a5⟩ := pa_passSign (k := 59) hl
  unfold pu_semi X11_committeePart_j197
  rw [a1, a2, if_neg (show ¬ ((1 : Int) = 0) by decide)]
  rcases a5 with ⟨rfl, b1, b2⟩ | ⟨rfl, b1⟩
  · exact ⟨τ1, τ2, 1, rfl, rfl, pu_g1_o a3, pu_g2_o a4, Or.inl ⟨rfl, b1, pu_bd_o hb ho a3 a4, b2⟩⟩
  · exact ⟨τ1, τ2, 0, rfl, rfl, pu_g1_o a3, pu_g2_o a4, Or.inr ⟨rfl, b1⟩⟩
theorem ps_semid (hl : pu_dd T L m1 m2) : ∃ τ, pu_semi m1 = some τ ∧ pu_dd T L τ m2 ∧ pu_g1 o m1 τ := by
  obtain ⟨τ1, a1, a2, a3⟩ := ps_passSignd (k := 59) hl
  unfold pu_semi
  rw [a1]
  exact ⟨τ1, rfl, a2, pu_g1_o a3⟩
theorem pm_j197d : X11_committeePart_j197 0 m = some (0, m) := by
  unfold X11_committeePart_j197
  rw [if_pos rfl]
theorem pu_ag_0 (h : ∀ a, 0 ≤ a → a < 8 → B (98 + 5 * a + 4) = 0) (h3 : B 3 ≤ 8) : pu_ag B = 0 := by
  have key : ∀ n : Nat, n ≤ 8 → pu_set (fun a => decide (B (98 + 5 * (a : Int) + 4) = 1)) n = 0 := by
    intro n
    induction n with
    | zero => intro _; rfl
    | succ n ih =>
      intro hn
      unfold pu_set
      rw [ih (by omega), if_neg (by rw [h n (by omega) (by omega)]; decide)]
  exact key _ (by omega)
theorem pu_nB_s (h : k = 2024 + x) : pu_nB (jq_st m 1 k f) x = f := by unfold pu_nB; rw [h, pu_st_a]
theorem pu_nB_b (h : k ≠ 2024 + x) : pu_nB (jq_st m 1 k f) x = pu_nB m x := by unfold pu_nB; rw [pu_st_b (fun g => h g.symm)]
theorem pu_nB_o (h : pu_o0 m τ) : pu_nB τ = pu_nB m := by unfold pu_nB; rw [h.1 1 (by omega)]
theorem pu_nN_o (h : pu_o0 m τ) : pu_nN τ = pu_nN m := by unfold pu_nN; rw [h.1 2 (by omega)]
theorem pa_places (ho : o = 5 ∨ o = 25) (hl : pu_lv T L m1 m2) (hb : pu_bd o m1 m2) : pu_IT o T L m1 m2 (X2_readPlaces o m1) (X11_committeePart_j43 0 m2) := by
  obtain ⟨hI, hC, hN, hz, h13⟩ := id hb
  have c0 : m1 o 0 = m2 1 2024 := hC.1.1
  have i0 : m2 1 2024 = 0 ∨ 3 ≤ m2 1 2024 ∧ m2 1 2024 ≤ 6 := hI.1
  unfold X2_readPlaces X11_committeePart_j43
  rw [if_pos rfl, pu_ld (by omega) (by omega), Option.bind_some]
  by_cases z : m1 o 0 = 0
  · obtain ⟨u1, u2, a1, a2, a3, a4, a5, a6, a7⟩ := pa_adv hl
    obtain ⟨v, k1, k2, g, b1, b2, b3, b4, b5, b6⟩ := pa_takeNumber (lo := 3) (hi := 6) (to := 2024) a3 (by omega) (by omega)
    have e3 : ∀ m : jq_M, pu_semi m = ((X5_passSign 59 m).bind fun s5 => some s5) := fun m => rfl
    rw [if_pos z, if_neg (by omega), a1, a2, Option.bind_some, Option.bind_some, b1, b2, pu_b2, pu_b2, pu_lt, ← e3]
    have gg : pu_g1 o m1 (jq_st k1 o 0 v) := pu_g1_t (pu_g1_o (pu_o2_t a4 b3)) (pu_g1_s (Int.le_refl _) (by omega) (by omega))
    rcases b4 with ⟨rfl, c1, c2⟩ | ⟨rfl, c1⟩
    · obtain ⟨d1, d2, d3⟩ := b5 rfl
      have l2 : pu_lv T L (jq_st k1 o 0 v) k2 := c1.mv (pu_st_ne (by omega)) (pu_st_ne (by omega)) (pu_st_ne (by omega)) rfl rfl
      have nb : pu_nB k2 = pu_nB (jq_st u2 1 2024 v) := pu_nB_o d3
      have nn : pu_nN k2 = pu_nN m2 := by rw [pu_nN_o d3]; unfold pu_nN; rw [pu_st_ne (by omega), a5.1 2 (by omega)]
      have n0 : pu_nB k2 0 = v := by rw [nb]; exact pu_nB_s (by omega)
      have nj : ∀ j, j ≠ 0 → pu_nB k2 j = pu_nB m2 j := fun j hj => by rw [nb, pu_nB_b (by omega), pu_nB_o a5]
      have fr : ∀ k, k ≠ 2 → k1 k = m1 k := fun k hk => (b3.1 k hk).trans (a4.1 k hk)
      have B0 : pu_nB m2 0 = 0 := by rw [← hC.1.1]; exact z
      refine pu_IT_t (pa_semi l2 ?_ (by omega)) gg (pu_g2_t (pu_g2_o a5) (pu_g2_t (pu_g2_s (to := 2024) (x := v) (by omega)) (pu_g2_o d3))) (by rw [pu_st_ne (by omega)]; omega)
      obtain ⟨i0', i1, i2, i3, i4, i5, i6, i7, i8, i9, i10⟩ := hI
      obtain ⟨⟨r0, r1, r2, r3, r4, r5, r6⟩, rp, rw', ra⟩ := hC
      have ag : pu_ag (pu_nB k2) = pu_ag (pu_nB m2) := by
        rw [pu_ag_0 hz.2.2.1 (by omega), pu_ag_0 (fun a x y => by rw [nj _ (by omega)]; exact hz.2.2.1 a x y) (by rw [nj 3 (by omega)]; omega)]
      refine ⟨⟨by omega, ?_, ?_, ?_, ?_, ?_, ?_, ?_, ?_, ?_, ?_⟩, ⟨⟨?_, ?_, ?_, ?_, ?_, ?_, ?_⟩, ?_, ?_, ?_⟩, ?_, ⟨?_, ?_, ?_, ?_, ?_⟩, ?_⟩
      · rw [nj 1 (by omega)]; omega
      · rw [nj 2 (by omega)]; exact i2
      · rw [nj 3 (by omega)]; exact i3
      · rw [nj 4 (by omega)]; exact i4
      · rw [nj 5 (by omega)]; exact i5
      · rw [nj 6 (by omega)]; exact i6
      · rw [nj 1 (by omega)]; intro p p0 p1; omega
      · rw [nj 1 (by omega)]; intro p q p0 p1 p2; omega
      · rw [nj 2 (by omega), nj 1 (by omega)]
        intro k x y
        have := i9 k x y
        rw [nj _ (by omega), nj _ (by omega), nj _ (by omega), nj _ (by omega)]
        exact this
      · rw [nj 3 (by omega)]
        intro k x y
        have := i10 k x y
        rw [nj _ (by omega), nj _ (by omega), nj _ (by omega), nj _ (by omega), nj _ (by omega)]
        exact this
      · rw [pu_st_a, n0]
      · rw [pu_st_b (by omega), fr o (by omega), nj 5 (by omega)]; exact r1
      · rw [pu_st_b (by omega), fr o (by omega), nj 1 (by omega)]; exact r2
      · rw [pu_st_b (by omega), fr o (by omega), nj 2 (by omega)]; exact r3
      · rw [pu_st_b (by omega), fr o (by omega), nj 3 (by omega)]; exact r4
      · rw [pu_st_b (by omega), fr o (by omega), ag]; exact r5
      · rw [pu_st_b (by omega), fr o (by omega), nj 4 (by omega)]; exact r6
      · rw [nj 1 (by omega)]; intro p p0 p1; omega
      · rw [nj 2 (by omega)]
        intro k x y
        have := rw' k x y
        rw [nj _ (by omega), nj _ (by omega), nj _ (by omega), nj _ (by omega), pu_st_ne (by omega), pu_st_ne (by omega), pu_st_ne (by omega), pu_st_ne (by omega), fr _ (by omega), fr _ (by omega), fr _ (by omega), fr _ (by omega)]
        exact this
      · rw [nj 3 (by omega)]
        intro k x y
        have := ra k x y
        rw [nj _ (by omega), nj _ (by omega), nj _ (by omega), nj _ (by omega), pu_st_ne (by omega), pu_st_ne (by omega), pu_st_ne (by omega), pu_st_ne (by omega), fr _ (by omega), fr _ (by omega), fr _ (by omega), fr _ (by omega)]
        exact this
      · unfold pu_RN at hN ⊢
        rw [nj 1 (by omega), nj 3 (by omega), nn, pu_st_ne (by omega), pu_st_ne (by omega), fr _ (by omega), fr _ (by omega)]
        exact hN
      · rw [nj 4 (by omega)]; exact hz.1
      · rw [nj 6 (by omega)]; exact hz.2.1
      · intro a x y; rw [nj _ (by omega)]; exact hz.2.2.1 a x y
      · rw [nj 1 (by omega)]; intro p x y; rw [nj _ (by omega)]; exact hz.2.2.2.1 p x y
      · rw [nj 3 (by omega)]; intro a x y c c0 c1; rw [nj _ (by omega)]; exact hz.2.2.2.2 a x y c c0 c1
      · rw [pu_st_ne (by omega), fr _ (by omega)]; exact h13
    · rw [pm_j197d]
      have d2 : pu_dd T L (jq_st k1 o 0 v) k2 := c1.mv (pu_st_ne (by omega)) (pu_st_ne (by omega)) (pu_st_ne (by omega)) rfl
      obtain ⟨ω, s1, s2, s3⟩ := ps_semid (o := o) d2
      exact ⟨ω, k2, 0, s1, rfl, pu_g1_t gg s3, pu_g2_o (pu_o0_t a5 (b6 rfl)), Or.inr ⟨rfl, s2⟩⟩
  · obtain ⟨u1, u2, a1, a2, a3, a4, a5⟩ := pa_blame (f := 5) hl (by decide)
    rw [if_neg z, if_pos (by omega), a1, a2]
    exact ⟨u1, u2, 0, rfl, rfl, pu_g1_o a4, pu_g2_o a5, Or.inr ⟨rfl, a3⟩⟩
end
