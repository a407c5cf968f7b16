section
variable {T : Int → Int} {L e x y v n l s a c d t q S : Int} {b1 b2 m m1 m2 m3 σ τ τ1 τ2 : jq_M} {o f k lo hi to base cnt p1 p2 i : Int} {A B N : Int → Int} {w : List Int}
/-- the article's end: what it leans on is known -/
theorem pa_aend (ho : o = 5 ∨ o = 25) (hb : pu_bd o b1 b2) (hl : pu_lv T L m1 m2) (hf : pu_aw o b1 b2 m1 m2 n) (hv : pu_av o m1 m2 n w t q) (hS : m2 1 (2124 + 5 * n) = S) (hn : n = b2 1 2027) (n8 : n < 8) (hw : pu_wd w) (ht : 1 ≤ t ∧ t ≤ 30) (hq : 0 ≤ q ∧ q ≤ 16) (s0 : 0 ≤ S) (s1 : S < 2 ^ n.toNat) : pu_IT o T L m1 m2 (pu_semi (jq_st (jq_st (jq_st m1 (o + 11) n S) (o + 12) n 0) o 4 (n + 1))) (X11_committeePart_j197 1 (jq_st m2 1 2027 (n + 1))) := by
  obtain ⟨hI, hC, hN, hz, h13⟩ := id hb
  obtain ⟨i0, i1, i2, i3, i4, i5, i6, i7, i8, i9, i10⟩ := hI
  obtain ⟨⟨r0, r1, r2, r3, r4, r5, r6⟩, rp, rw', ra⟩ := hC
  have i3' : 0 ≤ b2 1 2027 ∧ b2 1 2027 ≤ 8 := i3
  obtain ⟨f1, f2, f3, f4⟩ := hf
  have mo : m1 o = b1 o := f1 o (by omega) (by omega)
  have ne : ∀ k, k ≠ o + 11 → k ≠ o + 12 → k ≠ o → jq_st (jq_st (jq_st m1 (o + 11) n S) (o + 12) n 0) o 4 (n + 1) k = m1 k := fun k x y z => by rw [pu_st_ne z, pu_st_ne y, pu_st_ne x]
  have l2 : pu_lv T L (jq_st (jq_st (jq_st m1 (o + 11) n S) (o + 12) n 0) o 4 (n + 1)) (jq_st m2 1 2027 (n + 1)) := hl.mv (ne 2 (by omega) (by omega) (by omega)) (ne 3 (by omega) (by omega) (by omega)) (ne 4 (by omega) (by omega) (by omega)) (pu_st_ne (by omega)) (pu_st_ne (by omega))
  refine pu_IT_t (pa_semi l2 ?_ (by omega)) (pu_g1_t (pu_g1_s (by omega) (by omega) (by omega)) (pu_g1_t (pu_g1_s (by omega) (by omega) (by omega)) (pu_g1_s (Int.le_refl _) (by omega) (by omega)))) (pu_g2_s (by omega)) (by rw [ne 2 (by omega) (by omega) (by omega)]; exact Int.le_refl _)
  obtain ⟨v1, v2, v3, v4, v5, v6, v7, v8⟩ := hv
  have n3 : pu_nB (jq_st m2 1 2027 (n + 1)) 3 = n + 1 := pu_nB_s (by omega)
  have nv : ∀ j, j ≠ 3 → pu_nB (jq_st m2 1 2027 (n + 1)) j = m2 1 (2024 + j) := fun j h1 => by rw [pu_nB_b (by omega)]; rfl
  have nj : ∀ j, j ≠ 3 → ¬ (98 + 5 * n ≤ j ∧ j ≤ 102 + 5 * n) → pu_nB (jq_st m2 1 2027 (n + 1)) j = pu_nB b2 j := fun j h1 h2 => by rw [nv j h1]; exact f3 _ (by omega)
  have x0 : pu_nB (jq_st m2 1 2027 (n + 1)) (98 + 5 * n) = t := by rw [nv _ (by omega), ← v4]; congr 1; omega
  have x1 : pu_nB (jq_st m2 1 2027 (n + 1)) (99 + 5 * n) = q := by rw [nv _ (by omega), ← v6]; congr 1; omega
  have x2 : pu_nB (jq_st m2 1 2027 (n + 1)) (100 + 5 * n) = S := by rw [nv _ (by omega), ← hS]; congr 1; omega
  have x3 : pu_nB (jq_st m2 1 2027 (n + 1)) (101 + 5 * n) = 0 := by rw [nv _ (by omega), ← v7]; congr 1; omega
  have x4 : pu_nB (jq_st m2 1 2027 (n + 1)) (102 + 5 * n) = 0 := by rw [nv _ (by omega), ← v8]; congr 1; omega
  have nN : ∀ j, j ≠ 5 + n → pu_nN (jq_st m2 1 2027 (n + 1)) j = pu_nN b2 j := fun j hj => by unfold pu_nN; rw [pu_st_ne (by omega)]; exact f4 _ (by omega)
  have nNn : pu_nN (jq_st m2 1 2027 (n + 1)) (5 + n) = pu_c8 w := by unfold pu_nN; rw [pu_st_ne (by omega), ← v2]; congr 1; omega
  have fo : ∀ j, j ≠ 4 → jq_st (jq_st (jq_st m1 (o + 11) n S) (o + 12) n 0) o 4 (n + 1) o j = b1 o j := fun j hj => by rw [pu_st_b hj, pu_st_ne (by omega), pu_st_ne (by omega), mo]
  have fo4 : jq_st (jq_st (jq_st m1 (o + 11) n S) (o + 12) n 0) o 4 (n + 1) o 4 = n + 1 := pu_st_a
  have fk : ∀ k, k ≠ 2 → k ≠ o → ¬ (o + 8 ≤ k ∧ k ≤ o + 12) → jq_st (jq_st (jq_st m1 (o + 11) n S) (o + 12) n 0) o 4 (n + 1) k = b1 k := fun k h1 h2 h3 => by rw [ne k (by omega) (by omega) h2]; exact f1 k h1 h3
  have g8 : jq_st (jq_st (jq_st m1 (o + 11) n S) (o + 12) n 0) o 4 (n + 1) (o + 8) = m1 (o + 8) := ne _ (by omega) (by omega) (by omega)
  have g9 : jq_st (jq_st (jq_st m1 (o + 11) n S) (o + 12) n 0) o 4 (n + 1) (o + 9) = m1 (o + 9) := ne _ (by omega) (by omega) (by omega)
  have g10 : jq_st (jq_st (jq_st m1 (o + 11) n S) (o + 12) n 0) o 4 (n + 1) (o + 10) = m1 (o + 10) := ne _ (by omega) (by omega) (by omega)
  have g11 : jq_st (jq_st (jq_st m1 (o + 11) n S) (o + 12) n 0) o 4 (n + 1) (o + 11) n = S := by rw [pu_st_ne (by omega), pu_st_ne (by omega), pu_st_a]
  have g11j : ∀ j, j ≠ n → jq_st (jq_st (jq_st m1 (o + 11) n S) (o + 12) n 0) o 4 (n + 1) (o + 11) j = m1 (o + 11) j := fun j hj => by rw [pu_st_ne (by omega), pu_st_ne (by omega), pu_st_b hj]
  have g12 : jq_st (jq_st (jq_st m1 (o + 11) n S) (o + 12) n 0) o 4 (n + 1) (o + 12) n = 0 := by rw [pu_st_ne (by omega), pu_st_a]
  have g12j : ∀ j, j ≠ n → jq_st (jq_st (jq_st m1 (o + 11) n S) (o + 12) n 0) o 4 (n + 1) (o + 12) j = m1 (o + 12) j := fun j hj => by rw [pu_st_ne (by omega), pu_st_b hj, pu_st_ne (by omega)]
  generalize jq_st (jq_st (jq_st m1 (o + 11) n S) (o + 12) n 0) o 4 (n + 1) = q1 at fo fo4 fk g8 g9 g10 g11 g11j g12 g12j
  generalize jq_st m2 1 2027 (n + 1) = q2 at n3 nv nj x0 x1 x2 x3 x4 nN nNn
  have n0 : n = pu_nB b2 3 := hn
  have zer : ∀ a, 0 ≤ a → a < 8 → pu_nB q2 (98 + 5 * a + 4) = 0 := fun a x y => by
    by_cases e : a = n
    · rw [e, show 98 + 5 * n + 4 = 102 + 5 * n by omega]; exact x4
    · rw [nj _ (by omega) (by omega)]; exact hz.2.2.1 a x y
  have ag : pu_ag (pu_nB q2) = pu_ag (pu_nB b2) := by
    rw [pu_ag_0 hz.2.2.1 (by omega), pu_ag_0 zer (by omega)]
  refine ⟨⟨?_, ?_, ?_, ?_, ?_, ?_, ?_, ?_, ?_, ?_, ?_⟩, ⟨⟨?_, ?_, ?_, ?_, ?_, ?_, ?_⟩, ?_, ?_, ?_⟩, ⟨?_, ?_⟩, ⟨?_, ?_, ?_, ?_, ?_⟩, ?_⟩
  · rw [nj 0 (by omega) (by omega)]; exact i0
  · rw [nj 1 (by omega) (by omega), nj 0 (by omega) (by omega)]; exact i1
  · rw [nj 2 (by omega) (by omega)]; exact i2
  · rw [n3]; omega
  · rw [nj 4 (by omega) (by omega)]; exact i4
  · rw [nj 5 (by omega) (by omega)]; exact i5
  · rw [nj 6 (by omega) (by omega)]; exact i6
  · rw [nj 1 (by omega) (by omega), nj 0 (by omega) (by omega)]; intro p p0 p1; rw [nj _ (by omega) (by omega), nj _ (by omega) (by omega)]; exact i7 p p0 p1
  · rw [nj 1 (by omega) (by omega)]; intro p q p0 p1 p2; rw [nj _ (by omega) (by omega), nj _ (by omega) (by omega)]; exact i8 p q p0 p1 p2
  · rw [nj 2 (by omega) (by omega), nj 1 (by omega) (by omega)]
    intro k x z
    have := i9 k x z
    rw [nj _ (by omega) (by omega), nj _ (by omega) (by omega), nj _ (by omega) (by omega), nj _ (by omega) (by omega)]
    exact this
  · rw [n3]
    intro k x z
    by_cases e : k = n
    · rw [e, x0, x1, x2, x3, x4]
      exact ⟨ht.1, ht.2, hq.1, hq.2, ⟨s0, s1⟩, ⟨by omega, by omega⟩, Or.inl ⟨rfl, by omega⟩⟩
    · have := i10 k x (by omega)
      rw [nj _ (by omega) (by omega), nj _ (by omega) (by omega), nj _ (by omega) (by omega), nj _ (by omega) (by omega), nj _ (by omega) (by omega)]
      exact this
  · rw [fo 0 (by omega), nj 0 (by omega) (by omega)]; exact r0
  · rw [fo 1 (by omega), nj 5 (by omega) (by omega)]; exact r1
  · rw [fo 2 (by omega), nj 1 (by omega) (by omega)]; exact r2
  · rw [fo 3 (by omega), nj 2 (by omega) (by omega)]; exact r3
  · rw [fo4, n3]
  · rw [fo 5 (by omega), ag]; exact r5
  · rw [fo 6 (by omega), nj 4 (by omega) (by omega)]; exact r6
  · rw [nj 1 (by omega) (by omega), fk _ (by omega) (by omega) (by omega), fk _ (by omega) (by omega) (by omega)]
    intro p x z
    rw [nj _ (by omega) (by omega), nj _ (by omega) (by omega)]
    exact rp p x z
  · rw [nj 2 (by omega) (by omega), fk _ (by omega) (by omega) (by omega), fk _ (by omega) (by omega) (by omega), fk _ (by omega) (by omega) (by omega), fk _ (by omega) (by omega) (by omega)]
    intro k x z
    have := rw' k x z
    rw [nj _ (by omega) (by omega), nj _ (by omega) (by omega), nj _ (by omega) (by omega), nj _ (by omega) (by omega)]
    exact this
  · rw [n3, g9, g10]
    intro k x z
    by_cases e : k = n
    · rw [e, x0, x1, x2, x3, g11, g12]; exact ⟨v3, v5, rfl, rfl⟩
    · have := ra k x (by omega)
      rw [nj _ (by omega) (by omega), nj _ (by omega) (by omega), nj _ (by omega) (by omega), nj _ (by omega) (by omega), g11j k e, g12j k e, f2 _ (by omega) (by omega) k e, f2 _ (by omega) (by omega) k e, f2 _ (by omega) (by omega) k e, f2 _ (by omega) (by omega) k e]
      exact this
  · rw [nj 1 (by omega) (by omega), fk _ (by omega) (by omega) (by omega)]
    intro p x z
    rw [nN p (by omega)]
    exact hN.1 p x z
  · rw [n3, g8]
    intro p x z
    by_cases e : p = n
    · rw [e, v1, nNn]; exact ⟨w, hw, rfl, rfl⟩
    · rw [f2 _ (by omega) (by omega) p e, nN _ (by omega)]
      exact hN.2 p x (by omega)
  · rw [nj 4 (by omega) (by omega)]; exact hz.1
  · rw [nj 6 (by omega) (by omega)]; exact hz.2.1
  · exact zer
  · rw [nj 1 (by omega) (by omega)]; intro p x z; rw [nj _ (by omega) (by omega)]; exact hz.2.2.2.1 p x z
  · rw [n3]; intro a x z c c0 c1; rw [nj _ (by omega) (by omega)]; exact hz.2.2.2.2 a (by omega) z c c0 c1
  · rw [fk _ (by omega) (by omega) (by omega)]; exact h13
theorem ps_j89d (ho : o = 5 ∨ o = 25) (hl : pu_dd T L m1 m2) (n0 : 0 ≤ n) (n8 : n < 8) : ∃ τ, X2_readArticle_j90 o n m1 = some τ ∧ pu_dd T L τ m2 ∧ pu_g1 o m1 τ := by
  unfold X2_readArticle_j90 X2_takeLeans
  rw [ps_leansd hl, Option.bind_some, pu_b2, pu_sa n0 n8, Option.bind_some, pu_sa n0 n8, Option.bind_some, pu_lt]
  have ne : ∀ (z k : Int), k ≠ o + 11 → k ≠ o + 12 → k ≠ o → jq_st (jq_st (jq_st m1 (o + 11) n 0) (o + 12) n 0) o 4 z k = m1 k := fun z' k x y z => by rw [pu_st_ne z, pu_st_ne y, pu_st_ne x]
  have d2 : ∀ z, pu_dd T L (jq_st (jq_st (jq_st m1 (o + 11) n 0) (o + 12) n 0) o 4 z) m2 := fun z => hl.mv (ne z 2 (by omega) (by omega) (by omega)) (ne z 3 (by omega) (by omega) (by omega)) (ne z 4 (by omega) (by omega) (by omega)) rfl
  obtain ⟨ω, s1, s2, s3⟩ := ps_semid (o := o) (d2 _)
  exact ⟨ω, s1, s2, pu_g1_t (pu_g1_t (pu_g1_s (by omega) (by omega) (by omega)) (pu_g1_t (pu_g1_s (by omega) (by omega) (by omega)) (pu_g1_s (Int.le_refl _) (by omega) (by omega)))) s3⟩
theorem pa_j89 (ho : o = 5 ∨ o = 25) (hb : pu_bd o b1 b2) (hl : pu_lv T L m1 m2) (hf : pu_aw o b1 b2 m1 m2 n) (hv : pu_av o m1 m2 n w t q) (hS : m2 1 (2124 + 5 * n) = 0) (hn : n = b2 1 2027) (n8 : n < 8) (hw : pu_wd w) (ht : 1 ≤ t ∧ t ≤ 30) (hq : 0 ≤ q ∧ q ≤ 16) : pu_IT o T L m1 m2 (X2_readArticle_j90 o n m1) (jq_b2 (X11_anArticle_j84 (2122 + 5 * n) m2) fun v s => X11_committeePart_j197 v s) := by
  have i3 : 0 ≤ b2 1 2027 ∧ b2 1 2027 ≤ 8 := hb.1.2.2.2.1
  have c4 : m1 o 4 = n := by rw [hf.1 o (by omega) (by omega), hn]; exact hb.2.1.1.2.2.2.2.1
  have q27 : m2 1 2027 = n := by rw [hf.2.2.1 _ (by omega), hn]
  have L9 : L ≤ 900 := hl.1.1.2.1
  have p0 := (pu_tk_p hl.1).1
  obtain ⟨S', τ1, a1, a2, a3⟩ := pa_leans (T := T) (L := L) ho (by omega) n8 900 m1 m2 0 0 hl (by omega) (Int.le_refl _) p0 c4 q27 (fun p x y => by
    rw [hf.2.1 _ (by omega) (by omega) p (by omega), hf.2.2.2 _ (by omega), show 57 + p = 52 + (5 + p) by omega]
    exact hb.2.2.1.2 p x (by show p < b2 1 2027; omega)) hS (Int.le_refl _) (Int.pow_pos (by decide))
  unfold X2_readArticle_j90 X2_takeLeans
  rw [a1, Option.bind_some, pu_b2, pu_sa (by omega) n8, Option.bind_some, pu_sa (by omega) n8, Option.bind_some, pu_lt]
  have t4 : jq_st (jq_st τ1 (o + 11) n S') (o + 12) n 0 o 4 = n := by rw [pu_st_ne (by omega), pu_st_ne (by omega), a2.1 o (by omega)]; exact c4
  have e3 : ∀ m : jq_M, pu_semi m = ((X5_passSign 59 m).bind fun s5 => some s5) := fun m => rfl
  rw [t4, pu_w (x := n + 1) (by omega) (by omega), ← e3]
  rcases a3 with ⟨τ2, b1', b2', b3, b4, b5, b6⟩ | ⟨κ, b1', b2', b3⟩
  · unfold X11_anArticle_j84
    rw [b1', Option.bind_some]
    dsimp only [Sum.elim_inr]
    have t27 : τ2 1 2027 = n := by rw [b3.1 1 (by omega), pu_st_b (by omega)]; exact q27
    rw [pu_ld (by omega) (by omega), Option.bind_some, t27, pu_w (x := n + 1) (by omega) (by omega), pu_sa (by omega) (by omega), Option.bind_some, pu_b2]
    have f0 : pu_aw o b1 b2 τ1 τ2 n := pu_aw_o ho (pu_aw_2 hf (k := 2124 + 5 * n) (x := S') (by omega) (by omega)) a2 b3
    obtain ⟨v1, v2, v3, v4, v5, v6, v7, v8⟩ := hv
    refine pu_IT_t (pa_aend (w := w) (t := t) (q := q) ho hb b2' f0 ⟨?_, ?_, ?_, ?_, ?_, ?_, ?_, ?_⟩ ?_ hn n8 hw ht hq b4 b5) (pu_g1_o a2) (pu_g2_t (pu_g2_s (to := 2124 + 5 * n) (x := S') (by omega)) (pu_g2_o b3)) b6
    · rw [a2.1 _ (by omega)]; exact v1
    · rw [b3.1 2 (by omega), pu_st_ne (by omega)]; exact v2
    · rw [a2.1 _ (by omega)]; exact v3
    · rw [b3.1 1 (by omega), pu_st_b (by omega)]; exact v4
    · rw [a2.1 _ (by omega)]; exact v5
    · rw [b3.1 1 (by omega), pu_st_b (by omega)]; exact v6
    · rw [b3.1 1 (by omega), pu_st_b (by omega)]; exact v7
    · rw [b3.1 1 (by omega), pu_st_b (by omega)]; exact v8
    · rw [b3.1 1 (by omega), pu_st_a]
  · have ne : ∀ k, k ≠ o + 11 → k ≠ o + 12 → k ≠ o → jq_st (jq_st (jq_st τ1 (o + 11) n S') (o + 12) n 0) o 4 (n + 1) k = τ1 k := fun k x y z => by rw [pu_st_ne z, pu_st_ne y, pu_st_ne x]
    have d2 : pu_dd T L (jq_st (jq_st (jq_st τ1 (o + 11) n S') (o + 12) n 0) o 4 (n + 1)) κ := b2'.mv (ne 2 (by omega) (by omega) (by omega)) (ne 3 (by omega) (by omega) (by omega)) (ne 4 (by omega) (by omega) (by omega)) rfl
    obtain ⟨ω, s1, s2, s3⟩ := ps_semid (o := o) d2
    exact ⟨ω, κ, 0, s1, b1', pu_g1_t (pu_g1_o a2) (pu_g1_t (pu_g1_t (pu_g1_s (by omega) (by omega) (by omega)) (pu_g1_t (pu_g1_s (by omega) (by omega) (by omega)) (pu_g1_s (Int.le_refl _) (by omega) (by omega)))) s3), b3, Or.inr ⟨rfl, s2⟩⟩
end
