section
variable {T : Int → Int} {L e x y v n l s a c d : Int} {b1 b2 m m1 m2 m3 σ τ τ1 τ2 : jq_M} {o f k lo hi to base cnt p1 p2 : Int} {A B N : Int → Int} {w : List Int}
/-- only the new wish's cells have changed -/
def pu_wf (o : Int) (b1 b2 m1 m2 : jq_M) (n : Int) : Prop := (∀ k, k ≠ 2 → ¬ (o + 4 ≤ k ∧ k ≤ o + 7) → m1 k = b1 k) ∧ (∀ k, o + 4 ≤ k → k ≤ o + 7 → ∀ j, j ≠ n → m1 k j = b1 k j) ∧ (∀ j, ¬ (2042 + 4 * n ≤ j ∧ j ≤ 2045 + 4 * n) → m2 1 j = b2 1 j) ∧ m2 2 = b2 2
theorem pu_wf_o (ho : o = 5 ∨ o = 25) (h : pu_wf o b1 b2 m1 m2 n) (h1 : pu_o2 m1 τ1) (h2 : pu_o0 m2 τ2) : pu_wf o b1 b2 τ1 τ2 n := by
  refine ⟨fun k x y => (h1.1 k x).trans (h.1 k x y), fun k x y j z => ?_, ?_, ?_⟩
  · rw [h1.1 k (by omega)]; exact h.2.1 k x y j z
  · rw [h2.1 1 (by omega)]; exact h.2.2.1
  · rw [h2.1 2 (by omega)]; exact h.2.2.2
theorem pu_wf_1 (h : pu_wf o b1 b2 m1 m2 n) (h1 : o + 4 ≤ k) (h2 : k ≤ o + 7) : pu_wf o b1 b2 (jq_st m1 k n x) m2 n := by
  refine ⟨fun j x y => ?_, fun j x y i z => ?_, h.2.2⟩
  · rw [pu_st_ne (by omega)]; exact h.1 j x y
  · by_cases q : j = k
    · rw [q, pu_st_b z]; exact h.2.1 k h1 h2 i z
    · rw [pu_st_ne q]; exact h.2.1 j x y i z
theorem pu_wf_2 (h : pu_wf o b1 b2 m1 m2 n) (h1 : 2042 + 4 * n ≤ k) (h2 : k ≤ 2045 + 4 * n) : pu_wf o b1 b2 m1 (jq_st m2 1 k x) n := by
  refine ⟨h.1, h.2.1, fun j hj => ?_, ?_⟩
  · rw [pu_st_b (by omega)]; exact h.2.2.1 j hj
  · rw [pu_st_ne (by omega)]; exact h.2.2.2
/-- the wish stands in both -/
def pu_wv (o : Int) (m1 m2 : jq_M) (n a c d : Int) : Prop := m1 (o + 4) n = a ∧ m2 1 (2042 + 4 * n) = a ∧ m1 (o + 5) n = c ∧ m2 1 (2043 + 4 * n) = c ∧ m1 (o + 6) n = d ∧ m2 1 (2044 + 4 * n) = d
theorem pu_wv_o (ho : o = 5 ∨ o = 25) (h : pu_wv o m1 m2 n a c d) (h1 : pu_o2 m1 τ1) (h2 : pu_o0 m2 τ2) : pu_wv o τ1 τ2 n a c d := by
  unfold pu_wv at h ⊢
  rw [h1.1 _ (by omega), h1.1 _ (by omega), h1.1 _ (by omega), h2.1 1 (by omega)]
  exact h
noncomputable def pu_wend (o n y : Int) (m : jq_M) : Option jq_M := (jq_sa m (o + 7) 20 n y).bind fun s11 => jq_lt (jq_st s11 o 3 (jq_w ((s11 o 3) + 1))) fun s12 => pu_semi s12
theorem ps_wendd (ho : o = 5 ∨ o = 25) (hl : pu_dd T L m1 m2) (n0 : 0 ≤ n) (n2 : n < 20) : ∃ τ, pu_wend o n y m1 = some τ ∧ pu_dd T L τ m2 ∧ pu_g1 o m1 τ := by
  unfold pu_wend
  rw [pu_sa n0 n2, Option.bind_some, pu_lt]
  have d2 : ∀ z, pu_dd T L (jq_st (jq_st m1 (o + 7) n y) o 3 z) m2 := fun z => hl.mv (by rw [pu_st_ne (by omega), pu_st_ne (by omega)]) (by rw [pu_st_ne (by omega), pu_st_ne (by omega)]) (by rw [pu_st_ne (by omega), pu_st_ne (by omega)]) rfl
  obtain ⟨ω, s1, s2, s3⟩ := ps_semid (o := o) (d2 _)
  exact ⟨ω, s1, s2, pu_g1_t (pu_g1_t (pu_g1_s (by omega) (by omega) (by omega)) (pu_g1_s (Int.le_refl _) (by omega) (by omega))) s3⟩
theorem pa_wend (ho : o = 5 ∨ o = 25) (hb : pu_bd o b1 b2) (hl : pu_lv T L m1 m2) (hf : pu_wf o b1 b2 m1 m2 n) (hv : pu_wv o m1 m2 n a c d) (hn : n = b2 1 2026) (n2 : n < 20) (ha : 0 ≤ a ∧ a < b2 1 2025) (hc : c = 2 ∨ (c = 0 ∨ c = 1) ∧ 0 ≤ d ∧ d < b2 1 2025) (hd : -1 ≤ d) (hy : -9 ≤ y ∧ y ≤ 9) : pu_IT o T L m1 m2 (pu_wend o n y m1) (jq_b2 ((jq_sa m2 1 3174 (2045 + 4 * n) y).bind fun s34 => (jq_ld s34 1 3174 2026).bind fun v35 => (jq_sa s34 1 3174 2026 (jq_w (v35 + 1))).bind fun s36 => some ((1 : Int), s36)) fun v s => X11_committeePart_j197 v s) := by
  obtain ⟨hI, hC, hN, hz, h13⟩ := id hb
  obtain ⟨i0, i1, i2, i3, i4, i5, i6, i7, i8, i9, i10⟩ := hI
  obtain ⟨⟨r0, r1, r2, r3, r4, r5, r6⟩, rp, rw', ra⟩ := hC
  have i2' : 0 ≤ b2 1 2026 ∧ b2 1 2026 ≤ 20 := i2
  obtain ⟨f1, f2, f3, f4⟩ := hf
  have mo : m1 o = b1 o := f1 o (by omega) (by omega)
  have r3' : m1 o 3 = n := by rw [mo, hn]; exact r3
  unfold pu_wend
  rw [pu_sa (by omega) n2, Option.bind_some, pu_lt, pu_st_ne (show o ≠ o + 7 by omega), r3', pu_w (x := n + 1) (by omega) (by omega), pu_sa (by omega) (by omega), Option.bind_some, pu_ld (by omega) (by omega), Option.bind_some, pu_st_b (show (2026 : Int) ≠ 2045 + 4 * n by omega), f3 2026 (by omega), ← hn, pu_w (x := n + 1) (by omega) (by omega), pu_sa (by omega) (by omega), Option.bind_some, pu_b2]
  have l2 : pu_lv T L (jq_st (jq_st m1 (o + 7) n y) o 3 (n + 1)) (jq_st (jq_st m2 1 (2045 + 4 * n) y) 1 2026 (n + 1)) := hl.mv (by rw [pu_st_ne (by omega), pu_st_ne (by omega)]) (by rw [pu_st_ne (by omega), pu_st_ne (by omega)]) (by rw [pu_st_ne (by omega), pu_st_ne (by omega)]) (by rw [pu_st_ne (by omega), pu_st_ne (by omega)]) (by rw [pu_st_ne (by omega), pu_st_ne (by omega)])
  refine pu_IT_t (pa_semi l2 ?_ (by omega)) (pu_g1_t (pu_g1_s (by omega) (by omega) (by omega)) (pu_g1_s (Int.le_refl _) (by omega) (by omega))) (pu_g2_t (pu_g2_s (by omega)) (pu_g2_s (by omega))) (by rw [pu_st_ne (by omega), pu_st_ne (by omega)]; exact Int.le_refl _)
  obtain ⟨v1, v2, v3, v4, v5, v6⟩ := hv
  have n2' : pu_nB (jq_st (jq_st m2 1 (2045 + 4 * n) y) 1 2026 (n + 1)) 2 = n + 1 := pu_nB_s (by omega)
  have nv : ∀ j, j ≠ 2 → j ≠ 21 + 4 * n → pu_nB (jq_st (jq_st m2 1 (2045 + 4 * n) y) 1 2026 (n + 1)) j = m2 1 (2024 + j) := fun j h1 h2 => by rw [pu_nB_b (by omega), pu_nB_b (by omega)]; rfl
  have ny : pu_nB (jq_st (jq_st m2 1 (2045 + 4 * n) y) 1 2026 (n + 1)) (21 + 4 * n) = y := by rw [pu_nB_b (by omega)]; exact pu_nB_s (by omega)
  have nj : ∀ j, j ≠ 2 → ¬ (18 + 4 * n ≤ j ∧ j ≤ 21 + 4 * n) → pu_nB (jq_st (jq_st m2 1 (2045 + 4 * n) y) 1 2026 (n + 1)) j = pu_nB b2 j := fun j h1 h2 => by rw [nv j h1 (by omega)]; exact f3 _ (by omega)
  have na : pu_nB (jq_st (jq_st m2 1 (2045 + 4 * n) y) 1 2026 (n + 1)) (18 + 4 * n) = a := by rw [nv _ (by omega) (by omega), ← v2]; congr 1; omega
  have nc : pu_nB (jq_st (jq_st m2 1 (2045 + 4 * n) y) 1 2026 (n + 1)) (19 + 4 * n) = c := by rw [nv _ (by omega) (by omega), ← v4]; congr 1; omega
  have nd : pu_nB (jq_st (jq_st m2 1 (2045 + 4 * n) y) 1 2026 (n + 1)) (20 + 4 * n) = d := by rw [nv _ (by omega) (by omega), ← v6]; congr 1; omega
  have nN : pu_nN (jq_st (jq_st m2 1 (2045 + 4 * n) y) 1 2026 (n + 1)) = pu_nN b2 := by unfold pu_nN; rw [pu_st_ne (by omega), pu_st_ne (by omega), f4]
  have fo : ∀ j, j ≠ 3 → jq_st (jq_st m1 (o + 7) n y) o 3 (n + 1) o j = b1 o j := fun j hj => by rw [pu_st_b hj, pu_st_ne (by omega), mo]
  have fo3 : jq_st (jq_st m1 (o + 7) n y) o 3 (n + 1) o 3 = n + 1 := pu_st_a
  have fk : ∀ k, k ≠ 2 → k ≠ o → ¬ (o + 4 ≤ k ∧ k ≤ o + 7) → jq_st (jq_st m1 (o + 7) n y) o 3 (n + 1) k = b1 k := fun k h1 h2 h3 => by rw [pu_st_ne h2, pu_st_ne (by omega)]; exact f1 k h1 h3
  have g4 : jq_st (jq_st m1 (o + 7) n y) o 3 (n + 1) (o + 4) = m1 (o + 4) := by rw [pu_st_ne (by omega), pu_st_ne (by omega)]
  have g5 : jq_st (jq_st m1 (o + 7) n y) o 3 (n + 1) (o + 5) = m1 (o + 5) := by rw [pu_st_ne (by omega), pu_st_ne (by omega)]
  have g6 : jq_st (jq_st m1 (o + 7) n y) o 3 (n + 1) (o + 6) = m1 (o + 6) := by rw [pu_st_ne (by omega), pu_st_ne (by omega)]
  have g7 : jq_st (jq_st m1 (o + 7) n y) o 3 (n + 1) (o + 7) n = y := by rw [pu_st_ne (by omega), pu_st_a]
  have g7j : ∀ j, j ≠ n → jq_st (jq_st m1 (o + 7) n y) o 3 (n + 1) (o + 7) j = m1 (o + 7) j := fun j hj => by rw [pu_st_ne (by omega), pu_st_b hj]
  generalize jq_st (jq_st m1 (o + 7) n y) o 3 (n + 1) = q1 at fo fo3 fk g4 g5 g6 g7 g7j
  generalize jq_st (jq_st m2 1 (2045 + 4 * n) y) 1 2026 (n + 1) = q2 at n2' nv ny nj na nc nd nN
  have n0 : n = pu_nB b2 2 := hn
  have ha' : a < pu_nB b2 1 := ha.2
  have hc' : c = 2 ∨ (c = 0 ∨ c = 1) ∧ 0 ≤ d ∧ d < pu_nB b2 1 := hc
  have ag : pu_ag (pu_nB q2) = pu_ag (pu_nB b2) := by
    rw [pu_ag_0 hz.2.2.1 (by omega), pu_ag_0 (fun a x y => by rw [nj _ (by omega) (by omega)]; exact hz.2.2.1 a x y) (by rw [nj 3 (by omega) (by omega)]; omega)]
  refine ⟨⟨?_, ?_, ?_, ?_, ?_, ?_, ?_, ?_, ?_, ?_, ?_⟩, ⟨⟨?_, ?_, ?_, ?_, ?_, ?_, ?_⟩, ?_, ?_, ?_⟩, ⟨?_, ?_⟩, ⟨?_, ?_, ?_, ?_, ?_⟩, ?_⟩
  · rw [nj 0 (by omega) (by omega)]; exact i0
  · rw [nj 1 (by omega) (by omega), nj 0 (by omega) (by omega)]; exact i1
  · rw [n2']; omega
  · rw [nj 3 (by omega) (by omega)]; exact i3
  · rw [nj 4 (by omega) (by omega)]; exact i4
  · rw [nj 5 (by omega) (by omega)]; exact i5
  · rw [nj 6 (by omega) (by omega)]; exact i6
  · rw [nj 1 (by omega) (by omega), nj 0 (by omega) (by omega)]; intro p p0 p1; rw [nj _ (by omega) (by omega), nj _ (by omega) (by omega)]; exact i7 p p0 p1
  · rw [nj 1 (by omega) (by omega)]; intro p q p0 p1 p2; rw [nj _ (by omega) (by omega), nj _ (by omega) (by omega)]; exact i8 p q p0 p1 p2
  · rw [n2', nj 1 (by omega) (by omega)]
    intro k x z
    by_cases e : k = n
    · rw [e, na, nc, nd, ny]; omega
    · have := i9 k x (by omega)
      rw [nj _ (by omega) (by omega), nj _ (by omega) (by omega), nj _ (by omega) (by omega), nj _ (by omega) (by omega)]
      exact this
  · rw [nj 3 (by omega) (by omega)]
    intro k x z
    have := i10 k x z
    rw [nj _ (by omega) (by omega), nj _ (by omega) (by omega), nj _ (by omega) (by omega), nj _ (by omega) (by omega), nj _ (by omega) (by omega)]
    exact this
  · rw [fo 0 (by omega), nj 0 (by omega) (by omega)]; exact r0
  · rw [fo 1 (by omega), nj 5 (by omega) (by omega)]; exact r1
  · rw [fo 2 (by omega), nj 1 (by omega) (by omega)]; exact r2
  · rw [fo3, n2']
  · rw [fo 4 (by omega), nj 3 (by omega) (by omega)]; exact r4
  · rw [fo 5 (by omega), ag]; exact r5
  · rw [fo 6 (by omega), nj 4 (by omega) (by omega)]; exact r6
  · rw [nj 1 (by omega) (by omega), fk _ (by omega) (by omega) (by omega), fk _ (by omega) (by omega) (by omega)]
    intro p x z
    rw [nj _ (by omega) (by omega), nj _ (by omega) (by omega)]
    exact rp p x z
  · rw [n2', g4, g5, g6]
    intro k x z
    by_cases e : k = n
    · rw [e, na, nc, nd, ny, g7]; exact ⟨v1, v3, v5, rfl⟩
    · have := rw' k x (by omega)
      rw [nj _ (by omega) (by omega), nj _ (by omega) (by omega), nj _ (by omega) (by omega), nj _ (by omega) (by omega), g7j k e, f2 _ (by omega) (by omega) k e, f2 _ (by omega) (by omega) k e, f2 _ (by omega) (by omega) k e, f2 _ (by omega) (by omega) k e]
      exact this
  · rw [nj 3 (by omega) (by omega), fk _ (by omega) (by omega) (by omega), fk _ (by omega) (by omega) (by omega), fk _ (by omega) (by omega) (by omega), fk _ (by omega) (by omega) (by omega)]
    intro k x z
    have := ra k x z
    rw [nj _ (by omega) (by omega), nj _ (by omega) (by omega), nj _ (by omega) (by omega), nj _ (by omega) (by omega)]
    exact this
  · rw [nj 1 (by omega) (by omega), nN, fk _ (by omega) (by omega) (by omega)]; exact hN.1
  · rw [nj 3 (by omega) (by omega), nN, fk _ (by omega) (by omega) (by omega)]; exact hN.2
  · rw [nj 4 (by omega) (by omega)]; exact hz.1
  · rw [nj 6 (by omega) (by omega)]; exact hz.2.1
  · intro a x z; rw [nj _ (by omega) (by omega)]; exact hz.2.2.1 a x z
  · rw [nj 1 (by omega) (by omega)]; intro p x z; rw [nj _ (by omega) (by omega)]; exact hz.2.2.2.1 p x z
  · rw [nj 3 (by omega) (by omega)]; intro a x z c c0 c1; rw [nj _ (by omega) (by omega)]; exact hz.2.2.2.2 a x z c c0 c1
  · rw [fk _ (by omega) (by omega) (by omega)]; exact h13
end
