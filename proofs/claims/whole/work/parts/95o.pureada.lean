section
variable {T : Int → Int} {L e x v n l s : Int} {b1 b2 m m1 m2 m3 σ τ τ1 τ2 : jq_M} {o f k lo hi to : Int} {A B N : Int → Int} {w : List Int}
/-- a party half read: its name, what is the least, its seat -/
def pu_pb (o : Int) (b1 b2 m1 m2 : jq_M) (n l s : Int) (w : List Int) : Prop := ((∀ k, k ≠ 2 → k ≠ o + 1 → k ≠ o + 2 → k ≠ o + 3 → m1 k = b1 k) ∧ (∀ j, j ≠ n → m1 (o + 1) j = b1 (o + 1) j ∧ m1 (o + 2) j = b1 (o + 2) j ∧ m1 (o + 3) j = b1 (o + 3) j) ∧ m1 (o + 1) n = pu_c5 w ∧ m1 (o + 2) n = l ∧ m1 (o + 3) n = s) ∧ (∀ j, j ≠ 2032 + 2 * n → j ≠ 2033 + 2 * n → m2 1 j = b2 1 j) ∧ m2 1 (2032 + 2 * n) = l ∧ m2 1 (2033 + 2 * n) = s ∧ (∀ j, j ≠ 52 + n → m2 2 j = b2 2 j) ∧ m2 2 (52 + n) = pu_c8 w
theorem pu_pb_o (ho : o = 5 ∨ o = 25) (h : pu_pb o b1 b2 m1 m2 n l s w) (h1 : pu_o2 m1 τ1) (h2 : pu_o0 m2 τ2) : pu_pb o b1 b2 τ1 τ2 n l s w := by
  unfold pu_pb at h ⊢
  rw [h2.1 1 (by omega), h2.1 2 (by omega), h1.1 (o + 1) (by omega), h1.1 (o + 2) (by omega), h1.1 (o + 3) (by omega)]
  exact ⟨⟨fun k a b c d => (h1.1 k a).trans (h.1.1 k a b c d), h.1.2⟩, h.2⟩
theorem pa_j121 (ho : o = 5 ∨ o = 25) (hb : pu_bd o b1 b2) (hl : pu_lv T L m1 m2) (hp : pu_pb o b1 b2 m1 m2 n l s w) (hn : n = b2 1 2025) (n5 : n < 5) (np : n < b2 1 2024) (hw : pu_wd w) (hl0 : 0 ≤ l ∧ l ≤ 50) (hs : s = -1 ∨ 0 ≤ s ∧ s < b2 1 2024 ∧ ∀ p, 0 ≤ p → p < n → b2 1 (2033 + 2 * p) ≠ s) : pu_IT o T L m1 m2 (X2_readParty_j119 o m1) (jq_b2 (X11_aParty_j163 m2) fun v s => X11_committeePart_j197 v s) := by
  obtain ⟨hI, hC, hN, hz, h13⟩ := id hb
  obtain ⟨⟨p1, p2, p3, p4, p5⟩, p6, p7, p8, p9, p10⟩ := hp
  obtain ⟨i0, i1, i2, i3, i4, i5, i6, i7, i8, i9, i10⟩ := hI
  obtain ⟨⟨r0, r1, r2, r3, r4, r5, r6⟩, rp, rw', ra⟩ := hC
  have i1' : 0 ≤ b2 1 2025 ∧ b2 1 2025 ≤ 5 ∧ b2 1 2025 ≤ b2 1 2024 := i1
  have mo : m1 o = b1 o := p1 o (by omega) (by omega) (by omega) (by omega)
  have r2' : m1 o 2 = n := by rw [mo, hn]; exact r2
  have q25 : m2 1 2025 = n := by rw [p6 2025 (by omega) (by omega), hn]
  unfold X2_readParty_j119 X11_aParty_j163
  rw [pu_lt, r2', pu_w (x := n + 1) (by omega) (by omega), pu_ld (by omega) (by omega), Option.bind_some, q25, pu_w (x := n + 1) (by omega) (by omega), pu_sa (by omega) (by omega), Option.bind_some, pu_b2]
  have e3 : ∀ m : jq_M, pu_semi m = ((X5_passSign 59 m).bind fun s5 => some s5) := fun m => rfl
  rw [← e3]
  have l2 : pu_lv T L (jq_st m1 o 2 (n + 1)) (jq_st m2 1 2025 (n + 1)) := hl.mv (pu_st_ne (by omega)) (pu_st_ne (by omega)) (pu_st_ne (by omega)) (pu_st_ne (by omega)) (pu_st_ne (by omega))
  have nN0 : pu_nN (jq_st m2 1 2025 (n + 1)) n = pu_c8 w := by unfold pu_nN; rw [pu_st_ne (by omega)]; exact p10
  have nNj : ∀ j, j ≠ n → pu_nN (jq_st m2 1 2025 (n + 1)) j = pu_nN b2 j := fun j hj => by unfold pu_nN; rw [pu_st_ne (by omega)]; exact p9 _ (by omega)
  have n1 : pu_nB (jq_st m2 1 2025 (n + 1)) 1 = n + 1 := pu_nB_s (by omega)
  have nl : pu_nB (jq_st m2 1 2025 (n + 1)) (8 + 2 * n) = l := by rw [pu_nB_b (by omega)]; unfold pu_nB; rw [show 2024 + (8 + 2 * n) = 2032 + 2 * n by omega]; exact p7
  have ns : pu_nB (jq_st m2 1 2025 (n + 1)) (9 + 2 * n) = s := by rw [pu_nB_b (by omega)]; unfold pu_nB; rw [show 2024 + (9 + 2 * n) = 2033 + 2 * n by omega]; exact p8
  have nj : ∀ j, j ≠ 1 → j ≠ 8 + 2 * n → j ≠ 9 + 2 * n → pu_nB (jq_st m2 1 2025 (n + 1)) j = pu_nB b2 j := fun j hj hj2 hj3 => by rw [pu_nB_b (by omega)]; unfold pu_nB; exact p6 _ (by omega) (by omega)
  refine pu_IT_t (pa_semi l2 ?_ (by omega)) (pu_g1_s (Int.le_refl _) (by omega) (by omega)) (pu_g2_s (by omega)) (by rw [pu_st_ne (by omega)]; exact Int.le_refl _)
  have fo : ∀ j, j ≠ 2 → jq_st m1 o 2 (n + 1) o j = b1 o j := fun j hj => by rw [pu_st_b hj, mo]
  have fk : ∀ k, k ≠ 2 → k ≠ o → k ≠ o + 1 → k ≠ o + 2 → k ≠ o + 3 → jq_st m1 o 2 (n + 1) k = b1 k := fun k a b c d e => by rw [pu_st_ne b]; exact p1 k a c d e
  have f1 : jq_st m1 o 2 (n + 1) (o + 1) = m1 (o + 1) := pu_st_ne (by omega)
  have f2 : jq_st m1 o 2 (n + 1) (o + 2) = m1 (o + 2) := pu_st_ne (by omega)
  have f3 : jq_st m1 o 2 (n + 1) (o + 3) = m1 (o + 3) := pu_st_ne (by omega)
  have fo2 : jq_st m1 o 2 (n + 1) o 2 = n + 1 := pu_st_a
  generalize jq_st m1 o 2 (n + 1) = q1 at fo fk f1 f2 f3 fo2
  generalize jq_st m2 1 2025 (n + 1) = q2 at nN0 nNj n1 nl ns nj
  have n0 : n = pu_nB b2 1 := hn
  have np' : n < pu_nB b2 0 := np
  have ag : pu_ag (pu_nB q2) = pu_ag (pu_nB b2) := by
    rw [pu_ag_0 hz.2.2.1 (by omega), pu_ag_0 (fun a x y => by rw [nj _ (by omega) (by omega) (by omega)]; exact hz.2.2.1 a x y) (by rw [nj 3 (by omega) (by omega) (by omega)]; omega)]
  refine ⟨⟨?_, ?_, ?_, ?_, ?_, ?_, ?_, ?_, ?_, ?_, ?_⟩, ⟨⟨?_, ?_, ?_, ?_, ?_, ?_, ?_⟩, ?_, ?_, ?_⟩, ⟨?_, ?_⟩, ⟨?_, ?_, ?_, ?_, ?_⟩, ?_⟩
  · rw [nj 0 (by omega) (by omega) (by omega)]; exact i0
  · rw [n1, nj 0 (by omega) (by omega) (by omega)]; omega
  · rw [nj 2 (by omega) (by omega) (by omega)]; exact i2
  · rw [nj 3 (by omega) (by omega) (by omega)]; exact i3
  · rw [nj 4 (by omega) (by omega) (by omega)]; exact i4
  · rw [nj 5 (by omega) (by omega) (by omega)]; exact i5
  · rw [nj 6 (by omega) (by omega) (by omega)]; exact i6
  · rw [n1, nj 0 (by omega) (by omega) (by omega)]
    intro p x y
    by_cases z : p = n
    · rw [z, nl, ns]
      rcases hs with g | g
      · omega
      · have : s < pu_nB b2 0 := g.2.1
        omega
    · rw [nj _ (by omega) (by omega) (by omega), nj _ (by omega) (by omega) (by omega)]
      exact i7 p x (by omega)
  · rw [n1]
    intro p q x y z
    by_cases zq : q = n
    · rw [zq, ns, nj _ (by omega) (by omega) (by omega)]
      intro g h
      rcases hs with g2 | g2
      · omega
      · refine g2.2.2 p x (by omega) ?_
        rw [← h]
        unfold pu_nB
        congr 1
        omega
    · rw [nj _ (by omega) (by omega) (by omega), nj _ (by omega) (by omega) (by omega)]
      exact i8 p q x y (by omega)
  · rw [nj 2 (by omega) (by omega) (by omega), n1]
    intro k x y
    have := i9 k x y
    rw [nj _ (by omega) (by omega) (by omega), nj _ (by omega) (by omega) (by omega), nj _ (by omega) (by omega) (by omega), nj _ (by omega) (by omega) (by omega)]
    omega
  · rw [nj 3 (by omega) (by omega) (by omega)]
    intro k x y
    have := i10 k x y
    rw [nj _ (by omega) (by omega) (by omega), nj _ (by omega) (by omega) (by omega), nj _ (by omega) (by omega) (by omega), nj _ (by omega) (by omega) (by omega), nj _ (by omega) (by omega) (by omega)]
    exact this
  · rw [fo 0 (by omega), nj 0 (by omega) (by omega) (by omega)]; exact r0
  · rw [fo 1 (by omega), nj 5 (by omega) (by omega) (by omega)]; exact r1
  · rw [fo2, n1]
  · rw [fo 3 (by omega), nj 2 (by omega) (by omega) (by omega)]; exact r3
  · rw [fo 4 (by omega), nj 3 (by omega) (by omega) (by omega)]; exact r4
  · rw [fo 5 (by omega), ag]; exact r5
  · rw [fo 6 (by omega), nj 4 (by omega) (by omega) (by omega)]; exact r6
  · rw [n1, f2, f3]
    intro p x y
    by_cases z : p = n
    · rw [z, nl, ns]; exact ⟨p4, p5⟩
    · rw [nj _ (by omega) (by omega) (by omega), nj _ (by omega) (by omega) (by omega), (p2 p z).2.1, (p2 p z).2.2]
      exact rp p x (by omega)
  · rw [nj 2 (by omega) (by omega) (by omega)]
    intro k x y
    have := rw' k x y
    rw [nj _ (by omega) (by omega) (by omega), nj _ (by omega) (by omega) (by omega), nj _ (by omega) (by omega) (by omega), nj _ (by omega) (by omega) (by omega), fk _ (by omega) (by omega) (by omega) (by omega) (by omega), fk _ (by omega) (by omega) (by omega) (by omega) (by omega), fk _ (by omega) (by omega) (by omega) (by omega) (by omega), fk _ (by omega) (by omega) (by omega) (by omega) (by omega)]
    exact this
  · rw [nj 3 (by omega) (by omega) (by omega)]
    intro k x y
    have := ra k x y
    rw [nj _ (by omega) (by omega) (by omega), nj _ (by omega) (by omega) (by omega), nj _ (by omega) (by omega) (by omega), nj _ (by omega) (by omega) (by omega), fk _ (by omega) (by omega) (by omega) (by omega) (by omega), fk _ (by omega) (by omega) (by omega) (by omega) (by omega), fk _ (by omega) (by omega) (by omega) (by omega) (by omega), fk _ (by omega) (by omega) (by omega) (by omega) (by omega)]
    exact this
  · rw [n1, f1]
    intro p x y
    by_cases z : p = n
    · rw [z, nN0, p3]; exact ⟨w, hw, rfl, rfl⟩
    · rw [nNj p z, (p2 p z).1]
      exact hN.1 p x (by omega)
  · rw [nj 3 (by omega) (by omega) (by omega), fk _ (by omega) (by omega) (by omega) (by omega) (by omega)]
    intro a x y
    rw [nNj _ (by omega)]
    exact hN.2 a x y
  · rw [nj 4 (by omega) (by omega) (by omega)]; exact hz.1
  · rw [nj 6 (by omega) (by omega) (by omega)]; exact hz.2.1
  · intro a x y; rw [nj _ (by omega) (by omega) (by omega)]; exact hz.2.2.1 a x y
  · rw [n1]; intro p x y; rw [nj _ (by omega) (by omega) (by omega)]; exact hz.2.2.2.1 p (by omega) y
  · rw [nj 3 (by omega) (by omega) (by omega)]; intro a x y c c0 c1; rw [nj _ (by omega) (by omega) (by omega)]; exact hz.2.2.2.2 a x y c c0 c1
  · rw [fk _ (by omega) (by omega) (by omega) (by omega) (by omega)]; exact h13
theorem ps_j121d (ho : o = 5 ∨ o = 25) (hl : pu_dd T L m1 m2) : ∃ τ, X2_readParty_j119 o m1 = some τ ∧ pu_dd T L τ m2 ∧ pu_g1 o m1 τ := by
  unfold X2_readParty_j119
  rw [pu_lt]
  have d2 : pu_dd T L (jq_st m1 o 2 (jq_w (m1 o 2 + 1))) m2 := hl.mv (pu_st_ne (by omega)) (pu_st_ne (by omega)) (pu_st_ne (by omega)) rfl
  obtain ⟨ω, s1, s2, s3⟩ := ps_semid (o := o) d2
  exact ⟨ω, s1, s2, pu_g1_t (pu_g1_s (Int.le_refl _) (by omega) (by omega)) s3⟩
theorem pm_number_ok (h : m2 0 12 = 3) (h1 : lo ≤ m2 0 15) (h2 : m2 0 15 ≤ hi) (t0 : 0 ≤ to) (t1 : to < 3174) : X11_number to lo hi m2 = (X11_ahead (jq_st m2 1 to (m2 0 15))).bind fun s6 => some (1, s6) := by
  unfold X11_number
  rw [if_pos h, if_neg (by omega), if_neg (by omega), pu_sa t0 t1, Option.bind_some]
theorem pm_number_no (hl : pu_lv T L m1 m2) (h : m1 2 5 = 2 ∧ f = 4 ∧ ¬ (lo ≤ m1 2 7 ∧ m1 2 7 ≤ hi) ∨ m1 2 5 ≠ 2 ∧ f = 2) : X11_number to lo hi m2 = jq_b2 (X11_fails f m2) fun v s => some (v, s) := by
  obtain ⟨-, -, -, -, -, -, -, -, p1, -, p2, -⟩ := pu_tk_p hl.1
  unfold X11_number X11_number_j30
  rcases h with ⟨c1, c2, c3⟩ | ⟨c1, c2⟩
  · rw [if_pos (p1.mp c1), ← (p2 c1).1, c2]
    split
    · rfl
    · rw [if_pos (by omega)]
  · rw [if_neg (fun g => c1 (p1.mpr g)), c2]
end
