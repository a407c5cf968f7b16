section
variable {σ : jq_M} {o row p k : Int} {A S : Int → Int}
theorem ps_worthOfAll (hI : pu_inv A) (hC : pu_RC σ o A) (hS : ∀ p, 0 ≤ p → p < A 1 → σ row p = S p) : X1_worthOfAll o row σ = some (pu_all A S) := by
  have hI0 := hI
  have hC0 := hC
  obtain ⟨i0, i1, i2, i3, i4, i5, i6, ip, iq, iw, ia⟩ := hI
  obtain ⟨⟨c0, c1, c2, c3, c4, c5, c6⟩, cp, cw, ca⟩ := hC
  unfold X1_worthOfAll
  rw [pu_forK (fun _ => True) id 0 (pu_ast A S) (A 2) (by omega) trivial (fun κ s z0 z1 _ => ⟨?_, trivial⟩) (fun s _ => ?_)]
  · rfl
  · unfold X1_worthOfAll_b4 pu_ast
    try dsimp only
    obtain ⟨d1, d2, d3, d4⟩ := cw κ (by omega) (by omega)
    have m := ps_isMet (σ := σ) (o := o) (row := row) (k := κ) hI0 hC0 hS (by omega) (by omega)
    simp (disch := omega) only [c3, if_pos, pu_ld, Option.bind_some, d1, d4, m, pu_lt, pu_w (x := κ + 1), pu_ii]
    by_cases h2 : pu_met A S κ
    · rw [pu_if_p h2, pu_if_p h2]
    · rw [pu_if_n h2, pu_if_n h2]
  · unfold X1_worthOfAll_b4
    rw [if_neg (by dsimp only; omega)]
    rfl
theorem pm_worthOf_st (hI : pu_inv (σ 1)) {κ s : Int} (z0 : 0 ≤ κ) (z1 : κ < σ 1 2) (hs : jq_r s) : X11_worthOf_b4 p σ (s, κ) = some (.inl (pu_wst (σ 1) (σ 9) p κ s, κ + 1)) := by
  have hI0 := hI
  obtain ⟨i0, i1, i2, i3, i4, i5, i6, ip, iq, iw, ia⟩ := hI
  unfold pu_wst
  unfold X11_worthOf_b4
  try dsimp only
  have m := pm_isHad (σ := σ) (k := κ) hI0 (by omega) (by omega)
  simp (disch := omega) only [if_pos, pu_ld, Option.bind_some, m, pu_lt, pm_wishRow, pu_w (x := κ + 1), pu_w (x := 18 + 4 * κ + 3), pu_ii, pu_w_r0 hs]
  rw [show 18 + 4 * κ + 3 = 21 + 4 * κ by omega]
  by_cases h1 : σ 1 (18 + 4 * κ) = p
  · rw [if_pos h1]
    by_cases h2 : pu_met (σ 1) (σ 9) κ
    · rw [pu_if_p h2, pu_if_p ⟨h1, h2⟩]
    · rw [pu_if_n h2, pu_if_n (fun q => h2 q.2)]
  · rw [if_neg h1, pu_if_n (fun q => h1 q.1)]
theorem pu_wst_r {κ s : Int} (hs : jq_r s) : jq_r (pu_wst A S p κ s) := by
  unfold pu_wst
  by_cases h : A (18 + 4 * κ) = p ∧ pu_met A S κ
  · rw [pu_if_p h]; exact jq_w_r _
  · rw [pu_if_n h]; exact hs
end
