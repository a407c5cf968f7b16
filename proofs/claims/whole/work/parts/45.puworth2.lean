section
variable {σ : jq_M} {o row p k : Int} {A S : Int → Int}
theorem ps_worthOfAll (hI : pu_inv A) (hC : pu_RC σ o A) (hS : ∀ p, 0 ≤ p → p < A 1 → σ row p = S p) : X1_worthOfAll o row σ = some (pu_all A S) := by
  have hI0 := hI
  have hC0 := hC
  obtain ⟨i0, i1, i2, i3, i4, i5, i6, ip, iq, iw, ia⟩ := hI
  obtain ⟨⟨c0, c1, c2, c3, c4, c5, c6⟩, cp, cw, ca⟩ := hC
  unfold X1_worthOfAll
  rw [pu_forF (fun _ => True) id 0 (pu_ast A S) (A 2).toNat trivial (fun i s _ hi => ⟨?_, trivial⟩) (fun s _ => ?_)]
  · rfl
  · unfold X1_worthOfAll_b4 pu_ast
    obtain ⟨d1, d2, d3, d4⟩ := cw i (by omega) (by omega)
    have m := ps_isMet (σ := σ) (o := o) (row := row) (k := (i : Int)) hI0 hC0 hS (by omega) (by omega)
    simp (disch := omega) only [c3, if_pos, pu_ld, Option.bind_some, d1, d4, m, pu_lt, pu_w (x := (i : Int) + 1), pu_ii]
    by_cases h2 : pu_met A S i
    · rw [pu_if_p h2, pu_if_p h2]
    · rw [pu_if_n h2, pu_if_n h2]
  · unfold X1_worthOfAll_b4
    rw [if_neg (by show ¬ ((A 2).toNat : Int) < σ o 3; omega)]
    rfl
end
