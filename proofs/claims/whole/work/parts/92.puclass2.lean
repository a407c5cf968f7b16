section
variable {A S S' : Int → Int} {m σ : jq_M} {n v x k p P o f : Int}
/-- a row as it stands (f = 0) or in the mirror -/
def pu_mir (P f : Int) (S : Int → Int) : Int → Int := fun q => if f = 0 then S q else P - 1 - S q
theorem ps_like (hI : pu_inv A) (hC : pu_RC σ o A) (ho : o ≠ 55) (hP : 3 ≤ A 0) (hS : ∀ q, 0 ≤ q → q < A 1 → σ 53 q = S q) (hb : ∀ q, 0 ≤ q → q < A 1 → 0 ≤ S q ∧ S q < A 0) : ∃ τ, jq_lp (X8_isGoodAhead_b3 o f) (0, σ) = some τ ∧ (∀ k, k ≠ 55 → τ k = σ k) ∧ ∀ q, 0 ≤ q → q < A 1 → τ 55 q = pu_mir (A 0) f S q := by
  have i0 := hI.1
  have i1 := hI.2.1
  have c0 := hC.1.1
  have c2 := hC.1.2.2.1
  refine pu_lpE (f := X8_isGoodAhead_b3 o f) (s := ((0 : Int), σ)) (fun i t => t.1 = (i : Int) ∧ (∀ k, k ≠ 55 → t.2 k = σ k) ∧ ∀ q, 0 ≤ q → q < t.1 → t.2 55 q = pu_mir (A 0) f S q) (fun τ => (∀ k, k ≠ 55 → τ k = σ k) ∧ ∀ q, 0 ≤ q → q < A 1 → τ 55 q = pu_mir (A 0) f S q) (A 1).toNat ⟨rfl, fun _ _ => rfl, fun j x y => by dsimp only at y; omega⟩ (fun i t ht hi => ?_) (fun e h1 h2 => ⟨e, h1, h2⟩)
  obtain ⟨t1, t2⟩ := t
  obtain ⟨hk, q1, q2⟩ := ht
  dsimp only at hk q1 q2
  have k0 : 0 ≤ t1 := by omega
  have eo : t2 o = σ o := q1 o ho
  have e53 : t2 53 = σ 53 := q1 53 (by omega)
  unfold X8_isGoodAhead_b3
  dsimp only
  by_cases w : t1 < A 1
  · right
    have s := hb t1 k0 w
    have e9 := hS t1 k0 w
    have fin : ∀ v, v = pu_mir (A 0) f S t1 → i < (A 1).toNat ∧ ∃ s', (some (.inl (t1 + 1, jq_st t2 55 t1 v)) : Option ((Int × jq_M) ⊕ jq_M)) = some (.inl s') ∧ s'.1 = ((i + 1 : Nat) : Int) ∧ (∀ k, k ≠ 55 → s'.2 k = σ k) ∧ ∀ q, 0 ≤ q → q < s'.1 → s'.2 55 q = pu_mir (A 0) f S q := fun v hv => by
      refine ⟨by omega, _, rfl, by dsimp only; omega, fun k hk => (pu_st_ne hk).trans (q1 k hk), fun j x y => ?_⟩
      dsimp only at y ⊢
      by_cases z : j = t1
      · rw [z, pu_st_a, hv]
      · rw [pu_st_b z]
        exact q2 j x (by omega)
    by_cases z : f = 0
    · rw [if_pos (show t1 < t2 o 2 by rw [eo, c2]; exact w), if_pos (show t1 < 5 by omega), if_pos z, pu_ld (by omega) (by omega), Option.bind_some, pu_sa (by omega) (by omega), Option.bind_some, pu_lt, pu_w (x := t1 + 1) (by omega) (by omega), e53, e9]
      exact fin _ (by unfold pu_mir; rw [if_pos z])
    · rw [if_pos (show t1 < t2 o 2 by rw [eo, c2]; exact w), if_pos (show t1 < 5 by omega), if_neg z, eo, c0, pu_ld (by omega) (by omega), Option.bind_some, e53, e9, pu_w (x := A 0 - 1) (by omega) (by omega), pu_w (x := A 0 - 1 - S t1) (by omega) (by omega), pu_sa (by omega) (by omega), Option.bind_some, pu_lt, pu_w (x := t1 + 1) (by omega) (by omega)]
      exact fin _ (by unfold pu_mir; rw [if_neg z])
  · left
    rw [if_neg (show ¬ t1 < t2 o 2 by rw [eo, c2]; exact w)]
    exact ⟨_, rfl, q1, fun q a b => q2 q a (by omega)⟩
end
