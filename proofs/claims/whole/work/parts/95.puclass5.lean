section
variable {A S S' : Int → Int} {m σ : jq_M} {n v x k q p P o f g : Int} {t1 : Int × Int × jq_M}
def pu_cls (A : Int → Int) (S : Int → Int) (p : Int) : Prop := (∀ f k, f = 0 ∨ f = 1 → 0 ≤ k → k < A 0 → p ≤ pu_hc (A 0) (pu_tk (A 0) k (pu_mir (A 0) f S)) (A 1).toNat) ∧ ∃ f k, (f = 0 ∨ f = 1) ∧ 0 ≤ k ∧ k < A 0 ∧ pu_gd A (pu_tk (A 0) k (pu_mir (A 0) f S))
/-- is the code the least of its kind, and some one of its kind good? -/
theorem pm_isClass (hI : pu_inv (σ 1)) (hP : 3 ≤ σ 1 0) (hS : ∀ q, 0 ≤ q → q < σ 1 1 → σ 9 q = S q) (hb : ∀ q, 0 ≤ q → q < σ 1 1 → 0 ≤ S q ∧ S q < σ 1 0) : ∃ τ, X11_isClass p σ = some (pu_i (pu_cls (σ 1) S p), τ) ∧ ∀ k, k ≠ 9 → τ k = σ k := by
  have m0 : pu_mir (σ 1 0) 0 S = S := by
    funext q
    exact if_pos rfl
  have hb2 : ∀ q, 0 ≤ q → q < σ 1 1 → 0 ≤ pu_mir (σ 1 0) 1 S q ∧ pu_mir (σ 1 0) 1 S q < σ 1 0 := fun q a b => pu_mir_b (hb q a b).1 (hb q a b).2
  unfold X11_isClass
  obtain ⟨e, a1, a2⟩ := pm_turns (p := p) (g := 0) (t1 := (0, 0, σ)) hI hP hS hb (Or.inl rfl)
  rcases a2 with ⟨k, τ, b1, b2, b3, b4, b5⟩ | ⟨b1, g', τ, b2, b3, b4, b5, b6⟩
  · have st : X11_isClass_b4 p (0, 0, σ) = some (.inr (.inl τ)) := by
      unfold X11_isClass_b4
      dsimp only
      rw [if_pos (by decide), a1, Option.bind_some, b4]
      rfl
    rw [jq_lp_inr st, Option.bind_some]
    refine ⟨τ, ?_, b5⟩
    rw [pu_i_n (fun h => by
      have := h.1 0 k (Or.inl rfl) b1 b2
      rw [m0] at this
      omega)]
    rfl
  · have e1 : τ 1 = σ 1 := b3 1 (by omega)
    obtain ⟨υ, c1, c2, c3⟩ := pm_moves (σ := τ) (p := 1) (S := S) (by rw [e1]; exact hI) (by rw [e1]; exact hP) (by rw [e1]; exact b4) (by rw [e1]; exact hb)
    have u1 : υ 1 = σ 1 := (c2 1 (by omega)).trans e1
    rw [e1] at c3
    have st : X11_isClass_b4 p (0, 0, σ) = some (.inl (g', 1, υ)) := by
      unfold X11_isClass_b4
      dsimp only
      rw [if_pos (by decide), a1, Option.bind_some, b2]
      dsimp only [Sum.elim_inr]
      rw [c1, Option.bind_some, pu_lt]
      rfl
    obtain ⟨e2, d1, d2⟩ := pm_turns (σ := υ) (S := pu_mir (σ 1 0) 1 S) (p := p) (g := g') (t1 := (g', 1, υ)) (by rw [u1]; exact hI) (by rw [u1]; exact hP) (by rw [u1]; exact fun q a b => (c3 q a b).trans (pu_mv_mir (hb q a b).1 (hb q a b).2)) (by rw [u1]; exact hb2) b5
    rw [u1] at d2
    rcases d2 with ⟨k, ρ, f1, f2, f3, f4, f5⟩ | ⟨f1, g2, ρ, f2, f3, f4, f5, f6⟩
    · have st2 : X11_isClass_b4 p (g', 1, υ) = some (.inr (.inl ρ)) := by
        unfold X11_isClass_b4
        dsimp only
        rw [if_pos (by decide), d1, Option.bind_some, f4]
        rfl
      rw [jq_lp_inl st, jq_lp_inr st2, Option.bind_some]
      refine ⟨ρ, ?_, fun k hk => (f5 k hk).trans ((c2 k hk).trans (b3 k hk))⟩
      rw [pu_i_n (fun h => by
        have := h.1 1 k (Or.inr rfl) f1 f2
        omega)]
      rfl
    · have v1 : ρ 1 = σ 1 := (f3 1 (by omega)).trans u1
      obtain ⟨ω, w1, w2, w3⟩ := pm_moves (σ := ρ) (p := 1) (S := pu_mir (σ 1 0) 1 S) (by rw [v1]; exact hI) (by rw [v1]; exact hP) (by rw [v1]; exact f4) (by rw [v1]; exact hb2)
      have st2 : X11_isClass_b4 p (g', 1, υ) = some (.inl (g2, 2, ω)) := by
        unfold X11_isClass_b4
        dsimp only
        rw [if_pos (by decide), d1, Option.bind_some, f2]
        dsimp only [Sum.elim_inr]
        rw [w1, Option.bind_some, pu_lt]
        rfl
      have st3 : X11_isClass_b4 p (g2, 2, ω) = some (.inr (.inr (g2, ω))) := by
        unfold X11_isClass_b4
        dsimp only
        rw [if_neg (by decide)]
      rw [jq_lp_inl st, jq_lp_inl st2, jq_lp_inr st3, Option.bind_some]
      refine ⟨ω, ?_, fun k hk => (w2 k hk).trans ((f3 k hk).trans ((c2 k hk).trans (b3 k hk)))⟩
      have all : ∀ f k, f = 0 ∨ f = 1 → 0 ≤ k → k < σ 1 0 → p ≤ pu_hc (σ 1 0) (pu_tk (σ 1 0) k (pu_mir (σ 1 0) f S)) (σ 1 1).toNat := fun f k hf x y => by
        rcases hf with rfl | rfl
        · rw [m0]
          exact b1 k x y
        · exact f1 k x y
      have go : g2 = 1 ↔ pu_cls (σ 1) S p := by
        constructor
        · intro h
          refine ⟨all, ?_⟩
          rcases f6.mp h with h | ⟨k, x, y, z⟩
          · rcases b6.mp h with h | ⟨k, x, y, z⟩
            · exact absurd h (by decide)
            · exact ⟨0, k, Or.inl rfl, x, y, by rw [m0]; exact z⟩
          · exact ⟨1, k, Or.inr rfl, x, y, z⟩
        · rintro ⟨-, f, k, hf, x, y, z⟩
          rcases hf with rfl | rfl
          · rw [m0] at z
            exact f6.mpr (Or.inl (b6.mpr (Or.inr ⟨k, x, y, z⟩)))
          · exact f6.mpr (Or.inr ⟨k, x, y, z⟩)
      rcases f5 with rfl | rfl
      · rw [pu_i_n (fun h => absurd (go.mpr h) (by decide))]
        rfl
      · rw [pu_i_p (go.mp rfl)]
        rfl
end
