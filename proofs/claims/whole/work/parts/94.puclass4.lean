section
variable {A S S' : Int → Int} {m σ : jq_M} {n v x k q p P o f g : Int} {t1 : Int × Int × jq_M}
/-- everybody signs -/
def pu_gd (A S : Int → Int) : Prop := pu_sg A S = jq_w (jq_shl 1 (A 1) - 1)
/-- once around -/
theorem pm_turns (hI : pu_inv (σ 1)) (hP : 3 ≤ σ 1 0) (hS : ∀ q, 0 ≤ q → q < σ 1 1 → σ 9 q = S q) (hb : ∀ q, 0 ≤ q → q < σ 1 1 → 0 ≤ S q ∧ S q < σ 1 0) (hg : g = 0 ∨ g = 1) : ∃ e, jq_lp (X11_isClass_b12 p t1) (g, 0, σ) = some e ∧ ((∃ k τ, 0 ≤ k ∧ k < σ 1 0 ∧ pu_hc (σ 1 0) (pu_tk (σ 1 0) k S) (σ 1 1).toNat < p ∧ e = .inl τ ∧ ∀ k, k ≠ 9 → τ k = σ k) ∨ ((∀ k, 0 ≤ k → k < σ 1 0 → p ≤ pu_hc (σ 1 0) (pu_tk (σ 1 0) k S) (σ 1 1).toNat) ∧ ∃ g' τ, e = .inr (g', τ) ∧ (∀ k, k ≠ 9 → τ k = σ k) ∧ (∀ q, 0 ≤ q → q < σ 1 1 → τ 9 q = S q) ∧ (g' = 0 ∨ g' = 1) ∧ (g' = 1 ↔ g = 1 ∨ ∃ k, 0 ≤ k ∧ k < σ 1 0 ∧ pu_gd (σ 1) (pu_tk (σ 1 0) k S)))) := by
  have i0 := hI.1
  refine pu_lpE (f := X11_isClass_b12 p t1) (s := (g, (0 : Int), σ)) (fun i s => s.2.1 = (i : Int) ∧ (∀ k, k ≠ 9 → s.2.2 k = σ k) ∧ (∀ q, 0 ≤ q → q < σ 1 1 → s.2.2 9 q = pu_tk (σ 1 0) s.2.1 S q) ∧ (∀ k, 0 ≤ k → k < s.2.1 → p ≤ pu_hc (σ 1 0) (pu_tk (σ 1 0) k S) (σ 1 1).toNat) ∧ (s.1 = 0 ∨ s.1 = 1) ∧ (s.1 = 1 ↔ g = 1 ∨ ∃ k, 0 ≤ k ∧ k < s.2.1 ∧ pu_gd (σ 1) (pu_tk (σ 1 0) k S))) (fun e => (∃ k τ, 0 ≤ k ∧ k < σ 1 0 ∧ pu_hc (σ 1 0) (pu_tk (σ 1 0) k S) (σ 1 1).toNat < p ∧ e = .inl τ ∧ ∀ k, k ≠ 9 → τ k = σ k) ∨ ((∀ k, 0 ≤ k → k < σ 1 0 → p ≤ pu_hc (σ 1 0) (pu_tk (σ 1 0) k S) (σ 1 1).toNat) ∧ ∃ g' τ, e = .inr (g', τ) ∧ (∀ k, k ≠ 9 → τ k = σ k) ∧ (∀ q, 0 ≤ q → q < σ 1 1 → τ 9 q = S q) ∧ (g' = 0 ∨ g' = 1) ∧ (g' = 1 ↔ g = 1 ∨ ∃ k, 0 ≤ k ∧ k < σ 1 0 ∧ pu_gd (σ 1) (pu_tk (σ 1 0) k S)))) (σ 1 0).toNat ⟨rfl, fun _ _ => rfl, fun q a b => (hS q a b).trans (pu_tk_0 (hb q a b).1 (hb q a b).2).symm, fun k a b => by dsimp only at b; omega, hg, ⟨fun h => Or.inl h, fun h => by rcases h with h | ⟨k, a, b, -⟩; exact h; dsimp only at b; omega⟩⟩ (fun i s hs hi => ?_) (fun e h1 h2 => ⟨e, h1, h2⟩)
  obtain ⟨s1, s2, s3⟩ := s
  obtain ⟨h1, h2, h3, h4, h5, h6⟩ := hs
  dsimp only at h1 h2 h3 h4 h5 h6
  have k0 : 0 ≤ s2 := by omega
  have e1 : s3 1 = σ 1 := h2 1 (by omega)
  have ww : s2 < σ 1 0 → jq_w (s2 + 1) = s2 + 1 := fun w => by
    clear h6 h5 h4 h3
    exact pu_w (by omega) (by omega)
  have ii : s2 < σ 1 0 → i < (σ 1 0).toNat := fun w => by
    clear h6 h5 h4 h3
    omega
  have jj : s2 + 1 = ((i + 1 : Nat) : Int) := by
    clear h6 h5 h4 h3
    omega
  unfold X11_isClass_b12
  dsimp only
  rw [pu_ld (by omega) (by omega), Option.bind_some, e1]
  by_cases w : s2 < σ 1 0
  · have cd := pm_codeOf (σ := s3) (S := pu_tk (σ 1 0) s2 S) (by rw [e1]; exact hI) (by rw [e1]; exact hP) (by rw [e1]; exact h3) (by rw [e1]; exact fun q a b => pu_tk_b hP)
    have gd := pm_isGood (σ := s3) (by rw [e1]; exact hI)
    obtain ⟨τ, m1, m2, m3⟩ := pm_moves (σ := s3) (p := 0) (S := pu_tk (σ 1 0) s2 S) (by rw [e1]; exact hI) (by rw [e1]; exact hP) (by rw [e1]; exact h3) (by rw [e1]; exact fun q a b => pu_tk_b hP)
    rw [e1, pu_sg_cg hI (S := s3 9) (S' := pu_tk (σ 1 0) s2 S) h3] at gd
    rw [e1] at cd m3
    rw [if_pos w, cd, Option.bind_some]
    by_cases z : pu_hc (σ 1 0) (pu_tk (σ 1 0) s2 S) (σ 1 1).toNat < p
    · left
      rw [if_pos z]
      exact ⟨_, rfl, Or.inl ⟨s2, s3, k0, w, z, rfl, h2⟩⟩
    · right
      have fin : ∀ v, (v = 0 ∨ v = 1) → (v = 1 ↔ s1 = 1 ∨ pu_gd (σ 1) (pu_tk (σ 1 0) s2 S)) → i < (σ 1 0).toNat ∧ ∃ s', X11_isClass_j49 p t1 s2 v s3 = some (.inl s') ∧ s'.2.1 = ((i + 1 : Nat) : Int) ∧ (∀ k, k ≠ 9 → s'.2.2 k = σ k) ∧ (∀ q, 0 ≤ q → q < σ 1 1 → s'.2.2 9 q = pu_tk (σ 1 0) s'.2.1 S q) ∧ (∀ k, 0 ≤ k → k < s'.2.1 → p ≤ pu_hc (σ 1 0) (pu_tk (σ 1 0) k S) (σ 1 1).toNat) ∧ (s'.1 = 0 ∨ s'.1 = 1) ∧ (s'.1 = 1 ↔ g = 1 ∨ ∃ k, 0 ≤ k ∧ k < s'.2.1 ∧ pu_gd (σ 1) (pu_tk (σ 1 0) k S)) := fun v hv hw => by
        unfold X11_isClass_j49
        rw [m1, Option.bind_some, pu_lt, ww w]
        refine ⟨ii w, _, rfl, jj, fun k hk => (m2 k hk).trans (h2 k hk), fun q a b => (m3 q a b).trans pu_tk_s, fun k a b => ?_, hv, hw.trans ?_⟩
        · dsimp only at b
          by_cases u : k = s2
          · rw [u]
            omega
          · exact h4 k a (by omega)
        · rw [h6]
          dsimp only
          constructor
          · rintro ((h | ⟨k, a, b, c⟩) | h)
            · exact Or.inl h
            · exact Or.inr ⟨k, a, by omega, c⟩
            · exact Or.inr ⟨s2, k0, by omega, h⟩
          · rintro (h | ⟨k, a, b, c⟩)
            · exact Or.inl (Or.inl h)
            · by_cases u : k = s2
              · exact Or.inr (u ▸ c)
              · exact Or.inl (Or.inr ⟨k, a, by omega, c⟩)
      rw [if_neg z]
      by_cases y : s1 = 0
      · rw [if_pos y, gd, Option.bind_some]
        by_cases u : pu_gd (σ 1) (pu_tk (σ 1 0) s2 S)
        · have u' : pu_i (pu_sg (σ 1) (pu_tk (σ 1 0) s2 S) = jq_w (jq_shl 1 (σ 1 1) - 1)) = 1 := pu_i_p u
          rw [u', if_neg (show ¬ ((1 : Int) = 0) by decide)]
          exact fin 1 (Or.inr rfl) ⟨fun _ => Or.inr u, fun _ => rfl⟩
        · have u' : pu_i (pu_sg (σ 1) (pu_tk (σ 1 0) s2 S) = jq_w (jq_shl 1 (σ 1 1) - 1)) = 0 := pu_i_n u
          rw [u', if_pos rfl]
          exact fin 0 (Or.inl rfl) ⟨fun h => absurd h (by decide), fun h => by rcases h with h | h; omega; exact absurd h u⟩
      · rw [if_neg y]
        exact fin 1 (Or.inr rfl) ⟨fun _ => Or.inl (by omega), fun _ => rfl⟩
  · left
    rw [if_neg w]
    have es : s2 = σ 1 0 := by
      clear h6 h5 h4 h3 ww
      omega
    rw [es] at h3 h4 h6
    exact ⟨_, rfl, Or.inr ⟨h4, s1, s3, rfl, h2, fun q a b => by rw [h3 q a b, pu_tk_P (hb q a b).1 (hb q a b).2], h5, h6⟩⟩
end
