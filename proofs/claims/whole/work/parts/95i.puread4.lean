section
variable {T : Int → Int} {L s e x : Int} {m1 m2 σ : jq_M}
/-- both have the same token -/
def pu_tkn (T : Int → Int) (m1 m2 : jq_M) : Prop := ∃ s e, 0 ≤ s ∧ s ≤ e ∧ m1 2 6 = s ∧ m2 0 13 = s ∧ m1 2 4 = e ∧ m2 0 14 = e ∧
  ((m1 2 5 = 0 ∧ m2 0 12 = 0 ∧ m1 2 11 = -1 ∧ m1 2 10 = 0) ∨
   (m1 2 5 = 1 ∧ m2 0 12 = 2 ∧ s < e ∧ (∀ j, s ≤ j → j < e → pu_sm (T j)) ∧ pu_wt (pu_wl T s (e - s).toNat) (m1 2 9) (m1 2 10) (m1 2 11)) ∨
   (m1 2 5 = 2 ∧ m2 0 12 = 3 ∧ s < e ∧ m1 2 11 = -1 ∧ m1 2 10 = 0 ∧ m1 2 7 = m2 0 15 ∧ 0 ≤ m1 2 7 ∧ m1 2 7 ≤ 9999) ∨
   (m1 2 5 = 3 ∧ m2 0 12 = 4 ∧ s < e ∧ m1 2 11 = -1 ∧ m1 2 10 = 0 ∧ m1 2 8 = m2 0 15 ∧ pu_sg4 (m1 2 8)) ∨
   (m1 2 5 = 4 ∧ m2 0 12 = 1 ∧ s < e ∧ m1 2 11 = -1 ∧ m1 2 10 = 0))
def pu_rd (T : Int → Int) (L : Int) (m1 m2 : jq_M) : Prop := pu_sf T L m1 ∧ pu_mf T L m2 ∧ pu_tkn T m1 m2
theorem pa_next (h1 : pu_sf T L m1) (h2 : pu_mf T L m2) (hp : m1 2 4 = m2 0 14) : ∃ τ1 τ2, X5_next m1 = some τ1 ∧ X11_ahead m2 = some τ2 ∧ pu_rd T L τ1 τ2 ∧ pu_f1 m1 τ1 ∧ pu_f2 m2 τ2 ∧ m1 2 4 ≤ τ1 2 6 := by
  obtain ⟨τ1, a1, a2, a3, s, e, a4, a5, a6, a7, a8, a9⟩ := ps_next h1
  obtain ⟨τ2, b1, b2, b3, s', e', b4, b5, b6, b7, b8, b9⟩ := pm_ahead h2
  rw [← hp] at b4
  have es := pu_to_u a4 b4
  subst es
  have s0 : 0 ≤ s := by have := h1.2.2.2.1.1; have := a4.1; omega
  refine ⟨τ1, τ2, a1, b1, ⟨a2, b2, s, e, s0, a7, a5, b5, a6, ?_, ?_⟩, a3, b3, by rw [a5]; exact a4.1⟩
  · rcases a9 with ⟨c1, c2, c3, c4, c5⟩ | ⟨c1, c2, c3, c4, c5⟩ | ⟨c1, c2, c3, c4, c5, c6, c7⟩ | ⟨c1, c2, c3, c4, c5, c6, c7⟩
    · rcases b9 with ⟨d1, d2, d3⟩ | ⟨d1, d2, d3, d4⟩ | ⟨d1, d2, d3, d4, d5⟩ | ⟨d1, d2, d3, d4, d5⟩ <;> omega
    · rcases b9 with ⟨d1, d2, d3⟩ | ⟨d1, d2, d3, d4⟩ | ⟨d1, d2, d3, d4, d5⟩ | ⟨d1, d2, d3, d4, d5⟩
      · omega
      · rw [b6, pu_to_u c3 d3]
      · exact absurd c2 d2
      · exact absurd c2 d2
    · rcases b9 with ⟨d1, d2, d3⟩ | ⟨d1, d2, d3, d4⟩ | ⟨d1, d2, d3, d4, d5⟩ | ⟨d1, d2, d3, d4, d5⟩
      · omega
      · exact absurd d2 c2
      · rw [b6, pu_to_u c4 d4]
      · exact absurd c3 d3
    · rcases b9 with ⟨d1, d2, d3⟩ | ⟨d1, d2, d3, d4⟩ | ⟨d1, d2, d3, d4, d5⟩ | ⟨d1, d2, d3, d4, d5⟩
      · omega
      · exact absurd d2 c2
      · exact absurd d3 c3
      · omega
  · rcases a9 with ⟨c1, c2, c3, c4, c5⟩ | ⟨c1, c2, c3, c4, c5⟩ | ⟨c1, c2, c3, c4, c5, c6, c7⟩ | ⟨c1, c2, c3, c4, c5, c6, c7⟩
    · rcases b9 with ⟨d1, d2, d3⟩ | ⟨d1, d2, d3, d4⟩ | ⟨d1, d2, d3, d4, d5⟩ | ⟨d1, d2, d3, d4, d5⟩
      · exact Or.inl ⟨c3, d3, c4, c5⟩
      · omega
      · omega
      · omega
    · rcases b9 with ⟨d1, d2, d3⟩ | ⟨d1, d2, d3, d4⟩ | ⟨d1, d2, d3, d4, d5⟩ | ⟨d1, d2, d3, d4, d5⟩
      · omega
      · refine Or.inr (Or.inl ⟨c4, d4, ?_, c3.2.2.1, c5⟩)
        apply Classical.byContradiction
        intro g
        have : s = e := by omega
        exact c3.2.2.2 (by omega) (this ▸ c2)
      · exact absurd c2 d2
      · exact absurd c2 d2
    · rcases b9 with ⟨d1, d2, d3⟩ | ⟨d1, d2, d3, d4⟩ | ⟨d1, d2, d3, d4, d5⟩ | ⟨d1, d2, d3, d4, d5⟩
      · omega
      · exact absurd d2 c2
      · have ee := pu_to_u c4 d4
        have se : s < e := by
          apply Classical.byContradiction
          intro g
          have : s = e := by omega
          exact c4.2.2.2 (by omega) (this ▸ c3)
        rcases c7 with ⟨f1, f2⟩ | ⟨f1, f2, f3⟩
        · rcases d5 with ⟨g1, g2⟩ | ⟨g1, g2, g3⟩
          · exact Or.inr (Or.inr (Or.inr (Or.inr ⟨f2, g2, se, c5, c6⟩)))
          · omega
        · rcases d5 with ⟨g1, g2⟩ | ⟨g1, g2, g3⟩
          · omega
          · have bb := pu_nv_b (T := T) (s := s) (e - s).toNat (fun j x y => c4.2.2.1 j x (by omega))
            have t4 : (10 : Int) ^ (e - s).toNat ≤ 10000 := by
              rcases (show (e - s).toNat = 1 ∨ (e - s).toNat = 2 ∨ (e - s).toNat = 3 ∨ (e - s).toNat = 4 by omega) with g | g | g | g <;> rw [g] <;> decide
            rw [← ee, ← f3] at g3
            rw [← f3] at bb
            exact Or.inr (Or.inr (Or.inl ⟨f2, g2, se, c5, c6, g3.symm, bb.1, by omega⟩))
      · exact absurd c3 d3
    · rcases b9 with ⟨d1, d2, d3⟩ | ⟨d1, d2, d3, d4⟩ | ⟨d1, d2, d3, d4, d5⟩ | ⟨d1, d2, d3, d4, d5⟩
      · omega
      · exact absurd d2 c2
      · exact absurd d3 c3
      · rcases c7 with ⟨f1, f2, f3⟩ | ⟨f1, f2⟩
        · rcases d5 with ⟨g1, g2, g3⟩ | ⟨g1, g2⟩
          · exact Or.inr (Or.inr (Or.inr (Or.inl ⟨f2, g2, by omega, c5, c6, by rw [f3, g3], by rw [f3]; exact f1⟩)))
          · exact absurd f1 g1
        · rcases d5 with ⟨g1, g2, g3⟩ | ⟨g1, g2⟩
          · exact absurd g1 f1
          · exact Or.inr (Or.inr (Or.inr (Or.inr ⟨f2, g2, by omega, c5, c6⟩)))
/-! the reference's list of words -/
def pu_kc (n : Nat) : Int := (jq_zM.2.2.2.2.2.getD n 0).toInt
def pu_ke : Nat → Nat → Nat
  | 0, k => k
  | f + 1, k => if pu_kc k = 32 then k else pu_ke f (k + 1)
def pu_kp : List Nat := [1, 8, 15, 21, 27, 33, 41, 47, 50, 57, 64, 70, 76, 81, 85, 90, 95, 100, 104, 110, 119, 123, 128, 133, 137, 142, 148, 155, 159]
/-- the class's number of the reference's words, and back -/
def pu_cl : List Nat := [0, 1, 2, 5, 6, 10, 3, 4, 7, 8, 9, 11, 12, 13, 14, 15, 16, 17, 18, 19, 20, 21, 25, 26, 27, 22, 23, 24]
def pu_rl : List Nat := [0, 1, 2, 6, 7, 3, 4, 8, 9, 10, 5, 11, 12, 13, 14, 15, 16, 17, 18, 19, 20, 21, 25, 26, 27, 22, 23, 24]
def pu_KC : Int → Int := fun j => pu_kc j.toNat
theorem pu_kcl : ∀ i : Nat, i < 159 → J0_charAt_5068e jq_zM (i : Int) (fun _ _ => 0) = some (pu_kc i) := by decide +kernel
theorem pm_ch {i : Nat} {k : Int} (h : k = (i : Int)) (hi : i < 159) : J0_charAt_5068e jq_zM k σ = some (pu_kc i) := by
  rw [h]
  exact pu_kcl i hi
theorem pm_len : J0_length_8abf5 jq_zM σ = some 159 := by
  show J0_length_8abf5 jq_zM (fun _ _ => 0) = some 159
  decide +kernel
theorem pu_kp1 : ∀ n : Nat, n < 28 → pu_ke 12 (pu_kp.getD n 0) + 1 = pu_kp.getD (n + 1) 0 ∧ pu_kc (pu_ke 12 (pu_kp.getD n 0)) = 32 ∧ pu_ke 12 (pu_kp.getD n 0) < 159 ∧ pu_kp.getD n 0 < pu_ke 12 (pu_kp.getD n 0) ∧ pu_kw[pu_cl.getD n 0]? = some (pu_wl pu_KC ((pu_kp.getD n 0 : Nat) : Int) (pu_ke 12 (pu_kp.getD n 0) - pu_kp.getD n 0)) := by decide +kernel
theorem pu_cl1 : ∀ n : Nat, n < 28 → pu_cl.getD n 0 < 28 ∧ pu_rl.getD (pu_cl.getD n 0) 0 = n ∧ pu_rl.getD n 0 < 28 ∧ pu_cl.getD (pu_rl.getD n 0) 0 = n := by decide +kernel
end
