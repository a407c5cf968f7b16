section
variable {A S S' : Int → Int} {κ m m1 m2 τ1 τ2 σ σ1 σ2 : jq_M} {o n v x k a b f p mv K P l y s T : Int}
noncomputable def pu_vl (A : Int → Int) (a b : Int) (t : Nat) (f : Int) (S : Int → Int) (v : Int) : Int := if v < A 0 then pu_bl A a b t (1 - f) (pu_sh S (pu_mo a b f) v) else pu_bl A a b t (1 - f) S
noncomputable def pu_rs (A : Int → Int) (a b : Int) (t : Nat) (f : Int) (S : Int → Int) (v s : Int) : Int := if v = S (pu_mo a b f) then s else pu_wg f s (pu_vl A a b t f S v)
noncomputable def pu_rf (A : Int → Int) (a b : Int) (t : Nat) (f : Int) (S : Int → Int) (n : Nat) : Int := pu_fold 1000000 (fun i s => pu_rs A a b t f S (i : Int) s) n
theorem pu_vl_b (hI : pu_inv A) {t : Nat} : -360 ≤ pu_vl A a b t f S v ∧ pu_vl A a b t f S v ≤ 360 := by
  unfold pu_vl
  split
  · exact pu_bl_b hI _ _ _
  · exact pu_bl_b hI _ _ _
theorem pu_wg_b (h : s = 1000000 ∨ -360 ≤ s ∧ s ≤ 360) (h1 : -360 ≤ y) (h2 : y ≤ 360) : -360 ≤ pu_wg f s y ∧ pu_wg f s y ≤ 360 := by
  unfold pu_wg
  split
  · omega
  · split
    · split <;> omega
    · split <;> omega
/-- in the reference's order the same comes out -/
theorem pu_rf_eq (hI : pu_inv A) {t : Nat} (hm : S (pu_mo a b f) < A 0) : pu_rf A a b t f S ((A 0).toNat + 1) = pu_bl A a b (t + 1) f S := by
  have i0 := hI.1
  have key : ∀ n : Nat, n ≤ (A 0).toNat → (pu_rf A a b t f S n = 1000000 ∧ pu_fold (pu_bl A a b t (1 - f) S) (fun i s => if (i : Int) = S (pu_mo a b f) then s else pu_mm f s (pu_bl A a b t (1 - f) (pu_sh S (pu_mo a b f) (i : Int)))) n = pu_bl A a b t (1 - f) S) ∨ ((-360 ≤ pu_rf A a b t f S n ∧ pu_rf A a b t f S n ≤ 360) ∧ pu_fold (pu_bl A a b t (1 - f) S) (fun i s => if (i : Int) = S (pu_mo a b f) then s else pu_mm f s (pu_bl A a b t (1 - f) (pu_sh S (pu_mo a b f) (i : Int)))) n = pu_mm f (pu_bl A a b t (1 - f) S) (pu_rf A a b t f S n)) := by
    intro n
    induction n with
    | zero => intro _; exact Or.inl ⟨rfl, rfl⟩
    | succ n ih =>
      intro hn
      have h := ih (by omega)
      have e : pu_rf A a b t f S (n + 1) = pu_rs A a b t f S (n : Int) (pu_rf A a b t f S n) := rfl
      rw [pu_fold_s, e]
      unfold pu_rs
      by_cases z : (n : Int) = S (pu_mo a b f)
      · rw [if_pos z, if_pos z]
        exact h
      · rw [if_neg z, if_neg z]
        have vb := pu_bl_b (a := a) (b := b) hI t (1 - f) (pu_sh S (pu_mo a b f) (n : Int))
        have sb := pu_bl_b (a := a) (b := b) hI t (1 - f) S
        have ve : pu_vl A a b t f S (n : Int) = pu_bl A a b t (1 - f) (pu_sh S (pu_mo a b f) (n : Int)) := if_pos (by omega)
        rw [ve]
        generalize pu_bl A a b t (1 - f) (pu_sh S (pu_mo a b f) (n : Int)) = w at vb
        right
        rcases h with ⟨h1, h2⟩ | ⟨h1, h2⟩
        · rw [h1, h2]
          exact ⟨pu_wg_b (Or.inl rfl) vb.1 vb.2, by unfold pu_wg; rw [if_pos rfl]⟩
        · rw [h2]
          refine ⟨pu_wg_b (Or.inr h1) vb.1 vb.2, ?_⟩
          generalize pu_rf A a b t f S n = r at h1
          generalize pu_bl A a b t (1 - f) S = u at sb
          unfold pu_wg
          rw [if_neg (show ¬ r = 1000000 by omega)]
          unfold pu_mm jq_min jq_max
          by_cases q : f = 0
          · simp only [if_pos q]
            by_cases q1 : r < u
            · simp only [if_pos q1]
              by_cases q2 : w < r
              · simp only [if_pos q2]
                rw [if_pos (show w < u by omega)]
              · simp only [if_neg q2]
                rw [if_pos q1]
            · simp only [if_neg q1]
              by_cases q2 : w < r
              · simp only [if_pos q2]
              · simp only [if_neg q2]
                rw [if_neg (show ¬ w < u by omega), if_neg q1]
          · simp only [if_neg q]
            by_cases q1 : u < r
            · simp only [if_pos q1]
              by_cases q2 : r < w
              · simp only [if_pos q2]
                rw [if_pos (show u < w by omega)]
              · simp only [if_neg q2]
                rw [if_pos q1]
            · simp only [if_neg q1]
              by_cases q2 : r < w
              · simp only [if_pos q2]
              · simp only [if_neg q2]
                rw [if_neg (show ¬ u < w by omega), if_neg q1]
  have h := key (A 0).toNat (Nat.le_refl _)
  have e : pu_rf A a b t f S ((A 0).toNat + 1) = pu_rs A a b t f S (((A 0).toNat : Nat) : Int) (pu_rf A a b t f S (A 0).toNat) := rfl
  have e2 : pu_bl A a b (t + 1) f S = pu_fold (pu_bl A a b t (1 - f) S) (fun i s => if (i : Int) = S (pu_mo a b f) then s else pu_mm f s (pu_bl A a b t (1 - f) (pu_sh S (pu_mo a b f) (i : Int)))) (A 0).toNat := rfl
  rw [e, e2]
  unfold pu_rs
  have sb := pu_bl_b (a := a) (b := b) hI t (1 - f) S
  have ve : pu_vl A a b t f S (((A 0).toNat : Nat) : Int) = pu_bl A a b t (1 - f) S := if_neg (by omega)
  rw [if_neg (by omega), ve]
  rcases h with ⟨h1, h2⟩ | ⟨h1, h2⟩
  · rw [h1, h2]
    unfold pu_wg
    rw [if_pos rfl]
  · rw [h2]
    generalize pu_rf A a b t f S (A 0).toNat = r at h1
    generalize pu_bl A a b t (1 - f) S = u at sb
    unfold pu_wg pu_mm jq_min jq_max
    rw [if_neg (show ¬ r = 1000000 by omega)]
    by_cases q : f = 0
    · rw [if_pos q, if_pos q]
      split
      · rw [if_neg (by omega)]
      · split <;> omega
    · rw [if_neg q, if_neg q]
      split
      · rw [if_neg (by omega)]
      · split <;> omega
/-- what of the reference a game may change -/
def pu_gf (κ m : jq_M) : Prop := (∀ k, k ≠ 0 → k ≠ 9 → k ≠ 10 → k ≠ 11 → k ≠ 12 → m k = κ k) ∧ ∀ j, j ≠ 27 → m 0 j = κ 0 j
/-- a PLACE is tried: up to what it leads to -/
theorem pm_head (hI : pu_inv (κ 1)) (hG : pu_gf κ m) (hk : pu_okr (κ 1 1) (κ 1 0) S) (l0 : 0 ≤ l) (l1 : l < 3) (hf : f = 1 ∧ l % 2 = 0 ∨ f = 0 ∧ l % 2 = 1) (ha : 0 ≤ a) (ha1 : a < κ 1 1) (hb : 0 ≤ b) (hb1 : b < κ 1 1) (hS : ∀ q, 0 ≤ q → q < κ 1 1 → m 12 (5 * l + q) = S q) (v0 : 0 ≤ v) (hv : m 10 l = v - 1) :
    (v ≤ κ 1 0 → v = S (pu_mo a b f) → ∃ υ, X11_playing_b54 a b T (l, m) = some (.inl (l, υ)) ∧ pu_gf κ υ ∧ υ 12 = m 12 ∧ υ 11 = m 11 ∧ (∀ j, j ≠ l → υ 10 j = m 10 j) ∧ υ 10 l = v ∧ υ 0 = m 0) ∧
    (v ≤ κ 1 0 → v ≠ S (pu_mo a b f) → ∃ υ, X11_playing_b54 a b T (l, m) = X11_playing_j181 a b T l υ ∧ pu_gf κ υ ∧ υ 12 = m 12 ∧ υ 11 = m 11 ∧ (∀ j, j ≠ l → υ 10 j = m 10 j) ∧ υ 10 l = v ∧ υ 0 = m 0 ∧ ∀ q, 0 ≤ q → q < κ 1 1 → υ 9 q = (if v < κ 1 0 then pu_sh S (pu_mo a b f) v else S) q) ∧
    (v = κ 1 0 + 1 → ∃ υ, X11_playing_b54 a b T (l, m) = (if l - 1 < 0 then some (.inl (l - 1, υ)) else (jq_ld υ 11 4 l).bind fun v33 => (X11_weighs (l - 1) v33 υ).bind fun s34 => some (.inl (l - 1, s34))) ∧ pu_gf κ υ ∧ υ 12 = m 12 ∧ υ 11 = m 11 ∧ (∀ j, j ≠ l → υ 10 j = m 10 j) ∧ υ 0 = m 0) := by
  have e1 : m 1 = κ 1 := hG.1 1 (by omega) (by omega) (by omega) (by omega) (by omega)
  have i0 := hI.1
  have i1 := hI.2.1
  have mo : 0 ≤ pu_mo a b f ∧ pu_mo a b f < κ 1 1 := by
    unfold pu_mo
    split
    · exact ⟨hb, hb1⟩
    · exact ⟨ha, ha1⟩
  obtain ⟨τ, a1, a2, a3⟩ := pm_givesSeats (m := m) (l := l) l0 (by omega)
  have r2 := pu_rem (a := l) (b := 2) l0 (by decide) (by decide)
  have core : v ≤ 7 → X11_playing_b54 a b T (l, m) = if κ 1 0 < v then (if l - 1 < 0 then some (.inl (l - 1, jq_st τ 10 l v)) else (jq_ld (jq_st τ 10 l v) 11 4 l).bind fun v33 => (X11_weighs (l - 1) v33 (jq_st τ 10 l v)).bind fun s34 => some (.inl (l - 1, s34))) else X11_playing_j130 a b T l (pu_mo a b f) (jq_st τ 10 l v) := fun v7 => by
    unfold X11_playing_b54
    dsimp only
    rw [if_neg (show ¬ l < 0 by omega), a1, Option.bind_some, pu_ld (by omega) (by omega), Option.bind_some, a2 10 (by omega), hv, pu_sa (by omega) (by omega), Option.bind_some, pu_w (x := v - 1 + 1) (by omega) (by omega), show v - 1 + 1 = v by omega, pu_ld (by omega) (by omega), Option.bind_some, pu_st_a, pu_ld (by omega) (by omega), Option.bind_some, pu_st_ne (show (1 : Int) ≠ 10 by omega), a2 1 (by omega), e1]
    by_cases z : κ 1 0 < v
    · rw [if_pos z, if_pos z, pu_lt, pu_w (x := l + -1) (by omega) (by omega), show l + -1 = l - 1 by omega, pu_w (x := l - 1 + 1) (by omega) (by omega), show l - 1 + 1 = l by omega]
    · rw [if_neg z, if_neg z, r2, Option.bind_some]
      rcases hf with ⟨rfl, h2⟩ | ⟨rfl, h2⟩
      · rw [if_pos h2]
        rfl
      · rw [if_neg (by omega)]
        rfl
  have hG2 : pu_gf κ (jq_st τ 10 l v) := ⟨fun k c d e f g => by rw [pu_st_ne e, a2 k d, hG.1 k c d e f g], fun j hj => by rw [pu_st_ne (by omega), a2 0 (by omega), hG.2 j hj]⟩
  have g12 : jq_st τ 10 l v 12 = m 12 := (pu_st_ne (by omega)).trans (a2 12 (by omega))
  have g11 : jq_st τ 10 l v 11 = m 11 := (pu_st_ne (by omega)).trans (a2 11 (by omega))
  have g10 : ∀ j, j ≠ l → jq_st τ 10 l v 10 j = m 10 j := fun j hj => (pu_st_b hj).trans (by rw [a2 10 (by omega)])
  have gl : jq_st τ 10 l v 10 l = v := pu_st_a
  have g0 : jq_st τ 10 l v 0 = m 0 := (pu_st_ne (by omega)).trans (a2 0 (by omega))
  have g1 : jq_st τ 10 l v 1 = κ 1 := (pu_st_ne (by omega)).trans ((a2 1 (by omega)).trans e1)
  have g9 : ∀ q, 0 ≤ q → q < κ 1 1 → jq_st τ 10 l v 9 q = S q := fun q q0 q1 => by rw [pu_st_ne (by omega), a3 q q0 (by omega), hS q q0 q1]
  generalize jq_st τ 10 l v = υ at core hG2 g12 g11 g10 gl g0 g1 g9
  refine ⟨fun c1 c2 => ⟨υ, ?_, hG2, g12, g11, g10, gl, g0⟩, fun c1 c2 => ?_, fun c1 => ⟨υ, ?_, hG2, g12, g11, g10, g0⟩⟩
  · rw [core (by omega), if_neg (by omega)]
    unfold X11_playing_j130
    rw [pu_ld (by omega) (by omega), Option.bind_some, pu_ld (by omega) (by omega), Option.bind_some, gl, g9 _ mo.1 mo.2, if_pos c2]
  · rw [core (by omega), if_neg (by omega)]
    unfold X11_playing_j130
    rw [pu_ld (σ := υ) (by omega) (by omega), Option.bind_some, pu_ld (by omega) (by omega), Option.bind_some, gl, g9 _ mo.1 mo.2, if_neg c2, Option.bind_some, pu_ld (by omega) (by omega), Option.bind_some, g1]
    by_cases z : v < κ 1 0
    · obtain ⟨ρ, d1, d2, d3⟩ := pm_changes (m := υ) (S := S) (P := κ 1 0) (mv := pu_mo a b f) (p := v) (by rw [g1]; exact hI) (by rw [g1]; exact g9) (by rw [g1]; exact hk) mo.1 (by rw [g1]; exact mo.2) v0
      rw [if_pos z, Option.bind_some, d1, Option.bind_some]
      refine ⟨ρ, rfl, ⟨fun k c d e f g => by rw [d2 k d, hG2.1 k c d e f g], fun j hj => by rw [d2 0 (by omega), hG2.2 j hj]⟩, (d2 12 (by omega)).trans g12, (d2 11 (by omega)).trans g11, fun j hj => by rw [d2 10 (by omega), g10 j hj], by rw [d2 10 (by omega), gl], (d2 0 (by omega)).trans g0, fun q q0 q1 => ?_⟩
      rw [if_pos z]
      exact d3 q q0 (by rw [g1]; exact q1)
    · rw [if_neg z]
      refine ⟨υ, rfl, hG2, g12, g11, g10, gl, g0, fun q q0 q1 => ?_⟩
      rw [if_neg z]
      exact g9 q q0 q1
  · rw [core (by omega), if_pos (by omega)]
end
