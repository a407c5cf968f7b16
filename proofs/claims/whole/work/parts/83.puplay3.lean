section
variable {A S S' : Int → Int} {m m1 m2 τ1 τ2 σ σ1 σ2 : jq_M} {o n v x k a b f p mv K P l y : Int}
theorem pm_givesSeats (l0 : 0 ≤ l) (l1 : l < 4) : ∃ τ, X11_givesSeats l m = some τ ∧ (∀ k, k ≠ 9 → τ k = m k) ∧ ∀ q, 0 ≤ q → q < 5 → τ 9 q = m 12 (5 * l + q) := by
  unfold X11_givesSeats
  refine pu_lpE (f := X11_givesSeats_b2 l) (s := ((0 : Int), m)) (fun i t => t.1 = (i : Int) ∧ (∀ k, k ≠ 9 → t.2 k = m k) ∧ ∀ q, 0 ≤ q → q < t.1 → t.2 9 q = m 12 (5 * l + q)) (fun τ => (∀ k, k ≠ 9 → τ k = m k) ∧ ∀ q, 0 ≤ q → q < 5 → τ 9 q = m 12 (5 * l + q)) 5 ⟨rfl, fun _ _ => rfl, fun j x y => by dsimp only at y; omega⟩ (fun i t ht hi => ?_) (fun e h1 h2 => ⟨e, by rw [h1]; rfl, h2⟩)
  obtain ⟨t1, t2⟩ := t
  obtain ⟨hk, q1, q2⟩ := ht
  dsimp only at hk q1 q2
  have k0 : 0 ≤ t1 := by omega
  unfold X11_givesSeats_b2
  dsimp only
  by_cases hl : t1 < 5
  · rw [if_pos hl, pu_w (x := 5 * l) (by omega) (by omega), pu_w (x := 5 * l + t1) (by omega) (by omega), pu_ld (by omega) (by omega), Option.bind_some, pu_sa (by omega) (by omega), Option.bind_some, pu_lt, pu_w (x := t1 + 1) (by omega) (by omega)]
    refine Or.inr ⟨by omega, _, rfl, by dsimp only; omega, fun k hk => (pu_st_ne hk).trans (q1 k hk), fun j x y => ?_⟩
    dsimp only at y ⊢
    by_cases z : j = t1
    · rw [z, pu_st_a, q1 12 (by omega)]
    · rw [pu_st_b z]
      exact q2 j x (by omega)
  · rw [if_neg hl]
    exact Or.inl ⟨_, rfl, q1, fun j x y => q2 j x (by omega)⟩
theorem pm_keepsSeats (l0 : 0 ≤ l) (l1 : l < 4) : ∃ τ, X11_keepsSeats l m = some τ ∧ (∀ k, k ≠ 12 → τ k = m k) ∧ (∀ q, 0 ≤ q → q < 5 → τ 12 (5 * l + q) = m 9 q) ∧ ∀ j, ¬ (5 * l ≤ j ∧ j < 5 * l + 5) → τ 12 j = m 12 j := by
  unfold X11_keepsSeats
  refine pu_lpE (f := X11_keepsSeats_b2 l) (s := ((0 : Int), m)) (fun i t => t.1 = (i : Int) ∧ (∀ k, k ≠ 12 → t.2 k = m k) ∧ (∀ q, 0 ≤ q → q < t.1 → t.2 12 (5 * l + q) = m 9 q) ∧ ∀ j, ¬ (5 * l ≤ j ∧ j < 5 * l + 5) → t.2 12 j = m 12 j) (fun τ => (∀ k, k ≠ 12 → τ k = m k) ∧ (∀ q, 0 ≤ q → q < 5 → τ 12 (5 * l + q) = m 9 q) ∧ ∀ j, ¬ (5 * l ≤ j ∧ j < 5 * l + 5) → τ 12 j = m 12 j) 5 ⟨rfl, fun _ _ => rfl, fun j x y => by dsimp only at y; omega, fun _ _ => rfl⟩ (fun i t ht hi => ?_) (fun e h1 h2 => ⟨e, by rw [h1]; rfl, h2⟩)
  obtain ⟨t1, t2⟩ := t
  obtain ⟨hk, q1, q2, q3⟩ := ht
  dsimp only at hk q1 q2 q3
  have k0 : 0 ≤ t1 := by omega
  unfold X11_keepsSeats_b2
  dsimp only
  by_cases hl : t1 < 5
  · rw [if_pos hl, pu_ld (by omega) (by omega), Option.bind_some, pu_w (x := 5 * l) (by omega) (by omega), pu_w (x := 5 * l + t1) (by omega) (by omega), pu_sa (by omega) (by omega), Option.bind_some, pu_lt, pu_w (x := t1 + 1) (by omega) (by omega)]
    refine Or.inr ⟨by omega, _, rfl, by dsimp only; omega, fun k hk => (pu_st_ne hk).trans (q1 k hk), fun j x y => ?_, fun j hj => (pu_st_b (by omega)).trans (q3 j hj)⟩
    dsimp only at y ⊢
    by_cases z : j = t1
    · rw [z, pu_st_a, q1 9 (by omega)]
    · rw [pu_st_b (by omega)]
      exact q2 j x (by omega)
  · rw [if_neg hl]
    exact Or.inl ⟨_, rfl, q1, fun j x y => q2 j x (by omega), q3⟩
/-- the reference's move -/
theorem pm_changes (hI : pu_inv (m 1)) (hS : ∀ q, 0 ≤ q → q < m 1 1 → m 9 q = S q) (hk : pu_okr (m 1 1) P S) (m0 : 0 ≤ mv) (m1 : mv < m 1 1) (p0 : 0 ≤ p) : ∃ τ, X11_changes mv p m = some τ ∧ (∀ k, k ≠ 9 → τ k = m k) ∧ ∀ q, 0 ≤ q → q < m 1 1 → τ 9 q = pu_sh S mv p q := by
  have i1 := hI.2.1
  have st : ∀ k, 0 ≤ k → k < m 1 1 → X11_changes_b2 p m k = pu_if (m 9 k = p) (some (.inr (.inl k))) (some (.inl (k + 1))) := fun k a b => by
    unfold X11_changes_b2
    rw [pu_ld (by omega) (by omega), Option.bind_some, if_pos b, pu_ld (by omega) (by omega), Option.bind_some, pu_lt, pu_w (x := k + 1) (by omega) (by omega)]
    by_cases z : m 9 k = p
    · rw [if_pos z, pu_if_p z]
    · rw [if_neg z, pu_if_n z]
  unfold X11_changes
  rcases pu_least (fun k => m 9 k = p) (m 1 1) with ⟨k, k0, k1, k2, k3⟩ | hN
  · rw [pu_first st k0 k1 k2 k3, Option.bind_some]
    dsimp only [Sum.elim_inl]
    rw [pu_ld (by omega) (by omega), Option.bind_some, pu_sa (by omega) (by omega), Option.bind_some, pu_sa (by omega) (by omega), Option.bind_some]
    have un : ∀ q, 0 ≤ q → q < m 1 1 → S q = p → q = k := fun q q0 q1 e => by
      apply Classical.byContradiction
      intro g
      have := hk.2 q k q0 q1 k0 k1 g (by rw [e, ← hS k k0 k1]; exact k2.symm)
      omega
    refine ⟨_, rfl, fun k hk => (pu_st_ne hk).trans (pu_st_ne hk), fun q q0 q1 => ?_⟩
    unfold pu_sh
    by_cases e : q = mv
    · rw [if_pos e, e, pu_st_a]
    · rw [if_neg e, pu_st_b e]
      by_cases e2 : S q = p
      · rw [if_pos e2, un q q0 q1 e2, pu_st_a, hS mv m0 m1]
      · rw [if_neg e2, pu_st_b (fun g => e2 (by rw [g, ← hS k k0 k1]; exact k2)), hS q q0 q1]
  · rw [pu_firstN (by omega) st (by
      unfold X11_changes_b2
      rw [pu_ld (by omega) (by omega), Option.bind_some, if_neg (by omega)]) hN, Option.bind_some]
    dsimp only [Sum.elim_inr]
    rw [pu_sa (by omega) (by omega), Option.bind_some]
    refine ⟨_, rfl, fun k hk => pu_st_ne hk, fun q q0 q1 => ?_⟩
    unfold pu_sh
    by_cases e : q = mv
    · rw [if_pos e, e, pu_st_a]
    · rw [if_neg e, pu_st_b e, hS q q0 q1, if_neg (fun g => hN q q0 q1 (by rw [hS q q0 q1]; exact g))]
/-- what the best so far becomes -/
def pu_wg (f s y : Int) : Int := if s = 1000000 then y else if f = 0 then (if y < s then y else s) else if s < y then y else s
/-- is it told anew? -/
def pu_wn (f s y : Int) : Prop := s = 1000000 ∨ f = 0 ∧ y < s ∨ f = 1 ∧ s < y
theorem pm_weighs (l0 : 0 ≤ l) (l1 : l < 4) (hf : f = 1 ∧ l % 2 = 0 ∨ f = 0 ∧ l % 2 = 1) : ∃ τ, X11_weighs l y m = some τ ∧ (∀ k, k ≠ 0 → k ≠ 11 → τ k = m k) ∧ (∀ j, j ≠ 27 → τ 0 j = m 0 j) ∧ (∀ j, j ≠ l → τ 11 j = m 11 j) ∧ τ 11 l = pu_wg f (m 11 l) y ∧ (l ≠ 0 → τ 0 = m 0) ∧ (l = 0 → (pu_wn f (m 11 0) y → τ 0 27 = m 10 0) ∧ (¬ pu_wn f (m 11 0) y → τ 0 27 = m 0 27)) := by
  have up : ∃ τ, X11_weighs_j42 l y m = some τ ∧ (∀ k, k ≠ 0 → k ≠ 11 → τ k = m k) ∧ (∀ j, j ≠ 27 → τ 0 j = m 0 j) ∧ (∀ j, j ≠ l → τ 11 j = m 11 j) ∧ τ 11 l = y ∧ (l ≠ 0 → τ 0 = m 0) ∧ (l = 0 → τ 0 27 = m 10 0) := by
    unfold X11_weighs_j42
    rw [pu_sa (by omega) (by omega), Option.bind_some]
    by_cases z : l = 0
    · rw [if_pos z, pu_ld (by omega) (by omega), Option.bind_some, pu_lt]
      exact ⟨_, rfl, fun k a b => (pu_st_ne a).trans (pu_st_ne b), fun j hj => (pu_st_b hj).trans (by rw [pu_st_ne (by omega)]), fun j hj => by rw [pu_st_ne (by omega), pu_st_b hj], by rw [pu_st_ne (by omega), pu_st_a], fun g => absurd z g, fun _ => by rw [pu_st_a, pu_st_ne (by omega)]⟩
    · rw [if_neg z]
      exact ⟨_, rfl, fun k a b => pu_st_ne b, fun j hj => by rw [pu_st_ne (by omega)], fun j hj => pu_st_b hj, pu_st_a, fun _ => pu_st_ne (by omega), fun g => absurd g z⟩
  obtain ⟨τ, u1, u2, u3, u4, u5, u6, u7⟩ := up
  have r2 := pu_rem (a := l) (b := 2) l0 (by decide) (by decide)
  unfold X11_weighs
  rw [pu_ld (by omega) (by omega), Option.bind_some]
  by_cases z : m 11 l = 1000000
  · rw [if_pos z, u1]
    exact ⟨τ, rfl, u2, u3, u4, by rw [u5]; unfold pu_wg; rw [if_pos z], u6, fun g => ⟨fun _ => u7 g, fun q => absurd (Or.inl (by rw [← g]; exact z)) q⟩⟩
  · rw [if_neg z, r2, Option.bind_some]
    rcases hf with ⟨rfl, h2⟩ | ⟨rfl, h2⟩
    · rw [if_pos h2, Option.bind_some]
      by_cases w : m 11 l < y
      · rw [if_pos w, u1]
        exact ⟨τ, rfl, u2, u3, u4, by rw [u5]; unfold pu_wg; rw [if_neg z, if_neg (by decide), if_pos w], u6, fun g => ⟨fun _ => u7 g, fun q => absurd (Or.inr (Or.inr ⟨rfl, by rw [← g]; exact w⟩)) q⟩⟩
      · rw [if_neg w]
        refine ⟨m, rfl, fun _ _ _ => rfl, fun _ _ => rfl, fun _ _ => rfl, by unfold pu_wg; rw [if_neg z, if_neg (by decide), if_neg w], fun _ => rfl, fun g => ⟨fun q => ?_, fun _ => rfl⟩⟩
        subst g
        unfold pu_wn at q
        omega
    · rw [if_neg (by omega), Option.bind_some]
      by_cases w : y < m 11 l
      · rw [if_pos w, u1]
        exact ⟨τ, rfl, u2, u3, u4, by rw [u5]; unfold pu_wg; rw [if_neg z, if_pos rfl, if_pos w], u6, fun g => by omega⟩
      · rw [if_neg w]
        exact ⟨m, rfl, fun _ _ _ => rfl, fun _ _ => rfl, fun _ _ => rfl, by unfold pu_wg; rw [if_neg z, if_pos rfl, if_neg w], fun _ => rfl, fun g => by omega⟩
end
