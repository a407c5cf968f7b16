section
variable {A S S' : Int → Int} {m σ : jq_M} {n v x k p P : Int}
/-- a row's code -/
def pu_hc (P : Int) (S : Int → Int) (n : Nat) : Int := pu_fold 0 (fun i s => s * P + S (i : Int)) n
theorem pu_hc_b {P : Int} (hP : 3 ≤ P) (h6 : P ≤ 6) : ∀ n : Nat, n ≤ 5 → (∀ q, 0 ≤ q → q < (n : Int) → 0 ≤ S q ∧ S q < P) → 0 ≤ pu_hc P S n ∧ pu_hc P S n < 6 ^ n := by
  intro n
  induction n with
  | zero => intro _ _; exact ⟨Int.le_refl 0, show (0 : Int) < 6 ^ 0 by decide⟩
  | succ n ih =>
    intro hn hS
    have e := ih (by omega) (fun q a b => hS q a (by omega))
    have s := hS (n : Int) (by omega) (by omega)
    show 0 ≤ pu_hc P S n * P + S (n : Int) ∧ pu_hc P S n * P + S (n : Int) < 6 ^ (n + 1)
    generalize pu_hc P S n = c at e
    rw [Int.pow_succ]
    generalize (6 : Int) ^ n = w at e
    rcases (show P = 3 ∨ P = 4 ∨ P = 5 ∨ P = 6 by omega) with rfl | rfl | rfl | rfl <;> omega
theorem pm_codeOf (hI : pu_inv (σ 1)) (hP : 3 ≤ σ 1 0) (hS : ∀ q, 0 ≤ q → q < σ 1 1 → σ 9 q = S q) (hb : ∀ q, 0 ≤ q → q < σ 1 1 → 0 ≤ S q ∧ S q < σ 1 0) : X11_codeOf σ = some (pu_hc (σ 1 0) S (σ 1 1).toNat) := by
  have i0 := hI.1
  have i1 := hI.2.1
  unfold X11_codeOf
  refine pu_lpE (f := X11_codeOf_b4 σ) (s := ((0 : Int), (0 : Int))) (fun i t => t.1 = pu_hc (σ 1 0) S i ∧ t.2 = (i : Int)) (fun e => e = pu_hc (σ 1 0) S (σ 1 1).toNat) (σ 1 1).toNat ⟨rfl, rfl⟩ (fun i t ht hi => ?_) (fun e h1 h2 => by rw [h1, h2]; rfl)
  obtain ⟨t1, t2⟩ := t
  obtain ⟨h1, h2⟩ := ht
  dsimp only at h1 h2
  have k0 : 0 ≤ t2 := by omega
  unfold X11_codeOf_b4
  dsimp only
  rw [pu_ld (by omega) (by omega), Option.bind_some]
  by_cases w : t2 < σ 1 1
  · right
    have b := pu_hc_b (S := S) hP (by omega) i (by omega) (fun q a b => hb q a (by omega))
    have s := hb t2 k0 w
    have six : (6 : Int) ^ i ≤ 1296 := by
      rcases (show i = 0 ∨ i = 1 ∨ i = 2 ∨ i = 3 ∨ i = 4 by omega) with rfl | rfl | rfl | rfl | rfl <;> decide
    have e : pu_hc (σ 1 0) S (i + 1) = t1 * σ 1 0 + S t2 := by
      rw [h1, h2]
      rfl
    rw [← h1] at b
    have mb : 0 ≤ t1 * σ 1 0 ∧ t1 * σ 1 0 < 7776 := by
      rcases (show σ 1 0 = 3 ∨ σ 1 0 = 4 ∨ σ 1 0 = 5 ∨ σ 1 0 = 6 by omega) with g | g | g | g <;> rw [g] <;> omega
    rw [if_pos w, pu_ld (by omega) (by omega), Option.bind_some, pu_ld (by omega) (by omega), Option.bind_some, pu_lt, pu_lt, hS t2 k0 w]
    generalize t1 * σ 1 0 = y at e mb
    rw [pu_w (x := y) (by omega) (by omega), pu_w (x := y + S t2) (by omega) (by omega), pu_w (x := t2 + 1) (by omega) (by omega)]
    exact ⟨by omega, _, rfl, e.symm, by dsimp only; omega⟩
  · left
    rw [if_neg w]
    exact ⟨_, rfl, by rw [h1, show i = (σ 1 1).toNat by omega]⟩
/-- a row is moved: turned by one, or mirrored -/
def pu_mv (P f : Int) (S : Int → Int) : Int → Int := fun q => if f = 0 then (S q + 1) % P else P - 1 - S q
theorem pm_moves (hI : pu_inv (σ 1)) (hP : 3 ≤ σ 1 0) (hS : ∀ q, 0 ≤ q → q < σ 1 1 → σ 9 q = S q) (hb : ∀ q, 0 ≤ q → q < σ 1 1 → 0 ≤ S q ∧ S q < σ 1 0) : ∃ τ, X11_moves p σ = some τ ∧ (∀ k, k ≠ 9 → τ k = σ k) ∧ ∀ q, 0 ≤ q → q < σ 1 1 → τ 9 q = pu_mv (σ 1 0) p S q := by
  have i0 := hI.1
  have i1 := hI.2.1
  unfold X11_moves
  refine pu_lpE (f := X11_moves_b2 p) (s := ((0 : Int), σ)) (fun i t => t.1 = (i : Int) ∧ (∀ k, k ≠ 9 → t.2 k = σ k) ∧ (∀ q, 0 ≤ q → q < t.1 → t.2 9 q = pu_mv (σ 1 0) p S q) ∧ ∀ q, t.1 ≤ q → t.2 9 q = σ 9 q) (fun τ => (∀ k, k ≠ 9 → τ k = σ k) ∧ ∀ q, 0 ≤ q → q < σ 1 1 → τ 9 q = pu_mv (σ 1 0) p S q) (σ 1 1).toNat ⟨rfl, fun _ _ => rfl, fun j x y => by dsimp only at y; omega, fun _ _ => rfl⟩ (fun i t ht hi => ?_) (fun e h1 h2 => ⟨e, by rw [h1]; rfl, h2⟩)
  obtain ⟨t1, t2⟩ := t
  obtain ⟨hk, q1, q2, q3⟩ := ht
  dsimp only at hk q1 q2 q3
  have k0 : 0 ≤ t1 := by omega
  have e1 : t2 1 = σ 1 := q1 1 (by omega)
  unfold X11_moves_b2
  dsimp only
  rw [pu_ld (by omega) (by omega), Option.bind_some, e1]
  by_cases w : t1 < σ 1 1
  · right
    have s := hb t1 k0 w
    have e9 : t2 9 t1 = S t1 := by rw [q3 t1 (Int.le_refl _), hS t1 k0 w]
    have fin : ∀ v, v = pu_mv (σ 1 0) p S t1 → i < (σ 1 1).toNat ∧ ∃ s', (some (.inl (t1 + 1, jq_st t2 9 t1 v)) : Option ((Int × jq_M) ⊕ jq_M)) = some (.inl s') ∧ s'.1 = ((i + 1 : Nat) : Int) ∧ (∀ k, k ≠ 9 → s'.2 k = σ k) ∧ (∀ q, 0 ≤ q → q < s'.1 → s'.2 9 q = pu_mv (σ 1 0) p S q) ∧ ∀ q, s'.1 ≤ q → s'.2 9 q = σ 9 q := fun v hv => by
      refine ⟨by omega, _, rfl, by dsimp only; omega, fun k hk => (pu_st_ne hk).trans (q1 k hk), fun j x y => ?_, fun j y => ?_⟩
      · dsimp only at y ⊢
        by_cases z : j = t1
        · rw [z, pu_st_a, hv]
        · rw [pu_st_b z]
          exact q2 j x (by omega)
      · dsimp only at y ⊢
        rw [pu_st_b (by omega)]
        exact q3 j (by omega)
    by_cases z : p = 0
    · rw [if_pos w, if_pos z, pu_ld (by omega) (by omega), Option.bind_some, pu_ld (by omega) (by omega), Option.bind_some, e1, e9, pu_w (x := S t1 + 1) (by omega) (by omega), pu_rem (by omega) (by omega) (by omega), Option.bind_some, pu_sa (by omega) (by omega), Option.bind_some, pu_lt, pu_w (x := t1 + 1) (by omega) (by omega)]
      exact fin _ (by unfold pu_mv; rw [if_pos z])
    · rw [if_pos w, if_neg z, pu_ld (by omega) (by omega), Option.bind_some, pu_ld (by omega) (by omega), Option.bind_some, e1, e9, pu_w (x := σ 1 0 - 1) (by omega) (by omega), pu_w (x := σ 1 0 - 1 - S t1) (by omega) (by omega), pu_sa (by omega) (by omega), Option.bind_some, pu_lt, pu_w (x := t1 + 1) (by omega) (by omega)]
      exact fin _ (by unfold pu_mv; rw [if_neg z])
  · left
    rw [if_neg w]
    exact ⟨_, rfl, q1, fun q a b => q2 q a (by omega)⟩
end
