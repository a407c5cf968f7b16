section
variable {A S S' : Int → Int} {m1 m2 τ1 τ2 σ σ1 σ2 : jq_M} {o n v x k a b f p mv K P : Int}
/-- a PARTY goes to a PLACE, who sits there goes to its own -/
def pu_sh (S : Int → Int) (mv p : Int) : Int → Int := fun q => if q = mv then p else if S q = p then S mv else S q
def pu_okr (K P : Int) (S : Int → Int) : Prop := (∀ q, 0 ≤ q → q < K → -1 ≤ S q ∧ S q < P) ∧ ∀ q r, 0 ≤ q → q < K → 0 ≤ r → r < K → q ≠ r → S q = S r → S q = -1
def pu_mm (f x y : Int) : Int := if f = 0 then jq_min x y else jq_max x y
def pu_mo (a b f : Int) : Int := if f = 0 then b else a
noncomputable def pu_bl (A : Int → Int) (a b : Int) : Nat → Int → (Int → Int) → Int
  | 0 => fun _ S => pu_worth A S a - pu_worth A S b
  | t + 1 => fun f S => pu_fold (pu_bl A a b t (1 - f) S) (fun i s => if (i : Int) = S (pu_mo a b f) then s else pu_mm f s (pu_bl A a b t (1 - f) (pu_sh S (pu_mo a b f) (i : Int)))) (A 0).toNat
theorem pu_sh_m : pu_sh S mv p mv = p := if_pos rfl
theorem pu_sh_ok (h : pu_okr K P S) (p0 : 0 ≤ p) (p1 : p < P) (m0 : 0 ≤ mv) (m1 : mv < K) : pu_okr K P (pu_sh S mv p) := by
  obtain ⟨h1, h2⟩ := h
  refine ⟨fun q a b => ?_, fun q r a b c d e g => ?_⟩
  · unfold pu_sh
    have := h1 q a b
    have := h1 mv m0 m1
    split
    · omega
    · split
      · omega
      · omega
  · unfold pu_sh at g ⊢
    have w1 := h1 mv m0 m1
    have u1 := h2 q r a b c d e
    have u2 := h2 q mv a b m0 m1
    have u3 := h2 r mv c d m0 m1
    by_cases z1 : q = mv
    · rw [if_pos z1] at g ⊢
      rw [if_neg (show ¬ r = mv by omega)] at g
      by_cases z2 : S r = p
      · rw [if_pos z2] at g
        have := u3 (by omega) (by omega)
        omega
      · rw [if_neg z2] at g
        omega
    · rw [if_neg z1] at g ⊢
      by_cases z3 : r = mv
      · rw [if_pos z3] at g
        by_cases z2 : S q = p
        · rw [if_pos z2] at g
          have := u2 z1 (by omega)
          omega
        · rw [if_neg z2] at g
          omega
      · rw [if_neg z3] at g
        by_cases z2 : S q = p
        · rw [if_pos z2] at g ⊢
          by_cases z4 : S r = p
          · have := u1 (by omega)
            omega
          · rw [if_neg z4] at g
            have := u3 z3 (by omega)
            omega
        · rw [if_neg z2] at g ⊢
          by_cases z4 : S r = p
          · rw [if_pos z4] at g
            have := u2 z1 (by omega)
            omega
          · rw [if_neg z4] at g
            exact u1 g
theorem pu_sh_sat (hm : 0 ≤ S mv) (p0 : 0 ≤ p) (ha : 0 ≤ S a) : 0 ≤ pu_sh S mv p a := by
  unfold pu_sh
  split
  · exact p0
  · split
    · exact hm
    · exact ha
/-- back again -/
theorem pu_sh_back (h : pu_okr K P S) (hm : 0 ≤ S mv) (p0 : 0 ≤ p) (m0 : 0 ≤ mv) (m1 : mv < K) (hp : p ≠ S mv) {q : Int} (q0 : 0 ≤ q) (q1 : q < K) : pu_sh (pu_sh S mv p) mv (S mv) q = S q := by
  have u := h.2 q mv q0 q1 m0 m1
  unfold pu_sh
  by_cases z : q = mv
  · rw [if_pos z, z]
  · rw [if_neg z, if_neg z, if_pos rfl]
    by_cases z2 : S q = p
    · rw [if_pos z2, if_pos rfl, z2]
    · rw [if_neg z2, if_neg (fun g => by have := u z g; omega)]
theorem pu_mo_c (hf : f = 0 ∨ f = 1) : pu_mo a b f = a ∨ pu_mo a b f = b := by
  unfold pu_mo
  split
  · exact Or.inr rfl
  · exact Or.inl rfl
theorem pu_bl_cg (hI : pu_inv A) (ha : 0 ≤ a) (ha1 : a < A 1) (hb : 0 ≤ b) (hb1 : b < A 1) : ∀ (t : Nat) (f : Int) (S S' : Int → Int), (f = 0 ∨ f = 1) → (∀ q, 0 ≤ q → q < A 1 → S q = S' q) → pu_bl A a b t f S = pu_bl A a b t f S' := by
  intro t
  induction t with
  | zero =>
    intro f S S' hf hS
    show pu_worth A S a - pu_worth A S b = pu_worth A S' a - pu_worth A S' b
    rw [pu_worth_cg hI hS, pu_worth_cg hI hS]
  | succ t ih =>
    intro f S S' hf hS
    have e : S (pu_mo a b f) = S' (pu_mo a b f) := by rcases pu_mo_c (a := a) (b := b) hf with g | g <;> rw [g] <;> exact hS _ (by omega) (by omega)
    show pu_fold (pu_bl A a b t (1 - f) S) _ _ = pu_fold (pu_bl A a b t (1 - f) S') _ _
    rw [ih (1 - f) S S' (by omega) hS]
    refine pu_fold_cg (fun i hi s => ?_)
    rw [e, ih (1 - f) (pu_sh S (pu_mo a b f) (i : Int)) (pu_sh S' (pu_mo a b f) (i : Int)) (by omega) (fun q q0 q1 => by
      unfold pu_sh
      rw [e, hS q q0 q1])]
theorem pu_mm_b {c y : Int} (h1 : -c ≤ x) (h2 : x ≤ c) (h3 : -c ≤ y) (h4 : y ≤ c) : -c ≤ pu_mm f x y ∧ pu_mm f x y ≤ c := by
  unfold pu_mm jq_min jq_max
  split
  · split <;> omega
  · split <;> omega
theorem pu_bl_b (hI : pu_inv A) : ∀ (t : Nat) (f : Int) (S : Int → Int), -360 ≤ pu_bl A a b t f S ∧ pu_bl A a b t f S ≤ 360 := by
  intro t
  induction t with
  | zero =>
    intro f S
    have w1 := pu_worth_b hI (S := S) (p := a)
    have w2 := pu_worth_b hI (S := S) (p := b)
    show -360 ≤ pu_worth A S a - pu_worth A S b ∧ pu_worth A S a - pu_worth A S b ≤ 360
    omega
  | succ t ih =>
    intro f S
    have key : ∀ n : Nat, -360 ≤ pu_fold (pu_bl A a b t (1 - f) S) (fun i s => if (i : Int) = S (pu_mo a b f) then s else pu_mm f s (pu_bl A a b t (1 - f) (pu_sh S (pu_mo a b f) (i : Int)))) n ∧ pu_fold (pu_bl A a b t (1 - f) S) (fun i s => if (i : Int) = S (pu_mo a b f) then s else pu_mm f s (pu_bl A a b t (1 - f) (pu_sh S (pu_mo a b f) (i : Int)))) n ≤ 360 := by
      intro n
      induction n with
      | zero => exact ih _ _
      | succ n ihn =>
        rw [pu_fold_s]
        by_cases z : (n : Int) = S (pu_mo a b f)
        · rw [if_pos z]
          exact ihn
        · rw [if_neg z]
          have g := ih (1 - f) (pu_sh S (pu_mo a b f) (n : Int))
          exact pu_mm_b ihn.1 ihn.2 g.1 g.2
    exact key _
/-- the class's move -/
theorem ps_shift (hI : pu_inv A) (hC : pu_RC σ o A) (hS : ∀ q, 0 ≤ q → q < A 1 → σ 63 q = S q) (hk : pu_okr (A 1) P S) (m0 : 0 ≤ mv) (m1 : mv < A 1) (p0 : 0 ≤ p) (hp : p ≠ S mv) : ∃ τ, X4_shift o 63 mv p σ = some τ ∧ (∀ k, k ≠ 63 → τ k = σ k) ∧ (∀ j, ¬ (0 ≤ j ∧ j < A 1) → τ 63 j = σ 63 j) ∧ ∀ q, 0 ≤ q → q < A 1 → τ 63 q = pu_sh S mv p q := by
  have i1 := hI.2.1
  have c2 : σ o 2 = A 1 := hC.1.2.2.1
  have n10 : ¬ ((1 : Int) = 0) := by decide
  unfold X4_shift
  rw [ps_sitterAt (S := S) (n := A 1) hC.1.2.2.1 (by omega) (by omega) hS, Option.bind_some, ps_isParty (by omega), Option.bind_some, pu_i_p (show 0 ≤ mv ∧ mv < σ o 2 by omega), if_neg n10, ps_isParty (by omega), Option.bind_some]
  by_cases z : pu_who S p (A 1).toNat = -1
  · rw [z, pu_i_n (show ¬ (0 ≤ (-1 : Int) ∧ (-1 : Int) < σ o 2) by omega), if_pos rfl, pu_sa (by omega) (by omega), Option.bind_some]
    have w := (pu_who_n _).mp z
    refine ⟨_, rfl, fun k hk => pu_st_ne hk, fun j hj => pu_st_b (by omega), fun q q0 q1 => ?_⟩
    unfold pu_sh
    by_cases e : q = mv
    · rw [if_pos e, e, pu_st_a]
    · have := w q.toNat (by omega)
      rw [show ((q.toNat : Nat) : Int) = q by omega] at this
      rw [if_neg e, pu_st_b e, hS q q0 q1, if_neg this]
  · have w : ∃ i : Nat, i < (A 1).toNat ∧ S i = p := by
      apply Classical.byContradiction
      intro g
      exact z ((pu_who_n _).mpr (fun i hi e => g ⟨i, hi, e⟩))
    obtain ⟨i, hi, ei⟩ := w
    have un : ∀ q, 0 ≤ q → q < A 1 → S q = p → q = (i : Int) := fun q q0 q1 e => by
      apply Classical.byContradiction
      intro g
      have := hk.2 q (i : Int) q0 q1 (by omega) (by omega) g (by rw [e, ei])
      omega
    have e1 : pu_who S p (A 1).toNat = (i : Int) := pu_who_f (fun j hj e => by
      have := un j (by omega) (by omega) e
      omega) ei _ hi
    rw [e1, pu_i_p (show 0 ≤ (i : Int) ∧ (i : Int) < σ o 2 by omega), if_neg n10, pu_ld (by omega) (by omega), Option.bind_some, pu_sa (by omega) (by omega), Option.bind_some, pu_sa (by omega) (by omega), Option.bind_some]
    refine ⟨_, rfl, fun k hk => (pu_st_ne hk).trans (pu_st_ne hk), fun j hj => (pu_st_b (by omega)).trans (pu_st_b (by omega)), fun q q0 q1 => ?_⟩
    unfold pu_sh
    by_cases e : q = mv
    · rw [if_pos e, e, pu_st_a]
    · rw [if_neg e, pu_st_b e]
      by_cases e2 : S q = p
      · rw [if_pos e2, un q q0 q1 e2, pu_st_a, hS mv m0 m1]
      · rw [if_neg e2, pu_st_b (fun g => e2 (by rw [g]; exact ei)), hS q q0 q1]
end
