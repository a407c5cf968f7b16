/-! the committee of both sides: what actions change -/
def pu_K (σ1 : jq_M) (o : Int) (σ2 : jq_M) : Prop := pu_inv (σ2 1) ∧ pu_RC σ1 o (σ2 1)
def pu_F1 (o : Int) (σ σ' : jq_M) : Prop := ∀ k, k ≠ o → k ≠ o + 3 → k ≠ o + 12 → k ≠ o + 19 → σ' k = σ k
def pu_F2 (σ σ' : jq_M) : Prop := (∀ k, k ≠ 1 → k ≠ 9 → σ' k = σ k) ∧ ∀ j, ¬ pu_dynj j → σ' 1 j = σ 1 j
theorem pu_F1_r (o : Int) (σ : jq_M) : pu_F1 o σ σ := fun _ _ _ _ _ => rfl
theorem pu_F2_r (σ : jq_M) : pu_F2 σ σ := ⟨fun _ _ _ => rfl, fun _ _ => rfl⟩
theorem pu_F1.tr {o : Int} {σ σ' σ'' : jq_M} (h : pu_F1 o σ σ') (g : pu_F1 o σ' σ'') : pu_F1 o σ σ'' := fun k a b c d => (g k a b c d).trans (h k a b c d)
theorem pu_F2.tr {σ σ' σ'' : jq_M} (h : pu_F2 σ σ') (g : pu_F2 σ' σ'') : pu_F2 σ σ'' := ⟨fun k a b => (g.1 k a b).trans (h.1 k a b), fun j a => (g.2 j a).trans (h.2 j a)⟩
theorem pu_F2_9 {σ σ' : jq_M} (h : ∀ k, k ≠ 9 → σ' k = σ k) : pu_F2 σ σ' := ⟨fun k _ b => h k b, fun j _ => by rw [h 1 (by omega)]⟩
theorem pu_F1_19 {o : Int} {σ σ' : jq_M} (h : ∀ k, k ≠ o + 19 → σ' k = σ k) : pu_F1 o σ σ' := fun k _ _ _ d => h k d
theorem pu_K.mv {σ1 σ2 τ1 τ2 : jq_M} {o : Int} (h : pu_K σ1 o σ2) (h1 : ∀ k, 0 ≤ k → k < 18 → τ1 (o + k) = σ1 (o + k)) (h2 : τ2 1 = σ2 1) : pu_K τ1 o τ2 := by
  unfold pu_K
  rw [h2]
  exact ⟨h.1, h.2.mv h1⟩
section
variable {σ1 σ2 τ1 τ2 : jq_M} {o v : Int}
/-- the end of a call that was an action -/
theorem pu_fina (h : jq_Rel σ1 σ2) (hK : pu_K τ1 (σ1 0 7) τ2) (f1 : pu_F1 (σ1 0 7) σ1 τ1) (f2 : pu_F2 σ2 τ2) (hd : τ2 1 4 ≤ 9999) : jq_Rel (jq_st τ1 0 0 v) (jq_st τ2 0 2 v) := by
  have hn : σ1 0 7 = 5 ∨ σ1 0 7 = 25 := by have := h.2.1; omega
  have n2 : τ2 2 = σ2 2 := f2.1 2 (by omega) (by omega)
  have n0 : τ2 0 = σ2 0 := f2.1 0 (by omega) (by omega)
  have m0 : τ1 0 = σ1 0 := f1 0 (by omega) (by omega) (by omega) (by omega)
  refine pu_end h (fun k a b c => f1 k (by omega) (by omega) (by omega) (by omega)) (fun j _ => by rw [m0]) (fun k hk => f2.1 k (by omega) (by omega)) (fun j a b => f2.2 j (by unfold pu_dynj; omega)) (fun j a b => by rw [n2]) (fun j _ => by rw [n0]) ?_
  exact h.2.2.1.act hK.1 hK.2 (fun j a b c => f2.2 j c) (fun k hk => f1 _ (by omega) (by omega) (by omega) (by omega)) (fun j a b => by rw [n2]) hd
/-- seats change -/
theorem pu_K.seats (h : pu_K σ1 o σ2) (h1 : ∀ k, k ≠ o + 3 → τ1 k = σ1 k) (h2 : ∀ k, k ≠ 1 → k ≠ 9 → τ2 k = σ2 k) (h3 : ∀ j, (∀ p, 0 ≤ p → p < σ2 1 1 → j ≠ 9 + 2 * p) → τ2 1 j = σ2 1 j) (h4 : ∀ p, 0 ≤ p → p < σ2 1 1 → τ1 (o + 3) p = τ2 1 (9 + 2 * p) ∧ -1 ≤ τ2 1 (9 + 2 * p) ∧ τ2 1 (9 + 2 * p) < σ2 1 0) (h5 : ∀ p q, 0 ≤ p → p < q → q < σ2 1 1 → τ2 1 (9 + 2 * p) ≠ -1 → τ2 1 (9 + 2 * p) ≠ τ2 1 (9 + 2 * q)) : pu_K τ1 o τ2 ∧ pu_F1 o σ1 τ1 ∧ pu_F2 σ2 τ2 ∧ τ2 1 4 = σ2 1 4 := by
  obtain ⟨⟨i0, i1, i2, i3, i4, i5, i6, ip, iq, iw, ia⟩, ⟨⟨c0, c1, c2, c3, c4, c5, c6⟩, cp, cw, ca⟩⟩ := h
  have g : ∀ j, j < 8 ∨ 18 ≤ j ∨ j % 2 = 0 → τ2 1 j = σ2 1 j := fun j hj => h3 j (fun p a b => by omega)
  refine ⟨⟨?_, ?_⟩, fun k a b c d => h1 k b, ⟨h2, fun j hj => ?_⟩, g 4 (by omega)⟩
  · unfold pu_inv
    rw [g 0 (by omega), g 1 (by omega), g 2 (by omega), g 3 (by omega), g 4 (by omega), g 5 (by omega), g 6 (by omega)]
    refine ⟨i0, i1, i2, i3, i4, i5, i6, fun p a b => ?_, h5, fun k a b => ?_, fun k a b => ?_⟩
    · rw [g (8 + 2 * p) (by omega)]
      obtain ⟨e1, e2, e3⟩ := h4 p a b
      obtain ⟨e4, e5, -⟩ := ip p a b
      exact ⟨e4, e5, e2, e3⟩
    · rw [g (18 + 4 * k) (by omega), g (19 + 4 * k) (by omega), g (20 + 4 * k) (by omega), g (21 + 4 * k) (by omega)]
      exact iw k a b
    · rw [g (98 + 5 * k) (by omega), g (99 + 5 * k) (by omega), g (100 + 5 * k) (by omega), g (101 + 5 * k) (by omega), g (102 + 5 * k) (by omega)]
      exact ia k a b
  · have q0 := h1 o (by omega)
    unfold pu_RC
    rw [pu_ag_cg (A := σ2 1) (A' := τ2 1) (g 3 (by omega)) (fun a a0 a1 => g _ (by omega)), q0, h1 (o + 2) (by omega), h1 (o + 4) (by omega), h1 (o + 5) (by omega), h1 (o + 6) (by omega), h1 (o + 7) (by omega), h1 (o + 9) (by omega), h1 (o + 10) (by omega), h1 (o + 11) (by omega), h1 (o + 12) (by omega), g 0 (by omega), g 1 (by omega), g 2 (by omega), g 3 (by omega), g 4 (by omega), g 5 (by omega)]
    refine ⟨⟨c0, c1, c2, c3, c4, c5, c6⟩, fun p a b => ?_, fun k a b => ?_, fun k a b => ?_⟩
    · rw [g (8 + 2 * p) (by omega)]
      exact ⟨(cp p a b).1, (h4 p a b).1⟩
    · rw [g (18 + 4 * k) (by omega), g (19 + 4 * k) (by omega), g (20 + 4 * k) (by omega), g (21 + 4 * k) (by omega)]
      exact cw k a b
    · rw [g (98 + 5 * k) (by omega), g (99 + 5 * k) (by omega), g (100 + 5 * k) (by omega), g (101 + 5 * k) (by omega)]
      exact ca k a b
  · exact h3 j (fun p a b q => hj (by unfold pu_dynj; omega))
/-- articles and the day change -/
theorem pu_K.arts (h : pu_K σ1 o σ2) (h1 : ∀ k, k ≠ o → k ≠ o + 12 → τ1 k = σ1 k) (h0 : ∀ j, j ≠ 5 → j ≠ 6 → τ1 o j = σ1 o j) (h2 : ∀ k, k ≠ 1 → k ≠ 9 → τ2 k = σ2 k) (h3 : ∀ j, j ≠ 4 → (∀ a, 0 ≤ a → a < σ2 1 3 → j ≠ 101 + 5 * a ∧ j ≠ 102 + 5 * a) → τ2 1 j = σ2 1 j) (h5 : τ1 o 5 = pu_ag (τ2 1)) (h6 : τ1 o 6 = τ2 1 4) (h7 : 0 ≤ τ2 1 4 ∧ τ2 1 4 ≤ 1000000) (h4 : ∀ a, 0 ≤ a → a < σ2 1 3 → τ1 (o + 12) a = τ2 1 (101 + 5 * a) ∧ 0 ≤ τ2 1 (101 + 5 * a) ∧ τ2 1 (101 + 5 * a) ≤ σ2 1 (98 + 5 * a) ∧ (τ2 1 (102 + 5 * a) = 0 ∧ τ2 1 (101 + 5 * a) < σ2 1 (98 + 5 * a) ∨ τ2 1 (102 + 5 * a) = 1)) : pu_K τ1 o τ2 ∧ pu_F1 o σ1 τ1 ∧ pu_F2 σ2 τ2 := by
  obtain ⟨⟨i0, i1, i2, i3, i4, i5, i6, ip, iq, iw, ia⟩, ⟨⟨c0, c1, c2, c3, c4, c5, c6⟩, cp, cw, ca⟩⟩ := h
  have g : ∀ j, j ≠ 4 → j < 98 ∨ 138 ≤ j ∨ (j - 98) % 5 < 3 → τ2 1 j = σ2 1 j := fun j hj hk => h3 j hj (fun a b c => by omega)
  refine ⟨⟨?_, ?_⟩, fun k a b c d => h1 k a c, h2, fun j hj => ?_⟩
  · unfold pu_inv
    rw [g 0 (by omega) (by omega), g 1 (by omega) (by omega), g 2 (by omega) (by omega), g 3 (by omega) (by omega), g 5 (by omega) (by omega), g 6 (by omega) (by omega)]
    refine ⟨i0, i1, i2, i3, h7, i5, i6, fun p a b => ?_, fun p q a b c => ?_, fun k a b => ?_, fun k a b => ?_⟩
    · rw [g (8 + 2 * p) (by omega) (by omega), g (9 + 2 * p) (by omega) (by omega)]
      exact ip p a b
    · rw [g (9 + 2 * p) (by omega) (by omega), g (9 + 2 * q) (by omega) (by omega)]
      exact iq p q a b c
    · rw [g (18 + 4 * k) (by omega) (by omega), g (19 + 4 * k) (by omega) (by omega), g (20 + 4 * k) (by omega) (by omega), g (21 + 4 * k) (by omega) (by omega)]
      exact iw k a b
    · rw [g (98 + 5 * k) (by omega) (by omega), g (99 + 5 * k) (by omega) (by omega), g (100 + 5 * k) (by omega) (by omega)]
      obtain ⟨e1, e2, e3, e4⟩ := h4 k a b
      obtain ⟨e5, e6, e7, e8, e9, -⟩ := ia k a b
      exact ⟨e5, e6, e7, e8, e9, ⟨e2, e3⟩, e4⟩
  · unfold pu_RC
    rw [h5, h6, h0 0 (by omega) (by omega), h0 1 (by omega) (by omega), h0 2 (by omega) (by omega), h0 3 (by omega) (by omega), h0 4 (by omega) (by omega), h1 (o + 2) (by omega) (by omega), h1 (o + 3) (by omega) (by omega), h1 (o + 4) (by omega) (by omega), h1 (o + 5) (by omega) (by omega), h1 (o + 6) (by omega) (by omega), h1 (o + 7) (by omega) (by omega), h1 (o + 9) (by omega) (by omega), h1 (o + 10) (by omega) (by omega), h1 (o + 11) (by omega) (by omega), g 0 (by omega) (by omega), g 1 (by omega) (by omega), g 2 (by omega) (by omega), g 3 (by omega) (by omega), g 5 (by omega) (by omega)]
    refine ⟨⟨c0, c1, c2, c3, c4, rfl, rfl⟩, fun p a b => ?_, fun k a b => ?_, fun k a b => ?_⟩
    · rw [g (8 + 2 * p) (by omega) (by omega), g (9 + 2 * p) (by omega) (by omega)]
      exact cp p a b
    · rw [g (18 + 4 * k) (by omega) (by omega), g (19 + 4 * k) (by omega) (by omega), g (20 + 4 * k) (by omega) (by omega), g (21 + 4 * k) (by omega) (by omega)]
      exact cw k a b
    · rw [g (98 + 5 * k) (by omega) (by omega), g (99 + 5 * k) (by omega) (by omega), g (100 + 5 * k) (by omega) (by omega)]
      obtain ⟨e1, e2, e3, e4⟩ := ca k a b
      exact ⟨e1, e2, e3, (h4 k a b).1⟩
  · exact h3 j (fun q => hj (by unfold pu_dynj; omega)) (fun a b c => ⟨fun q => hj (by unfold pu_dynj; omega), fun q => hj (by unfold pu_dynj; omega)⟩)
end
section
variable {A A' : Int → Int}
theorem pu_ag_set {a : Int} (h3 : A' 3 = A 3) (a0 : 0 ≤ a) (a1 : a < A 3) (h1 : A' (102 + 5 * a) = 1) (h2 : ∀ b, 0 ≤ b → b < A 3 → b ≠ a → A' (102 + 5 * b) = A (102 + 5 * b)) : pu_ag A' = pu_ag A ||| 2 ^ a.toNat := by
  refine Nat.eq_of_testBit_eq (fun k => ?_)
  rw [pu_ag_tb, Nat.testBit_or, pu_ag_tb, pu_bit1, h3, show 98 + 5 * (k : Int) + 4 = 102 + 5 * k by omega]
  by_cases hk : k < (A 3).toNat
  · by_cases q : (k : Int) = a
    · rw [q, h1, decide_eq_true (show a.toNat = k by omega)]
      simp [hk]
    · rw [h2 k (by omega) (by omega) q, decide_eq_false (show ¬ a.toNat = k by omega), Bool.or_false]
  · rw [decide_eq_false hk, decide_eq_false (show ¬ a.toNat = k by omega)]
    rfl
theorem pu_ag_clr {F : Nat} (h3 : A' 3 = A 3) (h2 : ∀ b : Nat, b < (A 3).toNat → A' (102 + 5 * (b : Int)) = if F.testBit b = true then 0 else A (102 + 5 * (b : Int))) : pu_ag A' = pu_ag A ^^^ (pu_ag A &&& F) := by
  refine Nat.eq_of_testBit_eq (fun k => ?_)
  rw [pu_ag_tb, Nat.testBit_xor, Nat.testBit_and, pu_ag_tb, h3, show 98 + 5 * (k : Int) + 4 = 102 + 5 * k by omega]
  by_cases hk : k < (A 3).toNat
  · rw [h2 k hk]
    cases hF : F.testBit k
    · simp
    · simp
  · rw [decide_eq_false hk]
    rfl
theorem pu_who_s {S : Int → Int} {x : Int} : ∀ n : Nat, pu_who S x n = -1 ∨ 0 ≤ pu_who S x n ∧ pu_who S x n < n ∧ S (pu_who S x n) = x := by
  intro n
  induction n with
  | zero => exact Or.inl rfl
  | succ n ih =>
    rw [show pu_who S x (n + 1) = if pu_who S x n ≠ -1 then pu_who S x n else if S n = x then n else -1 from rfl]
    by_cases h : pu_who S x n = -1
    · rw [if_neg (fun q => q h)]
      by_cases h2 : S n = x
      · rw [if_pos h2]; exact Or.inr ⟨by omega, by omega, h2⟩
      · rw [if_neg h2]; exact Or.inl rfl
    · rw [if_pos h]
      rcases ih with ih | ⟨e1, e2, e3⟩
      · exact absurd ih h
      · exact Or.inr ⟨e1, by omega, e3⟩
theorem pu_rem {a b : Int} (h0 : 0 ≤ a) (h1 : 0 < b) (h2 : b < 2147483648) : jq_rem a b = some (a % b) := by
  unfold jq_rem
  rw [if_neg (by omega), Int.tmod_eq_emod_of_nonneg h0]
  have h3 := Int.emod_nonneg a (show b ≠ 0 by omega)
  have h4 := Int.emod_lt_of_pos a h1
  rw [pu_w (by omega) (by omega)]
end
