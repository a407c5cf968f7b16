section
variable {σ : jq_M} {k k' n i j j' v x : Int}
theorem pu_ld (h0 : 0 ≤ i) (h1 : i < n) : jq_ld σ k n i = some (σ k i) := by unfold jq_ld; exact if_pos ⟨h0, h1⟩
theorem pu_sa (h0 : 0 ≤ i) (h1 : i < n) : jq_sa σ k n i v = some (jq_st σ k i v) := by unfold jq_sa; exact if_pos ⟨h0, h1⟩
theorem pu_sb (h0 : 0 ≤ i) (h1 : i < n) : jq_sb σ k n i v = some (jq_st σ k i (jq_w8 v)) := by unfold jq_sb; exact if_pos ⟨h0, h1⟩
theorem pu_chk (h0 : 0 ≤ i) (h1 : i < n) : jq_chk i n = some i := by unfold jq_chk; exact if_pos ⟨h0, h1⟩
theorem pu_w (h0 : -2147483648 ≤ x) (h1 : x < 2147483648) : jq_w x = x := by unfold jq_w; omega
theorem pu_w64 (h0 : -9223372036854775808 ≤ x) (h1 : x < 9223372036854775808) : jq_w64 x = x := by unfold jq_w64; omega
theorem pu_lt {α β : Type} (x : α) (f : α → β) : jq_lt x f = f x := rfl
theorem pu_b2 {α : Type} (a : Int) (b : jq_M) (f : Int → jq_M → Option α) : jq_b2 (some (a, b)) f = f a b := rfl
theorem pu_st_ne (h : k' ≠ k) : jq_st σ k j v k' = σ k' := by
  funext j'
  unfold jq_st
  exact if_neg (fun q => h q.1)
theorem pu_st_a : jq_st σ k j v k j = v := by unfold jq_st; exact if_pos ⟨rfl, rfl⟩
theorem pu_st_b (h : j' ≠ j) : jq_st σ k j v k j' = σ k j' := by
  unfold jq_st
  exact if_neg (fun q => h q.2)
theorem pu_st_k : jq_st σ k j v k j' = if j' = j then v else σ k j' := by
  unfold jq_st
  by_cases h : j' = j <;> simp [h]
theorem pu_cp_ne {i1 : Int} (h : k' ≠ k) : jq_cp σ i j k i1 n k' = σ k' := by
  funext j'
  unfold jq_cp
  exact if_neg (fun q => h q.1)
theorem pu_cp_k {i1 : Int} : jq_cp σ i j k i1 n k j' = if i1 ≤ j' ∧ j' < i1 + n then σ i (j + (j' - i1)) else σ k j' := by
  unfold jq_cp
  by_cases h : i1 ≤ j' ∧ j' < i1 + n <;> simp [h]
theorem pu_cpy {m k1 m1 i1 : Int} (h0 : 0 ≤ i) (h1 : 0 ≤ i1) (h2 : 0 ≤ n) (h3 : i + n ≤ m) (h4 : i1 + n ≤ m1) : jq_cpy σ k m i k1 m1 i1 n = some (jq_cp σ k i k1 i1 n) := by
  unfold jq_cpy
  exact if_pos ⟨h0, h1, h2, h3, h4⟩
end
theorem pu_lp {S E : Type} {f : S → Option (S ⊕ E)} (I : Nat → S → Prop) (Q : E → Prop) (n : Nat) (h : ∀ i s, I i s → i ≤ n → (∃ e, f s = some (.inr e) ∧ Q e) ∨ (i < n ∧ ∃ s', f s = some (.inl s') ∧ I (i + 1) s')) {s : S} (h0 : I 0 s) : ∃ e, jq_lp f s = some e ∧ Q e := by
  have key : ∀ k i s, i + k = n → I i s → ∃ e, jq_lp f s = some e ∧ Q e := by
    intro k
    induction k with
    | zero =>
      intro i s hi hI
      rcases h i s hI (by omega) with ⟨e, h1, h2⟩ | ⟨h1, _⟩
      · exact ⟨e, jq_lp_inr h1, h2⟩
      · omega
    | succ k ih =>
      intro i s hi hI
      rcases h i s hI (by omega) with ⟨e, h1, h2⟩ | ⟨h1, s', h2, h3⟩
      · exact ⟨e, jq_lp_inr h1, h2⟩
      · obtain ⟨e, h4, h5⟩ := ih (i + 1) s' (by omega) h3
        exact ⟨e, (jq_lp_inl h2).trans h4, h5⟩
  exact key n 0 s (by omega) h0
/-- a loop that reads: from place 0 up to n, its gain by steps -/
theorem pu_for {S T E : Type} {f : T → Option (T ⊕ E)} (w : S → Int → T) (acc : Nat → S) (n : Nat) {e : E} (h : ∀ i : Nat, i < n → f (w (acc i) i) = some (.inl (w (acc (i + 1)) ((i : Int) + 1)))) (hx : f (w (acc n) n) = some (.inr e)) : jq_lp f (w (acc 0) 0) = some e :=
  jq_lp_run (f := f) (fun i : Nat => w (acc i) i) n (fun i hi => by rw [h i hi]; rfl) hx
def pu_fold {S : Type} (a : S) (step : Nat → S → S) : Nat → S
  | 0 => a
  | n + 1 => step n (pu_fold a step n)
theorem pu_fold_s {S : Type} (a : S) (step : Nat → S → S) (n : Nat) : pu_fold a step (n + 1) = step n (pu_fold a step n) := rfl
/-! bits -/
theorem pu_toInt (x : BitVec 32) {n : Nat} (h : x.toNat = n) (hn : n < 2147483648) : (Int32.ofBitVec x).toInt = n := by
  show x.toInt = n
  rw [BitVec.toInt_eq_toNat_of_lt (by omega), h]
theorem pu_bv {a : Nat} (h : a < 2147483648) : (Int32.ofInt (a : Int)).toBitVec.toNat = a := by
  show (BitVec.ofInt 32 (a : Int)).toNat = a
  rw [BitVec.toNat_ofInt]
  omega
theorem pu_and {a b : Nat} (ha : a < 2147483648) (hb : b < 2147483648) : jq_and a b = ((a &&& b : Nat) : Int) := by
  unfold jq_and
  refine pu_toInt ((Int32.ofInt (a : Int)).toBitVec &&& (Int32.ofInt (b : Int)).toBitVec) ?_ (Nat.lt_of_le_of_lt Nat.and_le_left ha)
  rw [BitVec.toNat_and, pu_bv ha, pu_bv hb]
theorem pu_or {a b : Nat} (ha : a < 2147483648) (hb : b < 2147483648) : jq_or a b = ((a ||| b : Nat) : Int) := by
  unfold jq_or
  refine pu_toInt ((Int32.ofInt (a : Int)).toBitVec ||| (Int32.ofInt (b : Int)).toBitVec) ?_ (Nat.or_lt_two_pow (n := 31) ha hb)
  rw [BitVec.toNat_or, pu_bv ha, pu_bv hb]
theorem pu_shl1 : ∀ k : Nat, k < 31 → jq_shl 1 k = ((2 ^ k : Nat) : Int) := by decide +kernel
theorem pu_shk : ∀ k : Nat, k < 32 → (((Int32.ofInt k &&& 31).toBitVec.smod 32).toNat) = k := by decide +kernel
theorem pu_shr {a : Int} (ha : jq_r a) {k : Nat} (hk : k < 32) : jq_shr a k = a / 2 ^ k := by
  unfold jq_shr
  show (Int32.ofInt a >>> (Int32.ofInt k &&& 31)).toBitVec.toInt = _
  rw [Int32.toBitVec_shiftRight]
  show ((Int32.ofInt a).toBitVec.sshiftRight (((Int32.ofInt k &&& 31).toBitVec.smod 32).toNat)).toInt = _
  rw [pu_shk k hk, BitVec.toInt_sshiftRight]
  show (Int32.ofInt a).toInt >>> k = _
  rw [jq_toInt, jq_w_id ha, Int.shiftRight_eq_div_pow]
  rfl
