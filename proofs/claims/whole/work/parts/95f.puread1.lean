/-! THE READER: the words and numbers of a text -/
theorem pu_bv64 {a : Nat} (h : a < 9223372036854775808) : (Int64.ofInt (a : Int)).toBitVec.toNat = a := by
  show (BitVec.ofInt 64 (a : Int)).toNat = a
  rw [BitVec.toNat_ofInt]
  omega
theorem pu_toInt64 (x : BitVec 64) {n : Nat} (h : x.toNat = n) (hn : n < 9223372036854775808) : (Int64.ofBitVec x).toInt = n := by
  show x.toInt = n
  rw [BitVec.toInt_eq_toNat_of_lt (by omega), h]
theorem pu_shll {a : Nat} {k : Int} {n : Nat} (hk : ((Int32.ofInt k).toInt64 &&& 63).toBitVec.smod 64 = BitVec.ofNat 64 n) (hn : n < 64) (h : a * 2 ^ n < 9223372036854775808) : jq_shll (a : Int) k = ((a * 2 ^ n : Nat) : Int) := by
  have p := Nat.two_pow_pos n
  have ha : a < 9223372036854775808 := Nat.lt_of_le_of_lt (Nat.le_mul_of_pos_right a p) h
  unfold jq_shll
  refine pu_toInt64 ((Int64.ofInt (a : Int)).toBitVec <<< (((Int32.ofInt k).toInt64 &&& 63).toBitVec.smod 64)) ?_ h
  rw [hk, BitVec.shiftLeft_eq', BitVec.toNat_ofNat, BitVec.toNat_shiftLeft, pu_bv64 ha, Nat.mod_eq_of_lt (show n < 2 ^ 64 by omega), Nat.shiftLeft_eq, Nat.mod_eq_of_lt (by omega)]
theorem pu_shl5 {a : Int} (h0 : 0 ≤ a) (h : a < 1099511627776) : jq_shll a 5 = a * 32 := by
  have := pu_shll (a := a.toNat) (k := 5) (n := 5) (by decide) (by decide) (by omega)
  rw [show ((a.toNat : Nat) : Int) = a by omega] at this
  rw [this]
  omega
theorem pu_shl8 {a : Int} (h0 : 0 ≤ a) (h : a < 36028797018963968) : jq_shll a 8 = a * 256 := by
  have := pu_shll (a := a.toNat) (k := 8) (n := 8) (by decide) (by decide) (by omega)
  rw [show ((a.toNat : Nat) : Int) = a by omega] at this
  rw [this]
  omega
theorem pu_lor8 {a b : Int} (h0 : 0 ≤ a) (h : a < 36028797018963968) (b0 : 0 ≤ b) (b1 : b < 256) : jq_lorl (a * 256) b = a * 256 + b := by
  have e : (a * (256 : Int) : Int) = (((a.toNat <<< 8) : Nat) : Int) := by
    rw [Nat.shiftLeft_eq, Int.natCast_mul, Int.toNat_of_nonneg h0]
    rfl
  have e2 : b = ((b.toNat : Nat) : Int) := by omega
  have hs : a.toNat <<< 8 + b.toNat = a.toNat <<< 8 ||| b.toNat := Nat.shiftLeft_add_eq_or_of_lt (by omega) _
  have hl : a.toNat * 2 ^ 8 ≤ 9223372036854775808 - 256 := by omega
  rw [← Nat.shiftLeft_eq] at hl
  rw [e, e2]
  unfold jq_lorl
  refine (pu_toInt64 ((Int64.ofInt ((a.toNat <<< 8 : Nat) : Int)).toBitVec ||| (Int64.ofInt ((b.toNat : Nat) : Int)).toBitVec) (n := a.toNat <<< 8 + b.toNat) ?_ (by omega)).trans (by omega)
  rw [BitVec.toNat_or, pu_bv64 (by omega), pu_bv64 (by omega), hs]
/-- a byte as the reference has it -/
def pu_by (x : Int) : Int := if x < 0 then x + 256 else x
theorem pu_by0 : ∀ n : Nat, n < 256 → jq_and ((n : Int) - 128) 255 = pu_by ((n : Int) - 128) := by decide +kernel
theorem pu_by1 {x : Int} (h0 : -128 ≤ x) (h1 : x ≤ 127) : jq_and x 255 = pu_by x := by
  have := pu_by0 (x + 128).toNat (by omega)
  rw [show (((x + 128).toNat : Nat) : Int) - 128 = x by omega] at this
  exact this
def pu_bk (x : Int) : Prop := x = 32 ∨ x = 10
def pu_sm (x : Int) : Prop := 97 ≤ x ∧ x ≤ 122
def pu_dg (x : Int) : Prop := 48 ≤ x ∧ x ≤ 57
/-- s is where what Q holds of ends -/
def pu_to (Q : Int → Prop) (T : Int → Int) (L p s : Int) : Prop := p ≤ s ∧ s ≤ L ∧ (∀ j, p ≤ j → j < s → Q (T j)) ∧ (s < L → ¬ Q (T s))
section
variable {Q : Int → Prop} {T : Int → Int} {L p s s' e x y : Int} {σ : jq_M}
theorem pu_to_u (h : pu_to Q T L p s) (h' : pu_to Q T L p s') : s = s' := by
  obtain ⟨a1, a2, a3, a4⟩ := h
  obtain ⟨b1, b2, b3, b4⟩ := h'
  apply Classical.byContradiction
  intro g
  by_cases z : s < s'
  · exact a4 (by omega) (b3 s a1 z)
  · exact b4 (by omega) (a3 s' b1 (by omega))
/-- a loop along the text -/
theorem pu_walk {S E : Type} {f : S → Option (S ⊕ E)} (pos : S → Int) (I : S → Prop) (F : S → E → Prop) (h : ∀ s, I s → pos s ≤ L → (pos s < L ∧ Q (T (pos s)) ∧ ∃ s', f s = some (.inl s') ∧ pos s' = pos s + 1 ∧ I s') ∨ (¬ (pos s < L ∧ Q (T (pos s))) ∧ ∃ e, f s = some (.inr e) ∧ F s e)) : ∀ s0, I s0 → pos s0 ≤ L → ∃ s e, jq_lp f s0 = some e ∧ F s e ∧ I s ∧ pu_to Q T L (pos s0) (pos s) := by
  have key : ∀ (d : Nat) s0, I s0 → pos s0 + d = L → ∃ s e, jq_lp f s0 = some e ∧ F s e ∧ I s ∧ pu_to Q T L (pos s0) (pos s) := by
    intro d
    induction d with
    | zero =>
      intro s0 i0 hp
      rcases h s0 i0 (by omega) with ⟨a, -⟩ | ⟨a, e, b, c⟩
      · omega
      · exact ⟨s0, e, jq_lp_inr b, c, i0, Int.le_refl _, by omega, fun j x y => by omega, fun q => by omega⟩
    | succ d ih =>
      intro s0 i0 hp
      rcases h s0 i0 (by omega) with ⟨a, b, s', c, g, i'⟩ | ⟨a, e, b, c⟩
      · obtain ⟨s, e, h1, h2, h3, h4, h5, h6, h7⟩ := ih s' i' (by omega)
        refine ⟨s, e, (jq_lp_inl c).trans h1, h2, h3, by omega, h5, fun j x y => ?_, h7⟩
        by_cases z : j = pos s0
        · rw [z]; exact b
        · exact h6 j (by omega) y
      · exact ⟨s0, e, jq_lp_inr b, c, i0, Int.le_refl _, by omega, fun j x y => by omega, fun q w => a ⟨q, w⟩⟩
  intro s0 i0 hp
  exact key (L - pos s0).toNat s0 i0 (by omega)
/-- n letters from s on, the last first; a number's n digits -/
def pu_wl (T : Int → Int) (s : Int) : Nat → List Int
  | 0 => []
  | n + 1 => T (s + (n : Int)) :: pu_wl T s n
def pu_nv (T : Int → Int) (s : Int) : Nat → Int
  | 0 => 0
  | n + 1 => pu_nv T s n * 10 + T (s + (n : Int)) - 48
theorem pu_wl_l : ∀ n : Nat, (pu_wl T s n).length = n := by
  intro n
  induction n with
  | zero => rfl
  | succ n ih => show (pu_wl T s n).length + 1 = n + 1; rw [ih]
theorem pu_wl_m : ∀ n : Nat, (∀ j, s ≤ j → j < s + (n : Int) → pu_sm (T j)) → ∀ x ∈ pu_wl T s n, 97 ≤ x ∧ x ≤ 122 := by
  intro n
  induction n with
  | zero => intro _ x hx; cases hx
  | succ n ih =>
    intro h x hx
    rcases List.mem_cons.mp hx with rfl | hx
    · exact h _ (by omega) (by omega)
    · exact ih (fun j a b => h j a (by omega)) x hx
theorem pu_c5_b : ∀ w : List Int, (∀ x ∈ w, 97 ≤ x ∧ x ≤ 122) → 0 ≤ pu_c5 w ∧ pu_c5 w < 32 ^ w.length := by
  intro w
  induction w with
  | nil => intro _; exact ⟨Int.le_refl _, by decide⟩
  | cons y w ih =>
    intro h
    have a := ih (fun x hx => h x (List.mem_cons_of_mem _ hx))
    have b := h y List.mem_cons_self
    show 0 ≤ pu_c5 w * 32 + (y - 96) ∧ pu_c5 w * 32 + (y - 96) < 32 ^ (w.length + 1)
    rw [Int.pow_succ]
    generalize (32 : Int) ^ w.length = z at a
    omega
theorem pu_c5_i : ∀ w v : List Int, (∀ x ∈ w, 97 ≤ x ∧ x ≤ 122) → (∀ x ∈ v, 97 ≤ x ∧ x ≤ 122) → pu_c5 w = pu_c5 v → w = v := by
  intro w
  induction w with
  | nil =>
    intro v _ hv h
    cases v with
    | nil => rfl
    | cons y v =>
      have a := (pu_c5_b v (fun x hx => hv x (List.mem_cons_of_mem _ hx))).1
      have b := hv y List.mem_cons_self
      have h2 : 0 = pu_c5 v * 32 + (y - 96) := h
      omega
  | cons z w ih =>
    intro v hw hv h
    have a := (pu_c5_b w (fun x hx => hw x (List.mem_cons_of_mem _ hx))).1
    have b := hw z List.mem_cons_self
    cases v with
    | nil =>
      have h2 : pu_c5 w * 32 + (z - 96) = 0 := h
      omega
    | cons y v =>
      have a2 := (pu_c5_b v (fun x hx => hv x (List.mem_cons_of_mem _ hx))).1
      have b2 := hv y List.mem_cons_self
      have h2 : pu_c5 w * 32 + (z - 96) = pu_c5 v * 32 + (y - 96) := h
      have e1 : z = y := by omega
      have e2 : pu_c5 w = pu_c5 v := by omega
      rw [e1, ih v (fun x hx => hw x (List.mem_cons_of_mem _ hx)) (fun x hx => hv x (List.mem_cons_of_mem _ hx)) e2]
theorem pu_c8_b : ∀ w : List Int, (∀ x ∈ w, 97 ≤ x ∧ x ≤ 122) → 0 ≤ pu_c8 w ∧ pu_c8 w < 123 * 256 ^ (w.length - 1) := by
  intro w
  induction w with
  | nil => intro _; exact ⟨Int.le_refl _, by decide⟩
  | cons y w ih =>
    intro h
    have a := ih (fun x hx => h x (List.mem_cons_of_mem _ hx))
    have b := h y List.mem_cons_self
    show 0 ≤ pu_c8 w * 256 + y ∧ pu_c8 w * 256 + y < 123 * 256 ^ (w.length + 1 - 1)
    cases w with
    | nil =>
      show 0 ≤ 0 * 256 + y ∧ 0 * 256 + y < 123 * 256 ^ 0
      omega
    | cons u w =>
      have e : (256 : Int) ^ ((u :: w).length + 1 - 1) = 256 ^ ((u :: w).length - 1) * 256 := by
        show (256 : Int) ^ (w.length + 1) = 256 ^ w.length * 256
        rw [Int.pow_succ]
      rw [e]
      generalize (256 : Int) ^ ((u :: w).length - 1) = z at a
      omega
theorem pu_nv_b : ∀ n : Nat, (∀ j, s ≤ j → j < s + (n : Int) → pu_dg (T j)) → 0 ≤ pu_nv T s n ∧ pu_nv T s n < 10 ^ n := by
  intro n
  induction n with
  | zero => intro _; exact ⟨Int.le_refl _, show (0 : Int) < 10 ^ 0 by decide⟩
  | succ n ih =>
    intro h
    have a := ih (fun j x y => h j x (by omega))
    have b := h (s + (n : Int)) (by omega) (by omega)
    unfold pu_dg at b
    show 0 ≤ pu_nv T s n * 10 + T (s + (n : Int)) - 48 ∧ pu_nv T s n * 10 + T (s + (n : Int)) - 48 < 10 ^ (n + 1)
    rw [Int.pow_succ]
    generalize (10 : Int) ^ n = z at a
    omega
/-- which keyword -/
def pu_kk (w : List Int) (k : Int) : Prop := (k = -1 ∧ ∀ i : Nat, i < 28 → pu_kw[i]? ≠ some w) ∨ ∃ i : Nat, i < 28 ∧ k = (i : Int) ∧ pu_kw[i]? = some w
theorem pu_kw_l : ∀ w ∈ pu_kw, w.length ≤ 8 ∧ ∀ x ∈ w, 97 ≤ x ∧ x ≤ 122 := by decide +kernel
theorem pu_kw_d : ∀ i, i < 28 → ∀ j, j < 28 → pu_kw[i]? = pu_kw[j]? → i = j := by decide +kernel
/-- what a word tells: its name, whether it is a NAME, its keyword -/
def pu_wt (w : List Int) (nm isn kw : Int) : Prop := pu_kk w kw ∧ (isn = 1 ∧ w.length ≤ 8 ∧ kw = -1 ∧ nm = pu_c5 w ∨ isn = 0 ∧ (8 < w.length ∨ kw ≠ -1))
end
