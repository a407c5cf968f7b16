/-! numbers: a Java int, long as the integer that it is -/
def jq_w (x : Int) : Int := (x + 2147483648) % 4294967296 - 2147483648
def jq_w64 (x : Int) : Int := (x + 9223372036854775808) % 18446744073709551616 - 9223372036854775808
def jq_w8 (x : Int) : Int := (x + 128) % 256 - 128
def jq_w16 (x : Int) : Int := (x + 32768) % 65536 - 32768
def jq_r (x : Int) : Prop := -2147483648 ≤ x ∧ x < 2147483648
def jq_rl (x : Int) : Prop := -9223372036854775808 ≤ x ∧ x < 9223372036854775808
theorem jq_w_r (x : Int) : jq_r (jq_w x) := by unfold jq_r jq_w; omega
theorem jq_w64_r (x : Int) : jq_rl (jq_w64 x) := by unfold jq_rl jq_w64; omega
theorem jq_w_id {x : Int} (h : jq_r x) : jq_w x = x := by unfold jq_r at h; unfold jq_w; omega
theorem jq_w64_id {x : Int} (h : jq_rl x) : jq_w64 x = x := by unfold jq_rl at h; unfold jq_w64; omega
theorem jq_toInt (x : Int) : (Int32.ofInt x).toInt = jq_w x := by
  rw [Int32.toInt_ofInt]
  unfold jq_w Int.bmod
  simp only [Int32.size]
  omega
theorem jq_toInt64 (x : Int) : (Int64.ofInt x).toInt = jq_w64 x := by
  rw [Int64.toInt_ofInt]
  unfold jq_w64 Int.bmod
  simp only [Int64.size]
  omega
theorem jq_of_w (x : Int) : Int32.ofInt (jq_w x) = Int32.ofInt x := by
  apply Int32.toInt_inj.mp
  rw [jq_toInt, jq_toInt, jq_w_id (jq_w_r x)]
theorem jq_of_w64 (x : Int) : Int64.ofInt (jq_w64 x) = Int64.ofInt x := by
  apply Int64.toInt_inj.mp
  rw [jq_toInt64, jq_toInt64, jq_w64_id (jq_w64_r x)]
theorem jq_ti_r (x : Int32) : jq_r x.toInt := ⟨Int32.le_toInt x, Int32.toInt_lt x⟩
theorem jq_ti_rl (x : Int64) : jq_rl x.toInt := ⟨Int64.le_toInt x, Int64.toInt_lt x⟩
theorem jq_oft (x : Int32) : Int32.ofInt x.toInt = x := Int32.ofInt_toInt x
theorem jq_oft64 (x : Int64) : Int64.ofInt x.toInt = x := Int64.ofInt_toInt x
theorem jq_lt32 {a b : Int} (ha : jq_r a) (hb : jq_r b) : Int32.ofInt a < Int32.ofInt b ↔ a < b := by
  rw [Int32.lt_iff_toInt_lt, jq_toInt, jq_toInt, jq_w_id ha, jq_w_id hb]
theorem jq_le32 {a b : Int} (ha : jq_r a) (hb : jq_r b) : Int32.ofInt a ≤ Int32.ofInt b ↔ a ≤ b := by
  rw [Int32.le_iff_toInt_le, jq_toInt, jq_toInt, jq_w_id ha, jq_w_id hb]
theorem jq_eq32 {a b : Int} (ha : jq_r a) (hb : jq_r b) : Int32.ofInt a = Int32.ofInt b ↔ a = b := by
  rw [← Int32.toInt_inj, jq_toInt, jq_toInt, jq_w_id ha, jq_w_id hb]
theorem jq_lt64 {a b : Int} (ha : jq_rl a) (hb : jq_rl b) : Int64.ofInt a < Int64.ofInt b ↔ a < b := by
  rw [Int64.lt_iff_toInt_lt, jq_toInt64, jq_toInt64, jq_w64_id ha, jq_w64_id hb]
theorem jq_eq64 {a b : Int} (ha : jq_rl a) (hb : jq_rl b) : Int64.ofInt a = Int64.ofInt b ↔ a = b := by
  rw [← Int64.toInt_inj, jq_toInt64, jq_toInt64, jq_w64_id ha, jq_w64_id hb]
/-! operations -/
def jq_and (a b : Int) : Int := (Int32.ofInt a &&& Int32.ofInt b).toInt
def jq_or (a b : Int) : Int := (Int32.ofInt a ||| Int32.ofInt b).toInt
def jq_xor (a b : Int) : Int := (Int32.ofInt a ^^^ Int32.ofInt b).toInt
def jq_shl (a b : Int) : Int := (Int32.ofInt a <<< (Int32.ofInt b &&& 31)).toInt
def jq_shr (a b : Int) : Int := (Int32.ofInt a >>> (Int32.ofInt b &&& 31)).toInt
def jq_ushr (a b : Int) : Int := ((Int32.ofInt a).toUInt32 >>> ((Int32.ofInt b).toUInt32 &&& Int32.toUInt32 31)).toInt32.toInt
def jq_landl (a b : Int) : Int := (Int64.ofInt a &&& Int64.ofInt b).toInt
def jq_lorl (a b : Int) : Int := (Int64.ofInt a ||| Int64.ofInt b).toInt
def jq_cmp (a b : Int) : Int := if a < b then -1 else if a = b then 0 else 1
def jq_div (a b : Int) : Option Int := if b = 0 then none else some (jq_w (Int.tdiv a b))
def jq_rem (a b : Int) : Option Int := if b = 0 then none else some (jq_w (Int.tmod a b))
def jq_ldiv (a b : Int) : Option Int := if b = 0 then none else some (jq_w64 (Int.tdiv a b))
def jq_lrem (a b : Int) : Option Int := if b = 0 then none else some (jq_w64 (Int.tmod a b))
def jq_max (a b : Int) : Int := if a < b then b else a
def jq_min (a b : Int) : Int := if b < a then b else a
def jq_abs (a : Int) : Int := if 0 ≤ a then a else jq_w (-a)
/-! the memory: a cell, a place in it; steps of a program over it -/
abbrev jq_M : Type := Int → Int → Int
def jq_st (σ : jq_M) (k j v : Int) : jq_M := fun k' j' => if k' = k ∧ j' = j then v else σ k' j'
def jq_al (σ : jq_M) (k : Int) (f : Int → Int) : jq_M := fun k' j' => if k' = k then f j' else σ k' j'
def jq_ld (σ : jq_M) (k n i : Int) : Option Int := if 0 ≤ i ∧ i < n then some (σ k i) else none
def jq_sa (σ : jq_M) (k n i v : Int) : Option jq_M := if 0 ≤ i ∧ i < n then some (jq_st σ k i v) else none
/-- n places from one cell's place on to another's -/
def jq_cp (σ : jq_M) (k i k1 i1 n : Int) : jq_M := fun k' j' => if k' = k1 ∧ i1 ≤ j' ∧ j' < i1 + n then σ k (i + (j' - i1)) else σ k' j'
def jq_cpy (σ : jq_M) (k m i k1 m1 i1 n : Int) : Option jq_M := if 0 ≤ i ∧ 0 ≤ i1 ∧ 0 ≤ n ∧ i + n ≤ m ∧ i1 + n ≤ m1 then some (jq_cp σ k i k1 i1 n) else none
def jq_lt {α β : Type} (x : α) (f : α → β) : β := f x
def jq_b2 {α : Type} (o : Option (Int × jq_M)) (f : Int → jq_M → Option α) : Option α := o.bind fun q => f q.1 q.2
def jq_iter {S E : Type} (f : S → Option (S ⊕ E)) : Nat → S → Option E
  | 0, _ => none
  | n + 1, s => match f s with
    | none => none
    | some (.inl s') => jq_iter f n s'
    | some (.inr e) => some e
noncomputable def jq_lp {S E : Type} (f : S → Option (S ⊕ E)) (s : S) : Option E :=
  @dite (Option E) (∃ e, ∃ n, jq_iter f n s = some e) (Classical.propDecidable _) (fun h => some (Classical.choose h)) (fun _ => none)
theorem jq_iter_mono {S E : Type} {f : S → Option (S ⊕ E)} : ∀ (n k : Nat) (s : S) (e : E), jq_iter f n s = some e → jq_iter f (n + k) s = some e := by
  intro n
  induction n with
  | zero => intro k s e h; cases h
  | succ n ih =>
    intro k s e h
    rw [Nat.add_right_comm]
    simp only [jq_iter] at h ⊢
    split at h
    · cases h
    · exact ih k _ e h
    · exact h
theorem jq_iter_det {S E : Type} {f : S → Option (S ⊕ E)} {n m : Nat} {s : S} {e e' : E} (h : jq_iter f n s = some e) (h' : jq_iter f m s = some e') : e = e' := by
  have h1 := jq_iter_mono n m s e h
  have h2 := jq_iter_mono m n s e' h'
  rw [Nat.add_comm] at h2
  exact Option.some.inj (h1.symm.trans h2)
theorem jq_lp_some {S E : Type} {f : S → Option (S ⊕ E)} {s : S} {e : E} : jq_lp f s = some e ↔ ∃ n, jq_iter f n s = some e := by
  unfold jq_lp
  constructor
  · intro h
    split at h
    · rename_i hx
      obtain ⟨n, hn⟩ := Classical.choose_spec hx
      exact ⟨n, by rw [hn]; exact h⟩
    · cases h
  · rintro ⟨n, hn⟩
    split
    · rename_i hx
      obtain ⟨m, hm⟩ := Classical.choose_spec hx
      exact congrArg some (jq_iter_det hm hn)
    · rename_i hx
      exact absurd ⟨e, n, hn⟩ hx
theorem jq_lp_inl {S E : Type} {f : S → Option (S ⊕ E)} {s s' : S} (h : f s = some (.inl s')) : jq_lp f s = jq_lp f s' := by
  have key : ∀ e : E, jq_lp f s = some e ↔ jq_lp f s' = some e := by
    intro e
    rw [jq_lp_some, jq_lp_some]
    constructor
    · rintro ⟨n, hn⟩
      cases n with
      | zero => cases hn
      | succ n => exact ⟨n, by simpa only [jq_iter, h] using hn⟩
    · rintro ⟨n, hn⟩
      exact ⟨n + 1, by simpa only [jq_iter, h] using hn⟩
  cases h1 : jq_lp f s with
  | some e => exact ((key e).mp h1).symm
  | none =>
    cases h2 : jq_lp f s' with
    | none => rfl
    | some e => exact absurd ((key e).mpr h2) (by rw [h1]; simp)
theorem jq_lp_inr {S E : Type} {f : S → Option (S ⊕ E)} {s : S} {e : E} (h : f s = some (.inr e)) : jq_lp f s = some e :=
  jq_lp_some.mpr ⟨1, by simp only [jq_iter, h]⟩
/-- a loop that goes through known states -/
theorem jq_lp_run {S E : Type} {f : S → Option (S ⊕ E)} (g : Nat → S) (n : Nat) {e : E} (h : ∀ i, i < n → f (g i) = some (.inl (g (i + 1)))) (hx : f (g n) = some (.inr e)) : jq_lp f (g 0) = some e := by
  have key : ∀ i, i ≤ n → jq_lp f (g (n - i)) = some e := by
    intro i
    induction i with
    | zero => intro _; exact jq_lp_inr hx
    | succ i ih =>
      intro hi
      have h1 := h (n - (i + 1)) (by omega)
      rw [show n - (i + 1) + 1 = n - i by omega] at h1
      rw [jq_lp_inl h1]
      exact ih (by omega)
  have := key n (Nat.le_refl n)
  rwa [Nat.sub_self] at this
/-! what stands on the stack, in locals -/
abbrev jq_A : Type := Int ⊕ Int ⊕ Int ⊕ Nat
abbrev jI (x : Int) : jq_A := .inl x
abbrev jL (x : Int) : jq_A := .inr (.inl x)
abbrev jR (x : Int) : jq_A := .inr (.inr (.inl x))
abbrev jT (a : Nat) : jq_A := .inr (.inr (.inr a))
def jq_f (b : Nat) (k : Int) : Option Nat := if k < 0 then none else some (b + k.toNat)
abbrev jq_S : Type := Nat × Nat × Option Nat
/-- what lies outside of a system: its String constant, that one's bytes, a JDK object that is handed on -/
def jq_sv (ss : jq_S) (n : Nat) : Option Nat := if n = 0 then some ss.1 else if n = 1 then some ss.2.1 else ss.2.2
/-- of a cell the number in its system -/
def jq_e (b : Nat) (ss : jq_S) : jq_A → Value
  | .inl x => .int (Int32.ofInt x)
  | .inr (.inl x) => .long (Int64.ofInt x)
  | .inr (.inr (.inl k)) => va_rf (jq_f b k)
  | .inr (.inr (.inr n)) => va_rf (jq_sv ss n)
def jq_c : jq_A → Nat
  | .inr (.inl _) => 2
  | _ => 1
theorem jq_e_c (b : Nat) (ss : jq_S) (v : jq_A) : (jq_e b ss v).category = jq_c v := by
  rcases v with x | x | k | a
  · rfl
  · rfl
  · show (va_rf (jq_f b k)).category = 1
    cases jq_f b k <;> rfl
  · show (va_rf (jq_sv ss a)).category = 1
    cases jq_sv ss a <;> rfl
def jq_ok : jq_A → Prop
  | .inl x => jq_r x
  | .inr (.inl x) => jq_rl x
  | .inr (.inr _) => True
def jq_os (st : List jq_A) : Prop := ∀ v ∈ st, jq_ok v
theorem jq_os_c {v : jq_A} {st : List jq_A} : jq_os (v :: st) ↔ jq_ok v ∧ jq_os st := by unfold jq_os; exact List.forall_mem_cons
def jq_ol (L : List (Nat × jq_A)) : Prop := ∀ q ∈ L, jq_ok q.2
def jq_eL (b : Nat) (ss : jq_S) (L : List (Nat × jq_A)) : List (Nat × Value) := L.map fun q => (q.1, jq_e b ss q.2)
def jq_eS (b : Nat) (ss : jq_S) (st : List jq_A) : List Value := st.map (jq_e b ss)
theorem jq_eS_cat (b : Nat) (ss : jq_S) (st : List jq_A) : ((jq_eS b ss st).map fun v => v.category).sum = (st.map jq_c).sum := by
  unfold jq_eS
  rw [List.map_map]
  congr 1
  exact List.map_congr_left fun v _ => jq_e_c b ss v
def jq_J {α : Type} (F : Option α) (K : α → Prop) (G : Prop) : Prop := ∀ a, F = some a → K a → G
