/-! the seatings, one by one: a row of so many places -/
def pu_fr (u : Nat) : Nat → Nat → Nat
  | 0, p => p
  | f + 1, p => if p < 6 ∧ u.testBit p = true then pu_fr u f (p + 1) else p
def pu_fill : Nat → Nat → List Nat → List Nat
  | 0, _, r => r
  | m + 1, u, r => pu_fill m (u ||| 2 ^ pu_fr u 7 0) (r ++ [pu_fr u 7 0])
def pu_dn (P : Nat) (r : List Nat) : Nat → Nat → Option (Nat × Nat × Nat)
  | 0, _ => none
  | i + 1, u => if pu_fr (u ^^^ (u &&& 2 ^ r.getD i 0)) 7 (r.getD i 0 + 1) < P then some (u ^^^ (u &&& 2 ^ r.getD i 0), i, pu_fr (u ^^^ (u &&& 2 ^ r.getD i 0)) 7 (r.getD i 0 + 1)) else pu_dn P r i (u ^^^ (u &&& 2 ^ r.getD i 0))
def pu_us (r : List Nat) : Nat → Nat
  | 0 => 0
  | i + 1 => pu_us r i ||| 2 ^ r.getD i 0
def pu_go (P K : Nat) (r : List Nat) : List Nat := match pu_dn P r K (pu_us r K) with
  | none => r
  | some (u, i, f) => pu_fill (K - (i + 1)) (u ||| 2 ^ f) (r.take i ++ [f])
def pu_sbs (P : Nat) : Nat → Nat → Nat → List Nat → Option (List Nat)
  | 0, _, _, acc => some acc
  | m + 1, l, u, acc => if u.testBit (l % P) = true then none else pu_sbs P m (l / P) (u ||| 2 ^ (l % P)) (l % P :: acc)
def pu_row (P K c : Nat) : Option (List Nat) := pu_sbs P K c 0 []
def pu_last (P K : Nat) : Nat → Option (List Nat)
  | 0 => none
  | c + 1 => match pu_row P K c with
    | some r => some r
    | none => pu_last P K c
def pu_pc (P K c : Nat) : Bool := match pu_row P K c with
  | none => true
  | some r => match pu_last P K c with
    | none => r == pu_fill K 0 []
    | some q => r == pu_go P K q
def pu_cur (P K : Nat) : Nat → List Nat
  | 0 => pu_fill K 0 []
  | c + 1 => match pu_row P K c with
    | some _ => pu_go P K (pu_cur P K c)
    | none => pu_cur P K c
def pu_cn (P K : Nat) : Nat → Nat
  | 0 => 0
  | c + 1 => pu_cn P K c + if (pu_row P K c).isSome = true then 1 else 0
/-- from b on, m codes -/
def pu_cm (P K b : Nat) : Nat → Nat
  | 0 => 0
  | m + 1 => pu_cm P K b m + if (pu_row P K (b + m)).isSome = true then 1 else 0
def pu_cbl (P K B : Nat) : Nat → Nat
  | 0 => 0
  | a + 1 => pu_cbl P K B a + pu_cm P K (a * B) B
def pu_fal (P : Nat) : Nat → Nat
  | 0 => 1
  | k + 1 => pu_fal P k * (P - k)
theorem pu_pc_3 : ∀ K, K < 4 → ∀ a, a < 3 ^ (K / 2) → ∀ b, b < 3 ^ (K - K / 2) → pu_pc 3 K (a * 3 ^ (K - K / 2) + b) = true := by decide +kernel
theorem pu_pc_4 : ∀ K, K < 5 → ∀ a, a < 4 ^ (K / 2) → ∀ b, b < 4 ^ (K - K / 2) → pu_pc 4 K (a * 4 ^ (K - K / 2) + b) = true := by decide +kernel
theorem pu_pc_5 : ∀ K, K < 6 → ∀ a, a < 5 ^ (K / 2) → ∀ b, b < 5 ^ (K - K / 2) → pu_pc 5 K (a * 5 ^ (K - K / 2) + b) = true := by decide +kernel
theorem pu_pc_6 : ∀ K, K < 6 → ∀ a, a < 6 ^ (K / 2) → ∀ b, b < 6 ^ (K - K / 2) → pu_pc 6 K (a * 6 ^ (K - K / 2) + b) = true := by decide +kernel
theorem pu_cb_3 : ∀ K, K < 4 → pu_cbl 3 K (3 ^ (K - K / 2)) (3 ^ (K / 2)) = pu_fal 3 K := by decide +kernel
theorem pu_cb_4 : ∀ K, K < 5 → pu_cbl 4 K (4 ^ (K - K / 2)) (4 ^ (K / 2)) = pu_fal 4 K := by decide +kernel
theorem pu_cb_5 : ∀ K, K < 6 → pu_cbl 5 K (5 ^ (K - K / 2)) (5 ^ (K / 2)) = pu_fal 5 K := by decide +kernel
theorem pu_cb_6 : ∀ K, K < 6 → pu_cbl 6 K (6 ^ (K - K / 2)) (6 ^ (K / 2)) = pu_fal 6 K := by decide +kernel
section
variable {P K c : Nat}
theorem pu_pc_all (h3 : 3 ≤ P) (h6 : P ≤ 6) (hK : K ≤ 5) (hKP : K ≤ P) (hc : c < P ^ K) : pu_pc P K c = true := by
  have e : P ^ K = P ^ (K / 2) * P ^ (K - K / 2) := by rw [← Nat.pow_add, show K / 2 + (K - K / 2) = K by omega]
  have hB : 0 < P ^ (K - K / 2) := Nat.pow_pos (by omega)
  have h1 : c / P ^ (K - K / 2) < P ^ (K / 2) := Nat.div_lt_of_lt_mul (by rw [Nat.mul_comm, ← e]; exact hc)
  have h2 : c % P ^ (K - K / 2) < P ^ (K - K / 2) := Nat.mod_lt _ hB
  have h4 : c / P ^ (K - K / 2) * P ^ (K - K / 2) + c % P ^ (K - K / 2) = c := Nat.div_add_mod' c _
  have key : pu_pc P K (c / P ^ (K - K / 2) * P ^ (K - K / 2) + c % P ^ (K - K / 2)) = true := by
    rcases (show P = 3 ∨ P = 4 ∨ P = 5 ∨ P = 6 by omega) with rfl | rfl | rfl | rfl
    · exact pu_pc_3 K (by omega) _ h1 _ h2
    · exact pu_pc_4 K (by omega) _ h1 _ h2
    · exact pu_pc_5 K (by omega) _ h1 _ h2
    · exact pu_pc_6 K (by omega) _ h1 _ h2
  rw [h4] at key
  exact key
theorem pu_cm_n (b : Nat) : ∀ m, pu_cn P K (b + m) = pu_cn P K b + pu_cm P K b m := by
  intro m
  induction m with
  | zero => rfl
  | succ m ih =>
    show pu_cn P K (b + m) + (if (pu_row P K (b + m)).isSome = true then 1 else 0) = pu_cn P K b + (pu_cm P K b m + if (pu_row P K (b + m)).isSome = true then 1 else 0)
    rw [ih]
    omega
theorem pu_cbl_n (B : Nat) : ∀ a, pu_cn P K (a * B) = pu_cbl P K B a := by
  intro a
  induction a with
  | zero => rw [Nat.zero_mul]; rfl
  | succ a ih =>
    rw [Nat.succ_mul, pu_cm_n, ih]
    rfl
theorem pu_cn_all (h3 : 3 ≤ P) (h6 : P ≤ 6) (hK : K ≤ 5) (hKP : K ≤ P) : pu_cn P K (P ^ K) = pu_fal P K := by
  have e : P ^ K = P ^ (K / 2) * P ^ (K - K / 2) := by rw [← Nat.pow_add, show K / 2 + (K - K / 2) = K by omega]
  rw [e, pu_cbl_n]
  rcases (show P = 3 ∨ P = 4 ∨ P = 5 ∨ P = 6 by omega) with rfl | rfl | rfl | rfl
  · exact pu_cb_3 K (by omega)
  · exact pu_cb_4 K (by omega)
  · exact pu_cb_5 K (by omega)
  · exact pu_cb_6 K (by omega)
theorem pu_cur_last (h3 : 3 ≤ P) (h6 : P ≤ 6) (hK : K ≤ 5) (hKP : K ≤ P) : ∀ c, c ≤ P ^ K → (pu_last P K c = none → pu_cur P K c = pu_fill K 0 []) ∧ (∀ q, pu_last P K c = some q → pu_cur P K c = pu_go P K q) ∧ ∀ r, pu_row P K c = some r → c < P ^ K → pu_cur P K c = r := by
  intro c
  induction c with
  | zero =>
    intro _
    refine ⟨fun _ => rfl, fun q h => (by cases h), fun r h hc => ?_⟩
    have := pu_pc_all h3 h6 hK hKP hc
    unfold pu_pc at this
    rw [h] at this
    exact (eq_of_beq this).symm
  | succ c ih =>
    intro hc
    obtain ⟨i1, i2, i3⟩ := ih (by omega)
    have a : (pu_last P K (c + 1) = none → pu_cur P K (c + 1) = pu_fill K 0 []) ∧ ∀ q, pu_last P K (c + 1) = some q → pu_cur P K (c + 1) = pu_go P K q := by
      unfold pu_last pu_cur
      cases h : pu_row P K c with
      | none => exact ⟨i1, i2⟩
      | some r =>
        refine ⟨fun q => (by cases q), fun q hq => ?_⟩
        cases hq
        show pu_go P K (pu_cur P K c) = _
        rw [i3 r h (by omega)]
    refine ⟨a.1, a.2, fun r h hc2 => ?_⟩
    have := pu_pc_all h3 h6 hK hKP hc2
    unfold pu_pc at this
    rw [h] at this
    cases hl : pu_last P K (c + 1) with
    | none =>
      rw [hl] at this
      rw [a.1 hl, eq_of_beq this]
    | some q =>
      rw [hl] at this
      rw [a.2 q hl, eq_of_beq this]
end
/-- two loops: one over all codes, one over those that are seatings -/
theorem pu_enum {S T E F : Type} {f : S → Option (S ⊕ E)} {g : T → Option (T ⊕ F)} (N : Nat) (ok : Nat → Bool) (R : Nat → S → T → Prop) (Q : E → F → Prop) (hskip : ∀ c s t, c < N → ok c = false → R c s t → ∃ t', g t = some (.inl t') ∧ R (c + 1) s t') (hstep : ∀ c s t, c < N → ok c = true → R c s t → (∃ s' t', f s = some (.inl s') ∧ g t = some (.inl t') ∧ R (c + 1) s' t') ∨ ∃ e e', f s = some (.inr e) ∧ g t = some (.inr e') ∧ Q e e') (hend : ∀ s t, R N s t → ∃ e e', f s = some (.inr e) ∧ g t = some (.inr e') ∧ Q e e') {s : S} {t : T} (h0 : R 0 s t) : ∃ e e', jq_lp f s = some e ∧ jq_lp g t = some e' ∧ Q e e' := by
  have key : ∀ k c s t, c + k = N → R c s t → ∃ e e', jq_lp f s = some e ∧ jq_lp g t = some e' ∧ Q e e' := by
    intro k
    induction k with
    | zero =>
      intro c s t hc hR
      rw [show c = N by omega] at hR
      obtain ⟨e, e', h1, h2, h3⟩ := hend s t hR
      exact ⟨e, e', jq_lp_inr h1, jq_lp_inr h2, h3⟩
    | succ k ih =>
      intro c s t hc hR
      cases ho : ok c with
      | false =>
        obtain ⟨t', h1, h2⟩ := hskip c s t (by omega) ho hR
        obtain ⟨e, e', h3, h4, h5⟩ := ih (c + 1) s t' (by omega) h2
        exact ⟨e, e', h3, (jq_lp_inl h1).trans h4, h5⟩
      | true =>
        rcases hstep c s t (by omega) ho hR with ⟨s', t', h1, h2, h3⟩ | ⟨e, e', h1, h2, h3⟩
        · obtain ⟨e, e', h4, h5, h6⟩ := ih (c + 1) s' t' (by omega) h3
          exact ⟨e, e', (jq_lp_inl h1).trans h4, (jq_lp_inl h2).trans h5, h6⟩
        · exact ⟨e, e', jq_lp_inr h1, jq_lp_inr h2, h3⟩
  exact key N 0 s t (by omega) h0
