/-! bits of small sets -/
def pu_pop (n : Nat) : Nat := (List.range 8).countP (fun k => n.testBit k)
theorem pu_bc0 : ∀ n : Nat, n < 256 → J6_bitCount_0f7a4 (n : Int) (fun _ _ => 0) = some ((pu_pop n : Nat) : Int) := by decide +kernel
theorem pu_bc {n : Nat} (h : n < 256) (σ : jq_M) : J6_bitCount_0f7a4 (n : Int) σ = some ((pu_pop n : Nat) : Int) := pu_bc0 n h
theorem pu_bits0 : ∀ n : Nat, n < 256 → jq_iter X11_bits_b4 9 (0, (n : Int)) = some ((pu_pop n : Nat) : Int) := by decide +kernel
theorem pu_bits {n : Nat} (h : n < 256) (σ : jq_M) : X11_bits (n : Int) σ = some ((pu_pop n : Nat) : Int) := by
  unfold X11_bits
  rw [jq_lp_some.mpr ⟨9, pu_bits0 n h⟩]
  rfl
theorem pu_isin {s k : Nat} (hs : s < 2147483648) (hk : k < 32) : (jq_and (jq_shr s k) 1 = 1) = (s.testBit k = true) := by
  rw [pu_shr ⟨by omega, by omega⟩ hk]
  rw [show (s : Int) / 2 ^ k = ((s / 2 ^ k : Nat) : Int) by rw [Int.natCast_ediv, Int.natCast_pow]; rfl]
  have h1 : s / 2 ^ k < 2147483648 := Nat.lt_of_le_of_lt (Nat.div_le_self _ _) hs
  rw [show (1 : Int) = ((1 : Nat) : Int) from rfl, pu_and h1 (by decide), Nat.and_one_is_mod]
  have h2 := Nat.testBit_eq_decide_div_mod_eq (x := s) (i := k)
  rw [h2]
  apply propext
  constructor
  · intro h; exact decide_eq_true (by omega)
  · intro h; have := of_decide_eq_true h; omega
theorem pu_isin_i {s : Nat} {k : Int} (hs : s < 2147483648) (h0 : 0 ≤ k) (hk : k < 32) : (jq_and (jq_shr s k) 1 = 1) = (s.testBit k.toNat = true) := by
  rw [← pu_isin hs (by omega), show ((k.toNat : Nat) : Int) = k by omega]
theorem pu_shl1_i {k : Int} (h0 : 0 ≤ k) (hk : k < 31) : jq_shl 1 k = ((2 ^ k.toNat : Nat) : Int) := by
  rw [← pu_shl1 k.toNat (by omega), show ((k.toNat : Nat) : Int) = k by omega]
theorem pu_xor {a b : Nat} (ha : a < 2147483648) (hb : b < 2147483648) : jq_xor a b = ((a ^^^ b : Nat) : Int) := by
  unfold jq_xor
  refine pu_toInt ((Int32.ofInt (a : Int)).toBitVec ^^^ (Int32.ofInt (b : Int)).toBitVec) ?_ (Nat.xor_lt_two_pow (n := 31) ha hb)
  rw [BitVec.toNat_xor, pu_bv ha, pu_bv hb]
theorem pu_tb_lt {a i : Nat} (ha : a < 2147483648) (hi : 31 ≤ i) : a.testBit i = false :=
  Nat.testBit_lt_two_pow (Nat.lt_of_lt_of_le ha (Nat.pow_le_pow_right (n := 2) (by decide) hi))
theorem pu_andn {a b : Nat} (ha : a < 2147483648) (hb : b < 2147483648) : jq_and a (jq_xor b (-1)) = ((a ^^^ (a &&& b) : Nat) : Int) := by
  unfold jq_and jq_xor
  rw [jq_oft]
  refine pu_toInt ((Int32.ofInt (a : Int)).toBitVec &&& ((Int32.ofInt (b : Int)).toBitVec ^^^ (Int32.ofInt (-1)).toBitVec)) ?_ (Nat.xor_lt_two_pow (n := 31) ha (Nat.lt_of_le_of_lt Nat.and_le_left ha))
  rw [BitVec.toNat_and, BitVec.toNat_xor, pu_bv ha, pu_bv hb, show (Int32.ofInt (-1)).toBitVec.toNat = 2 ^ 32 - 1 by decide]
  refine Nat.eq_of_testBit_eq (fun i => ?_)
  rw [Nat.testBit_and, Nat.testBit_xor, Nat.testBit_xor, Nat.testBit_and, Nat.testBit_two_pow_sub_one]
  by_cases hi : i < 32
  · cases a.testBit i <;> cases b.testBit i <;> simp [hi]
  · rw [pu_tb_lt ha (by omega)]; simp
theorem pu_andn0 {a b : Nat} (ha : a < 2147483648) (hb : b < 2147483648) : (jq_and a (jq_xor b (-1)) = 0) = (a &&& b = a) := by
  rw [pu_andn ha hb]
  apply propext
  constructor
  · intro h
    have h1 : a ^^^ (a &&& b) = 0 := by omega
    refine Nat.eq_of_testBit_eq (fun i => ?_)
    have h2 := congrArg (fun z => Nat.testBit z i) h1
    simp only [Nat.testBit_xor, Nat.testBit_and, Nat.zero_testBit] at h2 ⊢
    revert h2
    cases a.testBit i <;> cases b.testBit i <;> simp
  · intro h
    rw [h, Nat.xor_self]
    rfl
theorem pu_fold_set {P : Nat → Bool} {step : Nat → Int → Int} {n : Nat} (hn : n ≤ 30) (h : ∀ i, i < n → ∀ s : Nat, s < 2 ^ i → step i (s : Int) = if P i = true then jq_or s (jq_shl 1 i) else s) : pu_fold 0 step n = ((pu_set P n : Nat) : Int) := by
  induction n with
  | zero => rfl
  | succ n ih =>
    rw [pu_fold_s, ih (by omega) (fun i hi => h i (by omega)), h n (by omega) _ (pu_set_lt P n)]
    have h1 := pu_set_lt P n
    have h2 : (2 : Nat) ^ n < 2147483648 := Nat.lt_of_le_of_lt (Nat.pow_le_pow_right (n := 2) (by decide) (show n ≤ 30 by omega)) (by decide)
    rw [show pu_set P (n + 1) = if P n = true then pu_set P n ||| 2 ^ n else pu_set P n from rfl]
    by_cases hP : P n = true
    · rw [if_pos hP, if_pos hP, pu_shl1 n (by omega), pu_or (by omega) h2]
    · rw [if_neg hP, if_neg hP]
theorem pu_set_cg {P Q : Nat → Bool} {n : Nat} (h : ∀ i, i < n → P i = Q i) : pu_set P n = pu_set Q n := by
  refine Nat.eq_of_testBit_eq (fun k => ?_)
  rw [pu_set_tb, pu_set_tb]
  by_cases hk : k < n
  · rw [h k hk]
  · simp [hk]
/-! frames -/
section
variable {σ σ' : jq_M} {o : Int} {A A' N N' : Int → Int}
theorem pu_ag_tb (k : Nat) : (pu_ag A).testBit k = (decide (k < (A 3).toNat) && decide (A (98 + 5 * (k : Int) + 4) = 1)) := by
  unfold pu_ag
  rw [pu_set_tb]
theorem pu_ag_lt (h : A 3 ≤ 8) : pu_ag A < 256 := by
  unfold pu_ag
  exact Nat.lt_of_lt_of_le (pu_set_lt _ _) (show (2 : Nat) ^ (A 3).toNat ≤ 2 ^ 8 from Nat.pow_le_pow_right (by decide) (by omega))
theorem pu_ag_cg (h3 : A' 3 = A 3) (h : ∀ a, 0 ≤ a → a < A 3 → A' (98 + 5 * a + 4) = A (98 + 5 * a + 4)) : pu_ag A' = pu_ag A := by
  unfold pu_ag
  rw [h3]
  exact pu_set_cg (fun i hi => by rw [h i (by omega) (by omega)])
/-- what actions may change in the reference's numbers -/
def pu_dynj (j : Int) : Prop := j = 4 ∨ j = 5 ∨ 8 ≤ j ∧ j < 18 ∨ 18 ≤ j ∧ j < 98 ∧ (j - 18) % 4 = 3 ∨ 98 ≤ j ∧ j < 138 ∧ 3 ≤ (j - 98) % 5
def pu_dyn (A A' : Int → Int) : Prop := ∀ j, 0 ≤ j → j < 506 → ¬ pu_dynj j → A' j = A j
theorem pu_line_cg {w w' m m' : Int → Int} {n L W F S M : Int} (hn : 0 ≤ n) (hL : L ≤ 60) (hnL : n < L) (hA : ∀ j, j = 0 ∨ j = 1 ∨ j = 3 ∨ j = 6 ∨ 138 ≤ j → j < 506 → A' j = A j) (h : pu_line A w m n L W F S M) : pu_line A' w m n L W F S M := by
  unfold pu_line at h ⊢
  rw [hA 0 (by omega) (by omega), hA 1 (by omega) (by omega), hA 3 (by omega) (by omega), hA (138 + 6 * n) (by omega) (by omega), hA (139 + 6 * n) (by omega) (by omega), hA (140 + 6 * n) (by omega) (by omega), hA (142 + 6 * n) (by omega) (by omega), hA (143 + 6 * n) (by omega) (by omega)]
  exact h
theorem pu_RS.cg (h : pu_RS σ o A) (i6 : A 6 ≤ 60) (hA : ∀ j, j = 0 ∨ j = 1 ∨ j = 3 ∨ j = 6 ∨ 138 ≤ j → j < 506 → A' j = A j) (hs : ∀ k, 13 ≤ k → k < 18 → σ' (o + k) = σ (o + k)) : pu_RS σ' o A' := by
  unfold pu_RS at h ⊢
  rw [hs 13 (by omega) (by omega), hs 14 (by omega) (by omega), hs 15 (by omega) (by omega), hs 16 (by omega) (by omega), hs 17 (by omega) (by omega), hA 6 (by omega) (by omega)]
  refine ⟨?_, h.2⟩
  rcases h.1 with h | ⟨h1, h2, h3, h4⟩
  · exact Or.inl h
  · exact Or.inr ⟨h1, h2, h3, fun n h5 h6 => pu_line_cg (w' := A) (m' := A) h5 i6 h6 hA (h4 n h5 h6)⟩
theorem pu_inv.cg (h : pu_inv A) (hA : ∀ j, 0 ≤ j → j < 506 → A' j = A j) : pu_inv A' := by
  obtain ⟨i0, i1, i2, i3, i4, i5, i6, ip, iq, iw, ia⟩ := h
  unfold pu_inv
  rw [hA 0 (by omega) (by omega), hA 1 (by omega) (by omega), hA 2 (by omega) (by omega), hA 3 (by omega) (by omega), hA 4 (by omega) (by omega), hA 5 (by omega) (by omega), hA 6 (by omega) (by omega)]
  refine ⟨i0, i1, i2, i3, i4, i5, i6, fun p h0 h1 => ?_, fun p q h0 h1 h2 => ?_, fun k h0 h1 => ?_, fun a h0 h1 => ?_⟩
  · rw [hA (8 + 2 * p) (by omega) (by omega), hA (9 + 2 * p) (by omega) (by omega)]; exact ip p h0 h1
  · rw [hA (9 + 2 * p) (by omega) (by omega), hA (9 + 2 * q) (by omega) (by omega)]; exact iq p q h0 h1 h2
  · rw [hA (18 + 4 * k) (by omega) (by omega), hA (19 + 4 * k) (by omega) (by omega), hA (20 + 4 * k) (by omega) (by omega), hA (21 + 4 * k) (by omega) (by omega)]; exact iw k h0 h1
  · rw [hA (98 + 5 * a) (by omega) (by omega), hA (99 + 5 * a) (by omega) (by omega), hA (100 + 5 * a) (by omega) (by omega), hA (101 + 5 * a) (by omega) (by omega), hA (102 + 5 * a) (by omega) (by omega)]; exact ia a h0 h1
theorem pu_RC.cg (h : pu_RC σ o A) (hI : pu_inv A) (hA : ∀ j, 0 ≤ j → j < 506 → A' j = A j) : pu_RC σ o A' := by
  obtain ⟨i0, i1, i2, i3, i4, i5, i6, -⟩ := hI
  obtain ⟨⟨c0, c1, c2, c3, c4, c5, c6⟩, cp, cw, ca⟩ := h
  unfold pu_RC
  rw [hA 0 (by omega) (by omega), hA 1 (by omega) (by omega), hA 2 (by omega) (by omega), hA 3 (by omega) (by omega), hA 4 (by omega) (by omega), hA 5 (by omega) (by omega), pu_ag_cg (hA 3 (by omega) (by omega)) (fun a h0 h1 => hA _ (by omega) (by omega))]
  refine ⟨⟨c0, c1, c2, c3, c4, c5, c6⟩, fun p h0 h1 => ?_, fun k h0 h1 => ?_, fun a h0 h1 => ?_⟩
  · rw [hA (8 + 2 * p) (by omega) (by omega), hA (9 + 2 * p) (by omega) (by omega)]; exact cp p h0 h1
  · rw [hA (18 + 4 * k) (by omega) (by omega), hA (19 + 4 * k) (by omega) (by omega), hA (20 + 4 * k) (by omega) (by omega), hA (21 + 4 * k) (by omega) (by omega)]; exact cw k h0 h1
  · rw [hA (98 + 5 * a) (by omega) (by omega), hA (99 + 5 * a) (by omega) (by omega), hA (100 + 5 * a) (by omega) (by omega), hA (101 + 5 * a) (by omega) (by omega)]; exact ca a h0 h1
theorem pu_RN.cg (h : pu_RN σ o A N) (h1 : A' 1 = A 1) (h3 : A' 3 = A 3) (i1 : A 1 ≤ 5) (i3 : A 3 ≤ 8) (hN : ∀ j, 0 ≤ j → j < 13 → N' j = N j) (s1 : σ' (o + 1) = σ (o + 1)) (s8 : σ' (o + 8) = σ (o + 8)) : pu_RN σ' o A' N' := by
  unfold pu_RN at h ⊢
  rw [h1, h3, s1, s8]
  refine ⟨fun p a b => ?_, fun p a b => ?_⟩
  · rw [hN p (by omega) (by omega)]; exact h.1 p a b
  · rw [hN (5 + p) (by omega) (by omega)]; exact h.2 p a b
theorem pu_CM.cg (h : pu_CM σ o A N) (hA : ∀ j, 0 ≤ j → j < 506 → A' j = A j) (hN : ∀ j, 0 ≤ j → j < 13 → N' j = N j) : pu_CM σ o A' N' := by
  obtain ⟨h1, h2, h3, h4, h5⟩ := h
  have h1' := h1
  obtain ⟨i0, i1, i2, i3, i4, i5, i6, -⟩ := h1'
  exact ⟨h1.cg hA, h2.cg h1 hA, h3.cg (hA 1 (by omega) (by omega)) (hA 3 (by omega) (by omega)) (by omega) (by omega) hN rfl rfl, h4.cg (by omega) (fun j h0 h1 => hA j (by omega) h1) (fun _ _ _ => rfl), by rw [hA 4 (by omega) (by omega)]; exact h5⟩
/-- after actions: only the numbers that they change are to be shown anew -/
theorem pu_CM.act (h : pu_CM σ o A N) (hI : pu_inv A') (hC : pu_RC σ' o A') (hA : pu_dyn A A') (hs : ∀ k, k = 1 ∨ k = 8 ∨ 13 ≤ k ∧ k < 18 → σ' (o + k) = σ (o + k)) (hN : ∀ j, 0 ≤ j → j < 13 → N' j = N j) (hd : A' 4 ≤ 9999) : pu_CM σ' o A' N' := by
  obtain ⟨h1, h2, h3, h4, h5⟩ := h
  obtain ⟨i0, i1, i2, i3, i4, i5, i6, -⟩ := h1
  exact ⟨hI, hC, h3.cg (hA 1 (by omega) (by omega) (by unfold pu_dynj; omega)) (hA 3 (by omega) (by omega) (by unfold pu_dynj; omega)) (by omega) (by omega) hN (hs 1 (by omega)) (hs 8 (by omega)), h4.cg (by omega) (fun j h0 h1 => hA j (by omega) h1 (by unfold pu_dynj; omega)) (fun k a b => hs k (by omega)), hd⟩
end
/-- the end of a call that changes the committee of now, the status and scratch -/
theorem pu_end {σ1 σ2 τ1 τ2 : jq_M} {v : Int} (h : jq_Rel σ1 σ2) (f1 : ∀ k, k ≠ 0 → ¬ (5 ≤ k ∧ k < 45) → ¬ pu_scr k → τ1 k = σ1 k) (g1 : ∀ j, j = 1 ∨ j = 2 ∨ j = 5 ∨ j = 6 ∨ j = 7 ∨ j = 8 ∨ j = 11 ∨ j = 16 → τ1 0 j = σ1 0 j)
    (f2 : ∀ k, k = 3 ∨ k = 4 ∨ k = 5 ∨ k = 6 ∨ k = 17 → τ2 k = σ2 k) (f2a : ∀ j, 506 ≤ j → j < 2024 → τ2 1 j = σ2 1 j) (f2n : ∀ j, 13 ≤ j → j < 52 → τ2 2 j = σ2 2 j) (g2 : ∀ j, j = 3 ∨ j = 4 ∨ j = 10 ∨ j = 16 ∨ j = 17 ∨ j = 35 ∨ j = 36 → τ2 0 j = σ2 0 j)
    (hC : pu_CM τ1 (σ1 0 7) (τ2 1) (τ2 2)) : jq_Rel (jq_st τ1 0 0 v) (jq_st τ2 0 2 v) := by
  obtain ⟨⟨e0, e1, e2, e3, e4⟩, hn, -, ⟨m1, m2, m3, m4⟩, hT, ⟨t1, t2, t3, t4⟩, ⟨l1, l2⟩, hK⟩ := h
  have q1 : ∀ k, k ≠ 0 → ¬ (5 ≤ k ∧ k < 45) → ¬ pu_scr k → jq_st τ1 0 0 v k = σ1 k := fun k hk h5 hs => (pu_st_ne hk).trans (f1 k hk h5 hs)
  have q0 : ∀ j, j = 1 ∨ j = 2 ∨ j = 5 ∨ j = 6 ∨ j = 7 ∨ j = 8 ∨ j = 11 ∨ j = 16 → jq_st τ1 0 0 v 0 j = σ1 0 j := fun j hj => by rw [pu_st_b (by omega)]; exact g1 j hj
  have r1 : ∀ k, k ≠ 0 → jq_st τ2 0 2 v k = τ2 k := fun k hk => pu_st_ne hk
  have r0 : ∀ j, j = 3 ∨ j = 4 ∨ j = 10 ∨ j = 16 ∨ j = 17 ∨ j = 35 ∨ j = 36 → jq_st τ2 0 2 v 0 j = σ2 0 j := fun j hj => by rw [pu_st_b (by omega)]; exact g2 j hj
  unfold jq_Rel
  rw [pu_st_a, pu_st_a, q0 1 (by omega), q0 2 (by omega), q0 5 (by omega), q0 6 (by omega), q0 7 (by omega), q0 8 (by omega), q0 11 (by omega), q0 16 (by omega), r0 3 (by omega), r0 4 (by omega), r0 16 (by omega), r0 17 (by omega), r0 36 (by omega), r0 10 (by omega), r0 35 (by omega), r1 1 (by omega), r1 2 (by omega), r1 3 (by omega), r1 4 (by omega), r1 5 (by omega), r1 6 (by omega), r1 17 (by omega), f2 3 (by omega), f2 4 (by omega), f2 5 (by omega), f2 6 (by omega), f2 17 (by omega)]
  rw [q1 2 (by omega) (by omega) (by unfold pu_scr; omega), q1 3 (by omega) (by omega) (by unfold pu_scr; omega), q1 4 (by omega) (by omega) (by unfold pu_scr; omega), q1 62 (by omega) (by omega) (by unfold pu_scr; omega)]
  refine ⟨⟨rfl, e1, e2, e3, e4⟩, hn, hC.mv (fun k h0 h1 => pu_st_ne (by omega)), ⟨m1, m2, m3, fun i h0 h1 => ?_⟩, fun t h0 h1 => ?_, ⟨t1, t2, t3, t4⟩, ⟨l1, l2⟩, hK⟩
  · refine ((m4 i h0 h1).mv (fun k h2 h3 => q1 _ (by omega) (by omega) (by unfold pu_scr; omega))).cg (fun j a b => f2a _ (by omega) (by omega)) (fun j a b => f2n _ (by omega) (by omega))
  · rw [q1 (64 + 2 * t) (by omega) (by omega) (by unfold pu_scr; omega), q1 (65 + 2 * t) (by omega) (by omega) (by unfold pu_scr; omega)]
    exact hT t h0 h1
theorem pu_fr2_9 {σ σ' : jq_M} (h : ∀ k, k ≠ 9 → σ' k = σ k) : pu_fr2 σ σ' :=
  ⟨⟨h 1 (by omega), h 2 (by omega), h 3 (by omega), h 4 (by omega), h 5 (by omega), h 6 (by omega), h 17 (by omega)⟩, fun j _ => by rw [h 0 (by omega)]⟩
theorem pu_nf {σ1 σ2 τ1 τ2 : jq_M} (h : jq_Rel σ1 σ2) (f1 : pu_fr1 σ1 τ1) (f2 : pu_fr2 σ2 τ2) {r v : Int} {a b : Option (Int × jq_M)} (h1 : a = some (r, jq_st τ1 0 0 v)) (h2 : b = some (r, jq_st τ2 0 2 v)) : ∃ (r : Int) (σ1' σ2' : jq_M), a = some (r, σ1') ∧ b = some (r, σ2') ∧ jq_Rel σ1' σ2' :=
  ⟨r, _, _, h1, h2, pu_fin h f1 f2⟩
