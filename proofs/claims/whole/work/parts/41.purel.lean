/-! THE RELATION between the class's memory and the reference's; A: the reference's numbers of one committee, N: its names -/
def pu_set (P : Nat → Bool) : Nat → Nat
  | 0 => 0
  | n + 1 => if P n then pu_set P n ||| 2 ^ n else pu_set P n
theorem pu_set_lt (P : Nat → Bool) (n : Nat) : pu_set P n < 2 ^ n := by
  induction n with
  | zero => show (0 : Nat) < 1; omega
  | succ n ih =>
    have h1 : pu_set P n < 2 ^ (n + 1) := Nat.lt_trans ih (by rw [Nat.pow_succ]; omega)
    unfold pu_set
    split
    · exact Nat.or_lt_two_pow h1 (by rw [Nat.pow_succ]; have := Nat.two_pow_pos n; omega)
    · exact h1
theorem pu_set_tb (P : Nat → Bool) (n k : Nat) : (pu_set P n).testBit k = (decide (k < n) && P k) := by
  induction n with
  | zero => simp [pu_set]
  | succ n ih =>
    unfold pu_set
    by_cases hP : P n = true
    · rw [if_pos hP, Nat.testBit_or, ih, Nat.testBit_two_pow]
      by_cases h1 : n = k
      · subst h1; simp [hP]
      · have : (decide (k < n + 1)) = decide (k < n) := by
          by_cases q : k < n
          · simp [q]; omega
          · simp [q]; omega
        rw [this]
        simp [h1]
    · rw [if_neg hP, ih]
      by_cases h1 : n = k
      · subst h1; simp [hP]
      · have : (decide (k < n + 1)) = decide (k < n) := by
          by_cases q : k < n
          · simp [q]; omega
          · simp [q]; omega
        rw [this]
/-- the set of what is agreed -/
def pu_ag (A : Int → Int) : Nat := pu_set (fun a => decide (A (98 + 5 * (a : Int) + 4) = 1)) (A 3).toNat
def pu_inv (A : Int → Int) : Prop :=
  (A 0 = 0 ∨ 3 ≤ A 0 ∧ A 0 ≤ 6) ∧ (0 ≤ A 1 ∧ A 1 ≤ 5 ∧ A 1 ≤ A 0) ∧ (0 ≤ A 2 ∧ A 2 ≤ 20) ∧ (0 ≤ A 3 ∧ A 3 ≤ 8) ∧ (0 ≤ A 4 ∧ A 4 ≤ 1000000) ∧ (0 ≤ A 5 ∧ A 5 < 64) ∧ (-1 ≤ A 6 ∧ A 6 ≤ 60) ∧
  (∀ p, 0 ≤ p → p < A 1 → 0 ≤ A (8 + 2 * p) ∧ A (8 + 2 * p) ≤ 50 ∧ -1 ≤ A (9 + 2 * p) ∧ A (9 + 2 * p) < A 0) ∧
  (∀ p q, 0 ≤ p → p < q → q < A 1 → A (9 + 2 * p) ≠ -1 → A (9 + 2 * p) ≠ A (9 + 2 * q)) ∧
  (∀ k, 0 ≤ k → k < A 2 → 0 ≤ A (18 + 4 * k) ∧ A (18 + 4 * k) < A 1 ∧ (A (19 + 4 * k) = 2 ∨ (A (19 + 4 * k) = 0 ∨ A (19 + 4 * k) = 1) ∧ 0 ≤ A (20 + 4 * k) ∧ A (20 + 4 * k) < A 1) ∧ -1 ≤ A (20 + 4 * k) ∧ -9 ≤ A (21 + 4 * k) ∧ A (21 + 4 * k) ≤ 9) ∧
  (∀ a, 0 ≤ a → a < A 3 → 1 ≤ A (98 + 5 * a) ∧ A (98 + 5 * a) ≤ 30 ∧ 0 ≤ A (99 + 5 * a) ∧ A (99 + 5 * a) ≤ 16 ∧ (0 ≤ A (100 + 5 * a) ∧ A (100 + 5 * a) < 2 ^ a.toNat) ∧ (0 ≤ A (101 + 5 * a) ∧ A (101 + 5 * a) ≤ A (98 + 5 * a)) ∧ (A (102 + 5 * a) = 0 ∧ A (101 + 5 * a) < A (98 + 5 * a) ∨ A (102 + 5 * a) = 1))
/-- the class's committee at o tells A -/
def pu_RC (σ : jq_M) (o : Int) (A : Int → Int) : Prop :=
  (σ o 0 = A 0 ∧ σ o 1 = A 5 ∧ σ o 2 = A 1 ∧ σ o 3 = A 2 ∧ σ o 4 = A 3 ∧ σ o 5 = pu_ag A ∧ σ o 6 = A 4) ∧
  (∀ p, 0 ≤ p → p < A 1 → σ (o + 2) p = A (8 + 2 * p) ∧ σ (o + 3) p = A (9 + 2 * p)) ∧
  (∀ k, 0 ≤ k → k < A 2 → σ (o + 4) k = A (18 + 4 * k) ∧ σ (o + 5) k = A (19 + 4 * k) ∧ σ (o + 6) k = A (20 + 4 * k) ∧ σ (o + 7) k = A (21 + 4 * k)) ∧
  (∀ a, 0 ≤ a → a < A 3 → σ (o + 9) a = A (98 + 5 * a) ∧ σ (o + 10) a = A (99 + 5 * a) ∧ σ (o + 11) a = A (100 + 5 * a) ∧ σ (o + 12) a = A (101 + 5 * a))
/-- a word's two codes: five bits a letter, eight bits a letter -/
def pu_c5 : List Int → Int
  | [] => 0
  | x :: w => pu_c5 w * 32 + (x - 96)
def pu_c8 : List Int → Int
  | [] => 0
  | x :: w => pu_c8 w * 256 + x
/-- a NAME's letters, the last first -/
def pu_wd (w : List Int) : Prop := w.length ≤ 8 ∧ w ≠ [] ∧ ∀ x ∈ w, 97 ≤ x ∧ x ≤ 122
def pu_nm (c m : Int) : Prop := ∃ w : List Int, pu_wd w ∧ c = pu_c5 w ∧ m = pu_c8 w
def pu_RN (σ : jq_M) (o : Int) (A N : Int → Int) : Prop :=
  (∀ p, 0 ≤ p → p < A 1 → pu_nm (σ (o + 1) p) (N p)) ∧ (∀ a, 0 ≤ a → a < A 3 → pu_nm (σ (o + 8) a) (N (5 + a)))
/-- one line of the sessions: word, first, second, mate against the reference's row r -/
def pu_line (A w m : Int → Int) (n L W F S M : Int) : Prop :=
  (W = 13 ∧ A (138 + 6 * n) = 13 ∧ F = A (139 + 6 * n) ∧ S = A (140 + 6 * n) ∧ 0 ≤ F ∧ F < A 1 ∧ 0 ≤ S ∧ S < A 0) ∨
  (W = 14 ∧ A (138 + 6 * n) = 14 ∧ F = A (139 + 6 * n) ∧ 0 ≤ F ∧ F < A 1) ∨
  (W = 15 ∧ A (138 + 6 * n) = 15 ∧ F = A (139 + 6 * n) ∧ S = A (140 + 6 * n) ∧ 0 ≤ F ∧ F < A 1 ∧ 0 ≤ S ∧ S < A 1) ∨
  (W = 16 ∧ A (138 + 6 * n) = 16 ∧ F = A (139 + 6 * n) ∧ 0 ≤ F ∧ F ≤ 9) ∨
  (W = 17 ∧ A (138 + 6 * n) = 17 ∧ F = A (139 + 6 * n) ∧ 1 ≤ F ∧ F ≤ 20) ∨
  ((W = 18 ∨ W = 19) ∧ A (138 + 6 * n) = W ∧ F = A (139 + 6 * n) ∧ 0 ≤ F ∧ F < A 3) ∨
  (W = 20 ∧ A (138 + 6 * n) = 20) ∨
  (W = 21 ∧ M = A (142 + 6 * n) ∧ n < M ∧ M < L ∧ w M = 26 ∧ m M = n ∧
    (A (138 + 6 * n) = 2125 ∧ F = 22 ∧ S = A (139 + 6 * n) ∧ 0 ≤ S ∧ S < A 1 ∨
     A (138 + 6 * n) = 2126 ∧ F = 23 ∧ S = A (139 + 6 * n) ∧ 0 ≤ S ∧ S < A 3 ∨
     A (138 + 6 * n) = 2127 ∧ F = A (143 + 6 * n) ∧ (F = 60 ∨ F = 61 ∨ F = 62) ∧ S = A (140 + 6 * n) ∧ 0 ≤ S ∧ S ≤ 999)) ∨
  (W = 25 ∧ A (138 + 6 * n) = 22 ∧ F = A (139 + 6 * n) ∧ 1 ≤ F ∧ F ≤ 99) ∨
  (W = 26 ∧ A (138 + 6 * n) = 23 ∧ M = A (142 + 6 * n) ∧ 0 ≤ M ∧ M < n ∧ (w M = 21 ∨ w M = 25)) ∨
  (W = 27 ∧ A (138 + 6 * n) = 24)
def pu_RS (σ : jq_M) (o : Int) (A : Int → Int) : Prop :=
  (A 6 = -1 ∧ σ (o + 13) 0 = 0 ∨ 0 ≤ A 6 ∧ σ (o + 13) 0 = 1 ∧ σ (o + 13) 2 = A 6 ∧ ∀ n, 0 ≤ n → n < A 6 → pu_line A (σ (o + 14)) (σ (o + 17)) n (A 6) (σ (o + 14) n) (σ (o + 15) n) (σ (o + 16) n) (σ (o + 17) n)) ∧
  (0 ≤ A 6 → ∀ e1 e2, 0 ≤ e1 → e1 < e2 → e2 < A 6 → σ (o + 14) e1 = 26 → σ (o + 14) e2 = 26 → σ (o + 17) e2 < σ (o + 17) e1 ∨ e1 < σ (o + 17) e2)
def pu_CM (σ : jq_M) (o : Int) (A N : Int → Int) : Prop := pu_inv A ∧ pu_RC σ o A ∧ pu_RN σ o A N ∧ pu_RS σ o A ∧ A 4 ≤ 9999
/-- the keywords' letters, the last first, in the class's order -/
def pu_kw : List (List Int) := [[115, 101, 99, 97, 108, 112], [114, 101, 110, 114, 111, 99], [121, 116, 114, 97, 112], [116, 115, 97, 101, 108], [116, 97], [115, 116, 110, 97, 119], [115, 110, 117, 104, 115], [101, 100, 105, 115, 101, 98], [103, 110, 105, 99, 97, 102], [104, 116, 114, 111, 119], [101, 108, 99, 105, 116, 114, 97], [115, 101, 107, 97, 116], [115, 100, 100, 111], [116, 105, 115], [101, 115, 105, 114], [112, 97, 119, 115], [110, 114, 117, 116], [121, 97, 100], [101, 101, 114, 103, 97], [119, 97, 114, 100, 104, 116, 105, 119], [121, 110, 97], [110, 101, 104, 119], [115, 110, 103, 105, 115], [100, 101, 101, 114, 103, 97], [108, 108, 97], [112, 111, 111, 108], [100, 110, 101], [112, 111, 116, 115]]
/-- what both say alike -/
def jq_Rel (σ1 σ2 : jq_M) : Prop :=
  (σ1 0 0 = σ2 0 2 ∧ σ1 0 1 = σ2 0 3 ∧ σ1 0 2 = σ2 0 4 ∧ σ1 0 5 = σ2 0 16 ∧ σ1 0 6 = σ2 0 17) ∧
  (σ1 0 7 = 5 ∧ σ1 0 8 = 25 ∨ σ1 0 7 = 25 ∧ σ1 0 8 = 5) ∧
  pu_CM σ1 (σ1 0 7) (σ2 1) (σ2 2) ∧
  (σ1 0 11 = σ2 0 36 ∧ 0 ≤ σ1 0 11 ∧ σ1 0 11 ≤ 3 ∧ ∀ i, 0 ≤ i → i < σ1 0 11 → pu_CM σ1 (72 + 20 * i) (fun j => σ2 1 (506 * (i + 1) + j)) (fun j => σ2 2 (13 * (i + 1) + j))) ∧
  (∀ t, 0 ≤ t → t < 4 → σ1 (64 + 2 * t) 0 = -1 ∧ σ2 4 t = -1 ∨ 0 ≤ σ1 (64 + 2 * t) 0 ∧ σ1 (64 + 2 * t) 0 ≤ 3 ∧ σ1 (64 + 2 * t) 0 = σ2 3 t ∧ 0 ≤ σ2 4 t ∧ σ2 4 t ≤ 60 ∧ σ1 (64 + 2 * t) 1 = σ2 4 t ∧ ∀ j, 0 ≤ j → j < σ2 4 t → σ1 (65 + 2 * t) j = σ2 5 (60 * t + j)) ∧
  (σ1 2 2 = σ2 0 10 ∧ 0 ≤ σ1 2 2 ∧ σ1 2 2 ≤ 900 ∧ ∀ j, 0 ≤ j → j < σ1 2 2 → σ1 4 j = σ2 6 j ∧ -128 ≤ σ1 4 j ∧ σ1 4 j ≤ 127) ∧
  (σ1 0 16 = σ2 0 35 ∧ ∀ k, 0 ≤ k → k < 5 → σ1 62 k = σ2 17 k) ∧
  (∀ (i : Nat) (w : List Int), pu_kw[i]? = some w → σ1 3 i = pu_c5 w)
theorem pu_RC.mv {σ σ' : jq_M} {o : Int} {A : Int → Int} (h : pu_RC σ o A) (hs : ∀ k, 0 ≤ k → k < 18 → σ' (o + k) = σ (o + k)) : pu_RC σ' o A := by
  have h0 := hs 0 (by omega) (by omega)
  rw [Int.add_zero] at h0
  unfold pu_RC at h ⊢
  rw [h0, hs 2 (by omega) (by omega), hs 3 (by omega) (by omega), hs 4 (by omega) (by omega), hs 5 (by omega) (by omega), hs 6 (by omega) (by omega), hs 7 (by omega) (by omega), hs 9 (by omega) (by omega), hs 10 (by omega) (by omega), hs 11 (by omega) (by omega), hs 12 (by omega) (by omega)]
  exact h
theorem pu_CM.mv {σ σ' : jq_M} {o : Int} {A N : Int → Int} (h : pu_CM σ o A N) (hs : ∀ k, 0 ≤ k → k < 18 → σ' (o + k) = σ (o + k)) : pu_CM σ' o A N := by
  obtain ⟨h1, h2, h3, h4, h5⟩ := h
  refine ⟨h1, h2.mv hs, ?_, ?_, h5⟩
  · unfold pu_RN at h3 ⊢
    rw [hs 1 (by omega) (by omega), hs 8 (by omega) (by omega)]
    exact h3
  · unfold pu_RS at h4 ⊢
    rw [hs 13 (by omega) (by omega), hs 14 (by omega) (by omega), hs 15 (by omega) (by omega), hs 16 (by omega) (by omega), hs 17 (by omega) (by omega)]
    exact h4
