/-! in how many orders -/
def pu_sum (f : Nat → Nat) : Nat → Nat
  | 0 => 0
  | n + 1 => pu_sum f n + f n
theorem pu_sum_cg {f g : Nat → Nat} : ∀ {n : Nat}, (∀ i, i < n → f i = g i) → pu_sum f n = pu_sum g n := by
  intro n
  induction n with
  | zero => intro _; rfl
  | succ n ih =>
    intro h
    show pu_sum f n + f n = pu_sum g n + g n
    rw [ih (fun i hi => h i (by omega)), h n (by omega)]
theorem pu_sum_le {f g : Nat → Nat} : ∀ {n : Nat}, (∀ i, i < n → f i ≤ g i) → pu_sum f n ≤ pu_sum g n := by
  intro n
  induction n with
  | zero => intro _; exact Nat.le_refl _
  | succ n ih =>
    intro h
    show pu_sum f n + f n ≤ pu_sum g n + g n
    have h1 := ih (fun i hi => h i (by omega))
    have h2 := h n (by omega)
    omega
theorem pu_sum_b {f : Nat → Nat} {M : Nat} : ∀ {n : Nat}, (∀ i, i < n → f i ≤ M) → pu_sum f n ≤ n * M := by
  intro n
  induction n with
  | zero => intro _; exact Nat.zero_le _
  | succ n ih =>
    intro h
    show pu_sum f n + f n ≤ (n + 1) * M
    have h1 := ih (fun i hi => h i (by omega))
    have h2 := h n (by omega)
    rw [Nat.succ_mul]
    omega
theorem pu_sum_m {f : Nat → Nat} {a : Nat} : ∀ {n : Nat}, a ≤ n → pu_sum f a ≤ pu_sum f n := by
  intro n
  induction n with
  | zero => intro h; rw [show a = 0 by omega]; exact Nat.le_refl _
  | succ n ih =>
    intro h
    by_cases q : a = n + 1
    · rw [q]; exact Nat.le_refl _
    · have := ih (by omega)
      show pu_sum f a ≤ pu_sum f n + f n
      omega
theorem pu_sum_u {f g : Nat → Nat} {k d : Nat} (hk : f k = g k + d) (ho : ∀ i, i ≠ k → f i = g i) : ∀ {n : Nat}, k < n → pu_sum f n = pu_sum g n + d := by
  intro n
  induction n with
  | zero => intro h; omega
  | succ n ih =>
    intro h
    show pu_sum f n + f n = pu_sum g n + g n + d
    by_cases q : k = n
    · subst q
      rw [pu_sum_cg (g := g) (fun i hi => ho i (by omega)), hk]
      omega
    · rw [ih (by omega), ho n (by omega)]
      omega
theorem pu_or_d1 : ∀ m : Nat, m < 256 → ∀ a : Nat, a < 8 → m.testBit a = true → m ^^^ 2 ^ a < m ∧ (m ^^^ 2 ^ a).testBit a = false ∧ (m ^^^ 2 ^ a) ||| 2 ^ a = m ∧ m &&& 2 ^ a = 2 ^ a ∧ pu_pop (m ^^^ 2 ^ a) + 1 = pu_pop m := by decide +kernel
theorem pu_or_d2 : ∀ m : Nat, m < 256 → ∀ a : Nat, a < 8 → m.testBit a = false → (m ||| 2 ^ a) ^^^ 2 ^ a = m ∧ m < m ||| 2 ^ a ∧ (m ||| 2 ^ a) < 256 ∧ (m ||| 2 ^ a).testBit a = true := by decide +kernel
theorem pu_or_d3 : ∀ m : Nat, m < 256 → pu_pop m ≤ 8 := by decide +kernel
section
variable {n now m s k : Nat} {ln : Nat → Nat}
def pu_wc (now : Nat) (ln : Nat → Nat) (T : Nat → Nat) (m a : Nat) : Nat := if m.testBit a = true ∧ now.testBit a = false ∧ now &&& (m ^^^ 2 ^ a) = now ∧ ln a &&& (m ^^^ 2 ^ a) = ln a then T (m ^^^ 2 ^ a) else 0
def pu_WT (n now : Nat) (ln : Nat → Nat) : Nat → Nat → Nat
  | 0 => fun _ => 0
  | m + 1 => fun s => if s = m then (if m = now then 1 else 0) + pu_sum (pu_wc now ln (pu_WT n now ln m) m) n else pu_WT n now ln m s
def pu_W (n now : Nat) (ln : Nat → Nat) (s : Nat) : Nat := pu_WT n now ln 256 s
theorem pu_WT_s : pu_WT n now ln (m + 1) s = if s = m then (if m = now then 1 else 0) + pu_sum (pu_wc now ln (pu_WT n now ln m) m) n else pu_WT n now ln m s := rfl
theorem pu_WT_k : ∀ d : Nat, pu_WT n now ln (s + 1 + d) s = pu_WT n now ln (s + 1) s := by
  intro d
  induction d with
  | zero => rfl
  | succ d ih =>
    rw [show s + 1 + (d + 1) = (s + 1 + d) + 1 by omega, pu_WT_s, if_neg (by omega), ih]
theorem pu_WT_W (h : s < m) (hm : m ≤ 256) : pu_WT n now ln m s = pu_W n now ln s := by
  unfold pu_W
  rw [show m = s + 1 + (m - s - 1) by omega, pu_WT_k, show (256 : Nat) = s + 1 + (255 - s) by omega, pu_WT_k]
theorem pu_W_e (hn : n ≤ 8) (hs : s < 256) : pu_W n now ln s = (if s = now then 1 else 0) + pu_sum (pu_wc now ln (pu_W n now ln) s) n := by
  rw [← pu_WT_W (m := s + 1) (by omega) (by omega), pu_WT_s, if_pos rfl, pu_sum_cg (fun i hi => ?_)]
  unfold pu_wc
  by_cases h : s.testBit i = true ∧ now.testBit i = false ∧ now &&& (s ^^^ 2 ^ i) = now ∧ ln i &&& (s ^^^ 2 ^ i) = ln i
  · have := (pu_or_d1 s hs i (by omega) h.1).1
    rw [if_pos h, if_pos h, pu_WT_W this (by omega)]
  · rw [if_neg h, if_neg h]
/-- nobody comes to a set without what is agreed -/
theorem pu_W_0 (hn : n ≤ 8) (hs : s < 256) (h : ¬ now &&& s = now) : pu_W n now ln s = 0 := by
  rw [pu_W_e hn hs, if_neg (fun q => h (by rw [q, Nat.and_self]))]
  have key : pu_sum (pu_wc now ln (pu_W n now ln) s) n ≤ n * 0 := pu_sum_b (fun i hi => by
    unfold pu_wc
    split
    · rename_i g
      obtain ⟨g1, -, g2, -⟩ := g
      refine absurd (Nat.eq_of_testBit_eq (fun j => ?_)) h
      have g3 := congrArg (fun x => Nat.testBit x j) g2
      simp only [Nat.testBit_and, Nat.testBit_xor, pu_bit1] at g3
      rw [Nat.testBit_and]
      by_cases q : i = j
      · subst q
        rw [g1] at g3 ⊢
        simp at g3 ⊢
      · rw [decide_eq_false q, Bool.xor_false] at g3
        exact g3
    · exact Nat.le_refl _)
  omega
/-- a term without the tests that come of themselves -/
def pu_cc (n now : Nat) (ln : Nat → Nat) (s i : Nat) : Nat := if s.testBit i = true ∧ ln i &&& (s ^^^ 2 ^ i) = ln i then pu_W n now ln (s ^^^ 2 ^ i) else 0
theorem pu_cc_w (hn : n ≤ 8) (hs : s < 256) (hi : k < 8) : pu_wc now ln (pu_W n now ln) s k = pu_cc n now ln s k := by
  unfold pu_wc pu_cc
  by_cases h1 : s.testBit k = true
  · obtain ⟨d1, d2, d3, -⟩ := pu_or_d1 s hs k hi h1
    by_cases h2 : ln k &&& (s ^^^ 2 ^ k) = ln k
    · rw [if_pos (c := s.testBit k = true ∧ ln k &&& (s ^^^ 2 ^ k) = ln k) ⟨h1, h2⟩]
      by_cases h3 : now &&& (s ^^^ 2 ^ k) = now
      · have h4 : now.testBit k = false := by
          have := congrArg (fun x => Nat.testBit x k) h3
          simp only [Nat.testBit_and, d2, Bool.and_false] at this
          exact this.symm
        rw [if_pos ⟨h1, h4, h3, h2⟩]
      · rw [if_neg (fun q => h3 q.2.2.1), pu_W_0 hn (by omega) h3]
    · rw [if_neg (fun q => h2 q.2.2.2), if_neg (fun q => h2 q.2)]
  · rw [if_neg (fun q => h1 q.1), if_neg (fun q => h1 q.1)]
theorem pu_W_c (hn : n ≤ 8) (hs : s < 256) : pu_W n now ln s = (if s = now then 1 else 0) + pu_sum (pu_cc n now ln s) n := by
  rw [pu_W_e hn hs, pu_sum_cg (fun i hi => pu_cc_w hn hs (by omega))]
theorem pu_W_b (hn : n ≤ 8) : ∀ s : Nat, s < 256 → pu_W n now ln s ≤ 9 ^ pu_pop s := by
  intro s
  induction s using Nat.strongRecOn with
  | _ s ih =>
    intro hs
    rw [pu_W_c hn hs]
    have hb : (if s = now then 1 else 0) ≤ 1 := by split <;> omega
    by_cases h0 : pu_pop s = 0
    · have : pu_sum (pu_cc n now ln s) n ≤ n * 0 := pu_sum_b (fun i hi => by
        unfold pu_cc
        split
        · rename_i g
          have := pu_pop_pos s hs i (by omega) g.1
          omega
        · exact Nat.le_refl _)
      rw [h0]
      omega
    · have : pu_sum (pu_cc n now ln s) n ≤ n * 9 ^ (pu_pop s - 1) := pu_sum_b (fun i hi => by
        unfold pu_cc
        split
        · rename_i g
          obtain ⟨d1, d2, d3, d4, d5⟩ := pu_or_d1 s hs i (by omega) g.1
          have := ih (s ^^^ 2 ^ i) d1 (by omega)
          rw [show pu_pop (s ^^^ 2 ^ i) = pu_pop s - 1 by omega] at this
          exact this
        · exact Nat.zero_le _)
      have h1 : n * 9 ^ (pu_pop s - 1) ≤ 8 * 9 ^ (pu_pop s - 1) := Nat.mul_le_mul_right _ hn
      have h2 : 9 ^ pu_pop s = 9 * 9 ^ (pu_pop s - 1) := by
        rw [← Nat.pow_succ', show (pu_pop s - 1).succ = pu_pop s by omega]
      have h3 : 0 < 9 ^ (pu_pop s - 1) := Nat.pow_pos (by decide)
      omega
theorem pu_W_b2 (hn : n ≤ 8) (hs : s < 256) : pu_W n now ln s ≤ 43046721 := by
  have h1 := pu_W_b (n := n) (now := now) (ln := ln) hn s hs
  have h2 : (9 : Nat) ^ pu_pop s ≤ 9 ^ 8 := Nat.pow_le_pow_right (by decide) (pu_or_d3 s hs)
  have h3 : (9 : Nat) ^ 8 = 43046721 := by decide
  omega
/-- what the class's row holds while the set m is gone through up to k -/
def pu_vt (n now : Nat) (ln : Nat → Nat) (m k s i : Nat) : Nat := if s.testBit i = true ∧ ln i &&& (s ^^^ 2 ^ i) = ln i ∧ (s ^^^ 2 ^ i < m ∨ s ^^^ 2 ^ i = m ∧ i < k) then pu_W n now ln (s ^^^ 2 ^ i) else 0
def pu_V (n now : Nat) (ln : Nat → Nat) (m k s : Nat) : Nat := (if s = now then 1 else 0) + pu_sum (pu_vt n now ln m k s) n
theorem pu_V_le (hn : n ≤ 8) (hs : s < 256) : pu_V n now ln m k s ≤ 43046721 := by
  refine Nat.le_trans ?_ (pu_W_b2 (n := n) (now := now) (ln := ln) hn hs)
  rw [pu_W_c hn hs]
  refine Nat.add_le_add_left (pu_sum_le (fun i hi => ?_)) _
  unfold pu_vt pu_cc
  by_cases h : s.testBit i = true ∧ ln i &&& (s ^^^ 2 ^ i) = ln i
  · rw [if_pos h]
    split
    · exact Nat.le_refl _
    · exact Nat.zero_le _
  · rw [if_neg h, if_neg (fun q => h ⟨q.1, q.2.1⟩)]
    exact Nat.le_refl _
theorem pu_V_W (hn : n ≤ 8) (hs : s < 256) (h : s ≤ m) : pu_V n now ln m k s = pu_W n now ln s := by
  rw [pu_W_c hn hs]
  unfold pu_V
  rw [pu_sum_cg (fun i hi => ?_)]
  unfold pu_vt pu_cc
  by_cases g : s.testBit i = true ∧ ln i &&& (s ^^^ 2 ^ i) = ln i
  · have := (pu_or_d1 s hs i (by omega) g.1).1
    rw [if_pos g, if_pos ⟨g.1, g.2, Or.inl (by omega)⟩]
  · rw [if_neg g, if_neg (fun q => g ⟨q.1, q.2.1⟩)]
theorem pu_V_n (hs : s < 256) : pu_V n now ln m n s = pu_V n now ln (m + 1) 0 s := by
  unfold pu_V
  rw [pu_sum_cg (fun i hi => ?_)]
  unfold pu_vt
  by_cases g : s.testBit i = true ∧ ln i &&& (s ^^^ 2 ^ i) = ln i ∧ (s ^^^ 2 ^ i < m ∨ s ^^^ 2 ^ i = m ∧ i < n)
  · rw [if_pos g, if_pos ⟨g.1, g.2.1, by omega⟩]
  · rw [if_neg g, if_neg (fun q => g ⟨q.1, q.2.1, by omega⟩)]
theorem pu_V_z (hz : pu_W n now ln m = 0) : pu_V n now ln m k s = pu_V n now ln (m + 1) 0 s := by
  unfold pu_V
  rw [pu_sum_cg (fun i hi => ?_)]
  unfold pu_vt
  by_cases e : s ^^^ 2 ^ i = m
  · rw [e, hz]
    split <;> split <;> rfl
  · by_cases g : s.testBit i = true ∧ ln i &&& (s ^^^ 2 ^ i) = ln i ∧ (s ^^^ 2 ^ i < m ∨ s ^^^ 2 ^ i = m ∧ i < k)
    · rw [if_pos g, if_pos ⟨g.1, g.2.1, by omega⟩]
    · rw [if_neg g, if_neg (fun q => g ⟨q.1, q.2.1, by omega⟩)]
/-- no step from m by k -/
theorem pu_V_no (hk : k < 8) (hs : s < 256) (hm : m < 256) (h : m.testBit k = true ∨ ¬ ln k &&& m = ln k) : pu_V n now ln m (k + 1) s = pu_V n now ln m k s := by
  unfold pu_V
  rw [pu_sum_cg (fun i hi => ?_)]
  unfold pu_vt
  by_cases q : i = k
  · subst q
    by_cases g : s.testBit i = true ∧ ln i &&& (s ^^^ 2 ^ i) = ln i ∧ s ^^^ 2 ^ i = m
    · obtain ⟨g1, g2, g3⟩ := g
      have := (pu_or_d1 s hs i hk g1).2.1
      rw [g3] at this g2
      rcases h with h | h
      · rw [h] at this; cases this
      · exact absurd g2 h
    · by_cases g4 : s.testBit i = true ∧ ln i &&& (s ^^^ 2 ^ i) = ln i ∧ s ^^^ 2 ^ i < m
      · rw [if_pos ⟨g4.1, g4.2.1, Or.inl g4.2.2⟩, if_pos ⟨g4.1, g4.2.1, Or.inl g4.2.2⟩]
      · rw [if_neg (fun q => q.2.2.elim (fun z => g4 ⟨q.1, q.2.1, z⟩) (fun z => g ⟨q.1, q.2.1, z.1⟩)), if_neg (fun q => q.2.2.elim (fun z => g4 ⟨q.1, q.2.1, z⟩) (fun z => g ⟨q.1, q.2.1, z.1⟩))]
  · by_cases g : s.testBit i = true ∧ ln i &&& (s ^^^ 2 ^ i) = ln i ∧ (s ^^^ 2 ^ i < m ∨ s ^^^ 2 ^ i = m ∧ i < k)
    · rw [if_pos g, if_pos ⟨g.1, g.2.1, by omega⟩]
    · rw [if_neg g, if_neg (fun q => g ⟨q.1, q.2.1, by omega⟩)]
/-- a step from m by k: one set gains -/
theorem pu_V_go (hn : n ≤ 8) (hk : k < n) (hs : s < 256) (hm : m < 256) (h1 : m.testBit k = false) (h2 : ln k &&& m = ln k) : pu_V n now ln m (k + 1) s = pu_V n now ln m k s + if s = m ||| 2 ^ k then pu_W n now ln m else 0 := by
  obtain ⟨d1, d2, d3, d4⟩ := pu_or_d2 m hm k (by omega) h1
  unfold pu_V
  by_cases e : s = m ||| 2 ^ k
  · rw [if_pos e, pu_sum_u (f := pu_vt n now ln m (k + 1) s) (g := pu_vt n now ln m k s) (k := k) (d := pu_W n now ln m) ?_ (fun i hi => ?_) hk]
    · omega
    · unfold pu_vt
      rw [e, d1, d4, if_pos ⟨rfl, h2, Or.inr ⟨rfl, by omega⟩⟩, if_neg (fun q => by omega)]
      omega
    · unfold pu_vt
      by_cases g : s.testBit i = true ∧ ln i &&& (s ^^^ 2 ^ i) = ln i ∧ (s ^^^ 2 ^ i < m ∨ s ^^^ 2 ^ i = m ∧ i < k)
      · rw [if_pos g, if_pos ⟨g.1, g.2.1, by omega⟩]
      · rw [if_neg g, if_neg (fun q => g ⟨q.1, q.2.1, by omega⟩)]
  · rw [if_neg e, pu_sum_cg (fun i hi => ?_), Nat.add_zero]
    unfold pu_vt
    by_cases q : i = k
    · subst q
      by_cases g4 : s.testBit i = true ∧ ln i &&& (s ^^^ 2 ^ i) = ln i ∧ s ^^^ 2 ^ i < m
      · rw [if_pos ⟨g4.1, g4.2.1, Or.inl g4.2.2⟩, if_pos ⟨g4.1, g4.2.1, Or.inl g4.2.2⟩]
      · have g5 : ∀ r : Nat, ¬ (s.testBit i = true ∧ ln i &&& (s ^^^ 2 ^ i) = ln i ∧ (s ^^^ 2 ^ i < m ∨ s ^^^ 2 ^ i = m ∧ i < r)) := by
          intro r q
          rcases q.2.2 with z | z
          · exact g4 ⟨q.1, q.2.1, z⟩
          · refine e ?_
            rw [← z.1, (pu_or_d1 s hs i (by omega) q.1).2.2.1]
        rw [if_neg (g5 _), if_neg (g5 _)]
    · by_cases g : s.testBit i = true ∧ ln i &&& (s ^^^ 2 ^ i) = ln i ∧ (s ^^^ 2 ^ i < m ∨ s ^^^ 2 ^ i = m ∧ i < k)
      · rw [if_pos g, if_pos ⟨g.1, g.2.1, by omega⟩]
      · rw [if_neg g, if_neg (fun q => g ⟨q.1, q.2.1, by omega⟩)]
theorem pu_V_0 : pu_V n now ln 0 0 s = if s = now then 1 else 0 := by
  unfold pu_V
  have : pu_sum (pu_vt n now ln 0 0 s) n ≤ n * 0 := pu_sum_b (fun i hi => by
    unfold pu_vt
    rw [if_neg (fun q => by omega)]
    exact Nat.le_refl _)
  omega
end
