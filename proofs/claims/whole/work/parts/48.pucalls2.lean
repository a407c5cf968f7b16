section
variable {σ : jq_M} {o p k v : Int} {A S : Int → Int}
def pu_se (A : Int → Int) : Int → Int := fun p => A (9 + 2 * p)
def pu_sit (A : Int → Int) : Nat := pu_set (fun p => decide (A (9 + 2 * (p : Int)) ≠ -1)) (A 1).toNat
theorem ps_sittersOf (hI : pu_inv A) (hC : pu_RC σ o A) : X1_sittersOf o (o + 3) σ = some ((pu_sit A : Nat) : Int) := by
  obtain ⟨i0, i1, i2, i3, i4, i5, i6, ip, iq, iw, ia⟩ := hI
  obtain ⟨⟨c0, c1, c2, c3, c4, c5, c6⟩, cp, cw, ca⟩ := hC
  unfold X1_sittersOf
  rw [pu_forK (fun _ => True) id 0 (fun p s => if A (9 + 2 * p) = -1 then s else jq_or s (jq_shl 1 p)) (A 1) (by omega) trivial (fun κ s z0 z1 _ => ⟨?_, trivial⟩) (fun s _ => ?_), pu_fold_set (P := fun p => decide (A (9 + 2 * (p : Int)) ≠ -1)) (by omega) (fun i hi s hs => ?_)]
  · rfl
  · by_cases h : A (9 + 2 * (i : Int)) = -1
    · simp [h]
    · simp [h]
  · unfold X1_sittersOf_b4
    try dsimp only
    simp (disch := omega) only [c2, if_pos, pu_ld, Option.bind_some, (cp κ (by omega) (by omega)).2, pu_lt, pu_w (x := κ + 1)]
    by_cases h : A (9 + 2 * κ) = -1
    · rw [if_pos h, if_pos h]
    · rw [if_neg h, if_neg h]
  · unfold X1_sittersOf_b4
    rw [c2, if_neg (by dsimp only; omega)]
    rfl
theorem pm_sitting (hI : pu_inv (σ 1)) : X11_sitting σ = some ((pu_sit (σ 1) : Nat) : Int) := by
  have i1 := hI.2.1
  unfold X11_sitting
  rw [pu_forK jq_r id 0 (fun p s => if σ 1 (9 + 2 * p) = -1 then s else jq_or s (jq_shl 1 p)) (σ 1 1) (by omega) pu_r0 (fun κ s z0 z1 hs => ⟨?_, ?_⟩) (fun s _ => ?_), pu_fold_set (P := fun p => decide (σ 1 (9 + 2 * (p : Int)) ≠ -1)) (by omega) (fun i hi s hs => ?_)]
  · rfl
  · by_cases h : σ 1 (9 + 2 * (i : Int)) = -1
    · simp [h]
    · simp [h]
  · unfold X11_sitting_b4
    try dsimp only
    simp (disch := omega) only [if_pos, pu_ld, Option.bind_some, pm_seatOf, pu_lt, pu_w (x := κ + 1), pu_or0 hs]
    by_cases h : σ 1 (9 + 2 * κ) = -1
    · rw [if_pos h, if_pos h]
    · rw [if_neg h, if_neg h]
  · by_cases h : σ 1 (9 + 2 * κ) = -1
    · rw [if_pos h]; exact hs
    · rw [if_neg h]; exact pu_or_r _ _
  · unfold X11_sitting_b4
    rw [pu_ld (by omega) (by omega), Option.bind_some, if_neg (by dsimp only; omega)]
    rfl
theorem pm_isAgreed (h0 : 0 ≤ k) (h1 : k < 8) : X11_isAgreed k σ = some (pu_i (σ 1 (102 + 5 * k) = 1)) := by
  unfold X11_isAgreed
  rw [pm_articleRow h0 h1, Option.bind_some, pu_w (by omega) (by omega), pu_ld (by omega) (by omega), Option.bind_some, show 98 + 5 * k + 4 = 102 + 5 * k by omega]
  by_cases h : σ 1 (102 + 5 * k) = 1
  · rw [if_pos h, pu_i_p h]
  · rw [if_neg h, pu_i_n h]
theorem pm_agreedNow (hI : pu_inv (σ 1)) : X11_agreedNow σ = some ((pu_ag (σ 1) : Nat) : Int) := by
  have i3 := hI.2.2.2.1
  unfold X11_agreedNow pu_ag
  rw [pu_forK jq_r id 0 (fun p s => if σ 1 (102 + 5 * p) = 1 then jq_or s (jq_shl 1 p) else s) (σ 1 3) (by omega) pu_r0 (fun κ s z0 z1 hs => ⟨?_, ?_⟩) (fun s _ => ?_), pu_fold_set (P := fun a => decide (σ 1 (98 + 5 * (a : Int) + 4) = 1)) (by omega) (fun i hi s hs => ?_)]
  · rfl
  · rw [show 98 + 5 * (i : Int) + 4 = 102 + 5 * i by omega]
    by_cases h : σ 1 (102 + 5 * (i : Int)) = 1
    · simp [h]
    · simp [h]
  · unfold X11_agreedNow_b4
    try dsimp only
    simp (disch := omega) only [if_pos, pu_ld, Option.bind_some, pm_isAgreed, pu_lt, pu_w (x := κ + 1), pu_or0 hs, pu_ii]
    by_cases h : σ 1 (102 + 5 * κ) = 1
    · rw [if_pos h, pu_if_p h]
    · rw [if_neg h, pu_if_n h]
  · by_cases h : σ 1 (102 + 5 * κ) = 1
    · rw [if_pos h]; exact pu_or_r _ _
    · rw [if_neg h]; exact hs
  · unfold X11_agreedNow_b4
    rw [pu_ld (by omega) (by omega), Option.bind_some, if_neg (by dsimp only; omega)]
    rfl
/-- what an article leans on -/
def pu_ln (A : Int → Int) (a : Int) : Nat := (A (100 + 5 * a)).toNat
def pu_open (A : Int → Int) (a : Int) : Prop := A (102 + 5 * a) ≠ 1 ∧ pu_ln A a &&& pu_ag A = pu_ln A a
theorem pu_ln_i (hI : pu_inv A) (h0 : 0 ≤ k) (h1 : k < A 3) : A (100 + 5 * k) = ((pu_ln A k : Nat) : Int) ∧ pu_ln A k < 2 ^ k.toNat ∧ pu_ln A k < 256 := by
  have i3 := hI.2.2.2.1
  have ia := hI.2.2.2.2.2.2.2.2.2.2
  obtain ⟨-, -, -, -, ⟨a1, a2⟩, -⟩ := ia k h0 h1
  have h2 : (2 : Nat) ^ k.toNat ≤ 2 ^ 8 := Nat.pow_le_pow_right (by decide) (by omega)
  have h3 : A (100 + 5 * k) < ((2 ^ k.toNat : Nat) : Int) := by rw [Int.natCast_pow]; exact a2
  unfold pu_ln
  refine ⟨by omega, by omega, ?_⟩
  have h4 : (2 : Nat) ^ 8 = 256 := by decide
  omega
theorem pm_isOpen (hI : pu_inv (σ 1)) (h0 : 0 ≤ k) (h1 : k < σ 1 3) : X11_isOpen k σ = some (pu_i (pu_open (σ 1) k)) := by
  have i3 := hI.2.2.2.1
  obtain ⟨l1, l2, l3⟩ := pu_ln_i hI h0 h1
  have g := pu_ag_lt (A := σ 1) (by omega)
  unfold X11_isOpen pu_open
  rw [pm_isAgreed h0 (by omega), Option.bind_some, pu_ii]
  by_cases h : σ 1 (102 + 5 * k) = 1
  · rw [pu_if_p h, pu_i_n (fun q => q.1 h)]
  · rw [pu_if_n h, pm_articleRow h0 (by omega), Option.bind_some, pu_w (by omega) (by omega), pu_ld (by omega) (by omega), Option.bind_some, pm_agreedNow hI, Option.bind_some, show 98 + 5 * k + 2 = 100 + 5 * k by omega, l1]
    have z := pu_andn0 (a := pu_ln (σ 1) k) (b := pu_ag (σ 1)) (by omega) (by omega)
    by_cases q : pu_ln (σ 1) k &&& pu_ag (σ 1) = pu_ln (σ 1) k
    · rw [if_pos (by rw [z]; exact q), pu_i_p ⟨h, q⟩]
    · rw [if_neg (by rw [z]; exact q), pu_i_n (fun r => q r.2)]
theorem pu_bit1 {k : Nat} (i : Nat) : (2 ^ k : Nat).testBit i = decide (k = i) := Nat.testBit_two_pow
theorem ps_isReady (hI : pu_inv A) (hC : pu_RC σ o A) (h0 : 0 ≤ k) (h1 : k < A 3) : X1_isReady o k σ = some (pu_i (pu_open A k)) := by
  have i3 := hI.2.2.2.1
  obtain ⟨l1, l2, l3⟩ := pu_ln_i hI h0 h1
  have g := pu_ag_lt (A := A) (by omega)
  obtain ⟨⟨c0, c1, c2, c3, c4, c5, c6⟩, cp, cw, ca⟩ := hC
  unfold X1_isReady pu_open
  have h2 : (2 : Nat) ^ k.toNat < 2147483648 := Nat.lt_of_le_of_lt (Nat.pow_le_pow_right (by decide) (show k.toNat ≤ 8 by omega)) (by decide)
  rw [if_neg (show ¬ k < 0 by omega), if_pos (show k < 8 by omega), pu_ld (by omega) (by omega), Option.bind_some, Option.bind_some, (ca k h0 h1).2.2.1, l1, c5, pu_shl1_i h0 (by omega), pu_or h2 (by omega), pu_and (by omega) (Nat.or_lt_two_pow (n := 31) h2 (by omega))]
  have key : (((pu_ag A &&& (2 ^ k.toNat ||| pu_ln A k) : Nat) : Int) = (pu_ln A k : Nat)) ↔ (A (102 + 5 * k) ≠ 1 ∧ pu_ln A k &&& pu_ag A = pu_ln A k) := by
    have ht := pu_ag_tb (A := A) k.toNat
    rw [show 98 + 5 * ((k.toNat : Nat) : Int) + 4 = 102 + 5 * k by omega, decide_eq_true (show k.toNat < (A 3).toNat by omega), Bool.true_and] at ht
    have hl : (pu_ln A k).testBit k.toNat = false := Nat.testBit_lt_two_pow l2
    constructor
    · intro q
      have q' : pu_ag A &&& (2 ^ k.toNat ||| pu_ln A k) = pu_ln A k := by omega
      have hb : ∀ i, ((pu_ag A).testBit i && (decide (k.toNat = i) || (pu_ln A k).testBit i)) = (pu_ln A k).testBit i := by
        intro i
        have := congrArg (fun z => Nat.testBit z i) q'
        simpa only [Nat.testBit_and, Nat.testBit_or, pu_bit1] using this
      refine ⟨?_, Nat.eq_of_testBit_eq (fun i => ?_)⟩
      · have := hb k.toNat
        rw [hl, ht] at this
        simp at this
        omega
      · rw [Nat.testBit_and]
        have := hb i
        revert this
        cases (pu_ag A).testBit i <;> cases (pu_ln A k).testBit i <;> simp
    · rintro ⟨q1, q2⟩
      have q' : pu_ag A &&& (2 ^ k.toNat ||| pu_ln A k) = pu_ln A k := by
        refine Nat.eq_of_testBit_eq (fun i => ?_)
        have h3 := congrArg (fun z => Nat.testBit z i) q2
        simp only [Nat.testBit_and] at h3
        rw [Nat.testBit_and, Nat.testBit_or, pu_bit1]
        by_cases hi : k.toNat = i
        · rw [← hi, ht, hl, decide_eq_false q1]; simp
        · rw [decide_eq_false hi, Bool.false_or, Bool.and_comm]; exact h3
      rw [q']
  by_cases q : A (102 + 5 * k) ≠ 1 ∧ pu_ln A k &&& pu_ag A = pu_ln A k
  · rw [if_pos (key.mpr q), pu_i_p q]
  · rw [if_neg (fun z => q (key.mp z)), pu_i_n q]
noncomputable def pu_opens (A : Int → Int) : Int := pu_fold 0 (fun a s => pu_if (pu_open A (a : Int)) (jq_or s (jq_shl 1 a)) s) (A 3).toNat
theorem ps_ready (hI : pu_inv A) (hC : pu_RC σ o A) : X1_readyArticles o σ = some (pu_opens A) := by
  have i3 := hI.2.2.2.1
  have c4 := hC.1.2.2.2.2.1
  unfold X1_readyArticles pu_opens
  rw [pu_forK (fun _ => True) id 0 (fun a s => pu_if (pu_open A a) (jq_or s (jq_shl 1 a)) s) (A 3) (by omega) trivial (fun κ s z0 z1 _ => ⟨?_, trivial⟩) (fun s _ => ?_)]
  · rfl
  · unfold X1_readyArticles_b4
    try dsimp only
    have m := ps_isReady (σ := σ) (o := o) (k := κ) hI hC (by omega) (by omega)
    simp (disch := omega) only [c4, if_pos, m, Option.bind_some, pu_lt, pu_w (x := κ + 1), pu_ii]
    by_cases h : pu_open A κ
    · rw [pu_if_p h, pu_if_p h]
    · rw [pu_if_n h, pu_if_n h]
  · unfold X1_readyArticles_b4
    rw [c4, if_neg (by dsimp only; omega)]
    rfl
theorem pm_openNow (hI : pu_inv (σ 1)) : X11_openNow σ = some (pu_opens (σ 1)) := by
  have i3 := hI.2.2.2.1
  unfold X11_openNow pu_opens
  rw [pu_forK jq_r id 0 (fun a s => pu_if (pu_open (σ 1) a) (jq_or s (jq_shl 1 a)) s) (σ 1 3) (by omega) pu_r0 (fun κ s z0 z1 hs => ⟨?_, ?_⟩) (fun s _ => ?_)]
  · rfl
  · unfold X11_openNow_b4
    try dsimp only
    have m := pm_isOpen (σ := σ) (k := κ) hI (by omega) (by omega)
    simp (disch := omega) only [pu_ld, if_pos, m, Option.bind_some, pu_lt, pu_w (x := κ + 1), pu_ii, pu_or0 hs]
    by_cases h : pu_open (σ 1) κ
    · rw [pu_if_p h, pu_if_p h]
    · rw [pu_if_n h, pu_if_n h]
  · by_cases h : pu_open (σ 1) κ
    · rw [pu_if_p h]; exact pu_or_r _ _
    · rw [pu_if_n h]; exact hs
  · unfold X11_openNow_b4
    rw [pu_ld (by omega) (by omega), Option.bind_some, if_neg (by dsimp only; omega)]
    rfl
theorem ps_number : X10_asNumber v σ = some (if v = 0 then 0 else 1) := by
  unfold X10_asNumber
  by_cases h : v = 0
  · rw [if_pos h, if_pos h]
  · rw [if_neg h, if_neg h]
theorem pu_num {P : Prop} : (if pu_i P = 0 then (0 : Int) else 1) = pu_i P := by
  unfold pu_i
  by_cases h : P
  · rw [if_pos h]; rfl
  · rw [if_neg h]; rfl
theorem ps_areTwo {a b : Int} (hb : σ (σ 0 7) 2 ≤ 5) : X10_areTwo a b σ = some (pu_i ((0 ≤ a ∧ a < σ (σ 0 7) 2) ∧ (0 ≤ b ∧ b < σ (σ 0 7) 2) ∧ a ≠ b)) := by
  unfold X10_areTwo pu_i
  simp only [pu_lt, ps_isParty hb, Option.bind_some, pu_i_0]
  by_cases h1 : 0 ≤ a ∧ a < σ (σ 0 7) 2
  · rw [if_neg (fun q => q h1)]
    by_cases h2 : 0 ≤ b ∧ b < σ (σ 0 7) 2
    · rw [if_neg (fun q => q h2)]
      by_cases h3 : a = b
      · rw [if_pos h3, if_neg (fun q => q.2.2 h3)]
      · rw [if_neg h3, if_pos ⟨h1, h2, h3⟩]
    · rw [if_pos h2, if_neg (fun q => h2 q.2.1)]
  · rw [if_pos h1, if_neg (fun q => h1 q.1)]
theorem pm_areTwo {a b : Int} : X11_areTwo a b σ = some (pu_i ((0 ≤ a ∧ a < σ 1 1) ∧ (0 ≤ b ∧ b < σ 1 1) ∧ a ≠ b)) := by
  unfold X11_areTwo pu_i
  simp only [pm_isParty, Option.bind_some, pu_i_0]
  by_cases h1 : 0 ≤ a ∧ a < σ 1 1
  · rw [if_neg (fun q => q h1)]
    by_cases h2 : 0 ≤ b ∧ b < σ 1 1
    · rw [if_neg (fun q => q h2)]
      by_cases h3 : a = b
      · rw [if_pos h3, if_neg (fun q => q.2.2 h3)]
      · rw [if_neg h3, if_pos ⟨h1, h2, h3⟩]
    · rw [if_pos h2, if_neg (fun q => h2 q.2.1)]
  · rw [if_pos h1, if_neg (fun q => h1 q.1)]
/-- who sits there: the first -/
def pu_who (S : Int → Int) (x : Int) : Nat → Int
  | 0 => -1
  | n + 1 => if pu_who S x n ≠ -1 then pu_who S x n else if S n = x then n else -1
theorem pu_who_n {S : Int → Int} {x : Int} : ∀ n : Nat, pu_who S x n = -1 ↔ ∀ i : Nat, i < n → S i ≠ x := by
  intro n
  induction n with
  | zero => exact ⟨fun _ i hi => by omega, fun _ => rfl⟩
  | succ n ih =>
    unfold pu_who
    by_cases h : pu_who S x n = -1
    · rw [if_neg (fun q => q h)]
      by_cases h2 : S n = x
      · rw [if_pos h2]
        exact ⟨fun q => by omega, fun q => absurd h2 (q n (by omega))⟩
      · rw [if_neg h2]
        refine ⟨fun _ i hi => ?_, fun _ => rfl⟩
        by_cases q : i = n
        · rw [q]; exact h2
        · exact (ih.mp h) i (by omega)
    · rw [if_pos h]
      exact ⟨fun q => absurd q h, fun q => absurd (ih.mpr (fun i hi => q i (by omega))) h⟩
theorem pu_who_f {S : Int → Int} {x : Int} {i : Nat} (h : ∀ j : Nat, j < i → S j ≠ x) (h2 : S i = x) : ∀ n : Nat, i < n → pu_who S x n = i := by
  intro n
  induction n with
  | zero => intro h; omega
  | succ n ih =>
    intro hi
    unfold pu_who
    by_cases q : i = n
    · subst q
      rw [if_neg (fun z => z ((pu_who_n i).mpr h)), if_pos h2]
    · have := ih (by omega)
      rw [this, if_pos (by omega)]
theorem pu_find {f : Int → Option (Int ⊕ (Int ⊕ Unit))} {S : Int → Int} {x : Int} (n : Nat) (h : ∀ k : Int, 0 ≤ k → k < n → f k = if S k = x then some (.inr (.inl k)) else some (.inl (k + 1))) (hx : ∀ k : Int, k = n → f k = some (.inr (.inr ()))) : (jq_lp f 0).bind (Sum.elim (fun e => some e) (fun _ => some (-1))) = some (pu_who S x n) := by
  have h' : ∀ i : Nat, i < n → f i = if S i = x then some (.inr (.inl (i : Int))) else some (.inl ((i : Int) + 1)) := fun i hi => h i (by omega) (by omega)
  by_cases hw : ∃ i : Nat, i < n ∧ S i = x ∧ ∀ j : Nat, j < i → S j ≠ x
  · obtain ⟨i, hi, h1, h2⟩ := hw
    have := jq_lp_run (f := f) (fun i : Nat => (i : Int)) i (fun j hj => by rw [h' j (by omega), if_neg (h2 j hj)]; rfl) (by rw [h' i hi, if_pos h1])
    rw [show (0 : Int) = ((0 : Nat) : Int) from rfl, this, pu_who_f h2 h1 n hi]
    rfl
  · have hn : ∀ i : Nat, i < n → S i ≠ x := by
      intro i
      induction i using Nat.strongRecOn with
      | _ i ih => exact fun hi q => hw ⟨i, hi, q, fun j hj => ih j hj (by omega)⟩
    have := jq_lp_run (f := f) (fun i : Nat => (i : Int)) n (fun j hj => by rw [h' j (by omega), if_neg (hn j hj)]; rfl) (hx n rfl)
    rw [show (0 : Int) = ((0 : Nat) : Int) from rfl, this, (pu_who_n n).mpr hn]
    rfl
theorem ps_sitterAt {row n : Int} (c2 : σ o 2 = n) (h0 : 0 ≤ n) (h5 : n ≤ 5) (hS : ∀ p, 0 ≤ p → p < n → σ row p = S p) : X1_sitterAt o v row σ = some (pu_who S v n.toNat) := by
  unfold X1_sitterAt
  refine pu_find n.toNat (fun k h1 h2 => ?_) (fun k hk => ?_)
  · have h3 : k < n := by omega
    unfold X1_sitterAt_b2
    have := hS k h1 h3
    clear h2
    simp (disch := omega) only [c2, if_pos, pu_ld, Option.bind_some, this, pu_lt, pu_w]
  · unfold X1_sitterAt_b2
    rw [c2, if_neg (by omega)]
theorem pm_sitsAt (hI : pu_inv (σ 1)) : X11_sitsAt v σ = some (pu_who (pu_se (σ 1)) v (σ 1 1).toNat) := by
  have i1 := hI.2.1
  unfold X11_sitsAt
  refine pu_find (σ 1 1).toNat (fun k h1 h2 => ?_) (fun k hk => ?_)
  · have h3 : k < σ 1 1 := by omega
    unfold X11_sitsAt_b2 pu_se
    clear h2
    simp (disch := omega) only [if_pos, pu_ld, Option.bind_some, pm_seatOf, pu_lt, pu_w]
  · unfold X11_sitsAt_b2
    rw [pu_ld (by omega) (by omega), Option.bind_some, if_neg (by omega)]
end
