section
variable {σ σ1 σ2 τ1 τ2 : jq_M} {o v p q n a b c : Int} {A A' : Int → Int}
theorem ps_deny : X10_deny v σ = some (0, jq_st σ 0 0 v) := rfl
theorem ps_grant : X10_grant σ = some (1, jq_st σ 0 0 0) := rfl
theorem pm_is : X11_is v σ = some (if v = 0 then 1 else 0, jq_st σ 0 2 v) := by
  unfold X11_is
  simp only [pu_lt]
  by_cases h : v = 0
  · rw [if_pos h, if_pos h]
  · rw [if_neg h, if_neg h]
theorem pm_isFrom : X11_isFrom a b c σ = some (pu_i (b ≤ a ∧ a ≤ c)) := by
  unfold X11_isFrom jq_cmp pu_i
  by_cases h1 : a < b
  · rw [if_pos h1, if_pos (by decide), if_neg (by omega)]
  · rw [if_neg h1]
    by_cases h2 : a < c
    · rw [if_pos h2, if_neg (by split <;> decide), if_neg (by decide), if_pos (by omega)]
    · rw [if_neg h2, if_neg (by split <;> decide)]
      by_cases h3 : a = c
      · rw [if_pos h3, if_neg (by decide), if_pos (by omega)]
      · rw [if_neg h3, if_pos (by decide), if_neg (by omega)]
theorem ps_isAgreed (hI : pu_inv A) (hC : pu_RC σ o A) (a0 : 0 ≤ a) (a1 : a < A 3) : X1_isAgreed o a σ = some (pu_i (A (102 + 5 * a) = 1)) := by
  have i3 := hI.2.2.2.1
  have c5 := hC.1.2.2.2.2.2.1
  have g := pu_ag_lt (A := A) (by omega)
  have tb := pu_ag_tb (A := A) a.toNat
  rw [show 98 + 5 * ((a.toNat : Nat) : Int) + 4 = 102 + 5 * a by omega, decide_eq_true (show a.toNat < (A 3).toNat by omega), Bool.true_and] at tb
  unfold X1_isAgreed
  rw [ps_holds, Option.bind_some, c5, pu_isin_i (by omega) a0 (by omega), tb]
  by_cases h : A (102 + 5 * a) = 1
  · rw [pu_i_p (decide_eq_true h), pu_i_p h]
  · rw [pu_i_n (by rw [decide_eq_false h]; decide), pu_i_n h]
theorem pu_open_cg (h3 : A' 3 = A 3) (h : ∀ k, 0 ≤ k → k < A 3 → A' (100 + 5 * k) = A (100 + 5 * k) ∧ A' (102 + 5 * k) = A (102 + 5 * k)) (a0 : 0 ≤ a) (a1 : a < A 3) : pu_open A' a = pu_open A a := by
  unfold pu_open pu_ln
  rw [pu_ag_cg h3 (fun k x y => by rw [show 98 + 5 * k + 4 = 102 + 5 * k by omega]; exact (h k x y).2), (h a a0 a1).1, (h a a0 a1).2]
/-- a search that ends at the first -/
theorem pu_first {f : Int → Option (Int ⊕ (Int ⊕ Unit))} {P : Int → Prop} {n : Int} (h : ∀ k, 0 ≤ k → k < n → f k = pu_if (P k) (some (.inr (.inl k))) (some (.inl (k + 1)))) {k : Int} (k0 : 0 ≤ k) (k1 : k < n) (hP : P k) (hN : ∀ j, 0 ≤ j → j < k → ¬ P j) : jq_lp f 0 = some (.inl k) := by
  have := jq_lp_run (f := f) (fun i : Nat => (i : Int)) k.toNat (fun j hj => by rw [h j (by omega) (by omega), pu_if_n (hN j (by omega) (by omega))]; rfl) (by rw [show ((k.toNat : Nat) : Int) = k by omega, h k k0 k1, pu_if_p hP])
  exact this
theorem pu_firstN {f : Int → Option (Int ⊕ (Int ⊕ Unit))} {P : Int → Prop} {n : Int} (hn : 0 ≤ n) (h : ∀ k, 0 ≤ k → k < n → f k = pu_if (P k) (some (.inr (.inl k))) (some (.inl (k + 1)))) (hx : f n = some (.inr (.inr ()))) (hN : ∀ j, 0 ≤ j → j < n → ¬ P j) : jq_lp f 0 = some (.inr ()) := by
  have := jq_lp_run (f := f) (fun i : Nat => (i : Int)) n.toNat (fun j hj => by rw [h j (by omega) (by omega), pu_if_n (hN j (by omega) (by omega))]; rfl) (by rw [show ((n.toNat : Nat) : Int) = n by omega]; exact hx)
  exact this
theorem pu_least (P : Int → Prop) (n : Int) : (∃ k, 0 ≤ k ∧ k < n ∧ P k ∧ ∀ j, 0 ≤ j → j < k → ¬ P j) ∨ ∀ j, 0 ≤ j → j < n → ¬ P j := by
  by_cases hw : ∃ k, 0 ≤ k ∧ k < n ∧ P k ∧ ∀ j, 0 ≤ j → j < k → ¬ P j
  · exact Or.inl hw
  · refine Or.inr (fun j j0 j1 => ?_)
    have key : ∀ i : Nat, (i : Int) < n → ¬ P i := by
      intro i
      induction i using Nat.strongRecOn with
      | _ i ih => exact fun hi q => hw ⟨i, by omega, hi, q, fun j a b => by
          have := ih j.toNat (by omega) (by omega)
          rw [show ((j.toNat : Nat) : Int) = j by omega] at this
          exact this⟩
    have := key j.toNat (by omega)
    rw [show ((j.toNat : Nat) : Int) = j by omega] at this
    exact this
theorem ps_day_st (hI : pu_inv A) (hC : pu_RC σ o A) : (∀ k, 0 ≤ k → k < A 3 → X1_passOneDay_b7 o σ k = pu_if (pu_open A k) (some (.inr (.inl k))) (some (.inl (k + 1)))) ∧ X1_passOneDay_b7 o σ (A 3) = some (.inr (.inr ())) := by
  have i3 := hI.2.2.2.1
  have c4 := hC.1.2.2.2.2.1
  refine ⟨fun k k0 k1 => ?_, ?_⟩
  · unfold X1_passOneDay_b7
    rw [c4, if_pos k1, ps_isReady hI hC k0 k1, Option.bind_some, pu_ii, pu_lt, pu_w (by omega) (by omega)]
  · unfold X1_passOneDay_b7
    rw [c4, if_neg (by omega)]
theorem pm_day_st (hI : pu_inv (σ 1)) : (∀ k, 0 ≤ k → k < σ 1 3 → X11_dayGoes_b12 σ k = pu_if (pu_open (σ 1) k) (some (.inr (.inl k))) (some (.inl (k + 1)))) ∧ X11_dayGoes_b12 σ (σ 1 3) = some (.inr (.inr ())) := by
  have i3 := hI.2.2.2.1
  refine ⟨fun k k0 k1 => ?_, ?_⟩
  · unfold X11_dayGoes_b12
    rw [pu_ld (by omega) (by omega), Option.bind_some, if_pos k1, pm_isOpen hI k0 k1, Option.bind_some, pu_ii, pu_lt, pu_w (by omega) (by omega)]
  · unfold X11_dayGoes_b12
    rw [pu_ld (by omega) (by omega), Option.bind_some, if_neg (by omega)]
/-- the work that is left -/
def pu_m1 (A : Int → Int) (a : Int) : Int := if A (102 + 5 * a) = 1 then 0 else A (98 + 5 * a) - A (101 + 5 * a)
def pu_ms (A : Int → Int) : Int := pu_fold 0 (fun i : Nat => fun s : Int => s + pu_m1 A (i : Int)) (A 3).toNat
theorem pu_sum_lt {f g : Nat → Int} {k : Nat} (hk : f k < g k) (ho : ∀ i, i ≠ k → f i = g i) : ∀ n : Nat, (n ≤ k → pu_fold 0 (fun i : Nat => fun s : Int => s + f i) n = pu_fold 0 (fun i : Nat => fun s : Int => s + g i) n) ∧ (k < n → pu_fold 0 (fun i : Nat => fun s : Int => s + f i) n < pu_fold 0 (fun i : Nat => fun s : Int => s + g i) n) := by
  intro n
  induction n with
  | zero => exact ⟨fun _ => rfl, fun h => by omega⟩
  | succ n ih =>
    rw [pu_fold_s, pu_fold_s]
    refine ⟨fun h => ?_, fun h => ?_⟩
    · rw [ih.1 (by omega), ho n (by omega)]
    · by_cases q : k = n
      · have := ih.1 (by omega)
        rw [q] at hk
        omega
      · have := ih.2 (by omega)
        rw [ho n (by omega)]
        omega
theorem pu_ms_lt {k : Int} (h3 : A' 3 = A 3) (k0 : 0 ≤ k) (k1 : k < A 3) (hk : pu_m1 A' k < pu_m1 A k) (ho : ∀ b, 0 ≤ b → b ≠ k → pu_m1 A' b = pu_m1 A b) : pu_ms A' < pu_ms A := by
  unfold pu_ms
  rw [h3]
  refine (pu_sum_lt (f := fun i => pu_m1 A' (i : Int)) (g := fun i => pu_m1 A (i : Int)) (k := k.toNat) ?_ (fun i hi => ho i (by omega) (by omega)) (A 3).toNat).2 (by omega)
  rw [show ((k.toNat : Nat) : Int) = k by omega]
  exact hk
theorem pu_ms_b (hI : pu_inv A) : 0 ≤ pu_ms A ∧ pu_ms A ≤ 240 := by
  obtain ⟨i0, i1, i2, i3, i4, i5, i6, ip, iq, iw, ia⟩ := hI
  unfold pu_ms
  have key : ∀ n : Nat, n ≤ (A 3).toNat → 0 ≤ pu_fold 0 (fun i : Nat => fun s : Int => s + pu_m1 A (i : Int)) n ∧ pu_fold 0 (fun i : Nat => fun s : Int => s + pu_m1 A (i : Int)) n ≤ 30 * n := by
    intro n
    induction n with
    | zero => intro _; exact ⟨Int.le_refl 0, Int.le_refl 0⟩
    | succ n ih =>
      intro hn
      rw [pu_fold_s]
      have h1 := ih (by omega)
      obtain ⟨a1, a2, a3, a4, a5, a6, a7⟩ := ia n (by omega) (by omega)
      have e : pu_m1 A (n : Int) = if A (102 + 5 * (n : Int)) = 1 then 0 else A (98 + 5 * (n : Int)) - A (101 + 5 * (n : Int)) := rfl
      rw [e]
      split <;> omega
  have := key (A 3).toNat (Nat.le_refl _)
  omega
/-- one day -/
theorem pa_day (h : pu_K σ1 o σ2) (hd : σ2 1 4 < 1000000) : ∃ (r : Int) (τ1 τ2 : jq_M), X1_passOneDay o σ1 = some (r, τ1) ∧ X11_dayGoes σ2 = some (r, τ2) ∧ pu_K τ1 o τ2 ∧ pu_F1 o σ1 τ1 ∧ pu_F2 σ2 τ2 ∧ (r = 0 ∨ r = 1) ∧ τ2 1 4 = σ2 1 4 + 1 ∧ ((∀ a, 0 ≤ a → a < σ2 1 3 → σ2 1 (102 + 5 * a) = 1) ∨ pu_ms (τ2 1) < pu_ms (σ2 1)) := by
  have hI := h.1
  have hC := h.2
  obtain ⟨i0, i1, i2, i3, i4, i5, i6, ip, iq, iw, ia⟩ := h.1
  obtain ⟨⟨c0, c1, c2, c3, c4, c5, c6⟩, cp, cw, ca⟩ := h.2
  have gl := pu_ag_lt (A := σ2 1) (by omega)
  -- the day alone
  have k0 := h.arts (τ1 := jq_st σ1 o 6 (σ2 1 4 + 1)) (τ2 := jq_st σ2 1 4 (σ2 1 4 + 1)) (fun k a b => pu_st_ne a) (fun j a b => pu_st_b b) (fun k a b => pu_st_ne a) (fun j a b => pu_st_b a) (by rw [pu_st_b (by omega), c5, pu_ag_cg (pu_st_b (by omega)) (fun a x y => pu_st_b (by omega))]) (by rw [pu_st_a, pu_st_a]) (by rw [pu_st_a]; omega) (fun a x y => by
    rw [pu_st_ne (by omega), pu_st_b (by omega), pu_st_b (by omega)]
    obtain ⟨e1, e2, e3, e4, e5, ⟨e6, e7⟩, e8⟩ := ia a x y
    exact ⟨(ca a x y).2.2.2, e6, e7, e8⟩)
  have hI' := k0.1.1
  obtain ⟨s1, s1n⟩ := ps_day_st hI hC
  obtain ⟨s2, s2n⟩ := pm_day_st hI'
  have n3 : jq_st σ2 1 4 (σ2 1 4 + 1) 1 3 = σ2 1 3 := pu_st_b (by omega)
  rw [n3] at s2 s2n
  have oc : ∀ k, 0 ≤ k → k < σ2 1 3 → pu_open (jq_st σ2 1 4 (σ2 1 4 + 1) 1) k = pu_open (σ2 1) k := fun k a b => pu_open_cg n3 (fun k a b => ⟨pu_st_b (by omega), pu_st_b (by omega)⟩) a b
  have wd : jq_w (σ2 1 4 + 1) = σ2 1 4 + 1 := pu_w (by omega) (by omega)
  unfold X1_passOneDay X11_dayGoes
  rw [pu_ld (by omega) (by omega), Option.bind_some, wd, pu_sa (by omega) (by omega), Option.bind_some, pu_lt]
  rcases pu_least (pu_open (σ2 1)) (σ2 1 3) with ⟨k, k0', k1, kP, kN⟩ | kN
  · rw [pu_first s1 k0' k1 kP kN, pu_first (P := pu_open (jq_st σ2 1 4 (σ2 1 4 + 1) 1)) s2 k0' k1 (by rw [oc k k0' k1]; exact kP) (fun j a b => by rw [oc j a (by omega)]; exact kN j a b), Option.bind_some, Option.bind_some]
    dsimp only [Sum.elim_inl]
    obtain ⟨e1, e2, e3, e4, e5, ⟨e6, e7⟩, e8⟩ := ia k k0' k1
    obtain ⟨d1, d2, d3, d4⟩ := ca k k0' k1
    have e9 : σ2 1 (101 + 5 * k) < σ2 1 (98 + 5 * k) := by
      rcases e8 with ⟨-, e8⟩ | e8
      · exact e8
      · exact absurd e8 kP.1
    have z1 : X1_workAt o k σ1 = if σ2 1 (101 + 5 * k) + 1 < σ2 1 (98 + 5 * k) then some (jq_st σ1 (o + 12) k (σ2 1 (101 + 5 * k) + 1)) else some (jq_st (jq_st σ1 (o + 12) k (σ2 1 (101 + 5 * k) + 1)) o 5 ((pu_ag (σ2 1) ||| 2 ^ k.toNat : Nat) : Int)) := by
      unfold X1_workAt
      have h2 : (2 : Nat) ^ k.toNat < 2147483648 := Nat.lt_of_le_of_lt (Nat.pow_le_pow_right (by decide) (show k.toNat ≤ 8 by omega)) (by decide)
      rw [if_neg (show ¬ k < 0 by omega), if_pos (show k < 8 by omega), pu_ld k0' (by omega), Option.bind_some, pu_w (by omega) (by omega), pu_sa k0' (by omega), Option.bind_some, pu_ld k0' (by omega), pu_ld k0' (by omega), Option.bind_some, Option.bind_some, pu_st_a, pu_st_ne (by omega), d1, d4, pu_lt, pu_st_ne (by omega), c5, pu_shl1_i k0' (by omega), pu_or (by omega) h2]
    rw [z1, pm_articleRow k0' (by omega), Option.bind_some, pu_lt, pu_w (x := 98 + 5 * k + 3) (by omega) (by omega), pu_w (x := 98 + 5 * k + 4) (by omega) (by omega), pu_ld (by omega) (by omega), Option.bind_some, pu_st_b (by omega), show 98 + 5 * k + 3 = 101 + 5 * k by omega, show 98 + 5 * k + 4 = 102 + 5 * k by omega, pu_w (x := σ2 1 (101 + 5 * k) + 1) (by omega) (by omega), pu_sa (by omega) (by omega), Option.bind_some, pu_ld (by omega) (by omega), Option.bind_some, pu_st_a, pu_ld (by omega) (by omega), Option.bind_some, pu_st_b (by omega), pu_st_b (by omega)]
    by_cases g : σ2 1 (101 + 5 * k) + 1 < σ2 1 (98 + 5 * k)
    · rw [if_pos g, if_pos g, Option.bind_some]
      unfold X1_passOneDay_j37
      simp only [pu_lt]
      rw [pu_st_ne (show o ≠ o + 12 by omega), pu_st_b (by omega), pu_st_ne (show o ≠ o + 12 by omega), if_pos rfl, c6, wd]
      refine ⟨0, _, _, rfl, rfl, ?_⟩
      have kk := h.arts (τ1 := jq_st (jq_st σ1 (o + 12) k (σ2 1 (101 + 5 * k) + 1)) o 6 (σ2 1 4 + 1)) (τ2 := jq_st (jq_st σ2 1 4 (σ2 1 4 + 1)) 1 (101 + 5 * k) (σ2 1 (101 + 5 * k) + 1)) (fun k a b => (pu_st_ne a).trans (pu_st_ne b)) (fun j a b => by rw [pu_st_b b, pu_st_ne (by omega)]) (fun k a b => (pu_st_ne a).trans (pu_st_ne a)) (fun j a b => (pu_st_b (b k k0' k1).1).trans (pu_st_b a)) (by rw [pu_st_b (by omega), pu_st_ne (by omega), c5, pu_ag_cg (A := σ2 1) ((pu_st_b (by omega)).trans (pu_st_b (by omega))) (fun a x y => (pu_st_b (by omega)).trans (pu_st_b (by omega)))]) (by rw [pu_st_a, pu_st_b (by omega), pu_st_a]) (by rw [pu_st_b (by omega), pu_st_a]; omega) (fun a x y => by
        rw [pu_st_ne (by omega)]
        by_cases q : a = k
        · subst q
          rw [pu_st_a, pu_st_a, pu_st_b (show 102 + 5 * a ≠ 101 + 5 * a by omega), pu_st_b (show 102 + 5 * a ≠ 4 by omega)]
          exact ⟨rfl, by omega, by omega, Or.inl ⟨e8.elim (fun z => z.1) (fun z => absurd z kP.1), g⟩⟩
        · rw [pu_st_b q, pu_st_b (by omega), pu_st_b (by omega), pu_st_b (by omega), pu_st_b (by omega)]
          obtain ⟨-, -, -, -, -, ⟨r6, r7⟩, r8⟩ := ia a x y
          exact ⟨(ca a x y).2.2.2, r6, r7, r8⟩)
      refine ⟨kk.1, kk.2.1, kk.2.2, Or.inl rfl, (pu_st_b (by omega)).trans pu_st_a, Or.inr (pu_ms_lt (k := k) ((pu_st_b (by omega)).trans (pu_st_b (by omega))) k0' k1 ?_ (fun b x y => ?_))⟩
      · unfold pu_m1
        rw [pu_st_b (show 102 + 5 * k ≠ 101 + 5 * k by omega), pu_st_b (show 102 + 5 * k ≠ 4 by omega), if_neg kP.1, if_neg kP.1, pu_st_a, pu_st_b (show 98 + 5 * k ≠ 101 + 5 * k by omega), pu_st_b (show 98 + 5 * k ≠ 4 by omega)]
        omega
      · unfold pu_m1
        rw [pu_st_b (show 102 + 5 * b ≠ 101 + 5 * k by omega), pu_st_b (show 102 + 5 * b ≠ 4 by omega), pu_st_b (show 101 + 5 * b ≠ 101 + 5 * k by omega), pu_st_b (show 101 + 5 * b ≠ 4 by omega), pu_st_b (show 98 + 5 * b ≠ 101 + 5 * k by omega), pu_st_b (show 98 + 5 * b ≠ 4 by omega)]
    · rw [if_neg g, if_neg g, Option.bind_some, pu_sa (by omega) (by omega), Option.bind_some]
      unfold X1_passOneDay_j37
      simp only [pu_lt]
      have ga := pu_ag_set (A := σ2 1) (A' := jq_st (jq_st (jq_st σ2 1 4 (σ2 1 4 + 1)) 1 (101 + 5 * k) (σ2 1 (101 + 5 * k) + 1)) 1 (102 + 5 * k) 1 1) (a := k) (((pu_st_b (by omega)).trans (pu_st_b (by omega))).trans (pu_st_b (by omega))) k0' k1 pu_st_a (fun b x y z => ((pu_st_b (by omega)).trans (pu_st_b (by omega))).trans (pu_st_b (by omega)))
      have tb := pu_ag_tb (A := σ2 1) k.toNat
      rw [show 98 + 5 * ((k.toNat : Nat) : Int) + 4 = 102 + 5 * k by omega, decide_eq_false kP.1, Bool.and_false] at tb
      have ne : ¬ (((pu_ag (σ2 1) ||| 2 ^ k.toNat : Nat) : Int) = (pu_ag (σ2 1) : Nat)) := by
        intro z
        have z2 : pu_ag (σ2 1) ||| 2 ^ k.toNat = pu_ag (σ2 1) := by omega
        have z3 := congrArg (fun x => Nat.testBit x k.toNat) z2
        simp only [Nat.testBit_or, pu_bit1, tb] at z3
        simp at z3
      rw [pu_st_b (show (6 : Int) ≠ 5 by omega), pu_st_ne (show o ≠ o + 12 by omega), pu_st_b (show (5 : Int) ≠ 6 by omega), pu_st_a, c5, if_neg ne, c6, wd]
      refine ⟨1, _, _, rfl, rfl, ?_⟩
      have kk := h.arts (τ1 := jq_st (jq_st (jq_st σ1 (o + 12) k (σ2 1 (101 + 5 * k) + 1)) o 5 ((pu_ag (σ2 1) ||| 2 ^ k.toNat : Nat) : Int)) o 6 (σ2 1 4 + 1)) (τ2 := jq_st (jq_st (jq_st σ2 1 4 (σ2 1 4 + 1)) 1 (101 + 5 * k) (σ2 1 (101 + 5 * k) + 1)) 1 (102 + 5 * k) 1) (fun k a b => ((pu_st_ne a).trans (pu_st_ne a)).trans (pu_st_ne b)) (fun j a b => by rw [pu_st_b b, pu_st_b a, pu_st_ne (by omega)]) (fun k a b => ((pu_st_ne a).trans (pu_st_ne a)).trans (pu_st_ne a)) (fun j a b => ((pu_st_b (b k k0' k1).2).trans (pu_st_b (b k k0' k1).1)).trans (pu_st_b a)) (by rw [pu_st_b (by omega), pu_st_a, ga]) (by rw [pu_st_a, pu_st_b (by omega), pu_st_b (by omega), pu_st_a]) (by rw [pu_st_b (by omega), pu_st_b (by omega), pu_st_a]; omega) (fun a x y => by
        rw [pu_st_ne (by omega), pu_st_ne (by omega)]
        by_cases q : a = k
        · subst q
          rw [pu_st_a, pu_st_b (show 101 + 5 * a ≠ 102 + 5 * a by omega), pu_st_a, pu_st_a]
          exact ⟨rfl, by omega, by omega, Or.inr rfl⟩
        · rw [pu_st_b q, pu_st_b (by omega), pu_st_b (by omega), pu_st_b (by omega), pu_st_b (by omega), pu_st_b (by omega), pu_st_b (by omega)]
          obtain ⟨-, -, -, -, -, ⟨r6, r7⟩, r8⟩ := ia a x y
          exact ⟨(ca a x y).2.2.2, r6, r7, r8⟩)
      refine ⟨kk.1, kk.2.1, kk.2.2, Or.inr rfl, ((pu_st_b (by omega)).trans (pu_st_b (by omega))).trans pu_st_a, Or.inr (pu_ms_lt (k := k) (((pu_st_b (by omega)).trans (pu_st_b (by omega))).trans (pu_st_b (by omega))) k0' k1 ?_ (fun b x y => ?_))⟩
      · unfold pu_m1
        rw [pu_st_a, if_pos rfl, if_neg kP.1]
        omega
      · unfold pu_m1
        rw [pu_st_b (show 102 + 5 * b ≠ 102 + 5 * k by omega), pu_st_b (show 102 + 5 * b ≠ 101 + 5 * k by omega), pu_st_b (show 102 + 5 * b ≠ 4 by omega), pu_st_b (show 101 + 5 * b ≠ 102 + 5 * k by omega), pu_st_b (show 101 + 5 * b ≠ 101 + 5 * k by omega), pu_st_b (show 101 + 5 * b ≠ 4 by omega), pu_st_b (show 98 + 5 * b ≠ 102 + 5 * k by omega), pu_st_b (show 98 + 5 * b ≠ 101 + 5 * k by omega), pu_st_b (show 98 + 5 * b ≠ 4 by omega)]
  · rw [pu_firstN (by omega) s1 s1n kN, pu_firstN (P := pu_open (jq_st σ2 1 4 (σ2 1 4 + 1) 1)) (by omega) s2 s2n (fun j a b => by rw [oc j a b]; exact kN j a b), Option.bind_some, Option.bind_some]
    dsimp only [Sum.elim_inr]
    unfold X1_passOneDay_j37
    simp only [pu_lt]
    rw [pu_st_b (by omega), if_pos rfl, c6, wd]
    refine ⟨0, _, _, rfl, rfl, k0.1, k0.2.1, k0.2.2, Or.inl rfl, pu_st_a, Or.inl (fun a x y => ?_)⟩
    -- none is open: all are agreed
    have key : ∀ i : Nat, (i : Int) < σ2 1 3 → σ2 1 (102 + 5 * (i : Int)) = 1 := by
      intro i
      induction i using Nat.strongRecOn with
      | _ i ih =>
        intro hi
        refine Classical.byContradiction (fun hne => kN i (by omega) hi ⟨hne, ?_⟩)
        obtain ⟨l1, l2, l3⟩ := pu_ln_i hI (k := i) (by omega) hi
        refine Nat.eq_of_testBit_eq (fun j => ?_)
        rw [Nat.testBit_and, pu_ag_tb]
        by_cases hj : j < i
        · rw [show 98 + 5 * (j : Int) + 4 = 102 + 5 * j by omega, ih j hj (by omega), decide_eq_true (show j < (σ2 1 3).toNat by omega)]
          simp
        · rw [Nat.testBit_lt_two_pow (Nat.lt_of_lt_of_le l2 (Nat.pow_le_pow_right (by decide) (show (i : Int).toNat ≤ j by omega)))]
          rfl
    have := key a.toNat (by omega)
    rw [show ((a.toNat : Nat) : Int) = a by omega] at this
    exact this
end
