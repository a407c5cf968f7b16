section
variable {σ σ1 σ2 : jq_M} {o : Int} {A : Int → Int}
def pu_lnN (A : Int → Int) : Nat → Nat := fun i => pu_ln A (i : Int)
theorem pu_or_d4 : ∀ m : Nat, m < 256 → ∀ a : Nat, a < 8 → m.testBit a = true → m ||| 2 ^ a = m := by decide +kernel
theorem ps_ordersIn {m : Nat} {x : Int} (hI : pu_inv A) (hC : pu_RC σ o A) (ho : o ≠ 58) (ho2 : o + 11 ≠ 58) (hx : x = (m : Int)) (hm : m < 2 ^ (A 3).toNat) (hv : ∀ s : Nat, s < 2 ^ (A 3).toNat → σ 58 (s : Int) = ((pu_V (A 3).toNat (pu_ag A) (pu_lnN A) m 0 s : Nat) : Int)) : ∃ τ, jq_lp (X0_countOrders_b64 o (x, σ)) (0, σ) = some τ ∧ (∀ k, k ≠ 58 → τ k = σ k) ∧ ∀ s : Nat, s < 2 ^ (A 3).toNat → τ 58 (s : Int) = ((pu_V (A 3).toNat (pu_ag A) (pu_lnN A) (m + 1) 0 s : Nat) : Int) := by
  have i3 := hI.2.2.2.1
  have c4 := hC.1.2.2.2.2.1
  have ca := hC.2.2.2
  have hn : (A 3).toNat ≤ 8 := by omega
  have h8 : (2 : Nat) ^ (A 3).toNat ≤ 2 ^ 8 := Nat.pow_le_pow_right (by decide) hn
  have h256 : (2 : Nat) ^ 8 = 256 := by decide
  have x0 : 0 ≤ x := by omega
  have x1 : x < 256 := by omega
  refine pu_lpE (f := X0_countOrders_b64 o (x, σ)) (s := (0, σ)) (fun i t => t.1 = (i : Int) ∧ (∀ k, k ≠ 58 → t.2 k = σ k) ∧ ∀ s : Nat, s < 2 ^ (A 3).toNat → t.2 58 (s : Int) = ((pu_V (A 3).toNat (pu_ag A) (pu_lnN A) m i s : Nat) : Int)) (fun τ => (∀ k, k ≠ 58 → τ k = σ k) ∧ ∀ s : Nat, s < 2 ^ (A 3).toNat → τ 58 (s : Int) = ((pu_V (A 3).toNat (pu_ag A) (pu_lnN A) (m + 1) 0 s : Nat) : Int)) (A 3).toNat ⟨rfl, fun _ _ => rfl, hv⟩ (fun i t ht hi => ?_) (fun e h1 h2 => ⟨e, h1, h2⟩)
  obtain ⟨t1, t2⟩ := t
  obtain ⟨hk, q1, q2⟩ := ht
  dsimp only at hk q1 q2
  have k0 : 0 ≤ t1 := by omega
  have w := q1 o ho
  have w11 := q1 (o + 11) ho2
  have vm := q2 m hm
  rw [← hx, pu_V_W hn (by omega) (Nat.le_refl m)] at vm
  have wb := pu_W_b2 (n := (A 3).toNat) (now := pu_ag A) (ln := pu_lnN A) (s := m) hn (by omega)
  unfold X0_countOrders_b64
  simp only [w, c4, pu_lt, w11]
  by_cases hl : t1 < A 3
  · obtain ⟨l1, l2, l3⟩ := pu_ln_i hI k0 hl
    have ll : pu_lnN A i = pu_ln A t1 := by unfold pu_lnN; rw [hk]
    have ti : t1.toNat = i := by omega
    have hb : (2 : Nat) ^ i ≤ 2 ^ 8 := Nat.pow_le_pow_right (by decide) (by omega)
    rw [if_pos hl, if_pos (show t1 < 8 by omega), pu_shl1_i k0 (by omega), ti, hx, pu_or (by omega) (by omega), pu_w (x := t1 + 1) (by omega) (by omega)]
    by_cases g1 : m.testBit i = true
    · rw [if_pos (by rw [pu_or_d4 m (by omega) i (by omega) g1])]
      refine Or.inr ⟨by omega, _, rfl, by dsimp only; omega, q1, fun s hs => ?_⟩
      rw [pu_V_no (by omega) (by omega) (by omega) (Or.inl g1)]
      exact q2 s hs
    · have zz := pu_andn0 (a := pu_ln A t1) (b := m) (by omega) (by omega)
      have g1' : m.testBit i = false := by
        cases q : m.testBit i
        · rfl
        · exact absurd q g1
      obtain ⟨d1, d2, d3, d4⟩ := pu_or_d2 m (by omega) i (by omega) g1'
      rw [if_neg (by omega), if_pos (by omega), pu_ld k0 (by omega), Option.bind_some, w11, (ca t1 k0 hl).2.2.1, l1]
      by_cases g2 : pu_ln A t1 &&& m = pu_ln A t1
      · have hlt : m ||| 2 ^ i < 2 ^ (A 3).toNat := Nat.or_lt_two_pow hm (Nat.pow_lt_pow_right (by decide) (by omega))
        rw [if_pos (by rw [zz]; exact g2), pu_ld (i := ((m ||| 2 ^ i : Nat) : Int)) (by omega) (by omega), Option.bind_some, q2 _ hlt, pu_ld (i := (m : Int)) (by omega) (by omega), Option.bind_some, ← hx, vm, pu_sa (by omega) (by omega), Option.bind_some]
        have vb := pu_V_le (n := (A 3).toNat) (now := pu_ag A) (ln := pu_lnN A) (m := m) (k := i) (s := m ||| 2 ^ i) hn d3
        rw [pu_w (x := ((pu_V (A 3).toNat (pu_ag A) (pu_lnN A) m i (m ||| 2 ^ i) : Nat) : Int) + ((pu_W (A 3).toNat (pu_ag A) (pu_lnN A) m : Nat) : Int)) (by omega) (by omega)]
        refine Or.inr ⟨by omega, _, rfl, by dsimp only; omega, fun k hk => (pu_st_ne hk).trans (q1 k hk), fun s hs => ?_⟩
        dsimp only
        rw [pu_V_go hn (by omega) (by omega) (by omega) g1' (by rw [ll]; exact g2)]
        by_cases z : s = m ||| 2 ^ i
        · rw [if_pos z, z, pu_st_a]; omega
        · rw [if_neg z, pu_st_b (by omega), Nat.add_zero]; exact q2 s hs
      · rw [if_neg (by rw [zz]; exact g2)]
        refine Or.inr ⟨by omega, _, rfl, by dsimp only; omega, q1, fun s hs => ?_⟩
        rw [pu_V_no (by omega) (by omega) (by omega) (Or.inr (by rw [ll]; exact g2))]
        exact q2 s hs
  · rw [if_neg hl]
    refine Or.inl ⟨_, rfl, q1, fun s hs => ?_⟩
    rw [q2 s hs, show i = (A 3).toNat by omega, pu_V_n (by omega)]
theorem ps_orders (hI : pu_inv A) (hC : pu_RC σ o A) (ho : o = 5 ∨ o = 25) : ∃ τ, X0_countOrders o σ = some (((pu_W (A 3).toNat (pu_ag A) (pu_lnN A) (2 ^ (A 3).toNat - 1) : Nat) : Int), τ) ∧ ∀ k, k ≠ 58 → τ k = σ k := by
  have i3 := hI.2.2.2.1
  have c4 := hC.1.2.2.2.2.1
  have c5 := hC.1.2.2.2.2.2.1
  have hn : (A 3).toNat ≤ 8 := by omega
  have h8 : (2 : Nat) ^ (A 3).toNat ≤ 2 ^ 8 := Nat.pow_le_pow_right (by decide) hn
  have h256 : (2 : Nat) ^ 8 = 256 := by decide
  have hp := Nat.two_pow_pos (A 3).toNat
  have gl := pu_ag_lt (A := A) (by omega)
  unfold X0_countOrders
  rw [c4, pu_shl1_i (by omega) (by omega), pu_lt]
  generalize hS : ((2 ^ (A 3).toNat : Nat) : Int) = S
  rw [pu_w (x := S - 1) (by omega) (by omega)]
  refine pu_lpE (f := X0_countOrders_b11 o) (s := (0, σ)) (fun i t => t.1 = (i : Int) ∧ (∀ k, k ≠ 58 → t.2 k = σ k) ∧ ∀ s : Nat, (s : Int) < t.1 → t.2 58 (s : Int) = if s = pu_ag A then 1 else 0) (fun τ => (∀ k, k ≠ 58 → τ k = σ k) ∧ ∀ s : Nat, s < 256 → τ 58 (s : Int) = if s = pu_ag A then 1 else 0) 256 ⟨rfl, fun _ _ => rfl, fun s hs => by dsimp only at hs; omega⟩ (fun i t ht hi => ?_) ?_
  · obtain ⟨t1, t2⟩ := t
    obtain ⟨hk, q1, q2⟩ := ht
    dsimp only at hk q1 q2
    have k0 : 0 ≤ t1 := by omega
    have w := q1 o (by omega)
    unfold X0_countOrders_b11
    simp only [w, c5, pu_lt]
    by_cases hl : t1 < 256
    · rw [if_pos hl, pu_sa k0 (by omega), Option.bind_some, pu_sa k0 (by omega), Option.bind_some, pu_w (x := t1 + 1) (by omega) (by omega)]
      by_cases g : t1 = ((pu_ag A : Nat) : Int)
      · rw [if_pos g]
        refine Or.inr ⟨by omega, _, rfl, by dsimp only; omega, fun k hk => (pu_st_ne hk).trans (q1 k hk), fun s hs => ?_⟩
        dsimp only at hs ⊢
        by_cases z : (s : Int) = t1
        · rw [z, pu_st_a, if_pos (by omega)]
        · rw [pu_st_b z]; exact q2 s (by omega)
      · rw [if_neg g]
        refine Or.inr ⟨by omega, _, rfl, by dsimp only; omega, fun k hk => (pu_st_ne hk).trans (q1 k hk), fun s hs => ?_⟩
        dsimp only at hs ⊢
        by_cases z : (s : Int) = t1
        · rw [z, pu_st_a, if_neg (by omega)]
        · rw [pu_st_b z]; exact q2 s (by omega)
    · rw [if_neg hl]
      exact Or.inl ⟨_, rfl, q1, fun s hs => q2 s (by omega)⟩
  · rintro e h1 ⟨h2, h3⟩
    rw [h1, Option.bind_some]
    refine pu_lpE (f := X0_countOrders_b47 o (S - 1)) (s := (0, e)) (fun i t => t.1 = (i : Int) ∧ (∀ k, k ≠ 58 → t.2 k = σ k) ∧ ∀ s : Nat, s < 2 ^ (A 3).toNat → t.2 58 (s : Int) = ((pu_V (A 3).toNat (pu_ag A) (pu_lnN A) i 0 s : Nat) : Int)) (fun τ => (∀ k, k ≠ 58 → τ k = σ k) ∧ ∀ s : Nat, s < 2 ^ (A 3).toNat → τ 58 (s : Int) = ((pu_W (A 3).toNat (pu_ag A) (pu_lnN A) s : Nat) : Int)) (2 ^ (A 3).toNat - 1) ⟨rfl, h2, fun s hs => ?_⟩ (fun i t ht hi => ?_) ?_
    · dsimp only
      rw [h3 s (by omega), pu_V_0]
      split <;> rfl
    · obtain ⟨t1, t2⟩ := t
      obtain ⟨hk, q1, q2⟩ := ht
      dsimp only at hk q1 q2
      have k0 : 0 ≤ t1 := by omega
      unfold X0_countOrders_b47
      dsimp only
      by_cases hl : t1 < S - 1
      · obtain ⟨τ, u1, u2, u3⟩ := ps_ordersIn (σ := t2) (o := o) (m := i) (x := t1) hI (hC.mv (fun k x y => q1 _ (by omega))) (by omega) (by omega) hk (by omega) q2
        rw [if_pos hl, if_pos (by omega), u1, Option.bind_some]
        simp only [pu_lt]
        rw [pu_w (by omega) (by omega)]
        exact Or.inr ⟨by omega, _, rfl, by dsimp only; omega, fun k hk => (u2 k hk).trans (q1 k hk), u3⟩
      · rw [if_neg hl]
        refine Or.inl ⟨_, rfl, q1, fun s hs => ?_⟩
        rw [q2 s hs, pu_V_W hn (by omega) (by omega)]
    · rintro e' g1 ⟨g2, g3⟩
      have g4 := g3 (2 ^ (A 3).toNat - 1) (by omega)
      rw [show ((2 ^ (A 3).toNat - 1 : Nat) : Int) = S - 1 by omega] at g4
      rw [g1, Option.bind_some]
      unfold X0_countOrders_j149
      rw [if_neg (show ¬ S - 1 < 0 by omega), if_pos (show S - 1 < 256 by omega), pu_ld (by omega) (by omega), Option.bind_some, g4]
      exact ⟨_, rfl, g2⟩
theorem pm_ordersIn {m : Nat} {x b : Int} (hI : pu_inv (σ 1)) (hb : b = ((pu_ag (σ 1) : Nat) : Int)) (hx : x = (m : Int)) (hm : m < 2 ^ (σ 1 3).toNat) (hv : ∀ s : Nat, s < m → σ 13 (s : Int) = ((pu_W (σ 1 3).toNat (pu_ag (σ 1)) (pu_lnN (σ 1)) s : Nat) : Int)) (h0 : σ 13 x = if m = pu_ag (σ 1) then 1 else 0) : ∃ τ, jq_lp (X11_orders_b42 b x) (0, σ) = some τ ∧ (∀ k, k ≠ 13 → τ k = σ k) ∧ ∀ s : Nat, s < m + 1 → τ 13 (s : Int) = ((pu_W (σ 1 3).toNat (pu_ag (σ 1)) (pu_lnN (σ 1)) s : Nat) : Int) := by
  have i3 := hI.2.2.2.1
  have hn : (σ 1 3).toNat ≤ 8 := by omega
  have h8 : (2 : Nat) ^ (σ 1 3).toNat ≤ 2 ^ 8 := Nat.pow_le_pow_right (by decide) hn
  have h256 : (2 : Nat) ^ 8 = 256 := by decide
  have gl := pu_ag_lt (A := σ 1) (by omega)
  have x0 : 0 ≤ x := by omega
  have x1 : x < 256 := by omega
  have We := pu_W_e (n := (σ 1 3).toNat) (now := pu_ag (σ 1)) (ln := pu_lnN (σ 1)) (s := m) hn (by omega)
  have Wb := pu_W_b2 (n := (σ 1 3).toNat) (now := pu_ag (σ 1)) (ln := pu_lnN (σ 1)) (s := m) hn (by omega)
  refine pu_lpE (f := X11_orders_b42 b x) (s := (0, σ)) (fun i t => t.1 = (i : Int) ∧ (∀ k, k ≠ 13 → t.2 k = σ k) ∧ (∀ s : Nat, s < m → t.2 13 (s : Int) = ((pu_W (σ 1 3).toNat (pu_ag (σ 1)) (pu_lnN (σ 1)) s : Nat) : Int)) ∧ t.2 13 x = (((if m = pu_ag (σ 1) then 1 else 0) + pu_sum (pu_wc (pu_ag (σ 1)) (pu_lnN (σ 1)) (pu_W (σ 1 3).toNat (pu_ag (σ 1)) (pu_lnN (σ 1))) m) i : Nat) : Int)) (fun τ => (∀ k, k ≠ 13 → τ k = σ k) ∧ ∀ s : Nat, s < m + 1 → τ 13 (s : Int) = ((pu_W (σ 1 3).toNat (pu_ag (σ 1)) (pu_lnN (σ 1)) s : Nat) : Int)) (σ 1 3).toNat ⟨rfl, fun _ _ => rfl, hv, ?_⟩ (fun i t ht hi => ?_) (fun e h1 h2 => ⟨e, h1, h2⟩)
  · dsimp only
    rw [h0]
    show _ = (((if m = pu_ag (σ 1) then 1 else 0) + 0 : Nat) : Int)
    split <;> rfl
  obtain ⟨t1, t2⟩ := t
  obtain ⟨hk, q1, q2, q3⟩ := ht
  dsimp only at hk q1 q2 q3
  have k0 : 0 ≤ t1 := by omega
  have w := q1 1 (by omega)
  unfold X11_orders_b42
  dsimp only
  rw [pu_ld (by omega) (by omega), Option.bind_some, w]
  by_cases hl : t1 < σ 1 3
  · obtain ⟨l1, l2, l3⟩ := pu_ln_i hI k0 hl
    have ti : t1.toNat = i := by omega
    have ll : pu_lnN (σ 1) i = pu_ln (σ 1) t1 := by unfold pu_lnN; rw [hk]
    have it := pu_isin_i (s := m) (k := t1) (by omega) k0 (by omega)
    have it2 := pu_isin_i (s := pu_ag (σ 1)) (k := t1) (by omega) k0 (by omega)
    have pb : (2 : Nat) ^ i ≤ 2 ^ 8 := Nat.pow_le_pow_right (by decide) (by omega)
    have sm := pu_sum_m (f := pu_wc (pu_ag (σ 1)) (pu_lnN (σ 1)) (pu_W (σ 1 3).toNat (pu_ag (σ 1)) (pu_lnN (σ 1))) m) (a := i + 1) (n := (σ 1 3).toNat) (by omega)
    have se : pu_sum (pu_wc (pu_ag (σ 1)) (pu_lnN (σ 1)) (pu_W (σ 1 3).toNat (pu_ag (σ 1)) (pu_lnN (σ 1))) m) (i + 1) = pu_sum (pu_wc (pu_ag (σ 1)) (pu_lnN (σ 1)) (pu_W (σ 1 3).toNat (pu_ag (σ 1)) (pu_lnN (σ 1))) m) i + pu_wc (pu_ag (σ 1)) (pu_lnN (σ 1)) (pu_W (σ 1 3).toNat (pu_ag (σ 1)) (pu_lnN (σ 1))) m i := rfl
    rw [if_pos hl, pu_lt, pm_isIn, Option.bind_some, pu_ii, pm_isIn, Option.bind_some, pu_ii, pu_shl1_i k0 (by omega), ti, hb, hx, pu_andn (by omega) (by omega), it, it2, ti]
    simp only [pu_lt]
    rw [pu_w (x := t1 + 1) (by omega) (by omega)]
    -- nothing comes
    have no : pu_wc (pu_ag (σ 1)) (pu_lnN (σ 1)) (pu_W (σ 1 3).toNat (pu_ag (σ 1)) (pu_lnN (σ 1))) m i = 0 → (∃ e, (some (Sum.inl (t1 + 1, t2)) : Option ((Int × jq_M) ⊕ jq_M)) = some (.inr e) ∧ (∀ k, k ≠ 13 → e k = σ k) ∧ ∀ s : Nat, s < m + 1 → e 13 (s : Int) = ((pu_W (σ 1 3).toNat (pu_ag (σ 1)) (pu_lnN (σ 1)) s : Nat) : Int)) ∨ (i < (σ 1 3).toNat ∧ ∃ s', (some (Sum.inl (t1 + 1, t2)) : Option ((Int × jq_M) ⊕ jq_M)) = some (.inl s') ∧ s'.1 = ((i + 1 : Nat) : Int) ∧ (∀ k, k ≠ 13 → s'.2 k = σ k) ∧ (∀ s : Nat, s < m → s'.2 13 (s : Int) = ((pu_W (σ 1 3).toNat (pu_ag (σ 1)) (pu_lnN (σ 1)) s : Nat) : Int)) ∧ s'.2 13 x = (((if m = pu_ag (σ 1) then 1 else 0) + pu_sum (pu_wc (pu_ag (σ 1)) (pu_lnN (σ 1)) (pu_W (σ 1 3).toNat (pu_ag (σ 1)) (pu_lnN (σ 1))) m) (i + 1) : Nat) : Int)) := by
      intro z
      exact Or.inr ⟨by omega, _, rfl, by dsimp only; omega, q1, q2, by rw [se, z]; exact q3⟩
    rw [← hx]
    by_cases g1 : m.testBit i = true
    · obtain ⟨d1, d2, d3, d4, d5⟩ := pu_or_d1 m (by omega) i (by omega) g1
      rw [pu_if_p g1]
      by_cases g2 : (pu_ag (σ 1)).testBit i = true
      · rw [pu_if_p g2]
        exact no (by unfold pu_wc; rw [if_neg (fun q => by rw [g2] at q; exact absurd q.2.1 (by decide))])
      · have g2' : (pu_ag (σ 1)).testBit i = false := by
          cases q : (pu_ag (σ 1)).testBit i
          · rfl
          · exact absurd q g2
        have z3 := pu_andn0 (a := pu_ag (σ 1)) (b := m ^^^ 2 ^ i) (by omega) (by omega)
        have z4 := pu_andn0 (a := pu_ln (σ 1) t1) (b := m ^^^ 2 ^ i) (by omega) (by omega)
        rw [pu_if_n g2, d4]
        by_cases g3 : pu_ag (σ 1) &&& (m ^^^ 2 ^ i) = pu_ag (σ 1)
        · rw [if_pos (by rw [z3]; exact g3), pm_articleRow k0 (by omega), Option.bind_some, pu_w (by omega) (by omega), pu_ld (by omega) (by omega), Option.bind_some, w, show 98 + 5 * t1 + 2 = 100 + 5 * t1 by omega, l1]
          by_cases g4 : pu_ln (σ 1) t1 &&& (m ^^^ 2 ^ i) = pu_ln (σ 1) t1
          · have wc : pu_wc (pu_ag (σ 1)) (pu_lnN (σ 1)) (pu_W (σ 1 3).toNat (pu_ag (σ 1)) (pu_lnN (σ 1))) m i = pu_W (σ 1 3).toNat (pu_ag (σ 1)) (pu_lnN (σ 1)) (m ^^^ 2 ^ i) := by
              unfold pu_wc
              rw [if_pos ⟨g1, g2', g3, by rw [ll]; exact g4⟩]
            rw [if_pos (by rw [z4]; exact g4), pu_ld x0 x1, Option.bind_some, q3, pu_ld (by omega) (by omega), Option.bind_some, q2 _ d1, pu_sa x0 x1, Option.bind_some]
            rw [wc] at se
            rw [show ((((if m = pu_ag (σ 1) then 1 else 0) + pu_sum (pu_wc (pu_ag (σ 1)) (pu_lnN (σ 1)) (pu_W (σ 1 3).toNat (pu_ag (σ 1)) (pu_lnN (σ 1))) m) i : Nat) : Int) + ((pu_W (σ 1 3).toNat (pu_ag (σ 1)) (pu_lnN (σ 1)) (m ^^^ 2 ^ i) : Nat) : Int)) = (((if m = pu_ag (σ 1) then 1 else 0) + pu_sum (pu_wc (pu_ag (σ 1)) (pu_lnN (σ 1)) (pu_W (σ 1 3).toNat (pu_ag (σ 1)) (pu_lnN (σ 1))) m) (i + 1) : Nat) : Int) by rw [se]; omega]
            generalize hz : ((if m = pu_ag (σ 1) then 1 else 0) + pu_sum (pu_wc (pu_ag (σ 1)) (pu_lnN (σ 1)) (pu_W (σ 1 3).toNat (pu_ag (σ 1)) (pu_lnN (σ 1))) m) (i + 1) : Nat) = z
            have zb : z ≤ 43046721 := by omega
            rw [pu_w (x := (z : Int)) (by omega) (by omega)]
            refine Or.inr ⟨by omega, _, rfl, by dsimp only; omega, fun k hk => (pu_st_ne hk).trans (q1 k hk), fun s hs => ?_, ?_⟩
            · dsimp only
              rw [pu_st_b (by omega)]; exact q2 s hs
            · dsimp only
              rw [pu_st_a]
          · rw [if_neg (by rw [z4]; exact g4)]
            exact no (by unfold pu_wc; rw [if_neg (fun q => g4 (by have := q.2.2.2; rw [ll] at this; exact this))])
        · rw [if_neg (by rw [z3]; exact g3)]
          exact no (by unfold pu_wc; rw [if_neg (fun q => g3 q.2.2.1)])
    · rw [pu_if_n g1]
      exact no (by unfold pu_wc; rw [if_neg (fun q => g1 q.1)])
  · rw [if_neg hl]
    refine Or.inl ⟨_, rfl, q1, fun s hs => ?_⟩
    by_cases z : s = m
    · rw [z, ← hx, q3, show i = (σ 1 3).toNat by omega, ← We]
    · exact q2 s (by omega)
theorem pm_orders (hI : pu_inv (σ 1)) : ∃ τ, X11_orders σ = some (((pu_W (σ 1 3).toNat (pu_ag (σ 1)) (pu_lnN (σ 1)) (2 ^ (σ 1 3).toNat - 1) : Nat) : Int), jq_st τ 0 2 0) ∧ ∀ k, k ≠ 13 → τ k = σ k := by
  have i3 := hI.2.2.2.1
  have hn : (σ 1 3).toNat ≤ 8 := by omega
  have h8 : (2 : Nat) ^ (σ 1 3).toNat ≤ 2 ^ 8 := Nat.pow_le_pow_right (by decide) hn
  have h256 : (2 : Nat) ^ 8 = 256 := by decide
  have hp := Nat.two_pow_pos (σ 1 3).toNat
  unfold X11_orders
  rw [pu_ld (by omega) (by omega), Option.bind_some, pu_shl1_i (by omega) (by omega), pu_lt, pm_agreedNow hI, Option.bind_some]
  generalize hS : ((2 ^ (σ 1 3).toNat : Nat) : Int) = S
  generalize hb : ((pu_ag (σ 1) : Nat) : Int) = b
  rw [pu_w (by omega) (by omega)]
  refine pu_lpE (f := X11_orders_b18 (S - 1) b) (s := (0, σ)) (fun i t => t.1 = (i : Int) ∧ (∀ k, k ≠ 13 → t.2 k = σ k) ∧ ∀ s : Nat, s < i → t.2 13 (s : Int) = ((pu_W (σ 1 3).toNat (pu_ag (σ 1)) (pu_lnN (σ 1)) s : Nat) : Int)) (fun τ => (∀ k, k ≠ 13 → τ k = σ k) ∧ ∀ s : Nat, s < 2 ^ (σ 1 3).toNat → τ 13 (s : Int) = ((pu_W (σ 1 3).toNat (pu_ag (σ 1)) (pu_lnN (σ 1)) s : Nat) : Int)) (2 ^ (σ 1 3).toNat) ⟨rfl, fun _ _ => rfl, fun s hs => by omega⟩ (fun i t ht hi => ?_) ?_
  · obtain ⟨t1, t2⟩ := t
    obtain ⟨hk, q1, q2⟩ := ht
    dsimp only at hk q1 q2
    have k0 : 0 ≤ t1 := by omega
    have w := q1 1 (by omega)
    unfold X11_orders_b18
    dsimp only
    by_cases hl : S - 1 < t1
    · rw [if_pos hl]
      exact Or.inl ⟨_, rfl, q1, fun s hs => q2 s (by omega)⟩
    · have go : ∀ v : Int, (v = if i = pu_ag (σ 1) then 1 else 0) → ∃ τ, X11_orders_j38 (S - 1) b t1 t1 v t2 = some (.inl (t1 + 1, τ)) ∧ (∀ k, k ≠ 13 → τ k = σ k) ∧ ∀ s : Nat, s < i + 1 → τ 13 (s : Int) = ((pu_W (σ 1 3).toNat (pu_ag (σ 1)) (pu_lnN (σ 1)) s : Nat) : Int) := by
        intro v hv
        have w' : jq_st t2 13 t1 v 1 = σ 1 := (pu_st_ne (by omega)).trans w
        obtain ⟨τ, u1, u2, u3⟩ := pm_ordersIn (σ := jq_st t2 13 t1 v) (m := i) (x := t1) (b := b) (by rw [w']; exact hI) (by rw [w']; exact hb.symm) hk (by rw [w']; omega) (fun s hs => by rw [w', pu_st_b (by omega)]; exact q2 s hs) (by rw [w', pu_st_a, hv])
        rw [w'] at u3
        unfold X11_orders_j38
        rw [pu_sa k0 (by omega), Option.bind_some, u1, Option.bind_some, pu_lt, pu_w (by omega) (by omega)]
        exact ⟨τ, rfl, fun k hk => ((u2 k hk).trans (pu_st_ne hk)).trans (q1 k hk), u3⟩
      rw [if_neg hl]
      by_cases g : t1 = b
      · obtain ⟨τ, u1, u2, u3⟩ := go 1 (by rw [if_pos (by omega)])
        rw [if_pos g, u1]
        exact Or.inr ⟨by omega, _, rfl, by dsimp only; omega, u2, u3⟩
      · obtain ⟨τ, u1, u2, u3⟩ := go 0 (by rw [if_neg (by omega)])
        rw [if_neg g, u1]
        exact Or.inr ⟨by omega, _, rfl, by dsimp only; omega, u2, u3⟩
  · rintro e h1 ⟨h2, h3⟩
    have g4 := h3 (2 ^ (σ 1 3).toNat - 1) (by omega)
    rw [show ((2 ^ (σ 1 3).toNat - 1 : Nat) : Int) = S - 1 by omega] at g4
    rw [h1, Option.bind_some, pu_ld (by omega) (by omega), Option.bind_some, g4]
    exact ⟨e, rfl, h2⟩
theorem pr_orders {σ1 σ2 : jq_M} (h : jq_Rel σ1 σ2) (w1 : jq_wf jq_zX 132 σ1) (w2 : jq_wf jq_zM 18 σ2) (y1 : jq_lay jq_zX σ1) (y2 : jq_lay jq_zM σ2) : ∃ (r : Int) (σ1' σ2' : jq_M), X10_orders σ1 = some (r, σ1') ∧ X11_orders σ2 = some (r, σ2') ∧ jq_Rel σ1' σ2' := by
  have hn : σ1 0 7 = 5 ∨ σ1 0 7 = 25 := by have := h.2.1; omega
  obtain ⟨τ, h1, h2⟩ := ps_orders h.2.2.1.1 h.2.2.1.2.1 hn
  obtain ⟨υ, g1, g2⟩ := pm_orders h.2.2.1.1
  refine pu_nf h (τ1 := τ) (τ2 := υ) (fun k hk => h2 k (fun q => hk (by unfold pu_scr; omega))) ⟨⟨g2 1 (by omega), g2 2 (by omega), g2 3 (by omega), g2 4 (by omega), g2 5 (by omega), g2 6 (by omega), g2 17 (by omega)⟩, fun j _ => by rw [g2 0 (by omega)]⟩ ?_ g1
  unfold X10_orders
  simp only [pu_lt, h1, pu_b2, ps_answer]
end
