theorem pu_forF {S E : Type} {f : S × Int → Option ((S × Int) ⊕ E)} (P : S → Prop) (e : S → E) (a : S) (step : Nat → S → S) (n : Nat) (ha : P a) (h : ∀ (i : Nat) (s : S), P s → i < n → f (s, (i : Int)) = some (.inl (step i s, (i : Int) + 1)) ∧ P (step i s)) (hx : ∀ s, P s → f (s, (n : Int)) = some (.inr (e s))) : jq_lp f (a, 0) = some (e (pu_fold a step n)) := by
  have key : ∀ i, i ≤ n → P (pu_fold a step i) := by
    intro i
    induction i with
    | zero => intro _; exact ha
    | succ i ih => intro hi; exact (h i _ (ih (by omega)) (by omega)).2
  exact pu_for (f := f) (fun s i => (s, i)) (pu_fold a step) n (fun i hi => (h i _ (key i (by omega)) hi).1) (hx _ (key n (Nat.le_refl n)))
/-- the same with the counter as it stands -/
theorem pu_forK {S E : Type} {f : S × Int → Option ((S × Int) ⊕ E)} (P : S → Prop) (e : S → E) (a : S) (step : Int → S → S) (n : Int) (hn : 0 ≤ n) (ha : P a) (h : ∀ (k : Int) (s : S), 0 ≤ k → k < n → P s → f (s, k) = some (.inl (step k s, k + 1)) ∧ P (step k s)) (hx : ∀ s, P s → f (s, n) = some (.inr (e s))) : jq_lp f (a, 0) = some (e (pu_fold a (fun i : Nat => step (i : Int)) n.toNat)) :=
  pu_forF P e a (fun i : Nat => step (i : Int)) n.toNat ha (fun i s hs hi => h i s (by omega) (by omega) hs) (fun s hs => by rw [show ((n.toNat : Nat) : Int) = n by omega]; exact hx s hs)
/-! what a row S of seats is worth by the numbers A -/
def pu_bes (A : Int → Int) (a b : Int) : Prop := jq_abs (jq_w (a - b)) = 1 ∨ jq_abs (jq_w (a - b)) = jq_w (A 0 - 1)
def pu_fac (A : Int → Int) (a b : Int) : Prop := jq_w (2 * jq_abs (jq_w (a - b))) = A 0
def pu_met (A S : Int → Int) (k : Int) : Prop := S (A (18 + 4 * k)) ≠ -1 ∧ (A (19 + 4 * k) = 2 ∧ jq_and (jq_shr (A 5) (S (A (18 + 4 * k)))) 1 = 1 ∨ A (19 + 4 * k) ≠ 2 ∧ S (A (20 + 4 * k)) ≠ -1 ∧ (A (19 + 4 * k) = 0 ∧ pu_bes A (S (A (18 + 4 * k))) (S (A (20 + 4 * k))) ∨ A (19 + 4 * k) ≠ 0 ∧ pu_fac A (S (A (18 + 4 * k))) (S (A (20 + 4 * k)))))
noncomputable def pu_wst (A S : Int → Int) (p : Int) (k : Int) (s : Int) : Int := pu_if (A (18 + 4 * k) = p ∧ pu_met A S k) (jq_w (s + A (21 + 4 * k))) s
noncomputable def pu_worth (A S : Int → Int) (p : Int) : Int := pu_fold 0 (fun i : Nat => pu_wst A S p (i : Int)) (A 2).toNat
noncomputable def pu_ast (A S : Int → Int) (k : Int) (s : Int) : Int := pu_if (pu_met A S k) (jq_w (s + A (21 + 4 * k))) s
noncomputable def pu_all (A S : Int → Int) : Int := pu_fold 0 (fun i : Nat => pu_ast A S (i : Int)) (A 2).toNat
noncomputable def pu_sst (A S : Int → Int) (p : Int) (s : Int) : Int := pu_if (A (8 + 2 * p) ≤ pu_worth A S p) (jq_or s (jq_shl 1 p)) s
noncomputable def pu_sg (A S : Int → Int) : Int := pu_fold 0 (fun i : Nat => pu_sst A S (i : Int)) (A 1).toNat
noncomputable def pu_lst (A S : Int → Int) (p : Int) (s : Int) : Int := jq_w (s + jq_max 0 (jq_w (A (8 + 2 * p) - pu_worth A S p)))
noncomputable def pu_lack (A S : Int → Int) : Int := pu_fold 0 (fun i : Nat => pu_lst A S (i : Int)) (A 1).toNat
theorem pu_w_r0 {x : Int} (h : jq_r x) : jq_w (x + 0) = x := by rw [Int.add_zero]; exact jq_w_id h
theorem pu_or0 {x : Int} (h : jq_r x) : jq_or x 0 = x := by
  unfold jq_or
  rw [show Int32.ofInt x ||| Int32.ofInt 0 = Int32.ofInt x from Int32.or_zero, jq_toInt, jq_w_id h]
theorem pu_or_r (x y : Int) : jq_r (jq_or x y) := jq_ti_r _
section
variable {σ : jq_M} {o row p k : Int} {A S : Int → Int}
theorem ps_nextTo {a b : Int} (h0 : σ o 0 = A 0) : X1_nextTo o a b σ = some (pu_i (a ≠ -1 ∧ b ≠ -1 ∧ pu_bes A a b)) := by
  unfold X1_nextTo pu_i pu_bes
  rw [h0]
  by_cases h1 : a = -1
  · rw [if_pos h1, if_neg (by omega)]
  · rw [if_neg h1]
    by_cases h2 : b = -1
    · rw [if_pos h2, if_neg (by omega)]
    · rw [if_neg h2]
      simp only [pu_lt]
      by_cases h3 : jq_abs (jq_w (a - b)) = 1
      · rw [if_pos h3, if_pos ⟨h1, h2, Or.inl h3⟩]
      · rw [if_neg h3]
        by_cases h4 : jq_abs (jq_w (a - b)) = jq_w (A 0 - 1)
        · rw [if_pos h4, if_pos ⟨h1, h2, Or.inr h4⟩]
        · rw [if_neg h4, if_neg (by omega)]
theorem ps_opposite {a b : Int} (h0 : σ o 0 = A 0) : X1_opposite o a b σ = some (pu_i (a ≠ -1 ∧ b ≠ -1 ∧ pu_fac A a b)) := by
  unfold X1_opposite pu_i pu_fac
  rw [h0]
  by_cases h1 : a = -1
  · rw [if_pos h1, if_neg (by omega)]
  · rw [if_neg h1]
    by_cases h2 : b = -1
    · rw [if_pos h2, if_neg (by omega)]
    · rw [if_neg h2]
      by_cases h3 : jq_w (2 * jq_abs (jq_w (a - b))) = A 0
      · rw [if_pos h3, if_pos ⟨h1, h2, h3⟩]
      · rw [if_neg h3, if_neg (by omega)]
theorem pm_beside {a b : Int} : X11_areBeside a b σ = some (pu_i (pu_bes (σ 1) a b)) := by
  unfold X11_areBeside pu_i pu_bes
  simp (disch := omega) only [pu_lt, pu_ld, Option.bind_some]
  by_cases h3 : jq_abs (jq_w (a - b)) = 1
  · rw [if_pos h3, if_pos (Or.inl h3)]
  · rw [if_neg h3]
    by_cases h4 : jq_abs (jq_w (a - b)) = jq_w (σ 1 0 - 1)
    · rw [if_pos h4, if_pos (Or.inr h4)]
    · rw [if_neg h4, if_neg (by omega)]
theorem pm_facing {a b : Int} : X11_areFacing a b σ = some (pu_i (pu_fac (σ 1) a b)) := by
  unfold X11_areFacing pu_i pu_fac
  simp (disch := omega) only [pu_ld, Option.bind_some]
  by_cases h4 : jq_w (2 * jq_abs (jq_w (a - b))) = σ 1 0
  · rw [if_pos h4, if_pos h4]
  · rw [if_neg h4, if_neg h4]
theorem ps_seatIn (h0 : 0 ≤ p) (h1 : p < 5) : X1_seatIn row p σ = some (σ row p) := by
  unfold X1_seatIn
  rw [if_neg (by omega), if_pos h1, pu_ld h0 h1]
  rfl
theorem ps_isMet (hI : pu_inv A) (hC : pu_RC σ o A) (hS : ∀ p, 0 ≤ p → p < A 1 → σ row p = S p) (k0 : 0 ≤ k) (k1 : k < A 2) : X1_isMet o k row σ = some (pu_i (pu_met A S k)) := by
  obtain ⟨i0, i1, i2, i3, i4, i5, i6, ip, iq, iw, ia⟩ := hI
  obtain ⟨⟨c0, c1, c2, c3, c4, c5, c6⟩, cp, cw, ca⟩ := hC
  obtain ⟨d1, d2, d3, d4⟩ := cw k k0 k1
  obtain ⟨e1, e2, e3, e4⟩ := iw k k0 k1
  have s1 := hS _ e1 e2
  unfold X1_isMet
  rw [ps_isWish (by omega), Option.bind_some, pu_i_p (show 0 ≤ k ∧ k < σ o 3 by omega), if_neg (show ¬ ((1 : Int) = 0) by decide), pu_ld (by omega) (by omega), Option.bind_some, d1, ps_seatIn (by omega) (by omega), Option.bind_some, s1]
  unfold X1_isMet_j22
  simp (disch := omega) only [pu_ld, Option.bind_some, d2, d3, c1, ps_holds, ps_nextTo c0, ps_opposite c0]
  unfold pu_i pu_met
  by_cases h1 : S (A (18 + 4 * k)) = -1
  · rw [if_pos h1, if_neg (fun q => q.1 h1)]
  · rw [if_neg h1]
    by_cases h2 : A (19 + 4 * k) = 2
    · rw [if_pos h2]
      by_cases h3 : jq_and (jq_shr (A 5) (S (A (18 + 4 * k)))) 1 = 1
      · rw [if_pos h3, if_pos ⟨h1, Or.inl ⟨h2, h3⟩⟩]
      · rw [if_neg h3, if_neg (fun q => q.2.elim (fun q => h3 q.2) (fun q => q.1 h2))]
    · rw [if_neg h2]
      rcases e3 with e3 | ⟨e3, e5, e6⟩
      · exact absurd e3 h2
      · have s2 := hS _ e5 e6
        rw [ps_seatIn e5 (by omega), Option.bind_some, s2]
        by_cases h3 : A (19 + 4 * k) = 0
        · rw [if_pos h3]
          by_cases h4 : S (A (18 + 4 * k)) ≠ -1 ∧ S (A (20 + 4 * k)) ≠ -1 ∧ pu_bes A (S (A (18 + 4 * k))) (S (A (20 + 4 * k)))
          · rw [if_pos h4, if_pos ⟨h1, Or.inr ⟨h2, h4.2.1, Or.inl ⟨h3, h4.2.2⟩⟩⟩]
          · rw [if_neg h4, if_neg (fun q => by
              rcases q.2 with q | ⟨_, q1, q | q⟩
              · exact h2 q.1
              · exact h4 ⟨h1, q1, q.2⟩
              · exact q.1 h3)]
        · rw [if_neg h3]
          by_cases h4 : S (A (18 + 4 * k)) ≠ -1 ∧ S (A (20 + 4 * k)) ≠ -1 ∧ pu_fac A (S (A (18 + 4 * k))) (S (A (20 + 4 * k)))
          · rw [if_pos h4, if_pos ⟨h1, Or.inr ⟨h2, h4.2.1, Or.inr ⟨h3, h4.2.2⟩⟩⟩]
          · rw [if_neg h4, if_neg (fun q => by
              rcases q.2 with q | ⟨_, q1, q | q⟩
              · exact h2 q.1
              · exact h3 q.1
              · exact h4 ⟨h1, q1, q.2⟩)]
end
section
variable {σ : jq_M} {o row p k : Int} {A S : Int → Int}
theorem pm_isHad (hI : pu_inv (σ 1)) (k0 : 0 ≤ k) (k1 : k < σ 1 2) : X11_isHad k σ = some (pu_i (pu_met (σ 1) (σ 9) k)) := by
  obtain ⟨i0, i1, i2, i3, i4, i5, i6, ip, iq, iw, ia⟩ := hI
  obtain ⟨e1, e2, e3, e4⟩ := iw k k0 k1
  unfold X11_isHad
  rw [pm_wishRow (by omega) (by omega), Option.bind_some, pu_ld (by omega) (by omega), Option.bind_some, pu_ld (by omega) (by omega), Option.bind_some, pu_w (x := 18 + 4 * k + 1) (by omega) (by omega), pu_w (x := 18 + 4 * k + 2) (by omega) (by omega), show 18 + 4 * k + 1 = 19 + 4 * k by omega, show 18 + 4 * k + 2 = 20 + 4 * k by omega, pu_ld (i := 19 + 4 * k) (by omega) (by omega), pu_ld (i := 20 + 4 * k) (by omega) (by omega), pu_ld (i := 5) (by omega) (by omega)]
  simp only [Option.bind_some, pm_isIn]
  unfold pu_i pu_met
  by_cases h1 : σ 9 (σ 1 (18 + 4 * k)) = -1
  · rw [if_pos h1, if_neg (fun q => q.1 h1)]
  · rw [if_neg h1]
    by_cases h2 : σ 1 (19 + 4 * k) = 2
    · rw [if_pos h2]
      by_cases h3 : jq_and (jq_shr (σ 1 5) (σ 9 (σ 1 (18 + 4 * k)))) 1 = 1
      · rw [if_pos h3, if_pos ⟨h1, Or.inl ⟨h2, h3⟩⟩]
      · rw [if_neg h3, if_neg (fun q => q.2.elim (fun q => h3 q.2) (fun q => q.1 h2))]
    · rw [if_neg h2]
      rcases e3 with e3 | ⟨e3, e5, e6⟩
      · exact absurd e3 h2
      · rw [pu_ld (by omega) (by omega), Option.bind_some]
        by_cases h5 : σ 9 (σ 1 (20 + 4 * k)) = -1
        · rw [if_pos h5, if_neg (fun q => q.2.elim (fun q => h2 q.1) (fun q => q.2.1 h5))]
        · rw [if_neg h5, pm_beside, pm_facing]
          by_cases h3 : σ 1 (19 + 4 * k) = 0
          · rw [if_pos h3, Option.bind_some]
            by_cases h4 : pu_bes (σ 1) (σ 9 (σ 1 (18 + 4 * k))) (σ 9 (σ 1 (20 + 4 * k)))
            · rw [if_neg (by rw [pu_i_0]; exact fun q => q h4), if_pos ⟨h1, Or.inr ⟨h2, h5, Or.inl ⟨h3, h4⟩⟩⟩]
            · rw [if_pos (by rw [pu_i_0]; exact h4), if_neg (fun q => by
                rcases q.2 with q | ⟨_, q1, q | q⟩
                · exact h2 q.1
                · exact h4 q.2
                · exact q.1 h3)]
          · rw [if_neg h3, Option.bind_some]
            by_cases h4 : pu_fac (σ 1) (σ 9 (σ 1 (18 + 4 * k))) (σ 9 (σ 1 (20 + 4 * k)))
            · rw [if_neg (by rw [pu_i_0]; exact fun q => q h4), if_pos ⟨h1, Or.inr ⟨h2, h5, Or.inr ⟨h3, h4⟩⟩⟩]
            · rw [if_pos (by rw [pu_i_0]; exact h4), if_neg (fun q => by
                rcases q.2 with q | ⟨_, q1, q | q⟩
                · exact h2 q.1
                · exact h3 q.1
                · exact h4 q.2)]
theorem ps_worthTo (hI : pu_inv A) (hC : pu_RC σ o A) (hS : ∀ p, 0 ≤ p → p < A 1 → σ row p = S p) : X1_worthTo o p row σ = some (pu_worth A S p) := by
  have hI0 := hI
  have hC0 := hC
  obtain ⟨i0, i1, i2, i3, i4, i5, i6, ip, iq, iw, ia⟩ := hI
  obtain ⟨⟨c0, c1, c2, c3, c4, c5, c6⟩, cp, cw, ca⟩ := hC
  unfold X1_worthTo
  rw [pu_forK (fun _ => True) id 0 (pu_wst A S p) (A 2) (by omega) trivial (fun κ s z0 z1 _ => ⟨?_, trivial⟩) (fun s _ => ?_)]
  · rfl
  · unfold X1_worthTo_b5 pu_wst
    try dsimp only
    obtain ⟨d1, d2, d3, d4⟩ := cw κ (by omega) (by omega)
    have m := ps_isMet (σ := σ) (o := o) (row := row) (k := κ) hI0 hC0 hS (by omega) (by omega)
    simp (disch := omega) only [c3, if_pos, pu_ld, Option.bind_some, d1, d4, m, pu_lt, pu_w (x := κ + 1)]
    by_cases h1 : A (18 + 4 * κ) = p
    · rw [if_pos h1, pu_ii]
      by_cases h2 : pu_met A S κ
      · rw [pu_if_p h2, pu_if_p ⟨h1, h2⟩]
      · rw [pu_if_n h2, pu_if_n (fun q => h2 q.2)]
    · rw [if_neg h1, pu_if_n (fun q => h1 q.1)]
  · unfold X1_worthTo_b5
    rw [if_neg (by dsimp only; omega)]
    rfl
end
