section
variable {σ τ σ1 σ2 : jq_M} {o p q n a b : Int} {A N : Int → Int}
/-- one committee of the class is as another -/
def pu_eqc (σ : jq_M) (p : Int) (τ : jq_M) (o : Int) : Prop :=
  (∀ j, 0 ≤ j → j < 7 → τ o j = σ p j) ∧ (∀ d i, 1 ≤ d → d ≤ 3 → 0 ≤ i → i < 5 → τ (o + d) i = σ (p + d) i) ∧ (∀ d i, 4 ≤ d → d ≤ 7 → 0 ≤ i → i < 20 → τ (o + d) i = σ (p + d) i) ∧ (∀ d i, 8 ≤ d → d ≤ 12 → 0 ≤ i → i < 8 → τ (o + d) i = σ (p + d) i) ∧ (∀ j, 0 ≤ j → j < 3 → τ (o + 13) j = σ (p + 13) j) ∧ ∀ d i, 14 ≤ d → d ≤ 17 → 0 ≤ i → i < 60 → τ (o + d) i = σ (p + d) i
theorem pu_line_cg2 {w w' m m' : Int → Int} {n L W F S M : Int} (hL : L ≤ 60) (hw : ∀ i, 0 ≤ i → i < L → w' i = w i) (hm : ∀ i, 0 ≤ i → i < L → m' i = m i) (hn : 0 ≤ n) (hnL : n < L) (h : pu_line A w m n L W F S M) : pu_line A w' m' n L W F S M := by
  unfold pu_line at h ⊢
  rcases h with h | h | h | h | h | h | h | ⟨h1, h2, h3, h4, h5, h6, h7⟩ | h | ⟨h1, h2, h3, h4, h5, h6⟩ | h
  · exact Or.inl h
  · exact Or.inr (Or.inl h)
  · exact Or.inr (Or.inr (Or.inl h))
  · exact Or.inr (Or.inr (Or.inr (Or.inl h)))
  · exact Or.inr (Or.inr (Or.inr (Or.inr (Or.inl h))))
  · exact Or.inr (Or.inr (Or.inr (Or.inr (Or.inr (Or.inl h)))))
  · exact Or.inr (Or.inr (Or.inr (Or.inr (Or.inr (Or.inr (Or.inl h))))))
  · refine Or.inr (Or.inr (Or.inr (Or.inr (Or.inr (Or.inr (Or.inr (Or.inl ⟨h1, h2, h3, h4, ?_, ?_, h7⟩)))))))
    · rw [hw M (by omega) h4]; exact h5
    · rw [hm M (by omega) h4]; exact h6
  · exact Or.inr (Or.inr (Or.inr (Or.inr (Or.inr (Or.inr (Or.inr (Or.inr (Or.inl h))))))))
  · refine Or.inr (Or.inr (Or.inr (Or.inr (Or.inr (Or.inr (Or.inr (Or.inr (Or.inr (Or.inl ⟨h1, h2, h3, h4, h5, ?_⟩)))))))))
    rw [hw M h4 (by omega)]; exact h6
  · exact Or.inr (Or.inr (Or.inr (Or.inr (Or.inr (Or.inr (Or.inr (Or.inr (Or.inr (Or.inr h)))))))))
theorem pu_eqc.RC (e : pu_eqc σ p τ o) (hI : pu_inv A) (h : pu_RC σ p A) : pu_RC τ o A := by
  obtain ⟨e0, e1, e2, e3, e4, e5⟩ := e
  obtain ⟨i0, i1, i2, i3, i4, i5, i6, -⟩ := hI
  obtain ⟨⟨c0, c1, c2, c3, c4, c5, c6⟩, cp, cw, ca⟩ := h
  unfold pu_RC
  rw [e0 0 (by omega) (by omega), e0 1 (by omega) (by omega), e0 2 (by omega) (by omega), e0 3 (by omega) (by omega), e0 4 (by omega) (by omega), e0 5 (by omega) (by omega), e0 6 (by omega) (by omega)]
  refine ⟨⟨c0, c1, c2, c3, c4, c5, c6⟩, fun p a b => ?_, fun k a b => ?_, fun k a b => ?_⟩
  · rw [e1 2 p (by omega) (by omega) a (by omega), e1 3 p (by omega) (by omega) a (by omega)]; exact cp p a b
  · rw [e2 4 k (by omega) (by omega) a (by omega), e2 5 k (by omega) (by omega) a (by omega), e2 6 k (by omega) (by omega) a (by omega), e2 7 k (by omega) (by omega) a (by omega)]; exact cw k a b
  · rw [e3 9 k (by omega) (by omega) a (by omega), e3 10 k (by omega) (by omega) a (by omega), e3 11 k (by omega) (by omega) a (by omega), e3 12 k (by omega) (by omega) a (by omega)]; exact ca k a b
theorem pu_eqc.CM (e : pu_eqc σ p τ o) (h : pu_CM σ p A N) : pu_CM τ o A N := by
  obtain ⟨hI, hC, hN, ⟨hS, hS2⟩, hD⟩ := h
  have hI0 := hI
  have hC' := e.RC hI hC
  obtain ⟨e0, e1, e2, e3, e4, e5⟩ := e
  obtain ⟨i0, i1, i2, i3, i4, i5, i6, -⟩ := hI
  refine ⟨hI0, hC', ⟨fun p a b => ?_, fun k a b => ?_⟩, ⟨?_, ?_⟩, hD⟩
  · rw [e1 1 p (by omega) (by omega) a (by omega)]; exact hN.1 p a b
  · rw [e3 8 k (by omega) (by omega) a (by omega)]; exact hN.2 k a b
  · rw [e4 0 (by omega) (by omega), e4 2 (by omega) (by omega)]
    rcases hS with hS | ⟨h1, h2, h3, h4⟩
    · exact Or.inl hS
    · refine Or.inr ⟨h1, h2, h3, fun n a b => ?_⟩
      rw [e5 14 n (by omega) (by omega) a (by omega), e5 15 n (by omega) (by omega) a (by omega), e5 16 n (by omega) (by omega) a (by omega), e5 17 n (by omega) (by omega) a (by omega)]
      exact pu_line_cg2 (by omega) (fun i x y => e5 14 i (by omega) (by omega) x (by omega)) (fun i x y => e5 17 i (by omega) (by omega) x (by omega)) a b (h4 n a b)
  · intro h6 n m a b c
    rw [e5 14 n (by omega) (by omega) a (by omega), e5 14 m (by omega) (by omega) (by omega) (by omega), e5 17 n (by omega) (by omega) a (by omega), e5 17 m (by omega) (by omega) (by omega) (by omega)]
    exact hS2 h6 n m a b c
/-- seven fields, one by one -/
theorem pu_cpn {m : Int} (hn : 0 ≤ n) (h : n ≤ m) : jq_cpy σ a m 0 b m 0 n = some (jq_cp σ a 0 b 0 n) := pu_cpy (by omega) (by omega) hn (by omega) (by omega)
theorem pu_cp0 {j : Int} (h0 : 0 ≤ j) (h1 : j < n) : jq_cp σ a 0 b 0 n b j = σ a j := by
  rw [pu_cp_k, if_pos ⟨by omega, by omega⟩, show 0 + (j - 0) = j by omega]
theorem ps_stepsTake (ho : ∀ d, 0 ≤ d → d < 5 → ∀ d', 0 ≤ d' → d' < 5 → o + d ≠ p + d') : ∃ τ, X7_takeFrom o p σ = some τ ∧ (∀ k, ¬ (o ≤ k ∧ k < o + 5) → τ k = σ k) ∧ (∀ j, 0 ≤ j → j < 3 → τ o j = σ p j) ∧ (∀ d i, 1 ≤ d → d ≤ 4 → 0 ≤ i → i < 60 → τ (o + d) i = σ (p + d) i) := by
  have n0 : ∀ d, 0 ≤ d → d < 5 → p + d ≠ o := fun d a b => by have := ho 0 (by omega) (by omega) d a b; omega
  have n1 : ∀ d, 0 ≤ d → d < 5 → p + d ≠ o + 1 := fun d a b => fun q => ho 1 (by omega) (by omega) d a b q.symm
  have n2 : ∀ d, 0 ≤ d → d < 5 → p + d ≠ o + 2 := fun d a b => fun q => ho 2 (by omega) (by omega) d a b q.symm
  have n3 : ∀ d, 0 ≤ d → d < 5 → p + d ≠ o + 3 := fun d a b => fun q => ho 3 (by omega) (by omega) d a b q.symm
  have n4 : ∀ d, 0 ≤ d → d < 5 → p + d ≠ o + 4 := fun d a b => fun q => ho 4 (by omega) (by omega) d a b q.symm
  have np : p ≠ o := by have := n0 0 (by omega) (by omega); omega
  unfold X7_takeFrom
  simp only [pu_lt, pu_cpn (show (0 : Int) ≤ 60 by omega) (Int.le_refl 60), Option.bind_some]
  refine ⟨_, rfl, fun k hk => ?_, fun j h0 h1 => ?_, fun d i d0 d1 h0 h1 => ?_⟩
  · rw [pu_cp_ne (by omega), pu_cp_ne (by omega), pu_cp_ne (by omega), pu_cp_ne (by omega), pu_st_ne (by omega), pu_st_ne (by omega), pu_st_ne (by omega)]
  · rw [pu_cp_ne (by omega), pu_cp_ne (by omega), pu_cp_ne (by omega), pu_cp_ne (by omega), pu_st_ne np, pu_st_ne np]
    rcases (show j = 0 ∨ j = 1 ∨ j = 2 by omega) with rfl | rfl | rfl
    · rw [pu_st_b (by omega), pu_st_b (by omega), pu_st_a]
    · rw [pu_st_b (by omega), pu_st_a]
    · rw [pu_st_a, pu_st_ne np]
  · rcases (show d = 1 ∨ d = 2 ∨ d = 3 ∨ d = 4 by omega) with rfl | rfl | rfl | rfl
    · rw [pu_cp_ne (by omega), pu_cp_ne (by omega), pu_cp_ne (by omega), pu_cp0 h0 h1, pu_st_ne (n0 1 (by omega) (by omega)), pu_st_ne (n0 1 (by omega) (by omega)), pu_st_ne (n0 1 (by omega) (by omega))]
    · rw [pu_cp_ne (by omega), pu_cp_ne (by omega), pu_cp0 h0 h1, pu_cp_ne (n1 2 (by omega) (by omega)), pu_st_ne (n0 2 (by omega) (by omega)), pu_st_ne (n0 2 (by omega) (by omega)), pu_st_ne (n0 2 (by omega) (by omega))]
    · rw [pu_cp_ne (by omega), pu_cp0 h0 h1, pu_cp_ne (n2 3 (by omega) (by omega)), pu_cp_ne (n1 3 (by omega) (by omega)), pu_st_ne (n0 3 (by omega) (by omega)), pu_st_ne (n0 3 (by omega) (by omega)), pu_st_ne (n0 3 (by omega) (by omega))]
    · rw [pu_cp0 h0 h1, pu_cp_ne (n3 4 (by omega) (by omega)), pu_cp_ne (n2 4 (by omega) (by omega)), pu_cp_ne (n1 4 (by omega) (by omega)), pu_st_ne (n0 4 (by omega) (by omega)), pu_st_ne (n0 4 (by omega) (by omega)), pu_st_ne (n0 4 (by omega) (by omega))]
theorem ps_takeFrom (ho : o + 20 ≤ p ∨ p + 20 ≤ o) : ∃ τ, X1_takeFrom o p σ = some τ ∧ (∀ k, ¬ (o ≤ k ∧ k < o + 18) → τ k = σ k) ∧ pu_eqc σ p τ o := by
  unfold X1_takeFrom
  simp only [pu_lt, pu_cpn (show (0 : Int) ≤ 5 by omega) (Int.le_refl 5), pu_cpn (show (0 : Int) ≤ 20 by omega) (Int.le_refl 20), pu_cpn (show (0 : Int) ≤ 8 by omega) (Int.le_refl 8), Option.bind_some, pu_st_ne (show p ≠ o by omega)]
  generalize hs : jq_st (jq_st (jq_st (jq_st (jq_st (jq_st (jq_st σ o 0 (σ p 0)) o 1 (σ p 1)) o 2 (σ p 2)) o 3 (σ p 3)) o 4 (σ p 4)) o 5 (σ p 5)) o 6 (σ p 6) = s
  have s1 : ∀ k, k ≠ o → s k = σ k := fun k hk => by
    rw [← hs, pu_st_ne hk, pu_st_ne hk, pu_st_ne hk, pu_st_ne hk, pu_st_ne hk, pu_st_ne hk, pu_st_ne hk]
  have s2 : ∀ j, 0 ≤ j → j < 7 → s o j = σ p j := fun j h0 h1 => by
    rw [← hs]
    rcases (show j = 0 ∨ j = 1 ∨ j = 2 ∨ j = 3 ∨ j = 4 ∨ j = 5 ∨ j = 6 by omega) with rfl | rfl | rfl | rfl | rfl | rfl | rfl
    · rw [pu_st_b (by omega), pu_st_b (by omega), pu_st_b (by omega), pu_st_b (by omega), pu_st_b (by omega), pu_st_b (by omega), pu_st_a]
    · rw [pu_st_b (by omega), pu_st_b (by omega), pu_st_b (by omega), pu_st_b (by omega), pu_st_b (by omega), pu_st_a]
    · rw [pu_st_b (by omega), pu_st_b (by omega), pu_st_b (by omega), pu_st_b (by omega), pu_st_a]
    · rw [pu_st_b (by omega), pu_st_b (by omega), pu_st_b (by omega), pu_st_a]
    · rw [pu_st_b (by omega), pu_st_b (by omega), pu_st_a]
    · rw [pu_st_b (by omega), pu_st_a]
    · rw [pu_st_a]
  clear hs
  have nn : ∀ d d' : Int, 0 ≤ d → d < 20 → 0 ≤ d' → d' < 20 → p + d ≠ o + d' := fun d d' a b x y => by omega
  generalize hq : jq_cp (jq_cp (jq_cp (jq_cp (jq_cp (jq_cp (jq_cp (jq_cp (jq_cp (jq_cp (jq_cp (jq_cp (s) (p + 1) 0 (o + 1) 0 5) (p + 2) 0 (o + 2) 0 5) (p + 3) 0 (o + 3) 0 5) (p + 4) 0 (o + 4) 0 20) (p + 5) 0 (o + 5) 0 20) (p + 6) 0 (o + 6) 0 20) (p + 7) 0 (o + 7) 0 20) (p + 8) 0 (o + 8) 0 8) (p + 9) 0 (o + 9) 0 8) (p + 10) 0 (o + 10) 0 8) (p + 11) 0 (o + 11) 0 8) (p + 12) 0 (o + 12) 0 8 = q
  have q1 : ∀ k, ¬ (o < k ∧ k < o + 13) → q k = s k := fun k hk => by
    rw [← hq, pu_cp_ne (by omega), pu_cp_ne (by omega), pu_cp_ne (by omega), pu_cp_ne (by omega), pu_cp_ne (by omega), pu_cp_ne (by omega), pu_cp_ne (by omega), pu_cp_ne (by omega), pu_cp_ne (by omega), pu_cp_ne (by omega), pu_cp_ne (by omega), pu_cp_ne (by omega)]
  have r1 : ∀ i, 0 ≤ i → i < 5 → q (o + 1) i = σ (p + 1) i := fun i h0 h1 => by
    rw [← hq, pu_cp_ne (by omega), pu_cp_ne (by omega), pu_cp_ne (by omega), pu_cp_ne (by omega), pu_cp_ne (by omega), pu_cp_ne (by omega), pu_cp_ne (by omega), pu_cp_ne (by omega), pu_cp_ne (by omega), pu_cp_ne (by omega), pu_cp_ne (by omega), pu_cp0 h0 h1, s1 _ (by omega)]
  have r2 : ∀ i, 0 ≤ i → i < 5 → q (o + 2) i = σ (p + 2) i := fun i h0 h1 => by
    rw [← hq, pu_cp_ne (by omega), pu_cp_ne (by omega), pu_cp_ne (by omega), pu_cp_ne (by omega), pu_cp_ne (by omega), pu_cp_ne (by omega), pu_cp_ne (by omega), pu_cp_ne (by omega), pu_cp_ne (by omega), pu_cp_ne (by omega), pu_cp0 h0 h1, pu_cp_ne (nn 2 1 (by omega) (by omega) (by omega) (by omega)), s1 _ (by omega)]
  have r3 : ∀ i, 0 ≤ i → i < 5 → q (o + 3) i = σ (p + 3) i := fun i h0 h1 => by
    rw [← hq, pu_cp_ne (by omega), pu_cp_ne (by omega), pu_cp_ne (by omega), pu_cp_ne (by omega), pu_cp_ne (by omega), pu_cp_ne (by omega), pu_cp_ne (by omega), pu_cp_ne (by omega), pu_cp_ne (by omega), pu_cp0 h0 h1, pu_cp_ne (nn 3 2 (by omega) (by omega) (by omega) (by omega)), pu_cp_ne (nn 3 1 (by omega) (by omega) (by omega) (by omega)), s1 _ (by omega)]
  have r4 : ∀ i, 0 ≤ i → i < 20 → q (o + 4) i = σ (p + 4) i := fun i h0 h1 => by
    rw [← hq, pu_cp_ne (by omega), pu_cp_ne (by omega), pu_cp_ne (by omega), pu_cp_ne (by omega), pu_cp_ne (by omega), pu_cp_ne (by omega), pu_cp_ne (by omega), pu_cp_ne (by omega), pu_cp0 h0 h1, pu_cp_ne (nn 4 3 (by omega) (by omega) (by omega) (by omega)), pu_cp_ne (nn 4 2 (by omega) (by omega) (by omega) (by omega)), pu_cp_ne (nn 4 1 (by omega) (by omega) (by omega) (by omega)), s1 _ (by omega)]
  have r5 : ∀ i, 0 ≤ i → i < 20 → q (o + 5) i = σ (p + 5) i := fun i h0 h1 => by
    rw [← hq, pu_cp_ne (by omega), pu_cp_ne (by omega), pu_cp_ne (by omega), pu_cp_ne (by omega), pu_cp_ne (by omega), pu_cp_ne (by omega), pu_cp_ne (by omega), pu_cp0 h0 h1, pu_cp_ne (nn 5 4 (by omega) (by omega) (by omega) (by omega)), pu_cp_ne (nn 5 3 (by omega) (by omega) (by omega) (by omega)), pu_cp_ne (nn 5 2 (by omega) (by omega) (by omega) (by omega)), pu_cp_ne (nn 5 1 (by omega) (by omega) (by omega) (by omega)), s1 _ (by omega)]
  have r6 : ∀ i, 0 ≤ i → i < 20 → q (o + 6) i = σ (p + 6) i := fun i h0 h1 => by
    rw [← hq, pu_cp_ne (by omega), pu_cp_ne (by omega), pu_cp_ne (by omega), pu_cp_ne (by omega), pu_cp_ne (by omega), pu_cp_ne (by omega), pu_cp0 h0 h1, pu_cp_ne (nn 6 5 (by omega) (by omega) (by omega) (by omega)), pu_cp_ne (nn 6 4 (by omega) (by omega) (by omega) (by omega)), pu_cp_ne (nn 6 3 (by omega) (by omega) (by omega) (by omega)), pu_cp_ne (nn 6 2 (by omega) (by omega) (by omega) (by omega)), pu_cp_ne (nn 6 1 (by omega) (by omega) (by omega) (by omega)), s1 _ (by omega)]
  have r7 : ∀ i, 0 ≤ i → i < 20 → q (o + 7) i = σ (p + 7) i := fun i h0 h1 => by
    rw [← hq, pu_cp_ne (by omega), pu_cp_ne (by omega), pu_cp_ne (by omega), pu_cp_ne (by omega), pu_cp_ne (by omega), pu_cp0 h0 h1, pu_cp_ne (nn 7 6 (by omega) (by omega) (by omega) (by omega)), pu_cp_ne (nn 7 5 (by omega) (by omega) (by omega) (by omega)), pu_cp_ne (nn 7 4 (by omega) (by omega) (by omega) (by omega)), pu_cp_ne (nn 7 3 (by omega) (by omega) (by omega) (by omega)), pu_cp_ne (nn 7 2 (by omega) (by omega) (by omega) (by omega)), pu_cp_ne (nn 7 1 (by omega) (by omega) (by omega) (by omega)), s1 _ (by omega)]
  have r8 : ∀ i, 0 ≤ i → i < 8 → q (o + 8) i = σ (p + 8) i := fun i h0 h1 => by
    rw [← hq, pu_cp_ne (by omega), pu_cp_ne (by omega), pu_cp_ne (by omega), pu_cp_ne (by omega), pu_cp0 h0 h1, pu_cp_ne (nn 8 7 (by omega) (by omega) (by omega) (by omega)), pu_cp_ne (nn 8 6 (by omega) (by omega) (by omega) (by omega)), pu_cp_ne (nn 8 5 (by omega) (by omega) (by omega) (by omega)), pu_cp_ne (nn 8 4 (by omega) (by omega) (by omega) (by omega)), pu_cp_ne (nn 8 3 (by omega) (by omega) (by omega) (by omega)), pu_cp_ne (nn 8 2 (by omega) (by omega) (by omega) (by omega)), pu_cp_ne (nn 8 1 (by omega) (by omega) (by omega) (by omega)), s1 _ (by omega)]
  have r9 : ∀ i, 0 ≤ i → i < 8 → q (o + 9) i = σ (p + 9) i := fun i h0 h1 => by
    rw [← hq, pu_cp_ne (by omega), pu_cp_ne (by omega), pu_cp_ne (by omega), pu_cp0 h0 h1, pu_cp_ne (nn 9 8 (by omega) (by omega) (by omega) (by omega)), pu_cp_ne (nn 9 7 (by omega) (by omega) (by omega) (by omega)), pu_cp_ne (nn 9 6 (by omega) (by omega) (by omega) (by omega)), pu_cp_ne (nn 9 5 (by omega) (by omega) (by omega) (by omega)), pu_cp_ne (nn 9 4 (by omega) (by omega) (by omega) (by omega)), pu_cp_ne (nn 9 3 (by omega) (by omega) (by omega) (by omega)), pu_cp_ne (nn 9 2 (by omega) (by omega) (by omega) (by omega)), pu_cp_ne (nn 9 1 (by omega) (by omega) (by omega) (by omega)), s1 _ (by omega)]
  have r10 : ∀ i, 0 ≤ i → i < 8 → q (o + 10) i = σ (p + 10) i := fun i h0 h1 => by
    rw [← hq, pu_cp_ne (by omega), pu_cp_ne (by omega), pu_cp0 h0 h1, pu_cp_ne (nn 10 9 (by omega) (by omega) (by omega) (by omega)), pu_cp_ne (nn 10 8 (by omega) (by omega) (by omega) (by omega)), pu_cp_ne (nn 10 7 (by omega) (by omega) (by omega) (by omega)), pu_cp_ne (nn 10 6 (by omega) (by omega) (by omega) (by omega)), pu_cp_ne (nn 10 5 (by omega) (by omega) (by omega) (by omega)), pu_cp_ne (nn 10 4 (by omega) (by omega) (by omega) (by omega)), pu_cp_ne (nn 10 3 (by omega) (by omega) (by omega) (by omega)), pu_cp_ne (nn 10 2 (by omega) (by omega) (by omega) (by omega)), pu_cp_ne (nn 10 1 (by omega) (by omega) (by omega) (by omega)), s1 _ (by omega)]
  have r11 : ∀ i, 0 ≤ i → i < 8 → q (o + 11) i = σ (p + 11) i := fun i h0 h1 => by
    rw [← hq, pu_cp_ne (by omega), pu_cp0 h0 h1, pu_cp_ne (nn 11 10 (by omega) (by omega) (by omega) (by omega)), pu_cp_ne (nn 11 9 (by omega) (by omega) (by omega) (by omega)), pu_cp_ne (nn 11 8 (by omega) (by omega) (by omega) (by omega)), pu_cp_ne (nn 11 7 (by omega) (by omega) (by omega) (by omega)), pu_cp_ne (nn 11 6 (by omega) (by omega) (by omega) (by omega)), pu_cp_ne (nn 11 5 (by omega) (by omega) (by omega) (by omega)), pu_cp_ne (nn 11 4 (by omega) (by omega) (by omega) (by omega)), pu_cp_ne (nn 11 3 (by omega) (by omega) (by omega) (by omega)), pu_cp_ne (nn 11 2 (by omega) (by omega) (by omega) (by omega)), pu_cp_ne (nn 11 1 (by omega) (by omega) (by omega) (by omega)), s1 _ (by omega)]
  have r12 : ∀ i, 0 ≤ i → i < 8 → q (o + 12) i = σ (p + 12) i := fun i h0 h1 => by
    rw [← hq, pu_cp0 h0 h1, pu_cp_ne (nn 12 11 (by omega) (by omega) (by omega) (by omega)), pu_cp_ne (nn 12 10 (by omega) (by omega) (by omega) (by omega)), pu_cp_ne (nn 12 9 (by omega) (by omega) (by omega) (by omega)), pu_cp_ne (nn 12 8 (by omega) (by omega) (by omega) (by omega)), pu_cp_ne (nn 12 7 (by omega) (by omega) (by omega) (by omega)), pu_cp_ne (nn 12 6 (by omega) (by omega) (by omega) (by omega)), pu_cp_ne (nn 12 5 (by omega) (by omega) (by omega) (by omega)), pu_cp_ne (nn 12 4 (by omega) (by omega) (by omega) (by omega)), pu_cp_ne (nn 12 3 (by omega) (by omega) (by omega) (by omega)), pu_cp_ne (nn 12 2 (by omega) (by omega) (by omega) (by omega)), pu_cp_ne (nn 12 1 (by omega) (by omega) (by omega) (by omega)), s1 _ (by omega)]
  clear hq
  obtain ⟨τ, t1, t2, t3, t4⟩ := ps_stepsTake (σ := q) (o := o + 13) (p := p + 13) (fun d a b d' x y => by omega)
  rw [t1, Option.bind_some]
  refine ⟨τ, rfl, fun k hk => ?_, fun j h0 h1 => ?_, fun d i d0 d1 h0 h1 => ?_, fun d i d0 d1 h0 h1 => ?_, fun d i d0 d1 h0 h1 => ?_, fun j h0 h1 => ?_, fun d i d0 d1 h0 h1 => ?_⟩
  · rw [t2 k (by omega), q1 k (by omega), s1 k (by omega)]
  · rw [t2 o (by omega), q1 o (by omega), s2 j h0 h1]
  · rw [t2 _ (by omega)]
    rcases (show d = 1 ∨ d = 2 ∨ d = 3 by omega) with rfl | rfl | rfl
    · exact r1 i h0 h1
    · exact r2 i h0 h1
    · exact r3 i h0 h1
  · rw [t2 _ (by omega)]
    rcases (show d = 4 ∨ d = 5 ∨ d = 6 ∨ d = 7 by omega) with rfl | rfl | rfl | rfl
    · exact r4 i h0 h1
    · exact r5 i h0 h1
    · exact r6 i h0 h1
    · exact r7 i h0 h1
  · rw [t2 _ (by omega)]
    rcases (show d = 8 ∨ d = 9 ∨ d = 10 ∨ d = 11 ∨ d = 12 by omega) with rfl | rfl | rfl | rfl | rfl
    · exact r8 i h0 h1
    · exact r9 i h0 h1
    · exact r10 i h0 h1
    · exact r11 i h0 h1
    · exact r12 i h0 h1
  · rw [t3 j h0 h1, q1 _ (by omega), s1 _ (by omega)]
  · have z := t4 (d - 13) i (by omega) (by omega) h0 h1
    rw [show o + 13 + (d - 13) = o + d by omega, show p + 13 + (d - 13) = p + d by omega] at z
    rw [z, q1 _ (by omega), s1 _ (by omega)]
/-- the reference keeps its numbers, and gets them back -/
theorem pm_keeps (h0 : 138 ≤ b) (h1 : b ≤ 3036) : ∃ τ, X11_keeps b σ = some τ ∧ (∀ k, k ≠ 1 → τ k = σ k) ∧ (∀ j, 0 ≤ j → j < 138 → τ 1 (b + j) = σ 1 j) ∧ ∀ j, ¬ (b ≤ j ∧ j < b + 138) → τ 1 j = σ 1 j := by
  unfold X11_keeps
  refine pu_lpE (f := X11_keeps_b2 b) (s := ((0 : Int), σ)) (fun i t => t.1 = (i : Int) ∧ (∀ k, k ≠ 1 → t.2 k = σ k) ∧ (∀ j, 0 ≤ j → j < t.1 → t.2 1 (b + j) = σ 1 j) ∧ ∀ j, ¬ (b ≤ j ∧ j < b + 138) → t.2 1 j = σ 1 j) (fun τ => (∀ k, k ≠ 1 → τ k = σ k) ∧ (∀ j, 0 ≤ j → j < 138 → τ 1 (b + j) = σ 1 j) ∧ ∀ j, ¬ (b ≤ j ∧ j < b + 138) → τ 1 j = σ 1 j) 138 ⟨rfl, fun _ _ => rfl, fun j x y => by dsimp only at y; omega, fun _ _ => rfl⟩ (fun i t ht hi => ?_) (fun e h1 h2 => ⟨e, by rw [h1]; rfl, h2⟩)
  obtain ⟨t1, t2⟩ := t
  obtain ⟨hk, q1, q2, q3⟩ := ht
  dsimp only at hk q1 q2 q3
  have k0 : 0 ≤ t1 := by omega
  unfold X11_keeps_b2
  dsimp only
  by_cases hl : t1 < 138
  · rw [if_pos hl, pu_ld k0 (by omega), Option.bind_some, pu_w (by omega) (by omega), pu_sa (by omega) (by omega), Option.bind_some]
    simp only [pu_lt]
    rw [pu_w (by omega) (by omega)]
    refine Or.inr ⟨by omega, _, rfl, by dsimp only; omega, fun k hk => (pu_st_ne hk).trans (q1 k hk), fun j x y => ?_, fun j hj => (pu_st_b (by omega)).trans (q3 j hj)⟩
    dsimp only at y ⊢
    by_cases z : j = t1
    · rw [z, pu_st_a, q3 t1 (by omega)]
    · rw [pu_st_b (by omega)]; exact q2 j x (by omega)
  · rw [if_neg hl]
    exact Or.inl ⟨_, rfl, q1, fun j x y => q2 j x (by omega), q3⟩
theorem pm_restores (h0 : 138 ≤ b) (h1 : b ≤ 3036) : ∃ τ, X11_restores b σ = some τ ∧ (∀ k, k ≠ 1 → τ k = σ k) ∧ (∀ j, 0 ≤ j → j < 138 → τ 1 j = σ 1 (b + j)) ∧ ∀ j, ¬ (0 ≤ j ∧ j < 138) → τ 1 j = σ 1 j := by
  unfold X11_restores
  refine pu_lpE (f := X11_restores_b2 b) (s := ((0 : Int), σ)) (fun i t => t.1 = (i : Int) ∧ (∀ k, k ≠ 1 → t.2 k = σ k) ∧ (∀ j, 0 ≤ j → j < t.1 → t.2 1 j = σ 1 (b + j)) ∧ ∀ j, ¬ (0 ≤ j ∧ j < 138) → t.2 1 j = σ 1 j) (fun τ => (∀ k, k ≠ 1 → τ k = σ k) ∧ (∀ j, 0 ≤ j → j < 138 → τ 1 j = σ 1 (b + j)) ∧ ∀ j, ¬ (0 ≤ j ∧ j < 138) → τ 1 j = σ 1 j) 138 ⟨rfl, fun _ _ => rfl, fun j x y => by dsimp only at y; omega, fun _ _ => rfl⟩ (fun i t ht hi => ?_) (fun e h1 h2 => ⟨e, by rw [h1]; rfl, h2⟩)
  obtain ⟨t1, t2⟩ := t
  obtain ⟨hk, q1, q2, q3⟩ := ht
  dsimp only at hk q1 q2 q3
  have k0 : 0 ≤ t1 := by omega
  unfold X11_restores_b2
  dsimp only
  by_cases hl : t1 < 138
  · rw [if_pos hl, pu_w (by omega) (by omega), pu_ld (by omega) (by omega), Option.bind_some, pu_sa (by omega) (by omega), Option.bind_some]
    simp only [pu_lt]
    rw [pu_w (by omega) (by omega)]
    refine Or.inr ⟨by omega, _, rfl, by dsimp only; omega, fun k hk => (pu_st_ne hk).trans (q1 k hk), fun j x y => ?_, fun j hj => (pu_st_b (by omega)).trans (q3 j hj)⟩
    dsimp only at y ⊢
    by_cases z : j = t1
    · rw [z, pu_st_a, q3 (b + t1) (by omega)]
    · rw [pu_st_b (by omega)]; exact q2 j x (by omega)
  · rw [if_neg hl]
    exact Or.inl ⟨_, rfl, q1, fun j x y => q2 j x (by omega), q3⟩
end
