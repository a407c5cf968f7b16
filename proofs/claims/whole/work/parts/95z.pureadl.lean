section
variable {T : Int → Int} {L e x y v n l s mx : Int} {m m1 m2 m3 σ σ1 σ2 τ τ1 τ2 F1 F2 : jq_M} {o f k i : Int}
/-- both begin to read -/
theorem pa_begin (h : jq_Rel σ1 σ2) (h0 : 0 ≤ n) (h1 : n ≤ σ1 2 2) (h2 : n ≤ mx) : ∃ τ1 τ2, X5_open n σ1 = some τ1 ∧ X11_begins n mx σ2 = some (1, τ2) ∧ pu_lv (σ1 4) n τ1 τ2 ∧ (∀ k, k ≠ 2 → τ1 k = σ1 k) ∧ τ1 2 2 = 0 ∧ (∀ k, k ≠ 0 → k ≠ 7 → τ2 k = σ2 k) ∧ (∀ j, j < 10 ∨ j = 16 ∨ 19 < j → τ2 0 j = σ2 0 j) ∧ τ2 0 10 = 0 := by
  obtain ⟨-, -, -, -, -, ⟨t1, t2, t3, t4⟩, -, hK⟩ := h
  have lp : ∃ e, jq_lp (X11_begins_b26 n) (0, jq_st σ2 0 11 n) = some e ∧ (∀ k, k ≠ 7 → e k = jq_st σ2 0 11 n k) ∧ ∀ j, 0 ≤ j → j < n → e 7 j = jq_w8 (σ2 6 j) := by
    refine pu_lpE (f := X11_begins_b26 n) (s := ((0 : Int), jq_st σ2 0 11 n)) (fun i t => t.1 = (i : Int) ∧ (∀ k, k ≠ 7 → t.2 k = jq_st σ2 0 11 n k) ∧ ∀ j, 0 ≤ j → j < t.1 → t.2 7 j = jq_w8 (σ2 6 j)) (fun e => (∀ k, k ≠ 7 → e k = jq_st σ2 0 11 n k) ∧ ∀ j, 0 ≤ j → j < n → e 7 j = jq_w8 (σ2 6 j)) n.toNat ⟨rfl, fun _ _ => rfl, fun j a b => by dsimp only at b; omega⟩ (fun i t ht hi => ?_) (fun e a b => ⟨e, a, b⟩)
    obtain ⟨t1', t2'⟩ := t
    obtain ⟨q0, q1, q2⟩ := ht
    dsimp only at q0 q1 q2
    unfold X11_begins_b26
    dsimp only
    by_cases w : t1' < n
    · rw [if_pos w, pu_ld (by omega) (by omega), Option.bind_some, pu_sb (by omega) (by omega), Option.bind_some, pu_lt, pu_w (by omega) (by omega)]
      refine Or.inr ⟨by omega, _, rfl, by dsimp only; omega, fun k hk => (pu_st_ne hk).trans (q1 k hk), fun j a b => ?_⟩
      dsimp only at b ⊢
      by_cases z : j = t1'
      · rw [z, pu_st_a, q1 6 (by omega), pu_st_ne (by omega)]
      · rw [pu_st_b z]; exact q2 j a (by omega)
    · rw [if_neg w]
      exact Or.inl ⟨_, rfl, q1, fun j a b => q2 j a (by omega)⟩
  obtain ⟨e, l1, l2, l3⟩ := lp
  obtain ⟨w1, hw1⟩ : ∃ w, w = jq_st (jq_st (jq_st (jq_st (jq_st σ1 2 3 n) 2 2 0) 2 4 0) 2 12 0) 2 13 (-1) := ⟨_, rfl⟩
  obtain ⟨w2, hw2⟩ : ∃ w, w = jq_st (jq_st (jq_st (jq_st (jq_st e 0 10 0) 0 18 0) 0 17 (-1)) 0 14 0) 0 19 0 := ⟨_, rfl⟩
  have a3 : w1 2 3 = n := by rw [hw1, pu_st_b (by omega), pu_st_b (by omega), pu_st_b (by omega), pu_st_b (by omega), pu_st_a]
  have a2 : w1 2 2 = 0 := by rw [hw1, pu_st_b (by omega), pu_st_b (by omega), pu_st_b (by omega), pu_st_a]
  have a4 : w1 2 4 = 0 := by rw [hw1, pu_st_b (by omega), pu_st_b (by omega), pu_st_a]
  have a12 : w1 2 12 = 0 := by rw [hw1, pu_st_b (by omega), pu_st_a]
  have a13 : w1 2 13 = -1 := by rw [hw1, pu_st_a]
  have ak : ∀ k, k ≠ 2 → w1 k = σ1 k := fun k hk => by rw [hw1, pu_st_ne hk, pu_st_ne hk, pu_st_ne hk, pu_st_ne hk, pu_st_ne hk]
  have b11 : w2 0 11 = n := by rw [hw2, pu_st_b (by omega), pu_st_b (by omega), pu_st_b (by omega), pu_st_b (by omega), pu_st_b (by omega), l2 0 (by omega), pu_st_a]
  have b10 : w2 0 10 = 0 := by rw [hw2, pu_st_b (by omega), pu_st_b (by omega), pu_st_b (by omega), pu_st_b (by omega), pu_st_a]
  have b18 : w2 0 18 = 0 := by rw [hw2, pu_st_b (by omega), pu_st_b (by omega), pu_st_b (by omega), pu_st_a]
  have b17 : w2 0 17 = -1 := by rw [hw2, pu_st_b (by omega), pu_st_b (by omega), pu_st_a]
  have b14 : w2 0 14 = 0 := by rw [hw2, pu_st_b (by omega), pu_st_a]
  have bj : ∀ j, j < 10 ∨ j = 16 ∨ 19 < j → w2 0 j = σ2 0 j := fun j hj => by rw [hw2, pu_st_b (by omega), pu_st_b (by omega), pu_st_b (by omega), pu_st_b (by omega), pu_st_b (by omega), l2 0 (by omega), pu_st_b (by omega)]
  have bk : ∀ k, k ≠ 0 → k ≠ 7 → w2 k = σ2 k := fun k hk h7 => by rw [hw2, pu_st_ne hk, pu_st_ne hk, pu_st_ne hk, pu_st_ne hk, pu_st_ne hk, l2 k h7, pu_st_ne hk]
  have b7 : ∀ j, 0 ≤ j → j < n → w2 7 j = σ1 4 j ∧ -128 ≤ σ1 4 j ∧ σ1 4 j ≤ 127 := fun j x y => by
    obtain ⟨r1, r2, r3⟩ := t4 j x (by omega)
    refine ⟨?_, r2, r3⟩
    rw [hw2, pu_st_ne (by omega), pu_st_ne (by omega), pu_st_ne (by omega), pu_st_ne (by omega), pu_st_ne (by omega), l3 j x y, ← r1]
    unfold jq_w8
    omega
  obtain ⟨τ1, τ2, c1, c2, c3, c4, c5, -⟩ := pa_next (T := σ1 4) (L := n) (m1 := w1) (m2 := w2) ⟨a3, by omega, fun j x y => by rw [ak 4 (by omega)], by omega, fun i w hw => by rw [ak 3 (by omega)]; exact hK i w hw⟩ ⟨b11, by omega, b7, by omega⟩ (by omega)
  have mn : jq_min n (σ1 2 2) = n := by
    unfold jq_min
    rw [if_neg (by omega)]
  refine ⟨τ1, τ2, ?_, ?_, ⟨c3, ?_, ?_, ?_⟩, fun k hk => (c4.1 k hk).trans (ak k hk), ?_, fun k hk h7 => (c5.1 k hk).trans (bk k hk h7), fun j hj => (c5.2 j (by omega)).trans (bj j hj), ?_⟩
  · unfold X5_open
    rw [mn, pu_lt, pu_lt, pu_lt, pu_lt, pu_lt, ← hw1, c1]
    rfl
  · unfold X11_begins
    rw [if_neg (by omega), if_neg (by omega), if_neg (by omega), pu_lt, l1, Option.bind_some, pu_lt, pu_lt, pu_lt, pu_lt, pu_lt, ← hw2, c2]
    rfl
  · rw [c4.2 12 (by omega)]; exact a12
  · rw [c5.2 18 (by omega)]; exact b18
  · rw [c4.2 13 (by omega), c5.2 17 (by omega), a13, b17]
  · rw [c4.2 2 (by omega)]; exact a2
  · rw [c5.2 10 (by omega)]; exact b10
theorem ps_clear : ∃ τ, X1_clear o σ = some τ ∧ (∀ k, k ≠ o → k ≠ o + 13 → τ k = σ k) ∧ (∀ j, 0 ≤ j → j < 7 → τ o j = 0) ∧ τ (o + 13) 0 = 0 := by
  refine ⟨_, rfl, fun k a b => ?_, fun j a b => ?_, ?_⟩
  · simp only [pu_st_ne a, pu_st_ne b]
  · have q : o ≠ o + 13 := by omega
    simp only [pu_st_ne q]
    rcases (show j = 0 ∨ j = 1 ∨ j = 2 ∨ j = 3 ∨ j = 4 ∨ j = 5 ∨ j = 6 by omega) with rfl | rfl | rfl | rfl | rfl | rfl | rfl
    · rw [pu_st_b (by omega), pu_st_b (by omega), pu_st_b (by omega), pu_st_b (by omega), pu_st_b (by omega), pu_st_b (by omega), pu_st_a]
    · rw [pu_st_b (by omega), pu_st_b (by omega), pu_st_b (by omega), pu_st_b (by omega), pu_st_b (by omega), pu_st_a]
    · rw [pu_st_b (by omega), pu_st_b (by omega), pu_st_b (by omega), pu_st_b (by omega), pu_st_a]
    · rw [pu_st_b (by omega), pu_st_b (by omega), pu_st_b (by omega), pu_st_a]
    · rw [pu_st_b (by omega), pu_st_b (by omega), pu_st_a]
    · rw [pu_st_b (by omega), pu_st_a]
    · rw [pu_st_a]
  · rw [pu_st_b (by omega), pu_st_b (by omega), pu_st_b (by omega), pu_st_a]
theorem pm_plain : ∃ τ, X11_plain 2024 σ = some τ ∧ (∀ k, k ≠ 1 → τ k = σ k) ∧ (∀ j, j < 2024 → τ 1 j = σ 1 j) ∧ (∀ j, 0 ≤ j → j < 506 → τ 1 (2024 + j) = if j = 6 then -1 else 0) := by
  have lp : ∃ e, jq_lp (X11_plain_b2 2024) (0, σ) = some e ∧ (∀ k, k ≠ 1 → e k = σ k) ∧ (∀ j, j < 2024 → e 1 j = σ 1 j) ∧ ∀ j, 0 ≤ j → j < 506 → e 1 (2024 + j) = 0 := by
    refine pu_lpE (f := X11_plain_b2 2024) (s := ((0 : Int), σ)) (fun i t => t.1 = (i : Int) ∧ (∀ k, k ≠ 1 → t.2 k = σ k) ∧ (∀ j, j < 2024 → t.2 1 j = σ 1 j) ∧ ∀ j, 0 ≤ j → j < t.1 → t.2 1 (2024 + j) = 0) (fun e => (∀ k, k ≠ 1 → e k = σ k) ∧ (∀ j, j < 2024 → e 1 j = σ 1 j) ∧ ∀ j, 0 ≤ j → j < 506 → e 1 (2024 + j) = 0) 506 ⟨rfl, fun _ _ => rfl, fun _ _ => rfl, fun j a b => by dsimp only at b; omega⟩ (fun i t ht hi => ?_) (fun e a b => ⟨e, a, b⟩)
    obtain ⟨t1', t2'⟩ := t
    obtain ⟨q0, q1, q2, q3⟩ := ht
    dsimp only at q0 q1 q2 q3
    unfold X11_plain_b2
    dsimp only
    by_cases w : t1' < 506
    · rw [if_pos w, pu_w (x := 2024 + t1') (by omega) (by omega), pu_sa (by omega) (by omega), Option.bind_some, pu_lt, pu_w (by omega) (by omega)]
      refine Or.inr ⟨by omega, _, rfl, by dsimp only; omega, fun k hk => (pu_st_ne hk).trans (q1 k hk), fun j hj => (pu_st_b (by omega)).trans (q2 j hj), fun j a b => ?_⟩
      dsimp only at b ⊢
      by_cases z : j = t1'
      · rw [z, pu_st_a]
      · rw [pu_st_b (by omega)]; exact q3 j a (by omega)
    · rw [if_neg w]
      exact Or.inl ⟨_, rfl, q1, q2, fun j a b => q3 j a (by omega)⟩
  obtain ⟨e, l1, l2, l3, l4⟩ := lp
  unfold X11_plain
  rw [l1, Option.bind_some, pu_w (x := 2024 + 6) (by omega) (by omega), pu_sa (by omega) (by omega), Option.bind_some]
  refine ⟨_, rfl, fun k hk => (pu_st_ne hk).trans (l2 k hk), fun j hj => (pu_st_b (by omega)).trans (l3 j hj), fun j a b => ?_⟩
  by_cases z : j = 6
  · rw [if_pos z, z]
    exact pu_st_a
  · rw [if_neg z, pu_st_b (by omega)]
    exact l4 j a b
theorem ps_keep : X10_keepFault σ = some (pu_i (σ 2 12 = 0), jq_st (jq_st σ 0 5 (σ 2 12)) 0 6 (σ 2 13)) := by
  unfold X10_keepFault
  rw [pu_lt, pu_lt, pu_st_ne (show (2 : Int) ≠ 0 by omega), pu_st_b (show (5 : Int) ≠ 6 by omega), pu_st_a]
  by_cases z : σ 2 12 = 0
  · rw [if_pos z, pu_i_p z]
  · rw [if_neg z, pu_i_n z]
/-- what a reading may leave behind -/
theorem pu_RelC (h : jq_Rel σ1 σ2) (a1 : ∀ k, k ≠ 0 → k ≠ 2 → ¬ (σ1 0 8 ≤ k ∧ k < σ1 0 8 + 18) → F1 k = σ1 k) (a2 : ∀ j, j ≠ 0 → j ≠ 5 → j ≠ 6 → j ≠ 7 → j ≠ 8 → F1 0 j = σ1 0 j) (a3 : F1 2 2 = 0) (b1 : ∀ k, k ≠ 0 → k ≠ 1 → k ≠ 2 → k ≠ 7 → F2 k = σ2 k) (b2 : ∀ j, 506 ≤ j → j < 2024 → F2 1 j = σ2 1 j) (b3 : ∀ j, 13 ≤ j → j < 52 → F2 2 j = σ2 2 j) (b4 : ∀ j, j = 3 ∨ j = 4 ∨ j = 35 ∨ j = 36 → F2 0 j = σ2 0 j) (b5 : F2 0 10 = 0) (e1 : F1 0 0 = F2 0 2) (e2 : F1 0 5 = F2 0 16) (e3 : F1 0 6 = F2 0 17) (hn : F1 0 7 = 5 ∧ F1 0 8 = 25 ∨ F1 0 7 = 25 ∧ F1 0 8 = 5) (hC : pu_CM F1 (F1 0 7) (F2 1) (F2 2)) : jq_Rel F1 F2 := by
  obtain ⟨⟨g0, g1, g2, g3, g4⟩, gn, gC, ⟨m1, m2, m3, m4⟩, hT, ⟨t1, t2, t3, t4⟩, ⟨l1, l2⟩, hK⟩ := h
  unfold jq_Rel
  rw [b4 3 (by omega), b4 4 (by omega), b4 35 (by omega), b4 36 (by omega), a2 1 (by omega) (by omega) (by omega) (by omega) (by omega), a2 2 (by omega) (by omega) (by omega) (by omega) (by omega), a2 11 (by omega) (by omega) (by omega) (by omega) (by omega), a2 16 (by omega) (by omega) (by omega) (by omega) (by omega), b1 3 (by omega) (by omega) (by omega) (by omega), b1 4 (by omega) (by omega) (by omega) (by omega), b1 5 (by omega) (by omega) (by omega) (by omega), b1 6 (by omega) (by omega) (by omega) (by omega), b1 17 (by omega) (by omega) (by omega) (by omega), a1 62 (by omega) (by omega) (by omega), a1 3 (by omega) (by omega) (by omega), a1 4 (by omega) (by omega) (by omega)]
  refine ⟨⟨e1, g1, g2, e2, e3⟩, hn, hC, ⟨m1, m2, m3, fun i i0 i1 => ?_⟩, fun t t0 t1 => ?_, ⟨by omega, by omega, by omega, fun j x y => by omega⟩, ⟨l1, l2⟩, hK⟩
  · refine ((m4 i i0 i1).mv (fun k x y => a1 _ (by omega) (by omega) (by omega))).cg (fun j x y => ?_) (fun j x y => ?_)
    · exact b2 _ (by omega) (by omega)
    · exact b3 _ (by omega) (by omega)
  · rw [a1 (64 + 2 * t) (by omega) (by omega) (by omega), a1 (65 + 2 * t) (by omega) (by omega) (by omega)]
    exact hT t t0 t1
end
