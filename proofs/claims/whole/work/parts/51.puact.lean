theorem pu_st_id {σ : jq_M} {k j v : Int} (h : σ k j = v) : jq_st σ k j v = σ := by
  funext k' j'
  unfold jq_st
  by_cases q : k' = k ∧ j' = j
  · rw [if_pos q, q.1, q.2, h]
  · rw [if_neg q]
section
variable {σ σ1 σ2 τ1 τ2 : jq_M} {o v p q n : Int}
theorem pu_K.seat1 (h : pu_K σ1 o σ2) (p0 : 0 ≤ p) (p1 : p < σ2 1 1) (v0 : -1 ≤ v) (v1 : v < σ2 1 0) (hv : ∀ i, 0 ≤ i → i < σ2 1 1 → i ≠ p → v ≠ -1 → σ2 1 (9 + 2 * i) ≠ v) : pu_K (jq_st σ1 (o + 3) p v) o (jq_st σ2 1 (9 + 2 * p) v) ∧ pu_F1 o σ1 (jq_st σ1 (o + 3) p v) ∧ pu_F2 σ2 (jq_st σ2 1 (9 + 2 * p) v) ∧ jq_st σ2 1 (9 + 2 * p) v 1 4 = σ2 1 4 := by
  obtain ⟨-, i1, -, -, -, -, -, ip, iq, -⟩ := h.1
  have cp := h.2.2.1
  refine h.seats (fun k hk => pu_st_ne hk) (fun k a b => pu_st_ne a) (fun j hj => pu_st_b (hj p p0 p1)) (fun i a b => ?_) (fun i j a b c => ?_)
  · by_cases q : i = p
    · rw [q, pu_st_a, pu_st_a]; exact ⟨rfl, v0, v1⟩
    · rw [pu_st_b q, pu_st_b (by omega)]
      exact ⟨(cp i a b).2, (ip i a b).2.2⟩
  · by_cases q1 : i = p
    · rw [q1, pu_st_a, pu_st_b (by omega)]
      exact fun z e => hv j (by omega) c (by omega) z e.symm
    · rw [pu_st_b (show 9 + 2 * i ≠ 9 + 2 * p by omega)]
      by_cases q2 : j = p
      · rw [q2, pu_st_a]
        exact fun z e => hv i a (by omega) q1 (by rw [← e]; exact z) e
      · rw [pu_st_b (by omega)]
        exact iq i j a b c
theorem pa_sit (h : pu_K σ1 o σ2) (p0 : 0 ≤ p) (p1 : p < σ2 1 1) (q0 : 0 ≤ q) (q1 : q < σ2 1 0) : ∃ (r : Int) (τ1 τ2 : jq_M), X1_seatOne o p q σ1 = some (r, τ1) ∧ X11_sits p q σ2 = some (r, τ2) ∧ pu_K τ1 o τ2 ∧ pu_F1 o σ1 τ1 ∧ pu_F2 σ2 τ2 ∧ (r = 0 ∨ r = 1) ∧ τ2 1 4 = σ2 1 4 := by
  have hI := h.1
  obtain ⟨i0, i1, -, -, -, -, -, ip, iq, -⟩ := h.1
  obtain ⟨⟨c0, c1, c2, c3, c4, c5, c6⟩, cp, cw, ca⟩ := h.2
  have e1 := ps_sitterAt (σ := σ1) (o := o) (v := q) (row := o + 3) (S := pu_se (σ2 1)) c2 (by omega) (by omega) (fun p h0 h1 => (cp p h0 h1).2)
  have e2 := pm_sitsAt (σ := σ2) (v := q) hI
  have hs := pu_who_s (S := pu_se (σ2 1)) (x := q) (σ2 1 1).toNat
  have hn := pu_who_n (S := pu_se (σ2 1)) (x := q) (σ2 1 1).toNat
  generalize pu_who (pu_se (σ2 1)) q (σ2 1 1).toNat = w at e1 e2 hs hn
  have s1 : jq_sa σ1 (o + 3) 5 p q = some (jq_st σ1 (o + 3) p q) := pu_sa (by omega) (by omega)
  have s2 : X11_sits_j18 p q σ2 = some (1, jq_st σ2 1 (9 + 2 * p) q) := by
    unfold X11_sits_j18
    rw [pm_partyRow p0 (by omega), Option.bind_some, pu_w (by omega) (by omega), pu_sa (by omega) (by omega), Option.bind_some, show 8 + 2 * p + 1 = 9 + 2 * p by omega]
  have n10 : ¬ ((1 : Int) = 0) := by decide
  have t1 : X1_isParty o p σ1 = some 1 := by rw [ps_isParty (by omega), pu_i_p (by omega)]
  have t2 : X1_isPlace o q σ1 = some 1 := by rw [ps_isPlace, pu_i_p (by omega)]
  unfold X1_seatOne X11_sits
  rw [e1, e2, Option.bind_some, Option.bind_some, t1, t2, Option.bind_some, if_neg n10, Option.bind_some, if_neg n10, s1, s2]
  by_cases g1 : w = -1
  · rw [if_pos g1, if_pos g1]
    have g := hn.mp g1
    obtain ⟨k1, k2, k3, k4⟩ := h.seat1 p0 p1 (v := q) (by omega) q1 (fun i a b _ _ => by
      have := g i.toNat (by omega)
      unfold pu_se at this
      rw [show ((i.toNat : Nat) : Int) = i by omega] at this
      exact this)
    exact ⟨1, _, _, rfl, rfl, k1, k2, k3, Or.inr rfl, k4⟩
  · rw [if_neg g1, if_neg g1]
    by_cases g2 : w = p
    · rw [if_pos g2, if_pos g2]
      rcases hs with hs | ⟨a1, a2, a3⟩
      · exact absurd hs g1
      · unfold pu_se at a3
        rw [g2] at a3
        obtain ⟨k1, k2, k3, k4⟩ := h.seat1 p0 p1 (v := q) (by omega) q1 (fun i a b c _ => by
          rw [← a3]
          by_cases z : i < p
          · exact fun e => iq i p a z p1 (by rw [e]; omega) e
          · exact fun e => iq p i p0 (by omega) b (by omega) e.symm)
        exact ⟨1, _, _, rfl, rfl, k1, k2, k3, Or.inr rfl, k4⟩
    · rw [if_neg g2, if_neg g2]
      exact ⟨0, _, _, rfl, rfl, h, pu_F1_r _ _, pu_F2_r _, Or.inl rfl, rfl⟩
theorem pa_rise (h : pu_K σ1 o σ2) (p0 : 0 ≤ p) (p1 : p < σ2 1 1) : X1_raiseOne o p σ1 = some (if σ2 1 (9 + 2 * p) = -1 then 0 else 1, jq_st σ1 (o + 3) p (-1)) ∧ pu_K (jq_st σ1 (o + 3) p (-1)) o (jq_st σ2 1 (9 + 2 * p) (-1)) ∧ pu_F1 o σ1 (jq_st σ1 (o + 3) p (-1)) ∧ pu_F2 σ2 (jq_st σ2 1 (9 + 2 * p) (-1)) ∧ jq_st σ2 1 (9 + 2 * p) (-1) 1 4 = σ2 1 4 := by
  obtain ⟨i0, i1, -⟩ := h.1
  have cp := h.2.2.1
  refine ⟨?_, h.seat1 p0 p1 (by omega) (by have := i0; omega) (fun i a b c d => absurd rfl d)⟩
  have c2 : σ1 o 2 = σ2 1 1 := h.2.1.2.2.1
  unfold X1_raiseOne
  rw [ps_isParty (by omega), Option.bind_some, pu_i_p (show 0 ≤ p ∧ p < σ1 o 2 by omega), if_neg (show ¬ ((1 : Int) = 0) by decide), pu_ld (by omega) (by omega), Option.bind_some, (cp p p0 p1).2, pu_sa (by omega) (by omega), Option.bind_some]
  by_cases g : σ2 1 (9 + 2 * p) = -1
  · rw [if_pos g, if_pos g, pu_st_id (by rw [(cp p p0 p1).2]; exact g)]
  · rw [if_neg g, if_neg g]
theorem pa_swap (h : pu_K σ1 o σ2) (p0 : 0 ≤ p) (p1 : p < σ2 1 1) (q0 : 0 ≤ q) (q1 : q < σ2 1 1) : ∃ (r : Int) (τ1 τ2 : jq_M), X1_swapTwo o p q (o + 3) σ1 = some (r, τ1) ∧ X11_swaps p q σ2 = some (r, τ2) ∧ pu_K τ1 o τ2 ∧ pu_F1 o σ1 τ1 ∧ pu_F2 σ2 τ2 ∧ (r = 0 ∨ r = 1) ∧ τ2 1 4 = σ2 1 4 := by
  obtain ⟨i0, i1, -, -, -, -, -, ip, iq, -⟩ := h.1
  have cp := h.2.2.1
  have c2 : σ1 o 2 = σ2 1 1 := h.2.1.2.2.1
  have n10 : ¬ ((1 : Int) = 0) := by decide
  unfold X1_swapTwo X11_swaps
  rw [ps_seatIn p0 (by omega), ps_seatIn q0 (by omega), Option.bind_some, Option.bind_some, (cp p p0 p1).2, (cp q q0 q1).2]
  by_cases g1 : p = q
  · rw [if_pos g1, if_pos g1]
    exact ⟨0, _, _, rfl, rfl, h, pu_F1_r _ _, pu_F2_r _, Or.inl rfl, rfl⟩
  · rw [if_neg g1, if_neg g1, pm_seatOf p0 (by omega), pm_seatOf q0 (by omega), Option.bind_some, Option.bind_some]
    have s1 : X1_swapTwo_j31 o p q (o + 3) (σ2 1 (9 + 2 * p)) (σ2 1 (9 + 2 * q)) σ1 = some (1, jq_st (jq_st σ1 (o + 3) p (σ2 1 (9 + 2 * q))) (o + 3) q (σ2 1 (9 + 2 * p))) := by
      unfold X1_swapTwo_j31
      rw [ps_isParty (by omega), Option.bind_some, pu_i_p (show 0 ≤ p ∧ p < σ1 o 2 by omega), if_neg n10, ps_isParty (by omega), Option.bind_some, pu_i_p (show 0 ≤ q ∧ q < σ1 o 2 by omega), if_neg n10, pu_sa (by omega) (by omega), Option.bind_some, pu_sa (by omega) (by omega), Option.bind_some]
    have s2 : X11_swaps_j25 p q σ2 = some (1, jq_st (jq_st σ2 1 (9 + 2 * p) (σ2 1 (9 + 2 * q))) 1 (9 + 2 * q) (σ2 1 (9 + 2 * p))) := by
      unfold X11_swaps_j25
      simp only [pm_seatOf p0 (show p < 5 by omega), pm_seatOf q0 (show q < 5 by omega), pm_partyRow p0 (show p < 5 by omega), pm_partyRow q0 (show q < 5 by omega), Option.bind_some]
      rw [pu_w (x := 8 + 2 * p + 1) (by omega) (by omega), pu_w (x := 8 + 2 * q + 1) (by omega) (by omega), pu_sa (by omega) (by omega), Option.bind_some, pu_sa (by omega) (by omega), Option.bind_some, show 8 + 2 * p + 1 = 9 + 2 * p by omega, show 8 + 2 * q + 1 = 9 + 2 * q by omega]
    have fin : ∃ (r : Int) (τ1 τ2 : jq_M), X1_swapTwo_j31 o p q (o + 3) (σ2 1 (9 + 2 * p)) (σ2 1 (9 + 2 * q)) σ1 = some (r, τ1) ∧ X11_swaps_j25 p q σ2 = some (r, τ2) ∧ pu_K τ1 o τ2 ∧ pu_F1 o σ1 τ1 ∧ pu_F2 σ2 τ2 ∧ (r = 0 ∨ r = 1) ∧ τ2 1 4 = σ2 1 4 := by
      rw [s1, s2]
      have gA : ∀ i, 0 ≤ i → i < σ2 1 1 → jq_st (jq_st σ2 1 (9 + 2 * p) (σ2 1 (9 + 2 * q))) 1 (9 + 2 * q) (σ2 1 (9 + 2 * p)) 1 (9 + 2 * i) = σ2 1 (9 + 2 * (if i = q then p else if i = p then q else i)) := by
        intro i a b
        by_cases z1 : i = q
        · rw [if_pos z1, z1, pu_st_a]
        · rw [if_neg z1, pu_st_b (by omega)]
          by_cases z2 : i = p
          · rw [if_pos z2, z2, pu_st_a]
          · rw [if_neg z2, pu_st_b (by omega)]
      have k : pu_K (jq_st (jq_st σ1 (o + 3) p (σ2 1 (9 + 2 * q))) (o + 3) q (σ2 1 (9 + 2 * p))) o (jq_st (jq_st σ2 1 (9 + 2 * p) (σ2 1 (9 + 2 * q))) 1 (9 + 2 * q) (σ2 1 (9 + 2 * p))) ∧ pu_F1 o σ1 (jq_st (jq_st σ1 (o + 3) p (σ2 1 (9 + 2 * q))) (o + 3) q (σ2 1 (9 + 2 * p))) ∧ pu_F2 σ2 (jq_st (jq_st σ2 1 (9 + 2 * p) (σ2 1 (9 + 2 * q))) 1 (9 + 2 * q) (σ2 1 (9 + 2 * p))) ∧ jq_st (jq_st σ2 1 (9 + 2 * p) (σ2 1 (9 + 2 * q))) 1 (9 + 2 * q) (σ2 1 (9 + 2 * p)) 1 4 = σ2 1 4 := by
        refine h.seats (τ1 := jq_st (jq_st σ1 (o + 3) p (σ2 1 (9 + 2 * q))) (o + 3) q (σ2 1 (9 + 2 * p))) (τ2 := jq_st (jq_st σ2 1 (9 + 2 * p) (σ2 1 (9 + 2 * q))) 1 (9 + 2 * q) (σ2 1 (9 + 2 * p))) (fun k hk => (pu_st_ne hk).trans (pu_st_ne hk)) (fun k a b => (pu_st_ne a).trans (pu_st_ne a)) (fun j hj => (pu_st_b (hj q q0 q1)).trans (pu_st_b (hj p p0 p1))) (fun i a b => ?_) (fun i j a b c => ?_)
        · rw [gA i a b]
          by_cases z1 : i = q
          · rw [if_pos z1, z1, pu_st_a]
            exact ⟨rfl, (ip p p0 p1).2.2⟩
          · rw [if_neg z1, pu_st_b z1]
            by_cases z2 : i = p
            · rw [if_pos z2, z2, pu_st_a]
              exact ⟨rfl, (ip q q0 q1).2.2⟩
            · rw [if_neg z2, pu_st_b z2]
              exact ⟨(cp i a b).2, (ip i a b).2.2⟩
        · rw [gA i a (by omega), gA j (by omega) c]
          have key : ∀ x y, 0 ≤ x → x < σ2 1 1 → 0 ≤ y → y < σ2 1 1 → x ≠ y → σ2 1 (9 + 2 * x) ≠ -1 → σ2 1 (9 + 2 * x) ≠ σ2 1 (9 + 2 * y) := by
            intro x y a1 a2 b1 b2 hxy hx
            by_cases z : x < y
            · exact iq x y a1 z b2 hx
            · exact fun e => iq y x b1 (by omega) a2 (by rw [← e]; exact hx) e.symm
          refine key _ _ ?_ ?_ ?_ ?_ ?_
          · split
            · exact p0
            · split <;> omega
          · split
            · exact p1
            · split <;> omega
          · split
            · exact p0
            · split <;> omega
          · split
            · exact p1
            · split <;> omega
          · split
            · split
              · omega
              · split <;> omega
            · split
              · split
                · omega
                · split <;> omega
              · split
                · omega
                · split <;> omega
      exact ⟨1, _, _, rfl, rfl, k.1, k.2.1, k.2.2.1, Or.inr rfl, k.2.2.2⟩
    by_cases g2 : σ2 1 (9 + 2 * p) = -1
    · rw [if_pos g2, if_pos g2]
      by_cases g3 : σ2 1 (9 + 2 * q) = -1
      · rw [if_pos g3, if_pos g3]
        exact ⟨0, _, _, rfl, rfl, h, pu_F1_r _ _, pu_F2_r _, Or.inl rfl, rfl⟩
      · rw [if_neg g3, if_neg g3]; exact fin
    · rw [if_neg g2, if_neg g2]; exact fin
/-- a seat n places on -/
def pu_tn (P n s : Int) : Int := if s = -1 then -1 else (s + n) % P
theorem pu_tn_b {P s : Int} (hP : 0 < P) : -1 ≤ pu_tn P n s ∧ pu_tn P n s < P := by
  unfold pu_tn
  have h3 := Int.emod_nonneg (s + n) (show P ≠ 0 by omega)
  have h4 := Int.emod_lt_of_pos (s + n) hP
  split <;> omega
theorem ps_turnAll {row P m : Int} (c0 : σ o 0 = P) (c2 : σ o 2 = m) (hr : row ≠ o) (m0 : 0 ≤ m) (m5 : m ≤ 5) (hP : 0 < m → 0 < P) (hP6 : P ≤ 6) (n0 : 0 ≤ n) (n1 : n ≤ 99) (hv : ∀ p, 0 ≤ p → p < m → -1 ≤ σ row p ∧ σ row p < P) : ∃ τ, X1_turnAll o n row σ = some τ ∧ (∀ k, k ≠ row → τ k = σ k) ∧ (∀ p, 0 ≤ p → p < m → τ row p = pu_tn P n (σ row p)) ∧ ∀ p, ¬ (0 ≤ p ∧ p < m) → τ row p = σ row p := by
  unfold X1_turnAll
  refine pu_lpE (f := X1_turnAll_b2 o n row) (s := ((0 : Int), σ)) (fun i t => t.1 = (i : Int) ∧ (∀ k, k ≠ row → t.2 k = σ k) ∧ (∀ p, 0 ≤ p → p < t.1 → t.2 row p = pu_tn P n (σ row p)) ∧ ∀ p, ¬ (0 ≤ p ∧ p < t.1) → t.2 row p = σ row p) (fun e => (∀ k, k ≠ row → e k = σ k) ∧ (∀ p, 0 ≤ p → p < m → e row p = pu_tn P n (σ row p)) ∧ ∀ p, ¬ (0 ≤ p ∧ p < m) → e row p = σ row p) m.toNat ⟨rfl, fun _ _ => rfl, fun p h0 h1 => by dsimp only at h1; omega, fun _ _ => rfl⟩ (fun i t ht hi => ?_) (fun e h1 h2 => ⟨e, by rw [h1]; rfl, h2⟩)
  obtain ⟨t1, t2⟩ := t
  obtain ⟨hk, q1, q2, q3⟩ := ht
  dsimp only at hk q1 q2 q3
  have w := q1 o (fun z => hr z.symm)
  have hk0 : 0 ≤ t1 := by omega
  unfold X1_turnAll_b2
  dsimp only
  simp only [w, c2, c0]
  by_cases h : t1 < m
  · have e := q3 t1 (by omega)
    obtain ⟨e1, e2⟩ := hv t1 hk0 h
    have hP' := hP (by omega)
    rw [if_pos h, if_pos (show t1 < 5 by omega), if_pos hP', pu_ld hk0 (by omega), Option.bind_some, e, Option.bind_some]
    simp only [pu_lt]
    rw [pu_w (x := t1 + 1) (by omega) (by omega)]
    by_cases g : σ row t1 = -1
    · rw [if_pos g]
      refine Or.inr ⟨by omega, _, rfl, by dsimp only; omega, q1, fun p a b => ?_, fun p a => q3 p (by dsimp only at a; omega)⟩
      dsimp only at b ⊢
      by_cases z : p = t1
      · rw [z, e, g]; rfl
      · exact q2 p a (by omega)
    · rw [if_neg g, pu_w (by omega) (by omega), pu_rem (by omega) hP' (by omega), Option.bind_some, pu_sa hk0 (by omega), Option.bind_some]
      refine Or.inr ⟨by omega, _, rfl, by dsimp only; omega, fun k hk => (pu_st_ne hk).trans (q1 k hk), fun p a b => ?_, fun p a => ?_⟩
      · dsimp only at b ⊢
        by_cases z : p = t1
        · rw [z, pu_st_a]; unfold pu_tn; rw [if_neg g]
        · rw [pu_st_b z]; exact q2 p a (by omega)
      · dsimp only at a ⊢
        rw [pu_st_b (by omega)]; exact q3 p (by omega)
  · rw [if_neg h]
    exact Or.inl ⟨t2, rfl, q1, fun p a b => q2 p a (by omega), fun p a => q3 p (by omega)⟩
theorem pm_turnsBy (hI : pu_inv (σ 1)) (n0 : 0 ≤ n) (n1 : n ≤ 99) : ∃ τ, X11_turnsBy n σ = some τ ∧ (∀ k, k ≠ 1 → τ k = σ k) ∧ (∀ p, 0 ≤ p → p < σ 1 1 → τ 1 (9 + 2 * p) = pu_tn (σ 1 0) n (σ 1 (9 + 2 * p))) ∧ ∀ j, (∀ p, 0 ≤ p → p < σ 1 1 → j ≠ 9 + 2 * p) → τ 1 j = σ 1 j := by
  obtain ⟨i0, i1, -, -, -, -, -, ip, iq, -⟩ := hI
  unfold X11_turnsBy
  refine pu_lpE (f := X11_turnsBy_b2 n) (s := ((0 : Int), σ)) (fun i t => t.1 = (i : Int) ∧ (∀ k, k ≠ 1 → t.2 k = σ k) ∧ (∀ p, 0 ≤ p → p < t.1 → t.2 1 (9 + 2 * p) = pu_tn (σ 1 0) n (σ 1 (9 + 2 * p))) ∧ ∀ j, (∀ p, 0 ≤ p → p < t.1 → j ≠ 9 + 2 * p) → t.2 1 j = σ 1 j) (fun τ => (∀ k, k ≠ 1 → τ k = σ k) ∧ (∀ p, 0 ≤ p → p < σ 1 1 → τ 1 (9 + 2 * p) = pu_tn (σ 1 0) n (σ 1 (9 + 2 * p))) ∧ ∀ j, (∀ p, 0 ≤ p → p < σ 1 1 → j ≠ 9 + 2 * p) → τ 1 j = σ 1 j) (σ 1 1).toNat ⟨rfl, fun _ _ => rfl, fun p h0 h1 => by dsimp only at h1; omega, fun _ _ => rfl⟩ (fun i t ht hi => ?_) (fun e h1 h2 => ⟨e, by rw [h1]; rfl, h2⟩)
  obtain ⟨t1, t2⟩ := t
  obtain ⟨hk, q1, q2, q3⟩ := ht
  dsimp only at hk q1 q2 q3
  have w0 : t2 1 0 = σ 1 0 := q3 0 (fun p a b => by omega)
  have w1 : t2 1 1 = σ 1 1 := q3 1 (fun p a b => by omega)
  have hk0 : 0 ≤ t1 := by omega
  unfold X11_turnsBy_b2
  dsimp only
  rw [pu_ld (by omega) (by omega), Option.bind_some, w1]
  by_cases h : t1 < σ 1 1
  · have e : t2 1 (9 + 2 * t1) = σ 1 (9 + 2 * t1) := q3 _ (fun p a b => by omega)
    obtain ⟨-, -, e1, e2⟩ := ip t1 hk0 h
    have hP' : 0 < σ 1 0 := by omega
    rw [if_pos h, pm_seatOf hk0 (by omega), pm_partyRow hk0 (by omega), Option.bind_some, Option.bind_some, Option.bind_some, e, pu_ld (by omega) (by omega), Option.bind_some, w0]
    simp only [pu_lt]
    rw [pu_w (x := t1 + 1) (by omega) (by omega)]
    by_cases g : σ 1 (9 + 2 * t1) = -1
    · rw [if_pos g]
      refine Or.inr ⟨by omega, _, rfl, by dsimp only; omega, q1, fun p a b => ?_, fun j a => q3 j (fun p b c => a p b (by dsimp only; omega))⟩
      dsimp only at b ⊢
      by_cases z : p = t1
      · rw [z, e, g]; rfl
      · exact q2 p a (by omega)
    · rw [if_neg g, pu_w (x := σ 1 (9 + 2 * t1) + n) (by omega) (by omega), pu_rem (by omega) hP' (by omega), Option.bind_some, pu_w (x := 8 + 2 * t1 + 1) (by omega) (by omega), pu_sa (by omega) (by omega), Option.bind_some]
      refine Or.inr ⟨by omega, _, rfl, by dsimp only; omega, fun k hk => (pu_st_ne hk).trans (q1 k hk), fun p a b => ?_, fun j a => ?_⟩
      · dsimp only at b ⊢
        by_cases z : p = t1
        · rw [z, show 9 + 2 * t1 = 8 + 2 * t1 + 1 by omega, pu_st_a, show 8 + 2 * t1 + 1 = 9 + 2 * t1 by omega]; unfold pu_tn; rw [if_neg g]
        · rw [pu_st_b (by omega)]; exact q2 p a (by omega)
      · dsimp only at a ⊢
        rw [pu_st_b (fun z => a t1 hk0 (by omega) (by omega))]; exact q3 j (fun p b c => a p b (by omega))
  · rw [if_neg h]
    exact Or.inl ⟨t2, rfl, q1, fun p a b => q2 p a (by omega), fun j a => q3 j (fun p b c => a p b (by omega))⟩
theorem pu_tn_inj {P a b : Int} (hP : 0 < P) (hP6 : P ≤ 6) (n0 : 0 ≤ n) (a0 : -1 ≤ a) (a1 : a < P) (b0 : -1 ≤ b) (b1 : b < P) (h : pu_tn P n a = pu_tn P n b) (ha : pu_tn P n a ≠ -1) : a = b := by
  unfold pu_tn at h ha
  have n1 := Int.emod_nonneg (a + n) (show P ≠ 0 by omega)
  have n2 := Int.emod_nonneg (b + n) (show P ≠ 0 by omega)
  by_cases h1 : a = -1
  · rw [if_pos h1] at ha; exact absurd rfl ha
  · by_cases h2 : b = -1
    · rw [if_neg h1, if_pos h2] at h; omega
    · rw [if_neg h1, if_neg h2] at h
      have h5 : (a + n - (b + n)) % P = 0 := Int.emod_eq_emod_iff_emod_sub_eq_zero.mp h
      rw [show a + n - (b + n) = a - b by omega] at h5
      obtain ⟨c, hc⟩ := Int.dvd_of_emod_eq_zero h5
      have h6 : c = 0 := by
        by_cases z : c = 0
        · exact z
        · by_cases z2 : 0 < c
          · have : P * 1 ≤ P * c := Int.mul_le_mul_of_nonneg_left (by omega) (by omega)
            omega
          · have : P * c ≤ P * (-1) := Int.mul_le_mul_of_nonneg_left (by omega) (by omega)
            omega
      rw [h6, Int.mul_zero] at hc
      omega
theorem pa_turn (h : pu_K σ1 o σ2) (n0 : 0 ≤ n) (n1 : n ≤ 99) : ∃ (τ1 τ2 : jq_M), X1_turnAll o n (o + 3) σ1 = some τ1 ∧ X11_turnsBy n σ2 = some τ2 ∧ pu_K τ1 o τ2 ∧ pu_F1 o σ1 τ1 ∧ pu_F2 σ2 τ2 ∧ τ2 1 4 = σ2 1 4 := by
  have hI := h.1
  obtain ⟨i0, i1, -, -, -, -, -, ip, iq, -⟩ := h.1
  obtain ⟨⟨c0, c1, c2, c3, c4, c5, c6⟩, cp, cw, ca⟩ := h.2
  obtain ⟨τ1, e1, e2, e3, e4⟩ := ps_turnAll (σ := σ1) (o := o) (row := o + 3) (n := n) c0 c2 (by omega) (by omega) (by omega) (by omega) (by omega) n0 n1 (fun p a b => by rw [(cp p a b).2]; exact (ip p a b).2.2)
  obtain ⟨τ2, f1, f2, f3, f4⟩ := pm_turnsBy (σ := σ2) (n := n) hI n0 n1
  refine ⟨τ1, τ2, e1, f1, h.seats e2 (fun k a b => f2 k a) f4 (fun p a b => ?_) (fun p q a b c => ?_)⟩
  · rw [e3 p a b, f3 p a b, (cp p a b).2]
    exact ⟨rfl, pu_tn_b (by omega)⟩
  · rw [f3 p a (by omega), f3 q (by omega) c]
    intro z e
    have e5 := pu_tn_inj (by omega) (by omega) n0 (ip p a (by omega)).2.2.1 (ip p a (by omega)).2.2.2 (ip q (by omega) c).2.2.1 (ip q (by omega) c).2.2.2 e z
    by_cases z2 : σ2 1 (9 + 2 * p) = -1
    · rw [z2] at z; exact z rfl
    · exact iq p q a b c z2 e5
end
