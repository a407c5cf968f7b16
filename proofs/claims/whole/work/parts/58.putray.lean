section
variable {σ σ1 σ2 τ1 τ2 : jq_M} {o v p n a b c t : Int}
def pu_TR (σ1 σ2 : jq_M) (t : Int) : Prop := σ1 (64 + 2 * t) 0 = -1 ∧ σ2 4 t = -1 ∨ 0 ≤ σ1 (64 + 2 * t) 0 ∧ σ1 (64 + 2 * t) 0 ≤ 3 ∧ σ1 (64 + 2 * t) 0 = σ2 3 t ∧ 0 ≤ σ2 4 t ∧ σ2 4 t ≤ 60 ∧ σ1 (64 + 2 * t) 1 = σ2 4 t ∧ ∀ j, 0 ≤ j → j < σ2 4 t → σ1 (65 + 2 * t) j = σ2 5 (60 * t + j)
theorem pu_TR_of (h : jq_Rel σ1 σ2) (t0 : 0 ≤ t) (t1 : t < 4) : pu_TR σ1 σ2 t := h.2.2.2.2.1 t t0 t1
theorem pu_endT (h : jq_Rel σ1 σ2) (f1 : ∀ k, ¬ (64 ≤ k ∧ k < 72) → τ1 k = σ1 k) (f2 : ∀ k, k ≠ 3 → k ≠ 4 → k ≠ 5 → τ2 k = σ2 k) (hT : ∀ t, 0 ≤ t → t < 4 → pu_TR τ1 τ2 t) : jq_Rel (jq_st τ1 0 0 v) (jq_st τ2 0 2 v) := by
  obtain ⟨⟨e0, e1, e2, e3, e4⟩, hn, hC, ⟨m1, m2, m3, m4⟩, -, ⟨t1, t2, t3, t4⟩, ⟨l1, l2⟩, hK⟩ := h
  have z1 : τ1 0 = σ1 0 := f1 0 (by omega)
  have z2 : τ2 0 = σ2 0 := f2 0 (by omega) (by omega) (by omega)
  have q0 : ∀ j, j ≠ 0 → jq_st τ1 0 0 v 0 j = σ1 0 j := fun j hj => by rw [pu_st_b hj, z1]
  have r0 : ∀ j, j ≠ 2 → jq_st τ2 0 2 v 0 j = σ2 0 j := fun j hj => by rw [pu_st_b hj, z2]
  have q1 : ∀ k, k ≠ 0 → ¬ (64 ≤ k ∧ k < 72) → jq_st τ1 0 0 v k = σ1 k := fun k hk h5 => (pu_st_ne hk).trans (f1 k h5)
  have r1 : ∀ k, k ≠ 0 → k ≠ 3 → k ≠ 4 → k ≠ 5 → jq_st τ2 0 2 v k = σ2 k := fun k hk a b c => (pu_st_ne hk).trans (f2 k a b c)
  unfold jq_Rel
  rw [pu_st_a, pu_st_a, q0 1 (by omega), q0 2 (by omega), q0 5 (by omega), q0 6 (by omega), q0 7 (by omega), q0 8 (by omega), q0 11 (by omega), q0 16 (by omega), r0 3 (by omega), r0 4 (by omega), r0 16 (by omega), r0 17 (by omega), r0 36 (by omega), r0 10 (by omega), r0 35 (by omega), r1 1 (by omega) (by omega) (by omega) (by omega), r1 2 (by omega) (by omega) (by omega) (by omega), r1 6 (by omega) (by omega) (by omega) (by omega), r1 17 (by omega) (by omega) (by omega) (by omega), q1 2 (by omega) (by omega), q1 3 (by omega) (by omega), q1 4 (by omega) (by omega), q1 62 (by omega) (by omega), pu_st_ne (show (3 : Int) ≠ 0 by omega), pu_st_ne (show (4 : Int) ≠ 0 by omega), pu_st_ne (show (5 : Int) ≠ 0 by omega)]
  refine ⟨⟨rfl, e1, e2, e3, e4⟩, hn, hC.mv (fun k h0 h1 => q1 _ (by omega) (by omega)), ⟨m1, m2, m3, fun i h0 h1 => (m4 i h0 h1).mv (fun k h2 h3 => q1 _ (by omega) (by omega))⟩, fun t h0 h1 => ?_, ⟨t1, t2, t3, t4⟩, ⟨l1, l2⟩, hK⟩
  rw [pu_st_ne (show 64 + 2 * t ≠ 0 by omega), pu_st_ne (show 65 + 2 * t ≠ 0 by omega)]
  exact hT t h0 h1
theorem ps_trayAt (a0 : 0 ≤ p) (a1 : p ≤ 3) : X10_trayAt p σ = some (64 + 2 * p) := by
  unfold X10_trayAt
  rw [if_neg (by omega), if_pos (by omega), pu_chk a0 (by omega)]
  rfl
theorem ps_trayNo (h : ¬ (0 ≤ p ∧ p ≤ 3)) : X10_trayAt p σ = some (-1) := by
  unfold X10_trayAt
  by_cases h1 : p < 0
  · rw [if_pos h1]
  · rw [if_neg h1, if_neg (by omega)]
theorem ps_trnc (a0 : 0 ≤ p) (a1 : p ≤ 3) : jq_trnc (64 + 2 * p) = some (64 + 2 * p) := by
  unfold jq_trnc
  rw [if_pos (by omega)]
theorem ps_trncN : jq_trnc (-1) = some (-1) := by
  unfold jq_trnc
  rw [if_pos (Or.inl rfl)]
theorem pm_isTray : X11_isTray p σ = some (pu_i (0 ≤ p ∧ p ≤ 3)) := by
  unfold X11_isTray pu_i
  by_cases h : p < 0
  · rw [if_pos h, if_neg (by omega)]
  · rw [if_neg h]
    by_cases h2 : p < 4
    · rw [if_pos h2, if_pos (by omega)]
    · rw [if_neg h2, if_neg (by omega)]
theorem ps_spans {m : Int} (hm : σ o 1 = m) (m0 : 0 ≤ m) (m1 : m ≤ 60) : X9_spans o p c σ = some (pu_i (0 ≤ p ∧ 0 ≤ c ∧ p ≤ m ∧ c ≤ m - p)) := by
  unfold X9_spans pu_i
  rw [hm]
  by_cases h1 : p < 0
  · rw [if_pos h1, if_neg (by omega)]
  · rw [if_neg h1]
    by_cases h2 : c < 0
    · rw [if_pos h2, if_neg (by omega)]
    · rw [if_neg h2]
      rw [if_neg (show ¬ 60 < m by omega)]
      by_cases h3 : m < p
      · rw [if_pos h3, if_neg (by omega)]
      · rw [if_neg h3, pu_w (by omega) (by omega)]
        by_cases h4 : m - p < c
        · rw [if_pos h4, if_neg (by omega)]
        · rw [if_neg h4, if_pos (by omega)]
def pu_cut (s v : Int) : Int := if s = 0 then jq_w8 (jq_w v) else if s = 1 then jq_w16 (jq_w v) else if s = 2 then jq_w v else v
theorem ps_cut : X9_cut o v σ = some (pu_cut (σ o 0) v) := by
  unfold X9_cut pu_cut
  split
  · rfl
  · split
    · rfl
    · split <;> rfl
theorem pm_cut : X11_cut v a σ = some (pu_cut a v) := by
  unfold X11_cut pu_cut
  split
  · rfl
  · split
    · rfl
    · split <;> rfl
theorem ps_why (h : pu_TR σ1 σ2 p) : X10_whyNoNumbers (64 + 2 * p) n c σ1 = some (if σ2 4 p = -1 then 2 else if 0 ≤ n ∧ 0 ≤ c ∧ n ≤ σ2 4 p ∧ c ≤ σ2 4 p - n then 0 else 3) := by
  unfold X10_whyNoNumbers X9_isMissing
  by_cases hz : 64 + 2 * p = -1
  · exact absurd hz (by omega)
  · rw [if_neg hz]
    rcases h with ⟨g1, g2⟩ | ⟨g1, g2, g3, g4, g5, g6, -⟩
    · rw [if_pos g1, if_pos g2]; rfl
    · rw [if_neg (show ¬ σ1 (64 + 2 * p) 0 = -1 by omega), if_neg (show ¬ σ2 4 p = -1 by omega), Option.bind_some, if_pos rfl, ps_spans g6 g4 g5, Option.bind_some, pu_ii]
      by_cases q : 0 ≤ n ∧ 0 ≤ c ∧ n ≤ σ2 4 p ∧ c ≤ σ2 4 p - n
      · rw [pu_if_p q, if_pos q]
      · rw [pu_if_n q, if_neg q]
theorem ps_whyN : X10_whyNoNumbers (-1) n c σ = some 1 := by
  unfold X10_whyNoNumbers
  rw [if_pos rfl]
theorem ps_numberAt {m : Int} (hm : σ o 1 = m) (m1 : m ≤ 60) (n0 : 0 ≤ n) (n1 : n < m) : X9_numberAt o n σ = some (σ (o + 1) n) := by
  unfold X9_numberAt
  rw [ps_spans hm (by omega) m1, Option.bind_some, pu_i_p (by omega), if_neg (by decide), pu_ld n0 (by omega)]
  rfl
theorem pr_tray {σ1 σ2 : jq_M} (h : jq_Rel σ1 σ2) (w1 : jq_wf jq_zX 132 σ1) (w2 : jq_wf jq_zM 18 σ2) (y1 : jq_lay jq_zX σ1) (y2 : jq_lay jq_zM σ2) {p1 p2 p3 : Int} (hp1 : jq_r p1) (hp2 : jq_r p2) (hp3 : jq_r p3) : ∃ (r : Int) (σ1' σ2' : jq_M), X10_tray p1 p2 p3 σ1 = some (r, σ1') ∧ X11_tray p1 p2 p3 σ2 = some (r, σ2') ∧ jq_Rel σ1' σ2' := by
  have hT := fun t (a : 0 ≤ t) (b : t < 4) => pu_TR_of h a b
  unfold X10_tray X11_tray
  by_cases hp : (0 ≤ p1 ∧ p1 ≤ 3) ∧ (0 ≤ p2 ∧ p2 ≤ 3) ∧ 0 ≤ p3 ∧ p3 ≤ 60
  · obtain ⟨⟨a0, a1⟩, ⟨b0, b1⟩, c0, c1⟩ := hp
    have n1 : ¬ ¬ (0 ≤ p1 ∧ p1 ≤ 3) := fun q => q ⟨a0, a1⟩
    have n2 : ¬ ¬ (0 ≤ p2 ∧ p2 ≤ 3) := fun q => q ⟨b0, b1⟩
    have n3 : ¬ ¬ (0 ≤ p3 ∧ p3 ≤ 60) := fun q => q ⟨c0, c1⟩
    have mk : ∃ τ, X9_make (64 + 2 * p1) p2 p3 σ1 = some τ ∧ (∀ k, k ≠ 64 + 2 * p1 → k ≠ 65 + 2 * p1 → τ k = σ1 k) ∧ τ (64 + 2 * p1) 0 = p2 ∧ τ (64 + 2 * p1) 1 = p3 ∧ ∀ j, 0 ≤ j → j < 60 → τ (65 + 2 * p1) j = 0 := by
      unfold X9_make
      simp only [pu_lt]
      refine pu_lpE (f := X9_make_b12 (64 + 2 * p1)) (s := ((0 : Int), jq_st (jq_st σ1 (64 + 2 * p1) 0 p2) (64 + 2 * p1) 1 p3)) (fun i t => t.1 = (i : Int) ∧ (∀ k, k ≠ 65 + 2 * p1 → t.2 k = jq_st (jq_st σ1 (64 + 2 * p1) 0 p2) (64 + 2 * p1) 1 p3 k) ∧ ∀ j, 0 ≤ j → j < t.1 → t.2 (65 + 2 * p1) j = 0) (fun τ => (∀ k, k ≠ 65 + 2 * p1 → τ k = jq_st (jq_st σ1 (64 + 2 * p1) 0 p2) (64 + 2 * p1) 1 p3 k) ∧ ∀ j, 0 ≤ j → j < 60 → τ (65 + 2 * p1) j = 0) 60 ⟨rfl, fun _ _ => rfl, fun j x y => by dsimp only at y; omega⟩ (fun i t ht hi => ?_) (fun e h1 h2 => ⟨e, by rw [h1]; rfl, fun k x y => ?_, ?_, ?_, h2.2⟩)
      · obtain ⟨t1, t2⟩ := t
        obtain ⟨hk, q1, q2⟩ := ht
        dsimp only at hk q1 q2
        have k0 : 0 ≤ t1 := by omega
        unfold X9_make_b12
        dsimp only
        rw [show 64 + 2 * p1 + 1 = 65 + 2 * p1 by omega]
        by_cases hl : t1 < 60
        · rw [if_pos hl, pu_sa k0 hl, Option.bind_some]
          simp only [pu_lt]
          rw [pu_w (by omega) (by omega)]
          refine Or.inr ⟨by omega, _, rfl, by dsimp only; omega, fun k hk => (pu_st_ne hk).trans (q1 k hk), fun j x y => ?_⟩
          dsimp only at y ⊢
          by_cases z : j = t1
          · rw [z, pu_st_a]
          · rw [pu_st_b z]; exact q2 j x (by omega)
        · rw [if_neg hl]
          exact Or.inl ⟨_, rfl, q1, fun j x y => q2 j x (by omega)⟩
      · rw [h2.1 k y, pu_st_ne x, pu_st_ne x]
      · rw [h2.1 _ (by omega), pu_st_b (by omega), pu_st_a]
      · rw [h2.1 _ (by omega), pu_st_a]
    obtain ⟨τ1, m1, m2, m3, m4, m5⟩ := mk
    have rf : ∃ τ, jq_lp (X11_tray_b49 p1 p3) (0, jq_st (jq_st σ2 3 p1 p2) 4 p1 p3) = some τ ∧ (∀ k, k ≠ 5 → τ k = jq_st (jq_st σ2 3 p1 p2) 4 p1 p3 k) ∧ (∀ j, 0 ≤ j → j < p3 → τ 5 (60 * p1 + j) = 0) ∧ ∀ j, ¬ (60 * p1 ≤ j ∧ j < 60 * p1 + 60) → τ 5 j = σ2 5 j := by
      refine pu_lpE (f := X11_tray_b49 p1 p3) (s := ((0 : Int), jq_st (jq_st σ2 3 p1 p2) 4 p1 p3)) (fun i t => t.1 = (i : Int) ∧ (∀ k, k ≠ 5 → t.2 k = jq_st (jq_st σ2 3 p1 p2) 4 p1 p3 k) ∧ (∀ j, 0 ≤ j → j < t.1 → t.2 5 (60 * p1 + j) = 0) ∧ ∀ j, ¬ (60 * p1 ≤ j ∧ j < 60 * p1 + 60) → t.2 5 j = σ2 5 j) (fun τ => (∀ k, k ≠ 5 → τ k = jq_st (jq_st σ2 3 p1 p2) 4 p1 p3 k) ∧ (∀ j, 0 ≤ j → j < p3 → τ 5 (60 * p1 + j) = 0) ∧ ∀ j, ¬ (60 * p1 ≤ j ∧ j < 60 * p1 + 60) → τ 5 j = σ2 5 j) p3.toNat ⟨rfl, fun _ _ => rfl, fun j x y => by dsimp only at y; omega, fun j _ => by dsimp only; rw [pu_st_ne (by omega), pu_st_ne (by omega)]⟩ (fun i t ht hi => ?_) (fun e h1 h2 => ⟨e, h1, h2⟩)
      obtain ⟨t1, t2⟩ := t
      obtain ⟨hk, q1, q2, q3⟩ := ht
      dsimp only at hk q1 q2 q3
      have k0 : 0 ≤ t1 := by omega
      unfold X11_tray_b49
      dsimp only
      by_cases hl : t1 < p3
      · rw [if_pos hl, pu_w (x := 60 * p1) (by omega) (by omega), pu_w (x := 60 * p1 + t1) (by omega) (by omega), pu_sa (by omega) (by omega), Option.bind_some]
        simp only [pu_lt]
        rw [pu_w (by omega) (by omega)]
        refine Or.inr ⟨by omega, _, rfl, by dsimp only; omega, fun k hk => (pu_st_ne hk).trans (q1 k hk), fun j x y => ?_, fun j hj => (pu_st_b (by omega)).trans (q3 j hj)⟩
        dsimp only at y ⊢
        by_cases z : j = t1
        · rw [z, pu_st_a]
        · rw [pu_st_b (by omega)]; exact q2 j x (by omega)
      · rw [if_neg hl]
        exact Or.inl ⟨_, rfl, q1, fun j x y => q2 j x (by omega), q3⟩
    obtain ⟨τ2, r1, r2, r3, r4⟩ := rf
    refine ⟨1, jq_st τ1 0 0 0, jq_st τ2 0 2 0, ?_, ?_, pu_endT h (fun k hk => m2 k (by omega) (by omega)) (fun k x y z => by rw [r2 k z, pu_st_ne y, pu_st_ne x]) (fun t t0 t1 => ?_)⟩
    · simp only [ps_trayAt a0 a1, ps_trnc a0 a1, if_neg (show ¬ 64 + 2 * p1 = -1 by omega), ps_within, Option.bind_some, pu_i_0, if_neg n2, if_neg n3, m1, ps_grant, pu_b2]
    · simp only [pm_isTray, Option.bind_some, pu_i_0, if_neg n1, if_neg (show ¬ p2 < 0 by omega), if_neg (show ¬ 3 < p2 by omega), if_neg (show ¬ p3 < 0 by omega), if_neg (show ¬ 60 < p3 by omega), pu_sa a0 (show p1 < 4 by omega), r1, pm_is, pu_b2]
      rfl
    · unfold pu_TR
      by_cases q : t = p1
      · subst q
        rw [m3, m4, r2 4 (by omega), pu_st_a, r2 3 (by omega), pu_st_ne (by omega), pu_st_a]
        exact Or.inr ⟨b0, b1, rfl, c0, c1, rfl, fun j x y => by rw [m5 j x (by omega), r3 j x y]⟩
      · rw [m2 _ (by omega) (by omega), m2 (65 + 2 * t) (by omega) (by omega), r2 4 (by omega), pu_st_b q, pu_st_ne (by omega), r2 3 (by omega), pu_st_ne (by omega), pu_st_b q]
        rcases hT t t0 t1 with g | ⟨g1, g2, g3, g4, g5, g6, g7⟩
        · exact Or.inl g
        · exact Or.inr ⟨g1, g2, g3, g4, g5, g6, fun j x y => by rw [r4 _ (by omega)]; exact g7 j x y⟩
  · refine pu_no h (r := 0) (v := 1) ?_ ?_
    · simp only [ps_within, Option.bind_some, pu_i_0, X10_tray_j31, ps_deny, pu_b2]
      by_cases q1 : 0 ≤ p1 ∧ p1 ≤ 3
      · rw [ps_trayAt q1.1 q1.2, Option.bind_some, ps_trnc q1.1 q1.2, Option.bind_some, if_neg (show ¬ 64 + 2 * p1 = -1 by omega)]
        by_cases q2 : 0 ≤ p2 ∧ p2 ≤ 3
        · rw [if_neg (fun z => z q2), if_pos (fun z => hp ⟨q1, q2, z⟩)]
        · rw [if_pos q2]
      · rw [ps_trayNo q1, Option.bind_some, ps_trncN, Option.bind_some, if_pos rfl]
    · simp only [pm_isTray, Option.bind_some, pu_i_0, X11_tray_j26, pm_is, pu_b2]
      by_cases q1 : 0 ≤ p1 ∧ p1 ≤ 3
      · rw [if_neg (fun z => z q1)]
        by_cases q2 : p2 < 0
        · rw [if_pos q2]; rfl
        · rw [if_neg q2]
          by_cases q3 : 3 < p2
          · rw [if_pos q3]; rfl
          · rw [if_neg q3]
            by_cases q4 : p3 < 0
            · rw [if_pos q4]; rfl
            · rw [if_neg q4, if_pos (by omega)]; rfl
      · rw [if_pos q1]; rfl
theorem pm_wrong (h : ∀ t, 0 ≤ t → t < 4 → pu_TR σ1 σ2 t) : X11_wrongPlace p n σ2 = some (if 0 ≤ p ∧ p ≤ 3 then if σ2 4 p = -1 then 2 else if 0 ≤ n ∧ n < σ2 4 p then 0 else 3 else 1) := by
  unfold X11_wrongPlace
  rw [pm_isTray, Option.bind_some]
  simp only [pu_i_0]
  by_cases h1 : 0 ≤ p ∧ p ≤ 3
  · rw [if_neg (fun q => q h1), if_pos h1, pu_ld h1.1 (by omega), Option.bind_some]
    by_cases h2 : σ2 4 p = -1
    · rw [if_pos h2, if_pos h2]
    · rw [if_neg h2, if_neg h2, Option.bind_some]
      by_cases h3 : n < 0
      · rw [if_pos h3, if_neg (by omega)]
      · rw [if_neg h3]
        by_cases h4 : n < σ2 4 p
        · rw [if_pos h4, if_pos (by omega)]
        · rw [if_neg h4, if_neg (by omega)]
  · rw [if_pos h1, if_neg h1]
theorem ps_put {m s : Int} (hm : σ o 1 = m) (hs : σ o 0 = s) (m1 : m ≤ 60) (n0 : 0 ≤ n) (n1 : n < m) : X9_put o n v σ = some (jq_st σ (o + 1) n (pu_cut s v)) := by
  unfold X9_put
  rw [ps_spans hm (by omega) m1, Option.bind_some, pu_i_p (by omega), if_neg (by decide), ps_cut, Option.bind_some, pu_sa n0 (by omega), hs]
  rfl
theorem pr_write {σ1 σ2 : jq_M} (h : jq_Rel σ1 σ2) (w1 : jq_wf jq_zX 132 σ1) (w2 : jq_wf jq_zM 18 σ2) (y1 : jq_lay jq_zX σ1) (y2 : jq_lay jq_zM σ2) {p1 p2 p3 : Int} (hp1 : jq_r p1) (hp2 : jq_r p2) (hp3 : jq_rl p3) : ∃ (r : Int) (σ1' σ2' : jq_M), X10_write p1 p2 p3 σ1 = some (r, σ1') ∧ X11_write p1 p2 p3 σ2 = some (r, σ2') ∧ jq_Rel σ1' σ2' := by
  have hT := fun t (a : 0 ≤ t) (b : t < 4) => pu_TR_of h a b
  unfold X10_write X11_write
  have e2 := pm_wrong hT (p := p1) (n := p2)
  by_cases q1 : 0 ≤ p1 ∧ p1 ≤ 3
  · obtain ⟨a0, a1⟩ := q1
    have e1 := ps_why (n := p2) (c := 1) (hT p1 a0 (by omega))
    rw [if_pos ⟨a0, a1⟩] at e2
    rw [ps_trayAt a0 a1, Option.bind_some, ps_trnc a0 a1, Option.bind_some, e1, Option.bind_some, if_neg (show ¬ 64 + 2 * p1 = -1 by omega)]
    rcases hT p1 a0 (by omega) with ⟨g1, g2⟩ | ⟨g1, g2, g3, g4, g5, g6, g7⟩
    · rw [if_pos g2] at e2
      rw [if_pos g2, e2, if_neg (by decide)]
      exact pu_no h rfl rfl
    · rw [if_neg (show ¬ σ2 4 p1 = -1 by omega)] at e2
      rw [if_neg (show ¬ σ2 4 p1 = -1 by omega)]
      by_cases q2 : 0 ≤ p2 ∧ p2 < σ2 4 p1
      · obtain ⟨b0, b1⟩ := q2
        rw [if_pos ⟨b0, b1⟩] at e2
        rw [if_pos (show 0 ≤ p2 ∧ (0 : Int) ≤ 1 ∧ p2 ≤ σ2 4 p1 ∧ 1 ≤ σ2 4 p1 - p2 by omega), if_pos rfl, e2, Option.bind_some, if_pos rfl, ps_put g6 g3 g5 b0 b1, Option.bind_some, pu_ld a0 (by omega), Option.bind_some, pm_cut, Option.bind_some, pu_w (x := 60 * p1) (by omega) (by omega), pu_w (x := 60 * p1 + p2) (by omega) (by omega), pu_sa (by omega) (by omega), Option.bind_some, show 64 + 2 * p1 + 1 = 65 + 2 * p1 by omega]
        refine ⟨1, _, _, rfl, rfl, pu_endT h (fun k hk => pu_st_ne (by omega)) (fun k x y z => pu_st_ne z) (fun t t0 t1 => ?_)⟩
        unfold pu_TR
        rw [pu_st_ne (show 64 + 2 * t ≠ 65 + 2 * p1 by omega), pu_st_ne (show (4 : Int) ≠ 5 by omega), pu_st_ne (show (3 : Int) ≠ 5 by omega)]
        rcases hT t t0 t1 with g | ⟨r1, r2, r3, r4, r5, r6, r7⟩
        · exact Or.inl g
        · refine Or.inr ⟨r1, r2, r3, r4, r5, r6, fun j x y => ?_⟩
          by_cases z : t = p1
          · subst z
            by_cases z2 : j = p2
            · rw [z2, pu_st_a, pu_st_a]
            · rw [pu_st_b z2, pu_st_b (by omega)]; exact r7 j x y
          · rw [pu_st_ne (show 65 + 2 * t ≠ 65 + 2 * p1 by omega), pu_st_b (by omega)]; exact r7 j x y
      · rw [if_neg q2] at e2
        rw [if_neg (show ¬ (0 ≤ p2 ∧ (0 : Int) ≤ 1 ∧ p2 ≤ σ2 4 p1 ∧ 1 ≤ σ2 4 p1 - p2) by omega), if_neg (show ¬ ((3 : Int) = 0) by decide), e2]
        exact pu_no h rfl rfl
  · rw [if_neg q1] at e2
    rw [ps_trayNo q1, Option.bind_some, ps_trncN, Option.bind_some, ps_whyN, Option.bind_some, if_pos rfl, e2]
    exact pu_no h rfl rfl
theorem pr_read {σ1 σ2 : jq_M} (h : jq_Rel σ1 σ2) (w1 : jq_wf jq_zX 132 σ1) (w2 : jq_wf jq_zM 18 σ2) (y1 : jq_lay jq_zX σ1) (y2 : jq_lay jq_zM σ2) {p1 p2 : Int} (hp1 : jq_r p1) (hp2 : jq_r p2) : ∃ (r : Int) (σ1' σ2' : jq_M), X10_read p1 p2 σ1 = some (r, σ1') ∧ X11_read p1 p2 σ2 = some (r, σ2') ∧ jq_Rel σ1' σ2' := by
  have hT := fun t (a : 0 ≤ t) (b : t < 4) => pu_TR_of h a b
  unfold X10_read X11_read
  have e2 := pm_wrong hT (p := p1) (n := p2)
  by_cases q1 : 0 ≤ p1 ∧ p1 ≤ 3
  · obtain ⟨a0, a1⟩ := q1
    have e1 := ps_why (n := p2) (c := 1) (hT p1 a0 (by omega))
    rw [if_pos ⟨a0, a1⟩] at e2
    rw [ps_trayAt a0 a1, Option.bind_some, ps_trnc a0 a1, Option.bind_some, e1, Option.bind_some, if_neg (show ¬ 64 + 2 * p1 = -1 by omega)]
    rcases hT p1 a0 (by omega) with ⟨g1, g2⟩ | ⟨g1, g2, g3, g4, g5, g6, g7⟩
    · rw [if_pos g2] at e2
      rw [if_pos g2, e2, if_neg (by decide)]
      exact pu_no h rfl rfl
    · rw [if_neg (show ¬ σ2 4 p1 = -1 by omega)] at e2
      rw [if_neg (show ¬ σ2 4 p1 = -1 by omega)]
      by_cases q2 : 0 ≤ p2 ∧ p2 < σ2 4 p1
      · obtain ⟨b0, b1⟩ := q2
        rw [if_pos ⟨b0, b1⟩] at e2
        rw [if_pos (show 0 ≤ p2 ∧ (0 : Int) ≤ 1 ∧ p2 ≤ σ2 4 p1 ∧ 1 ≤ σ2 4 p1 - p2 by omega), if_pos rfl, pu_lt, ps_numberAt (m := σ2 4 p1) (by rw [pu_st_ne (by omega)]; exact g6) g5 b0 b1, Option.bind_some, e2, Option.bind_some, pu_lt, pu_st_a, if_neg (by decide), pu_w (x := 60 * p1) (by omega) (by omega), pu_w (x := 60 * p1 + p2) (by omega) (by omega), pu_ld (by omega) (by omega), Option.bind_some, pu_st_ne (by omega), pu_st_ne (by omega), show 64 + 2 * p1 + 1 = 65 + 2 * p1 by omega, g7 p2 b0 b1]
        exact pu_no h rfl rfl
      · rw [if_neg q2] at e2
        rw [if_neg (show ¬ (0 ≤ p2 ∧ (0 : Int) ≤ 1 ∧ p2 ≤ σ2 4 p1 ∧ 1 ≤ σ2 4 p1 - p2) by omega), if_neg (show ¬ ((3 : Int) = 0) by decide), e2]
        exact pu_no h rfl rfl
  · rw [if_neg q1] at e2
    rw [ps_trayNo q1, Option.bind_some, ps_trncN, Option.bind_some, ps_whyN, Option.bind_some, if_pos rfl, e2]
    exact pu_no h rfl rfl
theorem pr_lived {σ1 σ2 : jq_M} (h : jq_Rel σ1 σ2) (w1 : jq_wf jq_zX 132 σ1) (w2 : jq_wf jq_zM 18 σ2) (y1 : jq_lay jq_zX σ1) (y2 : jq_lay jq_zM σ2) {p1 : Int} (hp1 : jq_r p1) : ∃ (r : Int) (σ1' σ2' : jq_M), X10_lived p1 σ1 = some (r, σ1') ∧ X11_lived p1 σ2 = some (r, σ2') ∧ jq_Rel σ1' σ2' := by
  have hL := h.2.2.2.2.2.2.1
  unfold X10_lived X11_lived
  by_cases hp : 0 ≤ p1 ∧ p1 ≤ 4
  · simp only [if_pos (show p1 < 5 by omega), Option.bind_some, pu_lt, hL.1, if_neg (show ¬ p1 < 0 by omega), if_neg (show ¬ 4 < p1 by omega), pu_ld hp.1 (show p1 < 5 by omega), hL.2 p1 hp.1 (by omega)]
    by_cases g : σ2 0 35 = 0
    · rw [if_pos g, if_pos g]
      exact pu_no h rfl rfl
    · rw [if_neg g, if_neg g]
      exact pu_no h rfl rfl
  · refine pu_no h (r := -1) (v := 1) ?_ ?_
    · simp only [X10_lived_j13, ps_refuse, pu_b2]
      by_cases q : p1 < 0
      · rw [if_pos q]
      · rw [if_neg q, if_neg (by omega)]
    · simp only [X11_lived_j9, pm_refuse, pu_b2]
      by_cases q : p1 < 0
      · rw [if_pos q]
      · rw [if_neg q, if_pos (by omega)]
theorem pr_fish {σ1 σ2 : jq_M} (h : jq_Rel σ1 σ2) (w1 : jq_wf jq_zX 132 σ1) (w2 : jq_wf jq_zM 18 σ2) (y1 : jq_lay jq_zX σ1) (y2 : jq_lay jq_zM σ2) : ∃ (r : Int) (σ1' σ2' : jq_M), X10_fish σ1 = some (r, σ1') ∧ X11_fish σ2 = some (r, σ2') ∧ jq_Rel σ1' σ2' := by
  have hI := h.2.2.1.1
  have hC := h.2.2.1.2.1
  have cp := hC.2.1
  have hn : σ1 0 7 = 5 ∨ σ1 0 7 = 25 := by have := h.2.1; omega
  obtain ⟨τ, s1, s2, s3, s4, sw, sa, sg, sf, -⟩ := pm_sn hI
  obtain ⟨υ, u1, u2⟩ := ps_lackOf hI hC (show σ1 0 7 + 3 ≠ σ1 0 7 + 19 by omega) (S := pu_se (σ2 1)) (fun p h0 h1 => (cp p h0 h1).2)
  refine pu_nf h (pu_fr1_19 hn u2) (pu_fr2_9 s2) (r := pu_lack (σ2 1) (pu_se (σ2 1))) (v := 0) ?_ ?_
  · unfold X10_fish
    simp only [pu_lt, u1, pu_b2, ps_answer]
  · unfold X11_fish
    simp only [Option.bind_some, s1, sf, pm_gives, pu_b2]
end
