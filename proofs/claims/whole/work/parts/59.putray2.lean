section
variable {σ σ1 σ2 τ1 τ2 : jq_M} {o v p n a b c t : Int}
theorem pr_pour {σ1 σ2 : jq_M} (h : jq_Rel σ1 σ2) (w1 : jq_wf jq_zX 132 σ1) (w2 : jq_wf jq_zM 18 σ2) (y1 : jq_lay jq_zX σ1) (y2 : jq_lay jq_zM σ2) {p1 p2 p3 p4 p5 : Int} (hp1 : jq_r p1) (hp2 : jq_r p2) (hp3 : jq_r p3) (hp4 : jq_r p4) (hp5 : jq_r p5) : ∃ (r : Int) (σ1' σ2' : jq_M), X10_pour p1 p2 p3 p4 p5 σ1 = some (r, σ1') ∧ X11_pour p1 p2 p3 p4 p5 σ2 = some (r, σ2') ∧ jq_Rel σ1' σ2' := by
  have hT := fun t (a : 0 ≤ t) (b : t < 4) => pu_TR_of h a b
  unfold X10_pour X11_pour
  by_cases hp : (0 ≤ p1 ∧ p1 ≤ 3) ∧ (0 ≤ p3 ∧ p3 ≤ 3) ∧ 0 ≤ p2 ∧ 0 ≤ p4 ∧ 0 ≤ p5
  · obtain ⟨⟨a0, a1⟩, ⟨b0, b1⟩, c2, c4, c5⟩ := hp
    have n1 : ¬ ¬ (0 ≤ p1 ∧ p1 ≤ 3) := fun q => q ⟨a0, a1⟩
    have n2 : ¬ ¬ (0 ≤ p3 ∧ p3 ≤ 3) := fun q => q ⟨b0, b1⟩
    have c2' := hp2.2
    have c4' := hp4.2
    have c5' := hp5.2
    simp only [ps_trayAt a0 a1, ps_trnc a0 a1, ps_trayAt b0 b1, ps_trnc b0 b1, if_neg (show ¬ 64 + 2 * p1 = -1 by omega), if_neg (show ¬ 64 + 2 * p3 = -1 by omega), pm_isTray, Option.bind_some, pu_i_0, if_neg n1, if_neg n2, if_neg (show ¬ p2 < 0 by omega), if_neg (show ¬ p4 < 0 by omega), if_neg (show ¬ p5 < 0 by omega), pu_ld a0 (show p1 < 4 by omega), pu_ld b0 (show p3 < 4 by omega)]
    rcases hT p1 a0 (by omega) with ⟨g1, g2⟩ | ⟨g1, g2, g3, g4, g5, g6, g7⟩
    · have e1 : X9_isMissing (64 + 2 * p1) σ1 = some 1 := by unfold X9_isMissing; rw [if_pos g1]
      rw [e1, Option.bind_some, if_neg (by decide), if_pos g2]
      exact pu_no h rfl rfl
    · have e1 : X9_isMissing (64 + 2 * p1) σ1 = some 0 := by unfold X9_isMissing; rw [if_neg (by omega)]
      rw [e1, Option.bind_some, if_pos rfl, if_neg (show ¬ σ2 4 p1 = -1 by omega)]
      rcases hT p3 b0 (by omega) with ⟨f1, f2⟩ | ⟨f1, f2, f3, f4, f5, f6, f7⟩
      · have e2 : X9_isMissing (64 + 2 * p3) σ1 = some 1 := by unfold X9_isMissing; rw [if_pos f1]
        rw [e2, Option.bind_some, if_neg (by decide), if_pos f2]
        exact pu_no h rfl rfl
      · have e2 : X9_isMissing (64 + 2 * p3) σ1 = some 0 := by unfold X9_isMissing; rw [if_neg (by omega)]
        rw [e2, Option.bind_some, if_pos rfl, if_neg (show ¬ σ2 4 p3 = -1 by omega), g3, f3]
        by_cases q1 : σ2 3 p1 = σ2 3 p3
        · rw [if_pos q1, if_pos q1, ps_spans g6 g4 g5, Option.bind_some, ps_spans f6 f4 f5, Option.bind_some, pu_w (x := σ2 4 p1 - p2) (by omega) (by omega), pu_w (x := σ2 4 p3 - p4) (by omega) (by omega)]
          by_cases q2 : σ2 4 p1 - p2 < p5
          · rw [if_pos q2, pu_i_n (show ¬ (0 ≤ p2 ∧ 0 ≤ p5 ∧ p2 ≤ σ2 4 p1 ∧ p5 ≤ σ2 4 p1 - p2) by omega), if_pos rfl]
            exact pu_no h rfl rfl
          · rw [if_neg q2, pu_i_p (show 0 ≤ p2 ∧ 0 ≤ p5 ∧ p2 ≤ σ2 4 p1 ∧ p5 ≤ σ2 4 p1 - p2 by omega), if_neg (by decide)]
            by_cases q3 : σ2 4 p3 - p4 < p5
            · rw [if_pos q3, pu_i_n (show ¬ (0 ≤ p4 ∧ 0 ≤ p5 ∧ p4 ≤ σ2 4 p3 ∧ p5 ≤ σ2 4 p3 - p4) by omega), if_pos rfl]
              exact pu_no h rfl rfl
            · rw [if_neg q3, pu_i_p (show 0 ≤ p4 ∧ 0 ≤ p5 ∧ p4 ≤ σ2 4 p3 ∧ p5 ≤ σ2 4 p3 - p4 by omega), if_neg (by decide), pu_cpy c2 c4 c5 (by omega) (by omega), Option.bind_some]
              have lp : ∃ τ, jq_lp (X11_pour_b118 p1 p2 p3 p4 p5) (0, σ2) = some τ ∧ (∀ k, k ≠ 5 → τ k = σ2 k) ∧ (∀ k, 0 ≤ k → k < p5 → τ 5 (60 * p3 + p4 + k) = σ2 5 (60 * p1 + p2 + k)) ∧ ∀ j, ¬ (60 * p3 + p4 ≤ j ∧ j < 60 * p3 + p4 + p5) → τ 5 j = σ2 5 j := by
                refine pu_lpE (f := X11_pour_b118 p1 p2 p3 p4 p5) (s := (0, σ2)) (fun i s => s.1 = (i : Int) ∧ (∀ k, k ≠ 5 → s.2 k = σ2 k) ∧ (∀ k, 0 ≤ k → k < p5 → (p2 < p4 ∧ p5 - s.1 ≤ k ∨ ¬ p2 < p4 ∧ k < s.1) → s.2 5 (60 * p3 + p4 + k) = σ2 5 (60 * p1 + p2 + k)) ∧ ∀ j, (∀ k, 0 ≤ k → k < p5 → (p2 < p4 ∧ p5 - s.1 ≤ k ∨ ¬ p2 < p4 ∧ k < s.1) → j ≠ 60 * p3 + p4 + k) → s.2 5 j = σ2 5 j) (fun τ => (∀ k, k ≠ 5 → τ k = σ2 k) ∧ (∀ k, 0 ≤ k → k < p5 → τ 5 (60 * p3 + p4 + k) = σ2 5 (60 * p1 + p2 + k)) ∧ ∀ j, ¬ (60 * p3 + p4 ≤ j ∧ j < 60 * p3 + p4 + p5) → τ 5 j = σ2 5 j) p5.toNat ⟨rfl, fun _ _ => rfl, fun k x y z => by dsimp only at z; omega, fun _ _ => rfl⟩ (fun i s hs hi => ?_) (fun e h1 h2 => ⟨e, h1, h2⟩)
                obtain ⟨s1, s2⟩ := s
                obtain ⟨hk, r1, r2, r3⟩ := hs
                dsimp only at hk r1 r2 r3
                have k0 : 0 ≤ s1 := by omega
                unfold X11_pour_b118
                dsimp only
                by_cases hl : s1 < p5
                · have st : ∀ κ : Int, 0 ≤ κ → κ < p5 → (p2 < p4 ∧ κ = p5 - 1 - s1 ∨ ¬ p2 < p4 ∧ κ = s1) → X11_pour_j143 p1 p2 p3 p4 p5 s1 κ s2 = some (.inl (s1 + 1, jq_st s2 5 (60 * p3 + p4 + κ) (σ2 5 (60 * p1 + p2 + κ)))) := by
                    intro κ κ0 κ1 hκ
                    unfold X11_pour_j143
                    rw [pu_w (x := 60 * p1) (by omega) (by omega), pu_w (x := 60 * p1 + p2) (by omega) (by omega), pu_w (x := 60 * p1 + p2 + κ) (by omega) (by omega), pu_ld (by omega) (by omega), Option.bind_some, pu_w (x := 60 * p3) (by omega) (by omega), pu_w (x := 60 * p3 + p4) (by omega) (by omega), pu_w (x := 60 * p3 + p4 + κ) (by omega) (by omega), pu_sa (by omega) (by omega), Option.bind_some]
                    simp only [pu_lt]
                    rw [pu_w (by omega) (by omega), r3 (60 * p1 + p2 + κ) (fun k x y z => by omega)]
                  have fin : ∀ κ : Int, 0 ≤ κ → κ < p5 → (p2 < p4 ∧ κ = p5 - 1 - s1 ∨ ¬ p2 < p4 ∧ κ = s1) → ∃ s', some (Sum.inl (s1 + 1, jq_st s2 5 (60 * p3 + p4 + κ) (σ2 5 (60 * p1 + p2 + κ)))) = (some (Sum.inl s') : Option ((Int × jq_M) ⊕ jq_M)) ∧ s'.1 = ((i + 1 : Nat) : Int) ∧ (∀ k, k ≠ 5 → s'.2 k = σ2 k) ∧ (∀ k, 0 ≤ k → k < p5 → (p2 < p4 ∧ p5 - s'.1 ≤ k ∨ ¬ p2 < p4 ∧ k < s'.1) → s'.2 5 (60 * p3 + p4 + k) = σ2 5 (60 * p1 + p2 + k)) ∧ ∀ j, (∀ k, 0 ≤ k → k < p5 → (p2 < p4 ∧ p5 - s'.1 ≤ k ∨ ¬ p2 < p4 ∧ k < s'.1) → j ≠ 60 * p3 + p4 + k) → s'.2 5 j = σ2 5 j := by
                    intro κ κ0 κ1 hκ
                    refine ⟨_, rfl, by dsimp only; omega, fun k hk => (pu_st_ne hk).trans (r1 k hk), fun k x y z => ?_, fun j hj => ?_⟩
                    · dsimp only at z ⊢
                      by_cases w : k = κ
                      · rw [w, pu_st_a]
                      · rw [pu_st_b (by omega)]; exact r2 k x y (by omega)
                    · dsimp only at hj ⊢
                      rw [pu_st_b (hj κ κ0 κ1 (by omega))]
                      exact r3 j (fun k x y z => hj k x y (by omega))
                  rw [if_pos hl]
                  by_cases dr : p2 < p4
                  · rw [if_pos dr, pu_w (x := p5 - 1) (by omega) (by omega), pu_w (x := p5 - 1 - s1) (by omega) (by omega), st (p5 - 1 - s1) (by omega) (by omega) (Or.inl ⟨dr, rfl⟩)]
                    exact Or.inr ⟨by omega, fin (p5 - 1 - s1) (by omega) (by omega) (Or.inl ⟨dr, rfl⟩)⟩
                  · rw [if_neg dr, st s1 k0 hl (Or.inr ⟨dr, rfl⟩)]
                    exact Or.inr ⟨by omega, fin s1 k0 hl (Or.inr ⟨dr, rfl⟩)⟩
                · rw [if_neg hl]
                  exact Or.inl ⟨_, rfl, r1, fun k x y => r2 k x y (by omega), fun j hj => r3 j (fun k x y z => by omega)⟩
              obtain ⟨τ2, l1, l2, l3, l4⟩ := lp
              rw [l1, Option.bind_some, ps_grant, pm_is, pu_b2, pu_b2, show 64 + 2 * p1 + 1 = 65 + 2 * p1 by omega, show 64 + 2 * p3 + 1 = 65 + 2 * p3 by omega]
              refine ⟨1, _, _, rfl, rfl, pu_endT h (fun k hk => pu_cp_ne (by omega)) (fun k x y z => l2 k z) (fun t t0 t1 => ?_)⟩
              unfold pu_TR
              rw [pu_cp_ne (show 64 + 2 * t ≠ 65 + 2 * p3 by omega), l2 4 (by omega), l2 3 (by omega)]
              rcases hT t t0 t1 with g | ⟨r1, r2, r3, r4, r5, r6, r7⟩
              · exact Or.inl g
              · refine Or.inr ⟨r1, r2, r3, r4, r5, r6, fun j x y => ?_⟩
                by_cases z : t = p3
                · subst z
                  rw [pu_cp_k]
                  by_cases w : p4 ≤ j ∧ j < p4 + p5
                  · have l3' := l3 (j - p4) (by omega) (by omega)
                    rw [show 60 * t + p4 + (j - p4) = 60 * t + j by omega] at l3'
                    rw [if_pos w, l3', g7 (p2 + (j - p4)) (by omega) (by omega), show 60 * p1 + (p2 + (j - p4)) = 60 * p1 + p2 + (j - p4) by omega]
                  · rw [if_neg w, l4 _ (by omega)]; exact r7 j x y
                · rw [pu_cp_ne (show 65 + 2 * t ≠ 65 + 2 * p3 by omega), l4 _ (by omega)]; exact r7 j x y
        · rw [if_neg q1, if_neg q1]
          exact pu_no h rfl rfl
  · refine pu_no h (r := 0) (v := 1) ?_ ?_
    · simp only [X10_pour_j38, ps_deny, pu_b2]
      by_cases q1 : 0 ≤ p1 ∧ p1 ≤ 3
      · rw [ps_trayAt q1.1 q1.2, Option.bind_some, ps_trnc q1.1 q1.2, Option.bind_some]
        by_cases q2 : 0 ≤ p3 ∧ p3 ≤ 3
        · rw [ps_trayAt q2.1 q2.2, Option.bind_some, ps_trnc q2.1 q2.2, Option.bind_some, if_neg (show ¬ 64 + 2 * p1 = -1 by omega), if_neg (show ¬ 64 + 2 * p3 = -1 by omega)]
          by_cases q3 : p2 < 0
          · rw [if_pos q3]
          · rw [if_neg q3]
            by_cases q4 : p4 < 0
            · rw [if_pos q4]
            · rw [if_neg q4, if_pos (by omega)]
        · rw [ps_trayNo q2, Option.bind_some, ps_trncN, Option.bind_some, if_neg (show ¬ 64 + 2 * p1 = -1 by omega), if_pos rfl]
      · rw [ps_trayNo q1, Option.bind_some, ps_trncN, Option.bind_some]
        by_cases q2 : 0 ≤ p3 ∧ p3 ≤ 3
        · rw [ps_trayAt q2.1 q2.2, Option.bind_some, ps_trnc q2.1 q2.2, Option.bind_some, if_pos rfl]
        · rw [ps_trayNo q2, Option.bind_some, ps_trncN, Option.bind_some, if_pos rfl]
    · simp only [pm_isTray, Option.bind_some, pu_i_0, X11_pour_j28, pm_is, pu_b2]
      by_cases q1 : 0 ≤ p1 ∧ p1 ≤ 3
      · rw [if_neg (fun z => z q1)]
        by_cases q2 : 0 ≤ p3 ∧ p3 ≤ 3
        · rw [if_neg (fun z => z q2)]
          by_cases q3 : p2 < 0
          · rw [if_pos q3]; rfl
          · rw [if_neg q3]
            by_cases q4 : p4 < 0
            · rw [if_pos q4]; rfl
            · rw [if_neg q4, if_pos (by omega)]; rfl
        · rw [if_pos q2]; rfl
      · rw [if_pos q1]; rfl
theorem pu_w8b (x : Int) : -128 ≤ jq_w8 x ∧ jq_w8 x ≤ 127 := by
  unfold jq_w8
  omega
/-- four bytes behind the tape's -/
def pu_TP (σ1 σ2 : jq_M) : Prop := σ1 2 2 = σ2 0 10 ∧ 0 ≤ σ1 2 2 ∧ ∀ j, 0 ≤ j → j < σ1 2 2 → σ1 4 j = σ2 6 j ∧ -128 ≤ σ1 4 j ∧ σ1 4 j ≤ 127
theorem pa_four (hT : pu_TP σ1 σ2) (hn : σ1 2 2 ≤ 896) : ∃ τ1 τ2, X5_add v σ1 = some τ1 ∧ X11_four v σ2 = some τ2 ∧ pu_TP τ1 τ2 ∧ τ1 2 2 = σ1 2 2 + 4 ∧ (∀ k, k ≠ 2 → k ≠ 4 → τ1 k = σ1 k) ∧ (∀ j, j ≠ 2 → τ1 2 j = σ1 2 j) ∧ (∀ k, k ≠ 0 → k ≠ 6 → τ2 k = σ2 k) ∧ ∀ j, j ≠ 10 → τ2 0 j = σ2 0 j := by
  obtain ⟨T1, T2, T3⟩ := hT
  obtain ⟨e, e', h1, h2, h3, h4, h5, h6, h7, h8⟩ := pu_sim (f := X5_add_b3 v) (g := X11_four_b3 v) (s := (24, σ1)) (t := (24, σ2)) (fun i s t => s.1 = 24 - 8 * (i : Int) ∧ t.1 = s.1 ∧ pu_TP s.2 t.2 ∧ s.2 2 2 = σ1 2 2 + i ∧ (∀ k, k ≠ 2 → k ≠ 4 → s.2 k = σ1 k) ∧ (∀ j, j ≠ 2 → s.2 2 j = σ1 2 j) ∧ (∀ k, k ≠ 0 → k ≠ 6 → t.2 k = σ2 k) ∧ ∀ j, j ≠ 10 → t.2 0 j = σ2 0 j) (fun e e' => pu_TP e e' ∧ e 2 2 = σ1 2 2 + 4 ∧ (∀ k, k ≠ 2 → k ≠ 4 → e k = σ1 k) ∧ (∀ j, j ≠ 2 → e 2 j = σ1 2 j) ∧ (∀ k, k ≠ 0 → k ≠ 6 → e' k = σ2 k) ∧ ∀ j, j ≠ 10 → e' 0 j = σ2 0 j) 4 (fun i s t hR hi => by
    obtain ⟨s1, s2⟩ := s
    obtain ⟨t1, t2⟩ := t
    obtain ⟨r1, r2, ⟨r3, r4, r5⟩, r6, r7, r8, r9, r10⟩ := hR
    dsimp only at r1 r2 r3 r4 r5 r6 r7 r8 r9 r10
    subst r2
    unfold X5_add_b3 X11_four_b3
    dsimp only
    by_cases hl : t1 < 0
    · rw [if_pos hl, if_pos hl]
      exact Or.inl ⟨_, _, rfl, rfl, ⟨r3, r4, r5⟩, by rw [r6]; omega, r7, r8, r9, r10⟩
    · rw [if_neg hl, if_neg hl, if_neg (show ¬ s2 2 2 < 0 by omega), if_pos (show s2 2 2 < 900 by omega), pu_sb (by omega) (by omega), pu_sb (by omega) (by omega), Option.bind_some, Option.bind_some]
      simp only [pu_lt]
      rw [pu_st_ne (show (2 : Int) ≠ 4 by omega), pu_st_ne (show (0 : Int) ≠ 6 by omega), pu_w (x := s2 2 2 + 1) (by omega) (by omega), pu_w (x := t2 0 10 + 1) (by omega) (by omega), pu_w (x := t1 + -8) (by omega) (by omega)]
      refine Or.inr ⟨by omega, _, _, rfl, rfl, by dsimp only; omega, rfl, ⟨?_, ?_, fun j x y => ?_⟩, ?_, fun k x y => ?_, fun j x => ?_, fun k x y => ?_, fun j x => ?_⟩
      · dsimp only; rw [pu_st_a, pu_st_a, r3]
      · dsimp only; rw [pu_st_a]; omega
      · dsimp only at y ⊢
        rw [pu_st_a] at y
        rw [pu_st_ne (show (4 : Int) ≠ 2 by omega), pu_st_ne (show (6 : Int) ≠ 0 by omega)]
        by_cases z : j = s2 2 2
        · rw [z, pu_st_a, r3, pu_st_a]
          exact ⟨rfl, pu_w8b _⟩
        · rw [pu_st_b z, pu_st_b (by omega)]; exact r5 j x (by omega)
      · dsimp only; rw [pu_st_a]; omega
      · dsimp only; rw [pu_st_ne x, pu_st_ne y]; exact r7 k x y
      · dsimp only; rw [pu_st_b x, pu_st_ne (by omega)]; exact r8 j x
      · dsimp only; rw [pu_st_ne x, pu_st_ne y]; exact r9 k x y
      · dsimp only; rw [pu_st_b x, pu_st_ne (by omega)]; exact r10 j x) ⟨by dsimp only; omega, rfl, ⟨T1, T2, T3⟩, by dsimp only; omega, fun _ _ _ => rfl, fun _ _ => rfl, fun _ _ _ => rfl, fun _ _ => rfl⟩
  unfold X5_add X11_four
  rw [h1, h2]
  exact ⟨e, e', rfl, rfl, h3, h4, h5, h6, h7, h8⟩
theorem pr_feed {σ1 σ2 : jq_M} (h : jq_Rel σ1 σ2) (w1 : jq_wf jq_zX 132 σ1) (w2 : jq_wf jq_zM 18 σ2) (y1 : jq_lay jq_zX σ1) (y2 : jq_lay jq_zM σ2) {p1 p2 p3 p4 p5 : Int} (hp1 : jq_r p1) (hp2 : jq_r p2) (hp3 : jq_r p3) (hp4 : jq_r p4) (hp5 : jq_r p5) : ∃ (r : Int) (σ1' σ2' : jq_M), X10_feed p1 p2 p3 p4 p5 σ1 = some (r, σ1') ∧ X11_feed p1 p2 p3 p4 p5 σ2 = some (r, σ2') ∧ jq_Rel σ1' σ2' := by
  have h0 := h
  obtain ⟨⟨e0, e1, e2, e3, e4⟩, hn, hC, ⟨m1, m2, m3, m4⟩, hT, ⟨t1, t2, t3, t4⟩, ⟨l1, l2⟩, hK⟩ := h0
  unfold X10_feed X11_feed
  rw [pu_w (by omega) (by omega), ← t1]
  by_cases g : 880 < σ1 2 2
  · rw [if_pos g, if_pos (by omega)]
    exact ⟨_, _, _, rfl, rfl, h⟩
  · rw [if_neg g, if_neg (by omega)]
    obtain ⟨a1, b1, x1, y1, z1, w1, f1, k1, p1', q1⟩ := pa_four (σ1 := σ1) (σ2 := σ2) (v := p1) ⟨t1, t2, t4⟩ (by omega)
    obtain ⟨a2, b2, x2, y2, z2, w2, f2, k2, p2', q2⟩ := pa_four (v := p2) z1 (by omega)
    obtain ⟨a3, b3, x3, y3, z3, w3, f3, k3, p3', q3⟩ := pa_four (v := p3) z2 (by omega)
    obtain ⟨a4, b4, x4, y4, z4, w4, f4, k4, p4', q4⟩ := pa_four (v := p4) z3 (by omega)
    obtain ⟨a5, b5, x5, y5, z5, w5, f5, k5, p5', q5⟩ := pa_four (v := p5) z4 (by omega)
    rw [x1, y1, Option.bind_some, Option.bind_some, x2, y2, Option.bind_some, Option.bind_some, x3, y3, Option.bind_some, Option.bind_some, x4, y4, Option.bind_some, Option.bind_some, x5, y5, Option.bind_some, Option.bind_some, ← z5.1]
    have F : ∀ k, k ≠ 2 → k ≠ 4 → a5 k = σ1 k := fun k x y => ((((f5 k x y).trans (f4 k x y)).trans (f3 k x y)).trans (f2 k x y)).trans (f1 k x y)
    have P : ∀ k, k ≠ 0 → k ≠ 6 → b5 k = σ2 k := fun k x y => ((((p5' k x y).trans (p4' k x y)).trans (p3' k x y)).trans (p2' k x y)).trans (p1' k x y)
    have Q : ∀ j, j ≠ 10 → b5 0 j = σ2 0 j := fun j x => ((((q5 j x).trans (q4 j x)).trans (q3 j x)).trans (q2 j x)).trans (q1 j x)
    refine ⟨_, _, _, rfl, rfl, ?_⟩
    obtain ⟨z6, z7, z8⟩ := z5
    unfold jq_Rel
    rw [F 0 (by omega) (by omega), F 3 (by omega) (by omega), F 62 (by omega) (by omega), P 1 (by omega) (by omega), P 2 (by omega) (by omega), P 3 (by omega) (by omega), P 4 (by omega) (by omega), P 5 (by omega) (by omega), P 17 (by omega) (by omega), Q 2 (by omega), Q 3 (by omega), Q 4 (by omega), Q 16 (by omega), Q 17 (by omega), Q 36 (by omega), Q 35 (by omega)]
    refine ⟨⟨e0, e1, e2, e3, e4⟩, hn, hC.mv (fun k x y => F _ (by omega) (by omega)), ⟨m1, m2, m3, fun i i0 i1 => (m4 i i0 i1).mv (fun k x y => F _ (by omega) (by omega))⟩, fun t t0 t1 => ?_, ⟨z6, z7, by omega, z8⟩, ⟨l1, l2⟩, hK⟩
    rw [F (64 + 2 * t) (by omega) (by omega), F (65 + 2 * t) (by omega) (by omega)]
    exact hT t t0 t1
end
