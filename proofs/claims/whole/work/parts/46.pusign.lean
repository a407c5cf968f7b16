theorem pu_r0 : jq_r 0 := by unfold jq_r; omega
theorem pu_rm1 : jq_r (-1) := by unfold jq_r; omega
theorem pu_lpE {S E : Type} {f : S → Option (S ⊕ E)} {s : S} {G : Prop} (I : Nat → S → Prop) (Q : E → Prop) (n : Nat) (h0 : I 0 s) (h : ∀ i s, I i s → i ≤ n → (∃ e, f s = some (.inr e) ∧ Q e) ∨ (i < n ∧ ∃ s', f s = some (.inl s') ∧ I (i + 1) s')) (k : ∀ e, jq_lp f s = some e → Q e → G) : G := by
  obtain ⟨e, h1, h2⟩ := pu_lp I Q n h h0
  exact k e h1 h2
/-- two loops side by side -/
theorem pu_sim {S T E F : Type} {f : S → Option (S ⊕ E)} {g : T → Option (T ⊕ F)} (R : Nat → S → T → Prop) (Q : E → F → Prop) (n : Nat) (h : ∀ i s t, R i s t → i ≤ n → (∃ e e', f s = some (.inr e) ∧ g t = some (.inr e') ∧ Q e e') ∨ (i < n ∧ ∃ s' t', f s = some (.inl s') ∧ g t = some (.inl t') ∧ R (i + 1) s' t')) {s : S} {t : T} (h0 : R 0 s t) : ∃ e e', jq_lp f s = some e ∧ jq_lp g t = some e' ∧ Q e e' := by
  have key : ∀ k i s t, i + k = n → R i s t → ∃ e e', jq_lp f s = some e ∧ jq_lp g t = some e' ∧ Q e e' := by
    intro k
    induction k with
    | zero =>
      intro i s t hi hI
      rcases h i s t hI (by omega) with ⟨e, e', h1, h2, h3⟩ | ⟨h1, _⟩
      · exact ⟨e, e', jq_lp_inr h1, jq_lp_inr h2, h3⟩
      · omega
    | succ k ih =>
      intro i s t hi hI
      rcases h i s t hI (by omega) with ⟨e, e', h1, h2, h3⟩ | ⟨h1, s', t', h2, h3, h4⟩
      · exact ⟨e, e', jq_lp_inr h1, jq_lp_inr h2, h3⟩
      · obtain ⟨e, e', h5, h6, h7⟩ := ih (i + 1) s' t' (by omega) h4
        exact ⟨e, e', (jq_lp_inl h2).trans h5, (jq_lp_inl h3).trans h6, h7⟩
  exact key n 0 s t (by omega) h0
section
variable {σ : jq_M} {o row p k : Int} {A S S' : Int → Int}
theorem pm_worthOf (hI : pu_inv (σ 1)) : X11_worthOf p σ = some (pu_worth (σ 1) (σ 9) p) := by
  have i2 := hI.2.2.1
  unfold X11_worthOf pu_worth
  rw [pu_forK jq_r id 0 (pu_wst (σ 1) (σ 9) p) (σ 1 2) (by omega) pu_r0 (fun κ s z0 z1 hs => ⟨pm_worthOf_st hI z0 z1 hs, pu_wst_r hs⟩) (fun s _ => ?_)]
  · rfl
  · unfold X11_worthOf_b4
    rw [pu_ld (by omega) (by omega), Option.bind_some, if_neg (by dsimp only; omega)]
    rfl
theorem pu_ast_r {κ s : Int} (hs : jq_r s) : jq_r (pu_ast A S κ s) := by
  unfold pu_ast
  by_cases h : pu_met A S κ
  · rw [pu_if_p h]; exact jq_w_r _
  · rw [pu_if_n h]; exact hs
theorem pm_worthOfAll (hI : pu_inv (σ 1)) : X11_worthOfAll σ = some (pu_all (σ 1) (σ 9)) := by
  have i2 := hI.2.2.1
  unfold X11_worthOfAll pu_all
  rw [pu_forK jq_r id 0 (pu_ast (σ 1) (σ 9)) (σ 1 2) (by omega) pu_r0 (fun κ s z0 z1 hs => ⟨?_, pu_ast_r hs⟩) (fun s _ => ?_)]
  · rfl
  · unfold pu_ast
    unfold X11_worthOfAll_b4
    try dsimp only
    have m := pm_isHad (σ := σ) (k := κ) hI (by omega) (by omega)
    simp (disch := omega) only [if_pos, pu_ld, Option.bind_some, m, pu_lt, pm_wishRow, pu_w (x := κ + 1), pu_w (x := 18 + 4 * κ + 3), pu_ii, pu_w_r0 hs]
    rw [show 18 + 4 * κ + 3 = 21 + 4 * κ by omega]
    by_cases h2 : pu_met (σ 1) (σ 9) κ
    · rw [pu_if_p h2, pu_if_p h2]
    · rw [pu_if_n h2, pu_if_n h2]
  · unfold X11_worthOfAll_b4
    rw [pu_ld (by omega) (by omega), Option.bind_some, if_neg (by dsimp only; omega)]
    rfl
theorem pu_fold_cg {T : Type} {a : T} {f g : Nat → T → T} {n : Nat} (h : ∀ i, i < n → ∀ s, f i s = g i s) : pu_fold a f n = pu_fold a g n := by
  induction n with
  | zero => rfl
  | succ n ih => rw [pu_fold_s, pu_fold_s, ih (fun i hi => h i (by omega)), h n (by omega)]
theorem pu_met_cg (hI : pu_inv A) (hS : ∀ p, 0 ≤ p → p < A 1 → S p = S' p) (k0 : 0 ≤ k) (k1 : k < A 2) : pu_met A S k = pu_met A S' k := by
  obtain ⟨i0, i1, i2, i3, i4, i5, i6, ip, iq, iw, ia⟩ := hI
  obtain ⟨e1, e2, e3, e4⟩ := iw k k0 k1
  unfold pu_met
  rw [hS _ e1 e2]
  rcases e3 with e3 | ⟨e3, e5, e6⟩
  · rw [e3]; simp
  · rw [hS _ e5 e6]
theorem pu_worth_cg (hI : pu_inv A) (hS : ∀ p, 0 ≤ p → p < A 1 → S p = S' p) : pu_worth A S p = pu_worth A S' p := by
  have i2 := hI.2.2.1
  refine pu_fold_cg (fun i hi s => ?_)
  unfold pu_wst
  rw [pu_met_cg hI hS (by omega) (by omega)]
theorem pu_all_cg (hI : pu_inv A) (hS : ∀ p, 0 ≤ p → p < A 1 → S p = S' p) : pu_all A S = pu_all A S' := by
  have i2 := hI.2.2.1
  refine pu_fold_cg (fun i hi s => ?_)
  unfold pu_ast
  rw [pu_met_cg hI hS (by omega) (by omega)]
theorem pu_sg_cg (hI : pu_inv A) (hS : ∀ p, 0 ≤ p → p < A 1 → S p = S' p) : pu_sg A S = pu_sg A S' := by
  refine pu_fold_cg (fun i hi s => ?_)
  unfold pu_sst
  rw [pu_worth_cg hI hS]
theorem pu_lack_cg (hI : pu_inv A) (hS : ∀ p, 0 ≤ p → p < A 1 → S p = S' p) : pu_lack A S = pu_lack A S' := by
  refine pu_fold_cg (fun i hi s => ?_)
  unfold pu_lst
  rw [pu_worth_cg hI hS]
theorem pm_doesSign (hI : pu_inv (σ 1)) (h0 : 0 ≤ p) (h1 : p < 5) : X11_doesSign p σ = some (pu_i (σ 1 (8 + 2 * p) ≤ pu_worth (σ 1) (σ 9) p)) := by
  unfold X11_doesSign
  rw [pm_worthOf hI, Option.bind_some, pm_leastOf h0 h1, Option.bind_some]
  by_cases h : σ 1 (8 + 2 * p) ≤ pu_worth (σ 1) (σ 9) p
  · rw [if_neg (by omega), pu_i_p h]
  · rw [if_pos (by omega), pu_i_n h]
theorem ps_doesSign (hI : pu_inv A) (hC : pu_RC σ o A) (hS : ∀ p, 0 ≤ p → p < A 1 → σ row p = S p) (h0 : 0 ≤ p) (h1 : p < A 1) : X1_doesSign o p row σ = some (pu_i (A (8 + 2 * p) ≤ pu_worth A S p)) := by
  have cp := hC.2.1
  have i1 := hI.2.1
  have c2 : σ o 2 = A 1 := hC.1.2.2.1
  unfold X1_doesSign
  rw [ps_isParty (by omega), Option.bind_some, pu_i_p (show 0 ≤ p ∧ p < σ o 2 by omega), if_neg (show ¬ ((1 : Int) = 0) by decide), ps_worthTo hI hC hS, Option.bind_some, pu_ld (by omega) (by omega), Option.bind_some, (cp p h0 h1).1]
  by_cases h : A (8 + 2 * p) ≤ pu_worth A S p
  · rw [if_neg (by omega), pu_i_p h]
  · rw [if_pos (by omega), pu_i_n h]
theorem pu_sst_r {κ s : Int} (hs : jq_r s) : jq_r (pu_sst A S κ s) := by
  unfold pu_sst
  by_cases h : A (8 + 2 * κ) ≤ pu_worth A S κ
  · rw [pu_if_p h]; exact pu_or_r _ _
  · rw [pu_if_n h]; exact hs
theorem pm_signing (hI : pu_inv (σ 1)) : X11_signing σ = some (pu_sg (σ 1) (σ 9)) := by
  have i1 := hI.2.1
  unfold X11_signing pu_sg
  rw [pu_forK jq_r id 0 (pu_sst (σ 1) (σ 9)) (σ 1 1) (by omega) pu_r0 (fun κ s z0 z1 hs => ⟨?_, pu_sst_r hs⟩) (fun s _ => ?_)]
  · rfl
  · unfold pu_sst
    unfold X11_signing_b4
    try dsimp only
    have m := pm_doesSign (σ := σ) (p := κ) hI (by omega) (by omega)
    simp (disch := omega) only [if_pos, pu_ld, Option.bind_some, m, pu_lt, pu_w (x := κ + 1), pu_ii, pu_or0 hs]
    by_cases h2 : σ 1 (8 + 2 * κ) ≤ pu_worth (σ 1) (σ 9) κ
    · rw [pu_if_p h2, pu_if_p h2]
    · rw [pu_if_n h2, pu_if_n h2]
  · unfold X11_signing_b4
    rw [pu_ld (by omega) (by omega), Option.bind_some, if_neg (by dsimp only; omega)]
    rfl
theorem pm_fishing (hI : pu_inv (σ 1)) : X11_fishing σ = some (pu_lack (σ 1) (σ 9)) := by
  have i1 := hI.2.1
  unfold X11_fishing pu_lack
  rw [pu_forK (fun _ => True) id 0 (pu_lst (σ 1) (σ 9)) (σ 1 1) (by omega) trivial (fun κ s z0 z1 hs => ⟨?_, trivial⟩) (fun s _ => ?_)]
  · rfl
  · unfold pu_lst
    unfold X11_fishing_b4
    try dsimp only
    simp (disch := omega) only [if_pos, pu_ld, Option.bind_some, pm_worthOf hI, pm_leastOf, pu_lt, pu_w (x := κ + 1)]
  · unfold X11_fishing_b4
    rw [pu_ld (by omega) (by omega), Option.bind_some, if_neg (by dsimp only; omega)]
    rfl
theorem pm_seatsNow (hI : pu_inv (σ 1)) : ∃ σ', X11_seatsNow σ = some σ' ∧ (∀ k, k ≠ 9 → σ' k = σ k) ∧ ∀ p, 0 ≤ p → p < σ 1 1 → σ' 9 p = σ 1 (9 + 2 * p) := by
  have i1 := hI.2.1
  unfold X11_seatsNow
  refine pu_lpE (f := X11_seatsNow_b2) (s := ((0 : Int), σ)) (fun i t => t.1 = (i : Int) ∧ (∀ k, k ≠ 9 → t.2 k = σ k) ∧ ∀ p, 0 ≤ p → p < t.1 → t.2 9 p = σ 1 (9 + 2 * p)) (fun e => (∀ k, k ≠ 9 → e k = σ k) ∧ ∀ p, 0 ≤ p → p < σ 1 1 → e 9 p = σ 1 (9 + 2 * p)) (σ 1 1).toNat ⟨rfl, fun _ _ => rfl, fun p h0 h1 => by dsimp only at h1; omega⟩ (fun i t ht hi => ?_) (fun e h1 h2 => ⟨e, by rw [h1]; rfl, h2⟩)
  · obtain ⟨t1, t2⟩ := t
    obtain ⟨hk, q1, q2⟩ := ht
    dsimp only at hk q1 q2
    have q1' : t2 1 = σ 1 := q1 1 (by omega)
    have hk0 : 0 ≤ t1 := by omega
    unfold X11_seatsNow_b2
    dsimp only
    by_cases h : t1 < σ 1 1
    · refine Or.inr ⟨by omega, (t1 + 1, jq_st t2 9 t1 (σ 1 (9 + 2 * t1))), ?_, ?_⟩
      · clear hk hi q2
        simp (disch := omega) only [pu_ld, Option.bind_some, q1', if_pos, pm_seatOf, pu_sa, pu_lt, pu_w]
      · refine ⟨by dsimp only; omega, fun k hk => (pu_st_ne hk).trans (q1 k hk), fun p h0 h1 => ?_⟩
        dsimp only at h1 ⊢
        by_cases hp : p = t1
        · rw [hp, pu_st_a]
        · rw [pu_st_b hp]; exact q2 p h0 (by omega)
    · refine Or.inl ⟨t2, ?_, q1, fun p h0 h1 => q2 p h0 (by omega)⟩
      simp (disch := omega) only [pu_ld, Option.bind_some, q1', if_neg]
theorem ps_weigh (hI : pu_inv A) (hC : pu_RC σ o A) (hr : row ≠ o + 19) (hS : ∀ p, 0 ≤ p → p < A 1 → σ row p = S p) : ∃ σ', X1_weigh o row σ = some σ' ∧ (∀ k, k ≠ o + 19 → σ' k = σ k) ∧ ∀ p, 0 ≤ p → p < A 1 → σ' (o + 19) p = pu_worth A S p := by
  have hI0 := hI
  have hC0 := hC
  obtain ⟨i0, i1, i2, i3, i4, i5, i6, ip, iq, iw, ia⟩ := hI
  obtain ⟨⟨c0, c1, c2, c3, c4, c5, c6⟩, cp, cw, ca⟩ := hC
  unfold X1_weigh
  refine pu_lpE (f := X1_weigh_b2 o) (s := ((0 : Int), σ)) (fun i t => t.1 = (i : Int) ∧ (∀ k, k ≠ o + 19 → t.2 k = σ k) ∧ ∀ p, 0 ≤ p → p < t.1 → t.2 (o + 19) p = 0) (fun e => (∀ k, k ≠ o + 19 → e k = σ k) ∧ ∀ p, 0 ≤ p → p < A 1 → e (o + 19) p = 0) 5 ⟨rfl, fun _ _ => rfl, fun p h0 h1 => by dsimp only at h1; omega⟩ (fun i t ht hi => ?_) ?_
  · obtain ⟨t1, t2⟩ := t
    obtain ⟨hk, q1, q2⟩ := ht
    dsimp only at hk q1 q2
    have q1' : t2 o = σ o := q1 o (by omega)
    have hk0 : 0 ≤ t1 := by omega
    unfold X1_weigh_b2
    dsimp only
    by_cases h : t1 < 5
    · refine Or.inr ⟨by omega, (t1 + 1, jq_st t2 (o + 19) t1 0), ?_, ?_⟩
      · clear hk hi q2
        simp (disch := omega) only [if_pos, Option.bind_some, pu_sa, pu_lt, pu_w]
      · refine ⟨by dsimp only; omega, fun k hk => (pu_st_ne hk).trans (q1 k hk), fun p h0 h1 => ?_⟩
        dsimp only at h1 ⊢
        by_cases hp : p = t1
        · rw [hp, pu_st_a]
        · rw [pu_st_b hp]; exact q2 p h0 (by omega)
    · refine Or.inl ⟨t2, ?_, q1, fun p h0 h1 => q2 p h0 (by omega)⟩
      simp (disch := omega) only [if_neg]
  · rintro e h1 ⟨h2, h3⟩
    rw [h1, Option.bind_some]
    refine pu_lpE (f := X1_weigh_b26 o row) (s := ((0 : Int), e)) (fun i t => t.1 = (i : Int) ∧ (∀ k, k ≠ o + 19 → t.2 k = σ k) ∧ ∀ p, 0 ≤ p → p < A 1 → t.2 (o + 19) p = pu_fold 0 (fun i : Nat => pu_wst A S p (i : Int)) i) (fun e => (∀ k, k ≠ o + 19 → e k = σ k) ∧ ∀ p, 0 ≤ p → p < A 1 → e (o + 19) p = pu_worth A S p) (A 2).toNat ⟨rfl, h2, h3⟩ (fun i t ht hi => ?_) (fun e' g1 g2 => ⟨e', by rw [g1]; rfl, g2⟩)
    · obtain ⟨t1, t2⟩ := t
      obtain ⟨hk, q1, q2⟩ := ht
      dsimp only at hk q1 q2
      have q1' : t2 o = σ o := q1 o (by omega)
      have hk0 : 0 ≤ t1 := by omega
      unfold X1_weigh_b26
      dsimp only
      by_cases h : t1 < A 2
      · refine Or.inr ⟨by omega, (t1 + 1, pu_if (pu_met A S t1) (jq_st t2 (o + 19) (A (18 + 4 * t1)) (jq_w (t2 (o + 19) (A (18 + 4 * t1)) + A (21 + 4 * t1)))) t2), ?_, ?_⟩
        · have m := ps_isMet (σ := t2) (o := o) (row := row) (k := t1) hI0 (hC0.mv (fun k h0 h1 => q1 _ (by omega))) (by rw [q1 row hr]; exact hS) hk0 h
          obtain ⟨d1, d2, d3, d4⟩ := cw t1 hk0 h
          obtain ⟨e1, e2, e3, e4⟩ := iw t1 hk0 h
          have pt := ps_isParty (σ := t2) (o := o) (p := A (18 + 4 * t1)) (by rw [q1', c2]; omega)
          rw [q1', c2, pu_i_p ⟨e1, e2⟩] at pt
          have z4 := q1 (o + 4) (by omega)
          have z7 := q1 (o + 7) (by omega)
          clear hk hi q2 e3
          have n10 : ¬ ((1 : Int) = 0) := by decide
          simp (disch := omega) only [q1', c3, if_pos, m, Option.bind_some, pu_ld, z4, z7, d1, d4, pt, n10, if_false, pu_sa, pu_lt, pu_w (x := t1 + 1), pu_ii]
          by_cases hm : pu_met A S t1
          · rw [pu_if_p hm, pu_if_p hm]
          · rw [pu_if_n hm, pu_if_n hm]
        · refine ⟨by dsimp only; omega, fun k hk => ?_, fun p h0 h1 => ?_⟩
          · dsimp only
            by_cases hm : pu_met A S t1
            · rw [pu_if_p hm, pu_st_ne hk]; exact q1 k hk
            · rw [pu_if_n hm]; exact q1 k hk
          · dsimp only
            rw [pu_fold_s]
            unfold pu_wst
            rw [← hk]
            unfold pu_wst at q2
            rw [← q2 p h0 h1]
            by_cases hm : pu_met A S t1
            · rw [pu_if_p hm]
              by_cases hp : A (18 + 4 * t1) = p
              · rw [pu_if_p ⟨hp, hm⟩, ← hp, pu_st_a]
              · rw [pu_if_n (fun z => hp z.1), pu_st_b (fun z => hp z.symm)]
            · rw [pu_if_n hm, pu_if_n (fun z => hm z.2)]
      · refine Or.inl ⟨t2, ?_, q1, fun p h0 h1 => ?_⟩
        · simp (disch := omega) only [q1', c3, if_neg]
        · rw [q2 p h0 h1]
          unfold pu_worth
          rw [show i = (A 2).toNat by omega]
theorem ps_signersOf (hI : pu_inv A) (hC : pu_RC σ o A) (hr : row ≠ o + 19) (hS : ∀ p, 0 ≤ p → p < A 1 → σ row p = S p) : ∃ σ', X1_signersOf o row σ = some (pu_sg A S, σ') ∧ (∀ k, k ≠ o + 19 → σ' k = σ k) := by
  have i1 := hI.2.1
  obtain ⟨⟨c0, c1, c2, c3, c4, c5, c6⟩, cp, cw, ca⟩ := hC
  obtain ⟨σ', h1, h2, h3⟩ := ps_weigh hI ⟨⟨c0, c1, c2, c3, c4, c5, c6⟩, cp, cw, ca⟩ hr hS
  refine ⟨σ', ?_, h2⟩
  have w0 := h2 o (by omega)
  have w2 := h2 (o + 2) (by omega)
  unfold X1_signersOf pu_sg
  rw [h1, Option.bind_some, pu_forK (fun _ => True) id 0 (pu_sst A S) (A 1) (by omega) trivial (fun κ s z0 z1 _ => ⟨?_, trivial⟩) (fun s _ => ?_)]
  · rfl
  · unfold pu_sst
    unfold X1_signersOf_b9
    try dsimp only
    simp (disch := omega) only [w0, c2, if_pos, pu_ld, Option.bind_some, h3, w2, (cp κ (by omega) (by omega)).1, pu_lt, pu_w (x := κ + 1)]
    by_cases h : A (8 + 2 * κ) ≤ pu_worth A S κ
    · rw [if_neg (by omega), pu_if_p h]
    · rw [if_pos (by omega), pu_if_n h]
  · unfold X1_signersOf_b9
    rw [w0, c2, if_neg (by dsimp only; omega)]
    rfl
theorem ps_lackOf (hI : pu_inv A) (hC : pu_RC σ o A) (hr : row ≠ o + 19) (hS : ∀ p, 0 ≤ p → p < A 1 → σ row p = S p) : ∃ σ', X1_lackOf o row σ = some (pu_lack A S, σ') ∧ (∀ k, k ≠ o + 19 → σ' k = σ k) := by
  have i1 := hI.2.1
  obtain ⟨⟨c0, c1, c2, c3, c4, c5, c6⟩, cp, cw, ca⟩ := hC
  obtain ⟨σ', h1, h2, h3⟩ := ps_weigh hI ⟨⟨c0, c1, c2, c3, c4, c5, c6⟩, cp, cw, ca⟩ hr hS
  refine ⟨σ', ?_, h2⟩
  have w0 := h2 o (by omega)
  have w2 := h2 (o + 2) (by omega)
  unfold X1_lackOf pu_lack
  rw [h1, Option.bind_some, pu_forK (fun _ => True) id 0 (pu_lst A S) (A 1) (by omega) trivial (fun κ s z0 z1 _ => ⟨?_, trivial⟩) (fun s _ => ?_)]
  · rfl
  · unfold pu_lst
    unfold X1_lackOf_b9
    try dsimp only
    simp (disch := omega) only [w0, c2, if_pos, pu_ld, Option.bind_some, h3, w2, (cp κ (by omega) (by omega)).1, pu_lt, pu_w (x := κ + 1)]
  · unfold X1_lackOf_b9
    rw [w0, c2, if_neg (by dsimp only; omega)]
    rfl
end
