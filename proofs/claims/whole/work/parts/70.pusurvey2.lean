section
variable {σ σ1 σ2 m1 m2 : jq_M} {o x p : Int} {A S : Int → Int} {c : Nat}
theorem pu_worth_b (hI : pu_inv A) : -180 ≤ pu_worth A S p ∧ pu_worth A S p ≤ 180 := by
  obtain ⟨i0, i1, i2, i3, i4, i5, i6, ip, iq, iw, ia⟩ := hI
  have key : ∀ n : Nat, n ≤ (A 2).toNat → -9 * (n : Int) ≤ pu_fold 0 (fun i : Nat => pu_wst A S p (i : Int)) n ∧ pu_fold 0 (fun i : Nat => pu_wst A S p (i : Int)) n ≤ 9 * (n : Int) := by
    intro n
    induction n with
    | zero => intro _; exact ⟨Int.le_refl 0, Int.le_refl 0⟩
    | succ n ih =>
      intro hn
      rw [pu_fold_s]
      obtain ⟨h1, h2⟩ := ih (by omega)
      obtain ⟨-, -, -, -, e5, e6⟩ := iw n (by omega) (by omega)
      generalize pu_fold 0 (fun i : Nat => pu_wst A S p (i : Int)) n = z at h1 h2
      unfold pu_wst
      by_cases g : A (18 + 4 * (n : Int)) = p ∧ pu_met A S (n : Int)
      · rw [pu_if_p g]
        generalize A (21 + 4 * (n : Int)) = w at e5 e6
        rw [pu_w (x := z + w) (by omega) (by omega)]
        omega
      · rw [pu_if_n g]
        omega
  have := key (A 2).toNat (Nat.le_refl _)
  unfold pu_worth
  omega
theorem pu_all_b (hI : pu_inv A) : -180 ≤ pu_all A S ∧ pu_all A S ≤ 180 := by
  obtain ⟨i0, i1, i2, i3, i4, i5, i6, ip, iq, iw, ia⟩ := hI
  have key : ∀ n : Nat, n ≤ (A 2).toNat → -9 * (n : Int) ≤ pu_fold 0 (fun i : Nat => pu_ast A S (i : Int)) n ∧ pu_fold 0 (fun i : Nat => pu_ast A S (i : Int)) n ≤ 9 * (n : Int) := by
    intro n
    induction n with
    | zero => intro _; exact ⟨Int.le_refl 0, Int.le_refl 0⟩
    | succ n ih =>
      intro hn
      rw [pu_fold_s]
      obtain ⟨h1, h2⟩ := ih (by omega)
      obtain ⟨-, -, -, -, e5, e6⟩ := iw n (by omega) (by omega)
      generalize pu_fold 0 (fun i : Nat => pu_ast A S (i : Int)) n = z at h1 h2
      unfold pu_ast
      by_cases g : pu_met A S (n : Int)
      · rw [pu_if_p g]
        generalize A (21 + 4 * (n : Int)) = w at e5 e6
        rw [pu_w (x := z + w) (by omega) (by omega)]
        omega
      · rw [pu_if_n g]
        omega
  have := key (A 2).toNat (Nat.le_refl _)
  unfold pu_all
  omega
theorem pu_lack_b (hI : pu_inv A) : 0 ≤ pu_lack A S ∧ pu_lack A S ≤ 1150 := by
  have hI0 := hI
  obtain ⟨i0, i1, i2, i3, i4, i5, i6, ip, iq, iw, ia⟩ := hI
  have key : ∀ n : Nat, n ≤ (A 1).toNat → 0 ≤ pu_fold 0 (fun i : Nat => pu_lst A S (i : Int)) n ∧ pu_fold 0 (fun i : Nat => pu_lst A S (i : Int)) n ≤ 230 * (n : Int) := by
    intro n
    induction n with
    | zero => intro _; exact ⟨Int.le_refl 0, Int.le_refl 0⟩
    | succ n ih =>
      intro hn
      rw [pu_fold_s]
      obtain ⟨h1, h2⟩ := ih (by omega)
      obtain ⟨e1, e2, -⟩ := ip n (by omega) (by omega)
      have wb := pu_worth_b hI0 (S := S) (p := (n : Int))
      generalize pu_fold 0 (fun i : Nat => pu_lst A S (i : Int)) n = z at h1 h2
      unfold pu_lst
      generalize pu_worth A S (n : Int) = w at wb
      generalize A (8 + 2 * (n : Int)) = l at e1 e2
      rw [pu_w (x := l - w) (by omega) (by omega)]
      unfold jq_max
      split
      · rw [pu_w (by omega) (by omega)]; omega
      · rw [pu_w (by omega) (by omega)]; omega
  have := key (A 1).toNat (Nat.le_refl _)
  unfold pu_lack
  omega
theorem pu_fal_p : ∀ P, P < 7 → ∀ k, k < 6 → k ≤ P → 0 < pu_fal P k := by decide +kernel
theorem pu_ci_pos (hI : pu_inv A) (h : A 0 ≠ 0) : 0 < pu_ci A (pu_N A) := by
  obtain ⟨i0, i1, -⟩ := hI
  unfold pu_ci pu_N
  rw [if_neg h, pu_cn_all (by omega) (by omega) (by omega) (by omega)]
  exact pu_fal_p _ (by omega) _ (by omega) (by omega)
end
section
variable {σ1 σ2 : jq_M}
theorem pr_mostFor {σ1 σ2 : jq_M} (h : jq_Rel σ1 σ2) (w1 : jq_wf jq_zX 132 σ1) (w2 : jq_wf jq_zM 18 σ2) (y1 : jq_lay jq_zX σ1) (y2 : jq_lay jq_zM σ2) {p1 : Int} (hp1 : jq_r p1) : ∃ (r : Int) (σ1' σ2' : jq_M), X10_mostFor p1 σ1 = some (r, σ1') ∧ X11_mostFor p1 σ2 = some (r, σ2') ∧ jq_Rel σ1' σ2' := by
  have hI := h.2.2.1.1
  have hC := h.2.2.1.2.1
  have hoo : σ1 0 7 = 5 ∨ σ1 0 7 = 25 := by have := h.2.1; omega
  have c2 := hC.1.2.2.1
  have i1 := hI.2.1
  have nb := pu_N_b hI
  unfold X10_mostFor X11_mostFor
  by_cases hp : 0 ≤ p1 ∧ p1 < σ2 1 1
  · have hpn : ¬ ¬ (0 ≤ p1 ∧ p1 < σ2 1 1) := fun q => q hp
    have cp := pu_ci_pos hI (by omega)
    obtain ⟨-, mb⟩ := ps_many hI hC
    obtain ⟨τ, b1, b2, -⟩ := ps_begin (m1 := σ1) hI hC hoo (fun _ _ _ _ _ _ => rfl)
    generalize hM : pu_ci (σ2 1) (pu_N (σ2 1)) = M at b1 mb cp
    have w0 := ps_worthTo hI (pu_v1_C hC hoo b2) (row := 53) (S := fun p => τ 53 p) (p := p1) (fun _ _ _ => rfl)
    obtain ⟨e, e', h1, h2, h3, h4, h5⟩ := pu_enum (f := X8_mostWorthTo_b20 (σ1 0 7) p1 (M : Int)) (g := X11_mostFor_b20 p1) (s := (pu_worth (σ2 1) (fun p => τ 53 p) p1, 0, τ)) (t := (-1000000, 0, σ2)) (pu_N (σ2 1)) (pu_ok (σ2 1)) (fun c s t => (pu_ci (σ2 1) c = 0 ∧ t.1 = -1000000 ∧ s.1 = pu_worth (σ2 1) (fun p => s.2.2 53 p) p1 ∨ 0 < pu_ci (σ2 1) c ∧ s.1 = t.1) ∧ s.2.1 = ((pu_ci (σ2 1) c : Nat) : Int) ∧ t.2.1 = (c : Int) ∧ pu_v1 σ1 (σ1 0 7) (σ2 1) c s.2.2 ∧ pu_v2 σ2 t.2.2) (fun e e' => e.1 = e'.1 ∧ pu_fr1 σ1 e.2 ∧ pu_v2 σ2 e'.2) (fun c s t hc ho hR => by
        obtain ⟨s1, s2, s3⟩ := s
        obtain ⟨t1, t2, t3⟩ := t
        obtain ⟨r1, r4, r5, r6, r7⟩ := hR
        dsimp only at r1 r4 r5 r6 r7
        obtain ⟨⟨ρ, u1, u2⟩, u3, u4⟩ := pu_sv0 hI r5 hc ho r6 r7
        unfold X11_mostFor_b20
        dsimp only
        rw [pm_codes2 hI r7, Option.bind_some, if_pos (show t2 < ((pu_N (σ2 1) : Nat) : Int) by omega), u1, pu_b2, if_pos rfl, pu_lt, pu_w (by omega) (by omega), u4]
        exact ⟨_, rfl, r1, r4, by dsimp only; omega, u3, u2⟩) (fun c s t hc ho hR => by
        obtain ⟨s1, s2, s3⟩ := s
        obtain ⟨t1, t2, t3⟩ := t
        obtain ⟨r1, r4, r5, r6, r7⟩ := hR
        dsimp only at r1 r4 r5 r6 r7
        obtain ⟨w1, ⟨ρ, u1, u2, u3⟩, w2, w3⟩ := pu_sv1 hI hC hoo r5 hc ho r6 r7
        have lt := pu_ci_lt hc ho
        rw [hM] at lt
        have g1 := ps_worthTo hI (pu_v1_C hC hoo r6) (row := 53) (p := p1) (S := pu_sr (pu_cu (σ2 1) c)) w1
        obtain ⟨ω, g3, g4, g5⟩ := w2 s3 (fun k a b c d => rfl)
        have e1 := pu_v2_1 u2
        have gd := pm_worthOf (σ := ρ) (p := p1) (by rw [e1]; exact hI)
        rw [e1, pu_worth_cg hI u3] at gd
        have wb := pu_worth_b hI (S := pu_sr (pu_cu (σ2 1) c)) (p := p1)
        refine Or.inl ?_
        unfold X8_mostWorthTo_b20 X11_mostFor_b20
        dsimp only
        rw [if_pos (show s2 < (M : Int) by omega), g1, Option.bind_some, g3, pm_codes2 hI r7, Option.bind_some, if_pos (show t2 < ((pu_N (σ2 1) : Nat) : Int) by omega), u1, pu_b2, if_neg (show ¬ (1 : Int) = 0 by decide), gd, Option.bind_some]
        simp only [pu_lt, Option.bind_some]
        rw [pu_w (x := s2 + 1) (by omega) (by omega), pu_w (x := t2 + 1) (by omega) (by omega)]
        refine ⟨_, _, rfl, rfl, Or.inr ⟨by omega, ?_⟩, by dsimp only; rw [w3]; omega, by dsimp only; omega, g5, u2⟩
        dsimp only
        rcases r1 with ⟨x1, x2, x3⟩ | ⟨x1, x2⟩
        · rw [x2, x3, pu_worth_cg hI (S := fun p => s3 53 p) (S' := pu_sr (pu_cu (σ2 1) c)) w1]
          generalize pu_worth (σ2 1) (pu_sr (pu_cu (σ2 1) c)) p1 = z at wb
          unfold jq_max
          rw [if_neg (by omega), if_pos (by omega)]
        · rw [x2]) (fun s t hR => by
        obtain ⟨s1, s2, s3⟩ := s
        obtain ⟨t1, t2, t3⟩ := t
        obtain ⟨r1, r4, r5, r6, r7⟩ := hR
        dsimp only at r1 r4 r5 r6 r7
        rw [hM] at r4 r1
        unfold X8_mostWorthTo_b20 X11_mostFor_b20
        dsimp only
        rw [if_neg (show ¬ s2 < (M : Int) by omega), pm_codes2 hI r7, Option.bind_some, if_neg (show ¬ t2 < ((pu_N (σ2 1) : Nat) : Int) by omega)]
        exact ⟨_, _, rfl, rfl, by dsimp only; omega, pu_sfr hoo r6.1, r7⟩) ⟨Or.inl ⟨rfl, rfl, rfl⟩, rfl, rfl, b2, fun _ _ => rfl⟩
    obtain ⟨e1, e2⟩ := e
    obtain ⟨e1', e2'⟩ := e'
    dsimp only at h3 h4 h5
    subst h3
    refine pu_nf h (τ1 := e2) (τ2 := e2') h4 (pu_fr2_9 h5) (r := e1) (v := 0) ?_ ?_
    · unfold X8_mostWorthTo
      simp only [pu_lt, ps_isParty (pu_cP h), c2, Option.bind_some, pu_i_0, if_neg hpn, b1, pu_b2, w0, h1, ps_answer]
    · simp only [pm_isParty, Option.bind_some, pu_i_0, if_neg hpn, h2, pm_gives, pu_b2]
  · refine pu_no h (r := -1) (v := 1) ?_ ?_
    · simp only [pu_lt, ps_isParty (pu_cP h), c2, Option.bind_some, pu_i_0, if_pos hp, ps_refuse, pu_b2]
    · simp only [pm_isParty, Option.bind_some, pu_i_0, if_pos hp, pm_refuse, pu_b2]
theorem pr_leastFish {σ1 σ2 : jq_M} (h : jq_Rel σ1 σ2) (w1 : jq_wf jq_zX 132 σ1) (w2 : jq_wf jq_zM 18 σ2) (y1 : jq_lay jq_zX σ1) (y2 : jq_lay jq_zM σ2) : ∃ (r : Int) (σ1' σ2' : jq_M), X10_leastFish σ1 = some (r, σ1') ∧ X11_leastFish σ2 = some (r, σ2') ∧ jq_Rel σ1' σ2' := by
  have hI := h.2.2.1.1
  have hC := h.2.2.1.2.1
  have hoo : σ1 0 7 = 5 ∨ σ1 0 7 = 25 := by have := h.2.1; omega
  have c2 := hC.1.2.2.1
  have c0 := hC.1.1
  have i1 := hI.2.1
  have nb := pu_N_b hI
  unfold X10_leastFish X11_leastFish
  simp only [pu_lt]
  rw [c0]
  by_cases hp : σ2 1 0 = 0
  · have hN : pu_N (σ2 1) = 0 := by unfold pu_N; rw [if_pos hp]
    have g : jq_lp X11_leastFish_b6 (1000000, 0, σ2) = some (1000000, σ2) := by
      refine jq_lp_inr ?_
      unfold X11_leastFish_b6
      dsimp only
      rw [pm_codes2 hI (fun _ _ => rfl), Option.bind_some, hN, if_neg (by decide)]
    rw [if_pos hp, g, Option.bind_some, if_pos rfl]
    exact pu_no h rfl rfl
  · have cp := pu_ci_pos hI hp
    obtain ⟨-, mb⟩ := ps_many hI hC
    obtain ⟨τ0, b1, b2, -⟩ := ps_begin (m1 := σ1) hI hC hoo (fun _ _ _ _ _ _ => rfl)
    generalize hM : pu_ci (σ2 1) (pu_N (σ2 1)) = M at b1 mb cp
    obtain ⟨τ, w0, w0'⟩ := ps_lackOf hI (pu_v1_C hC hoo b2) (show (53 : Int) ≠ σ1 0 7 + 19 by omega) (S := fun p => τ0 53 p) (fun _ _ _ => rfl)
    have b3 : pu_v1 σ1 (σ1 0 7) (σ2 1) 0 τ := ⟨fun k a b c d e => (w0' k b).trans (b2.1 k a b c d e), fun j hj => by rw [w0' 53 (by omega)]; exact b2.2.1 j hj, b2.2.2⟩
    have t53 : τ 53 = τ0 53 := w0' 53 (by omega)
    obtain ⟨e, e', h1, h2, h3, h4, h5, h6⟩ := pu_enum (f := X8_leastLack_b18 (σ1 0 7) (M : Int)) (g := X11_leastFish_b6) (s := (pu_lack (σ2 1) (fun p => τ0 53 p), 0, τ)) (t := (1000000, 0, σ2)) (pu_N (σ2 1)) (pu_ok (σ2 1)) (fun c s t => (pu_ci (σ2 1) c = 0 ∧ t.1 = 1000000 ∧ s.1 = pu_lack (σ2 1) (fun p => s.2.2 53 p) ∨ 0 < pu_ci (σ2 1) c ∧ s.1 = t.1 ∧ t.1 ≤ 1150) ∧ s.2.1 = ((pu_ci (σ2 1) c : Nat) : Int) ∧ t.2.1 = (c : Int) ∧ pu_v1 σ1 (σ1 0 7) (σ2 1) c s.2.2 ∧ pu_v2 σ2 t.2.2) (fun e e' => (e.1 = e'.1 ∧ e'.1 ≤ 1150) ∧ pu_fr1 σ1 e.2 ∧ pu_v2 σ2 e'.2 ∧ True) (fun c s t hc ho hR => by
        obtain ⟨s1, s2, s3⟩ := s
        obtain ⟨t1, t2, t3⟩ := t
        obtain ⟨r1, r4, r5, r6, r7⟩ := hR
        dsimp only at r1 r4 r5 r6 r7
        obtain ⟨⟨ρ, u1, u2⟩, u3, u4⟩ := pu_sv0 hI r5 hc ho r6 r7
        unfold X11_leastFish_b6
        dsimp only
        rw [pm_codes2 hI r7, Option.bind_some, if_pos (show t2 < ((pu_N (σ2 1) : Nat) : Int) by omega), u1, pu_b2, if_pos rfl, pu_lt, pu_w (by omega) (by omega), u4]
        exact ⟨_, rfl, r1, r4, by dsimp only; omega, u3, u2⟩) (fun c s t hc ho hR => by
        obtain ⟨s1, s2, s3⟩ := s
        obtain ⟨t1, t2, t3⟩ := t
        obtain ⟨r1, r4, r5, r6, r7⟩ := hR
        dsimp only at r1 r4 r5 r6 r7
        obtain ⟨w1, ⟨ρ, u1, u2, u3⟩, w2, w3⟩ := pu_sv1 hI hC hoo r5 hc ho r6 r7
        have lt := pu_ci_lt hc ho
        rw [hM] at lt
        obtain ⟨υ, g1, g2⟩ := ps_lackOf hI (pu_v1_C hC hoo r6) (show (53 : Int) ≠ σ1 0 7 + 19 by omega) (S := pu_sr (pu_cu (σ2 1) c)) w1
        obtain ⟨ω, g3, g4, g5⟩ := w2 υ (fun k a b c d => g2 k a)
        have e1 := pu_v2_1 u2
        have gd := pm_fishing (σ := ρ) (by rw [e1]; exact hI)
        rw [e1, pu_lack_cg hI u3] at gd
        have wb := pu_lack_b hI (S := pu_sr (pu_cu (σ2 1) c))
        refine Or.inl ?_
        unfold X8_leastLack_b18 X11_leastFish_b6
        dsimp only
        rw [if_pos (show s2 < (M : Int) by omega), g1, pu_b2, g3, pm_codes2 hI r7, Option.bind_some, if_pos (show t2 < ((pu_N (σ2 1) : Nat) : Int) by omega), u1, pu_b2, if_neg (show ¬ (1 : Int) = 0 by decide), gd, Option.bind_some]
        simp only [pu_lt, Option.bind_some]
        rw [pu_w (x := s2 + 1) (by omega) (by omega), pu_w (x := t2 + 1) (by omega) (by omega)]
        refine ⟨_, _, rfl, rfl, Or.inr ⟨by omega, ?_, ?_⟩, by dsimp only; rw [w3]; omega, by dsimp only; omega, g5, u2⟩
        · dsimp only
          rcases r1 with ⟨x1, x2, x3⟩ | ⟨x1, x2, x3⟩
          · rw [x2, x3, pu_lack_cg hI (S := fun p => s3 53 p) (S' := pu_sr (pu_cu (σ2 1) c)) w1]
            generalize pu_lack (σ2 1) (pu_sr (pu_cu (σ2 1) c)) = z at wb
            unfold jq_min
            rw [if_neg (by omega), if_pos (by omega)]
          · rw [x2]
        · dsimp only
          generalize pu_lack (σ2 1) (pu_sr (pu_cu (σ2 1) c)) = z at wb
          unfold jq_min
          split <;> omega) (fun s t hR => by
        obtain ⟨s1, s2, s3⟩ := s
        obtain ⟨t1, t2, t3⟩ := t
        obtain ⟨r1, r4, r5, r6, r7⟩ := hR
        dsimp only at r1 r4 r5 r6 r7
        rw [hM] at r4 r1
        unfold X8_leastLack_b18 X11_leastFish_b6
        dsimp only
        rw [if_neg (show ¬ s2 < (M : Int) by omega), pm_codes2 hI r7, Option.bind_some, if_neg (show ¬ t2 < ((pu_N (σ2 1) : Nat) : Int) by omega)]
        exact ⟨_, _, rfl, rfl, ⟨by dsimp only; omega, by dsimp only; omega⟩, pu_sfr hoo r6.1, r7, trivial⟩) ⟨Or.inl ⟨rfl, rfl, by dsimp only; rw [t53]⟩, rfl, rfl, b3, fun _ _ => rfl⟩
    obtain ⟨e1, e2⟩ := e
    obtain ⟨e1', e2'⟩ := e'
    dsimp only at h3 h4 h5
    obtain ⟨h3, h7⟩ := h3
    subst h3
    refine pu_nf h (τ1 := e2) (τ2 := e2') h4 (pu_fr2_9 h5) (r := e1) (v := 0) ?_ ?_
    · unfold X8_leastLack
      rw [if_neg hp]
      simp only [b1, pu_b2, w0, h1, Option.bind_some, ps_answer]
    · rw [h2, Option.bind_some, if_neg (by dsimp only; omega)]
      rfl
theorem pr_goodAt {σ1 σ2 : jq_M} (h : jq_Rel σ1 σ2) (w1 : jq_wf jq_zX 132 σ1) (w2 : jq_wf jq_zM 18 σ2) (y1 : jq_lay jq_zX σ1) (y2 : jq_lay jq_zM σ2) {p1 : Int} (hp1 : jq_r p1) : ∃ (r : Int) (σ1' σ2' : jq_M), X10_goodAt p1 σ1 = some (r, σ1') ∧ X11_goodAt p1 σ2 = some (r, σ2') ∧ jq_Rel σ1' σ2' := by
  have hI := h.2.2.1.1
  have hC := h.2.2.1.2.1
  have hoo : σ1 0 7 = 5 ∨ σ1 0 7 = 25 := by have := h.2.1; omega
  have c2 := hC.1.2.2.1
  have i1 := hI.2.1
  have nb := pu_N_b hI
  unfold X10_goodAt X11_goodAt
  by_cases hp : 0 ≤ p1 ∧ p1 < σ2 1 1
  · have hpn : ¬ ¬ (0 ≤ p1 ∧ p1 < σ2 1 1) := fun q => q hp
    obtain ⟨-, mb⟩ := ps_many hI hC
    obtain ⟨τ, b1, b2, -⟩ := ps_begin (m1 := σ1) hI hC hoo (fun _ _ _ _ _ _ => rfl)
    generalize hM : pu_ci (σ2 1) (pu_N (σ2 1)) = M at b1 mb
    obtain ⟨e, e', h1, h2, h3⟩ := pu_enum (f := X8_findGood_b8 (σ1 0 7) (M : Int)) (g := X11_firstGood_b2) (s := (0, τ)) (t := (0, σ2)) (pu_N (σ2 1)) (pu_ok (σ2 1)) (fun c s t => s.1 = ((pu_ci (σ2 1) c : Nat) : Int) ∧ t.1 = (c : Int) ∧ pu_v1 σ1 (σ1 0 7) (σ2 1) c s.2 ∧ pu_v2 σ2 t.2) (fun e e' => (∃ m m', e = .inr m ∧ e' = .inr m' ∧ pu_fr1 σ1 m ∧ pu_v2 σ2 m') ∨ ∃ m x m', e = .inl m ∧ e' = .inl (x, m') ∧ 0 ≤ x ∧ pu_fr1 σ1 m ∧ pu_v2 σ2 m' ∧ ∀ p, 0 ≤ p → p < σ2 1 1 → m 53 p = m' 9 p) (fun c s t hc ho hR => by
        obtain ⟨s2, s3⟩ := s
        obtain ⟨t2, t3⟩ := t
        obtain ⟨r4, r5, r6, r7⟩ := hR
        dsimp only at r4 r5 r6 r7
        obtain ⟨⟨ρ, u1, u2⟩, u3, u4⟩ := pu_sv0 hI r5 hc ho r6 r7
        unfold X11_firstGood_b2
        dsimp only
        rw [pm_codes2 hI r7, Option.bind_some, if_pos (show t2 < ((pu_N (σ2 1) : Nat) : Int) by omega), u1, pu_b2, if_pos rfl, pu_lt, pu_w (by omega) (by omega), u4]
        exact ⟨_, rfl, r4, by dsimp only; omega, u3, u2⟩) (fun c s t hc ho hR => by
        obtain ⟨s2, s3⟩ := s
        obtain ⟨t2, t3⟩ := t
        obtain ⟨r4, r5, r6, r7⟩ := hR
        dsimp only at r4 r5 r6 r7
        obtain ⟨w1, ⟨ρ, u1, u2, u3⟩, w2, w3⟩ := pu_sv1 hI hC hoo r5 hc ho r6 r7
        have lt := pu_ci_lt hc ho
        rw [hM] at lt
        obtain ⟨υ, g1, g2⟩ := ps_signersOf hI (pu_v1_C hC hoo r6) (show (53 : Int) ≠ σ1 0 7 + 19 by omega) (S := pu_sr (pu_cu (σ2 1) c)) w1
        obtain ⟨ω, g3, g4, g5⟩ := w2 υ (fun k a b c d => g2 k a)
        have e1 := pu_v2_1 u2
        have gd := pm_isGood (σ := ρ) (by rw [e1]; exact hI)
        rw [e1, pu_sg_cg hI u3] at gd
        have al := ps_all (σ := υ) (o := σ1 0 7) (A := σ2 1) (by rw [g2 _ (by omega), r6.1 _ (by omega) (by omega) (by omega) (by omega) (by omega)]; exact c2)
        unfold X8_findGood_b8 X11_firstGood_b2
        dsimp only
        rw [if_pos (show s2 < (M : Int) by omega), g1, pu_b2, al, Option.bind_some, g3, Option.bind_some, pm_codes2 hI r7, Option.bind_some, if_pos (show t2 < ((pu_N (σ2 1) : Nat) : Int) by omega), u1, pu_b2, if_neg (show ¬ (1 : Int) = 0 by decide), gd, Option.bind_some]
        simp only [pu_lt, Option.bind_some]
        rw [pu_w (x := s2 + 1) (by omega) (by omega), pu_w (x := t2 + 1) (by omega) (by omega)]
        by_cases z : pu_sg (σ2 1) (pu_sr (pu_cu (σ2 1) c)) = jq_w (jq_shl 1 (σ2 1 1) - 1)
        · rw [if_pos z, pu_i_p z, if_neg (show ¬ (1 : Int) = 0 by decide)]
          refine Or.inr ⟨_, _, rfl, rfl, Or.inr ⟨_, _, _, rfl, rfl, by omega, ?_, u2, fun p a b => ?_⟩⟩
          · exact pu_sfr hoo (fun k a b c d e => (g2 k b).trans (r6.1 k a b c d e))
          · rw [g2 53 (by omega), w1 p a b, u3 p a b]
        · rw [if_neg z, pu_i_n z, if_pos rfl]
          exact Or.inl ⟨_, _, rfl, rfl, by dsimp only; rw [w3]; omega, by dsimp only; omega, g5, u2⟩) (fun s t hR => by
        obtain ⟨s2, s3⟩ := s
        obtain ⟨t2, t3⟩ := t
        obtain ⟨r4, r5, r6, r7⟩ := hR
        dsimp only at r4 r5 r6 r7
        rw [hM] at r4
        unfold X8_findGood_b8 X11_firstGood_b2
        dsimp only
        rw [if_neg (show ¬ s2 < (M : Int) by omega), pm_codes2 hI r7, Option.bind_some, if_neg (show ¬ t2 < ((pu_N (σ2 1) : Nat) : Int) by omega)]
        exact ⟨_, _, rfl, rfl, Or.inl ⟨_, _, rfl, rfl, pu_sfr hoo r6.1, r7⟩⟩) ⟨rfl, rfl, b2, fun _ _ => rfl⟩
    have q1 : X8_findGood (σ1 0 7) σ1 = (some e).bind (Sum.elim (fun e9 => some (1, e9)) (fun e10 => some (0, e10))) := by
      unfold X8_findGood
      rw [b1, pu_b2, h1]
    have q2 : X11_firstGood σ2 = (some e').bind (Sum.elim (fun e10 => some (e10.1, e10.2)) (fun e11 => some (-1, e11))) := by
      unfold X11_firstGood
      rw [h2]
    simp only [pu_lt, ps_isParty (pu_cP h), c2, Option.bind_some, pu_i_0, if_neg hpn, pm_isParty, q1, q2]
    rcases h3 with ⟨m, m', x1, x2, x3, x4⟩ | ⟨m, x, m', x1, x2, x3, x4, x5, x6⟩
    · rw [x1, x2]
      exact pu_nf h x3 (pu_fr2_9 x4) rfl rfl
    · rw [x1, x2]
      dsimp only [Sum.elim_inl]
      rw [pu_b2, pu_b2, if_neg (by decide), if_neg (by omega), pu_ld hp.1 (by omega), Option.bind_some, pu_ld hp.1 (by omega), Option.bind_some, x6 p1 hp.1 hp.2]
      exact pu_nf h x4 (pu_fr2_9 x5) rfl rfl
  · refine pu_no h (r := -1) (v := 1) ?_ ?_
    · simp only [pu_lt, ps_isParty (pu_cP h), c2, Option.bind_some, pu_i_0, if_pos hp, ps_refuse, pu_b2]
    · simp only [pm_isParty, Option.bind_some, pu_i_0, if_pos hp, pm_refuse, pu_b2]
end
