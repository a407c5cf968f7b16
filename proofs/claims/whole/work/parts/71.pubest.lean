section
variable {P K : Nat}
theorem pu_sbs_ok (hP : 0 < P) : ∀ m L U (acc r : List Nat), pu_sbs P m L U acc = some r → (∀ x ∈ acc, x < P ∧ U.testBit x = true) → acc.Nodup → (∀ x ∈ r, x < P) ∧ r.Nodup := by
  intro m
  induction m with
  | zero =>
    intro L U acc r h h1 h2
    cases h
    exact ⟨fun x hx => (h1 x hx).1, h2⟩
  | succ m ih =>
    intro L U acc r h h1 h2
    rw [show pu_sbs P (m + 1) L U acc = if U.testBit (L % P) = true then none else pu_sbs P m (L / P) (U ||| 2 ^ (L % P)) (L % P :: acc) from rfl] at h
    by_cases g : U.testBit (L % P) = true
    · rw [if_pos g] at h; cases h
    · rw [if_neg g] at h
      refine ih _ _ _ _ h (fun x hx => ?_) ?_
      · rw [Nat.testBit_or, pu_bit1]
        rcases List.mem_cons.mp hx with rfl | hx
        · exact ⟨Nat.mod_lt _ hP, by simp⟩
        · exact ⟨(h1 x hx).1, by rw [(h1 x hx).2]; rfl⟩
      · refine List.nodup_cons.mpr ⟨fun q => g (h1 _ q).2, h2⟩
theorem pu_row_ok {c : Nat} {r : List Nat} (hP : 0 < P) (h : pu_row P K c = some r) : (∀ i, i < r.length → r.getD i 0 < P) ∧ ∀ i j, i < j → j < r.length → r.getD i 0 ≠ r.getD j 0 := by
  obtain ⟨h1, h2⟩ := pu_sbs_ok hP K c 0 [] r h (fun x hx => by cases hx) List.nodup_nil
  have e : ∀ i (hi : i < r.length), r.getD i 0 = r[i] := fun i hi => by rw [List.getD_eq_getElem?_getD, List.getElem?_eq_getElem hi]; rfl
  refine ⟨fun i hi => ?_, fun i j hij hj => ?_⟩
  · rw [e i hi]; exact h1 _ (List.getElem_mem hi)
  · rw [e i (by omega), e j hj]
    exact (List.pairwise_iff_getElem.mp h2) i j (by omega) hj hij
end
section
variable {σ σ1 σ2 m1 m2 : jq_M} {o x p : Int} {A A' S : Int → Int} {c : Nat}
theorem pu_cu_ok (hI : pu_inv A) (hc : c < pu_N A) (ho : pu_ok A c = true) : ∀ p, 0 ≤ p → p < A 1 → 0 ≤ pu_sr (pu_cu A c) p ∧ pu_sr (pu_cu A c) p < A 0 ∧ ∀ q, p < q → q < A 1 → pu_sr (pu_cu A c) p ≠ pu_sr (pu_cu A c) q := by
  obtain ⟨p3, pc⟩ := pu_N_p hI hc
  obtain ⟨i0, i1, -⟩ := hI
  unfold pu_ok at ho
  obtain ⟨r, hr⟩ : ∃ r, pu_row (A 0).toNat (A 1).toNat c = some r := by
    cases h : pu_row (A 0).toNat (A 1).toNat c with
    | none => rw [h] at ho; cases ho
    | some r => exact ⟨r, rfl⟩
  have ec : pu_cu A c = r := (pu_cur_last (P := (A 0).toNat) (K := (A 1).toNat) (by omega) (by omega) (by omega) (by omega) c (by omega)).2.2 r hr pc
  obtain ⟨h1, h2⟩ := pu_row_ok (by omega) hr
  have hl : ∀ m L U (acc r : List Nat), pu_sbs (A 0).toNat m L U acc = some r → r.length = m + acc.length := by
    intro m
    induction m with
    | zero => intro L U acc r h; cases h; omega
    | succ m ih =>
      intro L U acc r h
      rw [show pu_sbs (A 0).toNat (m + 1) L U acc = if U.testBit (L % (A 0).toNat) = true then none else pu_sbs (A 0).toNat m (L / (A 0).toNat) (U ||| 2 ^ (L % (A 0).toNat)) (L % (A 0).toNat :: acc) from rfl] at h
      split at h
      · cases h
      · have := ih _ _ _ _ h
        rw [List.length_cons] at this
        omega
  have hlen := hl _ _ _ _ _ hr
  rw [List.length_nil] at hlen
  rw [ec]
  intro p p0 p1
  unfold pu_sr
  have := h1 p.toNat (by omega)
  refine ⟨by omega, by omega, fun q q0 q1 e => ?_⟩
  have := h2 p.toNat q.toNat (by omega) (by omega)
  omega
theorem pu_all_cgA (h : ∀ j, ¬ (8 ≤ j ∧ j < 18) → A' j = A j) : pu_all A' S = pu_all A S := by
  unfold pu_all
  rw [h 2 (by omega)]
  refine pu_fold_cg (fun i hi s => ?_)
  unfold pu_ast pu_met pu_bes pu_fac
  rw [h 0 (by omega), h 5 (by omega), h (18 + 4 * (i : Int)) (by omega), h (19 + 4 * (i : Int)) (by omega), h (20 + 4 * (i : Int)) (by omega), h (21 + 4 * (i : Int)) (by omega)]
theorem pa_best (h : jq_Rel σ1 σ2) (hp : σ2 1 0 ≠ 0) : ∃ (v b : Int) (S : Int → Int) (n1 n2 : jq_M), X8_findBest (σ1 0 7) σ1 = some (v, n1) ∧ X11_bestCode σ2 = some (b, n2) ∧ 0 ≤ b ∧ pu_fr1 σ1 n1 ∧ pu_v2 σ2 n2 ∧ v = pu_all (σ2 1) S ∧ (∀ p, 0 ≤ p → p < σ2 1 1 → n1 54 p = S p ∧ n2 9 p = S p) ∧ ∀ p, 0 ≤ p → p < σ2 1 1 → 0 ≤ S p ∧ S p < σ2 1 0 ∧ ∀ q, p < q → q < σ2 1 1 → S p ≠ S q := by
  have hI := h.2.2.1.1
  have hC := h.2.2.1.2.1
  have hoo : σ1 0 7 = 5 ∨ σ1 0 7 = 25 := by have := h.2.1; omega
  have c2 := hC.1.2.2.1
  have i1 := hI.2.1
  have nb := pu_N_b hI
  have cp := pu_ci_pos hI hp
  obtain ⟨-, mb⟩ := ps_many hI hC
  obtain ⟨τ, b1, b2, -⟩ := ps_begin (m1 := σ1) hI hC hoo (fun _ _ _ _ _ _ => rfl)
  generalize hM : pu_ci (σ2 1) (pu_N (σ2 1)) = M at b1 mb cp
  obtain ⟨e, e', h1, h2, ⟨b, h3, h3b, h3c⟩, h4, h5, h6, h7⟩ := pu_enum (f := X8_findBest_b11 (σ1 0 7) (M : Int)) (g := X11_bestCode_b6) (s := (0, 0, τ)) (t := (-1, 0, 0, σ2)) (pu_N (σ2 1)) (pu_ok (σ2 1)) (fun c s t => (pu_ci (σ2 1) c = 0 ∧ t.1 = -1 ∨ 0 < pu_ci (σ2 1) c ∧ ∃ b : Nat, t.1 = (b : Int) ∧ b < pu_N (σ2 1) ∧ pu_ok (σ2 1) b = true ∧ s.1 = pu_all (σ2 1) (pu_sr (pu_cu (σ2 1) b)) ∧ t.2.1 = s.1 ∧ ∀ p, 0 ≤ p → p < σ2 1 1 → s.2.2 54 p = pu_sr (pu_cu (σ2 1) b) p) ∧ s.2.1 = ((pu_ci (σ2 1) c : Nat) : Int) ∧ t.2.2.1 = (c : Int) ∧ pu_v1 σ1 (σ1 0 7) (σ2 1) c s.2.2 ∧ pu_v2 σ2 t.2.2.2) (fun e e' => (∃ b : Nat, e'.1 = (b : Int) ∧ b < pu_N (σ2 1) ∧ pu_ok (σ2 1) b = true ∧ e.1 = pu_all (σ2 1) (pu_sr (pu_cu (σ2 1) b)) ∧ ∀ p, 0 ≤ p → p < σ2 1 1 → e.2 54 p = pu_sr (pu_cu (σ2 1) b) p) ∧ pu_fr1 σ1 e.2 ∧ pu_v2 σ2 e'.2 ∧ True ∧ True) (fun c s t hc ho hR => by
      obtain ⟨s1, s2, s3⟩ := s
      obtain ⟨t1, t1', t2, t3⟩ := t
      obtain ⟨r1, r4, r5, r6, r7⟩ := hR
      dsimp only at r1 r4 r5 r6 r7
      obtain ⟨⟨ρ, u1, u2⟩, u3, u4⟩ := pu_sv0 hI r5 hc ho r6 r7
      unfold X11_bestCode_b6
      dsimp only
      rw [pm_codes2 hI r7, Option.bind_some, if_pos (show t2 < ((pu_N (σ2 1) : Nat) : Int) by omega), u1, pu_b2, if_pos rfl, pu_lt, pu_w (by omega) (by omega), u4]
      exact ⟨_, rfl, r1, r4, by dsimp only; omega, u3, u2⟩) (fun c s t hc ho hR => by
      obtain ⟨s1, s2, s3⟩ := s
      obtain ⟨t1, t1', t2, t3⟩ := t
      obtain ⟨r1, r4, r5, r6, r7⟩ := hR
      dsimp only at r1 r4 r5 r6 r7
      obtain ⟨w1, ⟨ρ, u1, u2, u3⟩, w2, w3⟩ := pu_sv1 hI hC hoo r5 hc ho r6 r7
      have lt := pu_ci_lt hc ho
      rw [hM] at lt
      have g1 := ps_worthOfAll hI (pu_v1_C hC hoo r6) (row := 53) (S := pu_sr (pu_cu (σ2 1) c)) w1
      have e1 := pu_v2_1 u2
      have gd := pm_worthOfAll (σ := ρ) (by rw [e1]; exact hI)
      rw [e1, pu_all_cg hI u3] at gd
      refine Or.inl ?_
      -- this one is taken
      have take : X11_bestCode_b6 (t1, t1', t2, t3) = X11_bestCode_j38 t2 ρ → X8_findBest_b11 (σ1 0 7) (M : Int) (s1, s2, s3) = X8_findBest_j38 (σ1 0 7) (M : Int) s2 (pu_all (σ2 1) (pu_sr (pu_cu (σ2 1) c))) s3 → ∃ s' t', X8_findBest_b11 (σ1 0 7) (M : Int) (s1, s2, s3) = some (.inl s') ∧ X11_bestCode_b6 (t1, t1', t2, t3) = some (.inl t') ∧ (pu_ci (σ2 1) (c + 1) = 0 ∧ t'.1 = -1 ∨ 0 < pu_ci (σ2 1) (c + 1) ∧ ∃ b : Nat, t'.1 = (b : Int) ∧ b < pu_N (σ2 1) ∧ pu_ok (σ2 1) b = true ∧ s'.1 = pu_all (σ2 1) (pu_sr (pu_cu (σ2 1) b)) ∧ t'.2.1 = s'.1 ∧ ∀ p, 0 ≤ p → p < σ2 1 1 → s'.2.2 54 p = pu_sr (pu_cu (σ2 1) b) p) ∧ s'.2.1 = ((pu_ci (σ2 1) (c + 1) : Nat) : Int) ∧ t'.2.2.1 = ((c + 1 : Nat) : Int) ∧ pu_v1 σ1 (σ1 0 7) (σ2 1) (c + 1) s'.2.2 ∧ pu_v2 σ2 t'.2.2.2 := by
        intro q1 q2
        obtain ⟨ω, g3, g4, g5⟩ := w2 (jq_cp s3 53 0 54 0 5) (fun k a b c d => pu_cp_ne b)
        rw [q1, q2]
        unfold X8_findBest_j38 X8_findBest_j55 X11_bestCode_j38
        rw [pu_cpn (by omega) (by omega), Option.bind_some, g3, Option.bind_some, gd, Option.bind_some]
        simp only [pu_lt]
        rw [pu_w (x := s2 + 1) (by omega) (by omega), pu_w (x := t2 + 1) (by omega) (by omega)]
        refine ⟨_, _, rfl, rfl, Or.inr ⟨by omega, c, r5, hc, ho, rfl, rfl, fun p a b => ?_⟩, by dsimp only; rw [w3]; omega, by dsimp only; omega, g5, u2⟩
        dsimp only
        rw [g4 54 (by omega), pu_cp0 a (by omega), w1 p a b]
      by_cases z0 : s2 = 0
      · refine take ?_ ?_
        · unfold X11_bestCode_b6
          dsimp only
          rw [pm_codes2 hI r7, Option.bind_some, if_pos (show t2 < ((pu_N (σ2 1) : Nat) : Int) by omega), u1, pu_b2, if_neg (show ¬ (1 : Int) = 0 by decide), if_pos (by omega)]
        · unfold X8_findBest_b11
          dsimp only
          rw [if_pos (show s2 < (M : Int) by omega), g1, Option.bind_some, if_pos z0]
      · obtain ⟨x1, b, x2, x3, x4, x5, x6, x7⟩ := r1.resolve_left (fun q => by omega)
        by_cases z1 : s1 < pu_all (σ2 1) (pu_sr (pu_cu (σ2 1) c))
        · refine take ?_ ?_
          · unfold X11_bestCode_b6
            dsimp only
            rw [pm_codes2 hI r7, Option.bind_some, if_pos (show t2 < ((pu_N (σ2 1) : Nat) : Int) by omega), u1, pu_b2, if_neg (show ¬ (1 : Int) = 0 by decide), if_neg (show ¬ t1 = -1 by omega), gd, Option.bind_some, if_pos (by omega)]
          · unfold X8_findBest_b11
            dsimp only
            rw [if_pos (show s2 < (M : Int) by omega), g1, Option.bind_some, if_neg z0, if_pos z1]
        · obtain ⟨ω, g3, g4, g5⟩ := w2 s3 (fun k a b c d => rfl)
          unfold X8_findBest_b11 X8_findBest_j55 X11_bestCode_b6
          dsimp only
          rw [if_pos (show s2 < (M : Int) by omega), g1, Option.bind_some, if_neg z0, if_neg z1, g3, Option.bind_some, pm_codes2 hI r7, Option.bind_some, if_pos (show t2 < ((pu_N (σ2 1) : Nat) : Int) by omega), u1, pu_b2, if_neg (show ¬ (1 : Int) = 0 by decide), if_neg (show ¬ t1 = -1 by omega), gd, Option.bind_some, if_neg (by omega)]
          simp only [pu_lt]
          rw [pu_w (x := s2 + 1) (by omega) (by omega), pu_w (x := t2 + 1) (by omega) (by omega)]
          refine ⟨_, _, rfl, rfl, Or.inr ⟨by omega, b, x2, x3, x4, x5, x6, fun p a b => ?_⟩, by dsimp only; rw [w3]; omega, by dsimp only; omega, g5, u2⟩
          dsimp only
          rw [g4 54 (by omega)]
          exact x7 p a b) (fun s t hR => by
      obtain ⟨s1, s2, s3⟩ := s
      obtain ⟨t1, t1', t2, t3⟩ := t
      obtain ⟨r1, r4, r5, r6, r7⟩ := hR
      dsimp only at r1 r4 r5 r6 r7
      rw [hM] at r4 r1
      obtain ⟨x1, b, x2, x3, x4, x5, x6, x7⟩ := r1.resolve_left (fun q => by omega)
      unfold X8_findBest_b11 X11_bestCode_b6
      dsimp only
      rw [if_neg (show ¬ s2 < (M : Int) by omega), pm_codes2 hI r7, Option.bind_some, if_neg (show ¬ t2 < ((pu_N (σ2 1) : Nat) : Int) by omega)]
      exact ⟨_, _, rfl, rfl, ⟨b, x2, x3, x4, x5, x7⟩, pu_sfr hoo r6.1, r7, trivial, trivial⟩) ⟨Or.inl ⟨rfl, rfl⟩, rfl, rfl, b2, fun _ _ => rfl⟩
  obtain ⟨e1, e2⟩ := e
  obtain ⟨e1', e2'⟩ := e'
  dsimp only at h3 h3c h4 h5
  obtain ⟨hok, hv, h54⟩ := h3c
  obtain ⟨p3, pc⟩ := pu_N_p hI h3b
  have f1 := pu_v2_1 h5
  have hr : ∃ r, pu_row (σ2 1 0).toNat (σ2 1 1).toNat b = some r := by
    unfold pu_ok at hok
    cases h : pu_row (σ2 1 0).toNat (σ2 1 1).toNat b with
    | none => rw [h] at hok; cases hok
    | some r => exact ⟨r, rfl⟩
  obtain ⟨r, hr⟩ := hr
  have ec : pu_cu (σ2 1) b = r := (pu_cur_last (P := (σ2 1 0).toNat) (K := (σ2 1 1).toNat) (by omega) (by have := hI.1; omega) (by omega) (by omega) b (by omega)).2.2 r hr pc
  have sb : ∃ ρ, X11_seatsBy e1' e2' = some (1, ρ) ∧ pu_v2 σ2 ρ ∧ ∀ p, 0 ≤ p → p < σ2 1 1 → ρ 9 p = pu_sr (pu_cu (σ2 1) b) p := by
    rcases pm_seatsBy (σ := e2') (x := e1') (c := b) (by rw [f1]; exact hI) (by rw [f1]; omega) h3 (by omega) with ⟨g0, -⟩ | ⟨r', ρ, g1, g2, g3, g4, g5⟩
    · rw [f1, hr] at g0; cases g0
    · rw [f1, hr] at g1
      cases g1
      rw [f1] at g5
      refine ⟨ρ, g2, fun k hk => (g3 k hk).trans (h5 k hk), ?_⟩
      rw [ec]
      exact pu_rw_s g4 g5
  obtain ⟨ρ, q1, q2, q3⟩ := sb
  refine ⟨e1, e1', pu_sr (pu_cu (σ2 1) b), e2, ρ, ?_, ?_, by omega, h4, q2, hv, fun p a b => ⟨h54 p a b, q3 p a b⟩, pu_cu_ok hI h3b hok⟩
  · unfold X8_findBest
    rw [b1, pu_b2, h1]
    rfl
  · unfold X11_bestCode
    rw [h2, Option.bind_some]
    dsimp only
    rw [if_neg (by omega), q1]
    rfl
theorem pm_bestNone (hI : pu_inv (σ2 1)) (hp : σ2 1 0 = 0) : X11_bestCode σ2 = some (-1, σ2) := by
  have hN : pu_N (σ2 1) = 0 := by unfold pu_N; rw [if_pos hp]
  have g : jq_lp X11_bestCode_b6 (-1, 0, 0, σ2) = some (-1, σ2) := by
    refine jq_lp_inr ?_
    unfold X11_bestCode_b6
    dsimp only
    rw [pm_codes2 hI (fun _ _ => rfl), Option.bind_some, hN, if_neg (by decide)]
  unfold X11_bestCode
  rw [g]
  rfl
end
section
variable {σ1 σ2 : jq_M}
theorem pr_best {σ1 σ2 : jq_M} (h : jq_Rel σ1 σ2) (w1 : jq_wf jq_zX 132 σ1) (w2 : jq_wf jq_zM 18 σ2) (y1 : jq_lay jq_zX σ1) (y2 : jq_lay jq_zM σ2) : ∃ (r : Int) (σ1' σ2' : jq_M), X10_best σ1 = some (r, σ1') ∧ X11_best σ2 = some (r, σ2') ∧ jq_Rel σ1' σ2' := by
  have hI := h.2.2.1.1
  have c0 := h.2.2.1.2.1.1.1
  unfold X10_best X11_best
  simp only [pu_lt]
  rw [c0]
  by_cases hp : σ2 1 0 = 0
  · rw [if_pos hp, pm_bestNone hI hp, pu_b2, if_pos rfl]
    exact pu_no h rfl rfl
  · obtain ⟨v, b, S, n1, n2, h1, h2, h3, h4, h5, h6, h7, h8⟩ := pa_best h hp
    have e1 := pu_v2_1 h5
    have gd := pm_worthOfAll (σ := n2) (by rw [e1]; exact hI)
    rw [e1, pu_all_cg hI (S' := S) (fun p x y => (h7 p x y).2), ← h6] at gd
    rw [if_neg hp, h1, h2, pu_b2, pu_b2, if_neg (by omega), gd]
    exact pu_nf h h4 (pu_fr2_9 h5) rfl rfl
theorem pr_bestAt {σ1 σ2 : jq_M} (h : jq_Rel σ1 σ2) (w1 : jq_wf jq_zX 132 σ1) (w2 : jq_wf jq_zM 18 σ2) (y1 : jq_lay jq_zX σ1) (y2 : jq_lay jq_zM σ2) {p1 : Int} (hp1 : jq_r p1) : ∃ (r : Int) (σ1' σ2' : jq_M), X10_bestAt p1 σ1 = some (r, σ1') ∧ X11_bestAt p1 σ2 = some (r, σ2') ∧ jq_Rel σ1' σ2' := by
  have hI := h.2.2.1.1
  have c2 := h.2.2.1.2.1.1.2.2.1
  have i1 := hI.2.1
  unfold X10_bestAt X11_bestAt
  by_cases hp : 0 ≤ p1 ∧ p1 < σ2 1 1
  · have hpn : ¬ ¬ (0 ≤ p1 ∧ p1 < σ2 1 1) := fun q => q hp
    obtain ⟨v, b, S, n1, n2, h1, h2, h3, h4, h5, h6, h7, h8⟩ := pa_best h (by omega)
    refine pu_nf h h4 (pu_fr2_9 h5) (r := S p1) (v := 0) ?_ ?_
    · simp only [pu_lt, ps_isParty (pu_cP h), c2, Option.bind_some, pu_i_0, if_neg hpn, h1, pu_b2, pu_ld hp.1 (show p1 < 5 by omega), (h7 p1 hp.1 hp.2).1, ps_answer]
    · simp only [pm_isParty, Option.bind_some, pu_i_0, if_neg hpn, h2, pu_b2, pu_ld hp.1 (show p1 < 5 by omega), (h7 p1 hp.1 hp.2).2, pm_gives]
  · refine pu_no h (r := -1) (v := 1) ?_ ?_
    · simp only [pu_lt, ps_isParty (pu_cP h), c2, Option.bind_some, pu_i_0, if_pos hp, ps_refuse, pu_b2]
    · simp only [pm_isParty, Option.bind_some, pu_i_0, if_pos hp, pm_refuse, pu_b2]
theorem pr_seatBest {σ1 σ2 : jq_M} (h : jq_Rel σ1 σ2) (w1 : jq_wf jq_zX 132 σ1) (w2 : jq_wf jq_zM 18 σ2) (y1 : jq_lay jq_zX σ1) (y2 : jq_lay jq_zM σ2) : ∃ (r : Int) (σ1' σ2' : jq_M), X10_seatBest σ1 = some (r, σ1') ∧ X11_seatBest σ2 = some (r, σ2') ∧ jq_Rel σ1' σ2' := by
  have hI := h.2.2.1.1
  have hn : σ1 0 7 = 5 ∨ σ1 0 7 = 25 := by have := h.2.1; omega
  have c0 := h.2.2.1.2.1.1.1
  have c2 := h.2.2.1.2.1.1.2.2.1
  have i1 := hI.2.1
  have hD := h.2.2.1.2.2.2.2
  have hK : pu_K σ1 (σ1 0 7) σ2 := ⟨h.2.2.1.1, h.2.2.1.2.1⟩
  unfold X10_seatBest X11_seatBest
  simp only [pu_lt]
  rw [c0]
  by_cases hp : σ2 1 0 = 0
  · rw [if_pos hp, pm_bestNone hI hp, pu_b2, if_pos rfl]
    exact pu_no h rfl rfl
  · obtain ⟨v, b, S, n1, n2, h1, h2, h3, h4, h5, h6, h7, h8⟩ := pa_best h hp
    have e1 := pu_v2_1 h5
    have z0 : n1 0 = σ1 0 := h4 0 (by unfold pu_scr; omega)
    have zc : n1 (σ1 0 7) = σ1 (σ1 0 7) := h4 _ (by unfold pu_scr; omega)
    have lp : ∃ τ, jq_lp X11_seatBest_b17 (0, n2) = some τ ∧ (∀ k, k ≠ 1 → τ k = n2 k) ∧ (∀ p, 0 ≤ p → p < σ2 1 1 → τ 1 (9 + 2 * p) = S p) ∧ ∀ j, (∀ p, 0 ≤ p → p < σ2 1 1 → j ≠ 9 + 2 * p) → τ 1 j = σ2 1 j := by
      refine pu_lpE (f := X11_seatBest_b17) (s := (0, n2)) (fun i s => s.1 = (i : Int) ∧ (∀ k, k ≠ 1 → s.2 k = n2 k) ∧ (∀ p, 0 ≤ p → p < s.1 → s.2 1 (9 + 2 * p) = S p) ∧ ∀ j, (∀ p, 0 ≤ p → p < s.1 → j ≠ 9 + 2 * p) → s.2 1 j = σ2 1 j) (fun τ => (∀ k, k ≠ 1 → τ k = n2 k) ∧ (∀ p, 0 ≤ p → p < σ2 1 1 → τ 1 (9 + 2 * p) = S p) ∧ ∀ j, (∀ p, 0 ≤ p → p < σ2 1 1 → j ≠ 9 + 2 * p) → τ 1 j = σ2 1 j) (σ2 1 1).toNat ⟨rfl, fun _ _ => rfl, fun p x y => by dsimp only at y; omega, fun _ _ => by dsimp only; rw [e1]⟩ (fun i s hs hi => ?_) (fun e h1 h2 => ⟨e, h1, h2⟩)
      obtain ⟨s1, s2⟩ := s
      obtain ⟨hk, r1, r2, r3⟩ := hs
      dsimp only at hk r1 r2 r3
      have k0 : 0 ≤ s1 := by omega
      have w1 : s2 1 1 = σ2 1 1 := r3 1 (fun p a b => by omega)
      have w9 : s2 9 = n2 9 := r1 9 (by omega)
      unfold X11_seatBest_b17
      dsimp only
      rw [pu_ld (by omega) (by omega), Option.bind_some, w1]
      by_cases hl : s1 < σ2 1 1
      · rw [if_pos hl, pm_partyRow k0 (by omega), Option.bind_some, pu_ld k0 (by omega), Option.bind_some, w9, (h7 s1 k0 hl).2, pu_w (x := 8 + 2 * s1 + 1) (by omega) (by omega), pu_sa (by omega) (by omega), Option.bind_some, pu_lt, pu_w (by omega) (by omega), show 8 + 2 * s1 + 1 = 9 + 2 * s1 by omega]
        refine Or.inr ⟨by omega, _, rfl, by dsimp only; omega, fun k hk => (pu_st_ne hk).trans (r1 k hk), fun p x y => ?_, fun j hj => ?_⟩
        · dsimp only at y ⊢
          by_cases z : p = s1
          · rw [z, pu_st_a]
          · rw [pu_st_b (by omega)]; exact r2 p x (by omega)
        · dsimp only at hj ⊢
          rw [pu_st_b (hj s1 k0 (by omega))]; exact r3 j (fun p x y => hj p x (by omega))
      · rw [if_neg hl]
        exact Or.inl ⟨_, rfl, r1, fun p x y => r2 p x (by omega), fun j hj => r3 j (fun p x y => hj p x (by omega))⟩
    obtain ⟨τ2, l1, l2, l3, l4⟩ := lp
    have hK2 : pu_K n1 (σ1 0 7) σ2 := hK.mv (fun k x y => h4 _ (by unfold pu_scr; omega)) rfl
    have kk : pu_K (jq_cp n1 54 0 (σ1 0 7 + 3) 0 5) (σ1 0 7) τ2 ∧ pu_F1 (σ1 0 7) n1 (jq_cp n1 54 0 (σ1 0 7 + 3) 0 5) ∧ pu_F2 σ2 τ2 ∧ τ2 1 4 = σ2 1 4 := by
      refine hK2.seats (fun k hk => pu_cp_ne hk) (fun k x y => (l2 k x).trans (h5 k y)) l4 (fun p x y => ?_) (fun p q x y z w => ?_)
      · rw [pu_cp0 x (show p < 5 by omega), l3 p x y, (h7 p x y).1]
        have := h8 p x y
        exact ⟨rfl, by omega, this.2.1⟩
      · rw [l3 p x (by omega), l3 q (by omega) z]
        exact (h8 p x (by omega)).2.2 q y z
    obtain ⟨kK, kF1, kF2, kD⟩ := kk
    have gd := pm_worthOfAll (σ := τ2) kK.1
    rw [pu_all_cg kK.1 (S' := S) (fun p x y => by
      have w1 : τ2 1 1 = σ2 1 1 := l4 1 (fun p a b => by omega)
      rw [l2 9 (by omega)]; exact (h7 p x (by omega)).2), pu_all_cgA (A := σ2 1) (fun j hj => l4 j (fun p a b => by omega)), ← h6] at gd
    rw [if_neg hp, h1, h2, pu_b2, pu_b2, if_neg (by omega), z0, pu_cpn (by omega) (by omega), Option.bind_some, l1, Option.bind_some, gd, Option.bind_some]
    refine ⟨_, _, _, rfl, rfl, pu_fins h kK (fun k a b c d e => ?_) kF2 (by omega)⟩
    rw [kF1 k b c d e, h4 k a]
end
