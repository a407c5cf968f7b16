section
variable {σ1 σ2 : jq_M}
theorem pu_hm_b (P : Nat → Prop) : ∀ n : Nat, 0 ≤ pu_hm P n ∧ pu_hm P n ≤ (n : Int) := by
  intro n
  induction n with
  | zero => exact ⟨Int.le_refl _, Int.le_refl _⟩
  | succ n ih =>
    have : pu_hm P (n + 1) = pu_hm P n + pu_i (P n) := rfl
    by_cases h : P n
    · rw [this, pu_i_p h]
      omega
    · rw [this, pu_i_n h]
      omega
theorem pu_hm_p {P : Nat → Prop} {n : Nat} (h : P n) : pu_hm P (n + 1) = pu_hm P n + 1 := by
  show pu_hm P n + pu_i (P n) = _
  rw [pu_i_p h]
theorem pu_hm_n {P : Nat → Prop} {n : Nat} (h : ¬ P n) : pu_hm P (n + 1) = pu_hm P n := by
  show pu_hm P n + pu_i (P n) = _
  rw [pu_i_n h, Int.add_zero]
theorem pr_classes {σ1 σ2 : jq_M} (h : jq_Rel σ1 σ2) (w1 : jq_wf jq_zX 132 σ1) (w2 : jq_wf jq_zM 18 σ2) (y1 : jq_lay jq_zX σ1) (y2 : jq_lay jq_zM σ2) : ∃ (r : Int) (σ1' σ2' : jq_M), X10_classes σ1 = some (r, σ1') ∧ X11_classes σ2 = some (r, σ2') ∧ jq_Rel σ1' σ2' := by
  have hI := h.2.2.1.1
  have hC := h.2.2.1.2.1
  have hoo : σ1 0 7 = 5 ∨ σ1 0 7 = 25 := by have := h.2.1; omega
  have c2 := hC.1.2.2.1
  have nb := pu_N_b hI
  obtain ⟨mc, mb⟩ := ps_many hI hC
  obtain ⟨τ, b1, b2, -⟩ := ps_begin (m1 := σ1) hI hC hoo (fun _ _ _ _ _ _ => rfl)
  obtain ⟨υ, d1, d2, d3⟩ := ps_table hI hC hoo b2
  obtain ⟨ω, f1, f2, f3⟩ := ps_begin (m1 := υ) hI hC hoo d2
  have tab0 : ∀ d, d < pu_N (σ2 1) → pu_ok (σ2 1) d = true → ω 56 ((pu_ci (σ2 1) d : Nat) : Int) = pu_sg (σ2 1) (pu_rq (σ2 1) d) := fun d x y => by
    rw [f3 56 (by omega)]
    exact d3 d x y
  have mb0 := mb
  generalize hM : pu_ci (σ2 1) (pu_N (σ2 1)) = M at b1 d1 f1 mb
  obtain ⟨e, e', h1, h2, h3, h4, h5⟩ := pu_enum (f := X8_countClasses_b58 (σ1 0 7) (M : Int)) (g := X11_classes_b4) (s := (0, 0, ω)) (t := (0, 0, σ2)) (pu_N (σ2 1)) (pu_ok (σ2 1)) (fun c s t => s.1 = pu_hm (pu_fg (σ2 1)) c ∧ t.1 = pu_hm (pu_lff (σ2 1)) c ∧ s.2.1 = ((pu_ci (σ2 1) c : Nat) : Int) ∧ t.2.1 = (c : Int) ∧ pu_v1 σ1 (σ1 0 7) (σ2 1) c s.2.2 ∧ pu_v2 σ2 t.2.2 ∧ ∀ d, d < pu_N (σ2 1) → pu_ok (σ2 1) d = true → s.2.2 56 ((pu_ci (σ2 1) d : Nat) : Int) = pu_sg (σ2 1) (pu_rq (σ2 1) d)) (fun e e' => e.1 = e'.1 ∧ pu_fr1 σ1 e.2 ∧ pu_v2 σ2 e'.2) (fun c s t hc ho hR => by
      obtain ⟨s1, s2, s3⟩ := s
      obtain ⟨t1, t2, t3⟩ := t
      obtain ⟨r1, r2, r4, r5, r6, r7, r8⟩ := hR
      dsimp only at r1 r2 r4 r5 r6 r7 r8
      obtain ⟨⟨ρ, u1, u2⟩, u3, u4⟩ := pu_sv0 hI r5 hc ho r6 r7
      have hb := pu_hm_b (pu_lff (σ2 1)) c
      unfold X11_classes_b4
      dsimp only
      rw [pm_codes2 hI r7, Option.bind_some, if_pos (show t2 < ((pu_N (σ2 1) : Nat) : Int) by omega), u1, pu_b2, if_pos rfl, pu_lt, pu_lt, Int.add_zero, pu_w (x := t1) (by omega) (by omega), pu_w (by omega) (by omega)]
      exact ⟨_, rfl, by rw [pu_hm_n (pu_fg_no ho)]; exact r1, by rw [pu_hm_n (pu_lff_no ho)]; exact r2, by rw [u4]; exact r4, by dsimp only; omega, u3, u2, r8⟩) (fun c s t hc ho hR => by
      obtain ⟨s1, s2, s3⟩ := s
      obtain ⟨t1, t2, t3⟩ := t
      obtain ⟨r1, r2, r4, r5, r6, r7, r8⟩ := hR
      dsimp only at r1 r2 r4 r5 r6 r7 r8
      obtain ⟨w1, ⟨ρ, u1, u2, u3⟩, w2, w3⟩ := pu_sv1 hI hC hoo r5 hc ho r6 r7
      obtain ⟨p3, -⟩ := pu_N_p hI hc
      have lt := pu_ci_lt hc ho
      rw [hM] at lt
      have hb := pu_hm_b (pu_lff (σ2 1)) c
      have hb2 := pu_hm_b (pu_fg (σ2 1)) c
      have e1 := pu_v2_1 u2
      obtain ⟨κ, k1, k2⟩ := pm_isClass (σ := ρ) (p := t2) (S := pu_rq (σ2 1) c) (by rw [e1]; exact hI) (by rw [e1]; exact p3) (by rw [e1]; exact u3) (by rw [e1]; exact pu_rs_b hI hc ho)
      rw [e1, r5, propext (pu_cls_lf hI hc ho)] at k1
      have k3 : pu_v2 σ2 κ := fun k hk => (k2 k hk).trans (u2 k hk)
      have ref : X11_classes_b4 (t1, t2, t3) = some (.inl (pu_hm (pu_lff (σ2 1)) (c + 1), t2 + 1, κ)) := by
        unfold X11_classes_b4
        dsimp only
        rw [pm_codes2 hI r7, Option.bind_some, if_pos (show t2 < ((pu_N (σ2 1) : Nat) : Int) by omega), u1, pu_b2, if_neg (show ¬ ((1 : Int) = 0) by decide)]
        rw [r5, k1, pu_b2]
        by_cases z : pu_lff (σ2 1) c
        · rw [pu_i_p z, if_neg (show ¬ ((1 : Int) = 0) by decide), pu_lt, pu_lt, pu_w (x := t1 + 1) (by omega) (by omega), pu_w (by omega) (by omega), pu_hm_p z, r2]
        · rw [pu_i_n z, if_pos rfl, pu_lt, pu_lt, Int.add_zero, pu_w (x := t1) (by omega) (by omega), pu_w (by omega) (by omega), pu_hm_n z, r2]
      have j97 : ∀ (v : Int) (m : jq_M), (∀ k, k ≠ 55 → m k = s3 k) → v = pu_hm (pu_fg (σ2 1)) (c + 1) → ∃ s', X8_countClasses_j101 (σ1 0 7) (M : Int) v s2 m = some (.inl s') ∧ s'.1 = pu_hm (pu_fg (σ2 1)) (c + 1) ∧ s'.2.1 = ((pu_ci (σ2 1) (c + 1) : Nat) : Int) ∧ pu_v1 σ1 (σ1 0 7) (σ2 1) (c + 1) s'.2.2 ∧ ∀ d, d < pu_N (σ2 1) → pu_ok (σ2 1) d = true → s'.2.2 56 ((pu_ci (σ2 1) d : Nat) : Int) = pu_sg (σ2 1) (pu_rq (σ2 1) d) := fun v m hm hv => by
        obtain ⟨ψ, g3, g4, g5⟩ := w2 m (fun k a b c d => hm k c)
        unfold X8_countClasses_j101
        rw [g3, Option.bind_some, pu_lt, pu_w (x := s2 + 1) (by omega) (by omega)]
        refine ⟨_, rfl, hv, by dsimp only; omega, g5, fun d x y => ?_⟩
        dsimp only
        rw [g4 56 (by omega), hm 56 (by omega)]
        exact r8 d x y
      have cls : ∃ s', X8_countClasses_b58 (σ1 0 7) (M : Int) (s1, s2, s3) = some (.inl s') ∧ s'.1 = pu_hm (pu_fg (σ2 1)) (c + 1) ∧ s'.2.1 = ((pu_ci (σ2 1) (c + 1) : Nat) : Int) ∧ pu_v1 σ1 (σ1 0 7) (σ2 1) (c + 1) s'.2.2 ∧ ∀ d, d < pu_N (σ2 1) → pu_ok (σ2 1) d = true → s'.2.2 56 ((pu_ci (σ2 1) d : Nat) : Int) = pu_sg (σ2 1) (pu_rq (σ2 1) d) := by
        have al := ps_all (σ := s3) (o := σ1 0 7) (A := σ2 1) (by rw [r6.1 _ (by omega) (by omega) (by omega) (by omega) (by omega)]; exact c2)
        unfold X8_countClasses_b58
        dsimp only
        rw [if_pos (show s2 < (M : Int) by omega), if_pos (by omega), pu_ld (by omega) (by omega), Option.bind_some, al, Option.bind_some, show s3 56 s2 = pu_sg (σ2 1) (pu_rq (σ2 1) c) by rw [r4]; exact r8 c hc ho]
        by_cases z : pu_gd (σ2 1) (pu_rq (σ2 1) c)
        · rw [if_pos (show pu_sg (σ2 1) (pu_rq (σ2 1) c) = jq_w (jq_shl 1 (σ2 1 1) - 1) from z)]
          obtain ⟨ψ, g1, g2⟩ := ps_earlier (σ := s3) (x := s2) hI (pu_v1_C hC hoo r6) hoo hc ho w1 r8 mb0 r4
          rw [g1, pu_b2]
          by_cases y : ∃ d, d < c ∧ pu_lkk (σ2 1) c d ∧ pu_gc (σ2 1) d
          · rw [pu_i_p y, if_neg (show ¬ ((1 : Int) = 0) by decide)]
            refine j97 s1 ψ g2 ?_
            rw [pu_hm_n (fun g => by
              obtain ⟨d, y1, y2, y3⟩ := y
              exact g.2 d y1 y2 y3)]
            exact r1
          · rw [pu_i_n y, if_pos rfl, pu_lt, pu_w (x := s1 + 1) (by omega) (by omega)]
            refine j97 _ ψ g2 ?_
            rw [pu_hm_p ⟨⟨ho, z⟩, fun d y1 y2 y3 => y ⟨d, y1, y2, y3⟩⟩, r1]
        · rw [if_neg (show ¬ pu_sg (σ2 1) (pu_rq (σ2 1) c) = jq_w (jq_shl 1 (σ2 1 1) - 1) from z)]
          refine j97 s1 s3 (fun _ _ => rfl) ?_
          rw [pu_hm_n (fun g => z g.1.2)]
          exact r1
      obtain ⟨s', c1, c3, c4, c5, c6⟩ := cls
      refine Or.inl ⟨s', _, c1, ref, c3, rfl, c4, by dsimp only; omega, c5, k3, c6⟩) (fun s t hR => by
      obtain ⟨s1, s2, s3⟩ := s
      obtain ⟨t1, t2, t3⟩ := t
      obtain ⟨r1, r2, r4, r5, r6, r7, -⟩ := hR
      dsimp only at r1 r2 r4 r5 r6 r7
      rw [hM] at r4
      unfold X8_countClasses_b58 X11_classes_b4
      dsimp only
      rw [if_neg (by omega), pm_codes2 hI r7, Option.bind_some, if_neg (by omega)]
      exact ⟨_, _, rfl, rfl, by dsimp only; rw [r1, r2, pu_cl_eq hI], pu_sfr hoo r6.1, r7⟩) ⟨rfl, rfl, rfl, rfl, f2, fun _ _ => rfl, tab0⟩
  obtain ⟨e1, e2⟩ := e
  obtain ⟨e1', e2'⟩ := e'
  dsimp only at h3 h4 h5
  subst h3
  refine pu_nf h (τ1 := e2) (τ2 := e2') h4 (pu_fr2_9 h5) (r := e1) (v := 0) ?_ ?_
  · unfold X10_classes X8_countClasses X8_countClasses_j47
    simp only [pu_lt, b1, pu_b2, d1, f1, h1, Option.bind_some, ps_answer]
  · unfold X11_classes
    simp only [h2, Option.bind_some, pm_gives, pu_b2]
end
