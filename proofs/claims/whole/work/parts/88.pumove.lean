section
variable {A S S' : Int → Int} {κ m m1 m2 τ1 τ2 σ σ1 σ2 : jq_M} {o n v x k a b f p mv K P l y s T : Int}
theorem ps_first {t : Nat} (hI : pu_inv A) (hC : pu_RC m o A) (hoo : o = 5 ∨ o = 25) (hS : ∀ q, 0 ≤ q → q < A 1 → m 63 q = S q) (hk : pu_okr (A 1) (A 0) S) (ha : 0 ≤ a) (ha1 : a < A 1) (hb : 0 ≤ b) (hb1 : b < A 1) (sa : 0 ≤ S a) (sb : 0 ≤ S b) (hT : T = (t : Int) + 1) (hT3 : T ≤ 3) : X4_firstMove o 63 a b T m = some (if pu_ff A a b t 1 S (A 0) ((A 0).toNat + 1) = A 0 then -1 else pu_ff A a b t 1 S (A 0) ((A 0).toNat + 1), m) ∧ (pu_ff A a b t 1 S (A 0) ((A 0).toNat + 1) ≠ A 0 → pu_ff A a b t 1 S (A 0) ((A 0).toNat + 1) ≠ -1) := by
  have i0 := hI.1
  have i1 := hI.2.1
  have c0 := hC.1.1
  have wT : jq_w (T - 1) = T - 1 := pu_w (by omega) (by omega)
  have hP : (((A 0).toNat : Nat) : Int) = A 0 := by omega
  have ha9 := (hk.1 a ha ha1).2
  have rc : ∀ (S' : Int → Int) (τ : jq_M), pu_RC τ o A → (∀ q, 0 ≤ q → q < A 1 → τ 63 q = S' q) → pu_okr (A 1) (A 0) S' → 0 ≤ S' a → 0 ≤ S' b → X4_bestLead 8 o 63 a b (jq_w (T - 1)) 0 τ = some (pu_bl A a b t 0 S', τ) := fun S' τ d1 d2 d3 d4 d5 => by
    rw [wT]
    exact ps_bl hI hoo ha ha1 hb hb1 t 8 0 (T - 1) S' τ (by omega) (by omega) (by omega) (Or.inl rfl) d1 d2 d3 d4 d5
  have lp : ∃ e, jq_lp (X4_firstMove_b16 o 63 a b T (S a)) (-1, 0, 0, m) = some e ∧ e.2.2 = m ∧ (pu_rf A a b t 1 S (A 0).toNat = 1000000 ∧ e.1 = -1 ∧ pu_ff A a b t 1 S (A 0) (A 0).toNat = A 0 ∨ (-360 ≤ pu_rf A a b t 1 S (A 0).toNat ∧ pu_rf A a b t 1 S (A 0).toNat ≤ 360) ∧ e.1 = pu_ff A a b t 1 S (A 0) (A 0).toNat ∧ e.2.1 = pu_rf A a b t 1 S (A 0).toNat ∧ 0 ≤ e.1 ∧ e.1 < A 0) := by
    refine pu_lpE (f := X4_firstMove_b16 o 63 a b T (S a)) (fun i s => s.2.2.1 = (i : Int) ∧ s.2.2.2 = m ∧ (pu_rf A a b t 1 S i = 1000000 ∧ s.1 = -1 ∧ pu_ff A a b t 1 S (A 0) i = A 0 ∨ (-360 ≤ pu_rf A a b t 1 S i ∧ pu_rf A a b t 1 S i ≤ 360) ∧ s.1 = pu_ff A a b t 1 S (A 0) i ∧ s.2.1 = pu_rf A a b t 1 S i ∧ 0 ≤ s.1 ∧ s.1 < A 0)) (fun e => e.2.2 = m ∧ (pu_rf A a b t 1 S (A 0).toNat = 1000000 ∧ e.1 = -1 ∧ pu_ff A a b t 1 S (A 0) (A 0).toNat = A 0 ∨ (-360 ≤ pu_rf A a b t 1 S (A 0).toNat ∧ pu_rf A a b t 1 S (A 0).toNat ≤ 360) ∧ e.1 = pu_ff A a b t 1 S (A 0) (A 0).toNat ∧ e.2.1 = pu_rf A a b t 1 S (A 0).toNat ∧ 0 ≤ e.1 ∧ e.1 < A 0)) (A 0).toNat ⟨rfl, rfl, Or.inl ⟨rfl, rfl, rfl⟩⟩ (fun i s hs hi => ?_) (fun e h1 h2 => ⟨e, h1, h2⟩)
    obtain ⟨s1, s2, s3, s4⟩ := s
    obtain ⟨h1, h2, h3⟩ := hs
    dsimp only at h1 h2 h3
    subst h2
    have k0 : 0 ≤ s3 := by omega
    have er : pu_rf A a b t 1 S (i + 1) = pu_rs A a b t 1 S (i : Int) (pu_rf A a b t 1 S i) := rfl
    have ef : pu_ff A a b t 1 S (A 0) (i + 1) = pu_if (pu_nw a b t 1 A S (i : Int) (pu_rf A a b t 1 S i)) (i : Int) (pu_ff A a b t 1 S (A 0) i) := rfl
    have mo : pu_mo a b 1 = a := rfl
    unfold X4_firstMove_b16
    dsimp only
    by_cases w : s3 < A 0
    · right
      rw [if_pos (by rw [c0]; exact w)]
      by_cases z : s3 = S a
      · rw [if_pos z, pu_lt, pu_w (x := s3 + 1) (by omega) (by omega)]
        refine ⟨by omega, _, rfl, by dsimp only; omega, rfl, ?_⟩
        rw [er, ef, pu_if_n (fun q => q.1 (by rw [mo]; omega))]
        unfold pu_rs
        rw [mo, if_pos (by omega)]
        exact h3
      · obtain ⟨τ, a1, a2, a3, a4⟩ := ps_tried (mv := a) (p := s3) hI hC hoo hS hk ha ha1 sa k0 w z
        have r := rc (pu_sh S a s3) τ a2 a3 (pu_sh_ok hk k0 w ha ha1) (pu_sh_sat sa k0 sa) (pu_sh_sat sa k0 sb)
        have vb := pu_bl_b (a := a) (b := b) hI t 0 (pu_sh S a s3)
        have ev : pu_vl A a b t 1 S (i : Int) = pu_bl A a b t 0 (pu_sh S a s3) := by
          rw [← h1]
          unfold pu_vl
          rw [if_pos w]
          rfl
        have er2 : pu_rf A a b t 1 S (i + 1) = pu_wg 1 (pu_rf A a b t 1 S i) (pu_bl A a b t 0 (pu_sh S a s3)) := by
          rw [er]
          unfold pu_rs
          rw [mo, if_neg (by omega), ev]
        have nh : (i : Int) ≠ S (pu_mo a b 1) := by rw [mo]; omega
        rw [if_neg z, a1, Option.bind_some, r, pu_b2, a4, Option.bind_some]
        generalize pu_bl A a b t 0 (pu_sh S a s3) = V at vb ev er2 r
        rcases h3 with ⟨g1, g2, g3⟩ | ⟨g1, g2, g3, g4, g5⟩
        · rw [if_pos g2, pu_lt, pu_w (x := s3 + 1) (by omega) (by omega)]
          have wn : pu_nw a b t 1 A S (i : Int) (pu_rf A a b t 1 S i) := ⟨nh, Or.inl g1⟩
          have e1 : pu_rf A a b t 1 S (i + 1) = V := by rw [er2, g1]; unfold pu_wg; rw [if_pos rfl]
          refine ⟨by omega, _, rfl, by dsimp only; omega, rfl, Or.inr ⟨by rw [e1]; exact vb, by rw [ef, pu_if_p wn]; exact h1, e1.symm, k0, w⟩⟩
        · rw [if_neg (by omega)]
          by_cases q : s2 < V
          · rw [if_pos q, pu_lt, pu_w (x := s3 + 1) (by omega) (by omega)]
            have wn : pu_nw a b t 1 A S (i : Int) (pu_rf A a b t 1 S i) := ⟨nh, Or.inr (Or.inr ⟨rfl, by rw [ev]; omega⟩)⟩
            have e1 : pu_rf A a b t 1 S (i + 1) = V := by rw [er2]; unfold pu_wg; rw [if_neg (by omega), if_neg (by decide), if_pos (by omega)]
            refine ⟨by omega, _, rfl, by dsimp only; omega, rfl, Or.inr ⟨by rw [e1]; exact vb, by rw [ef, pu_if_p wn]; exact h1, e1.symm, k0, w⟩⟩
          · rw [if_neg q, pu_lt, pu_w (x := s3 + 1) (by omega) (by omega)]
            have wn : ¬ pu_nw a b t 1 A S (i : Int) (pu_rf A a b t 1 S i) := fun r => by
              have := r.2
              unfold pu_wn at this
              rw [ev] at this
              omega
            have e1 : pu_rf A a b t 1 S (i + 1) = pu_rf A a b t 1 S i := by rw [er2]; unfold pu_wg; rw [if_neg (by omega), if_neg (by decide), if_neg (by omega)]
            refine ⟨by omega, _, rfl, by dsimp only; omega, rfl, Or.inr ⟨by rw [e1]; exact g1, by rw [ef, pu_if_n wn]; exact g2, by rw [e1]; exact g3, g4, g5⟩⟩
    · left
      rw [if_neg (by rw [c0]; exact w)]
      rw [show i = (A 0).toNat by omega] at h3
      exact ⟨_, rfl, rfl, h3⟩
  obtain ⟨⟨e1, e2, e3⟩, d1, d2, d3⟩ := lp
  dsimp only at d2 d3
  subst d2
  have ef : pu_ff A a b t 1 S (A 0) ((A 0).toNat + 1) = pu_if (pu_nw a b t 1 A S (((A 0).toNat : Nat) : Int) (pu_rf A a b t 1 S (A 0).toNat)) (((A 0).toNat : Nat) : Int) (pu_ff A a b t 1 S (A 0) (A 0).toNat) := rfl
  rw [hP] at ef
  have nh : A 0 ≠ S (pu_mo a b 1) := fun q => by
    have : A 0 = S a := q
    omega
  have ev : pu_vl A a b t 1 S (A 0) = pu_bl A a b t 0 S := by
    unfold pu_vl
    rw [if_neg (by omega)]
    rfl
  have st := rc S e3 hC hS hk sa sb
  unfold X4_firstMove
  rw [ps_seatIn ha (by omega), Option.bind_some, hS a ha ha1, d1, Option.bind_some]
  dsimp only
  rw [st, pu_b2]
  rcases d3 with ⟨g1, g2, g3⟩ | ⟨g1, g2, g3, g4, g5⟩
  · have wn : pu_nw a b t 1 A S (A 0) (pu_rf A a b t 1 S (A 0).toNat) := ⟨nh, Or.inl g1⟩
    rw [ef, pu_if_p wn, if_pos rfl, g2]
    exact ⟨by split <;> rfl, fun q => absurd rfl q⟩
  · by_cases q : e2 < pu_bl A a b t 0 S
    · have wn : pu_nw a b t 1 A S (A 0) (pu_rf A a b t 1 S (A 0).toNat) := ⟨nh, Or.inr (Or.inr ⟨rfl, by rw [ev]; omega⟩)⟩
      rw [ef, pu_if_p wn, if_pos rfl, if_pos q]
      exact ⟨rfl, fun q => absurd rfl q⟩
    · have wn : ¬ pu_nw a b t 1 A S (A 0) (pu_rf A a b t 1 S (A 0).toNat) := fun r => by
        have := r.2
        unfold pu_wn at this
        rw [ev] at this
        omega
      rw [ef, pu_if_n wn, if_neg q, ← g2, if_neg (by omega)]
      exact ⟨rfl, fun _ => by omega⟩
theorem pr_moveOf {σ1 σ2 : jq_M} (h : jq_Rel σ1 σ2) (w1 : jq_wf jq_zX 132 σ1) (w2 : jq_wf jq_zM 18 σ2) (y1 : jq_lay jq_zX σ1) (y2 : jq_lay jq_zM σ2) {p1 p2 p3 : Int} (hp1 : jq_r p1) (hp2 : jq_r p2) (hp3 : jq_r p3) : ∃ (r : Int) (σ1' σ2' : jq_M), X10_moveOf p1 p2 p3 σ1 = some (r, σ1') ∧ X11_moveOf p1 p2 p3 σ2 = some (r, σ2') ∧ jq_Rel σ1' σ2' := by
  have hn := h.2.1
  have hI := h.2.2.1.1
  have hC := h.2.2.1.2.1
  unfold X10_moveOf X11_moveOf
  rcases pu_why (p1 := p1) (p2 := p2) (p3 := p3) (p4 := 1) h (by decide) with ⟨w, w0, e1, e2⟩ | ⟨e1, e2, ⟨a0, a1⟩, ⟨b0, b1⟩, ab, r0, r1, s1, s2⟩
  · rw [e1, e2, Option.bind_some, Option.bind_some, if_neg (show ¬ w = 0 by omega), if_pos w0, ps_refuse, pm_refuse, pu_b2, pu_b2]
    exact pu_no h rfl rfl
  · obtain ⟨i0, i1, i2, i3, i4, i5, i6, ip, iq, -⟩ := hI
    have hI := h.2.2.1.1
    have sa : 0 ≤ σ2 1 (9 + 2 * p1) := by have := ip p1 a0 a1; omega
    have sb : 0 ≤ σ2 1 (9 + 2 * p2) := by have := ip p2 b0 b1; omega
    rw [e1, e2, Option.bind_some, Option.bind_some, if_pos rfl, if_neg (show ¬ (0 : Int) < 0 by decide)]
    obtain ⟨υ, u1, u2, u3⟩ := ps_layTrial (σ := σ1)
    have u0 : υ 0 = σ1 0 := u2 0 (by omega)
    obtain ⟨cl, cn⟩ := ps_first (t := (p3 - 1).toNat) (m := υ) (a := p1) (b := p2) (T := p3) (o := σ1 0 7) (S := fun q => σ2 1 (9 + 2 * q)) hI (hC.mv (fun k c d => u2 _ (by omega))) (by omega) (fun q q0 q1 => by rw [u3 q q0 (by omega), (hC.2.1 q q0 q1).2]) (pu_okr_of hI) a0 a1 b0 b1 sa sb (by omega) r1
    obtain ⟨m', g1, g2, g3⟩ := pm_playing (t := (p3 - 1).toNat) (T := p3) (S := fun q => σ2 1 (9 + 2 * q)) hI a0 a1 b0 b1 (by omega) r1 (fun _ _ _ => rfl) (pu_okr_of hI) sa sb
    have m1e : m' 1 = σ2 1 := g2.1 1 (by omega) (by omega) (by omega) (by omega) (by omega)
    rw [u1, Option.bind_some]
    simp only [pu_lt]
    rw [u0, cl, g1, pu_b2, pu_b2, pu_ld (by omega) (by omega), Option.bind_some, m1e, g3]
    generalize pu_ff (σ2 1) p1 p2 (p3 - 1).toNat 1 (fun q => σ2 1 (9 + 2 * q)) (σ2 1 0) ((σ2 1 0).toNat + 1) = F at cn ⊢
    have fr : pu_fr1 σ1 υ := fun k hk => u2 k (fun q => hk (by unfold pu_scr; omega))
    by_cases z : F = σ2 1 0
    · rw [if_pos z, if_pos z, ps_orNone, pm_refuse, pu_b2, pu_b2, if_pos rfl]
      exact pu_nf h fr (pu_gf_fr g2) rfl rfl
    · rw [if_neg z, if_neg z, ps_orNone, pm_gives, pu_b2, pu_b2, if_neg (cn z)]
      exact pu_nf h fr (pu_gf_fr g2) rfl rfl
end
