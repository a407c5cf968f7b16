section
variable {α1 α2 m1 m2 τ1 τ2 σ σ1 σ2 : jq_M} {o n v x k : Int}
theorem pu_st4 {a b c v t u w : Int} : jq_st (jq_st (jq_st (jq_st σ 0 a v) 0 b t) 0 c u) 0 a w = jq_st (jq_st (jq_st σ 0 b t) 0 c u) 0 a w := by
  funext k j
  by_cases q : k = 0
  · subst q
    by_cases q1 : j = a
    · rw [q1, pu_st_a, pu_st_a]
    · rw [pu_st_b q1, pu_st_b q1]
      by_cases q2 : j = c
      · rw [q2, pu_st_a, pu_st_a]
      · rw [pu_st_b q2, pu_st_b q2]
        by_cases q3 : j = b
        · rw [q3, pu_st_a, pu_st_a]
        · rw [pu_st_b q3, pu_st_b q3, pu_st_b q1]
  · rw [pu_st_ne q, pu_st_ne q, pu_st_ne q, pu_st_ne q, pu_st_ne q, pu_st_ne q, pu_st_ne q]
def pu_mf1 (σ1 m : jq_M) : Prop := ∀ k, ¬ (σ1 0 8 ≤ k ∧ k < σ1 0 8 + 20) → k ≠ 60 → k ≠ 61 → m k = σ1 k
def pu_mf2 (σ2 κ m : jq_M) : Prop := (∀ k, k ≠ 0 → k ≠ 1 → k ≠ 9 → k ≠ 15 → k ≠ 16 → m k = σ2 k) ∧ (∀ j, j ≠ 30 → j ≠ 31 → m 0 j = σ2 0 j) ∧ m 1 = κ 1
theorem pu_mf_CM (h : jq_Rel σ1 σ2) {κ : jq_M} (hk : ∀ j, ¬ (2530 ≤ j ∧ j < 2668) → κ 1 j = σ2 1 j) (f1 : pu_mf1 σ1 m1) (f2 : pu_mf2 σ2 κ m2) : pu_CM m1 (σ1 0 7) (m2 1) (m2 2) := by
  have hn := h.2.1
  have z2 : m2 2 = σ2 2 := f2.1 2 (by omega) (by omega) (by omega) (by omega) (by omega)
  exact (h.2.2.1.mv (fun k a b => f1 _ (by omega) (by omega) (by omega))).cg (fun j a b => by rw [f2.2.2, hk j (by omega)]) (fun j a b => by rw [z2])
/-- one life on the spare, from the very start -/
theorem pu_mean1 (h : jq_Rel σ1 σ2) {κ : jq_M} (hk : ∀ j, ¬ (2530 ≤ j ∧ j < 2668) → κ 1 j = σ2 1 j) (hk2 : ∀ j, 0 ≤ j → j < 138 → κ 1 (2530 + j) = σ2 1 j) (f1 : pu_mf1 σ1 m1) (f2 : pu_mf2 σ2 κ m2) (h6 : 0 ≤ σ2 1 6) (x0 : 0 ≤ x) (x1 : x < 65536) : ∃ (υ1 υ2 τ ρ ω : jq_M) (V : Int), X1_takeFrom (σ1 0 8) (σ1 0 7) m1 = some τ ∧ X3_run (σ1 0 8) x τ = some υ1 ∧ X1_worthOfAll (σ1 0 8) (σ1 0 8 + 3) υ1 = some V ∧ X11_lives x m2 = some υ2 ∧ X11_seatsNow υ2 = some ρ ∧ X11_worthOfAll ρ = some V ∧ X11_restores 2530 ρ = some ω ∧ pu_mf1 σ1 υ1 ∧ pu_mf2 σ2 κ ω ∧ -180 ≤ V ∧ V ≤ 180 ∧ τ 0 = m1 0 := by
  have hn := h.2.1
  have hC := pu_mf_CM h hk f1 f2
  obtain ⟨τ, a1, a2, a3⟩ := ps_takeFrom (σ := m1) (o := σ1 0 8) (p := σ1 0 7) (by omega)
  have hT := a3.CM hC
  have e6 : m2 1 6 = σ2 1 6 := by rw [f2.2.2, hk 6 (by omega)]
  obtain ⟨υ1, υ2, b1, b2, b3⟩ := pa_runs (σ1 := τ) (σ2 := m2) (o := σ1 0 8) (x := x) ⟨hT.1, hT.2.1⟩ hT.2.2.2.2 hT.2.2.2.1 (by omega) (by omega) x0 x1
  obtain ⟨c1, c2, c3, c4, c5, c6, c7, c8⟩ := b3
  obtain ⟨ρ, d1, d2, d3⟩ := pm_seatsNow c1.1
  have r1 : ρ 1 = υ2 1 := d2 1 (by omega)
  obtain ⟨ω, g1, g2, g3, g4⟩ := pm_restores (σ := ρ) (b := 2530) (by omega) (by omega)
  refine ⟨υ1, υ2, τ, ρ, ω, pu_all (υ2 1) (fun p => υ2 1 (9 + 2 * p)), a1, b1, ps_worthOfAll c1.1 c1.2 (fun p a b => (c1.2.2.1 p a b).2), b2, d1, ?_, g1, ?_, ⟨?_, ?_, ?_⟩, (pu_all_b c1.1).1, (pu_all_b c1.1).2, a2 0 (by omega)⟩
  · rw [pm_worthOfAll (by rw [r1]; exact c1.1), r1, pu_all_cg c1.1 d3]
  · intro k p q r
    rw [c5 k (by omega) (by omega) (by omega) (by omega) q r, a2 k (by omega), f1 k p q r]
  · intro k p q r s t
    rw [g2 k q, d2 k r, c6 k p q r s t, f2.1 k p q r s t]
  · intro j p q
    rw [g2 0 (by omega), d2 0 (by omega), c8 j p q, f2.2.1 j p q]
  · funext j
    by_cases q : 0 ≤ j ∧ j < 138
    · rw [g3 j q.1 q.2, r1, c7 _ (by unfold pu_dynj; omega), f2.2.2, hk2 j q.1 q.2, hk j (by omega)]
    · rw [g4 j q, r1, c7 _ (by unfold pu_dynj; omega), f2.2.2]
theorem pr_mean {σ1 σ2 : jq_M} (h : jq_Rel σ1 σ2) (w1 : jq_wf jq_zX 132 σ1) (w2 : jq_wf jq_zM 18 σ2) (y1 : jq_lay jq_zX σ1) (y2 : jq_lay jq_zM σ2) {p1 p2 : Int} (hp1 : jq_r p1) (hp2 : jq_r p2) : ∃ (r : Int) (σ1' σ2' : jq_M), X10_mean p1 p2 σ1 = some (r, σ1') ∧ X11_mean p1 p2 σ2 = some (r, σ2') ∧ jq_Rel σ1' σ2' := by
  have hn := h.2.1
  have hCM := h.2.2.1
  obtain ⟨i0, i1, i2, i3, i4, i5, i6, -⟩ := h.2.2.1.1
  unfold X10_mean X11_mean
  rw [ps_within, pm_isFrom, Option.bind_some, Option.bind_some]
  by_cases hp : 0 ≤ p1 ∧ p1 ≤ 9999
  · rw [pu_i_p hp, if_neg (show ¬ ((1 : Int) = 0) by decide), if_neg (show ¬ ((1 : Int) = 0) by decide), ps_within, pm_isFrom, Option.bind_some, Option.bind_some]
    by_cases hq : 1 ≤ p2 ∧ p2 ≤ 20
    · rw [pu_i_p hq, if_neg (show ¬ ((1 : Int) = 0) by decide), if_neg (show ¬ ((1 : Int) = 0) by decide), pu_w (x := p2 - 1) (by omega) (by omega), pu_w (x := 9999 - (p2 - 1)) (by omega) (by omega), pu_w (x := p1 + p2) (by omega) (by omega), pu_w (x := p1 + p2 - 1) (by omega) (by omega)]
      by_cases hr : 9999 < p1 + p2 - 1
      · rw [if_pos (show 9999 - (p2 - 1) < p1 by omega), if_pos hr]
        unfold X10_mean_j32 X11_mean_j35
        rw [ps_deny, pm_is, pu_b2, pu_b2]
        exact pu_no h rfl rfl
      · rw [if_neg (show ¬ 9999 - (p2 - 1) < p1 by omega), if_neg hr]
        simp only [pu_lt]
        rw [pu_ld (σ := σ2) (by omega) (by omega), Option.bind_some]
        rcases hCM.2.2.2.1.1 with ⟨z1', z2⟩ | ⟨z1', z2, z3⟩
        · rw [if_pos z2, if_pos z1', ps_deny, pm_is, pu_b2, pu_b2]
          exact pu_no h rfl rfl
        · rw [if_neg (show ¬ σ1 (σ1 0 7 + 13) 0 = 0 by omega), if_neg (show ¬ σ2 1 6 = -1 by omega)]
          obtain ⟨κ, k1, k2, k3, k4⟩ := pm_keeps (σ := σ2) (b := 2530) (by omega) (by omega)
          rw [k1, Option.bind_some]
          suffices hs : ∃ e e', jq_lp (X10_mean_b63 p1 p2) (0, 0, σ1) = some e ∧ jq_lp (X11_mean_b71 p1 p2) (0, 0, κ) = some e' ∧ e.1 = e'.1 ∧ -3600 ≤ e.1 ∧ e.1 ≤ 3600 ∧ pu_mf1 σ1 e.2 ∧ pu_mf2 σ2 κ e'.2 by
            obtain ⟨e, e', a1, a2, a3, a4, a5, a6, a7⟩ := hs
            rw [a1, a2, Option.bind_some, Option.bind_some]
            obtain ⟨s, m1⟩ := e
            obtain ⟨s', m2⟩ := e'
            dsimp only at a3 a4 a5 a6 a7 ⊢
            subst a3
            obtain ⟨q1, q2⟩ := pa_frac (σ1 := m1) (σ2 := m2) (n := s) (d := p2) (by omega) (by omega) (by omega) (by omega)
            rw [q1, q2, Option.bind_some, ps_grant, pu_b2, pu_b2]
            have z1 : m1 0 = σ1 0 := a6 0 (by omega) (by omega) (by omega)
            have z2 : m2 2 = σ2 2 := a7.1 2 (by omega) (by omega) (by omega) (by omega) (by omega)
            have hR : jq_Rel (jq_st m1 0 0 0) (jq_st m2 0 2 0) := by
              refine pu_end h (fun k a b c => a6 k (by omega) (fun q => c (by unfold pu_scr; omega)) (fun q => c (by unfold pu_scr; omega))) (fun j _ => by rw [z1]) (fun k hk => a7.1 k (by omega) (by omega) (by omega) (by omega) (by omega)) (fun j a b => by rw [a7.2.2, k4 j (by omega)]) (fun j a b => by rw [z2]) (fun j hj => a7.2.1 j (by omega) (by omega)) (pu_mf_CM h (fun j hj => k4 j (by omega)) a6 a7)
            have hF := pu_asmF hR (pu_ft s p2) (pu_fb s p2) 0
            rw [pu_st4, pu_st4] at hF
            exact ⟨1, _, _, rfl, rfl, hF⟩
          refine pu_sim (f := X10_mean_b63 p1 p2) (g := X11_mean_b71 p1 p2) (s := (0, 0, σ1)) (t := (0, 0, κ)) (fun i s t => s.1 = t.1 ∧ s.2.1 = (i : Int) ∧ t.2.1 = (i : Int) ∧ -180 * (i : Int) ≤ s.1 ∧ s.1 ≤ 180 * (i : Int) ∧ pu_mf1 σ1 s.2.2 ∧ pu_mf2 σ2 κ t.2.2) (fun e e' => e.1 = e'.1 ∧ -3600 ≤ e.1 ∧ e.1 ≤ 3600 ∧ pu_mf1 σ1 e.2 ∧ pu_mf2 σ2 κ e'.2) p2.toNat ?_ ⟨rfl, rfl, rfl, by dsimp only; omega, by dsimp only; omega, fun _ _ _ _ => rfl, ⟨fun k p q _ _ _ => k2 k q, fun j _ _ => congrFun (k2 0 (by omega)) j, rfl⟩⟩
          intro i s t ⟨b1, b2, b3, b4, b5, b6, b7⟩ hi
          obtain ⟨s1, s2, s3⟩ := s
          obtain ⟨t1, t2, t3⟩ := t
          dsimp only at b1 b2 b3 b4 b5 b6 b7
          subst b1
          have z1 : s3 0 = σ1 0 := b6 0 (by omega) (by omega) (by omega)
          unfold X10_mean_b63 X11_mean_b71
          dsimp only
          by_cases w : s2 < p2
          · right
            obtain ⟨υ1, υ2, τ, ρ, ω, V, c1, c2, c3, c4, c5, c6, c7, c8, c9, c10, c11, c12⟩ := pu_mean1 (x := p1 + s2) h (fun j hj => k4 j (by omega)) k3 b6 b7 z1' (by omega) (by omega)
            have z3 : υ1 0 = σ1 0 := c8 0 (by omega) (by omega) (by omega)
            refine ⟨by omega, (s1 + V, s2 + 1, υ1), (s1 + V, s2 + 1, ω), ?_, ?_, rfl, by dsimp only; omega, by dsimp only; omega, by dsimp only; omega, by dsimp only; omega, c8, c9⟩
            · rw [if_pos w]
              simp only [pu_lt]
              rw [z1, c1, Option.bind_some, c12, z1, pu_w (x := p1 + s2) (by omega) (by omega), c2, Option.bind_some, z3, c3, Option.bind_some, pu_w64 (by omega) (by omega), pu_w (x := s2 + 1) (by omega) (by omega)]
            · rw [if_pos (by omega)]
              simp only [pu_lt]
              rw [pu_w (x := p1 + t2) (by omega) (by omega), show p1 + t2 = p1 + s2 by omega, c4, Option.bind_some, c5, Option.bind_some, c6, Option.bind_some, c7, Option.bind_some, pu_w64 (by omega) (by omega), pu_w (x := t2 + 1) (by omega) (by omega), show t2 + 1 = s2 + 1 by omega]
          · left
            exact ⟨(s1, s3), (s1, t3), by rw [if_neg w], by rw [if_neg (by omega)], rfl, by dsimp only; omega, by dsimp only; omega, b6, b7⟩
    · rw [pu_i_n hq, if_pos rfl, if_pos rfl]
      unfold X10_mean_j32 X11_mean_j35
      rw [ps_deny, pm_is, pu_b2, pu_b2]
      exact pu_no h rfl rfl
  · rw [pu_i_n hp, if_pos rfl, if_pos rfl]
    unfold X10_mean_j32 X11_mean_j35
    rw [ps_deny, pm_is, pu_b2, pu_b2]
    exact pu_no h rfl rfl
end
