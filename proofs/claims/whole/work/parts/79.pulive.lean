section
variable {α1 α2 m1 m2 τ1 τ2 σ σ1 σ2 : jq_M} {o n v x k : Int}
/-- what was told of the run that was lived last -/
theorem pu_told (h : jq_Rel σ1 σ2) (g1 : ∀ k, k ≠ 0 → k ≠ 62 → τ1 k = σ1 k) (g2 : ∀ k, k ≠ 0 → k ≠ 17 → τ2 k = σ2 k) (g10 : ∀ j, j ≠ 16 → τ1 0 j = σ1 0 j) (g20 : ∀ j, j ≠ 35 → τ2 0 j = σ2 0 j) (hl : τ1 0 16 = τ2 0 35 ∧ ∀ k, 0 ≤ k → k < 5 → τ1 62 k = τ2 17 k) : jq_Rel τ1 τ2 := by
  obtain ⟨⟨e0, e1, e2, e3, e4⟩, hn, hC, ⟨m1, m2, m3, m4⟩, hT, ⟨t1, t2, t3, t4⟩, -, hK⟩ := h
  unfold jq_Rel
  rw [g10 0 (by omega), g10 1 (by omega), g10 2 (by omega), g10 5 (by omega), g10 6 (by omega), g10 7 (by omega), g10 8 (by omega), g10 11 (by omega), g20 2 (by omega), g20 3 (by omega), g20 4 (by omega), g20 16 (by omega), g20 17 (by omega), g20 10 (by omega), g20 36 (by omega), g2 1 (by omega) (by omega), g2 2 (by omega) (by omega), g2 3 (by omega) (by omega), g2 4 (by omega) (by omega), g2 5 (by omega) (by omega), g2 6 (by omega) (by omega), g1 2 (by omega) (by omega), g1 4 (by omega) (by omega), g1 3 (by omega) (by omega)]
  refine ⟨⟨e0, e1, e2, e3, e4⟩, hn, hC.mv (fun k a b => g1 _ (by omega) (by omega)), ⟨m1, m2, m3, fun i a b => (m4 i a b).mv (fun k c d => g1 _ (by omega) (by omega))⟩, fun t a b => ?_, ⟨t1, t2, t3, t4⟩, hl, hK⟩
  rw [g1 (64 + 2 * t) (by omega) (by omega), g1 (65 + 2 * t) (by omega) (by omega)]
  exact hT t a b
/-- after a run on the committee of now -/
theorem pu_LE_rel (h : jq_Rel σ1 σ2) (e : pu_LE σ1 σ2 (σ1 0 7) m1 m2) : jq_Rel (jq_st m1 0 0 v) (jq_st m2 0 2 v) := by
  have hn := h.2.1
  obtain ⟨h1, h2, h3, h4, h5, h6, h7, h8⟩ := e
  have z1 : m1 0 = σ1 0 := h5 0 (by omega) (by omega) (by omega) (by omega) (by omega) (by omega)
  have z2 : m2 2 = σ2 2 := h6 2 (by omega) (by omega) (by omega) (by omega) (by omega)
  refine pu_end h (fun k a b c => h5 k (by omega) (by omega) (by omega) (by omega) (fun q => c (by unfold pu_scr; omega)) (fun q => c (by unfold pu_scr; omega))) (fun j _ => by rw [z1]) (fun k hk => h6 k (by omega) (by omega) (by omega) (by omega) (by omega)) (fun j a b => h7 j (by unfold pu_dynj; omega)) (fun j a b => by rw [z2]) (fun j hj => h8 j (by omega) (by omega)) ?_
  exact h.2.2.1.act h1.1 h1.2 (fun j a b c => h7 j c) (fun k hk => h5 _ (by omega) (by omega) (by omega) (by omega) (by omega) (by omega)) (fun j a b => by rw [z2]) h2
theorem pr_live {σ1 σ2 : jq_M} (h : jq_Rel σ1 σ2) (w1 : jq_wf jq_zX 132 σ1) (w2 : jq_wf jq_zM 18 σ2) (y1 : jq_lay jq_zX σ1) (y2 : jq_lay jq_zM σ2) {p1 : Int} (hp1 : jq_r p1) : ∃ (r : Int) (σ1' σ2' : jq_M), X10_live p1 σ1 = some (r, σ1') ∧ X11_live p1 σ2 = some (r, σ2') ∧ jq_Rel σ1' σ2' := by
  have hn := h.2.1
  have hCM := h.2.2.1
  obtain ⟨i0, i1, i2, i3, i4, i5, i6, -⟩ := h.2.2.1.1
  unfold X10_live X11_live
  rw [ps_within, pm_isFrom, Option.bind_some, Option.bind_some]
  by_cases hp : 0 ≤ p1 ∧ p1 ≤ 9999
  · rw [pu_i_p hp, if_neg (by decide), if_neg (by decide)]
    simp only [pu_lt]
    rw [pu_ld (σ := σ2) (by omega) (by omega), Option.bind_some]
    rcases hCM.2.2.2.1.1 with ⟨z1, z2⟩ | ⟨z1, z2, z3⟩
    · rw [if_pos z2, if_pos z1, ps_refuse, pm_refuse, pu_b2, pu_b2]
      exact pu_no h rfl rfl
    · rw [if_neg (show ¬ σ1 (σ1 0 7 + 13) 0 = 0 by omega), if_neg (show ¬ σ2 1 6 = -1 by omega)]
      obtain ⟨υ1, υ2, a1, a2, a3⟩ := pa_runs (σ1 := σ1) (σ2 := σ2) (o := σ1 0 7) (x := p1) ⟨hCM.1, hCM.2.1⟩ hCM.2.2.2.2 hCM.2.2.2.1 z1 (by omega) hp.1 (by omega)
      have hR := pu_LE_rel (v := 0) h a3
      obtain ⟨-, -, -, ⟨⟨k0, k1, k2⟩, k3, k4, k5, k6, k7, k8⟩, -⟩ := a3
      have asn : (if υ1 60 5 = 0 then (0 : Int) else 1) = υ1 60 5 := by split <;> omega
      have t2 : X3_tellTo 62 υ1 = some (jq_st (jq_st (jq_st (jq_st (jq_st υ1 62 0 (υ1 60 1)) 62 1 (υ1 60 2)) 62 2 (υ1 60 3)) 62 3 (υ1 60 4)) 62 4 (υ1 60 5)) := by
        unfold X3_tellTo
        rw [if_pos (show (5 : Int) = 5 from rfl), pu_sa (by omega) (by omega), Option.bind_some, pu_sa (by omega) (by omega), Option.bind_some, pu_sa (by omega) (by omega), Option.bind_some, pu_sa (by omega) (by omega), Option.bind_some, pu_lt, ps_number, Option.bind_some, pu_sa (by omega) (by omega), Option.bind_some]
        simp (disch := omega) only [pu_st_ne, asn]
      have t3 : jq_lp X11_live_b43 (0, υ2) = some (jq_st (jq_st (jq_st (jq_st (jq_st υ2 17 0 (υ2 16 0)) 17 1 (υ2 16 1)) 17 2 (υ2 16 2)) 17 3 (υ2 16 3)) 17 4 (υ2 16 4)) := by
        have s : ∀ (i : Int) (s : jq_M), 0 ≤ i → i < 5 → X11_live_b43 (i, s) = some (.inl (i + 1, jq_st s 17 i (s 16 i))) := fun i s a b => by
          unfold X11_live_b43
          dsimp only
          rw [if_pos b, pu_ld (by omega) (by omega), Option.bind_some, pu_sa (by omega) (by omega), Option.bind_some, pu_lt, pu_w (x := i + 1) (by omega) (by omega)]
        rw [jq_lp_inl (s 0 _ (by omega) (by omega)), jq_lp_inl (s _ _ (by omega) (by omega)), jq_lp_inl (s _ _ (by omega) (by omega)), jq_lp_inl (s _ _ (by omega) (by omega)), jq_lp_inl (s _ _ (by omega) (by omega))]
        refine jq_lp_inr ?_
        unfold X11_live_b43
        dsimp only
        rw [if_neg (by omega)]
        simp (disch := omega) only [pu_st_ne]
        rfl
      rw [a1, a2, Option.bind_some, Option.bind_some, t2, t3, Option.bind_some, Option.bind_some, ps_answer, pm_gives, pu_b2, pu_b2]
      have n62 : ∀ a b : Int, a ≠ b → ∀ (s : jq_M) (v : Int), jq_st s 62 b v 62 a = s 62 a := fun a b h s v => pu_st_b h
      have n17 : ∀ a b : Int, a ≠ b → ∀ (s : jq_M) (v : Int), jq_st s 17 b v 17 a = s 17 a := fun a b h s v => pu_st_b h
      have v2 : ∀ s : jq_M, jq_st s 0 35 1 0 31 = s 0 31 := fun s => pu_st_b (by omega)
      rw [v2]
      simp (disch := omega) only [pu_st_ne]
      rw [← k2]
      refine ⟨υ1 60 0, _, _, rfl, rfl, pu_told hR ?_ ?_ ?_ ?_ ?_⟩
      · intro k a b
        rw [pu_st_ne a, pu_st_ne a, pu_st_ne b, pu_st_ne b, pu_st_ne b, pu_st_ne b, pu_st_ne b, pu_st_ne a]
      · intro k a b
        rw [pu_st_ne a, pu_st_ne a, pu_st_ne b, pu_st_ne b, pu_st_ne b, pu_st_ne b, pu_st_ne b, pu_st_ne a]
      · intro j a
        by_cases q : j = 0
        · rw [q, pu_st_a, pu_st_a]
        · rw [pu_st_b q, pu_st_b a, pu_st_ne (show (0 : Int) ≠ 62 by omega), pu_st_ne (show (0 : Int) ≠ 62 by omega), pu_st_ne (show (0 : Int) ≠ 62 by omega), pu_st_ne (show (0 : Int) ≠ 62 by omega), pu_st_ne (show (0 : Int) ≠ 62 by omega), pu_st_b q]
      · intro j a
        by_cases q : j = 2
        · rw [q, pu_st_a, pu_st_a]
        · rw [pu_st_b q, pu_st_b a, pu_st_ne (show (0 : Int) ≠ 17 by omega), pu_st_ne (show (0 : Int) ≠ 17 by omega), pu_st_ne (show (0 : Int) ≠ 17 by omega), pu_st_ne (show (0 : Int) ≠ 17 by omega), pu_st_ne (show (0 : Int) ≠ 17 by omega), pu_st_b q]
      · refine ⟨by rw [pu_st_b (by omega), pu_st_a, pu_st_b (by omega), pu_st_a], fun k a b => ?_⟩
        rw [pu_st_ne (show (62 : Int) ≠ 0 by omega), pu_st_ne (show (62 : Int) ≠ 0 by omega), pu_st_ne (show (17 : Int) ≠ 0 by omega), pu_st_ne (show (17 : Int) ≠ 0 by omega)]
        rcases (show k = 0 ∨ k = 1 ∨ k = 2 ∨ k = 3 ∨ k = 4 by omega) with rfl | rfl | rfl | rfl | rfl
        · simp (disch := omega) only [n62, n17, pu_st_a]
          exact k3
        · simp (disch := omega) only [n62, n17, pu_st_a]
          exact k4
        · simp (disch := omega) only [n62, n17, pu_st_a]
          exact k5
        · simp (disch := omega) only [n62, n17, pu_st_a]
          exact k6
        · simp (disch := omega) only [n62, n17, pu_st_a]
          exact k7
  · rw [pu_i_n hp, if_pos rfl, if_pos rfl, ps_refuse, pm_refuse, pu_b2, pu_b2]
    exact pu_no h rfl rfl
end
