section
variable {α1 α2 m1 m2 τ1 τ2 σ σ1 σ2 : jq_M} {o n v x : Int}
/-- what a run counts -/
def pu_ctr (m1 m2 : jq_M) : Prop := (0 ≤ m1 60 0 ∧ m1 60 0 ≤ 300 ∧ m1 60 0 = m2 0 31) ∧ m1 60 1 = m2 16 0 ∧ m1 60 2 = m2 16 1 ∧ m1 60 3 = m2 16 2 ∧ m1 60 4 = m2 16 3 ∧ m1 60 5 = 0 ∧ m2 16 4 = 0 ∧ (jq_r (m2 16 2) ∧ jq_r (m2 16 3)) ∧ (0 ≤ m2 0 30 ∧ m2 0 30 < 65536 ∧ m1 60 6 = m2 0 30)
def pu_LR (α1 α2 : jq_M) (o : Int) (m1 m2 : jq_M) : Prop := pu_K m1 o m2 ∧ m2 1 4 ≤ 9999 ∧ pu_RS m1 o (m2 1) ∧ pu_ctr m1 m2 ∧ (∀ k, k ≠ o → k ≠ o + 3 → k ≠ o + 12 → k ≠ o + 19 → k ≠ 60 → k ≠ 61 → m1 k = α1 k) ∧ (∀ k, k ≠ 0 → k ≠ 1 → k ≠ 9 → k ≠ 15 → k ≠ 16 → m2 k = α2 k) ∧ (∀ j, ¬ pu_dynj j → m2 1 j = α2 1 j) ∧ ∀ j, j ≠ 30 → j ≠ 31 → m2 0 j = α2 0 j
/-- after an action, with counters set anew -/
theorem pu_LR.act {υ1 υ2 : jq_M} (h : pu_LR α1 α2 o m1 m2) (hoo : o = 5 ∨ o = 25) (hK : pu_K υ1 o υ2) (f1 : pu_F1 o m1 υ1) (f2 : pu_F2 m2 υ2) (hd : υ2 1 4 ≤ 9999) (g1 : ∀ k, k ≠ 60 → τ1 k = υ1 k) (g2 : ∀ k, k ≠ 0 → k ≠ 16 → τ2 k = υ2 k) (g3 : ∀ j, j ≠ 30 → j ≠ 31 → τ2 0 j = υ2 0 j) (hc : pu_ctr τ1 τ2) : pu_LR α1 α2 o τ1 τ2 := by
  obtain ⟨h1, h2, h3, h4, h5, h6, h7, h8⟩ := h
  have e1 : τ2 1 = υ2 1 := g2 1 (by omega) (by omega)
  have z : υ2 0 = m2 0 := f2.1 0 (by omega) (by omega)
  refine ⟨hK.mv (fun k a b => g1 _ (by omega)) e1, by rw [e1]; exact hd, ?_, hc, fun k a b c d e f => ?_, fun k a b c d e => ?_, fun j hj => ?_, fun j a b => ?_⟩
  · rw [e1]
    refine h3.cg (by have := h1.1.2.2.2.2.2.2.1; omega) (fun j a b => f2.2 j (by unfold pu_dynj; omega)) (fun k a b => ?_)
    rw [g1 _ (by omega), f1 _ (by omega) (by omega) (by omega) (by omega)]
  · rw [g1 k e, f1 k a b c d, h5 k a b c d e f]
  · rw [g2 k a e, f2.1 k b c, h6 k a b c d e]
  · rw [e1, f2.2 j hj, h7 j hj]
  · rw [g3 j a b, z, h8 j a b]
theorem pu_ctr.eq (h : pu_ctr m1 m2) (a : τ1 60 = m1 60) (b : τ2 0 = m2 0) (c : τ2 16 = m2 16) : pu_ctr τ1 τ2 := by
  unfold pu_ctr
  rw [a, b, c]
  exact h
theorem pu_LR.act0 (h : pu_LR α1 α2 o m1 m2) (hoo : o = 5 ∨ o = 25) (hK : pu_K τ1 o τ2) (f1 : pu_F1 o m1 τ1) (f2 : pu_F2 m2 τ2) (hd : τ2 1 4 ≤ 9999) : pu_LR α1 α2 o τ1 τ2 :=
  h.act hoo hK f1 f2 hd (fun _ _ => rfl) (fun _ _ _ => rfl) (fun _ _ _ => rfl) (h.2.2.2.1.eq (f1 60 (by omega) (by omega) (by omega) (by omega)) (f2.1 0 (by omega) (by omega)) (f2.1 16 (by omega) (by omega)))
theorem pu_div8 (h0 : 0 ≤ x) (h1 : x < 65536) : jq_div x 8 = some (x / 8) := by
  unfold jq_div
  rw [if_neg (by decide), Int.tdiv_eq_ediv_of_nonneg h0, pu_w (by omega) (by omega)]
/-- one draw on both sides -/
theorem pa_draw (hn : 0 < n) (hn6 : n ≤ 6) (s0 : 0 ≤ σ2 0 30) (s1 : σ2 0 30 < 65536) (e : σ1 60 6 = σ2 0 30) : ∃ r s : Int, X3_draw n σ1 = some (r, jq_st σ1 60 6 s) ∧ X11_draw n σ2 = some (r, jq_st σ2 0 30 s) ∧ 0 ≤ r ∧ r < n ∧ 0 ≤ s ∧ s < 65536 := by
  have w : jq_w (jq_w (σ2 0 30 * 3061) + 11279) = σ2 0 30 * 3061 + 11279 := by
    rw [pu_w (x := σ2 0 30 * 3061) (by omega) (by omega), pu_w (by omega) (by omega)]
  have r1 := Int.emod_nonneg (σ2 0 30 * 3061 + 11279) (show (65536 : Int) ≠ 0 by decide)
  have r2 := Int.emod_lt_of_pos (σ2 0 30 * 3061 + 11279) (show (0 : Int) < 65536 by decide)
  have q := pu_rem (a := σ2 0 30 * 3061 + 11279) (b := 65536) (by omega) (by decide) (by decide)
  generalize (σ2 0 30 * 3061 + 11279) % 65536 = s at q r1 r2
  have d := pu_div8 r1 r2
  have d0 : 0 ≤ s / 8 := by omega
  have q2 := pu_rem (a := s / 8) (b := n) d0 hn (by omega)
  have a1 := Int.emod_nonneg (s / 8) (show n ≠ 0 by omega)
  have a2 := Int.emod_lt_of_pos (s / 8) hn
  refine ⟨s / 8 % n, s, ?_, ?_, a1, a2, r1, r2⟩
  · unfold X3_draw
    rw [e, w, q, Option.bind_some, pu_lt, if_pos hn, pu_st_a, d, Option.bind_some, q2, Option.bind_some]
  · unfold X11_draw
    rw [w, q, Option.bind_some, pu_lt, pu_st_a, d, Option.bind_some, q2, Option.bind_some]
theorem pu_K.mv60 (h : pu_K m1 o m2) (hoo : o = 5 ∨ o = 25) (h1 : ∀ k, k ≠ 60 → τ1 k = m1 k) (h2 : τ2 1 = m2 1) : pu_K τ1 o τ2 := h.mv (fun k a b => h1 _ (by omega)) h2
/-- any: who and where by two draws -/
theorem pa_any (h : pu_LR α1 α2 o m1 m2) (hoo : o = 5 ∨ o = 25) : ∃ (r : Int) (τ1 τ2 : jq_M), X3_seatAny o m1 = some (r, τ1) ∧ X11_sitsAny m2 = some (r, τ2) ∧ pu_LR α1 α2 o τ1 τ2 ∧ (r = 0 ∨ r = 1) ∧ τ1 60 0 = m1 60 0 ∧ τ1 60 1 = m1 60 1 ∧ τ1 61 = m1 61 ∧ τ2 15 = m2 15 := by
  have hK := h.1
  obtain ⟨i0, i1, -⟩ := h.1.1
  obtain ⟨⟨c0, c1, c2, c3, c4, c5, c6⟩, -⟩ := h.1.2
  obtain ⟨⟨k1, k1', k2⟩, k3, k4, k5, k6, k7, k8, kr, k9, k10, k11⟩ := h.2.2.2.1
  unfold X3_seatAny X11_sitsAny
  rw [c2, pu_ld (by omega) (by omega), Option.bind_some]
  by_cases z : m2 1 1 = 0
  · rw [if_pos z, if_pos z]
    exact ⟨0, _, _, rfl, rfl, h, Or.inl rfl, rfl, rfl, rfl, rfl⟩
  · rw [if_neg z, if_neg z, Option.bind_some]
    obtain ⟨r1, s1, a1, a2, a3, a4, a5, a6⟩ := pa_draw (n := m2 1 1) (σ1 := m1) (σ2 := m2) (by omega) (by omega) k9 k10 k11
    obtain ⟨r2, s2, b1, b2, b3, b4, b5, b6⟩ := pa_draw (n := m2 1 0) (σ1 := jq_st m1 60 6 s1) (σ2 := jq_st m2 0 30 s1) (by omega) (by omega) (by rw [pu_st_a]; exact a5) (by rw [pu_st_a]; exact a6) (by rw [pu_st_a, pu_st_a])
    have K2 : pu_K (jq_st (jq_st m1 60 6 s1) 60 6 s2) o (jq_st (jq_st m2 0 30 s1) 0 30 s2) := hK.mv60 hoo (fun k hk => (pu_st_ne hk).trans (pu_st_ne hk)) ((pu_st_ne (by omega)).trans (pu_st_ne (by omega)))
    have e1 : jq_st (jq_st m2 0 30 s1) 0 30 s2 1 = m2 1 := (pu_st_ne (by omega)).trans (pu_st_ne (by omega))
    obtain ⟨r, τ1, τ2, d1, d2, d3, d4, d5, d6, d7⟩ := pa_sit (p := r1) (q := r2) K2 a3 (by rw [e1]; exact a4) b3 (by rw [e1]; exact b4)
    rw [a1, a2, pu_b2, pu_b2, pu_st_ne (show o ≠ 60 by omega), c0, b1, pu_b2, pu_ld (by omega) (by omega), Option.bind_some, pu_st_ne (show (1 : Int) ≠ 0 by omega), b2, pu_b2, d1, d2]
    have t60 : τ1 60 = jq_st (jq_st m1 60 6 s1) 60 6 s2 60 := d4 60 (by omega) (by omega) (by omega) (by omega)
    have t0 : τ2 0 = jq_st (jq_st m2 0 30 s1) 0 30 s2 0 := d5.1 0 (by omega) (by omega)
    have t16 : τ2 16 = m2 16 := (d5.1 16 (by omega) (by omega)).trans ((pu_st_ne (by omega)).trans (pu_st_ne (by omega)))
    refine ⟨r, τ1, τ2, rfl, rfl, ?_, d6, ?_, ?_, ?_, ?_⟩
    · have hL2 : pu_LR α1 α2 o (jq_st (jq_st m1 60 6 s1) 60 6 s2) (jq_st (jq_st m2 0 30 s1) 0 30 s2) := by
        refine h.act hoo hK (pu_F1_r _ _) (pu_F2_r _) h.2.1 (fun k hk => (pu_st_ne hk).trans (pu_st_ne hk)) (fun k a b => (pu_st_ne a).trans (pu_st_ne a)) (fun j a b => (pu_st_b a).trans (pu_st_b a)) ?_
        unfold pu_ctr
        rw [pu_st_b (show (0 : Int) ≠ 6 by omega), pu_st_b (show (0 : Int) ≠ 6 by omega), pu_st_b (show (1 : Int) ≠ 6 by omega), pu_st_b (show (1 : Int) ≠ 6 by omega), pu_st_b (show (2 : Int) ≠ 6 by omega), pu_st_b (show (2 : Int) ≠ 6 by omega), pu_st_b (show (3 : Int) ≠ 6 by omega), pu_st_b (show (3 : Int) ≠ 6 by omega), pu_st_b (show (4 : Int) ≠ 6 by omega), pu_st_b (show (4 : Int) ≠ 6 by omega), pu_st_b (show (5 : Int) ≠ 6 by omega), pu_st_b (show (5 : Int) ≠ 6 by omega), pu_st_a, pu_st_b (show (31 : Int) ≠ 30 by omega), pu_st_b (show (31 : Int) ≠ 30 by omega), pu_st_a, pu_st_ne (show (16 : Int) ≠ 0 by omega), pu_st_ne (show (16 : Int) ≠ 0 by omega)]
        exact ⟨⟨k1, k1', k2⟩, k3, k4, k5, k6, k7, k8, kr, b5, b6, rfl⟩
      exact hL2.act0 hoo d3 d4 d5 (by rw [d7, e1]; exact h.2.1)
    · rw [t60, pu_st_b (by omega), pu_st_b (by omega)]
    · rw [t60, pu_st_b (by omega), pu_st_b (by omega)]
    · rw [d4 61 (by omega) (by omega) (by omega) (by omega), pu_st_ne (by omega), pu_st_ne (by omega)]
    · rw [d5.1 15 (by omega) (by omega), pu_st_ne (by omega), pu_st_ne (by omega)]
theorem pa_spend (h : pu_LR α1 α2 o m1 m2) (hoo : o = 5 ∨ o = 25) (n0 : 1 ≤ n) (n1 : n ≤ 20) : ∃ (r : Int) (τ1 τ2 : jq_M), X3_spend o n m1 = some (r, τ1) ∧ X11_daysBy n m2 = some (r, τ2) ∧ pu_LR α1 α2 o τ1 τ2 ∧ (r = 0 ∨ r = 1) ∧ τ1 60 0 = m1 60 0 ∧ τ1 60 1 = m1 60 1 ∧ τ1 61 = m1 61 ∧ τ2 15 = m2 15 := by
  have hK := h.1
  have hD := h.2.1
  have i4 := h.1.1.2.2.2.2.1
  have c6 := h.1.2.1.2.2.2.2.2.2
  obtain ⟨⟨k1, k1', k2⟩, k3, k4, k5, k6, k7, k8, kr, k9, k10, k11⟩ := h.2.2.2.1
  unfold X3_spend X11_daysBy
  rw [c6, pu_ld (by omega) (by omega), Option.bind_some, pu_w (x := 9999 - n) (by omega) (by omega), pu_w (x := m2 1 4 + n) (by omega) (by omega)]
  by_cases z : 9999 < m2 1 4 + n
  · rw [if_pos z, if_pos (by omega)]
    exact ⟨0, _, _, rfl, rfl, h, Or.inl rfl, rfl, rfl, rfl, rfl⟩
  · have K2 : pu_K (jq_st m1 60 2 (jq_w (m1 60 2 + n))) o m2 := hK.mv60 hoo (fun k hk => pu_st_ne hk) rfl
    obtain ⟨r, υ1, υ2, e1, e2, e3, e4, e5, e6, e7⟩ := pa_days (n := n) K2 (by omega) (by omega) (by omega)
    have t16 : υ2 16 = m2 16 := e5.1 16 (by omega) (by omega)
    have t60 : υ1 60 = jq_st m1 60 2 (jq_w (m1 60 2 + n)) 60 := e4 60 (by omega) (by omega) (by omega) (by omega)
    have t0 : υ2 0 = m2 0 := e5.1 0 (by omega) (by omega)
    rw [if_neg z, if_neg (by omega), pu_lt, e1, pu_b2, pu_lt, pu_ld (by omega) (by omega), Option.bind_some, e2, pu_b2, pu_sa (by omega) (by omega), Option.bind_some, pu_ld (by omega) (by omega), Option.bind_some, pu_sa (by omega) (by omega), Option.bind_some, pu_st_b (show (3 : Int) ≠ 2 by omega), pu_st_b (show (1 : Int) ≠ 2 by omega), t16]
    refine ⟨1, _, _, rfl, rfl, ?_, Or.inr rfl, ?_, ?_, ?_, ?_⟩
    · have hL2 : pu_F1 o m1 (jq_st υ1 60 2 (m1 60 2)) := fun k a b c d => by
        by_cases q : k = 60
        · rw [q]
          funext j
          by_cases q2 : j = 2
          · rw [q2, pu_st_a]
          · rw [pu_st_b q2, t60, pu_st_b q2]
        · rw [pu_st_ne q, e4 k a b c d, pu_st_ne q]
      refine h.act hoo (υ1 := jq_st υ1 60 2 (m1 60 2)) (υ2 := υ2) (e3.mv60 hoo (fun k hk => pu_st_ne hk) rfl) hL2 e5 (by omega) (fun k hk => (pu_st_ne hk).trans (pu_st_ne hk).symm) (fun k a b => (pu_st_ne b).trans (pu_st_ne b)) (fun j a b => by rw [pu_st_ne (by omega), pu_st_ne (by omega)]) ?_
      unfold pu_ctr
      rw [pu_st_b (show (0 : Int) ≠ 3 by omega), pu_st_b (show (1 : Int) ≠ 3 by omega), pu_st_b (show (2 : Int) ≠ 3 by omega), pu_st_a, pu_st_b (show (4 : Int) ≠ 3 by omega), pu_st_b (show (5 : Int) ≠ 3 by omega), pu_st_b (show (6 : Int) ≠ 3 by omega), t60, pu_st_b (show (0 : Int) ≠ 2 by omega), pu_st_b (show (1 : Int) ≠ 2 by omega), pu_st_a, pu_st_b (show (4 : Int) ≠ 2 by omega), pu_st_b (show (5 : Int) ≠ 2 by omega), pu_st_b (show (6 : Int) ≠ 2 by omega), pu_st_ne (show (0 : Int) ≠ 16 by omega), pu_st_ne (show (0 : Int) ≠ 16 by omega), t0, pu_st_b (show (0 : Int) ≠ 1 by omega), pu_st_b (show (0 : Int) ≠ 2 by omega), pu_st_a, pu_st_b (show (2 : Int) ≠ 1 by omega), pu_st_a, pu_st_b (show (3 : Int) ≠ 1 by omega), pu_st_b (show (3 : Int) ≠ 2 by omega), pu_st_b (show (4 : Int) ≠ 1 by omega), pu_st_b (show (4 : Int) ≠ 2 by omega), t16, k4, k5]
      exact ⟨⟨k1, k1', k2⟩, k3, rfl, rfl, k6, k7, k8, ⟨jq_w_r _, kr.2⟩, k9, k10, k11⟩
    · rw [pu_st_b (by omega), t60, pu_st_b (by omega)]
    · rw [pu_st_b (by omega), t60, pu_st_b (by omega)]
    · rw [pu_st_ne (by omega), e4 61 (by omega) (by omega) (by omega) (by omega), pu_st_ne (by omega)]
    · rw [pu_st_ne (by omega), pu_st_ne (by omega), e5.1 15 (by omega) (by omega)]
theorem pa_agreeTo (h : pu_LR α1 α2 o m1 m2) (hoo : o = 5 ∨ o = 25) (n0 : 0 ≤ n) (n1 : n < m2 1 3) : ∃ (r : Int) (τ1 τ2 : jq_M), X3_agreeTo o n m1 = some (r, τ1) ∧ X11_agreesBy n m2 = some (r, τ2) ∧ pu_LR α1 α2 o τ1 τ2 ∧ (r = 0 ∨ r = 1) ∧ τ1 60 0 = m1 60 0 ∧ τ1 60 1 = m1 60 1 ∧ τ1 61 = m1 61 ∧ τ2 15 = m2 15 := by
  have hK := h.1
  have hD := h.2.1
  obtain ⟨⟨k1, k1', k2⟩, k3, k4, k5, k6, k7, k8, kr, k9, k10, k11⟩ := h.2.2.2.1
  obtain ⟨r, υ1, υ2, e1, e2, e3, e4, e5, e6, e7⟩ := pa_agree hK n0 n1
  have t16 : υ2 16 = m2 16 := e5.1 16 (by omega) (by omega)
  have t60 : υ1 60 = m1 60 := e4 60 (by omega) (by omega) (by omega) (by omega)
  have t0 : υ2 0 = m2 0 := e5.1 0 (by omega) (by omega)
  unfold X3_agreeTo X11_agreesBy
  rw [e1, e2, pu_b2, pu_b2, ps_number, Option.bind_some, pu_lt, t60]
  rcases e6 with rfl | rfl
  · rw [if_pos rfl, if_pos rfl]
    have w : jq_w (m1 60 3 + 0) = m1 60 3 := pu_w_r0 (by rw [k5]; exact kr.1)
    · refine ⟨0, _, _, rfl, rfl, ?_, Or.inl rfl, ?_, ?_, ?_, ?_⟩
      · refine h.act hoo e3 e4 e5 (by omega) (fun k hk => pu_st_ne hk) (fun _ _ _ => rfl) (fun _ _ _ => rfl) ?_
        unfold pu_ctr
        rw [w, pu_st_b (show (0 : Int) ≠ 3 by omega), pu_st_b (show (1 : Int) ≠ 3 by omega), pu_st_b (show (2 : Int) ≠ 3 by omega), pu_st_a, pu_st_b (show (4 : Int) ≠ 3 by omega), pu_st_b (show (5 : Int) ≠ 3 by omega), pu_st_b (show (6 : Int) ≠ 3 by omega), t60, t0, t16]
        exact ⟨⟨k1, k1', k2⟩, k3, k4, k5, k6, k7, k8, kr, k9, k10, k11⟩
      · rw [pu_st_b (by omega), t60]
      · rw [pu_st_b (by omega), t60]
      · rw [pu_st_ne (by omega), e4 61 (by omega) (by omega) (by omega) (by omega)]
      · rw [e5.1 15 (by omega) (by omega)]
  · rw [if_neg (by decide), if_neg (by decide), pu_ld (by omega) (by omega), Option.bind_some, pu_sa (by omega) (by omega), Option.bind_some, t16]
    refine ⟨1, _, _, rfl, rfl, ?_, Or.inr rfl, ?_, ?_, ?_, ?_⟩
    · refine h.act hoo e3 e4 e5 (by omega) (fun k hk => pu_st_ne hk) (fun k a b => pu_st_ne b) (fun j a b => by rw [pu_st_ne (by omega)]) ?_
      unfold pu_ctr
      rw [pu_st_b (show (0 : Int) ≠ 3 by omega), pu_st_b (show (1 : Int) ≠ 3 by omega), pu_st_b (show (2 : Int) ≠ 3 by omega), pu_st_a, pu_st_b (show (4 : Int) ≠ 3 by omega), pu_st_b (show (5 : Int) ≠ 3 by omega), pu_st_b (show (6 : Int) ≠ 3 by omega), pu_st_ne (show (0 : Int) ≠ 16 by omega), pu_st_b (show (0 : Int) ≠ 2 by omega), pu_st_b (show (1 : Int) ≠ 2 by omega), pu_st_a, pu_st_b (show (3 : Int) ≠ 2 by omega), pu_st_b (show (4 : Int) ≠ 2 by omega), t60, t0, t16, k5]
      exact ⟨⟨k1, k1', k2⟩, k3, k4, rfl, k6, k7, k8, ⟨jq_w_r _, kr.2⟩, k9, k10, k11⟩
    · rw [pu_st_b (by omega), t60]
    · rw [pu_st_b (by omega), t60]
    · rw [pu_st_ne (by omega), e4 61 (by omega) (by omega) (by omega) (by omega)]
    · rw [pu_st_ne (by omega), e5.1 15 (by omega) (by omega)]
theorem pa_letGo (h : pu_LR α1 α2 o m1 m2) (hoo : o = 5 ∨ o = 25) (n0 : 0 ≤ n) (n1 : n < m2 1 3) : ∃ (r : Int) (τ1 τ2 : jq_M), X3_letGo o n m1 = some (r, τ1) ∧ X11_withdrawsBy n m2 = some (r, τ2) ∧ pu_LR α1 α2 o τ1 τ2 ∧ (r = 0 ∨ r = 1) ∧ τ1 60 0 = m1 60 0 ∧ τ1 60 1 = m1 60 1 ∧ τ1 61 = m1 61 ∧ τ2 15 = m2 15 := by
  have hK := h.1
  have hD := h.2.1
  have i3 := h.1.1.2.2.2.1
  obtain ⟨⟨k1, k1', k2⟩, k3, k4, k5, k6, k7, k8, kr, k9, k10, k11⟩ := h.2.2.2.1
  unfold X3_letGo X11_withdrawsBy
  simp only [pm_isAgreed n0 (show n < 8 by omega), Option.bind_some, pu_i_0]
  by_cases g : m2 1 (102 + 5 * n) = 1
  · obtain ⟨r, υ1, υ2, e1, e2, e3, e4, e5, e6, e7⟩ := pa_fall hK n0 n1 g
    have t16 : υ2 16 = m2 16 := e5.1 16 (by omega) (by omega)
    have t60 : υ1 60 = m1 60 := e4 60 (by omega) (by omega) (by omega) (by omega)
    have t0 : υ2 0 = m2 0 := e5.1 0 (by omega) (by omega)
    rw [if_neg (fun z => z g), e1, pu_b2, pu_lt, if_pos e6.1, pu_ld (by omega) (by omega), Option.bind_some, e2, pu_b2, pu_sa (by omega) (by omega), Option.bind_some, t60]
    refine ⟨1, _, _, rfl, rfl, ?_, Or.inr rfl, ?_, ?_, ?_, ?_⟩
    · refine h.act hoo e3 e4 e5 (by omega) (fun k hk => pu_st_ne hk) (fun k a b => pu_st_ne b) (fun j a b => by rw [pu_st_ne (by omega)]) ?_
      unfold pu_ctr
      rw [pu_st_b (show (0 : Int) ≠ 4 by omega), pu_st_b (show (1 : Int) ≠ 4 by omega), pu_st_b (show (2 : Int) ≠ 4 by omega), pu_st_b (show (3 : Int) ≠ 4 by omega), pu_st_a, pu_st_b (show (5 : Int) ≠ 4 by omega), pu_st_b (show (6 : Int) ≠ 4 by omega), pu_st_ne (show (0 : Int) ≠ 16 by omega), pu_st_b (show (0 : Int) ≠ 3 by omega), pu_st_b (show (1 : Int) ≠ 3 by omega), pu_st_b (show (2 : Int) ≠ 3 by omega), pu_st_a, pu_st_b (show (4 : Int) ≠ 3 by omega), t60, t0, t16, k6]
      exact ⟨⟨k1, k1', k2⟩, k3, k4, k5, rfl, k7, k8, ⟨kr.1, jq_w_r _⟩, k9, k10, k11⟩
    · rw [pu_st_b (by omega), t60]
    · rw [pu_st_b (by omega), t60]
    · rw [pu_st_ne (by omega), e4 61 (by omega) (by omega) (by omega) (by omega)]
    · rw [pu_st_ne (by omega), e5.1 15 (by omega) (by omega)]
  · have e1 : X1_letFall o n m1 = some (0, m1) := by
      unfold X1_letFall
      rw [ps_isAgreed hK.1 hK.2 n0 n1, Option.bind_some, pu_i_n g, if_pos rfl]
    have w : jq_w (m1 60 4 + 0) = m1 60 4 := pu_w_r0 (by rw [k6]; exact kr.2)
    have w2 : jq_st m1 60 4 (m1 60 4) = m1 := by
      funext k j
      by_cases q : k = 60 ∧ j = 4
      · rw [q.1, q.2, pu_st_a]
      · by_cases q1 : k = 60
        · rw [q1, pu_st_b (by omega)]
        · rw [pu_st_ne q1]
    rw [if_pos g, e1, pu_b2, pu_lt, w, w2, if_neg (by decide)]
    exact ⟨0, _, _, rfl, rfl, h, Or.inl rfl, rfl, rfl, rfl, rfl⟩
theorem ps_at {row : Int} (n0 : 0 ≤ n) (n1 : n < 60) : X7_at row n σ = some (σ row n) := by
  unfold X7_at
  rw [if_neg (by omega), if_pos n1, pu_ld n0 n1]
  rfl
theorem ps_wordAt (n0 : 0 ≤ n) (n1 : n < 60) : X7_wordAt o n σ = some (σ (o + 1) n) := by
  unfold X7_wordAt
  rw [ps_at n0 n1]
  rfl
theorem ps_firstAt (n0 : 0 ≤ n) (n1 : n < 60) : X7_firstAt o n σ = some (σ (o + 2) n) := by
  unfold X7_firstAt
  rw [ps_at n0 n1]
  rfl
theorem ps_secondAt (n0 : 0 ≤ n) (n1 : n < 60) : X7_secondAt o n σ = some (σ (o + 3) n) := by
  unfold X7_secondAt
  rw [ps_at n0 n1]
  rfl
theorem ps_mateAt (n0 : 0 ≤ n) (n1 : n < 60) : X7_mateAt o n σ = some (σ (o + 4) n) := by
  unfold X7_mateAt
  rw [ps_at n0 n1]
  rfl
/-- one line that acts -/
theorem pa_act (h : pu_LR α1 α2 o m1 m2) (hoo : o = 5 ∨ o = 25) (n0 : 0 ≤ n) (n1 : n < m2 1 6) (hW : 13 ≤ m1 (o + 14) n) (hW2 : m1 (o + 14) n ≤ 20) : ∃ (r : Int) (τ1 τ2 : jq_M), X3_act o n m1 = some (r, τ1) ∧ X11_does (138 + 6 * n) m2 = some (r, τ2) ∧ pu_LR α1 α2 o τ1 τ2 ∧ (r = 0 ∨ r = 1) ∧ τ1 60 0 = m1 60 0 ∧ τ1 60 1 = m1 60 1 ∧ τ1 61 = m1 61 ∧ τ2 15 = m2 15 := by
  have hK := h.1
  have hD := h.2.1
  obtain ⟨i0, i1, i2, i3, i4, i5, i6, -⟩ := h.1.1
  have key : ∀ {a b : Option (Int × jq_M)}, (∃ (r : Int) (τ1 τ2 : jq_M), a = some (r, τ1) ∧ b = some (r, τ2) ∧ pu_K τ1 o τ2 ∧ pu_F1 o m1 τ1 ∧ pu_F2 m2 τ2 ∧ (r = 0 ∨ r = 1) ∧ τ2 1 4 = m2 1 4) → ∃ (r : Int) (τ1 τ2 : jq_M), a = some (r, τ1) ∧ b = some (r, τ2) ∧ pu_LR α1 α2 o τ1 τ2 ∧ (r = 0 ∨ r = 1) ∧ τ1 60 0 = m1 60 0 ∧ τ1 60 1 = m1 60 1 ∧ τ1 61 = m1 61 ∧ τ2 15 = m2 15 := by
    intro a b ⟨r, τ1, τ2, a1, a2, a3, a4, a5, a6, a7⟩
    have t60 : τ1 60 = m1 60 := a4 60 (by omega) (by omega) (by omega) (by omega)
    refine ⟨r, τ1, τ2, a1, a2, h.act0 hoo a3 a4 a5 (by omega), a6, by rw [t60], by rw [t60], a4 61 (by omega) (by omega) (by omega) (by omega), a5.1 15 (by omega) (by omega)⟩
  have hl : pu_line (m2 1) (m1 (o + 14)) (m1 (o + 17)) n (m2 1 6) (m1 (o + 14) n) (m1 (o + 15) n) (m1 (o + 16) n) (m1 (o + 17) n) := by
    rcases h.2.2.1.1 with z | ⟨z1, z2, z3, z4⟩
    · omega
    · exact z4 n n0 n1
  unfold X3_act X11_does
  rw [ps_firstAt n0 (by omega), Option.bind_some, ps_secondAt n0 (by omega), Option.bind_some, ps_wordAt n0 (by omega), Option.bind_some, show o + 13 + 2 = o + 15 by omega, show o + 13 + 3 = o + 16 by omega, show o + 13 + 1 = o + 14 by omega, pu_w (x := 138 + 6 * n + 1) (by omega) (by omega), pu_ld (by omega) (by omega), Option.bind_some, pu_ld (by omega) (by omega), Option.bind_some, show 138 + 6 * n + 1 = 139 + 6 * n by omega]
  unfold pu_line at hl
  generalize m1 (o + 14) n = W at hl hW hW2 ⊢
  generalize m1 (o + 15) n = F at hl ⊢
  generalize m1 (o + 16) n = S at hl ⊢
  generalize hR : m2 1 (138 + 6 * n) = R at hl ⊢
  rcases hl with ⟨rfl, rfl, rfl, rfl, a1, a2, a3, a4⟩ | ⟨rfl, rfl, rfl, a1, a2⟩ | ⟨rfl, rfl, rfl, rfl, a1, a2, a3, a4⟩ | ⟨rfl, rfl, rfl, a1, a2⟩ | ⟨rfl, rfl, rfl, a1, a2⟩ | ⟨hw, rfl, rfl, a1, a2⟩ | ⟨rfl, rfl⟩ | ⟨rfl, -⟩ | ⟨rfl, -⟩ | ⟨rfl, -⟩ | ⟨rfl, -⟩
  · rw [if_pos rfl, if_pos rfl, pu_w (x := 138 + 6 * n + 2) (by omega) (by omega), pu_ld (by omega) (by omega), Option.bind_some, show 138 + 6 * n + 2 = 140 + 6 * n by omega]
    obtain ⟨r, τ1, τ2, d1, d2, d3⟩ := key (pa_sit hK a1 a2 a3 a4)
    rw [d1, d2, pu_b2, pu_b2]
    exact ⟨r, τ1, τ2, rfl, rfl, d3⟩
  · obtain ⟨d1, d2, d3, d4, d5⟩ := pa_rise hK a1 a2
    have e2 : X11_risesBy (m2 1 (139 + 6 * n)) m2 = some (if m2 1 (9 + 2 * (m2 1 (139 + 6 * n))) = -1 then 0 else 1, jq_st m2 1 (9 + 2 * (m2 1 (139 + 6 * n))) (-1)) := by
      generalize m2 1 (139 + 6 * n) = p at a1 a2 ⊢
      unfold X11_risesBy
      rw [pm_seatOf a1 (by omega), Option.bind_some]
      unfold X11_risesBy_j14
      by_cases z : m2 1 (9 + 2 * p) = -1
      · rw [if_pos z, if_pos z, pm_partyRow a1 (by omega), Option.bind_some, pu_w (x := 8 + 2 * p + 1) (by omega) (by omega), show 8 + 2 * p + 1 = 9 + 2 * p by omega, pu_sa (by omega) (by omega), Option.bind_some]
      · rw [if_neg z, if_neg z, pm_partyRow a1 (by omega), Option.bind_some, pu_w (x := 8 + 2 * p + 1) (by omega) (by omega), show 8 + 2 * p + 1 = 9 + 2 * p by omega, pu_sa (by omega) (by omega), Option.bind_some]
    obtain ⟨r, τ1, τ2, d1, d2, d3⟩ := key ⟨_, _, _, d1, e2, d2, d3, d4, by split <;> omega, d5⟩
    rw [if_neg (by decide), if_pos rfl, if_neg (by decide), if_pos rfl, d1, d2, pu_b2, pu_b2]
    exact ⟨r, τ1, τ2, rfl, rfl, d3⟩
  · rw [if_neg (by decide), if_neg (by decide), if_pos rfl, if_neg (by decide), if_neg (by decide), if_pos rfl, pu_w (x := 138 + 6 * n + 2) (by omega) (by omega), pu_ld (by omega) (by omega), Option.bind_some, show 138 + 6 * n + 2 = 140 + 6 * n by omega]
    obtain ⟨r, τ1, τ2, d1, d2, d3⟩ := key (pa_swap hK a1 a2 a3 a4)
    rw [d1, d2, pu_b2, pu_b2]
    exact ⟨r, τ1, τ2, rfl, rfl, d3⟩
  · obtain ⟨υ1, υ2, e1, e2, e3, e4, e5, e6⟩ := pa_turn hK a1 (show m2 1 (139 + 6 * n) ≤ 99 by omega)
    obtain ⟨r, τ1, τ2, d1, d2, d3⟩ := key ⟨1, υ1, υ2, rfl, rfl, e3, e4, e5, Or.inr rfl, e6⟩
    unfold X11_turnsAll
    rw [if_neg (by decide), if_neg (by decide), if_neg (by decide), if_pos rfl, if_neg (by decide), if_neg (by decide), if_neg (by decide), if_pos rfl, e1, e2, Option.bind_some, Option.bind_some, pu_b2]
    exact ⟨r, τ1, τ2, d1, d2, d3⟩
  · obtain ⟨r, τ1, τ2, d1, d2, d3⟩ := pa_spend h hoo a1 a2
    rw [if_neg (by decide), if_neg (by decide), if_neg (by decide), if_neg (by decide), if_pos rfl, if_neg (by decide), if_neg (by decide), if_neg (by decide), if_neg (by decide), if_pos rfl, d1, d2, pu_b2, pu_b2]
    exact ⟨r, τ1, τ2, rfl, rfl, d3⟩
  · rcases hw with rfl | rfl
    · obtain ⟨r, τ1, τ2, d1, d2, d3⟩ := pa_agreeTo h hoo a1 a2
      rw [if_neg (by decide), if_neg (by decide), if_neg (by decide), if_neg (by decide), if_neg (by decide), if_pos rfl, if_neg (by decide), if_neg (by decide), if_neg (by decide), if_neg (by decide), if_neg (by decide), if_pos rfl, d1, d2, pu_b2, pu_b2]
      exact ⟨r, τ1, τ2, rfl, rfl, d3⟩
    · obtain ⟨r, τ1, τ2, d1, d2, d3⟩ := pa_letGo h hoo a1 a2
      rw [if_neg (by decide), if_neg (by decide), if_neg (by decide), if_neg (by decide), if_neg (by decide), if_neg (by decide), if_pos rfl, if_neg (by decide), if_neg (by decide), if_neg (by decide), if_neg (by decide), if_neg (by decide), if_neg (by decide), if_pos rfl, d1, d2, pu_b2, pu_b2]
      exact ⟨r, τ1, τ2, rfl, rfl, d3⟩
  · obtain ⟨r, τ1, τ2, d1, d2, d3⟩ := pa_any h hoo
    rw [if_neg (by decide), if_neg (by decide), if_neg (by decide), if_neg (by decide), if_neg (by decide), if_neg (by decide), if_neg (by decide), if_neg (by decide), if_neg (by decide), if_neg (by decide), if_neg (by decide), if_neg (by decide), if_neg (by decide), if_neg (by decide), if_pos rfl, d1, d2, pu_b2, pu_b2]
    exact ⟨r, τ1, τ2, rfl, rfl, d3⟩
  · omega
  · omega
  · omega
  · omega
end
