section
variable {α1 α2 m1 m2 τ1 τ2 σ σ1 σ2 : jq_M} {o n v x k : Int}
theorem pa_count (h : pu_LR α1 α2 o m1 m2) (hoo : o = 5 ∨ o = 25) (hc : m1 60 0 ≠ 300) : pu_LR α1 α2 o (jq_st m1 60 0 (jq_w (m1 60 0 + 1))) (jq_st m2 0 31 (jq_w (m2 0 31 + 1))) := by
  obtain ⟨⟨k1, k1', k2⟩, k3, k4, k5, k6, k7, k8, kr, k9, k10, k11⟩ := h.2.2.2.1
  refine h.act hoo h.1 (pu_F1_r _ _) (pu_F2_r _) h.2.1 (fun k hk => pu_st_ne hk) (fun k a b => pu_st_ne a) (fun j a b => pu_st_b b) ?_
  unfold pu_ctr
  rw [pu_st_a, pu_st_b (show (1 : Int) ≠ 0 by omega), pu_st_b (show (2 : Int) ≠ 0 by omega), pu_st_b (show (3 : Int) ≠ 0 by omega), pu_st_b (show (4 : Int) ≠ 0 by omega), pu_st_b (show (5 : Int) ≠ 0 by omega), pu_st_b (show (6 : Int) ≠ 0 by omega), pu_st_a, pu_st_b (show (30 : Int) ≠ 31 by omega), pu_st_ne (show (16 : Int) ≠ 0 by omega), pu_w (x := m1 60 0 + 1) (by omega) (by omega), pu_w (x := m2 0 31 + 1) (by omega) (by omega)]
  exact ⟨⟨by omega, by omega, by omega⟩, k3, k4, k5, k6, k7, k8, kr, k9, k10, k11⟩
theorem pa_failed (h : pu_LR α1 α2 o m1 m2) (hoo : o = 5 ∨ o = 25) {y : Int} (hy : y = v) : pu_LR α1 α2 o (jq_st m1 60 1 v) (jq_st m2 16 0 y) := by
  obtain ⟨⟨k1, k1', k2⟩, k3, k4, k5, k6, k7, k8, kr, k9, k10, k11⟩ := h.2.2.2.1
  refine h.act hoo h.1 (pu_F1_r _ _) (pu_F2_r _) h.2.1 (fun k hk => pu_st_ne hk) (fun k a b => pu_st_ne b) (fun j a b => by rw [pu_st_ne (by omega)]) ?_
  unfold pu_ctr
  rw [pu_st_a, pu_st_b (show (0 : Int) ≠ 1 by omega), pu_st_b (show (2 : Int) ≠ 1 by omega), pu_st_b (show (3 : Int) ≠ 1 by omega), pu_st_b (show (4 : Int) ≠ 1 by omega), pu_st_b (show (5 : Int) ≠ 1 by omega), pu_st_b (show (6 : Int) ≠ 1 by omega), pu_st_a, pu_st_b (show (1 : Int) ≠ 0 by omega), pu_st_b (show (2 : Int) ≠ 0 by omega), pu_st_b (show (3 : Int) ≠ 0 by omega), pu_st_b (show (4 : Int) ≠ 0 by omega), pu_st_ne (show (0 : Int) ≠ 16 by omega)]
  exact ⟨⟨k1, k1', k2⟩, hy.symm, k4, k5, k6, k7, k8, kr, k9, k10, k11⟩
theorem pa_does1 (n0 : 0 ≤ n) (n1 : n < 60) (hR : 20 < σ 1 (138 + 6 * n)) : X11_does (138 + 6 * n) σ = some (1, σ) := by
  unfold X11_does
  rw [pu_w (x := 138 + 6 * n + 1) (by omega) (by omega), pu_ld (by omega) (by omega), Option.bind_some, pu_ld (by omega) (by omega), Option.bind_some, if_neg (by omega), if_neg (by omega), if_neg (by omega), if_neg (by omega), if_neg (by omega), if_neg (by omega), if_neg (by omega), if_neg (by omega)]
/-- one counted line -/
theorem pa_step (h : pu_LR α1 α2 o m1 m2) (hoo : o = 5 ∨ o = 25) (hI : pu_LI (α1 (o + 14)) (α1 (o + 17)) (m1 61) (m2 15) (α2 1 6) n) (n0 : 0 ≤ n) (n1 : n < α2 1 6) (hw : α1 (o + 14) n ≠ 26) (hc : m1 60 0 ≠ 300) (hr : jq_r (m1 60 1)) (k0 : 0 ≤ k) (k1 : k < 1000000) : (∃ τ1 τ2, X3_run_b40 o (n, k, m1) = some (.inr (.inr (.inl τ1))) ∧ X11_lives_b32 (n, m2) = some (.inr (.inr (.inl τ2))) ∧ pu_LR α1 α2 o τ1 τ2) ∨ ∃ n' τ1 τ2, X3_run_b40 o (n, k, m1) = some (.inl (n', k + 1, τ1)) ∧ X11_lives_b32 (n, m2) = X11_lives_j178 n' τ2 ∧ pu_LR α1 α2 o τ1 τ2 ∧ pu_LI (α1 (o + 14)) (α1 (o + 17)) (τ1 61) (τ2 15) (α2 1 6) n' ∧ 0 ≤ n' ∧ n' ≤ α2 1 6 ∧ τ1 60 0 = m1 60 0 + 1 ∧ jq_r (τ1 60 1) := by
  obtain ⟨e1, e2, e3, hP⟩ := pa_prog h hoo
  have p1 := hP.1
  obtain ⟨⟨q1, q1', q2⟩, q3, -⟩ := h.2.2.2.1
  have hL : m1 (o + 13) 2 = α2 1 6 := by
    rcases h.2.2.1.1 with z | ⟨z1, z2, z3, z4⟩
    · omega
    · omega
  have h3 := pa_count h hoo hc
  have s60 : jq_st m1 60 0 (jq_w (m1 60 0 + 1)) 60 0 = m1 60 0 + 1 := by rw [pu_st_a, pu_w (by omega) (by omega)]
  have s601 : jq_st m1 60 0 (jq_w (m1 60 0 + 1)) 60 1 = m1 60 1 := pu_st_b (by omega)
  have s61 : jq_st m1 60 0 (jq_w (m1 60 0 + 1)) 61 = m1 61 := pu_st_ne (by omega)
  have s15 : jq_st m2 0 31 (jq_w (m2 0 31 + 1)) 15 = m2 15 := pu_st_ne (by omega)
  have s16 : jq_st m2 0 31 (jq_w (m2 0 31 + 1)) 16 0 = m1 60 1 := by rw [pu_st_ne (by omega), q3]
  obtain ⟨f1, f2, f3, -⟩ := pa_prog h3 hoo
  have wd := pa_words h3 hoo n0 n1
  unfold X3_run_b40 X11_lives_b32
  dsimp only
  rw [if_pos k1, if_pos (show n < m1 (o + 13) 2 by omega), ps_wordAt n0 (by omega), Option.bind_some, show o + 13 + 1 = o + 14 by omega, e1, if_neg hw, if_neg hc, pu_ld (σ := m2) (by omega) (by omega), Option.bind_some, if_pos (show n < m2 1 6 by omega), if_neg (show ¬ m2 0 31 = 300 by omega)]
  simp only [pu_lt]
  rw [pu_w (x := 6 * n) (by omega) (by omega), pu_w (x := 138 + 6 * n) (by omega) (by omega)]
  rw [← s61, ← s15] at hI
  generalize jq_st m1 60 0 (jq_w (m1 60 0 + 1)) = s1 at h3 s60 s601 f1 f2 wd hI ⊢
  generalize jq_st m2 0 31 (jq_w (m2 0 31 + 1)) = s2 at h3 s16 f3 wd hI ⊢
  clear s61 s15
  rw [← s601] at hr s16
  rw [← s60]
  rw [pu_ld (σ := s2) (by omega) (by omega), Option.bind_some]
  have one : 20 < s2 1 (138 + 6 * n) → (jq_b2 (X11_does (138 + 6 * n) s2) fun v13 s14 => if v13 = 0 then X11_lives_j112 n (138 + 6 * n) 0 (s2 16 0) 1 s14 else X11_lives_j112 n (138 + 6 * n) 0 (s2 16 0) 0 s14) = X11_lives_j112 n (138 + 6 * n) 0 (s2 16 0) 0 s2 := fun g => by
    rw [pa_does1 n0 (by omega) g, pu_b2, if_neg (by decide)]
  have two : jq_w (s2 16 0 + 0) = s2 16 0 := pu_w_r0 (by rw [s16]; exact hr)
  rcases wd with ⟨w1, w2, w3⟩ | ⟨w1, w2, w3, w4⟩ | ⟨w1, w2, w3, w4, w5⟩ | ⟨w1, w2⟩ | ⟨w1, w2⟩
  · right
    obtain ⟨r, τ1, τ2, a1, a2, a3, a4, a5, a6, a7, a8⟩ := pa_act h3 hoo n0 (show n < s2 1 6 by omega) (by rw [f1]; exact w1) (by rw [f1]; exact w2)
    obtain ⟨g1, g2, g3, -⟩ := pa_prog a3 hoo
    have w6 : τ2 1 (138 + 6 * n) = s2 1 (138 + 6 * n) := by
      rw [a3.2.2.2.2.2.2.1 _ (by unfold pu_dynj; omega), h3.2.2.2.2.2.2.1 _ (by unfold pu_dynj; omega)]
    rw [if_neg (show ¬ α1 (o + 14) n = 21 by omega), if_neg (show ¬ α1 (o + 14) n = 25 by omega), if_neg (show ¬ α1 (o + 14) n = 27 by omega), if_neg (show ¬ s2 1 (138 + 6 * n) = 24 by omega), pu_ld (by omega) (by omega), Option.bind_some, a1, a2, pu_b2, pu_b2]
    have fin : ∀ z : Int, z = 0 ∨ z = 1 → ∃ n' υ1 υ2, X3_run_j209 o n k (s1 60 1) z τ1 = some (.inl (n', k + 1, υ1)) ∧ X11_lives_j112 n (138 + 6 * n) 0 (s2 16 0) z τ2 = X11_lives_j178 n' υ2 ∧ pu_LR α1 α2 o υ1 υ2 ∧ pu_LI (α1 (o + 14)) (α1 (o + 17)) (υ1 61) (υ2 15) (α2 1 6) n' ∧ 0 ≤ n' ∧ n' ≤ α2 1 6 ∧ υ1 60 0 = s1 60 0 ∧ jq_r (υ1 60 1) := by
      intro z hz
      have nz : (if z = 0 then (0 : Int) else 1) = z := by split <;> omega
      unfold X3_run_j209 X11_lives_j112 X11_lives_j141 X11_lives_j175
      have u1 : jq_st τ2 16 0 (jq_w (s2 16 0 + z)) 1 = τ2 1 := pu_st_ne (by omega)
      rw [ps_number, nz, Option.bind_some, pu_lt, pu_lt, pu_lt, pu_sa (by omega) (by omega), Option.bind_some, pu_ld (by omega) (by omega), Option.bind_some, u1, if_neg (show ¬ τ2 1 (138 + 6 * n) = 22 by omega), Option.bind_some, if_pos (show τ2 1 (138 + 6 * n) < 2100 by omega), pu_w (x := n + 1) (by omega) (by omega), pu_w (x := k + 1) (by omega) (by omega)]
      refine ⟨n + 1, _, _, rfl, rfl, pa_failed a3 hoo (show jq_w (s2 16 0 + z) = jq_w (s1 60 1 + z) by rw [s16]), ?_, by omega, by omega, ?_, ?_⟩
      · rw [pu_st_ne (by omega), pu_st_ne (by omega), a7, a8]
        exact hI.next (by omega)
      · rw [pu_st_b (by omega), a5]
      · rw [pu_st_a]
        exact jq_w_r _
    rcases a4 with rfl | rfl
    · rw [if_pos rfl, if_pos rfl]
      exact fin 1 (Or.inr rfl)
    · rw [if_neg (by decide), if_neg (by decide)]
      exact fin 0 (Or.inl rfl)
  · right
    obtain ⟨r, τ, a1, a2, a3⟩ := pa_so h3 hoo n0 (show n < s2 1 6 by omega) (by rw [f1]; exact w1)
    obtain ⟨b1, b2, b3, b4⟩ := hP.2.2.1 n n0 n1 w1
    have t1 : τ 1 = s2 1 := a3 1 (by omega)
    have h4 : pu_LR α1 α2 o s1 τ := h3.mv15 hoo (fun _ _ => rfl) (fun k a b => a3 k a)
    have t15 : τ 15 = s2 15 := a3 15 (by omega)
    rw [if_pos w1, a1, Option.bind_some, if_neg (show ¬ s2 1 (138 + 6 * n) = 24 by omega), pu_ld (σ := s2) (by omega) (by omega), Option.bind_some, one (by omega)]
    unfold X11_lives_j112 X11_lives_j141
    rw [two, pu_sa (by omega) (by omega), Option.bind_some, pu_st_same, pu_ld (σ := s2) (by omega) (by omega), Option.bind_some, if_neg (show ¬ s2 1 (138 + 6 * n) = 22 by omega), Option.bind_some, if_neg (show ¬ s2 1 (138 + 6 * n) < 2100 by omega), a2, pu_b2]
    by_cases z : r = 0
    · rw [if_pos z, if_pos z, ps_mateAt n0 (by omega), Option.bind_some, show o + 13 + 4 = o + 17 by omega, f2, pu_w (x := 138 + 6 * n + 4) (by omega) (by omega), pu_ld (σ := τ) (by omega) (by omega), Option.bind_some, t1, show 138 + 6 * n + 4 = 142 + 6 * n by omega, w4, pu_w (x := α1 (o + 17) n + 1) (by omega) (by omega), pu_w (x := k + 1) (by omega) (by omega)]
      exact ⟨_, _, _, rfl, rfl, h4, by rw [t15]; exact hI.jump hP n0 n1 w1, by omega, by omega, rfl, hr⟩
    · unfold X11_lives_j175
      rw [if_neg z, if_neg z, pu_w (x := n + 1) (by omega) (by omega), pu_w (x := k + 1) (by omega) (by omega)]
      exact ⟨_, _, _, rfl, rfl, h4, by rw [t15]; exact hI.next (by omega), by omega, by omega, rfl, hr⟩
  · right
    have bl : X3_beginLoop (o + 13) n s1 = some (jq_st s1 61 n (s1 (o + 15) n)) := by
      unfold X3_beginLoop
      rw [if_neg (by omega), if_pos (by omega), ps_firstAt n0 (by omega), Option.bind_some, pu_sa n0 (by omega), show o + 13 + 2 = o + 15 by omega]
      rfl
    rw [if_neg (show ¬ α1 (o + 14) n = 21 by omega), if_pos w1, bl, Option.bind_some, if_neg (show ¬ s2 1 (138 + 6 * n) = 24 by omega), pu_ld (by omega) (by omega), Option.bind_some, one (by omega)]
    unfold X11_lives_j112 X11_lives_j141 X11_lives_j175
    rw [two, pu_sa (by omega) (by omega), Option.bind_some, pu_st_same, pu_ld (σ := s2) (by omega) (by omega), Option.bind_some, if_pos w2, pu_w (x := 138 + 6 * n + 1) (by omega) (by omega), show 138 + 6 * n + 1 = 139 + 6 * n by omega, pu_ld (σ := s2) (by omega) (by omega), Option.bind_some, w3, pu_sa (by omega) (by omega), Option.bind_some, pu_ld (by omega) (by omega), Option.bind_some, pu_st_ne (show (1 : Int) ≠ 15 by omega), if_pos (show s2 1 (138 + 6 * n) < 2100 by omega), pu_w (x := n + 1) (by omega) (by omega), pu_w (x := k + 1) (by omega) (by omega), pu_w (x := s1 (o + 15) n - 1) (by omega) (by omega)]
    refine ⟨_, _, _, rfl, rfl, h3.mv15 hoo (fun k hk => pu_st_ne hk) (fun k a b => pu_st_ne b), ?_, by omega, by omega, ?_, ?_⟩
    · intro e a b c d f g
      by_cases u : α1 (o + 17) e = n
      · rw [u, pu_st_a, pu_st_a]
        omega
      · rw [pu_st_b u, pu_st_b u]
        exact hI e a b c d (by omega) (by omega)
    · rw [pu_st_ne (by omega)]
    · rw [pu_st_ne (by omega)]
      exact hr
  · omega
  · left
    rw [if_neg (show ¬ α1 (o + 14) n = 21 by omega), if_neg (show ¬ α1 (o + 14) n = 25 by omega), if_pos w1, if_pos w2]
    exact ⟨_, _, rfl, rfl, h3⟩
end
