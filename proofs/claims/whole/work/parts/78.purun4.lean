section
variable {α1 α2 m1 m2 τ1 τ2 σ σ1 σ2 : jq_M} {o n v x k : Int}
/-- what a run ends in -/
def pu_LX (α1 α2 : jq_M) (o : Int) (e1 e2 : jq_M ⊕ (jq_M ⊕ jq_M)) : Prop := ∃ τ1 τ2, pu_LR α1 α2 o τ1 τ2 ∧ (e1 = .inl τ1 ∧ e2 = .inl τ2 ∨ e1 = .inr (.inl τ1) ∧ e2 = .inr (.inl τ2) ∨ e1 = .inr (.inr τ1) ∧ e2 = .inr (.inr τ2))
theorem pa_run (hoo : o = 5 ∨ o = 25) : ∀ (D : Nat) (n : Int) (m1 m2 : jq_M) (k : Int), pu_LR α1 α2 o m1 m2 → pu_LI (α1 (o + 14)) (α1 (o + 17)) (m1 61) (m2 15) (α2 1 6) n → 0 ≤ n → n ≤ α2 1 6 → (n < α2 1 6 → α1 (o + 14) n ≠ 26) → jq_r (m1 60 1) → m1 60 0 + D = 300 → 0 ≤ k → k + 2971 * (D + 1) ≤ 1000000 → ∃ e1 e2, jq_lp (X3_run_b40 o) (n, k, m1) = some e1 ∧ jq_lp X11_lives_b32 (n, m2) = some e2 ∧ pu_LX α1 α2 o e1 e2 := by
  intro D
  induction D with
  | zero =>
    intro n m1 m2 k h hI n0 n1 nw hr hD k0 k1
    obtain ⟨e1, e2, e3, hP⟩ := pa_prog h hoo
    have p1 := hP.1
    obtain ⟨⟨q1, q1', q2⟩, q3, -⟩ := h.2.2.2.1
    have hL : m1 (o + 13) 2 = α2 1 6 := by
      rcases h.2.2.1.1 with z | ⟨z1, z2, z3, z4⟩
      · omega
      · omega
    by_cases z : n < α2 1 6
    · refine ⟨.inl m1, .inl m2, jq_lp_inr ?_, jq_lp_inr ?_, m1, m2, h, Or.inl ⟨rfl, rfl⟩⟩
      · unfold X3_run_b40
        dsimp only
        rw [if_pos (show k < 1000000 by omega), if_pos (show n < m1 (o + 13) 2 by omega), ps_wordAt n0 (by omega), Option.bind_some, show o + 13 + 1 = o + 14 by omega, e1, if_neg (nw z), if_pos (by omega)]
      · unfold X11_lives_b32
        dsimp only
        rw [pu_ld (σ := m2) (by omega) (by omega), Option.bind_some, if_pos (show n < m2 1 6 by omega), if_pos (by omega)]
    · refine ⟨.inr (.inr m1), .inr (.inr m2), jq_lp_inr ?_, jq_lp_inr ?_, m1, m2, h, Or.inr (Or.inr ⟨rfl, rfl⟩)⟩
      · unfold X3_run_b40
        dsimp only
        rw [if_pos (show k < 1000000 by omega), if_neg (show ¬ n < m1 (o + 13) 2 by omega)]
      · unfold X11_lives_b32
        dsimp only
        rw [pu_ld (σ := m2) (by omega) (by omega), Option.bind_some, if_neg (show ¬ n < m2 1 6 by omega)]
  | succ D ih =>
    intro n m1 m2 k h hI n0 n1 nw hr hD k0 k1
    obtain ⟨e1, e2, e3, hP⟩ := pa_prog h hoo
    have p1 := hP.1
    obtain ⟨⟨q1, q1', q2⟩, q3, -⟩ := h.2.2.2.1
    have hL : m1 (o + 13) 2 = α2 1 6 := by
      rcases h.2.2.1.1 with z | ⟨z1, z2, z3, z4⟩
      · omega
      · omega
    by_cases z : n < α2 1 6
    · rcases pa_step h hoo hI n0 z (nw z) (by omega) hr k0 (by omega) with ⟨τ1, τ2, a1, a2, a3⟩ | ⟨n', τ1, τ2, a1, a2, a3, a4, a5, a6, a7, a8⟩
      · exact ⟨_, _, jq_lp_inr a1, jq_lp_inr a2, τ1, τ2, a3, Or.inr (Or.inl ⟨rfl, rfl⟩)⟩
      · obtain ⟨l, υ1, υ2, j, c1, c2, c3, c4, c5, c6, c7, c8, c9, c10⟩ := pa_chain hoo 2970 n' τ1 τ2 (k + 1) a3 a4 a5 a6 (fun w1 w2 => by
          have b1 := hP.2.1 n' a5 w1 w2
          refine ⟨99, by omega, fun y => ?_, by omega⟩
          have := a4 n' a5 w1 w2 y (by omega) (by omega)
          omega) (by omega) (by omega)
        obtain ⟨x1, x2, d1, d2, d3⟩ := ih l υ1 υ2 (k + 1 + j) c5 c6 c8 c9 c10 (by rw [c7]; exact a8) (by rw [c7]; omega) (by omega) (by omega)
        refine ⟨x1, x2, by rw [jq_lp_inl a1, c1, d1], ?_, d3⟩
        have b2 : X11_lives_b32 (n, m2) = some (.inl (l, υ2)) := by
          rw [a2]
          unfold X11_lives_j178 X11_behindEnds
          rw [c2, Option.bind_some, pu_b2]
        rw [jq_lp_inl b2, d2]
    · refine ⟨.inr (.inr m1), .inr (.inr m2), jq_lp_inr ?_, jq_lp_inr ?_, m1, m2, h, Or.inr (Or.inr ⟨rfl, rfl⟩)⟩
      · unfold X3_run_b40
        dsimp only
        rw [if_pos (show k < 1000000 by omega), if_neg (show ¬ n < m1 (o + 13) 2 by omega)]
      · unfold X11_lives_b32
        dsimp only
        rw [pu_ld (σ := m2) (by omega) (by omega), Option.bind_some, if_neg (show ¬ n < m2 1 6 by omega)]
def pu_LE (α1 α2 : jq_M) (o : Int) (m1 m2 : jq_M) : Prop := pu_K m1 o m2 ∧ m2 1 4 ≤ 9999 ∧ pu_RS m1 o (m2 1) ∧ ((0 ≤ m1 60 0 ∧ m1 60 0 ≤ 300 ∧ m1 60 0 = m2 0 31) ∧ m1 60 1 = m2 16 0 ∧ m1 60 2 = m2 16 1 ∧ m1 60 3 = m2 16 2 ∧ m1 60 4 = m2 16 3 ∧ m1 60 5 = m2 16 4 ∧ (m1 60 5 = 0 ∨ m1 60 5 = 1)) ∧ (∀ k, k ≠ o → k ≠ o + 3 → k ≠ o + 12 → k ≠ o + 19 → k ≠ 60 → k ≠ 61 → m1 k = α1 k) ∧ (∀ k, k ≠ 0 → k ≠ 1 → k ≠ 9 → k ≠ 15 → k ≠ 16 → m2 k = α2 k) ∧ (∀ j, ¬ pu_dynj j → m2 1 j = α2 1 j) ∧ ∀ j, j ≠ 30 → j ≠ 31 → m2 0 j = α2 0 j
theorem pa_runs (hK : pu_K σ1 o σ2) (hD : σ2 1 4 ≤ 9999) (hS : pu_RS σ1 o (σ2 1)) (h6 : 0 ≤ σ2 1 6) (hoo : o = 5 ∨ o = 25) (x0 : 0 ≤ x) (x1 : x < 65536) : ∃ τ1 τ2, X3_run o x σ1 = some τ1 ∧ X11_lives x σ2 = some τ2 ∧ pu_LE σ1 σ2 o τ1 τ2 := by
  have i6 := hK.1.2.2.2.2.2.2.1
  unfold X3_run X11_lives
  simp only [pu_lt]
  have z : jq_lp X11_lives_b12 (0, jq_st (jq_st σ2 0 30 x) 0 31 0) = some (jq_st (jq_st (jq_st (jq_st (jq_st (jq_st (jq_st σ2 0 30 x) 0 31 0) 16 0 0) 16 1 0) 16 2 0) 16 3 0) 16 4 0) := by
    have s : ∀ (i : Int) (s : jq_M), 0 ≤ i → i < 5 → X11_lives_b12 (i, s) = some (.inl (i + 1, jq_st s 16 i 0)) := fun i s a b => by
      unfold X11_lives_b12
      dsimp only
      rw [if_pos b, pu_sa (by omega) (by omega), Option.bind_some, pu_lt, pu_w (x := i + 1) (by omega) (by omega)]
    rw [jq_lp_inl (s 0 _ (by omega) (by omega)), jq_lp_inl (s _ _ (by omega) (by omega)), jq_lp_inl (s _ _ (by omega) (by omega)), jq_lp_inl (s _ _ (by omega) (by omega)), jq_lp_inl (s _ _ (by omega) (by omega))]
    refine jq_lp_inr ?_
    unfold X11_lives_b12
    dsimp only
    rw [if_neg (by omega)]
    rfl
  rw [z, Option.bind_some]
  generalize hA : jq_st (jq_st (jq_st (jq_st (jq_st (jq_st (jq_st σ1 60 0 0) 60 1 0) 60 2 0) 60 3 0) 60 4 0) 60 5 0) 60 6 x = s1
  generalize hB : jq_st (jq_st (jq_st (jq_st (jq_st (jq_st (jq_st σ2 0 30 x) 0 31 0) 16 0 0) 16 1 0) 16 2 0) 16 3 0) 16 4 0 = s2
  have g1 : ∀ k, k ≠ 60 → s1 k = σ1 k := fun k hk => by
    rw [← hA, pu_st_ne hk, pu_st_ne hk, pu_st_ne hk, pu_st_ne hk, pu_st_ne hk, pu_st_ne hk, pu_st_ne hk]
  have g2 : ∀ k, k ≠ 0 → k ≠ 16 → s2 k = σ2 k := fun k hk hl => by
    rw [← hB, pu_st_ne hl, pu_st_ne hl, pu_st_ne hl, pu_st_ne hl, pu_st_ne hl, pu_st_ne hk, pu_st_ne hk]
  have g0 : s2 0 = jq_st (jq_st σ2 0 30 x) 0 31 0 0 := by
    rw [← hB, pu_st_ne (show (0 : Int) ≠ 16 by omega), pu_st_ne (show (0 : Int) ≠ 16 by omega), pu_st_ne (show (0 : Int) ≠ 16 by omega), pu_st_ne (show (0 : Int) ≠ 16 by omega), pu_st_ne (show (0 : Int) ≠ 16 by omega)]
  have e1 : s2 1 = σ2 1 := g2 1 (by omega) (by omega)
  have hc : pu_ctr s1 s2 := by
    unfold pu_ctr
    rw [g0, pu_st_a, pu_st_b (show (30 : Int) ≠ 31 by omega), pu_st_a, ← hA, ← hB]
    have n60 : ∀ a b : Int, a ≠ b → ∀ (s : jq_M) (v : Int), jq_st s 60 b v 60 a = s 60 a := fun a b h s v => pu_st_b h
    have n16 : ∀ a b : Int, a ≠ b → ∀ (s : jq_M) (v : Int), jq_st s 16 b v 16 a = s 16 a := fun a b h s v => pu_st_b h
    simp (disch := omega) only [n60, n16, pu_st_a]
    refine ⟨⟨by omega, by omega, by first | rfl | trivial⟩, by first | rfl | trivial, by first | rfl | trivial, by first | rfl | trivial, by first | rfl | trivial, by first | rfl | trivial, by first | rfl | trivial, ?_, x0, x1, by first | rfl | trivial⟩
    unfold jq_r
    omega
  have hL : pu_LR σ1 σ2 o s1 s2 := by
    refine ⟨hK.mv60 hoo g1 e1, by rw [e1]; exact hD, ?_, hc, fun k a b c d e f => g1 k e, fun k a b c d e => g2 k a e, fun j hj => by rw [e1], fun j a b => by rw [g0, pu_st_b b, pu_st_b a]⟩
    rw [e1]
    exact hS.cg (by omega) (fun _ _ _ => rfl) (fun k a b => g1 _ (by omega))
  obtain ⟨p0, p1, p2, hP⟩ := pa_prog hL hoo
  have c60 : s1 60 0 = 0 := by
    have := hc.1
    rw [g0, pu_st_a] at this
    omega
  have c61 : s1 60 1 = 0 := by
    have n60 : ∀ a b : Int, a ≠ b → ∀ (s : jq_M) (v : Int), jq_st s 60 b v 60 a = s 60 a := fun a b h s v => pu_st_b h
    rw [← hA]
    simp (disch := omega) only [n60, pu_st_a]
  obtain ⟨x1, x2, d1, d2, υ1, υ2, d3, d4⟩ := pa_run (α1 := σ1) (α2 := σ2) hoo 300 0 s1 s2 0 hL (fun e a b c d f g => by
    have := hP.2.1 e a b c
    omega) (by omega) h6 (fun a b => by
    have := hP.2.1 0 (by omega) a b
    omega) (by rw [c61]; unfold jq_r; omega) (by rw [c60]; rfl) (by omega) (by decide)
  rw [d1, d2, Option.bind_some, Option.bind_some]
  have mk : pu_LE σ1 σ2 o υ1 υ2 := by
    obtain ⟨h1, h2, h3, ⟨k1, k3, k4, k5, k6, k7, k8, -⟩, h5, h6, h7, h8⟩ := d3
    exact ⟨h1, h2, h3, ⟨k1, k3, k4, k5, k6, by omega, by omega⟩, h5, h6, h7, h8⟩
  rcases d4 with ⟨rfl, rfl⟩ | ⟨rfl, rfl⟩ | ⟨rfl, rfl⟩
  · refine ⟨jq_st υ1 60 5 1, jq_st υ2 16 4 1, rfl, ?_, ?_⟩
    · show ((jq_sa υ2 16 5 4 1).bind fun s43 => some s43) = _
      rw [pu_sa (by omega) (by omega), Option.bind_some]
    · obtain ⟨h1, h2, h3, ⟨k1, k3, k4, k5, k6, k7, k8⟩, h5, h6, h7, h8⟩ := mk
      have e2 : jq_st υ2 16 4 1 1 = υ2 1 := pu_st_ne (by omega)
      refine ⟨h1.mv60 hoo (fun k hk => pu_st_ne hk) e2, by rw [e2]; exact h2, ?_, ?_, fun k a b c d e f => by rw [pu_st_ne e, h5 k a b c d e f], fun k a b c d e => by rw [pu_st_ne e, h6 k a b c d e], fun j hj => by rw [e2, h7 j hj], fun j a b => by rw [pu_st_ne (by omega), h8 j a b]⟩
      · rw [e2]
        exact h3.cg (by have := h1.1.2.2.2.2.2.2.1; omega) (fun _ _ _ => rfl) (fun k a b => pu_st_ne (by omega))
      · rw [pu_st_b (show (0 : Int) ≠ 5 by omega), pu_st_b (show (1 : Int) ≠ 5 by omega), pu_st_b (show (2 : Int) ≠ 5 by omega), pu_st_b (show (3 : Int) ≠ 5 by omega), pu_st_b (show (4 : Int) ≠ 5 by omega), pu_st_a, pu_st_a, pu_st_ne (show (0 : Int) ≠ 16 by omega), pu_st_b (show (0 : Int) ≠ 4 by omega), pu_st_b (show (1 : Int) ≠ 4 by omega), pu_st_b (show (2 : Int) ≠ 4 by omega), pu_st_b (show (3 : Int) ≠ 4 by omega)]
        exact ⟨k1, k3, k4, k5, k6, rfl, Or.inr rfl⟩
  · exact ⟨υ1, υ2, rfl, rfl, mk⟩
  · exact ⟨υ1, υ2, rfl, rfl, mk⟩
end
