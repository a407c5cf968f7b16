section
variable {α1 α2 m1 m2 τ1 τ2 σ : jq_M} {o n v x k : Int}
theorem pa_words (h : pu_LR α1 α2 o m1 m2) (hoo : o = 5 ∨ o = 25) (n0 : 0 ≤ n) (n1 : n < α2 1 6) : (13 ≤ α1 (o + 14) n ∧ α1 (o + 14) n ≤ 20 ∧ m2 1 (138 + 6 * n) = α1 (o + 14) n) ∨ (α1 (o + 14) n = 21 ∧ 2100 < m2 1 (138 + 6 * n) ∧ m2 1 (138 + 6 * n) < 3000 ∧ m2 1 (142 + 6 * n) = α1 (o + 17) n) ∨ (α1 (o + 14) n = 25 ∧ m2 1 (138 + 6 * n) = 22 ∧ m2 1 (139 + 6 * n) = m1 (o + 15) n ∧ 1 ≤ m1 (o + 15) n ∧ m1 (o + 15) n ≤ 99) ∨ (α1 (o + 14) n = 26 ∧ m2 1 (138 + 6 * n) = 23 ∧ m2 1 (142 + 6 * n) = α1 (o + 17) n) ∨ (α1 (o + 14) n = 27 ∧ m2 1 (138 + 6 * n) = 24) := by
  obtain ⟨e1, e2, e3, -⟩ := pa_prog h hoo
  have hl := pa_line h n0 (by omega)
  rw [e1, e2] at hl
  unfold pu_line at hl
  generalize α1 (o + 14) n = W at hl ⊢
  rcases hl with ⟨a, b, -⟩ | ⟨a, b, -⟩ | ⟨a, b, -⟩ | ⟨a, b, -⟩ | ⟨a, b, -⟩ | ⟨a, b, -⟩ | ⟨a, b⟩ | ⟨a, b, -, -, -, -, c⟩ | ⟨a, b, c, d⟩ | ⟨a, b, c, -⟩ | ⟨a, b⟩
  · omega
  · omega
  · omega
  · omega
  · omega
  · omega
  · omega
  · refine Or.inr (Or.inl ⟨a, ?_, ?_, b.symm⟩)
    · rcases c with ⟨c, -⟩ | ⟨c, -⟩ | ⟨c, -⟩ <;> omega
    · rcases c with ⟨c, -⟩ | ⟨c, -⟩ | ⟨c, -⟩ <;> omega
  · exact Or.inr (Or.inr (Or.inl ⟨a, b, c.symm, d⟩))
  · exact Or.inr (Or.inr (Or.inr (Or.inl ⟨a, b, c.symm⟩)))
  · exact Or.inr (Or.inr (Or.inr (Or.inr ⟨a, b⟩)))
theorem pu_LR.mv15 (h : pu_LR α1 α2 o m1 m2) (hoo : o = 5 ∨ o = 25) (g1 : ∀ k, k ≠ 61 → τ1 k = m1 k) (g2 : ∀ k, k ≠ 9 → k ≠ 15 → τ2 k = m2 k) : pu_LR α1 α2 o τ1 τ2 := by
  obtain ⟨h1, h2, h3, h4, h5, h6, h7, h8⟩ := h
  have e1 : τ2 1 = m2 1 := g2 1 (by omega) (by omega)
  have i6 := h1.1.2.2.2.2.2.2.1
  refine ⟨h1.mv (fun k a b => g1 _ (by omega)) e1, by rw [e1]; exact h2, ?_, h4.eq (g1 60 (by omega)) (g2 0 (by omega) (by omega)) (g2 16 (by omega) (by omega)), fun k a b c d e f => by rw [g1 k f, h5 k a b c d e f], fun k a b c d e => by rw [g2 k c d, h6 k a b c d e], fun j hj => by rw [e1, h7 j hj], fun j a b => by rw [g2 0 (by omega) (by omega), h8 j a b]⟩
  rw [e1]
  exact h3.cg (by omega) (fun _ _ _ => rfl) (fun k a b => g1 _ (by omega))
/-- one END -/
theorem pa_end1 (h : pu_LR α1 α2 o m1 m2) (hoo : o = 5 ∨ o = 25) (hI : pu_LI (α1 (o + 14)) (α1 (o + 17)) (m1 61) (m2 15) (α2 1 6) n) (n0 : 0 ≤ n) (n1 : n < α2 1 6) (hw : α1 (o + 14) n = 26) : ∃ (n' : Int) (τ1 τ2 : jq_M), X3_behindEnd (o + 13) n m1 = some (n', τ1) ∧ X11_behindEnds_b2 (n, m2) = some (.inl (n', τ2)) ∧ pu_LR α1 α2 o τ1 τ2 ∧ pu_LI (α1 (o + 14)) (α1 (o + 17)) (τ1 61) (τ2 15) (α2 1 6) n' ∧ τ1 60 = m1 60 ∧ (n' = n + 1 ∨ n' = α1 (o + 17) n + 1 ∧ α1 (o + 14) (α1 (o + 17) n) = 25 ∧ 0 < m2 15 (α1 (o + 17) n) ∧ τ2 15 (α1 (o + 17) n) = m2 15 (α1 (o + 17) n) - 1) := by
  obtain ⟨e1, e2, e3, p1, p2, p3, p4⟩ := pa_prog h hoo
  obtain ⟨a1, a2, a3⟩ := p2 n n0 n1 hw
  have w1 : m2 1 (138 + 6 * n) = 23 ∧ m2 1 (142 + 6 * n) = α1 (o + 17) n := by
    rcases pa_words h hoo n0 n1 with b | b | b | b | b
    · omega
    · omega
    · omega
    · exact b.2
    · omega
  have w2 := pa_words h hoo a1 (show α1 (o + 17) n < α2 1 6 by omega)
  unfold X3_behindEnd X11_behindEnds_b2
  dsimp only
  rw [ps_mateAt n0 (by omega), Option.bind_some, show o + 13 + 4 = o + 17 by omega, e2]
  rw [pu_ld (σ := m2) (by omega) (by omega), Option.bind_some, if_pos (show n < m2 1 6 by omega), pu_w (x := 6 * n) (by omega) (by omega), pu_w (x := 138 + 6 * n) (by omega) (by omega), pu_w (x := 138 + 6 * n + 4) (by omega) (by omega), show 138 + 6 * n + 4 = 142 + 6 * n by omega, pu_ld (σ := m2) (by omega) (by omega), Option.bind_some, if_pos w1.1, pu_ld (σ := m2) (by omega) (by omega), Option.bind_some, w1.2]
  have M0 := hI n n0 n1 hw
  have nest : ∀ e, 0 ≤ e → e < α2 1 6 → α1 (o + 14) e = 26 → α1 (o + 17) e ≤ α1 (o + 17) n → α1 (o + 17) n + 1 ≤ e → n ≤ e := fun e b c d f g => by
    by_cases q : e < n
    · have := p4 e n b q n1 d hw
      omega
    · omega
  have uniq : ∀ e, n + 1 ≤ e → e < α2 1 6 → α1 (o + 14) e = 26 → α1 (o + 17) e ≠ α1 (o + 17) n := fun e b c d f => by
    have := p4 n e n0 (by omega) c hw d
    omega
  generalize hM : α1 (o + 17) n = M at a1 a2 a3 w2 M0 nest uniq ⊢
  have fwd : ∀ l1 l2 : Int → Int, (∀ j, j ≠ M → l1 j = m1 61 j) → (∀ j, j ≠ M → l2 j = m2 15 j) → pu_LI (α1 (o + 14)) (α1 (o + 17)) l1 l2 (α2 1 6) (n + 1) := fun l1 l2 g1 g2 e b c d f g i => by
    have u := uniq e i c d
    have u2 : α1 (o + 17) e ≠ n := fun q => by rw [q, hw] at f; omega
    rw [g1 _ u, g2 _ u]
    exact hI e b c d f (by omega) (by omega)
  rw [ps_wordAt a1 (by omega), Option.bind_some, show o + 13 + 1 = o + 14 by omega, e1, pu_w (x := 6 * M) (by omega) (by omega), pu_w (x := 138 + 6 * M) (by omega) (by omega), pu_ld (σ := m2) (by omega) (by omega), Option.bind_some]
  by_cases z : α1 (o + 14) M = 25
  · have r22 : m2 1 (138 + 6 * M) = 22 := by omega
    obtain ⟨c1, c2, c3⟩ := M0 z (by omega) (by omega)
    rw [if_pos z, if_neg (show ¬ M < 0 by omega), if_pos (show M < 60 by omega), if_pos r22, pu_ld (by omega) (by omega), Option.bind_some, pu_sa (by omega) (by omega), Option.bind_some, pu_ld (by omega) (by omega), Option.bind_some, pu_st_a, pu_ld (by omega) (by omega), Option.bind_some, pu_w (x := m1 61 M - 1) (by omega) (by omega)]
    by_cases y : 0 < m2 15 M
    · rw [if_pos (show 0 < m1 61 M - 1 by omega), if_pos y]
      unfold X11_behindEnds_j79 X11_behindEnds_j98
      rw [pu_ld (by omega) (by omega), Option.bind_some, if_neg (by decide), pu_sa (by omega) (by omega), Option.bind_some, if_neg (by decide), pu_lt, pu_w (x := M + 1) (by omega) (by omega), pu_w (x := m2 15 M - 1) (by omega) (by omega)]
      refine ⟨M + 1, _, _, rfl, rfl, h.mv15 hoo (fun k hk => pu_st_ne hk) (fun k a b => pu_st_ne b), ?_, pu_st_ne (by omega), Or.inr ⟨rfl, z, y, pu_st_a⟩⟩
      intro e b c d f g i
      by_cases u : α1 (o + 17) e = M
      · rw [u, pu_st_a, pu_st_a]
        omega
      · rw [pu_st_b u, pu_st_b u]
        exact hI e b c d f (by omega) (nest e b c d (by omega) (by omega))
    · rw [if_neg (show ¬ 0 < m1 61 M - 1 by omega), if_neg y]
      unfold X11_behindEnds_j78 X11_behindEnds_j79 X11_behindEnds_j98
      rw [pu_ld (by omega) (by omega), Option.bind_some, if_pos rfl, pu_sa (by omega) (by omega), Option.bind_some, if_pos rfl, pu_lt, pu_w (x := n + 1) (by omega) (by omega)]
      exact ⟨n + 1, _, _, rfl, rfl, h.mv15 hoo (fun k hk => pu_st_ne hk) (fun k a b => pu_st_ne b), fwd _ _ (fun j hj => pu_st_b hj) (fun j hj => pu_st_b hj), pu_st_ne (by omega), Or.inl rfl⟩
  · have r22 : ¬ m2 1 (138 + 6 * M) = 22 := by omega
    rw [if_neg z, if_neg r22]
    unfold X11_behindEnds_j78 X11_behindEnds_j79 X11_behindEnds_j98
    rw [pu_ld (by omega) (by omega), Option.bind_some, if_pos rfl, pu_sa (by omega) (by omega), Option.bind_some, if_pos rfl, pu_lt, pu_w (x := n + 1) (by omega) (by omega)]
    exact ⟨n + 1, _, _, rfl, rfl, h.mv15 hoo (fun k hk => rfl) (fun k a b => pu_st_ne b), fwd _ _ (fun j hj => rfl) (fun j hj => pu_st_b hj), rfl, Or.inl rfl⟩
theorem pa_stop (h : pu_LR α1 α2 o m1 m2) (hoo : o = 5 ∨ o = 25) (n0 : 0 ≤ n) (n1 : n ≤ α2 1 6) (nw : n < α2 1 6 → α1 (o + 14) n ≠ 26) : jq_lp X11_behindEnds_b2 (n, m2) = some (n, m2) := by
  obtain ⟨e1, e2, e3, p1, -⟩ := pa_prog h hoo
  refine jq_lp_inr ?_
  unfold X11_behindEnds_b2
  dsimp only
  rw [pu_ld (by omega) (by omega), Option.bind_some]
  by_cases q : n < α2 1 6
  · have w := nw q
    have w2 := pa_words h hoo n0 q
    rw [if_pos (show n < m2 1 6 by omega), pu_w (x := 6 * n) (by omega) (by omega), pu_w (x := 138 + 6 * n) (by omega) (by omega), pu_ld (by omega) (by omega), Option.bind_some, if_neg (show ¬ m2 1 (138 + 6 * n) = 23 by omega)]
  · rw [if_neg (show ¬ n < m2 1 6 by omega)]
/-- all the ENDs at a line -/
theorem pa_chain (hoo : o = 5 ∨ o = 25) : ∀ (c : Nat) (n : Int) (m1 m2 : jq_M) (k : Int), pu_LR α1 α2 o m1 m2 → pu_LI (α1 (o + 14)) (α1 (o + 17)) (m1 61) (m2 15) (α2 1 6) n → 0 ≤ n → n ≤ α2 1 6 → (n < α2 1 6 → α1 (o + 14) n = 26 → ∃ r : Int, 1 ≤ r ∧ (α1 (o + 14) (α1 (o + 17) n) = 25 → m2 15 (α1 (o + 17) n) + 1 ≤ r) ∧ (r + 99 * α1 (o + 17) n ≤ c ∨ r + 99 * (α2 1 6 - n - 1) ≤ c)) → 0 ≤ k → k + c ≤ 999999 → ∃ (n' : Int) (τ1 τ2 : jq_M) (j : Int), jq_lp (X3_run_b40 o) (n, k, m1) = jq_lp (X3_run_b40 o) (n', k + j, τ1) ∧ jq_lp X11_behindEnds_b2 (n, m2) = some (n', τ2) ∧ 0 ≤ j ∧ j ≤ c ∧ pu_LR α1 α2 o τ1 τ2 ∧ pu_LI (α1 (o + 14)) (α1 (o + 17)) (τ1 61) (τ2 15) (α2 1 6) n' ∧ τ1 60 = m1 60 ∧ 0 ≤ n' ∧ n' ≤ α2 1 6 ∧ (n' < α2 1 6 → α1 (o + 14) n' ≠ 26) := by
  intro c
  induction c with
  | zero =>
    intro n m1 m2 k h hI n0 n1 hc k0 k1
    have i6 := h.1.1.2.2.2.2.2.2.1
    obtain ⟨e1, e2, e3, p1, p2, p3, p4⟩ := pa_prog h hoo
    have nw : n < α2 1 6 → α1 (o + 14) n ≠ 26 := fun q w => by
      obtain ⟨r, r1, -, r3⟩ := hc q w
      have := p2 n n0 q w
      omega
    exact ⟨n, m1, m2, 0, by rw [Int.add_zero], pa_stop h hoo n0 n1 nw, by omega, by omega, h, hI, rfl, n0, n1, nw⟩
  | succ c ih =>
    intro n m1 m2 k h hI n0 n1 hc k0 k1
    have i6 := h.1.1.2.2.2.2.2.2.1
    obtain ⟨e1, e2, e3, p1, p2, p3, p4⟩ := pa_prog h hoo
    by_cases q : n < α2 1 6 ∧ α1 (o + 14) n = 26
    · obtain ⟨q1, q2⟩ := q
      obtain ⟨r, r1, r2, r3⟩ := hc q1 q2
      obtain ⟨n', τ1, τ2, a1, a2, a3, a4, a5, a6⟩ := pa_end1 h hoo hI n0 q1 q2
      have b0 := p2 n n0 q1 q2
      have step : X3_run_b40 o (n, k, m1) = some (.inl (n', k + 1, τ1)) := by
        unfold X3_run_b40
        dsimp only
        have hL : m1 (o + 13) 2 = α2 1 6 := by
          rcases h.2.2.1.1 with z | ⟨z1, z2, z3, z4⟩
          · omega
          · omega
        rw [if_pos (show k < 1000000 by omega), if_pos (show n < m1 (o + 13) 2 by omega), ps_wordAt n0 (by omega), Option.bind_some, show o + 13 + 1 = o + 14 by omega, e1, if_pos q2, a1, pu_b2, pu_lt, pu_w (x := k + 1) (by omega) (by omega)]
      have n0' : 0 ≤ n' := by rcases a6 with b | ⟨b, -⟩ <;> omega
      have n1' : n' ≤ α2 1 6 := by rcases a6 with b | ⟨b, -⟩ <;> omega
      obtain ⟨l, υ1, υ2, j, c1, c2, c3, c4, c5, c6, c7, c8⟩ := ih n' τ1 τ2 (k + 1) a3 a4 n0' n1' (fun w1 w2 => by
        have b1 := p2 n' n0' w1 w2
        rcases a6 with b | ⟨b, d1, d2, d3⟩
        · subst b
          have b2 := p4 n (n + 1) n0 (by omega) w1 q2 w2
          refine ⟨99, by omega, fun y => ?_, by omega⟩
          have := a4 (n + 1) n0' w1 w2 y (by omega) (by omega)
          omega
        · have b3 : n' = n := by
            by_cases y : n' < n
            · have := p4 n' n n0' y q1 w2 q2
              omega
            · omega
          rw [b3, d3]
          have := r2 d1
          exact ⟨r - 1, by omega, fun y => by omega, by omega⟩) (by omega) (by omega)
      refine ⟨l, υ1, υ2, 1 + j, ?_, ?_, by omega, by omega, c5, c6, by rw [c7, a5], c8⟩
      · rw [jq_lp_inl step, c1, Int.add_assoc]
      · rw [jq_lp_inl a2, c2]
    · have nw : n < α2 1 6 → α1 (o + 14) n ≠ 26 := fun a b => q ⟨a, b⟩
      exact ⟨n, m1, m2, 0, by rw [Int.add_zero], pa_stop h hoo n0 n1 nw, by omega, by omega, h, hI, rfl, n0, n1, nw⟩
end
