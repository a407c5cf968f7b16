section
variable {T : Int → Int} {L e x y v n l s O : Int} {b1 b2 m m1 m2 m3 σ σ1 σ2 τ τ1 τ2 : jq_M} {o f k i to W lo hi D : Int} {A A' w w' r r' : Int → Int}
theorem pu_line_25 {F S M : Int} (h : pu_line A w r n L 25 F S M) : A (138 + 6 * n) = 22 ∧ F = A (139 + 6 * n) ∧ 1 ≤ F ∧ F ≤ 99 := by
  unfold pu_line at h
  rcases h with h | h | h | h | h | h | h | h | h | h | h
  · exact absurd h.1 (by decide)
  · exact absurd h.1 (by decide)
  · exact absurd h.1 (by decide)
  · exact absurd h.1 (by decide)
  · exact absurd h.1 (by decide)
  · rcases h.1 with g | g <;> exact absurd g (by decide)
  · exact absurd h.1 (by decide)
  · exact absurd h.1 (by decide)
  · exact h.2
  · exact absurd h.1 (by decide)
  · exact absurd h.1 (by decide)
theorem pu_line_25' {F S M : Int} (h : A (138 + 6 * n) = 22 ∧ F = A (139 + 6 * n) ∧ 1 ≤ F ∧ F ≤ 99) : pu_line A w r n L 25 F S M := Or.inr (Or.inr (Or.inr (Or.inr (Or.inr (Or.inr (Or.inr (Or.inr (Or.inl ⟨rfl, h⟩))))))))
theorem pu_dt_mv5 {F S : Int} (h : pu_dt m2 n W F S) (a0 : τ2 1 (2162 + 6 * n) = m2 1 (2162 + 6 * n)) (a1 : τ2 1 (2163 + 6 * n) = m2 1 (2163 + 6 * n)) (a2 : τ2 1 (2164 + 6 * n) = m2 1 (2164 + 6 * n)) (a5 : τ2 1 (2167 + 6 * n) = m2 1 (2167 + 6 * n)) (hh : ∀ j, j < 2024 → τ2 1 j = m2 1 j) : pu_dt τ2 n W F S := by
  unfold pu_dt at h ⊢
  rw [a0, a1, a2, a5, hh 0 (by decide), hh 1 (by decide), hh 3 (by decide)]
  exact h
/-- one end more -/
theorem pu_sl_end (h : pu_sl b1 b2) (hL : L = b1 45 2) (hD : D = b1 45 8) (d0 : 0 < D) (hO : O = b1 50 (D - 1)) (f46 : ∀ j, j ≠ L → τ1 46 j = b1 46 j) (f46L : τ1 46 L = 26) (f47 : ∀ j, j ≠ L → τ1 47 j = b1 47 j) (f48 : ∀ j, j ≠ L → τ1 48 j = b1 48 j) (f49 : ∀ j, j ≠ L → j ≠ O → τ1 49 j = b1 49 j) (f49L : τ1 49 L = O) (f49O : τ1 49 O = L) (g0 : τ1 45 0 = b1 45 0) (g1 : τ1 45 1 = b1 45 1) (g2 : τ1 45 2 = L + 1) (g8 : τ1 45 8 = D - 1) (f50 : ∀ j, τ1 50 j = b1 50 j) (r8 : τ2 8 = b2 8) (rh : ∀ j, j < 2024 → τ2 1 j = b2 1 j) (rr : ∀ j, 2162 ≤ j → j < 2162 + 6 * L → j ≠ 2166 + 6 * O → τ2 1 j = b2 1 j) (rO : τ2 1 (2166 + 6 * O) = L) (rL : τ2 1 (2162 + 6 * L) = 23) (rL4 : τ2 1 (2166 + 6 * L) = O) (r30 : τ2 1 2030 = L + 1) (r22 : τ2 0 22 = b2 0 22) (r21 : τ2 0 21 = D - 1) : pu_sl τ1 τ2 := by
  obtain ⟨⟨s0, s1, s2, s3⟩, ⟨s4, s5, s6, s7⟩, k1, k2, k3, k4, k5⟩ := h
  rw [← hL] at s1 s6 s7 k1 k3 k4 k5
  rw [← hD] at s3 s4 s7 k1 k2 k3 k5
  obtain ⟨t1, t2, t3, t4⟩ := k1 (D - 1) (by omega) (by omega)
  rw [← hO] at t1 t2 t3 t4
  have cells : ∀ n, 0 ≤ n → n < L → n ≠ O → ∀ c, 0 ≤ c → c < 6 → τ2 1 (2162 + 6 * n + c) = b2 1 (2162 + 6 * n + c) := fun n x y z c u w => rr _ (by omega) (by omega) (by omega)
  have hy : ∀ c, c < 138 → pu_hy τ2 c = pu_hy b2 c := fun c hc => by rw [pu_hy_l hc, pu_hy_l hc]; exact rh _ (by omega)
  refine ⟨⟨by omega, by omega, by omega, by omega⟩, ⟨by omega, by omega, by omega, by omega⟩, fun j x y => ?_, fun i j x y z => ?_, fun n x y => ?_, fun e1 e2 x y z u v => ?_, fun e j x y z u v => ?_⟩
  · rw [g8] at y
    obtain ⟨q1, q2, q3, q4⟩ := k1 j x (by omega)
    rw [f50, r8, f46 _ (by omega), g2]
    exact ⟨q1, q2, by omega, q4⟩
  · rw [g8] at z
    rw [f50, f50]
    exact k2 i j x y (by omega)
  · rw [g2] at y ⊢
    by_cases z : n = L
    · rw [z, f46L, f49L]
      refine Or.inl (Or.inr (Or.inr (Or.inr (Or.inr (Or.inr (Or.inr (Or.inr (Or.inr (Or.inr (Or.inl ⟨rfl, ?_, ?_, t2, t3, by rw [f46 O (by omega)]; exact t4⟩))))))))))
      · rw [pu_hy_r (by omega), show 2024 + (138 + 6 * L) = 2162 + 6 * L by omega]; exact rL
      · rw [pu_hy_r (by omega), show 2024 + (142 + 6 * L) = 2166 + 6 * L by omega]; exact rL4.symm
    · have nL : n < L := by omega
      by_cases zO : n = O
      · rw [zO, f46 O (by omega), f47 O (by omega), f48 O (by omega), f49O]
        rcases t4 with t4 | t4
        · rcases k3 O t2 t3 with q | ⟨q1, -⟩
          · obtain ⟨q1, q2, q3, q4⟩ := (pu_line_m q).1 t4
            have := k5 (b1 49 O) (D - 1) (by omega) q2 q3 (by omega) (by omega)
            rw [← hO, q4] at this
            omega
          · rw [t4]
            exact Or.inl (pu_dt_when t2 (pu_dt_mv5 q1 (rr _ (by omega) (by omega) (by omega)) (rr _ (by omega) (by omega) (by omega)) (rr _ (by omega) (by omega) (by omega)) (rr _ (by omega) (by omega) (by omega)) rh) rO.symm t3 (by omega) f46L f49L)
        · rcases k3 O t2 t3 with q | ⟨-, q2, -⟩
          · have a0 : pu_hy τ2 (138 + 6 * O) = pu_hy b2 (138 + 6 * O) := by rw [pu_hy_r (by omega), pu_hy_r (by omega)]; exact rr _ (by omega) (by omega) (by omega)
            have a1 : pu_hy τ2 (139 + 6 * O) = pu_hy b2 (139 + 6 * O) := by rw [pu_hy_r (by omega), pu_hy_r (by omega)]; exact rr _ (by omega) (by omega) (by omega)
            rw [t4] at q ⊢
            refine Or.inl (pu_line_25' ?_)
            rw [a0, a1]
            exact pu_line_25 q
          · omega
      · rw [f46 n z, f47 n z, f48 n z, f49 n z zO]
        rcases k3 n x nL with q | ⟨q1, q2, j, q3, q4, q5⟩
        · refine Or.inl (pu_line_mv q (by omega) (hy 0 (by decide)) (hy 1 (by decide)) (hy 3 (by decide)) (fun c a b => ?_) nL (fun _ a b d => ?_) (fun _ a b => ?_) x)
          · rw [pu_hy_r (by omega), pu_hy_r (by omega), show 2024 + (138 + 6 * n + c) = 2162 + 6 * n + c by omega]; exact cells n x nL zO c a b
          · have neO : b1 49 n ≠ O := fun g => by rw [g] at d; omega
            rw [f46 _ (by omega), f49 _ (by omega) neO]; exact ⟨d, rfl⟩
          · rw [f46 _ (by omega)]
        · have jD : j ≠ D - 1 := fun g => zO (by rw [← q5, g, hO])
          exact Or.inr ⟨pu_dt_mv q1 (cells n x nL zO) rh, q2, j, q3, by omega, by rw [f50]; exact q5⟩
  · rw [g2] at z
    have u' : b1 46 e1 = 26 := by rw [f46 _ (by omega)] at u; exact u
    have nO : e1 ≠ O := fun g => by rw [g] at u'; omega
    rw [f49 e1 (by omega) nO]
    by_cases a : e2 = L
    · rw [a, f49L]
      have := k5 e1 (D - 1) x (by omega) u' (by omega) (by omega)
      rw [← hO] at this
      exact this
    · have v' : b1 46 e2 = 26 := by rw [f46 _ (by omega)] at v; exact v
      have nO2 : e2 ≠ O := fun g => by rw [g] at v'; omega
      rw [f49 e2 (by omega) nO2]
      exact k4 e1 e2 x y (by omega) u' v'
  · rw [g2] at y
    rw [g8] at v
    rw [f50]
    by_cases a : e = L
    · rw [a, f49L]
      have := k2 j (D - 1) u (by omega) (by omega)
      rw [← hO] at this
      exact Or.inl this
    · have z' : b1 46 e = 26 := by rw [f46 _ a] at z; exact z
      have nO : e ≠ O := fun g => by rw [g] at z'; omega
      rw [f49 e a nO]
      exact k5 e j x (by omega) z' u (by omega)
end
