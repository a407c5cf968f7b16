section
variable {T : Int → Int} {L e x y v n l s : Int} {b1 b2 m m1 m2 m3 σ σ1 σ2 τ τ1 τ2 : jq_M} {o f k i to W lo hi D : Int} {A A' w w' r r' : Int → Int}
/-- the committee's heads, the new text's rows -/
def pu_hy (m2 : jq_M) : Int → Int := fun j => if j < 138 then m2 1 j else m2 1 (2024 + j)
theorem pu_hy_l (h : i < 138) : pu_hy m2 i = m2 1 i := if_pos h
theorem pu_hy_r (h : 138 ≤ i) : pu_hy m2 i = m2 1 (2024 + i) := if_neg (by omega)
/-- the lines so far -/
def pu_sl (m1 m2 : jq_M) : Prop := (m1 45 0 = 1 ∧ m2 1 2030 = m1 45 2 ∧ m2 0 22 = m1 45 1 ∧ m2 0 21 = m1 45 8) ∧ ((0 ≤ m1 45 8 ∧ m1 45 8 ≤ 3) ∧ (0 ≤ m1 45 1 ∧ m1 45 1 ≤ 30) ∧ 0 ≤ m1 45 2 ∧ m1 45 2 + m1 45 8 ≤ 2 * m1 45 1) ∧
  (∀ j, 0 ≤ j → j < m1 45 8 → m2 8 j = m1 50 j ∧ 0 ≤ m1 50 j ∧ m1 50 j < m1 45 2 ∧ (m1 46 (m1 50 j) = 21 ∨ m1 46 (m1 50 j) = 25)) ∧
  (∀ i j, 0 ≤ i → i < j → j < m1 45 8 → m1 50 i < m1 50 j) ∧
  (∀ n, 0 ≤ n → n < m1 45 2 → pu_line (pu_hy m2) (m1 46) (m1 49) n (m1 45 2) (m1 46 n) (m1 47 n) (m1 48 n) (m1 49 n) ∨ (pu_dt m2 n 21 (m1 47 n) (m1 48 n) ∧ m1 46 n = 21 ∧ ∃ j, 0 ≤ j ∧ j < m1 45 8 ∧ m1 50 j = n)) ∧
  (∀ e1 e2, 0 ≤ e1 → e1 < e2 → e2 < m1 45 2 → m1 46 e1 = 26 → m1 46 e2 = 26 → m1 49 e2 < m1 49 e1 ∨ e1 < m1 49 e2) ∧
  ∀ e j, 0 ≤ e → e < m1 45 2 → m1 46 e = 26 → 0 ≤ j → j < m1 45 8 → m1 50 j < m1 49 e ∨ e < m1 50 j
/-- a line stays what it is -/
theorem pu_line_mv {L' F S M : Int} (h : pu_line A w r n L W F S M) (hL : L ≤ L') (h0 : A' 0 = A 0) (h1 : A' 1 = A 1) (h3 : A' 3 = A 3) (hA : ∀ c, 0 ≤ c → c < 6 → A' (138 + 6 * n + c) = A (138 + 6 * n + c)) (hn : n < L) (hw : W = 21 → 0 ≤ M → M < L → w M = 26 → w' M = 26 ∧ r' M = r M) (he : W = 26 → 0 ≤ M → M < n → w' M = w M) (n0 : 0 ≤ n) : pu_line A' w' r' n L' W F S M := by
  have a0 := hA 0 (by decide) (by decide)
  have a1 := hA 1 (by decide) (by decide)
  have a2 := hA 2 (by decide) (by decide)
  have a4 := hA 4 (by decide) (by decide)
  have a5 := hA 5 (by decide) (by decide)
  rw [Int.add_zero] at a0
  rw [show 138 + 6 * n + 1 = 139 + 6 * n by omega] at a1
  rw [show 138 + 6 * n + 2 = 140 + 6 * n by omega] at a2
  rw [show 138 + 6 * n + 4 = 142 + 6 * n by omega] at a4
  rw [show 138 + 6 * n + 5 = 143 + 6 * n by omega] at a5
  unfold pu_line at h ⊢
  rw [a0, a1, a2, a4, a5, h0, h1, h3]
  rcases h with h | h | h | h | h | h | h | h | h | h | h
  · exact Or.inl h
  · exact Or.inr (Or.inl h)
  · exact Or.inr (Or.inr (Or.inl h))
  · exact Or.inr (Or.inr (Or.inr (Or.inl h)))
  · exact Or.inr (Or.inr (Or.inr (Or.inr (Or.inl h))))
  · exact Or.inr (Or.inr (Or.inr (Or.inr (Or.inr (Or.inl h)))))
  · exact Or.inr (Or.inr (Or.inr (Or.inr (Or.inr (Or.inr (Or.inl h))))))
  · obtain ⟨g1, g2, g3, g4, g5, g6, g7⟩ := h
    obtain ⟨q1, q2⟩ := hw g1 (by clear g7; omega) g4 g5
    exact Or.inr (Or.inr (Or.inr (Or.inr (Or.inr (Or.inr (Or.inr (Or.inl ⟨g1, g2, g3, by clear g7; omega, q1, by rw [q2]; exact g6, g7⟩)))))))
  · exact Or.inr (Or.inr (Or.inr (Or.inr (Or.inr (Or.inr (Or.inr (Or.inr (Or.inl h))))))))
  · obtain ⟨g1, g2, g3, g4, g5, g6⟩ := h
    exact Or.inr (Or.inr (Or.inr (Or.inr (Or.inr (Or.inr (Or.inr (Or.inr (Or.inr (Or.inl ⟨g1, g2, g3, g4, g5, by rw [he g1 g4 g5]; exact g6⟩)))))))))
  · exact Or.inr (Or.inr (Or.inr (Or.inr (Or.inr (Or.inr (Or.inr (Or.inr (Or.inr (Or.inr h)))))))))
theorem pu_dt_mv {F S : Int} (h : pu_dt m2 n W F S) (hA : ∀ c, 0 ≤ c → c < 6 → τ2 1 (2162 + 6 * n + c) = m2 1 (2162 + 6 * n + c)) (hh : ∀ j, j < 2024 → τ2 1 j = m2 1 j) : pu_dt τ2 n W F S := by
  have a0 := hA 0 (by decide) (by decide)
  have a1 := hA 1 (by decide) (by decide)
  have a2 := hA 2 (by decide) (by decide)
  have a5 := hA 5 (by decide) (by decide)
  rw [Int.add_zero] at a0
  rw [show 2162 + 6 * n + 1 = 2163 + 6 * n by omega] at a1
  rw [show 2162 + 6 * n + 2 = 2164 + 6 * n by omega] at a2
  rw [show 2162 + 6 * n + 5 = 2167 + 6 * n by omega] at a5
  unfold pu_dt at h ⊢
  rw [a0, a1, a2, a5, hh 0 (by decide), hh 1 (by decide), hh 3 (by decide)]
  exact h
theorem pu_dt_line {F S M : Int} (n0 : 0 ≤ n) (h : pu_dt m2 n W F S) (hW : W ≠ 21) : pu_line (pu_hy m2) w r n L W F S M := by
  have a0 : pu_hy m2 (138 + 6 * n) = m2 1 (2162 + 6 * n) := by rw [pu_hy_r (by omega)]; congr 1; omega
  have a1 : pu_hy m2 (139 + 6 * n) = m2 1 (2163 + 6 * n) := by rw [pu_hy_r (by omega)]; congr 1; omega
  have a2 : pu_hy m2 (140 + 6 * n) = m2 1 (2164 + 6 * n) := by rw [pu_hy_r (by omega)]; congr 1; omega
  unfold pu_line
  rw [a0, a1, a2, pu_hy_l (show (0 : Int) < 138 by decide), pu_hy_l (show (1 : Int) < 138 by decide), pu_hy_l (show (3 : Int) < 138 by decide)]
  unfold pu_dt at h
  rcases h with h | h | h | h | h | h | h | h | h | h
  · exact Or.inl h
  · exact Or.inr (Or.inl h)
  · exact Or.inr (Or.inr (Or.inl h))
  · exact Or.inr (Or.inr (Or.inr (Or.inl h)))
  · exact Or.inr (Or.inr (Or.inr (Or.inr (Or.inl h))))
  · exact Or.inr (Or.inr (Or.inr (Or.inr (Or.inr (Or.inl h)))))
  · exact Or.inr (Or.inr (Or.inr (Or.inr (Or.inr (Or.inr (Or.inl h))))))
  · exact absurd h.1 hW
  · exact Or.inr (Or.inr (Or.inr (Or.inr (Or.inr (Or.inr (Or.inr (Or.inr (Or.inl h))))))))
  · exact Or.inr (Or.inr (Or.inr (Or.inr (Or.inr (Or.inr (Or.inr (Or.inr (Or.inr (Or.inr h)))))))))
theorem pu_dt_when {F S M : Int} (n0 : 0 ≤ n) (h : pu_dt m2 n 21 F S) (h1 : M = m2 1 (2166 + 6 * n)) (h2 : n < M) (h3 : M < L) (h4 : w M = 26) (h5 : r M = n) : pu_line (pu_hy m2) w r n L 21 F S M := by
  have a0 : pu_hy m2 (138 + 6 * n) = m2 1 (2162 + 6 * n) := by rw [pu_hy_r (by omega)]; congr 1; omega
  have a1 : pu_hy m2 (139 + 6 * n) = m2 1 (2163 + 6 * n) := by rw [pu_hy_r (by omega)]; congr 1; omega
  have a2 : pu_hy m2 (140 + 6 * n) = m2 1 (2164 + 6 * n) := by rw [pu_hy_r (by omega)]; congr 1; omega
  have a4 : pu_hy m2 (142 + 6 * n) = m2 1 (2166 + 6 * n) := by rw [pu_hy_r (by omega)]; congr 1; omega
  have a5 : pu_hy m2 (143 + 6 * n) = m2 1 (2167 + 6 * n) := by rw [pu_hy_r (by omega)]; congr 1; omega
  unfold pu_line
  rw [a0, a1, a2, a4, a5, pu_hy_l (show (1 : Int) < 138 by decide), pu_hy_l (show (3 : Int) < 138 by decide)]
  unfold pu_dt at h
  rcases h with h | h | h | h | h | h | h | h | h | h
  · exact absurd h.1 (by decide)
  · exact absurd h.1 (by decide)
  · exact absurd h.1 (by decide)
  · exact absurd h.1 (by decide)
  · exact absurd h.1 (by decide)
  · exact absurd h.1 (by decide)
  · exact absurd h.1 (by decide)
  · exact Or.inr (Or.inr (Or.inr (Or.inr (Or.inr (Or.inr (Or.inr (Or.inl ⟨rfl, h1, h2, h3, h4, h5, h.2⟩)))))))
  · exact absurd h.1 (by decide)
  · exact absurd h.1 (by decide)
/-- a line's mate is where it says -/
theorem pu_line_m {F S M : Int} (h : pu_line A w r n L W F S M) : (W = 21 → n < M ∧ M < L ∧ w M = 26 ∧ r M = n) ∧ (W = 26 → 0 ≤ M ∧ M < n) := by
  unfold pu_line at h
  rcases h with h | h | h | h | h | h | h | h | h | h | h
  · exact ⟨fun g => by omega, fun g => by omega⟩
  · exact ⟨fun g => by omega, fun g => by omega⟩
  · exact ⟨fun g => by omega, fun g => by omega⟩
  · exact ⟨fun g => by omega, fun g => by omega⟩
  · exact ⟨fun g => by omega, fun g => by omega⟩
  · exact ⟨fun g => by omega, fun g => by omega⟩
  · exact ⟨fun g => by omega, fun g => by omega⟩
  · obtain ⟨g1, g2, g3, g4, g5, g6, g7⟩ := h
    exact ⟨fun _ => ⟨g3, g4, g5, g6⟩, fun g => by clear g7; omega⟩
  · exact ⟨fun g => by omega, fun g => by omega⟩
  · obtain ⟨g1, g2, g3, g4, g5, g6⟩ := h
    exact ⟨fun g => by clear g6; omega, fun _ => ⟨g4, g5⟩⟩
  · exact ⟨fun g => by omega, fun g => by omega⟩
/-- one step more -/
theorem pu_sl_step (h : pu_sl b1 b2) (hL : L = b1 45 2) (hD : D = b1 45 8) (t30 : b1 45 1 < 30) (f46 : ∀ j, j ≠ L → τ1 46 j = b1 46 j) (f47 : ∀ j, j ≠ L → τ1 47 j = b1 47 j) (f48 : ∀ j, j ≠ L → τ1 48 j = b1 48 j) (f49 : ∀ j, j ≠ L → τ1 49 j = b1 49 j) (g0 : τ1 45 0 = b1 45 0) (g1 : τ1 45 1 = b1 45 1 + 1) (g2 : τ1 45 2 = L + 1) (f50 : ∀ j, j < D → τ1 50 j = b1 50 j) (r8 : ∀ j, j < D → τ2 8 j = b2 8 j) (rh : ∀ j, j < 2024 → τ2 1 j = b2 1 j) (rr : ∀ j, 2162 ≤ j → j < 2162 + 6 * L → τ2 1 j = b2 1 j) (r30 : τ2 1 2030 = L + 1) (r22 : τ2 0 22 = b2 0 22 + 1) (r21 : τ2 0 21 = τ1 45 8) (hd : pu_dt τ2 L (τ1 46 L) (τ1 47 L) (τ1 48 L)) (hop : τ1 45 8 = D ∧ τ1 46 L ≠ 21 ∨ τ1 45 8 = D + 1 ∧ D < 3 ∧ τ1 50 D = L ∧ τ2 8 D = L ∧ (τ1 46 L = 21 ∨ τ1 46 L = 25)) : pu_sl τ1 τ2 := by
  obtain ⟨⟨s0, s1, s2, s3⟩, ⟨s4, s5, s6, s7⟩, k1, k2, k3, k4, k5⟩ := h
  rw [← hL] at s1 s6 s7 k1 k3 k4 k5
  rw [← hD] at s3 s4 s7 k1 k2 k3 k5
  have w26 : τ1 46 L ≠ 26 := fun g => by
    unfold pu_dt at hd
    omega
  have cells : ∀ n, 0 ≤ n → n < L → ∀ c, 0 ≤ c → c < 6 → τ2 1 (2162 + 6 * n + c) = b2 1 (2162 + 6 * n + c) := fun n x y c z w => rr _ (by omega) (by omega)
  have oD : τ1 45 8 = D ∨ τ1 45 8 = D + 1 := by
    rcases hop with g | g
    · exact Or.inl g.1
    · exact Or.inr g.1
  have oD3 : τ1 45 8 ≤ 3 := by
    rcases hop with g | g <;> omega
  refine ⟨⟨by omega, by omega, by omega, r21⟩, ⟨by omega, by omega, by omega, by omega⟩, fun j x y => ?_, fun i j x y z => ?_, fun n x y => ?_, fun e1 e2 x y z u v => ?_, fun e j x y z u v => ?_⟩
  · by_cases z : j < D
    · obtain ⟨q1, q2, q3, q4⟩ := k1 j x z
      rw [f50 j z, r8 j z, f46 _ (by omega), g2]
      exact ⟨q1, q2, by omega, q4⟩
    · rcases hop with g | ⟨g, g3, g4, g5, g6⟩
      · omega
      · have : j = D := by omega
        rw [this, g4, g5, g2]
        exact ⟨rfl, by omega, by omega, g6⟩
  · by_cases w : j < D
    · rw [f50 j w, f50 i (by omega)]
      exact k2 i j x y w
    · rcases hop with g | ⟨g, g3, g4, g5, g6⟩
      · omega
      · have : j = D := by omega
        rw [this, g4, f50 i (by omega)]
        exact (k1 i x (by omega)).2.2.1
  · rw [g2] at y ⊢
    by_cases z : n = L
    · rw [z]
      by_cases w : τ1 46 L = 21
      · rcases hop with g | ⟨g, g3, g4, g5, g6⟩
        · exact absurd w g.2
        · rw [w] at hd
          exact Or.inr ⟨hd, w, D, by omega, by omega, g4⟩
      · exact Or.inl (pu_dt_line (by omega) hd w)
    · have nL : n < L := by omega
      rw [f46 n z, f47 n z, f48 n z, f49 n z]
      rcases k3 n x nL with q | ⟨q1, q2, j, q3, q4, q5⟩
      · refine Or.inl (pu_line_mv q (by omega) ?_ ?_ ?_ (fun c a b => ?_) nL (fun _ a b d => ?_) (fun _ a b => ?_) x)
        · rw [pu_hy_l (by decide), pu_hy_l (by decide)]; exact rh _ (by decide)
        · rw [pu_hy_l (by decide), pu_hy_l (by decide)]; exact rh _ (by decide)
        · rw [pu_hy_l (by decide), pu_hy_l (by decide)]; exact rh _ (by decide)
        · rw [pu_hy_r (by omega), pu_hy_r (by omega), show 2024 + (138 + 6 * n + c) = 2162 + 6 * n + c by omega]; exact cells n x nL c a b
        · rw [f46 _ (by omega), f49 _ (by omega)]; exact ⟨d, rfl⟩
        · rw [f46 _ (by omega)]
      · exact Or.inr ⟨pu_dt_mv q1 (cells n x nL) rh, q2, j, q3, by omega, by rw [f50 j q4]; exact q5⟩
  · rw [g2] at z
    by_cases a : e2 = L
    · rw [a] at v
      exact absurd v w26
    · rw [f46 _ (by omega)] at u v
      rw [f49 _ (by omega), f49 _ (by omega)]
      exact k4 e1 e2 x y (by omega) u v
  · rw [g2] at y
    by_cases a : e = L
    · rw [a] at z
      exact absurd z w26
    · rw [f46 _ a] at z
      rw [f49 _ a]
      by_cases w : j < D
      · rw [f50 j w]
        exact k5 e j x (by omega) z u w
      · rcases hop with g | ⟨g, g3, g4, g5, g6⟩
        · omega
        · have : j = D := by omega
          rw [this, g4]
          exact Or.inr (by omega)
end
