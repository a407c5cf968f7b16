/-! THE SESSIONS' TEXT -/
section
variable {T : Int → Int} {L e x y v n l s : Int} {m m1 m2 m3 σ σ1 σ2 τ τ1 τ2 : jq_M} {o f k i to W lo hi : Int}
def pu_h2 (m τ : jq_M) : Prop := (∀ k, k ≠ 0 → k ≠ 1 → k ≠ 8 → τ k = m k) ∧ (∀ j, j < 2024 → τ 1 j = m 1 j) ∧ ∀ j, j < 12 ∨ j = 16 ∨ j = 19 ∨ j = 20 ∨ 22 < j → τ 0 j = m 0 j
theorem pu_h2_r : pu_h2 m m := ⟨fun _ _ _ _ => rfl, fun _ _ => rfl, fun _ _ => rfl⟩
theorem pu_h2_t (h : pu_h2 m1 m2) (h2 : pu_h2 m2 m3) : pu_h2 m1 m3 := ⟨fun k a b c => (h2.1 k a b c).trans (h.1 k a b c), fun j hj => (h2.2.1 j hj).trans (h.2.1 j hj), fun j hj => (h2.2.2 j hj).trans (h.2.2 j hj)⟩
theorem pu_h2_o (h : pu_o0 m τ) : pu_h2 m τ := ⟨fun k a _ _ => h.1 k a, fun j _ => by rw [h.1 1 (by omega)], fun j hj => h.2 j (by omega)⟩
theorem pu_h2_s (h : 2024 ≤ to) : pu_h2 m (jq_st m 1 to x) := ⟨fun k a b c => pu_st_ne b, fun j hj => pu_st_b (by omega), fun j _ => by rw [pu_st_ne (by omega)]⟩
/-- the committee that the sessions speak of -/
def pu_cf (o : Int) (m1 m2 : jq_M) : Prop := (o = 5 ∨ o = 25) ∧ (m1 o 0 = m2 1 0 ∧ m1 o 2 = m2 1 1 ∧ m1 o 4 = m2 1 3) ∧ (m2 1 0 = 0 ∨ 3 ≤ m2 1 0 ∧ m2 1 0 ≤ 6) ∧ (0 ≤ m2 1 1 ∧ m2 1 1 ≤ 5) ∧ (0 ≤ m2 1 3 ∧ m2 1 3 ≤ 8) ∧ (∀ p, 0 ≤ p → p < m2 1 1 → pu_nm (m1 (o + 1) p) (m2 2 (0 + p))) ∧ ∀ a, 0 ≤ a → a < m2 1 3 → pu_nm (m1 (o + 8) a) (m2 2 (5 + a))
theorem pu_cf.mv (h : pu_cf o m1 m2) (h1 : ∀ k, 5 ≤ k → k < 45 → τ1 k = m1 k) (h2 : ∀ j, j < 2024 → τ2 1 j = m2 1 j) (h3 : τ2 2 = m2 2) : pu_cf o τ1 τ2 := by
  obtain ⟨ho, h⟩ := h
  refine ⟨ho, ?_⟩
  rw [h1 o (by omega) (by omega), h1 (o + 1) (by omega) (by omega), h1 (o + 8) (by omega) (by omega), h2 0 (by omega), h2 1 (by omega), h2 3 (by omega), h3]
  exact h
/-- an operand's frames, in both -/
def pu_q1 (n : Int) (m τ : jq_M) : Prop := (∀ k, k ≠ 2 → k ≠ 47 → k ≠ 48 → τ k = m k) ∧ (∀ j, j ≠ n → τ 47 j = m 47 j ∧ τ 48 j = m 48 j) ∧ ∀ j, j < 4 → τ 2 j = m 2 j
def pu_q2 (n : Int) (m τ : jq_M) : Prop := (∀ k, k ≠ 0 → k ≠ 1 → τ k = m k) ∧ (∀ j, ¬ (2162 + 6 * n ≤ j ∧ j ≤ 2167 + 6 * n) → τ 1 j = m 1 j) ∧ ∀ j, j < 12 ∨ j = 16 ∨ 18 < j → τ 0 j = m 0 j
theorem pu_q1_t (h : pu_q1 n m1 m2) (h2 : pu_q1 n m2 m3) : pu_q1 n m1 m3 := ⟨fun k a b c => (h2.1 k a b c).trans (h.1 k a b c), fun j hj => ⟨(h2.2.1 j hj).1.trans (h.2.1 j hj).1, (h2.2.1 j hj).2.trans (h.2.1 j hj).2⟩, fun j hj => (h2.2.2 j hj).trans (h.2.2 j hj)⟩
theorem pu_q2_t (h : pu_q2 n m1 m2) (h2 : pu_q2 n m2 m3) : pu_q2 n m1 m3 := ⟨fun k a b => (h2.1 k a b).trans (h.1 k a b), fun j hj => (h2.2.1 j hj).trans (h.2.1 j hj), fun j hj => (h2.2.2 j hj).trans (h.2.2 j hj)⟩
theorem pu_q1_o (h : pu_o2 m τ) : pu_q1 n m τ := ⟨fun k a _ _ => h.1 k a, fun j _ => ⟨by rw [h.1 47 (by omega)], by rw [h.1 48 (by omega)]⟩, h.2⟩
theorem pu_q2_o (h : pu_o0 m τ) : pu_q2 n m τ := ⟨fun k a _ => h.1 k a, fun j _ => by rw [h.1 1 (by omega)], h.2⟩
theorem pu_q1_s (hk : k = 47 ∨ k = 48) : pu_q1 n m (jq_st m k n x) := by
  refine ⟨fun j a b c => pu_st_ne (by omega), fun j hj => ⟨?_, ?_⟩, fun j hj => by rw [pu_st_ne (by omega)]⟩
  · by_cases z : (47 : Int) = k
    · rw [← z, pu_st_b hj]
    · rw [pu_st_ne z]
  · by_cases z : (48 : Int) = k
    · rw [← z, pu_st_b hj]
    · rw [pu_st_ne z]
theorem pu_q2_s (h1 : 2162 + 6 * n ≤ to) (h2 : to ≤ 2167 + 6 * n) : pu_q2 n m (jq_st m 1 to x) := ⟨fun k a b => pu_st_ne b, fun j hj => pu_st_b (by omega), fun j _ => by rw [pu_st_ne (by omega)]⟩
theorem pu_q1_r : pu_q1 n m m := ⟨fun _ _ _ _ => rfl, fun _ _ => ⟨rfl, rfl⟩, fun _ _ => rfl⟩
theorem pu_q2_r : pu_q2 n m m := ⟨fun _ _ _ => rfl, fun _ _ => rfl, fun _ _ => rfl⟩
theorem pu_h2_q (n0 : 0 ≤ n) (h : pu_q2 n m τ) : pu_h2 m τ := ⟨fun k a b _ => h.1 k a b, fun j hj => h.2.1 j (by omega), fun j hj => h.2.2 j (by omega)⟩
/-- a step's line as both have it -/
def pu_dt (m2 : jq_M) (n W F S : Int) : Prop :=
  (W = 13 ∧ m2 1 (2162 + 6 * n) = 13 ∧ F = m2 1 (2163 + 6 * n) ∧ S = m2 1 (2164 + 6 * n) ∧ 0 ≤ F ∧ F < m2 1 1 ∧ 0 ≤ S ∧ S < m2 1 0) ∨
  (W = 14 ∧ m2 1 (2162 + 6 * n) = 14 ∧ F = m2 1 (2163 + 6 * n) ∧ 0 ≤ F ∧ F < m2 1 1) ∨
  (W = 15 ∧ m2 1 (2162 + 6 * n) = 15 ∧ F = m2 1 (2163 + 6 * n) ∧ S = m2 1 (2164 + 6 * n) ∧ 0 ≤ F ∧ F < m2 1 1 ∧ 0 ≤ S ∧ S < m2 1 1) ∨
  (W = 16 ∧ m2 1 (2162 + 6 * n) = 16 ∧ F = m2 1 (2163 + 6 * n) ∧ 0 ≤ F ∧ F ≤ 9) ∨
  (W = 17 ∧ m2 1 (2162 + 6 * n) = 17 ∧ F = m2 1 (2163 + 6 * n) ∧ 1 ≤ F ∧ F ≤ 20) ∨
  ((W = 18 ∨ W = 19) ∧ m2 1 (2162 + 6 * n) = W ∧ F = m2 1 (2163 + 6 * n) ∧ 0 ≤ F ∧ F < m2 1 3) ∨
  (W = 20 ∧ m2 1 (2162 + 6 * n) = 20) ∨
  (W = 21 ∧ (m2 1 (2162 + 6 * n) = 2125 ∧ F = 22 ∧ S = m2 1 (2163 + 6 * n) ∧ 0 ≤ S ∧ S < m2 1 1 ∨
    m2 1 (2162 + 6 * n) = 2126 ∧ F = 23 ∧ S = m2 1 (2163 + 6 * n) ∧ 0 ≤ S ∧ S < m2 1 3 ∨
    m2 1 (2162 + 6 * n) = 2127 ∧ F = m2 1 (2167 + 6 * n) ∧ (F = 60 ∨ F = 61 ∨ F = 62) ∧ S = m2 1 (2164 + 6 * n) ∧ 0 ≤ S ∧ S ≤ 999)) ∨
  (W = 25 ∧ m2 1 (2162 + 6 * n) = 22 ∧ F = m2 1 (2163 + 6 * n) ∧ 1 ≤ F ∧ F ≤ 99) ∨
  (W = 27 ∧ m2 1 (2162 + 6 * n) = 24)
/-- the operands of a step: both go on, or both have the fault -/
def pu_OP (T : Int → Int) (L n W : Int) (m1 m2 : jq_M) (c : Option jq_M) (r : Option (Int × jq_M)) : Prop := ∃ τ1 τ2 g, c = some τ1 ∧ r = some (g, τ2) ∧ pu_q1 n m1 τ1 ∧ pu_h2 m2 τ2 ∧ (g = 1 ∧ pu_lv T L τ1 τ2 ∧ m1 2 6 ≤ τ1 2 6 ∧ pu_q2 n m2 τ2 ∧ pu_dt τ2 n W (τ1 47 n) (τ1 48 n) ∨ g = 0 ∧ pu_dd T L τ1 τ2)
theorem pa_oldParty (hl : pu_lv T L m1 m2) (hc : pu_cf o m1 m2) (t0 : 0 ≤ to) (t1 : to < 3174) : ∃ v τ1 τ2 g, X5_takeParty o m1 = some (v, τ1) ∧ X11_oldParty to m2 = some (g, τ2) ∧ pu_o2 m1 τ1 ∧ pu_tko T L m1 m2 τ1 τ2 to (m2 1 1) v g := by
  obtain ⟨ho, ⟨c0, c2, c4⟩, -, p, -, hN, -⟩ := hc
  obtain ⟨v, τ1, τ2, g, a1, a2, a3, a4⟩ := pa_takeParty (o := o) (base := 0) (to := to) hl c2 p.1 p.2 (by decide) (by decide) hN t0 t1
  refine ⟨v, τ1, τ2, g, a1, ?_, a3, a4⟩
  unfold X11_oldParty
  rw [pu_ld (by omega) (by omega), Option.bind_some, a2, pu_b2]
theorem pu_sts {a b : Int} : jq_st m a b (m a b) = m := by
  funext i j
  unfold jq_st
  split
  · rename_i h
    rw [h.1, h.2]
  · rfl
theorem pa_oldArticle (hl : pu_lv T L m1 m2) (hc : pu_cf o m1 m2) (t0 : 0 ≤ to) (t1 : to < 3174) : ∃ v τ1 τ2 g, X5_takeArticle o m1 = some (v, τ1) ∧ X11_oldArticle to m2 = some (g, τ2) ∧ pu_o2 m1 τ1 ∧ pu_tko T L m1 m2 τ1 τ2 to (m2 1 3) v g := by
  obtain ⟨ho, ⟨c0, c2, c4⟩, -, -, p, -, hN⟩ := hc
  obtain ⟨-, -, -, -, -, -, -, -, -, -, -, -, -, -, q1⟩ := pu_tk_p hl.1
  unfold X11_oldArticle X5_takeArticle
  rw [pu_ld (by omega) (by omega), Option.bind_some]
  rcases pa_articleHere (o := o) (base := 5) hl c4 p.1 p.2 (by decide) (by decide) hN with ⟨h1, v, h2, h3, h4, h5⟩ | ⟨h1, h2, h3⟩ | ⟨h1, h2⟩
  · have l4 : pu_lv T L m1 (jq_st m2 1 to v) := hl.mv rfl rfl rfl (pu_st_ne (by omega)) (pu_st_ne (by omega))
    obtain ⟨k1, k2, f1, f2, f3, f4, f5, f6, f7⟩ := pa_adv l4
    rw [h4, pu_b2, f1, Option.bind_some, pm_oldOne hl h1 h5 h2 t0 t1, f2]
    exact ⟨v, k1, k2, 1, rfl, rfl, f4, Or.inl ⟨rfl, f3, f7 (by omega)⟩, fun _ => ⟨h2, h3, f5⟩, fun q => absurd q (by decide)⟩
  · have l4 : pu_lv T L m1 (jq_st m2 1 to (-1)) := hl.mv rfl rfl rfl (pu_st_ne (by omega)) (pu_st_ne (by omega))
    obtain ⟨k1, k2, d1, d2, d3, d4, d5⟩ := pa_blame (f := 3) l4 (by decide)
    obtain ⟨ω, f1, f2, f3⟩ := ps_nextd d3
    rw [h3 k1 d1 (ps_faultd d3), pu_b2, f1, Option.bind_some, pm_oldOne3 hl h1 h2 t0 t1, d2]
    exact ⟨0, ω, k2, 0, rfl, rfl, pu_o2_t d4 f3, Or.inr ⟨rfl, f2⟩, fun q => absurd q (by decide), fun _ => ⟨rfl, -1, d5⟩⟩
  · obtain ⟨k1, k2, d1, d2, d3, d4, d5⟩ := pa_blame (f := 2) hl (by decide)
    obtain ⟨ω, f1, f2, f3⟩ := ps_nextd d3
    rw [h2 k1 d1 (ps_faultd d3), pu_b2, f1, Option.bind_some, pm_oldOne2 hl h1, d2]
    exact ⟨0, ω, k2, 0, rfl, rfl, pu_o2_t d4 f3, Or.inr ⟨rfl, f2⟩, fun q => absurd q (by decide), fun _ => ⟨rfl, m2 1 to, by rw [pu_sts]; exact d5⟩⟩
/-- one operand -/
def pu_on (T : Int → Int) (L n to lo hi : Int) (m1 m2 : jq_M) (c1 r : Option (Int × jq_M)) : Prop := ∃ v τ1 τ2 g, c1 = some (v, τ1) ∧ r = some (g, τ2) ∧ pu_o2 m1 τ1 ∧ pu_h2 m2 τ2 ∧ (g = 1 ∧ pu_lv T L τ1 τ2 ∧ m1 2 6 ≤ τ1 2 6 ∧ pu_q2 n m2 τ2 ∧ lo ≤ v ∧ v ≤ hi ∧ τ2 1 to = v ∧ (∀ j, j ≠ to → τ2 1 j = m2 1 j) ∨ g = 0 ∧ pu_dd T L τ1 τ2)
theorem pa_op1 {c1 : Option (Int × jq_M)} {r : Option (Int × jq_M)} (n0 : 0 ≤ n) (n6 : n < 60) (t0 : 2162 + 6 * n ≤ to) (t1 : to ≤ 2167 + 6 * n) (h : ∃ v τ1 τ2 g, c1 = some (v, τ1) ∧ r = some (g, τ2) ∧ pu_o2 m1 τ1 ∧ pu_rr T L m1 m2 τ1 τ2 g ∧ (g = 1 → lo ≤ v ∧ v ≤ hi ∧ pu_o0 (jq_st m2 1 to v) τ2) ∧ (g = 0 → ∃ y, pu_o0 (jq_st m2 1 to y) τ2)) : pu_on T L n to lo hi m1 m2 c1 r := by
  obtain ⟨v, τ1, τ2, g, a1, a2, a3, a4, a5, a6⟩ := h
  refine ⟨v, τ1, τ2, g, a1, a2, a3, ?_, ?_⟩
  · rcases a4 with ⟨rfl, -⟩ | ⟨rfl, -⟩
    · exact pu_h2_t (pu_h2_s (to := to) (x := v) (by omega)) (pu_h2_o (a5 rfl).2.2)
    · obtain ⟨y, hy⟩ := a6 rfl
      exact pu_h2_t (pu_h2_s (to := to) (x := y) (by omega)) (pu_h2_o hy)
  · rcases a4 with ⟨rfl, b1, b2⟩ | ⟨rfl, b1⟩
    · obtain ⟨c1, c2, c3⟩ := a5 rfl
      exact Or.inl ⟨rfl, b1, by omega, pu_q2_t (pu_q2_s (to := to) (x := v) t0 t1) (pu_q2_o c3), c1, c2, by rw [c3.1 1 (by omega), pu_st_a], fun j hj => by rw [c3.1 1 (by omega), pu_st_b hj]⟩
    · exact Or.inr ⟨rfl, b1⟩
theorem pa_opN (hl : pu_lv T L m1 m2) (n0 : 0 ≤ n) (n6 : n < 60) (t0 : 2162 + 6 * n ≤ to) (t1 : to ≤ 2167 + 6 * n) : pu_on T L n to lo hi m1 m2 (X5_takeNumber lo hi m1) (X11_number to lo hi m2) := by
  obtain ⟨v, τ1, τ2, g, a1, a2, a3, a4, a5, a6⟩ := pa_takeNumber (lo := lo) (hi := hi) (to := to) hl (by omega) (by omega)
  exact pa_op1 n0 n6 t0 t1 ⟨v, τ1, τ2, g, a1, a2, a3, a4, a5, fun q => ⟨m2 1 to, by rw [pu_sts]; exact a6 q⟩⟩
theorem pa_opP (hl : pu_lv T L m1 m2) (hc : pu_cf o m1 m2) (n0 : 0 ≤ n) (n6 : n < 60) (t0 : 2162 + 6 * n ≤ to) (t1 : to ≤ 2167 + 6 * n) : pu_on T L n to 0 (m2 1 1 - 1) m1 m2 (X5_takeParty o m1) (X11_oldParty to m2) := by
  obtain ⟨v, τ1, τ2, g, a1, a2, a3, a4, a5, a6⟩ := pa_oldParty (to := to) hl hc (by omega) (by omega)
  exact pa_op1 n0 n6 t0 t1 ⟨v, τ1, τ2, g, a1, a2, a3, a4, fun q => ⟨(a5 q).1, by have := (a5 q).2.1; omega, (a5 q).2.2⟩, fun q => (a6 q).2⟩
theorem pa_opA (hl : pu_lv T L m1 m2) (hc : pu_cf o m1 m2) (n0 : 0 ≤ n) (n6 : n < 60) (t0 : 2162 + 6 * n ≤ to) (t1 : to ≤ 2167 + 6 * n) : pu_on T L n to 0 (m2 1 3 - 1) m1 m2 (X5_takeArticle o m1) (X11_oldArticle to m2) := by
  obtain ⟨v, τ1, τ2, g, a1, a2, a3, a4, a5, a6⟩ := pa_oldArticle (to := to) hl hc (by omega) (by omega)
  exact pa_op1 n0 n6 t0 t1 ⟨v, τ1, τ2, g, a1, a2, a3, a4, fun q => ⟨(a5 q).1, by have := (a5 q).2.1; omega, (a5 q).2.2⟩, fun q => (a6 q).2⟩
theorem ps_j172 {a b : Int} (n0 : 0 ≤ n) (n6 : n < 60) : X6_readOperands_j172 45 n a b m = some (jq_st (jq_st m 47 n a) 48 n b) := by
  unfold X6_readOperands_j172 X7_setOperands
  rw [if_neg (show ¬ n < 0 by omega), if_pos n6, show (45 : Int) + 2 = 47 from rfl, show (45 : Int) + 3 = 48 from rfl, pu_sa n0 n6, Option.bind_some, pu_sa n0 n6, Option.bind_some, Option.bind_some]
theorem ps_j86 {a b : Int} (n0 : 0 ≤ n) (n6 : n < 60) : X6_readTest_j86 45 n a b m = some (jq_st (jq_st m 47 n a) 48 n b) := ps_j172 n0 n6
/-- the operands stored -/
theorem pa_opZ {a b g : Int} (n0 : 0 ≤ n) (n6 : n < 60) (q : pu_o2 m1 τ1) (h : pu_h2 m2 τ2) (hg : g = 1 ∧ pu_lv T L τ1 τ2 ∧ m1 2 6 ≤ τ1 2 6 ∧ pu_q2 n m2 τ2 ∧ pu_dt τ2 n W a b ∨ g = 0 ∧ pu_dd T L τ1 τ2) : pu_OP T L n W m1 m2 (some (jq_st (jq_st τ1 47 n a) 48 n b)) (some (g, τ2)) := by
  have e : ∀ k : Int, k ≠ 47 → k ≠ 48 → jq_st (jq_st τ1 47 n a) 48 n b k = τ1 k := fun k x y => by rw [pu_st_ne y, pu_st_ne x]
  refine ⟨_, τ2, g, rfl, rfl, pu_q1_t (pu_q1_o q) (pu_q1_t (pu_q1_s (Or.inl rfl)) (pu_q1_s (Or.inr rfl))), h, ?_⟩
  rcases hg with ⟨rfl, b1, b2, b3, b4⟩ | ⟨rfl, b1⟩
  · refine Or.inl ⟨rfl, b1.mv (e 2 (by omega) (by omega)) (e 3 (by omega) (by omega)) (e 4 (by omega) (by omega)) rfl rfl, by rw [e 2 (by omega) (by omega)]; exact b2, b3, ?_⟩
    rw [show jq_st (jq_st τ1 47 n a) 48 n b 47 n = a by rw [pu_st_ne (by omega), pu_st_a], show jq_st (jq_st τ1 47 n a) 48 n b 48 n = b from pu_st_a]
    exact b4
  · exact Or.inr ⟨rfl, b1.mv (e 2 (by omega) (by omega)) (e 3 (by omega) (by omega)) (e 4 (by omega) (by omega)) rfl⟩
end
