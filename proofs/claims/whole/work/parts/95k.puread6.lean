section
variable {T : Int → Int} {L s e x : Int} {m1 m2 σ τ : jq_M} {w : List Int} {f k lo hi to : Int}
def pu_o2 (m τ : jq_M) : Prop := (∀ k, k ≠ 2 → τ k = m k) ∧ ∀ j, j < 4 → τ 2 j = m 2 j
def pu_o0 (m τ : jq_M) : Prop := (∀ k, k ≠ 0 → τ k = m k) ∧ ∀ j, j < 12 ∨ j = 16 ∨ 18 < j → τ 0 j = m 0 j
/-- both read, no fault so far; the class reads on behind a fault -/
def pu_lv (T : Int → Int) (L : Int) (m1 m2 : jq_M) : Prop := pu_rd T L m1 m2 ∧ m1 2 12 = 0 ∧ m2 0 18 = 0 ∧ m1 2 13 = m2 0 17
def pu_dd (T : Int → Int) (L : Int) (m1 m2 : jq_M) : Prop := pu_sf T L m1 ∧ m1 2 12 = m2 0 18 ∧ m1 2 12 ≠ 0 ∧ m1 2 13 = m2 0 17 ∧ 0 < m1 2 12
theorem pu_o2_t {a b c : jq_M} (h : pu_o2 a b) (h2 : pu_o2 b c) : pu_o2 a c := ⟨fun k hk => (h2.1 k hk).trans (h.1 k hk), fun j hj => (h2.2 j hj).trans (h.2 j hj)⟩
theorem pu_o0_t {a b c : jq_M} (h : pu_o0 a b) (h2 : pu_o0 b c) : pu_o0 a c := ⟨fun k hk => (h2.1 k hk).trans (h.1 k hk), fun j hj => (h2.2 j hj).trans (h.2 j hj)⟩
theorem pu_o2_r {a : jq_M} : pu_o2 a a := ⟨fun _ _ => rfl, fun _ _ => rfl⟩
theorem pu_o0_r {a : jq_M} : pu_o0 a a := ⟨fun _ _ => rfl, fun _ _ => rfl⟩
theorem pu_sf.mv (h : pu_sf T L m1) (h2 : τ 2 = m1 2) (h3 : τ 3 = m1 3) (h4 : τ 4 = m1 4) : pu_sf T L τ := by
  unfold pu_sf at h ⊢
  rw [h2, h3, h4]
  exact h
theorem pu_lv.mv {τ1 τ2 : jq_M} (h : pu_lv T L m1 m2) (h2 : τ1 2 = m1 2) (h3 : τ1 3 = m1 3) (h4 : τ1 4 = m1 4) (h0 : τ2 0 = m2 0) (h7 : τ2 7 = m2 7) : pu_lv T L τ1 τ2 := by
  unfold pu_lv pu_rd pu_sf pu_mf pu_tkn at h ⊢
  rw [h2, h3, h4, h0, h7]
  exact h
theorem pu_dd.mv {τ1 τ2 : jq_M} (h : pu_dd T L m1 m2) (h2 : τ1 2 = m1 2) (h3 : τ1 3 = m1 3) (h4 : τ1 4 = m1 4) (h0 : τ2 0 = m2 0) : pu_dd T L τ1 τ2 := by
  unfold pu_dd pu_sf at h ⊢
  rw [h2, h3, h4, h0]
  exact h
theorem pu_tk_p (h : pu_rd T L m1 m2) : 0 ≤ m1 2 6 ∧ m1 2 6 ≤ m1 2 4 ∧ m1 2 4 ≤ L ∧ (m1 2 5 ≠ 0 → m1 2 6 < m1 2 4) ∧ m1 2 4 = m2 0 14 ∧ m1 2 6 = m2 0 13 ∧ (m1 2 5 = 0 ↔ m2 0 12 = 0) ∧ (m1 2 5 = 4 ↔ m2 0 12 = 1) ∧ (m1 2 5 = 2 ↔ m2 0 12 = 3) ∧ (m1 2 5 = 3 ↔ m2 0 12 = 4) ∧ (m1 2 5 = 2 → m1 2 7 = m2 0 15 ∧ 0 ≤ m1 2 7 ∧ m1 2 7 ≤ 9999) ∧ (m1 2 5 = 3 → m1 2 8 = m2 0 15 ∧ pu_sg4 (m1 2 8)) ∧ (-1 ≤ m1 2 11 ∧ m1 2 11 < 28) ∧ (m1 2 11 ≠ -1 → m1 2 5 = 1) ∧ (m1 2 10 = 0 ∨ m1 2 10 = 1 ∧ m1 2 5 = 1 ∧ m1 2 11 = -1) := by
  have b := h.1.2.2.2.1
  obtain ⟨h1, h2, s, e, s0, se, a1, a2, a3, a4, h3⟩ := h
  rcases h3 with ⟨b1, b2, b3, b4⟩ | ⟨b1, b2, b3, b4, b5⟩ | ⟨b1, b2, b3, b4, b5, b6⟩ | ⟨b1, b2, b3, b4, b5, b6⟩ | ⟨b1, b2, b3, b4, b5⟩
  · refine ⟨by omega, by omega, by omega, by omega, by omega, by omega, by omega, by omega, by omega, by omega, fun q => by omega, fun q => by omega, by omega, by omega, by omega⟩
  · have kb := pu_kk_b b5.1
    obtain ⟨-, c⟩ := b5
    have c' : m1 2 10 = 0 ∨ m1 2 10 = 1 ∧ m1 2 11 = -1 := by
      rcases c with ⟨c1, c2, c3, c4⟩ | ⟨c1, c2⟩
      · exact Or.inr ⟨c1, c3⟩
      · exact Or.inl c1
    refine ⟨by omega, by omega, by omega, by omega, by omega, by omega, by omega, by omega, by omega, by omega, fun q => by omega, fun q => by omega, by omega, by omega, by omega⟩
  · refine ⟨by omega, by omega, by omega, by omega, by omega, by omega, by omega, by omega, by omega, by omega, fun q => b6, fun q => by omega, by omega, by omega, by omega⟩
  · refine ⟨by omega, by omega, by omega, by omega, by omega, by omega, by omega, by omega, by omega, by omega, fun q => by omega, fun q => b6, by omega, by omega, by omega⟩
  · refine ⟨by omega, by omega, by omega, by omega, by omega, by omega, by omega, by omega, by omega, by omega, fun q => by omega, fun q => by omega, by omega, by omega, by omega⟩
/-- the next token -/
theorem pa_adv (h : pu_lv T L m1 m2) : ∃ τ1 τ2, X5_next m1 = some τ1 ∧ X11_ahead m2 = some τ2 ∧ pu_lv T L τ1 τ2 ∧ pu_o2 m1 τ1 ∧ pu_o0 m2 τ2 ∧ m1 2 6 ≤ τ1 2 6 ∧ (m1 2 5 ≠ 0 → m1 2 6 < τ1 2 6) := by
  obtain ⟨h1, h2, h3, h4⟩ := h
  have p := pu_tk_p h1
  obtain ⟨τ1, τ2, a1, a2, a3, a4, a5, a6⟩ := pa_next h1.1 h1.2.1 p.2.2.2.2.1
  exact ⟨τ1, τ2, a1, a2, ⟨a3, by rw [a4.2 12 (by omega)]; exact h2, by rw [a5.2 18 (by omega)]; exact h3, by rw [a4.2 13 (by omega), a5.2 17 (by omega)]; exact h4⟩, ⟨a4.1, fun j hj => a4.2 j (by omega)⟩, ⟨a5.1, fun j hj => a5.2 j (by omega)⟩, by omega, fun q => by have := p.2.2.2.1 q; omega⟩
theorem ps_nextd (h : pu_dd T L m1 m2) : ∃ τ1, X5_next m1 = some τ1 ∧ pu_dd T L τ1 m2 ∧ pu_o2 m1 τ1 := by
  obtain ⟨h1, h2, h3, h4⟩ := h
  obtain ⟨τ1, a1, a2, a3, -⟩ := ps_next h1
  exact ⟨τ1, a1, ⟨a2, by rw [a3.2 12 (by omega)]; exact h2, by rw [a3.2 12 (by omega)]; exact h3, by rw [a3.2 13 (by omega), a3.2 12 (by omega)]; exact h4⟩, a3.1, fun j hj => a3.2 j (by omega)⟩
theorem pa_blame (h : pu_lv T L m1 m2) (hf : 0 < f) : ∃ τ1 τ2, X5_blame f m1 = some τ1 ∧ X11_fails f m2 = some (0, τ2) ∧ pu_dd T L τ1 τ2 ∧ pu_o2 m1 τ1 ∧ pu_o0 m2 τ2 := by
  obtain ⟨h1, h2, h3, h4⟩ := h
  have p := pu_tk_p h1
  have fin : ∀ v : Int, 0 < v → ∃ τ1 τ2, (jq_lt (jq_st m1 2 12 v) fun s3 => jq_lt (jq_st s3 2 13 (s3 2 6)) fun s4 => some s4) = some τ1 ∧ (jq_lt (jq_st m2 0 18 v) fun s3 => jq_lt (jq_st s3 0 17 (s3 0 13)) fun s4 => some ((0 : Int), s4)) = some (0, τ2) ∧ pu_dd T L τ1 τ2 ∧ pu_o2 m1 τ1 ∧ pu_o0 m2 τ2 := fun v hv => by
    obtain ⟨q1, q2, q3, q4, q5⟩ := h1.1
    refine ⟨_, _, rfl, rfl, ⟨⟨?_, q2, ?_, ?_, ?_⟩, ?_, ?_, ?_, ?_⟩, ⟨fun k hk => ?_, fun j hj => ?_⟩, ⟨fun k hk => ?_, fun j hj => ?_⟩⟩
    · rw [pu_st_b (by omega), pu_st_b (by omega)]; exact q1
    · rw [pu_st_ne (by omega), pu_st_ne (by omega)]; exact q3
    · rw [pu_st_b (by omega), pu_st_b (by omega)]; exact q4
    · rw [pu_st_ne (by omega), pu_st_ne (by omega)]; exact q5
    · rw [pu_st_b (by omega), pu_st_a, pu_st_b (by omega), pu_st_a]
    · rw [pu_st_b (by omega), pu_st_a]; omega
    · rw [pu_st_a, pu_st_b (by omega), pu_st_a, pu_st_b (by omega)]; exact p.2.2.2.2.2.1
    · rw [pu_st_b (by omega), pu_st_a]; exact hv
    · rw [pu_st_ne hk, pu_st_ne hk]
    · rw [pu_st_b (by omega), pu_st_b (by omega)]
    · rw [pu_st_ne hk, pu_st_ne hk]
    · rw [pu_st_b (by omega), pu_st_b (by omega)]
  unfold X5_blame X11_fails
  rw [if_pos h2, if_pos h3]
  by_cases z : m1 2 5 = 4
  · rw [if_pos z, if_pos (p.2.2.2.2.2.2.2.1.mp z)]
    exact fin 1 (by decide)
  · rw [if_neg z, if_neg (fun g => z (p.2.2.2.2.2.2.2.1.mpr g))]
    exact fin f hf
theorem ps_blamed (h : pu_dd T L m1 m2) : X5_blame f m1 = some m1 := by
  unfold X5_blame
  rw [if_neg h.2.2.1]
theorem ps_faultd (h : pu_dd T L m1 m2) : X5_hasFault m1 = some 1 := by
  unfold X5_hasFault
  rw [if_neg h.2.2.1]
theorem ps_faultl (h : pu_lv T L m1 m2) : X5_hasFault m1 = some 0 := by
  unfold X5_hasFault
  rw [if_pos h.2.1]
theorem ps_isSign : X5_isSign k σ = some (pu_i (σ 2 5 = 3 ∧ σ 2 8 = k)) := by
  unfold X5_isSign
  by_cases a : σ 2 5 = 3
  · by_cases b : σ 2 8 = k
    · rw [if_pos a, if_pos b, pu_i_p ⟨a, b⟩]
    · rw [if_pos a, if_neg b, pu_i_n (fun q => b q.2)]
  · rw [if_neg a, pu_i_n (fun q => a q.1)]
theorem pm_isSign : X11_isSign k σ = some (pu_i (σ 0 12 = 4 ∧ σ 0 15 = k)) := by
  unfold X11_isSign
  by_cases a : σ 0 12 = 4
  · by_cases b : σ 0 15 = k
    · rw [if_pos a, if_pos b, pu_i_p ⟨a, b⟩]
    · rw [if_pos a, if_neg b, pu_i_n (fun q => b q.2)]
  · rw [if_neg a, pu_i_n (fun q => a q.1)]
theorem pu_sgk (h : pu_rd T L m1 m2) : (m1 2 5 = 3 ∧ m1 2 8 = k) ↔ (m2 0 12 = 4 ∧ m2 0 15 = k) := by
  obtain ⟨-, -, -, -, -, -, -, -, -, p1, -, p2, -⟩ := pu_tk_p h
  constructor
  · rintro ⟨a, b⟩
    exact ⟨p1.mp a, by have := (p2 a).1; omega⟩
  · rintro ⟨a, b⟩
    have a' := p1.mpr a
    exact ⟨a', by have := (p2 a').1; omega⟩
/-- what a step of reading ends in: both go on, or both have the fault -/
def pu_rr (T : Int → Int) (L : Int) (m1 m2 τ1 τ2 : jq_M) (g : Int) : Prop := g = 1 ∧ pu_lv T L τ1 τ2 ∧ m1 2 6 < τ1 2 6 ∨ g = 0 ∧ pu_dd T L τ1 τ2
theorem pa_passSign (h : pu_lv T L m1 m2) : ∃ τ1 τ2 g, X5_passSign k m1 = some τ1 ∧ X11_wantSign k m2 = some (g, τ2) ∧ pu_o2 m1 τ1 ∧ pu_o0 m2 τ2 ∧ pu_rr T L m1 m2 τ1 τ2 g := by
  unfold X5_passSign X11_wantSign
  rw [ps_isSign, pm_isSign, Option.bind_some, Option.bind_some, ← propext (pu_sgk (k := k) h.1)]
  by_cases z : m1 2 5 = 3 ∧ m1 2 8 = k
  · obtain ⟨τ1, τ2, a1, a2, a3, a4, a5, a6, a7⟩ := pa_adv h
    rw [pu_i_p z, if_neg (show ¬ ((1 : Int) = 0) by decide), if_neg (show ¬ ((1 : Int) = 0) by decide)]
    unfold X5_passSign_j13
    rw [a1, a2]
    exact ⟨τ1, τ2, 1, rfl, rfl, a4, a5, Or.inl ⟨rfl, a3, a7 (by omega)⟩⟩
  · obtain ⟨τ1, τ2, a1, a2, a3, a4, a5⟩ := pa_blame (f := 2) h (by decide)
    obtain ⟨υ, b1, b2, b3⟩ := ps_nextd a3
    rw [pu_i_n z, if_pos rfl, if_pos rfl, a1, a2]
    unfold X5_passSign_j13
    rw [Option.bind_some, b1]
    exact ⟨υ, τ2, 0, rfl, rfl, pu_o2_t a4 b3, a5, Or.inr ⟨rfl, b2⟩⟩
theorem ps_passSignd (h : pu_dd T L m1 m2) : ∃ τ1, X5_passSign k m1 = some τ1 ∧ pu_dd T L τ1 m2 ∧ pu_o2 m1 τ1 := by
  obtain ⟨υ, b1, b2, b3⟩ := ps_nextd h
  unfold X5_passSign X5_passSign_j13
  rw [ps_isSign, Option.bind_some, ps_blamed h, Option.bind_some, b1]
  exact ⟨υ, by split <;> rfl, b2, b3⟩
theorem pu_rl_i : ∀ i : Nat, i < 28 → ∀ j : Nat, j < 28 → pu_rl.getD i 0 = pu_rl.getD j 0 → i = j := by decide +kernel
theorem pu_ri_i {a b : Int} (h0 : -1 ≤ a) (h1 : a < 28) (h2 : -1 ≤ b) (h3 : b < 28) : pu_ri a = pu_ri b ↔ a = b := by
  refine ⟨fun h => ?_, fun h => by rw [h]⟩
  by_cases x : a = -1
  · by_cases y : b = -1
    · omega
    · have := pu_ri_n (x := b) (by omega)
      rw [← h, x] at this
      exact absurd this (by decide)
  · by_cases y : b = -1
    · have := pu_ri_n (x := a) (by omega)
      rw [h, y] at this
      exact absurd this (by decide)
    · unfold pu_ri at h
      rw [if_neg (by omega), if_neg (by omega)] at h
      have := pu_rl_i a.toNat (by omega) b.toNat (by omega) (by omega)
      omega
theorem pa_passKeyword {r : Int} (h : pu_lv T L m1 m2) (k0 : 0 ≤ k) (k1 : k < 28) (hr : r = pu_ri k) : ∃ τ1 τ2 g, X5_passKeyword k m1 = some τ1 ∧ X11_wantWord r m2 = some (g, τ2) ∧ pu_o2 m1 τ1 ∧ pu_o0 m2 τ2 ∧ pu_rr T L m1 m2 τ1 τ2 g := by
  obtain ⟨-, -, -, -, -, -, -, -, -, -, -, -, p1, p2, -⟩ := pu_tk_p h.1
  unfold X5_passKeyword X11_wantWord
  have ii := pu_ri_i p1.1 p1.2 (show -1 ≤ k by omega) k1
  rw [pm_inWords h.1, Option.bind_some, hr]
  by_cases z : m1 2 11 = k
  · obtain ⟨τ1, τ2, a1, a2, a3, a4, a5, a6, a7⟩ := pa_adv h
    rw [if_pos z, if_pos (ii.mpr z)]
    unfold X5_passKeyword_j13
    rw [a1, a2]
    exact ⟨τ1, τ2, 1, rfl, rfl, a4, a5, Or.inl ⟨rfl, a3, a7 (by have := p2 (by omega); omega)⟩⟩
  · obtain ⟨τ1, τ2, a1, a2, a3, a4, a5⟩ := pa_blame (f := 2) h (by decide)
    obtain ⟨υ, b1, b2, b3⟩ := ps_nextd a3
    rw [if_neg z, if_neg (fun g => z (ii.mp g)), a1, a2]
    unfold X5_passKeyword_j13
    rw [Option.bind_some, b1]
    exact ⟨υ, τ2, 0, rfl, rfl, pu_o2_t a4 b3, a5, Or.inr ⟨rfl, b2⟩⟩
theorem ps_passKeywordd (h : pu_dd T L m1 m2) : ∃ τ1, X5_passKeyword k m1 = some τ1 ∧ pu_dd T L τ1 m2 ∧ pu_o2 m1 τ1 := by
  obtain ⟨υ, b1, b2, b3⟩ := ps_nextd h
  unfold X5_passKeyword X5_passKeyword_j13
  rw [ps_blamed h, Option.bind_some, b1]
  exact ⟨υ, by split <;> rfl, b2, b3⟩
theorem ps_within2 (h : pu_dd T L m1 m2) : X5_numberWithin lo hi m1 = some (lo, m1) := by
  have j : X5_numberWithin_j33 lo m1 = some (lo, m1) := by
    unfold X5_numberWithin_j33
    rw [ps_faultd h, Option.bind_some, if_neg (show ¬ ((1 : Int) = 0) by decide)]
  unfold X5_numberWithin
  rw [ps_within, Option.bind_some, ps_blamed h, ps_blamed h, Option.bind_some, j]
  split
  · split <;> rfl
  · rfl
theorem ps_takeNumberd (h : pu_dd T L m1 m2) : ∃ τ1, X5_takeNumber lo hi m1 = some (lo, τ1) ∧ pu_dd T L τ1 m2 ∧ pu_o2 m1 τ1 := by
  obtain ⟨υ, b1, b2, b3⟩ := ps_nextd h
  unfold X5_takeNumber
  rw [ps_within2 h, pu_b2, b1]
  exact ⟨υ, rfl, b2, b3⟩
/-- the class's number here: in its bounds, or a fault -/
theorem pa_within (h : pu_lv T L m1 m2) : (m1 2 5 = 2 ∧ lo ≤ m1 2 7 ∧ m1 2 7 ≤ hi ∧ X5_numberWithin lo hi m1 = some (m1 2 7, m1)) ∨ ∃ f τ1 τ2, f ≠ 0 ∧ (m1 2 5 = 2 ∧ f = 4 ∧ ¬ (lo ≤ m1 2 7 ∧ m1 2 7 ≤ hi) ∨ m1 2 5 ≠ 2 ∧ f = 2) ∧ X5_numberWithin lo hi m1 = some (lo, τ1) ∧ X11_fails f m2 = some (0, τ2) ∧ pu_dd T L τ1 τ2 ∧ pu_o2 m1 τ1 ∧ pu_o0 m2 τ2 := by
  unfold X5_numberWithin X5_numberWithin_j33
  rw [ps_within, Option.bind_some]
  by_cases z : m1 2 5 = 2
  · rw [if_pos z]
    by_cases y : lo ≤ m1 2 7 ∧ m1 2 7 ≤ hi
    · rw [pu_i_p y, if_neg (show ¬ ((1 : Int) = 0) by decide), ps_faultl h, Option.bind_some, if_pos rfl]
      exact Or.inl ⟨z, y.1, y.2, rfl⟩
    · obtain ⟨τ1, τ2, a1, a2, a3, a4, a5⟩ := pa_blame (f := 4) h (by decide)
      rw [pu_i_n y, if_pos rfl, a1, Option.bind_some, ps_faultd a3, Option.bind_some, if_neg (show ¬ ((1 : Int) = 0) by decide)]
      exact Or.inr ⟨4, τ1, τ2, by decide, Or.inl ⟨z, rfl, y⟩, rfl, a2, a3, a4, a5⟩
  · obtain ⟨τ1, τ2, a1, a2, a3, a4, a5⟩ := pa_blame (f := 2) h (by decide)
    rw [if_neg z, a1, Option.bind_some, ps_faultd a3, Option.bind_some, if_neg (show ¬ ((1 : Int) = 0) by decide)]
    exact Or.inr ⟨2, τ1, τ2, by decide, Or.inr ⟨z, rfl⟩, rfl, a2, a3, a4, a5⟩
theorem pa_takeNumber (h : pu_lv T L m1 m2) (t0 : 0 ≤ to) (t1 : to < 3174) : ∃ v τ1 τ2 g, X5_takeNumber lo hi m1 = some (v, τ1) ∧ X11_number to lo hi m2 = some (g, τ2) ∧ pu_o2 m1 τ1 ∧ pu_rr T L m1 m2 τ1 τ2 g ∧ (g = 1 → lo ≤ v ∧ v ≤ hi ∧ pu_o0 (jq_st m2 1 to v) τ2) ∧ (g = 0 → pu_o0 m2 τ2) := by
  obtain ⟨-, -, -, -, -, -, -, -, p1, -, p2, -⟩ := pu_tk_p h.1
  unfold X5_takeNumber X11_number
  rcases pa_within (lo := lo) (hi := hi) h with ⟨a1, a2, a3, a4⟩ | ⟨f, τ1, τ2, a1, a2, a3, a4, a5, a6, a7⟩
  · have l2 : pu_lv T L m1 (jq_st m2 1 to (m1 2 7)) := h.mv rfl rfl rfl (pu_st_ne (by omega)) (pu_st_ne (by omega))
    obtain ⟨τ1, τ2, b1, b2, b3, b4, b5, b6, b7⟩ := pa_adv l2
    rw [a4, pu_b2, b1, Option.bind_some, if_pos (p1.mp a1), ← (p2 a1).1, if_neg (by omega), if_neg (by omega), pu_sa t0 t1, Option.bind_some, b2]
    exact ⟨_, τ1, τ2, 1, rfl, rfl, b4, Or.inl ⟨rfl, b3, b7 (by omega)⟩, fun _ => ⟨a2, a3, b5⟩, fun q => absurd q (by decide)⟩
  · obtain ⟨υ, b1, b2, b3⟩ := ps_nextd a5
    rw [a3, pu_b2, b1]
    refine ⟨_, υ, τ2, 0, rfl, ?_, pu_o2_t a6 b3, Or.inr ⟨rfl, b2⟩, fun q => absurd q (by decide), fun _ => a7⟩
    rcases a2 with ⟨c1, c2, c3⟩ | ⟨c1, c2⟩
    · unfold X11_number_j30
      rw [if_pos (p1.mp c1), ← (p2 c1).1, ← c2, a4, pu_b2]
      split
      · rfl
      · rw [if_pos (by omega)]
    · rw [if_neg (fun g => c1 (p1.mpr g)), ← c2, a4, pu_b2]
theorem pu_c8_i : ∀ w v : List Int, (∀ x ∈ w, 97 ≤ x ∧ x ≤ 122) → (∀ x ∈ v, 97 ≤ x ∧ x ≤ 122) → pu_c8 w = pu_c8 v → w = v := by
  intro w
  induction w with
  | nil =>
    intro v _ hv h
    cases v with
    | nil => rfl
    | cons y v =>
      have a := (pu_c8_b v (fun x hx => hv x (List.mem_cons_of_mem _ hx))).1
      have b := hv y List.mem_cons_self
      have h2 : 0 = pu_c8 v * 256 + y := h
      omega
  | cons z w ih =>
    intro v hw hv h
    have a := (pu_c8_b w (fun x hx => hw x (List.mem_cons_of_mem _ hx))).1
    have b := hw z List.mem_cons_self
    cases v with
    | nil =>
      have h2 : pu_c8 w * 256 + z = 0 := h
      omega
    | cons y v =>
      have a2 := (pu_c8_b v (fun x hx => hv x (List.mem_cons_of_mem _ hx))).1
      have b2 := hv y List.mem_cons_self
      have h2 : pu_c8 w * 256 + z = pu_c8 v * 256 + y := h
      have e1 : z = y := by omega
      have e2 : pu_c8 w = pu_c8 v := by omega
      rw [e1, ih v (fun x hx => hw x (List.mem_cons_of_mem _ hx)) (fun x hx => hv x (List.mem_cons_of_mem _ hx)) e2]
theorem pu_who_nm {S N : Int → Int} (hw : pu_wd w) : ∀ n : Nat, (∀ p, 0 ≤ p → p < (n : Int) → pu_nm (S p) (N p)) → pu_who S (pu_c5 w) n = pu_who N (pu_c8 w) n := by
  intro n
  induction n with
  | zero => intro _; rfl
  | succ n ih =>
    intro h
    have e := ih (fun p a b => h p a (by omega))
    obtain ⟨v, hv, h1, h2⟩ := h (n : Int) (by omega) (by omega)
    unfold pu_who
    rw [e, h1, h2]
    simp only [show (pu_c5 v = pu_c5 w) ↔ (pu_c8 v = pu_c8 w) from ⟨fun g => by rw [pu_c5_i v w hv.2.2 hw.2.2 g], fun g => by rw [pu_c8_i v w hv.2.2 hw.2.2 g]⟩]
theorem ps_partyNamed {o : Int} (h0 : 0 ≤ σ o 2) (h1 : σ o 2 ≤ 5) : X1_partyNamed o x σ = some (pu_who (σ (o + 1)) x (σ o 2).toNat) := by
  unfold X1_partyNamed
  refine pu_find (S := σ (o + 1)) (x := x) (σ o 2).toNat (fun k a b => ?_) (fun k a => ?_)
  · unfold X1_partyNamed_b2
    rw [if_pos (by omega), if_pos (show k < 5 by omega), pu_ld (by omega) (by omega), Option.bind_some, pu_lt, pu_w (by omega) (by omega)]
    simp only [pu_cmp0]
  · unfold X1_partyNamed_b2
    rw [if_neg (by omega)]
theorem ps_articleNamed {o : Int} (h0 : 0 ≤ σ o 4) (h1 : σ o 4 ≤ 8) : X1_articleNamed o x σ = some (pu_who (σ (o + 8)) x (σ o 4).toNat) := by
  unfold X1_articleNamed
  refine pu_find (S := σ (o + 8)) (x := x) (σ o 4).toNat (fun k a b => ?_) (fun k a => ?_)
  · unfold X1_articleNamed_b2
    rw [if_pos (by omega), if_pos (show k < 8 by omega), pu_ld (by omega) (by omega), Option.bind_some, pu_lt, pu_w (by omega) (by omega)]
    simp only [pu_cmp0]
  · unfold X1_articleNamed_b2
    rw [if_neg (by omega)]
theorem pm_findHere {base n v : Int} (hn : X11_nameHere σ = some v) (b0 : 0 ≤ base) (n0 : 0 ≤ n) (bn : base + n ≤ 78) : X11_findHere base n σ = some (pu_who (fun k => σ 2 (base + k)) v n.toNat) := by
  unfold X11_findHere
  refine pu_find (S := fun k => σ 2 (base + k)) (x := v) n.toNat (fun k a b => ?_) (fun k a => ?_)
  · unfold X11_findHere_b2
    rw [if_pos (by omega), pu_w (x := base + k) (by omega) (by omega), pu_ld (by omega) (by omega), Option.bind_some, hn, Option.bind_some, pu_lt, pu_w (by omega) (by omega)]
    simp only [pu_cmp0]
  · unfold X11_findHere_b2
    rw [if_neg (by omega)]
end
