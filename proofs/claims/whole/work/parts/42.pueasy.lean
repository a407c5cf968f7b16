/-! small helpers of both sides -/
section
variable {σ : jq_M} {o p a b c v k : Int}
noncomputable def pu_if {α : Type} (P : Prop) (x y : α) : α := @ite α P (Classical.propDecidable P) x y
theorem pu_if_p {α : Type} {P : Prop} {x y : α} (h : P) : pu_if P x y = x := if_pos h
theorem pu_if_n {α : Type} {P : Prop} {x y : α} (h : ¬ P) : pu_if P x y = y := if_neg h
noncomputable def pu_i (P : Prop) : Int := @ite Int P (Classical.propDecidable P) 1 0
theorem pu_i_0 {P : Prop} : (pu_i P = 0) = ¬ P := by
  unfold pu_i
  by_cases h : P <;> simp [h]
theorem pu_i_1 {P : Prop} : (pu_i P = 1) = P := by
  unfold pu_i
  by_cases h : P <;> simp [h]
theorem pu_i_p {P : Prop} (h : P) : pu_i P = 1 := if_pos h
theorem pu_i_n {P : Prop} (h : ¬ P) : pu_i P = 0 := if_neg h
theorem pu_ii {α : Type} {P : Prop} {x y : α} : (if pu_i P = 0 then x else y) = pu_if P y x := by
  by_cases h : P
  · rw [pu_i_p h, if_neg (by decide), pu_if_p h]
  · rw [pu_i_n h, if_pos rfl, pu_if_n h]
theorem pu_ic {P Q : Prop} (h : P ↔ Q) : pu_i P = pu_i Q := by
  unfold pu_i
  by_cases q : P
  · rw [if_pos q, if_pos (h.mp q)]
  · rw [if_neg q, if_neg (fun r => q (h.mpr r))]
theorem ps_within : X10_within a b c σ = some (pu_i (b ≤ a ∧ a ≤ c)) := by
  unfold X10_within pu_i
  split
  · rw [if_neg (by omega)]
  · split
    · rw [if_neg (by omega)]
    · rw [if_pos (by omega)]
theorem ps_isPlace : X1_isPlace o p σ = some (pu_i (0 ≤ p ∧ p < σ o 0)) := by
  unfold X1_isPlace pu_i
  split
  · rw [if_neg (by omega)]
  · split
    · rw [if_pos (by omega)]
    · rw [if_neg (by omega)]
theorem ps_isParty (hb : σ o 2 ≤ 5) : X1_isParty o p σ = some (pu_i (0 ≤ p ∧ p < σ o 2)) := by
  unfold X1_isParty pu_i
  by_cases h1 : p < 0
  · rw [if_pos h1, if_neg (by omega)]
  · rw [if_neg h1]
    by_cases h2 : p < σ o 2
    · rw [if_pos h2, if_pos (show p < 5 by omega), if_pos (by omega)]
    · rw [if_neg h2, if_neg (by omega)]
theorem ps_isWish (hb : σ o 3 ≤ 20) : X1_isWish o p σ = some (pu_i (0 ≤ p ∧ p < σ o 3)) := by
  unfold X1_isWish pu_i
  by_cases h1 : p < 0
  · rw [if_pos h1, if_neg (by omega)]
  · rw [if_neg h1]
    by_cases h2 : p < σ o 3
    · rw [if_pos h2, if_pos (show p < 20 by omega), if_pos (by omega)]
    · rw [if_neg h2, if_neg (by omega)]
theorem ps_isArticle (hb : σ o 4 ≤ 8) : X1_isArticle o p σ = some (pu_i (0 ≤ p ∧ p < σ o 4)) := by
  unfold X1_isArticle pu_i
  by_cases h1 : p < 0
  · rw [if_pos h1, if_neg (by omega)]
  · rw [if_neg h1]
    by_cases h2 : p < σ o 4
    · rw [if_pos h2, if_pos (show p < 8 by omega), if_pos (by omega)]
    · rw [if_neg h2, if_neg (by omega)]
theorem ps_refuse : X10_refuse v σ = some (-1, jq_st σ 0 0 v) := rfl
theorem ps_answer : X10_answer v σ = some (v, jq_st σ 0 0 0) := rfl
theorem ps_orNone : X10_answerOrNone v σ = some (v, jq_st σ 0 0 (if v = -1 then 6 else 0)) := by
  unfold X10_answerOrNone
  by_cases h : v = -1
  · rw [if_pos h, if_pos h, ps_refuse, h]; rfl
  · rw [if_neg h, if_neg h, ps_answer]; rfl
theorem ps_holds : X10_holds a b σ = some (pu_i (jq_and (jq_shr a b) 1 = 1)) := by
  unfold X10_holds pu_i
  split <;> rfl
theorem pm_isParty : X11_isParty p σ = some (pu_i (0 ≤ p ∧ p < σ 1 1)) := by
  unfold X11_isParty pu_i
  rw [pu_ld (by omega) (by omega), Option.bind_some]
  split
  · rw [if_neg (by omega)]
  · split
    · rw [if_pos (by omega)]
    · rw [if_neg (by omega)]
theorem pm_isPlace : X11_isPlace p σ = some (pu_i (0 ≤ p ∧ p < σ 1 0)) := by
  unfold X11_isPlace pu_i
  rw [pu_ld (by omega) (by omega), Option.bind_some]
  split
  · rw [if_neg (by omega)]
  · split
    · rw [if_pos (by omega)]
    · rw [if_neg (by omega)]
theorem pm_isArticle : X11_isArticle p σ = some (pu_i (0 ≤ p ∧ p < σ 1 3)) := by
  unfold X11_isArticle pu_i
  rw [pu_ld (by omega) (by omega), Option.bind_some]
  split
  · rw [if_neg (by omega)]
  · split
    · rw [if_pos (by omega)]
    · rw [if_neg (by omega)]
theorem pm_refuse : X11_refuse v σ = some (-1, jq_st σ 0 2 v) := rfl
theorem pm_gives : X11_gives v σ = some (v, jq_st σ 0 2 0) := rfl
theorem pm_orNone : X11_orNone v σ = some (v, jq_st σ 0 2 (if v = -1 then 6 else 0)) := by
  unfold X11_orNone
  by_cases h : v = -1
  · rw [if_pos h, if_pos h, pm_refuse, h]; rfl
  · rw [if_neg h, if_neg h, pm_gives]; rfl
theorem pm_isIn : X11_isIn a b σ = some (pu_i (jq_and (jq_shr a b) 1 = 1)) := by
  unfold X11_isIn pu_i
  split <;> rfl
theorem pm_partyRow (h0 : 0 ≤ p) (h1 : p < 5) : X11_partyRow p σ = some (8 + 2 * p) := by
  unfold X11_partyRow
  rw [pu_w (x := 2 * p) (by omega) (by omega), pu_w (by omega) (by omega)]
theorem pm_wishRow (h0 : 0 ≤ p) (h1 : p < 20) : X11_wishRow p σ = some (18 + 4 * p) := by
  unfold X11_wishRow
  rw [pu_w (x := 4 * p) (by omega) (by omega), pu_w (by omega) (by omega)]
theorem pm_articleRow (h0 : 0 ≤ p) (h1 : p < 8) : X11_articleRow p σ = some (98 + 5 * p) := by
  unfold X11_articleRow
  rw [pu_w (x := 5 * p) (by omega) (by omega), pu_w (by omega) (by omega)]
theorem pm_leastOf (h0 : 0 ≤ p) (h1 : p < 5) : X11_leastOf p σ = some (σ 1 (8 + 2 * p)) := by
  unfold X11_leastOf
  rw [pm_partyRow h0 h1, Option.bind_some, pu_ld (by omega) (by omega)]
  rfl
theorem pm_seatOf (h0 : 0 ≤ p) (h1 : p < 5) : X11_seatOf p σ = some (σ 1 (9 + 2 * p)) := by
  unfold X11_seatOf
  rw [pm_partyRow h0 h1, Option.bind_some, pu_w (by omega) (by omega), pu_ld (by omega) (by omega), show 8 + 2 * p + 1 = 9 + 2 * p by omega]
  rfl
end
/-! the relation when only the status and what is none of both sides' business changes -/
def pu_scr (k : Int) : Prop := k = 24 ∨ k = 44 ∨ 53 ≤ k ∧ k ≤ 56 ∨ 58 ≤ k ∧ k ≤ 61 ∨ k = 63
def pu_fr1 (σ σ' : jq_M) : Prop := ∀ k, ¬ pu_scr k → σ' k = σ k
def pu_fr2 (σ σ' : jq_M) : Prop := (σ' 1 = σ 1 ∧ σ' 2 = σ 2 ∧ σ' 3 = σ 3 ∧ σ' 4 = σ 4 ∧ σ' 5 = σ 5 ∧ σ' 6 = σ 6 ∧ σ' 17 = σ 17) ∧ ∀ j, j = 3 ∨ j = 4 ∨ j = 10 ∨ j = 16 ∨ j = 17 ∨ j = 35 ∨ j = 36 → σ' 0 j = σ 0 j
theorem pu_fr1_r (σ : jq_M) : pu_fr1 σ σ := fun _ _ => rfl
theorem pu_fr2_r (σ : jq_M) : pu_fr2 σ σ := ⟨⟨rfl, rfl, rfl, rfl, rfl, rfl, rfl⟩, fun _ _ => rfl⟩
theorem pu_fin {σ1 σ2 σ1' σ2' : jq_M} {v : Int} (h : jq_Rel σ1 σ2) (f1 : pu_fr1 σ1 σ1') (f2 : pu_fr2 σ2 σ2') : jq_Rel (jq_st σ1' 0 0 v) (jq_st σ2' 0 2 v) := by
  obtain ⟨⟨e0, e1, e2, e3, e4⟩, hn, hC, ⟨m1, m2, m3, m4⟩, hT, ⟨t1, t2, t3, t4⟩, ⟨l1, l2⟩, hK⟩ := h
  obtain ⟨⟨g1, g2, g3, g4, g5, g6, g7⟩, g8⟩ := f2
  have f0 : σ1' 0 = σ1 0 := f1 0 (by unfold pu_scr; omega)
  have q1 : ∀ k, k ≠ 0 → ¬ pu_scr k → jq_st σ1' 0 0 v k = σ1 k := fun k hk hs => (pu_st_ne hk).trans (f1 k hs)
  have q0 : ∀ j, j ≠ 0 → jq_st σ1' 0 0 v 0 j = σ1 0 j := fun j hj => by rw [pu_st_b hj, f0]
  have r1 : ∀ k, k ≠ 0 → jq_st σ2' 0 2 v k = σ2' k := fun k hk => pu_st_ne hk
  have r0 : ∀ j, j ≠ 2 → jq_st σ2' 0 2 v 0 j = σ2' 0 j := fun j hj => pu_st_b hj
  unfold jq_Rel
  rw [pu_st_a, pu_st_a, q0 1 (by omega), q0 2 (by omega), q0 5 (by omega), q0 6 (by omega), q0 7 (by omega), q0 8 (by omega), q0 11 (by omega), q0 16 (by omega), r0 3 (by omega), r0 4 (by omega), r0 16 (by omega), r0 17 (by omega), r0 36 (by omega), r0 10 (by omega), r0 35 (by omega), g8 3 (by omega), g8 4 (by omega), g8 16 (by omega), g8 17 (by omega), g8 36 (by omega), g8 10 (by omega), g8 35 (by omega), r1 1 (by omega), r1 2 (by omega), r1 3 (by omega), r1 4 (by omega), r1 5 (by omega), r1 6 (by omega), r1 17 (by omega), g1, g2, g3, g4, g5, g6, g7]
  rw [q1 2 (by omega) (by unfold pu_scr; omega), q1 3 (by omega) (by unfold pu_scr; omega), q1 4 (by omega) (by unfold pu_scr; omega), q1 62 (by omega) (by unfold pu_scr; omega)]
  refine ⟨⟨rfl, e1, e2, e3, e4⟩, hn, hC.mv (fun k h0 h1 => q1 _ (by omega) (by unfold pu_scr; omega)), ⟨m1, m2, m3, fun i h0 h1 => (m4 i h0 h1).mv (fun k h2 h3 => q1 _ (by omega) (by unfold pu_scr; omega))⟩, fun t h0 h1 => ?_, ⟨t1, t2, t3, t4⟩, ⟨l1, l2⟩, hK⟩
  rw [q1 (64 + 2 * t) (by omega) (by unfold pu_scr; omega), q1 (65 + 2 * t) (by omega) (by unfold pu_scr; omega)]
  exact hT t h0 h1
/-! how many there are at most -/
theorem pu_cP {σ1 σ2 : jq_M} (h : jq_Rel σ1 σ2) : σ1 (σ1 0 7) 2 ≤ 5 := by
  obtain ⟨⟨i0, i1, -⟩, ⟨⟨c0, c1, c2, -⟩, -⟩, -⟩ := h.2.2.1
  omega
theorem pu_cW {σ1 σ2 : jq_M} (h : jq_Rel σ1 σ2) : σ1 (σ1 0 7) 3 ≤ 20 := by
  obtain ⟨⟨i0, i1, i2, -⟩, ⟨⟨c0, c1, c2, c3, -⟩, -⟩, -⟩ := h.2.2.1
  omega
theorem pu_cA {σ1 σ2 : jq_M} (h : jq_Rel σ1 σ2) : σ1 (σ1 0 7) 4 ≤ 8 := by
  obtain ⟨⟨i0, i1, i2, i3, -⟩, ⟨⟨c0, c1, c2, c3, c4, -⟩, -⟩, -⟩ := h.2.2.1
  omega
