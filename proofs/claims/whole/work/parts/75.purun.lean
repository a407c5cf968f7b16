section
variable {α1 α2 m1 m2 τ1 τ2 σ : jq_M} {o n v x k : Int}
theorem pu_st_same {i j : Int} : jq_st σ i j (σ i j) = σ := by
  funext k l
  by_cases q1 : k = i
  · by_cases q2 : l = j
    · rw [q1, q2, pu_st_a]
    · rw [q1, pu_st_b q2]
  · rw [pu_st_ne q1]
theorem pa_line (h : pu_LR α1 α2 o m1 m2) (n0 : 0 ≤ n) (n1 : n < m2 1 6) : pu_line (m2 1) (m1 (o + 14)) (m1 (o + 17)) n (m2 1 6) (m1 (o + 14) n) (m1 (o + 15) n) (m1 (o + 16) n) (m1 (o + 17) n) := by
  rcases h.2.2.1.1 with z | ⟨z1, z2, z3, z4⟩
  · omega
  · exact z4 n n0 n1
/-- what a line that tests finds -/
theorem pa_so (h : pu_LR α1 α2 o m1 m2) (hoo : o = 5 ∨ o = 25) (n0 : 0 ≤ n) (n1 : n < m2 1 6) (hW : m1 (o + 14) n = 21) : ∃ (r : Int) (τ : jq_M), X3_isSo o n m1 = some r ∧ X11_holds (138 + 6 * n) m2 = some (r, τ) ∧ ∀ k, k ≠ 9 → τ k = m2 k := by
  have hI := h.1.1
  have hC := h.1.2
  have hl := pa_line h n0 n1
  obtain ⟨i0, i1, i2, i3, i4, i5, i6, -⟩ := h.1.1
  unfold pu_line at hl
  rw [hW] at hl
  obtain ⟨τ, q1, q2, q3⟩ := pm_seatsNow hI
  have e1 : τ 1 = m2 1 := q2 1 (by omega)
  have hS : ∀ p, 0 ≤ p → p < m2 1 1 → m1 (o + 3) p = m2 1 (9 + 2 * p) := fun p a b => (hC.2.1 p a b).2
  have hI2 : pu_inv (τ 1) := by rw [e1]; exact hI
  unfold X3_isSo X11_holds
  rw [ps_secondAt n0 (by omega), Option.bind_some, ps_firstAt n0 (by omega), Option.bind_some, show o + 13 + 2 = o + 15 by omega, show o + 13 + 3 = o + 16 by omega, pu_ld (by omega) (by omega), Option.bind_some, pu_lt, q1, Option.bind_some]
  generalize m1 (o + 15) n = F at hl ⊢
  generalize m1 (o + 16) n = S at hl ⊢
  have hl2 : m2 1 (138 + 6 * n) = 2125 ∧ F = 22 ∧ S = m2 1 (139 + 6 * n) ∧ 0 ≤ S ∧ S < m2 1 1 ∨ m2 1 (138 + 6 * n) = 2126 ∧ F = 23 ∧ S = m2 1 (139 + 6 * n) ∧ 0 ≤ S ∧ S < m2 1 3 ∨ m2 1 (138 + 6 * n) = 2127 ∧ F = m2 1 (143 + 6 * n) ∧ (F = 60 ∨ F = 61 ∨ F = 62) ∧ S = m2 1 (140 + 6 * n) ∧ 0 ≤ S ∧ S ≤ 999 := by
    rcases hl with ⟨a, -⟩ | ⟨a, -⟩ | ⟨a, -⟩ | ⟨a, -⟩ | ⟨a, -⟩ | ⟨a, -⟩ | ⟨a, -⟩ | ⟨-, -, -, -, -, -, a⟩ | ⟨a, -⟩ | ⟨a, -⟩ | ⟨a, -⟩
    · omega
    · omega
    · omega
    · omega
    · omega
    · omega
    · omega
    · exact a
    · omega
    · omega
    · omega
  rcases hl2 with ⟨a1, rfl, a3, a4, a5⟩ | ⟨a1, rfl, a3, a4, a5⟩ | ⟨a1, a2, a3, a4, a5, a6⟩
  · rw [if_pos rfl, a1, show jq_w (2125 - 2100) = 25 by decide, if_neg (by decide), if_pos rfl, pu_w (x := 138 + 6 * n + 1) (by omega) (by omega), pu_ld (by omega) (by omega), Option.bind_some, show 138 + 6 * n + 1 = 139 + 6 * n by omega, e1, ← a3, pm_doesSign hI2 a4 (by omega), e1, Option.bind_some, pu_worth_cg hI (S := τ 9) (S' := fun p => m2 1 (9 + 2 * p)) q3, ps_doesSign hI hC (S := fun p => m2 1 (9 + 2 * p)) hS a4 a5, Option.bind_some]
    exact ⟨_, τ, rfl, rfl, q2⟩
  · rw [if_neg (by decide), if_pos rfl, a1, show jq_w (2126 - 2100) = 26 by decide, if_neg (by decide), if_neg (by decide), pu_w (x := 138 + 6 * n + 1) (by omega) (by omega), pu_ld (by omega) (by omega), Option.bind_some, show 138 + 6 * n + 1 = 139 + 6 * n by omega, e1, ← a3, pm_isAgreed a4 (by omega), e1, Option.bind_some, ps_isAgreed hI hC a4 a5, Option.bind_some]
    exact ⟨_, τ, rfl, rfl, q2⟩
  · rw [a1, show jq_w (2127 - 2100) = 27 by decide, if_pos rfl, pm_worthOfAll hI2, Option.bind_some, ps_worthOfAll hI hC (S := fun p => m2 1 (9 + 2 * p)) hS, Option.bind_some, e1, pu_all_cg hI (S := τ 9) (S' := fun p => m2 1 (9 + 2 * p)) q3, pu_w (x := 138 + 6 * n + 5) (by omega) (by omega), pu_w (x := 138 + 6 * n + 2) (by omega) (by omega), pu_ld (by omega) (by omega), Option.bind_some, pu_ld (by omega) (by omega), Option.bind_some, show 138 + 6 * n + 5 = 143 + 6 * n by omega, show 138 + 6 * n + 2 = 140 + 6 * n by omega, e1, ← a2, ← a4]
    generalize pu_all (m2 1) (fun p => m2 1 (9 + 2 * p)) = V
    rw [if_neg (show ¬ F = 22 by omega), if_neg (show ¬ F = 23 by omega)]
    simp only [Option.bind_some]
    rcases a3 with rfl | rfl | rfl
    · rw [if_pos rfl, if_pos rfl]
      by_cases z : V < S
      · rw [if_pos z, if_pos z]
        exact ⟨_, τ, rfl, rfl, q2⟩
      · rw [if_neg z, if_neg z]
        exact ⟨_, τ, rfl, rfl, q2⟩
    · rw [if_neg (show ¬ ((61 : Int) = 60) by decide), if_neg (show ¬ ((61 : Int) = 62) by decide), if_neg (show ¬ ((61 : Int) = 60) by decide), if_neg (show ¬ ((61 : Int) = 62) by decide)]
      by_cases z : V = S
      · rw [if_pos z, if_pos z]
        exact ⟨_, τ, rfl, rfl, q2⟩
      · rw [if_neg z, if_neg z]
        exact ⟨_, τ, rfl, rfl, q2⟩
    · rw [if_neg (show ¬ ((62 : Int) = 60) by decide), if_pos (show (62 : Int) = 62 from rfl), if_neg (show ¬ ((62 : Int) = 60) by decide), if_pos (show (62 : Int) = 62 from rfl)]
      by_cases z : S < V
      · rw [if_pos z, if_pos z]
        exact ⟨_, τ, rfl, rfl, q2⟩
      · rw [if_neg z, if_neg z]
        exact ⟨_, τ, rfl, rfl, q2⟩
/-- the lines' shape -/
def pu_LP (w M : Int → Int) (L : Int) : Prop := L ≤ 60 ∧ (∀ n, 0 ≤ n → n < L → w n = 26 → 0 ≤ M n ∧ M n < n ∧ (w (M n) = 21 ∨ w (M n) = 25)) ∧ (∀ n, 0 ≤ n → n < L → w n = 21 → n < M n ∧ M n < L ∧ w (M n) = 26 ∧ M (M n) = n) ∧ ∀ e1 e2, 0 ≤ e1 → e1 < e2 → e2 < L → w e1 = 26 → w e2 = 26 → M e2 < M e1 ∨ e1 < M e2
def pu_LI (w M l1 l2 : Int → Int) (L n : Int) : Prop := ∀ e, 0 ≤ e → e < L → w e = 26 → w (M e) = 25 → M e < n → n ≤ e → l1 (M e) = l2 (M e) + 1 ∧ 0 ≤ l2 (M e) ∧ l2 (M e) ≤ 98
theorem pa_prog (h : pu_LR α1 α2 o m1 m2) (hoo : o = 5 ∨ o = 25) : m1 (o + 14) = α1 (o + 14) ∧ m1 (o + 17) = α1 (o + 17) ∧ m2 1 6 = α2 1 6 ∧ pu_LP (α1 (o + 14)) (α1 (o + 17)) (α2 1 6) := by
  have e1 : m1 (o + 14) = α1 (o + 14) := h.2.2.2.2.1 _ (by omega) (by omega) (by omega) (by omega) (by omega) (by omega)
  have e2 : m1 (o + 17) = α1 (o + 17) := h.2.2.2.2.1 _ (by omega) (by omega) (by omega) (by omega) (by omega) (by omega)
  have e3 : m2 1 6 = α2 1 6 := h.2.2.2.2.2.2.1 6 (by unfold pu_dynj; omega)
  have i6 := h.1.1.2.2.2.2.2.2.1
  refine ⟨e1, e2, e3, ?_⟩
  rw [← e1, ← e2, ← e3]
  refine ⟨by omega, fun n n0 n1 hw => ?_, fun n n0 n1 hw => ?_, fun a b c d e f g => h.2.2.1.2 (by omega) a b c d e f g⟩
  · have hl := pa_line h n0 n1
    unfold pu_line at hl
    rw [hw] at hl
    rcases hl with ⟨a, -⟩ | ⟨a, -⟩ | ⟨a, -⟩ | ⟨a, -⟩ | ⟨a, -⟩ | ⟨a, -⟩ | ⟨a, -⟩ | ⟨a, -⟩ | ⟨a, -⟩ | ⟨-, -, -, a1, a2, a3⟩ | ⟨a, -⟩
    · omega
    · omega
    · omega
    · omega
    · omega
    · omega
    · omega
    · omega
    · omega
    · exact ⟨a1, a2, a3⟩
    · omega
  · have hl := pa_line h n0 n1
    unfold pu_line at hl
    rw [hw] at hl
    rcases hl with ⟨a, -⟩ | ⟨a, -⟩ | ⟨a, -⟩ | ⟨a, -⟩ | ⟨a, -⟩ | ⟨a, -⟩ | ⟨a, -⟩ | ⟨-, -, a1, a2, a3, a4, -⟩ | ⟨a, -⟩ | ⟨a, -⟩ | ⟨a, -⟩
    · omega
    · omega
    · omega
    · omega
    · omega
    · omega
    · omega
    · exact ⟨a1, a2, a3, a4⟩
    · omega
    · omega
    · omega
theorem pu_LI.next {w M l1 l2 : Int → Int} {L : Int} (h : pu_LI w M l1 l2 L n) (hn : w n ≠ 25) : pu_LI w M l1 l2 L (n + 1) := fun e a b c d f g => h e a b c d (by
  have : M e ≠ n := fun q => hn (by rw [← q]; exact d)
  omega) (by omega)
/-- past the END of a line that tests -/
theorem pu_LI.jump {w M l1 l2 : Int → Int} {L : Int} (hP : pu_LP w M L) (n0 : 0 ≤ n) (n1 : n < L) (hw : w n = 21) (h : pu_LI w M l1 l2 L n) : pu_LI w M l1 l2 L (M n + 1) := fun e a b c d f g => by
  obtain ⟨a1, a2, a3, a4⟩ := hP.2.2.1 n n0 n1 hw
  refine h e a b c d ?_ (by omega)
  have := hP.2.2.2 (M n) e (by omega) (by omega) b a3 c
  have : M e ≠ M n := fun q => by rw [q, a3] at d; omega
  omega
end
