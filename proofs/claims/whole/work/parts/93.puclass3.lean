section
variable {A S S' : Int → Int} {m σ : jq_M} {n v x k q p P o f : Int}
/-- a row turned by k -/
def pu_tk (P k : Int) (S : Int → Int) : Int → Int := fun q => (S q + k) % P
theorem pu_tk_b (hP : 3 ≤ P) : 0 ≤ pu_tk P k S q ∧ pu_tk P k S q < P := ⟨Int.emod_nonneg _ (by omega), Int.emod_lt_of_pos _ (by omega)⟩
theorem pu_tk_0 (h : 0 ≤ S q) (h1 : S q < P) : pu_tk P 0 S q = S q := by
  unfold pu_tk
  rw [Int.add_zero, Int.emod_eq_of_lt h h1]
theorem pu_tk_P (h : 0 ≤ S q) (h1 : S q < P) : pu_tk P P S q = S q := by
  unfold pu_tk
  rw [Int.add_emod_right, Int.emod_eq_of_lt h h1]
theorem pu_tk_s : pu_mv P 0 (pu_tk P k S) q = pu_tk P (k + 1) S q := by
  unfold pu_mv pu_tk
  rw [if_pos rfl, Int.emod_add_emod, Int.add_assoc]
theorem pu_mir_b (h : 0 ≤ S q) (h1 : S q < P) : 0 ≤ pu_mir P f S q ∧ pu_mir P f S q < P := by
  unfold pu_mir
  split <;> omega
theorem pu_mv_mir (h : 0 ≤ S q) (h1 : S q < P) : pu_mv P 1 S q = pu_mir P 1 S q := by
  unfold pu_mv pu_mir
  rw [if_neg (by decide), if_neg (by decide)]
/-- two moves are one: turned by k after turned by j -/
theorem pu_tk_tk {j : Int} : pu_tk P k (pu_tk P j S) q = pu_tk P (j + k) S q := by
  unfold pu_tk
  rw [Int.emod_add_emod, Int.add_assoc]
/-- the mirror of a turned row is the mirror's row turned back -/
theorem pu_mir_tk (hP : 3 ≤ P) (h6 : P ≤ 6) (k0 : 0 ≤ k) (k1 : k ≤ P) (h : 0 ≤ S q) (h1 : S q < P) : pu_mir P 1 (pu_tk P k S) q = pu_tk P (P - k) (pu_mir P 1 S) q := by
  unfold pu_mir pu_tk
  simp only [if_neg (show ¬ ((1 : Int) = 0) by decide)]
  rcases (show P = 3 ∨ P = 4 ∨ P = 5 ∨ P = 6 by omega) with rfl | rfl | rfl | rfl <;> omega
theorem pu_mir_mir (h : 0 ≤ S q) : pu_mir P 1 (pu_mir P 1 S) q = S q := by
  unfold pu_mir
  rw [if_neg (by decide), if_neg (by decide)]
  omega
end
