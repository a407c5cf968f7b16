section
variable {Z : jq_Z} {X : jq_X} {z : jq_z} {own : String} {cc : ByteArray} {fr lo : Nat} {σ : jq_M} {pc : Nat} {L : List (Nat × jq_A)} {st : List jq_A} {α : Type} {F : Option α} {K : α → Prop}
theorem jq_max_eq {x y : Int} (hx : jq_r x) (hy : jq_r y) : (if Int32.ofInt x < Int32.ofInt y then Int32.ofInt y else Int32.ofInt x) = Int32.ofInt (jq_max x y) := by
  unfold jq_max
  by_cases h : x < y
  · rw [if_pos h, if_pos ((jq_lt32 hx hy).mpr h)]
  · rw [if_neg h, if_neg (fun q => h ((jq_lt32 hx hy).mp q))]
theorem jq_min_eq {x y : Int} (hx : jq_r x) (hy : jq_r y) : (if Int32.ofInt y < Int32.ofInt x then Int32.ofInt y else Int32.ofInt x) = Int32.ofInt (jq_min x y) := by
  unfold jq_min
  by_cases h : y < x
  · rw [if_pos h, if_pos ((jq_lt32 hy hx).mpr h)]
  · rw [if_neg h, if_neg (fun q => h ((jq_lt32 hy hx).mp q))]
theorem jq_abs_eq {x : Int} (hx : jq_r x) : (if 0 ≤ Int32.ofInt x then Int32.ofInt x else 0 - Int32.ofInt x) = Int32.ofInt (jq_abs x) := by
  have h0 : jq_r 0 := by unfold jq_r; omega
  have e0 : (0 : Int32) = Int32.ofInt 0 := rfl
  unfold jq_abs
  rw [e0]
  by_cases h : 0 ≤ x
  · rw [if_pos h, if_pos ((jq_le32 h0 hx).mpr h)]
  · rw [if_neg h, if_neg (fun q => h ((jq_le32 h0 hx).mp q)), jq_of_w, ← Int32.ofInt_sub, Int.zero_sub]
def jq_labs (a : Int) : Int := if 0 < a then a else jq_w64 (-a)
theorem jq_labs_eq {x : Int} (hx : jq_rl x) : (if 0 < Int64.ofInt x then Int64.ofInt x else -Int64.ofInt x) = Int64.ofInt (jq_labs x) := by
  have h0 : jq_rl 0 := by unfold jq_rl; omega
  have e0 : (0 : Int64) = Int64.ofInt 0 := rfl
  unfold jq_labs
  rw [e0]
  by_cases h : 0 < x
  · rw [if_pos h, if_pos ((jq_lt64 h0 hx).mpr h)]
  · rw [if_neg h, if_neg (fun q => h ((jq_lt64 h0 hx).mp q)), jq_of_w64, ← Int64.ofInt_neg]
theorem jq_mmax (Γ : jq_G Z X z own cc fr lo) {x y : Int} {ix : Nat} (hw1 : Cond.methodLink own ix Lib.Math.max.name ∈ jq_T) (hw2 : Cond.static Lib.Math.max.name ∈ jq_T) (hw3 : Cond.initialized "java/lang/Math" ∈ jq_T) (hw4 : Cond.code Lib.Math.max.name Lib.Math.max.code 2 (some .int) ∈ jq_T) (hfr1 : Nat.ble 1 fr = true) (hlo1 : Nat.ble ((st.map jq_c).sum + 13) lo = true) (d : decode cc pc = .ok (.invokestatic ix, 3)) (kk : jq_J F K (jq_V Z X z σ (pc + 3) L (jI (jq_max x y) :: st))) : jq_J F K (jq_V Z X z σ pc L (jI y :: jI x :: st)) := by
  rcases X with ⟨⟨p, l, e, R, s, m, args, below, meth, c⟩, A, Q, nL, b, D, cs, ss, ly⟩
  obtain ⟨hx, hb, hml, hown, hts, hK, hlk, hA, hfr, hlo, hc, hs, hal, hzk, hSF, hAb, hNw⟩ := Γ
  intro r hF hR hos hol hwf hly H locs ls hP hS hsz hl
  have o1 := jq_os_c.mp hos
  have o2 := jq_os_c.mp o1.2
  have hr : jq_r (jq_max x y) := by
    have := o1.1; have := o2.1
    unfold jq_ok at *
    unfold jq_r at *
    unfold jq_max
    first | (split <;> omega) | (split <;> first | omega | exact jq_w_r _ | exact jq_w64_r _)
  have w := kk r hF hR (jq_os_c.mpr ⟨hr, o2.2⟩) hol hwf hly H locs ls hP hS hsz hl
  refine va_mmax hx hb (by rw [hml]; exact hl.1.symm) hown (hts _ hw1) (hts _ hw2) (hts _ hw3) (hts _ hw4) (Nat.le_trans (Nat.le_of_ble_eq_true hfr1) hfr) (by show ((jq_eS b ss st).map _).sum + _ ≤ _; rw [jq_eS_cat]; exact Nat.le_trans (Nat.le_of_ble_eq_true hlo1) hlo) hc hs d ?_
  rw [jq_max_eq o2.1 o1.1]
  exact w
theorem jq_mmin (Γ : jq_G Z X z own cc fr lo) {x y : Int} {ix : Nat} (hw1 : Cond.methodLink own ix Lib.Math.min.name ∈ jq_T) (hw2 : Cond.static Lib.Math.min.name ∈ jq_T) (hw3 : Cond.initialized "java/lang/Math" ∈ jq_T) (hw4 : Cond.code Lib.Math.min.name Lib.Math.min.code 2 (some .int) ∈ jq_T) (hfr1 : Nat.ble 1 fr = true) (hlo1 : Nat.ble ((st.map jq_c).sum + 13) lo = true) (d : decode cc pc = .ok (.invokestatic ix, 3)) (kk : jq_J F K (jq_V Z X z σ (pc + 3) L (jI (jq_min x y) :: st))) : jq_J F K (jq_V Z X z σ pc L (jI y :: jI x :: st)) := by
  rcases X with ⟨⟨p, l, e, R, s, m, args, below, meth, c⟩, A, Q, nL, b, D, cs, ss, ly⟩
  obtain ⟨hx, hb, hml, hown, hts, hK, hlk, hA, hfr, hlo, hc, hs, hal, hzk, hSF, hAb, hNw⟩ := Γ
  intro r hF hR hos hol hwf hly H locs ls hP hS hsz hl
  have o1 := jq_os_c.mp hos
  have o2 := jq_os_c.mp o1.2
  have hr : jq_r (jq_min x y) := by
    have := o1.1; have := o2.1
    unfold jq_ok at *
    unfold jq_r at *
    unfold jq_min
    first | (split <;> omega) | (split <;> first | omega | exact jq_w_r _ | exact jq_w64_r _)
  have w := kk r hF hR (jq_os_c.mpr ⟨hr, o2.2⟩) hol hwf hly H locs ls hP hS hsz hl
  refine va_mmin hx hb (by rw [hml]; exact hl.1.symm) hown (hts _ hw1) (hts _ hw2) (hts _ hw3) (hts _ hw4) (Nat.le_trans (Nat.le_of_ble_eq_true hfr1) hfr) (by show ((jq_eS b ss st).map _).sum + _ ≤ _; rw [jq_eS_cat]; exact Nat.le_trans (Nat.le_of_ble_eq_true hlo1) hlo) hc hs d ?_
  rw [jq_min_eq o2.1 o1.1]
  exact w
theorem jq_mabs (Γ : jq_G Z X z own cc fr lo) {x : Int} {ix : Nat} (hw1 : Cond.methodLink own ix Lib.Math.abs.name ∈ jq_T) (hw2 : Cond.static Lib.Math.abs.name ∈ jq_T) (hw3 : Cond.initialized "java/lang/Math" ∈ jq_T) (hw4 : Cond.code Lib.Math.abs.name Lib.Math.abs.code 1 (some .int) ∈ jq_T) (hfr1 : Nat.ble 1 fr = true) (hlo1 : Nat.ble ((st.map jq_c).sum + 13) lo = true) (d : decode cc pc = .ok (.invokestatic ix, 3)) (kk : jq_J F K (jq_V Z X z σ (pc + 3) L (jI (jq_abs x) :: st))) : jq_J F K (jq_V Z X z σ pc L (jI x :: st)) := by
  rcases X with ⟨⟨p, l, e, R, s, m, args, below, meth, c⟩, A, Q, nL, b, D, cs, ss, ly⟩
  obtain ⟨hx, hb, hml, hown, hts, hK, hlk, hA, hfr, hlo, hc, hs, hal, hzk, hSF, hAb, hNw⟩ := Γ
  intro r hF hR hos hol hwf hly H locs ls hP hS hsz hl
  have o1 := jq_os_c.mp hos
  
  have hr : jq_r (jq_abs x) := by
    have := o1.1
    unfold jq_ok at *
    unfold jq_r at *
    unfold jq_abs
    first | (split <;> omega) | (split <;> first | omega | exact jq_w_r _ | exact jq_w64_r _)
  have w := kk r hF hR (jq_os_c.mpr ⟨hr, o1.2⟩) hol hwf hly H locs ls hP hS hsz hl
  refine va_mabs hx hb (by rw [hml]; exact hl.1.symm) hown (hts _ hw1) (hts _ hw2) (hts _ hw3) (hts _ hw4) (Nat.le_trans (Nat.le_of_ble_eq_true hfr1) hfr) (by show ((jq_eS b ss st).map _).sum + _ ≤ _; rw [jq_eS_cat]; exact Nat.le_trans (Nat.le_of_ble_eq_true hlo1) hlo) hc hs d ?_
  rw [jq_abs_eq o1.1]
  exact w
theorem jq_mabsl (Γ : jq_G Z X z own cc fr lo) {x : Int} {ix : Nat} (hw1 : Cond.methodLink own ix Lib.MathLoose.abs_long.x ∈ jq_T) (hw2 : Cond.static Lib.MathLoose.abs_long.x ∈ jq_T) (hw3 : Cond.initialized "java/lang/Math" ∈ jq_T) (hw4 : Cond.code Lib.MathLoose.abs_long.x Lib.MathLoose.abs_long.code 2 (some .long) ∈ jq_T) (hfr1 : Nat.ble 1 fr = true) (hlo1 : Nat.ble ((st.map jq_c).sum + 13) lo = true) (d : decode cc pc = .ok (.invokestatic ix, 3)) (kk : jq_J F K (jq_V Z X z σ (pc + 3) L (jL (jq_labs x) :: st))) : jq_J F K (jq_V Z X z σ pc L (jL x :: st)) := by
  rcases X with ⟨⟨p, l, e, R, s, m, args, below, meth, c⟩, A, Q, nL, b, D, cs, ss, ly⟩
  obtain ⟨hx, hb, hml, hown, hts, hK, hlk, hA, hfr, hlo, hc, hs, hal, hzk, hSF, hAb, hNw⟩ := Γ
  intro r hF hR hos hol hwf hly H locs ls hP hS hsz hl
  have o1 := jq_os_c.mp hos
  
  have hr : jq_rl (jq_labs x) := by
    have := o1.1
    unfold jq_ok at *
    unfold jq_rl at *
    unfold jq_labs
    first | (split <;> omega) | (split <;> first | omega | exact jq_w_r _ | exact jq_w64_r _)
  have w := kk r hF hR (jq_os_c.mpr ⟨hr, o1.2⟩) hol hwf hly H locs ls hP hS hsz hl
  refine va_mabs_long hx hb (by rw [hml]; exact hl.1.symm) hown (hts _ hw1) (hts _ hw2) (hts _ hw3) (hts _ hw4) (Nat.le_trans (Nat.le_of_ble_eq_true hfr1) hfr) (by show ((jq_eS b ss st).map _).sum + _ ≤ _; rw [jq_eS_cat]; exact Nat.le_trans (Nat.le_of_ble_eq_true hlo1) hlo) hc hs d ?_
  rw [jq_labs_eq o1.1]
  exact w
end
