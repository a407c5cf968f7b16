section
variable {σ σ1 σ2 : jq_M} {o v p n a b c x y : Int} {A : Int → Int}
theorem pu_cmp_gt : (0 < jq_cmp a b) = (b < a) := by
  unfold jq_cmp
  apply propext
  by_cases h : a < b
  · rw [if_pos h]; exact ⟨fun q => absurd q (by decide), fun q => by omega⟩
  · rw [if_neg h]
    by_cases h2 : a = b
    · rw [if_pos h2]; exact ⟨fun q => absurd q (by decide), fun q => by omega⟩
    · rw [if_neg h2]; exact ⟨fun _ => by omega, fun _ => by decide⟩
theorem pu_cmp_0 : (jq_cmp a b = 0) = (a = b) := by
  unfold jq_cmp
  apply propext
  by_cases h : a < b
  · rw [if_pos h]; exact ⟨fun q => absurd q (by decide), fun q => by omega⟩
  · rw [if_neg h]
    by_cases h2 : a = b
    · rw [if_pos h2]; exact ⟨fun _ => h2, fun _ => rfl⟩
    · rw [if_neg h2]; exact ⟨fun q => absurd q (by decide), fun q => absurd q h2⟩
theorem pu_lrem (h0 : 0 ≤ x) (h1 : 0 < y) (h2 : y < 9223372036854775808) : jq_lrem x y = some (x % y) := by
  unfold jq_lrem
  rw [if_neg (by omega), Int.tmod_eq_emod_of_nonneg h0]
  have h3 := Int.emod_nonneg x (show y ≠ 0 by omega)
  have h4 := Int.emod_lt_of_pos x h1
  rw [pu_w64 (by omega) (by omega)]
def pu_gcd (x y : Int) : Int := ((Nat.gcd x.toNat y.toNat : Nat) : Int)
theorem pu_gcd_s (h0 : 0 ≤ x) (h1 : 0 < y) : pu_gcd y (x % y) = pu_gcd x y := by
  unfold pu_gcd
  rw [Int.toNat_emod h0 (by omega), Nat.gcd_comm x.toNat, Nat.gcd_rec y.toNat x.toNat, Nat.gcd_comm]
theorem pu_gcd_0 (h0 : 0 ≤ x) : pu_gcd x 0 = x := by
  unfold pu_gcd
  rw [show (0 : Int).toNat = 0 from rfl, Nat.gcd_zero_right]
  omega
theorem pu_half (h0 : 0 < x) (h1 : x < y) : 2 * (y % x) < y := by
  have h3 := Int.emod_nonneg y (show x ≠ 0 by omega)
  have h4 := Int.emod_lt_of_pos y h0
  have h5 := Int.emod_def y x
  have h6 : 1 ≤ y / x := by
    refine Classical.byContradiction (fun z => ?_)
    have : x * (y / x) ≤ x * 0 := Int.mul_le_mul_of_nonneg_left (by omega) (by omega)
    omega
  have h7 : x * 1 ≤ x * (y / x) := Int.mul_le_mul_of_nonneg_left h6 (by omega)
  omega
theorem pu_euc (n : Nat) : ∀ (x y i : Int), 0 ≤ x → 0 ≤ y → y < 9223372036854775808 → y < 2 ^ n → 0 ≤ i → i + 2 * n + 2 ≤ 1000000 → jq_lp X10_commonDivisor_b9 (x, y, i) = some (pu_gcd x y) ∧ jq_lp X11_tellsBy_b17 (x, y) = some (pu_gcd x y) := by
  have z : ∀ (x i : Int), 0 ≤ x → i < 1000000 → jq_lp X10_commonDivisor_b9 (x, 0, i) = some (pu_gcd x 0) ∧ jq_lp X11_tellsBy_b17 (x, 0) = some (pu_gcd x 0) := by
    intro x i h0 h1
    rw [pu_gcd_0 h0]
    refine ⟨jq_lp_inr ?_, jq_lp_inr ?_⟩
    · unfold X10_commonDivisor_b9
      dsimp only
      rw [if_pos h1, if_pos (by rw [pu_cmp_0])]
    · unfold X11_tellsBy_b17
      dsimp only
      rw [if_pos (by rw [pu_cmp_0])]
  have s : ∀ (x y i : Int), 0 ≤ x → 0 < y → y < 9223372036854775808 → 0 ≤ i → i < 1000000 → jq_lp X10_commonDivisor_b9 (x, y, i) = jq_lp X10_commonDivisor_b9 (y, x % y, i + 1) ∧ jq_lp X11_tellsBy_b17 (x, y) = jq_lp X11_tellsBy_b17 (y, x % y) := by
    intro x y i h0 h1 h2 h3 h4
    refine ⟨jq_lp_inl ?_, jq_lp_inl ?_⟩
    · unfold X10_commonDivisor_b9
      dsimp only
      rw [if_pos h4, if_neg (by rw [pu_cmp_0]; omega), pu_lrem h0 h1 h2, Option.bind_some, pu_lt, pu_w (by omega) (by omega)]
    · unfold X11_tellsBy_b17
      dsimp only
      rw [if_neg (by rw [pu_cmp_0]; omega), pu_lrem h0 h1 h2, Option.bind_some]
  induction n with
  | zero =>
    intro x y i h0 h1 h2 h3 h4 h5
    have : y = 0 := by
      have : (2 : Int) ^ 0 = 1 := rfl
      omega
    subst this
    exact z x i h0 (by omega)
  | succ n ih =>
    intro x y i h0 h1 h2 h3 h4 h5
    by_cases hy : y = 0
    · subst hy
      exact z x i h0 (by omega)
    · obtain ⟨s1, s2⟩ := s x y i h0 (by omega) h2 h4 (by omega)
      have r0 := Int.emod_nonneg x hy
      have r1 := Int.emod_lt_of_pos x (show 0 < y by omega)
      rw [s1, s2, ← pu_gcd_s h0 (show 0 < y by omega)]
      by_cases hr : x % y = 0
      · rw [hr]
        exact z y (i + 1) h1 (by omega)
      · obtain ⟨s3, s4⟩ := s y (x % y) (i + 1) h1 (by omega) (by omega) (by omega) (by omega)
        have hh := pu_half (x := x % y) (y := y) (by omega) r1
        have q0 := Int.emod_nonneg y hr
        rw [s3, s4, ← pu_gcd_s h1 (show 0 < x % y by omega)]
        have h2n : (2 : Int) ^ (n + 1) = 2 * 2 ^ n := by rw [Int.pow_succ]; omega
        exact ih (x % y) (y % (x % y)) (i + 1 + 1) r0 q0 (by omega) (by omega) (by omega) (by omega)
def pu_ft (n d : Int) : Int := jq_w64 (Int.tdiv n (pu_gcd (if n < 0 then -n else n) d))
def pu_fb (n d : Int) : Int := jq_w64 (Int.tdiv d (pu_gcd (if n < 0 then -n else n) d))
theorem pu_gcd_pos (h : 0 < y) : 0 < pu_gcd x y := by
  unfold pu_gcd
  have := Nat.gcd_pos_of_pos_right x.toNat (show 0 < y.toNat by omega)
  omega
theorem pa_frac {d : Int} (n0 : -4611686018427387904 ≤ n) (n1 : n ≤ 4611686018427387904) (d0 : 0 < d) (d1 : d ≤ 4294967296) : X10_tellFraction n d σ1 = some (jq_st (jq_st σ1 0 1 (pu_ft n d)) 0 2 (pu_fb n d)) ∧ X11_tellsBy n d σ2 = some (1, jq_st (jq_st (jq_st σ2 0 3 (pu_ft n d)) 0 4 (pu_fb n d)) 0 2 0) := by
  have ha : jq_labs n = if n < 0 then -n else n := by
    unfold jq_labs
    by_cases h1 : 0 < n
    · rw [if_pos h1, if_neg (by omega)]
    · rw [if_neg h1, pu_w64 (by omega) (by omega)]
      by_cases h2 : n < 0
      · rw [if_pos h2]
      · rw [if_neg h2]; omega
  have h2 : (2 : Int) ^ 33 = 8589934592 := by decide
  have a0 : 0 ≤ (if n < 0 then -n else n) := by split <;> omega
  obtain ⟨e1, -⟩ := pu_euc 33 (if n < 0 then -n else n) d 0 a0 (by omega) (by omega) (by omega) (by omega) (by decide)
  have gp := pu_gcd_pos (x := if n < 0 then -n else n) d0
  refine ⟨?_, ?_⟩
  · unfold X10_tellFraction X10_commonDivisor jq_ldiv pu_ft pu_fb
    generalize (if n < 0 then -n else n) = m at ha e1 gp a0 ⊢
    rw [ha, e1, Option.bind_some, Option.bind_some, if_pos (by rw [pu_cmp_gt]; exact gp), if_neg (by omega), Option.bind_some, if_neg (by omega)]
    rfl
  · have j : ∀ x : Int, x = (if n < 0 then -n else n) → X11_tellsBy_j12 n d x σ2 = some (1, jq_st (jq_st (jq_st σ2 0 3 (pu_ft n d)) 0 4 (pu_fb n d)) 0 2 0) := by
      intro x hx
      obtain ⟨-, e2⟩ := pu_euc 33 x d 0 (by omega) (by omega) (by omega) (by omega) (by omega) (by decide)
      rw [← hx] at gp
      unfold X11_tellsBy_j12 jq_ldiv pu_ft pu_fb
      rw [← hx, e2, Option.bind_some, if_neg (by omega), Option.bind_some, if_neg (by omega)]
      rfl
    unfold X11_tellsBy
    by_cases h : n < 0
    · rw [if_pos (by rw [pu_cmp_lt]; exact h)]
      exact j _ (by rw [if_pos h, pu_w64 (by omega) (by omega)])
    · rw [if_neg (by rw [pu_cmp_lt]; exact h)]
      exact j _ (by rw [if_neg h])
/-- both fractions of one worth are told alike -/
theorem pu_ft_m {N D C : Nat} (hC : 0 < C) (hD : 0 < D) : pu_ft ((N * C : Nat) : Int) ((D * C : Nat) : Int) = pu_ft (N : Int) (D : Int) ∧ pu_fb ((N * C : Nat) : Int) ((D * C : Nat) : Int) = pu_fb (N : Int) (D : Int) := by
  have g : ∀ (n d : Nat), pu_gcd (if (n : Int) < 0 then -(n : Int) else n) d = ((Nat.gcd n d : Nat) : Int) := by
    intro n d
    rw [if_neg (by omega)]
    unfold pu_gcd
    rw [Int.toNat_natCast, Int.toNat_natCast]
  have t : ∀ (n d : Nat), Int.tdiv (n : Int) (d : Int) = ((n / d : Nat) : Int) := fun n d => rfl
  unfold pu_ft pu_fb
  rw [g, g, t, t, t, t, Nat.gcd_mul_right, Nat.mul_div_mul_right _ _ hC, Nat.mul_div_mul_right _ _ hC]
  exact ⟨rfl, rfl⟩
end
/-! odds -/
def pu_od (A : Int → Int) (i : Nat) : Nat := (A (99 + 5 * (i : Int))).toNat
def pu_pr (f : Nat → Nat) (s : Nat) : Nat → Nat
  | 0 => 1
  | m + 1 => if s.testBit m = true then pu_pr f s m * f m else pu_pr f s m
def pu_pl (f : Nat → Nat) (s : Nat) : Nat → Nat
  | 0 => 1
  | m + 1 => if s.testBit m = true then pu_pl f s m * f m else pu_pl f s m * 16
def pu_ct (s : Nat) : Nat → Nat
  | 0 => 0
  | m + 1 => if s.testBit m = true then pu_ct s m + 1 else pu_ct s m
theorem pu_ct_le (s : Nat) : ∀ m, pu_ct s m ≤ m := by
  intro m
  induction m with
  | zero => exact Nat.le_refl _
  | succ m ih =>
    rw [show pu_ct s (m + 1) = if s.testBit m = true then pu_ct s m + 1 else pu_ct s m from rfl]
    split <;> omega
theorem pu_pl_pr (f : Nat → Nat) (s : Nat) : ∀ m, pu_pl f s m = pu_pr f s m * 16 ^ (m - pu_ct s m) := by
  intro m
  induction m with
  | zero => rfl
  | succ m ih =>
    have hc := pu_ct_le s m
    rw [show pu_pl f s (m + 1) = if s.testBit m = true then pu_pl f s m * f m else pu_pl f s m * 16 from rfl, show pu_pr f s (m + 1) = if s.testBit m = true then pu_pr f s m * f m else pu_pr f s m from rfl, show pu_ct s (m + 1) = if s.testBit m = true then pu_ct s m + 1 else pu_ct s m from rfl]
    by_cases h : s.testBit m = true
    · rw [if_pos h, if_pos h, if_pos h, ih, show m + 1 - (pu_ct s m + 1) = m - pu_ct s m by omega, Nat.mul_right_comm]
    · rw [if_neg h, if_neg h, if_neg h, ih, show m + 1 - pu_ct s m = (m - pu_ct s m) + 1 by omega, Nat.pow_succ, Nat.mul_assoc]
theorem pu_pr_hi (f : Nat → Nat) {s n : Nat} (hs : s < 2 ^ n) : ∀ d, pu_pr f s (n + d) = pu_pr f s n := by
  intro d
  induction d with
  | zero => rfl
  | succ d ih =>
    rw [show n + (d + 1) = (n + d) + 1 by omega, show pu_pr f s (n + d + 1) = if s.testBit (n + d) = true then pu_pr f s (n + d) * f (n + d) else pu_pr f s (n + d) from rfl, Nat.testBit_lt_two_pow (Nat.lt_of_lt_of_le hs (Nat.pow_le_pow_right (by decide) (by omega)))]
    exact ih
theorem pu_pr_b {f : Nat → Nat} {s : Nat} : ∀ m, (∀ i, i < m → f i ≤ 16) → pu_pr f s m ≤ 16 ^ m := by
  intro m
  induction m with
  | zero => intro _; exact Nat.le_refl _
  | succ m ih =>
    intro h
    have h1 := ih (fun i hi => h i (by omega))
    rw [show pu_pr f s (m + 1) = if s.testBit m = true then pu_pr f s m * f m else pu_pr f s m from rfl, Nat.pow_succ]
    split
    · exact Nat.mul_le_mul h1 (h m (by omega))
    · have := Nat.pow_pos (n := m) (show 0 < 16 by decide)
      omega
theorem pu_pl_b {f : Nat → Nat} {s : Nat} : ∀ m, (∀ i, i < m → f i ≤ 16 ∨ s.testBit i = false) → pu_pl f s m ≤ 16 ^ m := by
  intro m
  induction m with
  | zero => intro _; exact Nat.le_refl _
  | succ m ih =>
    intro h
    have h1 := ih (fun i hi => h i (by omega))
    rw [show pu_pl f s (m + 1) = if s.testBit m = true then pu_pl f s m * f m else pu_pl f s m * 16 from rfl, Nat.pow_succ]
    split
    · rename_i g
      exact Nat.mul_le_mul h1 ((h m (by omega)).resolve_right (by rw [g]; decide))
    · exact Nat.mul_le_mul h1 (Nat.le_refl _)
theorem pu_ct_pop : ∀ s : Nat, s < 256 → pu_ct s 8 = pu_pop s := by decide +kernel
theorem pu_pop_n : ∀ n : Nat, n < 9 → ∀ s : Nat, s < 2 ^ n → pu_pop s ≤ n := by decide +kernel
section
variable {σ σ1 σ2 : jq_M} {o v p a b c x y : Int} {A : Int → Int} {s : Nat}
def pu_ls (A : Int → Int) (a : Int) : Nat := pu_le A a ||| 2 ^ a.toNat
theorem pu_ls_lt (hI : pu_inv A) (a0 : 0 ≤ a) (a1 : a < A 3) : pu_ls A a < 2 ^ (A 3).toNat := by
  have h := pu_le_lt hI a0 a1
  unfold pu_ls
  exact Nat.or_lt_two_pow (Nat.lt_of_lt_of_le h (Nat.pow_le_pow_right (by decide) (by omega))) (Nat.pow_lt_pow_right (by decide) (by omega))
theorem pu_16 : ∀ m : Nat, m ≤ 8 → 16 ^ m ≤ 4294967296 := by decide
theorem pu_od_b (hI : pu_inv A) {i : Nat} (hi : i < (A 3).toNat) : A (99 + 5 * (i : Int)) = ((pu_od A i : Nat) : Int) ∧ pu_od A i ≤ 16 := by
  obtain ⟨-, -, a3, a4, -⟩ := hI.2.2.2.2.2.2.2.2.2.2 i (by omega) (by omega)
  unfold pu_od
  omega
theorem ps_odds {S : Int} (hI : pu_inv A) (hC : pu_RC σ o A) (hS : S = (s : Int)) (hs : s < 256) : X0_oddsOfAll o S σ = some ((pu_pr (pu_od A) s (A 3).toNat : Nat) : Int) := by
  have i3 := hI.2.2.2.1
  have c4 := hC.1.2.2.2.2.1
  have ca := hC.2.2.2
  unfold X0_oddsOfAll
  refine pu_lpE (f := X0_oddsOfAll_b5 o S σ) (s := (1, 0)) (fun i t => t.2 = (i : Int) ∧ t.1 = ((pu_pr (pu_od A) s i : Nat) : Int)) (fun e => e = ((pu_pr (pu_od A) s (A 3).toNat : Nat) : Int)) (A 3).toNat ⟨rfl, rfl⟩ (fun i t ht hi => ?_) (fun e h1 h2 => by rw [h1, h2]; rfl)
  obtain ⟨t1, t2⟩ := t
  obtain ⟨hk, q1⟩ := ht
  dsimp only at hk q1
  have k0 : 0 ≤ t2 := by omega
  unfold X0_oddsOfAll_b5
  dsimp only
  rw [c4]
  by_cases hl : t2 < A 3
  · have it := pu_isin_i (s := s) (k := t2) (by omega) k0 (by omega)
    obtain ⟨o1, o2⟩ := pu_od_b hI (i := i) (by omega)
    have b1 := pu_pr_b (f := pu_od A) (s := s) i (fun j hj => (pu_od_b hI (by omega)).2)
    have b2 := pu_16 i (by omega)
    have e : pu_pr (pu_od A) s (i + 1) = if s.testBit i = true then pu_pr (pu_od A) s i * pu_od A i else pu_pr (pu_od A) s i := rfl
    have b3 : pu_pr (pu_od A) s i * pu_od A i ≤ 4294967296 * 16 := Nat.mul_le_mul (by omega) o2
    rw [← hk] at o1
    rw [if_pos hl, if_pos (show t2 < 8 by omega), ps_holds, Option.bind_some, pu_ii, pu_ld k0 (by omega), Option.bind_some, (ca t2 k0 hl).2.1, o1, hS, it, show t2.toNat = i by omega, q1, ← Int.natCast_mul]
    simp only [pu_lt]
    rw [pu_w (x := t2 + 1) (by omega) (by omega)]
    by_cases g : s.testBit i = true
    · rw [pu_if_p g]
      rw [if_pos g] at e
      generalize pu_pr (pu_od A) s i * pu_od A i = z at b3 e
      rw [pu_w64 (x := (z : Int)) (by omega) (by omega)]
      exact Or.inr ⟨by omega, _, rfl, by dsimp only; omega, by dsimp only; rw [e]⟩
    · rw [pu_if_n g]
      rw [if_neg g] at e
      exact Or.inr ⟨by omega, _, rfl, by dsimp only; omega, by dsimp only; rw [e]⟩
  · rw [if_neg hl]
    exact Or.inl ⟨_, rfl, by rw [q1, show i = (A 3).toNat by omega]⟩
theorem pm_luckOf (hI : pu_inv (σ 1)) (a0 : 0 ≤ a) (a1 : a < σ 1 3) : X11_luckOf a σ = some ((pu_pl (pu_od (σ 1)) (pu_ls (σ 1) a) 8 : Nat) : Int) := by
  have i3 := hI.2.2.2.1
  have h8 : (2 : Nat) ^ a.toNat ≤ 2 ^ 7 := Nat.pow_le_pow_right (by decide) (by omega)
  have h9 : (2 : Nat) ^ 7 = 128 := by decide
  have hl := pu_le_lt hI a0 a1
  have ls := pu_ls_lt hI a0 a1
  have hS2 : (2 : Nat) ^ (σ 1 3).toNat ≤ 2 ^ 8 := Nat.pow_le_pow_right (by decide) (by omega)
  have h256 : (2 : Nat) ^ 8 = 256 := by decide
  unfold X11_luckOf
  rw [pm_leansOf hI a0 a1, Option.bind_some, pu_shl1_i a0 (by omega), pu_or (by omega) (by omega), pu_lt]
  rw [show pu_le (σ 1) a ||| 2 ^ a.toNat = pu_ls (σ 1) a from rfl]
  generalize hs : pu_ls (σ 1) a = s at ls
  generalize hS : (s : Int) = S
  refine pu_lpE (f := X11_luckOf_b15 σ S) (s := (1, 0)) (fun i t => t.2 = (i : Int) ∧ t.1 = ((pu_pl (pu_od (σ 1)) s i : Nat) : Int)) (fun e => e = ((pu_pl (pu_od (σ 1)) s 8 : Nat) : Int)) 8 ⟨rfl, rfl⟩ (fun i t ht hi => ?_) (fun e h1 h2 => by rw [h1, h2]; rfl)
  obtain ⟨t1, t2⟩ := t
  obtain ⟨hk, q1⟩ := ht
  dsimp only at hk q1
  have k0 : 0 ≤ t2 := by omega
  unfold X11_luckOf_b15
  dsimp only
  by_cases hl : t2 < 8
  · have it := pu_isin_i (s := s) (k := t2) (by omega) k0 (by omega)
    have hb : ∀ j, j < 8 → pu_od (σ 1) j ≤ 16 ∨ s.testBit j = false := by
      intro j hj
      by_cases z : j < (σ 1 3).toNat
      · exact Or.inl (pu_od_b hI z).2
      · exact Or.inr (Nat.testBit_lt_two_pow (Nat.lt_of_lt_of_le ls (Nat.pow_le_pow_right (by decide) (by omega))))
    have b1 := pu_pl_b (f := pu_od (σ 1)) (s := s) i (fun j hj => hb j (by omega))
    have b2 := pu_16 i (by omega)
    have e : pu_pl (pu_od (σ 1)) s (i + 1) = if s.testBit i = true then pu_pl (pu_od (σ 1)) s i * pu_od (σ 1) i else pu_pl (pu_od (σ 1)) s i * 16 := rfl
    rw [if_pos hl, pm_isIn, Option.bind_some, pu_ii, pm_articleRow k0 hl, Option.bind_some, pu_w (x := 98 + 5 * t2 + 1) (by omega) (by omega), pu_ld (by omega) (by omega), Option.bind_some, show 98 + 5 * t2 + 1 = 99 + 5 * t2 by omega, ← hS, it, show t2.toNat = i by omega, q1]
    simp only [pu_lt]
    rw [pu_w (x := t2 + 1) (by omega) (by omega)]
    by_cases g : s.testBit i = true
    · have hi2 : i < (σ 1 3).toNat := by
        refine Classical.byContradiction (fun z => ?_)
        have := Nat.testBit_lt_two_pow (Nat.lt_of_lt_of_le ls (Nat.pow_le_pow_right (by decide) (show (σ 1 3).toNat ≤ i by omega)))
        rw [g] at this
        cases this
      obtain ⟨o1, o2⟩ := pu_od_b hI hi2
      have b3 : pu_pl (pu_od (σ 1)) s i * pu_od (σ 1) i ≤ 4294967296 * 16 := Nat.mul_le_mul (by omega) o2
      rw [← hk] at o1
      rw [pu_if_p g, o1, ← Int.natCast_mul]
      rw [if_pos g] at e
      generalize pu_pl (pu_od (σ 1)) s i * pu_od (σ 1) i = z at b3 e
      rw [pu_w64 (x := (z : Int)) (by omega) (by omega)]
      exact Or.inr ⟨by omega, _, rfl, by dsimp only; omega, by dsimp only; rw [e]⟩
    · rw [pu_if_n g]
      rw [if_neg g] at e
      generalize pu_pl (pu_od (σ 1)) s i = z at b1 e
      rw [pu_w64 (x := (z : Int) * 16) (by omega) (by omega)]
      exact Or.inr ⟨by omega, _, rfl, by dsimp only; omega, by dsimp only; rw [e]; omega⟩
  · rw [if_neg hl]
    exact Or.inl ⟨_, rfl, by rw [q1, show i = 8 by omega]⟩
theorem pu_asmF (h : jq_Rel σ1 σ2) (t b v : Int) : jq_Rel (jq_st (jq_st (jq_st σ1 0 1 t) 0 2 b) 0 0 v) (jq_st (jq_st (jq_st σ2 0 3 t) 0 4 b) 0 2 v) := by
  have hn := h.2.1
  refine pu_asm h ⟨?_, ?_, ?_⟩ (fun j hj => ?_) (fun j hj => ?_) (fun k hk => ?_) (fun k hk => ?_) ?_ ?_
  · rw [pu_st_a, pu_st_a]
  · rw [pu_st_b (by omega), pu_st_b (by omega), pu_st_a, pu_st_b (by omega), pu_st_b (by omega), pu_st_a]
  · rw [pu_st_b (by omega), pu_st_a, pu_st_b (by omega), pu_st_a]
  · rw [pu_st_b (by omega), pu_st_b (by omega), pu_st_b (by omega)]
  · rw [pu_st_b (by omega), pu_st_b (by omega), pu_st_b (by omega)]
  · rw [pu_st_ne (by omega), pu_st_ne (by omega), pu_st_ne (by omega)]
  · rw [pu_st_ne (by omega), pu_st_ne (by omega), pu_st_ne (by omega)]
  · rw [pu_st_ne (show (1 : Int) ≠ 0 by omega), pu_st_ne (show (1 : Int) ≠ 0 by omega), pu_st_ne (show (1 : Int) ≠ 0 by omega), pu_st_ne (show (2 : Int) ≠ 0 by omega), pu_st_ne (show (2 : Int) ≠ 0 by omega), pu_st_ne (show (2 : Int) ≠ 0 by omega)]
    exact h.2.2.1.mv (fun k x y => by rw [pu_st_ne (by omega), pu_st_ne (by omega), pu_st_ne (by omega)])
  · rw [pu_st_b (show (11 : Int) ≠ 0 by omega), pu_st_b (show (11 : Int) ≠ 2 by omega), pu_st_b (show (11 : Int) ≠ 1 by omega), pu_st_b (show (36 : Int) ≠ 2 by omega), pu_st_b (show (36 : Int) ≠ 4 by omega), pu_st_b (show (36 : Int) ≠ 3 by omega), pu_st_ne (show (1 : Int) ≠ 0 by omega), pu_st_ne (show (1 : Int) ≠ 0 by omega), pu_st_ne (show (1 : Int) ≠ 0 by omega), pu_st_ne (show (2 : Int) ≠ 0 by omega), pu_st_ne (show (2 : Int) ≠ 0 by omega), pu_st_ne (show (2 : Int) ≠ 0 by omega)]
    obtain ⟨m1, m2, m3, m4⟩ := h.2.2.2.1
    exact ⟨m1, m2, m3, fun i i0 i1 => (m4 i i0 i1).mv (fun k x y => by rw [pu_st_ne (by omega), pu_st_ne (by omega), pu_st_ne (by omega)])⟩
theorem pr_luck {σ1 σ2 : jq_M} (h : jq_Rel σ1 σ2) (w1 : jq_wf jq_zX 132 σ1) (w2 : jq_wf jq_zM 18 σ2) (y1 : jq_lay jq_zX σ1) (y2 : jq_lay jq_zM σ2) {p1 : Int} (hp1 : jq_r p1) : ∃ (r : Int) (σ1' σ2' : jq_M), X10_luck p1 σ1 = some (r, σ1') ∧ X11_luck p1 σ2 = some (r, σ2') ∧ jq_Rel σ1' σ2' := by
  have hI := h.2.2.1.1
  have hC := h.2.2.1.2.1
  obtain ⟨⟨i0, i1, i2, i3, i4, i5, i6, ip, iq, iw, ia⟩, ⟨⟨c0, c1, c2, c3, c4, c5, c6⟩, cp, cw, ca⟩, cN, cS⟩ := h.2.2.1
  unfold X10_luck X11_luck
  by_cases hp : 0 ≤ p1 ∧ p1 < σ2 1 3
  · have hpn : ¬ ¬ (0 ≤ p1 ∧ p1 < σ2 1 3) := fun q => q hp
    obtain ⟨a0, a1⟩ := hp
    have h8 : (2 : Nat) ^ p1.toNat ≤ 2 ^ 7 := Nat.pow_le_pow_right (by decide) (by omega)
    have h9 : (2 : Nat) ^ 7 = 128 := by decide
    have hl := pu_le_lt hI a0 a1
    have ls := pu_ls_lt hI a0 a1
    have hS2 : (2 : Nat) ^ (σ2 1 3).toNat ≤ 2 ^ 8 := Nat.pow_le_pow_right (by decide) (by omega)
    have h256 : (2 : Nat) ^ 8 = 256 := by decide
    have pl := pm_luckOf hI a0 a1
    have pb := pu_pl_pr (pu_od (σ2 1)) (pu_ls (σ2 1) p1) 8
    have ph := pu_pr_hi (pu_od (σ2 1)) ls (8 - (σ2 1 3).toNat)
    rw [show (σ2 1 3).toNat + (8 - (σ2 1 3).toNat) = 8 by omega] at ph
    have pbb := pu_pr_b (f := pu_od (σ2 1)) (s := pu_ls (σ2 1) p1) (σ2 1 3).toNat (fun i hi => (pu_od_b hI hi).2)
    have p16 := pu_16 (σ2 1 3).toNat (by omega)
    have pd := pu_or_d3 (pu_ls (σ2 1) p1) (by omega)
    rw [pu_ct_pop _ (by omega), ph] at pb
    simp only [pu_lt, ps_isArticle (pu_cA h), c4, Option.bind_some, pu_i_0, if_neg hpn, pm_isArticle, ps_allLeans hI hC a0 a1, pu_shl1_i a0 (show p1 < 31 by omega), pu_or (show pu_le (σ2 1) p1 < 2147483648 by omega) (show 2 ^ p1.toNat < 2147483648 by omega), pl]
    rw [show pu_le (σ2 1) p1 ||| 2 ^ p1.toNat = pu_ls (σ2 1) p1 from rfl]
    generalize hs : pu_ls (σ2 1) p1 = s at ls pb pbb pd ph
    generalize hS : (s : Int) = S
    have bc := pu_bc (n := s) (by omega) σ1
    rw [hS] at bc
    have lp : jq_lp (X10_luck_b35 σ1 S) (1, 0) = some ((16 ^ pu_pop s : Nat) : Int) := by
      refine pu_lpE (f := X10_luck_b35 σ1 S) (s := (1, 0)) (fun i t => t.2 = (i : Int) ∧ t.1 = ((16 ^ i : Nat) : Int)) (fun e => e = ((16 ^ pu_pop s : Nat) : Int)) (pu_pop s) ⟨rfl, rfl⟩ (fun i t ht hi => ?_) (fun e h1 h2 => by rw [h1, h2])
      obtain ⟨t1, t2⟩ := t
      obtain ⟨hk, q1⟩ := ht
      dsimp only at hk q1
      have b2 := pu_16 i (by omega)
      have e : (16 : Nat) ^ (i + 1) = 16 ^ i * 16 := Nat.pow_succ ..
      unfold X10_luck_b35
      dsimp only
      rw [bc, Option.bind_some, q1]
      by_cases hl : t2 < ((pu_pop s : Nat) : Int)
      · rw [if_pos hl]
        simp only [pu_lt]
        generalize 16 ^ i = z at b2 e
        rw [pu_w (x := t2 + 1) (by omega) (by omega), pu_w64 (x := (z : Int) * 16) (by omega) (by omega)]
        exact Or.inr ⟨by omega, _, rfl, by dsimp only; omega, by dsimp only; rw [e]; omega⟩
      · rw [if_neg hl]
        exact Or.inl ⟨_, rfl, by rw [show i = pu_pop s by omega]⟩
    rw [lp, Option.bind_some, ps_odds hI hC hS.symm (by omega), Option.bind_some]
    have c16 := Nat.pow_pos (n := 8 - pu_pop s) (show 0 < 16 by decide)
    have d16 := Nat.pow_pos (n := pu_pop s) (show 0 < 16 by decide)
    have e16 : 16 ^ pu_pop s * 16 ^ (8 - pu_pop s) = 4294967296 := by
      rw [← Nat.pow_add, show pu_pop s + (8 - pu_pop s) = 8 by omega]
    obtain ⟨f1, f2⟩ := pu_ft_m (N := pu_pr (pu_od (σ2 1)) s (σ2 1 3).toNat) (D := 16 ^ pu_pop s) c16 d16
    rw [← pb, e16] at f1 f2
    have b16 := pu_16 (pu_pop s) pd
    have plb : pu_pl (pu_od (σ2 1)) s 8 ≤ 4294967296 * 4294967296 := by
      rw [pb]
      exact Nat.mul_le_mul (by omega) (pu_16 (8 - pu_pop s) (by omega))
    have plb2 : pu_pl (pu_od (σ2 1)) s 8 ≤ 4294967296 := by
      have := pu_pl_b (f := pu_od (σ2 1)) (s := s) 8 (fun j hj => by
        by_cases z : j < (σ2 1 3).toNat
        · exact Or.inl (pu_od_b hI z).2
        · exact Or.inr (Nat.testBit_lt_two_pow (Nat.lt_of_lt_of_le ls (Nat.pow_le_pow_right (by decide) (by omega)))))
      exact Nat.le_trans this (pu_16 8 (by omega))
    have g1 := (pa_frac (n := ((pu_pr (pu_od (σ2 1)) s (σ2 1 3).toNat : Nat) : Int)) (d := ((16 ^ pu_pop s : Nat) : Int)) (σ1 := σ1) (σ2 := σ2) (by omega) (by omega) (by omega) (by omega)).1
    have g2 := (pa_frac (n := ((pu_pl (pu_od (σ2 1)) s 8 : Nat) : Int)) (d := 4294967296) (σ1 := σ1) (σ2 := σ2) (by omega) (by omega) (by omega) (by omega)).2
    rw [g1, g2, Option.bind_some, pu_b2, ps_grant, pu_b2]
    rw [show ((4294967296 : Nat) : Int) = 4294967296 from rfl] at f1 f2
    rw [f1, f2]
    exact ⟨1, _, _, rfl, rfl, pu_asmF h _ _ _⟩
  · refine pu_no h (r := 0) (v := 1) ?_ ?_
    · simp only [pu_lt, ps_isArticle (pu_cA h), c4, Option.bind_some, pu_i_0, if_pos hp, ps_deny, pu_b2]
    · simp only [pm_isArticle, Option.bind_some, pu_i_0, if_pos hp, pm_is, pu_b2]
      rfl
end
