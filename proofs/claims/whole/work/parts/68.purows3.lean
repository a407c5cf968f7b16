section
variable {σ σ1 σ2 : jq_M} {o u x : Int} {U P K : Nat} {r : List Nat} {A : Int → Int}
def pu_N (A : Int → Int) : Nat := if A 0 = 0 then 0 else (A 0).toNat ^ (A 1).toNat
theorem pu_powb : ∀ P, P < 7 → ∀ k, k < 6 → P ^ k ≤ 7776 := by decide +kernel
theorem pm_codes (hI : pu_inv (σ 1)) : X11_codes σ = some ((pu_N (σ 1) : Nat) : Int) := by
  obtain ⟨i0, i1, -⟩ := hI
  unfold X11_codes pu_N
  rw [pu_ld (by omega) (by omega), Option.bind_some]
  by_cases h : σ 1 0 = 0
  · rw [if_pos h, if_pos h]
    unfold X11_codes_j14
    have : jq_lp (X11_codes_b17 σ) (0, 0) = some 0 := by
      refine jq_lp_inr ?_
      unfold X11_codes_b17
      dsimp only
      rw [pu_ld (by omega) (by omega), Option.bind_some, if_neg (by omega)]
    rw [this]
    rfl
  · rw [if_neg h, if_neg h]
    unfold X11_codes_j14
    refine pu_lpE (f := X11_codes_b17 σ) (s := (1, 0)) (fun i t => t.2 = (i : Int) ∧ t.1 = (((σ 1 0).toNat ^ i : Nat) : Int)) (fun e => e = (((σ 1 0).toNat ^ (σ 1 1).toNat : Nat) : Int)) (σ 1 1).toNat ⟨rfl, rfl⟩ (fun i t ht hi => ?_) (fun e h1 h2 => by rw [h1, h2]; rfl)
    obtain ⟨t1, t2⟩ := t
    obtain ⟨hk, q1⟩ := ht
    dsimp only at hk q1
    unfold X11_codes_b17
    dsimp only
    rw [pu_ld (by omega) (by omega), Option.bind_some]
    by_cases hl : t2 < σ 1 1
    · have b1 := pu_powb (σ 1 0).toNat (by omega) (i + 1) (by omega)
      have e : (σ 1 0).toNat ^ (i + 1) = (σ 1 0).toNat ^ i * (σ 1 0).toNat := Nat.pow_succ ..
      rw [if_pos hl, pu_ld (by omega) (by omega), Option.bind_some, q1, show σ 1 0 = (((σ 1 0).toNat : Nat) : Int) by omega, Int.toNat_natCast, ← Int.natCast_mul, ← e, pu_lt, pu_lt, pu_w (x := (((σ 1 0).toNat ^ (i + 1) : Nat) : Int)) (by omega) (by omega), pu_w (by omega) (by omega)]
      exact Or.inr ⟨by omega, _, rfl, by dsimp only; omega, rfl⟩
    · rw [if_neg hl]
      exact Or.inl ⟨_, rfl, by rw [q1, show i = (σ 1 1).toNat by omega]⟩
theorem pu_divn {x y : Int} {L : Nat} (hx : x = (L : Int)) (hL : L < 2147483648) (hy : y = (P : Int)) (h0 : 0 < P) (hP : P ≤ 6) : jq_rem x y = some ((L % P : Nat) : Int) ∧ jq_div x y = some ((L / P : Nat) : Int) := by
  refine ⟨?_, ?_⟩
  · rw [hx, hy, pu_rem (by omega) (by omega) (by omega), Int.natCast_emod]
  · unfold jq_div
    have hb : L / P ≤ L := Nat.div_le_self _ _
    have e : Int.tdiv x y = ((L / P : Nat) : Int) := by rw [hx, hy]; rfl
    rw [if_neg (by omega), e]
    clear e
    generalize L / P = q at hb
    rw [pu_w (x := (q : Int)) (by omega) (by omega)]
theorem pm_sbs (hP0 : 0 < P) (hP : P ≤ 6) (hK : K ≤ 5) : ∀ (m : Nat) (σ : jq_M) (l u y : Int) (L U : Nat) (acc : List Nat), l = (L : Int) → L < 2147483648 → u = (U : Int) → U < 128 → y = (m : Int) - 1 → m + acc.length = K → σ 1 0 = (P : Int) → (∀ j : Nat, j < acc.length → σ 9 ((m + j : Nat) : Int) = ((acc.getD j 0 : Nat) : Int)) → (pu_sbs P m L U acc = none ∧ ∃ τ, jq_lp X11_seatsBy_b14 (l, u, y, σ) = some (.inl τ) ∧ ∀ k, k ≠ 9 → τ k = σ k) ∨ ∃ r τ, pu_sbs P m L U acc = some r ∧ jq_lp X11_seatsBy_b14 (l, u, y, σ) = some (.inr τ) ∧ (∀ k, k ≠ 9 → τ k = σ k) ∧ pu_rw τ 9 r ∧ r.length = K := by
  intro m
  induction m with
  | zero =>
    intro σ l u y L U acc hl hL hu hU hy hm h0 hw
    refine Or.inr ⟨acc, σ, rfl, jq_lp_inr ?_, fun _ _ => rfl, fun j hj => ?_, by omega⟩
    · unfold X11_seatsBy_b14
      dsimp only
      rw [if_pos (by omega)]
    · have := hw j hj
      rw [Nat.zero_add] at this
      exact this
  | succ m ih =>
    intro σ l u y L U acc hl hL hu hU hy hm h0 hw
    obtain ⟨d1, d2⟩ := pu_divn hl hL h0 hP0 hP
    have hd : L % P < P := Nat.mod_lt _ hP0
    have hq : L / P ≤ L := Nat.div_le_self _ _
    rw [show pu_sbs P (m + 1) L U acc = if U.testBit (L % P) = true then none else pu_sbs P m (L / P) (U ||| 2 ^ (L % P)) (L % P :: acc) from rfl]
    generalize L % P = d at d1 hd
    generalize L / P = q at d2 hq
    have pv : (2 : Nat) ^ d < 128 := Nat.lt_of_lt_of_le (Nat.pow_lt_pow_right (by decide) (show d < 7 by omega)) (by decide)
    have it := pu_isin (s := U) (k := d) (by omega) (by omega)
    have st : X11_seatsBy_b14 (l, u, y, σ) = if U.testBit d = true then some (.inr (.inl (jq_st σ 9 y (d : Int)))) else some (.inl ((q : Int), ((U ||| 2 ^ d : Nat) : Int), y - 1, jq_st σ 9 y (d : Int))) := by
      unfold X11_seatsBy_b14
      dsimp only
      rw [if_neg (by omega), pu_ld (by omega) (by omega), Option.bind_some, d1, Option.bind_some, pu_sa (by omega) (by omega), Option.bind_some, pu_ld (by omega) (by omega), Option.bind_some, pu_st_ne (show (1 : Int) ≠ 9 by omega), d2, Option.bind_some, pu_ld (by omega) (by omega), Option.bind_some, pu_st_a, pm_isIn, Option.bind_some, Option.bind_some, hu, it, pu_shl1_i (by omega) (by omega), Int.toNat_natCast, pu_or (by omega) (by omega), pu_lt, pu_lt, pu_w (by omega) (by omega), show y + -1 = y - 1 by omega]
      by_cases g : U.testBit d = true
      · rw [pu_i_p g, if_neg (by decide), if_pos g]
      · rw [pu_i_n g, if_pos rfl, if_neg g]
    by_cases g : U.testBit d = true
    · rw [if_pos g] at st ⊢
      exact Or.inl ⟨rfl, _, jq_lp_inr st, fun k hk => pu_st_ne hk⟩
    · rw [if_neg g] at st ⊢
      rw [jq_lp_inl st]
      rcases ih (jq_st σ 9 y (d : Int)) (q : Int) (((U ||| 2 ^ d : Nat) : Int)) (y - 1) q (U ||| 2 ^ d) (d :: acc) rfl (by omega) rfl (pu_or128 hU (by omega)) (by omega) (by rw [List.length_cons]; omega) ((congrFun (pu_st_ne (by omega)) 0).trans h0) (fun j hj => by
        rw [List.length_cons] at hj
        cases j with
        | zero =>
          rw [Nat.add_zero, show ((m : Nat) : Int) = y by omega, pu_st_a]
          rfl
        | succ j =>
          have := hw j (by omega)
          rw [pu_st_b (by omega), show m + (j + 1) = m + 1 + j by omega, this]
          rfl) with ⟨e1, τ, e2, e3⟩ | ⟨r, τ, e1, e2, e3, e4, e5⟩
      · exact Or.inl ⟨e1, τ, e2, fun k hk => (e3 k hk).trans (pu_st_ne hk)⟩
      · exact Or.inr ⟨r, τ, e1, e2, fun k hk => (e3 k hk).trans (pu_st_ne hk), e4, e5⟩
theorem pm_seatsBy {c : Nat} (hI : pu_inv (σ 1)) (hP : 0 < σ 1 0) (hx : x = (c : Int)) (hc : c < 7776) : (pu_row (σ 1 0).toNat (σ 1 1).toNat c = none ∧ ∃ τ, X11_seatsBy x σ = some (0, τ) ∧ ∀ k, k ≠ 9 → τ k = σ k) ∨ ∃ r τ, pu_row (σ 1 0).toNat (σ 1 1).toNat c = some r ∧ X11_seatsBy x σ = some (1, τ) ∧ (∀ k, k ≠ 9 → τ k = σ k) ∧ pu_rw τ 9 r ∧ r.length = (σ 1 1).toNat := by
  obtain ⟨i0, i1, -⟩ := hI
  have h := pm_sbs (P := (σ 1 0).toNat) (K := (σ 1 1).toNat) (by omega) (by omega) (by omega) (σ 1 1).toNat σ x 0 (σ 1 1 - 1) c 0 [] hx (by omega) rfl (by decide) (by omega) (by rw [List.length_nil]; omega) (by omega) (fun j hj => by rw [List.length_nil] at hj; omega)
  unfold X11_seatsBy pu_row
  rw [pu_ld (by omega) (by omega), Option.bind_some, pu_lt, pu_w (by omega) (by omega)]
  rcases h with ⟨e1, τ, e2, e3⟩ | ⟨r, τ, e1, e2, e3, e4, e5⟩
  · rw [e2]
    exact Or.inl ⟨e1, τ, rfl, e3⟩
  · rw [e2]
    exact Or.inr ⟨r, τ, e1, rfl, e3, e4, e5⟩
end
/-! the survey: the class goes on from seating to seating, the reference from code to code -/
section
variable {σ1 σ2 m1 m2 : jq_M} {o x : Int} {A : Int → Int} {c : Nat}
def pu_cu (A : Int → Int) (c : Nat) : List Nat := pu_cur (A 0).toNat (A 1).toNat c
def pu_ok (A : Int → Int) (c : Nat) : Bool := (pu_row (A 0).toNat (A 1).toNat c).isSome
def pu_ci (A : Int → Int) (c : Nat) : Nat := pu_cn (A 0).toNat (A 1).toNat c
def pu_v1 (σ1 : jq_M) (o : Int) (A : Int → Int) (c : Nat) (m : jq_M) : Prop := (∀ k, k ≠ 53 → k ≠ o + 19 → k ≠ 54 → k ≠ 55 → k ≠ 56 → m k = σ1 k) ∧ pu_rw m 53 (pu_cu A c) ∧ (pu_cu A c).length = (A 1).toNat ∧ pu_l6 (pu_cu A c)
def pu_v2 (σ2 m : jq_M) : Prop := ∀ k, k ≠ 9 → m k = σ2 k
def pu_sr (r : List Nat) : Int → Int := fun p => ((r.getD p.toNat 0 : Nat) : Int)
theorem pu_rw_s {σ : jq_M} {k n : Int} {r : List Nat} (h : pu_rw σ k r) (hr : r.length = n.toNat) : ∀ p, 0 ≤ p → p < n → σ k p = pu_sr r p := by
  intro p p0 p1
  have := h p.toNat (by omega)
  rw [show ((p.toNat : Nat) : Int) = p by omega] at this
  exact this
theorem pu_N_b (hI : pu_inv A) : pu_N A ≤ 7776 := by
  obtain ⟨i0, i1, -⟩ := hI
  unfold pu_N
  split
  · omega
  · exact pu_powb _ (by omega) _ (by omega)
theorem pu_N_p (hI : pu_inv A) (h : c < pu_N A) : 3 ≤ A 0 ∧ c < (A 0).toNat ^ (A 1).toNat := by
  obtain ⟨i0, i1, -⟩ := hI
  unfold pu_N at h
  split at h
  · omega
  · exact ⟨by omega, h⟩
/-- where the code is none, the class waits -/
theorem pu_sv0 (hI : pu_inv (σ2 1)) (hx : x = (c : Int)) (hc : c < pu_N (σ2 1)) (ho : pu_ok (σ2 1) c = false) (h1 : pu_v1 σ1 o (σ2 1) c m1) (h2 : pu_v2 σ2 m2) : (∃ τ, X11_seatsBy x m2 = some (0, τ) ∧ pu_v2 σ2 τ) ∧ pu_v1 σ1 o (σ2 1) (c + 1) m1 ∧ pu_ci (σ2 1) (c + 1) = pu_ci (σ2 1) c := by
  obtain ⟨p3, pc⟩ := pu_N_p hI hc
  have nb := pu_N_b hI
  have e1 : m2 1 = σ2 1 := h2 1 (by omega)
  unfold pu_ok at ho
  have hn : pu_row (σ2 1 0).toNat (σ2 1 1).toNat c = none := by
    cases h : pu_row (σ2 1 0).toNat (σ2 1 1).toNat c with
    | none => rfl
    | some r => rw [h] at ho; cases ho
  have e2 : pu_cu (σ2 1) (c + 1) = pu_cu (σ2 1) c := by
    unfold pu_cu
    rw [show pu_cur (σ2 1 0).toNat (σ2 1 1).toNat (c + 1) = match pu_row (σ2 1 0).toNat (σ2 1 1).toNat c with | some _ => pu_go (σ2 1 0).toNat (σ2 1 1).toNat (pu_cur (σ2 1 0).toNat (σ2 1 1).toNat c) | none => pu_cur (σ2 1 0).toNat (σ2 1 1).toNat c from rfl, hn]
  refine ⟨?_, ?_, ?_⟩
  · rcases pm_seatsBy (σ := m2) (x := x) (c := c) (by rw [e1]; exact hI) (by rw [e1]; omega) hx (by omega) with ⟨-, τ, g1, g2⟩ | ⟨r, τ, g1, -⟩
    · exact ⟨τ, g1, fun k hk => (g2 k hk).trans (h2 k hk)⟩
    · rw [e1, hn] at g1; cases g1
  · unfold pu_v1
    rw [e2]
    exact h1
  · unfold pu_ci
    rw [show pu_cn (σ2 1 0).toNat (σ2 1 1).toNat (c + 1) = pu_cn (σ2 1 0).toNat (σ2 1 1).toNat c + if (pu_row (σ2 1 0).toNat (σ2 1 1).toNat c).isSome = true then 1 else 0 from rfl, hn]
    rfl
/-- where it is a seating, both have it -/
theorem pu_sv1 (hI : pu_inv (σ2 1)) (hC : pu_RC σ1 o (σ2 1)) (hoo : o = 5 ∨ o = 25) (hx : x = (c : Int)) (hc : c < pu_N (σ2 1)) (ho : pu_ok (σ2 1) c = true) (h1 : pu_v1 σ1 o (σ2 1) c m1) (h2 : pu_v2 σ2 m2) : (∀ p, 0 ≤ p → p < σ2 1 1 → m1 53 p = pu_sr (pu_cu (σ2 1) c) p) ∧ (∃ τ, X11_seatsBy x m2 = some (1, τ) ∧ pu_v2 σ2 τ ∧ ∀ p, 0 ≤ p → p < σ2 1 1 → τ 9 p = pu_sr (pu_cu (σ2 1) c) p) ∧ (∀ m, (∀ k, k ≠ o + 19 → k ≠ 54 → k ≠ 55 → k ≠ 56 → m k = m1 k) → ∃ τ, X8_goOn o m = some τ ∧ (∀ k, k ≠ 53 → τ k = m k) ∧ pu_v1 σ1 o (σ2 1) (c + 1) τ) ∧ pu_ci (σ2 1) (c + 1) = pu_ci (σ2 1) c + 1 := by
  obtain ⟨p3, pc⟩ := pu_N_p hI hc
  have nb := pu_N_b hI
  have e1 : m2 1 = σ2 1 := h2 1 (by omega)
  have hI0 := hI
  obtain ⟨i0, i1, -⟩ := hI
  obtain ⟨hm, hw, hlen, h6⟩ := h1
  unfold pu_ok at ho
  obtain ⟨r, hr⟩ : ∃ r, pu_row (σ2 1 0).toNat (σ2 1 1).toNat c = some r := by
    cases h : pu_row (σ2 1 0).toNat (σ2 1 1).toNat c with
    | none => rw [h] at ho; cases ho
    | some r => exact ⟨r, rfl⟩
  have ec : pu_cu (σ2 1) c = r := (pu_cur_last (P := (σ2 1 0).toNat) (K := (σ2 1 1).toNat) (by omega) (by omega) (by omega) (by omega) c (by omega)).2.2 r hr pc
  have e2 : pu_cu (σ2 1) (c + 1) = pu_go (σ2 1 0).toNat (σ2 1 1).toNat (pu_cu (σ2 1) c) := by
    unfold pu_cu
    rw [show pu_cur (σ2 1 0).toNat (σ2 1 1).toNat (c + 1) = match pu_row (σ2 1 0).toNat (σ2 1 1).toNat c with | some _ => pu_go (σ2 1 0).toNat (σ2 1 1).toNat (pu_cur (σ2 1 0).toNat (σ2 1 1).toNat c) | none => pu_cur (σ2 1 0).toNat (σ2 1 1).toNat c from rfl, hr]
  refine ⟨pu_rw_s hw hlen, ?_, fun m h => ?_, ?_⟩
  · rcases pm_seatsBy (σ := m2) (x := x) (c := c) (by rw [e1]; exact hI0) (by rw [e1]; omega) hx (by omega) with ⟨g1, -⟩ | ⟨r', τ, g1, g2, g3, g4, g5⟩
    · rw [e1, hr] at g1; cases g1
    · rw [e1, hr] at g1
      cases g1
      rw [e1] at g5
      refine ⟨τ, g2, fun k hk => (g3 k hk).trans (h2 k hk), ?_⟩
      rw [ec]
      exact pu_rw_s g4 g5
  · have c0 := hC.1.1
    have c2 := hC.1.2.2.1
    have mo : m o = σ1 o := (h o (by omega) (by omega) (by omega) (by omega)).trans (hm o (by omega) (by omega) (by omega) (by omega) (by omega))
    have m53 : m 53 = m1 53 := h 53 (by omega) (by omega) (by omega) (by omega)
    obtain ⟨τ, g1, g2, g3, g4, g5⟩ := ps_goOn (σ := m) (o := o) (K := (σ2 1 1).toNat) (P := (σ2 1 0).toNat) (r := pu_cu (σ2 1) c) (by omega) (by omega) (by omega) (by rw [mo, c0]; omega) (by rw [mo, c2]; omega) hlen h6 (fun j hj => by rw [m53]; exact hw j hj)
    refine ⟨τ, g1, g2, fun k a b c d e => ?_, ?_⟩
    · rw [g2 k a, h k b c d e, hm k a b c d e]
    · rw [e2]
      exact ⟨g3, g4, g5⟩
  · unfold pu_ci
    rw [show pu_cn (σ2 1 0).toNat (σ2 1 1).toNat (c + 1) = pu_cn (σ2 1 0).toNat (σ2 1 1).toNat c + if (pu_row (σ2 1 0).toNat (σ2 1 1).toNat c).isSome = true then 1 else 0 from rfl, hr]
    rfl
/-- how many there are, as the class counts -/
theorem pu_cn_mono {P K : Nat} : ∀ d c, pu_cn P K c ≤ pu_cn P K (c + d) := by
  intro d
  induction d with
  | zero => intro c; exact Nat.le_refl _
  | succ d ih =>
    intro c
    have := ih c
    rw [show c + (d + 1) = c + d + 1 by omega, show pu_cn P K (c + d + 1) = pu_cn P K (c + d) + if (pu_row P K (c + d)).isSome = true then 1 else 0 from rfl]
    omega
theorem pu_ci_lt (hc : c < pu_N A) (ho : pu_ok A c = true) : pu_ci A c < pu_ci A (pu_N A) := by
  have := pu_cn_mono (P := (A 0).toNat) (K := (A 1).toNat) (pu_N A - (c + 1)) (c + 1)
  rw [show c + 1 + (pu_N A - (c + 1)) = pu_N A by omega] at this
  unfold pu_ok at ho
  unfold pu_ci
  rw [show pu_cn (A 0).toNat (A 1).toNat (c + 1) = pu_cn (A 0).toNat (A 1).toNat c + if (pu_row (A 0).toNat (A 1).toNat c).isSome = true then 1 else 0 from rfl, if_pos ho] at this
  omega
theorem ps_many (hI : pu_inv A) (hC : pu_RC σ1 o A) : X8_count o σ1 = some ((pu_ci A (pu_N A) : Nat) : Int) ∧ pu_ci A (pu_N A) ≤ 720 := by
  obtain ⟨i0, i1, -⟩ := hI
  have c0 := hC.1.1
  have c2 := hC.1.2.2.1
  have h := ps_count (σ := σ1) (o := o) (K := (A 1).toNat) (P := (A 0).toNat) (by omega) (by omega) (by omega) (by omega) (by omega)
  unfold pu_ci pu_N
  by_cases z : A 0 = 0
  · rw [if_pos (by omega)] at h
    rw [if_pos z, h]
    exact ⟨rfl, Nat.zero_le _⟩
  · rw [if_neg (by omega)] at h
    rw [if_neg z, h, pu_cn_all (by omega) (by omega) (by omega) (by omega)]
    exact ⟨rfl, pu_fal_b _ (by omega) _ (by omega)⟩
/-- the class begins -/
theorem ps_begin (hI : pu_inv A) (hC : pu_RC σ1 o A) (hoo : o = 5 ∨ o = 25) (hm : ∀ k, k ≠ 53 → k ≠ o + 19 → k ≠ 54 → k ≠ 55 → k ≠ 56 → m1 k = σ1 k) : ∃ τ, X8_begin o m1 = some (((pu_ci A (pu_N A) : Nat) : Int), τ) ∧ pu_v1 σ1 o A 0 τ ∧ ∀ k, k ≠ 53 → τ k = m1 k := by
  have hI0 := hI
  obtain ⟨i0, i1, -⟩ := hI
  have c2 := hC.1.2.2.1
  have mo : m1 o = σ1 o := hm o (by omega) (by omega) (by omega) (by omega) (by omega)
  obtain ⟨τ, h1, h2, h3⟩ := ps_fill (σ1 := m1) (o := o) (K := (A 1).toNat) (by omega) (by rw [mo, c2]; omega) (by omega) (A 1).toNat m1 0 0 0 [] rfl (by decide) rfl (by rw [List.length_nil]; omega) (fun j hj => by rw [List.length_nil] at hj; omega) rfl
  have hC2 : pu_RC τ o A := hC.mv (fun k x y => by rw [h2 _ (by omega), hm _ (by omega) (by omega) (by omega) (by omega) (by omega)])
  unfold X8_begin X8_fillFrom
  rw [pu_lt, show jq_max 0 0 = 0 by decide, h1, Option.bind_some, Option.bind_some, (ps_many hI0 hC2).1]
  refine ⟨τ, rfl, ⟨fun k a b c d e => (h2 k a).trans (hm k a b c d e), h3, ?_, ?_⟩, h2⟩
  · show (pu_fill _ 0 []).length = _
    rw [pu_fill_l, List.length_nil]
    omega
  · exact pu_fill_6 _ _ _ (fun j => by rw [pu_getD_0 (by rw [List.length_nil]; omega)]; omega)
end
