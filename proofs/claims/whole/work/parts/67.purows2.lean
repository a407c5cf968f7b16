def pu_rw (σ : jq_M) (k : Int) (r : List Nat) : Prop := ∀ j : Nat, j < r.length → σ k (j : Int) = ((r.getD j 0 : Nat) : Int)
def pu_l6 (r : List Nat) : Prop := ∀ j : Nat, r.getD j 0 ≤ 6
theorem pu_fr_le (U : Nat) : ∀ f p, p ≤ 6 → pu_fr U f p ≤ 6 := by
  intro f
  induction f with
  | zero => intro p h; exact h
  | succ f ih =>
    intro p h
    rw [show pu_fr U (f + 1) p = if p < 6 ∧ U.testBit p = true then pu_fr U f (p + 1) else p from rfl]
    split
    · exact ih (p + 1) (by omega)
    · exact h
theorem pu_app_l {r : List Nat} {v j : Nat} (h : j < r.length) : (r ++ [v]).getD j 0 = r.getD j 0 := by
  rw [List.getD_eq_getElem?_getD, List.getD_eq_getElem?_getD, List.getElem?_append_left h]
theorem pu_app_r {r : List Nat} {v : Nat} : (r ++ [v]).getD r.length 0 = v := by
  rw [List.getD_eq_getElem?_getD, List.getElem?_append_right (Nat.le_refl _), Nat.sub_self]
  rfl
theorem pu_getD_0 {r : List Nat} {j : Nat} (h : r.length ≤ j) : r.getD j 0 = 0 := by
  rw [List.getD_eq_getElem?_getD, List.getElem?_eq_none h]
  rfl
theorem pu_l6_app {r : List Nat} {v : Nat} (h : pu_l6 r) (hv : v ≤ 6) : pu_l6 (r ++ [v]) := by
  intro j
  by_cases h1 : j < r.length
  · rw [pu_app_l h1]; exact h j
  · by_cases h2 : j = r.length
    · rw [h2, pu_app_r]; exact hv
    · rw [pu_getD_0 (by rw [List.length_append, List.length_singleton]; omega)]
      omega
theorem pu_fill_l : ∀ m U (r : List Nat), (pu_fill m U r).length = r.length + m := by
  intro m
  induction m with
  | zero => intro U r; rfl
  | succ m ih =>
    intro U r
    rw [show pu_fill (m + 1) U r = pu_fill m (U ||| 2 ^ pu_fr U 7 0) (r ++ [pu_fr U 7 0]) from rfl, ih, List.length_append, List.length_singleton]
    omega
theorem pu_fill_6 : ∀ m U (r : List Nat), pu_l6 r → pu_l6 (pu_fill m U r) := by
  intro m
  induction m with
  | zero => intro U r h; exact h
  | succ m ih => intro U r h; exact ih _ _ (pu_l6_app h (pu_fr_le U 7 0 (by omega)))
section
variable {σ σ1 σ2 : jq_M} {o u x : Int} {U P K : Nat} {r : List Nat}
theorem ps_free {p : Int} {pn : Nat} (hu : u = (U : Int)) (hU : U < 2147483648) (hp : p = (pn : Int)) (h7 : pn ≤ 7) : X8_freeFrom p u σ = some ((pu_fr U 7 pn : Nat) : Int) := by
  have key : ∀ f (pn : Nat) (p : Int), p = (pn : Int) → 7 ≤ f + pn → pn ≤ 7 → jq_lp (X8_freeFrom_b2 u σ) p = some ((pu_fr U f pn : Nat) : Int) := by
    intro f
    induction f with
    | zero =>
      intro pn p hp h1 h2
      refine jq_lp_inr ?_
      unfold X8_freeFrom_b2
      rw [if_neg (by omega), hp]
      rfl
    | succ f ih =>
      intro pn p hp h1 h2
      rw [show pu_fr U (f + 1) pn = if pn < 6 ∧ U.testBit pn = true then pu_fr U f (pn + 1) else pn from rfl]
      have it := pu_isin_i (s := U) (k := p) hU (by omega) (by omega)
      rw [show p.toNat = pn by omega] at it
      by_cases h3 : pn < 6
      · by_cases h4 : U.testBit pn = true
        · rw [if_pos ⟨h3, h4⟩, ← ih (pn + 1) (p + 1) (by omega) (by omega) (by omega)]
          refine jq_lp_inl ?_
          unfold X8_freeFrom_b2
          rw [if_pos (by omega), ps_holds, Option.bind_some, hu, it, pu_i_p h4, if_neg (by decide), pu_lt, pu_w (by omega) (by omega)]
        · rw [if_neg (fun q => h4 q.2), ← hp]
          refine jq_lp_inr ?_
          unfold X8_freeFrom_b2
          rw [if_pos (by omega), ps_holds, Option.bind_some, hu, it, pu_i_n h4, if_pos rfl]
      · rw [if_neg (fun q => h3 q.1), ← hp]
        refine jq_lp_inr ?_
        unfold X8_freeFrom_b2
        rw [if_neg (by omega)]
  unfold X8_freeFrom
  rw [key 7 pn p hp (by omega) h7]
  rfl
theorem pu_or128 {v : Nat} (hU : U < 128) (hv : v ≤ 6) : U ||| 2 ^ v < 128 := Nat.or_lt_two_pow (n := 7) hU (Nat.pow_lt_pow_right (by decide) (by omega))
theorem ps_fill (hK : K ≤ 5) (c2 : σ1 o 2 = (K : Int)) (ho : o ≠ 53) : ∀ m (σ : jq_M) (u i : Int) (U : Nat) (r : List Nat), u = (U : Int) → U < 128 → i = (r.length : Int) → r.length + m = K → pu_rw σ 53 r → σ o = σ1 o → ∃ τ, jq_lp (X8_fillFrom_b10 o) (u, i, σ) = some τ ∧ (∀ k, k ≠ 53 → τ k = σ k) ∧ pu_rw τ 53 (pu_fill m U r) := by
  intro m
  induction m with
  | zero =>
    intro σ u i U r hu hU hi hr hw ho'
    refine ⟨σ, jq_lp_inr ?_, fun _ _ => rfl, hw⟩
    unfold X8_fillFrom_b10
    dsimp only
    simp only [ho', c2]
    rw [if_neg (by omega)]
  | succ m ih =>
    intro σ u i U r hu hU hi hr hw ho'
    have f6 := pu_fr_le U 7 0 (by omega)
    have fe := ps_free (σ := σ) (p := 0) (pn := 0) hu (by omega) rfl (by omega)
    rw [show pu_fill (m + 1) U r = pu_fill m (U ||| 2 ^ pu_fr U 7 0) (r ++ [pu_fr U 7 0]) from rfl]
    generalize pu_fr U 7 0 = v at f6 fe
    have ov := pu_or128 hU f6
    have pv : (2 : Nat) ^ v < 128 := Nat.lt_of_lt_of_le (Nat.pow_lt_pow_right (by decide) (show v < 7 by omega)) (by decide)
    have wj : pu_rw (jq_st σ 53 i (v : Int)) 53 (r ++ [v]) := by
      intro j hj
      rw [List.length_append, List.length_singleton] at hj
      by_cases z : j = r.length
      · rw [z, pu_app_r, ← hi, pu_st_a]
      · rw [pu_app_l (by omega), pu_st_b (by omega)]
        exact hw j (by omega)
    obtain ⟨τ, h1, h2, h3⟩ := ih (jq_st σ 53 i (v : Int)) (((U ||| 2 ^ v : Nat) : Int)) (i + 1) (U ||| 2 ^ v) (r ++ [v]) rfl ov (by rw [List.length_append, List.length_singleton]; omega) (by rw [List.length_append, List.length_singleton]; omega) wj ((pu_st_ne ho).trans ho')
    · refine ⟨τ, (jq_lp_inl ?_).trans h1, fun k hk => (h2 k hk).trans (pu_st_ne hk), h3⟩
      unfold X8_fillFrom_b10
      dsimp only
      simp only [ho', c2]
      rw [if_pos (by omega), if_pos (show i < 5 by omega), fe, Option.bind_some, pu_sa (by omega) (by omega), Option.bind_some, pu_ld (by omega) (by omega), Option.bind_some, pu_st_a, hu, pu_shl1_i (by omega) (by omega), Int.toNat_natCast, pu_or (by omega) (by omega), pu_lt, pu_lt, pu_w (by omega) (by omega)]
theorem pu_us_lt (h : pu_l6 r) : ∀ i, pu_us r i < 128 := by
  intro i
  induction i with
  | zero => exact (by decide : 0 < 128)
  | succ i ih => exact pu_or128 ih (h i)
theorem ps_used (hK : K ≤ 5) (c2 : σ o 2 = (K : Int)) (hr : r.length = K) (h6 : pu_l6 r) (hw : pu_rw σ 53 r) : jq_lp (X8_goOn_b4 o σ) (0, 0) = some ((pu_us r K : Nat) : Int) := by
  refine pu_lpE (f := X8_goOn_b4 o σ) (s := (0, 0)) (fun i t => t.2 = (i : Int) ∧ t.1 = ((pu_us r i : Nat) : Int)) (fun e => e = ((pu_us r K : Nat) : Int)) K ⟨rfl, rfl⟩ (fun i t ht hi => ?_) (fun e h1 h2 => by rw [h1, h2])
  obtain ⟨t1, t2⟩ := t
  obtain ⟨hk, q1⟩ := ht
  dsimp only at hk q1
  unfold X8_goOn_b4
  dsimp only
  rw [c2]
  by_cases hl : t2 < (K : Int)
  · have e := hw i (by omega)
    have u1 := pu_us_lt h6 i
    have e6 := h6 i
    have pv : (2 : Nat) ^ r.getD i 0 < 128 := Nat.lt_of_lt_of_le (Nat.pow_lt_pow_right (by decide) (show r.getD i 0 < 7 by omega)) (by decide)
    rw [← hk] at e
    rw [if_pos hl, if_pos (show t2 < 5 by omega), pu_ld (by omega) (by omega), Option.bind_some, e, q1, pu_shl1_i (by omega) (by omega), Int.toNat_natCast, pu_or (by omega) (by omega), pu_lt, pu_lt, pu_w (by omega) (by omega)]
    exact Or.inr ⟨by omega, _, rfl, by dsimp only; omega, rfl⟩
  · rw [if_neg hl]
    exact Or.inl ⟨_, rfl, by rw [q1, show i = K by omega]⟩
theorem pu_xand128 {v : Nat} (hU : U < 128) : U ^^^ (U &&& v) < 128 := Nat.xor_lt_two_pow (n := 7) hU (Nat.lt_of_le_of_lt Nat.and_le_left hU)
theorem ps_dn (hK : K ≤ 5) (hP : P ≤ 6) (c0 : σ o 0 = (P : Int)) (hr : r.length = K) (h6 : pu_l6 r) (hw : pu_rw σ 53 r) : ∀ (i U : Nat) (u y : Int), i ≤ K → u = (U : Int) → U < 128 → y = (i : Int) - 1 → (pu_dn P r i U = none ∧ jq_lp (X8_goOn_b53 o σ) (u, y) = some (.inr ())) ∨ ∃ V j f : Nat, pu_dn P r i U = some (V, j, f) ∧ jq_lp (X8_goOn_b53 o σ) (u, y) = some (.inl ((V : Int), (j : Int), (f : Int))) ∧ V < 128 ∧ j < K ∧ f < P := by
  intro i
  induction i with
  | zero =>
    intro U u y hi hu hU hy
    refine Or.inl ⟨rfl, jq_lp_inr ?_⟩
    unfold X8_goOn_b53
    dsimp only
    rw [if_pos (by omega)]
  | succ i ih =>
    intro U u y hi hu hU hy
    have e := hw i (by omega)
    have e6 := h6 i
    rw [show (i : Int) = y by omega] at e
    rw [show pu_dn P r (i + 1) U = if pu_fr (U ^^^ (U &&& 2 ^ r.getD i 0)) 7 (r.getD i 0 + 1) < P then some (U ^^^ (U &&& 2 ^ r.getD i 0), i, pu_fr (U ^^^ (U &&& 2 ^ r.getD i 0)) 7 (r.getD i 0 + 1)) else pu_dn P r i (U ^^^ (U &&& 2 ^ r.getD i 0)) from rfl]
    generalize r.getD i 0 = v at e e6
    have pv : (2 : Nat) ^ v < 128 := Nat.lt_of_lt_of_le (Nat.pow_lt_pow_right (by decide) (show v < 7 by omega)) (by decide)
    have xl := pu_xand128 (U := U) (v := 2 ^ v) hU
    have fe := ps_free (σ := σ) (p := (v : Int) + 1) (pn := v + 1) (u := ((U ^^^ (U &&& 2 ^ v) : Nat) : Int)) rfl (by omega) (by omega) (by omega)
    have st : X8_goOn_b53 o σ (u, y) = if ((pu_fr (U ^^^ (U &&& 2 ^ v)) 7 (v + 1) : Nat) : Int) < (P : Int) then some (.inr (.inl (((U ^^^ (U &&& 2 ^ v) : Nat) : Int), y, ((pu_fr (U ^^^ (U &&& 2 ^ v)) 7 (v + 1) : Nat) : Int)))) else some (.inl (((U ^^^ (U &&& 2 ^ v) : Nat) : Int), y - 1)) := by
      unfold X8_goOn_b53
      dsimp only
      rw [if_neg (by omega), pu_ld (by omega) (by omega), Option.bind_some, pu_lt, Option.bind_some, e, hu, pu_shl1_i (by omega) (by omega), Int.toNat_natCast, pu_andn (by omega) (by omega), pu_w (by omega) (by omega), fe, Option.bind_some, c0, pu_lt, pu_w (by omega) (by omega), show y + -1 = y - 1 by omega]
    generalize hf : pu_fr (U ^^^ (U &&& 2 ^ v)) 7 (v + 1) = f at st
    by_cases g : f < P
    · rw [if_pos g]
      rw [if_pos (by omega)] at st
      exact Or.inr ⟨_, i, f, rfl, (jq_lp_inr st).trans (by rw [show y = (i : Int) by omega]), xl, by omega, g⟩
    · rw [if_neg g]
      rw [if_neg (by omega)] at st
      rw [jq_lp_inl st]
      exact ih _ _ (y - 1) (by omega) rfl xl (by omega)
theorem pu_take_r {j f : Nat} (hj : j < r.length) : (r.take j ++ [f]).length = j + 1 ∧ (∀ i, i < j → (r.take j ++ [f]).getD i 0 = r.getD i 0) ∧ (r.take j ++ [f]).getD j 0 = f := by
  have hl : (r.take j).length = j := by rw [List.length_take]; omega
  refine ⟨by rw [List.length_append, hl, List.length_singleton], fun i hi => ?_, ?_⟩
  · rw [pu_app_l (by omega), List.getD_eq_getElem?_getD, List.getD_eq_getElem?_getD, List.getElem?_take_of_lt hi]
  · have := pu_app_r (r := r.take j) (v := f)
    rw [hl] at this
    exact this
theorem pu_go_l (hP : P ≤ 6) (hr : r.length = K) (hi : ∀ V j f, pu_dn P r K (pu_us r K) = some (V, j, f) → j < K ∧ f < P) (h6 : pu_l6 r) : (pu_go P K r).length = K ∧ pu_l6 (pu_go P K r) := by
  unfold pu_go
  cases h : pu_dn P r K (pu_us r K) with
  | none => exact ⟨hr, h6⟩
  | some q =>
    obtain ⟨V, j, f⟩ := q
    obtain ⟨g1, g2⟩ := hi V j f h
    obtain ⟨t1, t2, t3⟩ := pu_take_r (r := r) (j := j) (f := f) (by omega)
    dsimp only
    refine ⟨by rw [pu_fill_l, t1]; omega, pu_fill_6 _ _ _ (fun i => ?_)⟩
    by_cases z : i < j
    · rw [t2 i z]; exact h6 i
    · by_cases z2 : i = j
      · rw [z2, t3]; omega
      · rw [pu_getD_0 (by omega)]; omega
theorem ps_goOn (hK : K ≤ 5) (hP : P ≤ 6) (ho : o ≠ 53) (c0 : σ o 0 = (P : Int)) (c2 : σ o 2 = (K : Int)) (hr : r.length = K) (h6 : pu_l6 r) (hw : pu_rw σ 53 r) : ∃ τ, X8_goOn o σ = some τ ∧ (∀ k, k ≠ 53 → τ k = σ k) ∧ pu_rw τ 53 (pu_go P K r) ∧ (pu_go P K r).length = K ∧ pu_l6 (pu_go P K r) := by
  have us := pu_us_lt h6 K
  have d := ps_dn hK hP c0 hr h6 hw K (pu_us r K) ((pu_us r K : Nat) : Int) ((K : Int) - 1) (Nat.le_refl _) rfl us rfl
  have gl := pu_go_l (P := P) (K := K) hP hr (fun V j f h => by
    rcases d with ⟨d1, -⟩ | ⟨V', j', f', d1, -, d2, d3, d4⟩
    · rw [d1] at h; cases h
    · rw [d1] at h; cases h; exact ⟨d3, d4⟩) h6
  unfold X8_goOn
  rw [ps_used hK c2 hr h6 hw, Option.bind_some]
  unfold X8_goOn_j38
  rw [c2, show jq_min (K : Int) 5 = K by unfold jq_min; rw [if_neg (by omega)], pu_lt, pu_w (by omega) (by omega)]
  rcases d with ⟨d1, d2⟩ | ⟨V, j, f, d1, d2, d3, d4, d5⟩
  · rw [d2, Option.bind_some]
    refine ⟨σ, rfl, fun _ _ => rfl, ?_, gl⟩
    unfold pu_go
    rw [d1]
    exact hw
  · rw [d2, Option.bind_some]
    dsimp only [Sum.elim_inl]
    obtain ⟨t1, t2, t3⟩ := pu_take_r (r := r) (j := j) (f := f) (by omega)
    have pv : (2 : Nat) ^ f < 128 := Nat.lt_of_lt_of_le (Nat.pow_lt_pow_right (by decide) (show f < 7 by omega)) (by decide)
    obtain ⟨τ, h1, h2, h3⟩ := ps_fill (σ1 := jq_st σ 53 (j : Int) (f : Int)) (o := o) hK (by rw [pu_st_ne ho]; exact c2) ho (K - (j + 1)) (jq_st σ 53 (j : Int) (f : Int)) (((V ||| 2 ^ f : Nat) : Int)) ((j : Int) + 1) (V ||| 2 ^ f) (r.take j ++ [f]) rfl (pu_or128 d3 (by omega)) (by omega) (by omega) (fun i hi => by
      rw [t1] at hi
      by_cases z : i = j
      · rw [z, t3, pu_st_a]
      · rw [t2 i (by omega), pu_st_b (by omega)]; exact hw i (by omega)) rfl
    rw [pu_sa (by omega) (by omega), Option.bind_some]
    unfold X8_fillFrom
    rw [pu_shl1_i (by omega) (by omega), Int.toNat_natCast, pu_or (by omega) (by omega), pu_w (by omega) (by omega), pu_lt, show jq_max 0 ((j : Int) + 1) = (j : Int) + 1 by unfold jq_max; rw [if_pos (by omega)], h1]
    refine ⟨τ, rfl, fun k hk => (h2 k hk).trans (pu_st_ne hk), ?_, gl⟩
    unfold pu_go
    rw [d1]
    exact h3
theorem pu_fal_b : ∀ P, P < 7 → ∀ k, k < 6 → pu_fal P k ≤ 720 := by decide +kernel
theorem ps_count (hK : K ≤ 5) (hP : P ≤ 6) (hKP : K ≤ P) (c0 : σ o 0 = (P : Int)) (c2 : σ o 2 = (K : Int)) : X8_count o σ = some (if P = 0 then 0 else ((pu_fal P K : Nat) : Int)) := by
  unfold X8_count
  rw [c0]
  by_cases h : P = 0
  · rw [if_pos (by omega), if_pos h]
  · rw [if_neg (by omega), if_neg h]
    refine pu_lpE (f := X8_count_b13 o σ) (s := (1, 0)) (fun i t => t.2 = (i : Int) ∧ t.1 = ((pu_fal P i : Nat) : Int)) (fun e => e = ((pu_fal P K : Nat) : Int)) K ⟨rfl, rfl⟩ (fun i t ht hi => ?_) (fun e h1 h2 => by rw [h1, h2]; rfl)
    obtain ⟨t1, t2⟩ := t
    obtain ⟨hk, q1⟩ := ht
    dsimp only at hk q1
    unfold X8_count_b13
    dsimp only
    rw [c2, c0]
    by_cases hl : t2 < (K : Int)
    · have b1 := pu_fal_b P (by omega) (i + 1) (by omega)
      have e : pu_fal P (i + 1) = pu_fal P i * (P - i) := rfl
      rw [if_pos hl, pu_w (x := (P : Int) - t2) (by omega) (by omega), q1, show (P : Int) - t2 = ((P - i : Nat) : Int) by omega, ← Int.natCast_mul, ← e]
      rw [pu_lt, pu_lt, pu_w (x := ((pu_fal P (i + 1) : Nat) : Int)) (by omega) (by omega), pu_w (by omega) (by omega)]
      exact Or.inr ⟨by omega, _, rfl, by dsimp only; omega, rfl⟩
    · rw [if_neg hl]
      exact Or.inl ⟨_, rfl, by rw [q1, show i = K by omega]⟩
end
