section
variable {T : Int → Int} {L p s e x y : Int} {σ τ : jq_M} {w : List Int}
theorem pm_isSmall : X11_isSmall x σ = some (pu_i (pu_sm x)) := by
  unfold X11_isSmall pu_sm
  by_cases a : x < 97
  · rw [if_pos a, pu_i_n (by omega)]
  · by_cases b : 122 < x
    · rw [if_neg a, if_pos b, pu_i_n (by omega)]
    · rw [if_neg a, if_neg b, pu_i_p (by omega)]
theorem pm_isDigit : X11_isDigit x σ = some (pu_i (pu_dg x)) := by
  unfold X11_isDigit pu_dg
  by_cases a : x < 48
  · rw [if_pos a, pu_i_n (by omega)]
  · by_cases b : 57 < x
    · rw [if_neg a, if_pos b, pu_i_n (by omega)]
    · rw [if_neg a, if_neg b, pu_i_p (by omega)]
/-- the reference's text, so far read -/
def pu_mf (T : Int → Int) (L : Int) (σ : jq_M) : Prop := σ 0 11 = L ∧ L ≤ 900 ∧ (∀ j, 0 ≤ j → j < L → σ 7 j = T j ∧ -128 ≤ T j ∧ T j ≤ 127) ∧ (0 ≤ σ 0 14 ∧ σ 0 14 ≤ L)
def pu_myE (L s e : Int) (τ : jq_M) : Prop := s = L ∧ e = L ∧ τ 0 12 = 0
def pu_myW (T : Int → Int) (L s e : Int) (τ : jq_M) : Prop := s < L ∧ pu_sm (T s) ∧ pu_to pu_sm T L s e ∧ τ 0 12 = 2
def pu_myN (T : Int → Int) (L s e : Int) (τ : jq_M) : Prop := s < L ∧ ¬ pu_sm (T s) ∧ pu_dg (T s) ∧ pu_to pu_dg T L s e ∧ (4 < e - s ∧ τ 0 12 = 1 ∨ e - s ≤ 4 ∧ τ 0 12 = 3 ∧ τ 0 15 = pu_nv T s (e - s).toNat)
def pu_myS (T : Int → Int) (L s e : Int) (τ : jq_M) : Prop := s < L ∧ ¬ pu_sm (T s) ∧ ¬ pu_dg (T s) ∧ e = s + 1 ∧ (pu_sg4 (T s) ∧ τ 0 12 = 4 ∧ τ 0 15 = T s ∨ ¬ pu_sg4 (T s) ∧ τ 0 12 = 1)
def pu_my (T : Int → Int) (L p : Int) (τ : jq_M) : Prop := ∃ s e, pu_to pu_bk T L p s ∧ τ 0 13 = s ∧ τ 0 14 = e ∧ s ≤ e ∧ e ≤ L ∧ (pu_myE L s e τ ∨ pu_myW T L s e τ ∨ pu_myN T L s e τ ∨ pu_myS T L s e τ)
def pu_f2 (σ τ : jq_M) : Prop := (∀ k, k ≠ 0 → τ k = σ k) ∧ ∀ j, j < 12 ∨ 15 < j → τ 0 j = σ 0 j
theorem pm_by (h11 : σ 0 11 = L) (hL : L ≤ 900) (ht : ∀ j, 0 ≤ j → j < L → σ 7 j = T j ∧ -128 ≤ T j ∧ T j ≤ 127) (h0 : 0 ≤ p) : X11_byteAt p σ = some (if p < L then pu_by (T p) else -1) := by
  unfold X11_byteAt
  rw [h11]
  by_cases w : p < L
  · have := ht p h0 w
    rw [if_pos w, if_pos w, pu_ld (by omega) (by omega), Option.bind_some, this.1, pu_by1 this.2.1 this.2.2]
  · rw [if_neg w, if_neg w]
theorem pu_by_sm (h0 : -128 ≤ x) : pu_sm (pu_by x) ↔ pu_sm x := by
  unfold pu_sm pu_by
  split <;> omega
theorem pu_by_dg (h0 : -128 ≤ x) : pu_dg (pu_by x) ↔ pu_dg x := by
  unfold pu_dg pu_by
  split <;> omega
theorem pm_skip (h : pu_mf T L σ) : ∃ τ, jq_lp X11_ahead_b0 σ = some τ ∧ pu_to pu_bk T L (σ 0 14) (τ 0 14) ∧ (∀ k, k ≠ 0 → τ k = σ k) ∧ ∀ j, j ≠ 14 → τ 0 j = σ 0 j := by
  obtain ⟨h1, h2, h3, h4⟩ := h
  obtain ⟨s, e, a1, a2, a3, a4⟩ := pu_walk (f := X11_ahead_b0) (Q := pu_bk) (T := T) (L := L) (fun s : jq_M => s 0 14) (fun s => 0 ≤ s 0 14 ∧ (∀ k, k ≠ 0 → s k = σ k) ∧ ∀ j, j ≠ 14 → s 0 j = σ 0 j) (fun s e => e = s) (fun t ⟨i0, i1, i2⟩ i3 => by
    have by' := pm_by (σ := t) (T := T) (L := L) (p := t 0 14) ((i2 11 (by omega)).trans h1) h2 (by rw [i1 7 (by omega)]; exact h3) i0
    unfold X11_ahead_b0
    rw [by', Option.bind_some, Option.bind_some]
    by_cases w : t 0 14 < L
    · have b := h3 _ i0 w
      rw [if_pos w]
      have go : pu_bk (T (t 0 14)) → t 0 14 < L ∧ pu_bk (T (t 0 14)) ∧ ∃ s', (some (.inl (jq_st t 0 14 (t 0 14 + 1))) : Option (jq_M ⊕ jq_M)) = some (.inl s') ∧ s' 0 14 = t 0 14 + 1 ∧ 0 ≤ s' 0 14 ∧ (∀ k, k ≠ 0 → s' k = σ k) ∧ ∀ j, j ≠ 14 → s' 0 j = σ 0 j := fun z => by
        refine ⟨w, z, _, rfl, pu_st_a, ?_, fun k hk => ?_, fun j hj => ?_⟩
        · rw [pu_st_a]; omega
        · rw [pu_st_ne hk]; exact i1 k hk
        · rw [pu_st_b hj]; exact i2 j hj
      by_cases z1 : T (t 0 14) = 32
      · rw [if_pos (by unfold pu_by; rw [if_neg (by omega)]; exact z1), pu_lt, pu_w (by omega) (by omega)]
        exact Or.inl (go (Or.inl z1))
      · by_cases z2 : T (t 0 14) = 10
        · rw [if_neg (by unfold pu_by; rw [if_neg (by omega)]; exact z1), if_pos (by unfold pu_by; rw [if_neg (by omega)]; exact z2), pu_lt, pu_w (by omega) (by omega)]
          exact Or.inl (go (Or.inr z2))
        · rw [if_neg (by unfold pu_by; split <;> omega), if_neg (by unfold pu_by; split <;> omega)]
          exact Or.inr ⟨fun q => by rcases q.2 with g | g; exact z1 g; exact z2 g, _, rfl, rfl⟩
    · rw [if_neg w, if_neg (by decide), if_neg (by decide)]
      exact Or.inr ⟨fun q => w q.1, _, rfl, rfl⟩) σ ⟨h4.1, fun _ _ => rfl, fun _ _ => rfl⟩ h4.2
  subst a2
  exact ⟨e, a1, a4, a3.2.1, a3.2.2⟩
theorem pm_letters (h : pu_mf T L σ) : ∃ τ, jq_lp X11_ahead_b81 σ = some τ ∧ pu_to pu_sm T L (σ 0 14) (τ 0 14) ∧ (∀ k, k ≠ 0 → τ k = σ k) ∧ ∀ j, j ≠ 14 → τ 0 j = σ 0 j := by
  obtain ⟨h1, h2, h3, h4⟩ := h
  obtain ⟨s, e, a1, a2, a3, a4⟩ := pu_walk (f := X11_ahead_b81) (Q := pu_sm) (T := T) (L := L) (fun s : jq_M => s 0 14) (fun s => 0 ≤ s 0 14 ∧ (∀ k, k ≠ 0 → s k = σ k) ∧ ∀ j, j ≠ 14 → s 0 j = σ 0 j) (fun s e => e = s) (fun t ⟨i0, i1, i2⟩ i3 => by
    have by' := pm_by (σ := t) (T := T) (L := L) (p := t 0 14) ((i2 11 (by omega)).trans h1) h2 (by rw [i1 7 (by omega)]; exact h3) i0
    unfold X11_ahead_b81
    rw [by', Option.bind_some, pm_isSmall, Option.bind_some]
    by_cases w : t 0 14 < L
    · have b := h3 _ i0 w
      rw [if_pos w, propext (pu_by_sm b.2.1)]
      by_cases z : pu_sm (T (t 0 14))
      · rw [pu_i_p z, if_neg (by decide), pu_lt, pu_w (by omega) (by omega)]
        refine Or.inl ⟨w, z, _, rfl, pu_st_a, ?_, fun k hk => ?_, fun j hj => ?_⟩
        · rw [pu_st_a]; omega
        · rw [pu_st_ne hk]; exact i1 k hk
        · rw [pu_st_b hj]; exact i2 j hj
      · rw [pu_i_n z, if_pos rfl]
        exact Or.inr ⟨fun q => z q.2, _, rfl, rfl⟩
    · rw [if_neg w, pu_i_n (by unfold pu_sm; omega), if_pos rfl]
      exact Or.inr ⟨fun q => w q.1, _, rfl, rfl⟩) σ ⟨h4.1, fun _ _ => rfl, fun _ _ => rfl⟩ h4.2
  subst a2
  exact ⟨e, a1, a4, a3.2.1, a3.2.2⟩
theorem pm_digits (h : pu_mf T L σ) (h15 : σ 0 15 = 0) : ∃ τ, jq_lp X11_ahead_b128 σ = some τ ∧ pu_to pu_dg T L (σ 0 14) (τ 0 14) ∧ (∀ k, k ≠ 0 → τ k = σ k) ∧ (∀ j, j ≠ 14 → j ≠ 15 → τ 0 j = σ 0 j) ∧ (τ 0 14 - σ 0 14 ≤ 4 → τ 0 15 = pu_nv T (σ 0 14) (τ 0 14 - σ 0 14).toNat) := by
  obtain ⟨h1, h2, h3, h4⟩ := h
  obtain ⟨s, e, a1, a2, a3, a4⟩ := pu_walk (f := X11_ahead_b128) (Q := pu_dg) (T := T) (L := L) (fun s : jq_M => s 0 14) (fun s => σ 0 14 ≤ s 0 14 ∧ (∀ k, k ≠ 0 → s k = σ k) ∧ (∀ j, j ≠ 14 → j ≠ 15 → s 0 j = σ 0 j) ∧ (0 ≤ s 0 15 ∧ s 0 15 ≤ 100000) ∧ (∀ j, σ 0 14 ≤ j → j < s 0 14 → pu_dg (T j)) ∧ (s 0 14 - σ 0 14 ≤ 4 → s 0 15 = pu_nv T (σ 0 14) (s 0 14 - σ 0 14).toNat)) (fun s e => e = s) (fun t ⟨i0, i1, i2, i5, i6, i7⟩ i3 => by
    have by' := pm_by (σ := t) (T := T) (L := L) (p := t 0 14) ((i2 11 (by omega) (by omega)).trans h1) h2 (by rw [i1 7 (by omega)]; exact h3) (by omega)
    unfold X11_ahead_b128
    rw [by', Option.bind_some, pm_isDigit, Option.bind_some, Option.bind_some]
    by_cases w : t 0 14 < L
    · have b := h3 _ (by omega) w
      rw [if_pos w, propext (pu_by_dg b.2.1)]
      by_cases z : pu_dg (T (t 0 14))
      · have zz := z
        unfold pu_dg at zz
        rw [pu_i_p z, if_neg (by decide), show pu_by (T (t 0 14)) = T (t 0 14) from if_neg (by omega), pu_w (x := 10 * t 0 15) (by omega) (by omega), pu_w (x := 10 * t 0 15 + T (t 0 14)) (by omega) (by omega), pu_w (x := 10 * t 0 15 + T (t 0 14) - 48) (by omega) (by omega), pu_lt, pu_lt, pu_st_b (show (14 : Int) ≠ 15 by omega), pu_w (x := t 0 14 + 1) (by omega) (by omega)]
        have mn : 0 ≤ jq_min 100000 (10 * t 0 15 + T (t 0 14) - 48) ∧ jq_min 100000 (10 * t 0 15 + T (t 0 14) - 48) ≤ 100000 := by
          unfold jq_min
          split <;> omega
        refine Or.inl ⟨w, z, _, rfl, pu_st_a, ?_, fun k hk => ?_, fun j hj hj2 => ?_, ?_, fun j x y => ?_, fun q => ?_⟩
        · rw [pu_st_a]; omega
        · rw [pu_st_ne hk, pu_st_ne hk]; exact i1 k hk
        · rw [pu_st_b hj, pu_st_b hj2]; exact i2 j hj hj2
        · rw [pu_st_b (by omega), pu_st_a]; exact mn
        · rw [pu_st_a] at y
          by_cases u : j = t 0 14
          · rw [u]; exact z
          · exact i6 j x (by omega)
        · rw [pu_st_a] at q ⊢
          rw [pu_st_b (by omega), pu_st_a]
          have e := i7 (by omega)
          have bb := pu_nv_b (T := T) (s := σ 0 14) (t 0 14 - σ 0 14).toNat (fun j x y => i6 j x (by omega))
          rw [← e] at bb
          have b2 : t 0 15 < 1000 := by
            have : (10 : Int) ^ (t 0 14 - σ 0 14).toNat ≤ 1000 := by
              rcases (show (t 0 14 - σ 0 14).toNat = 0 ∨ (t 0 14 - σ 0 14).toNat = 1 ∨ (t 0 14 - σ 0 14).toNat = 2 ∨ (t 0 14 - σ 0 14).toNat = 3 by omega) with g | g | g | g <;> rw [g] <;> decide
            omega
          rw [show (t 0 14 + 1 - σ 0 14).toNat = (t 0 14 - σ 0 14).toNat + 1 by omega]
          show _ = pu_nv T (σ 0 14) (t 0 14 - σ 0 14).toNat * 10 + T (σ 0 14 + (((t 0 14 - σ 0 14).toNat : Nat) : Int)) - 48
          rw [← e, show σ 0 14 + (((t 0 14 - σ 0 14).toNat : Nat) : Int) = t 0 14 by omega]
          unfold jq_min
          rw [if_pos (by omega)]
          omega
      · rw [pu_i_n z, if_pos rfl]
        exact Or.inr ⟨fun q => z q.2, _, rfl, rfl⟩
    · rw [if_neg w, pu_i_n (by unfold pu_dg; omega), if_pos rfl]
      exact Or.inr ⟨fun q => w q.1, _, rfl, rfl⟩) σ ⟨Int.le_refl _, fun _ _ => rfl, fun _ _ _ => rfl, by omega, fun j a b => by omega, fun _ => by rw [h15, Int.sub_self]; rfl⟩ h4.2
  subst a2
  exact ⟨e, a1, a4, a3.2.1, a3.2.2.1, a3.2.2.2.2.2⟩
/-- the next token of the reference -/
theorem pm_ahead (h : pu_mf T L σ) : ∃ τ, X11_ahead σ = some τ ∧ pu_mf T L τ ∧ pu_f2 σ τ ∧ pu_my T L (σ 0 14) τ := by
  obtain ⟨υ, a1, a2, a3, a4⟩ := pm_skip h
  obtain ⟨h1, h2, h3, h4⟩ := h
  have b := a2.1
  have b2 := a2.2.1
  unfold X11_ahead
  rw [a1, Option.bind_some, pu_lt]
  have f3 : ∀ j, j ≠ 13 → j ≠ 14 → jq_st υ 0 13 (υ 0 14) 0 j = σ 0 j := fun j x y => by rw [pu_st_b x]; exact a4 j y
  have by' := pm_by (σ := jq_st υ 0 13 (υ 0 14)) (T := T) (L := L) (p := υ 0 14) (by rw [f3 11 (by omega) (by omega)]; exact h1) h2 (by rw [pu_st_ne (by omega), a3 7 (by omega)]; exact h3) (by omega)
  rw [pu_st_b (show (14 : Int) ≠ 13 by omega), by', Option.bind_some, pu_lt]
  have fin : ∀ τ, (∀ k, k ≠ 0 → τ k = σ k) → (∀ j, j < 12 ∨ 15 < j → τ 0 j = σ 0 j) → τ 0 13 = υ 0 14 → (υ 0 14 ≤ τ 0 14 ∧ τ 0 14 ≤ L) → (pu_myE L (υ 0 14) (τ 0 14) τ ∨ pu_myW T L (υ 0 14) (τ 0 14) τ ∨ pu_myN T L (υ 0 14) (τ 0 14) τ ∨ pu_myS T L (υ 0 14) (τ 0 14) τ) → ∃ τ', (some τ : Option jq_M) = some τ' ∧ pu_mf T L τ' ∧ pu_f2 σ τ' ∧ pu_my T L (σ 0 14) τ' := fun τ q1 q2 q5 q3 q4 => by
    refine ⟨τ, rfl, ⟨by rw [q2 11 (by omega)]; exact h1, h2, by rw [q1 7 (by omega)]; exact h3, by omega⟩, ⟨q1, q2⟩, υ 0 14, τ 0 14, a2, q5, rfl, q3.1, q3.2, q4⟩
  by_cases z : υ 0 14 < L
  · have bz := h3 _ (by omega) z
    have byn : 0 ≤ pu_by (T (υ 0 14)) := by unfold pu_by; split <;> omega
    have sm := pu_by_sm (x := T (υ 0 14)) bz.2.1
    have dg := pu_by_dg (x := T (υ 0 14)) bz.2.1
    have bys : pu_by (T (υ 0 14)) = 59 ∨ pu_by (T (υ 0 14)) = 60 ∨ pu_by (T (υ 0 14)) = 62 ∨ pu_by (T (υ 0 14)) = 61 → pu_by (T (υ 0 14)) = T (υ 0 14) := by
      unfold pu_by
      split <;> omega
    have byn4 : pu_sg4 (T (υ 0 14)) → pu_by (T (υ 0 14)) = T (υ 0 14) := by
      unfold pu_by pu_sg4
      split <;> omega
    rw [if_pos z]
    generalize pu_by (T (υ 0 14)) = c at byn sm dg bys byn4
    rw [if_neg (by omega), pm_isSmall, Option.bind_some, propext sm]
    have g3 : ∀ j, j < 12 ∨ 15 < j → jq_st (jq_st υ 0 13 (υ 0 14)) 0 15 c 0 j = σ 0 j := fun j hj => by rw [pu_st_b (by omega), pu_st_b (by omega)]; exact a4 j (by omega)
    have gk : ∀ k, k ≠ 0 → jq_st (jq_st υ 0 13 (υ 0 14)) 0 15 c k = σ k := fun k hk => by rw [pu_st_ne hk, pu_st_ne hk]; exact a3 k hk
    have g13 : jq_st (jq_st υ 0 13 (υ 0 14)) 0 15 c 0 13 = υ 0 14 := by rw [pu_st_b (by omega), pu_st_a]
    have g14 : jq_st (jq_st υ 0 13 (υ 0 14)) 0 15 c 0 14 = υ 0 14 := by rw [pu_st_b (by omega), pu_st_b (by omega)]
    have g15 : jq_st (jq_st υ 0 13 (υ 0 14)) 0 15 c 0 15 = c := pu_st_a
    generalize jq_st (jq_st υ 0 13 (υ 0 14)) 0 15 c = ω at g3 gk g13 g14 g15
    have hf : pu_mf T L ω := ⟨by rw [g3 11 (by omega)]; exact h1, h2, by rw [gk 7 (by omega)]; exact h3, by omega⟩
    by_cases y : pu_sm (T (υ 0 14))
    · rw [pu_i_p y, if_neg (show ¬ ((1 : Int) = 0) by decide)]
      obtain ⟨κ, l1, l2, l3, l4⟩ := pm_letters hf
      rw [g14] at l2
      rw [l1, Option.bind_some, pu_lt]
      refine fin _ (fun k hk => by rw [pu_st_ne hk, l3 k hk]; exact gk k hk) (fun j hj => by rw [pu_st_b (by omega), l4 j (by omega)]; exact g3 j hj) (by rw [pu_st_b (by omega), l4 13 (by omega)]; exact g13) (by rw [pu_st_b (by omega)]; exact ⟨l2.1, l2.2.1⟩) (Or.inr (Or.inl ?_))
      unfold pu_myW
      rw [pu_st_b (show (14 : Int) ≠ 12 by omega), pu_st_a]
      exact ⟨z, y, l2, rfl⟩
    · rw [pu_i_n y, if_pos rfl, pm_isDigit, Option.bind_some, propext dg]
      by_cases x : pu_dg (T (υ 0 14))
      · rw [pu_i_p x, if_neg (show ¬ ((1 : Int) = 0) by decide), pu_lt]
        obtain ⟨κ, l1, l2, l3, l4, l5⟩ := pm_digits (σ := jq_st ω 0 15 0) (T := T) (L := L) ⟨by rw [pu_st_b (by omega)]; exact hf.1, h2, by rw [pu_st_ne (by omega)]; exact hf.2.2.1, by rw [pu_st_b (by omega)]; exact hf.2.2.2⟩ pu_st_a
        rw [pu_st_b (show (14 : Int) ≠ 15 by omega), g14] at l2 l5
        have k13 : κ 0 13 = υ 0 14 := by rw [l4 13 (by omega) (by omega), pu_st_b (by omega)]; exact g13
        have hb := l2.1
        have hb2 := l2.2.1
        rw [l1, Option.bind_some, k13, pu_w (x := κ 0 14 - υ 0 14) (by omega) (by omega)]
        have fin2 : ∀ v, (4 < κ 0 14 - υ 0 14 ∧ v = 1 ∨ κ 0 14 - υ 0 14 ≤ 4 ∧ v = 3) → ∃ τ', (some (jq_st κ 0 12 v) : Option jq_M) = some τ' ∧ pu_mf T L τ' ∧ pu_f2 σ τ' ∧ pu_my T L (σ 0 14) τ' := fun v hv => by
          refine fin _ (fun k hk => by rw [pu_st_ne hk, l3 k hk, pu_st_ne hk]; exact gk k hk) (fun j hj => by rw [pu_st_b (by omega), l4 j (by omega) (by omega), pu_st_b (by omega)]; exact g3 j hj) (by rw [pu_st_b (by omega)]; exact k13) (by rw [pu_st_b (by omega)]; exact ⟨hb, hb2⟩) (Or.inr (Or.inr (Or.inl ?_)))
          unfold pu_myN
          rw [pu_st_b (show (14 : Int) ≠ 12 by omega), pu_st_a, pu_st_b (show (15 : Int) ≠ 12 by omega)]
          refine ⟨z, y, x, l2, ?_⟩
          rcases hv with g | g
          · exact Or.inl g
          · exact Or.inr ⟨g.1, g.2, l5 g.1⟩
        by_cases g : 4 < κ 0 14 - υ 0 14
        · rw [if_pos g, pu_lt]
          exact fin2 1 (Or.inl ⟨g, rfl⟩)
        · rw [if_neg g, pu_lt]
          exact fin2 3 (Or.inr ⟨by omega, rfl⟩)
      · rw [pu_i_n x, if_pos rfl, pu_lt, g14, pu_w (x := υ 0 14 + 1) (by omega) (by omega)]
        have fin2 : ∀ v, (pu_sg4 (T (υ 0 14)) ∧ v = 4 ∧ c = T (υ 0 14) ∨ ¬ pu_sg4 (T (υ 0 14)) ∧ v = 1) → ∃ τ', (some (jq_st (jq_st ω 0 14 (υ 0 14 + 1)) 0 12 v) : Option jq_M) = some τ' ∧ pu_mf T L τ' ∧ pu_f2 σ τ' ∧ pu_my T L (σ 0 14) τ' := fun v hv => by
          refine fin _ (fun k hk => by rw [pu_st_ne hk, pu_st_ne hk]; exact gk k hk) (fun j hj => by rw [pu_st_b (by omega), pu_st_b (by omega)]; exact g3 j hj) (by rw [pu_st_b (by omega), pu_st_b (by omega)]; exact g13) (by rw [pu_st_b (by omega), pu_st_a]; omega) (Or.inr (Or.inr (Or.inr ?_)))
          unfold pu_myS
          rw [pu_st_b (show (14 : Int) ≠ 12 by omega), pu_st_a, pu_st_a, pu_st_b (show (15 : Int) ≠ 12 by omega), pu_st_b (show (15 : Int) ≠ 14 by omega), g15]
          refine ⟨z, y, x, rfl, ?_⟩
          rcases hv with g | g
          · exact Or.inl ⟨g.1, g.2.1, g.2.2⟩
          · exact Or.inr g
        by_cases z1 : c = 59
        · rw [if_pos z1, pu_lt]
          exact fin2 4 (Or.inl ⟨by unfold pu_sg4; have := bys (Or.inl z1); omega, rfl, bys (Or.inl z1)⟩)
        by_cases z2 : c = 60
        · rw [if_neg z1, if_pos z2, pu_lt]
          exact fin2 4 (Or.inl ⟨by unfold pu_sg4; have := bys (Or.inr (Or.inl z2)); omega, rfl, bys (Or.inr (Or.inl z2))⟩)
        by_cases z3 : c = 62
        · rw [if_neg z1, if_neg z2, if_pos z3, pu_lt]
          exact fin2 4 (Or.inl ⟨by unfold pu_sg4; have := bys (Or.inr (Or.inr (Or.inl z3))); omega, rfl, bys (Or.inr (Or.inr (Or.inl z3)))⟩)
        by_cases z4 : c = 61
        · rw [if_neg z1, if_neg z2, if_neg z3, if_pos z4, pu_lt]
          exact fin2 4 (Or.inl ⟨by unfold pu_sg4; have := bys (Or.inr (Or.inr (Or.inr z4))); omega, rfl, bys (Or.inr (Or.inr (Or.inr z4)))⟩)
        rw [if_neg z1, if_neg z2, if_neg z3, if_neg z4, pu_lt]
        refine fin2 1 (Or.inr ⟨fun g => ?_, rfl⟩)
        have e := byn4 g
        unfold pu_sg4 at g
        omega
  · rw [if_neg z, if_pos rfl, pu_lt]
    refine fin _ (fun k hk => by rw [pu_st_ne hk, pu_st_ne hk, pu_st_ne hk]; exact a3 k hk) (fun j hj => by rw [pu_st_b (by omega), pu_st_b (by omega), pu_st_b (by omega)]; exact a4 j (by omega)) (by rw [pu_st_b (by omega), pu_st_b (by omega), pu_st_a]) ?_ (Or.inl ?_)
    · rw [pu_st_b (by omega), pu_st_b (by omega), pu_st_b (by omega)]; omega
    · unfold pu_myE
      rw [pu_st_b (show (14 : Int) ≠ 12 by omega), pu_st_b (by omega), pu_st_b (by omega), pu_st_a]
      exact ⟨by omega, by omega, rfl⟩
end
