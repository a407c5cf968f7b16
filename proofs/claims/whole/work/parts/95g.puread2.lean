section
variable {T : Int → Int} {L p s e x y : Int} {σ τ : jq_M} {w : List Int}
theorem pu_cmp0 : jq_cmp x y = 0 ↔ x = y := by
  unfold jq_cmp
  constructor
  · intro h
    by_cases a : x < y
    · rw [if_pos a] at h; cases h
    · rw [if_neg a] at h
      by_cases b : x = y
      · exact b
      · rw [if_neg b] at h; cases h
  · intro h
    rw [if_neg (by omega), if_pos h]
theorem ps_here (h0 : 0 ≤ σ 2 4) (h1 : σ 2 4 < σ 2 3) (h9 : σ 2 3 ≤ 900) : X5_here σ = some (σ 4 (σ 2 4)) := by
  unfold X5_here
  rw [if_neg (by omega), if_pos h1, if_pos (by omega), pu_ld h0 (by omega)]
  rfl
theorem ps_isBlank : X5_isBlank x σ = some (pu_i (pu_bk x)) := by
  unfold X5_isBlank pu_bk
  by_cases a : x = 32
  · rw [if_pos a, pu_i_p (Or.inl a)]
  · by_cases b : x = 10
    · rw [if_neg a, if_pos b, pu_i_p (Or.inr b)]
    · rw [if_neg a, if_neg b, pu_i_n (by omega)]
theorem ps_isLetter : X5_isLetter x σ = some (pu_i (pu_sm x)) := by
  unfold X5_isLetter pu_sm
  by_cases a : x < 97
  · rw [if_pos a, pu_i_n (by omega)]
  · by_cases b : 122 < x
    · rw [if_neg a, if_pos b, pu_i_n (by omega)]
    · rw [if_neg a, if_neg b, pu_i_p (by omega)]
theorem ps_isDigit : X5_isDigit x σ = some (pu_i (pu_dg x)) := by
  unfold X5_isDigit pu_dg
  by_cases a : x < 48
  · rw [if_pos a, pu_i_n (by omega)]
  · by_cases b : 57 < x
    · rw [if_neg a, if_pos b, pu_i_n (by omega)]
    · rw [if_neg a, if_neg b, pu_i_p (by omega)]
theorem ps_withLetter (h0 : 0 ≤ x) (h1 : x < 1099511627776) (hy : pu_sm y) : X5_withLetter jq_zX x y σ = some (x * 32 + (y - 96)) := by
  unfold pu_sm at hy
  unfold X5_withLetter
  rw [pu_shl5 h0 h1, pu_w64 (x := x * 32 + y) (by omega) (by omega), pu_w64 (x := x * 32 + y - 97) (by omega) (by omega), pu_w64 (by omega) (by omega)]
  congr 1
  omega
/-- the class's reader: so much text, so far read -/
def pu_sf (T : Int → Int) (L : Int) (σ : jq_M) : Prop := σ 2 3 = L ∧ L ≤ 900 ∧ (∀ j, 0 ≤ j → j < L → σ 4 j = T j) ∧ (0 ≤ σ 2 4 ∧ σ 2 4 ≤ L) ∧ (∀ (i : Nat) (w : List Int), pu_kw[i]? = some w → σ 3 i = pu_c5 w)
/-- the class's token, read from p on: from s to e -/
def pu_ctE (L s e : Int) (τ : jq_M) : Prop := s = L ∧ e = L ∧ τ 2 5 = 0 ∧ τ 2 11 = -1 ∧ τ 2 10 = 0
def pu_ctW (T : Int → Int) (L s e : Int) (τ : jq_M) : Prop := s < L ∧ pu_sm (T s) ∧ pu_to pu_sm T L s e ∧ τ 2 5 = 1 ∧ pu_wt (pu_wl T s (e - s).toNat) (τ 2 9) (τ 2 10) (τ 2 11)
def pu_ctN (T : Int → Int) (L s e : Int) (τ : jq_M) : Prop := s < L ∧ ¬ pu_sm (T s) ∧ pu_dg (T s) ∧ pu_to pu_dg T L s e ∧ τ 2 11 = -1 ∧ τ 2 10 = 0 ∧ (4 < e - s ∧ τ 2 5 = 4 ∨ e - s ≤ 4 ∧ τ 2 5 = 2 ∧ τ 2 7 = pu_nv T s (e - s).toNat)
def pu_sg4 (x : Int) : Prop := x = 59 ∨ x = 60 ∨ x = 62 ∨ x = 61
def pu_ctS (T : Int → Int) (L s e : Int) (τ : jq_M) : Prop := s < L ∧ ¬ pu_sm (T s) ∧ ¬ pu_dg (T s) ∧ e = s + 1 ∧ τ 2 11 = -1 ∧ τ 2 10 = 0 ∧ (pu_sg4 (T s) ∧ τ 2 5 = 3 ∧ τ 2 8 = T s ∨ ¬ pu_sg4 (T s) ∧ τ 2 5 = 4)
def pu_cx (T : Int → Int) (L p : Int) (τ : jq_M) : Prop := ∃ s e, pu_to pu_bk T L p s ∧ τ 2 6 = s ∧ τ 2 4 = e ∧ s ≤ e ∧ e ≤ L ∧ (pu_ctE L s e τ ∨ pu_ctW T L s e τ ∨ pu_ctN T L s e τ ∨ pu_ctS T L s e τ)
/-- only the token has changed -/
def pu_f1 (σ τ : jq_M) : Prop := (∀ k, k ≠ 2 → τ k = σ k) ∧ ∀ j, j < 4 ∨ 11 < j → τ 2 j = σ 2 j
theorem ps_skip (h : pu_sf T L σ) : ∃ τ, jq_lp X5_next_b0 σ = some τ ∧ pu_to pu_bk T L (σ 2 4) (τ 2 4) ∧ (∀ k, k ≠ 2 → τ k = σ k) ∧ ∀ j, j ≠ 4 → τ 2 j = σ 2 j := by
  obtain ⟨h1, h2, h3, h4, h5⟩ := h
  obtain ⟨s, e, a1, a2, a3, a4⟩ := pu_walk (f := X5_next_b0) (Q := pu_bk) (T := T) (L := L) (fun s : jq_M => s 2 4) (fun s => 0 ≤ s 2 4 ∧ (∀ k, k ≠ 2 → s k = σ k) ∧ ∀ j, j ≠ 4 → s 2 j = σ 2 j) (fun s e => e = s) (fun t ⟨i0, i1, i2⟩ i3 => by
    have e3 : t 2 3 = L := (i2 3 (by omega)).trans h1
    unfold X5_next_b0
    by_cases w : t 2 4 < L
    · rw [if_pos (show t 2 4 < t 2 3 by rw [e3]; exact w), ps_here (by omega) (by omega) (by omega), Option.bind_some, ps_isBlank, Option.bind_some, i1 4 (by omega), h3 _ i0 w]
      by_cases z : pu_bk (T (t 2 4))
      · rw [pu_i_p z, if_neg (show ¬ ((1 : Int) = 0) by decide), pu_lt, pu_w (by omega) (by omega)]
        refine Or.inl ⟨w, z, _, rfl, pu_st_a, ?_, fun k hk => ?_, fun j hj => ?_⟩
        · rw [pu_st_a]; omega
        · rw [pu_st_ne hk]; exact i1 k hk
        · rw [pu_st_b hj]; exact i2 j hj
      · rw [pu_i_n z, if_pos rfl]
        exact Or.inr ⟨fun q => z q.2, _, rfl, rfl⟩
    · rw [if_neg (show ¬ t 2 4 < t 2 3 by rw [e3]; exact w)]
      exact Or.inr ⟨fun q => w q.1, _, rfl, rfl⟩) σ ⟨h4.1, fun _ _ => rfl, fun _ _ => rfl⟩ h4.2
  subst a2
  exact ⟨e, a1, a4, a3.2.1, a3.2.2⟩
/-- the keywords, looked through -/
theorem ps_keys (h : pu_sf T L σ) (hw : w.length ≤ 8 → ∀ x ∈ w, 97 ≤ x ∧ x ≤ 122) (hl : w.length ≤ 8) (h11 : σ 2 11 = -1) : ∃ τ, jq_lp (X5_readWord_b72 (pu_c5 w)) (0, σ) = some τ ∧ (∀ k, k ≠ 2 → τ k = σ k) ∧ (∀ j, j ≠ 11 → τ 2 j = σ 2 j) ∧ pu_kk w (τ 2 11) := by
  obtain ⟨h1, h2, h3, h4, h5⟩ := h
  refine pu_lpE (f := X5_readWord_b72 (pu_c5 w)) (s := ((0 : Int), σ)) (fun i t => t.1 = (i : Int) ∧ (∀ k, k ≠ 2 → t.2 k = σ k) ∧ (∀ j, j ≠ 11 → t.2 2 j = σ 2 j) ∧ ((t.2 2 11 = -1 ∧ ∀ a : Nat, a < i → pu_kw[a]? ≠ some w) ∨ ∃ a : Nat, a < i ∧ t.2 2 11 = (a : Int) ∧ pu_kw[a]? = some w)) (fun τ => (∀ k, k ≠ 2 → τ k = σ k) ∧ (∀ j, j ≠ 11 → τ 2 j = σ 2 j) ∧ pu_kk w (τ 2 11)) 28 ⟨rfl, fun _ _ => rfl, fun _ _ => rfl, Or.inl ⟨h11, fun a ha => by omega⟩⟩ (fun i t ht hi => ?_) (fun e g1 g2 => ⟨e, g1, g2⟩)
  obtain ⟨t1, t2⟩ := t
  obtain ⟨q0, q1, q2, q3⟩ := ht
  dsimp only at q0 q1 q2 q3
  unfold X5_readWord_b72
  dsimp only
  by_cases l : t1 < 28
  · right
    have hi2 : i < 28 := by omega
    obtain ⟨v, hv⟩ : ∃ v, pu_kw[i]? = some v := ⟨_, List.getElem?_eq_getElem (show i < pu_kw.length from hi2)⟩
    have kv := h5 i v hv
    have bv := pu_kw_l v (List.mem_of_getElem? hv)
    rw [if_pos l, pu_ld (by omega) (by omega), Option.bind_some, q1 3 (by omega), q0, kv]
    by_cases z : v = w
    · rw [if_pos (by rw [pu_cmp0, z]), pu_lt, pu_lt, pu_w (by omega) (by omega)]
      refine ⟨hi2, _, rfl, by dsimp only; omega, fun k hk => ?_, fun j hj => ?_, Or.inr ⟨i, by omega, ?_, by rw [hv, z]⟩⟩
      · dsimp only; rw [pu_st_ne hk]; exact q1 k hk
      · dsimp only; rw [pu_st_b hj]; exact q2 j hj
      · dsimp only; rw [pu_st_a]
    · rw [if_neg (by rw [pu_cmp0]; exact fun g => z (pu_c5_i v w bv.2 (hw hl) g)), pu_lt, pu_w (by omega) (by omega)]
      refine ⟨hi2, _, rfl, by dsimp only; omega, q1, q2, ?_⟩
      rcases q3 with ⟨a, b⟩ | ⟨a, b, c⟩
      · refine Or.inl ⟨a, fun a ha g => ?_⟩
        by_cases u : a = i
        · rw [u, hv] at g
          injection g with g
          exact z g
        · exact b a (by omega) g
      · exact Or.inr ⟨a, by omega, c⟩
  · left
    rw [if_neg l]
    refine ⟨_, rfl, q1, q2, ?_⟩
    have e : i = 28 := by omega
    rw [e] at q3
    exact q3
theorem ps_readWord (h : pu_sf T L σ) (hs : σ 2 4 < L) (h6 : σ 2 6 = σ 2 4) (h11 : σ 2 11 = -1) (h10 : σ 2 10 = 0) (hm : pu_sm (T (σ 2 4))) : ∃ τ, X5_readWord σ = some τ ∧ (∀ k, k ≠ 2 → τ k = σ k) ∧ (∀ j, j < 4 ∨ 11 < j ∨ j = 6 → τ 2 j = σ 2 j) ∧ (σ 2 4 ≤ τ 2 4 ∧ τ 2 4 ≤ L) ∧ pu_ctW T L (σ 2 4) (τ 2 4) τ := by
  have hh := h
  obtain ⟨h1, h2, h3, h4, h5⟩ := h
  obtain ⟨s, e, a1, a2, a3, a4⟩ := pu_walk (f := X5_readWord_b7) (Q := pu_sm) (T := T) (L := L) (fun s : Int × jq_M => s.2 2 4) (fun s => σ 2 4 ≤ s.2 2 4 ∧ (∀ k, k ≠ 2 → s.2 k = σ k) ∧ (∀ j, j ≠ 4 → j ≠ 5 → s.2 2 j = σ 2 j) ∧ s.2 2 5 = 1 ∧ (∀ j, σ 2 4 ≤ j → j < s.2 2 4 → pu_sm (T j)) ∧ (s.2 2 4 - σ 2 4 ≤ 8 → s.1 = pu_c5 (pu_wl T (σ 2 4) (s.2 2 4 - σ 2 4).toNat))) (fun s e => e = s) (fun t ht i3 => by
    obtain ⟨c, t⟩ := t
    obtain ⟨i0, i1, i2, i5, i6, i7⟩ := ht
    dsimp only at i0 i1 i2 i3 i5 i6 i7 ⊢
    have e3 : t 2 3 = L := (i2 3 (by omega) (by omega)).trans h1
    unfold X5_readWord_b7
    dsimp only
    by_cases w : t 2 4 < L
    · rw [if_pos (show t 2 4 < t 2 3 by rw [e3]; exact w), ps_here (by omega) (by omega) (by omega), Option.bind_some, ps_isLetter, Option.bind_some, i1 4 (by omega), h3 _ (by omega) w]
      by_cases z : pu_sm (T (t 2 4))
      · have stp : ∃ v, X5_withLetter jq_zX c (T (t 2 4)) t = some v ∧ (t 2 4 + 1 - σ 2 4 ≤ 8 → v = pu_c5 (pu_wl T (σ 2 4) (t 2 4 + 1 - σ 2 4).toNat)) := by
          by_cases n : t 2 4 + 1 - σ 2 4 ≤ 8
          · have e := i7 (by omega)
            have b := pu_c5_b _ (pu_wl_m (T := T) (s := σ 2 4) (t 2 4 - σ 2 4).toNat (fun j x y => i6 j x (by omega)))
            rw [pu_wl_l, ← e] at b
            have b2 : c < 34359738368 := by
              have : (32 : Int) ^ (t 2 4 - σ 2 4).toNat ≤ 34359738368 := by
                rcases (show (t 2 4 - σ 2 4).toNat = 0 ∨ (t 2 4 - σ 2 4).toNat = 1 ∨ (t 2 4 - σ 2 4).toNat = 2 ∨ (t 2 4 - σ 2 4).toNat = 3 ∨ (t 2 4 - σ 2 4).toNat = 4 ∨ (t 2 4 - σ 2 4).toNat = 5 ∨ (t 2 4 - σ 2 4).toNat = 6 ∨ (t 2 4 - σ 2 4).toNat = 7 by omega) with g | g | g | g | g | g | g | g <;> rw [g] <;> decide
              omega
            refine ⟨_, ps_withLetter b.1 (by omega) z, fun _ => ?_⟩
            rw [show (t 2 4 + 1 - σ 2 4).toNat = (t 2 4 - σ 2 4).toNat + 1 by omega]
            show _ = pu_c5 (pu_wl T (σ 2 4) (t 2 4 - σ 2 4).toNat) * 32 + (T (σ 2 4 + (((t 2 4 - σ 2 4).toNat : Nat) : Int)) - 96)
            rw [← e, show σ 2 4 + (((t 2 4 - σ 2 4).toNat : Nat) : Int) = t 2 4 by omega]
          · exact ⟨_, rfl, fun q => absurd q n⟩
        obtain ⟨v, v1, v2⟩ := stp
        rw [pu_i_p z, if_neg (show ¬ ((1 : Int) = 0) by decide), Option.bind_some, v1, Option.bind_some, pu_lt, pu_w (by omega) (by omega)]
        refine Or.inl ⟨w, z, _, rfl, (by dsimp only; exact pu_st_a), ?_, fun k hk => ?_, fun j hj hj2 => ?_, ?_, fun j x y => ?_, fun q => ?_⟩
        · dsimp only; rw [pu_st_a]; omega
        · dsimp only; rw [pu_st_ne hk]; exact i1 k hk
        · dsimp only; rw [pu_st_b hj]; exact i2 j hj hj2
        · dsimp only; rw [pu_st_b (by omega)]; exact i5
        · dsimp only at y
          rw [pu_st_a] at y
          by_cases u : j = t 2 4
          · rw [u]; exact z
          · exact i6 j x (by omega)
        · dsimp only at q ⊢
          rw [pu_st_a] at q ⊢
          exact v2 q
      · rw [pu_i_n z, if_pos rfl]
        exact Or.inr ⟨fun q => z q.2, _, rfl, rfl⟩
    · rw [if_neg (show ¬ t 2 4 < t 2 3 by rw [e3]; exact w)]
      exact Or.inr ⟨fun q => w q.1, _, rfl, rfl⟩) (0, jq_st σ 2 5 1) ⟨by dsimp only; rw [pu_st_b (by omega)]; exact Int.le_refl _, fun k hk => pu_st_ne hk, fun j a b => pu_st_b b, (by dsimp only; exact pu_st_a), fun j a b => by dsimp only at b; rw [pu_st_b (by omega)] at b; omega, fun _ => by dsimp only; rw [pu_st_b (by omega), Int.sub_self]; rfl⟩ (by dsimp only; rw [pu_st_b (by omega)]; exact h4.2)
  subst a2
  obtain ⟨c, t⟩ := e
  obtain ⟨b0, b1, b2, b3, b4, b5⟩ := a3
  dsimp only at a4 b0 b1 b2 b3 b4 b5
  rw [pu_st_b (by omega)] at a4
  have hle := a4.2.1
  have t6 : t 2 6 = σ 2 4 := (b2 6 (by omega) (by omega)).trans h6
  have len := pu_wl_l (T := T) (s := σ 2 4) (t 2 4 - σ 2 4).toNat
  unfold X5_readWord
  rw [pu_lt, a1, Option.bind_some]
  unfold X5_readWord_j50
  dsimp only
  by_cases g : 8 < t 2 4 - σ 2 4
  · rw [if_pos (show 8 < jq_w (t 2 4 - t 2 6) by rw [t6, pu_w (x := t 2 4 - σ 2 4) (by omega) (by omega)]; exact g)]
    refine ⟨t, rfl, b1, fun j hj => b2 j (by omega) (by omega), ⟨b0, hle⟩, hs, hm, a4, b3, ?_, Or.inr ⟨(b2 10 (by omega) (by omega)).trans h10, Or.inl (by rw [len]; omega)⟩⟩
    refine Or.inl ⟨(b2 11 (by omega) (by omega)).trans h11, fun i hi hk => ?_⟩
    have := (pu_kw_l _ (List.mem_of_getElem? hk)).1
    rw [len] at this
    omega
  · have ec := b5 (by omega)
    have bm := pu_wl_m (T := T) (s := σ 2 4) (t 2 4 - σ 2 4).toNat (fun j x y => b4 j x (by omega))
    rw [if_neg (show ¬ 8 < jq_w (t 2 4 - t 2 6) by rw [t6, pu_w (x := t 2 4 - σ 2 4) (by omega) (by omega)]; exact g), pu_lt, ec]
    generalize hw : pu_wl T (σ 2 4) (t 2 4 - σ 2 4).toNat = w at len bm
    obtain ⟨υ, k1, k2, k3, k4⟩ := ps_keys (σ := jq_st t 2 9 (pu_c5 w)) (T := T) (L := L) (w := w) ⟨by rw [pu_st_b (by omega), b2 3 (by omega) (by omega)]; exact h1, h2, by rw [pu_st_ne (by omega), b1 4 (by omega)]; exact h3, by rw [pu_st_b (by omega)]; omega, by rw [pu_st_ne (by omega), b1 3 (by omega)]; exact h5⟩ (fun _ => bm) (by omega) (by rw [pu_st_b (by omega), b2 11 (by omega) (by omega)]; exact h11)
    have f2 : ∀ j, j ≠ 4 → j ≠ 5 → j ≠ 9 → j ≠ 11 → υ 2 j = σ 2 j := fun j x y z u => by rw [k3 j u, pu_st_b z]; exact b2 j x y
    have f1 : ∀ k, k ≠ 2 → υ k = σ k := fun k hk => by rw [k2 k hk, pu_st_ne hk]; exact b1 k hk
    have p4 : υ 2 4 = t 2 4 := by rw [k3 4 (by omega), pu_st_b (by omega)]
    have p5 : υ 2 5 = 1 := by rw [k3 5 (by omega), pu_st_b (by omega)]; exact b3
    have p9 : υ 2 9 = pu_c5 w := by rw [k3 9 (by omega), pu_st_a]
    rw [k1, Option.bind_some]
    by_cases q : υ 2 11 = -1
    · rw [if_pos q, pu_lt]
      refine ⟨_, rfl, fun k hk => by rw [pu_st_ne hk]; exact f1 k hk, fun j hj => by rw [pu_st_b (by omega)]; exact f2 j (by omega) (by omega) (by omega) (by omega), ?_, ?_⟩
      · rw [pu_st_b (by omega), p4]; exact ⟨b0, hle⟩
      · unfold pu_ctW
        rw [pu_st_b (show (4 : Int) ≠ 10 by omega), p4, pu_st_b (show (5 : Int) ≠ 10 by omega), pu_st_b (show (9 : Int) ≠ 10 by omega), pu_st_a, pu_st_b (show (11 : Int) ≠ 10 by omega), hw, p9]
        exact ⟨hs, hm, a4, p5, k4, Or.inl ⟨rfl, by omega, q, rfl⟩⟩
    · rw [if_neg q, pu_lt]
      refine ⟨_, rfl, fun k hk => by rw [pu_st_ne hk]; exact f1 k hk, fun j hj => by rw [pu_st_b (by omega)]; exact f2 j (by omega) (by omega) (by omega) (by omega), ?_, ?_⟩
      · rw [pu_st_b (by omega), p4]; exact ⟨b0, hle⟩
      · unfold pu_ctW
        rw [pu_st_b (show (4 : Int) ≠ 10 by omega), p4, pu_st_b (show (5 : Int) ≠ 10 by omega), pu_st_b (show (9 : Int) ≠ 10 by omega), pu_st_a, pu_st_b (show (11 : Int) ≠ 10 by omega), hw, p9]
        exact ⟨hs, hm, a4, p5, k4, Or.inr ⟨rfl, Or.inr q⟩⟩
theorem ps_readNumber (h : pu_sf T L σ) (hs : σ 2 4 < L) (h6 : σ 2 6 = σ 2 4) (h11 : σ 2 11 = -1) (h10 : σ 2 10 = 0) (hm : ¬ pu_sm (T (σ 2 4))) (hd : pu_dg (T (σ 2 4))) : ∃ τ, X5_readNumber σ = some τ ∧ (∀ k, k ≠ 2 → τ k = σ k) ∧ (∀ j, j < 4 ∨ 11 < j ∨ j = 6 → τ 2 j = σ 2 j) ∧ (σ 2 4 ≤ τ 2 4 ∧ τ 2 4 ≤ L) ∧ pu_ctN T L (σ 2 4) (τ 2 4) τ := by
  obtain ⟨h1, h2, h3, h4, h5⟩ := h
  obtain ⟨s, e, a1, a2, a3, a4⟩ := pu_walk (f := X5_readNumber_b5) (Q := pu_dg) (T := T) (L := L) (fun s : jq_M => s 2 4) (fun s => σ 2 4 ≤ s 2 4 ∧ (∀ k, k ≠ 2 → s k = σ k) ∧ (∀ j, j ≠ 4 → j ≠ 7 → s 2 j = σ 2 j) ∧ (∀ j, σ 2 4 ≤ j → j < s 2 4 → pu_dg (T j)) ∧ (s 2 4 - σ 2 4 ≤ 4 → s 2 7 = pu_nv T (σ 2 4) (s 2 4 - σ 2 4).toNat)) (fun s e => e = s) (fun t ⟨i0, i1, i2, i6, i7⟩ i3 => by
    have e3 : t 2 3 = L := (i2 3 (by omega) (by omega)).trans h1
    unfold X5_readNumber_b5
    by_cases w : t 2 4 < L
    · rw [if_pos (show t 2 4 < t 2 3 by rw [e3]; exact w), ps_here (by omega) (by omega) (by omega), Option.bind_some, ps_isDigit, Option.bind_some, i1 4 (by omega), h3 _ (by omega) w]
      by_cases z : pu_dg (T (t 2 4))
      · have stp : t 2 4 + 1 - σ 2 4 ≤ 4 → jq_w (jq_w (jq_w (t 2 7 * 10) + T (t 2 4)) - 48) = pu_nv T (σ 2 4) (t 2 4 + 1 - σ 2 4).toNat := fun n => by
          have e := i7 (by omega)
          have b := pu_nv_b (T := T) (s := σ 2 4) (t 2 4 - σ 2 4).toNat (fun j x y => i6 j x (by omega))
          rw [← e] at b
          have b2 : t 2 7 < 1000 := by
            have : (10 : Int) ^ (t 2 4 - σ 2 4).toNat ≤ 1000 := by
              rcases (show (t 2 4 - σ 2 4).toNat = 0 ∨ (t 2 4 - σ 2 4).toNat = 1 ∨ (t 2 4 - σ 2 4).toNat = 2 ∨ (t 2 4 - σ 2 4).toNat = 3 by omega) with g | g | g | g <;> rw [g] <;> decide
            omega
          have zz := z
          unfold pu_dg at zz
          rw [pu_w (x := t 2 7 * 10) (by omega) (by omega), pu_w (x := t 2 7 * 10 + T (t 2 4)) (by omega) (by omega), pu_w (by omega) (by omega), show (t 2 4 + 1 - σ 2 4).toNat = (t 2 4 - σ 2 4).toNat + 1 by omega]
          show _ = pu_nv T (σ 2 4) (t 2 4 - σ 2 4).toNat * 10 + T (σ 2 4 + (((t 2 4 - σ 2 4).toNat : Nat) : Int)) - 48
          rw [← e, show σ 2 4 + (((t 2 4 - σ 2 4).toNat : Nat) : Int) = t 2 4 by omega]
        rw [pu_i_p z, if_neg (show ¬ ((1 : Int) = 0) by decide), Option.bind_some, pu_lt, pu_lt, pu_st_b (show (4 : Int) ≠ 7 by omega), pu_w (x := t 2 4 + 1) (by omega) (by omega)]
        refine Or.inl ⟨w, z, _, rfl, pu_st_a, ?_, fun k hk => ?_, fun j hj hj2 => ?_, fun j x y => ?_, fun q => ?_⟩
        · rw [pu_st_a]; omega
        · rw [pu_st_ne hk, pu_st_ne hk]; exact i1 k hk
        · rw [pu_st_b hj, pu_st_b hj2]; exact i2 j hj hj2
        · rw [pu_st_a] at y
          by_cases u : j = t 2 4
          · rw [u]; exact z
          · exact i6 j x (by omega)
        · rw [pu_st_a] at q ⊢
          rw [pu_st_b (by omega), pu_st_a]
          exact stp q
      · rw [pu_i_n z, if_pos rfl]
        exact Or.inr ⟨fun q => z q.2, _, rfl, rfl⟩
    · rw [if_neg (show ¬ t 2 4 < t 2 3 by rw [e3]; exact w)]
      exact Or.inr ⟨fun q => w q.1, _, rfl, rfl⟩) (jq_st σ 2 7 0) ⟨by rw [pu_st_b (by omega)]; exact Int.le_refl _, fun k hk => pu_st_ne hk, fun j a b => pu_st_b b, fun j a b => by rw [pu_st_b (by omega)] at b; omega, fun _ => by rw [pu_st_a, pu_st_b (by omega), Int.sub_self]; rfl⟩ (by rw [pu_st_b (by omega)]; exact h4.2)
  subst a2
  obtain ⟨b0, b1, b2, b4, b5⟩ := a3
  rw [pu_st_b (by omega)] at a4
  have hle := a4.2.1
  have t6 : e 2 6 = σ 2 4 := (b2 6 (by omega) (by omega)).trans h6
  unfold X5_readNumber
  rw [pu_lt, a1, Option.bind_some]
  unfold X5_readNumber_j58
  rw [t6, pu_w (x := e 2 4 - σ 2 4) (by omega) (by omega)]
  have fin : ∀ v, (4 < e 2 4 - σ 2 4 ∧ v = 4 ∨ e 2 4 - σ 2 4 ≤ 4 ∧ v = 2) → ∃ τ, (some (jq_st e 2 5 v) : Option jq_M) = some τ ∧ (∀ k, k ≠ 2 → τ k = σ k) ∧ (∀ j, j < 4 ∨ 11 < j ∨ j = 6 → τ 2 j = σ 2 j) ∧ (σ 2 4 ≤ τ 2 4 ∧ τ 2 4 ≤ L) ∧ pu_ctN T L (σ 2 4) (τ 2 4) τ := fun v hv => by
    refine ⟨_, rfl, fun k hk => by rw [pu_st_ne hk]; exact b1 k hk, fun j hj => by rw [pu_st_b (by omega)]; exact b2 j (by omega) (by omega), ?_, ?_⟩
    · rw [pu_st_b (by omega)]; exact ⟨b0, hle⟩
    · unfold pu_ctN
      rw [pu_st_b (show (4 : Int) ≠ 5 by omega), pu_st_b (show (11 : Int) ≠ 5 by omega), pu_st_b (show (10 : Int) ≠ 5 by omega), pu_st_b (show (7 : Int) ≠ 5 by omega), pu_st_a]
      refine ⟨hs, hm, hd, a4, (b2 11 (by omega) (by omega)).trans h11, (b2 10 (by omega) (by omega)).trans h10, ?_⟩
      rcases hv with g | g
      · exact Or.inl g
      · exact Or.inr ⟨g.1, g.2, b5 g.1⟩
  by_cases g : 4 < e 2 4 - σ 2 4
  · rw [if_pos g, pu_lt]
    exact fin 4 (Or.inl ⟨g, rfl⟩)
  · rw [if_neg g, pu_lt]
    exact fin 2 (Or.inr ⟨by omega, rfl⟩)
theorem ps_readSign (h : pu_sf T L σ) (hs : σ 2 4 < L) (h11 : σ 2 11 = -1) (h10 : σ 2 10 = 0) (hm : ¬ pu_sm (T (σ 2 4))) (hd : ¬ pu_dg (T (σ 2 4))) : ∃ τ, X5_readSign σ = some τ ∧ (∀ k, k ≠ 2 → τ k = σ k) ∧ (∀ j, j < 4 ∨ 11 < j ∨ j = 6 → τ 2 j = σ 2 j) ∧ (σ 2 4 ≤ τ 2 4 ∧ τ 2 4 ≤ L) ∧ pu_ctS T L (σ 2 4) (τ 2 4) τ := by
  obtain ⟨h1, h2, h3, h4, h5⟩ := h
  unfold X5_readSign
  rw [ps_here (by omega) (by omega) (by omega), Option.bind_some, h3 _ (by omega) hs, pu_lt, pu_lt, pu_st_b (show (4 : Int) ≠ 8 by omega), pu_w (x := σ 2 4 + 1) (by omega) (by omega), pu_st_b (show (8 : Int) ≠ 4 by omega), pu_st_a]
  have fin : ∀ v, (pu_sg4 (T (σ 2 4)) ∧ v = 3 ∨ ¬ pu_sg4 (T (σ 2 4)) ∧ v = 4) → ∃ τ, (some (jq_st (jq_st (jq_st σ 2 8 (T (σ 2 4))) 2 4 (σ 2 4 + 1)) 2 5 v) : Option jq_M) = some τ ∧ (∀ k, k ≠ 2 → τ k = σ k) ∧ (∀ j, j < 4 ∨ 11 < j ∨ j = 6 → τ 2 j = σ 2 j) ∧ (σ 2 4 ≤ τ 2 4 ∧ τ 2 4 ≤ L) ∧ pu_ctS T L (σ 2 4) (τ 2 4) τ := fun v hv => by
    refine ⟨_, rfl, fun k hk => by rw [pu_st_ne hk, pu_st_ne hk, pu_st_ne hk], fun j hj => by rw [pu_st_b (by omega), pu_st_b (by omega), pu_st_b (by omega)], ?_, ?_⟩
    · rw [pu_st_b (by omega), pu_st_a]; omega
    · unfold pu_ctS
      rw [pu_st_b (show (4 : Int) ≠ 5 by omega), pu_st_a, pu_st_b (show (11 : Int) ≠ 5 by omega), pu_st_b (show (11 : Int) ≠ 4 by omega), pu_st_b (show (11 : Int) ≠ 8 by omega), pu_st_b (show (10 : Int) ≠ 5 by omega), pu_st_b (show (10 : Int) ≠ 4 by omega), pu_st_b (show (10 : Int) ≠ 8 by omega), pu_st_a, pu_st_b (show (8 : Int) ≠ 5 by omega), pu_st_b (show (8 : Int) ≠ 4 by omega), pu_st_a]
      refine ⟨hs, hm, hd, rfl, h11, h10, ?_⟩
      rcases hv with g | g
      · exact Or.inl ⟨g.1, g.2, rfl⟩
      · exact Or.inr g
  by_cases z1 : T (σ 2 4) = 59
  · rw [if_pos z1]
    unfold X5_readSign_j59
    rw [if_neg (by decide), pu_lt]
    exact fin 3 (Or.inl ⟨Or.inl z1, rfl⟩)
  by_cases z2 : T (σ 2 4) = 60
  · rw [if_neg z1, if_pos z2]
    unfold X5_readSign_j59
    rw [if_neg (by decide), pu_lt]
    exact fin 3 (Or.inl ⟨Or.inr (Or.inl z2), rfl⟩)
  by_cases z3 : T (σ 2 4) = 62
  · rw [if_neg z1, if_neg z2, if_pos z3]
    unfold X5_readSign_j59
    rw [if_neg (by decide), pu_lt]
    exact fin 3 (Or.inl ⟨Or.inr (Or.inr (Or.inl z3)), rfl⟩)
  by_cases z4 : T (σ 2 4) = 61
  · rw [if_neg z1, if_neg z2, if_neg z3, if_pos z4]
    unfold X5_readSign_j59
    rw [if_neg (by decide), pu_lt]
    exact fin 3 (Or.inl ⟨Or.inr (Or.inr (Or.inr z4)), rfl⟩)
  rw [if_neg z1, if_neg z2, if_neg z3, if_neg z4]
  unfold X5_readSign_j59
  rw [if_pos rfl, pu_lt]
  exact fin 4 (Or.inr ⟨fun g => by unfold pu_sg4 at g; omega, rfl⟩)
/-- the next token of the class -/
theorem ps_next (h : pu_sf T L σ) : ∃ τ, X5_next σ = some τ ∧ pu_sf T L τ ∧ pu_f1 σ τ ∧ pu_cx T L (σ 2 4) τ := by
  obtain ⟨υ, a1, a2, a3, a4⟩ := ps_skip h
  obtain ⟨h1, h2, h3, h4, h5⟩ := h
  obtain ⟨ω, hω⟩ : ∃ ω, ω = jq_st (jq_st (jq_st (jq_st υ 2 6 (υ 2 4)) 2 11 (-1)) 2 9 0) 2 10 0 := ⟨_, rfl⟩
  have w3 : ω 2 3 = L := by rw [hω, pu_st_b (by omega), pu_st_b (by omega), pu_st_b (by omega), pu_st_b (by omega), a4 3 (by omega)]; exact h1
  have w4 : ω 2 4 = υ 2 4 := by rw [hω, pu_st_b (by omega), pu_st_b (by omega), pu_st_b (by omega), pu_st_b (by omega)]
  have w6 : ω 2 6 = υ 2 4 := by rw [hω, pu_st_b (by omega), pu_st_b (by omega), pu_st_b (by omega), pu_st_a]
  have w10 : ω 2 10 = 0 := by rw [hω, pu_st_a]
  have w11 : ω 2 11 = -1 := by rw [hω, pu_st_b (by omega), pu_st_b (by omega), pu_st_a]
  have wk : ∀ k, k ≠ 2 → ω k = σ k := fun k hk => by rw [hω, pu_st_ne hk, pu_st_ne hk, pu_st_ne hk, pu_st_ne hk]; exact a3 k hk
  have wj : ∀ j, j < 4 ∨ 11 < j → ω 2 j = σ 2 j := fun j hj => by rw [hω, pu_st_b (by omega), pu_st_b (by omega), pu_st_b (by omega), pu_st_b (by omega)]; exact a4 j (by omega)
  have b := a2.1
  have b2 := a2.2.1
  have hf : pu_sf T L ω := ⟨w3, h2, by rw [wk 4 (by omega)]; exact h3, by rw [w4]; omega, by rw [wk 3 (by omega)]; exact h5⟩
  unfold X5_next
  rw [a1, Option.bind_some]
  unfold X5_next_j34
  rw [pu_lt, pu_lt, pu_lt, pu_lt, ← hω]
  have fin : ∀ τ, (∀ k, k ≠ 2 → τ k = ω k) → (∀ j, j < 4 ∨ 11 < j ∨ j = 6 → τ 2 j = ω 2 j) → (υ 2 4 ≤ τ 2 4 ∧ τ 2 4 ≤ L) → (pu_ctE L (υ 2 4) (τ 2 4) τ ∨ pu_ctW T L (υ 2 4) (τ 2 4) τ ∨ pu_ctN T L (υ 2 4) (τ 2 4) τ ∨ pu_ctS T L (υ 2 4) (τ 2 4) τ) → ∃ τ', (some τ : Option jq_M) = some τ' ∧ pu_sf T L τ' ∧ pu_f1 σ τ' ∧ pu_cx T L (σ 2 4) τ' := fun τ q1 q2 q3 q4 => by
    refine ⟨τ, rfl, ⟨by rw [q2 3 (by omega)]; exact w3, h2, by rw [q1 4 (by omega), wk 4 (by omega)]; exact h3, by omega, by rw [q1 3 (by omega), wk 3 (by omega)]; exact h5⟩, ⟨fun k hk => (q1 k hk).trans (wk k hk), fun j hj => (q2 j (by omega)).trans (wj j hj)⟩, υ 2 4, τ 2 4, a2, (q2 6 (by omega)).trans w6, rfl, q3.1, q3.2, q4⟩
  by_cases z : υ 2 4 < L
  · rw [if_pos (show ω 2 4 < ω 2 3 by rw [w4, w3]; exact z), ps_here (by omega) (by omega) (by omega), Option.bind_some, wk 4 (by omega), w4, h3 _ (by omega) z, ps_isLetter, Option.bind_some]
    by_cases y : pu_sm (T (υ 2 4))
    · obtain ⟨τ, c1, c2, c3, c4, c5⟩ := ps_readWord hf (by omega) (by omega) w11 w10 (by rw [w4]; exact y)
      rw [pu_i_p y, if_neg (show ¬ ((1 : Int) = 0) by decide), c1, Option.bind_some]
      rw [w4] at c4 c5
      exact fin τ c2 c3 c4 (Or.inr (Or.inl c5))
    · rw [pu_i_n y, if_pos rfl, Option.bind_some, ps_isDigit, Option.bind_some]
      by_cases x : pu_dg (T (υ 2 4))
      · obtain ⟨τ, c1, c2, c3, c4, c5⟩ := ps_readNumber hf (by omega) (by omega) w11 w10 (by rw [w4]; exact y) (by rw [w4]; exact x)
        rw [pu_i_p x, if_neg (show ¬ ((1 : Int) = 0) by decide), c1, Option.bind_some]
        rw [w4] at c4 c5
        exact fin τ c2 c3 c4 (Or.inr (Or.inr (Or.inl c5)))
      · obtain ⟨τ, c1, c2, c3, c4, c5⟩ := ps_readSign hf (by omega) w11 w10 (by rw [w4]; exact y) (by rw [w4]; exact x)
        rw [pu_i_n x, if_pos rfl, c1, Option.bind_some]
        rw [w4] at c4 c5
        exact fin τ c2 c3 c4 (Or.inr (Or.inr (Or.inr c5)))
  · rw [if_neg (show ¬ ω 2 4 < ω 2 3 by rw [w4, w3]; exact z), pu_lt]
    refine fin _ (fun k hk => pu_st_ne hk) (fun j hj => pu_st_b (by omega)) ?_ (Or.inl ?_)
    · rw [pu_st_b (by omega), w4]; omega
    · unfold pu_ctE
      rw [pu_st_b (by omega), pu_st_a, pu_st_b (by omega), pu_st_b (by omega), w4]
      exact ⟨by omega, by omega, rfl, w11, w10⟩
end
