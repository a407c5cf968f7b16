section
variable {T : Int → Int} {L s e x : Int} {m1 m2 σ : jq_M} {w : List Int}
theorem pm_b25 : ∀ (f k : Nat) (t : Int), t = (k : Int) → pu_kc (pu_ke f k) = 32 → pu_ke f k < 159 → jq_lp (X11_inWords_b25 σ) t = some ((pu_ke f k : Nat) : Int) := by
  have mono : ∀ f k, k ≤ pu_ke f k := by
    intro f
    induction f with
    | zero => intro k; exact Nat.le_refl _
    | succ f ih =>
      intro k
      unfold pu_ke
      split
      · exact Nat.le_refl _
      · have := ih (k + 1); omega
  intro f
  induction f with
  | zero =>
    intro k t ht h1 h2
    have h1' : pu_kc k = 32 := h1
    have h2' : k < 159 := h2
    refine jq_lp_inr ?_
    unfold X11_inWords_b25
    rw [pm_ch ht h2', Option.bind_some, if_pos h1', ht]
    rfl
  | succ f ih =>
    intro k t ht h1 h2
    have hk := mono (f + 1) k
    by_cases z : pu_kc k = 32
    · have e : pu_ke (f + 1) k = k := by unfold pu_ke; rw [if_pos z]
      rw [e]
      refine jq_lp_inr ?_
      unfold X11_inWords_b25
      rw [pm_ch ht (by omega), Option.bind_some, if_pos z, ht]
    · have e : pu_ke (f + 1) k = pu_ke f (k + 1) := by
        conv => lhs; unfold pu_ke
        rw [if_neg z]
      rw [e] at h1 h2 ⊢
      have h3 := mono f (k + 1)
      rw [← ih (k + 1) (t + 1) (by omega) h1 h2]
      refine jq_lp_inl ?_
      unfold X11_inWords_b25
      rw [pm_ch ht (by omega), Option.bind_some, if_neg z, pu_lt, pu_w (by omega) (by omega)]
theorem pu_wl_eq {T' : Int → Int} {s' : Int} : ∀ n : Nat, pu_wl T s n = pu_wl T' s' n ↔ ∀ j : Nat, j < n → T (s + (j : Int)) = T' (s' + (j : Int)) := by
  intro n
  induction n with
  | zero => exact ⟨fun _ j hj => by omega, fun _ => rfl⟩
  | succ n ih =>
    constructor
    · intro h j hj
      have h' : T (s + (n : Int)) :: pu_wl T s n = T' (s' + (n : Int)) :: pu_wl T' s' n := h
      injection h' with a b
      by_cases z : j = n
      · rw [z]; exact a
      · exact ih.mp b j (by omega)
    · intro h
      show T (s + (n : Int)) :: pu_wl T s n = T' (s' + (n : Int)) :: pu_wl T' s' n
      rw [h n (by omega), ih.mpr (fun j hj => h j (by omega))]
theorem pu_wl_ne {T' : Int → Int} {s' : Int} {n n' : Nat} (h : n ≠ n') : pu_wl T s n ≠ pu_wl T' s' n' := fun g => by
  have := congrArg List.length g
  rw [pu_wl_l, pu_wl_l] at this
  exact h this
/-- the letters of one word of the list against the token's -/
theorem pm_b68 {k n : Nat} {t j9 : Int} (h2 : pu_mf T L σ) (h13 : σ 0 13 = s) (s0 : 0 ≤ s) (hk : t = (k : Int)) (h9 : j9 = ((k + n : Nat) : Int)) (hn : k + n < 159) (hsn : s + (n : Int) ≤ L) (ha : ∀ j, s ≤ j → j < s + (n : Int) → pu_sm (T j)) : jq_lp (X11_inWords_b68 σ t j9) (1, t) = some (pu_i (pu_wl pu_KC (k : Int) n = pu_wl T s n)) := by
  obtain ⟨f1, f2, f3, f4⟩ := h2
  refine pu_lpE (f := X11_inWords_b68 σ t j9) (s := ((1 : Int), t)) (fun i p => p.2 = t + (i : Int) ∧ (p.1 = 1 ∧ (∀ j : Nat, j < i → pu_KC ((k : Int) + (j : Int)) = T (s + (j : Int))) ∨ p.1 = 0 ∧ ∃ j : Nat, j < n ∧ pu_KC ((k : Int) + (j : Int)) ≠ T (s + (j : Int)))) (fun e => e = pu_i (pu_wl pu_KC (k : Int) n = pu_wl T s n)) n ⟨by dsimp only; omega, Or.inl ⟨rfl, fun j hj => by omega⟩⟩ (fun i p hp hi => ?_) (fun e h1 h2 => by rw [h1, h2])
  obtain ⟨p1, p2⟩ := p
  obtain ⟨q1, q2⟩ := hp
  dsimp only at q1 q2
  unfold X11_inWords_b68
  dsimp only
  by_cases l : p2 < j9
  · rw [if_pos l]
    rcases q2 with ⟨a, b⟩ | ⟨a, j, b, c⟩
    · have z : s + (i : Int) < L := by omega
      have by' := pm_by (σ := σ) (T := T) (L := L) (p := s + (i : Int)) f1 f2 f3 (by omega)
      have lt := ha (s + (i : Int)) (by omega) (by omega)
      unfold pu_sm at lt
      rw [if_pos z, show pu_by (T (s + (i : Int))) = T (s + (i : Int)) from if_neg (by omega)] at by'
      have kc : pu_KC ((k : Int) + (i : Int)) = pu_kc (k + i) := by
        unfold pu_KC
        rw [show ((k : Int) + (i : Int)).toNat = k + i by omega]
      rw [if_neg (by omega), pm_ch (show p2 = ((k + i : Nat) : Int) by omega) (by omega), Option.bind_some, h13, pu_w (x := s + p2) (by omega) (by omega), pu_w (x := s + p2 - t) (by omega) (by omega), show s + p2 - t = s + (i : Int) by omega, by', Option.bind_some, ← kc, pu_lt, pu_lt, pu_w (x := p2 + 1) (by omega) (by omega)]
      by_cases y : pu_KC ((k : Int) + (i : Int)) = T (s + (i : Int))
      · rw [if_pos y]
        refine Or.inr ⟨by omega, _, rfl, by dsimp only; omega, Or.inl ⟨rfl, fun j hj => ?_⟩⟩
        by_cases u : j = i
        · rw [u]; exact y
        · exact b j (by omega)
      · rw [if_neg y]
        exact Or.inr ⟨by omega, _, rfl, by dsimp only; omega, Or.inr ⟨rfl, i, by omega, y⟩⟩
    · rw [if_pos a]
      refine Or.inl ⟨_, rfl, ?_⟩
      rw [a, pu_i_n]
      intro g
      exact c ((pu_wl_eq n).mp g j b)
  · rw [if_neg l]
    refine Or.inl ⟨_, rfl, ?_⟩
    have e : i = n := by omega
    rcases q2 with ⟨a, b⟩ | ⟨a, j, b, c⟩
    · rw [a, pu_i_p]
      rw [e] at b
      exact (pu_wl_eq n).mpr b
    · rw [a, pu_i_n]
      intro g
      exact c ((pu_wl_eq n).mp g j b)
def pu_ri (k : Int) : Int := if k < 0 then -1 else ((pu_rl.getD k.toNat 0 : Nat) : Int)
theorem pm_words (h2 : pu_mf T L σ) (h12 : σ 0 12 = 2) (h13 : σ 0 13 = s) (h14 : σ 0 14 = e) (s0 : 0 ≤ s) (se : s < e) (ha : ∀ j, s ≤ j → j < e → pu_sm (T j)) {k : Int} (hk : pu_kk (pu_wl T s (e - s).toNat) k) : X11_inWords σ = some (pu_ri k) := by
  have hh := h2
  obtain ⟨f1, f2, f3, f4⟩ := h2
  unfold X11_inWords
  rw [if_pos h12]
  refine pu_lpE (f := X11_inWords_b14 σ) (s := ((0 : Int), (1 : Int))) (fun i p => p.1 = (i : Int) ∧ p.2 = ((pu_kp.getD i 0 : Nat) : Int) ∧ ∀ a : Nat, a < i → pu_kw[pu_cl.getD a 0]? ≠ some (pu_wl T s (e - s).toNat)) (fun r => (∃ n : Nat, n < 28 ∧ r = .inl (n : Int) ∧ pu_kw[pu_cl.getD n 0]? = some (pu_wl T s (e - s).toNat)) ∨ r = .inr () ∧ ∀ a : Nat, a < 28 → pu_kw[pu_cl.getD a 0]? ≠ some (pu_wl T s (e - s).toNat)) 28 ⟨rfl, rfl, fun a ha => by omega⟩ (fun i p hp hi => ?_) (fun r h1 h2 => ?_)
  · obtain ⟨p1, p2⟩ := p
    obtain ⟨q1, q2, q3⟩ := hp
    dsimp only at q1 q2 q3
    unfold X11_inWords_b14
    dsimp only
    rw [pm_len, Option.bind_some]
    by_cases l : i < 28
    · obtain ⟨k1, k2, k3, k4, k5⟩ := pu_kp1 i l
      have b25 := pm_b25 (σ := σ) 12 (pu_kp.getD i 0) p2 q2 k2 k3
      generalize pu_kp.getD i 0 = p at q2 k1 k2 k3 k4 k5 b25
      generalize pu_ke 12 p = E at k1 k2 k3 k4 k5 b25
      rw [if_pos (by omega), b25, Option.bind_some, h14, h13, pu_w (x := ((E : Nat) : Int) - p2) (by omega) (by omega), pu_w (x := e - s) (by omega) (by omega)]
      have step : ∀ b : Prop, (b ↔ pu_wl pu_KC ((p : Nat) : Int) (E - p) = pu_wl T s (e - s).toNat) → ((∃ e', X11_inWords_j115 σ p1 (E : Int) (pu_i b) = some (.inr e') ∧ ((∃ n : Nat, n < 28 ∧ e' = .inl (n : Int) ∧ pu_kw[pu_cl.getD n 0]? = some (pu_wl T s (e - s).toNat)) ∨ e' = .inr () ∧ ∀ a : Nat, a < 28 → pu_kw[pu_cl.getD a 0]? ≠ some (pu_wl T s (e - s).toNat))) ∨ (i < 28 ∧ ∃ s', X11_inWords_j115 σ p1 (E : Int) (pu_i b) = some (.inl s') ∧ s'.1 = ((i + 1 : Nat) : Int) ∧ s'.2 = ((pu_kp.getD (i + 1) 0 : Nat) : Int) ∧ ∀ a : Nat, a < i + 1 → pu_kw[pu_cl.getD a 0]? ≠ some (pu_wl T s (e - s).toNat))) := fun b hb => by
        unfold X11_inWords_j115
        by_cases y : b
        · rw [pu_i_p y, if_neg (show ¬ ((1 : Int) = 0) by decide)]
          exact Or.inl ⟨_, rfl, Or.inl ⟨i, l, by rw [q1], by rw [k5, hb.mp y]⟩⟩
        · rw [pu_i_n y, if_pos rfl, pu_lt, pu_lt, pu_w (x := p1 + 1) (by omega) (by omega), pu_w (by omega) (by omega)]
          refine Or.inr ⟨l, _, rfl, by dsimp only; omega, by dsimp only; omega, fun a ha g => ?_⟩
          by_cases u : a = i
          · rw [u, k5] at g
            injection g with g
            exact y (hb.mpr g)
          · exact q3 a (by omega) g
      by_cases z : ((E : Nat) : Int) - p2 = e - s
      · rw [if_pos z]
        unfold X11_inWords_j63
        have b68 := pm_b68 (σ := σ) (T := T) (L := L) (s := s) (k := p) (n := E - p) (t := p2) (j9 := ((E : Nat) : Int)) hh h13 s0 q2 (by omega) (by omega) (by omega) (fun j x y => ha j x (by omega))
        rw [b68, Option.bind_some]
        exact step _ (by rw [show E - p = (e - s).toNat by omega])
      · rw [if_neg z]
        unfold X11_inWords_j63
        have b68 : jq_lp (X11_inWords_b68 σ p2 ((E : Nat) : Int)) (0, p2) = some 0 := by
          refine jq_lp_inr ?_
          unfold X11_inWords_b68
          dsimp only
          rw [if_pos (by omega), if_pos rfl]
        rw [b68, Option.bind_some]
        have := step False ⟨fun g => g.elim, fun g => pu_wl_ne (show E - p ≠ (e - s).toNat by omega) g⟩
        rw [pu_i_n (fun g : False => g)] at this
        exact this
    · have e28 : i = 28 := by omega
      rw [e28] at q2 q3
      rw [if_neg (by rw [q2]; decide)]
      exact Or.inl ⟨_, rfl, Or.inr ⟨rfl, q3⟩⟩
  · rw [h1]
    rcases hk with ⟨hk, hn⟩ | ⟨j, hj, hk, hw⟩
    · rcases h2 with ⟨n, n1, n2, n3⟩ | ⟨n1, n2⟩
      · exact absurd n3 (hn _ (pu_cl1 n n1).1)
      · rw [n1, hk]
        rfl
    · have c := pu_cl1 j hj
      have ek : pu_ri k = ((pu_rl.getD j 0 : Nat) : Int) := by
        unfold pu_ri
        rw [if_neg (by omega), hk, Int.toNat_natCast]
      rcases h2 with ⟨n, n1, n2, n3⟩ | ⟨n1, n2⟩
      · have d := pu_cl1 n n1
        have := pu_kw_d _ d.1 _ hj (n3.trans hw.symm)
        rw [n2, ek, ← this, d.2.1]
        rfl
      · exact absurd (by rw [c.2.2.2]; exact hw) (n2 _ c.2.2.1)
theorem pm_inWords (h : pu_rd T L m1 m2) : X11_inWords m2 = some (pu_ri (m1 2 11)) := by
  obtain ⟨h1, h2, s, e, s0, se, a1, a2, a3, a4, h3⟩ := h
  have no : m2 0 12 ≠ 2 → m1 2 11 = -1 → X11_inWords m2 = some (pu_ri (m1 2 11)) := fun x y => by
    unfold X11_inWords
    rw [if_neg x, y]
    rfl
  rcases h3 with ⟨b1, b2, b3, b4⟩ | ⟨b1, b2, b3, b4, b5⟩ | ⟨b1, b2, b3, b4, b5⟩ | ⟨b1, b2, b3, b4, b5⟩ | ⟨b1, b2, b3, b4, b5⟩
  · exact no (by omega) b3
  · exact pm_words h2 b2 a2 a4 s0 b3 b4 b5.1
  · exact no (by omega) b4
  · exact no (by omega) b4
  · exact no (by omega) b4
theorem pu_kk_b (h : pu_kk w x) : -1 ≤ x ∧ x < 28 := by
  rcases h with ⟨a, -⟩ | ⟨i, a, b, -⟩ <;> omega
theorem pu_ri_n (h0 : 0 ≤ x) : 0 ≤ pu_ri x := by
  unfold pu_ri
  rw [if_neg (by omega)]
  omega
theorem pm_isName (h : pu_rd T L m1 m2) : X11_isName m2 = some (m1 2 10) := by
  have iw := pm_inWords h
  obtain ⟨h1, h2, s, e, s0, se, a1, a2, a3, a4, h3⟩ := h
  have no : m2 0 12 ≠ 2 → m1 2 10 = 0 → X11_isName m2 = some (m1 2 10) := fun x y => by
    unfold X11_isName
    rw [if_neg x, y]
  rcases h3 with ⟨b1, b2, b3, b4⟩ | ⟨b1, b2, b3, b4, b5⟩ | ⟨b1, b2, b3, b4, b5, -⟩ | ⟨b1, b2, b3, b4, b5, -⟩ | ⟨b1, b2, b3, b4, b5⟩
  · exact no (by omega) b4
  · have f := h2.2.1
    have f4 := h2.2.2.2.2
    have f5 := h1.2.2.2.1
    obtain ⟨c1, c2⟩ := b5
    have kb := pu_kk_b c1
    rw [pu_wl_l] at c2
    unfold X11_isName
    rw [if_pos b2, a2, a4, pu_w (x := e - s) (by omega) (by omega)]
    rcases c2 with ⟨d1, d2, d3, d4⟩ | ⟨d1, d2⟩
    · rw [if_neg (by omega), iw, Option.bind_some, d3, if_pos (show pu_ri (-1) = -1 from rfl), d1]
    · by_cases z : 8 < e - s
      · rw [if_pos z, d1]
      · rw [if_neg z, iw, Option.bind_some]
        have := pu_ri_n (x := m1 2 11) (by omega)
        rw [if_neg (by omega), d1]
  · exact no (by omega) b5
  · exact no (by omega) b5
  · exact no (by omega) b5
/-- the NAME that stands here -/
theorem pm_nameHere (h : pu_rd T L m1 m2) (hn : m1 2 10 = 1) : ∃ w, pu_wd w ∧ m1 2 9 = pu_c5 w ∧ X11_nameHere m2 = some (pu_c8 w) := by
  obtain ⟨h1, h2, s, e, s0, se, a1, a2, a3, a4, h3⟩ := h
  obtain ⟨f1, f2, f3, f4⟩ := h2
  have f5 := h1.2.2.2.1
  rcases h3 with ⟨b1, b2, b3, b4⟩ | ⟨b1, b2, b3, b4, b5⟩ | ⟨b1, b2, b3, b4, b5, -⟩ | ⟨b1, b2, b3, b4, b5, -⟩ | ⟨b1, b2, b3, b4, b5⟩
  · omega
  · obtain ⟨c1, c2⟩ := b5
    rw [pu_wl_l] at c2
    rcases c2 with ⟨d1, d2, d3, d4⟩ | ⟨d1, d2⟩
    · have wm := pu_wl_m (T := T) (s := s) (e - s).toNat (fun j x y => b4 j x (by omega))
      refine ⟨pu_wl T s (e - s).toNat, ⟨by rw [pu_wl_l]; exact d2, fun g => ?_, wm⟩, d4, ?_⟩
      · have := congrArg List.length g
        rw [pu_wl_l, List.length_nil] at this
        omega
      · unfold X11_nameHere
        rw [pu_lt, a2]
        refine pu_lpE (f := X11_nameHere_b7 m2) (s := ((0 : Int), s)) (fun i p => p.2 = s + (i : Int) ∧ p.1 = pu_c8 (pu_wl T s i)) (fun r => r = pu_c8 (pu_wl T s (e - s).toNat)) (e - s).toNat ⟨by dsimp only; omega, rfl⟩ (fun i p hp hi => ?_) (fun r h1 h2 => by rw [h1, h2]; rfl)
        obtain ⟨p1, p2⟩ := p
        obtain ⟨q1, q2⟩ := hp
        dsimp only at q1 q2
        unfold X11_nameHere_b7
        dsimp only
        rw [a4]
        by_cases z : p2 < e
        · have by' := pm_by (σ := m2) (T := T) (L := L) (p := p2) f1 f2 f3 (by omega)
          have lt := b4 p2 (by omega) z
          unfold pu_sm at lt
          rw [if_pos (by omega), show pu_by (T p2) = T p2 from if_neg (by omega)] at by'
          have cb := pu_c8_b _ (pu_wl_m (T := T) (s := s) i (fun j x y => b4 j x (by omega)))
          rw [pu_wl_l, ← q2] at cb
          have cb2 : p1 < 36028797018963968 := by
            have : (256 : Int) ^ (i - 1) ≤ 281474976710656 := by
              rcases (show i - 1 = 0 ∨ i - 1 = 1 ∨ i - 1 = 2 ∨ i - 1 = 3 ∨ i - 1 = 4 ∨ i - 1 = 5 ∨ i - 1 = 6 by omega) with g | g | g | g | g | g | g <;> rw [g] <;> decide
            omega
          rw [if_pos z, by', Option.bind_some, pu_shl8 cb.1 cb2, pu_lor8 cb.1 cb2 (by omega) (by omega), pu_lt, pu_lt, pu_w (by omega) (by omega)]
          refine Or.inr ⟨by omega, _, rfl, by dsimp only; omega, ?_⟩
          show p1 * 256 + T p2 = pu_c8 (pu_wl T s i) * 256 + T (s + (i : Int))
          rw [← q2, q1]
        · rw [if_neg z]
          exact Or.inl ⟨_, rfl, by rw [q2, show i = (e - s).toNat by omega]⟩
    · omega
  · omega
  · omega
  · omega
end
