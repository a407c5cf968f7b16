section
variable {A S S' : Int → Int} {κ m m1 m2 τ1 τ2 σ σ1 σ2 : jq_M} {o n v x k a b f p mv K P l y s T : Int}
def pu_hd (κ : jq_M) (l : Int) (S : Int → Int) (v s : Int) (m : jq_M) : Prop := pu_gf κ m ∧ (∀ q, 0 ≤ q → q < κ 1 1 → m 12 (5 * l + q) = S q) ∧ m 10 l = v - 1 ∧ m 11 l = s
def pu_lo (l : Int) (m m' : jq_M) : Prop := (∀ j, j < l → m' 10 j = m 10 j) ∧ (∀ j, j < l → m' 11 j = m 11 j) ∧ ∀ j, j < 5 * l → m' 12 j = m 12 j
def pu_lf (l f : Int) : Prop := f = 1 ∧ l % 2 = 0 ∨ f = 0 ∧ l % 2 = 1
/-- the PLACE that is told: anew, or as before -/
def pu_nw (a b : Int) (t : Nat) (f : Int) (A S : Int → Int) (v s : Int) : Prop := v ≠ S (pu_mo a b f) ∧ pu_wn f s (pu_vl A a b t f S v)
def pu_cand (κ : jq_M) (a b T : Int) (t : Nat) : Prop := ∀ (l f v s : Int) (S : Int → Int) (m : jq_M), 0 ≤ l → l + ((t : Int) + 1) = T → pu_lf l f → pu_okr (κ 1 1) (κ 1 0) S → 0 ≤ S a → 0 ≤ S b → pu_hd κ l S v s m → 0 ≤ v → v ≤ κ 1 0 → ∃ m', jq_lp (X11_playing_b54 a b T) (l, m) = jq_lp (X11_playing_b54 a b T) (l, m') ∧ pu_hd κ l S (v + 1) (pu_rs (κ 1) a b t f S v s) m' ∧ pu_lo l m m' ∧ (l ≠ 0 → m' 0 27 = m 0 27) ∧ (l = 0 → (pu_nw a b t f (κ 1) S v s → m' 0 27 = v) ∧ (¬ pu_nw a b t f (κ 1) S v s → m' 0 27 = m 0 27))
noncomputable def pu_ff (A : Int → Int) (a b : Int) (t : Nat) (f : Int) (S : Int → Int) (c : Int) : Nat → Int
  | 0 => c
  | n + 1 => pu_if (pu_nw a b t f A S (n : Int) (pu_rf A a b t f S n)) (n : Int) (pu_ff A a b t f S c n)
theorem pu_iter {t : Nat} (hc : pu_cand κ a b T t) (l0 : 0 ≤ l) (hT : l + ((t : Int) + 1) = T) (hf : pu_lf l f) (hk : pu_okr (κ 1 1) (κ 1 0) S) (sa : 0 ≤ S a) (sb : 0 ≤ S b) (hm : pu_hd κ l S 0 1000000 m) : ∀ n : Nat, (n : Int) ≤ κ 1 0 + 1 → ∃ m', jq_lp (X11_playing_b54 a b T) (l, m) = jq_lp (X11_playing_b54 a b T) (l, m') ∧ pu_hd κ l S (n : Int) (pu_rf (κ 1) a b t f S n) m' ∧ pu_lo l m m' ∧ (l ≠ 0 → m' 0 27 = m 0 27) ∧ (l = 0 → m' 0 27 = pu_ff (κ 1) a b t f S (m 0 27) n) := by
  intro n
  induction n with
  | zero => intro _; exact ⟨m, rfl, hm, ⟨fun _ _ => rfl, fun _ _ => rfl, fun _ _ => rfl⟩, fun _ => rfl, fun _ => rfl⟩
  | succ n ih =>
    intro hn
    obtain ⟨m', e1, e2, e3, e4, e5⟩ := ih (by omega)
    obtain ⟨m2, g1, g2, g3, g4, g5⟩ := hc l f (n : Int) (pu_rf (κ 1) a b t f S n) S m' l0 hT hf hk sa sb e2 (by omega) (by omega)
    refine ⟨m2, by rw [e1, g1], g2, ⟨fun j hj => by rw [g3.1 j hj, e3.1 j hj], fun j hj => by rw [g3.2.1 j hj, e3.2.1 j hj], fun j hj => by rw [g3.2.2 j hj, e3.2.2 j hj]⟩, fun z => by rw [g4 z, e4 z], fun z => ?_⟩
    unfold pu_ff
    by_cases w : pu_nw a b t f (κ 1) S (n : Int) (pu_rf (κ 1) a b t f S n)
    · rw [pu_if_p w]
      exact (g5 z).1 w
    · rw [pu_if_n w, (g5 z).2 w]
      exact e5 z
def pu_full (κ : jq_M) (a b T : Int) (t : Nat) : Prop := ∀ (l f : Int) (S : Int → Int) (m : jq_M), 1 ≤ l → l + ((t : Int) + 1) = T → pu_lf l f → pu_okr (κ 1 1) (κ 1 0) S → 0 ≤ S a → 0 ≤ S b → pu_hd κ l S 0 1000000 m → ∃ m', jq_lp (X11_playing_b54 a b T) (l, m) = jq_lp (X11_playing_b54 a b T) (l - 1, m') ∧ pu_gf κ m' ∧ (∀ j, j < l → m' 10 j = m 10 j) ∧ (∀ j, j < 5 * l → m' 12 j = m 12 j) ∧ (∀ j, j < l - 1 → m' 11 j = m 11 j) ∧ m' 11 (l - 1) = pu_wg (1 - f) (m 11 (l - 1)) (pu_bl (κ 1) a b (t + 1) f S) ∧ (l - 1 ≠ 0 → m' 0 27 = m 0 27) ∧ (l - 1 = 0 → (pu_wn (1 - f) (m 11 0) (pu_bl (κ 1) a b (t + 1) f S) → m' 0 27 = m 10 0) ∧ (¬ pu_wn (1 - f) (m 11 0) (pu_bl (κ 1) a b (t + 1) f S) → m' 0 27 = m 0 27))
theorem pu_lf_n (h : pu_lf l f) : pu_lf (l - 1) (1 - f) ∧ pu_lf (l + 1) (1 - f) := by
  unfold pu_lf at h ⊢
  omega
theorem pu_full_of {t : Nat} (hI : pu_inv (κ 1)) (ha : 0 ≤ a) (ha1 : a < κ 1 1) (hb : 0 ≤ b) (hb1 : b < κ 1 1) (hT3 : T ≤ 3) (hc : pu_cand κ a b T t) : pu_full κ a b T t := by
  intro l f S m l1 hT hf hk sa sb hm
  have i0 := hI.1
  have i1 := hI.2.1
  have hmo : S (pu_mo a b f) < κ 1 0 := by
    unfold pu_mo
    split
    · exact (hk.1 b hb hb1).2
    · exact (hk.1 a ha ha1).2
  obtain ⟨m', e1, ⟨e2, e3, e4, e5⟩, e6, e7, -⟩ := pu_iter hc (by omega) hT hf hk sa sb hm ((κ 1 0).toNat + 1) (by omega)
  rw [pu_rf_eq hI hmo] at e5
  obtain ⟨-, -, hd⟩ := pm_head (T := T) (S := S) hI e2 hk (show 0 ≤ l by omega) (show l < 3 by omega) hf ha ha1 hb hb1 e3 (v := κ 1 0 + 1) (by omega) (by rw [e4]; omega)
  obtain ⟨υ, g1, g2, g3, g4, g5, g6⟩ := hd rfl
  obtain ⟨τ, c1, c2, c3, c4, c5, c6, c7⟩ := pm_weighs (m := υ) (l := l - 1) (f := 1 - f) (y := pu_bl (κ 1) a b (t + 1) f S) (by omega) (by omega) (pu_lf_n hf).1
  rw [if_neg (by omega), pu_ld (by omega) (by omega), Option.bind_some, g4, e5, c1, Option.bind_some] at g1
  refine ⟨τ, by rw [e1, jq_lp_inl g1], ⟨fun k p q r s t => by rw [c2 k p s, g2.1 k p q r s t], fun j hj => by rw [c3 j hj, g2.2 j hj]⟩, fun j hj => by rw [c2 10 (by omega) (by omega), g5 j (by omega), e6.1 j hj], fun j hj => by rw [c2 12 (by omega) (by omega), g3, e6.2.2 j hj], fun j hj => by rw [c4 j (by omega), g4, e6.2.1 j (by omega)], by rw [c5, g4, e6.2.1 (l - 1) (by omega)], fun z => by rw [c6 z, g6, e7 (by omega)], fun z => ?_⟩
  have w := c7 z
  rw [g4, e6.2.1 0 (by omega), g5 0 (by omega), e6.1 0 (by omega), g6, e7 (by omega)] at w
  exact w
end
