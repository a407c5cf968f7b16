section
variable {A S S' : Int → Int} {κ m m1 m2 τ1 τ2 σ σ1 σ2 : jq_M} {o n v x k a b f p mv K P l y s T : Int}
theorem pu_cand_all (hI : pu_inv (κ 1)) (ha : 0 ≤ a) (ha1 : a < κ 1 1) (hb : 0 ≤ b) (hb1 : b < κ 1 1) (hT3 : T ≤ 3) : ∀ t : Nat, pu_cand κ a b T t := by
  have i0 := hI.1
  have i1 := hI.2.1
  have sub : ∀ (f v : Int) (S : Int → Int), pu_okr (κ 1 1) (κ 1 0) S → 0 ≤ S a → 0 ≤ S b → 0 ≤ v → ∃ S', (∀ q, (if v < κ 1 0 then pu_sh S (pu_mo a b f) v else S) q = S' q) ∧ pu_okr (κ 1 1) (κ 1 0) S' ∧ 0 ≤ S' a ∧ 0 ≤ S' b ∧ ∀ t, pu_vl (κ 1) a b t f S v = pu_bl (κ 1) a b t (1 - f) S' := by
    intro f v S hk sa sb v0
    have mo : 0 ≤ pu_mo a b f ∧ pu_mo a b f < κ 1 1 ∧ 0 ≤ S (pu_mo a b f) := by
      unfold pu_mo
      split
      · exact ⟨hb, hb1, sb⟩
      · exact ⟨ha, ha1, sa⟩
    by_cases z : v < κ 1 0
    · exact ⟨pu_sh S (pu_mo a b f) v, fun q => by rw [if_pos z], pu_sh_ok hk v0 z mo.1 mo.2.1, pu_sh_sat mo.2.2 v0 sa, pu_sh_sat mo.2.2 v0 sb, fun t => if_pos z⟩
    · exact ⟨S, fun q => by rw [if_neg z], hk, sa, sb, fun t => if_neg z⟩
  have home : ∀ (t : Nat) (l f v s : Int) (S : Int → Int) (m : jq_M), 0 ≤ l → l < 3 → pu_lf l f → pu_okr (κ 1 1) (κ 1 0) S → pu_hd κ l S v s m → 0 ≤ v → v ≤ κ 1 0 → v = S (pu_mo a b f) → ∃ m', jq_lp (X11_playing_b54 a b T) (l, m) = jq_lp (X11_playing_b54 a b T) (l, m') ∧ pu_hd κ l S (v + 1) (pu_rs (κ 1) a b t f S v s) m' ∧ pu_lo l m m' ∧ (l ≠ 0 → m' 0 27 = m 0 27) ∧ (l = 0 → (pu_nw a b t f (κ 1) S v s → m' 0 27 = v) ∧ (¬ pu_nw a b t f (κ 1) S v s → m' 0 27 = m 0 27)) := by
    intro t l f v s S m l0 l1 hf hk ⟨h1, h2, h3, h4⟩ v0 v1 z
    obtain ⟨hh, -, -⟩ := pm_head (T := T) (S := S) hI h1 hk l0 l1 hf ha ha1 hb hb1 h2 (v := v) v0 h3
    obtain ⟨υ, g1, g2, g3, g4, g5, g6, g7⟩ := hh v1 z
    refine ⟨υ, jq_lp_inl g1, ⟨g2, fun q a b => by rw [g3, h2 q a b], by rw [g6]; omega, ?_⟩, ⟨fun j hj => g5 j (by omega), fun j _ => by rw [g4], fun j _ => by rw [g3]⟩, fun _ => by rw [g7], fun _ => ⟨fun w => absurd z w.1, fun _ => by rw [g7]⟩⟩
    unfold pu_rs
    rw [if_pos z, g4, h4]
  intro t
  induction t with
  | zero =>
    intro l f v s S m l0 hT hf hk sa sb hm v0 v1
    by_cases z : v = S (pu_mo a b f)
    · exact home 0 l f v s S m l0 (by omega) hf hk hm v0 v1 z
    · obtain ⟨h1, h2, h3, h4⟩ := hm
      obtain ⟨-, hl, -⟩ := pm_head (T := T) (S := S) hI h1 hk l0 (by omega) hf ha ha1 hb hb1 h2 (v := v) v0 h3
      obtain ⟨υ, g1, g2, g3, g4, g5, g6, g7, g8⟩ := hl v1 z
      obtain ⟨S', b1, b2, b3, b4, b5⟩ := sub f v S hk sa sb v0
      have e1 : υ 1 = κ 1 := g2.1 1 (by omega) (by omega) (by omega) (by omega) (by omega)
      have w1 := pu_worth_b hI (S := S') (p := a)
      have w2 := pu_worth_b hI (S := S') (p := b)
      have wa : X11_worthOf a υ = some (pu_worth (κ 1) S' a) := by
        rw [pm_worthOf (by rw [e1]; exact hI), e1, pu_worth_cg hI (S := υ 9) (S' := S') (fun q q0 q1 => by rw [g8 q q0 q1, b1 q])]
      have wb : X11_worthOf b υ = some (pu_worth (κ 1) S' b) := by
        rw [pm_worthOf (by rw [e1]; exact hI), e1, pu_worth_cg hI (S := υ 9) (S' := S') (fun q q0 q1 => by rw [g8 q q0 q1, b1 q])]
      have hy : pu_vl (κ 1) a b 0 f S v = pu_worth (κ 1) S' a - pu_worth (κ 1) S' b := b5 0
      obtain ⟨τ, c1, c2, c3, c4, c5, c6, c7⟩ := pm_weighs (m := υ) (l := l) (f := f) (y := pu_vl (κ 1) a b 0 f S v) l0 (by omega) hf
      have st : X11_playing_b54 a b T (l, m) = some (.inl (l, τ)) := by
        rw [g1]
        unfold X11_playing_j181
        rw [pu_w (x := l + 1) (by omega) (by omega), if_neg (by omega), wa, Option.bind_some, wb, Option.bind_some, pu_w (by omega) (by omega), ← hy, c1, Option.bind_some]
      refine ⟨τ, jq_lp_inl st, ⟨⟨fun k p q r s t => by rw [c2 k p s, g2.1 k p q r s t], fun j hj => by rw [c3 j hj, g2.2 j hj]⟩, fun q q0 q1 => by rw [c2 12 (by omega) (by omega), g3, h2 q q0 q1], by rw [c2 10 (by omega) (by omega), g6]; omega, ?_⟩, ⟨fun j hj => by rw [c2 10 (by omega) (by omega), g5 j (by omega)], fun j hj => by rw [c4 j (by omega), g4], fun j _ => by rw [c2 12 (by omega) (by omega), g3]⟩, fun w => by rw [c6 w, g7], fun w => ?_⟩
      · unfold pu_rs
        rw [if_neg z, c5, g4, h4]
      · obtain ⟨d1, d2⟩ := c7 w
        subst w
        rw [g4, h4] at d1 d2
        exact ⟨fun q => by rw [d1 q.2, g6], fun q => by rw [d2 (fun r => q ⟨z, r⟩), g7]⟩
  | succ t ih =>
    have fu := pu_full_of hI ha ha1 hb hb1 hT3 ih
    intro l f v s S m l0 hT hf hk sa sb hm v0 v1
    by_cases z : v = S (pu_mo a b f)
    · exact home (t + 1) l f v s S m l0 (by omega) hf hk hm v0 v1 z
    · obtain ⟨h1, h2, h3, h4⟩ := hm
      obtain ⟨-, hl, -⟩ := pm_head (T := T) (S := S) hI h1 hk l0 (by omega) hf ha ha1 hb hb1 h2 (v := v) v0 h3
      obtain ⟨υ, g1, g2, g3, g4, g5, g6, g7, g8⟩ := hl v1 z
      obtain ⟨S', b1, b2, b3, b4, b5⟩ := sub f v S hk sa sb v0
      obtain ⟨ω, d1, d2, d3, d4⟩ := pm_keepsSeats (m := jq_st (jq_st υ 10 (l + 1) (-1)) 11 (l + 1) 1000000) (l := l + 1) (by omega) (by omega)
      have st : X11_playing_b54 a b T (l, m) = some (.inl (l + 1, ω)) := by
        rw [g1]
        unfold X11_playing_j181
        rw [pu_w (x := l + 1) (by omega) (by omega), if_pos (by omega), pu_lt, pu_sa (by omega) (by omega), Option.bind_some, pu_sa (by omega) (by omega), Option.bind_some, d1, Option.bind_some]
      have w10 : ω 10 = jq_st υ 10 (l + 1) (-1) 10 := (d2 10 (by omega)).trans (pu_st_ne (by omega))
      have w11 : ∀ j, j ≠ l + 1 → ω 11 j = υ 11 j := fun j hj => by rw [d2 11 (by omega), pu_st_b hj, pu_st_ne (by omega)]
      have w0 : ω 0 = υ 0 := (d2 0 (by omega)).trans ((pu_st_ne (by omega)).trans (pu_st_ne (by omega)))
      have hd : pu_hd κ (l + 1) S' 0 1000000 ω := by
        refine ⟨⟨fun k p q r s t => by rw [d2 k t, pu_st_ne s, pu_st_ne r, g2.1 k p q r s t], fun j hj => by rw [w0, g2.2 j hj]⟩, fun q q0 q1 => ?_, by rw [w10, pu_st_a]; rfl, by rw [d2 11 (by omega), pu_st_a]⟩
        rw [d3 q q0 (by omega), pu_st_ne (show (9 : Int) ≠ 11 by omega), pu_st_ne (show (9 : Int) ≠ 10 by omega), g8 q q0 q1, b1 q]
      obtain ⟨τ, c1, c2, c3, c4, c5, c6, c7, c8⟩ := fu (l + 1) (1 - f) S' ω (by omega) (by omega) (pu_lf_n hf).2 b2 b3 b4 hd
      rw [show l + 1 - 1 = l by omega] at c1 c5 c6 c7 c8
      rw [show 1 - (1 - f) = f by omega, ← b5 (t + 1)] at c6 c8
      refine ⟨τ, by rw [jq_lp_inl st, c1], ⟨c2, fun q q0 q1 => ?_, ?_, ?_⟩, ⟨fun j hj => ?_, fun j hj => ?_, fun j hj => ?_⟩, fun w => by rw [c7 w, w0, g7], fun w => ?_⟩
      · rw [c4 _ (by omega), d4 _ (by omega), pu_st_ne (show (12 : Int) ≠ 11 by omega), pu_st_ne (show (12 : Int) ≠ 10 by omega), g3, h2 q q0 q1]
      · rw [c3 l (by omega), w10, pu_st_b (by omega), g6]
        omega
      · unfold pu_rs
        rw [if_neg z, c6, w11 l (by omega), g4, h4]
      · rw [c3 j (by omega), w10, pu_st_b (by omega), g5 j (by omega)]
      · rw [c5 j hj, w11 j (by omega), g4]
      · rw [c4 j (by omega), d4 j (by omega), pu_st_ne (show (12 : Int) ≠ 11 by omega), pu_st_ne (show (12 : Int) ≠ 10 by omega), g3]
      · obtain ⟨x1, x2⟩ := c8 w
        subst w
        rw [w11 0 (by omega), g4, h4, w10, pu_st_b (show (0 : Int) ≠ 0 + 1 by omega), g6] at x1
        rw [w11 0 (by omega), g4, h4, w0, g7] at x2
        exact ⟨fun q => x1 q.2, fun q => x2 (fun r => q ⟨z, r⟩)⟩
end
