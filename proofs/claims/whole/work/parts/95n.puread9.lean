section
variable {T : Int → Int} {L s e x v : Int} {m m1 m2 m3 σ τ τ1 τ2 : jq_M} {o f k lo hi to : Int} {A B N : Int → Int}
theorem pu_o0_s {a b : jq_M} {i : Int} (hk : k ≠ 0) (h : pu_o0 a b) : pu_o0 (jq_st a k i x) (jq_st b k i x) := by
  refine ⟨fun j hj => ?_, fun j hj => by rw [pu_st_ne (fun g => hk g.symm), pu_st_ne (fun g => hk g.symm)]; exact h.2 j hj⟩
  funext q
  unfold jq_st
  rw [h.1 j hj]
theorem pm_there {r : Int} (h : pu_lv T L m1 m2) (k0 : 0 ≤ k) (k1 : k < 28) (hr : r = pu_ri k) : (m1 2 11 = k ∧ X11_isThere r m2 = (X11_ahead m2).bind fun s2 => some (1, s2)) ∨ m1 2 11 ≠ k ∧ X11_isThere r m2 = some (0, m2) := by
  obtain ⟨-, -, -, -, -, -, -, -, -, -, -, -, p1, p2, -⟩ := pu_tk_p h.1
  have ii := pu_ri_i p1.1 p1.2 (show -1 ≤ k by omega) k1
  unfold X11_isThere
  rw [pm_inWords h.1, Option.bind_some, hr]
  by_cases z : m1 2 11 = k
  · exact Or.inl ⟨z, by rw [if_pos (ii.mpr z)]⟩
  · exact Or.inr ⟨z, by rw [if_neg (fun g => z (ii.mp g))]⟩
def pu_nwm (m2 τ2 : jq_M) (i v : Int) : Prop := ∃ w, pu_wd w ∧ v = pu_c5 w ∧ pu_o0 (jq_st m2 2 i (pu_c8 w)) τ2
/-- a NAME that no one has -/
theorem pa_newOne {p1 p2 p3 n : Int} (ho : o = 5 ∨ o = 25) (hl : pu_lv T L m1 m2) (hb : pu_bd o m1 m2) (hk : m1 2 5 ≠ 0) (hp : p1 = 1 ∧ p3 = 0 ∨ p1 = 3 ∧ p3 = 5) (hn : n = m2 1 (2024 + p1)) (h0 : 0 ≤ n) (h8 : n < 8) (hn2 : n < p2) : ∃ u1 v τ1 τ2 g, X5_next m1 = some u1 ∧ pu_o2 m1 u1 ∧ X5_takeNewName o u1 = some (v, τ1) ∧ pu_o2 u1 τ1 ∧ X11_newOne p1 p2 p3 m2 = some (g, τ2) ∧ pu_rr T L m1 m2 τ1 τ2 g ∧ (g = 1 → pu_nwm m2 τ2 (52 + p3 + n) v) ∧ (g = 0 → pu_o0 m2 τ2) := by
  obtain ⟨hI, hC, hN, hz, h13⟩ := id hb
  obtain ⟨i0, i1, i2, i3, -⟩ := hI
  have b1' : m1 o 2 = m2 1 2025 := hC.1.2.2.1
  have b3' : m1 o 4 = m2 1 2027 := hC.1.2.2.2.2.1
  have i1' : 0 ≤ m2 1 2025 ∧ m2 1 2025 ≤ 5 ∧ m2 1 2025 ≤ m2 1 2024 := i1
  have i3' : 0 ≤ m2 1 2027 ∧ m2 1 2027 ≤ 8 := i3
  obtain ⟨u1, u2, a1, a2, a3, a4, a5, a6, a7⟩ := pa_adv hl
  have um : u2 1 = m2 1 := a5.1 1 (by omega)
  have um2 : u2 2 = m2 2 := a5.1 2 (by omega)
  have uo : ∀ k, k ≠ 2 → u1 k = m1 k := a4.1
  have nm := pm_isName a3.1
  obtain ⟨-, -, -, -, -, -, -, -, -, -, -, -, -, -, q1⟩ := pu_tk_p a3.1
  have rw1 : X11_newOne p1 p2 p3 m2 = (X11_isName u2).bind fun v3 => if v3 = 0 then jq_b2 (X11_fails 2 u2) fun v17 s18 => some (v17, s18) else (jq_ld u2 1 3174 2025).bind fun v5 => (X11_findHere 52 v5 u2).bind fun v6 => if v6 = (-1) then (jq_ld u2 1 3174 2027).bind fun v11 => (X11_findHere 57 v11 u2).bind fun v12 => if v12 = (-1) then (jq_ld u2 1 3174 (jq_w (2024 + p1))).bind fun v13 => (X11_nameHere u2).bind fun v14 => (jq_sa u2 2 78 (jq_w ((jq_w (52 + p3)) + v13)) v14).bind fun s15 => (X11_ahead s15).bind fun s16 => some (1, s16) else X11_newOne_j76 u2 else X11_newOne_j76 u2 := by
    unfold X11_newOne
    rw [pu_w (x := 2024 + p1) (by omega) (by omega), pu_ld (by omega) (by omega), Option.bind_some, if_pos (by omega), a2]
    rfl
  have tn : X5_takeNewName o u1 = if u1 2 10 = 0 then (X5_blame 2 u1).bind fun s12 => X5_takeNewName_j49 (u1 2 9) s12 else (X1_partyNamed o (u1 2 9) u1).bind fun v4 => if v4 = (-1) then (X1_articleNamed o (u1 2 9) u1).bind fun v11 => if v11 = (-1) then X5_takeNewName_j49 (u1 2 9) u1 else X5_takeNewName_j44 (u1 2 9) u1 else X5_takeNewName_j44 (u1 2 9) u1 := rfl
  rw [rw1, nm, Option.bind_some]
  by_cases z : u1 2 10 = 0
  · obtain ⟨k1, k2, c1, c2, c3, c4, c5⟩ := pa_blame (f := 2) a3 (by decide)
    obtain ⟨ω, d1, d2, d3⟩ := ps_nextd c3
    refine ⟨u1, u1 2 9, ω, k2, 0, a1, a4, ?_, pu_o2_t c4 d3, ?_, Or.inr ⟨rfl, d2⟩, fun q => absurd q (by decide), fun _ => pu_o0_t a5 c5⟩
    · rw [tn, if_pos z, c1, Option.bind_some]
      unfold X5_takeNewName_j49
      rw [d1]
      rfl
    · rw [if_pos z, c2]
      rfl
  · obtain ⟨w, w1, w2, w3⟩ := pm_nameHere a3.1 (by omega)
    have fp := pm_findHere (σ := u2) (base := 52) (n := m2 1 2025) w3 (by omega) (by omega) (by omega)
    have fa := pm_findHere (σ := u2) (base := 57) (n := m2 1 2027) w3 (by omega) (by omega) (by omega)
    have cp := ps_partyNamed (σ := u1) (x := pu_c5 w) (o := o) (by rw [uo o (by omega)]; omega) (by rw [uo o (by omega)]; omega)
    have ca := ps_articleNamed (σ := u1) (x := pu_c5 w) (o := o) (by rw [uo o (by omega)]; omega) (by rw [uo o (by omega)]; omega)
    rw [uo o (by omega), uo (o + 1) (by omega), b1', pu_who_nm (N := fun k => u2 2 (52 + k)) w1 _ (fun p x y => by
      rw [um2]
      exact hN.1 p x (by show p < m2 1 2025; omega))] at cp
    rw [uo o (by omega), uo (o + 8) (by omega), b3', pu_who_nm (N := fun k => u2 2 (57 + k)) w1 _ (fun p x y => by
      rw [um2, show 57 + p = 52 + (5 + p) by omega]
      exact hN.2 p x (by show p < m2 1 2027; omega))] at ca
    have bad : (∃ τ1 : jq_M, True) → (∃ u1' v τ1 τ2 g, X5_next m1 = some u1' ∧ pu_o2 m1 u1' ∧ X5_takeNewName_j44 (u1 2 9) u1 = some (v, τ1) ∧ pu_o2 u1' τ1 ∧ X11_newOne_j76 u2 = some (g, τ2) ∧ pu_rr T L m1 m2 τ1 τ2 g ∧ (g = 1 → pu_nwm m2 τ2 (52 + p3 + n) v) ∧ (g = 0 → pu_o0 m2 τ2)) := fun _ => by
      obtain ⟨k1, k2, c1, c2, c3, c4, c5⟩ := pa_blame (f := 3) a3 (by decide)
      obtain ⟨ω, d1, d2, d3⟩ := ps_nextd c3
      refine ⟨u1, u1 2 9, ω, k2, 0, a1, a4, ?_, pu_o2_t c4 d3, ?_, Or.inr ⟨rfl, d2⟩, fun q => absurd q (by decide), fun _ => pu_o0_t a5 c5⟩
      · unfold X5_takeNewName_j44 X5_takeNewName_j49
        rw [c1, Option.bind_some, d1]
        rfl
      · unfold X11_newOne_j76
        rw [c2]
        rfl
    have bad2 := bad ⟨m1, trivial⟩
    clear bad
    rw [if_neg z, pu_ld (by omega) (by omega), Option.bind_some, um, fp, Option.bind_some]
    obtain ⟨u1', v, τ1, τ2, g, e1, e2, e3, e4, e5, e6, e7, e8⟩ := bad2
    have eu : u1' = u1 := by rw [a1] at e1; injection e1 with e; exact e.symm
    subst eu
    by_cases y : pu_who (fun k => u2 2 (52 + k)) (pu_c8 w) (m2 1 2025).toNat = -1
    · rw [if_pos y, pu_ld (by omega) (by omega), Option.bind_some, um, fa, Option.bind_some]
      by_cases x : pu_who (fun k => u2 2 (57 + k)) (pu_c8 w) (m2 1 2027).toNat = -1
      · clear e3 e4 e5 e6 e7 e8
        rw [if_pos x, pu_w (x := 2024 + p1) (by omega) (by omega), pu_ld (by omega) (by omega), Option.bind_some, um, ← hn, w3, Option.bind_some, pu_w (x := 52 + p3) (by omega) (by omega), pu_w (x := 52 + p3 + n) (by omega) (by omega), pu_sa (by omega) (by omega), Option.bind_some]
        have l2 : pu_lv T L u1' (jq_st u2 2 (52 + p3 + n) (pu_c8 w)) := a3.mv rfl rfl rfl (pu_st_ne (by omega)) (pu_st_ne (by omega))
        obtain ⟨k1, k2, f1, f2, f3, f4, f5, f6, f7⟩ := pa_adv l2
        refine ⟨u1', u1' 2 9, k1, k2, 1, a1, a4, ?_, f4, by rw [f2]; rfl, Or.inl ⟨rfl, f3, by have := a7 hk; omega⟩, fun _ => ⟨w, w1, w2, pu_o0_t (pu_o0_s (by decide) a5) f5⟩, fun q => absurd q (by decide)⟩
        rw [tn, if_neg z, w2, cp, Option.bind_some, if_pos y, ca, Option.bind_some, if_pos x]
        unfold X5_takeNewName_j49
        rw [f1]
        rfl
      · rw [if_neg x]
        refine ⟨u1', v, τ1, τ2, g, a1, a4, ?_, e4, e5, e6, e7, e8⟩
        rw [tn, if_neg z, w2, cp, Option.bind_some, if_pos y, ca, Option.bind_some, if_neg x, ← w2]
        exact e3
    · rw [if_neg y]
      refine ⟨u1', v, τ1, τ2, g, a1, a4, ?_, e4, e5, e6, e7, e8⟩
      rw [tn, if_neg z, w2, cp, Option.bind_some, if_neg y, ← w2]
      exact e3
theorem ps_newNamed (ho : o = 5 ∨ o = 25) (hl : pu_dd T L m1 m2) (h2 : 0 ≤ m1 o 2 ∧ m1 o 2 ≤ 5) (h4 : 0 ≤ m1 o 4 ∧ m1 o 4 ≤ 8) : ∃ v τ1, X5_takeNewName o m1 = some (v, τ1) ∧ pu_dd T L τ1 m2 ∧ pu_o2 m1 τ1 := by
  obtain ⟨ω, d1, d2, d3⟩ := ps_nextd hl
  refine ⟨m1 2 9, ω, ?_, d2, d3⟩
  unfold X5_takeNewName X5_takeNewName_j44 X5_takeNewName_j49
  rw [pu_lt, pu_lt, ps_partyNamed h2.1 h2.2, ps_articleNamed h4.1 h4.2, ps_blamed hl, ps_blamed hl, Option.bind_some, Option.bind_some, Option.bind_some, d1]
  split
  · rfl
  · split
    · split <;> rfl
    · rfl
end
