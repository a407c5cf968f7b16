section
variable {σ σ1 σ2 τ1 τ2 : jq_M} {o v p n a b c t : Int} {A S : Int → Int}
theorem ps_whySeats (h : pu_TR σ1 σ2 p) (n0 : 0 ≤ n) : X10_whyNoNumbers (64 + 2 * p) 0 n σ1 = some (if σ2 4 p = -1 then 2 else if σ2 4 p < n then 3 else 0) := by
  rw [ps_why h]
  rcases h with ⟨g1, g2⟩ | ⟨g1, g2, g3, g4, -⟩
  · rw [if_pos g2, if_pos g2]
  · rw [if_neg (show ¬ σ2 4 p = -1 by omega), if_neg (show ¬ σ2 4 p = -1 by omega)]
    by_cases q : σ2 4 p < n
    · rw [if_pos q, if_neg (by omega)]
    · rw [if_neg q, if_pos (by omega)]
theorem pr_copySeats {σ1 σ2 : jq_M} (h : jq_Rel σ1 σ2) (w1 : jq_wf jq_zX 132 σ1) (w2 : jq_wf jq_zM 18 σ2) (y1 : jq_lay jq_zX σ1) (y2 : jq_lay jq_zM σ2) {p1 : Int} (hp1 : jq_r p1) : ∃ (r : Int) (σ1' σ2' : jq_M), X10_copySeats p1 σ1 = some (r, σ1') ∧ X11_copySeats p1 σ2 = some (r, σ2') ∧ jq_Rel σ1' σ2' := by
  have hT := fun t (a : 0 ≤ t) (b : t < 4) => pu_TR_of h a b
  have hn : σ1 0 7 = 5 ∨ σ1 0 7 = 25 := by have := h.2.1; omega
  obtain ⟨⟨i0, i1, i2, i3, i4, i5, i6, ip, iq, iw, ia⟩, ⟨⟨c0, c1, c2, c3, c4, c5, c6⟩, cp, cw, ca⟩, cN, cS⟩ := h.2.2.1
  unfold X10_copySeats X10_copySeats_j84 X11_copySeats
  simp only [pm_isTray, Option.bind_some, pu_i_0]
  by_cases q1 : 0 ≤ p1 ∧ p1 ≤ 3
  · have n1 : ¬ ¬ (0 ≤ p1 ∧ p1 ≤ 3) := fun q => q q1
    obtain ⟨a0, a1⟩ := q1
    have e1 := ps_whySeats (n := σ2 1 1) (hT p1 a0 (by omega)) (by omega)
    have n64 : ¬ 64 + 2 * p1 = -1 := by omega
    rw [if_neg n1, pu_ld a0 (by omega), Option.bind_some, Option.bind_some, pu_ld (by omega) (by omega), Option.bind_some, ps_trayAt a0 a1, Option.bind_some, ps_trnc a0 a1, Option.bind_some, pu_lt, c2]
    rcases hT p1 a0 (by omega) with ⟨g1, g2⟩ | ⟨g1, g2, g3, g4, g5, g6, g7⟩
    · rw [if_pos g2] at e1
      rw [e1, Option.bind_some, if_neg n64, if_neg (show ¬ ((2 : Int) = 0) by decide), if_pos g2]
      exact pu_no h rfl rfl
    · rw [if_neg (show ¬ σ2 4 p1 = -1 by omega)] at e1
      rw [if_neg (show ¬ σ2 4 p1 = -1 by omega)]
      by_cases q2 : σ2 4 p1 < σ2 1 1
      · rw [if_pos q2] at e1
        rw [e1, Option.bind_some, if_neg n64, if_neg (show ¬ ((3 : Int) = 0) by decide), if_pos q2]
        exact pu_no h rfl rfl
      · rw [if_neg q2] at e1
        rw [e1, Option.bind_some, if_neg n64, if_pos rfl, if_neg q2]
        obtain ⟨e, e', h1, h2, h3, h4, h5, h6, h7⟩ := pu_sim (f := X10_copySeats_b36 (64 + 2 * p1)) (g := X11_copySeats_b52 p1) (s := (0, σ1)) (t := (0, σ2)) (fun i s t => s.1 = (i : Int) ∧ t.1 = (i : Int) ∧ (∀ k, k ≠ 65 + 2 * p1 → s.2 k = σ1 k) ∧ (∀ k, k ≠ 5 → t.2 k = σ2 k) ∧ (∀ j, 0 ≤ j → j < σ2 4 p1 → s.2 (65 + 2 * p1) j = t.2 5 (60 * p1 + j)) ∧ ∀ j, ¬ (60 * p1 ≤ j ∧ j < 60 * p1 + 60) → t.2 5 j = σ2 5 j) (fun e e' => True ∧ (∀ k, k ≠ 65 + 2 * p1 → e k = σ1 k) ∧ (∀ k, k ≠ 5 → e' k = σ2 k) ∧ (∀ j, 0 ≤ j → j < σ2 4 p1 → e (65 + 2 * p1) j = e' 5 (60 * p1 + j)) ∧ ∀ j, ¬ (60 * p1 ≤ j ∧ j < 60 * p1 + 60) → e' 5 j = σ2 5 j) (σ2 1 1).toNat (fun i s t hR hi => by
          obtain ⟨s1, s2⟩ := s
          obtain ⟨t1, t2⟩ := t
          obtain ⟨r1, r2, r3, r4, r5, r6⟩ := hR
          dsimp only at r1 r2 r3 r4 r5 r6
          have r8 : s1 = t1 := by omega
          subst r8
          have k0 : 0 ≤ s1 := by omega
          have m0 : s2 0 = σ1 0 := r3 0 (by omega)
          have m1 : s2 (σ1 0 7) = σ1 (σ1 0 7) := r3 _ (by omega)
          have m3 : s2 (σ1 0 7 + 3) = σ1 (σ1 0 7 + 3) := r3 _ (by omega)
          have m5 : s2 (64 + 2 * p1) = σ1 (64 + 2 * p1) := r3 _ (by omega)
          have m2 : t2 1 = σ2 1 := r4 1 (by omega)
          have m4 : t2 3 = σ2 3 := r4 3 (by omega)
          unfold X10_copySeats_b36 X11_copySeats_b52
          dsimp only
          simp only [pu_lt, m0, m1, c2, pu_ld (σ := t2) (k := 1) (n := 3174) (i := 1) (by omega) (by omega), Option.bind_some, m2, m3]
          by_cases hl : s1 < σ2 1 1
          · rw [if_pos hl, if_pos hl, if_pos (show s1 < 5 by omega), pu_ld k0 (by omega), Option.bind_some, m3, (cp s1 k0 hl).2, ps_put (m := σ2 4 p1) (s := σ2 3 p1) (by rw [m5]; exact g6) (by rw [m5]; exact g3) g5 k0 (by omega), Option.bind_some, pm_seatOf k0 (by omega), Option.bind_some, pu_ld a0 (by omega), Option.bind_some, pm_cut, Option.bind_some, m2, m4, pu_w (x := 60 * p1) (by omega) (by omega), pu_w (x := 60 * p1 + s1) (by omega) (by omega), pu_sa (by omega) (by omega), Option.bind_some, pu_w (x := s1 + 1) (by omega) (by omega), show 64 + 2 * p1 + 1 = 65 + 2 * p1 by omega]
            refine Or.inr ⟨by omega, _, _, rfl, rfl, by dsimp only; omega, by dsimp only; omega, fun k hk => (pu_st_ne hk).trans (r3 k hk), fun k hk => (pu_st_ne hk).trans (r4 k hk), fun j x y => ?_, fun j hj => (pu_st_b (by omega)).trans (r6 j hj)⟩
            dsimp only
            by_cases z : j = s1
            · rw [z, pu_st_a, pu_st_a]
            · rw [pu_st_b z, pu_st_b (by omega)]; exact r5 j x y
          · rw [if_neg hl, if_neg hl]
            exact Or.inl ⟨_, _, rfl, rfl, trivial, r3, r4, r5, r6⟩) ⟨rfl, rfl, fun _ _ => rfl, fun _ _ => rfl, g7, fun _ _ => rfl⟩
        have z0 : e 0 = σ1 0 := h4 0 (by omega)
        have z1 : e (σ1 0 7) = σ1 (σ1 0 7) := h4 _ (by omega)
        have z2 : e' 1 = σ2 1 := h5 1 (by omega)
        rw [h1, h2, Option.bind_some, Option.bind_some, pu_lt, z0, z1, c2, pu_ld (by omega) (by omega), Option.bind_some, z2]
        refine ⟨_, _, _, rfl, rfl, pu_endT h (fun k hk => h4 k (by omega)) (fun k x y z => h5 k z) (fun t t0 t1 => ?_)⟩
        unfold pu_TR
        rw [h4 _ (show 64 + 2 * t ≠ 65 + 2 * p1 by omega), h5 4 (by omega), h5 3 (by omega)]
        rcases hT t t0 t1 with g | ⟨r1, r2, r3, r4, r5, r6, r7⟩
        · exact Or.inl g
        · refine Or.inr ⟨r1, r2, r3, r4, r5, r6, fun j x y => ?_⟩
          by_cases z : t = p1
          · subst z
            exact h6 j x y
          · rw [h4 _ (show 65 + 2 * t ≠ 65 + 2 * p1 by omega), h7 _ (by omega)]; exact r7 j x y
  · rw [ps_trayNo q1, Option.bind_some, ps_trncN, Option.bind_some, pu_lt, ps_whyN, Option.bind_some, if_pos rfl, if_pos q1]
    exact pu_no h rfl rfl
/-- the numbers of a tray as seats -/
theorem pu_cmp_lt : (jq_cmp a b < 0) = (a < b) := by
  unfold jq_cmp
  apply propext
  by_cases h : a < b
  · rw [if_pos h]; exact ⟨fun _ => h, fun _ => by decide⟩
  · rw [if_neg h]
    exact ⟨fun q => by split at q <;> omega, fun q => absurd q h⟩
theorem pu_fins (h : jq_Rel σ1 σ2) (hK : pu_K τ1 (σ1 0 7) τ2) (f1 : ∀ k, ¬ pu_scr k → k ≠ σ1 0 7 → k ≠ σ1 0 7 + 3 → k ≠ σ1 0 7 + 12 → k ≠ σ1 0 7 + 19 → τ1 k = σ1 k) (f2 : pu_F2 σ2 τ2) (hd : τ2 1 4 ≤ 9999) : jq_Rel (jq_st τ1 0 0 v) (jq_st τ2 0 2 v) := by
  have hn : σ1 0 7 = 5 ∨ σ1 0 7 = 25 := by have := h.2.1; omega
  have n2 : τ2 2 = σ2 2 := f2.1 2 (by omega) (by omega)
  have n0 : τ2 0 = σ2 0 := f2.1 0 (by omega) (by omega)
  have m0 : τ1 0 = σ1 0 := f1 0 (by unfold pu_scr; omega) (by omega) (by omega) (by omega) (by omega)
  refine pu_end h (fun k a b c => f1 k c (by omega) (by omega) (by omega) (by omega)) (fun j _ => by rw [m0]) (fun k hk => f2.1 k (by omega) (by omega)) (fun j a b => f2.2 j (by unfold pu_dynj; omega)) (fun j a b => by rw [n2]) (fun j _ => by rw [n0]) ?_
  exact h.2.2.1.act hK.1 hK.2 (fun j a b c => f2.2 j c) (fun k hk => f1 _ (by unfold pu_scr; omega) (by omega) (by omega) (by omega) (by omega)) (fun j a b => by rw [n2]) hd
theorem pr_seatBy {σ1 σ2 : jq_M} (h : jq_Rel σ1 σ2) (w1 : jq_wf jq_zX 132 σ1) (w2 : jq_wf jq_zM 18 σ2) (y1 : jq_lay jq_zX σ1) (y2 : jq_lay jq_zM σ2) {p1 : Int} (hp1 : jq_r p1) : ∃ (r : Int) (σ1' σ2' : jq_M), X10_seatBy p1 σ1 = some (r, σ1') ∧ X11_seatBy p1 σ2 = some (r, σ2') ∧ jq_Rel σ1' σ2' := by
  have hT := fun t (a : 0 ≤ t) (b : t < 4) => pu_TR_of h a b
  have hn : σ1 0 7 = 5 ∨ σ1 0 7 = 25 := by have := h.2.1; omega
  have hI := h.2.2.1.1
  have hK : pu_K σ1 (σ1 0 7) σ2 := ⟨h.2.2.1.1, h.2.2.1.2.1⟩
  have hD := h.2.2.1.2.2.2.2
  obtain ⟨⟨i0, i1, i2, i3, i4, i5, i6, ip, iq, iw, ia⟩, ⟨⟨c0, c1, c2, c3, c4, c5, c6⟩, cp, cw, ca⟩, cN, cS⟩ := h.2.2.1
  unfold X10_seatBy X11_seatBy X11_wrongSeats
  simp only [pm_isTray, Option.bind_some, pu_i_0]
  by_cases q1 : 0 ≤ p1 ∧ p1 ≤ 3
  · have n1 : ¬ ¬ (0 ≤ p1 ∧ p1 ≤ 3) := fun q => q q1
    obtain ⟨a0, a1⟩ := q1
    have e1 := ps_whySeats (n := σ2 1 1) (hT p1 a0 (by omega)) (by omega)
    have n64 : ¬ 64 + 2 * p1 = -1 := by omega
    rw [if_neg n1, pu_ld a0 (by omega), Option.bind_some, Option.bind_some, pu_ld (by omega) (by omega), Option.bind_some, ps_trayAt a0 a1, Option.bind_some, ps_trnc a0 a1, Option.bind_some, pu_lt, c2]
    rcases hT p1 a0 (by omega) with ⟨g1, g2⟩ | ⟨g1, g2, g3, g4, g5, g6, g7⟩
    · rw [if_pos g2] at e1
      rw [e1, Option.bind_some, if_neg n64, if_neg (show ¬ ((2 : Int) = 0) by decide), if_pos g2]
      exact pu_no h rfl rfl
    · rw [if_neg (show ¬ σ2 4 p1 = -1 by omega)] at e1
      rw [if_neg (show ¬ σ2 4 p1 = -1 by omega)]
      by_cases q2 : σ2 4 p1 < σ2 1 1
      · rw [if_pos q2] at e1
        rw [e1, Option.bind_some, if_neg n64, if_neg (show ¬ ((3 : Int) = 0) by decide), if_pos q2]
        exact pu_no h rfl rfl
      · rw [if_neg q2] at e1
        obtain ⟨ζ, l0, lz, lr⟩ := ps_layTrial (σ := σ1)
        rw [e1, Option.bind_some, if_neg n64, if_pos rfl, if_neg q2, l0, Option.bind_some]
        obtain ⟨e, e', h1, h2, h3⟩ := pu_sim (f := X10_changeTrialBy_b4 (64 + 2 * p1)) (g := X11_wrongSeats_b42 p1 σ2) (s := (0, 0, ζ)) (t := (0, 0)) (fun i s t => s.1 = t.1 ∧ s.2.1 = (i : Int) ∧ t.2 = (i : Int) ∧ (∀ k, k ≠ 63 → s.2.2 k = σ1 k) ∧ (∀ j, 0 ≤ j → j < s.2.1 → s.2.2 63 j = σ2 5 (60 * p1 + j) ∧ -1 ≤ σ2 5 (60 * p1 + j) ∧ σ2 5 (60 * p1 + j) < σ2 1 0) ∧ (∀ j l, 0 ≤ j → j < l → l < s.2.1 → σ2 5 (60 * p1 + j) ≠ -1 → σ2 5 (60 * p1 + j) ≠ σ2 5 (60 * p1 + l)) ∧ ∃ U : Nat, s.1 = (U : Int) ∧ U < 64 ∧ ∀ j, 0 ≤ j → j < s.2.1 → σ2 5 (60 * p1 + j) ≠ -1 → U.testBit (σ2 5 (60 * p1 + j)).toNat = true) (fun e e' => (∃ υ, (e = .inl υ ∨ e = .inr (.inl υ)) ∧ e' = .inl () ∧ ∀ k, k ≠ 63 → υ k = σ1 k) ∨ ∃ υ, e = .inr (.inr υ) ∧ e' = .inr () ∧ (∀ k, k ≠ 63 → υ k = σ1 k) ∧ (∀ j, 0 ≤ j → j < σ2 1 1 → υ 63 j = σ2 5 (60 * p1 + j) ∧ -1 ≤ σ2 5 (60 * p1 + j) ∧ σ2 5 (60 * p1 + j) < σ2 1 0) ∧ ∀ j l, 0 ≤ j → j < l → l < σ2 1 1 → σ2 5 (60 * p1 + j) ≠ -1 → σ2 5 (60 * p1 + j) ≠ σ2 5 (60 * p1 + l)) (σ2 1 1).toNat (fun i s t hR hi => by
          obtain ⟨s1, s2, s3⟩ := s
          obtain ⟨t1, t2⟩ := t
          obtain ⟨r1, r2, r3, r4, r5, r6, U, r7, r8, r9⟩ := hR
          dsimp only at r1 r2 r3 r4 r5 r6 r7 r9
          have r10 : s2 = t2 := by omega
          subst r1 r10
          have k0 : 0 ≤ s2 := by omega
          have m0 : s3 0 = σ1 0 := r4 0 (by omega)
          have m1 : s3 (σ1 0 7) = σ1 (σ1 0 7) := r4 _ (by omega)
          have m5 : s3 (65 + 2 * p1) = σ1 (65 + 2 * p1) := r4 _ (by omega)
          have m6 : s3 (64 + 2 * p1) = σ1 (64 + 2 * p1) := r4 _ (by omega)
          unfold X10_changeTrialBy_b4 X11_wrongSeats_b42
          dsimp only
          simp only [pu_lt, m0, m1, c2, c0, pu_ld (σ := σ2) (k := 1) (n := 3174) (i := 1) (by omega) (by omega), pu_ld (σ := σ2) (k := 1) (n := 3174) (i := 0) (by omega) (by omega), Option.bind_some, pu_cmp_lt, pm_isFrom, pu_i_0, pm_isIn, ps_holds]
          by_cases hl : s2 < σ2 1 1
          · have nA : X9_numberAt (64 + 2 * p1) s2 s3 = some (σ2 5 (60 * p1 + s2)) := by
              rw [ps_numberAt (m := σ2 4 p1) (by rw [m6]; exact g6) g5 k0 (by omega), show 64 + 2 * p1 + 1 = 65 + 2 * p1 by omega, m5, g7 s2 k0 (by omega)]
            rw [if_pos hl, if_pos hl, if_pos (show s2 < 5 by omega), nA, Option.bind_some, pu_w (x := 60 * p1) (by omega) (by omega), pu_w (x := 60 * p1 + s2) (by omega) (by omega), pu_ld (by omega) (by omega), Option.bind_some, pu_w64 (x := σ2 1 0 - 1) (by omega) (by omega)]
            generalize hv : σ2 5 (60 * p1 + s2) = v at *
            by_cases v0 : v < -1
            · rw [if_pos v0, if_pos (by omega)]
              exact Or.inl ⟨_, _, rfl, rfl, Or.inl ⟨s3, Or.inl rfl, rfl, r4⟩⟩
            · rw [if_neg v0]
              by_cases v1 : v < σ2 1 0
              · have wv : jq_w v = v := pu_w (by omega) (by omega)
                rw [if_pos v1, wv, if_neg (show ¬ ¬ (-1 ≤ v ∧ v ≤ σ2 1 0 - 1) by omega)]
                have jj : X10_changeTrialBy_j78 (64 + 2 * p1) s1 s2 v s3 = some (.inl (if v = -1 then jq_or s1 0 else jq_or s1 (jq_shl 1 v), s2 + 1, jq_st s3 63 s2 v)) := by
                  unfold X10_changeTrialBy_j78
                  by_cases z : v = -1
                  · rw [if_pos z, if_pos z, pu_lt, pu_sa k0 (by omega), Option.bind_some, pu_lt, pu_w (by omega) (by omega)]
                  · rw [if_neg z, if_neg z, pu_lt, pu_sa k0 (by omega), Option.bind_some, pu_lt, pu_w (by omega) (by omega)]
                have mem : ∀ j, 0 ≤ j → j < s2 + 1 → jq_st s3 63 s2 v 63 j = σ2 5 (60 * p1 + j) ∧ -1 ≤ σ2 5 (60 * p1 + j) ∧ σ2 5 (60 * p1 + j) < σ2 1 0 := by
                  intro j x y
                  by_cases z : j = s2
                  · rw [z, pu_st_a, hv]; exact ⟨rfl, by omega, v1⟩
                  · rw [pu_st_b z]; exact r5 j x (by omega)
                by_cases v2 : v = -1
                · rw [if_pos v2] at jj
                  rw [if_pos v2, jj, if_pos (show v < 0 by omega)]
                  unfold X11_wrongSeats_j105
                  simp only [pu_cmp_lt, pu_lt]
                  rw [if_pos (show v < 0 by omega), pu_w (x := s2 + 1) (by omega) (by omega), r7, pu_or0 (by unfold jq_r; omega)]
                  refine Or.inr ⟨by omega, _, _, rfl, rfl, rfl, by dsimp only; omega, by dsimp only; omega, fun k hk => (pu_st_ne hk).trans (r4 k hk), mem, fun j l x y z w => ?_, U, rfl, r8, fun j x y w => ?_⟩
                  · dsimp only at z
                    by_cases z2 : l = s2
                    · rw [z2, hv, v2]; exact w
                    · exact r6 j l x y (by omega) w
                  · dsimp only at y
                    by_cases z2 : j = s2
                    · rw [z2, hv] at w; exact absurd v2 w
                    · exact r9 j x (by omega) w
                · have b64 : (2 : Nat) ^ v.toNat < 64 := Nat.lt_of_le_of_lt (Nat.pow_le_pow_right (by decide) (show v.toNat ≤ 5 by omega)) (by decide)
                  have it := pu_isin_i (s := U) (k := v) (by omega) (by omega) (by omega)
                  rw [if_neg v2, r7] at jj
                  rw [if_neg v2, if_neg (show ¬ v < 0 by omega), r7]
                  by_cases ub' : jq_and (jq_shr (U : Int) v) 1 = 1
                  · rw [if_neg (fun q => q ub'), if_neg (fun q => q ub')]
                    exact Or.inl ⟨_, _, rfl, rfl, Or.inl ⟨_, Or.inr rfl, rfl, r4⟩⟩
                  · have ub : ¬ U.testBit v.toNat = true := by rw [← it]; exact ub'
                    rw [if_pos ub', if_pos ub', jj, pu_shl1_i (by omega) (by omega), pu_or (by omega) (by omega)]
                    unfold X11_wrongSeats_j105
                    simp only [pu_cmp_lt, pu_lt]
                    rw [if_neg (show ¬ v < 0 by omega), wv, pu_w (x := s2 + 1) (by omega) (by omega), pu_shl1_i (by omega) (by omega), pu_or (by omega) (by omega)]
                    refine Or.inr ⟨by omega, _, _, rfl, rfl, rfl, by dsimp only; omega, by dsimp only; omega, fun k hk => (pu_st_ne hk).trans (r4 k hk), mem, fun j l x y z w => ?_, U ||| 2 ^ v.toNat, rfl, Nat.or_lt_two_pow (n := 6) r8 b64, fun j x y w => ?_⟩
                    · dsimp only at z
                      by_cases z2 : l = s2
                      · rw [z2, hv]
                        intro q
                        have := r9 j x (by omega) w
                        rw [q] at this
                        exact ub this
                      · exact r6 j l x y (by omega) w
                    · dsimp only at y
                      rw [Nat.testBit_or, pu_bit1]
                      by_cases z2 : j = s2
                      · rw [z2, hv]; simp
                      · rw [r9 j x (by omega) w]; rfl
              · rw [if_neg v1, if_pos (by omega)]
                exact Or.inl ⟨_, _, rfl, rfl, Or.inl ⟨s3, Or.inl rfl, rfl, r4⟩⟩
          · rw [if_neg hl, if_neg hl]
            exact Or.inl ⟨_, _, rfl, rfl, Or.inr ⟨s3, rfl, rfl, r4, fun j x y => r5 j x (by omega), fun j l x y z => r6 j l x y (by omega)⟩⟩) ⟨rfl, rfl, rfl, lz, fun j x y => by dsimp only at y; omega, fun j l x y z => by dsimp only at z; omega, 0, rfl, by omega, fun j x y => by dsimp only at y; omega⟩
        have e2 : X10_changeTrialBy (64 + 2 * p1) ζ = (some e).bind (Sum.elim (fun e16 => some (0, e16)) (Sum.elim (fun e17 => some (0, e17)) (fun e18 => some (1, e18)))) := by
          unfold X10_changeTrialBy
          rw [h1]
        rw [e2, h2, Option.bind_some, Option.bind_some]
        rcases h3 with ⟨υ, x1, x2, x3⟩ | ⟨υ, x1, x2, x3, x4, x5⟩
        · have f1 : pu_fr1 σ1 υ := fun k hk => x3 k (fun q => hk (by unfold pu_scr; omega))
          rw [x2]
          rcases x1 with x1 | x1
          · rw [x1]
            exact pu_nf h f1 (pu_fr2_r _) rfl rfl
          · rw [x1]
            exact pu_nf h f1 (pu_fr2_r _) rfl rfl
        · rw [x1, x2]
          dsimp only [Sum.elim_inr]
          have m0 : υ 0 = σ1 0 := x3 0 (by omega)
          have m1 : υ (σ1 0 7) = σ1 (σ1 0 7) := x3 _ (by omega)
          rw [pu_b2, if_neg (by decide), pu_lt, m0, pu_cpn (by omega) (by omega), Option.bind_some, Option.bind_some, if_neg (by decide), pu_lt, pu_lt, pu_cp_ne (show (0 : Int) ≠ σ1 0 7 + 3 by omega), m0]
          -- the reference's seats
          have lp : ∃ τ, jq_lp (X11_seatBy_b18 p1) (0, σ2) = some τ ∧ (∀ k, k ≠ 1 → τ k = σ2 k) ∧ (∀ p, 0 ≤ p → p < σ2 1 1 → τ 1 (9 + 2 * p) = σ2 5 (60 * p1 + p)) ∧ ∀ j, (∀ p, 0 ≤ p → p < σ2 1 1 → j ≠ 9 + 2 * p) → τ 1 j = σ2 1 j := by
            refine pu_lpE (f := X11_seatBy_b18 p1) (s := (0, σ2)) (fun i s => s.1 = (i : Int) ∧ (∀ k, k ≠ 1 → s.2 k = σ2 k) ∧ (∀ p, 0 ≤ p → p < s.1 → s.2 1 (9 + 2 * p) = σ2 5 (60 * p1 + p)) ∧ ∀ j, (∀ p, 0 ≤ p → p < s.1 → j ≠ 9 + 2 * p) → s.2 1 j = σ2 1 j) (fun τ => (∀ k, k ≠ 1 → τ k = σ2 k) ∧ (∀ p, 0 ≤ p → p < σ2 1 1 → τ 1 (9 + 2 * p) = σ2 5 (60 * p1 + p)) ∧ ∀ j, (∀ p, 0 ≤ p → p < σ2 1 1 → j ≠ 9 + 2 * p) → τ 1 j = σ2 1 j) (σ2 1 1).toNat ⟨rfl, fun _ _ => rfl, fun p x y => by dsimp only at y; omega, fun _ _ => rfl⟩ (fun i s hs hi => ?_) (fun e h1 h2 => ⟨e, h1, h2⟩)
            obtain ⟨s1, s2⟩ := s
            obtain ⟨hk, r1, r2, r3⟩ := hs
            dsimp only at hk r1 r2 r3
            have k0 : 0 ≤ s1 := by omega
            have w1 : s2 1 1 = σ2 1 1 := r3 1 (fun p a b => by omega)
            have w5 : s2 5 = σ2 5 := r1 5 (by omega)
            unfold X11_seatBy_b18
            dsimp only
            rw [pu_ld (by omega) (by omega), Option.bind_some, w1]
            by_cases hl : s1 < σ2 1 1
            · obtain ⟨-, y2', y3⟩ := x4 s1 k0 hl
              rw [if_pos hl, pm_partyRow k0 (by omega), Option.bind_some, pu_w (x := 60 * p1) (by omega) (by omega), pu_w (x := 60 * p1 + s1) (by omega) (by omega), pu_ld (by omega) (by omega), Option.bind_some, w5, pu_w (x := 8 + 2 * s1 + 1) (by omega) (by omega), pu_sa (by omega) (by omega), Option.bind_some]
              simp only [pu_lt]
              rw [pu_w (x := s1 + 1) (by omega) (by omega), pu_w (x := σ2 5 (60 * p1 + s1)) (by omega) (by omega), show 8 + 2 * s1 + 1 = 9 + 2 * s1 by omega]
              refine Or.inr ⟨by omega, _, rfl, by dsimp only; omega, fun k hk => (pu_st_ne hk).trans (r1 k hk), fun p x y => ?_, fun j hj => ?_⟩
              · dsimp only at y ⊢
                by_cases z : p = s1
                · rw [z, pu_st_a]
                · rw [pu_st_b (by omega)]; exact r2 p x (by omega)
              · dsimp only at hj ⊢
                rw [pu_st_b (hj s1 k0 (by omega))]; exact r3 j (fun p x y => hj p x (by omega))
            · rw [if_neg hl]
              exact Or.inl ⟨_, rfl, r1, fun p x y => r2 p x (by omega), fun j hj => r3 j (fun p x y => hj p x (by omega))⟩
          obtain ⟨τ2, l1, l2, l3, l4⟩ := lp
          have hK2 : pu_K υ (σ1 0 7) σ2 := hK.mv (fun k x y => x3 _ (by omega)) rfl
          have kk : pu_K (jq_cp υ 63 0 (σ1 0 7 + 3) 0 5) (σ1 0 7) τ2 ∧ pu_F1 (σ1 0 7) υ (jq_cp υ 63 0 (σ1 0 7 + 3) 0 5) ∧ pu_F2 σ2 τ2 ∧ τ2 1 4 = σ2 1 4 := by
            refine hK2.seats (fun k hk => pu_cp_ne hk) (fun k x y => l2 k x) l4 (fun p x y => ?_) (fun p q x y z w => ?_)
            · rw [pu_cp0 x (show p < 5 by omega), l3 p x y]
              exact x4 p x y
            · rw [l3 p x (by omega)] at w ⊢
              rw [l3 q (by omega) z]
              exact x5 p q x y z w
          obtain ⟨kK, kF1, kF2, kD⟩ := kk
          obtain ⟨ρ, y1', y2', y3, y4, -, -, y5, -⟩ := pm_sn kK.1
          have cp2 := kK.2.2.1
          obtain ⟨ω, z1, z2⟩ := ps_signersOf kK.1 kK.2 (show σ1 0 7 + 3 ≠ σ1 0 7 + 19 by omega) (S := pu_se (τ2 1)) (fun p x y => (cp2 p x y).2)
          rw [z1, l1, Option.bind_some, y1', Option.bind_some, y5, Option.bind_some, pu_b2]
          refine ⟨_, _, _, rfl, rfl, pu_fins h (τ1 := ω) (τ2 := ρ) ?_ (fun k a b c d e => ?_) (kF2.tr (pu_F2_9 y2')) ?_⟩
          · exact kK.mv (fun k a b => z2 _ (by omega)) (y2' 1 (by omega))
          · rw [z2 k e, kF1 k b c d e, x3 k (fun q => a (by unfold pu_scr; omega))]
          · rw [y2' 1 (by omega)]; omega
  · rw [ps_trayNo q1, Option.bind_some, ps_trncN, Option.bind_some, pu_lt, ps_whyN, Option.bind_some, if_pos rfl, if_pos q1]
    exact pu_no h rfl rfl
end
