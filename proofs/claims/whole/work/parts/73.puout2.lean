section
variable {σ σ1 σ2 m1 m2 : jq_M} {o x p : Int} {A S : Int → Int} {c U : Nat}
theorem pu_pop5 : ∀ K, K < 6 → ∀ s, s < 2 ^ K → pu_pop s ≤ K := by decide +kernel
theorem pu_pop1 : ∀ s, s < 32 → s ≠ 0 → 0 < pu_pop s := by decide +kernel
/-- the most bits of a set that occurs -/
theorem ps_mostOf {F : Int} (hF : ∀ k, k < 32 → (pu_tb F k = true ↔ pu_occ A k)) (hI : pu_inv A) (he : ∃ k, pu_occ A k) : ∃ m : Nat, X8_mostOf F σ = some (m : Int) ∧ (∀ k, pu_occ A k → pu_pop k ≤ m) ∧ ∃ k, pu_occ A k ∧ pu_pop k = m := by
  unfold X8_mostOf
  refine pu_lpE (f := X8_mostOf_b4 F σ) (s := (0, 0)) (fun i t => t.2 = (i : Int) ∧ ∃ m : Nat, t.1 = (m : Int) ∧ (∀ k, k < i → pu_occ A k → pu_pop k ≤ m) ∧ (m = 0 ∨ ∃ k, pu_occ A k ∧ pu_pop k = m)) (fun e => ∃ m : Nat, e = (m : Int) ∧ (∀ k, pu_occ A k → pu_pop k ≤ m) ∧ ∃ k, pu_occ A k ∧ pu_pop k = m) 32 ⟨rfl, 0, rfl, fun k hk => by omega, Or.inl rfl⟩ (fun i t ht hi => ?_) (fun e h1 h3 => ?_)
  · obtain ⟨t1, t2⟩ := t
    obtain ⟨hk, m, q1, q2, q3⟩ := ht
    dsimp only at hk q1
    unfold X8_mostOf_b4
    dsimp only
    by_cases hl : t2 < 32
    · have it := pu_tb_i (F := F) hk (by omega)
      have bc := pu_bc (n := i) (by omega) σ
      rw [if_pos hl, ps_holds, Option.bind_some, it, pu_lt, pu_w (by omega) (by omega), hk, bc, Option.bind_some, ← hk, q1]
      by_cases g : pu_tb F i = true
      · have oc := (hF i (by omega)).mp g
        rw [pu_i_p g, if_neg (by decide)]
        refine Or.inr ⟨by omega, _, rfl, by dsimp only; omega, ?_⟩
        dsimp only
        unfold jq_max
        by_cases z : (m : Int) < ((pu_pop i : Nat) : Int)
        · rw [if_pos z]
          refine ⟨pu_pop i, rfl, fun k h1 h2 => ?_, Or.inr ⟨i, oc, rfl⟩⟩
          by_cases z2 : k = i
          · rw [z2]; exact Nat.le_refl _
          · have := q2 k (by omega) h2; omega
        · rw [if_neg z]
          refine ⟨m, rfl, fun k h1 h2 => ?_, q3⟩
          by_cases z2 : k = i
          · rw [z2]; omega
          · exact q2 k (by omega) h2
      · rw [pu_i_n g, if_pos rfl]
        refine Or.inr ⟨by omega, _, rfl, by dsimp only; omega, m, rfl, fun k h1 h2 => ?_, q3⟩
        by_cases z2 : k = i
        · rw [z2] at h2; exact absurd ((hF i (by omega)).mpr h2) g
        · exact q2 k (by omega) h2
    · rw [if_neg hl]
      have all : ∀ k, pu_occ A k → pu_pop k ≤ m := by
        intro k hk
        have : k < 32 := by
          obtain ⟨c, h1, h2, h3⟩ := hk
          rw [← h3]; exact pu_sgn_lt hI
        exact q2 k (by omega) hk
      refine Or.inl ⟨_, rfl, m, q1, all, ?_⟩
      rcases q3 with q3 | q3
      · obtain ⟨k, hk⟩ := he
        have := all k hk
        exact ⟨k, hk, by omega⟩
      · exact q3
  · obtain ⟨m, e1, e2, e3⟩ := h3
    rw [h1, e1]
    exact ⟨m, rfl, e2, e3⟩
end
section
variable {σ1 σ2 : jq_M}
theorem pr_mostSign {σ1 σ2 : jq_M} (h : jq_Rel σ1 σ2) (w1 : jq_wf jq_zX 132 σ1) (w2 : jq_wf jq_zM 18 σ2) (y1 : jq_lay jq_zX σ1) (y2 : jq_lay jq_zM σ2) : ∃ (r : Int) (σ1' σ2' : jq_M), X10_mostSign σ1 = some (r, σ1') ∧ X11_mostSign σ2 = some (r, σ2') ∧ jq_Rel σ1' σ2' := by
  have hI := h.2.2.1.1
  have hC := h.2.2.1.2.1
  have hoo : σ1 0 7 = 5 ∨ σ1 0 7 = 25 := by have := h.2.1; omega
  have c0 := hC.1.1
  have nb := pu_N_b hI
  have lp : ∃ e, jq_lp X11_mostSign_b4 (-1, 0, σ2) = some e ∧ pu_v2 σ2 e.2 ∧ (e.1 = -1 ∧ (∀ k, ¬ pu_occ (σ2 1) k) ∨ ∃ m : Nat, e.1 = (m : Int) ∧ (∀ k, pu_occ (σ2 1) k → pu_pop k ≤ m) ∧ ∃ k, pu_occ (σ2 1) k ∧ pu_pop k = m) := by
    refine pu_lpE (f := X11_mostSign_b4) (s := (-1, 0, σ2)) (fun i t => t.2.1 = (i : Int) ∧ pu_v2 σ2 t.2.2 ∧ (t.1 = -1 ∧ (∀ d, d < i → pu_ok (σ2 1) d = false) ∨ ∃ m : Nat, t.1 = (m : Int) ∧ (∀ d, d < i → pu_ok (σ2 1) d = true → pu_pop (pu_gs (σ2 1) d) ≤ m) ∧ ∃ k, pu_occ (σ2 1) k ∧ pu_pop k = m)) (fun e => pu_v2 σ2 e.2 ∧ (e.1 = -1 ∧ (∀ k, ¬ pu_occ (σ2 1) k) ∨ ∃ m : Nat, e.1 = (m : Int) ∧ (∀ k, pu_occ (σ2 1) k → pu_pop k ≤ m) ∧ ∃ k, pu_occ (σ2 1) k ∧ pu_pop k = m)) (pu_N (σ2 1)) ⟨rfl, fun _ _ => rfl, Or.inl ⟨rfl, fun d hd => by omega⟩⟩ (fun i t ht hi => ?_) (fun e h1 h2 => ⟨e, h1, h2⟩)
    obtain ⟨t1, t2, t3⟩ := t
    obtain ⟨hk, q1, q2⟩ := ht
    dsimp only at hk q1 q2
    unfold X11_mostSign_b4
    dsimp only
    rw [pm_codes2 hI q1, Option.bind_some]
    by_cases hl : t2 < ((pu_N (σ2 1) : Nat) : Int)
    · rw [if_pos hl]
      cases ho : pu_ok (σ2 1) i with
      | false =>
        obtain ⟨τ, g1, g2⟩ := pm_sv0 hI hk (by omega) ho q1
        rw [g1, pu_b2, if_pos rfl, pu_lt, pu_w (by omega) (by omega)]
        refine Or.inr ⟨by omega, _, rfl, by dsimp only; omega, g2, ?_⟩
        dsimp only
        rcases q2 with ⟨a1, a2⟩ | ⟨m, a1, a2, a3⟩
        · refine Or.inl ⟨a1, fun d hd => ?_⟩
          by_cases z : d = i
          · rw [z]; exact ho
          · exact a2 d (by omega)
        · refine Or.inr ⟨m, a1, fun d hd hok => ?_, a3⟩
          by_cases z : d = i
          · rw [z, ho] at hok; cases hok
          · exact a2 d (by omega) hok
      | true =>
        obtain ⟨τ, g1, g2, g3⟩ := pm_sv1 hI hk (by omega) ho q1
        have gl : pu_gs (σ2 1) i < 32 := pu_sgn_lt hI
        rw [g1, pu_b2, if_neg (by decide), g3, Option.bind_some, pu_bits (by omega), Option.bind_some, pu_lt, pu_lt, pu_w (by omega) (by omega)]
        refine Or.inr ⟨by omega, _, rfl, by dsimp only; omega, g2, ?_⟩
        dsimp only
        have oc : pu_occ (σ2 1) (pu_gs (σ2 1) i) := ⟨i, by omega, ho, rfl⟩
        unfold jq_max
        rcases q2 with ⟨a1, a2⟩ | ⟨m, a1, a2, a3⟩
        · rw [a1, if_pos (by omega)]
          refine Or.inr ⟨_, rfl, fun d hd hok => ?_, _, oc, rfl⟩
          by_cases z : d = i
          · rw [z]; exact Nat.le_refl _
          · rw [a2 d (by omega)] at hok; cases hok
        · rw [a1]
          by_cases z : (m : Int) < ((pu_pop (pu_gs (σ2 1) i) : Nat) : Int)
          · rw [if_pos z]
            refine Or.inr ⟨_, rfl, fun d hd hok => ?_, _, oc, rfl⟩
            by_cases z2 : d = i
            · rw [z2]; exact Nat.le_refl _
            · have := a2 d (by omega) hok; omega
          · rw [if_neg z]
            refine Or.inr ⟨m, rfl, fun d hd hok => ?_, a3⟩
            by_cases z2 : d = i
            · rw [z2]; omega
            · exact a2 d (by omega) hok
    · rw [if_neg hl]
      refine Or.inl ⟨_, rfl, q1, ?_⟩
      dsimp only
      rcases q2 with ⟨a1, a2⟩ | ⟨m, a1, a2, a3⟩
      · refine Or.inl ⟨a1, ?_⟩
        rintro k ⟨c, h1, h2, h3⟩
        rw [a2 c (by omega)] at h2; cases h2
      · refine Or.inr ⟨m, a1, ?_, a3⟩
        rintro k ⟨c, h1, h2, h3⟩
        rw [← h3]
        exact a2 c (by omega) h2
  obtain ⟨e, l1, l2, l3⟩ := lp
  unfold X10_mostSign X11_mostSign
  simp only [pu_lt, l1, Option.bind_some, pm_orNone, pu_b2]
  rw [c0]
  by_cases z : σ2 1 0 = 0
  · have hN : pu_N (σ2 1) = 0 := by unfold pu_N; rw [if_pos z]
    have e1 : e.1 = -1 := by
      rcases l3 with ⟨a1, -⟩ | ⟨m, -, -, k, ⟨c, h1, -⟩, -⟩
      · exact a1
      · omega
    rw [if_pos z, e1, if_pos rfl]
    exact pu_nf h (pu_fr1_r _) (pu_fr2_9 l2) rfl rfl
  · obtain ⟨F, τ, f1, f2, f3⟩ := ps_outcomes hI hC hoo
    have ex : ∃ k, pu_occ (σ2 1) k := by
      refine Classical.byContradiction (fun q => ?_)
      have no : ∀ d, d < pu_N (σ2 1) → pu_ok (σ2 1) d = false := by
        intro d hd
        cases ho : pu_ok (σ2 1) d with
        | false => rfl
        | true => exact absurd ⟨_, d, hd, ho, rfl⟩ q
      have zero : ∀ n, n ≤ pu_N (σ2 1) → pu_ci (σ2 1) n = 0 := by
        intro n
        induction n with
        | zero => intro _; rfl
        | succ n ih =>
          intro hn
          have o := no n (by omega)
          unfold pu_ok at o
          have i := ih (by omega)
          unfold pu_ci at i ⊢
          rw [show pu_cn (σ2 1 0).toNat (σ2 1 1).toNat (n + 1) = pu_cn (σ2 1 0).toNat (σ2 1 1).toNat n + if (pu_row (σ2 1 0).toNat (σ2 1 1).toNat n).isSome = true then 1 else 0 from rfl, i, o]
          rfl
      have := pu_ci_pos hI z
      rw [zero _ (Nat.le_refl _)] at this
      omega
    obtain ⟨m, k1, k2, k3, k4, k5⟩ := ps_mostOf (σ := τ) f3 hI ex
    have e1 : e.1 = (m : Int) := by
      rcases l3 with ⟨-, a2⟩ | ⟨m', a1, a2, k', a3, a4⟩
      · exact absurd k4 (a2 _)
      · have h1 := k2 k' a3
        have h2 := a2 k3 k4
        omega
    rw [if_neg z, f1, pu_b2, k1, Option.bind_some, e1, if_neg (by omega), ps_answer, pu_b2]
    exact pu_nf h f2 (pu_fr2_9 l2) rfl rfl
/-- a set that no seating pleases -/
def pu_un (A : Int → Int) (s : Nat) : Prop := ¬ ∃ k, pu_occ A k ∧ s &&& k = s
theorem pr_quarrel {σ1 σ2 : jq_M} (h : jq_Rel σ1 σ2) (w1 : jq_wf jq_zX 132 σ1) (w2 : jq_wf jq_zM 18 σ2) (y1 : jq_lay jq_zX σ1) (y2 : jq_lay jq_zM σ2) : ∃ (r : Int) (σ1' σ2' : jq_M), X10_quarrel σ1 = some (r, σ1') ∧ X11_quarrel σ2 = some (r, σ2') ∧ jq_Rel σ1' σ2' := by
  have hI := h.2.2.1.1
  have hC := h.2.2.1.2.1
  have hoo : σ1 0 7 = 5 ∨ σ1 0 7 = 25 := by have := h.2.1; omega
  have c0 := hC.1.1
  have c2 := hC.1.2.2.1
  have i0 := hI.1
  have i1 := hI.2.1
  have nb := pu_N_b hI
  have hb : (2 : Nat) ^ (σ2 1 1).toNat ≤ 2 ^ 5 := Nat.pow_le_pow_right (by decide) (by omega)
  have h5 : (2 : Nat) ^ 5 = 32 := by decide
  obtain ⟨F, τ, f1, f2, f3⟩ := ps_outcomes hI hC hoo
  have z0 : τ 0 = σ1 0 := f2 0 (by unfold pu_scr; omega)
  have zc : τ (σ1 0 7) = σ1 (σ1 0 7) := f2 _ (by unfold pu_scr; omega)
  generalize hT : (2 : Nat) ^ (σ2 1 1).toNat = T at hb
  have hsh : jq_shl 1 (σ2 1 1) = (T : Int) := by rw [pu_shl1_i (by omega) (by omega), hT]
  have tp : 0 < T := by rw [← hT]; exact Nat.two_pow_pos _
  have popK : ∀ s, s < T → pu_pop s ≤ (σ2 1 1).toNat := fun s hs => pu_pop5 _ (by omega) s (by rw [hT]; exact hs)
  -- the class: the least size, and of it the least set
  have cl : ∃ r : Int, X8_leastUnmet F (σ2 1 1) τ = some r ∧ (r = -1 ∧ (∀ s, 0 < s → s < T → ¬ pu_un (σ2 1) s) ∨ ∃ s : Nat, r = (s : Int) ∧ 0 < s ∧ s < T ∧ pu_un (σ2 1) s ∧ ∀ q, 0 < q → q < T → pu_un (σ2 1) q → pu_pop s < pu_pop q ∨ pu_pop s = pu_pop q ∧ s ≤ q) := by
    unfold X8_leastUnmet
    refine pu_lpE (f := X8_leastUnmet_b2 F (σ2 1 1) τ) (s := 1) (fun i t => t = 1 + (i : Int) ∧ ∀ s, 0 < s → s < T → pu_un (σ2 1) s → i < pu_pop s) (fun e => (e = .inr () ∧ ∀ s, 0 < s → s < T → ¬ pu_un (σ2 1) s) ∨ ∃ s : Nat, e = .inl (s : Int) ∧ 0 < s ∧ s < T ∧ pu_un (σ2 1) s ∧ ∀ q, 0 < q → q < T → pu_un (σ2 1) q → pu_pop s < pu_pop q ∨ pu_pop s = pu_pop q ∧ s ≤ q) (σ2 1 1).toNat ⟨rfl, fun s s0 s1 _ => pu_pop1 s (by omega) (by omega)⟩ (fun i t ht hi => ?_) (fun e h1 h3 => ?_)
    · obtain ⟨hk, q1⟩ := ht
      unfold X8_leastUnmet_b2
      by_cases hl : σ2 1 1 < t
      · rw [if_pos hl]
        refine Or.inl ⟨_, rfl, Or.inl ⟨rfl, fun s s0 s1 s2 => ?_⟩⟩
        have := q1 s s0 s1 s2
        have := popK s s1
        omega
      · rw [if_neg hl]
        have inn : (∃ s : Nat, jq_lp (X8_leastUnmet_b9 F (σ2 1 1) τ t) 1 = some (.inl (s : Int)) ∧ 0 < s ∧ s < T ∧ pu_un (σ2 1) s ∧ pu_pop s = i + 1 ∧ ∀ q, 0 < q → q < s → pu_un (σ2 1) q → pu_pop q ≠ i + 1) ∨ (jq_lp (X8_leastUnmet_b9 F (σ2 1 1) τ t) 1 = some (.inr ()) ∧ ∀ q, 0 < q → q < T → pu_un (σ2 1) q → pu_pop q ≠ i + 1) := by
          refine pu_lpE (f := X8_leastUnmet_b9 F (σ2 1 1) τ t) (s := 1) (fun j u => u = 1 + (j : Int) ∧ j + 1 ≤ T ∧ ∀ q, 0 < q → q < j + 1 → pu_un (σ2 1) q → pu_pop q ≠ i + 1) (fun e => (∃ s : Nat, e = .inl (s : Int) ∧ 0 < s ∧ s < T ∧ pu_un (σ2 1) s ∧ pu_pop s = i + 1 ∧ ∀ q, 0 < q → q < s → pu_un (σ2 1) q → pu_pop q ≠ i + 1) ∨ (e = .inr () ∧ ∀ q, 0 < q → q < T → pu_un (σ2 1) q → pu_pop q ≠ i + 1)) T ⟨rfl, by omega, fun q a b => by omega⟩ (fun j u hu hj => ?_) (fun e h1 h3 => ?_)
          · obtain ⟨hk2, jT, q2⟩ := hu
            unfold X8_leastUnmet_b9
            rw [hsh]
            by_cases hl2 : u < (T : Int)
            · have hu2 : u = ((j + 1 : Nat) : Int) := by omega
              have bc := pu_bc (n := j + 1) (by omega) τ
              have mt := ps_isMetF (σ := τ) (x := u) (U := j + 1) f3 hI hu2 (by omega)
              rw [← hu2] at bc
              have nx : ∀ (g : pu_un (σ2 1) (j + 1) → pu_pop (j + 1) ≠ i + 1), ∀ q, 0 < q → q < j + 1 + 1 → pu_un (σ2 1) q → pu_pop q ≠ i + 1 := by
                intro g q a b c
                by_cases z : q = j + 1
                · rw [z] at c ⊢; exact g c
                · exact q2 q a (by omega) c
              rw [if_pos hl2, bc, Option.bind_some, mt, Option.bind_some, pu_lt, pu_w (by omega) (by omega), pu_ii]
              by_cases z : ((pu_pop (j + 1) : Nat) : Int) = t
              · rw [if_pos z]
                by_cases z2 : ∃ k, pu_occ (σ2 1) k ∧ (j + 1) &&& k = j + 1
                · rw [pu_if_p z2]
                  exact Or.inr ⟨by omega, _, rfl, by omega, by omega, nx (fun g => absurd z2 g)⟩
                · rw [pu_if_n z2]
                  exact Or.inl ⟨_, rfl, Or.inl ⟨j + 1, by rw [hu2], by omega, by omega, z2, by omega, q2⟩⟩
              · rw [if_neg z]
                exact Or.inr ⟨by omega, _, rfl, by omega, by omega, nx (fun _ => by omega)⟩
            · rw [if_neg hl2]
              exact Or.inl ⟨_, rfl, Or.inr ⟨rfl, fun q a b => q2 q a (by omega)⟩⟩
          · rcases h3 with ⟨s, e1, e2⟩ | ⟨e1, e2⟩
            · rw [e1] at h1; exact Or.inl ⟨s, h1, e2⟩
            · rw [e1] at h1; exact Or.inr ⟨h1, e2⟩
        rcases inn with ⟨s, e1, e2, e3, e4, e5, e6⟩ | ⟨e1, e2⟩
        · rw [e1, Option.bind_some]
          refine Or.inl ⟨_, rfl, Or.inr ⟨s, rfl, e2, e3, e4, fun q a b c => ?_⟩⟩
          have h1 := q1 q a b c
          by_cases z : pu_pop q = i + 1
          · refine Or.inr ⟨by omega, ?_⟩
            refine Classical.byContradiction (fun z2 => ?_)
            exact e6 q a (by omega) c z
          · exact Or.inl (by omega)
        · rw [e1, Option.bind_some]
          dsimp only [Sum.elim_inr]
          rw [pu_lt, pu_w (by omega) (by omega)]
          refine Or.inr ⟨by omega, _, rfl, by omega, fun s a b c => ?_⟩
          have h1 := q1 s a b c
          have h2 := e2 s a b c
          omega
    · rw [h1, Option.bind_some]
      rcases h3 with ⟨e1, e2⟩ | ⟨s, e1, e2⟩
      · rw [e1]; exact ⟨_, rfl, Or.inl ⟨rfl, e2⟩⟩
      · rw [e1]; exact ⟨_, rfl, Or.inr ⟨s, rfl, e2⟩⟩
  -- the reference
  have rf : ∃ e, jq_lp X11_quarrel_b4 (-1, 1, σ2) = some e ∧ pu_v2 σ2 e.2 ∧ (e.1 = -1 ∧ (pu_N (σ2 1) = 0 ∨ ∀ s, 0 < s → s < T → ¬ pu_un (σ2 1) s) ∨ pu_N (σ2 1) ≠ 0 ∧ ∃ s : Nat, e.1 = (s : Int) ∧ 0 < s ∧ s < T ∧ pu_un (σ2 1) s ∧ ∀ q, 0 < q → q < T → pu_un (σ2 1) q → pu_pop s < pu_pop q ∨ pu_pop s = pu_pop q ∧ s ≤ q) := by
    refine pu_lpE (f := X11_quarrel_b4) (s := (-1, 1, σ2)) (fun i t => t.2.1 = 1 + (i : Int) ∧ i + 1 ≤ T ∧ pu_v2 σ2 t.2.2 ∧ (t.1 = -1 ∧ (∀ s, 0 < s → s < i + 1 → ¬ pu_un (σ2 1) s) ∨ pu_N (σ2 1) ≠ 0 ∧ ∃ s : Nat, t.1 = (s : Int) ∧ 0 < s ∧ s < i + 1 ∧ pu_un (σ2 1) s ∧ ∀ q, 0 < q → q < i + 1 → pu_un (σ2 1) q → pu_pop s < pu_pop q ∨ pu_pop s = pu_pop q ∧ s ≤ q)) (fun e => pu_v2 σ2 e.2 ∧ (e.1 = -1 ∧ (pu_N (σ2 1) = 0 ∨ ∀ s, 0 < s → s < T → ¬ pu_un (σ2 1) s) ∨ pu_N (σ2 1) ≠ 0 ∧ ∃ s : Nat, e.1 = (s : Int) ∧ 0 < s ∧ s < T ∧ pu_un (σ2 1) s ∧ ∀ q, 0 < q → q < T → pu_un (σ2 1) q → pu_pop s < pu_pop q ∨ pu_pop s = pu_pop q ∧ s ≤ q)) T ⟨rfl, by omega, fun _ _ => rfl, Or.inl ⟨rfl, fun s a b => by omega⟩⟩ (fun i t ht hi => ?_) (fun e h1 h2 => ⟨e, h1, h2⟩)
    obtain ⟨t1, t2, t3⟩ := t
    obtain ⟨hk, iT, q1, q2⟩ := ht
    dsimp only at hk q1 q2
    have e1 := pu_v2_1 q1
    unfold X11_quarrel_b4
    dsimp only
    rw [pu_ld (by omega) (by omega), Option.bind_some, e1, hsh, pm_codes2 hI q1, Option.bind_some]
    by_cases hl : t2 < (T : Int)
    · rw [if_pos hl]
      by_cases hN : 0 < ((pu_N (σ2 1) : Nat) : Int)
      · have hx : t2 = ((i + 1 : Nat) : Int) := by omega
        obtain ⟨υ, g1, g2⟩ := pm_arePleased (x := t2) (U := i + 1) (m2 := t3) hI hx (by omega) q1
        have j39 : X11_quarrel_j39 t1 t2 t3 = pu_if (∃ k, pu_occ (σ2 1) k ∧ (i + 1) &&& k = i + 1) (some (.inl (t1, t2 + 1, υ))) (some (.inl (t2, t2 + 1, υ))) := by
          unfold X11_quarrel_j39
          rw [g1, pu_b2, pu_ii, pu_lt, pu_lt, pu_w (by omega) (by omega)]
        rw [if_pos hN, j39]
        rcases q2 with ⟨a1, a2⟩ | ⟨a0, s, a1, a2, a3, a4, a5⟩
        · rw [if_pos a1]
          by_cases z : ∃ k, pu_occ (σ2 1) k ∧ (i + 1) &&& k = i + 1
          · rw [pu_if_p z]
            refine Or.inr ⟨by omega, _, rfl, by dsimp only; omega, by omega, g2, Or.inl ⟨a1, fun s b1 b2 => ?_⟩⟩
            by_cases z2 : s = i + 1
            · rw [z2]; exact fun g => g z
            · exact a2 s b1 (by omega)
          · rw [pu_if_n z]
            refine Or.inr ⟨by omega, _, rfl, by dsimp only; omega, by omega, g2, Or.inr ⟨by omega, i + 1, hx, by omega, by omega, z, fun q b1 b2 b3 => ?_⟩⟩
            by_cases z2 : q = i + 1
            · rw [z2]; exact Or.inr ⟨rfl, Nat.le_refl _⟩
            · exact absurd b3 (a2 q b1 (by omega))
        · rw [if_neg (show ¬ t1 = -1 by omega), hx, pu_bits (by omega), Option.bind_some, a1, pu_bits (by omega), Option.bind_some, ← hx, ← a1]
          by_cases z3 : ((pu_pop (i + 1) : Nat) : Int) < ((pu_pop s : Nat) : Int)
          · rw [if_pos z3]
            by_cases z : ∃ k, pu_occ (σ2 1) k ∧ (i + 1) &&& k = i + 1
            · rw [pu_if_p z]
              refine Or.inr ⟨by omega, _, rfl, by dsimp only; omega, by omega, g2, Or.inr ⟨a0, s, a1, a2, by omega, a4, fun q b1 b2 b3 => ?_⟩⟩
              by_cases z2 : q = i + 1
              · rw [z2] at b3; exact absurd z b3
              · exact a5 q b1 (by omega) b3
            · rw [pu_if_n z]
              refine Or.inr ⟨by omega, _, rfl, by dsimp only; omega, by omega, g2, Or.inr ⟨a0, i + 1, hx, by omega, by omega, z, fun q b1 b2 b3 => ?_⟩⟩
              by_cases z2 : q = i + 1
              · rw [z2]; exact Or.inr ⟨rfl, Nat.le_refl _⟩
              · have := a5 q b1 (by omega) b3
                exact Or.inl (by omega)
          · rw [if_neg z3, pu_lt, pu_w (by omega) (by omega)]
            refine Or.inr ⟨by omega, _, rfl, by dsimp only; omega, by omega, q1, Or.inr ⟨a0, s, a1, a2, by omega, a4, fun q b1 b2 b3 => ?_⟩⟩
            by_cases z2 : q = i + 1
            · rw [z2]
              by_cases z5 : pu_pop s = pu_pop (i + 1)
              · exact Or.inr ⟨z5, by omega⟩
              · exact Or.inl (by omega)
            · exact a5 q b1 (by omega) b3
      · rw [if_neg hN]
        refine Or.inl ⟨_, rfl, q1, ?_⟩
        dsimp only
        rcases q2 with ⟨a1, a2⟩ | ⟨a0, -⟩
        · exact Or.inl ⟨a1, Or.inl (by omega)⟩
        · omega
    · rw [if_neg hl]
      refine Or.inl ⟨_, rfl, q1, ?_⟩
      dsimp only
      rcases q2 with ⟨a1, a2⟩ | ⟨a0, s, a1, a2, a3, a4, a5⟩
      · exact Or.inl ⟨a1, Or.inr (fun s b1 b2 => a2 s b1 (by omega))⟩
      · exact Or.inr ⟨a0, s, a1, a2, by omega, a4, fun q b1 b2 => a5 q b1 (by omega)⟩
  obtain ⟨r, r1, r2⟩ := cl
  obtain ⟨e, l1, l2, l3⟩ := rf
  have er : e.1 = r := by
    by_cases z : σ2 1 0 = 0
    · have hN : pu_N (σ2 1) = 0 := by unfold pu_N; rw [if_pos z]
      have t1 : T = 1 := by
        rw [← hT, show (σ2 1 1).toNat = 0 by omega]
      have a : e.1 = -1 := by
        rcases l3 with ⟨a1, -⟩ | ⟨a0, -⟩
        · exact a1
        · exact absurd hN a0
      have b : r = -1 := by
        rcases r2 with ⟨b1, -⟩ | ⟨s, b1, b2, b3, -⟩
        · exact b1
        · omega
      omega
    · have hN : pu_N (σ2 1) ≠ 0 := by
        unfold pu_N
        rw [if_neg z]
        have := Nat.pow_pos (n := (σ2 1 1).toNat) (show 0 < (σ2 1 0).toNat by omega)
        omega
      rcases l3 with ⟨a1, a2⟩ | ⟨a0, s, a1, a2, a3, a4, a5⟩
      · have a2 := a2.resolve_left hN
        rcases r2 with ⟨b1, -⟩ | ⟨s, b1, b2, b3, b4, -⟩
        · omega
        · exact absurd b4 (a2 s b2 b3)
      · rcases r2 with ⟨b1, b2⟩ | ⟨q, b1, b2, b3, b4, b5⟩
        · exact absurd a4 (b2 s a2 a3)
        · have h1 := a5 q b2 b3 b4
          have h2 := b5 s a2 a3 a4
          omega
  unfold X10_quarrel X11_quarrel X11_quarrel_j55
  simp only [pu_lt, f1, pu_b2, z0, zc, c2, r1, Option.bind_some, l1, ps_orNone, pm_orNone, er]
  exact pu_nf h f2 (pu_fr2_9 l2) rfl rfl
end
