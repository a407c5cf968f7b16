section
variable {σ σ1 σ2 τ1 τ2 : jq_M} {o v p q n a b c : Int} {A A' : Int → Int}
/-- all that an article leans on: m steps down -/
def pu_lw (A : Int → Int) (a : Int) : Nat → Nat
  | 0 => pu_ln A a
  | m + 1 => if (pu_lw A a m).testBit (a - 1 - m).toNat = true then pu_lw A a m ||| pu_ln A (a - 1 - m) else pu_lw A a m
def pu_le (A : Int → Int) (a : Int) : Nat := pu_lw A a a.toNat
theorem pu_lw_lt (hI : pu_inv A) (a0 : 0 ≤ a) (a1 : a < A 3) : ∀ m : Nat, (m : Int) ≤ a → pu_lw A a m < 2 ^ a.toNat := by
  intro m
  induction m with
  | zero => intro _; exact (pu_ln_i hI a0 a1).2.1
  | succ m ih =>
    intro hm
    have h := ih (by omega)
    have l := (pu_ln_i hI (k := a - 1 - m) (by omega) (by omega)).2.1
    rw [show pu_lw A a (m + 1) = if (pu_lw A a m).testBit (a - 1 - m).toNat = true then pu_lw A a m ||| pu_ln A (a - 1 - m) else pu_lw A a m from rfl]
    split
    · exact Nat.or_lt_two_pow h (Nat.lt_of_lt_of_le l (Nat.pow_le_pow_right (by decide) (by omega)))
    · exact h
theorem pu_le_lt (hI : pu_inv A) (a0 : 0 ≤ a) (a1 : a < A 3) : pu_le A a < 2 ^ a.toNat := pu_lw_lt hI a0 a1 a.toNat (by omega)
/-- a loop from b down to 0 -/
theorem pu_forD {S E : Type} {f : S × Int → Option ((S × Int) ⊕ E)} (acc : Nat → S) (b : Int) (e : E) (hb : -1 ≤ b) (h : ∀ (i : Nat) (k : Int), k = b - i → 0 ≤ k → f (acc i, k) = some (.inl (acc (i + 1), k - 1))) (hx : f (acc (b + 1).toNat, -1) = some (.inr e)) : jq_lp f (acc 0, b) = some e := by
  have := jq_lp_run (f := f) (fun i : Nat => (acc i, b - (i : Int))) (b + 1).toNat (fun i hi => by rw [h i _ rfl (by omega), show b - ((i + 1 : Nat) : Int) = b - i - 1 by omega]) (by rw [show b - (((b + 1).toNat : Nat) : Int) = -1 by omega]; exact hx)
  rw [show b - ((0 : Nat) : Int) = b by omega] at this
  exact this
theorem ps_allLeans (hI : pu_inv A) (hC : pu_RC σ o A) (a0 : 0 ≤ a) (a1 : a < A 3) : X1_allLeansOf o a σ = some ((pu_le A a : Nat) : Int) := by
  have i3 := hI.2.2.2.1
  have ca := hC.2.2.2
  have w3 : (2 : Nat) ^ 8 = 256 := by decide
  have c4 : σ o 4 = A 3 := hC.1.2.2.2.2.1
  unfold X1_allLeansOf pu_le
  rw [ps_isArticle (by omega), Option.bind_some, pu_i_p (show 0 ≤ a ∧ a < σ o 4 by omega), if_neg (show ¬ ((1 : Int) = 0) by decide), pu_ld a0 (by omega), Option.bind_some, (ca a a0 a1).2.2.1, (pu_ln_i hI a0 a1).1]
  simp only [pu_lt]
  rw [pu_w (by omega) (by omega)]
  rw [show jq_lp (X1_allLeansOf_b21 o σ) (((pu_ln A a : Nat) : Int), a - 1) = some ((pu_lw A a a.toNat : Nat) : Int) from ?_]
  · rfl
  refine pu_forD (fun i => ((pu_lw A a i : Nat) : Int)) (a - 1) _ (by omega) (fun i k hk k0 => ?_) ?_
  · have w := pu_lw_lt hI a0 a1 i (by omega)
    have w2 : (2 : Nat) ^ a.toNat ≤ 2 ^ 8 := Nat.pow_le_pow_right (by decide) (by omega)
    obtain ⟨l1, -, l3⟩ := pu_ln_i hI k0 (show k < A 3 by omega)
    have e : pu_lw A a (i + 1) = if (pu_lw A a i).testBit k.toNat = true then pu_lw A a i ||| pu_ln A k else pu_lw A a i := by
      rw [hk]; rfl
    rw [e]
    generalize pu_lw A a i = s at w ⊢
    unfold X1_allLeansOf_b21
    dsimp only
    rw [if_neg (by omega), ps_holds, Option.bind_some, pu_isin_i (by omega) k0 (by omega), pu_ld k0 (by omega), Option.bind_some, (ca k k0 (by omega)).2.2.1, l1, pu_or (by omega) (by omega)]
    simp only [pu_lt]
    rw [pu_w (by omega) (by omega), show k + -1 = k - 1 by omega]
    by_cases g : s.testBit k.toNat = true
    · rw [pu_i_p g, if_neg (by decide), if_pos g]
    · rw [pu_i_n g, if_pos rfl, if_neg g]
  · unfold X1_allLeansOf_b21
    dsimp only
    rw [if_pos (by omega), show (a - 1 + 1).toNat = a.toNat by omega]
theorem pm_leansOf (hI : pu_inv (σ 1)) (a0 : 0 ≤ a) (a1 : a < σ 1 3) : X11_leansOf a σ = some ((pu_le (σ 1) a : Nat) : Int) := by
  have i3 := hI.2.2.2.1
  have w3 : (2 : Nat) ^ 8 = 256 := by decide
  unfold X11_leansOf pu_le
  rw [pm_articleRow a0 (by omega), Option.bind_some, pu_w (by omega) (by omega), pu_ld (by omega) (by omega), Option.bind_some, show 98 + 5 * a + 2 = 100 + 5 * a by omega, (pu_ln_i hI a0 a1).1]
  simp only [pu_lt]
  rw [pu_w (by omega) (by omega)]
  rw [show jq_lp (X11_leansOf_b16 σ) (((pu_ln (σ 1) a : Nat) : Int), a - 1) = some ((pu_lw (σ 1) a a.toNat : Nat) : Int) from ?_]
  · rfl
  refine pu_forD (fun i => ((pu_lw (σ 1) a i : Nat) : Int)) (a - 1) _ (by omega) (fun i k hk k0 => ?_) ?_
  · have w := pu_lw_lt hI a0 a1 i (by omega)
    have w2 : (2 : Nat) ^ a.toNat ≤ 2 ^ 8 := Nat.pow_le_pow_right (by decide) (by omega)
    obtain ⟨l1, -, l3⟩ := pu_ln_i hI k0 (show k < σ 1 3 by omega)
    have e : pu_lw (σ 1) a (i + 1) = if (pu_lw (σ 1) a i).testBit k.toNat = true then pu_lw (σ 1) a i ||| pu_ln (σ 1) k else pu_lw (σ 1) a i := by
      rw [hk]; rfl
    rw [e]
    generalize pu_lw (σ 1) a i = s at w ⊢
    unfold X11_leansOf_b16
    dsimp only
    rw [if_neg (by omega), pm_isIn, Option.bind_some, pu_isin_i (by omega) k0 (by omega), pm_articleRow k0 (by omega), Option.bind_some, pu_w (x := 98 + 5 * k + 2) (by omega) (by omega), pu_ld (by omega) (by omega), Option.bind_some, show 98 + 5 * k + 2 = 100 + 5 * k by omega, l1, pu_or (by omega) (by omega), pu_or0 (by unfold jq_r; omega)]
    simp only [pu_lt]
    rw [pu_w (by omega) (by omega), show k + -1 = k - 1 by omega]
    by_cases g : s.testBit k.toNat = true
    · rw [pu_i_p g, if_neg (by decide), if_pos g]
    · rw [pu_i_n g, if_pos rfl, if_neg g]
  · unfold X11_leansOf_b16
    dsimp only
    rw [if_pos (by omega), show (a - 1 + 1).toNat = a.toNat by omega]
theorem pr_leans {σ1 σ2 : jq_M} (h : jq_Rel σ1 σ2) (w1 : jq_wf jq_zX 132 σ1) (w2 : jq_wf jq_zM 18 σ2) (y1 : jq_lay jq_zX σ1) (y2 : jq_lay jq_zM σ2) {p1 : Int} (hp1 : jq_r p1) : ∃ (r : Int) (σ1' σ2' : jq_M), X10_leans p1 σ1 = some (r, σ1') ∧ X11_leans p1 σ2 = some (r, σ2') ∧ jq_Rel σ1' σ2' := by
  have hI := h.2.2.1.1
  have hC := h.2.2.1.2.1
  obtain ⟨⟨i0, i1, i2, i3, i4, i5, i6, ip, iq, iw, ia⟩, ⟨⟨c0, c1, c2, c3, c4, c5, c6⟩, cp, cw, ca⟩, cN, cS⟩ := h.2.2.1
  unfold X10_leans X11_leans
  by_cases hp : 0 ≤ p1 ∧ p1 < σ2 1 3
  · have hpn : ¬ ¬ (0 ≤ p1 ∧ p1 < σ2 1 3) := fun q => q hp
    refine pu_no h (r := ((pu_le (σ2 1) p1 : Nat) : Int)) (v := 0) ?_ ?_
    · simp only [pu_lt, ps_isArticle (pu_cA h), c4, Option.bind_some, pu_i_0, if_neg hpn, ps_allLeans hI hC hp.1 hp.2, ps_answer, pu_b2]
    · simp only [pm_isArticle, Option.bind_some, pu_i_0, if_neg hpn, pm_leansOf hI hp.1 hp.2, pm_gives, pu_b2]
  · refine pu_no h (r := -1) (v := 1) ?_ ?_
    · simp only [pu_lt, ps_isArticle (pu_cA h), c4, Option.bind_some, pu_i_0, if_pos hp, ps_refuse, pu_b2]
    · simp only [pm_isArticle, Option.bind_some, pu_i_0, if_pos hp, pm_refuse, pu_b2]
theorem pr_falls {σ1 σ2 : jq_M} (h : jq_Rel σ1 σ2) (w1 : jq_wf jq_zX 132 σ1) (w2 : jq_wf jq_zM 18 σ2) (y1 : jq_lay jq_zX σ1) (y2 : jq_lay jq_zM σ2) {p1 : Int} (hp1 : jq_r p1) : ∃ (r : Int) (σ1' σ2' : jq_M), X10_falls p1 σ1 = some (r, σ1') ∧ X11_falls p1 σ2 = some (r, σ2') ∧ jq_Rel σ1' σ2' := by
  have hI := h.2.2.1.1
  have hC := h.2.2.1.2.1
  obtain ⟨⟨i0, i1, i2, i3, i4, i5, i6, ip, iq, iw, ia⟩, ⟨⟨c0, c1, c2, c3, c4, c5, c6⟩, cp, cw, ca⟩, cN, cS⟩ := h.2.2.1
  unfold X10_falls X11_falls
  by_cases hp : 0 ≤ p1 ∧ p1 < σ2 1 3
  · have hpn : ¬ ¬ (0 ≤ p1 ∧ p1 < σ2 1 3) := fun q => q hp
    refine pu_no h (r := ((pu_fa (σ2 1) p1 : Nat) : Int)) (v := 0) ?_ ?_
    · simp only [pu_lt, ps_isArticle (pu_cA h), c4, Option.bind_some, pu_i_0, if_neg hpn, ps_allFalls hI hC hp.1 hp.2, ps_answer, pu_b2]
    · simp only [pm_isArticle, Option.bind_some, pu_i_0, if_neg hpn, pm_fallsWith hI hp.1 hp.2, pm_gives, pu_b2]
  · refine pu_no h (r := -1) (v := 1) ?_ ?_
    · simp only [pu_lt, ps_isArticle (pu_cA h), c4, Option.bind_some, pu_i_0, if_pos hp, ps_refuse, pu_b2]
    · simp only [pm_isArticle, Option.bind_some, pu_i_0, if_pos hp, pm_refuse, pu_b2]
theorem pr_keystone {σ1 σ2 : jq_M} (h : jq_Rel σ1 σ2) (w1 : jq_wf jq_zX 132 σ1) (w2 : jq_wf jq_zM 18 σ2) (y1 : jq_lay jq_zX σ1) (y2 : jq_lay jq_zM σ2) : ∃ (r : Int) (σ1' σ2' : jq_M), X10_keystone σ1 = some (r, σ1') ∧ X11_keystone σ2 = some (r, σ2') ∧ jq_Rel σ1' σ2' := by
  have hI := h.2.2.1.1
  have hC := h.2.2.1.2.1
  obtain ⟨⟨i0, i1, i2, i3, i4, i5, i6, ip, iq, iw, ia⟩, ⟨⟨c0, c1, c2, c3, c4, c5, c6⟩, cp, cw, ca⟩, cN, cS⟩ := h.2.2.1
  obtain ⟨e, e', h1, h2, h3⟩ := pu_sim (f := X0_keystoneOf_b6 (σ1 0 7) σ1) (g := X11_keystone_b4 σ2) (s := (-1, 0, 0)) (t := (-1, 0)) (fun i s t => s.1 = t.1 ∧ s.2.2 = (i : Int) ∧ t.2 = (i : Int) ∧ (s.1 = -1 ∧ s.2.1 = 0 ∨ 0 ≤ s.1 ∧ s.1 < σ2 1 3 ∧ s.2.1 = ((pu_pop (pu_fa (σ2 1) s.1) : Nat) : Int))) (fun e e' => e = e') (σ2 1 3).toNat (fun i s t hR hi => by
    obtain ⟨s1, s2, s3⟩ := s
    obtain ⟨t1, t2⟩ := t
    obtain ⟨r1, r2, r3, r4⟩ := hR
    dsimp only at r1 r2 r3 r4
    have r5 : s3 = t2 := by omega
    subst r1 r5
    have k0 : 0 ≤ s3 := by omega
    unfold X0_keystoneOf_b6 X11_keystone_b4
    dsimp only
    rw [pu_ld (by omega) (by omega), Option.bind_some, c4]
    by_cases hl : s3 < σ2 1 3
    · have fl := pu_fa_lt (A := σ2 1) k0 hl (by omega)
      have pp : 0 < pu_pop (pu_fa (σ2 1) s3) := pu_pop_pos _ fl s3.toNat (by omega) (by unfold pu_fa; exact pu_fw_tb _)
      rw [if_pos hl, if_pos hl, ps_allFalls hI hC k0 hl, Option.bind_some, pu_bc fl, Option.bind_some, pm_fallsWith hI k0 hl, Option.bind_some, pu_bits fl, Option.bind_some]
      simp only [pu_lt]
      rw [pu_w (by omega) (by omega)]
      rcases r4 with ⟨r6, r7⟩ | ⟨r6, r7, r8⟩
      · subst r6 r7
        rw [if_pos (by omega), if_pos rfl]
        exact Or.inr ⟨by omega, _, _, rfl, rfl, rfl, by dsimp only; omega, by dsimp only; omega, Or.inr ⟨k0, hl, rfl⟩⟩
      · have fl1 := pu_fa_lt (A := σ2 1) r6 r7 (by omega)
        rw [if_neg (show ¬ s1 = -1 by omega), pm_fallsWith hI r6 r7, Option.bind_some, pu_bits fl1, Option.bind_some, ← r8]
        by_cases g : s2 < ((pu_pop (pu_fa (σ2 1) s3) : Nat) : Int)
        · rw [if_pos g, if_pos g]
          exact Or.inr ⟨by omega, _, _, rfl, rfl, rfl, by dsimp only; omega, by dsimp only; omega, Or.inr ⟨k0, hl, rfl⟩⟩
        · rw [if_neg g, if_neg g]
          exact Or.inr ⟨by omega, _, _, rfl, rfl, rfl, by dsimp only; omega, by dsimp only; omega, Or.inr ⟨r6, r7, r8⟩⟩
    · rw [if_neg hl, if_neg hl]
      exact Or.inl ⟨_, _, rfl, rfl, rfl⟩) ⟨rfl, rfl, rfl, Or.inl ⟨rfl, rfl⟩⟩
  subst h3
  unfold X10_keystone X11_keystone X0_keystoneOf
  simp only [pu_lt, h1, h2, Option.bind_some, ps_orNone, pm_orNone, pu_b2]
  exact pu_no h rfl rfl
/-- the latest of the ends of a set -/
noncomputable def pu_mx (S : Int → Int) (L : Int) (m : Nat) : Int := pu_fold 0 (fun i : Nat => fun s : Int => pu_if (jq_and (jq_shr L (i : Int)) 1 = 1) (jq_max s (S (i : Int))) s) m
theorem ps_latestEnd {L : Int} (a0 : 0 ≤ a) (a1 : a ≤ 8) : X0_latestEnd L a σ = some (pu_mx (σ 59) L a.toNat) := by
  unfold X0_latestEnd pu_mx
  rw [pu_forK (fun _ => True) id 0 (fun k s => pu_if (jq_and (jq_shr L k) 1 = 1) (jq_max s (σ 59 k)) s) a a0 trivial (fun κ s z0 z1 _ => ⟨?_, trivial⟩) (fun s _ => ?_)]
  · rfl
  · unfold X0_latestEnd_b5
    dsimp only
    rw [if_pos z1, if_pos (show κ < 8 by omega), ps_holds, Option.bind_some, pu_ii, pu_ld z0 (by omega), Option.bind_some]
    simp only [pu_lt]
    rw [pu_w (by omega) (by omega)]
    by_cases g : jq_and (jq_shr L κ) 1 = 1
    · rw [pu_if_p g, pu_if_p g]
    · rw [pu_if_n g, pu_if_n g]
  · unfold X0_latestEnd_b5
    rw [if_neg (by dsimp only; omega)]
    rfl
theorem pu_mx_cg {S S' : Int → Int} {L : Int} {m : Nat} (h : ∀ i, 0 ≤ i → i < m → S i = S' i) : pu_mx S L m = pu_mx S' L m := by
  unfold pu_mx
  exact pu_fold_cg (fun i hi s => by rw [h i (by omega) (by omega)])
theorem pm_chainIn {t : Int × jq_M} (a0 : 0 ≤ a) (a1 : a < 8) (ht : t.1 = a) (hg : σ 1 (102 + 5 * a) ≠ 1) (hz : σ 14 a = 0) : ∃ τ, jq_lp (X11_chain_b36 t (98 + 5 * a)) (0, σ) = some τ ∧ (∀ k, k ≠ 14 → τ k = σ k) ∧ (∀ j, j ≠ a → τ 14 j = σ 14 j) ∧ τ 14 a = pu_mx (σ 14) (σ 1 (100 + 5 * a)) a.toNat := by
  refine pu_lpE (f := X11_chain_b36 t (98 + 5 * a)) (s := (0, σ)) (fun i s => s.1 = (i : Int) ∧ (∀ k, k ≠ 14 → s.2 k = σ k) ∧ (∀ j, j ≠ a → s.2 14 j = σ 14 j) ∧ s.2 14 a = pu_mx (σ 14) (σ 1 (100 + 5 * a)) i) (fun τ => (∀ k, k ≠ 14 → τ k = σ k) ∧ (∀ j, j ≠ a → τ 14 j = σ 14 j) ∧ τ 14 a = pu_mx (σ 14) (σ 1 (100 + 5 * a)) a.toNat) a.toNat ⟨rfl, fun _ _ => rfl, fun _ _ => rfl, hz⟩ (fun i s hs hi => ?_) (fun e h1 h2 => ⟨e, h1, h2⟩)
  obtain ⟨s1, s2⟩ := s
  obtain ⟨hk, q1, q2, q3⟩ := hs
  dsimp only at hk q1 q2 q3
  have k0 : 0 ≤ s1 := by omega
  have w : s2 1 = σ 1 := q1 1 (by omega)
  unfold X11_chain_b36
  dsimp only
  rw [ht]
  by_cases hl : s1 < a
  · rw [if_pos hl, pm_isAgreed a0 a1, Option.bind_some, w, pu_i_n hg, if_pos rfl, pu_w (by omega) (by omega), pu_ld (by omega) (by omega), Option.bind_some, w, pm_isIn, Option.bind_some, pu_ii, pu_ld a0 (by omega), Option.bind_some, pu_ld k0 (by omega), Option.bind_some, pu_sa a0 (by omega), Option.bind_some, show 98 + 5 * a + 2 = 100 + 5 * a by omega]
    simp only [pu_lt]
    rw [pu_w (by omega) (by omega)]
    have e : pu_mx (σ 14) (σ 1 (100 + 5 * a)) (i + 1) = pu_if (jq_and (jq_shr (σ 1 (100 + 5 * a)) s1) 1 = 1) (jq_max (pu_mx (σ 14) (σ 1 (100 + 5 * a)) i) (σ 14 s1)) (pu_mx (σ 14) (σ 1 (100 + 5 * a)) i) := by
      rw [hk]; rfl
    by_cases g : jq_and (jq_shr (σ 1 (100 + 5 * a)) s1) 1 = 1
    · rw [pu_if_p g] at e
      rw [pu_if_p g]
      refine Or.inr ⟨by omega, _, rfl, by dsimp only; omega, fun k hk => (pu_st_ne hk).trans (q1 k hk), fun j hj => (pu_st_b hj).trans (q2 j hj), ?_⟩
      dsimp only
      rw [pu_st_a, e, q3, q2 s1 (by omega)]
    · rw [pu_if_n g] at e
      rw [pu_if_n g]
      exact Or.inr ⟨by omega, _, rfl, by dsimp only; omega, q1, q2, by rw [e]; exact q3⟩
  · rw [if_neg hl]
    exact Or.inl ⟨_, rfl, q1, q2, by rw [q3, show i = a.toNat by omega]⟩
theorem pu_w2 (a b c : Int) : jq_w (jq_w (a + b) - c) = jq_w (a + jq_w (b - c)) := by unfold jq_w; omega
theorem pr_chain {σ1 σ2 : jq_M} (h : jq_Rel σ1 σ2) (w1 : jq_wf jq_zX 132 σ1) (w2 : jq_wf jq_zM 18 σ2) (y1 : jq_lay jq_zX σ1) (y2 : jq_lay jq_zM σ2) {p1 : Int} (hp1 : jq_r p1) : ∃ (r : Int) (σ1' σ2' : jq_M), X10_chain p1 σ1 = some (r, σ1') ∧ X11_chain p1 σ2 = some (r, σ2') ∧ jq_Rel σ1' σ2' := by
  have hI := h.2.2.1.1
  have hC := h.2.2.1.2.1
  obtain ⟨⟨i0, i1, i2, i3, i4, i5, i6, ip, iq, iw, ia⟩, ⟨⟨c0, c1, c2, c3, c4, c5, c6⟩, cp, cw, ca⟩, cN, cS⟩ := h.2.2.1
  unfold X10_chain X11_chain
  by_cases hp : 0 ≤ p1 ∧ p1 < σ2 1 3
  · have hpn : ¬ ¬ (0 ≤ p1 ∧ p1 < σ2 1 3) := fun q => q hp
    have hn : σ1 0 7 = 5 ∨ σ1 0 7 = 25 := by have := h.2.1; omega
    obtain ⟨e, e', h1, h2, h3, h4, h5⟩ := pu_sim (f := X0_daysTogether_b2 (σ1 0 7) p1) (g := X11_chain_b16 p1) (s := (0, σ1)) (t := (0, σ2)) (fun i s t => s.1 = (i : Int) ∧ t.1 = (i : Int) ∧ (∀ k, k ≠ 59 → s.2 k = σ1 k) ∧ (∀ k, k ≠ 14 → t.2 k = σ2 k) ∧ ∀ j, 0 ≤ j → j < s.1 → s.2 59 j = t.2 14 j) (fun e e' => (∀ k, k ≠ 59 → e k = σ1 k) ∧ (∀ k, k ≠ 14 → e' k = σ2 k) ∧ ∀ j, 0 ≤ j → j ≤ p1 → e 59 j = e' 14 j) (p1 + 1).toNat (fun i s t hR hi => by
      obtain ⟨s1, s2⟩ := s
      obtain ⟨t1, t2⟩ := t
      obtain ⟨r1, r2, r3, r4, r5⟩ := hR
      dsimp only at r1 r2 r3 r4 r5
      have r6 : s1 = t1 := by omega
      subst r6
      have k0 : 0 ≤ s1 := by omega
      have w2 : t2 1 = σ2 1 := r4 1 (by omega)
      have hC2 : pu_RC s2 (σ1 0 7) (σ2 1) := hC.mv (fun k x y => r3 _ (by omega))
      unfold X0_daysTogether_b2 X11_chain_b16
      dsimp only
      by_cases hl : p1 < s1
      · rw [if_pos hl, if_pos hl]
        exact Or.inl ⟨_, _, rfl, rfl, r3, r4, fun j x y => r5 j x (by omega)⟩
      · have a1 : s1 < σ2 1 3 := by omega
        obtain ⟨d1, d2, d3, d4⟩ := hC2.2.2.2 s1 k0 a1
        rw [if_neg hl, if_neg hl, if_pos (show s1 < 8 by omega), ps_isAgreed hI hC2 k0 a1, Option.bind_some, pm_articleRow k0 (by omega), Option.bind_some, pu_sa k0 (by omega), Option.bind_some]
        by_cases g : σ2 1 (102 + 5 * s1) = 1
        · rw [pu_i_p g, if_neg (by decide), pu_sa k0 (by omega), Option.bind_some]
          have q : jq_lp (X11_chain_b36 (s1, t2) (98 + 5 * s1)) (0, jq_st t2 14 s1 0) = some (jq_st t2 14 s1 0) := by
            refine jq_lp_inr ?_
            unfold X11_chain_b36
            dsimp only
            by_cases z : 0 < s1
            · rw [if_pos z, pm_isAgreed k0 (by omega), Option.bind_some, pu_st_ne (by omega), w2, pu_i_p g, if_neg (by decide)]
            · rw [if_neg z]
          rw [q, Option.bind_some]
          unfold X11_chain_j95
          simp only [pu_lt]
          rw [pu_ld k0 (by omega), Option.bind_some, pm_isAgreed k0 (by omega), Option.bind_some, pu_st_ne (show (1 : Int) ≠ 14 by omega), w2, pu_i_p g, if_neg (by decide), pu_sa k0 (by omega), Option.bind_some, pu_w (x := s1 + 1) (by omega) (by omega), pu_st_a]
          refine Or.inr ⟨by omega, _, _, rfl, rfl, by dsimp only; omega, by dsimp only; omega, fun k hk => (pu_st_ne hk).trans (r3 k hk), fun k hk => ((pu_st_ne hk).trans (pu_st_ne hk)).trans (r4 k hk), fun j x y => ?_⟩
          dsimp only at y ⊢
          by_cases z : j = s1
          · rw [z, pu_st_a, pu_st_a]; rfl
          · rw [pu_st_b z, pu_st_b z, pu_st_b z]; exact r5 j x (by omega)
        · obtain ⟨υ, u1, u2, u3, u4⟩ := pm_chainIn (σ := jq_st t2 14 s1 0) (t := (s1, t2)) k0 (show s1 < 8 by omega) rfl (by rw [pu_st_ne (by omega), w2]; exact g) pu_st_a
          have w5 : υ 1 = σ2 1 := by rw [u2 1 (by omega), pu_st_ne (by omega), w2]
          rw [pu_i_n g, if_pos rfl, pu_ld k0 (by omega), Option.bind_some, ps_latestEnd k0 (by omega), Option.bind_some, pu_ld k0 (by omega), Option.bind_some, pu_ld k0 (by omega), Option.bind_some, pu_sa k0 (by omega), Option.bind_some, pu_sa (σ := t2) (k := 14) k0 (by omega), Option.bind_some, u1, Option.bind_some, d1, d3, d4]
          unfold X11_chain_j95
          simp only [pu_lt]
          rw [pu_ld k0 (by omega), Option.bind_some, pm_isAgreed k0 (by omega), Option.bind_some, w5, pu_i_n g, if_pos rfl, pu_ld (by omega) (by omega), Option.bind_some, pu_w (x := 98 + 5 * s1 + 3) (by omega) (by omega), pu_ld (by omega) (by omega), Option.bind_some, pu_sa k0 (by omega), Option.bind_some, pu_w (x := s1 + 1) (by omega) (by omega), w5, u4, pu_w2, pu_st_ne (show (1 : Int) ≠ 14 by omega), w2, show 98 + 5 * s1 + 3 = 101 + 5 * s1 by omega]
          refine Or.inr ⟨by omega, _, _, rfl, rfl, by dsimp only; omega, by dsimp only; omega, fun k hk => (pu_st_ne hk).trans (r3 k hk), fun k hk => (((pu_st_ne hk).trans (u2 k hk)).trans (pu_st_ne hk)).trans (r4 k hk), fun j x y => ?_⟩
          dsimp only at y ⊢
          by_cases z : j = s1
          · rw [z, pu_st_a, pu_st_a, pu_mx_cg (S := s2 59) (S' := jq_st t2 14 s1 0 14) (fun i x y => by rw [pu_st_b (by omega)]; exact r5 i (by omega) (by omega))]
          · rw [pu_st_b z, pu_st_b z, u3 j z, pu_st_b z]; exact r5 j x (by omega)) ⟨rfl, rfl, fun _ _ => rfl, fun _ _ => rfl, fun j x y => by dsimp only at y; omega⟩
    refine pu_nf (τ1 := e) (τ2 := e') h (fun k hk => h3 k (fun q => hk (by unfold pu_scr; omega))) ⟨⟨h4 1 (by omega), h4 2 (by omega), h4 3 (by omega), h4 4 (by omega), h4 5 (by omega), h4 6 (by omega), h4 17 (by omega)⟩, fun j _ => by rw [h4 0 (by omega)]⟩ (r := e' 14 p1) (v := 0) ?_ ?_
    · have w9 : e (σ1 0 7) = σ1 (σ1 0 7) := h3 _ (by omega)
      have t9 : X1_isArticle (σ1 0 7) p1 e = some (pu_i (0 ≤ p1 ∧ p1 < σ2 1 3)) := by rw [ps_isArticle (by rw [w9, c4]; omega), w9, c4]
      unfold X0_daysTogether X0_daysTogether_j62
      simp only [pu_lt, ps_isArticle (pu_cA h), t9, c4, Option.bind_some, pu_i_0, if_neg hpn, h1, pu_ld hp.1 (show p1 < 8 by omega), ps_answer, pu_b2, h5 p1 hp.1 (Int.le_refl _)]
    · simp only [pm_isArticle, Option.bind_some, pu_i_0, if_neg hpn, h2, pu_ld hp.1 (show p1 < 8 by omega), pm_gives, pu_b2]
  · refine pu_no h (r := -1) (v := 1) ?_ ?_
    · simp only [pu_lt, ps_isArticle (pu_cA h), c4, Option.bind_some, pu_i_0, if_pos hp, ps_refuse, pu_b2]
    · simp only [pm_isArticle, Option.bind_some, pu_i_0, if_pos hp, pm_refuse, pu_b2]
end
