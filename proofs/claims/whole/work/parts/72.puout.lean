section
variable {F k a b : Int}
def pu_tb (F : Int) (k : Nat) : Bool := (Int32.ofInt F).toBitVec.getLsbD k
theorem pu_tb_0 (k : Nat) : pu_tb 0 k = false := by
  unfold pu_tb
  rw [show (Int32.ofInt 0).toBitVec = 0#32 from rfl]
  exact BitVec.getLsbD_zero
theorem pu_tb_s : ∀ s : Nat, s < 32 → ∀ k : Nat, k < 32 → pu_tb (jq_shl 1 (s : Int)) k = decide (k = s) := by decide +kernel
theorem pu_tb_or (a b : Int) (k : Nat) : pu_tb (jq_or a b) k = (pu_tb a k || pu_tb b k) := by
  unfold pu_tb jq_or
  rw [jq_oft, Int32.toBitVec_or, BitVec.getLsbD_or]
theorem pu_one : ∀ x : BitVec 32, ((x &&& 1#32).toInt = 1) = (x.getLsbD 0 = true) := by
  intro x
  have h1 : (x &&& 1#32).toNat = x.toNat % 2 := by
    rw [BitVec.toNat_and, show (1#32).toNat = 1 from rfl, Nat.and_one_is_mod]
  have h2 : (x &&& 1#32).toInt = ((x.toNat % 2 : Nat) : Int) := by
    rw [BitVec.toInt_eq_toNat_of_lt (by rw [h1]; omega), h1]
  have h3 : x.getLsbD 0 = decide (x.toNat % 2 = 1) := by
    rw [BitVec.getLsbD, Nat.testBit_zero]
  rw [h2, h3]
  apply propext
  constructor
  · intro h; exact decide_eq_true (by omega)
  · intro h; have := of_decide_eq_true h; omega
theorem pu_tb_is {n : Nat} (hn : n < 32) : (jq_and (jq_shr F (n : Int)) 1 = 1) = (pu_tb F n = true) := by
  unfold jq_and jq_shr pu_tb
  rw [jq_oft]
  show (((Int32.ofInt F >>> (Int32.ofInt (n : Int) &&& 31)).toBitVec &&& (Int32.ofInt 1).toBitVec).toInt = 1) = _
  rw [Int32.toBitVec_shiftRight, show (Int32.ofInt 1).toBitVec = 1#32 from rfl, pu_one]
  show ((((Int32.ofInt F).toBitVec).sshiftRight (((Int32.ofInt (n : Int) &&& 31).toBitVec.smod 32).toNat)).getLsbD 0 = true) = _
  rw [pu_shk n hn, BitVec.getLsbD_sshiftRight]
  rw [if_pos (by omega), Nat.add_zero]
  simp
theorem pu_tb_i {n : Nat} (hk : k = (n : Int)) (hn : n < 32) : (jq_and (jq_shr F k) 1 = 1) = (pu_tb F n = true) := by
  rw [hk]; exact pu_tb_is hn
end
section
variable {σ σ1 σ2 m1 m2 : jq_M} {o x p : Int} {A S : Int → Int} {c U : Nat}
noncomputable def pu_sgn (A S : Int → Int) : Nat := pu_set (fun p => decide (A (8 + 2 * (p : Int)) ≤ pu_worth A S (p : Int))) (A 1).toNat
theorem pu_sgn_i (hI : pu_inv A) : pu_sg A S = ((pu_sgn A S : Nat) : Int) := by
  have i1 := hI.2.1
  unfold pu_sg pu_sgn
  refine pu_fold_set (by omega) (fun i hi s hs => ?_)
  unfold pu_sst
  by_cases h : A (8 + 2 * (i : Int)) ≤ pu_worth A S (i : Int)
  · rw [pu_if_p h, if_pos (decide_eq_true h)]
  · rw [pu_if_n h, if_neg (by rw [decide_eq_false h]; decide)]
theorem pu_sgn_lt (hI : pu_inv A) : pu_sgn A S < 32 := by
  have i1 := hI.2.1
  unfold pu_sgn
  exact Nat.lt_of_lt_of_le (pu_set_lt _ _) (show (2 : Nat) ^ (A 1).toNat ≤ 2 ^ 5 from Nat.pow_le_pow_right (by decide) (by omega))
/-- who signs the seating of a code -/
noncomputable def pu_gs (A : Int → Int) (c : Nat) : Nat := pu_sgn A (pu_sr (pu_cu A c))
theorem pm_sv1 (hI : pu_inv (σ2 1)) (hx : x = (c : Int)) (hc : c < pu_N (σ2 1)) (ho : pu_ok (σ2 1) c = true) (h2 : pu_v2 σ2 m2) : ∃ τ, X11_seatsBy x m2 = some (1, τ) ∧ pu_v2 σ2 τ ∧ X11_signing τ = some ((pu_gs (σ2 1) c : Nat) : Int) := by
  obtain ⟨p3, pc⟩ := pu_N_p hI hc
  have nb := pu_N_b hI
  have e1 := pu_v2_1 h2
  have i0 := hI.1
  have i1 := hI.2.1
  have hok := ho
  unfold pu_ok at ho
  obtain ⟨r, hr⟩ : ∃ r, pu_row (σ2 1 0).toNat (σ2 1 1).toNat c = some r := by
    cases h : pu_row (σ2 1 0).toNat (σ2 1 1).toNat c with
    | none => rw [h] at ho; cases ho
    | some r => exact ⟨r, rfl⟩
  have ec : pu_cu (σ2 1) c = r := (pu_cur_last (P := (σ2 1 0).toNat) (K := (σ2 1 1).toNat) (by omega) (by omega) (by omega) (by omega) c (by omega)).2.2 r hr pc
  rcases pm_seatsBy (σ := m2) (x := x) (c := c) (by rw [e1]; exact hI) (by rw [e1]; omega) hx (by omega) with ⟨g1, -⟩ | ⟨r', τ, g1, g2, g3, g4, g5⟩
  · rw [e1, hr] at g1; cases g1
  · rw [e1, hr] at g1
    cases g1
    rw [e1] at g5
    have v2 : pu_v2 σ2 τ := fun k hk => (g3 k hk).trans (h2 k hk)
    have e3 := pu_v2_1 v2
    refine ⟨τ, g2, v2, ?_⟩
    unfold pu_gs
    rw [pm_signing (by rw [e3]; exact hI), e3, pu_sg_cg hI (S' := pu_sr (pu_cu (σ2 1) c)) (by rw [ec]; exact pu_rw_s g4 g5), pu_sgn_i hI]
theorem pm_sv0 (hI : pu_inv (σ2 1)) (hx : x = (c : Int)) (hc : c < pu_N (σ2 1)) (ho : pu_ok (σ2 1) c = false) (h2 : pu_v2 σ2 m2) : ∃ τ, X11_seatsBy x m2 = some (0, τ) ∧ pu_v2 σ2 τ := by
  obtain ⟨p3, pc⟩ := pu_N_p hI hc
  have nb := pu_N_b hI
  have e1 := pu_v2_1 h2
  unfold pu_ok at ho
  rcases pm_seatsBy (σ := m2) (x := x) (c := c) (by rw [e1]; exact hI) (by rw [e1]; omega) hx (by omega) with ⟨-, τ, g1, g2⟩ | ⟨r, τ, g1, -⟩
  · exact ⟨τ, g1, fun k hk => (g2 k hk).trans (h2 k hk)⟩
  · rw [e1] at g1; rw [g1] at ho; cases ho
/-- a set occurs -/
def pu_occ (A : Int → Int) (k : Nat) : Prop := ∃ c, c < pu_N A ∧ pu_ok A c = true ∧ pu_gs A c = k
theorem pm_arePleased (hI : pu_inv (σ2 1)) (hx : x = (U : Int)) (hU : U < 2147483648) (h2 : pu_v2 σ2 m2) : ∃ τ, X11_arePleased x m2 = some (pu_i (∃ k, pu_occ (σ2 1) k ∧ U &&& k = U), τ) ∧ pu_v2 σ2 τ := by
  have nb := pu_N_b hI
  unfold X11_arePleased
  refine pu_lpE (f := X11_arePleased_b2 x) (s := (0, m2)) (fun i t => t.1 = (i : Int) ∧ pu_v2 σ2 t.2 ∧ ∀ c, c < i → pu_ok (σ2 1) c = true → ¬ (U &&& pu_gs (σ2 1) c = U)) (fun e => (∃ τ, e = .inl τ ∧ pu_v2 σ2 τ ∧ ∃ k, pu_occ (σ2 1) k ∧ U &&& k = U) ∨ ∃ τ, e = .inr τ ∧ pu_v2 σ2 τ ∧ ¬ ∃ k, pu_occ (σ2 1) k ∧ U &&& k = U) (pu_N (σ2 1)) ⟨rfl, h2, fun c hc => by omega⟩ (fun i t ht hi => ?_) (fun e h1 h3 => ?_)
  · obtain ⟨t1, t2⟩ := t
    obtain ⟨hk, q1, q2⟩ := ht
    dsimp only at hk q1 q2
    unfold X11_arePleased_b2
    dsimp only
    rw [pm_codes2 hI q1, Option.bind_some]
    by_cases hl : t1 < ((pu_N (σ2 1) : Nat) : Int)
    · rw [if_pos hl]
      cases ho : pu_ok (σ2 1) i with
      | false =>
        obtain ⟨τ, g1, g2⟩ := pm_sv0 hI hk (by omega) ho q1
        rw [g1, pu_b2, if_pos rfl, pu_lt, pu_w (by omega) (by omega)]
        refine Or.inr ⟨by omega, _, rfl, by dsimp only; omega, g2, fun c hc hok => ?_⟩
        by_cases z : c = i
        · rw [z, ho] at hok; cases hok
        · exact q2 c (by omega) hok
      | true =>
        obtain ⟨τ, g1, g2, g3⟩ := pm_sv1 hI hk (by omega) ho q1
        have gl : pu_gs (σ2 1) i < 32 := pu_sgn_lt hI
        have zz := pu_andn0 (a := U) (b := pu_gs (σ2 1) i) hU (by omega)
        rw [g1, pu_b2, if_neg (by decide), g3, Option.bind_some, hx, pu_lt, pu_w (by omega) (by omega)]
        by_cases z : U &&& pu_gs (σ2 1) i = U
        · rw [if_pos (by rw [zz]; exact z)]
          exact Or.inl ⟨_, rfl, Or.inl ⟨_, rfl, g2, _, ⟨i, by omega, ho, rfl⟩, z⟩⟩
        · rw [if_neg (by rw [zz]; exact z)]
          refine Or.inr ⟨by omega, _, rfl, by dsimp only; omega, g2, fun c hc hok => ?_⟩
          by_cases z2 : c = i
          · rw [z2]; exact z
          · exact q2 c (by omega) hok
    · rw [if_neg hl]
      refine Or.inl ⟨_, rfl, Or.inr ⟨_, rfl, q1, ?_⟩⟩
      rintro ⟨k, ⟨c, h1, h2, h3⟩, h4⟩
      exact q2 c (by omega) h2 (by rw [h3]; exact h4)
  · rw [h1, Option.bind_some]
    rcases h3 with ⟨τ, e1, e2, e3⟩ | ⟨τ, e1, e2, e3⟩
    · rw [e1, pu_i_p e3]
      exact ⟨τ, rfl, e2⟩
    · rw [e1, pu_i_n e3]
      exact ⟨τ, rfl, e2⟩
theorem ps_outcomes (hI : pu_inv A) (hC : pu_RC σ1 o A) (hoo : o = 5 ∨ o = 25) : ∃ F τ, X8_outcomes o σ1 = some (F, τ) ∧ pu_fr1 σ1 τ ∧ ∀ k, k < 32 → (pu_tb F k = true ↔ pu_occ A k) := by
  have nb := pu_N_b hI
  -- a reference that holds A
  obtain ⟨σ2, hσ⟩ : ∃ σ2 : jq_M, σ2 1 = A := ⟨fun _ => A, rfl⟩
  subst hσ
  obtain ⟨-, mb⟩ := ps_many hI hC
  obtain ⟨τ, b1, b2, -⟩ := ps_begin (m1 := σ1) hI hC hoo (fun _ _ _ _ _ _ => rfl)
  generalize hM : pu_ci (σ2 1) (pu_N (σ2 1)) = M at b1 mb
  obtain ⟨e, e', h1, -, h3, h4⟩ := pu_enum (f := X8_outcomes_b11 o (M : Int)) (g := fun c : Nat => if c < pu_N (σ2 1) then some (.inl (c + 1)) else some (.inr ())) (s := (0, 0, τ)) (t := 0) (pu_N (σ2 1)) (pu_ok (σ2 1)) (fun c s t => t = c ∧ s.2.1 = ((pu_ci (σ2 1) c : Nat) : Int) ∧ pu_v1 σ1 o (σ2 1) c s.2.2 ∧ ∀ k, k < 32 → (pu_tb s.1 k = true ↔ ∃ d, d < c ∧ pu_ok (σ2 1) d = true ∧ pu_gs (σ2 1) d = k)) (fun e _ => pu_fr1 σ1 e.2 ∧ ∀ k, k < 32 → (pu_tb e.1 k = true ↔ pu_occ (σ2 1) k)) (fun c s t hc ho hR => by
      obtain ⟨s1, s2, s3⟩ := s
      obtain ⟨r1, r4, r6, r8⟩ := hR
      dsimp only at r4 r6 r8
      subst r1
      obtain ⟨-, u3, u4⟩ := pu_sv0 (m2 := σ2) (x := (t : Int)) hI rfl hc ho r6 (fun _ _ => rfl)
      dsimp only
      rw [if_pos hc]
      refine ⟨_, rfl, rfl, by rw [u4]; exact r4, u3, fun k hk => ?_⟩
      rw [r8 k hk]
      constructor
      · rintro ⟨d, d1, d2⟩; exact ⟨d, by omega, d2⟩
      · rintro ⟨d, d1, d2, d3⟩
        refine ⟨d, ?_, d2, d3⟩
        by_cases z : d = t
        · rw [z, ho] at d2; cases d2
        · omega) (fun c s t hc ho hR => by
      obtain ⟨s1, s2, s3⟩ := s
      obtain ⟨r1, r4, r6, r8⟩ := hR
      dsimp only at r4 r6 r8
      subst r1
      obtain ⟨w1, -, w2, w3⟩ := pu_sv1 (m2 := σ2) (x := (t : Int)) hI hC hoo rfl hc ho r6 (fun _ _ => rfl)
      have lt := pu_ci_lt hc ho
      rw [hM] at lt
      obtain ⟨υ, g1, g2⟩ := ps_signersOf hI (pu_v1_C hC hoo r6) (show (53 : Int) ≠ o + 19 by omega) (S := pu_sr (pu_cu (σ2 1) t)) w1
      obtain ⟨ω, g3, g4, g5⟩ := w2 υ (fun k a b c d => g2 k a)
      have gl : pu_gs (σ2 1) t < 32 := pu_sgn_lt hI
      rw [pu_sgn_i hI] at g1
      rw [show pu_sgn (σ2 1) (pu_sr (pu_cu (σ2 1) t)) = pu_gs (σ2 1) t from rfl] at g1
      refine Or.inl ?_
      unfold X8_outcomes_b11
      dsimp only
      rw [if_pos (show s2 < (M : Int) by omega), g1, pu_b2, g3, if_pos hc]
      simp only [pu_lt, Option.bind_some]
      rw [pu_w (x := s2 + 1) (by omega) (by omega)]
      refine ⟨_, _, rfl, rfl, rfl, by dsimp only; rw [w3]; omega, g5, fun k hk => ?_⟩
      dsimp only
      rw [pu_tb_or, pu_tb_s _ gl k hk, Bool.or_eq_true, r8 k hk, decide_eq_true_eq]
      constructor
      · rintro (⟨d, d1, d2⟩ | d)
        · exact ⟨d, by omega, d2⟩
        · exact ⟨t, by omega, ho, d.symm⟩
      · rintro ⟨d, d1, d2, d3⟩
        by_cases z : d = t
        · rw [z] at d3; exact Or.inr d3.symm
        · exact Or.inl ⟨d, by omega, d2, d3⟩) (fun s t hR => by
      obtain ⟨s1, s2, s3⟩ := s
      obtain ⟨r1, r4, r6, r8⟩ := hR
      dsimp only at r4 r6 r8
      subst r1
      rw [hM] at r4
      unfold X8_outcomes_b11
      dsimp only
      rw [if_neg (show ¬ s2 < (M : Int) by omega), if_neg (Nat.lt_irrefl _)]
      exact ⟨_, _, rfl, rfl, pu_sfr hoo r6.1, r8⟩) ⟨rfl, rfl, b2, fun k hk => ⟨fun q => absurd q (by rw [pu_tb_0]; decide), fun ⟨d, d1, _⟩ => absurd d1 (Nat.not_lt_zero d)⟩⟩
  refine ⟨e.1, e.2, ?_, h3, h4⟩
  unfold X8_outcomes
  rw [b1, pu_b2, h1]
  rfl
theorem ps_isMetF {F : Int} (hF : ∀ k, k < 32 → (pu_tb F k = true ↔ pu_occ A k)) (hI : pu_inv A) (hx : x = (U : Int)) (hU : U < 2147483648) : X8_isMet F x σ = some (pu_i (∃ k, pu_occ A k ∧ U &&& k = U)) := by
  unfold X8_isMet
  refine pu_lpE (f := X8_isMet_b2 F x σ) (s := 0) (fun i t => t = (i : Int) ∧ ∀ k, k < i → pu_occ A k → ¬ (U &&& k = U)) (fun e => (e = .inl () ∧ ∃ k, pu_occ A k ∧ U &&& k = U) ∨ (e = .inr () ∧ ¬ ∃ k, pu_occ A k ∧ U &&& k = U)) 32 ⟨rfl, fun k hk => by omega⟩ (fun i t ht hi => ?_) (fun e h1 h3 => ?_)
  · obtain ⟨hk, q2⟩ := ht
    unfold X8_isMet_b2
    by_cases hl : t < 32
    · have it := pu_tb_i (F := F) hk (by omega)
      have zz := pu_andn0 (a := U) (b := i) hU (by omega)
      rw [if_pos hl, ps_holds, Option.bind_some, it, pu_lt, pu_w (by omega) (by omega), hx]
      by_cases g : pu_tb F i = true
      · rw [pu_i_p g, if_neg (by decide)]
        by_cases z : U &&& i = U
        · rw [if_pos (by rw [hk, zz]; exact z)]
          exact Or.inl ⟨_, rfl, Or.inl ⟨rfl, i, (hF i (by omega)).mp g, z⟩⟩
        · rw [if_neg (by rw [hk, zz]; exact z)]
          refine Or.inr ⟨by omega, _, rfl, by omega, fun k h1 h2 => ?_⟩
          by_cases z2 : k = i
          · rw [z2]; exact z
          · exact q2 k (by omega) h2
      · rw [pu_i_n g, if_pos rfl]
        refine Or.inr ⟨by omega, _, rfl, by omega, fun k h1 h2 => ?_⟩
        by_cases z2 : k = i
        · rw [z2] at h2; exact absurd ((hF i (by omega)).mpr h2) g
        · exact q2 k (by omega) h2
    · rw [if_neg hl]
      refine Or.inl ⟨_, rfl, Or.inr ⟨rfl, ?_⟩⟩
      rintro ⟨k, ⟨c, h1, h2, h3⟩, h4⟩
      have : k < 32 := by rw [← h3]; exact pu_sgn_lt hI
      exact q2 k (by omega) ⟨c, h1, h2, h3⟩ h4
  · rw [h1, Option.bind_some]
    rcases h3 with ⟨e1, e3⟩ | ⟨e1, e3⟩
    · rw [e1, pu_i_p e3]; rfl
    · rw [e1, pu_i_n e3]; rfl
end
section
variable {σ1 σ2 : jq_M}
theorem pr_pleased {σ1 σ2 : jq_M} (h : jq_Rel σ1 σ2) (w1 : jq_wf jq_zX 132 σ1) (w2 : jq_wf jq_zM 18 σ2) (y1 : jq_lay jq_zX σ1) (y2 : jq_lay jq_zM σ2) {p1 : Int} (hp1 : jq_r p1) : ∃ (r : Int) (σ1' σ2' : jq_M), X10_pleased p1 σ1 = some (r, σ1') ∧ X11_pleased p1 σ2 = some (r, σ2') ∧ jq_Rel σ1' σ2' := by
  have hI := h.2.2.1.1
  have hC := h.2.2.1.2.1
  have hoo : σ1 0 7 = 5 ∨ σ1 0 7 = 25 := by have := h.2.1; omega
  have c2 := hC.1.2.2.1
  have c0 := hC.1.1
  have i1 := hI.2.1
  have al := ps_all (σ := σ1) (o := σ1 0 7) (A := σ2 1) c2
  have al2 : jq_w (jq_shl 1 (σ2 1 1) - 1) = ((2 ^ (σ2 1 1).toNat - 1 : Nat) : Int) := by
    have hp := Nat.two_pow_pos (σ2 1 1).toNat
    have hb : (2 : Nat) ^ (σ2 1 1).toNat ≤ 2 ^ 5 := Nat.pow_le_pow_right (by decide) (by omega)
    rw [pu_shl1_i (by omega) (by omega)]
    generalize 2 ^ (σ2 1 1).toNat = z at hp hb
    rw [pu_w (x := (z : Int) - 1) (by omega) (by omega)]
    omega
  have hb : (2 : Nat) ^ (σ2 1 1).toNat ≤ 2 ^ 5 := Nat.pow_le_pow_right (by decide) (by omega)
  unfold X10_pleased X11_pleased
  simp only [pu_lt, al, Option.bind_some, ps_within, pm_everybody, pm_isFrom, al2, pu_i_0]
  by_cases hp : 0 ≤ p1 ∧ p1 ≤ ((2 ^ (σ2 1 1).toNat - 1 : Nat) : Int)
  · have hx : p1 = ((p1.toNat : Nat) : Int) := by omega
    have hpn : ¬ ¬ (0 ≤ p1 ∧ p1 ≤ ((2 ^ (σ2 1 1).toNat - 1 : Nat) : Int)) := fun q => q hp
    rw [if_neg hpn, if_neg hpn, c0, pm_codes hI, Option.bind_some]
    by_cases z : σ2 1 0 = 0
    · have hN : pu_N (σ2 1) = 0 := by unfold pu_N; rw [if_pos z]
      rw [if_pos z, hN, if_pos (by rfl)]
      exact pu_no h rfl rfl
    · have hN : pu_N (σ2 1) ≠ 0 := by
        unfold pu_N
        rw [if_neg z]
        have := Nat.pow_pos (n := (σ2 1 1).toNat) (show 0 < (σ2 1 0).toNat by have := hI.1; omega)
        omega
      obtain ⟨F, τ, f1, f2, f3⟩ := ps_outcomes hI hC hoo
      have mt := ps_isMetF (σ := τ) f3 hI hx (by omega)
      obtain ⟨υ, g1, g2⟩ := pm_arePleased (m2 := σ2) hI hx (by omega) (fun _ _ => rfl)
      rw [if_neg z, if_neg (by omega), f1, pu_b2, mt, Option.bind_some, ps_number, Option.bind_some, g1, pu_b2, pu_num, ps_answer, pu_b2]
      unfold X11_pleased_j52
      by_cases q : ∃ k, pu_occ (σ2 1) k ∧ p1.toNat &&& k = p1.toNat
      · rw [pu_i_p q, if_neg (by decide)]
        exact pu_nf h f2 (pu_fr2_9 g2) rfl rfl
      · rw [pu_i_n q, if_pos rfl]
        exact pu_nf h f2 (pu_fr2_9 g2) rfl rfl
  · rw [if_pos hp, if_pos hp]
    exact pu_no h rfl rfl
end
