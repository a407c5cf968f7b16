section
variable {σ σ1 σ2 : jq_M} {o v p a b c : Int} {A : Int → Int} {s : Nat}
/-- the class's measure of luck -/
def pu_lk (A : Int → Int) (a : Int) : Nat := pu_pr (pu_od A) (pu_ls A a) (A 3).toNat * 16 ^ ((A 3).toNat - pu_pop (pu_ls A a))
theorem pu_lk_pl (hI : pu_inv A) (a0 : 0 ≤ a) (a1 : a < A 3) : pu_pl (pu_od A) (pu_ls A a) 8 = pu_lk A a * 16 ^ (8 - (A 3).toNat) := by
  have i3 := hI.2.2.2.1
  have ls := pu_ls_lt hI a0 a1
  have hS2 : (2 : Nat) ^ (A 3).toNat ≤ 2 ^ 8 := Nat.pow_le_pow_right (by decide) (by omega)
  have h256 : (2 : Nat) ^ 8 = 256 := by decide
  have ph := pu_pr_hi (pu_od A) ls (8 - (A 3).toNat)
  rw [show (A 3).toNat + (8 - (A 3).toNat) = 8 by omega] at ph
  have pn := pu_pop_n (A 3).toNat (by omega) _ ls
  unfold pu_lk
  rw [pu_pl_pr, pu_ct_pop _ (by omega), ph, Nat.mul_assoc, ← Nat.pow_add, show (A 3).toNat - pu_pop (pu_ls A a) + (8 - (A 3).toNat) = 8 - pu_pop (pu_ls A a) by omega]
theorem pu_lk_b (hI : pu_inv A) (a0 : 0 ≤ a) (a1 : a < A 3) : pu_lk A a ≤ 4294967296 ∧ pu_pl (pu_od A) (pu_ls A a) 8 ≤ 4294967296 := by
  have i3 := hI.2.2.2.1
  have ls := pu_ls_lt hI a0 a1
  have h1 := pu_pl_b (f := pu_od A) (s := pu_ls A a) 8 (fun j hj => by
    by_cases z : j < (A 3).toNat
    · exact Or.inl (pu_od_b hI z).2
    · exact Or.inr (Nat.testBit_lt_two_pow (Nat.lt_of_lt_of_le ls (Nat.pow_le_pow_right (by decide) (by omega)))))
  have h2 := pu_16 8 (by omega)
  have h3 := pu_lk_pl hI a0 a1
  have h4 := Nat.pow_pos (n := 8 - (A 3).toNat) (show 0 < 16 by decide)
  have h5 : pu_lk A a * 1 ≤ pu_lk A a * 16 ^ (8 - (A 3).toNat) := Nat.mul_le_mul_left _ h4
  omega
theorem ps_weakIn {S k : Int} {O : Nat} (hI : pu_inv A) (hC : pu_RC σ o A) (hk : k ≤ A 3) (k0 : 0 ≤ k) (hb : O ≤ 16 ^ k.toNat) : jq_lp (X0_weakestOf_b44 o σ) ((O : Int), k) = some ((O * 16 ^ ((A 3).toNat - k.toNat) : Nat) : Int) := by
  have i3 := hI.2.2.2.1
  have c4 := hC.1.2.2.2.2.1
  rw [show (O : Int) = ((O * 16 ^ 0 : Nat) : Int) by rw [Nat.pow_zero, Nat.mul_one]]
  refine pu_forB (fun i => ((O * 16 ^ i : Nat) : Int)) k (A 3) _ hk (fun i κ hκ k1 => ?_) ?_
  · have e : O * 16 ^ (i + 1) = O * 16 ^ i * 16 := by rw [Nat.pow_succ, Nat.mul_assoc]
    have b1 : O * 16 ^ i ≤ 16 ^ k.toNat * 16 ^ i := Nat.mul_le_mul_right _ hb
    rw [← Nat.pow_add] at b1
    have b2 := pu_16 (k.toNat + i) (by omega)
    unfold X0_weakestOf_b44
    dsimp only
    rw [e]
    generalize O * 16 ^ i = z at b1
    rw [c4, if_pos k1]
    simp only [pu_lt]
    rw [pu_w (x := κ + 1) (by omega) (by omega), pu_w64 (x := (z : Int) * 16) (by omega) (by omega), show ((z * 16 : Nat) : Int) = (z : Int) * 16 by omega]
  · unfold X0_weakestOf_b44
    dsimp only
    rw [c4, if_neg (by omega), show (A 3 - k).toNat = (A 3).toNat - k.toNat by omega]
theorem pr_weakest {σ1 σ2 : jq_M} (h : jq_Rel σ1 σ2) (w1 : jq_wf jq_zX 132 σ1) (w2 : jq_wf jq_zM 18 σ2) (y1 : jq_lay jq_zX σ1) (y2 : jq_lay jq_zM σ2) : ∃ (r : Int) (σ1' σ2' : jq_M), X10_weakest σ1 = some (r, σ1') ∧ X11_weakest σ2 = some (r, σ2') ∧ jq_Rel σ1' σ2' := by
  have hI := h.2.2.1.1
  have hC := h.2.2.1.2.1
  obtain ⟨⟨i0, i1, i2, i3, i4, i5, i6, ip, iq, iw, ia⟩, ⟨⟨c0, c1, c2, c3, c4, c5, c6⟩, cp, cw, ca⟩, cN, cS⟩ := h.2.2.1
  obtain ⟨e, e', h1, h2, h3⟩ := pu_sim (f := X0_weakestOf_b7 (σ1 0 7) σ1) (g := X11_weakest_b4 σ2) (s := (-1, 0, 0)) (t := (-1, 0)) (fun i s t => s.1 = t.1 ∧ s.2.2 = (i : Int) ∧ t.2 = (i : Int) ∧ (s.1 = -1 ∨ 0 ≤ s.1 ∧ s.1 < σ2 1 3 ∧ s.2.1 = ((pu_lk (σ2 1) s.1 : Nat) : Int))) (fun e e' => e = e') (σ2 1 3).toNat (fun i s t hR hi => by
    obtain ⟨s1, s2, s3⟩ := s
    obtain ⟨t1, t2⟩ := t
    obtain ⟨r1, r2, r3, r4⟩ := hR
    dsimp only at r1 r2 r3 r4
    have r5 : s3 = t2 := by omega
    subst r1 r5
    have k0 : 0 ≤ s3 := by omega
    unfold X0_weakestOf_b7 X11_weakest_b4
    dsimp only
    rw [pu_ld (by omega) (by omega), Option.bind_some, c4]
    by_cases hl : s3 < σ2 1 3
    · have h8 : (2 : Nat) ^ s3.toNat ≤ 2 ^ 7 := Nat.pow_le_pow_right (by decide) (by omega)
      have h9 : (2 : Nat) ^ 7 = 128 := by decide
      have hll := pu_le_lt hI k0 hl
      have ls := pu_ls_lt hI k0 hl
      have hS2 : (2 : Nat) ^ (σ2 1 3).toNat ≤ 2 ^ 8 := Nat.pow_le_pow_right (by decide) (by omega)
      have h256 : (2 : Nat) ^ 8 = 256 := by decide
      have pn := pu_pop_n (σ2 1 3).toNat (by omega) _ ls
      have pb : pu_pr (pu_od (σ2 1)) (pu_ls (σ2 1) s3) (σ2 1 3).toNat ≤ 16 ^ pu_pop (pu_ls (σ2 1) s3) := by
        have key : ∀ m, m ≤ (σ2 1 3).toNat → pu_pr (pu_od (σ2 1)) (pu_ls (σ2 1) s3) m ≤ 16 ^ pu_ct (pu_ls (σ2 1) s3) m := by
          intro m
          induction m with
          | zero => intro _; exact Nat.le_refl _
          | succ m ih =>
            intro hm
            have h1 := ih (by omega)
            rw [show pu_pr (pu_od (σ2 1)) (pu_ls (σ2 1) s3) (m + 1) = if (pu_ls (σ2 1) s3).testBit m = true then pu_pr (pu_od (σ2 1)) (pu_ls (σ2 1) s3) m * pu_od (σ2 1) m else pu_pr (pu_od (σ2 1)) (pu_ls (σ2 1) s3) m from rfl, show pu_ct (pu_ls (σ2 1) s3) (m + 1) = if (pu_ls (σ2 1) s3).testBit m = true then pu_ct (pu_ls (σ2 1) s3) m + 1 else pu_ct (pu_ls (σ2 1) s3) m from rfl]
            split
            · rw [Nat.pow_succ]
              exact Nat.mul_le_mul h1 (pu_od_b hI (by omega)).2
            · exact h1
        have key2 : ∀ d, pu_ct (pu_ls (σ2 1) s3) ((σ2 1 3).toNat + d) = pu_ct (pu_ls (σ2 1) s3) (σ2 1 3).toNat := by
          intro d
          induction d with
          | zero => rfl
          | succ d ih =>
            rw [show (σ2 1 3).toNat + (d + 1) = ((σ2 1 3).toNat + d) + 1 by omega, show pu_ct (pu_ls (σ2 1) s3) ((σ2 1 3).toNat + d + 1) = if (pu_ls (σ2 1) s3).testBit ((σ2 1 3).toNat + d) = true then pu_ct (pu_ls (σ2 1) s3) ((σ2 1 3).toNat + d) + 1 else pu_ct (pu_ls (σ2 1) s3) ((σ2 1 3).toNat + d) from rfl, Nat.testBit_lt_two_pow (Nat.lt_of_lt_of_le ls (Nat.pow_le_pow_right (by decide) (by omega)))]
            exact ih
        have k3 := key2 (8 - (σ2 1 3).toNat)
        rw [show (σ2 1 3).toNat + (8 - (σ2 1 3).toNat) = 8 by omega, pu_ct_pop _ (by omega)] at k3
        rw [k3]
        exact key _ (Nat.le_refl _)
      have wi := ps_weakIn (S := 0) (k := ((pu_pop (pu_ls (σ2 1) s3) : Nat) : Int)) (O := pu_pr (pu_od (σ2 1)) (pu_ls (σ2 1) s3) (σ2 1 3).toNat) hI hC (by omega) (by omega) (by rw [Int.toNat_natCast]; exact pb)
      rw [Int.toNat_natCast] at wi
      have od := ps_odds (σ := σ1) (o := σ1 0 7) (s := pu_ls (σ2 1) s3) (S := ((pu_ls (σ2 1) s3 : Nat) : Int)) hI hC rfl (by omega)
      have bk := pu_lk_b hI k0 hl
      have pk := pu_lk_pl hI k0 hl
      rw [if_pos hl, if_pos hl, ps_allLeans hI hC k0 hl, Option.bind_some, pu_shl1_i k0 (by omega), pu_or (by omega) (by omega), pu_lt, show pu_le (σ2 1) s3 ||| 2 ^ s3.toNat = pu_ls (σ2 1) s3 from rfl, od, Option.bind_some, pu_bc (by omega), Option.bind_some, wi, Option.bind_some, pm_luckOf hI k0 hl, Option.bind_some]
      rw [show pu_pr (pu_od (σ2 1)) (pu_ls (σ2 1) s3) (σ2 1 3).toNat * 16 ^ ((σ2 1 3).toNat - pu_pop (pu_ls (σ2 1) s3)) = pu_lk (σ2 1) s3 from rfl]
      simp only [pu_lt]
      rw [pu_w (x := s3 + 1) (by omega) (by omega)]
      rcases r4 with r6 | ⟨r6, r7, r8⟩
      · subst r6
        rw [if_pos rfl, if_pos rfl]
        exact Or.inr ⟨by omega, _, _, rfl, rfl, rfl, by dsimp only; omega, by dsimp only; omega, Or.inr ⟨k0, hl, rfl⟩⟩
      · have pk2 := pu_lk_pl hI r6 r7
        have c16 := Nat.pow_pos (n := 8 - (σ2 1 3).toNat) (show 0 < 16 by decide)
        have ord : ((((pu_pl (pu_od (σ2 1)) (pu_ls (σ2 1) s3) 8 : Nat) : Int)) < ((pu_pl (pu_od (σ2 1)) (pu_ls (σ2 1) s1) 8 : Nat) : Int)) ↔ (((pu_lk (σ2 1) s3 : Nat) : Int) < s2) := by
          rw [r8, pk, pk2]
          constructor
          · intro q
            have q' := Nat.lt_of_mul_lt_mul_right (show pu_lk (σ2 1) s3 * 16 ^ (8 - (σ2 1 3).toNat) < pu_lk (σ2 1) s1 * 16 ^ (8 - (σ2 1 3).toNat) by omega)
            omega
          · intro q
            have q' := Nat.mul_lt_mul_of_pos_right (show pu_lk (σ2 1) s3 < pu_lk (σ2 1) s1 by omega) c16
            omega
        rw [if_neg (show ¬ s1 = -1 by omega), if_neg (show ¬ s1 = -1 by omega), pm_luckOf hI r6 r7, Option.bind_some]
        by_cases g : ((pu_lk (σ2 1) s3 : Nat) : Int) < s2
        · rw [if_pos (by rw [pu_cmp_lt]; exact g), if_pos (by rw [pu_cmp_lt]; exact ord.mpr g)]
          exact Or.inr ⟨by omega, _, _, rfl, rfl, rfl, by dsimp only; omega, by dsimp only; omega, Or.inr ⟨k0, hl, rfl⟩⟩
        · rw [if_neg (by rw [pu_cmp_lt]; exact g), if_neg (by rw [pu_cmp_lt]; exact fun z => g (ord.mp z))]
          exact Or.inr ⟨by omega, _, _, rfl, rfl, rfl, by dsimp only; omega, by dsimp only; omega, Or.inr ⟨r6, r7, r8⟩⟩
    · rw [if_neg hl, if_neg hl]
      exact Or.inl ⟨_, _, rfl, rfl, rfl⟩) ⟨rfl, rfl, rfl, Or.inl rfl⟩
  subst h3
  unfold X10_weakest X11_weakest X0_weakestOf
  simp only [pu_lt, h1, h2, Option.bind_some, ps_orNone, pm_orNone, pu_b2]
  exact pu_no h rfl rfl
end
