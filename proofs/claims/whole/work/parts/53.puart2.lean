section
variable {σ σ1 σ2 τ1 τ2 : jq_M} {o v p q n a b c : Int} {A A' : Int → Int}
/-- n days -/
theorem pa_days (h : pu_K σ1 o σ2) (n0 : 0 ≤ n) (n1 : n ≤ 1000) (hd : σ2 1 4 + n ≤ 1000000) : ∃ (r : Int) (τ1 τ2 : jq_M), X1_passDays o n σ1 = some (r, τ1) ∧ X11_daysGo n σ2 = some (r, τ2) ∧ pu_K τ1 o τ2 ∧ pu_F1 o σ1 τ1 ∧ pu_F2 σ2 τ2 ∧ (0 ≤ r ∧ r ≤ n) ∧ τ2 1 4 = σ2 1 4 + n := by
  have e := pu_sim (f := X1_passDays_b4 o n) (g := X11_daysGo_b4 n) (s := (0, 0, σ1)) (t := (0, 0, σ2)) (fun i s t => s.1 = t.1 ∧ s.2.1 = (i : Int) ∧ t.2.1 = (i : Int) ∧ 0 ≤ t.1 ∧ t.1 ≤ t.2.1 ∧ pu_K s.2.2 o t.2.2 ∧ pu_F1 o σ1 s.2.2 ∧ pu_F2 σ2 t.2.2 ∧ t.2.2 1 4 = σ2 1 4 + t.2.1) (fun e e' => e.1 = e'.1 ∧ 0 ≤ e.1 ∧ e.1 ≤ n ∧ pu_K e.2 o e'.2 ∧ pu_F1 o σ1 e.2 ∧ pu_F2 σ2 e'.2 ∧ e'.2 1 4 = σ2 1 4 + n) n.toNat (fun i s t hR hi => ?_) ⟨rfl, rfl, rfl, by dsimp only; omega, by dsimp only; omega, h, pu_F1_r _ _, pu_F2_r _, by dsimp only; omega⟩
  · obtain ⟨⟨e1, e2⟩, ⟨f1, f2⟩, g1, g2, g3, g4, g5, g6, g7, g8, g9⟩ := e
    dsimp only at g3 g4 g5 g6 g7 g8 g9
    subst g3
    unfold X1_passDays X11_daysGo
    rw [g1, g2]
    exact ⟨e1, e2, f2, rfl, rfl, g6, g7, g8, ⟨g4, g5⟩, g9⟩
  · obtain ⟨s1, s2, s3⟩ := s
    obtain ⟨t1, t2, t3⟩ := t
    obtain ⟨r1, r2, r3, r4, r5, r6, r7, r8, r9⟩ := hR
    dsimp only at r1 r2 r3 r4 r5 r6 r7 r8 r9
    have r10 : s2 = t2 := by omega
    subst r1 r10
    have t0 : 0 ≤ s2 := by omega
    unfold X1_passDays_b4 X11_daysGo_b4
    dsimp only
    by_cases hl : s2 < n
    · obtain ⟨r, τ1, τ2, a1, a2, a3, a4, a5, a6, a7, -⟩ := pa_day r6 (by omega)
      rw [if_pos hl, if_pos hl, a1, a2, pu_b2, pu_b2]
      simp only [pu_lt]
      rw [pu_w (by omega) (by omega), pu_w (by omega) (by omega)]
      exact Or.inr ⟨by omega, _, _, rfl, rfl, rfl, by dsimp only; omega, by dsimp only; omega, by dsimp only; omega, by dsimp only; omega, a3, r7.tr a4, r8.tr a5, by dsimp only; omega⟩
    · rw [if_neg hl, if_neg hl]
      have : s2 = n := by omega
      subst this
      exact Or.inl ⟨_, _, rfl, rfl, rfl, r4, r5, r6, r7, r8, r9⟩
theorem pa_agree (h : pu_K σ1 o σ2) (a0 : 0 ≤ a) (a1 : a < σ2 1 3) : ∃ (r : Int) (τ1 τ2 : jq_M), X1_agreeOn o a σ1 = some (r, τ1) ∧ X11_agrees a σ2 = some (r, τ2) ∧ pu_K τ1 o τ2 ∧ pu_F1 o σ1 τ1 ∧ pu_F2 σ2 τ2 ∧ (r = 0 ∨ r = 1) ∧ τ2 1 4 = σ2 1 4 := by
  have hI := h.1
  have hC := h.2
  obtain ⟨i0, i1, i2, i3, i4, i5, i6, ip, iq, iw, ia⟩ := h.1
  obtain ⟨⟨c0, c1, c2, c3, c4, c5, c6⟩, cp, cw, ca⟩ := h.2
  have gl := pu_ag_lt (A := σ2 1) (by omega)
  unfold X1_agreeOn X11_agrees
  rw [ps_isReady hI hC a0 a1, pm_isOpen hI a0 a1, Option.bind_some, Option.bind_some, pu_ii, pu_ii]
  by_cases g : pu_open (σ2 1) a
  · have h2 : (2 : Nat) ^ a.toNat < 2147483648 := Nat.lt_of_le_of_lt (Nat.pow_le_pow_right (by decide) (show a.toNat ≤ 8 by omega)) (by decide)
    rw [pu_if_p g, pu_if_p g, pm_articleRow a0 (by omega), Option.bind_some, pu_w (by omega) (by omega), pu_sa (by omega) (by omega), Option.bind_some, pu_lt, c5, pu_shl1_i a0 (by omega), pu_or (by omega) h2, show 98 + 5 * a + 4 = 102 + 5 * a by omega]
    have ga := pu_ag_set (A := σ2 1) (A' := jq_st σ2 1 (102 + 5 * a) 1 1) (a := a) (pu_st_b (by omega)) a0 a1 pu_st_a (fun b x y z => pu_st_b (by omega))
    have kk := h.arts (τ1 := jq_st σ1 o 5 ((pu_ag (σ2 1) ||| 2 ^ a.toNat : Nat) : Int)) (τ2 := jq_st σ2 1 (102 + 5 * a) 1) (fun k x y => pu_st_ne x) (fun j x y => pu_st_b x) (fun k x y => pu_st_ne x) (fun j x y => pu_st_b (y a a0 a1).2) (by rw [pu_st_a, ga]) (by rw [pu_st_b (by omega), pu_st_b (by omega), c6]) (by rw [pu_st_b (by omega)]; exact i4) (fun b x y => by
      rw [pu_st_ne (by omega), pu_st_b (by omega)]
      obtain ⟨-, -, -, -, -, ⟨r6, r7⟩, r8⟩ := ia b x y
      refine ⟨(ca b x y).2.2.2, r6, r7, ?_⟩
      by_cases q : b = a
      · rw [q, pu_st_a]; exact Or.inr rfl
      · rw [pu_st_b (by omega)]; exact r8)
    exact ⟨1, _, _, rfl, rfl, kk.1, kk.2.1, kk.2.2, Or.inr rfl, pu_st_b (by omega)⟩
  · rw [pu_if_n g, pu_if_n g]
    exact ⟨0, _, _, rfl, rfl, h, pu_F1_r _ _, pu_F2_r _, Or.inl rfl, rfl⟩
/-- what falls with an article: m steps on -/
def pu_fw (A : Int → Int) (a : Nat) : Nat → Nat
  | 0 => 2 ^ a
  | m + 1 => if pu_ln A ((a : Int) + 1 + m) &&& pu_fw A a m = 0 then pu_fw A a m else pu_fw A a m ||| 2 ^ (a + 1 + m)
def pu_fa (A : Int → Int) (a : Int) : Nat := pu_fw A a.toNat (A 3 - (a + 1)).toNat
theorem pu_fw_lt {a : Nat} : ∀ m : Nat, pu_fw A a m < 2 ^ (a + 1 + m) := by
  intro m
  induction m with
  | zero =>
    show 2 ^ a < 2 ^ (a + 1)
    rw [Nat.pow_succ]
    have := Nat.two_pow_pos a
    omega
  | succ m ih =>
    have h1 : pu_fw A a m < 2 ^ (a + 1 + (m + 1)) := Nat.lt_trans ih (Nat.pow_lt_pow_right (by decide) (by omega))
    rw [show pu_fw A a (m + 1) = if pu_ln A ((a : Int) + 1 + m) &&& pu_fw A a m = 0 then pu_fw A a m else pu_fw A a m ||| 2 ^ (a + 1 + m) from rfl]
    split
    · exact h1
    · exact Nat.or_lt_two_pow h1 (Nat.pow_lt_pow_right (by decide) (by omega))
theorem pu_fw_tb {a : Nat} : ∀ m : Nat, (pu_fw A a m).testBit a = true := by
  intro m
  induction m with
  | zero => show (2 ^ a).testBit a = true; rw [pu_bit1]; simp
  | succ m ih =>
    rw [show pu_fw A a (m + 1) = if pu_ln A ((a : Int) + 1 + m) &&& pu_fw A a m = 0 then pu_fw A a m else pu_fw A a m ||| 2 ^ (a + 1 + m) from rfl]
    split
    · exact ih
    · rw [Nat.testBit_or, ih]; rfl
theorem pu_fa_lt (a0 : 0 ≤ a) (a1 : a < A 3) (i3 : A 3 ≤ 8) : pu_fa A a < 256 := by
  unfold pu_fa
  have h := pu_fw_lt (A := A) (a := a.toNat) (A 3 - (a + 1)).toNat
  exact Nat.lt_of_lt_of_le h (show (2 : Nat) ^ _ ≤ 2 ^ 8 from Nat.pow_le_pow_right (by decide) (by omega))
/-- a loop from b on -/
theorem pu_forB {S E : Type} {f : S × Int → Option ((S × Int) ⊕ E)} (acc : Nat → S) (b n : Int) (e : E) (hbn : b ≤ n) (h : ∀ (i : Nat) (k : Int), k = b + i → k < n → f (acc i, k) = some (.inl (acc (i + 1), k + 1))) (hx : f (acc (n - b).toNat, n) = some (.inr e)) : jq_lp f (acc 0, b) = some e := by
  have := jq_lp_run (f := f) (fun i : Nat => (acc i, b + (i : Int))) (n - b).toNat (fun i hi => by rw [h i _ rfl (by omega), show b + ((i + 1 : Nat) : Int) = b + i + 1 by omega]) (by rw [show b + (((n - b).toNat : Nat) : Int) = n by omega]; exact hx)
  rw [show b + ((0 : Nat) : Int) = b by omega] at this
  exact this
theorem ps_allFalls (hI : pu_inv A) (hC : pu_RC σ o A) (a0 : 0 ≤ a) (a1 : a < A 3) : X1_allFallsOf o a σ = some ((pu_fa A a : Nat) : Int) := by
  have i3 := hI.2.2.2.1
  have c4 := hC.1.2.2.2.2.1
  have ca := hC.2.2.2
  unfold X1_allFallsOf pu_fa
  rw [show jq_lp (X1_allFallsOf_b4 o a σ) (0, 0) = some ((pu_fw A a.toNat (A 3 - (a + 1)).toNat : Nat) : Int) from ?_]
  · rfl
  have g := pu_forB (f := X1_allFallsOf_b4 o a σ) (fun i => if i ≤ a.toNat then (0 : Int) else ((pu_fw A a.toNat (i - (a.toNat + 1)) : Nat) : Int)) 0 (A 3) ((pu_fw A a.toNat (A 3 - (a + 1)).toNat : Nat) : Int) (by omega) (fun i k hk k1 => ?_) ?_
  · rw [if_pos (Nat.zero_le _)] at g
    exact g
  · obtain ⟨l1, l2, l3⟩ := pu_ln_i hI (show 0 ≤ k by omega) k1
    by_cases q1 : i < a.toNat
    · rw [if_pos (by omega), if_pos (by omega)]
      unfold X1_allFallsOf_b4
      dsimp only
      have z : jq_and ((pu_ln A k : Nat) : Int) 0 = 0 := (pu_and (b := 0) (by omega) (by omega)).trans (by rw [Nat.and_zero]; rfl)
      rw [c4, if_pos k1, if_pos (show k < 8 by omega), if_neg (show ¬ k = a by omega), pu_ld (by omega) (by omega), Option.bind_some, (ca k (by omega) k1).2.2.1, l1, z, if_pos rfl, pu_lt, pu_w (by omega) (by omega)]
    · by_cases q2 : i = a.toNat
      · rw [if_pos (by omega), if_neg (by omega), show i + 1 - (a.toNat + 1) = 0 by omega]
        unfold X1_allFallsOf_b4
        dsimp only
        have w3 : (2 : Nat) ^ k.toNat ≤ 2 ^ 8 := Nat.pow_le_pow_right (by decide) (by omega)
        have w4 : (2 : Nat) ^ 8 = 256 := by decide
        have z : jq_or 0 ((2 ^ k.toNat : Nat) : Int) = ((2 ^ k.toNat : Nat) : Int) := (pu_or (a := 0) (by omega) (by omega)).trans (by rw [Nat.zero_or])
        rw [c4, if_pos k1, if_pos (show k < 8 by omega), if_pos (show k = a by omega), pu_lt, pu_lt, pu_w (by omega) (by omega), pu_shl1_i (by omega) (by omega), z, show k.toNat = a.toNat by omega]
        rfl
      · obtain ⟨j, hj⟩ : ∃ j, i = a.toNat + 1 + j := ⟨i - (a.toNat + 1), by omega⟩
        subst hj
        rw [if_neg (by omega), if_neg (by omega), show a.toNat + 1 + j - (a.toNat + 1) = j by omega, show a.toNat + 1 + j + 1 - (a.toNat + 1) = j + 1 by omega]
        have w := pu_fw_lt (A := A) (a := a.toNat) j
        have w2 : (2 : Nat) ^ (a.toNat + 1 + j) ≤ 2 ^ 8 := Nat.pow_le_pow_right (by decide) (by omega)
        have w3 : (2 : Nat) ^ 8 = 256 := by decide
        have w4 : (2 : Nat) ^ k.toNat ≤ 2 ^ 8 := Nat.pow_le_pow_right (by decide) (by omega)
        have e : pu_fw A a.toNat (j + 1) = if pu_ln A k &&& pu_fw A a.toNat j = 0 then pu_fw A a.toNat j else pu_fw A a.toNat j ||| 2 ^ k.toNat := by
          rw [show pu_fw A a.toNat (j + 1) = if pu_ln A ((a.toNat : Int) + 1 + j) &&& pu_fw A a.toNat j = 0 then pu_fw A a.toNat j else pu_fw A a.toNat j ||| 2 ^ (a.toNat + 1 + j) from rfl, show (a.toNat : Int) + 1 + j = k by omega, show a.toNat + 1 + j = k.toNat by omega]
        rw [e]
        generalize pu_fw A a.toNat j = s at w ⊢
        unfold X1_allFallsOf_b4
        dsimp only
        rw [c4, if_pos k1, if_pos (show k < 8 by omega), if_neg (show ¬ k = a by omega), pu_ld (by omega) (by omega), Option.bind_some, (ca k (by omega) k1).2.2.1, l1, pu_and (by omega) (by omega)]
        simp only [pu_lt]
        rw [pu_w (by omega) (by omega), pu_shl1_i (by omega) (by omega), pu_or (by omega) (by omega)]
        by_cases g : pu_ln A k &&& s = 0
        · rw [if_pos g, g, if_pos (by rfl)]
        · rw [if_neg g, if_neg (by omega)]
  · rw [if_neg (by omega), show (A 3 - 0).toNat - (a.toNat + 1) = (A 3 - (a + 1)).toNat by omega]
    unfold X1_allFallsOf_b4
    dsimp only
    rw [c4, if_neg (by omega)]
theorem pm_fallsWith (hI : pu_inv (σ 1)) (a0 : 0 ≤ a) (a1 : a < σ 1 3) : X11_fallsWith a σ = some ((pu_fa (σ 1) a : Nat) : Int) := by
  have i3 := hI.2.2.2.1
  unfold X11_fallsWith pu_fa
  simp only [pu_lt]
  rw [pu_w (by omega) (by omega), pu_shl1_i a0 (by omega)]
  rw [show jq_lp (X11_fallsWith_b8 σ) (((2 ^ a.toNat : Nat) : Int), a + 1) = some ((pu_fw (σ 1) a.toNat (σ 1 3 - (a + 1)).toNat : Nat) : Int) from ?_]
  · rfl
  refine pu_forB (fun i => ((pu_fw (σ 1) a.toNat i : Nat) : Int)) (a + 1) (σ 1 3) _ (by omega) (fun i k hk k1 => ?_) ?_
  · obtain ⟨l1, l2, l3⟩ := pu_ln_i hI (show 0 ≤ k by omega) k1
    have w := pu_fw_lt (A := σ 1) (a := a.toNat) i
    have w2 : (2 : Nat) ^ (a.toNat + 1 + i) ≤ 2 ^ 8 := Nat.pow_le_pow_right (by decide) (by omega)
    have w3 : (2 : Nat) ^ 8 = 256 := by decide
    have w4 : (2 : Nat) ^ k.toNat ≤ 2 ^ 8 := Nat.pow_le_pow_right (by decide) (by omega)
    have e : pu_fw (σ 1) a.toNat (i + 1) = if pu_ln (σ 1) k &&& pu_fw (σ 1) a.toNat i = 0 then pu_fw (σ 1) a.toNat i else pu_fw (σ 1) a.toNat i ||| 2 ^ k.toNat := by
      rw [show pu_fw (σ 1) a.toNat (i + 1) = if pu_ln (σ 1) ((a.toNat : Int) + 1 + i) &&& pu_fw (σ 1) a.toNat i = 0 then pu_fw (σ 1) a.toNat i else pu_fw (σ 1) a.toNat i ||| 2 ^ (a.toNat + 1 + i) from rfl, show (a.toNat : Int) + 1 + i = k by omega, show a.toNat + 1 + i = k.toNat by omega]
    rw [e]
    generalize pu_fw (σ 1) a.toNat i = s at w ⊢
    unfold X11_fallsWith_b8
    dsimp only
    rw [pu_ld (by omega) (by omega), Option.bind_some, if_pos k1, pm_articleRow (by omega) (by omega), Option.bind_some, pu_w (by omega) (by omega), pu_ld (by omega) (by omega), Option.bind_some, show 98 + 5 * k + 2 = 100 + 5 * k by omega, l1, pu_and (by omega) (by omega)]
    simp only [pu_lt]
    rw [pu_w (by omega) (by omega), pu_shl1_i (by omega) (by omega), pu_or (by omega) (by omega), pu_or0 (by unfold jq_r; omega)]
    by_cases g : pu_ln (σ 1) k &&& s = 0
    · rw [if_pos g, g, if_pos (by rfl)]
    · rw [if_neg g, if_neg (by omega)]
  · unfold X11_fallsWith_b8
    dsimp only
    rw [pu_ld (by omega) (by omega), Option.bind_some, if_neg (by omega)]
theorem pu_pop_pos : ∀ F : Nat, F < 256 → ∀ k : Nat, k < 8 → F.testBit k = true → 0 < pu_pop F := by decide +kernel
theorem pa_fall (h : pu_K σ1 o σ2) (a0 : 0 ≤ a) (a1 : a < σ2 1 3) (hg : σ2 1 (102 + 5 * a) = 1) : ∃ (r : Int) (τ1 τ2 : jq_M), X1_letFall o a σ1 = some (r, τ1) ∧ X11_fallsNow a σ2 = some (r, τ2) ∧ pu_K τ1 o τ2 ∧ pu_F1 o σ1 τ1 ∧ pu_F2 σ2 τ2 ∧ (0 < r ∧ r ≤ 8) ∧ τ2 1 4 = σ2 1 4 := by
  have hI := h.1
  have hC := h.2
  obtain ⟨i0, i1, i2, i3, i4, i5, i6, ip, iq, iw, ia⟩ := h.1
  obtain ⟨⟨c0, c1, c2, c3, c4, c5, c6⟩, cp, cw, ca⟩ := h.2
  have gl := pu_ag_lt (A := σ2 1) (by omega)
  have fl := pu_fa_lt (A := σ2 1) a0 a1 (by omega)
  have Fl : pu_fa (σ2 1) a &&& pu_ag (σ2 1) < 256 := Nat.lt_of_le_of_lt Nat.and_le_left fl
  have Ft : (pu_fa (σ2 1) a &&& pu_ag (σ2 1)).testBit a.toNat = true := by
    rw [Nat.testBit_and, pu_ag_tb, show 98 + 5 * ((a.toNat : Nat) : Int) + 4 = 102 + 5 * a by omega, decide_eq_true hg, decide_eq_true (show a.toNat < (σ2 1 3).toNat by omega)]
    unfold pu_fa
    rw [pu_fw_tb]
    rfl
  have pp := pu_pop_pos _ Fl a.toNat (by omega) Ft
  have pq : ∀ F : Nat, F < 256 → pu_pop F ≤ 8 := by decide +kernel
  have pq' := pq _ Fl
  unfold X1_letFall X1_letFall_j61 X11_fallsNow
  rw [ps_isAgreed hI hC a0 a1, Option.bind_some, pu_i_p hg, if_neg (by decide), ps_allFalls hI hC a0 a1, pm_fallsWith hI a0 a1, Option.bind_some, Option.bind_some, pm_agreedNow hI, Option.bind_some]
  simp only [pu_lt]
  rw [c5, pu_and (by omega) (by omega)]
  generalize pu_fa (σ2 1) a &&& pu_ag (σ2 1) = F at Fl Ft pp pq' ⊢
  refine pu_lpE (f := X1_letFall_b23 o (F : Int)) (s := ((0 : Int), σ1)) (fun i t => t.1 = (i : Int) ∧ (∀ k, k ≠ o + 12 → t.2 k = σ1 k) ∧ ∀ b : Nat, b < (σ2 1 3).toNat → t.2 (o + 12) b = if (b : Int) < t.1 ∧ F.testBit b = true then 0 else σ1 (o + 12) b) (fun e => (∀ k, k ≠ o + 12 → e k = σ1 k) ∧ ∀ b : Nat, b < (σ2 1 3).toNat → e (o + 12) b = if F.testBit b = true then 0 else σ1 (o + 12) b) (σ2 1 3).toNat ⟨rfl, fun _ _ => rfl, fun b hb => by rw [if_neg (by dsimp only; omega)]⟩ (fun i t ht hi => ?_) (fun e h1 h2 => ?_)
  · obtain ⟨t1, t2⟩ := t
    obtain ⟨hk, q1, q2⟩ := ht
    dsimp only at hk q1 q2
    have w := q1 o (by omega)
    have hk0 : 0 ≤ t1 := by omega
    unfold X1_letFall_b23
    simp only [w, c4, ps_holds, Option.bind_some, pu_lt, pu_ii]
    by_cases hl : t1 < σ2 1 3
    · have it := pu_isin_i (s := F) (k := t1) (by omega) hk0 (by omega)
      rw [if_pos hl, if_pos (show t1 < 8 by omega), pu_w (by omega) (by omega), it, pu_sa hk0 (by omega), Option.bind_some]
      by_cases g : F.testBit t1.toNat = true
      · rw [pu_if_p g]
        refine Or.inr ⟨by omega, _, rfl, by dsimp only; omega, fun k hk => (pu_st_ne hk).trans (q1 k hk), fun b hb => ?_⟩
        dsimp only
        by_cases z : (b : Int) = t1
        · rw [z, pu_st_a, if_pos ⟨by omega, by rw [show b = t1.toNat by omega]; exact g⟩]
        · rw [pu_st_b z, q2 b hb]
          by_cases z2 : (b : Int) < t1 ∧ F.testBit b = true
          · rw [if_pos z2, if_pos ⟨by omega, z2.2⟩]
          · rw [if_neg z2, if_neg (fun y => z2 ⟨by omega, y.2⟩)]
      · rw [pu_if_n g]
        refine Or.inr ⟨by omega, _, rfl, by dsimp only; omega, q1, fun b hb => ?_⟩
        dsimp only
        rw [q2 b hb]
        by_cases z2 : (b : Int) < t1 ∧ F.testBit b = true
        · rw [if_pos z2, if_pos ⟨by omega, z2.2⟩]
        · rw [if_neg z2, if_neg (fun y => z2 ⟨by
            by_cases z : (b : Int) = t1
            · exact absurd (by rw [show t1.toNat = b by omega]; exact y.2) g
            · omega, y.2⟩)]
    · rw [if_neg hl]
      refine Or.inl ⟨t2, rfl, q1, fun b hb => ?_⟩
      rw [q2 b hb]
      by_cases z : F.testBit b = true
      · rw [if_pos z, if_pos ⟨by omega, z⟩]
      · rw [if_neg z, if_neg (fun y => z y.2)]
  · obtain ⟨g1, g2⟩ := h2
    have w := g1 o (by omega)
    rw [h1, Option.bind_some, w, c5, pu_andn (by omega) (by omega), pu_bc Fl, Option.bind_some]
    refine pu_lpE (f := X11_fallsNow_b13 (F : Int)) (s := ((0 : Int), σ2)) (fun i t => t.1 = (i : Int) ∧ (∀ k, k ≠ 1 → t.2 k = σ2 k) ∧ (∀ j, (∀ a, 0 ≤ a → a < σ2 1 3 → j ≠ 101 + 5 * a ∧ j ≠ 102 + 5 * a) → t.2 1 j = σ2 1 j) ∧ ∀ b : Nat, b < (σ2 1 3).toNat → t.2 1 (101 + 5 * (b : Int)) = (if (b : Int) < t.1 ∧ F.testBit b = true then 0 else σ2 1 (101 + 5 * (b : Int))) ∧ t.2 1 (102 + 5 * (b : Int)) = if (b : Int) < t.1 ∧ F.testBit b = true then 0 else σ2 1 (102 + 5 * (b : Int))) (fun e => (∀ k, k ≠ 1 → e k = σ2 k) ∧ (∀ j, (∀ a, 0 ≤ a → a < σ2 1 3 → j ≠ 101 + 5 * a ∧ j ≠ 102 + 5 * a) → e 1 j = σ2 1 j) ∧ ∀ b : Nat, b < (σ2 1 3).toNat → e 1 (101 + 5 * (b : Int)) = (if F.testBit b = true then 0 else σ2 1 (101 + 5 * (b : Int))) ∧ e 1 (102 + 5 * (b : Int)) = if F.testBit b = true then 0 else σ2 1 (102 + 5 * (b : Int))) (σ2 1 3).toNat ⟨rfl, fun _ _ => rfl, fun _ _ => rfl, fun b hb => by rw [if_neg (by dsimp only; omega), if_neg (by dsimp only; omega)]; exact ⟨rfl, rfl⟩⟩ (fun i t ht hi => ?_) (fun e' h3 h4 => ?_)
    · obtain ⟨t1, t2⟩ := t
      obtain ⟨hk, q1, q3, q2⟩ := ht
      dsimp only at hk q1 q2 q3
      have w3 : t2 1 3 = σ2 1 3 := q3 3 (fun a x y => by omega)
      have hk0 : 0 ≤ t1 := by omega
      unfold X11_fallsNow_b13
      simp only [pm_isIn, Option.bind_some, pu_lt, pu_ii]
      rw [pu_ld (by omega) (by omega), Option.bind_some, w3]
      by_cases hl : t1 < σ2 1 3
      · have it := pu_isin_i (s := F) (k := t1) (by omega) hk0 (by omega)
        simp only [pm_articleRow hk0 (show t1 < 8 by omega), Option.bind_some]
        rw [if_pos hl, pu_w (x := t1 + 1) (by omega) (by omega), it, pu_w (x := 98 + 5 * t1 + 4) (by omega) (by omega), pu_w (x := 98 + 5 * t1 + 3) (by omega) (by omega), pu_sa (by omega) (by omega), Option.bind_some, pu_sa (by omega) (by omega), Option.bind_some, show 98 + 5 * t1 + 4 = 102 + 5 * t1 by omega, show 98 + 5 * t1 + 3 = 101 + 5 * t1 by omega]
        by_cases g : F.testBit t1.toNat = true
        · rw [pu_if_p g]
          refine Or.inr ⟨by omega, _, rfl, by dsimp only; omega, fun k hk => ((pu_st_ne hk).trans (pu_st_ne hk)).trans (q1 k hk), fun j hj => ((pu_st_b (hj t1 hk0 hl).1).trans (pu_st_b (hj t1 hk0 hl).2)).trans (q3 j hj), fun b hb => ?_⟩
          dsimp only
          by_cases z : (b : Int) = t1
          · rw [z, pu_st_a, pu_st_b (show 102 + 5 * t1 ≠ 101 + 5 * t1 by omega), pu_st_a, if_pos ⟨by omega, by rw [show b = t1.toNat by omega]; exact g⟩, if_pos ⟨by omega, by rw [show b = t1.toNat by omega]; exact g⟩]
            exact ⟨rfl, rfl⟩
          · rw [pu_st_b (by omega), pu_st_b (by omega), pu_st_b (by omega), pu_st_b (by omega), (q2 b hb).1, (q2 b hb).2]
            by_cases z2 : (b : Int) < t1 ∧ F.testBit b = true
            · rw [if_pos z2, if_pos z2, if_pos ⟨by omega, z2.2⟩, if_pos ⟨by omega, z2.2⟩]
              exact ⟨rfl, rfl⟩
            · rw [if_neg z2, if_neg z2, if_neg (fun y => z2 ⟨by omega, y.2⟩), if_neg (fun y => z2 ⟨by omega, y.2⟩)]
              exact ⟨rfl, rfl⟩
        · rw [pu_if_n g]
          refine Or.inr ⟨by omega, _, rfl, by dsimp only; omega, q1, q3, fun b hb => ?_⟩
          dsimp only
          rw [(q2 b hb).1, (q2 b hb).2]
          by_cases z2 : (b : Int) < t1 ∧ F.testBit b = true
          · rw [if_pos z2, if_pos z2, if_pos ⟨by omega, z2.2⟩, if_pos ⟨by omega, z2.2⟩]
            exact ⟨rfl, rfl⟩
          · have z3 : ¬ ((b : Int) < t1 + 1 ∧ F.testBit b = true) := fun y => z2 ⟨by
              by_cases z : (b : Int) = t1
              · exact absurd (by rw [show t1.toNat = b by omega]; exact y.2) g
              · omega, y.2⟩
            rw [if_neg z2, if_neg z2, if_neg z3, if_neg z3]
            exact ⟨rfl, rfl⟩
      · rw [if_neg hl]
        refine Or.inl ⟨t2, rfl, q1, q3, fun b hb => ?_⟩
        rw [(q2 b hb).1, (q2 b hb).2]
        by_cases z : F.testBit b = true
        · rw [if_pos z, if_pos z, if_pos ⟨by omega, z⟩, if_pos ⟨by omega, z⟩]
          exact ⟨rfl, rfl⟩
        · rw [if_neg z, if_neg z, if_neg (fun y => z y.2), if_neg (fun y => z y.2)]
          exact ⟨rfl, rfl⟩
    · obtain ⟨f1, f3, f2⟩ := h4
      rw [h3, Option.bind_some, pu_bits Fl, Option.bind_some]
      have f4 : e' 1 4 = σ2 1 4 := f3 4 (fun a x y => by omega)
      have ga := pu_ag_clr (A := σ2 1) (A' := e' 1) (F := F) (f3 3 (fun a x y => by omega)) (fun b hb => (f2 b hb).2)
      have kk := h.arts (τ1 := jq_st e o 5 ((pu_ag (σ2 1) ^^^ (pu_ag (σ2 1) &&& F) : Nat) : Int)) (τ2 := e') (fun k x y => (pu_st_ne x).trans (g1 k y)) (fun j x y => (pu_st_b x).trans (by rw [w])) (fun k x y => f1 k x) (fun j x y => f3 j y) (by rw [pu_st_a, ga]) (by rw [pu_st_b (by omega), w, c6, f4]) (by rw [f4]; exact i4) (fun b x y => by
        obtain ⟨-, -, -, -, -, ⟨r6, r7⟩, r8⟩ := ia b x y
        obtain ⟨r1, -⟩ := ia b x y
        have u1 := g2 b.toNat (by omega)
        obtain ⟨u2, u3⟩ := f2 b.toNat (by omega)
        rw [show ((b.toNat : Nat) : Int) = b by omega] at u1 u2 u3
        rw [pu_st_ne (by omega), u1, u2, u3, (ca b x y).2.2.2]
        by_cases z : F.testBit b.toNat = true
        · rw [if_pos z, if_pos z]
          exact ⟨rfl, by omega, by omega, Or.inl ⟨rfl, by omega⟩⟩
        · rw [if_neg z, if_neg z]
          exact ⟨rfl, r6, r7, r8⟩)
      exact ⟨((pu_pop F : Nat) : Int), _, _, rfl, rfl, kk.1, kk.2.1, kk.2.2, ⟨by omega, by omega⟩, f4⟩
end
