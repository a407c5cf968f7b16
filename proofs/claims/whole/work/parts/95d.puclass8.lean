section
variable {σ σ1 σ2 m1 m2 : jq_M} {o f k x : Int} {A : Int → Int} {a b c d : Nat}
/-- an earlier good one, so moved -/
def pu_eg (A : Int → Int) (c : Nat) (k f : Int) : Prop := ∃ d, d < c ∧ (d < pu_N A ∧ pu_ok A d = true) ∧ (∀ q, 0 ≤ q → q < A 1 → pu_rq A d q = pu_pz (A 0) k f (pu_rq A c q)) ∧ pu_gd A (pu_rq A d)
theorem pu_rs_u (hI : pu_inv A) (ha : a < pu_N A) (oa : pu_ok A a = true) (hb : b < pu_N A) (ob : pu_ok A b = true) (h : ∀ q, 0 ≤ q → q < A 1 → pu_rq A a q = pu_rq A b q) : a = b := by
  have i1 := hI.2.1
  have e1 := pu_rs_c hI ha oa
  have e2 := pu_rs_c hI hb ob
  rw [pu_hc_cg _ (fun q a b => h q a (by omega)), e2] at e1
  omega
theorem ps_ahead (hI : pu_inv A) (hC : pu_RC σ o A) (hoo : o = 5 ∨ o = 25) (hc : c < pu_N A) (ho : pu_ok A c = true) (hS : ∀ q, 0 ≤ q → q < A 1 → σ 53 q = pu_rq A c q) (hT : ∀ d, d < pu_N A → pu_ok A d = true → σ 56 ((pu_ci A d : Nat) : Int) = pu_sg A (pu_rq A d)) (hM : pu_ci A (pu_N A) ≤ 720) (hf : f = 0 ∨ f = 1) (k0 : 0 ≤ k) (k1 : k < A 0) (hx : x = ((pu_ci A c : Nat) : Int)) : ∃ τ, X8_isGoodAhead o k f x σ = some (pu_i (pu_eg A c k f), τ) ∧ ∀ k, k ≠ 55 → τ k = σ k := by
  obtain ⟨p3, pc⟩ := pu_N_p hI hc
  have i0 := hI.1
  have i1 := hI.2.1
  have c0 := hC.1.1
  have c2 := hC.1.2.2.1
  have bd := pu_rs_b hI hc ho
  obtain ⟨d, d1, d2, d3, d4⟩ := pu_rs_m hI hc ho hf k0 k1
  obtain ⟨υ, l1, l2, l3⟩ := ps_like (f := f) hI hC (by omega) p3 hS bd
  obtain ⟨τ, t1, t2, t3, -⟩ := ps_turnAll (σ := υ) (o := o) (row := 55) (n := k) (P := A 0) (m := A 1) (by rw [l2 o (by omega)]; exact c0) (by rw [l2 o (by omega)]; exact c2) (by omega) (by omega) (by omega) (by omega) (by omega) k0 (by omega) (fun q a b => by
    have := pu_mir_b (P := A 0) (f := f) (bd q a b).1 (bd q a b).2
    rw [l3 q a b]
    omega)
  have fr : ∀ k, k ≠ 55 → τ k = σ k := fun k hk => (t2 k hk).trans (l2 k hk)
  have row : ∀ q, 0 ≤ q → q < A 1 → τ 55 q = pu_rq A d q := fun q a b => by
    have := pu_mir_b (P := A 0) (f := f) (bd q a b).1 (bd q a b).2
    rw [t3 q a b, l3 q a b, d4 q a b]
    unfold pu_tn pu_tk
    rw [if_neg (by omega)]
  have hr := pu_cu_row hI d1 d2
  have pd := (pu_N_p hI d1).2
  obtain ⟨g1, -, g2, -⟩ := pu_mc_all (P := (A 0).toNat) (K := (A 1).toNat) (by omega) (by omega) (by omega) (by omega) pd hr
  have num := ps_numberOf (σ := τ) (o := o) (row := 55) (P := (A 0).toNat) (K := (A 1).toNat) (r := pu_cu A d) (by omega) (by omega) (by omega) (by rw [fr o (by omega), c0]; omega) (by rw [fr o (by omega), c2]; omega) g1 g2 (fun j hj => by
    rw [row (j : Int) (by omega) (by omega)]
    unfold pu_rq pu_sr
    rw [Int.toNat_natCast])
  rw [(pu_lc_all (P := (A 0).toNat) (K := (A 1).toNat) (by omega) (by omega) (by omega) (by omega) d (by omega)).2.2 _ hr pd] at num
  have num2 : X8_numberOf o 55 τ = some ((pu_ci A d : Nat) : Int) := num
  have all := ps_all (σ := τ) (o := o) (A := A) (by rw [fr o (by omega)]; exact c2)
  have tab := hT d d1 d2
  rw [← fr 56 (by omega)] at tab
  have uni : ∀ d', (d' < pu_N A ∧ pu_ok A d' = true) → (∀ q, 0 ≤ q → q < A 1 → pu_rq A d' q = pu_pz (A 0) k f (pu_rq A c q)) → d' = d := fun d' h1 h2 => pu_rs_u hI h1.1 h1.2 d1 d2 (fun q a b => (h2 q a b).trans (d4 q a b).symm)
  have lt := pu_ci_lt d1 d2
  refine ⟨τ, ?_, fr⟩
  unfold X8_isGoodAhead
  rw [l1, Option.bind_some]
  unfold X8_isGoodAhead_j59
  rw [t1, Option.bind_some, num2, Option.bind_some, if_neg (show ¬ ((pu_ci A d : Nat) : Int) < 0 by omega)]
  by_cases z : d < c
  · rw [if_pos (by have := (pu_ci_iff (b := c) d2).mpr z; omega), if_pos (show ((pu_ci A d : Nat) : Int) < 720 by omega), pu_ld (by omega) (by omega), Option.bind_some, all, Option.bind_some, tab]
    by_cases w : pu_gd A (pu_rq A d)
    · rw [if_pos (show pu_sg A (pu_rq A d) = jq_w (jq_shl 1 (A 1) - 1) from w), pu_i_p ⟨d, z, ⟨d1, d2⟩, d4, w⟩]
    · rw [if_neg (show ¬ pu_sg A (pu_rq A d) = jq_w (jq_shl 1 (A 1) - 1) from w), pu_i_n]
      rintro ⟨d', -, h1, h2, h3⟩
      rw [uni d' h1 h2] at h3
      exact w h3
  · rw [if_neg (by have := pu_ci_le (A := A) (a := c) (b := d) (by omega); omega), pu_i_n]
    rintro ⟨d', h0, h1, h2, -⟩
    rw [uni d' h1 h2] at h0
    exact z h0
theorem pu_eg_lk (hc : c < pu_N A) (ho : pu_ok A c = true) : (∃ k f, (f = 0 ∨ f = 1) ∧ 0 ≤ k ∧ k < A 0 ∧ pu_eg A c k f) ↔ ∃ d, d < c ∧ pu_lkk A c d ∧ pu_gc A d := by
  constructor
  · rintro ⟨k, f, hf, k0, k1, d, h1, h2, h3, h4⟩
    exact ⟨d, h1, ⟨⟨hc, ho⟩, h2, f, k, hf, k0, k1, h3⟩, h2.2, h4⟩
  · rintro ⟨d, h1, ⟨-, h2, f, k, hf, k0, k1, h3⟩, -, h4⟩
    exact ⟨k, f, hf, k0, k1, d, h1, h2, h3, h4⟩
theorem ps_earlier (hI : pu_inv A) (hC : pu_RC σ o A) (hoo : o = 5 ∨ o = 25) (hc : c < pu_N A) (ho : pu_ok A c = true) (hS : ∀ q, 0 ≤ q → q < A 1 → σ 53 q = pu_rq A c q) (hT : ∀ d, d < pu_N A → pu_ok A d = true → σ 56 ((pu_ci A d : Nat) : Int) = pu_sg A (pu_rq A d)) (hM : pu_ci A (pu_N A) ≤ 720) (hx : x = ((pu_ci A c : Nat) : Int)) : ∃ τ, X8_isLikeAnEarlierGood o x σ = some (pu_i (∃ d, d < c ∧ pu_lkk A c d ∧ pu_gc A d), τ) ∧ ∀ k, k ≠ 55 → τ k = σ k := by
  have i0 := hI.1
  have c0 := hC.1.1
  unfold X8_isLikeAnEarlierGood
  rw [← pu_eg_lk hc ho]
  refine pu_lpE (f := X8_isLikeAnEarlierGood_b2 o x) (s := ((0 : Int), σ)) (fun i t => t.1 = (i : Int) ∧ (∀ k, k ≠ 55 → t.2 k = σ k) ∧ ∀ k f, (f = 0 ∨ f = 1) → 0 ≤ k → k < t.1 → ¬ pu_eg A c k f) (fun e => (∃ τ, e = .inl τ ∧ (∀ k, k ≠ 55 → τ k = σ k) ∧ ∃ k f, (f = 0 ∨ f = 1) ∧ 0 ≤ k ∧ k < A 0 ∧ pu_eg A c k f) ∨ ∃ τ, e = .inr τ ∧ (∀ k, k ≠ 55 → τ k = σ k) ∧ ¬ ∃ k f, (f = 0 ∨ f = 1) ∧ 0 ≤ k ∧ k < A 0 ∧ pu_eg A c k f) (A 0).toNat ⟨rfl, fun _ _ => rfl, fun k f _ a b => by dsimp only at b; omega⟩ (fun i t ht hi => ?_) (fun e h1 h2 => ?_)
  · obtain ⟨t1, t2⟩ := t
    obtain ⟨hk, q1, q2⟩ := ht
    dsimp only at hk q1 q2
    have k0 : 0 ≤ t1 := by omega
    unfold X8_isLikeAnEarlierGood_b2
    dsimp only
    have to : t2 o 0 = A 0 := by rw [q1 o (by omega), c0]
    by_cases w : t1 < A 0
    · have hC2 : ∀ m : jq_M, (∀ k, k ≠ 55 → m k = σ k) → pu_RC m o A := fun m hm => hC.mv (fun k x y => hm _ (by omega))
      obtain ⟨τ, a1, a2⟩ := ps_ahead (f := 0) (σ := t2) (k := t1) hI (hC2 t2 q1) hoo hc ho (fun q a b => by rw [q1 53 (by omega)]; exact hS q a b) (fun d a b => by rw [q1 56 (by omega)]; exact hT d a b) hM (Or.inl rfl) k0 w hx
      have q3 : ∀ k, k ≠ 55 → τ k = σ k := fun k hk => (a2 k hk).trans (q1 k hk)
      obtain ⟨υ, b1, b2⟩ := ps_ahead (f := 1) (σ := τ) (k := t1) hI (hC2 τ q3) hoo hc ho (fun q a b => by rw [q3 53 (by omega)]; exact hS q a b) (fun d a b => by rw [q3 56 (by omega)]; exact hT d a b) hM (Or.inr rfl) k0 w hx
      have q4 : ∀ k, k ≠ 55 → υ k = σ k := fun k hk => (b2 k hk).trans (q3 k hk)
      rw [if_pos (show t1 < t2 o 0 by rw [to]; exact w), a1, pu_b2]
      by_cases z : pu_eg A c t1 0
      · rw [pu_i_p z, if_neg (show ¬ ((1 : Int) = 0) by decide)]
        exact Or.inl ⟨_, rfl, Or.inl ⟨_, rfl, q3, t1, 0, Or.inl rfl, k0, w, z⟩⟩
      · rw [pu_i_n z, if_pos rfl, b1, pu_b2]
        by_cases y : pu_eg A c t1 1
        · rw [pu_i_p y, if_neg (show ¬ ((1 : Int) = 0) by decide)]
          exact Or.inl ⟨_, rfl, Or.inl ⟨_, rfl, q4, t1, 1, Or.inr rfl, k0, w, y⟩⟩
        · rw [pu_i_n y, if_pos rfl, pu_lt, pu_w (x := t1 + 1) (by omega) (by omega)]
          refine Or.inr ⟨by omega, _, rfl, by dsimp only; omega, q4, fun k f hf a b => ?_⟩
          dsimp only at b
          by_cases e : k = t1
          · rw [e]
            rcases hf with rfl | rfl
            · exact z
            · exact y
          · exact q2 k f hf a (by omega)
    · rw [if_neg (show ¬ t1 < t2 o 0 by rw [to]; exact w)]
      refine Or.inl ⟨_, rfl, Or.inr ⟨_, rfl, q1, ?_⟩⟩
      rintro ⟨k, f, hf, a, b, e⟩
      exact q2 k f hf a (by omega) e
  · rw [h1]
    rcases h2 with ⟨τ, rfl, q1, q2⟩ | ⟨τ, rfl, q1, q2⟩
    · rw [pu_i_p q2]
      exact ⟨τ, rfl, q1⟩
    · rw [pu_i_n q2]
      exact ⟨τ, rfl, q1⟩
/-- the class writes down who signs at each -/
theorem ps_table (hI : pu_inv A) (hC : pu_RC σ1 o A) (hoo : o = 5 ∨ o = 25) (hm : pu_v1 σ1 o A 0 m1) : ∃ τ, jq_lp (X8_countClasses_b8 o ((pu_ci A (pu_N A) : Nat) : Int)) (0, m1) = some τ ∧ (∀ k, k ≠ 53 → k ≠ o + 19 → k ≠ 54 → k ≠ 55 → k ≠ 56 → τ k = σ1 k) ∧ ∀ d, d < pu_N A → pu_ok A d = true → τ 56 ((pu_ci A d : Nat) : Int) = pu_sg A (pu_rq A d) := by
  obtain ⟨-, mb⟩ := ps_many hI hC
  obtain ⟨e, e', h1, -, h3, h4⟩ := pu_enum (f := X8_countClasses_b8 o ((pu_ci A (pu_N A) : Nat) : Int)) (g := fun t : Nat => if t < pu_N A then some (.inl (t + 1)) else some (.inr ())) (s := ((0 : Int), m1)) (t := 0) (pu_N A) (pu_ok A) (fun c s t => t = c ∧ s.1 = ((pu_ci A c : Nat) : Int) ∧ pu_v1 σ1 o A c s.2 ∧ ∀ d, d < c → pu_ok A d = true → s.2 56 ((pu_ci A d : Nat) : Int) = pu_sg A (pu_rq A d)) (fun e _ => (∀ k, k ≠ 53 → k ≠ o + 19 → k ≠ 54 → k ≠ 55 → k ≠ 56 → e k = σ1 k) ∧ ∀ d, d < pu_N A → pu_ok A d = true → e 56 ((pu_ci A d : Nat) : Int) = pu_sg A (pu_rq A d)) (fun c s t hc ho hR => by
      obtain ⟨s1, s2⟩ := s
      obtain ⟨r1, r2, r3, r4⟩ := hR
      dsimp only at r1 r2 r3 r4
      have hn : pu_row (A 0).toNat (A 1).toNat c = none := by
        unfold pu_ok at ho
        cases h : pu_row (A 0).toNat (A 1).toNat c with
        | none => rfl
        | some r => rw [h] at ho; cases ho
      have e2 : pu_cu A (c + 1) = pu_cu A c := by
        unfold pu_cu
        rw [show pu_cur (A 0).toNat (A 1).toNat (c + 1) = match pu_row (A 0).toNat (A 1).toNat c with | some _ => pu_go (A 0).toNat (A 1).toNat (pu_cur (A 0).toNat (A 1).toNat c) | none => pu_cur (A 0).toNat (A 1).toNat c from rfl, hn]
      have e3 : pu_ci A (c + 1) = pu_ci A c := by
        unfold pu_ci
        rw [show pu_cn (A 0).toNat (A 1).toNat (c + 1) = pu_cn (A 0).toNat (A 1).toNat c + if (pu_row (A 0).toNat (A 1).toNat c).isSome = true then 1 else 0 from rfl, hn]
        rfl
      refine ⟨t + 1, by rw [if_pos (by omega)], by omega, by rw [e3]; exact r2, ?_, fun d hd od => ?_⟩
      · unfold pu_v1
        rw [e2]
        exact r3
      · by_cases z : d = c
        · rw [z] at od
          rw [od] at ho
          cases ho
        · exact r4 d (by omega) od) (fun c s t hc ho hR => by
      obtain ⟨s1, s2⟩ := s
      obtain ⟨r1, r2, r3, r4⟩ := hR
      dsimp only at r1 r2 r3 r4
      have w1 : ∀ q, 0 ≤ q → q < A 1 → s2 53 q = pu_rq A c q := pu_rw_s r3.2.1 r3.2.2.1
      have lt := pu_ci_lt hc ho
      obtain ⟨υ, g1, g2⟩ := ps_signersOf hI (pu_v1_C hC hoo r3) (show (53 : Int) ≠ o + 19 by omega) (S := pu_rq A c) w1
      have fr : ∀ k, k ≠ o + 19 → k ≠ 54 → k ≠ 55 → k ≠ 56 → jq_st υ 56 s1 (pu_sg A (pu_rq A c)) k = s2 k := fun k a b c d => (pu_st_ne d).trans (g2 k a)
      obtain ⟨p3, pc⟩ := pu_N_p hI hc
      have i0 := hI.1
      have i1 := hI.2.1
      have c0 := hC.1.1
      have c2 := hC.1.2.2.1
      have e2 : pu_cu A (c + 1) = pu_go (A 0).toNat (A 1).toNat (pu_cu A c) := by
        unfold pu_cu
        rw [show pu_cur (A 0).toNat (A 1).toNat (c + 1) = match pu_row (A 0).toNat (A 1).toNat c with | some _ => pu_go (A 0).toNat (A 1).toNat (pu_cur (A 0).toNat (A 1).toNat c) | none => pu_cur (A 0).toNat (A 1).toNat c from rfl, pu_cu_row hI hc ho]
      have mo : jq_st υ 56 s1 (pu_sg A (pu_rq A c)) o = σ1 o := (fr o (by omega) (by omega) (by omega) (by omega)).trans (r3.1 o (by omega) (by omega) (by omega) (by omega) (by omega))
      obtain ⟨ω, g3, g4, g5, g6, g7⟩ := ps_goOn (σ := jq_st υ 56 s1 (pu_sg A (pu_rq A c))) (o := o) (K := (A 1).toNat) (P := (A 0).toNat) (r := pu_cu A c) (by omega) (by omega) (by omega) (by rw [mo, c0]; omega) (by rw [mo, c2]; omega) r3.2.2.1 r3.2.2.2 (fun j hj => by rw [fr 53 (by omega) (by omega) (by omega) (by omega)]; exact r3.2.1 j hj)
      refine Or.inl ⟨(s1 + 1, ω), c + 1, ?_, by rw [if_pos (by omega), r1], rfl, ?_, ?_, fun d hd od => ?_⟩
      · unfold X8_countClasses_b8
        dsimp only
        rw [if_pos (by omega), if_pos (by omega), g1, pu_b2, pu_sa (by omega) (by omega), Option.bind_some, g3, Option.bind_some, pu_lt, pu_w (x := s1 + 1) (by omega) (by omega)]
      · dsimp only
        rw [pu_ci_s ho]
        omega
      · refine ⟨fun k a b c d e => ?_, ?_⟩
        · dsimp only
          rw [g4 k a, fr k b c d e, r3.1 k a b c d e]
        · rw [e2]
          exact ⟨g5, g6, g7⟩
      · dsimp only
        rw [g4 56 (by omega)]
        by_cases z : d = c
        · rw [z, ← r2, pu_st_a]
        · rw [pu_st_b (by have := (pu_ci_iff (A := A) (b := c) od).mpr (by omega); omega), g2 56 (by omega)]
          exact r4 d (by omega) od) (fun s t hR => by
      obtain ⟨s1, s2⟩ := s
      obtain ⟨r1, r2, r3, r4⟩ := hR
      dsimp only at r1 r2 r3 r4
      refine ⟨s2, (), ?_, by rw [if_neg (by omega)], r3.1, r4⟩
      unfold X8_countClasses_b8
      dsimp only
      rw [if_neg (by omega)]) ⟨rfl, rfl, hm, fun d hd => by omega⟩
  exact ⟨e, h1, h3, h4⟩
end
