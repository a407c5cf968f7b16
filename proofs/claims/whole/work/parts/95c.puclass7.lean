section
variable {A : Int → Int} {a b c d : Nat} {f k P v : Int}
def pu_pz (P k f v : Int) : Int := ((if f = 0 then v else P - 1 - v) + k) % P
theorem pu_pz_e {S : Int → Int} {q : Int} : pu_tk P k (pu_mir P f S) q = pu_pz P k f (S q) := rfl
theorem pu_pz_i (h3 : 3 ≤ P) (h6 : P ≤ 6) (hf : f = 0 ∨ f = 1) (k0 : 0 ≤ k) (k1 : k < P) : ∃ f' k', (f' = 0 ∨ f' = 1) ∧ 0 ≤ k' ∧ k' < P ∧ ∀ v, 0 ≤ v → v < P → pu_pz P k' f' (pu_pz P k f v) = v := by
  rcases hf with rfl | rfl
  · refine ⟨0, (P - k) % P, Or.inl rfl, Int.emod_nonneg _ (by omega), Int.emod_lt_of_pos _ (by omega), fun v v0 v1 => ?_⟩
    unfold pu_pz
    rw [if_pos rfl, if_pos rfl]
    rcases (show P = 3 ∨ P = 4 ∨ P = 5 ∨ P = 6 by omega) with rfl | rfl | rfl | rfl <;> omega
  · refine ⟨1, k, Or.inr rfl, k0, k1, fun v v0 v1 => ?_⟩
    unfold pu_pz
    rw [if_neg (by decide), if_neg (by decide)]
    rcases (show P = 3 ∨ P = 4 ∨ P = 5 ∨ P = 6 by omega) with rfl | rfl | rfl | rfl <;> omega
theorem pu_pz_t {f' k' : Int} (h3 : 3 ≤ P) (h6 : P ≤ 6) (hf : f = 0 ∨ f = 1) (k0 : 0 ≤ k) (k1 : k < P) (hf' : f' = 0 ∨ f' = 1) (l0 : 0 ≤ k') (l1 : k' < P) : ∃ g m, (g = 0 ∨ g = 1) ∧ 0 ≤ m ∧ m < P ∧ ∀ v, 0 ≤ v → v < P → pu_pz P k' f' (pu_pz P k f v) = pu_pz P m g v := by
  rcases hf' with rfl | rfl
  · refine ⟨f, (k + k') % P, hf, Int.emod_nonneg _ (by omega), Int.emod_lt_of_pos _ (by omega), fun v v0 v1 => ?_⟩
    unfold pu_pz
    rw [if_pos rfl]
    rcases (show P = 3 ∨ P = 4 ∨ P = 5 ∨ P = 6 by omega) with rfl | rfl | rfl | rfl <;> omega
  · rcases hf with rfl | rfl
    · refine ⟨1, (k' - k) % P, Or.inr rfl, Int.emod_nonneg _ (by omega), Int.emod_lt_of_pos _ (by omega), fun v v0 v1 => ?_⟩
      unfold pu_pz
      rw [if_neg (by decide), if_pos rfl, if_neg (by decide)]
      rcases (show P = 3 ∨ P = 4 ∨ P = 5 ∨ P = 6 by omega) with rfl | rfl | rfl | rfl <;> omega
    · refine ⟨0, (k' - k) % P, Or.inl rfl, Int.emod_nonneg _ (by omega), Int.emod_lt_of_pos _ (by omega), fun v v0 v1 => ?_⟩
      unfold pu_pz
      rw [if_neg (by decide), if_neg (by decide), if_pos rfl]
      rcases (show P = 3 ∨ P = 4 ∨ P = 5 ∨ P = 6 by omega) with rfl | rfl | rfl | rfl <;> omega
/-- b is a, turned, perhaps mirrored first -/
def pu_lkk (A : Int → Int) (a b : Nat) : Prop := (a < pu_N A ∧ pu_ok A a = true) ∧ (b < pu_N A ∧ pu_ok A b = true) ∧ ∃ f k, (f = 0 ∨ f = 1) ∧ 0 ≤ k ∧ k < A 0 ∧ ∀ q, 0 ≤ q → q < A 1 → pu_rq A b q = pu_pz (A 0) k f (pu_rq A a q)
theorem pu_lkk_s (hI : pu_inv A) (h : pu_lkk A a b) : pu_lkk A b a := by
  obtain ⟨ha, hb, f, k, hf, k0, k1, hq⟩ := h
  obtain ⟨p3, -⟩ := pu_N_p hI ha.1
  have bd := pu_rs_b hI ha.1 ha.2
  obtain ⟨f', k', a1, a2, a3, a4⟩ := pu_pz_i p3 (by have := hI.1; omega) hf k0 k1
  refine ⟨hb, ha, f', k', a1, a2, a3, fun q q0 q1 => ?_⟩
  rw [hq q q0 q1, a4 _ (bd q q0 q1).1 (bd q q0 q1).2]
theorem pu_lkk_t (hI : pu_inv A) (h : pu_lkk A a b) (h2 : pu_lkk A b c) : pu_lkk A a c := by
  obtain ⟨ha, hb, f, k, hf, k0, k1, hq⟩ := h
  obtain ⟨-, hc, f', k', hf', l0, l1, hq'⟩ := h2
  obtain ⟨p3, -⟩ := pu_N_p hI ha.1
  have bd := pu_rs_b hI ha.1 ha.2
  obtain ⟨g, m, a1, a2, a3, a4⟩ := pu_pz_t p3 (by have := hI.1; omega) hf k0 k1 hf' l0 l1
  refine ⟨ha, hc, g, m, a1, a2, a3, fun q q0 q1 => ?_⟩
  rw [hq' q q0 q1, hq q q0 q1, a4 _ (bd q q0 q1).1 (bd q q0 q1).2]
theorem pu_lkk_r (hI : pu_inv A) (ha : a < pu_N A) (ho : pu_ok A a = true) : pu_lkk A a a := by
  obtain ⟨p3, -⟩ := pu_N_p hI ha
  have bd := pu_rs_b hI ha ho
  refine ⟨⟨ha, ho⟩, ⟨ha, ho⟩, 0, 0, Or.inl rfl, Int.le_refl _, by omega, fun q q0 q1 => ?_⟩
  have := bd q q0 q1
  unfold pu_pz
  rw [if_pos rfl, Int.add_zero, Int.emod_eq_of_lt this.1 this.2]
def pu_gc (A : Int → Int) (c : Nat) : Prop := pu_ok A c = true ∧ pu_gd A (pu_rq A c)
def pu_fg (A : Int → Int) (c : Nat) : Prop := pu_gc A c ∧ ∀ d, d < c → pu_lkk A c d → ¬ pu_gc A d
def pu_lff (A : Int → Int) (m : Nat) : Prop := (pu_lkk A m m ∧ ∀ d, pu_lkk A m d → m ≤ d) ∧ ∃ d, d < pu_N A ∧ pu_lkk A m d ∧ pu_gc A d
theorem pu_cl_eq (hI : pu_inv A) : pu_hm (pu_fg A) (pu_N A) = pu_hm (pu_lff A) (pu_N A) := pu_kinds (R := pu_lkk A) (good := pu_gc A) (fun a b h => pu_lkk_s hI h) (fun a b c h h2 => pu_lkk_t hI h h2) (fun a b h => h.2.1.1) (fun a h g => pu_lkk_r hI h g.1)
theorem pu_gd_cg {S S' : Int → Int} (hI : pu_inv A) (h : ∀ q, 0 ≤ q → q < A 1 → S q = S' q) : pu_gd A S ↔ pu_gd A S' := by
  unfold pu_gd
  rw [pu_sg_cg hI h]
/-- the reference's question is: least of its kind, with a good one -/
theorem pu_cls_lf (hI : pu_inv A) (hc : c < pu_N A) (ho : pu_ok A c = true) : pu_cls A (pu_rq A c) (c : Int) ↔ pu_lff A c := by
  obtain ⟨p3, -⟩ := pu_N_p hI hc
  have i1 := hI.2.1
  constructor
  · rintro ⟨h1, f, k, hf, k0, k1, h2⟩
    refine ⟨⟨pu_lkk_r hI hc ho, fun d hd => ?_⟩, ?_⟩
    · obtain ⟨-, hd, g, m, hg, m0, m1, hq⟩ := hd
      have e := h1 g m hg m0 m1
      have := pu_rs_c hI hd.1 hd.2
      rw [pu_hc_cg (S' := pu_tk (A 0) m (pu_mir (A 0) g (pu_rq A c))) _ (fun q a b => hq q a (by omega))] at this
      omega
    · obtain ⟨d, d1, d2, d3, d4⟩ := pu_rs_m hI hc ho hf k0 k1
      exact ⟨d, d1, ⟨⟨hc, ho⟩, ⟨d1, d2⟩, f, k, hf, k0, k1, d4⟩, d2, (pu_gd_cg hI d4).mpr h2⟩
  · rintro ⟨⟨-, h1⟩, d, d1, ⟨-, hd, g, m, hg, m0, m1, hq⟩, d3, d4⟩
    refine ⟨fun f k hf k0 k1 => ?_, g, m, hg, m0, m1, (pu_gd_cg hI hq).mp d4⟩
    obtain ⟨e, e1, e2, e3, e4⟩ := pu_rs_m hI hc ho hf k0 k1
    have := h1 e ⟨⟨hc, ho⟩, ⟨e1, e2⟩, f, k, hf, k0, k1, e4⟩
    rw [e3]
    omega
theorem pu_lff_no (ho : pu_ok A c = false) : ¬ pu_lff A c := fun h => by
  have := h.1.1.1.2
  rw [ho] at this
  cases this
theorem pu_fg_no (ho : pu_ok A c = false) : ¬ pu_fg A c := fun h => by
  have := h.1.1
  rw [ho] at this
  cases this
theorem pu_ci_le (h : a ≤ b) : pu_ci A a ≤ pu_ci A b := by
  have := pu_cn_mono (P := (A 0).toNat) (K := (A 1).toNat) (b - a) a
  rw [show a + (b - a) = b by omega] at this
  exact this
theorem pu_ci_s (ho : pu_ok A a = true) : pu_ci A (a + 1) = pu_ci A a + 1 := by
  unfold pu_ok at ho
  unfold pu_ci
  rw [show pu_cn (A 0).toNat (A 1).toNat (a + 1) = pu_cn (A 0).toNat (A 1).toNat a + if (pu_row (A 0).toNat (A 1).toNat a).isSome = true then 1 else 0 from rfl, if_pos ho]
theorem pu_ci_iff (ho : pu_ok A a = true) : pu_ci A a < pu_ci A b ↔ a < b := by
  constructor
  · intro h
    apply Classical.byContradiction
    intro g
    have := pu_ci_le (A := A) (a := b) (b := a) (by omega)
    omega
  · intro h
    have := pu_ci_le (A := A) (a := a + 1) (b := b) (by omega)
    rw [pu_ci_s ho] at this
    omega
theorem pu_pp_b : ∀ v, v < 7 → ∀ x, x < 128 → pu_pop (x &&& (2 ^ v - 1)) ≤ v := by decide +kernel
theorem pu_lr_b {P : Nat} {r : List Nat} (hP : P ≤ 6) (h : ∀ j, r.getD j 0 ≤ 5) : ∀ i, pu_lr P r i < 6 ^ i := by
  intro i
  induction i with
  | zero => exact Nat.one_pos
  | succ i ih =>
    have hv := h i
    show pu_lr P r i * (P - i) + r.getD i 0 - pu_pop (pu_us r i &&& (2 ^ r.getD i 0 - 1)) < 6 ^ (i + 1)
    rw [Nat.pow_succ]
    have : pu_lr P r i * (P - i) ≤ pu_lr P r i * 6 := Nat.mul_le_mul_left _ (by omega)
    omega
end
section
variable {σ : jq_M} {o x row : Int} {P K : Nat} {r : List Nat}
theorem ps_numberOf (hK : K ≤ 5) (hP : P ≤ 6) (hKP : K ≤ P) (c0 : σ o 0 = (P : Int)) (c2 : σ o 2 = (K : Int)) (hr : r.length = K) (hb : ∀ j, j < K → r.getD j 0 < P) (hw : pu_rw σ row r) : X8_numberOf o row σ = some ((pu_lr P r K : Nat) : Int) := by
  have h5 : ∀ j, r.getD j 0 ≤ 5 := fun j => by
    by_cases z : j < K
    · have := hb j z
      omega
    · rw [pu_getD_0 (by omega)]
      omega
  have h6 : pu_l6 r := fun j => by have := h5 j; omega
  unfold X8_numberOf
  refine pu_lpE (f := X8_numberOf_b7 o row σ) (s := ((0 : Int), (0 : Int), (0 : Int))) (fun i t => t.2.2 = (i : Int) ∧ t.2.1 = ((pu_us r i : Nat) : Int) ∧ t.1 = ((pu_lr P r i : Nat) : Int)) (fun e => e = ((pu_lr P r K : Nat) : Int)) K ⟨rfl, rfl, rfl⟩ (fun i t ht hi => ?_) (fun e h1 h2 => by rw [h1, h2]; rfl)
  obtain ⟨t1, t2, t3⟩ := t
  obtain ⟨hk, q1, q2⟩ := ht
  dsimp only at hk q1 q2
  unfold X8_numberOf_b7
  dsimp only
  rw [c2]
  by_cases hl : t3 < (K : Int)
  · have e := hw i (by omega)
    have us := pu_us_lt h6 i
    have e5 := h5 i
    have lb := pu_lr_b (P := P) hP h5 i
    have six : 6 ^ i ≤ 1296 := by
      rcases (show i = 0 ∨ i = 1 ∨ i = 2 ∨ i = 3 ∨ i = 4 by omega) with rfl | rfl | rfl | rfl | rfl <;> decide
    have es : pu_lr P r (i + 1) = pu_lr P r i * (P - i) + r.getD i 0 - pu_pop (pu_us r i &&& (2 ^ r.getD i 0 - 1)) := rfl
    have eu : pu_us r (i + 1) = pu_us r i ||| 2 ^ r.getD i 0 := rfl
    have pp := pu_pp_b (r.getD i 0) (by omega) (pu_us r i) us
    have mm : pu_lr P r i * (P - i) ≤ pu_lr P r i * 6 := Nat.mul_le_mul_left _ (by omega)
    have mc : (((pu_lr P r i : Nat) : Int)) * ((P : Int) - t3) = ((pu_lr P r i * (P - i) : Nat) : Int) := by
      rw [show (P : Int) - t3 = ((P - i : Nat) : Int) by omega, Int.natCast_mul]
    rw [← hk] at e
    rw [es, eu]
    have pv : (2 : Nat) ^ r.getD i 0 < 128 := Nat.lt_of_lt_of_le (Nat.pow_lt_pow_right (by decide) (show r.getD i 0 < 7 by omega)) (by decide)
    have pv1 : 0 < (2 : Nat) ^ r.getD i 0 := Nat.pow_pos (by decide)
    generalize pu_lr P r i * (P - i) = y at mm mc
    have an : pu_us r i &&& (2 ^ r.getD i 0 - 1) < 256 := Nat.lt_of_le_of_lt Nat.and_le_left (by omega)
    rw [if_pos hl, if_pos (show t3 < 5 by omega), pu_ld (by omega) (by omega), Option.bind_some, e, pu_lt, Option.bind_some, q1, q2, c0, pu_shl1_i (by omega) (by omega), Int.toNat_natCast, show ((2 ^ r.getD i 0 : Nat) : Int) - 1 = ((2 ^ r.getD i 0 - 1 : Nat) : Int) by omega]
    rw [pu_w (x := ((2 ^ r.getD i 0 - 1 : Nat) : Int)) (by omega) (by omega), pu_and (by omega) (by omega), pu_bc an, Option.bind_some, pu_lt, Option.bind_some, pu_w (x := (P : Int) - t3) (by omega) (by omega), mc, pu_shl1_i (by omega) (by omega), Int.toNat_natCast, pu_or (by omega) (by omega)]
    generalize pu_pop (pu_us r i &&& (2 ^ r.getD i 0 - 1)) = g at pp
    generalize pu_us r i ||| 2 ^ r.getD i 0 = u2
    rw [pu_w (x := ((y : Nat) : Int)) (by omega) (by omega), pu_w (x := ((y : Nat) : Int) + _) (by omega) (by omega), pu_w (x := ((y : Nat) : Int) + _ - _) (by omega) (by omega), pu_lt, pu_lt, pu_w (x := t3 + 1) (by omega) (by omega)]
    exact Or.inr ⟨by omega, _, rfl, by dsimp only; omega, rfl, by dsimp only; omega⟩
  · rw [if_neg hl]
    exact Or.inl ⟨_, rfl, by rw [q2, show i = K by omega]⟩
end
