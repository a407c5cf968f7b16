/-! rows and codes: the moves of a row, and its number among the rows -/
def pu_pt (P k f v : Nat) : Nat := ((if f = 0 then v else P - 1 - v) + k) % P
def pu_ml (P k f : Nat) (r : List Nat) : List Nat := r.map (pu_pt P k f)
def pu_hn (P : Nat) (r : List Nat) : Nat → Nat
  | 0 => 0
  | n + 1 => pu_hn P r n * P + r.getD n 0
def pu_lr (P : Nat) (r : List Nat) : Nat → Nat
  | 0 => 0
  | i + 1 => pu_lr P r i * (P - i) + r.getD i 0 - pu_pop (pu_us r i &&& (2 ^ r.getD i 0 - 1))
def pu_mc (P K c : Nat) : Bool := match pu_row P K c with
  | none => true
  | some r => decide (r.length = K) && decide (pu_hn P r K = c)
def pu_lc (P K c : Nat) : Bool := match pu_row P K c with
  | none => true
  | some r => match pu_last P K c with
    | none => pu_lr P r K == 0
    | some q => pu_lr P r K == pu_lr P q K + 1
theorem pu_mc_3 : ∀ K, K < 4 → ∀ a, a < 3 ^ (K / 2) → ∀ b, b < 3 ^ (K - K / 2) → pu_mc 3 K (a * 3 ^ (K - K / 2) + b) = true := by decide +kernel
theorem pu_mc_4 : ∀ K, K < 5 → ∀ a, a < 4 ^ (K / 2) → ∀ b, b < 4 ^ (K - K / 2) → pu_mc 4 K (a * 4 ^ (K - K / 2) + b) = true := by decide +kernel
theorem pu_mc_5 : ∀ K, K < 6 → ∀ a, a < 5 ^ (K / 2) → ∀ b, b < 5 ^ (K - K / 2) → pu_mc 5 K (a * 5 ^ (K - K / 2) + b) = true := by decide +kernel
theorem pu_mc_6 : ∀ K, K < 6 → ∀ a, a < 6 ^ (K / 2) → ∀ b, b < 6 ^ (K - K / 2) → pu_mc 6 K (a * 6 ^ (K - K / 2) + b) = true := by decide +kernel
theorem pu_lc_3 : ∀ K, K < 4 → ∀ a, a < 3 ^ (K / 2) → ∀ b, b < 3 ^ (K - K / 2) → pu_lc 3 K (a * 3 ^ (K - K / 2) + b) = true := by decide +kernel
theorem pu_lc_4 : ∀ K, K < 5 → ∀ a, a < 4 ^ (K / 2) → ∀ b, b < 4 ^ (K - K / 2) → pu_lc 4 K (a * 4 ^ (K - K / 2) + b) = true := by decide +kernel
theorem pu_lc_5 : ∀ K, K < 6 → ∀ a, a < 5 ^ (K / 2) → ∀ b, b < 5 ^ (K - K / 2) → pu_lc 5 K (a * 5 ^ (K - K / 2) + b) = true := by decide +kernel
theorem pu_lc_6 : ∀ K, K < 6 → ∀ a, a < 6 ^ (K / 2) → ∀ b, b < 6 ^ (K - K / 2) → pu_lc 6 K (a * 6 ^ (K - K / 2) + b) = true := by decide +kernel
section
variable {P K c : Nat}
theorem pu_halves {F : Nat → Nat → Nat → Bool} (f3 : ∀ K, K < 4 → ∀ a, a < 3 ^ (K / 2) → ∀ b, b < 3 ^ (K - K / 2) → F 3 K (a * 3 ^ (K - K / 2) + b) = true) (f4 : ∀ K, K < 5 → ∀ a, a < 4 ^ (K / 2) → ∀ b, b < 4 ^ (K - K / 2) → F 4 K (a * 4 ^ (K - K / 2) + b) = true) (f5 : ∀ K, K < 6 → ∀ a, a < 5 ^ (K / 2) → ∀ b, b < 5 ^ (K - K / 2) → F 5 K (a * 5 ^ (K - K / 2) + b) = true) (f6 : ∀ K, K < 6 → ∀ a, a < 6 ^ (K / 2) → ∀ b, b < 6 ^ (K - K / 2) → F 6 K (a * 6 ^ (K - K / 2) + b) = true) (h3 : 3 ≤ P) (h6 : P ≤ 6) (hK : K ≤ 5) (hKP : K ≤ P) (hc : c < P ^ K) : F P K c = true := by
  have e : P ^ K = P ^ (K / 2) * P ^ (K - K / 2) := by rw [← Nat.pow_add, show K / 2 + (K - K / 2) = K by omega]
  have hB : 0 < P ^ (K - K / 2) := Nat.pow_pos (by omega)
  have h1 : c / P ^ (K - K / 2) < P ^ (K / 2) := Nat.div_lt_of_lt_mul (by rw [Nat.mul_comm, ← e]; exact hc)
  have h2 : c % P ^ (K - K / 2) < P ^ (K - K / 2) := Nat.mod_lt _ hB
  have h4 : c / P ^ (K - K / 2) * P ^ (K - K / 2) + c % P ^ (K - K / 2) = c := Nat.div_add_mod' c _
  have key : F P K (c / P ^ (K - K / 2) * P ^ (K - K / 2) + c % P ^ (K - K / 2)) = true := by
    rcases (show P = 3 ∨ P = 4 ∨ P = 5 ∨ P = 6 by omega) with rfl | rfl | rfl | rfl
    · exact f3 K (by omega) _ h1 _ h2
    · exact f4 K (by omega) _ h1 _ h2
    · exact f5 K (by omega) _ h1 _ h2
    · exact f6 K (by omega) _ h1 _ h2
  rw [h4] at key
  exact key
theorem pu_mc_0 {r : List Nat} (h3 : 3 ≤ P) (h6 : P ≤ 6) (hK : K ≤ 5) (hKP : K ≤ P) (hc : c < P ^ K) (hr : pu_row P K c = some r) : r.length = K ∧ pu_hn P r K = c := by
  have h := pu_halves (F := pu_mc) pu_mc_3 pu_mc_4 pu_mc_5 pu_mc_6 h3 h6 hK hKP hc
  unfold pu_mc at h
  rw [hr] at h
  simp only [Bool.and_eq_true, decide_eq_true_eq] at h
  exact h
theorem pu_hn_b {r : List Nat} (hP : 0 < P) : ∀ n, (∀ j, j < n → r.getD j 0 < P) → pu_hn P r n < P ^ n := by
  intro n
  induction n with
  | zero => intro _; exact Nat.one_pos
  | succ n ih =>
    intro h
    have a := ih (fun j hj => h j (by omega))
    have b := h n (by omega)
    show pu_hn P r n * P + r.getD n 0 < P ^ (n + 1)
    rw [Nat.pow_succ]
    have : (pu_hn P r n + 1) * P ≤ P ^ n * P := Nat.mul_le_mul_right P a
    rw [Nat.succ_mul] at this
    omega
theorem pu_sbs_hn {r : List Nat} (hP : 0 < P) (hb : ∀ j, j < r.length → r.getD j 0 < P) (hd : ∀ i j, i < j → j < r.length → r.getD i 0 ≠ r.getD j 0) : ∀ m U, m ≤ r.length → (∀ v, U.testBit v = true → ∃ j, m ≤ j ∧ j < r.length ∧ r.getD j 0 = v) → pu_sbs P m (pu_hn P r m) U (r.drop m) = some r := by
  intro m
  induction m with
  | zero => intro U _ _; rfl
  | succ m ih =>
    intro U hm hU
    have b := hb m (by omega)
    have e1 : pu_hn P r (m + 1) % P = r.getD m 0 := by
      show (pu_hn P r m * P + r.getD m 0) % P = _
      rw [Nat.mul_comm, Nat.mul_add_mod, Nat.mod_eq_of_lt b]
    have e2 : pu_hn P r (m + 1) / P = pu_hn P r m := by
      show (pu_hn P r m * P + r.getD m 0) / P = _
      rw [Nat.mul_comm, Nat.mul_add_div hP, Nat.div_eq_of_lt b, Nat.add_zero]
    have e3 : r.getD m 0 :: r.drop (m + 1) = r.drop m := by
      rw [List.drop_eq_getElem_cons (show m < r.length by omega), List.getD_eq_getElem?_getD, List.getElem?_eq_getElem (show m < r.length by omega)]
      rfl
    rw [show pu_sbs P (m + 1) (pu_hn P r (m + 1)) U (r.drop (m + 1)) = if U.testBit (pu_hn P r (m + 1) % P) = true then none else pu_sbs P m (pu_hn P r (m + 1) / P) (U ||| 2 ^ (pu_hn P r (m + 1) % P)) (pu_hn P r (m + 1) % P :: r.drop (m + 1)) from rfl, e1, e2, e3]
    rw [if_neg (fun g => by
      obtain ⟨j, j1, j2, j3⟩ := hU _ g
      exact hd m j (by omega) j2 j3.symm)]
    refine ih _ (by omega) (fun v hv => ?_)
    rw [Nat.testBit_or, Nat.testBit_two_pow] at hv
    by_cases z : r.getD m 0 = v
    · exact ⟨m, Nat.le_refl _, by omega, z⟩
    · rw [decide_eq_false z, Bool.or_false] at hv
      obtain ⟨j, j1, j2, j3⟩ := hU v hv
      exact ⟨j, by omega, j2, j3⟩
theorem pu_ml_g {r : List Nat} {k f j : Nat} (h : j < r.length) : (pu_ml P k f r).getD j 0 = pu_pt P k f (r.getD j 0) := by
  unfold pu_ml
  rw [List.getD_eq_getElem?_getD, List.getD_eq_getElem?_getD, List.getElem?_map, List.getElem?_eq_getElem h]
  rfl
theorem pu_pt_i {k f a b : Nat} (h3 : 3 ≤ P) (h6 : P ≤ 6) (hk : k < P) (ha : a < P) (hb : b < P) (h : pu_pt P k f a = pu_pt P k f b) : a = b := by
  unfold pu_pt at h
  by_cases z : f = 0
  · rw [if_pos z, if_pos z] at h
    rcases (show P = 3 ∨ P = 4 ∨ P = 5 ∨ P = 6 by omega) with rfl | rfl | rfl | rfl <;> omega
  · rw [if_neg z, if_neg z] at h
    rcases (show P = 3 ∨ P = 4 ∨ P = 5 ∨ P = 6 by omega) with rfl | rfl | rfl | rfl <;> omega
theorem pu_mc_all {r : List Nat} (h3 : 3 ≤ P) (h6 : P ≤ 6) (hK : K ≤ 5) (hKP : K ≤ P) (hc : c < P ^ K) (hr : pu_row P K c = some r) : r.length = K ∧ pu_hn P r K = c ∧ (∀ j, j < K → r.getD j 0 < P) ∧ ∀ k, k < P → ∀ f, f < 2 → pu_hn P (pu_ml P k f r) K < P ^ K ∧ pu_row P K (pu_hn P (pu_ml P k f r) K) = some (pu_ml P k f r) := by
  obtain ⟨a, b⟩ := pu_mc_0 h3 h6 hK hKP hc hr
  obtain ⟨d, e⟩ := pu_row_ok (by omega) hr
  refine ⟨a, b, fun j hj => d j (by omega), fun k hk f _ => ?_⟩
  have len : (pu_ml P k f r).length = r.length := List.length_map ..
  have bb : ∀ j, j < (pu_ml P k f r).length → (pu_ml P k f r).getD j 0 < P := fun j hj => by
    rw [pu_ml_g (by omega)]
    exact Nat.mod_lt _ (by omega)
  refine ⟨pu_hn_b (by omega) K (fun j hj => bb j (by omega)), ?_⟩
  have := pu_sbs_hn (P := P) (r := pu_ml P k f r) (by omega) bb (fun i j h1 h2 h => by
    rw [pu_ml_g (by omega), pu_ml_g (by omega)] at h
    exact e i j h1 (by omega) (pu_pt_i h3 h6 hk (d i (by omega)) (d j (by omega)) h)) (pu_ml P k f r).length 0 (Nat.le_refl _) (fun v hv => by rw [Nat.zero_testBit] at hv; cases hv)
  rw [List.drop_length, len, a] at this
  exact this
theorem pu_lc_all (h3 : 3 ≤ P) (h6 : P ≤ 6) (hK : K ≤ 5) (hKP : K ≤ P) : ∀ c, c ≤ P ^ K → (pu_last P K c = none → pu_cn P K c = 0) ∧ (∀ q, pu_last P K c = some q → pu_cn P K c = pu_lr P q K + 1) ∧ ∀ r, pu_row P K c = some r → c < P ^ K → pu_lr P r K = pu_cn P K c := by
  intro c
  induction c with
  | zero =>
    intro _
    refine ⟨fun _ => rfl, fun q h => (by cases h), fun r h hc => ?_⟩
    have := pu_halves (F := pu_lc) pu_lc_3 pu_lc_4 pu_lc_5 pu_lc_6 h3 h6 hK hKP hc
    unfold pu_lc at this
    rw [h] at this
    exact eq_of_beq this
  | succ c ih =>
    intro hc
    obtain ⟨i1, i2, i3⟩ := ih (by omega)
    have a : (pu_last P K (c + 1) = none → pu_cn P K (c + 1) = 0) ∧ ∀ q, pu_last P K (c + 1) = some q → pu_cn P K (c + 1) = pu_lr P q K + 1 := by
      unfold pu_last pu_cn
      cases h : pu_row P K c with
      | none => exact ⟨fun q => i1 q, fun q hq => i2 q hq⟩
      | some r =>
        refine ⟨fun q => (by cases q), fun q hq => ?_⟩
        cases hq
        rw [i3 r h (by omega)]
        rfl
    refine ⟨a.1, a.2, fun r h hc2 => ?_⟩
    have := pu_halves (F := pu_lc) pu_lc_3 pu_lc_4 pu_lc_5 pu_lc_6 h3 h6 hK hKP hc2
    unfold pu_lc at this
    rw [h] at this
    cases hl : pu_last P K (c + 1) with
    | none =>
      rw [hl] at this
      rw [a.1 hl, eq_of_beq this]
    | some q =>
      rw [hl] at this
      rw [a.2 q hl, eq_of_beq this]
theorem pu_hc_n {S : Int → Int} {r : List Nat} : ∀ n : Nat, (∀ q : Nat, q < n → S (q : Int) = ((r.getD q 0 : Nat) : Int)) → pu_hc (P : Int) S n = ((pu_hn P r n : Nat) : Int) := by
  intro n
  induction n with
  | zero => intro _; rfl
  | succ n ih =>
    intro h
    show pu_hc (P : Int) S n * (P : Int) + S (n : Int) = ((pu_hn P r n * P + r.getD n 0 : Nat) : Int)
    rw [ih (fun q hq => h q (by omega)), h n (by omega), Int.natCast_add, Int.natCast_mul]
theorem pu_hc_cg {P : Int} {S S' : Int → Int} : ∀ n : Nat, (∀ q : Int, 0 ≤ q → q < (n : Int) → S q = S' q) → pu_hc P S n = pu_hc P S' n := by
  intro n
  induction n with
  | zero => intro _; rfl
  | succ n ih =>
    intro h
    show pu_hc P S n * P + S (n : Int) = pu_hc P S' n * P + S' (n : Int)
    rw [ih (fun q a b => h q a (by omega)), h n (by omega) (by omega)]
end
section
variable {A : Int → Int} {a b c d : Nat} {f k : Int}
def pu_rq (A : Int → Int) (c : Nat) : Int → Int := pu_sr (pu_cu A c)
theorem pu_cu_row (hI : pu_inv A) (hc : c < pu_N A) (ho : pu_ok A c = true) : pu_row (A 0).toNat (A 1).toNat c = some (pu_cu A c) := by
  obtain ⟨p3, pc⟩ := pu_N_p hI hc
  obtain ⟨i0, i1, -⟩ := hI
  unfold pu_ok at ho
  cases h : pu_row (A 0).toNat (A 1).toNat c with
  | none => rw [h] at ho; cases ho
  | some r => rw [show pu_cu A c = r from (pu_cur_last (P := (A 0).toNat) (K := (A 1).toNat) (by omega) (by omega) (by omega) (by omega) c (by omega)).2.2 r h pc]
theorem pu_row_on {r : List Nat} (hI : pu_inv A) (hc : c < pu_N A) (h : pu_row (A 0).toNat (A 1).toNat c = some r) : pu_ok A c = true ∧ pu_cu A c = r := by
  obtain ⟨p3, pc⟩ := pu_N_p hI hc
  obtain ⟨i0, i1, -⟩ := hI
  refine ⟨by unfold pu_ok; rw [h]; rfl, (pu_cur_last (P := (A 0).toNat) (K := (A 1).toNat) (by omega) (by omega) (by omega) (by omega) c (by omega)).2.2 r h pc⟩
theorem pu_rs_b (hI : pu_inv A) (hc : c < pu_N A) (ho : pu_ok A c = true) : ∀ q, 0 ≤ q → q < A 1 → 0 ≤ pu_rq A c q ∧ pu_rq A c q < A 0 := by
  have hr := pu_cu_row hI hc ho
  obtain ⟨p3, pc⟩ := pu_N_p hI hc
  obtain ⟨i0, i1, -⟩ := hI
  have m := (pu_mc_all (P := (A 0).toNat) (K := (A 1).toNat) (by omega) (by omega) (by omega) (by omega) pc hr).2.2.1
  intro q q0 q1
  have := m q.toNat (by omega)
  unfold pu_rq pu_sr
  omega
theorem pu_rs_c (hI : pu_inv A) (hc : c < pu_N A) (ho : pu_ok A c = true) : pu_hc (A 0) (pu_rq A c) (A 1).toNat = (c : Int) := by
  have hr := pu_cu_row hI hc ho
  obtain ⟨p3, pc⟩ := pu_N_p hI hc
  obtain ⟨i0, i1, -⟩ := hI
  have m := (pu_mc_all (P := (A 0).toNat) (K := (A 1).toNat) (by omega) (by omega) (by omega) (by omega) pc hr).2.1
  have := pu_hc_n (P := (A 0).toNat) (S := pu_rq A c) (r := pu_cu A c) (A 1).toNat (fun q _ => by
    unfold pu_rq pu_sr
    rw [Int.toNat_natCast])
  rw [m, show (((A 0).toNat : Nat) : Int) = A 0 by omega] at this
  exact this
theorem pu_rs_m (hI : pu_inv A) (hc : c < pu_N A) (ho : pu_ok A c = true) (hf : f = 0 ∨ f = 1) (k0 : 0 ≤ k) (k1 : k < A 0) : ∃ d, d < pu_N A ∧ pu_ok A d = true ∧ pu_hc (A 0) (pu_tk (A 0) k (pu_mir (A 0) f (pu_rq A c))) (A 1).toNat = (d : Int) ∧ ∀ q, 0 ≤ q → q < A 1 → pu_rq A d q = pu_tk (A 0) k (pu_mir (A 0) f (pu_rq A c)) q := by
  have hb := pu_rs_b hI hc ho
  have hr := pu_cu_row hI hc ho
  have hI0 := hI
  obtain ⟨p3, pc⟩ := pu_N_p hI hc
  obtain ⟨i0, i1, -⟩ := hI
  obtain ⟨m0, -, -, m1⟩ := pu_mc_all (P := (A 0).toNat) (K := (A 1).toNat) (by omega) (by omega) (by omega) (by omega) pc hr
  obtain ⟨m2, m3⟩ := m1 k.toNat (by omega) f.toNat (by omega)
  have hN : pu_N A = (A 0).toNat ^ (A 1).toNat := by
    unfold pu_N
    rw [if_neg (by omega)]
  obtain ⟨o1, o2⟩ := pu_row_on hI0 (by rw [hN]; exact m2) m3
  have pw : ∀ q, 0 ≤ q → q < A 1 → pu_rq A (pu_hn (A 0).toNat (pu_ml (A 0).toNat k.toNat f.toNat (pu_cu A c)) (A 1).toNat) q = pu_tk (A 0) k (pu_mir (A 0) f (pu_rq A c)) q := fun q q0 q1 => by
    have b := hb q q0 q1
    unfold pu_rq
    rw [o2]
    unfold pu_rq pu_sr at b
    unfold pu_tk pu_mir pu_sr
    rw [pu_ml_g (by omega)]
    generalize (pu_cu A c).getD q.toNat 0 = v at b
    unfold pu_pt
    rw [Int.natCast_emod, show (((A 0).toNat : Nat) : Int) = A 0 by omega]
    rcases hf with rfl | rfl
    · rw [if_pos rfl, if_pos (by rfl)]
      congr 1
      omega
    · rw [if_neg (by decide), if_neg (by decide)]
      congr 1
      omega
  refine ⟨_, by rw [hN]; exact m2, o1, ?_, pw⟩
  rw [← pu_rs_c hI0 (by rw [hN]; exact m2) o1]
  exact (pu_hc_cg _ (fun q a b => pw q a (by omega))).symm
end
