section
variable {A S S' : Int → Int} {m m1 m2 τ1 τ2 σ σ1 σ2 : jq_M} {o n v x k a b f p mv K P : Int}
/-- a move, what it leads to, and back -/
theorem ps_tried (hI : pu_inv A) (hC : pu_RC m o A) (hoo : o = 5 ∨ o = 25) (hS : ∀ q, 0 ≤ q → q < A 1 → m 63 q = S q) (hk : pu_okr (A 1) (A 0) S) (m0 : 0 ≤ mv) (m1 : mv < A 1) (hm : 0 ≤ S mv) (p0 : 0 ≤ p) (p1 : p < A 0) (hp : p ≠ S mv) : ∃ τ, X4_shift o 63 mv p m = some τ ∧ pu_RC τ o A ∧ (∀ q, 0 ≤ q → q < A 1 → τ 63 q = pu_sh S mv p q) ∧ X4_shift o 63 mv (S mv) τ = some m := by
  obtain ⟨τ, a1, a2, a3, a4⟩ := ps_shift hI hC hS hk m0 m1 p0 hp
  have hC2 : pu_RC τ o A := hC.mv (fun k c d => a2 _ (by omega))
  have hk2 := pu_sh_ok hk p0 p1 m0 m1
  have w1 := hk.1 mv m0 m1
  obtain ⟨υ, b1, b2, b3, b4⟩ := ps_shift (S := pu_sh S mv p) (mv := mv) (p := S mv) hI hC2 a4 hk2 m0 m1 hm (by rw [pu_sh_m]; omega)
  have e : υ = m := by
    funext k j
    by_cases q : k = 63
    · rw [q]
      by_cases q2 : 0 ≤ j ∧ j < A 1
      · rw [b4 j q2.1 q2.2, pu_sh_back hk hm p0 m0 m1 hp q2.1 q2.2, hS j q2.1 q2.2]
      · rw [b3 j q2, a3 j q2]
    · rw [b2 k q, a2 k q]
  exact ⟨τ, a1, hC2, a4, by rw [b1, e]⟩
theorem ps_bl_loop {t : Nat} {rc : Int → Int → Int → Int → Int → Int → jq_M → Option (Int × jq_M)} (hI : pu_inv A) (hC : pu_RC m o A) (hoo : o = 5 ∨ o = 25) (hS : ∀ q, 0 ≤ q → q < A 1 → m 63 q = S q) (hk : pu_okr (A 1) (A 0) S) (hf : f = 0 ∨ f = 1) (hmv : mv = pu_mo a b f) (m0 : 0 ≤ mv) (m1 : mv < A 1) (ha : 0 ≤ S a) (hb : 0 ≤ S b) (hm : 0 ≤ S mv)
    (hrc : ∀ (S' : Int → Int) (τ : jq_M), pu_RC τ o A → (∀ q, 0 ≤ q → q < A 1 → τ 63 q = S' q) → pu_okr (A 1) (A 0) S' → 0 ≤ S' a → 0 ≤ S' b → rc o 63 a b (jq_w (x - 1)) (1 - f) τ = some (pu_bl A a b t (1 - f) S', τ)) : jq_lp (X4_bestLead_b78 o 63 a b x f rc mv (S mv)) (pu_bl A a b t (1 - f) S, 0, m) = some (pu_bl A a b (t + 1) f S, m) := by
  have i0 := hI.1
  have c0 := hC.1.1
  refine pu_lpE (f := X4_bestLead_b78 o 63 a b x f rc mv (S mv)) (fun i s => s.1 = pu_fold (pu_bl A a b t (1 - f) S) (fun i s => if (i : Int) = S (pu_mo a b f) then s else pu_mm f s (pu_bl A a b t (1 - f) (pu_sh S (pu_mo a b f) (i : Int)))) i ∧ s.2.1 = (i : Int) ∧ s.2.2 = m) (fun e => e = (pu_bl A a b (t + 1) f S, m)) (A 0).toNat ⟨rfl, rfl, rfl⟩ (fun i s hs hi => ?_) (fun e h1 h2 => by rw [h1, h2])
  obtain ⟨s1, s2, s3⟩ := s
  obtain ⟨h1, h2, h3⟩ := hs
  dsimp only at h1 h2 h3
  subst h3
  have k0 : 0 ≤ s2 := by omega
  unfold X4_bestLead_b78
  dsimp only
  by_cases w : s2 < A 0
  · right
    rw [if_pos (by rw [c0]; exact w)]
    by_cases z : s2 = S mv
    · rw [if_pos z, pu_lt, pu_w (x := s2 + 1) (by omega) (by omega)]
      refine ⟨by omega, _, rfl, ?_, by dsimp only; omega, rfl⟩
      rw [pu_fold_s, ← hmv, if_pos (by omega)]
      rw [hmv]
      exact h1
    · obtain ⟨τ, a1, a2, a3, a4⟩ := ps_tried (p := s2) hI hC hoo hS hk m0 m1 hm k0 w z
      have r := hrc (pu_sh S mv s2) τ a2 a3 (pu_sh_ok hk k0 w m0 m1) (pu_sh_sat hm k0 ha) (pu_sh_sat hm k0 hb)
      rw [if_neg z, a1, Option.bind_some]
      unfold X4_bestLead_j121
      have fin : pu_fold (pu_bl A a b t (1 - f) S) (fun i s => if (i : Int) = S (pu_mo a b f) then s else pu_mm f s (pu_bl A a b t (1 - f) (pu_sh S (pu_mo a b f) (i : Int)))) (i + 1) = pu_mm f s1 (pu_bl A a b t (1 - f) (pu_sh S mv s2)) := by
        rw [pu_fold_s, ← hmv, if_neg (by omega), ← h2]
        rw [hmv, ← h1]
      rcases hf with rfl | rfl
      · rw [if_pos rfl, show (1 : Int) - 0 = 1 from rfl] at *
        rw [r, pu_b2, a4, Option.bind_some, if_pos rfl, pu_lt, pu_lt, pu_w (x := s2 + 1) (by omega) (by omega)]
        refine ⟨by omega, _, rfl, ?_, by dsimp only; omega, rfl⟩
        rw [fin]
        rfl
      · rw [if_neg (by decide), show (1 : Int) - 1 = 0 from rfl] at *
        rw [r, pu_b2, a4, Option.bind_some, if_neg (by decide), pu_lt, pu_lt, pu_w (x := s2 + 1) (by omega) (by omega)]
        refine ⟨by omega, _, rfl, ?_, by dsimp only; omega, rfl⟩
        rw [fin]
        rfl
  · left
    rw [if_neg (by rw [c0]; exact w)]
    refine ⟨_, rfl, ?_⟩
    rw [h1, show i = (A 0).toNat by omega]
    rfl
/-- the class's search is the spec's -/
theorem ps_bl (hI : pu_inv A) (hoo : o = 5 ∨ o = 25) (ha : 0 ≤ a) (ha1 : a < A 1) (hb : 0 ≤ b) (hb1 : b < A 1) : ∀ (t dp : Nat) (f x : Int) (S : Int → Int) (m : jq_M), t < dp → t ≤ 3 → x = (t : Int) → (f = 0 ∨ f = 1) → pu_RC m o A → (∀ q, 0 ≤ q → q < A 1 → m 63 q = S q) → pu_okr (A 1) (A 0) S → 0 ≤ S a → 0 ≤ S b → X4_bestLead dp o 63 a b x f m = some (pu_bl A a b t f S, m) := by
  intro t
  induction t with
  | zero =>
    intro dp f x S m hd ht hx hf hC hS hk sa sb
    obtain ⟨d, rfl⟩ : ∃ d, dp = d + 1 := ⟨dp - 1, by omega⟩
    have w1 := pu_worth_b hI (S := S) (p := a)
    have w2 := pu_worth_b hI (S := S) (p := b)
    rw [X4_bestLead]
    dsimp only
    have i1 := hI.2.1
    have key : ∀ c : Int, 0 ≤ c → c < A 1 → X4_bestLead_j10 o 63 a b x f (X4_bestLead d) c m = some (pu_bl A a b 0 f S, m) := fun c c0 c1 => by
      unfold X4_bestLead_j10
      rw [ps_seatIn c0 (by omega), Option.bind_some, if_pos (show x < 1 by omega)]
      unfold X4_bestLead_j38
      rw [ps_worthTo hI hC hS, Option.bind_some, ps_worthTo hI hC hS, Option.bind_some, pu_w (by omega) (by omega)]
      rfl
    by_cases hz : f = 0
    · rw [if_pos hz]; exact key b hb hb1
    · rw [if_neg hz]; exact key a ha ha1
  | succ t ih =>
    intro dp f x S m hd ht hx hf hC hS hk sa sb
    obtain ⟨d, rfl⟩ : ∃ d, dp = d + 1 := ⟨dp - 1, by omega⟩
    have i1 := hI.2.1
    have wx : jq_w (x - 1) = x - 1 := pu_w (by omega) (by omega)
    have hrc : ∀ (S' : Int → Int) (τ : jq_M), pu_RC τ o A → (∀ q, 0 ≤ q → q < A 1 → τ 63 q = S' q) → pu_okr (A 1) (A 0) S' → 0 ≤ S' a → 0 ≤ S' b → X4_bestLead d o 63 a b (jq_w (x - 1)) (1 - f) τ = some (pu_bl A a b t (1 - f) S', τ) := fun S' τ c1 c2 c3 c4 c5 => by
      rw [wx]
      exact ih d (1 - f) (x - 1) S' τ (by omega) (by omega) (by omega) (by omega) c1 c2 c3 c4 c5
    have hl : ∀ mv, mv = pu_mo a b f → 0 ≤ mv → mv < A 1 → 0 ≤ S mv → jq_lp (X4_bestLead_b78 o 63 a b x f (X4_bestLead d) mv (S mv)) (pu_bl A a b t (1 - f) S, 0, m) = some (pu_bl A a b (t + 1) f S, m) := fun mv e c1 c2 c3 => ps_bl_loop hI hC hoo hS hk hf e c1 c2 sa sb c3 hrc
    have r := hrc S m hC hS hk sa sb
    rw [X4_bestLead]
    dsimp only
    rcases hf with rfl | rfl
    · rw [if_pos rfl]
      unfold X4_bestLead_j10 X4_bestLead_j70
      have r1 : X4_bestLead d o 63 a b (jq_w (x - 1)) 1 m = some (pu_bl A a b t 1 S, m) := r
      have l1 : jq_lp (X4_bestLead_b78 o 63 a b x 0 (X4_bestLead d) b (S b)) (pu_bl A a b t 1 S, 0, m) = some (pu_bl A a b (t + 1) 0 S, m) := hl b rfl hb hb1 sb
      rw [ps_seatIn hb (by omega), Option.bind_some, hS b hb hb1, if_neg (show ¬ x < 1 by omega), if_neg (show ¬ 3 < x by omega), if_neg (show ¬ S b = -1 by omega), if_pos rfl, r1, pu_b2, l1, Option.bind_some]
    · rw [if_neg (by decide)]
      unfold X4_bestLead_j10 X4_bestLead_j70
      have r1 : X4_bestLead d o 63 a b (jq_w (x - 1)) 0 m = some (pu_bl A a b t 0 S, m) := r
      have l1 : jq_lp (X4_bestLead_b78 o 63 a b x 1 (X4_bestLead d) a (S a)) (pu_bl A a b t 0 S, 0, m) = some (pu_bl A a b (t + 1) 1 S, m) := hl a rfl ha ha1 sa
      rw [ps_seatIn ha (by omega), Option.bind_some, hS a ha ha1, if_neg (show ¬ x < 1 by omega), if_neg (show ¬ 3 < x by omega), if_neg (show ¬ S a = -1 by omega), if_neg (show ¬ ((1 : Int) = 0) by decide), r1, pu_b2, l1, Option.bind_some]
end
