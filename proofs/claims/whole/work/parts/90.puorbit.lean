section
variable {P Q good : Nat → Prop} {R : Nat → Nat → Prop} {N n m : Nat}
/-- how many -/
noncomputable def pu_hm (P : Nat → Prop) : Nat → Int
  | 0 => 0
  | n + 1 => pu_hm P n + pu_i (P n)
theorem pu_hm_cg (h : ∀ i, i < N → (P i ↔ Q i)) : pu_hm P N = pu_hm Q N := by
  induction N with
  | zero => rfl
  | succ n ih =>
    unfold pu_hm
    rw [ih (fun i hi => h i (by omega)), propext (h n (by omega))]
theorem pu_hm_0 (h : ∀ i, i < N → ¬ P i) : pu_hm P N = 0 := by
  induction N with
  | zero => rfl
  | succ n ih =>
    unfold pu_hm
    rw [ih (fun i hi => h i (by omega)), pu_i_n (h n (by omega))]
    rfl
theorem pu_hm_1 (hm : m < N) (h : ∀ i, i < N → i ≠ m → (P i ↔ Q i)) (hP : ¬ P m) (hQ : Q m) : pu_hm Q N = pu_hm P N + 1 := by
  induction N with
  | zero => omega
  | succ n ih =>
    unfold pu_hm
    by_cases z : m = n
    · rw [← z, pu_hm_cg (P := P) (Q := Q) (N := m) (fun i hi => h i (by omega) (by omega)), pu_i_n hP, pu_i_p hQ]
      omega
    · rw [ih (by omega) (fun i hi => h i (by omega)), propext (h n (by omega) (fun q => z q.symm))]
      omega
/-- as many first good ones of their kind as kinds with a good one -/
theorem pu_kinds (sy : ∀ a b, R a b → R b a) (tr : ∀ a b c, R a b → R b c → R a c) (bd : ∀ a b, R a b → b < N) (re : ∀ a, a < N → good a → R a a) : pu_hm (fun c => good c ∧ ∀ d, d < c → R c d → ¬ good d) N = pu_hm (fun m => (R m m ∧ ∀ d, R m d → m ≤ d) ∧ ∃ d, d < N ∧ R m d ∧ good d) N := by
  have key : ∀ n, n ≤ N → pu_hm (fun c => good c ∧ ∀ d, d < c → R c d → ¬ good d) n = pu_hm (fun m => (R m m ∧ ∀ d, R m d → m ≤ d) ∧ ∃ d, d < n ∧ R m d ∧ good d) N := by
    intro n
    induction n with
    | zero =>
      intro _
      refine (pu_hm_0 (fun i _ h => ?_)).symm
      obtain ⟨-, d, hd, -⟩ := h
      omega
    | succ n ih =>
      intro hn
      have e := ih (by omega)
      show pu_hm _ n + pu_i (good n ∧ ∀ d, d < n → R n d → ¬ good d) = _
      by_cases z : good n ∧ ∀ d, d < n → R n d → ¬ good d
      · rw [pu_i_p z, e]
        obtain ⟨m, m0, m1⟩ : ∃ m, R n m ∧ ∀ d, R n d → m ≤ d := by
          have hex : ∀ k, k ≤ N → (∃ m, m < k ∧ R n m) → ∃ m, R n m ∧ ∀ d, R n d → m ≤ d := by
            intro k
            induction k with
            | zero => intro _ ⟨m, hm, _⟩; omega
            | succ k ihk =>
              intro hk ⟨m, hm, hr⟩
              by_cases w : ∃ m, m < k ∧ R n m
              · exact ihk (by omega) w
              · refine ⟨m, hr, fun d hd => ?_⟩
                apply Classical.byContradiction
                intro g
                exact w ⟨d, by omega, hd⟩
          exact hex N (Nat.le_refl _) ⟨n, by omega, re n (by omega) z.1⟩
        have mm : R m m := tr m n m (sy n m m0) m0
        refine (pu_hm_1 (m := m) (bd n m m0) (fun i hi ne => ?_) (fun h => ?_) ?_).symm
        · constructor
          · intro ⟨h1, d, h2, h3, h4⟩
            exact ⟨h1, d, by omega, h3, h4⟩
          · intro ⟨h1, d, h2, h3, h4⟩
            refine ⟨h1, d, ?_, h3, h4⟩
            apply Classical.byContradiction
            intro g
            have ed : d = n := by omega
            rw [ed] at h3
            have a1 := h1.2 m (tr i n m h3 m0)
            have a2 := m1 i (sy i n h3)
            omega
        · obtain ⟨-, d, h2, h3, h4⟩ := h
          exact z.2 d h2 (tr n m d m0 h3) h4
        · exact ⟨⟨mm, fun d hd => m1 d (tr n m d m0 hd)⟩, n, by omega, sy n m m0, z.1⟩
      · rw [pu_i_n z, Int.add_zero, e]
        refine pu_hm_cg (fun i hi => ?_)
        constructor
        · intro ⟨h1, d, h2, h3, h4⟩
          exact ⟨h1, d, by omega, h3, h4⟩
        · intro ⟨h1, d, h2, h3, h4⟩
          by_cases g : d < n
          · exact ⟨h1, d, g, h3, h4⟩
          · have ed : d = n := by omega
            rw [ed] at h3 h4
            apply Classical.byContradiction
            intro q
            refine z ⟨h4, fun d' hd hr hg => q ⟨h1, d', hd, tr i n d' h3 hr, hg⟩⟩
  exact key N (Nat.le_refl _)
end
