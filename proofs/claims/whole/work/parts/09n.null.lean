section
variable {Z : jq_Z} {X : jq_X} {z : jq_z} {own : String} {cc : ByteArray} {fr lo : Nat} {σ : jq_M} {pc : Nat} {L : List (Nat × jq_A)} {st : List jq_A} {α : Type} {F : Option α} {K : α → Prop}
theorem jq_eR (b : Nat) (ss : jq_S) (x : Int) : jq_e b ss (jR x) = .null ∨ ∃ n : Nat, jq_e b ss (jR x) = .ref n := by
  show va_rf (jq_f b x) = .null ∨ ∃ n : Nat, va_rf (jq_f b x) = .ref n
  cases jq_f b x with
  | none => exact Or.inl rfl
  | some n => exact Or.inr ⟨n, rfl⟩
theorem jq_eRc (b : Nat) (ss : jq_S) (v : jq_A) (st : List jq_A) : jq_eS b ss (v :: st) = jq_e b ss v :: jq_eS b ss st := rfl
theorem jq_aloadQ (Γ : jq_G Z X z own cc fr lo) {i : Nat} {x : Int} (d : decode cc pc = .ok (.aload i, 2)) (n : Nat) (h : L[n]? = some (i, jR x)) (k : jq_J F K (jq_V Z X z σ (pc + 2) L (jR x :: st))) : jq_J F K (jq_V Z X z σ pc L st) := by
  rcases X with ⟨⟨p, l, e, R, s, m, args, below, meth, c⟩, A, Q, nL, b, D, cs, ss, ly⟩
  obtain ⟨hx, hb, hml, hown, hts, hK, hlk, hA, hfr, hlo, hc, hs, hal, hzk, hSF, hAb, hNw⟩ := Γ
  intro r hF hR hos hol hwf hly H locs ls hP hS hsz hl
  have w := k r hF hR (jq_os_c.mpr ⟨trivial, hos⟩) hol hwf hly H locs ls hP hS hsz hl
  have h1 := lv_at hl n (jq_eL_at n h)
  rw [jq_eRc] at w
  rcases jq_eR b ss x with he | ⟨a, he⟩
  · rw [he] at h1 w
    exact lv_aloadN hx hb d h1 w
  · rw [he] at h1 w
    exact lv_aload hx hb d h1 w
theorem jq_aloadQ_n (Γ : jq_G Z X z own cc fr lo) {q : Fin 4} {i : Nat} {x : Int} (d : decode cc pc = .ok (.aload_n q, 1)) (hi : (q : Nat) = i) (n : Nat) (h : L[n]? = some (i, jR x)) (k : jq_J F K (jq_V Z X z σ (pc + 1) L (jR x :: st))) : jq_J F K (jq_V Z X z σ pc L st) := by
  rcases X with ⟨⟨p, l, e, R, s, m, args, below, meth, c⟩, A, Q, nL, b, D, cs, ss, ly⟩
  obtain ⟨hx, hb, hml, hown, hts, hK, hlk, hA, hfr, hlo, hc, hs, hal, hzk, hSF, hAb, hNw⟩ := Γ
  intro r hF hR hos hol hwf hly H locs ls hP hS hsz hl
  have w := k r hF hR (jq_os_c.mpr ⟨trivial, hos⟩) hol hwf hly H locs ls hP hS hsz hl
  have h1 := lv_at hl n (jq_eL_at n h)
  rw [jq_eRc] at w
  rcases jq_eR b ss x with he | ⟨a, he⟩
  · rw [he] at h1 w
    exact lv_aload_nN hx hb d hi h1 w
  · rw [he] at h1 w
    exact lv_aload_n hx hb d hi h1 w
theorem jq_astoreQ (Γ : jq_G Z X z own cc fr lo) {i NL : Nat} {x : Int} {L' : List (Nat × jq_A)} (d : decode cc pc = .ok (.astore i, 2)) (hnl : jq_nL X = NL) (hn : Nat.ble (i + 1) NL = true) (hL : (i, jR x) :: L.filter (fun q => !(q.1 == i) && !(q.1 + 1 == i && jq_c q.2 == 2)) = L') (k : jq_J F K (jq_V Z X z σ (pc + 2) L' st)) : jq_J F K (jq_V Z X z σ pc L (jR x :: st)) := by
  rcases X with ⟨⟨p, l, e, R, s, m, args, below, meth, c⟩, A, Q, nL, b, D, cs, ss, ly⟩
  obtain ⟨hx, hb, hml, hown, hts, hK, hlk, hA, hfr, hlo, hc, hs, hal, hzk, hSF, hAb, hNw⟩ := Γ
  intro r hF hR hos hol hwf hly H locs ls hP hS hsz hl
  have hos1 := jq_os_c.mp hos
  have hn1 := Nat.le_of_ble_eq_true hn
  subst hnl
  have hL1 := jq_fil1 (b := b) (ss := ss) hL
  rw [jq_eRc]
  rcases jq_eR b ss x with he | ⟨a, he⟩
  · rw [he] at hL1 ⊢
    exact lv_astoreN hx hb d hl (by show i < nL; exact hn1) hL1 (fun ls' hl' => k r hF hR hos1.2 (jq_olf hL trivial hol) hwf hly H locs ls' hP hS hsz hl')
  · rw [he] at hL1 ⊢
    exact lv_astore hx hb d hl (by show i < nL; exact hn1) hL1 (fun ls' hl' => k r hF hR hos1.2 (jq_olf hL trivial hol) hwf hly H locs ls' hP hS hsz hl')
theorem jq_astoreQ_n (Γ : jq_G Z X z own cc fr lo) {q : Fin 4} {i NL : Nat} {x : Int} {L' : List (Nat × jq_A)} (d : decode cc pc = .ok (.astore_n q, 1)) (hi : (q : Nat) = i) (hnl : jq_nL X = NL) (hn : Nat.ble (i + 1) NL = true) (hL : (i, jR x) :: L.filter (fun q => !(q.1 == i) && !(q.1 + 1 == i && jq_c q.2 == 2)) = L') (k : jq_J F K (jq_V Z X z σ (pc + 1) L' st)) : jq_J F K (jq_V Z X z σ pc L (jR x :: st)) := by
  rcases X with ⟨⟨p, l, e, R, s, m, args, below, meth, c⟩, A, Q, nL, b, D, cs, ss, ly⟩
  obtain ⟨hx, hb, hml, hown, hts, hK, hlk, hA, hfr, hlo, hc, hs, hal, hzk, hSF, hAb, hNw⟩ := Γ
  intro r hF hR hos hol hwf hly H locs ls hP hS hsz hl
  have hos1 := jq_os_c.mp hos
  have hn1 := Nat.le_of_ble_eq_true hn
  subst hnl
  have hL1 := jq_fil1 (b := b) (ss := ss) hL
  rw [jq_eRc]
  rcases jq_eR b ss x with he | ⟨a, he⟩
  · rw [he] at hL1 ⊢
    exact lv_astore_nN hx hb d hi hl (by show i < nL; exact hn1) hL1 (fun ls' hl' => k r hF hR hos1.2 (jq_olf hL trivial hol) hwf hly H locs ls' hP hS hsz hl')
  · rw [he] at hL1 ⊢
    exact lv_astore_n hx hb d hi hl (by show i < nL; exact hn1) hL1 (fun ls' hl' => k r hF hR hos1.2 (jq_olf hL trivial hol) hwf hly H locs ls' hP hS hsz hl')
theorem jq_null (Γ : jq_G Z X z own cc fr lo) (d : decode cc pc = .ok (.aconst_null, 1)) (k : jq_J F K (jq_V Z X z σ (pc + 1) L (jR (-1) :: st))) : jq_J F K (jq_V Z X z σ pc L st) := by
  rcases X with ⟨⟨p, l, e, R, s, m, args, below, meth, c⟩, A, Q, nL, b, D, cs, ss, ly⟩
  obtain ⟨hx, hb, hml, hown, hts, hK, hlk, hA, hfr, hlo, hc, hs, hal, hzk, hSF, hAb, hNw⟩ := Γ
  intro r hF hR hos hol hwf hly H locs ls hP hS hsz hl
  exact lv_null hx hb d (k r hF hR (jq_os_c.mpr ⟨trivial, hos⟩) hol hwf hly H locs ls hP hS hsz hl)
theorem jq_eN (b : Nat) (ss : jq_S) : jq_e b ss (jR (-1)) = .null := rfl
theorem jq_eP (b : Nat) (ss : jq_S) {x : Int} (h : 0 ≤ x) : jq_e b ss (jR x) = .ref (b + x.toNat) := by
  show va_rf (jq_f b x) = _
  unfold jq_f
  rw [if_neg (by omega)]
  rfl
theorem jq_ifnull (Γ : jq_G Z X z own cc fr lo) {x off : Int} {tgt : Nat} {A B : Option α} {dc : Decidable (x = -1)} (hm : -1 ≤ x) (d : decode cc pc = .ok (.ifnull off, 3)) (ht : (pc : Int) + off = (tgt : Int)) (k1 : x = -1 → jq_J A K (jq_V Z X z σ tgt L st)) (k2 : ¬ x = -1 → jq_J B K (jq_V Z X z σ (pc + 3) L st)) : jq_J (@ite (Option α) (x = -1) dc A B) K (jq_V Z X z σ pc L (jR x :: st)) := by
  refine jq_split (fun h => ?_) (fun h => ?_)
  · replace k1 := k1 h
    subst h
    rcases X with ⟨⟨p, l, e, R, s, m, args, below, meth, c⟩, A, Q, nL, b, D, cs, ss, ly⟩
    obtain ⟨hx, hb, hml, hown, hts, hK, hlk, hA, hfr, hlo, hc, hs, hal, hzk, hSF, hAb, hNw⟩ := Γ
    intro r hF hR hos hol hwf hly H locs ls hP hS hsz hl
    rw [jq_eRc, jq_eN]
    exact lv_ifnullN hx hb d ht (k1 r hF hR (jq_os_c.mp hos).2 hol hwf hly H locs ls hP hS hsz hl)
  · replace k2 := k2 h
    rcases X with ⟨⟨p, l, e, R, s, m, args, below, meth, c⟩, A, Q, nL, b, D, cs, ss, ly⟩
    obtain ⟨hx, hb, hml, hown, hts, hK, hlk, hA, hfr, hlo, hc, hs, hal, hzk, hSF, hAb, hNw⟩ := Γ
    intro r hF hR hos hol hwf hly H locs ls hP hS hsz hl
    rw [jq_eRc, jq_eP b ss (by omega)]
    exact lv_ifnull hx hb d (k2 r hF hR (jq_os_c.mp hos).2 hol hwf hly H locs ls hP hS hsz hl)
theorem jq_ifnonnull (Γ : jq_G Z X z own cc fr lo) {x off : Int} {tgt : Nat} {A B : Option α} {dc : Decidable (x = -1)} (hm : -1 ≤ x) (d : decode cc pc = .ok (.ifnonnull off, 3)) (ht : (pc : Int) + off = (tgt : Int)) (k2 : ¬ x = -1 → jq_J B K (jq_V Z X z σ tgt L st)) (k1 : x = -1 → jq_J A K (jq_V Z X z σ (pc + 3) L st)) : jq_J (@ite (Option α) (x = -1) dc A B) K (jq_V Z X z σ pc L (jR x :: st)) := by
  refine jq_split (fun h => ?_) (fun h => ?_)
  · replace k1 := k1 h
    subst h
    rcases X with ⟨⟨p, l, e, R, s, m, args, below, meth, c⟩, A, Q, nL, b, D, cs, ss, ly⟩
    obtain ⟨hx, hb, hml, hown, hts, hK, hlk, hA, hfr, hlo, hc, hs, hal, hzk, hSF, hAb, hNw⟩ := Γ
    intro r hF hR hos hol hwf hly H locs ls hP hS hsz hl
    rw [jq_eRc, jq_eN]
    exact lv_ifnonnullN hx hb d (k1 r hF hR (jq_os_c.mp hos).2 hol hwf hly H locs ls hP hS hsz hl)
  · replace k2 := k2 h
    rcases X with ⟨⟨p, l, e, R, s, m, args, below, meth, c⟩, A, Q, nL, b, D, cs, ss, ly⟩
    obtain ⟨hx, hb, hml, hown, hts, hK, hlk, hA, hfr, hlo, hc, hs, hal, hzk, hSF, hAb, hNw⟩ := Γ
    intro r hF hR hos hol hwf hly H locs ls hP hS hsz hl
    rw [jq_eRc, jq_eP b ss (by omega)]
    exact lv_ifnonnull hx hb d ht (k2 r hF hR (jq_os_c.mp hos).2 hol hwf hly H locs ls hP hS hsz hl)
theorem jq_areturn (Γ : jq_G Z X (jq_zN Z) own cc fr lo) {v : Int} {a : α} {rt : FieldType} (hrt : ∃ n, rt = .object n) (d : decode cc pc = .ok (.areturn, 1)) (h : K a → jq_RT Z X (some rt) (some (jR v)) σ) : jq_J (some a) K (jq_V Z X (jq_zN Z) σ pc L [jR v]) := by
  rcases X with ⟨⟨p, l, e, R, s, m, args, below, meth, c⟩, A, Q, nL, b, D, cs, ss, ly⟩
  obtain ⟨hx, hb, hml, hown, hts, hK, hlk, hA, hfr, hlo, hc, hs, hal, hzk, hSF, hAb, hNw⟩ := Γ
  intro r hF hR hos hol hwf hly H locs ls hP hS hsz hl
  cases hF
  obtain ⟨hQ, hret, rfl, hlyT⟩ := h hR
  subst hQ
  refine W.aret hx hb hret (Or.inl hrt) (jq_eR b ss v) (fun t ht hW => ⟨rfl, by rw [ht]; exact hP, hwf, hly hlyT, (fun v' hv' => by cases hv'; exact trivial), (fun hz => by obtain ⟨n, rfl⟩ := hrt; cases hz), hS.F ht⟩) hS.2.2 d
theorem jq_cpR {S0 : List jq_A} {y : MethodName} {bc : ByteArray} {mL fr' lo' : Nat} {rt : Option FieldType} {avs : List jq_A} (C : jq_Call Z X z σ pc L S0 st y bc mL rt fr' lo' avs) {g : Option Int} {f : Int → Option α} (ct : ∀ r, g = some r → jq_MC Z y bc mL rt fr' lo' avs σ (some (jR r)) σ) (kk : ∀ r, jq_J (f r) K (jq_V Z X z σ (pc + 3) L (jR r :: st))) : jq_J (g.bind f) K (jq_V Z X z σ pc L S0) := by
  intro a h hK
  cases hg : g with
  | none => rw [hg] at h; cases h
  | some r =>
    rw [hg] at h
    exact C _ _ (ct r hg) (fun _ => kk r a h hK)
/-- the length of an array -/
theorem jq_alen (Γ : jq_G Z X z own cc fr lo) {k : Int} {t n : Nat} {N : Int} (ha : jq_at Z z k (t, n)) (hN : (n : Int) = N) (ht : Nat.ble t 4 = true) (hn5 : Nat.ble n 5000 = true) (d : decode cc pc = .ok (.arraylength, 1)) (kk : jq_J F K (jq_V Z X z σ (pc + 1) L (jI N :: st))) : jq_J F K (jq_V Z X z σ pc L (jR k :: st)) := by
  rcases X with ⟨⟨p, l, e, R, s, m, args, below, meth, c⟩, A, Q, nL, b, D, cs, ss, ly⟩
  obtain ⟨hx, hb, hml, hown, hts, hK, hlk, hA, hfr, hlo, hc, hs, hal, hzk, hSF, hAb, hNw⟩ := Γ
  intro r hF hR hos hol hwf hly H locs ls hP hS hsz hl
  obtain ⟨q, rfl, hq, hz⟩ := ha
  subst hN
  have ht := Nat.le_of_ble_eq_true ht
  have hn5 := Nat.le_of_ble_eq_true hn5
  have w := kk r hF hR (jq_os_c.mpr ⟨(by show jq_r _; unfold jq_r; omega), (jq_os_c.mp hos).2⟩) hol hwf hly H locs ls hP hS hsz hl
  have e0 : Int32.ofNat n = Int32.ofInt (n : Int) := Int32.ofInt_eq_ofNat.symm
  rw [jq_reS]
  have hw := jq_ws_at (b := b) (cs := cs) (σ := σ) hq hz
  obtain rfl | rfl | rfl | rfl | rfl : t = 0 ∨ t = 1 ∨ t = 2 ∨ t = 3 ∨ t = 4 := by omega
  · exact va_alen hx hb hK hP q 0 hw rfl e0 d w
  · exact va_alen hx hb hK hP q 1 hw rfl e0 d w
  · exact va_alen hx hb hK hP q 2 hw rfl e0 d w
  · exact va_alen hx hb hK hP q 3 hw rfl e0 d w
  · exact va_alen hx hb hK hP q 4 hw rfl e0 d w
/-- null, or one of them -/
def jq_trn (x : Int) : Prop := x = -1 ∨ jq_trp x
theorem jq_trn_0 {x : Int} (h : jq_trn x) : -1 ≤ x := by
  unfold jq_trn jq_trp at h
  omega
def jq_trnc (v : Int) : Option Int := if v = -1 ∨ v = 64 ∨ v = 66 ∨ v = 68 ∨ v = 70 then some v else none
theorem jq_trnN {v : Int} {f : Int → Option α} (k : ∀ x : Int, jq_trn x → jq_J (f x) K (jq_V Z X z σ pc L (jR x :: st))) : jq_J ((jq_trnc v).bind f) K (jq_V Z X z σ pc L (jR v :: st)) := by
  intro a h hK
  unfold jq_trnc at h
  by_cases hv : v = -1 ∨ v = 64 ∨ v = 66 ∨ v = 68 ∨ v = 70
  · rw [if_pos hv] at h
    exact k v (by unfold jq_trn jq_trp; omega) a h hK
  · rw [if_neg hv] at h
    cases h
/-- null, or one of them -/
def jq_cmn (x : Int) : Prop := x = -1 ∨ jq_com x
theorem jq_cmn_0 {x : Int} (h : jq_cmn x) : -1 ≤ x := by
  unfold jq_cmn jq_com at h
  omega
def jq_cmnc (v : Int) : Option Int := if v = -1 ∨ v = 72 ∨ v = 92 ∨ v = 112 then some v else none
theorem jq_cmnN {v : Int} {f : Int → Option α} (k : ∀ x : Int, jq_cmn x → jq_J (f x) K (jq_V Z X z σ pc L (jR x :: st))) : jq_J ((jq_cmnc v).bind f) K (jq_V Z X z σ pc L (jR v :: st)) := by
  intro a h hK
  unfold jq_cmnc at h
  by_cases hv : v = -1 ∨ v = 72 ∨ v = 92 ∨ v = 112
  · rw [if_pos hv] at h
    exact k v (by unfold jq_cmn jq_com; omega) a h hK
  · rw [if_neg hv] at h
    cases h
def jq_r60 (c : Int) : Prop := c = 19 ∨ c = 20 ∨ c = 21 ∨ c = 22 ∨ c = 39 ∨ c = 40 ∨ c = 41 ∨ c = 42 ∨ c = 46 ∨ c = 47 ∨ c = 48 ∨ c = 49 ∨ c = 86 ∨ c = 87 ∨ c = 88 ∨ c = 89 ∨ c = 106 ∨ c = 107 ∨ c = 108 ∨ c = 109 ∨ c = 126 ∨ c = 127 ∨ c = 128 ∨ c = 129
theorem r60_stp_1 {c : Int} (h : jq_stp c) : jq_r60 (c + 1) := by unfold jq_stp at h; unfold jq_r60; omega
theorem r60_stp_2 {c : Int} (h : jq_stp c) : jq_r60 (c + 2) := by unfold jq_stp at h; unfold jq_r60; omega
theorem r60_stp_3 {c : Int} (h : jq_stp c) : jq_r60 (c + 3) := by unfold jq_stp at h; unfold jq_r60; omega
theorem r60_stp_4 {c : Int} (h : jq_stp c) : jq_r60 (c + 4) := by unfold jq_stp at h; unfold jq_r60; omega
theorem at_r60 {c : Int} (h : jq_r60 c) : jq_at jq_zX (jq_zN jq_zX) c (0, 60) := by
  rcases h with rfl | rfl | rfl | rfl | rfl | rfl | rfl | rfl | rfl | rfl | rfl | rfl | rfl | rfl | rfl | rfl | rfl | rfl | rfl | rfl | rfl | rfl | rfl | rfl
  · exact ⟨19, rfl, by decide +kernel, by decide +kernel⟩
  · exact ⟨20, rfl, by decide +kernel, by decide +kernel⟩
  · exact ⟨21, rfl, by decide +kernel, by decide +kernel⟩
  · exact ⟨22, rfl, by decide +kernel, by decide +kernel⟩
  · exact ⟨39, rfl, by decide +kernel, by decide +kernel⟩
  · exact ⟨40, rfl, by decide +kernel, by decide +kernel⟩
  · exact ⟨41, rfl, by decide +kernel, by decide +kernel⟩
  · exact ⟨42, rfl, by decide +kernel, by decide +kernel⟩
  · exact ⟨46, rfl, by decide +kernel, by decide +kernel⟩
  · exact ⟨47, rfl, by decide +kernel, by decide +kernel⟩
  · exact ⟨48, rfl, by decide +kernel, by decide +kernel⟩
  · exact ⟨49, rfl, by decide +kernel, by decide +kernel⟩
  · exact ⟨86, rfl, by decide +kernel, by decide +kernel⟩
  · exact ⟨87, rfl, by decide +kernel, by decide +kernel⟩
  · exact ⟨88, rfl, by decide +kernel, by decide +kernel⟩
  · exact ⟨89, rfl, by decide +kernel, by decide +kernel⟩
  · exact ⟨106, rfl, by decide +kernel, by decide +kernel⟩
  · exact ⟨107, rfl, by decide +kernel, by decide +kernel⟩
  · exact ⟨108, rfl, by decide +kernel, by decide +kernel⟩
  · exact ⟨109, rfl, by decide +kernel, by decide +kernel⟩
  · exact ⟨126, rfl, by decide +kernel, by decide +kernel⟩
  · exact ⟨127, rfl, by decide +kernel, by decide +kernel⟩
  · exact ⟨128, rfl, by decide +kernel, by decide +kernel⟩
  · exact ⟨129, rfl, by decide +kernel, by decide +kernel⟩
end
