section
variable {Z : jq_Z} {X : jq_X} {z : jq_z} {own : String} {cc : ByteArray} {fr lo : Nat} {σ : jq_M} {pc : Nat} {L : List (Nat × jq_A)} {st : List jq_A} {α : Type} {F : Option α} {K : α → Prop}
theorem jq_none {G : Prop} : jq_J (none : Option α) K G := fun _ h => by cases h
theorem jq_getsC (Γ : jq_G Z X z own cc fr lo) {ix : Nat} (hw : Cond.fieldLink own ix "java/lang/String" "COMPACT_STRINGS" "Z" ∈ jq_T) (d : decode cc pc = .ok (.getstatic ix, 3)) (k : jq_J F K (jq_V Z X z σ (pc + 3) L (jI 1 :: st))) : jq_J F K (jq_V Z X z σ pc L st) := by
  rcases X with ⟨⟨p, l, e, R, s, m, args, below, meth, c⟩, A, Q, nL, b, D, cs, ss, ly⟩
  obtain ⟨hx, hb, hml, hown, hts, hK, hlk, hA, hfr, hlo, hc, hs, hal, hzk, hSF, hAb, hNw⟩ := Γ
  intro r hF hR hos hol hwf hly H locs ls hP hS hsz hl
  exact va_gets (C := "java/lang/String") (n := "COMPACT_STRINGS") (d := "Z") hx hb hSF.2.2.1 hS hown (hts _ hw) (fun _ h => h) d (k r hF hR (jq_os_c.mpr ⟨(by show jq_r 1; unfold jq_r; omega), hos⟩) hol hwf hly H locs ls hP hS hsz hl)
theorem jq_getsF (Γ : jq_G Z X z own cc fr lo) {ix : Nat} (hw : Cond.fieldLink own ix "jdk/internal/util/Preconditions" "SIOOBE_FORMATTER" "Ljava/util/function/BiFunction;" ∈ jq_T) (d : decode cc pc = .ok (.getstatic ix, 3)) (k : jq_J F K (jq_V Z X z σ (pc + 3) L (jT 2 :: st))) : jq_J F K (jq_V Z X z σ pc L st) := by
  rcases X with ⟨⟨p, l, e, R, s, m, args, below, meth, c⟩, A, Q, nL, b, D, cs, ss, ly⟩
  obtain ⟨hx, hb, hml, hown, hts, hK, hlk, hA, hfr, hlo, hc, hs, hal, hzk, hSF, hAb, hNw⟩ := Γ
  intro r hF hR hos hol hwf hly H locs ls hP hS hsz hl
  exact va_gets (C := "jdk/internal/util/Preconditions") (n := "SIOOBE_FORMATTER") (d := "Ljava/util/function/BiFunction;") hx hb hSF.2.2.2.1 hS hown (hts _ hw) (fun _ h => h) d (k r hF hR (jq_os_c.mpr ⟨trivial, hos⟩) hol hwf hly H locs ls hP hS hsz hl)
theorem jq_getSc (Γ : jq_G Z X z own cc fr lo) {ix : Nat} (hw : Cond.fieldLink own ix "java/lang/String" "coder" "B" ∈ jq_T) (d : decode cc pc = .ok (.getfield ix, 3)) (k : jq_J F K (jq_V Z X z σ (pc + 3) L (jI 0 :: st))) : jq_J F K (jq_V Z X z σ pc L (jT 0 :: st)) := by
  rcases X with ⟨⟨p, l, e, R, s, m, args, below, meth, c⟩, A, Q, nL, b, D, cs, ss, ly⟩
  obtain ⟨hx, hb, hml, hown, hts, hK, hlk, hA, hfr, hlo, hc, hs, hal, hzk, hSF, hAb, hNw⟩ := Γ
  intro r hF hR hos hol hwf hly H locs ls hP hS hsz hl
  exact vk_getf (o := "java/lang/String") (n := "coder") (d := "B") (q := ss.1) hx hb (hSF.1.1 0 (by decide)).2.1 hS hown (hts _ hw) (fun _ h => h) d (k r hF hR (jq_os_c.mpr ⟨(by show jq_r 0; unfold jq_r; omega), (jq_os_c.mp hos).2⟩) hol hwf hly H locs ls hP hS hsz hl)
theorem jq_getSv (Γ : jq_G Z X z own cc fr lo) {ix : Nat} (hw : Cond.fieldLink own ix "java/lang/String" "value" "[B" ∈ jq_T) (d : decode cc pc = .ok (.getfield ix, 3)) (k : jq_J F K (jq_V Z X z σ (pc + 3) L (jT 1 :: st))) : jq_J F K (jq_V Z X z σ pc L (jT 0 :: st)) := by
  rcases X with ⟨⟨p, l, e, R, s, m, args, below, meth, c⟩, A, Q, nL, b, D, cs, ss, ly⟩
  obtain ⟨hx, hb, hml, hown, hts, hK, hlk, hA, hfr, hlo, hc, hs, hal, hzk, hSF, hAb, hNw⟩ := Γ
  intro r hF hR hos hol hwf hly H locs ls hP hS hsz hl
  exact vk_getf (o := "java/lang/String") (n := "value") (d := "[B") (q := ss.1) hx hb (hSF.1.1 0 (by decide)).2.2.1 hS hown (hts _ hw) (fun _ h => h) d (k r hF hR (jq_os_c.mpr ⟨trivial, (jq_os_c.mp hos).2⟩) hol hwf hly H locs ls hP hS hsz hl)
def jq_sln (Z : jq_Z) : Int := (Z.2.2.2.2.2.length : Int)
theorem jq_alenS (Γ : jq_G Z X z own cc fr lo) (d : decode cc pc = .ok (.arraylength, 1)) (k : jq_J F K (jq_V Z X z σ (pc + 1) L (jI (jq_sln Z) :: st))) : jq_J F K (jq_V Z X z σ pc L (jT 1 :: st)) := by
  rcases X with ⟨⟨p, l, e, R, s, m, args, below, meth, c⟩, A, Q, nL, b, D, cs, ss, ly⟩
  obtain ⟨hx, hb, hml, hown, hts, hK, hlk, hA, hfr, hlo, hc, hs, hal, hzk, hSF, hAb, hNw⟩ := Γ
  intro r hF hR hos hol hwf hly H locs ls hP hS hsz hl
  have hlen := hSF.2.2.2.2
  refine va_tlen (t := ss.2.1) (v := Int32.ofInt (jq_sln Z)) hx hb (hSF.1.1 0 (by decide)).2.2.2 hS ?_ d (k r hF hR (jq_os_c.mpr ⟨(by show jq_r _; unfold jq_r jq_sln; omega), (jq_os_c.mp hos).2⟩) hol hwf hly H locs ls hP hS hsz hl)
  exact (Int32.ofInt_eq_ofNat).symm
theorem jq_baldS (Γ : jq_G Z X z own cc fr lo) {i : Int} {f : Int → Option α} (d : decode cc pc = .ok (.baload, 1)) (k : ∀ v, jq_J (f v) K (jq_V Z X z σ (pc + 1) L (jI v :: st))) : jq_J ((jq_sch Z i).bind f) K (jq_V Z X z σ pc L (jI i :: jT 1 :: st)) := by
  rcases X with ⟨⟨p, l, e, R, s, m, args, below, meth, c⟩, A, Q, nL, b, D, cs, ss, ly⟩
  obtain ⟨hx, hb, hml, hown, hts, hK, hlk, hA, hfr, hlo, hc, hs, hal, hzk, hSF, hAb, hNw⟩ := Γ
  intro r hF hR hos hol hwf hly H locs ls hP hS hsz hl
  unfold jq_sch at hF
  by_cases hi : 0 ≤ i ∧ i < (Z.2.2.2.2.2.length : Int)
  · rw [if_pos hi] at hF
    have hos1 := jq_os_c.mp hos
    have hos2 := jq_os_c.mp hos1.2
    obtain ⟨hin, hcl⟩ := jq_ix hi hos1.1
    have w := k _ r hF hR (jq_os_c.mpr ⟨jq_ti_r _, hos2.2⟩) hol hwf hly H locs ls hP hS hsz hl
    refine va_tb (t := ss.2.1) (v := .int (Z.2.2.2.2.2.getD i.toNat 0)) hx hb (hSF.1.1 0 (by decide)).2.2.2 hS hin (by rw [hcl]; rfl) d ?_
    have e : jq_eS b ss (jI (Z.2.2.2.2.2.getD i.toNat 0).toInt :: st) = .int (Z.2.2.2.2.2.getD i.toNat 0) :: jq_eS b ss st := congrArg (fun v => Value.int v :: jq_eS b ss st) (jq_oft _)
    rw [e] at w
    exact w
  · rw [if_neg hi] at hF
    cases hF
theorem jq_and255 (x : Int) : Int32.ofInt (jq_and x 255) = Int32.ofInt x &&& 255 := by
  unfold jq_and
  rw [jq_oft]
  rfl
theorem jq_i2cA (Γ : jq_G Z X z own cc fr lo) {x : Int} (d : decode cc pc = .ok (.i2c, 1)) (k : jq_J F K (jq_V Z X z σ (pc + 1) L (jI (jq_and x 255) :: st))) : jq_J F K (jq_V Z X z σ pc L (jI (jq_and x 255) :: st)) := by
  rcases X with ⟨⟨p, l, e, R, s, m, args, below, meth, c⟩, A, Q, nL, b, D, cs, ss, ly⟩
  obtain ⟨hx, hb, hml, hown, hts, hK, hlk, hA, hfr, hlo, hc, hs, hal, hzk, hSF, hAb, hNw⟩ := Γ
  intro r hF hR hos hol hwf hly H locs ls hP hS hsz hl
  have w := k r hF hR hos hol hwf hly H locs ls hP hS hsz hl
  exact lv_i2c hx hb d (by rw [jq_and255]; exact sc_c2 _) w
theorem jq_narC (x : Int) : narrow .char (.int (Int32.ofInt (jq_and x 255))) = .int (Int32.ofInt (jq_and x 255)) := by
  rw [jq_and255]
  exact sc_nar _
theorem jq_nar256 : ∀ n : Nat, n < 256 → narrow .char (.int (Int32.ofInt (n : Int))) = .int (Int32.ofInt (n : Int)) := by decide +kernel
def jq_blc (v : Int) : Option Int := if 0 ≤ v ∧ v < 256 then some v else none
theorem jq_blcN {v : Int} {f : Int → Option α} (k : ∀ x : Int, narrow .char (.int (Int32.ofInt x)) = .int (Int32.ofInt x) → jq_J (f x) K (jq_V Z X z σ pc L (jI x :: st))) : jq_J ((jq_blc v).bind f) K (jq_V Z X z σ pc L (jI v :: st)) := by
  intro a h hK
  unfold jq_blc at h
  by_cases hv : 0 ≤ v ∧ v < 256
  · rw [if_pos hv] at h
    refine k v ?_ a h hK
    have h1 := jq_nar256 v.toNat (by omega)
    rwa [show ((v.toNat : Nat) : Int) = v by omega] at h1
  · rw [if_neg hv] at h
    cases h
theorem jq_ureturn (Γ : jq_G Z X (jq_zN Z) own cc fr lo) {a : α} (d : decode cc pc = .ok (.return_, 1)) (h : K a → jq_RT Z X none none σ) : jq_J (some a) K (jq_V Z X (jq_zN Z) σ pc L []) := jq_vreturn Γ d h
theorem jq_cpU {S0 : List jq_A} {y : MethodName} {bc : ByteArray} {mL fr' lo' : Nat} {rt : Option FieldType} {avs : List jq_A} (C : jq_Call Z X z σ pc L S0 st y bc mL rt fr' lo' avs) {g : Option Int} {f : Int → Option α} (ct : ∀ r, g = some r → jq_MC Z y bc mL rt fr' lo' avs σ none σ) (kk : ∀ r, jq_J (f r) K (jq_V Z X z σ (pc + 3) L st)) : jq_J (g.bind f) K (jq_V Z X z σ pc L S0) := by
  intro a h hK
  cases hg : g with
  | none => rw [hg] at h; cases h
  | some r =>
    rw [hg] at h
    exact C _ _ (ct r hg) (fun _ => kk r a h hK)
theorem jq_nreturn (Γ : jq_G Z X (jq_zN Z) own cc fr lo) {v : Int} {ty : FieldType} {a : α} (hty : ty ≠ .boolean) (hv : narrow ty (.int (Int32.ofInt v)) = .int (Int32.ofInt v)) (d : decode cc pc = .ok (.ireturn, 1)) (h : K a → jq_RT Z X (some ty) (some (jI v)) σ) : jq_J (some a) K (jq_V Z X (jq_zN Z) σ pc L [jI v]) := by
  rcases X with ⟨⟨p, l, e, R, s, m, args, below, meth, c⟩, A, Q, nL, b, D, cs, ss, ly⟩
  obtain ⟨hx, hb, hml, hown, hts, hK, hlk, hA, hfr, hlo, hc, hs, hal, hzk, hSF, hAb, hNw⟩ := Γ
  intro r hF hR hos hol hwf hly H locs ls hP hS hsz hl
  cases hF
  obtain ⟨hQ, hret, rfl, hlyT⟩ := h hR
  subst hQ
  exact W.zret hx hb hret hv (fun t ht hW => ⟨rfl, by rw [ht]; exact hP, hwf, hly hlyT, (fun v' hv' => by cases hv'; exact (jq_os_c.mp hos).1), (fun hz => absurd (Option.some.inj hz) hty), hS.F ht⟩) hS.2.2 d
theorem jq_virtT (Γ : jq_G Z X z own cc fr lo) (hlY : jq_ly X) (hzz : z = jq_zN Z) {avs st S0 : List jq_A} {y : MethodName} {bc : ByteArray} {mL fr' lo' ix n : Nat} {rt : Option FieldType} (ml : jq_vl own ix y bc mL rt n) (hn : avs.length = n) (hci : y.cls = "java/lang/String") (hst : S0 = avs.reverse ++ jT 0 :: st) (hfr1 : Nat.ble (fr' + 1) fr = true) (hlo1 : Nat.ble (8 + (mL + 11) + lo') lo = true) (hcat : Nat.ble (st.map jq_c).sum 8 = true) (d : decode cc pc = .ok (.invokevirtual ix, 3)) : jq_Call Z X z σ pc L S0 st y bc mL rt fr' lo' (jT 0 :: avs) := by
  intro rv σ' mc kk
  have Γ0 := Γ
  rcases X with ⟨⟨p, l, e, R, s, m, args, below, meth, c⟩, A, Q, nL, b, D, cs, ss, ly⟩
  obtain ⟨hx, hb, hml, hown, hts, hK, hlk, hA, hfr, hlo, hc, hs, hal, hzk, hSF, hAb, hNw⟩ := Γ
  intro hos hol hwf hly H locs ls hP hS hsz hl
  obtain ⟨w1, w2, w3, w4, w5, w6⟩ := ml
  subst hst
  have hosr : jq_os (jT 0 :: avs) ∧ jq_os st := by
    refine ⟨jq_os_c.mpr ⟨trivial, fun v hv => hos v (List.mem_append_left _ (List.mem_reverse.mpr hv))⟩, fun v hv => hos v (List.mem_append_right _ (List.mem_cons_of_mem _ hv))⟩
  have hzN : z.1 = Z.1.length := by rw [hzz]; rfl
  have hpre := jq_pre Γ0 hzN hlY (H := H) (locs := locs) hosr.1 hwf hly hP hS
  have hrec := vk_recv (i := 0) hSF.1 (by decide) hS
  rw [← hci] at hrec
  have hcw : CallW R s args own y.cls ix y bc mL rt (Cond.code y bc mL rt :: jq_T) { frames := fr', cells := 0, slots := 0, locals := lo' } 0 0 n := by
    refine ⟨callB_of n hts (jq_good w5) rfl rfl rfl (hts _ w4) (hts _ w1) w6 ⟨?_, ?_⟩, hts _ w2, hts _ w3⟩
    · exact Nat.le_trans (Nat.le_of_ble_eq_true hfr1) hfr
    · exact Nat.le_trans (Nat.le_of_ble_eq_true hlo1) hlo
  have hstk : jq_eS b ss (avs.reverse ++ jT 0 :: st) = (jq_eS b ss avs).reverse ++ .ref ss.1 :: jq_eS b ss st := by
    rw [jq_eS_app, jq_eS_rev]
    rfl
  have hargs : jq_eS b ss (jT 0 :: avs) = Value.ref ss.1 :: jq_eS b ss avs := rfl
  rw [hargs] at hpre
  have hrun := va_runV (p := p) (l := l) (e := e) (below := below) (meth := meth) (g := F0 m pc ls (jq_eS b ss (avs.reverse ++ jT 0 :: st))) (As := jq_eS b ss avs) (rest := jq_eS b ss st) (cells := z.2.1) (slots := z.2.2.1) (locs := locs) (H := H) ⟨hx, hb, hml, hown, hts⟩ (mc l b D cs ss) hcw ⟨jq_blind b D cs ss _, hrec, hpre⟩ rfl (by unfold jq_eS; rw [List.length_map]; exact hn) hl.1 hstk (lv_room (by rw [jq_eS_cat]; exact Nat.le_of_ble_eq_true hcat)) d ⟨hc, hs⟩
  refine jq_after hrun hS (fun a ha => by
    have := hA (a - b) (by have h1 := ha.1; have h2 := ha.2; omega)
    rwa [show b + (a - b) = a by have := ha.1; omega] at this) (fun H1 locs1 hP1 hwf1 hly1 hok1 hzb1 hS1 => ?_)
  have hz4 : z.2.2.2 = false := by rw [hzz]; rfl
  have w := kk hzb1 (fun v hv => by
    rcases List.mem_append.mp hv with h | h
    · exact hok1 v (by cases rv with
        | none => cases h
        | some r => simp at h; rw [h])
    · exact hosr.2 v h) hol (by rw [hzN]; exact hwf1) (fun _ => hly1) H1 locs1 ls (by rw [hzN]; exact hP1) hS1 (fun h => by rw [hz4] at h; cases h) hl
  rw [jq_eS_app] at w
  exact w
end
