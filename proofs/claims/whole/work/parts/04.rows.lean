section
variable {Z : jq_Z} {X : jq_X} {z : jq_z} {own : String} {cc : ByteArray} {fr lo : Nat} {σ : jq_M} {pc : Nat} {L : List (Nat × jq_A)} {st : List jq_A} {α : Type} {F : Option α} {K : α → Prop}
theorem jq_r_of {n : Int} (h : (decide (-2147483648 ≤ n) && decide (n < 2147483648)) = true) : jq_r n := by
  simp only [Bool.and_eq_true, decide_eq_true_eq] at h
  exact h
theorem jq_rl_of {n : Int} (h : (decide (-9223372036854775808 ≤ n) && decide (n < 9223372036854775808)) = true) : jq_rl n := by
  simp only [Bool.and_eq_true, decide_eq_true_eq] at h
  exact h
theorem jq_eL_at {ss : jq_S} {b : Nat} {L : List (Nat × jq_A)} {i : Nat} {v : jq_A} (k : Nat) (h : L[k]? = some (i, v)) : (jq_eL b ss L)[k]? = some (i, jq_e b ss v) := by
  unfold jq_eL
  rw [List.getElem?_map, h]
  rfl
theorem jq_ol_at {L : List (Nat × jq_A)} {i : Nat} {v : jq_A} (k : Nat) (h : L[k]? = some (i, v)) (hl : jq_ol L) : jq_ok v := hl _ (List.mem_of_getElem? h)
theorem jq_use {α : Type} {F : Option α} {K : α → Prop} {G : Prop} (k : jq_J F K G) {r : α} (h : F = some r) (hK : K r) : G := k r h hK
theorem jq_iconst (Γ : jq_G Z X z own cc fr lo) {n : Int} (d : decode cc pc = .ok (.iconst n, 1)) (hn : (decide (-2147483648 ≤ n) && decide (n < 2147483648)) = true) (k : jq_J F K (jq_V Z X z σ (pc + 1) L (jI n :: st))) : jq_J F K (jq_V Z X z σ pc L st) := by
  rcases X with ⟨⟨p, l, e, R, s, m, args, below, meth, c⟩, A, Q, nL, b, D, cs, ss, ly⟩
  obtain ⟨hx, hb, hml, hown, hts, hK, hlk, hA, hfr, hlo, hc, hs, hal, hzk, hSF, hAb, hNw⟩ := Γ
  intro r hF hR hos hol hwf hly H locs ls hP hS hsz hl
  exact lv_iconst hx hb d rfl (k r hF hR (jq_os_c.mpr ⟨jq_r_of hn, hos⟩) hol hwf hly H locs ls hP hS hsz hl)
theorem jq_8 {n : Int} (h1 : -128 ≤ n) (h2 : n < 128) : (Int8.ofInt n).toInt32 = Int32.ofInt n := by
  apply Int32.toInt_inj.mp
  rw [Int8.toInt_toInt32, Int8.toInt_ofInt, jq_toInt]
  unfold jq_w Int.bmod
  simp only [Int8.size]
  omega
theorem jq_16 {n : Int} (h1 : -32768 ≤ n) (h2 : n < 32768) : (Int16.ofInt n).toInt32 = Int32.ofInt n := by
  apply Int32.toInt_inj.mp
  rw [Int16.toInt_toInt32, Int16.toInt_ofInt, jq_toInt]
  unfold jq_w Int.bmod
  simp only [Int16.size]
  omega
theorem jq_bipush (Γ : jq_G Z X z own cc fr lo) {n : Int} (d : decode cc pc = .ok (.bipush n, 2)) (hn : (decide (-128 ≤ n) && decide (n < 128)) = true) (k : jq_J F K (jq_V Z X z σ (pc + 2) L (jI n :: st))) : jq_J F K (jq_V Z X z σ pc L st) := by
  rcases X with ⟨⟨p, l, e, R, s, m, args, below, meth, c⟩, A, Q, nL, b, D, cs, ss, ly⟩
  obtain ⟨hx, hb, hml, hown, hts, hK, hlk, hA, hfr, hlo, hc, hs, hal, hzk, hSF, hAb, hNw⟩ := Γ
  intro r hF hR hos hol hwf hly H locs ls hP hS hsz hl
  simp only [Bool.and_eq_true, decide_eq_true_eq] at hn
  exact lv_bipush hx hb d (jq_8 hn.1 hn.2) (k r hF hR (jq_os_c.mpr ⟨(by show jq_r n; unfold jq_r; omega), hos⟩) hol hwf hly H locs ls hP hS hsz hl)
theorem jq_sipush (Γ : jq_G Z X z own cc fr lo) {n : Int} (d : decode cc pc = .ok (.sipush n, 3)) (hn : (decide (-32768 ≤ n) && decide (n < 32768)) = true) (k : jq_J F K (jq_V Z X z σ (pc + 3) L (jI n :: st))) : jq_J F K (jq_V Z X z σ pc L st) := by
  rcases X with ⟨⟨p, l, e, R, s, m, args, below, meth, c⟩, A, Q, nL, b, D, cs, ss, ly⟩
  obtain ⟨hx, hb, hml, hown, hts, hK, hlk, hA, hfr, hlo, hc, hs, hal, hzk, hSF, hAb, hNw⟩ := Γ
  intro r hF hR hos hol hwf hly H locs ls hP hS hsz hl
  simp only [Bool.and_eq_true, decide_eq_true_eq] at hn
  exact lv_sipush hx hb d (jq_16 hn.1 hn.2) (k r hF hR (jq_os_c.mpr ⟨(by show jq_r n; unfold jq_r; omega), hos⟩) hol hwf hly H locs ls hP hS hsz hl)
theorem jq_lconst (Γ : jq_G Z X z own cc fr lo) {q : Fin 2} (n : Int) (d : decode cc pc = .ok (.lconst q, 1)) (hq : Int64.ofNat (q : Nat) = Int64.ofInt n) (hn : (decide (-9223372036854775808 ≤ n) && decide (n < 9223372036854775808)) = true) (k : jq_J F K (jq_V Z X z σ (pc + 1) L (jL n :: st))) : jq_J F K (jq_V Z X z σ pc L st) := by
  rcases X with ⟨⟨p, l, e, R, s, m, args, below, meth, c⟩, A, Q, nL, b, D, cs, ss, ly⟩
  obtain ⟨hx, hb, hml, hown, hts, hK, hlk, hA, hfr, hlo, hc, hs, hal, hzk, hSF, hAb, hNw⟩ := Γ
  intro r hF hR hos hol hwf hly H locs ls hP hS hsz hl
  exact lv_lconst hx hb d hq (k r hF hR (jq_os_c.mpr ⟨jq_rl_of hn, hos⟩) hol hwf hly H locs ls hP hS hsz hl)
theorem jq_ldc (Γ : jq_G Z X z own cc fr lo) {ix : Nat} (n : Int) (d : decode cc pc = .ok (.ldc ix, 2)) (hw : Cond.constant own ix (Int32.ofInt n) ∈ jq_T) (hn : (decide (-2147483648 ≤ n) && decide (n < 2147483648)) = true) (k : jq_J F K (jq_V Z X z σ (pc + 2) L (jI n :: st))) : jq_J F K (jq_V Z X z σ pc L st) := by
  rcases X with ⟨⟨p, l, e, R, s, m, args, below, meth, c⟩, A, Q, nL, b, D, cs, ss, ly⟩
  obtain ⟨hx, hb, hml, hown, hts, hK, hlk, hA, hfr, hlo, hc, hs, hal, hzk, hSF, hAb, hNw⟩ := Γ
  intro r hF hR hos hol hwf hly H locs ls hP hS hsz hl
  exact lv_ldc hx hb hown (hts _ hw) d (k r hF hR (jq_os_c.mpr ⟨jq_r_of hn, hos⟩) hol hwf hly H locs ls hP hS hsz hl)
theorem jq_ldcw (Γ : jq_G Z X z own cc fr lo) {ix : Nat} (n : Int) (d : decode cc pc = .ok (.ldc_w ix, 3)) (hw : Cond.constant own ix (Int32.ofInt n) ∈ jq_T) (hn : (decide (-2147483648 ≤ n) && decide (n < 2147483648)) = true) (k : jq_J F K (jq_V Z X z σ (pc + 3) L (jI n :: st))) : jq_J F K (jq_V Z X z σ pc L st) := by
  rcases X with ⟨⟨p, l, e, R, s, m, args, below, meth, c⟩, A, Q, nL, b, D, cs, ss, ly⟩
  obtain ⟨hx, hb, hml, hown, hts, hK, hlk, hA, hfr, hlo, hc, hs, hal, hzk, hSF, hAb, hNw⟩ := Γ
  intro r hF hR hos hol hwf hly H locs ls hP hS hsz hl
  exact lv_ldcw hx hb hown (hts _ hw) d (k r hF hR (jq_os_c.mpr ⟨jq_r_of hn, hos⟩) hol hwf hly H locs ls hP hS hsz hl)
theorem jq_ldc2 (Γ : jq_G Z X z own cc fr lo) {ix : Nat} (n : Int) (d : decode cc pc = .ok (.ldc2_w ix, 3)) (hw : Cond.constantLong own ix (Int64.ofInt n) ∈ jq_T) (hn : (decide (-9223372036854775808 ≤ n) && decide (n < 9223372036854775808)) = true) (k : jq_J F K (jq_V Z X z σ (pc + 3) L (jL n :: st))) : jq_J F K (jq_V Z X z σ pc L st) := by
  rcases X with ⟨⟨p, l, e, R, s, m, args, below, meth, c⟩, A, Q, nL, b, D, cs, ss, ly⟩
  obtain ⟨hx, hb, hml, hown, hts, hK, hlk, hA, hfr, hlo, hc, hs, hal, hzk, hSF, hAb, hNw⟩ := Γ
  intro r hF hR hos hol hwf hly H locs ls hP hS hsz hl
  exact lv_ldc2 hx hb hown (hts _ hw) d (k r hF hR (jq_os_c.mpr ⟨jq_rl_of hn, hos⟩) hol hwf hly H locs ls hP hS hsz hl)
theorem jq_iload (Γ : jq_G Z X z own cc fr lo) {i : Nat} {x : Int} (d : decode cc pc = .ok (.iload i, 2)) (n : Nat) (h : L[n]? = some (i, jI x)) (k : jq_J F K (jq_V Z X z σ (pc + 2) L (jI x :: st))) : jq_J F K (jq_V Z X z σ pc L st) := by
  rcases X with ⟨⟨p, l, e, R, s, m, args, below, meth, c⟩, A, Q, nL, b, D, cs, ss, ly⟩
  obtain ⟨hx, hb, hml, hown, hts, hK, hlk, hA, hfr, hlo, hc, hs, hal, hzk, hSF, hAb, hNw⟩ := Γ
  intro r hF hR hos hol hwf hly H locs ls hP hS hsz hl
  exact lv_iload hx hb d (lv_at hl n (jq_eL_at n h)) (k r hF hR (jq_os_c.mpr ⟨jq_ol_at n h hol, hos⟩) hol hwf hly H locs ls hP hS hsz hl)
theorem jq_iload_n (Γ : jq_G Z X z own cc fr lo) {q : Fin 4} {i : Nat} {x : Int} (d : decode cc pc = .ok (.iload_n q, 1)) (hi : (q : Nat) = i) (n : Nat) (h : L[n]? = some (i, jI x)) (k : jq_J F K (jq_V Z X z σ (pc + 1) L (jI x :: st))) : jq_J F K (jq_V Z X z σ pc L st) := by
  rcases X with ⟨⟨p, l, e, R, s, m, args, below, meth, c⟩, A, Q, nL, b, D, cs, ss, ly⟩
  obtain ⟨hx, hb, hml, hown, hts, hK, hlk, hA, hfr, hlo, hc, hs, hal, hzk, hSF, hAb, hNw⟩ := Γ
  intro r hF hR hos hol hwf hly H locs ls hP hS hsz hl
  exact lv_iload_n hx hb d hi (lv_at hl n (jq_eL_at n h)) (k r hF hR (jq_os_c.mpr ⟨jq_ol_at n h hol, hos⟩) hol hwf hly H locs ls hP hS hsz hl)
theorem jq_lload (Γ : jq_G Z X z own cc fr lo) {i : Nat} {x : Int} (d : decode cc pc = .ok (.lload i, 2)) (n : Nat) (h : L[n]? = some (i, jL x)) (k : jq_J F K (jq_V Z X z σ (pc + 2) L (jL x :: st))) : jq_J F K (jq_V Z X z σ pc L st) := by
  rcases X with ⟨⟨p, l, e, R, s, m, args, below, meth, c⟩, A, Q, nL, b, D, cs, ss, ly⟩
  obtain ⟨hx, hb, hml, hown, hts, hK, hlk, hA, hfr, hlo, hc, hs, hal, hzk, hSF, hAb, hNw⟩ := Γ
  intro r hF hR hos hol hwf hly H locs ls hP hS hsz hl
  exact lv_lload hx hb d (lv_at hl n (jq_eL_at n h)) (k r hF hR (jq_os_c.mpr ⟨jq_ol_at n h hol, hos⟩) hol hwf hly H locs ls hP hS hsz hl)
theorem jq_lload_n (Γ : jq_G Z X z own cc fr lo) {q : Fin 4} {i : Nat} {x : Int} (d : decode cc pc = .ok (.lload_n q, 1)) (hi : (q : Nat) = i) (n : Nat) (h : L[n]? = some (i, jL x)) (k : jq_J F K (jq_V Z X z σ (pc + 1) L (jL x :: st))) : jq_J F K (jq_V Z X z σ pc L st) := by
  rcases X with ⟨⟨p, l, e, R, s, m, args, below, meth, c⟩, A, Q, nL, b, D, cs, ss, ly⟩
  obtain ⟨hx, hb, hml, hown, hts, hK, hlk, hA, hfr, hlo, hc, hs, hal, hzk, hSF, hAb, hNw⟩ := Γ
  intro r hF hR hos hol hwf hly H locs ls hP hS hsz hl
  exact lv_lload_n hx hb d hi (lv_at hl n (jq_eL_at n h)) (k r hF hR (jq_os_c.mpr ⟨jq_ol_at n h hol, hos⟩) hol hwf hly H locs ls hP hS hsz hl)
theorem jq_aload (Γ : jq_G Z X z own cc fr lo) {i : Nat} {x : Int} (d : decode cc pc = .ok (.aload i, 2)) (n : Nat) (h : L[n]? = some (i, jR x)) (hx0 : 0 ≤ x) (k : jq_J F K (jq_V Z X z σ (pc + 2) L (jR x :: st))) : jq_J F K (jq_V Z X z σ pc L st) := by
  rcases X with ⟨⟨p, l, e, R, s, m, args, below, meth, c⟩, A, Q, nL, b, D, cs, ss, ly⟩
  obtain ⟨hx, hb, hml, hown, hts, hK, hlk, hA, hfr, hlo, hc, hs, hal, hzk, hSF, hAb, hNw⟩ := Γ
  intro r hF hR hos hol hwf hly H locs ls hP hS hsz hl
  have w := k r hF hR (jq_os_c.mpr ⟨trivial, hos⟩) hol hwf hly H locs ls hP hS hsz hl
  have he : jq_e b ss (jR x) = .ref (b + x.toNat) := by
    show va_rf (jq_f b x) = _
    unfold jq_f
    rw [if_neg (by omega)]
    rfl
  have h1 := lv_at hl n (jq_eL_at n h)
  rw [he] at h1
  rw [show jq_eS b ss (jR x :: st) = .ref (b + x.toNat) :: jq_eS b ss st by rw [← he]; rfl] at w
  exact lv_aload hx hb d h1 w
theorem jq_aloadT (Γ : jq_G Z X z own cc fr lo) {i : Nat} {x : Nat} (d : decode cc pc = .ok (.aload i, 2)) (n : Nat) (h : L[n]? = some (i, jT x)) (hx2 : x = 0 ∨ x = 1) (k : jq_J F K (jq_V Z X z σ (pc + 2) L (jT x :: st))) : jq_J F K (jq_V Z X z σ pc L st) := by
  rcases X with ⟨⟨p, l, e, R, s, m, args, below, meth, c⟩, A, Q, nL, b, D, cs, ss, ly⟩
  obtain ⟨hx, hb, hml, hown, hts, hK, hlk, hA, hfr, hlo, hc, hs, hal, hzk, hSF, hAb, hNw⟩ := Γ
  intro r hF hR hos hol hwf hly H locs ls hP hS hsz hl
  have w := k r hF hR (jq_os_c.mpr ⟨trivial, hos⟩) hol hwf hly H locs ls hP hS hsz hl
  have h1 := lv_at hl n (jq_eL_at n h)
  rcases hx2 with rfl | rfl
  · exact lv_aload (x := ss.1) hx hb d h1 w
  · exact lv_aload (x := ss.2.1) hx hb d h1 w
theorem jq_aload_n (Γ : jq_G Z X z own cc fr lo) {q : Fin 4} {i : Nat} {x : Int} (d : decode cc pc = .ok (.aload_n q, 1)) (hi : (q : Nat) = i) (n : Nat) (h : L[n]? = some (i, jR x)) (hx0 : 0 ≤ x) (k : jq_J F K (jq_V Z X z σ (pc + 1) L (jR x :: st))) : jq_J F K (jq_V Z X z σ pc L st) := by
  rcases X with ⟨⟨p, l, e, R, s, m, args, below, meth, c⟩, A, Q, nL, b, D, cs, ss, ly⟩
  obtain ⟨hx, hb, hml, hown, hts, hK, hlk, hA, hfr, hlo, hc, hs, hal, hzk, hSF, hAb, hNw⟩ := Γ
  intro r hF hR hos hol hwf hly H locs ls hP hS hsz hl
  have w := k r hF hR (jq_os_c.mpr ⟨trivial, hos⟩) hol hwf hly H locs ls hP hS hsz hl
  have he : jq_e b ss (jR x) = .ref (b + x.toNat) := by
    show va_rf (jq_f b x) = _
    unfold jq_f
    rw [if_neg (by omega)]
    rfl
  have h1 := lv_at hl n (jq_eL_at n h)
  rw [he] at h1
  rw [show jq_eS b ss (jR x :: st) = .ref (b + x.toNat) :: jq_eS b ss st by rw [← he]; rfl] at w
  exact lv_aload_n hx hb d hi h1 w
theorem jq_aloadT_n (Γ : jq_G Z X z own cc fr lo) {q : Fin 4} {i : Nat} {x : Nat} (d : decode cc pc = .ok (.aload_n q, 1)) (hi : (q : Nat) = i) (n : Nat) (h : L[n]? = some (i, jT x)) (hx2 : x = 0 ∨ x = 1) (k : jq_J F K (jq_V Z X z σ (pc + 1) L (jT x :: st))) : jq_J F K (jq_V Z X z σ pc L st) := by
  rcases X with ⟨⟨p, l, e, R, s, m, args, below, meth, c⟩, A, Q, nL, b, D, cs, ss, ly⟩
  obtain ⟨hx, hb, hml, hown, hts, hK, hlk, hA, hfr, hlo, hc, hs, hal, hzk, hSF, hAb, hNw⟩ := Γ
  intro r hF hR hos hol hwf hly H locs ls hP hS hsz hl
  have w := k r hF hR (jq_os_c.mpr ⟨trivial, hos⟩) hol hwf hly H locs ls hP hS hsz hl
  have h1 := lv_at hl n (jq_eL_at n h)
  rcases hx2 with rfl | rfl
  · exact lv_aload_n (x := ss.1) hx hb d hi h1 w
  · exact lv_aload_n (x := ss.2.1) hx hb d hi h1 w
theorem jq_fil1 {ss : jq_S} {b i : Nat} {v : jq_A} {L L' : List (Nat × jq_A)} (h : (i, v) :: L.filter (fun q => !(q.1 == i) && !(q.1 + 1 == i && jq_c q.2 == 2)) = L') : (i, jq_e b ss v) :: (jq_eL b ss L).filter (fun q => !(q.1 == i) && !(q.1 + 1 == i && q.2.category == 2)) = jq_eL b ss L' := by
  rw [← h]
  unfold jq_eL
  rw [List.map_cons, List.filter_map]
  congr 2
  exact List.filter_congr fun q _ => by simp only [Function.comp, jq_e_c]
theorem jq_fil2 {ss : jq_S} {b i : Nat} {v : jq_A} {L L' : List (Nat × jq_A)} (h : (i, v) :: L.filter (fun q => !(q.1 == i) && (!(q.1 == i + 1) && !(q.1 + 1 == i && jq_c q.2 == 2))) = L') : (i, jq_e b ss v) :: (jq_eL b ss L).filter (fun q => !(q.1 == i) && (!(q.1 == i + 1) && !(q.1 + 1 == i && q.2.category == 2))) = jq_eL b ss L' := by
  rw [← h]
  unfold jq_eL
  rw [List.map_cons, List.filter_map]
  congr 2
  exact List.filter_congr fun q _ => by simp only [Function.comp, jq_e_c]
theorem jq_olf {i : Nat} {v : jq_A} {L L' : List (Nat × jq_A)} {g : Nat × jq_A → Bool} (h : (i, v) :: L.filter g = L') (hv : jq_ok v) (hl : jq_ol L) : jq_ol L' := by
  subst h
  intro q hq
  rcases List.mem_cons.mp hq with rfl | hq
  · exact hv
  · exact hl q (List.mem_filter.mp hq).1
theorem jq_istore (Γ : jq_G Z X z own cc fr lo) {i NL : Nat} {x : Int} {L' : List (Nat × jq_A)} (d : decode cc pc = .ok (.istore i, 2)) (hnl : jq_nL X = NL) (hn : Nat.ble (i + 1) NL = true) (hL : (i, jI x) :: L.filter (fun q => !(q.1 == i) && !(q.1 + 1 == i && jq_c q.2 == 2)) = L') (k : jq_J F K (jq_V Z X z σ (pc + 2) L' st)) : jq_J F K (jq_V Z X z σ pc L (jI x :: st)) := by
  rcases X with ⟨⟨p, l, e, R, s, m, args, below, meth, c⟩, A, Q, nL, b, D, cs, ss, ly⟩
  obtain ⟨hx, hb, hml, hown, hts, hK, hlk, hA, hfr, hlo, hc, hs, hal, hzk, hSF, hAb, hNw⟩ := Γ
  intro r hF hR hos hol hwf hly H locs ls hP hS hsz hl
  have hos1 := jq_os_c.mp hos
  have hn1 := Nat.le_of_ble_eq_true hn
  subst hnl
  exact lv_istore hx hb d hl (by show i < nL; exact hn1) (jq_fil1 (b := b) (ss := ss) hL) (fun ls' hl' => k r hF hR hos1.2 (jq_olf hL hos1.1 hol) hwf hly H locs ls' hP hS hsz hl')
theorem jq_istore_n (Γ : jq_G Z X z own cc fr lo) {q : Fin 4} {i NL : Nat} {x : Int} {L' : List (Nat × jq_A)} (d : decode cc pc = .ok (.istore_n q, 1)) (hi : (q : Nat) = i) (hnl : jq_nL X = NL) (hn : Nat.ble (i + 1) NL = true) (hL : (i, jI x) :: L.filter (fun q => !(q.1 == i) && !(q.1 + 1 == i && jq_c q.2 == 2)) = L') (k : jq_J F K (jq_V Z X z σ (pc + 1) L' st)) : jq_J F K (jq_V Z X z σ pc L (jI x :: st)) := by
  rcases X with ⟨⟨p, l, e, R, s, m, args, below, meth, c⟩, A, Q, nL, b, D, cs, ss, ly⟩
  obtain ⟨hx, hb, hml, hown, hts, hK, hlk, hA, hfr, hlo, hc, hs, hal, hzk, hSF, hAb, hNw⟩ := Γ
  intro r hF hR hos hol hwf hly H locs ls hP hS hsz hl
  have hos1 := jq_os_c.mp hos
  have hn1 := Nat.le_of_ble_eq_true hn
  subst hnl
  exact lv_istore_n hx hb d hi hl (by show i < nL; exact hn1) (jq_fil1 (b := b) (ss := ss) hL) (fun ls' hl' => k r hF hR hos1.2 (jq_olf hL hos1.1 hol) hwf hly H locs ls' hP hS hsz hl')
theorem jq_lstore (Γ : jq_G Z X z own cc fr lo) {i NL : Nat} {x : Int} {L' : List (Nat × jq_A)} (d : decode cc pc = .ok (.lstore i, 2)) (hnl : jq_nL X = NL) (hn : Nat.ble (i + 2) NL = true) (hL : (i, jL x) :: L.filter (fun q => !(q.1 == i) && (!(q.1 == i + 1) && !(q.1 + 1 == i && jq_c q.2 == 2))) = L') (k : jq_J F K (jq_V Z X z σ (pc + 2) L' st)) : jq_J F K (jq_V Z X z σ pc L (jL x :: st)) := by
  rcases X with ⟨⟨p, l, e, R, s, m, args, below, meth, c⟩, A, Q, nL, b, D, cs, ss, ly⟩
  obtain ⟨hx, hb, hml, hown, hts, hK, hlk, hA, hfr, hlo, hc, hs, hal, hzk, hSF, hAb, hNw⟩ := Γ
  intro r hF hR hos hol hwf hly H locs ls hP hS hsz hl
  have hos1 := jq_os_c.mp hos
  have hn1 := Nat.le_of_ble_eq_true hn
  subst hnl
  exact lv_lstore hx hb d hl (by show i + 1 < nL; exact hn1) (jq_fil2 (b := b) (ss := ss) hL) (fun ls' hl' => k r hF hR hos1.2 (jq_olf hL hos1.1 hol) hwf hly H locs ls' hP hS hsz hl')
theorem jq_lstore_n (Γ : jq_G Z X z own cc fr lo) {q : Fin 4} {i NL : Nat} {x : Int} {L' : List (Nat × jq_A)} (d : decode cc pc = .ok (.lstore_n q, 1)) (hi : (q : Nat) = i) (hnl : jq_nL X = NL) (hn : Nat.ble (i + 2) NL = true) (hL : (i, jL x) :: L.filter (fun q => !(q.1 == i) && (!(q.1 == i + 1) && !(q.1 + 1 == i && jq_c q.2 == 2))) = L') (k : jq_J F K (jq_V Z X z σ (pc + 1) L' st)) : jq_J F K (jq_V Z X z σ pc L (jL x :: st)) := by
  rcases X with ⟨⟨p, l, e, R, s, m, args, below, meth, c⟩, A, Q, nL, b, D, cs, ss, ly⟩
  obtain ⟨hx, hb, hml, hown, hts, hK, hlk, hA, hfr, hlo, hc, hs, hal, hzk, hSF, hAb, hNw⟩ := Γ
  intro r hF hR hos hol hwf hly H locs ls hP hS hsz hl
  have hos1 := jq_os_c.mp hos
  have hn1 := Nat.le_of_ble_eq_true hn
  subst hnl
  exact lv_lstore_n hx hb d hi hl (by show i + 1 < nL; exact hn1) (jq_fil2 (b := b) (ss := ss) hL) (fun ls' hl' => k r hF hR hos1.2 (jq_olf hL hos1.1 hol) hwf hly H locs ls' hP hS hsz hl')
theorem jq_astore (Γ : jq_G Z X z own cc fr lo) {i NL : Nat} {x : Int} {L' : List (Nat × jq_A)} (d : decode cc pc = .ok (.astore i, 2)) (hx0 : 0 ≤ x) (hnl : jq_nL X = NL) (hn : Nat.ble (i + 1) NL = true) (hL : (i, jR x) :: L.filter (fun q => !(q.1 == i) && !(q.1 + 1 == i && jq_c q.2 == 2)) = L') (k : jq_J F K (jq_V Z X z σ (pc + 2) L' st)) : jq_J F K (jq_V Z X z σ pc L (jR x :: st)) := by
  rcases X with ⟨⟨p, l, e, R, s, m, args, below, meth, c⟩, A, Q, nL, b, D, cs, ss, ly⟩
  obtain ⟨hx, hb, hml, hown, hts, hK, hlk, hA, hfr, hlo, hc, hs, hal, hzk, hSF, hAb, hNw⟩ := Γ
  intro r hF hR hos hol hwf hly H locs ls hP hS hsz hl
  have hos1 := jq_os_c.mp hos
  have hn1 := Nat.le_of_ble_eq_true hn
  subst hnl
  have he : jq_e b ss (jR x) = .ref (b + x.toNat) := by
    show va_rf (jq_f b x) = _
    unfold jq_f
    rw [if_neg (by omega)]
    rfl
  have hL1 := jq_fil1 (b := b) (ss := ss) hL
  rw [he] at hL1
  rw [show jq_eS b ss (jR x :: st) = .ref (b + x.toNat) :: jq_eS b ss st by rw [← he]; rfl]
  exact lv_astore hx hb d hl (by show i < nL; exact hn1) hL1 (fun ls' hl' => k r hF hR hos1.2 (jq_olf hL trivial hol) hwf hly H locs ls' hP hS hsz hl')
theorem jq_astore_n (Γ : jq_G Z X z own cc fr lo) {q : Fin 4} {i NL : Nat} {x : Int} {L' : List (Nat × jq_A)} (d : decode cc pc = .ok (.astore_n q, 1)) (hi : (q : Nat) = i) (hx0 : 0 ≤ x) (hnl : jq_nL X = NL) (hn : Nat.ble (i + 1) NL = true) (hL : (i, jR x) :: L.filter (fun q => !(q.1 == i) && !(q.1 + 1 == i && jq_c q.2 == 2)) = L') (k : jq_J F K (jq_V Z X z σ (pc + 1) L' st)) : jq_J F K (jq_V Z X z σ pc L (jR x :: st)) := by
  rcases X with ⟨⟨p, l, e, R, s, m, args, below, meth, c⟩, A, Q, nL, b, D, cs, ss, ly⟩
  obtain ⟨hx, hb, hml, hown, hts, hK, hlk, hA, hfr, hlo, hc, hs, hal, hzk, hSF, hAb, hNw⟩ := Γ
  intro r hF hR hos hol hwf hly H locs ls hP hS hsz hl
  have hos1 := jq_os_c.mp hos
  have hn1 := Nat.le_of_ble_eq_true hn
  subst hnl
  have he : jq_e b ss (jR x) = .ref (b + x.toNat) := by
    show va_rf (jq_f b x) = _
    unfold jq_f
    rw [if_neg (by omega)]
    rfl
  have hL1 := jq_fil1 (b := b) (ss := ss) hL
  rw [he] at hL1
  rw [show jq_eS b ss (jR x :: st) = .ref (b + x.toNat) :: jq_eS b ss st by rw [← he]; rfl]
  exact lv_astore_n hx hb d hi hl (by show i < nL; exact hn1) hL1 (fun ls' hl' => k r hF hR hos1.2 (jq_olf hL trivial hol) hwf hly H locs ls' hP hS hsz hl')
theorem jq_iinc (Γ : jq_G Z X z own cc fr lo) {i NL : Nat} {x n : Int} {L' : List (Nat × jq_A)} (d : decode cc pc = .ok (.iinc i n, 3)) (q : Nat) (h : L[q]? = some (i, jI x)) (hnl : jq_nL X = NL) (hn : Nat.ble (i + 1) NL = true) (v : Int) (hv : v = jq_w (x + n)) (hL : (i, jI v) :: L.filter (fun q => !(q.1 == i) && !(q.1 + 1 == i && jq_c q.2 == 2)) = L') (k : jq_J F K (jq_V Z X z σ (pc + 3) L' st)) : jq_J F K (jq_V Z X z σ pc L st) := by
  rcases X with ⟨⟨p, l, e, R, s, m, args, below, meth, c⟩, A, Q, nL, b, D, cs, ss, ly⟩
  obtain ⟨hx, hb, hml, hown, hts, hK, hlk, hA, hfr, hlo, hc, hs, hal, hzk, hSF, hAb, hNw⟩ := Γ
  intro r hF hR hos hol hwf hly H locs ls hP hS hsz hl
  have hn1 := Nat.le_of_ble_eq_true hn
  subst hnl
  have e1 : Int32.ofInt x + Int32.ofInt n = Int32.ofInt v := by rw [hv, jq_of_w, Int32.ofInt_add]
  exact lv_iinc hx hb d hl (jq_eL_at q h) e1 (by show i < nL; exact hn1) (jq_fil1 (b := b) (ss := ss) hL) (fun ls' hl' => k r hF hR hos (jq_olf hL (by show jq_r v; rw [hv]; exact jq_w_r _) hol) hwf hly H locs ls' hP hS hsz hl')
/-- fewer locals, by their places -/
theorem jq_sub (Γ : jq_G Z X z own cc fr lo) {L' : List (Nat × jq_A)} (ks : List Nat) (h : ks.filterMap (fun k => L[k]?) = L') (k : jq_J F K (jq_V Z X z σ pc L' st)) : jq_J F K (jq_V Z X z σ pc L st) := by
  rcases X with ⟨⟨p, l, e, R, s, m, args, below, meth, c⟩, A, Q, nL, b, D, cs, ss, ly⟩
  obtain ⟨hx, hb, hml, hown, hts, hK, hlk, hA, hfr, hlo, hc, hs, hal, hzk, hSF, hAb, hNw⟩ := Γ
  intro r hF hR hos hol hwf hly H locs ls hP hS hsz hl
  subst h
  refine k r hF hR hos (fun q hq => ?_) hwf hly H locs ls hP hS hsz (lv_sub hl ks ?_)
  · obtain ⟨i, -, hi⟩ := List.mem_filterMap.mp hq
    exact hol q (List.mem_of_getElem? hi)
  · unfold lv_pick jq_eL
    rw [List.map_filterMap]
    congr 1
    funext i
    rw [List.getElem?_map]
theorem jq_iadd (Γ : jq_G Z X z own cc fr lo) {x y : Int} (d : decode cc pc = .ok (.iadd, 1)) (k : jq_J F K (jq_V Z X z σ (pc + 1) L (jI (jq_w (x + y)) :: st))) : jq_J F K (jq_V Z X z σ pc L (jI y :: jI x :: st)) := by
  rcases X with ⟨⟨p, l, e, R, s, m, args, below, meth, c⟩, A, Q, nL, b, D, cs, ss, ly⟩
  obtain ⟨hx, hb, hml, hown, hts, hK, hlk, hA, hfr, hlo, hc, hs, hal, hzk, hSF, hAb, hNw⟩ := Γ
  intro r hF hR hos hol hwf hly H locs ls hP hS hsz hl
  have hos1 := jq_os_c.mp hos
  have hos2 := jq_os_c.mp hos1.2
  have w := k r hF hR (jq_os_c.mpr ⟨jq_w_r _, hos2.2⟩) hol hwf hly H locs ls hP hS hsz hl
  rw [show jq_eS b ss (jI (jq_w (x + y)) :: st) = .int (Int32.ofInt x + Int32.ofInt y) :: jq_eS b ss st from congrArg (fun v => v :: jq_eS b ss st) (show Value.int (Int32.ofInt (jq_w (x + y))) = .int (Int32.ofInt x + Int32.ofInt y) by rw [jq_of_w, Int32.ofInt_add])] at w
  exact lv_iadd hx hb d w
theorem jq_isub (Γ : jq_G Z X z own cc fr lo) {x y : Int} (d : decode cc pc = .ok (.isub, 1)) (k : jq_J F K (jq_V Z X z σ (pc + 1) L (jI (jq_w (x - y)) :: st))) : jq_J F K (jq_V Z X z σ pc L (jI y :: jI x :: st)) := by
  rcases X with ⟨⟨p, l, e, R, s, m, args, below, meth, c⟩, A, Q, nL, b, D, cs, ss, ly⟩
  obtain ⟨hx, hb, hml, hown, hts, hK, hlk, hA, hfr, hlo, hc, hs, hal, hzk, hSF, hAb, hNw⟩ := Γ
  intro r hF hR hos hol hwf hly H locs ls hP hS hsz hl
  have hos1 := jq_os_c.mp hos
  have hos2 := jq_os_c.mp hos1.2
  have w := k r hF hR (jq_os_c.mpr ⟨jq_w_r _, hos2.2⟩) hol hwf hly H locs ls hP hS hsz hl
  rw [show jq_eS b ss (jI (jq_w (x - y)) :: st) = .int (Int32.ofInt x - Int32.ofInt y) :: jq_eS b ss st from congrArg (fun v => v :: jq_eS b ss st) (show Value.int (Int32.ofInt (jq_w (x - y))) = .int (Int32.ofInt x - Int32.ofInt y) by rw [jq_of_w, Int32.ofInt_sub])] at w
  exact lv_isub hx hb d w
theorem jq_imul (Γ : jq_G Z X z own cc fr lo) {x y : Int} (d : decode cc pc = .ok (.imul, 1)) (k : jq_J F K (jq_V Z X z σ (pc + 1) L (jI (jq_w (x * y)) :: st))) : jq_J F K (jq_V Z X z σ pc L (jI y :: jI x :: st)) := by
  rcases X with ⟨⟨p, l, e, R, s, m, args, below, meth, c⟩, A, Q, nL, b, D, cs, ss, ly⟩
  obtain ⟨hx, hb, hml, hown, hts, hK, hlk, hA, hfr, hlo, hc, hs, hal, hzk, hSF, hAb, hNw⟩ := Γ
  intro r hF hR hos hol hwf hly H locs ls hP hS hsz hl
  have hos1 := jq_os_c.mp hos
  have hos2 := jq_os_c.mp hos1.2
  have w := k r hF hR (jq_os_c.mpr ⟨jq_w_r _, hos2.2⟩) hol hwf hly H locs ls hP hS hsz hl
  rw [show jq_eS b ss (jI (jq_w (x * y)) :: st) = .int (Int32.ofInt x * Int32.ofInt y) :: jq_eS b ss st from congrArg (fun v => v :: jq_eS b ss st) (show Value.int (Int32.ofInt (jq_w (x * y))) = .int (Int32.ofInt x * Int32.ofInt y) by rw [jq_of_w, Int32.ofInt_mul])] at w
  exact lv_imul hx hb d w
theorem jq_iand (Γ : jq_G Z X z own cc fr lo) {x y : Int} (d : decode cc pc = .ok (.iand, 1)) (k : jq_J F K (jq_V Z X z σ (pc + 1) L (jI (jq_and x y) :: st))) : jq_J F K (jq_V Z X z σ pc L (jI y :: jI x :: st)) := by
  rcases X with ⟨⟨p, l, e, R, s, m, args, below, meth, c⟩, A, Q, nL, b, D, cs, ss, ly⟩
  obtain ⟨hx, hb, hml, hown, hts, hK, hlk, hA, hfr, hlo, hc, hs, hal, hzk, hSF, hAb, hNw⟩ := Γ
  intro r hF hR hos hol hwf hly H locs ls hP hS hsz hl
  have hos1 := jq_os_c.mp hos
  have hos2 := jq_os_c.mp hos1.2
  have w := k r hF hR (jq_os_c.mpr ⟨jq_ti_r _, hos2.2⟩) hol hwf hly H locs ls hP hS hsz hl
  rw [show jq_eS b ss (jI (jq_and x y) :: st) = .int (Int32.ofInt x &&& Int32.ofInt y) :: jq_eS b ss st from congrArg (fun v => v :: jq_eS b ss st) (show Value.int (Int32.ofInt (jq_and x y)) = .int (Int32.ofInt x &&& Int32.ofInt y) by unfold jq_and; rw [jq_oft])] at w
  exact lv_iand hx hb d w
theorem jq_ior (Γ : jq_G Z X z own cc fr lo) {x y : Int} (d : decode cc pc = .ok (.ior, 1)) (k : jq_J F K (jq_V Z X z σ (pc + 1) L (jI (jq_or x y) :: st))) : jq_J F K (jq_V Z X z σ pc L (jI y :: jI x :: st)) := by
  rcases X with ⟨⟨p, l, e, R, s, m, args, below, meth, c⟩, A, Q, nL, b, D, cs, ss, ly⟩
  obtain ⟨hx, hb, hml, hown, hts, hK, hlk, hA, hfr, hlo, hc, hs, hal, hzk, hSF, hAb, hNw⟩ := Γ
  intro r hF hR hos hol hwf hly H locs ls hP hS hsz hl
  have hos1 := jq_os_c.mp hos
  have hos2 := jq_os_c.mp hos1.2
  have w := k r hF hR (jq_os_c.mpr ⟨jq_ti_r _, hos2.2⟩) hol hwf hly H locs ls hP hS hsz hl
  rw [show jq_eS b ss (jI (jq_or x y) :: st) = .int (Int32.ofInt x ||| Int32.ofInt y) :: jq_eS b ss st from congrArg (fun v => v :: jq_eS b ss st) (show Value.int (Int32.ofInt (jq_or x y)) = .int (Int32.ofInt x ||| Int32.ofInt y) by unfold jq_or; rw [jq_oft])] at w
  exact lv_ior hx hb d w
theorem jq_ixor (Γ : jq_G Z X z own cc fr lo) {x y : Int} (d : decode cc pc = .ok (.ixor, 1)) (k : jq_J F K (jq_V Z X z σ (pc + 1) L (jI (jq_xor x y) :: st))) : jq_J F K (jq_V Z X z σ pc L (jI y :: jI x :: st)) := by
  rcases X with ⟨⟨p, l, e, R, s, m, args, below, meth, c⟩, A, Q, nL, b, D, cs, ss, ly⟩
  obtain ⟨hx, hb, hml, hown, hts, hK, hlk, hA, hfr, hlo, hc, hs, hal, hzk, hSF, hAb, hNw⟩ := Γ
  intro r hF hR hos hol hwf hly H locs ls hP hS hsz hl
  have hos1 := jq_os_c.mp hos
  have hos2 := jq_os_c.mp hos1.2
  have w := k r hF hR (jq_os_c.mpr ⟨jq_ti_r _, hos2.2⟩) hol hwf hly H locs ls hP hS hsz hl
  rw [show jq_eS b ss (jI (jq_xor x y) :: st) = .int (Int32.ofInt x ^^^ Int32.ofInt y) :: jq_eS b ss st from congrArg (fun v => v :: jq_eS b ss st) (show Value.int (Int32.ofInt (jq_xor x y)) = .int (Int32.ofInt x ^^^ Int32.ofInt y) by unfold jq_xor; rw [jq_oft])] at w
  exact lv_ixor hx hb d w
theorem jq_ishl (Γ : jq_G Z X z own cc fr lo) {x y : Int} (d : decode cc pc = .ok (.ishl, 1)) (k : jq_J F K (jq_V Z X z σ (pc + 1) L (jI (jq_shl x y) :: st))) : jq_J F K (jq_V Z X z σ pc L (jI y :: jI x :: st)) := by
  rcases X with ⟨⟨p, l, e, R, s, m, args, below, meth, c⟩, A, Q, nL, b, D, cs, ss, ly⟩
  obtain ⟨hx, hb, hml, hown, hts, hK, hlk, hA, hfr, hlo, hc, hs, hal, hzk, hSF, hAb, hNw⟩ := Γ
  intro r hF hR hos hol hwf hly H locs ls hP hS hsz hl
  have hos1 := jq_os_c.mp hos
  have hos2 := jq_os_c.mp hos1.2
  have w := k r hF hR (jq_os_c.mpr ⟨jq_ti_r _, hos2.2⟩) hol hwf hly H locs ls hP hS hsz hl
  rw [show jq_eS b ss (jI (jq_shl x y) :: st) = .int (Int32.ofInt x <<< (Int32.ofInt y &&& 31)) :: jq_eS b ss st from congrArg (fun v => v :: jq_eS b ss st) (show Value.int (Int32.ofInt (jq_shl x y)) = .int (Int32.ofInt x <<< (Int32.ofInt y &&& 31)) by unfold jq_shl; rw [jq_oft])] at w
  exact lv_ishl hx hb d w
theorem jq_ishr (Γ : jq_G Z X z own cc fr lo) {x y : Int} (d : decode cc pc = .ok (.ishr, 1)) (k : jq_J F K (jq_V Z X z σ (pc + 1) L (jI (jq_shr x y) :: st))) : jq_J F K (jq_V Z X z σ pc L (jI y :: jI x :: st)) := by
  rcases X with ⟨⟨p, l, e, R, s, m, args, below, meth, c⟩, A, Q, nL, b, D, cs, ss, ly⟩
  obtain ⟨hx, hb, hml, hown, hts, hK, hlk, hA, hfr, hlo, hc, hs, hal, hzk, hSF, hAb, hNw⟩ := Γ
  intro r hF hR hos hol hwf hly H locs ls hP hS hsz hl
  have hos1 := jq_os_c.mp hos
  have hos2 := jq_os_c.mp hos1.2
  have w := k r hF hR (jq_os_c.mpr ⟨jq_ti_r _, hos2.2⟩) hol hwf hly H locs ls hP hS hsz hl
  rw [show jq_eS b ss (jI (jq_shr x y) :: st) = .int (Int32.ofInt x >>> (Int32.ofInt y &&& 31)) :: jq_eS b ss st from congrArg (fun v => v :: jq_eS b ss st) (show Value.int (Int32.ofInt (jq_shr x y)) = .int (Int32.ofInt x >>> (Int32.ofInt y &&& 31)) by unfold jq_shr; rw [jq_oft])] at w
  exact lv_ishr hx hb d w
theorem jq_iushr (Γ : jq_G Z X z own cc fr lo) {x y : Int} (d : decode cc pc = .ok (.iushr, 1)) (k : jq_J F K (jq_V Z X z σ (pc + 1) L (jI (jq_ushr x y) :: st))) : jq_J F K (jq_V Z X z σ pc L (jI y :: jI x :: st)) := by
  rcases X with ⟨⟨p, l, e, R, s, m, args, below, meth, c⟩, A, Q, nL, b, D, cs, ss, ly⟩
  obtain ⟨hx, hb, hml, hown, hts, hK, hlk, hA, hfr, hlo, hc, hs, hal, hzk, hSF, hAb, hNw⟩ := Γ
  intro r hF hR hos hol hwf hly H locs ls hP hS hsz hl
  have hos1 := jq_os_c.mp hos
  have hos2 := jq_os_c.mp hos1.2
  have w := k r hF hR (jq_os_c.mpr ⟨jq_ti_r _, hos2.2⟩) hol hwf hly H locs ls hP hS hsz hl
  rw [show jq_eS b ss (jI (jq_ushr x y) :: st) = .int (((Int32.ofInt x).toUInt32 >>> ((Int32.ofInt y).toUInt32 &&& Int32.toUInt32 31)).toInt32) :: jq_eS b ss st from congrArg (fun v => v :: jq_eS b ss st) (show Value.int (Int32.ofInt (jq_ushr x y)) = .int (((Int32.ofInt x).toUInt32 >>> ((Int32.ofInt y).toUInt32 &&& Int32.toUInt32 31)).toInt32) by unfold jq_ushr; rw [jq_oft])] at w
  exact lv_iushr hx hb d rfl w
theorem jq_ladd (Γ : jq_G Z X z own cc fr lo) {x y : Int} (d : decode cc pc = .ok (.ladd, 1)) (k : jq_J F K (jq_V Z X z σ (pc + 1) L (jL (jq_w64 (x + y)) :: st))) : jq_J F K (jq_V Z X z σ pc L (jL y :: jL x :: st)) := by
  rcases X with ⟨⟨p, l, e, R, s, m, args, below, meth, c⟩, A, Q, nL, b, D, cs, ss, ly⟩
  obtain ⟨hx, hb, hml, hown, hts, hK, hlk, hA, hfr, hlo, hc, hs, hal, hzk, hSF, hAb, hNw⟩ := Γ
  intro r hF hR hos hol hwf hly H locs ls hP hS hsz hl
  have hos1 := jq_os_c.mp hos
  have hos2 := jq_os_c.mp hos1.2
  have w := k r hF hR (jq_os_c.mpr ⟨jq_w64_r _, hos2.2⟩) hol hwf hly H locs ls hP hS hsz hl
  rw [show jq_eS b ss (jL (jq_w64 (x + y)) :: st) = .long (Int64.ofInt x + Int64.ofInt y) :: jq_eS b ss st from congrArg (fun v => v :: jq_eS b ss st) (show Value.long (Int64.ofInt (jq_w64 (x + y))) = .long (Int64.ofInt x + Int64.ofInt y) by rw [jq_of_w64, Int64.ofInt_add])] at w
  exact lv_ladd hx hb d w
theorem jq_lsub (Γ : jq_G Z X z own cc fr lo) {x y : Int} (d : decode cc pc = .ok (.lsub, 1)) (k : jq_J F K (jq_V Z X z σ (pc + 1) L (jL (jq_w64 (x - y)) :: st))) : jq_J F K (jq_V Z X z σ pc L (jL y :: jL x :: st)) := by
  rcases X with ⟨⟨p, l, e, R, s, m, args, below, meth, c⟩, A, Q, nL, b, D, cs, ss, ly⟩
  obtain ⟨hx, hb, hml, hown, hts, hK, hlk, hA, hfr, hlo, hc, hs, hal, hzk, hSF, hAb, hNw⟩ := Γ
  intro r hF hR hos hol hwf hly H locs ls hP hS hsz hl
  have hos1 := jq_os_c.mp hos
  have hos2 := jq_os_c.mp hos1.2
  have w := k r hF hR (jq_os_c.mpr ⟨jq_w64_r _, hos2.2⟩) hol hwf hly H locs ls hP hS hsz hl
  rw [show jq_eS b ss (jL (jq_w64 (x - y)) :: st) = .long (Int64.ofInt x - Int64.ofInt y) :: jq_eS b ss st from congrArg (fun v => v :: jq_eS b ss st) (show Value.long (Int64.ofInt (jq_w64 (x - y))) = .long (Int64.ofInt x - Int64.ofInt y) by rw [jq_of_w64, Int64.ofInt_sub])] at w
  exact lv_lsub hx hb d w
theorem jq_lmul (Γ : jq_G Z X z own cc fr lo) {x y : Int} (d : decode cc pc = .ok (.lmul, 1)) (k : jq_J F K (jq_V Z X z σ (pc + 1) L (jL (jq_w64 (x * y)) :: st))) : jq_J F K (jq_V Z X z σ pc L (jL y :: jL x :: st)) := by
  rcases X with ⟨⟨p, l, e, R, s, m, args, below, meth, c⟩, A, Q, nL, b, D, cs, ss, ly⟩
  obtain ⟨hx, hb, hml, hown, hts, hK, hlk, hA, hfr, hlo, hc, hs, hal, hzk, hSF, hAb, hNw⟩ := Γ
  intro r hF hR hos hol hwf hly H locs ls hP hS hsz hl
  have hos1 := jq_os_c.mp hos
  have hos2 := jq_os_c.mp hos1.2
  have w := k r hF hR (jq_os_c.mpr ⟨jq_w64_r _, hos2.2⟩) hol hwf hly H locs ls hP hS hsz hl
  rw [show jq_eS b ss (jL (jq_w64 (x * y)) :: st) = .long (Int64.ofInt x * Int64.ofInt y) :: jq_eS b ss st from congrArg (fun v => v :: jq_eS b ss st) (show Value.long (Int64.ofInt (jq_w64 (x * y))) = .long (Int64.ofInt x * Int64.ofInt y) by rw [jq_of_w64, Int64.ofInt_mul])] at w
  exact lv_lmul hx hb d w
theorem jq_land (Γ : jq_G Z X z own cc fr lo) {x y : Int} (d : decode cc pc = .ok (.land, 1)) (k : jq_J F K (jq_V Z X z σ (pc + 1) L (jL (jq_landl x y) :: st))) : jq_J F K (jq_V Z X z σ pc L (jL y :: jL x :: st)) := by
  rcases X with ⟨⟨p, l, e, R, s, m, args, below, meth, c⟩, A, Q, nL, b, D, cs, ss, ly⟩
  obtain ⟨hx, hb, hml, hown, hts, hK, hlk, hA, hfr, hlo, hc, hs, hal, hzk, hSF, hAb, hNw⟩ := Γ
  intro r hF hR hos hol hwf hly H locs ls hP hS hsz hl
  have hos1 := jq_os_c.mp hos
  have hos2 := jq_os_c.mp hos1.2
  have w := k r hF hR (jq_os_c.mpr ⟨jq_ti_rl _, hos2.2⟩) hol hwf hly H locs ls hP hS hsz hl
  rw [show jq_eS b ss (jL (jq_landl x y) :: st) = .long (Int64.ofInt x &&& Int64.ofInt y) :: jq_eS b ss st from congrArg (fun v => v :: jq_eS b ss st) (show Value.long (Int64.ofInt (jq_landl x y)) = .long (Int64.ofInt x &&& Int64.ofInt y) by unfold jq_landl; rw [jq_oft64])] at w
  exact lv_land hx hb d w
theorem jq_lor (Γ : jq_G Z X z own cc fr lo) {x y : Int} (d : decode cc pc = .ok (.lor, 1)) (k : jq_J F K (jq_V Z X z σ (pc + 1) L (jL (jq_lorl x y) :: st))) : jq_J F K (jq_V Z X z σ pc L (jL y :: jL x :: st)) := by
  rcases X with ⟨⟨p, l, e, R, s, m, args, below, meth, c⟩, A, Q, nL, b, D, cs, ss, ly⟩
  obtain ⟨hx, hb, hml, hown, hts, hK, hlk, hA, hfr, hlo, hc, hs, hal, hzk, hSF, hAb, hNw⟩ := Γ
  intro r hF hR hos hol hwf hly H locs ls hP hS hsz hl
  have hos1 := jq_os_c.mp hos
  have hos2 := jq_os_c.mp hos1.2
  have w := k r hF hR (jq_os_c.mpr ⟨jq_ti_rl _, hos2.2⟩) hol hwf hly H locs ls hP hS hsz hl
  rw [show jq_eS b ss (jL (jq_lorl x y) :: st) = .long (Int64.ofInt x ||| Int64.ofInt y) :: jq_eS b ss st from congrArg (fun v => v :: jq_eS b ss st) (show Value.long (Int64.ofInt (jq_lorl x y)) = .long (Int64.ofInt x ||| Int64.ofInt y) by unfold jq_lorl; rw [jq_oft64])] at w
  exact lv_lor hx hb d w
theorem jq_ineg (Γ : jq_G Z X z own cc fr lo) {x : Int} (d : decode cc pc = .ok (.ineg, 1)) (k : jq_J F K (jq_V Z X z σ (pc + 1) L (jI (jq_w (-x)) :: st))) : jq_J F K (jq_V Z X z σ pc L (jI x :: st)) := by
  rcases X with ⟨⟨p, l, e, R, s, m, args, below, meth, c⟩, A, Q, nL, b, D, cs, ss, ly⟩
  obtain ⟨hx, hb, hml, hown, hts, hK, hlk, hA, hfr, hlo, hc, hs, hal, hzk, hSF, hAb, hNw⟩ := Γ
  intro r hF hR hos hol hwf hly H locs ls hP hS hsz hl
  have hos1 := jq_os_c.mp hos
  have hx1 := hos1.1
  have w := k r hF hR (jq_os_c.mpr ⟨jq_w_r _, hos1.2⟩) hol hwf hly H locs ls hP hS hsz hl
  rw [show jq_eS b ss (jI (jq_w (-x)) :: st) = .int (-(Int32.ofInt x)) :: jq_eS b ss st from congrArg (fun v => v :: jq_eS b ss st) (show Value.int (Int32.ofInt (jq_w (-x))) = .int (-(Int32.ofInt x)) by rw [jq_of_w, Int32.ofInt_neg])] at w
  exact lv_ineg hx hb d w
theorem jq_lneg (Γ : jq_G Z X z own cc fr lo) {x : Int} (d : decode cc pc = .ok (.lneg, 1)) (k : jq_J F K (jq_V Z X z σ (pc + 1) L (jL (jq_w64 (-x)) :: st))) : jq_J F K (jq_V Z X z σ pc L (jL x :: st)) := by
  rcases X with ⟨⟨p, l, e, R, s, m, args, below, meth, c⟩, A, Q, nL, b, D, cs, ss, ly⟩
  obtain ⟨hx, hb, hml, hown, hts, hK, hlk, hA, hfr, hlo, hc, hs, hal, hzk, hSF, hAb, hNw⟩ := Γ
  intro r hF hR hos hol hwf hly H locs ls hP hS hsz hl
  have hos1 := jq_os_c.mp hos
  have hx1 := hos1.1
  have w := k r hF hR (jq_os_c.mpr ⟨jq_w64_r _, hos1.2⟩) hol hwf hly H locs ls hP hS hsz hl
  rw [show jq_eS b ss (jL (jq_w64 (-x)) :: st) = .long (-(Int64.ofInt x)) :: jq_eS b ss st from congrArg (fun v => v :: jq_eS b ss st) (show Value.long (Int64.ofInt (jq_w64 (-x))) = .long (-(Int64.ofInt x)) by rw [jq_of_w64, Int64.ofInt_neg])] at w
  exact lv_lneg hx hb d w
theorem jq_bm32 (x : Int) : Int.bmod x (2 ^ 32) = jq_w x := by
  have h := jq_toInt x
  rw [Int32.toInt_ofInt] at h
  exact h
theorem jq_bm64 (x : Int) : Int.bmod x (2 ^ 64) = jq_w64 x := by
  have h := jq_toInt64 x
  rw [Int64.toInt_ofInt] at h
  exact h
theorem jq_bm8 (x : Int) : Int.bmod x (2 ^ 8) = jq_w8 x := by
  show Int.bmod x 256 = _
  unfold Int.bmod jq_w8
  dsimp only
  omega
theorem jq_bm16 (x : Int) : Int.bmod x (2 ^ 16) = jq_w16 x := by
  show Int.bmod x 65536 = _
  unfold Int.bmod jq_w16
  dsimp only
  omega
theorem jq_i2l_eq {x : Int} (h : jq_r x) : (Int32.ofInt x).toInt64 = Int64.ofInt x := by
  apply Int64.toInt_inj.mp
  rw [Int32.toInt_toInt64, jq_toInt, jq_toInt64, jq_w_id h, jq_w64_id]
  unfold jq_r at h
  unfold jq_rl
  omega
theorem jq_l2i_eq (x : Int) : (Int64.ofInt x).toInt32 = Int32.ofInt (jq_w x) := by
  apply Int32.toInt_inj.mp
  rw [Int64.toInt_toInt32, jq_toInt64, jq_toInt, jq_w_id (jq_w_r x), jq_bm32]
  unfold jq_w jq_w64
  omega
theorem jq_i2b_eq (x : Int) : (Int32.ofInt x).toInt8.toInt32 = Int32.ofInt (jq_w8 x) := by
  apply Int32.toInt_inj.mp
  rw [Int8.toInt_toInt32, Int32.toInt_toInt8, jq_toInt, jq_toInt, jq_bm8]
  unfold jq_w jq_w8
  omega
theorem jq_i2s_eq (x : Int) : (Int32.ofInt x).toInt16.toInt32 = Int32.ofInt (jq_w16 x) := by
  apply Int32.toInt_inj.mp
  rw [Int16.toInt_toInt32, Int32.toInt_toInt16, jq_toInt, jq_toInt, jq_bm16]
  unfold jq_w jq_w16
  omega
theorem jq_i2l (Γ : jq_G Z X z own cc fr lo) {x : Int} (d : decode cc pc = .ok (.i2l, 1)) (k : jq_J F K (jq_V Z X z σ (pc + 1) L (jL (x) :: st))) : jq_J F K (jq_V Z X z σ pc L (jI x :: st)) := by
  rcases X with ⟨⟨p, l, e, R, s, m, args, below, meth, c⟩, A, Q, nL, b, D, cs, ss, ly⟩
  obtain ⟨hx, hb, hml, hown, hts, hK, hlk, hA, hfr, hlo, hc, hs, hal, hzk, hSF, hAb, hNw⟩ := Γ
  intro r hF hR hos hol hwf hly H locs ls hP hS hsz hl
  have hos1 := jq_os_c.mp hos
  have hx1 := hos1.1
  have w := k r hF hR (jq_os_c.mpr ⟨(by show jq_rl x; have h : jq_r x := hx1; unfold jq_r at h; unfold jq_rl; omega), hos1.2⟩) hol hwf hly H locs ls hP hS hsz hl
  rw [show jq_eS b ss (jL (x) :: st) = .long ((Int32.ofInt x).toInt64) :: jq_eS b ss st from congrArg (fun v => v :: jq_eS b ss st) (show Value.long (Int64.ofInt x) = .long ((Int32.ofInt x).toInt64) by rw [jq_i2l_eq hx1])] at w
  exact lv_i2l hx hb d rfl w
theorem jq_l2i (Γ : jq_G Z X z own cc fr lo) {x : Int} (d : decode cc pc = .ok (.l2i, 1)) (k : jq_J F K (jq_V Z X z σ (pc + 1) L (jI (jq_w x) :: st))) : jq_J F K (jq_V Z X z σ pc L (jL x :: st)) := by
  rcases X with ⟨⟨p, l, e, R, s, m, args, below, meth, c⟩, A, Q, nL, b, D, cs, ss, ly⟩
  obtain ⟨hx, hb, hml, hown, hts, hK, hlk, hA, hfr, hlo, hc, hs, hal, hzk, hSF, hAb, hNw⟩ := Γ
  intro r hF hR hos hol hwf hly H locs ls hP hS hsz hl
  have hos1 := jq_os_c.mp hos
  have hx1 := hos1.1
  have w := k r hF hR (jq_os_c.mpr ⟨jq_w_r _, hos1.2⟩) hol hwf hly H locs ls hP hS hsz hl
  rw [show jq_eS b ss (jI (jq_w x) :: st) = .int ((Int64.ofInt x).toInt32) :: jq_eS b ss st from congrArg (fun v => v :: jq_eS b ss st) (show Value.int (Int32.ofInt (jq_w x)) = .int ((Int64.ofInt x).toInt32) by rw [jq_l2i_eq])] at w
  exact lv_l2i hx hb d rfl w
theorem jq_i2b (Γ : jq_G Z X z own cc fr lo) {x : Int} (d : decode cc pc = .ok (.i2b, 1)) (k : jq_J F K (jq_V Z X z σ (pc + 1) L (jI (jq_w8 x) :: st))) : jq_J F K (jq_V Z X z σ pc L (jI x :: st)) := by
  rcases X with ⟨⟨p, l, e, R, s, m, args, below, meth, c⟩, A, Q, nL, b, D, cs, ss, ly⟩
  obtain ⟨hx, hb, hml, hown, hts, hK, hlk, hA, hfr, hlo, hc, hs, hal, hzk, hSF, hAb, hNw⟩ := Γ
  intro r hF hR hos hol hwf hly H locs ls hP hS hsz hl
  have hos1 := jq_os_c.mp hos
  have hx1 := hos1.1
  have w := k r hF hR (jq_os_c.mpr ⟨(by show jq_r _; unfold jq_r jq_w8; omega), hos1.2⟩) hol hwf hly H locs ls hP hS hsz hl
  rw [show jq_eS b ss (jI (jq_w8 x) :: st) = .int ((Int32.ofInt x).toInt8.toInt32) :: jq_eS b ss st from congrArg (fun v => v :: jq_eS b ss st) (show Value.int (Int32.ofInt (jq_w8 x)) = .int ((Int32.ofInt x).toInt8.toInt32) by rw [jq_i2b_eq])] at w
  exact lv_i2b hx hb d rfl w
theorem jq_i2s (Γ : jq_G Z X z own cc fr lo) {x : Int} (d : decode cc pc = .ok (.i2s, 1)) (k : jq_J F K (jq_V Z X z σ (pc + 1) L (jI (jq_w16 x) :: st))) : jq_J F K (jq_V Z X z σ pc L (jI x :: st)) := by
  rcases X with ⟨⟨p, l, e, R, s, m, args, below, meth, c⟩, A, Q, nL, b, D, cs, ss, ly⟩
  obtain ⟨hx, hb, hml, hown, hts, hK, hlk, hA, hfr, hlo, hc, hs, hal, hzk, hSF, hAb, hNw⟩ := Γ
  intro r hF hR hos hol hwf hly H locs ls hP hS hsz hl
  have hos1 := jq_os_c.mp hos
  have hx1 := hos1.1
  have w := k r hF hR (jq_os_c.mpr ⟨(by show jq_r _; unfold jq_r jq_w16; omega), hos1.2⟩) hol hwf hly H locs ls hP hS hsz hl
  rw [show jq_eS b ss (jI (jq_w16 x) :: st) = .int ((Int32.ofInt x).toInt16.toInt32) :: jq_eS b ss st from congrArg (fun v => v :: jq_eS b ss st) (show Value.int (Int32.ofInt (jq_w16 x)) = .int ((Int32.ofInt x).toInt16.toInt32) by rw [jq_i2s_eq])] at w
  exact lv_i2s hx hb d rfl w
def jq_shll (a b : Int) : Int := (Int64.ofInt a <<< ((Int32.ofInt b).toInt64 &&& 63)).toInt
theorem jq_lshl (Γ : jq_G Z X z own cc fr lo) {x y : Int} (d : decode cc pc = .ok (.lshl, 1)) (k : jq_J F K (jq_V Z X z σ (pc + 1) L (jL (jq_shll x y) :: st))) : jq_J F K (jq_V Z X z σ pc L (jI y :: jL x :: st)) := by
  rcases X with ⟨⟨p, l, e, R, s, m, args, below, meth, c⟩, A, Q, nL, b, D, cs, ss, ly⟩
  obtain ⟨hx, hb, hml, hown, hts, hK, hlk, hA, hfr, hlo, hc, hs, hal, hzk, hSF, hAb, hNw⟩ := Γ
  intro r hF hR hos hol hwf hly H locs ls hP hS hsz hl
  have hos1 := jq_os_c.mp hos
  have hos2 := jq_os_c.mp hos1.2
  have w := k r hF hR (jq_os_c.mpr ⟨jq_ti_rl _, hos2.2⟩) hol hwf hly H locs ls hP hS hsz hl
  rw [show jq_eS b ss (jL (jq_shll x y) :: st) = .long (Int64.ofInt x <<< ((Int32.ofInt y).toInt64 &&& 63)) :: jq_eS b ss st from congrArg (fun v => v :: jq_eS b ss st) (show Value.long (Int64.ofInt (jq_shll x y)) = .long (Int64.ofInt x <<< ((Int32.ofInt y).toInt64 &&& 63)) by unfold jq_shll; rw [jq_oft64])] at w
  exact lv_lshl hx hb d rfl w
theorem jq_rem_eq (x y : Int) (hx : jq_r x) (hy : jq_r y) : Int32.ofInt x - Int32.ofInt x / Int32.ofInt y * Int32.ofInt y = Int32.ofInt (jq_w (Int.tmod x y)) := by
  apply Int32.toInt_inj.mp
  rw [Int32.toInt_sub, Int32.toInt_mul, Int32.toInt_div, Int.bmod_mul_bmod, Int.sub_bmod_bmod, jq_toInt, jq_toInt, jq_toInt, jq_w_id hx, jq_w_id hy, jq_w_id (jq_w_r _), Int.mul_comm (x.tdiv y), ← Int.tmod_def, jq_bm32]
theorem jq_div_eq (x y : Int) (hx : jq_r x) (hy : jq_r y) : Int32.ofInt x / Int32.ofInt y = Int32.ofInt (jq_w (Int.tdiv x y)) := by
  apply Int32.toInt_inj.mp
  rw [Int32.toInt_div, jq_toInt, jq_toInt, jq_toInt, jq_w_id hx, jq_w_id hy, jq_w_id (jq_w_r _), jq_bm32]
theorem jq_lrem_eq (x y : Int) (hx : jq_rl x) (hy : jq_rl y) : Int64.ofInt x - Int64.ofInt x / Int64.ofInt y * Int64.ofInt y = Int64.ofInt (jq_w64 (Int.tmod x y)) := by
  apply Int64.toInt_inj.mp
  rw [Int64.toInt_sub, Int64.toInt_mul, Int64.toInt_div, Int.bmod_mul_bmod, Int.sub_bmod_bmod, jq_toInt64, jq_toInt64, jq_toInt64, jq_w64_id hx, jq_w64_id hy, jq_w64_id (jq_w64_r _), Int.mul_comm (x.tdiv y), ← Int.tmod_def, jq_bm64]
theorem jq_ldiv_eq (x y : Int) (hx : jq_rl x) (hy : jq_rl y) : Int64.ofInt x / Int64.ofInt y = Int64.ofInt (jq_w64 (Int.tdiv x y)) := by
  apply Int64.toInt_inj.mp
  rw [Int64.toInt_div, jq_toInt64, jq_toInt64, jq_toInt64, jq_w64_id hx, jq_w64_id hy, jq_w64_id (jq_w64_r _), jq_bm64]
theorem jq_iremR (Γ : jq_G Z X z own cc fr lo) {x y : Int} {f : Int → Option α} (d : decode cc pc = .ok (.irem, 1)) (k : ∀ v, jq_J (f v) K (jq_V Z X z σ (pc + 1) L (jI v :: st))) : jq_J ((jq_rem x y).bind f) K (jq_V Z X z σ pc L (jI y :: jI x :: st)) := by
  rcases X with ⟨⟨p, l, e, R, s, m, args, below, meth, c⟩, A, Q, nL, b, D, cs, ss, ly⟩
  obtain ⟨hx, hb, hml, hown, hts, hK, hlk, hA, hfr, hlo, hc, hs, hal, hzk, hSF, hAb, hNw⟩ := Γ
  intro r hF hR hos hol hwf hly H locs ls hP hS hsz hl
  have hos1 := jq_os_c.mp hos
  have hos2 := jq_os_c.mp hos1.2
  by_cases h0 : y = 0
  · unfold jq_rem at hF
    rw [if_pos h0] at hF
    cases hF
  unfold jq_rem at hF
  rw [if_neg h0] at hF
  have w := k _ r hF hR (jq_os_c.mpr ⟨jq_w_r _, hos2.2⟩) hol hwf hly H locs ls hP hS hsz hl
  have hne : ¬ Int32.ofInt y = 0 := fun h => h0 ((jq_eq32 hos1.1 (by unfold jq_r; omega)).mp (h.trans rfl))
  refine lv_irem hx hb d hne ?_
  have e := jq_rem_eq x y hos2.1 hos1.1
  rw [e]
  exact w
theorem jq_idivR (Γ : jq_G Z X z own cc fr lo) {x y : Int} {f : Int → Option α} (d : decode cc pc = .ok (.idiv, 1)) (k : ∀ v, jq_J (f v) K (jq_V Z X z σ (pc + 1) L (jI v :: st))) : jq_J ((jq_div x y).bind f) K (jq_V Z X z σ pc L (jI y :: jI x :: st)) := by
  rcases X with ⟨⟨p, l, e, R, s, m, args, below, meth, c⟩, A, Q, nL, b, D, cs, ss, ly⟩
  obtain ⟨hx, hb, hml, hown, hts, hK, hlk, hA, hfr, hlo, hc, hs, hal, hzk, hSF, hAb, hNw⟩ := Γ
  intro r hF hR hos hol hwf hly H locs ls hP hS hsz hl
  have hos1 := jq_os_c.mp hos
  have hos2 := jq_os_c.mp hos1.2
  by_cases h0 : y = 0
  · unfold jq_div at hF
    rw [if_pos h0] at hF
    cases hF
  unfold jq_div at hF
  rw [if_neg h0] at hF
  have w := k _ r hF hR (jq_os_c.mpr ⟨jq_w_r _, hos2.2⟩) hol hwf hly H locs ls hP hS hsz hl
  have hne : ¬ Int32.ofInt y = 0 := fun h => h0 ((jq_eq32 hos1.1 (by unfold jq_r; omega)).mp (h.trans rfl))
  refine lv_idiv hx hb d hne ?_
  have e := jq_div_eq x y hos2.1 hos1.1
  rw [e]
  exact w
theorem jq_lremR (Γ : jq_G Z X z own cc fr lo) {x y : Int} {f : Int → Option α} (d : decode cc pc = .ok (.lrem, 1)) (k : ∀ v, jq_J (f v) K (jq_V Z X z σ (pc + 1) L (jL v :: st))) : jq_J ((jq_lrem x y).bind f) K (jq_V Z X z σ pc L (jL y :: jL x :: st)) := by
  rcases X with ⟨⟨p, l, e, R, s, m, args, below, meth, c⟩, A, Q, nL, b, D, cs, ss, ly⟩
  obtain ⟨hx, hb, hml, hown, hts, hK, hlk, hA, hfr, hlo, hc, hs, hal, hzk, hSF, hAb, hNw⟩ := Γ
  intro r hF hR hos hol hwf hly H locs ls hP hS hsz hl
  have hos1 := jq_os_c.mp hos
  have hos2 := jq_os_c.mp hos1.2
  by_cases h0 : y = 0
  · unfold jq_lrem at hF
    rw [if_pos h0] at hF
    cases hF
  unfold jq_lrem at hF
  rw [if_neg h0] at hF
  have w := k _ r hF hR (jq_os_c.mpr ⟨jq_w64_r _, hos2.2⟩) hol hwf hly H locs ls hP hS hsz hl
  have hne : ¬ Int64.ofInt y = 0 := fun h => h0 ((jq_eq64 hos1.1 (by unfold jq_rl; omega)).mp (h.trans rfl))
  refine lv_lrem hx hb d hne ?_
  have e := jq_lrem_eq x y hos2.1 hos1.1
  rw [e]
  exact w
theorem jq_ldivR (Γ : jq_G Z X z own cc fr lo) {x y : Int} {f : Int → Option α} (d : decode cc pc = .ok (.ldiv, 1)) (k : ∀ v, jq_J (f v) K (jq_V Z X z σ (pc + 1) L (jL v :: st))) : jq_J ((jq_ldiv x y).bind f) K (jq_V Z X z σ pc L (jL y :: jL x :: st)) := by
  rcases X with ⟨⟨p, l, e, R, s, m, args, below, meth, c⟩, A, Q, nL, b, D, cs, ss, ly⟩
  obtain ⟨hx, hb, hml, hown, hts, hK, hlk, hA, hfr, hlo, hc, hs, hal, hzk, hSF, hAb, hNw⟩ := Γ
  intro r hF hR hos hol hwf hly H locs ls hP hS hsz hl
  have hos1 := jq_os_c.mp hos
  have hos2 := jq_os_c.mp hos1.2
  by_cases h0 : y = 0
  · unfold jq_ldiv at hF
    rw [if_pos h0] at hF
    cases hF
  unfold jq_ldiv at hF
  rw [if_neg h0] at hF
  have w := k _ r hF hR (jq_os_c.mpr ⟨jq_w64_r _, hos2.2⟩) hol hwf hly H locs ls hP hS hsz hl
  have hne : ¬ Int64.ofInt y = 0 := fun h => h0 ((jq_eq64 hos1.1 (by unfold jq_rl; omega)).mp (h.trans rfl))
  refine lv_ldiv hx hb d hne ?_
  have e := jq_ldiv_eq x y hos2.1 hos1.1
  rw [e]
  exact w
theorem jq_cmp_eq {x y : Int} (hx : jq_rl x) (hy : jq_rl y) : lg_cmp (Int64.ofInt x) (Int64.ofInt y) = Int32.ofInt (jq_cmp x y) := by
  unfold lg_cmp jq_cmp
  simp only [jq_lt64 hx hy, jq_eq64 hx hy, jq_lt64 hy hx, jq_eq64 hy hx]
  split <;> (try split) <;> first | rfl | (exfalso; omega) | (split <;> first | rfl | (exfalso; omega))
theorem jq_lcmp (Γ : jq_G Z X z own cc fr lo) {x y : Int} (d : decode cc pc = .ok (.lcmp, 1)) (k : jq_J F K (jq_V Z X z σ (pc + 1) L (jI (jq_cmp x y) :: st))) : jq_J F K (jq_V Z X z σ pc L (jL y :: jL x :: st)) := by
  rcases X with ⟨⟨p, l, e, R, s, m, args, below, meth, c⟩, A, Q, nL, b, D, cs, ss, ly⟩
  obtain ⟨hx, hb, hml, hown, hts, hK, hlk, hA, hfr, hlo, hc, hs, hal, hzk, hSF, hAb, hNw⟩ := Γ
  intro r hF hR hos hol hwf hly H locs ls hP hS hsz hl
  have hos1 := jq_os_c.mp hos
  have hos2 := jq_os_c.mp hos1.2
  have w := k r hF hR (jq_os_c.mpr ⟨(by show jq_r _; unfold jq_r jq_cmp; split; omega; split <;> omega), hos2.2⟩) hol hwf hly H locs ls hP hS hsz hl
  refine W.lcmp hx hb d ?_
  rw [jq_cmp_eq hos2.1 hos1.1]
  exact w
theorem jq_dup (Γ : jq_G Z X z own cc fr lo) {u : jq_A} (d : decode cc pc = .ok (.dup, 1)) (hu : jq_c u = 1) (k : jq_J F K (jq_V Z X z σ (pc + 1) L (u :: u :: st))) : jq_J F K (jq_V Z X z σ pc L (u :: st)) := by
  rcases X with ⟨⟨p, l, e, R, s, m, args, below, meth, c⟩, A, Q, nL, b, D, cs, ss, ly⟩
  obtain ⟨hx, hb, hml, hown, hts, hK, hlk, hA, hfr, hlo, hc, hs, hal, hzk, hSF, hAb, hNw⟩ := Γ
  intro r hF hR hos hol hwf hly H locs ls hP hS hsz hl
  have h1 := jq_os_c.mp hos
  have w := k r hF hR (jq_os_c.mpr ⟨h1.1, hos⟩) hol hwf hly H locs ls hP hS hsz hl
  exact lv_dup hx hb d (by rw [jq_e_c]; exact hu) w
theorem jq_dup2L (Γ : jq_G Z X z own cc fr lo) {u : jq_A} (d : decode cc pc = .ok (.dup2, 1)) (hu : jq_c u = 2) (k : jq_J F K (jq_V Z X z σ (pc + 1) L (u :: u :: st))) : jq_J F K (jq_V Z X z σ pc L (u :: st)) := by
  rcases X with ⟨⟨p, l, e, R, s, m, args, below, meth, c⟩, A, Q, nL, b, D, cs, ss, ly⟩
  obtain ⟨hx, hb, hml, hown, hts, hK, hlk, hA, hfr, hlo, hc, hs, hal, hzk, hSF, hAb, hNw⟩ := Γ
  intro r hF hR hos hol hwf hly H locs ls hP hS hsz hl
  have h1 := jq_os_c.mp hos
  have w := k r hF hR (jq_os_c.mpr ⟨h1.1, hos⟩) hol hwf hly H locs ls hP hS hsz hl
  exact lv_dup2_2 hx hb d (by rw [jq_e_c]; exact hu) w
theorem jq_pop (Γ : jq_G Z X z own cc fr lo) {u : jq_A} (d : decode cc pc = .ok (.pop, 1)) (hu : jq_c u = 1) (k : jq_J F K (jq_V Z X z σ (pc + 1) L st)) : jq_J F K (jq_V Z X z σ pc L (u :: st)) := by
  rcases X with ⟨⟨p, l, e, R, s, m, args, below, meth, c⟩, A, Q, nL, b, D, cs, ss, ly⟩
  obtain ⟨hx, hb, hml, hown, hts, hK, hlk, hA, hfr, hlo, hc, hs, hal, hzk, hSF, hAb, hNw⟩ := Γ
  intro r hF hR hos hol hwf hly H locs ls hP hS hsz hl
  have h1 := jq_os_c.mp hos
  have w := k r hF hR h1.2 hol hwf hly H locs ls hP hS hsz hl
  exact lv_pop hx hb d (by rw [jq_e_c]; exact hu) w
theorem jq_dup_x1 (Γ : jq_G Z X z own cc fr lo) {u v : jq_A} (d : decode cc pc = .ok (.dup_x1, 1)) (hu : jq_c u = 1) (hv : jq_c v = 1) (k : jq_J F K (jq_V Z X z σ (pc + 1) L (u :: v :: u :: st))) : jq_J F K (jq_V Z X z σ pc L (u :: v :: st)) := by
  rcases X with ⟨⟨p, l, e, R, s, m, args, below, meth, c⟩, A, Q, nL, b, D, cs, ss, ly⟩
  obtain ⟨hx, hb, hml, hown, hts, hK, hlk, hA, hfr, hlo, hc, hs, hal, hzk, hSF, hAb, hNw⟩ := Γ
  intro r hF hR hos hol hwf hly H locs ls hP hS hsz hl
  have h1 := jq_os_c.mp hos
  have h2 := jq_os_c.mp h1.2
  have w := k r hF hR (jq_os_c.mpr ⟨h1.1, jq_os_c.mpr ⟨h2.1, jq_os_c.mpr ⟨h1.1, h2.2⟩⟩⟩) hol hwf hly H locs ls hP hS hsz hl
  exact lv_dup_x1 hx hb d (by rw [jq_e_c]; exact hu) (by rw [jq_e_c]; exact hv) w
theorem jq_dup2 (Γ : jq_G Z X z own cc fr lo) {u v : jq_A} (d : decode cc pc = .ok (.dup2, 1)) (hu : jq_c u = 1) (hv : jq_c v = 1) (k : jq_J F K (jq_V Z X z σ (pc + 1) L (u :: v :: u :: v :: st))) : jq_J F K (jq_V Z X z σ pc L (u :: v :: st)) := by
  rcases X with ⟨⟨p, l, e, R, s, m, args, below, meth, c⟩, A, Q, nL, b, D, cs, ss, ly⟩
  obtain ⟨hx, hb, hml, hown, hts, hK, hlk, hA, hfr, hlo, hc, hs, hal, hzk, hSF, hAb, hNw⟩ := Γ
  intro r hF hR hos hol hwf hly H locs ls hP hS hsz hl
  have h1 := jq_os_c.mp hos
  have h2 := jq_os_c.mp h1.2
  have w := k r hF hR (jq_os_c.mpr ⟨h1.1, jq_os_c.mpr ⟨h2.1, hos⟩⟩) hol hwf hly H locs ls hP hS hsz hl
  exact lv_dup2_11 hx hb d (by rw [jq_e_c]; exact hu) (by rw [jq_e_c]; exact hv) w
theorem jq_let {β : Type} {v : β} {f : β → Option α} {G : Prop} (k : jq_J (f v) K G) : jq_J (jq_lt v f) K G := k
/-- a value gets a name -/
theorem jq_nmI {v : Int} {f : Int → Option α} (k : ∀ x, jq_J (f x) K (jq_V Z X z σ pc L (jI x :: st))) : jq_J (jq_lt v f) K (jq_V Z X z σ pc L (jI v :: st)) := k v
theorem jq_nmL {v : Int} {f : Int → Option α} (k : ∀ x, jq_J (f x) K (jq_V Z X z σ pc L (jL x :: st))) : jq_J (jq_lt v f) K (jq_V Z X z σ pc L (jL v :: st)) := k v
theorem jq_goto (Γ : jq_G Z X z own cc fr lo) {off : Int} {tgt : Nat} (d : decode cc pc = .ok (.goto off, 3)) (ht : (pc : Int) + off = (tgt : Int)) (k : jq_J F K (jq_V Z X z σ tgt L st)) : jq_J F K (jq_V Z X z σ pc L st) := by
  rcases X with ⟨⟨p, l, e, R, s, m, args, below, meth, c⟩, A, Q, nL, b, D, cs, ss, ly⟩
  obtain ⟨hx, hb, hml, hown, hts, hK, hlk, hA, hfr, hlo, hc, hs, hal, hzk, hSF, hAb, hNw⟩ := Γ
  intro r hF hR hos hol hwf hly H locs ls hP hS hsz hl
  exact lv_goto hx hb d ht (k r hF hR hos hol hwf hly H locs ls hP hS hsz hl)
theorem jq_split {c : Prop} {dc : Decidable c} {A B : Option α} {G : Prop} (k1 : c → jq_J A K G) (k2 : ¬ c → jq_J B K G) : jq_J (@ite (Option α) c dc A B) K G := by
  intro r hF hK
  by_cases h : c
  · rw [if_pos h] at hF
    exact k1 h r hF hK
  · rw [if_neg h] at hF
    exact k2 h r hF hK
theorem jq_icmp_lt (Γ : jq_G Z X z own cc fr lo) {x y off : Int} {tgt : Nat} {A B : Option α} {dc : Decidable (x < y)} (d : decode cc pc = .ok (.if_icmp .lt off, 3)) (ht : (pc : Int) + off = (tgt : Int)) (k1 : jq_J A K (jq_V Z X z σ tgt L st)) (k2 : jq_J B K (jq_V Z X z σ (pc + 3) L st)) : jq_J (@ite (Option α) (x < y) dc A B) K (jq_V Z X z σ pc L (jI y :: jI x :: st)) := by
  rcases X with ⟨⟨p, l, e, R, s, m, args, below, meth, c⟩, A, Q, nL, b, D, cs, ss, ly⟩
  obtain ⟨hx, hb, hml, hown, hts, hK, hlk, hA, hfr, hlo, hc, hs, hal, hzk, hSF, hAb, hNw⟩ := Γ
  intro r hF hR hos hol hwf hly H locs ls hP hS hsz hl
  have hos1 := jq_os_c.mp hos
  have hos2 := jq_os_c.mp hos1.2
  have hr1 : jq_r y := hos1.1
  have hr2 : jq_r x := hos2.1
  exact lv_icmp_lt hx hb d ht (fun h => k1 r ((if_pos ((jq_lt32 hr2 hr1).mp h)).symm.trans hF) hR hos2.2 hol hwf hly H locs ls hP hS hsz hl) (fun h => k2 r ((if_neg (fun q => h ((jq_lt32 hr2 hr1).mpr q))).symm.trans hF) hR hos2.2 hol hwf hly H locs ls hP hS hsz hl)
theorem jq_if_lt (Γ : jq_G Z X z own cc fr lo) {x off : Int} {tgt : Nat} {A B : Option α} {dc : Decidable (x < 0)} (d : decode cc pc = .ok (.ifCond .lt off, 3)) (ht : (pc : Int) + off = (tgt : Int)) (k1 : jq_J A K (jq_V Z X z σ tgt L st)) (k2 : jq_J B K (jq_V Z X z σ (pc + 3) L st)) : jq_J (@ite (Option α) (x < 0) dc A B) K (jq_V Z X z σ pc L (jI x :: st)) := by
  rcases X with ⟨⟨p, l, e, R, s, m, args, below, meth, c⟩, A, Q, nL, b, D, cs, ss, ly⟩
  obtain ⟨hx, hb, hml, hown, hts, hK, hlk, hA, hfr, hlo, hc, hs, hal, hzk, hSF, hAb, hNw⟩ := Γ
  intro r hF hR hos hol hwf hly H locs ls hP hS hsz hl
  have hos1 := jq_os_c.mp hos
  have hr2 : jq_r x := hos1.1
  have hr0 : jq_r 0 := by unfold jq_r; omega
  have e0 : (0 : Int32) = Int32.ofInt 0 := rfl
  exact lv_if_lt hx hb d ht (fun h => k1 r ((if_pos ((jq_lt32 hr2 hr0).mp h)).symm.trans hF) hR hos1.2 hol hwf hly H locs ls hP hS hsz hl) (fun h => k2 r ((if_neg (fun q => h ((jq_lt32 hr2 hr0).mpr q))).symm.trans hF) hR hos1.2 hol hwf hly H locs ls hP hS hsz hl)
theorem jq_icmp_ge (Γ : jq_G Z X z own cc fr lo) {x y off : Int} {tgt : Nat} {A B : Option α} {dc : Decidable (x < y)} (d : decode cc pc = .ok (.if_icmp .ge off, 3)) (ht : (pc : Int) + off = (tgt : Int)) (k1 : jq_J B K (jq_V Z X z σ tgt L st)) (k2 : jq_J A K (jq_V Z X z σ (pc + 3) L st)) : jq_J (@ite (Option α) (x < y) dc A B) K (jq_V Z X z σ pc L (jI y :: jI x :: st)) := by
  rcases X with ⟨⟨p, l, e, R, s, m, args, below, meth, c⟩, A, Q, nL, b, D, cs, ss, ly⟩
  obtain ⟨hx, hb, hml, hown, hts, hK, hlk, hA, hfr, hlo, hc, hs, hal, hzk, hSF, hAb, hNw⟩ := Γ
  intro r hF hR hos hol hwf hly H locs ls hP hS hsz hl
  have hos1 := jq_os_c.mp hos
  have hos2 := jq_os_c.mp hos1.2
  have hr1 : jq_r y := hos1.1
  have hr2 : jq_r x := hos2.1
  exact lv_icmp_ge hx hb d ht (fun h => k1 r ((if_neg (by have := (jq_le32 hr1 hr2).mp h; omega)).symm.trans hF) hR hos2.2 hol hwf hly H locs ls hP hS hsz hl) (fun h => k2 r ((if_pos (by by_cases q : x < y; exact q; exact absurd ((jq_le32 hr1 hr2).mpr (by omega)) h)).symm.trans hF) hR hos2.2 hol hwf hly H locs ls hP hS hsz hl)
theorem jq_if_ge (Γ : jq_G Z X z own cc fr lo) {x off : Int} {tgt : Nat} {A B : Option α} {dc : Decidable (x < 0)} (d : decode cc pc = .ok (.ifCond .ge off, 3)) (ht : (pc : Int) + off = (tgt : Int)) (k1 : jq_J B K (jq_V Z X z σ tgt L st)) (k2 : jq_J A K (jq_V Z X z σ (pc + 3) L st)) : jq_J (@ite (Option α) (x < 0) dc A B) K (jq_V Z X z σ pc L (jI x :: st)) := by
  rcases X with ⟨⟨p, l, e, R, s, m, args, below, meth, c⟩, A, Q, nL, b, D, cs, ss, ly⟩
  obtain ⟨hx, hb, hml, hown, hts, hK, hlk, hA, hfr, hlo, hc, hs, hal, hzk, hSF, hAb, hNw⟩ := Γ
  intro r hF hR hos hol hwf hly H locs ls hP hS hsz hl
  have hos1 := jq_os_c.mp hos
  have hr2 : jq_r x := hos1.1
  have hr0 : jq_r 0 := by unfold jq_r; omega
  have e0 : (0 : Int32) = Int32.ofInt 0 := rfl
  exact lv_if_ge hx hb d ht (fun h => k1 r ((if_neg (by have := (jq_le32 hr0 hr2).mp h; omega)).symm.trans hF) hR hos1.2 hol hwf hly H locs ls hP hS hsz hl) (fun h => k2 r ((if_pos (by by_cases q : x < 0; exact q; exact absurd ((jq_le32 hr0 hr2).mpr (by omega)) h)).symm.trans hF) hR hos1.2 hol hwf hly H locs ls hP hS hsz hl)
theorem jq_icmp_gt (Γ : jq_G Z X z own cc fr lo) {x y off : Int} {tgt : Nat} {A B : Option α} {dc : Decidable (y < x)} (d : decode cc pc = .ok (.if_icmp .gt off, 3)) (ht : (pc : Int) + off = (tgt : Int)) (k1 : jq_J A K (jq_V Z X z σ tgt L st)) (k2 : jq_J B K (jq_V Z X z σ (pc + 3) L st)) : jq_J (@ite (Option α) (y < x) dc A B) K (jq_V Z X z σ pc L (jI y :: jI x :: st)) := by
  rcases X with ⟨⟨p, l, e, R, s, m, args, below, meth, c⟩, A, Q, nL, b, D, cs, ss, ly⟩
  obtain ⟨hx, hb, hml, hown, hts, hK, hlk, hA, hfr, hlo, hc, hs, hal, hzk, hSF, hAb, hNw⟩ := Γ
  intro r hF hR hos hol hwf hly H locs ls hP hS hsz hl
  have hos1 := jq_os_c.mp hos
  have hos2 := jq_os_c.mp hos1.2
  have hr1 : jq_r y := hos1.1
  have hr2 : jq_r x := hos2.1
  exact lv_icmp_gt hx hb d ht (fun h => k1 r ((if_pos ((jq_lt32 hr1 hr2).mp h)).symm.trans hF) hR hos2.2 hol hwf hly H locs ls hP hS hsz hl) (fun h => k2 r ((if_neg (fun q => h ((jq_lt32 hr1 hr2).mpr q))).symm.trans hF) hR hos2.2 hol hwf hly H locs ls hP hS hsz hl)
theorem jq_if_gt (Γ : jq_G Z X z own cc fr lo) {x off : Int} {tgt : Nat} {A B : Option α} {dc : Decidable (0 < x)} (d : decode cc pc = .ok (.ifCond .gt off, 3)) (ht : (pc : Int) + off = (tgt : Int)) (k1 : jq_J A K (jq_V Z X z σ tgt L st)) (k2 : jq_J B K (jq_V Z X z σ (pc + 3) L st)) : jq_J (@ite (Option α) (0 < x) dc A B) K (jq_V Z X z σ pc L (jI x :: st)) := by
  rcases X with ⟨⟨p, l, e, R, s, m, args, below, meth, c⟩, A, Q, nL, b, D, cs, ss, ly⟩
  obtain ⟨hx, hb, hml, hown, hts, hK, hlk, hA, hfr, hlo, hc, hs, hal, hzk, hSF, hAb, hNw⟩ := Γ
  intro r hF hR hos hol hwf hly H locs ls hP hS hsz hl
  have hos1 := jq_os_c.mp hos
  have hr2 : jq_r x := hos1.1
  have hr0 : jq_r 0 := by unfold jq_r; omega
  have e0 : (0 : Int32) = Int32.ofInt 0 := rfl
  exact lv_if_gt hx hb d ht (fun h => k1 r ((if_pos ((jq_lt32 hr0 hr2).mp h)).symm.trans hF) hR hos1.2 hol hwf hly H locs ls hP hS hsz hl) (fun h => k2 r ((if_neg (fun q => h ((jq_lt32 hr0 hr2).mpr q))).symm.trans hF) hR hos1.2 hol hwf hly H locs ls hP hS hsz hl)
theorem jq_icmp_le (Γ : jq_G Z X z own cc fr lo) {x y off : Int} {tgt : Nat} {A B : Option α} {dc : Decidable (y < x)} (d : decode cc pc = .ok (.if_icmp .le off, 3)) (ht : (pc : Int) + off = (tgt : Int)) (k1 : jq_J B K (jq_V Z X z σ tgt L st)) (k2 : jq_J A K (jq_V Z X z σ (pc + 3) L st)) : jq_J (@ite (Option α) (y < x) dc A B) K (jq_V Z X z σ pc L (jI y :: jI x :: st)) := by
  rcases X with ⟨⟨p, l, e, R, s, m, args, below, meth, c⟩, A, Q, nL, b, D, cs, ss, ly⟩
  obtain ⟨hx, hb, hml, hown, hts, hK, hlk, hA, hfr, hlo, hc, hs, hal, hzk, hSF, hAb, hNw⟩ := Γ
  intro r hF hR hos hol hwf hly H locs ls hP hS hsz hl
  have hos1 := jq_os_c.mp hos
  have hos2 := jq_os_c.mp hos1.2
  have hr1 : jq_r y := hos1.1
  have hr2 : jq_r x := hos2.1
  exact lv_icmp_le hx hb d ht (fun h => k1 r ((if_neg (by have := (jq_le32 hr2 hr1).mp h; omega)).symm.trans hF) hR hos2.2 hol hwf hly H locs ls hP hS hsz hl) (fun h => k2 r ((if_pos (by by_cases q : y < x; exact q; exact absurd ((jq_le32 hr2 hr1).mpr (by omega)) h)).symm.trans hF) hR hos2.2 hol hwf hly H locs ls hP hS hsz hl)
theorem jq_if_le (Γ : jq_G Z X z own cc fr lo) {x off : Int} {tgt : Nat} {A B : Option α} {dc : Decidable (0 < x)} (d : decode cc pc = .ok (.ifCond .le off, 3)) (ht : (pc : Int) + off = (tgt : Int)) (k1 : jq_J B K (jq_V Z X z σ tgt L st)) (k2 : jq_J A K (jq_V Z X z σ (pc + 3) L st)) : jq_J (@ite (Option α) (0 < x) dc A B) K (jq_V Z X z σ pc L (jI x :: st)) := by
  rcases X with ⟨⟨p, l, e, R, s, m, args, below, meth, c⟩, A, Q, nL, b, D, cs, ss, ly⟩
  obtain ⟨hx, hb, hml, hown, hts, hK, hlk, hA, hfr, hlo, hc, hs, hal, hzk, hSF, hAb, hNw⟩ := Γ
  intro r hF hR hos hol hwf hly H locs ls hP hS hsz hl
  have hos1 := jq_os_c.mp hos
  have hr2 : jq_r x := hos1.1
  have hr0 : jq_r 0 := by unfold jq_r; omega
  have e0 : (0 : Int32) = Int32.ofInt 0 := rfl
  exact lv_if_le hx hb d ht (fun h => k1 r ((if_neg (by have := (jq_le32 hr2 hr0).mp h; omega)).symm.trans hF) hR hos1.2 hol hwf hly H locs ls hP hS hsz hl) (fun h => k2 r ((if_pos (by by_cases q : 0 < x; exact q; exact absurd ((jq_le32 hr2 hr0).mpr (by omega)) h)).symm.trans hF) hR hos1.2 hol hwf hly H locs ls hP hS hsz hl)
theorem jq_icmp_eq (Γ : jq_G Z X z own cc fr lo) {x y off : Int} {tgt : Nat} {A B : Option α} {dc : Decidable (x = y)} (d : decode cc pc = .ok (.if_icmp .eq off, 3)) (ht : (pc : Int) + off = (tgt : Int)) (k1 : jq_J A K (jq_V Z X z σ tgt L st)) (k2 : jq_J B K (jq_V Z X z σ (pc + 3) L st)) : jq_J (@ite (Option α) (x = y) dc A B) K (jq_V Z X z σ pc L (jI y :: jI x :: st)) := by
  rcases X with ⟨⟨p, l, e, R, s, m, args, below, meth, c⟩, A, Q, nL, b, D, cs, ss, ly⟩
  obtain ⟨hx, hb, hml, hown, hts, hK, hlk, hA, hfr, hlo, hc, hs, hal, hzk, hSF, hAb, hNw⟩ := Γ
  intro r hF hR hos hol hwf hly H locs ls hP hS hsz hl
  have hos1 := jq_os_c.mp hos
  have hos2 := jq_os_c.mp hos1.2
  have hr1 : jq_r y := hos1.1
  have hr2 : jq_r x := hos2.1
  exact lv_icmp_eq hx hb d ht (fun h => k1 r ((if_pos ((jq_eq32 hr2 hr1).mp h)).symm.trans hF) hR hos2.2 hol hwf hly H locs ls hP hS hsz hl) (fun h => k2 r ((if_neg (fun q => h ((jq_eq32 hr2 hr1).mpr q))).symm.trans hF) hR hos2.2 hol hwf hly H locs ls hP hS hsz hl)
theorem jq_if_eq (Γ : jq_G Z X z own cc fr lo) {x off : Int} {tgt : Nat} {A B : Option α} {dc : Decidable (x = 0)} (d : decode cc pc = .ok (.ifCond .eq off, 3)) (ht : (pc : Int) + off = (tgt : Int)) (k1 : jq_J A K (jq_V Z X z σ tgt L st)) (k2 : jq_J B K (jq_V Z X z σ (pc + 3) L st)) : jq_J (@ite (Option α) (x = 0) dc A B) K (jq_V Z X z σ pc L (jI x :: st)) := by
  rcases X with ⟨⟨p, l, e, R, s, m, args, below, meth, c⟩, A, Q, nL, b, D, cs, ss, ly⟩
  obtain ⟨hx, hb, hml, hown, hts, hK, hlk, hA, hfr, hlo, hc, hs, hal, hzk, hSF, hAb, hNw⟩ := Γ
  intro r hF hR hos hol hwf hly H locs ls hP hS hsz hl
  have hos1 := jq_os_c.mp hos
  have hr2 : jq_r x := hos1.1
  have hr0 : jq_r 0 := by unfold jq_r; omega
  have e0 : (0 : Int32) = Int32.ofInt 0 := rfl
  exact lv_if_eq hx hb d ht (fun h => k1 r ((if_pos ((jq_eq32 hr2 hr0).mp h)).symm.trans hF) hR hos1.2 hol hwf hly H locs ls hP hS hsz hl) (fun h => k2 r ((if_neg (fun q => h ((jq_eq32 hr2 hr0).mpr q))).symm.trans hF) hR hos1.2 hol hwf hly H locs ls hP hS hsz hl)
theorem jq_icmp_ne (Γ : jq_G Z X z own cc fr lo) {x y off : Int} {tgt : Nat} {A B : Option α} {dc : Decidable (x = y)} (d : decode cc pc = .ok (.if_icmp .ne off, 3)) (ht : (pc : Int) + off = (tgt : Int)) (k1 : jq_J B K (jq_V Z X z σ tgt L st)) (k2 : jq_J A K (jq_V Z X z σ (pc + 3) L st)) : jq_J (@ite (Option α) (x = y) dc A B) K (jq_V Z X z σ pc L (jI y :: jI x :: st)) := by
  rcases X with ⟨⟨p, l, e, R, s, m, args, below, meth, c⟩, A, Q, nL, b, D, cs, ss, ly⟩
  obtain ⟨hx, hb, hml, hown, hts, hK, hlk, hA, hfr, hlo, hc, hs, hal, hzk, hSF, hAb, hNw⟩ := Γ
  intro r hF hR hos hol hwf hly H locs ls hP hS hsz hl
  have hos1 := jq_os_c.mp hos
  have hos2 := jq_os_c.mp hos1.2
  have hr1 : jq_r y := hos1.1
  have hr2 : jq_r x := hos2.1
  exact lv_icmp_ne hx hb d ht (fun h => k1 r ((if_neg (fun q => h ((jq_eq32 hr2 hr1).mpr q))).symm.trans hF) hR hos2.2 hol hwf hly H locs ls hP hS hsz hl) (fun h => k2 r ((if_pos ((jq_eq32 hr2 hr1).mp h)).symm.trans hF) hR hos2.2 hol hwf hly H locs ls hP hS hsz hl)
theorem jq_if_ne (Γ : jq_G Z X z own cc fr lo) {x off : Int} {tgt : Nat} {A B : Option α} {dc : Decidable (x = 0)} (d : decode cc pc = .ok (.ifCond .ne off, 3)) (ht : (pc : Int) + off = (tgt : Int)) (k1 : jq_J B K (jq_V Z X z σ tgt L st)) (k2 : jq_J A K (jq_V Z X z σ (pc + 3) L st)) : jq_J (@ite (Option α) (x = 0) dc A B) K (jq_V Z X z σ pc L (jI x :: st)) := by
  rcases X with ⟨⟨p, l, e, R, s, m, args, below, meth, c⟩, A, Q, nL, b, D, cs, ss, ly⟩
  obtain ⟨hx, hb, hml, hown, hts, hK, hlk, hA, hfr, hlo, hc, hs, hal, hzk, hSF, hAb, hNw⟩ := Γ
  intro r hF hR hos hol hwf hly H locs ls hP hS hsz hl
  have hos1 := jq_os_c.mp hos
  have hr2 : jq_r x := hos1.1
  have hr0 : jq_r 0 := by unfold jq_r; omega
  have e0 : (0 : Int32) = Int32.ofInt 0 := rfl
  exact lv_if_ne hx hb d ht (fun h => k1 r ((if_neg (fun q => h ((jq_eq32 hr2 hr0).mpr q))).symm.trans hF) hR hos1.2 hol hwf hly H locs ls hP hS hsz hl) (fun h => k2 r ((if_pos ((jq_eq32 hr2 hr0).mp h)).symm.trans hF) hR hos1.2 hol hwf hly H locs ls hP hS hsz hl)
theorem jq_tabIn (Γ : jq_G Z X z own cc fr lo) {x v dflt low hi off : Int} {offs : Array Int} {len tgt : Nat} (d : decode cc pc = .ok (.tableswitch dflt low hi offs, len)) (h : x = v) (hr : (decide (low ≤ v) && decide (v ≤ hi) && decide (-2147483648 ≤ v) && decide (v < 2147483648)) = true) (ho : offs[(v - low).toNat]? = some off) (ht : (pc : Int) + off = (tgt : Int)) (k : jq_J F K (jq_V Z X z σ tgt L st)) : jq_J F K (jq_V Z X z σ pc L (jI x :: st)) := by
  rcases X with ⟨⟨p, l, e, R, s, m, args, below, meth, c⟩, A, Q, nL, b, D, cs, ss, ly⟩
  obtain ⟨hx, hb, hml, hown, hts, hK, hlk, hA, hfr, hlo, hc, hs, hal, hzk, hSF, hAb, hNw⟩ := Γ
  intro r hF hR hos hol hwf hly H locs ls hP hS hsz hl
  have hos1 := jq_os_c.mp hos
  simp only [Bool.and_eq_true, decide_eq_true_eq] at hr
  subst h
  have e : (Int32.ofInt x).toInt = x := by rw [jq_toInt, jq_w_id hos1.1]
  exact lv_tableIn hx hb d (by rw [e]; omega) (by rw [e]; omega) (by rw [e]; exact ho) ht (k r hF hR hos1.2 hol hwf hly H locs ls hP hS hsz hl)
theorem jq_tabOut (Γ : jq_G Z X z own cc fr lo) {x dflt low hi : Int} {offs : Array Int} {len tgt : Nat} (d : decode cc pc = .ok (.tableswitch dflt low hi offs, len)) (h : x < low ∨ hi < x) (ht : (pc : Int) + dflt = (tgt : Int)) (k : jq_J F K (jq_V Z X z σ tgt L st)) : jq_J F K (jq_V Z X z σ pc L (jI x :: st)) := by
  rcases X with ⟨⟨p, l, e, R, s, m, args, below, meth, c⟩, A, Q, nL, b, D, cs, ss, ly⟩
  obtain ⟨hx, hb, hml, hown, hts, hK, hlk, hA, hfr, hlo, hc, hs, hal, hzk, hSF, hAb, hNw⟩ := Γ
  intro r hF hR hos hol hwf hly H locs ls hP hS hsz hl
  have hos1 := jq_os_c.mp hos
  have e : (Int32.ofInt x).toInt = x := by rw [jq_toInt, jq_w_id hos1.1]
  exact lv_tableOut hx hb d (by rw [e]; exact h) ht (k r hF hR hos1.2 hol hwf hly H locs ls hP hS hsz hl)
theorem jq_look (Γ : jq_G Z X z own cc fr lo) {x dflt off : Int} {ps : Array (Int × Int)} {len tgt : Nat} (d : decode cc pc = .ok (.lookupswitch dflt ps, len)) (hp : (ps.toList.zip (ps.toList.drop 1)).all (fun (a, next) => a.1 < next.1) = true) (ho : Op.lookupswitch.offset ps.toList dflt x = off) (ht : (pc : Int) + off = (tgt : Int)) (k : jq_J F K (jq_V Z X z σ tgt L st)) : jq_J F K (jq_V Z X z σ pc L (jI x :: st)) := by
  rcases X with ⟨⟨p, l, e, R, s, m, args, below, meth, c⟩, A, Q, nL, b, D, cs, ss, ly⟩
  obtain ⟨hx, hb, hml, hown, hts, hK, hlk, hA, hfr, hlo, hc, hs, hal, hzk, hSF, hAb, hNw⟩ := Γ
  intro r hF hR hos hol hwf hly H locs ls hP hS hsz hl
  have hos1 := jq_os_c.mp hos
  have e : (Int32.ofInt x).toInt = x := by rw [jq_toInt, jq_w_id hos1.1]
  exact lv_lookup hx hb d hp (by rw [e]; exact ho) ht (k r hF hR hos1.2 hol hwf hly H locs ls hP hS hsz hl)
theorem jq_osw {x a o d0 : Int} {r : List (Int × Int)} (h : ¬ x = a) : Op.lookupswitch.offset ((a, o) :: r) d0 x = Op.lookupswitch.offset r d0 x := by
  rw [Op.lookupswitch.offset_cons, if_neg]
  exact fun q => h q.symm
/-- a loop -/
theorem jq_loop {S E : Type} {body : S → Option (S ⊕ E)} {g : E → Option α} {K : α → Prop} (C : S → Prop) (KX : E → Prop) (hb : ∀ s, jq_J (body s) (fun r => Sum.elim C KX r) (C s)) (hg : ∀ e, jq_J (g e) K (KX e)) (s0 : S) : jq_J ((jq_lp body s0).bind g) K (C s0) := by
  intro a h hK
  cases he : jq_lp body s0 with
  | none => rw [he] at h; cases h
  | some e =>
    rw [he] at h
    have hx : KX e := hg e a h hK
    obtain ⟨n, hn⟩ := jq_lp_some.mp he
    have key : ∀ (n : Nat) (s : S), jq_iter body n s = some e → C s := by
      intro n
      induction n with
      | zero => intro s h; cases h
      | succ n ih =>
        intro s h
        simp only [jq_iter] at h
        split at h
        · cases h
        · rename_i s' hs
          exact hb s _ hs (ih s' h)
        · rename_i e' hs
          cases h
          exact hb s _ hs hx
    exact key n s0 hn
theorem jq_done {a : α} {K : α → Prop} {G : Prop} (h : K a → G) : jq_J (some a) K G := by
  intro r hF hK
  cases hF
  exact h hK
end
