section
variable {Z : jq_Z} {X : jq_X} {z : jq_z} {own : String} {cc : ByteArray} {fr lo rc rs : Nat} {σ : jq_M} {pc : Nat} {L : List (Nat × jq_A)} {st : List jq_A} {α : Type} {F : Option α} {K : α → Prop}
/-- where objects are made: the room, how many there are, the constructor's name -/
def jq_GA (X : jq_X) (z : jq_z) (rc rs : Nat) : Prop := match X with
  | ((p, l, e, R, s, m, args, below, meth, c), (A, Q, nL, b, D, cs, ss, ly)) => rc ≤ R.cells ∧ rs ≤ R.slots ∧ s.heap.size + z.2.1 = b + z.1 ∧ meth.name = "<init>" ∧ (∀ q : Nat, b ≤ q → A q)
/-- rows of objects can be made -/
def jq_AO (X : jq_X) : Prop := match X with
  | ((p, l, e, R, s, m, args, below, meth, c), (A, Q, nL, b, D, cs, ss, ly)) => (Cond.arrayOver (.object "StandTable$Tray")).before args s = true ∧ (Cond.arrayOver (.object "StandTable$Committee")).before args s = true
def jq_GI (Z : jq_Z) (X : jq_X) (z : jq_z) (own : String) (cc : ByteArray) (fr lo rc rs : Nat) : Prop := jq_G Z X z own cc fr lo ∧ jq_GA X z rc rs
/-- what a new object's fields hold -/
def jq_df (ci : Nat) : Int → Int := fun j => if jq_ft ci j.toNat = 2 then -1 else 0
theorem jq_size {p : Program} {l : Launch} {e : Env} {R : Room} {s : State} {m : MethodId} {args : Array Value} {below : List Frame} {meth : Method} {c : Code} {T : State} {locs : List Loc} {cells slots b n : Nat} {D : va_G} {cs : Nat → ClassId} (X : Stand p l e R s m args below meth c T locs cells slots) (hP : va_P D vwCl (jq_ws b cs Z n σ) T.heap) (h0 : s.heap.size + cells = b + n) (hn0 : 0 < n) (hn : n ≤ Z.1.length) : T.heap.size = b + n := by
  have h1 : T.heap.size ≤ s.heap.size + cells := X.same.2.2.1
  have h2 : s.heap.size ≤ T.heap.size := X.same.2.1
  have hk : n - 1 < n := by omega
  obtain ⟨kd, hkd⟩ : ∃ kd, Z.1[n - 1]? = some kd := ⟨Z.1[n - 1], List.getElem?_eq_getElem (by omega)⟩
  have := (hP (n - 1) _ (jq_ws_at hk hkd)).lt
  have e : (b + (n - 1), jq_en b cs kd (σ ((n - 1 : Nat) : Int))).1 = b + (n - 1) := rfl
  rw [e] at this
  omega
theorem jq_wf_al {n : Nat} {kd : Nat × Nat} {f : Int → Int} (h : jq_wf Z n σ) (hz : Z.1[n]? = some kd) (hf : ∀ j : Nat, j < kd.2 → jq_rg (jq_ty kd j) (f j)) : jq_wf Z (n + 1) (jq_al σ n f) := by
  intro k j kd' hk hz' hj
  unfold jq_al
  by_cases hkn : k = n
  · subst hkn
    rw [if_pos rfl]
    rw [hz] at hz'
    cases hz'
    exact hf j hj
  · rw [if_neg (by omega)]
    exact h k j kd' (by omega) hz' hj
theorem jq_df_rg {ci N : Nat} {C : String} {T : u_T} {ty : Nat → FieldType} (hcls : jq_cls ci C T N ty) : ∀ j : Nat, j < N → jq_rg (jq_ty (ci + 10, N) j) (jq_df ci j) := by
  intro j hj
  rw [jq_ty_o]
  unfold jq_df
  rw [Int.toNat_natCast]
  by_cases h2 : jq_ft ci j = 2
  · rw [h2]
    exact trivial
  · rw [if_neg h2]
    unfold jq_rg
    split
    · unfold jq_r; omega
    · unfold jq_rl; omega
    · exact trivial
    · exact Or.inl rfl
    · omega
theorem jq_born {s : State} {args : Array Value} {D : va_G} {cs : Nat → ClassId} {b n ci N : Nat} {C : String} {T : u_T} {ty : Nat → FieldType} {H1 : Heap} {kC : Class} (hts : ∀ w ∈ jq_T, w.before args s = true) (hcls : jq_cls ci C T N ty) (hz : Z.1[n]? = some (ci + 10, N)) (hKn : u_Kn s C T N (D.1 ci) (D.2 ci)) (hkC : s.vm.classes[D.1 ci]? = some kC) (e1 : H1[b + n]? = some (blank (D.1 ci) kC)) (hP : va_P D vwCl (jq_ws b cs Z n σ) H1) : va_P D vwCl (jq_ws b cs Z (n + 1) (jq_al σ n (jq_df ci))) H1 := by
  obtain ⟨h1, h2, h3, h4, h5, h6⟩ := hcls
  have hb1 := u_born (ws := jq_T) (args := args) (T := T) ty hts h2 hKn hkC e1 h3
  rw [← jq_ws_push hz]
  refine hP.app (fun k x hx1 => ?_)
  have hz0 : k < 1 := (List.getElem?_eq_some_iff.mp hx1).1
  obtain rfl : k = 0 := by omega
  cases hx1
  rw [jq_en_o]
  refine ⟨(C, T, N), h1, hb1.to (fun j hj => ?_)⟩
  unfold vp_V
  rw [List.getD_eq_getElem?_getD, List.getElem?_map, List.getElem?_range hj]
  show defaultValue (ty j) = jq_fv b (jq_ft ci j) (jq_df ci j)
  have hc6 := h6 j hj
  unfold jq_df
  rw [Int.toNat_natCast, ← hc6]
  cases hty : ty j with
  | int => rfl
  | long => rfl
  | boolean => rfl
  | object _ => rfl
  | array _ => rfl
  | _ =>
    exfalso
    rw [hty] at hc6
    have := jq_ft_9 ci j
    simp [jq_code] at hc6
    omega
theorem jq_new {n c0 sl : Nat} (Γ : jq_GI Z X (n, c0, sl, false) own cc fr lo rc rs) (hn0 : 0 < n) {ix ci N : Nat} {C : String} {T : u_T} {ty : Nat → FieldType} {f : jq_M → Option α} {NI : Int} (hlY : ¬ jq_ly X) (hcls : jq_cls ci C T N ty) (hz : Z.1[n]? = some (ci + 10, N)) (hNI : (n : Int) = NI) (w1 : Cond.classLink own ix C ∈ jq_T) (w2 : Cond.instantiable C N ∈ jq_T) (w3 : Cond.initialized C ∈ jq_T) (hrc1 : Nat.ble (c0 + 1) rc = true) (hrs1 : Nat.ble (sl + N) rs = true) (d : decode cc pc = .ok (.new ix, 3)) (kk : jq_GI Z X (n + 1, c0 + 1, sl + N, false) own cc fr lo rc rs → ∀ σ' : jq_M, jq_J (f σ') K (jq_V Z X (n + 1, c0 + 1, sl + N, false) σ' (pc + 3) L (jR NI :: st))) : jq_J (jq_lt (jq_al σ NI (jq_df ci)) f) K (jq_V Z X (n, c0, sl, false) σ pc L st) := by
  rcases X with ⟨⟨p, l, e, R, s, m, args, below, meth, c⟩, A, Q, nL, b, D, cs, ss, ly⟩
  obtain ⟨⟨hx, hb, hml, hown, hts, hK, hlk, hA, hfr, hlo, hc, hs, hal, hzk, hSF, hAb, hNw⟩, hrc, hrs, hsz0, hin, hAall⟩ := Γ
  intro r hF hR hos hol hwf hly H locs ls hP hS hsz hl
  subst hNI
  have hrc1 := Nat.le_of_ble_eq_true hrc1
  have hrs1 := Nat.le_of_ble_eq_true hrs1
  have hA1 : ∀ k : Nat, k < n + 1 → A (b + k) := fun k _ => hAall _ (Nat.le_add_right b k)
  have hcls0 := hcls
  have hdf := jq_df_rg hcls
  have w := kk ⟨⟨hx, hb, hml, hown, hts, hK, hlk, hA1, hfr, hlo, (by show c0 + 1 ≤ _; omega), (by show sl + N ≤ _; omega), (fun h => by cases h), hzk, hSF, hAb, hNw⟩, hrc, hrs, (by show _ + (c0 + 1) = b + (n + 1); have : s.heap.size + c0 = b + n := hsz0; omega), hin, hAall⟩ _ r hF hR (jq_os_c.mpr ⟨trivial, hos⟩) hol (jq_wf_al hwf hz hdf) (fun h => absurd h hlY)
  obtain ⟨h1, h2, h3, h4, h5, h6⟩ := hcls
  intro T0 hT0 X0
  have hn : n < Z.1.length := (List.getElem?_eq_some_iff.mp hz).1
  have hsize : H.size = b + n := by
    rw [← hT0]
    exact jq_size X0 (by rw [hT0]; exact hP) hsz0 hn0 (by omega)
  have hKn := hK.1 ci _ h1
  have key : W p l e R s m args below meth c H locs c0 sl Q (F0 m pc ls (jq_eS b ss st)) := by
    refine W.newcK (n := N) hx hb hown (hts _ w1) (hts _ w2) (hts _ w3) rfl d (by omega) (by omega) hKn.2.1 hsize (fun H1 kC hkC e1 z1 o1 => ?_)
    have hk : ∀ (k : Nat) (x : Nat × va_E), (jq_ws b cs Z n σ)[k]? = some x → H1[x.1]? = H[x.1]? := fun k x hx => o1 x.1 (by rw [← hsize]; exact (hP k x hx).lt)
    have hP1 := jq_born hts hcls0 hz hKn hkC e1 (hP.kept hk)
    have w1 := w H1 locs ls hP1 ⟨by rw [z1]; have := hS.1; omega, fun q q1 q2 => by rw [o1 q (by have := hS.1; omega)]; exact hS.2.1 q q1 q2, hS.2.2⟩ (fun h => by cases h) hl
    rw [jq_reS] at w1
    exact w1
  exact key T0 hT0 X0
theorem jq_newI {n c0 sl : Nat} (Γ : jq_GI Z X (n, c0, sl, false) own cc fr lo rc rs) (hn0 : 0 < n) {N : Nat} {f : jq_M → Option α} {NI LI : Int} (hlY : ¬ jq_ly X) (hz : Z.1[n]? = some (0, N)) (hNI : (n : Int) = NI) (hLI : (N : Int) = LI) (hN : Nat.ble N 5000 = true) (w1 : Cond.arrayClass .int ∈ jq_T) (hrc1 : Nat.ble (c0 + 1) rc = true) (hrs1 : Nat.ble (sl + N) rs = true) (d : decode cc pc = .ok (.newarray .int, 2)) (kk : jq_GI Z X (n + 1, c0 + 1, sl + N, false) own cc fr lo rc rs → ∀ σ' : jq_M, jq_J (f σ') K (jq_V Z X (n + 1, c0 + 1, sl + N, false) σ' (pc + 2) L (jR NI :: st))) : jq_J (jq_lt (jq_al σ NI (fun _ => 0)) f) K (jq_V Z X (n, c0, sl, false) σ pc L (jI LI :: st)) := by
  rcases X with ⟨⟨p, l, e, R, s, m, args, below, meth, c⟩, A, Q, nL, b, D, cs, ss, ly⟩
  obtain ⟨⟨hx, hb, hml, hown, hts, hK, hlk, hA, hfr, hlo, hc, hs, hal, hzk, hSF, hAb, hNw⟩, hrc, hrs, hsz0, hin, hAall⟩ := Γ
  intro r hF hR hos hol hwf hly H locs ls hP hS hsz hl
  subst hNI
  subst hLI
  have hrc1 := Nat.le_of_ble_eq_true hrc1
  have hrs1 := Nat.le_of_ble_eq_true hrs1
  have hN5 := Nat.le_of_ble_eq_true hN
  have hos1 := jq_os_c.mp hos
  have hA1 : ∀ k : Nat, k < n + 1 → A (b + k) := fun k _ => hAall _ (Nat.le_add_right b k)
  have w := kk ⟨⟨hx, hb, hml, hown, hts, hK, hlk, hA1, hfr, hlo, (by show c0 + 1 ≤ _; omega), (by show sl + N ≤ _; omega), (fun h => by cases h), hzk, hSF, hAb, hNw⟩, hrc, hrs, (by show _ + (c0 + 1) = b + (n + 1); have : s.heap.size + c0 = b + n := hsz0; omega), hin, hAall⟩ _ r hF hR (jq_os_c.mpr ⟨trivial, hos1.2⟩) hol (jq_wf_al (f := fun _ => 0) hwf hz (fun j _ => by show jq_r 0; unfold jq_r; omega)) (fun h => absurd h hlY)
  intro T0 hT0 X0
  have hn : n < Z.1.length := (List.getElem?_eq_some_iff.mp hz).1
  have hsize : H.size = b + n := by
    rw [← hT0]
    exact jq_size X0 (by rw [hT0]; exact hP) hsz0 hn0 (by omega)
  have eN : (Int32.ofInt (N : Int)).toInt = N := by rw [jq_toInt, jq_w_id hos1.1]
  suffices key : W p l e R s m args below meth c H locs c0 sl Q (F0 m pc ls (jq_eS b ss (jI (N : Int) :: st))) from key T0 hT0 X0
  refine va_newaK (N := N) hx hb (atype := .int) (hts _ w1) rfl d rfl ?_ ?_ ?_ (by omega) (by omega) hsize (fun H1 cA e1 z1 o1 hAr hNm => ?_)
  · intro h
    have := Int32.lt_iff_toInt_lt.mp h
    rw [eN] at this
    simp at this
    omega
  · show (Int32.ofInt (N : Int)).toInt.toNat = N
    rw [eN]
    omega
  · show N * componentBytes (newarray.typeOf .int) ≤ _
    have : componentBytes (newarray.typeOf .int) ≤ 8 := by decide
    have := Nat.mul_le_mul hN5 this
    omega
  · have hcA : cA = cs 0 := by
      have h2 : s.vm.findClass ("[" ++ (FieldType.int).toString) = some (cs 0) := (hK.2 0 _ rfl).2
      exact Option.some.inj (hNm.symm.trans h2)
    subst hcA
    have hk : ∀ (k : Nat) (x : Nat × va_E), (jq_ws b cs Z n σ)[k]? = some x → H1[x.1]? = H[x.1]? := fun k x hx => o1 x.1 (by rw [← hsize]; exact (hP k x hx).lt)
    have hP1 : va_P D vwCl (jq_ws b cs Z (n + 1) (jq_al σ n (fun _ => 0))) H1 := by
      rw [← jq_ws_push hz]
      refine (hP.kept hk).app (fun k x hx1 => ?_)
      have hz0 : k < 1 := (List.getElem?_eq_some_iff.mp hx1).1
      obtain rfl : k = 0 := by omega
      cases hx1
      exact e1
    have w1 := w H1 locs ls hP1 ⟨by rw [z1]; have := hS.1; omega, fun q q1 q2 => by rw [o1 q (by have := hS.1; omega)]; exact hS.2.1 q q1 q2, hS.2.2⟩ (fun h => by cases h) hl
    rw [jq_reS] at w1
    exact w1
theorem jq_newL {n c0 sl : Nat} (Γ : jq_GI Z X (n, c0, sl, false) own cc fr lo rc rs) (hn0 : 0 < n) {N : Nat} {f : jq_M → Option α} {NI LI : Int} (hlY : ¬ jq_ly X) (hz : Z.1[n]? = some (1, N)) (hNI : (n : Int) = NI) (hLI : (N : Int) = LI) (hN : Nat.ble N 5000 = true) (w1 : Cond.arrayClass .long ∈ jq_T) (hrc1 : Nat.ble (c0 + 1) rc = true) (hrs1 : Nat.ble (sl + N) rs = true) (d : decode cc pc = .ok (.newarray .long, 2)) (kk : jq_GI Z X (n + 1, c0 + 1, sl + N, false) own cc fr lo rc rs → ∀ σ' : jq_M, jq_J (f σ') K (jq_V Z X (n + 1, c0 + 1, sl + N, false) σ' (pc + 2) L (jR NI :: st))) : jq_J (jq_lt (jq_al σ NI (fun _ => 0)) f) K (jq_V Z X (n, c0, sl, false) σ pc L (jI LI :: st)) := by
  rcases X with ⟨⟨p, l, e, R, s, m, args, below, meth, c⟩, A, Q, nL, b, D, cs, ss, ly⟩
  obtain ⟨⟨hx, hb, hml, hown, hts, hK, hlk, hA, hfr, hlo, hc, hs, hal, hzk, hSF, hAb, hNw⟩, hrc, hrs, hsz0, hin, hAall⟩ := Γ
  intro r hF hR hos hol hwf hly H locs ls hP hS hsz hl
  subst hNI
  subst hLI
  have hrc1 := Nat.le_of_ble_eq_true hrc1
  have hrs1 := Nat.le_of_ble_eq_true hrs1
  have hN5 := Nat.le_of_ble_eq_true hN
  have hos1 := jq_os_c.mp hos
  have hA1 : ∀ k : Nat, k < n + 1 → A (b + k) := fun k _ => hAall _ (Nat.le_add_right b k)
  have w := kk ⟨⟨hx, hb, hml, hown, hts, hK, hlk, hA1, hfr, hlo, (by show c0 + 1 ≤ _; omega), (by show sl + N ≤ _; omega), (fun h => by cases h), hzk, hSF, hAb, hNw⟩, hrc, hrs, (by show _ + (c0 + 1) = b + (n + 1); have : s.heap.size + c0 = b + n := hsz0; omega), hin, hAall⟩ _ r hF hR (jq_os_c.mpr ⟨trivial, hos1.2⟩) hol (jq_wf_al (f := fun _ => 0) hwf hz (fun j _ => by show jq_rl 0; unfold jq_rl; omega)) (fun h => absurd h hlY)
  intro T0 hT0 X0
  have hn : n < Z.1.length := (List.getElem?_eq_some_iff.mp hz).1
  have hsize : H.size = b + n := by
    rw [← hT0]
    exact jq_size X0 (by rw [hT0]; exact hP) hsz0 hn0 (by omega)
  have eN : (Int32.ofInt (N : Int)).toInt = N := by rw [jq_toInt, jq_w_id hos1.1]
  suffices key : W p l e R s m args below meth c H locs c0 sl Q (F0 m pc ls (jq_eS b ss (jI (N : Int) :: st))) from key T0 hT0 X0
  refine va_newaK (N := N) hx hb (atype := .long) (hts _ w1) rfl d rfl ?_ ?_ ?_ (by omega) (by omega) hsize (fun H1 cA e1 z1 o1 hAr hNm => ?_)
  · intro h
    have := Int32.lt_iff_toInt_lt.mp h
    rw [eN] at this
    simp at this
    omega
  · show (Int32.ofInt (N : Int)).toInt.toNat = N
    rw [eN]
    omega
  · show N * componentBytes (newarray.typeOf .long) ≤ _
    have : componentBytes (newarray.typeOf .long) ≤ 8 := by decide
    have := Nat.mul_le_mul hN5 this
    omega
  · have hcA : cA = cs 1 := by
      have h2 : s.vm.findClass ("[" ++ (FieldType.long).toString) = some (cs 1) := (hK.2 1 _ rfl).2
      exact Option.some.inj (hNm.symm.trans h2)
    subst hcA
    have hk : ∀ (k : Nat) (x : Nat × va_E), (jq_ws b cs Z n σ)[k]? = some x → H1[x.1]? = H[x.1]? := fun k x hx => o1 x.1 (by rw [← hsize]; exact (hP k x hx).lt)
    have hP1 : va_P D vwCl (jq_ws b cs Z (n + 1) (jq_al σ n (fun _ => 0))) H1 := by
      rw [← jq_ws_push hz]
      refine (hP.kept hk).app (fun k x hx1 => ?_)
      have hz0 : k < 1 := (List.getElem?_eq_some_iff.mp hx1).1
      obtain rfl : k = 0 := by omega
      cases hx1
      exact e1
    have w1 := w H1 locs ls hP1 ⟨by rw [z1]; have := hS.1; omega, fun q q1 q2 => by rw [o1 q (by have := hS.1; omega)]; exact hS.2.1 q q1 q2, hS.2.2⟩ (fun h => by cases h) hl
    rw [jq_reS] at w1
    exact w1
theorem jq_newB {n c0 sl : Nat} (Γ : jq_GI Z X (n, c0, sl, false) own cc fr lo rc rs) (hn0 : 0 < n) {N : Nat} {f : jq_M → Option α} {NI LI : Int} (hlY : ¬ jq_ly X) (hz : Z.1[n]? = some (2, N)) (hNI : (n : Int) = NI) (hLI : (N : Int) = LI) (hN : Nat.ble N 5000 = true) (w1 : Cond.arrayClass .byte ∈ jq_T) (hrc1 : Nat.ble (c0 + 1) rc = true) (hrs1 : Nat.ble (sl + N) rs = true) (d : decode cc pc = .ok (.newarray .byte, 2)) (kk : jq_GI Z X (n + 1, c0 + 1, sl + N, false) own cc fr lo rc rs → ∀ σ' : jq_M, jq_J (f σ') K (jq_V Z X (n + 1, c0 + 1, sl + N, false) σ' (pc + 2) L (jR NI :: st))) : jq_J (jq_lt (jq_al σ NI (fun _ => 0)) f) K (jq_V Z X (n, c0, sl, false) σ pc L (jI LI :: st)) := by
  rcases X with ⟨⟨p, l, e, R, s, m, args, below, meth, c⟩, A, Q, nL, b, D, cs, ss, ly⟩
  obtain ⟨⟨hx, hb, hml, hown, hts, hK, hlk, hA, hfr, hlo, hc, hs, hal, hzk, hSF, hAb, hNw⟩, hrc, hrs, hsz0, hin, hAall⟩ := Γ
  intro r hF hR hos hol hwf hly H locs ls hP hS hsz hl
  subst hNI
  subst hLI
  have hrc1 := Nat.le_of_ble_eq_true hrc1
  have hrs1 := Nat.le_of_ble_eq_true hrs1
  have hN5 := Nat.le_of_ble_eq_true hN
  have hos1 := jq_os_c.mp hos
  have hA1 : ∀ k : Nat, k < n + 1 → A (b + k) := fun k _ => hAall _ (Nat.le_add_right b k)
  have w := kk ⟨⟨hx, hb, hml, hown, hts, hK, hlk, hA1, hfr, hlo, (by show c0 + 1 ≤ _; omega), (by show sl + N ≤ _; omega), (fun h => by cases h), hzk, hSF, hAb, hNw⟩, hrc, hrs, (by show _ + (c0 + 1) = b + (n + 1); have : s.heap.size + c0 = b + n := hsz0; omega), hin, hAall⟩ _ r hF hR (jq_os_c.mpr ⟨trivial, hos1.2⟩) hol (jq_wf_al (f := fun _ => 0) hwf hz (fun j _ => by show (-128 : Int) ≤ 0 ∧ (0 : Int) < 128; omega)) (fun h => absurd h hlY)
  intro T0 hT0 X0
  have hn : n < Z.1.length := (List.getElem?_eq_some_iff.mp hz).1
  have hsize : H.size = b + n := by
    rw [← hT0]
    exact jq_size X0 (by rw [hT0]; exact hP) hsz0 hn0 (by omega)
  have eN : (Int32.ofInt (N : Int)).toInt = N := by rw [jq_toInt, jq_w_id hos1.1]
  suffices key : W p l e R s m args below meth c H locs c0 sl Q (F0 m pc ls (jq_eS b ss (jI (N : Int) :: st))) from key T0 hT0 X0
  refine va_newaK (N := N) hx hb (atype := .byte) (hts _ w1) rfl d rfl ?_ ?_ ?_ (by omega) (by omega) hsize (fun H1 cA e1 z1 o1 hAr hNm => ?_)
  · intro h
    have := Int32.lt_iff_toInt_lt.mp h
    rw [eN] at this
    simp at this
    omega
  · show (Int32.ofInt (N : Int)).toInt.toNat = N
    rw [eN]
    omega
  · show N * componentBytes (newarray.typeOf .byte) ≤ _
    have : componentBytes (newarray.typeOf .byte) ≤ 8 := by decide
    have := Nat.mul_le_mul hN5 this
    omega
  · have hcA : cA = cs 2 := by
      have h2 : s.vm.findClass ("[" ++ (FieldType.byte).toString) = some (cs 2) := (hK.2 2 _ rfl).2
      exact Option.some.inj (hNm.symm.trans h2)
    subst hcA
    have hk : ∀ (k : Nat) (x : Nat × va_E), (jq_ws b cs Z n σ)[k]? = some x → H1[x.1]? = H[x.1]? := fun k x hx => o1 x.1 (by rw [← hsize]; exact (hP k x hx).lt)
    have hP1 : va_P D vwCl (jq_ws b cs Z (n + 1) (jq_al σ n (fun _ => 0))) H1 := by
      rw [← jq_ws_push hz]
      refine (hP.kept hk).app (fun k x hx1 => ?_)
      have hz0 : k < 1 := (List.getElem?_eq_some_iff.mp hx1).1
      obtain rfl : k = 0 := by omega
      cases hx1
      exact e1
    have w1 := w H1 locs ls hP1 ⟨by rw [z1]; have := hS.1; omega, fun q q1 q2 => by rw [o1 q (by have := hS.1; omega)]; exact hS.2.1 q q1 q2, hS.2.2⟩ (fun h => by cases h) hl
    rw [jq_reS] at w1
    exact w1
theorem jq_aput (Γ : jq_GI Z X z own cc fr lo rc rs) {k v : Int} {ix ci N j : Nat} {fin : Bool} {J : Int} {f : jq_M → Option α} (hlY : ¬ jq_ly X) (ha : jq_at Z z k (ci + 10, N)) (fl : jq_fl own ix ci N j fin) (ht : jq_ft ci j = 2) (hJ : (j : Int) = J) (hown2 : own = (vwCl.getD ci ("", fun _ => ("", "", "", false), 0)).1) (d : decode cc pc = .ok (.putfield ix, 3)) (kk : ∀ σ' : jq_M, jq_J (f σ') K (jq_V Z X z σ' (pc + 3) L st)) : jq_J (jq_lt (jq_st σ k J v) f) K (jq_V Z X z σ pc L (jR v :: jR k :: st)) := by
  rcases X with ⟨⟨p, l, e, R, s, m, args, below, meth, c⟩, A, Q, nL, b, D, cs, ss, ly⟩
  obtain ⟨⟨hx, hb, hml, hown, hts, hK, hlk, hA, hfr, hlo, hc, hs, hal, hzk, hSF, hAb, hNw⟩, hrc, hrs, hsz0, hin, hAall⟩ := Γ
  intro r hF hR hos hol hwf hly H locs ls hP hS hsz hl
  obtain ⟨n, rfl, hn, hz⟩ := ha
  subst hJ
  have hj : j < N := by obtain ⟨_, _, _, _, hj, _⟩ := fl; exact hj
  have hos1 := jq_os_c.mp hos
  have hos2 := jq_os_c.mp hos1.2
  have hty : jq_ty (ci + 10, N) j = 2 := by rw [jq_ty_o]; exact ht
  have w := kk _ r hF hR hos2.2 hol (jq_wf_st (v := v) hwf hz (by rw [hty]; exact trivial)) (fun h => absurd h hlY)
  rw [show jq_eS b ss (jR v :: jR (n : Int) :: st) = jq_fv b (jq_ft ci j) v :: .ref (b + n) :: jq_eS b ss st by rw [ht]; exact congrArg (fun q => jq_e b ss (jR v) :: q) (jq_reS b ss n st)]
  exact jq_put0 hx hb hts hown hK hA hP hS hn hz fl (Or.inr ⟨hin, hown2⟩) (fun h => by rw [ht] at h; cases h) d (fun H1 locs1 hP1 hS1 hz1 => w H1 locs1 ls hP1 hS1 (fun q => by rw [hz1]; exact hsz q) hl)
theorem jq_ageT (Γ : jq_G Z X z own cc fr lo) {k : Int} {ix ci N j : Nat} {fin : Bool} {J v : Int} (ha : jq_at Z z k (ci + 10, N)) (fl : jq_fl own ix ci N j fin) (ht : jq_ft ci j = 2) (hJ : (j : Int) = J) (d : decode cc pc = .ok (.getfield ix, 3)) (kk : jq_J F K (jq_V Z X z σ (pc + 3) L (jR v :: st))) : jq_J (if σ k J = v then F else none) K (jq_V Z X z σ pc L (jR k :: st)) := by
  refine jq_split (fun h => ?_) (fun _ => fun r hF => by cases hF)
  refine jq_getM Γ ha fl ht hJ d ?_
  rw [h]
  exact kk
theorem jq_oinit (Γ : jq_G Z X z own cc fr lo) {ix : Nat} {k : Int} (hk : 0 ≤ k) (w1 : Cond.methodLink own ix Lib.objectInit ∈ jq_T) (w2 : Cond.instanceMethod Lib.objectInit ∈ jq_T) (w3 : Cond.code Lib.objectInit ⟨#[0xb1]⟩ 1 none ∈ jq_T) (hfr1 : Nat.ble 1 fr = true) (hlo1 : Nat.ble ((st.map jq_c).sum + 12) lo = true) (d : decode cc pc = .ok (.invokespecial ix, 3)) (kk : jq_J F K (jq_V Z X z σ (pc + 3) L st)) : jq_J F K (jq_V Z X z σ pc L (jR k :: st)) := by
  rcases X with ⟨⟨p, l, e, R, s, m, args, below, meth, c⟩, A, Q, nL, b, D, cs, ss, ly⟩
  obtain ⟨hx, hb, hml, hown, hts, hK, hlk, hA, hfr, hlo, hc, hs, hal, hzk, hSF, hAb, hNw⟩ := Γ
  intro r hF hR hos hol hwf hly H locs ls hP hS hsz hl
  have w := kk r hF hR (jq_os_c.mp hos).2 hol hwf hly H locs ls hP hS hsz hl
  have e1 : k = (k.toNat : Int) := by omega
  rw [e1, jq_reS]
  exact W.objInit hx hb hown (hts _ w1) (hts _ w2) (hts _ w3) rfl (by rw [hml]; exact hl.1) rfl d (Nat.le_trans (Nat.le_of_ble_eq_true hfr1) hfr) (by
    show 2 * 0 + ((jq_eS b ss st).map fun v => v.category).sum + 12 ≤ R.locals
    rw [jq_eS_cat]
    have := Nat.le_of_ble_eq_true hlo1
    omega) w
theorem jq_anew3 {n c0 sl : Nat} (Γ : jq_GI Z X (n, c0, sl, false) own cc fr lo rc rs) (hn0 : 0 < n) {N ix : Nat} {f : jq_M → Option α} {NI LI : Int} (hlY : ¬ jq_ly X) (hz : Z.1[n]? = some (3, N)) (hNI : (n : Int) = NI) (hLI : (N : Int) = LI) (hN : Nat.ble N 5000 = true) (w1 : Cond.classLink own ix "StandTable$Tray" ∈ jq_T) (hrc1 : Nat.ble (c0 + 1) rc = true) (hrs1 : Nat.ble (sl + N) rs = true) (d : decode cc pc = .ok (.anewarray ix, 3)) (hAO : jq_AO X) (kk : jq_GI Z X (n + 1, c0 + 1, sl + N, false) own cc fr lo rc rs → ∀ σ' : jq_M, jq_J (f σ') K (jq_V Z X (n + 1, c0 + 1, sl + N, false) σ' (pc + 3) L (jR NI :: st))) : jq_J (jq_lt (jq_al σ NI (fun _ => -1)) f) K (jq_V Z X (n, c0, sl, false) σ pc L (jI LI :: st)) := by
  rcases X with ⟨⟨p, l, e, R, s, m, args, below, meth, c⟩, A, Q, nL, b, D, cs, ss, ly⟩
  obtain ⟨⟨hx, hb, hml, hown, hts, hK, hlk, hA, hfr, hlo, hc, hs, hal, hzk, hSF, hAb, hNw⟩, hrc, hrs, hsz0, hin, hAall⟩ := Γ
  intro r hF hR hos hol hwf hly H locs ls hP hS hsz hl
  subst hNI
  subst hLI
  have hrc1 := Nat.le_of_ble_eq_true hrc1
  have hrs1 := Nat.le_of_ble_eq_true hrs1
  have hN5 := Nat.le_of_ble_eq_true hN
  have hos1 := jq_os_c.mp hos
  have hA1 : ∀ k : Nat, k < n + 1 → A (b + k) := fun k _ => hAall _ (Nat.le_add_right b k)
  have w := kk ⟨⟨hx, hb, hml, hown, hts, hK, hlk, hA1, hfr, hlo, (by show c0 + 1 ≤ _; omega), (by show sl + N ≤ _; omega), (fun h => by cases h), hzk, hSF, hAb, hNw⟩, hrc, hrs, (by show _ + (c0 + 1) = b + (n + 1); have : s.heap.size + c0 = b + n := hsz0; omega), hin, hAall⟩ _ r hF hR (jq_os_c.mpr ⟨trivial, hos1.2⟩) hol (jq_wf_al (f := fun _ => -1) hwf hz (fun j _ => trivial)) (fun h => absurd h hlY)
  intro T0 hT0 X0
  have hn : n < Z.1.length := (List.getElem?_eq_some_iff.mp hz).1
  have hsize : H.size = b + n := by
    rw [← hT0]
    exact jq_size X0 (by rw [hT0]; exact hP) hsz0 hn0 (by omega)
  have eN : (Int32.ofInt (N : Int)).toInt = N := by rw [jq_toInt, jq_w_id hos1.1]
  have eN2 : (Int32.ofInt (N : Int)).toNatClampNeg = N := by
    show (Int32.ofInt (N : Int)).toInt.toNat = N
    rw [eN]
    omega
  suffices key : W p l e R s m args below meth c H locs c0 sl Q (F0 m pc ls (jq_eS b ss (jI (N : Int) :: st))) from key T0 hT0 X0
  refine W.anew hx hb hown (hts _ w1) hAO.1 rfl d rfl ?_ ?_ (by omega) (by rw [eN2]; omega) (fun cA kA comp g1 g2 g3 g4 => ?_)
  · intro h
    have := Int32.lt_iff_toInt_lt.mp h
    rw [eN] at this
    simp at this
    omega
  · rw [eN2]
    omega
  · have hcA : cA = cs 3 := by
      obtain ⟨_, _, _, _, _, h2⟩ := (hK.2 3 _ rfl).2
      exact Option.some.inj (g1.symm.trans h2)
    subst hcA
    rw [eN2]
    have hk : ∀ (k : Nat) (x : Nat × va_E), (jq_ws b cs Z n σ)[k]? = some x → (H.push { cls := cs 3, slots := Array.replicate N .null, vm := .none })[x.1]? = H[x.1]? := fun k x hx => by
      have := (hP k x hx).lt
      rw [Array.getElem?_push, if_neg (by omega)]
    have hP1 : va_P D vwCl (jq_ws b cs Z (n + 1) (jq_al σ n (fun _ => -1))) (H.push { cls := cs 3, slots := Array.replicate N .null, vm := .none }) := by
      rw [← jq_ws_push hz]
      refine (hP.kept hk).app (fun k x hx1 => ?_)
      have hz0 : k < 1 := (List.getElem?_eq_some_iff.mp hx1).1
      obtain rfl : k = 0 := by omega
      cases hx1
      show (H.push _)[b + n]? = some (vp_cell _ _)
      rw [← hsize, Array.getElem?_push_size, arrV_new]
      rfl
    have w1 := w _ locs ls hP1 ⟨by rw [Array.size_push]; have := hS.1; omega, fun q q1 q2 => by rw [Array.getElem?_push, if_neg (by have := hS.1; omega)]; exact hS.2.1 q q1 q2, hS.2.2⟩ (fun h => by cases h) hl
    rw [jq_reS, ← hsize] at w1
    exact w1
theorem jq_aast3 (Γ : jq_G Z X z own cc fr lo) {k i v : Int} {n ci M : Nat} {N : Int} {f : jq_M → Option α} (hz4 : z.2.2.2 = false) (hlY : ¬ jq_ly X) (ha : jq_at Z z k (3, n)) (hN : (n : Int) = N) (hv : jq_at Z z v (ci + 10, M)) (hci : (vwCl[ci]?).map (fun q => q.1) = some "StandTable$Tray") (d : decode cc pc = .ok (.aastore, 1)) (kk : ∀ σ' : jq_M, jq_J (f σ') K (jq_V Z X z σ' (pc + 1) L st)) : jq_J ((jq_sa σ k N i v).bind f) K (jq_V Z X z σ pc L (jR v :: jI i :: jR k :: st)) := by
  rcases X with ⟨⟨p, l, e, R, s, m, args, below, meth, c⟩, A, Q, nL, b, D, cs, ss, ly⟩
  obtain ⟨hx, hb, hml, hown, hts, hK, hlk, hA, hfr, hlo, hc, hs, hal, hzk, hSF, hAb, hNw⟩ := Γ
  intro r hF hR hos hol hwf hly H locs ls hP hS hsz hl
  obtain ⟨q, rfl, hq, hz⟩ := ha
  obtain ⟨qv, rfl, hqv, hzv⟩ := hv
  subst hN
  unfold jq_sa at hF
  by_cases hi : 0 ≤ i ∧ i < (n : Int)
  · rw [if_pos hi] at hF
    have hos1 := jq_os_c.mp hos
    have hos2 := jq_os_c.mp hos1.2
    obtain ⟨hin, hcl⟩ := jq_ix hi hos2.1
    have ei : ((i.toNat : Nat) : Int) = i := by omega
    have hwf2 := jq_wf_st (j := i.toNat) (v := (qv : Int)) hwf hz trivial
    rw [ei] at hwf2
    have w := kk _ r hF hR (jq_os_c.mp hos2.2).2 hol hwf2 (fun h => absurd h hlY)
    rw [show jq_eS b ss (jR (qv : Int) :: jI i :: jR (q : Int) :: st) = .ref (b + qv) :: .int (Int32.ofInt i) :: .ref (b + q) :: jq_eS b ss st by rw [jq_reS]; exact congrArg (fun v' => Value.ref (b + qv) :: jq_e b ss (jI i) :: v') (jq_reS b ss q st)]
    have he := jq_ws_at (b := b) (cs := cs) (σ := σ) hq hz
    have hev := jq_ws_at (b := b) (cs := cs) (σ := σ) hqv hzv
    rw [jq_en_o] at hev
    obtain ⟨⟨C9, T9, N9⟩, hqq, hq1⟩ : ∃ qq, vwCl[ci]? = some qq ∧ qq.1 = "StandTable$Tray" := by
      cases h : vwCl[ci]? with
      | none => rw [h] at hci; cases hci
      | some qq => rw [h] at hci; exact ⟨qq, rfl, Option.some.inj hci⟩
    have hq1 : C9 = "StandTable$Tray" := hq1
    subst hq1
    have hz3 : (0 : Nat) ≤ 0 := Nat.le_refl 0
    refine va_astq hx hb hK hP (jq_ws_D hA) hS q 3 qv ci (r := ("StandTable$Tray", T9, N9)) he rfl hev hqq hin d (fun H1 locs1 hP1 hD1 hS1 => ?_)
    rw [jq_ws_set (σ' := jq_st σ q i qv) hq hz ?_ (fun q' hq' => jq_st_ne hq')] at hP1
    · exact w H1 locs1 ls hP1 hS1 (fun h => by rw [hz4] at h; cases h) hl
    · show (Sum.inl _ : va_E) = Sum.inl _
      congr 7
      funext j
      rw [hcl]
      unfold va_up jq_st
      by_cases hj : j = i.toNat
      · subst hj
        simp [ei, jq_f]
      · have : ¬ ((j : Int) = i) := by omega
        simp [hj, this]
  · rw [if_neg hi] at hF
    cases hF
theorem jq_anew4 {n c0 sl : Nat} (Γ : jq_GI Z X (n, c0, sl, false) own cc fr lo rc rs) (hn0 : 0 < n) {N ix : Nat} {f : jq_M → Option α} {NI LI : Int} (hlY : ¬ jq_ly X) (hz : Z.1[n]? = some (4, N)) (hNI : (n : Int) = NI) (hLI : (N : Int) = LI) (hN : Nat.ble N 5000 = true) (w1 : Cond.classLink own ix "StandTable$Committee" ∈ jq_T) (hrc1 : Nat.ble (c0 + 1) rc = true) (hrs1 : Nat.ble (sl + N) rs = true) (d : decode cc pc = .ok (.anewarray ix, 3)) (hAO : jq_AO X) (kk : jq_GI Z X (n + 1, c0 + 1, sl + N, false) own cc fr lo rc rs → ∀ σ' : jq_M, jq_J (f σ') K (jq_V Z X (n + 1, c0 + 1, sl + N, false) σ' (pc + 3) L (jR NI :: st))) : jq_J (jq_lt (jq_al σ NI (fun _ => -1)) f) K (jq_V Z X (n, c0, sl, false) σ pc L (jI LI :: st)) := by
  rcases X with ⟨⟨p, l, e, R, s, m, args, below, meth, c⟩, A, Q, nL, b, D, cs, ss, ly⟩
  obtain ⟨⟨hx, hb, hml, hown, hts, hK, hlk, hA, hfr, hlo, hc, hs, hal, hzk, hSF, hAb, hNw⟩, hrc, hrs, hsz0, hin, hAall⟩ := Γ
  intro r hF hR hos hol hwf hly H locs ls hP hS hsz hl
  subst hNI
  subst hLI
  have hrc1 := Nat.le_of_ble_eq_true hrc1
  have hrs1 := Nat.le_of_ble_eq_true hrs1
  have hN5 := Nat.le_of_ble_eq_true hN
  have hos1 := jq_os_c.mp hos
  have hA1 : ∀ k : Nat, k < n + 1 → A (b + k) := fun k _ => hAall _ (Nat.le_add_right b k)
  have w := kk ⟨⟨hx, hb, hml, hown, hts, hK, hlk, hA1, hfr, hlo, (by show c0 + 1 ≤ _; omega), (by show sl + N ≤ _; omega), (fun h => by cases h), hzk, hSF, hAb, hNw⟩, hrc, hrs, (by show _ + (c0 + 1) = b + (n + 1); have : s.heap.size + c0 = b + n := hsz0; omega), hin, hAall⟩ _ r hF hR (jq_os_c.mpr ⟨trivial, hos1.2⟩) hol (jq_wf_al (f := fun _ => -1) hwf hz (fun j _ => trivial)) (fun h => absurd h hlY)
  intro T0 hT0 X0
  have hn : n < Z.1.length := (List.getElem?_eq_some_iff.mp hz).1
  have hsize : H.size = b + n := by
    rw [← hT0]
    exact jq_size X0 (by rw [hT0]; exact hP) hsz0 hn0 (by omega)
  have eN : (Int32.ofInt (N : Int)).toInt = N := by rw [jq_toInt, jq_w_id hos1.1]
  have eN2 : (Int32.ofInt (N : Int)).toNatClampNeg = N := by
    show (Int32.ofInt (N : Int)).toInt.toNat = N
    rw [eN]
    omega
  suffices key : W p l e R s m args below meth c H locs c0 sl Q (F0 m pc ls (jq_eS b ss (jI (N : Int) :: st))) from key T0 hT0 X0
  refine W.anew hx hb hown (hts _ w1) hAO.2 rfl d rfl ?_ ?_ (by omega) (by rw [eN2]; omega) (fun cA kA comp g1 g2 g3 g4 => ?_)
  · intro h
    have := Int32.lt_iff_toInt_lt.mp h
    rw [eN] at this
    simp at this
    omega
  · rw [eN2]
    omega
  · have hcA : cA = cs 4 := by
      obtain ⟨_, _, _, _, _, h2⟩ := (hK.2 4 _ rfl).2
      exact Option.some.inj (g1.symm.trans h2)
    subst hcA
    rw [eN2]
    have hk : ∀ (k : Nat) (x : Nat × va_E), (jq_ws b cs Z n σ)[k]? = some x → (H.push { cls := cs 4, slots := Array.replicate N .null, vm := .none })[x.1]? = H[x.1]? := fun k x hx => by
      have := (hP k x hx).lt
      rw [Array.getElem?_push, if_neg (by omega)]
    have hP1 : va_P D vwCl (jq_ws b cs Z (n + 1) (jq_al σ n (fun _ => -1))) (H.push { cls := cs 4, slots := Array.replicate N .null, vm := .none }) := by
      rw [← jq_ws_push hz]
      refine (hP.kept hk).app (fun k x hx1 => ?_)
      have hz0 : k < 1 := (List.getElem?_eq_some_iff.mp hx1).1
      obtain rfl : k = 0 := by omega
      cases hx1
      show (H.push _)[b + n]? = some (vp_cell _ _)
      rw [← hsize, Array.getElem?_push_size, arrV_new]
      rfl
    have w1 := w _ locs ls hP1 ⟨by rw [Array.size_push]; have := hS.1; omega, fun q q1 q2 => by rw [Array.getElem?_push, if_neg (by have := hS.1; omega)]; exact hS.2.1 q q1 q2, hS.2.2⟩ (fun h => by cases h) hl
    rw [jq_reS, ← hsize] at w1
    exact w1
theorem jq_aast4 (Γ : jq_G Z X z own cc fr lo) {k i v : Int} {n ci M : Nat} {N : Int} {f : jq_M → Option α} (hz4 : z.2.2.2 = false) (hlY : ¬ jq_ly X) (ha : jq_at Z z k (4, n)) (hN : (n : Int) = N) (hv : jq_at Z z v (ci + 10, M)) (hci : (vwCl[ci]?).map (fun q => q.1) = some "StandTable$Committee") (d : decode cc pc = .ok (.aastore, 1)) (kk : ∀ σ' : jq_M, jq_J (f σ') K (jq_V Z X z σ' (pc + 1) L st)) : jq_J ((jq_sa σ k N i v).bind f) K (jq_V Z X z σ pc L (jR v :: jI i :: jR k :: st)) := by
  rcases X with ⟨⟨p, l, e, R, s, m, args, below, meth, c⟩, A, Q, nL, b, D, cs, ss, ly⟩
  obtain ⟨hx, hb, hml, hown, hts, hK, hlk, hA, hfr, hlo, hc, hs, hal, hzk, hSF, hAb, hNw⟩ := Γ
  intro r hF hR hos hol hwf hly H locs ls hP hS hsz hl
  obtain ⟨q, rfl, hq, hz⟩ := ha
  obtain ⟨qv, rfl, hqv, hzv⟩ := hv
  subst hN
  unfold jq_sa at hF
  by_cases hi : 0 ≤ i ∧ i < (n : Int)
  · rw [if_pos hi] at hF
    have hos1 := jq_os_c.mp hos
    have hos2 := jq_os_c.mp hos1.2
    obtain ⟨hin, hcl⟩ := jq_ix hi hos2.1
    have ei : ((i.toNat : Nat) : Int) = i := by omega
    have hwf2 := jq_wf_st (j := i.toNat) (v := (qv : Int)) hwf hz trivial
    rw [ei] at hwf2
    have w := kk _ r hF hR (jq_os_c.mp hos2.2).2 hol hwf2 (fun h => absurd h hlY)
    rw [show jq_eS b ss (jR (qv : Int) :: jI i :: jR (q : Int) :: st) = .ref (b + qv) :: .int (Int32.ofInt i) :: .ref (b + q) :: jq_eS b ss st by rw [jq_reS]; exact congrArg (fun v' => Value.ref (b + qv) :: jq_e b ss (jI i) :: v') (jq_reS b ss q st)]
    have he := jq_ws_at (b := b) (cs := cs) (σ := σ) hq hz
    have hev := jq_ws_at (b := b) (cs := cs) (σ := σ) hqv hzv
    rw [jq_en_o] at hev
    obtain ⟨⟨C9, T9, N9⟩, hqq, hq1⟩ : ∃ qq, vwCl[ci]? = some qq ∧ qq.1 = "StandTable$Committee" := by
      cases h : vwCl[ci]? with
      | none => rw [h] at hci; cases hci
      | some qq => rw [h] at hci; exact ⟨qq, rfl, Option.some.inj hci⟩
    have hq1 : C9 = "StandTable$Committee" := hq1
    subst hq1
    have hz3 : (0 : Nat) ≤ 0 := Nat.le_refl 0
    refine va_astq hx hb hK hP (jq_ws_D hA) hS q 4 qv ci (r := ("StandTable$Committee", T9, N9)) he rfl hev hqq hin d (fun H1 locs1 hP1 hD1 hS1 => ?_)
    rw [jq_ws_set (σ' := jq_st σ q i qv) hq hz ?_ (fun q' hq' => jq_st_ne hq')] at hP1
    · exact w H1 locs1 ls hP1 hS1 (fun h => by rw [hz4] at h; cases h) hl
    · show (Sum.inl _ : va_E) = Sum.inl _
      congr 7
      funext j
      rw [hcl]
      unfold va_up jq_st
      by_cases hj : j = i.toNat
      · subst hj
        simp [ei, jq_f]
      · have : ¬ ((j : Int) = i) := by omega
        simp [hj, this]
  · rw [if_neg hi] at hF
    cases hF
def jq_PI (Z : jq_Z) (b : Nat) (D : va_G) (cs : Nat → ClassId) (ss : jq_S) (n : Nat) (avs : List jq_A) (σ : jq_M) : Array Value → State → Prop := fun v U => v = (jq_eS b ss avs).toArray ∧ va_P D vwCl (jq_ws b cs Z n σ) U.heap ∧ va_K D vwCl (jq_tys cs) U ∧ jq_wf Z n σ ∧ jq_os avs ∧ U.heap.size = b + n ∧ jq_zok Z ∧ jq_SF Z ss (fun q => b ≤ q) U ∧ jq_N U ∧ va_AO "StandTable$Tray" U ∧ va_AO "StandTable$Committee" U
def jq_QI (Z : jq_Z) (b : Nat) (D : va_G) (cs : Nat → ClassId) (n' : Nat) (σ' : jq_M) : Array Value → State → Outcome → State → Prop := fun _ st oc t => oc = .returned none ∧ va_P D vwCl (jq_ws b cs Z n' σ') t.heap ∧ jq_wf Z n' σ' ∧ va_F (fun q => b ≤ q) st t
/-- a constructor's contract: n objects stand before it, n' behind it -/
def jq_MI (Z : jq_Z) (y : MethodName) (cc : ByteArray) (maxL : Nat) (fr lo rc rs : Nat) (avs : List jq_A) (n : Nat) (σ : jq_M) (n' : Nat) (σ' : jq_M) : Prop :=
  ∀ (l : Launch) (b : Nat) (D : va_G) (cs : Nat → ClassId) (ss : jq_S), Met l y (Cond.code y cc maxL none :: jq_T) { frames := fr, cells := rc, slots := rs, locals := lo } (jq_PI Z b D cs ss n avs σ) (jq_QI Z b D cs n' σ') rc rs (fun q => b ≤ q)
theorem jq_blindI (b : Nat) (D : va_G) (cs : Nat → ClassId) (ss : jq_S) (n : Nat) (avs : List jq_A) : FrameBlind (jq_PI Z b D cs ss n avs σ) := by
  intro a U g mk h
  obtain ⟨h1, h2, h3, h4, h5, h6, h7, h8, h9, h10, h11⟩ := h
  exact ⟨h1, h2, va_K.moved (u := U) (U := U.calling g mk a) (Vm.Alike.refl U.vm) h3, h4, h5, h6, h7, jq_SF_moved (u := U) (U := U.calling g mk a) rfl rfl h8, jq_N_same (u := U) (U := U.calling g mk a) rfl h9, va_AO.moved (u := U) (U := U.calling g mk a) (Vm.Alike.refl U.vm) h10, va_AO.moved (u := U) (U := U.calling g mk a) (Vm.Alike.refl U.vm) h11⟩
def jq_RI (Z : jq_Z) (X : jq_X) (rc rs n' : Nat) (σ' : jq_M) : Prop := match X with
  | ((p, l, e, R, s, m, args, below, meth, c), (A, Q, nL, b, D, cs, ss, ly)) => Q = MQ below (jq_QI Z b D cs n' σ') args s rc rs (fun q => b ≤ q) ∧ meth.sig.returnType = none ∧ A = (fun q => b ≤ q)
theorem jq_metI {y : MethodName} {cc : ByteArray} {maxL : Nat} {own : String} {fr lo rc rs n n' : Nat} {avs : List jq_A} {σ σ' : jq_M} {L0 : List (Nat × jq_A)} (hy : plainName y.cls = true) (hcl : y.cls = own) (hnm : y.name = "<init>") (hL0 : jq_args 0 avs = L0) (hlen : Nat.ble (avs.map jq_c).sum maxL = true)
    (body : ∀ X, jq_GI Z X (n, 0, 0, false) own cc fr lo rc rs → jq_nL X = maxL → ¬ jq_ly X → jq_AO X → jq_RI Z X rc rs n' σ' → jq_V Z X (n, 0, 0, false) σ 0 L0 []) : jq_MI Z y cc maxL fr lo rc rs avs n σ n' σ' := by
  intro l b D cs ss
  refine Met.ofW (cc := cc) (maxL := maxL) (ret := none) hy rfl ?_
  intro p e s m args below meth c s₁ B hml hv
  obtain ⟨rfl, hP, hK, hwf, hos, hsz, hzk, hSF, hNw, hO1, hO2⟩ := hv
  have hts := atoms_spec (ws := Cond.code y cc maxL none :: jq_T) B.pre
  have hown : s.vm.findClass own = some m.cls := by rw [← hcl]; exact findClass_of_methodNamed B.named
  have hin : meth.name = "<init>" := by rw [← hnm]; exact (name_of_methodNamed B.named B.method).1
  have hl := lv_entry (jq_eS b ss avs) (n := maxL) (by rw [jq_args_len]; exact Nat.le_of_ble_eq_true hlen)
  rw [jq_args_e, hL0] at hl
  rw [lg_entry_eq]
  have w := body ((p, l, e, { frames := fr, cells := rc, slots := rs, locals := lo }, s, m, (jq_eS b ss avs).toArray, below, meth, c), ((fun q => b ≤ q), _, maxL, b, D, cs, ss, False)) ⟨⟨B.exec, B.bytes, hml, hown, fun w hw => hts w (List.mem_cons_of_mem _ hw), hK, B.notSynchronized, fun k hk => Nat.le_add_right b k, Nat.le_refl _, Nat.le_refl _, Nat.zero_le _, Nat.zero_le _, fun h => (by cases h), hzk, hSF, fun q h => h, hNw⟩, Nat.le_refl _, Nat.le_refl _, hsz, hin, fun q h => h⟩ rfl (fun h => h) ⟨hO1.use, hO2.use⟩ ⟨rfl, B.returns, rfl⟩
  exact w (fun v hv => by cases hv) (by rw [← hL0]; exact jq_args_ok avs 0 hos) hwf (fun h => h.elim) s.heap [] _ hP va_S.rf (fun h => by cases h) hl
theorem jq_ireti {n' : Nat} (Γ : jq_GI Z X (n', rc, rs, false) own cc fr lo rc rs) {a : α} (d : decode cc pc = .ok (.return_, 1)) (h : K a → jq_RI Z X rc rs n' σ) : jq_J (some a) K (jq_V Z X (n', rc, rs, false) σ pc L []) := by
  rcases X with ⟨⟨p, l, e, R, s, m, args, below, meth, c⟩, A, Q, nL, b, D, cs, ss, ly⟩
  obtain ⟨⟨hx, hb, hml, hown, hts, hK, hlk, hA, hfr, hlo, hc, hs, hal, hzk, hSF, hAb, hNw⟩, hrc, hrs, hsz0, hin, hAall⟩ := Γ
  intro r hF hR hos hol hwf hly H locs ls hP hS hsz hl
  cases hF
  obtain ⟨hQ, hret, rfl⟩ := h hR
  subst hQ
  exact W.vret hx hb hret (fun t ht hW => ⟨rfl, by rw [ht]; exact hP, hwf, hS.F ht⟩) hS.2.2 d
abbrev jq_els (P : Prop) [Decidable P] (o : Option α) : Option α := if P then o else none
noncomputable def jq_asr (P : Prop) (o : Option α) : Option α := @ite _ P (Classical.propDecidable P) o none
theorem jq_asrR {P : Prop} {G : Prop} (k : P → jq_J F K G) : jq_J (jq_asr P F) K G := jq_split k (fun _ => fun r hF => by cases hF)
def jq_il (own : String) (ix : Nat) (y : MethodName) (bc : ByteArray) (mL : Nat) : Prop := Cond.methodLink own ix y ∈ jq_T ∧ Cond.instanceMethod y ∈ jq_T ∧ Cond.initialized y.cls ∈ jq_T ∧ Cond.code y bc mL none ∈ jq_T ∧ (y.cls ≠ "java/lang/invoke/MethodHandle" ∧ y.cls ≠ "java/lang/invoke/VarHandle" ∧ (parseMethodDescriptor y.desc).map (fun d => d.parameters.length) = some 0) ∧ y.name = "<init>"
def jq_inl (own : String) (ix : Nat) (y : MethodName) (host : String) (bc : ByteArray) (mL : Nat) : Prop := Cond.methodLinkNest own ix y host ∈ jq_TN ∧ Cond.instanceMethod y ∈ jq_T ∧ Cond.initialized y.cls ∈ jq_T ∧ Cond.code y bc mL none ∈ jq_T ∧ (y.cls ≠ "java/lang/invoke/MethodHandle" ∧ y.cls ≠ "java/lang/invoke/VarHandle" ∧ (parseMethodDescriptor y.desc).map (fun d => d.parameters.length) = some 0) ∧ y.name = "<init>"
theorem jq_cinit {n c0 sl : Nat} (Γ : jq_GI Z X (n, c0, sl, false) own cc fr lo rc rs) (hn0 : 0 < n) (hlY : ¬ jq_ly X) (hAO : jq_AO X) {k : Int} {y : MethodName} {bc : ByteArray} {mL fr' lo' rc' rs' ix n' : Nat} {g : Option jq_M} {f : jq_M → Option α} (ml : jq_il own ix y bc mL) (hk : 0 ≤ k) (hn' : n' = n + rc') (hnz : Nat.ble n' Z.1.length = true) (hfr1 : Nat.ble (fr' + 1) fr = true) (hlo1 : Nat.ble (8 + (mL + 11) + lo') lo = true) (hrc1 : Nat.ble (c0 + rc') rc = true) (hrs1 : Nat.ble (sl + rs') rs = true) (hcat : Nat.ble (st.map jq_c).sum 8 = true) (d : decode cc pc = .ok (.invokespecial ix, 3)) (ct : ∀ σ', g = some σ' → jq_MI Z y bc mL fr' lo' rc' rs' [jR k] n σ n' σ') (kk : jq_GI Z X (n', c0 + rc', sl + rs', false) own cc fr lo rc rs → ∀ σ' : jq_M, jq_J (f σ') K (jq_V Z X (n', c0 + rc', sl + rs', false) σ' (pc + 3) L st)) : jq_J (g.bind f) K (jq_V Z X (n, c0, sl, false) σ pc L (jR k :: st)) := by
  rcases X with ⟨⟨p, l, e, R, s, m, args, below, meth, c⟩, A, Q, nL, b, D, cs, ss, ly⟩
  obtain ⟨⟨hx, hb, hml, hown, hts, hK, hlk, hA, hfr, hlo, hc, hs, hal, hzk, hSF, hAb, hNw⟩, hrc, hrs, hsz0, hin, hAall⟩ := Γ
  intro r hF hR hos hol hwf hly H locs ls hP hS hsz hl
  cases hg : g with
  | none => rw [hg] at hF; cases hF
  | some σ' =>
  rw [hg] at hF
  have mc := ct σ' hg
  obtain ⟨w1, w2, w3, w4, w5, w6⟩ := ml
  have hrc1 := Nat.le_of_ble_eq_true hrc1
  have hrs1 := Nat.le_of_ble_eq_true hrs1
  have hnz := Nat.le_of_ble_eq_true hnz
  subst hn'
  intro T0 hT0 X0
  have hsize : H.size = b + n := by
    rw [← hT0]
    exact jq_size X0 (by rw [hT0]; exact hP) hsz0 hn0 (by omega)
  have hpre : ∀ U : State, U.heap = H → s.WarmedH U.vm → jq_PI Z b D cs ss n [jR k] σ (jq_eS b ss [jR k]).toArray U := by
    intro U hU hW
    have hnar : ∀ q : Nat, b ≤ q → A q := hAall
    refine ⟨rfl, by rw [hU]; exact hP, va_K.moved hW.alike hK, hwf, fun v hv => by rcases List.mem_singleton.mp hv with rfl; exact trivial, by rw [hU]; exact hsize, hzk, ⟨?_, vk_R.warm hW hSF.2.1, ?_, ?_, hSF.2.2.2.2⟩, jq_N_warm hW hNw, va_AO.moved hW.alike (va_AO.of hAO.1), va_AO.moved hW.alike (va_AO.of hAO.2)⟩
    · rw [hU]
      exact ((hSF.1.kept (H1 := H) hS.2.1).moved hW.alike).narrow hnar
    · rw [hU]
      exact ((hSF.2.2.1.kept (H1 := H) hS.2.1).moved hW.alike).narrow hnar
    · rw [hU]
      exact ((hSF.2.2.2.1.kept (H1 := H) hS.2.1).moved hW.alike).narrow hnar
  have hcw : CallB R s args own ix y bc mL none (Cond.code y bc mL none :: jq_T) { frames := fr', cells := rc', slots := rs', locals := lo' } rc' rs' 0 ∧ y.name = "<init>" ∧ (Cond.instanceMethod y).before args s = true := by
    refine ⟨callB_of 0 hts (jq_good w4) rfl rfl rfl (hts _ w3) (hts _ w1) w5 ⟨?_, ?_⟩, w6, hts _ w2⟩
    · exact Nat.le_trans (Nat.le_of_ble_eq_true hfr1) hfr
    · exact Nat.le_trans (Nat.le_of_ble_eq_true hlo1) hlo
  have e1 : k = (k.toNat : Int) := by omega
  have hstk : jq_eS b ss (jR k :: st) = ([] : List Value).reverse ++ .ref (b + k.toNat) :: jq_eS b ss st := by
    rw [e1, jq_reS]
    rfl
  have hargs : jq_eS b ss [jR k] = [Value.ref (b + k.toNat)] := by
    rw [e1]
    exact jq_reS b ss k.toNat []
  rw [hargs] at hpre
  have hrun := va_runI (p := p) (l := l) (e := e) (below := below) (meth := meth) (g := F0 m pc ls (jq_eS b ss (jR k :: st))) (As := []) (rest := jq_eS b ss st) (cells := c0) (slots := sl) (locs := locs) (H := H) ⟨hx, hb, hml, hown, hts⟩ (mc l b D cs ss) hcw ⟨jq_blindI b D cs ss _ _, hpre⟩ rfl rfl hl.1 hstk (lv_room (by rw [jq_eS_cat]; exact Nat.le_of_ble_eq_true hcat)) d ⟨by omega, by omega⟩
  obtain ⟨v, st₀, t, T', L', h0, X', hL, e1', e2, ⟨hv, hP1, hwf1, hz, hk1⟩, stp⟩ := hrun T0 hT0 X0
  cases hv
  rw [h0] at hz hk1
  rw [← e1'] at hP1 hz hk1
  have w := kk ⟨⟨hx, hb, hml, hown, hts, hK, hlk, (fun q _ => hAall _ (Nat.le_add_right b q)), hfr, hlo, (by show c0 + rc' ≤ _; omega), (by show sl + rs' ≤ _; omega), (fun h => by cases h), hzk, hSF, hAb, hNw⟩, hrc, hrs, (by show _ + (c0 + rc') = b + (n + rc'); have : s.heap.size + c0 = b + n := hsz0; omega), hin, hAall⟩ σ' r hF hR (jq_os_c.mp hos).2 hol hwf1 (fun h => absurd h hlY) T'.heap (locs ++ L') ls hP1 ⟨Nat.le_trans hS.1 hz, fun q h1 h2 => by rw [hk1 q (Nat.lt_of_lt_of_le h1 hS.1) (fun z => h2 (hAall q z))]; exact hS.2.1 q h1 h2, fun q hq => by
      rcases List.mem_append.mp hq with h | h
      · exact hS.2.2 q h
      · exact hAall _ (hL q h)⟩ (fun h => by cases h) hl
  obtain ⟨t2, a1, b1⟩ := w T' rfl X'
  exact ⟨t2, stp t2 a1, b1⟩
theorem jq_cinitN {n c0 sl : Nat} (Γ : jq_GI Z X (n, c0, sl, false) own cc fr lo rc rs) (hn0 : 0 < n) (hlY : ¬ jq_ly X) (hAO : jq_AO X) {k : Int} {y : MethodName} {bc : ByteArray} {mL fr' lo' rc' rs' ix n' : Nat} {host : String} {g : Option jq_M} {f : jq_M → Option α} (ml : jq_inl own ix y host bc mL) (hk : 0 ≤ k) (hn' : n' = n + rc') (hnz : Nat.ble n' Z.1.length = true) (hfr1 : Nat.ble (fr' + 1) fr = true) (hlo1 : Nat.ble (8 + (mL + 11) + lo') lo = true) (hrc1 : Nat.ble (c0 + rc') rc = true) (hrs1 : Nat.ble (sl + rs') rs = true) (hcat : Nat.ble (st.map jq_c).sum 8 = true) (d : decode cc pc = .ok (.invokespecial ix, 3)) (ct : ∀ σ', g = some σ' → jq_MI Z y bc mL fr' lo' rc' rs' [jR k] n σ n' σ') (kk : jq_GI Z X (n', c0 + rc', sl + rs', false) own cc fr lo rc rs → ∀ σ' : jq_M, jq_J (f σ') K (jq_V Z X (n', c0 + rc', sl + rs', false) σ' (pc + 3) L st)) : jq_J (g.bind f) K (jq_V Z X (n, c0, sl, false) σ pc L (jR k :: st)) := by
  rcases X with ⟨⟨p, l, e, R, s, m, args, below, meth, c⟩, A, Q, nL, b, D, cs, ss, ly⟩
  obtain ⟨⟨hx, hb, hml, hown, hts, hK, hlk, hA, hfr, hlo, hc, hs, hal, hzk, hSF, hAb, hNw⟩, hrc, hrs, hsz0, hin, hAall⟩ := Γ
  intro r hF hR hos hol hwf hly H locs ls hP hS hsz hl
  cases hg : g with
  | none => rw [hg] at hF; cases hF
  | some σ' =>
  rw [hg] at hF
  have mc := ct σ' hg
  obtain ⟨w1, w2, w3, w4, w5, w6⟩ := ml
  have hrc1 := Nat.le_of_ble_eq_true hrc1
  have hrs1 := Nat.le_of_ble_eq_true hrs1
  have hnz := Nat.le_of_ble_eq_true hnz
  subst hn'
  intro T0 hT0 X0
  have hsize : H.size = b + n := by
    rw [← hT0]
    exact jq_size X0 (by rw [hT0]; exact hP) hsz0 hn0 (by omega)
  have hpre : ∀ U : State, U.heap = H → s.WarmedH U.vm → jq_PI Z b D cs ss n [jR k] σ (jq_eS b ss [jR k]).toArray U := by
    intro U hU hW
    have hnar : ∀ q : Nat, b ≤ q → A q := hAall
    refine ⟨rfl, by rw [hU]; exact hP, va_K.moved hW.alike hK, hwf, fun v hv => by rcases List.mem_singleton.mp hv with rfl; exact trivial, by rw [hU]; exact hsize, hzk, ⟨?_, vk_R.warm hW hSF.2.1, ?_, ?_, hSF.2.2.2.2⟩, jq_N_warm hW hNw, va_AO.moved hW.alike (va_AO.of hAO.1), va_AO.moved hW.alike (va_AO.of hAO.2)⟩
    · rw [hU]
      exact ((hSF.1.kept (H1 := H) hS.2.1).moved hW.alike).narrow hnar
    · rw [hU]
      exact ((hSF.2.2.1.kept (H1 := H) hS.2.1).moved hW.alike).narrow hnar
    · rw [hU]
      exact ((hSF.2.2.2.1.kept (H1 := H) hS.2.1).moved hW.alike).narrow hnar
  have hcw : va_CN R s args own ix y host bc mL none (Cond.code y bc mL none :: jq_T) { frames := fr', cells := rc', slots := rs', locals := lo' } rc' rs' 0 ∧ y.name = "<init>" ∧ (Cond.instanceMethod y).before args s = true := by
    refine ⟨va_cnB 0 hts (jq_good w4) rfl rfl rfl (hNw _ w1) (hts _ w3) w5 ⟨?_, ?_⟩, w6, hts _ w2⟩
    · exact Nat.le_trans (Nat.le_of_ble_eq_true hfr1) hfr
    · exact Nat.le_trans (Nat.le_of_ble_eq_true hlo1) hlo
  have e1 : k = (k.toNat : Int) := by omega
  have hstk : jq_eS b ss (jR k :: st) = ([] : List Value).reverse ++ .ref (b + k.toNat) :: jq_eS b ss st := by
    rw [e1, jq_reS]
    rfl
  have hargs : jq_eS b ss [jR k] = [Value.ref (b + k.toNat)] := by
    rw [e1]
    exact jq_reS b ss k.toNat []
  rw [hargs] at hpre
  have hrun := va_runIN (p := p) (l := l) (e := e) (below := below) (meth := meth) (g := F0 m pc ls (jq_eS b ss (jR k :: st))) (As := []) (rest := jq_eS b ss st) (cells := c0) (slots := sl) (locs := locs) (H := H) ⟨hx, hb, hml, hown, hts⟩ (mc l b D cs ss) hcw ⟨jq_blindI b D cs ss _ _, hpre⟩ rfl rfl hl.1 hstk (lv_room (by rw [jq_eS_cat]; exact Nat.le_of_ble_eq_true hcat)) d ⟨by omega, by omega⟩
  obtain ⟨v, st₀, t, T', L', h0, X', hL, e1', e2, ⟨hv, hP1, hwf1, hz, hk1⟩, stp⟩ := hrun T0 hT0 X0
  cases hv
  rw [h0] at hz hk1
  rw [← e1'] at hP1 hz hk1
  have w := kk ⟨⟨hx, hb, hml, hown, hts, hK, hlk, (fun q _ => hAall _ (Nat.le_add_right b q)), hfr, hlo, (by show c0 + rc' ≤ _; omega), (by show sl + rs' ≤ _; omega), (fun h => by cases h), hzk, hSF, hAb, hNw⟩, hrc, hrs, (by show _ + (c0 + rc') = b + (n + rc'); have : s.heap.size + c0 = b + n := hsz0; omega), hin, hAall⟩ σ' r hF hR (jq_os_c.mp hos).2 hol hwf1 (fun h => absurd h hlY) T'.heap (locs ++ L') ls hP1 ⟨Nat.le_trans hS.1 hz, fun q h1 h2 => by rw [hk1 q (Nat.lt_of_lt_of_le h1 hS.1) (fun z => h2 (hAall q z))]; exact hS.2.1 q h1 h2, fun q hq => by
      rcases List.mem_append.mp hq with h | h
      · exact hS.2.2 q h
      · exact hAall _ (hL q h)⟩ (fun h => by cases h) hl
  obtain ⟨t2, a1, b1⟩ := w T' rfl X'
  exact ⟨t2, stp t2 a1, b1⟩
theorem jq_bind0 {g : Option Int} {f : Int → Option α} {G : Prop} (k : ∀ r, g = some r → jq_J (f r) K G) : jq_J (g.bind f) K G := by
  intro a h hK
  cases hg : g with
  | none => rw [hg] at h; cases h
  | some r =>
    rw [hg] at h
    exact k r hg a h hK
theorem jq_mono {G G2 : Prop} (h : G2 → G) (k : jq_J F K G2) : jq_J F K G := fun a hF hK => h (k a hF hK)
def jq_Z0 (Z : jq_Z) : jq_Z := ([], [], Z.2.2)
theorem jq_pre0 {p : Program} {l : Launch} {e : Env} {R : Room} {s : State} {m : MethodId} {args : Array Value} {below : List Frame} {meth : Method} {c : Code} {A : Nat → Prop} {Q : State → Prop} {nL b : Nat} {D : va_G} {cs : Nat → ClassId} {ss : jq_S} {ly : Prop} (Γ : jq_G Z ((p, l, e, R, s, m, args, below, meth, c), (A, Q, nL, b, D, cs, ss, ly)) z own cc fr lo) {H : Heap} {locs : List Loc} {avs : List jq_A} (hos : jq_os avs) (hS : va_S A s.heap H locs) : ∀ U : State, U.heap = H → s.WarmedH U.vm → jq_Pq (jq_Z0 Z) b D cs ss avs σ (jq_eS b ss avs).toArray U := by
  obtain ⟨hx, hb, hml, hown, hts, hK, hlk, hA, hfr, hlo, hc, hs, hal, hzk, hSF, hAb, hNw⟩ := Γ
  intro U hU hW
  have hnar : ∀ q, jq_AR b (jq_Z0 Z).1.length q → A q := fun q hq => by
    have h1 := hq.1
    have h2 : q < b + 0 := hq.2
    omega
  refine ⟨rfl, (fun k q h => by simp [jq_Z0, jq_ws] at h), va_K.moved hW.alike hK, (fun k j kd hk => by simp [jq_Z0] at hk), hos, (fun q hq => by cases hq), (fun q hq => by cases hq), ⟨?_, vk_R.warm hW hSF.2.1, ?_, ?_, hSF.2.2.2.2⟩, jq_N_warm hW hNw⟩
  · rw [hU]
    exact ((hSF.1.kept (H1 := H) hS.2.1).moved hW.alike).narrow hnar
  · rw [hU]
    exact ((hSF.2.2.1.kept (H1 := H) hS.2.1).moved hW.alike).narrow hnar
  · rw [hU]
    exact ((hSF.2.2.2.1.kept (H1 := H) hS.2.1).moved hW.alike).narrow hnar
theorem jq_after0 {p : Program} {l : Launch} {e : Env} {R : Room} {s : State} {m : MethodId} {args : Array Value} {below : List Frame} {meth : Method} {c : Code} {A : Nat → Prop} {H : Heap} {locs : List Loc} {cells slots n : Nat} {Q : State → Prop} {D : va_G} {cs : Nat → ClassId} {ss : jq_S} {b : Nat} {ls : Array Slot} {st0 rest : List Value} {a : Array Value} {ret : Option FieldType} {rv : Option jq_A} {σ' : jq_M}
    (hr : va_Run p l e R s m args below meth c H locs cells slots 0 0 (F0 m pc ls st0) rest (jq_Qq (jq_Z0 Z) b D cs ss ret rv σ' a) (jq_AR b (jq_Z0 Z).1.length)) (hP : va_P D vwCl (jq_ws b cs Z n σ) H) (hS : va_S A s.heap H locs)
    (kk : ∀ (H1 : Heap) (locs1 : List Loc), va_P D vwCl (jq_ws b cs Z n σ) H1 → (∀ v, rv = some v → jq_ok v) → va_S A s.heap H1 locs1 → W p l e R s m args below meth c H1 locs1 cells slots Q (F0 m (pc + 3) ls (jq_eS b ss rv.toList ++ rest))) : W p l e R s m args below meth c H locs cells slots Q (F0 m pc ls st0) := by
  intro T hT X
  obtain ⟨v, st₀, t, T', L, h0, X', hL, e1, e2, ⟨hv, -, -, -, hok, -, hz, hk⟩, st⟩ := hr T hT X
  cases hv
  rw [h0] at hz hk
  rw [← e1] at hz hk
  have hemp : ∀ q : Nat, ¬ jq_AR b (jq_Z0 Z).1.length q := fun q hq => by
    have h1 := hq.1
    have h2 : q < b + 0 := hq.2
    omega
  obtain ⟨t2, a1, b1⟩ := kk T'.heap (locs ++ L) (hP.kept (fun k q hq => hk q.1 (hP k q hq).lt (hemp _))) hok ⟨Nat.le_trans hS.1 hz, fun q h1 h2 => by rw [hk q (Nat.lt_of_lt_of_le h1 hS.1) (hemp q)]; exact hS.2.1 q h1 h2, fun q hq => by
      rcases List.mem_append.mp hq with h | h
      · exact hS.2.2 q h
      · exact absurd (hL q h) (hemp _)⟩ T' rfl X'
  refine ⟨t2, st t2 ?_, b1⟩
  have e3 : (rv.map (jq_e b ss)).toList = jq_eS b ss rv.toList := by cases rv <;> rfl
  rw [e3]
  exact a1
theorem jq_virtT0 (Γ : jq_G Z X z own cc fr lo) (hz4 : z.2.2.2 = false) {avs st S0 : List jq_A} {y : MethodName} {bc : ByteArray} {mL fr' lo' ix n : Nat} {rt : Option FieldType} (ml : jq_vl own ix y bc mL rt n) (hn : avs.length = n) (hci : y.cls = "java/lang/String") (hst : S0 = avs.reverse ++ jT 0 :: st) (hfr1 : Nat.ble (fr' + 1) fr = true) (hlo1 : Nat.ble (8 + (mL + 11) + lo') lo = true) (hcat : Nat.ble (st.map jq_c).sum 8 = true) (d : decode cc pc = .ok (.invokevirtual ix, 3)) {rv : Option jq_A} {σ' : jq_M} (mc : jq_MC (jq_Z0 Z) y bc mL rt fr' lo' (jT 0 :: avs) σ rv σ') (kk : jq_V Z X z σ (pc + 3) L (rv.toList ++ st)) : jq_V Z X z σ pc L S0 := by
  have Γ0 := Γ
  rcases X with ⟨⟨p, l, e, R, s, m, args, below, meth, c⟩, A, Q, nL, b, D, cs, ss, ly⟩
  obtain ⟨hx, hb, hml, hown, hts, hK, hlk, hA, hfr, hlo, hc, hs, hal, hzk, hSF, hAb, hNw⟩ := Γ
  intro hos hol hwf hly H locs ls hP hS hsz hl
  obtain ⟨w1, w2, w3, w4, w5, w6⟩ := ml
  subst hst
  have hosr : jq_os (jT 0 :: avs) ∧ jq_os st := by
    refine ⟨jq_os_c.mpr ⟨trivial, fun v hv => hos v (List.mem_append_left _ (List.mem_reverse.mpr hv))⟩, fun v hv => hos v (List.mem_append_right _ (List.mem_cons_of_mem _ hv))⟩
  have hpre := jq_pre0 (σ := σ) Γ0 (H := H) (locs := locs) hosr.1 hS
  have hrec := vk_recv (i := 0) hSF.1 (by decide) hS
  rw [← hci] at hrec
  have hcw : CallW R s args own y.cls ix y bc mL rt (Cond.code y bc mL rt :: jq_T) { frames := fr', cells := 0, slots := 0, locals := lo' } 0 0 n := by
    refine ⟨callB_of n hts (jq_good w5) rfl rfl rfl (hts _ w4) (hts _ w1) w6 ⟨?_, ?_⟩, hts _ w2, hts _ w3⟩
    · exact Nat.le_trans (Nat.le_of_ble_eq_true hfr1) hfr
    · exact Nat.le_trans (Nat.le_of_ble_eq_true hlo1) hlo
  have hstk : jq_eS b ss (avs.reverse ++ jT 0 :: st) = (jq_eS b ss avs).reverse ++ .ref ss.1 :: jq_eS b ss st := by
    rw [jq_eS_app, jq_eS_rev]
    rfl
  have hargs : jq_eS b ss (jT 0 :: avs) = Value.ref ss.1 :: jq_eS b ss avs := rfl
  rw [hargs] at hpre
  have hrun := va_runV (p := p) (l := l) (e := e) (below := below) (meth := meth) (g := F0 m pc ls (jq_eS b ss (avs.reverse ++ jT 0 :: st))) (As := jq_eS b ss avs) (rest := jq_eS b ss st) (cells := z.2.1) (slots := z.2.2.1) (locs := locs) (H := H) ⟨hx, hb, hml, hown, hts⟩ (mc l b D cs ss) hcw ⟨jq_blind b D cs ss _, hrec, hpre⟩ rfl (by unfold jq_eS; rw [List.length_map]; exact hn) hl.1 hstk (lv_room (by rw [jq_eS_cat]; exact Nat.le_of_ble_eq_true hcat)) d ⟨hc, hs⟩
  refine jq_after0 hrun hP hS (fun H1 locs1 hP1 hok1 hS1 => ?_)
  have w := kk (fun v hv => by
    rcases List.mem_append.mp hv with h | h
    · exact hok1 v (by cases rv with
        | none => cases h
        | some r => simp at h; rw [h])
    · exact hosr.2 v h) hol hwf hly H1 locs1 ls hP1 hS1 (fun h => by rw [hz4] at h; cases h) hl
  rw [jq_eS_app] at w
  exact w
theorem jq_statT0 (Γ : jq_G Z X z own cc fr lo) (hz4 : z.2.2.2 = false) {avs st S0 : List jq_A} {y : MethodName} {bc : ByteArray} {mL fr' lo' ix n : Nat} {rt : Option FieldType} (ml : jq_sl own ix y bc mL rt n) (hn : avs.length = n) (hst : S0 = avs.reverse ++ st) (hfr1 : Nat.ble (fr' + 1) fr = true) (hlo1 : Nat.ble (8 + (mL + 11) + lo') lo = true) (hcat : Nat.ble (st.map jq_c).sum 8 = true) (d : decode cc pc = .ok (.invokestatic ix, 3)) {rv : Option jq_A} {σ' : jq_M} (mc : jq_MC (jq_Z0 Z) y bc mL rt fr' lo' avs σ rv σ') (kk : jq_V Z X z σ (pc + 3) L (rv.toList ++ st)) : jq_V Z X z σ pc L S0 := by
  have Γ0 := Γ
  rcases X with ⟨⟨p, l, e, R, s, m, args, below, meth, c⟩, A, Q, nL, b, D, cs, ss, ly⟩
  obtain ⟨hx, hb, hml, hown, hts, hK, hlk, hA, hfr, hlo, hc, hs, hal, hzk, hSF, hAb, hNw⟩ := Γ
  intro hos hol hwf hly H locs ls hP hS hsz hl
  obtain ⟨w1, w2, w3, w4, w5⟩ := ml
  subst hst
  have hosr : jq_os avs ∧ jq_os st := ⟨fun v hv => hos v (List.mem_append_left _ (List.mem_reverse.mpr hv)), fun v hv => hos v (List.mem_append_right _ hv)⟩
  have hpre := jq_pre0 (σ := σ) Γ0 (H := H) (locs := locs) hosr.1 hS
  have hcw : CallB R s args own ix y bc mL rt (Cond.code y bc mL rt :: jq_T) { frames := fr', cells := 0, slots := 0, locals := lo' } 0 0 n ∧ (Cond.static y).before args s = true := by
    refine ⟨callB_of n hts (jq_good w4) rfl rfl rfl (hts _ w3) (hts _ w1) w5 ⟨?_, ?_⟩, hts _ w2⟩
    · exact Nat.le_trans (Nat.le_of_ble_eq_true hfr1) hfr
    · exact Nat.le_trans (Nat.le_of_ble_eq_true hlo1) hlo
  have hstk : jq_eS b ss (avs.reverse ++ st) = (jq_eS b ss avs).reverse ++ jq_eS b ss st := by
    rw [jq_eS_app, jq_eS_rev]
  have hrun := va_runS (p := p) (l := l) (e := e) (below := below) (meth := meth) (g := F0 m pc ls (jq_eS b ss (avs.reverse ++ st))) (As := jq_eS b ss avs) (rest := jq_eS b ss st) (cells := z.2.1) (slots := z.2.2.1) (locs := locs) (H := H) ⟨hx, hb, hml, hown, hts⟩ (mc l b D cs ss) hcw ⟨jq_blind b D cs ss _, hpre⟩ rfl (by unfold jq_eS; rw [List.length_map]; exact hn) hl.1 hstk (lv_room (by rw [jq_eS_cat]; exact Nat.le_of_ble_eq_true hcat)) d ⟨hc, hs⟩
  refine jq_after0 hrun hP hS (fun H1 locs1 hP1 hok1 hS1 => ?_)
  have w := kk (fun v hv => by
    rcases List.mem_append.mp hv with h | h
    · exact hok1 v (by cases rv with
        | none => cases h
        | some r => simp at h; rw [h])
    · exact hosr.2 v h) hol hwf hly H1 locs1 ls hP1 hS1 (fun h => by rw [hz4] at h; cases h) hl
  rw [jq_eS_app] at w
  exact w
theorem jq_virtA (Γ : jq_G Z X z own cc fr lo) (hlay : jq_lay Z σ) (hlY : ¬ jq_ly X) (hzN : z.1 = Z.1.length) (hz4 : z.2.2.2 = false) {k : Int} {avs st S0 : List jq_A} {y : MethodName} {bc : ByteArray} {mL fr' lo' ix ci N n : Nat} {rt : Option FieldType} (ml : jq_vl own ix y bc mL rt n) (hn : avs.length = n) (ha : jq_at Z z k (ci + 10, N)) (hci : (vwCl[ci]?).map (fun q => q.1) = some y.cls) (hst : S0 = avs.reverse ++ jR k :: st) (hfr1 : Nat.ble (fr' + 1) fr = true) (hlo1 : Nat.ble (8 + (mL + 11) + lo') lo = true) (hcat : Nat.ble (st.map jq_c).sum 8 = true) (d : decode cc pc = .ok (.invokevirtual ix, 3)) : jq_Call Z X z σ pc L S0 st y bc mL rt fr' lo' (jR k :: avs) := by
  intro rv σ' mc kk
  have Γ0 := Γ
  rcases X with ⟨⟨p, l, e, R, s, m, args, below, meth, c⟩, A, Q, nL, b, D, cs, ss, ly⟩
  obtain ⟨hx, hb, hml, hown, hts, hK, hlk, hA, hfr, hlo, hc, hs, hal, hzk, hSF, hAb, hNw⟩ := Γ
  intro hos hol hwf hly H locs ls hP hS hsz hl
  obtain ⟨q, rfl, hq, hz⟩ := ha
  obtain ⟨w1, w2, w3, w4, w5, w6⟩ := ml
  subst hst
  have hosr : jq_os (jR (q : Int) :: avs) ∧ jq_os st := by
    refine ⟨jq_os_c.mpr ⟨trivial, fun v hv => hos v (List.mem_append_left _ (List.mem_reverse.mpr hv))⟩, fun v hv => hos v (List.mem_append_right _ (List.mem_cons_of_mem _ hv))⟩
  have Γ1 : jq_G Z ((p, l, e, R, s, m, args, below, meth, c), (A, Q, nL, b, D, cs, ss, True)) z own cc fr lo := Γ0
  have hpre := jq_pre Γ1 hzN trivial (H := H) (locs := locs) hosr.1 hwf (fun _ => hlay) hP hS
  have he := jq_ws_at (b := b) (cs := cs) (σ := σ) hq hz
  rw [jq_en_o] at he
  obtain ⟨qq, hqq, hq1⟩ : ∃ qq, vwCl[ci]? = some qq ∧ qq.1 = y.cls := by
    cases h : vwCl[ci]? with
    | none => rw [h] at hci; cases hci
    | some qq => rw [h] at hci; exact ⟨qq, rfl, Option.some.inj hci⟩
  have hrec := va_recv hK hP hqq he
  rw [hq1] at hrec
  have hcw : CallW R s args own y.cls ix y bc mL rt (Cond.code y bc mL rt :: jq_T) { frames := fr', cells := 0, slots := 0, locals := lo' } 0 0 n := by
    refine ⟨callB_of n hts (jq_good w5) rfl rfl rfl (hts _ w4) (hts _ w1) w6 ⟨?_, ?_⟩, hts _ w2, hts _ w3⟩
    · exact Nat.le_trans (Nat.le_of_ble_eq_true hfr1) hfr
    · exact Nat.le_trans (Nat.le_of_ble_eq_true hlo1) hlo
  have hstk : jq_eS b ss (avs.reverse ++ jR (q : Int) :: st) = (jq_eS b ss avs).reverse ++ .ref (b + q) :: jq_eS b ss st := by
    rw [jq_eS_app, jq_eS_rev, jq_reS]
  have hargs : jq_eS b ss (jR (q : Int) :: avs) = Value.ref (b + q) :: jq_eS b ss avs := jq_reS b ss q avs
  rw [hargs] at hpre
  have hrun := va_runV (p := p) (l := l) (e := e) (below := below) (meth := meth) (g := F0 m pc ls (jq_eS b ss (avs.reverse ++ jR (q : Int) :: st))) (As := jq_eS b ss avs) (rest := jq_eS b ss st) (cells := z.2.1) (slots := z.2.2.1) (locs := locs) (H := H) ⟨hx, hb, hml, hown, hts⟩ (mc l b D cs ss) hcw ⟨jq_blind b D cs ss _, hrec, hpre⟩ rfl (by unfold jq_eS; rw [List.length_map]; exact hn) hl.1 hstk (lv_room (by rw [jq_eS_cat]; exact Nat.le_of_ble_eq_true hcat)) d ⟨hc, hs⟩
  refine jq_after hrun hS (fun a ha => by
    have := hA (a - b) (by have h1 := ha.1; have h2 := ha.2; omega)
    rwa [show b + (a - b) = a by have := ha.1; omega] at this) (fun H1 locs1 hP1 hwf1 hly1 hok1 hzb1 hS1 => ?_)
  have w := kk hzb1 (fun v hv => by
    rcases List.mem_append.mp hv with h | h
    · exact hok1 v (by cases rv with
        | none => cases h
        | some r => simp at h; rw [h])
    · exact hosr.2 v h) hol (by rw [hzN]; exact hwf1) (fun h => absurd h hlY) H1 locs1 ls (by rw [hzN]; exact hP1) hS1 (fun h => by rw [hz4] at h; cases h) hl
  rw [jq_eS_app] at w
  exact w
end
