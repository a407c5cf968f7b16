section
variable {Z : jq_Z} {X : jq_X} {z : jq_z} {own : String} {cc : ByteArray} {fr lo : Nat} {σ : jq_M} {pc : Nat} {L : List (Nat × jq_A)} {st : List jq_A} {α : Type} {F : Option α} {K : α → Prop}
theorem jq_en_o (b : Nat) (cs : Nat → ClassId) (ci N : Nat) (f : Int → Int) : jq_en b cs (ci + 10, N) f = .inr (ci, (List.range N).map fun j => jq_fv b (jq_ft ci j) (f j)) := by
  unfold jq_en
  simp
theorem jq_ty_o (ci N j : Nat) : jq_ty (ci + 10, N) j = jq_ft ci j := by
  unfold jq_ty
  simp
/-- a class's facts -/
def jq_cls (ci : Nat) (C : String) (T : u_T) (N : Nat) (ty : Nat → FieldType) : Prop := vwCl[ci]? = some (C, T, N) ∧ (∀ w ∈ u_ws C T N, w ∈ jq_T) ∧ (∀ k, k < N → parseFieldDescriptor (T k).2.2.1 = some (ty k)) ∧ (∀ a, a < N → ∀ b, b < N → a ≠ b → (T a).2.1 ≠ (T b).2.1) ∧ (∀ k, k < N → (T k).1 = C) ∧ (∀ k, k < N → jq_code (some (ty k)) = jq_ft ci k)
/-- a field's link -/
def jq_fl (own : String) (ix ci N j : Nat) (fin : Bool) : Prop := ∃ (C : String) (T : u_T) (ty : Nat → FieldType), jq_cls ci C T N ty ∧ j < N ∧ Cond.fieldLink own ix C (T j).2.1 (T j).2.2.1 ∈ jq_T ∧ (T j).2.2.2 = fin
theorem jq_ft_9 (ci j : Nat) : jq_ft ci j < 9 := by
  have key : ∀ l ∈ jq_tl, ∀ x ∈ l, x < 9 := by decide +kernel
  unfold jq_ft
  rw [List.getD_eq_getElem?_getD, List.getD_eq_getElem?_getD]
  cases h1 : jq_tl[ci]? with
  | none => simp
  | some l =>
    cases h2 : l[j]? with
    | none => simp [h2]
    | some x =>
      simp only [Option.getD_some, h2]
      exact key l (List.mem_of_getElem? h1) x (List.mem_of_getElem? h2)
def jq_ly (X : jq_X) : Prop := X.2.2.2.2.2.2.2.2
theorem jq_wf_o {n : Nat} {k ci N j : Nat} (h : jq_wf Z n σ) (hk : k < n) (hz : Z.1[k]? = some (ci + 10, N)) (hj : j < N) : jq_rg (jq_ft ci j) (σ k j) := by
  have := h k j _ hk hz hj
  rwa [jq_ty_o] at this
theorem jq_wf_st {n : Nat} {k j : Nat} {kd : Nat × Nat} {v : Int} (h : jq_wf Z n σ) (hz : Z.1[k]? = some kd) (hv : jq_rg (jq_ty kd j) v) : jq_wf Z n (jq_st σ k j v) := by
  intro k' j' kd' hk' hz' hj'
  unfold jq_st
  by_cases hh : (k' : Int) = k ∧ (j' : Int) = j
  · rw [if_pos hh]
    have e1 : k' = k := by omega
    have e2 : j' = j := by omega
    subst e1
    subst e2
    rw [hz] at hz'
    cases hz'
    exact hv
  · rw [if_neg hh]
    exact h k' j' kd' hk' hz' hj'
theorem jq_lay_st {k j : Nat} {kd : Nat × Nat} {v : Int} (hzk : jq_zok Z) (h : jq_lay Z σ) (hz : Z.1[k]? = some kd) (hv : jq_ty kd j ≠ 2) : jq_lay Z (jq_st σ k j v) := by
  intro q hq
  obtain ⟨k', j', kd', e1, e2, e3, e4⟩ := hzk q hq
  unfold jq_st
  rw [if_neg]
  · exact h q hq
  · rintro ⟨h1, h2⟩
    have e5 : k' = k := by omega
    have e6 : j' = j := by omega
    subst e5
    subst e6
    rw [hz] at e3
    cases e3
    exact hv e4
theorem jq_st_ne {k q : Nat} {j v : Int} (h : q ≠ k) : jq_st σ k j v q = σ q := by
  funext j'
  unfold jq_st
  rw [if_neg (by omega)]
theorem jq_get0 {p : Program} {l : Launch} {e : Env} {R : Room} {s : State} {m : MethodId} {args : Array Value} {below : List Frame} {meth : Method} {c : Code} {H : Heap} {locs : List Loc} {cells slots : Nat} {Q : State → Prop} {D : va_G} {cs : Nat → ClassId} {b n ix ci N j k : Nat} {fin : Bool} {ls : Array Slot} {rest : List Value} (hx : p.tables.exec = Jvm.exec) (hb : c.code = cc) (hts : ∀ w ∈ jq_T, w.before args s = true) (hown : s.vm.findClass own = some m.cls) (hK : va_K D vwCl (jq_tys cs) s) (hP : va_P D vwCl (jq_ws b cs Z n σ) H) (hk : k < n) (hz : Z.1[k]? = some (ci + 10, N)) (fl : jq_fl own ix ci N j fin) (d : decode cc pc = .ok (.getfield ix, 3))
    (w : W p l e R s m args below meth c H locs cells slots Q (F0 m (pc + 3) ls (jq_fv b (jq_ft ci j) (σ k j) :: rest))) : W p l e R s m args below meth c H locs cells slots Q (F0 m pc ls (.ref (b + k) :: rest)) := by
  obtain ⟨C, T, ty, ⟨h1, h2, h3, h4, h5, h6⟩, hj, hl, hf⟩ := fl
  have he := jq_ws_at (b := b) (cs := cs) (σ := σ) hk hz
  rw [jq_en_o] at he
  exact va_get (D := D) (cl := vwCl) (ws := jq_ws b cs Z n σ) (ci := ci) hx hb hts h2 hown hK hP k he h1 j hj (hts _ hl) (fun x hq => by rw [h5 j hj] at hq; exact hq) (v := jq_fv b (jq_ft ci j) (σ k j)) (by rw [List.getElem?_map, List.getElem?_range hj]; rfl) d w
theorem jq_re (b : Nat) (ss : jq_S) (n : Nat) : jq_e b ss (jR (n : Int)) = .ref (b + n) := by
  show va_rf (jq_f b n) = _
  unfold jq_f
  rw [if_neg (by omega)]
  rfl
theorem jq_reS (b : Nat) (ss : jq_S) (n : Nat) (st : List jq_A) : jq_eS b ss (jR (n : Int) :: st) = .ref (b + n) :: jq_eS b ss st := congrArg (fun v => v :: jq_eS b ss st) (jq_re b ss n)
theorem jq_getI (Γ : jq_G Z X z own cc fr lo) {k : Int} {ix ci N j : Nat} {fin : Bool} {J : Int} (ha : jq_at Z z k (ci + 10, N)) (fl : jq_fl own ix ci N j fin) (ht : jq_ft ci j = 0) (hJ : (j : Int) = J) (d : decode cc pc = .ok (.getfield ix, 3)) (kk : jq_J F K (jq_V Z X z σ (pc + 3) L (jI (σ k J) :: st))) : jq_J F K (jq_V Z X z σ pc L (jR k :: st)) := by
  rcases X with ⟨⟨p, l, e, R, s, m, args, below, meth, c⟩, A, Q, nL, b, D, cs, ss, ly⟩
  obtain ⟨hx, hb, hml, hown, hts, hK, hlk, hA, hfr, hlo, hc, hs, hal, hzk, hSF, hAb, hNw⟩ := Γ
  intro r hF hR hos hol hwf hly H locs ls hP hS hsz hl
  obtain ⟨n, rfl, hn, hz⟩ := ha
  subst hJ
  have hj : j < N := by obtain ⟨_, _, _, _, hj, _⟩ := fl; exact hj
  have hg := jq_wf_o hwf hn hz hj
  rw [ht] at hg
  have w := kk r hF hR (jq_os_c.mpr ⟨hg, (jq_os_c.mp hos).2⟩) hol hwf hly H locs ls hP hS hsz hl
  rw [jq_reS]
  refine jq_get0 hx hb hts hown hK hP hn hz fl d ?_
  rw [ht]
  exact w
theorem jq_getL (Γ : jq_G Z X z own cc fr lo) {k : Int} {ix ci N j : Nat} {fin : Bool} {J : Int} (ha : jq_at Z z k (ci + 10, N)) (fl : jq_fl own ix ci N j fin) (ht : jq_ft ci j = 1) (hJ : (j : Int) = J) (d : decode cc pc = .ok (.getfield ix, 3)) (kk : jq_J F K (jq_V Z X z σ (pc + 3) L (jL (σ k J) :: st))) : jq_J F K (jq_V Z X z σ pc L (jR k :: st)) := by
  rcases X with ⟨⟨p, l, e, R, s, m, args, below, meth, c⟩, A, Q, nL, b, D, cs, ss, ly⟩
  obtain ⟨hx, hb, hml, hown, hts, hK, hlk, hA, hfr, hlo, hc, hs, hal, hzk, hSF, hAb, hNw⟩ := Γ
  intro r hF hR hos hol hwf hly H locs ls hP hS hsz hl
  obtain ⟨n, rfl, hn, hz⟩ := ha
  subst hJ
  have hj : j < N := by obtain ⟨_, _, _, _, hj, _⟩ := fl; exact hj
  have hg := jq_wf_o hwf hn hz hj
  rw [ht] at hg
  have w := kk r hF hR (jq_os_c.mpr ⟨hg, (jq_os_c.mp hos).2⟩) hol hwf hly H locs ls hP hS hsz hl
  rw [jq_reS]
  refine jq_get0 hx hb hts hown hK hP hn hz fl d ?_
  rw [ht]
  exact w
/-- a boolean field gets a name -/
theorem jq_getZ (Γ : jq_G Z X z own cc fr lo) {k : Int} {ix ci N j : Nat} {fin : Bool} {J : Int} {f : Int → Option α} (ha : jq_at Z z k (ci + 10, N)) (fl : jq_fl own ix ci N j fin) (ht : jq_ft ci j = 3) (hJ : (j : Int) = J) (d : decode cc pc = .ok (.getfield ix, 3)) (kk : ∀ v : Int, (v = 0 ∨ v = 1) → jq_J (f v) K (jq_V Z X z σ (pc + 3) L (jI v :: st))) : jq_J (jq_lt (σ k J) f) K (jq_V Z X z σ pc L (jR k :: st)) := by
  rcases X with ⟨⟨p, l, e, R, s, m, args, below, meth, c⟩, A, Q, nL, b, D, cs, ss, ly⟩
  obtain ⟨hx, hb, hml, hown, hts, hK, hlk, hA, hfr, hlo, hc, hs, hal, hzk, hSF, hAb, hNw⟩ := Γ
  intro r hF hR hos hol hwf hly H locs ls hP hS hsz hl
  obtain ⟨n, rfl, hn, hz⟩ := ha
  subst hJ
  have hj : j < N := by obtain ⟨_, _, _, _, hj, _⟩ := fl; exact hj
  have hg := jq_wf_o hwf hn hz hj
  rw [ht] at hg
  have w := kk _ hg r hF hR (jq_os_c.mpr ⟨jq_rg_r (ty := 3) hg (by decide) (by decide), (jq_os_c.mp hos).2⟩) hol hwf hly H locs ls hP hS hsz hl
  rw [jq_reS]
  refine jq_get0 hx hb hts hown hK hP hn hz fl d ?_
  rw [ht]
  exact w
/-- a reference that is held for good -/
theorem jq_getR (Γ : jq_G Z X z own cc fr lo) {k : Int} {ix ci N j : Nat} {fin : Bool} {J v : Int} (hlY : jq_ly X) (ha : jq_at Z z k (ci + 10, N)) (fl : jq_fl own ix ci N j fin) (ht : jq_ft ci j = 2) (hJ : (j : Int) = J) (hv : jq_lay Z σ → σ k J = v) (d : decode cc pc = .ok (.getfield ix, 3)) (kk : jq_J F K (jq_V Z X z σ (pc + 3) L (jR v :: st))) : jq_J F K (jq_V Z X z σ pc L (jR k :: st)) := by
  rcases X with ⟨⟨p, l, e, R, s, m, args, below, meth, c⟩, A, Q, nL, b, D, cs, ss, ly⟩
  obtain ⟨hx, hb, hml, hown, hts, hK, hlk, hA, hfr, hlo, hc, hs, hal, hzk, hSF, hAb, hNw⟩ := Γ
  intro r hF hR hos hol hwf hly H locs ls hP hS hsz hl
  obtain ⟨n, rfl, hn, hz⟩ := ha
  subst hJ
  have hv := hv (hly hlY)
  have w := kk r hF hR (jq_os_c.mpr ⟨trivial, (jq_os_c.mp hos).2⟩) hol hwf hly H locs ls hP hS hsz hl
  rw [jq_reS]
  refine jq_get0 hx hb hts hown hK hP hn hz fl d ?_
  rw [ht, hv]
  exact w
/-- a reference that changes -/
theorem jq_getM (Γ : jq_G Z X z own cc fr lo) {k : Int} {ix ci N j : Nat} {fin : Bool} {J : Int} (ha : jq_at Z z k (ci + 10, N)) (fl : jq_fl own ix ci N j fin) (ht : jq_ft ci j = 2) (hJ : (j : Int) = J) (d : decode cc pc = .ok (.getfield ix, 3)) (kk : jq_J F K (jq_V Z X z σ (pc + 3) L (jR (σ k J) :: st))) : jq_J F K (jq_V Z X z σ pc L (jR k :: st)) := by
  rcases X with ⟨⟨p, l, e, R, s, m, args, below, meth, c⟩, A, Q, nL, b, D, cs, ss, ly⟩
  obtain ⟨hx, hb, hml, hown, hts, hK, hlk, hA, hfr, hlo, hc, hs, hal, hzk, hSF, hAb, hNw⟩ := Γ
  intro r hF hR hos hol hwf hly H locs ls hP hS hsz hl
  obtain ⟨n, rfl, hn, hz⟩ := ha
  subst hJ
  have w := kk r hF hR (jq_os_c.mpr ⟨trivial, (jq_os_c.mp hos).2⟩) hol hwf hly H locs ls hP hS hsz hl
  rw [jq_reS]
  refine jq_get0 hx hb hts hown hK hP hn hz fl d ?_
  rw [ht]
  exact w
theorem jq_ws_put {b n : Nat} {cs : Nat → ClassId} {k ci N j : Nat} {v : Int} (hk : k < n) (hz : Z.1[k]? = some (ci + 10, N)) (hj : j < N) : (jq_ws b cs Z n σ).set k (b + k, .inr (ci, ((List.range N).map fun j => jq_fv b (jq_ft ci j) (σ k j)).set j (jq_fv b (jq_ft ci j) v))) = jq_ws b cs Z n (jq_st σ k j v) := by
  refine jq_ws_set hk hz ?_ (fun q hq => jq_st_ne hq)
  rw [jq_en_o]
  congr 2
  apply List.ext_getElem?
  intro i
  by_cases hi : i < N
  · rw [List.getElem?_map, List.getElem?_range hi]
    by_cases hij : i = j
    · subst hij
      rw [List.getElem?_set_self (by simp; exact hi)]
      simp [jq_st]
    · rw [List.getElem?_set_ne (Ne.symm hij), List.getElem?_map, List.getElem?_range hi]
      have : ¬ ((i : Int) = (j : Int)) := by omega
      simp [jq_st, this]
  · rw [List.getElem?_eq_none (by simp; omega), List.getElem?_eq_none (by simp; omega)]
theorem jq_put0 {p : Program} {l : Launch} {e : Env} {R : Room} {s : State} {m : MethodId} {args : Array Value} {below : List Frame} {meth : Method} {c : Code} {A : Nat → Prop} {H : Heap} {locs : List Loc} {cells slots : Nat} {Q : State → Prop} {D : va_G} {cs : Nat → ClassId} {b n ix ci N j k : Nat} {fin : Bool} {ls : Array Slot} {rest : List Value} {v : Int} (hx : p.tables.exec = Jvm.exec) (hb : c.code = cc) (hts : ∀ w ∈ jq_T, w.before args s = true) (hown : s.vm.findClass own = some m.cls) (hK : va_K D vwCl (jq_tys cs) s) (hA : ∀ k : Nat, k < n → A (b + k)) (hP : va_P D vwCl (jq_ws b cs Z n σ) H) (hS : va_S A s.heap H locs) (hk : k < n) (hz : Z.1[k]? = some (ci + 10, N)) (fl : jq_fl own ix ci N j fin) (hfin : fin = false ∨ (meth.name = "<init>" ∧ own = (vwCl.getD ci ("", fun _ => ("", "", "", false), 0)).1)) (hv : jq_ft ci j = 3 → v = 0 ∨ v = 1) (d : decode cc pc = .ok (.putfield ix, 3))
    (w : ∀ (H1 : Heap) (locs1 : List Loc), va_P D vwCl (jq_ws b cs Z n (jq_st σ k j v)) H1 → va_S A s.heap H1 locs1 → H1.size = H.size → W p l e R s m args below meth c H1 locs1 cells slots Q (F0 m (pc + 3) ls rest)) : W p l e R s m args below meth c H locs cells slots Q (F0 m pc ls (jq_fv b (jq_ft ci j) v :: .ref (b + k) :: rest)) := by
  obtain ⟨C, T, ty, ⟨h1, h2, h3, h4, h5, h6⟩, hj, hl, hf⟩ := fl
  have he := jq_ws_at (b := b) (cs := cs) (σ := σ) hk hz
  rw [jq_en_o] at he
  have hap := va_apart (own := own) (cl := vwCl) hts h2 ty h3 h4 hK h1
  obtain ⟨r, g1, cell, q1, q2, q3, q4⟩ := hP k _ he
  have hr : r = (C, T, N) := Option.some.inj (g1.symm.trans h1)
  subst hr
  obtain ⟨hSl, hfc, kC, hkC, hkind⟩ := hK.1 ci _ h1
  obtain ⟨cf, kf, fi, f, hi, hsl⟩ := hSl j hj
  have hlen : j < ((List.range N).map fun j => jq_fv b (jq_ft ci j) (σ k j)).length := by simp; exact hj
  have hnf : narrow (ty j) (jq_fv b (jq_ft ci j) v) = jq_fv b (jq_ft ci j) v ∧ fits (ty j) (jq_fv b (jq_ft ci j) v) = true := by
    have hc := h6 j hj
    rw [← hc] at hv ⊢
    cases hty : ty j with
    | int => exact ⟨rfl, rfl⟩
    | long => exact ⟨rfl, rfl⟩
    | boolean =>
      rw [hty] at hv
      rcases hv rfl with rfl | rfl <;> exact ⟨rfl, rfl⟩
    | object C =>
      show narrow _ (va_rf (jq_f b v)) = va_rf (jq_f b v) ∧ fits _ (va_rf (jq_f b v)) = true
      cases jq_f b v <;> exact ⟨rfl, rfl⟩
    | array t =>
      show narrow _ (va_rf (jq_f b v)) = va_rf (jq_f b v) ∧ fits _ (va_rf (jq_f b v)) = true
      cases jq_f b v <;> exact ⟨rfl, rfl⟩
    | _ =>
      exfalso
      rw [hty] at hc
      have := jq_ft_9 ci j
      simp [jq_code] at hc
      omega
  have hlay := hts _ (h2 _ (u_in_lay hj))
  have hst := (u_facts hfc hkC (u_lays hts h2 hj) hi).1
  have fin : ∀ H' : Heap, H'[b + k]? = some (cell.setSlot f.slot (jq_fv b (jq_ft ci j) v)) → H'.size = H.size → (∀ q, q ≠ b + k → H'[q]? = H[q]?) → W p l e R s m args below meth c H' (locs ++ [⟨b + k, f.slot⟩]) cells slots Q (F0 m (pc + 3) ls rest) := by
    intro H' e1 e2 e3
    rw [hsl] at e1 ⊢
    have hP2 := hP.set (jq_ws_D hA) he (e := .inr (ci, ((List.range N).map fun j => jq_fv b (jq_ft ci j) (σ k j)).set j (jq_fv b (jq_ft ci j) v))) ⟨_, h1, t_OB.to (V := updV (vp_V ((List.range N).map fun j => jq_fv b (jq_ft ci j) (σ k j))) j (jq_fv b (jq_ft ci j) v)) ⟨_, e1, q2, q3, t_set q4 hap hj (jq_fv b (jq_ft ci j) v)⟩ (fun i _ => vp_updV_set hlen (jq_fv b (jq_ft ci j) v) i)⟩ e3
    rw [jq_ws_put hk hz hj] at hP2
    exact w H' _ hP2 (hS.put e2 e3 (hA k hk)) e2
  have hsame : ∀ x, s.fieldFound? (T j).1 (T j).2.1 (T j).2.2.1 = some x → s.fieldFound? C (T j).2.1 (T j).2.2.1 = some x := fun x hq => by rw [h5 j hj] at hq; exact hq
  unfold u_lay at hlay
  rcases hfin with hfin | ⟨hin, hown2⟩
  · rw [if_neg (by rw [hf, hfin]; decide)] at hlay
    have k6 := u_store hfc hkC hkind hlay hi (h3 j hj) hnf.1 hnf.2
    exact W.putK hx hb (f := f) ⟨hown, hts _ hl, ⟨_, _, _, hsame _ hi⟩, hst⟩ (by rw [q2]; exact k6) q1 q3 (by rw [hsl]; exact k2_hasslot (q4 j hj)) rfl rfl d fin
  · by_cases hff : (T j).2.2.2 = true
    · rw [if_pos hff] at hlay
      have hcf : m.cls = cf := by
        obtain ⟨_, _, c', _, _, _, -, -, hf', -, -, -, hown3, -⟩ := Cond.laysFinal_spec hlay
        have e1 : c' = cf := by have := hi.symm.trans hf'; simp at this; exact this.1.symm
        rw [h5 j hj] at hown3
        have e2 : own = C := by
          rw [hown2]
          simp [h1]
        rw [← e2] at hown3
        rw [← e1]; exact Option.some.inj (hown.symm.trans hown3)
      have k6 := u_fits hfc hkC hkind (Or.inr hlay) hi (h3 j hj) hnf.1 hnf.2
      exact W.putFinK hx hb hown (hts _ hl) (hsame _ hi) hst hcf hin (by rw [q2]; exact k6) q1 q3 (by rw [hsl]; exact k2_hasslot (q4 j hj)) rfl rfl d fin
    · rw [if_neg hff] at hlay
      have k6 := u_store hfc hkC hkind hlay hi (h3 j hj) hnf.1 hnf.2
      exact W.putK hx hb (f := f) ⟨hown, hts _ hl, ⟨_, _, _, hsame _ hi⟩, hst⟩ (by rw [q2]; exact k6) q1 q3 (by rw [hsl]; exact k2_hasslot (q4 j hj)) rfl rfl d fin

theorem jq_putI (Γ : jq_G Z X z own cc fr lo) {k v : Int} {ix ci N j : Nat} {J : Int} {f : jq_M → Option α} (ha : jq_at Z z k (ci + 10, N)) (fl : jq_fl own ix ci N j false) (ht : jq_ft ci j = 0) (hJ : (j : Int) = J) (d : decode cc pc = .ok (.putfield ix, 3)) (kk : ∀ σ' : jq_M, jq_J (f σ') K (jq_V Z X z σ' (pc + 3) L st)) : jq_J (jq_lt (jq_st σ k J v) f) K (jq_V Z X z σ pc L (jI v :: jR k :: st)) := by
  rcases X with ⟨⟨p, l, e, R, s, m, args, below, meth, c⟩, A, Q, nL, b, D, cs, ss, ly⟩
  obtain ⟨hx, hb, hml, hown, hts, hK, hlk, hA, hfr, hlo, hc, hs, hal, hzk, hSF, hAb, hNw⟩ := Γ
  intro r hF hR hos hol hwf hly H locs ls hP hS hsz hl
  obtain ⟨n, rfl, hn, hz⟩ := ha
  subst hJ
  have hj : j < N := by obtain ⟨_, _, _, _, hj, _⟩ := fl; exact hj
  have hos1 := jq_os_c.mp hos
  have hos2 := jq_os_c.mp hos1.2
  have hty : jq_ty (ci + 10, N) j = 0 := by rw [jq_ty_o]; exact ht
  have w := kk _ r hF hR hos2.2 hol (jq_wf_st (v := v) hwf hz (by rw [hty]; exact hos1.1)) (fun h => jq_lay_st hzk (hly h) hz (by rw [hty]; decide))
  rw [show jq_eS b ss (jI v :: jR (n : Int) :: st) = jq_fv b (jq_ft ci j) v :: .ref (b + n) :: jq_eS b ss st by rw [ht]; exact congrArg (fun q => jq_e b ss (jI v) :: q) (jq_reS b ss n st)]
  exact jq_put0 hx hb hts hown hK hA hP hS hn hz fl (Or.inl rfl) (fun h => by rw [ht] at h; cases h) d (fun H1 locs1 hP1 hS1 hz1 => w H1 locs1 ls hP1 hS1 (fun q => by rw [hz1]; exact hsz q) hl)
theorem jq_putL (Γ : jq_G Z X z own cc fr lo) {k v : Int} {ix ci N j : Nat} {J : Int} {f : jq_M → Option α} (ha : jq_at Z z k (ci + 10, N)) (fl : jq_fl own ix ci N j false) (ht : jq_ft ci j = 1) (hJ : (j : Int) = J) (d : decode cc pc = .ok (.putfield ix, 3)) (kk : ∀ σ' : jq_M, jq_J (f σ') K (jq_V Z X z σ' (pc + 3) L st)) : jq_J (jq_lt (jq_st σ k J v) f) K (jq_V Z X z σ pc L (jL v :: jR k :: st)) := by
  rcases X with ⟨⟨p, l, e, R, s, m, args, below, meth, c⟩, A, Q, nL, b, D, cs, ss, ly⟩
  obtain ⟨hx, hb, hml, hown, hts, hK, hlk, hA, hfr, hlo, hc, hs, hal, hzk, hSF, hAb, hNw⟩ := Γ
  intro r hF hR hos hol hwf hly H locs ls hP hS hsz hl
  obtain ⟨n, rfl, hn, hz⟩ := ha
  subst hJ
  have hj : j < N := by obtain ⟨_, _, _, _, hj, _⟩ := fl; exact hj
  have hos1 := jq_os_c.mp hos
  have hos2 := jq_os_c.mp hos1.2
  have hty : jq_ty (ci + 10, N) j = 1 := by rw [jq_ty_o]; exact ht
  have w := kk _ r hF hR hos2.2 hol (jq_wf_st (v := v) hwf hz (by rw [hty]; exact hos1.1)) (fun h => jq_lay_st hzk (hly h) hz (by rw [hty]; decide))
  rw [show jq_eS b ss (jL v :: jR (n : Int) :: st) = jq_fv b (jq_ft ci j) v :: .ref (b + n) :: jq_eS b ss st by rw [ht]; exact congrArg (fun q => jq_e b ss (jL v) :: q) (jq_reS b ss n st)]
  exact jq_put0 hx hb hts hown hK hA hP hS hn hz fl (Or.inl rfl) (fun h => by rw [ht] at h; cases h) d (fun H1 locs1 hP1 hS1 hz1 => w H1 locs1 ls hP1 hS1 (fun q => by rw [hz1]; exact hsz q) hl)
theorem jq_putZ (Γ : jq_G Z X z own cc fr lo) {k v : Int} {ix ci N j : Nat} {J : Int} {f : jq_M → Option α} (ha : jq_at Z z k (ci + 10, N)) (fl : jq_fl own ix ci N j false) (ht : jq_ft ci j = 3) (hJ : (j : Int) = J) (hv : v = 0 ∨ v = 1) (d : decode cc pc = .ok (.putfield ix, 3)) (kk : ∀ σ' : jq_M, jq_J (f σ') K (jq_V Z X z σ' (pc + 3) L st)) : jq_J (jq_lt (jq_st σ k J v) f) K (jq_V Z X z σ pc L (jI v :: jR k :: st)) := by
  rcases X with ⟨⟨p, l, e, R, s, m, args, below, meth, c⟩, A, Q, nL, b, D, cs, ss, ly⟩
  obtain ⟨hx, hb, hml, hown, hts, hK, hlk, hA, hfr, hlo, hc, hs, hal, hzk, hSF, hAb, hNw⟩ := Γ
  intro r hF hR hos hol hwf hly H locs ls hP hS hsz hl
  obtain ⟨n, rfl, hn, hz⟩ := ha
  subst hJ
  have hj : j < N := by obtain ⟨_, _, _, _, hj, _⟩ := fl; exact hj
  have hos1 := jq_os_c.mp hos
  have hos2 := jq_os_c.mp hos1.2
  have hty : jq_ty (ci + 10, N) j = 3 := by rw [jq_ty_o]; exact ht
  have w := kk _ r hF hR hos2.2 hol (jq_wf_st (v := v) hwf hz (by rw [hty]; exact hv)) (fun h => jq_lay_st hzk (hly h) hz (by rw [hty]; decide))
  rw [show jq_eS b ss (jI v :: jR (n : Int) :: st) = jq_fv b (jq_ft ci j) v :: .ref (b + n) :: jq_eS b ss st by rw [ht]; exact congrArg (fun q => jq_e b ss (jI v) :: q) (jq_reS b ss n st)]
  exact jq_put0 hx hb hts hown hK hA hP hS hn hz fl (Or.inl rfl) (fun h => by exact hv) d (fun H1 locs1 hP1 hS1 hz1 => w H1 locs1 ls hP1 hS1 (fun q => by rw [hz1]; exact hsz q) hl)
/-- a reference that is not held for good -/
theorem jq_putM (Γ : jq_G Z X z own cc fr lo) {k v : Int} {ix ci N j : Nat} {J : Int} {f : jq_M → Option α} (ha : jq_at Z z k (ci + 10, N)) (fl : jq_fl own ix ci N j false) (ht : jq_ft ci j = 2) (hJ : (j : Int) = J) (hnl : ∀ q ∈ Z.2.1, q.1 = k → q.2.1 = J → v ∈ q.2.2) (d : decode cc pc = .ok (.putfield ix, 3)) (kk : ∀ σ' : jq_M, jq_J (f σ') K (jq_V Z X z σ' (pc + 3) L st)) : jq_J (jq_lt (jq_st σ k J v) f) K (jq_V Z X z σ pc L (jR v :: jR k :: st)) := by
  rcases X with ⟨⟨p, l, e, R, s, m, args, below, meth, c⟩, A, Q, nL, b, D, cs, ss, ly⟩
  obtain ⟨hx, hb, hml, hown, hts, hK, hlk, hA, hfr, hlo, hc, hs, hal, hzk, hSF, hAb, hNw⟩ := Γ
  intro r hF hR hos hol hwf hly H locs ls hP hS hsz hl
  obtain ⟨n, rfl, hn, hz⟩ := ha
  subst hJ
  have hj : j < N := by obtain ⟨_, _, _, _, hj, _⟩ := fl; exact hj
  have hos1 := jq_os_c.mp hos
  have hos2 := jq_os_c.mp hos1.2
  have hty : jq_ty (ci + 10, N) j = 2 := by rw [jq_ty_o]; exact ht
  have w := kk _ r hF hR hos2.2 hol (jq_wf_st (v := v) hwf hz (by rw [hty]; exact trivial)) (fun h q hq => by
    unfold jq_st
    split
    · rename_i hh
      exact hnl q hq hh.1 hh.2
    · exact hly h q hq)
  rw [show jq_eS b ss (jR v :: jR (n : Int) :: st) = jq_fv b (jq_ft ci j) v :: .ref (b + n) :: jq_eS b ss st by rw [ht]; exact congrArg (fun q => jq_e b ss (jR v) :: q) (jq_reS b ss n st)]
  exact jq_put0 hx hb hts hown hK hA hP hS hn hz fl (Or.inl rfl) (fun h => by rw [ht] at h; cases h) d (fun H1 locs1 hP1 hS1 hz1 => w H1 locs1 ls hP1 hS1 (fun q => by rw [hz1]; exact hsz q) hl)
theorem jq_ix {i : Int} {n : Nat} (h : 0 ≤ i ∧ i < (n : Int)) (hi : jq_r i) : vp_in (Int32.ofInt i) n ∧ (Int32.ofInt i).toNatClampNeg = i.toNat := by
  have e : (Int32.ofInt i).toInt = i := by rw [jq_toInt, jq_w_id hi]
  refine ⟨vp_in_iff.mpr (by rw [e]; exact h), ?_⟩
  show (Int32.ofInt i).toInt.toNat = i.toNat
  rw [e]
theorem jq_iald (Γ : jq_G Z X z own cc fr lo) {k i : Int} {n : Nat} {N : Int} {f : Int → Option α} (ha : jq_at Z z k (0, n)) (hN : (n : Int) = N) (d : decode cc pc = .ok (.iaload, 1)) (kk : ∀ v, jq_J (f v) K (jq_V Z X z σ (pc + 1) L (jI v :: st))) : jq_J ((jq_ld σ k N i).bind f) K (jq_V Z X z σ pc L (jI i :: jR k :: st)) := by
  rcases X with ⟨⟨p, l, e, R, s, m, args, below, meth, c⟩, A, Q, nL, b, D, cs, ss, ly⟩
  obtain ⟨hx, hb, hml, hown, hts, hK, hlk, hA, hfr, hlo, hc, hs, hal, hzk, hSF, hAb, hNw⟩ := Γ
  intro r hF hR hos hol hwf hly H locs ls hP hS hsz hl
  obtain ⟨q, rfl, hq, hz⟩ := ha
  subst hN
  unfold jq_ld at hF
  by_cases hi : 0 ≤ i ∧ i < (n : Int)
  · rw [if_pos hi] at hF
    have hos1 := jq_os_c.mp hos
    have hos2 := jq_os_c.mp hos1.2
    obtain ⟨hin, hcl⟩ := jq_ix hi hos1.1
    have ei : ((i.toNat : Nat) : Int) = i := by omega
    have hg := hwf q i.toNat _ hq hz (by show i.toNat < n; omega)
    rw [ei] at hg
    have w := kk _ r hF hR (jq_os_c.mpr ⟨hg, hos2.2⟩) hol hwf hly H locs ls hP hS hsz hl
    rw [show jq_eS b ss (jI i :: jR (q : Int) :: st) = .int (Int32.ofInt i) :: .ref (b + q) :: jq_eS b ss st from congrArg (fun v => jq_e b ss (jI i) :: v) (jq_reS b ss q st)]
    refine va_iald hx hb hK hP q 0 (jq_ws_at (b := b) (cs := cs) hq hz) rfl hin d ?_
    rw [hcl, ei]
    exact w
  · rw [if_neg hi] at hF
    cases hF
theorem jq_lald (Γ : jq_G Z X z own cc fr lo) {k i : Int} {n : Nat} {N : Int} {f : Int → Option α} (ha : jq_at Z z k (1, n)) (hN : (n : Int) = N) (d : decode cc pc = .ok (.laload, 1)) (kk : ∀ v, jq_J (f v) K (jq_V Z X z σ (pc + 1) L (jL v :: st))) : jq_J ((jq_ld σ k N i).bind f) K (jq_V Z X z σ pc L (jI i :: jR k :: st)) := by
  rcases X with ⟨⟨p, l, e, R, s, m, args, below, meth, c⟩, A, Q, nL, b, D, cs, ss, ly⟩
  obtain ⟨hx, hb, hml, hown, hts, hK, hlk, hA, hfr, hlo, hc, hs, hal, hzk, hSF, hAb, hNw⟩ := Γ
  intro r hF hR hos hol hwf hly H locs ls hP hS hsz hl
  obtain ⟨q, rfl, hq, hz⟩ := ha
  subst hN
  unfold jq_ld at hF
  by_cases hi : 0 ≤ i ∧ i < (n : Int)
  · rw [if_pos hi] at hF
    have hos1 := jq_os_c.mp hos
    have hos2 := jq_os_c.mp hos1.2
    obtain ⟨hin, hcl⟩ := jq_ix hi hos1.1
    have ei : ((i.toNat : Nat) : Int) = i := by omega
    have hg := hwf q i.toNat _ hq hz (by show i.toNat < n; omega)
    rw [ei] at hg
    have w := kk _ r hF hR (jq_os_c.mpr ⟨hg, hos2.2⟩) hol hwf hly H locs ls hP hS hsz hl
    rw [show jq_eS b ss (jI i :: jR (q : Int) :: st) = .int (Int32.ofInt i) :: .ref (b + q) :: jq_eS b ss st from congrArg (fun v => jq_e b ss (jI i) :: v) (jq_reS b ss q st)]
    refine va_lald hx hb hK hP q 1 (jq_ws_at (b := b) (cs := cs) hq hz) rfl hin d ?_
    rw [hcl, ei]
    exact w
  · rw [if_neg hi] at hF
    cases hF
theorem jq_bald (Γ : jq_G Z X z own cc fr lo) {k i : Int} {n : Nat} {N : Int} {f : Int → Option α} (ha : jq_at Z z k (2, n)) (hN : (n : Int) = N) (d : decode cc pc = .ok (.baload, 1)) (kk : ∀ v, jq_J (f v) K (jq_V Z X z σ (pc + 1) L (jI v :: st))) : jq_J ((jq_ld σ k N i).bind f) K (jq_V Z X z σ pc L (jI i :: jR k :: st)) := by
  rcases X with ⟨⟨p, l, e, R, s, m, args, below, meth, c⟩, A, Q, nL, b, D, cs, ss, ly⟩
  obtain ⟨hx, hb, hml, hown, hts, hK, hlk, hA, hfr, hlo, hc, hs, hal, hzk, hSF, hAb, hNw⟩ := Γ
  intro r hF hR hos hol hwf hly H locs ls hP hS hsz hl
  obtain ⟨q, rfl, hq, hz⟩ := ha
  subst hN
  unfold jq_ld at hF
  by_cases hi : 0 ≤ i ∧ i < (n : Int)
  · rw [if_pos hi] at hF
    have hos1 := jq_os_c.mp hos
    have hos2 := jq_os_c.mp hos1.2
    obtain ⟨hin, hcl⟩ := jq_ix hi hos1.1
    have ei : ((i.toNat : Nat) : Int) = i := by omega
    have hg := hwf q i.toNat _ hq hz (by show i.toNat < n; omega)
    rw [ei] at hg
    have w := kk _ r hF hR (jq_os_c.mpr ⟨(jq_rg_r (ty := 4) hg (by decide) (by decide)), hos2.2⟩) hol hwf hly H locs ls hP hS hsz hl
    rw [show jq_eS b ss (jI i :: jR (q : Int) :: st) = .int (Int32.ofInt i) :: .ref (b + q) :: jq_eS b ss st from congrArg (fun v => jq_e b ss (jI i) :: v) (jq_reS b ss q st)]
    refine va_bald hx hb hK hP q 2 (jq_ws_at (b := b) (cs := cs) hq hz) rfl hin d ?_
    rw [hcl, ei]
    exact w
  · rw [if_neg hi] at hF
    cases hF
theorem jq_iast (Γ : jq_G Z X z own cc fr lo) {k i v : Int} {n : Nat} {N : Int} {f : jq_M → Option α} (ha : jq_at Z z k (0, n)) (hN : (n : Int) = N) (d : decode cc pc = .ok (.iastore, 1)) (kk : ∀ σ' : jq_M, jq_J (f σ') K (jq_V Z X z σ' (pc + 1) L st)) : jq_J ((jq_sa σ k N i v).bind f) K (jq_V Z X z σ pc L (jI v :: jI i :: jR k :: st)) := by
  rcases X with ⟨⟨p, l, e, R, s, m, args, below, meth, c⟩, A, Q, nL, b, D, cs, ss, ly⟩
  obtain ⟨hx, hb, hml, hown, hts, hK, hlk, hA, hfr, hlo, hc, hs, hal, hzk, hSF, hAb, hNw⟩ := Γ
  intro r hF hR hos hol hwf hly H locs ls hP hS hsz hl
  obtain ⟨q, rfl, hq, hz⟩ := ha
  subst hN
  unfold jq_sa at hF
  by_cases hi : 0 ≤ i ∧ i < (n : Int)
  · rw [if_pos hi] at hF
    have hos1 := jq_os_c.mp hos
    have hos2 := jq_os_c.mp hos1.2
    obtain ⟨hin, hcl⟩ := jq_ix hi hos2.1
    have ei : ((i.toNat : Nat) : Int) = i := by omega
    have hwf2 := jq_wf_st (j := i.toNat) (v := v) hwf hz hos1.1
    have hly2 := fun h => jq_lay_st (j := i.toNat) (v := v) hzk (hly h) hz (show jq_ty (0, n) i.toNat ≠ 2 by show (0 : Nat) ≠ 2; decide)
    rw [ei] at hwf2 hly2
    have w := kk _ r hF hR (jq_os_c.mp hos2.2).2 hol hwf2 hly2
    rw [show jq_eS b ss (jI v :: jI i :: jR (q : Int) :: st) = .int (Int32.ofInt v) :: .int (Int32.ofInt i) :: .ref (b + q) :: jq_eS b ss st from congrArg (fun v' => jq_e b ss (jI v) :: jq_e b ss (jI i) :: v') (jq_reS b ss q st)]
    have he := jq_ws_at (b := b) (cs := cs) (σ := σ) hq hz
    refine W.iast hx hb (hP q _ he) ((hK.2 0 _ rfl).1 n (fun j => .int (Int32.ofInt (σ q j)))) (fun q => by cases q) (by show ¬ (_ < 0 ∨ (arrV _ _ _).slots.size ≤ _); rw [arrV_size]; exact hin) rfl rfl d fun H1 e1 z1 oq => ?_
    have hP2 := hP.set (jq_ws_D hA) he (e := jq_en b cs (0, n) (jq_st σ q i v q)) (by
      show H1[b + q]? = some (vp_cell _ _)
      rw [e1]
      show some ((vp_cell _ _).setSlot _ _) = some (vp_cell _ _)
      rw [vp_cell_i, vp_cell_i, arrV_store]
      congr 2
      funext j
      rw [hcl]
      unfold updV jq_st
      by_cases hj : j = i.toNat
      · subst hj
        simp [ei]
      · have : ¬ ((j : Int) = i) := by omega
        simp [hj, this]) oq
    rw [jq_ws_set hq hz rfl (fun q' hq' => jq_st_ne hq')] at hP2
    exact w H1 _ ls hP2 (hS.put z1 oq (hA q hq)) (fun h => by rw [z1]; exact hsz h) hl
  · rw [if_neg hi] at hF
    cases hF
theorem jq_last (Γ : jq_G Z X z own cc fr lo) {k i v : Int} {n : Nat} {N : Int} {f : jq_M → Option α} (ha : jq_at Z z k (1, n)) (hN : (n : Int) = N) (d : decode cc pc = .ok (.lastore, 1)) (kk : ∀ σ' : jq_M, jq_J (f σ') K (jq_V Z X z σ' (pc + 1) L st)) : jq_J ((jq_sa σ k N i v).bind f) K (jq_V Z X z σ pc L (jL v :: jI i :: jR k :: st)) := by
  rcases X with ⟨⟨p, l, e, R, s, m, args, below, meth, c⟩, A, Q, nL, b, D, cs, ss, ly⟩
  obtain ⟨hx, hb, hml, hown, hts, hK, hlk, hA, hfr, hlo, hc, hs, hal, hzk, hSF, hAb, hNw⟩ := Γ
  intro r hF hR hos hol hwf hly H locs ls hP hS hsz hl
  obtain ⟨q, rfl, hq, hz⟩ := ha
  subst hN
  unfold jq_sa at hF
  by_cases hi : 0 ≤ i ∧ i < (n : Int)
  · rw [if_pos hi] at hF
    have hos1 := jq_os_c.mp hos
    have hos2 := jq_os_c.mp hos1.2
    obtain ⟨hin, hcl⟩ := jq_ix hi hos2.1
    have ei : ((i.toNat : Nat) : Int) = i := by omega
    have hwf2 := jq_wf_st (j := i.toNat) (v := v) hwf hz hos1.1
    have hly2 := fun h => jq_lay_st (j := i.toNat) (v := v) hzk (hly h) hz (show jq_ty (1, n) i.toNat ≠ 2 by show (1 : Nat) ≠ 2; decide)
    rw [ei] at hwf2 hly2
    have w := kk _ r hF hR (jq_os_c.mp hos2.2).2 hol hwf2 hly2
    rw [show jq_eS b ss (jL v :: jI i :: jR (q : Int) :: st) = .long (Int64.ofInt v) :: .int (Int32.ofInt i) :: .ref (b + q) :: jq_eS b ss st from congrArg (fun v' => jq_e b ss (jL v) :: jq_e b ss (jI i) :: v') (jq_reS b ss q st)]
    have he := jq_ws_at (b := b) (cs := cs) (σ := σ) hq hz
    refine W.last hx hb (hP q _ he) ((hK.2 1 _ rfl).1 n (fun j => .long (Int64.ofInt (σ q j)))) (fun q => by cases q) (by show ¬ (_ < 0 ∨ (arrV _ _ _).slots.size ≤ _); rw [arrV_size]; exact hin) rfl rfl d fun H1 e1 z1 oq => ?_
    have hP2 := hP.set (jq_ws_D hA) he (e := jq_en b cs (1, n) (jq_st σ q i v q)) (by
      show H1[b + q]? = some (vp_cell _ _)
      rw [e1]
      show some ((vp_cell _ _).setSlot _ _) = some (vp_cell _ _)
      rw [vp_cell_l, vp_cell_l, arrV_store]
      congr 2
      funext j
      rw [hcl]
      unfold updV jq_st
      by_cases hj : j = i.toNat
      · subst hj
        simp [ei]
      · have : ¬ ((j : Int) = i) := by omega
        simp [hj, this]) oq
    rw [jq_ws_set hq hz rfl (fun q' hq' => jq_st_ne hq')] at hP2
    exact w H1 _ ls hP2 (hS.put z1 oq (hA q hq)) (fun h => by rw [z1]; exact hsz h) hl
  · rw [if_neg hi] at hF
    cases hF
def jq_sb (σ : jq_M) (k n i v : Int) : Option jq_M := if 0 ≤ i ∧ i < n then some (jq_st σ k i (jq_w8 v)) else none
theorem jq_bast (Γ : jq_G Z X z own cc fr lo) {k i v : Int} {n : Nat} {N : Int} {f : jq_M → Option α} (ha : jq_at Z z k (2, n)) (hN : (n : Int) = N) (d : decode cc pc = .ok (.bastore, 1)) (kk : ∀ σ' : jq_M, jq_J (f σ') K (jq_V Z X z σ' (pc + 1) L st)) : jq_J ((jq_sb σ k N i v).bind f) K (jq_V Z X z σ pc L (jI v :: jI i :: jR k :: st)) := by
  rcases X with ⟨⟨p, l, e, R, s, m, args, below, meth, c⟩, A, Q, nL, b, D, cs, ss, ly⟩
  obtain ⟨hx, hb, hml, hown, hts, hK, hlk, hA, hfr, hlo, hc, hs, hal, hzk, hSF, hAb, hNw⟩ := Γ
  intro r hF hR hos hol hwf hly H locs ls hP hS hsz hl
  obtain ⟨q, rfl, hq, hz⟩ := ha
  subst hN
  unfold jq_sb at hF
  by_cases hi : 0 ≤ i ∧ i < (n : Int)
  · rw [if_pos hi] at hF
    have hos1 := jq_os_c.mp hos
    have hos2 := jq_os_c.mp hos1.2
    obtain ⟨hin, hcl⟩ := jq_ix hi hos2.1
    have ei : ((i.toNat : Nat) : Int) = i := by omega
    have hwf2 := jq_wf_st (j := i.toNat) (v := jq_w8 v) hwf hz (by show -128 ≤ _ ∧ _ < 128; unfold jq_w8; omega)
    have hly2 := fun h => jq_lay_st (j := i.toNat) (v := jq_w8 v) hzk (hly h) hz (show jq_ty (2, n) i.toNat ≠ 2 by show (4 : Nat) ≠ 2; decide)
    rw [ei] at hwf2 hly2
    have w := kk _ r hF hR (jq_os_c.mp hos2.2).2 hol hwf2 hly2
    rw [show jq_eS b ss (jI v :: jI i :: jR (q : Int) :: st) = .int (Int32.ofInt v) :: .int (Int32.ofInt i) :: .ref (b + q) :: jq_eS b ss st from congrArg (fun v' => jq_e b ss (jI v) :: jq_e b ss (jI i) :: v') (jq_reS b ss q st)]
    have he := jq_ws_at (b := b) (cs := cs) (σ := σ) hq hz
    refine W.bast hx hb (hP q _ he) ((hK.2 2 _ rfl).1 n (fun j => .int (Int32.ofInt (σ q j)))) (fun q => by cases q) (by show ¬ (_ < 0 ∨ (arrV _ _ _).slots.size ≤ _); rw [arrV_size]; exact hin) rfl rfl d fun H1 e1 z1 oq => ?_
    have hP2 := hP.set (jq_ws_D hA) he (e := jq_en b cs (2, n) (jq_st σ q i (jq_w8 v) q)) (by
      show H1[b + q]? = some (vp_cell _ _)
      rw [e1]
      show some ((vp_cell _ _).setSlot _ (.int (Int32.ofInt v).toInt8.toInt32)) = some (vp_cell _ _)
      rw [vp_cell_i, vp_cell_i, arrV_store, jq_i2b_eq]
      congr 2
      funext j
      rw [hcl]
      unfold updV jq_st
      by_cases hj : j = i.toNat
      · subst hj
        simp [ei]
      · have : ¬ ((j : Int) = i) := by omega
        simp [hj, this]) oq
    rw [jq_ws_set hq hz rfl (fun q' hq' => jq_st_ne hq')] at hP2
    exact w H1 _ ls hP2 (hS.put z1 oq (hA q hq)) (fun h => by rw [z1]; exact hsz h) hl
  · rw [if_neg hi] at hF
    cases hF
/-- a reference that changes, but of a few -/
theorem jq_getC (Γ : jq_G Z X z own cc fr lo) {k : Int} {ix ci N j : Nat} {fin : Bool} {J : Int} {C : Int → Prop} {f : Int → Option α} (hlY : jq_ly X) (ha : jq_at Z z k (ci + 10, N)) (fl : jq_fl own ix ci N j fin) (ht : jq_ft ci j = 2) (hJ : (j : Int) = J) (hv : jq_lay Z σ → C (σ k J)) (d : decode cc pc = .ok (.getfield ix, 3)) (kk : ∀ v : Int, C v → jq_J (f v) K (jq_V Z X z σ (pc + 3) L (jR v :: st))) : jq_J (jq_lt (σ k J) f) K (jq_V Z X z σ pc L (jR k :: st)) := by
  rcases X with ⟨⟨p, l, e, R, s, m, args, below, meth, c⟩, A, Q, nL, b, D, cs, ss, ly⟩
  obtain ⟨hx, hb, hml, hown, hts, hK, hlk, hA, hfr, hlo, hc, hs, hal, hzk, hSF, hAb, hNw⟩ := Γ
  intro r hF hR hos hol hwf hly H locs ls hP hS hsz hl
  obtain ⟨n, rfl, hn, hz⟩ := ha
  subst hJ
  have hv := hv (hly hlY)
  have w := kk _ hv r hF hR (jq_os_c.mpr ⟨trivial, (jq_os_c.mp hos).2⟩) hol hwf hly H locs ls hP hS hsz hl
  rw [jq_reS]
  refine jq_get0 hx hb hts hown hK hP hn hz fl d ?_
  rw [ht]
  exact w
def jq_chk (i n : Int) : Option Int := if 0 ≤ i ∧ i < n then some i else none
/-- an object out of a row of objects that is held for good -/
theorem jq_aald3 (Γ : jq_G Z X z own cc fr lo) {k i : Int} {n : Nat} {N : Int} {f : Int → Option α} (hlY : jq_ly X) (ha : jq_at Z z k (3, n)) (hN : (n : Int) = N) (g : Int → Int) (hv : ∀ i : Int, 0 ≤ i → i < N → jq_lay Z σ → σ k i = g i) (d : decode cc pc = .ok (.aaload, 1)) (kk : ∀ i : Int, 0 ≤ i → i < N → jq_J (f i) K (jq_V Z X z σ (pc + 1) L (jR (g i) :: st))) : jq_J ((jq_chk i N).bind f) K (jq_V Z X z σ pc L (jI i :: jR k :: st)) := by
  rcases X with ⟨⟨p, l, e, R, s, m, args, below, meth, c⟩, A, Q, nL, b, D, cs, ss, ly⟩
  obtain ⟨hx, hb, hml, hown, hts, hK, hlk, hA, hfr, hlo, hc, hs, hal, hzk, hSF, hAb, hNw⟩ := Γ
  intro r hF hR hos hol hwf hly H locs ls hP hS hsz hl
  obtain ⟨q, rfl, hq, hz⟩ := ha
  subst hN
  unfold jq_chk at hF
  by_cases hi : 0 ≤ i ∧ i < (n : Int)
  · rw [if_pos hi] at hF
    have hos1 := jq_os_c.mp hos
    have hos2 := jq_os_c.mp hos1.2
    obtain ⟨hin, hcl⟩ := jq_ix hi hos1.1
    have ei : ((i.toNat : Nat) : Int) = i := by omega
    have w := kk i hi.1 hi.2 r hF hR (jq_os_c.mpr ⟨trivial, hos2.2⟩) hol hwf hly H locs ls hP hS hsz hl
    rw [show jq_eS b ss (jI i :: jR (q : Int) :: st) = .int (Int32.ofInt i) :: .ref (b + q) :: jq_eS b ss st from congrArg (fun v => jq_e b ss (jI i) :: v) (jq_reS b ss q st)]
    refine va_aldq hx hb hK hP q 3 (jq_ws_at (b := b) (cs := cs) hq hz) rfl hin d ?_
    rw [hcl, ei, hv i hi.1 hi.2 (hly hlY)]
    exact w
  · rw [if_neg hi] at hF
    cases hF
/-- an object out of a row of objects that is held for good -/
theorem jq_aald4 (Γ : jq_G Z X z own cc fr lo) {k i : Int} {n : Nat} {N : Int} {f : Int → Option α} (hlY : jq_ly X) (ha : jq_at Z z k (4, n)) (hN : (n : Int) = N) (g : Int → Int) (hv : ∀ i : Int, 0 ≤ i → i < N → jq_lay Z σ → σ k i = g i) (d : decode cc pc = .ok (.aaload, 1)) (kk : ∀ i : Int, 0 ≤ i → i < N → jq_J (f i) K (jq_V Z X z σ (pc + 1) L (jR (g i) :: st))) : jq_J ((jq_chk i N).bind f) K (jq_V Z X z σ pc L (jI i :: jR k :: st)) := by
  rcases X with ⟨⟨p, l, e, R, s, m, args, below, meth, c⟩, A, Q, nL, b, D, cs, ss, ly⟩
  obtain ⟨hx, hb, hml, hown, hts, hK, hlk, hA, hfr, hlo, hc, hs, hal, hzk, hSF, hAb, hNw⟩ := Γ
  intro r hF hR hos hol hwf hly H locs ls hP hS hsz hl
  obtain ⟨q, rfl, hq, hz⟩ := ha
  subst hN
  unfold jq_chk at hF
  by_cases hi : 0 ≤ i ∧ i < (n : Int)
  · rw [if_pos hi] at hF
    have hos1 := jq_os_c.mp hos
    have hos2 := jq_os_c.mp hos1.2
    obtain ⟨hin, hcl⟩ := jq_ix hi hos1.1
    have ei : ((i.toNat : Nat) : Int) = i := by omega
    have w := kk i hi.1 hi.2 r hF hR (jq_os_c.mpr ⟨trivial, hos2.2⟩) hol hwf hly H locs ls hP hS hsz hl
    rw [show jq_eS b ss (jI i :: jR (q : Int) :: st) = .int (Int32.ofInt i) :: .ref (b + q) :: jq_eS b ss st from congrArg (fun v => jq_e b ss (jI i) :: v) (jq_reS b ss q st)]
    refine va_aldq hx hb hK hP q 4 (jq_ws_at (b := b) (cs := cs) hq hz) rfl hin d ?_
    rw [hcl, ei, hv i hi.1 hi.2 (hly hlY)]
    exact w
  · rw [if_neg hi] at hF
    cases hF
theorem jq_copyi (Γ : jq_G Z X z own cc fr lo) {k i k1 i1 c0 : Int} {n n1 ix : Nat} {N N1 : Int} {f : jq_M → Option α} (ha : jq_at Z z k (0, n)) (ha1 : jq_at Z z k1 (0, n1)) (hzf : z.2.2.2 = false) (hN : (n : Int) = N) (hN1 : (n1 : Int) = N1) (hw : Cond.methodLink own ix arraycopyName ∈ jq_T) (hw1 : Cond.native arraycopyName ∈ jq_T) (hw2 : Cond.static arraycopyName ∈ jq_T) (hw3 : Cond.initialized "java/lang/System" ∈ jq_T) (hfr1 : Nat.ble 1 fr = true) (hlo1 : Nat.ble ((st.map jq_c).sum + (nativeFrameWords "java/lang/System" "arraycopy" 5 + 11)) lo = true) (d : decode cc pc = .ok (.invokestatic ix, 3)) (kk : ∀ σ' : jq_M, jq_J (f σ') K (jq_V Z X z σ' (pc + 3) L st)) : jq_J ((jq_cpy σ k N i k1 N1 i1 c0).bind f) K (jq_V Z X z σ pc L (jI c0 :: jI i1 :: jR k1 :: jI i :: jR k :: st)) := by
  rcases X with ⟨⟨p, l, e, R, s, m, args, below, meth, c⟩, A, Q, nL, b, D, cs, ss, ly⟩
  obtain ⟨hx, hb, hml, hown, hts, hK, hlk, hA, hfr, hlo, hc, hs, hal, hzk, hSF, hAb, hNw⟩ := Γ
  intro r hF hR hos hol hwf hly H locs ls hP hS hsz hl
  obtain ⟨q, rfl, hq, hz⟩ := ha
  obtain ⟨q1, rfl, hq1, hz1⟩ := ha1
  subst hN
  subst hN1
  unfold jq_cpy at hF
  by_cases hi : 0 ≤ i ∧ 0 ≤ i1 ∧ 0 ≤ c0 ∧ i + c0 ≤ (n : Int) ∧ i1 + c0 ≤ (n1 : Int)
  · rw [if_pos hi] at hF
    obtain ⟨g1, g2, g3, g4, g5⟩ := hi
    have o1 := jq_os_c.mp hos
    have o2 := jq_os_c.mp o1.2
    have o3 := jq_os_c.mp o2.2
    have o4 := jq_os_c.mp o3.2
    have o5 := jq_os_c.mp o4.2
    have en : ∀ x : Int, jq_r x → 0 ≤ x → ¬ Int32.ofInt x < 0 ∧ (Int32.ofInt x).toNatClampNeg = x.toNat := by
      intro x hr h0
      have e : (Int32.ofInt x).toInt = x := by rw [jq_toInt, jq_w_id hr]
      refine ⟨fun h => ?_, by show (Int32.ofInt x).toInt.toNat = _; rw [e]⟩
      have := Int32.lt_iff_toInt_lt.mp h
      rw [e] at this
      simp at this
      omega
    obtain ⟨a1, a2⟩ := en i o4.1 g1
    obtain ⟨b1, b2⟩ := en i1 o2.1 g2
    obtain ⟨d1, d2⟩ := en c0 o1.1 g3
    have hwf2 : jq_wf Z z.1 (jq_cp σ q i q1 i1 c0) := by
      intro k' j' kd' hk' hz' hj'
      unfold jq_cp
      split
      · rename_i hh
        have e1 : k' = q1 := by omega
        subst e1
        rw [hz1] at hz'
        cases hz'
        have e2 : i + (j' - i1) = ((i + (j' - i1)).toNat : Int) := by omega
        rw [e2]
        exact hwf q _ _ hq hz (by show (i + (j' - i1)).toNat < n; omega)
      · exact hwf k' j' kd' hk' hz' hj'
    have hly2 : ly → jq_lay Z (jq_cp σ q i q1 i1 c0) := by
      intro h q' hq'
      obtain ⟨k', j', kd', e1, e2, e3, e4⟩ := hzk q' hq'
      unfold jq_cp
      rw [if_neg]
      · exact hly h q' hq'
      · rintro ⟨h1, h2⟩
        have e5 : k' = q1 := by omega
        subst e5
        rw [hz1] at e3
        cases e3
        exact absurd (show jq_ty (0, n1) j' = 0 from rfl) (by rw [e4]; decide)
    have w := kk _ r hF hR o5.2 hol hwf2 hly2
    rw [show jq_eS b ss (jI c0 :: jI i1 :: jR (q1 : Int) :: jI i :: jR (q : Int) :: st) = .int (Int32.ofInt c0) :: .int (Int32.ofInt i1) :: .ref (b + q1) :: .int (Int32.ofInt i) :: .ref (b + q) :: jq_eS b ss st by
      show .int (Int32.ofInt c0) :: .int (Int32.ofInt i1) :: jq_eS b ss (jR (q1 : Int) :: jI i :: jR (q : Int) :: st) = _
      rw [jq_reS]
      show _ :: _ :: _ :: .int (Int32.ofInt i) :: jq_eS b ss (jR (q : Int) :: st) = _
      rw [jq_reS]]
    refine va_copyi hx hb (by rw [hml]; exact hl.1.symm) hown (hts _ hw) (hts _ hw1) (hts _ hw2) (hts _ hw3) hK hP (jq_ws_D hA) hS q q1 0 0 (jq_ws_at (b := b) (cs := cs) hq hz) (jq_ws_at (b := b) (cs := cs) hq1 hz1) rfl rfl rfl a1 b1 d1 (by rw [a2, d2]; omega) (by rw [b2, d2]; omega) (fun _ _ => rfl) (Nat.le_trans (Nat.le_of_ble_eq_true hfr1) hfr) (by rw [jq_eS_cat]; exact Nat.le_trans (Nat.le_of_ble_eq_true hlo1) hlo) d (fun H1 locs1 hP1 hD1 hS1 => w H1 locs1 ls ?_ hS1 (fun h => by rw [hzf] at h; cases h) hl)
    have hset := jq_ws_set (b := b) (cs := cs) (n := z.1) (σ := σ) (σ' := jq_cp σ q i q1 i1 c0) (kd := (0, n1)) (e := .inl (cs 0, n1, .inl (va_cpy (fun j => Int32.ofInt (σ q j)) (fun j => Int32.ofInt (σ q1 j)) (Int32.ofInt i).toNatClampNeg (Int32.ofInt i1).toNatClampNeg (Int32.ofInt c0).toNatClampNeg))) hq1 hz1 ?_ ?_
    · rw [hset] at hP1
      exact hP1
    · rw [a2, b2, d2]
      show (Sum.inl _ : va_E) = Sum.inl _
      congr 4
      funext j
      unfold va_cpy jq_cp
      by_cases hj : i1.toNat ≤ j ∧ j < i1.toNat + c0.toNat
      · rw [if_pos hj, if_pos (by omega), show i + ((j : Int) - i1) = ((i.toNat + (j - i1.toNat) : Nat) : Int) by omega]
      · rw [if_neg hj, if_neg (by omega)]
    · intro q' hq'
      funext j
      unfold jq_cp
      rw [if_neg (by omega)]
  · rw [if_neg hi] at hF
    cases hF
theorem jq_copyl (Γ : jq_G Z X z own cc fr lo) {k i k1 i1 c0 : Int} {n n1 ix : Nat} {N N1 : Int} {f : jq_M → Option α} (ha : jq_at Z z k (1, n)) (ha1 : jq_at Z z k1 (1, n1)) (hzf : z.2.2.2 = false) (hN : (n : Int) = N) (hN1 : (n1 : Int) = N1) (hw : Cond.methodLink own ix arraycopyName ∈ jq_T) (hw1 : Cond.native arraycopyName ∈ jq_T) (hw2 : Cond.static arraycopyName ∈ jq_T) (hw3 : Cond.initialized "java/lang/System" ∈ jq_T) (hfr1 : Nat.ble 1 fr = true) (hlo1 : Nat.ble ((st.map jq_c).sum + (nativeFrameWords "java/lang/System" "arraycopy" 5 + 11)) lo = true) (d : decode cc pc = .ok (.invokestatic ix, 3)) (kk : ∀ σ' : jq_M, jq_J (f σ') K (jq_V Z X z σ' (pc + 3) L st)) : jq_J ((jq_cpy σ k N i k1 N1 i1 c0).bind f) K (jq_V Z X z σ pc L (jI c0 :: jI i1 :: jR k1 :: jI i :: jR k :: st)) := by
  rcases X with ⟨⟨p, l, e, R, s, m, args, below, meth, c⟩, A, Q, nL, b, D, cs, ss, ly⟩
  obtain ⟨hx, hb, hml, hown, hts, hK, hlk, hA, hfr, hlo, hc, hs, hal, hzk, hSF, hAb, hNw⟩ := Γ
  intro r hF hR hos hol hwf hly H locs ls hP hS hsz hl
  obtain ⟨q, rfl, hq, hz⟩ := ha
  obtain ⟨q1, rfl, hq1, hz1⟩ := ha1
  subst hN
  subst hN1
  unfold jq_cpy at hF
  by_cases hi : 0 ≤ i ∧ 0 ≤ i1 ∧ 0 ≤ c0 ∧ i + c0 ≤ (n : Int) ∧ i1 + c0 ≤ (n1 : Int)
  · rw [if_pos hi] at hF
    obtain ⟨g1, g2, g3, g4, g5⟩ := hi
    have o1 := jq_os_c.mp hos
    have o2 := jq_os_c.mp o1.2
    have o3 := jq_os_c.mp o2.2
    have o4 := jq_os_c.mp o3.2
    have o5 := jq_os_c.mp o4.2
    have en : ∀ x : Int, jq_r x → 0 ≤ x → ¬ Int32.ofInt x < 0 ∧ (Int32.ofInt x).toNatClampNeg = x.toNat := by
      intro x hr h0
      have e : (Int32.ofInt x).toInt = x := by rw [jq_toInt, jq_w_id hr]
      refine ⟨fun h => ?_, by show (Int32.ofInt x).toInt.toNat = _; rw [e]⟩
      have := Int32.lt_iff_toInt_lt.mp h
      rw [e] at this
      simp at this
      omega
    obtain ⟨a1, a2⟩ := en i o4.1 g1
    obtain ⟨b1, b2⟩ := en i1 o2.1 g2
    obtain ⟨d1, d2⟩ := en c0 o1.1 g3
    have hwf2 : jq_wf Z z.1 (jq_cp σ q i q1 i1 c0) := by
      intro k' j' kd' hk' hz' hj'
      unfold jq_cp
      split
      · rename_i hh
        have e1 : k' = q1 := by omega
        subst e1
        rw [hz1] at hz'
        cases hz'
        have e2 : i + (j' - i1) = ((i + (j' - i1)).toNat : Int) := by omega
        rw [e2]
        exact hwf q _ _ hq hz (by show (i + (j' - i1)).toNat < n; omega)
      · exact hwf k' j' kd' hk' hz' hj'
    have hly2 : ly → jq_lay Z (jq_cp σ q i q1 i1 c0) := by
      intro h q' hq'
      obtain ⟨k', j', kd', e1, e2, e3, e4⟩ := hzk q' hq'
      unfold jq_cp
      rw [if_neg]
      · exact hly h q' hq'
      · rintro ⟨h1, h2⟩
        have e5 : k' = q1 := by omega
        subst e5
        rw [hz1] at e3
        cases e3
        exact absurd (show jq_ty (1, n1) j' = 1 from rfl) (by rw [e4]; decide)
    have w := kk _ r hF hR o5.2 hol hwf2 hly2
    rw [show jq_eS b ss (jI c0 :: jI i1 :: jR (q1 : Int) :: jI i :: jR (q : Int) :: st) = .int (Int32.ofInt c0) :: .int (Int32.ofInt i1) :: .ref (b + q1) :: .int (Int32.ofInt i) :: .ref (b + q) :: jq_eS b ss st by
      show .int (Int32.ofInt c0) :: .int (Int32.ofInt i1) :: jq_eS b ss (jR (q1 : Int) :: jI i :: jR (q : Int) :: st) = _
      rw [jq_reS]
      show _ :: _ :: _ :: .int (Int32.ofInt i) :: jq_eS b ss (jR (q : Int) :: st) = _
      rw [jq_reS]]
    refine va_copyl hx hb (by rw [hml]; exact hl.1.symm) hown (hts _ hw) (hts _ hw1) (hts _ hw2) (hts _ hw3) hK hP (jq_ws_D hA) hS q q1 1 1 (jq_ws_at (b := b) (cs := cs) hq hz) (jq_ws_at (b := b) (cs := cs) hq1 hz1) rfl rfl rfl a1 b1 d1 (by rw [a2, d2]; omega) (by rw [b2, d2]; omega) (fun _ _ => rfl) (Nat.le_trans (Nat.le_of_ble_eq_true hfr1) hfr) (by rw [jq_eS_cat]; exact Nat.le_trans (Nat.le_of_ble_eq_true hlo1) hlo) d (fun H1 locs1 hP1 hD1 hS1 => w H1 locs1 ls ?_ hS1 (fun h => by rw [hzf] at h; cases h) hl)
    have hset := jq_ws_set (b := b) (cs := cs) (n := z.1) (σ := σ) (σ' := jq_cp σ q i q1 i1 c0) (kd := (1, n1)) (e := .inl (cs 1, n1, .inr (.inl (va_cpy (fun j => Int64.ofInt (σ q j)) (fun j => Int64.ofInt (σ q1 j)) (Int32.ofInt i).toNatClampNeg (Int32.ofInt i1).toNatClampNeg (Int32.ofInt c0).toNatClampNeg)))) hq1 hz1 ?_ ?_
    · rw [hset] at hP1
      exact hP1
    · rw [a2, b2, d2]
      show (Sum.inl _ : va_E) = Sum.inl _
      congr 5
      funext j
      unfold va_cpy jq_cp
      by_cases hj : i1.toNat ≤ j ∧ j < i1.toNat + c0.toNat
      · rw [if_pos hj, if_pos (by omega), show i + ((j : Int) - i1) = ((i.toNat + (j - i1.toNat) : Nat) : Int) by omega]
      · rw [if_neg hj, if_neg (by omega)]
    · intro q' hq'
      funext j
      unfold jq_cp
      rw [if_neg (by omega)]
  · rw [if_neg hi] at hF
    cases hF
end
