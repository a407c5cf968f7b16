section
variable {Z : jq_Z} {X : jq_X} {z : jq_z} {own : String} {cc : ByteArray} {fr lo : Nat} {σ : jq_M} {pc : Nat} {L : List (Nat × jq_A)} {st : List jq_A} {α : Type} {F : Option α} {K : α → Prop}
def jq_AR (b n : Nat) : Nat → Prop := fun q => b ≤ q ∧ q < b + n
def jq_zb (ret : Option FieldType) (rv : Option jq_A) : Prop := ret = some .boolean → ∀ v, rv = some (jI v) → v = 0 ∨ v = 1
def jq_Pq (Z : jq_Z) (b : Nat) (D : va_G) (cs : Nat → ClassId) (ss : jq_S) (avs : List jq_A) (σ : jq_M) : Array Value → State → Prop := fun v U => v = (jq_eS b ss avs).toArray ∧ va_P D vwCl (jq_ws b cs Z Z.1.length σ) U.heap ∧ va_K D vwCl (jq_tys cs) U ∧ jq_wf Z Z.1.length σ ∧ jq_os avs ∧ jq_lay Z σ ∧ jq_zok Z ∧ jq_SF Z ss (jq_AR b Z.1.length) U ∧ jq_N U
def jq_Qq (Z : jq_Z) (b : Nat) (D : va_G) (cs : Nat → ClassId) (ss : jq_S) (ret : Option FieldType) (rv : Option jq_A) (σ' : jq_M) : Array Value → State → Outcome → State → Prop := fun _ st oc t => oc = .returned (rv.map (jq_e b ss)) ∧ va_P D vwCl (jq_ws b cs Z Z.1.length σ') t.heap ∧ jq_wf Z Z.1.length σ' ∧ jq_lay Z σ' ∧ (∀ v, rv = some v → jq_ok v) ∧ jq_zb ret rv ∧ va_F (jq_AR b Z.1.length) st t
/-- a method's contract: from a memory with these arguments it returns this value and this memory -/
def jq_MC (Z : jq_Z) (y : MethodName) (cc : ByteArray) (maxL : Nat) (ret : Option FieldType) (fr lo : Nat) (avs : List jq_A) (σ : jq_M) (rv : Option jq_A) (σ' : jq_M) : Prop :=
  ∀ (l : Launch) (b : Nat) (D : va_G) (cs : Nat → ClassId) (ss : jq_S), Met l y (Cond.code y cc maxL ret :: jq_T) { frames := fr, cells := 0, slots := 0, locals := lo } (jq_Pq Z b D cs ss avs σ) (jq_Qq Z b D cs ss ret rv σ') 0 0 (jq_AR b Z.1.length)
theorem jq_SF_moved {ss : jq_S} {A : Nat → Prop} {u U : State} (hv : u.vm = U.vm) (hh : u.heap = U.heap) (h : jq_SF Z ss A u) : jq_SF Z ss A U := by
  obtain ⟨h1, h2, h3, h4, h5⟩ := h
  have hal : u.vm.Alike U.vm := by rw [← hv]; exact Vm.Alike.refl u.vm
  refine ⟨?_, vk_R.same hv.symm h2, ?_, ?_, h5⟩
  · rw [← hh]
    exact h1.moved hal
  · rw [← hh]
    exact h3.moved hal
  · rw [← hh]
    exact h4.moved hal
theorem jq_blind (b : Nat) (D : va_G) (cs : Nat → ClassId) (ss : jq_S) (avs : List jq_A) : FrameBlind (jq_Pq Z b D cs ss avs σ) := by
  intro a U g mk h
  obtain ⟨h1, h2, h3, h4, h5, h6, h7, h8, h9⟩ := h
  exact ⟨h1, h2, va_K.moved (u := U) (U := U.calling g mk a) (Vm.Alike.refl U.vm) h3, h4, h5, h6, h7, jq_SF_moved (u := U) (U := U.calling g mk a) rfl rfl h8, jq_N_same (u := U) (U := U.calling g mk a) rfl h9⟩
def jq_RT (Z : jq_Z) (X : jq_X) (ret : Option FieldType) (rv : Option jq_A) (σ' : jq_M) : Prop := match X with
  | ((p, l, e, R, s, m, args, below, meth, c), (A, Q, nL, b, D, cs, ss, ly)) => Q = MQ below (jq_Qq Z b D cs ss ret rv σ') args s 0 0 (jq_AR b Z.1.length) ∧ meth.sig.returnType = ret ∧ A = jq_AR b Z.1.length ∧ ly
def jq_zN (Z : jq_Z) : jq_z := (Z.1.length, 0, 0, false)
/-- where each argument stands -/
def jq_args : Nat → List jq_A → List (Nat × jq_A)
  | _, [] => []
  | i, v :: vs => (i, v) :: jq_args (i + jq_c v) vs
theorem jq_args_e (b : Nat) (ss : jq_S) : ∀ (vs : List jq_A) (i : Nat), lv_args i (jq_eS b ss vs) = jq_eL b ss (jq_args i vs) := by
  intro vs
  induction vs with
  | nil => intro i; rfl
  | cons v vs ih =>
    intro i
    show (i, jq_e b ss v) :: lv_args (if (jq_e b ss v).category = 2 then i + 2 else i + 1) (jq_eS b ss vs) = (i, jq_e b ss v) :: jq_eL b ss (jq_args (i + jq_c v) vs)
    rw [ih, jq_e_c]
    congr 2
    rcases v with x | x | k | a <;> rfl
theorem jq_args_len (b : Nat) (ss : jq_S) (vs : List jq_A) : (lg_sl (jq_eS b ss vs)).length = (vs.map jq_c).sum := by
  induction vs with
  | nil => rfl
  | cons v vs ih =>
    unfold lg_sl at ih ⊢
    show (List.flatMap _ (jq_e b ss v :: jq_eS b ss vs)).length = _
    rw [List.flatMap_cons, List.length_append, ih, List.map_cons, List.sum_cons, jq_e_c]
    congr 1
    rcases v with x | x | k | a <;> rfl
theorem jq_args_ok : ∀ (vs : List jq_A) (i : Nat), jq_os vs → jq_ol (jq_args i vs) := by
  intro vs
  induction vs with
  | nil => intro i _ q hq; cases hq
  | cons v vs ih =>
    intro i h q hq
    have h1 := jq_os_c.mp h
    rcases List.mem_cons.mp hq with rfl | hq
    · exact h1.1
    · exact ih _ h1.2 q hq
theorem jq_met {y : MethodName} {cc : ByteArray} {maxL : Nat} {ret : Option FieldType} {own : String} {fr lo : Nat} {avs : List jq_A} {σ σ' : jq_M} {rv : Option jq_A} {L0 : List (Nat × jq_A)} (hy : plainName y.cls = true) (hcl : y.cls = own) (hL0 : jq_args 0 avs = L0) (hlen : Nat.ble (avs.map jq_c).sum maxL = true)
    (body : ∀ X, jq_G Z X (jq_zN Z) own cc fr lo → jq_nL X = maxL → jq_ly X → jq_RT Z X ret rv σ' → jq_V Z X (jq_zN Z) σ 0 L0 []) : jq_MC Z y cc maxL ret fr lo avs σ rv σ' := by
  intro l b D cs ss
  refine Met.ofW (cc := cc) (maxL := maxL) (ret := ret) hy rfl ?_
  intro p e s m args below meth c s₁ B hml hv
  obtain ⟨rfl, hP, hK, hwf, hos, hly, hzk, hSF, hNw⟩ := hv
  have hts := atoms_spec (ws := Cond.code y cc maxL ret :: jq_T) B.pre
  have hown : s.vm.findClass own = some m.cls := by rw [← hcl]; exact findClass_of_methodNamed B.named
  have hl := lv_entry (jq_eS b ss avs) (n := maxL) (by rw [jq_args_len]; exact Nat.le_of_ble_eq_true hlen)
  rw [jq_args_e, hL0] at hl
  rw [lg_entry_eq]
  have w := body ((p, l, e, { frames := fr, cells := 0, slots := 0, locals := lo }, s, m, (jq_eS b ss avs).toArray, below, meth, c), (jq_AR b Z.1.length, _, maxL, b, D, cs, ss, True)) ⟨B.exec, B.bytes, hml, hown, fun w hw => hts w (List.mem_cons_of_mem _ hw), hK, B.notSynchronized, fun k hk => ⟨Nat.le_add_right b k, Nat.add_lt_add_left hk b⟩, Nat.le_refl _, Nat.le_refl _, Nat.le_refl _, Nat.le_refl _, fun h => (by cases h), hzk, hSF, fun q h => h.1, hNw⟩ rfl trivial ⟨rfl, B.returns, rfl, trivial⟩
  exact w (fun v hv => by cases hv) (by rw [← hL0]; exact jq_args_ok avs 0 hos) hwf (fun _ => hly) s.heap [] _ hP va_S.rf (fun h => by cases h) hl
theorem jq_ireturn (Γ : jq_G Z X (jq_zN Z) own cc fr lo) {v : Int} {a : α} (d : decode cc pc = .ok (.ireturn, 1)) (h : K a → jq_RT Z X (some .int) (some (jI v)) σ) : jq_J (some a) K (jq_V Z X (jq_zN Z) σ pc L [jI v]) := by
  rcases X with ⟨⟨p, l, e, R, s, m, args, below, meth, c⟩, A, Q, nL, b, D, cs, ss, ly⟩
  obtain ⟨hx, hb, hml, hown, hts, hK, hlk, hA, hfr, hlo, hc, hs, hal, hzk, hSF, hAb, hNw⟩ := Γ
  intro r hF hR hos hol hwf hly H locs ls hP hS hsz hl
  cases hF
  obtain ⟨hQ, hret, rfl, hlyT⟩ := h hR
  subst hQ
  exact W.iret hx hb hret (fun t ht hW => ⟨rfl, by rw [ht]; exact hP, hwf, hly hlyT, (fun v' hv' => by cases hv'; exact (jq_os_c.mp hos).1), (fun hz => by cases hz), hS.F ht⟩) hS.2.2 d
theorem jq_lreturn (Γ : jq_G Z X (jq_zN Z) own cc fr lo) {v : Int} {a : α} (d : decode cc pc = .ok (.lreturn, 1)) (h : K a → jq_RT Z X (some .long) (some (jL v)) σ) : jq_J (some a) K (jq_V Z X (jq_zN Z) σ pc L [jL v]) := by
  rcases X with ⟨⟨p, l, e, R, s, m, args, below, meth, c⟩, A, Q, nL, b, D, cs, ss, ly⟩
  obtain ⟨hx, hb, hml, hown, hts, hK, hlk, hA, hfr, hlo, hc, hs, hal, hzk, hSF, hAb, hNw⟩ := Γ
  intro r hF hR hos hol hwf hly H locs ls hP hS hsz hl
  cases hF
  obtain ⟨hQ, hret, rfl, hlyT⟩ := h hR
  subst hQ
  exact W.lret hx hb hret (fun t ht hW => ⟨rfl, by rw [ht]; exact hP, hwf, hly hlyT, (fun v' hv' => by cases hv'; exact (jq_os_c.mp hos).1), (fun hz => by cases hz), hS.F ht⟩) hS.2.2 d
theorem jq_zreturn (Γ : jq_G Z X (jq_zN Z) own cc fr lo) {v : Int} {a : α} (hv : v = 0 ∨ v = 1) (d : decode cc pc = .ok (.ireturn, 1)) (h : K a → jq_RT Z X (some .boolean) (some (jI v)) σ) : jq_J (some a) K (jq_V Z X (jq_zN Z) σ pc L [jI v]) := by
  rcases X with ⟨⟨p, l, e, R, s, m, args, below, meth, c⟩, A, Q, nL, b, D, cs, ss, ly⟩
  obtain ⟨hx, hb, hml, hown, hts, hK, hlk, hA, hfr, hlo, hc, hs, hal, hzk, hSF, hAb, hNw⟩ := Γ
  intro r hF hR hos hol hwf hly H locs ls hP hS hsz hl
  cases hF
  obtain ⟨hQ, hret, rfl, hlyT⟩ := h hR
  subst hQ
  exact W.zret hx hb hret (by rcases hv with rfl | rfl <;> rfl) (fun t ht hW => ⟨rfl, by rw [ht]; exact hP, hwf, hly hlyT, (fun v' hv' => by cases hv'; exact (jq_os_c.mp hos).1), (fun _ v' hv' => by cases hv'; exact hv), hS.F ht⟩) hS.2.2 d
theorem jq_vreturn (Γ : jq_G Z X (jq_zN Z) own cc fr lo) {a : α} (d : decode cc pc = .ok (.return_, 1)) (h : K a → jq_RT Z X none none σ) : jq_J (some a) K (jq_V Z X (jq_zN Z) σ pc L []) := by
  rcases X with ⟨⟨p, l, e, R, s, m, args, below, meth, c⟩, A, Q, nL, b, D, cs, ss, ly⟩
  obtain ⟨hx, hb, hml, hown, hts, hK, hlk, hA, hfr, hlo, hc, hs, hal, hzk, hSF, hAb, hNw⟩ := Γ
  intro r hF hR hos hol hwf hly H locs ls hP hS hsz hl
  cases hF
  obtain ⟨hQ, hret, rfl, hlyT⟩ := h hR
  subst hQ
  exact W.vret hx hb hret (fun t ht hW => ⟨rfl, by rw [ht]; exact hP, hwf, hly hlyT, (fun v' hv' => by cases hv'), (fun hz => by cases hz), hS.F ht⟩) hS.2.2 d
/-- a call: its words -/
def jq_vl (own : String) (ix : Nat) (y : MethodName) (bc : ByteArray) (mL : Nat) (rt : Option FieldType) (n : Nat) : Prop := Cond.methodLink own ix y ∈ jq_T ∧ Cond.instanceMethod y ∈ jq_T ∧ Cond.selects y.cls y y ∈ jq_T ∧ Cond.initialized y.cls ∈ jq_T ∧ Cond.code y bc mL rt ∈ jq_T ∧ (y.cls ≠ "java/lang/invoke/MethodHandle" ∧ y.cls ≠ "java/lang/invoke/VarHandle" ∧ (parseMethodDescriptor y.desc).map (fun d => d.parameters.length) = some n)
def jq_sl (own : String) (ix : Nat) (y : MethodName) (bc : ByteArray) (mL : Nat) (rt : Option FieldType) (n : Nat) : Prop := Cond.methodLink own ix y ∈ jq_T ∧ Cond.static y ∈ jq_T ∧ Cond.initialized y.cls ∈ jq_T ∧ Cond.code y bc mL rt ∈ jq_T ∧ (y.cls ≠ "java/lang/invoke/MethodHandle" ∧ y.cls ≠ "java/lang/invoke/VarHandle" ∧ (parseMethodDescriptor y.desc).map (fun d => d.parameters.length) = some n)
def jq_nl (own : String) (ix : Nat) (y : MethodName) (host : String) (bc : ByteArray) (mL : Nat) (rt : Option FieldType) (n : Nat) : Prop := Cond.methodLinkNest own ix y host ∈ jq_TN ∧ Cond.static y ∈ jq_T ∧ Cond.initialized y.cls ∈ jq_T ∧ Cond.code y bc mL rt ∈ jq_T ∧ (y.cls ≠ "java/lang/invoke/MethodHandle" ∧ y.cls ≠ "java/lang/invoke/VarHandle" ∧ (parseMethodDescriptor y.desc).map (fun d => d.parameters.length) = some n)
def jq_Call (Z : jq_Z) (X : jq_X) (z : jq_z) (σ : jq_M) (pc : Nat) (L : List (Nat × jq_A)) (S0 st : List jq_A) (y : MethodName) (bc : ByteArray) (mL : Nat) (rt : Option FieldType) (fr' lo' : Nat) (avs : List jq_A) : Prop :=
  ∀ (rv : Option jq_A) (σ' : jq_M), jq_MC Z y bc mL rt fr' lo' avs σ rv σ' → (jq_zb rt rv → jq_V Z X z σ' (pc + 3) L (rv.toList ++ st)) → jq_V Z X z σ pc L S0
theorem jq_after {p : Program} {l : Launch} {e : Env} {R : Room} {s : State} {m : MethodId} {args : Array Value} {below : List Frame} {meth : Method} {c : Code} {A : Nat → Prop} {H : Heap} {locs : List Loc} {cells slots : Nat} {Q : State → Prop} {D : va_G} {cs : Nat → ClassId} {ss : jq_S} {b : Nat} {ls : Array Slot} {st0 rest : List Value} {a : Array Value} {ret : Option FieldType} {rv : Option jq_A} {σ' : jq_M}
    (hr : va_Run p l e R s m args below meth c H locs cells slots 0 0 (F0 m pc ls st0) rest (jq_Qq Z b D cs ss ret rv σ' a) (jq_AR b Z.1.length)) (hS : va_S A s.heap H locs) (hAf : ∀ q, jq_AR b Z.1.length q → A q)
    (kk : ∀ (H1 : Heap) (locs1 : List Loc), va_P D vwCl (jq_ws b cs Z Z.1.length σ') H1 → jq_wf Z Z.1.length σ' → jq_lay Z σ' → (∀ v, rv = some v → jq_ok v) → jq_zb ret rv → va_S A s.heap H1 locs1 → W p l e R s m args below meth c H1 locs1 cells slots Q (F0 m (pc + 3) ls (jq_eS b ss rv.toList ++ rest))) : W p l e R s m args below meth c H locs cells slots Q (F0 m pc ls st0) := by
  intro T hT X
  obtain ⟨v, st₀, t, T', L, h0, X', hL, e1, e2, ⟨hv, hP, hwf, hly, hok, hzb, hz, hk⟩, st⟩ := hr T hT X
  cases hv
  rw [h0] at hz hk
  rw [← e1] at hP hz hk
  obtain ⟨t2, a1, b1⟩ := kk T'.heap (locs ++ L) hP hwf hly hok hzb ⟨Nat.le_trans hS.1 hz, fun q h1 h2 => by rw [hk q (Nat.lt_of_lt_of_le h1 hS.1) (fun z => h2 (hAf q z))]; exact hS.2.1 q h1 h2, fun q hq => by
      rcases List.mem_append.mp hq with h | h
      · exact hS.2.2 q h
      · exact hAf _ (hL q h)⟩ T' rfl X'
  refine ⟨t2, st t2 ?_, b1⟩
  have e3 : (rv.map (jq_e b ss)).toList = jq_eS b ss rv.toList := by cases rv <;> rfl
  rw [e3]
  exact a1
theorem jq_pre {p : Program} {l : Launch} {e : Env} {R : Room} {s : State} {m : MethodId} {args : Array Value} {below : List Frame} {meth : Method} {c : Code} {A : Nat → Prop} {Q : State → Prop} {nL b : Nat} {D : va_G} {cs : Nat → ClassId} {ss : jq_S} {ly : Prop} (Γ : jq_G Z ((p, l, e, R, s, m, args, below, meth, c), (A, Q, nL, b, D, cs, ss, ly)) z own cc fr lo) (hzN : z.1 = Z.1.length) (hlY : ly) {H : Heap} {locs : List Loc} {avs : List jq_A} (hos : jq_os avs) (hwf : jq_wf Z z.1 σ) (hly : ly → jq_lay Z σ) (hP : va_P D vwCl (jq_ws b cs Z z.1 σ) H) (hS : va_S A s.heap H locs) : ∀ U : State, U.heap = H → s.WarmedH U.vm → jq_Pq Z b D cs ss avs σ (jq_eS b ss avs).toArray U := by
  obtain ⟨hx, hb, hml, hown, hts, hK, hlk, hA, hfr, hlo, hc, hs, hal, hzk, hSF, hAb, hNw⟩ := Γ
  intro U hU hW
  rw [hzN] at hwf hP hA
  refine ⟨rfl, by rw [hU]; exact hP, va_K.moved hW.alike hK, hwf, hos, hly hlY, hzk, ⟨?_, vk_R.warm hW hSF.2.1, ?_, ?_, hSF.2.2.2.2⟩, jq_N_warm hW hNw⟩
  all_goals
    have hnar : ∀ q, jq_AR b Z.1.length q → A q := fun q hq => by
      have := hA (q - b) (by have := hq.1; have := hq.2; omega)
      rwa [show b + (q - b) = q by have := hq.1; omega] at this
  · have h1 := (hSF.1.kept (H1 := H) hS.2.1).moved hW.alike
    rw [hU]
    exact h1.narrow hnar
  · have h1 := (hSF.2.2.1.kept (H1 := H) hS.2.1).moved hW.alike
    rw [hU]
    exact h1.narrow hnar
  · have h1 := (hSF.2.2.2.1.kept (H1 := H) hS.2.1).moved hW.alike
    rw [hU]
    exact h1.narrow hnar
theorem jq_good {y : MethodName} {bc : ByteArray} {mL : Nat} {rt : Option FieldType} (h : Cond.code y bc mL rt ∈ jq_T) : GoodIn jq_T (Cond.code y bc mL rt :: jq_T) := by
  intro w hw
  rcases List.mem_cons.mp hw with rfl | hw
  · exact ⟨h, jq_T_good h⟩
  · exact ⟨hw, jq_T_good hw⟩
theorem jq_eS_app (b : Nat) (ss : jq_S) (a c : List jq_A) : jq_eS b ss (a ++ c) = jq_eS b ss a ++ jq_eS b ss c := List.map_append
theorem jq_eS_rev (b : Nat) (ss : jq_S) (a : List jq_A) : jq_eS b ss a.reverse = (jq_eS b ss a).reverse := List.map_reverse
theorem jq_virt (Γ : jq_G Z X z own cc fr lo) (hlY : jq_ly X) (hzz : z = jq_zN Z) {k : Int} {avs st S0 : List jq_A} {y : MethodName} {bc : ByteArray} {mL fr' lo' ix ci N n : Nat} {rt : Option FieldType} (ml : jq_vl own ix y bc mL rt n) (hn : avs.length = n) (ha : jq_at Z z k (ci + 10, N)) (hci : (vwCl[ci]?).map (fun q => q.1) = some y.cls) (hst : S0 = avs.reverse ++ jR k :: st) (hfr1 : Nat.ble (fr' + 1) fr = true) (hlo1 : Nat.ble (8 + (mL + 11) + lo') lo = true) (hcat : Nat.ble (st.map jq_c).sum 8 = true) (d : decode cc pc = .ok (.invokevirtual ix, 3)) : jq_Call Z X z σ pc L S0 st y bc mL rt fr' lo' (jR k :: avs) := by
  intro rv σ' mc kk
  have Γ0 := Γ
  rcases X with ⟨⟨p, l, e, R, s, m, args, below, meth, c⟩, A, Q, nL, b, D, cs, ss, ly⟩
  obtain ⟨hx, hb, hml, hown, hts, hK, hlk, hA, hfr, hlo, hc, hs, hal, hzk, hSF, hAb, hNw⟩ := Γ
  intro hos hol hwf hly H locs ls hP hS hsz hl
  obtain ⟨q, rfl, hq, hz⟩ := ha
  obtain ⟨w1, w2, w3, w4, w5, w6⟩ := ml
  subst hst
  have hosr : jq_os (jR (q : Int) :: avs) ∧ jq_os st := by
    refine ⟨jq_os_c.mpr ⟨trivial, fun v hv => hos v (List.mem_append_left _ (List.mem_reverse.mpr hv))⟩, fun v hv => hos v (List.mem_append_right _ (List.mem_cons_of_mem _ hv))⟩
  have hzN : z.1 = Z.1.length := by rw [hzz]; rfl
  have hpre := jq_pre Γ0 hzN hlY (H := H) (locs := locs) hosr.1 hwf hly hP hS
  have he := jq_ws_at (b := b) (cs := cs) (σ := σ) hq hz
  rw [jq_en_o] at he
  obtain ⟨qq, hqq, hq1⟩ : ∃ qq, vwCl[ci]? = some qq ∧ qq.1 = y.cls := by
    cases h : vwCl[ci]? with
    | none => rw [h] at hci; cases hci
    | some qq => rw [h] at hci; exact ⟨qq, rfl, Option.some.inj hci⟩
  have hrec := va_recv hK hP hqq he
  rw [hq1] at hrec
  have hcw : CallW R s args own y.cls ix y bc mL rt (Cond.code y bc mL rt :: jq_T) { frames := fr', cells := 0, slots := 0, locals := lo' } 0 0 n := by
    refine ⟨callB_of n hts (jq_good w5) rfl rfl rfl (hts _ w4) (hts _ w1) w6 ⟨?_, ?_⟩, hts _ w2, hts _ w3⟩
    · exact Nat.le_trans (Nat.le_of_ble_eq_true hfr1) hfr
    · exact Nat.le_trans (Nat.le_of_ble_eq_true hlo1) hlo
  have hstk : jq_eS b ss (avs.reverse ++ jR (q : Int) :: st) = (jq_eS b ss avs).reverse ++ .ref (b + q) :: jq_eS b ss st := by
    rw [jq_eS_app, jq_eS_rev, jq_reS]
  have hargs : jq_eS b ss (jR (q : Int) :: avs) = Value.ref (b + q) :: jq_eS b ss avs := jq_reS b ss q avs
  rw [hargs] at hpre
  have hrun := va_runV (p := p) (l := l) (e := e) (below := below) (meth := meth) (g := F0 m pc ls (jq_eS b ss (avs.reverse ++ jR (q : Int) :: st))) (As := jq_eS b ss avs) (rest := jq_eS b ss st) (cells := z.2.1) (slots := z.2.2.1) (locs := locs) (H := H) ⟨hx, hb, hml, hown, hts⟩ (mc l b D cs ss) hcw ⟨jq_blind b D cs ss _, hrec, hpre⟩ rfl (by unfold jq_eS; rw [List.length_map]; exact hn) hl.1 hstk (lv_room (by rw [jq_eS_cat]; exact Nat.le_of_ble_eq_true hcat)) d ⟨hc, hs⟩
  refine jq_after hrun hS (fun a ha => by
    have := hA (a - b) (by have h1 := ha.1; have h2 := ha.2; omega)
    rwa [show b + (a - b) = a by have := ha.1; omega] at this) (fun H1 locs1 hP1 hwf1 hly1 hok1 hzb1 hS1 => ?_)
  have hz4 : z.2.2.2 = false := by rw [hzz]; rfl
  have w := kk hzb1 (fun v hv => by
    rcases List.mem_append.mp hv with h | h
    · exact hok1 v (by cases rv with
        | none => cases h
        | some r => simp at h; rw [h])
    · exact hosr.2 v h) hol (by rw [hzN]; exact hwf1) (fun _ => hly1) H1 locs1 ls (by rw [hzN]; exact hP1) hS1 (fun h => by rw [hz4] at h; cases h) hl
  rw [jq_eS_app] at w
  exact w
theorem jq_stat (Γ : jq_G Z X z own cc fr lo) (hlY : jq_ly X) (hzz : z = jq_zN Z) {avs st S0 : List jq_A} {y : MethodName} {bc : ByteArray} {mL fr' lo' ix n : Nat} {rt : Option FieldType} (ml : jq_sl own ix y bc mL rt n) (hn : avs.length = n) (hst : S0 = avs.reverse ++ st) (hfr1 : Nat.ble (fr' + 1) fr = true) (hlo1 : Nat.ble (8 + (mL + 11) + lo') lo = true) (hcat : Nat.ble (st.map jq_c).sum 8 = true) (d : decode cc pc = .ok (.invokestatic ix, 3)) : jq_Call Z X z σ pc L S0 st y bc mL rt fr' lo' avs := by
  intro rv σ' mc kk
  have Γ0 := Γ
  rcases X with ⟨⟨p, l, e, R, s, m, args, below, meth, c⟩, A, Q, nL, b, D, cs, ss, ly⟩
  obtain ⟨hx, hb, hml, hown, hts, hK, hlk, hA, hfr, hlo, hc, hs, hal, hzk, hSF, hAb, hNw⟩ := Γ
  intro hos hol hwf hly H locs ls hP hS hsz hl
  obtain ⟨w1, w2, w3, w4, w5⟩ := ml
  subst hst
  have hosr : jq_os avs ∧ jq_os st := ⟨fun v hv => hos v (List.mem_append_left _ (List.mem_reverse.mpr hv)), fun v hv => hos v (List.mem_append_right _ hv)⟩
  have hzN : z.1 = Z.1.length := by rw [hzz]; rfl
  have hpre := jq_pre Γ0 hzN hlY (H := H) (locs := locs) hosr.1 hwf hly hP hS
  have hcw : CallB R s args own ix y bc mL rt (Cond.code y bc mL rt :: jq_T) { frames := fr', cells := 0, slots := 0, locals := lo' } 0 0 n ∧ (Cond.static y).before args s = true := by
    refine ⟨callB_of n hts (jq_good w4) rfl rfl rfl (hts _ w3) (hts _ w1) w5 ⟨?_, ?_⟩, hts _ w2⟩
    · exact Nat.le_trans (Nat.le_of_ble_eq_true hfr1) hfr
    · exact Nat.le_trans (Nat.le_of_ble_eq_true hlo1) hlo
  have hstk : jq_eS b ss (avs.reverse ++ st) = (jq_eS b ss avs).reverse ++ jq_eS b ss st := by
    rw [jq_eS_app, jq_eS_rev]
  have hrun := va_runS (p := p) (l := l) (e := e) (below := below) (meth := meth) (g := F0 m pc ls (jq_eS b ss (avs.reverse ++ st))) (As := jq_eS b ss avs) (rest := jq_eS b ss st) (cells := z.2.1) (slots := z.2.2.1) (locs := locs) (H := H) ⟨hx, hb, hml, hown, hts⟩ (mc l b D cs ss) hcw ⟨jq_blind b D cs ss _, hpre⟩ rfl (by unfold jq_eS; rw [List.length_map]; exact hn) hl.1 hstk (lv_room (by rw [jq_eS_cat]; exact Nat.le_of_ble_eq_true hcat)) d ⟨hc, hs⟩
  refine jq_after hrun hS (fun a ha => by
    have := hA (a - b) (by have h1 := ha.1; have h2 := ha.2; omega)
    rwa [show b + (a - b) = a by have := ha.1; omega] at this) (fun H1 locs1 hP1 hwf1 hly1 hok1 hzb1 hS1 => ?_)
  have hz4 : z.2.2.2 = false := by rw [hzz]; rfl
  have w := kk hzb1 (fun v hv => by
    rcases List.mem_append.mp hv with h | h
    · exact hok1 v (by cases rv with
        | none => cases h
        | some r => simp at h; rw [h])
    · exact hosr.2 v h) hol (by rw [hzN]; exact hwf1) (fun _ => hly1) H1 locs1 ls (by rw [hzN]; exact hP1) hS1 (fun h => by rw [hz4] at h; cases h) hl
  rw [jq_eS_app] at w
  exact w
theorem jq_nest (Γ : jq_G Z X z own cc fr lo) (hlY : jq_ly X) (hzz : z = jq_zN Z) {avs st S0 : List jq_A} {y : MethodName} {bc : ByteArray} {mL fr' lo' ix n : Nat} {host : String} {rt : Option FieldType} (ml : jq_nl own ix y host bc mL rt n) (hn : avs.length = n) (hst : S0 = avs.reverse ++ st) (hfr1 : Nat.ble (fr' + 1) fr = true) (hlo1 : Nat.ble (8 + (mL + 11) + lo') lo = true) (hcat : Nat.ble (st.map jq_c).sum 8 = true) (d : decode cc pc = .ok (.invokestatic ix, 3)) : jq_Call Z X z σ pc L S0 st y bc mL rt fr' lo' avs := by
  intro rv σ' mc kk
  have Γ0 := Γ
  rcases X with ⟨⟨p, l, e, R, s, m, args, below, meth, c⟩, A, Q, nL, b, D, cs, ss, ly⟩
  obtain ⟨hx, hb, hml, hown, hts, hK, hlk, hA, hfr, hlo, hc, hs, hal, hzk, hSF, hAb, hNw⟩ := Γ
  intro hos hol hwf hly H locs ls hP hS hsz hl
  obtain ⟨w1, w2, w3, w4, w5⟩ := ml
  subst hst
  have hosr : jq_os avs ∧ jq_os st := ⟨fun v hv => hos v (List.mem_append_left _ (List.mem_reverse.mpr hv)), fun v hv => hos v (List.mem_append_right _ hv)⟩
  have hzN : z.1 = Z.1.length := by rw [hzz]; rfl
  have hpre := jq_pre Γ0 hzN hlY (H := H) (locs := locs) hosr.1 hwf hly hP hS
  have hcw : va_CN R s args own ix y host bc mL rt (Cond.code y bc mL rt :: jq_T) { frames := fr', cells := 0, slots := 0, locals := lo' } 0 0 n ∧ (Cond.static y).before args s = true ∧ True := by
    refine ⟨va_cnB n hts (jq_good w4) rfl rfl rfl (hNw _ w1) (hts _ w3) w5 ⟨?_, ?_⟩, hts _ w2, trivial⟩
    · exact Nat.le_trans (Nat.le_of_ble_eq_true hfr1) hfr
    · exact Nat.le_trans (Nat.le_of_ble_eq_true hlo1) hlo
  have hstk : jq_eS b ss (avs.reverse ++ st) = (jq_eS b ss avs).reverse ++ jq_eS b ss st := by
    rw [jq_eS_app, jq_eS_rev]
  have hrun := va_runSN (p := p) (l := l) (e := e) (below := below) (meth := meth) (g := F0 m pc ls (jq_eS b ss (avs.reverse ++ st))) (As := jq_eS b ss avs) (rest := jq_eS b ss st) (cells := z.2.1) (slots := z.2.2.1) (locs := locs) (H := H) ⟨hx, hb, hml, hown, hts⟩ (mc l b D cs ss) hcw ⟨jq_blind b D cs ss _, hpre⟩ rfl (by unfold jq_eS; rw [List.length_map]; exact hn) hl.1 hstk (lv_room (by rw [jq_eS_cat]; exact Nat.le_of_ble_eq_true hcat)) d ⟨hc, hs⟩
  refine jq_after hrun hS (fun a ha => by
    have := hA (a - b) (by have h1 := ha.1; have h2 := ha.2; omega)
    rwa [show b + (a - b) = a by have := ha.1; omega] at this) (fun H1 locs1 hP1 hwf1 hly1 hok1 hzb1 hS1 => ?_)
  have hz4 : z.2.2.2 = false := by rw [hzz]; rfl
  have w := kk hzb1 (fun v hv => by
    rcases List.mem_append.mp hv with h | h
    · exact hok1 v (by cases rv with
        | none => cases h
        | some r => simp at h; rw [h])
    · exact hosr.2 v h) hol (by rw [hzN]; exact hwf1) (fun _ => hly1) H1 locs1 ls (by rw [hzN]; exact hP1) hS1 (fun h => by rw [hz4] at h; cases h) hl
  rw [jq_eS_app] at w
  exact w
theorem jq_cpI {S0 : List jq_A} {y : MethodName} {bc : ByteArray} {mL fr' lo' : Nat} {rt : Option FieldType} {avs : List jq_A} (C : jq_Call Z X z σ pc L S0 st y bc mL rt fr' lo' avs) {g : Option Int} {f : Int → Option α} (ct : ∀ r, g = some r → jq_MC Z y bc mL rt fr' lo' avs σ (some (jI r)) σ) (kk : ∀ r, jq_J (f r) K (jq_V Z X z σ (pc + 3) L (jI r :: st))) : jq_J (g.bind f) K (jq_V Z X z σ pc L S0) := by
  intro a h hK
  cases hg : g with
  | none => rw [hg] at h; cases h
  | some r =>
    rw [hg] at h
    exact C _ _ (ct r hg) (fun _ => kk r a h hK)
theorem jq_ctI {S0 : List jq_A} {y : MethodName} {bc : ByteArray} {mL fr' lo' : Nat} {rt : Option FieldType} {avs : List jq_A} (C : jq_Call Z X z σ pc L S0 st y bc mL rt fr' lo' avs) {g : Int} (ct : jq_MC Z y bc mL rt fr' lo' avs σ (some (jI g)) σ) (kk : jq_J F K (jq_V Z X z σ (pc + 3) L (jI g :: st))) : jq_J F K (jq_V Z X z σ pc L S0) := by
  intro a h hK
  exact C _ _ ct (fun _ => kk a h hK)
theorem jq_cwI {S0 : List jq_A} {y : MethodName} {bc : ByteArray} {mL fr' lo' : Nat} {rt : Option FieldType} {avs : List jq_A} (C : jq_Call Z X z σ pc L S0 st y bc mL rt fr' lo' avs) {g : Option (Int × jq_M)} {f : Int → jq_M → Option α} (ct : ∀ r σ', g = some (r, σ') → jq_MC Z y bc mL rt fr' lo' avs σ (some (jI r)) σ') (kk : ∀ r σ', jq_J (f r σ') K (jq_V Z X z σ' (pc + 3) L (jI r :: st))) : jq_J (jq_b2 g f) K (jq_V Z X z σ pc L S0) := by
  intro a h hK
  unfold jq_b2 at h
  cases hg : g with
  | none => rw [hg] at h; cases h
  | some r =>
    rw [hg] at h
    exact C _ _ (ct r.1 r.2 hg) (fun _ => kk r.1 r.2 a h hK)
theorem jq_cpL {S0 : List jq_A} {y : MethodName} {bc : ByteArray} {mL fr' lo' : Nat} {rt : Option FieldType} {avs : List jq_A} (C : jq_Call Z X z σ pc L S0 st y bc mL rt fr' lo' avs) {g : Option Int} {f : Int → Option α} (ct : ∀ r, g = some r → jq_MC Z y bc mL rt fr' lo' avs σ (some (jL r)) σ) (kk : ∀ r, jq_J (f r) K (jq_V Z X z σ (pc + 3) L (jL r :: st))) : jq_J (g.bind f) K (jq_V Z X z σ pc L S0) := by
  intro a h hK
  cases hg : g with
  | none => rw [hg] at h; cases h
  | some r =>
    rw [hg] at h
    exact C _ _ (ct r hg) (fun _ => kk r a h hK)
theorem jq_ctL {S0 : List jq_A} {y : MethodName} {bc : ByteArray} {mL fr' lo' : Nat} {rt : Option FieldType} {avs : List jq_A} (C : jq_Call Z X z σ pc L S0 st y bc mL rt fr' lo' avs) {g : Int} (ct : jq_MC Z y bc mL rt fr' lo' avs σ (some (jL g)) σ) (kk : jq_J F K (jq_V Z X z σ (pc + 3) L (jL g :: st))) : jq_J F K (jq_V Z X z σ pc L S0) := by
  intro a h hK
  exact C _ _ ct (fun _ => kk a h hK)
theorem jq_cwL {S0 : List jq_A} {y : MethodName} {bc : ByteArray} {mL fr' lo' : Nat} {rt : Option FieldType} {avs : List jq_A} (C : jq_Call Z X z σ pc L S0 st y bc mL rt fr' lo' avs) {g : Option (Int × jq_M)} {f : Int → jq_M → Option α} (ct : ∀ r σ', g = some (r, σ') → jq_MC Z y bc mL rt fr' lo' avs σ (some (jL r)) σ') (kk : ∀ r σ', jq_J (f r σ') K (jq_V Z X z σ' (pc + 3) L (jL r :: st))) : jq_J (jq_b2 g f) K (jq_V Z X z σ pc L S0) := by
  intro a h hK
  unfold jq_b2 at h
  cases hg : g with
  | none => rw [hg] at h; cases h
  | some r =>
    rw [hg] at h
    exact C _ _ (ct r.1 r.2 hg) (fun _ => kk r.1 r.2 a h hK)
theorem jq_cpZ {S0 : List jq_A} {y : MethodName} {bc : ByteArray} {mL fr' lo' : Nat} {rt : Option FieldType} {avs : List jq_A} (C : jq_Call Z X z σ pc L S0 st y bc mL rt fr' lo' avs) (hrt : rt = some .boolean) {g : Option Int} {f : Int → Option α} (ct : ∀ r, g = some r → jq_MC Z y bc mL rt fr' lo' avs σ (some (jI r)) σ) (kk : ∀ r : Int, (r = 0 ∨ r = 1) → jq_J (f r) K (jq_V Z X z σ (pc + 3) L (jI r :: st))) : jq_J (g.bind f) K (jq_V Z X z σ pc L S0) := by
  intro a h hK
  cases hg : g with
  | none => rw [hg] at h; cases h
  | some r =>
    rw [hg] at h
    exact C _ _ (ct r hg) (fun hz => kk r (hz hrt r rfl) a h hK)
theorem jq_ctZ {S0 : List jq_A} {y : MethodName} {bc : ByteArray} {mL fr' lo' : Nat} {rt : Option FieldType} {avs : List jq_A} (C : jq_Call Z X z σ pc L S0 st y bc mL rt fr' lo' avs) (hrt : rt = some .boolean) {g : Int} {f : Int → Option α} (ct : jq_MC Z y bc mL rt fr' lo' avs σ (some (jI g)) σ) (kk : ∀ r : Int, (r = 0 ∨ r = 1) → jq_J (f r) K (jq_V Z X z σ (pc + 3) L (jI r :: st))) : jq_J (jq_lt g f) K (jq_V Z X z σ pc L S0) := by
  intro a h hK
  exact C _ _ ct (fun hz => kk g (hz hrt g rfl) a h hK)
theorem jq_cwZ {S0 : List jq_A} {y : MethodName} {bc : ByteArray} {mL fr' lo' : Nat} {rt : Option FieldType} {avs : List jq_A} (C : jq_Call Z X z σ pc L S0 st y bc mL rt fr' lo' avs) (hrt : rt = some .boolean) {g : Option (Int × jq_M)} {f : Int → jq_M → Option α} (ct : ∀ r σ', g = some (r, σ') → jq_MC Z y bc mL rt fr' lo' avs σ (some (jI r)) σ') (kk : ∀ (r : Int) σ', (r = 0 ∨ r = 1) → jq_J (f r σ') K (jq_V Z X z σ' (pc + 3) L (jI r :: st))) : jq_J (jq_b2 g f) K (jq_V Z X z σ pc L S0) := by
  intro a h hK
  unfold jq_b2 at h
  cases hg : g with
  | none => rw [hg] at h; cases h
  | some r =>
    rw [hg] at h
    exact C _ _ (ct r.1 r.2 hg) (fun hz => kk r.1 r.2 (hz hrt r.1 rfl) a h hK)
theorem jq_cwV {S0 : List jq_A} {y : MethodName} {bc : ByteArray} {mL fr' lo' : Nat} {rt : Option FieldType} {avs : List jq_A} (C : jq_Call Z X z σ pc L S0 st y bc mL rt fr' lo' avs) {g : Option jq_M} {f : jq_M → Option α} (ct : ∀ σ', g = some σ' → jq_MC Z y bc mL rt fr' lo' avs σ none σ') (kk : ∀ σ', jq_J (f σ') K (jq_V Z X z σ' (pc + 3) L st)) : jq_J (g.bind f) K (jq_V Z X z σ pc L S0) := by
  intro a h hK
  cases hg : g with
  | none => rw [hg] at h; cases h
  | some r =>
    rw [hg] at h
    exact C _ _ (ct r hg) (fun _ => kk r a h hK)
end
