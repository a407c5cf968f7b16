section
variable {p : Program} {l : Launch} {e : Env} {s : State} {m : MethodId} {below : List Frame} {meth : Method} {c : Code} {b : Nat} {D : va_G} {cs : Nat → ClassId} {ss : jq_S} {H : Heap} {locs : List Loc} {cells slots : Nat} {Q : State → Prop} {pc : Nat} {ls : Array Slot} {rest : List Value}
/-- 'new' in the law: the first object of a system -/
theorem law_new {Z : jq_Z} {ix ci N : Nat} {C : String} {T : u_T} {ty : Nat → FieldType} (hx : p.tables.exec = Jvm.exec) (hb : c.code = cL_law) (hown : s.vm.findClass RL = some m.cls) (hts : ∀ w ∈ jq_T, w.before #[Value.ref b] s = true) (hK : va_K D vwCl (jq_tys cs) s) (hcls : jq_cls ci C T N ty) (hz : Z.1[0]? = some (ci + 10, N)) (w1 : Cond.classLink RL ix C ∈ jq_T) (w2 : Cond.instantiable C N ∈ jq_T) (w3 : Cond.initialized C ∈ jq_T) (hc : cells + 1 ≤ 600000) (hs : slots + N ≤ 7302250) (hS : va_S (fun q => s.heap.size ≤ q) s.heap H locs) (d : decode cL_law pc = .ok (.new ix, 3))
    (kk : ∀ H1 : Heap, H1.size = H.size + 1 → (∀ q, q < H.size → H1[q]? = H[q]?) → va_P D vwCl (jq_ws H.size cs Z 1 (jq_al (fun _ _ => 0) 0 (jq_df ci))) H1 → jq_wf Z 1 (jq_al (fun _ _ => 0) 0 (jq_df ci)) → va_S (fun q => s.heap.size ≤ q) s.heap H1 locs → W p l e room_1 s m #[Value.ref b] below meth c H1 locs (cells + 1) (slots + N) Q (F0 m (pc + 3) ls (.ref H.size :: rest))) : W p l e room_1 s m #[Value.ref b] below meth c H locs cells slots Q (F0 m pc ls rest) := by
  have hKn := hK.1 ci _ hcls.1
  refine W.newcK (n := N) hx hb hown (hts _ w1) (hts _ w2) (hts _ w3) rfl d hc hs hKn.2.1 rfl (fun H1 kC hkC e1 z1 o1 => ?_)
  have hwf0 : jq_wf Z 0 (fun _ _ => 0) := fun k j kd hk => by omega
  have hdf := jq_df_rg hcls
  refine kk H1 z1 o1 ?_ (jq_wf_al hwf0 hz hdf) ⟨by rw [z1]; have := hS.1; omega, fun q q1 q2 => by rw [o1 q (by have := hS.1; omega)]; exact hS.2.1 q q1 q2, hS.2.2⟩
  exact jq_born (σ := fun _ _ => 0) hts hcls hz hKn hkC (by rw [Nat.add_zero]; exact e1) (fun k q h => by simp [jq_ws] at h)
/-- a constructor's call in the law -/
theorem law_init {Z : jq_Z} {b0 : Nat} {y : MethodName} {bc : ByteArray} {mL fr lo rc rs ix n' : Nat} {σ σ' : jq_M} (hx : p.tables.exec = Jvm.exec) (hb : c.code = cL_law) (hml : ls.size = 4) (hmc : c.maxLocals = 4) (hown : s.vm.findClass RL = some m.cls) (hts : ∀ w ∈ jq_T, w.before #[Value.ref b] s = true) (hAO : va_AO "StandTable$Tray" s ∧ va_AO "StandTable$Committee" s) (hK : va_K D vwCl (jq_tys cs) s) (hSF : jq_SF Z ss (fun q => s.heap.size ≤ q) s) (hN : jq_N s) (hzk : jq_zok Z) (mi : jq_MI Z y bc mL fr lo rc rs [jR 0] 1 σ n' σ') (ml : jq_il RL ix y bc mL) (hfr1 : Nat.ble (fr + 1) 2048 = true) (hlo1 : Nat.ble (8 + (mL + 11) + lo) 84000 = true) (hcat : Nat.ble (rest.map fun v => v.category).sum 8 = true) (hc : cells + rc ≤ 600000) (hs : slots + rs ≤ 7302250) (hb0 : s.heap.size ≤ b0) (hsz : H.size = b0 + 1) (hP : va_P D vwCl (jq_ws b0 cs Z 1 σ) H) (hwf : jq_wf Z 1 σ) (hS : va_S (fun q => s.heap.size ≤ q) s.heap H locs) (d : decode cL_law pc = .ok (.invokespecial ix, 3))
    (kk : ∀ (H1 : Heap) (locs1 : List Loc), (∀ q, q < b0 → H1[q]? = H[q]?) → H.size ≤ H1.size → va_P D vwCl (jq_ws b0 cs Z n' σ') H1 → jq_wf Z n' σ' → va_S (fun q => s.heap.size ≤ q) s.heap H1 locs1 → W p l e room_1 s m #[Value.ref b] below meth c H1 locs1 (cells + rc) (slots + rs) Q (F0 m (pc + 3) ls rest)) : W p l e room_1 s m #[Value.ref b] below meth c H locs cells slots Q (F0 m pc ls (.ref b0 :: rest)) := by
  obtain ⟨w1, w2, w3, w4, w5, w6⟩ := ml
  have hnar : ∀ q : Nat, b0 ≤ q → s.heap.size ≤ q := fun q h => Nat.le_trans hb0 h
  have hpre : ∀ U : State, U.heap = H → s.WarmedH U.vm → jq_PI Z b0 D cs ss 1 [jR 0] σ [Value.ref b0].toArray U := by
    intro U hU hW
    refine ⟨rfl, by rw [hU]; exact hP, va_K.moved hW.alike hK, hwf, fun v hv => by rcases List.mem_singleton.mp hv with rfl; exact trivial, by rw [hU]; exact hsz, hzk, ⟨?_, vk_R.warm hW hSF.2.1, ?_, ?_, hSF.2.2.2.2⟩, jq_N_warm hW hN, va_AO.moved hW.alike hAO.1, va_AO.moved hW.alike hAO.2⟩
    · rw [hU]
      exact ((hSF.1.kept (H1 := H) hS.2.1).moved hW.alike).narrow hnar
    · rw [hU]
      exact ((hSF.2.2.1.kept (H1 := H) hS.2.1).moved hW.alike).narrow hnar
    · rw [hU]
      exact ((hSF.2.2.2.1.kept (H1 := H) hS.2.1).moved hW.alike).narrow hnar
  have hcw : CallB room_1 s #[Value.ref b] RL ix y bc mL none (Cond.code y bc mL none :: jq_T) { frames := fr, cells := rc, slots := rs, locals := lo } rc rs 0 ∧ y.name = "<init>" ∧ (Cond.instanceMethod y).before #[Value.ref b] s = true :=
    ⟨callB_of 0 hts (jq_good w4) rfl rfl rfl (hts _ w3) (hts _ w1) w5 ⟨Nat.le_of_ble_eq_true hfr1, Nat.le_of_ble_eq_true hlo1⟩, w6, hts _ w2⟩
  have hrun := va_runI (p := p) (l := l) (e := e) (below := below) (meth := meth) (g := F0 m pc ls (.ref b0 :: rest)) (As := []) (rest := rest) (cells := cells) (slots := slots) (locs := locs) (H := H) (nL := 4) ⟨hx, hb, hmc, hown, hts⟩ (mi l b0 D cs ss) hcw ⟨jq_blindI b0 D cs ss _ _, hpre⟩ rfl rfl hml rfl (lv_room (Nat.le_of_ble_eq_true hcat)) d ⟨hc, hs⟩
  intro T0 hT0 X0
  obtain ⟨v, st₀, t, T', L', h0, X', hL, e1', e2, ⟨hv, hP1, hwf1, hz, hk1⟩, stp⟩ := hrun T0 hT0 X0
  cases hv
  rw [h0] at hz hk1
  rw [← e1'] at hP1 hz hk1
  obtain ⟨t2, a1, c1⟩ := kk T'.heap (locs ++ L') (fun q hq => hk1 q (by omega) (by omega)) hz hP1 hwf1 ⟨Nat.le_trans hS.1 hz, fun q h1 h2 => by rw [hk1 q (Nat.lt_of_lt_of_le h1 hS.1) (fun z => h2 (hnar q z))]; exact hS.2.1 q h1 h2, fun q hq => by
      rcases List.mem_append.mp hq with h | h
      · exact hS.2.2 q h
      · exact hnar _ (hL q h)⟩ T' rfl X'
  exact ⟨t2, stp t2 a1, c1⟩
end
theorem ml_RL_9 : jq_il RL 9 yX10_init cX10_init 2 := ⟨jq_in 159 (by decide +kernel) rfl, jq_in 160 (by decide +kernel) rfl, jq_in 138 (by decide +kernel) rfl, jq_in 161 (by decide +kernel) rfl, ⟨by decide, by decide, by decide +kernel⟩, rfl⟩
theorem ml_RL_12 : jq_il RL 12 yX11_init cX11_init 1 := ⟨jq_in 1554 (by decide +kernel) rfl, jq_in 1555 (by decide +kernel) rfl, jq_in 150 (by decide +kernel) rfl, jq_in 1556 (by decide +kernel) rfl, ⟨by decide, by decide, by decide +kernel⟩, rfl⟩
set_option maxHeartbeats 8000000 in
set_option maxRecDepth 100000 in
theorem whole_start {p : Program} {e : Env} {s : State} {m : MethodId} {below : List Frame} {meth : Method} {c : Code} (l : Launch) (hflags : l.flags = flags0) {b L : Nat} {xs : Nat → Int32} (hL : L ≤ 3072) (C0 : lw_At p s m meth c b L xs) : W p l e room_1 s m #[Value.ref b] below meth c s.heap [] 0 0 (lw_Z below #[Value.ref b] s) (entryFrame m ([Value.ref b] : List Value).toArray 4) := by
  obtain ⟨hx, hb, hr, hml, hown, hts, hX, hbl, hlocks, hgv⟩ := C0
  have htT : ∀ w ∈ jq_T, w.before #[Value.ref b] s = true := fun w hw => hts w (jq_T_tbl hw)
  have hN : jq_N s := fun w hw => by
    have h1 := hts w (List.mem_filter.mp hw).1
    have h2 := (List.mem_filter.mp hw).2
    cases w <;> first | exact va_Nw.of rfl h1 | cases h2
  obtain ⟨cs, hcs⟩ := law_tys hts
  obtain ⟨dC, dI, hcl⟩ := law_cls htT
  have hK : va_K (dC, dI) vwCl (jq_tys cs) s := ⟨hcl, hcs⟩
  have hAO : va_AO "StandTable$Tray" s ∧ va_AO "StandTable$Committee" s := ⟨va_AO.of (hts _ (List.mem_of_getElem? (i := 166) (by decide +kernel))), va_AO.of (hts _ (List.mem_of_getElem? (i := 438) (by decide +kernel)))⟩
  obtain ⟨ss1, hSF1⟩ := law_strX (A := fun q => s.heap.size ≤ q) hts hgv (fun a ha => Nat.not_le.mpr ha)
  obtain ⟨ss2, hSF2⟩ := law_strM (A := fun q => s.heap.size ≤ q) hts hgv (fun a ha => Nat.not_le.mpr ha)
  obtain ⟨σ1, σ2, hi1, hi2, hy1, hy2, hrel⟩ := pr_start
  have hS : va_S (fun q : Nat => s.heap.size ≤ q) s.heap s.heap [] := va_S.rf
  have hl := lv_entry ([.ref b]) (n := 4) (Nat.le_of_ble_eq_true rfl)
  rw [lg_entry_eq]
  generalize (lg_sl ([.ref b]) ++ List.replicate (4 - (lg_sl ([.ref b])).length) Slot.unset).toArray = ls at hl ⊢
  have hl : lv_has ls 4 [(0, .ref b)] := hl
  refine law_new (Z := jq_zX) (cells := 0) (slots := 0) hx hb hown htT hK cls_X10 (by decide +kernel) (jq_in 157 (by decide +kernel) rfl) (jq_in 158 (by decide +kernel) rfl) (jq_in 138 (by decide +kernel) rfl) (by omega) (by omega) hS dL_law_0 (fun H1 z1 o1 hP1 hw1 hS1 => ?_)
  refine lv_dup hx hb dL_law_3 rfl ?_
  refine law_init (Z := jq_zX) hx hb hl.1 hml hown htT hAO hK hSF1 hN jq_zX_k (ctX10_init_0 hi1) ml_RL_9 rfl rfl rfl (by omega) (by omega) (Nat.le_refl _) z1 hP1 hw1 hS1 dL_law_4 (fun H2 locs2 o2 z2 hP2 hw2 hS2 => ?_)
  refine lv_astore_n (lv' := [(1, .ref s.heap.size), (0, .ref b)]) hx hb dL_law_7 rfl hl (by decide) rfl (fun ls hl => ?_)
  have hsz2 : s.heap.size + 132 ≤ H2.size := by
    have h9 := (hP2 131 _ (jq_ws_at (b := s.heap.size) (cs := cs) (Z := jq_zX) (n := 132) (σ := σ1) (k := 131) (kd := (0, 5)) (by decide) (by decide +kernel))).lt
    have : s.heap.size + 131 < H2.size := h9
    omega
  refine law_new (Z := jq_zM) hx hb hown htT hK cls_X11 (by decide +kernel) (jq_in 1552 (by decide +kernel) rfl) (jq_in 1553 (by decide +kernel) rfl) (jq_in 150 (by decide +kernel) rfl) (by omega) (by omega) hS2 dL_law_8 (fun H3 z3 o3 hP3 hw3 hS3 => ?_)
  refine lv_dup hx hb dL_law_11 rfl ?_
  refine law_init (Z := jq_zM) hx hb hl.1 hml hown htT hAO hK hSF2 hN jq_zM_k (ctX11_init_0 hi2) ml_RL_12 rfl rfl rfl (by omega) (by omega) (by omega) z3 hP3 hw3 hS3 dL_law_12 (fun H4 locs4 o4 z4 hP4 hw4 hS4 => ?_)
  refine lv_astore_n (lv' := [(2, .ref H2.size), (1, .ref s.heap.size), (0, .ref b)]) hx hb dL_law_15 rfl hl (by decide) rfl (fun ls hl => ?_)
  refine lv_iconst (v := nI 0) hx hb dL_law_16 rfl ?_
  refine lv_istore_n (lv' := [(3, .int (nI 0)), (2, .ref H2.size), (1, .ref s.heap.size), (0, .ref b)]) hx hb dL_law_17 rfl hl (by decide) rfl (fun ls hl => ?_)
  have hP24 : va_P (dC, dI) vwCl (jq_ws s.heap.size cs jq_zX 132 σ1) H4 := hP2.kept (fun k q hq => by
    have hlt := (hP2 k q hq).lt
    rw [o4 q.1 hlt, o3 q.1 hlt])
  have CC : jq_LC p s m meth c b L xs s.heap.size H2.size (dC, dI) cs ss1 ss2 := ⟨hx, hb, hml, hown, htT, hX, hbl, hK, hSF1, hSF2, hN, Nat.le_refl _, hsz2, hL⟩
  refine law_loop CC (by omega) (by omega) (fun H5 locs5 ls5 hS5 => ?_) (L + 12) 0 (by omega) (by omega) σ1 σ2 H4 locs4 ls hrel ⟨hP24, hP4, hw2, hw4, hy1, hy2⟩ hS4 (lv_sub hl [3, 2, 1, 0] rfl)
  refine lv_iconst (v := 1) hx hb dL_law_2019 (by decide) ?_
  refine va_forget (fun q hq => hS5.2.2 q hq) ?_
  refine W.widen (k := 600000) (n := 7302250) (by omega) (by omega) ?_
  exact lw_ret hx hb hr hlocks dL_law_2020
set_option maxHeartbeats 4000000 in
theorem lw_walk (l : Launch) (hflags : l.flags = flags0) (b : Addr) (xs : List Int32) : MetFree l x (headSpec (Jvm.Cond.code x code maxLocals ret :: tables_1) room_1) (lw_P b xs) (fun _ _ _ _ _ => True) lw_Q := by
  refine MetFree.of_bodyS (code := code) (maxLocals := maxLocals) (ret := ret) (by decide) ?_ ?_
  · intro args s m h hn
    obtain ⟨meth, c, h1, h2, h3, h4, h5, h6, -, -⟩ := Cond.code_spec hn (atoms_spec (ws := Jvm.Cond.code x code maxLocals ret :: tables_1) h _ List.mem_cons_self)
    exact ⟨meth, c, h1, h2, h3, h4, h5, h6⟩
  · intro p e s m args below meth c s₁ B hml0 hP _
    obtain ⟨rfl, hx, hbd, hgv⟩ := hP
    obtain ⟨scr, harrAt, hlist, hof, hsmall⟩ := hx
    obtain ⟨hcb, hkn, -, -⟩ := State.arrayAt?_spec harrAt
    have hown : s.vm.findClass R_law = some m.cls := findClass_of_methodNamed B.named
    have hts0 : ∀ c ∈ (Jvm.Cond.code x code maxLocals ret :: tables_1), c.before #[Value.ref b] s = true := atoms_spec (ws := Jvm.Cond.code x code maxLocals ret :: tables_1) B.pre
    have hts : ∀ w ∈ lw_tbl, w.before #[Value.ref b] s = true := k2_hts_sels lw_privs (fun w hw => hts0 w (List.mem_cons_of_mem _ hw)) lw_privs_ok
    have hml : c.maxLocals = 4 := B.maxLocals_eq (hts0 _ List.mem_cons_self)
    have X₀ : Stand p l e room_1 s m #[Value.ref b] below meth c s₁ [] 0 0 := Stand.of_body B
    have hh0 : s₁.heap = s.heap := by rw [B.state]; rfl
    have hsz : scr.slots.size = xs.length := by rw [← Array.length_toList, hlist, List.length_map]
    have hval : ∀ j : Nat, j < xs.length → scr.slots[j]? = some (.int (xs.getD j 0)) := fun j hj => by
      rw [← Array.getElem?_toList, hlist]
      simp [hj]
    have hbl : b < s.heap.size := (Array.getElem?_eq_some_iff.mp hcb).1
    have hX : va_X b xs.length (fun j => xs.getD j 0) s s.heap := ⟨scr, hcb, hof, hkn, hsz, hval⟩
    have K : W p l e room_1 s m #[Value.ref b] below meth c s₁.heap [] 0 0 (lw_Z below #[Value.ref b] s) (entryFrame m ([Value.ref b] : List Value).toArray 4) := by
      rw [hh0]
      exact whole_start l hflags hbd ⟨B.exec, B.bytes, B.returns, hml, hown, hts, hX, hbl, B.notSynchronized, hgv⟩
    obtain ⟨t, a1, o, b1, b2, b3⟩ := K s₁ rfl X₀
    exact ⟨t, o, a1, b1, b2, b3⟩
theorem lw_pre_spec {args : Array Value} {s : State} (h : (Jvm.Cond.and given_1 narrow_1).before args s = true) (hr : rest_1_c.before args s = true) : ∃ (b : Addr) (xs : List Int32), lw_P b xs args s := by
  have hs := flat_of_before _ h
  have hq := flat_of_before _ hr
  have hc : (Cond.count 1).before args s = true := hs _ (by decide +kernel)
  have harr : (Cond.arrayOf (.arg 0) .int).before args s = true := hs _ (by decide +kernel)
  have hle : (Cond.le (.length (.arg 0)) (.int 3072)).before args s = true := hs _ (by decide +kernel)
  have hlen : (Cond.isInt (.length (.arg 0))).before args s = true := hq _ (by decide +kernel)
  have hall : (Cond.all (.arg 0) (.isInt (.elem (.arg 0) (.index 0)))).before args s = true := hq _ (by decide +kernel)
  obtain ⟨b, xs, hb, hx⟩ := State.ints_of_pre rfl harr hlen hall
  have hsm : xs.length < 2 ^ 31 := hx.choose_spec.2.2.2
  have hev : (Term.length (.arg 0)).eval args s none [] s = some (.int xs.length.toInt32) := hx.length_eval hb
  have hv := Cond.le_ints hev (show (Term.int 3072).eval args s none [] s = some (.int 3072) from rfl)
  have hd : xs.length.toInt32 ≤ 3072 := by
    simpa [Cond.before, Cond.holds, hv] using hle
  have hN : xs.length ≤ 3072 := (Int32.ofNat_le_ofNat hsm (by decide)).mp (show Int32.ofNat xs.length ≤ Int32.ofNat 3072 from hd)
  exact ⟨b, xs, Cond.one_arg hc (show args[0]? = some (.ref b) from hb), hx, hN, h⟩
theorem lw_comes (l : Launch) (hflags : l.flags = flags0) : Comes l x (Jvm.Cond.code x code maxLocals ret :: tables_1) room_1 (fun tb e args s => Calls_1 tb e args s ∧ rest_1 tb e args s ∧ Pre_1 tb e args s)
    (fun _ _ args s o t => lw_Q args s o t) := by
  intro p e ha hc hk s m args below hf hfit hheap happ hpre
  obtain ⟨b, xs, hP⟩ := lw_pre_spec hpre.2.2 hpre.2.1
  obtain ⟨k, o, h1, h2, h3, hQ⟩ := lw_walk l hflags b xs p e ha hc hk s m args below hf ((Spec.applies_iff_loose hf).mp happ).1 hP trivial
  exact ⟨k, o, h1, h2, h3, hQ⟩
theorem lw_frame {s t : State} {o : Outcome} {args : Array Value} (h : Framed s o t [] 600000 7302250) :
    Framed s o t (fieldLocs frame_1_writes args s ++ arrayLocs frame_1_arrays args s ++ staticLocs frame_1_statics s) 600000 7302250 := h
theorem lw_limb (L : Cond) (hL : ∀ (args : Array Value) (s t : State), L.after args s (.returned (some (.int 1))) t = true) :
    ArmFor flags0 classFile x code maxLocals ret World_1 tables_1 room_1 Calls_1 rest_1 Pre_1
      (fun tb e a s o t => postC L tb e a s o t ∧ Framed s o t (fieldLocs frame_1_writes a s ++ arrayLocs frame_1_arrays a s ++ staticLocs frame_1_statics s) 600000 7302250) := by
  intro l hflags _ _ p e ha hc hk s m args below hf hfit hheap happ hpre
  obtain ⟨k, o, h1, h2, h3, rfl, hF⟩ := lw_comes l hflags p e ha hc hk s m args below hf hfit hheap happ hpre
  exact ⟨k, _, h1, h2, h3, hL args s _, lw_frame hF⟩
theorem i_vc : Claimed_1_1 ∧ Claimed_1_2 := ⟨lw_limb limb_1_1 (fun args s t => by simp [limb_1_1, Cond.after, Cond.holds, Cond.value]), lw_limb limb_1_2 (fun args s t => Cond.after_iff.mpr (by
  first | (rw [show limb_1_2 = Cond.eq .result (.int 1) from rfl, Cond.eq_ints (x := 1) (y := 1) rfl rfl]; simp; done) | (simp [limb_1_2, Cond.value, Term.eval]; done)))⟩

