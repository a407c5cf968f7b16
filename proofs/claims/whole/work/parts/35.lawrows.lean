section
variable {p : Program} {l : Launch} {e : Env} {s : State} {m : MethodId} {below : List Frame} {meth : Method} {c : Code} {b L : Nat} {xs : Nat → Int32} {b1 b2 : Nat} {D : va_G} {cs : Nat → ClassId} {ss1 ss2 : jq_S} {H : Heap} {locs : List Loc} {cells slots : Nat} {Q : State → Prop} {pc : Nat} {ls : Array Slot} {rest : List Value} {σ1 σ2 : jq_M} {i : Nat}
/-- what the law's frame stands on -/
def jq_LC (p : Program) (s : State) (m : MethodId) (meth : Method) (c : Code) (b L : Nat) (xs : Nat → Int32) (b1 b2 : Nat) (D : va_G) (cs : Nat → ClassId) (ss1 ss2 : jq_S) : Prop :=
  p.tables.exec = Jvm.exec ∧ c.code = cL_law ∧ c.maxLocals = 4 ∧ s.vm.findClass RL = some m.cls ∧ (∀ w ∈ jq_T, w.before #[Value.ref b] s = true) ∧ va_X b L xs s s.heap ∧ b < s.heap.size ∧ va_K D vwCl (jq_tys cs) s ∧ jq_SF jq_zX ss1 (fun q => s.heap.size ≤ q) s ∧ jq_SF jq_zM ss2 (fun q => s.heap.size ≤ q) s ∧ jq_N s ∧ s.heap.size ≤ b1 ∧ b1 + 132 ≤ b2 ∧ L ≤ 3072
/-- both systems in the heap -/
def jq_R2 (b1 b2 : Nat) (D : va_G) (cs : Nat → ClassId) (σ1 σ2 : jq_M) (H : Heap) : Prop :=
  va_P D vwCl (jq_ws b1 cs jq_zX 132 σ1) H ∧ va_P D vwCl (jq_ws b2 cs jq_zM 18 σ2) H ∧ jq_wf jq_zX 132 σ1 ∧ jq_wf jq_zM 18 σ2 ∧ jq_lay jq_zX σ1 ∧ jq_lay jq_zM σ2
theorem jq_lenX : jq_zX.1.length = 132 := by decide +kernel
theorem jq_lenM : jq_zM.1.length = 18 := by decide +kernel
def jq_a (xs : Nat → Int32) (i k : Nat) : Int := (xs (i + k)).toInt
theorem jq_a_r (i k : Nat) : jq_r (jq_a xs i k) := jq_ti_r _
theorem law_ld (C0 : jq_LC p s m meth c b L xs b1 b2 D cs ss1 ss2) (hS : va_S (fun q => s.heap.size ≤ q) s.heap H locs) (hl : lv_has ls 4 [(0, .ref b), (1, .ref b1), (2, .ref b2), (3, .int (nI i))]) (hi : i + 6 ≤ L) (k : Nat) (hk : Nat.ble k 5 = true) {d0 : Int} (hd0 : Int32.ofInt d0 = nI k) (g0 : decode cL_law pc = .ok (.aload_n 0, 1)) (g1 : decode cL_law (pc + 1) = .ok (.iload_n 3, 1)) (g2 : decode cL_law (pc + 2) = .ok (.iconst d0, 1)) (g3 : decode cL_law (pc + 3) = .ok (.iadd, 1)) (g4 : decode cL_law (pc + 4) = .ok (.iaload, 1))
    (kk : W p l e room_1 s m #[Value.ref b] below meth c H locs cells slots Q (F0 m (pc + 5) ls (.int (Int32.ofInt (jq_a xs i k)) :: rest))) : W p l e room_1 s m #[Value.ref b] below meth c H locs cells slots Q (F0 m pc ls rest) := by
  obtain ⟨hx, hb, hml, hown, hts, hX, hbl, hK, hSF1, hSF2, hN, hb1, hb2, hL⟩ := C0
  have hk5 := Nat.le_of_ble_eq_true hk
  have hbA : ¬ (fun q : Nat => s.heap.size ≤ q) b := Nat.not_le.mpr hbl
  refine lv_aload_n hx hb g0 rfl (lv_at hl 0 rfl) ?_
  refine lv_iload_n hx hb g1 rfl (lv_at hl 3 rfl) ?_
  refine lv_iconst hx hb g2 hd0 ?_
  refine lv_iadd hx hb g3 ?_
  rw [nI_add]
  refine va_sld hx hb hX hbl hbA hS (vp_in_nI (by omega) (by omega)) g4 ?_
  rw [nI_clamp (by omega)]
  unfold jq_a at kk
  rw [jq_oft] at kk
  exact kk
theorem law_callX (C0 : jq_LC p s m meth c b L xs b1 b2 D cs ss1 ss2) (hR : jq_R2 b1 b2 D cs σ1 σ2 H) (hS : va_S (fun q => s.heap.size ≤ q) s.heap H locs) (hlz : ls.size = 4) (hcl : cells ≤ 600000) (hsl : slots ≤ 7302250) {y : MethodName} {bc : ByteArray} {mL fr lo ix n : Nat} {rt : Option FieldType} {avs : List jq_A} {v : jq_A} {σ1' : jq_M} {st0 : List Value} (mc : jq_MC jq_zX y bc mL rt fr lo (jR 0 :: avs) σ1 (some v) σ1') (ml : jq_vl RL ix y bc mL rt n) (hn : avs.length = n) (hycl : y.cls = RX10) (hos : jq_os avs) (hst : st0 = (jq_eS b1 ss1 avs).reverse ++ .ref b1 :: rest) (hfr1 : Nat.ble (fr + 1) 2048 = true) (hlo1 : Nat.ble (8 + (mL + 11) + lo) 84000 = true) (hcat : Nat.ble (rest.map fun v => v.category).sum 8 = true) (d : decode cL_law pc = .ok (.invokevirtual ix, 3))
    (kk : ∀ (H1 : Heap) (locs1 : List Loc), jq_R2 b1 b2 D cs σ1' σ2 H1 → va_S (fun q => s.heap.size ≤ q) s.heap H1 locs1 → W p l e room_1 s m #[Value.ref b] below meth c H1 locs1 cells slots Q (F0 m (pc + 3) ls (jq_e b1 ss1 v :: rest))) : W p l e room_1 s m #[Value.ref b] below meth c H locs cells slots Q (F0 m pc ls st0) := by
  obtain ⟨hx, hb, hml, hown, hts, hX, hbl, hK, hSF1, hSF2, hN, hb1, hb2, hL⟩ := C0
  obtain ⟨hP1, hP2, hw1, hw2, hy1, hy2⟩ := hR
  obtain ⟨w1, w2, w3, w4, w5, w6⟩ := ml
  have hbA : ∀ q, jq_AR b1 jq_zX.1.length q → s.heap.size ≤ q := fun q hq => by have := hq.1; omega
  have hpre : ∀ U : State, U.heap = H → s.WarmedH U.vm → jq_Pq jq_zX b1 D cs ss1 (jR 0 :: avs) σ1 (jq_eS b1 ss1 (jR 0 :: avs)).toArray U := by
    intro U hU hW
    refine ⟨rfl, by rw [hU, jq_lenX]; exact hP1, va_K.moved hW.alike hK, by rw [jq_lenX]; exact hw1, jq_os_c.mpr ⟨trivial, hos⟩, hy1, jq_zX_k, ⟨?_, vk_R.warm hW hSF1.2.1, ?_, ?_, hSF1.2.2.2.2⟩, jq_N_warm hW hN⟩
    · rw [hU]
      exact ((hSF1.1.kept (H1 := H) hS.2.1).moved hW.alike).narrow hbA
    · rw [hU]
      exact ((hSF1.2.2.1.kept (H1 := H) hS.2.1).moved hW.alike).narrow hbA
    · rw [hU]
      exact ((hSF1.2.2.2.1.kept (H1 := H) hS.2.1).moved hW.alike).narrow hbA
  have he := jq_ws_at (b := b1) (cs := cs) (Z := jq_zX) (n := 132) (σ := σ1) (k := 0) (kd := (7 + 10, 18)) (by decide) (by decide +kernel)
  rw [jq_en_o] at he
  have hrec := va_recv (ci := 7) (q := (RX10, TX10, 18)) hK hP1 rfl he
  rw [Nat.add_zero, ← hycl] at hrec
  have hcw : CallW room_1 s #[Value.ref b] RL y.cls ix y bc mL rt (Cond.code y bc mL rt :: jq_T) { frames := fr, cells := 0, slots := 0, locals := lo } 0 0 n :=
    ⟨callB_of n hts (jq_good w5) rfl rfl rfl (hts _ w4) (hts _ w1) w6 ⟨Nat.le_of_ble_eq_true hfr1, Nat.le_of_ble_eq_true hlo1⟩, hts _ w2, hts _ w3⟩
  have hargs : jq_eS b1 ss1 (jR 0 :: avs) = Value.ref b1 :: jq_eS b1 ss1 avs := jq_reS b1 ss1 0 avs
  rw [hargs] at hpre
  have hrun := va_runV (p := p) (l := l) (e := e) (below := below) (meth := meth) (g := F0 m pc ls st0) (As := jq_eS b1 ss1 avs) (rest := rest) (cells := cells) (slots := slots) (locs := locs) (H := H) (nL := 4) ⟨hx, hb, hml, hown, hts⟩ (mc l b1 D cs ss1) hcw ⟨jq_blind b1 D cs ss1 _, hrec, hpre⟩ rfl (by unfold jq_eS; rw [List.length_map]; exact hn) hlz hst (lv_room (Nat.le_of_ble_eq_true hcat)) d ⟨hcl, hsl⟩
  intro T0 hT0 X0
  obtain ⟨v', st₀, t, T', L', h0, X', hL', e1, e2, ⟨hv, hPn, hwn, hyn, hok, hzb, hz, hk⟩, stp⟩ := hrun T0 hT0 X0
  cases hv
  rw [h0] at hz hk
  rw [← e1] at hPn hz hk
  rw [jq_lenX] at hPn hwn
  have hoth : va_P D vwCl (jq_ws b2 cs jq_zM 18 σ2) T'.heap := hP2.kept (fun k q hq => hk q.1 (hP2 k q hq).lt (fun ha => by
    have h1 := ha.1
    have h2 := ha.2
    rw [jq_lenX] at h2
    have h3 := (jq_ws_D (A := fun a => b2 ≤ a) (fun k hk => by omega)).2 k q hq
    omega))
  obtain ⟨t2, a1, c1⟩ := kk T'.heap (locs ++ L') ⟨hPn, hoth, hwn, hw2, hyn, hy2⟩ ⟨Nat.le_trans hS.1 hz, fun q h1 h2 => by rw [hk q (Nat.lt_of_lt_of_le h1 hS.1) (fun z => h2 (hbA q z))]; exact hS.2.1 q h1 h2, fun q hq => by
      rcases List.mem_append.mp hq with h | h
      · exact hS.2.2 q h
      · exact hbA _ (hL' q h)⟩ T' rfl X'
  exact ⟨t2, stp t2 a1, c1⟩
theorem law_callM (C0 : jq_LC p s m meth c b L xs b1 b2 D cs ss1 ss2) (hR : jq_R2 b1 b2 D cs σ1 σ2 H) (hS : va_S (fun q => s.heap.size ≤ q) s.heap H locs) (hlz : ls.size = 4) (hcl : cells ≤ 600000) (hsl : slots ≤ 7302250) {y : MethodName} {bc : ByteArray} {mL fr lo ix n : Nat} {rt : Option FieldType} {avs : List jq_A} {v : jq_A} {σ2' : jq_M} {st0 : List Value} (mc : jq_MC jq_zM y bc mL rt fr lo (jR 0 :: avs) σ2 (some v) σ2') (ml : jq_vl RL ix y bc mL rt n) (hn : avs.length = n) (hycl : y.cls = RX11) (hos : jq_os avs) (hst : st0 = (jq_eS b2 ss2 avs).reverse ++ .ref b2 :: rest) (hfr1 : Nat.ble (fr + 1) 2048 = true) (hlo1 : Nat.ble (8 + (mL + 11) + lo) 84000 = true) (hcat : Nat.ble (rest.map fun v => v.category).sum 8 = true) (d : decode cL_law pc = .ok (.invokevirtual ix, 3))
    (kk : ∀ (H1 : Heap) (locs1 : List Loc), jq_R2 b1 b2 D cs σ1 σ2' H1 → va_S (fun q => s.heap.size ≤ q) s.heap H1 locs1 → W p l e room_1 s m #[Value.ref b] below meth c H1 locs1 cells slots Q (F0 m (pc + 3) ls (jq_e b2 ss2 v :: rest))) : W p l e room_1 s m #[Value.ref b] below meth c H locs cells slots Q (F0 m pc ls st0) := by
  obtain ⟨hx, hb, hml, hown, hts, hX, hbl, hK, hSF1, hSF2, hN, hb1, hb2, hL⟩ := C0
  obtain ⟨hP1, hP2, hw1, hw2, hy1, hy2⟩ := hR
  obtain ⟨w1, w2, w3, w4, w5, w6⟩ := ml
  have hbA : ∀ q, jq_AR b2 jq_zM.1.length q → s.heap.size ≤ q := fun q hq => by have := hq.1; omega
  have hpre : ∀ U : State, U.heap = H → s.WarmedH U.vm → jq_Pq jq_zM b2 D cs ss2 (jR 0 :: avs) σ2 (jq_eS b2 ss2 (jR 0 :: avs)).toArray U := by
    intro U hU hW
    refine ⟨rfl, by rw [hU, jq_lenM]; exact hP2, va_K.moved hW.alike hK, by rw [jq_lenM]; exact hw2, jq_os_c.mpr ⟨trivial, hos⟩, hy2, jq_zM_k, ⟨?_, vk_R.warm hW hSF2.2.1, ?_, ?_, hSF2.2.2.2.2⟩, jq_N_warm hW hN⟩
    · rw [hU]
      exact ((hSF2.1.kept (H1 := H) hS.2.1).moved hW.alike).narrow hbA
    · rw [hU]
      exact ((hSF2.2.2.1.kept (H1 := H) hS.2.1).moved hW.alike).narrow hbA
    · rw [hU]
      exact ((hSF2.2.2.2.1.kept (H1 := H) hS.2.1).moved hW.alike).narrow hbA
  have he := jq_ws_at (b := b2) (cs := cs) (Z := jq_zM) (n := 18) (σ := σ2) (k := 0) (kd := (8 + 10, 37)) (by decide) (by decide +kernel)
  rw [jq_en_o] at he
  have hrec := va_recv (ci := 8) (q := (RX11, TX11, 37)) hK hP2 rfl he
  rw [Nat.add_zero, ← hycl] at hrec
  have hcw : CallW room_1 s #[Value.ref b] RL y.cls ix y bc mL rt (Cond.code y bc mL rt :: jq_T) { frames := fr, cells := 0, slots := 0, locals := lo } 0 0 n :=
    ⟨callB_of n hts (jq_good w5) rfl rfl rfl (hts _ w4) (hts _ w1) w6 ⟨Nat.le_of_ble_eq_true hfr1, Nat.le_of_ble_eq_true hlo1⟩, hts _ w2, hts _ w3⟩
  have hargs : jq_eS b2 ss2 (jR 0 :: avs) = Value.ref b2 :: jq_eS b2 ss2 avs := jq_reS b2 ss2 0 avs
  rw [hargs] at hpre
  have hrun := va_runV (p := p) (l := l) (e := e) (below := below) (meth := meth) (g := F0 m pc ls st0) (As := jq_eS b2 ss2 avs) (rest := rest) (cells := cells) (slots := slots) (locs := locs) (H := H) (nL := 4) ⟨hx, hb, hml, hown, hts⟩ (mc l b2 D cs ss2) hcw ⟨jq_blind b2 D cs ss2 _, hrec, hpre⟩ rfl (by unfold jq_eS; rw [List.length_map]; exact hn) hlz hst (lv_room (Nat.le_of_ble_eq_true hcat)) d ⟨hcl, hsl⟩
  intro T0 hT0 X0
  obtain ⟨v', st₀, t, T', L', h0, X', hL', e1, e2, ⟨hv, hPn, hwn, hyn, hok, hzb, hz, hk⟩, stp⟩ := hrun T0 hT0 X0
  cases hv
  rw [h0] at hz hk
  rw [← e1] at hPn hz hk
  rw [jq_lenM] at hPn hwn
  have hoth : va_P D vwCl (jq_ws b1 cs jq_zX 132 σ1) T'.heap := hP1.kept (fun k q hq => hk q.1 (hP1 k q hq).lt (fun ha => by
    have h1 := ha.1
    have h2 := ha.2
    rw [jq_lenM] at h2
    have h3 := (jq_ws_D (A := fun a => a < b1 + 132) (fun k hk => by omega)).2 k q hq
    omega))
  obtain ⟨t2, a1, c1⟩ := kk T'.heap (locs ++ L') ⟨hoth, hPn, hw1, hwn, hy1, hyn⟩ ⟨Nat.le_trans hS.1 hz, fun q h1 h2 => by rw [hk q (Nat.lt_of_lt_of_le h1 hS.1) (fun z => h2 (hbA q z))]; exact hS.2.1 q h1 h2, fun q hq => by
      rcases List.mem_append.mp hq with h | h
      · exact hS.2.2 q h
      · exact hbA _ (hL' q h)⟩ T' rfl X'
  exact ⟨t2, stp t2 a1, c1⟩
def jq_l34 (a3 a4 : Int) : Int := (((Int32.ofInt a3).toInt64 <<< ((Int32.ofInt 32).toInt64 &&& 63)) ||| ((Int32.ofInt a4).toInt64 &&& Int64.ofInt 4294967295)).toInt
theorem law_l34 (C0 : jq_LC p s m meth c b L xs b1 b2 D cs ss1 ss2) (hS : va_S (fun q => s.heap.size ≤ q) s.heap H locs) (hl : lv_has ls 4 [(0, .ref b), (1, .ref b1), (2, .ref b2), (3, .int (nI i))]) (hi : i + 6 ≤ L) (g0 : decode cL_law pc = .ok (.aload_n 0, 1)) (g1 : decode cL_law (pc + 1) = .ok (.iload_n 3, 1)) (g2 : decode cL_law (pc + 2) = .ok (.iconst 3, 1)) (g3 : decode cL_law (pc + 3) = .ok (.iadd, 1)) (g4 : decode cL_law (pc + 4) = .ok (.iaload, 1)) (g5 : decode cL_law (pc + 5) = .ok (.i2l, 1)) (g6 : decode cL_law (pc + 6) = .ok (.bipush 32, 2)) (g8 : decode cL_law (pc + 8) = .ok (.lshl, 1))
    (f0 : decode cL_law (pc + 9) = .ok (.aload_n 0, 1)) (f1 : decode cL_law (pc + 10) = .ok (.iload_n 3, 1)) (f2 : decode cL_law (pc + 11) = .ok (.iconst 4, 1)) (f3 : decode cL_law (pc + 12) = .ok (.iadd, 1)) (f4 : decode cL_law (pc + 13) = .ok (.iaload, 1)) (f5 : decode cL_law (pc + 14) = .ok (.i2l, 1)) {kx : Nat} (f6 : decode cL_law (pc + 15) = .ok (.ldc2_w kx, 3)) (fk : Cond.constantLong RL kx (Int64.ofInt 4294967295) ∈ jq_T) (f9 : decode cL_law (pc + 18) = .ok (.land, 1)) (f10 : decode cL_law (pc + 19) = .ok (.lor, 1))
    (kk : W p l e room_1 s m #[Value.ref b] below meth c H locs cells slots Q (F0 m (pc + 20) ls (.long (Int64.ofInt (jq_l34 (jq_a xs i 3) (jq_a xs i 4))) :: rest))) : W p l e room_1 s m #[Value.ref b] below meth c H locs cells slots Q (F0 m pc ls rest) := by
  have C1 := C0
  obtain ⟨hx, hb, hml, hown, hts, -⟩ := C1
  refine law_ld C0 hS hl hi 3 rfl rfl g0 g1 g2 g3 g4 ?_
  refine lv_i2l hx hb g5 rfl ?_
  refine lv_bipush hx hb g6 (jq_8 (by decide) (by decide)) ?_
  refine lv_lshl hx hb g8 rfl ?_
  refine law_ld C0 hS hl hi 4 rfl rfl f0 f1 f2 f3 f4 ?_
  refine lv_i2l hx hb f5 rfl ?_
  refine lv_ldc2 hx hb hown (hts _ fk) f6 ?_
  refine lv_land hx hb f9 ?_
  refine lv_lor hx hb f10 ?_
  unfold jq_l34 at kk
  rw [jq_oft64] at kk
  exact kk
end
theorem jq_cmp_self (x : Int64) : lg_cmp x x = 0 := by
  unfold lg_cmp
  rw [if_neg (by rw [gt_iff_lt, Int64.lt_iff_toInt_lt]; omega), if_pos rfl]
theorem dL_law_0 : decode cL_law 0 = .ok (.new 7, 3) := by decide +kernel
theorem dL_law_3 : decode cL_law 3 = .ok (.dup, 1) := by decide +kernel
theorem dL_law_4 : decode cL_law 4 = .ok (.invokespecial 9, 3) := by decide +kernel
theorem dL_law_7 : decode cL_law 7 = .ok (.astore_n 1, 1) := by decide +kernel
theorem dL_law_8 : decode cL_law 8 = .ok (.new 10, 3) := by decide +kernel
theorem dL_law_11 : decode cL_law 11 = .ok (.dup, 1) := by decide +kernel
theorem dL_law_12 : decode cL_law 12 = .ok (.invokespecial 12, 3) := by decide +kernel
theorem dL_law_15 : decode cL_law 15 = .ok (.astore_n 2, 1) := by decide +kernel
theorem dL_law_16 : decode cL_law 16 = .ok (.iconst 0, 1) := by decide +kernel
theorem dL_law_17 : decode cL_law 17 = .ok (.istore_n 3, 1) := by decide +kernel
theorem dL_law_18 : decode cL_law 18 = .ok (.iload_n 3, 1) := by decide +kernel
theorem dL_law_19 : decode cL_law 19 = .ok (.aload_n 0, 1) := by decide +kernel
theorem dL_law_20 : decode cL_law 20 = .ok (.arraylength, 1) := by decide +kernel
theorem dL_law_21 : decode cL_law 21 = .ok (.bipush 6, 2) := by decide +kernel
theorem dL_law_23 : decode cL_law 23 = .ok (.isub, 1) := by decide +kernel
theorem dL_law_24 : decode cL_law 24 = .ok (.if_icmp .gt 1995, 3) := by decide +kernel
theorem dL_law_27 : decode cL_law 27 = .ok (.aload_n 0, 1) := by decide +kernel
theorem dL_law_28 : decode cL_law 28 = .ok (.iload_n 3, 1) := by decide +kernel
theorem dL_law_29 : decode cL_law 29 = .ok (.iaload, 1) := by decide +kernel
theorem dL_law_30 : decode cL_law 30 = .ok (.bipush 127, 2) := by decide +kernel
theorem dL_law_32 : decode cL_law 32 = .ok (.iand, 1) := by decide +kernel
theorem dL_law_33 : decode cL_law 33 = .ok (.tableswitch 1980 0 67 #[287, 300, 314, 328, 371, 444, 478, 541, 604, 627, 650, 673, 696, 719, 742, 765, 798, 831, 864, 897, 920, 933, 956, 979, 1012, 1035, 1068, 1091, 1114, 1137, 1160, 1193, 1226, 1275, 1288, 1301, 1314, 1337, 1350, 1373, 1386, 1399, 1422, 1445, 1468, 1481, 1494, 1507, 1520, 1533, 1566, 1609, 1652, 1675, 1698, 1711, 1724, 1747, 1770, 1793, 1816, 1829, 1852, 1875, 1898, 1921, 1954, 1967], 287) := by decide +kernel
theorem dL_law_320 : decode cL_law 320 = .ok (.aload_n 1, 1) := by decide +kernel
theorem dL_law_321 : decode cL_law 321 = .ok (.invokevirtual 13, 3) := by decide +kernel
theorem dL_law_324 : decode cL_law 324 = .ok (.aload_n 2, 1) := by decide +kernel
theorem dL_law_325 : decode cL_law 325 = .ok (.invokevirtual 17, 3) := by decide +kernel
theorem dL_law_328 : decode cL_law 328 = .ok (.if_icmp .eq 1685, 3) := by decide +kernel
theorem dL_law_331 : decode cL_law 331 = .ok (.iconst 0, 1) := by decide +kernel
theorem dL_law_332 : decode cL_law 332 = .ok (.ireturn, 1) := by decide +kernel
theorem dL_law_333 : decode cL_law 333 = .ok (.aload_n 1, 1) := by decide +kernel
theorem dL_law_334 : decode cL_law 334 = .ok (.invokevirtual 18, 3) := by decide +kernel
theorem dL_law_337 : decode cL_law 337 = .ok (.aload_n 2, 1) := by decide +kernel
theorem dL_law_338 : decode cL_law 338 = .ok (.invokevirtual 22, 3) := by decide +kernel
theorem dL_law_341 : decode cL_law 341 = .ok (.lcmp, 1) := by decide +kernel
theorem dL_law_342 : decode cL_law 342 = .ok (.ifCond .eq 1671, 3) := by decide +kernel
theorem dL_law_345 : decode cL_law 345 = .ok (.iconst 0, 1) := by decide +kernel
theorem dL_law_346 : decode cL_law 346 = .ok (.ireturn, 1) := by decide +kernel
theorem dL_law_347 : decode cL_law 347 = .ok (.aload_n 1, 1) := by decide +kernel
theorem dL_law_348 : decode cL_law 348 = .ok (.invokevirtual 23, 3) := by decide +kernel
theorem dL_law_351 : decode cL_law 351 = .ok (.aload_n 2, 1) := by decide +kernel
theorem dL_law_352 : decode cL_law 352 = .ok (.invokevirtual 26, 3) := by decide +kernel
theorem dL_law_355 : decode cL_law 355 = .ok (.lcmp, 1) := by decide +kernel
theorem dL_law_356 : decode cL_law 356 = .ok (.ifCond .eq 1657, 3) := by decide +kernel
theorem dL_law_359 : decode cL_law 359 = .ok (.iconst 0, 1) := by decide +kernel
theorem dL_law_360 : decode cL_law 360 = .ok (.ireturn, 1) := by decide +kernel
theorem dL_law_361 : decode cL_law 361 = .ok (.aload_n 1, 1) := by decide +kernel
theorem dL_law_362 : decode cL_law 362 = .ok (.aload_n 0, 1) := by decide +kernel
theorem dL_law_363 : decode cL_law 363 = .ok (.iload_n 3, 1) := by decide +kernel
theorem dL_law_364 : decode cL_law 364 = .ok (.iconst 1, 1) := by decide +kernel
theorem dL_law_365 : decode cL_law 365 = .ok (.iadd, 1) := by decide +kernel
theorem dL_law_366 : decode cL_law 366 = .ok (.iaload, 1) := by decide +kernel
theorem dL_law_367 : decode cL_law 367 = .ok (.aload_n 0, 1) := by decide +kernel
theorem dL_law_368 : decode cL_law 368 = .ok (.iload_n 3, 1) := by decide +kernel
theorem dL_law_369 : decode cL_law 369 = .ok (.iconst 2, 1) := by decide +kernel
theorem dL_law_370 : decode cL_law 370 = .ok (.iadd, 1) := by decide +kernel
theorem dL_law_371 : decode cL_law 371 = .ok (.iaload, 1) := by decide +kernel
theorem dL_law_372 : decode cL_law 372 = .ok (.aload_n 0, 1) := by decide +kernel
theorem dL_law_373 : decode cL_law 373 = .ok (.iload_n 3, 1) := by decide +kernel
theorem dL_law_374 : decode cL_law 374 = .ok (.iconst 3, 1) := by decide +kernel
theorem dL_law_375 : decode cL_law 375 = .ok (.iadd, 1) := by decide +kernel
theorem dL_law_376 : decode cL_law 376 = .ok (.iaload, 1) := by decide +kernel
theorem dL_law_377 : decode cL_law 377 = .ok (.invokevirtual 27, 3) := by decide +kernel
theorem dL_law_380 : decode cL_law 380 = .ok (.aload_n 2, 1) := by decide +kernel
theorem dL_law_381 : decode cL_law 381 = .ok (.aload_n 0, 1) := by decide +kernel
theorem dL_law_382 : decode cL_law 382 = .ok (.iload_n 3, 1) := by decide +kernel
theorem dL_law_383 : decode cL_law 383 = .ok (.iconst 1, 1) := by decide +kernel
theorem dL_law_384 : decode cL_law 384 = .ok (.iadd, 1) := by decide +kernel
theorem dL_law_385 : decode cL_law 385 = .ok (.iaload, 1) := by decide +kernel
theorem dL_law_386 : decode cL_law 386 = .ok (.aload_n 0, 1) := by decide +kernel
theorem dL_law_387 : decode cL_law 387 = .ok (.iload_n 3, 1) := by decide +kernel
theorem dL_law_388 : decode cL_law 388 = .ok (.iconst 2, 1) := by decide +kernel
theorem dL_law_389 : decode cL_law 389 = .ok (.iadd, 1) := by decide +kernel
theorem dL_law_390 : decode cL_law 390 = .ok (.iaload, 1) := by decide +kernel
theorem dL_law_391 : decode cL_law 391 = .ok (.aload_n 0, 1) := by decide +kernel
theorem dL_law_392 : decode cL_law 392 = .ok (.iload_n 3, 1) := by decide +kernel
theorem dL_law_393 : decode cL_law 393 = .ok (.iconst 3, 1) := by decide +kernel
theorem dL_law_394 : decode cL_law 394 = .ok (.iadd, 1) := by decide +kernel
theorem dL_law_395 : decode cL_law 395 = .ok (.iaload, 1) := by decide +kernel
theorem dL_law_396 : decode cL_law 396 = .ok (.invokevirtual 31, 3) := by decide +kernel
theorem dL_law_399 : decode cL_law 399 = .ok (.if_icmp .eq 1614, 3) := by decide +kernel
theorem dL_law_402 : decode cL_law 402 = .ok (.iconst 0, 1) := by decide +kernel
theorem dL_law_403 : decode cL_law 403 = .ok (.ireturn, 1) := by decide +kernel
theorem dL_law_404 : decode cL_law 404 = .ok (.aload_n 1, 1) := by decide +kernel
theorem dL_law_405 : decode cL_law 405 = .ok (.aload_n 0, 1) := by decide +kernel
theorem dL_law_406 : decode cL_law 406 = .ok (.iload_n 3, 1) := by decide +kernel
theorem dL_law_407 : decode cL_law 407 = .ok (.iconst 1, 1) := by decide +kernel
theorem dL_law_408 : decode cL_law 408 = .ok (.iadd, 1) := by decide +kernel
theorem dL_law_409 : decode cL_law 409 = .ok (.iaload, 1) := by decide +kernel
theorem dL_law_410 : decode cL_law 410 = .ok (.aload_n 0, 1) := by decide +kernel
theorem dL_law_411 : decode cL_law 411 = .ok (.iload_n 3, 1) := by decide +kernel
theorem dL_law_412 : decode cL_law 412 = .ok (.iconst 2, 1) := by decide +kernel
theorem dL_law_413 : decode cL_law 413 = .ok (.iadd, 1) := by decide +kernel
theorem dL_law_414 : decode cL_law 414 = .ok (.iaload, 1) := by decide +kernel
theorem dL_law_415 : decode cL_law 415 = .ok (.aload_n 0, 1) := by decide +kernel
theorem dL_law_416 : decode cL_law 416 = .ok (.iload_n 3, 1) := by decide +kernel
theorem dL_law_417 : decode cL_law 417 = .ok (.iconst 3, 1) := by decide +kernel
theorem dL_law_418 : decode cL_law 418 = .ok (.iadd, 1) := by decide +kernel
theorem dL_law_419 : decode cL_law 419 = .ok (.iaload, 1) := by decide +kernel
theorem dL_law_420 : decode cL_law 420 = .ok (.i2l, 1) := by decide +kernel
theorem dL_law_421 : decode cL_law 421 = .ok (.bipush 32, 2) := by decide +kernel
theorem dL_law_423 : decode cL_law 423 = .ok (.lshl, 1) := by decide +kernel
theorem dL_law_424 : decode cL_law 424 = .ok (.aload_n 0, 1) := by decide +kernel
theorem dL_law_425 : decode cL_law 425 = .ok (.iload_n 3, 1) := by decide +kernel
theorem dL_law_426 : decode cL_law 426 = .ok (.iconst 4, 1) := by decide +kernel
theorem dL_law_427 : decode cL_law 427 = .ok (.iadd, 1) := by decide +kernel
theorem dL_law_428 : decode cL_law 428 = .ok (.iaload, 1) := by decide +kernel
theorem dL_law_429 : decode cL_law 429 = .ok (.i2l, 1) := by decide +kernel
theorem dL_law_430 : decode cL_law 430 = .ok (.ldc2_w 32, 3) := by decide +kernel
theorem dL_law_433 : decode cL_law 433 = .ok (.land, 1) := by decide +kernel
theorem dL_law_434 : decode cL_law 434 = .ok (.lor, 1) := by decide +kernel
theorem dL_law_435 : decode cL_law 435 = .ok (.invokevirtual 34, 3) := by decide +kernel
theorem dL_law_438 : decode cL_law 438 = .ok (.aload_n 2, 1) := by decide +kernel
theorem dL_law_439 : decode cL_law 439 = .ok (.aload_n 0, 1) := by decide +kernel
theorem dL_law_440 : decode cL_law 440 = .ok (.iload_n 3, 1) := by decide +kernel
theorem dL_law_441 : decode cL_law 441 = .ok (.iconst 1, 1) := by decide +kernel
theorem dL_law_442 : decode cL_law 442 = .ok (.iadd, 1) := by decide +kernel
theorem dL_law_443 : decode cL_law 443 = .ok (.iaload, 1) := by decide +kernel
theorem dL_law_444 : decode cL_law 444 = .ok (.aload_n 0, 1) := by decide +kernel
theorem dL_law_445 : decode cL_law 445 = .ok (.iload_n 3, 1) := by decide +kernel
theorem dL_law_446 : decode cL_law 446 = .ok (.iconst 2, 1) := by decide +kernel
theorem dL_law_447 : decode cL_law 447 = .ok (.iadd, 1) := by decide +kernel
theorem dL_law_448 : decode cL_law 448 = .ok (.iaload, 1) := by decide +kernel
theorem dL_law_449 : decode cL_law 449 = .ok (.aload_n 0, 1) := by decide +kernel
theorem dL_law_450 : decode cL_law 450 = .ok (.iload_n 3, 1) := by decide +kernel
theorem dL_law_451 : decode cL_law 451 = .ok (.iconst 3, 1) := by decide +kernel
theorem dL_law_452 : decode cL_law 452 = .ok (.iadd, 1) := by decide +kernel
theorem dL_law_453 : decode cL_law 453 = .ok (.iaload, 1) := by decide +kernel
theorem dL_law_454 : decode cL_law 454 = .ok (.i2l, 1) := by decide +kernel
theorem dL_law_455 : decode cL_law 455 = .ok (.bipush 32, 2) := by decide +kernel
theorem dL_law_457 : decode cL_law 457 = .ok (.lshl, 1) := by decide +kernel
theorem dL_law_458 : decode cL_law 458 = .ok (.aload_n 0, 1) := by decide +kernel
theorem dL_law_459 : decode cL_law 459 = .ok (.iload_n 3, 1) := by decide +kernel
theorem dL_law_460 : decode cL_law 460 = .ok (.iconst 4, 1) := by decide +kernel
theorem dL_law_461 : decode cL_law 461 = .ok (.iadd, 1) := by decide +kernel
theorem dL_law_462 : decode cL_law 462 = .ok (.iaload, 1) := by decide +kernel
theorem dL_law_463 : decode cL_law 463 = .ok (.i2l, 1) := by decide +kernel
theorem dL_law_464 : decode cL_law 464 = .ok (.ldc2_w 32, 3) := by decide +kernel
theorem dL_law_467 : decode cL_law 467 = .ok (.land, 1) := by decide +kernel
theorem dL_law_468 : decode cL_law 468 = .ok (.lor, 1) := by decide +kernel
theorem dL_law_469 : decode cL_law 469 = .ok (.invokevirtual 38, 3) := by decide +kernel
theorem dL_law_472 : decode cL_law 472 = .ok (.if_icmp .eq 1541, 3) := by decide +kernel
theorem dL_law_475 : decode cL_law 475 = .ok (.iconst 0, 1) := by decide +kernel
theorem dL_law_476 : decode cL_law 476 = .ok (.ireturn, 1) := by decide +kernel
theorem dL_law_477 : decode cL_law 477 = .ok (.aload_n 1, 1) := by decide +kernel
theorem dL_law_478 : decode cL_law 478 = .ok (.aload_n 0, 1) := by decide +kernel
theorem dL_law_479 : decode cL_law 479 = .ok (.iload_n 3, 1) := by decide +kernel
theorem dL_law_480 : decode cL_law 480 = .ok (.iconst 1, 1) := by decide +kernel
theorem dL_law_481 : decode cL_law 481 = .ok (.iadd, 1) := by decide +kernel
theorem dL_law_482 : decode cL_law 482 = .ok (.iaload, 1) := by decide +kernel
theorem dL_law_483 : decode cL_law 483 = .ok (.aload_n 0, 1) := by decide +kernel
theorem dL_law_484 : decode cL_law 484 = .ok (.iload_n 3, 1) := by decide +kernel
theorem dL_law_485 : decode cL_law 485 = .ok (.iconst 2, 1) := by decide +kernel
theorem dL_law_486 : decode cL_law 486 = .ok (.iadd, 1) := by decide +kernel
theorem dL_law_487 : decode cL_law 487 = .ok (.iaload, 1) := by decide +kernel
theorem dL_law_488 : decode cL_law 488 = .ok (.invokevirtual 39, 3) := by decide +kernel
theorem dL_law_491 : decode cL_law 491 = .ok (.aload_n 2, 1) := by decide +kernel
theorem dL_law_492 : decode cL_law 492 = .ok (.aload_n 0, 1) := by decide +kernel
theorem dL_law_493 : decode cL_law 493 = .ok (.iload_n 3, 1) := by decide +kernel
theorem dL_law_494 : decode cL_law 494 = .ok (.iconst 1, 1) := by decide +kernel
theorem dL_law_495 : decode cL_law 495 = .ok (.iadd, 1) := by decide +kernel
theorem dL_law_496 : decode cL_law 496 = .ok (.iaload, 1) := by decide +kernel
theorem dL_law_497 : decode cL_law 497 = .ok (.aload_n 0, 1) := by decide +kernel
theorem dL_law_498 : decode cL_law 498 = .ok (.iload_n 3, 1) := by decide +kernel
theorem dL_law_499 : decode cL_law 499 = .ok (.iconst 2, 1) := by decide +kernel
theorem dL_law_500 : decode cL_law 500 = .ok (.iadd, 1) := by decide +kernel
theorem dL_law_501 : decode cL_law 501 = .ok (.iaload, 1) := by decide +kernel
theorem dL_law_502 : decode cL_law 502 = .ok (.invokevirtual 43, 3) := by decide +kernel
theorem dL_law_505 : decode cL_law 505 = .ok (.lcmp, 1) := by decide +kernel
theorem dL_law_506 : decode cL_law 506 = .ok (.ifCond .eq 1507, 3) := by decide +kernel
theorem dL_law_509 : decode cL_law 509 = .ok (.iconst 0, 1) := by decide +kernel
theorem dL_law_510 : decode cL_law 510 = .ok (.ireturn, 1) := by decide +kernel
theorem dL_law_511 : decode cL_law 511 = .ok (.aload_n 1, 1) := by decide +kernel
theorem dL_law_512 : decode cL_law 512 = .ok (.aload_n 0, 1) := by decide +kernel
theorem dL_law_513 : decode cL_law 513 = .ok (.iload_n 3, 1) := by decide +kernel
theorem dL_law_514 : decode cL_law 514 = .ok (.iconst 1, 1) := by decide +kernel
theorem dL_law_515 : decode cL_law 515 = .ok (.iadd, 1) := by decide +kernel
theorem dL_law_516 : decode cL_law 516 = .ok (.iaload, 1) := by decide +kernel
theorem dL_law_517 : decode cL_law 517 = .ok (.aload_n 0, 1) := by decide +kernel
theorem dL_law_518 : decode cL_law 518 = .ok (.iload_n 3, 1) := by decide +kernel
theorem dL_law_519 : decode cL_law 519 = .ok (.iconst 2, 1) := by decide +kernel
theorem dL_law_520 : decode cL_law 520 = .ok (.iadd, 1) := by decide +kernel
theorem dL_law_521 : decode cL_law 521 = .ok (.iaload, 1) := by decide +kernel
theorem dL_law_522 : decode cL_law 522 = .ok (.aload_n 0, 1) := by decide +kernel
theorem dL_law_523 : decode cL_law 523 = .ok (.iload_n 3, 1) := by decide +kernel
theorem dL_law_524 : decode cL_law 524 = .ok (.iconst 3, 1) := by decide +kernel
theorem dL_law_525 : decode cL_law 525 = .ok (.iadd, 1) := by decide +kernel
theorem dL_law_526 : decode cL_law 526 = .ok (.iaload, 1) := by decide +kernel
theorem dL_law_527 : decode cL_law 527 = .ok (.aload_n 0, 1) := by decide +kernel
theorem dL_law_528 : decode cL_law 528 = .ok (.iload_n 3, 1) := by decide +kernel
theorem dL_law_529 : decode cL_law 529 = .ok (.iconst 4, 1) := by decide +kernel
theorem dL_law_530 : decode cL_law 530 = .ok (.iadd, 1) := by decide +kernel
theorem dL_law_531 : decode cL_law 531 = .ok (.iaload, 1) := by decide +kernel
theorem dL_law_532 : decode cL_law 532 = .ok (.aload_n 0, 1) := by decide +kernel
theorem dL_law_533 : decode cL_law 533 = .ok (.iload_n 3, 1) := by decide +kernel
theorem dL_law_534 : decode cL_law 534 = .ok (.iconst 5, 1) := by decide +kernel
theorem dL_law_535 : decode cL_law 535 = .ok (.iadd, 1) := by decide +kernel
theorem dL_law_536 : decode cL_law 536 = .ok (.iaload, 1) := by decide +kernel
theorem dL_law_537 : decode cL_law 537 = .ok (.invokevirtual 44, 3) := by decide +kernel
theorem dL_law_540 : decode cL_law 540 = .ok (.aload_n 2, 1) := by decide +kernel
theorem dL_law_541 : decode cL_law 541 = .ok (.aload_n 0, 1) := by decide +kernel
theorem dL_law_542 : decode cL_law 542 = .ok (.iload_n 3, 1) := by decide +kernel
theorem dL_law_543 : decode cL_law 543 = .ok (.iconst 1, 1) := by decide +kernel
theorem dL_law_544 : decode cL_law 544 = .ok (.iadd, 1) := by decide +kernel
theorem dL_law_545 : decode cL_law 545 = .ok (.iaload, 1) := by decide +kernel
theorem dL_law_546 : decode cL_law 546 = .ok (.aload_n 0, 1) := by decide +kernel
theorem dL_law_547 : decode cL_law 547 = .ok (.iload_n 3, 1) := by decide +kernel
theorem dL_law_548 : decode cL_law 548 = .ok (.iconst 2, 1) := by decide +kernel
theorem dL_law_549 : decode cL_law 549 = .ok (.iadd, 1) := by decide +kernel
theorem dL_law_550 : decode cL_law 550 = .ok (.iaload, 1) := by decide +kernel
theorem dL_law_551 : decode cL_law 551 = .ok (.aload_n 0, 1) := by decide +kernel
theorem dL_law_552 : decode cL_law 552 = .ok (.iload_n 3, 1) := by decide +kernel
theorem dL_law_553 : decode cL_law 553 = .ok (.iconst 3, 1) := by decide +kernel
theorem dL_law_554 : decode cL_law 554 = .ok (.iadd, 1) := by decide +kernel
theorem dL_law_555 : decode cL_law 555 = .ok (.iaload, 1) := by decide +kernel
theorem dL_law_556 : decode cL_law 556 = .ok (.aload_n 0, 1) := by decide +kernel
theorem dL_law_557 : decode cL_law 557 = .ok (.iload_n 3, 1) := by decide +kernel
theorem dL_law_558 : decode cL_law 558 = .ok (.iconst 4, 1) := by decide +kernel
theorem dL_law_559 : decode cL_law 559 = .ok (.iadd, 1) := by decide +kernel
theorem dL_law_560 : decode cL_law 560 = .ok (.iaload, 1) := by decide +kernel
theorem dL_law_561 : decode cL_law 561 = .ok (.aload_n 0, 1) := by decide +kernel
theorem dL_law_562 : decode cL_law 562 = .ok (.iload_n 3, 1) := by decide +kernel
theorem dL_law_563 : decode cL_law 563 = .ok (.iconst 5, 1) := by decide +kernel
theorem dL_law_564 : decode cL_law 564 = .ok (.iadd, 1) := by decide +kernel
theorem dL_law_565 : decode cL_law 565 = .ok (.iaload, 1) := by decide +kernel
theorem dL_law_566 : decode cL_law 566 = .ok (.invokevirtual 48, 3) := by decide +kernel
theorem dL_law_569 : decode cL_law 569 = .ok (.if_icmp .eq 1444, 3) := by decide +kernel
theorem dL_law_572 : decode cL_law 572 = .ok (.iconst 0, 1) := by decide +kernel
theorem dL_law_573 : decode cL_law 573 = .ok (.ireturn, 1) := by decide +kernel
theorem dL_law_574 : decode cL_law 574 = .ok (.aload_n 1, 1) := by decide +kernel
theorem dL_law_575 : decode cL_law 575 = .ok (.aload_n 0, 1) := by decide +kernel
theorem dL_law_576 : decode cL_law 576 = .ok (.iload_n 3, 1) := by decide +kernel
theorem dL_law_577 : decode cL_law 577 = .ok (.iconst 1, 1) := by decide +kernel
theorem dL_law_578 : decode cL_law 578 = .ok (.iadd, 1) := by decide +kernel
theorem dL_law_579 : decode cL_law 579 = .ok (.iaload, 1) := by decide +kernel
theorem dL_law_580 : decode cL_law 580 = .ok (.aload_n 0, 1) := by decide +kernel
theorem dL_law_581 : decode cL_law 581 = .ok (.iload_n 3, 1) := by decide +kernel
theorem dL_law_582 : decode cL_law 582 = .ok (.iconst 2, 1) := by decide +kernel
theorem dL_law_583 : decode cL_law 583 = .ok (.iadd, 1) := by decide +kernel
theorem dL_law_584 : decode cL_law 584 = .ok (.iaload, 1) := by decide +kernel
theorem dL_law_585 : decode cL_law 585 = .ok (.aload_n 0, 1) := by decide +kernel
theorem dL_law_586 : decode cL_law 586 = .ok (.iload_n 3, 1) := by decide +kernel
theorem dL_law_587 : decode cL_law 587 = .ok (.iconst 3, 1) := by decide +kernel
theorem dL_law_588 : decode cL_law 588 = .ok (.iadd, 1) := by decide +kernel
theorem dL_law_589 : decode cL_law 589 = .ok (.iaload, 1) := by decide +kernel
theorem dL_law_590 : decode cL_law 590 = .ok (.aload_n 0, 1) := by decide +kernel
theorem dL_law_591 : decode cL_law 591 = .ok (.iload_n 3, 1) := by decide +kernel
theorem dL_law_592 : decode cL_law 592 = .ok (.iconst 4, 1) := by decide +kernel
theorem dL_law_593 : decode cL_law 593 = .ok (.iadd, 1) := by decide +kernel
theorem dL_law_594 : decode cL_law 594 = .ok (.iaload, 1) := by decide +kernel
theorem dL_law_595 : decode cL_law 595 = .ok (.aload_n 0, 1) := by decide +kernel
theorem dL_law_596 : decode cL_law 596 = .ok (.iload_n 3, 1) := by decide +kernel
theorem dL_law_597 : decode cL_law 597 = .ok (.iconst 5, 1) := by decide +kernel
theorem dL_law_598 : decode cL_law 598 = .ok (.iadd, 1) := by decide +kernel
theorem dL_law_599 : decode cL_law 599 = .ok (.iaload, 1) := by decide +kernel
theorem dL_law_600 : decode cL_law 600 = .ok (.invokevirtual 49, 3) := by decide +kernel
theorem dL_law_603 : decode cL_law 603 = .ok (.aload_n 2, 1) := by decide +kernel
theorem dL_law_604 : decode cL_law 604 = .ok (.aload_n 0, 1) := by decide +kernel
theorem dL_law_605 : decode cL_law 605 = .ok (.iload_n 3, 1) := by decide +kernel
theorem dL_law_606 : decode cL_law 606 = .ok (.iconst 1, 1) := by decide +kernel
theorem dL_law_607 : decode cL_law 607 = .ok (.iadd, 1) := by decide +kernel
theorem dL_law_608 : decode cL_law 608 = .ok (.iaload, 1) := by decide +kernel
theorem dL_law_609 : decode cL_law 609 = .ok (.aload_n 0, 1) := by decide +kernel
theorem dL_law_610 : decode cL_law 610 = .ok (.iload_n 3, 1) := by decide +kernel
theorem dL_law_611 : decode cL_law 611 = .ok (.iconst 2, 1) := by decide +kernel
theorem dL_law_612 : decode cL_law 612 = .ok (.iadd, 1) := by decide +kernel
theorem dL_law_613 : decode cL_law 613 = .ok (.iaload, 1) := by decide +kernel
theorem dL_law_614 : decode cL_law 614 = .ok (.aload_n 0, 1) := by decide +kernel
theorem dL_law_615 : decode cL_law 615 = .ok (.iload_n 3, 1) := by decide +kernel
theorem dL_law_616 : decode cL_law 616 = .ok (.iconst 3, 1) := by decide +kernel
theorem dL_law_617 : decode cL_law 617 = .ok (.iadd, 1) := by decide +kernel
theorem dL_law_618 : decode cL_law 618 = .ok (.iaload, 1) := by decide +kernel
theorem dL_law_619 : decode cL_law 619 = .ok (.aload_n 0, 1) := by decide +kernel
theorem dL_law_620 : decode cL_law 620 = .ok (.iload_n 3, 1) := by decide +kernel
theorem dL_law_621 : decode cL_law 621 = .ok (.iconst 4, 1) := by decide +kernel
theorem dL_law_622 : decode cL_law 622 = .ok (.iadd, 1) := by decide +kernel
theorem dL_law_623 : decode cL_law 623 = .ok (.iaload, 1) := by decide +kernel
theorem dL_law_624 : decode cL_law 624 = .ok (.aload_n 0, 1) := by decide +kernel
theorem dL_law_625 : decode cL_law 625 = .ok (.iload_n 3, 1) := by decide +kernel
theorem dL_law_626 : decode cL_law 626 = .ok (.iconst 5, 1) := by decide +kernel
theorem dL_law_627 : decode cL_law 627 = .ok (.iadd, 1) := by decide +kernel
theorem dL_law_628 : decode cL_law 628 = .ok (.iaload, 1) := by decide +kernel
theorem dL_law_629 : decode cL_law 629 = .ok (.invokevirtual 53, 3) := by decide +kernel
theorem dL_law_632 : decode cL_law 632 = .ok (.if_icmp .eq 1381, 3) := by decide +kernel
theorem dL_law_635 : decode cL_law 635 = .ok (.iconst 0, 1) := by decide +kernel
theorem dL_law_636 : decode cL_law 636 = .ok (.ireturn, 1) := by decide +kernel
theorem dL_law_637 : decode cL_law 637 = .ok (.aload_n 1, 1) := by decide +kernel
theorem dL_law_638 : decode cL_law 638 = .ok (.aload_n 0, 1) := by decide +kernel
theorem dL_law_639 : decode cL_law 639 = .ok (.iload_n 3, 1) := by decide +kernel
theorem dL_law_640 : decode cL_law 640 = .ok (.iconst 1, 1) := by decide +kernel
theorem dL_law_641 : decode cL_law 641 = .ok (.iadd, 1) := by decide +kernel
theorem dL_law_642 : decode cL_law 642 = .ok (.iaload, 1) := by decide +kernel
theorem dL_law_643 : decode cL_law 643 = .ok (.invokevirtual 54, 3) := by decide +kernel
theorem dL_law_646 : decode cL_law 646 = .ok (.aload_n 2, 1) := by decide +kernel
theorem dL_law_647 : decode cL_law 647 = .ok (.aload_n 0, 1) := by decide +kernel
theorem dL_law_648 : decode cL_law 648 = .ok (.iload_n 3, 1) := by decide +kernel
theorem dL_law_649 : decode cL_law 649 = .ok (.iconst 1, 1) := by decide +kernel
theorem dL_law_650 : decode cL_law 650 = .ok (.iadd, 1) := by decide +kernel
theorem dL_law_651 : decode cL_law 651 = .ok (.iaload, 1) := by decide +kernel
theorem dL_law_652 : decode cL_law 652 = .ok (.invokevirtual 58, 3) := by decide +kernel
theorem dL_law_655 : decode cL_law 655 = .ok (.if_icmp .eq 1358, 3) := by decide +kernel
theorem dL_law_658 : decode cL_law 658 = .ok (.iconst 0, 1) := by decide +kernel
theorem dL_law_659 : decode cL_law 659 = .ok (.ireturn, 1) := by decide +kernel
theorem dL_law_660 : decode cL_law 660 = .ok (.aload_n 1, 1) := by decide +kernel
theorem dL_law_661 : decode cL_law 661 = .ok (.aload_n 0, 1) := by decide +kernel
theorem dL_law_662 : decode cL_law 662 = .ok (.iload_n 3, 1) := by decide +kernel
theorem dL_law_663 : decode cL_law 663 = .ok (.iconst 1, 1) := by decide +kernel
theorem dL_law_664 : decode cL_law 664 = .ok (.iadd, 1) := by decide +kernel
theorem dL_law_665 : decode cL_law 665 = .ok (.iaload, 1) := by decide +kernel
theorem dL_law_666 : decode cL_law 666 = .ok (.invokevirtual 59, 3) := by decide +kernel
theorem dL_law_669 : decode cL_law 669 = .ok (.aload_n 2, 1) := by decide +kernel
theorem dL_law_670 : decode cL_law 670 = .ok (.aload_n 0, 1) := by decide +kernel
theorem dL_law_671 : decode cL_law 671 = .ok (.iload_n 3, 1) := by decide +kernel
theorem dL_law_672 : decode cL_law 672 = .ok (.iconst 1, 1) := by decide +kernel
theorem dL_law_673 : decode cL_law 673 = .ok (.iadd, 1) := by decide +kernel
theorem dL_law_674 : decode cL_law 674 = .ok (.iaload, 1) := by decide +kernel
theorem dL_law_675 : decode cL_law 675 = .ok (.invokevirtual 62, 3) := by decide +kernel
theorem dL_law_678 : decode cL_law 678 = .ok (.if_icmp .eq 1335, 3) := by decide +kernel
theorem dL_law_681 : decode cL_law 681 = .ok (.iconst 0, 1) := by decide +kernel
theorem dL_law_682 : decode cL_law 682 = .ok (.ireturn, 1) := by decide +kernel
theorem dL_law_683 : decode cL_law 683 = .ok (.aload_n 1, 1) := by decide +kernel
theorem dL_law_684 : decode cL_law 684 = .ok (.aload_n 0, 1) := by decide +kernel
theorem dL_law_685 : decode cL_law 685 = .ok (.iload_n 3, 1) := by decide +kernel
theorem dL_law_686 : decode cL_law 686 = .ok (.iconst 1, 1) := by decide +kernel
theorem dL_law_687 : decode cL_law 687 = .ok (.iadd, 1) := by decide +kernel
theorem dL_law_688 : decode cL_law 688 = .ok (.iaload, 1) := by decide +kernel
theorem dL_law_689 : decode cL_law 689 = .ok (.invokevirtual 63, 3) := by decide +kernel
theorem dL_law_692 : decode cL_law 692 = .ok (.aload_n 2, 1) := by decide +kernel
theorem dL_law_693 : decode cL_law 693 = .ok (.aload_n 0, 1) := by decide +kernel
theorem dL_law_694 : decode cL_law 694 = .ok (.iload_n 3, 1) := by decide +kernel
theorem dL_law_695 : decode cL_law 695 = .ok (.iconst 1, 1) := by decide +kernel
theorem dL_law_696 : decode cL_law 696 = .ok (.iadd, 1) := by decide +kernel
theorem dL_law_697 : decode cL_law 697 = .ok (.iaload, 1) := by decide +kernel
theorem dL_law_698 : decode cL_law 698 = .ok (.invokevirtual 66, 3) := by decide +kernel
theorem dL_law_701 : decode cL_law 701 = .ok (.if_icmp .eq 1312, 3) := by decide +kernel
theorem dL_law_704 : decode cL_law 704 = .ok (.iconst 0, 1) := by decide +kernel
theorem dL_law_705 : decode cL_law 705 = .ok (.ireturn, 1) := by decide +kernel
theorem dL_law_706 : decode cL_law 706 = .ok (.aload_n 1, 1) := by decide +kernel
theorem dL_law_707 : decode cL_law 707 = .ok (.aload_n 0, 1) := by decide +kernel
theorem dL_law_708 : decode cL_law 708 = .ok (.iload_n 3, 1) := by decide +kernel
theorem dL_law_709 : decode cL_law 709 = .ok (.iconst 1, 1) := by decide +kernel
theorem dL_law_710 : decode cL_law 710 = .ok (.iadd, 1) := by decide +kernel
theorem dL_law_711 : decode cL_law 711 = .ok (.iaload, 1) := by decide +kernel
theorem dL_law_712 : decode cL_law 712 = .ok (.invokevirtual 67, 3) := by decide +kernel
theorem dL_law_715 : decode cL_law 715 = .ok (.aload_n 2, 1) := by decide +kernel
theorem dL_law_716 : decode cL_law 716 = .ok (.aload_n 0, 1) := by decide +kernel
theorem dL_law_717 : decode cL_law 717 = .ok (.iload_n 3, 1) := by decide +kernel
theorem dL_law_718 : decode cL_law 718 = .ok (.iconst 1, 1) := by decide +kernel
theorem dL_law_719 : decode cL_law 719 = .ok (.iadd, 1) := by decide +kernel
theorem dL_law_720 : decode cL_law 720 = .ok (.iaload, 1) := by decide +kernel
theorem dL_law_721 : decode cL_law 721 = .ok (.invokevirtual 70, 3) := by decide +kernel
theorem dL_law_724 : decode cL_law 724 = .ok (.if_icmp .eq 1289, 3) := by decide +kernel
theorem dL_law_727 : decode cL_law 727 = .ok (.iconst 0, 1) := by decide +kernel
theorem dL_law_728 : decode cL_law 728 = .ok (.ireturn, 1) := by decide +kernel
theorem dL_law_729 : decode cL_law 729 = .ok (.aload_n 1, 1) := by decide +kernel
theorem dL_law_730 : decode cL_law 730 = .ok (.aload_n 0, 1) := by decide +kernel
theorem dL_law_731 : decode cL_law 731 = .ok (.iload_n 3, 1) := by decide +kernel
theorem dL_law_732 : decode cL_law 732 = .ok (.iconst 1, 1) := by decide +kernel
theorem dL_law_733 : decode cL_law 733 = .ok (.iadd, 1) := by decide +kernel
theorem dL_law_734 : decode cL_law 734 = .ok (.iaload, 1) := by decide +kernel
theorem dL_law_735 : decode cL_law 735 = .ok (.invokevirtual 71, 3) := by decide +kernel
theorem dL_law_738 : decode cL_law 738 = .ok (.aload_n 2, 1) := by decide +kernel
theorem dL_law_739 : decode cL_law 739 = .ok (.aload_n 0, 1) := by decide +kernel
theorem dL_law_740 : decode cL_law 740 = .ok (.iload_n 3, 1) := by decide +kernel
theorem dL_law_741 : decode cL_law 741 = .ok (.iconst 1, 1) := by decide +kernel
theorem dL_law_742 : decode cL_law 742 = .ok (.iadd, 1) := by decide +kernel
theorem dL_law_743 : decode cL_law 743 = .ok (.iaload, 1) := by decide +kernel
theorem dL_law_744 : decode cL_law 744 = .ok (.invokevirtual 74, 3) := by decide +kernel
theorem dL_law_747 : decode cL_law 747 = .ok (.if_icmp .eq 1266, 3) := by decide +kernel
theorem dL_law_750 : decode cL_law 750 = .ok (.iconst 0, 1) := by decide +kernel
theorem dL_law_751 : decode cL_law 751 = .ok (.ireturn, 1) := by decide +kernel
theorem dL_law_752 : decode cL_law 752 = .ok (.aload_n 1, 1) := by decide +kernel
theorem dL_law_753 : decode cL_law 753 = .ok (.aload_n 0, 1) := by decide +kernel
theorem dL_law_754 : decode cL_law 754 = .ok (.iload_n 3, 1) := by decide +kernel
theorem dL_law_755 : decode cL_law 755 = .ok (.iconst 1, 1) := by decide +kernel
theorem dL_law_756 : decode cL_law 756 = .ok (.iadd, 1) := by decide +kernel
theorem dL_law_757 : decode cL_law 757 = .ok (.iaload, 1) := by decide +kernel
theorem dL_law_758 : decode cL_law 758 = .ok (.invokevirtual 75, 3) := by decide +kernel
theorem dL_law_761 : decode cL_law 761 = .ok (.aload_n 2, 1) := by decide +kernel
theorem dL_law_762 : decode cL_law 762 = .ok (.aload_n 0, 1) := by decide +kernel
theorem dL_law_763 : decode cL_law 763 = .ok (.iload_n 3, 1) := by decide +kernel
theorem dL_law_764 : decode cL_law 764 = .ok (.iconst 1, 1) := by decide +kernel
theorem dL_law_765 : decode cL_law 765 = .ok (.iadd, 1) := by decide +kernel
theorem dL_law_766 : decode cL_law 766 = .ok (.iaload, 1) := by decide +kernel
theorem dL_law_767 : decode cL_law 767 = .ok (.invokevirtual 78, 3) := by decide +kernel
theorem dL_law_770 : decode cL_law 770 = .ok (.if_icmp .eq 1243, 3) := by decide +kernel
theorem dL_law_773 : decode cL_law 773 = .ok (.iconst 0, 1) := by decide +kernel
theorem dL_law_774 : decode cL_law 774 = .ok (.ireturn, 1) := by decide +kernel
theorem dL_law_775 : decode cL_law 775 = .ok (.aload_n 1, 1) := by decide +kernel
theorem dL_law_776 : decode cL_law 776 = .ok (.aload_n 0, 1) := by decide +kernel
theorem dL_law_777 : decode cL_law 777 = .ok (.iload_n 3, 1) := by decide +kernel
theorem dL_law_778 : decode cL_law 778 = .ok (.iconst 1, 1) := by decide +kernel
theorem dL_law_779 : decode cL_law 779 = .ok (.iadd, 1) := by decide +kernel
theorem dL_law_780 : decode cL_law 780 = .ok (.iaload, 1) := by decide +kernel
theorem dL_law_781 : decode cL_law 781 = .ok (.invokevirtual 79, 3) := by decide +kernel
theorem dL_law_784 : decode cL_law 784 = .ok (.aload_n 2, 1) := by decide +kernel
theorem dL_law_785 : decode cL_law 785 = .ok (.aload_n 0, 1) := by decide +kernel
theorem dL_law_786 : decode cL_law 786 = .ok (.iload_n 3, 1) := by decide +kernel
theorem dL_law_787 : decode cL_law 787 = .ok (.iconst 1, 1) := by decide +kernel
theorem dL_law_788 : decode cL_law 788 = .ok (.iadd, 1) := by decide +kernel
theorem dL_law_789 : decode cL_law 789 = .ok (.iaload, 1) := by decide +kernel
theorem dL_law_790 : decode cL_law 790 = .ok (.invokevirtual 82, 3) := by decide +kernel
theorem dL_law_793 : decode cL_law 793 = .ok (.if_icmp .eq 1220, 3) := by decide +kernel
theorem dL_law_796 : decode cL_law 796 = .ok (.iconst 0, 1) := by decide +kernel
theorem dL_law_797 : decode cL_law 797 = .ok (.ireturn, 1) := by decide +kernel
theorem dL_law_798 : decode cL_law 798 = .ok (.aload_n 1, 1) := by decide +kernel
theorem dL_law_799 : decode cL_law 799 = .ok (.aload_n 0, 1) := by decide +kernel
theorem dL_law_800 : decode cL_law 800 = .ok (.iload_n 3, 1) := by decide +kernel
theorem dL_law_801 : decode cL_law 801 = .ok (.iconst 1, 1) := by decide +kernel
theorem dL_law_802 : decode cL_law 802 = .ok (.iadd, 1) := by decide +kernel
theorem dL_law_803 : decode cL_law 803 = .ok (.iaload, 1) := by decide +kernel
theorem dL_law_804 : decode cL_law 804 = .ok (.aload_n 0, 1) := by decide +kernel
theorem dL_law_805 : decode cL_law 805 = .ok (.iload_n 3, 1) := by decide +kernel
theorem dL_law_806 : decode cL_law 806 = .ok (.iconst 2, 1) := by decide +kernel
theorem dL_law_807 : decode cL_law 807 = .ok (.iadd, 1) := by decide +kernel
theorem dL_law_808 : decode cL_law 808 = .ok (.iaload, 1) := by decide +kernel
theorem dL_law_809 : decode cL_law 809 = .ok (.invokevirtual 83, 3) := by decide +kernel
theorem dL_law_812 : decode cL_law 812 = .ok (.aload_n 2, 1) := by decide +kernel
theorem dL_law_813 : decode cL_law 813 = .ok (.aload_n 0, 1) := by decide +kernel
theorem dL_law_814 : decode cL_law 814 = .ok (.iload_n 3, 1) := by decide +kernel
theorem dL_law_815 : decode cL_law 815 = .ok (.iconst 1, 1) := by decide +kernel
theorem dL_law_816 : decode cL_law 816 = .ok (.iadd, 1) := by decide +kernel
theorem dL_law_817 : decode cL_law 817 = .ok (.iaload, 1) := by decide +kernel
theorem dL_law_818 : decode cL_law 818 = .ok (.aload_n 0, 1) := by decide +kernel
theorem dL_law_819 : decode cL_law 819 = .ok (.iload_n 3, 1) := by decide +kernel
theorem dL_law_820 : decode cL_law 820 = .ok (.iconst 2, 1) := by decide +kernel
theorem dL_law_821 : decode cL_law 821 = .ok (.iadd, 1) := by decide +kernel
theorem dL_law_822 : decode cL_law 822 = .ok (.iaload, 1) := by decide +kernel
theorem dL_law_823 : decode cL_law 823 = .ok (.invokevirtual 87, 3) := by decide +kernel
theorem dL_law_826 : decode cL_law 826 = .ok (.if_icmp .eq 1187, 3) := by decide +kernel
theorem dL_law_829 : decode cL_law 829 = .ok (.iconst 0, 1) := by decide +kernel
theorem dL_law_830 : decode cL_law 830 = .ok (.ireturn, 1) := by decide +kernel
theorem dL_law_831 : decode cL_law 831 = .ok (.aload_n 1, 1) := by decide +kernel
theorem dL_law_832 : decode cL_law 832 = .ok (.aload_n 0, 1) := by decide +kernel
theorem dL_law_833 : decode cL_law 833 = .ok (.iload_n 3, 1) := by decide +kernel
theorem dL_law_834 : decode cL_law 834 = .ok (.iconst 1, 1) := by decide +kernel
theorem dL_law_835 : decode cL_law 835 = .ok (.iadd, 1) := by decide +kernel
theorem dL_law_836 : decode cL_law 836 = .ok (.iaload, 1) := by decide +kernel
theorem dL_law_837 : decode cL_law 837 = .ok (.aload_n 0, 1) := by decide +kernel
theorem dL_law_838 : decode cL_law 838 = .ok (.iload_n 3, 1) := by decide +kernel
theorem dL_law_839 : decode cL_law 839 = .ok (.iconst 2, 1) := by decide +kernel
theorem dL_law_840 : decode cL_law 840 = .ok (.iadd, 1) := by decide +kernel
theorem dL_law_841 : decode cL_law 841 = .ok (.iaload, 1) := by decide +kernel
theorem dL_law_842 : decode cL_law 842 = .ok (.invokevirtual 88, 3) := by decide +kernel
theorem dL_law_845 : decode cL_law 845 = .ok (.aload_n 2, 1) := by decide +kernel
theorem dL_law_846 : decode cL_law 846 = .ok (.aload_n 0, 1) := by decide +kernel
theorem dL_law_847 : decode cL_law 847 = .ok (.iload_n 3, 1) := by decide +kernel
theorem dL_law_848 : decode cL_law 848 = .ok (.iconst 1, 1) := by decide +kernel
theorem dL_law_849 : decode cL_law 849 = .ok (.iadd, 1) := by decide +kernel
theorem dL_law_850 : decode cL_law 850 = .ok (.iaload, 1) := by decide +kernel
theorem dL_law_851 : decode cL_law 851 = .ok (.aload_n 0, 1) := by decide +kernel
theorem dL_law_852 : decode cL_law 852 = .ok (.iload_n 3, 1) := by decide +kernel
theorem dL_law_853 : decode cL_law 853 = .ok (.iconst 2, 1) := by decide +kernel
theorem dL_law_854 : decode cL_law 854 = .ok (.iadd, 1) := by decide +kernel
theorem dL_law_855 : decode cL_law 855 = .ok (.iaload, 1) := by decide +kernel
theorem dL_law_856 : decode cL_law 856 = .ok (.invokevirtual 91, 3) := by decide +kernel
theorem dL_law_859 : decode cL_law 859 = .ok (.if_icmp .eq 1154, 3) := by decide +kernel
theorem dL_law_862 : decode cL_law 862 = .ok (.iconst 0, 1) := by decide +kernel
theorem dL_law_863 : decode cL_law 863 = .ok (.ireturn, 1) := by decide +kernel
theorem dL_law_864 : decode cL_law 864 = .ok (.aload_n 1, 1) := by decide +kernel
theorem dL_law_865 : decode cL_law 865 = .ok (.aload_n 0, 1) := by decide +kernel
theorem dL_law_866 : decode cL_law 866 = .ok (.iload_n 3, 1) := by decide +kernel
theorem dL_law_867 : decode cL_law 867 = .ok (.iconst 1, 1) := by decide +kernel
theorem dL_law_868 : decode cL_law 868 = .ok (.iadd, 1) := by decide +kernel
theorem dL_law_869 : decode cL_law 869 = .ok (.iaload, 1) := by decide +kernel
theorem dL_law_870 : decode cL_law 870 = .ok (.aload_n 0, 1) := by decide +kernel
theorem dL_law_871 : decode cL_law 871 = .ok (.iload_n 3, 1) := by decide +kernel
theorem dL_law_872 : decode cL_law 872 = .ok (.iconst 2, 1) := by decide +kernel
theorem dL_law_873 : decode cL_law 873 = .ok (.iadd, 1) := by decide +kernel
theorem dL_law_874 : decode cL_law 874 = .ok (.iaload, 1) := by decide +kernel
theorem dL_law_875 : decode cL_law 875 = .ok (.invokevirtual 92, 3) := by decide +kernel
theorem dL_law_878 : decode cL_law 878 = .ok (.aload_n 2, 1) := by decide +kernel
theorem dL_law_879 : decode cL_law 879 = .ok (.aload_n 0, 1) := by decide +kernel
theorem dL_law_880 : decode cL_law 880 = .ok (.iload_n 3, 1) := by decide +kernel
theorem dL_law_881 : decode cL_law 881 = .ok (.iconst 1, 1) := by decide +kernel
theorem dL_law_882 : decode cL_law 882 = .ok (.iadd, 1) := by decide +kernel
theorem dL_law_883 : decode cL_law 883 = .ok (.iaload, 1) := by decide +kernel
theorem dL_law_884 : decode cL_law 884 = .ok (.aload_n 0, 1) := by decide +kernel
theorem dL_law_885 : decode cL_law 885 = .ok (.iload_n 3, 1) := by decide +kernel
theorem dL_law_886 : decode cL_law 886 = .ok (.iconst 2, 1) := by decide +kernel
theorem dL_law_887 : decode cL_law 887 = .ok (.iadd, 1) := by decide +kernel
theorem dL_law_888 : decode cL_law 888 = .ok (.iaload, 1) := by decide +kernel
theorem dL_law_889 : decode cL_law 889 = .ok (.invokevirtual 95, 3) := by decide +kernel
theorem dL_law_892 : decode cL_law 892 = .ok (.if_icmp .eq 1121, 3) := by decide +kernel
theorem dL_law_895 : decode cL_law 895 = .ok (.iconst 0, 1) := by decide +kernel
theorem dL_law_896 : decode cL_law 896 = .ok (.ireturn, 1) := by decide +kernel
theorem dL_law_897 : decode cL_law 897 = .ok (.aload_n 1, 1) := by decide +kernel
theorem dL_law_898 : decode cL_law 898 = .ok (.aload_n 0, 1) := by decide +kernel
theorem dL_law_899 : decode cL_law 899 = .ok (.iload_n 3, 1) := by decide +kernel
theorem dL_law_900 : decode cL_law 900 = .ok (.iconst 1, 1) := by decide +kernel
theorem dL_law_901 : decode cL_law 901 = .ok (.iadd, 1) := by decide +kernel
theorem dL_law_902 : decode cL_law 902 = .ok (.iaload, 1) := by decide +kernel
theorem dL_law_903 : decode cL_law 903 = .ok (.aload_n 0, 1) := by decide +kernel
theorem dL_law_904 : decode cL_law 904 = .ok (.iload_n 3, 1) := by decide +kernel
theorem dL_law_905 : decode cL_law 905 = .ok (.iconst 2, 1) := by decide +kernel
theorem dL_law_906 : decode cL_law 906 = .ok (.iadd, 1) := by decide +kernel
theorem dL_law_907 : decode cL_law 907 = .ok (.iaload, 1) := by decide +kernel
theorem dL_law_908 : decode cL_law 908 = .ok (.invokevirtual 96, 3) := by decide +kernel
theorem dL_law_911 : decode cL_law 911 = .ok (.aload_n 2, 1) := by decide +kernel
theorem dL_law_912 : decode cL_law 912 = .ok (.aload_n 0, 1) := by decide +kernel
theorem dL_law_913 : decode cL_law 913 = .ok (.iload_n 3, 1) := by decide +kernel
theorem dL_law_914 : decode cL_law 914 = .ok (.iconst 1, 1) := by decide +kernel
theorem dL_law_915 : decode cL_law 915 = .ok (.iadd, 1) := by decide +kernel
theorem dL_law_916 : decode cL_law 916 = .ok (.iaload, 1) := by decide +kernel
theorem dL_law_917 : decode cL_law 917 = .ok (.aload_n 0, 1) := by decide +kernel
theorem dL_law_918 : decode cL_law 918 = .ok (.iload_n 3, 1) := by decide +kernel
theorem dL_law_919 : decode cL_law 919 = .ok (.iconst 2, 1) := by decide +kernel
theorem dL_law_920 : decode cL_law 920 = .ok (.iadd, 1) := by decide +kernel
theorem dL_law_921 : decode cL_law 921 = .ok (.iaload, 1) := by decide +kernel
theorem dL_law_922 : decode cL_law 922 = .ok (.invokevirtual 99, 3) := by decide +kernel
theorem dL_law_925 : decode cL_law 925 = .ok (.if_icmp .eq 1088, 3) := by decide +kernel
theorem dL_law_928 : decode cL_law 928 = .ok (.iconst 0, 1) := by decide +kernel
theorem dL_law_929 : decode cL_law 929 = .ok (.ireturn, 1) := by decide +kernel
theorem dL_law_930 : decode cL_law 930 = .ok (.aload_n 1, 1) := by decide +kernel
theorem dL_law_931 : decode cL_law 931 = .ok (.aload_n 0, 1) := by decide +kernel
theorem dL_law_932 : decode cL_law 932 = .ok (.iload_n 3, 1) := by decide +kernel
theorem dL_law_933 : decode cL_law 933 = .ok (.iconst 1, 1) := by decide +kernel
theorem dL_law_934 : decode cL_law 934 = .ok (.iadd, 1) := by decide +kernel
theorem dL_law_935 : decode cL_law 935 = .ok (.iaload, 1) := by decide +kernel
theorem dL_law_936 : decode cL_law 936 = .ok (.invokevirtual 100, 3) := by decide +kernel
theorem dL_law_939 : decode cL_law 939 = .ok (.aload_n 2, 1) := by decide +kernel
theorem dL_law_940 : decode cL_law 940 = .ok (.aload_n 0, 1) := by decide +kernel
theorem dL_law_941 : decode cL_law 941 = .ok (.iload_n 3, 1) := by decide +kernel
theorem dL_law_942 : decode cL_law 942 = .ok (.iconst 1, 1) := by decide +kernel
theorem dL_law_943 : decode cL_law 943 = .ok (.iadd, 1) := by decide +kernel
theorem dL_law_944 : decode cL_law 944 = .ok (.iaload, 1) := by decide +kernel
theorem dL_law_945 : decode cL_law 945 = .ok (.invokevirtual 103, 3) := by decide +kernel
theorem dL_law_948 : decode cL_law 948 = .ok (.if_icmp .eq 1065, 3) := by decide +kernel
theorem dL_law_951 : decode cL_law 951 = .ok (.iconst 0, 1) := by decide +kernel
theorem dL_law_952 : decode cL_law 952 = .ok (.ireturn, 1) := by decide +kernel
theorem dL_law_953 : decode cL_law 953 = .ok (.aload_n 1, 1) := by decide +kernel
theorem dL_law_954 : decode cL_law 954 = .ok (.invokevirtual 104, 3) := by decide +kernel
theorem dL_law_957 : decode cL_law 957 = .ok (.aload_n 2, 1) := by decide +kernel
theorem dL_law_958 : decode cL_law 958 = .ok (.invokevirtual 107, 3) := by decide +kernel
theorem dL_law_961 : decode cL_law 961 = .ok (.if_icmp .eq 1052, 3) := by decide +kernel
theorem dL_law_964 : decode cL_law 964 = .ok (.iconst 0, 1) := by decide +kernel
theorem dL_law_965 : decode cL_law 965 = .ok (.ireturn, 1) := by decide +kernel
theorem dL_law_966 : decode cL_law 966 = .ok (.aload_n 1, 1) := by decide +kernel
theorem dL_law_967 : decode cL_law 967 = .ok (.aload_n 0, 1) := by decide +kernel
theorem dL_law_968 : decode cL_law 968 = .ok (.iload_n 3, 1) := by decide +kernel
theorem dL_law_969 : decode cL_law 969 = .ok (.iconst 1, 1) := by decide +kernel
theorem dL_law_970 : decode cL_law 970 = .ok (.iadd, 1) := by decide +kernel
theorem dL_law_971 : decode cL_law 971 = .ok (.iaload, 1) := by decide +kernel
theorem dL_law_972 : decode cL_law 972 = .ok (.invokevirtual 108, 3) := by decide +kernel
theorem dL_law_975 : decode cL_law 975 = .ok (.aload_n 2, 1) := by decide +kernel
theorem dL_law_976 : decode cL_law 976 = .ok (.aload_n 0, 1) := by decide +kernel
theorem dL_law_977 : decode cL_law 977 = .ok (.iload_n 3, 1) := by decide +kernel
theorem dL_law_978 : decode cL_law 978 = .ok (.iconst 1, 1) := by decide +kernel
theorem dL_law_979 : decode cL_law 979 = .ok (.iadd, 1) := by decide +kernel
theorem dL_law_980 : decode cL_law 980 = .ok (.iaload, 1) := by decide +kernel
theorem dL_law_981 : decode cL_law 981 = .ok (.invokevirtual 111, 3) := by decide +kernel
theorem dL_law_984 : decode cL_law 984 = .ok (.if_icmp .eq 1029, 3) := by decide +kernel
theorem dL_law_987 : decode cL_law 987 = .ok (.iconst 0, 1) := by decide +kernel
theorem dL_law_988 : decode cL_law 988 = .ok (.ireturn, 1) := by decide +kernel
theorem dL_law_989 : decode cL_law 989 = .ok (.aload_n 1, 1) := by decide +kernel
theorem dL_law_990 : decode cL_law 990 = .ok (.aload_n 0, 1) := by decide +kernel
theorem dL_law_991 : decode cL_law 991 = .ok (.iload_n 3, 1) := by decide +kernel
theorem dL_law_992 : decode cL_law 992 = .ok (.iconst 1, 1) := by decide +kernel
theorem dL_law_993 : decode cL_law 993 = .ok (.iadd, 1) := by decide +kernel
theorem dL_law_994 : decode cL_law 994 = .ok (.iaload, 1) := by decide +kernel
theorem dL_law_995 : decode cL_law 995 = .ok (.invokevirtual 112, 3) := by decide +kernel
theorem dL_law_998 : decode cL_law 998 = .ok (.aload_n 2, 1) := by decide +kernel
theorem dL_law_999 : decode cL_law 999 = .ok (.aload_n 0, 1) := by decide +kernel
theorem dL_law_1000 : decode cL_law 1000 = .ok (.iload_n 3, 1) := by decide +kernel
theorem dL_law_1001 : decode cL_law 1001 = .ok (.iconst 1, 1) := by decide +kernel
theorem dL_law_1002 : decode cL_law 1002 = .ok (.iadd, 1) := by decide +kernel
theorem dL_law_1003 : decode cL_law 1003 = .ok (.iaload, 1) := by decide +kernel
theorem dL_law_1004 : decode cL_law 1004 = .ok (.invokevirtual 115, 3) := by decide +kernel
theorem dL_law_1007 : decode cL_law 1007 = .ok (.if_icmp .eq 1006, 3) := by decide +kernel
theorem dL_law_1010 : decode cL_law 1010 = .ok (.iconst 0, 1) := by decide +kernel
theorem dL_law_1011 : decode cL_law 1011 = .ok (.ireturn, 1) := by decide +kernel
theorem dL_law_1012 : decode cL_law 1012 = .ok (.aload_n 1, 1) := by decide +kernel
theorem dL_law_1013 : decode cL_law 1013 = .ok (.aload_n 0, 1) := by decide +kernel
theorem dL_law_1014 : decode cL_law 1014 = .ok (.iload_n 3, 1) := by decide +kernel
theorem dL_law_1015 : decode cL_law 1015 = .ok (.iconst 1, 1) := by decide +kernel
theorem dL_law_1016 : decode cL_law 1016 = .ok (.iadd, 1) := by decide +kernel
theorem dL_law_1017 : decode cL_law 1017 = .ok (.iaload, 1) := by decide +kernel
theorem dL_law_1018 : decode cL_law 1018 = .ok (.aload_n 0, 1) := by decide +kernel
theorem dL_law_1019 : decode cL_law 1019 = .ok (.iload_n 3, 1) := by decide +kernel
theorem dL_law_1020 : decode cL_law 1020 = .ok (.iconst 2, 1) := by decide +kernel
theorem dL_law_1021 : decode cL_law 1021 = .ok (.iadd, 1) := by decide +kernel
theorem dL_law_1022 : decode cL_law 1022 = .ok (.iaload, 1) := by decide +kernel
theorem dL_law_1023 : decode cL_law 1023 = .ok (.invokevirtual 116, 3) := by decide +kernel
theorem dL_law_1026 : decode cL_law 1026 = .ok (.aload_n 2, 1) := by decide +kernel
theorem dL_law_1027 : decode cL_law 1027 = .ok (.aload_n 0, 1) := by decide +kernel
theorem dL_law_1028 : decode cL_law 1028 = .ok (.iload_n 3, 1) := by decide +kernel
theorem dL_law_1029 : decode cL_law 1029 = .ok (.iconst 1, 1) := by decide +kernel
theorem dL_law_1030 : decode cL_law 1030 = .ok (.iadd, 1) := by decide +kernel
theorem dL_law_1031 : decode cL_law 1031 = .ok (.iaload, 1) := by decide +kernel
theorem dL_law_1032 : decode cL_law 1032 = .ok (.aload_n 0, 1) := by decide +kernel
theorem dL_law_1033 : decode cL_law 1033 = .ok (.iload_n 3, 1) := by decide +kernel
theorem dL_law_1034 : decode cL_law 1034 = .ok (.iconst 2, 1) := by decide +kernel
theorem dL_law_1035 : decode cL_law 1035 = .ok (.iadd, 1) := by decide +kernel
theorem dL_law_1036 : decode cL_law 1036 = .ok (.iaload, 1) := by decide +kernel
theorem dL_law_1037 : decode cL_law 1037 = .ok (.invokevirtual 119, 3) := by decide +kernel
theorem dL_law_1040 : decode cL_law 1040 = .ok (.if_icmp .eq 973, 3) := by decide +kernel
theorem dL_law_1043 : decode cL_law 1043 = .ok (.iconst 0, 1) := by decide +kernel
theorem dL_law_1044 : decode cL_law 1044 = .ok (.ireturn, 1) := by decide +kernel
theorem dL_law_1045 : decode cL_law 1045 = .ok (.aload_n 1, 1) := by decide +kernel
theorem dL_law_1046 : decode cL_law 1046 = .ok (.aload_n 0, 1) := by decide +kernel
theorem dL_law_1047 : decode cL_law 1047 = .ok (.iload_n 3, 1) := by decide +kernel
theorem dL_law_1048 : decode cL_law 1048 = .ok (.iconst 1, 1) := by decide +kernel
theorem dL_law_1049 : decode cL_law 1049 = .ok (.iadd, 1) := by decide +kernel
theorem dL_law_1050 : decode cL_law 1050 = .ok (.iaload, 1) := by decide +kernel
theorem dL_law_1051 : decode cL_law 1051 = .ok (.invokevirtual 120, 3) := by decide +kernel
theorem dL_law_1054 : decode cL_law 1054 = .ok (.aload_n 2, 1) := by decide +kernel
theorem dL_law_1055 : decode cL_law 1055 = .ok (.aload_n 0, 1) := by decide +kernel
theorem dL_law_1056 : decode cL_law 1056 = .ok (.iload_n 3, 1) := by decide +kernel
theorem dL_law_1057 : decode cL_law 1057 = .ok (.iconst 1, 1) := by decide +kernel
theorem dL_law_1058 : decode cL_law 1058 = .ok (.iadd, 1) := by decide +kernel
theorem dL_law_1059 : decode cL_law 1059 = .ok (.iaload, 1) := by decide +kernel
theorem dL_law_1060 : decode cL_law 1060 = .ok (.invokevirtual 123, 3) := by decide +kernel
theorem dL_law_1063 : decode cL_law 1063 = .ok (.if_icmp .eq 950, 3) := by decide +kernel
theorem dL_law_1066 : decode cL_law 1066 = .ok (.iconst 0, 1) := by decide +kernel
theorem dL_law_1067 : decode cL_law 1067 = .ok (.ireturn, 1) := by decide +kernel
theorem dL_law_1068 : decode cL_law 1068 = .ok (.aload_n 1, 1) := by decide +kernel
theorem dL_law_1069 : decode cL_law 1069 = .ok (.aload_n 0, 1) := by decide +kernel
theorem dL_law_1070 : decode cL_law 1070 = .ok (.iload_n 3, 1) := by decide +kernel
theorem dL_law_1071 : decode cL_law 1071 = .ok (.iconst 1, 1) := by decide +kernel
theorem dL_law_1072 : decode cL_law 1072 = .ok (.iadd, 1) := by decide +kernel
theorem dL_law_1073 : decode cL_law 1073 = .ok (.iaload, 1) := by decide +kernel
theorem dL_law_1074 : decode cL_law 1074 = .ok (.aload_n 0, 1) := by decide +kernel
theorem dL_law_1075 : decode cL_law 1075 = .ok (.iload_n 3, 1) := by decide +kernel
theorem dL_law_1076 : decode cL_law 1076 = .ok (.iconst 2, 1) := by decide +kernel
theorem dL_law_1077 : decode cL_law 1077 = .ok (.iadd, 1) := by decide +kernel
theorem dL_law_1078 : decode cL_law 1078 = .ok (.iaload, 1) := by decide +kernel
theorem dL_law_1079 : decode cL_law 1079 = .ok (.invokevirtual 124, 3) := by decide +kernel
theorem dL_law_1082 : decode cL_law 1082 = .ok (.aload_n 2, 1) := by decide +kernel
theorem dL_law_1083 : decode cL_law 1083 = .ok (.aload_n 0, 1) := by decide +kernel
theorem dL_law_1084 : decode cL_law 1084 = .ok (.iload_n 3, 1) := by decide +kernel
theorem dL_law_1085 : decode cL_law 1085 = .ok (.iconst 1, 1) := by decide +kernel
theorem dL_law_1086 : decode cL_law 1086 = .ok (.iadd, 1) := by decide +kernel
theorem dL_law_1087 : decode cL_law 1087 = .ok (.iaload, 1) := by decide +kernel
theorem dL_law_1088 : decode cL_law 1088 = .ok (.aload_n 0, 1) := by decide +kernel
theorem dL_law_1089 : decode cL_law 1089 = .ok (.iload_n 3, 1) := by decide +kernel
theorem dL_law_1090 : decode cL_law 1090 = .ok (.iconst 2, 1) := by decide +kernel
theorem dL_law_1091 : decode cL_law 1091 = .ok (.iadd, 1) := by decide +kernel
theorem dL_law_1092 : decode cL_law 1092 = .ok (.iaload, 1) := by decide +kernel
theorem dL_law_1093 : decode cL_law 1093 = .ok (.invokevirtual 128, 3) := by decide +kernel
theorem dL_law_1096 : decode cL_law 1096 = .ok (.if_icmp .eq 917, 3) := by decide +kernel
theorem dL_law_1099 : decode cL_law 1099 = .ok (.iconst 0, 1) := by decide +kernel
theorem dL_law_1100 : decode cL_law 1100 = .ok (.ireturn, 1) := by decide +kernel
theorem dL_law_1101 : decode cL_law 1101 = .ok (.aload_n 1, 1) := by decide +kernel
theorem dL_law_1102 : decode cL_law 1102 = .ok (.aload_n 0, 1) := by decide +kernel
theorem dL_law_1103 : decode cL_law 1103 = .ok (.iload_n 3, 1) := by decide +kernel
theorem dL_law_1104 : decode cL_law 1104 = .ok (.iconst 1, 1) := by decide +kernel
theorem dL_law_1105 : decode cL_law 1105 = .ok (.iadd, 1) := by decide +kernel
theorem dL_law_1106 : decode cL_law 1106 = .ok (.iaload, 1) := by decide +kernel
theorem dL_law_1107 : decode cL_law 1107 = .ok (.invokevirtual 129, 3) := by decide +kernel
theorem dL_law_1110 : decode cL_law 1110 = .ok (.aload_n 2, 1) := by decide +kernel
theorem dL_law_1111 : decode cL_law 1111 = .ok (.aload_n 0, 1) := by decide +kernel
theorem dL_law_1112 : decode cL_law 1112 = .ok (.iload_n 3, 1) := by decide +kernel
theorem dL_law_1113 : decode cL_law 1113 = .ok (.iconst 1, 1) := by decide +kernel
theorem dL_law_1114 : decode cL_law 1114 = .ok (.iadd, 1) := by decide +kernel
theorem dL_law_1115 : decode cL_law 1115 = .ok (.iaload, 1) := by decide +kernel
theorem dL_law_1116 : decode cL_law 1116 = .ok (.invokevirtual 132, 3) := by decide +kernel
theorem dL_law_1119 : decode cL_law 1119 = .ok (.if_icmp .eq 894, 3) := by decide +kernel
theorem dL_law_1122 : decode cL_law 1122 = .ok (.iconst 0, 1) := by decide +kernel
theorem dL_law_1123 : decode cL_law 1123 = .ok (.ireturn, 1) := by decide +kernel
theorem dL_law_1124 : decode cL_law 1124 = .ok (.aload_n 1, 1) := by decide +kernel
theorem dL_law_1125 : decode cL_law 1125 = .ok (.aload_n 0, 1) := by decide +kernel
theorem dL_law_1126 : decode cL_law 1126 = .ok (.iload_n 3, 1) := by decide +kernel
theorem dL_law_1127 : decode cL_law 1127 = .ok (.iconst 1, 1) := by decide +kernel
theorem dL_law_1128 : decode cL_law 1128 = .ok (.iadd, 1) := by decide +kernel
theorem dL_law_1129 : decode cL_law 1129 = .ok (.iaload, 1) := by decide +kernel
theorem dL_law_1130 : decode cL_law 1130 = .ok (.invokevirtual 133, 3) := by decide +kernel
theorem dL_law_1133 : decode cL_law 1133 = .ok (.aload_n 2, 1) := by decide +kernel
theorem dL_law_1134 : decode cL_law 1134 = .ok (.aload_n 0, 1) := by decide +kernel
theorem dL_law_1135 : decode cL_law 1135 = .ok (.iload_n 3, 1) := by decide +kernel
theorem dL_law_1136 : decode cL_law 1136 = .ok (.iconst 1, 1) := by decide +kernel
theorem dL_law_1137 : decode cL_law 1137 = .ok (.iadd, 1) := by decide +kernel
theorem dL_law_1138 : decode cL_law 1138 = .ok (.iaload, 1) := by decide +kernel
theorem dL_law_1139 : decode cL_law 1139 = .ok (.invokevirtual 136, 3) := by decide +kernel
theorem dL_law_1142 : decode cL_law 1142 = .ok (.if_icmp .eq 871, 3) := by decide +kernel
theorem dL_law_1145 : decode cL_law 1145 = .ok (.iconst 0, 1) := by decide +kernel
theorem dL_law_1146 : decode cL_law 1146 = .ok (.ireturn, 1) := by decide +kernel
theorem dL_law_1147 : decode cL_law 1147 = .ok (.aload_n 1, 1) := by decide +kernel
theorem dL_law_1148 : decode cL_law 1148 = .ok (.aload_n 0, 1) := by decide +kernel
theorem dL_law_1149 : decode cL_law 1149 = .ok (.iload_n 3, 1) := by decide +kernel
theorem dL_law_1150 : decode cL_law 1150 = .ok (.iconst 1, 1) := by decide +kernel
theorem dL_law_1151 : decode cL_law 1151 = .ok (.iadd, 1) := by decide +kernel
theorem dL_law_1152 : decode cL_law 1152 = .ok (.iaload, 1) := by decide +kernel
theorem dL_law_1153 : decode cL_law 1153 = .ok (.invokevirtual 137, 3) := by decide +kernel
theorem dL_law_1156 : decode cL_law 1156 = .ok (.aload_n 2, 1) := by decide +kernel
theorem dL_law_1157 : decode cL_law 1157 = .ok (.aload_n 0, 1) := by decide +kernel
theorem dL_law_1158 : decode cL_law 1158 = .ok (.iload_n 3, 1) := by decide +kernel
theorem dL_law_1159 : decode cL_law 1159 = .ok (.iconst 1, 1) := by decide +kernel
theorem dL_law_1160 : decode cL_law 1160 = .ok (.iadd, 1) := by decide +kernel
theorem dL_law_1161 : decode cL_law 1161 = .ok (.iaload, 1) := by decide +kernel
theorem dL_law_1162 : decode cL_law 1162 = .ok (.invokevirtual 140, 3) := by decide +kernel
theorem dL_law_1165 : decode cL_law 1165 = .ok (.if_icmp .eq 848, 3) := by decide +kernel
theorem dL_law_1168 : decode cL_law 1168 = .ok (.iconst 0, 1) := by decide +kernel
theorem dL_law_1169 : decode cL_law 1169 = .ok (.ireturn, 1) := by decide +kernel
theorem dL_law_1170 : decode cL_law 1170 = .ok (.aload_n 1, 1) := by decide +kernel
theorem dL_law_1171 : decode cL_law 1171 = .ok (.aload_n 0, 1) := by decide +kernel
theorem dL_law_1172 : decode cL_law 1172 = .ok (.iload_n 3, 1) := by decide +kernel
theorem dL_law_1173 : decode cL_law 1173 = .ok (.iconst 1, 1) := by decide +kernel
theorem dL_law_1174 : decode cL_law 1174 = .ok (.iadd, 1) := by decide +kernel
theorem dL_law_1175 : decode cL_law 1175 = .ok (.iaload, 1) := by decide +kernel
theorem dL_law_1176 : decode cL_law 1176 = .ok (.invokevirtual 141, 3) := by decide +kernel
theorem dL_law_1179 : decode cL_law 1179 = .ok (.aload_n 2, 1) := by decide +kernel
theorem dL_law_1180 : decode cL_law 1180 = .ok (.aload_n 0, 1) := by decide +kernel
theorem dL_law_1181 : decode cL_law 1181 = .ok (.iload_n 3, 1) := by decide +kernel
theorem dL_law_1182 : decode cL_law 1182 = .ok (.iconst 1, 1) := by decide +kernel
theorem dL_law_1183 : decode cL_law 1183 = .ok (.iadd, 1) := by decide +kernel
theorem dL_law_1184 : decode cL_law 1184 = .ok (.iaload, 1) := by decide +kernel
theorem dL_law_1185 : decode cL_law 1185 = .ok (.invokevirtual 144, 3) := by decide +kernel
theorem dL_law_1188 : decode cL_law 1188 = .ok (.if_icmp .eq 825, 3) := by decide +kernel
theorem dL_law_1191 : decode cL_law 1191 = .ok (.iconst 0, 1) := by decide +kernel
theorem dL_law_1192 : decode cL_law 1192 = .ok (.ireturn, 1) := by decide +kernel
theorem dL_law_1193 : decode cL_law 1193 = .ok (.aload_n 1, 1) := by decide +kernel
theorem dL_law_1194 : decode cL_law 1194 = .ok (.aload_n 0, 1) := by decide +kernel
theorem dL_law_1195 : decode cL_law 1195 = .ok (.iload_n 3, 1) := by decide +kernel
theorem dL_law_1196 : decode cL_law 1196 = .ok (.iconst 1, 1) := by decide +kernel
theorem dL_law_1197 : decode cL_law 1197 = .ok (.iadd, 1) := by decide +kernel
theorem dL_law_1198 : decode cL_law 1198 = .ok (.iaload, 1) := by decide +kernel
theorem dL_law_1199 : decode cL_law 1199 = .ok (.aload_n 0, 1) := by decide +kernel
theorem dL_law_1200 : decode cL_law 1200 = .ok (.iload_n 3, 1) := by decide +kernel
theorem dL_law_1201 : decode cL_law 1201 = .ok (.iconst 2, 1) := by decide +kernel
theorem dL_law_1202 : decode cL_law 1202 = .ok (.iadd, 1) := by decide +kernel
theorem dL_law_1203 : decode cL_law 1203 = .ok (.iaload, 1) := by decide +kernel
theorem dL_law_1204 : decode cL_law 1204 = .ok (.invokevirtual 145, 3) := by decide +kernel
theorem dL_law_1207 : decode cL_law 1207 = .ok (.aload_n 2, 1) := by decide +kernel
theorem dL_law_1208 : decode cL_law 1208 = .ok (.aload_n 0, 1) := by decide +kernel
theorem dL_law_1209 : decode cL_law 1209 = .ok (.iload_n 3, 1) := by decide +kernel
theorem dL_law_1210 : decode cL_law 1210 = .ok (.iconst 1, 1) := by decide +kernel
theorem dL_law_1211 : decode cL_law 1211 = .ok (.iadd, 1) := by decide +kernel
theorem dL_law_1212 : decode cL_law 1212 = .ok (.iaload, 1) := by decide +kernel
theorem dL_law_1213 : decode cL_law 1213 = .ok (.aload_n 0, 1) := by decide +kernel
theorem dL_law_1214 : decode cL_law 1214 = .ok (.iload_n 3, 1) := by decide +kernel
theorem dL_law_1215 : decode cL_law 1215 = .ok (.iconst 2, 1) := by decide +kernel
theorem dL_law_1216 : decode cL_law 1216 = .ok (.iadd, 1) := by decide +kernel
theorem dL_law_1217 : decode cL_law 1217 = .ok (.iaload, 1) := by decide +kernel
theorem dL_law_1218 : decode cL_law 1218 = .ok (.invokevirtual 148, 3) := by decide +kernel
theorem dL_law_1221 : decode cL_law 1221 = .ok (.if_icmp .eq 792, 3) := by decide +kernel
theorem dL_law_1224 : decode cL_law 1224 = .ok (.iconst 0, 1) := by decide +kernel
theorem dL_law_1225 : decode cL_law 1225 = .ok (.ireturn, 1) := by decide +kernel
theorem dL_law_1226 : decode cL_law 1226 = .ok (.aload_n 1, 1) := by decide +kernel
theorem dL_law_1227 : decode cL_law 1227 = .ok (.aload_n 0, 1) := by decide +kernel
theorem dL_law_1228 : decode cL_law 1228 = .ok (.iload_n 3, 1) := by decide +kernel
theorem dL_law_1229 : decode cL_law 1229 = .ok (.iconst 1, 1) := by decide +kernel
theorem dL_law_1230 : decode cL_law 1230 = .ok (.iadd, 1) := by decide +kernel
theorem dL_law_1231 : decode cL_law 1231 = .ok (.iaload, 1) := by decide +kernel
theorem dL_law_1232 : decode cL_law 1232 = .ok (.aload_n 0, 1) := by decide +kernel
theorem dL_law_1233 : decode cL_law 1233 = .ok (.iload_n 3, 1) := by decide +kernel
theorem dL_law_1234 : decode cL_law 1234 = .ok (.iconst 2, 1) := by decide +kernel
theorem dL_law_1235 : decode cL_law 1235 = .ok (.iadd, 1) := by decide +kernel
theorem dL_law_1236 : decode cL_law 1236 = .ok (.iaload, 1) := by decide +kernel
theorem dL_law_1237 : decode cL_law 1237 = .ok (.invokevirtual 149, 3) := by decide +kernel
theorem dL_law_1240 : decode cL_law 1240 = .ok (.aload_n 2, 1) := by decide +kernel
theorem dL_law_1241 : decode cL_law 1241 = .ok (.aload_n 0, 1) := by decide +kernel
theorem dL_law_1242 : decode cL_law 1242 = .ok (.iload_n 3, 1) := by decide +kernel
theorem dL_law_1243 : decode cL_law 1243 = .ok (.iconst 1, 1) := by decide +kernel
theorem dL_law_1244 : decode cL_law 1244 = .ok (.iadd, 1) := by decide +kernel
theorem dL_law_1245 : decode cL_law 1245 = .ok (.iaload, 1) := by decide +kernel
theorem dL_law_1246 : decode cL_law 1246 = .ok (.aload_n 0, 1) := by decide +kernel
theorem dL_law_1247 : decode cL_law 1247 = .ok (.iload_n 3, 1) := by decide +kernel
theorem dL_law_1248 : decode cL_law 1248 = .ok (.iconst 2, 1) := by decide +kernel
theorem dL_law_1249 : decode cL_law 1249 = .ok (.iadd, 1) := by decide +kernel
theorem dL_law_1250 : decode cL_law 1250 = .ok (.iaload, 1) := by decide +kernel
theorem dL_law_1251 : decode cL_law 1251 = .ok (.invokevirtual 152, 3) := by decide +kernel
theorem dL_law_1254 : decode cL_law 1254 = .ok (.if_icmp .eq 759, 3) := by decide +kernel
theorem dL_law_1257 : decode cL_law 1257 = .ok (.iconst 0, 1) := by decide +kernel
theorem dL_law_1258 : decode cL_law 1258 = .ok (.ireturn, 1) := by decide +kernel
theorem dL_law_1259 : decode cL_law 1259 = .ok (.aload_n 1, 1) := by decide +kernel
theorem dL_law_1260 : decode cL_law 1260 = .ok (.aload_n 0, 1) := by decide +kernel
theorem dL_law_1261 : decode cL_law 1261 = .ok (.iload_n 3, 1) := by decide +kernel
theorem dL_law_1262 : decode cL_law 1262 = .ok (.iconst 1, 1) := by decide +kernel
theorem dL_law_1263 : decode cL_law 1263 = .ok (.iadd, 1) := by decide +kernel
theorem dL_law_1264 : decode cL_law 1264 = .ok (.iaload, 1) := by decide +kernel
theorem dL_law_1265 : decode cL_law 1265 = .ok (.aload_n 0, 1) := by decide +kernel
theorem dL_law_1266 : decode cL_law 1266 = .ok (.iload_n 3, 1) := by decide +kernel
theorem dL_law_1267 : decode cL_law 1267 = .ok (.iconst 2, 1) := by decide +kernel
theorem dL_law_1268 : decode cL_law 1268 = .ok (.iadd, 1) := by decide +kernel
theorem dL_law_1269 : decode cL_law 1269 = .ok (.iaload, 1) := by decide +kernel
theorem dL_law_1270 : decode cL_law 1270 = .ok (.ifCond .eq 7, 3) := by decide +kernel
theorem dL_law_1273 : decode cL_law 1273 = .ok (.iconst 1, 1) := by decide +kernel
theorem dL_law_1274 : decode cL_law 1274 = .ok (.goto 4, 3) := by decide +kernel
theorem dL_law_1277 : decode cL_law 1277 = .ok (.iconst 0, 1) := by decide +kernel
theorem dL_law_1278 : decode cL_law 1278 = .ok (.invokevirtual 153, 3) := by decide +kernel
theorem dL_law_1281 : decode cL_law 1281 = .ok (.aload_n 2, 1) := by decide +kernel
theorem dL_law_1282 : decode cL_law 1282 = .ok (.aload_n 0, 1) := by decide +kernel
theorem dL_law_1283 : decode cL_law 1283 = .ok (.iload_n 3, 1) := by decide +kernel
theorem dL_law_1284 : decode cL_law 1284 = .ok (.iconst 1, 1) := by decide +kernel
theorem dL_law_1285 : decode cL_law 1285 = .ok (.iadd, 1) := by decide +kernel
theorem dL_law_1286 : decode cL_law 1286 = .ok (.iaload, 1) := by decide +kernel
theorem dL_law_1287 : decode cL_law 1287 = .ok (.aload_n 0, 1) := by decide +kernel
theorem dL_law_1288 : decode cL_law 1288 = .ok (.iload_n 3, 1) := by decide +kernel
theorem dL_law_1289 : decode cL_law 1289 = .ok (.iconst 2, 1) := by decide +kernel
theorem dL_law_1290 : decode cL_law 1290 = .ok (.iadd, 1) := by decide +kernel
theorem dL_law_1291 : decode cL_law 1291 = .ok (.iaload, 1) := by decide +kernel
theorem dL_law_1292 : decode cL_law 1292 = .ok (.ifCond .eq 7, 3) := by decide +kernel
theorem dL_law_1295 : decode cL_law 1295 = .ok (.iconst 1, 1) := by decide +kernel
theorem dL_law_1296 : decode cL_law 1296 = .ok (.goto 4, 3) := by decide +kernel
theorem dL_law_1299 : decode cL_law 1299 = .ok (.iconst 0, 1) := by decide +kernel
theorem dL_law_1300 : decode cL_law 1300 = .ok (.invokevirtual 157, 3) := by decide +kernel
theorem dL_law_1303 : decode cL_law 1303 = .ok (.if_icmp .eq 710, 3) := by decide +kernel
theorem dL_law_1306 : decode cL_law 1306 = .ok (.iconst 0, 1) := by decide +kernel
theorem dL_law_1307 : decode cL_law 1307 = .ok (.ireturn, 1) := by decide +kernel
theorem dL_law_1308 : decode cL_law 1308 = .ok (.aload_n 1, 1) := by decide +kernel
theorem dL_law_1309 : decode cL_law 1309 = .ok (.invokevirtual 158, 3) := by decide +kernel
theorem dL_law_1312 : decode cL_law 1312 = .ok (.aload_n 2, 1) := by decide +kernel
theorem dL_law_1313 : decode cL_law 1313 = .ok (.invokevirtual 161, 3) := by decide +kernel
theorem dL_law_1316 : decode cL_law 1316 = .ok (.if_icmp .eq 697, 3) := by decide +kernel
theorem dL_law_1319 : decode cL_law 1319 = .ok (.iconst 0, 1) := by decide +kernel
theorem dL_law_1320 : decode cL_law 1320 = .ok (.ireturn, 1) := by decide +kernel
theorem dL_law_1321 : decode cL_law 1321 = .ok (.aload_n 1, 1) := by decide +kernel
theorem dL_law_1322 : decode cL_law 1322 = .ok (.invokevirtual 162, 3) := by decide +kernel
theorem dL_law_1325 : decode cL_law 1325 = .ok (.aload_n 2, 1) := by decide +kernel
theorem dL_law_1326 : decode cL_law 1326 = .ok (.invokevirtual 165, 3) := by decide +kernel
theorem dL_law_1329 : decode cL_law 1329 = .ok (.if_icmp .eq 684, 3) := by decide +kernel
theorem dL_law_1332 : decode cL_law 1332 = .ok (.iconst 0, 1) := by decide +kernel
theorem dL_law_1333 : decode cL_law 1333 = .ok (.ireturn, 1) := by decide +kernel
theorem dL_law_1334 : decode cL_law 1334 = .ok (.aload_n 1, 1) := by decide +kernel
theorem dL_law_1335 : decode cL_law 1335 = .ok (.invokevirtual 166, 3) := by decide +kernel
theorem dL_law_1338 : decode cL_law 1338 = .ok (.aload_n 2, 1) := by decide +kernel
theorem dL_law_1339 : decode cL_law 1339 = .ok (.invokevirtual 169, 3) := by decide +kernel
theorem dL_law_1342 : decode cL_law 1342 = .ok (.if_icmp .eq 671, 3) := by decide +kernel
theorem dL_law_1345 : decode cL_law 1345 = .ok (.iconst 0, 1) := by decide +kernel
theorem dL_law_1346 : decode cL_law 1346 = .ok (.ireturn, 1) := by decide +kernel
theorem dL_law_1347 : decode cL_law 1347 = .ok (.aload_n 1, 1) := by decide +kernel
theorem dL_law_1348 : decode cL_law 1348 = .ok (.aload_n 0, 1) := by decide +kernel
theorem dL_law_1349 : decode cL_law 1349 = .ok (.iload_n 3, 1) := by decide +kernel
theorem dL_law_1350 : decode cL_law 1350 = .ok (.iconst 1, 1) := by decide +kernel
theorem dL_law_1351 : decode cL_law 1351 = .ok (.iadd, 1) := by decide +kernel
theorem dL_law_1352 : decode cL_law 1352 = .ok (.iaload, 1) := by decide +kernel
theorem dL_law_1353 : decode cL_law 1353 = .ok (.invokevirtual 170, 3) := by decide +kernel
theorem dL_law_1356 : decode cL_law 1356 = .ok (.aload_n 2, 1) := by decide +kernel
theorem dL_law_1357 : decode cL_law 1357 = .ok (.aload_n 0, 1) := by decide +kernel
theorem dL_law_1358 : decode cL_law 1358 = .ok (.iload_n 3, 1) := by decide +kernel
theorem dL_law_1359 : decode cL_law 1359 = .ok (.iconst 1, 1) := by decide +kernel
theorem dL_law_1360 : decode cL_law 1360 = .ok (.iadd, 1) := by decide +kernel
theorem dL_law_1361 : decode cL_law 1361 = .ok (.iaload, 1) := by decide +kernel
theorem dL_law_1362 : decode cL_law 1362 = .ok (.invokevirtual 173, 3) := by decide +kernel
theorem dL_law_1365 : decode cL_law 1365 = .ok (.if_icmp .eq 648, 3) := by decide +kernel
theorem dL_law_1368 : decode cL_law 1368 = .ok (.iconst 0, 1) := by decide +kernel
theorem dL_law_1369 : decode cL_law 1369 = .ok (.ireturn, 1) := by decide +kernel
theorem dL_law_1370 : decode cL_law 1370 = .ok (.aload_n 1, 1) := by decide +kernel
theorem dL_law_1371 : decode cL_law 1371 = .ok (.invokevirtual 174, 3) := by decide +kernel
theorem dL_law_1374 : decode cL_law 1374 = .ok (.aload_n 2, 1) := by decide +kernel
theorem dL_law_1375 : decode cL_law 1375 = .ok (.invokevirtual 177, 3) := by decide +kernel
theorem dL_law_1378 : decode cL_law 1378 = .ok (.if_icmp .eq 635, 3) := by decide +kernel
theorem dL_law_1381 : decode cL_law 1381 = .ok (.iconst 0, 1) := by decide +kernel
theorem dL_law_1382 : decode cL_law 1382 = .ok (.ireturn, 1) := by decide +kernel
theorem dL_law_1383 : decode cL_law 1383 = .ok (.aload_n 1, 1) := by decide +kernel
theorem dL_law_1384 : decode cL_law 1384 = .ok (.aload_n 0, 1) := by decide +kernel
theorem dL_law_1385 : decode cL_law 1385 = .ok (.iload_n 3, 1) := by decide +kernel
theorem dL_law_1386 : decode cL_law 1386 = .ok (.iconst 1, 1) := by decide +kernel
theorem dL_law_1387 : decode cL_law 1387 = .ok (.iadd, 1) := by decide +kernel
theorem dL_law_1388 : decode cL_law 1388 = .ok (.iaload, 1) := by decide +kernel
theorem dL_law_1389 : decode cL_law 1389 = .ok (.invokevirtual 178, 3) := by decide +kernel
theorem dL_law_1392 : decode cL_law 1392 = .ok (.aload_n 2, 1) := by decide +kernel
theorem dL_law_1393 : decode cL_law 1393 = .ok (.aload_n 0, 1) := by decide +kernel
theorem dL_law_1394 : decode cL_law 1394 = .ok (.iload_n 3, 1) := by decide +kernel
theorem dL_law_1395 : decode cL_law 1395 = .ok (.iconst 1, 1) := by decide +kernel
theorem dL_law_1396 : decode cL_law 1396 = .ok (.iadd, 1) := by decide +kernel
theorem dL_law_1397 : decode cL_law 1397 = .ok (.iaload, 1) := by decide +kernel
theorem dL_law_1398 : decode cL_law 1398 = .ok (.invokevirtual 181, 3) := by decide +kernel
theorem dL_law_1401 : decode cL_law 1401 = .ok (.if_icmp .eq 612, 3) := by decide +kernel
theorem dL_law_1404 : decode cL_law 1404 = .ok (.iconst 0, 1) := by decide +kernel
theorem dL_law_1405 : decode cL_law 1405 = .ok (.ireturn, 1) := by decide +kernel
theorem dL_law_1406 : decode cL_law 1406 = .ok (.aload_n 1, 1) := by decide +kernel
theorem dL_law_1407 : decode cL_law 1407 = .ok (.invokevirtual 182, 3) := by decide +kernel
theorem dL_law_1410 : decode cL_law 1410 = .ok (.aload_n 2, 1) := by decide +kernel
theorem dL_law_1411 : decode cL_law 1411 = .ok (.invokevirtual 185, 3) := by decide +kernel
theorem dL_law_1414 : decode cL_law 1414 = .ok (.if_icmp .eq 599, 3) := by decide +kernel
theorem dL_law_1417 : decode cL_law 1417 = .ok (.iconst 0, 1) := by decide +kernel
theorem dL_law_1418 : decode cL_law 1418 = .ok (.ireturn, 1) := by decide +kernel
theorem dL_law_1419 : decode cL_law 1419 = .ok (.aload_n 1, 1) := by decide +kernel
theorem dL_law_1420 : decode cL_law 1420 = .ok (.invokevirtual 186, 3) := by decide +kernel
theorem dL_law_1423 : decode cL_law 1423 = .ok (.aload_n 2, 1) := by decide +kernel
theorem dL_law_1424 : decode cL_law 1424 = .ok (.invokevirtual 189, 3) := by decide +kernel
theorem dL_law_1427 : decode cL_law 1427 = .ok (.if_icmp .eq 586, 3) := by decide +kernel
theorem dL_law_1430 : decode cL_law 1430 = .ok (.iconst 0, 1) := by decide +kernel
theorem dL_law_1431 : decode cL_law 1431 = .ok (.ireturn, 1) := by decide +kernel
theorem dL_law_1432 : decode cL_law 1432 = .ok (.aload_n 1, 1) := by decide +kernel
theorem dL_law_1433 : decode cL_law 1433 = .ok (.aload_n 0, 1) := by decide +kernel
theorem dL_law_1434 : decode cL_law 1434 = .ok (.iload_n 3, 1) := by decide +kernel
theorem dL_law_1435 : decode cL_law 1435 = .ok (.iconst 1, 1) := by decide +kernel
theorem dL_law_1436 : decode cL_law 1436 = .ok (.iadd, 1) := by decide +kernel
theorem dL_law_1437 : decode cL_law 1437 = .ok (.iaload, 1) := by decide +kernel
theorem dL_law_1438 : decode cL_law 1438 = .ok (.invokevirtual 190, 3) := by decide +kernel
theorem dL_law_1441 : decode cL_law 1441 = .ok (.aload_n 2, 1) := by decide +kernel
theorem dL_law_1442 : decode cL_law 1442 = .ok (.aload_n 0, 1) := by decide +kernel
theorem dL_law_1443 : decode cL_law 1443 = .ok (.iload_n 3, 1) := by decide +kernel
theorem dL_law_1444 : decode cL_law 1444 = .ok (.iconst 1, 1) := by decide +kernel
theorem dL_law_1445 : decode cL_law 1445 = .ok (.iadd, 1) := by decide +kernel
theorem dL_law_1446 : decode cL_law 1446 = .ok (.iaload, 1) := by decide +kernel
theorem dL_law_1447 : decode cL_law 1447 = .ok (.invokevirtual 193, 3) := by decide +kernel
theorem dL_law_1450 : decode cL_law 1450 = .ok (.if_icmp .eq 563, 3) := by decide +kernel
theorem dL_law_1453 : decode cL_law 1453 = .ok (.iconst 0, 1) := by decide +kernel
theorem dL_law_1454 : decode cL_law 1454 = .ok (.ireturn, 1) := by decide +kernel
theorem dL_law_1455 : decode cL_law 1455 = .ok (.aload_n 1, 1) := by decide +kernel
theorem dL_law_1456 : decode cL_law 1456 = .ok (.aload_n 0, 1) := by decide +kernel
theorem dL_law_1457 : decode cL_law 1457 = .ok (.iload_n 3, 1) := by decide +kernel
theorem dL_law_1458 : decode cL_law 1458 = .ok (.iconst 1, 1) := by decide +kernel
theorem dL_law_1459 : decode cL_law 1459 = .ok (.iadd, 1) := by decide +kernel
theorem dL_law_1460 : decode cL_law 1460 = .ok (.iaload, 1) := by decide +kernel
theorem dL_law_1461 : decode cL_law 1461 = .ok (.invokevirtual 194, 3) := by decide +kernel
theorem dL_law_1464 : decode cL_law 1464 = .ok (.aload_n 2, 1) := by decide +kernel
theorem dL_law_1465 : decode cL_law 1465 = .ok (.aload_n 0, 1) := by decide +kernel
theorem dL_law_1466 : decode cL_law 1466 = .ok (.iload_n 3, 1) := by decide +kernel
theorem dL_law_1467 : decode cL_law 1467 = .ok (.iconst 1, 1) := by decide +kernel
theorem dL_law_1468 : decode cL_law 1468 = .ok (.iadd, 1) := by decide +kernel
theorem dL_law_1469 : decode cL_law 1469 = .ok (.iaload, 1) := by decide +kernel
theorem dL_law_1470 : decode cL_law 1470 = .ok (.invokevirtual 197, 3) := by decide +kernel
theorem dL_law_1473 : decode cL_law 1473 = .ok (.if_icmp .eq 540, 3) := by decide +kernel
theorem dL_law_1476 : decode cL_law 1476 = .ok (.iconst 0, 1) := by decide +kernel
theorem dL_law_1477 : decode cL_law 1477 = .ok (.ireturn, 1) := by decide +kernel
theorem dL_law_1478 : decode cL_law 1478 = .ok (.aload_n 1, 1) := by decide +kernel
theorem dL_law_1479 : decode cL_law 1479 = .ok (.aload_n 0, 1) := by decide +kernel
theorem dL_law_1480 : decode cL_law 1480 = .ok (.iload_n 3, 1) := by decide +kernel
theorem dL_law_1481 : decode cL_law 1481 = .ok (.iconst 1, 1) := by decide +kernel
theorem dL_law_1482 : decode cL_law 1482 = .ok (.iadd, 1) := by decide +kernel
theorem dL_law_1483 : decode cL_law 1483 = .ok (.iaload, 1) := by decide +kernel
theorem dL_law_1484 : decode cL_law 1484 = .ok (.invokevirtual 198, 3) := by decide +kernel
theorem dL_law_1487 : decode cL_law 1487 = .ok (.aload_n 2, 1) := by decide +kernel
theorem dL_law_1488 : decode cL_law 1488 = .ok (.aload_n 0, 1) := by decide +kernel
theorem dL_law_1489 : decode cL_law 1489 = .ok (.iload_n 3, 1) := by decide +kernel
theorem dL_law_1490 : decode cL_law 1490 = .ok (.iconst 1, 1) := by decide +kernel
theorem dL_law_1491 : decode cL_law 1491 = .ok (.iadd, 1) := by decide +kernel
theorem dL_law_1492 : decode cL_law 1492 = .ok (.iaload, 1) := by decide +kernel
theorem dL_law_1493 : decode cL_law 1493 = .ok (.invokevirtual 201, 3) := by decide +kernel
theorem dL_law_1496 : decode cL_law 1496 = .ok (.if_icmp .eq 517, 3) := by decide +kernel
theorem dL_law_1499 : decode cL_law 1499 = .ok (.iconst 0, 1) := by decide +kernel
theorem dL_law_1500 : decode cL_law 1500 = .ok (.ireturn, 1) := by decide +kernel
theorem dL_law_1501 : decode cL_law 1501 = .ok (.aload_n 1, 1) := by decide +kernel
theorem dL_law_1502 : decode cL_law 1502 = .ok (.invokevirtual 202, 3) := by decide +kernel
theorem dL_law_1505 : decode cL_law 1505 = .ok (.aload_n 2, 1) := by decide +kernel
theorem dL_law_1506 : decode cL_law 1506 = .ok (.invokevirtual 205, 3) := by decide +kernel
theorem dL_law_1509 : decode cL_law 1509 = .ok (.if_icmp .eq 504, 3) := by decide +kernel
theorem dL_law_1512 : decode cL_law 1512 = .ok (.iconst 0, 1) := by decide +kernel
theorem dL_law_1513 : decode cL_law 1513 = .ok (.ireturn, 1) := by decide +kernel
theorem dL_law_1514 : decode cL_law 1514 = .ok (.aload_n 1, 1) := by decide +kernel
theorem dL_law_1515 : decode cL_law 1515 = .ok (.invokevirtual 206, 3) := by decide +kernel
theorem dL_law_1518 : decode cL_law 1518 = .ok (.aload_n 2, 1) := by decide +kernel
theorem dL_law_1519 : decode cL_law 1519 = .ok (.invokevirtual 209, 3) := by decide +kernel
theorem dL_law_1522 : decode cL_law 1522 = .ok (.if_icmp .eq 491, 3) := by decide +kernel
theorem dL_law_1525 : decode cL_law 1525 = .ok (.iconst 0, 1) := by decide +kernel
theorem dL_law_1526 : decode cL_law 1526 = .ok (.ireturn, 1) := by decide +kernel
theorem dL_law_1527 : decode cL_law 1527 = .ok (.aload_n 1, 1) := by decide +kernel
theorem dL_law_1528 : decode cL_law 1528 = .ok (.invokevirtual 210, 3) := by decide +kernel
theorem dL_law_1531 : decode cL_law 1531 = .ok (.aload_n 2, 1) := by decide +kernel
theorem dL_law_1532 : decode cL_law 1532 = .ok (.invokevirtual 213, 3) := by decide +kernel
theorem dL_law_1535 : decode cL_law 1535 = .ok (.if_icmp .eq 478, 3) := by decide +kernel
theorem dL_law_1538 : decode cL_law 1538 = .ok (.iconst 0, 1) := by decide +kernel
theorem dL_law_1539 : decode cL_law 1539 = .ok (.ireturn, 1) := by decide +kernel
theorem dL_law_1540 : decode cL_law 1540 = .ok (.aload_n 1, 1) := by decide +kernel
theorem dL_law_1541 : decode cL_law 1541 = .ok (.invokevirtual 214, 3) := by decide +kernel
theorem dL_law_1544 : decode cL_law 1544 = .ok (.aload_n 2, 1) := by decide +kernel
theorem dL_law_1545 : decode cL_law 1545 = .ok (.invokevirtual 217, 3) := by decide +kernel
theorem dL_law_1548 : decode cL_law 1548 = .ok (.if_icmp .eq 465, 3) := by decide +kernel
theorem dL_law_1551 : decode cL_law 1551 = .ok (.iconst 0, 1) := by decide +kernel
theorem dL_law_1552 : decode cL_law 1552 = .ok (.ireturn, 1) := by decide +kernel
theorem dL_law_1553 : decode cL_law 1553 = .ok (.aload_n 1, 1) := by decide +kernel
theorem dL_law_1554 : decode cL_law 1554 = .ok (.invokevirtual 218, 3) := by decide +kernel
theorem dL_law_1557 : decode cL_law 1557 = .ok (.aload_n 2, 1) := by decide +kernel
theorem dL_law_1558 : decode cL_law 1558 = .ok (.invokevirtual 221, 3) := by decide +kernel
theorem dL_law_1561 : decode cL_law 1561 = .ok (.if_icmp .eq 452, 3) := by decide +kernel
theorem dL_law_1564 : decode cL_law 1564 = .ok (.iconst 0, 1) := by decide +kernel
theorem dL_law_1565 : decode cL_law 1565 = .ok (.ireturn, 1) := by decide +kernel
theorem dL_law_1566 : decode cL_law 1566 = .ok (.aload_n 1, 1) := by decide +kernel
theorem dL_law_1567 : decode cL_law 1567 = .ok (.aload_n 0, 1) := by decide +kernel
theorem dL_law_1568 : decode cL_law 1568 = .ok (.iload_n 3, 1) := by decide +kernel
theorem dL_law_1569 : decode cL_law 1569 = .ok (.iconst 1, 1) := by decide +kernel
theorem dL_law_1570 : decode cL_law 1570 = .ok (.iadd, 1) := by decide +kernel
theorem dL_law_1571 : decode cL_law 1571 = .ok (.iaload, 1) := by decide +kernel
theorem dL_law_1572 : decode cL_law 1572 = .ok (.aload_n 0, 1) := by decide +kernel
theorem dL_law_1573 : decode cL_law 1573 = .ok (.iload_n 3, 1) := by decide +kernel
theorem dL_law_1574 : decode cL_law 1574 = .ok (.iconst 2, 1) := by decide +kernel
theorem dL_law_1575 : decode cL_law 1575 = .ok (.iadd, 1) := by decide +kernel
theorem dL_law_1576 : decode cL_law 1576 = .ok (.iaload, 1) := by decide +kernel
theorem dL_law_1577 : decode cL_law 1577 = .ok (.invokevirtual 222, 3) := by decide +kernel
theorem dL_law_1580 : decode cL_law 1580 = .ok (.aload_n 2, 1) := by decide +kernel
theorem dL_law_1581 : decode cL_law 1581 = .ok (.aload_n 0, 1) := by decide +kernel
theorem dL_law_1582 : decode cL_law 1582 = .ok (.iload_n 3, 1) := by decide +kernel
theorem dL_law_1583 : decode cL_law 1583 = .ok (.iconst 1, 1) := by decide +kernel
theorem dL_law_1584 : decode cL_law 1584 = .ok (.iadd, 1) := by decide +kernel
theorem dL_law_1585 : decode cL_law 1585 = .ok (.iaload, 1) := by decide +kernel
theorem dL_law_1586 : decode cL_law 1586 = .ok (.aload_n 0, 1) := by decide +kernel
theorem dL_law_1587 : decode cL_law 1587 = .ok (.iload_n 3, 1) := by decide +kernel
theorem dL_law_1588 : decode cL_law 1588 = .ok (.iconst 2, 1) := by decide +kernel
theorem dL_law_1589 : decode cL_law 1589 = .ok (.iadd, 1) := by decide +kernel
theorem dL_law_1590 : decode cL_law 1590 = .ok (.iaload, 1) := by decide +kernel
theorem dL_law_1591 : decode cL_law 1591 = .ok (.invokevirtual 225, 3) := by decide +kernel
theorem dL_law_1594 : decode cL_law 1594 = .ok (.if_icmp .eq 419, 3) := by decide +kernel
theorem dL_law_1597 : decode cL_law 1597 = .ok (.iconst 0, 1) := by decide +kernel
theorem dL_law_1598 : decode cL_law 1598 = .ok (.ireturn, 1) := by decide +kernel
theorem dL_law_1599 : decode cL_law 1599 = .ok (.aload_n 1, 1) := by decide +kernel
theorem dL_law_1600 : decode cL_law 1600 = .ok (.aload_n 0, 1) := by decide +kernel
theorem dL_law_1601 : decode cL_law 1601 = .ok (.iload_n 3, 1) := by decide +kernel
theorem dL_law_1602 : decode cL_law 1602 = .ok (.iconst 1, 1) := by decide +kernel
theorem dL_law_1603 : decode cL_law 1603 = .ok (.iadd, 1) := by decide +kernel
theorem dL_law_1604 : decode cL_law 1604 = .ok (.iaload, 1) := by decide +kernel
theorem dL_law_1605 : decode cL_law 1605 = .ok (.aload_n 0, 1) := by decide +kernel
theorem dL_law_1606 : decode cL_law 1606 = .ok (.iload_n 3, 1) := by decide +kernel
theorem dL_law_1607 : decode cL_law 1607 = .ok (.iconst 2, 1) := by decide +kernel
theorem dL_law_1608 : decode cL_law 1608 = .ok (.iadd, 1) := by decide +kernel
theorem dL_law_1609 : decode cL_law 1609 = .ok (.iaload, 1) := by decide +kernel
theorem dL_law_1610 : decode cL_law 1610 = .ok (.aload_n 0, 1) := by decide +kernel
theorem dL_law_1611 : decode cL_law 1611 = .ok (.iload_n 3, 1) := by decide +kernel
theorem dL_law_1612 : decode cL_law 1612 = .ok (.iconst 3, 1) := by decide +kernel
theorem dL_law_1613 : decode cL_law 1613 = .ok (.iadd, 1) := by decide +kernel
theorem dL_law_1614 : decode cL_law 1614 = .ok (.iaload, 1) := by decide +kernel
theorem dL_law_1615 : decode cL_law 1615 = .ok (.invokevirtual 226, 3) := by decide +kernel
theorem dL_law_1618 : decode cL_law 1618 = .ok (.aload_n 2, 1) := by decide +kernel
theorem dL_law_1619 : decode cL_law 1619 = .ok (.aload_n 0, 1) := by decide +kernel
theorem dL_law_1620 : decode cL_law 1620 = .ok (.iload_n 3, 1) := by decide +kernel
theorem dL_law_1621 : decode cL_law 1621 = .ok (.iconst 1, 1) := by decide +kernel
theorem dL_law_1622 : decode cL_law 1622 = .ok (.iadd, 1) := by decide +kernel
theorem dL_law_1623 : decode cL_law 1623 = .ok (.iaload, 1) := by decide +kernel
theorem dL_law_1624 : decode cL_law 1624 = .ok (.aload_n 0, 1) := by decide +kernel
theorem dL_law_1625 : decode cL_law 1625 = .ok (.iload_n 3, 1) := by decide +kernel
theorem dL_law_1626 : decode cL_law 1626 = .ok (.iconst 2, 1) := by decide +kernel
theorem dL_law_1627 : decode cL_law 1627 = .ok (.iadd, 1) := by decide +kernel
theorem dL_law_1628 : decode cL_law 1628 = .ok (.iaload, 1) := by decide +kernel
theorem dL_law_1629 : decode cL_law 1629 = .ok (.aload_n 0, 1) := by decide +kernel
theorem dL_law_1630 : decode cL_law 1630 = .ok (.iload_n 3, 1) := by decide +kernel
theorem dL_law_1631 : decode cL_law 1631 = .ok (.iconst 3, 1) := by decide +kernel
theorem dL_law_1632 : decode cL_law 1632 = .ok (.iadd, 1) := by decide +kernel
theorem dL_law_1633 : decode cL_law 1633 = .ok (.iaload, 1) := by decide +kernel
theorem dL_law_1634 : decode cL_law 1634 = .ok (.invokevirtual 230, 3) := by decide +kernel
theorem dL_law_1637 : decode cL_law 1637 = .ok (.if_icmp .eq 376, 3) := by decide +kernel
theorem dL_law_1640 : decode cL_law 1640 = .ok (.iconst 0, 1) := by decide +kernel
theorem dL_law_1641 : decode cL_law 1641 = .ok (.ireturn, 1) := by decide +kernel
theorem dL_law_1642 : decode cL_law 1642 = .ok (.aload_n 1, 1) := by decide +kernel
theorem dL_law_1643 : decode cL_law 1643 = .ok (.aload_n 0, 1) := by decide +kernel
theorem dL_law_1644 : decode cL_law 1644 = .ok (.iload_n 3, 1) := by decide +kernel
theorem dL_law_1645 : decode cL_law 1645 = .ok (.iconst 1, 1) := by decide +kernel
theorem dL_law_1646 : decode cL_law 1646 = .ok (.iadd, 1) := by decide +kernel
theorem dL_law_1647 : decode cL_law 1647 = .ok (.iaload, 1) := by decide +kernel
theorem dL_law_1648 : decode cL_law 1648 = .ok (.aload_n 0, 1) := by decide +kernel
theorem dL_law_1649 : decode cL_law 1649 = .ok (.iload_n 3, 1) := by decide +kernel
theorem dL_law_1650 : decode cL_law 1650 = .ok (.iconst 2, 1) := by decide +kernel
theorem dL_law_1651 : decode cL_law 1651 = .ok (.iadd, 1) := by decide +kernel
theorem dL_law_1652 : decode cL_law 1652 = .ok (.iaload, 1) := by decide +kernel
theorem dL_law_1653 : decode cL_law 1653 = .ok (.aload_n 0, 1) := by decide +kernel
theorem dL_law_1654 : decode cL_law 1654 = .ok (.iload_n 3, 1) := by decide +kernel
theorem dL_law_1655 : decode cL_law 1655 = .ok (.iconst 3, 1) := by decide +kernel
theorem dL_law_1656 : decode cL_law 1656 = .ok (.iadd, 1) := by decide +kernel
theorem dL_law_1657 : decode cL_law 1657 = .ok (.iaload, 1) := by decide +kernel
theorem dL_law_1658 : decode cL_law 1658 = .ok (.invokevirtual 231, 3) := by decide +kernel
theorem dL_law_1661 : decode cL_law 1661 = .ok (.aload_n 2, 1) := by decide +kernel
theorem dL_law_1662 : decode cL_law 1662 = .ok (.aload_n 0, 1) := by decide +kernel
theorem dL_law_1663 : decode cL_law 1663 = .ok (.iload_n 3, 1) := by decide +kernel
theorem dL_law_1664 : decode cL_law 1664 = .ok (.iconst 1, 1) := by decide +kernel
theorem dL_law_1665 : decode cL_law 1665 = .ok (.iadd, 1) := by decide +kernel
theorem dL_law_1666 : decode cL_law 1666 = .ok (.iaload, 1) := by decide +kernel
theorem dL_law_1667 : decode cL_law 1667 = .ok (.aload_n 0, 1) := by decide +kernel
theorem dL_law_1668 : decode cL_law 1668 = .ok (.iload_n 3, 1) := by decide +kernel
theorem dL_law_1669 : decode cL_law 1669 = .ok (.iconst 2, 1) := by decide +kernel
theorem dL_law_1670 : decode cL_law 1670 = .ok (.iadd, 1) := by decide +kernel
theorem dL_law_1671 : decode cL_law 1671 = .ok (.iaload, 1) := by decide +kernel
theorem dL_law_1672 : decode cL_law 1672 = .ok (.aload_n 0, 1) := by decide +kernel
theorem dL_law_1673 : decode cL_law 1673 = .ok (.iload_n 3, 1) := by decide +kernel
theorem dL_law_1674 : decode cL_law 1674 = .ok (.iconst 3, 1) := by decide +kernel
theorem dL_law_1675 : decode cL_law 1675 = .ok (.iadd, 1) := by decide +kernel
theorem dL_law_1676 : decode cL_law 1676 = .ok (.iaload, 1) := by decide +kernel
theorem dL_law_1677 : decode cL_law 1677 = .ok (.invokevirtual 234, 3) := by decide +kernel
theorem dL_law_1680 : decode cL_law 1680 = .ok (.if_icmp .eq 333, 3) := by decide +kernel
theorem dL_law_1683 : decode cL_law 1683 = .ok (.iconst 0, 1) := by decide +kernel
theorem dL_law_1684 : decode cL_law 1684 = .ok (.ireturn, 1) := by decide +kernel
theorem dL_law_1685 : decode cL_law 1685 = .ok (.aload_n 1, 1) := by decide +kernel
theorem dL_law_1686 : decode cL_law 1686 = .ok (.aload_n 0, 1) := by decide +kernel
theorem dL_law_1687 : decode cL_law 1687 = .ok (.iload_n 3, 1) := by decide +kernel
theorem dL_law_1688 : decode cL_law 1688 = .ok (.iconst 1, 1) := by decide +kernel
theorem dL_law_1689 : decode cL_law 1689 = .ok (.iadd, 1) := by decide +kernel
theorem dL_law_1690 : decode cL_law 1690 = .ok (.iaload, 1) := by decide +kernel
theorem dL_law_1691 : decode cL_law 1691 = .ok (.invokevirtual 235, 3) := by decide +kernel
theorem dL_law_1694 : decode cL_law 1694 = .ok (.aload_n 2, 1) := by decide +kernel
theorem dL_law_1695 : decode cL_law 1695 = .ok (.aload_n 0, 1) := by decide +kernel
theorem dL_law_1696 : decode cL_law 1696 = .ok (.iload_n 3, 1) := by decide +kernel
theorem dL_law_1697 : decode cL_law 1697 = .ok (.iconst 1, 1) := by decide +kernel
theorem dL_law_1698 : decode cL_law 1698 = .ok (.iadd, 1) := by decide +kernel
theorem dL_law_1699 : decode cL_law 1699 = .ok (.iaload, 1) := by decide +kernel
theorem dL_law_1700 : decode cL_law 1700 = .ok (.invokevirtual 238, 3) := by decide +kernel
theorem dL_law_1703 : decode cL_law 1703 = .ok (.if_icmp .eq 310, 3) := by decide +kernel
theorem dL_law_1706 : decode cL_law 1706 = .ok (.iconst 0, 1) := by decide +kernel
theorem dL_law_1707 : decode cL_law 1707 = .ok (.ireturn, 1) := by decide +kernel
theorem dL_law_1708 : decode cL_law 1708 = .ok (.aload_n 1, 1) := by decide +kernel
theorem dL_law_1709 : decode cL_law 1709 = .ok (.aload_n 0, 1) := by decide +kernel
theorem dL_law_1710 : decode cL_law 1710 = .ok (.iload_n 3, 1) := by decide +kernel
theorem dL_law_1711 : decode cL_law 1711 = .ok (.iconst 1, 1) := by decide +kernel
theorem dL_law_1712 : decode cL_law 1712 = .ok (.iadd, 1) := by decide +kernel
theorem dL_law_1713 : decode cL_law 1713 = .ok (.iaload, 1) := by decide +kernel
theorem dL_law_1714 : decode cL_law 1714 = .ok (.invokevirtual 239, 3) := by decide +kernel
theorem dL_law_1717 : decode cL_law 1717 = .ok (.aload_n 2, 1) := by decide +kernel
theorem dL_law_1718 : decode cL_law 1718 = .ok (.aload_n 0, 1) := by decide +kernel
theorem dL_law_1719 : decode cL_law 1719 = .ok (.iload_n 3, 1) := by decide +kernel
theorem dL_law_1720 : decode cL_law 1720 = .ok (.iconst 1, 1) := by decide +kernel
theorem dL_law_1721 : decode cL_law 1721 = .ok (.iadd, 1) := by decide +kernel
theorem dL_law_1722 : decode cL_law 1722 = .ok (.iaload, 1) := by decide +kernel
theorem dL_law_1723 : decode cL_law 1723 = .ok (.invokevirtual 242, 3) := by decide +kernel
theorem dL_law_1726 : decode cL_law 1726 = .ok (.if_icmp .eq 287, 3) := by decide +kernel
theorem dL_law_1729 : decode cL_law 1729 = .ok (.iconst 0, 1) := by decide +kernel
theorem dL_law_1730 : decode cL_law 1730 = .ok (.ireturn, 1) := by decide +kernel
theorem dL_law_1731 : decode cL_law 1731 = .ok (.aload_n 1, 1) := by decide +kernel
theorem dL_law_1732 : decode cL_law 1732 = .ok (.invokevirtual 243, 3) := by decide +kernel
theorem dL_law_1735 : decode cL_law 1735 = .ok (.aload_n 2, 1) := by decide +kernel
theorem dL_law_1736 : decode cL_law 1736 = .ok (.invokevirtual 246, 3) := by decide +kernel
theorem dL_law_1739 : decode cL_law 1739 = .ok (.if_icmp .eq 274, 3) := by decide +kernel
theorem dL_law_1742 : decode cL_law 1742 = .ok (.iconst 0, 1) := by decide +kernel
theorem dL_law_1743 : decode cL_law 1743 = .ok (.ireturn, 1) := by decide +kernel
theorem dL_law_1744 : decode cL_law 1744 = .ok (.aload_n 1, 1) := by decide +kernel
theorem dL_law_1745 : decode cL_law 1745 = .ok (.invokevirtual 247, 3) := by decide +kernel
theorem dL_law_1748 : decode cL_law 1748 = .ok (.aload_n 2, 1) := by decide +kernel
theorem dL_law_1749 : decode cL_law 1749 = .ok (.invokevirtual 250, 3) := by decide +kernel
theorem dL_law_1752 : decode cL_law 1752 = .ok (.if_icmp .eq 261, 3) := by decide +kernel
theorem dL_law_1755 : decode cL_law 1755 = .ok (.iconst 0, 1) := by decide +kernel
theorem dL_law_1756 : decode cL_law 1756 = .ok (.ireturn, 1) := by decide +kernel
theorem dL_law_1757 : decode cL_law 1757 = .ok (.aload_n 1, 1) := by decide +kernel
theorem dL_law_1758 : decode cL_law 1758 = .ok (.aload_n 0, 1) := by decide +kernel
theorem dL_law_1759 : decode cL_law 1759 = .ok (.iload_n 3, 1) := by decide +kernel
theorem dL_law_1760 : decode cL_law 1760 = .ok (.iconst 1, 1) := by decide +kernel
theorem dL_law_1761 : decode cL_law 1761 = .ok (.iadd, 1) := by decide +kernel
theorem dL_law_1762 : decode cL_law 1762 = .ok (.iaload, 1) := by decide +kernel
theorem dL_law_1763 : decode cL_law 1763 = .ok (.invokevirtual 251, 3) := by decide +kernel
theorem dL_law_1766 : decode cL_law 1766 = .ok (.aload_n 2, 1) := by decide +kernel
theorem dL_law_1767 : decode cL_law 1767 = .ok (.aload_n 0, 1) := by decide +kernel
theorem dL_law_1768 : decode cL_law 1768 = .ok (.iload_n 3, 1) := by decide +kernel
theorem dL_law_1769 : decode cL_law 1769 = .ok (.iconst 1, 1) := by decide +kernel
theorem dL_law_1770 : decode cL_law 1770 = .ok (.iadd, 1) := by decide +kernel
theorem dL_law_1771 : decode cL_law 1771 = .ok (.iaload, 1) := by decide +kernel
theorem dL_law_1772 : decode cL_law 1772 = .ok (.invokevirtual 254, 3) := by decide +kernel
theorem dL_law_1775 : decode cL_law 1775 = .ok (.if_icmp .eq 238, 3) := by decide +kernel
theorem dL_law_1778 : decode cL_law 1778 = .ok (.iconst 0, 1) := by decide +kernel
theorem dL_law_1779 : decode cL_law 1779 = .ok (.ireturn, 1) := by decide +kernel
theorem dL_law_1780 : decode cL_law 1780 = .ok (.aload_n 1, 1) := by decide +kernel
theorem dL_law_1781 : decode cL_law 1781 = .ok (.aload_n 0, 1) := by decide +kernel
theorem dL_law_1782 : decode cL_law 1782 = .ok (.iload_n 3, 1) := by decide +kernel
theorem dL_law_1783 : decode cL_law 1783 = .ok (.iconst 1, 1) := by decide +kernel
theorem dL_law_1784 : decode cL_law 1784 = .ok (.iadd, 1) := by decide +kernel
theorem dL_law_1785 : decode cL_law 1785 = .ok (.iaload, 1) := by decide +kernel
theorem dL_law_1786 : decode cL_law 1786 = .ok (.invokevirtual 255, 3) := by decide +kernel
theorem dL_law_1789 : decode cL_law 1789 = .ok (.aload_n 2, 1) := by decide +kernel
theorem dL_law_1790 : decode cL_law 1790 = .ok (.aload_n 0, 1) := by decide +kernel
theorem dL_law_1791 : decode cL_law 1791 = .ok (.iload_n 3, 1) := by decide +kernel
theorem dL_law_1792 : decode cL_law 1792 = .ok (.iconst 1, 1) := by decide +kernel
theorem dL_law_1793 : decode cL_law 1793 = .ok (.iadd, 1) := by decide +kernel
theorem dL_law_1794 : decode cL_law 1794 = .ok (.iaload, 1) := by decide +kernel
theorem dL_law_1795 : decode cL_law 1795 = .ok (.invokevirtual 258, 3) := by decide +kernel
theorem dL_law_1798 : decode cL_law 1798 = .ok (.if_icmp .eq 215, 3) := by decide +kernel
theorem dL_law_1801 : decode cL_law 1801 = .ok (.iconst 0, 1) := by decide +kernel
theorem dL_law_1802 : decode cL_law 1802 = .ok (.ireturn, 1) := by decide +kernel
theorem dL_law_1803 : decode cL_law 1803 = .ok (.aload_n 1, 1) := by decide +kernel
theorem dL_law_1804 : decode cL_law 1804 = .ok (.aload_n 0, 1) := by decide +kernel
theorem dL_law_1805 : decode cL_law 1805 = .ok (.iload_n 3, 1) := by decide +kernel
theorem dL_law_1806 : decode cL_law 1806 = .ok (.iconst 1, 1) := by decide +kernel
theorem dL_law_1807 : decode cL_law 1807 = .ok (.iadd, 1) := by decide +kernel
theorem dL_law_1808 : decode cL_law 1808 = .ok (.iaload, 1) := by decide +kernel
theorem dL_law_1809 : decode cL_law 1809 = .ok (.invokevirtual 259, 3) := by decide +kernel
theorem dL_law_1812 : decode cL_law 1812 = .ok (.aload_n 2, 1) := by decide +kernel
theorem dL_law_1813 : decode cL_law 1813 = .ok (.aload_n 0, 1) := by decide +kernel
theorem dL_law_1814 : decode cL_law 1814 = .ok (.iload_n 3, 1) := by decide +kernel
theorem dL_law_1815 : decode cL_law 1815 = .ok (.iconst 1, 1) := by decide +kernel
theorem dL_law_1816 : decode cL_law 1816 = .ok (.iadd, 1) := by decide +kernel
theorem dL_law_1817 : decode cL_law 1817 = .ok (.iaload, 1) := by decide +kernel
theorem dL_law_1818 : decode cL_law 1818 = .ok (.invokevirtual 262, 3) := by decide +kernel
theorem dL_law_1821 : decode cL_law 1821 = .ok (.if_icmp .eq 192, 3) := by decide +kernel
theorem dL_law_1824 : decode cL_law 1824 = .ok (.iconst 0, 1) := by decide +kernel
theorem dL_law_1825 : decode cL_law 1825 = .ok (.ireturn, 1) := by decide +kernel
theorem dL_law_1826 : decode cL_law 1826 = .ok (.aload_n 1, 1) := by decide +kernel
theorem dL_law_1827 : decode cL_law 1827 = .ok (.aload_n 0, 1) := by decide +kernel
theorem dL_law_1828 : decode cL_law 1828 = .ok (.iload_n 3, 1) := by decide +kernel
theorem dL_law_1829 : decode cL_law 1829 = .ok (.iconst 1, 1) := by decide +kernel
theorem dL_law_1830 : decode cL_law 1830 = .ok (.iadd, 1) := by decide +kernel
theorem dL_law_1831 : decode cL_law 1831 = .ok (.iaload, 1) := by decide +kernel
theorem dL_law_1832 : decode cL_law 1832 = .ok (.invokevirtual 263, 3) := by decide +kernel
theorem dL_law_1835 : decode cL_law 1835 = .ok (.aload_n 2, 1) := by decide +kernel
theorem dL_law_1836 : decode cL_law 1836 = .ok (.aload_n 0, 1) := by decide +kernel
theorem dL_law_1837 : decode cL_law 1837 = .ok (.iload_n 3, 1) := by decide +kernel
theorem dL_law_1838 : decode cL_law 1838 = .ok (.iconst 1, 1) := by decide +kernel
theorem dL_law_1839 : decode cL_law 1839 = .ok (.iadd, 1) := by decide +kernel
theorem dL_law_1840 : decode cL_law 1840 = .ok (.iaload, 1) := by decide +kernel
theorem dL_law_1841 : decode cL_law 1841 = .ok (.invokevirtual 267, 3) := by decide +kernel
theorem dL_law_1844 : decode cL_law 1844 = .ok (.if_icmp .eq 169, 3) := by decide +kernel
theorem dL_law_1847 : decode cL_law 1847 = .ok (.iconst 0, 1) := by decide +kernel
theorem dL_law_1848 : decode cL_law 1848 = .ok (.ireturn, 1) := by decide +kernel
theorem dL_law_1849 : decode cL_law 1849 = .ok (.aload_n 1, 1) := by decide +kernel
theorem dL_law_1850 : decode cL_law 1850 = .ok (.invokevirtual 268, 3) := by decide +kernel
theorem dL_law_1853 : decode cL_law 1853 = .ok (.aload_n 2, 1) := by decide +kernel
theorem dL_law_1854 : decode cL_law 1854 = .ok (.invokevirtual 271, 3) := by decide +kernel
theorem dL_law_1857 : decode cL_law 1857 = .ok (.if_icmp .eq 156, 3) := by decide +kernel
theorem dL_law_1860 : decode cL_law 1860 = .ok (.iconst 0, 1) := by decide +kernel
theorem dL_law_1861 : decode cL_law 1861 = .ok (.ireturn, 1) := by decide +kernel
theorem dL_law_1862 : decode cL_law 1862 = .ok (.aload_n 1, 1) := by decide +kernel
theorem dL_law_1863 : decode cL_law 1863 = .ok (.aload_n 0, 1) := by decide +kernel
theorem dL_law_1864 : decode cL_law 1864 = .ok (.iload_n 3, 1) := by decide +kernel
theorem dL_law_1865 : decode cL_law 1865 = .ok (.iconst 1, 1) := by decide +kernel
theorem dL_law_1866 : decode cL_law 1866 = .ok (.iadd, 1) := by decide +kernel
theorem dL_law_1867 : decode cL_law 1867 = .ok (.iaload, 1) := by decide +kernel
theorem dL_law_1868 : decode cL_law 1868 = .ok (.invokevirtual 272, 3) := by decide +kernel
theorem dL_law_1871 : decode cL_law 1871 = .ok (.aload_n 2, 1) := by decide +kernel
theorem dL_law_1872 : decode cL_law 1872 = .ok (.aload_n 0, 1) := by decide +kernel
theorem dL_law_1873 : decode cL_law 1873 = .ok (.iload_n 3, 1) := by decide +kernel
theorem dL_law_1874 : decode cL_law 1874 = .ok (.iconst 1, 1) := by decide +kernel
theorem dL_law_1875 : decode cL_law 1875 = .ok (.iadd, 1) := by decide +kernel
theorem dL_law_1876 : decode cL_law 1876 = .ok (.iaload, 1) := by decide +kernel
theorem dL_law_1877 : decode cL_law 1877 = .ok (.invokevirtual 275, 3) := by decide +kernel
theorem dL_law_1880 : decode cL_law 1880 = .ok (.if_icmp .eq 133, 3) := by decide +kernel
theorem dL_law_1883 : decode cL_law 1883 = .ok (.iconst 0, 1) := by decide +kernel
theorem dL_law_1884 : decode cL_law 1884 = .ok (.ireturn, 1) := by decide +kernel
theorem dL_law_1885 : decode cL_law 1885 = .ok (.aload_n 1, 1) := by decide +kernel
theorem dL_law_1886 : decode cL_law 1886 = .ok (.aload_n 0, 1) := by decide +kernel
theorem dL_law_1887 : decode cL_law 1887 = .ok (.iload_n 3, 1) := by decide +kernel
theorem dL_law_1888 : decode cL_law 1888 = .ok (.iconst 1, 1) := by decide +kernel
theorem dL_law_1889 : decode cL_law 1889 = .ok (.iadd, 1) := by decide +kernel
theorem dL_law_1890 : decode cL_law 1890 = .ok (.iaload, 1) := by decide +kernel
theorem dL_law_1891 : decode cL_law 1891 = .ok (.invokevirtual 276, 3) := by decide +kernel
theorem dL_law_1894 : decode cL_law 1894 = .ok (.aload_n 2, 1) := by decide +kernel
theorem dL_law_1895 : decode cL_law 1895 = .ok (.aload_n 0, 1) := by decide +kernel
theorem dL_law_1896 : decode cL_law 1896 = .ok (.iload_n 3, 1) := by decide +kernel
theorem dL_law_1897 : decode cL_law 1897 = .ok (.iconst 1, 1) := by decide +kernel
theorem dL_law_1898 : decode cL_law 1898 = .ok (.iadd, 1) := by decide +kernel
theorem dL_law_1899 : decode cL_law 1899 = .ok (.iaload, 1) := by decide +kernel
theorem dL_law_1900 : decode cL_law 1900 = .ok (.invokevirtual 279, 3) := by decide +kernel
theorem dL_law_1903 : decode cL_law 1903 = .ok (.if_icmp .eq 110, 3) := by decide +kernel
theorem dL_law_1906 : decode cL_law 1906 = .ok (.iconst 0, 1) := by decide +kernel
theorem dL_law_1907 : decode cL_law 1907 = .ok (.ireturn, 1) := by decide +kernel
theorem dL_law_1908 : decode cL_law 1908 = .ok (.aload_n 1, 1) := by decide +kernel
theorem dL_law_1909 : decode cL_law 1909 = .ok (.aload_n 0, 1) := by decide +kernel
theorem dL_law_1910 : decode cL_law 1910 = .ok (.iload_n 3, 1) := by decide +kernel
theorem dL_law_1911 : decode cL_law 1911 = .ok (.iconst 1, 1) := by decide +kernel
theorem dL_law_1912 : decode cL_law 1912 = .ok (.iadd, 1) := by decide +kernel
theorem dL_law_1913 : decode cL_law 1913 = .ok (.iaload, 1) := by decide +kernel
theorem dL_law_1914 : decode cL_law 1914 = .ok (.invokevirtual 280, 3) := by decide +kernel
theorem dL_law_1917 : decode cL_law 1917 = .ok (.aload_n 2, 1) := by decide +kernel
theorem dL_law_1918 : decode cL_law 1918 = .ok (.aload_n 0, 1) := by decide +kernel
theorem dL_law_1919 : decode cL_law 1919 = .ok (.iload_n 3, 1) := by decide +kernel
theorem dL_law_1920 : decode cL_law 1920 = .ok (.iconst 1, 1) := by decide +kernel
theorem dL_law_1921 : decode cL_law 1921 = .ok (.iadd, 1) := by decide +kernel
theorem dL_law_1922 : decode cL_law 1922 = .ok (.iaload, 1) := by decide +kernel
theorem dL_law_1923 : decode cL_law 1923 = .ok (.invokevirtual 283, 3) := by decide +kernel
theorem dL_law_1926 : decode cL_law 1926 = .ok (.if_icmp .eq 87, 3) := by decide +kernel
theorem dL_law_1929 : decode cL_law 1929 = .ok (.iconst 0, 1) := by decide +kernel
theorem dL_law_1930 : decode cL_law 1930 = .ok (.ireturn, 1) := by decide +kernel
theorem dL_law_1931 : decode cL_law 1931 = .ok (.aload_n 1, 1) := by decide +kernel
theorem dL_law_1932 : decode cL_law 1932 = .ok (.aload_n 0, 1) := by decide +kernel
theorem dL_law_1933 : decode cL_law 1933 = .ok (.iload_n 3, 1) := by decide +kernel
theorem dL_law_1934 : decode cL_law 1934 = .ok (.iconst 1, 1) := by decide +kernel
theorem dL_law_1935 : decode cL_law 1935 = .ok (.iadd, 1) := by decide +kernel
theorem dL_law_1936 : decode cL_law 1936 = .ok (.iaload, 1) := by decide +kernel
theorem dL_law_1937 : decode cL_law 1937 = .ok (.invokevirtual 284, 3) := by decide +kernel
theorem dL_law_1940 : decode cL_law 1940 = .ok (.aload_n 2, 1) := by decide +kernel
theorem dL_law_1941 : decode cL_law 1941 = .ok (.aload_n 0, 1) := by decide +kernel
theorem dL_law_1942 : decode cL_law 1942 = .ok (.iload_n 3, 1) := by decide +kernel
theorem dL_law_1943 : decode cL_law 1943 = .ok (.iconst 1, 1) := by decide +kernel
theorem dL_law_1944 : decode cL_law 1944 = .ok (.iadd, 1) := by decide +kernel
theorem dL_law_1945 : decode cL_law 1945 = .ok (.iaload, 1) := by decide +kernel
theorem dL_law_1946 : decode cL_law 1946 = .ok (.invokevirtual 287, 3) := by decide +kernel
theorem dL_law_1949 : decode cL_law 1949 = .ok (.if_icmp .eq 64, 3) := by decide +kernel
theorem dL_law_1952 : decode cL_law 1952 = .ok (.iconst 0, 1) := by decide +kernel
theorem dL_law_1953 : decode cL_law 1953 = .ok (.ireturn, 1) := by decide +kernel
theorem dL_law_1954 : decode cL_law 1954 = .ok (.aload_n 1, 1) := by decide +kernel
theorem dL_law_1955 : decode cL_law 1955 = .ok (.aload_n 0, 1) := by decide +kernel
theorem dL_law_1956 : decode cL_law 1956 = .ok (.iload_n 3, 1) := by decide +kernel
theorem dL_law_1957 : decode cL_law 1957 = .ok (.iconst 1, 1) := by decide +kernel
theorem dL_law_1958 : decode cL_law 1958 = .ok (.iadd, 1) := by decide +kernel
theorem dL_law_1959 : decode cL_law 1959 = .ok (.iaload, 1) := by decide +kernel
theorem dL_law_1960 : decode cL_law 1960 = .ok (.aload_n 0, 1) := by decide +kernel
theorem dL_law_1961 : decode cL_law 1961 = .ok (.iload_n 3, 1) := by decide +kernel
theorem dL_law_1962 : decode cL_law 1962 = .ok (.iconst 2, 1) := by decide +kernel
theorem dL_law_1963 : decode cL_law 1963 = .ok (.iadd, 1) := by decide +kernel
theorem dL_law_1964 : decode cL_law 1964 = .ok (.iaload, 1) := by decide +kernel
theorem dL_law_1965 : decode cL_law 1965 = .ok (.invokevirtual 288, 3) := by decide +kernel
theorem dL_law_1968 : decode cL_law 1968 = .ok (.aload_n 2, 1) := by decide +kernel
theorem dL_law_1969 : decode cL_law 1969 = .ok (.aload_n 0, 1) := by decide +kernel
theorem dL_law_1970 : decode cL_law 1970 = .ok (.iload_n 3, 1) := by decide +kernel
theorem dL_law_1971 : decode cL_law 1971 = .ok (.iconst 1, 1) := by decide +kernel
theorem dL_law_1972 : decode cL_law 1972 = .ok (.iadd, 1) := by decide +kernel
theorem dL_law_1973 : decode cL_law 1973 = .ok (.iaload, 1) := by decide +kernel
theorem dL_law_1974 : decode cL_law 1974 = .ok (.aload_n 0, 1) := by decide +kernel
theorem dL_law_1975 : decode cL_law 1975 = .ok (.iload_n 3, 1) := by decide +kernel
theorem dL_law_1976 : decode cL_law 1976 = .ok (.iconst 2, 1) := by decide +kernel
theorem dL_law_1977 : decode cL_law 1977 = .ok (.iadd, 1) := by decide +kernel
theorem dL_law_1978 : decode cL_law 1978 = .ok (.iaload, 1) := by decide +kernel
theorem dL_law_1979 : decode cL_law 1979 = .ok (.invokevirtual 291, 3) := by decide +kernel
theorem dL_law_1982 : decode cL_law 1982 = .ok (.if_icmp .eq 31, 3) := by decide +kernel
theorem dL_law_1985 : decode cL_law 1985 = .ok (.iconst 0, 1) := by decide +kernel
theorem dL_law_1986 : decode cL_law 1986 = .ok (.ireturn, 1) := by decide +kernel
theorem dL_law_1987 : decode cL_law 1987 = .ok (.aload_n 1, 1) := by decide +kernel
theorem dL_law_1988 : decode cL_law 1988 = .ok (.invokevirtual 292, 3) := by decide +kernel
theorem dL_law_1991 : decode cL_law 1991 = .ok (.aload_n 2, 1) := by decide +kernel
theorem dL_law_1992 : decode cL_law 1992 = .ok (.invokevirtual 295, 3) := by decide +kernel
theorem dL_law_1995 : decode cL_law 1995 = .ok (.if_icmp .eq 18, 3) := by decide +kernel
theorem dL_law_1998 : decode cL_law 1998 = .ok (.iconst 0, 1) := by decide +kernel
theorem dL_law_1999 : decode cL_law 1999 = .ok (.ireturn, 1) := by decide +kernel
theorem dL_law_2000 : decode cL_law 2000 = .ok (.aload_n 1, 1) := by decide +kernel
theorem dL_law_2001 : decode cL_law 2001 = .ok (.invokevirtual 296, 3) := by decide +kernel
theorem dL_law_2004 : decode cL_law 2004 = .ok (.aload_n 2, 1) := by decide +kernel
theorem dL_law_2005 : decode cL_law 2005 = .ok (.invokevirtual 299, 3) := by decide +kernel
theorem dL_law_2008 : decode cL_law 2008 = .ok (.if_icmp .eq 5, 3) := by decide +kernel
theorem dL_law_2011 : decode cL_law 2011 = .ok (.iconst 0, 1) := by decide +kernel
theorem dL_law_2012 : decode cL_law 2012 = .ok (.ireturn, 1) := by decide +kernel
theorem dL_law_2013 : decode cL_law 2013 = .ok (.iinc 3 6, 3) := by decide +kernel
theorem dL_law_2016 : decode cL_law 2016 = .ok (.goto (-1998), 3) := by decide +kernel
theorem dL_law_2019 : decode cL_law 2019 = .ok (.iconst 1, 1) := by decide +kernel
theorem dL_law_2020 : decode cL_law 2020 = .ok (.ireturn, 1) := by decide +kernel
theorem yf_X10_status : Cond.instanceMethod yX10_status ∈ jq_T ∧ Cond.selects (yX10_status).cls yX10_status yX10_status ∈ jq_T ∧ Cond.initialized (yX10_status).cls ∈ jq_T ∧ Cond.code yX10_status cX10_status 1 (some .int) ∈ jq_T ∧ ((yX10_status).cls ≠ "java/lang/invoke/MethodHandle" ∧ (yX10_status).cls ≠ "java/lang/invoke/VarHandle" ∧ (parseMethodDescriptor (yX10_status).desc).map (fun d => d.parameters.length) = some 0) := ⟨jq_in 578 (by decide +kernel) rfl, jq_in 579 (by decide +kernel) rfl, jq_in 138 (by decide +kernel) rfl, jq_in 580 (by decide +kernel) rfl, ⟨by decide, by decide, by decide +kernel⟩⟩
theorem yf_X11_status : Cond.instanceMethod yX11_status ∈ jq_T ∧ Cond.selects (yX11_status).cls yX11_status yX11_status ∈ jq_T ∧ Cond.initialized (yX11_status).cls ∈ jq_T ∧ Cond.code yX11_status cX11_status 1 (some .int) ∈ jq_T ∧ ((yX11_status).cls ≠ "java/lang/invoke/MethodHandle" ∧ (yX11_status).cls ≠ "java/lang/invoke/VarHandle" ∧ (parseMethodDescriptor (yX11_status).desc).map (fun d => d.parameters.length) = some 0) := ⟨jq_in 1675 (by decide +kernel) rfl, jq_in 1676 (by decide +kernel) rfl, jq_in 150 (by decide +kernel) rfl, jq_in 1677 (by decide +kernel) rfl, ⟨by decide, by decide, by decide +kernel⟩⟩
theorem yf_X10_top : Cond.instanceMethod yX10_top ∈ jq_T ∧ Cond.selects (yX10_top).cls yX10_top yX10_top ∈ jq_T ∧ Cond.initialized (yX10_top).cls ∈ jq_T ∧ Cond.code yX10_top cX10_top 1 (some .long) ∈ jq_T ∧ ((yX10_top).cls ≠ "java/lang/invoke/MethodHandle" ∧ (yX10_top).cls ≠ "java/lang/invoke/VarHandle" ∧ (parseMethodDescriptor (yX10_top).desc).map (fun d => d.parameters.length) = some 0) := ⟨jq_in 582 (by decide +kernel) rfl, jq_in 583 (by decide +kernel) rfl, jq_in 138 (by decide +kernel) rfl, jq_in 584 (by decide +kernel) rfl, ⟨by decide, by decide, by decide +kernel⟩⟩
theorem yf_X11_top : Cond.instanceMethod yX11_top ∈ jq_T ∧ Cond.selects (yX11_top).cls yX11_top yX11_top ∈ jq_T ∧ Cond.initialized (yX11_top).cls ∈ jq_T ∧ Cond.code yX11_top cX11_top 1 (some .long) ∈ jq_T ∧ ((yX11_top).cls ≠ "java/lang/invoke/MethodHandle" ∧ (yX11_top).cls ≠ "java/lang/invoke/VarHandle" ∧ (parseMethodDescriptor (yX11_top).desc).map (fun d => d.parameters.length) = some 0) := ⟨jq_in 1679 (by decide +kernel) rfl, jq_in 1680 (by decide +kernel) rfl, jq_in 150 (by decide +kernel) rfl, jq_in 1681 (by decide +kernel) rfl, ⟨by decide, by decide, by decide +kernel⟩⟩
theorem yf_X10_bottom : Cond.instanceMethod yX10_bottom ∈ jq_T ∧ Cond.selects (yX10_bottom).cls yX10_bottom yX10_bottom ∈ jq_T ∧ Cond.initialized (yX10_bottom).cls ∈ jq_T ∧ Cond.code yX10_bottom cX10_bottom 1 (some .long) ∈ jq_T ∧ ((yX10_bottom).cls ≠ "java/lang/invoke/MethodHandle" ∧ (yX10_bottom).cls ≠ "java/lang/invoke/VarHandle" ∧ (parseMethodDescriptor (yX10_bottom).desc).map (fun d => d.parameters.length) = some 0) := ⟨jq_in 586 (by decide +kernel) rfl, jq_in 587 (by decide +kernel) rfl, jq_in 138 (by decide +kernel) rfl, jq_in 588 (by decide +kernel) rfl, ⟨by decide, by decide, by decide +kernel⟩⟩
theorem yf_X11_bottom : Cond.instanceMethod yX11_bottom ∈ jq_T ∧ Cond.selects (yX11_bottom).cls yX11_bottom yX11_bottom ∈ jq_T ∧ Cond.initialized (yX11_bottom).cls ∈ jq_T ∧ Cond.code yX11_bottom cX11_bottom 1 (some .long) ∈ jq_T ∧ ((yX11_bottom).cls ≠ "java/lang/invoke/MethodHandle" ∧ (yX11_bottom).cls ≠ "java/lang/invoke/VarHandle" ∧ (parseMethodDescriptor (yX11_bottom).desc).map (fun d => d.parameters.length) = some 0) := ⟨jq_in 1683 (by decide +kernel) rfl, jq_in 1684 (by decide +kernel) rfl, jq_in 150 (by decide +kernel) rfl, jq_in 1685 (by decide +kernel) rfl, ⟨by decide, by decide, by decide +kernel⟩⟩
theorem yf_X10_tray : Cond.instanceMethod yX10_tray ∈ jq_T ∧ Cond.selects (yX10_tray).cls yX10_tray yX10_tray ∈ jq_T ∧ Cond.initialized (yX10_tray).cls ∈ jq_T ∧ Cond.code yX10_tray cX10_tray 5 (some .boolean) ∈ jq_T ∧ ((yX10_tray).cls ≠ "java/lang/invoke/MethodHandle" ∧ (yX10_tray).cls ≠ "java/lang/invoke/VarHandle" ∧ (parseMethodDescriptor (yX10_tray).desc).map (fun d => d.parameters.length) = some 3) := ⟨jq_in 590 (by decide +kernel) rfl, jq_in 591 (by decide +kernel) rfl, jq_in 138 (by decide +kernel) rfl, jq_in 592 (by decide +kernel) rfl, ⟨by decide, by decide, by decide +kernel⟩⟩
theorem yf_X11_tray : Cond.instanceMethod yX11_tray ∈ jq_T ∧ Cond.selects (yX11_tray).cls yX11_tray yX11_tray ∈ jq_T ∧ Cond.initialized (yX11_tray).cls ∈ jq_T ∧ Cond.code yX11_tray cX11_tray 5 (some .boolean) ∈ jq_T ∧ ((yX11_tray).cls ≠ "java/lang/invoke/MethodHandle" ∧ (yX11_tray).cls ≠ "java/lang/invoke/VarHandle" ∧ (parseMethodDescriptor (yX11_tray).desc).map (fun d => d.parameters.length) = some 3) := ⟨jq_in 1687 (by decide +kernel) rfl, jq_in 1688 (by decide +kernel) rfl, jq_in 150 (by decide +kernel) rfl, jq_in 1689 (by decide +kernel) rfl, ⟨by decide, by decide, by decide +kernel⟩⟩
theorem yf_X10_write : Cond.instanceMethod yX10_write ∈ jq_T ∧ Cond.selects (yX10_write).cls yX10_write yX10_write ∈ jq_T ∧ Cond.initialized (yX10_write).cls ∈ jq_T ∧ Cond.code yX10_write cX10_write 7 (some .boolean) ∈ jq_T ∧ ((yX10_write).cls ≠ "java/lang/invoke/MethodHandle" ∧ (yX10_write).cls ≠ "java/lang/invoke/VarHandle" ∧ (parseMethodDescriptor (yX10_write).desc).map (fun d => d.parameters.length) = some 3) := ⟨jq_in 613 (by decide +kernel) rfl, jq_in 614 (by decide +kernel) rfl, jq_in 138 (by decide +kernel) rfl, jq_in 615 (by decide +kernel) rfl, ⟨by decide, by decide, by decide +kernel⟩⟩
theorem yf_X11_write : Cond.instanceMethod yX11_write ∈ jq_T ∧ Cond.selects (yX11_write).cls yX11_write yX11_write ∈ jq_T ∧ Cond.initialized (yX11_write).cls ∈ jq_T ∧ Cond.code yX11_write cX11_write 6 (some .boolean) ∈ jq_T ∧ ((yX11_write).cls ≠ "java/lang/invoke/MethodHandle" ∧ (yX11_write).cls ≠ "java/lang/invoke/VarHandle" ∧ (parseMethodDescriptor (yX11_write).desc).map (fun d => d.parameters.length) = some 3) := ⟨jq_in 1698 (by decide +kernel) rfl, jq_in 1699 (by decide +kernel) rfl, jq_in 150 (by decide +kernel) rfl, jq_in 1700 (by decide +kernel) rfl, ⟨by decide, by decide, by decide +kernel⟩⟩
theorem yf_X10_read : Cond.instanceMethod yX10_read ∈ jq_T ∧ Cond.selects (yX10_read).cls yX10_read yX10_read ∈ jq_T ∧ Cond.initialized (yX10_read).cls ∈ jq_T ∧ Cond.code yX10_read cX10_read 5 (some .long) ∈ jq_T ∧ ((yX10_read).cls ≠ "java/lang/invoke/MethodHandle" ∧ (yX10_read).cls ≠ "java/lang/invoke/VarHandle" ∧ (parseMethodDescriptor (yX10_read).desc).map (fun d => d.parameters.length) = some 2) := ⟨jq_in 637 (by decide +kernel) rfl, jq_in 638 (by decide +kernel) rfl, jq_in 138 (by decide +kernel) rfl, jq_in 639 (by decide +kernel) rfl, ⟨by decide, by decide, by decide +kernel⟩⟩
theorem yf_X11_read : Cond.instanceMethod yX11_read ∈ jq_T ∧ Cond.selects (yX11_read).cls yX11_read yX11_read ∈ jq_T ∧ Cond.initialized (yX11_read).cls ∈ jq_T ∧ Cond.code yX11_read cX11_read 3 (some .long) ∈ jq_T ∧ ((yX11_read).cls ≠ "java/lang/invoke/MethodHandle" ∧ (yX11_read).cls ≠ "java/lang/invoke/VarHandle" ∧ (parseMethodDescriptor (yX11_read).desc).map (fun d => d.parameters.length) = some 2) := ⟨jq_in 1709 (by decide +kernel) rfl, jq_in 1710 (by decide +kernel) rfl, jq_in 150 (by decide +kernel) rfl, jq_in 1711 (by decide +kernel) rfl, ⟨by decide, by decide, by decide +kernel⟩⟩
theorem yf_X10_pour : Cond.instanceMethod yX10_pour ∈ jq_T ∧ Cond.selects (yX10_pour).cls yX10_pour yX10_pour ∈ jq_T ∧ Cond.initialized (yX10_pour).cls ∈ jq_T ∧ Cond.code yX10_pour cX10_pour 8 (some .boolean) ∈ jq_T ∧ ((yX10_pour).cls ≠ "java/lang/invoke/MethodHandle" ∧ (yX10_pour).cls ≠ "java/lang/invoke/VarHandle" ∧ (parseMethodDescriptor (yX10_pour).desc).map (fun d => d.parameters.length) = some 5) := ⟨jq_in 649 (by decide +kernel) rfl, jq_in 650 (by decide +kernel) rfl, jq_in 138 (by decide +kernel) rfl, jq_in 651 (by decide +kernel) rfl, ⟨by decide, by decide, by decide +kernel⟩⟩
theorem yf_X11_pour : Cond.instanceMethod yX11_pour ∈ jq_T ∧ Cond.selects (yX11_pour).cls yX11_pour yX11_pour ∈ jq_T ∧ Cond.initialized (yX11_pour).cls ∈ jq_T ∧ Cond.code yX11_pour cX11_pour 8 (some .boolean) ∈ jq_T ∧ ((yX11_pour).cls ≠ "java/lang/invoke/MethodHandle" ∧ (yX11_pour).cls ≠ "java/lang/invoke/VarHandle" ∧ (parseMethodDescriptor (yX11_pour).desc).map (fun d => d.parameters.length) = some 5) := ⟨jq_in 1714 (by decide +kernel) rfl, jq_in 1715 (by decide +kernel) rfl, jq_in 150 (by decide +kernel) rfl, jq_in 1716 (by decide +kernel) rfl, ⟨by decide, by decide, by decide +kernel⟩⟩
theorem yf_X10_feed : Cond.instanceMethod yX10_feed ∈ jq_T ∧ Cond.selects (yX10_feed).cls yX10_feed yX10_feed ∈ jq_T ∧ Cond.initialized (yX10_feed).cls ∈ jq_T ∧ Cond.code yX10_feed cX10_feed 6 (some .int) ∈ jq_T ∧ ((yX10_feed).cls ≠ "java/lang/invoke/MethodHandle" ∧ (yX10_feed).cls ≠ "java/lang/invoke/VarHandle" ∧ (parseMethodDescriptor (yX10_feed).desc).map (fun d => d.parameters.length) = some 5) := ⟨jq_in 656 (by decide +kernel) rfl, jq_in 657 (by decide +kernel) rfl, jq_in 138 (by decide +kernel) rfl, jq_in 658 (by decide +kernel) rfl, ⟨by decide, by decide, by decide +kernel⟩⟩
theorem yf_X11_feed : Cond.instanceMethod yX11_feed ∈ jq_T ∧ Cond.selects (yX11_feed).cls yX11_feed yX11_feed ∈ jq_T ∧ Cond.initialized (yX11_feed).cls ∈ jq_T ∧ Cond.code yX11_feed cX11_feed 6 (some .int) ∈ jq_T ∧ ((yX11_feed).cls ≠ "java/lang/invoke/MethodHandle" ∧ (yX11_feed).cls ≠ "java/lang/invoke/VarHandle" ∧ (parseMethodDescriptor (yX11_feed).desc).map (fun d => d.parameters.length) = some 5) := ⟨jq_in 1718 (by decide +kernel) rfl, jq_in 1719 (by decide +kernel) rfl, jq_in 150 (by decide +kernel) rfl, jq_in 1720 (by decide +kernel) rfl, ⟨by decide, by decide, by decide +kernel⟩⟩
theorem yf_X10_committee : Cond.instanceMethod yX10_committee ∈ jq_T ∧ Cond.selects (yX10_committee).cls yX10_committee yX10_committee ∈ jq_T ∧ Cond.initialized (yX10_committee).cls ∈ jq_T ∧ Cond.code yX10_committee cX10_committee 3 (some .int) ∈ jq_T ∧ ((yX10_committee).cls ≠ "java/lang/invoke/MethodHandle" ∧ (yX10_committee).cls ≠ "java/lang/invoke/VarHandle" ∧ (parseMethodDescriptor (yX10_committee).desc).map (fun d => d.parameters.length) = some 1) := ⟨jq_in 664 (by decide +kernel) rfl, jq_in 665 (by decide +kernel) rfl, jq_in 138 (by decide +kernel) rfl, jq_in 666 (by decide +kernel) rfl, ⟨by decide, by decide, by decide +kernel⟩⟩
theorem yf_X11_committee : Cond.instanceMethod yX11_committee ∈ jq_T ∧ Cond.selects (yX11_committee).cls yX11_committee yX11_committee ∈ jq_T ∧ Cond.initialized (yX11_committee).cls ∈ jq_T ∧ Cond.code yX11_committee cX11_committee 4 (some .int) ∈ jq_T ∧ ((yX11_committee).cls ≠ "java/lang/invoke/MethodHandle" ∧ (yX11_committee).cls ≠ "java/lang/invoke/VarHandle" ∧ (parseMethodDescriptor (yX11_committee).desc).map (fun d => d.parameters.length) = some 1) := ⟨jq_in 1730 (by decide +kernel) rfl, jq_in 1731 (by decide +kernel) rfl, jq_in 150 (by decide +kernel) rfl, jq_in 1732 (by decide +kernel) rfl, ⟨by decide, by decide, by decide +kernel⟩⟩
theorem yf_X10_sessions : Cond.instanceMethod yX10_sessions ∈ jq_T ∧ Cond.selects (yX10_sessions).cls yX10_sessions yX10_sessions ∈ jq_T ∧ Cond.initialized (yX10_sessions).cls ∈ jq_T ∧ Cond.code yX10_sessions cX10_sessions 2 (some .int) ∈ jq_T ∧ ((yX10_sessions).cls ≠ "java/lang/invoke/MethodHandle" ∧ (yX10_sessions).cls ≠ "java/lang/invoke/VarHandle" ∧ (parseMethodDescriptor (yX10_sessions).desc).map (fun d => d.parameters.length) = some 1) := ⟨jq_in 824 (by decide +kernel) rfl, jq_in 825 (by decide +kernel) rfl, jq_in 138 (by decide +kernel) rfl, jq_in 826 (by decide +kernel) rfl, ⟨by decide, by decide, by decide +kernel⟩⟩
theorem yf_X11_sessions : Cond.instanceMethod yX11_sessions ∈ jq_T ∧ Cond.selects (yX11_sessions).cls yX11_sessions yX11_sessions ∈ jq_T ∧ Cond.initialized (yX11_sessions).cls ∈ jq_T ∧ Cond.code yX11_sessions cX11_sessions 4 (some .int) ∈ jq_T ∧ ((yX11_sessions).cls ≠ "java/lang/invoke/MethodHandle" ∧ (yX11_sessions).cls ≠ "java/lang/invoke/VarHandle" ∧ (parseMethodDescriptor (yX11_sessions).desc).map (fun d => d.parameters.length) = some 1) := ⟨jq_in 1833 (by decide +kernel) rfl, jq_in 1834 (by decide +kernel) rfl, jq_in 150 (by decide +kernel) rfl, jq_in 1835 (by decide +kernel) rfl, ⟨by decide, by decide, by decide +kernel⟩⟩
theorem yf_X10_fault : Cond.instanceMethod yX10_fault ∈ jq_T ∧ Cond.selects (yX10_fault).cls yX10_fault yX10_fault ∈ jq_T ∧ Cond.initialized (yX10_fault).cls ∈ jq_T ∧ Cond.code yX10_fault cX10_fault 2 (some .int) ∈ jq_T ∧ ((yX10_fault).cls ≠ "java/lang/invoke/MethodHandle" ∧ (yX10_fault).cls ≠ "java/lang/invoke/VarHandle" ∧ (parseMethodDescriptor (yX10_fault).desc).map (fun d => d.parameters.length) = some 1) := ⟨jq_in 907 (by decide +kernel) rfl, jq_in 908 (by decide +kernel) rfl, jq_in 138 (by decide +kernel) rfl, jq_in 909 (by decide +kernel) rfl, ⟨by decide, by decide, by decide +kernel⟩⟩
theorem yf_X11_fault : Cond.instanceMethod yX11_fault ∈ jq_T ∧ Cond.selects (yX11_fault).cls yX11_fault yX11_fault ∈ jq_T ∧ Cond.initialized (yX11_fault).cls ∈ jq_T ∧ Cond.code yX11_fault cX11_fault 2 (some .int) ∈ jq_T ∧ ((yX11_fault).cls ≠ "java/lang/invoke/MethodHandle" ∧ (yX11_fault).cls ≠ "java/lang/invoke/VarHandle" ∧ (parseMethodDescriptor (yX11_fault).desc).map (fun d => d.parameters.length) = some 1) := ⟨jq_in 1726 (by decide +kernel) rfl, jq_in 1727 (by decide +kernel) rfl, jq_in 150 (by decide +kernel) rfl, jq_in 1728 (by decide +kernel) rfl, ⟨by decide, by decide, by decide +kernel⟩⟩
theorem yf_X10_told : Cond.instanceMethod yX10_told ∈ jq_T ∧ Cond.selects (yX10_told).cls yX10_told yX10_told ∈ jq_T ∧ Cond.initialized (yX10_told).cls ∈ jq_T ∧ Cond.code yX10_told cX10_told 2 (some .int) ∈ jq_T ∧ ((yX10_told).cls ≠ "java/lang/invoke/MethodHandle" ∧ (yX10_told).cls ≠ "java/lang/invoke/VarHandle" ∧ (parseMethodDescriptor (yX10_told).desc).map (fun d => d.parameters.length) = some 1) := ⟨jq_in 911 (by decide +kernel) rfl, jq_in 912 (by decide +kernel) rfl, jq_in 138 (by decide +kernel) rfl, jq_in 913 (by decide +kernel) rfl, ⟨by decide, by decide, by decide +kernel⟩⟩
theorem yf_X11_told : Cond.instanceMethod yX11_told ∈ jq_T ∧ Cond.selects (yX11_told).cls yX11_told yX11_told ∈ jq_T ∧ Cond.initialized (yX11_told).cls ∈ jq_T ∧ Cond.code yX11_told cX11_told 2 (some .int) ∈ jq_T ∧ ((yX11_told).cls ≠ "java/lang/invoke/MethodHandle" ∧ (yX11_told).cls ≠ "java/lang/invoke/VarHandle" ∧ (parseMethodDescriptor (yX11_told).desc).map (fun d => d.parameters.length) = some 1) := ⟨jq_in 1861 (by decide +kernel) rfl, jq_in 1862 (by decide +kernel) rfl, jq_in 150 (by decide +kernel) rfl, jq_in 1863 (by decide +kernel) rfl, ⟨by decide, by decide, by decide +kernel⟩⟩
theorem yf_X10_who : Cond.instanceMethod yX10_who ∈ jq_T ∧ Cond.selects (yX10_who).cls yX10_who yX10_who ∈ jq_T ∧ Cond.initialized (yX10_who).cls ∈ jq_T ∧ Cond.code yX10_who cX10_who 2 (some .int) ∈ jq_T ∧ ((yX10_who).cls ≠ "java/lang/invoke/MethodHandle" ∧ (yX10_who).cls ≠ "java/lang/invoke/VarHandle" ∧ (parseMethodDescriptor (yX10_who).desc).map (fun d => d.parameters.length) = some 1) := ⟨jq_in 962 (by decide +kernel) rfl, jq_in 963 (by decide +kernel) rfl, jq_in 138 (by decide +kernel) rfl, jq_in 964 (by decide +kernel) rfl, ⟨by decide, by decide, by decide +kernel⟩⟩
theorem yf_X11_who : Cond.instanceMethod yX11_who ∈ jq_T ∧ Cond.selects (yX11_who).cls yX11_who yX11_who ∈ jq_T ∧ Cond.initialized (yX11_who).cls ∈ jq_T ∧ Cond.code yX11_who cX11_who 2 (some .int) ∈ jq_T ∧ ((yX11_who).cls ≠ "java/lang/invoke/MethodHandle" ∧ (yX11_who).cls ≠ "java/lang/invoke/VarHandle" ∧ (parseMethodDescriptor (yX11_who).desc).map (fun d => d.parameters.length) = some 1) := ⟨jq_in 1935 (by decide +kernel) rfl, jq_in 1936 (by decide +kernel) rfl, jq_in 150 (by decide +kernel) rfl, jq_in 1937 (by decide +kernel) rfl, ⟨by decide, by decide, by decide +kernel⟩⟩
theorem yf_X10_placeOf : Cond.instanceMethod yX10_placeOf ∈ jq_T ∧ Cond.selects (yX10_placeOf).cls yX10_placeOf yX10_placeOf ∈ jq_T ∧ Cond.initialized (yX10_placeOf).cls ∈ jq_T ∧ Cond.code yX10_placeOf cX10_placeOf 2 (some .int) ∈ jq_T ∧ ((yX10_placeOf).cls ≠ "java/lang/invoke/MethodHandle" ∧ (yX10_placeOf).cls ≠ "java/lang/invoke/VarHandle" ∧ (parseMethodDescriptor (yX10_placeOf).desc).map (fun d => d.parameters.length) = some 1) := ⟨jq_in 975 (by decide +kernel) rfl, jq_in 976 (by decide +kernel) rfl, jq_in 138 (by decide +kernel) rfl, jq_in 977 (by decide +kernel) rfl, ⟨by decide, by decide, by decide +kernel⟩⟩
theorem yf_X11_placeOf : Cond.instanceMethod yX11_placeOf ∈ jq_T ∧ Cond.selects (yX11_placeOf).cls yX11_placeOf yX11_placeOf ∈ jq_T ∧ Cond.initialized (yX11_placeOf).cls ∈ jq_T ∧ Cond.code yX11_placeOf cX11_placeOf 2 (some .int) ∈ jq_T ∧ ((yX11_placeOf).cls ≠ "java/lang/invoke/MethodHandle" ∧ (yX11_placeOf).cls ≠ "java/lang/invoke/VarHandle" ∧ (parseMethodDescriptor (yX11_placeOf).desc).map (fun d => d.parameters.length) = some 1) := ⟨jq_in 1951 (by decide +kernel) rfl, jq_in 1952 (by decide +kernel) rfl, jq_in 150 (by decide +kernel) rfl, jq_in 1953 (by decide +kernel) rfl, ⟨by decide, by decide, by decide +kernel⟩⟩
theorem yf_X10_least : Cond.instanceMethod yX10_least ∈ jq_T ∧ Cond.selects (yX10_least).cls yX10_least yX10_least ∈ jq_T ∧ Cond.initialized (yX10_least).cls ∈ jq_T ∧ Cond.code yX10_least cX10_least 2 (some .int) ∈ jq_T ∧ ((yX10_least).cls ≠ "java/lang/invoke/MethodHandle" ∧ (yX10_least).cls ≠ "java/lang/invoke/VarHandle" ∧ (parseMethodDescriptor (yX10_least).desc).map (fun d => d.parameters.length) = some 1) := ⟨jq_in 980 (by decide +kernel) rfl, jq_in 981 (by decide +kernel) rfl, jq_in 138 (by decide +kernel) rfl, jq_in 982 (by decide +kernel) rfl, ⟨by decide, by decide, by decide +kernel⟩⟩
theorem yf_X11_least : Cond.instanceMethod yX11_least ∈ jq_T ∧ Cond.selects (yX11_least).cls yX11_least yX11_least ∈ jq_T ∧ Cond.initialized (yX11_least).cls ∈ jq_T ∧ Cond.code yX11_least cX11_least 2 (some .int) ∈ jq_T ∧ ((yX11_least).cls ≠ "java/lang/invoke/MethodHandle" ∧ (yX11_least).cls ≠ "java/lang/invoke/VarHandle" ∧ (parseMethodDescriptor (yX11_least).desc).map (fun d => d.parameters.length) = some 1) := ⟨jq_in 1959 (by decide +kernel) rfl, jq_in 1960 (by decide +kernel) rfl, jq_in 150 (by decide +kernel) rfl, jq_in 1961 (by decide +kernel) rfl, ⟨by decide, by decide, by decide +kernel⟩⟩
theorem yf_X10_wish : Cond.instanceMethod yX10_wish ∈ jq_T ∧ Cond.selects (yX10_wish).cls yX10_wish yX10_wish ∈ jq_T ∧ Cond.initialized (yX10_wish).cls ∈ jq_T ∧ Cond.code yX10_wish cX10_wish 3 (some .int) ∈ jq_T ∧ ((yX10_wish).cls ≠ "java/lang/invoke/MethodHandle" ∧ (yX10_wish).cls ≠ "java/lang/invoke/VarHandle" ∧ (parseMethodDescriptor (yX10_wish).desc).map (fun d => d.parameters.length) = some 2) := ⟨jq_in 984 (by decide +kernel) rfl, jq_in 985 (by decide +kernel) rfl, jq_in 138 (by decide +kernel) rfl, jq_in 986 (by decide +kernel) rfl, ⟨by decide, by decide, by decide +kernel⟩⟩
theorem yf_X11_wish : Cond.instanceMethod yX11_wish ∈ jq_T ∧ Cond.selects (yX11_wish).cls yX11_wish yX11_wish ∈ jq_T ∧ Cond.initialized (yX11_wish).cls ∈ jq_T ∧ Cond.code yX11_wish cX11_wish 3 (some .int) ∈ jq_T ∧ ((yX11_wish).cls ≠ "java/lang/invoke/MethodHandle" ∧ (yX11_wish).cls ≠ "java/lang/invoke/VarHandle" ∧ (parseMethodDescriptor (yX11_wish).desc).map (fun d => d.parameters.length) = some 2) := ⟨jq_in 1963 (by decide +kernel) rfl, jq_in 1964 (by decide +kernel) rfl, jq_in 150 (by decide +kernel) rfl, jq_in 1965 (by decide +kernel) rfl, ⟨by decide, by decide, by decide +kernel⟩⟩
theorem yf_X10_article : Cond.instanceMethod yX10_article ∈ jq_T ∧ Cond.selects (yX10_article).cls yX10_article yX10_article ∈ jq_T ∧ Cond.initialized (yX10_article).cls ∈ jq_T ∧ Cond.code yX10_article cX10_article 3 (some .int) ∈ jq_T ∧ ((yX10_article).cls ≠ "java/lang/invoke/MethodHandle" ∧ (yX10_article).cls ≠ "java/lang/invoke/VarHandle" ∧ (parseMethodDescriptor (yX10_article).desc).map (fun d => d.parameters.length) = some 2) := ⟨jq_in 989 (by decide +kernel) rfl, jq_in 990 (by decide +kernel) rfl, jq_in 138 (by decide +kernel) rfl, jq_in 991 (by decide +kernel) rfl, ⟨by decide, by decide, by decide +kernel⟩⟩
theorem yf_X11_article : Cond.instanceMethod yX11_article ∈ jq_T ∧ Cond.selects (yX11_article).cls yX11_article yX11_article ∈ jq_T ∧ Cond.initialized (yX11_article).cls ∈ jq_T ∧ Cond.code yX11_article cX11_article 3 (some .int) ∈ jq_T ∧ ((yX11_article).cls ≠ "java/lang/invoke/MethodHandle" ∧ (yX11_article).cls ≠ "java/lang/invoke/VarHandle" ∧ (parseMethodDescriptor (yX11_article).desc).map (fun d => d.parameters.length) = some 2) := ⟨jq_in 1967 (by decide +kernel) rfl, jq_in 1968 (by decide +kernel) rfl, jq_in 150 (by decide +kernel) rfl, jq_in 1969 (by decide +kernel) rfl, ⟨by decide, by decide, by decide +kernel⟩⟩
theorem yf_X10_beside : Cond.instanceMethod yX10_beside ∈ jq_T ∧ Cond.selects (yX10_beside).cls yX10_beside yX10_beside ∈ jq_T ∧ Cond.initialized (yX10_beside).cls ∈ jq_T ∧ Cond.code yX10_beside cX10_beside 3 (some .int) ∈ jq_T ∧ ((yX10_beside).cls ≠ "java/lang/invoke/MethodHandle" ∧ (yX10_beside).cls ≠ "java/lang/invoke/VarHandle" ∧ (parseMethodDescriptor (yX10_beside).desc).map (fun d => d.parameters.length) = some 2) := ⟨jq_in 1004 (by decide +kernel) rfl, jq_in 1005 (by decide +kernel) rfl, jq_in 138 (by decide +kernel) rfl, jq_in 1006 (by decide +kernel) rfl, ⟨by decide, by decide, by decide +kernel⟩⟩
theorem yf_X11_beside : Cond.instanceMethod yX11_beside ∈ jq_T ∧ Cond.selects (yX11_beside).cls yX11_beside yX11_beside ∈ jq_T ∧ Cond.initialized (yX11_beside).cls ∈ jq_T ∧ Cond.code yX11_beside cX11_beside 3 (some .int) ∈ jq_T ∧ ((yX11_beside).cls ≠ "java/lang/invoke/MethodHandle" ∧ (yX11_beside).cls ≠ "java/lang/invoke/VarHandle" ∧ (parseMethodDescriptor (yX11_beside).desc).map (fun d => d.parameters.length) = some 2) := ⟨jq_in 1975 (by decide +kernel) rfl, jq_in 1976 (by decide +kernel) rfl, jq_in 150 (by decide +kernel) rfl, jq_in 1977 (by decide +kernel) rfl, ⟨by decide, by decide, by decide +kernel⟩⟩
theorem yf_X10_facing : Cond.instanceMethod yX10_facing ∈ jq_T ∧ Cond.selects (yX10_facing).cls yX10_facing yX10_facing ∈ jq_T ∧ Cond.initialized (yX10_facing).cls ∈ jq_T ∧ Cond.code yX10_facing cX10_facing 3 (some .int) ∈ jq_T ∧ ((yX10_facing).cls ≠ "java/lang/invoke/MethodHandle" ∧ (yX10_facing).cls ≠ "java/lang/invoke/VarHandle" ∧ (parseMethodDescriptor (yX10_facing).desc).map (fun d => d.parameters.length) = some 2) := ⟨jq_in 1013 (by decide +kernel) rfl, jq_in 1014 (by decide +kernel) rfl, jq_in 138 (by decide +kernel) rfl, jq_in 1015 (by decide +kernel) rfl, ⟨by decide, by decide, by decide +kernel⟩⟩
theorem yf_X11_facing : Cond.instanceMethod yX11_facing ∈ jq_T ∧ Cond.selects (yX11_facing).cls yX11_facing yX11_facing ∈ jq_T ∧ Cond.initialized (yX11_facing).cls ∈ jq_T ∧ Cond.code yX11_facing cX11_facing 3 (some .int) ∈ jq_T ∧ ((yX11_facing).cls ≠ "java/lang/invoke/MethodHandle" ∧ (yX11_facing).cls ≠ "java/lang/invoke/VarHandle" ∧ (parseMethodDescriptor (yX11_facing).desc).map (fun d => d.parameters.length) = some 2) := ⟨jq_in 1987 (by decide +kernel) rfl, jq_in 1988 (by decide +kernel) rfl, jq_in 150 (by decide +kernel) rfl, jq_in 1989 (by decide +kernel) rfl, ⟨by decide, by decide, by decide +kernel⟩⟩
theorem yf_X10_worth : Cond.instanceMethod yX10_worth ∈ jq_T ∧ Cond.selects (yX10_worth).cls yX10_worth yX10_worth ∈ jq_T ∧ Cond.initialized (yX10_worth).cls ∈ jq_T ∧ Cond.code yX10_worth cX10_worth 2 (some .int) ∈ jq_T ∧ ((yX10_worth).cls ≠ "java/lang/invoke/MethodHandle" ∧ (yX10_worth).cls ≠ "java/lang/invoke/VarHandle" ∧ (parseMethodDescriptor (yX10_worth).desc).map (fun d => d.parameters.length) = some 1) := ⟨jq_in 1018 (by decide +kernel) rfl, jq_in 1019 (by decide +kernel) rfl, jq_in 138 (by decide +kernel) rfl, jq_in 1020 (by decide +kernel) rfl, ⟨by decide, by decide, by decide +kernel⟩⟩
theorem yf_X11_worth : Cond.instanceMethod yX11_worth ∈ jq_T ∧ Cond.selects (yX11_worth).cls yX11_worth yX11_worth ∈ jq_T ∧ Cond.initialized (yX11_worth).cls ∈ jq_T ∧ Cond.code yX11_worth cX11_worth 2 (some .int) ∈ jq_T ∧ ((yX11_worth).cls ≠ "java/lang/invoke/MethodHandle" ∧ (yX11_worth).cls ≠ "java/lang/invoke/VarHandle" ∧ (parseMethodDescriptor (yX11_worth).desc).map (fun d => d.parameters.length) = some 1) := ⟨jq_in 1991 (by decide +kernel) rfl, jq_in 1992 (by decide +kernel) rfl, jq_in 150 (by decide +kernel) rfl, jq_in 1993 (by decide +kernel) rfl, ⟨by decide, by decide, by decide +kernel⟩⟩
theorem yf_X10_allWorth : Cond.instanceMethod yX10_allWorth ∈ jq_T ∧ Cond.selects (yX10_allWorth).cls yX10_allWorth yX10_allWorth ∈ jq_T ∧ Cond.initialized (yX10_allWorth).cls ∈ jq_T ∧ Cond.code yX10_allWorth cX10_allWorth 1 (some .int) ∈ jq_T ∧ ((yX10_allWorth).cls ≠ "java/lang/invoke/MethodHandle" ∧ (yX10_allWorth).cls ≠ "java/lang/invoke/VarHandle" ∧ (parseMethodDescriptor (yX10_allWorth).desc).map (fun d => d.parameters.length) = some 0) := ⟨jq_in 1026 (by decide +kernel) rfl, jq_in 1027 (by decide +kernel) rfl, jq_in 138 (by decide +kernel) rfl, jq_in 1028 (by decide +kernel) rfl, ⟨by decide, by decide, by decide +kernel⟩⟩
theorem yf_X11_allWorth : Cond.instanceMethod yX11_allWorth ∈ jq_T ∧ Cond.selects (yX11_allWorth).cls yX11_allWorth yX11_allWorth ∈ jq_T ∧ Cond.initialized (yX11_allWorth).cls ∈ jq_T ∧ Cond.code yX11_allWorth cX11_allWorth 1 (some .int) ∈ jq_T ∧ ((yX11_allWorth).cls ≠ "java/lang/invoke/MethodHandle" ∧ (yX11_allWorth).cls ≠ "java/lang/invoke/VarHandle" ∧ (parseMethodDescriptor (yX11_allWorth).desc).map (fun d => d.parameters.length) = some 0) := ⟨jq_in 1995 (by decide +kernel) rfl, jq_in 1996 (by decide +kernel) rfl, jq_in 150 (by decide +kernel) rfl, jq_in 1997 (by decide +kernel) rfl, ⟨by decide, by decide, by decide +kernel⟩⟩
theorem yf_X10_signs : Cond.instanceMethod yX10_signs ∈ jq_T ∧ Cond.selects (yX10_signs).cls yX10_signs yX10_signs ∈ jq_T ∧ Cond.initialized (yX10_signs).cls ∈ jq_T ∧ Cond.code yX10_signs cX10_signs 2 (some .int) ∈ jq_T ∧ ((yX10_signs).cls ≠ "java/lang/invoke/MethodHandle" ∧ (yX10_signs).cls ≠ "java/lang/invoke/VarHandle" ∧ (parseMethodDescriptor (yX10_signs).desc).map (fun d => d.parameters.length) = some 1) := ⟨jq_in 1034 (by decide +kernel) rfl, jq_in 1035 (by decide +kernel) rfl, jq_in 138 (by decide +kernel) rfl, jq_in 1036 (by decide +kernel) rfl, ⟨by decide, by decide, by decide +kernel⟩⟩
theorem yf_X11_signs : Cond.instanceMethod yX11_signs ∈ jq_T ∧ Cond.selects (yX11_signs).cls yX11_signs yX11_signs ∈ jq_T ∧ Cond.initialized (yX11_signs).cls ∈ jq_T ∧ Cond.code yX11_signs cX11_signs 2 (some .int) ∈ jq_T ∧ ((yX11_signs).cls ≠ "java/lang/invoke/MethodHandle" ∧ (yX11_signs).cls ≠ "java/lang/invoke/VarHandle" ∧ (parseMethodDescriptor (yX11_signs).desc).map (fun d => d.parameters.length) = some 1) := ⟨jq_in 2003 (by decide +kernel) rfl, jq_in 2004 (by decide +kernel) rfl, jq_in 150 (by decide +kernel) rfl, jq_in 2005 (by decide +kernel) rfl, ⟨by decide, by decide, by decide +kernel⟩⟩
theorem yf_X10_dearest : Cond.instanceMethod yX10_dearest ∈ jq_T ∧ Cond.selects (yX10_dearest).cls yX10_dearest yX10_dearest ∈ jq_T ∧ Cond.initialized (yX10_dearest).cls ∈ jq_T ∧ Cond.code yX10_dearest cX10_dearest 2 (some .int) ∈ jq_T ∧ ((yX10_dearest).cls ≠ "java/lang/invoke/MethodHandle" ∧ (yX10_dearest).cls ≠ "java/lang/invoke/VarHandle" ∧ (parseMethodDescriptor (yX10_dearest).desc).map (fun d => d.parameters.length) = some 1) := ⟨jq_in 1043 (by decide +kernel) rfl, jq_in 1044 (by decide +kernel) rfl, jq_in 138 (by decide +kernel) rfl, jq_in 1045 (by decide +kernel) rfl, ⟨by decide, by decide, by decide +kernel⟩⟩
theorem yf_X11_dearest : Cond.instanceMethod yX11_dearest ∈ jq_T ∧ Cond.selects (yX11_dearest).cls yX11_dearest yX11_dearest ∈ jq_T ∧ Cond.initialized (yX11_dearest).cls ∈ jq_T ∧ Cond.code yX11_dearest cX11_dearest 5 (some .int) ∈ jq_T ∧ ((yX11_dearest).cls ≠ "java/lang/invoke/MethodHandle" ∧ (yX11_dearest).cls ≠ "java/lang/invoke/VarHandle" ∧ (parseMethodDescriptor (yX11_dearest).desc).map (fun d => d.parameters.length) = some 1) := ⟨jq_in 2007 (by decide +kernel) rfl, jq_in 2008 (by decide +kernel) rfl, jq_in 150 (by decide +kernel) rfl, jq_in 2009 (by decide +kernel) rfl, ⟨by decide, by decide, by decide +kernel⟩⟩
theorem yf_X10_sit : Cond.instanceMethod yX10_sit ∈ jq_T ∧ Cond.selects (yX10_sit).cls yX10_sit yX10_sit ∈ jq_T ∧ Cond.initialized (yX10_sit).cls ∈ jq_T ∧ Cond.code yX10_sit cX10_sit 4 (some .int) ∈ jq_T ∧ ((yX10_sit).cls ≠ "java/lang/invoke/MethodHandle" ∧ (yX10_sit).cls ≠ "java/lang/invoke/VarHandle" ∧ (parseMethodDescriptor (yX10_sit).desc).map (fun d => d.parameters.length) = some 2) := ⟨jq_in 1051 (by decide +kernel) rfl, jq_in 1052 (by decide +kernel) rfl, jq_in 138 (by decide +kernel) rfl, jq_in 1053 (by decide +kernel) rfl, ⟨by decide, by decide, by decide +kernel⟩⟩
theorem yf_X11_sit : Cond.instanceMethod yX11_sit ∈ jq_T ∧ Cond.selects (yX11_sit).cls yX11_sit yX11_sit ∈ jq_T ∧ Cond.initialized (yX11_sit).cls ∈ jq_T ∧ Cond.code yX11_sit cX11_sit 4 (some .int) ∈ jq_T ∧ ((yX11_sit).cls ≠ "java/lang/invoke/MethodHandle" ∧ (yX11_sit).cls ≠ "java/lang/invoke/VarHandle" ∧ (parseMethodDescriptor (yX11_sit).desc).map (fun d => d.parameters.length) = some 2) := ⟨jq_in 2011 (by decide +kernel) rfl, jq_in 2012 (by decide +kernel) rfl, jq_in 150 (by decide +kernel) rfl, jq_in 2013 (by decide +kernel) rfl, ⟨by decide, by decide, by decide +kernel⟩⟩
theorem yf_X10_rise : Cond.instanceMethod yX10_rise ∈ jq_T ∧ Cond.selects (yX10_rise).cls yX10_rise yX10_rise ∈ jq_T ∧ Cond.initialized (yX10_rise).cls ∈ jq_T ∧ Cond.code yX10_rise cX10_rise 3 (some .int) ∈ jq_T ∧ ((yX10_rise).cls ≠ "java/lang/invoke/MethodHandle" ∧ (yX10_rise).cls ≠ "java/lang/invoke/VarHandle" ∧ (parseMethodDescriptor (yX10_rise).desc).map (fun d => d.parameters.length) = some 1) := ⟨jq_in 1061 (by decide +kernel) rfl, jq_in 1062 (by decide +kernel) rfl, jq_in 138 (by decide +kernel) rfl, jq_in 1063 (by decide +kernel) rfl, ⟨by decide, by decide, by decide +kernel⟩⟩
theorem yf_X11_rise : Cond.instanceMethod yX11_rise ∈ jq_T ∧ Cond.selects (yX11_rise).cls yX11_rise yX11_rise ∈ jq_T ∧ Cond.initialized (yX11_rise).cls ∈ jq_T ∧ Cond.code yX11_rise cX11_rise 3 (some .int) ∈ jq_T ∧ ((yX11_rise).cls ≠ "java/lang/invoke/MethodHandle" ∧ (yX11_rise).cls ≠ "java/lang/invoke/VarHandle" ∧ (parseMethodDescriptor (yX11_rise).desc).map (fun d => d.parameters.length) = some 1) := ⟨jq_in 2019 (by decide +kernel) rfl, jq_in 2020 (by decide +kernel) rfl, jq_in 150 (by decide +kernel) rfl, jq_in 2021 (by decide +kernel) rfl, ⟨by decide, by decide, by decide +kernel⟩⟩
theorem yf_X10_swap : Cond.instanceMethod yX10_swap ∈ jq_T ∧ Cond.selects (yX10_swap).cls yX10_swap yX10_swap ∈ jq_T ∧ Cond.initialized (yX10_swap).cls ∈ jq_T ∧ Cond.code yX10_swap cX10_swap 3 (some .boolean) ∈ jq_T ∧ ((yX10_swap).cls ≠ "java/lang/invoke/MethodHandle" ∧ (yX10_swap).cls ≠ "java/lang/invoke/VarHandle" ∧ (parseMethodDescriptor (yX10_swap).desc).map (fun d => d.parameters.length) = some 2) := ⟨jq_in 1069 (by decide +kernel) rfl, jq_in 1070 (by decide +kernel) rfl, jq_in 138 (by decide +kernel) rfl, jq_in 1071 (by decide +kernel) rfl, ⟨by decide, by decide, by decide +kernel⟩⟩
theorem yf_X11_swap : Cond.instanceMethod yX11_swap ∈ jq_T ∧ Cond.selects (yX11_swap).cls yX11_swap yX11_swap ∈ jq_T ∧ Cond.initialized (yX11_swap).cls ∈ jq_T ∧ Cond.code yX11_swap cX11_swap 3 (some .boolean) ∈ jq_T ∧ ((yX11_swap).cls ≠ "java/lang/invoke/MethodHandle" ∧ (yX11_swap).cls ≠ "java/lang/invoke/VarHandle" ∧ (parseMethodDescriptor (yX11_swap).desc).map (fun d => d.parameters.length) = some 2) := ⟨jq_in 2023 (by decide +kernel) rfl, jq_in 2024 (by decide +kernel) rfl, jq_in 150 (by decide +kernel) rfl, jq_in 2025 (by decide +kernel) rfl, ⟨by decide, by decide, by decide +kernel⟩⟩
theorem yf_X10_turn : Cond.instanceMethod yX10_turn ∈ jq_T ∧ Cond.selects (yX10_turn).cls yX10_turn yX10_turn ∈ jq_T ∧ Cond.initialized (yX10_turn).cls ∈ jq_T ∧ Cond.code yX10_turn cX10_turn 2 (some .int) ∈ jq_T ∧ ((yX10_turn).cls ≠ "java/lang/invoke/MethodHandle" ∧ (yX10_turn).cls ≠ "java/lang/invoke/VarHandle" ∧ (parseMethodDescriptor (yX10_turn).desc).map (fun d => d.parameters.length) = some 1) := ⟨jq_in 1077 (by decide +kernel) rfl, jq_in 1078 (by decide +kernel) rfl, jq_in 138 (by decide +kernel) rfl, jq_in 1079 (by decide +kernel) rfl, ⟨by decide, by decide, by decide +kernel⟩⟩
theorem yf_X11_turn : Cond.instanceMethod yX11_turn ∈ jq_T ∧ Cond.selects (yX11_turn).cls yX11_turn yX11_turn ∈ jq_T ∧ Cond.initialized (yX11_turn).cls ∈ jq_T ∧ Cond.code yX11_turn cX11_turn 2 (some .int) ∈ jq_T ∧ ((yX11_turn).cls ≠ "java/lang/invoke/MethodHandle" ∧ (yX11_turn).cls ≠ "java/lang/invoke/VarHandle" ∧ (parseMethodDescriptor (yX11_turn).desc).map (fun d => d.parameters.length) = some 1) := ⟨jq_in 2031 (by decide +kernel) rfl, jq_in 2032 (by decide +kernel) rfl, jq_in 150 (by decide +kernel) rfl, jq_in 2033 (by decide +kernel) rfl, ⟨by decide, by decide, by decide +kernel⟩⟩
theorem yf_X10_day : Cond.instanceMethod yX10_day ∈ jq_T ∧ Cond.selects (yX10_day).cls yX10_day yX10_day ∈ jq_T ∧ Cond.initialized (yX10_day).cls ∈ jq_T ∧ Cond.code yX10_day cX10_day 2 (some .int) ∈ jq_T ∧ ((yX10_day).cls ≠ "java/lang/invoke/MethodHandle" ∧ (yX10_day).cls ≠ "java/lang/invoke/VarHandle" ∧ (parseMethodDescriptor (yX10_day).desc).map (fun d => d.parameters.length) = some 1) := ⟨jq_in 1091 (by decide +kernel) rfl, jq_in 1092 (by decide +kernel) rfl, jq_in 138 (by decide +kernel) rfl, jq_in 1093 (by decide +kernel) rfl, ⟨by decide, by decide, by decide +kernel⟩⟩
theorem yf_X11_day : Cond.instanceMethod yX11_day ∈ jq_T ∧ Cond.selects (yX11_day).cls yX11_day yX11_day ∈ jq_T ∧ Cond.initialized (yX11_day).cls ∈ jq_T ∧ Cond.code yX11_day cX11_day 2 (some .int) ∈ jq_T ∧ ((yX11_day).cls ≠ "java/lang/invoke/MethodHandle" ∧ (yX11_day).cls ≠ "java/lang/invoke/VarHandle" ∧ (parseMethodDescriptor (yX11_day).desc).map (fun d => d.parameters.length) = some 1) := ⟨jq_in 2046 (by decide +kernel) rfl, jq_in 2047 (by decide +kernel) rfl, jq_in 150 (by decide +kernel) rfl, jq_in 2048 (by decide +kernel) rfl, ⟨by decide, by decide, by decide +kernel⟩⟩
theorem yf_X10_agree : Cond.instanceMethod yX10_agree ∈ jq_T ∧ Cond.selects (yX10_agree).cls yX10_agree yX10_agree ∈ jq_T ∧ Cond.initialized (yX10_agree).cls ∈ jq_T ∧ Cond.code yX10_agree cX10_agree 2 (some .int) ∈ jq_T ∧ ((yX10_agree).cls ≠ "java/lang/invoke/MethodHandle" ∧ (yX10_agree).cls ≠ "java/lang/invoke/VarHandle" ∧ (parseMethodDescriptor (yX10_agree).desc).map (fun d => d.parameters.length) = some 1) := ⟨jq_in 1107 (by decide +kernel) rfl, jq_in 1108 (by decide +kernel) rfl, jq_in 138 (by decide +kernel) rfl, jq_in 1109 (by decide +kernel) rfl, ⟨by decide, by decide, by decide +kernel⟩⟩
theorem yf_X11_agree : Cond.instanceMethod yX11_agree ∈ jq_T ∧ Cond.selects (yX11_agree).cls yX11_agree yX11_agree ∈ jq_T ∧ Cond.initialized (yX11_agree).cls ∈ jq_T ∧ Cond.code yX11_agree cX11_agree 2 (some .int) ∈ jq_T ∧ ((yX11_agree).cls ≠ "java/lang/invoke/MethodHandle" ∧ (yX11_agree).cls ≠ "java/lang/invoke/VarHandle" ∧ (parseMethodDescriptor (yX11_agree).desc).map (fun d => d.parameters.length) = some 1) := ⟨jq_in 2058 (by decide +kernel) rfl, jq_in 2059 (by decide +kernel) rfl, jq_in 150 (by decide +kernel) rfl, jq_in 2060 (by decide +kernel) rfl, ⟨by decide, by decide, by decide +kernel⟩⟩
theorem yf_X10_withdraw : Cond.instanceMethod yX10_withdraw ∈ jq_T ∧ Cond.selects (yX10_withdraw).cls yX10_withdraw yX10_withdraw ∈ jq_T ∧ Cond.initialized (yX10_withdraw).cls ∈ jq_T ∧ Cond.code yX10_withdraw cX10_withdraw 3 (some .int) ∈ jq_T ∧ ((yX10_withdraw).cls ≠ "java/lang/invoke/MethodHandle" ∧ (yX10_withdraw).cls ≠ "java/lang/invoke/VarHandle" ∧ (parseMethodDescriptor (yX10_withdraw).desc).map (fun d => d.parameters.length) = some 1) := ⟨jq_in 1115 (by decide +kernel) rfl, jq_in 1116 (by decide +kernel) rfl, jq_in 138 (by decide +kernel) rfl, jq_in 1117 (by decide +kernel) rfl, ⟨by decide, by decide, by decide +kernel⟩⟩
theorem yf_X11_withdraw : Cond.instanceMethod yX11_withdraw ∈ jq_T ∧ Cond.selects (yX11_withdraw).cls yX11_withdraw yX11_withdraw ∈ jq_T ∧ Cond.initialized (yX11_withdraw).cls ∈ jq_T ∧ Cond.code yX11_withdraw cX11_withdraw 2 (some .int) ∈ jq_T ∧ ((yX11_withdraw).cls ≠ "java/lang/invoke/MethodHandle" ∧ (yX11_withdraw).cls ≠ "java/lang/invoke/VarHandle" ∧ (parseMethodDescriptor (yX11_withdraw).desc).map (fun d => d.parameters.length) = some 1) := ⟨jq_in 2066 (by decide +kernel) rfl, jq_in 2067 (by decide +kernel) rfl, jq_in 150 (by decide +kernel) rfl, jq_in 2068 (by decide +kernel) rfl, ⟨by decide, by decide, by decide +kernel⟩⟩
theorem yf_X10_insist : Cond.instanceMethod yX10_insist ∈ jq_T ∧ Cond.selects (yX10_insist).cls yX10_insist yX10_insist ∈ jq_T ∧ Cond.initialized (yX10_insist).cls ∈ jq_T ∧ Cond.code yX10_insist cX10_insist 3 (some .boolean) ∈ jq_T ∧ ((yX10_insist).cls ≠ "java/lang/invoke/MethodHandle" ∧ (yX10_insist).cls ≠ "java/lang/invoke/VarHandle" ∧ (parseMethodDescriptor (yX10_insist).desc).map (fun d => d.parameters.length) = some 2) := ⟨jq_in 1129 (by decide +kernel) rfl, jq_in 1130 (by decide +kernel) rfl, jq_in 138 (by decide +kernel) rfl, jq_in 1131 (by decide +kernel) rfl, ⟨by decide, by decide, by decide +kernel⟩⟩
theorem yf_X11_insist : Cond.instanceMethod yX11_insist ∈ jq_T ∧ Cond.selects (yX11_insist).cls yX11_insist yX11_insist ∈ jq_T ∧ Cond.initialized (yX11_insist).cls ∈ jq_T ∧ Cond.code yX11_insist cX11_insist 3 (some .boolean) ∈ jq_T ∧ ((yX11_insist).cls ≠ "java/lang/invoke/MethodHandle" ∧ (yX11_insist).cls ≠ "java/lang/invoke/VarHandle" ∧ (parseMethodDescriptor (yX11_insist).desc).map (fun d => d.parameters.length) = some 2) := ⟨jq_in 2078 (by decide +kernel) rfl, jq_in 2079 (by decide +kernel) rfl, jq_in 150 (by decide +kernel) rfl, jq_in 2080 (by decide +kernel) rfl, ⟨by decide, by decide, by decide +kernel⟩⟩
theorem yf_X10_value : Cond.instanceMethod yX10_value ∈ jq_T ∧ Cond.selects (yX10_value).cls yX10_value yX10_value ∈ jq_T ∧ Cond.initialized (yX10_value).cls ∈ jq_T ∧ Cond.code yX10_value cX10_value 3 (some .boolean) ∈ jq_T ∧ ((yX10_value).cls ≠ "java/lang/invoke/MethodHandle" ∧ (yX10_value).cls ≠ "java/lang/invoke/VarHandle" ∧ (parseMethodDescriptor (yX10_value).desc).map (fun d => d.parameters.length) = some 2) := ⟨jq_in 1133 (by decide +kernel) rfl, jq_in 1134 (by decide +kernel) rfl, jq_in 138 (by decide +kernel) rfl, jq_in 1135 (by decide +kernel) rfl, ⟨by decide, by decide, by decide +kernel⟩⟩
theorem yf_X11_value : Cond.instanceMethod yX11_value ∈ jq_T ∧ Cond.selects (yX11_value).cls yX11_value yX11_value ∈ jq_T ∧ Cond.initialized (yX11_value).cls ∈ jq_T ∧ Cond.code yX11_value cX11_value 3 (some .boolean) ∈ jq_T ∧ ((yX11_value).cls ≠ "java/lang/invoke/MethodHandle" ∧ (yX11_value).cls ≠ "java/lang/invoke/VarHandle" ∧ (parseMethodDescriptor (yX11_value).desc).map (fun d => d.parameters.length) = some 2) := ⟨jq_in 2083 (by decide +kernel) rfl, jq_in 2084 (by decide +kernel) rfl, jq_in 150 (by decide +kernel) rfl, jq_in 2085 (by decide +kernel) rfl, ⟨by decide, by decide, by decide +kernel⟩⟩
theorem yf_X10_carve : Cond.instanceMethod yX10_carve ∈ jq_T ∧ Cond.selects (yX10_carve).cls yX10_carve yX10_carve ∈ jq_T ∧ Cond.initialized (yX10_carve).cls ∈ jq_T ∧ Cond.code yX10_carve cX10_carve 3 (some .boolean) ∈ jq_T ∧ ((yX10_carve).cls ≠ "java/lang/invoke/MethodHandle" ∧ (yX10_carve).cls ≠ "java/lang/invoke/VarHandle" ∧ (parseMethodDescriptor (yX10_carve).desc).map (fun d => d.parameters.length) = some 2) := ⟨jq_in 1137 (by decide +kernel) rfl, jq_in 1138 (by decide +kernel) rfl, jq_in 138 (by decide +kernel) rfl, jq_in 1139 (by decide +kernel) rfl, ⟨by decide, by decide, by decide +kernel⟩⟩
theorem yf_X11_carve : Cond.instanceMethod yX11_carve ∈ jq_T ∧ Cond.selects (yX11_carve).cls yX11_carve yX11_carve ∈ jq_T ∧ Cond.initialized (yX11_carve).cls ∈ jq_T ∧ Cond.code yX11_carve cX11_carve 3 (some .boolean) ∈ jq_T ∧ ((yX11_carve).cls ≠ "java/lang/invoke/MethodHandle" ∧ (yX11_carve).cls ≠ "java/lang/invoke/VarHandle" ∧ (parseMethodDescriptor (yX11_carve).desc).map (fun d => d.parameters.length) = some 2) := ⟨jq_in 2089 (by decide +kernel) rfl, jq_in 2090 (by decide +kernel) rfl, jq_in 150 (by decide +kernel) rfl, jq_in 2091 (by decide +kernel) rfl, ⟨by decide, by decide, by decide +kernel⟩⟩
theorem yf_X10_seatings : Cond.instanceMethod yX10_seatings ∈ jq_T ∧ Cond.selects (yX10_seatings).cls yX10_seatings yX10_seatings ∈ jq_T ∧ Cond.initialized (yX10_seatings).cls ∈ jq_T ∧ Cond.code yX10_seatings cX10_seatings 1 (some .int) ∈ jq_T ∧ ((yX10_seatings).cls ≠ "java/lang/invoke/MethodHandle" ∧ (yX10_seatings).cls ≠ "java/lang/invoke/VarHandle" ∧ (parseMethodDescriptor (yX10_seatings).desc).map (fun d => d.parameters.length) = some 0) := ⟨jq_in 1145 (by decide +kernel) rfl, jq_in 1146 (by decide +kernel) rfl, jq_in 138 (by decide +kernel) rfl, jq_in 1147 (by decide +kernel) rfl, ⟨by decide, by decide, by decide +kernel⟩⟩
theorem yf_X11_seatings : Cond.instanceMethod yX11_seatings ∈ jq_T ∧ Cond.selects (yX11_seatings).cls yX11_seatings yX11_seatings ∈ jq_T ∧ Cond.initialized (yX11_seatings).cls ∈ jq_T ∧ Cond.code yX11_seatings cX11_seatings 3 (some .int) ∈ jq_T ∧ ((yX11_seatings).cls ≠ "java/lang/invoke/MethodHandle" ∧ (yX11_seatings).cls ≠ "java/lang/invoke/VarHandle" ∧ (parseMethodDescriptor (yX11_seatings).desc).map (fun d => d.parameters.length) = some 0) := ⟨jq_in 2093 (by decide +kernel) rfl, jq_in 2094 (by decide +kernel) rfl, jq_in 150 (by decide +kernel) rfl, jq_in 2095 (by decide +kernel) rfl, ⟨by decide, by decide, by decide +kernel⟩⟩
theorem yf_X10_good : Cond.instanceMethod yX10_good ∈ jq_T ∧ Cond.selects (yX10_good).cls yX10_good yX10_good ∈ jq_T ∧ Cond.initialized (yX10_good).cls ∈ jq_T ∧ Cond.code yX10_good cX10_good 1 (some .int) ∈ jq_T ∧ ((yX10_good).cls ≠ "java/lang/invoke/MethodHandle" ∧ (yX10_good).cls ≠ "java/lang/invoke/VarHandle" ∧ (parseMethodDescriptor (yX10_good).desc).map (fun d => d.parameters.length) = some 0) := ⟨jq_in 1153 (by decide +kernel) rfl, jq_in 1154 (by decide +kernel) rfl, jq_in 138 (by decide +kernel) rfl, jq_in 1155 (by decide +kernel) rfl, ⟨by decide, by decide, by decide +kernel⟩⟩
theorem yf_X11_good : Cond.instanceMethod yX11_good ∈ jq_T ∧ Cond.selects (yX11_good).cls yX11_good yX11_good ∈ jq_T ∧ Cond.initialized (yX11_good).cls ∈ jq_T ∧ Cond.code yX11_good cX11_good 3 (some .int) ∈ jq_T ∧ ((yX11_good).cls ≠ "java/lang/invoke/MethodHandle" ∧ (yX11_good).cls ≠ "java/lang/invoke/VarHandle" ∧ (parseMethodDescriptor (yX11_good).desc).map (fun d => d.parameters.length) = some 0) := ⟨jq_in 2105 (by decide +kernel) rfl, jq_in 2106 (by decide +kernel) rfl, jq_in 150 (by decide +kernel) rfl, jq_in 2107 (by decide +kernel) rfl, ⟨by decide, by decide, by decide +kernel⟩⟩
theorem yf_X10_classes : Cond.instanceMethod yX10_classes ∈ jq_T ∧ Cond.selects (yX10_classes).cls yX10_classes yX10_classes ∈ jq_T ∧ Cond.initialized (yX10_classes).cls ∈ jq_T ∧ Cond.code yX10_classes cX10_classes 1 (some .int) ∈ jq_T ∧ ((yX10_classes).cls ≠ "java/lang/invoke/MethodHandle" ∧ (yX10_classes).cls ≠ "java/lang/invoke/VarHandle" ∧ (parseMethodDescriptor (yX10_classes).desc).map (fun d => d.parameters.length) = some 0) := ⟨jq_in 1187 (by decide +kernel) rfl, jq_in 1188 (by decide +kernel) rfl, jq_in 138 (by decide +kernel) rfl, jq_in 1189 (by decide +kernel) rfl, ⟨by decide, by decide, by decide +kernel⟩⟩
theorem yf_X11_classes : Cond.instanceMethod yX11_classes ∈ jq_T ∧ Cond.selects (yX11_classes).cls yX11_classes yX11_classes ∈ jq_T ∧ Cond.initialized (yX11_classes).cls ∈ jq_T ∧ Cond.code yX11_classes cX11_classes 3 (some .int) ∈ jq_T ∧ ((yX11_classes).cls ≠ "java/lang/invoke/MethodHandle" ∧ (yX11_classes).cls ≠ "java/lang/invoke/VarHandle" ∧ (parseMethodDescriptor (yX11_classes).desc).map (fun d => d.parameters.length) = some 0) := ⟨jq_in 2117 (by decide +kernel) rfl, jq_in 2118 (by decide +kernel) rfl, jq_in 150 (by decide +kernel) rfl, jq_in 2119 (by decide +kernel) rfl, ⟨by decide, by decide, by decide +kernel⟩⟩
theorem yf_X10_goodAt : Cond.instanceMethod yX10_goodAt ∈ jq_T ∧ Cond.selects (yX10_goodAt).cls yX10_goodAt yX10_goodAt ∈ jq_T ∧ Cond.initialized (yX10_goodAt).cls ∈ jq_T ∧ Cond.code yX10_goodAt cX10_goodAt 2 (some .int) ∈ jq_T ∧ ((yX10_goodAt).cls ≠ "java/lang/invoke/MethodHandle" ∧ (yX10_goodAt).cls ≠ "java/lang/invoke/VarHandle" ∧ (parseMethodDescriptor (yX10_goodAt).desc).map (fun d => d.parameters.length) = some 1) := ⟨jq_in 1208 (by decide +kernel) rfl, jq_in 1209 (by decide +kernel) rfl, jq_in 138 (by decide +kernel) rfl, jq_in 1210 (by decide +kernel) rfl, ⟨by decide, by decide, by decide +kernel⟩⟩
theorem yf_X11_goodAt : Cond.instanceMethod yX11_goodAt ∈ jq_T ∧ Cond.selects (yX11_goodAt).cls yX11_goodAt yX11_goodAt ∈ jq_T ∧ Cond.initialized (yX11_goodAt).cls ∈ jq_T ∧ Cond.code yX11_goodAt cX11_goodAt 2 (some .int) ∈ jq_T ∧ ((yX11_goodAt).cls ≠ "java/lang/invoke/MethodHandle" ∧ (yX11_goodAt).cls ≠ "java/lang/invoke/VarHandle" ∧ (parseMethodDescriptor (yX11_goodAt).desc).map (fun d => d.parameters.length) = some 1) := ⟨jq_in 2133 (by decide +kernel) rfl, jq_in 2134 (by decide +kernel) rfl, jq_in 150 (by decide +kernel) rfl, jq_in 2135 (by decide +kernel) rfl, ⟨by decide, by decide, by decide +kernel⟩⟩
theorem yf_X10_best : Cond.instanceMethod yX10_best ∈ jq_T ∧ Cond.selects (yX10_best).cls yX10_best yX10_best ∈ jq_T ∧ Cond.initialized (yX10_best).cls ∈ jq_T ∧ Cond.code yX10_best cX10_best 1 (some .int) ∈ jq_T ∧ ((yX10_best).cls ≠ "java/lang/invoke/MethodHandle" ∧ (yX10_best).cls ≠ "java/lang/invoke/VarHandle" ∧ (parseMethodDescriptor (yX10_best).desc).map (fun d => d.parameters.length) = some 0) := ⟨jq_in 1216 (by decide +kernel) rfl, jq_in 1217 (by decide +kernel) rfl, jq_in 138 (by decide +kernel) rfl, jq_in 1218 (by decide +kernel) rfl, ⟨by decide, by decide, by decide +kernel⟩⟩
theorem yf_X11_best : Cond.instanceMethod yX11_best ∈ jq_T ∧ Cond.selects (yX11_best).cls yX11_best yX11_best ∈ jq_T ∧ Cond.initialized (yX11_best).cls ∈ jq_T ∧ Cond.code yX11_best cX11_best 1 (some .int) ∈ jq_T ∧ ((yX11_best).cls ≠ "java/lang/invoke/MethodHandle" ∧ (yX11_best).cls ≠ "java/lang/invoke/VarHandle" ∧ (parseMethodDescriptor (yX11_best).desc).map (fun d => d.parameters.length) = some 0) := ⟨jq_in 2141 (by decide +kernel) rfl, jq_in 2142 (by decide +kernel) rfl, jq_in 150 (by decide +kernel) rfl, jq_in 2143 (by decide +kernel) rfl, ⟨by decide, by decide, by decide +kernel⟩⟩
theorem yf_X10_bestAt : Cond.instanceMethod yX10_bestAt ∈ jq_T ∧ Cond.selects (yX10_bestAt).cls yX10_bestAt yX10_bestAt ∈ jq_T ∧ Cond.initialized (yX10_bestAt).cls ∈ jq_T ∧ Cond.code yX10_bestAt cX10_bestAt 2 (some .int) ∈ jq_T ∧ ((yX10_bestAt).cls ≠ "java/lang/invoke/MethodHandle" ∧ (yX10_bestAt).cls ≠ "java/lang/invoke/VarHandle" ∧ (parseMethodDescriptor (yX10_bestAt).desc).map (fun d => d.parameters.length) = some 1) := ⟨jq_in 1226 (by decide +kernel) rfl, jq_in 1227 (by decide +kernel) rfl, jq_in 138 (by decide +kernel) rfl, jq_in 1228 (by decide +kernel) rfl, ⟨by decide, by decide, by decide +kernel⟩⟩
theorem yf_X11_bestAt : Cond.instanceMethod yX11_bestAt ∈ jq_T ∧ Cond.selects (yX11_bestAt).cls yX11_bestAt yX11_bestAt ∈ jq_T ∧ Cond.initialized (yX11_bestAt).cls ∈ jq_T ∧ Cond.code yX11_bestAt cX11_bestAt 2 (some .int) ∈ jq_T ∧ ((yX11_bestAt).cls ≠ "java/lang/invoke/MethodHandle" ∧ (yX11_bestAt).cls ≠ "java/lang/invoke/VarHandle" ∧ (parseMethodDescriptor (yX11_bestAt).desc).map (fun d => d.parameters.length) = some 1) := ⟨jq_in 2149 (by decide +kernel) rfl, jq_in 2150 (by decide +kernel) rfl, jq_in 150 (by decide +kernel) rfl, jq_in 2151 (by decide +kernel) rfl, ⟨by decide, by decide, by decide +kernel⟩⟩
theorem yf_X10_mostSign : Cond.instanceMethod yX10_mostSign ∈ jq_T ∧ Cond.selects (yX10_mostSign).cls yX10_mostSign yX10_mostSign ∈ jq_T ∧ Cond.initialized (yX10_mostSign).cls ∈ jq_T ∧ Cond.code yX10_mostSign cX10_mostSign 1 (some .int) ∈ jq_T ∧ ((yX10_mostSign).cls ≠ "java/lang/invoke/MethodHandle" ∧ (yX10_mostSign).cls ≠ "java/lang/invoke/VarHandle" ∧ (parseMethodDescriptor (yX10_mostSign).desc).map (fun d => d.parameters.length) = some 0) := ⟨jq_in 1230 (by decide +kernel) rfl, jq_in 1231 (by decide +kernel) rfl, jq_in 138 (by decide +kernel) rfl, jq_in 1232 (by decide +kernel) rfl, ⟨by decide, by decide, by decide +kernel⟩⟩
theorem yf_X11_mostSign : Cond.instanceMethod yX11_mostSign ∈ jq_T ∧ Cond.selects (yX11_mostSign).cls yX11_mostSign yX11_mostSign ∈ jq_T ∧ Cond.initialized (yX11_mostSign).cls ∈ jq_T ∧ Cond.code yX11_mostSign cX11_mostSign 3 (some .int) ∈ jq_T ∧ ((yX11_mostSign).cls ≠ "java/lang/invoke/MethodHandle" ∧ (yX11_mostSign).cls ≠ "java/lang/invoke/VarHandle" ∧ (parseMethodDescriptor (yX11_mostSign).desc).map (fun d => d.parameters.length) = some 0) := ⟨jq_in 2153 (by decide +kernel) rfl, jq_in 2154 (by decide +kernel) rfl, jq_in 150 (by decide +kernel) rfl, jq_in 2155 (by decide +kernel) rfl, ⟨by decide, by decide, by decide +kernel⟩⟩
theorem yf_X10_quarrel : Cond.instanceMethod yX10_quarrel ∈ jq_T ∧ Cond.selects (yX10_quarrel).cls yX10_quarrel yX10_quarrel ∈ jq_T ∧ Cond.initialized (yX10_quarrel).cls ∈ jq_T ∧ Cond.code yX10_quarrel cX10_quarrel 1 (some .int) ∈ jq_T ∧ ((yX10_quarrel).cls ≠ "java/lang/invoke/MethodHandle" ∧ (yX10_quarrel).cls ≠ "java/lang/invoke/VarHandle" ∧ (parseMethodDescriptor (yX10_quarrel).desc).map (fun d => d.parameters.length) = some 0) := ⟨jq_in 1241 (by decide +kernel) rfl, jq_in 1242 (by decide +kernel) rfl, jq_in 138 (by decide +kernel) rfl, jq_in 1243 (by decide +kernel) rfl, ⟨by decide, by decide, by decide +kernel⟩⟩
theorem yf_X11_quarrel : Cond.instanceMethod yX11_quarrel ∈ jq_T ∧ Cond.selects (yX11_quarrel).cls yX11_quarrel yX11_quarrel ∈ jq_T ∧ Cond.initialized (yX11_quarrel).cls ∈ jq_T ∧ Cond.code yX11_quarrel cX11_quarrel 3 (some .int) ∈ jq_T ∧ ((yX11_quarrel).cls ≠ "java/lang/invoke/MethodHandle" ∧ (yX11_quarrel).cls ≠ "java/lang/invoke/VarHandle" ∧ (parseMethodDescriptor (yX11_quarrel).desc).map (fun d => d.parameters.length) = some 0) := ⟨jq_in 2158 (by decide +kernel) rfl, jq_in 2159 (by decide +kernel) rfl, jq_in 150 (by decide +kernel) rfl, jq_in 2160 (by decide +kernel) rfl, ⟨by decide, by decide, by decide +kernel⟩⟩
theorem yf_X10_pleased : Cond.instanceMethod yX10_pleased ∈ jq_T ∧ Cond.selects (yX10_pleased).cls yX10_pleased yX10_pleased ∈ jq_T ∧ Cond.initialized (yX10_pleased).cls ∈ jq_T ∧ Cond.code yX10_pleased cX10_pleased 2 (some .int) ∈ jq_T ∧ ((yX10_pleased).cls ≠ "java/lang/invoke/MethodHandle" ∧ (yX10_pleased).cls ≠ "java/lang/invoke/VarHandle" ∧ (parseMethodDescriptor (yX10_pleased).desc).map (fun d => d.parameters.length) = some 1) := ⟨jq_in 1251 (by decide +kernel) rfl, jq_in 1252 (by decide +kernel) rfl, jq_in 138 (by decide +kernel) rfl, jq_in 1253 (by decide +kernel) rfl, ⟨by decide, by decide, by decide +kernel⟩⟩
theorem yf_X11_pleased : Cond.instanceMethod yX11_pleased ∈ jq_T ∧ Cond.selects (yX11_pleased).cls yX11_pleased yX11_pleased ∈ jq_T ∧ Cond.initialized (yX11_pleased).cls ∈ jq_T ∧ Cond.code yX11_pleased cX11_pleased 2 (some .int) ∈ jq_T ∧ ((yX11_pleased).cls ≠ "java/lang/invoke/MethodHandle" ∧ (yX11_pleased).cls ≠ "java/lang/invoke/VarHandle" ∧ (parseMethodDescriptor (yX11_pleased).desc).map (fun d => d.parameters.length) = some 1) := ⟨jq_in 2166 (by decide +kernel) rfl, jq_in 2167 (by decide +kernel) rfl, jq_in 150 (by decide +kernel) rfl, jq_in 2168 (by decide +kernel) rfl, ⟨by decide, by decide, by decide +kernel⟩⟩
theorem yf_X10_mostFor : Cond.instanceMethod yX10_mostFor ∈ jq_T ∧ Cond.selects (yX10_mostFor).cls yX10_mostFor yX10_mostFor ∈ jq_T ∧ Cond.initialized (yX10_mostFor).cls ∈ jq_T ∧ Cond.code yX10_mostFor cX10_mostFor 2 (some .int) ∈ jq_T ∧ ((yX10_mostFor).cls ≠ "java/lang/invoke/MethodHandle" ∧ (yX10_mostFor).cls ≠ "java/lang/invoke/VarHandle" ∧ (parseMethodDescriptor (yX10_mostFor).desc).map (fun d => d.parameters.length) = some 1) := ⟨jq_in 1257 (by decide +kernel) rfl, jq_in 1258 (by decide +kernel) rfl, jq_in 138 (by decide +kernel) rfl, jq_in 1259 (by decide +kernel) rfl, ⟨by decide, by decide, by decide +kernel⟩⟩
theorem yf_X11_mostFor : Cond.instanceMethod yX11_mostFor ∈ jq_T ∧ Cond.selects (yX11_mostFor).cls yX11_mostFor yX11_mostFor ∈ jq_T ∧ Cond.initialized (yX11_mostFor).cls ∈ jq_T ∧ Cond.code yX11_mostFor cX11_mostFor 4 (some .int) ∈ jq_T ∧ ((yX11_mostFor).cls ≠ "java/lang/invoke/MethodHandle" ∧ (yX11_mostFor).cls ≠ "java/lang/invoke/VarHandle" ∧ (parseMethodDescriptor (yX11_mostFor).desc).map (fun d => d.parameters.length) = some 1) := ⟨jq_in 2170 (by decide +kernel) rfl, jq_in 2171 (by decide +kernel) rfl, jq_in 150 (by decide +kernel) rfl, jq_in 2172 (by decide +kernel) rfl, ⟨by decide, by decide, by decide +kernel⟩⟩
theorem yf_X10_signsIn : Cond.instanceMethod yX10_signsIn ∈ jq_T ∧ Cond.selects (yX10_signsIn).cls yX10_signsIn yX10_signsIn ∈ jq_T ∧ Cond.initialized (yX10_signsIn).cls ∈ jq_T ∧ Cond.code yX10_signsIn cX10_signsIn 2 (some .int) ∈ jq_T ∧ ((yX10_signsIn).cls ≠ "java/lang/invoke/MethodHandle" ∧ (yX10_signsIn).cls ≠ "java/lang/invoke/VarHandle" ∧ (parseMethodDescriptor (yX10_signsIn).desc).map (fun d => d.parameters.length) = some 1) := ⟨jq_in 1266 (by decide +kernel) rfl, jq_in 1267 (by decide +kernel) rfl, jq_in 138 (by decide +kernel) rfl, jq_in 1268 (by decide +kernel) rfl, ⟨by decide, by decide, by decide +kernel⟩⟩
theorem yf_X11_signsIn : Cond.instanceMethod yX11_signsIn ∈ jq_T ∧ Cond.selects (yX11_signsIn).cls yX11_signsIn yX11_signsIn ∈ jq_T ∧ Cond.initialized (yX11_signsIn).cls ∈ jq_T ∧ Cond.code yX11_signsIn cX11_signsIn 4 (some .int) ∈ jq_T ∧ ((yX11_signsIn).cls ≠ "java/lang/invoke/MethodHandle" ∧ (yX11_signsIn).cls ≠ "java/lang/invoke/VarHandle" ∧ (parseMethodDescriptor (yX11_signsIn).desc).map (fun d => d.parameters.length) = some 1) := ⟨jq_in 2175 (by decide +kernel) rfl, jq_in 2176 (by decide +kernel) rfl, jq_in 150 (by decide +kernel) rfl, jq_in 2177 (by decide +kernel) rfl, ⟨by decide, by decide, by decide +kernel⟩⟩
theorem yf_X10_seatBest : Cond.instanceMethod yX10_seatBest ∈ jq_T ∧ Cond.selects (yX10_seatBest).cls yX10_seatBest yX10_seatBest ∈ jq_T ∧ Cond.initialized (yX10_seatBest).cls ∈ jq_T ∧ Cond.code yX10_seatBest cX10_seatBest 2 (some .int) ∈ jq_T ∧ ((yX10_seatBest).cls ≠ "java/lang/invoke/MethodHandle" ∧ (yX10_seatBest).cls ≠ "java/lang/invoke/VarHandle" ∧ (parseMethodDescriptor (yX10_seatBest).desc).map (fun d => d.parameters.length) = some 0) := ⟨jq_in 1275 (by decide +kernel) rfl, jq_in 1276 (by decide +kernel) rfl, jq_in 138 (by decide +kernel) rfl, jq_in 1277 (by decide +kernel) rfl, ⟨by decide, by decide, by decide +kernel⟩⟩
theorem yf_X11_seatBest : Cond.instanceMethod yX11_seatBest ∈ jq_T ∧ Cond.selects (yX11_seatBest).cls yX11_seatBest yX11_seatBest ∈ jq_T ∧ Cond.initialized (yX11_seatBest).cls ∈ jq_T ∧ Cond.code yX11_seatBest cX11_seatBest 2 (some .int) ∈ jq_T ∧ ((yX11_seatBest).cls ≠ "java/lang/invoke/MethodHandle" ∧ (yX11_seatBest).cls ≠ "java/lang/invoke/VarHandle" ∧ (parseMethodDescriptor (yX11_seatBest).desc).map (fun d => d.parameters.length) = some 0) := ⟨jq_in 2179 (by decide +kernel) rfl, jq_in 2180 (by decide +kernel) rfl, jq_in 150 (by decide +kernel) rfl, jq_in 2181 (by decide +kernel) rfl, ⟨by decide, by decide, by decide +kernel⟩⟩
theorem yf_X10_fish : Cond.instanceMethod yX10_fish ∈ jq_T ∧ Cond.selects (yX10_fish).cls yX10_fish yX10_fish ∈ jq_T ∧ Cond.initialized (yX10_fish).cls ∈ jq_T ∧ Cond.code yX10_fish cX10_fish 1 (some .int) ∈ jq_T ∧ ((yX10_fish).cls ≠ "java/lang/invoke/MethodHandle" ∧ (yX10_fish).cls ≠ "java/lang/invoke/VarHandle" ∧ (parseMethodDescriptor (yX10_fish).desc).map (fun d => d.parameters.length) = some 0) := ⟨jq_in 1279 (by decide +kernel) rfl, jq_in 1280 (by decide +kernel) rfl, jq_in 138 (by decide +kernel) rfl, jq_in 1281 (by decide +kernel) rfl, ⟨by decide, by decide, by decide +kernel⟩⟩
theorem yf_X11_fish : Cond.instanceMethod yX11_fish ∈ jq_T ∧ Cond.selects (yX11_fish).cls yX11_fish yX11_fish ∈ jq_T ∧ Cond.initialized (yX11_fish).cls ∈ jq_T ∧ Cond.code yX11_fish cX11_fish 1 (some .int) ∈ jq_T ∧ ((yX11_fish).cls ≠ "java/lang/invoke/MethodHandle" ∧ (yX11_fish).cls ≠ "java/lang/invoke/VarHandle" ∧ (parseMethodDescriptor (yX11_fish).desc).map (fun d => d.parameters.length) = some 0) := ⟨jq_in 2183 (by decide +kernel) rfl, jq_in 2184 (by decide +kernel) rfl, jq_in 150 (by decide +kernel) rfl, jq_in 2185 (by decide +kernel) rfl, ⟨by decide, by decide, by decide +kernel⟩⟩
theorem yf_X10_leastFish : Cond.instanceMethod yX10_leastFish ∈ jq_T ∧ Cond.selects (yX10_leastFish).cls yX10_leastFish yX10_leastFish ∈ jq_T ∧ Cond.initialized (yX10_leastFish).cls ∈ jq_T ∧ Cond.code yX10_leastFish cX10_leastFish 1 (some .int) ∈ jq_T ∧ ((yX10_leastFish).cls ≠ "java/lang/invoke/MethodHandle" ∧ (yX10_leastFish).cls ≠ "java/lang/invoke/VarHandle" ∧ (parseMethodDescriptor (yX10_leastFish).desc).map (fun d => d.parameters.length) = some 0) := ⟨jq_in 1288 (by decide +kernel) rfl, jq_in 1289 (by decide +kernel) rfl, jq_in 138 (by decide +kernel) rfl, jq_in 1290 (by decide +kernel) rfl, ⟨by decide, by decide, by decide +kernel⟩⟩
theorem yf_X11_leastFish : Cond.instanceMethod yX11_leastFish ∈ jq_T ∧ Cond.selects (yX11_leastFish).cls yX11_leastFish yX11_leastFish ∈ jq_T ∧ Cond.initialized (yX11_leastFish).cls ∈ jq_T ∧ Cond.code yX11_leastFish cX11_leastFish 3 (some .int) ∈ jq_T ∧ ((yX11_leastFish).cls ≠ "java/lang/invoke/MethodHandle" ∧ (yX11_leastFish).cls ≠ "java/lang/invoke/VarHandle" ∧ (parseMethodDescriptor (yX11_leastFish).desc).map (fun d => d.parameters.length) = some 0) := ⟨jq_in 2191 (by decide +kernel) rfl, jq_in 2192 (by decide +kernel) rfl, jq_in 150 (by decide +kernel) rfl, jq_in 2193 (by decide +kernel) rfl, ⟨by decide, by decide, by decide +kernel⟩⟩
theorem yf_X10_bestSwap : Cond.instanceMethod yX10_bestSwap ∈ jq_T ∧ Cond.selects (yX10_bestSwap).cls yX10_bestSwap yX10_bestSwap ∈ jq_T ∧ Cond.initialized (yX10_bestSwap).cls ∈ jq_T ∧ Cond.code yX10_bestSwap cX10_bestSwap 5 (some .int) ∈ jq_T ∧ ((yX10_bestSwap).cls ≠ "java/lang/invoke/MethodHandle" ∧ (yX10_bestSwap).cls ≠ "java/lang/invoke/VarHandle" ∧ (parseMethodDescriptor (yX10_bestSwap).desc).map (fun d => d.parameters.length) = some 0) := ⟨jq_in 1297 (by decide +kernel) rfl, jq_in 1298 (by decide +kernel) rfl, jq_in 138 (by decide +kernel) rfl, jq_in 1299 (by decide +kernel) rfl, ⟨by decide, by decide, by decide +kernel⟩⟩
theorem yf_X11_bestSwap : Cond.instanceMethod yX11_bestSwap ∈ jq_T ∧ Cond.selects (yX11_bestSwap).cls yX11_bestSwap yX11_bestSwap ∈ jq_T ∧ Cond.initialized (yX11_bestSwap).cls ∈ jq_T ∧ Cond.code yX11_bestSwap cX11_bestSwap 6 (some .int) ∈ jq_T ∧ ((yX11_bestSwap).cls ≠ "java/lang/invoke/MethodHandle" ∧ (yX11_bestSwap).cls ≠ "java/lang/invoke/VarHandle" ∧ (parseMethodDescriptor (yX11_bestSwap).desc).map (fun d => d.parameters.length) = some 0) := ⟨jq_in 2196 (by decide +kernel) rfl, jq_in 2197 (by decide +kernel) rfl, jq_in 150 (by decide +kernel) rfl, jq_in 2198 (by decide +kernel) rfl, ⟨by decide, by decide, by decide +kernel⟩⟩
theorem yf_X10_bestTurn : Cond.instanceMethod yX10_bestTurn ∈ jq_T ∧ Cond.selects (yX10_bestTurn).cls yX10_bestTurn yX10_bestTurn ∈ jq_T ∧ Cond.initialized (yX10_bestTurn).cls ∈ jq_T ∧ Cond.code yX10_bestTurn cX10_bestTurn 5 (some .int) ∈ jq_T ∧ ((yX10_bestTurn).cls ≠ "java/lang/invoke/MethodHandle" ∧ (yX10_bestTurn).cls ≠ "java/lang/invoke/VarHandle" ∧ (parseMethodDescriptor (yX10_bestTurn).desc).map (fun d => d.parameters.length) = some 0) := ⟨jq_in 1305 (by decide +kernel) rfl, jq_in 1306 (by decide +kernel) rfl, jq_in 138 (by decide +kernel) rfl, jq_in 1307 (by decide +kernel) rfl, ⟨by decide, by decide, by decide +kernel⟩⟩
theorem yf_X11_bestTurn : Cond.instanceMethod yX11_bestTurn ∈ jq_T ∧ Cond.selects (yX11_bestTurn).cls yX11_bestTurn yX11_bestTurn ∈ jq_T ∧ Cond.initialized (yX11_bestTurn).cls ∈ jq_T ∧ Cond.code yX11_bestTurn cX11_bestTurn 5 (some .int) ∈ jq_T ∧ ((yX11_bestTurn).cls ≠ "java/lang/invoke/MethodHandle" ∧ (yX11_bestTurn).cls ≠ "java/lang/invoke/VarHandle" ∧ (parseMethodDescriptor (yX11_bestTurn).desc).map (fun d => d.parameters.length) = some 0) := ⟨jq_in 2204 (by decide +kernel) rfl, jq_in 2205 (by decide +kernel) rfl, jq_in 150 (by decide +kernel) rfl, jq_in 2206 (by decide +kernel) rfl, ⟨by decide, by decide, by decide +kernel⟩⟩
theorem yf_X10_signsBy : Cond.instanceMethod yX10_signsBy ∈ jq_T ∧ Cond.selects (yX10_signsBy).cls yX10_signsBy yX10_signsBy ∈ jq_T ∧ Cond.initialized (yX10_signsBy).cls ∈ jq_T ∧ Cond.code yX10_signsBy cX10_signsBy 3 (some .int) ∈ jq_T ∧ ((yX10_signsBy).cls ≠ "java/lang/invoke/MethodHandle" ∧ (yX10_signsBy).cls ≠ "java/lang/invoke/VarHandle" ∧ (parseMethodDescriptor (yX10_signsBy).desc).map (fun d => d.parameters.length) = some 2) := ⟨jq_in 1309 (by decide +kernel) rfl, jq_in 1310 (by decide +kernel) rfl, jq_in 138 (by decide +kernel) rfl, jq_in 1311 (by decide +kernel) rfl, ⟨by decide, by decide, by decide +kernel⟩⟩
theorem yf_X11_signsBy : Cond.instanceMethod yX11_signsBy ∈ jq_T ∧ Cond.selects (yX11_signsBy).cls yX11_signsBy yX11_signsBy ∈ jq_T ∧ Cond.initialized (yX11_signsBy).cls ∈ jq_T ∧ Cond.code yX11_signsBy cX11_signsBy 3 (some .int) ∈ jq_T ∧ ((yX11_signsBy).cls ≠ "java/lang/invoke/MethodHandle" ∧ (yX11_signsBy).cls ≠ "java/lang/invoke/VarHandle" ∧ (parseMethodDescriptor (yX11_signsBy).desc).map (fun d => d.parameters.length) = some 2) := ⟨jq_in 2208 (by decide +kernel) rfl, jq_in 2209 (by decide +kernel) rfl, jq_in 150 (by decide +kernel) rfl, jq_in 2210 (by decide +kernel) rfl, ⟨by decide, by decide, by decide +kernel⟩⟩
theorem yf_X10_game : Cond.instanceMethod yX10_game ∈ jq_T ∧ Cond.selects (yX10_game).cls yX10_game yX10_game ∈ jq_T ∧ Cond.initialized (yX10_game).cls ∈ jq_T ∧ Cond.code yX10_game cX10_game 5 (some .int) ∈ jq_T ∧ ((yX10_game).cls ≠ "java/lang/invoke/MethodHandle" ∧ (yX10_game).cls ≠ "java/lang/invoke/VarHandle" ∧ (parseMethodDescriptor (yX10_game).desc).map (fun d => d.parameters.length) = some 3) := ⟨jq_in 1313 (by decide +kernel) rfl, jq_in 1314 (by decide +kernel) rfl, jq_in 138 (by decide +kernel) rfl, jq_in 1315 (by decide +kernel) rfl, ⟨by decide, by decide, by decide +kernel⟩⟩
theorem yf_X11_game : Cond.instanceMethod yX11_game ∈ jq_T ∧ Cond.selects (yX11_game).cls yX11_game yX11_game ∈ jq_T ∧ Cond.initialized (yX11_game).cls ∈ jq_T ∧ Cond.code yX11_game cX11_game 5 (some .int) ∈ jq_T ∧ ((yX11_game).cls ≠ "java/lang/invoke/MethodHandle" ∧ (yX11_game).cls ≠ "java/lang/invoke/VarHandle" ∧ (parseMethodDescriptor (yX11_game).desc).map (fun d => d.parameters.length) = some 3) := ⟨jq_in 2212 (by decide +kernel) rfl, jq_in 2213 (by decide +kernel) rfl, jq_in 150 (by decide +kernel) rfl, jq_in 2214 (by decide +kernel) rfl, ⟨by decide, by decide, by decide +kernel⟩⟩
theorem yf_X10_moveOf : Cond.instanceMethod yX10_moveOf ∈ jq_T ∧ Cond.selects (yX10_moveOf).cls yX10_moveOf yX10_moveOf ∈ jq_T ∧ Cond.initialized (yX10_moveOf).cls ∈ jq_T ∧ Cond.code yX10_moveOf cX10_moveOf 5 (some .int) ∈ jq_T ∧ ((yX10_moveOf).cls ≠ "java/lang/invoke/MethodHandle" ∧ (yX10_moveOf).cls ≠ "java/lang/invoke/VarHandle" ∧ (parseMethodDescriptor (yX10_moveOf).desc).map (fun d => d.parameters.length) = some 3) := ⟨jq_in 1338 (by decide +kernel) rfl, jq_in 1339 (by decide +kernel) rfl, jq_in 138 (by decide +kernel) rfl, jq_in 1340 (by decide +kernel) rfl, ⟨by decide, by decide, by decide +kernel⟩⟩
theorem yf_X11_moveOf : Cond.instanceMethod yX11_moveOf ∈ jq_T ∧ Cond.selects (yX11_moveOf).cls yX11_moveOf yX11_moveOf ∈ jq_T ∧ Cond.initialized (yX11_moveOf).cls ∈ jq_T ∧ Cond.code yX11_moveOf cX11_moveOf 5 (some .int) ∈ jq_T ∧ ((yX11_moveOf).cls ≠ "java/lang/invoke/MethodHandle" ∧ (yX11_moveOf).cls ≠ "java/lang/invoke/VarHandle" ∧ (parseMethodDescriptor (yX11_moveOf).desc).map (fun d => d.parameters.length) = some 3) := ⟨jq_in 2241 (by decide +kernel) rfl, jq_in 2242 (by decide +kernel) rfl, jq_in 150 (by decide +kernel) rfl, jq_in 2243 (by decide +kernel) rfl, ⟨by decide, by decide, by decide +kernel⟩⟩
theorem yf_X10_leans : Cond.instanceMethod yX10_leans ∈ jq_T ∧ Cond.selects (yX10_leans).cls yX10_leans yX10_leans ∈ jq_T ∧ Cond.initialized (yX10_leans).cls ∈ jq_T ∧ Cond.code yX10_leans cX10_leans 2 (some .int) ∈ jq_T ∧ ((yX10_leans).cls ≠ "java/lang/invoke/MethodHandle" ∧ (yX10_leans).cls ≠ "java/lang/invoke/VarHandle" ∧ (parseMethodDescriptor (yX10_leans).desc).map (fun d => d.parameters.length) = some 1) := ⟨jq_in 1345 (by decide +kernel) rfl, jq_in 1346 (by decide +kernel) rfl, jq_in 138 (by decide +kernel) rfl, jq_in 1347 (by decide +kernel) rfl, ⟨by decide, by decide, by decide +kernel⟩⟩
theorem yf_X11_leans : Cond.instanceMethod yX11_leans ∈ jq_T ∧ Cond.selects (yX11_leans).cls yX11_leans yX11_leans ∈ jq_T ∧ Cond.initialized (yX11_leans).cls ∈ jq_T ∧ Cond.code yX11_leans cX11_leans 2 (some .int) ∈ jq_T ∧ ((yX11_leans).cls ≠ "java/lang/invoke/MethodHandle" ∧ (yX11_leans).cls ≠ "java/lang/invoke/VarHandle" ∧ (parseMethodDescriptor (yX11_leans).desc).map (fun d => d.parameters.length) = some 1) := ⟨jq_in 2245 (by decide +kernel) rfl, jq_in 2246 (by decide +kernel) rfl, jq_in 150 (by decide +kernel) rfl, jq_in 2247 (by decide +kernel) rfl, ⟨by decide, by decide, by decide +kernel⟩⟩
theorem yf_X10_falls : Cond.instanceMethod yX10_falls ∈ jq_T ∧ Cond.selects (yX10_falls).cls yX10_falls yX10_falls ∈ jq_T ∧ Cond.initialized (yX10_falls).cls ∈ jq_T ∧ Cond.code yX10_falls cX10_falls 2 (some .int) ∈ jq_T ∧ ((yX10_falls).cls ≠ "java/lang/invoke/MethodHandle" ∧ (yX10_falls).cls ≠ "java/lang/invoke/VarHandle" ∧ (parseMethodDescriptor (yX10_falls).desc).map (fun d => d.parameters.length) = some 1) := ⟨jq_in 1354 (by decide +kernel) rfl, jq_in 1355 (by decide +kernel) rfl, jq_in 138 (by decide +kernel) rfl, jq_in 1356 (by decide +kernel) rfl, ⟨by decide, by decide, by decide +kernel⟩⟩
theorem yf_X11_falls : Cond.instanceMethod yX11_falls ∈ jq_T ∧ Cond.selects (yX11_falls).cls yX11_falls yX11_falls ∈ jq_T ∧ Cond.initialized (yX11_falls).cls ∈ jq_T ∧ Cond.code yX11_falls cX11_falls 2 (some .int) ∈ jq_T ∧ ((yX11_falls).cls ≠ "java/lang/invoke/MethodHandle" ∧ (yX11_falls).cls ≠ "java/lang/invoke/VarHandle" ∧ (parseMethodDescriptor (yX11_falls).desc).map (fun d => d.parameters.length) = some 1) := ⟨jq_in 2253 (by decide +kernel) rfl, jq_in 2254 (by decide +kernel) rfl, jq_in 150 (by decide +kernel) rfl, jq_in 2255 (by decide +kernel) rfl, ⟨by decide, by decide, by decide +kernel⟩⟩
theorem yf_X10_keystone : Cond.instanceMethod yX10_keystone ∈ jq_T ∧ Cond.selects (yX10_keystone).cls yX10_keystone yX10_keystone ∈ jq_T ∧ Cond.initialized (yX10_keystone).cls ∈ jq_T ∧ Cond.code yX10_keystone cX10_keystone 1 (some .int) ∈ jq_T ∧ ((yX10_keystone).cls ≠ "java/lang/invoke/MethodHandle" ∧ (yX10_keystone).cls ≠ "java/lang/invoke/VarHandle" ∧ (parseMethodDescriptor (yX10_keystone).desc).map (fun d => d.parameters.length) = some 0) := ⟨jq_in 1359 (by decide +kernel) rfl, jq_in 1360 (by decide +kernel) rfl, jq_in 138 (by decide +kernel) rfl, jq_in 1361 (by decide +kernel) rfl, ⟨by decide, by decide, by decide +kernel⟩⟩
theorem yf_X11_keystone : Cond.instanceMethod yX11_keystone ∈ jq_T ∧ Cond.selects (yX11_keystone).cls yX11_keystone yX11_keystone ∈ jq_T ∧ Cond.initialized (yX11_keystone).cls ∈ jq_T ∧ Cond.code yX11_keystone cX11_keystone 3 (some .int) ∈ jq_T ∧ ((yX11_keystone).cls ≠ "java/lang/invoke/MethodHandle" ∧ (yX11_keystone).cls ≠ "java/lang/invoke/VarHandle" ∧ (parseMethodDescriptor (yX11_keystone).desc).map (fun d => d.parameters.length) = some 0) := ⟨jq_in 2257 (by decide +kernel) rfl, jq_in 2258 (by decide +kernel) rfl, jq_in 150 (by decide +kernel) rfl, jq_in 2259 (by decide +kernel) rfl, ⟨by decide, by decide, by decide +kernel⟩⟩
theorem yf_X10_orders : Cond.instanceMethod yX10_orders ∈ jq_T ∧ Cond.selects (yX10_orders).cls yX10_orders yX10_orders ∈ jq_T ∧ Cond.initialized (yX10_orders).cls ∈ jq_T ∧ Cond.code yX10_orders cX10_orders 1 (some .int) ∈ jq_T ∧ ((yX10_orders).cls ≠ "java/lang/invoke/MethodHandle" ∧ (yX10_orders).cls ≠ "java/lang/invoke/VarHandle" ∧ (parseMethodDescriptor (yX10_orders).desc).map (fun d => d.parameters.length) = some 0) := ⟨jq_in 1368 (by decide +kernel) rfl, jq_in 1369 (by decide +kernel) rfl, jq_in 138 (by decide +kernel) rfl, jq_in 1370 (by decide +kernel) rfl, ⟨by decide, by decide, by decide +kernel⟩⟩
theorem yf_X11_orders : Cond.instanceMethod yX11_orders ∈ jq_T ∧ Cond.selects (yX11_orders).cls yX11_orders yX11_orders ∈ jq_T ∧ Cond.initialized (yX11_orders).cls ∈ jq_T ∧ Cond.code yX11_orders cX11_orders 6 (some .int) ∈ jq_T ∧ ((yX11_orders).cls ≠ "java/lang/invoke/MethodHandle" ∧ (yX11_orders).cls ≠ "java/lang/invoke/VarHandle" ∧ (parseMethodDescriptor (yX11_orders).desc).map (fun d => d.parameters.length) = some 0) := ⟨jq_in 2261 (by decide +kernel) rfl, jq_in 2262 (by decide +kernel) rfl, jq_in 150 (by decide +kernel) rfl, jq_in 2263 (by decide +kernel) rfl, ⟨by decide, by decide, by decide +kernel⟩⟩
theorem yf_X10_soonest : Cond.instanceMethod yX10_soonest ∈ jq_T ∧ Cond.selects (yX10_soonest).cls yX10_soonest yX10_soonest ∈ jq_T ∧ Cond.initialized (yX10_soonest).cls ∈ jq_T ∧ Cond.code yX10_soonest cX10_soonest 2 (some .int) ∈ jq_T ∧ ((yX10_soonest).cls ≠ "java/lang/invoke/MethodHandle" ∧ (yX10_soonest).cls ≠ "java/lang/invoke/VarHandle" ∧ (parseMethodDescriptor (yX10_soonest).desc).map (fun d => d.parameters.length) = some 1) := ⟨jq_in 1376 (by decide +kernel) rfl, jq_in 1377 (by decide +kernel) rfl, jq_in 138 (by decide +kernel) rfl, jq_in 1378 (by decide +kernel) rfl, ⟨by decide, by decide, by decide +kernel⟩⟩
theorem yf_X11_soonest : Cond.instanceMethod yX11_soonest ∈ jq_T ∧ Cond.selects (yX11_soonest).cls yX11_soonest yX11_soonest ∈ jq_T ∧ Cond.initialized (yX11_soonest).cls ∈ jq_T ∧ Cond.code yX11_soonest cX11_soonest 3 (some .int) ∈ jq_T ∧ ((yX11_soonest).cls ≠ "java/lang/invoke/MethodHandle" ∧ (yX11_soonest).cls ≠ "java/lang/invoke/VarHandle" ∧ (parseMethodDescriptor (yX11_soonest).desc).map (fun d => d.parameters.length) = some 1) := ⟨jq_in 2265 (by decide +kernel) rfl, jq_in 2266 (by decide +kernel) rfl, jq_in 150 (by decide +kernel) rfl, jq_in 2267 (by decide +kernel) rfl, ⟨by decide, by decide, by decide +kernel⟩⟩
theorem yf_X10_chain : Cond.instanceMethod yX10_chain ∈ jq_T ∧ Cond.selects (yX10_chain).cls yX10_chain yX10_chain ∈ jq_T ∧ Cond.initialized (yX10_chain).cls ∈ jq_T ∧ Cond.code yX10_chain cX10_chain 2 (some .int) ∈ jq_T ∧ ((yX10_chain).cls ≠ "java/lang/invoke/MethodHandle" ∧ (yX10_chain).cls ≠ "java/lang/invoke/VarHandle" ∧ (parseMethodDescriptor (yX10_chain).desc).map (fun d => d.parameters.length) = some 1) := ⟨jq_in 1391 (by decide +kernel) rfl, jq_in 1392 (by decide +kernel) rfl, jq_in 138 (by decide +kernel) rfl, jq_in 1393 (by decide +kernel) rfl, ⟨by decide, by decide, by decide +kernel⟩⟩
theorem yf_X11_chain : Cond.instanceMethod yX11_chain ∈ jq_T ∧ Cond.selects (yX11_chain).cls yX11_chain yX11_chain ∈ jq_T ∧ Cond.initialized (yX11_chain).cls ∈ jq_T ∧ Cond.code yX11_chain cX11_chain 5 (some .int) ∈ jq_T ∧ ((yX11_chain).cls ≠ "java/lang/invoke/MethodHandle" ∧ (yX11_chain).cls ≠ "java/lang/invoke/VarHandle" ∧ (parseMethodDescriptor (yX11_chain).desc).map (fun d => d.parameters.length) = some 1) := ⟨jq_in 2277 (by decide +kernel) rfl, jq_in 2278 (by decide +kernel) rfl, jq_in 150 (by decide +kernel) rfl, jq_in 2279 (by decide +kernel) rfl, ⟨by decide, by decide, by decide +kernel⟩⟩
theorem yf_X10_agreedIn : Cond.instanceMethod yX10_agreedIn ∈ jq_T ∧ Cond.selects (yX10_agreedIn).cls yX10_agreedIn yX10_agreedIn ∈ jq_T ∧ Cond.initialized (yX10_agreedIn).cls ∈ jq_T ∧ Cond.code yX10_agreedIn cX10_agreedIn 2 (some .int) ∈ jq_T ∧ ((yX10_agreedIn).cls ≠ "java/lang/invoke/MethodHandle" ∧ (yX10_agreedIn).cls ≠ "java/lang/invoke/VarHandle" ∧ (parseMethodDescriptor (yX10_agreedIn).desc).map (fun d => d.parameters.length) = some 1) := ⟨jq_in 1406 (by decide +kernel) rfl, jq_in 1407 (by decide +kernel) rfl, jq_in 138 (by decide +kernel) rfl, jq_in 1408 (by decide +kernel) rfl, ⟨by decide, by decide, by decide +kernel⟩⟩
theorem yf_X11_agreedIn : Cond.instanceMethod yX11_agreedIn ∈ jq_T ∧ Cond.selects (yX11_agreedIn).cls yX11_agreedIn yX11_agreedIn ∈ jq_T ∧ Cond.initialized (yX11_agreedIn).cls ∈ jq_T ∧ Cond.code yX11_agreedIn cX11_agreedIn 3 (some .int) ∈ jq_T ∧ ((yX11_agreedIn).cls ≠ "java/lang/invoke/MethodHandle" ∧ (yX11_agreedIn).cls ≠ "java/lang/invoke/VarHandle" ∧ (parseMethodDescriptor (yX11_agreedIn).desc).map (fun d => d.parameters.length) = some 1) := ⟨jq_in 2281 (by decide +kernel) rfl, jq_in 2282 (by decide +kernel) rfl, jq_in 150 (by decide +kernel) rfl, jq_in 2283 (by decide +kernel) rfl, ⟨by decide, by decide, by decide +kernel⟩⟩
theorem yf_X10_luck : Cond.instanceMethod yX10_luck ∈ jq_T ∧ Cond.selects (yX10_luck).cls yX10_luck yX10_luck ∈ jq_T ∧ Cond.initialized (yX10_luck).cls ∈ jq_T ∧ Cond.code yX10_luck cX10_luck 6 (some .boolean) ∈ jq_T ∧ ((yX10_luck).cls ≠ "java/lang/invoke/MethodHandle" ∧ (yX10_luck).cls ≠ "java/lang/invoke/VarHandle" ∧ (parseMethodDescriptor (yX10_luck).desc).map (fun d => d.parameters.length) = some 1) := ⟨jq_in 1410 (by decide +kernel) rfl, jq_in 1411 (by decide +kernel) rfl, jq_in 138 (by decide +kernel) rfl, jq_in 1412 (by decide +kernel) rfl, ⟨by decide, by decide, by decide +kernel⟩⟩
theorem yf_X11_luck : Cond.instanceMethod yX11_luck ∈ jq_T ∧ Cond.selects (yX11_luck).cls yX11_luck yX11_luck ∈ jq_T ∧ Cond.initialized (yX11_luck).cls ∈ jq_T ∧ Cond.code yX11_luck cX11_luck 2 (some .boolean) ∈ jq_T ∧ ((yX11_luck).cls ≠ "java/lang/invoke/MethodHandle" ∧ (yX11_luck).cls ≠ "java/lang/invoke/VarHandle" ∧ (parseMethodDescriptor (yX11_luck).desc).map (fun d => d.parameters.length) = some 1) := ⟨jq_in 2286 (by decide +kernel) rfl, jq_in 2287 (by decide +kernel) rfl, jq_in 150 (by decide +kernel) rfl, jq_in 2288 (by decide +kernel) rfl, ⟨by decide, by decide, by decide +kernel⟩⟩
theorem yf_X10_weakest : Cond.instanceMethod yX10_weakest ∈ jq_T ∧ Cond.selects (yX10_weakest).cls yX10_weakest yX10_weakest ∈ jq_T ∧ Cond.initialized (yX10_weakest).cls ∈ jq_T ∧ Cond.code yX10_weakest cX10_weakest 1 (some .int) ∈ jq_T ∧ ((yX10_weakest).cls ≠ "java/lang/invoke/MethodHandle" ∧ (yX10_weakest).cls ≠ "java/lang/invoke/VarHandle" ∧ (parseMethodDescriptor (yX10_weakest).desc).map (fun d => d.parameters.length) = some 0) := ⟨jq_in 1429 (by decide +kernel) rfl, jq_in 1430 (by decide +kernel) rfl, jq_in 138 (by decide +kernel) rfl, jq_in 1431 (by decide +kernel) rfl, ⟨by decide, by decide, by decide +kernel⟩⟩
theorem yf_X11_weakest : Cond.instanceMethod yX11_weakest ∈ jq_T ∧ Cond.selects (yX11_weakest).cls yX11_weakest yX11_weakest ∈ jq_T ∧ Cond.initialized (yX11_weakest).cls ∈ jq_T ∧ Cond.code yX11_weakest cX11_weakest 3 (some .int) ∈ jq_T ∧ ((yX11_weakest).cls ≠ "java/lang/invoke/MethodHandle" ∧ (yX11_weakest).cls ≠ "java/lang/invoke/VarHandle" ∧ (parseMethodDescriptor (yX11_weakest).desc).map (fun d => d.parameters.length) = some 0) := ⟨jq_in 2300 (by decide +kernel) rfl, jq_in 2301 (by decide +kernel) rfl, jq_in 150 (by decide +kernel) rfl, jq_in 2302 (by decide +kernel) rfl, ⟨by decide, by decide, by decide +kernel⟩⟩
theorem yf_X10_copySeats : Cond.instanceMethod yX10_copySeats ∈ jq_T ∧ Cond.selects (yX10_copySeats).cls yX10_copySeats yX10_copySeats ∈ jq_T ∧ Cond.initialized (yX10_copySeats).cls ∈ jq_T ∧ Cond.code yX10_copySeats cX10_copySeats 5 (some .int) ∈ jq_T ∧ ((yX10_copySeats).cls ≠ "java/lang/invoke/MethodHandle" ∧ (yX10_copySeats).cls ≠ "java/lang/invoke/VarHandle" ∧ (parseMethodDescriptor (yX10_copySeats).desc).map (fun d => d.parameters.length) = some 1) := ⟨jq_in 1439 (by decide +kernel) rfl, jq_in 1440 (by decide +kernel) rfl, jq_in 138 (by decide +kernel) rfl, jq_in 1441 (by decide +kernel) rfl, ⟨by decide, by decide, by decide +kernel⟩⟩
theorem yf_X11_copySeats : Cond.instanceMethod yX11_copySeats ∈ jq_T ∧ Cond.selects (yX11_copySeats).cls yX11_copySeats yX11_copySeats ∈ jq_T ∧ Cond.initialized (yX11_copySeats).cls ∈ jq_T ∧ Cond.code yX11_copySeats cX11_copySeats 3 (some .int) ∈ jq_T ∧ ((yX11_copySeats).cls ≠ "java/lang/invoke/MethodHandle" ∧ (yX11_copySeats).cls ≠ "java/lang/invoke/VarHandle" ∧ (parseMethodDescriptor (yX11_copySeats).desc).map (fun d => d.parameters.length) = some 1) := ⟨jq_in 2304 (by decide +kernel) rfl, jq_in 2305 (by decide +kernel) rfl, jq_in 150 (by decide +kernel) rfl, jq_in 2306 (by decide +kernel) rfl, ⟨by decide, by decide, by decide +kernel⟩⟩
theorem yf_X10_seatBy : Cond.instanceMethod yX10_seatBy ∈ jq_T ∧ Cond.selects (yX10_seatBy).cls yX10_seatBy yX10_seatBy ∈ jq_T ∧ Cond.initialized (yX10_seatBy).cls ∈ jq_T ∧ Cond.code yX10_seatBy cX10_seatBy 4 (some .int) ∈ jq_T ∧ ((yX10_seatBy).cls ≠ "java/lang/invoke/MethodHandle" ∧ (yX10_seatBy).cls ≠ "java/lang/invoke/VarHandle" ∧ (parseMethodDescriptor (yX10_seatBy).desc).map (fun d => d.parameters.length) = some 1) := ⟨jq_in 1443 (by decide +kernel) rfl, jq_in 1444 (by decide +kernel) rfl, jq_in 138 (by decide +kernel) rfl, jq_in 1445 (by decide +kernel) rfl, ⟨by decide, by decide, by decide +kernel⟩⟩
theorem yf_X11_seatBy : Cond.instanceMethod yX11_seatBy ∈ jq_T ∧ Cond.selects (yX11_seatBy).cls yX11_seatBy yX11_seatBy ∈ jq_T ∧ Cond.initialized (yX11_seatBy).cls ∈ jq_T ∧ Cond.code yX11_seatBy cX11_seatBy 4 (some .int) ∈ jq_T ∧ ((yX11_seatBy).cls ≠ "java/lang/invoke/MethodHandle" ∧ (yX11_seatBy).cls ≠ "java/lang/invoke/VarHandle" ∧ (parseMethodDescriptor (yX11_seatBy).desc).map (fun d => d.parameters.length) = some 1) := ⟨jq_in 2308 (by decide +kernel) rfl, jq_in 2309 (by decide +kernel) rfl, jq_in 150 (by decide +kernel) rfl, jq_in 2310 (by decide +kernel) rfl, ⟨by decide, by decide, by decide +kernel⟩⟩
theorem yf_X10_live : Cond.instanceMethod yX10_live ∈ jq_T ∧ Cond.selects (yX10_live).cls yX10_live yX10_live ∈ jq_T ∧ Cond.initialized (yX10_live).cls ∈ jq_T ∧ Cond.code yX10_live cX10_live 2 (some .int) ∈ jq_T ∧ ((yX10_live).cls ≠ "java/lang/invoke/MethodHandle" ∧ (yX10_live).cls ≠ "java/lang/invoke/VarHandle" ∧ (parseMethodDescriptor (yX10_live).desc).map (fun d => d.parameters.length) = some 1) := ⟨jq_in 1453 (by decide +kernel) rfl, jq_in 1454 (by decide +kernel) rfl, jq_in 138 (by decide +kernel) rfl, jq_in 1455 (by decide +kernel) rfl, ⟨by decide, by decide, by decide +kernel⟩⟩
theorem yf_X11_live : Cond.instanceMethod yX11_live ∈ jq_T ∧ Cond.selects (yX11_live).cls yX11_live yX11_live ∈ jq_T ∧ Cond.initialized (yX11_live).cls ∈ jq_T ∧ Cond.code yX11_live cX11_live 3 (some .int) ∈ jq_T ∧ ((yX11_live).cls ≠ "java/lang/invoke/MethodHandle" ∧ (yX11_live).cls ≠ "java/lang/invoke/VarHandle" ∧ (parseMethodDescriptor (yX11_live).desc).map (fun d => d.parameters.length) = some 1) := ⟨jq_in 2316 (by decide +kernel) rfl, jq_in 2317 (by decide +kernel) rfl, jq_in 150 (by decide +kernel) rfl, jq_in 2318 (by decide +kernel) rfl, ⟨by decide, by decide, by decide +kernel⟩⟩
theorem yf_X10_lived : Cond.instanceMethod yX10_lived ∈ jq_T ∧ Cond.selects (yX10_lived).cls yX10_lived yX10_lived ∈ jq_T ∧ Cond.initialized (yX10_lived).cls ∈ jq_T ∧ Cond.code yX10_lived cX10_lived 2 (some .int) ∈ jq_T ∧ ((yX10_lived).cls ≠ "java/lang/invoke/MethodHandle" ∧ (yX10_lived).cls ≠ "java/lang/invoke/VarHandle" ∧ (parseMethodDescriptor (yX10_lived).desc).map (fun d => d.parameters.length) = some 1) := ⟨jq_in 1533 (by decide +kernel) rfl, jq_in 1534 (by decide +kernel) rfl, jq_in 138 (by decide +kernel) rfl, jq_in 1535 (by decide +kernel) rfl, ⟨by decide, by decide, by decide +kernel⟩⟩
theorem yf_X11_lived : Cond.instanceMethod yX11_lived ∈ jq_T ∧ Cond.selects (yX11_lived).cls yX11_lived yX11_lived ∈ jq_T ∧ Cond.initialized (yX11_lived).cls ∈ jq_T ∧ Cond.code yX11_lived cX11_lived 2 (some .int) ∈ jq_T ∧ ((yX11_lived).cls ≠ "java/lang/invoke/MethodHandle" ∧ (yX11_lived).cls ≠ "java/lang/invoke/VarHandle" ∧ (parseMethodDescriptor (yX11_lived).desc).map (fun d => d.parameters.length) = some 1) := ⟨jq_in 2366 (by decide +kernel) rfl, jq_in 2367 (by decide +kernel) rfl, jq_in 150 (by decide +kernel) rfl, jq_in 2368 (by decide +kernel) rfl, ⟨by decide, by decide, by decide +kernel⟩⟩
theorem yf_X10_mean : Cond.instanceMethod yX10_mean ∈ jq_T ∧ Cond.selects (yX10_mean).cls yX10_mean yX10_mean ∈ jq_T ∧ Cond.initialized (yX10_mean).cls ∈ jq_T ∧ Cond.code yX10_mean cX10_mean 6 (some .boolean) ∈ jq_T ∧ ((yX10_mean).cls ≠ "java/lang/invoke/MethodHandle" ∧ (yX10_mean).cls ≠ "java/lang/invoke/VarHandle" ∧ (parseMethodDescriptor (yX10_mean).desc).map (fun d => d.parameters.length) = some 2) := ⟨jq_in 1537 (by decide +kernel) rfl, jq_in 1538 (by decide +kernel) rfl, jq_in 138 (by decide +kernel) rfl, jq_in 1539 (by decide +kernel) rfl, ⟨by decide, by decide, by decide +kernel⟩⟩
theorem yf_X11_mean : Cond.instanceMethod yX11_mean ∈ jq_T ∧ Cond.selects (yX11_mean).cls yX11_mean yX11_mean ∈ jq_T ∧ Cond.initialized (yX11_mean).cls ∈ jq_T ∧ Cond.code yX11_mean cX11_mean 6 (some .boolean) ∈ jq_T ∧ ((yX11_mean).cls ≠ "java/lang/invoke/MethodHandle" ∧ (yX11_mean).cls ≠ "java/lang/invoke/VarHandle" ∧ (parseMethodDescriptor (yX11_mean).desc).map (fun d => d.parameters.length) = some 2) := ⟨jq_in 2370 (by decide +kernel) rfl, jq_in 2371 (by decide +kernel) rfl, jq_in 150 (by decide +kernel) rfl, jq_in 2372 (by decide +kernel) rfl, ⟨by decide, by decide, by decide +kernel⟩⟩
theorem yf_X10_mark : Cond.instanceMethod yX10_mark ∈ jq_T ∧ Cond.selects (yX10_mark).cls yX10_mark yX10_mark ∈ jq_T ∧ Cond.initialized (yX10_mark).cls ∈ jq_T ∧ Cond.code yX10_mark cX10_mark 2 (some .int) ∈ jq_T ∧ ((yX10_mark).cls ≠ "java/lang/invoke/MethodHandle" ∧ (yX10_mark).cls ≠ "java/lang/invoke/VarHandle" ∧ (parseMethodDescriptor (yX10_mark).desc).map (fun d => d.parameters.length) = some 0) := ⟨jq_in 1541 (by decide +kernel) rfl, jq_in 1542 (by decide +kernel) rfl, jq_in 138 (by decide +kernel) rfl, jq_in 1543 (by decide +kernel) rfl, ⟨by decide, by decide, by decide +kernel⟩⟩
theorem yf_X11_mark : Cond.instanceMethod yX11_mark ∈ jq_T ∧ Cond.selects (yX11_mark).cls yX11_mark yX11_mark ∈ jq_T ∧ Cond.initialized (yX11_mark).cls ∈ jq_T ∧ Cond.code yX11_mark cX11_mark 1 (some .int) ∈ jq_T ∧ ((yX11_mark).cls ≠ "java/lang/invoke/MethodHandle" ∧ (yX11_mark).cls ≠ "java/lang/invoke/VarHandle" ∧ (parseMethodDescriptor (yX11_mark).desc).map (fun d => d.parameters.length) = some 0) := ⟨jq_in 2375 (by decide +kernel) rfl, jq_in 2376 (by decide +kernel) rfl, jq_in 150 (by decide +kernel) rfl, jq_in 2377 (by decide +kernel) rfl, ⟨by decide, by decide, by decide +kernel⟩⟩
theorem yf_X10_undo : Cond.instanceMethod yX10_undo ∈ jq_T ∧ Cond.selects (yX10_undo).cls yX10_undo yX10_undo ∈ jq_T ∧ Cond.initialized (yX10_undo).cls ∈ jq_T ∧ Cond.code yX10_undo cX10_undo 2 (some .int) ∈ jq_T ∧ ((yX10_undo).cls ≠ "java/lang/invoke/MethodHandle" ∧ (yX10_undo).cls ≠ "java/lang/invoke/VarHandle" ∧ (parseMethodDescriptor (yX10_undo).desc).map (fun d => d.parameters.length) = some 0) := ⟨jq_in 1549 (by decide +kernel) rfl, jq_in 1550 (by decide +kernel) rfl, jq_in 138 (by decide +kernel) rfl, jq_in 1551 (by decide +kernel) rfl, ⟨by decide, by decide, by decide +kernel⟩⟩
theorem yf_X11_undo : Cond.instanceMethod yX11_undo ∈ jq_T ∧ Cond.selects (yX11_undo).cls yX11_undo yX11_undo ∈ jq_T ∧ Cond.initialized (yX11_undo).cls ∈ jq_T ∧ Cond.code yX11_undo cX11_undo 1 (some .int) ∈ jq_T ∧ ((yX11_undo).cls ≠ "java/lang/invoke/MethodHandle" ∧ (yX11_undo).cls ≠ "java/lang/invoke/VarHandle" ∧ (parseMethodDescriptor (yX11_undo).desc).map (fun d => d.parameters.length) = some 0) := ⟨jq_in 2383 (by decide +kernel) rfl, jq_in 2384 (by decide +kernel) rfl, jq_in 150 (by decide +kernel) rfl, jq_in 2385 (by decide +kernel) rfl, ⟨by decide, by decide, by decide +kernel⟩⟩
