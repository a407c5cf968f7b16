/-! THE CLAIM OUT OF ONE WALK OF THE LAW'S BODY. Your part is whole_start (and what it stands on); all else here is the same for every law, but numbers. -/
def R_law : String := "StandTableLaw"
def lw_P (b : Addr) (xs : List Int32) (args : Array Value) (s : State) : Prop := args = #[.ref b] ∧ s.IntsAt b xs ∧ xs.length ≤ 3072 ∧ (Jvm.Cond.and given_1 narrow_1).before args s = true
def lw_Q (_ : Array Value) (s : State) (o : Outcome) (t : State) : Prop := o = .returned (some (.int 1)) ∧ Framed s o t [] 600000 7302250
def lw_Z (below : List Frame) (a : Array Value) (s : State) : State → Prop := fun t => ∃ o, t.status = .running ∧ Ended t below o ∧ lw_Q a s o t
/-- the law's own end, with 1 on the stack, nothing written that was there before, its room as the claim has it -/
theorem lw_ret {p : Program} {l : Launch} {e : Env} {s : State} {m : MethodId} {below : List Frame} {meth : Method} {c : Code} {b : Nat} (hx : p.tables.exec = Jvm.exec) (hb : c.code = code) (hr : meth.sig.returnType = ret) (hlocks : meth.locks = false) {pc : Nat} {H : Heap} {ls : Array Slot} (hdg : decode code pc = .ok (.ireturn, 1)) : W p l e room_1 s m #[Value.ref b] below meth c H [] 600000 7302250 (lw_Z below #[Value.ref b] s) (F0 m pc ls [.int 1]) := by
  intro T hT X
  obtain ⟨fs, hret, hrun, hended, hW, hframe⟩ := X.leave (v := some (.int 1)) (hlocks := hlocks) (fun h => by rw [hr] at h; cases h)
  have hmeth' : T.vm.method? m = some meth := X.method'
  refine ⟨T.setFrames fs, ?_, .returned (some (.int 1)), hrun, hended, rfl, ⟨_, rfl⟩, hW, hframe⟩
  jvm_step X.here [X.here.top, hx, hb, hdg, hmeth', hr, ret, narrow_b1]
  (try refine ⟨rfl, ?_⟩); (try refine ⟨rfl, ?_⟩)
  first | (intro acts; rw [hret _ acts rfl rfl rfl]) | rw [hret _ _ rfl rfl rfl]
  exact Steps.refl _
/-- what holds at the law's entry: the machine, the code, the tables' words (any of lw_tbl by 'hts w (by decide +kernel)'), the script of L ints xs at the cell b, what the Statement gives of the start (any of its parts by flat_of_before) -/
def lw_At (p : Program) (s : State) (m : MethodId) (meth : Method) (c : Code) (b L : Nat) (xs : Nat → Int32) : Prop :=
  p.tables.exec = Jvm.exec ∧ c.code = code ∧ meth.sig.returnType = ret ∧ c.maxLocals = 4 ∧ s.vm.findClass R_law = some m.cls ∧ (∀ w ∈ lw_tbl, w.before #[Value.ref b] s = true) ∧ va_X b L xs s s.heap ∧ b < s.heap.size ∧ meth.locks = false ∧ (Jvm.Cond.and given_1 narrow_1).before #[Value.ref b] s = true
section
theorem law_tys {s : State} {args : Array Value} (hts : ∀ w ∈ lw_tbl, w.before args s = true) : ∃ cs : Nat → ClassId, ∀ (k : Nat) (q : ClassId × FieldType), (jq_tys cs)[k]? = some q → ArrOfT s q.1 q.2 ∧ va_RA s q.1 q.2 := by
  obtain ⟨c0, k0, m0, a0, b0, d0⟩ := Cond.arrayClass_spec (hts (.arrayClass .int) (List.mem_of_getElem? (i := 321) (by decide +kernel)))
  obtain ⟨c1, k1, m1, a1, b1, d1⟩ := Cond.arrayClass_spec (hts (.arrayClass .long) (List.mem_of_getElem? (i := 274) (by decide +kernel)))
  obtain ⟨c2, k2, m2, a2, b2, d2⟩ := Cond.arrayClass_spec (hts (.arrayClass .byte) (List.mem_of_getElem? (i := 275) (by decide +kernel)))
  obtain ⟨m3, c3, k3, e3, -, b3, d3, a3⟩ := Cond.arrayOver_spec (hts (.arrayOver (.object "StandTable$Tray")) (List.mem_of_getElem? (i := 166) (by decide +kernel)))
  obtain ⟨m4, c4, k4, e4, -, b4, d4, a4⟩ := Cond.arrayOver_spec (hts (.arrayOver (.object "StandTable$Committee")) (List.mem_of_getElem? (i := 438) (by decide +kernel)))
  refine ⟨fun k => match k with | 0 => c0 | 1 => c1 | 2 => c2 | 3 => c3 | _ => c4, fun k q h => ?_⟩
  match k, h with
  | 0, h => cases h; exact ⟨fun n z => ⟨fun k h => (by cases h), k0, b0, m0, d0⟩, a0⟩
  | 1, h => cases h; exact ⟨fun n z => ⟨fun k h => (by cases h), k1, b1, m1, d1⟩, a1⟩
  | 2, h => cases h; exact ⟨fun n z => ⟨fun k h => (by cases h), k2, b2, m2, d2⟩, a2⟩
  | 3, h => cases h; exact ⟨fun n z => ⟨fun k h => (by cases h), k3, b3, m3, d3⟩, k3, m3, b3, d3, e3, a3⟩
  | 4, h => cases h; exact ⟨fun n z => ⟨fun k h => (by cases h), k4, b4, m4, d4⟩, k4, m4, b4, d4, e4, a4⟩
  | k + 5, h => simp [jq_tys] at h
theorem law_cls {s : State} {args : Array Value} (hts : ∀ w ∈ jq_T, w.before args s = true) : ∃ (dC : Nat → ClassId) (dI : Nat → Nat → Nat), ∀ (k : Nat) (q : vw_C), vwCl[k]? = some q → u_Kn s q.1 q.2.1 q.2.2 (dC k) (dI k) := by
  obtain ⟨c0, i0, h0⟩ := u_known (C := RX0) (T := TX0) (N := 2) (n := 2) hts cls_X0.2.1 (hts (.instantiable RX0 2) (jq_in 461 (by decide +kernel) rfl))
  obtain ⟨c1, i1, h1⟩ := u_known (C := RX1) (T := TX1) (N := 21) (n := 21) hts cls_X1.2.1 (hts (.instantiable RX1 21) (jq_in 277 (by decide +kernel) rfl))
  obtain ⟨c2, i2, h2⟩ := u_known (C := RX3) (T := TX3) (N := 8) (n := 8) hts cls_X3.2.1 (hts (.instantiable RX3 8) (jq_in 474 (by decide +kernel) rfl))
  obtain ⟨c3, i3, h3⟩ := u_known (C := RX5) (T := TX5) (N := 14) (n := 14) hts cls_X5.2.1 (hts (.instantiable RX5 14) (jq_in 168 (by decide +kernel) rfl))
  obtain ⟨c4, i4, h4⟩ := u_known (C := RX7) (T := TX7) (N := 9) (n := 9) hts cls_X7.2.1 (hts (.instantiable RX7 9) (jq_in 283 (by decide +kernel) rfl))
  obtain ⟨c5, i5, h5⟩ := u_known (C := RX8) (T := TX8) (N := 4) (n := 4) hts cls_X8.2.1 (hts (.instantiable RX8 4) (jq_in 440 (by decide +kernel) rfl))
  obtain ⟨c6, i6, h6⟩ := u_known (C := RX9) (T := TX9) (N := 3) (n := 3) hts cls_X9.2.1 (hts (.instantiable RX9 3) (jq_in 505 (by decide +kernel) rfl))
  obtain ⟨c7, i7, h7⟩ := u_known (C := RX10) (T := TX10) (N := 18) (n := 18) hts cls_X10.2.1 (hts (.instantiable RX10 18) (jq_in 158 (by decide +kernel) rfl))
  obtain ⟨c8, i8, h8⟩ := u_known (C := RX11) (T := TX11) (N := 37) (n := 37) hts cls_X11.2.1 (hts (.instantiable RX11 37) (jq_in 1553 (by decide +kernel) rfl))
  refine ⟨fun k => match k with | 0 => c0 | 1 => c1 | 2 => c2 | 3 => c3 | 4 => c4 | 5 => c5 | 6 => c6 | 7 => c7 | _ => c8, fun k => match k with | 0 => i0 | 1 => i1 | 2 => i2 | 3 => i3 | 4 => i4 | 5 => i5 | 6 => i6 | 7 => i7 | _ => i8, fun k q h => ?_⟩
  match k, h with
  | 0, h => cases h; exact h0
  | 1, h => cases h; exact h1
  | 2, h => cases h; exact h2
  | 3, h => cases h; exact h3
  | 4, h => cases h; exact h4
  | 5, h => cases h; exact h5
  | 6, h => cases h; exact h6
  | 7, h => cases h; exact h7
  | 8, h => cases h; exact h8
  | k + 9, h => simp [vwCl] at h
set_option maxRecDepth 100000 in
theorem law_strX {s : State} {b : Nat} {A : Nat → Prop} (hts : ∀ w ∈ lw_tbl, w.before #[Value.ref b] s = true) (hgv : (Jvm.Cond.and given_1 narrow_1).before #[Value.ref b] s = true) (hA : ∀ a : Nat, a < s.heap.size → ¬ A a) : ∃ ss : jq_S, jq_SF jq_zX ss A s := by
  have hs := flat_of_before _ hgv
  obtain ⟨adK, adV, h1, h2⟩ := vk_Sof (args := #[Value.ref b]) (s := s) (N := 1) (tm := fun _ => Term.string "StandTable$Reader" 19) (len := [158]) (byt := [jq_zX.2.2.2.2.2]) (A := A)
    (fun i hi => by have : i = 0 := (by omega); subst this; show (158 : Nat) < _; omega)
    (fun i _ => hs _ (by decide +kernel)) (fun i _ => hs _ (by decide +kernel)) (fun i _ => hs _ (by decide +kernel))
    (fun i hi => by have : i = 0 := (by omega); subst this; exact hs _ (by decide +kernel))
    (fun i hi j hj => by
      obtain rfl : i = 0 := by omega
      have key0 : ∀ j, j < 158 → (flatC (Jvm.Cond.and given_1 narrow_1))[31 + j]? = some (Cond.eq (.elem (.field (Term.string "StandTable$Reader" 19) "java/lang/String" "value" "[B") (.int (Int32.ofNat j))) (.int ((([jq_zX.2.2.2.2.2] : List (List Int32)).getD 0 []).getD j 0))) := by decide +kernel
      have key : ∀ j, j < 158 → (Cond.eq (.elem (.field (Term.string "StandTable$Reader" 19) "java/lang/String" "value" "[B") (.int (Int32.ofNat j))) (.int ((([jq_zX.2.2.2.2.2] : List (List Int32)).getD 0 []).getD j 0))) ∈ flatC (Jvm.Cond.and given_1 narrow_1) := fun j hj => List.mem_of_getElem? (i := 31 + j) (key0 j hj)
      exact hs _ (key j hj))
    (fun i j hi hj hij => absurd (by omega) hij) hA
  have hR : vk_R "StandTable$Reader" 19 "places corner party least at wants shuns beside facing worth article takes odds sit rise swap turn day agree withdraw any when signs agreed all loop end stop " (adK 0) s := vk_R.of (hts _ (List.mem_of_getElem? (i := 173) (by decide +kernel))) (h2 0 (by omega))
  have hC : va_Z "java/lang/String" "COMPACT_STRINGS" "Z" (.int 1) A s s.heap := va_Zof (hts (.laysStatic "java/lang/String" "COMPACT_STRINGS" "Z") (List.mem_of_getElem? (i := 183) (by decide +kernel))) (hts (.initialized "java/lang/String") (List.mem_of_getElem? (i := 140) (by decide +kernel))) (va_eqt (hs _ (by decide +kernel))) hA
  have hF0 : (Cond.isRef (Term.static "jdk/internal/util/Preconditions" "SIOOBE_FORMATTER" "Ljava/util/function/BiFunction;")).before #[Value.ref b] s = true := hs _ (by decide +kernel)
  obtain ⟨v, hF⟩ : ∃ v : Option Nat, va_Z "jdk/internal/util/Preconditions" "SIOOBE_FORMATTER" "Ljava/util/function/BiFunction;" (va_rf v) A s s.heap := by
    rcases va_Zqof (hts (.laysStatic "jdk/internal/util/Preconditions" "SIOOBE_FORMATTER" "Ljava/util/function/BiFunction;") (List.mem_of_getElem? (i := 199) (by decide +kernel))) (hts (.initialized "jdk/internal/util/Preconditions") (List.mem_of_getElem? (i := 142) (by decide +kernel))) hF0 hA with h | ⟨t, h⟩
    · exact ⟨none, h⟩
    · exact ⟨some t, h⟩
  refine ⟨(adK 0, adV 0, v), ?_, hR, hC, hF, by decide +kernel⟩
  have hl : jq_zX.2.2.2.2.2.length = 158 := by decide +kernel
  rw [hl]
  refine ⟨fun i hi => ?_, fun i j hi hj _ => by omega⟩
  obtain rfl : i = 0 := by omega
  exact h1.1 0 (by omega)
set_option maxRecDepth 100000 in
theorem law_strM {s : State} {b : Nat} {A : Nat → Prop} (hts : ∀ w ∈ lw_tbl, w.before #[Value.ref b] s = true) (hgv : (Jvm.Cond.and given_1 narrow_1).before #[Value.ref b] s = true) (hA : ∀ a : Nat, a < s.heap.size → ¬ A a) : ∃ ss : jq_S, jq_SF jq_zM ss A s := by
  have hs := flat_of_before _ hgv
  obtain ⟨adK, adV, h1, h2⟩ := vk_Sof (args := #[Value.ref b]) (s := s) (N := 1) (tm := fun _ => Term.string "StandTableModel" 177) (len := [159]) (byt := [jq_zM.2.2.2.2.2]) (A := A)
    (fun i hi => by have : i = 0 := (by omega); subst this; show (159 : Nat) < _; omega)
    (fun i _ => hs _ (by decide +kernel)) (fun i _ => hs _ (by decide +kernel)) (fun i _ => hs _ (by decide +kernel))
    (fun i hi => by have : i = 0 := (by omega); subst this; exact hs _ (by decide +kernel))
    (fun i hi j hj => by
      obtain rfl : i = 0 := by omega
      have key0 : ∀ j, j < 159 → (flatC (Jvm.Cond.and given_1 narrow_1))[193 + j]? = some (Cond.eq (.elem (.field (Term.string "StandTableModel" 177) "java/lang/String" "value" "[B") (.int (Int32.ofNat j))) (.int ((([jq_zM.2.2.2.2.2] : List (List Int32)).getD 0 []).getD j 0))) := by decide +kernel
      have key : ∀ j, j < 159 → (Cond.eq (.elem (.field (Term.string "StandTableModel" 177) "java/lang/String" "value" "[B") (.int (Int32.ofNat j))) (.int ((([jq_zM.2.2.2.2.2] : List (List Int32)).getD 0 []).getD j 0))) ∈ flatC (Jvm.Cond.and given_1 narrow_1) := fun j hj => List.mem_of_getElem? (i := 193 + j) (key0 j hj)
      exact hs _ (key j hj))
    (fun i j hi hj hij => absurd (by omega) hij) hA
  have hR : vk_R "StandTableModel" 177 " places corner party wants shuns article least at beside facing worth takes odds sit rise swap turn day agree withdraw any when loop end stop signs agreed all " (adK 0) s := vk_R.of (hts _ (List.mem_of_getElem? (i := 1761) (by decide +kernel))) (h2 0 (by omega))
  have hC : va_Z "java/lang/String" "COMPACT_STRINGS" "Z" (.int 1) A s s.heap := va_Zof (hts (.laysStatic "java/lang/String" "COMPACT_STRINGS" "Z") (List.mem_of_getElem? (i := 183) (by decide +kernel))) (hts (.initialized "java/lang/String") (List.mem_of_getElem? (i := 140) (by decide +kernel))) (va_eqt (hs _ (by decide +kernel))) hA
  have hF0 : (Cond.isRef (Term.static "jdk/internal/util/Preconditions" "SIOOBE_FORMATTER" "Ljava/util/function/BiFunction;")).before #[Value.ref b] s = true := hs _ (by decide +kernel)
  obtain ⟨v, hF⟩ : ∃ v : Option Nat, va_Z "jdk/internal/util/Preconditions" "SIOOBE_FORMATTER" "Ljava/util/function/BiFunction;" (va_rf v) A s s.heap := by
    rcases va_Zqof (hts (.laysStatic "jdk/internal/util/Preconditions" "SIOOBE_FORMATTER" "Ljava/util/function/BiFunction;") (List.mem_of_getElem? (i := 199) (by decide +kernel))) (hts (.initialized "jdk/internal/util/Preconditions") (List.mem_of_getElem? (i := 142) (by decide +kernel))) hF0 hA with h | ⟨t, h⟩
    · exact ⟨none, h⟩
    · exact ⟨some t, h⟩
  refine ⟨(adK 0, adV 0, v), ?_, hR, hC, hF, by decide +kernel⟩
  have hl : jq_zM.2.2.2.2.2.length = 159 := by decide +kernel
  rw [hl]
  refine ⟨fun i hi => ?_, fun i j hi hj _ => by omega⟩
  obtain rfl : i = 0 := by omega
  exact h1.1 0 (by omega)
end
