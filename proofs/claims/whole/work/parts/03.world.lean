/-! the words that all methods share; what a system's cells are -/
def jq_T : List Cond := lw_tbl.filter goodWord
theorem jq_in (i : Nat) {w : Cond} (h : lw_tbl[i]? = some w) (hg : goodWord w = true) : w ∈ jq_T := List.mem_filter.mpr ⟨List.mem_of_getElem? h, hg⟩
theorem jq_T_tbl {w : Cond} (h : w ∈ jq_T) : w ∈ lw_tbl := (List.mem_filter.mp h).1
theorem jq_T_good {w : Cond} (h : w ∈ jq_T) : (w.onTables && w.keeps) = true ∨ ∃ ty, w = .arrayClass ty := good_of_word (List.mem_filter.mp h).2
/-- the nest words -/
def jq_isN : Cond → Bool
  | .methodLinkNest .. => true
  | _ => false
def jq_TN : List Cond := lw_tbl.filter jq_isN
theorem jq_inN (i : Nat) {w : Cond} (h : lw_tbl[i]? = some w) (hg : jq_isN w = true) : w ∈ jq_TN := List.mem_filter.mpr ⟨List.mem_of_getElem? h, hg⟩
def jq_N (U : State) : Prop := ∀ w ∈ jq_TN, va_Nw w U
theorem jq_N_warm {s U : State} (hW : s.WarmedH U.vm) (h : jq_N s) : jq_N U := by
  intro w hw
  have h1 := h w hw
  have h2 := (List.mem_filter.mp hw).2
  cases w <;> first | exact va_Nw.warmM hW h1 | cases h2
theorem jq_N_same {u U : State} (hv : u.vm = U.vm) (h : jq_N u) : jq_N U := by
  intro w hw
  have h1 := h w hw
  have h2 := (List.mem_filter.mp hw).2
  cases w <;> first | exact va_Nw.same rfl hv h1 | cases h2
/-- a system: its cells' kinds (0 int[], 1 long[], 2 byte[], 3 and 4 arrays of objects, 10 + k objects of class k; how many places), and which places hold what for good -/
abbrev jq_Z : Type := List (Nat × Nat) × List (Int × Int × List Int) × String × Nat × String × List Int32
/-- the fields' types, class by class: 0 int, 1 long, 2 reference, 3 boolean -/
def jq_tl : List (List Nat) := [[2, 2], [0, 0, 0, 0, 0, 0, 0, 2, 2, 2, 2, 2, 2, 2, 2, 2, 2, 2, 2, 2, 2], [0, 0, 0, 0, 0, 3, 0, 2], [2, 2, 0, 0, 0, 0, 0, 0, 0, 1, 3, 0, 0, 0], [3, 0, 0, 2, 2, 2, 2, 2, 0], [2, 2, 2, 2], [0, 0, 2], [0, 1, 1, 2, 2, 0, 0, 2, 2, 2, 2, 0, 2, 2, 2, 2, 3, 2], [2, 2, 0, 1, 1, 2, 2, 2, 2, 2, 0, 0, 0, 0, 0, 0, 0, 0, 0, 0, 2, 0, 0, 2, 2, 2, 2, 0, 2, 2, 0, 0, 2, 2, 2, 3, 0]]
def jq_ft (ci j : Nat) : Nat := (jq_tl.getD ci []).getD j 0
def jq_code : Option FieldType → Nat
  | some .int => 0
  | some .long => 1
  | some .boolean => 3
  | some (.object _) => 2
  | some (.array _) => 2
  | _ => 9
theorem jq_tl_ok : ∀ ci, ci < 9 → ∀ j, j < (vwCl.getD ci ("", fun _ => ("", "", "", false), 0)).2.2 → jq_code (parseFieldDescriptor ((vwCl.getD ci ("", fun _ => ("", "", "", false), 0)).2.1 j).2.2.1) = jq_ft ci j := by decide +kernel
/-- the type of a place of a cell of a kind -/
def jq_ty (kd : Nat × Nat) (j : Nat) : Nat := match kd.1 with
  | 0 => 0
  | 1 => 1
  | 2 => 4
  | 3 => 2
  | 4 => 2
  | t => jq_ft (t - 10) j
def jq_rg (ty : Nat) (x : Int) : Prop := match ty with
  | 0 => jq_r x
  | 1 => jq_rl x
  | 2 => True
  | 3 => x = 0 ∨ x = 1
  | _ => -128 ≤ x ∧ x < 128
theorem jq_rg_r {ty : Nat} {x : Int} (h : jq_rg ty x) (h1 : ty ≠ 1) (h2 : ty ≠ 2) : jq_r x := by
  unfold jq_rg at h
  unfold jq_r at *
  split at h
  · exact h
  · exact absurd rfl h1
  · exact absurd rfl h2
  · omega
  · omega
def jq_wf (Z : jq_Z) (n : Nat) (σ : jq_M) : Prop := ∀ (k j : Nat) (kd : Nat × Nat), k < n → Z.1[k]? = some kd → j < kd.2 → jq_rg (jq_ty kd j) (σ k j)
def jq_lay (Z : jq_Z) (σ : jq_M) : Prop := ∀ q ∈ Z.2.1, σ q.1 q.2.1 ∈ q.2.2
/-- what is held for good are references -/
def jq_zok (Z : jq_Z) : Prop := ∀ q ∈ Z.2.1, ∃ (k j : Nat) (kd : Nat × Nat), q.1 = (k : Int) ∧ q.2.1 = (j : Int) ∧ Z.1[k]? = some kd ∧ jq_ty kd j = 2
/-- the one String constant of a system -/
def jq_SF (Z : jq_Z) (ss : jq_S) (A : Nat → Prop) (U : State) : Prop := vk_S 1 [Z.2.2.2.2.2.length] [Z.2.2.2.2.2] (fun _ => ss.1) (fun _ => ss.2.1) A U U.heap ∧ vk_R Z.2.2.1 Z.2.2.2.1 Z.2.2.2.2.1 ss.1 U ∧ va_Z "java/lang/String" "COMPACT_STRINGS" "Z" (.int 1) A U U.heap ∧ va_Z "jdk/internal/util/Preconditions" "SIOOBE_FORMATTER" "Ljava/util/function/BiFunction;" (va_rf ss.2.2) A U U.heap ∧ Z.2.2.2.2.2.length < 1000000
/-- a value in a field -/
def jq_fv (b : Nat) (ty : Nat) (x : Int) : Value := match ty with
  | 1 => .long (Int64.ofInt x)
  | 2 => va_rf (jq_f b x)
  | _ => .int (Int32.ofInt x)
def jq_en (b : Nat) (cs : Nat → ClassId) (kd : Nat × Nat) (f : Int → Int) : va_E := match kd.1 with
  | 0 => .inl (cs 0, kd.2, .inl fun j => Int32.ofInt (f j))
  | 1 => .inl (cs 1, kd.2, .inr (.inl fun j => Int64.ofInt (f j)))
  | 2 => .inl (cs 2, kd.2, .inl fun j => Int32.ofInt (f j))
  | 3 => .inl (cs 3, kd.2, .inr (.inr (.inr (.inr fun j => jq_f b (f j)))))
  | 4 => .inl (cs 4, kd.2, .inr (.inr (.inr (.inr fun j => jq_f b (f j)))))
  | t => .inr (t - 10, (List.range kd.2).map fun j => jq_fv b (jq_ft (t - 10) j) (f j))
def jq_kd (Z : jq_Z) (k : Nat) : Nat × Nat := Z.1.getD k (0, 0)
def jq_ws (b : Nat) (cs : Nat → ClassId) (Z : jq_Z) (n : Nat) (σ : jq_M) : va_W := (List.range n).map fun k => (b + k, jq_en b cs (jq_kd Z k) (σ k))
def jq_tys (cs : Nat → ClassId) : List (ClassId × FieldType) := [(cs 0, .int), (cs 1, .long), (cs 2, .byte), (cs 3, .object "StandTable$Tray"), (cs 4, .object "StandTable$Committee")]
theorem jq_ws_at {b : Nat} {cs : Nat → ClassId} {Z : jq_Z} {n : Nat} {σ : jq_M} {k : Nat} {kd : Nat × Nat} (hk : k < n) (h : Z.1[k]? = some kd) : (jq_ws b cs Z n σ)[k]? = some (b + k, jq_en b cs kd (σ k)) := by
  unfold jq_ws jq_kd
  rw [List.getElem?_map, List.getElem?_range hk]
  simp [h]
theorem jq_ws_len {b : Nat} {cs : Nat → ClassId} {Z : jq_Z} {n : Nat} {σ : jq_M} : (jq_ws b cs Z n σ).length = n := by simp [jq_ws]
theorem jq_ws_set {b : Nat} {cs : Nat → ClassId} {Z : jq_Z} {n : Nat} {σ σ' : jq_M} {k : Nat} {kd : Nat × Nat} {e : va_E} (hk : k < n) (h : Z.1[k]? = some kd) (he : e = jq_en b cs kd (σ' k)) (ho : ∀ q : Nat, q ≠ k → σ' q = σ q) : (jq_ws b cs Z n σ).set k (b + k, e) = jq_ws b cs Z n σ' := by
  subst he
  apply List.ext_getElem?
  intro i
  by_cases hi : i = k
  · subst hi
    rw [List.getElem?_set_self (by rw [jq_ws_len]; exact hk), jq_ws_at hk h]
  · rw [List.getElem?_set_ne (Ne.symm hi)]
    unfold jq_ws
    rw [List.getElem?_map, List.getElem?_map]
    by_cases hin : i < n
    · rw [List.getElem?_range hin]
      simp [ho i hi]
    · rw [List.getElem?_eq_none (by simp; omega)]
      rfl
theorem jq_ws_D {b : Nat} {cs : Nat → ClassId} {Z : jq_Z} {n : Nat} {σ : jq_M} {A : Nat → Prop} (h : ∀ k : Nat, k < n → A (b + k)) : va_D A (jq_ws b cs Z n σ) := by
  have key : ∀ (i : Nat) (q : Nat × va_E), (jq_ws b cs Z n σ)[i]? = some q → i < n ∧ q.1 = b + i := by
    intro i q hq
    unfold jq_ws at hq
    rw [List.getElem?_map] at hq
    by_cases hin : i < n
    · rw [List.getElem?_range hin] at hq
      refine ⟨hin, ?_⟩
      cases hq
      rfl
    · rw [List.getElem?_eq_none (by simp; omega)] at hq
      cases hq
  refine ⟨fun i j p q hi hj hpq => ?_, fun k q hk => ?_⟩
  · have h1 := key i p hi
    have h2 := key j q hj
    omega
  · obtain ⟨h1, h2⟩ := key k q hk
    rw [h2]
    exact h k h1
theorem jq_ws_push {b : Nat} {cs : Nat → ClassId} {Z : jq_Z} {n : Nat} {σ : jq_M} {kd : Nat × Nat} {f : Int → Int} (h : Z.1[n]? = some kd) : jq_ws b cs Z n σ ++ [(b + n, jq_en b cs kd f)] = jq_ws b cs Z (n + 1) (jq_al σ n f) := by
  unfold jq_ws jq_kd
  rw [List.range_succ, List.map_append]
  congr 1
  · refine List.map_congr_left fun k hk => ?_
    have : k < n := List.mem_range.mp hk
    have e : jq_al σ n f k = σ k := by
      funext j
      unfold jq_al
      rw [if_neg (by omega)]
    rw [e]
  · have e : jq_al σ n f n = f := by
      funext j
      unfold jq_al
      rw [if_pos rfl]
    simp [h, e]
/-! the walk's own state -/
abbrev jq_X : Type := (Program × Launch × Env × Room × State × MethodId × Array Value × List Frame × Method × Code) × ((Nat → Prop) × (State → Prop) × Nat × Nat × va_G × (Nat → ClassId) × jq_S × Prop)
def jq_nL (X : jq_X) : Nat := X.2.2.2.1
abbrev jq_z : Type := Nat × Nat × Nat × Bool
def jq_V (Z : jq_Z) (X : jq_X) (z : jq_z) (σ : jq_M) (pc : Nat) (L : List (Nat × jq_A)) (st : List jq_A) : Prop := match X with
  | ((p, l, e, R, s, m, args, below, meth, c), (A, Q, nL, b, D, cs, ss, ly)) => jq_os st → jq_ol L → jq_wf Z z.1 σ → (ly → jq_lay Z σ) →
    ∀ (H : Heap) (locs : List Loc) (ls : Array Slot), va_P D vwCl (jq_ws b cs Z z.1 σ) H → va_S A s.heap H locs → (z.2.2.2 = true → H.size = b + z.1) → lv_has ls nL (jq_eL b ss L) →
      W p l e R s m args below meth c H locs z.2.1 z.2.2.1 Q (F0 m pc ls (jq_eS b ss st))
/-- what a walk stands on: the code, the class, the tables' words -/
def jq_G (Z : jq_Z) (X : jq_X) (z : jq_z) (own : String) (cc : ByteArray) (fr lo : Nat) : Prop := match X with
  | ((p, l, e, R, s, m, args, below, meth, c), (A, Q, nL, b, D, cs, ss, ly)) => p.tables.exec = Jvm.exec ∧ c.code = cc ∧ c.maxLocals = nL ∧ s.vm.findClass own = some m.cls ∧ (∀ w ∈ jq_T, w.before args s = true) ∧ va_K D vwCl (jq_tys cs) s ∧ meth.locks = false ∧ (∀ k : Nat, k < z.1 → A (b + k)) ∧ fr ≤ R.frames ∧ lo ≤ R.locals ∧ z.2.1 ≤ R.cells ∧ z.2.2.1 ≤ R.slots ∧ (z.2.2.2 = true → ∀ q : Nat, b ≤ q → A q) ∧ jq_zok Z ∧ jq_SF Z ss A s ∧ (∀ q : Nat, A q → b ≤ q) ∧ jq_N s
/-- a cell of a kind -/
def jq_at (Z : jq_Z) (z : jq_z) (k : Int) (kd : Nat × Nat) : Prop := ∃ n : Nat, k = (n : Int) ∧ n < z.1 ∧ Z.1[n]? = some kd
