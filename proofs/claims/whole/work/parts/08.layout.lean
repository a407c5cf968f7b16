section
variable {Z : jq_Z} {X : jq_X} {z : jq_z} {own : String} {cc : ByteArray} {fr lo : Nat} {σ : jq_M} {pc : Nat} {L : List (Nat × jq_A)} {st : List jq_A} {α : Type} {F : Option α} {K : α → Prop}
theorem jq_at_0 {k : Int} {kd : Nat × Nat} (h : jq_at Z z k kd) : 0 ≤ k := by
  obtain ⟨n, rfl, -, -⟩ := h
  omega
theorem jq_use2 {F : Option α} {P : α → Prop} {G : Prop} (k : ∀ K0 : α → Prop, (∀ r, K0 r → P r) → jq_J F K0 G) {r : α} (h : F = some r) (hP : P r) : G := k P (fun _ h => h) r h hP
theorem jq_loop2 {S E : Type} {body : S → Option (S ⊕ E)} {g : E → Option α} {K : α → Prop} (C : S → Prop) (KX : E → Prop) (hb : ∀ (K1 : S ⊕ E → Prop), (∀ s, K1 (.inl s) → C s) → (∀ e, K1 (.inr e) → KX e) → ∀ s, jq_J (body s) K1 (C s)) (hg : ∀ e, jq_J (g e) K (KX e)) (s0 : S) : jq_J ((jq_lp body s0).bind g) K (C s0) :=
  jq_loop C KX (fun s => hb _ (fun _ h => h) (fun _ h => h) s) hg s0
theorem jq_elim {A B : Type} {f : A → Option α} {g : B → Option α} {KA : A → Prop} {KB : B → Prop} (ha : ∀ a, jq_J (f a) K (KA a)) (hb : ∀ b, jq_J (g b) K (KB b)) : ∀ e, jq_J (Sum.elim f g e) K (Sum.elim KA KB e) := by
  rintro (a | b)
  · exact ha a
  · exact hb b
def jq_bl (v : Int) : Option Int := if v = 0 ∨ v = 1 then some v else none
theorem jq_blN {v : Int} {f : Int → Option α} (k : ∀ x : Int, (x = 0 ∨ x = 1) → jq_J (f x) K (jq_V Z X z σ pc L (jI x :: st))) : jq_J ((jq_bl v).bind f) K (jq_V Z X z σ pc L (jI v :: st)) := by
  intro a h hK
  unfold jq_bl at h
  by_cases hv : v = 0 ∨ v = 1
  · rw [if_pos hv] at h
    exact k v hv a h hK
  · rw [if_neg hv] at h
    cases h
theorem jq_iincN (Γ : jq_G Z X z own cc fr lo) {i NL : Nat} {x n : Int} {f : Int → Option α} {L' : Int → List (Nat × jq_A)} (d : decode cc pc = .ok (.iinc i n, 3)) (q : Nat) (h : L[q]? = some (i, jI x)) (hnl : jq_nL X = NL) (hn : Nat.ble (i + 1) NL = true) (hL : ∀ v : Int, (i, jI v) :: L.filter (fun q => !(q.1 == i) && !(q.1 + 1 == i && jq_c q.2 == 2)) = L' v) (k : ∀ v, jq_J (f v) K (jq_V Z X z σ (pc + 3) (L' v) st)) : jq_J (jq_lt (jq_w (x + n)) f) K (jq_V Z X z σ pc L st) :=
  jq_iinc Γ d q h hnl hn _ rfl (hL _) (k _)
theorem jq_ldcS (Γ : jq_G Z X z own cc fr lo) {ix : Nat} (d : decode cc pc = .ok (.ldc ix, 2)) (ho : Z.2.2.1 = own) (hi : Z.2.2.2.1 = ix) (k : jq_J F K (jq_V Z X z σ (pc + 2) L (jT 0 :: st))) : jq_J F K (jq_V Z X z σ pc L st) := by
  rcases X with ⟨⟨p, l, e, R, s, m, args, below, meth, c⟩, A, Q, nL, b, D, cs, ss, ly⟩
  obtain ⟨hx, hb, hml, hown, hts, hK, hlk, hA, hfr, hlo, hc, hs, hal, hzk, hSF, hAb, hNw⟩ := Γ
  intro r hF hR hos hol hwf hly H locs ls hP hS hsz hl
  have hZ := hSF.2.1
  rw [ho, hi] at hZ
  exact va_ldcS hx hb hown hZ d (k r hF hR (jq_os_c.mpr ⟨trivial, hos⟩) hol hwf hly H locs ls hP hS hsz hl)
/-- a char of the system's String constant -/
def jq_sch (Z : jq_Z) (i : Int) : Option Int := if 0 ≤ i ∧ i < (Z.2.2.2.2.2.length : Int) then some ((Z.2.2.2.2.2.getD i.toNat 0).toInt) else none
end
def jq_zX_o : List (Nat × Nat) := [(17, 18), (3, 4), (13, 14), (1, 28), (2, 900), (11, 21), (1, 5), (0, 5), (0, 5), (0, 20), (0, 20), (0, 20), (0, 20), (1, 8), (0, 8), (0, 8), (0, 8), (0, 8), (14, 9), (0, 60), (0, 60), (0, 60), (0, 60), (0, 3), (0, 5), (11, 21), (1, 5), (0, 5), (0, 5), (0, 20), (0, 20), (0, 20), (0, 20), (1, 8), (0, 8), (0, 8), (0, 8), (0, 8), (14, 9), (0, 60), (0, 60), (0, 60), (0, 60), (0, 3), (0, 5), (14, 9), (0, 60), (0, 60), (0, 60), (0, 60), (0, 3), (4, 3), (15, 4), (0, 5), (0, 5), (0, 5), (0, 720), (10, 2), (0, 256), (0, 8), (12, 8), (0, 60), (0, 5), (0, 5), (16, 3), (1, 60), (16, 3), (1, 60), (16, 3), (1, 60), (16, 3), (1, 60), (11, 21), (1, 5), (0, 5), (0, 5), (0, 20), (0, 20), (0, 20), (0, 20), (1, 8), (0, 8), (0, 8), (0, 8), (0, 8), (14, 9), (0, 60), (0, 60), (0, 60), (0, 60), (0, 3), (0, 5), (11, 21), (1, 5), (0, 5), (0, 5), (0, 20), (0, 20), (0, 20), (0, 20), (1, 8), (0, 8), (0, 8), (0, 8), (0, 8), (14, 9), (0, 60), (0, 60), (0, 60), (0, 60), (0, 3), (0, 5), (11, 21), (1, 5), (0, 5), (0, 5), (0, 20), (0, 20), (0, 20), (0, 20), (1, 8), (0, 8), (0, 8), (0, 8), (0, 8), (14, 9), (0, 60), (0, 60), (0, 60), (0, 60), (0, 3), (0, 5)]
def jq_zX_l : List (Int × Int × List Int) := [(0, 3, [1]), (0, 4, [2]), (0, 7, [5, 25]), (0, 8, [5, 25]), (0, 9, [45]), (0, 10, [51]), (0, 12, [52]), (0, 13, [57]), (0, 14, [60]), (0, 15, [62]), (0, 17, [63]), (1, 0, [64]), (1, 1, [66]), (1, 2, [68]), (1, 3, [70]), (2, 0, [3]), (2, 1, [4]), (5, 7, [6]), (5, 8, [7]), (5, 9, [8]), (5, 10, [9]), (5, 11, [10]), (5, 12, [11]), (5, 13, [12]), (5, 14, [13]), (5, 15, [14]), (5, 16, [15]), (5, 17, [16]), (5, 18, [17]), (5, 19, [18]), (5, 20, [24]), (18, 3, [19]), (18, 4, [20]), (18, 5, [21]), (18, 6, [22]), (18, 7, [23]), (25, 7, [26]), (25, 8, [27]), (25, 9, [28]), (25, 10, [29]), (25, 11, [30]), (25, 12, [31]), (25, 13, [32]), (25, 14, [33]), (25, 15, [34]), (25, 16, [35]), (25, 17, [36]), (25, 18, [37]), (25, 19, [38]), (25, 20, [44]), (38, 3, [39]), (38, 4, [40]), (38, 5, [41]), (38, 6, [42]), (38, 7, [43]), (45, 3, [46]), (45, 4, [47]), (45, 5, [48]), (45, 6, [49]), (45, 7, [50]), (51, 0, [72]), (51, 1, [92]), (51, 2, [112]), (52, 0, [53]), (52, 1, [54]), (52, 2, [55]), (52, 3, [56]), (57, 0, [58]), (57, 1, [59]), (60, 7, [61]), (64, 2, [65]), (66, 2, [67]), (68, 2, [69]), (70, 2, [71]), (72, 7, [73]), (72, 8, [74]), (72, 9, [75]), (72, 10, [76]), (72, 11, [77]), (72, 12, [78]), (72, 13, [79]), (72, 14, [80]), (72, 15, [81]), (72, 16, [82]), (72, 17, [83]), (72, 18, [84]), (72, 19, [85]), (72, 20, [91]), (85, 3, [86]), (85, 4, [87]), (85, 5, [88]), (85, 6, [89]), (85, 7, [90]), (92, 7, [93]), (92, 8, [94]), (92, 9, [95]), (92, 10, [96]), (92, 11, [97]), (92, 12, [98]), (92, 13, [99]), (92, 14, [100]), (92, 15, [101]), (92, 16, [102]), (92, 17, [103]), (92, 18, [104]), (92, 19, [105]), (92, 20, [111]), (105, 3, [106]), (105, 4, [107]), (105, 5, [108]), (105, 6, [109]), (105, 7, [110]), (112, 7, [113]), (112, 8, [114]), (112, 9, [115]), (112, 10, [116]), (112, 11, [117]), (112, 12, [118]), (112, 13, [119]), (112, 14, [120]), (112, 15, [121]), (112, 16, [122]), (112, 17, [123]), (112, 18, [124]), (112, 19, [125]), (112, 20, [131]), (125, 3, [126]), (125, 4, [127]), (125, 5, [128]), (125, 6, [129]), (125, 7, [130])]
def jq_zX : jq_Z := (jq_zX_o, jq_zX_l, "StandTable$Reader", 19, "places corner party least at wants shuns beside facing worth article takes odds sit rise swap turn day agree withdraw any when signs agreed all loop end stop ", [112, 108, 97, 99, 101, 115, 32, 99, 111, 114, 110, 101, 114, 32, 112, 97, 114, 116, 121, 32, 108, 101, 97, 115, 116, 32, 97, 116, 32, 119, 97, 110, 116, 115, 32, 115, 104, 117, 110, 115, 32, 98, 101, 115, 105, 100, 101, 32, 102, 97, 99, 105, 110, 103, 32, 119, 111, 114, 116, 104, 32, 97, 114, 116, 105, 99, 108, 101, 32, 116, 97, 107, 101, 115, 32, 111, 100, 100, 115, 32, 115, 105, 116, 32, 114, 105, 115, 101, 32, 115, 119, 97, 112, 32, 116, 117, 114, 110, 32, 100, 97, 121, 32, 97, 103, 114, 101, 101, 32, 119, 105, 116, 104, 100, 114, 97, 119, 32, 97, 110, 121, 32, 119, 104, 101, 110, 32, 115, 105, 103, 110, 115, 32, 97, 103, 114, 101, 101, 100, 32, 97, 108, 108, 32, 108, 111, 111, 112, 32, 101, 110, 100, 32, 115, 116, 111, 112, 32])
theorem jq_zX_k : jq_zok jq_zX := by
  have h : ∀ q ∈ jq_zX_l, 0 ≤ q.1 ∧ 0 ≤ q.2.1 ∧ ((jq_zX_o[q.1.toNat]?).map (fun kd => jq_ty kd q.2.1.toNat)) = some 2 := by decide +kernel
  intro q hq
  obtain ⟨h1, h2, h3⟩ := h q hq
  cases hk : jq_zX_o[q.1.toNat]? with
  | none => rw [hk] at h3; cases h3
  | some kd =>
    rw [hk] at h3
    exact ⟨q.1.toNat, q.2.1.toNat, kd, by omega, by omega, hk, Option.some.inj h3⟩
def jq_zM_o : List (Nat × Nat) := [(18, 37), (0, 3174), (1, 78), (0, 4), (0, 4), (1, 240), (2, 900), (2, 900), (0, 3), (0, 5), (0, 4), (0, 4), (0, 20), (0, 256), (0, 8), (0, 80), (0, 5), (0, 5)]
def jq_zM_l : List (Int × Int × List Int) := [(0, 0, [1]), (0, 1, [2]), (0, 5, [3]), (0, 6, [4]), (0, 7, [5]), (0, 8, [6]), (0, 9, [7]), (0, 20, [8]), (0, 23, [9]), (0, 24, [10]), (0, 25, [11]), (0, 26, [12]), (0, 28, [13]), (0, 29, [14]), (0, 32, [15]), (0, 33, [16]), (0, 34, [17])]
def jq_zM : jq_Z := (jq_zM_o, jq_zM_l, "StandTableModel", 177, " places corner party wants shuns article least at beside facing worth takes odds sit rise swap turn day agree withdraw any when loop end stop signs agreed all ", [32, 112, 108, 97, 99, 101, 115, 32, 99, 111, 114, 110, 101, 114, 32, 112, 97, 114, 116, 121, 32, 119, 97, 110, 116, 115, 32, 115, 104, 117, 110, 115, 32, 97, 114, 116, 105, 99, 108, 101, 32, 108, 101, 97, 115, 116, 32, 97, 116, 32, 98, 101, 115, 105, 100, 101, 32, 102, 97, 99, 105, 110, 103, 32, 119, 111, 114, 116, 104, 32, 116, 97, 107, 101, 115, 32, 111, 100, 100, 115, 32, 115, 105, 116, 32, 114, 105, 115, 101, 32, 115, 119, 97, 112, 32, 116, 117, 114, 110, 32, 100, 97, 121, 32, 97, 103, 114, 101, 101, 32, 119, 105, 116, 104, 100, 114, 97, 119, 32, 97, 110, 121, 32, 119, 104, 101, 110, 32, 108, 111, 111, 112, 32, 101, 110, 100, 32, 115, 116, 111, 112, 32, 115, 105, 103, 110, 115, 32, 97, 103, 114, 101, 101, 100, 32, 97, 108, 108, 32])
theorem jq_zM_k : jq_zok jq_zM := by
  have h : ∀ q ∈ jq_zM_l, 0 ≤ q.1 ∧ 0 ≤ q.2.1 ∧ ((jq_zM_o[q.1.toNat]?).map (fun kd => jq_ty kd q.2.1.toNat)) = some 2 := by decide +kernel
  intro q hq
  obtain ⟨h1, h2, h3⟩ := h q hq
  cases hk : jq_zM_o[q.1.toNat]? with
  | none => rw [hk] at h3; cases h3
  | some kd =>
    rw [hk] at h3
    exact ⟨q.1.toNat, q.2.1.toNat, kd, by omega, by omega, hk, Option.some.inj h3⟩
def jq_com (c : Int) : Prop := c = 5 ∨ c = 25 ∨ c = 72 ∨ c = 92 ∨ c = 112
def jq_cm2 (c : Int) : Prop := c = 5 ∨ c = 25
theorem jq_cm2_com {c : Int} (h : jq_cm2 c) : jq_com c := by unfold jq_cm2 at h; unfold jq_com; omega
def jq_stp (c : Int) : Prop := c = 18 ∨ c = 38 ∨ c = 45 ∨ c = 85 ∨ c = 105 ∨ c = 125
def jq_trp (c : Int) : Prop := c = 64 ∨ c = 66 ∨ c = 68 ∨ c = 70
def jq_row (c : Int) : Prop := c = 8 ∨ c = 28 ∨ c = 75 ∨ c = 95 ∨ c = 115 ∨ c = 53 ∨ c = 55 ∨ c = 62 ∨ c = 63
theorem stp_com {c : Int} (h : jq_com c) : jq_stp (c + 13) := by unfold jq_com at h; unfold jq_stp; omega
theorem stp_45 : jq_stp 45 := by unfold jq_stp; omega
theorem row_com {c : Int} (h : jq_com c) : jq_row (c + 3) := by unfold jq_com at h; unfold jq_row; omega
theorem row_53 : jq_row 53 := by unfold jq_row; omega
theorem row_55 : jq_row 55 := by unfold jq_row; omega
theorem row_62 : jq_row 62 := by unfold jq_row; omega
theorem row_63 : jq_row 63 := by unfold jq_row; omega
theorem trp_i {i : Int} (h1 : 0 ≤ i) (h2 : i < 4) : jq_trp (64 + 2 * i) := by unfold jq_trp; omega
theorem com_i {i : Int} (h1 : 0 ≤ i) (h2 : i < 3) : jq_com (72 + 20 * i) := by unfold jq_com; omega
theorem at_X_0 : jq_at jq_zX (jq_zN jq_zX) 0 (17, 18) := ⟨0, rfl, by decide +kernel, by decide +kernel⟩
theorem at_X_1 : jq_at jq_zX (jq_zN jq_zX) 1 (3, 4) := ⟨1, rfl, by decide +kernel, by decide +kernel⟩
theorem at_X_2 : jq_at jq_zX (jq_zN jq_zX) 2 (13, 14) := ⟨2, rfl, by decide +kernel, by decide +kernel⟩
theorem at_X_3 : jq_at jq_zX (jq_zN jq_zX) 3 (1, 28) := ⟨3, rfl, by decide +kernel, by decide +kernel⟩
theorem at_X_4 : jq_at jq_zX (jq_zN jq_zX) 4 (2, 900) := ⟨4, rfl, by decide +kernel, by decide +kernel⟩
theorem at_X_45 : jq_at jq_zX (jq_zN jq_zX) 45 (14, 9) := ⟨45, rfl, by decide +kernel, by decide +kernel⟩
theorem at_X_46 : jq_at jq_zX (jq_zN jq_zX) 46 (0, 60) := ⟨46, rfl, by decide +kernel, by decide +kernel⟩
theorem at_X_47 : jq_at jq_zX (jq_zN jq_zX) 47 (0, 60) := ⟨47, rfl, by decide +kernel, by decide +kernel⟩
theorem at_X_48 : jq_at jq_zX (jq_zN jq_zX) 48 (0, 60) := ⟨48, rfl, by decide +kernel, by decide +kernel⟩
theorem at_X_49 : jq_at jq_zX (jq_zN jq_zX) 49 (0, 60) := ⟨49, rfl, by decide +kernel, by decide +kernel⟩
theorem at_X_50 : jq_at jq_zX (jq_zN jq_zX) 50 (0, 3) := ⟨50, rfl, by decide +kernel, by decide +kernel⟩
theorem at_X_51 : jq_at jq_zX (jq_zN jq_zX) 51 (4, 3) := ⟨51, rfl, by decide +kernel, by decide +kernel⟩
theorem at_X_52 : jq_at jq_zX (jq_zN jq_zX) 52 (15, 4) := ⟨52, rfl, by decide +kernel, by decide +kernel⟩
theorem at_X_53 : jq_at jq_zX (jq_zN jq_zX) 53 (0, 5) := ⟨53, rfl, by decide +kernel, by decide +kernel⟩
theorem at_X_54 : jq_at jq_zX (jq_zN jq_zX) 54 (0, 5) := ⟨54, rfl, by decide +kernel, by decide +kernel⟩
theorem at_X_55 : jq_at jq_zX (jq_zN jq_zX) 55 (0, 5) := ⟨55, rfl, by decide +kernel, by decide +kernel⟩
theorem at_X_56 : jq_at jq_zX (jq_zN jq_zX) 56 (0, 720) := ⟨56, rfl, by decide +kernel, by decide +kernel⟩
theorem at_X_57 : jq_at jq_zX (jq_zN jq_zX) 57 (10, 2) := ⟨57, rfl, by decide +kernel, by decide +kernel⟩
theorem at_X_58 : jq_at jq_zX (jq_zN jq_zX) 58 (0, 256) := ⟨58, rfl, by decide +kernel, by decide +kernel⟩
theorem at_X_59 : jq_at jq_zX (jq_zN jq_zX) 59 (0, 8) := ⟨59, rfl, by decide +kernel, by decide +kernel⟩
theorem at_X_60 : jq_at jq_zX (jq_zN jq_zX) 60 (12, 8) := ⟨60, rfl, by decide +kernel, by decide +kernel⟩
theorem at_X_61 : jq_at jq_zX (jq_zN jq_zX) 61 (0, 60) := ⟨61, rfl, by decide +kernel, by decide +kernel⟩
theorem at_X_62 : jq_at jq_zX (jq_zN jq_zX) 62 (0, 5) := ⟨62, rfl, by decide +kernel, by decide +kernel⟩
theorem at_X_63 : jq_at jq_zX (jq_zN jq_zX) 63 (0, 5) := ⟨63, rfl, by decide +kernel, by decide +kernel⟩
theorem at_M_0 : jq_at jq_zM (jq_zN jq_zM) 0 (18, 37) := ⟨0, rfl, by decide +kernel, by decide +kernel⟩
theorem at_M_1 : jq_at jq_zM (jq_zN jq_zM) 1 (0, 3174) := ⟨1, rfl, by decide +kernel, by decide +kernel⟩
theorem at_M_2 : jq_at jq_zM (jq_zN jq_zM) 2 (1, 78) := ⟨2, rfl, by decide +kernel, by decide +kernel⟩
theorem at_M_3 : jq_at jq_zM (jq_zN jq_zM) 3 (0, 4) := ⟨3, rfl, by decide +kernel, by decide +kernel⟩
theorem at_M_4 : jq_at jq_zM (jq_zN jq_zM) 4 (0, 4) := ⟨4, rfl, by decide +kernel, by decide +kernel⟩
theorem at_M_5 : jq_at jq_zM (jq_zN jq_zM) 5 (1, 240) := ⟨5, rfl, by decide +kernel, by decide +kernel⟩
theorem at_M_6 : jq_at jq_zM (jq_zN jq_zM) 6 (2, 900) := ⟨6, rfl, by decide +kernel, by decide +kernel⟩
theorem at_M_7 : jq_at jq_zM (jq_zN jq_zM) 7 (2, 900) := ⟨7, rfl, by decide +kernel, by decide +kernel⟩
theorem at_M_8 : jq_at jq_zM (jq_zN jq_zM) 8 (0, 3) := ⟨8, rfl, by decide +kernel, by decide +kernel⟩
theorem at_M_9 : jq_at jq_zM (jq_zN jq_zM) 9 (0, 5) := ⟨9, rfl, by decide +kernel, by decide +kernel⟩
theorem at_M_10 : jq_at jq_zM (jq_zN jq_zM) 10 (0, 4) := ⟨10, rfl, by decide +kernel, by decide +kernel⟩
theorem at_M_11 : jq_at jq_zM (jq_zN jq_zM) 11 (0, 4) := ⟨11, rfl, by decide +kernel, by decide +kernel⟩
theorem at_M_12 : jq_at jq_zM (jq_zN jq_zM) 12 (0, 20) := ⟨12, rfl, by decide +kernel, by decide +kernel⟩
theorem at_M_13 : jq_at jq_zM (jq_zN jq_zM) 13 (0, 256) := ⟨13, rfl, by decide +kernel, by decide +kernel⟩
theorem at_M_14 : jq_at jq_zM (jq_zN jq_zM) 14 (0, 8) := ⟨14, rfl, by decide +kernel, by decide +kernel⟩
theorem at_M_15 : jq_at jq_zM (jq_zN jq_zM) 15 (0, 80) := ⟨15, rfl, by decide +kernel, by decide +kernel⟩
theorem at_M_16 : jq_at jq_zM (jq_zN jq_zM) 16 (0, 5) := ⟨16, rfl, by decide +kernel, by decide +kernel⟩
theorem at_M_17 : jq_at jq_zM (jq_zN jq_zM) 17 (0, 5) := ⟨17, rfl, by decide +kernel, by decide +kernel⟩
theorem at_com {c : Int} (h : jq_com c) : jq_at jq_zX (jq_zN jq_zX) c (11, 21) := by
  rcases h with rfl | rfl | rfl | rfl | rfl
  · exact ⟨5, rfl, by decide +kernel, by decide +kernel⟩
  · exact ⟨25, rfl, by decide +kernel, by decide +kernel⟩
  · exact ⟨72, rfl, by decide +kernel, by decide +kernel⟩
  · exact ⟨92, rfl, by decide +kernel, by decide +kernel⟩
  · exact ⟨112, rfl, by decide +kernel, by decide +kernel⟩
theorem at_com_1 {c : Int} (h : jq_com c) : jq_at jq_zX (jq_zN jq_zX) (c + 1) (1, 5) := by
  rcases h with rfl | rfl | rfl | rfl | rfl
  · exact ⟨6, rfl, by decide +kernel, by decide +kernel⟩
  · exact ⟨26, rfl, by decide +kernel, by decide +kernel⟩
  · exact ⟨73, rfl, by decide +kernel, by decide +kernel⟩
  · exact ⟨93, rfl, by decide +kernel, by decide +kernel⟩
  · exact ⟨113, rfl, by decide +kernel, by decide +kernel⟩
theorem at_com_2 {c : Int} (h : jq_com c) : jq_at jq_zX (jq_zN jq_zX) (c + 2) (0, 5) := by
  rcases h with rfl | rfl | rfl | rfl | rfl
  · exact ⟨7, rfl, by decide +kernel, by decide +kernel⟩
  · exact ⟨27, rfl, by decide +kernel, by decide +kernel⟩
  · exact ⟨74, rfl, by decide +kernel, by decide +kernel⟩
  · exact ⟨94, rfl, by decide +kernel, by decide +kernel⟩
  · exact ⟨114, rfl, by decide +kernel, by decide +kernel⟩
theorem at_com_3 {c : Int} (h : jq_com c) : jq_at jq_zX (jq_zN jq_zX) (c + 3) (0, 5) := by
  rcases h with rfl | rfl | rfl | rfl | rfl
  · exact ⟨8, rfl, by decide +kernel, by decide +kernel⟩
  · exact ⟨28, rfl, by decide +kernel, by decide +kernel⟩
  · exact ⟨75, rfl, by decide +kernel, by decide +kernel⟩
  · exact ⟨95, rfl, by decide +kernel, by decide +kernel⟩
  · exact ⟨115, rfl, by decide +kernel, by decide +kernel⟩
theorem at_com_4 {c : Int} (h : jq_com c) : jq_at jq_zX (jq_zN jq_zX) (c + 4) (0, 20) := by
  rcases h with rfl | rfl | rfl | rfl | rfl
  · exact ⟨9, rfl, by decide +kernel, by decide +kernel⟩
  · exact ⟨29, rfl, by decide +kernel, by decide +kernel⟩
  · exact ⟨76, rfl, by decide +kernel, by decide +kernel⟩
  · exact ⟨96, rfl, by decide +kernel, by decide +kernel⟩
  · exact ⟨116, rfl, by decide +kernel, by decide +kernel⟩
theorem at_com_5 {c : Int} (h : jq_com c) : jq_at jq_zX (jq_zN jq_zX) (c + 5) (0, 20) := by
  rcases h with rfl | rfl | rfl | rfl | rfl
  · exact ⟨10, rfl, by decide +kernel, by decide +kernel⟩
  · exact ⟨30, rfl, by decide +kernel, by decide +kernel⟩
  · exact ⟨77, rfl, by decide +kernel, by decide +kernel⟩
  · exact ⟨97, rfl, by decide +kernel, by decide +kernel⟩
  · exact ⟨117, rfl, by decide +kernel, by decide +kernel⟩
theorem at_com_6 {c : Int} (h : jq_com c) : jq_at jq_zX (jq_zN jq_zX) (c + 6) (0, 20) := by
  rcases h with rfl | rfl | rfl | rfl | rfl
  · exact ⟨11, rfl, by decide +kernel, by decide +kernel⟩
  · exact ⟨31, rfl, by decide +kernel, by decide +kernel⟩
  · exact ⟨78, rfl, by decide +kernel, by decide +kernel⟩
  · exact ⟨98, rfl, by decide +kernel, by decide +kernel⟩
  · exact ⟨118, rfl, by decide +kernel, by decide +kernel⟩
theorem at_com_7 {c : Int} (h : jq_com c) : jq_at jq_zX (jq_zN jq_zX) (c + 7) (0, 20) := by
  rcases h with rfl | rfl | rfl | rfl | rfl
  · exact ⟨12, rfl, by decide +kernel, by decide +kernel⟩
  · exact ⟨32, rfl, by decide +kernel, by decide +kernel⟩
  · exact ⟨79, rfl, by decide +kernel, by decide +kernel⟩
  · exact ⟨99, rfl, by decide +kernel, by decide +kernel⟩
  · exact ⟨119, rfl, by decide +kernel, by decide +kernel⟩
theorem at_com_8 {c : Int} (h : jq_com c) : jq_at jq_zX (jq_zN jq_zX) (c + 8) (1, 8) := by
  rcases h with rfl | rfl | rfl | rfl | rfl
  · exact ⟨13, rfl, by decide +kernel, by decide +kernel⟩
  · exact ⟨33, rfl, by decide +kernel, by decide +kernel⟩
  · exact ⟨80, rfl, by decide +kernel, by decide +kernel⟩
  · exact ⟨100, rfl, by decide +kernel, by decide +kernel⟩
  · exact ⟨120, rfl, by decide +kernel, by decide +kernel⟩
theorem at_com_9 {c : Int} (h : jq_com c) : jq_at jq_zX (jq_zN jq_zX) (c + 9) (0, 8) := by
  rcases h with rfl | rfl | rfl | rfl | rfl
  · exact ⟨14, rfl, by decide +kernel, by decide +kernel⟩
  · exact ⟨34, rfl, by decide +kernel, by decide +kernel⟩
  · exact ⟨81, rfl, by decide +kernel, by decide +kernel⟩
  · exact ⟨101, rfl, by decide +kernel, by decide +kernel⟩
  · exact ⟨121, rfl, by decide +kernel, by decide +kernel⟩
theorem at_com_10 {c : Int} (h : jq_com c) : jq_at jq_zX (jq_zN jq_zX) (c + 10) (0, 8) := by
  rcases h with rfl | rfl | rfl | rfl | rfl
  · exact ⟨15, rfl, by decide +kernel, by decide +kernel⟩
  · exact ⟨35, rfl, by decide +kernel, by decide +kernel⟩
  · exact ⟨82, rfl, by decide +kernel, by decide +kernel⟩
  · exact ⟨102, rfl, by decide +kernel, by decide +kernel⟩
  · exact ⟨122, rfl, by decide +kernel, by decide +kernel⟩
theorem at_com_11 {c : Int} (h : jq_com c) : jq_at jq_zX (jq_zN jq_zX) (c + 11) (0, 8) := by
  rcases h with rfl | rfl | rfl | rfl | rfl
  · exact ⟨16, rfl, by decide +kernel, by decide +kernel⟩
  · exact ⟨36, rfl, by decide +kernel, by decide +kernel⟩
  · exact ⟨83, rfl, by decide +kernel, by decide +kernel⟩
  · exact ⟨103, rfl, by decide +kernel, by decide +kernel⟩
  · exact ⟨123, rfl, by decide +kernel, by decide +kernel⟩
theorem at_com_12 {c : Int} (h : jq_com c) : jq_at jq_zX (jq_zN jq_zX) (c + 12) (0, 8) := by
  rcases h with rfl | rfl | rfl | rfl | rfl
  · exact ⟨17, rfl, by decide +kernel, by decide +kernel⟩
  · exact ⟨37, rfl, by decide +kernel, by decide +kernel⟩
  · exact ⟨84, rfl, by decide +kernel, by decide +kernel⟩
  · exact ⟨104, rfl, by decide +kernel, by decide +kernel⟩
  · exact ⟨124, rfl, by decide +kernel, by decide +kernel⟩
theorem at_com_19 {c : Int} (h : jq_com c) : jq_at jq_zX (jq_zN jq_zX) (c + 19) (0, 5) := by
  rcases h with rfl | rfl | rfl | rfl | rfl
  · exact ⟨24, rfl, by decide +kernel, by decide +kernel⟩
  · exact ⟨44, rfl, by decide +kernel, by decide +kernel⟩
  · exact ⟨91, rfl, by decide +kernel, by decide +kernel⟩
  · exact ⟨111, rfl, by decide +kernel, by decide +kernel⟩
  · exact ⟨131, rfl, by decide +kernel, by decide +kernel⟩
theorem at_stp {c : Int} (h : jq_stp c) : jq_at jq_zX (jq_zN jq_zX) c (14, 9) := by
  rcases h with rfl | rfl | rfl | rfl | rfl | rfl
  · exact ⟨18, rfl, by decide +kernel, by decide +kernel⟩
  · exact ⟨38, rfl, by decide +kernel, by decide +kernel⟩
  · exact ⟨45, rfl, by decide +kernel, by decide +kernel⟩
  · exact ⟨85, rfl, by decide +kernel, by decide +kernel⟩
  · exact ⟨105, rfl, by decide +kernel, by decide +kernel⟩
  · exact ⟨125, rfl, by decide +kernel, by decide +kernel⟩
theorem at_stp_1 {c : Int} (h : jq_stp c) : jq_at jq_zX (jq_zN jq_zX) (c + 1) (0, 60) := by
  rcases h with rfl | rfl | rfl | rfl | rfl | rfl
  · exact ⟨19, rfl, by decide +kernel, by decide +kernel⟩
  · exact ⟨39, rfl, by decide +kernel, by decide +kernel⟩
  · exact ⟨46, rfl, by decide +kernel, by decide +kernel⟩
  · exact ⟨86, rfl, by decide +kernel, by decide +kernel⟩
  · exact ⟨106, rfl, by decide +kernel, by decide +kernel⟩
  · exact ⟨126, rfl, by decide +kernel, by decide +kernel⟩
theorem at_stp_2 {c : Int} (h : jq_stp c) : jq_at jq_zX (jq_zN jq_zX) (c + 2) (0, 60) := by
  rcases h with rfl | rfl | rfl | rfl | rfl | rfl
  · exact ⟨20, rfl, by decide +kernel, by decide +kernel⟩
  · exact ⟨40, rfl, by decide +kernel, by decide +kernel⟩
  · exact ⟨47, rfl, by decide +kernel, by decide +kernel⟩
  · exact ⟨87, rfl, by decide +kernel, by decide +kernel⟩
  · exact ⟨107, rfl, by decide +kernel, by decide +kernel⟩
  · exact ⟨127, rfl, by decide +kernel, by decide +kernel⟩
theorem at_stp_3 {c : Int} (h : jq_stp c) : jq_at jq_zX (jq_zN jq_zX) (c + 3) (0, 60) := by
  rcases h with rfl | rfl | rfl | rfl | rfl | rfl
  · exact ⟨21, rfl, by decide +kernel, by decide +kernel⟩
  · exact ⟨41, rfl, by decide +kernel, by decide +kernel⟩
  · exact ⟨48, rfl, by decide +kernel, by decide +kernel⟩
  · exact ⟨88, rfl, by decide +kernel, by decide +kernel⟩
  · exact ⟨108, rfl, by decide +kernel, by decide +kernel⟩
  · exact ⟨128, rfl, by decide +kernel, by decide +kernel⟩
theorem at_stp_4 {c : Int} (h : jq_stp c) : jq_at jq_zX (jq_zN jq_zX) (c + 4) (0, 60) := by
  rcases h with rfl | rfl | rfl | rfl | rfl | rfl
  · exact ⟨22, rfl, by decide +kernel, by decide +kernel⟩
  · exact ⟨42, rfl, by decide +kernel, by decide +kernel⟩
  · exact ⟨49, rfl, by decide +kernel, by decide +kernel⟩
  · exact ⟨89, rfl, by decide +kernel, by decide +kernel⟩
  · exact ⟨109, rfl, by decide +kernel, by decide +kernel⟩
  · exact ⟨129, rfl, by decide +kernel, by decide +kernel⟩
theorem at_stp_5 {c : Int} (h : jq_stp c) : jq_at jq_zX (jq_zN jq_zX) (c + 5) (0, 3) := by
  rcases h with rfl | rfl | rfl | rfl | rfl | rfl
  · exact ⟨23, rfl, by decide +kernel, by decide +kernel⟩
  · exact ⟨43, rfl, by decide +kernel, by decide +kernel⟩
  · exact ⟨50, rfl, by decide +kernel, by decide +kernel⟩
  · exact ⟨90, rfl, by decide +kernel, by decide +kernel⟩
  · exact ⟨110, rfl, by decide +kernel, by decide +kernel⟩
  · exact ⟨130, rfl, by decide +kernel, by decide +kernel⟩
theorem at_trp {c : Int} (h : jq_trp c) : jq_at jq_zX (jq_zN jq_zX) c (16, 3) := by
  rcases h with rfl | rfl | rfl | rfl
  · exact ⟨64, rfl, by decide +kernel, by decide +kernel⟩
  · exact ⟨66, rfl, by decide +kernel, by decide +kernel⟩
  · exact ⟨68, rfl, by decide +kernel, by decide +kernel⟩
  · exact ⟨70, rfl, by decide +kernel, by decide +kernel⟩
theorem at_trp_1 {c : Int} (h : jq_trp c) : jq_at jq_zX (jq_zN jq_zX) (c + 1) (1, 60) := by
  rcases h with rfl | rfl | rfl | rfl
  · exact ⟨65, rfl, by decide +kernel, by decide +kernel⟩
  · exact ⟨67, rfl, by decide +kernel, by decide +kernel⟩
  · exact ⟨69, rfl, by decide +kernel, by decide +kernel⟩
  · exact ⟨71, rfl, by decide +kernel, by decide +kernel⟩
theorem at_row {c : Int} (h : jq_row c) : jq_at jq_zX (jq_zN jq_zX) c (0, 5) := by
  rcases h with rfl | rfl | rfl | rfl | rfl | rfl | rfl | rfl | rfl
  · exact ⟨8, rfl, by decide +kernel, by decide +kernel⟩
  · exact ⟨28, rfl, by decide +kernel, by decide +kernel⟩
  · exact ⟨75, rfl, by decide +kernel, by decide +kernel⟩
  · exact ⟨95, rfl, by decide +kernel, by decide +kernel⟩
  · exact ⟨115, rfl, by decide +kernel, by decide +kernel⟩
  · exact ⟨53, rfl, by decide +kernel, by decide +kernel⟩
  · exact ⟨55, rfl, by decide +kernel, by decide +kernel⟩
  · exact ⟨62, rfl, by decide +kernel, by decide +kernel⟩
  · exact ⟨63, rfl, by decide +kernel, by decide +kernel⟩
theorem ly_X10_trays {σ : jq_M} : jq_lay jq_zX σ → σ 0 3 = 1 := fun h => List.mem_singleton.mp (h (0, 3, [1]) (by decide +kernel))
theorem ly_X10_reader {σ : jq_M} : jq_lay jq_zX σ → σ 0 4 = 2 := fun h => List.mem_singleton.mp (h (0, 4, [2]) (by decide +kernel))
theorem ly_X10_spareSteps {σ : jq_M} : jq_lay jq_zX σ → σ 0 9 = 45 := fun h => List.mem_singleton.mp (h (0, 9, [45]) (by decide +kernel))
theorem ly_X10_kept {σ : jq_M} : jq_lay jq_zX σ → σ 0 10 = 51 := fun h => List.mem_singleton.mp (h (0, 10, [51]) (by decide +kernel))
theorem ly_X10_survey {σ : jq_M} : jq_lay jq_zX σ → σ 0 12 = 52 := fun h => List.mem_singleton.mp (h (0, 12, [52]) (by decide +kernel))
theorem ly_X10_agenda {σ : jq_M} : jq_lay jq_zX σ → σ 0 13 = 57 := fun h => List.mem_singleton.mp (h (0, 13, [57]) (by decide +kernel))
theorem ly_X10_life {σ : jq_M} : jq_lay jq_zX σ → σ 0 14 = 60 := fun h => List.mem_singleton.mp (h (0, 14, [60]) (by decide +kernel))
theorem ly_X10_figures {σ : jq_M} : jq_lay jq_zX σ → σ 0 15 = 62 := fun h => List.mem_singleton.mp (h (0, 15, [62]) (by decide +kernel))
theorem ly_X10_trial {σ : jq_M} : jq_lay jq_zX σ → σ 0 17 = 63 := fun h => List.mem_singleton.mp (h (0, 17, [63]) (by decide +kernel))
theorem ly_X5_keywords {σ : jq_M} : jq_lay jq_zX σ → σ 2 0 = 3 := fun h => List.mem_singleton.mp (h (2, 0, [3]) (by decide +kernel))
theorem ly_X5_text {σ : jq_M} : jq_lay jq_zX σ → σ 2 1 = 4 := fun h => List.mem_singleton.mp (h (2, 1, [4]) (by decide +kernel))
theorem ly_X8_row {σ : jq_M} : jq_lay jq_zX σ → σ 52 0 = 53 := fun h => List.mem_singleton.mp (h (52, 0, [53]) (by decide +kernel))
theorem ly_X8_chosen {σ : jq_M} : jq_lay jq_zX σ → σ 52 1 = 54 := fun h => List.mem_singleton.mp (h (52, 1, [54]) (by decide +kernel))
theorem ly_X8_like {σ : jq_M} : jq_lay jq_zX σ → σ 52 2 = 55 := fun h => List.mem_singleton.mp (h (52, 2, [55]) (by decide +kernel))
theorem ly_X8_signers {σ : jq_M} : jq_lay jq_zX σ → σ 52 3 = 56 := fun h => List.mem_singleton.mp (h (52, 3, [56]) (by decide +kernel))
theorem ly_X0_ways {σ : jq_M} : jq_lay jq_zX σ → σ 57 0 = 58 := fun h => List.mem_singleton.mp (h (57, 0, [58]) (by decide +kernel))
theorem ly_X0_ends {σ : jq_M} : jq_lay jq_zX σ → σ 57 1 = 59 := fun h => List.mem_singleton.mp (h (57, 1, [59]) (by decide +kernel))
theorem ly_X3_left {σ : jq_M} : jq_lay jq_zX σ → σ 60 7 = 61 := fun h => List.mem_singleton.mp (h (60, 7, [61]) (by decide +kernel))
theorem ly_X11_at {σ : jq_M} : jq_lay jq_zM σ → σ 0 0 = 1 := fun h => List.mem_singleton.mp (h (0, 0, [1]) (by decide +kernel))
theorem ly_X11_names {σ : jq_M} : jq_lay jq_zM σ → σ 0 1 = 2 := fun h => List.mem_singleton.mp (h (0, 1, [2]) (by decide +kernel))
theorem ly_X11_sort {σ : jq_M} : jq_lay jq_zM σ → σ 0 5 = 3 := fun h => List.mem_singleton.mp (h (0, 5, [3]) (by decide +kernel))
theorem ly_X11_trayMany {σ : jq_M} : jq_lay jq_zM σ → σ 0 6 = 4 := fun h => List.mem_singleton.mp (h (0, 6, [4]) (by decide +kernel))
theorem ly_X11_trays {σ : jq_M} : jq_lay jq_zM σ → σ 0 7 = 5 := fun h => List.mem_singleton.mp (h (0, 7, [5]) (by decide +kernel))
theorem ly_X11_tape {σ : jq_M} : jq_lay jq_zM σ → σ 0 8 = 6 := fun h => List.mem_singleton.mp (h (0, 8, [6]) (by decide +kernel))
theorem ly_X11_text {σ : jq_M} : jq_lay jq_zM σ → σ 0 9 = 7 := fun h => List.mem_singleton.mp (h (0, 9, [7]) (by decide +kernel))
theorem ly_X11_opened {σ : jq_M} : jq_lay jq_zM σ → σ 0 20 = 8 := fun h => List.mem_singleton.mp (h (0, 20, [8]) (by decide +kernel))
theorem ly_X11_seat {σ : jq_M} : jq_lay jq_zM σ → σ 0 23 = 9 := fun h => List.mem_singleton.mp (h (0, 23, [9]) (by decide +kernel))
theorem ly_X11_tried {σ : jq_M} : jq_lay jq_zM σ → σ 0 24 = 10 := fun h => List.mem_singleton.mp (h (0, 24, [10]) (by decide +kernel))
theorem ly_X11_comes {σ : jq_M} : jq_lay jq_zM σ → σ 0 25 = 11 := fun h => List.mem_singleton.mp (h (0, 25, [11]) (by decide +kernel))
theorem ly_X11_seatsOn {σ : jq_M} : jq_lay jq_zM σ → σ 0 26 = 12 := fun h => List.mem_singleton.mp (h (0, 26, [12]) (by decide +kernel))
theorem ly_X11_ordersBy {σ : jq_M} : jq_lay jq_zM σ → σ 0 28 = 13 := fun h => List.mem_singleton.mp (h (0, 28, [13]) (by decide +kernel))
theorem ly_X11_chains {σ : jq_M} : jq_lay jq_zM σ → σ 0 29 = 14 := fun h => List.mem_singleton.mp (h (0, 29, [14]) (by decide +kernel))
theorem ly_X11_loops {σ : jq_M} : jq_lay jq_zM σ → σ 0 32 = 15 := fun h => List.mem_singleton.mp (h (0, 32, [15]) (by decide +kernel))
theorem ly_X11_ran {σ : jq_M} : jq_lay jq_zM σ → σ 0 33 = 16 := fun h => List.mem_singleton.mp (h (0, 33, [16]) (by decide +kernel))
theorem ly_X11_told1 {σ : jq_M} : jq_lay jq_zM σ → σ 0 34 = 17 := fun h => List.mem_singleton.mp (h (0, 34, [17]) (by decide +kernel))
theorem ly_X1_partyNames {σ : jq_M} {c : Int} (hc : jq_com c) : jq_lay jq_zX σ → σ c 7 = c + 1 := by
  intro h
  rcases hc with rfl | rfl | rfl | rfl | rfl
  · exact List.mem_singleton.mp (h (5, 7, [6]) (by decide +kernel))
  · exact List.mem_singleton.mp (h (25, 7, [26]) (by decide +kernel))
  · exact List.mem_singleton.mp (h (72, 7, [73]) (by decide +kernel))
  · exact List.mem_singleton.mp (h (92, 7, [93]) (by decide +kernel))
  · exact List.mem_singleton.mp (h (112, 7, [113]) (by decide +kernel))
theorem ly_X1_leasts {σ : jq_M} {c : Int} (hc : jq_com c) : jq_lay jq_zX σ → σ c 8 = c + 2 := by
  intro h
  rcases hc with rfl | rfl | rfl | rfl | rfl
  · exact List.mem_singleton.mp (h (5, 8, [7]) (by decide +kernel))
  · exact List.mem_singleton.mp (h (25, 8, [27]) (by decide +kernel))
  · exact List.mem_singleton.mp (h (72, 8, [74]) (by decide +kernel))
  · exact List.mem_singleton.mp (h (92, 8, [94]) (by decide +kernel))
  · exact List.mem_singleton.mp (h (112, 8, [114]) (by decide +kernel))
theorem ly_X1_seats {σ : jq_M} {c : Int} (hc : jq_com c) : jq_lay jq_zX σ → σ c 9 = c + 3 := by
  intro h
  rcases hc with rfl | rfl | rfl | rfl | rfl
  · exact List.mem_singleton.mp (h (5, 9, [8]) (by decide +kernel))
  · exact List.mem_singleton.mp (h (25, 9, [28]) (by decide +kernel))
  · exact List.mem_singleton.mp (h (72, 9, [75]) (by decide +kernel))
  · exact List.mem_singleton.mp (h (92, 9, [95]) (by decide +kernel))
  · exact List.mem_singleton.mp (h (112, 9, [115]) (by decide +kernel))
theorem ly_X1_whose {σ : jq_M} {c : Int} (hc : jq_com c) : jq_lay jq_zX σ → σ c 10 = c + 4 := by
  intro h
  rcases hc with rfl | rfl | rfl | rfl | rfl
  · exact List.mem_singleton.mp (h (5, 10, [9]) (by decide +kernel))
  · exact List.mem_singleton.mp (h (25, 10, [29]) (by decide +kernel))
  · exact List.mem_singleton.mp (h (72, 10, [76]) (by decide +kernel))
  · exact List.mem_singleton.mp (h (92, 10, [96]) (by decide +kernel))
  · exact List.mem_singleton.mp (h (112, 10, [116]) (by decide +kernel))
theorem ly_X1_kinds {σ : jq_M} {c : Int} (hc : jq_com c) : jq_lay jq_zX σ → σ c 11 = c + 5 := by
  intro h
  rcases hc with rfl | rfl | rfl | rfl | rfl
  · exact List.mem_singleton.mp (h (5, 11, [10]) (by decide +kernel))
  · exact List.mem_singleton.mp (h (25, 11, [30]) (by decide +kernel))
  · exact List.mem_singleton.mp (h (72, 11, [77]) (by decide +kernel))
  · exact List.mem_singleton.mp (h (92, 11, [97]) (by decide +kernel))
  · exact List.mem_singleton.mp (h (112, 11, [117]) (by decide +kernel))
theorem ly_X1_whom {σ : jq_M} {c : Int} (hc : jq_com c) : jq_lay jq_zX σ → σ c 12 = c + 6 := by
  intro h
  rcases hc with rfl | rfl | rfl | rfl | rfl
  · exact List.mem_singleton.mp (h (5, 12, [11]) (by decide +kernel))
  · exact List.mem_singleton.mp (h (25, 12, [31]) (by decide +kernel))
  · exact List.mem_singleton.mp (h (72, 12, [78]) (by decide +kernel))
  · exact List.mem_singleton.mp (h (92, 12, [98]) (by decide +kernel))
  · exact List.mem_singleton.mp (h (112, 12, [118]) (by decide +kernel))
theorem ly_X1_worths {σ : jq_M} {c : Int} (hc : jq_com c) : jq_lay jq_zX σ → σ c 13 = c + 7 := by
  intro h
  rcases hc with rfl | rfl | rfl | rfl | rfl
  · exact List.mem_singleton.mp (h (5, 13, [12]) (by decide +kernel))
  · exact List.mem_singleton.mp (h (25, 13, [32]) (by decide +kernel))
  · exact List.mem_singleton.mp (h (72, 13, [79]) (by decide +kernel))
  · exact List.mem_singleton.mp (h (92, 13, [99]) (by decide +kernel))
  · exact List.mem_singleton.mp (h (112, 13, [119]) (by decide +kernel))
theorem ly_X1_articleNames {σ : jq_M} {c : Int} (hc : jq_com c) : jq_lay jq_zX σ → σ c 14 = c + 8 := by
  intro h
  rcases hc with rfl | rfl | rfl | rfl | rfl
  · exact List.mem_singleton.mp (h (5, 14, [13]) (by decide +kernel))
  · exact List.mem_singleton.mp (h (25, 14, [33]) (by decide +kernel))
  · exact List.mem_singleton.mp (h (72, 14, [80]) (by decide +kernel))
  · exact List.mem_singleton.mp (h (92, 14, [100]) (by decide +kernel))
  · exact List.mem_singleton.mp (h (112, 14, [120]) (by decide +kernel))
theorem ly_X1_takes {σ : jq_M} {c : Int} (hc : jq_com c) : jq_lay jq_zX σ → σ c 15 = c + 9 := by
  intro h
  rcases hc with rfl | rfl | rfl | rfl | rfl
  · exact List.mem_singleton.mp (h (5, 15, [14]) (by decide +kernel))
  · exact List.mem_singleton.mp (h (25, 15, [34]) (by decide +kernel))
  · exact List.mem_singleton.mp (h (72, 15, [81]) (by decide +kernel))
  · exact List.mem_singleton.mp (h (92, 15, [101]) (by decide +kernel))
  · exact List.mem_singleton.mp (h (112, 15, [121]) (by decide +kernel))
theorem ly_X1_odds {σ : jq_M} {c : Int} (hc : jq_com c) : jq_lay jq_zX σ → σ c 16 = c + 10 := by
  intro h
  rcases hc with rfl | rfl | rfl | rfl | rfl
  · exact List.mem_singleton.mp (h (5, 16, [15]) (by decide +kernel))
  · exact List.mem_singleton.mp (h (25, 16, [35]) (by decide +kernel))
  · exact List.mem_singleton.mp (h (72, 16, [82]) (by decide +kernel))
  · exact List.mem_singleton.mp (h (92, 16, [102]) (by decide +kernel))
  · exact List.mem_singleton.mp (h (112, 16, [122]) (by decide +kernel))
theorem ly_X1_leansOn {σ : jq_M} {c : Int} (hc : jq_com c) : jq_lay jq_zX σ → σ c 17 = c + 11 := by
  intro h
  rcases hc with rfl | rfl | rfl | rfl | rfl
  · exact List.mem_singleton.mp (h (5, 17, [16]) (by decide +kernel))
  · exact List.mem_singleton.mp (h (25, 17, [36]) (by decide +kernel))
  · exact List.mem_singleton.mp (h (72, 17, [83]) (by decide +kernel))
  · exact List.mem_singleton.mp (h (92, 17, [103]) (by decide +kernel))
  · exact List.mem_singleton.mp (h (112, 17, [123]) (by decide +kernel))
theorem ly_X1_worked {σ : jq_M} {c : Int} (hc : jq_com c) : jq_lay jq_zX σ → σ c 18 = c + 12 := by
  intro h
  rcases hc with rfl | rfl | rfl | rfl | rfl
  · exact List.mem_singleton.mp (h (5, 18, [17]) (by decide +kernel))
  · exact List.mem_singleton.mp (h (25, 18, [37]) (by decide +kernel))
  · exact List.mem_singleton.mp (h (72, 18, [84]) (by decide +kernel))
  · exact List.mem_singleton.mp (h (92, 18, [104]) (by decide +kernel))
  · exact List.mem_singleton.mp (h (112, 18, [124]) (by decide +kernel))
theorem ly_X1_steps {σ : jq_M} {c : Int} (hc : jq_com c) : jq_lay jq_zX σ → σ c 19 = c + 13 := by
  intro h
  rcases hc with rfl | rfl | rfl | rfl | rfl
  · exact List.mem_singleton.mp (h (5, 19, [18]) (by decide +kernel))
  · exact List.mem_singleton.mp (h (25, 19, [38]) (by decide +kernel))
  · exact List.mem_singleton.mp (h (72, 19, [85]) (by decide +kernel))
  · exact List.mem_singleton.mp (h (92, 19, [105]) (by decide +kernel))
  · exact List.mem_singleton.mp (h (112, 19, [125]) (by decide +kernel))
theorem ly_X1_scales {σ : jq_M} {c : Int} (hc : jq_com c) : jq_lay jq_zX σ → σ c 20 = c + 19 := by
  intro h
  rcases hc with rfl | rfl | rfl | rfl | rfl
  · exact List.mem_singleton.mp (h (5, 20, [24]) (by decide +kernel))
  · exact List.mem_singleton.mp (h (25, 20, [44]) (by decide +kernel))
  · exact List.mem_singleton.mp (h (72, 20, [91]) (by decide +kernel))
  · exact List.mem_singleton.mp (h (92, 20, [111]) (by decide +kernel))
  · exact List.mem_singleton.mp (h (112, 20, [131]) (by decide +kernel))
theorem ly_X7_words {σ : jq_M} {c : Int} (hc : jq_stp c) : jq_lay jq_zX σ → σ c 3 = c + 1 := by
  intro h
  rcases hc with rfl | rfl | rfl | rfl | rfl | rfl
  · exact List.mem_singleton.mp (h (18, 3, [19]) (by decide +kernel))
  · exact List.mem_singleton.mp (h (38, 3, [39]) (by decide +kernel))
  · exact List.mem_singleton.mp (h (45, 3, [46]) (by decide +kernel))
  · exact List.mem_singleton.mp (h (85, 3, [86]) (by decide +kernel))
  · exact List.mem_singleton.mp (h (105, 3, [106]) (by decide +kernel))
  · exact List.mem_singleton.mp (h (125, 3, [126]) (by decide +kernel))
theorem ly_X7_first {σ : jq_M} {c : Int} (hc : jq_stp c) : jq_lay jq_zX σ → σ c 4 = c + 2 := by
  intro h
  rcases hc with rfl | rfl | rfl | rfl | rfl | rfl
  · exact List.mem_singleton.mp (h (18, 4, [20]) (by decide +kernel))
  · exact List.mem_singleton.mp (h (38, 4, [40]) (by decide +kernel))
  · exact List.mem_singleton.mp (h (45, 4, [47]) (by decide +kernel))
  · exact List.mem_singleton.mp (h (85, 4, [87]) (by decide +kernel))
  · exact List.mem_singleton.mp (h (105, 4, [107]) (by decide +kernel))
  · exact List.mem_singleton.mp (h (125, 4, [127]) (by decide +kernel))
theorem ly_X7_second {σ : jq_M} {c : Int} (hc : jq_stp c) : jq_lay jq_zX σ → σ c 5 = c + 3 := by
  intro h
  rcases hc with rfl | rfl | rfl | rfl | rfl | rfl
  · exact List.mem_singleton.mp (h (18, 5, [21]) (by decide +kernel))
  · exact List.mem_singleton.mp (h (38, 5, [41]) (by decide +kernel))
  · exact List.mem_singleton.mp (h (45, 5, [48]) (by decide +kernel))
  · exact List.mem_singleton.mp (h (85, 5, [88]) (by decide +kernel))
  · exact List.mem_singleton.mp (h (105, 5, [108]) (by decide +kernel))
  · exact List.mem_singleton.mp (h (125, 5, [128]) (by decide +kernel))
theorem ly_X7_mates {σ : jq_M} {c : Int} (hc : jq_stp c) : jq_lay jq_zX σ → σ c 6 = c + 4 := by
  intro h
  rcases hc with rfl | rfl | rfl | rfl | rfl | rfl
  · exact List.mem_singleton.mp (h (18, 6, [22]) (by decide +kernel))
  · exact List.mem_singleton.mp (h (38, 6, [42]) (by decide +kernel))
  · exact List.mem_singleton.mp (h (45, 6, [49]) (by decide +kernel))
  · exact List.mem_singleton.mp (h (85, 6, [89]) (by decide +kernel))
  · exact List.mem_singleton.mp (h (105, 6, [109]) (by decide +kernel))
  · exact List.mem_singleton.mp (h (125, 6, [129]) (by decide +kernel))
theorem ly_X7_open {σ : jq_M} {c : Int} (hc : jq_stp c) : jq_lay jq_zX σ → σ c 7 = c + 5 := by
  intro h
  rcases hc with rfl | rfl | rfl | rfl | rfl | rfl
  · exact List.mem_singleton.mp (h (18, 7, [23]) (by decide +kernel))
  · exact List.mem_singleton.mp (h (38, 7, [43]) (by decide +kernel))
  · exact List.mem_singleton.mp (h (45, 7, [50]) (by decide +kernel))
  · exact List.mem_singleton.mp (h (85, 7, [90]) (by decide +kernel))
  · exact List.mem_singleton.mp (h (105, 7, [110]) (by decide +kernel))
  · exact List.mem_singleton.mp (h (125, 7, [130]) (by decide +kernel))
theorem ly_X9_row {σ : jq_M} {c : Int} (hc : jq_trp c) : jq_lay jq_zX σ → σ c 2 = c + 1 := by
  intro h
  rcases hc with rfl | rfl | rfl | rfl
  · exact List.mem_singleton.mp (h (64, 2, [65]) (by decide +kernel))
  · exact List.mem_singleton.mp (h (66, 2, [67]) (by decide +kernel))
  · exact List.mem_singleton.mp (h (68, 2, [69]) (by decide +kernel))
  · exact List.mem_singleton.mp (h (70, 2, [71]) (by decide +kernel))
theorem ly_now {σ : jq_M} : jq_lay jq_zX σ → jq_cm2 (σ 0 7) := by
  intro h
  have h1 : σ 0 7 ∈ [(5 : Int), 25] := h (0, 7, [5, 25]) (by decide +kernel)
  unfold jq_cm2
  simpa using h1
theorem ly_put_now {v : Int} (hv : jq_cm2 v) : ∀ q ∈ jq_zX.2.1, q.1 = 0 → q.2.1 = 7 → v ∈ q.2.2 := by
  have h : ∀ q ∈ jq_zX_l, q.1 = 0 → q.2.1 = 7 → q.2.2 = [5, 25] := by decide +kernel
  intro q hq h1 h2
  rw [h q hq h1 h2]
  unfold jq_cm2 at hv
  simpa using hv
theorem ly_spare {σ : jq_M} : jq_lay jq_zX σ → jq_cm2 (σ 0 8) := by
  intro h
  have h1 : σ 0 8 ∈ [(5 : Int), 25] := h (0, 8, [5, 25]) (by decide +kernel)
  unfold jq_cm2
  simpa using h1
theorem ly_put_spare {v : Int} (hv : jq_cm2 v) : ∀ q ∈ jq_zX.2.1, q.1 = 0 → q.2.1 = 8 → v ∈ q.2.2 := by
  have h : ∀ q ∈ jq_zX_l, q.1 = 0 → q.2.1 = 8 → q.2.2 = [5, 25] := by decide +kernel
  intro q hq h1 h2
  rw [h q hq h1 h2]
  unfold jq_cm2 at hv
  simpa using hv
theorem ly_trays_at {σ : jq_M} : ∀ i : Int, 0 ≤ i → i < 4 → jq_lay jq_zX σ → σ 1 i = 64 + 2 * i := by
  intro i h0 h1 h
  have hi : i = 0 ∨ i = 1 ∨ i = 2 ∨ i = 3 := by omega
  rcases hi with rfl | rfl | rfl | rfl
  · exact List.mem_singleton.mp (h (1, 0, [64]) (by decide +kernel))
  · exact List.mem_singleton.mp (h (1, 1, [66]) (by decide +kernel))
  · exact List.mem_singleton.mp (h (1, 2, [68]) (by decide +kernel))
  · exact List.mem_singleton.mp (h (1, 3, [70]) (by decide +kernel))
theorem ly_kept_at {σ : jq_M} : ∀ i : Int, 0 ≤ i → i < 3 → jq_lay jq_zX σ → σ 51 i = 72 + 20 * i := by
  intro i h0 h1 h
  have hi : i = 0 ∨ i = 1 ∨ i = 2 := by omega
  rcases hi with rfl | rfl | rfl
  · exact List.mem_singleton.mp (h (51, 0, [72]) (by decide +kernel))
  · exact List.mem_singleton.mp (h (51, 1, [92]) (by decide +kernel))
  · exact List.mem_singleton.mp (h (51, 2, [112]) (by decide +kernel))
set_option maxRecDepth 100000 in
theorem cls_X0 : jq_cls 0 RX0 TX0 2 tyX0 := by
  refine ⟨rfl, ?_, tyX0_ok, nmX0, by decide +kernel, by decide +kernel⟩
  intro w hw
  have h1 : u_ws RX0 TX0 2 = [468, 470].filterMap (fun i => lw_tbl[i]?) := by decide +kernel
  have h2 : (u_ws RX0 TX0 2).all goodWord = true := by decide +kernel
  have h3 := List.all_eq_true.mp h2 w hw
  rw [h1] at hw
  obtain ⟨i, -, hi⟩ := List.mem_filterMap.mp hw
  exact jq_in i hi h3
set_option maxRecDepth 100000 in
theorem cls_X1 : jq_cls 1 RX1 TX1 21 tyX1 := by
  refine ⟨rfl, ?_, tyX1_ok, nmX1, by decide +kernel, by decide +kernel⟩
  intro w hw
  have h1 : u_ws RX1 TX1 21 = [393, 395, 397, 399, 401, 403, 405, 407, 409, 411, 413, 415, 417, 419, 421, 423, 425, 427, 429, 431, 433].filterMap (fun i => lw_tbl[i]?) := by decide +kernel
  have h2 : (u_ws RX1 TX1 21).all goodWord = true := by decide +kernel
  have h3 := List.all_eq_true.mp h2 w hw
  rw [h1] at hw
  obtain ⟨i, -, hi⟩ := List.mem_filterMap.mp hw
  exact jq_in i hi h3
set_option maxRecDepth 100000 in
theorem cls_X3 : jq_cls 2 RX3 TX3 8 tyX3 := by
  refine ⟨rfl, ?_, tyX3_ok, nmX3, by decide +kernel, by decide +kernel⟩
  intro w hw
  have h1 : u_ws RX3 TX3 8 = [488, 490, 492, 494, 496, 498, 500, 502].filterMap (fun i => lw_tbl[i]?) := by decide +kernel
  have h2 : (u_ws RX3 TX3 8).all goodWord = true := by decide +kernel
  have h3 := List.all_eq_true.mp h2 w hw
  rw [h1] at hw
  obtain ⟨i, -, hi⟩ := List.mem_filterMap.mp hw
  exact jq_in i hi h3
set_option maxRecDepth 100000 in
theorem cls_X5 : jq_cls 3 RX5 TX5 14 tyX5 := by
  refine ⟨rfl, ?_, tyX5_ok, nmX5, by decide +kernel, by decide +kernel⟩
  intro w hw
  have h1 : u_ws RX5 TX5 14 = [245, 247, 249, 251, 253, 255, 257, 259, 261, 263, 265, 267, 269, 271].filterMap (fun i => lw_tbl[i]?) := by decide +kernel
  have h2 : (u_ws RX5 TX5 14).all goodWord = true := by decide +kernel
  have h3 := List.all_eq_true.mp h2 w hw
  rw [h1] at hw
  obtain ⟨i, -, hi⟩ := List.mem_filterMap.mp hw
  exact jq_in i hi h3
set_option maxRecDepth 100000 in
theorem cls_X7 : jq_cls 4 RX7 TX7 9 tyX7 := by
  refine ⟨rfl, ?_, tyX7_ok, nmX7, by decide +kernel, by decide +kernel⟩
  intro w hw
  have h1 : u_ws RX7 TX7 9 = [302, 304, 306, 308, 310, 312, 314, 316, 318].filterMap (fun i => lw_tbl[i]?) := by decide +kernel
  have h2 : (u_ws RX7 TX7 9).all goodWord = true := by decide +kernel
  have h3 := List.all_eq_true.mp h2 w hw
  rw [h1] at hw
  obtain ⟨i, -, hi⟩ := List.mem_filterMap.mp hw
  exact jq_in i hi h3
set_option maxRecDepth 100000 in
theorem cls_X8 : jq_cls 5 RX8 TX8 4 tyX8 := by
  refine ⟨rfl, ?_, tyX8_ok, nmX8, by decide +kernel, by decide +kernel⟩
  intro w hw
  have h1 : u_ws RX8 TX8 4 = [451, 453, 455, 457].filterMap (fun i => lw_tbl[i]?) := by decide +kernel
  have h2 : (u_ws RX8 TX8 4).all goodWord = true := by decide +kernel
  have h3 := List.all_eq_true.mp h2 w hw
  rw [h1] at hw
  obtain ⟨i, -, hi⟩ := List.mem_filterMap.mp hw
  exact jq_in i hi h3
set_option maxRecDepth 100000 in
theorem cls_X9 : jq_cls 6 RX9 TX9 3 tyX9 := by
  refine ⟨rfl, ?_, tyX9_ok, nmX9, by decide +kernel, by decide +kernel⟩
  intro w hw
  have h1 : u_ws RX9 TX9 3 = [515, 517, 519].filterMap (fun i => lw_tbl[i]?) := by decide +kernel
  have h2 : (u_ws RX9 TX9 3).all goodWord = true := by decide +kernel
  have h3 := List.all_eq_true.mp h2 w hw
  rw [h1] at hw
  obtain ⟨i, -, hi⟩ := List.mem_filterMap.mp hw
  exact jq_in i hi h3
set_option maxRecDepth 100000 in
theorem cls_X10 : jq_cls 7 RX10 TX10 18 tyX10 := by
  refine ⟨rfl, ?_, tyX10_ok, nmX10, by decide +kernel, by decide +kernel⟩
  intro w hw
  have h1 : u_ws RX10 TX10 18 = [540, 542, 544, 546, 548, 550, 552, 554, 556, 558, 560, 562, 564, 566, 568, 570, 572, 574].filterMap (fun i => lw_tbl[i]?) := by decide +kernel
  have h2 : (u_ws RX10 TX10 18).all goodWord = true := by decide +kernel
  have h3 := List.all_eq_true.mp h2 w hw
  rw [h1] at hw
  obtain ⟨i, -, hi⟩ := List.mem_filterMap.mp hw
  exact jq_in i hi h3
set_option maxRecDepth 100000 in
theorem cls_X11 : jq_cls 8 RX11 TX11 37 tyX11 := by
  refine ⟨rfl, ?_, tyX11_ok, nmX11, by decide +kernel, by decide +kernel⟩
  intro w hw
  have h1 : u_ws RX11 TX11 37 = [1599, 1601, 1603, 1605, 1607, 1609, 1611, 1613, 1615, 1617, 1619, 1621, 1623, 1625, 1627, 1629, 1631, 1633, 1635, 1637, 1639, 1641, 1643, 1645, 1647, 1649, 1651, 1653, 1655, 1657, 1659, 1661, 1663, 1665, 1667, 1669, 1671].filterMap (fun i => lw_tbl[i]?) := by decide +kernel
  have h2 : (u_ws RX11 TX11 37).all goodWord = true := by decide +kernel
  have h3 := List.all_eq_true.mp h2 w hw
  rw [h1] at hw
  obtain ⟨i, -, hi⟩ := List.mem_filterMap.mp hw
  exact jq_in i hi h3
