section
variable {p : Program} {l : Launch} {e : Env} {s : State} {m : MethodId} {below : List Frame} {meth : Method} {c : Code} {b L : Nat} {xs : Nat → Int32} {b1 b2 : Nat} {D : va_G} {cs : Nat → ClassId} {ss1 ss2 : jq_S} {H : Heap} {locs : List Loc} {cells slots : Nat} {Q : State → Prop} {ls : Array Slot} {σ1 σ2 : jq_M} {i : Nat}
theorem jq_nI (n : Nat) : nI n = Int32.ofInt (n : Int) := (Int32.ofInt_eq_ofNat).symm
theorem law_sw (C0 : jq_LC p s m meth c b L xs b1 b2 D cs ss1 ss2) (hR : jq_R2 b1 b2 D cs σ1 σ2 H) (hS : va_S (fun q => s.heap.size ≤ q) s.heap H locs) (hl : lv_has ls 4 [(0, .ref b), (1, .ref b1), (2, .ref b2), (3, .int (nI i))]) (hcl : cells ≤ 600000) (hsl : slots ≤ 7302250) (hi : i + 6 ≤ L) (hrel : jq_Rel σ1 σ2)
    (kk : ∀ (σ1' σ2' : jq_M) (H1 : Heap) (locs1 : List Loc), jq_Rel σ1' σ2' → jq_R2 b1 b2 D cs σ1' σ2' H1 → va_S (fun q => s.heap.size ≤ q) s.heap H1 locs1 → W p l e room_1 s m #[Value.ref b] below meth c H1 locs1 cells slots Q (F0 m 2013 ls [])) : W p l e room_1 s m #[Value.ref b] below meth c H locs cells slots Q (F0 m 33 ls [.int (Int32.ofInt (jq_and (jq_a xs i 0) 127))]) := by
  have C1 := C0
  obtain ⟨hx, hb, -⟩ := C1
  have hR0 := hR
  obtain ⟨-, -, w1, w2, y1, y2⟩ := hR0
  have hr : jq_r (jq_and (jq_a xs i 0) 127) := jq_ti_r _
  generalize jq_and (jq_a xs i 0) 127 = v at hr ⊢
  have e1 : (Int32.ofInt v).toInt = v := by rw [jq_toInt, jq_w_id hr]
  by_cases hv0 : v = 0
  · refine lv_tableIn (tgt := 320) hx hb dL_law_33 (by rw [e1]; omega) (by rw [e1]; omega) (by rw [e1, hv0]; rfl) (by decide) ?_
    obtain ⟨r, h1, h2⟩ := pr_status hrel w1 w2 y1 y2 
    exact law_0 C0 hR hS hl hcl hsl hi h1 h2 (fun H1 locs1 hR1 hS1 => kk σ1 σ2 H1 locs1 hrel hR1 hS1)
  by_cases hv1 : v = 1
  · refine lv_tableIn (tgt := 333) hx hb dL_law_33 (by rw [e1]; omega) (by rw [e1]; omega) (by rw [e1, hv1]; rfl) (by decide) ?_
    obtain ⟨r, h1, h2⟩ := pr_top hrel w1 w2 y1 y2 
    exact law_1 C0 hR hS hl hcl hsl hi h1 h2 (fun H1 locs1 hR1 hS1 => kk σ1 σ2 H1 locs1 hrel hR1 hS1)
  by_cases hv2 : v = 2
  · refine lv_tableIn (tgt := 347) hx hb dL_law_33 (by rw [e1]; omega) (by rw [e1]; omega) (by rw [e1, hv2]; rfl) (by decide) ?_
    obtain ⟨r, h1, h2⟩ := pr_bottom hrel w1 w2 y1 y2 
    exact law_2 C0 hR hS hl hcl hsl hi h1 h2 (fun H1 locs1 hR1 hS1 => kk σ1 σ2 H1 locs1 hrel hR1 hS1)
  by_cases hv3 : v = 3
  · refine lv_tableIn (tgt := 361) hx hb dL_law_33 (by rw [e1]; omega) (by rw [e1]; omega) (by rw [e1, hv3]; rfl) (by decide) ?_
    obtain ⟨r, σ1', σ2', h1, h2, hrel2⟩ := pr_tray hrel w1 w2 y1 y2 (jq_a_r i 1) (jq_a_r i 2) (jq_a_r i 3)
    exact law_3 C0 hR hS hl hcl hsl hi h1 h2 (fun H1 locs1 hR1 hS1 => kk σ1' σ2' H1 locs1 hrel2 hR1 hS1)
  by_cases hv4 : v = 4
  · refine lv_tableIn (tgt := 404) hx hb dL_law_33 (by rw [e1]; omega) (by rw [e1]; omega) (by rw [e1, hv4]; rfl) (by decide) ?_
    obtain ⟨r, σ1', σ2', h1, h2, hrel2⟩ := pr_write hrel w1 w2 y1 y2 (jq_a_r i 1) (jq_a_r i 2) (jq_ti_rl _)
    exact law_4 C0 hR hS hl hcl hsl hi h1 h2 (fun H1 locs1 hR1 hS1 => kk σ1' σ2' H1 locs1 hrel2 hR1 hS1)
  by_cases hv5 : v = 5
  · refine lv_tableIn (tgt := 477) hx hb dL_law_33 (by rw [e1]; omega) (by rw [e1]; omega) (by rw [e1, hv5]; rfl) (by decide) ?_
    obtain ⟨r, σ1', σ2', h1, h2, hrel2⟩ := pr_read hrel w1 w2 y1 y2 (jq_a_r i 1) (jq_a_r i 2)
    exact law_5 C0 hR hS hl hcl hsl hi h1 h2 (fun H1 locs1 hR1 hS1 => kk σ1' σ2' H1 locs1 hrel2 hR1 hS1)
  by_cases hv6 : v = 6
  · refine lv_tableIn (tgt := 511) hx hb dL_law_33 (by rw [e1]; omega) (by rw [e1]; omega) (by rw [e1, hv6]; rfl) (by decide) ?_
    obtain ⟨r, σ1', σ2', h1, h2, hrel2⟩ := pr_pour hrel w1 w2 y1 y2 (jq_a_r i 1) (jq_a_r i 2) (jq_a_r i 3) (jq_a_r i 4) (jq_a_r i 5)
    exact law_6 C0 hR hS hl hcl hsl hi h1 h2 (fun H1 locs1 hR1 hS1 => kk σ1' σ2' H1 locs1 hrel2 hR1 hS1)
  by_cases hv7 : v = 7
  · refine lv_tableIn (tgt := 574) hx hb dL_law_33 (by rw [e1]; omega) (by rw [e1]; omega) (by rw [e1, hv7]; rfl) (by decide) ?_
    obtain ⟨r, σ1', σ2', h1, h2, hrel2⟩ := pr_feed hrel w1 w2 y1 y2 (jq_a_r i 1) (jq_a_r i 2) (jq_a_r i 3) (jq_a_r i 4) (jq_a_r i 5)
    exact law_7 C0 hR hS hl hcl hsl hi h1 h2 (fun H1 locs1 hR1 hS1 => kk σ1' σ2' H1 locs1 hrel2 hR1 hS1)
  by_cases hv8 : v = 8
  · refine lv_tableIn (tgt := 637) hx hb dL_law_33 (by rw [e1]; omega) (by rw [e1]; omega) (by rw [e1, hv8]; rfl) (by decide) ?_
    obtain ⟨r, σ1', σ2', h1, h2, hrel2⟩ := pr_committee hrel w1 w2 y1 y2 (jq_a_r i 1)
    exact law_8 C0 hR hS hl hcl hsl hi h1 h2 (fun H1 locs1 hR1 hS1 => kk σ1' σ2' H1 locs1 hrel2 hR1 hS1)
  by_cases hv9 : v = 9
  · refine lv_tableIn (tgt := 660) hx hb dL_law_33 (by rw [e1]; omega) (by rw [e1]; omega) (by rw [e1, hv9]; rfl) (by decide) ?_
    obtain ⟨r, σ1', σ2', h1, h2, hrel2⟩ := pr_sessions hrel w1 w2 y1 y2 (jq_a_r i 1)
    exact law_9 C0 hR hS hl hcl hsl hi h1 h2 (fun H1 locs1 hR1 hS1 => kk σ1' σ2' H1 locs1 hrel2 hR1 hS1)
  by_cases hv10 : v = 10
  · refine lv_tableIn (tgt := 683) hx hb dL_law_33 (by rw [e1]; omega) (by rw [e1]; omega) (by rw [e1, hv10]; rfl) (by decide) ?_
    obtain ⟨r, h1, h2⟩ := pr_fault hrel w1 w2 y1 y2 (jq_a_r i 1)
    exact law_10 C0 hR hS hl hcl hsl hi h1 h2 (fun H1 locs1 hR1 hS1 => kk σ1 σ2 H1 locs1 hrel hR1 hS1)
  by_cases hv11 : v = 11
  · refine lv_tableIn (tgt := 706) hx hb dL_law_33 (by rw [e1]; omega) (by rw [e1]; omega) (by rw [e1, hv11]; rfl) (by decide) ?_
    obtain ⟨r, σ1', σ2', h1, h2, hrel2⟩ := pr_told hrel w1 w2 y1 y2 (jq_a_r i 1)
    exact law_11 C0 hR hS hl hcl hsl hi h1 h2 (fun H1 locs1 hR1 hS1 => kk σ1' σ2' H1 locs1 hrel2 hR1 hS1)
  by_cases hv12 : v = 12
  · refine lv_tableIn (tgt := 729) hx hb dL_law_33 (by rw [e1]; omega) (by rw [e1]; omega) (by rw [e1, hv12]; rfl) (by decide) ?_
    obtain ⟨r, σ1', σ2', h1, h2, hrel2⟩ := pr_who hrel w1 w2 y1 y2 (jq_a_r i 1)
    exact law_12 C0 hR hS hl hcl hsl hi h1 h2 (fun H1 locs1 hR1 hS1 => kk σ1' σ2' H1 locs1 hrel2 hR1 hS1)
  by_cases hv13 : v = 13
  · refine lv_tableIn (tgt := 752) hx hb dL_law_33 (by rw [e1]; omega) (by rw [e1]; omega) (by rw [e1, hv13]; rfl) (by decide) ?_
    obtain ⟨r, σ1', σ2', h1, h2, hrel2⟩ := pr_placeOf hrel w1 w2 y1 y2 (jq_a_r i 1)
    exact law_13 C0 hR hS hl hcl hsl hi h1 h2 (fun H1 locs1 hR1 hS1 => kk σ1' σ2' H1 locs1 hrel2 hR1 hS1)
  by_cases hv14 : v = 14
  · refine lv_tableIn (tgt := 775) hx hb dL_law_33 (by rw [e1]; omega) (by rw [e1]; omega) (by rw [e1, hv14]; rfl) (by decide) ?_
    obtain ⟨r, σ1', σ2', h1, h2, hrel2⟩ := pr_least hrel w1 w2 y1 y2 (jq_a_r i 1)
    exact law_14 C0 hR hS hl hcl hsl hi h1 h2 (fun H1 locs1 hR1 hS1 => kk σ1' σ2' H1 locs1 hrel2 hR1 hS1)
  by_cases hv15 : v = 15
  · refine lv_tableIn (tgt := 798) hx hb dL_law_33 (by rw [e1]; omega) (by rw [e1]; omega) (by rw [e1, hv15]; rfl) (by decide) ?_
    obtain ⟨r, σ1', σ2', h1, h2, hrel2⟩ := pr_wish hrel w1 w2 y1 y2 (jq_a_r i 1) (jq_a_r i 2)
    exact law_15 C0 hR hS hl hcl hsl hi h1 h2 (fun H1 locs1 hR1 hS1 => kk σ1' σ2' H1 locs1 hrel2 hR1 hS1)
  by_cases hv16 : v = 16
  · refine lv_tableIn (tgt := 831) hx hb dL_law_33 (by rw [e1]; omega) (by rw [e1]; omega) (by rw [e1, hv16]; rfl) (by decide) ?_
    obtain ⟨r, σ1', σ2', h1, h2, hrel2⟩ := pr_article hrel w1 w2 y1 y2 (jq_a_r i 1) (jq_a_r i 2)
    exact law_16 C0 hR hS hl hcl hsl hi h1 h2 (fun H1 locs1 hR1 hS1 => kk σ1' σ2' H1 locs1 hrel2 hR1 hS1)
  by_cases hv17 : v = 17
  · refine lv_tableIn (tgt := 864) hx hb dL_law_33 (by rw [e1]; omega) (by rw [e1]; omega) (by rw [e1, hv17]; rfl) (by decide) ?_
    obtain ⟨r, σ1', σ2', h1, h2, hrel2⟩ := pr_beside hrel w1 w2 y1 y2 (jq_a_r i 1) (jq_a_r i 2)
    exact law_17 C0 hR hS hl hcl hsl hi h1 h2 (fun H1 locs1 hR1 hS1 => kk σ1' σ2' H1 locs1 hrel2 hR1 hS1)
  by_cases hv18 : v = 18
  · refine lv_tableIn (tgt := 897) hx hb dL_law_33 (by rw [e1]; omega) (by rw [e1]; omega) (by rw [e1, hv18]; rfl) (by decide) ?_
    obtain ⟨r, σ1', σ2', h1, h2, hrel2⟩ := pr_facing hrel w1 w2 y1 y2 (jq_a_r i 1) (jq_a_r i 2)
    exact law_18 C0 hR hS hl hcl hsl hi h1 h2 (fun H1 locs1 hR1 hS1 => kk σ1' σ2' H1 locs1 hrel2 hR1 hS1)
  by_cases hv19 : v = 19
  · refine lv_tableIn (tgt := 930) hx hb dL_law_33 (by rw [e1]; omega) (by rw [e1]; omega) (by rw [e1, hv19]; rfl) (by decide) ?_
    obtain ⟨r, σ1', σ2', h1, h2, hrel2⟩ := pr_worth hrel w1 w2 y1 y2 (jq_a_r i 1)
    exact law_19 C0 hR hS hl hcl hsl hi h1 h2 (fun H1 locs1 hR1 hS1 => kk σ1' σ2' H1 locs1 hrel2 hR1 hS1)
  by_cases hv20 : v = 20
  · refine lv_tableIn (tgt := 953) hx hb dL_law_33 (by rw [e1]; omega) (by rw [e1]; omega) (by rw [e1, hv20]; rfl) (by decide) ?_
    obtain ⟨r, σ1', σ2', h1, h2, hrel2⟩ := pr_allWorth hrel w1 w2 y1 y2 
    exact law_20 C0 hR hS hl hcl hsl hi h1 h2 (fun H1 locs1 hR1 hS1 => kk σ1' σ2' H1 locs1 hrel2 hR1 hS1)
  by_cases hv21 : v = 21
  · refine lv_tableIn (tgt := 966) hx hb dL_law_33 (by rw [e1]; omega) (by rw [e1]; omega) (by rw [e1, hv21]; rfl) (by decide) ?_
    obtain ⟨r, σ1', σ2', h1, h2, hrel2⟩ := pr_signs hrel w1 w2 y1 y2 (jq_a_r i 1)
    exact law_21 C0 hR hS hl hcl hsl hi h1 h2 (fun H1 locs1 hR1 hS1 => kk σ1' σ2' H1 locs1 hrel2 hR1 hS1)
  by_cases hv22 : v = 22
  · refine lv_tableIn (tgt := 989) hx hb dL_law_33 (by rw [e1]; omega) (by rw [e1]; omega) (by rw [e1, hv22]; rfl) (by decide) ?_
    obtain ⟨r, σ1', σ2', h1, h2, hrel2⟩ := pr_dearest hrel w1 w2 y1 y2 (jq_a_r i 1)
    exact law_22 C0 hR hS hl hcl hsl hi h1 h2 (fun H1 locs1 hR1 hS1 => kk σ1' σ2' H1 locs1 hrel2 hR1 hS1)
  by_cases hv23 : v = 23
  · refine lv_tableIn (tgt := 1012) hx hb dL_law_33 (by rw [e1]; omega) (by rw [e1]; omega) (by rw [e1, hv23]; rfl) (by decide) ?_
    obtain ⟨r, σ1', σ2', h1, h2, hrel2⟩ := pr_sit hrel w1 w2 y1 y2 (jq_a_r i 1) (jq_a_r i 2)
    exact law_23 C0 hR hS hl hcl hsl hi h1 h2 (fun H1 locs1 hR1 hS1 => kk σ1' σ2' H1 locs1 hrel2 hR1 hS1)
  by_cases hv24 : v = 24
  · refine lv_tableIn (tgt := 1045) hx hb dL_law_33 (by rw [e1]; omega) (by rw [e1]; omega) (by rw [e1, hv24]; rfl) (by decide) ?_
    obtain ⟨r, σ1', σ2', h1, h2, hrel2⟩ := pr_rise hrel w1 w2 y1 y2 (jq_a_r i 1)
    exact law_24 C0 hR hS hl hcl hsl hi h1 h2 (fun H1 locs1 hR1 hS1 => kk σ1' σ2' H1 locs1 hrel2 hR1 hS1)
  by_cases hv25 : v = 25
  · refine lv_tableIn (tgt := 1068) hx hb dL_law_33 (by rw [e1]; omega) (by rw [e1]; omega) (by rw [e1, hv25]; rfl) (by decide) ?_
    obtain ⟨r, σ1', σ2', h1, h2, hrel2⟩ := pr_swap hrel w1 w2 y1 y2 (jq_a_r i 1) (jq_a_r i 2)
    exact law_25 C0 hR hS hl hcl hsl hi h1 h2 (fun H1 locs1 hR1 hS1 => kk σ1' σ2' H1 locs1 hrel2 hR1 hS1)
  by_cases hv26 : v = 26
  · refine lv_tableIn (tgt := 1101) hx hb dL_law_33 (by rw [e1]; omega) (by rw [e1]; omega) (by rw [e1, hv26]; rfl) (by decide) ?_
    obtain ⟨r, σ1', σ2', h1, h2, hrel2⟩ := pr_turn hrel w1 w2 y1 y2 (jq_a_r i 1)
    exact law_26 C0 hR hS hl hcl hsl hi h1 h2 (fun H1 locs1 hR1 hS1 => kk σ1' σ2' H1 locs1 hrel2 hR1 hS1)
  by_cases hv27 : v = 27
  · refine lv_tableIn (tgt := 1124) hx hb dL_law_33 (by rw [e1]; omega) (by rw [e1]; omega) (by rw [e1, hv27]; rfl) (by decide) ?_
    obtain ⟨r, σ1', σ2', h1, h2, hrel2⟩ := pr_day hrel w1 w2 y1 y2 (jq_a_r i 1)
    exact law_27 C0 hR hS hl hcl hsl hi h1 h2 (fun H1 locs1 hR1 hS1 => kk σ1' σ2' H1 locs1 hrel2 hR1 hS1)
  by_cases hv28 : v = 28
  · refine lv_tableIn (tgt := 1147) hx hb dL_law_33 (by rw [e1]; omega) (by rw [e1]; omega) (by rw [e1, hv28]; rfl) (by decide) ?_
    obtain ⟨r, σ1', σ2', h1, h2, hrel2⟩ := pr_agree hrel w1 w2 y1 y2 (jq_a_r i 1)
    exact law_28 C0 hR hS hl hcl hsl hi h1 h2 (fun H1 locs1 hR1 hS1 => kk σ1' σ2' H1 locs1 hrel2 hR1 hS1)
  by_cases hv29 : v = 29
  · refine lv_tableIn (tgt := 1170) hx hb dL_law_33 (by rw [e1]; omega) (by rw [e1]; omega) (by rw [e1, hv29]; rfl) (by decide) ?_
    obtain ⟨r, σ1', σ2', h1, h2, hrel2⟩ := pr_withdraw hrel w1 w2 y1 y2 (jq_a_r i 1)
    exact law_29 C0 hR hS hl hcl hsl hi h1 h2 (fun H1 locs1 hR1 hS1 => kk σ1' σ2' H1 locs1 hrel2 hR1 hS1)
  by_cases hv30 : v = 30
  · refine lv_tableIn (tgt := 1193) hx hb dL_law_33 (by rw [e1]; omega) (by rw [e1]; omega) (by rw [e1, hv30]; rfl) (by decide) ?_
    obtain ⟨r, σ1', σ2', h1, h2, hrel2⟩ := pr_insist hrel w1 w2 y1 y2 (jq_a_r i 1) (jq_a_r i 2)
    exact law_30 C0 hR hS hl hcl hsl hi h1 h2 (fun H1 locs1 hR1 hS1 => kk σ1' σ2' H1 locs1 hrel2 hR1 hS1)
  by_cases hv31 : v = 31
  · refine lv_tableIn (tgt := 1226) hx hb dL_law_33 (by rw [e1]; omega) (by rw [e1]; omega) (by rw [e1, hv31]; rfl) (by decide) ?_
    obtain ⟨r, σ1', σ2', h1, h2, hrel2⟩ := pr_value hrel w1 w2 y1 y2 (jq_a_r i 1) (jq_a_r i 2)
    exact law_31 C0 hR hS hl hcl hsl hi h1 h2 (fun H1 locs1 hR1 hS1 => kk σ1' σ2' H1 locs1 hrel2 hR1 hS1)
  by_cases hv32 : v = 32
  · refine lv_tableIn (tgt := 1259) hx hb dL_law_33 (by rw [e1]; omega) (by rw [e1]; omega) (by rw [e1, hv32]; rfl) (by decide) ?_
    by_cases hz : Int32.ofInt (jq_a xs i 2) = 0
    · obtain ⟨r, σ1', σ2', h1, h2, hrel2⟩ := pr_carve hrel w1 w2 y1 y2 (jq_a_r i 1) (Or.inl rfl)
      exact law_32_0 C0 hR hS hl hcl hsl hi hz h1 h2 (fun H1 locs1 hR1 hS1 => kk σ1' σ2' H1 locs1 hrel2 hR1 hS1)
    · obtain ⟨r, σ1', σ2', h1, h2, hrel2⟩ := pr_carve hrel w1 w2 y1 y2 (jq_a_r i 1) (Or.inr rfl)
      exact law_32_1 C0 hR hS hl hcl hsl hi hz h1 h2 (fun H1 locs1 hR1 hS1 => kk σ1' σ2' H1 locs1 hrel2 hR1 hS1)
  by_cases hv33 : v = 33
  · refine lv_tableIn (tgt := 1308) hx hb dL_law_33 (by rw [e1]; omega) (by rw [e1]; omega) (by rw [e1, hv33]; rfl) (by decide) ?_
    obtain ⟨r, σ1', σ2', h1, h2, hrel2⟩ := pr_seatings hrel w1 w2 y1 y2 
    exact law_33 C0 hR hS hl hcl hsl hi h1 h2 (fun H1 locs1 hR1 hS1 => kk σ1' σ2' H1 locs1 hrel2 hR1 hS1)
  by_cases hv34 : v = 34
  · refine lv_tableIn (tgt := 1321) hx hb dL_law_33 (by rw [e1]; omega) (by rw [e1]; omega) (by rw [e1, hv34]; rfl) (by decide) ?_
    obtain ⟨r, σ1', σ2', h1, h2, hrel2⟩ := pr_good hrel w1 w2 y1 y2 
    exact law_34 C0 hR hS hl hcl hsl hi h1 h2 (fun H1 locs1 hR1 hS1 => kk σ1' σ2' H1 locs1 hrel2 hR1 hS1)
  by_cases hv35 : v = 35
  · refine lv_tableIn (tgt := 1334) hx hb dL_law_33 (by rw [e1]; omega) (by rw [e1]; omega) (by rw [e1, hv35]; rfl) (by decide) ?_
    obtain ⟨r, σ1', σ2', h1, h2, hrel2⟩ := pr_classes hrel w1 w2 y1 y2 
    exact law_35 C0 hR hS hl hcl hsl hi h1 h2 (fun H1 locs1 hR1 hS1 => kk σ1' σ2' H1 locs1 hrel2 hR1 hS1)
  by_cases hv36 : v = 36
  · refine lv_tableIn (tgt := 1347) hx hb dL_law_33 (by rw [e1]; omega) (by rw [e1]; omega) (by rw [e1, hv36]; rfl) (by decide) ?_
    obtain ⟨r, σ1', σ2', h1, h2, hrel2⟩ := pr_goodAt hrel w1 w2 y1 y2 (jq_a_r i 1)
    exact law_36 C0 hR hS hl hcl hsl hi h1 h2 (fun H1 locs1 hR1 hS1 => kk σ1' σ2' H1 locs1 hrel2 hR1 hS1)
  by_cases hv37 : v = 37
  · refine lv_tableIn (tgt := 1370) hx hb dL_law_33 (by rw [e1]; omega) (by rw [e1]; omega) (by rw [e1, hv37]; rfl) (by decide) ?_
    obtain ⟨r, σ1', σ2', h1, h2, hrel2⟩ := pr_best hrel w1 w2 y1 y2 
    exact law_37 C0 hR hS hl hcl hsl hi h1 h2 (fun H1 locs1 hR1 hS1 => kk σ1' σ2' H1 locs1 hrel2 hR1 hS1)
  by_cases hv38 : v = 38
  · refine lv_tableIn (tgt := 1383) hx hb dL_law_33 (by rw [e1]; omega) (by rw [e1]; omega) (by rw [e1, hv38]; rfl) (by decide) ?_
    obtain ⟨r, σ1', σ2', h1, h2, hrel2⟩ := pr_bestAt hrel w1 w2 y1 y2 (jq_a_r i 1)
    exact law_38 C0 hR hS hl hcl hsl hi h1 h2 (fun H1 locs1 hR1 hS1 => kk σ1' σ2' H1 locs1 hrel2 hR1 hS1)
  by_cases hv39 : v = 39
  · refine lv_tableIn (tgt := 1406) hx hb dL_law_33 (by rw [e1]; omega) (by rw [e1]; omega) (by rw [e1, hv39]; rfl) (by decide) ?_
    obtain ⟨r, σ1', σ2', h1, h2, hrel2⟩ := pr_mostSign hrel w1 w2 y1 y2 
    exact law_39 C0 hR hS hl hcl hsl hi h1 h2 (fun H1 locs1 hR1 hS1 => kk σ1' σ2' H1 locs1 hrel2 hR1 hS1)
  by_cases hv40 : v = 40
  · refine lv_tableIn (tgt := 1419) hx hb dL_law_33 (by rw [e1]; omega) (by rw [e1]; omega) (by rw [e1, hv40]; rfl) (by decide) ?_
    obtain ⟨r, σ1', σ2', h1, h2, hrel2⟩ := pr_quarrel hrel w1 w2 y1 y2 
    exact law_40 C0 hR hS hl hcl hsl hi h1 h2 (fun H1 locs1 hR1 hS1 => kk σ1' σ2' H1 locs1 hrel2 hR1 hS1)
  by_cases hv41 : v = 41
  · refine lv_tableIn (tgt := 1432) hx hb dL_law_33 (by rw [e1]; omega) (by rw [e1]; omega) (by rw [e1, hv41]; rfl) (by decide) ?_
    obtain ⟨r, σ1', σ2', h1, h2, hrel2⟩ := pr_pleased hrel w1 w2 y1 y2 (jq_a_r i 1)
    exact law_41 C0 hR hS hl hcl hsl hi h1 h2 (fun H1 locs1 hR1 hS1 => kk σ1' σ2' H1 locs1 hrel2 hR1 hS1)
  by_cases hv42 : v = 42
  · refine lv_tableIn (tgt := 1455) hx hb dL_law_33 (by rw [e1]; omega) (by rw [e1]; omega) (by rw [e1, hv42]; rfl) (by decide) ?_
    obtain ⟨r, σ1', σ2', h1, h2, hrel2⟩ := pr_mostFor hrel w1 w2 y1 y2 (jq_a_r i 1)
    exact law_42 C0 hR hS hl hcl hsl hi h1 h2 (fun H1 locs1 hR1 hS1 => kk σ1' σ2' H1 locs1 hrel2 hR1 hS1)
  by_cases hv43 : v = 43
  · refine lv_tableIn (tgt := 1478) hx hb dL_law_33 (by rw [e1]; omega) (by rw [e1]; omega) (by rw [e1, hv43]; rfl) (by decide) ?_
    obtain ⟨r, σ1', σ2', h1, h2, hrel2⟩ := pr_signsIn hrel w1 w2 y1 y2 (jq_a_r i 1)
    exact law_43 C0 hR hS hl hcl hsl hi h1 h2 (fun H1 locs1 hR1 hS1 => kk σ1' σ2' H1 locs1 hrel2 hR1 hS1)
  by_cases hv44 : v = 44
  · refine lv_tableIn (tgt := 1501) hx hb dL_law_33 (by rw [e1]; omega) (by rw [e1]; omega) (by rw [e1, hv44]; rfl) (by decide) ?_
    obtain ⟨r, σ1', σ2', h1, h2, hrel2⟩ := pr_seatBest hrel w1 w2 y1 y2 
    exact law_44 C0 hR hS hl hcl hsl hi h1 h2 (fun H1 locs1 hR1 hS1 => kk σ1' σ2' H1 locs1 hrel2 hR1 hS1)
  by_cases hv45 : v = 45
  · refine lv_tableIn (tgt := 1514) hx hb dL_law_33 (by rw [e1]; omega) (by rw [e1]; omega) (by rw [e1, hv45]; rfl) (by decide) ?_
    obtain ⟨r, σ1', σ2', h1, h2, hrel2⟩ := pr_fish hrel w1 w2 y1 y2 
    exact law_45 C0 hR hS hl hcl hsl hi h1 h2 (fun H1 locs1 hR1 hS1 => kk σ1' σ2' H1 locs1 hrel2 hR1 hS1)
  by_cases hv46 : v = 46
  · refine lv_tableIn (tgt := 1527) hx hb dL_law_33 (by rw [e1]; omega) (by rw [e1]; omega) (by rw [e1, hv46]; rfl) (by decide) ?_
    obtain ⟨r, σ1', σ2', h1, h2, hrel2⟩ := pr_leastFish hrel w1 w2 y1 y2 
    exact law_46 C0 hR hS hl hcl hsl hi h1 h2 (fun H1 locs1 hR1 hS1 => kk σ1' σ2' H1 locs1 hrel2 hR1 hS1)
  by_cases hv47 : v = 47
  · refine lv_tableIn (tgt := 1540) hx hb dL_law_33 (by rw [e1]; omega) (by rw [e1]; omega) (by rw [e1, hv47]; rfl) (by decide) ?_
    obtain ⟨r, σ1', σ2', h1, h2, hrel2⟩ := pr_bestSwap hrel w1 w2 y1 y2 
    exact law_47 C0 hR hS hl hcl hsl hi h1 h2 (fun H1 locs1 hR1 hS1 => kk σ1' σ2' H1 locs1 hrel2 hR1 hS1)
  by_cases hv48 : v = 48
  · refine lv_tableIn (tgt := 1553) hx hb dL_law_33 (by rw [e1]; omega) (by rw [e1]; omega) (by rw [e1, hv48]; rfl) (by decide) ?_
    obtain ⟨r, σ1', σ2', h1, h2, hrel2⟩ := pr_bestTurn hrel w1 w2 y1 y2 
    exact law_48 C0 hR hS hl hcl hsl hi h1 h2 (fun H1 locs1 hR1 hS1 => kk σ1' σ2' H1 locs1 hrel2 hR1 hS1)
  by_cases hv49 : v = 49
  · refine lv_tableIn (tgt := 1566) hx hb dL_law_33 (by rw [e1]; omega) (by rw [e1]; omega) (by rw [e1, hv49]; rfl) (by decide) ?_
    obtain ⟨r, σ1', σ2', h1, h2, hrel2⟩ := pr_signsBy hrel w1 w2 y1 y2 (jq_a_r i 1) (jq_a_r i 2)
    exact law_49 C0 hR hS hl hcl hsl hi h1 h2 (fun H1 locs1 hR1 hS1 => kk σ1' σ2' H1 locs1 hrel2 hR1 hS1)
  by_cases hv50 : v = 50
  · refine lv_tableIn (tgt := 1599) hx hb dL_law_33 (by rw [e1]; omega) (by rw [e1]; omega) (by rw [e1, hv50]; rfl) (by decide) ?_
    obtain ⟨r, σ1', σ2', h1, h2, hrel2⟩ := pr_game hrel w1 w2 y1 y2 (jq_a_r i 1) (jq_a_r i 2) (jq_a_r i 3)
    exact law_50 C0 hR hS hl hcl hsl hi h1 h2 (fun H1 locs1 hR1 hS1 => kk σ1' σ2' H1 locs1 hrel2 hR1 hS1)
  by_cases hv51 : v = 51
  · refine lv_tableIn (tgt := 1642) hx hb dL_law_33 (by rw [e1]; omega) (by rw [e1]; omega) (by rw [e1, hv51]; rfl) (by decide) ?_
    obtain ⟨r, σ1', σ2', h1, h2, hrel2⟩ := pr_moveOf hrel w1 w2 y1 y2 (jq_a_r i 1) (jq_a_r i 2) (jq_a_r i 3)
    exact law_51 C0 hR hS hl hcl hsl hi h1 h2 (fun H1 locs1 hR1 hS1 => kk σ1' σ2' H1 locs1 hrel2 hR1 hS1)
  by_cases hv52 : v = 52
  · refine lv_tableIn (tgt := 1685) hx hb dL_law_33 (by rw [e1]; omega) (by rw [e1]; omega) (by rw [e1, hv52]; rfl) (by decide) ?_
    obtain ⟨r, σ1', σ2', h1, h2, hrel2⟩ := pr_leans hrel w1 w2 y1 y2 (jq_a_r i 1)
    exact law_52 C0 hR hS hl hcl hsl hi h1 h2 (fun H1 locs1 hR1 hS1 => kk σ1' σ2' H1 locs1 hrel2 hR1 hS1)
  by_cases hv53 : v = 53
  · refine lv_tableIn (tgt := 1708) hx hb dL_law_33 (by rw [e1]; omega) (by rw [e1]; omega) (by rw [e1, hv53]; rfl) (by decide) ?_
    obtain ⟨r, σ1', σ2', h1, h2, hrel2⟩ := pr_falls hrel w1 w2 y1 y2 (jq_a_r i 1)
    exact law_53 C0 hR hS hl hcl hsl hi h1 h2 (fun H1 locs1 hR1 hS1 => kk σ1' σ2' H1 locs1 hrel2 hR1 hS1)
  by_cases hv54 : v = 54
  · refine lv_tableIn (tgt := 1731) hx hb dL_law_33 (by rw [e1]; omega) (by rw [e1]; omega) (by rw [e1, hv54]; rfl) (by decide) ?_
    obtain ⟨r, σ1', σ2', h1, h2, hrel2⟩ := pr_keystone hrel w1 w2 y1 y2 
    exact law_54 C0 hR hS hl hcl hsl hi h1 h2 (fun H1 locs1 hR1 hS1 => kk σ1' σ2' H1 locs1 hrel2 hR1 hS1)
  by_cases hv55 : v = 55
  · refine lv_tableIn (tgt := 1744) hx hb dL_law_33 (by rw [e1]; omega) (by rw [e1]; omega) (by rw [e1, hv55]; rfl) (by decide) ?_
    obtain ⟨r, σ1', σ2', h1, h2, hrel2⟩ := pr_orders hrel w1 w2 y1 y2 
    exact law_55 C0 hR hS hl hcl hsl hi h1 h2 (fun H1 locs1 hR1 hS1 => kk σ1' σ2' H1 locs1 hrel2 hR1 hS1)
  by_cases hv56 : v = 56
  · refine lv_tableIn (tgt := 1757) hx hb dL_law_33 (by rw [e1]; omega) (by rw [e1]; omega) (by rw [e1, hv56]; rfl) (by decide) ?_
    obtain ⟨r, σ1', σ2', h1, h2, hrel2⟩ := pr_soonest hrel w1 w2 y1 y2 (jq_a_r i 1)
    exact law_56 C0 hR hS hl hcl hsl hi h1 h2 (fun H1 locs1 hR1 hS1 => kk σ1' σ2' H1 locs1 hrel2 hR1 hS1)
  by_cases hv57 : v = 57
  · refine lv_tableIn (tgt := 1780) hx hb dL_law_33 (by rw [e1]; omega) (by rw [e1]; omega) (by rw [e1, hv57]; rfl) (by decide) ?_
    obtain ⟨r, σ1', σ2', h1, h2, hrel2⟩ := pr_chain hrel w1 w2 y1 y2 (jq_a_r i 1)
    exact law_57 C0 hR hS hl hcl hsl hi h1 h2 (fun H1 locs1 hR1 hS1 => kk σ1' σ2' H1 locs1 hrel2 hR1 hS1)
  by_cases hv58 : v = 58
  · refine lv_tableIn (tgt := 1803) hx hb dL_law_33 (by rw [e1]; omega) (by rw [e1]; omega) (by rw [e1, hv58]; rfl) (by decide) ?_
    obtain ⟨r, σ1', σ2', h1, h2, hrel2⟩ := pr_agreedIn hrel w1 w2 y1 y2 (jq_a_r i 1)
    exact law_58 C0 hR hS hl hcl hsl hi h1 h2 (fun H1 locs1 hR1 hS1 => kk σ1' σ2' H1 locs1 hrel2 hR1 hS1)
  by_cases hv59 : v = 59
  · refine lv_tableIn (tgt := 1826) hx hb dL_law_33 (by rw [e1]; omega) (by rw [e1]; omega) (by rw [e1, hv59]; rfl) (by decide) ?_
    obtain ⟨r, σ1', σ2', h1, h2, hrel2⟩ := pr_luck hrel w1 w2 y1 y2 (jq_a_r i 1)
    exact law_59 C0 hR hS hl hcl hsl hi h1 h2 (fun H1 locs1 hR1 hS1 => kk σ1' σ2' H1 locs1 hrel2 hR1 hS1)
  by_cases hv60 : v = 60
  · refine lv_tableIn (tgt := 1849) hx hb dL_law_33 (by rw [e1]; omega) (by rw [e1]; omega) (by rw [e1, hv60]; rfl) (by decide) ?_
    obtain ⟨r, σ1', σ2', h1, h2, hrel2⟩ := pr_weakest hrel w1 w2 y1 y2 
    exact law_60 C0 hR hS hl hcl hsl hi h1 h2 (fun H1 locs1 hR1 hS1 => kk σ1' σ2' H1 locs1 hrel2 hR1 hS1)
  by_cases hv61 : v = 61
  · refine lv_tableIn (tgt := 1862) hx hb dL_law_33 (by rw [e1]; omega) (by rw [e1]; omega) (by rw [e1, hv61]; rfl) (by decide) ?_
    obtain ⟨r, σ1', σ2', h1, h2, hrel2⟩ := pr_copySeats hrel w1 w2 y1 y2 (jq_a_r i 1)
    exact law_61 C0 hR hS hl hcl hsl hi h1 h2 (fun H1 locs1 hR1 hS1 => kk σ1' σ2' H1 locs1 hrel2 hR1 hS1)
  by_cases hv62 : v = 62
  · refine lv_tableIn (tgt := 1885) hx hb dL_law_33 (by rw [e1]; omega) (by rw [e1]; omega) (by rw [e1, hv62]; rfl) (by decide) ?_
    obtain ⟨r, σ1', σ2', h1, h2, hrel2⟩ := pr_seatBy hrel w1 w2 y1 y2 (jq_a_r i 1)
    exact law_62 C0 hR hS hl hcl hsl hi h1 h2 (fun H1 locs1 hR1 hS1 => kk σ1' σ2' H1 locs1 hrel2 hR1 hS1)
  by_cases hv63 : v = 63
  · refine lv_tableIn (tgt := 1908) hx hb dL_law_33 (by rw [e1]; omega) (by rw [e1]; omega) (by rw [e1, hv63]; rfl) (by decide) ?_
    obtain ⟨r, σ1', σ2', h1, h2, hrel2⟩ := pr_live hrel w1 w2 y1 y2 (jq_a_r i 1)
    exact law_63 C0 hR hS hl hcl hsl hi h1 h2 (fun H1 locs1 hR1 hS1 => kk σ1' σ2' H1 locs1 hrel2 hR1 hS1)
  by_cases hv64 : v = 64
  · refine lv_tableIn (tgt := 1931) hx hb dL_law_33 (by rw [e1]; omega) (by rw [e1]; omega) (by rw [e1, hv64]; rfl) (by decide) ?_
    obtain ⟨r, σ1', σ2', h1, h2, hrel2⟩ := pr_lived hrel w1 w2 y1 y2 (jq_a_r i 1)
    exact law_64 C0 hR hS hl hcl hsl hi h1 h2 (fun H1 locs1 hR1 hS1 => kk σ1' σ2' H1 locs1 hrel2 hR1 hS1)
  by_cases hv65 : v = 65
  · refine lv_tableIn (tgt := 1954) hx hb dL_law_33 (by rw [e1]; omega) (by rw [e1]; omega) (by rw [e1, hv65]; rfl) (by decide) ?_
    obtain ⟨r, σ1', σ2', h1, h2, hrel2⟩ := pr_mean hrel w1 w2 y1 y2 (jq_a_r i 1) (jq_a_r i 2)
    exact law_65 C0 hR hS hl hcl hsl hi h1 h2 (fun H1 locs1 hR1 hS1 => kk σ1' σ2' H1 locs1 hrel2 hR1 hS1)
  by_cases hv66 : v = 66
  · refine lv_tableIn (tgt := 1987) hx hb dL_law_33 (by rw [e1]; omega) (by rw [e1]; omega) (by rw [e1, hv66]; rfl) (by decide) ?_
    obtain ⟨r, σ1', σ2', h1, h2, hrel2⟩ := pr_mark hrel w1 w2 y1 y2 
    exact law_66 C0 hR hS hl hcl hsl hi h1 h2 (fun H1 locs1 hR1 hS1 => kk σ1' σ2' H1 locs1 hrel2 hR1 hS1)
  by_cases hv67 : v = 67
  · refine lv_tableIn (tgt := 2000) hx hb dL_law_33 (by rw [e1]; omega) (by rw [e1]; omega) (by rw [e1, hv67]; rfl) (by decide) ?_
    obtain ⟨r, σ1', σ2', h1, h2, hrel2⟩ := pr_undo hrel w1 w2 y1 y2 
    exact law_67 C0 hR hS hl hcl hsl hi h1 h2 (fun H1 locs1 hR1 hS1 => kk σ1' σ2' H1 locs1 hrel2 hR1 hS1)
  refine lv_tableOut (tgt := 2013) hx hb dL_law_33 (by rw [e1]; omega) (by decide) ?_
  exact kk σ1 σ2 H locs hrel hR hS
theorem law_loop (C0 : jq_LC p s m meth c b L xs b1 b2 D cs ss1 ss2) (hcl : cells ≤ 600000) (hsl : slots ≤ 7302250) (kend : ∀ (H1 : Heap) (locs1 : List Loc) (ls1 : Array Slot), va_S (fun q => s.heap.size ≤ q) s.heap H1 locs1 → W p l e room_1 s m #[Value.ref b] below meth c H1 locs1 cells slots Q (F0 m 2019 ls1 [])) :
    ∀ (n i : Nat), L + 12 ≤ i + n → i ≤ L + 6 → ∀ (σ1 σ2 : jq_M) (H : Heap) (locs : List Loc) (ls : Array Slot), jq_Rel σ1 σ2 → jq_R2 b1 b2 D cs σ1 σ2 H → va_S (fun q => s.heap.size ≤ q) s.heap H locs → lv_has ls 4 [(0, .ref b), (1, .ref b1), (2, .ref b2), (3, .int (nI i))] → W p l e room_1 s m #[Value.ref b] below meth c H locs cells slots Q (F0 m 18 ls []) := by
  intro n
  induction n with
  | zero => intro i h1 h2; omega
  | succ n ih =>
    intro i hin hi2 σ1 σ2 H locs ls hrel hR hS hl
    have C1 := C0
    obtain ⟨hx, hb, hml, hown, hts, hX, hbl, hK, hSF1, hSF2, hN, hb1, hb2, hL⟩ := C1
    have hbA : ¬ (fun q : Nat => s.heap.size ≤ q) b := Nat.not_le.mpr hbl
    refine lv_iload_n hx hb dL_law_18 rfl (lv_at hl 3 rfl) ?_
    refine lv_aload_n hx hb dL_law_19 rfl (lv_at hl 0 rfl) ?_
    refine va_slen hx hb hX hbl hbA hS dL_law_20 ?_
    refine lv_bipush hx hb dL_law_21 (jq_8 (by decide) (by decide)) ?_
    refine lv_isub hx hb dL_law_23 ?_
    have e1 : Int32.ofNat L - Int32.ofInt 6 = Int32.ofInt ((L : Int) - 6) := by
      rw [Int32.ofInt_sub]
      congr 1
    rw [e1, jq_nI]
    have r1 : jq_r (i : Int) := by unfold jq_r; omega
    have r2 : jq_r ((L : Int) - 6) := by unfold jq_r; omega
    refine lv_icmp_gt (tgt := 2019) hx hb dL_law_24 (by decide) (fun _ => kend H locs ls hS) (fun hlt => ?_)
    have hi : i + 6 ≤ L := by
      by_cases q : (L : Int) - 6 < i
      · exact absurd ((jq_lt32 r2 r1).mpr q) hlt
      · omega
    refine lv_aload_n hx hb dL_law_27 rfl (lv_at hl 0 rfl) ?_
    refine lv_iload_n hx hb dL_law_28 rfl (lv_at hl 3 rfl) ?_
    refine va_sld hx hb hX hbl hbA hS (vp_in_nI (by omega) (by omega)) dL_law_29 ?_
    rw [nI_clamp (by omega)]
    refine lv_bipush hx hb dL_law_30 (jq_8 (by decide) (by decide)) ?_
    refine lv_iand hx hb dL_law_32 ?_
    have e2 : xs i &&& Int32.ofInt 127 = Int32.ofInt (jq_and (jq_a xs i 0) 127) := by
      unfold jq_and jq_a
      rw [jq_oft, jq_oft, Nat.add_zero]
    rw [e2]
    refine law_sw C0 hR hS hl hcl hsl hi hrel (fun σ1' σ2' H1 locs1 hrel2 hR1 hS1 => ?_)
    refine lv_iinc (v := nI (i + 6)) (lv' := [(3, .int (nI (i + 6))), (0, .ref b), (1, .ref b1), (2, .ref b2)]) hx hb dL_law_2013 hl (k := 3) rfl (by rw [← nI_add]; rfl) (by decide) rfl (fun ls2 hl2 => ?_)
    refine lv_goto (tgt := 18) hx hb dL_law_2016 (by decide) ?_
    exact ih (i + 6) (by omega) (by omega) σ1' σ2' H1 locs1 ls2 hrel2 hR1 hS1 (lv_sub hl2 [1, 2, 3, 0] rfl)
end
