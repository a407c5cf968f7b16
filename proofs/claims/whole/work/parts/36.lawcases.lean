section
variable {p : Program} {l : Launch} {e : Env} {s : State} {m : MethodId} {below : List Frame} {meth : Method} {c : Code} {b L : Nat} {xs : Nat → Int32} {b1 b2 : Nat} {D : va_G} {cs : Nat → ClassId} {ss1 ss2 : jq_S} {H : Heap} {locs : List Loc} {cells slots : Nat} {Q : State → Prop} {pc : Nat} {ls : Array Slot} {rest : List Value} {σ1 σ2 : jq_M} {i : Nat}
theorem lw_k32 : Cond.constantLong RL 32 (Int64.ofInt 4294967295) ∈ jq_T := jq_in 2386 (by decide +kernel) rfl
theorem ml_RL_13 : jq_vl RL 13 yX10_status cX10_status 1 (some .int) 0 := ⟨jq_in 577 (by decide +kernel) rfl, yf_X10_status⟩
theorem ml_RL_17 : jq_vl RL 17 yX11_status cX11_status 1 (some .int) 0 := ⟨jq_in 1674 (by decide +kernel) rfl, yf_X11_status⟩
set_option maxHeartbeats 4000000 in
set_option maxRecDepth 100000 in
theorem law_0 (C0 : jq_LC p s m meth c b L xs b1 b2 D cs ss1 ss2) (hR : jq_R2 b1 b2 D cs σ1 σ2 H) (hS : va_S (fun q => s.heap.size ≤ q) s.heap H locs) (hl : lv_has ls 4 [(0, .ref b), (1, .ref b1), (2, .ref b2), (3, .int (nI i))]) (hcl : cells ≤ 600000) (hsl : slots ≤ 7302250) (hi : i + 6 ≤ L) {r : Int} (h1 : X10_status σ1 = some r) (h2 : X11_status σ2 = some r)
    (kk : ∀ (H1 : Heap) (locs1 : List Loc), jq_R2 b1 b2 D cs σ1 σ2 H1 → va_S (fun q => s.heap.size ≤ q) s.heap H1 locs1 → W p l e room_1 s m #[Value.ref b] below meth c H1 locs1 cells slots Q (F0 m 2013 ls [])) : W p l e room_1 s m #[Value.ref b] below meth c H locs cells slots Q (F0 m 320 ls []) := by
  have C1 := C0
  obtain ⟨hx, hb, -⟩ := C1
  refine lv_aload_n hx hb dL_law_320 rfl (lv_at hl 1 rfl) ?_
  refine law_callX (v := jI r) (avs := []) C0 hR hS hl.1 hcl hsl (ctX10_status h1) ml_RL_13 rfl rfl (fun v hv => by cases hv) rfl rfl rfl rfl dL_law_321 (fun H locs hR hS => ?_)
  refine lv_aload_n hx hb dL_law_324 rfl (lv_at hl 2 rfl) ?_
  refine law_callM (v := jI r) (avs := []) C0 hR hS hl.1 hcl hsl (ctX11_status h2) ml_RL_17 rfl rfl (fun v hv => by cases hv) rfl rfl rfl rfl dL_law_325 (fun H locs hR hS => ?_)
  exact lv_icmp_eq (tgt := 2013) hx hb dL_law_328 (by decide) (fun _ => kk H locs hR hS) (fun q => absurd rfl q)
theorem ml_RL_18 : jq_vl RL 18 yX10_top cX10_top 1 (some .long) 0 := ⟨jq_in 581 (by decide +kernel) rfl, yf_X10_top⟩
theorem ml_RL_22 : jq_vl RL 22 yX11_top cX11_top 1 (some .long) 0 := ⟨jq_in 1678 (by decide +kernel) rfl, yf_X11_top⟩
set_option maxHeartbeats 4000000 in
set_option maxRecDepth 100000 in
theorem law_1 (C0 : jq_LC p s m meth c b L xs b1 b2 D cs ss1 ss2) (hR : jq_R2 b1 b2 D cs σ1 σ2 H) (hS : va_S (fun q => s.heap.size ≤ q) s.heap H locs) (hl : lv_has ls 4 [(0, .ref b), (1, .ref b1), (2, .ref b2), (3, .int (nI i))]) (hcl : cells ≤ 600000) (hsl : slots ≤ 7302250) (hi : i + 6 ≤ L) {r : Int} (h1 : X10_top σ1 = some r) (h2 : X11_top σ2 = some r)
    (kk : ∀ (H1 : Heap) (locs1 : List Loc), jq_R2 b1 b2 D cs σ1 σ2 H1 → va_S (fun q => s.heap.size ≤ q) s.heap H1 locs1 → W p l e room_1 s m #[Value.ref b] below meth c H1 locs1 cells slots Q (F0 m 2013 ls [])) : W p l e room_1 s m #[Value.ref b] below meth c H locs cells slots Q (F0 m 333 ls []) := by
  have C1 := C0
  obtain ⟨hx, hb, -⟩ := C1
  refine lv_aload_n hx hb dL_law_333 rfl (lv_at hl 1 rfl) ?_
  refine law_callX (v := jL r) (avs := []) C0 hR hS hl.1 hcl hsl (ctX10_top h1) ml_RL_18 rfl rfl (fun v hv => by cases hv) rfl rfl rfl rfl dL_law_334 (fun H locs hR hS => ?_)
  refine lv_aload_n hx hb dL_law_337 rfl (lv_at hl 2 rfl) ?_
  refine law_callM (v := jL r) (avs := []) C0 hR hS hl.1 hcl hsl (ctX11_top h2) ml_RL_22 rfl rfl (fun v hv => by cases hv) rfl rfl rfl rfl dL_law_338 (fun H locs hR hS => ?_)
  refine W.lcmp hx hb dL_law_341 ?_
  rw [jq_cmp_self]
  exact lv_if_eq (tgt := 2013) hx hb dL_law_342 (by decide) (fun _ => kk H locs hR hS) (fun q => absurd rfl q)
theorem ml_RL_23 : jq_vl RL 23 yX10_bottom cX10_bottom 1 (some .long) 0 := ⟨jq_in 585 (by decide +kernel) rfl, yf_X10_bottom⟩
theorem ml_RL_26 : jq_vl RL 26 yX11_bottom cX11_bottom 1 (some .long) 0 := ⟨jq_in 1682 (by decide +kernel) rfl, yf_X11_bottom⟩
set_option maxHeartbeats 4000000 in
set_option maxRecDepth 100000 in
theorem law_2 (C0 : jq_LC p s m meth c b L xs b1 b2 D cs ss1 ss2) (hR : jq_R2 b1 b2 D cs σ1 σ2 H) (hS : va_S (fun q => s.heap.size ≤ q) s.heap H locs) (hl : lv_has ls 4 [(0, .ref b), (1, .ref b1), (2, .ref b2), (3, .int (nI i))]) (hcl : cells ≤ 600000) (hsl : slots ≤ 7302250) (hi : i + 6 ≤ L) {r : Int} (h1 : X10_bottom σ1 = some r) (h2 : X11_bottom σ2 = some r)
    (kk : ∀ (H1 : Heap) (locs1 : List Loc), jq_R2 b1 b2 D cs σ1 σ2 H1 → va_S (fun q => s.heap.size ≤ q) s.heap H1 locs1 → W p l e room_1 s m #[Value.ref b] below meth c H1 locs1 cells slots Q (F0 m 2013 ls [])) : W p l e room_1 s m #[Value.ref b] below meth c H locs cells slots Q (F0 m 347 ls []) := by
  have C1 := C0
  obtain ⟨hx, hb, -⟩ := C1
  refine lv_aload_n hx hb dL_law_347 rfl (lv_at hl 1 rfl) ?_
  refine law_callX (v := jL r) (avs := []) C0 hR hS hl.1 hcl hsl (ctX10_bottom h1) ml_RL_23 rfl rfl (fun v hv => by cases hv) rfl rfl rfl rfl dL_law_348 (fun H locs hR hS => ?_)
  refine lv_aload_n hx hb dL_law_351 rfl (lv_at hl 2 rfl) ?_
  refine law_callM (v := jL r) (avs := []) C0 hR hS hl.1 hcl hsl (ctX11_bottom h2) ml_RL_26 rfl rfl (fun v hv => by cases hv) rfl rfl rfl rfl dL_law_352 (fun H locs hR hS => ?_)
  refine W.lcmp hx hb dL_law_355 ?_
  rw [jq_cmp_self]
  exact lv_if_eq (tgt := 2013) hx hb dL_law_356 (by decide) (fun _ => kk H locs hR hS) (fun q => absurd rfl q)
theorem ml_RL_27 : jq_vl RL 27 yX10_tray cX10_tray 5 (some .boolean) 3 := ⟨jq_in 589 (by decide +kernel) rfl, yf_X10_tray⟩
theorem ml_RL_31 : jq_vl RL 31 yX11_tray cX11_tray 5 (some .boolean) 3 := ⟨jq_in 1686 (by decide +kernel) rfl, yf_X11_tray⟩
set_option maxHeartbeats 4000000 in
set_option maxRecDepth 100000 in
theorem law_3 (C0 : jq_LC p s m meth c b L xs b1 b2 D cs ss1 ss2) (hR : jq_R2 b1 b2 D cs σ1 σ2 H) (hS : va_S (fun q => s.heap.size ≤ q) s.heap H locs) (hl : lv_has ls 4 [(0, .ref b), (1, .ref b1), (2, .ref b2), (3, .int (nI i))]) (hcl : cells ≤ 600000) (hsl : slots ≤ 7302250) (hi : i + 6 ≤ L) {r : Int} {σ1' σ2' : jq_M} (h1 : X10_tray (jq_a xs i 1) (jq_a xs i 2) (jq_a xs i 3) σ1 = some (r, σ1')) (h2 : X11_tray (jq_a xs i 1) (jq_a xs i 2) (jq_a xs i 3) σ2 = some (r, σ2'))
    (kk : ∀ (H1 : Heap) (locs1 : List Loc), jq_R2 b1 b2 D cs σ1' σ2' H1 → va_S (fun q => s.heap.size ≤ q) s.heap H1 locs1 → W p l e room_1 s m #[Value.ref b] below meth c H1 locs1 cells slots Q (F0 m 2013 ls [])) : W p l e room_1 s m #[Value.ref b] below meth c H locs cells slots Q (F0 m 361 ls []) := by
  have C1 := C0
  obtain ⟨hx, hb, -⟩ := C1
  refine lv_aload_n hx hb dL_law_361 rfl (lv_at hl 1 rfl) ?_
  refine law_ld C0 hS hl hi 1 rfl rfl dL_law_362 dL_law_363 dL_law_364 dL_law_365 dL_law_366 ?_
  refine law_ld C0 hS hl hi 2 rfl rfl dL_law_367 dL_law_368 dL_law_369 dL_law_370 dL_law_371 ?_
  refine law_ld C0 hS hl hi 3 rfl rfl dL_law_372 dL_law_373 dL_law_374 dL_law_375 dL_law_376 ?_
  refine law_callX (v := jI r) (avs := [jI (jq_a xs i 1), jI (jq_a xs i 2), jI (jq_a xs i 3)]) C0 hR hS hl.1 hcl hsl (ctX10_tray h1) ml_RL_27 rfl rfl (by unfold jq_os; simp only [List.forall_mem_cons, List.not_mem_nil, false_implies, implies_true, and_true]; exact ⟨jq_ti_r _, jq_ti_r _, jq_ti_r _⟩) rfl rfl rfl rfl dL_law_377 (fun H locs hR hS => ?_)
  refine lv_aload_n hx hb dL_law_380 rfl (lv_at hl 2 rfl) ?_
  refine law_ld C0 hS hl hi 1 rfl rfl dL_law_381 dL_law_382 dL_law_383 dL_law_384 dL_law_385 ?_
  refine law_ld C0 hS hl hi 2 rfl rfl dL_law_386 dL_law_387 dL_law_388 dL_law_389 dL_law_390 ?_
  refine law_ld C0 hS hl hi 3 rfl rfl dL_law_391 dL_law_392 dL_law_393 dL_law_394 dL_law_395 ?_
  refine law_callM (v := jI r) (avs := [jI (jq_a xs i 1), jI (jq_a xs i 2), jI (jq_a xs i 3)]) C0 hR hS hl.1 hcl hsl (ctX11_tray h2) ml_RL_31 rfl rfl (by unfold jq_os; simp only [List.forall_mem_cons, List.not_mem_nil, false_implies, implies_true, and_true]; exact ⟨jq_ti_r _, jq_ti_r _, jq_ti_r _⟩) rfl rfl rfl rfl dL_law_396 (fun H locs hR hS => ?_)
  exact lv_icmp_eq (tgt := 2013) hx hb dL_law_399 (by decide) (fun _ => kk H locs hR hS) (fun q => absurd rfl q)
theorem ml_RL_34 : jq_vl RL 34 yX10_write cX10_write 7 (some .boolean) 3 := ⟨jq_in 612 (by decide +kernel) rfl, yf_X10_write⟩
theorem ml_RL_38 : jq_vl RL 38 yX11_write cX11_write 6 (some .boolean) 3 := ⟨jq_in 1697 (by decide +kernel) rfl, yf_X11_write⟩
set_option maxHeartbeats 4000000 in
set_option maxRecDepth 100000 in
theorem law_4 (C0 : jq_LC p s m meth c b L xs b1 b2 D cs ss1 ss2) (hR : jq_R2 b1 b2 D cs σ1 σ2 H) (hS : va_S (fun q => s.heap.size ≤ q) s.heap H locs) (hl : lv_has ls 4 [(0, .ref b), (1, .ref b1), (2, .ref b2), (3, .int (nI i))]) (hcl : cells ≤ 600000) (hsl : slots ≤ 7302250) (hi : i + 6 ≤ L) {r : Int} {σ1' σ2' : jq_M} (h1 : X10_write (jq_a xs i 1) (jq_a xs i 2) (jq_l34 (jq_a xs i 3) (jq_a xs i 4)) σ1 = some (r, σ1')) (h2 : X11_write (jq_a xs i 1) (jq_a xs i 2) (jq_l34 (jq_a xs i 3) (jq_a xs i 4)) σ2 = some (r, σ2'))
    (kk : ∀ (H1 : Heap) (locs1 : List Loc), jq_R2 b1 b2 D cs σ1' σ2' H1 → va_S (fun q => s.heap.size ≤ q) s.heap H1 locs1 → W p l e room_1 s m #[Value.ref b] below meth c H1 locs1 cells slots Q (F0 m 2013 ls [])) : W p l e room_1 s m #[Value.ref b] below meth c H locs cells slots Q (F0 m 404 ls []) := by
  have C1 := C0
  obtain ⟨hx, hb, -⟩ := C1
  refine lv_aload_n hx hb dL_law_404 rfl (lv_at hl 1 rfl) ?_
  refine law_ld C0 hS hl hi 1 rfl rfl dL_law_405 dL_law_406 dL_law_407 dL_law_408 dL_law_409 ?_
  refine law_ld C0 hS hl hi 2 rfl rfl dL_law_410 dL_law_411 dL_law_412 dL_law_413 dL_law_414 ?_
  refine law_l34 C0 hS hl hi dL_law_415 dL_law_416 dL_law_417 dL_law_418 dL_law_419 dL_law_420 dL_law_421 dL_law_423 dL_law_424 dL_law_425 dL_law_426 dL_law_427 dL_law_428 dL_law_429 dL_law_430 lw_k32 dL_law_433 dL_law_434 ?_
  refine law_callX (v := jI r) (avs := [jI (jq_a xs i 1), jI (jq_a xs i 2), jL (jq_l34 (jq_a xs i 3) (jq_a xs i 4))]) C0 hR hS hl.1 hcl hsl (ctX10_write h1) ml_RL_34 rfl rfl (by unfold jq_os; simp only [List.forall_mem_cons, List.not_mem_nil, false_implies, implies_true, and_true]; exact ⟨jq_ti_r _, jq_ti_r _, jq_ti_rl _⟩) rfl rfl rfl rfl dL_law_435 (fun H locs hR hS => ?_)
  refine lv_aload_n hx hb dL_law_438 rfl (lv_at hl 2 rfl) ?_
  refine law_ld C0 hS hl hi 1 rfl rfl dL_law_439 dL_law_440 dL_law_441 dL_law_442 dL_law_443 ?_
  refine law_ld C0 hS hl hi 2 rfl rfl dL_law_444 dL_law_445 dL_law_446 dL_law_447 dL_law_448 ?_
  refine law_l34 C0 hS hl hi dL_law_449 dL_law_450 dL_law_451 dL_law_452 dL_law_453 dL_law_454 dL_law_455 dL_law_457 dL_law_458 dL_law_459 dL_law_460 dL_law_461 dL_law_462 dL_law_463 dL_law_464 lw_k32 dL_law_467 dL_law_468 ?_
  refine law_callM (v := jI r) (avs := [jI (jq_a xs i 1), jI (jq_a xs i 2), jL (jq_l34 (jq_a xs i 3) (jq_a xs i 4))]) C0 hR hS hl.1 hcl hsl (ctX11_write h2) ml_RL_38 rfl rfl (by unfold jq_os; simp only [List.forall_mem_cons, List.not_mem_nil, false_implies, implies_true, and_true]; exact ⟨jq_ti_r _, jq_ti_r _, jq_ti_rl _⟩) rfl rfl rfl rfl dL_law_469 (fun H locs hR hS => ?_)
  exact lv_icmp_eq (tgt := 2013) hx hb dL_law_472 (by decide) (fun _ => kk H locs hR hS) (fun q => absurd rfl q)
theorem ml_RL_39 : jq_vl RL 39 yX10_read cX10_read 5 (some .long) 2 := ⟨jq_in 636 (by decide +kernel) rfl, yf_X10_read⟩
theorem ml_RL_43 : jq_vl RL 43 yX11_read cX11_read 3 (some .long) 2 := ⟨jq_in 1708 (by decide +kernel) rfl, yf_X11_read⟩
set_option maxHeartbeats 4000000 in
set_option maxRecDepth 100000 in
theorem law_5 (C0 : jq_LC p s m meth c b L xs b1 b2 D cs ss1 ss2) (hR : jq_R2 b1 b2 D cs σ1 σ2 H) (hS : va_S (fun q => s.heap.size ≤ q) s.heap H locs) (hl : lv_has ls 4 [(0, .ref b), (1, .ref b1), (2, .ref b2), (3, .int (nI i))]) (hcl : cells ≤ 600000) (hsl : slots ≤ 7302250) (hi : i + 6 ≤ L) {r : Int} {σ1' σ2' : jq_M} (h1 : X10_read (jq_a xs i 1) (jq_a xs i 2) σ1 = some (r, σ1')) (h2 : X11_read (jq_a xs i 1) (jq_a xs i 2) σ2 = some (r, σ2'))
    (kk : ∀ (H1 : Heap) (locs1 : List Loc), jq_R2 b1 b2 D cs σ1' σ2' H1 → va_S (fun q => s.heap.size ≤ q) s.heap H1 locs1 → W p l e room_1 s m #[Value.ref b] below meth c H1 locs1 cells slots Q (F0 m 2013 ls [])) : W p l e room_1 s m #[Value.ref b] below meth c H locs cells slots Q (F0 m 477 ls []) := by
  have C1 := C0
  obtain ⟨hx, hb, -⟩ := C1
  refine lv_aload_n hx hb dL_law_477 rfl (lv_at hl 1 rfl) ?_
  refine law_ld C0 hS hl hi 1 rfl rfl dL_law_478 dL_law_479 dL_law_480 dL_law_481 dL_law_482 ?_
  refine law_ld C0 hS hl hi 2 rfl rfl dL_law_483 dL_law_484 dL_law_485 dL_law_486 dL_law_487 ?_
  refine law_callX (v := jL r) (avs := [jI (jq_a xs i 1), jI (jq_a xs i 2)]) C0 hR hS hl.1 hcl hsl (ctX10_read h1) ml_RL_39 rfl rfl (by unfold jq_os; simp only [List.forall_mem_cons, List.not_mem_nil, false_implies, implies_true, and_true]; exact ⟨jq_ti_r _, jq_ti_r _⟩) rfl rfl rfl rfl dL_law_488 (fun H locs hR hS => ?_)
  refine lv_aload_n hx hb dL_law_491 rfl (lv_at hl 2 rfl) ?_
  refine law_ld C0 hS hl hi 1 rfl rfl dL_law_492 dL_law_493 dL_law_494 dL_law_495 dL_law_496 ?_
  refine law_ld C0 hS hl hi 2 rfl rfl dL_law_497 dL_law_498 dL_law_499 dL_law_500 dL_law_501 ?_
  refine law_callM (v := jL r) (avs := [jI (jq_a xs i 1), jI (jq_a xs i 2)]) C0 hR hS hl.1 hcl hsl (ctX11_read h2) ml_RL_43 rfl rfl (by unfold jq_os; simp only [List.forall_mem_cons, List.not_mem_nil, false_implies, implies_true, and_true]; exact ⟨jq_ti_r _, jq_ti_r _⟩) rfl rfl rfl rfl dL_law_502 (fun H locs hR hS => ?_)
  refine W.lcmp hx hb dL_law_505 ?_
  rw [jq_cmp_self]
  exact lv_if_eq (tgt := 2013) hx hb dL_law_506 (by decide) (fun _ => kk H locs hR hS) (fun q => absurd rfl q)
theorem ml_RL_44 : jq_vl RL 44 yX10_pour cX10_pour 8 (some .boolean) 5 := ⟨jq_in 648 (by decide +kernel) rfl, yf_X10_pour⟩
theorem ml_RL_48 : jq_vl RL 48 yX11_pour cX11_pour 8 (some .boolean) 5 := ⟨jq_in 1713 (by decide +kernel) rfl, yf_X11_pour⟩
set_option maxHeartbeats 4000000 in
set_option maxRecDepth 100000 in
theorem law_6 (C0 : jq_LC p s m meth c b L xs b1 b2 D cs ss1 ss2) (hR : jq_R2 b1 b2 D cs σ1 σ2 H) (hS : va_S (fun q => s.heap.size ≤ q) s.heap H locs) (hl : lv_has ls 4 [(0, .ref b), (1, .ref b1), (2, .ref b2), (3, .int (nI i))]) (hcl : cells ≤ 600000) (hsl : slots ≤ 7302250) (hi : i + 6 ≤ L) {r : Int} {σ1' σ2' : jq_M} (h1 : X10_pour (jq_a xs i 1) (jq_a xs i 2) (jq_a xs i 3) (jq_a xs i 4) (jq_a xs i 5) σ1 = some (r, σ1')) (h2 : X11_pour (jq_a xs i 1) (jq_a xs i 2) (jq_a xs i 3) (jq_a xs i 4) (jq_a xs i 5) σ2 = some (r, σ2'))
    (kk : ∀ (H1 : Heap) (locs1 : List Loc), jq_R2 b1 b2 D cs σ1' σ2' H1 → va_S (fun q => s.heap.size ≤ q) s.heap H1 locs1 → W p l e room_1 s m #[Value.ref b] below meth c H1 locs1 cells slots Q (F0 m 2013 ls [])) : W p l e room_1 s m #[Value.ref b] below meth c H locs cells slots Q (F0 m 511 ls []) := by
  have C1 := C0
  obtain ⟨hx, hb, -⟩ := C1
  refine lv_aload_n hx hb dL_law_511 rfl (lv_at hl 1 rfl) ?_
  refine law_ld C0 hS hl hi 1 rfl rfl dL_law_512 dL_law_513 dL_law_514 dL_law_515 dL_law_516 ?_
  refine law_ld C0 hS hl hi 2 rfl rfl dL_law_517 dL_law_518 dL_law_519 dL_law_520 dL_law_521 ?_
  refine law_ld C0 hS hl hi 3 rfl rfl dL_law_522 dL_law_523 dL_law_524 dL_law_525 dL_law_526 ?_
  refine law_ld C0 hS hl hi 4 rfl rfl dL_law_527 dL_law_528 dL_law_529 dL_law_530 dL_law_531 ?_
  refine law_ld C0 hS hl hi 5 rfl rfl dL_law_532 dL_law_533 dL_law_534 dL_law_535 dL_law_536 ?_
  refine law_callX (v := jI r) (avs := [jI (jq_a xs i 1), jI (jq_a xs i 2), jI (jq_a xs i 3), jI (jq_a xs i 4), jI (jq_a xs i 5)]) C0 hR hS hl.1 hcl hsl (ctX10_pour h1) ml_RL_44 rfl rfl (by unfold jq_os; simp only [List.forall_mem_cons, List.not_mem_nil, false_implies, implies_true, and_true]; exact ⟨jq_ti_r _, jq_ti_r _, jq_ti_r _, jq_ti_r _, jq_ti_r _⟩) rfl rfl rfl rfl dL_law_537 (fun H locs hR hS => ?_)
  refine lv_aload_n hx hb dL_law_540 rfl (lv_at hl 2 rfl) ?_
  refine law_ld C0 hS hl hi 1 rfl rfl dL_law_541 dL_law_542 dL_law_543 dL_law_544 dL_law_545 ?_
  refine law_ld C0 hS hl hi 2 rfl rfl dL_law_546 dL_law_547 dL_law_548 dL_law_549 dL_law_550 ?_
  refine law_ld C0 hS hl hi 3 rfl rfl dL_law_551 dL_law_552 dL_law_553 dL_law_554 dL_law_555 ?_
  refine law_ld C0 hS hl hi 4 rfl rfl dL_law_556 dL_law_557 dL_law_558 dL_law_559 dL_law_560 ?_
  refine law_ld C0 hS hl hi 5 rfl rfl dL_law_561 dL_law_562 dL_law_563 dL_law_564 dL_law_565 ?_
  refine law_callM (v := jI r) (avs := [jI (jq_a xs i 1), jI (jq_a xs i 2), jI (jq_a xs i 3), jI (jq_a xs i 4), jI (jq_a xs i 5)]) C0 hR hS hl.1 hcl hsl (ctX11_pour h2) ml_RL_48 rfl rfl (by unfold jq_os; simp only [List.forall_mem_cons, List.not_mem_nil, false_implies, implies_true, and_true]; exact ⟨jq_ti_r _, jq_ti_r _, jq_ti_r _, jq_ti_r _, jq_ti_r _⟩) rfl rfl rfl rfl dL_law_566 (fun H locs hR hS => ?_)
  exact lv_icmp_eq (tgt := 2013) hx hb dL_law_569 (by decide) (fun _ => kk H locs hR hS) (fun q => absurd rfl q)
theorem ml_RL_49 : jq_vl RL 49 yX10_feed cX10_feed 6 (some .int) 5 := ⟨jq_in 655 (by decide +kernel) rfl, yf_X10_feed⟩
theorem ml_RL_53 : jq_vl RL 53 yX11_feed cX11_feed 6 (some .int) 5 := ⟨jq_in 1717 (by decide +kernel) rfl, yf_X11_feed⟩
set_option maxHeartbeats 4000000 in
set_option maxRecDepth 100000 in
theorem law_7 (C0 : jq_LC p s m meth c b L xs b1 b2 D cs ss1 ss2) (hR : jq_R2 b1 b2 D cs σ1 σ2 H) (hS : va_S (fun q => s.heap.size ≤ q) s.heap H locs) (hl : lv_has ls 4 [(0, .ref b), (1, .ref b1), (2, .ref b2), (3, .int (nI i))]) (hcl : cells ≤ 600000) (hsl : slots ≤ 7302250) (hi : i + 6 ≤ L) {r : Int} {σ1' σ2' : jq_M} (h1 : X10_feed (jq_a xs i 1) (jq_a xs i 2) (jq_a xs i 3) (jq_a xs i 4) (jq_a xs i 5) σ1 = some (r, σ1')) (h2 : X11_feed (jq_a xs i 1) (jq_a xs i 2) (jq_a xs i 3) (jq_a xs i 4) (jq_a xs i 5) σ2 = some (r, σ2'))
    (kk : ∀ (H1 : Heap) (locs1 : List Loc), jq_R2 b1 b2 D cs σ1' σ2' H1 → va_S (fun q => s.heap.size ≤ q) s.heap H1 locs1 → W p l e room_1 s m #[Value.ref b] below meth c H1 locs1 cells slots Q (F0 m 2013 ls [])) : W p l e room_1 s m #[Value.ref b] below meth c H locs cells slots Q (F0 m 574 ls []) := by
  have C1 := C0
  obtain ⟨hx, hb, -⟩ := C1
  refine lv_aload_n hx hb dL_law_574 rfl (lv_at hl 1 rfl) ?_
  refine law_ld C0 hS hl hi 1 rfl rfl dL_law_575 dL_law_576 dL_law_577 dL_law_578 dL_law_579 ?_
  refine law_ld C0 hS hl hi 2 rfl rfl dL_law_580 dL_law_581 dL_law_582 dL_law_583 dL_law_584 ?_
  refine law_ld C0 hS hl hi 3 rfl rfl dL_law_585 dL_law_586 dL_law_587 dL_law_588 dL_law_589 ?_
  refine law_ld C0 hS hl hi 4 rfl rfl dL_law_590 dL_law_591 dL_law_592 dL_law_593 dL_law_594 ?_
  refine law_ld C0 hS hl hi 5 rfl rfl dL_law_595 dL_law_596 dL_law_597 dL_law_598 dL_law_599 ?_
  refine law_callX (v := jI r) (avs := [jI (jq_a xs i 1), jI (jq_a xs i 2), jI (jq_a xs i 3), jI (jq_a xs i 4), jI (jq_a xs i 5)]) C0 hR hS hl.1 hcl hsl (ctX10_feed h1) ml_RL_49 rfl rfl (by unfold jq_os; simp only [List.forall_mem_cons, List.not_mem_nil, false_implies, implies_true, and_true]; exact ⟨jq_ti_r _, jq_ti_r _, jq_ti_r _, jq_ti_r _, jq_ti_r _⟩) rfl rfl rfl rfl dL_law_600 (fun H locs hR hS => ?_)
  refine lv_aload_n hx hb dL_law_603 rfl (lv_at hl 2 rfl) ?_
  refine law_ld C0 hS hl hi 1 rfl rfl dL_law_604 dL_law_605 dL_law_606 dL_law_607 dL_law_608 ?_
  refine law_ld C0 hS hl hi 2 rfl rfl dL_law_609 dL_law_610 dL_law_611 dL_law_612 dL_law_613 ?_
  refine law_ld C0 hS hl hi 3 rfl rfl dL_law_614 dL_law_615 dL_law_616 dL_law_617 dL_law_618 ?_
  refine law_ld C0 hS hl hi 4 rfl rfl dL_law_619 dL_law_620 dL_law_621 dL_law_622 dL_law_623 ?_
  refine law_ld C0 hS hl hi 5 rfl rfl dL_law_624 dL_law_625 dL_law_626 dL_law_627 dL_law_628 ?_
  refine law_callM (v := jI r) (avs := [jI (jq_a xs i 1), jI (jq_a xs i 2), jI (jq_a xs i 3), jI (jq_a xs i 4), jI (jq_a xs i 5)]) C0 hR hS hl.1 hcl hsl (ctX11_feed h2) ml_RL_53 rfl rfl (by unfold jq_os; simp only [List.forall_mem_cons, List.not_mem_nil, false_implies, implies_true, and_true]; exact ⟨jq_ti_r _, jq_ti_r _, jq_ti_r _, jq_ti_r _, jq_ti_r _⟩) rfl rfl rfl rfl dL_law_629 (fun H locs hR hS => ?_)
  exact lv_icmp_eq (tgt := 2013) hx hb dL_law_632 (by decide) (fun _ => kk H locs hR hS) (fun q => absurd rfl q)
theorem ml_RL_54 : jq_vl RL 54 yX10_committee cX10_committee 3 (some .int) 1 := ⟨jq_in 663 (by decide +kernel) rfl, yf_X10_committee⟩
theorem ml_RL_58 : jq_vl RL 58 yX11_committee cX11_committee 4 (some .int) 1 := ⟨jq_in 1729 (by decide +kernel) rfl, yf_X11_committee⟩
set_option maxHeartbeats 4000000 in
set_option maxRecDepth 100000 in
theorem law_8 (C0 : jq_LC p s m meth c b L xs b1 b2 D cs ss1 ss2) (hR : jq_R2 b1 b2 D cs σ1 σ2 H) (hS : va_S (fun q => s.heap.size ≤ q) s.heap H locs) (hl : lv_has ls 4 [(0, .ref b), (1, .ref b1), (2, .ref b2), (3, .int (nI i))]) (hcl : cells ≤ 600000) (hsl : slots ≤ 7302250) (hi : i + 6 ≤ L) {r : Int} {σ1' σ2' : jq_M} (h1 : X10_committee (jq_a xs i 1) σ1 = some (r, σ1')) (h2 : X11_committee (jq_a xs i 1) σ2 = some (r, σ2'))
    (kk : ∀ (H1 : Heap) (locs1 : List Loc), jq_R2 b1 b2 D cs σ1' σ2' H1 → va_S (fun q => s.heap.size ≤ q) s.heap H1 locs1 → W p l e room_1 s m #[Value.ref b] below meth c H1 locs1 cells slots Q (F0 m 2013 ls [])) : W p l e room_1 s m #[Value.ref b] below meth c H locs cells slots Q (F0 m 637 ls []) := by
  have C1 := C0
  obtain ⟨hx, hb, -⟩ := C1
  refine lv_aload_n hx hb dL_law_637 rfl (lv_at hl 1 rfl) ?_
  refine law_ld C0 hS hl hi 1 rfl rfl dL_law_638 dL_law_639 dL_law_640 dL_law_641 dL_law_642 ?_
  refine law_callX (v := jI r) (avs := [jI (jq_a xs i 1)]) C0 hR hS hl.1 hcl hsl (ctX10_committee h1) ml_RL_54 rfl rfl (by unfold jq_os; simp only [List.forall_mem_cons, List.not_mem_nil, false_implies, implies_true, and_true]; exact jq_ti_r _) rfl rfl rfl rfl dL_law_643 (fun H locs hR hS => ?_)
  refine lv_aload_n hx hb dL_law_646 rfl (lv_at hl 2 rfl) ?_
  refine law_ld C0 hS hl hi 1 rfl rfl dL_law_647 dL_law_648 dL_law_649 dL_law_650 dL_law_651 ?_
  refine law_callM (v := jI r) (avs := [jI (jq_a xs i 1)]) C0 hR hS hl.1 hcl hsl (ctX11_committee h2) ml_RL_58 rfl rfl (by unfold jq_os; simp only [List.forall_mem_cons, List.not_mem_nil, false_implies, implies_true, and_true]; exact jq_ti_r _) rfl rfl rfl rfl dL_law_652 (fun H locs hR hS => ?_)
  exact lv_icmp_eq (tgt := 2013) hx hb dL_law_655 (by decide) (fun _ => kk H locs hR hS) (fun q => absurd rfl q)
theorem ml_RL_59 : jq_vl RL 59 yX10_sessions cX10_sessions 2 (some .int) 1 := ⟨jq_in 823 (by decide +kernel) rfl, yf_X10_sessions⟩
theorem ml_RL_62 : jq_vl RL 62 yX11_sessions cX11_sessions 4 (some .int) 1 := ⟨jq_in 1832 (by decide +kernel) rfl, yf_X11_sessions⟩
set_option maxHeartbeats 4000000 in
set_option maxRecDepth 100000 in
theorem law_9 (C0 : jq_LC p s m meth c b L xs b1 b2 D cs ss1 ss2) (hR : jq_R2 b1 b2 D cs σ1 σ2 H) (hS : va_S (fun q => s.heap.size ≤ q) s.heap H locs) (hl : lv_has ls 4 [(0, .ref b), (1, .ref b1), (2, .ref b2), (3, .int (nI i))]) (hcl : cells ≤ 600000) (hsl : slots ≤ 7302250) (hi : i + 6 ≤ L) {r : Int} {σ1' σ2' : jq_M} (h1 : X10_sessions (jq_a xs i 1) σ1 = some (r, σ1')) (h2 : X11_sessions (jq_a xs i 1) σ2 = some (r, σ2'))
    (kk : ∀ (H1 : Heap) (locs1 : List Loc), jq_R2 b1 b2 D cs σ1' σ2' H1 → va_S (fun q => s.heap.size ≤ q) s.heap H1 locs1 → W p l e room_1 s m #[Value.ref b] below meth c H1 locs1 cells slots Q (F0 m 2013 ls [])) : W p l e room_1 s m #[Value.ref b] below meth c H locs cells slots Q (F0 m 660 ls []) := by
  have C1 := C0
  obtain ⟨hx, hb, -⟩ := C1
  refine lv_aload_n hx hb dL_law_660 rfl (lv_at hl 1 rfl) ?_
  refine law_ld C0 hS hl hi 1 rfl rfl dL_law_661 dL_law_662 dL_law_663 dL_law_664 dL_law_665 ?_
  refine law_callX (v := jI r) (avs := [jI (jq_a xs i 1)]) C0 hR hS hl.1 hcl hsl (ctX10_sessions h1) ml_RL_59 rfl rfl (by unfold jq_os; simp only [List.forall_mem_cons, List.not_mem_nil, false_implies, implies_true, and_true]; exact jq_ti_r _) rfl rfl rfl rfl dL_law_666 (fun H locs hR hS => ?_)
  refine lv_aload_n hx hb dL_law_669 rfl (lv_at hl 2 rfl) ?_
  refine law_ld C0 hS hl hi 1 rfl rfl dL_law_670 dL_law_671 dL_law_672 dL_law_673 dL_law_674 ?_
  refine law_callM (v := jI r) (avs := [jI (jq_a xs i 1)]) C0 hR hS hl.1 hcl hsl (ctX11_sessions h2) ml_RL_62 rfl rfl (by unfold jq_os; simp only [List.forall_mem_cons, List.not_mem_nil, false_implies, implies_true, and_true]; exact jq_ti_r _) rfl rfl rfl rfl dL_law_675 (fun H locs hR hS => ?_)
  exact lv_icmp_eq (tgt := 2013) hx hb dL_law_678 (by decide) (fun _ => kk H locs hR hS) (fun q => absurd rfl q)
theorem ml_RL_63 : jq_vl RL 63 yX10_fault cX10_fault 2 (some .int) 1 := ⟨jq_in 906 (by decide +kernel) rfl, yf_X10_fault⟩
theorem ml_RL_66 : jq_vl RL 66 yX11_fault cX11_fault 2 (some .int) 1 := ⟨jq_in 1725 (by decide +kernel) rfl, yf_X11_fault⟩
set_option maxHeartbeats 4000000 in
set_option maxRecDepth 100000 in
theorem law_10 (C0 : jq_LC p s m meth c b L xs b1 b2 D cs ss1 ss2) (hR : jq_R2 b1 b2 D cs σ1 σ2 H) (hS : va_S (fun q => s.heap.size ≤ q) s.heap H locs) (hl : lv_has ls 4 [(0, .ref b), (1, .ref b1), (2, .ref b2), (3, .int (nI i))]) (hcl : cells ≤ 600000) (hsl : slots ≤ 7302250) (hi : i + 6 ≤ L) {r : Int} (h1 : X10_fault (jq_a xs i 1) σ1 = some r) (h2 : X11_fault (jq_a xs i 1) σ2 = some r)
    (kk : ∀ (H1 : Heap) (locs1 : List Loc), jq_R2 b1 b2 D cs σ1 σ2 H1 → va_S (fun q => s.heap.size ≤ q) s.heap H1 locs1 → W p l e room_1 s m #[Value.ref b] below meth c H1 locs1 cells slots Q (F0 m 2013 ls [])) : W p l e room_1 s m #[Value.ref b] below meth c H locs cells slots Q (F0 m 683 ls []) := by
  have C1 := C0
  obtain ⟨hx, hb, -⟩ := C1
  refine lv_aload_n hx hb dL_law_683 rfl (lv_at hl 1 rfl) ?_
  refine law_ld C0 hS hl hi 1 rfl rfl dL_law_684 dL_law_685 dL_law_686 dL_law_687 dL_law_688 ?_
  refine law_callX (v := jI r) (avs := [jI (jq_a xs i 1)]) C0 hR hS hl.1 hcl hsl (ctX10_fault h1) ml_RL_63 rfl rfl (by unfold jq_os; simp only [List.forall_mem_cons, List.not_mem_nil, false_implies, implies_true, and_true]; exact jq_ti_r _) rfl rfl rfl rfl dL_law_689 (fun H locs hR hS => ?_)
  refine lv_aload_n hx hb dL_law_692 rfl (lv_at hl 2 rfl) ?_
  refine law_ld C0 hS hl hi 1 rfl rfl dL_law_693 dL_law_694 dL_law_695 dL_law_696 dL_law_697 ?_
  refine law_callM (v := jI r) (avs := [jI (jq_a xs i 1)]) C0 hR hS hl.1 hcl hsl (ctX11_fault h2) ml_RL_66 rfl rfl (by unfold jq_os; simp only [List.forall_mem_cons, List.not_mem_nil, false_implies, implies_true, and_true]; exact jq_ti_r _) rfl rfl rfl rfl dL_law_698 (fun H locs hR hS => ?_)
  exact lv_icmp_eq (tgt := 2013) hx hb dL_law_701 (by decide) (fun _ => kk H locs hR hS) (fun q => absurd rfl q)
theorem ml_RL_67 : jq_vl RL 67 yX10_told cX10_told 2 (some .int) 1 := ⟨jq_in 910 (by decide +kernel) rfl, yf_X10_told⟩
theorem ml_RL_70 : jq_vl RL 70 yX11_told cX11_told 2 (some .int) 1 := ⟨jq_in 1860 (by decide +kernel) rfl, yf_X11_told⟩
set_option maxHeartbeats 4000000 in
set_option maxRecDepth 100000 in
theorem law_11 (C0 : jq_LC p s m meth c b L xs b1 b2 D cs ss1 ss2) (hR : jq_R2 b1 b2 D cs σ1 σ2 H) (hS : va_S (fun q => s.heap.size ≤ q) s.heap H locs) (hl : lv_has ls 4 [(0, .ref b), (1, .ref b1), (2, .ref b2), (3, .int (nI i))]) (hcl : cells ≤ 600000) (hsl : slots ≤ 7302250) (hi : i + 6 ≤ L) {r : Int} {σ1' σ2' : jq_M} (h1 : X10_told (jq_a xs i 1) σ1 = some (r, σ1')) (h2 : X11_told (jq_a xs i 1) σ2 = some (r, σ2'))
    (kk : ∀ (H1 : Heap) (locs1 : List Loc), jq_R2 b1 b2 D cs σ1' σ2' H1 → va_S (fun q => s.heap.size ≤ q) s.heap H1 locs1 → W p l e room_1 s m #[Value.ref b] below meth c H1 locs1 cells slots Q (F0 m 2013 ls [])) : W p l e room_1 s m #[Value.ref b] below meth c H locs cells slots Q (F0 m 706 ls []) := by
  have C1 := C0
  obtain ⟨hx, hb, -⟩ := C1
  refine lv_aload_n hx hb dL_law_706 rfl (lv_at hl 1 rfl) ?_
  refine law_ld C0 hS hl hi 1 rfl rfl dL_law_707 dL_law_708 dL_law_709 dL_law_710 dL_law_711 ?_
  refine law_callX (v := jI r) (avs := [jI (jq_a xs i 1)]) C0 hR hS hl.1 hcl hsl (ctX10_told h1) ml_RL_67 rfl rfl (by unfold jq_os; simp only [List.forall_mem_cons, List.not_mem_nil, false_implies, implies_true, and_true]; exact jq_ti_r _) rfl rfl rfl rfl dL_law_712 (fun H locs hR hS => ?_)
  refine lv_aload_n hx hb dL_law_715 rfl (lv_at hl 2 rfl) ?_
  refine law_ld C0 hS hl hi 1 rfl rfl dL_law_716 dL_law_717 dL_law_718 dL_law_719 dL_law_720 ?_
  refine law_callM (v := jI r) (avs := [jI (jq_a xs i 1)]) C0 hR hS hl.1 hcl hsl (ctX11_told h2) ml_RL_70 rfl rfl (by unfold jq_os; simp only [List.forall_mem_cons, List.not_mem_nil, false_implies, implies_true, and_true]; exact jq_ti_r _) rfl rfl rfl rfl dL_law_721 (fun H locs hR hS => ?_)
  exact lv_icmp_eq (tgt := 2013) hx hb dL_law_724 (by decide) (fun _ => kk H locs hR hS) (fun q => absurd rfl q)
theorem ml_RL_71 : jq_vl RL 71 yX10_who cX10_who 2 (some .int) 1 := ⟨jq_in 961 (by decide +kernel) rfl, yf_X10_who⟩
theorem ml_RL_74 : jq_vl RL 74 yX11_who cX11_who 2 (some .int) 1 := ⟨jq_in 1934 (by decide +kernel) rfl, yf_X11_who⟩
set_option maxHeartbeats 4000000 in
set_option maxRecDepth 100000 in
theorem law_12 (C0 : jq_LC p s m meth c b L xs b1 b2 D cs ss1 ss2) (hR : jq_R2 b1 b2 D cs σ1 σ2 H) (hS : va_S (fun q => s.heap.size ≤ q) s.heap H locs) (hl : lv_has ls 4 [(0, .ref b), (1, .ref b1), (2, .ref b2), (3, .int (nI i))]) (hcl : cells ≤ 600000) (hsl : slots ≤ 7302250) (hi : i + 6 ≤ L) {r : Int} {σ1' σ2' : jq_M} (h1 : X10_who (jq_a xs i 1) σ1 = some (r, σ1')) (h2 : X11_who (jq_a xs i 1) σ2 = some (r, σ2'))
    (kk : ∀ (H1 : Heap) (locs1 : List Loc), jq_R2 b1 b2 D cs σ1' σ2' H1 → va_S (fun q => s.heap.size ≤ q) s.heap H1 locs1 → W p l e room_1 s m #[Value.ref b] below meth c H1 locs1 cells slots Q (F0 m 2013 ls [])) : W p l e room_1 s m #[Value.ref b] below meth c H locs cells slots Q (F0 m 729 ls []) := by
  have C1 := C0
  obtain ⟨hx, hb, -⟩ := C1
  refine lv_aload_n hx hb dL_law_729 rfl (lv_at hl 1 rfl) ?_
  refine law_ld C0 hS hl hi 1 rfl rfl dL_law_730 dL_law_731 dL_law_732 dL_law_733 dL_law_734 ?_
  refine law_callX (v := jI r) (avs := [jI (jq_a xs i 1)]) C0 hR hS hl.1 hcl hsl (ctX10_who h1) ml_RL_71 rfl rfl (by unfold jq_os; simp only [List.forall_mem_cons, List.not_mem_nil, false_implies, implies_true, and_true]; exact jq_ti_r _) rfl rfl rfl rfl dL_law_735 (fun H locs hR hS => ?_)
  refine lv_aload_n hx hb dL_law_738 rfl (lv_at hl 2 rfl) ?_
  refine law_ld C0 hS hl hi 1 rfl rfl dL_law_739 dL_law_740 dL_law_741 dL_law_742 dL_law_743 ?_
  refine law_callM (v := jI r) (avs := [jI (jq_a xs i 1)]) C0 hR hS hl.1 hcl hsl (ctX11_who h2) ml_RL_74 rfl rfl (by unfold jq_os; simp only [List.forall_mem_cons, List.not_mem_nil, false_implies, implies_true, and_true]; exact jq_ti_r _) rfl rfl rfl rfl dL_law_744 (fun H locs hR hS => ?_)
  exact lv_icmp_eq (tgt := 2013) hx hb dL_law_747 (by decide) (fun _ => kk H locs hR hS) (fun q => absurd rfl q)
theorem ml_RL_75 : jq_vl RL 75 yX10_placeOf cX10_placeOf 2 (some .int) 1 := ⟨jq_in 974 (by decide +kernel) rfl, yf_X10_placeOf⟩
theorem ml_RL_78 : jq_vl RL 78 yX11_placeOf cX11_placeOf 2 (some .int) 1 := ⟨jq_in 1950 (by decide +kernel) rfl, yf_X11_placeOf⟩
set_option maxHeartbeats 4000000 in
set_option maxRecDepth 100000 in
theorem law_13 (C0 : jq_LC p s m meth c b L xs b1 b2 D cs ss1 ss2) (hR : jq_R2 b1 b2 D cs σ1 σ2 H) (hS : va_S (fun q => s.heap.size ≤ q) s.heap H locs) (hl : lv_has ls 4 [(0, .ref b), (1, .ref b1), (2, .ref b2), (3, .int (nI i))]) (hcl : cells ≤ 600000) (hsl : slots ≤ 7302250) (hi : i + 6 ≤ L) {r : Int} {σ1' σ2' : jq_M} (h1 : X10_placeOf (jq_a xs i 1) σ1 = some (r, σ1')) (h2 : X11_placeOf (jq_a xs i 1) σ2 = some (r, σ2'))
    (kk : ∀ (H1 : Heap) (locs1 : List Loc), jq_R2 b1 b2 D cs σ1' σ2' H1 → va_S (fun q => s.heap.size ≤ q) s.heap H1 locs1 → W p l e room_1 s m #[Value.ref b] below meth c H1 locs1 cells slots Q (F0 m 2013 ls [])) : W p l e room_1 s m #[Value.ref b] below meth c H locs cells slots Q (F0 m 752 ls []) := by
  have C1 := C0
  obtain ⟨hx, hb, -⟩ := C1
  refine lv_aload_n hx hb dL_law_752 rfl (lv_at hl 1 rfl) ?_
  refine law_ld C0 hS hl hi 1 rfl rfl dL_law_753 dL_law_754 dL_law_755 dL_law_756 dL_law_757 ?_
  refine law_callX (v := jI r) (avs := [jI (jq_a xs i 1)]) C0 hR hS hl.1 hcl hsl (ctX10_placeOf h1) ml_RL_75 rfl rfl (by unfold jq_os; simp only [List.forall_mem_cons, List.not_mem_nil, false_implies, implies_true, and_true]; exact jq_ti_r _) rfl rfl rfl rfl dL_law_758 (fun H locs hR hS => ?_)
  refine lv_aload_n hx hb dL_law_761 rfl (lv_at hl 2 rfl) ?_
  refine law_ld C0 hS hl hi 1 rfl rfl dL_law_762 dL_law_763 dL_law_764 dL_law_765 dL_law_766 ?_
  refine law_callM (v := jI r) (avs := [jI (jq_a xs i 1)]) C0 hR hS hl.1 hcl hsl (ctX11_placeOf h2) ml_RL_78 rfl rfl (by unfold jq_os; simp only [List.forall_mem_cons, List.not_mem_nil, false_implies, implies_true, and_true]; exact jq_ti_r _) rfl rfl rfl rfl dL_law_767 (fun H locs hR hS => ?_)
  exact lv_icmp_eq (tgt := 2013) hx hb dL_law_770 (by decide) (fun _ => kk H locs hR hS) (fun q => absurd rfl q)
theorem ml_RL_79 : jq_vl RL 79 yX10_least cX10_least 2 (some .int) 1 := ⟨jq_in 979 (by decide +kernel) rfl, yf_X10_least⟩
theorem ml_RL_82 : jq_vl RL 82 yX11_least cX11_least 2 (some .int) 1 := ⟨jq_in 1958 (by decide +kernel) rfl, yf_X11_least⟩
set_option maxHeartbeats 4000000 in
set_option maxRecDepth 100000 in
theorem law_14 (C0 : jq_LC p s m meth c b L xs b1 b2 D cs ss1 ss2) (hR : jq_R2 b1 b2 D cs σ1 σ2 H) (hS : va_S (fun q => s.heap.size ≤ q) s.heap H locs) (hl : lv_has ls 4 [(0, .ref b), (1, .ref b1), (2, .ref b2), (3, .int (nI i))]) (hcl : cells ≤ 600000) (hsl : slots ≤ 7302250) (hi : i + 6 ≤ L) {r : Int} {σ1' σ2' : jq_M} (h1 : X10_least (jq_a xs i 1) σ1 = some (r, σ1')) (h2 : X11_least (jq_a xs i 1) σ2 = some (r, σ2'))
    (kk : ∀ (H1 : Heap) (locs1 : List Loc), jq_R2 b1 b2 D cs σ1' σ2' H1 → va_S (fun q => s.heap.size ≤ q) s.heap H1 locs1 → W p l e room_1 s m #[Value.ref b] below meth c H1 locs1 cells slots Q (F0 m 2013 ls [])) : W p l e room_1 s m #[Value.ref b] below meth c H locs cells slots Q (F0 m 775 ls []) := by
  have C1 := C0
  obtain ⟨hx, hb, -⟩ := C1
  refine lv_aload_n hx hb dL_law_775 rfl (lv_at hl 1 rfl) ?_
  refine law_ld C0 hS hl hi 1 rfl rfl dL_law_776 dL_law_777 dL_law_778 dL_law_779 dL_law_780 ?_
  refine law_callX (v := jI r) (avs := [jI (jq_a xs i 1)]) C0 hR hS hl.1 hcl hsl (ctX10_least h1) ml_RL_79 rfl rfl (by unfold jq_os; simp only [List.forall_mem_cons, List.not_mem_nil, false_implies, implies_true, and_true]; exact jq_ti_r _) rfl rfl rfl rfl dL_law_781 (fun H locs hR hS => ?_)
  refine lv_aload_n hx hb dL_law_784 rfl (lv_at hl 2 rfl) ?_
  refine law_ld C0 hS hl hi 1 rfl rfl dL_law_785 dL_law_786 dL_law_787 dL_law_788 dL_law_789 ?_
  refine law_callM (v := jI r) (avs := [jI (jq_a xs i 1)]) C0 hR hS hl.1 hcl hsl (ctX11_least h2) ml_RL_82 rfl rfl (by unfold jq_os; simp only [List.forall_mem_cons, List.not_mem_nil, false_implies, implies_true, and_true]; exact jq_ti_r _) rfl rfl rfl rfl dL_law_790 (fun H locs hR hS => ?_)
  exact lv_icmp_eq (tgt := 2013) hx hb dL_law_793 (by decide) (fun _ => kk H locs hR hS) (fun q => absurd rfl q)
theorem ml_RL_83 : jq_vl RL 83 yX10_wish cX10_wish 3 (some .int) 2 := ⟨jq_in 983 (by decide +kernel) rfl, yf_X10_wish⟩
theorem ml_RL_87 : jq_vl RL 87 yX11_wish cX11_wish 3 (some .int) 2 := ⟨jq_in 1962 (by decide +kernel) rfl, yf_X11_wish⟩
set_option maxHeartbeats 4000000 in
set_option maxRecDepth 100000 in
theorem law_15 (C0 : jq_LC p s m meth c b L xs b1 b2 D cs ss1 ss2) (hR : jq_R2 b1 b2 D cs σ1 σ2 H) (hS : va_S (fun q => s.heap.size ≤ q) s.heap H locs) (hl : lv_has ls 4 [(0, .ref b), (1, .ref b1), (2, .ref b2), (3, .int (nI i))]) (hcl : cells ≤ 600000) (hsl : slots ≤ 7302250) (hi : i + 6 ≤ L) {r : Int} {σ1' σ2' : jq_M} (h1 : X10_wish (jq_a xs i 1) (jq_a xs i 2) σ1 = some (r, σ1')) (h2 : X11_wish (jq_a xs i 1) (jq_a xs i 2) σ2 = some (r, σ2'))
    (kk : ∀ (H1 : Heap) (locs1 : List Loc), jq_R2 b1 b2 D cs σ1' σ2' H1 → va_S (fun q => s.heap.size ≤ q) s.heap H1 locs1 → W p l e room_1 s m #[Value.ref b] below meth c H1 locs1 cells slots Q (F0 m 2013 ls [])) : W p l e room_1 s m #[Value.ref b] below meth c H locs cells slots Q (F0 m 798 ls []) := by
  have C1 := C0
  obtain ⟨hx, hb, -⟩ := C1
  refine lv_aload_n hx hb dL_law_798 rfl (lv_at hl 1 rfl) ?_
  refine law_ld C0 hS hl hi 1 rfl rfl dL_law_799 dL_law_800 dL_law_801 dL_law_802 dL_law_803 ?_
  refine law_ld C0 hS hl hi 2 rfl rfl dL_law_804 dL_law_805 dL_law_806 dL_law_807 dL_law_808 ?_
  refine law_callX (v := jI r) (avs := [jI (jq_a xs i 1), jI (jq_a xs i 2)]) C0 hR hS hl.1 hcl hsl (ctX10_wish h1) ml_RL_83 rfl rfl (by unfold jq_os; simp only [List.forall_mem_cons, List.not_mem_nil, false_implies, implies_true, and_true]; exact ⟨jq_ti_r _, jq_ti_r _⟩) rfl rfl rfl rfl dL_law_809 (fun H locs hR hS => ?_)
  refine lv_aload_n hx hb dL_law_812 rfl (lv_at hl 2 rfl) ?_
  refine law_ld C0 hS hl hi 1 rfl rfl dL_law_813 dL_law_814 dL_law_815 dL_law_816 dL_law_817 ?_
  refine law_ld C0 hS hl hi 2 rfl rfl dL_law_818 dL_law_819 dL_law_820 dL_law_821 dL_law_822 ?_
  refine law_callM (v := jI r) (avs := [jI (jq_a xs i 1), jI (jq_a xs i 2)]) C0 hR hS hl.1 hcl hsl (ctX11_wish h2) ml_RL_87 rfl rfl (by unfold jq_os; simp only [List.forall_mem_cons, List.not_mem_nil, false_implies, implies_true, and_true]; exact ⟨jq_ti_r _, jq_ti_r _⟩) rfl rfl rfl rfl dL_law_823 (fun H locs hR hS => ?_)
  exact lv_icmp_eq (tgt := 2013) hx hb dL_law_826 (by decide) (fun _ => kk H locs hR hS) (fun q => absurd rfl q)
theorem ml_RL_88 : jq_vl RL 88 yX10_article cX10_article 3 (some .int) 2 := ⟨jq_in 988 (by decide +kernel) rfl, yf_X10_article⟩
theorem ml_RL_91 : jq_vl RL 91 yX11_article cX11_article 3 (some .int) 2 := ⟨jq_in 1966 (by decide +kernel) rfl, yf_X11_article⟩
set_option maxHeartbeats 4000000 in
set_option maxRecDepth 100000 in
theorem law_16 (C0 : jq_LC p s m meth c b L xs b1 b2 D cs ss1 ss2) (hR : jq_R2 b1 b2 D cs σ1 σ2 H) (hS : va_S (fun q => s.heap.size ≤ q) s.heap H locs) (hl : lv_has ls 4 [(0, .ref b), (1, .ref b1), (2, .ref b2), (3, .int (nI i))]) (hcl : cells ≤ 600000) (hsl : slots ≤ 7302250) (hi : i + 6 ≤ L) {r : Int} {σ1' σ2' : jq_M} (h1 : X10_article (jq_a xs i 1) (jq_a xs i 2) σ1 = some (r, σ1')) (h2 : X11_article (jq_a xs i 1) (jq_a xs i 2) σ2 = some (r, σ2'))
    (kk : ∀ (H1 : Heap) (locs1 : List Loc), jq_R2 b1 b2 D cs σ1' σ2' H1 → va_S (fun q => s.heap.size ≤ q) s.heap H1 locs1 → W p l e room_1 s m #[Value.ref b] below meth c H1 locs1 cells slots Q (F0 m 2013 ls [])) : W p l e room_1 s m #[Value.ref b] below meth c H locs cells slots Q (F0 m 831 ls []) := by
  have C1 := C0
  obtain ⟨hx, hb, -⟩ := C1
  refine lv_aload_n hx hb dL_law_831 rfl (lv_at hl 1 rfl) ?_
  refine law_ld C0 hS hl hi 1 rfl rfl dL_law_832 dL_law_833 dL_law_834 dL_law_835 dL_law_836 ?_
  refine law_ld C0 hS hl hi 2 rfl rfl dL_law_837 dL_law_838 dL_law_839 dL_law_840 dL_law_841 ?_
  refine law_callX (v := jI r) (avs := [jI (jq_a xs i 1), jI (jq_a xs i 2)]) C0 hR hS hl.1 hcl hsl (ctX10_article h1) ml_RL_88 rfl rfl (by unfold jq_os; simp only [List.forall_mem_cons, List.not_mem_nil, false_implies, implies_true, and_true]; exact ⟨jq_ti_r _, jq_ti_r _⟩) rfl rfl rfl rfl dL_law_842 (fun H locs hR hS => ?_)
  refine lv_aload_n hx hb dL_law_845 rfl (lv_at hl 2 rfl) ?_
  refine law_ld C0 hS hl hi 1 rfl rfl dL_law_846 dL_law_847 dL_law_848 dL_law_849 dL_law_850 ?_
  refine law_ld C0 hS hl hi 2 rfl rfl dL_law_851 dL_law_852 dL_law_853 dL_law_854 dL_law_855 ?_
  refine law_callM (v := jI r) (avs := [jI (jq_a xs i 1), jI (jq_a xs i 2)]) C0 hR hS hl.1 hcl hsl (ctX11_article h2) ml_RL_91 rfl rfl (by unfold jq_os; simp only [List.forall_mem_cons, List.not_mem_nil, false_implies, implies_true, and_true]; exact ⟨jq_ti_r _, jq_ti_r _⟩) rfl rfl rfl rfl dL_law_856 (fun H locs hR hS => ?_)
  exact lv_icmp_eq (tgt := 2013) hx hb dL_law_859 (by decide) (fun _ => kk H locs hR hS) (fun q => absurd rfl q)
theorem ml_RL_92 : jq_vl RL 92 yX10_beside cX10_beside 3 (some .int) 2 := ⟨jq_in 1003 (by decide +kernel) rfl, yf_X10_beside⟩
theorem ml_RL_95 : jq_vl RL 95 yX11_beside cX11_beside 3 (some .int) 2 := ⟨jq_in 1974 (by decide +kernel) rfl, yf_X11_beside⟩
set_option maxHeartbeats 4000000 in
set_option maxRecDepth 100000 in
theorem law_17 (C0 : jq_LC p s m meth c b L xs b1 b2 D cs ss1 ss2) (hR : jq_R2 b1 b2 D cs σ1 σ2 H) (hS : va_S (fun q => s.heap.size ≤ q) s.heap H locs) (hl : lv_has ls 4 [(0, .ref b), (1, .ref b1), (2, .ref b2), (3, .int (nI i))]) (hcl : cells ≤ 600000) (hsl : slots ≤ 7302250) (hi : i + 6 ≤ L) {r : Int} {σ1' σ2' : jq_M} (h1 : X10_beside (jq_a xs i 1) (jq_a xs i 2) σ1 = some (r, σ1')) (h2 : X11_beside (jq_a xs i 1) (jq_a xs i 2) σ2 = some (r, σ2'))
    (kk : ∀ (H1 : Heap) (locs1 : List Loc), jq_R2 b1 b2 D cs σ1' σ2' H1 → va_S (fun q => s.heap.size ≤ q) s.heap H1 locs1 → W p l e room_1 s m #[Value.ref b] below meth c H1 locs1 cells slots Q (F0 m 2013 ls [])) : W p l e room_1 s m #[Value.ref b] below meth c H locs cells slots Q (F0 m 864 ls []) := by
  have C1 := C0
  obtain ⟨hx, hb, -⟩ := C1
  refine lv_aload_n hx hb dL_law_864 rfl (lv_at hl 1 rfl) ?_
  refine law_ld C0 hS hl hi 1 rfl rfl dL_law_865 dL_law_866 dL_law_867 dL_law_868 dL_law_869 ?_
  refine law_ld C0 hS hl hi 2 rfl rfl dL_law_870 dL_law_871 dL_law_872 dL_law_873 dL_law_874 ?_
  refine law_callX (v := jI r) (avs := [jI (jq_a xs i 1), jI (jq_a xs i 2)]) C0 hR hS hl.1 hcl hsl (ctX10_beside h1) ml_RL_92 rfl rfl (by unfold jq_os; simp only [List.forall_mem_cons, List.not_mem_nil, false_implies, implies_true, and_true]; exact ⟨jq_ti_r _, jq_ti_r _⟩) rfl rfl rfl rfl dL_law_875 (fun H locs hR hS => ?_)
  refine lv_aload_n hx hb dL_law_878 rfl (lv_at hl 2 rfl) ?_
  refine law_ld C0 hS hl hi 1 rfl rfl dL_law_879 dL_law_880 dL_law_881 dL_law_882 dL_law_883 ?_
  refine law_ld C0 hS hl hi 2 rfl rfl dL_law_884 dL_law_885 dL_law_886 dL_law_887 dL_law_888 ?_
  refine law_callM (v := jI r) (avs := [jI (jq_a xs i 1), jI (jq_a xs i 2)]) C0 hR hS hl.1 hcl hsl (ctX11_beside h2) ml_RL_95 rfl rfl (by unfold jq_os; simp only [List.forall_mem_cons, List.not_mem_nil, false_implies, implies_true, and_true]; exact ⟨jq_ti_r _, jq_ti_r _⟩) rfl rfl rfl rfl dL_law_889 (fun H locs hR hS => ?_)
  exact lv_icmp_eq (tgt := 2013) hx hb dL_law_892 (by decide) (fun _ => kk H locs hR hS) (fun q => absurd rfl q)
theorem ml_RL_96 : jq_vl RL 96 yX10_facing cX10_facing 3 (some .int) 2 := ⟨jq_in 1012 (by decide +kernel) rfl, yf_X10_facing⟩
theorem ml_RL_99 : jq_vl RL 99 yX11_facing cX11_facing 3 (some .int) 2 := ⟨jq_in 1986 (by decide +kernel) rfl, yf_X11_facing⟩
set_option maxHeartbeats 4000000 in
set_option maxRecDepth 100000 in
theorem law_18 (C0 : jq_LC p s m meth c b L xs b1 b2 D cs ss1 ss2) (hR : jq_R2 b1 b2 D cs σ1 σ2 H) (hS : va_S (fun q => s.heap.size ≤ q) s.heap H locs) (hl : lv_has ls 4 [(0, .ref b), (1, .ref b1), (2, .ref b2), (3, .int (nI i))]) (hcl : cells ≤ 600000) (hsl : slots ≤ 7302250) (hi : i + 6 ≤ L) {r : Int} {σ1' σ2' : jq_M} (h1 : X10_facing (jq_a xs i 1) (jq_a xs i 2) σ1 = some (r, σ1')) (h2 : X11_facing (jq_a xs i 1) (jq_a xs i 2) σ2 = some (r, σ2'))
    (kk : ∀ (H1 : Heap) (locs1 : List Loc), jq_R2 b1 b2 D cs σ1' σ2' H1 → va_S (fun q => s.heap.size ≤ q) s.heap H1 locs1 → W p l e room_1 s m #[Value.ref b] below meth c H1 locs1 cells slots Q (F0 m 2013 ls [])) : W p l e room_1 s m #[Value.ref b] below meth c H locs cells slots Q (F0 m 897 ls []) := by
  have C1 := C0
  obtain ⟨hx, hb, -⟩ := C1
  refine lv_aload_n hx hb dL_law_897 rfl (lv_at hl 1 rfl) ?_
  refine law_ld C0 hS hl hi 1 rfl rfl dL_law_898 dL_law_899 dL_law_900 dL_law_901 dL_law_902 ?_
  refine law_ld C0 hS hl hi 2 rfl rfl dL_law_903 dL_law_904 dL_law_905 dL_law_906 dL_law_907 ?_
  refine law_callX (v := jI r) (avs := [jI (jq_a xs i 1), jI (jq_a xs i 2)]) C0 hR hS hl.1 hcl hsl (ctX10_facing h1) ml_RL_96 rfl rfl (by unfold jq_os; simp only [List.forall_mem_cons, List.not_mem_nil, false_implies, implies_true, and_true]; exact ⟨jq_ti_r _, jq_ti_r _⟩) rfl rfl rfl rfl dL_law_908 (fun H locs hR hS => ?_)
  refine lv_aload_n hx hb dL_law_911 rfl (lv_at hl 2 rfl) ?_
  refine law_ld C0 hS hl hi 1 rfl rfl dL_law_912 dL_law_913 dL_law_914 dL_law_915 dL_law_916 ?_
  refine law_ld C0 hS hl hi 2 rfl rfl dL_law_917 dL_law_918 dL_law_919 dL_law_920 dL_law_921 ?_
  refine law_callM (v := jI r) (avs := [jI (jq_a xs i 1), jI (jq_a xs i 2)]) C0 hR hS hl.1 hcl hsl (ctX11_facing h2) ml_RL_99 rfl rfl (by unfold jq_os; simp only [List.forall_mem_cons, List.not_mem_nil, false_implies, implies_true, and_true]; exact ⟨jq_ti_r _, jq_ti_r _⟩) rfl rfl rfl rfl dL_law_922 (fun H locs hR hS => ?_)
  exact lv_icmp_eq (tgt := 2013) hx hb dL_law_925 (by decide) (fun _ => kk H locs hR hS) (fun q => absurd rfl q)
theorem ml_RL_100 : jq_vl RL 100 yX10_worth cX10_worth 2 (some .int) 1 := ⟨jq_in 1017 (by decide +kernel) rfl, yf_X10_worth⟩
theorem ml_RL_103 : jq_vl RL 103 yX11_worth cX11_worth 2 (some .int) 1 := ⟨jq_in 1990 (by decide +kernel) rfl, yf_X11_worth⟩
set_option maxHeartbeats 4000000 in
set_option maxRecDepth 100000 in
theorem law_19 (C0 : jq_LC p s m meth c b L xs b1 b2 D cs ss1 ss2) (hR : jq_R2 b1 b2 D cs σ1 σ2 H) (hS : va_S (fun q => s.heap.size ≤ q) s.heap H locs) (hl : lv_has ls 4 [(0, .ref b), (1, .ref b1), (2, .ref b2), (3, .int (nI i))]) (hcl : cells ≤ 600000) (hsl : slots ≤ 7302250) (hi : i + 6 ≤ L) {r : Int} {σ1' σ2' : jq_M} (h1 : X10_worth (jq_a xs i 1) σ1 = some (r, σ1')) (h2 : X11_worth (jq_a xs i 1) σ2 = some (r, σ2'))
    (kk : ∀ (H1 : Heap) (locs1 : List Loc), jq_R2 b1 b2 D cs σ1' σ2' H1 → va_S (fun q => s.heap.size ≤ q) s.heap H1 locs1 → W p l e room_1 s m #[Value.ref b] below meth c H1 locs1 cells slots Q (F0 m 2013 ls [])) : W p l e room_1 s m #[Value.ref b] below meth c H locs cells slots Q (F0 m 930 ls []) := by
  have C1 := C0
  obtain ⟨hx, hb, -⟩ := C1
  refine lv_aload_n hx hb dL_law_930 rfl (lv_at hl 1 rfl) ?_
  refine law_ld C0 hS hl hi 1 rfl rfl dL_law_931 dL_law_932 dL_law_933 dL_law_934 dL_law_935 ?_
  refine law_callX (v := jI r) (avs := [jI (jq_a xs i 1)]) C0 hR hS hl.1 hcl hsl (ctX10_worth h1) ml_RL_100 rfl rfl (by unfold jq_os; simp only [List.forall_mem_cons, List.not_mem_nil, false_implies, implies_true, and_true]; exact jq_ti_r _) rfl rfl rfl rfl dL_law_936 (fun H locs hR hS => ?_)
  refine lv_aload_n hx hb dL_law_939 rfl (lv_at hl 2 rfl) ?_
  refine law_ld C0 hS hl hi 1 rfl rfl dL_law_940 dL_law_941 dL_law_942 dL_law_943 dL_law_944 ?_
  refine law_callM (v := jI r) (avs := [jI (jq_a xs i 1)]) C0 hR hS hl.1 hcl hsl (ctX11_worth h2) ml_RL_103 rfl rfl (by unfold jq_os; simp only [List.forall_mem_cons, List.not_mem_nil, false_implies, implies_true, and_true]; exact jq_ti_r _) rfl rfl rfl rfl dL_law_945 (fun H locs hR hS => ?_)
  exact lv_icmp_eq (tgt := 2013) hx hb dL_law_948 (by decide) (fun _ => kk H locs hR hS) (fun q => absurd rfl q)
theorem ml_RL_104 : jq_vl RL 104 yX10_allWorth cX10_allWorth 1 (some .int) 0 := ⟨jq_in 1025 (by decide +kernel) rfl, yf_X10_allWorth⟩
theorem ml_RL_107 : jq_vl RL 107 yX11_allWorth cX11_allWorth 1 (some .int) 0 := ⟨jq_in 1994 (by decide +kernel) rfl, yf_X11_allWorth⟩
set_option maxHeartbeats 4000000 in
set_option maxRecDepth 100000 in
theorem law_20 (C0 : jq_LC p s m meth c b L xs b1 b2 D cs ss1 ss2) (hR : jq_R2 b1 b2 D cs σ1 σ2 H) (hS : va_S (fun q => s.heap.size ≤ q) s.heap H locs) (hl : lv_has ls 4 [(0, .ref b), (1, .ref b1), (2, .ref b2), (3, .int (nI i))]) (hcl : cells ≤ 600000) (hsl : slots ≤ 7302250) (hi : i + 6 ≤ L) {r : Int} {σ1' σ2' : jq_M} (h1 : X10_allWorth σ1 = some (r, σ1')) (h2 : X11_allWorth σ2 = some (r, σ2'))
    (kk : ∀ (H1 : Heap) (locs1 : List Loc), jq_R2 b1 b2 D cs σ1' σ2' H1 → va_S (fun q => s.heap.size ≤ q) s.heap H1 locs1 → W p l e room_1 s m #[Value.ref b] below meth c H1 locs1 cells slots Q (F0 m 2013 ls [])) : W p l e room_1 s m #[Value.ref b] below meth c H locs cells slots Q (F0 m 953 ls []) := by
  have C1 := C0
  obtain ⟨hx, hb, -⟩ := C1
  refine lv_aload_n hx hb dL_law_953 rfl (lv_at hl 1 rfl) ?_
  refine law_callX (v := jI r) (avs := []) C0 hR hS hl.1 hcl hsl (ctX10_allWorth h1) ml_RL_104 rfl rfl (fun v hv => by cases hv) rfl rfl rfl rfl dL_law_954 (fun H locs hR hS => ?_)
  refine lv_aload_n hx hb dL_law_957 rfl (lv_at hl 2 rfl) ?_
  refine law_callM (v := jI r) (avs := []) C0 hR hS hl.1 hcl hsl (ctX11_allWorth h2) ml_RL_107 rfl rfl (fun v hv => by cases hv) rfl rfl rfl rfl dL_law_958 (fun H locs hR hS => ?_)
  exact lv_icmp_eq (tgt := 2013) hx hb dL_law_961 (by decide) (fun _ => kk H locs hR hS) (fun q => absurd rfl q)
theorem ml_RL_108 : jq_vl RL 108 yX10_signs cX10_signs 2 (some .int) 1 := ⟨jq_in 1033 (by decide +kernel) rfl, yf_X10_signs⟩
theorem ml_RL_111 : jq_vl RL 111 yX11_signs cX11_signs 2 (some .int) 1 := ⟨jq_in 2002 (by decide +kernel) rfl, yf_X11_signs⟩
set_option maxHeartbeats 4000000 in
set_option maxRecDepth 100000 in
theorem law_21 (C0 : jq_LC p s m meth c b L xs b1 b2 D cs ss1 ss2) (hR : jq_R2 b1 b2 D cs σ1 σ2 H) (hS : va_S (fun q => s.heap.size ≤ q) s.heap H locs) (hl : lv_has ls 4 [(0, .ref b), (1, .ref b1), (2, .ref b2), (3, .int (nI i))]) (hcl : cells ≤ 600000) (hsl : slots ≤ 7302250) (hi : i + 6 ≤ L) {r : Int} {σ1' σ2' : jq_M} (h1 : X10_signs (jq_a xs i 1) σ1 = some (r, σ1')) (h2 : X11_signs (jq_a xs i 1) σ2 = some (r, σ2'))
    (kk : ∀ (H1 : Heap) (locs1 : List Loc), jq_R2 b1 b2 D cs σ1' σ2' H1 → va_S (fun q => s.heap.size ≤ q) s.heap H1 locs1 → W p l e room_1 s m #[Value.ref b] below meth c H1 locs1 cells slots Q (F0 m 2013 ls [])) : W p l e room_1 s m #[Value.ref b] below meth c H locs cells slots Q (F0 m 966 ls []) := by
  have C1 := C0
  obtain ⟨hx, hb, -⟩ := C1
  refine lv_aload_n hx hb dL_law_966 rfl (lv_at hl 1 rfl) ?_
  refine law_ld C0 hS hl hi 1 rfl rfl dL_law_967 dL_law_968 dL_law_969 dL_law_970 dL_law_971 ?_
  refine law_callX (v := jI r) (avs := [jI (jq_a xs i 1)]) C0 hR hS hl.1 hcl hsl (ctX10_signs h1) ml_RL_108 rfl rfl (by unfold jq_os; simp only [List.forall_mem_cons, List.not_mem_nil, false_implies, implies_true, and_true]; exact jq_ti_r _) rfl rfl rfl rfl dL_law_972 (fun H locs hR hS => ?_)
  refine lv_aload_n hx hb dL_law_975 rfl (lv_at hl 2 rfl) ?_
  refine law_ld C0 hS hl hi 1 rfl rfl dL_law_976 dL_law_977 dL_law_978 dL_law_979 dL_law_980 ?_
  refine law_callM (v := jI r) (avs := [jI (jq_a xs i 1)]) C0 hR hS hl.1 hcl hsl (ctX11_signs h2) ml_RL_111 rfl rfl (by unfold jq_os; simp only [List.forall_mem_cons, List.not_mem_nil, false_implies, implies_true, and_true]; exact jq_ti_r _) rfl rfl rfl rfl dL_law_981 (fun H locs hR hS => ?_)
  exact lv_icmp_eq (tgt := 2013) hx hb dL_law_984 (by decide) (fun _ => kk H locs hR hS) (fun q => absurd rfl q)
theorem ml_RL_112 : jq_vl RL 112 yX10_dearest cX10_dearest 2 (some .int) 1 := ⟨jq_in 1042 (by decide +kernel) rfl, yf_X10_dearest⟩
theorem ml_RL_115 : jq_vl RL 115 yX11_dearest cX11_dearest 5 (some .int) 1 := ⟨jq_in 2006 (by decide +kernel) rfl, yf_X11_dearest⟩
set_option maxHeartbeats 4000000 in
set_option maxRecDepth 100000 in
theorem law_22 (C0 : jq_LC p s m meth c b L xs b1 b2 D cs ss1 ss2) (hR : jq_R2 b1 b2 D cs σ1 σ2 H) (hS : va_S (fun q => s.heap.size ≤ q) s.heap H locs) (hl : lv_has ls 4 [(0, .ref b), (1, .ref b1), (2, .ref b2), (3, .int (nI i))]) (hcl : cells ≤ 600000) (hsl : slots ≤ 7302250) (hi : i + 6 ≤ L) {r : Int} {σ1' σ2' : jq_M} (h1 : X10_dearest (jq_a xs i 1) σ1 = some (r, σ1')) (h2 : X11_dearest (jq_a xs i 1) σ2 = some (r, σ2'))
    (kk : ∀ (H1 : Heap) (locs1 : List Loc), jq_R2 b1 b2 D cs σ1' σ2' H1 → va_S (fun q => s.heap.size ≤ q) s.heap H1 locs1 → W p l e room_1 s m #[Value.ref b] below meth c H1 locs1 cells slots Q (F0 m 2013 ls [])) : W p l e room_1 s m #[Value.ref b] below meth c H locs cells slots Q (F0 m 989 ls []) := by
  have C1 := C0
  obtain ⟨hx, hb, -⟩ := C1
  refine lv_aload_n hx hb dL_law_989 rfl (lv_at hl 1 rfl) ?_
  refine law_ld C0 hS hl hi 1 rfl rfl dL_law_990 dL_law_991 dL_law_992 dL_law_993 dL_law_994 ?_
  refine law_callX (v := jI r) (avs := [jI (jq_a xs i 1)]) C0 hR hS hl.1 hcl hsl (ctX10_dearest h1) ml_RL_112 rfl rfl (by unfold jq_os; simp only [List.forall_mem_cons, List.not_mem_nil, false_implies, implies_true, and_true]; exact jq_ti_r _) rfl rfl rfl rfl dL_law_995 (fun H locs hR hS => ?_)
  refine lv_aload_n hx hb dL_law_998 rfl (lv_at hl 2 rfl) ?_
  refine law_ld C0 hS hl hi 1 rfl rfl dL_law_999 dL_law_1000 dL_law_1001 dL_law_1002 dL_law_1003 ?_
  refine law_callM (v := jI r) (avs := [jI (jq_a xs i 1)]) C0 hR hS hl.1 hcl hsl (ctX11_dearest h2) ml_RL_115 rfl rfl (by unfold jq_os; simp only [List.forall_mem_cons, List.not_mem_nil, false_implies, implies_true, and_true]; exact jq_ti_r _) rfl rfl rfl rfl dL_law_1004 (fun H locs hR hS => ?_)
  exact lv_icmp_eq (tgt := 2013) hx hb dL_law_1007 (by decide) (fun _ => kk H locs hR hS) (fun q => absurd rfl q)
theorem ml_RL_116 : jq_vl RL 116 yX10_sit cX10_sit 4 (some .int) 2 := ⟨jq_in 1050 (by decide +kernel) rfl, yf_X10_sit⟩
theorem ml_RL_119 : jq_vl RL 119 yX11_sit cX11_sit 4 (some .int) 2 := ⟨jq_in 2010 (by decide +kernel) rfl, yf_X11_sit⟩
set_option maxHeartbeats 4000000 in
set_option maxRecDepth 100000 in
theorem law_23 (C0 : jq_LC p s m meth c b L xs b1 b2 D cs ss1 ss2) (hR : jq_R2 b1 b2 D cs σ1 σ2 H) (hS : va_S (fun q => s.heap.size ≤ q) s.heap H locs) (hl : lv_has ls 4 [(0, .ref b), (1, .ref b1), (2, .ref b2), (3, .int (nI i))]) (hcl : cells ≤ 600000) (hsl : slots ≤ 7302250) (hi : i + 6 ≤ L) {r : Int} {σ1' σ2' : jq_M} (h1 : X10_sit (jq_a xs i 1) (jq_a xs i 2) σ1 = some (r, σ1')) (h2 : X11_sit (jq_a xs i 1) (jq_a xs i 2) σ2 = some (r, σ2'))
    (kk : ∀ (H1 : Heap) (locs1 : List Loc), jq_R2 b1 b2 D cs σ1' σ2' H1 → va_S (fun q => s.heap.size ≤ q) s.heap H1 locs1 → W p l e room_1 s m #[Value.ref b] below meth c H1 locs1 cells slots Q (F0 m 2013 ls [])) : W p l e room_1 s m #[Value.ref b] below meth c H locs cells slots Q (F0 m 1012 ls []) := by
  have C1 := C0
  obtain ⟨hx, hb, -⟩ := C1
  refine lv_aload_n hx hb dL_law_1012 rfl (lv_at hl 1 rfl) ?_
  refine law_ld C0 hS hl hi 1 rfl rfl dL_law_1013 dL_law_1014 dL_law_1015 dL_law_1016 dL_law_1017 ?_
  refine law_ld C0 hS hl hi 2 rfl rfl dL_law_1018 dL_law_1019 dL_law_1020 dL_law_1021 dL_law_1022 ?_
  refine law_callX (v := jI r) (avs := [jI (jq_a xs i 1), jI (jq_a xs i 2)]) C0 hR hS hl.1 hcl hsl (ctX10_sit h1) ml_RL_116 rfl rfl (by unfold jq_os; simp only [List.forall_mem_cons, List.not_mem_nil, false_implies, implies_true, and_true]; exact ⟨jq_ti_r _, jq_ti_r _⟩) rfl rfl rfl rfl dL_law_1023 (fun H locs hR hS => ?_)
  refine lv_aload_n hx hb dL_law_1026 rfl (lv_at hl 2 rfl) ?_
  refine law_ld C0 hS hl hi 1 rfl rfl dL_law_1027 dL_law_1028 dL_law_1029 dL_law_1030 dL_law_1031 ?_
  refine law_ld C0 hS hl hi 2 rfl rfl dL_law_1032 dL_law_1033 dL_law_1034 dL_law_1035 dL_law_1036 ?_
  refine law_callM (v := jI r) (avs := [jI (jq_a xs i 1), jI (jq_a xs i 2)]) C0 hR hS hl.1 hcl hsl (ctX11_sit h2) ml_RL_119 rfl rfl (by unfold jq_os; simp only [List.forall_mem_cons, List.not_mem_nil, false_implies, implies_true, and_true]; exact ⟨jq_ti_r _, jq_ti_r _⟩) rfl rfl rfl rfl dL_law_1037 (fun H locs hR hS => ?_)
  exact lv_icmp_eq (tgt := 2013) hx hb dL_law_1040 (by decide) (fun _ => kk H locs hR hS) (fun q => absurd rfl q)
theorem ml_RL_120 : jq_vl RL 120 yX10_rise cX10_rise 3 (some .int) 1 := ⟨jq_in 1060 (by decide +kernel) rfl, yf_X10_rise⟩
theorem ml_RL_123 : jq_vl RL 123 yX11_rise cX11_rise 3 (some .int) 1 := ⟨jq_in 2018 (by decide +kernel) rfl, yf_X11_rise⟩
set_option maxHeartbeats 4000000 in
set_option maxRecDepth 100000 in
theorem law_24 (C0 : jq_LC p s m meth c b L xs b1 b2 D cs ss1 ss2) (hR : jq_R2 b1 b2 D cs σ1 σ2 H) (hS : va_S (fun q => s.heap.size ≤ q) s.heap H locs) (hl : lv_has ls 4 [(0, .ref b), (1, .ref b1), (2, .ref b2), (3, .int (nI i))]) (hcl : cells ≤ 600000) (hsl : slots ≤ 7302250) (hi : i + 6 ≤ L) {r : Int} {σ1' σ2' : jq_M} (h1 : X10_rise (jq_a xs i 1) σ1 = some (r, σ1')) (h2 : X11_rise (jq_a xs i 1) σ2 = some (r, σ2'))
    (kk : ∀ (H1 : Heap) (locs1 : List Loc), jq_R2 b1 b2 D cs σ1' σ2' H1 → va_S (fun q => s.heap.size ≤ q) s.heap H1 locs1 → W p l e room_1 s m #[Value.ref b] below meth c H1 locs1 cells slots Q (F0 m 2013 ls [])) : W p l e room_1 s m #[Value.ref b] below meth c H locs cells slots Q (F0 m 1045 ls []) := by
  have C1 := C0
  obtain ⟨hx, hb, -⟩ := C1
  refine lv_aload_n hx hb dL_law_1045 rfl (lv_at hl 1 rfl) ?_
  refine law_ld C0 hS hl hi 1 rfl rfl dL_law_1046 dL_law_1047 dL_law_1048 dL_law_1049 dL_law_1050 ?_
  refine law_callX (v := jI r) (avs := [jI (jq_a xs i 1)]) C0 hR hS hl.1 hcl hsl (ctX10_rise h1) ml_RL_120 rfl rfl (by unfold jq_os; simp only [List.forall_mem_cons, List.not_mem_nil, false_implies, implies_true, and_true]; exact jq_ti_r _) rfl rfl rfl rfl dL_law_1051 (fun H locs hR hS => ?_)
  refine lv_aload_n hx hb dL_law_1054 rfl (lv_at hl 2 rfl) ?_
  refine law_ld C0 hS hl hi 1 rfl rfl dL_law_1055 dL_law_1056 dL_law_1057 dL_law_1058 dL_law_1059 ?_
  refine law_callM (v := jI r) (avs := [jI (jq_a xs i 1)]) C0 hR hS hl.1 hcl hsl (ctX11_rise h2) ml_RL_123 rfl rfl (by unfold jq_os; simp only [List.forall_mem_cons, List.not_mem_nil, false_implies, implies_true, and_true]; exact jq_ti_r _) rfl rfl rfl rfl dL_law_1060 (fun H locs hR hS => ?_)
  exact lv_icmp_eq (tgt := 2013) hx hb dL_law_1063 (by decide) (fun _ => kk H locs hR hS) (fun q => absurd rfl q)
theorem ml_RL_124 : jq_vl RL 124 yX10_swap cX10_swap 3 (some .boolean) 2 := ⟨jq_in 1068 (by decide +kernel) rfl, yf_X10_swap⟩
theorem ml_RL_128 : jq_vl RL 128 yX11_swap cX11_swap 3 (some .boolean) 2 := ⟨jq_in 2022 (by decide +kernel) rfl, yf_X11_swap⟩
set_option maxHeartbeats 4000000 in
set_option maxRecDepth 100000 in
theorem law_25 (C0 : jq_LC p s m meth c b L xs b1 b2 D cs ss1 ss2) (hR : jq_R2 b1 b2 D cs σ1 σ2 H) (hS : va_S (fun q => s.heap.size ≤ q) s.heap H locs) (hl : lv_has ls 4 [(0, .ref b), (1, .ref b1), (2, .ref b2), (3, .int (nI i))]) (hcl : cells ≤ 600000) (hsl : slots ≤ 7302250) (hi : i + 6 ≤ L) {r : Int} {σ1' σ2' : jq_M} (h1 : X10_swap (jq_a xs i 1) (jq_a xs i 2) σ1 = some (r, σ1')) (h2 : X11_swap (jq_a xs i 1) (jq_a xs i 2) σ2 = some (r, σ2'))
    (kk : ∀ (H1 : Heap) (locs1 : List Loc), jq_R2 b1 b2 D cs σ1' σ2' H1 → va_S (fun q => s.heap.size ≤ q) s.heap H1 locs1 → W p l e room_1 s m #[Value.ref b] below meth c H1 locs1 cells slots Q (F0 m 2013 ls [])) : W p l e room_1 s m #[Value.ref b] below meth c H locs cells slots Q (F0 m 1068 ls []) := by
  have C1 := C0
  obtain ⟨hx, hb, -⟩ := C1
  refine lv_aload_n hx hb dL_law_1068 rfl (lv_at hl 1 rfl) ?_
  refine law_ld C0 hS hl hi 1 rfl rfl dL_law_1069 dL_law_1070 dL_law_1071 dL_law_1072 dL_law_1073 ?_
  refine law_ld C0 hS hl hi 2 rfl rfl dL_law_1074 dL_law_1075 dL_law_1076 dL_law_1077 dL_law_1078 ?_
  refine law_callX (v := jI r) (avs := [jI (jq_a xs i 1), jI (jq_a xs i 2)]) C0 hR hS hl.1 hcl hsl (ctX10_swap h1) ml_RL_124 rfl rfl (by unfold jq_os; simp only [List.forall_mem_cons, List.not_mem_nil, false_implies, implies_true, and_true]; exact ⟨jq_ti_r _, jq_ti_r _⟩) rfl rfl rfl rfl dL_law_1079 (fun H locs hR hS => ?_)
  refine lv_aload_n hx hb dL_law_1082 rfl (lv_at hl 2 rfl) ?_
  refine law_ld C0 hS hl hi 1 rfl rfl dL_law_1083 dL_law_1084 dL_law_1085 dL_law_1086 dL_law_1087 ?_
  refine law_ld C0 hS hl hi 2 rfl rfl dL_law_1088 dL_law_1089 dL_law_1090 dL_law_1091 dL_law_1092 ?_
  refine law_callM (v := jI r) (avs := [jI (jq_a xs i 1), jI (jq_a xs i 2)]) C0 hR hS hl.1 hcl hsl (ctX11_swap h2) ml_RL_128 rfl rfl (by unfold jq_os; simp only [List.forall_mem_cons, List.not_mem_nil, false_implies, implies_true, and_true]; exact ⟨jq_ti_r _, jq_ti_r _⟩) rfl rfl rfl rfl dL_law_1093 (fun H locs hR hS => ?_)
  exact lv_icmp_eq (tgt := 2013) hx hb dL_law_1096 (by decide) (fun _ => kk H locs hR hS) (fun q => absurd rfl q)
theorem ml_RL_129 : jq_vl RL 129 yX10_turn cX10_turn 2 (some .int) 1 := ⟨jq_in 1076 (by decide +kernel) rfl, yf_X10_turn⟩
theorem ml_RL_132 : jq_vl RL 132 yX11_turn cX11_turn 2 (some .int) 1 := ⟨jq_in 2030 (by decide +kernel) rfl, yf_X11_turn⟩
set_option maxHeartbeats 4000000 in
set_option maxRecDepth 100000 in
theorem law_26 (C0 : jq_LC p s m meth c b L xs b1 b2 D cs ss1 ss2) (hR : jq_R2 b1 b2 D cs σ1 σ2 H) (hS : va_S (fun q => s.heap.size ≤ q) s.heap H locs) (hl : lv_has ls 4 [(0, .ref b), (1, .ref b1), (2, .ref b2), (3, .int (nI i))]) (hcl : cells ≤ 600000) (hsl : slots ≤ 7302250) (hi : i + 6 ≤ L) {r : Int} {σ1' σ2' : jq_M} (h1 : X10_turn (jq_a xs i 1) σ1 = some (r, σ1')) (h2 : X11_turn (jq_a xs i 1) σ2 = some (r, σ2'))
    (kk : ∀ (H1 : Heap) (locs1 : List Loc), jq_R2 b1 b2 D cs σ1' σ2' H1 → va_S (fun q => s.heap.size ≤ q) s.heap H1 locs1 → W p l e room_1 s m #[Value.ref b] below meth c H1 locs1 cells slots Q (F0 m 2013 ls [])) : W p l e room_1 s m #[Value.ref b] below meth c H locs cells slots Q (F0 m 1101 ls []) := by
  have C1 := C0
  obtain ⟨hx, hb, -⟩ := C1
  refine lv_aload_n hx hb dL_law_1101 rfl (lv_at hl 1 rfl) ?_
  refine law_ld C0 hS hl hi 1 rfl rfl dL_law_1102 dL_law_1103 dL_law_1104 dL_law_1105 dL_law_1106 ?_
  refine law_callX (v := jI r) (avs := [jI (jq_a xs i 1)]) C0 hR hS hl.1 hcl hsl (ctX10_turn h1) ml_RL_129 rfl rfl (by unfold jq_os; simp only [List.forall_mem_cons, List.not_mem_nil, false_implies, implies_true, and_true]; exact jq_ti_r _) rfl rfl rfl rfl dL_law_1107 (fun H locs hR hS => ?_)
  refine lv_aload_n hx hb dL_law_1110 rfl (lv_at hl 2 rfl) ?_
  refine law_ld C0 hS hl hi 1 rfl rfl dL_law_1111 dL_law_1112 dL_law_1113 dL_law_1114 dL_law_1115 ?_
  refine law_callM (v := jI r) (avs := [jI (jq_a xs i 1)]) C0 hR hS hl.1 hcl hsl (ctX11_turn h2) ml_RL_132 rfl rfl (by unfold jq_os; simp only [List.forall_mem_cons, List.not_mem_nil, false_implies, implies_true, and_true]; exact jq_ti_r _) rfl rfl rfl rfl dL_law_1116 (fun H locs hR hS => ?_)
  exact lv_icmp_eq (tgt := 2013) hx hb dL_law_1119 (by decide) (fun _ => kk H locs hR hS) (fun q => absurd rfl q)
theorem ml_RL_133 : jq_vl RL 133 yX10_day cX10_day 2 (some .int) 1 := ⟨jq_in 1090 (by decide +kernel) rfl, yf_X10_day⟩
theorem ml_RL_136 : jq_vl RL 136 yX11_day cX11_day 2 (some .int) 1 := ⟨jq_in 2045 (by decide +kernel) rfl, yf_X11_day⟩
set_option maxHeartbeats 4000000 in
set_option maxRecDepth 100000 in
theorem law_27 (C0 : jq_LC p s m meth c b L xs b1 b2 D cs ss1 ss2) (hR : jq_R2 b1 b2 D cs σ1 σ2 H) (hS : va_S (fun q => s.heap.size ≤ q) s.heap H locs) (hl : lv_has ls 4 [(0, .ref b), (1, .ref b1), (2, .ref b2), (3, .int (nI i))]) (hcl : cells ≤ 600000) (hsl : slots ≤ 7302250) (hi : i + 6 ≤ L) {r : Int} {σ1' σ2' : jq_M} (h1 : X10_day (jq_a xs i 1) σ1 = some (r, σ1')) (h2 : X11_day (jq_a xs i 1) σ2 = some (r, σ2'))
    (kk : ∀ (H1 : Heap) (locs1 : List Loc), jq_R2 b1 b2 D cs σ1' σ2' H1 → va_S (fun q => s.heap.size ≤ q) s.heap H1 locs1 → W p l e room_1 s m #[Value.ref b] below meth c H1 locs1 cells slots Q (F0 m 2013 ls [])) : W p l e room_1 s m #[Value.ref b] below meth c H locs cells slots Q (F0 m 1124 ls []) := by
  have C1 := C0
  obtain ⟨hx, hb, -⟩ := C1
  refine lv_aload_n hx hb dL_law_1124 rfl (lv_at hl 1 rfl) ?_
  refine law_ld C0 hS hl hi 1 rfl rfl dL_law_1125 dL_law_1126 dL_law_1127 dL_law_1128 dL_law_1129 ?_
  refine law_callX (v := jI r) (avs := [jI (jq_a xs i 1)]) C0 hR hS hl.1 hcl hsl (ctX10_day h1) ml_RL_133 rfl rfl (by unfold jq_os; simp only [List.forall_mem_cons, List.not_mem_nil, false_implies, implies_true, and_true]; exact jq_ti_r _) rfl rfl rfl rfl dL_law_1130 (fun H locs hR hS => ?_)
  refine lv_aload_n hx hb dL_law_1133 rfl (lv_at hl 2 rfl) ?_
  refine law_ld C0 hS hl hi 1 rfl rfl dL_law_1134 dL_law_1135 dL_law_1136 dL_law_1137 dL_law_1138 ?_
  refine law_callM (v := jI r) (avs := [jI (jq_a xs i 1)]) C0 hR hS hl.1 hcl hsl (ctX11_day h2) ml_RL_136 rfl rfl (by unfold jq_os; simp only [List.forall_mem_cons, List.not_mem_nil, false_implies, implies_true, and_true]; exact jq_ti_r _) rfl rfl rfl rfl dL_law_1139 (fun H locs hR hS => ?_)
  exact lv_icmp_eq (tgt := 2013) hx hb dL_law_1142 (by decide) (fun _ => kk H locs hR hS) (fun q => absurd rfl q)
theorem ml_RL_137 : jq_vl RL 137 yX10_agree cX10_agree 2 (some .int) 1 := ⟨jq_in 1106 (by decide +kernel) rfl, yf_X10_agree⟩
theorem ml_RL_140 : jq_vl RL 140 yX11_agree cX11_agree 2 (some .int) 1 := ⟨jq_in 2057 (by decide +kernel) rfl, yf_X11_agree⟩
set_option maxHeartbeats 4000000 in
set_option maxRecDepth 100000 in
theorem law_28 (C0 : jq_LC p s m meth c b L xs b1 b2 D cs ss1 ss2) (hR : jq_R2 b1 b2 D cs σ1 σ2 H) (hS : va_S (fun q => s.heap.size ≤ q) s.heap H locs) (hl : lv_has ls 4 [(0, .ref b), (1, .ref b1), (2, .ref b2), (3, .int (nI i))]) (hcl : cells ≤ 600000) (hsl : slots ≤ 7302250) (hi : i + 6 ≤ L) {r : Int} {σ1' σ2' : jq_M} (h1 : X10_agree (jq_a xs i 1) σ1 = some (r, σ1')) (h2 : X11_agree (jq_a xs i 1) σ2 = some (r, σ2'))
    (kk : ∀ (H1 : Heap) (locs1 : List Loc), jq_R2 b1 b2 D cs σ1' σ2' H1 → va_S (fun q => s.heap.size ≤ q) s.heap H1 locs1 → W p l e room_1 s m #[Value.ref b] below meth c H1 locs1 cells slots Q (F0 m 2013 ls [])) : W p l e room_1 s m #[Value.ref b] below meth c H locs cells slots Q (F0 m 1147 ls []) := by
  have C1 := C0
  obtain ⟨hx, hb, -⟩ := C1
  refine lv_aload_n hx hb dL_law_1147 rfl (lv_at hl 1 rfl) ?_
  refine law_ld C0 hS hl hi 1 rfl rfl dL_law_1148 dL_law_1149 dL_law_1150 dL_law_1151 dL_law_1152 ?_
  refine law_callX (v := jI r) (avs := [jI (jq_a xs i 1)]) C0 hR hS hl.1 hcl hsl (ctX10_agree h1) ml_RL_137 rfl rfl (by unfold jq_os; simp only [List.forall_mem_cons, List.not_mem_nil, false_implies, implies_true, and_true]; exact jq_ti_r _) rfl rfl rfl rfl dL_law_1153 (fun H locs hR hS => ?_)
  refine lv_aload_n hx hb dL_law_1156 rfl (lv_at hl 2 rfl) ?_
  refine law_ld C0 hS hl hi 1 rfl rfl dL_law_1157 dL_law_1158 dL_law_1159 dL_law_1160 dL_law_1161 ?_
  refine law_callM (v := jI r) (avs := [jI (jq_a xs i 1)]) C0 hR hS hl.1 hcl hsl (ctX11_agree h2) ml_RL_140 rfl rfl (by unfold jq_os; simp only [List.forall_mem_cons, List.not_mem_nil, false_implies, implies_true, and_true]; exact jq_ti_r _) rfl rfl rfl rfl dL_law_1162 (fun H locs hR hS => ?_)
  exact lv_icmp_eq (tgt := 2013) hx hb dL_law_1165 (by decide) (fun _ => kk H locs hR hS) (fun q => absurd rfl q)
theorem ml_RL_141 : jq_vl RL 141 yX10_withdraw cX10_withdraw 3 (some .int) 1 := ⟨jq_in 1114 (by decide +kernel) rfl, yf_X10_withdraw⟩
theorem ml_RL_144 : jq_vl RL 144 yX11_withdraw cX11_withdraw 2 (some .int) 1 := ⟨jq_in 2065 (by decide +kernel) rfl, yf_X11_withdraw⟩
set_option maxHeartbeats 4000000 in
set_option maxRecDepth 100000 in
theorem law_29 (C0 : jq_LC p s m meth c b L xs b1 b2 D cs ss1 ss2) (hR : jq_R2 b1 b2 D cs σ1 σ2 H) (hS : va_S (fun q => s.heap.size ≤ q) s.heap H locs) (hl : lv_has ls 4 [(0, .ref b), (1, .ref b1), (2, .ref b2), (3, .int (nI i))]) (hcl : cells ≤ 600000) (hsl : slots ≤ 7302250) (hi : i + 6 ≤ L) {r : Int} {σ1' σ2' : jq_M} (h1 : X10_withdraw (jq_a xs i 1) σ1 = some (r, σ1')) (h2 : X11_withdraw (jq_a xs i 1) σ2 = some (r, σ2'))
    (kk : ∀ (H1 : Heap) (locs1 : List Loc), jq_R2 b1 b2 D cs σ1' σ2' H1 → va_S (fun q => s.heap.size ≤ q) s.heap H1 locs1 → W p l e room_1 s m #[Value.ref b] below meth c H1 locs1 cells slots Q (F0 m 2013 ls [])) : W p l e room_1 s m #[Value.ref b] below meth c H locs cells slots Q (F0 m 1170 ls []) := by
  have C1 := C0
  obtain ⟨hx, hb, -⟩ := C1
  refine lv_aload_n hx hb dL_law_1170 rfl (lv_at hl 1 rfl) ?_
  refine law_ld C0 hS hl hi 1 rfl rfl dL_law_1171 dL_law_1172 dL_law_1173 dL_law_1174 dL_law_1175 ?_
  refine law_callX (v := jI r) (avs := [jI (jq_a xs i 1)]) C0 hR hS hl.1 hcl hsl (ctX10_withdraw h1) ml_RL_141 rfl rfl (by unfold jq_os; simp only [List.forall_mem_cons, List.not_mem_nil, false_implies, implies_true, and_true]; exact jq_ti_r _) rfl rfl rfl rfl dL_law_1176 (fun H locs hR hS => ?_)
  refine lv_aload_n hx hb dL_law_1179 rfl (lv_at hl 2 rfl) ?_
  refine law_ld C0 hS hl hi 1 rfl rfl dL_law_1180 dL_law_1181 dL_law_1182 dL_law_1183 dL_law_1184 ?_
  refine law_callM (v := jI r) (avs := [jI (jq_a xs i 1)]) C0 hR hS hl.1 hcl hsl (ctX11_withdraw h2) ml_RL_144 rfl rfl (by unfold jq_os; simp only [List.forall_mem_cons, List.not_mem_nil, false_implies, implies_true, and_true]; exact jq_ti_r _) rfl rfl rfl rfl dL_law_1185 (fun H locs hR hS => ?_)
  exact lv_icmp_eq (tgt := 2013) hx hb dL_law_1188 (by decide) (fun _ => kk H locs hR hS) (fun q => absurd rfl q)
theorem ml_RL_145 : jq_vl RL 145 yX10_insist cX10_insist 3 (some .boolean) 2 := ⟨jq_in 1128 (by decide +kernel) rfl, yf_X10_insist⟩
theorem ml_RL_148 : jq_vl RL 148 yX11_insist cX11_insist 3 (some .boolean) 2 := ⟨jq_in 2077 (by decide +kernel) rfl, yf_X11_insist⟩
set_option maxHeartbeats 4000000 in
set_option maxRecDepth 100000 in
theorem law_30 (C0 : jq_LC p s m meth c b L xs b1 b2 D cs ss1 ss2) (hR : jq_R2 b1 b2 D cs σ1 σ2 H) (hS : va_S (fun q => s.heap.size ≤ q) s.heap H locs) (hl : lv_has ls 4 [(0, .ref b), (1, .ref b1), (2, .ref b2), (3, .int (nI i))]) (hcl : cells ≤ 600000) (hsl : slots ≤ 7302250) (hi : i + 6 ≤ L) {r : Int} {σ1' σ2' : jq_M} (h1 : X10_insist (jq_a xs i 1) (jq_a xs i 2) σ1 = some (r, σ1')) (h2 : X11_insist (jq_a xs i 1) (jq_a xs i 2) σ2 = some (r, σ2'))
    (kk : ∀ (H1 : Heap) (locs1 : List Loc), jq_R2 b1 b2 D cs σ1' σ2' H1 → va_S (fun q => s.heap.size ≤ q) s.heap H1 locs1 → W p l e room_1 s m #[Value.ref b] below meth c H1 locs1 cells slots Q (F0 m 2013 ls [])) : W p l e room_1 s m #[Value.ref b] below meth c H locs cells slots Q (F0 m 1193 ls []) := by
  have C1 := C0
  obtain ⟨hx, hb, -⟩ := C1
  refine lv_aload_n hx hb dL_law_1193 rfl (lv_at hl 1 rfl) ?_
  refine law_ld C0 hS hl hi 1 rfl rfl dL_law_1194 dL_law_1195 dL_law_1196 dL_law_1197 dL_law_1198 ?_
  refine law_ld C0 hS hl hi 2 rfl rfl dL_law_1199 dL_law_1200 dL_law_1201 dL_law_1202 dL_law_1203 ?_
  refine law_callX (v := jI r) (avs := [jI (jq_a xs i 1), jI (jq_a xs i 2)]) C0 hR hS hl.1 hcl hsl (ctX10_insist h1) ml_RL_145 rfl rfl (by unfold jq_os; simp only [List.forall_mem_cons, List.not_mem_nil, false_implies, implies_true, and_true]; exact ⟨jq_ti_r _, jq_ti_r _⟩) rfl rfl rfl rfl dL_law_1204 (fun H locs hR hS => ?_)
  refine lv_aload_n hx hb dL_law_1207 rfl (lv_at hl 2 rfl) ?_
  refine law_ld C0 hS hl hi 1 rfl rfl dL_law_1208 dL_law_1209 dL_law_1210 dL_law_1211 dL_law_1212 ?_
  refine law_ld C0 hS hl hi 2 rfl rfl dL_law_1213 dL_law_1214 dL_law_1215 dL_law_1216 dL_law_1217 ?_
  refine law_callM (v := jI r) (avs := [jI (jq_a xs i 1), jI (jq_a xs i 2)]) C0 hR hS hl.1 hcl hsl (ctX11_insist h2) ml_RL_148 rfl rfl (by unfold jq_os; simp only [List.forall_mem_cons, List.not_mem_nil, false_implies, implies_true, and_true]; exact ⟨jq_ti_r _, jq_ti_r _⟩) rfl rfl rfl rfl dL_law_1218 (fun H locs hR hS => ?_)
  exact lv_icmp_eq (tgt := 2013) hx hb dL_law_1221 (by decide) (fun _ => kk H locs hR hS) (fun q => absurd rfl q)
theorem ml_RL_149 : jq_vl RL 149 yX10_value cX10_value 3 (some .boolean) 2 := ⟨jq_in 1132 (by decide +kernel) rfl, yf_X10_value⟩
theorem ml_RL_152 : jq_vl RL 152 yX11_value cX11_value 3 (some .boolean) 2 := ⟨jq_in 2082 (by decide +kernel) rfl, yf_X11_value⟩
set_option maxHeartbeats 4000000 in
set_option maxRecDepth 100000 in
theorem law_31 (C0 : jq_LC p s m meth c b L xs b1 b2 D cs ss1 ss2) (hR : jq_R2 b1 b2 D cs σ1 σ2 H) (hS : va_S (fun q => s.heap.size ≤ q) s.heap H locs) (hl : lv_has ls 4 [(0, .ref b), (1, .ref b1), (2, .ref b2), (3, .int (nI i))]) (hcl : cells ≤ 600000) (hsl : slots ≤ 7302250) (hi : i + 6 ≤ L) {r : Int} {σ1' σ2' : jq_M} (h1 : X10_value (jq_a xs i 1) (jq_a xs i 2) σ1 = some (r, σ1')) (h2 : X11_value (jq_a xs i 1) (jq_a xs i 2) σ2 = some (r, σ2'))
    (kk : ∀ (H1 : Heap) (locs1 : List Loc), jq_R2 b1 b2 D cs σ1' σ2' H1 → va_S (fun q => s.heap.size ≤ q) s.heap H1 locs1 → W p l e room_1 s m #[Value.ref b] below meth c H1 locs1 cells slots Q (F0 m 2013 ls [])) : W p l e room_1 s m #[Value.ref b] below meth c H locs cells slots Q (F0 m 1226 ls []) := by
  have C1 := C0
  obtain ⟨hx, hb, -⟩ := C1
  refine lv_aload_n hx hb dL_law_1226 rfl (lv_at hl 1 rfl) ?_
  refine law_ld C0 hS hl hi 1 rfl rfl dL_law_1227 dL_law_1228 dL_law_1229 dL_law_1230 dL_law_1231 ?_
  refine law_ld C0 hS hl hi 2 rfl rfl dL_law_1232 dL_law_1233 dL_law_1234 dL_law_1235 dL_law_1236 ?_
  refine law_callX (v := jI r) (avs := [jI (jq_a xs i 1), jI (jq_a xs i 2)]) C0 hR hS hl.1 hcl hsl (ctX10_value h1) ml_RL_149 rfl rfl (by unfold jq_os; simp only [List.forall_mem_cons, List.not_mem_nil, false_implies, implies_true, and_true]; exact ⟨jq_ti_r _, jq_ti_r _⟩) rfl rfl rfl rfl dL_law_1237 (fun H locs hR hS => ?_)
  refine lv_aload_n hx hb dL_law_1240 rfl (lv_at hl 2 rfl) ?_
  refine law_ld C0 hS hl hi 1 rfl rfl dL_law_1241 dL_law_1242 dL_law_1243 dL_law_1244 dL_law_1245 ?_
  refine law_ld C0 hS hl hi 2 rfl rfl dL_law_1246 dL_law_1247 dL_law_1248 dL_law_1249 dL_law_1250 ?_
  refine law_callM (v := jI r) (avs := [jI (jq_a xs i 1), jI (jq_a xs i 2)]) C0 hR hS hl.1 hcl hsl (ctX11_value h2) ml_RL_152 rfl rfl (by unfold jq_os; simp only [List.forall_mem_cons, List.not_mem_nil, false_implies, implies_true, and_true]; exact ⟨jq_ti_r _, jq_ti_r _⟩) rfl rfl rfl rfl dL_law_1251 (fun H locs hR hS => ?_)
  exact lv_icmp_eq (tgt := 2013) hx hb dL_law_1254 (by decide) (fun _ => kk H locs hR hS) (fun q => absurd rfl q)
theorem ml_RL_153 : jq_vl RL 153 yX10_carve cX10_carve 3 (some .boolean) 2 := ⟨jq_in 1136 (by decide +kernel) rfl, yf_X10_carve⟩
theorem ml_RL_157 : jq_vl RL 157 yX11_carve cX11_carve 3 (some .boolean) 2 := ⟨jq_in 2088 (by decide +kernel) rfl, yf_X11_carve⟩
set_option maxHeartbeats 4000000 in
set_option maxRecDepth 100000 in
theorem law_32_0 (C0 : jq_LC p s m meth c b L xs b1 b2 D cs ss1 ss2) (hR : jq_R2 b1 b2 D cs σ1 σ2 H) (hS : va_S (fun q => s.heap.size ≤ q) s.heap H locs) (hl : lv_has ls 4 [(0, .ref b), (1, .ref b1), (2, .ref b2), (3, .int (nI i))]) (hcl : cells ≤ 600000) (hsl : slots ≤ 7302250) (hi : i + 6 ≤ L) (hz0 : Int32.ofInt (jq_a xs i 2) = 0) {r : Int} {σ1' σ2' : jq_M} (h1 : X10_carve (jq_a xs i 1) 0 σ1 = some (r, σ1')) (h2 : X11_carve (jq_a xs i 1) 0 σ2 = some (r, σ2'))
    (kk : ∀ (H1 : Heap) (locs1 : List Loc), jq_R2 b1 b2 D cs σ1' σ2' H1 → va_S (fun q => s.heap.size ≤ q) s.heap H1 locs1 → W p l e room_1 s m #[Value.ref b] below meth c H1 locs1 cells slots Q (F0 m 2013 ls [])) : W p l e room_1 s m #[Value.ref b] below meth c H locs cells slots Q (F0 m 1259 ls []) := by
  have C1 := C0
  obtain ⟨hx, hb, -⟩ := C1
  refine lv_aload_n hx hb dL_law_1259 rfl (lv_at hl 1 rfl) ?_
  refine law_ld C0 hS hl hi 1 rfl rfl dL_law_1260 dL_law_1261 dL_law_1262 dL_law_1263 dL_law_1264 ?_
  refine law_ld C0 hS hl hi 2 rfl rfl dL_law_1265 dL_law_1266 dL_law_1267 dL_law_1268 dL_law_1269 ?_
  refine lv_if_eq (tgt := 1277) hx hb dL_law_1270 (by decide) (fun _ => ?_) (fun q => absurd hz0 q)
  refine lv_iconst hx hb dL_law_1277 (v := Int32.ofInt 0) rfl ?_
  refine law_callX (v := jI r) (avs := [jI (jq_a xs i 1), jI 0]) C0 hR hS hl.1 hcl hsl (ctX10_carve h1) ml_RL_153 rfl rfl (by unfold jq_os; simp only [List.forall_mem_cons, List.not_mem_nil, false_implies, implies_true, and_true]; exact ⟨jq_ti_r _, (by show jq_r _; unfold jq_r; omega)⟩) rfl rfl rfl rfl dL_law_1278 (fun H locs hR hS => ?_)
  refine lv_aload_n hx hb dL_law_1281 rfl (lv_at hl 2 rfl) ?_
  refine law_ld C0 hS hl hi 1 rfl rfl dL_law_1282 dL_law_1283 dL_law_1284 dL_law_1285 dL_law_1286 ?_
  refine law_ld C0 hS hl hi 2 rfl rfl dL_law_1287 dL_law_1288 dL_law_1289 dL_law_1290 dL_law_1291 ?_
  refine lv_if_eq (tgt := 1299) hx hb dL_law_1292 (by decide) (fun _ => ?_) (fun q => absurd hz0 q)
  refine lv_iconst hx hb dL_law_1299 (v := Int32.ofInt 0) rfl ?_
  refine law_callM (v := jI r) (avs := [jI (jq_a xs i 1), jI 0]) C0 hR hS hl.1 hcl hsl (ctX11_carve h2) ml_RL_157 rfl rfl (by unfold jq_os; simp only [List.forall_mem_cons, List.not_mem_nil, false_implies, implies_true, and_true]; exact ⟨jq_ti_r _, (by show jq_r _; unfold jq_r; omega)⟩) rfl rfl rfl rfl dL_law_1300 (fun H locs hR hS => ?_)
  exact lv_icmp_eq (tgt := 2013) hx hb dL_law_1303 (by decide) (fun _ => kk H locs hR hS) (fun q => absurd rfl q)
set_option maxHeartbeats 4000000 in
set_option maxRecDepth 100000 in
theorem law_32_1 (C0 : jq_LC p s m meth c b L xs b1 b2 D cs ss1 ss2) (hR : jq_R2 b1 b2 D cs σ1 σ2 H) (hS : va_S (fun q => s.heap.size ≤ q) s.heap H locs) (hl : lv_has ls 4 [(0, .ref b), (1, .ref b1), (2, .ref b2), (3, .int (nI i))]) (hcl : cells ≤ 600000) (hsl : slots ≤ 7302250) (hi : i + 6 ≤ L) (hz0 : ¬ Int32.ofInt (jq_a xs i 2) = 0) {r : Int} {σ1' σ2' : jq_M} (h1 : X10_carve (jq_a xs i 1) 1 σ1 = some (r, σ1')) (h2 : X11_carve (jq_a xs i 1) 1 σ2 = some (r, σ2'))
    (kk : ∀ (H1 : Heap) (locs1 : List Loc), jq_R2 b1 b2 D cs σ1' σ2' H1 → va_S (fun q => s.heap.size ≤ q) s.heap H1 locs1 → W p l e room_1 s m #[Value.ref b] below meth c H1 locs1 cells slots Q (F0 m 2013 ls [])) : W p l e room_1 s m #[Value.ref b] below meth c H locs cells slots Q (F0 m 1259 ls []) := by
  have C1 := C0
  obtain ⟨hx, hb, -⟩ := C1
  refine lv_aload_n hx hb dL_law_1259 rfl (lv_at hl 1 rfl) ?_
  refine law_ld C0 hS hl hi 1 rfl rfl dL_law_1260 dL_law_1261 dL_law_1262 dL_law_1263 dL_law_1264 ?_
  refine law_ld C0 hS hl hi 2 rfl rfl dL_law_1265 dL_law_1266 dL_law_1267 dL_law_1268 dL_law_1269 ?_
  refine lv_if_eq (tgt := 1277) hx hb dL_law_1270 (by decide) (fun q => absurd q hz0) (fun _ => ?_)
  refine lv_iconst hx hb dL_law_1273 (v := Int32.ofInt 1) rfl ?_
  refine lv_goto (tgt := 1278) hx hb dL_law_1274 (by decide) ?_
  refine law_callX (v := jI r) (avs := [jI (jq_a xs i 1), jI 1]) C0 hR hS hl.1 hcl hsl (ctX10_carve h1) ml_RL_153 rfl rfl (by unfold jq_os; simp only [List.forall_mem_cons, List.not_mem_nil, false_implies, implies_true, and_true]; exact ⟨jq_ti_r _, (by show jq_r _; unfold jq_r; omega)⟩) rfl rfl rfl rfl dL_law_1278 (fun H locs hR hS => ?_)
  refine lv_aload_n hx hb dL_law_1281 rfl (lv_at hl 2 rfl) ?_
  refine law_ld C0 hS hl hi 1 rfl rfl dL_law_1282 dL_law_1283 dL_law_1284 dL_law_1285 dL_law_1286 ?_
  refine law_ld C0 hS hl hi 2 rfl rfl dL_law_1287 dL_law_1288 dL_law_1289 dL_law_1290 dL_law_1291 ?_
  refine lv_if_eq (tgt := 1299) hx hb dL_law_1292 (by decide) (fun q => absurd q hz0) (fun _ => ?_)
  refine lv_iconst hx hb dL_law_1295 (v := Int32.ofInt 1) rfl ?_
  refine lv_goto (tgt := 1300) hx hb dL_law_1296 (by decide) ?_
  refine law_callM (v := jI r) (avs := [jI (jq_a xs i 1), jI 1]) C0 hR hS hl.1 hcl hsl (ctX11_carve h2) ml_RL_157 rfl rfl (by unfold jq_os; simp only [List.forall_mem_cons, List.not_mem_nil, false_implies, implies_true, and_true]; exact ⟨jq_ti_r _, (by show jq_r _; unfold jq_r; omega)⟩) rfl rfl rfl rfl dL_law_1300 (fun H locs hR hS => ?_)
  exact lv_icmp_eq (tgt := 2013) hx hb dL_law_1303 (by decide) (fun _ => kk H locs hR hS) (fun q => absurd rfl q)
theorem ml_RL_158 : jq_vl RL 158 yX10_seatings cX10_seatings 1 (some .int) 0 := ⟨jq_in 1144 (by decide +kernel) rfl, yf_X10_seatings⟩
theorem ml_RL_161 : jq_vl RL 161 yX11_seatings cX11_seatings 3 (some .int) 0 := ⟨jq_in 2092 (by decide +kernel) rfl, yf_X11_seatings⟩
set_option maxHeartbeats 4000000 in
set_option maxRecDepth 100000 in
theorem law_33 (C0 : jq_LC p s m meth c b L xs b1 b2 D cs ss1 ss2) (hR : jq_R2 b1 b2 D cs σ1 σ2 H) (hS : va_S (fun q => s.heap.size ≤ q) s.heap H locs) (hl : lv_has ls 4 [(0, .ref b), (1, .ref b1), (2, .ref b2), (3, .int (nI i))]) (hcl : cells ≤ 600000) (hsl : slots ≤ 7302250) (hi : i + 6 ≤ L) {r : Int} {σ1' σ2' : jq_M} (h1 : X10_seatings σ1 = some (r, σ1')) (h2 : X11_seatings σ2 = some (r, σ2'))
    (kk : ∀ (H1 : Heap) (locs1 : List Loc), jq_R2 b1 b2 D cs σ1' σ2' H1 → va_S (fun q => s.heap.size ≤ q) s.heap H1 locs1 → W p l e room_1 s m #[Value.ref b] below meth c H1 locs1 cells slots Q (F0 m 2013 ls [])) : W p l e room_1 s m #[Value.ref b] below meth c H locs cells slots Q (F0 m 1308 ls []) := by
  have C1 := C0
  obtain ⟨hx, hb, -⟩ := C1
  refine lv_aload_n hx hb dL_law_1308 rfl (lv_at hl 1 rfl) ?_
  refine law_callX (v := jI r) (avs := []) C0 hR hS hl.1 hcl hsl (ctX10_seatings h1) ml_RL_158 rfl rfl (fun v hv => by cases hv) rfl rfl rfl rfl dL_law_1309 (fun H locs hR hS => ?_)
  refine lv_aload_n hx hb dL_law_1312 rfl (lv_at hl 2 rfl) ?_
  refine law_callM (v := jI r) (avs := []) C0 hR hS hl.1 hcl hsl (ctX11_seatings h2) ml_RL_161 rfl rfl (fun v hv => by cases hv) rfl rfl rfl rfl dL_law_1313 (fun H locs hR hS => ?_)
  exact lv_icmp_eq (tgt := 2013) hx hb dL_law_1316 (by decide) (fun _ => kk H locs hR hS) (fun q => absurd rfl q)
theorem ml_RL_162 : jq_vl RL 162 yX10_good cX10_good 1 (some .int) 0 := ⟨jq_in 1152 (by decide +kernel) rfl, yf_X10_good⟩
theorem ml_RL_165 : jq_vl RL 165 yX11_good cX11_good 3 (some .int) 0 := ⟨jq_in 2104 (by decide +kernel) rfl, yf_X11_good⟩
set_option maxHeartbeats 4000000 in
set_option maxRecDepth 100000 in
theorem law_34 (C0 : jq_LC p s m meth c b L xs b1 b2 D cs ss1 ss2) (hR : jq_R2 b1 b2 D cs σ1 σ2 H) (hS : va_S (fun q => s.heap.size ≤ q) s.heap H locs) (hl : lv_has ls 4 [(0, .ref b), (1, .ref b1), (2, .ref b2), (3, .int (nI i))]) (hcl : cells ≤ 600000) (hsl : slots ≤ 7302250) (hi : i + 6 ≤ L) {r : Int} {σ1' σ2' : jq_M} (h1 : X10_good σ1 = some (r, σ1')) (h2 : X11_good σ2 = some (r, σ2'))
    (kk : ∀ (H1 : Heap) (locs1 : List Loc), jq_R2 b1 b2 D cs σ1' σ2' H1 → va_S (fun q => s.heap.size ≤ q) s.heap H1 locs1 → W p l e room_1 s m #[Value.ref b] below meth c H1 locs1 cells slots Q (F0 m 2013 ls [])) : W p l e room_1 s m #[Value.ref b] below meth c H locs cells slots Q (F0 m 1321 ls []) := by
  have C1 := C0
  obtain ⟨hx, hb, -⟩ := C1
  refine lv_aload_n hx hb dL_law_1321 rfl (lv_at hl 1 rfl) ?_
  refine law_callX (v := jI r) (avs := []) C0 hR hS hl.1 hcl hsl (ctX10_good h1) ml_RL_162 rfl rfl (fun v hv => by cases hv) rfl rfl rfl rfl dL_law_1322 (fun H locs hR hS => ?_)
  refine lv_aload_n hx hb dL_law_1325 rfl (lv_at hl 2 rfl) ?_
  refine law_callM (v := jI r) (avs := []) C0 hR hS hl.1 hcl hsl (ctX11_good h2) ml_RL_165 rfl rfl (fun v hv => by cases hv) rfl rfl rfl rfl dL_law_1326 (fun H locs hR hS => ?_)
  exact lv_icmp_eq (tgt := 2013) hx hb dL_law_1329 (by decide) (fun _ => kk H locs hR hS) (fun q => absurd rfl q)
theorem ml_RL_166 : jq_vl RL 166 yX10_classes cX10_classes 1 (some .int) 0 := ⟨jq_in 1186 (by decide +kernel) rfl, yf_X10_classes⟩
theorem ml_RL_169 : jq_vl RL 169 yX11_classes cX11_classes 3 (some .int) 0 := ⟨jq_in 2116 (by decide +kernel) rfl, yf_X11_classes⟩
set_option maxHeartbeats 4000000 in
set_option maxRecDepth 100000 in
theorem law_35 (C0 : jq_LC p s m meth c b L xs b1 b2 D cs ss1 ss2) (hR : jq_R2 b1 b2 D cs σ1 σ2 H) (hS : va_S (fun q => s.heap.size ≤ q) s.heap H locs) (hl : lv_has ls 4 [(0, .ref b), (1, .ref b1), (2, .ref b2), (3, .int (nI i))]) (hcl : cells ≤ 600000) (hsl : slots ≤ 7302250) (hi : i + 6 ≤ L) {r : Int} {σ1' σ2' : jq_M} (h1 : X10_classes σ1 = some (r, σ1')) (h2 : X11_classes σ2 = some (r, σ2'))
    (kk : ∀ (H1 : Heap) (locs1 : List Loc), jq_R2 b1 b2 D cs σ1' σ2' H1 → va_S (fun q => s.heap.size ≤ q) s.heap H1 locs1 → W p l e room_1 s m #[Value.ref b] below meth c H1 locs1 cells slots Q (F0 m 2013 ls [])) : W p l e room_1 s m #[Value.ref b] below meth c H locs cells slots Q (F0 m 1334 ls []) := by
  have C1 := C0
  obtain ⟨hx, hb, -⟩ := C1
  refine lv_aload_n hx hb dL_law_1334 rfl (lv_at hl 1 rfl) ?_
  refine law_callX (v := jI r) (avs := []) C0 hR hS hl.1 hcl hsl (ctX10_classes h1) ml_RL_166 rfl rfl (fun v hv => by cases hv) rfl rfl rfl rfl dL_law_1335 (fun H locs hR hS => ?_)
  refine lv_aload_n hx hb dL_law_1338 rfl (lv_at hl 2 rfl) ?_
  refine law_callM (v := jI r) (avs := []) C0 hR hS hl.1 hcl hsl (ctX11_classes h2) ml_RL_169 rfl rfl (fun v hv => by cases hv) rfl rfl rfl rfl dL_law_1339 (fun H locs hR hS => ?_)
  exact lv_icmp_eq (tgt := 2013) hx hb dL_law_1342 (by decide) (fun _ => kk H locs hR hS) (fun q => absurd rfl q)
theorem ml_RL_170 : jq_vl RL 170 yX10_goodAt cX10_goodAt 2 (some .int) 1 := ⟨jq_in 1207 (by decide +kernel) rfl, yf_X10_goodAt⟩
theorem ml_RL_173 : jq_vl RL 173 yX11_goodAt cX11_goodAt 2 (some .int) 1 := ⟨jq_in 2132 (by decide +kernel) rfl, yf_X11_goodAt⟩
set_option maxHeartbeats 4000000 in
set_option maxRecDepth 100000 in
theorem law_36 (C0 : jq_LC p s m meth c b L xs b1 b2 D cs ss1 ss2) (hR : jq_R2 b1 b2 D cs σ1 σ2 H) (hS : va_S (fun q => s.heap.size ≤ q) s.heap H locs) (hl : lv_has ls 4 [(0, .ref b), (1, .ref b1), (2, .ref b2), (3, .int (nI i))]) (hcl : cells ≤ 600000) (hsl : slots ≤ 7302250) (hi : i + 6 ≤ L) {r : Int} {σ1' σ2' : jq_M} (h1 : X10_goodAt (jq_a xs i 1) σ1 = some (r, σ1')) (h2 : X11_goodAt (jq_a xs i 1) σ2 = some (r, σ2'))
    (kk : ∀ (H1 : Heap) (locs1 : List Loc), jq_R2 b1 b2 D cs σ1' σ2' H1 → va_S (fun q => s.heap.size ≤ q) s.heap H1 locs1 → W p l e room_1 s m #[Value.ref b] below meth c H1 locs1 cells slots Q (F0 m 2013 ls [])) : W p l e room_1 s m #[Value.ref b] below meth c H locs cells slots Q (F0 m 1347 ls []) := by
  have C1 := C0
  obtain ⟨hx, hb, -⟩ := C1
  refine lv_aload_n hx hb dL_law_1347 rfl (lv_at hl 1 rfl) ?_
  refine law_ld C0 hS hl hi 1 rfl rfl dL_law_1348 dL_law_1349 dL_law_1350 dL_law_1351 dL_law_1352 ?_
  refine law_callX (v := jI r) (avs := [jI (jq_a xs i 1)]) C0 hR hS hl.1 hcl hsl (ctX10_goodAt h1) ml_RL_170 rfl rfl (by unfold jq_os; simp only [List.forall_mem_cons, List.not_mem_nil, false_implies, implies_true, and_true]; exact jq_ti_r _) rfl rfl rfl rfl dL_law_1353 (fun H locs hR hS => ?_)
  refine lv_aload_n hx hb dL_law_1356 rfl (lv_at hl 2 rfl) ?_
  refine law_ld C0 hS hl hi 1 rfl rfl dL_law_1357 dL_law_1358 dL_law_1359 dL_law_1360 dL_law_1361 ?_
  refine law_callM (v := jI r) (avs := [jI (jq_a xs i 1)]) C0 hR hS hl.1 hcl hsl (ctX11_goodAt h2) ml_RL_173 rfl rfl (by unfold jq_os; simp only [List.forall_mem_cons, List.not_mem_nil, false_implies, implies_true, and_true]; exact jq_ti_r _) rfl rfl rfl rfl dL_law_1362 (fun H locs hR hS => ?_)
  exact lv_icmp_eq (tgt := 2013) hx hb dL_law_1365 (by decide) (fun _ => kk H locs hR hS) (fun q => absurd rfl q)
theorem ml_RL_174 : jq_vl RL 174 yX10_best cX10_best 1 (some .int) 0 := ⟨jq_in 1215 (by decide +kernel) rfl, yf_X10_best⟩
theorem ml_RL_177 : jq_vl RL 177 yX11_best cX11_best 1 (some .int) 0 := ⟨jq_in 2140 (by decide +kernel) rfl, yf_X11_best⟩
set_option maxHeartbeats 4000000 in
set_option maxRecDepth 100000 in
theorem law_37 (C0 : jq_LC p s m meth c b L xs b1 b2 D cs ss1 ss2) (hR : jq_R2 b1 b2 D cs σ1 σ2 H) (hS : va_S (fun q => s.heap.size ≤ q) s.heap H locs) (hl : lv_has ls 4 [(0, .ref b), (1, .ref b1), (2, .ref b2), (3, .int (nI i))]) (hcl : cells ≤ 600000) (hsl : slots ≤ 7302250) (hi : i + 6 ≤ L) {r : Int} {σ1' σ2' : jq_M} (h1 : X10_best σ1 = some (r, σ1')) (h2 : X11_best σ2 = some (r, σ2'))
    (kk : ∀ (H1 : Heap) (locs1 : List Loc), jq_R2 b1 b2 D cs σ1' σ2' H1 → va_S (fun q => s.heap.size ≤ q) s.heap H1 locs1 → W p l e room_1 s m #[Value.ref b] below meth c H1 locs1 cells slots Q (F0 m 2013 ls [])) : W p l e room_1 s m #[Value.ref b] below meth c H locs cells slots Q (F0 m 1370 ls []) := by
  have C1 := C0
  obtain ⟨hx, hb, -⟩ := C1
  refine lv_aload_n hx hb dL_law_1370 rfl (lv_at hl 1 rfl) ?_
  refine law_callX (v := jI r) (avs := []) C0 hR hS hl.1 hcl hsl (ctX10_best h1) ml_RL_174 rfl rfl (fun v hv => by cases hv) rfl rfl rfl rfl dL_law_1371 (fun H locs hR hS => ?_)
  refine lv_aload_n hx hb dL_law_1374 rfl (lv_at hl 2 rfl) ?_
  refine law_callM (v := jI r) (avs := []) C0 hR hS hl.1 hcl hsl (ctX11_best h2) ml_RL_177 rfl rfl (fun v hv => by cases hv) rfl rfl rfl rfl dL_law_1375 (fun H locs hR hS => ?_)
  exact lv_icmp_eq (tgt := 2013) hx hb dL_law_1378 (by decide) (fun _ => kk H locs hR hS) (fun q => absurd rfl q)
theorem ml_RL_178 : jq_vl RL 178 yX10_bestAt cX10_bestAt 2 (some .int) 1 := ⟨jq_in 1225 (by decide +kernel) rfl, yf_X10_bestAt⟩
theorem ml_RL_181 : jq_vl RL 181 yX11_bestAt cX11_bestAt 2 (some .int) 1 := ⟨jq_in 2148 (by decide +kernel) rfl, yf_X11_bestAt⟩
set_option maxHeartbeats 4000000 in
set_option maxRecDepth 100000 in
theorem law_38 (C0 : jq_LC p s m meth c b L xs b1 b2 D cs ss1 ss2) (hR : jq_R2 b1 b2 D cs σ1 σ2 H) (hS : va_S (fun q => s.heap.size ≤ q) s.heap H locs) (hl : lv_has ls 4 [(0, .ref b), (1, .ref b1), (2, .ref b2), (3, .int (nI i))]) (hcl : cells ≤ 600000) (hsl : slots ≤ 7302250) (hi : i + 6 ≤ L) {r : Int} {σ1' σ2' : jq_M} (h1 : X10_bestAt (jq_a xs i 1) σ1 = some (r, σ1')) (h2 : X11_bestAt (jq_a xs i 1) σ2 = some (r, σ2'))
    (kk : ∀ (H1 : Heap) (locs1 : List Loc), jq_R2 b1 b2 D cs σ1' σ2' H1 → va_S (fun q => s.heap.size ≤ q) s.heap H1 locs1 → W p l e room_1 s m #[Value.ref b] below meth c H1 locs1 cells slots Q (F0 m 2013 ls [])) : W p l e room_1 s m #[Value.ref b] below meth c H locs cells slots Q (F0 m 1383 ls []) := by
  have C1 := C0
  obtain ⟨hx, hb, -⟩ := C1
  refine lv_aload_n hx hb dL_law_1383 rfl (lv_at hl 1 rfl) ?_
  refine law_ld C0 hS hl hi 1 rfl rfl dL_law_1384 dL_law_1385 dL_law_1386 dL_law_1387 dL_law_1388 ?_
  refine law_callX (v := jI r) (avs := [jI (jq_a xs i 1)]) C0 hR hS hl.1 hcl hsl (ctX10_bestAt h1) ml_RL_178 rfl rfl (by unfold jq_os; simp only [List.forall_mem_cons, List.not_mem_nil, false_implies, implies_true, and_true]; exact jq_ti_r _) rfl rfl rfl rfl dL_law_1389 (fun H locs hR hS => ?_)
  refine lv_aload_n hx hb dL_law_1392 rfl (lv_at hl 2 rfl) ?_
  refine law_ld C0 hS hl hi 1 rfl rfl dL_law_1393 dL_law_1394 dL_law_1395 dL_law_1396 dL_law_1397 ?_
  refine law_callM (v := jI r) (avs := [jI (jq_a xs i 1)]) C0 hR hS hl.1 hcl hsl (ctX11_bestAt h2) ml_RL_181 rfl rfl (by unfold jq_os; simp only [List.forall_mem_cons, List.not_mem_nil, false_implies, implies_true, and_true]; exact jq_ti_r _) rfl rfl rfl rfl dL_law_1398 (fun H locs hR hS => ?_)
  exact lv_icmp_eq (tgt := 2013) hx hb dL_law_1401 (by decide) (fun _ => kk H locs hR hS) (fun q => absurd rfl q)
theorem ml_RL_182 : jq_vl RL 182 yX10_mostSign cX10_mostSign 1 (some .int) 0 := ⟨jq_in 1229 (by decide +kernel) rfl, yf_X10_mostSign⟩
theorem ml_RL_185 : jq_vl RL 185 yX11_mostSign cX11_mostSign 3 (some .int) 0 := ⟨jq_in 2152 (by decide +kernel) rfl, yf_X11_mostSign⟩
set_option maxHeartbeats 4000000 in
set_option maxRecDepth 100000 in
theorem law_39 (C0 : jq_LC p s m meth c b L xs b1 b2 D cs ss1 ss2) (hR : jq_R2 b1 b2 D cs σ1 σ2 H) (hS : va_S (fun q => s.heap.size ≤ q) s.heap H locs) (hl : lv_has ls 4 [(0, .ref b), (1, .ref b1), (2, .ref b2), (3, .int (nI i))]) (hcl : cells ≤ 600000) (hsl : slots ≤ 7302250) (hi : i + 6 ≤ L) {r : Int} {σ1' σ2' : jq_M} (h1 : X10_mostSign σ1 = some (r, σ1')) (h2 : X11_mostSign σ2 = some (r, σ2'))
    (kk : ∀ (H1 : Heap) (locs1 : List Loc), jq_R2 b1 b2 D cs σ1' σ2' H1 → va_S (fun q => s.heap.size ≤ q) s.heap H1 locs1 → W p l e room_1 s m #[Value.ref b] below meth c H1 locs1 cells slots Q (F0 m 2013 ls [])) : W p l e room_1 s m #[Value.ref b] below meth c H locs cells slots Q (F0 m 1406 ls []) := by
  have C1 := C0
  obtain ⟨hx, hb, -⟩ := C1
  refine lv_aload_n hx hb dL_law_1406 rfl (lv_at hl 1 rfl) ?_
  refine law_callX (v := jI r) (avs := []) C0 hR hS hl.1 hcl hsl (ctX10_mostSign h1) ml_RL_182 rfl rfl (fun v hv => by cases hv) rfl rfl rfl rfl dL_law_1407 (fun H locs hR hS => ?_)
  refine lv_aload_n hx hb dL_law_1410 rfl (lv_at hl 2 rfl) ?_
  refine law_callM (v := jI r) (avs := []) C0 hR hS hl.1 hcl hsl (ctX11_mostSign h2) ml_RL_185 rfl rfl (fun v hv => by cases hv) rfl rfl rfl rfl dL_law_1411 (fun H locs hR hS => ?_)
  exact lv_icmp_eq (tgt := 2013) hx hb dL_law_1414 (by decide) (fun _ => kk H locs hR hS) (fun q => absurd rfl q)
theorem ml_RL_186 : jq_vl RL 186 yX10_quarrel cX10_quarrel 1 (some .int) 0 := ⟨jq_in 1240 (by decide +kernel) rfl, yf_X10_quarrel⟩
theorem ml_RL_189 : jq_vl RL 189 yX11_quarrel cX11_quarrel 3 (some .int) 0 := ⟨jq_in 2157 (by decide +kernel) rfl, yf_X11_quarrel⟩
set_option maxHeartbeats 4000000 in
set_option maxRecDepth 100000 in
theorem law_40 (C0 : jq_LC p s m meth c b L xs b1 b2 D cs ss1 ss2) (hR : jq_R2 b1 b2 D cs σ1 σ2 H) (hS : va_S (fun q => s.heap.size ≤ q) s.heap H locs) (hl : lv_has ls 4 [(0, .ref b), (1, .ref b1), (2, .ref b2), (3, .int (nI i))]) (hcl : cells ≤ 600000) (hsl : slots ≤ 7302250) (hi : i + 6 ≤ L) {r : Int} {σ1' σ2' : jq_M} (h1 : X10_quarrel σ1 = some (r, σ1')) (h2 : X11_quarrel σ2 = some (r, σ2'))
    (kk : ∀ (H1 : Heap) (locs1 : List Loc), jq_R2 b1 b2 D cs σ1' σ2' H1 → va_S (fun q => s.heap.size ≤ q) s.heap H1 locs1 → W p l e room_1 s m #[Value.ref b] below meth c H1 locs1 cells slots Q (F0 m 2013 ls [])) : W p l e room_1 s m #[Value.ref b] below meth c H locs cells slots Q (F0 m 1419 ls []) := by
  have C1 := C0
  obtain ⟨hx, hb, -⟩ := C1
  refine lv_aload_n hx hb dL_law_1419 rfl (lv_at hl 1 rfl) ?_
  refine law_callX (v := jI r) (avs := []) C0 hR hS hl.1 hcl hsl (ctX10_quarrel h1) ml_RL_186 rfl rfl (fun v hv => by cases hv) rfl rfl rfl rfl dL_law_1420 (fun H locs hR hS => ?_)
  refine lv_aload_n hx hb dL_law_1423 rfl (lv_at hl 2 rfl) ?_
  refine law_callM (v := jI r) (avs := []) C0 hR hS hl.1 hcl hsl (ctX11_quarrel h2) ml_RL_189 rfl rfl (fun v hv => by cases hv) rfl rfl rfl rfl dL_law_1424 (fun H locs hR hS => ?_)
  exact lv_icmp_eq (tgt := 2013) hx hb dL_law_1427 (by decide) (fun _ => kk H locs hR hS) (fun q => absurd rfl q)
theorem ml_RL_190 : jq_vl RL 190 yX10_pleased cX10_pleased 2 (some .int) 1 := ⟨jq_in 1250 (by decide +kernel) rfl, yf_X10_pleased⟩
theorem ml_RL_193 : jq_vl RL 193 yX11_pleased cX11_pleased 2 (some .int) 1 := ⟨jq_in 2165 (by decide +kernel) rfl, yf_X11_pleased⟩
set_option maxHeartbeats 4000000 in
set_option maxRecDepth 100000 in
theorem law_41 (C0 : jq_LC p s m meth c b L xs b1 b2 D cs ss1 ss2) (hR : jq_R2 b1 b2 D cs σ1 σ2 H) (hS : va_S (fun q => s.heap.size ≤ q) s.heap H locs) (hl : lv_has ls 4 [(0, .ref b), (1, .ref b1), (2, .ref b2), (3, .int (nI i))]) (hcl : cells ≤ 600000) (hsl : slots ≤ 7302250) (hi : i + 6 ≤ L) {r : Int} {σ1' σ2' : jq_M} (h1 : X10_pleased (jq_a xs i 1) σ1 = some (r, σ1')) (h2 : X11_pleased (jq_a xs i 1) σ2 = some (r, σ2'))
    (kk : ∀ (H1 : Heap) (locs1 : List Loc), jq_R2 b1 b2 D cs σ1' σ2' H1 → va_S (fun q => s.heap.size ≤ q) s.heap H1 locs1 → W p l e room_1 s m #[Value.ref b] below meth c H1 locs1 cells slots Q (F0 m 2013 ls [])) : W p l e room_1 s m #[Value.ref b] below meth c H locs cells slots Q (F0 m 1432 ls []) := by
  have C1 := C0
  obtain ⟨hx, hb, -⟩ := C1
  refine lv_aload_n hx hb dL_law_1432 rfl (lv_at hl 1 rfl) ?_
  refine law_ld C0 hS hl hi 1 rfl rfl dL_law_1433 dL_law_1434 dL_law_1435 dL_law_1436 dL_law_1437 ?_
  refine law_callX (v := jI r) (avs := [jI (jq_a xs i 1)]) C0 hR hS hl.1 hcl hsl (ctX10_pleased h1) ml_RL_190 rfl rfl (by unfold jq_os; simp only [List.forall_mem_cons, List.not_mem_nil, false_implies, implies_true, and_true]; exact jq_ti_r _) rfl rfl rfl rfl dL_law_1438 (fun H locs hR hS => ?_)
  refine lv_aload_n hx hb dL_law_1441 rfl (lv_at hl 2 rfl) ?_
  refine law_ld C0 hS hl hi 1 rfl rfl dL_law_1442 dL_law_1443 dL_law_1444 dL_law_1445 dL_law_1446 ?_
  refine law_callM (v := jI r) (avs := [jI (jq_a xs i 1)]) C0 hR hS hl.1 hcl hsl (ctX11_pleased h2) ml_RL_193 rfl rfl (by unfold jq_os; simp only [List.forall_mem_cons, List.not_mem_nil, false_implies, implies_true, and_true]; exact jq_ti_r _) rfl rfl rfl rfl dL_law_1447 (fun H locs hR hS => ?_)
  exact lv_icmp_eq (tgt := 2013) hx hb dL_law_1450 (by decide) (fun _ => kk H locs hR hS) (fun q => absurd rfl q)
theorem ml_RL_194 : jq_vl RL 194 yX10_mostFor cX10_mostFor 2 (some .int) 1 := ⟨jq_in 1256 (by decide +kernel) rfl, yf_X10_mostFor⟩
theorem ml_RL_197 : jq_vl RL 197 yX11_mostFor cX11_mostFor 4 (some .int) 1 := ⟨jq_in 2169 (by decide +kernel) rfl, yf_X11_mostFor⟩
set_option maxHeartbeats 4000000 in
set_option maxRecDepth 100000 in
theorem law_42 (C0 : jq_LC p s m meth c b L xs b1 b2 D cs ss1 ss2) (hR : jq_R2 b1 b2 D cs σ1 σ2 H) (hS : va_S (fun q => s.heap.size ≤ q) s.heap H locs) (hl : lv_has ls 4 [(0, .ref b), (1, .ref b1), (2, .ref b2), (3, .int (nI i))]) (hcl : cells ≤ 600000) (hsl : slots ≤ 7302250) (hi : i + 6 ≤ L) {r : Int} {σ1' σ2' : jq_M} (h1 : X10_mostFor (jq_a xs i 1) σ1 = some (r, σ1')) (h2 : X11_mostFor (jq_a xs i 1) σ2 = some (r, σ2'))
    (kk : ∀ (H1 : Heap) (locs1 : List Loc), jq_R2 b1 b2 D cs σ1' σ2' H1 → va_S (fun q => s.heap.size ≤ q) s.heap H1 locs1 → W p l e room_1 s m #[Value.ref b] below meth c H1 locs1 cells slots Q (F0 m 2013 ls [])) : W p l e room_1 s m #[Value.ref b] below meth c H locs cells slots Q (F0 m 1455 ls []) := by
  have C1 := C0
  obtain ⟨hx, hb, -⟩ := C1
  refine lv_aload_n hx hb dL_law_1455 rfl (lv_at hl 1 rfl) ?_
  refine law_ld C0 hS hl hi 1 rfl rfl dL_law_1456 dL_law_1457 dL_law_1458 dL_law_1459 dL_law_1460 ?_
  refine law_callX (v := jI r) (avs := [jI (jq_a xs i 1)]) C0 hR hS hl.1 hcl hsl (ctX10_mostFor h1) ml_RL_194 rfl rfl (by unfold jq_os; simp only [List.forall_mem_cons, List.not_mem_nil, false_implies, implies_true, and_true]; exact jq_ti_r _) rfl rfl rfl rfl dL_law_1461 (fun H locs hR hS => ?_)
  refine lv_aload_n hx hb dL_law_1464 rfl (lv_at hl 2 rfl) ?_
  refine law_ld C0 hS hl hi 1 rfl rfl dL_law_1465 dL_law_1466 dL_law_1467 dL_law_1468 dL_law_1469 ?_
  refine law_callM (v := jI r) (avs := [jI (jq_a xs i 1)]) C0 hR hS hl.1 hcl hsl (ctX11_mostFor h2) ml_RL_197 rfl rfl (by unfold jq_os; simp only [List.forall_mem_cons, List.not_mem_nil, false_implies, implies_true, and_true]; exact jq_ti_r _) rfl rfl rfl rfl dL_law_1470 (fun H locs hR hS => ?_)
  exact lv_icmp_eq (tgt := 2013) hx hb dL_law_1473 (by decide) (fun _ => kk H locs hR hS) (fun q => absurd rfl q)
theorem ml_RL_198 : jq_vl RL 198 yX10_signsIn cX10_signsIn 2 (some .int) 1 := ⟨jq_in 1265 (by decide +kernel) rfl, yf_X10_signsIn⟩
theorem ml_RL_201 : jq_vl RL 201 yX11_signsIn cX11_signsIn 4 (some .int) 1 := ⟨jq_in 2174 (by decide +kernel) rfl, yf_X11_signsIn⟩
set_option maxHeartbeats 4000000 in
set_option maxRecDepth 100000 in
theorem law_43 (C0 : jq_LC p s m meth c b L xs b1 b2 D cs ss1 ss2) (hR : jq_R2 b1 b2 D cs σ1 σ2 H) (hS : va_S (fun q => s.heap.size ≤ q) s.heap H locs) (hl : lv_has ls 4 [(0, .ref b), (1, .ref b1), (2, .ref b2), (3, .int (nI i))]) (hcl : cells ≤ 600000) (hsl : slots ≤ 7302250) (hi : i + 6 ≤ L) {r : Int} {σ1' σ2' : jq_M} (h1 : X10_signsIn (jq_a xs i 1) σ1 = some (r, σ1')) (h2 : X11_signsIn (jq_a xs i 1) σ2 = some (r, σ2'))
    (kk : ∀ (H1 : Heap) (locs1 : List Loc), jq_R2 b1 b2 D cs σ1' σ2' H1 → va_S (fun q => s.heap.size ≤ q) s.heap H1 locs1 → W p l e room_1 s m #[Value.ref b] below meth c H1 locs1 cells slots Q (F0 m 2013 ls [])) : W p l e room_1 s m #[Value.ref b] below meth c H locs cells slots Q (F0 m 1478 ls []) := by
  have C1 := C0
  obtain ⟨hx, hb, -⟩ := C1
  refine lv_aload_n hx hb dL_law_1478 rfl (lv_at hl 1 rfl) ?_
  refine law_ld C0 hS hl hi 1 rfl rfl dL_law_1479 dL_law_1480 dL_law_1481 dL_law_1482 dL_law_1483 ?_
  refine law_callX (v := jI r) (avs := [jI (jq_a xs i 1)]) C0 hR hS hl.1 hcl hsl (ctX10_signsIn h1) ml_RL_198 rfl rfl (by unfold jq_os; simp only [List.forall_mem_cons, List.not_mem_nil, false_implies, implies_true, and_true]; exact jq_ti_r _) rfl rfl rfl rfl dL_law_1484 (fun H locs hR hS => ?_)
  refine lv_aload_n hx hb dL_law_1487 rfl (lv_at hl 2 rfl) ?_
  refine law_ld C0 hS hl hi 1 rfl rfl dL_law_1488 dL_law_1489 dL_law_1490 dL_law_1491 dL_law_1492 ?_
  refine law_callM (v := jI r) (avs := [jI (jq_a xs i 1)]) C0 hR hS hl.1 hcl hsl (ctX11_signsIn h2) ml_RL_201 rfl rfl (by unfold jq_os; simp only [List.forall_mem_cons, List.not_mem_nil, false_implies, implies_true, and_true]; exact jq_ti_r _) rfl rfl rfl rfl dL_law_1493 (fun H locs hR hS => ?_)
  exact lv_icmp_eq (tgt := 2013) hx hb dL_law_1496 (by decide) (fun _ => kk H locs hR hS) (fun q => absurd rfl q)
theorem ml_RL_202 : jq_vl RL 202 yX10_seatBest cX10_seatBest 2 (some .int) 0 := ⟨jq_in 1274 (by decide +kernel) rfl, yf_X10_seatBest⟩
theorem ml_RL_205 : jq_vl RL 205 yX11_seatBest cX11_seatBest 2 (some .int) 0 := ⟨jq_in 2178 (by decide +kernel) rfl, yf_X11_seatBest⟩
set_option maxHeartbeats 4000000 in
set_option maxRecDepth 100000 in
theorem law_44 (C0 : jq_LC p s m meth c b L xs b1 b2 D cs ss1 ss2) (hR : jq_R2 b1 b2 D cs σ1 σ2 H) (hS : va_S (fun q => s.heap.size ≤ q) s.heap H locs) (hl : lv_has ls 4 [(0, .ref b), (1, .ref b1), (2, .ref b2), (3, .int (nI i))]) (hcl : cells ≤ 600000) (hsl : slots ≤ 7302250) (hi : i + 6 ≤ L) {r : Int} {σ1' σ2' : jq_M} (h1 : X10_seatBest σ1 = some (r, σ1')) (h2 : X11_seatBest σ2 = some (r, σ2'))
    (kk : ∀ (H1 : Heap) (locs1 : List Loc), jq_R2 b1 b2 D cs σ1' σ2' H1 → va_S (fun q => s.heap.size ≤ q) s.heap H1 locs1 → W p l e room_1 s m #[Value.ref b] below meth c H1 locs1 cells slots Q (F0 m 2013 ls [])) : W p l e room_1 s m #[Value.ref b] below meth c H locs cells slots Q (F0 m 1501 ls []) := by
  have C1 := C0
  obtain ⟨hx, hb, -⟩ := C1
  refine lv_aload_n hx hb dL_law_1501 rfl (lv_at hl 1 rfl) ?_
  refine law_callX (v := jI r) (avs := []) C0 hR hS hl.1 hcl hsl (ctX10_seatBest h1) ml_RL_202 rfl rfl (fun v hv => by cases hv) rfl rfl rfl rfl dL_law_1502 (fun H locs hR hS => ?_)
  refine lv_aload_n hx hb dL_law_1505 rfl (lv_at hl 2 rfl) ?_
  refine law_callM (v := jI r) (avs := []) C0 hR hS hl.1 hcl hsl (ctX11_seatBest h2) ml_RL_205 rfl rfl (fun v hv => by cases hv) rfl rfl rfl rfl dL_law_1506 (fun H locs hR hS => ?_)
  exact lv_icmp_eq (tgt := 2013) hx hb dL_law_1509 (by decide) (fun _ => kk H locs hR hS) (fun q => absurd rfl q)
theorem ml_RL_206 : jq_vl RL 206 yX10_fish cX10_fish 1 (some .int) 0 := ⟨jq_in 1278 (by decide +kernel) rfl, yf_X10_fish⟩
theorem ml_RL_209 : jq_vl RL 209 yX11_fish cX11_fish 1 (some .int) 0 := ⟨jq_in 2182 (by decide +kernel) rfl, yf_X11_fish⟩
set_option maxHeartbeats 4000000 in
set_option maxRecDepth 100000 in
theorem law_45 (C0 : jq_LC p s m meth c b L xs b1 b2 D cs ss1 ss2) (hR : jq_R2 b1 b2 D cs σ1 σ2 H) (hS : va_S (fun q => s.heap.size ≤ q) s.heap H locs) (hl : lv_has ls 4 [(0, .ref b), (1, .ref b1), (2, .ref b2), (3, .int (nI i))]) (hcl : cells ≤ 600000) (hsl : slots ≤ 7302250) (hi : i + 6 ≤ L) {r : Int} {σ1' σ2' : jq_M} (h1 : X10_fish σ1 = some (r, σ1')) (h2 : X11_fish σ2 = some (r, σ2'))
    (kk : ∀ (H1 : Heap) (locs1 : List Loc), jq_R2 b1 b2 D cs σ1' σ2' H1 → va_S (fun q => s.heap.size ≤ q) s.heap H1 locs1 → W p l e room_1 s m #[Value.ref b] below meth c H1 locs1 cells slots Q (F0 m 2013 ls [])) : W p l e room_1 s m #[Value.ref b] below meth c H locs cells slots Q (F0 m 1514 ls []) := by
  have C1 := C0
  obtain ⟨hx, hb, -⟩ := C1
  refine lv_aload_n hx hb dL_law_1514 rfl (lv_at hl 1 rfl) ?_
  refine law_callX (v := jI r) (avs := []) C0 hR hS hl.1 hcl hsl (ctX10_fish h1) ml_RL_206 rfl rfl (fun v hv => by cases hv) rfl rfl rfl rfl dL_law_1515 (fun H locs hR hS => ?_)
  refine lv_aload_n hx hb dL_law_1518 rfl (lv_at hl 2 rfl) ?_
  refine law_callM (v := jI r) (avs := []) C0 hR hS hl.1 hcl hsl (ctX11_fish h2) ml_RL_209 rfl rfl (fun v hv => by cases hv) rfl rfl rfl rfl dL_law_1519 (fun H locs hR hS => ?_)
  exact lv_icmp_eq (tgt := 2013) hx hb dL_law_1522 (by decide) (fun _ => kk H locs hR hS) (fun q => absurd rfl q)
theorem ml_RL_210 : jq_vl RL 210 yX10_leastFish cX10_leastFish 1 (some .int) 0 := ⟨jq_in 1287 (by decide +kernel) rfl, yf_X10_leastFish⟩
theorem ml_RL_213 : jq_vl RL 213 yX11_leastFish cX11_leastFish 3 (some .int) 0 := ⟨jq_in 2190 (by decide +kernel) rfl, yf_X11_leastFish⟩
set_option maxHeartbeats 4000000 in
set_option maxRecDepth 100000 in
theorem law_46 (C0 : jq_LC p s m meth c b L xs b1 b2 D cs ss1 ss2) (hR : jq_R2 b1 b2 D cs σ1 σ2 H) (hS : va_S (fun q => s.heap.size ≤ q) s.heap H locs) (hl : lv_has ls 4 [(0, .ref b), (1, .ref b1), (2, .ref b2), (3, .int (nI i))]) (hcl : cells ≤ 600000) (hsl : slots ≤ 7302250) (hi : i + 6 ≤ L) {r : Int} {σ1' σ2' : jq_M} (h1 : X10_leastFish σ1 = some (r, σ1')) (h2 : X11_leastFish σ2 = some (r, σ2'))
    (kk : ∀ (H1 : Heap) (locs1 : List Loc), jq_R2 b1 b2 D cs σ1' σ2' H1 → va_S (fun q => s.heap.size ≤ q) s.heap H1 locs1 → W p l e room_1 s m #[Value.ref b] below meth c H1 locs1 cells slots Q (F0 m 2013 ls [])) : W p l e room_1 s m #[Value.ref b] below meth c H locs cells slots Q (F0 m 1527 ls []) := by
  have C1 := C0
  obtain ⟨hx, hb, -⟩ := C1
  refine lv_aload_n hx hb dL_law_1527 rfl (lv_at hl 1 rfl) ?_
  refine law_callX (v := jI r) (avs := []) C0 hR hS hl.1 hcl hsl (ctX10_leastFish h1) ml_RL_210 rfl rfl (fun v hv => by cases hv) rfl rfl rfl rfl dL_law_1528 (fun H locs hR hS => ?_)
  refine lv_aload_n hx hb dL_law_1531 rfl (lv_at hl 2 rfl) ?_
  refine law_callM (v := jI r) (avs := []) C0 hR hS hl.1 hcl hsl (ctX11_leastFish h2) ml_RL_213 rfl rfl (fun v hv => by cases hv) rfl rfl rfl rfl dL_law_1532 (fun H locs hR hS => ?_)
  exact lv_icmp_eq (tgt := 2013) hx hb dL_law_1535 (by decide) (fun _ => kk H locs hR hS) (fun q => absurd rfl q)
theorem ml_RL_214 : jq_vl RL 214 yX10_bestSwap cX10_bestSwap 5 (some .int) 0 := ⟨jq_in 1296 (by decide +kernel) rfl, yf_X10_bestSwap⟩
theorem ml_RL_217 : jq_vl RL 217 yX11_bestSwap cX11_bestSwap 6 (some .int) 0 := ⟨jq_in 2195 (by decide +kernel) rfl, yf_X11_bestSwap⟩
set_option maxHeartbeats 4000000 in
set_option maxRecDepth 100000 in
theorem law_47 (C0 : jq_LC p s m meth c b L xs b1 b2 D cs ss1 ss2) (hR : jq_R2 b1 b2 D cs σ1 σ2 H) (hS : va_S (fun q => s.heap.size ≤ q) s.heap H locs) (hl : lv_has ls 4 [(0, .ref b), (1, .ref b1), (2, .ref b2), (3, .int (nI i))]) (hcl : cells ≤ 600000) (hsl : slots ≤ 7302250) (hi : i + 6 ≤ L) {r : Int} {σ1' σ2' : jq_M} (h1 : X10_bestSwap σ1 = some (r, σ1')) (h2 : X11_bestSwap σ2 = some (r, σ2'))
    (kk : ∀ (H1 : Heap) (locs1 : List Loc), jq_R2 b1 b2 D cs σ1' σ2' H1 → va_S (fun q => s.heap.size ≤ q) s.heap H1 locs1 → W p l e room_1 s m #[Value.ref b] below meth c H1 locs1 cells slots Q (F0 m 2013 ls [])) : W p l e room_1 s m #[Value.ref b] below meth c H locs cells slots Q (F0 m 1540 ls []) := by
  have C1 := C0
  obtain ⟨hx, hb, -⟩ := C1
  refine lv_aload_n hx hb dL_law_1540 rfl (lv_at hl 1 rfl) ?_
  refine law_callX (v := jI r) (avs := []) C0 hR hS hl.1 hcl hsl (ctX10_bestSwap h1) ml_RL_214 rfl rfl (fun v hv => by cases hv) rfl rfl rfl rfl dL_law_1541 (fun H locs hR hS => ?_)
  refine lv_aload_n hx hb dL_law_1544 rfl (lv_at hl 2 rfl) ?_
  refine law_callM (v := jI r) (avs := []) C0 hR hS hl.1 hcl hsl (ctX11_bestSwap h2) ml_RL_217 rfl rfl (fun v hv => by cases hv) rfl rfl rfl rfl dL_law_1545 (fun H locs hR hS => ?_)
  exact lv_icmp_eq (tgt := 2013) hx hb dL_law_1548 (by decide) (fun _ => kk H locs hR hS) (fun q => absurd rfl q)
theorem ml_RL_218 : jq_vl RL 218 yX10_bestTurn cX10_bestTurn 5 (some .int) 0 := ⟨jq_in 1304 (by decide +kernel) rfl, yf_X10_bestTurn⟩
theorem ml_RL_221 : jq_vl RL 221 yX11_bestTurn cX11_bestTurn 5 (some .int) 0 := ⟨jq_in 2203 (by decide +kernel) rfl, yf_X11_bestTurn⟩
set_option maxHeartbeats 4000000 in
set_option maxRecDepth 100000 in
theorem law_48 (C0 : jq_LC p s m meth c b L xs b1 b2 D cs ss1 ss2) (hR : jq_R2 b1 b2 D cs σ1 σ2 H) (hS : va_S (fun q => s.heap.size ≤ q) s.heap H locs) (hl : lv_has ls 4 [(0, .ref b), (1, .ref b1), (2, .ref b2), (3, .int (nI i))]) (hcl : cells ≤ 600000) (hsl : slots ≤ 7302250) (hi : i + 6 ≤ L) {r : Int} {σ1' σ2' : jq_M} (h1 : X10_bestTurn σ1 = some (r, σ1')) (h2 : X11_bestTurn σ2 = some (r, σ2'))
    (kk : ∀ (H1 : Heap) (locs1 : List Loc), jq_R2 b1 b2 D cs σ1' σ2' H1 → va_S (fun q => s.heap.size ≤ q) s.heap H1 locs1 → W p l e room_1 s m #[Value.ref b] below meth c H1 locs1 cells slots Q (F0 m 2013 ls [])) : W p l e room_1 s m #[Value.ref b] below meth c H locs cells slots Q (F0 m 1553 ls []) := by
  have C1 := C0
  obtain ⟨hx, hb, -⟩ := C1
  refine lv_aload_n hx hb dL_law_1553 rfl (lv_at hl 1 rfl) ?_
  refine law_callX (v := jI r) (avs := []) C0 hR hS hl.1 hcl hsl (ctX10_bestTurn h1) ml_RL_218 rfl rfl (fun v hv => by cases hv) rfl rfl rfl rfl dL_law_1554 (fun H locs hR hS => ?_)
  refine lv_aload_n hx hb dL_law_1557 rfl (lv_at hl 2 rfl) ?_
  refine law_callM (v := jI r) (avs := []) C0 hR hS hl.1 hcl hsl (ctX11_bestTurn h2) ml_RL_221 rfl rfl (fun v hv => by cases hv) rfl rfl rfl rfl dL_law_1558 (fun H locs hR hS => ?_)
  exact lv_icmp_eq (tgt := 2013) hx hb dL_law_1561 (by decide) (fun _ => kk H locs hR hS) (fun q => absurd rfl q)
theorem ml_RL_222 : jq_vl RL 222 yX10_signsBy cX10_signsBy 3 (some .int) 2 := ⟨jq_in 1308 (by decide +kernel) rfl, yf_X10_signsBy⟩
theorem ml_RL_225 : jq_vl RL 225 yX11_signsBy cX11_signsBy 3 (some .int) 2 := ⟨jq_in 2207 (by decide +kernel) rfl, yf_X11_signsBy⟩
set_option maxHeartbeats 4000000 in
set_option maxRecDepth 100000 in
theorem law_49 (C0 : jq_LC p s m meth c b L xs b1 b2 D cs ss1 ss2) (hR : jq_R2 b1 b2 D cs σ1 σ2 H) (hS : va_S (fun q => s.heap.size ≤ q) s.heap H locs) (hl : lv_has ls 4 [(0, .ref b), (1, .ref b1), (2, .ref b2), (3, .int (nI i))]) (hcl : cells ≤ 600000) (hsl : slots ≤ 7302250) (hi : i + 6 ≤ L) {r : Int} {σ1' σ2' : jq_M} (h1 : X10_signsBy (jq_a xs i 1) (jq_a xs i 2) σ1 = some (r, σ1')) (h2 : X11_signsBy (jq_a xs i 1) (jq_a xs i 2) σ2 = some (r, σ2'))
    (kk : ∀ (H1 : Heap) (locs1 : List Loc), jq_R2 b1 b2 D cs σ1' σ2' H1 → va_S (fun q => s.heap.size ≤ q) s.heap H1 locs1 → W p l e room_1 s m #[Value.ref b] below meth c H1 locs1 cells slots Q (F0 m 2013 ls [])) : W p l e room_1 s m #[Value.ref b] below meth c H locs cells slots Q (F0 m 1566 ls []) := by
  have C1 := C0
  obtain ⟨hx, hb, -⟩ := C1
  refine lv_aload_n hx hb dL_law_1566 rfl (lv_at hl 1 rfl) ?_
  refine law_ld C0 hS hl hi 1 rfl rfl dL_law_1567 dL_law_1568 dL_law_1569 dL_law_1570 dL_law_1571 ?_
  refine law_ld C0 hS hl hi 2 rfl rfl dL_law_1572 dL_law_1573 dL_law_1574 dL_law_1575 dL_law_1576 ?_
  refine law_callX (v := jI r) (avs := [jI (jq_a xs i 1), jI (jq_a xs i 2)]) C0 hR hS hl.1 hcl hsl (ctX10_signsBy h1) ml_RL_222 rfl rfl (by unfold jq_os; simp only [List.forall_mem_cons, List.not_mem_nil, false_implies, implies_true, and_true]; exact ⟨jq_ti_r _, jq_ti_r _⟩) rfl rfl rfl rfl dL_law_1577 (fun H locs hR hS => ?_)
  refine lv_aload_n hx hb dL_law_1580 rfl (lv_at hl 2 rfl) ?_
  refine law_ld C0 hS hl hi 1 rfl rfl dL_law_1581 dL_law_1582 dL_law_1583 dL_law_1584 dL_law_1585 ?_
  refine law_ld C0 hS hl hi 2 rfl rfl dL_law_1586 dL_law_1587 dL_law_1588 dL_law_1589 dL_law_1590 ?_
  refine law_callM (v := jI r) (avs := [jI (jq_a xs i 1), jI (jq_a xs i 2)]) C0 hR hS hl.1 hcl hsl (ctX11_signsBy h2) ml_RL_225 rfl rfl (by unfold jq_os; simp only [List.forall_mem_cons, List.not_mem_nil, false_implies, implies_true, and_true]; exact ⟨jq_ti_r _, jq_ti_r _⟩) rfl rfl rfl rfl dL_law_1591 (fun H locs hR hS => ?_)
  exact lv_icmp_eq (tgt := 2013) hx hb dL_law_1594 (by decide) (fun _ => kk H locs hR hS) (fun q => absurd rfl q)
theorem ml_RL_226 : jq_vl RL 226 yX10_game cX10_game 5 (some .int) 3 := ⟨jq_in 1312 (by decide +kernel) rfl, yf_X10_game⟩
theorem ml_RL_230 : jq_vl RL 230 yX11_game cX11_game 5 (some .int) 3 := ⟨jq_in 2211 (by decide +kernel) rfl, yf_X11_game⟩
set_option maxHeartbeats 4000000 in
set_option maxRecDepth 100000 in
theorem law_50 (C0 : jq_LC p s m meth c b L xs b1 b2 D cs ss1 ss2) (hR : jq_R2 b1 b2 D cs σ1 σ2 H) (hS : va_S (fun q => s.heap.size ≤ q) s.heap H locs) (hl : lv_has ls 4 [(0, .ref b), (1, .ref b1), (2, .ref b2), (3, .int (nI i))]) (hcl : cells ≤ 600000) (hsl : slots ≤ 7302250) (hi : i + 6 ≤ L) {r : Int} {σ1' σ2' : jq_M} (h1 : X10_game (jq_a xs i 1) (jq_a xs i 2) (jq_a xs i 3) σ1 = some (r, σ1')) (h2 : X11_game (jq_a xs i 1) (jq_a xs i 2) (jq_a xs i 3) σ2 = some (r, σ2'))
    (kk : ∀ (H1 : Heap) (locs1 : List Loc), jq_R2 b1 b2 D cs σ1' σ2' H1 → va_S (fun q => s.heap.size ≤ q) s.heap H1 locs1 → W p l e room_1 s m #[Value.ref b] below meth c H1 locs1 cells slots Q (F0 m 2013 ls [])) : W p l e room_1 s m #[Value.ref b] below meth c H locs cells slots Q (F0 m 1599 ls []) := by
  have C1 := C0
  obtain ⟨hx, hb, -⟩ := C1
  refine lv_aload_n hx hb dL_law_1599 rfl (lv_at hl 1 rfl) ?_
  refine law_ld C0 hS hl hi 1 rfl rfl dL_law_1600 dL_law_1601 dL_law_1602 dL_law_1603 dL_law_1604 ?_
  refine law_ld C0 hS hl hi 2 rfl rfl dL_law_1605 dL_law_1606 dL_law_1607 dL_law_1608 dL_law_1609 ?_
  refine law_ld C0 hS hl hi 3 rfl rfl dL_law_1610 dL_law_1611 dL_law_1612 dL_law_1613 dL_law_1614 ?_
  refine law_callX (v := jI r) (avs := [jI (jq_a xs i 1), jI (jq_a xs i 2), jI (jq_a xs i 3)]) C0 hR hS hl.1 hcl hsl (ctX10_game h1) ml_RL_226 rfl rfl (by unfold jq_os; simp only [List.forall_mem_cons, List.not_mem_nil, false_implies, implies_true, and_true]; exact ⟨jq_ti_r _, jq_ti_r _, jq_ti_r _⟩) rfl rfl rfl rfl dL_law_1615 (fun H locs hR hS => ?_)
  refine lv_aload_n hx hb dL_law_1618 rfl (lv_at hl 2 rfl) ?_
  refine law_ld C0 hS hl hi 1 rfl rfl dL_law_1619 dL_law_1620 dL_law_1621 dL_law_1622 dL_law_1623 ?_
  refine law_ld C0 hS hl hi 2 rfl rfl dL_law_1624 dL_law_1625 dL_law_1626 dL_law_1627 dL_law_1628 ?_
  refine law_ld C0 hS hl hi 3 rfl rfl dL_law_1629 dL_law_1630 dL_law_1631 dL_law_1632 dL_law_1633 ?_
  refine law_callM (v := jI r) (avs := [jI (jq_a xs i 1), jI (jq_a xs i 2), jI (jq_a xs i 3)]) C0 hR hS hl.1 hcl hsl (ctX11_game h2) ml_RL_230 rfl rfl (by unfold jq_os; simp only [List.forall_mem_cons, List.not_mem_nil, false_implies, implies_true, and_true]; exact ⟨jq_ti_r _, jq_ti_r _, jq_ti_r _⟩) rfl rfl rfl rfl dL_law_1634 (fun H locs hR hS => ?_)
  exact lv_icmp_eq (tgt := 2013) hx hb dL_law_1637 (by decide) (fun _ => kk H locs hR hS) (fun q => absurd rfl q)
theorem ml_RL_231 : jq_vl RL 231 yX10_moveOf cX10_moveOf 5 (some .int) 3 := ⟨jq_in 1337 (by decide +kernel) rfl, yf_X10_moveOf⟩
theorem ml_RL_234 : jq_vl RL 234 yX11_moveOf cX11_moveOf 5 (some .int) 3 := ⟨jq_in 2240 (by decide +kernel) rfl, yf_X11_moveOf⟩
set_option maxHeartbeats 4000000 in
set_option maxRecDepth 100000 in
theorem law_51 (C0 : jq_LC p s m meth c b L xs b1 b2 D cs ss1 ss2) (hR : jq_R2 b1 b2 D cs σ1 σ2 H) (hS : va_S (fun q => s.heap.size ≤ q) s.heap H locs) (hl : lv_has ls 4 [(0, .ref b), (1, .ref b1), (2, .ref b2), (3, .int (nI i))]) (hcl : cells ≤ 600000) (hsl : slots ≤ 7302250) (hi : i + 6 ≤ L) {r : Int} {σ1' σ2' : jq_M} (h1 : X10_moveOf (jq_a xs i 1) (jq_a xs i 2) (jq_a xs i 3) σ1 = some (r, σ1')) (h2 : X11_moveOf (jq_a xs i 1) (jq_a xs i 2) (jq_a xs i 3) σ2 = some (r, σ2'))
    (kk : ∀ (H1 : Heap) (locs1 : List Loc), jq_R2 b1 b2 D cs σ1' σ2' H1 → va_S (fun q => s.heap.size ≤ q) s.heap H1 locs1 → W p l e room_1 s m #[Value.ref b] below meth c H1 locs1 cells slots Q (F0 m 2013 ls [])) : W p l e room_1 s m #[Value.ref b] below meth c H locs cells slots Q (F0 m 1642 ls []) := by
  have C1 := C0
  obtain ⟨hx, hb, -⟩ := C1
  refine lv_aload_n hx hb dL_law_1642 rfl (lv_at hl 1 rfl) ?_
  refine law_ld C0 hS hl hi 1 rfl rfl dL_law_1643 dL_law_1644 dL_law_1645 dL_law_1646 dL_law_1647 ?_
  refine law_ld C0 hS hl hi 2 rfl rfl dL_law_1648 dL_law_1649 dL_law_1650 dL_law_1651 dL_law_1652 ?_
  refine law_ld C0 hS hl hi 3 rfl rfl dL_law_1653 dL_law_1654 dL_law_1655 dL_law_1656 dL_law_1657 ?_
  refine law_callX (v := jI r) (avs := [jI (jq_a xs i 1), jI (jq_a xs i 2), jI (jq_a xs i 3)]) C0 hR hS hl.1 hcl hsl (ctX10_moveOf h1) ml_RL_231 rfl rfl (by unfold jq_os; simp only [List.forall_mem_cons, List.not_mem_nil, false_implies, implies_true, and_true]; exact ⟨jq_ti_r _, jq_ti_r _, jq_ti_r _⟩) rfl rfl rfl rfl dL_law_1658 (fun H locs hR hS => ?_)
  refine lv_aload_n hx hb dL_law_1661 rfl (lv_at hl 2 rfl) ?_
  refine law_ld C0 hS hl hi 1 rfl rfl dL_law_1662 dL_law_1663 dL_law_1664 dL_law_1665 dL_law_1666 ?_
  refine law_ld C0 hS hl hi 2 rfl rfl dL_law_1667 dL_law_1668 dL_law_1669 dL_law_1670 dL_law_1671 ?_
  refine law_ld C0 hS hl hi 3 rfl rfl dL_law_1672 dL_law_1673 dL_law_1674 dL_law_1675 dL_law_1676 ?_
  refine law_callM (v := jI r) (avs := [jI (jq_a xs i 1), jI (jq_a xs i 2), jI (jq_a xs i 3)]) C0 hR hS hl.1 hcl hsl (ctX11_moveOf h2) ml_RL_234 rfl rfl (by unfold jq_os; simp only [List.forall_mem_cons, List.not_mem_nil, false_implies, implies_true, and_true]; exact ⟨jq_ti_r _, jq_ti_r _, jq_ti_r _⟩) rfl rfl rfl rfl dL_law_1677 (fun H locs hR hS => ?_)
  exact lv_icmp_eq (tgt := 2013) hx hb dL_law_1680 (by decide) (fun _ => kk H locs hR hS) (fun q => absurd rfl q)
theorem ml_RL_235 : jq_vl RL 235 yX10_leans cX10_leans 2 (some .int) 1 := ⟨jq_in 1344 (by decide +kernel) rfl, yf_X10_leans⟩
theorem ml_RL_238 : jq_vl RL 238 yX11_leans cX11_leans 2 (some .int) 1 := ⟨jq_in 2244 (by decide +kernel) rfl, yf_X11_leans⟩
set_option maxHeartbeats 4000000 in
set_option maxRecDepth 100000 in
theorem law_52 (C0 : jq_LC p s m meth c b L xs b1 b2 D cs ss1 ss2) (hR : jq_R2 b1 b2 D cs σ1 σ2 H) (hS : va_S (fun q => s.heap.size ≤ q) s.heap H locs) (hl : lv_has ls 4 [(0, .ref b), (1, .ref b1), (2, .ref b2), (3, .int (nI i))]) (hcl : cells ≤ 600000) (hsl : slots ≤ 7302250) (hi : i + 6 ≤ L) {r : Int} {σ1' σ2' : jq_M} (h1 : X10_leans (jq_a xs i 1) σ1 = some (r, σ1')) (h2 : X11_leans (jq_a xs i 1) σ2 = some (r, σ2'))
    (kk : ∀ (H1 : Heap) (locs1 : List Loc), jq_R2 b1 b2 D cs σ1' σ2' H1 → va_S (fun q => s.heap.size ≤ q) s.heap H1 locs1 → W p l e room_1 s m #[Value.ref b] below meth c H1 locs1 cells slots Q (F0 m 2013 ls [])) : W p l e room_1 s m #[Value.ref b] below meth c H locs cells slots Q (F0 m 1685 ls []) := by
  have C1 := C0
  obtain ⟨hx, hb, -⟩ := C1
  refine lv_aload_n hx hb dL_law_1685 rfl (lv_at hl 1 rfl) ?_
  refine law_ld C0 hS hl hi 1 rfl rfl dL_law_1686 dL_law_1687 dL_law_1688 dL_law_1689 dL_law_1690 ?_
  refine law_callX (v := jI r) (avs := [jI (jq_a xs i 1)]) C0 hR hS hl.1 hcl hsl (ctX10_leans h1) ml_RL_235 rfl rfl (by unfold jq_os; simp only [List.forall_mem_cons, List.not_mem_nil, false_implies, implies_true, and_true]; exact jq_ti_r _) rfl rfl rfl rfl dL_law_1691 (fun H locs hR hS => ?_)
  refine lv_aload_n hx hb dL_law_1694 rfl (lv_at hl 2 rfl) ?_
  refine law_ld C0 hS hl hi 1 rfl rfl dL_law_1695 dL_law_1696 dL_law_1697 dL_law_1698 dL_law_1699 ?_
  refine law_callM (v := jI r) (avs := [jI (jq_a xs i 1)]) C0 hR hS hl.1 hcl hsl (ctX11_leans h2) ml_RL_238 rfl rfl (by unfold jq_os; simp only [List.forall_mem_cons, List.not_mem_nil, false_implies, implies_true, and_true]; exact jq_ti_r _) rfl rfl rfl rfl dL_law_1700 (fun H locs hR hS => ?_)
  exact lv_icmp_eq (tgt := 2013) hx hb dL_law_1703 (by decide) (fun _ => kk H locs hR hS) (fun q => absurd rfl q)
theorem ml_RL_239 : jq_vl RL 239 yX10_falls cX10_falls 2 (some .int) 1 := ⟨jq_in 1353 (by decide +kernel) rfl, yf_X10_falls⟩
theorem ml_RL_242 : jq_vl RL 242 yX11_falls cX11_falls 2 (some .int) 1 := ⟨jq_in 2252 (by decide +kernel) rfl, yf_X11_falls⟩
set_option maxHeartbeats 4000000 in
set_option maxRecDepth 100000 in
theorem law_53 (C0 : jq_LC p s m meth c b L xs b1 b2 D cs ss1 ss2) (hR : jq_R2 b1 b2 D cs σ1 σ2 H) (hS : va_S (fun q => s.heap.size ≤ q) s.heap H locs) (hl : lv_has ls 4 [(0, .ref b), (1, .ref b1), (2, .ref b2), (3, .int (nI i))]) (hcl : cells ≤ 600000) (hsl : slots ≤ 7302250) (hi : i + 6 ≤ L) {r : Int} {σ1' σ2' : jq_M} (h1 : X10_falls (jq_a xs i 1) σ1 = some (r, σ1')) (h2 : X11_falls (jq_a xs i 1) σ2 = some (r, σ2'))
    (kk : ∀ (H1 : Heap) (locs1 : List Loc), jq_R2 b1 b2 D cs σ1' σ2' H1 → va_S (fun q => s.heap.size ≤ q) s.heap H1 locs1 → W p l e room_1 s m #[Value.ref b] below meth c H1 locs1 cells slots Q (F0 m 2013 ls [])) : W p l e room_1 s m #[Value.ref b] below meth c H locs cells slots Q (F0 m 1708 ls []) := by
  have C1 := C0
  obtain ⟨hx, hb, -⟩ := C1
  refine lv_aload_n hx hb dL_law_1708 rfl (lv_at hl 1 rfl) ?_
  refine law_ld C0 hS hl hi 1 rfl rfl dL_law_1709 dL_law_1710 dL_law_1711 dL_law_1712 dL_law_1713 ?_
  refine law_callX (v := jI r) (avs := [jI (jq_a xs i 1)]) C0 hR hS hl.1 hcl hsl (ctX10_falls h1) ml_RL_239 rfl rfl (by unfold jq_os; simp only [List.forall_mem_cons, List.not_mem_nil, false_implies, implies_true, and_true]; exact jq_ti_r _) rfl rfl rfl rfl dL_law_1714 (fun H locs hR hS => ?_)
  refine lv_aload_n hx hb dL_law_1717 rfl (lv_at hl 2 rfl) ?_
  refine law_ld C0 hS hl hi 1 rfl rfl dL_law_1718 dL_law_1719 dL_law_1720 dL_law_1721 dL_law_1722 ?_
  refine law_callM (v := jI r) (avs := [jI (jq_a xs i 1)]) C0 hR hS hl.1 hcl hsl (ctX11_falls h2) ml_RL_242 rfl rfl (by unfold jq_os; simp only [List.forall_mem_cons, List.not_mem_nil, false_implies, implies_true, and_true]; exact jq_ti_r _) rfl rfl rfl rfl dL_law_1723 (fun H locs hR hS => ?_)
  exact lv_icmp_eq (tgt := 2013) hx hb dL_law_1726 (by decide) (fun _ => kk H locs hR hS) (fun q => absurd rfl q)
theorem ml_RL_243 : jq_vl RL 243 yX10_keystone cX10_keystone 1 (some .int) 0 := ⟨jq_in 1358 (by decide +kernel) rfl, yf_X10_keystone⟩
theorem ml_RL_246 : jq_vl RL 246 yX11_keystone cX11_keystone 3 (some .int) 0 := ⟨jq_in 2256 (by decide +kernel) rfl, yf_X11_keystone⟩
set_option maxHeartbeats 4000000 in
set_option maxRecDepth 100000 in
theorem law_54 (C0 : jq_LC p s m meth c b L xs b1 b2 D cs ss1 ss2) (hR : jq_R2 b1 b2 D cs σ1 σ2 H) (hS : va_S (fun q => s.heap.size ≤ q) s.heap H locs) (hl : lv_has ls 4 [(0, .ref b), (1, .ref b1), (2, .ref b2), (3, .int (nI i))]) (hcl : cells ≤ 600000) (hsl : slots ≤ 7302250) (hi : i + 6 ≤ L) {r : Int} {σ1' σ2' : jq_M} (h1 : X10_keystone σ1 = some (r, σ1')) (h2 : X11_keystone σ2 = some (r, σ2'))
    (kk : ∀ (H1 : Heap) (locs1 : List Loc), jq_R2 b1 b2 D cs σ1' σ2' H1 → va_S (fun q => s.heap.size ≤ q) s.heap H1 locs1 → W p l e room_1 s m #[Value.ref b] below meth c H1 locs1 cells slots Q (F0 m 2013 ls [])) : W p l e room_1 s m #[Value.ref b] below meth c H locs cells slots Q (F0 m 1731 ls []) := by
  have C1 := C0
  obtain ⟨hx, hb, -⟩ := C1
  refine lv_aload_n hx hb dL_law_1731 rfl (lv_at hl 1 rfl) ?_
  refine law_callX (v := jI r) (avs := []) C0 hR hS hl.1 hcl hsl (ctX10_keystone h1) ml_RL_243 rfl rfl (fun v hv => by cases hv) rfl rfl rfl rfl dL_law_1732 (fun H locs hR hS => ?_)
  refine lv_aload_n hx hb dL_law_1735 rfl (lv_at hl 2 rfl) ?_
  refine law_callM (v := jI r) (avs := []) C0 hR hS hl.1 hcl hsl (ctX11_keystone h2) ml_RL_246 rfl rfl (fun v hv => by cases hv) rfl rfl rfl rfl dL_law_1736 (fun H locs hR hS => ?_)
  exact lv_icmp_eq (tgt := 2013) hx hb dL_law_1739 (by decide) (fun _ => kk H locs hR hS) (fun q => absurd rfl q)
theorem ml_RL_247 : jq_vl RL 247 yX10_orders cX10_orders 1 (some .int) 0 := ⟨jq_in 1367 (by decide +kernel) rfl, yf_X10_orders⟩
theorem ml_RL_250 : jq_vl RL 250 yX11_orders cX11_orders 6 (some .int) 0 := ⟨jq_in 2260 (by decide +kernel) rfl, yf_X11_orders⟩
set_option maxHeartbeats 4000000 in
set_option maxRecDepth 100000 in
theorem law_55 (C0 : jq_LC p s m meth c b L xs b1 b2 D cs ss1 ss2) (hR : jq_R2 b1 b2 D cs σ1 σ2 H) (hS : va_S (fun q => s.heap.size ≤ q) s.heap H locs) (hl : lv_has ls 4 [(0, .ref b), (1, .ref b1), (2, .ref b2), (3, .int (nI i))]) (hcl : cells ≤ 600000) (hsl : slots ≤ 7302250) (hi : i + 6 ≤ L) {r : Int} {σ1' σ2' : jq_M} (h1 : X10_orders σ1 = some (r, σ1')) (h2 : X11_orders σ2 = some (r, σ2'))
    (kk : ∀ (H1 : Heap) (locs1 : List Loc), jq_R2 b1 b2 D cs σ1' σ2' H1 → va_S (fun q => s.heap.size ≤ q) s.heap H1 locs1 → W p l e room_1 s m #[Value.ref b] below meth c H1 locs1 cells slots Q (F0 m 2013 ls [])) : W p l e room_1 s m #[Value.ref b] below meth c H locs cells slots Q (F0 m 1744 ls []) := by
  have C1 := C0
  obtain ⟨hx, hb, -⟩ := C1
  refine lv_aload_n hx hb dL_law_1744 rfl (lv_at hl 1 rfl) ?_
  refine law_callX (v := jI r) (avs := []) C0 hR hS hl.1 hcl hsl (ctX10_orders h1) ml_RL_247 rfl rfl (fun v hv => by cases hv) rfl rfl rfl rfl dL_law_1745 (fun H locs hR hS => ?_)
  refine lv_aload_n hx hb dL_law_1748 rfl (lv_at hl 2 rfl) ?_
  refine law_callM (v := jI r) (avs := []) C0 hR hS hl.1 hcl hsl (ctX11_orders h2) ml_RL_250 rfl rfl (fun v hv => by cases hv) rfl rfl rfl rfl dL_law_1749 (fun H locs hR hS => ?_)
  exact lv_icmp_eq (tgt := 2013) hx hb dL_law_1752 (by decide) (fun _ => kk H locs hR hS) (fun q => absurd rfl q)
theorem ml_RL_251 : jq_vl RL 251 yX10_soonest cX10_soonest 2 (some .int) 1 := ⟨jq_in 1375 (by decide +kernel) rfl, yf_X10_soonest⟩
theorem ml_RL_254 : jq_vl RL 254 yX11_soonest cX11_soonest 3 (some .int) 1 := ⟨jq_in 2264 (by decide +kernel) rfl, yf_X11_soonest⟩
set_option maxHeartbeats 4000000 in
set_option maxRecDepth 100000 in
theorem law_56 (C0 : jq_LC p s m meth c b L xs b1 b2 D cs ss1 ss2) (hR : jq_R2 b1 b2 D cs σ1 σ2 H) (hS : va_S (fun q => s.heap.size ≤ q) s.heap H locs) (hl : lv_has ls 4 [(0, .ref b), (1, .ref b1), (2, .ref b2), (3, .int (nI i))]) (hcl : cells ≤ 600000) (hsl : slots ≤ 7302250) (hi : i + 6 ≤ L) {r : Int} {σ1' σ2' : jq_M} (h1 : X10_soonest (jq_a xs i 1) σ1 = some (r, σ1')) (h2 : X11_soonest (jq_a xs i 1) σ2 = some (r, σ2'))
    (kk : ∀ (H1 : Heap) (locs1 : List Loc), jq_R2 b1 b2 D cs σ1' σ2' H1 → va_S (fun q => s.heap.size ≤ q) s.heap H1 locs1 → W p l e room_1 s m #[Value.ref b] below meth c H1 locs1 cells slots Q (F0 m 2013 ls [])) : W p l e room_1 s m #[Value.ref b] below meth c H locs cells slots Q (F0 m 1757 ls []) := by
  have C1 := C0
  obtain ⟨hx, hb, -⟩ := C1
  refine lv_aload_n hx hb dL_law_1757 rfl (lv_at hl 1 rfl) ?_
  refine law_ld C0 hS hl hi 1 rfl rfl dL_law_1758 dL_law_1759 dL_law_1760 dL_law_1761 dL_law_1762 ?_
  refine law_callX (v := jI r) (avs := [jI (jq_a xs i 1)]) C0 hR hS hl.1 hcl hsl (ctX10_soonest h1) ml_RL_251 rfl rfl (by unfold jq_os; simp only [List.forall_mem_cons, List.not_mem_nil, false_implies, implies_true, and_true]; exact jq_ti_r _) rfl rfl rfl rfl dL_law_1763 (fun H locs hR hS => ?_)
  refine lv_aload_n hx hb dL_law_1766 rfl (lv_at hl 2 rfl) ?_
  refine law_ld C0 hS hl hi 1 rfl rfl dL_law_1767 dL_law_1768 dL_law_1769 dL_law_1770 dL_law_1771 ?_
  refine law_callM (v := jI r) (avs := [jI (jq_a xs i 1)]) C0 hR hS hl.1 hcl hsl (ctX11_soonest h2) ml_RL_254 rfl rfl (by unfold jq_os; simp only [List.forall_mem_cons, List.not_mem_nil, false_implies, implies_true, and_true]; exact jq_ti_r _) rfl rfl rfl rfl dL_law_1772 (fun H locs hR hS => ?_)
  exact lv_icmp_eq (tgt := 2013) hx hb dL_law_1775 (by decide) (fun _ => kk H locs hR hS) (fun q => absurd rfl q)
theorem ml_RL_255 : jq_vl RL 255 yX10_chain cX10_chain 2 (some .int) 1 := ⟨jq_in 1390 (by decide +kernel) rfl, yf_X10_chain⟩
theorem ml_RL_258 : jq_vl RL 258 yX11_chain cX11_chain 5 (some .int) 1 := ⟨jq_in 2276 (by decide +kernel) rfl, yf_X11_chain⟩
set_option maxHeartbeats 4000000 in
set_option maxRecDepth 100000 in
theorem law_57 (C0 : jq_LC p s m meth c b L xs b1 b2 D cs ss1 ss2) (hR : jq_R2 b1 b2 D cs σ1 σ2 H) (hS : va_S (fun q => s.heap.size ≤ q) s.heap H locs) (hl : lv_has ls 4 [(0, .ref b), (1, .ref b1), (2, .ref b2), (3, .int (nI i))]) (hcl : cells ≤ 600000) (hsl : slots ≤ 7302250) (hi : i + 6 ≤ L) {r : Int} {σ1' σ2' : jq_M} (h1 : X10_chain (jq_a xs i 1) σ1 = some (r, σ1')) (h2 : X11_chain (jq_a xs i 1) σ2 = some (r, σ2'))
    (kk : ∀ (H1 : Heap) (locs1 : List Loc), jq_R2 b1 b2 D cs σ1' σ2' H1 → va_S (fun q => s.heap.size ≤ q) s.heap H1 locs1 → W p l e room_1 s m #[Value.ref b] below meth c H1 locs1 cells slots Q (F0 m 2013 ls [])) : W p l e room_1 s m #[Value.ref b] below meth c H locs cells slots Q (F0 m 1780 ls []) := by
  have C1 := C0
  obtain ⟨hx, hb, -⟩ := C1
  refine lv_aload_n hx hb dL_law_1780 rfl (lv_at hl 1 rfl) ?_
  refine law_ld C0 hS hl hi 1 rfl rfl dL_law_1781 dL_law_1782 dL_law_1783 dL_law_1784 dL_law_1785 ?_
  refine law_callX (v := jI r) (avs := [jI (jq_a xs i 1)]) C0 hR hS hl.1 hcl hsl (ctX10_chain h1) ml_RL_255 rfl rfl (by unfold jq_os; simp only [List.forall_mem_cons, List.not_mem_nil, false_implies, implies_true, and_true]; exact jq_ti_r _) rfl rfl rfl rfl dL_law_1786 (fun H locs hR hS => ?_)
  refine lv_aload_n hx hb dL_law_1789 rfl (lv_at hl 2 rfl) ?_
  refine law_ld C0 hS hl hi 1 rfl rfl dL_law_1790 dL_law_1791 dL_law_1792 dL_law_1793 dL_law_1794 ?_
  refine law_callM (v := jI r) (avs := [jI (jq_a xs i 1)]) C0 hR hS hl.1 hcl hsl (ctX11_chain h2) ml_RL_258 rfl rfl (by unfold jq_os; simp only [List.forall_mem_cons, List.not_mem_nil, false_implies, implies_true, and_true]; exact jq_ti_r _) rfl rfl rfl rfl dL_law_1795 (fun H locs hR hS => ?_)
  exact lv_icmp_eq (tgt := 2013) hx hb dL_law_1798 (by decide) (fun _ => kk H locs hR hS) (fun q => absurd rfl q)
theorem ml_RL_259 : jq_vl RL 259 yX10_agreedIn cX10_agreedIn 2 (some .int) 1 := ⟨jq_in 1405 (by decide +kernel) rfl, yf_X10_agreedIn⟩
theorem ml_RL_262 : jq_vl RL 262 yX11_agreedIn cX11_agreedIn 3 (some .int) 1 := ⟨jq_in 2280 (by decide +kernel) rfl, yf_X11_agreedIn⟩
set_option maxHeartbeats 4000000 in
set_option maxRecDepth 100000 in
theorem law_58 (C0 : jq_LC p s m meth c b L xs b1 b2 D cs ss1 ss2) (hR : jq_R2 b1 b2 D cs σ1 σ2 H) (hS : va_S (fun q => s.heap.size ≤ q) s.heap H locs) (hl : lv_has ls 4 [(0, .ref b), (1, .ref b1), (2, .ref b2), (3, .int (nI i))]) (hcl : cells ≤ 600000) (hsl : slots ≤ 7302250) (hi : i + 6 ≤ L) {r : Int} {σ1' σ2' : jq_M} (h1 : X10_agreedIn (jq_a xs i 1) σ1 = some (r, σ1')) (h2 : X11_agreedIn (jq_a xs i 1) σ2 = some (r, σ2'))
    (kk : ∀ (H1 : Heap) (locs1 : List Loc), jq_R2 b1 b2 D cs σ1' σ2' H1 → va_S (fun q => s.heap.size ≤ q) s.heap H1 locs1 → W p l e room_1 s m #[Value.ref b] below meth c H1 locs1 cells slots Q (F0 m 2013 ls [])) : W p l e room_1 s m #[Value.ref b] below meth c H locs cells slots Q (F0 m 1803 ls []) := by
  have C1 := C0
  obtain ⟨hx, hb, -⟩ := C1
  refine lv_aload_n hx hb dL_law_1803 rfl (lv_at hl 1 rfl) ?_
  refine law_ld C0 hS hl hi 1 rfl rfl dL_law_1804 dL_law_1805 dL_law_1806 dL_law_1807 dL_law_1808 ?_
  refine law_callX (v := jI r) (avs := [jI (jq_a xs i 1)]) C0 hR hS hl.1 hcl hsl (ctX10_agreedIn h1) ml_RL_259 rfl rfl (by unfold jq_os; simp only [List.forall_mem_cons, List.not_mem_nil, false_implies, implies_true, and_true]; exact jq_ti_r _) rfl rfl rfl rfl dL_law_1809 (fun H locs hR hS => ?_)
  refine lv_aload_n hx hb dL_law_1812 rfl (lv_at hl 2 rfl) ?_
  refine law_ld C0 hS hl hi 1 rfl rfl dL_law_1813 dL_law_1814 dL_law_1815 dL_law_1816 dL_law_1817 ?_
  refine law_callM (v := jI r) (avs := [jI (jq_a xs i 1)]) C0 hR hS hl.1 hcl hsl (ctX11_agreedIn h2) ml_RL_262 rfl rfl (by unfold jq_os; simp only [List.forall_mem_cons, List.not_mem_nil, false_implies, implies_true, and_true]; exact jq_ti_r _) rfl rfl rfl rfl dL_law_1818 (fun H locs hR hS => ?_)
  exact lv_icmp_eq (tgt := 2013) hx hb dL_law_1821 (by decide) (fun _ => kk H locs hR hS) (fun q => absurd rfl q)
theorem ml_RL_263 : jq_vl RL 263 yX10_luck cX10_luck 6 (some .boolean) 1 := ⟨jq_in 1409 (by decide +kernel) rfl, yf_X10_luck⟩
theorem ml_RL_267 : jq_vl RL 267 yX11_luck cX11_luck 2 (some .boolean) 1 := ⟨jq_in 2285 (by decide +kernel) rfl, yf_X11_luck⟩
set_option maxHeartbeats 4000000 in
set_option maxRecDepth 100000 in
theorem law_59 (C0 : jq_LC p s m meth c b L xs b1 b2 D cs ss1 ss2) (hR : jq_R2 b1 b2 D cs σ1 σ2 H) (hS : va_S (fun q => s.heap.size ≤ q) s.heap H locs) (hl : lv_has ls 4 [(0, .ref b), (1, .ref b1), (2, .ref b2), (3, .int (nI i))]) (hcl : cells ≤ 600000) (hsl : slots ≤ 7302250) (hi : i + 6 ≤ L) {r : Int} {σ1' σ2' : jq_M} (h1 : X10_luck (jq_a xs i 1) σ1 = some (r, σ1')) (h2 : X11_luck (jq_a xs i 1) σ2 = some (r, σ2'))
    (kk : ∀ (H1 : Heap) (locs1 : List Loc), jq_R2 b1 b2 D cs σ1' σ2' H1 → va_S (fun q => s.heap.size ≤ q) s.heap H1 locs1 → W p l e room_1 s m #[Value.ref b] below meth c H1 locs1 cells slots Q (F0 m 2013 ls [])) : W p l e room_1 s m #[Value.ref b] below meth c H locs cells slots Q (F0 m 1826 ls []) := by
  have C1 := C0
  obtain ⟨hx, hb, -⟩ := C1
  refine lv_aload_n hx hb dL_law_1826 rfl (lv_at hl 1 rfl) ?_
  refine law_ld C0 hS hl hi 1 rfl rfl dL_law_1827 dL_law_1828 dL_law_1829 dL_law_1830 dL_law_1831 ?_
  refine law_callX (v := jI r) (avs := [jI (jq_a xs i 1)]) C0 hR hS hl.1 hcl hsl (ctX10_luck h1) ml_RL_263 rfl rfl (by unfold jq_os; simp only [List.forall_mem_cons, List.not_mem_nil, false_implies, implies_true, and_true]; exact jq_ti_r _) rfl rfl rfl rfl dL_law_1832 (fun H locs hR hS => ?_)
  refine lv_aload_n hx hb dL_law_1835 rfl (lv_at hl 2 rfl) ?_
  refine law_ld C0 hS hl hi 1 rfl rfl dL_law_1836 dL_law_1837 dL_law_1838 dL_law_1839 dL_law_1840 ?_
  refine law_callM (v := jI r) (avs := [jI (jq_a xs i 1)]) C0 hR hS hl.1 hcl hsl (ctX11_luck h2) ml_RL_267 rfl rfl (by unfold jq_os; simp only [List.forall_mem_cons, List.not_mem_nil, false_implies, implies_true, and_true]; exact jq_ti_r _) rfl rfl rfl rfl dL_law_1841 (fun H locs hR hS => ?_)
  exact lv_icmp_eq (tgt := 2013) hx hb dL_law_1844 (by decide) (fun _ => kk H locs hR hS) (fun q => absurd rfl q)
theorem ml_RL_268 : jq_vl RL 268 yX10_weakest cX10_weakest 1 (some .int) 0 := ⟨jq_in 1428 (by decide +kernel) rfl, yf_X10_weakest⟩
theorem ml_RL_271 : jq_vl RL 271 yX11_weakest cX11_weakest 3 (some .int) 0 := ⟨jq_in 2299 (by decide +kernel) rfl, yf_X11_weakest⟩
set_option maxHeartbeats 4000000 in
set_option maxRecDepth 100000 in
theorem law_60 (C0 : jq_LC p s m meth c b L xs b1 b2 D cs ss1 ss2) (hR : jq_R2 b1 b2 D cs σ1 σ2 H) (hS : va_S (fun q => s.heap.size ≤ q) s.heap H locs) (hl : lv_has ls 4 [(0, .ref b), (1, .ref b1), (2, .ref b2), (3, .int (nI i))]) (hcl : cells ≤ 600000) (hsl : slots ≤ 7302250) (hi : i + 6 ≤ L) {r : Int} {σ1' σ2' : jq_M} (h1 : X10_weakest σ1 = some (r, σ1')) (h2 : X11_weakest σ2 = some (r, σ2'))
    (kk : ∀ (H1 : Heap) (locs1 : List Loc), jq_R2 b1 b2 D cs σ1' σ2' H1 → va_S (fun q => s.heap.size ≤ q) s.heap H1 locs1 → W p l e room_1 s m #[Value.ref b] below meth c H1 locs1 cells slots Q (F0 m 2013 ls [])) : W p l e room_1 s m #[Value.ref b] below meth c H locs cells slots Q (F0 m 1849 ls []) := by
  have C1 := C0
  obtain ⟨hx, hb, -⟩ := C1
  refine lv_aload_n hx hb dL_law_1849 rfl (lv_at hl 1 rfl) ?_
  refine law_callX (v := jI r) (avs := []) C0 hR hS hl.1 hcl hsl (ctX10_weakest h1) ml_RL_268 rfl rfl (fun v hv => by cases hv) rfl rfl rfl rfl dL_law_1850 (fun H locs hR hS => ?_)
  refine lv_aload_n hx hb dL_law_1853 rfl (lv_at hl 2 rfl) ?_
  refine law_callM (v := jI r) (avs := []) C0 hR hS hl.1 hcl hsl (ctX11_weakest h2) ml_RL_271 rfl rfl (fun v hv => by cases hv) rfl rfl rfl rfl dL_law_1854 (fun H locs hR hS => ?_)
  exact lv_icmp_eq (tgt := 2013) hx hb dL_law_1857 (by decide) (fun _ => kk H locs hR hS) (fun q => absurd rfl q)
theorem ml_RL_272 : jq_vl RL 272 yX10_copySeats cX10_copySeats 5 (some .int) 1 := ⟨jq_in 1438 (by decide +kernel) rfl, yf_X10_copySeats⟩
theorem ml_RL_275 : jq_vl RL 275 yX11_copySeats cX11_copySeats 3 (some .int) 1 := ⟨jq_in 2303 (by decide +kernel) rfl, yf_X11_copySeats⟩
set_option maxHeartbeats 4000000 in
set_option maxRecDepth 100000 in
theorem law_61 (C0 : jq_LC p s m meth c b L xs b1 b2 D cs ss1 ss2) (hR : jq_R2 b1 b2 D cs σ1 σ2 H) (hS : va_S (fun q => s.heap.size ≤ q) s.heap H locs) (hl : lv_has ls 4 [(0, .ref b), (1, .ref b1), (2, .ref b2), (3, .int (nI i))]) (hcl : cells ≤ 600000) (hsl : slots ≤ 7302250) (hi : i + 6 ≤ L) {r : Int} {σ1' σ2' : jq_M} (h1 : X10_copySeats (jq_a xs i 1) σ1 = some (r, σ1')) (h2 : X11_copySeats (jq_a xs i 1) σ2 = some (r, σ2'))
    (kk : ∀ (H1 : Heap) (locs1 : List Loc), jq_R2 b1 b2 D cs σ1' σ2' H1 → va_S (fun q => s.heap.size ≤ q) s.heap H1 locs1 → W p l e room_1 s m #[Value.ref b] below meth c H1 locs1 cells slots Q (F0 m 2013 ls [])) : W p l e room_1 s m #[Value.ref b] below meth c H locs cells slots Q (F0 m 1862 ls []) := by
  have C1 := C0
  obtain ⟨hx, hb, -⟩ := C1
  refine lv_aload_n hx hb dL_law_1862 rfl (lv_at hl 1 rfl) ?_
  refine law_ld C0 hS hl hi 1 rfl rfl dL_law_1863 dL_law_1864 dL_law_1865 dL_law_1866 dL_law_1867 ?_
  refine law_callX (v := jI r) (avs := [jI (jq_a xs i 1)]) C0 hR hS hl.1 hcl hsl (ctX10_copySeats h1) ml_RL_272 rfl rfl (by unfold jq_os; simp only [List.forall_mem_cons, List.not_mem_nil, false_implies, implies_true, and_true]; exact jq_ti_r _) rfl rfl rfl rfl dL_law_1868 (fun H locs hR hS => ?_)
  refine lv_aload_n hx hb dL_law_1871 rfl (lv_at hl 2 rfl) ?_
  refine law_ld C0 hS hl hi 1 rfl rfl dL_law_1872 dL_law_1873 dL_law_1874 dL_law_1875 dL_law_1876 ?_
  refine law_callM (v := jI r) (avs := [jI (jq_a xs i 1)]) C0 hR hS hl.1 hcl hsl (ctX11_copySeats h2) ml_RL_275 rfl rfl (by unfold jq_os; simp only [List.forall_mem_cons, List.not_mem_nil, false_implies, implies_true, and_true]; exact jq_ti_r _) rfl rfl rfl rfl dL_law_1877 (fun H locs hR hS => ?_)
  exact lv_icmp_eq (tgt := 2013) hx hb dL_law_1880 (by decide) (fun _ => kk H locs hR hS) (fun q => absurd rfl q)
theorem ml_RL_276 : jq_vl RL 276 yX10_seatBy cX10_seatBy 4 (some .int) 1 := ⟨jq_in 1442 (by decide +kernel) rfl, yf_X10_seatBy⟩
theorem ml_RL_279 : jq_vl RL 279 yX11_seatBy cX11_seatBy 4 (some .int) 1 := ⟨jq_in 2307 (by decide +kernel) rfl, yf_X11_seatBy⟩
set_option maxHeartbeats 4000000 in
set_option maxRecDepth 100000 in
theorem law_62 (C0 : jq_LC p s m meth c b L xs b1 b2 D cs ss1 ss2) (hR : jq_R2 b1 b2 D cs σ1 σ2 H) (hS : va_S (fun q => s.heap.size ≤ q) s.heap H locs) (hl : lv_has ls 4 [(0, .ref b), (1, .ref b1), (2, .ref b2), (3, .int (nI i))]) (hcl : cells ≤ 600000) (hsl : slots ≤ 7302250) (hi : i + 6 ≤ L) {r : Int} {σ1' σ2' : jq_M} (h1 : X10_seatBy (jq_a xs i 1) σ1 = some (r, σ1')) (h2 : X11_seatBy (jq_a xs i 1) σ2 = some (r, σ2'))
    (kk : ∀ (H1 : Heap) (locs1 : List Loc), jq_R2 b1 b2 D cs σ1' σ2' H1 → va_S (fun q => s.heap.size ≤ q) s.heap H1 locs1 → W p l e room_1 s m #[Value.ref b] below meth c H1 locs1 cells slots Q (F0 m 2013 ls [])) : W p l e room_1 s m #[Value.ref b] below meth c H locs cells slots Q (F0 m 1885 ls []) := by
  have C1 := C0
  obtain ⟨hx, hb, -⟩ := C1
  refine lv_aload_n hx hb dL_law_1885 rfl (lv_at hl 1 rfl) ?_
  refine law_ld C0 hS hl hi 1 rfl rfl dL_law_1886 dL_law_1887 dL_law_1888 dL_law_1889 dL_law_1890 ?_
  refine law_callX (v := jI r) (avs := [jI (jq_a xs i 1)]) C0 hR hS hl.1 hcl hsl (ctX10_seatBy h1) ml_RL_276 rfl rfl (by unfold jq_os; simp only [List.forall_mem_cons, List.not_mem_nil, false_implies, implies_true, and_true]; exact jq_ti_r _) rfl rfl rfl rfl dL_law_1891 (fun H locs hR hS => ?_)
  refine lv_aload_n hx hb dL_law_1894 rfl (lv_at hl 2 rfl) ?_
  refine law_ld C0 hS hl hi 1 rfl rfl dL_law_1895 dL_law_1896 dL_law_1897 dL_law_1898 dL_law_1899 ?_
  refine law_callM (v := jI r) (avs := [jI (jq_a xs i 1)]) C0 hR hS hl.1 hcl hsl (ctX11_seatBy h2) ml_RL_279 rfl rfl (by unfold jq_os; simp only [List.forall_mem_cons, List.not_mem_nil, false_implies, implies_true, and_true]; exact jq_ti_r _) rfl rfl rfl rfl dL_law_1900 (fun H locs hR hS => ?_)
  exact lv_icmp_eq (tgt := 2013) hx hb dL_law_1903 (by decide) (fun _ => kk H locs hR hS) (fun q => absurd rfl q)
theorem ml_RL_280 : jq_vl RL 280 yX10_live cX10_live 2 (some .int) 1 := ⟨jq_in 1452 (by decide +kernel) rfl, yf_X10_live⟩
theorem ml_RL_283 : jq_vl RL 283 yX11_live cX11_live 3 (some .int) 1 := ⟨jq_in 2315 (by decide +kernel) rfl, yf_X11_live⟩
set_option maxHeartbeats 4000000 in
set_option maxRecDepth 100000 in
theorem law_63 (C0 : jq_LC p s m meth c b L xs b1 b2 D cs ss1 ss2) (hR : jq_R2 b1 b2 D cs σ1 σ2 H) (hS : va_S (fun q => s.heap.size ≤ q) s.heap H locs) (hl : lv_has ls 4 [(0, .ref b), (1, .ref b1), (2, .ref b2), (3, .int (nI i))]) (hcl : cells ≤ 600000) (hsl : slots ≤ 7302250) (hi : i + 6 ≤ L) {r : Int} {σ1' σ2' : jq_M} (h1 : X10_live (jq_a xs i 1) σ1 = some (r, σ1')) (h2 : X11_live (jq_a xs i 1) σ2 = some (r, σ2'))
    (kk : ∀ (H1 : Heap) (locs1 : List Loc), jq_R2 b1 b2 D cs σ1' σ2' H1 → va_S (fun q => s.heap.size ≤ q) s.heap H1 locs1 → W p l e room_1 s m #[Value.ref b] below meth c H1 locs1 cells slots Q (F0 m 2013 ls [])) : W p l e room_1 s m #[Value.ref b] below meth c H locs cells slots Q (F0 m 1908 ls []) := by
  have C1 := C0
  obtain ⟨hx, hb, -⟩ := C1
  refine lv_aload_n hx hb dL_law_1908 rfl (lv_at hl 1 rfl) ?_
  refine law_ld C0 hS hl hi 1 rfl rfl dL_law_1909 dL_law_1910 dL_law_1911 dL_law_1912 dL_law_1913 ?_
  refine law_callX (v := jI r) (avs := [jI (jq_a xs i 1)]) C0 hR hS hl.1 hcl hsl (ctX10_live h1) ml_RL_280 rfl rfl (by unfold jq_os; simp only [List.forall_mem_cons, List.not_mem_nil, false_implies, implies_true, and_true]; exact jq_ti_r _) rfl rfl rfl rfl dL_law_1914 (fun H locs hR hS => ?_)
  refine lv_aload_n hx hb dL_law_1917 rfl (lv_at hl 2 rfl) ?_
  refine law_ld C0 hS hl hi 1 rfl rfl dL_law_1918 dL_law_1919 dL_law_1920 dL_law_1921 dL_law_1922 ?_
  refine law_callM (v := jI r) (avs := [jI (jq_a xs i 1)]) C0 hR hS hl.1 hcl hsl (ctX11_live h2) ml_RL_283 rfl rfl (by unfold jq_os; simp only [List.forall_mem_cons, List.not_mem_nil, false_implies, implies_true, and_true]; exact jq_ti_r _) rfl rfl rfl rfl dL_law_1923 (fun H locs hR hS => ?_)
  exact lv_icmp_eq (tgt := 2013) hx hb dL_law_1926 (by decide) (fun _ => kk H locs hR hS) (fun q => absurd rfl q)
theorem ml_RL_284 : jq_vl RL 284 yX10_lived cX10_lived 2 (some .int) 1 := ⟨jq_in 1532 (by decide +kernel) rfl, yf_X10_lived⟩
theorem ml_RL_287 : jq_vl RL 287 yX11_lived cX11_lived 2 (some .int) 1 := ⟨jq_in 2365 (by decide +kernel) rfl, yf_X11_lived⟩
set_option maxHeartbeats 4000000 in
set_option maxRecDepth 100000 in
theorem law_64 (C0 : jq_LC p s m meth c b L xs b1 b2 D cs ss1 ss2) (hR : jq_R2 b1 b2 D cs σ1 σ2 H) (hS : va_S (fun q => s.heap.size ≤ q) s.heap H locs) (hl : lv_has ls 4 [(0, .ref b), (1, .ref b1), (2, .ref b2), (3, .int (nI i))]) (hcl : cells ≤ 600000) (hsl : slots ≤ 7302250) (hi : i + 6 ≤ L) {r : Int} {σ1' σ2' : jq_M} (h1 : X10_lived (jq_a xs i 1) σ1 = some (r, σ1')) (h2 : X11_lived (jq_a xs i 1) σ2 = some (r, σ2'))
    (kk : ∀ (H1 : Heap) (locs1 : List Loc), jq_R2 b1 b2 D cs σ1' σ2' H1 → va_S (fun q => s.heap.size ≤ q) s.heap H1 locs1 → W p l e room_1 s m #[Value.ref b] below meth c H1 locs1 cells slots Q (F0 m 2013 ls [])) : W p l e room_1 s m #[Value.ref b] below meth c H locs cells slots Q (F0 m 1931 ls []) := by
  have C1 := C0
  obtain ⟨hx, hb, -⟩ := C1
  refine lv_aload_n hx hb dL_law_1931 rfl (lv_at hl 1 rfl) ?_
  refine law_ld C0 hS hl hi 1 rfl rfl dL_law_1932 dL_law_1933 dL_law_1934 dL_law_1935 dL_law_1936 ?_
  refine law_callX (v := jI r) (avs := [jI (jq_a xs i 1)]) C0 hR hS hl.1 hcl hsl (ctX10_lived h1) ml_RL_284 rfl rfl (by unfold jq_os; simp only [List.forall_mem_cons, List.not_mem_nil, false_implies, implies_true, and_true]; exact jq_ti_r _) rfl rfl rfl rfl dL_law_1937 (fun H locs hR hS => ?_)
  refine lv_aload_n hx hb dL_law_1940 rfl (lv_at hl 2 rfl) ?_
  refine law_ld C0 hS hl hi 1 rfl rfl dL_law_1941 dL_law_1942 dL_law_1943 dL_law_1944 dL_law_1945 ?_
  refine law_callM (v := jI r) (avs := [jI (jq_a xs i 1)]) C0 hR hS hl.1 hcl hsl (ctX11_lived h2) ml_RL_287 rfl rfl (by unfold jq_os; simp only [List.forall_mem_cons, List.not_mem_nil, false_implies, implies_true, and_true]; exact jq_ti_r _) rfl rfl rfl rfl dL_law_1946 (fun H locs hR hS => ?_)
  exact lv_icmp_eq (tgt := 2013) hx hb dL_law_1949 (by decide) (fun _ => kk H locs hR hS) (fun q => absurd rfl q)
theorem ml_RL_288 : jq_vl RL 288 yX10_mean cX10_mean 6 (some .boolean) 2 := ⟨jq_in 1536 (by decide +kernel) rfl, yf_X10_mean⟩
theorem ml_RL_291 : jq_vl RL 291 yX11_mean cX11_mean 6 (some .boolean) 2 := ⟨jq_in 2369 (by decide +kernel) rfl, yf_X11_mean⟩
set_option maxHeartbeats 4000000 in
set_option maxRecDepth 100000 in
theorem law_65 (C0 : jq_LC p s m meth c b L xs b1 b2 D cs ss1 ss2) (hR : jq_R2 b1 b2 D cs σ1 σ2 H) (hS : va_S (fun q => s.heap.size ≤ q) s.heap H locs) (hl : lv_has ls 4 [(0, .ref b), (1, .ref b1), (2, .ref b2), (3, .int (nI i))]) (hcl : cells ≤ 600000) (hsl : slots ≤ 7302250) (hi : i + 6 ≤ L) {r : Int} {σ1' σ2' : jq_M} (h1 : X10_mean (jq_a xs i 1) (jq_a xs i 2) σ1 = some (r, σ1')) (h2 : X11_mean (jq_a xs i 1) (jq_a xs i 2) σ2 = some (r, σ2'))
    (kk : ∀ (H1 : Heap) (locs1 : List Loc), jq_R2 b1 b2 D cs σ1' σ2' H1 → va_S (fun q => s.heap.size ≤ q) s.heap H1 locs1 → W p l e room_1 s m #[Value.ref b] below meth c H1 locs1 cells slots Q (F0 m 2013 ls [])) : W p l e room_1 s m #[Value.ref b] below meth c H locs cells slots Q (F0 m 1954 ls []) := by
  have C1 := C0
  obtain ⟨hx, hb, -⟩ := C1
  refine lv_aload_n hx hb dL_law_1954 rfl (lv_at hl 1 rfl) ?_
  refine law_ld C0 hS hl hi 1 rfl rfl dL_law_1955 dL_law_1956 dL_law_1957 dL_law_1958 dL_law_1959 ?_
  refine law_ld C0 hS hl hi 2 rfl rfl dL_law_1960 dL_law_1961 dL_law_1962 dL_law_1963 dL_law_1964 ?_
  refine law_callX (v := jI r) (avs := [jI (jq_a xs i 1), jI (jq_a xs i 2)]) C0 hR hS hl.1 hcl hsl (ctX10_mean h1) ml_RL_288 rfl rfl (by unfold jq_os; simp only [List.forall_mem_cons, List.not_mem_nil, false_implies, implies_true, and_true]; exact ⟨jq_ti_r _, jq_ti_r _⟩) rfl rfl rfl rfl dL_law_1965 (fun H locs hR hS => ?_)
  refine lv_aload_n hx hb dL_law_1968 rfl (lv_at hl 2 rfl) ?_
  refine law_ld C0 hS hl hi 1 rfl rfl dL_law_1969 dL_law_1970 dL_law_1971 dL_law_1972 dL_law_1973 ?_
  refine law_ld C0 hS hl hi 2 rfl rfl dL_law_1974 dL_law_1975 dL_law_1976 dL_law_1977 dL_law_1978 ?_
  refine law_callM (v := jI r) (avs := [jI (jq_a xs i 1), jI (jq_a xs i 2)]) C0 hR hS hl.1 hcl hsl (ctX11_mean h2) ml_RL_291 rfl rfl (by unfold jq_os; simp only [List.forall_mem_cons, List.not_mem_nil, false_implies, implies_true, and_true]; exact ⟨jq_ti_r _, jq_ti_r _⟩) rfl rfl rfl rfl dL_law_1979 (fun H locs hR hS => ?_)
  exact lv_icmp_eq (tgt := 2013) hx hb dL_law_1982 (by decide) (fun _ => kk H locs hR hS) (fun q => absurd rfl q)
theorem ml_RL_292 : jq_vl RL 292 yX10_mark cX10_mark 2 (some .int) 0 := ⟨jq_in 1540 (by decide +kernel) rfl, yf_X10_mark⟩
theorem ml_RL_295 : jq_vl RL 295 yX11_mark cX11_mark 1 (some .int) 0 := ⟨jq_in 2374 (by decide +kernel) rfl, yf_X11_mark⟩
set_option maxHeartbeats 4000000 in
set_option maxRecDepth 100000 in
theorem law_66 (C0 : jq_LC p s m meth c b L xs b1 b2 D cs ss1 ss2) (hR : jq_R2 b1 b2 D cs σ1 σ2 H) (hS : va_S (fun q => s.heap.size ≤ q) s.heap H locs) (hl : lv_has ls 4 [(0, .ref b), (1, .ref b1), (2, .ref b2), (3, .int (nI i))]) (hcl : cells ≤ 600000) (hsl : slots ≤ 7302250) (hi : i + 6 ≤ L) {r : Int} {σ1' σ2' : jq_M} (h1 : X10_mark σ1 = some (r, σ1')) (h2 : X11_mark σ2 = some (r, σ2'))
    (kk : ∀ (H1 : Heap) (locs1 : List Loc), jq_R2 b1 b2 D cs σ1' σ2' H1 → va_S (fun q => s.heap.size ≤ q) s.heap H1 locs1 → W p l e room_1 s m #[Value.ref b] below meth c H1 locs1 cells slots Q (F0 m 2013 ls [])) : W p l e room_1 s m #[Value.ref b] below meth c H locs cells slots Q (F0 m 1987 ls []) := by
  have C1 := C0
  obtain ⟨hx, hb, -⟩ := C1
  refine lv_aload_n hx hb dL_law_1987 rfl (lv_at hl 1 rfl) ?_
  refine law_callX (v := jI r) (avs := []) C0 hR hS hl.1 hcl hsl (ctX10_mark h1) ml_RL_292 rfl rfl (fun v hv => by cases hv) rfl rfl rfl rfl dL_law_1988 (fun H locs hR hS => ?_)
  refine lv_aload_n hx hb dL_law_1991 rfl (lv_at hl 2 rfl) ?_
  refine law_callM (v := jI r) (avs := []) C0 hR hS hl.1 hcl hsl (ctX11_mark h2) ml_RL_295 rfl rfl (fun v hv => by cases hv) rfl rfl rfl rfl dL_law_1992 (fun H locs hR hS => ?_)
  exact lv_icmp_eq (tgt := 2013) hx hb dL_law_1995 (by decide) (fun _ => kk H locs hR hS) (fun q => absurd rfl q)
theorem ml_RL_296 : jq_vl RL 296 yX10_undo cX10_undo 2 (some .int) 0 := ⟨jq_in 1548 (by decide +kernel) rfl, yf_X10_undo⟩
theorem ml_RL_299 : jq_vl RL 299 yX11_undo cX11_undo 1 (some .int) 0 := ⟨jq_in 2382 (by decide +kernel) rfl, yf_X11_undo⟩
set_option maxHeartbeats 4000000 in
set_option maxRecDepth 100000 in
theorem law_67 (C0 : jq_LC p s m meth c b L xs b1 b2 D cs ss1 ss2) (hR : jq_R2 b1 b2 D cs σ1 σ2 H) (hS : va_S (fun q => s.heap.size ≤ q) s.heap H locs) (hl : lv_has ls 4 [(0, .ref b), (1, .ref b1), (2, .ref b2), (3, .int (nI i))]) (hcl : cells ≤ 600000) (hsl : slots ≤ 7302250) (hi : i + 6 ≤ L) {r : Int} {σ1' σ2' : jq_M} (h1 : X10_undo σ1 = some (r, σ1')) (h2 : X11_undo σ2 = some (r, σ2'))
    (kk : ∀ (H1 : Heap) (locs1 : List Loc), jq_R2 b1 b2 D cs σ1' σ2' H1 → va_S (fun q => s.heap.size ≤ q) s.heap H1 locs1 → W p l e room_1 s m #[Value.ref b] below meth c H1 locs1 cells slots Q (F0 m 2013 ls [])) : W p l e room_1 s m #[Value.ref b] below meth c H locs cells slots Q (F0 m 2000 ls []) := by
  have C1 := C0
  obtain ⟨hx, hb, -⟩ := C1
  refine lv_aload_n hx hb dL_law_2000 rfl (lv_at hl 1 rfl) ?_
  refine law_callX (v := jI r) (avs := []) C0 hR hS hl.1 hcl hsl (ctX10_undo h1) ml_RL_296 rfl rfl (fun v hv => by cases hv) rfl rfl rfl rfl dL_law_2001 (fun H locs hR hS => ?_)
  refine lv_aload_n hx hb dL_law_2004 rfl (lv_at hl 2 rfl) ?_
  refine law_callM (v := jI r) (avs := []) C0 hR hS hl.1 hcl hsl (ctX11_undo h2) ml_RL_299 rfl rfl (fun v hv => by cases hv) rfl rfl rfl rfl dL_law_2005 (fun H locs hR hS => ?_)
  exact lv_icmp_eq (tgt := 2013) hx hb dL_law_2008 (by decide) (fun _ => kk H locs hR hS) (fun q => absurd rfl q)
end
