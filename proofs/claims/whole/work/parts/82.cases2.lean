/-! the law, call by call, printed by wip/gen/gl.py -/
theorem lk_11 {p : Program} {l : Launch} {e : Env} {s : State} {m : MethodId} {below : List Frame} {meth : Method} {c : Code} {b L : Nat} {xs : Nat → Int32} {D : va_G} {am bm : Nat → Nat} {cI cC cS cZ : ClassId} {H : Heap} {locs : List Loc} {ls : Array Slot} {Q : State → Prop} {N : Nat} {cs ms : PS} {x3 : Int32} (C0 : LC p s m meth c b L xs D am bm cI cC cS cZ) (hN : 2000000 ≤ N) (hI : LI D am bm cI cC cS cZ s H locs cs ms) (hR : Rel cs ms) (hl : lv_has ls 4 [(0, .ref b), (1, .ref (am 0)), (2, .ref (bm 0)), (3, .int x3)]) (h1 : vp_in (x3 + 1) L) (h2 : vp_in (x3 + 2) L) (h3 : vp_in (x3 + 3) L) (kk : ∀ (H1 : Heap) (locs1 : List Loc) (cs1 ms1 : PS), LI D am bm cI cC cS cZ s H1 locs1 cs1 ms1 → Rel cs1 ms1 → W p l e room_1 s m #[Value.ref b] below meth c H1 locs1 76 4305 Q (F0 m 963 ls [])) : W p l e room_1 s m #[Value.ref b] below meth c H locs 76 4305 Q (F0 m 469 ls []) := by
  have C1 := C0
  obtain ⟨⟨hx, hb, -, -, -, hts0, hX, hbl, -, -⟩, -, -, hj, hj2, -⟩ := C1
  have hts : ∀ w ∈ wsL_law, w.before #[Value.ref b] s = true := fun w h => hts0 w (wsL_law_in w h)
  have hbA : ¬ lA s b := Nat.not_le.mpr hbl
  obtain ⟨r, cs2, ms2, e1, e2, hR2⟩ := op_hangs (N := N) (x := (xs (x3 + 1).toNatClampNeg)) (y := (xs (x3 + 2).toNatClampNeg)) (by omega) cs ms hR
  refine lv_aload_n hx hb dL_law_469 rfl (lv_at hl 1 rfl) ?_
  refine lv_aload_n hx hb dL_law_470 rfl (lv_at hl 0 rfl) ?_
  refine lv_iload_n hx hb dL_law_471 rfl (lv_at hl 3 rfl) ?_
  refine lv_iconst (v := (1 : Int32)) hx hb dL_law_472 (by decide) ?_
  refine lv_iadd hx hb dL_law_473 ?_
  refine va_sld hx hb hX hbl hbA hI.2.2 h1 dL_law_474 ?_
  refine lv_aload_n hx hb dL_law_475 rfl (lv_at hl 0 rfl) ?_
  refine lv_iload_n hx hb dL_law_476 rfl (lv_at hl 3 rfl) ?_
  refine lv_iconst (v := (2 : Int32)) hx hb dL_law_477 (by decide) ?_
  refine lv_iadd hx hb dL_law_478 ?_
  refine va_sld hx hb hX hbl hbA hI.2.2 h2 dL_law_479 ?_
  refine lcC C0 (As := [.int (xs (x3 + 1).toNatClampNeg), .int (xs (x3 + 2).toNatClampNeg)]) (rest := []) (jw_X8_hangs D am cI cC cS hj N e1) (cwV 2 hts gL_law_X8_hangs rfl rfl rfl yd_X8_hangs ⟨Nat.le_of_ble_eq_true rfl, Nat.le_of_ble_eq_true rfl⟩) hI rfl hl.1 rfl (Nat.le_of_ble_eq_true rfl) dL_law_480 (fun H locs hI => ?_)
  refine lv_aload_n hx hb dL_law_483 rfl (lv_at hl 2 rfl) ?_
  refine lv_aload_n hx hb dL_law_484 rfl (lv_at hl 0 rfl) ?_
  refine lv_iload_n hx hb dL_law_485 rfl (lv_at hl 3 rfl) ?_
  refine lv_iconst (v := (1 : Int32)) hx hb dL_law_486 (by decide) ?_
  refine lv_iadd hx hb dL_law_487 ?_
  refine va_sld hx hb hX hbl hbA hI.2.2 h1 dL_law_488 ?_
  refine lv_aload_n hx hb dL_law_489 rfl (lv_at hl 0 rfl) ?_
  refine lv_iload_n hx hb dL_law_490 rfl (lv_at hl 3 rfl) ?_
  refine lv_iconst (v := (2 : Int32)) hx hb dL_law_491 (by decide) ?_
  refine lv_iadd hx hb dL_law_492 ?_
  refine va_sld hx hb hX hbl hbA hI.2.2 h2 dL_law_493 ?_
  refine lcM C0 (As := [.int (xs (x3 + 1).toNatClampNeg), .int (xs (x3 + 2).toNatClampNeg)]) (rest := [.int r]) (jw_X9_hangs D bm cI cZ hj2 N e2) (cwV 2 hts gL_law_X9_hangs rfl rfl rfl yd_X9_hangs ⟨Nat.le_of_ble_eq_true rfl, Nat.le_of_ble_eq_true rfl⟩) hI rfl hl.1 rfl (Nat.le_of_ble_eq_true rfl) dL_law_494 (fun H locs hI => ?_)
  exact lv_icmp_eq (tgt := 963) hx hb dL_law_497 (by decide) (fun _ => kk _ _ _ _ hI hR2) (fun z => absurd rfl z)
theorem lk_12 {p : Program} {l : Launch} {e : Env} {s : State} {m : MethodId} {below : List Frame} {meth : Method} {c : Code} {b L : Nat} {xs : Nat → Int32} {D : va_G} {am bm : Nat → Nat} {cI cC cS cZ : ClassId} {H : Heap} {locs : List Loc} {ls : Array Slot} {Q : State → Prop} {N : Nat} {cs ms : PS} {x3 : Int32} (C0 : LC p s m meth c b L xs D am bm cI cC cS cZ) (hN : 2000000 ≤ N) (hI : LI D am bm cI cC cS cZ s H locs cs ms) (hR : Rel cs ms) (hl : lv_has ls 4 [(0, .ref b), (1, .ref (am 0)), (2, .ref (bm 0)), (3, .int x3)]) (h1 : vp_in (x3 + 1) L) (h2 : vp_in (x3 + 2) L) (h3 : vp_in (x3 + 3) L) (kk : ∀ (H1 : Heap) (locs1 : List Loc) (cs1 ms1 : PS), LI D am bm cI cC cS cZ s H1 locs1 cs1 ms1 → Rel cs1 ms1 → W p l e room_1 s m #[Value.ref b] below meth c H1 locs1 76 4305 Q (F0 m 963 ls [])) : W p l e room_1 s m #[Value.ref b] below meth c H locs 76 4305 Q (F0 m 502 ls []) := by
  have C1 := C0
  obtain ⟨⟨hx, hb, -, -, -, hts0, hX, hbl, -, -⟩, -, -, hj, hj2, -⟩ := C1
  have hts : ∀ w ∈ wsL_law, w.before #[Value.ref b] s = true := fun w h => hts0 w (wsL_law_in w h)
  have hbA : ¬ lA s b := Nat.not_le.mpr hbl
  obtain ⟨r, cs2, ms2, e1, e2, hR2⟩ := op_holds (N := N) (by omega) cs ms hR
  refine lv_aload_n hx hb dL_law_502 rfl (lv_at hl 1 rfl) ?_
  refine lcC C0 (As := []) (rest := []) (jw_X8_holds D am cI cC cS hj N e1) (cwV 0 hts gL_law_X8_holds rfl rfl rfl yd_X8_holds ⟨Nat.le_of_ble_eq_true rfl, Nat.le_of_ble_eq_true rfl⟩) hI rfl hl.1 rfl (Nat.le_of_ble_eq_true rfl) dL_law_503 (fun H locs hI => ?_)
  refine lv_aload_n hx hb dL_law_506 rfl (lv_at hl 2 rfl) ?_
  refine lcM C0 (As := []) (rest := [.int r]) (jw_X9_holds D bm cI cZ hj2 N e2) (cwV 0 hts gL_law_X9_holds rfl rfl rfl yd_X9_holds ⟨Nat.le_of_ble_eq_true rfl, Nat.le_of_ble_eq_true rfl⟩) hI rfl hl.1 rfl (Nat.le_of_ble_eq_true rfl) dL_law_507 (fun H locs hI => ?_)
  exact lv_icmp_eq (tgt := 963) hx hb dL_law_510 (by decide) (fun _ => kk _ _ _ _ hI hR2) (fun z => absurd rfl z)
theorem lk_13 {p : Program} {l : Launch} {e : Env} {s : State} {m : MethodId} {below : List Frame} {meth : Method} {c : Code} {b L : Nat} {xs : Nat → Int32} {D : va_G} {am bm : Nat → Nat} {cI cC cS cZ : ClassId} {H : Heap} {locs : List Loc} {ls : Array Slot} {Q : State → Prop} {N : Nat} {cs ms : PS} {x3 : Int32} (C0 : LC p s m meth c b L xs D am bm cI cC cS cZ) (hN : 2000000 ≤ N) (hI : LI D am bm cI cC cS cZ s H locs cs ms) (hR : Rel cs ms) (hl : lv_has ls 4 [(0, .ref b), (1, .ref (am 0)), (2, .ref (bm 0)), (3, .int x3)]) (h1 : vp_in (x3 + 1) L) (h2 : vp_in (x3 + 2) L) (h3 : vp_in (x3 + 3) L) (kk : ∀ (H1 : Heap) (locs1 : List Loc) (cs1 ms1 : PS), LI D am bm cI cC cS cZ s H1 locs1 cs1 ms1 → Rel cs1 ms1 → W p l e room_1 s m #[Value.ref b] below meth c H1 locs1 76 4305 Q (F0 m 963 ls [])) : W p l e room_1 s m #[Value.ref b] below meth c H locs 76 4305 Q (F0 m 515 ls []) := by
  have C1 := C0
  obtain ⟨⟨hx, hb, -, -, -, hts0, hX, hbl, -, -⟩, -, -, hj, hj2, -⟩ := C1
  have hts : ∀ w ∈ wsL_law, w.before #[Value.ref b] s = true := fun w h => hts0 w (wsL_law_in w h)
  have hbA : ¬ lA s b := Nat.not_le.mpr hbl
  obtain ⟨r, cs2, ms2, e1, e2, hR2⟩ := op_beats (N := N) (x := (xs (x3 + 1).toNatClampNeg)) (by omega) cs ms hR
  refine lv_aload_n hx hb dL_law_515 rfl (lv_at hl 1 rfl) ?_
  refine lv_aload_n hx hb dL_law_516 rfl (lv_at hl 0 rfl) ?_
  refine lv_iload_n hx hb dL_law_517 rfl (lv_at hl 3 rfl) ?_
  refine lv_iconst (v := (1 : Int32)) hx hb dL_law_518 (by decide) ?_
  refine lv_iadd hx hb dL_law_519 ?_
  refine va_sld hx hb hX hbl hbA hI.2.2 h1 dL_law_520 ?_
  refine lcC C0 (As := [.int (xs (x3 + 1).toNatClampNeg)]) (rest := []) (jw_X8_beats D am cI cC cS hj N e1) (cwV 1 hts gL_law_X8_beats rfl rfl rfl yd_X8_beats ⟨Nat.le_of_ble_eq_true rfl, Nat.le_of_ble_eq_true rfl⟩) hI rfl hl.1 rfl (Nat.le_of_ble_eq_true rfl) dL_law_521 (fun H locs hI => ?_)
  refine lv_aload_n hx hb dL_law_524 rfl (lv_at hl 2 rfl) ?_
  refine lv_aload_n hx hb dL_law_525 rfl (lv_at hl 0 rfl) ?_
  refine lv_iload_n hx hb dL_law_526 rfl (lv_at hl 3 rfl) ?_
  refine lv_iconst (v := (1 : Int32)) hx hb dL_law_527 (by decide) ?_
  refine lv_iadd hx hb dL_law_528 ?_
  refine va_sld hx hb hX hbl hbA hI.2.2 h1 dL_law_529 ?_
  refine lcM C0 (As := [.int (xs (x3 + 1).toNatClampNeg)]) (rest := [.int r]) (jw_X9_beats D bm cI cZ hj2 N e2) (cwV 1 hts gL_law_X9_beats rfl rfl rfl yd_X9_beats ⟨Nat.le_of_ble_eq_true rfl, Nat.le_of_ble_eq_true rfl⟩) hI rfl hl.1 rfl (Nat.le_of_ble_eq_true rfl) dL_law_530 (fun H locs hI => ?_)
  exact lv_icmp_eq (tgt := 963) hx hb dL_law_533 (by decide) (fun _ => kk _ _ _ _ hI hR2) (fun z => absurd rfl z)
theorem lk_14 {p : Program} {l : Launch} {e : Env} {s : State} {m : MethodId} {below : List Frame} {meth : Method} {c : Code} {b L : Nat} {xs : Nat → Int32} {D : va_G} {am bm : Nat → Nat} {cI cC cS cZ : ClassId} {H : Heap} {locs : List Loc} {ls : Array Slot} {Q : State → Prop} {N : Nat} {cs ms : PS} {x3 : Int32} (C0 : LC p s m meth c b L xs D am bm cI cC cS cZ) (hN : 2000000 ≤ N) (hI : LI D am bm cI cC cS cZ s H locs cs ms) (hR : Rel cs ms) (hl : lv_has ls 4 [(0, .ref b), (1, .ref (am 0)), (2, .ref (bm 0)), (3, .int x3)]) (h1 : vp_in (x3 + 1) L) (h2 : vp_in (x3 + 2) L) (h3 : vp_in (x3 + 3) L) (kk : ∀ (H1 : Heap) (locs1 : List Loc) (cs1 ms1 : PS), LI D am bm cI cC cS cZ s H1 locs1 cs1 ms1 → Rel cs1 ms1 → W p l e room_1 s m #[Value.ref b] below meth c H1 locs1 76 4305 Q (F0 m 963 ls [])) : W p l e room_1 s m #[Value.ref b] below meth c H locs 76 4305 Q (F0 m 538 ls []) := by
  have C1 := C0
  obtain ⟨⟨hx, hb, -, -, -, hts0, hX, hbl, -, -⟩, -, -, hj, hj2, -⟩ := C1
  have hts : ∀ w ∈ wsL_law, w.before #[Value.ref b] s = true := fun w h => hts0 w (wsL_law_in w h)
  have hbA : ¬ lA s b := Nat.not_le.mpr hbl
  obtain ⟨r, cs2, ms2, e1, e2, hR2⟩ := op_undo (N := N) (by omega) cs ms hR
  refine lv_aload_n hx hb dL_law_538 rfl (lv_at hl 1 rfl) ?_
  refine lcC C0 (As := []) (rest := []) (jw_X8_undo D am cI cC cS hj N e1) (cwV 0 hts gL_law_X8_undo rfl rfl rfl yd_X8_undo ⟨Nat.le_of_ble_eq_true rfl, Nat.le_of_ble_eq_true rfl⟩) hI rfl hl.1 rfl (Nat.le_of_ble_eq_true rfl) dL_law_539 (fun H locs hI => ?_)
  refine lv_aload_n hx hb dL_law_542 rfl (lv_at hl 2 rfl) ?_
  refine lcM C0 (As := []) (rest := [.int r]) (jw_X9_undo D bm cI cZ hj2 N e2) (cwV 0 hts gL_law_X9_undo rfl rfl rfl yd_X9_undo ⟨Nat.le_of_ble_eq_true rfl, Nat.le_of_ble_eq_true rfl⟩) hI rfl hl.1 rfl (Nat.le_of_ble_eq_true rfl) dL_law_543 (fun H locs hI => ?_)
  exact lv_icmp_eq (tgt := 963) hx hb dL_law_546 (by decide) (fun _ => kk _ _ _ _ hI hR2) (fun z => absurd rfl z)
theorem lk_15 {p : Program} {l : Launch} {e : Env} {s : State} {m : MethodId} {below : List Frame} {meth : Method} {c : Code} {b L : Nat} {xs : Nat → Int32} {D : va_G} {am bm : Nat → Nat} {cI cC cS cZ : ClassId} {H : Heap} {locs : List Loc} {ls : Array Slot} {Q : State → Prop} {N : Nat} {cs ms : PS} {x3 : Int32} (C0 : LC p s m meth c b L xs D am bm cI cC cS cZ) (hN : 2000000 ≤ N) (hI : LI D am bm cI cC cS cZ s H locs cs ms) (hR : Rel cs ms) (hl : lv_has ls 4 [(0, .ref b), (1, .ref (am 0)), (2, .ref (bm 0)), (3, .int x3)]) (h1 : vp_in (x3 + 1) L) (h2 : vp_in (x3 + 2) L) (h3 : vp_in (x3 + 3) L) (kk : ∀ (H1 : Heap) (locs1 : List Loc) (cs1 ms1 : PS), LI D am bm cI cC cS cZ s H1 locs1 cs1 ms1 → Rel cs1 ms1 → W p l e room_1 s m #[Value.ref b] below meth c H1 locs1 76 4305 Q (F0 m 963 ls [])) : W p l e room_1 s m #[Value.ref b] below meth c H locs 76 4305 Q (F0 m 551 ls []) := by
  have C1 := C0
  obtain ⟨⟨hx, hb, -, -, -, hts0, hX, hbl, -, -⟩, -, -, hj, hj2, -⟩ := C1
  have hts : ∀ w ∈ wsL_law, w.before #[Value.ref b] s = true := fun w h => hts0 w (wsL_law_in w h)
  have hbA : ¬ lA s b := Nat.not_le.mpr hbl
  obtain ⟨r, cs2, ms2, e1, e2, hR2⟩ := op_now (N := N) (x := (xs (x3 + 1).toNatClampNeg)) (by omega) cs ms hR
  refine lv_aload_n hx hb dL_law_551 rfl (lv_at hl 1 rfl) ?_
  refine lv_aload_n hx hb dL_law_552 rfl (lv_at hl 0 rfl) ?_
  refine lv_iload_n hx hb dL_law_553 rfl (lv_at hl 3 rfl) ?_
  refine lv_iconst (v := (1 : Int32)) hx hb dL_law_554 (by decide) ?_
  refine lv_iadd hx hb dL_law_555 ?_
  refine va_sld hx hb hX hbl hbA hI.2.2 h1 dL_law_556 ?_
  refine lcC C0 (As := [.int (xs (x3 + 1).toNatClampNeg)]) (rest := []) (jw_X8_now D am cI cC cS hj N e1) (cwV 1 hts gL_law_X8_now rfl rfl rfl yd_X8_now ⟨Nat.le_of_ble_eq_true rfl, Nat.le_of_ble_eq_true rfl⟩) hI rfl hl.1 rfl (Nat.le_of_ble_eq_true rfl) dL_law_557 (fun H locs hI => ?_)
  refine lv_aload_n hx hb dL_law_560 rfl (lv_at hl 2 rfl) ?_
  refine lv_aload_n hx hb dL_law_561 rfl (lv_at hl 0 rfl) ?_
  refine lv_iload_n hx hb dL_law_562 rfl (lv_at hl 3 rfl) ?_
  refine lv_iconst (v := (1 : Int32)) hx hb dL_law_563 (by decide) ?_
  refine lv_iadd hx hb dL_law_564 ?_
  refine va_sld hx hb hX hbl hbA hI.2.2 h1 dL_law_565 ?_
  refine lcM C0 (As := [.int (xs (x3 + 1).toNatClampNeg)]) (rest := [.int r]) (jw_X9_now D bm cI cZ hj2 N e2) (cwV 1 hts gL_law_X9_now rfl rfl rfl yd_X9_now ⟨Nat.le_of_ble_eq_true rfl, Nat.le_of_ble_eq_true rfl⟩) hI rfl hl.1 rfl (Nat.le_of_ble_eq_true rfl) dL_law_566 (fun H locs hI => ?_)
  exact lv_icmp_eq (tgt := 963) hx hb dL_law_569 (by decide) (fun _ => kk _ _ _ _ hI hR2) (fun z => absurd rfl z)
theorem lk_16 {p : Program} {l : Launch} {e : Env} {s : State} {m : MethodId} {below : List Frame} {meth : Method} {c : Code} {b L : Nat} {xs : Nat → Int32} {D : va_G} {am bm : Nat → Nat} {cI cC cS cZ : ClassId} {H : Heap} {locs : List Loc} {ls : Array Slot} {Q : State → Prop} {N : Nat} {cs ms : PS} {x3 : Int32} (C0 : LC p s m meth c b L xs D am bm cI cC cS cZ) (hN : 2000000 ≤ N) (hI : LI D am bm cI cC cS cZ s H locs cs ms) (hR : Rel cs ms) (hl : lv_has ls 4 [(0, .ref b), (1, .ref (am 0)), (2, .ref (bm 0)), (3, .int x3)]) (h1 : vp_in (x3 + 1) L) (h2 : vp_in (x3 + 2) L) (h3 : vp_in (x3 + 3) L) (kk : ∀ (H1 : Heap) (locs1 : List Loc) (cs1 ms1 : PS), LI D am bm cI cC cS cZ s H1 locs1 cs1 ms1 → Rel cs1 ms1 → W p l e room_1 s m #[Value.ref b] below meth c H1 locs1 76 4305 Q (F0 m 963 ls [])) : W p l e room_1 s m #[Value.ref b] below meth c H locs 76 4305 Q (F0 m 574 ls []) := by
  have C1 := C0
  obtain ⟨⟨hx, hb, -, -, -, hts0, hX, hbl, -, -⟩, -, -, hj, hj2, -⟩ := C1
  have hts : ∀ w ∈ wsL_law, w.before #[Value.ref b] s = true := fun w h => hts0 w (wsL_law_in w h)
  have hbA : ¬ lA s b := Nat.not_le.mpr hbl
  obtain ⟨r, cs2, ms2, e1, e2, hR2⟩ := op_reach (N := N) (x := (xs (x3 + 1).toNatClampNeg)) (y := (xs (x3 + 2).toNatClampNeg)) (by omega) cs ms hR
  refine lv_aload_n hx hb dL_law_574 rfl (lv_at hl 1 rfl) ?_
  refine lv_aload_n hx hb dL_law_575 rfl (lv_at hl 0 rfl) ?_
  refine lv_iload_n hx hb dL_law_576 rfl (lv_at hl 3 rfl) ?_
  refine lv_iconst (v := (1 : Int32)) hx hb dL_law_577 (by decide) ?_
  refine lv_iadd hx hb dL_law_578 ?_
  refine va_sld hx hb hX hbl hbA hI.2.2 h1 dL_law_579 ?_
  refine lv_aload_n hx hb dL_law_580 rfl (lv_at hl 0 rfl) ?_
  refine lv_iload_n hx hb dL_law_581 rfl (lv_at hl 3 rfl) ?_
  refine lv_iconst (v := (2 : Int32)) hx hb dL_law_582 (by decide) ?_
  refine lv_iadd hx hb dL_law_583 ?_
  refine va_sld hx hb hX hbl hbA hI.2.2 h2 dL_law_584 ?_
  refine lcC C0 (As := [.int (xs (x3 + 1).toNatClampNeg), .int (xs (x3 + 2).toNatClampNeg)]) (rest := []) (jw_X8_reach D am cI cC cS hj N e1) (cwV 2 hts gL_law_X8_reach rfl rfl rfl yd_X8_reach ⟨Nat.le_of_ble_eq_true rfl, Nat.le_of_ble_eq_true rfl⟩) hI rfl hl.1 rfl (Nat.le_of_ble_eq_true rfl) dL_law_585 (fun H locs hI => ?_)
  refine lv_aload_n hx hb dL_law_588 rfl (lv_at hl 2 rfl) ?_
  refine lv_aload_n hx hb dL_law_589 rfl (lv_at hl 0 rfl) ?_
  refine lv_iload_n hx hb dL_law_590 rfl (lv_at hl 3 rfl) ?_
  refine lv_iconst (v := (1 : Int32)) hx hb dL_law_591 (by decide) ?_
  refine lv_iadd hx hb dL_law_592 ?_
  refine va_sld hx hb hX hbl hbA hI.2.2 h1 dL_law_593 ?_
  refine lv_aload_n hx hb dL_law_594 rfl (lv_at hl 0 rfl) ?_
  refine lv_iload_n hx hb dL_law_595 rfl (lv_at hl 3 rfl) ?_
  refine lv_iconst (v := (2 : Int32)) hx hb dL_law_596 (by decide) ?_
  refine lv_iadd hx hb dL_law_597 ?_
  refine va_sld hx hb hX hbl hbA hI.2.2 h2 dL_law_598 ?_
  refine lcM C0 (As := [.int (xs (x3 + 1).toNatClampNeg), .int (xs (x3 + 2).toNatClampNeg)]) (rest := [.int r]) (jw_X9_reach D bm cI cZ hj2 N e2) (cwV 2 hts gL_law_X9_reach rfl rfl rfl yd_X9_reach ⟨Nat.le_of_ble_eq_true rfl, Nat.le_of_ble_eq_true rfl⟩) hI rfl hl.1 rfl (Nat.le_of_ble_eq_true rfl) dL_law_599 (fun H locs hI => ?_)
  exact lv_icmp_eq (tgt := 963) hx hb dL_law_602 (by decide) (fun _ => kk _ _ _ _ hI hR2) (fun z => absurd rfl z)
theorem lk_17 {p : Program} {l : Launch} {e : Env} {s : State} {m : MethodId} {below : List Frame} {meth : Method} {c : Code} {b L : Nat} {xs : Nat → Int32} {D : va_G} {am bm : Nat → Nat} {cI cC cS cZ : ClassId} {H : Heap} {locs : List Loc} {ls : Array Slot} {Q : State → Prop} {N : Nat} {cs ms : PS} {x3 : Int32} (C0 : LC p s m meth c b L xs D am bm cI cC cS cZ) (hN : 2000000 ≤ N) (hI : LI D am bm cI cC cS cZ s H locs cs ms) (hR : Rel cs ms) (hl : lv_has ls 4 [(0, .ref b), (1, .ref (am 0)), (2, .ref (bm 0)), (3, .int x3)]) (h1 : vp_in (x3 + 1) L) (h2 : vp_in (x3 + 2) L) (h3 : vp_in (x3 + 3) L) (kk : ∀ (H1 : Heap) (locs1 : List Loc) (cs1 ms1 : PS), LI D am bm cI cC cS cZ s H1 locs1 cs1 ms1 → Rel cs1 ms1 → W p l e room_1 s m #[Value.ref b] below meth c H1 locs1 76 4305 Q (F0 m 963 ls [])) : W p l e room_1 s m #[Value.ref b] below meth c H locs 76 4305 Q (F0 m 607 ls []) := by
  have C1 := C0
  obtain ⟨⟨hx, hb, -, -, -, hts0, hX, hbl, -, -⟩, -, -, hj, hj2, -⟩ := C1
  have hts : ∀ w ∈ wsL_law, w.before #[Value.ref b] s = true := fun w h => hts0 w (wsL_law_in w h)
  have hbA : ¬ lA s b := Nat.not_le.mpr hbl
  obtain ⟨r, cs2, ms2, e1, e2, hR2⟩ := op_fell (N := N) (x := (xs (x3 + 1).toNatClampNeg)) (by omega) cs ms hR
  refine lv_aload_n hx hb dL_law_607 rfl (lv_at hl 1 rfl) ?_
  refine lv_aload_n hx hb dL_law_608 rfl (lv_at hl 0 rfl) ?_
  refine lv_iload_n hx hb dL_law_609 rfl (lv_at hl 3 rfl) ?_
  refine lv_iconst (v := (1 : Int32)) hx hb dL_law_610 (by decide) ?_
  refine lv_iadd hx hb dL_law_611 ?_
  refine va_sld hx hb hX hbl hbA hI.2.2 h1 dL_law_612 ?_
  refine lcC C0 (As := [.int (xs (x3 + 1).toNatClampNeg)]) (rest := []) (jw_X8_fell D am cI cC cS hj N e1) (cwV 1 hts gL_law_X8_fell rfl rfl rfl yd_X8_fell ⟨Nat.le_of_ble_eq_true rfl, Nat.le_of_ble_eq_true rfl⟩) hI rfl hl.1 rfl (Nat.le_of_ble_eq_true rfl) dL_law_613 (fun H locs hI => ?_)
  refine lv_aload_n hx hb dL_law_616 rfl (lv_at hl 2 rfl) ?_
  refine lv_aload_n hx hb dL_law_617 rfl (lv_at hl 0 rfl) ?_
  refine lv_iload_n hx hb dL_law_618 rfl (lv_at hl 3 rfl) ?_
  refine lv_iconst (v := (1 : Int32)) hx hb dL_law_619 (by decide) ?_
  refine lv_iadd hx hb dL_law_620 ?_
  refine va_sld hx hb hX hbl hbA hI.2.2 h1 dL_law_621 ?_
  refine lcM C0 (As := [.int (xs (x3 + 1).toNatClampNeg)]) (rest := [.int r]) (jw_X9_fell D bm cI cZ hj2 N e2) (cwV 1 hts gL_law_X9_fell rfl rfl rfl yd_X9_fell ⟨Nat.le_of_ble_eq_true rfl, Nat.le_of_ble_eq_true rfl⟩) hI rfl hl.1 rfl (Nat.le_of_ble_eq_true rfl) dL_law_622 (fun H locs hI => ?_)
  exact lv_icmp_eq (tgt := 963) hx hb dL_law_625 (by decide) (fun _ => kk _ _ _ _ hI hR2) (fun z => absurd rfl z)
theorem lk_18 {p : Program} {l : Launch} {e : Env} {s : State} {m : MethodId} {below : List Frame} {meth : Method} {c : Code} {b L : Nat} {xs : Nat → Int32} {D : va_G} {am bm : Nat → Nat} {cI cC cS cZ : ClassId} {H : Heap} {locs : List Loc} {ls : Array Slot} {Q : State → Prop} {N : Nat} {cs ms : PS} {x3 : Int32} (C0 : LC p s m meth c b L xs D am bm cI cC cS cZ) (hN : 2000000 ≤ N) (hI : LI D am bm cI cC cS cZ s H locs cs ms) (hR : Rel cs ms) (hl : lv_has ls 4 [(0, .ref b), (1, .ref (am 0)), (2, .ref (bm 0)), (3, .int x3)]) (h1 : vp_in (x3 + 1) L) (h2 : vp_in (x3 + 2) L) (h3 : vp_in (x3 + 3) L) (kk : ∀ (H1 : Heap) (locs1 : List Loc) (cs1 ms1 : PS), LI D am bm cI cC cS cZ s H1 locs1 cs1 ms1 → Rel cs1 ms1 → W p l e room_1 s m #[Value.ref b] below meth c H1 locs1 76 4305 Q (F0 m 963 ls [])) : W p l e room_1 s m #[Value.ref b] below meth c H locs 76 4305 Q (F0 m 630 ls []) := by
  have C1 := C0
  obtain ⟨⟨hx, hb, -, -, -, hts0, hX, hbl, -, -⟩, -, -, hj, hj2, -⟩ := C1
  have hts : ∀ w ∈ wsL_law, w.before #[Value.ref b] s = true := fun w h => hts0 w (wsL_law_in w h)
  have hbA : ¬ lA s b := Nat.not_le.mpr hbl
  obtain ⟨r, cs2, ms2, e1, e2, hR2⟩ := op_path (N := N) (x := (xs (x3 + 1).toNatClampNeg)) (y := (xs (x3 + 2).toNatClampNeg)) (by omega) cs ms hR
  refine lv_aload_n hx hb dL_law_630 rfl (lv_at hl 1 rfl) ?_
  refine lv_aload_n hx hb dL_law_631 rfl (lv_at hl 0 rfl) ?_
  refine lv_iload_n hx hb dL_law_632 rfl (lv_at hl 3 rfl) ?_
  refine lv_iconst (v := (1 : Int32)) hx hb dL_law_633 (by decide) ?_
  refine lv_iadd hx hb dL_law_634 ?_
  refine va_sld hx hb hX hbl hbA hI.2.2 h1 dL_law_635 ?_
  refine lv_aload_n hx hb dL_law_636 rfl (lv_at hl 0 rfl) ?_
  refine lv_iload_n hx hb dL_law_637 rfl (lv_at hl 3 rfl) ?_
  refine lv_iconst (v := (2 : Int32)) hx hb dL_law_638 (by decide) ?_
  refine lv_iadd hx hb dL_law_639 ?_
  refine va_sld hx hb hX hbl hbA hI.2.2 h2 dL_law_640 ?_
  refine lcC C0 (As := [.int (xs (x3 + 1).toNatClampNeg), .int (xs (x3 + 2).toNatClampNeg)]) (rest := []) (jw_X8_path D am cI cC cS hj N e1) (cwV 2 hts gL_law_X8_path rfl rfl rfl yd_X8_path ⟨Nat.le_of_ble_eq_true rfl, Nat.le_of_ble_eq_true rfl⟩) hI rfl hl.1 rfl (Nat.le_of_ble_eq_true rfl) dL_law_641 (fun H locs hI => ?_)
  refine lv_aload_n hx hb dL_law_644 rfl (lv_at hl 2 rfl) ?_
  refine lv_aload_n hx hb dL_law_645 rfl (lv_at hl 0 rfl) ?_
  refine lv_iload_n hx hb dL_law_646 rfl (lv_at hl 3 rfl) ?_
  refine lv_iconst (v := (1 : Int32)) hx hb dL_law_647 (by decide) ?_
  refine lv_iadd hx hb dL_law_648 ?_
  refine va_sld hx hb hX hbl hbA hI.2.2 h1 dL_law_649 ?_
  refine lv_aload_n hx hb dL_law_650 rfl (lv_at hl 0 rfl) ?_
  refine lv_iload_n hx hb dL_law_651 rfl (lv_at hl 3 rfl) ?_
  refine lv_iconst (v := (2 : Int32)) hx hb dL_law_652 (by decide) ?_
  refine lv_iadd hx hb dL_law_653 ?_
  refine va_sld hx hb hX hbl hbA hI.2.2 h2 dL_law_654 ?_
  refine lcM C0 (As := [.int (xs (x3 + 1).toNatClampNeg), .int (xs (x3 + 2).toNatClampNeg)]) (rest := [.int r]) (jw_X9_path D bm cI cZ hj2 N e2) (cwV 2 hts gL_law_X9_path rfl rfl rfl yd_X9_path ⟨Nat.le_of_ble_eq_true rfl, Nat.le_of_ble_eq_true rfl⟩) hI rfl hl.1 rfl (Nat.le_of_ble_eq_true rfl) dL_law_655 (fun H locs hI => ?_)
  exact lv_icmp_eq (tgt := 963) hx hb dL_law_658 (by decide) (fun _ => kk _ _ _ _ hI hR2) (fun z => absurd rfl z)
theorem lk_19 {p : Program} {l : Launch} {e : Env} {s : State} {m : MethodId} {below : List Frame} {meth : Method} {c : Code} {b L : Nat} {xs : Nat → Int32} {D : va_G} {am bm : Nat → Nat} {cI cC cS cZ : ClassId} {H : Heap} {locs : List Loc} {ls : Array Slot} {Q : State → Prop} {N : Nat} {cs ms : PS} {x3 : Int32} (C0 : LC p s m meth c b L xs D am bm cI cC cS cZ) (hN : 2000000 ≤ N) (hI : LI D am bm cI cC cS cZ s H locs cs ms) (hR : Rel cs ms) (hl : lv_has ls 4 [(0, .ref b), (1, .ref (am 0)), (2, .ref (bm 0)), (3, .int x3)]) (h1 : vp_in (x3 + 1) L) (h2 : vp_in (x3 + 2) L) (h3 : vp_in (x3 + 3) L) (kk : ∀ (H1 : Heap) (locs1 : List Loc) (cs1 ms1 : PS), LI D am bm cI cC cS cZ s H1 locs1 cs1 ms1 → Rel cs1 ms1 → W p l e room_1 s m #[Value.ref b] below meth c H1 locs1 76 4305 Q (F0 m 963 ls [])) : W p l e room_1 s m #[Value.ref b] below meth c H locs 76 4305 Q (F0 m 663 ls []) := by
  have C1 := C0
  obtain ⟨⟨hx, hb, -, -, -, hts0, hX, hbl, -, -⟩, -, -, hj, hj2, -⟩ := C1
  have hts : ∀ w ∈ wsL_law, w.before #[Value.ref b] s = true := fun w h => hts0 w (wsL_law_in w h)
  have hbA : ¬ lA s b := Nat.not_le.mpr hbl
  obtain ⟨r, cs2, ms2, e1, e2, hR2⟩ := op_nods (N := N) (x := (xs (x3 + 1).toNatClampNeg)) (by omega) cs ms hR
  refine lv_aload_n hx hb dL_law_663 rfl (lv_at hl 1 rfl) ?_
  refine lv_aload_n hx hb dL_law_664 rfl (lv_at hl 0 rfl) ?_
  refine lv_iload_n hx hb dL_law_665 rfl (lv_at hl 3 rfl) ?_
  refine lv_iconst (v := (1 : Int32)) hx hb dL_law_666 (by decide) ?_
  refine lv_iadd hx hb dL_law_667 ?_
  refine va_sld hx hb hX hbl hbA hI.2.2 h1 dL_law_668 ?_
  refine lcC C0 (As := [.int (xs (x3 + 1).toNatClampNeg)]) (rest := []) (jw_X8_nods D am cI cC cS hj N e1) (cwV 1 hts gL_law_X8_nods rfl rfl rfl yd_X8_nods ⟨Nat.le_of_ble_eq_true rfl, Nat.le_of_ble_eq_true rfl⟩) hI rfl hl.1 rfl (Nat.le_of_ble_eq_true rfl) dL_law_669 (fun H locs hI => ?_)
  refine lv_aload_n hx hb dL_law_672 rfl (lv_at hl 2 rfl) ?_
  refine lv_aload_n hx hb dL_law_673 rfl (lv_at hl 0 rfl) ?_
  refine lv_iload_n hx hb dL_law_674 rfl (lv_at hl 3 rfl) ?_
  refine lv_iconst (v := (1 : Int32)) hx hb dL_law_675 (by decide) ?_
  refine lv_iadd hx hb dL_law_676 ?_
  refine va_sld hx hb hX hbl hbA hI.2.2 h1 dL_law_677 ?_
  refine lcM C0 (As := [.int (xs (x3 + 1).toNatClampNeg)]) (rest := [.int r]) (jw_X9_nods D bm cI cZ hj2 N e2) (cwV 1 hts gL_law_X9_nods rfl rfl rfl yd_X9_nods ⟨Nat.le_of_ble_eq_true rfl, Nat.le_of_ble_eq_true rfl⟩) hI rfl hl.1 rfl (Nat.le_of_ble_eq_true rfl) dL_law_678 (fun H locs hI => ?_)
  exact lv_icmp_eq (tgt := 963) hx hb dL_law_681 (by decide) (fun _ => kk _ _ _ _ hI hR2) (fun z => absurd rfl z)
theorem lk_20 {p : Program} {l : Launch} {e : Env} {s : State} {m : MethodId} {below : List Frame} {meth : Method} {c : Code} {b L : Nat} {xs : Nat → Int32} {D : va_G} {am bm : Nat → Nat} {cI cC cS cZ : ClassId} {H : Heap} {locs : List Loc} {ls : Array Slot} {Q : State → Prop} {N : Nat} {cs ms : PS} {x3 : Int32} (C0 : LC p s m meth c b L xs D am bm cI cC cS cZ) (hN : 2000000 ≤ N) (hI : LI D am bm cI cC cS cZ s H locs cs ms) (hR : Rel cs ms) (hl : lv_has ls 4 [(0, .ref b), (1, .ref (am 0)), (2, .ref (bm 0)), (3, .int x3)]) (h1 : vp_in (x3 + 1) L) (h2 : vp_in (x3 + 2) L) (h3 : vp_in (x3 + 3) L) (kk : ∀ (H1 : Heap) (locs1 : List Loc) (cs1 ms1 : PS), LI D am bm cI cC cS cZ s H1 locs1 cs1 ms1 → Rel cs1 ms1 → W p l e room_1 s m #[Value.ref b] below meth c H1 locs1 76 4305 Q (F0 m 963 ls [])) : W p l e room_1 s m #[Value.ref b] below meth c H locs 76 4305 Q (F0 m 686 ls []) := by
  have C1 := C0
  obtain ⟨⟨hx, hb, -, -, -, hts0, hX, hbl, -, -⟩, -, -, hj, hj2, -⟩ := C1
  have hts : ∀ w ∈ wsL_law, w.before #[Value.ref b] s = true := fun w h => hts0 w (wsL_law_in w h)
  have hbA : ¬ lA s b := Nat.not_le.mpr hbl
  obtain ⟨r, cs2, ms2, e1, e2, hR2⟩ := op_play (N := N) (x := (xs (x3 + 1).toNatClampNeg)) (by omega) cs ms hR
  refine lv_aload_n hx hb dL_law_686 rfl (lv_at hl 1 rfl) ?_
  refine lv_aload_n hx hb dL_law_687 rfl (lv_at hl 0 rfl) ?_
  refine lv_iload_n hx hb dL_law_688 rfl (lv_at hl 3 rfl) ?_
  refine lv_iconst (v := (1 : Int32)) hx hb dL_law_689 (by decide) ?_
  refine lv_iadd hx hb dL_law_690 ?_
  refine va_sld hx hb hX hbl hbA hI.2.2 h1 dL_law_691 ?_
  refine lcC C0 (As := [.int (xs (x3 + 1).toNatClampNeg)]) (rest := []) (jw_X8_play D am cI cC cS hj N e1) (cwV 1 hts gL_law_X8_play rfl rfl rfl yd_X8_play ⟨Nat.le_of_ble_eq_true rfl, Nat.le_of_ble_eq_true rfl⟩) hI rfl hl.1 rfl (Nat.le_of_ble_eq_true rfl) dL_law_692 (fun H locs hI => ?_)
  refine lv_aload_n hx hb dL_law_695 rfl (lv_at hl 2 rfl) ?_
  refine lv_aload_n hx hb dL_law_696 rfl (lv_at hl 0 rfl) ?_
  refine lv_iload_n hx hb dL_law_697 rfl (lv_at hl 3 rfl) ?_
  refine lv_iconst (v := (1 : Int32)) hx hb dL_law_698 (by decide) ?_
  refine lv_iadd hx hb dL_law_699 ?_
  refine va_sld hx hb hX hbl hbA hI.2.2 h1 dL_law_700 ?_
  refine lcM C0 (As := [.int (xs (x3 + 1).toNatClampNeg)]) (rest := [.int r]) (jw_X9_play D bm cI cZ hj2 N e2) (cwV 1 hts gL_law_X9_play rfl rfl rfl yd_X9_play ⟨Nat.le_of_ble_eq_true rfl, Nat.le_of_ble_eq_true rfl⟩) hI rfl hl.1 rfl (Nat.le_of_ble_eq_true rfl) dL_law_701 (fun H locs hI => ?_)
  exact lv_icmp_eq (tgt := 963) hx hb dL_law_704 (by decide) (fun _ => kk _ _ _ _ hI hR2) (fun z => absurd rfl z)
theorem lk_21 {p : Program} {l : Launch} {e : Env} {s : State} {m : MethodId} {below : List Frame} {meth : Method} {c : Code} {b L : Nat} {xs : Nat → Int32} {D : va_G} {am bm : Nat → Nat} {cI cC cS cZ : ClassId} {H : Heap} {locs : List Loc} {ls : Array Slot} {Q : State → Prop} {N : Nat} {cs ms : PS} {x3 : Int32} (C0 : LC p s m meth c b L xs D am bm cI cC cS cZ) (hN : 2000000 ≤ N) (hI : LI D am bm cI cC cS cZ s H locs cs ms) (hR : Rel cs ms) (hl : lv_has ls 4 [(0, .ref b), (1, .ref (am 0)), (2, .ref (bm 0)), (3, .int x3)]) (h1 : vp_in (x3 + 1) L) (h2 : vp_in (x3 + 2) L) (h3 : vp_in (x3 + 3) L) (kk : ∀ (H1 : Heap) (locs1 : List Loc) (cs1 ms1 : PS), LI D am bm cI cC cS cZ s H1 locs1 cs1 ms1 → Rel cs1 ms1 → W p l e room_1 s m #[Value.ref b] below meth c H1 locs1 76 4305 Q (F0 m 963 ls [])) : W p l e room_1 s m #[Value.ref b] below meth c H locs 76 4305 Q (F0 m 709 ls []) := by
  have C1 := C0
  obtain ⟨⟨hx, hb, -, -, -, hts0, hX, hbl, -, -⟩, -, -, hj, hj2, -⟩ := C1
  have hts : ∀ w ∈ wsL_law, w.before #[Value.ref b] s = true := fun w h => hts0 w (wsL_law_in w h)
  have hbA : ¬ lA s b := Nat.not_le.mpr hbl
  obtain ⟨r, cs2, ms2, e1, e2, hR2⟩ := op_odds (N := N) (x := (xs (x3 + 1).toNatClampNeg)) (y := (xs (x3 + 2).toNatClampNeg)) (z := (xs (x3 + 3).toNatClampNeg)) hN cs ms hR
  refine lv_aload_n hx hb dL_law_709 rfl (lv_at hl 1 rfl) ?_
  refine lv_aload_n hx hb dL_law_710 rfl (lv_at hl 0 rfl) ?_
  refine lv_iload_n hx hb dL_law_711 rfl (lv_at hl 3 rfl) ?_
  refine lv_iconst (v := (1 : Int32)) hx hb dL_law_712 (by decide) ?_
  refine lv_iadd hx hb dL_law_713 ?_
  refine va_sld hx hb hX hbl hbA hI.2.2 h1 dL_law_714 ?_
  refine lv_aload_n hx hb dL_law_715 rfl (lv_at hl 0 rfl) ?_
  refine lv_iload_n hx hb dL_law_716 rfl (lv_at hl 3 rfl) ?_
  refine lv_iconst (v := (2 : Int32)) hx hb dL_law_717 (by decide) ?_
  refine lv_iadd hx hb dL_law_718 ?_
  refine va_sld hx hb hX hbl hbA hI.2.2 h2 dL_law_719 ?_
  refine lv_aload_n hx hb dL_law_720 rfl (lv_at hl 0 rfl) ?_
  refine lv_iload_n hx hb dL_law_721 rfl (lv_at hl 3 rfl) ?_
  refine lv_iconst (v := (3 : Int32)) hx hb dL_law_722 (by decide) ?_
  refine lv_iadd hx hb dL_law_723 ?_
  refine va_sld hx hb hX hbl hbA hI.2.2 h3 dL_law_724 ?_
  refine lcC C0 (As := [.int (xs (x3 + 1).toNatClampNeg), .int (xs (x3 + 2).toNatClampNeg), .int (xs (x3 + 3).toNatClampNeg)]) (rest := []) (jw_X8_odds D am cI cC cS hj N e1) (cwV 3 hts gL_law_X8_odds rfl rfl rfl yd_X8_odds ⟨Nat.le_of_ble_eq_true rfl, Nat.le_of_ble_eq_true rfl⟩) hI rfl hl.1 rfl (Nat.le_of_ble_eq_true rfl) dL_law_725 (fun H locs hI => ?_)
  refine lv_aload_n hx hb dL_law_728 rfl (lv_at hl 2 rfl) ?_
  refine lv_aload_n hx hb dL_law_729 rfl (lv_at hl 0 rfl) ?_
  refine lv_iload_n hx hb dL_law_730 rfl (lv_at hl 3 rfl) ?_
  refine lv_iconst (v := (1 : Int32)) hx hb dL_law_731 (by decide) ?_
  refine lv_iadd hx hb dL_law_732 ?_
  refine va_sld hx hb hX hbl hbA hI.2.2 h1 dL_law_733 ?_
  refine lv_aload_n hx hb dL_law_734 rfl (lv_at hl 0 rfl) ?_
  refine lv_iload_n hx hb dL_law_735 rfl (lv_at hl 3 rfl) ?_
  refine lv_iconst (v := (2 : Int32)) hx hb dL_law_736 (by decide) ?_
  refine lv_iadd hx hb dL_law_737 ?_
  refine va_sld hx hb hX hbl hbA hI.2.2 h2 dL_law_738 ?_
  refine lv_aload_n hx hb dL_law_739 rfl (lv_at hl 0 rfl) ?_
  refine lv_iload_n hx hb dL_law_740 rfl (lv_at hl 3 rfl) ?_
  refine lv_iconst (v := (3 : Int32)) hx hb dL_law_741 (by decide) ?_
  refine lv_iadd hx hb dL_law_742 ?_
  refine va_sld hx hb hX hbl hbA hI.2.2 h3 dL_law_743 ?_
  refine lcM C0 (As := [.int (xs (x3 + 1).toNatClampNeg), .int (xs (x3 + 2).toNatClampNeg), .int (xs (x3 + 3).toNatClampNeg)]) (rest := [.int r]) (jw_X9_odds D bm cI cZ hj2 N e2) (cwV 3 hts gL_law_X9_odds rfl rfl rfl yd_X9_odds ⟨Nat.le_of_ble_eq_true rfl, Nat.le_of_ble_eq_true rfl⟩) hI rfl hl.1 rfl (Nat.le_of_ble_eq_true rfl) dL_law_744 (fun H locs hI => ?_)
  exact lv_icmp_eq (tgt := 963) hx hb dL_law_747 (by decide) (fun _ => kk _ _ _ _ hI hR2) (fun z => absurd rfl z)
