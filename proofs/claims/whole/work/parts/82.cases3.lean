/-! the law, call by call, printed by wip/gen/gl.py -/
theorem lk_22 {p : Program} {l : Launch} {e : Env} {s : State} {m : MethodId} {below : List Frame} {meth : Method} {c : Code} {b L : Nat} {xs : Nat → Int32} {D : va_G} {am bm : Nat → Nat} {cI cC cS cZ : ClassId} {H : Heap} {locs : List Loc} {ls : Array Slot} {Q : State → Prop} {N : Nat} {cs ms : PS} {x3 : Int32} (C0 : LC p s m meth c b L xs D am bm cI cC cS cZ) (hN : 2000000 ≤ N) (hI : LI D am bm cI cC cS cZ s H locs cs ms) (hR : Rel cs ms) (hl : lv_has ls 4 [(0, .ref b), (1, .ref (am 0)), (2, .ref (bm 0)), (3, .int x3)]) (h1 : vp_in (x3 + 1) L) (h2 : vp_in (x3 + 2) L) (h3 : vp_in (x3 + 3) L) (kk : ∀ (H1 : Heap) (locs1 : List Loc) (cs1 ms1 : PS), LI D am bm cI cC cS cZ s H1 locs1 cs1 ms1 → Rel cs1 ms1 → W p l e room_1 s m #[Value.ref b] below meth c H1 locs1 76 4305 Q (F0 m 963 ls [])) : W p l e room_1 s m #[Value.ref b] below meth c H locs 76 4305 Q (F0 m 752 ls []) := by
  have C1 := C0
  obtain ⟨⟨hx, hb, -, -, -, hts0, hX, hbl, -, -⟩, -, -, hj, hj2, -⟩ := C1
  have hts : ∀ w ∈ wsL_law, w.before #[Value.ref b] s = true := fun w h => hts0 w (wsL_law_in w h)
  have hbA : ¬ lA s b := Nat.not_le.mpr hbl
  obtain ⟨r, cs2, ms2, e1, e2, hR2⟩ := op_saw (N := N) (x := (xs (x3 + 1).toNatClampNeg)) (y := (xs (x3 + 2).toNatClampNeg)) cs ms hR
  refine lv_aload_n hx hb dL_law_752 rfl (lv_at hl 1 rfl) ?_
  refine lv_aload_n hx hb dL_law_753 rfl (lv_at hl 0 rfl) ?_
  refine lv_iload_n hx hb dL_law_754 rfl (lv_at hl 3 rfl) ?_
  refine lv_iconst (v := (1 : Int32)) hx hb dL_law_755 (by decide) ?_
  refine lv_iadd hx hb dL_law_756 ?_
  refine va_sld hx hb hX hbl hbA hI.2.2 h1 dL_law_757 ?_
  refine lv_aload_n hx hb dL_law_758 rfl (lv_at hl 0 rfl) ?_
  refine lv_iload_n hx hb dL_law_759 rfl (lv_at hl 3 rfl) ?_
  refine lv_iconst (v := (2 : Int32)) hx hb dL_law_760 (by decide) ?_
  refine lv_iadd hx hb dL_law_761 ?_
  refine va_sld hx hb hX hbl hbA hI.2.2 h2 dL_law_762 ?_
  refine lcC C0 (As := [.int (xs (x3 + 1).toNatClampNeg), .int (xs (x3 + 2).toNatClampNeg)]) (rest := []) (jw_X8_saw D am cI cC cS hj N e1) (cwV 2 hts gL_law_X8_saw rfl rfl rfl yd_X8_saw ⟨Nat.le_of_ble_eq_true rfl, Nat.le_of_ble_eq_true rfl⟩) hI rfl hl.1 rfl (Nat.le_of_ble_eq_true rfl) dL_law_763 (fun H locs hI => ?_)
  refine lv_aload_n hx hb dL_law_766 rfl (lv_at hl 2 rfl) ?_
  refine lv_aload_n hx hb dL_law_767 rfl (lv_at hl 0 rfl) ?_
  refine lv_iload_n hx hb dL_law_768 rfl (lv_at hl 3 rfl) ?_
  refine lv_iconst (v := (1 : Int32)) hx hb dL_law_769 (by decide) ?_
  refine lv_iadd hx hb dL_law_770 ?_
  refine va_sld hx hb hX hbl hbA hI.2.2 h1 dL_law_771 ?_
  refine lv_aload_n hx hb dL_law_772 rfl (lv_at hl 0 rfl) ?_
  refine lv_iload_n hx hb dL_law_773 rfl (lv_at hl 3 rfl) ?_
  refine lv_iconst (v := (2 : Int32)) hx hb dL_law_774 (by decide) ?_
  refine lv_iadd hx hb dL_law_775 ?_
  refine va_sld hx hb hX hbl hbA hI.2.2 h2 dL_law_776 ?_
  refine lcM C0 (As := [.int (xs (x3 + 1).toNatClampNeg), .int (xs (x3 + 2).toNatClampNeg)]) (rest := [.int r]) (jw_X9_saw D bm cI cZ hj2 N e2) (cwV 2 hts gL_law_X9_saw rfl rfl rfl yd_X9_saw ⟨Nat.le_of_ble_eq_true rfl, Nat.le_of_ble_eq_true rfl⟩) hI rfl hl.1 rfl (Nat.le_of_ble_eq_true rfl) dL_law_777 (fun H locs hI => ?_)
  exact lv_icmp_eq (tgt := 963) hx hb dL_law_780 (by decide) (fun _ => kk _ _ _ _ hI hR2) (fun z => absurd rfl z)
theorem lk_23 {p : Program} {l : Launch} {e : Env} {s : State} {m : MethodId} {below : List Frame} {meth : Method} {c : Code} {b L : Nat} {xs : Nat → Int32} {D : va_G} {am bm : Nat → Nat} {cI cC cS cZ : ClassId} {H : Heap} {locs : List Loc} {ls : Array Slot} {Q : State → Prop} {N : Nat} {cs ms : PS} {x3 : Int32} (C0 : LC p s m meth c b L xs D am bm cI cC cS cZ) (hN : 2000000 ≤ N) (hI : LI D am bm cI cC cS cZ s H locs cs ms) (hR : Rel cs ms) (hl : lv_has ls 4 [(0, .ref b), (1, .ref (am 0)), (2, .ref (bm 0)), (3, .int x3)]) (h1 : vp_in (x3 + 1) L) (h2 : vp_in (x3 + 2) L) (h3 : vp_in (x3 + 3) L) (kk : ∀ (H1 : Heap) (locs1 : List Loc) (cs1 ms1 : PS), LI D am bm cI cC cS cZ s H1 locs1 cs1 ms1 → Rel cs1 ms1 → W p l e room_1 s m #[Value.ref b] below meth c H1 locs1 76 4305 Q (F0 m 963 ls [])) : W p l e room_1 s m #[Value.ref b] below meth c H locs 76 4305 Q (F0 m 785 ls []) := by
  have C1 := C0
  obtain ⟨⟨hx, hb, -, -, -, hts0, hX, hbl, -, -⟩, -, -, hj, hj2, -⟩ := C1
  have hts : ∀ w ∈ wsL_law, w.before #[Value.ref b] s = true := fun w h => hts0 w (wsL_law_in w h)
  have hbA : ¬ lA s b := Nat.not_le.mpr hbl
  obtain ⟨r, cs2, ms2, e1, e2, hR2⟩ := op_forget (N := N) cs ms hR
  refine lv_aload_n hx hb dL_law_785 rfl (lv_at hl 1 rfl) ?_
  refine lcC C0 (As := []) (rest := []) (jw_X8_forget D am cI cC cS hj N e1) (cwV 0 hts gL_law_X8_forget rfl rfl rfl yd_X8_forget ⟨Nat.le_of_ble_eq_true rfl, Nat.le_of_ble_eq_true rfl⟩) hI rfl hl.1 rfl (Nat.le_of_ble_eq_true rfl) dL_law_786 (fun H locs hI => ?_)
  refine lv_aload_n hx hb dL_law_789 rfl (lv_at hl 2 rfl) ?_
  refine lcM C0 (As := []) (rest := [.int r]) (jw_X9_forget D bm cI cZ hj2 N e2) (cwV 0 hts gL_law_X9_forget rfl rfl rfl yd_X9_forget ⟨Nat.le_of_ble_eq_true rfl, Nat.le_of_ble_eq_true rfl⟩) hI rfl hl.1 rfl (Nat.le_of_ble_eq_true rfl) dL_law_790 (fun H locs hI => ?_)
  exact lv_icmp_eq (tgt := 963) hx hb dL_law_793 (by decide) (fun _ => kk _ _ _ _ hI hR2) (fun z => absurd rfl z)
theorem lk_24 {p : Program} {l : Launch} {e : Env} {s : State} {m : MethodId} {below : List Frame} {meth : Method} {c : Code} {b L : Nat} {xs : Nat → Int32} {D : va_G} {am bm : Nat → Nat} {cI cC cS cZ : ClassId} {H : Heap} {locs : List Loc} {ls : Array Slot} {Q : State → Prop} {N : Nat} {cs ms : PS} {x3 : Int32} (C0 : LC p s m meth c b L xs D am bm cI cC cS cZ) (hN : 2000000 ≤ N) (hI : LI D am bm cI cC cS cZ s H locs cs ms) (hR : Rel cs ms) (hl : lv_has ls 4 [(0, .ref b), (1, .ref (am 0)), (2, .ref (bm 0)), (3, .int x3)]) (h1 : vp_in (x3 + 1) L) (h2 : vp_in (x3 + 2) L) (h3 : vp_in (x3 + 3) L) (kk : ∀ (H1 : Heap) (locs1 : List Loc) (cs1 ms1 : PS), LI D am bm cI cC cS cZ s H1 locs1 cs1 ms1 → Rel cs1 ms1 → W p l e room_1 s m #[Value.ref b] below meth c H1 locs1 76 4305 Q (F0 m 963 ls [])) : W p l e room_1 s m #[Value.ref b] below meth c H locs 76 4305 Q (F0 m 798 ls []) := by
  have C1 := C0
  obtain ⟨⟨hx, hb, -, -, -, hts0, hX, hbl, -, -⟩, -, -, hj, hj2, -⟩ := C1
  have hts : ∀ w ∈ wsL_law, w.before #[Value.ref b] s = true := fun w h => hts0 w (wsL_law_in w h)
  have hbA : ¬ lA s b := Nat.not_le.mpr hbl
  obtain ⟨r, cs2, ms2, e1, e2, hR2⟩ := op_suspects (N := N) (by omega) cs ms hR
  refine lv_aload_n hx hb dL_law_798 rfl (lv_at hl 1 rfl) ?_
  refine lcC C0 (As := []) (rest := []) (jw_X8_suspects D am cI cC cS hj N e1) (cwV 0 hts gL_law_X8_suspects rfl rfl rfl yd_X8_suspects ⟨Nat.le_of_ble_eq_true rfl, Nat.le_of_ble_eq_true rfl⟩) hI rfl hl.1 rfl (Nat.le_of_ble_eq_true rfl) dL_law_799 (fun H locs hI => ?_)
  refine lv_aload_n hx hb dL_law_802 rfl (lv_at hl 2 rfl) ?_
  refine lcM C0 (As := []) (rest := [.int r]) (jw_X9_suspects D bm cI cZ hj2 N e2) (cwV 0 hts gL_law_X9_suspects rfl rfl rfl yd_X9_suspects ⟨Nat.le_of_ble_eq_true rfl, Nat.le_of_ble_eq_true rfl⟩) hI rfl hl.1 rfl (Nat.le_of_ble_eq_true rfl) dL_law_803 (fun H locs hI => ?_)
  exact lv_icmp_eq (tgt := 963) hx hb dL_law_806 (by decide) (fun _ => kk _ _ _ _ hI hR2) (fun z => absurd rfl z)
theorem lk_25 {p : Program} {l : Launch} {e : Env} {s : State} {m : MethodId} {below : List Frame} {meth : Method} {c : Code} {b L : Nat} {xs : Nat → Int32} {D : va_G} {am bm : Nat → Nat} {cI cC cS cZ : ClassId} {H : Heap} {locs : List Loc} {ls : Array Slot} {Q : State → Prop} {N : Nat} {cs ms : PS} {x3 : Int32} (C0 : LC p s m meth c b L xs D am bm cI cC cS cZ) (hN : 2000000 ≤ N) (hI : LI D am bm cI cC cS cZ s H locs cs ms) (hR : Rel cs ms) (hl : lv_has ls 4 [(0, .ref b), (1, .ref (am 0)), (2, .ref (bm 0)), (3, .int x3)]) (h1 : vp_in (x3 + 1) L) (h2 : vp_in (x3 + 2) L) (h3 : vp_in (x3 + 3) L) (kk : ∀ (H1 : Heap) (locs1 : List Loc) (cs1 ms1 : PS), LI D am bm cI cC cS cZ s H1 locs1 cs1 ms1 → Rel cs1 ms1 → W p l e room_1 s m #[Value.ref b] below meth c H1 locs1 76 4305 Q (F0 m 963 ls [])) : W p l e room_1 s m #[Value.ref b] below meth c H locs 76 4305 Q (F0 m 811 ls []) := by
  have C1 := C0
  obtain ⟨⟨hx, hb, -, -, -, hts0, hX, hbl, -, -⟩, -, -, hj, hj2, -⟩ := C1
  have hts : ∀ w ∈ wsL_law, w.before #[Value.ref b] s = true := fun w h => hts0 w (wsL_law_in w h)
  have hbA : ¬ lA s b := Nat.not_le.mpr hbl
  obtain ⟨r, cs2, ms2, e1, e2, hR2⟩ := op_holes (N := N) (x := (xs (x3 + 1).toNatClampNeg)) (by omega) cs ms hR
  refine lv_aload_n hx hb dL_law_811 rfl (lv_at hl 1 rfl) ?_
  refine lv_aload_n hx hb dL_law_812 rfl (lv_at hl 0 rfl) ?_
  refine lv_iload_n hx hb dL_law_813 rfl (lv_at hl 3 rfl) ?_
  refine lv_iconst (v := (1 : Int32)) hx hb dL_law_814 (by decide) ?_
  refine lv_iadd hx hb dL_law_815 ?_
  refine va_sld hx hb hX hbl hbA hI.2.2 h1 dL_law_816 ?_
  refine lcC C0 (As := [.int (xs (x3 + 1).toNatClampNeg)]) (rest := []) (jw_X8_holes D am cI cC cS hj N e1) (cwV 1 hts gL_law_X8_holes rfl rfl rfl yd_X8_holes ⟨Nat.le_of_ble_eq_true rfl, Nat.le_of_ble_eq_true rfl⟩) hI rfl hl.1 rfl (Nat.le_of_ble_eq_true rfl) dL_law_817 (fun H locs hI => ?_)
  refine lv_aload_n hx hb dL_law_820 rfl (lv_at hl 2 rfl) ?_
  refine lv_aload_n hx hb dL_law_821 rfl (lv_at hl 0 rfl) ?_
  refine lv_iload_n hx hb dL_law_822 rfl (lv_at hl 3 rfl) ?_
  refine lv_iconst (v := (1 : Int32)) hx hb dL_law_823 (by decide) ?_
  refine lv_iadd hx hb dL_law_824 ?_
  refine va_sld hx hb hX hbl hbA hI.2.2 h1 dL_law_825 ?_
  refine lcM C0 (As := [.int (xs (x3 + 1).toNatClampNeg)]) (rest := [.int r]) (jw_X9_holes D bm cI cZ hj2 N e2) (cwV 1 hts gL_law_X9_holes rfl rfl rfl yd_X9_holes ⟨Nat.le_of_ble_eq_true rfl, Nat.le_of_ble_eq_true rfl⟩) hI rfl hl.1 rfl (Nat.le_of_ble_eq_true rfl) dL_law_826 (fun H locs hI => ?_)
  exact lv_icmp_eq (tgt := 963) hx hb dL_law_829 (by decide) (fun _ => kk _ _ _ _ hI hR2) (fun z => absurd rfl z)
theorem lk_26 {p : Program} {l : Launch} {e : Env} {s : State} {m : MethodId} {below : List Frame} {meth : Method} {c : Code} {b L : Nat} {xs : Nat → Int32} {D : va_G} {am bm : Nat → Nat} {cI cC cS cZ : ClassId} {H : Heap} {locs : List Loc} {ls : Array Slot} {Q : State → Prop} {N : Nat} {cs ms : PS} {x3 : Int32} (C0 : LC p s m meth c b L xs D am bm cI cC cS cZ) (hN : 2000000 ≤ N) (hI : LI D am bm cI cC cS cZ s H locs cs ms) (hR : Rel cs ms) (hl : lv_has ls 4 [(0, .ref b), (1, .ref (am 0)), (2, .ref (bm 0)), (3, .int x3)]) (h1 : vp_in (x3 + 1) L) (h2 : vp_in (x3 + 2) L) (h3 : vp_in (x3 + 3) L) (kk : ∀ (H1 : Heap) (locs1 : List Loc) (cs1 ms1 : PS), LI D am bm cI cC cS cZ s H1 locs1 cs1 ms1 → Rel cs1 ms1 → W p l e room_1 s m #[Value.ref b] below meth c H1 locs1 76 4305 Q (F0 m 963 ls [])) : W p l e room_1 s m #[Value.ref b] below meth c H locs 76 4305 Q (F0 m 834 ls []) := by
  have C1 := C0
  obtain ⟨⟨hx, hb, -, -, -, hts0, hX, hbl, -, -⟩, -, -, hj, hj2, -⟩ := C1
  have hts : ∀ w ∈ wsL_law, w.before #[Value.ref b] s = true := fun w h => hts0 w (wsL_law_in w h)
  have hbA : ¬ lA s b := Nat.not_le.mpr hbl
  obtain ⟨r, cs2, ms2, e1, e2, hR2⟩ := op_look (N := N) (by omega) cs ms hR
  refine lv_aload_n hx hb dL_law_834 rfl (lv_at hl 1 rfl) ?_
  refine lcC C0 (As := []) (rest := []) (jw_X8_look D am cI cC cS hj N e1) (cwV 0 hts gL_law_X8_look rfl rfl rfl yd_X8_look ⟨Nat.le_of_ble_eq_true rfl, Nat.le_of_ble_eq_true rfl⟩) hI rfl hl.1 rfl (Nat.le_of_ble_eq_true rfl) dL_law_835 (fun H locs hI => ?_)
  refine lv_aload_n hx hb dL_law_838 rfl (lv_at hl 2 rfl) ?_
  refine lcM C0 (As := []) (rest := [.int r]) (jw_X9_look D bm cI cZ hj2 N e2) (cwV 0 hts gL_law_X9_look rfl rfl rfl yd_X9_look ⟨Nat.le_of_ble_eq_true rfl, Nat.le_of_ble_eq_true rfl⟩) hI rfl hl.1 rfl (Nat.le_of_ble_eq_true rfl) dL_law_839 (fun H locs hI => ?_)
  exact lv_icmp_eq (tgt := 963) hx hb dL_law_842 (by decide) (fun _ => kk _ _ _ _ hI hR2) (fun z => absurd rfl z)
theorem lk_27 {p : Program} {l : Launch} {e : Env} {s : State} {m : MethodId} {below : List Frame} {meth : Method} {c : Code} {b L : Nat} {xs : Nat → Int32} {D : va_G} {am bm : Nat → Nat} {cI cC cS cZ : ClassId} {H : Heap} {locs : List Loc} {ls : Array Slot} {Q : State → Prop} {N : Nat} {cs ms : PS} {x3 : Int32} (C0 : LC p s m meth c b L xs D am bm cI cC cS cZ) (hN : 2000000 ≤ N) (hI : LI D am bm cI cC cS cZ s H locs cs ms) (hR : Rel cs ms) (hl : lv_has ls 4 [(0, .ref b), (1, .ref (am 0)), (2, .ref (bm 0)), (3, .int x3)]) (h1 : vp_in (x3 + 1) L) (h2 : vp_in (x3 + 2) L) (h3 : vp_in (x3 + 3) L) (kk : ∀ (H1 : Heap) (locs1 : List Loc) (cs1 ms1 : PS), LI D am bm cI cC cS cZ s H1 locs1 cs1 ms1 → Rel cs1 ms1 → W p l e room_1 s m #[Value.ref b] below meth c H1 locs1 76 4305 Q (F0 m 963 ls [])) : W p l e room_1 s m #[Value.ref b] below meth c H locs 76 4305 Q (F0 m 847 ls []) := by
  have C1 := C0
  obtain ⟨⟨hx, hb, -, -, -, hts0, hX, hbl, -, -⟩, -, -, hj, hj2, -⟩ := C1
  have hts : ∀ w ∈ wsL_law, w.before #[Value.ref b] s = true := fun w h => hts0 w (wsL_law_in w h)
  have hbA : ¬ lA s b := Nat.not_le.mpr hbl
  obtain ⟨r, cs2, ms2, e1, e2, hR2⟩ := op_mark (N := N) (x := (xs (x3 + 1).toNatClampNeg)) (y := (xs (x3 + 2).toNatClampNeg)) (by omega) cs ms hR
  refine lv_aload_n hx hb dL_law_847 rfl (lv_at hl 1 rfl) ?_
  refine lv_aload_n hx hb dL_law_848 rfl (lv_at hl 0 rfl) ?_
  refine lv_iload_n hx hb dL_law_849 rfl (lv_at hl 3 rfl) ?_
  refine lv_iconst (v := (1 : Int32)) hx hb dL_law_850 (by decide) ?_
  refine lv_iadd hx hb dL_law_851 ?_
  refine va_sld hx hb hX hbl hbA hI.2.2 h1 dL_law_852 ?_
  refine lv_aload_n hx hb dL_law_853 rfl (lv_at hl 0 rfl) ?_
  refine lv_iload_n hx hb dL_law_854 rfl (lv_at hl 3 rfl) ?_
  refine lv_iconst (v := (2 : Int32)) hx hb dL_law_855 (by decide) ?_
  refine lv_iadd hx hb dL_law_856 ?_
  refine va_sld hx hb hX hbl hbA hI.2.2 h2 dL_law_857 ?_
  refine lcC C0 (As := [.int (xs (x3 + 1).toNatClampNeg), .int (xs (x3 + 2).toNatClampNeg)]) (rest := []) (jw_X8_mark D am cI cC cS hj N e1) (cwV 2 hts gL_law_X8_mark rfl rfl rfl yd_X8_mark ⟨Nat.le_of_ble_eq_true rfl, Nat.le_of_ble_eq_true rfl⟩) hI rfl hl.1 rfl (Nat.le_of_ble_eq_true rfl) dL_law_858 (fun H locs hI => ?_)
  refine lv_aload_n hx hb dL_law_861 rfl (lv_at hl 2 rfl) ?_
  refine lv_aload_n hx hb dL_law_862 rfl (lv_at hl 0 rfl) ?_
  refine lv_iload_n hx hb dL_law_863 rfl (lv_at hl 3 rfl) ?_
  refine lv_iconst (v := (1 : Int32)) hx hb dL_law_864 (by decide) ?_
  refine lv_iadd hx hb dL_law_865 ?_
  refine va_sld hx hb hX hbl hbA hI.2.2 h1 dL_law_866 ?_
  refine lv_aload_n hx hb dL_law_867 rfl (lv_at hl 0 rfl) ?_
  refine lv_iload_n hx hb dL_law_868 rfl (lv_at hl 3 rfl) ?_
  refine lv_iconst (v := (2 : Int32)) hx hb dL_law_869 (by decide) ?_
  refine lv_iadd hx hb dL_law_870 ?_
  refine va_sld hx hb hX hbl hbA hI.2.2 h2 dL_law_871 ?_
  refine lcM C0 (As := [.int (xs (x3 + 1).toNatClampNeg), .int (xs (x3 + 2).toNatClampNeg)]) (rest := [.int r]) (jw_X9_mark D bm cI cZ hj2 N e2) (cwV 2 hts gL_law_X9_mark rfl rfl rfl yd_X9_mark ⟨Nat.le_of_ble_eq_true rfl, Nat.le_of_ble_eq_true rfl⟩) hI rfl hl.1 rfl (Nat.le_of_ble_eq_true rfl) dL_law_872 (fun H locs hI => ?_)
  exact lv_icmp_eq (tgt := 963) hx hb dL_law_875 (by decide) (fun _ => kk _ _ _ _ hI hR2) (fun z => absurd rfl z)
theorem lk_28 {p : Program} {l : Launch} {e : Env} {s : State} {m : MethodId} {below : List Frame} {meth : Method} {c : Code} {b L : Nat} {xs : Nat → Int32} {D : va_G} {am bm : Nat → Nat} {cI cC cS cZ : ClassId} {H : Heap} {locs : List Loc} {ls : Array Slot} {Q : State → Prop} {N : Nat} {cs ms : PS} {x3 : Int32} (C0 : LC p s m meth c b L xs D am bm cI cC cS cZ) (hN : 2000000 ≤ N) (hI : LI D am bm cI cC cS cZ s H locs cs ms) (hR : Rel cs ms) (hl : lv_has ls 4 [(0, .ref b), (1, .ref (am 0)), (2, .ref (bm 0)), (3, .int x3)]) (h1 : vp_in (x3 + 1) L) (h2 : vp_in (x3 + 2) L) (h3 : vp_in (x3 + 3) L) (kk : ∀ (H1 : Heap) (locs1 : List Loc) (cs1 ms1 : PS), LI D am bm cI cC cS cZ s H1 locs1 cs1 ms1 → Rel cs1 ms1 → W p l e room_1 s m #[Value.ref b] below meth c H1 locs1 76 4305 Q (F0 m 963 ls [])) : W p l e room_1 s m #[Value.ref b] below meth c H locs 76 4305 Q (F0 m 880 ls []) := by
  have C1 := C0
  obtain ⟨⟨hx, hb, -, -, -, hts0, hX, hbl, -, -⟩, -, -, hj, hj2, -⟩ := C1
  have hts : ∀ w ∈ wsL_law, w.before #[Value.ref b] s = true := fun w h => hts0 w (wsL_law_in w h)
  have hbA : ¬ lA s b := Nat.not_le.mpr hbl
  obtain ⟨r, cs2, ms2, e1, e2, hR2⟩ := op_keep (N := N) (x := (xs (x3 + 1).toNatClampNeg)) (by omega) cs ms hR
  refine lv_aload_n hx hb dL_law_880 rfl (lv_at hl 1 rfl) ?_
  refine lv_aload_n hx hb dL_law_881 rfl (lv_at hl 0 rfl) ?_
  refine lv_iload_n hx hb dL_law_882 rfl (lv_at hl 3 rfl) ?_
  refine lv_iconst (v := (1 : Int32)) hx hb dL_law_883 (by decide) ?_
  refine lv_iadd hx hb dL_law_884 ?_
  refine va_sld hx hb hX hbl hbA hI.2.2 h1 dL_law_885 ?_
  refine lcC C0 (As := [.int (xs (x3 + 1).toNatClampNeg)]) (rest := []) (jw_X8_keep D am cI cC cS hj N e1) (cwV 1 hts gL_law_X8_keep rfl rfl rfl yd_X8_keep ⟨Nat.le_of_ble_eq_true rfl, Nat.le_of_ble_eq_true rfl⟩) hI rfl hl.1 rfl (Nat.le_of_ble_eq_true rfl) dL_law_886 (fun H locs hI => ?_)
  refine lv_aload_n hx hb dL_law_889 rfl (lv_at hl 2 rfl) ?_
  refine lv_aload_n hx hb dL_law_890 rfl (lv_at hl 0 rfl) ?_
  refine lv_iload_n hx hb dL_law_891 rfl (lv_at hl 3 rfl) ?_
  refine lv_iconst (v := (1 : Int32)) hx hb dL_law_892 (by decide) ?_
  refine lv_iadd hx hb dL_law_893 ?_
  refine va_sld hx hb hX hbl hbA hI.2.2 h1 dL_law_894 ?_
  refine lcM C0 (As := [.int (xs (x3 + 1).toNatClampNeg)]) (rest := [.int r]) (jw_X9_keep D bm cI cZ hj2 N e2) (cwV 1 hts gL_law_X9_keep rfl rfl rfl yd_X9_keep ⟨Nat.le_of_ble_eq_true rfl, Nat.le_of_ble_eq_true rfl⟩) hI rfl hl.1 rfl (Nat.le_of_ble_eq_true rfl) dL_law_895 (fun H locs hI => ?_)
  exact lv_icmp_eq (tgt := 963) hx hb dL_law_898 (by decide) (fun _ => kk _ _ _ _ hI hR2) (fun z => absurd rfl z)
theorem lk_29 {p : Program} {l : Launch} {e : Env} {s : State} {m : MethodId} {below : List Frame} {meth : Method} {c : Code} {b L : Nat} {xs : Nat → Int32} {D : va_G} {am bm : Nat → Nat} {cI cC cS cZ : ClassId} {H : Heap} {locs : List Loc} {ls : Array Slot} {Q : State → Prop} {N : Nat} {cs ms : PS} {x3 : Int32} (C0 : LC p s m meth c b L xs D am bm cI cC cS cZ) (hN : 2000000 ≤ N) (hI : LI D am bm cI cC cS cZ s H locs cs ms) (hR : Rel cs ms) (hl : lv_has ls 4 [(0, .ref b), (1, .ref (am 0)), (2, .ref (bm 0)), (3, .int x3)]) (h1 : vp_in (x3 + 1) L) (h2 : vp_in (x3 + 2) L) (h3 : vp_in (x3 + 3) L) (kk : ∀ (H1 : Heap) (locs1 : List Loc) (cs1 ms1 : PS), LI D am bm cI cC cS cZ s H1 locs1 cs1 ms1 → Rel cs1 ms1 → W p l e room_1 s m #[Value.ref b] below meth c H1 locs1 76 4305 Q (F0 m 963 ls [])) : W p l e room_1 s m #[Value.ref b] below meth c H locs 76 4305 Q (F0 m 903 ls []) := by
  have C1 := C0
  obtain ⟨⟨hx, hb, -, -, -, hts0, hX, hbl, -, -⟩, -, -, hj, hj2, -⟩ := C1
  have hts : ∀ w ∈ wsL_law, w.before #[Value.ref b] s = true := fun w h => hts0 w (wsL_law_in w h)
  have hbA : ¬ lA s b := Nat.not_le.mpr hbl
  obtain ⟨r, cs2, ms2, e1, e2, hR2⟩ := op_back (N := N) (x := (xs (x3 + 1).toNatClampNeg)) (by omega) cs ms hR
  refine lv_aload_n hx hb dL_law_903 rfl (lv_at hl 1 rfl) ?_
  refine lv_aload_n hx hb dL_law_904 rfl (lv_at hl 0 rfl) ?_
  refine lv_iload_n hx hb dL_law_905 rfl (lv_at hl 3 rfl) ?_
  refine lv_iconst (v := (1 : Int32)) hx hb dL_law_906 (by decide) ?_
  refine lv_iadd hx hb dL_law_907 ?_
  refine va_sld hx hb hX hbl hbA hI.2.2 h1 dL_law_908 ?_
  refine lcC C0 (As := [.int (xs (x3 + 1).toNatClampNeg)]) (rest := []) (jw_X8_back D am cI cC cS hj N e1) (cwV 1 hts gL_law_X8_back rfl rfl rfl yd_X8_back ⟨Nat.le_of_ble_eq_true rfl, Nat.le_of_ble_eq_true rfl⟩) hI rfl hl.1 rfl (Nat.le_of_ble_eq_true rfl) dL_law_909 (fun H locs hI => ?_)
  refine lv_aload_n hx hb dL_law_912 rfl (lv_at hl 2 rfl) ?_
  refine lv_aload_n hx hb dL_law_913 rfl (lv_at hl 0 rfl) ?_
  refine lv_iload_n hx hb dL_law_914 rfl (lv_at hl 3 rfl) ?_
  refine lv_iconst (v := (1 : Int32)) hx hb dL_law_915 (by decide) ?_
  refine lv_iadd hx hb dL_law_916 ?_
  refine va_sld hx hb hX hbl hbA hI.2.2 h1 dL_law_917 ?_
  refine lcM C0 (As := [.int (xs (x3 + 1).toNatClampNeg)]) (rest := [.int r]) (jw_X9_back D bm cI cZ hj2 N e2) (cwV 1 hts gL_law_X9_back rfl rfl rfl yd_X9_back ⟨Nat.le_of_ble_eq_true rfl, Nat.le_of_ble_eq_true rfl⟩) hI rfl hl.1 rfl (Nat.le_of_ble_eq_true rfl) dL_law_918 (fun H locs hI => ?_)
  exact lv_icmp_eq (tgt := 963) hx hb dL_law_921 (by decide) (fun _ => kk _ _ _ _ hI hR2) (fun z => absurd rfl z)
theorem lk_30 {p : Program} {l : Launch} {e : Env} {s : State} {m : MethodId} {below : List Frame} {meth : Method} {c : Code} {b L : Nat} {xs : Nat → Int32} {D : va_G} {am bm : Nat → Nat} {cI cC cS cZ : ClassId} {H : Heap} {locs : List Loc} {ls : Array Slot} {Q : State → Prop} {N : Nat} {cs ms : PS} {x3 : Int32} (C0 : LC p s m meth c b L xs D am bm cI cC cS cZ) (hN : 2000000 ≤ N) (hI : LI D am bm cI cC cS cZ s H locs cs ms) (hR : Rel cs ms) (hl : lv_has ls 4 [(0, .ref b), (1, .ref (am 0)), (2, .ref (bm 0)), (3, .int x3)]) (h1 : vp_in (x3 + 1) L) (h2 : vp_in (x3 + 2) L) (h3 : vp_in (x3 + 3) L) (kk : ∀ (H1 : Heap) (locs1 : List Loc) (cs1 ms1 : PS), LI D am bm cI cC cS cZ s H1 locs1 cs1 ms1 → Rel cs1 ms1 → W p l e room_1 s m #[Value.ref b] below meth c H1 locs1 76 4305 Q (F0 m 963 ls [])) : W p l e room_1 s m #[Value.ref b] below meth c H locs 76 4305 Q (F0 m 926 ls []) := by
  have C1 := C0
  obtain ⟨⟨hx, hb, -, -, -, hts0, hX, hbl, -, -⟩, -, -, hj, hj2, -⟩ := C1
  have hts : ∀ w ∈ wsL_law, w.before #[Value.ref b] s = true := fun w h => hts0 w (wsL_law_in w h)
  have hbA : ¬ lA s b := Nat.not_le.mpr hbl
  obtain ⟨r, cs2, ms2, e1, e2, hR2⟩ := op_count (N := N) (x := (xs (x3 + 1).toNatClampNeg)) cs ms hR
  refine lv_aload_n hx hb dL_law_926 rfl (lv_at hl 1 rfl) ?_
  refine lv_aload_n hx hb dL_law_927 rfl (lv_at hl 0 rfl) ?_
  refine lv_iload_n hx hb dL_law_928 rfl (lv_at hl 3 rfl) ?_
  refine lv_iconst (v := (1 : Int32)) hx hb dL_law_929 (by decide) ?_
  refine lv_iadd hx hb dL_law_930 ?_
  refine va_sld hx hb hX hbl hbA hI.2.2 h1 dL_law_931 ?_
  refine lcC C0 (As := [.int (xs (x3 + 1).toNatClampNeg)]) (rest := []) (jw_X8_count D am cI cC cS hj N e1) (cwV 1 hts gL_law_X8_count rfl rfl rfl yd_X8_count ⟨Nat.le_of_ble_eq_true rfl, Nat.le_of_ble_eq_true rfl⟩) hI rfl hl.1 rfl (Nat.le_of_ble_eq_true rfl) dL_law_932 (fun H locs hI => ?_)
  refine lv_aload_n hx hb dL_law_935 rfl (lv_at hl 2 rfl) ?_
  refine lv_aload_n hx hb dL_law_936 rfl (lv_at hl 0 rfl) ?_
  refine lv_iload_n hx hb dL_law_937 rfl (lv_at hl 3 rfl) ?_
  refine lv_iconst (v := (1 : Int32)) hx hb dL_law_938 (by decide) ?_
  refine lv_iadd hx hb dL_law_939 ?_
  refine va_sld hx hb hX hbl hbA hI.2.2 h1 dL_law_940 ?_
  refine lcM C0 (As := [.int (xs (x3 + 1).toNatClampNeg)]) (rest := [.int r]) (jw_X9_count D bm cI cZ hj2 N e2) (cwV 1 hts gL_law_X9_count rfl rfl rfl yd_X9_count ⟨Nat.le_of_ble_eq_true rfl, Nat.le_of_ble_eq_true rfl⟩) hI rfl hl.1 rfl (Nat.le_of_ble_eq_true rfl) dL_law_941 (fun H locs hI => ?_)
  exact lv_icmp_eq (tgt := 963) hx hb dL_law_944 (by decide) (fun _ => kk _ _ _ _ hI hR2) (fun z => absurd rfl z)
theorem lk_31 {p : Program} {l : Launch} {e : Env} {s : State} {m : MethodId} {below : List Frame} {meth : Method} {c : Code} {b L : Nat} {xs : Nat → Int32} {D : va_G} {am bm : Nat → Nat} {cI cC cS cZ : ClassId} {H : Heap} {locs : List Loc} {ls : Array Slot} {Q : State → Prop} {N : Nat} {cs ms : PS} {x3 : Int32} (C0 : LC p s m meth c b L xs D am bm cI cC cS cZ) (hN : 2000000 ≤ N) (hI : LI D am bm cI cC cS cZ s H locs cs ms) (hR : Rel cs ms) (hl : lv_has ls 4 [(0, .ref b), (1, .ref (am 0)), (2, .ref (bm 0)), (3, .int x3)]) (h1 : vp_in (x3 + 1) L) (h2 : vp_in (x3 + 2) L) (h3 : vp_in (x3 + 3) L) (kk : ∀ (H1 : Heap) (locs1 : List Loc) (cs1 ms1 : PS), LI D am bm cI cC cS cZ s H1 locs1 cs1 ms1 → Rel cs1 ms1 → W p l e room_1 s m #[Value.ref b] below meth c H1 locs1 76 4305 Q (F0 m 963 ls [])) : W p l e room_1 s m #[Value.ref b] below meth c H locs 76 4305 Q (F0 m 949 ls []) := by
  have C1 := C0
  obtain ⟨⟨hx, hb, -, -, -, hts0, hX, hbl, -, -⟩, -, -, hj, hj2, -⟩ := C1
  have hts : ∀ w ∈ wsL_law, w.before #[Value.ref b] s = true := fun w h => hts0 w (wsL_law_in w h)
  have hbA : ¬ lA s b := Nat.not_le.mpr hbl
  obtain ⟨r, cs2, ms2, e1, e2, hR2⟩ := op_trace (N := N) hR
  refine lv_aload_n hx hb dL_law_949 rfl (lv_at hl 1 rfl) ?_
  refine lcC C0 (As := []) (rest := []) (jw_X8_trace D am cI cC cS hj N e1) (cwV 0 hts gL_law_X8_trace rfl rfl rfl yd_X8_trace ⟨Nat.le_of_ble_eq_true rfl, Nat.le_of_ble_eq_true rfl⟩) hI rfl hl.1 rfl (Nat.le_of_ble_eq_true rfl) dL_law_950 (fun H locs hI => ?_)
  refine lv_aload_n hx hb dL_law_953 rfl (lv_at hl 2 rfl) ?_
  refine lcM C0 (As := []) (rest := [.long r]) (jw_X9_trace D bm cI cZ hj2 N e2) (cwV 0 hts gL_law_X9_trace rfl rfl rfl yd_X9_trace ⟨Nat.le_of_ble_eq_true rfl, Nat.le_of_ble_eq_true rfl⟩) hI rfl hl.1 rfl (Nat.le_of_ble_eq_true rfl) dL_law_954 (fun H locs hI => ?_)
  refine W.lcmp hx hb dL_law_957 ?_
  rw [show lg_cmp r r = 0 by simp [lg_cmp]]
  exact lv_if_eq (tgt := 963) hx hb dL_law_958 (by decide) (fun _ => kk _ _ _ _ hI hR2) (fun z => absurd rfl z)
