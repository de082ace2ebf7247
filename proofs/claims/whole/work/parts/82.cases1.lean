/-! the law, call by call, printed by wip/gen/gl.py -/
theorem lk_0 {p : Program} {l : Launch} {e : Env} {s : State} {m : MethodId} {below : List Frame} {meth : Method} {c : Code} {b L : Nat} {xs : Nat → Int32} {D : va_G} {am bm : Nat → Nat} {cI cC cS cZ : ClassId} {H : Heap} {locs : List Loc} {ls : Array Slot} {Q : State → Prop} {N : Nat} {cs ms : PS} {x3 : Int32} (C0 : LC p s m meth c b L xs D am bm cI cC cS cZ) (hN : 2000000 ≤ N) (hI : LI D am bm cI cC cS cZ s H locs cs ms) (hR : Rel cs ms) (hl : lv_has ls 4 [(0, .ref b), (1, .ref (am 0)), (2, .ref (bm 0)), (3, .int x3)]) (h1 : vp_in (x3 + 1) L) (h2 : vp_in (x3 + 2) L) (h3 : vp_in (x3 + 3) L) (kk : ∀ (H1 : Heap) (locs1 : List Loc) (cs1 ms1 : PS), LI D am bm cI cC cS cZ s H1 locs1 cs1 ms1 → Rel cs1 ms1 → W p l e room_1 s m #[Value.ref b] below meth c H1 locs1 76 4305 Q (F0 m 963 ls [])) : W p l e room_1 s m #[Value.ref b] below meth c H locs 76 4305 Q (F0 m 176 ls []) := by
  have C1 := C0
  obtain ⟨⟨hx, hb, -, -, -, hts0, hX, hbl, -, -⟩, -, -, hj, hj2, -⟩ := C1
  have hts : ∀ w ∈ wsL_law, w.before #[Value.ref b] s = true := fun w h => hts0 w (wsL_law_in w h)
  have hbA : ¬ lA s b := Nat.not_le.mpr hbl
  obtain ⟨r, cs2, ms2, e1, e2, hR2⟩ := op_type (N := N) (x := (xs (x3 + 1).toNatClampNeg)) cs ms hR
  refine lv_aload_n hx hb dL_law_176 rfl (lv_at hl 1 rfl) ?_
  refine lv_aload_n hx hb dL_law_177 rfl (lv_at hl 0 rfl) ?_
  refine lv_iload_n hx hb dL_law_178 rfl (lv_at hl 3 rfl) ?_
  refine lv_iconst (v := (1 : Int32)) hx hb dL_law_179 (by decide) ?_
  refine lv_iadd hx hb dL_law_180 ?_
  refine va_sld hx hb hX hbl hbA hI.2.2 h1 dL_law_181 ?_
  refine lcC C0 (As := [.int (xs (x3 + 1).toNatClampNeg)]) (rest := []) (jw_X8_type D am cI cC cS hj N e1) (cwV 1 hts gL_law_X8_type rfl rfl rfl yd_X8_type ⟨Nat.le_of_ble_eq_true rfl, Nat.le_of_ble_eq_true rfl⟩) hI rfl hl.1 rfl (Nat.le_of_ble_eq_true rfl) dL_law_182 (fun H locs hI => ?_)
  refine lv_aload_n hx hb dL_law_185 rfl (lv_at hl 2 rfl) ?_
  refine lv_aload_n hx hb dL_law_186 rfl (lv_at hl 0 rfl) ?_
  refine lv_iload_n hx hb dL_law_187 rfl (lv_at hl 3 rfl) ?_
  refine lv_iconst (v := (1 : Int32)) hx hb dL_law_188 (by decide) ?_
  refine lv_iadd hx hb dL_law_189 ?_
  refine va_sld hx hb hX hbl hbA hI.2.2 h1 dL_law_190 ?_
  refine lcM C0 (As := [.int (xs (x3 + 1).toNatClampNeg)]) (rest := [.int r]) (jw_X9_type D bm cI cZ hj2 N e2) (cwV 1 hts gL_law_X9_type rfl rfl rfl yd_X9_type ⟨Nat.le_of_ble_eq_true rfl, Nat.le_of_ble_eq_true rfl⟩) hI rfl hl.1 rfl (Nat.le_of_ble_eq_true rfl) dL_law_191 (fun H locs hI => ?_)
  exact lv_icmp_eq (tgt := 963) hx hb dL_law_194 (by decide) (fun _ => kk _ _ _ _ hI hR2) (fun z => absurd rfl z)
theorem lk_1 {p : Program} {l : Launch} {e : Env} {s : State} {m : MethodId} {below : List Frame} {meth : Method} {c : Code} {b L : Nat} {xs : Nat → Int32} {D : va_G} {am bm : Nat → Nat} {cI cC cS cZ : ClassId} {H : Heap} {locs : List Loc} {ls : Array Slot} {Q : State → Prop} {N : Nat} {cs ms : PS} {x3 : Int32} (C0 : LC p s m meth c b L xs D am bm cI cC cS cZ) (hN : 2000000 ≤ N) (hI : LI D am bm cI cC cS cZ s H locs cs ms) (hR : Rel cs ms) (hl : lv_has ls 4 [(0, .ref b), (1, .ref (am 0)), (2, .ref (bm 0)), (3, .int x3)]) (h1 : vp_in (x3 + 1) L) (h2 : vp_in (x3 + 2) L) (h3 : vp_in (x3 + 3) L) (kk : ∀ (H1 : Heap) (locs1 : List Loc) (cs1 ms1 : PS), LI D am bm cI cC cS cZ s H1 locs1 cs1 ms1 → Rel cs1 ms1 → W p l e room_1 s m #[Value.ref b] below meth c H1 locs1 76 4305 Q (F0 m 963 ls [])) : W p l e room_1 s m #[Value.ref b] below meth c H locs 76 4305 Q (F0 m 199 ls []) := by
  have C1 := C0
  obtain ⟨⟨hx, hb, -, -, -, hts0, hX, hbl, -, -⟩, -, -, hj, hj2, -⟩ := C1
  have hts : ∀ w ∈ wsL_law, w.before #[Value.ref b] s = true := fun w h => hts0 w (wsL_law_in w h)
  have hbA : ¬ lA s b := Nat.not_le.mpr hbl
  obtain ⟨r, cs2, ms2, e1, e2, hR2⟩ := op_clear (N := N) cs ms hR
  refine lv_aload_n hx hb dL_law_199 rfl (lv_at hl 1 rfl) ?_
  refine lcC C0 (As := []) (rest := []) (jw_X8_clear D am cI cC cS hj N e1) (cwV 0 hts gL_law_X8_clear rfl rfl rfl yd_X8_clear ⟨Nat.le_of_ble_eq_true rfl, Nat.le_of_ble_eq_true rfl⟩) hI rfl hl.1 rfl (Nat.le_of_ble_eq_true rfl) dL_law_200 (fun H locs hI => ?_)
  refine lv_aload_n hx hb dL_law_203 rfl (lv_at hl 2 rfl) ?_
  refine lcM C0 (As := []) (rest := [.int r]) (jw_X9_clear D bm cI cZ hj2 N e2) (cwV 0 hts gL_law_X9_clear rfl rfl rfl yd_X9_clear ⟨Nat.le_of_ble_eq_true rfl, Nat.le_of_ble_eq_true rfl⟩) hI rfl hl.1 rfl (Nat.le_of_ble_eq_true rfl) dL_law_204 (fun H locs hI => ?_)
  exact lv_icmp_eq (tgt := 963) hx hb dL_law_207 (by decide) (fun _ => kk _ _ _ _ hI hR2) (fun z => absurd rfl z)
theorem lk_2 {p : Program} {l : Launch} {e : Env} {s : State} {m : MethodId} {below : List Frame} {meth : Method} {c : Code} {b L : Nat} {xs : Nat → Int32} {D : va_G} {am bm : Nat → Nat} {cI cC cS cZ : ClassId} {H : Heap} {locs : List Loc} {ls : Array Slot} {Q : State → Prop} {N : Nat} {cs ms : PS} {x3 : Int32} (C0 : LC p s m meth c b L xs D am bm cI cC cS cZ) (hN : 2000000 ≤ N) (hI : LI D am bm cI cC cS cZ s H locs cs ms) (hR : Rel cs ms) (hl : lv_has ls 4 [(0, .ref b), (1, .ref (am 0)), (2, .ref (bm 0)), (3, .int x3)]) (h1 : vp_in (x3 + 1) L) (h2 : vp_in (x3 + 2) L) (h3 : vp_in (x3 + 3) L) (kk : ∀ (H1 : Heap) (locs1 : List Loc) (cs1 ms1 : PS), LI D am bm cI cC cS cZ s H1 locs1 cs1 ms1 → Rel cs1 ms1 → W p l e room_1 s m #[Value.ref b] below meth c H1 locs1 76 4305 Q (F0 m 963 ls [])) : W p l e room_1 s m #[Value.ref b] below meth c H locs 76 4305 Q (F0 m 212 ls []) := by
  have C1 := C0
  obtain ⟨⟨hx, hb, -, -, -, hts0, hX, hbl, -, -⟩, -, -, hj, hj2, -⟩ := C1
  have hts : ∀ w ∈ wsL_law, w.before #[Value.ref b] s = true := fun w h => hts0 w (wsL_law_in w h)
  have hbA : ¬ lA s b := Nat.not_le.mpr hbl
  obtain ⟨r, cs2, ms2, e1, e2, hR2⟩ := op_puppet (N := N) (by omega) cs ms hR
  refine lv_aload_n hx hb dL_law_212 rfl (lv_at hl 1 rfl) ?_
  refine lcC C0 (As := []) (rest := []) (jw_X8_puppet D am cI cC cS hj N e1) (cwV 0 hts gL_law_X8_puppet rfl rfl rfl yd_X8_puppet ⟨Nat.le_of_ble_eq_true rfl, Nat.le_of_ble_eq_true rfl⟩) hI rfl hl.1 rfl (Nat.le_of_ble_eq_true rfl) dL_law_213 (fun H locs hI => ?_)
  refine lv_aload_n hx hb dL_law_216 rfl (lv_at hl 2 rfl) ?_
  refine lcM C0 (As := []) (rest := [.int r]) (jw_X9_puppet D bm cI cZ hj2 N e2) (cwV 0 hts gL_law_X9_puppet rfl rfl rfl yd_X9_puppet ⟨Nat.le_of_ble_eq_true rfl, Nat.le_of_ble_eq_true rfl⟩) hI rfl hl.1 rfl (Nat.le_of_ble_eq_true rfl) dL_law_217 (fun H locs hI => ?_)
  exact lv_icmp_eq (tgt := 963) hx hb dL_law_220 (by decide) (fun _ => kk _ _ _ _ hI hR2) (fun z => absurd rfl z)
theorem lk_3 {p : Program} {l : Launch} {e : Env} {s : State} {m : MethodId} {below : List Frame} {meth : Method} {c : Code} {b L : Nat} {xs : Nat → Int32} {D : va_G} {am bm : Nat → Nat} {cI cC cS cZ : ClassId} {H : Heap} {locs : List Loc} {ls : Array Slot} {Q : State → Prop} {N : Nat} {cs ms : PS} {x3 : Int32} (C0 : LC p s m meth c b L xs D am bm cI cC cS cZ) (hN : 2000000 ≤ N) (hI : LI D am bm cI cC cS cZ s H locs cs ms) (hR : Rel cs ms) (hl : lv_has ls 4 [(0, .ref b), (1, .ref (am 0)), (2, .ref (bm 0)), (3, .int x3)]) (h1 : vp_in (x3 + 1) L) (h2 : vp_in (x3 + 2) L) (h3 : vp_in (x3 + 3) L) (kk : ∀ (H1 : Heap) (locs1 : List Loc) (cs1 ms1 : PS), LI D am bm cI cC cS cZ s H1 locs1 cs1 ms1 → Rel cs1 ms1 → W p l e room_1 s m #[Value.ref b] below meth c H1 locs1 76 4305 Q (F0 m 963 ls [])) : W p l e room_1 s m #[Value.ref b] below meth c H locs 76 4305 Q (F0 m 225 ls []) := by
  have C1 := C0
  obtain ⟨⟨hx, hb, -, -, -, hts0, hX, hbl, -, -⟩, -, -, hj, hj2, -⟩ := C1
  have hts : ∀ w ∈ wsL_law, w.before #[Value.ref b] s = true := fun w h => hts0 w (wsL_law_in w h)
  have hbA : ¬ lA s b := Nat.not_le.mpr hbl
  obtain ⟨r, cs2, ms2, e1, e2, hR2⟩ := op_limb (N := N) (x := (xs (x3 + 1).toNatClampNeg)) (y := (xs (x3 + 2).toNatClampNeg)) (by omega) cs ms hR
  refine lv_aload_n hx hb dL_law_225 rfl (lv_at hl 1 rfl) ?_
  refine lv_aload_n hx hb dL_law_226 rfl (lv_at hl 0 rfl) ?_
  refine lv_iload_n hx hb dL_law_227 rfl (lv_at hl 3 rfl) ?_
  refine lv_iconst (v := (1 : Int32)) hx hb dL_law_228 (by decide) ?_
  refine lv_iadd hx hb dL_law_229 ?_
  refine va_sld hx hb hX hbl hbA hI.2.2 h1 dL_law_230 ?_
  refine lv_aload_n hx hb dL_law_231 rfl (lv_at hl 0 rfl) ?_
  refine lv_iload_n hx hb dL_law_232 rfl (lv_at hl 3 rfl) ?_
  refine lv_iconst (v := (2 : Int32)) hx hb dL_law_233 (by decide) ?_
  refine lv_iadd hx hb dL_law_234 ?_
  refine va_sld hx hb hX hbl hbA hI.2.2 h2 dL_law_235 ?_
  refine lcC C0 (As := [.int (xs (x3 + 1).toNatClampNeg), .int (xs (x3 + 2).toNatClampNeg)]) (rest := []) (jw_X8_limb D am cI cC cS hj N e1) (cwV 2 hts gL_law_X8_limb rfl rfl rfl yd_X8_limb ⟨Nat.le_of_ble_eq_true rfl, Nat.le_of_ble_eq_true rfl⟩) hI rfl hl.1 rfl (Nat.le_of_ble_eq_true rfl) dL_law_236 (fun H locs hI => ?_)
  refine lv_aload_n hx hb dL_law_239 rfl (lv_at hl 2 rfl) ?_
  refine lv_aload_n hx hb dL_law_240 rfl (lv_at hl 0 rfl) ?_
  refine lv_iload_n hx hb dL_law_241 rfl (lv_at hl 3 rfl) ?_
  refine lv_iconst (v := (1 : Int32)) hx hb dL_law_242 (by decide) ?_
  refine lv_iadd hx hb dL_law_243 ?_
  refine va_sld hx hb hX hbl hbA hI.2.2 h1 dL_law_244 ?_
  refine lv_aload_n hx hb dL_law_245 rfl (lv_at hl 0 rfl) ?_
  refine lv_iload_n hx hb dL_law_246 rfl (lv_at hl 3 rfl) ?_
  refine lv_iconst (v := (2 : Int32)) hx hb dL_law_247 (by decide) ?_
  refine lv_iadd hx hb dL_law_248 ?_
  refine va_sld hx hb hX hbl hbA hI.2.2 h2 dL_law_249 ?_
  refine lcM C0 (As := [.int (xs (x3 + 1).toNatClampNeg), .int (xs (x3 + 2).toNatClampNeg)]) (rest := [.int r]) (jw_X9_limb D bm cI cZ hj2 N e2) (cwV 2 hts gL_law_X9_limb rfl rfl rfl yd_X9_limb ⟨Nat.le_of_ble_eq_true rfl, Nat.le_of_ble_eq_true rfl⟩) hI rfl hl.1 rfl (Nat.le_of_ble_eq_true rfl) dL_law_250 (fun H locs hI => ?_)
  exact lv_icmp_eq (tgt := 963) hx hb dL_law_253 (by decide) (fun _ => kk _ _ _ _ hI hR2) (fun z => absurd rfl z)
theorem lk_4 {p : Program} {l : Launch} {e : Env} {s : State} {m : MethodId} {below : List Frame} {meth : Method} {c : Code} {b L : Nat} {xs : Nat → Int32} {D : va_G} {am bm : Nat → Nat} {cI cC cS cZ : ClassId} {H : Heap} {locs : List Loc} {ls : Array Slot} {Q : State → Prop} {N : Nat} {cs ms : PS} {x3 : Int32} (C0 : LC p s m meth c b L xs D am bm cI cC cS cZ) (hN : 2000000 ≤ N) (hI : LI D am bm cI cC cS cZ s H locs cs ms) (hR : Rel cs ms) (hl : lv_has ls 4 [(0, .ref b), (1, .ref (am 0)), (2, .ref (bm 0)), (3, .int x3)]) (h1 : vp_in (x3 + 1) L) (h2 : vp_in (x3 + 2) L) (h3 : vp_in (x3 + 3) L) (kk : ∀ (H1 : Heap) (locs1 : List Loc) (cs1 ms1 : PS), LI D am bm cI cC cS cZ s H1 locs1 cs1 ms1 → Rel cs1 ms1 → W p l e room_1 s m #[Value.ref b] below meth c H1 locs1 76 4305 Q (F0 m 963 ls [])) : W p l e room_1 s m #[Value.ref b] below meth c H locs 76 4305 Q (F0 m 258 ls []) := by
  have C1 := C0
  obtain ⟨⟨hx, hb, -, -, -, hts0, hX, hbl, -, -⟩, -, -, hj, hj2, -⟩ := C1
  have hts : ∀ w ∈ wsL_law, w.before #[Value.ref b] s = true := fun w h => hts0 w (wsL_law_in w h)
  have hbA : ¬ lA s b := Nat.not_le.mpr hbl
  obtain ⟨r, cs2, ms2, e1, e2, hR2⟩ := op_string (N := N) (x := (xs (x3 + 1).toNatClampNeg)) (y := (xs (x3 + 2).toNatClampNeg)) (by omega) cs ms hR
  refine lv_aload_n hx hb dL_law_258 rfl (lv_at hl 1 rfl) ?_
  refine lv_aload_n hx hb dL_law_259 rfl (lv_at hl 0 rfl) ?_
  refine lv_iload_n hx hb dL_law_260 rfl (lv_at hl 3 rfl) ?_
  refine lv_iconst (v := (1 : Int32)) hx hb dL_law_261 (by decide) ?_
  refine lv_iadd hx hb dL_law_262 ?_
  refine va_sld hx hb hX hbl hbA hI.2.2 h1 dL_law_263 ?_
  refine lv_aload_n hx hb dL_law_264 rfl (lv_at hl 0 rfl) ?_
  refine lv_iload_n hx hb dL_law_265 rfl (lv_at hl 3 rfl) ?_
  refine lv_iconst (v := (2 : Int32)) hx hb dL_law_266 (by decide) ?_
  refine lv_iadd hx hb dL_law_267 ?_
  refine va_sld hx hb hX hbl hbA hI.2.2 h2 dL_law_268 ?_
  refine lcC C0 (As := [.int (xs (x3 + 1).toNatClampNeg), .int (xs (x3 + 2).toNatClampNeg)]) (rest := []) (jw_X8_string D am cI cC cS hj N e1) (cwV 2 hts gL_law_X8_string rfl rfl rfl yd_X8_string ⟨Nat.le_of_ble_eq_true rfl, Nat.le_of_ble_eq_true rfl⟩) hI rfl hl.1 rfl (Nat.le_of_ble_eq_true rfl) dL_law_269 (fun H locs hI => ?_)
  refine lv_aload_n hx hb dL_law_272 rfl (lv_at hl 2 rfl) ?_
  refine lv_aload_n hx hb dL_law_273 rfl (lv_at hl 0 rfl) ?_
  refine lv_iload_n hx hb dL_law_274 rfl (lv_at hl 3 rfl) ?_
  refine lv_iconst (v := (1 : Int32)) hx hb dL_law_275 (by decide) ?_
  refine lv_iadd hx hb dL_law_276 ?_
  refine va_sld hx hb hX hbl hbA hI.2.2 h1 dL_law_277 ?_
  refine lv_aload_n hx hb dL_law_278 rfl (lv_at hl 0 rfl) ?_
  refine lv_iload_n hx hb dL_law_279 rfl (lv_at hl 3 rfl) ?_
  refine lv_iconst (v := (2 : Int32)) hx hb dL_law_280 (by decide) ?_
  refine lv_iadd hx hb dL_law_281 ?_
  refine va_sld hx hb hX hbl hbA hI.2.2 h2 dL_law_282 ?_
  refine lcM C0 (As := [.int (xs (x3 + 1).toNatClampNeg), .int (xs (x3 + 2).toNatClampNeg)]) (rest := [.int r]) (jw_X9_string D bm cI cZ hj2 N e2) (cwV 2 hts gL_law_X9_string rfl rfl rfl yd_X9_string ⟨Nat.le_of_ble_eq_true rfl, Nat.le_of_ble_eq_true rfl⟩) hI rfl hl.1 rfl (Nat.le_of_ble_eq_true rfl) dL_law_283 (fun H locs hI => ?_)
  exact lv_icmp_eq (tgt := 963) hx hb dL_law_286 (by decide) (fun _ => kk _ _ _ _ hI hR2) (fun z => absurd rfl z)
theorem lk_5 {p : Program} {l : Launch} {e : Env} {s : State} {m : MethodId} {below : List Frame} {meth : Method} {c : Code} {b L : Nat} {xs : Nat → Int32} {D : va_G} {am bm : Nat → Nat} {cI cC cS cZ : ClassId} {H : Heap} {locs : List Loc} {ls : Array Slot} {Q : State → Prop} {N : Nat} {cs ms : PS} {x3 : Int32} (C0 : LC p s m meth c b L xs D am bm cI cC cS cZ) (hN : 2000000 ≤ N) (hI : LI D am bm cI cC cS cZ s H locs cs ms) (hR : Rel cs ms) (hl : lv_has ls 4 [(0, .ref b), (1, .ref (am 0)), (2, .ref (bm 0)), (3, .int x3)]) (h1 : vp_in (x3 + 1) L) (h2 : vp_in (x3 + 2) L) (h3 : vp_in (x3 + 3) L) (kk : ∀ (H1 : Heap) (locs1 : List Loc) (cs1 ms1 : PS), LI D am bm cI cC cS cZ s H1 locs1 cs1 ms1 → Rel cs1 ms1 → W p l e room_1 s m #[Value.ref b] below meth c H1 locs1 76 4305 Q (F0 m 963 ls [])) : W p l e room_1 s m #[Value.ref b] below meth c H locs 76 4305 Q (F0 m 291 ls []) := by
  have C1 := C0
  obtain ⟨⟨hx, hb, -, -, -, hts0, hX, hbl, -, -⟩, -, -, hj, hj2, -⟩ := C1
  have hts : ∀ w ∈ wsL_law, w.before #[Value.ref b] s = true := fun w h => hts0 w (wsL_law_in w h)
  have hbA : ¬ lA s b := Nat.not_le.mpr hbl
  obtain ⟨r, cs2, ms2, e1, e2, hR2⟩ := op_beat (N := N) (x := (xs (x3 + 1).toNatClampNeg)) (y := (xs (x3 + 2).toNatClampNeg)) cs ms hR
  refine lv_aload_n hx hb dL_law_291 rfl (lv_at hl 1 rfl) ?_
  refine lv_aload_n hx hb dL_law_292 rfl (lv_at hl 0 rfl) ?_
  refine lv_iload_n hx hb dL_law_293 rfl (lv_at hl 3 rfl) ?_
  refine lv_iconst (v := (1 : Int32)) hx hb dL_law_294 (by decide) ?_
  refine lv_iadd hx hb dL_law_295 ?_
  refine va_sld hx hb hX hbl hbA hI.2.2 h1 dL_law_296 ?_
  refine lv_aload_n hx hb dL_law_297 rfl (lv_at hl 0 rfl) ?_
  refine lv_iload_n hx hb dL_law_298 rfl (lv_at hl 3 rfl) ?_
  refine lv_iconst (v := (2 : Int32)) hx hb dL_law_299 (by decide) ?_
  refine lv_iadd hx hb dL_law_300 ?_
  refine va_sld hx hb hX hbl hbA hI.2.2 h2 dL_law_301 ?_
  refine lcC C0 (As := [.int (xs (x3 + 1).toNatClampNeg), .int (xs (x3 + 2).toNatClampNeg)]) (rest := []) (jw_X8_beat D am cI cC cS hj N e1) (cwV 2 hts gL_law_X8_beat rfl rfl rfl yd_X8_beat ⟨Nat.le_of_ble_eq_true rfl, Nat.le_of_ble_eq_true rfl⟩) hI rfl hl.1 rfl (Nat.le_of_ble_eq_true rfl) dL_law_302 (fun H locs hI => ?_)
  refine lv_aload_n hx hb dL_law_305 rfl (lv_at hl 2 rfl) ?_
  refine lv_aload_n hx hb dL_law_306 rfl (lv_at hl 0 rfl) ?_
  refine lv_iload_n hx hb dL_law_307 rfl (lv_at hl 3 rfl) ?_
  refine lv_iconst (v := (1 : Int32)) hx hb dL_law_308 (by decide) ?_
  refine lv_iadd hx hb dL_law_309 ?_
  refine va_sld hx hb hX hbl hbA hI.2.2 h1 dL_law_310 ?_
  refine lv_aload_n hx hb dL_law_311 rfl (lv_at hl 0 rfl) ?_
  refine lv_iload_n hx hb dL_law_312 rfl (lv_at hl 3 rfl) ?_
  refine lv_iconst (v := (2 : Int32)) hx hb dL_law_313 (by decide) ?_
  refine lv_iadd hx hb dL_law_314 ?_
  refine va_sld hx hb hX hbl hbA hI.2.2 h2 dL_law_315 ?_
  refine lcM C0 (As := [.int (xs (x3 + 1).toNatClampNeg), .int (xs (x3 + 2).toNatClampNeg)]) (rest := [.int r]) (jw_X9_beat D bm cI cZ hj2 N e2) (cwV 2 hts gL_law_X9_beat rfl rfl rfl yd_X9_beat ⟨Nat.le_of_ble_eq_true rfl, Nat.le_of_ble_eq_true rfl⟩) hI rfl hl.1 rfl (Nat.le_of_ble_eq_true rfl) dL_law_316 (fun H locs hI => ?_)
  exact lv_icmp_eq (tgt := 963) hx hb dL_law_319 (by decide) (fun _ => kk _ _ _ _ hI hR2) (fun z => absurd rfl z)
theorem lk_6 {p : Program} {l : Launch} {e : Env} {s : State} {m : MethodId} {below : List Frame} {meth : Method} {c : Code} {b L : Nat} {xs : Nat → Int32} {D : va_G} {am bm : Nat → Nat} {cI cC cS cZ : ClassId} {H : Heap} {locs : List Loc} {ls : Array Slot} {Q : State → Prop} {N : Nat} {cs ms : PS} {x3 : Int32} (C0 : LC p s m meth c b L xs D am bm cI cC cS cZ) (hN : 2000000 ≤ N) (hI : LI D am bm cI cC cS cZ s H locs cs ms) (hR : Rel cs ms) (hl : lv_has ls 4 [(0, .ref b), (1, .ref (am 0)), (2, .ref (bm 0)), (3, .int x3)]) (h1 : vp_in (x3 + 1) L) (h2 : vp_in (x3 + 2) L) (h3 : vp_in (x3 + 3) L) (kk : ∀ (H1 : Heap) (locs1 : List Loc) (cs1 ms1 : PS), LI D am bm cI cC cS cZ s H1 locs1 cs1 ms1 → Rel cs1 ms1 → W p l e room_1 s m #[Value.ref b] below meth c H1 locs1 76 4305 Q (F0 m 963 ls [])) : W p l e room_1 s m #[Value.ref b] below meth c H locs 76 4305 Q (F0 m 324 ls []) := by
  have C1 := C0
  obtain ⟨⟨hx, hb, -, -, -, hts0, hX, hbl, -, -⟩, -, -, hj, hj2, -⟩ := C1
  have hts : ∀ w ∈ wsL_law, w.before #[Value.ref b] s = true := fun w h => hts0 w (wsL_law_in w h)
  have hbA : ¬ lA s b := Nat.not_le.mpr hbl
  obtain ⟨r, cs2, ms2, e1, e2, hR2⟩ := op_far (N := N) (x := (xs (x3 + 1).toNatClampNeg)) (y := (xs (x3 + 2).toNatClampNeg)) cs ms hR
  refine lv_aload_n hx hb dL_law_324 rfl (lv_at hl 1 rfl) ?_
  refine lv_aload_n hx hb dL_law_325 rfl (lv_at hl 0 rfl) ?_
  refine lv_iload_n hx hb dL_law_326 rfl (lv_at hl 3 rfl) ?_
  refine lv_iconst (v := (1 : Int32)) hx hb dL_law_327 (by decide) ?_
  refine lv_iadd hx hb dL_law_328 ?_
  refine va_sld hx hb hX hbl hbA hI.2.2 h1 dL_law_329 ?_
  refine lv_aload_n hx hb dL_law_330 rfl (lv_at hl 0 rfl) ?_
  refine lv_iload_n hx hb dL_law_331 rfl (lv_at hl 3 rfl) ?_
  refine lv_iconst (v := (2 : Int32)) hx hb dL_law_332 (by decide) ?_
  refine lv_iadd hx hb dL_law_333 ?_
  refine va_sld hx hb hX hbl hbA hI.2.2 h2 dL_law_334 ?_
  refine lcC C0 (As := [.int (xs (x3 + 1).toNatClampNeg), .int (xs (x3 + 2).toNatClampNeg)]) (rest := []) (jw_X8_far D am cI cC cS hj N e1) (cwV 2 hts gL_law_X8_far rfl rfl rfl yd_X8_far ⟨Nat.le_of_ble_eq_true rfl, Nat.le_of_ble_eq_true rfl⟩) hI rfl hl.1 rfl (Nat.le_of_ble_eq_true rfl) dL_law_335 (fun H locs hI => ?_)
  refine lv_aload_n hx hb dL_law_338 rfl (lv_at hl 2 rfl) ?_
  refine lv_aload_n hx hb dL_law_339 rfl (lv_at hl 0 rfl) ?_
  refine lv_iload_n hx hb dL_law_340 rfl (lv_at hl 3 rfl) ?_
  refine lv_iconst (v := (1 : Int32)) hx hb dL_law_341 (by decide) ?_
  refine lv_iadd hx hb dL_law_342 ?_
  refine va_sld hx hb hX hbl hbA hI.2.2 h1 dL_law_343 ?_
  refine lv_aload_n hx hb dL_law_344 rfl (lv_at hl 0 rfl) ?_
  refine lv_iload_n hx hb dL_law_345 rfl (lv_at hl 3 rfl) ?_
  refine lv_iconst (v := (2 : Int32)) hx hb dL_law_346 (by decide) ?_
  refine lv_iadd hx hb dL_law_347 ?_
  refine va_sld hx hb hX hbl hbA hI.2.2 h2 dL_law_348 ?_
  refine lcM C0 (As := [.int (xs (x3 + 1).toNatClampNeg), .int (xs (x3 + 2).toNatClampNeg)]) (rest := [.int r]) (jw_X9_far D bm cI cZ hj2 N e2) (cwV 2 hts gL_law_X9_far rfl rfl rfl yd_X9_far ⟨Nat.le_of_ble_eq_true rfl, Nat.le_of_ble_eq_true rfl⟩) hI rfl hl.1 rfl (Nat.le_of_ble_eq_true rfl) dL_law_349 (fun H locs hI => ?_)
  exact lv_icmp_eq (tgt := 963) hx hb dL_law_352 (by decide) (fun _ => kk _ _ _ _ hI hR2) (fun z => absurd rfl z)
theorem lk_7 {p : Program} {l : Launch} {e : Env} {s : State} {m : MethodId} {below : List Frame} {meth : Method} {c : Code} {b L : Nat} {xs : Nat → Int32} {D : va_G} {am bm : Nat → Nat} {cI cC cS cZ : ClassId} {H : Heap} {locs : List Loc} {ls : Array Slot} {Q : State → Prop} {N : Nat} {cs ms : PS} {x3 : Int32} (C0 : LC p s m meth c b L xs D am bm cI cC cS cZ) (hN : 2000000 ≤ N) (hI : LI D am bm cI cC cS cZ s H locs cs ms) (hR : Rel cs ms) (hl : lv_has ls 4 [(0, .ref b), (1, .ref (am 0)), (2, .ref (bm 0)), (3, .int x3)]) (h1 : vp_in (x3 + 1) L) (h2 : vp_in (x3 + 2) L) (h3 : vp_in (x3 + 3) L) (kk : ∀ (H1 : Heap) (locs1 : List Loc) (cs1 ms1 : PS), LI D am bm cI cC cS cZ s H1 locs1 cs1 ms1 → Rel cs1 ms1 → W p l e room_1 s m #[Value.ref b] below meth c H1 locs1 76 4305 Q (F0 m 963 ls [])) : W p l e room_1 s m #[Value.ref b] below meth c H locs 76 4305 Q (F0 m 357 ls []) := by
  have C1 := C0
  obtain ⟨⟨hx, hb, -, -, -, hts0, hX, hbl, -, -⟩, -, -, hj, hj2, -⟩ := C1
  have hts : ∀ w ∈ wsL_law, w.before #[Value.ref b] s = true := fun w h => hts0 w (wsL_law_in w h)
  have hbA : ¬ lA s b := Nat.not_le.mpr hbl
  obtain ⟨r, cs2, ms2, e1, e2, hR2⟩ := op_lifts (N := N) (x := (xs (x3 + 1).toNatClampNeg)) (by omega) cs ms hR
  refine lv_aload_n hx hb dL_law_357 rfl (lv_at hl 1 rfl) ?_
  refine lv_aload_n hx hb dL_law_358 rfl (lv_at hl 0 rfl) ?_
  refine lv_iload_n hx hb dL_law_359 rfl (lv_at hl 3 rfl) ?_
  refine lv_iconst (v := (1 : Int32)) hx hb dL_law_360 (by decide) ?_
  refine lv_iadd hx hb dL_law_361 ?_
  refine va_sld hx hb hX hbl hbA hI.2.2 h1 dL_law_362 ?_
  refine lcC C0 (As := [.int (xs (x3 + 1).toNatClampNeg)]) (rest := []) (jw_X8_lifts D am cI cC cS hj N e1) (cwV 1 hts gL_law_X8_lifts rfl rfl rfl yd_X8_lifts ⟨Nat.le_of_ble_eq_true rfl, Nat.le_of_ble_eq_true rfl⟩) hI rfl hl.1 rfl (Nat.le_of_ble_eq_true rfl) dL_law_363 (fun H locs hI => ?_)
  refine lv_aload_n hx hb dL_law_366 rfl (lv_at hl 2 rfl) ?_
  refine lv_aload_n hx hb dL_law_367 rfl (lv_at hl 0 rfl) ?_
  refine lv_iload_n hx hb dL_law_368 rfl (lv_at hl 3 rfl) ?_
  refine lv_iconst (v := (1 : Int32)) hx hb dL_law_369 (by decide) ?_
  refine lv_iadd hx hb dL_law_370 ?_
  refine va_sld hx hb hX hbl hbA hI.2.2 h1 dL_law_371 ?_
  refine lcM C0 (As := [.int (xs (x3 + 1).toNatClampNeg)]) (rest := [.int r]) (jw_X9_lifts D bm cI cZ hj2 N e2) (cwV 1 hts gL_law_X9_lifts rfl rfl rfl yd_X9_lifts ⟨Nat.le_of_ble_eq_true rfl, Nat.le_of_ble_eq_true rfl⟩) hI rfl hl.1 rfl (Nat.le_of_ble_eq_true rfl) dL_law_372 (fun H locs hI => ?_)
  exact lv_icmp_eq (tgt := 963) hx hb dL_law_375 (by decide) (fun _ => kk _ _ _ _ hI hR2) (fun z => absurd rfl z)
theorem lk_8 {p : Program} {l : Launch} {e : Env} {s : State} {m : MethodId} {below : List Frame} {meth : Method} {c : Code} {b L : Nat} {xs : Nat → Int32} {D : va_G} {am bm : Nat → Nat} {cI cC cS cZ : ClassId} {H : Heap} {locs : List Loc} {ls : Array Slot} {Q : State → Prop} {N : Nat} {cs ms : PS} {x3 : Int32} (C0 : LC p s m meth c b L xs D am bm cI cC cS cZ) (hN : 2000000 ≤ N) (hI : LI D am bm cI cC cS cZ s H locs cs ms) (hR : Rel cs ms) (hl : lv_has ls 4 [(0, .ref b), (1, .ref (am 0)), (2, .ref (bm 0)), (3, .int x3)]) (h1 : vp_in (x3 + 1) L) (h2 : vp_in (x3 + 2) L) (h3 : vp_in (x3 + 3) L) (kk : ∀ (H1 : Heap) (locs1 : List Loc) (cs1 ms1 : PS), LI D am bm cI cC cS cZ s H1 locs1 cs1 ms1 → Rel cs1 ms1 → W p l e room_1 s m #[Value.ref b] below meth c H1 locs1 76 4305 Q (F0 m 963 ls [])) : W p l e room_1 s m #[Value.ref b] below meth c H locs 76 4305 Q (F0 m 380 ls []) := by
  have C1 := C0
  obtain ⟨⟨hx, hb, -, -, -, hts0, hX, hbl, -, -⟩, -, -, hj, hj2, -⟩ := C1
  have hts : ∀ w ∈ wsL_law, w.before #[Value.ref b] s = true := fun w h => hts0 w (wsL_law_in w h)
  have hbA : ¬ lA s b := Nat.not_le.mpr hbl
  obtain ⟨r, cs2, ms2, e1, e2, hR2⟩ := op_tilts (N := N) (x := (xs (x3 + 1).toNatClampNeg)) (by omega) cs ms hR
  refine lv_aload_n hx hb dL_law_380 rfl (lv_at hl 1 rfl) ?_
  refine lv_aload_n hx hb dL_law_381 rfl (lv_at hl 0 rfl) ?_
  refine lv_iload_n hx hb dL_law_382 rfl (lv_at hl 3 rfl) ?_
  refine lv_iconst (v := (1 : Int32)) hx hb dL_law_383 (by decide) ?_
  refine lv_iadd hx hb dL_law_384 ?_
  refine va_sld hx hb hX hbl hbA hI.2.2 h1 dL_law_385 ?_
  refine lcC C0 (As := [.int (xs (x3 + 1).toNatClampNeg)]) (rest := []) (jw_X8_tilts D am cI cC cS hj N e1) (cwV 1 hts gL_law_X8_tilts rfl rfl rfl yd_X8_tilts ⟨Nat.le_of_ble_eq_true rfl, Nat.le_of_ble_eq_true rfl⟩) hI rfl hl.1 rfl (Nat.le_of_ble_eq_true rfl) dL_law_386 (fun H locs hI => ?_)
  refine lv_aload_n hx hb dL_law_389 rfl (lv_at hl 2 rfl) ?_
  refine lv_aload_n hx hb dL_law_390 rfl (lv_at hl 0 rfl) ?_
  refine lv_iload_n hx hb dL_law_391 rfl (lv_at hl 3 rfl) ?_
  refine lv_iconst (v := (1 : Int32)) hx hb dL_law_392 (by decide) ?_
  refine lv_iadd hx hb dL_law_393 ?_
  refine va_sld hx hb hX hbl hbA hI.2.2 h1 dL_law_394 ?_
  refine lcM C0 (As := [.int (xs (x3 + 1).toNatClampNeg)]) (rest := [.int r]) (jw_X9_tilts D bm cI cZ hj2 N e2) (cwV 1 hts gL_law_X9_tilts rfl rfl rfl yd_X9_tilts ⟨Nat.le_of_ble_eq_true rfl, Nat.le_of_ble_eq_true rfl⟩) hI rfl hl.1 rfl (Nat.le_of_ble_eq_true rfl) dL_law_395 (fun H locs hI => ?_)
  exact lv_icmp_eq (tgt := 963) hx hb dL_law_398 (by decide) (fun _ => kk _ _ _ _ hI hR2) (fun z => absurd rfl z)
theorem lk_9 {p : Program} {l : Launch} {e : Env} {s : State} {m : MethodId} {below : List Frame} {meth : Method} {c : Code} {b L : Nat} {xs : Nat → Int32} {D : va_G} {am bm : Nat → Nat} {cI cC cS cZ : ClassId} {H : Heap} {locs : List Loc} {ls : Array Slot} {Q : State → Prop} {N : Nat} {cs ms : PS} {x3 : Int32} (C0 : LC p s m meth c b L xs D am bm cI cC cS cZ) (hN : 2000000 ≤ N) (hI : LI D am bm cI cC cS cZ s H locs cs ms) (hR : Rel cs ms) (hl : lv_has ls 4 [(0, .ref b), (1, .ref (am 0)), (2, .ref (bm 0)), (3, .int x3)]) (h1 : vp_in (x3 + 1) L) (h2 : vp_in (x3 + 2) L) (h3 : vp_in (x3 + 3) L) (kk : ∀ (H1 : Heap) (locs1 : List Loc) (cs1 ms1 : PS), LI D am bm cI cC cS cZ s H1 locs1 cs1 ms1 → Rel cs1 ms1 → W p l e room_1 s m #[Value.ref b] below meth c H1 locs1 76 4305 Q (F0 m 963 ls [])) : W p l e room_1 s m #[Value.ref b] below meth c H locs 76 4305 Q (F0 m 403 ls []) := by
  have C1 := C0
  obtain ⟨⟨hx, hb, -, -, -, hts0, hX, hbl, -, -⟩, -, -, hj, hj2, -⟩ := C1
  have hts : ∀ w ∈ wsL_law, w.before #[Value.ref b] s = true := fun w h => hts0 w (wsL_law_in w h)
  have hbA : ¬ lA s b := Nat.not_le.mpr hbl
  obtain ⟨r, cs2, ms2, e1, e2, hR2⟩ := op_cuts (N := N) (x := (xs (x3 + 1).toNatClampNeg)) (by omega) cs ms hR
  refine lv_aload_n hx hb dL_law_403 rfl (lv_at hl 1 rfl) ?_
  refine lv_aload_n hx hb dL_law_404 rfl (lv_at hl 0 rfl) ?_
  refine lv_iload_n hx hb dL_law_405 rfl (lv_at hl 3 rfl) ?_
  refine lv_iconst (v := (1 : Int32)) hx hb dL_law_406 (by decide) ?_
  refine lv_iadd hx hb dL_law_407 ?_
  refine va_sld hx hb hX hbl hbA hI.2.2 h1 dL_law_408 ?_
  refine lcC C0 (As := [.int (xs (x3 + 1).toNatClampNeg)]) (rest := []) (jw_X8_cuts D am cI cC cS hj N e1) (cwV 1 hts gL_law_X8_cuts rfl rfl rfl yd_X8_cuts ⟨Nat.le_of_ble_eq_true rfl, Nat.le_of_ble_eq_true rfl⟩) hI rfl hl.1 rfl (Nat.le_of_ble_eq_true rfl) dL_law_409 (fun H locs hI => ?_)
  refine lv_aload_n hx hb dL_law_412 rfl (lv_at hl 2 rfl) ?_
  refine lv_aload_n hx hb dL_law_413 rfl (lv_at hl 0 rfl) ?_
  refine lv_iload_n hx hb dL_law_414 rfl (lv_at hl 3 rfl) ?_
  refine lv_iconst (v := (1 : Int32)) hx hb dL_law_415 (by decide) ?_
  refine lv_iadd hx hb dL_law_416 ?_
  refine va_sld hx hb hX hbl hbA hI.2.2 h1 dL_law_417 ?_
  refine lcM C0 (As := [.int (xs (x3 + 1).toNatClampNeg)]) (rest := [.int r]) (jw_X9_cuts D bm cI cZ hj2 N e2) (cwV 1 hts gL_law_X9_cuts rfl rfl rfl yd_X9_cuts ⟨Nat.le_of_ble_eq_true rfl, Nat.le_of_ble_eq_true rfl⟩) hI rfl hl.1 rfl (Nat.le_of_ble_eq_true rfl) dL_law_418 (fun H locs hI => ?_)
  exact lv_icmp_eq (tgt := 963) hx hb dL_law_421 (by decide) (fun _ => kk _ _ _ _ hI hR2) (fun z => absurd rfl z)
theorem lk_10 {p : Program} {l : Launch} {e : Env} {s : State} {m : MethodId} {below : List Frame} {meth : Method} {c : Code} {b L : Nat} {xs : Nat → Int32} {D : va_G} {am bm : Nat → Nat} {cI cC cS cZ : ClassId} {H : Heap} {locs : List Loc} {ls : Array Slot} {Q : State → Prop} {N : Nat} {cs ms : PS} {x3 : Int32} (C0 : LC p s m meth c b L xs D am bm cI cC cS cZ) (hN : 2000000 ≤ N) (hI : LI D am bm cI cC cS cZ s H locs cs ms) (hR : Rel cs ms) (hl : lv_has ls 4 [(0, .ref b), (1, .ref (am 0)), (2, .ref (bm 0)), (3, .int x3)]) (h1 : vp_in (x3 + 1) L) (h2 : vp_in (x3 + 2) L) (h3 : vp_in (x3 + 3) L) (kk : ∀ (H1 : Heap) (locs1 : List Loc) (cs1 ms1 : PS), LI D am bm cI cC cS cZ s H1 locs1 cs1 ms1 → Rel cs1 ms1 → W p l e room_1 s m #[Value.ref b] below meth c H1 locs1 76 4305 Q (F0 m 963 ls [])) : W p l e room_1 s m #[Value.ref b] below meth c H locs 76 4305 Q (F0 m 426 ls []) := by
  have C1 := C0
  obtain ⟨⟨hx, hb, -, -, -, hts0, hX, hbl, -, -⟩, -, -, hj, hj2, -⟩ := C1
  have hts : ∀ w ∈ wsL_law, w.before #[Value.ref b] s = true := fun w h => hts0 w (wsL_law_in w h)
  have hbA : ¬ lA s b := Nat.not_le.mpr hbl
  obtain ⟨r, cs2, ms2, e1, e2, hR2⟩ := op_ties (N := N) (x := (xs (x3 + 1).toNatClampNeg)) (y := (xs (x3 + 2).toNatClampNeg)) (z := (xs (x3 + 3).toNatClampNeg)) (by omega) cs ms hR
  refine lv_aload_n hx hb dL_law_426 rfl (lv_at hl 1 rfl) ?_
  refine lv_aload_n hx hb dL_law_427 rfl (lv_at hl 0 rfl) ?_
  refine lv_iload_n hx hb dL_law_428 rfl (lv_at hl 3 rfl) ?_
  refine lv_iconst (v := (1 : Int32)) hx hb dL_law_429 (by decide) ?_
  refine lv_iadd hx hb dL_law_430 ?_
  refine va_sld hx hb hX hbl hbA hI.2.2 h1 dL_law_431 ?_
  refine lv_aload_n hx hb dL_law_432 rfl (lv_at hl 0 rfl) ?_
  refine lv_iload_n hx hb dL_law_433 rfl (lv_at hl 3 rfl) ?_
  refine lv_iconst (v := (2 : Int32)) hx hb dL_law_434 (by decide) ?_
  refine lv_iadd hx hb dL_law_435 ?_
  refine va_sld hx hb hX hbl hbA hI.2.2 h2 dL_law_436 ?_
  refine lv_aload_n hx hb dL_law_437 rfl (lv_at hl 0 rfl) ?_
  refine lv_iload_n hx hb dL_law_438 rfl (lv_at hl 3 rfl) ?_
  refine lv_iconst (v := (3 : Int32)) hx hb dL_law_439 (by decide) ?_
  refine lv_iadd hx hb dL_law_440 ?_
  refine va_sld hx hb hX hbl hbA hI.2.2 h3 dL_law_441 ?_
  refine lcC C0 (As := [.int (xs (x3 + 1).toNatClampNeg), .int (xs (x3 + 2).toNatClampNeg), .int (xs (x3 + 3).toNatClampNeg)]) (rest := []) (jw_X8_ties D am cI cC cS hj N e1) (cwV 3 hts gL_law_X8_ties rfl rfl rfl yd_X8_ties ⟨Nat.le_of_ble_eq_true rfl, Nat.le_of_ble_eq_true rfl⟩) hI rfl hl.1 rfl (Nat.le_of_ble_eq_true rfl) dL_law_442 (fun H locs hI => ?_)
  refine lv_aload_n hx hb dL_law_445 rfl (lv_at hl 2 rfl) ?_
  refine lv_aload_n hx hb dL_law_446 rfl (lv_at hl 0 rfl) ?_
  refine lv_iload_n hx hb dL_law_447 rfl (lv_at hl 3 rfl) ?_
  refine lv_iconst (v := (1 : Int32)) hx hb dL_law_448 (by decide) ?_
  refine lv_iadd hx hb dL_law_449 ?_
  refine va_sld hx hb hX hbl hbA hI.2.2 h1 dL_law_450 ?_
  refine lv_aload_n hx hb dL_law_451 rfl (lv_at hl 0 rfl) ?_
  refine lv_iload_n hx hb dL_law_452 rfl (lv_at hl 3 rfl) ?_
  refine lv_iconst (v := (2 : Int32)) hx hb dL_law_453 (by decide) ?_
  refine lv_iadd hx hb dL_law_454 ?_
  refine va_sld hx hb hX hbl hbA hI.2.2 h2 dL_law_455 ?_
  refine lv_aload_n hx hb dL_law_456 rfl (lv_at hl 0 rfl) ?_
  refine lv_iload_n hx hb dL_law_457 rfl (lv_at hl 3 rfl) ?_
  refine lv_iconst (v := (3 : Int32)) hx hb dL_law_458 (by decide) ?_
  refine lv_iadd hx hb dL_law_459 ?_
  refine va_sld hx hb hX hbl hbA hI.2.2 h3 dL_law_460 ?_
  refine lcM C0 (As := [.int (xs (x3 + 1).toNatClampNeg), .int (xs (x3 + 2).toNatClampNeg), .int (xs (x3 + 3).toNatClampNeg)]) (rest := [.int r]) (jw_X9_ties D bm cI cZ hj2 N e2) (cwV 3 hts gL_law_X9_ties rfl rfl rfl yd_X9_ties ⟨Nat.le_of_ble_eq_true rfl, Nat.le_of_ble_eq_true rfl⟩) hI rfl hl.1 rfl (Nat.le_of_ble_eq_true rfl) dL_law_461 (fun H locs hI => ?_)
  exact lv_icmp_eq (tgt := 963) hx hb dL_law_464 (by decide) (fun _ => kk _ _ _ _ hI hR2) (fun z => absurd rfl z)
