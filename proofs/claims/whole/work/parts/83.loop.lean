/-! the law's loop -/
set_option maxRecDepth 20000 in
theorem law_loop {p : Program} {l : Launch} {e : Env} {s : State} {m : MethodId} {below : List Frame} {meth : Method} {c : Code} {b L : Nat} {xs : Nat → Int32} {D : va_G} {am bm : Nat → Nat} {cI cC cS cZ : ClassId} {N : Nat} (hL : L ≤ 256) (C0 : LC p s m meth c b L xs D am bm cI cC cS cZ) (hN : 2000000 ≤ N) :
    ∀ (n i : Nat), i ≤ L → L < i + n → ∀ (x3 : Int32), x3 = nI i → ∀ (H : Heap) (locs : List Loc) (cs ms : PS), LI D am bm cI cC cS cZ s H locs cs ms → Rel cs ms → ∀ ls : Array Slot, lv_has ls 4 [(0, .ref b), (1, .ref (am 0)), (2, .ref (bm 0)), (3, .int x3)] → W p l e room_1 s m #[Value.ref b] below meth c H locs 76 4305 (lw_Z below #[Value.ref b] s) (F0 m 18 ls []) := by
  have C1 := C0
  obtain ⟨⟨hx, hb, hr, hml, hown, hts0, hX, hbl, hlocks, -⟩, -⟩ := C1
  have hbA : ¬ lA s b := Nat.not_le.mpr hbl
  intro n
  induction n with
  | zero =>
    intro i h1 h2
    exact absurd h2 (by omega)
  | succ n ih =>
    intro i hi hin x3 ex H locs cs ms hI hR ls hl
    refine lv_iload_n hx hb dL_law_18 rfl (lv_at hl 3 rfl) ?_
    refine lv_aload_n hx hb dL_law_19 rfl (lv_at hl 0 rfl) ?_
    refine va_slen hx hb hX hbl hbA hI.2.2 dL_law_20 ?_
    refine lv_iconst (v := (4 : Int32)) hx hb dL_law_21 (by decide) ?_
    refine lv_isub hx hb dL_law_22 ?_
    refine lv_icmp_gt (tgt := 969) hx hb dL_law_23 (by decide) (fun _ => ?_) (fun hc => ?_)
    · refine lv_iconst (v := (1 : Int32)) hx hb dL_law_969 (by decide) ?_
      refine va_forget (fun q hq => hI.2.2.2.2 q hq) ?_
      exact lw_ret hx hb hr hlocks dL_law_970
    have hlt : i + 4 ≤ L := by
      rw [ex, i_lt, show (4 : Int32) = nI 4 from by decide, show Int32.ofNat L = nI L from rfl, pk_sub_toInt (by omega) (by omega), nI_toInt (by omega)] at hc
      omega
    have h0 : vp_in x3 L := by rw [ex]; exact vp_in_nI (by omega) (by omega)
    have h1 : vp_in (x3 + 1) L := by rw [ex, nI_1]; exact vp_in_nI (by omega) (by omega)
    have h2 : vp_in (x3 + 2) L := by rw [ex, show (2 : Int32) = nI 2 from by decide, nI_add]; exact vp_in_nI (by omega) (by omega)
    have h3 : vp_in (x3 + 3) L := by rw [ex, show (3 : Int32) = nI 3 from by decide, nI_add]; exact vp_in_nI (by omega) (by omega)
    have kk : ∀ (H1 : Heap) (locs1 : List Loc) (cs1 ms1 : PS), LI D am bm cI cC cS cZ s H1 locs1 cs1 ms1 → Rel cs1 ms1 → W p l e room_1 s m #[Value.ref b] below meth c H1 locs1 76 4305 (lw_Z below #[Value.ref b] s) (F0 m 963 ls []) := fun H1 locs1 cs1 ms1 hI1 hR1 => by
      refine lv_iinc (v := nI (i + 4)) (lv' := [(3, .int (nI (i + 4))), (0, .ref b), (1, .ref (am 0)), (2, .ref (bm 0))]) hx hb dL_law_963 hl (k := 3) rfl (by rw [ex]; exact nI_add i 4) (by decide) rfl (fun ls hl => ?_)
      refine lv_goto (tgt := 18) hx hb dL_law_966 (by decide) ?_
      exact ih (i + 4) hlt (by omega) _ rfl H1 locs1 cs1 ms1 hI1 hR1 ls (lv_sub hl [1, 2, 3, 0] rfl)
    refine lv_aload_n hx hb dL_law_26 rfl (lv_at hl 0 rfl) ?_
    refine lv_iload_n hx hb dL_law_27 rfl (lv_at hl 3 rfl) ?_
    refine va_sld hx hb hX hbl hbA hI.2.2 h0 dL_law_28 ?_
    refine lv_bipush (v := (31 : Int32)) hx hb dL_law_29 (by decide) ?_
    refine lv_iand hx hb dL_law_31 ?_
    obtain ⟨t, ht, et⟩ := pk_andE (xs x3.toNatClampNeg) (m := 31) 5 (by decide)
    rw [et]
    clear et
    rcases (show t = 0 ∨ t = 1 ∨ t = 2 ∨ t = 3 ∨ t = 4 ∨ t = 5 ∨ t = 6 ∨ t = 7 ∨ t = 8 ∨ t = 9 ∨ t = 10 ∨ t = 11 ∨ t = 12 ∨ t = 13 ∨ t = 14 ∨ t = 15 ∨ t = 16 ∨ t = 17 ∨ t = 18 ∨ t = 19 ∨ t = 20 ∨ t = 21 ∨ t = 22 ∨ t = 23 ∨ t = 24 ∨ t = 25 ∨ t = 26 ∨ t = 27 ∨ t = 28 ∨ t = 29 ∨ t = 30 ∨ t = 31 by omega) with rfl | rfl | rfl | rfl | rfl | rfl | rfl | rfl | rfl | rfl | rfl | rfl | rfl | rfl | rfl | rfl | rfl | rfl | rfl | rfl | rfl | rfl | rfl | rfl | rfl | rfl | rfl | rfl | rfl | rfl | rfl | rfl
    · exact lv_tableIn (off := 144) (tgt := 176) hx hb dL_law_32 (by decide) (by decide) (by decide) (by decide) (lk_0 C0 hN hI hR hl h1 h2 h3 kk)
    · exact lv_tableIn (off := 167) (tgt := 199) hx hb dL_law_32 (by decide) (by decide) (by decide) (by decide) (lk_1 C0 hN hI hR hl h1 h2 h3 kk)
    · exact lv_tableIn (off := 180) (tgt := 212) hx hb dL_law_32 (by decide) (by decide) (by decide) (by decide) (lk_2 C0 hN hI hR hl h1 h2 h3 kk)
    · exact lv_tableIn (off := 193) (tgt := 225) hx hb dL_law_32 (by decide) (by decide) (by decide) (by decide) (lk_3 C0 hN hI hR hl h1 h2 h3 kk)
    · exact lv_tableIn (off := 226) (tgt := 258) hx hb dL_law_32 (by decide) (by decide) (by decide) (by decide) (lk_4 C0 hN hI hR hl h1 h2 h3 kk)
    · exact lv_tableIn (off := 259) (tgt := 291) hx hb dL_law_32 (by decide) (by decide) (by decide) (by decide) (lk_5 C0 hN hI hR hl h1 h2 h3 kk)
    · exact lv_tableIn (off := 292) (tgt := 324) hx hb dL_law_32 (by decide) (by decide) (by decide) (by decide) (lk_6 C0 hN hI hR hl h1 h2 h3 kk)
    · exact lv_tableIn (off := 325) (tgt := 357) hx hb dL_law_32 (by decide) (by decide) (by decide) (by decide) (lk_7 C0 hN hI hR hl h1 h2 h3 kk)
    · exact lv_tableIn (off := 348) (tgt := 380) hx hb dL_law_32 (by decide) (by decide) (by decide) (by decide) (lk_8 C0 hN hI hR hl h1 h2 h3 kk)
    · exact lv_tableIn (off := 371) (tgt := 403) hx hb dL_law_32 (by decide) (by decide) (by decide) (by decide) (lk_9 C0 hN hI hR hl h1 h2 h3 kk)
    · exact lv_tableIn (off := 394) (tgt := 426) hx hb dL_law_32 (by decide) (by decide) (by decide) (by decide) (lk_10 C0 hN hI hR hl h1 h2 h3 kk)
    · exact lv_tableIn (off := 437) (tgt := 469) hx hb dL_law_32 (by decide) (by decide) (by decide) (by decide) (lk_11 C0 hN hI hR hl h1 h2 h3 kk)
    · exact lv_tableIn (off := 470) (tgt := 502) hx hb dL_law_32 (by decide) (by decide) (by decide) (by decide) (lk_12 C0 hN hI hR hl h1 h2 h3 kk)
    · exact lv_tableIn (off := 483) (tgt := 515) hx hb dL_law_32 (by decide) (by decide) (by decide) (by decide) (lk_13 C0 hN hI hR hl h1 h2 h3 kk)
    · exact lv_tableIn (off := 506) (tgt := 538) hx hb dL_law_32 (by decide) (by decide) (by decide) (by decide) (lk_14 C0 hN hI hR hl h1 h2 h3 kk)
    · exact lv_tableIn (off := 519) (tgt := 551) hx hb dL_law_32 (by decide) (by decide) (by decide) (by decide) (lk_15 C0 hN hI hR hl h1 h2 h3 kk)
    · exact lv_tableIn (off := 542) (tgt := 574) hx hb dL_law_32 (by decide) (by decide) (by decide) (by decide) (lk_16 C0 hN hI hR hl h1 h2 h3 kk)
    · exact lv_tableIn (off := 575) (tgt := 607) hx hb dL_law_32 (by decide) (by decide) (by decide) (by decide) (lk_17 C0 hN hI hR hl h1 h2 h3 kk)
    · exact lv_tableIn (off := 598) (tgt := 630) hx hb dL_law_32 (by decide) (by decide) (by decide) (by decide) (lk_18 C0 hN hI hR hl h1 h2 h3 kk)
    · exact lv_tableIn (off := 631) (tgt := 663) hx hb dL_law_32 (by decide) (by decide) (by decide) (by decide) (lk_19 C0 hN hI hR hl h1 h2 h3 kk)
    · exact lv_tableIn (off := 654) (tgt := 686) hx hb dL_law_32 (by decide) (by decide) (by decide) (by decide) (lk_20 C0 hN hI hR hl h1 h2 h3 kk)
    · exact lv_tableIn (off := 677) (tgt := 709) hx hb dL_law_32 (by decide) (by decide) (by decide) (by decide) (lk_21 C0 hN hI hR hl h1 h2 h3 kk)
    · exact lv_tableIn (off := 720) (tgt := 752) hx hb dL_law_32 (by decide) (by decide) (by decide) (by decide) (lk_22 C0 hN hI hR hl h1 h2 h3 kk)
    · exact lv_tableIn (off := 753) (tgt := 785) hx hb dL_law_32 (by decide) (by decide) (by decide) (by decide) (lk_23 C0 hN hI hR hl h1 h2 h3 kk)
    · exact lv_tableIn (off := 766) (tgt := 798) hx hb dL_law_32 (by decide) (by decide) (by decide) (by decide) (lk_24 C0 hN hI hR hl h1 h2 h3 kk)
    · exact lv_tableIn (off := 779) (tgt := 811) hx hb dL_law_32 (by decide) (by decide) (by decide) (by decide) (lk_25 C0 hN hI hR hl h1 h2 h3 kk)
    · exact lv_tableIn (off := 802) (tgt := 834) hx hb dL_law_32 (by decide) (by decide) (by decide) (by decide) (lk_26 C0 hN hI hR hl h1 h2 h3 kk)
    · exact lv_tableIn (off := 815) (tgt := 847) hx hb dL_law_32 (by decide) (by decide) (by decide) (by decide) (lk_27 C0 hN hI hR hl h1 h2 h3 kk)
    · exact lv_tableIn (off := 848) (tgt := 880) hx hb dL_law_32 (by decide) (by decide) (by decide) (by decide) (lk_28 C0 hN hI hR hl h1 h2 h3 kk)
    · exact lv_tableIn (off := 871) (tgt := 903) hx hb dL_law_32 (by decide) (by decide) (by decide) (by decide) (lk_29 C0 hN hI hR hl h1 h2 h3 kk)
    · exact lv_tableIn (off := 894) (tgt := 926) hx hb dL_law_32 (by decide) (by decide) (by decide) (by decide) (lk_30 C0 hN hI hR hl h1 h2 h3 kk)
    · exact lv_tableIn (off := 917) (tgt := 949) hx hb dL_law_32 (by decide) (by decide) (by decide) (by decide) (lk_31 C0 hN hI hR hl h1 h2 h3 kk)
