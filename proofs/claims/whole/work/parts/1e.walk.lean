set_option maxRecDepth 20000 in
theorem hi_X8_keep_X8 : ∀ w ∈ wsX80, w ∈ wsX8_keep := by decide +kernel
set_option maxRecDepth 20000 in
theorem hi_X8_keep_X5 : ∀ w ∈ wsX50, w ∈ wsX8_keep := by decide +kernel
set_option maxHeartbeats 4000000 in
set_option maxRecDepth 100000 in
theorem jw_X8_keep {l : Launch} (D : va_G) (am : Nat → Nat) (cI cC cS : ClassId) (hj : aJ am 52) (N : Nat) {x1 : Int32} {st stZ : PS} {rZ : Int32} (hM : jm_X8_keep N x1 st = some (rZ, stZ)) : Met l yX8_keep wsX8_keep ({ frames := 3, cells := 0, slots := 0, locals := 68 }) (va_Pc [.ref (am 0), .int x1] (JH D (cW am cI cC cS) (cTy cI cC cS) st)) (JQ D (aA am 52) (cW am cI cC cS) (cTy cI cC cS) (some (.int rZ)) stZ) 0 0 (aA am 52) := by
  refine jStart (cc := cX8_keep) (maxL := 2) (ret := (some .int)) [.ref (am 0), .int x1] (by decide) rfl (Nat.le_of_ble_eq_true rfl) (fun p e s m below meth c ls hx hb hr hlocks hts hown hml hK hI hl => ?_)
  have hown : s.vm.findClass RX8 = some m.cls := hown
  replace hl : lv_has ls 2 [(0, .ref (am 0)), (1, .int x1)] := hl
  generalize hAV : ([.ref (am 0), .int x1] : List Value).toArray = AV at hts ⊢
  have f_0 := hts (.fieldLink RX8 33 "PuppetBar" "images" "[LPuppetBar$Scene;") (by decide +kernel)
  have f_1 := hts (.fieldLink RX8 29 "PuppetBar" "scene" "LPuppetBar$Scene;") (by decide +kernel)
  have f_2 := hts (.fieldLink RX8 96 "PuppetBar$Scene" "kept" "Z") (by decide +kernel)
  have f_3 := hts (.fieldLink RX8 65 "PuppetBar$Scene" "pose" "LPuppetBar$Pose;") (by decide +kernel)
  unfold jm_X8_keep at hM
  refine lv_iload_n hx hb dX8_keep_0 rfl (lv_at hl 1 rfl) ?_
  obtain ⟨v1, st2, hqv1, hM⟩ := bd_at hM
  refine jcallS (As := [.int x1]) (rest := []) ⟨hx, hb, hml, hown, hts⟩ (jw_X8_isImage D am cI cC cS hj N hqv1) (va_cwS 1 hts gX8_keep_X8_isImage rfl rfl rfl yd_X8_isImage ⟨Nat.le_of_ble_eq_true rfl, Nat.le_of_ble_eq_true rfl⟩) hK hI rfl hl.1 rfl (Nat.le_of_ble_eq_true rfl) dX8_keep_1 (fun H locs hI => ?_)
  refine W.eq (g2 := F0 m 4 ls [.int v1]) rfl ?_
  refine lv_if_ne (tgt := 9) hx hb dX8_keep_4 (by decide) (fun c3 => ?_) (fun c3 => ?_)
  · replace hM := if_f c3 hM
    refine lv_aload_n hx hb dX8_keep_9 rfl (lv_at hl 0 rfl) ?_
    refine va_get (D := D) (ci := 8) (v := .ref (am 4)) (C := RX8) (T := TX8) (N := 9) hx hb hts hi_X8_keep_X8 hown hK hI.1 0 (cg_0 am cI cC cS st2) rfl 4 (by decide) f_0 (fun _ h9 => h9) rfl dX8_keep_10 ?_
    refine lv_iload_n hx hb dX8_keep_13 rfl (lv_at hl 1 rfl) ?_
    by_cases c4 : x1 = 0
    · replace hM := if_t c4 hM
      refine va_aldq hx hb hK hI.1 4 2 (cg_4 am cI cC cS st2) rfl (by rw [c4]; exact inB_vp rfl) dX8_keep_14 ?_
      refine W.eq (g2 := F0 m 15 ls [.ref (am 42)]) (by rw [c4]; rfl) ?_
      refine lv_aload_n hx hb dX8_keep_15 rfl (lv_at hl 0 rfl) ?_
      refine va_get (D := D) (ci := 8) (v := .ref (am 37)) (C := RX8) (T := TX8) (N := 9) hx hb hts hi_X8_keep_X8 hown hK hI.1 0 (cg_0 am cI cC cS st2) rfl 3 (by decide) f_1 (fun _ h9 => h9) rfl dX8_keep_16 ?_
      obtain ⟨v6, st7, hqv6, hM⟩ := bd_at hM
      refine jcallV (C := RX5) (As := [.ref (am 37)]) (rest := []) ⟨hx, hb, hml, hown, hts⟩ (jw_X5_copyFrom D am cI cC cS hj N (show ck_Scene 42 by decide) (show ck_Scene 37 by decide) hqv6) (cwV 1 hts gX8_keep_X5_copyFrom rfl rfl rfl yd_X5_copyFrom ⟨Nat.le_of_ble_eq_true rfl, Nat.le_of_ble_eq_true rfl⟩) hK hI 42 (cg_42 am cI cC cS st2) rfl rfl hl.1 rfl (Nat.le_of_ble_eq_true rfl) dX8_keep_19 (fun H locs hI => ?_)
      refine W.eq (g2 := F0 m 22 ls []) rfl ?_
      refine lv_aload_n hx hb dX8_keep_22 rfl (lv_at hl 0 rfl) ?_
      refine va_get (D := D) (ci := 8) (v := .ref (am 4)) (C := RX8) (T := TX8) (N := 9) hx hb hts hi_X8_keep_X8 hown hK hI.1 0 (cg_0 am cI cC cS st7) rfl 4 (by decide) f_0 (fun _ h9 => h9) rfl dX8_keep_23 ?_
      refine lv_iload_n hx hb dX8_keep_26 rfl (lv_at hl 1 rfl) ?_
      by_cases c8 : x1 = 0
      · replace hM := if_t c8 hM
        refine va_aldq hx hb hK hI.1 4 2 (cg_4 am cI cC cS st7) rfl (by rw [c8]; exact inB_vp rfl) dX8_keep_27 ?_
        refine W.eq (g2 := F0 m 28 ls [.ref (am 42)]) (by rw [c8]; rfl) ?_
        refine lv_iconst (v := (1 : Int32)) hx hb dX8_keep_28 (by decide) ?_
        refine jput (D := D) (ci := 5) (v := .int (1 : Int32)) (ty := .boolean) (C := RX5) (T := TX5) (N := 3) (st2 := pU st7 42 2 (1 : Int32)) hx hb hts hi_X8_keep_X5 tyX5 tyX5_ok nmX5 hown hK (cD hj) hI 42 (cg_42 am cI cC cS st7) rfl 2 (by decide) f_2 (fun _ h9 => h9) rfl (by decide +kernel) rfl rfl (Nat.le_of_ble_eq_true rfl) (cs_42_2 am cI cC cS st7 _) dX8_keep_29 (fun st10 est10 H locs hI => ?_)
        replace hM := nm_at est10 hM
        refine lv_aload_n hx hb dX8_keep_32 rfl (lv_at hl 0 rfl) ?_
        refine va_get (D := D) (ci := 8) (v := .ref (am 37)) (C := RX8) (T := TX8) (N := 9) hx hb hts hi_X8_keep_X8 hown hK hI.1 0 (cg_0 am cI cC cS st10) rfl 3 (by decide) f_1 (fun _ h9 => h9) rfl dX8_keep_33 ?_
        refine va_get (D := D) (ci := 5) (v := .ref (am 38)) (C := RX5) (T := TX5) (N := 3) hx hb hts hi_X8_keep_X5 hown hK hI.1 37 (cg_37 am cI cC cS st10) rfl 0 (by decide) f_3 (fun _ h9 => h9) rfl dX8_keep_36 ?_
        obtain ⟨v11, st12, hqv11, hM⟩ := bd_at hM
        refine jcallV (C := RX4) (As := []) (rest := []) ⟨hx, hb, hml, hown, hts⟩ (jw_X4_lift D am cI cC cS hj N (show ck_Pose 38 by decide) hqv11) (cwV 0 hts gX8_keep_X4_lift rfl rfl rfl yd_X4_lift ⟨Nat.le_of_ble_eq_true rfl, Nat.le_of_ble_eq_true rfl⟩) hK hI 38 (cg_38 am cI cC cS st10) rfl rfl hl.1 rfl (Nat.le_of_ble_eq_true rfl) dX8_keep_39 (fun H locs hI => ?_)
        refine W.eq (g2 := F0 m 42 ls [.int v11]) rfl ?_
        have hz := Option.some.inj hM
        exact W.iret hx hb hr (fun t ht hW => jq_i hK hI hz ht hW) hI.2.2.2 dX8_keep_42
      · replace hM := if_f c8 hM
        by_cases c9 : x1 = 1
        · replace hM := if_t c9 hM
          refine va_aldq hx hb hK hI.1 4 2 (cg_4 am cI cC cS st7) rfl (by rw [c9]; exact inB_vp rfl) dX8_keep_27 ?_
          refine W.eq (g2 := F0 m 28 ls [.ref (am 47)]) (by rw [c9]; rfl) ?_
          refine lv_iconst (v := (1 : Int32)) hx hb dX8_keep_28 (by decide) ?_
          refine jput (D := D) (ci := 5) (v := .int (1 : Int32)) (ty := .boolean) (C := RX5) (T := TX5) (N := 3) (st2 := pU st7 47 2 (1 : Int32)) hx hb hts hi_X8_keep_X5 tyX5 tyX5_ok nmX5 hown hK (cD hj) hI 47 (cg_47 am cI cC cS st7) rfl 2 (by decide) f_2 (fun _ h9 => h9) rfl (by decide +kernel) rfl rfl (Nat.le_of_ble_eq_true rfl) (cs_47_2 am cI cC cS st7 _) dX8_keep_29 (fun st13 est13 H locs hI => ?_)
          replace hM := nm_at est13 hM
          refine lv_aload_n hx hb dX8_keep_32 rfl (lv_at hl 0 rfl) ?_
          refine va_get (D := D) (ci := 8) (v := .ref (am 37)) (C := RX8) (T := TX8) (N := 9) hx hb hts hi_X8_keep_X8 hown hK hI.1 0 (cg_0 am cI cC cS st13) rfl 3 (by decide) f_1 (fun _ h9 => h9) rfl dX8_keep_33 ?_
          refine va_get (D := D) (ci := 5) (v := .ref (am 38)) (C := RX5) (T := TX5) (N := 3) hx hb hts hi_X8_keep_X5 hown hK hI.1 37 (cg_37 am cI cC cS st13) rfl 0 (by decide) f_3 (fun _ h9 => h9) rfl dX8_keep_36 ?_
          obtain ⟨v14, st15, hqv14, hM⟩ := bd_at hM
          refine jcallV (C := RX4) (As := []) (rest := []) ⟨hx, hb, hml, hown, hts⟩ (jw_X4_lift D am cI cC cS hj N (show ck_Pose 38 by decide) hqv14) (cwV 0 hts gX8_keep_X4_lift rfl rfl rfl yd_X4_lift ⟨Nat.le_of_ble_eq_true rfl, Nat.le_of_ble_eq_true rfl⟩) hK hI 38 (cg_38 am cI cC cS st13) rfl rfl hl.1 rfl (Nat.le_of_ble_eq_true rfl) dX8_keep_39 (fun H locs hI => ?_)
          refine W.eq (g2 := F0 m 42 ls [.int v14]) rfl ?_
          have hz := Option.some.inj hM
          exact W.iret hx hb hr (fun t ht hW => jq_i hK hI hz ht hW) hI.2.2.2 dX8_keep_42
        · replace hM := if_f c9 hM
          cases hM
    · replace hM := if_f c4 hM
      by_cases c5 : x1 = 1
      · replace hM := if_t c5 hM
        refine va_aldq hx hb hK hI.1 4 2 (cg_4 am cI cC cS st2) rfl (by rw [c5]; exact inB_vp rfl) dX8_keep_14 ?_
        refine W.eq (g2 := F0 m 15 ls [.ref (am 47)]) (by rw [c5]; rfl) ?_
        refine lv_aload_n hx hb dX8_keep_15 rfl (lv_at hl 0 rfl) ?_
        refine va_get (D := D) (ci := 8) (v := .ref (am 37)) (C := RX8) (T := TX8) (N := 9) hx hb hts hi_X8_keep_X8 hown hK hI.1 0 (cg_0 am cI cC cS st2) rfl 3 (by decide) f_1 (fun _ h9 => h9) rfl dX8_keep_16 ?_
        obtain ⟨v16, st17, hqv16, hM⟩ := bd_at hM
        refine jcallV (C := RX5) (As := [.ref (am 37)]) (rest := []) ⟨hx, hb, hml, hown, hts⟩ (jw_X5_copyFrom D am cI cC cS hj N (show ck_Scene 47 by decide) (show ck_Scene 37 by decide) hqv16) (cwV 1 hts gX8_keep_X5_copyFrom rfl rfl rfl yd_X5_copyFrom ⟨Nat.le_of_ble_eq_true rfl, Nat.le_of_ble_eq_true rfl⟩) hK hI 47 (cg_47 am cI cC cS st2) rfl rfl hl.1 rfl (Nat.le_of_ble_eq_true rfl) dX8_keep_19 (fun H locs hI => ?_)
        refine W.eq (g2 := F0 m 22 ls []) rfl ?_
        refine lv_aload_n hx hb dX8_keep_22 rfl (lv_at hl 0 rfl) ?_
        refine va_get (D := D) (ci := 8) (v := .ref (am 4)) (C := RX8) (T := TX8) (N := 9) hx hb hts hi_X8_keep_X8 hown hK hI.1 0 (cg_0 am cI cC cS st17) rfl 4 (by decide) f_0 (fun _ h9 => h9) rfl dX8_keep_23 ?_
        refine lv_iload_n hx hb dX8_keep_26 rfl (lv_at hl 1 rfl) ?_
        by_cases c18 : x1 = 0
        · replace hM := if_t c18 hM
          refine va_aldq hx hb hK hI.1 4 2 (cg_4 am cI cC cS st17) rfl (by rw [c18]; exact inB_vp rfl) dX8_keep_27 ?_
          refine W.eq (g2 := F0 m 28 ls [.ref (am 42)]) (by rw [c18]; rfl) ?_
          refine lv_iconst (v := (1 : Int32)) hx hb dX8_keep_28 (by decide) ?_
          refine jput (D := D) (ci := 5) (v := .int (1 : Int32)) (ty := .boolean) (C := RX5) (T := TX5) (N := 3) (st2 := pU st17 42 2 (1 : Int32)) hx hb hts hi_X8_keep_X5 tyX5 tyX5_ok nmX5 hown hK (cD hj) hI 42 (cg_42 am cI cC cS st17) rfl 2 (by decide) f_2 (fun _ h9 => h9) rfl (by decide +kernel) rfl rfl (Nat.le_of_ble_eq_true rfl) (cs_42_2 am cI cC cS st17 _) dX8_keep_29 (fun st20 est20 H locs hI => ?_)
          replace hM := nm_at est20 hM
          refine lv_aload_n hx hb dX8_keep_32 rfl (lv_at hl 0 rfl) ?_
          refine va_get (D := D) (ci := 8) (v := .ref (am 37)) (C := RX8) (T := TX8) (N := 9) hx hb hts hi_X8_keep_X8 hown hK hI.1 0 (cg_0 am cI cC cS st20) rfl 3 (by decide) f_1 (fun _ h9 => h9) rfl dX8_keep_33 ?_
          refine va_get (D := D) (ci := 5) (v := .ref (am 38)) (C := RX5) (T := TX5) (N := 3) hx hb hts hi_X8_keep_X5 hown hK hI.1 37 (cg_37 am cI cC cS st20) rfl 0 (by decide) f_3 (fun _ h9 => h9) rfl dX8_keep_36 ?_
          obtain ⟨v21, st22, hqv21, hM⟩ := bd_at hM
          refine jcallV (C := RX4) (As := []) (rest := []) ⟨hx, hb, hml, hown, hts⟩ (jw_X4_lift D am cI cC cS hj N (show ck_Pose 38 by decide) hqv21) (cwV 0 hts gX8_keep_X4_lift rfl rfl rfl yd_X4_lift ⟨Nat.le_of_ble_eq_true rfl, Nat.le_of_ble_eq_true rfl⟩) hK hI 38 (cg_38 am cI cC cS st20) rfl rfl hl.1 rfl (Nat.le_of_ble_eq_true rfl) dX8_keep_39 (fun H locs hI => ?_)
          refine W.eq (g2 := F0 m 42 ls [.int v21]) rfl ?_
          have hz := Option.some.inj hM
          exact W.iret hx hb hr (fun t ht hW => jq_i hK hI hz ht hW) hI.2.2.2 dX8_keep_42
        · replace hM := if_f c18 hM
          by_cases c19 : x1 = 1
          · replace hM := if_t c19 hM
            refine va_aldq hx hb hK hI.1 4 2 (cg_4 am cI cC cS st17) rfl (by rw [c19]; exact inB_vp rfl) dX8_keep_27 ?_
            refine W.eq (g2 := F0 m 28 ls [.ref (am 47)]) (by rw [c19]; rfl) ?_
            refine lv_iconst (v := (1 : Int32)) hx hb dX8_keep_28 (by decide) ?_
            refine jput (D := D) (ci := 5) (v := .int (1 : Int32)) (ty := .boolean) (C := RX5) (T := TX5) (N := 3) (st2 := pU st17 47 2 (1 : Int32)) hx hb hts hi_X8_keep_X5 tyX5 tyX5_ok nmX5 hown hK (cD hj) hI 47 (cg_47 am cI cC cS st17) rfl 2 (by decide) f_2 (fun _ h9 => h9) rfl (by decide +kernel) rfl rfl (Nat.le_of_ble_eq_true rfl) (cs_47_2 am cI cC cS st17 _) dX8_keep_29 (fun st23 est23 H locs hI => ?_)
            replace hM := nm_at est23 hM
            refine lv_aload_n hx hb dX8_keep_32 rfl (lv_at hl 0 rfl) ?_
            refine va_get (D := D) (ci := 8) (v := .ref (am 37)) (C := RX8) (T := TX8) (N := 9) hx hb hts hi_X8_keep_X8 hown hK hI.1 0 (cg_0 am cI cC cS st23) rfl 3 (by decide) f_1 (fun _ h9 => h9) rfl dX8_keep_33 ?_
            refine va_get (D := D) (ci := 5) (v := .ref (am 38)) (C := RX5) (T := TX5) (N := 3) hx hb hts hi_X8_keep_X5 hown hK hI.1 37 (cg_37 am cI cC cS st23) rfl 0 (by decide) f_3 (fun _ h9 => h9) rfl dX8_keep_36 ?_
            obtain ⟨v24, st25, hqv24, hM⟩ := bd_at hM
            refine jcallV (C := RX4) (As := []) (rest := []) ⟨hx, hb, hml, hown, hts⟩ (jw_X4_lift D am cI cC cS hj N (show ck_Pose 38 by decide) hqv24) (cwV 0 hts gX8_keep_X4_lift rfl rfl rfl yd_X4_lift ⟨Nat.le_of_ble_eq_true rfl, Nat.le_of_ble_eq_true rfl⟩) hK hI 38 (cg_38 am cI cC cS st23) rfl rfl hl.1 rfl (Nat.le_of_ble_eq_true rfl) dX8_keep_39 (fun H locs hI => ?_)
            refine W.eq (g2 := F0 m 42 ls [.int v24]) rfl ?_
            have hz := Option.some.inj hM
            exact W.iret hx hb hr (fun t ht hW => jq_i hK hI hz ht hW) hI.2.2.2 dX8_keep_42
          · replace hM := if_f c19 hM
            cases hM
      · replace hM := if_f c5 hM
        cases hM
  · replace hM := if_t c3 hM
    refine lv_iconst (v := (-1 : Int32)) hx hb dX8_keep_7 (by decide) ?_
    have hz := Option.some.inj hM
    exact W.iret hx hb hr (fun t ht hW => jq_i hK hI hz ht hW) hI.2.2.2 dX8_keep_8
set_option maxRecDepth 20000 in
theorem hi_X8_back_X8 : ∀ w ∈ wsX80, w ∈ wsX8_back := by decide +kernel
set_option maxRecDepth 20000 in
theorem hi_X8_back_X5 : ∀ w ∈ wsX50, w ∈ wsX8_back := by decide +kernel
set_option maxHeartbeats 4000000 in
set_option maxRecDepth 100000 in
theorem jw_X8_back {l : Launch} (D : va_G) (am : Nat → Nat) (cI cC cS : ClassId) (hj : aJ am 52) (N : Nat) {x1 : Int32} {st stZ : PS} {rZ : Int32} (hM : jm_X8_back N x1 st = some (rZ, stZ)) : Met l yX8_back wsX8_back ({ frames := 3, cells := 0, slots := 0, locals := 68 }) (va_Pc [.ref (am 0), .int x1] (JH D (cW am cI cC cS) (cTy cI cC cS) st)) (JQ D (aA am 52) (cW am cI cC cS) (cTy cI cC cS) (some (.int rZ)) stZ) 0 0 (aA am 52) := by
  refine jStart (cc := cX8_back) (maxL := 2) (ret := (some .int)) [.ref (am 0), .int x1] (by decide) rfl (Nat.le_of_ble_eq_true rfl) (fun p e s m below meth c ls hx hb hr hlocks hts hown hml hK hI hl => ?_)
  have hown : s.vm.findClass RX8 = some m.cls := hown
  replace hl : lv_has ls 2 [(0, .ref (am 0)), (1, .int x1)] := hl
  generalize hAV : ([.ref (am 0), .int x1] : List Value).toArray = AV at hts ⊢
  have f_0 := hts (.fieldLink RX8 33 "PuppetBar" "images" "[LPuppetBar$Scene;") (by decide +kernel)
  have f_1 := hts (.fieldLink RX8 96 "PuppetBar$Scene" "kept" "Z") (by decide +kernel)
  have f_2 := hts (.fieldLink RX8 29 "PuppetBar" "scene" "LPuppetBar$Scene;") (by decide +kernel)
  have f_3 := hts (.fieldLink RX8 65 "PuppetBar$Scene" "pose" "LPuppetBar$Pose;") (by decide +kernel)
  unfold jm_X8_back at hM
  refine lv_iload_n hx hb dX8_back_0 rfl (lv_at hl 1 rfl) ?_
  obtain ⟨v1, st2, hqv1, hM⟩ := bd_at hM
  refine jcallS (As := [.int x1]) (rest := []) ⟨hx, hb, hml, hown, hts⟩ (jw_X8_isImage D am cI cC cS hj N hqv1) (va_cwS 1 hts gX8_back_X8_isImage rfl rfl rfl yd_X8_isImage ⟨Nat.le_of_ble_eq_true rfl, Nat.le_of_ble_eq_true rfl⟩) hK hI rfl hl.1 rfl (Nat.le_of_ble_eq_true rfl) dX8_back_1 (fun H locs hI => ?_)
  refine W.eq (g2 := F0 m 4 ls [.int v1]) rfl ?_
  refine lv_if_ne (tgt := 9) hx hb dX8_back_4 (by decide) (fun c3 => ?_) (fun c3 => ?_)
  · replace hM := if_f c3 hM
    refine lv_aload_n hx hb dX8_back_9 rfl (lv_at hl 0 rfl) ?_
    refine va_get (D := D) (ci := 8) (v := .ref (am 4)) (C := RX8) (T := TX8) (N := 9) hx hb hts hi_X8_back_X8 hown hK hI.1 0 (cg_0 am cI cC cS st2) rfl 4 (by decide) f_0 (fun _ h9 => h9) rfl dX8_back_10 ?_
    refine lv_iload_n hx hb dX8_back_13 rfl (lv_at hl 1 rfl) ?_
    by_cases c4 : x1 = 0
    · replace hM := if_t c4 hM
      refine va_aldq hx hb hK hI.1 4 2 (cg_4 am cI cC cS st2) rfl (by rw [c4]; exact inB_vp rfl) dX8_back_14 ?_
      refine W.eq (g2 := F0 m 15 ls [.ref (am 42)]) (by rw [c4]; rfl) ?_
      refine va_get (D := D) (ci := 5) (v := .int (st2.1 42 2)) (C := RX5) (T := TX5) (N := 3) hx hb hts hi_X8_back_X5 hown hK hI.1 42 (cg_42 am cI cC cS st2) rfl 2 (by decide) f_1 (fun _ h9 => h9) rfl dX8_back_15 ?_
      refine lv_if_ne (tgt := 24) hx hb dX8_back_18 (by decide) (fun c6 => ?_) (fun c6 => ?_)
      · replace hM := if_f c6 hM
        refine lv_aload_n hx hb dX8_back_24 rfl (lv_at hl 0 rfl) ?_
        refine va_get (D := D) (ci := 8) (v := .ref (am 37)) (C := RX8) (T := TX8) (N := 9) hx hb hts hi_X8_back_X8 hown hK hI.1 0 (cg_0 am cI cC cS st2) rfl 3 (by decide) f_2 (fun _ h9 => h9) rfl dX8_back_25 ?_
        refine lv_aload_n hx hb dX8_back_28 rfl (lv_at hl 0 rfl) ?_
        refine va_get (D := D) (ci := 8) (v := .ref (am 4)) (C := RX8) (T := TX8) (N := 9) hx hb hts hi_X8_back_X8 hown hK hI.1 0 (cg_0 am cI cC cS st2) rfl 4 (by decide) f_0 (fun _ h9 => h9) rfl dX8_back_29 ?_
        refine lv_iload_n hx hb dX8_back_32 rfl (lv_at hl 1 rfl) ?_
        by_cases c7 : x1 = 0
        · replace hM := if_t c7 hM
          refine va_aldq hx hb hK hI.1 4 2 (cg_4 am cI cC cS st2) rfl (by rw [c7]; exact inB_vp rfl) dX8_back_33 ?_
          refine W.eq (g2 := F0 m 34 ls [.ref (am 42), .ref (am 37)]) (by rw [c7]; rfl) ?_
          obtain ⟨v9, st10, hqv9, hM⟩ := bd_at hM
          refine jcallV (C := RX5) (As := [.ref (am 42)]) (rest := []) ⟨hx, hb, hml, hown, hts⟩ (jw_X5_copyFrom D am cI cC cS hj N (show ck_Scene 37 by decide) (show ck_Scene 42 by decide) hqv9) (cwV 1 hts gX8_back_X5_copyFrom rfl rfl rfl yd_X5_copyFrom ⟨Nat.le_of_ble_eq_true rfl, Nat.le_of_ble_eq_true rfl⟩) hK hI 37 (cg_37 am cI cC cS st2) rfl rfl hl.1 rfl (Nat.le_of_ble_eq_true rfl) dX8_back_34 (fun H locs hI => ?_)
          refine W.eq (g2 := F0 m 37 ls []) rfl ?_
          refine lv_aload_n hx hb dX8_back_37 rfl (lv_at hl 0 rfl) ?_
          refine va_get (D := D) (ci := 8) (v := .ref (am 37)) (C := RX8) (T := TX8) (N := 9) hx hb hts hi_X8_back_X8 hown hK hI.1 0 (cg_0 am cI cC cS st10) rfl 3 (by decide) f_2 (fun _ h9 => h9) rfl dX8_back_38 ?_
          refine va_get (D := D) (ci := 5) (v := .ref (am 38)) (C := RX5) (T := TX5) (N := 3) hx hb hts hi_X8_back_X5 hown hK hI.1 37 (cg_37 am cI cC cS st10) rfl 0 (by decide) f_3 (fun _ h9 => h9) rfl dX8_back_41 ?_
          obtain ⟨v11, st12, hqv11, hM⟩ := bd_at hM
          refine jcallV (C := RX4) (As := []) (rest := []) ⟨hx, hb, hml, hown, hts⟩ (jw_X4_lift D am cI cC cS hj N (show ck_Pose 38 by decide) hqv11) (cwV 0 hts gX8_back_X4_lift rfl rfl rfl yd_X4_lift ⟨Nat.le_of_ble_eq_true rfl, Nat.le_of_ble_eq_true rfl⟩) hK hI 38 (cg_38 am cI cC cS st10) rfl rfl hl.1 rfl (Nat.le_of_ble_eq_true rfl) dX8_back_44 (fun H locs hI => ?_)
          refine W.eq (g2 := F0 m 47 ls [.int v11]) rfl ?_
          have hz := Option.some.inj hM
          exact W.iret hx hb hr (fun t ht hW => jq_i hK hI hz ht hW) hI.2.2.2 dX8_back_47
        · replace hM := if_f c7 hM
          by_cases c8 : x1 = 1
          · replace hM := if_t c8 hM
            refine va_aldq hx hb hK hI.1 4 2 (cg_4 am cI cC cS st2) rfl (by rw [c8]; exact inB_vp rfl) dX8_back_33 ?_
            refine W.eq (g2 := F0 m 34 ls [.ref (am 47), .ref (am 37)]) (by rw [c8]; rfl) ?_
            obtain ⟨v13, st14, hqv13, hM⟩ := bd_at hM
            refine jcallV (C := RX5) (As := [.ref (am 47)]) (rest := []) ⟨hx, hb, hml, hown, hts⟩ (jw_X5_copyFrom D am cI cC cS hj N (show ck_Scene 37 by decide) (show ck_Scene 47 by decide) hqv13) (cwV 1 hts gX8_back_X5_copyFrom rfl rfl rfl yd_X5_copyFrom ⟨Nat.le_of_ble_eq_true rfl, Nat.le_of_ble_eq_true rfl⟩) hK hI 37 (cg_37 am cI cC cS st2) rfl rfl hl.1 rfl (Nat.le_of_ble_eq_true rfl) dX8_back_34 (fun H locs hI => ?_)
            refine W.eq (g2 := F0 m 37 ls []) rfl ?_
            refine lv_aload_n hx hb dX8_back_37 rfl (lv_at hl 0 rfl) ?_
            refine va_get (D := D) (ci := 8) (v := .ref (am 37)) (C := RX8) (T := TX8) (N := 9) hx hb hts hi_X8_back_X8 hown hK hI.1 0 (cg_0 am cI cC cS st14) rfl 3 (by decide) f_2 (fun _ h9 => h9) rfl dX8_back_38 ?_
            refine va_get (D := D) (ci := 5) (v := .ref (am 38)) (C := RX5) (T := TX5) (N := 3) hx hb hts hi_X8_back_X5 hown hK hI.1 37 (cg_37 am cI cC cS st14) rfl 0 (by decide) f_3 (fun _ h9 => h9) rfl dX8_back_41 ?_
            obtain ⟨v15, st16, hqv15, hM⟩ := bd_at hM
            refine jcallV (C := RX4) (As := []) (rest := []) ⟨hx, hb, hml, hown, hts⟩ (jw_X4_lift D am cI cC cS hj N (show ck_Pose 38 by decide) hqv15) (cwV 0 hts gX8_back_X4_lift rfl rfl rfl yd_X4_lift ⟨Nat.le_of_ble_eq_true rfl, Nat.le_of_ble_eq_true rfl⟩) hK hI 38 (cg_38 am cI cC cS st14) rfl rfl hl.1 rfl (Nat.le_of_ble_eq_true rfl) dX8_back_44 (fun H locs hI => ?_)
            refine W.eq (g2 := F0 m 47 ls [.int v15]) rfl ?_
            have hz := Option.some.inj hM
            exact W.iret hx hb hr (fun t ht hW => jq_i hK hI hz ht hW) hI.2.2.2 dX8_back_47
          · replace hM := if_f c8 hM
            cases hM
      · replace hM := if_t c6 hM
        refine lv_bipush (v := (-2 : Int32)) hx hb dX8_back_21 (by decide) ?_
        have hz := Option.some.inj hM
        exact W.iret hx hb hr (fun t ht hW => jq_i hK hI hz ht hW) hI.2.2.2 dX8_back_23
    · replace hM := if_f c4 hM
      by_cases c5 : x1 = 1
      · replace hM := if_t c5 hM
        refine va_aldq hx hb hK hI.1 4 2 (cg_4 am cI cC cS st2) rfl (by rw [c5]; exact inB_vp rfl) dX8_back_14 ?_
        refine W.eq (g2 := F0 m 15 ls [.ref (am 47)]) (by rw [c5]; rfl) ?_
        refine va_get (D := D) (ci := 5) (v := .int (st2.1 47 2)) (C := RX5) (T := TX5) (N := 3) hx hb hts hi_X8_back_X5 hown hK hI.1 47 (cg_47 am cI cC cS st2) rfl 2 (by decide) f_1 (fun _ h9 => h9) rfl dX8_back_15 ?_
        refine lv_if_ne (tgt := 24) hx hb dX8_back_18 (by decide) (fun c17 => ?_) (fun c17 => ?_)
        · replace hM := if_f c17 hM
          refine lv_aload_n hx hb dX8_back_24 rfl (lv_at hl 0 rfl) ?_
          refine va_get (D := D) (ci := 8) (v := .ref (am 37)) (C := RX8) (T := TX8) (N := 9) hx hb hts hi_X8_back_X8 hown hK hI.1 0 (cg_0 am cI cC cS st2) rfl 3 (by decide) f_2 (fun _ h9 => h9) rfl dX8_back_25 ?_
          refine lv_aload_n hx hb dX8_back_28 rfl (lv_at hl 0 rfl) ?_
          refine va_get (D := D) (ci := 8) (v := .ref (am 4)) (C := RX8) (T := TX8) (N := 9) hx hb hts hi_X8_back_X8 hown hK hI.1 0 (cg_0 am cI cC cS st2) rfl 4 (by decide) f_0 (fun _ h9 => h9) rfl dX8_back_29 ?_
          refine lv_iload_n hx hb dX8_back_32 rfl (lv_at hl 1 rfl) ?_
          by_cases c18 : x1 = 0
          · replace hM := if_t c18 hM
            refine va_aldq hx hb hK hI.1 4 2 (cg_4 am cI cC cS st2) rfl (by rw [c18]; exact inB_vp rfl) dX8_back_33 ?_
            refine W.eq (g2 := F0 m 34 ls [.ref (am 42), .ref (am 37)]) (by rw [c18]; rfl) ?_
            obtain ⟨v20, st21, hqv20, hM⟩ := bd_at hM
            refine jcallV (C := RX5) (As := [.ref (am 42)]) (rest := []) ⟨hx, hb, hml, hown, hts⟩ (jw_X5_copyFrom D am cI cC cS hj N (show ck_Scene 37 by decide) (show ck_Scene 42 by decide) hqv20) (cwV 1 hts gX8_back_X5_copyFrom rfl rfl rfl yd_X5_copyFrom ⟨Nat.le_of_ble_eq_true rfl, Nat.le_of_ble_eq_true rfl⟩) hK hI 37 (cg_37 am cI cC cS st2) rfl rfl hl.1 rfl (Nat.le_of_ble_eq_true rfl) dX8_back_34 (fun H locs hI => ?_)
            refine W.eq (g2 := F0 m 37 ls []) rfl ?_
            refine lv_aload_n hx hb dX8_back_37 rfl (lv_at hl 0 rfl) ?_
            refine va_get (D := D) (ci := 8) (v := .ref (am 37)) (C := RX8) (T := TX8) (N := 9) hx hb hts hi_X8_back_X8 hown hK hI.1 0 (cg_0 am cI cC cS st21) rfl 3 (by decide) f_2 (fun _ h9 => h9) rfl dX8_back_38 ?_
            refine va_get (D := D) (ci := 5) (v := .ref (am 38)) (C := RX5) (T := TX5) (N := 3) hx hb hts hi_X8_back_X5 hown hK hI.1 37 (cg_37 am cI cC cS st21) rfl 0 (by decide) f_3 (fun _ h9 => h9) rfl dX8_back_41 ?_
            obtain ⟨v22, st23, hqv22, hM⟩ := bd_at hM
            refine jcallV (C := RX4) (As := []) (rest := []) ⟨hx, hb, hml, hown, hts⟩ (jw_X4_lift D am cI cC cS hj N (show ck_Pose 38 by decide) hqv22) (cwV 0 hts gX8_back_X4_lift rfl rfl rfl yd_X4_lift ⟨Nat.le_of_ble_eq_true rfl, Nat.le_of_ble_eq_true rfl⟩) hK hI 38 (cg_38 am cI cC cS st21) rfl rfl hl.1 rfl (Nat.le_of_ble_eq_true rfl) dX8_back_44 (fun H locs hI => ?_)
            refine W.eq (g2 := F0 m 47 ls [.int v22]) rfl ?_
            have hz := Option.some.inj hM
            exact W.iret hx hb hr (fun t ht hW => jq_i hK hI hz ht hW) hI.2.2.2 dX8_back_47
          · replace hM := if_f c18 hM
            by_cases c19 : x1 = 1
            · replace hM := if_t c19 hM
              refine va_aldq hx hb hK hI.1 4 2 (cg_4 am cI cC cS st2) rfl (by rw [c19]; exact inB_vp rfl) dX8_back_33 ?_
              refine W.eq (g2 := F0 m 34 ls [.ref (am 47), .ref (am 37)]) (by rw [c19]; rfl) ?_
              obtain ⟨v24, st25, hqv24, hM⟩ := bd_at hM
              refine jcallV (C := RX5) (As := [.ref (am 47)]) (rest := []) ⟨hx, hb, hml, hown, hts⟩ (jw_X5_copyFrom D am cI cC cS hj N (show ck_Scene 37 by decide) (show ck_Scene 47 by decide) hqv24) (cwV 1 hts gX8_back_X5_copyFrom rfl rfl rfl yd_X5_copyFrom ⟨Nat.le_of_ble_eq_true rfl, Nat.le_of_ble_eq_true rfl⟩) hK hI 37 (cg_37 am cI cC cS st2) rfl rfl hl.1 rfl (Nat.le_of_ble_eq_true rfl) dX8_back_34 (fun H locs hI => ?_)
              refine W.eq (g2 := F0 m 37 ls []) rfl ?_
              refine lv_aload_n hx hb dX8_back_37 rfl (lv_at hl 0 rfl) ?_
              refine va_get (D := D) (ci := 8) (v := .ref (am 37)) (C := RX8) (T := TX8) (N := 9) hx hb hts hi_X8_back_X8 hown hK hI.1 0 (cg_0 am cI cC cS st25) rfl 3 (by decide) f_2 (fun _ h9 => h9) rfl dX8_back_38 ?_
              refine va_get (D := D) (ci := 5) (v := .ref (am 38)) (C := RX5) (T := TX5) (N := 3) hx hb hts hi_X8_back_X5 hown hK hI.1 37 (cg_37 am cI cC cS st25) rfl 0 (by decide) f_3 (fun _ h9 => h9) rfl dX8_back_41 ?_
              obtain ⟨v26, st27, hqv26, hM⟩ := bd_at hM
              refine jcallV (C := RX4) (As := []) (rest := []) ⟨hx, hb, hml, hown, hts⟩ (jw_X4_lift D am cI cC cS hj N (show ck_Pose 38 by decide) hqv26) (cwV 0 hts gX8_back_X4_lift rfl rfl rfl yd_X4_lift ⟨Nat.le_of_ble_eq_true rfl, Nat.le_of_ble_eq_true rfl⟩) hK hI 38 (cg_38 am cI cC cS st25) rfl rfl hl.1 rfl (Nat.le_of_ble_eq_true rfl) dX8_back_44 (fun H locs hI => ?_)
              refine W.eq (g2 := F0 m 47 ls [.int v26]) rfl ?_
              have hz := Option.some.inj hM
              exact W.iret hx hb hr (fun t ht hW => jq_i hK hI hz ht hW) hI.2.2.2 dX8_back_47
            · replace hM := if_f c19 hM
              cases hM
        · replace hM := if_t c17 hM
          refine lv_bipush (v := (-2 : Int32)) hx hb dX8_back_21 (by decide) ?_
          have hz := Option.some.inj hM
          exact W.iret hx hb hr (fun t ht hW => jq_i hK hI hz ht hW) hI.2.2.2 dX8_back_23
      · replace hM := if_f c5 hM
        cases hM
  · replace hM := if_t c3 hM
    refine lv_iconst (v := (-1 : Int32)) hx hb dX8_back_7 (by decide) ?_
    have hz := Option.some.inj hM
    exact W.iret hx hb hr (fun t ht hW => jq_i hK hI hz ht hW) hI.2.2.2 dX8_back_8
set_option maxRecDepth 20000 in
theorem hi_X8_count_X8 : ∀ w ∈ wsX80, w ∈ wsX8_count := by decide +kernel
set_option maxRecDepth 20000 in
theorem hi_X8_count_X0 : ∀ w ∈ wsX00, w ∈ wsX8_count := by decide +kernel
set_option maxRecDepth 20000 in
theorem hi_X8_count_X5 : ∀ w ∈ wsX50, w ∈ wsX8_count := by decide +kernel
set_option maxHeartbeats 4000000 in
set_option maxRecDepth 100000 in
theorem jw_X8_count {l : Launch} (D : va_G) (am : Nat → Nat) (cI cC cS : ClassId) (hj : aJ am 52) (N : Nat) {x1 : Int32} {st stZ : PS} {rZ : Int32} (hM : jm_X8_count N x1 st = some (rZ, stZ)) : Met l yX8_count wsX8_count ({ frames := 1, cells := 0, slots := 0, locals := 20 }) (va_Pc [.ref (am 0), .int x1] (JH D (cW am cI cC cS) (cTy cI cC cS) st)) (JQ D (aA am 52) (cW am cI cC cS) (cTy cI cC cS) (some (.int rZ)) stZ) 0 0 (aA am 52) := by
  refine jStart (cc := cX8_count) (maxL := 2) (ret := (some .int)) [.ref (am 0), .int x1] (by decide) rfl (Nat.le_of_ble_eq_true rfl) (fun p e s m below meth c ls hx hb hr hlocks hts hown hml hK hI hl => ?_)
  have hown : s.vm.findClass RX8 = some m.cls := hown
  replace hl : lv_has ls 2 [(0, .ref (am 0)), (1, .int x1)] := hl
  generalize hAV : ([.ref (am 0), .int x1] : List Value).toArray = AV at hts ⊢
  have f_0 := hts (.fieldLink RX8 19 "PuppetBar" "doll" "LPuppetBar$Doll;") (by decide +kernel)
  have f_1 := hts (.fieldLink RX8 235 "PuppetBar$Doll" "limbs" "I") (by decide +kernel)
  have f_2 := hts (.fieldLink RX8 311 "PuppetBar$Doll" "strings" "I") (by decide +kernel)
  have f_3 := hts (.fieldLink RX8 248 "PuppetBar$Doll" "beats" "I") (by decide +kernel)
  have f_4 := hts (.fieldLink RX8 40 "PuppetBar" "sight" "LPuppetBar$Sight;") (by decide +kernel)
  have f_5 := hts (.fieldLink RX8 29 "PuppetBar" "scene" "LPuppetBar$Scene;") (by decide +kernel)
  have f_6 := hts (.fieldLink RX8 207 "PuppetBar$Scene" "past" "LPuppetBar$Past;") (by decide +kernel)
  have f_7 := hts (.fieldLink RX8 12 "PuppetBar" "script" "LPuppetBar$Script;") (by decide +kernel)
  unfold jm_X8_count at hM
  refine lv_iload_n hx hb dX8_count_0 rfl (lv_at hl 1 rfl) ?_
  by_cases c1 : x1 = (0 : Int32)
  · replace hM := if_t c1 hM
    refine lv_tableIn (off := 39) (tgt := 40) hx hb dX8_count_1 (by rw [c1]; decide) (by rw [c1]; decide) (by rw [c1]; decide) (by decide) ?_
    refine lv_aload_n hx hb dX8_count_40 rfl (lv_at hl 0 rfl) ?_
    refine va_get (D := D) (ci := 8) (v := .ref (am 17)) (C := RX8) (T := TX8) (N := 9) hx hb hts hi_X8_count_X8 hown hK hI.1 0 (cg_0 am cI cC cS st) rfl 1 (by decide) f_0 (fun _ h9 => h9) rfl dX8_count_41 ?_
    refine va_get (D := D) (ci := 0) (v := .int (st.1 17 7)) (C := RX0) (T := TX0) (N := 11) hx hb hts hi_X8_count_X0 hown hK hI.1 17 (cg_17 am cI cC cS st) rfl 7 (by decide) f_1 (fun _ h9 => h9) rfl dX8_count_44 ?_
    have hz := Option.some.inj hM
    exact W.iret hx hb hr (fun t ht hW => jq_i hK hI hz ht hW) hI.2.2.2 dX8_count_47
  · replace hM := if_f c1 hM
    by_cases c2 : x1 = (1 : Int32)
    · replace hM := if_t c2 hM
      refine lv_tableIn (off := 47) (tgt := 48) hx hb dX8_count_1 (by rw [c2]; decide) (by rw [c2]; decide) (by rw [c2]; decide) (by decide) ?_
      refine lv_aload_n hx hb dX8_count_48 rfl (lv_at hl 0 rfl) ?_
      refine va_get (D := D) (ci := 8) (v := .ref (am 17)) (C := RX8) (T := TX8) (N := 9) hx hb hts hi_X8_count_X8 hown hK hI.1 0 (cg_0 am cI cC cS st) rfl 1 (by decide) f_0 (fun _ h9 => h9) rfl dX8_count_49 ?_
      refine va_get (D := D) (ci := 0) (v := .int (st.1 17 8)) (C := RX0) (T := TX0) (N := 11) hx hb hts hi_X8_count_X0 hown hK hI.1 17 (cg_17 am cI cC cS st) rfl 8 (by decide) f_2 (fun _ h9 => h9) rfl dX8_count_52 ?_
      have hz := Option.some.inj hM
      exact W.iret hx hb hr (fun t ht hW => jq_i hK hI hz ht hW) hI.2.2.2 dX8_count_55
    · replace hM := if_f c2 hM
      by_cases c3 : x1 = (2 : Int32)
      · replace hM := if_t c3 hM
        refine lv_tableIn (off := 55) (tgt := 56) hx hb dX8_count_1 (by rw [c3]; decide) (by rw [c3]; decide) (by rw [c3]; decide) (by decide) ?_
        refine lv_aload_n hx hb dX8_count_56 rfl (lv_at hl 0 rfl) ?_
        refine va_get (D := D) (ci := 8) (v := .ref (am 17)) (C := RX8) (T := TX8) (N := 9) hx hb hts hi_X8_count_X8 hown hK hI.1 0 (cg_0 am cI cC cS st) rfl 1 (by decide) f_0 (fun _ h9 => h9) rfl dX8_count_57 ?_
        refine va_get (D := D) (ci := 0) (v := .int (st.1 17 9)) (C := RX0) (T := TX0) (N := 11) hx hb hts hi_X8_count_X0 hown hK hI.1 17 (cg_17 am cI cC cS st) rfl 9 (by decide) f_3 (fun _ h9 => h9) rfl dX8_count_60 ?_
        have hz := Option.some.inj hM
        exact W.iret hx hb hr (fun t ht hW => jq_i hK hI hz ht hW) hI.2.2.2 dX8_count_63
      · replace hM := if_f c3 hM
        by_cases c4 : x1 = (3 : Int32)
        · replace hM := if_t c4 hM
          refine lv_tableIn (off := 63) (tgt := 64) hx hb dX8_count_1 (by rw [c4]; decide) (by rw [c4]; decide) (by rw [c4]; decide) (by decide) ?_
          refine lv_aload_n hx hb dX8_count_64 rfl (lv_at hl 0 rfl) ?_
          refine va_get (D := D) (ci := 8) (v := .ref (am 9)) (C := RX8) (T := TX8) (N := 9) hx hb hts hi_X8_count_X8 hown hK hI.1 0 (cg_0 am cI cC cS st) rfl 5 (by decide) f_4 (fun _ h9 => h9) rfl dX8_count_65 ?_
          obtain ⟨v5, st6, hqv5, hM⟩ := bd_at hM
          refine jcallV (C := RX7) (As := []) (rest := []) ⟨hx, hb, hml, hown, hts⟩ (jw_X7_size D am cI cC cS hj N hqv5) (cwV 0 hts gX8_count_X7_size rfl rfl rfl yd_X7_size ⟨Nat.le_of_ble_eq_true rfl, Nat.le_of_ble_eq_true rfl⟩) hK hI 9 (cg_9 am cI cC cS st) rfl rfl hl.1 rfl (Nat.le_of_ble_eq_true rfl) dX8_count_68 (fun H locs hI => ?_)
          refine W.eq (g2 := F0 m 71 ls [.int v5]) rfl ?_
          have hz := Option.some.inj hM
          exact W.iret hx hb hr (fun t ht hW => jq_i hK hI hz ht hW) hI.2.2.2 dX8_count_71
        · replace hM := if_f c4 hM
          by_cases c7 : x1 = (4 : Int32)
          · replace hM := if_t c7 hM
            refine lv_tableIn (off := 71) (tgt := 72) hx hb dX8_count_1 (by rw [c7]; decide) (by rw [c7]; decide) (by rw [c7]; decide) (by decide) ?_
            refine lv_aload_n hx hb dX8_count_72 rfl (lv_at hl 0 rfl) ?_
            refine va_get (D := D) (ci := 8) (v := .ref (am 37)) (C := RX8) (T := TX8) (N := 9) hx hb hts hi_X8_count_X8 hown hK hI.1 0 (cg_0 am cI cC cS st) rfl 3 (by decide) f_5 (fun _ h9 => h9) rfl dX8_count_73 ?_
            refine va_get (D := D) (ci := 5) (v := .ref (am 40)) (C := RX5) (T := TX5) (N := 3) hx hb hts hi_X8_count_X5 hown hK hI.1 37 (cg_37 am cI cC cS st) rfl 1 (by decide) f_6 (fun _ h9 => h9) rfl dX8_count_76 ?_
            obtain ⟨v8, st9, hqv8, hM⟩ := bd_at hM
            refine jcallV (C := RX3) (As := []) (rest := []) ⟨hx, hb, hml, hown, hts⟩ (jw_X3_known D am cI cC cS hj N (show ck_Past 40 by decide) hqv8) (cwV 0 hts gX8_count_X3_known rfl rfl rfl yd_X3_known ⟨Nat.le_of_ble_eq_true rfl, Nat.le_of_ble_eq_true rfl⟩) hK hI 40 (cg_40 am cI cC cS st) rfl rfl hl.1 rfl (Nat.le_of_ble_eq_true rfl) dX8_count_79 (fun H locs hI => ?_)
            refine W.eq (g2 := F0 m 82 ls [.int v8]) rfl ?_
            have hz := Option.some.inj hM
            exact W.iret hx hb hr (fun t ht hW => jq_i hK hI hz ht hW) hI.2.2.2 dX8_count_82
          · replace hM := if_f c7 hM
            by_cases c10 : x1 = (5 : Int32)
            · replace hM := if_t c10 hM
              refine lv_tableIn (off := 82) (tgt := 83) hx hb dX8_count_1 (by rw [c10]; decide) (by rw [c10]; decide) (by rw [c10]; decide) (by decide) ?_
              refine lv_aload_n hx hb dX8_count_83 rfl (lv_at hl 0 rfl) ?_
              refine va_get (D := D) (ci := 8) (v := .ref (am 1)) (C := RX8) (T := TX8) (N := 9) hx hb hts hi_X8_count_X8 hown hK hI.1 0 (cg_0 am cI cC cS st) rfl 0 (by decide) f_7 (fun _ h9 => h9) rfl dX8_count_84 ?_
              obtain ⟨v11, st12, hqv11, hM⟩ := bd_at hM
              refine jcallV (C := RX6) (As := []) (rest := []) ⟨hx, hb, hml, hown, hts⟩ (jw_X6_size D am cI cC cS hj N hqv11) (cwV 0 hts gX8_count_X6_size rfl rfl rfl yd_X6_size ⟨Nat.le_of_ble_eq_true rfl, Nat.le_of_ble_eq_true rfl⟩) hK hI 1 (cg_1 am cI cC cS st) rfl rfl hl.1 rfl (Nat.le_of_ble_eq_true rfl) dX8_count_87 (fun H locs hI => ?_)
              refine W.eq (g2 := F0 m 90 ls [.int v11]) rfl ?_
              have hz := Option.some.inj hM
              exact W.iret hx hb hr (fun t ht hW => jq_i hK hI hz ht hW) hI.2.2.2 dX8_count_90
            · replace hM := if_f c10 hM
              refine lv_tableOut (tgt := 91) hx hb dX8_count_1 (by have nc1 : ¬ (0 : Int) = (x1).toInt := ne_ti c1; have nc2 : ¬ (1 : Int) = (x1).toInt := ne_ti c2; have nc3 : ¬ (2 : Int) = (x1).toInt := ne_ti c3; have nc4 : ¬ (3 : Int) = (x1).toInt := ne_ti c4; have nc7 : ¬ (4 : Int) = (x1).toInt := ne_ti c7; have nc10 : ¬ (5 : Int) = (x1).toInt := ne_ti c10; omega) (by decide) ?_
              refine lv_iconst (v := (-1 : Int32)) hx hb dX8_count_91 (by decide) ?_
              have hz := Option.some.inj hM
              exact W.iret hx hb hr (fun t ht hW => jq_i hK hI hz ht hW) hI.2.2.2 dX8_count_92
set_option maxRecDepth 20000 in
theorem hi_X8_trace_X8 : ∀ w ∈ wsX80, w ∈ wsX8_trace := by decide +kernel
set_option maxHeartbeats 4000000 in
set_option maxRecDepth 100000 in
theorem jw_X8_trace {l : Launch} (D : va_G) (am : Nat → Nat) (cI cC cS : ClassId) (hj : aJ am 52) (N : Nat) {st stZ : PS} {rZ : Int64} (hM : jm_X8_trace N st = some (rZ, stZ)) : Met l yX8_trace wsX8_trace ({ frames := 1, cells := 0, slots := 0, locals := 20 }) (va_Pc [.ref (am 0)] (JH D (cW am cI cC cS) (cTy cI cC cS) st)) (JQ D (aA am 52) (cW am cI cC cS) (cTy cI cC cS) (some (.long rZ)) stZ) 0 0 (aA am 52) := by
  refine jStart (cc := cX8_trace) (maxL := 1) (ret := (some .long)) [.ref (am 0)] (by decide) rfl (Nat.le_of_ble_eq_true rfl) (fun p e s m below meth c ls hx hb hr hlocks hts hown hml hK hI hl => ?_)
  have hown : s.vm.findClass RX8 = some m.cls := hown
  replace hl : lv_has ls 1 [(0, .ref (am 0))] := hl
  generalize hAV : ([.ref (am 0)] : List Value).toArray = AV at hts ⊢
  have f_0 := hts (.fieldLink RX8 54 "PuppetBar" "kinds" "LPuppetBar$Kinds;") (by decide +kernel)
  unfold jm_X8_trace at hM
  refine lv_aload_n hx hb dX8_trace_0 rfl (lv_at hl 0 rfl) ?_
  refine va_get (D := D) (ci := 8) (v := .ref (am 5)) (C := RX8) (T := TX8) (N := 9) hx hb hts hi_X8_trace_X8 hown hK hI.1 0 (cg_0 am cI cC cS st) rfl 7 (by decide) f_0 (fun _ h9 => h9) rfl dX8_trace_1 ?_
  obtain ⟨v1, st2, hqv1, hM⟩ := bd_at hM
  refine jcallV (C := RX1) (As := []) (rest := []) ⟨hx, hb, hml, hown, hts⟩ (jw_X1_asked D am cI cC cS hj N hqv1) (cwV 0 hts gX8_trace_X1_asked rfl rfl rfl yd_X1_asked ⟨Nat.le_of_ble_eq_true rfl, Nat.le_of_ble_eq_true rfl⟩) hK hI 5 (cg_5 am cI cC cS st) rfl rfl hl.1 rfl (Nat.le_of_ble_eq_true rfl) dX8_trace_4 (fun H locs hI => ?_)
  refine W.eq (g2 := F0 m 7 ls [.long v1]) rfl ?_
  have hz := Option.some.inj hM
  exact W.lret hx hb hr (fun t ht hW => jq_l hK hI hz ht hW) hI.2.2.2 dX8_trace_7
set_option maxHeartbeats 4000000 in
set_option maxRecDepth 100000 in
theorem jw_X9_in {l : Launch} (D : va_G) (am : Nat → Nat) (cI cZ : ClassId) (hj : aJ am 24) (N : Nat) {x0 : Int32} {x1 : Int32} {x2 : Int32} {st stZ : PS} {rZ : Int32} (hM : jm_X9_in N x0 x1 x2 st = some (rZ, stZ)) : Met l yX9_in wsX9_in ({ frames := 0, cells := 0, slots := 0, locals := 0 }) (va_Pc [.int x0, .int x1, .int x2] (JH D (mW am cI cZ) (mTy cI cZ) st)) (JQ D (aA am 24) (mW am cI cZ) (mTy cI cZ) (some (.int rZ)) stZ) 0 0 (aA am 24) := by
  refine jStart (cc := cX9_in) (maxL := 3) (ret := (some .boolean)) [.int x0, .int x1, .int x2] (by decide) rfl (Nat.le_of_ble_eq_true rfl) (fun p e s m below meth c ls hx hb hr hlocks hts hown hml hK hI hl => ?_)
  have hown : s.vm.findClass RX9 = some m.cls := hown
  replace hl : lv_has ls 3 [(0, .int x0), (1, .int x1), (2, .int x2)] := hl
  generalize hAV : ([.int x0, .int x1, .int x2] : List Value).toArray = AV at hts ⊢
  unfold jm_X9_in at hM
  refine lv_iload_n hx hb dX9_in_0 rfl (lv_at hl 0 rfl) ?_
  refine lv_iload_n hx hb dX9_in_1 rfl (lv_at hl 1 rfl) ?_
  refine lv_icmp_lt (tgt := 14) hx hb dX9_in_2 (by decide) (fun c1 => ?_) (fun c1 => ?_)
  · replace hM := if_t c1 hM
    refine lv_iconst (v := (0 : Int32)) hx hb dX9_in_14 (by decide) ?_
    have hz := Option.some.inj hM
    exact W.zret hx hb hr rfl (fun t ht hW => jq_i hK hI hz ht hW) hI.2.2.2 dX9_in_15
  · replace hM := if_f c1 hM
    refine lv_iload_n hx hb dX9_in_5 rfl (lv_at hl 0 rfl) ?_
    refine lv_iload_n hx hb dX9_in_6 rfl (lv_at hl 2 rfl) ?_
    refine lv_icmp_gt (tgt := 14) hx hb dX9_in_7 (by decide) (fun c2 => ?_) (fun c2 => ?_)
    · replace hM := if_t c2 hM
      refine lv_iconst (v := (0 : Int32)) hx hb dX9_in_14 (by decide) ?_
      have hz := Option.some.inj hM
      exact W.zret hx hb hr rfl (fun t ht hW => jq_i hK hI hz ht hW) hI.2.2.2 dX9_in_15
    · replace hM := if_f c2 hM
      refine lv_iconst (v := (1 : Int32)) hx hb dX9_in_10 (by decide) ?_
      refine lv_goto (tgt := 15) hx hb dX9_in_11 (by decide) ?_
      have hz := Option.some.inj hM
      exact W.zret hx hb hr rfl (fun t ht hW => jq_i hK hI hz ht hW) hI.2.2.2 dX9_in_15
set_option maxHeartbeats 4000000 in
set_option maxRecDepth 100000 in
theorem jw_X9_has {l : Launch} (D : va_G) (am : Nat → Nat) (cI cZ : ClassId) (hj : aJ am 24) (N : Nat) {x0 : Int32} {x1 : Int32} {st stZ : PS} {rZ : Int32} (hM : jm_X9_has N x0 x1 st = some (rZ, stZ)) : Met l yX9_has wsX9_has ({ frames := 0, cells := 0, slots := 0, locals := 0 }) (va_Pc [.int x0, .int x1] (JH D (mW am cI cZ) (mTy cI cZ) st)) (JQ D (aA am 24) (mW am cI cZ) (mTy cI cZ) (some (.int rZ)) stZ) 0 0 (aA am 24) := by
  refine jStart (cc := cX9_has) (maxL := 2) (ret := (some .boolean)) [.int x0, .int x1] (by decide) rfl (Nat.le_of_ble_eq_true rfl) (fun p e s m below meth c ls hx hb hr hlocks hts hown hml hK hI hl => ?_)
  have hown : s.vm.findClass RX9 = some m.cls := hown
  replace hl : lv_has ls 2 [(0, .int x0), (1, .int x1)] := hl
  generalize hAV : ([.int x0, .int x1] : List Value).toArray = AV at hts ⊢
  unfold jm_X9_has at hM
  refine lv_iload_n hx hb dX9_has_0 rfl (lv_at hl 0 rfl) ?_
  refine lv_iload_n hx hb dX9_has_1 rfl (lv_at hl 1 rfl) ?_
  refine lv_ishr hx hb dX9_has_2 ?_
  refine lv_iconst (v := (1 : Int32)) hx hb dX9_has_3 (by decide) ?_
  refine lv_iand hx hb dX9_has_4 ?_
  refine lv_iconst (v := (1 : Int32)) hx hb dX9_has_5 (by decide) ?_
  refine lv_icmp_ne (tgt := 13) hx hb dX9_has_6 (by decide) (fun c1 => ?_) (fun c1 => ?_)
  · replace hM := if_f c1 hM
    refine lv_iconst (v := (0 : Int32)) hx hb dX9_has_13 (by decide) ?_
    have hz := Option.some.inj hM
    exact W.zret hx hb hr rfl (fun t ht hW => jq_i hK hI hz ht hW) hI.2.2.2 dX9_has_14
  · replace hM := if_t c1 hM
    refine lv_iconst (v := (1 : Int32)) hx hb dX9_has_9 (by decide) ?_
    refine lv_goto (tgt := 14) hx hb dX9_has_10 (by decide) ?_
    have hz := Option.some.inj hM
    exact W.zret hx hb hr rfl (fun t ht hW => jq_i hK hI hz ht hW) hI.2.2.2 dX9_has_14
set_option maxHeartbeats 4000000 in
set_option maxRecDepth 100000 in
theorem jw_X9_bits {l : Launch} (D : va_G) (am : Nat → Nat) (cI cZ : ClassId) (hj : aJ am 24) (N : Nat) {x0 : Int32} {st stZ : PS} {rZ : Int32} (hM : jm_X9_bits N x0 st = some (rZ, stZ)) : Met l yX9_bits wsX9_bits ({ frames := 0, cells := 0, slots := 0, locals := 0 }) (va_Pc [.int x0] (JH D (mW am cI cZ) (mTy cI cZ) st)) (JQ D (aA am 24) (mW am cI cZ) (mTy cI cZ) (some (.int rZ)) stZ) 0 0 (aA am 24) := by
  refine jStart (cc := cX9_bits) (maxL := 3) (ret := (some .int)) [.int x0] (by decide) rfl (Nat.le_of_ble_eq_true rfl) (fun p e s m below meth c ls hx hb hr hlocks hts hown hml hK hI hl => ?_)
  have hown : s.vm.findClass RX9 = some m.cls := hown
  replace hl : lv_has ls 3 [(0, .int x0)] := hl
  generalize hAV : ([.int x0] : List Value).toArray = AV at hts ⊢
  unfold jm_X9_bits at hM
  refine lv_iconst (v := (0 : Int32)) hx hb dX9_bits_0 (by decide) ?_
  refine lv_istore_n (lv' := [(1, .int (0 : Int32)), (0, .int x0)]) hx hb dX9_bits_1 rfl hl (by decide) rfl (fun ls hl => ?_)
  refine lv_iload_n hx hb dX9_bits_2 rfl (lv_at hl 1 rfl) ?_
  refine lv_istore_n (lv' := [(2, .int x0), (1, .int (0 : Int32)), (0, .int x0)]) hx hb dX9_bits_3 rfl hl (by decide) rfl (fun ls hl => ?_)
  have lp0 : ∀ (n : Nat) (w2 : Int32) (w3 : Int32) (st1 : PS) (H : Heap) (locs : List Loc) (ls : Array Slot), JI D (aA am 24) (mW am cI cZ) s.heap st1 H locs → lv_has ls 3 [(0, .int x0), (1, .int w2), (2, .int w3)] → iter (fun q => jm_X9_bits_L4 N q.1 q.2.1 q.2.2) n (w2, w3, st1) = some (rZ, stZ) → W p l e (headSpec wsX9_bits { frames := 0, cells := 0, slots := 0, locals := 0 }).room s m AV below meth c H locs 0 0 (MQ below (JQ D (aA am 24) (mW am cI cZ) (mTy cI cZ) (some (.int rZ)) stZ) AV s 0 0 (aA am 24)) (F0 m 4 ls []) := by
    intro n
    induction n with
    | zero =>
      intro _ _ _ _ _ _ _ _ hM
      exact absurd hM (fun h => iter_zero h)
    | succ n ih0 =>
      intro w2 w3 st1 H locs ls hI hl hM
      obtain ⟨z0, hM, hk0⟩ := iter_succ hM
      replace hM : jm_X9_bits_L4 N w2 w3 st1 = some z0 := hM
      unfold jm_X9_bits_L4 at hM
      refine lv_iload_n hx hb dX9_bits_4 rfl (lv_at hl 2 rfl) ?_
      refine lv_if_eq (tgt := 20) hx hb dX9_bits_5 (by decide) (fun c4 => ?_) (fun c4 => ?_)
      · replace hM := if_t c4 hM
        refine lv_iload_n hx hb dX9_bits_20 rfl (lv_at hl 1 rfl) ?_
        have hz := Option.some.inj hM
        subst hz
        have hz := kn_r hk0
        exact W.iret hx hb hr (fun t ht hW => jq_i hK hI hz ht hW) hI.2.2.2 dX9_bits_21
      · replace hM := if_f c4 hM
        refine lv_iinc (v := (w2 + (1 : Int32))) (lv' := [(1, .int (w2 + (1 : Int32))), (0, .int x0), (2, .int w3)]) hx hb dX9_bits_8 hl (k := 1) rfl rfl (by decide) rfl (fun ls hl => ?_)
        refine lv_iload_n hx hb dX9_bits_11 rfl (lv_at hl 2 rfl) ?_
        refine lv_iload_n hx hb dX9_bits_12 rfl (lv_at hl 2 rfl) ?_
        refine lv_iconst (v := (1 : Int32)) hx hb dX9_bits_13 (by decide) ?_
        refine lv_isub hx hb dX9_bits_14 ?_
        refine lv_iand hx hb dX9_bits_15 ?_
        refine lv_istore_n (lv' := [(2, .int (w3 &&& (w3 - (1 : Int32)))), (1, .int (w2 + (1 : Int32))), (0, .int x0)]) hx hb dX9_bits_16 rfl hl (by decide) rfl (fun ls hl => ?_)
        refine lv_goto (tgt := 4) hx hb dX9_bits_17 (by decide) ?_
        have hz := Option.some.inj hM
        subst hz
        exact ih0 (w2 + (1 : Int32)) (w3 &&& (w3 - (1 : Int32))) st1 _ _ _ hI (lv_sub hl [2, 1, 0] rfl) hk0
  exact lp0 N (0 : Int32) x0 st _ _ _ hI (lv_sub hl [2, 1, 0] rfl) hM
set_option maxHeartbeats 4000000 in
set_option maxRecDepth 100000 in
theorem jw_X9_apart {l : Launch} (D : va_G) (am : Nat → Nat) (cI cZ : ClassId) (hj : aJ am 24) (N : Nat) {x0 : Int32} {x1 : Int32} {st stZ : PS} {rZ : Int32} (hM : jm_X9_apart N x0 x1 st = some (rZ, stZ)) : Met l yX9_apart wsX9_apart ({ frames := 0, cells := 0, slots := 0, locals := 0 }) (va_Pc [.int x0, .int x1] (JH D (mW am cI cZ) (mTy cI cZ) st)) (JQ D (aA am 24) (mW am cI cZ) (mTy cI cZ) (some (.int rZ)) stZ) 0 0 (aA am 24) := by
  refine jStart (cc := cX9_apart) (maxL := 2) (ret := (some .int)) [.int x0, .int x1] (by decide) rfl (Nat.le_of_ble_eq_true rfl) (fun p e s m below meth c ls hx hb hr hlocks hts hown hml hK hI hl => ?_)
  have hown : s.vm.findClass RX9 = some m.cls := hown
  replace hl : lv_has ls 2 [(0, .int x0), (1, .int x1)] := hl
  generalize hAV : ([.int x0, .int x1] : List Value).toArray = AV at hts ⊢
  unfold jm_X9_apart at hM
  refine lv_iload_n hx hb dX9_apart_0 rfl (lv_at hl 0 rfl) ?_
  refine lv_iload_n hx hb dX9_apart_1 rfl (lv_at hl 1 rfl) ?_
  refine lv_icmp_ge (tgt := 11) hx hb dX9_apart_2 (by decide) (fun c1 => ?_) (fun c1 => ?_)
  · replace hM := if_t c1 hM
    refine lv_iload_n hx hb dX9_apart_11 rfl (lv_at hl 0 rfl) ?_
    refine lv_iload_n hx hb dX9_apart_12 rfl (lv_at hl 1 rfl) ?_
    refine lv_isub hx hb dX9_apart_13 ?_
    have hz := Option.some.inj hM
    exact W.iret hx hb hr (fun t ht hW => jq_i hK hI hz ht hW) hI.2.2.2 dX9_apart_14
  · replace hM := if_f c1 hM
    refine lv_iload_n hx hb dX9_apart_5 rfl (lv_at hl 1 rfl) ?_
    refine lv_iload_n hx hb dX9_apart_6 rfl (lv_at hl 0 rfl) ?_
    refine lv_isub hx hb dX9_apart_7 ?_
    refine lv_goto (tgt := 14) hx hb dX9_apart_8 (by decide) ?_
    have hz := Option.some.inj hM
    exact W.iret hx hb hr (fun t ht hW => jq_i hK hI hz ht hW) hI.2.2.2 dX9_apart_14
set_option maxRecDepth 20000 in
theorem hi_X9_type_X9 : ∀ w ∈ wsX90, w ∈ wsX9_type := by decide +kernel
set_option maxHeartbeats 4000000 in
set_option maxRecDepth 100000 in
theorem jw_X9_type {l : Launch} (D : va_G) (am : Nat → Nat) (cI cZ : ClassId) (hj : aJ am 24) (N : Nat) {x1 : Int32} {st stZ : PS} {rZ : Int32} (hM : jm_X9_type N x1 st = some (rZ, stZ)) : Met l yX9_type wsX9_type ({ frames := 1, cells := 0, slots := 0, locals := 22 }) (va_Pc [.ref (am 0), .int x1] (JH D (mW am cI cZ) (mTy cI cZ) st)) (JQ D (aA am 24) (mW am cI cZ) (mTy cI cZ) (some (.int rZ)) stZ) 0 0 (aA am 24) := by
  refine jStart (cc := cX9_type) (maxL := 2) (ret := (some .int)) [.ref (am 0), .int x1] (by decide) rfl (Nat.le_of_ble_eq_true rfl) (fun p e s m below meth c ls hx hb hr hlocks hts hown hml hK hI hl => ?_)
  have hown : s.vm.findClass RX9 = some m.cls := hown
  replace hl : lv_has ls 2 [(0, .ref (am 0)), (1, .int x1)] := hl
  generalize hAV : ([.ref (am 0), .int x1] : List Value).toArray = AV at hts ⊢
  have f_0 := hts (.fieldLink RX9 84 "PuppetBarModel" "byteMany" "I") (by decide +kernel)
  have f_1 := hts (.fieldLink RX9 7 "PuppetBarModel" "text" "[I") (by decide +kernel)
  unfold jm_X9_type at hM
  refine lv_iload_n hx hb dX9_type_0 rfl (lv_at hl 1 rfl) ?_
  refine lv_iconst (v := (0 : Int32)) hx hb dX9_type_1 (by decide) ?_
  refine lv_sipush (v := (255 : Int32)) hx hb dX9_type_2 (by decide) ?_
  obtain ⟨v1, st2, hqv1, hM⟩ := bd_at hM
  refine jcallS (As := [.int x1, .int (0 : Int32), .int (255 : Int32)]) (rest := []) ⟨hx, hb, hml, hown, hts⟩ (jw_X9_in D am cI cZ hj N hqv1) (va_cwS 3 hts gX9_type_X9_in rfl rfl rfl yd_X9_in ⟨Nat.le_of_ble_eq_true rfl, Nat.le_of_ble_eq_true rfl⟩) hK hI rfl hl.1 rfl (Nat.le_of_ble_eq_true rfl) dX9_type_5 (fun H locs hI => ?_)
  refine W.eq (g2 := F0 m 8 ls [.int v1]) rfl ?_
  refine lv_if_ne (tgt := 13) hx hb dX9_type_8 (by decide) (fun c3 => ?_) (fun c3 => ?_)
  · replace hM := if_f c3 hM
    refine lv_aload_n hx hb dX9_type_13 rfl (lv_at hl 0 rfl) ?_
    refine va_get (D := D) (ci := 9) (v := .int (st2.1 0 0)) (C := RX9) (T := TX9) (N := 43) hx hb hts hi_X9_type_X9 hown hK hI.1 0 (mg_0 am cI cZ st2) rfl 0 (by decide) f_0 (fun _ h9 => h9) rfl dX9_type_14 ?_
    refine lv_sipush (v := (170 : Int32)) hx hb dX9_type_17 (by decide) ?_
    refine lv_icmp_ne (tgt := 26) hx hb dX9_type_20 (by decide) (fun c4 => ?_) (fun c4 => ?_)
    · replace hM := if_f c4 hM
      refine lv_aload_n hx hb dX9_type_26 rfl (lv_at hl 0 rfl) ?_
      refine va_get (D := D) (ci := 9) (v := .ref (am 1)) (C := RX9) (T := TX9) (N := 43) hx hb hts hi_X9_type_X9 hown hK hI.1 0 (mg_0 am cI cZ st2) rfl 1 (by decide) f_1 (fun _ h9 => h9) rfl dX9_type_27 ?_
      refine lv_aload_n hx hb dX9_type_30 rfl (lv_at hl 0 rfl) ?_
      refine va_get (D := D) (ci := 9) (v := .int (st2.1 0 0)) (C := RX9) (T := TX9) (N := 43) hx hb hts hi_X9_type_X9 hown hK hI.1 0 (mg_0 am cI cZ st2) rfl 0 (by decide) f_0 (fun _ h9 => h9) rfl dX9_type_31 ?_
      refine lv_iload_n hx hb dX9_type_34 rfl (lv_at hl 1 rfl) ?_
      obtain ⟨g6, hM⟩ := gd_at hM
      refine jiast (x := x1) (st2 := pU st2 1 ((st2.1 0 0)).toNatClampNeg (x1)) hx hb hK (mD hj) hI 1 0 (mg_1 am cI cZ st2) rfl (inB_vp g6) (ms_1 am cI cZ st2 _) dX9_type_35 (fun st5 est5 H locs hI => ?_)
      replace hM := nm_at est5 hM
      refine lv_aload_n hx hb dX9_type_36 rfl (lv_at hl 0 rfl) ?_
      refine lv_dup hx hb dX9_type_37 rfl ?_
      refine va_get (D := D) (ci := 9) (v := .int (st5.1 0 0)) (C := RX9) (T := TX9) (N := 43) hx hb hts hi_X9_type_X9 hown hK hI.1 0 (mg_0 am cI cZ st5) rfl 0 (by decide) f_0 (fun _ h9 => h9) rfl dX9_type_38 ?_
      refine lv_iconst (v := (1 : Int32)) hx hb dX9_type_41 (by decide) ?_
      refine lv_iadd hx hb dX9_type_42 ?_
      refine jput (D := D) (ci := 9) (v := .int ((st5.1 0 0) + (1 : Int32))) (ty := .int) (C := RX9) (T := TX9) (N := 43) (st2 := pU st5 0 0 ((st5.1 0 0) + (1 : Int32))) hx hb hts hi_X9_type_X9 tyX9 tyX9_ok nmX9 hown hK (mD hj) hI 0 (mg_0 am cI cZ st5) rfl 0 (by decide) f_0 (fun _ h9 => h9) rfl (by decide +kernel) rfl rfl (Nat.le_of_ble_eq_true rfl) (ms_0_0 am cI cZ st5 _) dX9_type_43 (fun st7 est7 H locs hI => ?_)
      replace hM := nm_at est7 hM
      refine lv_aload_n hx hb dX9_type_46 rfl (lv_at hl 0 rfl) ?_
      refine va_get (D := D) (ci := 9) (v := .int (st7.1 0 0)) (C := RX9) (T := TX9) (N := 43) hx hb hts hi_X9_type_X9 hown hK hI.1 0 (mg_0 am cI cZ st7) rfl 0 (by decide) f_0 (fun _ h9 => h9) rfl dX9_type_47 ?_
      have hz := Option.some.inj hM
      exact W.iret hx hb hr (fun t ht hW => jq_i hK hI hz ht hW) hI.2.2.2 dX9_type_50
    · replace hM := if_t c4 hM
      refine lv_bipush (v := (-3 : Int32)) hx hb dX9_type_23 (by decide) ?_
      have hz := Option.some.inj hM
      exact W.iret hx hb hr (fun t ht hW => jq_i hK hI hz ht hW) hI.2.2.2 dX9_type_25
  · replace hM := if_t c3 hM
    refine lv_iconst (v := (-1 : Int32)) hx hb dX9_type_11 (by decide) ?_
    have hz := Option.some.inj hM
    exact W.iret hx hb hr (fun t ht hW => jq_i hK hI hz ht hW) hI.2.2.2 dX9_type_12
set_option maxRecDepth 20000 in
theorem hi_X9_clear_X9 : ∀ w ∈ wsX90, w ∈ wsX9_clear := by decide +kernel
set_option maxHeartbeats 4000000 in
set_option maxRecDepth 100000 in
theorem jw_X9_clear {l : Launch} (D : va_G) (am : Nat → Nat) (cI cZ : ClassId) (hj : aJ am 24) (N : Nat) {st stZ : PS} {rZ : Int32} (hM : jm_X9_clear N st = some (rZ, stZ)) : Met l yX9_clear wsX9_clear ({ frames := 0, cells := 0, slots := 0, locals := 0 }) (va_Pc [.ref (am 0)] (JH D (mW am cI cZ) (mTy cI cZ) st)) (JQ D (aA am 24) (mW am cI cZ) (mTy cI cZ) (some (.int rZ)) stZ) 0 0 (aA am 24) := by
  refine jStart (cc := cX9_clear) (maxL := 2) (ret := (some .int)) [.ref (am 0)] (by decide) rfl (Nat.le_of_ble_eq_true rfl) (fun p e s m below meth c ls hx hb hr hlocks hts hown hml hK hI hl => ?_)
  have hown : s.vm.findClass RX9 = some m.cls := hown
  replace hl : lv_has ls 2 [(0, .ref (am 0))] := hl
  generalize hAV : ([.ref (am 0)] : List Value).toArray = AV at hts ⊢
  have f_0 := hts (.fieldLink RX9 84 "PuppetBarModel" "byteMany" "I") (by decide +kernel)
  unfold jm_X9_clear at hM
  refine lv_aload_n hx hb dX9_clear_0 rfl (lv_at hl 0 rfl) ?_
  refine va_get (D := D) (ci := 9) (v := .int (st.1 0 0)) (C := RX9) (T := TX9) (N := 43) hx hb hts hi_X9_clear_X9 hown hK hI.1 0 (mg_0 am cI cZ st) rfl 0 (by decide) f_0 (fun _ h9 => h9) rfl dX9_clear_1 ?_
  refine lv_istore_n (lv' := [(1, .int (st.1 0 0)), (0, .ref (am 0))]) hx hb dX9_clear_4 rfl hl (by decide) rfl (fun ls hl => ?_)
  refine lv_aload_n hx hb dX9_clear_5 rfl (lv_at hl 1 rfl) ?_
  refine lv_iconst (v := (0 : Int32)) hx hb dX9_clear_6 (by decide) ?_
  refine jput (D := D) (ci := 9) (v := .int (0 : Int32)) (ty := .int) (C := RX9) (T := TX9) (N := 43) (st2 := pU st 0 0 (0 : Int32)) hx hb hts hi_X9_clear_X9 tyX9 tyX9_ok nmX9 hown hK (mD hj) hI 0 (mg_0 am cI cZ st) rfl 0 (by decide) f_0 (fun _ h9 => h9) rfl (by decide +kernel) rfl rfl (Nat.le_of_ble_eq_true rfl) (ms_0_0 am cI cZ st _) dX9_clear_7 (fun st1 est1 H locs hI => ?_)
  replace hM := nm_at est1 hM
  refine lv_iload_n hx hb dX9_clear_10 rfl (lv_at hl 0 rfl) ?_
  have hz := Option.some.inj hM
  exact W.iret hx hb hr (fun t ht hW => jq_i hK hI hz ht hW) hI.2.2.2 dX9_clear_11
set_option maxRecDepth 20000 in
theorem hi_X9_byteAt_X9 : ∀ w ∈ wsX90, w ∈ wsX9_byteAt := by decide +kernel
set_option maxHeartbeats 4000000 in
set_option maxRecDepth 100000 in
theorem jw_X9_byteAt {l : Launch} (D : va_G) (am : Nat → Nat) (cI cZ : ClassId) (hj : aJ am 24) (N : Nat) {x1 : Int32} {st stZ : PS} {rZ : Int32} (hM : jm_X9_byteAt N x1 st = some (rZ, stZ)) : Met l yX9_byteAt wsX9_byteAt ({ frames := 0, cells := 0, slots := 0, locals := 0 }) (va_Pc [.ref (am 0), .int x1] (JH D (mW am cI cZ) (mTy cI cZ) st)) (JQ D (aA am 24) (mW am cI cZ) (mTy cI cZ) (some (.int rZ)) stZ) 0 0 (aA am 24) := by
  refine jStart (cc := cX9_byteAt) (maxL := 2) (ret := (some .int)) [.ref (am 0), .int x1] (by decide) rfl (Nat.le_of_ble_eq_true rfl) (fun p e s m below meth c ls hx hb hr hlocks hts hown hml hK hI hl => ?_)
  have hown : s.vm.findClass RX9 = some m.cls := hown
  replace hl : lv_has ls 2 [(0, .ref (am 0)), (1, .int x1)] := hl
  generalize hAV : ([.ref (am 0), .int x1] : List Value).toArray = AV at hts ⊢
  have f_0 := hts (.fieldLink RX9 84 "PuppetBarModel" "byteMany" "I") (by decide +kernel)
  have f_1 := hts (.fieldLink RX9 7 "PuppetBarModel" "text" "[I") (by decide +kernel)
  unfold jm_X9_byteAt at hM
  refine lv_iload_n hx hb dX9_byteAt_0 rfl (lv_at hl 1 rfl) ?_
  refine lv_aload_n hx hb dX9_byteAt_1 rfl (lv_at hl 0 rfl) ?_
  refine va_get (D := D) (ci := 9) (v := .int (st.1 0 0)) (C := RX9) (T := TX9) (N := 43) hx hb hts hi_X9_byteAt_X9 hown hK hI.1 0 (mg_0 am cI cZ st) rfl 0 (by decide) f_0 (fun _ h9 => h9) rfl dX9_byteAt_2 ?_
  refine lv_icmp_ge (tgt := 17) hx hb dX9_byteAt_5 (by decide) (fun c1 => ?_) (fun c1 => ?_)
  · replace hM := if_t c1 hM
    refine lv_iconst (v := (0 : Int32)) hx hb dX9_byteAt_17 (by decide) ?_
    have hz := Option.some.inj hM
    exact W.iret hx hb hr (fun t ht hW => jq_i hK hI hz ht hW) hI.2.2.2 dX9_byteAt_18
  · replace hM := if_f c1 hM
    refine lv_aload_n hx hb dX9_byteAt_8 rfl (lv_at hl 0 rfl) ?_
    refine va_get (D := D) (ci := 9) (v := .ref (am 1)) (C := RX9) (T := TX9) (N := 43) hx hb hts hi_X9_byteAt_X9 hown hK hI.1 0 (mg_0 am cI cZ st) rfl 1 (by decide) f_1 (fun _ h9 => h9) rfl dX9_byteAt_9 ?_
    refine lv_iload_n hx hb dX9_byteAt_12 rfl (lv_at hl 1 rfl) ?_
    obtain ⟨g2, hM⟩ := gd_at hM
    refine va_iald hx hb hK hI.1 1 0 (mg_1 am cI cZ st) rfl (inB_vp g2) dX9_byteAt_13 ?_
    refine lv_goto (tgt := 18) hx hb dX9_byteAt_14 (by decide) ?_
    have hz := Option.some.inj hM
    exact W.iret hx hb hr (fun t ht hW => jq_i hK hI hz ht hW) hI.2.2.2 dX9_byteAt_18
set_option maxHeartbeats 4000000 in
set_option maxRecDepth 100000 in
theorem jw_X9_isLetter {l : Launch} (D : va_G) (am : Nat → Nat) (cI cZ : ClassId) (hj : aJ am 24) (N : Nat) {x0 : Int32} {st stZ : PS} {rZ : Int32} (hM : jm_X9_isLetter N x0 st = some (rZ, stZ)) : Met l yX9_isLetter wsX9_isLetter ({ frames := 1, cells := 0, slots := 0, locals := 22 }) (va_Pc [.int x0] (JH D (mW am cI cZ) (mTy cI cZ) st)) (JQ D (aA am 24) (mW am cI cZ) (mTy cI cZ) (some (.int rZ)) stZ) 0 0 (aA am 24) := by
  refine jStart (cc := cX9_isLetter) (maxL := 1) (ret := (some .boolean)) [.int x0] (by decide) rfl (Nat.le_of_ble_eq_true rfl) (fun p e s m below meth c ls hx hb hr hlocks hts hown hml hK hI hl => ?_)
  have hown : s.vm.findClass RX9 = some m.cls := hown
  replace hl : lv_has ls 1 [(0, .int x0)] := hl
  generalize hAV : ([.int x0] : List Value).toArray = AV at hts ⊢
  unfold jm_X9_isLetter at hM
  refine lv_iload_n hx hb dX9_isLetter_0 rfl (lv_at hl 0 rfl) ?_
  refine lv_bipush (v := (97 : Int32)) hx hb dX9_isLetter_1 (by decide) ?_
  refine lv_bipush (v := (122 : Int32)) hx hb dX9_isLetter_3 (by decide) ?_
  obtain ⟨v1, st2, hqv1, hM⟩ := bd_at hM
  refine jcallS (As := [.int x0, .int (97 : Int32), .int (122 : Int32)]) (rest := []) ⟨hx, hb, hml, hown, hts⟩ (jw_X9_in D am cI cZ hj N hqv1) (va_cwS 3 hts gX9_isLetter_X9_in rfl rfl rfl yd_X9_in ⟨Nat.le_of_ble_eq_true rfl, Nat.le_of_ble_eq_true rfl⟩) hK hI rfl hl.1 rfl (Nat.le_of_ble_eq_true rfl) dX9_isLetter_5 (fun H locs hI => ?_)
  refine W.eq (g2 := F0 m 8 ls [.int v1]) rfl ?_
  obtain ⟨g3, hM⟩ := gd_at hM
  have hz := Option.some.inj hM
  exact W.zret hx hb hr (isZ_n g3) (fun t ht hW => jq_i hK hI hz ht hW) hI.2.2.2 dX9_isLetter_8
set_option maxHeartbeats 4000000 in
set_option maxRecDepth 100000 in
theorem jw_X9_isFigure {l : Launch} (D : va_G) (am : Nat → Nat) (cI cZ : ClassId) (hj : aJ am 24) (N : Nat) {x0 : Int32} {st stZ : PS} {rZ : Int32} (hM : jm_X9_isFigure N x0 st = some (rZ, stZ)) : Met l yX9_isFigure wsX9_isFigure ({ frames := 1, cells := 0, slots := 0, locals := 22 }) (va_Pc [.int x0] (JH D (mW am cI cZ) (mTy cI cZ) st)) (JQ D (aA am 24) (mW am cI cZ) (mTy cI cZ) (some (.int rZ)) stZ) 0 0 (aA am 24) := by
  refine jStart (cc := cX9_isFigure) (maxL := 1) (ret := (some .boolean)) [.int x0] (by decide) rfl (Nat.le_of_ble_eq_true rfl) (fun p e s m below meth c ls hx hb hr hlocks hts hown hml hK hI hl => ?_)
  have hown : s.vm.findClass RX9 = some m.cls := hown
  replace hl : lv_has ls 1 [(0, .int x0)] := hl
  generalize hAV : ([.int x0] : List Value).toArray = AV at hts ⊢
  unfold jm_X9_isFigure at hM
  refine lv_iload_n hx hb dX9_isFigure_0 rfl (lv_at hl 0 rfl) ?_
  refine lv_bipush (v := (48 : Int32)) hx hb dX9_isFigure_1 (by decide) ?_
  refine lv_bipush (v := (57 : Int32)) hx hb dX9_isFigure_3 (by decide) ?_
  obtain ⟨v1, st2, hqv1, hM⟩ := bd_at hM
  refine jcallS (As := [.int x0, .int (48 : Int32), .int (57 : Int32)]) (rest := []) ⟨hx, hb, hml, hown, hts⟩ (jw_X9_in D am cI cZ hj N hqv1) (va_cwS 3 hts gX9_isFigure_X9_in rfl rfl rfl yd_X9_in ⟨Nat.le_of_ble_eq_true rfl, Nat.le_of_ble_eq_true rfl⟩) hK hI rfl hl.1 rfl (Nat.le_of_ble_eq_true rfl) dX9_isFigure_5 (fun H locs hI => ?_)
  refine W.eq (g2 := F0 m 8 ls [.int v1]) rfl ?_
  obtain ⟨g3, hM⟩ := gd_at hM
  have hz := Option.some.inj hM
  exact W.zret hx hb hr (isZ_n g3) (fun t ht hW => jq_i hK hI hz ht hW) hI.2.2.2 dX9_isFigure_8
set_option maxRecDepth 20000 in
theorem hi_X9_reads_X9 : ∀ w ∈ wsX90, w ∈ wsX9_reads := by decide +kernel
set_option maxHeartbeats 4000000 in
set_option maxRecDepth 100000 in
theorem jw_X9_reads {l : Launch} (D : va_G) (am : Nat → Nat) (cI cZ : ClassId) (hj : aJ am 24) (N : Nat) {st stZ : PS} {rZ : Unit} (hM : jm_X9_reads N st = some (rZ, stZ)) : Met l yX9_reads wsX9_reads ({ frames := 2, cells := 0, slots := 0, locals := 42 }) (va_Pc [.ref (am 0)] (JH D (mW am cI cZ) (mTy cI cZ) st)) (JQ D (aA am 24) (mW am cI cZ) (mTy cI cZ) none stZ) 0 0 (aA am 24) := by
  refine jStart (cc := cX9_reads) (maxL := 2) (ret := none) [.ref (am 0)] (by decide) rfl (Nat.le_of_ble_eq_true rfl) (fun p e s m below meth c ls hx hb hr hlocks hts hown hml hK hI hl => ?_)
  have hown : s.vm.findClass RX9 = some m.cls := hown
  replace hl : lv_has ls 2 [(0, .ref (am 0))] := hl
  generalize hAV : ([.ref (am 0)] : List Value).toArray = AV at hts ⊢
  have f_0 := hts (.fieldLink RX9 88 "PuppetBarModel" "readAt" "I") (by decide +kernel)
  have f_1 := hts (.fieldLink RX9 95 "PuppetBarModel" "tokenAt" "I") (by decide +kernel)
  have f_2 := hts (.fieldLink RX9 84 "PuppetBarModel" "byteMany" "I") (by decide +kernel)
  have f_3 := hts (.fieldLink RX9 98 "PuppetBarModel" "token" "I") (by decide +kernel)
  have f_4 := hts (.fieldLink RX9 108 "PuppetBarModel" "number" "I") (by decide +kernel)
  unfold jm_X9_reads at hM
  have lp0 : ∀ (n : Nat) (st1 : PS) (H : Heap) (locs : List Loc) (ls : Array Slot), JI D (aA am 24) (mW am cI cZ) s.heap st1 H locs → lv_has ls 2 [(0, .ref (am 0))] → iter (fun q => jm_X9_reads_L0 N q) n st1 = some (rZ, stZ) → W p l e (headSpec wsX9_reads { frames := 2, cells := 0, slots := 0, locals := 42 }).room s m AV below meth c H locs 0 0 (MQ below (JQ D (aA am 24) (mW am cI cZ) (mTy cI cZ) none stZ) AV s 0 0 (aA am 24)) (F0 m 0 ls []) := by
    intro n
    induction n with
    | zero =>
      intro _ _ _ _ _ _ hM
      exact absurd hM (fun h => iter_zero h)
    | succ n ih0 =>
      intro st1 H locs ls hI hl hM
      obtain ⟨z0, hM, hk0⟩ := iter_succ hM
      replace hM : jm_X9_reads_L0 N st1 = some z0 := hM
      unfold jm_X9_reads_L0 at hM
      refine lv_aload_n hx hb dX9_reads_0 rfl (lv_at hl 0 rfl) ?_
      refine lv_aload_n hx hb dX9_reads_1 rfl (lv_at hl 0 rfl) ?_
      refine va_get (D := D) (ci := 9) (v := .int (st1.1 0 2)) (C := RX9) (T := TX9) (N := 43) hx hb hts hi_X9_reads_X9 hown hK hI.1 0 (mg_0 am cI cZ st1) rfl 2 (by decide) f_0 (fun _ h9 => h9) rfl dX9_reads_2 ?_
      obtain ⟨v2, st3, hqv2, hM⟩ := bd_at hM
      refine jcallV (C := RX9) (As := [.int (st1.1 0 2)]) (rest := []) ⟨hx, hb, hml, hown, hts⟩ (jw_X9_byteAt D am cI cZ hj N hqv2) (cwV 1 hts gX9_reads_X9_byteAt rfl rfl rfl yd_X9_byteAt ⟨Nat.le_of_ble_eq_true rfl, Nat.le_of_ble_eq_true rfl⟩) hK hI 0 (mg_0 am cI cZ st1) rfl rfl hl.1 rfl (Nat.le_of_ble_eq_true rfl) dX9_reads_5 (fun H locs hI => ?_)
      refine W.eq (g2 := F0 m 8 ls [.int v2]) rfl ?_
      refine lv_bipush (v := (32 : Int32)) hx hb dX9_reads_8 (by decide) ?_
      refine lv_icmp_ne (tgt := 26) hx hb dX9_reads_10 (by decide) (fun c4 => ?_) (fun c4 => ?_)
      · replace hM := if_f c4 hM
        refine lv_aload_n hx hb dX9_reads_26 rfl (lv_at hl 0 rfl) ?_
        refine lv_aload_n hx hb dX9_reads_27 rfl (lv_at hl 0 rfl) ?_
        refine va_get (D := D) (ci := 9) (v := .int (st3.1 0 2)) (C := RX9) (T := TX9) (N := 43) hx hb hts hi_X9_reads_X9 hown hK hI.1 0 (mg_0 am cI cZ st3) rfl 2 (by decide) f_0 (fun _ h9 => h9) rfl dX9_reads_28 ?_
        refine jput (D := D) (ci := 9) (v := .int (st3.1 0 2)) (ty := .int) (C := RX9) (T := TX9) (N := 43) (st2 := pU st3 0 3 (st3.1 0 2)) hx hb hts hi_X9_reads_X9 tyX9 tyX9_ok nmX9 hown hK (mD hj) hI 0 (mg_0 am cI cZ st3) rfl 3 (by decide) f_1 (fun _ h9 => h9) rfl (by decide +kernel) rfl rfl (Nat.le_of_ble_eq_true rfl) (ms_0_3 am cI cZ st3 _) dX9_reads_31 (fun st5 est5 H locs hI => ?_)
        replace hM := nm_at est5 hM
        refine lv_aload_n hx hb dX9_reads_34 rfl (lv_at hl 0 rfl) ?_
        refine lv_aload_n hx hb dX9_reads_35 rfl (lv_at hl 0 rfl) ?_
        refine va_get (D := D) (ci := 9) (v := .int (st5.1 0 2)) (C := RX9) (T := TX9) (N := 43) hx hb hts hi_X9_reads_X9 hown hK hI.1 0 (mg_0 am cI cZ st5) rfl 2 (by decide) f_0 (fun _ h9 => h9) rfl dX9_reads_36 ?_
        obtain ⟨v6, st7, hqv6, hM⟩ := bd_at hM
        refine jcallV (C := RX9) (As := [.int (st5.1 0 2)]) (rest := []) ⟨hx, hb, hml, hown, hts⟩ (jw_X9_byteAt D am cI cZ hj N hqv6) (cwV 1 hts gX9_reads_X9_byteAt rfl rfl rfl yd_X9_byteAt ⟨Nat.le_of_ble_eq_true rfl, Nat.le_of_ble_eq_true rfl⟩) hK hI 0 (mg_0 am cI cZ st5) rfl rfl hl.1 rfl (Nat.le_of_ble_eq_true rfl) dX9_reads_39 (fun H locs hI => ?_)
        refine W.eq (g2 := F0 m 42 ls [.int v6]) rfl ?_
        refine lv_istore_n (lv' := [(1, .int v6), (0, .ref (am 0))]) hx hb dX9_reads_42 rfl hl (by decide) rfl (fun ls hl => ?_)
        refine lv_aload_n hx hb dX9_reads_43 rfl (lv_at hl 1 rfl) ?_
        refine va_get (D := D) (ci := 9) (v := .int (st7.1 0 2)) (C := RX9) (T := TX9) (N := 43) hx hb hts hi_X9_reads_X9 hown hK hI.1 0 (mg_0 am cI cZ st7) rfl 2 (by decide) f_0 (fun _ h9 => h9) rfl dX9_reads_44 ?_
        refine lv_aload_n hx hb dX9_reads_47 rfl (lv_at hl 1 rfl) ?_
        refine va_get (D := D) (ci := 9) (v := .int (st7.1 0 0)) (C := RX9) (T := TX9) (N := 43) hx hb hts hi_X9_reads_X9 hown hK hI.1 0 (mg_0 am cI cZ st7) rfl 0 (by decide) f_2 (fun _ h9 => h9) rfl dX9_reads_48 ?_
        refine lv_icmp_ne (tgt := 62) hx hb dX9_reads_51 (by decide) (fun c8 => ?_) (fun c8 => ?_)
        · replace hM := if_f c8 hM
          refine lv_iload_n hx hb dX9_reads_62 rfl (lv_at hl 0 rfl) ?_
          obtain ⟨v9, st10, hqv9, hM⟩ := bd_at hM
          refine jcallS (As := [.int v6]) (rest := []) ⟨hx, hb, hml, hown, hts⟩ (jw_X9_isLetter D am cI cZ hj N hqv9) (va_cwS 1 hts gX9_reads_X9_isLetter rfl rfl rfl yd_X9_isLetter ⟨Nat.le_of_ble_eq_true rfl, Nat.le_of_ble_eq_true rfl⟩) hK hI rfl hl.1 rfl (Nat.le_of_ble_eq_true rfl) dX9_reads_63 (fun H locs hI => ?_)
          refine W.eq (g2 := F0 m 66 ls [.int v9]) rfl ?_
          refine lv_if_eq (tgt := 121) hx hb dX9_reads_66 (by decide) (fun c11 => ?_) (fun c11 => ?_)
          · replace hM := if_t c11 hM
            refine lv_iload_n hx hb dX9_reads_121 rfl (lv_at hl 0 rfl) ?_
            obtain ⟨v12, st13, hqv12, hM⟩ := bd_at hM
            refine jcallS (As := [.int v6]) (rest := []) ⟨hx, hb, hml, hown, hts⟩ (jw_X9_isFigure D am cI cZ hj N hqv12) (va_cwS 1 hts gX9_reads_X9_isFigure rfl rfl rfl yd_X9_isFigure ⟨Nat.le_of_ble_eq_true rfl, Nat.le_of_ble_eq_true rfl⟩) hK hI rfl hl.1 rfl (Nat.le_of_ble_eq_true rfl) dX9_reads_122 (fun H locs hI => ?_)
            refine W.eq (g2 := F0 m 125 ls [.int v12]) rfl ?_
            refine lv_if_eq (tgt := 240) hx hb dX9_reads_125 (by decide) (fun c14 => ?_) (fun c14 => ?_)
            · replace hM := if_t c14 hM
              refine lv_aload_n hx hb dX9_reads_240 rfl (lv_at hl 1 rfl) ?_
              refine lv_dup hx hb dX9_reads_241 rfl ?_
              refine va_get (D := D) (ci := 9) (v := .int (st13.1 0 2)) (C := RX9) (T := TX9) (N := 43) hx hb hts hi_X9_reads_X9 hown hK hI.1 0 (mg_0 am cI cZ st13) rfl 2 (by decide) f_0 (fun _ h9 => h9) rfl dX9_reads_242 ?_
              refine lv_iconst (v := (1 : Int32)) hx hb dX9_reads_245 (by decide) ?_
              refine lv_iadd hx hb dX9_reads_246 ?_
              refine jput (D := D) (ci := 9) (v := .int ((st13.1 0 2) + (1 : Int32))) (ty := .int) (C := RX9) (T := TX9) (N := 43) (st2 := pU st13 0 2 ((st13.1 0 2) + (1 : Int32))) hx hb hts hi_X9_reads_X9 tyX9 tyX9_ok nmX9 hown hK (mD hj) hI 0 (mg_0 am cI cZ st13) rfl 2 (by decide) f_0 (fun _ h9 => h9) rfl (by decide +kernel) rfl rfl (Nat.le_of_ble_eq_true rfl) (ms_0_2 am cI cZ st13 _) dX9_reads_247 (fun st15 est15 H locs hI => ?_)
              replace hM := nm_at est15 hM
              refine lv_aload_n hx hb dX9_reads_250 rfl (lv_at hl 1 rfl) ?_
              refine lv_iload_n hx hb dX9_reads_251 rfl (lv_at hl 0 rfl) ?_
              refine lv_bipush (v := (59 : Int32)) hx hb dX9_reads_252 (by decide) ?_
              refine lv_icmp_ne (tgt := 261) hx hb dX9_reads_254 (by decide) (fun c16 => ?_) (fun c16 => ?_)
              · replace hM := if_f c16 hM
                refine lv_iconst (v := (0 : Int32)) hx hb dX9_reads_261 (by decide) ?_
                refine jput (D := D) (ci := 9) (v := .int (0 : Int32)) (ty := .int) (C := RX9) (T := TX9) (N := 43) (st2 := pU st15 0 4 (0 : Int32)) hx hb hts hi_X9_reads_X9 tyX9 tyX9_ok nmX9 hown hK (mD hj) hI 0 (mg_0 am cI cZ st15) rfl 4 (by decide) f_3 (fun _ h9 => h9) rfl (by decide +kernel) rfl rfl (Nat.le_of_ble_eq_true rfl) (ms_0_4 am cI cZ st15 _) dX9_reads_262 (fun st17 est17 H locs hI => ?_)
                replace hM := nm_at est17 hM
                have hz := Option.some.inj hM
                subst hz
                have hz := kn_r hk0
                exact W.vret hx hb hr (fun t ht hW => jq_v hK hI hz ht hW) hI.2.2.2 dX9_reads_265
              · replace hM := if_t c16 hM
                refine lv_iload_n hx hb dX9_reads_257 rfl (lv_at hl 0 rfl) ?_
                refine lv_goto (tgt := 262) hx hb dX9_reads_258 (by decide) ?_
                refine jput (D := D) (ci := 9) (v := .int v6) (ty := .int) (C := RX9) (T := TX9) (N := 43) (st2 := pU st15 0 4 v6) hx hb hts hi_X9_reads_X9 tyX9 tyX9_ok nmX9 hown hK (mD hj) hI 0 (mg_0 am cI cZ st15) rfl 4 (by decide) f_3 (fun _ h9 => h9) rfl (by decide +kernel) rfl rfl (Nat.le_of_ble_eq_true rfl) (ms_0_4 am cI cZ st15 _) dX9_reads_262 (fun st18 est18 H locs hI => ?_)
                replace hM := nm_at est18 hM
                have hz := Option.some.inj hM
                subst hz
                have hz := kn_r hk0
                exact W.vret hx hb hr (fun t ht hW => jq_v hK hI hz ht hW) hI.2.2.2 dX9_reads_265
            · replace hM := if_f c14 hM
              refine lv_aload_n hx hb dX9_reads_128 rfl (lv_at hl 1 rfl) ?_
              refine lv_iconst (v := (0 : Int32)) hx hb dX9_reads_129 (by decide) ?_
              refine jput (D := D) (ci := 9) (v := .int (0 : Int32)) (ty := .int) (C := RX9) (T := TX9) (N := 43) (st2 := pU st13 0 5 (0 : Int32)) hx hb hts hi_X9_reads_X9 tyX9 tyX9_ok nmX9 hown hK (mD hj) hI 0 (mg_0 am cI cZ st13) rfl 5 (by decide) f_4 (fun _ h9 => h9) rfl (by decide +kernel) rfl rfl (Nat.le_of_ble_eq_true rfl) (ms_0_5 am cI cZ st13 _) dX9_reads_130 (fun st19 est19 H locs hI => ?_)
              replace hM := nm_at est19 hM
              have lp1 : ∀ (n : Nat) (st20 : PS) (H : Heap) (locs : List Loc) (ls : Array Slot), JI D (aA am 24) (mW am cI cZ) s.heap st20 H locs → lv_has ls 2 [(0, .ref (am 0)), (1, .int v6)] → iter (fun q => jm_X9_reads_L133 N v6 q) n st20 = some z0 → W p l e (headSpec wsX9_reads { frames := 2, cells := 0, slots := 0, locals := 42 }).room s m AV below meth c H locs 0 0 (MQ below (JQ D (aA am 24) (mW am cI cZ) (mTy cI cZ) none stZ) AV s 0 0 (aA am 24)) (F0 m 133 ls []) := by
                intro n
                induction n with
                | zero =>
                  intro _ _ _ _ _ _ hM
                  exact absurd hM (fun h => iter_zero h)
                | succ n ih1 =>
                  intro st20 H locs ls hI hl hM
                  obtain ⟨z1, hM, hk1⟩ := iter_succ hM
                  replace hM : jm_X9_reads_L133 N v6 st20 = some z1 := hM
                  unfold jm_X9_reads_L133 at hM
                  refine lv_aload_n hx hb dX9_reads_133 rfl (lv_at hl 0 rfl) ?_
                  refine lv_aload_n hx hb dX9_reads_134 rfl (lv_at hl 0 rfl) ?_
                  refine va_get (D := D) (ci := 9) (v := .int (st20.1 0 2)) (C := RX9) (T := TX9) (N := 43) hx hb hts hi_X9_reads_X9 hown hK hI.1 0 (mg_0 am cI cZ st20) rfl 2 (by decide) f_0 (fun _ h9 => h9) rfl dX9_reads_135 ?_
                  obtain ⟨v21, st22, hqv21, hM⟩ := bd_at hM
                  refine jcallV (C := RX9) (As := [.int (st20.1 0 2)]) (rest := []) ⟨hx, hb, hml, hown, hts⟩ (jw_X9_byteAt D am cI cZ hj N hqv21) (cwV 1 hts gX9_reads_X9_byteAt rfl rfl rfl yd_X9_byteAt ⟨Nat.le_of_ble_eq_true rfl, Nat.le_of_ble_eq_true rfl⟩) hK hI 0 (mg_0 am cI cZ st20) rfl rfl hl.1 rfl (Nat.le_of_ble_eq_true rfl) dX9_reads_138 (fun H locs hI => ?_)
                  refine W.eq (g2 := F0 m 141 ls [.int v21]) rfl ?_
                  obtain ⟨v23, st24, hqv23, hM⟩ := bd_at hM
                  refine jcallS (As := [.int v21]) (rest := []) ⟨hx, hb, hml, hown, hts⟩ (jw_X9_isFigure D am cI cZ hj N hqv23) (va_cwS 1 hts gX9_reads_X9_isFigure rfl rfl rfl yd_X9_isFigure ⟨Nat.le_of_ble_eq_true rfl, Nat.le_of_ble_eq_true rfl⟩) hK hI rfl hl.1 rfl (Nat.le_of_ble_eq_true rfl) dX9_reads_141 (fun H locs hI => ?_)
                  refine W.eq (g2 := F0 m 144 ls [.int v23]) rfl ?_
                  refine lv_if_eq (tgt := 199) hx hb dX9_reads_144 (by decide) (fun c25 => ?_) (fun c25 => ?_)
                  · replace hM := if_t c25 hM
                    refine lv_aload_n hx hb dX9_reads_199 rfl (lv_at hl 0 rfl) ?_
                    refine lv_aload_n hx hb dX9_reads_200 rfl (lv_at hl 0 rfl) ?_
                    refine va_get (D := D) (ci := 9) (v := .int (st24.1 0 5)) (C := RX9) (T := TX9) (N := 43) hx hb hts hi_X9_reads_X9 hown hK hI.1 0 (mg_0 am cI cZ st24) rfl 5 (by decide) f_4 (fun _ h9 => h9) rfl dX9_reads_201 ?_
                    refine lv_bipush (v := (99 : Int32)) hx hb dX9_reads_204 (by decide) ?_
                    refine lv_icmp_gt (tgt := 228) hx hb dX9_reads_206 (by decide) (fun c26 => ?_) (fun c26 => ?_)
                    · replace hM := if_t c26 hM
                      refine lv_iconst (v := (0 : Int32)) hx hb dX9_reads_228 (by decide) ?_
                      refine lv_goto (tgt := 234) hx hb dX9_reads_229 (by decide) ?_
                      refine jput (D := D) (ci := 9) (v := .int (0 : Int32)) (ty := .int) (C := RX9) (T := TX9) (N := 43) (st2 := pU st24 0 4 (0 : Int32)) hx hb hts hi_X9_reads_X9 tyX9 tyX9_ok nmX9 hown hK (mD hj) hI 0 (mg_0 am cI cZ st24) rfl 4 (by decide) f_3 (fun _ h9 => h9) rfl (by decide +kernel) rfl rfl (Nat.le_of_ble_eq_true rfl) (ms_0_4 am cI cZ st24 _) dX9_reads_234 (fun st27 est27 H locs hI => ?_)
                      replace hM := nm_at est27 hM
                      refine lv_goto (tgt := 265) hx hb dX9_reads_237 (by decide) ?_
                      have hz := Option.some.inj hM
                      subst hz
                      have hz := kn_r hk1
                      subst hz
                      have hz := kn_r hk0
                      exact W.vret hx hb hr (fun t ht hW => jq_v hK hI hz ht hW) hI.2.2.2 dX9_reads_265
                    · replace hM := if_f c26 hM
                      refine lv_iload_n hx hb dX9_reads_209 rfl (lv_at hl 1 rfl) ?_
                      refine lv_bipush (v := (48 : Int32)) hx hb dX9_reads_210 (by decide) ?_
                      refine lv_icmp_ne (tgt := 232) hx hb dX9_reads_212 (by decide) (fun c28 => ?_) (fun c28 => ?_)
                      · replace hM := if_f c28 hM
                        refine lv_bipush (v := (48 : Int32)) hx hb dX9_reads_232 (by decide) ?_
                        refine jput (D := D) (ci := 9) (v := .int (48 : Int32)) (ty := .int) (C := RX9) (T := TX9) (N := 43) (st2 := pU st24 0 4 (48 : Int32)) hx hb hts hi_X9_reads_X9 tyX9 tyX9_ok nmX9 hown hK (mD hj) hI 0 (mg_0 am cI cZ st24) rfl 4 (by decide) f_3 (fun _ h9 => h9) rfl (by decide +kernel) rfl rfl (Nat.le_of_ble_eq_true rfl) (ms_0_4 am cI cZ st24 _) dX9_reads_234 (fun st29 est29 H locs hI => ?_)
                        replace hM := nm_at est29 hM
                        refine lv_goto (tgt := 265) hx hb dX9_reads_237 (by decide) ?_
                        have hz := Option.some.inj hM
                        subst hz
                        have hz := kn_r hk1
                        subst hz
                        have hz := kn_r hk0
                        exact W.vret hx hb hr (fun t ht hW => jq_v hK hI hz ht hW) hI.2.2.2 dX9_reads_265
                      · replace hM := if_t c28 hM
                        refine lv_aload_n hx hb dX9_reads_215 rfl (lv_at hl 0 rfl) ?_
                        refine va_get (D := D) (ci := 9) (v := .int (st24.1 0 2)) (C := RX9) (T := TX9) (N := 43) hx hb hts hi_X9_reads_X9 hown hK hI.1 0 (mg_0 am cI cZ st24) rfl 2 (by decide) f_0 (fun _ h9 => h9) rfl dX9_reads_216 ?_
                        refine lv_aload_n hx hb dX9_reads_219 rfl (lv_at hl 0 rfl) ?_
                        refine va_get (D := D) (ci := 9) (v := .int (st24.1 0 3)) (C := RX9) (T := TX9) (N := 43) hx hb hts hi_X9_reads_X9 hown hK hI.1 0 (mg_0 am cI cZ st24) rfl 3 (by decide) f_1 (fun _ h9 => h9) rfl dX9_reads_220 ?_
                        refine lv_isub hx hb dX9_reads_223 ?_
                        refine lv_iconst (v := (1 : Int32)) hx hb dX9_reads_224 (by decide) ?_
                        refine lv_icmp_le (tgt := 232) hx hb dX9_reads_225 (by decide) (fun c30 => ?_) (fun c30 => ?_)
                        · replace hM := if_t c30 hM
                          refine lv_bipush (v := (48 : Int32)) hx hb dX9_reads_232 (by decide) ?_
                          refine jput (D := D) (ci := 9) (v := .int (48 : Int32)) (ty := .int) (C := RX9) (T := TX9) (N := 43) (st2 := pU st24 0 4 (48 : Int32)) hx hb hts hi_X9_reads_X9 tyX9 tyX9_ok nmX9 hown hK (mD hj) hI 0 (mg_0 am cI cZ st24) rfl 4 (by decide) f_3 (fun _ h9 => h9) rfl (by decide +kernel) rfl rfl (Nat.le_of_ble_eq_true rfl) (ms_0_4 am cI cZ st24 _) dX9_reads_234 (fun st31 est31 H locs hI => ?_)
                          replace hM := nm_at est31 hM
                          refine lv_goto (tgt := 265) hx hb dX9_reads_237 (by decide) ?_
                          have hz := Option.some.inj hM
                          subst hz
                          have hz := kn_r hk1
                          subst hz
                          have hz := kn_r hk0
                          exact W.vret hx hb hr (fun t ht hW => jq_v hK hI hz ht hW) hI.2.2.2 dX9_reads_265
                        · replace hM := if_f c30 hM
                          refine lv_iconst (v := (0 : Int32)) hx hb dX9_reads_228 (by decide) ?_
                          refine lv_goto (tgt := 234) hx hb dX9_reads_229 (by decide) ?_
                          refine jput (D := D) (ci := 9) (v := .int (0 : Int32)) (ty := .int) (C := RX9) (T := TX9) (N := 43) (st2 := pU st24 0 4 (0 : Int32)) hx hb hts hi_X9_reads_X9 tyX9 tyX9_ok nmX9 hown hK (mD hj) hI 0 (mg_0 am cI cZ st24) rfl 4 (by decide) f_3 (fun _ h9 => h9) rfl (by decide +kernel) rfl rfl (Nat.le_of_ble_eq_true rfl) (ms_0_4 am cI cZ st24 _) dX9_reads_234 (fun st32 est32 H locs hI => ?_)
                          replace hM := nm_at est32 hM
                          refine lv_goto (tgt := 265) hx hb dX9_reads_237 (by decide) ?_
                          have hz := Option.some.inj hM
                          subst hz
                          have hz := kn_r hk1
                          subst hz
                          have hz := kn_r hk0
                          exact W.vret hx hb hr (fun t ht hW => jq_v hK hI hz ht hW) hI.2.2.2 dX9_reads_265
                  · replace hM := if_f c25 hM
                    refine lv_aload_n hx hb dX9_reads_147 rfl (lv_at hl 0 rfl) ?_
                    refine lv_aload_n hx hb dX9_reads_148 rfl (lv_at hl 0 rfl) ?_
                    refine va_get (D := D) (ci := 9) (v := .int (st24.1 0 5)) (C := RX9) (T := TX9) (N := 43) hx hb hts hi_X9_reads_X9 hown hK hI.1 0 (mg_0 am cI cZ st24) rfl 5 (by decide) f_4 (fun _ h9 => h9) rfl dX9_reads_149 ?_
                    refine lv_bipush (v := (99 : Int32)) hx hb dX9_reads_152 (by decide) ?_
                    refine lv_icmp_le (tgt := 164) hx hb dX9_reads_154 (by decide) (fun c33 => ?_) (fun c33 => ?_)
                    · replace hM := if_t c33 hM
                      refine lv_bipush (v := (10 : Int32)) hx hb dX9_reads_164 (by decide) ?_
                      refine lv_aload_n hx hb dX9_reads_166 rfl (lv_at hl 0 rfl) ?_
                      refine va_get (D := D) (ci := 9) (v := .int (st24.1 0 5)) (C := RX9) (T := TX9) (N := 43) hx hb hts hi_X9_reads_X9 hown hK hI.1 0 (mg_0 am cI cZ st24) rfl 5 (by decide) f_4 (fun _ h9 => h9) rfl dX9_reads_167 ?_
                      refine lv_imul hx hb dX9_reads_170 ?_
                      refine lv_aload_n hx hb dX9_reads_171 rfl (lv_at hl 0 rfl) ?_
                      refine lv_aload_n hx hb dX9_reads_172 rfl (lv_at hl 0 rfl) ?_
                      refine va_get (D := D) (ci := 9) (v := .int (st24.1 0 2)) (C := RX9) (T := TX9) (N := 43) hx hb hts hi_X9_reads_X9 hown hK hI.1 0 (mg_0 am cI cZ st24) rfl 2 (by decide) f_0 (fun _ h9 => h9) rfl dX9_reads_173 ?_
                      obtain ⟨v34, st35, hqv34, hM⟩ := bd_at hM
                      refine jcallV (C := RX9) (As := [.int (st24.1 0 2)]) (rest := [.int ((10 : Int32) * (st24.1 0 5)), .ref (am 0)]) ⟨hx, hb, hml, hown, hts⟩ (jw_X9_byteAt D am cI cZ hj N hqv34) (cwV 1 hts gX9_reads_X9_byteAt rfl rfl rfl yd_X9_byteAt ⟨Nat.le_of_ble_eq_true rfl, Nat.le_of_ble_eq_true rfl⟩) hK hI 0 (mg_0 am cI cZ st24) rfl rfl hl.1 rfl (Nat.le_of_ble_eq_true rfl) dX9_reads_176 (fun H locs hI => ?_)
                      refine W.eq (g2 := F0 m 179 ls [.int v34, .int ((10 : Int32) * (st24.1 0 5)), .ref (am 0)]) rfl ?_
                      refine lv_iadd hx hb dX9_reads_179 ?_
                      refine lv_bipush (v := (48 : Int32)) hx hb dX9_reads_180 (by decide) ?_
                      refine lv_isub hx hb dX9_reads_182 ?_
                      refine jput (D := D) (ci := 9) (v := .int ((((10 : Int32) * (st24.1 0 5)) + v34) - (48 : Int32))) (ty := .int) (C := RX9) (T := TX9) (N := 43) (st2 := pU st35 0 5 ((((10 : Int32) * (st24.1 0 5)) + v34) - (48 : Int32))) hx hb hts hi_X9_reads_X9 tyX9 tyX9_ok nmX9 hown hK (mD hj) hI 0 (mg_0 am cI cZ st35) rfl 5 (by decide) f_4 (fun _ h9 => h9) rfl (by decide +kernel) rfl rfl (Nat.le_of_ble_eq_true rfl) (ms_0_5 am cI cZ st35 _) dX9_reads_183 (fun st36 est36 H locs hI => ?_)
                      replace hM := nm_at est36 hM
                      refine lv_aload_n hx hb dX9_reads_186 rfl (lv_at hl 0 rfl) ?_
                      refine lv_dup hx hb dX9_reads_187 rfl ?_
                      refine va_get (D := D) (ci := 9) (v := .int (st36.1 0 2)) (C := RX9) (T := TX9) (N := 43) hx hb hts hi_X9_reads_X9 hown hK hI.1 0 (mg_0 am cI cZ st36) rfl 2 (by decide) f_0 (fun _ h9 => h9) rfl dX9_reads_188 ?_
                      refine lv_iconst (v := (1 : Int32)) hx hb dX9_reads_191 (by decide) ?_
                      refine lv_iadd hx hb dX9_reads_192 ?_
                      refine jput (D := D) (ci := 9) (v := .int ((st36.1 0 2) + (1 : Int32))) (ty := .int) (C := RX9) (T := TX9) (N := 43) (st2 := pU st36 0 2 ((st36.1 0 2) + (1 : Int32))) hx hb hts hi_X9_reads_X9 tyX9 tyX9_ok nmX9 hown hK (mD hj) hI 0 (mg_0 am cI cZ st36) rfl 2 (by decide) f_0 (fun _ h9 => h9) rfl (by decide +kernel) rfl rfl (Nat.le_of_ble_eq_true rfl) (ms_0_2 am cI cZ st36 _) dX9_reads_193 (fun st37 est37 H locs hI => ?_)
                      replace hM := nm_at est37 hM
                      refine lv_goto (tgt := 133) hx hb dX9_reads_196 (by decide) ?_
                      have hz := Option.some.inj hM
                      subst hz
                      exact ih1 st37 _ _ _ hI (lv_sub hl [0, 1] rfl) hk1
                    · replace hM := if_f c33 hM
                      refine lv_aload_n hx hb dX9_reads_157 rfl (lv_at hl 0 rfl) ?_
                      refine va_get (D := D) (ci := 9) (v := .int (st24.1 0 5)) (C := RX9) (T := TX9) (N := 43) hx hb hts hi_X9_reads_X9 hown hK hI.1 0 (mg_0 am cI cZ st24) rfl 5 (by decide) f_4 (fun _ h9 => h9) rfl dX9_reads_158 ?_
                      refine lv_goto (tgt := 183) hx hb dX9_reads_161 (by decide) ?_
                      refine jput (D := D) (ci := 9) (v := .int (st24.1 0 5)) (ty := .int) (C := RX9) (T := TX9) (N := 43) (st2 := pU st24 0 5 (st24.1 0 5)) hx hb hts hi_X9_reads_X9 tyX9 tyX9_ok nmX9 hown hK (mD hj) hI 0 (mg_0 am cI cZ st24) rfl 5 (by decide) f_4 (fun _ h9 => h9) rfl (by decide +kernel) rfl rfl (Nat.le_of_ble_eq_true rfl) (ms_0_5 am cI cZ st24 _) dX9_reads_183 (fun st38 est38 H locs hI => ?_)
                      replace hM := nm_at est38 hM
                      refine lv_aload_n hx hb dX9_reads_186 rfl (lv_at hl 0 rfl) ?_
                      refine lv_dup hx hb dX9_reads_187 rfl ?_
                      refine va_get (D := D) (ci := 9) (v := .int (st38.1 0 2)) (C := RX9) (T := TX9) (N := 43) hx hb hts hi_X9_reads_X9 hown hK hI.1 0 (mg_0 am cI cZ st38) rfl 2 (by decide) f_0 (fun _ h9 => h9) rfl dX9_reads_188 ?_
                      refine lv_iconst (v := (1 : Int32)) hx hb dX9_reads_191 (by decide) ?_
                      refine lv_iadd hx hb dX9_reads_192 ?_
                      refine jput (D := D) (ci := 9) (v := .int ((st38.1 0 2) + (1 : Int32))) (ty := .int) (C := RX9) (T := TX9) (N := 43) (st2 := pU st38 0 2 ((st38.1 0 2) + (1 : Int32))) hx hb hts hi_X9_reads_X9 tyX9 tyX9_ok nmX9 hown hK (mD hj) hI 0 (mg_0 am cI cZ st38) rfl 2 (by decide) f_0 (fun _ h9 => h9) rfl (by decide +kernel) rfl rfl (Nat.le_of_ble_eq_true rfl) (ms_0_2 am cI cZ st38 _) dX9_reads_193 (fun st39 est39 H locs hI => ?_)
                      replace hM := nm_at est39 hM
                      refine lv_goto (tgt := 133) hx hb dX9_reads_196 (by decide) ?_
                      have hz := Option.some.inj hM
                      subst hz
                      exact ih1 st39 _ _ _ hI (lv_sub hl [0, 1] rfl) hk1
              exact lp1 N st19 _ _ _ hI (lv_sub hl [1, 0] rfl) hM
          · replace hM := if_f c11 hM
            have lp1 : ∀ (n : Nat) (st40 : PS) (H : Heap) (locs : List Loc) (ls : Array Slot), JI D (aA am 24) (mW am cI cZ) s.heap st40 H locs → lv_has ls 2 [(0, .ref (am 0)), (1, .int v6)] → iter (fun q => jm_X9_reads_L69 N v6 q) n st40 = some z0 → W p l e (headSpec wsX9_reads { frames := 2, cells := 0, slots := 0, locals := 42 }).room s m AV below meth c H locs 0 0 (MQ below (JQ D (aA am 24) (mW am cI cZ) (mTy cI cZ) none stZ) AV s 0 0 (aA am 24)) (F0 m 69 ls []) := by
              intro n
              induction n with
              | zero =>
                intro _ _ _ _ _ _ hM
                exact absurd hM (fun h => iter_zero h)
              | succ n ih1 =>
                intro st40 H locs ls hI hl hM
                obtain ⟨z1, hM, hk1⟩ := iter_succ hM
                replace hM : jm_X9_reads_L69 N v6 st40 = some z1 := hM
                unfold jm_X9_reads_L69 at hM
                refine lv_aload_n hx hb dX9_reads_69 rfl (lv_at hl 0 rfl) ?_
                refine lv_aload_n hx hb dX9_reads_70 rfl (lv_at hl 0 rfl) ?_
                refine va_get (D := D) (ci := 9) (v := .int (st40.1 0 2)) (C := RX9) (T := TX9) (N := 43) hx hb hts hi_X9_reads_X9 hown hK hI.1 0 (mg_0 am cI cZ st40) rfl 2 (by decide) f_0 (fun _ h9 => h9) rfl dX9_reads_71 ?_
                obtain ⟨v41, st42, hqv41, hM⟩ := bd_at hM
                refine jcallV (C := RX9) (As := [.int (st40.1 0 2)]) (rest := []) ⟨hx, hb, hml, hown, hts⟩ (jw_X9_byteAt D am cI cZ hj N hqv41) (cwV 1 hts gX9_reads_X9_byteAt rfl rfl rfl yd_X9_byteAt ⟨Nat.le_of_ble_eq_true rfl, Nat.le_of_ble_eq_true rfl⟩) hK hI 0 (mg_0 am cI cZ st40) rfl rfl hl.1 rfl (Nat.le_of_ble_eq_true rfl) dX9_reads_74 (fun H locs hI => ?_)
                refine W.eq (g2 := F0 m 77 ls [.int v41]) rfl ?_
                obtain ⟨v43, st44, hqv43, hM⟩ := bd_at hM
                refine jcallS (As := [.int v41]) (rest := []) ⟨hx, hb, hml, hown, hts⟩ (jw_X9_isLetter D am cI cZ hj N hqv43) (va_cwS 1 hts gX9_reads_X9_isLetter rfl rfl rfl yd_X9_isLetter ⟨Nat.le_of_ble_eq_true rfl, Nat.le_of_ble_eq_true rfl⟩) hK hI rfl hl.1 rfl (Nat.le_of_ble_eq_true rfl) dX9_reads_77 (fun H locs hI => ?_)
                refine W.eq (g2 := F0 m 80 ls [.int v43]) rfl ?_
                refine lv_if_eq (tgt := 96) hx hb dX9_reads_80 (by decide) (fun c45 => ?_) (fun c45 => ?_)
                · replace hM := if_t c45 hM
                  refine lv_aload_n hx hb dX9_reads_96 rfl (lv_at hl 0 rfl) ?_
                  refine lv_aload_n hx hb dX9_reads_97 rfl (lv_at hl 0 rfl) ?_
                  refine va_get (D := D) (ci := 9) (v := .int (st44.1 0 2)) (C := RX9) (T := TX9) (N := 43) hx hb hts hi_X9_reads_X9 hown hK hI.1 0 (mg_0 am cI cZ st44) rfl 2 (by decide) f_0 (fun _ h9 => h9) rfl dX9_reads_98 ?_
                  refine lv_aload_n hx hb dX9_reads_101 rfl (lv_at hl 0 rfl) ?_
                  refine va_get (D := D) (ci := 9) (v := .int (st44.1 0 3)) (C := RX9) (T := TX9) (N := 43) hx hb hts hi_X9_reads_X9 hown hK hI.1 0 (mg_0 am cI cZ st44) rfl 3 (by decide) f_1 (fun _ h9 => h9) rfl dX9_reads_102 ?_
                  refine lv_isub hx hb dX9_reads_105 ?_
                  refine lv_iconst (v := (1 : Int32)) hx hb dX9_reads_106 (by decide) ?_
                  refine lv_icmp_ne (tgt := 114) hx hb dX9_reads_107 (by decide) (fun c46 => ?_) (fun c46 => ?_)
                  · replace hM := if_f c46 hM
                    refine lv_iconst (v := (0 : Int32)) hx hb dX9_reads_114 (by decide) ?_
                    refine jput (D := D) (ci := 9) (v := .int (0 : Int32)) (ty := .int) (C := RX9) (T := TX9) (N := 43) (st2 := pU st44 0 4 (0 : Int32)) hx hb hts hi_X9_reads_X9 tyX9 tyX9_ok nmX9 hown hK (mD hj) hI 0 (mg_0 am cI cZ st44) rfl 4 (by decide) f_3 (fun _ h9 => h9) rfl (by decide +kernel) rfl rfl (Nat.le_of_ble_eq_true rfl) (ms_0_4 am cI cZ st44 _) dX9_reads_115 (fun st47 est47 H locs hI => ?_)
                    replace hM := nm_at est47 hM
                    refine lv_goto (tgt := 265) hx hb dX9_reads_118 (by decide) ?_
                    have hz := Option.some.inj hM
                    subst hz
                    have hz := kn_r hk1
                    subst hz
                    have hz := kn_r hk0
                    exact W.vret hx hb hr (fun t ht hW => jq_v hK hI hz ht hW) hI.2.2.2 dX9_reads_265
                  · replace hM := if_t c46 hM
                    refine lv_iload_n hx hb dX9_reads_110 rfl (lv_at hl 1 rfl) ?_
                    refine lv_goto (tgt := 115) hx hb dX9_reads_111 (by decide) ?_
                    refine jput (D := D) (ci := 9) (v := .int v6) (ty := .int) (C := RX9) (T := TX9) (N := 43) (st2 := pU st44 0 4 v6) hx hb hts hi_X9_reads_X9 tyX9 tyX9_ok nmX9 hown hK (mD hj) hI 0 (mg_0 am cI cZ st44) rfl 4 (by decide) f_3 (fun _ h9 => h9) rfl (by decide +kernel) rfl rfl (Nat.le_of_ble_eq_true rfl) (ms_0_4 am cI cZ st44 _) dX9_reads_115 (fun st48 est48 H locs hI => ?_)
                    replace hM := nm_at est48 hM
                    refine lv_goto (tgt := 265) hx hb dX9_reads_118 (by decide) ?_
                    have hz := Option.some.inj hM
                    subst hz
                    have hz := kn_r hk1
                    subst hz
                    have hz := kn_r hk0
                    exact W.vret hx hb hr (fun t ht hW => jq_v hK hI hz ht hW) hI.2.2.2 dX9_reads_265
                · replace hM := if_f c45 hM
                  refine lv_aload_n hx hb dX9_reads_83 rfl (lv_at hl 0 rfl) ?_
                  refine lv_dup hx hb dX9_reads_84 rfl ?_
                  refine va_get (D := D) (ci := 9) (v := .int (st44.1 0 2)) (C := RX9) (T := TX9) (N := 43) hx hb hts hi_X9_reads_X9 hown hK hI.1 0 (mg_0 am cI cZ st44) rfl 2 (by decide) f_0 (fun _ h9 => h9) rfl dX9_reads_85 ?_
                  refine lv_iconst (v := (1 : Int32)) hx hb dX9_reads_88 (by decide) ?_
                  refine lv_iadd hx hb dX9_reads_89 ?_
                  refine jput (D := D) (ci := 9) (v := .int ((st44.1 0 2) + (1 : Int32))) (ty := .int) (C := RX9) (T := TX9) (N := 43) (st2 := pU st44 0 2 ((st44.1 0 2) + (1 : Int32))) hx hb hts hi_X9_reads_X9 tyX9 tyX9_ok nmX9 hown hK (mD hj) hI 0 (mg_0 am cI cZ st44) rfl 2 (by decide) f_0 (fun _ h9 => h9) rfl (by decide +kernel) rfl rfl (Nat.le_of_ble_eq_true rfl) (ms_0_2 am cI cZ st44 _) dX9_reads_90 (fun st49 est49 H locs hI => ?_)
                  replace hM := nm_at est49 hM
                  refine lv_goto (tgt := 69) hx hb dX9_reads_93 (by decide) ?_
                  have hz := Option.some.inj hM
                  subst hz
                  exact ih1 st49 _ _ _ hI (lv_sub hl [0, 1] rfl) hk1
            exact lp1 N st10 _ _ _ hI (lv_sub hl [1, 0] rfl) hM
        · replace hM := if_t c8 hM
          refine lv_aload_n hx hb dX9_reads_54 rfl (lv_at hl 1 rfl) ?_
          refine lv_iconst (v := (-1 : Int32)) hx hb dX9_reads_55 (by decide) ?_
          refine jput (D := D) (ci := 9) (v := .int (-1 : Int32)) (ty := .int) (C := RX9) (T := TX9) (N := 43) (st2 := pU st7 0 4 (-1 : Int32)) hx hb hts hi_X9_reads_X9 tyX9 tyX9_ok nmX9 hown hK (mD hj) hI 0 (mg_0 am cI cZ st7) rfl 4 (by decide) f_3 (fun _ h9 => h9) rfl (by decide +kernel) rfl rfl (Nat.le_of_ble_eq_true rfl) (ms_0_4 am cI cZ st7 _) dX9_reads_56 (fun st50 est50 H locs hI => ?_)
          replace hM := nm_at est50 hM
          refine lv_goto (tgt := 265) hx hb dX9_reads_59 (by decide) ?_
          have hz := Option.some.inj hM
          subst hz
          have hz := kn_r hk0
          exact W.vret hx hb hr (fun t ht hW => jq_v hK hI hz ht hW) hI.2.2.2 dX9_reads_265
      · replace hM := if_t c4 hM
        refine lv_aload_n hx hb dX9_reads_13 rfl (lv_at hl 0 rfl) ?_
        refine lv_dup hx hb dX9_reads_14 rfl ?_
        refine va_get (D := D) (ci := 9) (v := .int (st3.1 0 2)) (C := RX9) (T := TX9) (N := 43) hx hb hts hi_X9_reads_X9 hown hK hI.1 0 (mg_0 am cI cZ st3) rfl 2 (by decide) f_0 (fun _ h9 => h9) rfl dX9_reads_15 ?_
        refine lv_iconst (v := (1 : Int32)) hx hb dX9_reads_18 (by decide) ?_
        refine lv_iadd hx hb dX9_reads_19 ?_
        refine jput (D := D) (ci := 9) (v := .int ((st3.1 0 2) + (1 : Int32))) (ty := .int) (C := RX9) (T := TX9) (N := 43) (st2 := pU st3 0 2 ((st3.1 0 2) + (1 : Int32))) hx hb hts hi_X9_reads_X9 tyX9 tyX9_ok nmX9 hown hK (mD hj) hI 0 (mg_0 am cI cZ st3) rfl 2 (by decide) f_0 (fun _ h9 => h9) rfl (by decide +kernel) rfl rfl (Nat.le_of_ble_eq_true rfl) (ms_0_2 am cI cZ st3 _) dX9_reads_20 (fun st51 est51 H locs hI => ?_)
        replace hM := nm_at est51 hM
        refine lv_goto (tgt := 0) hx hb dX9_reads_23 (by decide) ?_
        have hz := Option.some.inj hM
        subst hz
        exact ih0 st51 _ _ _ hI (lv_sub hl [0] rfl) hk0
  exact lp0 N st _ _ _ hI (lv_sub hl [0] rfl) hM
set_option maxRecDepth 20000 in
theorem hi_X9_told_X9 : ∀ w ∈ wsX90, w ∈ wsX9_told := by decide +kernel
set_option maxHeartbeats 4000000 in
set_option maxRecDepth 100000 in
theorem jw_X9_told {l : Launch} (D : va_G) (am : Nat → Nat) (cI cZ : ClassId) (hj : aJ am 24) (N : Nat) {r1 : Nat} {x2 : Int32} {x3 : Int32} {x4 : Int32} (h1 : mk_To r1) {st stZ : PS} {rZ : Int32} (hM : jm_X9_told N r1 x2 x3 x4 st = some (rZ, stZ)) : Met l yX9_told wsX9_told ({ frames := 3, cells := 0, slots := 0, locals := 63 }) (va_Pc [.ref (am 0), .ref (am r1), .int x2, .int x3, .int x4] (JH D (mW am cI cZ) (mTy cI cZ) st)) (JQ D (aA am 24) (mW am cI cZ) (mTy cI cZ) (some (.int rZ)) stZ) 0 0 (aA am 24) := by
  refine jStart (cc := cX9_told) (maxL := 5) (ret := (some .boolean)) [.ref (am 0), .ref (am r1), .int x2, .int x3, .int x4] (by decide) rfl (Nat.le_of_ble_eq_true rfl) (fun p e s m below meth c ls hx hb hr hlocks hts hown hml hK hI hl => ?_)
  have hown : s.vm.findClass RX9 = some m.cls := hown
  replace hl : lv_has ls 5 [(0, .ref (am 0)), (1, .ref (am r1)), (2, .int x2), (3, .int x3), (4, .int x4)] := hl
  generalize hAV : ([.ref (am 0), .ref (am r1), .int x2, .int x3, .int x4] : List Value).toArray = AV at hts ⊢
  have f_0 := hts (.fieldLink RX9 98 "PuppetBarModel" "token" "I") (by decide +kernel)
  have f_1 := hts (.fieldLink RX9 108 "PuppetBarModel" "number" "I") (by decide +kernel)
  unfold jm_X9_told at hM
  refine lv_aload_n hx hb dX9_told_0 rfl (lv_at hl 0 rfl) ?_
  obtain ⟨v1, st2, hqv1, hM⟩ := bd_at hM
  refine jcallV (C := RX9) (As := []) (rest := []) ⟨hx, hb, hml, hown, hts⟩ (jw_X9_reads D am cI cZ hj N hqv1) (cwV 0 hts gX9_told_X9_reads rfl rfl rfl yd_X9_reads ⟨Nat.le_of_ble_eq_true rfl, Nat.le_of_ble_eq_true rfl⟩) hK hI 0 (mg_0 am cI cZ st) rfl rfl hl.1 rfl (Nat.le_of_ble_eq_true rfl) dX9_told_1 (fun H locs hI => ?_)
  refine W.eq (g2 := F0 m 4 ls []) rfl ?_
  refine lv_aload_n hx hb dX9_told_4 rfl (lv_at hl 0 rfl) ?_
  refine va_get (D := D) (ci := 9) (v := .int (st2.1 0 4)) (C := RX9) (T := TX9) (N := 43) hx hb hts hi_X9_told_X9 hown hK hI.1 0 (mg_0 am cI cZ st2) rfl 4 (by decide) f_0 (fun _ h9 => h9) rfl dX9_told_5 ?_
  refine lv_bipush (v := (48 : Int32)) hx hb dX9_told_8 (by decide) ?_
  refine lv_icmp_ne (tgt := 26) hx hb dX9_told_10 (by decide) (fun c3 => ?_) (fun c3 => ?_)
  · replace hM := if_f c3 hM
    refine lv_iconst (v := (0 : Int32)) hx hb dX9_told_26 (by decide) ?_
    have hz := Option.some.inj hM
    exact W.zret hx hb hr rfl (fun t ht hW => jq_i hK hI hz ht hW) hI.2.2.2 dX9_told_27
  · replace hM := if_t c3 hM
    refine lv_aload_n hx hb dX9_told_13 rfl (lv_at hl 0 rfl) ?_
    refine va_get (D := D) (ci := 9) (v := .int (st2.1 0 5)) (C := RX9) (T := TX9) (N := 43) hx hb hts hi_X9_told_X9 hown hK hI.1 0 (mg_0 am cI cZ st2) rfl 5 (by decide) f_1 (fun _ h9 => h9) rfl dX9_told_14 ?_
    refine lv_iload_n hx hb dX9_told_17 rfl (lv_at hl 3 rfl) ?_
    refine lv_iload hx hb dX9_told_18 (lv_at hl 4 rfl) ?_
    obtain ⟨v4, st5, hqv4, hM⟩ := bd_at hM
    refine jcallS (As := [.int (st2.1 0 5), .int x3, .int x4]) (rest := []) ⟨hx, hb, hml, hown, hts⟩ (jw_X9_in D am cI cZ hj N hqv4) (va_cwS 3 hts gX9_told_X9_in rfl rfl rfl yd_X9_in ⟨Nat.le_of_ble_eq_true rfl, Nat.le_of_ble_eq_true rfl⟩) hK hI rfl hl.1 rfl (Nat.le_of_ble_eq_true rfl) dX9_told_20 (fun H locs hI => ?_)
    refine W.eq (g2 := F0 m 23 ls [.int v4]) rfl ?_
    refine lv_if_ne (tgt := 28) hx hb dX9_told_23 (by decide) (fun c6 => ?_) (fun c6 => ?_)
    · replace hM := if_f c6 hM
      refine lv_aload_n hx hb dX9_told_28 rfl (lv_at hl 1 rfl) ?_
      refine lv_iload_n hx hb dX9_told_29 rfl (lv_at hl 2 rfl) ?_
      refine lv_aload_n hx hb dX9_told_30 rfl (lv_at hl 0 rfl) ?_
      refine va_get (D := D) (ci := 9) (v := .int (st5.1 0 5)) (C := RX9) (T := TX9) (N := 43) hx hb hts hi_X9_told_X9 hown hK hI.1 0 (mg_0 am cI cZ st5) rfl 5 (by decide) f_1 (fun _ h9 => h9) rfl dX9_told_31 ?_
      obtain ⟨g8, hM⟩ := gd_at hM
      refine jiast (x := (st5.1 0 5)) (st2 := pU st5 r1 (x2).toNatClampNeg ((st5.1 0 5))) hx hb hK (mD hj) hI r1 0 (mg_To am cI cZ st5 h1) rfl (inB_vp g8) (ms_To am cI cZ st5 h1 _) dX9_told_34 (fun st7 est7 H locs hI => ?_)
      replace hM := nm_at est7 hM
      refine lv_iconst (v := (1 : Int32)) hx hb dX9_told_35 (by decide) ?_
      have hz := Option.some.inj hM
      exact W.zret hx hb hr rfl (fun t ht hW => jq_i hK hI hz ht hW) hI.2.2.2 dX9_told_36
    · replace hM := if_t c6 hM
      refine lv_iconst (v := (0 : Int32)) hx hb dX9_told_26 (by decide) ?_
      have hz := Option.some.inj hM
      exact W.zret hx hb hr rfl (fun t ht hW => jq_i hK hI hz ht hW) hI.2.2.2 dX9_told_27
set_option maxRecDepth 20000 in
theorem hi_X9_ends_X9 : ∀ w ∈ wsX90, w ∈ wsX9_ends := by decide +kernel
set_option maxHeartbeats 4000000 in
set_option maxRecDepth 100000 in
theorem jw_X9_ends {l : Launch} (D : va_G) (am : Nat → Nat) (cI cZ : ClassId) (hj : aJ am 24) (N : Nat) {st stZ : PS} {rZ : Int32} (hM : jm_X9_ends N st = some (rZ, stZ)) : Met l yX9_ends wsX9_ends ({ frames := 3, cells := 0, slots := 0, locals := 63 }) (va_Pc [.ref (am 0)] (JH D (mW am cI cZ) (mTy cI cZ) st)) (JQ D (aA am 24) (mW am cI cZ) (mTy cI cZ) (some (.int rZ)) stZ) 0 0 (aA am 24) := by
  refine jStart (cc := cX9_ends) (maxL := 1) (ret := (some .boolean)) [.ref (am 0)] (by decide) rfl (Nat.le_of_ble_eq_true rfl) (fun p e s m below meth c ls hx hb hr hlocks hts hown hml hK hI hl => ?_)
  have hown : s.vm.findClass RX9 = some m.cls := hown
  replace hl : lv_has ls 1 [(0, .ref (am 0))] := hl
  generalize hAV : ([.ref (am 0)] : List Value).toArray = AV at hts ⊢
  have f_0 := hts (.fieldLink RX9 98 "PuppetBarModel" "token" "I") (by decide +kernel)
  unfold jm_X9_ends at hM
  refine lv_aload_n hx hb dX9_ends_0 rfl (lv_at hl 0 rfl) ?_
  obtain ⟨v1, st2, hqv1, hM⟩ := bd_at hM
  refine jcallV (C := RX9) (As := []) (rest := []) ⟨hx, hb, hml, hown, hts⟩ (jw_X9_reads D am cI cZ hj N hqv1) (cwV 0 hts gX9_ends_X9_reads rfl rfl rfl yd_X9_reads ⟨Nat.le_of_ble_eq_true rfl, Nat.le_of_ble_eq_true rfl⟩) hK hI 0 (mg_0 am cI cZ st) rfl rfl hl.1 rfl (Nat.le_of_ble_eq_true rfl) dX9_ends_1 (fun H locs hI => ?_)
  refine W.eq (g2 := F0 m 4 ls []) rfl ?_
  refine lv_aload_n hx hb dX9_ends_4 rfl (lv_at hl 0 rfl) ?_
  refine va_get (D := D) (ci := 9) (v := .int (st2.1 0 4)) (C := RX9) (T := TX9) (N := 43) hx hb hts hi_X9_ends_X9 hown hK hI.1 0 (mg_0 am cI cZ st2) rfl 4 (by decide) f_0 (fun _ h9 => h9) rfl dX9_ends_5 ?_
  refine lv_bipush (v := (59 : Int32)) hx hb dX9_ends_8 (by decide) ?_
  refine lv_icmp_ne (tgt := 17) hx hb dX9_ends_10 (by decide) (fun c3 => ?_) (fun c3 => ?_)
  · replace hM := if_f c3 hM
    refine lv_iconst (v := (0 : Int32)) hx hb dX9_ends_17 (by decide) ?_
    have hz := Option.some.inj hM
    exact W.zret hx hb hr rfl (fun t ht hW => jq_i hK hI hz ht hW) hI.2.2.2 dX9_ends_18
  · replace hM := if_t c3 hM
    refine lv_iconst (v := (1 : Int32)) hx hb dX9_ends_13 (by decide) ?_
    refine lv_goto (tgt := 18) hx hb dX9_ends_14 (by decide) ?_
    have hz := Option.some.inj hM
    exact W.zret hx hb hr rfl (fun t ht hW => jq_i hK hI hz ht hW) hI.2.2.2 dX9_ends_18
set_option maxRecDepth 20000 in
theorem hi_X9_readsLimb_X9 : ∀ w ∈ wsX90, w ∈ wsX9_readsLimb := by decide +kernel
set_option maxHeartbeats 4000000 in
set_option maxRecDepth 100000 in
theorem jw_X9_readsLimb {l : Launch} (D : va_G) (am : Nat → Nat) (cI cZ : ClassId) (hj : aJ am 24) (N : Nat) {st stZ : PS} {rZ : Int32} (hM : jm_X9_readsLimb N st = some (rZ, stZ)) : Met l yX9_readsLimb wsX9_readsLimb ({ frames := 4, cells := 0, slots := 0, locals := 87 }) (va_Pc [.ref (am 0)] (JH D (mW am cI cZ) (mTy cI cZ) st)) (JQ D (aA am 24) (mW am cI cZ) (mTy cI cZ) (some (.int rZ)) stZ) 0 0 (aA am 24) := by
  refine jStart (cc := cX9_readsLimb) (maxL := 3) (ret := (some .boolean)) [.ref (am 0)] (by decide) rfl (Nat.le_of_ble_eq_true rfl) (fun p e s m below meth c ls hx hb hr hlocks hts hown hml hK hI hl => ?_)
  have hown : s.vm.findClass RX9 = some m.cls := hown
  replace hl : lv_has ls 3 [(0, .ref (am 0))] := hl
  generalize hAV : ([.ref (am 0)] : List Value).toArray = AV at hts ⊢
  have f_0 := hts (.fieldLink RX9 114 "PuppetBarModel" "readLimbs" "I") (by decide +kernel)
  have f_1 := hts (.fieldLink RX9 13 "PuppetBarModel" "readLimb" "[I") (by decide +kernel)
  unfold jm_X9_readsLimb at hM
  refine lv_aload_n hx hb dX9_readsLimb_0 rfl (lv_at hl 0 rfl) ?_
  refine va_get (D := D) (ci := 9) (v := .int (st.1 0 6)) (C := RX9) (T := TX9) (N := 43) hx hb hts hi_X9_readsLimb_X9 hown hK hI.1 0 (mg_0 am cI cZ st) rfl 6 (by decide) f_0 (fun _ h9 => h9) rfl dX9_readsLimb_1 ?_
  refine lv_bipush (v := (8 : Int32)) hx hb dX9_readsLimb_4 (by decide) ?_
  refine lv_icmp_ne (tgt := 11) hx hb dX9_readsLimb_6 (by decide) (fun c1 => ?_) (fun c1 => ?_)
  · replace hM := if_f c1 hM
    refine lv_iconst (v := (3 : Int32)) hx hb dX9_readsLimb_11 (by decide) ?_
    refine lv_aload_n hx hb dX9_readsLimb_12 rfl (lv_at hl 0 rfl) ?_
    refine va_get (D := D) (ci := 9) (v := .int (st.1 0 6)) (C := RX9) (T := TX9) (N := 43) hx hb hts hi_X9_readsLimb_X9 hown hK hI.1 0 (mg_0 am cI cZ st) rfl 6 (by decide) f_0 (fun _ h9 => h9) rfl dX9_readsLimb_13 ?_
    refine lv_imul hx hb dX9_readsLimb_16 ?_
    refine lv_istore_n (lv' := [(1, .int ((3 : Int32) * (st.1 0 6))), (0, .ref (am 0))]) hx hb dX9_readsLimb_17 rfl hl (by decide) rfl (fun ls hl => ?_)
    refine lv_aload_n hx hb dX9_readsLimb_18 rfl (lv_at hl 1 rfl) ?_
    refine va_get (D := D) (ci := 9) (v := .int (st.1 0 6)) (C := RX9) (T := TX9) (N := 43) hx hb hts hi_X9_readsLimb_X9 hown hK hI.1 0 (mg_0 am cI cZ st) rfl 6 (by decide) f_0 (fun _ h9 => h9) rfl dX9_readsLimb_19 ?_
    refine lv_if_ne (tgt := 29) hx hb dX9_readsLimb_22 (by decide) (fun c2 => ?_) (fun c2 => ?_)
    · replace hM := if_f c2 hM
      refine lv_iconst (v := (0 : Int32)) hx hb dX9_readsLimb_29 (by decide) ?_
      refine lv_istore_n (lv' := [(2, .int (0 : Int32)), (1, .int ((3 : Int32) * (st.1 0 6))), (0, .ref (am 0))]) hx hb dX9_readsLimb_30 rfl hl (by decide) rfl (fun ls hl => ?_)
      refine lv_aload_n hx hb dX9_readsLimb_31 rfl (lv_at hl 2 rfl) ?_
      refine lv_aload_n hx hb dX9_readsLimb_32 rfl (lv_at hl 2 rfl) ?_
      refine va_get (D := D) (ci := 9) (v := .ref (am 2)) (C := RX9) (T := TX9) (N := 43) hx hb hts hi_X9_readsLimb_X9 hown hK hI.1 0 (mg_0 am cI cZ st) rfl 14 (by decide) f_1 (fun _ h9 => h9) rfl dX9_readsLimb_33 ?_
      refine lv_iload_n hx hb dX9_readsLimb_36 rfl (lv_at hl 1 rfl) ?_
      refine lv_iconst (v := (0 : Int32)) hx hb dX9_readsLimb_37 (by decide) ?_
      refine lv_iload_n hx hb dX9_readsLimb_38 rfl (lv_at hl 0 rfl) ?_
      refine lv_if_eq (tgt := 46) hx hb dX9_readsLimb_39 (by decide) (fun _ => ?_) (fun c9 => absurd c9 (by decide))
      refine lv_aload_n hx hb dX9_readsLimb_46 rfl (lv_at hl 2 rfl) ?_
      refine va_get (D := D) (ci := 9) (v := .int (st.1 0 6)) (C := RX9) (T := TX9) (N := 43) hx hb hts hi_X9_readsLimb_X9 hown hK hI.1 0 (mg_0 am cI cZ st) rfl 6 (by decide) f_0 (fun _ h9 => h9) rfl dX9_readsLimb_47 ?_
      refine lv_iconst (v := (1 : Int32)) hx hb dX9_readsLimb_50 (by decide) ?_
      refine lv_isub hx hb dX9_readsLimb_51 ?_
      obtain ⟨v3, st4, hqv3, hM⟩ := bd_at hM
      refine jcallV (C := RX9) (As := [.ref (am 2), .int ((3 : Int32) * (st.1 0 6)), .int (0 : Int32), .int ((st.1 0 6) - (1 : Int32))]) (rest := []) ⟨hx, hb, hml, hown, hts⟩ (jw_X9_told D am cI cZ hj N (show mk_To 2 by decide) hqv3) (cwV 4 hts gX9_readsLimb_X9_told rfl rfl rfl yd_X9_told ⟨Nat.le_of_ble_eq_true rfl, Nat.le_of_ble_eq_true rfl⟩) hK hI 0 (mg_0 am cI cZ st) rfl rfl hl.1 rfl (Nat.le_of_ble_eq_true rfl) dX9_readsLimb_52 (fun H locs hI => ?_)
      refine W.eq (g2 := F0 m 55 ls [.int v3]) rfl ?_
      refine lv_if_eq (tgt := 108) hx hb dX9_readsLimb_55 (by decide) (fun c5 => ?_) (fun c5 => ?_)
      · replace hM := if_t c5 hM
        refine lv_iconst (v := (0 : Int32)) hx hb dX9_readsLimb_108 (by decide) ?_
        have hz := Option.some.inj hM
        exact W.zret hx hb hr rfl (fun t ht hW => jq_i hK hI hz ht hW) hI.2.2.2 dX9_readsLimb_109
      · replace hM := if_f c5 hM
        refine lv_aload_n hx hb dX9_readsLimb_58 rfl (lv_at hl 2 rfl) ?_
        refine lv_aload_n hx hb dX9_readsLimb_59 rfl (lv_at hl 2 rfl) ?_
        refine va_get (D := D) (ci := 9) (v := .ref (am 2)) (C := RX9) (T := TX9) (N := 43) hx hb hts hi_X9_readsLimb_X9 hown hK hI.1 0 (mg_0 am cI cZ st4) rfl 14 (by decide) f_1 (fun _ h9 => h9) rfl dX9_readsLimb_60 ?_
        refine lv_iload_n hx hb dX9_readsLimb_63 rfl (lv_at hl 1 rfl) ?_
        refine lv_iconst (v := (1 : Int32)) hx hb dX9_readsLimb_64 (by decide) ?_
        refine lv_iadd hx hb dX9_readsLimb_65 ?_
        refine lv_iload_n hx hb dX9_readsLimb_66 rfl (lv_at hl 0 rfl) ?_
        refine lv_if_eq (tgt := 74) hx hb dX9_readsLimb_67 (by decide) (fun _ => ?_) (fun c9 => absurd c9 (by decide))
        refine lv_iconst (v := (1 : Int32)) hx hb dX9_readsLimb_74 (by decide) ?_
        refine lv_iload_n hx hb dX9_readsLimb_75 rfl (lv_at hl 0 rfl) ?_
        refine lv_if_eq (tgt := 83) hx hb dX9_readsLimb_76 (by decide) (fun _ => ?_) (fun c9 => absurd c9 (by decide))
        refine lv_bipush (v := (9 : Int32)) hx hb dX9_readsLimb_83 (by decide) ?_
        obtain ⟨v6, st7, hqv6, hM⟩ := bd_at hM
        refine jcallV (C := RX9) (As := [.ref (am 2), .int (((3 : Int32) * (st.1 0 6)) + (1 : Int32)), .int (1 : Int32), .int (9 : Int32)]) (rest := []) ⟨hx, hb, hml, hown, hts⟩ (jw_X9_told D am cI cZ hj N (show mk_To 2 by decide) hqv6) (cwV 4 hts gX9_readsLimb_X9_told rfl rfl rfl yd_X9_told ⟨Nat.le_of_ble_eq_true rfl, Nat.le_of_ble_eq_true rfl⟩) hK hI 0 (mg_0 am cI cZ st4) rfl rfl hl.1 rfl (Nat.le_of_ble_eq_true rfl) dX9_readsLimb_85 (fun H locs hI => ?_)
        refine W.eq (g2 := F0 m 88 ls [.int v6]) rfl ?_
        refine lv_if_eq (tgt := 108) hx hb dX9_readsLimb_88 (by decide) (fun c8 => ?_) (fun c8 => ?_)
        · replace hM := if_t c8 hM
          refine lv_iconst (v := (0 : Int32)) hx hb dX9_readsLimb_108 (by decide) ?_
          have hz := Option.some.inj hM
          exact W.zret hx hb hr rfl (fun t ht hW => jq_i hK hI hz ht hW) hI.2.2.2 dX9_readsLimb_109
        · replace hM := if_f c8 hM
          refine lv_aload_n hx hb dX9_readsLimb_91 rfl (lv_at hl 2 rfl) ?_
          refine lv_aload_n hx hb dX9_readsLimb_92 rfl (lv_at hl 2 rfl) ?_
          refine va_get (D := D) (ci := 9) (v := .ref (am 2)) (C := RX9) (T := TX9) (N := 43) hx hb hts hi_X9_readsLimb_X9 hown hK hI.1 0 (mg_0 am cI cZ st7) rfl 14 (by decide) f_1 (fun _ h9 => h9) rfl dX9_readsLimb_93 ?_
          refine lv_iload_n hx hb dX9_readsLimb_96 rfl (lv_at hl 1 rfl) ?_
          refine lv_iconst (v := (2 : Int32)) hx hb dX9_readsLimb_97 (by decide) ?_
          refine lv_iadd hx hb dX9_readsLimb_98 ?_
          refine lv_iconst (v := (1 : Int32)) hx hb dX9_readsLimb_99 (by decide) ?_
          refine lv_bipush (v := (9 : Int32)) hx hb dX9_readsLimb_100 (by decide) ?_
          obtain ⟨v9, st10, hqv9, hM⟩ := bd_at hM
          refine jcallV (C := RX9) (As := [.ref (am 2), .int (((3 : Int32) * (st.1 0 6)) + (2 : Int32)), .int (1 : Int32), .int (9 : Int32)]) (rest := []) ⟨hx, hb, hml, hown, hts⟩ (jw_X9_told D am cI cZ hj N (show mk_To 2 by decide) hqv9) (cwV 4 hts gX9_readsLimb_X9_told rfl rfl rfl yd_X9_told ⟨Nat.le_of_ble_eq_true rfl, Nat.le_of_ble_eq_true rfl⟩) hK hI 0 (mg_0 am cI cZ st7) rfl rfl hl.1 rfl (Nat.le_of_ble_eq_true rfl) dX9_readsLimb_102 (fun H locs hI => ?_)
          refine W.eq (g2 := F0 m 105 ls [.int v9]) rfl ?_
          refine lv_if_ne (tgt := 110) hx hb dX9_readsLimb_105 (by decide) (fun c11 => ?_) (fun c11 => ?_)
          · replace hM := if_f c11 hM
            refine lv_aload_n hx hb dX9_readsLimb_110 rfl (lv_at hl 2 rfl) ?_
            refine lv_dup hx hb dX9_readsLimb_111 rfl ?_
            refine va_get (D := D) (ci := 9) (v := .int (st10.1 0 6)) (C := RX9) (T := TX9) (N := 43) hx hb hts hi_X9_readsLimb_X9 hown hK hI.1 0 (mg_0 am cI cZ st10) rfl 6 (by decide) f_0 (fun _ h9 => h9) rfl dX9_readsLimb_112 ?_
            refine lv_iconst (v := (1 : Int32)) hx hb dX9_readsLimb_115 (by decide) ?_
            refine lv_iadd hx hb dX9_readsLimb_116 ?_
            refine jput (D := D) (ci := 9) (v := .int ((st10.1 0 6) + (1 : Int32))) (ty := .int) (C := RX9) (T := TX9) (N := 43) (st2 := pU st10 0 6 ((st10.1 0 6) + (1 : Int32))) hx hb hts hi_X9_readsLimb_X9 tyX9 tyX9_ok nmX9 hown hK (mD hj) hI 0 (mg_0 am cI cZ st10) rfl 6 (by decide) f_0 (fun _ h9 => h9) rfl (by decide +kernel) rfl rfl (Nat.le_of_ble_eq_true rfl) (ms_0_6 am cI cZ st10 _) dX9_readsLimb_117 (fun st12 est12 H locs hI => ?_)
            replace hM := nm_at est12 hM
            refine lv_aload_n hx hb dX9_readsLimb_120 rfl (lv_at hl 2 rfl) ?_
            obtain ⟨v13, st14, hqv13, hM⟩ := bd_at hM
            refine jcallV (C := RX9) (As := []) (rest := []) ⟨hx, hb, hml, hown, hts⟩ (jw_X9_ends D am cI cZ hj N hqv13) (cwV 0 hts gX9_readsLimb_X9_ends rfl rfl rfl yd_X9_ends ⟨Nat.le_of_ble_eq_true rfl, Nat.le_of_ble_eq_true rfl⟩) hK hI 0 (mg_0 am cI cZ st12) rfl rfl hl.1 rfl (Nat.le_of_ble_eq_true rfl) dX9_readsLimb_121 (fun H locs hI => ?_)
            refine W.eq (g2 := F0 m 124 ls [.int v13]) rfl ?_
            obtain ⟨g15, hM⟩ := gd_at hM
            have hz := Option.some.inj hM
            exact W.zret hx hb hr (isZ_n g15) (fun t ht hW => jq_i hK hI hz ht hW) hI.2.2.2 dX9_readsLimb_124
          · replace hM := if_t c11 hM
            refine lv_iconst (v := (0 : Int32)) hx hb dX9_readsLimb_108 (by decide) ?_
            have hz := Option.some.inj hM
            exact W.zret hx hb hr rfl (fun t ht hW => jq_i hK hI hz ht hW) hI.2.2.2 dX9_readsLimb_109
    · replace hM := if_t c2 hM
      refine lv_iconst (v := (1 : Int32)) hx hb dX9_readsLimb_25 (by decide) ?_
      refine lv_goto (tgt := 30) hx hb dX9_readsLimb_26 (by decide) ?_
      refine lv_istore_n (lv' := [(2, .int (1 : Int32)), (1, .int ((3 : Int32) * (st.1 0 6))), (0, .ref (am 0))]) hx hb dX9_readsLimb_30 rfl hl (by decide) rfl (fun ls hl => ?_)
      refine lv_aload_n hx hb dX9_readsLimb_31 rfl (lv_at hl 2 rfl) ?_
      refine lv_aload_n hx hb dX9_readsLimb_32 rfl (lv_at hl 2 rfl) ?_
      refine va_get (D := D) (ci := 9) (v := .ref (am 2)) (C := RX9) (T := TX9) (N := 43) hx hb hts hi_X9_readsLimb_X9 hown hK hI.1 0 (mg_0 am cI cZ st) rfl 14 (by decide) f_1 (fun _ h9 => h9) rfl dX9_readsLimb_33 ?_
      refine lv_iload_n hx hb dX9_readsLimb_36 rfl (lv_at hl 1 rfl) ?_
      refine lv_iconst (v := (0 : Int32)) hx hb dX9_readsLimb_37 (by decide) ?_
      refine lv_iload_n hx hb dX9_readsLimb_38 rfl (lv_at hl 0 rfl) ?_
      refine lv_if_eq (tgt := 46) hx hb dX9_readsLimb_39 (by decide) (fun c9 => absurd c9 (by decide)) (fun _ => ?_)
      refine lv_iconst (v := (0 : Int32)) hx hb dX9_readsLimb_42 (by decide) ?_
      refine lv_goto (tgt := 52) hx hb dX9_readsLimb_43 (by decide) ?_
      obtain ⟨v16, st17, hqv16, hM⟩ := bd_at hM
      refine jcallV (C := RX9) (As := [.ref (am 2), .int ((3 : Int32) * (st.1 0 6)), .int (0 : Int32), .int (0 : Int32)]) (rest := []) ⟨hx, hb, hml, hown, hts⟩ (jw_X9_told D am cI cZ hj N (show mk_To 2 by decide) hqv16) (cwV 4 hts gX9_readsLimb_X9_told rfl rfl rfl yd_X9_told ⟨Nat.le_of_ble_eq_true rfl, Nat.le_of_ble_eq_true rfl⟩) hK hI 0 (mg_0 am cI cZ st) rfl rfl hl.1 rfl (Nat.le_of_ble_eq_true rfl) dX9_readsLimb_52 (fun H locs hI => ?_)
      refine W.eq (g2 := F0 m 55 ls [.int v16]) rfl ?_
      refine lv_if_eq (tgt := 108) hx hb dX9_readsLimb_55 (by decide) (fun c18 => ?_) (fun c18 => ?_)
      · replace hM := if_t c18 hM
        refine lv_iconst (v := (0 : Int32)) hx hb dX9_readsLimb_108 (by decide) ?_
        have hz := Option.some.inj hM
        exact W.zret hx hb hr rfl (fun t ht hW => jq_i hK hI hz ht hW) hI.2.2.2 dX9_readsLimb_109
      · replace hM := if_f c18 hM
        refine lv_aload_n hx hb dX9_readsLimb_58 rfl (lv_at hl 2 rfl) ?_
        refine lv_aload_n hx hb dX9_readsLimb_59 rfl (lv_at hl 2 rfl) ?_
        refine va_get (D := D) (ci := 9) (v := .ref (am 2)) (C := RX9) (T := TX9) (N := 43) hx hb hts hi_X9_readsLimb_X9 hown hK hI.1 0 (mg_0 am cI cZ st17) rfl 14 (by decide) f_1 (fun _ h9 => h9) rfl dX9_readsLimb_60 ?_
        refine lv_iload_n hx hb dX9_readsLimb_63 rfl (lv_at hl 1 rfl) ?_
        refine lv_iconst (v := (1 : Int32)) hx hb dX9_readsLimb_64 (by decide) ?_
        refine lv_iadd hx hb dX9_readsLimb_65 ?_
        refine lv_iload_n hx hb dX9_readsLimb_66 rfl (lv_at hl 0 rfl) ?_
        refine lv_if_eq (tgt := 74) hx hb dX9_readsLimb_67 (by decide) (fun c9 => absurd c9 (by decide)) (fun _ => ?_)
        refine lv_iconst (v := (0 : Int32)) hx hb dX9_readsLimb_70 (by decide) ?_
        refine lv_goto (tgt := 75) hx hb dX9_readsLimb_71 (by decide) ?_
        refine lv_iload_n hx hb dX9_readsLimb_75 rfl (lv_at hl 0 rfl) ?_
        refine lv_if_eq (tgt := 83) hx hb dX9_readsLimb_76 (by decide) (fun c9 => absurd c9 (by decide)) (fun _ => ?_)
        refine lv_iconst (v := (0 : Int32)) hx hb dX9_readsLimb_79 (by decide) ?_
        refine lv_goto (tgt := 85) hx hb dX9_readsLimb_80 (by decide) ?_
        obtain ⟨v19, st20, hqv19, hM⟩ := bd_at hM
        refine jcallV (C := RX9) (As := [.ref (am 2), .int (((3 : Int32) * (st.1 0 6)) + (1 : Int32)), .int (0 : Int32), .int (0 : Int32)]) (rest := []) ⟨hx, hb, hml, hown, hts⟩ (jw_X9_told D am cI cZ hj N (show mk_To 2 by decide) hqv19) (cwV 4 hts gX9_readsLimb_X9_told rfl rfl rfl yd_X9_told ⟨Nat.le_of_ble_eq_true rfl, Nat.le_of_ble_eq_true rfl⟩) hK hI 0 (mg_0 am cI cZ st17) rfl rfl hl.1 rfl (Nat.le_of_ble_eq_true rfl) dX9_readsLimb_85 (fun H locs hI => ?_)
        refine W.eq (g2 := F0 m 88 ls [.int v19]) rfl ?_
        refine lv_if_eq (tgt := 108) hx hb dX9_readsLimb_88 (by decide) (fun c21 => ?_) (fun c21 => ?_)
        · replace hM := if_t c21 hM
          refine lv_iconst (v := (0 : Int32)) hx hb dX9_readsLimb_108 (by decide) ?_
          have hz := Option.some.inj hM
          exact W.zret hx hb hr rfl (fun t ht hW => jq_i hK hI hz ht hW) hI.2.2.2 dX9_readsLimb_109
        · replace hM := if_f c21 hM
          refine lv_aload_n hx hb dX9_readsLimb_91 rfl (lv_at hl 2 rfl) ?_
          refine lv_aload_n hx hb dX9_readsLimb_92 rfl (lv_at hl 2 rfl) ?_
          refine va_get (D := D) (ci := 9) (v := .ref (am 2)) (C := RX9) (T := TX9) (N := 43) hx hb hts hi_X9_readsLimb_X9 hown hK hI.1 0 (mg_0 am cI cZ st20) rfl 14 (by decide) f_1 (fun _ h9 => h9) rfl dX9_readsLimb_93 ?_
          refine lv_iload_n hx hb dX9_readsLimb_96 rfl (lv_at hl 1 rfl) ?_
          refine lv_iconst (v := (2 : Int32)) hx hb dX9_readsLimb_97 (by decide) ?_
          refine lv_iadd hx hb dX9_readsLimb_98 ?_
          refine lv_iconst (v := (1 : Int32)) hx hb dX9_readsLimb_99 (by decide) ?_
          refine lv_bipush (v := (9 : Int32)) hx hb dX9_readsLimb_100 (by decide) ?_
          obtain ⟨v22, st23, hqv22, hM⟩ := bd_at hM
          refine jcallV (C := RX9) (As := [.ref (am 2), .int (((3 : Int32) * (st.1 0 6)) + (2 : Int32)), .int (1 : Int32), .int (9 : Int32)]) (rest := []) ⟨hx, hb, hml, hown, hts⟩ (jw_X9_told D am cI cZ hj N (show mk_To 2 by decide) hqv22) (cwV 4 hts gX9_readsLimb_X9_told rfl rfl rfl yd_X9_told ⟨Nat.le_of_ble_eq_true rfl, Nat.le_of_ble_eq_true rfl⟩) hK hI 0 (mg_0 am cI cZ st20) rfl rfl hl.1 rfl (Nat.le_of_ble_eq_true rfl) dX9_readsLimb_102 (fun H locs hI => ?_)
          refine W.eq (g2 := F0 m 105 ls [.int v22]) rfl ?_
          refine lv_if_ne (tgt := 110) hx hb dX9_readsLimb_105 (by decide) (fun c24 => ?_) (fun c24 => ?_)
          · replace hM := if_f c24 hM
            refine lv_aload_n hx hb dX9_readsLimb_110 rfl (lv_at hl 2 rfl) ?_
            refine lv_dup hx hb dX9_readsLimb_111 rfl ?_
            refine va_get (D := D) (ci := 9) (v := .int (st23.1 0 6)) (C := RX9) (T := TX9) (N := 43) hx hb hts hi_X9_readsLimb_X9 hown hK hI.1 0 (mg_0 am cI cZ st23) rfl 6 (by decide) f_0 (fun _ h9 => h9) rfl dX9_readsLimb_112 ?_
            refine lv_iconst (v := (1 : Int32)) hx hb dX9_readsLimb_115 (by decide) ?_
            refine lv_iadd hx hb dX9_readsLimb_116 ?_
            refine jput (D := D) (ci := 9) (v := .int ((st23.1 0 6) + (1 : Int32))) (ty := .int) (C := RX9) (T := TX9) (N := 43) (st2 := pU st23 0 6 ((st23.1 0 6) + (1 : Int32))) hx hb hts hi_X9_readsLimb_X9 tyX9 tyX9_ok nmX9 hown hK (mD hj) hI 0 (mg_0 am cI cZ st23) rfl 6 (by decide) f_0 (fun _ h9 => h9) rfl (by decide +kernel) rfl rfl (Nat.le_of_ble_eq_true rfl) (ms_0_6 am cI cZ st23 _) dX9_readsLimb_117 (fun st25 est25 H locs hI => ?_)
            replace hM := nm_at est25 hM
            refine lv_aload_n hx hb dX9_readsLimb_120 rfl (lv_at hl 2 rfl) ?_
            obtain ⟨v26, st27, hqv26, hM⟩ := bd_at hM
            refine jcallV (C := RX9) (As := []) (rest := []) ⟨hx, hb, hml, hown, hts⟩ (jw_X9_ends D am cI cZ hj N hqv26) (cwV 0 hts gX9_readsLimb_X9_ends rfl rfl rfl yd_X9_ends ⟨Nat.le_of_ble_eq_true rfl, Nat.le_of_ble_eq_true rfl⟩) hK hI 0 (mg_0 am cI cZ st25) rfl rfl hl.1 rfl (Nat.le_of_ble_eq_true rfl) dX9_readsLimb_121 (fun H locs hI => ?_)
            refine W.eq (g2 := F0 m 124 ls [.int v26]) rfl ?_
            obtain ⟨g28, hM⟩ := gd_at hM
            have hz := Option.some.inj hM
            exact W.zret hx hb hr (isZ_n g28) (fun t ht hW => jq_i hK hI hz ht hW) hI.2.2.2 dX9_readsLimb_124
          · replace hM := if_t c24 hM
            refine lv_iconst (v := (0 : Int32)) hx hb dX9_readsLimb_108 (by decide) ?_
            have hz := Option.some.inj hM
            exact W.zret hx hb hr rfl (fun t ht hW => jq_i hK hI hz ht hW) hI.2.2.2 dX9_readsLimb_109
  · replace hM := if_t c1 hM
    refine lv_iconst (v := (0 : Int32)) hx hb dX9_readsLimb_9 (by decide) ?_
    have hz := Option.some.inj hM
    exact W.zret hx hb hr rfl (fun t ht hW => jq_i hK hI hz ht hW) hI.2.2.2 dX9_readsLimb_10
set_option maxRecDepth 20000 in
theorem hi_X9_readsString_X9 : ∀ w ∈ wsX90, w ∈ wsX9_readsString := by decide +kernel
set_option maxHeartbeats 4000000 in
set_option maxRecDepth 100000 in
theorem jw_X9_readsString {l : Launch} (D : va_G) (am : Nat → Nat) (cI cZ : ClassId) (hj : aJ am 24) (N : Nat) {st stZ : PS} {rZ : Int32} (hM : jm_X9_readsString N st = some (rZ, stZ)) : Met l yX9_readsString wsX9_readsString ({ frames := 4, cells := 0, slots := 0, locals := 87 }) (va_Pc [.ref (am 0)] (JH D (mW am cI cZ) (mTy cI cZ) st)) (JQ D (aA am 24) (mW am cI cZ) (mTy cI cZ) (some (.int rZ)) stZ) 0 0 (aA am 24) := by
  refine jStart (cc := cX9_readsString) (maxL := 2) (ret := (some .boolean)) [.ref (am 0)] (by decide) rfl (Nat.le_of_ble_eq_true rfl) (fun p e s m below meth c ls hx hb hr hlocks hts hown hml hK hI hl => ?_)
  have hown : s.vm.findClass RX9 = some m.cls := hown
  replace hl : lv_has ls 2 [(0, .ref (am 0))] := hl
  generalize hAV : ([.ref (am 0)] : List Value).toArray = AV at hts ⊢
  have f_0 := hts (.fieldLink RX9 125 "PuppetBarModel" "readStrings" "I") (by decide +kernel)
  have f_1 := hts (.fieldLink RX9 16 "PuppetBarModel" "readString" "[I") (by decide +kernel)
  have f_2 := hts (.fieldLink RX9 114 "PuppetBarModel" "readLimbs" "I") (by decide +kernel)
  unfold jm_X9_readsString at hM
  refine lv_aload_n hx hb dX9_readsString_0 rfl (lv_at hl 0 rfl) ?_
  refine va_get (D := D) (ci := 9) (v := .int (st.1 0 7)) (C := RX9) (T := TX9) (N := 43) hx hb hts hi_X9_readsString_X9 hown hK hI.1 0 (mg_0 am cI cZ st) rfl 7 (by decide) f_0 (fun _ h9 => h9) rfl dX9_readsString_1 ?_
  refine lv_bipush (v := (6 : Int32)) hx hb dX9_readsString_4 (by decide) ?_
  refine lv_icmp_ne (tgt := 11) hx hb dX9_readsString_6 (by decide) (fun c1 => ?_) (fun c1 => ?_)
  · replace hM := if_f c1 hM
    refine lv_iconst (v := (4 : Int32)) hx hb dX9_readsString_11 (by decide) ?_
    refine lv_aload_n hx hb dX9_readsString_12 rfl (lv_at hl 0 rfl) ?_
    refine va_get (D := D) (ci := 9) (v := .int (st.1 0 7)) (C := RX9) (T := TX9) (N := 43) hx hb hts hi_X9_readsString_X9 hown hK hI.1 0 (mg_0 am cI cZ st) rfl 7 (by decide) f_0 (fun _ h9 => h9) rfl dX9_readsString_13 ?_
    refine lv_imul hx hb dX9_readsString_16 ?_
    refine lv_istore_n (lv' := [(1, .int ((4 : Int32) * (st.1 0 7))), (0, .ref (am 0))]) hx hb dX9_readsString_17 rfl hl (by decide) rfl (fun ls hl => ?_)
    refine lv_aload_n hx hb dX9_readsString_18 rfl (lv_at hl 1 rfl) ?_
    refine lv_aload_n hx hb dX9_readsString_19 rfl (lv_at hl 1 rfl) ?_
    refine va_get (D := D) (ci := 9) (v := .ref (am 3)) (C := RX9) (T := TX9) (N := 43) hx hb hts hi_X9_readsString_X9 hown hK hI.1 0 (mg_0 am cI cZ st) rfl 15 (by decide) f_1 (fun _ h9 => h9) rfl dX9_readsString_20 ?_
    refine lv_iload_n hx hb dX9_readsString_23 rfl (lv_at hl 0 rfl) ?_
    refine lv_iconst (v := (0 : Int32)) hx hb dX9_readsString_24 (by decide) ?_
    refine lv_aload_n hx hb dX9_readsString_25 rfl (lv_at hl 1 rfl) ?_
    refine va_get (D := D) (ci := 9) (v := .int (st.1 0 6)) (C := RX9) (T := TX9) (N := 43) hx hb hts hi_X9_readsString_X9 hown hK hI.1 0 (mg_0 am cI cZ st) rfl 6 (by decide) f_2 (fun _ h9 => h9) rfl dX9_readsString_26 ?_
    refine lv_iconst (v := (1 : Int32)) hx hb dX9_readsString_29 (by decide) ?_
    refine lv_isub hx hb dX9_readsString_30 ?_
    obtain ⟨v2, st3, hqv2, hM⟩ := bd_at hM
    refine jcallV (C := RX9) (As := [.ref (am 3), .int ((4 : Int32) * (st.1 0 7)), .int (0 : Int32), .int ((st.1 0 6) - (1 : Int32))]) (rest := []) ⟨hx, hb, hml, hown, hts⟩ (jw_X9_told D am cI cZ hj N (show mk_To 3 by decide) hqv2) (cwV 4 hts gX9_readsString_X9_told rfl rfl rfl yd_X9_told ⟨Nat.le_of_ble_eq_true rfl, Nat.le_of_ble_eq_true rfl⟩) hK hI 0 (mg_0 am cI cZ st) rfl rfl hl.1 rfl (Nat.le_of_ble_eq_true rfl) dX9_readsString_31 (fun H locs hI => ?_)
    refine W.eq (g2 := F0 m 34 ls [.int v2]) rfl ?_
    refine lv_if_eq (tgt := 88) hx hb dX9_readsString_34 (by decide) (fun c4 => ?_) (fun c4 => ?_)
    · replace hM := if_t c4 hM
      refine lv_iconst (v := (0 : Int32)) hx hb dX9_readsString_88 (by decide) ?_
      have hz := Option.some.inj hM
      exact W.zret hx hb hr rfl (fun t ht hW => jq_i hK hI hz ht hW) hI.2.2.2 dX9_readsString_89
    · replace hM := if_f c4 hM
      refine lv_aload_n hx hb dX9_readsString_37 rfl (lv_at hl 1 rfl) ?_
      refine lv_aload_n hx hb dX9_readsString_38 rfl (lv_at hl 1 rfl) ?_
      refine va_get (D := D) (ci := 9) (v := .ref (am 3)) (C := RX9) (T := TX9) (N := 43) hx hb hts hi_X9_readsString_X9 hown hK hI.1 0 (mg_0 am cI cZ st3) rfl 15 (by decide) f_1 (fun _ h9 => h9) rfl dX9_readsString_39 ?_
      refine lv_iload_n hx hb dX9_readsString_42 rfl (lv_at hl 0 rfl) ?_
      refine lv_iconst (v := (1 : Int32)) hx hb dX9_readsString_43 (by decide) ?_
      refine lv_iadd hx hb dX9_readsString_44 ?_
      refine lv_iconst (v := (0 : Int32)) hx hb dX9_readsString_45 (by decide) ?_
      refine lv_bipush (v := (6 : Int32)) hx hb dX9_readsString_46 (by decide) ?_
      obtain ⟨v5, st6, hqv5, hM⟩ := bd_at hM
      refine jcallV (C := RX9) (As := [.ref (am 3), .int (((4 : Int32) * (st.1 0 7)) + (1 : Int32)), .int (0 : Int32), .int (6 : Int32)]) (rest := []) ⟨hx, hb, hml, hown, hts⟩ (jw_X9_told D am cI cZ hj N (show mk_To 3 by decide) hqv5) (cwV 4 hts gX9_readsString_X9_told rfl rfl rfl yd_X9_told ⟨Nat.le_of_ble_eq_true rfl, Nat.le_of_ble_eq_true rfl⟩) hK hI 0 (mg_0 am cI cZ st3) rfl rfl hl.1 rfl (Nat.le_of_ble_eq_true rfl) dX9_readsString_48 (fun H locs hI => ?_)
      refine W.eq (g2 := F0 m 51 ls [.int v5]) rfl ?_
      refine lv_if_eq (tgt := 88) hx hb dX9_readsString_51 (by decide) (fun c7 => ?_) (fun c7 => ?_)
      · replace hM := if_t c7 hM
        refine lv_iconst (v := (0 : Int32)) hx hb dX9_readsString_88 (by decide) ?_
        have hz := Option.some.inj hM
        exact W.zret hx hb hr rfl (fun t ht hW => jq_i hK hI hz ht hW) hI.2.2.2 dX9_readsString_89
      · replace hM := if_f c7 hM
        refine lv_aload_n hx hb dX9_readsString_54 rfl (lv_at hl 1 rfl) ?_
        refine lv_aload_n hx hb dX9_readsString_55 rfl (lv_at hl 1 rfl) ?_
        refine va_get (D := D) (ci := 9) (v := .ref (am 3)) (C := RX9) (T := TX9) (N := 43) hx hb hts hi_X9_readsString_X9 hown hK hI.1 0 (mg_0 am cI cZ st6) rfl 15 (by decide) f_1 (fun _ h9 => h9) rfl dX9_readsString_56 ?_
        refine lv_iload_n hx hb dX9_readsString_59 rfl (lv_at hl 0 rfl) ?_
        refine lv_iconst (v := (2 : Int32)) hx hb dX9_readsString_60 (by decide) ?_
        refine lv_iadd hx hb dX9_readsString_61 ?_
        refine lv_iconst (v := (0 : Int32)) hx hb dX9_readsString_62 (by decide) ?_
        refine lv_bipush (v := (40 : Int32)) hx hb dX9_readsString_63 (by decide) ?_
        obtain ⟨v8, st9, hqv8, hM⟩ := bd_at hM
        refine jcallV (C := RX9) (As := [.ref (am 3), .int (((4 : Int32) * (st.1 0 7)) + (2 : Int32)), .int (0 : Int32), .int (40 : Int32)]) (rest := []) ⟨hx, hb, hml, hown, hts⟩ (jw_X9_told D am cI cZ hj N (show mk_To 3 by decide) hqv8) (cwV 4 hts gX9_readsString_X9_told rfl rfl rfl yd_X9_told ⟨Nat.le_of_ble_eq_true rfl, Nat.le_of_ble_eq_true rfl⟩) hK hI 0 (mg_0 am cI cZ st6) rfl rfl hl.1 rfl (Nat.le_of_ble_eq_true rfl) dX9_readsString_65 (fun H locs hI => ?_)
        refine W.eq (g2 := F0 m 68 ls [.int v8]) rfl ?_
        refine lv_if_eq (tgt := 88) hx hb dX9_readsString_68 (by decide) (fun c10 => ?_) (fun c10 => ?_)
        · replace hM := if_t c10 hM
          refine lv_iconst (v := (0 : Int32)) hx hb dX9_readsString_88 (by decide) ?_
          have hz := Option.some.inj hM
          exact W.zret hx hb hr rfl (fun t ht hW => jq_i hK hI hz ht hW) hI.2.2.2 dX9_readsString_89
        · replace hM := if_f c10 hM
          refine lv_aload_n hx hb dX9_readsString_71 rfl (lv_at hl 1 rfl) ?_
          refine lv_aload_n hx hb dX9_readsString_72 rfl (lv_at hl 1 rfl) ?_
          refine va_get (D := D) (ci := 9) (v := .ref (am 3)) (C := RX9) (T := TX9) (N := 43) hx hb hts hi_X9_readsString_X9 hown hK hI.1 0 (mg_0 am cI cZ st9) rfl 15 (by decide) f_1 (fun _ h9 => h9) rfl dX9_readsString_73 ?_
          refine lv_iload_n hx hb dX9_readsString_76 rfl (lv_at hl 0 rfl) ?_
          refine lv_iconst (v := (3 : Int32)) hx hb dX9_readsString_77 (by decide) ?_
          refine lv_iadd hx hb dX9_readsString_78 ?_
          refine lv_iconst (v := (1 : Int32)) hx hb dX9_readsString_79 (by decide) ?_
          refine lv_bipush (v := (40 : Int32)) hx hb dX9_readsString_80 (by decide) ?_
          obtain ⟨v11, st12, hqv11, hM⟩ := bd_at hM
          refine jcallV (C := RX9) (As := [.ref (am 3), .int (((4 : Int32) * (st.1 0 7)) + (3 : Int32)), .int (1 : Int32), .int (40 : Int32)]) (rest := []) ⟨hx, hb, hml, hown, hts⟩ (jw_X9_told D am cI cZ hj N (show mk_To 3 by decide) hqv11) (cwV 4 hts gX9_readsString_X9_told rfl rfl rfl yd_X9_told ⟨Nat.le_of_ble_eq_true rfl, Nat.le_of_ble_eq_true rfl⟩) hK hI 0 (mg_0 am cI cZ st9) rfl rfl hl.1 rfl (Nat.le_of_ble_eq_true rfl) dX9_readsString_82 (fun H locs hI => ?_)
          refine W.eq (g2 := F0 m 85 ls [.int v11]) rfl ?_
          refine lv_if_ne (tgt := 90) hx hb dX9_readsString_85 (by decide) (fun c13 => ?_) (fun c13 => ?_)
          · replace hM := if_f c13 hM
            refine lv_aload_n hx hb dX9_readsString_90 rfl (lv_at hl 1 rfl) ?_
            refine lv_dup hx hb dX9_readsString_91 rfl ?_
            refine va_get (D := D) (ci := 9) (v := .int (st12.1 0 7)) (C := RX9) (T := TX9) (N := 43) hx hb hts hi_X9_readsString_X9 hown hK hI.1 0 (mg_0 am cI cZ st12) rfl 7 (by decide) f_0 (fun _ h9 => h9) rfl dX9_readsString_92 ?_
            refine lv_iconst (v := (1 : Int32)) hx hb dX9_readsString_95 (by decide) ?_
            refine lv_iadd hx hb dX9_readsString_96 ?_
            refine jput (D := D) (ci := 9) (v := .int ((st12.1 0 7) + (1 : Int32))) (ty := .int) (C := RX9) (T := TX9) (N := 43) (st2 := pU st12 0 7 ((st12.1 0 7) + (1 : Int32))) hx hb hts hi_X9_readsString_X9 tyX9 tyX9_ok nmX9 hown hK (mD hj) hI 0 (mg_0 am cI cZ st12) rfl 7 (by decide) f_0 (fun _ h9 => h9) rfl (by decide +kernel) rfl rfl (Nat.le_of_ble_eq_true rfl) (ms_0_7 am cI cZ st12 _) dX9_readsString_97 (fun st14 est14 H locs hI => ?_)
            replace hM := nm_at est14 hM
            refine lv_aload_n hx hb dX9_readsString_100 rfl (lv_at hl 1 rfl) ?_
            obtain ⟨v15, st16, hqv15, hM⟩ := bd_at hM
            refine jcallV (C := RX9) (As := []) (rest := []) ⟨hx, hb, hml, hown, hts⟩ (jw_X9_ends D am cI cZ hj N hqv15) (cwV 0 hts gX9_readsString_X9_ends rfl rfl rfl yd_X9_ends ⟨Nat.le_of_ble_eq_true rfl, Nat.le_of_ble_eq_true rfl⟩) hK hI 0 (mg_0 am cI cZ st14) rfl rfl hl.1 rfl (Nat.le_of_ble_eq_true rfl) dX9_readsString_101 (fun H locs hI => ?_)
            refine W.eq (g2 := F0 m 104 ls [.int v15]) rfl ?_
            obtain ⟨g17, hM⟩ := gd_at hM
            have hz := Option.some.inj hM
            exact W.zret hx hb hr (isZ_n g17) (fun t ht hW => jq_i hK hI hz ht hW) hI.2.2.2 dX9_readsString_104
          · replace hM := if_t c13 hM
            refine lv_iconst (v := (0 : Int32)) hx hb dX9_readsString_88 (by decide) ?_
            have hz := Option.some.inj hM
            exact W.zret hx hb hr rfl (fun t ht hW => jq_i hK hI hz ht hW) hI.2.2.2 dX9_readsString_89
  · replace hM := if_t c1 hM
    refine lv_iconst (v := (0 : Int32)) hx hb dX9_readsString_9 (by decide) ?_
    have hz := Option.some.inj hM
    exact W.zret hx hb hr rfl (fun t ht hW => jq_i hK hI hz ht hW) hI.2.2.2 dX9_readsString_10
set_option maxRecDepth 20000 in
theorem hi_X9_readsBeat_X9 : ∀ w ∈ wsX90, w ∈ wsX9_readsBeat := by decide +kernel
set_option maxHeartbeats 4000000 in
set_option maxRecDepth 100000 in
theorem jw_X9_readsBeat {l : Launch} (D : va_G) (am : Nat → Nat) (cI cZ : ClassId) (hj : aJ am 24) (N : Nat) {st stZ : PS} {rZ : Int32} (hM : jm_X9_readsBeat N st = some (rZ, stZ)) : Met l yX9_readsBeat wsX9_readsBeat ({ frames := 4, cells := 0, slots := 0, locals := 87 }) (va_Pc [.ref (am 0)] (JH D (mW am cI cZ) (mTy cI cZ) st)) (JQ D (aA am 24) (mW am cI cZ) (mTy cI cZ) (some (.int rZ)) stZ) 0 0 (aA am 24) := by
  refine jStart (cc := cX9_readsBeat) (maxL := 1) (ret := (some .boolean)) [.ref (am 0)] (by decide) rfl (Nat.le_of_ble_eq_true rfl) (fun p e s m below meth c ls hx hb hr hlocks hts hown hml hK hI hl => ?_)
  have hown : s.vm.findClass RX9 = some m.cls := hown
  replace hl : lv_has ls 1 [(0, .ref (am 0))] := hl
  generalize hAV : ([.ref (am 0)] : List Value).toArray = AV at hts ⊢
  have f_0 := hts (.fieldLink RX9 128 "PuppetBarModel" "readBeats" "I") (by decide +kernel)
  have f_1 := hts (.fieldLink RX9 19 "PuppetBarModel" "readBeat" "[I") (by decide +kernel)
  unfold jm_X9_readsBeat at hM
  refine lv_aload_n hx hb dX9_readsBeat_0 rfl (lv_at hl 0 rfl) ?_
  refine va_get (D := D) (ci := 9) (v := .int (st.1 0 8)) (C := RX9) (T := TX9) (N := 43) hx hb hts hi_X9_readsBeat_X9 hown hK hI.1 0 (mg_0 am cI cZ st) rfl 8 (by decide) f_0 (fun _ h9 => h9) rfl dX9_readsBeat_1 ?_
  refine lv_bipush (v := (7 : Int32)) hx hb dX9_readsBeat_4 (by decide) ?_
  refine lv_icmp_eq (tgt := 51) hx hb dX9_readsBeat_6 (by decide) (fun c1 => ?_) (fun c1 => ?_)
  · replace hM := if_t c1 hM
    refine lv_iconst (v := (0 : Int32)) hx hb dX9_readsBeat_51 (by decide) ?_
    have hz := Option.some.inj hM
    exact W.zret hx hb hr rfl (fun t ht hW => jq_i hK hI hz ht hW) hI.2.2.2 dX9_readsBeat_52
  · replace hM := if_f c1 hM
    refine lv_aload_n hx hb dX9_readsBeat_9 rfl (lv_at hl 0 rfl) ?_
    refine lv_aload_n hx hb dX9_readsBeat_10 rfl (lv_at hl 0 rfl) ?_
    refine va_get (D := D) (ci := 9) (v := .ref (am 4)) (C := RX9) (T := TX9) (N := 43) hx hb hts hi_X9_readsBeat_X9 hown hK hI.1 0 (mg_0 am cI cZ st) rfl 16 (by decide) f_1 (fun _ h9 => h9) rfl dX9_readsBeat_11 ?_
    refine lv_iconst (v := (2 : Int32)) hx hb dX9_readsBeat_14 (by decide) ?_
    refine lv_aload_n hx hb dX9_readsBeat_15 rfl (lv_at hl 0 rfl) ?_
    refine va_get (D := D) (ci := 9) (v := .int (st.1 0 8)) (C := RX9) (T := TX9) (N := 43) hx hb hts hi_X9_readsBeat_X9 hown hK hI.1 0 (mg_0 am cI cZ st) rfl 8 (by decide) f_0 (fun _ h9 => h9) rfl dX9_readsBeat_16 ?_
    refine lv_imul hx hb dX9_readsBeat_19 ?_
    refine lv_iconst (v := (0 : Int32)) hx hb dX9_readsBeat_20 (by decide) ?_
    refine lv_bipush (v := (40 : Int32)) hx hb dX9_readsBeat_21 (by decide) ?_
    obtain ⟨v2, st3, hqv2, hM⟩ := bd_at hM
    refine jcallV (C := RX9) (As := [.ref (am 4), .int ((2 : Int32) * (st.1 0 8)), .int (0 : Int32), .int (40 : Int32)]) (rest := []) ⟨hx, hb, hml, hown, hts⟩ (jw_X9_told D am cI cZ hj N (show mk_To 4 by decide) hqv2) (cwV 4 hts gX9_readsBeat_X9_told rfl rfl rfl yd_X9_told ⟨Nat.le_of_ble_eq_true rfl, Nat.le_of_ble_eq_true rfl⟩) hK hI 0 (mg_0 am cI cZ st) rfl rfl hl.1 rfl (Nat.le_of_ble_eq_true rfl) dX9_readsBeat_23 (fun H locs hI => ?_)
    refine W.eq (g2 := F0 m 26 ls [.int v2]) rfl ?_
    refine lv_if_eq (tgt := 51) hx hb dX9_readsBeat_26 (by decide) (fun c4 => ?_) (fun c4 => ?_)
    · replace hM := if_t c4 hM
      refine lv_iconst (v := (0 : Int32)) hx hb dX9_readsBeat_51 (by decide) ?_
      have hz := Option.some.inj hM
      exact W.zret hx hb hr rfl (fun t ht hW => jq_i hK hI hz ht hW) hI.2.2.2 dX9_readsBeat_52
    · replace hM := if_f c4 hM
      refine lv_aload_n hx hb dX9_readsBeat_29 rfl (lv_at hl 0 rfl) ?_
      refine lv_aload_n hx hb dX9_readsBeat_30 rfl (lv_at hl 0 rfl) ?_
      refine va_get (D := D) (ci := 9) (v := .ref (am 4)) (C := RX9) (T := TX9) (N := 43) hx hb hts hi_X9_readsBeat_X9 hown hK hI.1 0 (mg_0 am cI cZ st3) rfl 16 (by decide) f_1 (fun _ h9 => h9) rfl dX9_readsBeat_31 ?_
      refine lv_iconst (v := (2 : Int32)) hx hb dX9_readsBeat_34 (by decide) ?_
      refine lv_aload_n hx hb dX9_readsBeat_35 rfl (lv_at hl 0 rfl) ?_
      refine va_get (D := D) (ci := 9) (v := .int (st3.1 0 8)) (C := RX9) (T := TX9) (N := 43) hx hb hts hi_X9_readsBeat_X9 hown hK hI.1 0 (mg_0 am cI cZ st3) rfl 8 (by decide) f_0 (fun _ h9 => h9) rfl dX9_readsBeat_36 ?_
      refine lv_imul hx hb dX9_readsBeat_39 ?_
      refine lv_iconst (v := (1 : Int32)) hx hb dX9_readsBeat_40 (by decide) ?_
      refine lv_iadd hx hb dX9_readsBeat_41 ?_
      refine lv_iconst (v := (0 : Int32)) hx hb dX9_readsBeat_42 (by decide) ?_
      refine lv_bipush (v := (6 : Int32)) hx hb dX9_readsBeat_43 (by decide) ?_
      obtain ⟨v5, st6, hqv5, hM⟩ := bd_at hM
      refine jcallV (C := RX9) (As := [.ref (am 4), .int (((2 : Int32) * (st3.1 0 8)) + (1 : Int32)), .int (0 : Int32), .int (6 : Int32)]) (rest := []) ⟨hx, hb, hml, hown, hts⟩ (jw_X9_told D am cI cZ hj N (show mk_To 4 by decide) hqv5) (cwV 4 hts gX9_readsBeat_X9_told rfl rfl rfl yd_X9_told ⟨Nat.le_of_ble_eq_true rfl, Nat.le_of_ble_eq_true rfl⟩) hK hI 0 (mg_0 am cI cZ st3) rfl rfl hl.1 rfl (Nat.le_of_ble_eq_true rfl) dX9_readsBeat_45 (fun H locs hI => ?_)
      refine W.eq (g2 := F0 m 48 ls [.int v5]) rfl ?_
      refine lv_if_ne (tgt := 53) hx hb dX9_readsBeat_48 (by decide) (fun c7 => ?_) (fun c7 => ?_)
      · replace hM := if_f c7 hM
        refine lv_aload_n hx hb dX9_readsBeat_53 rfl (lv_at hl 0 rfl) ?_
        refine lv_dup hx hb dX9_readsBeat_54 rfl ?_
        refine va_get (D := D) (ci := 9) (v := .int (st6.1 0 8)) (C := RX9) (T := TX9) (N := 43) hx hb hts hi_X9_readsBeat_X9 hown hK hI.1 0 (mg_0 am cI cZ st6) rfl 8 (by decide) f_0 (fun _ h9 => h9) rfl dX9_readsBeat_55 ?_
        refine lv_iconst (v := (1 : Int32)) hx hb dX9_readsBeat_58 (by decide) ?_
        refine lv_iadd hx hb dX9_readsBeat_59 ?_
        refine jput (D := D) (ci := 9) (v := .int ((st6.1 0 8) + (1 : Int32))) (ty := .int) (C := RX9) (T := TX9) (N := 43) (st2 := pU st6 0 8 ((st6.1 0 8) + (1 : Int32))) hx hb hts hi_X9_readsBeat_X9 tyX9 tyX9_ok nmX9 hown hK (mD hj) hI 0 (mg_0 am cI cZ st6) rfl 8 (by decide) f_0 (fun _ h9 => h9) rfl (by decide +kernel) rfl rfl (Nat.le_of_ble_eq_true rfl) (ms_0_8 am cI cZ st6 _) dX9_readsBeat_60 (fun st8 est8 H locs hI => ?_)
        replace hM := nm_at est8 hM
        refine lv_aload_n hx hb dX9_readsBeat_63 rfl (lv_at hl 0 rfl) ?_
        obtain ⟨v9, st10, hqv9, hM⟩ := bd_at hM
        refine jcallV (C := RX9) (As := []) (rest := []) ⟨hx, hb, hml, hown, hts⟩ (jw_X9_ends D am cI cZ hj N hqv9) (cwV 0 hts gX9_readsBeat_X9_ends rfl rfl rfl yd_X9_ends ⟨Nat.le_of_ble_eq_true rfl, Nat.le_of_ble_eq_true rfl⟩) hK hI 0 (mg_0 am cI cZ st8) rfl rfl hl.1 rfl (Nat.le_of_ble_eq_true rfl) dX9_readsBeat_64 (fun H locs hI => ?_)
        refine W.eq (g2 := F0 m 67 ls [.int v9]) rfl ?_
        obtain ⟨g11, hM⟩ := gd_at hM
        have hz := Option.some.inj hM
        exact W.zret hx hb hr (isZ_n g11) (fun t ht hW => jq_i hK hI hz ht hW) hI.2.2.2 dX9_readsBeat_67
      · replace hM := if_t c7 hM
        refine lv_iconst (v := (0 : Int32)) hx hb dX9_readsBeat_51 (by decide) ?_
        have hz := Option.some.inj hM
        exact W.zret hx hb hr rfl (fun t ht hW => jq_i hK hI hz ht hW) hI.2.2.2 dX9_readsBeat_52
set_option maxRecDepth 20000 in
theorem hi_X9_readsLift_X9 : ∀ w ∈ wsX90, w ∈ wsX9_readsLift := by decide +kernel
set_option maxHeartbeats 4000000 in
set_option maxRecDepth 100000 in
theorem jw_X9_readsLift {l : Launch} (D : va_G) (am : Nat → Nat) (cI cZ : ClassId) (hj : aJ am 24) (N : Nat) {st stZ : PS} {rZ : Int32} (hM : jm_X9_readsLift N st = some (rZ, stZ)) : Met l yX9_readsLift wsX9_readsLift ({ frames := 4, cells := 0, slots := 0, locals := 87 }) (va_Pc [.ref (am 0)] (JH D (mW am cI cZ) (mTy cI cZ) st)) (JQ D (aA am 24) (mW am cI cZ) (mTy cI cZ) (some (.int rZ)) stZ) 0 0 (aA am 24) := by
  refine jStart (cc := cX9_readsLift) (maxL := 1) (ret := (some .boolean)) [.ref (am 0)] (by decide) rfl (Nat.le_of_ble_eq_true rfl) (fun p e s m below meth c ls hx hb hr hlocks hts hown hml hK hI hl => ?_)
  have hown : s.vm.findClass RX9 = some m.cls := hown
  replace hl : lv_has ls 1 [(0, .ref (am 0))] := hl
  generalize hAV : ([.ref (am 0)] : List Value).toArray = AV at hts ⊢
  have f_0 := hts (.fieldLink RX9 131 "PuppetBarModel" "isLiftRead" "Z") (by decide +kernel)
  have f_1 := hts (.fieldLink RX9 22 "PuppetBarModel" "one" "[I") (by decide +kernel)
  have f_2 := hts (.fieldLink RX9 135 "PuppetBarModel" "readLift" "I") (by decide +kernel)
  unfold jm_X9_readsLift at hM
  refine lv_aload_n hx hb dX9_readsLift_0 rfl (lv_at hl 0 rfl) ?_
  refine va_get (D := D) (ci := 9) (v := .int (st.1 0 10)) (C := RX9) (T := TX9) (N := 43) hx hb hts hi_X9_readsLift_X9 hown hK hI.1 0 (mg_0 am cI cZ st) rfl 10 (by decide) f_0 (fun _ h9 => h9) rfl dX9_readsLift_1 ?_
  refine lv_if_ne (tgt := 22) hx hb dX9_readsLift_4 (by decide) (fun c1 => ?_) (fun c1 => ?_)
  · replace hM := if_f c1 hM
    refine lv_iconst (v := (0 : Int32)) hx hb dX9_readsLift_22 (by decide) ?_
    have hz := Option.some.inj hM
    exact W.zret hx hb hr rfl (fun t ht hW => jq_i hK hI hz ht hW) hI.2.2.2 dX9_readsLift_23
  · replace hM := if_t c1 hM
    refine lv_aload_n hx hb dX9_readsLift_7 rfl (lv_at hl 0 rfl) ?_
    refine lv_aload_n hx hb dX9_readsLift_8 rfl (lv_at hl 0 rfl) ?_
    refine va_get (D := D) (ci := 9) (v := .ref (am 5)) (C := RX9) (T := TX9) (N := 43) hx hb hts hi_X9_readsLift_X9 hown hK hI.1 0 (mg_0 am cI cZ st) rfl 17 (by decide) f_1 (fun _ h9 => h9) rfl dX9_readsLift_9 ?_
    refine lv_iconst (v := (0 : Int32)) hx hb dX9_readsLift_12 (by decide) ?_
    refine lv_iconst (v := (0 : Int32)) hx hb dX9_readsLift_13 (by decide) ?_
    refine lv_bipush (v := (40 : Int32)) hx hb dX9_readsLift_14 (by decide) ?_
    obtain ⟨v2, st3, hqv2, hM⟩ := bd_at hM
    refine jcallV (C := RX9) (As := [.ref (am 5), .int (0 : Int32), .int (0 : Int32), .int (40 : Int32)]) (rest := []) ⟨hx, hb, hml, hown, hts⟩ (jw_X9_told D am cI cZ hj N (show mk_To 5 by decide) hqv2) (cwV 4 hts gX9_readsLift_X9_told rfl rfl rfl yd_X9_told ⟨Nat.le_of_ble_eq_true rfl, Nat.le_of_ble_eq_true rfl⟩) hK hI 0 (mg_0 am cI cZ st) rfl rfl hl.1 rfl (Nat.le_of_ble_eq_true rfl) dX9_readsLift_16 (fun H locs hI => ?_)
    refine W.eq (g2 := F0 m 19 ls [.int v2]) rfl ?_
    refine lv_if_ne (tgt := 24) hx hb dX9_readsLift_19 (by decide) (fun c4 => ?_) (fun c4 => ?_)
    · replace hM := if_f c4 hM
      refine lv_aload_n hx hb dX9_readsLift_24 rfl (lv_at hl 0 rfl) ?_
      refine lv_iconst (v := (1 : Int32)) hx hb dX9_readsLift_25 (by decide) ?_
      refine jput (D := D) (ci := 9) (v := .int (1 : Int32)) (ty := .boolean) (C := RX9) (T := TX9) (N := 43) (st2 := pU st3 0 10 (1 : Int32)) hx hb hts hi_X9_readsLift_X9 tyX9 tyX9_ok nmX9 hown hK (mD hj) hI 0 (mg_0 am cI cZ st3) rfl 10 (by decide) f_0 (fun _ h9 => h9) rfl (by decide +kernel) rfl rfl (Nat.le_of_ble_eq_true rfl) (ms_0_10 am cI cZ st3 _) dX9_readsLift_26 (fun st5 est5 H locs hI => ?_)
      replace hM := nm_at est5 hM
      refine lv_aload_n hx hb dX9_readsLift_29 rfl (lv_at hl 0 rfl) ?_
      refine lv_aload_n hx hb dX9_readsLift_30 rfl (lv_at hl 0 rfl) ?_
      refine va_get (D := D) (ci := 9) (v := .ref (am 5)) (C := RX9) (T := TX9) (N := 43) hx hb hts hi_X9_readsLift_X9 hown hK hI.1 0 (mg_0 am cI cZ st5) rfl 17 (by decide) f_1 (fun _ h9 => h9) rfl dX9_readsLift_31 ?_
      refine lv_iconst (v := (0 : Int32)) hx hb dX9_readsLift_34 (by decide) ?_
      refine va_iald hx hb hK hI.1 5 0 (mg_5 am cI cZ st5) rfl (inB_vp rfl) dX9_readsLift_35 ?_
      refine W.eq (g2 := F0 m 36 ls [.int (st5.1 5 0), .ref (am 0)]) rfl ?_
      refine jput (D := D) (ci := 9) (v := .int (st5.1 5 0)) (ty := .int) (C := RX9) (T := TX9) (N := 43) (st2 := pU st5 0 12 (st5.1 5 0)) hx hb hts hi_X9_readsLift_X9 tyX9 tyX9_ok nmX9 hown hK (mD hj) hI 0 (mg_0 am cI cZ st5) rfl 12 (by decide) f_2 (fun _ h9 => h9) rfl (by decide +kernel) rfl rfl (Nat.le_of_ble_eq_true rfl) (ms_0_12 am cI cZ st5 _) dX9_readsLift_36 (fun st6 est6 H locs hI => ?_)
      replace hM := nm_at est6 hM
      refine lv_aload_n hx hb dX9_readsLift_39 rfl (lv_at hl 0 rfl) ?_
      obtain ⟨v7, st8, hqv7, hM⟩ := bd_at hM
      refine jcallV (C := RX9) (As := []) (rest := []) ⟨hx, hb, hml, hown, hts⟩ (jw_X9_ends D am cI cZ hj N hqv7) (cwV 0 hts gX9_readsLift_X9_ends rfl rfl rfl yd_X9_ends ⟨Nat.le_of_ble_eq_true rfl, Nat.le_of_ble_eq_true rfl⟩) hK hI 0 (mg_0 am cI cZ st6) rfl rfl hl.1 rfl (Nat.le_of_ble_eq_true rfl) dX9_readsLift_40 (fun H locs hI => ?_)
      refine W.eq (g2 := F0 m 43 ls [.int v7]) rfl ?_
      obtain ⟨g9, hM⟩ := gd_at hM
      have hz := Option.some.inj hM
      exact W.zret hx hb hr (isZ_n g9) (fun t ht hW => jq_i hK hI hz ht hW) hI.2.2.2 dX9_readsLift_43
    · replace hM := if_t c4 hM
      refine lv_iconst (v := (0 : Int32)) hx hb dX9_readsLift_22 (by decide) ?_
      have hz := Option.some.inj hM
      exact W.zret hx hb hr rfl (fun t ht hW => jq_i hK hI hz ht hW) hI.2.2.2 dX9_readsLift_23
set_option maxRecDepth 20000 in
theorem hi_X9_readsTilt_X9 : ∀ w ∈ wsX90, w ∈ wsX9_readsTilt := by decide +kernel
set_option maxHeartbeats 4000000 in
set_option maxRecDepth 100000 in
theorem jw_X9_readsTilt {l : Launch} (D : va_G) (am : Nat → Nat) (cI cZ : ClassId) (hj : aJ am 24) (N : Nat) {st stZ : PS} {rZ : Int32} (hM : jm_X9_readsTilt N st = some (rZ, stZ)) : Met l yX9_readsTilt wsX9_readsTilt ({ frames := 4, cells := 0, slots := 0, locals := 87 }) (va_Pc [.ref (am 0)] (JH D (mW am cI cZ) (mTy cI cZ) st)) (JQ D (aA am 24) (mW am cI cZ) (mTy cI cZ) (some (.int rZ)) stZ) 0 0 (aA am 24) := by
  refine jStart (cc := cX9_readsTilt) (maxL := 1) (ret := (some .boolean)) [.ref (am 0)] (by decide) rfl (Nat.le_of_ble_eq_true rfl) (fun p e s m below meth c ls hx hb hr hlocks hts hown hml hK hI hl => ?_)
  have hown : s.vm.findClass RX9 = some m.cls := hown
  replace hl : lv_has ls 1 [(0, .ref (am 0))] := hl
  generalize hAV : ([.ref (am 0)] : List Value).toArray = AV at hts ⊢
  have f_0 := hts (.fieldLink RX9 138 "PuppetBarModel" "isTiltRead" "Z") (by decide +kernel)
  have f_1 := hts (.fieldLink RX9 22 "PuppetBarModel" "one" "[I") (by decide +kernel)
  have f_2 := hts (.fieldLink RX9 141 "PuppetBarModel" "readTilt" "I") (by decide +kernel)
  unfold jm_X9_readsTilt at hM
  refine lv_aload_n hx hb dX9_readsTilt_0 rfl (lv_at hl 0 rfl) ?_
  refine va_get (D := D) (ci := 9) (v := .int (st.1 0 11)) (C := RX9) (T := TX9) (N := 43) hx hb hts hi_X9_readsTilt_X9 hown hK hI.1 0 (mg_0 am cI cZ st) rfl 11 (by decide) f_0 (fun _ h9 => h9) rfl dX9_readsTilt_1 ?_
  refine lv_if_ne (tgt := 22) hx hb dX9_readsTilt_4 (by decide) (fun c1 => ?_) (fun c1 => ?_)
  · replace hM := if_f c1 hM
    refine lv_iconst (v := (0 : Int32)) hx hb dX9_readsTilt_22 (by decide) ?_
    have hz := Option.some.inj hM
    exact W.zret hx hb hr rfl (fun t ht hW => jq_i hK hI hz ht hW) hI.2.2.2 dX9_readsTilt_23
  · replace hM := if_t c1 hM
    refine lv_aload_n hx hb dX9_readsTilt_7 rfl (lv_at hl 0 rfl) ?_
    refine lv_aload_n hx hb dX9_readsTilt_8 rfl (lv_at hl 0 rfl) ?_
    refine va_get (D := D) (ci := 9) (v := .ref (am 5)) (C := RX9) (T := TX9) (N := 43) hx hb hts hi_X9_readsTilt_X9 hown hK hI.1 0 (mg_0 am cI cZ st) rfl 17 (by decide) f_1 (fun _ h9 => h9) rfl dX9_readsTilt_9 ?_
    refine lv_iconst (v := (0 : Int32)) hx hb dX9_readsTilt_12 (by decide) ?_
    refine lv_iconst (v := (0 : Int32)) hx hb dX9_readsTilt_13 (by decide) ?_
    refine lv_bipush (v := (6 : Int32)) hx hb dX9_readsTilt_14 (by decide) ?_
    obtain ⟨v2, st3, hqv2, hM⟩ := bd_at hM
    refine jcallV (C := RX9) (As := [.ref (am 5), .int (0 : Int32), .int (0 : Int32), .int (6 : Int32)]) (rest := []) ⟨hx, hb, hml, hown, hts⟩ (jw_X9_told D am cI cZ hj N (show mk_To 5 by decide) hqv2) (cwV 4 hts gX9_readsTilt_X9_told rfl rfl rfl yd_X9_told ⟨Nat.le_of_ble_eq_true rfl, Nat.le_of_ble_eq_true rfl⟩) hK hI 0 (mg_0 am cI cZ st) rfl rfl hl.1 rfl (Nat.le_of_ble_eq_true rfl) dX9_readsTilt_16 (fun H locs hI => ?_)
    refine W.eq (g2 := F0 m 19 ls [.int v2]) rfl ?_
    refine lv_if_ne (tgt := 24) hx hb dX9_readsTilt_19 (by decide) (fun c4 => ?_) (fun c4 => ?_)
    · replace hM := if_f c4 hM
      refine lv_aload_n hx hb dX9_readsTilt_24 rfl (lv_at hl 0 rfl) ?_
      refine lv_iconst (v := (1 : Int32)) hx hb dX9_readsTilt_25 (by decide) ?_
      refine jput (D := D) (ci := 9) (v := .int (1 : Int32)) (ty := .boolean) (C := RX9) (T := TX9) (N := 43) (st2 := pU st3 0 11 (1 : Int32)) hx hb hts hi_X9_readsTilt_X9 tyX9 tyX9_ok nmX9 hown hK (mD hj) hI 0 (mg_0 am cI cZ st3) rfl 11 (by decide) f_0 (fun _ h9 => h9) rfl (by decide +kernel) rfl rfl (Nat.le_of_ble_eq_true rfl) (ms_0_11 am cI cZ st3 _) dX9_readsTilt_26 (fun st5 est5 H locs hI => ?_)
      replace hM := nm_at est5 hM
      refine lv_aload_n hx hb dX9_readsTilt_29 rfl (lv_at hl 0 rfl) ?_
      refine lv_aload_n hx hb dX9_readsTilt_30 rfl (lv_at hl 0 rfl) ?_
      refine va_get (D := D) (ci := 9) (v := .ref (am 5)) (C := RX9) (T := TX9) (N := 43) hx hb hts hi_X9_readsTilt_X9 hown hK hI.1 0 (mg_0 am cI cZ st5) rfl 17 (by decide) f_1 (fun _ h9 => h9) rfl dX9_readsTilt_31 ?_
      refine lv_iconst (v := (0 : Int32)) hx hb dX9_readsTilt_34 (by decide) ?_
      refine va_iald hx hb hK hI.1 5 0 (mg_5 am cI cZ st5) rfl (inB_vp rfl) dX9_readsTilt_35 ?_
      refine W.eq (g2 := F0 m 36 ls [.int (st5.1 5 0), .ref (am 0)]) rfl ?_
      refine lv_iconst (v := (3 : Int32)) hx hb dX9_readsTilt_36 (by decide) ?_
      refine lv_isub hx hb dX9_readsTilt_37 ?_
      refine jput (D := D) (ci := 9) (v := .int ((st5.1 5 0) - (3 : Int32))) (ty := .int) (C := RX9) (T := TX9) (N := 43) (st2 := pU st5 0 13 ((st5.1 5 0) - (3 : Int32))) hx hb hts hi_X9_readsTilt_X9 tyX9 tyX9_ok nmX9 hown hK (mD hj) hI 0 (mg_0 am cI cZ st5) rfl 13 (by decide) f_2 (fun _ h9 => h9) rfl (by decide +kernel) rfl rfl (Nat.le_of_ble_eq_true rfl) (ms_0_13 am cI cZ st5 _) dX9_readsTilt_38 (fun st6 est6 H locs hI => ?_)
      replace hM := nm_at est6 hM
      refine lv_aload_n hx hb dX9_readsTilt_41 rfl (lv_at hl 0 rfl) ?_
      obtain ⟨v7, st8, hqv7, hM⟩ := bd_at hM
      refine jcallV (C := RX9) (As := []) (rest := []) ⟨hx, hb, hml, hown, hts⟩ (jw_X9_ends D am cI cZ hj N hqv7) (cwV 0 hts gX9_readsTilt_X9_ends rfl rfl rfl yd_X9_ends ⟨Nat.le_of_ble_eq_true rfl, Nat.le_of_ble_eq_true rfl⟩) hK hI 0 (mg_0 am cI cZ st6) rfl rfl hl.1 rfl (Nat.le_of_ble_eq_true rfl) dX9_readsTilt_42 (fun H locs hI => ?_)
      refine W.eq (g2 := F0 m 45 ls [.int v7]) rfl ?_
      obtain ⟨g9, hM⟩ := gd_at hM
      have hz := Option.some.inj hM
      exact W.zret hx hb hr (isZ_n g9) (fun t ht hW => jq_i hK hI hz ht hW) hI.2.2.2 dX9_readsTilt_45
    · replace hM := if_t c4 hM
      refine lv_iconst (v := (0 : Int32)) hx hb dX9_readsTilt_22 (by decide) ?_
      have hz := Option.some.inj hM
      exact W.zret hx hb hr rfl (fun t ht hW => jq_i hK hI hz ht hW) hI.2.2.2 dX9_readsTilt_23
set_option maxRecDepth 20000 in
theorem hi_X9_readsItem_X9 : ∀ w ∈ wsX90, w ∈ wsX9_readsItem := by decide +kernel
set_option maxHeartbeats 4000000 in
set_option maxRecDepth 100000 in
theorem jw_X9_readsItem {l : Launch} (D : va_G) (am : Nat → Nat) (cI cZ : ClassId) (hj : aJ am 24) (N : Nat) {st stZ : PS} {rZ : Int32} (hM : jm_X9_readsItem N st = some (rZ, stZ)) : Met l yX9_readsItem wsX9_readsItem ({ frames := 5, cells := 0, slots := 0, locals := 109 }) (va_Pc [.ref (am 0)] (JH D (mW am cI cZ) (mTy cI cZ) st)) (JQ D (aA am 24) (mW am cI cZ) (mTy cI cZ) (some (.int rZ)) stZ) 0 0 (aA am 24) := by
  refine jStart (cc := cX9_readsItem) (maxL := 1) (ret := (some .boolean)) [.ref (am 0)] (by decide) rfl (Nat.le_of_ble_eq_true rfl) (fun p e s m below meth c ls hx hb hr hlocks hts hown hml hK hI hl => ?_)
  have hown : s.vm.findClass RX9 = some m.cls := hown
  replace hl : lv_has ls 1 [(0, .ref (am 0))] := hl
  generalize hAV : ([.ref (am 0)] : List Value).toArray = AV at hts ⊢
  have f_0 := hts (.fieldLink RX9 98 "PuppetBarModel" "token" "I") (by decide +kernel)
  unfold jm_X9_readsItem at hM
  refine lv_aload_n hx hb dX9_readsItem_0 rfl (lv_at hl 0 rfl) ?_
  refine va_get (D := D) (ci := 9) (v := .int (st.1 0 4)) (C := RX9) (T := TX9) (N := 43) hx hb hts hi_X9_readsItem_X9 hown hK hI.1 0 (mg_0 am cI cZ st) rfl 4 (by decide) f_0 (fun _ h9 => h9) rfl dX9_readsItem_1 ?_
  by_cases c1 : (st.1 0 4) = (98 : Int32)
  · replace hM := if_t c1 hM
    refine lv_lookup (off := 62) (tgt := 66) hx hb dX9_readsItem_4 (by decide) (by rw [c1]; decide) (by decide) ?_
    refine lv_aload_n hx hb dX9_readsItem_66 rfl (lv_at hl 0 rfl) ?_
    obtain ⟨v2, st3, hqv2, hM⟩ := bd_at hM
    refine jcallV (C := RX9) (As := []) (rest := []) ⟨hx, hb, hml, hown, hts⟩ (jw_X9_readsBeat D am cI cZ hj N hqv2) (cwV 0 hts gX9_readsItem_X9_readsBeat rfl rfl rfl yd_X9_readsBeat ⟨Nat.le_of_ble_eq_true rfl, Nat.le_of_ble_eq_true rfl⟩) hK hI 0 (mg_0 am cI cZ st) rfl rfl hl.1 rfl (Nat.le_of_ble_eq_true rfl) dX9_readsItem_67 (fun H locs hI => ?_)
    refine W.eq (g2 := F0 m 70 ls [.int v2]) rfl ?_
    obtain ⟨g4, hM⟩ := gd_at hM
    have hz := Option.some.inj hM
    exact W.zret hx hb hr (isZ_n g4) (fun t ht hW => jq_i hK hI hz ht hW) hI.2.2.2 dX9_readsItem_70
  · replace hM := if_f c1 hM
    by_cases c5 : (st.1 0 4) = (108 : Int32)
    · replace hM := if_t c5 hM
      refine lv_lookup (off := 52) (tgt := 56) hx hb dX9_readsItem_4 (by decide) (by rw [c5]; decide) (by decide) ?_
      refine lv_aload_n hx hb dX9_readsItem_56 rfl (lv_at hl 0 rfl) ?_
      obtain ⟨v6, st7, hqv6, hM⟩ := bd_at hM
      refine jcallV (C := RX9) (As := []) (rest := []) ⟨hx, hb, hml, hown, hts⟩ (jw_X9_readsLimb D am cI cZ hj N hqv6) (cwV 0 hts gX9_readsItem_X9_readsLimb rfl rfl rfl yd_X9_readsLimb ⟨Nat.le_of_ble_eq_true rfl, Nat.le_of_ble_eq_true rfl⟩) hK hI 0 (mg_0 am cI cZ st) rfl rfl hl.1 rfl (Nat.le_of_ble_eq_true rfl) dX9_readsItem_57 (fun H locs hI => ?_)
      refine W.eq (g2 := F0 m 60 ls [.int v6]) rfl ?_
      obtain ⟨g8, hM⟩ := gd_at hM
      have hz := Option.some.inj hM
      exact W.zret hx hb hr (isZ_n g8) (fun t ht hW => jq_i hK hI hz ht hW) hI.2.2.2 dX9_readsItem_60
    · replace hM := if_f c5 hM
      by_cases c9 : (st.1 0 4) = (115 : Int32)
      · replace hM := if_t c9 hM
        refine lv_lookup (off := 57) (tgt := 61) hx hb dX9_readsItem_4 (by decide) (by rw [c9]; decide) (by decide) ?_
        refine lv_aload_n hx hb dX9_readsItem_61 rfl (lv_at hl 0 rfl) ?_
        obtain ⟨v10, st11, hqv10, hM⟩ := bd_at hM
        refine jcallV (C := RX9) (As := []) (rest := []) ⟨hx, hb, hml, hown, hts⟩ (jw_X9_readsString D am cI cZ hj N hqv10) (cwV 0 hts gX9_readsItem_X9_readsString rfl rfl rfl yd_X9_readsString ⟨Nat.le_of_ble_eq_true rfl, Nat.le_of_ble_eq_true rfl⟩) hK hI 0 (mg_0 am cI cZ st) rfl rfl hl.1 rfl (Nat.le_of_ble_eq_true rfl) dX9_readsItem_62 (fun H locs hI => ?_)
        refine W.eq (g2 := F0 m 65 ls [.int v10]) rfl ?_
        obtain ⟨g12, hM⟩ := gd_at hM
        have hz := Option.some.inj hM
        exact W.zret hx hb hr (isZ_n g12) (fun t ht hW => jq_i hK hI hz ht hW) hI.2.2.2 dX9_readsItem_65
      · replace hM := if_f c9 hM
        by_cases c13 : (st.1 0 4) = (116 : Int32)
        · replace hM := if_t c13 hM
          refine lv_lookup (off := 72) (tgt := 76) hx hb dX9_readsItem_4 (by decide) (by rw [c13]; decide) (by decide) ?_
          refine lv_aload_n hx hb dX9_readsItem_76 rfl (lv_at hl 0 rfl) ?_
          obtain ⟨v14, st15, hqv14, hM⟩ := bd_at hM
          refine jcallV (C := RX9) (As := []) (rest := []) ⟨hx, hb, hml, hown, hts⟩ (jw_X9_readsTilt D am cI cZ hj N hqv14) (cwV 0 hts gX9_readsItem_X9_readsTilt rfl rfl rfl yd_X9_readsTilt ⟨Nat.le_of_ble_eq_true rfl, Nat.le_of_ble_eq_true rfl⟩) hK hI 0 (mg_0 am cI cZ st) rfl rfl hl.1 rfl (Nat.le_of_ble_eq_true rfl) dX9_readsItem_77 (fun H locs hI => ?_)
          refine W.eq (g2 := F0 m 80 ls [.int v14]) rfl ?_
          obtain ⟨g16, hM⟩ := gd_at hM
          have hz := Option.some.inj hM
          exact W.zret hx hb hr (isZ_n g16) (fun t ht hW => jq_i hK hI hz ht hW) hI.2.2.2 dX9_readsItem_80
        · replace hM := if_f c13 hM
          by_cases c17 : (st.1 0 4) = (117 : Int32)
          · replace hM := if_t c17 hM
            refine lv_lookup (off := 67) (tgt := 71) hx hb dX9_readsItem_4 (by decide) (by rw [c17]; decide) (by decide) ?_
            refine lv_aload_n hx hb dX9_readsItem_71 rfl (lv_at hl 0 rfl) ?_
            obtain ⟨v18, st19, hqv18, hM⟩ := bd_at hM
            refine jcallV (C := RX9) (As := []) (rest := []) ⟨hx, hb, hml, hown, hts⟩ (jw_X9_readsLift D am cI cZ hj N hqv18) (cwV 0 hts gX9_readsItem_X9_readsLift rfl rfl rfl yd_X9_readsLift ⟨Nat.le_of_ble_eq_true rfl, Nat.le_of_ble_eq_true rfl⟩) hK hI 0 (mg_0 am cI cZ st) rfl rfl hl.1 rfl (Nat.le_of_ble_eq_true rfl) dX9_readsItem_72 (fun H locs hI => ?_)
            refine W.eq (g2 := F0 m 75 ls [.int v18]) rfl ?_
            obtain ⟨g20, hM⟩ := gd_at hM
            have hz := Option.some.inj hM
            exact W.zret hx hb hr (isZ_n g20) (fun t ht hW => jq_i hK hI hz ht hW) hI.2.2.2 dX9_readsItem_75
          · replace hM := if_f c17 hM
            refine lv_lookup (off := 77) (tgt := 81) hx hb dX9_readsItem_4 (by decide) (lk_no (ne_ti c1) (lk_no (ne_ti c5) (lk_no (ne_ti c9) (lk_no (ne_ti c13) (lk_no (ne_ti c17) rfl))))) (by decide) ?_
            refine lv_iconst (v := (0 : Int32)) hx hb dX9_readsItem_81 (by decide) ?_
            have hz := Option.some.inj hM
            exact W.zret hx hb hr rfl (fun t ht hW => jq_i hK hI hz ht hW) hI.2.2.2 dX9_readsItem_82
set_option maxRecDepth 20000 in
theorem hi_X9_faultOf_X9 : ∀ w ∈ wsX90, w ∈ wsX9_faultOf := by decide +kernel
set_option maxHeartbeats 4000000 in
set_option maxRecDepth 100000 in
theorem jw_X9_faultOf {l : Launch} (D : va_G) (am : Nat → Nat) (cI cZ : ClassId) (hj : aJ am 24) (N : Nat) {st stZ : PS} {rZ : Int32} (hM : jm_X9_faultOf N st = some (rZ, stZ)) : Met l yX9_faultOf wsX9_faultOf ({ frames := 6, cells := 0, slots := 0, locals := 129 }) (va_Pc [.ref (am 0)] (JH D (mW am cI cZ) (mTy cI cZ) st)) (JQ D (aA am 24) (mW am cI cZ) (mTy cI cZ) (some (.int rZ)) stZ) 0 0 (aA am 24) := by
  refine jStart (cc := cX9_faultOf) (maxL := 1) (ret := (some .int)) [.ref (am 0)] (by decide) rfl (Nat.le_of_ble_eq_true rfl) (fun p e s m below meth c ls hx hb hr hlocks hts hown hml hK hI hl => ?_)
  have hown : s.vm.findClass RX9 = some m.cls := hown
  replace hl : lv_has ls 1 [(0, .ref (am 0))] := hl
  generalize hAV : ([.ref (am 0)] : List Value).toArray = AV at hts ⊢
  have f_0 := hts (.fieldLink RX9 88 "PuppetBarModel" "readAt" "I") (by decide +kernel)
  have f_1 := hts (.fieldLink RX9 114 "PuppetBarModel" "readLimbs" "I") (by decide +kernel)
  have f_2 := hts (.fieldLink RX9 125 "PuppetBarModel" "readStrings" "I") (by decide +kernel)
  have f_3 := hts (.fieldLink RX9 128 "PuppetBarModel" "readBeats" "I") (by decide +kernel)
  have f_4 := hts (.fieldLink RX9 159 "PuppetBarModel" "readItems" "I") (by decide +kernel)
  have f_5 := hts (.fieldLink RX9 131 "PuppetBarModel" "isLiftRead" "Z") (by decide +kernel)
  have f_6 := hts (.fieldLink RX9 138 "PuppetBarModel" "isTiltRead" "Z") (by decide +kernel)
  have f_7 := hts (.fieldLink RX9 135 "PuppetBarModel" "readLift" "I") (by decide +kernel)
  have f_8 := hts (.fieldLink RX9 141 "PuppetBarModel" "readTilt" "I") (by decide +kernel)
  have f_9 := hts (.fieldLink RX9 98 "PuppetBarModel" "token" "I") (by decide +kernel)
  have f_10 := hts (.fieldLink RX9 95 "PuppetBarModel" "tokenAt" "I") (by decide +kernel)
  have f_11 := hts (.fieldLink RX9 84 "PuppetBarModel" "byteMany" "I") (by decide +kernel)
  unfold jm_X9_faultOf at hM
  refine lv_aload_n hx hb dX9_faultOf_0 rfl (lv_at hl 0 rfl) ?_
  refine lv_iconst (v := (0 : Int32)) hx hb dX9_faultOf_1 (by decide) ?_
  refine jput (D := D) (ci := 9) (v := .int (0 : Int32)) (ty := .int) (C := RX9) (T := TX9) (N := 43) (st2 := pU st 0 2 (0 : Int32)) hx hb hts hi_X9_faultOf_X9 tyX9 tyX9_ok nmX9 hown hK (mD hj) hI 0 (mg_0 am cI cZ st) rfl 2 (by decide) f_0 (fun _ h9 => h9) rfl (by decide +kernel) rfl rfl (Nat.le_of_ble_eq_true rfl) (ms_0_2 am cI cZ st _) dX9_faultOf_2 (fun st1 est1 H locs hI => ?_)
  replace hM := nm_at est1 hM
  refine lv_aload_n hx hb dX9_faultOf_5 rfl (lv_at hl 0 rfl) ?_
  refine lv_iconst (v := (0 : Int32)) hx hb dX9_faultOf_6 (by decide) ?_
  refine jput (D := D) (ci := 9) (v := .int (0 : Int32)) (ty := .int) (C := RX9) (T := TX9) (N := 43) (st2 := pU st1 0 6 (0 : Int32)) hx hb hts hi_X9_faultOf_X9 tyX9 tyX9_ok nmX9 hown hK (mD hj) hI 0 (mg_0 am cI cZ st1) rfl 6 (by decide) f_1 (fun _ h9 => h9) rfl (by decide +kernel) rfl rfl (Nat.le_of_ble_eq_true rfl) (ms_0_6 am cI cZ st1 _) dX9_faultOf_7 (fun st2 est2 H locs hI => ?_)
  replace hM := nm_at est2 hM
  refine lv_aload_n hx hb dX9_faultOf_10 rfl (lv_at hl 0 rfl) ?_
  refine lv_iconst (v := (0 : Int32)) hx hb dX9_faultOf_11 (by decide) ?_
  refine jput (D := D) (ci := 9) (v := .int (0 : Int32)) (ty := .int) (C := RX9) (T := TX9) (N := 43) (st2 := pU st2 0 7 (0 : Int32)) hx hb hts hi_X9_faultOf_X9 tyX9 tyX9_ok nmX9 hown hK (mD hj) hI 0 (mg_0 am cI cZ st2) rfl 7 (by decide) f_2 (fun _ h9 => h9) rfl (by decide +kernel) rfl rfl (Nat.le_of_ble_eq_true rfl) (ms_0_7 am cI cZ st2 _) dX9_faultOf_12 (fun st3 est3 H locs hI => ?_)
  replace hM := nm_at est3 hM
  refine lv_aload_n hx hb dX9_faultOf_15 rfl (lv_at hl 0 rfl) ?_
  refine lv_iconst (v := (0 : Int32)) hx hb dX9_faultOf_16 (by decide) ?_
  refine jput (D := D) (ci := 9) (v := .int (0 : Int32)) (ty := .int) (C := RX9) (T := TX9) (N := 43) (st2 := pU st3 0 8 (0 : Int32)) hx hb hts hi_X9_faultOf_X9 tyX9 tyX9_ok nmX9 hown hK (mD hj) hI 0 (mg_0 am cI cZ st3) rfl 8 (by decide) f_3 (fun _ h9 => h9) rfl (by decide +kernel) rfl rfl (Nat.le_of_ble_eq_true rfl) (ms_0_8 am cI cZ st3 _) dX9_faultOf_17 (fun st4 est4 H locs hI => ?_)
  replace hM := nm_at est4 hM
  refine lv_aload_n hx hb dX9_faultOf_20 rfl (lv_at hl 0 rfl) ?_
  refine lv_iconst (v := (0 : Int32)) hx hb dX9_faultOf_21 (by decide) ?_
  refine jput (D := D) (ci := 9) (v := .int (0 : Int32)) (ty := .int) (C := RX9) (T := TX9) (N := 43) (st2 := pU st4 0 9 (0 : Int32)) hx hb hts hi_X9_faultOf_X9 tyX9 tyX9_ok nmX9 hown hK (mD hj) hI 0 (mg_0 am cI cZ st4) rfl 9 (by decide) f_4 (fun _ h9 => h9) rfl (by decide +kernel) rfl rfl (Nat.le_of_ble_eq_true rfl) (ms_0_9 am cI cZ st4 _) dX9_faultOf_22 (fun st5 est5 H locs hI => ?_)
  replace hM := nm_at est5 hM
  refine lv_aload_n hx hb dX9_faultOf_25 rfl (lv_at hl 0 rfl) ?_
  refine lv_iconst (v := (0 : Int32)) hx hb dX9_faultOf_26 (by decide) ?_
  refine jput (D := D) (ci := 9) (v := .int (0 : Int32)) (ty := .boolean) (C := RX9) (T := TX9) (N := 43) (st2 := pU st5 0 10 (0 : Int32)) hx hb hts hi_X9_faultOf_X9 tyX9 tyX9_ok nmX9 hown hK (mD hj) hI 0 (mg_0 am cI cZ st5) rfl 10 (by decide) f_5 (fun _ h9 => h9) rfl (by decide +kernel) rfl rfl (Nat.le_of_ble_eq_true rfl) (ms_0_10 am cI cZ st5 _) dX9_faultOf_27 (fun st6 est6 H locs hI => ?_)
  replace hM := nm_at est6 hM
  refine lv_aload_n hx hb dX9_faultOf_30 rfl (lv_at hl 0 rfl) ?_
  refine lv_iconst (v := (0 : Int32)) hx hb dX9_faultOf_31 (by decide) ?_
  refine jput (D := D) (ci := 9) (v := .int (0 : Int32)) (ty := .boolean) (C := RX9) (T := TX9) (N := 43) (st2 := pU st6 0 11 (0 : Int32)) hx hb hts hi_X9_faultOf_X9 tyX9 tyX9_ok nmX9 hown hK (mD hj) hI 0 (mg_0 am cI cZ st6) rfl 11 (by decide) f_6 (fun _ h9 => h9) rfl (by decide +kernel) rfl rfl (Nat.le_of_ble_eq_true rfl) (ms_0_11 am cI cZ st6 _) dX9_faultOf_32 (fun st7 est7 H locs hI => ?_)
  replace hM := nm_at est7 hM
  refine lv_aload_n hx hb dX9_faultOf_35 rfl (lv_at hl 0 rfl) ?_
  refine lv_bipush (v := (20 : Int32)) hx hb dX9_faultOf_36 (by decide) ?_
  refine jput (D := D) (ci := 9) (v := .int (20 : Int32)) (ty := .int) (C := RX9) (T := TX9) (N := 43) (st2 := pU st7 0 12 (20 : Int32)) hx hb hts hi_X9_faultOf_X9 tyX9 tyX9_ok nmX9 hown hK (mD hj) hI 0 (mg_0 am cI cZ st7) rfl 12 (by decide) f_7 (fun _ h9 => h9) rfl (by decide +kernel) rfl rfl (Nat.le_of_ble_eq_true rfl) (ms_0_12 am cI cZ st7 _) dX9_faultOf_38 (fun st8 est8 H locs hI => ?_)
  replace hM := nm_at est8 hM
  refine lv_aload_n hx hb dX9_faultOf_41 rfl (lv_at hl 0 rfl) ?_
  refine lv_iconst (v := (0 : Int32)) hx hb dX9_faultOf_42 (by decide) ?_
  refine jput (D := D) (ci := 9) (v := .int (0 : Int32)) (ty := .int) (C := RX9) (T := TX9) (N := 43) (st2 := pU st8 0 13 (0 : Int32)) hx hb hts hi_X9_faultOf_X9 tyX9 tyX9_ok nmX9 hown hK (mD hj) hI 0 (mg_0 am cI cZ st8) rfl 13 (by decide) f_8 (fun _ h9 => h9) rfl (by decide +kernel) rfl rfl (Nat.le_of_ble_eq_true rfl) (ms_0_13 am cI cZ st8 _) dX9_faultOf_43 (fun st9 est9 H locs hI => ?_)
  replace hM := nm_at est9 hM
  refine lv_aload_n hx hb dX9_faultOf_46 rfl (lv_at hl 0 rfl) ?_
  obtain ⟨v10, st11, hqv10, hM⟩ := bd_at hM
  refine jcallV (C := RX9) (As := []) (rest := []) ⟨hx, hb, hml, hown, hts⟩ (jw_X9_reads D am cI cZ hj N hqv10) (cwV 0 hts gX9_faultOf_X9_reads rfl rfl rfl yd_X9_reads ⟨Nat.le_of_ble_eq_true rfl, Nat.le_of_ble_eq_true rfl⟩) hK hI 0 (mg_0 am cI cZ st9) rfl rfl hl.1 rfl (Nat.le_of_ble_eq_true rfl) dX9_faultOf_47 (fun H locs hI => ?_)
  refine W.eq (g2 := F0 m 50 ls []) rfl ?_
  have lp0 : ∀ (n : Nat) (st12 : PS) (H : Heap) (locs : List Loc) (ls : Array Slot), JI D (aA am 24) (mW am cI cZ) s.heap st12 H locs → lv_has ls 1 [(0, .ref (am 0))] → iter (fun q => jm_X9_faultOf_L50 N q) n st12 = some (rZ, stZ) → W p l e (headSpec wsX9_faultOf { frames := 6, cells := 0, slots := 0, locals := 129 }).room s m AV below meth c H locs 0 0 (MQ below (JQ D (aA am 24) (mW am cI cZ) (mTy cI cZ) (some (.int rZ)) stZ) AV s 0 0 (aA am 24)) (F0 m 50 ls []) := by
    intro n
    induction n with
    | zero =>
      intro _ _ _ _ _ _ hM
      exact absurd hM (fun h => iter_zero h)
    | succ n ih0 =>
      intro st12 H locs ls hI hl hM
      obtain ⟨z0, hM, hk0⟩ := iter_succ hM
      replace hM : jm_X9_faultOf_L50 N st12 = some z0 := hM
      unfold jm_X9_faultOf_L50 at hM
      refine lv_aload_n hx hb dX9_faultOf_50 rfl (lv_at hl 0 rfl) ?_
      refine va_get (D := D) (ci := 9) (v := .int (st12.1 0 4)) (C := RX9) (T := TX9) (N := 43) hx hb hts hi_X9_faultOf_X9 hown hK hI.1 0 (mg_0 am cI cZ st12) rfl 4 (by decide) f_9 (fun _ h9 => h9) rfl dX9_faultOf_51 ?_
      refine lv_iconst (v := (-1 : Int32)) hx hb dX9_faultOf_54 (by decide) ?_
      refine lv_icmp_eq (tgt := 102) hx hb dX9_faultOf_55 (by decide) (fun c13 => ?_) (fun c13 => ?_)
      · replace hM := if_t c13 hM
        refine lv_bipush (v := (-9 : Int32)) hx hb dX9_faultOf_102 (by decide) ?_
        have hz := Option.some.inj hM
        subst hz
        have hz := kn_r hk0
        exact W.iret hx hb hr (fun t ht hW => jq_i hK hI hz ht hW) hI.2.2.2 dX9_faultOf_104
      · replace hM := if_f c13 hM
        refine lv_aload_n hx hb dX9_faultOf_58 rfl (lv_at hl 0 rfl) ?_
        obtain ⟨v14, st15, hqv14, hM⟩ := bd_at hM
        refine jcallV (C := RX9) (As := []) (rest := []) ⟨hx, hb, hml, hown, hts⟩ (jw_X9_readsItem D am cI cZ hj N hqv14) (cwV 0 hts gX9_faultOf_X9_readsItem rfl rfl rfl yd_X9_readsItem ⟨Nat.le_of_ble_eq_true rfl, Nat.le_of_ble_eq_true rfl⟩) hK hI 0 (mg_0 am cI cZ st12) rfl rfl hl.1 rfl (Nat.le_of_ble_eq_true rfl) dX9_faultOf_59 (fun H locs hI => ?_)
        refine W.eq (g2 := F0 m 62 ls [.int v14]) rfl ?_
        refine lv_if_ne (tgt := 85) hx hb dX9_faultOf_62 (by decide) (fun c16 => ?_) (fun c16 => ?_)
        · replace hM := if_f c16 hM
          refine lv_aload_n hx hb dX9_faultOf_85 rfl (lv_at hl 0 rfl) ?_
          refine lv_dup hx hb dX9_faultOf_86 rfl ?_
          refine va_get (D := D) (ci := 9) (v := .int (st15.1 0 9)) (C := RX9) (T := TX9) (N := 43) hx hb hts hi_X9_faultOf_X9 hown hK hI.1 0 (mg_0 am cI cZ st15) rfl 9 (by decide) f_4 (fun _ h9 => h9) rfl dX9_faultOf_87 ?_
          refine lv_iconst (v := (1 : Int32)) hx hb dX9_faultOf_90 (by decide) ?_
          refine lv_iadd hx hb dX9_faultOf_91 ?_
          refine jput (D := D) (ci := 9) (v := .int ((st15.1 0 9) + (1 : Int32))) (ty := .int) (C := RX9) (T := TX9) (N := 43) (st2 := pU st15 0 9 ((st15.1 0 9) + (1 : Int32))) hx hb hts hi_X9_faultOf_X9 tyX9 tyX9_ok nmX9 hown hK (mD hj) hI 0 (mg_0 am cI cZ st15) rfl 9 (by decide) f_4 (fun _ h9 => h9) rfl (by decide +kernel) rfl rfl (Nat.le_of_ble_eq_true rfl) (ms_0_9 am cI cZ st15 _) dX9_faultOf_92 (fun st17 est17 H locs hI => ?_)
          replace hM := nm_at est17 hM
          refine lv_aload_n hx hb dX9_faultOf_95 rfl (lv_at hl 0 rfl) ?_
          obtain ⟨v18, st19, hqv18, hM⟩ := bd_at hM
          refine jcallV (C := RX9) (As := []) (rest := []) ⟨hx, hb, hml, hown, hts⟩ (jw_X9_reads D am cI cZ hj N hqv18) (cwV 0 hts gX9_faultOf_X9_reads rfl rfl rfl yd_X9_reads ⟨Nat.le_of_ble_eq_true rfl, Nat.le_of_ble_eq_true rfl⟩) hK hI 0 (mg_0 am cI cZ st17) rfl rfl hl.1 rfl (Nat.le_of_ble_eq_true rfl) dX9_faultOf_96 (fun H locs hI => ?_)
          refine W.eq (g2 := F0 m 99 ls []) rfl ?_
          refine lv_goto (tgt := 50) hx hb dX9_faultOf_99 (by decide) ?_
          have hz := Option.some.inj hM
          subst hz
          exact ih0 st19 _ _ _ hI (lv_sub hl [0] rfl) hk0
        · replace hM := if_t c16 hM
          refine lv_aload_n hx hb dX9_faultOf_65 rfl (lv_at hl 0 rfl) ?_
          refine va_get (D := D) (ci := 9) (v := .int (st15.1 0 4)) (C := RX9) (T := TX9) (N := 43) hx hb hts hi_X9_faultOf_X9 hown hK hI.1 0 (mg_0 am cI cZ st15) rfl 4 (by decide) f_9 (fun _ h9 => h9) rfl dX9_faultOf_66 ?_
          refine lv_iconst (v := (-1 : Int32)) hx hb dX9_faultOf_69 (by decide) ?_
          refine lv_icmp_ne (tgt := 80) hx hb dX9_faultOf_70 (by decide) (fun c20 => ?_) (fun c20 => ?_)
          · replace hM := if_f c20 hM
            refine lv_aload_n hx hb dX9_faultOf_80 rfl (lv_at hl 0 rfl) ?_
            refine va_get (D := D) (ci := 9) (v := .int (st15.1 0 3)) (C := RX9) (T := TX9) (N := 43) hx hb hts hi_X9_faultOf_X9 hown hK hI.1 0 (mg_0 am cI cZ st15) rfl 3 (by decide) f_10 (fun _ h9 => h9) rfl dX9_faultOf_81 ?_
            have hz := Option.some.inj hM
            subst hz
            have hz := kn_r hk0
            exact W.iret hx hb hr (fun t ht hW => jq_i hK hI hz ht hW) hI.2.2.2 dX9_faultOf_84
          · replace hM := if_t c20 hM
            refine lv_aload_n hx hb dX9_faultOf_73 rfl (lv_at hl 0 rfl) ?_
            refine va_get (D := D) (ci := 9) (v := .int (st15.1 0 0)) (C := RX9) (T := TX9) (N := 43) hx hb hts hi_X9_faultOf_X9 hown hK hI.1 0 (mg_0 am cI cZ st15) rfl 0 (by decide) f_11 (fun _ h9 => h9) rfl dX9_faultOf_74 ?_
            refine lv_goto (tgt := 84) hx hb dX9_faultOf_77 (by decide) ?_
            have hz := Option.some.inj hM
            subst hz
            have hz := kn_r hk0
            exact W.iret hx hb hr (fun t ht hW => jq_i hK hI hz ht hW) hI.2.2.2 dX9_faultOf_84
  exact lp0 N st11 _ _ _ hI (lv_sub hl [0] rfl) hM
set_option maxRecDepth 20000 in
theorem hi_X9_layFars_X9 : ∀ w ∈ wsX90, w ∈ wsX9_layFars := by decide +kernel
set_option maxHeartbeats 4000000 in
set_option maxRecDepth 100000 in
theorem jw_X9_layFars {l : Launch} (D : va_G) (am : Nat → Nat) (cI cZ : ClassId) (hj : aJ am 24) (N : Nat) {st stZ : PS} {rZ : Unit} (hM : jm_X9_layFars N st = some (rZ, stZ)) : Met l yX9_layFars wsX9_layFars ({ frames := 0, cells := 0, slots := 0, locals := 0 }) (va_Pc [.ref (am 0)] (JH D (mW am cI cZ) (mTy cI cZ) st)) (JQ D (aA am 24) (mW am cI cZ) (mTy cI cZ) none stZ) 0 0 (aA am 24) := by
  refine jStart (cc := cX9_layFars) (maxL := 4) (ret := none) [.ref (am 0)] (by decide) rfl (Nat.le_of_ble_eq_true rfl) (fun p e s m below meth c ls hx hb hr hlocks hts hown hml hK hI hl => ?_)
  have hown : s.vm.findClass RX9 = some m.cls := hown
  replace hl : lv_has ls 4 [(0, .ref (am 0))] := hl
  generalize hAV : ([.ref (am 0)] : List Value).toArray = AV at hts ⊢
  have f_0 := hts (.fieldLink RX9 169 "PuppetBarModel" "n" "I") (by decide +kernel)
  have f_1 := hts (.fieldLink RX9 43 "PuppetBarModel" "fars" "[I") (by decide +kernel)
  have f_2 := hts (.fieldLink RX9 28 "PuppetBarModel" "bones" "[I") (by decide +kernel)
  have f_3 := hts (.fieldLink RX9 25 "PuppetBarModel" "parents" "[I") (by decide +kernel)
  unfold jm_X9_layFars at hM
  refine lv_iconst (v := (0 : Int32)) hx hb dX9_layFars_0 (by decide) ?_
  refine lv_istore_n (lv' := [(1, .int (0 : Int32)), (0, .ref (am 0))]) hx hb dX9_layFars_1 rfl hl (by decide) rfl (fun ls hl => ?_)
  have lp0 : ∀ (n : Nat) (w2 : Int32) (st1 : PS) (H : Heap) (locs : List Loc) (ls : Array Slot), JI D (aA am 24) (mW am cI cZ) s.heap st1 H locs → lv_has ls 4 [(0, .ref (am 0)), (1, .int w2)] → iter (fun q => jm_X9_layFars_L2 N q.1 q.2) n (w2, st1) = some (rZ, stZ) → W p l e (headSpec wsX9_layFars { frames := 0, cells := 0, slots := 0, locals := 0 }).room s m AV below meth c H locs 0 0 (MQ below (JQ D (aA am 24) (mW am cI cZ) (mTy cI cZ) none stZ) AV s 0 0 (aA am 24)) (F0 m 2 ls []) := by
    intro n
    induction n with
    | zero =>
      intro _ _ _ _ _ _ _ hM
      exact absurd hM (fun h => iter_zero h)
    | succ n ih0 =>
      intro w2 st1 H locs ls hI hl hM
      obtain ⟨z0, hM, hk0⟩ := iter_succ hM
      replace hM : jm_X9_layFars_L2 N w2 st1 = some z0 := hM
      unfold jm_X9_layFars_L2 at hM
      refine lv_iload_n hx hb dX9_layFars_2 rfl (lv_at hl 1 rfl) ?_
      refine lv_aload_n hx hb dX9_layFars_3 rfl (lv_at hl 0 rfl) ?_
      refine va_get (D := D) (ci := 9) (v := .int (st1.1 0 18)) (C := RX9) (T := TX9) (N := 43) hx hb hts hi_X9_layFars_X9 hown hK hI.1 0 (mg_0 am cI cZ st1) rfl 18 (by decide) f_0 (fun _ h9 => h9) rfl dX9_layFars_4 ?_
      refine lv_icmp_ge (tgt := 89) hx hb dX9_layFars_7 (by decide) (fun c3 => ?_) (fun c3 => ?_)
      · replace hM := if_t c3 hM
        have hz := Option.some.inj hM
        subst hz
        have hz := kn_r hk0
        exact W.vret hx hb hr (fun t ht hW => jq_v hK hI hz ht hW) hI.2.2.2 dX9_layFars_89
      · replace hM := if_f c3 hM
        refine lv_aload_n hx hb dX9_layFars_10 rfl (lv_at hl 0 rfl) ?_
        refine va_get (D := D) (ci := 9) (v := .ref (am 12)) (C := RX9) (T := TX9) (N := 43) hx hb hts hi_X9_layFars_X9 hown hK hI.1 0 (mg_0 am cI cZ st1) rfl 27 (by decide) f_1 (fun _ h9 => h9) rfl dX9_layFars_11 ?_
        refine lv_bipush (v := (8 : Int32)) hx hb dX9_layFars_14 (by decide) ?_
        refine lv_iload_n hx hb dX9_layFars_16 rfl (lv_at hl 1 rfl) ?_
        refine lv_imul hx hb dX9_layFars_17 ?_
        refine lv_iload_n hx hb dX9_layFars_18 rfl (lv_at hl 1 rfl) ?_
        refine lv_iadd hx hb dX9_layFars_19 ?_
        refine lv_iconst (v := (0 : Int32)) hx hb dX9_layFars_20 (by decide) ?_
        obtain ⟨g5, hM⟩ := gd_at hM
        refine jiast (x := (0 : Int32)) (st2 := pU st1 12 ((((8 : Int32) * w2) + w2)).toNatClampNeg ((0 : Int32))) hx hb hK (mD hj) hI 12 0 (mg_12 am cI cZ st1) rfl (inB_vp g5) (ms_12 am cI cZ st1 _) dX9_layFars_21 (fun st4 est4 H locs hI => ?_)
        replace hM := nm_at est4 hM
        refine lv_iconst (v := (0 : Int32)) hx hb dX9_layFars_22 (by decide) ?_
        refine lv_istore_n (lv' := [(2, .int (0 : Int32)), (0, .ref (am 0)), (1, .int w2)]) hx hb dX9_layFars_23 rfl hl (by decide) rfl (fun ls hl => ?_)
        have lp1 : ∀ (n : Nat) (w7 : Int32) (st6 : PS) (H : Heap) (locs : List Loc) (ls : Array Slot), JI D (aA am 24) (mW am cI cZ) s.heap st6 H locs → lv_has ls 4 [(0, .ref (am 0)), (1, .int w2), (2, .int w7)] → iter (fun q => jm_X9_layFars_L24 N w2 q.1 q.2) n (w7, st6) = some z0 → W p l e (headSpec wsX9_layFars { frames := 0, cells := 0, slots := 0, locals := 0 }).room s m AV below meth c H locs 0 0 (MQ below (JQ D (aA am 24) (mW am cI cZ) (mTy cI cZ) none stZ) AV s 0 0 (aA am 24)) (F0 m 24 ls []) := by
          intro n
          induction n with
          | zero =>
            intro _ _ _ _ _ _ _ hM
            exact absurd hM (fun h => iter_zero h)
          | succ n ih1 =>
            intro w7 st6 H locs ls hI hl hM
            obtain ⟨z1, hM, hk1⟩ := iter_succ hM
            replace hM : jm_X9_layFars_L24 N w2 w7 st6 = some z1 := hM
            unfold jm_X9_layFars_L24 at hM
            refine lv_iload_n hx hb dX9_layFars_24 rfl (lv_at hl 2 rfl) ?_
            refine lv_iload_n hx hb dX9_layFars_25 rfl (lv_at hl 1 rfl) ?_
            refine lv_icmp_ge (tgt := 83) hx hb dX9_layFars_26 (by decide) (fun c8 => ?_) (fun c8 => ?_)
            · replace hM := if_t c8 hM
              refine lv_iinc (v := (w2 + (1 : Int32))) (lv' := [(1, .int (w2 + (1 : Int32))), (0, .ref (am 0)), (2, .int w7)]) hx hb dX9_layFars_83 hl (k := 1) rfl rfl (by decide) rfl (fun ls hl => ?_)
              refine lv_goto (tgt := 2) hx hb dX9_layFars_86 (by decide) ?_
              have hz := Option.some.inj hM
              subst hz
              have hz := kn_r hk1
              subst hz
              exact ih0 (w2 + (1 : Int32)) st6 _ _ _ hI (lv_sub hl [1, 0] rfl) hk0
            · replace hM := if_f c8 hM
              refine lv_aload_n hx hb dX9_layFars_29 rfl (lv_at hl 0 rfl) ?_
              refine va_get (D := D) (ci := 9) (v := .ref (am 7)) (C := RX9) (T := TX9) (N := 43) hx hb hts hi_X9_layFars_X9 hown hK hI.1 0 (mg_0 am cI cZ st6) rfl 22 (by decide) f_2 (fun _ h9 => h9) rfl dX9_layFars_30 ?_
              refine lv_iload_n hx hb dX9_layFars_33 rfl (lv_at hl 1 rfl) ?_
              obtain ⟨g9, hM⟩ := gd_at hM
              refine va_iald hx hb hK hI.1 7 0 (mg_7 am cI cZ st6) rfl (inB_vp g9) dX9_layFars_34 ?_
              refine lv_aload_n hx hb dX9_layFars_35 rfl (lv_at hl 0 rfl) ?_
              refine va_get (D := D) (ci := 9) (v := .ref (am 12)) (C := RX9) (T := TX9) (N := 43) hx hb hts hi_X9_layFars_X9 hown hK hI.1 0 (mg_0 am cI cZ st6) rfl 27 (by decide) f_1 (fun _ h9 => h9) rfl dX9_layFars_36 ?_
              refine lv_bipush (v := (8 : Int32)) hx hb dX9_layFars_39 (by decide) ?_
              refine lv_aload_n hx hb dX9_layFars_41 rfl (lv_at hl 0 rfl) ?_
              refine va_get (D := D) (ci := 9) (v := .ref (am 6)) (C := RX9) (T := TX9) (N := 43) hx hb hts hi_X9_layFars_X9 hown hK hI.1 0 (mg_0 am cI cZ st6) rfl 21 (by decide) f_3 (fun _ h9 => h9) rfl dX9_layFars_42 ?_
              refine lv_iload_n hx hb dX9_layFars_45 rfl (lv_at hl 1 rfl) ?_
              obtain ⟨g10, hM⟩ := gd_at hM
              refine va_iald hx hb hK hI.1 6 0 (mg_6 am cI cZ st6) rfl (inB_vp g10) dX9_layFars_46 ?_
              refine lv_imul hx hb dX9_layFars_47 ?_
              refine lv_iload_n hx hb dX9_layFars_48 rfl (lv_at hl 2 rfl) ?_
              refine lv_iadd hx hb dX9_layFars_49 ?_
              obtain ⟨g11, hM⟩ := gd_at hM
              refine va_iald hx hb hK hI.1 12 0 (mg_12 am cI cZ st6) rfl (inB_vp g11) dX9_layFars_50 ?_
              refine lv_iadd hx hb dX9_layFars_51 ?_
              refine lv_topi (fun y12 ey12 => ?_)
              replace hM := nm_at ey12 hM
              refine lv_istore_n (lv' := [(3, .int y12), (0, .ref (am 0)), (1, .int w2), (2, .int w7)]) hx hb dX9_layFars_52 rfl hl (by decide) rfl (fun ls hl => ?_)
              refine lv_aload_n hx hb dX9_layFars_53 rfl (lv_at hl 1 rfl) ?_
              refine va_get (D := D) (ci := 9) (v := .ref (am 12)) (C := RX9) (T := TX9) (N := 43) hx hb hts hi_X9_layFars_X9 hown hK hI.1 0 (mg_0 am cI cZ st6) rfl 27 (by decide) f_1 (fun _ h9 => h9) rfl dX9_layFars_54 ?_
              refine lv_bipush (v := (8 : Int32)) hx hb dX9_layFars_57 (by decide) ?_
              refine lv_iload_n hx hb dX9_layFars_59 rfl (lv_at hl 2 rfl) ?_
              refine lv_imul hx hb dX9_layFars_60 ?_
              refine lv_iload_n hx hb dX9_layFars_61 rfl (lv_at hl 3 rfl) ?_
              refine lv_iadd hx hb dX9_layFars_62 ?_
              refine lv_iload_n hx hb dX9_layFars_63 rfl (lv_at hl 0 rfl) ?_
              obtain ⟨g14, hM⟩ := gd_at hM
              refine jiast (x := y12) (st2 := pU st6 12 ((((8 : Int32) * w2) + w7)).toNatClampNeg (y12)) hx hb hK (mD hj) hI 12 0 (mg_12 am cI cZ st6) rfl (inB_vp g14) (ms_12 am cI cZ st6 _) dX9_layFars_64 (fun st13 est13 H locs hI => ?_)
              replace hM := nm_at est13 hM
              refine lv_aload_n hx hb dX9_layFars_65 rfl (lv_at hl 1 rfl) ?_
              refine va_get (D := D) (ci := 9) (v := .ref (am 12)) (C := RX9) (T := TX9) (N := 43) hx hb hts hi_X9_layFars_X9 hown hK hI.1 0 (mg_0 am cI cZ st13) rfl 27 (by decide) f_1 (fun _ h9 => h9) rfl dX9_layFars_66 ?_
              refine lv_bipush (v := (8 : Int32)) hx hb dX9_layFars_69 (by decide) ?_
              refine lv_iload_n hx hb dX9_layFars_71 rfl (lv_at hl 3 rfl) ?_
              refine lv_imul hx hb dX9_layFars_72 ?_
              refine lv_iload_n hx hb dX9_layFars_73 rfl (lv_at hl 2 rfl) ?_
              refine lv_iadd hx hb dX9_layFars_74 ?_
              refine lv_iload_n hx hb dX9_layFars_75 rfl (lv_at hl 0 rfl) ?_
              obtain ⟨g16, hM⟩ := gd_at hM
              refine jiast (x := y12) (st2 := pU st13 12 ((((8 : Int32) * w7) + w2)).toNatClampNeg (y12)) hx hb hK (mD hj) hI 12 0 (mg_12 am cI cZ st13) rfl (inB_vp g16) (ms_12 am cI cZ st13 _) dX9_layFars_76 (fun st15 est15 H locs hI => ?_)
              replace hM := nm_at est15 hM
              refine lv_iinc (v := (w7 + (1 : Int32))) (lv' := [(2, .int (w7 + (1 : Int32))), (3, .int y12), (0, .ref (am 0)), (1, .int w2)]) hx hb dX9_layFars_77 hl (k := 3) rfl rfl (by decide) rfl (fun ls hl => ?_)
              refine lv_goto (tgt := 24) hx hb dX9_layFars_80 (by decide) ?_
              have hz := Option.some.inj hM
              subst hz
              exact ih1 (w7 + (1 : Int32)) st15 _ _ _ hI (lv_sub hl [2, 3, 0] rfl) hk1
        exact lp1 N (0 : Int32) st4 _ _ _ hI (lv_sub hl [1, 2, 0] rfl) hM
  exact lp0 N (0 : Int32) st _ _ _ hI (lv_sub hl [1, 0] rfl) hM
