set_option maxRecDepth 20000 in
theorem hi_X8_cuts_X8 : ∀ w ∈ wsX80, w ∈ wsX8_cuts := by decide +kernel
set_option maxRecDepth 20000 in
theorem hi_X8_cuts_X5 : ∀ w ∈ wsX50, w ∈ wsX8_cuts := by decide +kernel
set_option maxHeartbeats 4000000 in
set_option maxRecDepth 100000 in
theorem jw_X8_cuts {l : Launch} (D : va_G) (am : Nat → Nat) (cI cC cS : ClassId) (hj : aJ am 52) (N : Nat) {x1 : Int32} {st stZ : PS} {rZ : Int32} (hM : jm_X8_cuts N x1 st = some (rZ, stZ)) : Met l yX8_cuts wsX8_cuts ({ frames := 5, cells := 0, slots := 0, locals := 112 }) (va_Pc [.ref (am 0), .int x1] (JH D (cW am cI cC cS) (cTy cI cC cS) st)) (JQ D (aA am 52) (cW am cI cC cS) (cTy cI cC cS) (some (.int rZ)) stZ) 0 0 (aA am 52) := by
  refine jStart (cc := cX8_cuts) (maxL := 2) (ret := (some .int)) [.ref (am 0), .int x1] (by decide) rfl (Nat.le_of_ble_eq_true rfl) (fun p e s m below meth c ls hx hb hr hlocks hts hown hml hK hI hl => ?_)
  have hown : s.vm.findClass RX8 = some m.cls := hown
  replace hl : lv_has ls 2 [(0, .ref (am 0)), (1, .int x1)] := hl
  generalize hAV : ([.ref (am 0), .int x1] : List Value).toArray = AV at hts ⊢
  have f_0 := hts (.fieldLink RX8 29 "PuppetBar" "scene" "LPuppetBar$Scene;") (by decide +kernel)
  have f_1 := hts (.fieldLink RX8 65 "PuppetBar$Scene" "pose" "LPuppetBar$Pose;") (by decide +kernel)
  unfold jm_X8_cuts at hM
  refine lv_aload_n hx hb dX8_cuts_0 rfl (lv_at hl 0 rfl) ?_
  refine lv_iload_n hx hb dX8_cuts_1 rfl (lv_at hl 1 rfl) ?_
  obtain ⟨v1, st2, hqv1, hM⟩ := bd_at hM
  refine jcallV (C := RX8) (As := [.int x1]) (rest := []) ⟨hx, hb, hml, hown, hts⟩ (jw_X8_isString D am cI cC cS hj N hqv1) (cwV 1 hts gX8_cuts_X8_isString rfl rfl rfl yd_X8_isString ⟨Nat.le_of_ble_eq_true rfl, Nat.le_of_ble_eq_true rfl⟩) hK hI 0 (cg_0 am cI cC cS st) rfl rfl hl.1 rfl (Nat.le_of_ble_eq_true rfl) dX8_cuts_2 (fun H locs hI => ?_)
  refine W.eq (g2 := F0 m 5 ls [.int v1]) rfl ?_
  refine lv_if_ne (tgt := 10) hx hb dX8_cuts_5 (by decide) (fun c3 => ?_) (fun c3 => ?_)
  · replace hM := if_f c3 hM
    refine lv_aload_n hx hb dX8_cuts_10 rfl (lv_at hl 0 rfl) ?_
    refine va_get (D := D) (ci := 8) (v := .ref (am 37)) (C := RX8) (T := TX8) (N := 9) hx hb hts hi_X8_cuts_X8 hown hK hI.1 0 (cg_0 am cI cC cS st2) rfl 3 (by decide) f_0 (fun _ h9 => h9) rfl dX8_cuts_11 ?_
    refine va_get (D := D) (ci := 5) (v := .ref (am 38)) (C := RX5) (T := TX5) (N := 3) hx hb hts hi_X8_cuts_X5 hown hK hI.1 37 (cg_37 am cI cC cS st2) rfl 0 (by decide) f_1 (fun _ h9 => h9) rfl dX8_cuts_14 ?_
    refine lv_iload_n hx hb dX8_cuts_17 rfl (lv_at hl 1 rfl) ?_
    obtain ⟨v4, st5, hqv4, hM⟩ := bd_at hM
    refine jcallV (C := RX4) (As := [.int x1]) (rest := []) ⟨hx, hb, hml, hown, hts⟩ (jw_X4_isCut D am cI cC cS hj N (show ck_Pose 38 by decide) hqv4) (cwV 1 hts gX8_cuts_X4_isCut rfl rfl rfl yd_X4_isCut ⟨Nat.le_of_ble_eq_true rfl, Nat.le_of_ble_eq_true rfl⟩) hK hI 38 (cg_38 am cI cC cS st2) rfl rfl hl.1 rfl (Nat.le_of_ble_eq_true rfl) dX8_cuts_18 (fun H locs hI => ?_)
    refine W.eq (g2 := F0 m 21 ls [.int v4]) rfl ?_
    refine lv_if_eq (tgt := 27) hx hb dX8_cuts_21 (by decide) (fun c6 => ?_) (fun c6 => ?_)
    · replace hM := if_t c6 hM
      refine lv_aload_n hx hb dX8_cuts_27 rfl (lv_at hl 0 rfl) ?_
      refine va_get (D := D) (ci := 8) (v := .ref (am 37)) (C := RX8) (T := TX8) (N := 9) hx hb hts hi_X8_cuts_X8 hown hK hI.1 0 (cg_0 am cI cC cS st5) rfl 3 (by decide) f_0 (fun _ h9 => h9) rfl dX8_cuts_28 ?_
      obtain ⟨v7, st8, hqv7, hM⟩ := bd_at hM
      refine jcallV (C := RX5) (As := []) (rest := []) ⟨hx, hb, hml, hown, hts⟩ (jw_X5_remember D am cI cC cS hj N (show ck_Scene 37 by decide) hqv7) (cwV 0 hts gX8_cuts_X5_remember rfl rfl rfl yd_X5_remember ⟨Nat.le_of_ble_eq_true rfl, Nat.le_of_ble_eq_true rfl⟩) hK hI 37 (cg_37 am cI cC cS st5) rfl rfl hl.1 rfl (Nat.le_of_ble_eq_true rfl) dX8_cuts_31 (fun H locs hI => ?_)
      refine W.eq (g2 := F0 m 34 ls []) rfl ?_
      refine lv_aload_n hx hb dX8_cuts_34 rfl (lv_at hl 0 rfl) ?_
      refine va_get (D := D) (ci := 8) (v := .ref (am 37)) (C := RX8) (T := TX8) (N := 9) hx hb hts hi_X8_cuts_X8 hown hK hI.1 0 (cg_0 am cI cC cS st8) rfl 3 (by decide) f_0 (fun _ h9 => h9) rfl dX8_cuts_35 ?_
      refine va_get (D := D) (ci := 5) (v := .ref (am 38)) (C := RX5) (T := TX5) (N := 3) hx hb hts hi_X8_cuts_X5 hown hK hI.1 37 (cg_37 am cI cC cS st8) rfl 0 (by decide) f_1 (fun _ h9 => h9) rfl dX8_cuts_38 ?_
      refine lv_aload_n hx hb dX8_cuts_41 rfl (lv_at hl 0 rfl) ?_
      refine va_get (D := D) (ci := 8) (v := .ref (am 37)) (C := RX8) (T := TX8) (N := 9) hx hb hts hi_X8_cuts_X8 hown hK hI.1 0 (cg_0 am cI cC cS st8) rfl 3 (by decide) f_0 (fun _ h9 => h9) rfl dX8_cuts_42 ?_
      refine va_get (D := D) (ci := 5) (v := .ref (am 38)) (C := RX5) (T := TX5) (N := 3) hx hb hts hi_X8_cuts_X5 hown hK hI.1 37 (cg_37 am cI cC cS st8) rfl 0 (by decide) f_1 (fun _ h9 => h9) rfl dX8_cuts_45 ?_
      obtain ⟨v9, st10, hqv9, hM⟩ := bd_at hM
      refine jcallV (C := RX4) (As := []) (rest := [.ref (am 38)]) ⟨hx, hb, hml, hown, hts⟩ (jw_X4_cut D am cI cC cS hj N (show ck_Pose 38 by decide) hqv9) (cwV 0 hts gX8_cuts_X4_cut rfl rfl rfl yd_X4_cut ⟨Nat.le_of_ble_eq_true rfl, Nat.le_of_ble_eq_true rfl⟩) hK hI 38 (cg_38 am cI cC cS st8) rfl rfl hl.1 rfl (Nat.le_of_ble_eq_true rfl) dX8_cuts_48 (fun H locs hI => ?_)
      refine W.eq (g2 := F0 m 51 ls [.int v9, .ref (am 38)]) rfl ?_
      refine lv_iconst (v := (1 : Int32)) hx hb dX8_cuts_51 (by decide) ?_
      refine lv_iload_n hx hb dX8_cuts_52 rfl (lv_at hl 1 rfl) ?_
      refine lv_ishl hx hb dX8_cuts_53 ?_
      refine lv_ior hx hb dX8_cuts_54 ?_
      obtain ⟨v11, st12, hqv11, hM⟩ := bd_at hM
      refine jcallV (C := RX4) (As := [.int (v9 ||| ((1 : Int32) <<< (x1 &&& 31)))]) (rest := []) ⟨hx, hb, hml, hown, hts⟩ (jw_X4_setCut D am cI cC cS hj N (show ck_Pose 38 by decide) hqv11) (cwV 1 hts gX8_cuts_X4_setCut rfl rfl rfl yd_X4_setCut ⟨Nat.le_of_ble_eq_true rfl, Nat.le_of_ble_eq_true rfl⟩) hK hI 38 (cg_38 am cI cC cS st10) rfl rfl hl.1 rfl (Nat.le_of_ble_eq_true rfl) dX8_cuts_55 (fun H locs hI => ?_)
      refine W.eq (g2 := F0 m 58 ls []) rfl ?_
      refine lv_aload_n hx hb dX8_cuts_58 rfl (lv_at hl 0 rfl) ?_
      obtain ⟨v13, st14, hqv13, hM⟩ := bd_at hM
      refine jcallV (C := RX8) (As := []) (rest := []) ⟨hx, hb, hml, hown, hts⟩ (jw_X8_howManyGrounded D am cI cC cS hj N hqv13) (cwV 0 hts gX8_cuts_X8_howManyGrounded rfl rfl rfl yd_X8_howManyGrounded ⟨Nat.le_of_ble_eq_true rfl, Nat.le_of_ble_eq_true rfl⟩) hK hI 0 (cg_0 am cI cC cS st12) rfl rfl hl.1 rfl (Nat.le_of_ble_eq_true rfl) dX8_cuts_59 (fun H locs hI => ?_)
      refine W.eq (g2 := F0 m 62 ls [.int v13]) rfl ?_
      have hz := Option.some.inj hM
      exact W.iret hx hb hr (fun t ht hW => jq_i hK hI hz ht hW) hI.2.2.2 dX8_cuts_62
    · replace hM := if_f c6 hM
      refine lv_bipush (v := (-2 : Int32)) hx hb dX8_cuts_24 (by decide) ?_
      have hz := Option.some.inj hM
      exact W.iret hx hb hr (fun t ht hW => jq_i hK hI hz ht hW) hI.2.2.2 dX8_cuts_26
  · replace hM := if_t c3 hM
    refine lv_iconst (v := (-1 : Int32)) hx hb dX8_cuts_8 (by decide) ?_
    have hz := Option.some.inj hM
    exact W.iret hx hb hr (fun t ht hW => jq_i hK hI hz ht hW) hI.2.2.2 dX8_cuts_9
set_option maxRecDepth 20000 in
theorem hi_X8_ties_X8 : ∀ w ∈ wsX80, w ∈ wsX8_ties := by decide +kernel
set_option maxRecDepth 20000 in
theorem hi_X8_ties_X5 : ∀ w ∈ wsX50, w ∈ wsX8_ties := by decide +kernel
set_option maxHeartbeats 4000000 in
set_option maxRecDepth 100000 in
theorem jw_X8_ties {l : Launch} (D : va_G) (am : Nat → Nat) (cI cC cS : ClassId) (hj : aJ am 52) (N : Nat) {x1 : Int32} {x2 : Int32} {x3 : Int32} {st stZ : PS} {rZ : Int32} (hM : jm_X8_ties N x1 x2 x3 st = some (rZ, stZ)) : Met l yX8_ties wsX8_ties ({ frames := 5, cells := 0, slots := 0, locals := 112 }) (va_Pc [.ref (am 0), .int x1, .int x2, .int x3] (JH D (cW am cI cC cS) (cTy cI cC cS) st)) (JQ D (aA am 52) (cW am cI cC cS) (cTy cI cC cS) (some (.int rZ)) stZ) 0 0 (aA am 52) := by
  refine jStart (cc := cX8_ties) (maxL := 4) (ret := (some .int)) [.ref (am 0), .int x1, .int x2, .int x3] (by decide) rfl (Nat.le_of_ble_eq_true rfl) (fun p e s m below meth c ls hx hb hr hlocks hts hown hml hK hI hl => ?_)
  have hown : s.vm.findClass RX8 = some m.cls := hown
  replace hl : lv_has ls 4 [(0, .ref (am 0)), (1, .int x1), (2, .int x2), (3, .int x3)] := hl
  generalize hAV : ([.ref (am 0), .int x1, .int x2, .int x3] : List Value).toArray = AV at hts ⊢
  have f_0 := hts (.fieldLink RX8 29 "PuppetBar" "scene" "LPuppetBar$Scene;") (by decide +kernel)
  have f_1 := hts (.fieldLink RX8 65 "PuppetBar$Scene" "pose" "LPuppetBar$Pose;") (by decide +kernel)
  unfold jm_X8_ties at hM
  refine lv_aload_n hx hb dX8_ties_0 rfl (lv_at hl 0 rfl) ?_
  refine lv_iload_n hx hb dX8_ties_1 rfl (lv_at hl 1 rfl) ?_
  obtain ⟨v1, st2, hqv1, hM⟩ := bd_at hM
  refine jcallV (C := RX8) (As := [.int x1]) (rest := []) ⟨hx, hb, hml, hown, hts⟩ (jw_X8_isString D am cI cC cS hj N hqv1) (cwV 1 hts gX8_ties_X8_isString rfl rfl rfl yd_X8_isString ⟨Nat.le_of_ble_eq_true rfl, Nat.le_of_ble_eq_true rfl⟩) hK hI 0 (cg_0 am cI cC cS st) rfl rfl hl.1 rfl (Nat.le_of_ble_eq_true rfl) dX8_ties_2 (fun H locs hI => ?_)
  refine W.eq (g2 := F0 m 5 ls [.int v1]) rfl ?_
  refine lv_if_eq (tgt := 26) hx hb dX8_ties_5 (by decide) (fun c3 => ?_) (fun c3 => ?_)
  · replace hM := if_t c3 hM
    refine lv_iconst (v := (-1 : Int32)) hx hb dX8_ties_26 (by decide) ?_
    have hz := Option.some.inj hM
    exact W.iret hx hb hr (fun t ht hW => jq_i hK hI hz ht hW) hI.2.2.2 dX8_ties_27
  · replace hM := if_f c3 hM
    refine lv_aload_n hx hb dX8_ties_8 rfl (lv_at hl 0 rfl) ?_
    refine lv_iload_n hx hb dX8_ties_9 rfl (lv_at hl 2 rfl) ?_
    obtain ⟨v4, st5, hqv4, hM⟩ := bd_at hM
    refine jcallV (C := RX8) (As := [.int x2]) (rest := []) ⟨hx, hb, hml, hown, hts⟩ (jw_X8_isLimb D am cI cC cS hj N hqv4) (cwV 1 hts gX8_ties_X8_isLimb rfl rfl rfl yd_X8_isLimb ⟨Nat.le_of_ble_eq_true rfl, Nat.le_of_ble_eq_true rfl⟩) hK hI 0 (cg_0 am cI cC cS st2) rfl rfl hl.1 rfl (Nat.le_of_ble_eq_true rfl) dX8_ties_10 (fun H locs hI => ?_)
    refine W.eq (g2 := F0 m 13 ls [.int v4]) rfl ?_
    refine lv_if_eq (tgt := 26) hx hb dX8_ties_13 (by decide) (fun c6 => ?_) (fun c6 => ?_)
    · replace hM := if_t c6 hM
      refine lv_iconst (v := (-1 : Int32)) hx hb dX8_ties_26 (by decide) ?_
      have hz := Option.some.inj hM
      exact W.iret hx hb hr (fun t ht hW => jq_i hK hI hz ht hW) hI.2.2.2 dX8_ties_27
    · replace hM := if_f c6 hM
      refine lv_iload_n hx hb dX8_ties_16 rfl (lv_at hl 3 rfl) ?_
      refine lv_if_lt (tgt := 26) hx hb dX8_ties_17 (by decide) (fun c7 => ?_) (fun c7 => ?_)
      · replace hM := if_t c7 hM
        refine lv_iconst (v := (-1 : Int32)) hx hb dX8_ties_26 (by decide) ?_
        have hz := Option.some.inj hM
        exact W.iret hx hb hr (fun t ht hW => jq_i hK hI hz ht hW) hI.2.2.2 dX8_ties_27
      · replace hM := if_f c7 hM
        refine lv_iload_n hx hb dX8_ties_20 rfl (lv_at hl 3 rfl) ?_
        refine lv_bipush (v := (40 : Int32)) hx hb dX8_ties_21 (by decide) ?_
        refine lv_icmp_le (tgt := 28) hx hb dX8_ties_23 (by decide) (fun c8 => ?_) (fun c8 => ?_)
        · replace hM := if_t c8 hM
          refine lv_aload_n hx hb dX8_ties_28 rfl (lv_at hl 0 rfl) ?_
          refine va_get (D := D) (ci := 8) (v := .ref (am 37)) (C := RX8) (T := TX8) (N := 9) hx hb hts hi_X8_ties_X8 hown hK hI.1 0 (cg_0 am cI cC cS st5) rfl 3 (by decide) f_0 (fun _ h9 => h9) rfl dX8_ties_29 ?_
          refine va_get (D := D) (ci := 5) (v := .ref (am 38)) (C := RX5) (T := TX5) (N := 3) hx hb hts hi_X8_ties_X5 hown hK hI.1 37 (cg_37 am cI cC cS st5) rfl 0 (by decide) f_1 (fun _ h9 => h9) rfl dX8_ties_32 ?_
          refine lv_iload_n hx hb dX8_ties_35 rfl (lv_at hl 1 rfl) ?_
          obtain ⟨v9, st10, hqv9, hM⟩ := bd_at hM
          refine jcallV (C := RX4) (As := [.int x1]) (rest := []) ⟨hx, hb, hml, hown, hts⟩ (jw_X4_isCut D am cI cC cS hj N (show ck_Pose 38 by decide) hqv9) (cwV 1 hts gX8_ties_X4_isCut rfl rfl rfl yd_X4_isCut ⟨Nat.le_of_ble_eq_true rfl, Nat.le_of_ble_eq_true rfl⟩) hK hI 38 (cg_38 am cI cC cS st5) rfl rfl hl.1 rfl (Nat.le_of_ble_eq_true rfl) dX8_ties_36 (fun H locs hI => ?_)
          refine W.eq (g2 := F0 m 39 ls [.int v9]) rfl ?_
          refine lv_if_ne (tgt := 45) hx hb dX8_ties_39 (by decide) (fun c11 => ?_) (fun c11 => ?_)
          · replace hM := if_f c11 hM
            refine lv_aload_n hx hb dX8_ties_45 rfl (lv_at hl 0 rfl) ?_
            refine va_get (D := D) (ci := 8) (v := .ref (am 37)) (C := RX8) (T := TX8) (N := 9) hx hb hts hi_X8_ties_X8 hown hK hI.1 0 (cg_0 am cI cC cS st10) rfl 3 (by decide) f_0 (fun _ h9 => h9) rfl dX8_ties_46 ?_
            obtain ⟨v12, st13, hqv12, hM⟩ := bd_at hM
            refine jcallV (C := RX5) (As := []) (rest := []) ⟨hx, hb, hml, hown, hts⟩ (jw_X5_remember D am cI cC cS hj N (show ck_Scene 37 by decide) hqv12) (cwV 0 hts gX8_ties_X5_remember rfl rfl rfl yd_X5_remember ⟨Nat.le_of_ble_eq_true rfl, Nat.le_of_ble_eq_true rfl⟩) hK hI 37 (cg_37 am cI cC cS st10) rfl rfl hl.1 rfl (Nat.le_of_ble_eq_true rfl) dX8_ties_49 (fun H locs hI => ?_)
            refine W.eq (g2 := F0 m 52 ls []) rfl ?_
            refine lv_aload_n hx hb dX8_ties_52 rfl (lv_at hl 0 rfl) ?_
            refine va_get (D := D) (ci := 8) (v := .ref (am 37)) (C := RX8) (T := TX8) (N := 9) hx hb hts hi_X8_ties_X8 hown hK hI.1 0 (cg_0 am cI cC cS st13) rfl 3 (by decide) f_0 (fun _ h9 => h9) rfl dX8_ties_53 ?_
            refine va_get (D := D) (ci := 5) (v := .ref (am 38)) (C := RX5) (T := TX5) (N := 3) hx hb hts hi_X8_ties_X5 hown hK hI.1 37 (cg_37 am cI cC cS st13) rfl 0 (by decide) f_1 (fun _ h9 => h9) rfl dX8_ties_56 ?_
            refine lv_aload_n hx hb dX8_ties_59 rfl (lv_at hl 0 rfl) ?_
            refine va_get (D := D) (ci := 8) (v := .ref (am 37)) (C := RX8) (T := TX8) (N := 9) hx hb hts hi_X8_ties_X8 hown hK hI.1 0 (cg_0 am cI cC cS st13) rfl 3 (by decide) f_0 (fun _ h9 => h9) rfl dX8_ties_60 ?_
            refine va_get (D := D) (ci := 5) (v := .ref (am 38)) (C := RX5) (T := TX5) (N := 3) hx hb hts hi_X8_ties_X5 hown hK hI.1 37 (cg_37 am cI cC cS st13) rfl 0 (by decide) f_1 (fun _ h9 => h9) rfl dX8_ties_63 ?_
            obtain ⟨v14, st15, hqv14, hM⟩ := bd_at hM
            refine jcallV (C := RX4) (As := []) (rest := [.ref (am 38)]) ⟨hx, hb, hml, hown, hts⟩ (jw_X4_cut D am cI cC cS hj N (show ck_Pose 38 by decide) hqv14) (cwV 0 hts gX8_ties_X4_cut rfl rfl rfl yd_X4_cut ⟨Nat.le_of_ble_eq_true rfl, Nat.le_of_ble_eq_true rfl⟩) hK hI 38 (cg_38 am cI cC cS st13) rfl rfl hl.1 rfl (Nat.le_of_ble_eq_true rfl) dX8_ties_66 (fun H locs hI => ?_)
            refine W.eq (g2 := F0 m 69 ls [.int v14, .ref (am 38)]) rfl ?_
            refine lv_iconst (v := (1 : Int32)) hx hb dX8_ties_69 (by decide) ?_
            refine lv_iload_n hx hb dX8_ties_70 rfl (lv_at hl 1 rfl) ?_
            refine lv_ishl hx hb dX8_ties_71 ?_
            refine lv_iconst (v := (-1 : Int32)) hx hb dX8_ties_72 (by decide) ?_
            refine lv_ixor hx hb dX8_ties_73 ?_
            refine lv_iand hx hb dX8_ties_74 ?_
            obtain ⟨v16, st17, hqv16, hM⟩ := bd_at hM
            refine jcallV (C := RX4) (As := [.int (v14 &&& (((1 : Int32) <<< (x1 &&& 31)) ^^^ (-1 : Int32)))]) (rest := []) ⟨hx, hb, hml, hown, hts⟩ (jw_X4_setCut D am cI cC cS hj N (show ck_Pose 38 by decide) hqv16) (cwV 1 hts gX8_ties_X4_setCut rfl rfl rfl yd_X4_setCut ⟨Nat.le_of_ble_eq_true rfl, Nat.le_of_ble_eq_true rfl⟩) hK hI 38 (cg_38 am cI cC cS st15) rfl rfl hl.1 rfl (Nat.le_of_ble_eq_true rfl) dX8_ties_75 (fun H locs hI => ?_)
            refine W.eq (g2 := F0 m 78 ls []) rfl ?_
            refine lv_aload_n hx hb dX8_ties_78 rfl (lv_at hl 0 rfl) ?_
            refine va_get (D := D) (ci := 8) (v := .ref (am 37)) (C := RX8) (T := TX8) (N := 9) hx hb hts hi_X8_ties_X8 hown hK hI.1 0 (cg_0 am cI cC cS st17) rfl 3 (by decide) f_0 (fun _ h9 => h9) rfl dX8_ties_79 ?_
            refine va_get (D := D) (ci := 5) (v := .ref (am 38)) (C := RX5) (T := TX5) (N := 3) hx hb hts hi_X8_ties_X5 hown hK hI.1 37 (cg_37 am cI cC cS st17) rfl 0 (by decide) f_1 (fun _ h9 => h9) rfl dX8_ties_82 ?_
            refine lv_iload_n hx hb dX8_ties_85 rfl (lv_at hl 1 rfl) ?_
            refine lv_iload_n hx hb dX8_ties_86 rfl (lv_at hl 2 rfl) ?_
            obtain ⟨v18, st19, hqv18, hM⟩ := bd_at hM
            refine jcallV (C := RX4) (As := [.int x1, .int x2]) (rest := []) ⟨hx, hb, hml, hown, hts⟩ (jw_X4_setLimb D am cI cC cS hj N (show ck_Pose 38 by decide) hqv18) (cwV 2 hts gX8_ties_X4_setLimb rfl rfl rfl yd_X4_setLimb ⟨Nat.le_of_ble_eq_true rfl, Nat.le_of_ble_eq_true rfl⟩) hK hI 38 (cg_38 am cI cC cS st17) rfl rfl hl.1 rfl (Nat.le_of_ble_eq_true rfl) dX8_ties_87 (fun H locs hI => ?_)
            refine W.eq (g2 := F0 m 90 ls []) rfl ?_
            refine lv_aload_n hx hb dX8_ties_90 rfl (lv_at hl 0 rfl) ?_
            refine va_get (D := D) (ci := 8) (v := .ref (am 37)) (C := RX8) (T := TX8) (N := 9) hx hb hts hi_X8_ties_X8 hown hK hI.1 0 (cg_0 am cI cC cS st19) rfl 3 (by decide) f_0 (fun _ h9 => h9) rfl dX8_ties_91 ?_
            refine va_get (D := D) (ci := 5) (v := .ref (am 38)) (C := RX5) (T := TX5) (N := 3) hx hb hts hi_X8_ties_X5 hown hK hI.1 37 (cg_37 am cI cC cS st19) rfl 0 (by decide) f_1 (fun _ h9 => h9) rfl dX8_ties_94 ?_
            refine lv_iload_n hx hb dX8_ties_97 rfl (lv_at hl 1 rfl) ?_
            refine lv_iload_n hx hb dX8_ties_98 rfl (lv_at hl 3 rfl) ?_
            obtain ⟨v20, st21, hqv20, hM⟩ := bd_at hM
            refine jcallV (C := RX4) (As := [.int x1, .int x3]) (rest := []) ⟨hx, hb, hml, hown, hts⟩ (jw_X4_setLength D am cI cC cS hj N (show ck_Pose 38 by decide) hqv20) (cwV 2 hts gX8_ties_X4_setLength rfl rfl rfl yd_X4_setLength ⟨Nat.le_of_ble_eq_true rfl, Nat.le_of_ble_eq_true rfl⟩) hK hI 38 (cg_38 am cI cC cS st19) rfl rfl hl.1 rfl (Nat.le_of_ble_eq_true rfl) dX8_ties_99 (fun H locs hI => ?_)
            refine W.eq (g2 := F0 m 102 ls []) rfl ?_
            refine lv_aload_n hx hb dX8_ties_102 rfl (lv_at hl 0 rfl) ?_
            obtain ⟨v22, st23, hqv22, hM⟩ := bd_at hM
            refine jcallV (C := RX8) (As := []) (rest := []) ⟨hx, hb, hml, hown, hts⟩ (jw_X8_howManyGrounded D am cI cC cS hj N hqv22) (cwV 0 hts gX8_ties_X8_howManyGrounded rfl rfl rfl yd_X8_howManyGrounded ⟨Nat.le_of_ble_eq_true rfl, Nat.le_of_ble_eq_true rfl⟩) hK hI 0 (cg_0 am cI cC cS st21) rfl rfl hl.1 rfl (Nat.le_of_ble_eq_true rfl) dX8_ties_103 (fun H locs hI => ?_)
            refine W.eq (g2 := F0 m 106 ls [.int v22]) rfl ?_
            have hz := Option.some.inj hM
            exact W.iret hx hb hr (fun t ht hW => jq_i hK hI hz ht hW) hI.2.2.2 dX8_ties_106
          · replace hM := if_t c11 hM
            refine lv_bipush (v := (-2 : Int32)) hx hb dX8_ties_42 (by decide) ?_
            have hz := Option.some.inj hM
            exact W.iret hx hb hr (fun t ht hW => jq_i hK hI hz ht hW) hI.2.2.2 dX8_ties_44
        · replace hM := if_f c8 hM
          refine lv_iconst (v := (-1 : Int32)) hx hb dX8_ties_26 (by decide) ?_
          have hz := Option.some.inj hM
          exact W.iret hx hb hr (fun t ht hW => jq_i hK hI hz ht hW) hI.2.2.2 dX8_ties_27
set_option maxRecDepth 20000 in
theorem hi_X8_hangs_X8 : ∀ w ∈ wsX80, w ∈ wsX8_hangs := by decide +kernel
set_option maxRecDepth 20000 in
theorem hi_X8_hangs_X5 : ∀ w ∈ wsX50, w ∈ wsX8_hangs := by decide +kernel
set_option maxHeartbeats 4000000 in
set_option maxRecDepth 100000 in
theorem jw_X8_hangs {l : Launch} (D : va_G) (am : Nat → Nat) (cI cC cS : ClassId) (hj : aJ am 52) (N : Nat) {x1 : Int32} {x2 : Int32} {st stZ : PS} {rZ : Int32} (hM : jm_X8_hangs N x1 x2 st = some (rZ, stZ)) : Met l yX8_hangs wsX8_hangs ({ frames := 4, cells := 0, slots := 0, locals := 89 }) (va_Pc [.ref (am 0), .int x1, .int x2] (JH D (cW am cI cC cS) (cTy cI cC cS) st)) (JQ D (aA am 52) (cW am cI cC cS) (cTy cI cC cS) (some (.int rZ)) stZ) 0 0 (aA am 52) := by
  refine jStart (cc := cX8_hangs) (maxL := 4) (ret := (some .int)) [.ref (am 0), .int x1, .int x2] (by decide) rfl (Nat.le_of_ble_eq_true rfl) (fun p e s m below meth c ls hx hb hr hlocks hts hown hml hK hI hl => ?_)
  have hown : s.vm.findClass RX8 = some m.cls := hown
  replace hl : lv_has ls 4 [(0, .ref (am 0)), (1, .int x1), (2, .int x2)] := hl
  generalize hAV : ([.ref (am 0), .int x1, .int x2] : List Value).toArray = AV at hts ⊢
  have f_0 := hts (.fieldLink RX8 29 "PuppetBar" "scene" "LPuppetBar$Scene;") (by decide +kernel)
  have f_1 := hts (.fieldLink RX8 65 "PuppetBar$Scene" "pose" "LPuppetBar$Pose;") (by decide +kernel)
  unfold jm_X8_hangs at hM
  refine lv_aload_n hx hb dX8_hangs_0 rfl (lv_at hl 0 rfl) ?_
  refine lv_iload_n hx hb dX8_hangs_1 rfl (lv_at hl 1 rfl) ?_
  obtain ⟨v1, st2, hqv1, hM⟩ := bd_at hM
  refine jcallV (C := RX8) (As := [.int x1]) (rest := []) ⟨hx, hb, hml, hown, hts⟩ (jw_X8_isString D am cI cC cS hj N hqv1) (cwV 1 hts gX8_hangs_X8_isString rfl rfl rfl yd_X8_isString ⟨Nat.le_of_ble_eq_true rfl, Nat.le_of_ble_eq_true rfl⟩) hK hI 0 (cg_0 am cI cC cS st) rfl rfl hl.1 rfl (Nat.le_of_ble_eq_true rfl) dX8_hangs_2 (fun H locs hI => ?_)
  refine W.eq (g2 := F0 m 5 ls [.int v1]) rfl ?_
  refine lv_if_eq (tgt := 18) hx hb dX8_hangs_5 (by decide) (fun c3 => ?_) (fun c3 => ?_)
  · replace hM := if_t c3 hM
    refine lv_iconst (v := (-1 : Int32)) hx hb dX8_hangs_18 (by decide) ?_
    have hz := Option.some.inj hM
    exact W.iret hx hb hr (fun t ht hW => jq_i hK hI hz ht hW) hI.2.2.2 dX8_hangs_19
  · replace hM := if_f c3 hM
    refine lv_iload_n hx hb dX8_hangs_8 rfl (lv_at hl 2 rfl) ?_
    refine lv_if_lt (tgt := 18) hx hb dX8_hangs_9 (by decide) (fun c4 => ?_) (fun c4 => ?_)
    · replace hM := if_t c4 hM
      refine lv_iconst (v := (-1 : Int32)) hx hb dX8_hangs_18 (by decide) ?_
      have hz := Option.some.inj hM
      exact W.iret hx hb hr (fun t ht hW => jq_i hK hI hz ht hW) hI.2.2.2 dX8_hangs_19
    · replace hM := if_f c4 hM
      refine lv_iload_n hx hb dX8_hangs_12 rfl (lv_at hl 2 rfl) ?_
      refine lv_bipush (v := (6 : Int32)) hx hb dX8_hangs_13 (by decide) ?_
      refine lv_icmp_le (tgt := 20) hx hb dX8_hangs_15 (by decide) (fun c5 => ?_) (fun c5 => ?_)
      · replace hM := if_t c5 hM
        refine lv_aload_n hx hb dX8_hangs_20 rfl (lv_at hl 0 rfl) ?_
        refine va_get (D := D) (ci := 8) (v := .ref (am 37)) (C := RX8) (T := TX8) (N := 9) hx hb hts hi_X8_hangs_X8 hown hK hI.1 0 (cg_0 am cI cC cS st2) rfl 3 (by decide) f_0 (fun _ h9 => h9) rfl dX8_hangs_21 ?_
        refine va_get (D := D) (ci := 5) (v := .ref (am 38)) (C := RX5) (T := TX5) (N := 3) hx hb hts hi_X8_hangs_X5 hown hK hI.1 37 (cg_37 am cI cC cS st2) rfl 0 (by decide) f_1 (fun _ h9 => h9) rfl dX8_hangs_24 ?_
        refine lv_iload_n hx hb dX8_hangs_27 rfl (lv_at hl 1 rfl) ?_
        obtain ⟨v6, st7, hqv6, hM⟩ := bd_at hM
        refine jcallV (C := RX4) (As := [.int x1]) (rest := []) ⟨hx, hb, hml, hown, hts⟩ (jw_X4_holeOf D am cI cC cS hj N (show ck_Pose 38 by decide) hqv6) (cwV 1 hts gX8_hangs_X4_holeOf rfl rfl rfl yd_X4_holeOf ⟨Nat.le_of_ble_eq_true rfl, Nat.le_of_ble_eq_true rfl⟩) hK hI 38 (cg_38 am cI cC cS st2) rfl rfl hl.1 rfl (Nat.le_of_ble_eq_true rfl) dX8_hangs_28 (fun H locs hI => ?_)
        refine W.eq (g2 := F0 m 31 ls [.int v6]) rfl ?_
        refine lv_istore_n (lv' := [(3, .int v6), (0, .ref (am 0)), (1, .int x1), (2, .int x2)]) hx hb dX8_hangs_31 rfl hl (by decide) rfl (fun ls hl => ?_)
        refine lv_iload_n hx hb dX8_hangs_32 rfl (lv_at hl 0 rfl) ?_
        refine lv_iload_n hx hb dX8_hangs_33 rfl (lv_at hl 3 rfl) ?_
        refine lv_icmp_ne (tgt := 40) hx hb dX8_hangs_34 (by decide) (fun c8 => ?_) (fun c8 => ?_)
        · replace hM := if_f c8 hM
          refine lv_aload_n hx hb dX8_hangs_40 rfl (lv_at hl 1 rfl) ?_
          refine va_get (D := D) (ci := 8) (v := .ref (am 37)) (C := RX8) (T := TX8) (N := 9) hx hb hts hi_X8_hangs_X8 hown hK hI.1 0 (cg_0 am cI cC cS st7) rfl 3 (by decide) f_0 (fun _ h9 => h9) rfl dX8_hangs_41 ?_
          obtain ⟨v9, st10, hqv9, hM⟩ := bd_at hM
          refine jcallV (C := RX5) (As := []) (rest := []) ⟨hx, hb, hml, hown, hts⟩ (jw_X5_remember D am cI cC cS hj N (show ck_Scene 37 by decide) hqv9) (cwV 0 hts gX8_hangs_X5_remember rfl rfl rfl yd_X5_remember ⟨Nat.le_of_ble_eq_true rfl, Nat.le_of_ble_eq_true rfl⟩) hK hI 37 (cg_37 am cI cC cS st7) rfl rfl hl.1 rfl (Nat.le_of_ble_eq_true rfl) dX8_hangs_44 (fun H locs hI => ?_)
          refine W.eq (g2 := F0 m 47 ls []) rfl ?_
          refine lv_aload_n hx hb dX8_hangs_47 rfl (lv_at hl 1 rfl) ?_
          refine va_get (D := D) (ci := 8) (v := .ref (am 37)) (C := RX8) (T := TX8) (N := 9) hx hb hts hi_X8_hangs_X8 hown hK hI.1 0 (cg_0 am cI cC cS st10) rfl 3 (by decide) f_0 (fun _ h9 => h9) rfl dX8_hangs_48 ?_
          refine va_get (D := D) (ci := 5) (v := .ref (am 38)) (C := RX5) (T := TX5) (N := 3) hx hb hts hi_X8_hangs_X5 hown hK hI.1 37 (cg_37 am cI cC cS st10) rfl 0 (by decide) f_1 (fun _ h9 => h9) rfl dX8_hangs_51 ?_
          refine lv_iload_n hx hb dX8_hangs_54 rfl (lv_at hl 2 rfl) ?_
          refine lv_iload_n hx hb dX8_hangs_55 rfl (lv_at hl 3 rfl) ?_
          obtain ⟨v11, st12, hqv11, hM⟩ := bd_at hM
          refine jcallV (C := RX4) (As := [.int x1, .int x2]) (rest := []) ⟨hx, hb, hml, hown, hts⟩ (jw_X4_setHole D am cI cC cS hj N (show ck_Pose 38 by decide) hqv11) (cwV 2 hts gX8_hangs_X4_setHole rfl rfl rfl yd_X4_setHole ⟨Nat.le_of_ble_eq_true rfl, Nat.le_of_ble_eq_true rfl⟩) hK hI 38 (cg_38 am cI cC cS st10) rfl rfl hl.1 rfl (Nat.le_of_ble_eq_true rfl) dX8_hangs_56 (fun H locs hI => ?_)
          refine W.eq (g2 := F0 m 59 ls []) rfl ?_
          refine lv_iload_n hx hb dX8_hangs_59 rfl (lv_at hl 0 rfl) ?_
          have hz := Option.some.inj hM
          exact W.iret hx hb hr (fun t ht hW => jq_i hK hI hz ht hW) hI.2.2.2 dX8_hangs_60
        · replace hM := if_t c8 hM
          refine lv_bipush (v := (-2 : Int32)) hx hb dX8_hangs_37 (by decide) ?_
          have hz := Option.some.inj hM
          exact W.iret hx hb hr (fun t ht hW => jq_i hK hI hz ht hW) hI.2.2.2 dX8_hangs_39
      · replace hM := if_f c5 hM
        refine lv_iconst (v := (-1 : Int32)) hx hb dX8_hangs_18 (by decide) ?_
        have hz := Option.some.inj hM
        exact W.iret hx hb hr (fun t ht hW => jq_i hK hI hz ht hW) hI.2.2.2 dX8_hangs_19
set_option maxRecDepth 20000 in
theorem hi_X8_holds_X8 : ∀ w ∈ wsX80, w ∈ wsX8_holds := by decide +kernel
set_option maxRecDepth 20000 in
theorem hi_X8_holds_X5 : ∀ w ∈ wsX50, w ∈ wsX8_holds := by decide +kernel
set_option maxHeartbeats 4000000 in
set_option maxRecDepth 100000 in
theorem jw_X8_holds {l : Launch} (D : va_G) (am : Nat → Nat) (cI cC cS : ClassId) (hj : aJ am 52) (N : Nat) {st stZ : PS} {rZ : Int32} (hM : jm_X8_holds N st = some (rZ, stZ)) : Met l yX8_holds wsX8_holds ({ frames := 5, cells := 0, slots := 0, locals := 120 }) (va_Pc [.ref (am 0)] (JH D (cW am cI cC cS) (cTy cI cC cS) st)) (JQ D (aA am 52) (cW am cI cC cS) (cTy cI cC cS) (some (.int rZ)) stZ) 0 0 (aA am 52) := by
  refine jStart (cc := cX8_holds) (maxL := 3) (ret := (some .int)) [.ref (am 0)] (by decide) rfl (Nat.le_of_ble_eq_true rfl) (fun p e s m below meth c ls hx hb hr hlocks hts hown hml hK hI hl => ?_)
  have hown : s.vm.findClass RX8 = some m.cls := hown
  replace hl : lv_has ls 3 [(0, .ref (am 0))] := hl
  generalize hAV : ([.ref (am 0)] : List Value).toArray = AV at hts ⊢
  have f_0 := hts (.fieldLink RX8 29 "PuppetBar" "scene" "LPuppetBar$Scene;") (by decide +kernel)
  have f_1 := hts (.fieldLink RX8 19 "PuppetBar" "doll" "LPuppetBar$Doll;") (by decide +kernel)
  have f_2 := hts (.fieldLink RX8 65 "PuppetBar$Scene" "pose" "LPuppetBar$Pose;") (by decide +kernel)
  unfold jm_X8_holds at hM
  refine lv_aload_n hx hb dX8_holds_0 rfl (lv_at hl 0 rfl) ?_
  refine va_get (D := D) (ci := 8) (v := .ref (am 37)) (C := RX8) (T := TX8) (N := 9) hx hb hts hi_X8_holds_X8 hown hK hI.1 0 (cg_0 am cI cC cS st) rfl 3 (by decide) f_0 (fun _ h9 => h9) rfl dX8_holds_1 ?_
  obtain ⟨v1, st2, hqv1, hM⟩ := bd_at hM
  refine jcallV (C := RX5) (As := []) (rest := []) ⟨hx, hb, hml, hown, hts⟩ (jw_X5_remember D am cI cC cS hj N (show ck_Scene 37 by decide) hqv1) (cwV 0 hts gX8_holds_X5_remember rfl rfl rfl yd_X5_remember ⟨Nat.le_of_ble_eq_true rfl, Nat.le_of_ble_eq_true rfl⟩) hK hI 37 (cg_37 am cI cC cS st) rfl rfl hl.1 rfl (Nat.le_of_ble_eq_true rfl) dX8_holds_4 (fun H locs hI => ?_)
  refine W.eq (g2 := F0 m 7 ls []) rfl ?_
  refine lv_iconst (v := (0 : Int32)) hx hb dX8_holds_7 (by decide) ?_
  refine lv_istore_n (lv' := [(1, .int (0 : Int32)), (0, .ref (am 0))]) hx hb dX8_holds_8 rfl hl (by decide) rfl (fun ls hl => ?_)
  refine lv_aload_n hx hb dX8_holds_9 rfl (lv_at hl 1 rfl) ?_
  refine va_get (D := D) (ci := 8) (v := .ref (am 17)) (C := RX8) (T := TX8) (N := 9) hx hb hts hi_X8_holds_X8 hown hK hI.1 0 (cg_0 am cI cC cS st2) rfl 1 (by decide) f_1 (fun _ h9 => h9) rfl dX8_holds_10 ?_
  refine lv_aload_n hx hb dX8_holds_13 rfl (lv_at hl 1 rfl) ?_
  refine va_get (D := D) (ci := 8) (v := .ref (am 37)) (C := RX8) (T := TX8) (N := 9) hx hb hts hi_X8_holds_X8 hown hK hI.1 0 (cg_0 am cI cC cS st2) rfl 3 (by decide) f_0 (fun _ h9 => h9) rfl dX8_holds_14 ?_
  refine va_get (D := D) (ci := 5) (v := .ref (am 38)) (C := RX5) (T := TX5) (N := 3) hx hb hts hi_X8_holds_X5 hown hK hI.1 37 (cg_37 am cI cC cS st2) rfl 0 (by decide) f_2 (fun _ h9 => h9) rfl dX8_holds_17 ?_
  obtain ⟨v3, st4, hqv3, hM⟩ := bd_at hM
  refine jcallV (C := RX0) (As := [.ref (am 38)]) (rest := []) ⟨hx, hb, hml, hown, hts⟩ (jw_X0_mostOverloaded D am cI cC cS hj N (show ck_Doll 17 by decide) (show ck_Pose 38 by decide) hqv3) (cwV 1 hts gX8_holds_X0_mostOverloaded rfl rfl rfl yd_X0_mostOverloaded ⟨Nat.le_of_ble_eq_true rfl, Nat.le_of_ble_eq_true rfl⟩) hK hI 17 (cg_17 am cI cC cS st2) rfl rfl hl.1 rfl (Nat.le_of_ble_eq_true rfl) dX8_holds_20 (fun H locs hI => ?_)
  refine W.eq (g2 := F0 m 23 ls [.int v3]) rfl ?_
  refine lv_istore_n (lv' := [(2, .int v3), (1, .int (0 : Int32)), (0, .ref (am 0))]) hx hb dX8_holds_23 rfl hl (by decide) rfl (fun ls hl => ?_)
  have lp0 : ∀ (n : Nat) (w6 : Int32) (w7 : Int32) (st5 : PS) (H : Heap) (locs : List Loc) (ls : Array Slot), JI D (aA am 52) (cW am cI cC cS) s.heap st5 H locs → lv_has ls 3 [(0, .ref (am 0)), (1, .int w6), (2, .int w7)] → iter (fun q => jm_X8_holds_L24 N q.1 q.2.1 q.2.2) n (w6, w7, st5) = some (rZ, stZ) → W p l e (headSpec wsX8_holds { frames := 5, cells := 0, slots := 0, locals := 120 }).room s m AV below meth c H locs 0 0 (MQ below (JQ D (aA am 52) (cW am cI cC cS) (cTy cI cC cS) (some (.int rZ)) stZ) AV s 0 0 (aA am 52)) (F0 m 24 ls []) := by
    intro n
    induction n with
    | zero =>
      intro _ _ _ _ _ _ _ _ hM
      exact absurd hM (fun h => iter_zero h)
    | succ n ih0 =>
      intro w6 w7 st5 H locs ls hI hl hM
      obtain ⟨z0, hM, hk0⟩ := iter_succ hM
      replace hM : jm_X8_holds_L24 N w6 w7 st5 = some z0 := hM
      unfold jm_X8_holds_L24 at hM
      refine lv_iload_n hx hb dX8_holds_24 rfl (lv_at hl 2 rfl) ?_
      refine lv_bipush (v := (-9 : Int32)) hx hb dX8_holds_25 (by decide) ?_
      refine lv_icmp_eq (tgt := 81) hx hb dX8_holds_27 (by decide) (fun c8 => ?_) (fun c8 => ?_)
      · replace hM := if_t c8 hM
        refine lv_iload_n hx hb dX8_holds_81 rfl (lv_at hl 1 rfl) ?_
        have hz := Option.some.inj hM
        subst hz
        have hz := kn_r hk0
        exact W.iret hx hb hr (fun t ht hW => jq_i hK hI hz ht hW) hI.2.2.2 dX8_holds_82
      · replace hM := if_f c8 hM
        refine lv_iload_n hx hb dX8_holds_30 rfl (lv_at hl 1 rfl) ?_
        refine lv_bipush (v := (6 : Int32)) hx hb dX8_holds_31 (by decide) ?_
        refine lv_icmp_ge (tgt := 81) hx hb dX8_holds_33 (by decide) (fun c9 => ?_) (fun c9 => ?_)
        · replace hM := if_t c9 hM
          refine lv_iload_n hx hb dX8_holds_81 rfl (lv_at hl 1 rfl) ?_
          have hz := Option.some.inj hM
          subst hz
          have hz := kn_r hk0
          exact W.iret hx hb hr (fun t ht hW => jq_i hK hI hz ht hW) hI.2.2.2 dX8_holds_82
        · replace hM := if_f c9 hM
          refine lv_aload_n hx hb dX8_holds_36 rfl (lv_at hl 0 rfl) ?_
          refine va_get (D := D) (ci := 8) (v := .ref (am 37)) (C := RX8) (T := TX8) (N := 9) hx hb hts hi_X8_holds_X8 hown hK hI.1 0 (cg_0 am cI cC cS st5) rfl 3 (by decide) f_0 (fun _ h9 => h9) rfl dX8_holds_37 ?_
          refine va_get (D := D) (ci := 5) (v := .ref (am 38)) (C := RX5) (T := TX5) (N := 3) hx hb hts hi_X8_holds_X5 hown hK hI.1 37 (cg_37 am cI cC cS st5) rfl 0 (by decide) f_2 (fun _ h9 => h9) rfl dX8_holds_40 ?_
          refine lv_aload_n hx hb dX8_holds_43 rfl (lv_at hl 0 rfl) ?_
          refine va_get (D := D) (ci := 8) (v := .ref (am 37)) (C := RX8) (T := TX8) (N := 9) hx hb hts hi_X8_holds_X8 hown hK hI.1 0 (cg_0 am cI cC cS st5) rfl 3 (by decide) f_0 (fun _ h9 => h9) rfl dX8_holds_44 ?_
          refine va_get (D := D) (ci := 5) (v := .ref (am 38)) (C := RX5) (T := TX5) (N := 3) hx hb hts hi_X8_holds_X5 hown hK hI.1 37 (cg_37 am cI cC cS st5) rfl 0 (by decide) f_2 (fun _ h9 => h9) rfl dX8_holds_47 ?_
          obtain ⟨v10, st11, hqv10, hM⟩ := bd_at hM
          refine jcallV (C := RX4) (As := []) (rest := [.ref (am 38)]) ⟨hx, hb, hml, hown, hts⟩ (jw_X4_cut D am cI cC cS hj N (show ck_Pose 38 by decide) hqv10) (cwV 0 hts gX8_holds_X4_cut rfl rfl rfl yd_X4_cut ⟨Nat.le_of_ble_eq_true rfl, Nat.le_of_ble_eq_true rfl⟩) hK hI 38 (cg_38 am cI cC cS st5) rfl rfl hl.1 rfl (Nat.le_of_ble_eq_true rfl) dX8_holds_50 (fun H locs hI => ?_)
          refine W.eq (g2 := F0 m 53 ls [.int v10, .ref (am 38)]) rfl ?_
          refine lv_iconst (v := (1 : Int32)) hx hb dX8_holds_53 (by decide) ?_
          refine lv_iload_n hx hb dX8_holds_54 rfl (lv_at hl 2 rfl) ?_
          refine lv_ishl hx hb dX8_holds_55 ?_
          refine lv_ior hx hb dX8_holds_56 ?_
          obtain ⟨v12, st13, hqv12, hM⟩ := bd_at hM
          refine jcallV (C := RX4) (As := [.int (v10 ||| ((1 : Int32) <<< (w7 &&& 31)))]) (rest := []) ⟨hx, hb, hml, hown, hts⟩ (jw_X4_setCut D am cI cC cS hj N (show ck_Pose 38 by decide) hqv12) (cwV 1 hts gX8_holds_X4_setCut rfl rfl rfl yd_X4_setCut ⟨Nat.le_of_ble_eq_true rfl, Nat.le_of_ble_eq_true rfl⟩) hK hI 38 (cg_38 am cI cC cS st11) rfl rfl hl.1 rfl (Nat.le_of_ble_eq_true rfl) dX8_holds_57 (fun H locs hI => ?_)
          refine W.eq (g2 := F0 m 60 ls []) rfl ?_
          refine lv_iinc (v := (w6 + (1 : Int32))) (lv' := [(1, .int (w6 + (1 : Int32))), (0, .ref (am 0)), (2, .int w7)]) hx hb dX8_holds_60 hl (k := 1) rfl rfl (by decide) rfl (fun ls hl => ?_)
          refine lv_aload_n hx hb dX8_holds_63 rfl (lv_at hl 1 rfl) ?_
          refine va_get (D := D) (ci := 8) (v := .ref (am 17)) (C := RX8) (T := TX8) (N := 9) hx hb hts hi_X8_holds_X8 hown hK hI.1 0 (cg_0 am cI cC cS st13) rfl 1 (by decide) f_1 (fun _ h9 => h9) rfl dX8_holds_64 ?_
          refine lv_aload_n hx hb dX8_holds_67 rfl (lv_at hl 1 rfl) ?_
          refine va_get (D := D) (ci := 8) (v := .ref (am 37)) (C := RX8) (T := TX8) (N := 9) hx hb hts hi_X8_holds_X8 hown hK hI.1 0 (cg_0 am cI cC cS st13) rfl 3 (by decide) f_0 (fun _ h9 => h9) rfl dX8_holds_68 ?_
          refine va_get (D := D) (ci := 5) (v := .ref (am 38)) (C := RX5) (T := TX5) (N := 3) hx hb hts hi_X8_holds_X5 hown hK hI.1 37 (cg_37 am cI cC cS st13) rfl 0 (by decide) f_2 (fun _ h9 => h9) rfl dX8_holds_71 ?_
          obtain ⟨v14, st15, hqv14, hM⟩ := bd_at hM
          refine jcallV (C := RX0) (As := [.ref (am 38)]) (rest := []) ⟨hx, hb, hml, hown, hts⟩ (jw_X0_mostOverloaded D am cI cC cS hj N (show ck_Doll 17 by decide) (show ck_Pose 38 by decide) hqv14) (cwV 1 hts gX8_holds_X0_mostOverloaded rfl rfl rfl yd_X0_mostOverloaded ⟨Nat.le_of_ble_eq_true rfl, Nat.le_of_ble_eq_true rfl⟩) hK hI 17 (cg_17 am cI cC cS st13) rfl rfl hl.1 rfl (Nat.le_of_ble_eq_true rfl) dX8_holds_74 (fun H locs hI => ?_)
          refine W.eq (g2 := F0 m 77 ls [.int v14]) rfl ?_
          refine lv_istore_n (lv' := [(2, .int v14), (1, .int (w6 + (1 : Int32))), (0, .ref (am 0))]) hx hb dX8_holds_77 rfl hl (by decide) rfl (fun ls hl => ?_)
          refine lv_goto (tgt := 24) hx hb dX8_holds_78 (by decide) ?_
          have hz := Option.some.inj hM
          subst hz
          exact ih0 (w6 + (1 : Int32)) v14 st15 _ _ _ hI (lv_sub hl [2, 1, 0] rfl) hk0
  exact lp0 N (0 : Int32) v3 st4 _ _ _ hI (lv_sub hl [2, 1, 0] rfl) hM
set_option maxRecDepth 20000 in
theorem hi_X8_beats_X8 : ∀ w ∈ wsX80, w ∈ wsX8_beats := by decide +kernel
set_option maxRecDepth 20000 in
theorem hi_X8_beats_X5 : ∀ w ∈ wsX50, w ∈ wsX8_beats := by decide +kernel
set_option maxHeartbeats 4000000 in
set_option maxRecDepth 100000 in
theorem jw_X8_beats {l : Launch} (D : va_G) (am : Nat → Nat) (cI cC cS : ClassId) (hj : aJ am 52) (N : Nat) {x1 : Int32} {st stZ : PS} {rZ : Int32} (hM : jm_X8_beats N x1 st = some (rZ, stZ)) : Met l yX8_beats wsX8_beats ({ frames := 5, cells := 0, slots := 0, locals := 112 }) (va_Pc [.ref (am 0), .int x1] (JH D (cW am cI cC cS) (cTy cI cC cS) st)) (JQ D (aA am 52) (cW am cI cC cS) (cTy cI cC cS) (some (.int rZ)) stZ) 0 0 (aA am 52) := by
  refine jStart (cc := cX8_beats) (maxL := 2) (ret := (some .int)) [.ref (am 0), .int x1] (by decide) rfl (Nat.le_of_ble_eq_true rfl) (fun p e s m below meth c ls hx hb hr hlocks hts hown hml hK hI hl => ?_)
  have hown : s.vm.findClass RX8 = some m.cls := hown
  replace hl : lv_has ls 2 [(0, .ref (am 0)), (1, .int x1)] := hl
  generalize hAV : ([.ref (am 0), .int x1] : List Value).toArray = AV at hts ⊢
  have f_0 := hts (.fieldLink RX8 29 "PuppetBar" "scene" "LPuppetBar$Scene;") (by decide +kernel)
  have f_1 := hts (.fieldLink RX8 19 "PuppetBar" "doll" "LPuppetBar$Doll;") (by decide +kernel)
  have f_2 := hts (.fieldLink RX8 65 "PuppetBar$Scene" "pose" "LPuppetBar$Pose;") (by decide +kernel)
  unfold jm_X8_beats at hM
  refine lv_aload_n hx hb dX8_beats_0 rfl (lv_at hl 0 rfl) ?_
  refine lv_iload_n hx hb dX8_beats_1 rfl (lv_at hl 1 rfl) ?_
  obtain ⟨v1, st2, hqv1, hM⟩ := bd_at hM
  refine jcallV (C := RX8) (As := [.int x1]) (rest := []) ⟨hx, hb, hml, hown, hts⟩ (jw_X8_isBeat D am cI cC cS hj N hqv1) (cwV 1 hts gX8_beats_X8_isBeat rfl rfl rfl yd_X8_isBeat ⟨Nat.le_of_ble_eq_true rfl, Nat.le_of_ble_eq_true rfl⟩) hK hI 0 (cg_0 am cI cC cS st) rfl rfl hl.1 rfl (Nat.le_of_ble_eq_true rfl) dX8_beats_2 (fun H locs hI => ?_)
  refine W.eq (g2 := F0 m 5 ls [.int v1]) rfl ?_
  refine lv_if_ne (tgt := 10) hx hb dX8_beats_5 (by decide) (fun c3 => ?_) (fun c3 => ?_)
  · replace hM := if_f c3 hM
    refine lv_aload_n hx hb dX8_beats_10 rfl (lv_at hl 0 rfl) ?_
    refine va_get (D := D) (ci := 8) (v := .ref (am 37)) (C := RX8) (T := TX8) (N := 9) hx hb hts hi_X8_beats_X8 hown hK hI.1 0 (cg_0 am cI cC cS st2) rfl 3 (by decide) f_0 (fun _ h9 => h9) rfl dX8_beats_11 ?_
    obtain ⟨v4, st5, hqv4, hM⟩ := bd_at hM
    refine jcallV (C := RX5) (As := []) (rest := []) ⟨hx, hb, hml, hown, hts⟩ (jw_X5_remember D am cI cC cS hj N (show ck_Scene 37 by decide) hqv4) (cwV 0 hts gX8_beats_X5_remember rfl rfl rfl yd_X5_remember ⟨Nat.le_of_ble_eq_true rfl, Nat.le_of_ble_eq_true rfl⟩) hK hI 37 (cg_37 am cI cC cS st2) rfl rfl hl.1 rfl (Nat.le_of_ble_eq_true rfl) dX8_beats_14 (fun H locs hI => ?_)
    refine W.eq (g2 := F0 m 17 ls []) rfl ?_
    refine lv_aload_n hx hb dX8_beats_17 rfl (lv_at hl 0 rfl) ?_
    refine va_get (D := D) (ci := 8) (v := .ref (am 17)) (C := RX8) (T := TX8) (N := 9) hx hb hts hi_X8_beats_X8 hown hK hI.1 0 (cg_0 am cI cC cS st5) rfl 1 (by decide) f_1 (fun _ h9 => h9) rfl dX8_beats_18 ?_
    refine lv_aload_n hx hb dX8_beats_21 rfl (lv_at hl 0 rfl) ?_
    refine va_get (D := D) (ci := 8) (v := .ref (am 37)) (C := RX8) (T := TX8) (N := 9) hx hb hts hi_X8_beats_X8 hown hK hI.1 0 (cg_0 am cI cC cS st5) rfl 3 (by decide) f_0 (fun _ h9 => h9) rfl dX8_beats_22 ?_
    refine va_get (D := D) (ci := 5) (v := .ref (am 38)) (C := RX5) (T := TX5) (N := 3) hx hb hts hi_X8_beats_X5 hown hK hI.1 37 (cg_37 am cI cC cS st5) rfl 0 (by decide) f_2 (fun _ h9 => h9) rfl dX8_beats_25 ?_
    refine lv_iload_n hx hb dX8_beats_28 rfl (lv_at hl 1 rfl) ?_
    obtain ⟨v6, st7, hqv6, hM⟩ := bd_at hM
    refine jcallV (C := RX0) (As := [.ref (am 38), .int x1]) (rest := []) ⟨hx, hb, hml, hown, hts⟩ (jw_X0_moveToBeat D am cI cC cS hj N (show ck_Doll 17 by decide) (show ck_Pose 38 by decide) hqv6) (cwV 2 hts gX8_beats_X0_moveToBeat rfl rfl rfl yd_X0_moveToBeat ⟨Nat.le_of_ble_eq_true rfl, Nat.le_of_ble_eq_true rfl⟩) hK hI 17 (cg_17 am cI cC cS st5) rfl rfl hl.1 rfl (Nat.le_of_ble_eq_true rfl) dX8_beats_29 (fun H locs hI => ?_)
    refine W.eq (g2 := F0 m 32 ls []) rfl ?_
    refine lv_aload_n hx hb dX8_beats_32 rfl (lv_at hl 0 rfl) ?_
    obtain ⟨v8, st9, hqv8, hM⟩ := bd_at hM
    refine jcallV (C := RX8) (As := []) (rest := []) ⟨hx, hb, hml, hown, hts⟩ (jw_X8_howManyGrounded D am cI cC cS hj N hqv8) (cwV 0 hts gX8_beats_X8_howManyGrounded rfl rfl rfl yd_X8_howManyGrounded ⟨Nat.le_of_ble_eq_true rfl, Nat.le_of_ble_eq_true rfl⟩) hK hI 0 (cg_0 am cI cC cS st7) rfl rfl hl.1 rfl (Nat.le_of_ble_eq_true rfl) dX8_beats_33 (fun H locs hI => ?_)
    refine W.eq (g2 := F0 m 36 ls [.int v8]) rfl ?_
    have hz := Option.some.inj hM
    exact W.iret hx hb hr (fun t ht hW => jq_i hK hI hz ht hW) hI.2.2.2 dX8_beats_36
  · replace hM := if_t c3 hM
    refine lv_iconst (v := (-1 : Int32)) hx hb dX8_beats_8 (by decide) ?_
    have hz := Option.some.inj hM
    exact W.iret hx hb hr (fun t ht hW => jq_i hK hI hz ht hW) hI.2.2.2 dX8_beats_9
set_option maxRecDepth 20000 in
theorem hi_X8_undo_X8 : ∀ w ∈ wsX80, w ∈ wsX8_undo := by decide +kernel
set_option maxRecDepth 20000 in
theorem hi_X8_undo_X5 : ∀ w ∈ wsX50, w ∈ wsX8_undo := by decide +kernel
set_option maxHeartbeats 4000000 in
set_option maxRecDepth 100000 in
theorem jw_X8_undo {l : Launch} (D : va_G) (am : Nat → Nat) (cI cC cS : ClassId) (hj : aJ am 52) (N : Nat) {st stZ : PS} {rZ : Int32} (hM : jm_X8_undo N st = some (rZ, stZ)) : Met l yX8_undo wsX8_undo ({ frames := 3, cells := 0, slots := 0, locals := 69 }) (va_Pc [.ref (am 0)] (JH D (cW am cI cC cS) (cTy cI cC cS) st)) (JQ D (aA am 52) (cW am cI cC cS) (cTy cI cC cS) (some (.int rZ)) stZ) 0 0 (aA am 52) := by
  refine jStart (cc := cX8_undo) (maxL := 1) (ret := (some .int)) [.ref (am 0)] (by decide) rfl (Nat.le_of_ble_eq_true rfl) (fun p e s m below meth c ls hx hb hr hlocks hts hown hml hK hI hl => ?_)
  have hown : s.vm.findClass RX8 = some m.cls := hown
  replace hl : lv_has ls 1 [(0, .ref (am 0))] := hl
  generalize hAV : ([.ref (am 0)] : List Value).toArray = AV at hts ⊢
  have f_0 := hts (.fieldLink RX8 29 "PuppetBar" "scene" "LPuppetBar$Scene;") (by decide +kernel)
  have f_1 := hts (.fieldLink RX8 207 "PuppetBar$Scene" "past" "LPuppetBar$Past;") (by decide +kernel)
  have f_2 := hts (.fieldLink RX8 65 "PuppetBar$Scene" "pose" "LPuppetBar$Pose;") (by decide +kernel)
  unfold jm_X8_undo at hM
  refine lv_aload_n hx hb dX8_undo_0 rfl (lv_at hl 0 rfl) ?_
  refine va_get (D := D) (ci := 8) (v := .ref (am 37)) (C := RX8) (T := TX8) (N := 9) hx hb hts hi_X8_undo_X8 hown hK hI.1 0 (cg_0 am cI cC cS st) rfl 3 (by decide) f_0 (fun _ h9 => h9) rfl dX8_undo_1 ?_
  refine va_get (D := D) (ci := 5) (v := .ref (am 40)) (C := RX5) (T := TX5) (N := 3) hx hb hts hi_X8_undo_X5 hown hK hI.1 37 (cg_37 am cI cC cS st) rfl 1 (by decide) f_1 (fun _ h9 => h9) rfl dX8_undo_4 ?_
  refine lv_aload_n hx hb dX8_undo_7 rfl (lv_at hl 0 rfl) ?_
  refine va_get (D := D) (ci := 8) (v := .ref (am 37)) (C := RX8) (T := TX8) (N := 9) hx hb hts hi_X8_undo_X8 hown hK hI.1 0 (cg_0 am cI cC cS st) rfl 3 (by decide) f_0 (fun _ h9 => h9) rfl dX8_undo_8 ?_
  refine va_get (D := D) (ci := 5) (v := .ref (am 38)) (C := RX5) (T := TX5) (N := 3) hx hb hts hi_X8_undo_X5 hown hK hI.1 37 (cg_37 am cI cC cS st) rfl 0 (by decide) f_2 (fun _ h9 => h9) rfl dX8_undo_11 ?_
  obtain ⟨v1, st2, hqv1, hM⟩ := bd_at hM
  refine jcallV (C := RX3) (As := [.ref (am 38)]) (rest := []) ⟨hx, hb, hml, hown, hts⟩ (jw_X3_takeBack D am cI cC cS hj N (show ck_Past 40 by decide) (show ck_Pose 38 by decide) hqv1) (cwV 1 hts gX8_undo_X3_takeBack rfl rfl rfl yd_X3_takeBack ⟨Nat.le_of_ble_eq_true rfl, Nat.le_of_ble_eq_true rfl⟩) hK hI 40 (cg_40 am cI cC cS st) rfl rfl hl.1 rfl (Nat.le_of_ble_eq_true rfl) dX8_undo_14 (fun H locs hI => ?_)
  refine W.eq (g2 := F0 m 17 ls [.int v1]) rfl ?_
  refine lv_if_eq (tgt := 33) hx hb dX8_undo_17 (by decide) (fun c3 => ?_) (fun c3 => ?_)
  · replace hM := if_t c3 hM
    refine lv_bipush (v := (-2 : Int32)) hx hb dX8_undo_33 (by decide) ?_
    have hz := Option.some.inj hM
    exact W.iret hx hb hr (fun t ht hW => jq_i hK hI hz ht hW) hI.2.2.2 dX8_undo_35
  · replace hM := if_f c3 hM
    refine lv_aload_n hx hb dX8_undo_20 rfl (lv_at hl 0 rfl) ?_
    refine va_get (D := D) (ci := 8) (v := .ref (am 37)) (C := RX8) (T := TX8) (N := 9) hx hb hts hi_X8_undo_X8 hown hK hI.1 0 (cg_0 am cI cC cS st2) rfl 3 (by decide) f_0 (fun _ h9 => h9) rfl dX8_undo_21 ?_
    refine va_get (D := D) (ci := 5) (v := .ref (am 40)) (C := RX5) (T := TX5) (N := 3) hx hb hts hi_X8_undo_X5 hown hK hI.1 37 (cg_37 am cI cC cS st2) rfl 1 (by decide) f_1 (fun _ h9 => h9) rfl dX8_undo_24 ?_
    obtain ⟨v4, st5, hqv4, hM⟩ := bd_at hM
    refine jcallV (C := RX3) (As := []) (rest := []) ⟨hx, hb, hml, hown, hts⟩ (jw_X3_known D am cI cC cS hj N (show ck_Past 40 by decide) hqv4) (cwV 0 hts gX8_undo_X3_known rfl rfl rfl yd_X3_known ⟨Nat.le_of_ble_eq_true rfl, Nat.le_of_ble_eq_true rfl⟩) hK hI 40 (cg_40 am cI cC cS st2) rfl rfl hl.1 rfl (Nat.le_of_ble_eq_true rfl) dX8_undo_27 (fun H locs hI => ?_)
    refine W.eq (g2 := F0 m 30 ls [.int v4]) rfl ?_
    refine lv_goto (tgt := 35) hx hb dX8_undo_30 (by decide) ?_
    have hz := Option.some.inj hM
    exact W.iret hx hb hr (fun t ht hW => jq_i hK hI hz ht hW) hI.2.2.2 dX8_undo_35
set_option maxRecDepth 20000 in
theorem hi_X8_needed_X8 : ∀ w ∈ wsX80, w ∈ wsX8_needed := by decide +kernel
set_option maxRecDepth 20000 in
theorem hi_X8_needed_X0 : ∀ w ∈ wsX00, w ∈ wsX8_needed := by decide +kernel
set_option maxRecDepth 20000 in
theorem hi_X8_needed_X5 : ∀ w ∈ wsX50, w ∈ wsX8_needed := by decide +kernel
set_option maxHeartbeats 4000000 in
set_option maxRecDepth 100000 in
theorem jw_X8_needed {l : Launch} (D : va_G) (am : Nat → Nat) (cI cC cS : ClassId) (hj : aJ am 52) (N : Nat) {st stZ : PS} {rZ : Int32} (hM : jm_X8_needed N st = some (rZ, stZ)) : Met l yX8_needed wsX8_needed ({ frames := 4, cells := 0, slots := 0, locals := 92 }) (va_Pc [.ref (am 0)] (JH D (cW am cI cC cS) (cTy cI cC cS) st)) (JQ D (aA am 52) (cW am cI cC cS) (cTy cI cC cS) (some (.int rZ)) stZ) 0 0 (aA am 52) := by
  refine jStart (cc := cX8_needed) (maxL := 6) (ret := (some .int)) [.ref (am 0)] (by decide) rfl (Nat.le_of_ble_eq_true rfl) (fun p e s m below meth c ls hx hb hr hlocks hts hown hml hK hI hl => ?_)
  have hown : s.vm.findClass RX8 = some m.cls := hown
  replace hl : lv_has ls 6 [(0, .ref (am 0))] := hl
  generalize hAV : ([.ref (am 0)] : List Value).toArray = AV at hts ⊢
  have f_0 := hts (.fieldLink RX8 19 "PuppetBar" "doll" "LPuppetBar$Doll;") (by decide +kernel)
  have f_1 := hts (.fieldLink RX8 311 "PuppetBar$Doll" "strings" "I") (by decide +kernel)
  have f_2 := hts (.fieldLink RX8 29 "PuppetBar" "scene" "LPuppetBar$Scene;") (by decide +kernel)
  have f_3 := hts (.fieldLink RX8 65 "PuppetBar$Scene" "pose" "LPuppetBar$Pose;") (by decide +kernel)
  have f_4 := hts (.fieldLink RX8 61 "PuppetBar" "trial" "LPuppetBar$Pose;") (by decide +kernel)
  unfold jm_X8_needed at hM
  refine lv_iconst (v := (1 : Int32)) hx hb dX8_needed_0 (by decide) ?_
  refine lv_aload_n hx hb dX8_needed_1 rfl (lv_at hl 0 rfl) ?_
  refine va_get (D := D) (ci := 8) (v := .ref (am 17)) (C := RX8) (T := TX8) (N := 9) hx hb hts hi_X8_needed_X8 hown hK hI.1 0 (cg_0 am cI cC cS st) rfl 1 (by decide) f_0 (fun _ h9 => h9) rfl dX8_needed_2 ?_
  refine va_get (D := D) (ci := 0) (v := .int (st.1 17 8)) (C := RX0) (T := TX0) (N := 11) hx hb hts hi_X8_needed_X0 hown hK hI.1 17 (cg_17 am cI cC cS st) rfl 8 (by decide) f_1 (fun _ h9 => h9) rfl dX8_needed_5 ?_
  refine lv_ishl hx hb dX8_needed_8 ?_
  refine lv_iconst (v := (1 : Int32)) hx hb dX8_needed_9 (by decide) ?_
  refine lv_isub hx hb dX8_needed_10 ?_
  refine lv_topi (fun y1 ey1 => ?_)
  replace hM := nm_at ey1 hM
  refine lv_istore_n (lv' := [(1, .int y1), (0, .ref (am 0))]) hx hb dX8_needed_11 rfl hl (by decide) rfl (fun ls hl => ?_)
  refine lv_iload_n hx hb dX8_needed_12 rfl (lv_at hl 0 rfl) ?_
  refine lv_aload_n hx hb dX8_needed_13 rfl (lv_at hl 1 rfl) ?_
  refine va_get (D := D) (ci := 8) (v := .ref (am 37)) (C := RX8) (T := TX8) (N := 9) hx hb hts hi_X8_needed_X8 hown hK hI.1 0 (cg_0 am cI cC cS st) rfl 3 (by decide) f_2 (fun _ h9 => h9) rfl dX8_needed_14 ?_
  refine va_get (D := D) (ci := 5) (v := .ref (am 38)) (C := RX5) (T := TX5) (N := 3) hx hb hts hi_X8_needed_X5 hown hK hI.1 37 (cg_37 am cI cC cS st) rfl 0 (by decide) f_3 (fun _ h9 => h9) rfl dX8_needed_17 ?_
  obtain ⟨v2, st3, hqv2, hM⟩ := bd_at hM
  refine jcallV (C := RX4) (As := []) (rest := [.int y1]) ⟨hx, hb, hml, hown, hts⟩ (jw_X4_cut D am cI cC cS hj N (show ck_Pose 38 by decide) hqv2) (cwV 0 hts gX8_needed_X4_cut rfl rfl rfl yd_X4_cut ⟨Nat.le_of_ble_eq_true rfl, Nat.le_of_ble_eq_true rfl⟩) hK hI 38 (cg_38 am cI cC cS st) rfl rfl hl.1 rfl (Nat.le_of_ble_eq_true rfl) dX8_needed_20 (fun H locs hI => ?_)
  refine W.eq (g2 := F0 m 23 ls [.int v2, .int y1]) rfl ?_
  refine lv_iconst (v := (-1 : Int32)) hx hb dX8_needed_23 (by decide) ?_
  refine lv_ixor hx hb dX8_needed_24 ?_
  refine lv_iand hx hb dX8_needed_25 ?_
  refine lv_istore_n (lv' := [(2, .int (y1 &&& (v2 ^^^ (-1 : Int32)))), (1, .int y1), (0, .ref (am 0))]) hx hb dX8_needed_26 rfl hl (by decide) rfl (fun ls hl => ?_)
  refine lv_iload_n hx hb dX8_needed_27 rfl (lv_at hl 0 rfl) ?_
  refine lv_istore_n (lv' := [(3, .int (y1 &&& (v2 ^^^ (-1 : Int32)))), (2, .int (y1 &&& (v2 ^^^ (-1 : Int32)))), (1, .int y1), (0, .ref (am 0))]) hx hb dX8_needed_28 rfl hl (by decide) rfl (fun ls hl => ?_)
  refine lv_aload_n hx hb dX8_needed_29 rfl (lv_at hl 3 rfl) ?_
  refine va_get (D := D) (ci := 8) (v := .ref (am 15)) (C := RX8) (T := TX8) (N := 9) hx hb hts hi_X8_needed_X8 hown hK hI.1 0 (cg_0 am cI cC cS st3) rfl 8 (by decide) f_4 (fun _ h9 => h9) rfl dX8_needed_30 ?_
  refine lv_aload_n hx hb dX8_needed_33 rfl (lv_at hl 3 rfl) ?_
  refine va_get (D := D) (ci := 8) (v := .ref (am 37)) (C := RX8) (T := TX8) (N := 9) hx hb hts hi_X8_needed_X8 hown hK hI.1 0 (cg_0 am cI cC cS st3) rfl 3 (by decide) f_2 (fun _ h9 => h9) rfl dX8_needed_34 ?_
  refine va_get (D := D) (ci := 5) (v := .ref (am 38)) (C := RX5) (T := TX5) (N := 3) hx hb hts hi_X8_needed_X5 hown hK hI.1 37 (cg_37 am cI cC cS st3) rfl 0 (by decide) f_3 (fun _ h9 => h9) rfl dX8_needed_37 ?_
  obtain ⟨v4, st5, hqv4, hM⟩ := bd_at hM
  refine jcallV (C := RX4) (As := [.ref (am 38)]) (rest := []) ⟨hx, hb, hml, hown, hts⟩ (jw_X4_copyFrom D am cI cC cS hj N (show ck_Pose 15 by decide) (show ck_Pose 38 by decide) hqv4) (cwV 1 hts gX8_needed_X4_copyFrom rfl rfl rfl yd_X4_copyFrom ⟨Nat.le_of_ble_eq_true rfl, Nat.le_of_ble_eq_true rfl⟩) hK hI 15 (cg_15 am cI cC cS st3) rfl rfl hl.1 rfl (Nat.le_of_ble_eq_true rfl) dX8_needed_40 (fun H locs hI => ?_)
  refine W.eq (g2 := F0 m 43 ls []) rfl ?_
  refine lv_iconst (v := (0 : Int32)) hx hb dX8_needed_43 (by decide) ?_
  refine lv_istore (lv' := [(4, .int (0 : Int32)), (3, .int (y1 &&& (v2 ^^^ (-1 : Int32)))), (2, .int (y1 &&& (v2 ^^^ (-1 : Int32)))), (1, .int y1), (0, .ref (am 0))]) hx hb dX8_needed_44 hl (by decide) rfl (fun ls hl => ?_)
  obtain ⟨y6, ey6⟩ : ∃ z9 : Int32, z9 = (y1 &&& (v2 ^^^ (-1 : Int32))) := ⟨_, rfl⟩
  rw [← ey6] at hl
  replace hM := nm_at ey6 hM
  have lp0 : ∀ (n : Nat) (w8 : Int32) (w9 : Int32) (st7 : PS) (H : Heap) (locs : List Loc) (ls : Array Slot), JI D (aA am 52) (cW am cI cC cS) s.heap st7 H locs → lv_has ls 6 [(0, .ref (am 0)), (1, .int y1), (2, .int y6), (3, .int w8), (4, .int w9)] → iter (fun q => jm_X8_needed_L46 N y1 y6 q.1 q.2.1 q.2.2) n (w8, w9, st7) = some (rZ, stZ) → W p l e (headSpec wsX8_needed { frames := 4, cells := 0, slots := 0, locals := 92 }).room s m AV below meth c H locs 0 0 (MQ below (JQ D (aA am 52) (cW am cI cC cS) (cTy cI cC cS) (some (.int rZ)) stZ) AV s 0 0 (aA am 52)) (F0 m 46 ls []) := by
    intro n
    induction n with
    | zero =>
      intro _ _ _ _ _ _ _ _ hM
      exact absurd hM (fun h => iter_zero h)
    | succ n ih0 =>
      intro w8 w9 st7 H locs ls hI hl hM
      obtain ⟨z0, hM, hk0⟩ := iter_succ hM
      replace hM : jm_X8_needed_L46 N y1 y6 w8 w9 st7 = some z0 := hM
      unfold jm_X8_needed_L46 at hM
      refine lv_iload hx hb dX8_needed_46 (lv_at hl 4 rfl) ?_
      refine lv_iload_n hx hb dX8_needed_48 rfl (lv_at hl 2 rfl) ?_
      refine lv_icmp_ge (tgt := 128) hx hb dX8_needed_49 (by decide) (fun c10 => ?_) (fun c10 => ?_)
      · replace hM := if_t c10 hM
        refine lv_iload_n hx hb dX8_needed_128 rfl (lv_at hl 3 rfl) ?_
        have hz := Option.some.inj hM
        subst hz
        have hz := kn_r hk0
        exact W.iret hx hb hr (fun t ht hW => jq_i hK hI hz ht hW) hI.2.2.2 dX8_needed_129
      · replace hM := if_f c10 hM
        refine lv_iload hx hb dX8_needed_52 (lv_at hl 4 rfl) ?_
        refine lv_iload_n hx hb dX8_needed_54 rfl (lv_at hl 2 rfl) ?_
        refine lv_iconst (v := (-1 : Int32)) hx hb dX8_needed_55 (by decide) ?_
        refine lv_ixor hx hb dX8_needed_56 ?_
        refine lv_iand hx hb dX8_needed_57 ?_
        refine lv_if_ne (tgt := 65) hx hb dX8_needed_58 (by decide) (fun c11 => ?_) (fun c11 => ?_)
        · replace hM := if_f c11 hM
          refine lv_iconst (v := (0 : Int32)) hx hb dX8_needed_65 (by decide) ?_
          refine lv_istore (lv' := [(5, .int (0 : Int32)), (0, .ref (am 0)), (1, .int y1), (2, .int y6), (3, .int w8), (4, .int w9)]) hx hb dX8_needed_66 hl (by decide) rfl (fun ls hl => ?_)
          refine lv_iload hx hb dX8_needed_68 (lv_at hl 0 rfl) ?_
          refine lv_if_eq (tgt := 122) hx hb dX8_needed_70 (by decide) (fun _ => ?_) (fun c9 => absurd c9 (by decide))
          refine lv_iinc (v := (w9 + (1 : Int32))) (lv' := [(4, .int (w9 + (1 : Int32))), (5, .int (0 : Int32)), (0, .ref (am 0)), (1, .int y1), (2, .int y6), (3, .int w8)]) hx hb dX8_needed_122 hl (k := 5) rfl rfl (by decide) rfl (fun ls hl => ?_)
          refine lv_goto (tgt := 46) hx hb dX8_needed_125 (by decide) ?_
          have hz := Option.some.inj hM
          subst hz
          exact ih0 w8 (w9 + (1 : Int32)) st7 _ _ _ hI (lv_sub hl [2, 3, 4, 5, 0] rfl) hk0
        · replace hM := if_t c11 hM
          refine lv_iconst (v := (1 : Int32)) hx hb dX8_needed_61 (by decide) ?_
          refine lv_goto (tgt := 66) hx hb dX8_needed_62 (by decide) ?_
          refine lv_istore (lv' := [(5, .int (1 : Int32)), (0, .ref (am 0)), (1, .int y1), (2, .int y6), (3, .int w8), (4, .int w9)]) hx hb dX8_needed_66 hl (by decide) rfl (fun ls hl => ?_)
          refine lv_iload hx hb dX8_needed_68 (lv_at hl 0 rfl) ?_
          refine lv_if_eq (tgt := 122) hx hb dX8_needed_70 (by decide) (fun c9 => absurd c9 (by decide)) (fun _ => ?_)
          refine lv_iload hx hb dX8_needed_73 (lv_at hl 5 rfl) ?_
          obtain ⟨v12, st13, hqv12, hM⟩ := bd_at hM
          refine jcallS (As := [.int w9]) (rest := []) ⟨hx, hb, hml, hown, hts⟩ (jw_J6_bitCount_0f7a4 D am cI cC cS hj N hqv12) (va_cwS 1 hts gX8_needed_J6_bitCount_0f7a4 rfl rfl rfl yd_J6_bitCount_0f7a4 ⟨Nat.le_of_ble_eq_true rfl, Nat.le_of_ble_eq_true rfl⟩) hK hI rfl hl.1 rfl (Nat.le_of_ble_eq_true rfl) dX8_needed_75 (fun H locs hI => ?_)
          refine W.eq (g2 := F0 m 78 ls [.int v12]) rfl ?_
          refine lv_iload_n hx hb dX8_needed_78 rfl (lv_at hl 4 rfl) ?_
          obtain ⟨v14, st15, hqv14, hM⟩ := bd_at hM
          refine jcallS (As := [.int w8]) (rest := [.int v12]) ⟨hx, hb, hml, hown, hts⟩ (jw_J6_bitCount_0f7a4 D am cI cC cS hj N hqv14) (va_cwS 1 hts gX8_needed_J6_bitCount_0f7a4 rfl rfl rfl yd_J6_bitCount_0f7a4 ⟨Nat.le_of_ble_eq_true rfl, Nat.le_of_ble_eq_true rfl⟩) hK hI rfl hl.1 rfl (Nat.le_of_ble_eq_true rfl) dX8_needed_79 (fun H locs hI => ?_)
          refine W.eq (g2 := F0 m 82 ls [.int v14, .int v12]) rfl ?_
          refine lv_icmp_ge (tgt := 122) hx hb dX8_needed_82 (by decide) (fun c16 => ?_) (fun c16 => ?_)
          · replace hM := if_t c16 hM
            refine lv_iinc (v := (w9 + (1 : Int32))) (lv' := [(4, .int (w9 + (1 : Int32))), (5, .int (1 : Int32)), (0, .ref (am 0)), (1, .int y1), (2, .int y6), (3, .int w8)]) hx hb dX8_needed_122 hl (k := 5) rfl rfl (by decide) rfl (fun ls hl => ?_)
            refine lv_goto (tgt := 46) hx hb dX8_needed_125 (by decide) ?_
            have hz := Option.some.inj hM
            subst hz
            exact ih0 w8 (w9 + (1 : Int32)) st15 _ _ _ hI (lv_sub hl [2, 3, 4, 5, 0] rfl) hk0
          · replace hM := if_f c16 hM
            refine lv_aload_n hx hb dX8_needed_85 rfl (lv_at hl 1 rfl) ?_
            refine va_get (D := D) (ci := 8) (v := .ref (am 15)) (C := RX8) (T := TX8) (N := 9) hx hb hts hi_X8_needed_X8 hown hK hI.1 0 (cg_0 am cI cC cS st15) rfl 8 (by decide) f_4 (fun _ h9 => h9) rfl dX8_needed_86 ?_
            refine lv_iload_n hx hb dX8_needed_89 rfl (lv_at hl 2 rfl) ?_
            refine lv_iload hx hb dX8_needed_90 (lv_at hl 5 rfl) ?_
            refine lv_iconst (v := (-1 : Int32)) hx hb dX8_needed_92 (by decide) ?_
            refine lv_ixor hx hb dX8_needed_93 ?_
            refine lv_iand hx hb dX8_needed_94 ?_
            obtain ⟨v17, st18, hqv17, hM⟩ := bd_at hM
            refine jcallV (C := RX4) (As := [.int (y1 &&& (w9 ^^^ (-1 : Int32)))]) (rest := []) ⟨hx, hb, hml, hown, hts⟩ (jw_X4_setCut D am cI cC cS hj N (show ck_Pose 15 by decide) hqv17) (cwV 1 hts gX8_needed_X4_setCut rfl rfl rfl yd_X4_setCut ⟨Nat.le_of_ble_eq_true rfl, Nat.le_of_ble_eq_true rfl⟩) hK hI 15 (cg_15 am cI cC cS st15) rfl rfl hl.1 rfl (Nat.le_of_ble_eq_true rfl) dX8_needed_95 (fun H locs hI => ?_)
            refine W.eq (g2 := F0 m 98 ls []) rfl ?_
            refine lv_aload_n hx hb dX8_needed_98 rfl (lv_at hl 1 rfl) ?_
            refine va_get (D := D) (ci := 8) (v := .ref (am 17)) (C := RX8) (T := TX8) (N := 9) hx hb hts hi_X8_needed_X8 hown hK hI.1 0 (cg_0 am cI cC cS st18) rfl 1 (by decide) f_0 (fun _ h9 => h9) rfl dX8_needed_99 ?_
            refine lv_aload_n hx hb dX8_needed_102 rfl (lv_at hl 1 rfl) ?_
            refine va_get (D := D) (ci := 8) (v := .ref (am 37)) (C := RX8) (T := TX8) (N := 9) hx hb hts hi_X8_needed_X8 hown hK hI.1 0 (cg_0 am cI cC cS st18) rfl 3 (by decide) f_2 (fun _ h9 => h9) rfl dX8_needed_103 ?_
            refine va_get (D := D) (ci := 5) (v := .ref (am 38)) (C := RX5) (T := TX5) (N := 3) hx hb hts hi_X8_needed_X5 hown hK hI.1 37 (cg_37 am cI cC cS st18) rfl 0 (by decide) f_3 (fun _ h9 => h9) rfl dX8_needed_106 ?_
            refine lv_aload_n hx hb dX8_needed_109 rfl (lv_at hl 1 rfl) ?_
            refine va_get (D := D) (ci := 8) (v := .ref (am 15)) (C := RX8) (T := TX8) (N := 9) hx hb hts hi_X8_needed_X8 hown hK hI.1 0 (cg_0 am cI cC cS st18) rfl 8 (by decide) f_4 (fun _ h9 => h9) rfl dX8_needed_110 ?_
            obtain ⟨v19, st20, hqv19, hM⟩ := bd_at hM
            refine jcallV (C := RX0) (As := [.ref (am 38), .ref (am 15)]) (rest := []) ⟨hx, hb, hml, hown, hts⟩ (jw_X0_hangsAlike D am cI cC cS hj N (show ck_Doll 17 by decide) (show ck_Pose 38 by decide) (show ck_Pose 15 by decide) hqv19) (cwV 2 hts gX8_needed_X0_hangsAlike rfl rfl rfl yd_X0_hangsAlike ⟨Nat.le_of_ble_eq_true rfl, Nat.le_of_ble_eq_true rfl⟩) hK hI 17 (cg_17 am cI cC cS st18) rfl rfl hl.1 rfl (Nat.le_of_ble_eq_true rfl) dX8_needed_113 (fun H locs hI => ?_)
            refine W.eq (g2 := F0 m 116 ls [.int v19]) rfl ?_
            refine lv_if_eq (tgt := 122) hx hb dX8_needed_116 (by decide) (fun c21 => ?_) (fun c21 => ?_)
            · replace hM := if_t c21 hM
              refine lv_iinc (v := (w9 + (1 : Int32))) (lv' := [(4, .int (w9 + (1 : Int32))), (5, .int (1 : Int32)), (0, .ref (am 0)), (1, .int y1), (2, .int y6), (3, .int w8)]) hx hb dX8_needed_122 hl (k := 5) rfl rfl (by decide) rfl (fun ls hl => ?_)
              refine lv_goto (tgt := 46) hx hb dX8_needed_125 (by decide) ?_
              have hz := Option.some.inj hM
              subst hz
              exact ih0 w8 (w9 + (1 : Int32)) st20 _ _ _ hI (lv_sub hl [2, 3, 4, 5, 0] rfl) hk0
            · replace hM := if_f c21 hM
              refine lv_iload hx hb dX8_needed_119 (lv_at hl 5 rfl) ?_
              refine lv_istore_n (lv' := [(3, .int w9), (5, .int (1 : Int32)), (0, .ref (am 0)), (1, .int y1), (2, .int y6), (4, .int w9)]) hx hb dX8_needed_121 rfl hl (by decide) rfl (fun ls hl => ?_)
              refine lv_iinc (v := (w9 + (1 : Int32))) (lv' := [(4, .int (w9 + (1 : Int32))), (3, .int w9), (5, .int (1 : Int32)), (0, .ref (am 0)), (1, .int y1), (2, .int y6)]) hx hb dX8_needed_122 hl (k := 5) rfl rfl (by decide) rfl (fun ls hl => ?_)
              refine lv_goto (tgt := 46) hx hb dX8_needed_125 (by decide) ?_
              have hz := Option.some.inj hM
              subst hz
              exact ih0 w9 (w9 + (1 : Int32)) st20 _ _ _ hI (lv_sub hl [3, 4, 5, 1, 0] rfl) hk0
  exact lp0 N y6 (0 : Int32) st5 _ _ _ hI (lv_sub hl [4, 3, 2, 1, 0] rfl) hM
set_option maxRecDepth 20000 in
theorem hi_X8_now_X8 : ∀ w ∈ wsX80, w ∈ wsX8_now := by decide +kernel
set_option maxRecDepth 20000 in
theorem hi_X8_now_X5 : ∀ w ∈ wsX50, w ∈ wsX8_now := by decide +kernel
set_option maxHeartbeats 4000000 in
set_option maxRecDepth 100000 in
theorem jw_X8_now {l : Launch} (D : va_G) (am : Nat → Nat) (cI cC cS : ClassId) (hj : aJ am 52) (N : Nat) {x1 : Int32} {st stZ : PS} {rZ : Int32} (hM : jm_X8_now N x1 st = some (rZ, stZ)) : Met l yX8_now wsX8_now ({ frames := 5, cells := 0, slots := 0, locals := 117 }) (va_Pc [.ref (am 0), .int x1] (JH D (cW am cI cC cS) (cTy cI cC cS) st)) (JQ D (aA am 52) (cW am cI cC cS) (cTy cI cC cS) (some (.int rZ)) stZ) 0 0 (aA am 52) := by
  refine jStart (cc := cX8_now) (maxL := 2) (ret := (some .int)) [.ref (am 0), .int x1] (by decide) rfl (Nat.le_of_ble_eq_true rfl) (fun p e s m below meth c ls hx hb hr hlocks hts hown hml hK hI hl => ?_)
  have hown : s.vm.findClass RX8 = some m.cls := hown
  replace hl : lv_has ls 2 [(0, .ref (am 0)), (1, .int x1)] := hl
  generalize hAV : ([.ref (am 0), .int x1] : List Value).toArray = AV at hts ⊢
  have f_0 := hts (.fieldLink RX8 29 "PuppetBar" "scene" "LPuppetBar$Scene;") (by decide +kernel)
  have f_1 := hts (.fieldLink RX8 65 "PuppetBar$Scene" "pose" "LPuppetBar$Pose;") (by decide +kernel)
  have f_2 := hts (.fieldLink RX8 19 "PuppetBar" "doll" "LPuppetBar$Doll;") (by decide +kernel)
  have f_3 := hts (.constant RX8 124 (-1000000)) (by decide +kernel)
  unfold jm_X8_now at hM
  refine lv_iload_n hx hb dX8_now_0 rfl (lv_at hl 1 rfl) ?_
  by_cases c1 : x1 = (0 : Int32)
  · replace hM := if_t c1 hM
    refine lv_tableIn (off := 47) (tgt := 48) hx hb dX8_now_1 (by rw [c1]; decide) (by rw [c1]; decide) (by rw [c1]; decide) (by decide) ?_
    refine lv_aload_n hx hb dX8_now_48 rfl (lv_at hl 0 rfl) ?_
    refine va_get (D := D) (ci := 8) (v := .ref (am 37)) (C := RX8) (T := TX8) (N := 9) hx hb hts hi_X8_now_X8 hown hK hI.1 0 (cg_0 am cI cC cS st) rfl 3 (by decide) f_0 (fun _ h9 => h9) rfl dX8_now_49 ?_
    refine va_get (D := D) (ci := 5) (v := .ref (am 38)) (C := RX5) (T := TX5) (N := 3) hx hb hts hi_X8_now_X5 hown hK hI.1 37 (cg_37 am cI cC cS st) rfl 0 (by decide) f_1 (fun _ h9 => h9) rfl dX8_now_52 ?_
    obtain ⟨v2, st3, hqv2, hM⟩ := bd_at hM
    refine jcallV (C := RX4) (As := []) (rest := []) ⟨hx, hb, hml, hown, hts⟩ (jw_X4_lift D am cI cC cS hj N (show ck_Pose 38 by decide) hqv2) (cwV 0 hts gX8_now_X4_lift rfl rfl rfl yd_X4_lift ⟨Nat.le_of_ble_eq_true rfl, Nat.le_of_ble_eq_true rfl⟩) hK hI 38 (cg_38 am cI cC cS st) rfl rfl hl.1 rfl (Nat.le_of_ble_eq_true rfl) dX8_now_55 (fun H locs hI => ?_)
    refine W.eq (g2 := F0 m 58 ls [.int v2]) rfl ?_
    have hz := Option.some.inj hM
    exact W.iret hx hb hr (fun t ht hW => jq_i hK hI hz ht hW) hI.2.2.2 dX8_now_58
  · replace hM := if_f c1 hM
    by_cases c4 : x1 = (1 : Int32)
    · replace hM := if_t c4 hM
      refine lv_tableIn (off := 58) (tgt := 59) hx hb dX8_now_1 (by rw [c4]; decide) (by rw [c4]; decide) (by rw [c4]; decide) (by decide) ?_
      refine lv_aload_n hx hb dX8_now_59 rfl (lv_at hl 0 rfl) ?_
      refine va_get (D := D) (ci := 8) (v := .ref (am 37)) (C := RX8) (T := TX8) (N := 9) hx hb hts hi_X8_now_X8 hown hK hI.1 0 (cg_0 am cI cC cS st) rfl 3 (by decide) f_0 (fun _ h9 => h9) rfl dX8_now_60 ?_
      refine va_get (D := D) (ci := 5) (v := .ref (am 38)) (C := RX5) (T := TX5) (N := 3) hx hb hts hi_X8_now_X5 hown hK hI.1 37 (cg_37 am cI cC cS st) rfl 0 (by decide) f_1 (fun _ h9 => h9) rfl dX8_now_63 ?_
      obtain ⟨v5, st6, hqv5, hM⟩ := bd_at hM
      refine jcallV (C := RX4) (As := []) (rest := []) ⟨hx, hb, hml, hown, hts⟩ (jw_X4_tilt D am cI cC cS hj N (show ck_Pose 38 by decide) hqv5) (cwV 0 hts gX8_now_X4_tilt rfl rfl rfl yd_X4_tilt ⟨Nat.le_of_ble_eq_true rfl, Nat.le_of_ble_eq_true rfl⟩) hK hI 38 (cg_38 am cI cC cS st) rfl rfl hl.1 rfl (Nat.le_of_ble_eq_true rfl) dX8_now_66 (fun H locs hI => ?_)
      refine W.eq (g2 := F0 m 69 ls [.int v5]) rfl ?_
      have hz := Option.some.inj hM
      exact W.iret hx hb hr (fun t ht hW => jq_i hK hI hz ht hW) hI.2.2.2 dX8_now_69
    · replace hM := if_f c4 hM
      by_cases c7 : x1 = (2 : Int32)
      · replace hM := if_t c7 hM
        refine lv_tableIn (off := 69) (tgt := 70) hx hb dX8_now_1 (by rw [c7]; decide) (by rw [c7]; decide) (by rw [c7]; decide) (by decide) ?_
        refine lv_aload_n hx hb dX8_now_70 rfl (lv_at hl 0 rfl) ?_
        refine va_get (D := D) (ci := 8) (v := .ref (am 37)) (C := RX8) (T := TX8) (N := 9) hx hb hts hi_X8_now_X8 hown hK hI.1 0 (cg_0 am cI cC cS st) rfl 3 (by decide) f_0 (fun _ h9 => h9) rfl dX8_now_71 ?_
        refine va_get (D := D) (ci := 5) (v := .ref (am 38)) (C := RX5) (T := TX5) (N := 3) hx hb hts hi_X8_now_X5 hown hK hI.1 37 (cg_37 am cI cC cS st) rfl 0 (by decide) f_1 (fun _ h9 => h9) rfl dX8_now_74 ?_
        obtain ⟨v8, st9, hqv8, hM⟩ := bd_at hM
        refine jcallV (C := RX4) (As := []) (rest := []) ⟨hx, hb, hml, hown, hts⟩ (jw_X4_cut D am cI cC cS hj N (show ck_Pose 38 by decide) hqv8) (cwV 0 hts gX8_now_X4_cut rfl rfl rfl yd_X4_cut ⟨Nat.le_of_ble_eq_true rfl, Nat.le_of_ble_eq_true rfl⟩) hK hI 38 (cg_38 am cI cC cS st) rfl rfl hl.1 rfl (Nat.le_of_ble_eq_true rfl) dX8_now_77 (fun H locs hI => ?_)
        refine W.eq (g2 := F0 m 80 ls [.int v8]) rfl ?_
        have hz := Option.some.inj hM
        exact W.iret hx hb hr (fun t ht hW => jq_i hK hI hz ht hW) hI.2.2.2 dX8_now_80
      · replace hM := if_f c7 hM
        by_cases c10 : x1 = (3 : Int32)
        · replace hM := if_t c10 hM
          refine lv_tableIn (off := 80) (tgt := 81) hx hb dX8_now_1 (by rw [c10]; decide) (by rw [c10]; decide) (by rw [c10]; decide) (by decide) ?_
          refine lv_aload_n hx hb dX8_now_81 rfl (lv_at hl 0 rfl) ?_
          refine va_get (D := D) (ci := 8) (v := .ref (am 17)) (C := RX8) (T := TX8) (N := 9) hx hb hts hi_X8_now_X8 hown hK hI.1 0 (cg_0 am cI cC cS st) rfl 1 (by decide) f_2 (fun _ h9 => h9) rfl dX8_now_82 ?_
          refine lv_aload_n hx hb dX8_now_85 rfl (lv_at hl 0 rfl) ?_
          refine va_get (D := D) (ci := 8) (v := .ref (am 37)) (C := RX8) (T := TX8) (N := 9) hx hb hts hi_X8_now_X8 hown hK hI.1 0 (cg_0 am cI cC cS st) rfl 3 (by decide) f_0 (fun _ h9 => h9) rfl dX8_now_86 ?_
          refine va_get (D := D) (ci := 5) (v := .ref (am 38)) (C := RX5) (T := TX5) (N := 3) hx hb hts hi_X8_now_X5 hown hK hI.1 37 (cg_37 am cI cC cS st) rfl 0 (by decide) f_1 (fun _ h9 => h9) rfl dX8_now_89 ?_
          obtain ⟨v11, st12, hqv11, hM⟩ := bd_at hM
          refine jcallV (C := RX0) (As := [.ref (am 38)]) (rest := []) ⟨hx, hb, hml, hown, hts⟩ (jw_X0_grounded D am cI cC cS hj N (show ck_Doll 17 by decide) (show ck_Pose 38 by decide) hqv11) (cwV 1 hts gX8_now_X0_grounded rfl rfl rfl yd_X0_grounded ⟨Nat.le_of_ble_eq_true rfl, Nat.le_of_ble_eq_true rfl⟩) hK hI 17 (cg_17 am cI cC cS st) rfl rfl hl.1 rfl (Nat.le_of_ble_eq_true rfl) dX8_now_92 (fun H locs hI => ?_)
          refine W.eq (g2 := F0 m 95 ls [.int v11]) rfl ?_
          have hz := Option.some.inj hM
          exact W.iret hx hb hr (fun t ht hW => jq_i hK hI hz ht hW) hI.2.2.2 dX8_now_95
        · replace hM := if_f c10 hM
          by_cases c13 : x1 = (4 : Int32)
          · replace hM := if_t c13 hM
            refine lv_tableIn (off := 95) (tgt := 96) hx hb dX8_now_1 (by rw [c13]; decide) (by rw [c13]; decide) (by rw [c13]; decide) (by decide) ?_
            refine lv_aload_n hx hb dX8_now_96 rfl (lv_at hl 0 rfl) ?_
            refine va_get (D := D) (ci := 8) (v := .ref (am 17)) (C := RX8) (T := TX8) (N := 9) hx hb hts hi_X8_now_X8 hown hK hI.1 0 (cg_0 am cI cC cS st) rfl 1 (by decide) f_2 (fun _ h9 => h9) rfl dX8_now_97 ?_
            refine lv_aload_n hx hb dX8_now_100 rfl (lv_at hl 0 rfl) ?_
            refine va_get (D := D) (ci := 8) (v := .ref (am 37)) (C := RX8) (T := TX8) (N := 9) hx hb hts hi_X8_now_X8 hown hK hI.1 0 (cg_0 am cI cC cS st) rfl 3 (by decide) f_0 (fun _ h9 => h9) rfl dX8_now_101 ?_
            refine va_get (D := D) (ci := 5) (v := .ref (am 38)) (C := RX5) (T := TX5) (N := 3) hx hb hts hi_X8_now_X5 hown hK hI.1 37 (cg_37 am cI cC cS st) rfl 0 (by decide) f_1 (fun _ h9 => h9) rfl dX8_now_104 ?_
            obtain ⟨v14, st15, hqv14, hM⟩ := bd_at hM
            refine jcallV (C := RX0) (As := [.ref (am 38)]) (rest := []) ⟨hx, hb, hml, hown, hts⟩ (jw_X0_taut D am cI cC cS hj N (show ck_Doll 17 by decide) (show ck_Pose 38 by decide) hqv14) (cwV 1 hts gX8_now_X0_taut rfl rfl rfl yd_X0_taut ⟨Nat.le_of_ble_eq_true rfl, Nat.le_of_ble_eq_true rfl⟩) hK hI 17 (cg_17 am cI cC cS st) rfl rfl hl.1 rfl (Nat.le_of_ble_eq_true rfl) dX8_now_107 (fun H locs hI => ?_)
            refine W.eq (g2 := F0 m 110 ls [.int v14]) rfl ?_
            have hz := Option.some.inj hM
            exact W.iret hx hb hr (fun t ht hW => jq_i hK hI hz ht hW) hI.2.2.2 dX8_now_110
          · replace hM := if_f c13 hM
            by_cases c16 : x1 = (5 : Int32)
            · replace hM := if_t c16 hM
              refine lv_tableIn (off := 110) (tgt := 111) hx hb dX8_now_1 (by rw [c16]; decide) (by rw [c16]; decide) (by rw [c16]; decide) (by decide) ?_
              refine lv_aload_n hx hb dX8_now_111 rfl (lv_at hl 0 rfl) ?_
              refine va_get (D := D) (ci := 8) (v := .ref (am 17)) (C := RX8) (T := TX8) (N := 9) hx hb hts hi_X8_now_X8 hown hK hI.1 0 (cg_0 am cI cC cS st) rfl 1 (by decide) f_2 (fun _ h9 => h9) rfl dX8_now_112 ?_
              refine lv_aload_n hx hb dX8_now_115 rfl (lv_at hl 0 rfl) ?_
              refine va_get (D := D) (ci := 8) (v := .ref (am 37)) (C := RX8) (T := TX8) (N := 9) hx hb hts hi_X8_now_X8 hown hK hI.1 0 (cg_0 am cI cC cS st) rfl 3 (by decide) f_0 (fun _ h9 => h9) rfl dX8_now_116 ?_
              refine va_get (D := D) (ci := 5) (v := .ref (am 38)) (C := RX5) (T := TX5) (N := 3) hx hb hts hi_X8_now_X5 hown hK hI.1 37 (cg_37 am cI cC cS st) rfl 0 (by decide) f_1 (fun _ h9 => h9) rfl dX8_now_119 ?_
              obtain ⟨v17, st18, hqv17, hM⟩ := bd_at hM
              refine jcallV (C := RX0) (As := [.ref (am 38)]) (rest := []) ⟨hx, hb, hml, hown, hts⟩ (jw_X0_heightsTogether D am cI cC cS hj N (show ck_Doll 17 by decide) (show ck_Pose 38 by decide) hqv17) (cwV 1 hts gX8_now_X0_heightsTogether rfl rfl rfl yd_X0_heightsTogether ⟨Nat.le_of_ble_eq_true rfl, Nat.le_of_ble_eq_true rfl⟩) hK hI 17 (cg_17 am cI cC cS st) rfl rfl hl.1 rfl (Nat.le_of_ble_eq_true rfl) dX8_now_122 (fun H locs hI => ?_)
              refine W.eq (g2 := F0 m 125 ls [.int v17]) rfl ?_
              have hz := Option.some.inj hM
              exact W.iret hx hb hr (fun t ht hW => jq_i hK hI hz ht hW) hI.2.2.2 dX8_now_125
            · replace hM := if_f c16 hM
              by_cases c19 : x1 = (6 : Int32)
              · replace hM := if_t c19 hM
                refine lv_tableIn (off := 125) (tgt := 126) hx hb dX8_now_1 (by rw [c19]; decide) (by rw [c19]; decide) (by rw [c19]; decide) (by decide) ?_
                refine lv_aload_n hx hb dX8_now_126 rfl (lv_at hl 0 rfl) ?_
                obtain ⟨v20, st21, hqv20, hM⟩ := bd_at hM
                refine jcallV (C := RX8) (As := []) (rest := []) ⟨hx, hb, hml, hown, hts⟩ (jw_X8_needed D am cI cC cS hj N hqv20) (cwV 0 hts gX8_now_X8_needed rfl rfl rfl yd_X8_needed ⟨Nat.le_of_ble_eq_true rfl, Nat.le_of_ble_eq_true rfl⟩) hK hI 0 (cg_0 am cI cC cS st) rfl rfl hl.1 rfl (Nat.le_of_ble_eq_true rfl) dX8_now_127 (fun H locs hI => ?_)
                refine W.eq (g2 := F0 m 130 ls [.int v20]) rfl ?_
                have hz := Option.some.inj hM
                exact W.iret hx hb hr (fun t ht hW => jq_i hK hI hz ht hW) hI.2.2.2 dX8_now_130
              · replace hM := if_f c19 hM
                by_cases c22 : x1 = (7 : Int32)
                · replace hM := if_t c22 hM
                  refine lv_tableIn (off := 130) (tgt := 131) hx hb dX8_now_1 (by rw [c22]; decide) (by rw [c22]; decide) (by rw [c22]; decide) (by decide) ?_
                  refine lv_aload_n hx hb dX8_now_131 rfl (lv_at hl 0 rfl) ?_
                  refine va_get (D := D) (ci := 8) (v := .ref (am 17)) (C := RX8) (T := TX8) (N := 9) hx hb hts hi_X8_now_X8 hown hK hI.1 0 (cg_0 am cI cC cS st) rfl 1 (by decide) f_2 (fun _ h9 => h9) rfl dX8_now_132 ?_
                  refine lv_aload_n hx hb dX8_now_135 rfl (lv_at hl 0 rfl) ?_
                  refine va_get (D := D) (ci := 8) (v := .ref (am 37)) (C := RX8) (T := TX8) (N := 9) hx hb hts hi_X8_now_X8 hown hK hI.1 0 (cg_0 am cI cC cS st) rfl 3 (by decide) f_0 (fun _ h9 => h9) rfl dX8_now_136 ?_
                  refine va_get (D := D) (ci := 5) (v := .ref (am 38)) (C := RX5) (T := TX5) (N := 3) hx hb hts hi_X8_now_X5 hown hK hI.1 37 (cg_37 am cI cC cS st) rfl 0 (by decide) f_1 (fun _ h9 => h9) rfl dX8_now_139 ?_
                  obtain ⟨v23, st24, hqv23, hM⟩ := bd_at hM
                  refine jcallV (C := RX0) (As := [.ref (am 38)]) (rest := []) ⟨hx, hb, hml, hown, hts⟩ (jw_X0_crossings D am cI cC cS hj N (show ck_Doll 17 by decide) (show ck_Pose 38 by decide) hqv23) (cwV 1 hts gX8_now_X0_crossings rfl rfl rfl yd_X0_crossings ⟨Nat.le_of_ble_eq_true rfl, Nat.le_of_ble_eq_true rfl⟩) hK hI 17 (cg_17 am cI cC cS st) rfl rfl hl.1 rfl (Nat.le_of_ble_eq_true rfl) dX8_now_142 (fun H locs hI => ?_)
                  refine W.eq (g2 := F0 m 145 ls [.int v23]) rfl ?_
                  have hz := Option.some.inj hM
                  exact W.iret hx hb hr (fun t ht hW => jq_i hK hI hz ht hW) hI.2.2.2 dX8_now_145
                · replace hM := if_f c22 hM
                  refine lv_tableOut (tgt := 146) hx hb dX8_now_1 (by have nc1 : ¬ (0 : Int) = (x1).toInt := ne_ti c1; have nc4 : ¬ (1 : Int) = (x1).toInt := ne_ti c4; have nc7 : ¬ (2 : Int) = (x1).toInt := ne_ti c7; have nc10 : ¬ (3 : Int) = (x1).toInt := ne_ti c10; have nc13 : ¬ (4 : Int) = (x1).toInt := ne_ti c13; have nc16 : ¬ (5 : Int) = (x1).toInt := ne_ti c16; have nc19 : ¬ (6 : Int) = (x1).toInt := ne_ti c19; have nc22 : ¬ (7 : Int) = (x1).toInt := ne_ti c22; omega) (by decide) ?_
                  refine lv_ldc (v := (-1000000 : Int32)) hx hb hown f_3 dX8_now_146 ?_
                  have hz := Option.some.inj hM
                  exact W.iret hx hb hr (fun t ht hW => jq_i hK hI hz ht hW) hI.2.2.2 dX8_now_148
set_option maxRecDepth 20000 in
theorem hi_X8_nearestGrounding_X8 : ∀ w ∈ wsX80, w ∈ wsX8_nearestGrounding := by decide +kernel
set_option maxRecDepth 20000 in
theorem hi_X8_nearestGrounding_X5 : ∀ w ∈ wsX50, w ∈ wsX8_nearestGrounding := by decide +kernel
set_option maxHeartbeats 4000000 in
set_option maxRecDepth 100000 in
theorem jw_X8_nearestGrounding {l : Launch} (D : va_G) (am : Nat → Nat) (cI cC cS : ClassId) (hj : aJ am 52) (N : Nat) {x1 : Int32} {st stZ : PS} {rZ : Int32} (hM : jm_X8_nearestGrounding N x1 st = some (rZ, stZ)) : Met l yX8_nearestGrounding wsX8_nearestGrounding ({ frames := 4, cells := 0, slots := 0, locals := 93 }) (va_Pc [.ref (am 0), .int x1] (JH D (cW am cI cC cS) (cTy cI cC cS) st)) (JQ D (aA am 52) (cW am cI cC cS) (cTy cI cC cS) (some (.int rZ)) stZ) 0 0 (aA am 52) := by
  refine jStart (cc := cX8_nearestGrounding) (maxL := 7) (ret := (some .int)) [.ref (am 0), .int x1] (by decide) rfl (Nat.le_of_ble_eq_true rfl) (fun p e s m below meth c ls hx hb hr hlocks hts hown hml hK hI hl => ?_)
  have hown : s.vm.findClass RX8 = some m.cls := hown
  replace hl : lv_has ls 7 [(0, .ref (am 0)), (1, .int x1)] := hl
  generalize hAV : ([.ref (am 0), .int x1] : List Value).toArray = AV at hts ⊢
  have f_0 := hts (.fieldLink RX8 61 "PuppetBar" "trial" "LPuppetBar$Pose;") (by decide +kernel)
  have f_1 := hts (.fieldLink RX8 29 "PuppetBar" "scene" "LPuppetBar$Scene;") (by decide +kernel)
  have f_2 := hts (.fieldLink RX8 65 "PuppetBar$Scene" "pose" "LPuppetBar$Pose;") (by decide +kernel)
  have f_3 := hts (.methodLink RX8 324 Lib.Math.abs.name) (by decide +kernel)
  have f_4 := hts (.static Lib.Math.abs.name) (by decide +kernel)
  have f_5 := hts (.initialized "java/lang/Math") (by decide +kernel)
  have f_6 := hts (.code Lib.Math.abs.name Lib.Math.abs.code 1 (some .int)) (by decide +kernel)
  have f_7 := hts (.fieldLink RX8 19 "PuppetBar" "doll" "LPuppetBar$Doll;") (by decide +kernel)
  unfold jm_X8_nearestGrounding at hM
  refine lv_bipush (v := (-9 : Int32)) hx hb dX8_nearestGrounding_0 (by decide) ?_
  refine lv_istore_n (lv' := [(2, .int (-9 : Int32)), (0, .ref (am 0)), (1, .int x1)]) hx hb dX8_nearestGrounding_2 rfl hl (by decide) rfl (fun ls hl => ?_)
  refine lv_aload_n hx hb dX8_nearestGrounding_3 rfl (lv_at hl 1 rfl) ?_
  refine va_get (D := D) (ci := 8) (v := .ref (am 15)) (C := RX8) (T := TX8) (N := 9) hx hb hts hi_X8_nearestGrounding_X8 hown hK hI.1 0 (cg_0 am cI cC cS st) rfl 8 (by decide) f_0 (fun _ h9 => h9) rfl dX8_nearestGrounding_4 ?_
  refine lv_aload_n hx hb dX8_nearestGrounding_7 rfl (lv_at hl 1 rfl) ?_
  refine va_get (D := D) (ci := 8) (v := .ref (am 37)) (C := RX8) (T := TX8) (N := 9) hx hb hts hi_X8_nearestGrounding_X8 hown hK hI.1 0 (cg_0 am cI cC cS st) rfl 3 (by decide) f_1 (fun _ h9 => h9) rfl dX8_nearestGrounding_8 ?_
  refine va_get (D := D) (ci := 5) (v := .ref (am 38)) (C := RX5) (T := TX5) (N := 3) hx hb hts hi_X8_nearestGrounding_X5 hown hK hI.1 37 (cg_37 am cI cC cS st) rfl 0 (by decide) f_2 (fun _ h9 => h9) rfl dX8_nearestGrounding_11 ?_
  obtain ⟨v1, st2, hqv1, hM⟩ := bd_at hM
  refine jcallV (C := RX4) (As := [.ref (am 38)]) (rest := []) ⟨hx, hb, hml, hown, hts⟩ (jw_X4_copyFrom D am cI cC cS hj N (show ck_Pose 15 by decide) (show ck_Pose 38 by decide) hqv1) (cwV 1 hts gX8_nearestGrounding_X4_copyFrom rfl rfl rfl yd_X4_copyFrom ⟨Nat.le_of_ble_eq_true rfl, Nat.le_of_ble_eq_true rfl⟩) hK hI 15 (cg_15 am cI cC cS st) rfl rfl hl.1 rfl (Nat.le_of_ble_eq_true rfl) dX8_nearestGrounding_14 (fun H locs hI => ?_)
  refine W.eq (g2 := F0 m 17 ls []) rfl ?_
  refine lv_iconst (v := (0 : Int32)) hx hb dX8_nearestGrounding_17 (by decide) ?_
  refine lv_istore_n (lv' := [(3, .int (0 : Int32)), (2, .int (-9 : Int32)), (0, .ref (am 0)), (1, .int x1)]) hx hb dX8_nearestGrounding_18 rfl hl (by decide) rfl (fun ls hl => ?_)
  have lp0 : ∀ (n : Nat) (w4 : Int32) (w5 : Int32) (st3 : PS) (H : Heap) (locs : List Loc) (ls : Array Slot), JI D (aA am 52) (cW am cI cC cS) s.heap st3 H locs → lv_has ls 7 [(0, .ref (am 0)), (1, .int x1), (2, .int w4), (3, .int w5)] → iter (fun q => jm_X8_nearestGrounding_L19 N x1 q.1 q.2.1 q.2.2) n (w4, w5, st3) = some (rZ, stZ) → W p l e (headSpec wsX8_nearestGrounding { frames := 4, cells := 0, slots := 0, locals := 93 }).room s m AV below meth c H locs 0 0 (MQ below (JQ D (aA am 52) (cW am cI cC cS) (cTy cI cC cS) (some (.int rZ)) stZ) AV s 0 0 (aA am 52)) (F0 m 19 ls []) := by
    intro n
    induction n with
    | zero =>
      intro _ _ _ _ _ _ _ _ hM
      exact absurd hM (fun h => iter_zero h)
    | succ n ih0 =>
      intro w4 w5 st3 H locs ls hI hl hM
      obtain ⟨z0, hM, hk0⟩ := iter_succ hM
      replace hM : jm_X8_nearestGrounding_L19 N x1 w4 w5 st3 = some z0 := hM
      unfold jm_X8_nearestGrounding_L19 at hM
      refine lv_iload_n hx hb dX8_nearestGrounding_19 rfl (lv_at hl 3 rfl) ?_
      refine lv_bipush (v := (40 : Int32)) hx hb dX8_nearestGrounding_20 (by decide) ?_
      refine lv_icmp_gt (tgt := 149) hx hb dX8_nearestGrounding_22 (by decide) (fun c6 => ?_) (fun c6 => ?_)
      · replace hM := if_t c6 hM
        refine lv_iload_n hx hb dX8_nearestGrounding_149 rfl (lv_at hl 2 rfl) ?_
        have hz := Option.some.inj hM
        subst hz
        have hz := kn_r hk0
        exact W.iret hx hb hr (fun t ht hW => jq_i hK hI hz ht hW) hI.2.2.2 dX8_nearestGrounding_150
      · replace hM := if_f c6 hM
        refine lv_bipush (v := (-3 : Int32)) hx hb dX8_nearestGrounding_25 (by decide) ?_
        refine lv_istore (lv' := [(4, .int (-3 : Int32)), (0, .ref (am 0)), (1, .int x1), (2, .int w4), (3, .int w5)]) hx hb dX8_nearestGrounding_27 hl (by decide) rfl (fun ls hl => ?_)
        have lp1 : ∀ (n : Nat) (w8 : Int32) (w9 : Int32) (st7 : PS) (H : Heap) (locs : List Loc) (ls : Array Slot), JI D (aA am 52) (cW am cI cC cS) s.heap st7 H locs → lv_has ls 7 [(0, .ref (am 0)), (1, .int x1), (2, .int w8), (3, .int w5), (4, .int w9)] → iter (fun q => jm_X8_nearestGrounding_L29 N x1 w5 q.1 q.2.1 q.2.2) n (w8, w9, st7) = some z0 → W p l e (headSpec wsX8_nearestGrounding { frames := 4, cells := 0, slots := 0, locals := 93 }).room s m AV below meth c H locs 0 0 (MQ below (JQ D (aA am 52) (cW am cI cC cS) (cTy cI cC cS) (some (.int rZ)) stZ) AV s 0 0 (aA am 52)) (F0 m 29 ls []) := by
          intro n
          induction n with
          | zero =>
            intro _ _ _ _ _ _ _ _ hM
            exact absurd hM (fun h => iter_zero h)
          | succ n ih1 =>
            intro w8 w9 st7 H locs ls hI hl hM
            obtain ⟨z1, hM, hk1⟩ := iter_succ hM
            replace hM : jm_X8_nearestGrounding_L29 N x1 w5 w8 w9 st7 = some z1 := hM
            unfold jm_X8_nearestGrounding_L29 at hM
            refine lv_iload hx hb dX8_nearestGrounding_29 (lv_at hl 4 rfl) ?_
            refine lv_iconst (v := (3 : Int32)) hx hb dX8_nearestGrounding_31 (by decide) ?_
            refine lv_icmp_gt (tgt := 143) hx hb dX8_nearestGrounding_32 (by decide) (fun c10 => ?_) (fun c10 => ?_)
            · replace hM := if_t c10 hM
              refine lv_iinc (v := (w5 + (1 : Int32))) (lv' := [(3, .int (w5 + (1 : Int32))), (0, .ref (am 0)), (1, .int x1), (2, .int w8), (4, .int w9)]) hx hb dX8_nearestGrounding_143 hl (k := 3) rfl rfl (by decide) rfl (fun ls hl => ?_)
              refine lv_goto (tgt := 19) hx hb dX8_nearestGrounding_146 (by decide) ?_
              have hz := Option.some.inj hM
              subst hz
              have hz := kn_r hk1
              subst hz
              exact ih0 w8 (w5 + (1 : Int32)) st7 _ _ _ hI (lv_sub hl [1, 2, 3, 0] rfl) hk0
            · replace hM := if_f c10 hM
              refine lv_iload_n hx hb dX8_nearestGrounding_35 rfl (lv_at hl 3 rfl) ?_
              refine lv_aload_n hx hb dX8_nearestGrounding_36 rfl (lv_at hl 0 rfl) ?_
              refine va_get (D := D) (ci := 8) (v := .ref (am 37)) (C := RX8) (T := TX8) (N := 9) hx hb hts hi_X8_nearestGrounding_X8 hown hK hI.1 0 (cg_0 am cI cC cS st7) rfl 3 (by decide) f_1 (fun _ h9 => h9) rfl dX8_nearestGrounding_37 ?_
              refine va_get (D := D) (ci := 5) (v := .ref (am 38)) (C := RX5) (T := TX5) (N := 3) hx hb hts hi_X8_nearestGrounding_X5 hown hK hI.1 37 (cg_37 am cI cC cS st7) rfl 0 (by decide) f_2 (fun _ h9 => h9) rfl dX8_nearestGrounding_40 ?_
              obtain ⟨v11, st12, hqv11, hM⟩ := bd_at hM
              refine jcallV (C := RX4) (As := []) (rest := [.int w5]) ⟨hx, hb, hml, hown, hts⟩ (jw_X4_lift D am cI cC cS hj N (show ck_Pose 38 by decide) hqv11) (cwV 0 hts gX8_nearestGrounding_X4_lift rfl rfl rfl yd_X4_lift ⟨Nat.le_of_ble_eq_true rfl, Nat.le_of_ble_eq_true rfl⟩) hK hI 38 (cg_38 am cI cC cS st7) rfl rfl hl.1 rfl (Nat.le_of_ble_eq_true rfl) dX8_nearestGrounding_43 (fun H locs hI => ?_)
              refine W.eq (g2 := F0 m 46 ls [.int v11, .int w5]) rfl ?_
              refine lv_isub hx hb dX8_nearestGrounding_46 ?_
              refine va_mabs hx hb (hml.trans hl.1.symm) hown f_3 f_4 f_5 f_6 (Nat.le_of_ble_eq_true rfl) (Nat.le_of_ble_eq_true rfl) (Nat.zero_le _) (Nat.zero_le _) dX8_nearestGrounding_47 ?_
              refine lv_iload hx hb dX8_nearestGrounding_50 (lv_at hl 4 rfl) ?_
              refine lv_aload_n hx hb dX8_nearestGrounding_52 rfl (lv_at hl 0 rfl) ?_
              refine va_get (D := D) (ci := 8) (v := .ref (am 37)) (C := RX8) (T := TX8) (N := 9) hx hb hts hi_X8_nearestGrounding_X8 hown hK hI.1 0 (cg_0 am cI cC cS st12) rfl 3 (by decide) f_1 (fun _ h9 => h9) rfl dX8_nearestGrounding_53 ?_
              refine va_get (D := D) (ci := 5) (v := .ref (am 38)) (C := RX5) (T := TX5) (N := 3) hx hb hts hi_X8_nearestGrounding_X5 hown hK hI.1 37 (cg_37 am cI cC cS st12) rfl 0 (by decide) f_2 (fun _ h9 => h9) rfl dX8_nearestGrounding_56 ?_
              obtain ⟨v13, st14, hqv13, hM⟩ := bd_at hM
              refine jcallV (C := RX4) (As := []) (rest := [.int w9, .int (if 0 ≤ (w5 - v11) then (w5 - v11) else 0 - (w5 - v11))]) ⟨hx, hb, hml, hown, hts⟩ (jw_X4_tilt D am cI cC cS hj N (show ck_Pose 38 by decide) hqv13) (cwV 0 hts gX8_nearestGrounding_X4_tilt rfl rfl rfl yd_X4_tilt ⟨Nat.le_of_ble_eq_true rfl, Nat.le_of_ble_eq_true rfl⟩) hK hI 38 (cg_38 am cI cC cS st12) rfl rfl hl.1 rfl (Nat.le_of_ble_eq_true rfl) dX8_nearestGrounding_59 (fun H locs hI => ?_)
              refine W.eq (g2 := F0 m 62 ls [.int v13, .int w9, .int (if 0 ≤ (w5 - v11) then (w5 - v11) else 0 - (w5 - v11))]) rfl ?_
              refine lv_isub hx hb dX8_nearestGrounding_62 ?_
              refine va_mabs hx hb (hml.trans hl.1.symm) hown f_3 f_4 f_5 f_6 (Nat.le_of_ble_eq_true rfl) (Nat.le_of_ble_eq_true rfl) (Nat.zero_le _) (Nat.zero_le _) dX8_nearestGrounding_63 ?_
              refine lv_iadd hx hb dX8_nearestGrounding_66 ?_
              refine lv_topi (fun y15 ey15 => ?_)
              replace hM := nm_at ey15 hM
              refine lv_istore (lv' := [(5, .int y15), (0, .ref (am 0)), (1, .int x1), (2, .int w8), (3, .int w5), (4, .int w9)]) hx hb dX8_nearestGrounding_67 hl (by decide) rfl (fun ls hl => ?_)
              refine lv_iload hx hb dX8_nearestGrounding_69 (lv_at hl 0 rfl) ?_
              refine lv_bipush (v := (41 : Int32)) hx hb dX8_nearestGrounding_71 (by decide) ?_
              refine lv_imul hx hb dX8_nearestGrounding_73 ?_
              refine lv_iload_n hx hb dX8_nearestGrounding_74 rfl (lv_at hl 4 rfl) ?_
              refine lv_iadd hx hb dX8_nearestGrounding_75 ?_
              refine lv_bipush (v := (7 : Int32)) hx hb dX8_nearestGrounding_76 (by decide) ?_
              refine lv_imul hx hb dX8_nearestGrounding_78 ?_
              refine lv_iload hx hb dX8_nearestGrounding_79 (lv_at hl 5 rfl) ?_
              refine lv_iadd hx hb dX8_nearestGrounding_81 ?_
              refine lv_iconst (v := (3 : Int32)) hx hb dX8_nearestGrounding_82 (by decide) ?_
              refine lv_iadd hx hb dX8_nearestGrounding_83 ?_
              refine lv_topi (fun y16 ey16 => ?_)
              replace hM := nm_at ey16 hM
              refine lv_istore (lv' := [(6, .int y16), (5, .int y15), (0, .ref (am 0)), (1, .int x1), (2, .int w8), (3, .int w5), (4, .int w9)]) hx hb dX8_nearestGrounding_84 hl (by decide) rfl (fun ls hl => ?_)
              refine lv_iload_n hx hb dX8_nearestGrounding_86 rfl (lv_at hl 4 rfl) ?_
              refine lv_bipush (v := (-9 : Int32)) hx hb dX8_nearestGrounding_87 (by decide) ?_
              refine lv_icmp_eq (tgt := 98) hx hb dX8_nearestGrounding_89 (by decide) (fun c17 => ?_) (fun c17 => ?_)
              · replace hM := if_t c17 hM
                refine lv_aload_n hx hb dX8_nearestGrounding_98 rfl (lv_at hl 2 rfl) ?_
                refine va_get (D := D) (ci := 8) (v := .ref (am 15)) (C := RX8) (T := TX8) (N := 9) hx hb hts hi_X8_nearestGrounding_X8 hown hK hI.1 0 (cg_0 am cI cC cS st14) rfl 8 (by decide) f_0 (fun _ h9 => h9) rfl dX8_nearestGrounding_99 ?_
                refine lv_iload_n hx hb dX8_nearestGrounding_102 rfl (lv_at hl 5 rfl) ?_
                obtain ⟨v18, st19, hqv18, hM⟩ := bd_at hM
                refine jcallV (C := RX4) (As := [.int w5]) (rest := []) ⟨hx, hb, hml, hown, hts⟩ (jw_X4_setLift D am cI cC cS hj N (show ck_Pose 15 by decide) hqv18) (cwV 1 hts gX8_nearestGrounding_X4_setLift rfl rfl rfl yd_X4_setLift ⟨Nat.le_of_ble_eq_true rfl, Nat.le_of_ble_eq_true rfl⟩) hK hI 15 (cg_15 am cI cC cS st14) rfl rfl hl.1 rfl (Nat.le_of_ble_eq_true rfl) dX8_nearestGrounding_103 (fun H locs hI => ?_)
                refine W.eq (g2 := F0 m 106 ls []) rfl ?_
                refine lv_aload_n hx hb dX8_nearestGrounding_106 rfl (lv_at hl 2 rfl) ?_
                refine va_get (D := D) (ci := 8) (v := .ref (am 15)) (C := RX8) (T := TX8) (N := 9) hx hb hts hi_X8_nearestGrounding_X8 hown hK hI.1 0 (cg_0 am cI cC cS st19) rfl 8 (by decide) f_0 (fun _ h9 => h9) rfl dX8_nearestGrounding_107 ?_
                refine lv_iload hx hb dX8_nearestGrounding_110 (lv_at hl 6 rfl) ?_
                obtain ⟨v20, st21, hqv20, hM⟩ := bd_at hM
                refine jcallV (C := RX4) (As := [.int w9]) (rest := []) ⟨hx, hb, hml, hown, hts⟩ (jw_X4_setTilt D am cI cC cS hj N (show ck_Pose 15 by decide) hqv20) (cwV 1 hts gX8_nearestGrounding_X4_setTilt rfl rfl rfl yd_X4_setTilt ⟨Nat.le_of_ble_eq_true rfl, Nat.le_of_ble_eq_true rfl⟩) hK hI 15 (cg_15 am cI cC cS st19) rfl rfl hl.1 rfl (Nat.le_of_ble_eq_true rfl) dX8_nearestGrounding_112 (fun H locs hI => ?_)
                refine W.eq (g2 := F0 m 115 ls []) rfl ?_
                refine lv_aload_n hx hb dX8_nearestGrounding_115 rfl (lv_at hl 2 rfl) ?_
                refine va_get (D := D) (ci := 8) (v := .ref (am 17)) (C := RX8) (T := TX8) (N := 9) hx hb hts hi_X8_nearestGrounding_X8 hown hK hI.1 0 (cg_0 am cI cC cS st21) rfl 1 (by decide) f_7 (fun _ h9 => h9) rfl dX8_nearestGrounding_116 ?_
                refine lv_aload_n hx hb dX8_nearestGrounding_119 rfl (lv_at hl 2 rfl) ?_
                refine va_get (D := D) (ci := 8) (v := .ref (am 15)) (C := RX8) (T := TX8) (N := 9) hx hb hts hi_X8_nearestGrounding_X8 hown hK hI.1 0 (cg_0 am cI cC cS st21) rfl 8 (by decide) f_0 (fun _ h9 => h9) rfl dX8_nearestGrounding_120 ?_
                refine lv_iload_n hx hb dX8_nearestGrounding_123 rfl (lv_at hl 3 rfl) ?_
                obtain ⟨v22, st23, hqv22, hM⟩ := bd_at hM
                refine jcallV (C := RX0) (As := [.ref (am 15), .int x1]) (rest := []) ⟨hx, hb, hml, hown, hts⟩ (jw_X0_groundsJust D am cI cC cS hj N (show ck_Doll 17 by decide) (show ck_Pose 15 by decide) hqv22) (cwV 2 hts gX8_nearestGrounding_X0_groundsJust rfl rfl rfl yd_X0_groundsJust ⟨Nat.le_of_ble_eq_true rfl, Nat.le_of_ble_eq_true rfl⟩) hK hI 17 (cg_17 am cI cC cS st21) rfl rfl hl.1 rfl (Nat.le_of_ble_eq_true rfl) dX8_nearestGrounding_124 (fun H locs hI => ?_)
                refine W.eq (g2 := F0 m 127 ls [.int v22]) rfl ?_
                refine lv_if_eq (tgt := 135) hx hb dX8_nearestGrounding_127 (by decide) (fun c24 => ?_) (fun c24 => ?_)
                · replace hM := if_t c24 hM
                  refine lv_iload_n hx hb dX8_nearestGrounding_135 rfl (lv_at hl 4 rfl) ?_
                  refine lv_istore_n (lv' := [(2, .int w8), (6, .int y16), (5, .int y15), (0, .ref (am 0)), (1, .int x1), (3, .int w5), (4, .int w9)]) hx hb dX8_nearestGrounding_136 rfl hl (by decide) rfl (fun ls hl => ?_)
                  refine lv_iinc (v := (w9 + (1 : Int32))) (lv' := [(4, .int (w9 + (1 : Int32))), (2, .int w8), (6, .int y16), (5, .int y15), (0, .ref (am 0)), (1, .int x1), (3, .int w5)]) hx hb dX8_nearestGrounding_137 hl (k := 6) rfl rfl (by decide) rfl (fun ls hl => ?_)
                  refine lv_goto (tgt := 29) hx hb dX8_nearestGrounding_140 (by decide) ?_
                  have hz := Option.some.inj hM
                  subst hz
                  exact ih1 w8 (w9 + (1 : Int32)) st23 _ _ _ hI (lv_sub hl [4, 5, 1, 6, 0] rfl) hk1
                · replace hM := if_f c24 hM
                  refine lv_iload hx hb dX8_nearestGrounding_130 (lv_at hl 0 rfl) ?_
                  refine lv_goto (tgt := 136) hx hb dX8_nearestGrounding_132 (by decide) ?_
                  refine lv_istore_n (lv' := [(2, .int y16), (6, .int y16), (5, .int y15), (0, .ref (am 0)), (1, .int x1), (3, .int w5), (4, .int w9)]) hx hb dX8_nearestGrounding_136 rfl hl (by decide) rfl (fun ls hl => ?_)
                  refine lv_iinc (v := (w9 + (1 : Int32))) (lv' := [(4, .int (w9 + (1 : Int32))), (2, .int y16), (6, .int y16), (5, .int y15), (0, .ref (am 0)), (1, .int x1), (3, .int w5)]) hx hb dX8_nearestGrounding_137 hl (k := 6) rfl rfl (by decide) rfl (fun ls hl => ?_)
                  refine lv_goto (tgt := 29) hx hb dX8_nearestGrounding_140 (by decide) ?_
                  have hz := Option.some.inj hM
                  subst hz
                  exact ih1 y16 (w9 + (1 : Int32)) st23 _ _ _ hI (lv_sub hl [4, 5, 1, 6, 0] rfl) hk1
              · replace hM := if_f c17 hM
                refine lv_iload hx hb dX8_nearestGrounding_92 (lv_at hl 0 rfl) ?_
                refine lv_iload_n hx hb dX8_nearestGrounding_94 rfl (lv_at hl 4 rfl) ?_
                refine lv_icmp_ge (tgt := 137) hx hb dX8_nearestGrounding_95 (by decide) (fun c25 => ?_) (fun c25 => ?_)
                · replace hM := if_t c25 hM
                  refine lv_iinc (v := (w9 + (1 : Int32))) (lv' := [(4, .int (w9 + (1 : Int32))), (6, .int y16), (5, .int y15), (0, .ref (am 0)), (1, .int x1), (2, .int w8), (3, .int w5)]) hx hb dX8_nearestGrounding_137 hl (k := 6) rfl rfl (by decide) rfl (fun ls hl => ?_)
                  refine lv_goto (tgt := 29) hx hb dX8_nearestGrounding_140 (by decide) ?_
                  have hz := Option.some.inj hM
                  subst hz
                  exact ih1 w8 (w9 + (1 : Int32)) st14 _ _ _ hI (lv_sub hl [3, 4, 5, 6, 0] rfl) hk1
                · replace hM := if_f c25 hM
                  refine lv_aload_n hx hb dX8_nearestGrounding_98 rfl (lv_at hl 2 rfl) ?_
                  refine va_get (D := D) (ci := 8) (v := .ref (am 15)) (C := RX8) (T := TX8) (N := 9) hx hb hts hi_X8_nearestGrounding_X8 hown hK hI.1 0 (cg_0 am cI cC cS st14) rfl 8 (by decide) f_0 (fun _ h9 => h9) rfl dX8_nearestGrounding_99 ?_
                  refine lv_iload_n hx hb dX8_nearestGrounding_102 rfl (lv_at hl 5 rfl) ?_
                  obtain ⟨v26, st27, hqv26, hM⟩ := bd_at hM
                  refine jcallV (C := RX4) (As := [.int w5]) (rest := []) ⟨hx, hb, hml, hown, hts⟩ (jw_X4_setLift D am cI cC cS hj N (show ck_Pose 15 by decide) hqv26) (cwV 1 hts gX8_nearestGrounding_X4_setLift rfl rfl rfl yd_X4_setLift ⟨Nat.le_of_ble_eq_true rfl, Nat.le_of_ble_eq_true rfl⟩) hK hI 15 (cg_15 am cI cC cS st14) rfl rfl hl.1 rfl (Nat.le_of_ble_eq_true rfl) dX8_nearestGrounding_103 (fun H locs hI => ?_)
                  refine W.eq (g2 := F0 m 106 ls []) rfl ?_
                  refine lv_aload_n hx hb dX8_nearestGrounding_106 rfl (lv_at hl 2 rfl) ?_
                  refine va_get (D := D) (ci := 8) (v := .ref (am 15)) (C := RX8) (T := TX8) (N := 9) hx hb hts hi_X8_nearestGrounding_X8 hown hK hI.1 0 (cg_0 am cI cC cS st27) rfl 8 (by decide) f_0 (fun _ h9 => h9) rfl dX8_nearestGrounding_107 ?_
                  refine lv_iload hx hb dX8_nearestGrounding_110 (lv_at hl 6 rfl) ?_
                  obtain ⟨v28, st29, hqv28, hM⟩ := bd_at hM
                  refine jcallV (C := RX4) (As := [.int w9]) (rest := []) ⟨hx, hb, hml, hown, hts⟩ (jw_X4_setTilt D am cI cC cS hj N (show ck_Pose 15 by decide) hqv28) (cwV 1 hts gX8_nearestGrounding_X4_setTilt rfl rfl rfl yd_X4_setTilt ⟨Nat.le_of_ble_eq_true rfl, Nat.le_of_ble_eq_true rfl⟩) hK hI 15 (cg_15 am cI cC cS st27) rfl rfl hl.1 rfl (Nat.le_of_ble_eq_true rfl) dX8_nearestGrounding_112 (fun H locs hI => ?_)
                  refine W.eq (g2 := F0 m 115 ls []) rfl ?_
                  refine lv_aload_n hx hb dX8_nearestGrounding_115 rfl (lv_at hl 2 rfl) ?_
                  refine va_get (D := D) (ci := 8) (v := .ref (am 17)) (C := RX8) (T := TX8) (N := 9) hx hb hts hi_X8_nearestGrounding_X8 hown hK hI.1 0 (cg_0 am cI cC cS st29) rfl 1 (by decide) f_7 (fun _ h9 => h9) rfl dX8_nearestGrounding_116 ?_
                  refine lv_aload_n hx hb dX8_nearestGrounding_119 rfl (lv_at hl 2 rfl) ?_
                  refine va_get (D := D) (ci := 8) (v := .ref (am 15)) (C := RX8) (T := TX8) (N := 9) hx hb hts hi_X8_nearestGrounding_X8 hown hK hI.1 0 (cg_0 am cI cC cS st29) rfl 8 (by decide) f_0 (fun _ h9 => h9) rfl dX8_nearestGrounding_120 ?_
                  refine lv_iload_n hx hb dX8_nearestGrounding_123 rfl (lv_at hl 3 rfl) ?_
                  obtain ⟨v30, st31, hqv30, hM⟩ := bd_at hM
                  refine jcallV (C := RX0) (As := [.ref (am 15), .int x1]) (rest := []) ⟨hx, hb, hml, hown, hts⟩ (jw_X0_groundsJust D am cI cC cS hj N (show ck_Doll 17 by decide) (show ck_Pose 15 by decide) hqv30) (cwV 2 hts gX8_nearestGrounding_X0_groundsJust rfl rfl rfl yd_X0_groundsJust ⟨Nat.le_of_ble_eq_true rfl, Nat.le_of_ble_eq_true rfl⟩) hK hI 17 (cg_17 am cI cC cS st29) rfl rfl hl.1 rfl (Nat.le_of_ble_eq_true rfl) dX8_nearestGrounding_124 (fun H locs hI => ?_)
                  refine W.eq (g2 := F0 m 127 ls [.int v30]) rfl ?_
                  refine lv_if_eq (tgt := 135) hx hb dX8_nearestGrounding_127 (by decide) (fun c32 => ?_) (fun c32 => ?_)
                  · replace hM := if_t c32 hM
                    refine lv_iload_n hx hb dX8_nearestGrounding_135 rfl (lv_at hl 4 rfl) ?_
                    refine lv_istore_n (lv' := [(2, .int w8), (6, .int y16), (5, .int y15), (0, .ref (am 0)), (1, .int x1), (3, .int w5), (4, .int w9)]) hx hb dX8_nearestGrounding_136 rfl hl (by decide) rfl (fun ls hl => ?_)
                    refine lv_iinc (v := (w9 + (1 : Int32))) (lv' := [(4, .int (w9 + (1 : Int32))), (2, .int w8), (6, .int y16), (5, .int y15), (0, .ref (am 0)), (1, .int x1), (3, .int w5)]) hx hb dX8_nearestGrounding_137 hl (k := 6) rfl rfl (by decide) rfl (fun ls hl => ?_)
                    refine lv_goto (tgt := 29) hx hb dX8_nearestGrounding_140 (by decide) ?_
                    have hz := Option.some.inj hM
                    subst hz
                    exact ih1 w8 (w9 + (1 : Int32)) st31 _ _ _ hI (lv_sub hl [4, 5, 1, 6, 0] rfl) hk1
                  · replace hM := if_f c32 hM
                    refine lv_iload hx hb dX8_nearestGrounding_130 (lv_at hl 0 rfl) ?_
                    refine lv_goto (tgt := 136) hx hb dX8_nearestGrounding_132 (by decide) ?_
                    refine lv_istore_n (lv' := [(2, .int y16), (6, .int y16), (5, .int y15), (0, .ref (am 0)), (1, .int x1), (3, .int w5), (4, .int w9)]) hx hb dX8_nearestGrounding_136 rfl hl (by decide) rfl (fun ls hl => ?_)
                    refine lv_iinc (v := (w9 + (1 : Int32))) (lv' := [(4, .int (w9 + (1 : Int32))), (2, .int y16), (6, .int y16), (5, .int y15), (0, .ref (am 0)), (1, .int x1), (3, .int w5)]) hx hb dX8_nearestGrounding_137 hl (k := 6) rfl rfl (by decide) rfl (fun ls hl => ?_)
                    refine lv_goto (tgt := 29) hx hb dX8_nearestGrounding_140 (by decide) ?_
                    have hz := Option.some.inj hM
                    subst hz
                    exact ih1 y16 (w9 + (1 : Int32)) st31 _ _ _ hI (lv_sub hl [4, 5, 1, 6, 0] rfl) hk1
        exact lp1 N w4 (-3 : Int32) st3 _ _ _ hI (lv_sub hl [1, 2, 3, 4, 0] rfl) hM
  exact lp0 N (-9 : Int32) (0 : Int32) st2 _ _ _ hI (lv_sub hl [2, 3, 1, 0] rfl) hM
set_option maxRecDepth 20000 in
theorem hi_X8_reach_X8 : ∀ w ∈ wsX80, w ∈ wsX8_reach := by decide +kernel
set_option maxRecDepth 20000 in
theorem hi_X8_reach_X0 : ∀ w ∈ wsX00, w ∈ wsX8_reach := by decide +kernel
set_option maxHeartbeats 4000000 in
set_option maxRecDepth 100000 in
theorem jw_X8_reach {l : Launch} (D : va_G) (am : Nat → Nat) (cI cC cS : ClassId) (hj : aJ am 52) (N : Nat) {x1 : Int32} {x2 : Int32} {st stZ : PS} {rZ : Int32} (hM : jm_X8_reach N x1 x2 st = some (rZ, stZ)) : Met l yX8_reach wsX8_reach ({ frames := 5, cells := 0, slots := 0, locals := 119 }) (va_Pc [.ref (am 0), .int x1, .int x2] (JH D (cW am cI cC cS) (cTy cI cC cS) st)) (JQ D (aA am 52) (cW am cI cC cS) (cTy cI cC cS) (some (.int rZ)) stZ) 0 0 (aA am 52) := by
  refine jStart (cc := cX8_reach) (maxL := 4) (ret := (some .int)) [.ref (am 0), .int x1, .int x2] (by decide) rfl (Nat.le_of_ble_eq_true rfl) (fun p e s m below meth c ls hx hb hr hlocks hts hown hml hK hI hl => ?_)
  have hown : s.vm.findClass RX8 = some m.cls := hown
  replace hl : lv_has ls 4 [(0, .ref (am 0)), (1, .int x1), (2, .int x2)] := hl
  generalize hAV : ([.ref (am 0), .int x1, .int x2] : List Value).toArray = AV at hts ⊢
  have f_0 := hts (.constant RX8 124 (-1000000)) (by decide +kernel)
  have f_1 := hts (.fieldLink RX8 19 "PuppetBar" "doll" "LPuppetBar$Doll;") (by decide +kernel)
  have f_2 := hts (.fieldLink RX8 235 "PuppetBar$Doll" "limbs" "I") (by decide +kernel)
  unfold jm_X8_reach at hM
  refine lv_iload_n hx hb dX8_reach_0 rfl (lv_at hl 1 rfl) ?_
  refine lv_if_lt (tgt := 26) hx hb dX8_reach_1 (by decide) (fun c1 => ?_) (fun c1 => ?_)
  · replace hM := if_t c1 hM
    refine lv_ldc (v := (-1000000 : Int32)) hx hb hown f_0 dX8_reach_26 ?_
    have hz := Option.some.inj hM
    exact W.iret hx hb hr (fun t ht hW => jq_i hK hI hz ht hW) hI.2.2.2 dX8_reach_28
  · replace hM := if_f c1 hM
    refine lv_iload_n hx hb dX8_reach_4 rfl (lv_at hl 1 rfl) ?_
    refine lv_iconst (v := (1 : Int32)) hx hb dX8_reach_5 (by decide) ?_
    refine lv_aload_n hx hb dX8_reach_6 rfl (lv_at hl 0 rfl) ?_
    refine va_get (D := D) (ci := 8) (v := .ref (am 17)) (C := RX8) (T := TX8) (N := 9) hx hb hts hi_X8_reach_X8 hown hK hI.1 0 (cg_0 am cI cC cS st) rfl 1 (by decide) f_1 (fun _ h9 => h9) rfl dX8_reach_7 ?_
    refine va_get (D := D) (ci := 0) (v := .int (st.1 17 7)) (C := RX0) (T := TX0) (N := 11) hx hb hts hi_X8_reach_X0 hown hK hI.1 17 (cg_17 am cI cC cS st) rfl 7 (by decide) f_2 (fun _ h9 => h9) rfl dX8_reach_10 ?_
    refine lv_ishl hx hb dX8_reach_13 ?_
    refine lv_icmp_ge (tgt := 26) hx hb dX8_reach_14 (by decide) (fun c2 => ?_) (fun c2 => ?_)
    · replace hM := if_t c2 hM
      refine lv_ldc (v := (-1000000 : Int32)) hx hb hown f_0 dX8_reach_26 ?_
      have hz := Option.some.inj hM
      exact W.iret hx hb hr (fun t ht hW => jq_i hK hI hz ht hW) hI.2.2.2 dX8_reach_28
    · replace hM := if_f c2 hM
      refine lv_iload_n hx hb dX8_reach_17 rfl (lv_at hl 2 rfl) ?_
      refine lv_if_lt (tgt := 26) hx hb dX8_reach_18 (by decide) (fun c3 => ?_) (fun c3 => ?_)
      · replace hM := if_t c3 hM
        refine lv_ldc (v := (-1000000 : Int32)) hx hb hown f_0 dX8_reach_26 ?_
        have hz := Option.some.inj hM
        exact W.iret hx hb hr (fun t ht hW => jq_i hK hI hz ht hW) hI.2.2.2 dX8_reach_28
      · replace hM := if_f c3 hM
        refine lv_iload_n hx hb dX8_reach_21 rfl (lv_at hl 2 rfl) ?_
        refine lv_iconst (v := (2 : Int32)) hx hb dX8_reach_22 (by decide) ?_
        refine lv_icmp_le (tgt := 29) hx hb dX8_reach_23 (by decide) (fun c4 => ?_) (fun c4 => ?_)
        · replace hM := if_t c4 hM
          refine lv_aload_n hx hb dX8_reach_29 rfl (lv_at hl 0 rfl) ?_
          refine lv_iload_n hx hb dX8_reach_30 rfl (lv_at hl 1 rfl) ?_
          obtain ⟨v5, st6, hqv5, hM⟩ := bd_at hM
          refine jcallV (C := RX8) (As := [.int x1]) (rest := []) ⟨hx, hb, hml, hown, hts⟩ (jw_X8_nearestGrounding D am cI cC cS hj N hqv5) (cwV 1 hts gX8_reach_X8_nearestGrounding rfl rfl rfl yd_X8_nearestGrounding ⟨Nat.le_of_ble_eq_true rfl, Nat.le_of_ble_eq_true rfl⟩) hK hI 0 (cg_0 am cI cC cS st) rfl rfl hl.1 rfl (Nat.le_of_ble_eq_true rfl) dX8_reach_31 (fun H locs hI => ?_)
          refine W.eq (g2 := F0 m 34 ls [.int v5]) rfl ?_
          refine lv_istore_n (lv' := [(3, .int v5), (0, .ref (am 0)), (1, .int x1), (2, .int x2)]) hx hb dX8_reach_34 rfl hl (by decide) rfl (fun ls hl => ?_)
          refine lv_iload_n hx hb dX8_reach_35 rfl (lv_at hl 0 rfl) ?_
          refine lv_bipush (v := (-9 : Int32)) hx hb dX8_reach_36 (by decide) ?_
          refine lv_icmp_ne (tgt := 44) hx hb dX8_reach_38 (by decide) (fun c7 => ?_) (fun c7 => ?_)
          · replace hM := if_f c7 hM
            refine lv_iload_n hx hb dX8_reach_44 rfl (lv_at hl 3 rfl) ?_
            by_cases c8 : x2 = (0 : Int32)
            · replace hM := if_t c8 hM
              refine lv_lookup (off := 27) (tgt := 72) hx hb dX8_reach_45 (by decide) (by rw [c8]; decide) (by decide) ?_
              refine lv_iload_n hx hb dX8_reach_72 rfl (lv_at hl 0 rfl) ?_
              refine lv_sipush (v := (287 : Int32)) hx hb dX8_reach_73 (by decide) ?_
              refine lv_idiv hx hb dX8_reach_76 (by decide) ?_
              have hz := Option.some.inj hM
              exact W.iret hx hb hr (fun t ht hW => jq_i hK hI hz ht hW) hI.2.2.2 dX8_reach_77
            · replace hM := if_f c8 hM
              by_cases c9 : x2 = (1 : Int32)
              · replace hM := if_t c9 hM
                refine lv_lookup (off := 33) (tgt := 78) hx hb dX8_reach_45 (by decide) (by rw [c9]; decide) (by decide) ?_
                refine lv_iload_n hx hb dX8_reach_78 rfl (lv_at hl 0 rfl) ?_
                refine lv_bipush (v := (7 : Int32)) hx hb dX8_reach_79 (by decide) ?_
                refine lv_idiv hx hb dX8_reach_81 (by decide) ?_
                refine lv_bipush (v := (41 : Int32)) hx hb dX8_reach_82 (by decide) ?_
                refine lv_irem hx hb dX8_reach_84 (by decide) ?_
                have hz := Option.some.inj hM
                exact W.iret hx hb hr (fun t ht hW => jq_i hK hI hz ht hW) hI.2.2.2 dX8_reach_85
              · replace hM := if_f c9 hM
                refine lv_lookup (off := 41) (tgt := 86) hx hb dX8_reach_45 (by decide) (lk_no (ne_ti c8) (lk_no (ne_ti c9) rfl)) (by decide) ?_
                refine lv_iload_n hx hb dX8_reach_86 rfl (lv_at hl 0 rfl) ?_
                refine lv_bipush (v := (7 : Int32)) hx hb dX8_reach_87 (by decide) ?_
                refine lv_irem hx hb dX8_reach_89 (by decide) ?_
                refine lv_iconst (v := (3 : Int32)) hx hb dX8_reach_90 (by decide) ?_
                refine lv_isub hx hb dX8_reach_91 ?_
                have hz := Option.some.inj hM
                exact W.iret hx hb hr (fun t ht hW => jq_i hK hI hz ht hW) hI.2.2.2 dX8_reach_92
          · replace hM := if_t c7 hM
            refine lv_bipush (v := (-9 : Int32)) hx hb dX8_reach_41 (by decide) ?_
            have hz := Option.some.inj hM
            exact W.iret hx hb hr (fun t ht hW => jq_i hK hI hz ht hW) hI.2.2.2 dX8_reach_43
        · replace hM := if_f c4 hM
          refine lv_ldc (v := (-1000000 : Int32)) hx hb hown f_0 dX8_reach_26 ?_
          have hz := Option.some.inj hM
          exact W.iret hx hb hr (fun t ht hW => jq_i hK hI hz ht hW) hI.2.2.2 dX8_reach_28
set_option maxRecDepth 20000 in
theorem hi_X8_fell_X8 : ∀ w ∈ wsX80, w ∈ wsX8_fell := by decide +kernel
set_option maxRecDepth 20000 in
theorem hi_X8_fell_X5 : ∀ w ∈ wsX50, w ∈ wsX8_fell := by decide +kernel
set_option maxHeartbeats 4000000 in
set_option maxRecDepth 100000 in
theorem jw_X8_fell {l : Launch} (D : va_G) (am : Nat → Nat) (cI cC cS : ClassId) (hj : aJ am 52) (N : Nat) {x1 : Int32} {st stZ : PS} {rZ : Int32} (hM : jm_X8_fell N x1 st = some (rZ, stZ)) : Met l yX8_fell wsX8_fell ({ frames := 3, cells := 0, slots := 0, locals := 69 }) (va_Pc [.ref (am 0), .int x1] (JH D (cW am cI cC cS) (cTy cI cC cS) st)) (JQ D (aA am 52) (cW am cI cC cS) (cTy cI cC cS) (some (.int rZ)) stZ) 0 0 (aA am 52) := by
  refine jStart (cc := cX8_fell) (maxL := 2) (ret := (some .int)) [.ref (am 0), .int x1] (by decide) rfl (Nat.le_of_ble_eq_true rfl) (fun p e s m below meth c ls hx hb hr hlocks hts hown hml hK hI hl => ?_)
  have hown : s.vm.findClass RX8 = some m.cls := hown
  replace hl : lv_has ls 2 [(0, .ref (am 0)), (1, .int x1)] := hl
  generalize hAV : ([.ref (am 0), .int x1] : List Value).toArray = AV at hts ⊢
  have f_0 := hts (.fieldLink RX8 19 "PuppetBar" "doll" "LPuppetBar$Doll;") (by decide +kernel)
  have f_1 := hts (.fieldLink RX8 29 "PuppetBar" "scene" "LPuppetBar$Scene;") (by decide +kernel)
  have f_2 := hts (.fieldLink RX8 65 "PuppetBar$Scene" "pose" "LPuppetBar$Pose;") (by decide +kernel)
  unfold jm_X8_fell at hM
  refine lv_aload_n hx hb dX8_fell_0 rfl (lv_at hl 0 rfl) ?_
  refine lv_iload_n hx hb dX8_fell_1 rfl (lv_at hl 1 rfl) ?_
  obtain ⟨v1, st2, hqv1, hM⟩ := bd_at hM
  refine jcallV (C := RX8) (As := [.int x1]) (rest := []) ⟨hx, hb, hml, hown, hts⟩ (jw_X8_isLimb D am cI cC cS hj N hqv1) (cwV 1 hts gX8_fell_X8_isLimb rfl rfl rfl yd_X8_isLimb ⟨Nat.le_of_ble_eq_true rfl, Nat.le_of_ble_eq_true rfl⟩) hK hI 0 (cg_0 am cI cC cS st) rfl rfl hl.1 rfl (Nat.le_of_ble_eq_true rfl) dX8_fell_2 (fun H locs hI => ?_)
  refine W.eq (g2 := F0 m 5 ls [.int v1]) rfl ?_
  refine lv_if_eq (tgt := 26) hx hb dX8_fell_5 (by decide) (fun c3 => ?_) (fun c3 => ?_)
  · replace hM := if_t c3 hM
    refine lv_iconst (v := (-1 : Int32)) hx hb dX8_fell_26 (by decide) ?_
    have hz := Option.some.inj hM
    exact W.iret hx hb hr (fun t ht hW => jq_i hK hI hz ht hW) hI.2.2.2 dX8_fell_27
  · replace hM := if_f c3 hM
    refine lv_aload_n hx hb dX8_fell_8 rfl (lv_at hl 0 rfl) ?_
    refine va_get (D := D) (ci := 8) (v := .ref (am 17)) (C := RX8) (T := TX8) (N := 9) hx hb hts hi_X8_fell_X8 hown hK hI.1 0 (cg_0 am cI cC cS st2) rfl 1 (by decide) f_0 (fun _ h9 => h9) rfl dX8_fell_9 ?_
    refine lv_aload_n hx hb dX8_fell_12 rfl (lv_at hl 0 rfl) ?_
    refine va_get (D := D) (ci := 8) (v := .ref (am 37)) (C := RX8) (T := TX8) (N := 9) hx hb hts hi_X8_fell_X8 hown hK hI.1 0 (cg_0 am cI cC cS st2) rfl 3 (by decide) f_1 (fun _ h9 => h9) rfl dX8_fell_13 ?_
    refine va_get (D := D) (ci := 5) (v := .ref (am 38)) (C := RX5) (T := TX5) (N := 3) hx hb hts hi_X8_fell_X5 hown hK hI.1 37 (cg_37 am cI cC cS st2) rfl 0 (by decide) f_2 (fun _ h9 => h9) rfl dX8_fell_16 ?_
    refine lv_iload_n hx hb dX8_fell_19 rfl (lv_at hl 1 rfl) ?_
    obtain ⟨v4, st5, hqv4, hM⟩ := bd_at hM
    refine jcallV (C := RX0) (As := [.ref (am 38), .int x1]) (rest := []) ⟨hx, hb, hml, hown, hts⟩ (jw_X0_lifters D am cI cC cS hj N (show ck_Doll 17 by decide) (show ck_Pose 38 by decide) hqv4) (cwV 2 hts gX8_fell_X0_lifters rfl rfl rfl yd_X0_lifters ⟨Nat.le_of_ble_eq_true rfl, Nat.le_of_ble_eq_true rfl⟩) hK hI 17 (cg_17 am cI cC cS st2) rfl rfl hl.1 rfl (Nat.le_of_ble_eq_true rfl) dX8_fell_20 (fun H locs hI => ?_)
    refine W.eq (g2 := F0 m 23 ls [.int v4]) rfl ?_
    refine lv_goto (tgt := 27) hx hb dX8_fell_23 (by decide) ?_
    have hz := Option.some.inj hM
    exact W.iret hx hb hr (fun t ht hW => jq_i hK hI hz ht hW) hI.2.2.2 dX8_fell_27
set_option maxRecDepth 20000 in
theorem hi_X8_heightAtBeat_X8 : ∀ w ∈ wsX80, w ∈ wsX8_heightAtBeat := by decide +kernel
set_option maxRecDepth 20000 in
theorem hi_X8_heightAtBeat_X5 : ∀ w ∈ wsX50, w ∈ wsX8_heightAtBeat := by decide +kernel
set_option maxHeartbeats 4000000 in
set_option maxRecDepth 100000 in
theorem jw_X8_heightAtBeat {l : Launch} (D : va_G) (am : Nat → Nat) (cI cC cS : ClassId) (hj : aJ am 52) (N : Nat) {x1 : Int32} {x2 : Int32} {st stZ : PS} {rZ : Int32} (hM : jm_X8_heightAtBeat N x1 x2 st = some (rZ, stZ)) : Met l yX8_heightAtBeat wsX8_heightAtBeat ({ frames := 3, cells := 0, slots := 0, locals := 69 }) (va_Pc [.ref (am 0), .int x1, .int x2] (JH D (cW am cI cC cS) (cTy cI cC cS) st)) (JQ D (aA am 52) (cW am cI cC cS) (cTy cI cC cS) (some (.int rZ)) stZ) 0 0 (aA am 52) := by
  refine jStart (cc := cX8_heightAtBeat) (maxL := 3) (ret := (some .int)) [.ref (am 0), .int x1, .int x2] (by decide) rfl (Nat.le_of_ble_eq_true rfl) (fun p e s m below meth c ls hx hb hr hlocks hts hown hml hK hI hl => ?_)
  have hown : s.vm.findClass RX8 = some m.cls := hown
  replace hl : lv_has ls 3 [(0, .ref (am 0)), (1, .int x1), (2, .int x2)] := hl
  generalize hAV : ([.ref (am 0), .int x1, .int x2] : List Value).toArray = AV at hts ⊢
  have f_0 := hts (.fieldLink RX8 61 "PuppetBar" "trial" "LPuppetBar$Pose;") (by decide +kernel)
  have f_1 := hts (.fieldLink RX8 29 "PuppetBar" "scene" "LPuppetBar$Scene;") (by decide +kernel)
  have f_2 := hts (.fieldLink RX8 65 "PuppetBar$Scene" "pose" "LPuppetBar$Pose;") (by decide +kernel)
  have f_3 := hts (.fieldLink RX8 19 "PuppetBar" "doll" "LPuppetBar$Doll;") (by decide +kernel)
  unfold jm_X8_heightAtBeat at hM
  refine lv_aload_n hx hb dX8_heightAtBeat_0 rfl (lv_at hl 0 rfl) ?_
  refine va_get (D := D) (ci := 8) (v := .ref (am 15)) (C := RX8) (T := TX8) (N := 9) hx hb hts hi_X8_heightAtBeat_X8 hown hK hI.1 0 (cg_0 am cI cC cS st) rfl 8 (by decide) f_0 (fun _ h9 => h9) rfl dX8_heightAtBeat_1 ?_
  refine lv_aload_n hx hb dX8_heightAtBeat_4 rfl (lv_at hl 0 rfl) ?_
  refine va_get (D := D) (ci := 8) (v := .ref (am 37)) (C := RX8) (T := TX8) (N := 9) hx hb hts hi_X8_heightAtBeat_X8 hown hK hI.1 0 (cg_0 am cI cC cS st) rfl 3 (by decide) f_1 (fun _ h9 => h9) rfl dX8_heightAtBeat_5 ?_
  refine va_get (D := D) (ci := 5) (v := .ref (am 38)) (C := RX5) (T := TX5) (N := 3) hx hb hts hi_X8_heightAtBeat_X5 hown hK hI.1 37 (cg_37 am cI cC cS st) rfl 0 (by decide) f_2 (fun _ h9 => h9) rfl dX8_heightAtBeat_8 ?_
  obtain ⟨v1, st2, hqv1, hM⟩ := bd_at hM
  refine jcallV (C := RX4) (As := [.ref (am 38)]) (rest := []) ⟨hx, hb, hml, hown, hts⟩ (jw_X4_copyFrom D am cI cC cS hj N (show ck_Pose 15 by decide) (show ck_Pose 38 by decide) hqv1) (cwV 1 hts gX8_heightAtBeat_X4_copyFrom rfl rfl rfl yd_X4_copyFrom ⟨Nat.le_of_ble_eq_true rfl, Nat.le_of_ble_eq_true rfl⟩) hK hI 15 (cg_15 am cI cC cS st) rfl rfl hl.1 rfl (Nat.le_of_ble_eq_true rfl) dX8_heightAtBeat_11 (fun H locs hI => ?_)
  refine W.eq (g2 := F0 m 14 ls []) rfl ?_
  refine lv_aload_n hx hb dX8_heightAtBeat_14 rfl (lv_at hl 0 rfl) ?_
  refine va_get (D := D) (ci := 8) (v := .ref (am 17)) (C := RX8) (T := TX8) (N := 9) hx hb hts hi_X8_heightAtBeat_X8 hown hK hI.1 0 (cg_0 am cI cC cS st2) rfl 1 (by decide) f_3 (fun _ h9 => h9) rfl dX8_heightAtBeat_15 ?_
  refine lv_aload_n hx hb dX8_heightAtBeat_18 rfl (lv_at hl 0 rfl) ?_
  refine va_get (D := D) (ci := 8) (v := .ref (am 15)) (C := RX8) (T := TX8) (N := 9) hx hb hts hi_X8_heightAtBeat_X8 hown hK hI.1 0 (cg_0 am cI cC cS st2) rfl 8 (by decide) f_0 (fun _ h9 => h9) rfl dX8_heightAtBeat_19 ?_
  refine lv_iload_n hx hb dX8_heightAtBeat_22 rfl (lv_at hl 2 rfl) ?_
  obtain ⟨v3, st4, hqv3, hM⟩ := bd_at hM
  refine jcallV (C := RX0) (As := [.ref (am 15), .int x2]) (rest := []) ⟨hx, hb, hml, hown, hts⟩ (jw_X0_moveToBeat D am cI cC cS hj N (show ck_Doll 17 by decide) (show ck_Pose 15 by decide) hqv3) (cwV 2 hts gX8_heightAtBeat_X0_moveToBeat rfl rfl rfl yd_X0_moveToBeat ⟨Nat.le_of_ble_eq_true rfl, Nat.le_of_ble_eq_true rfl⟩) hK hI 17 (cg_17 am cI cC cS st2) rfl rfl hl.1 rfl (Nat.le_of_ble_eq_true rfl) dX8_heightAtBeat_23 (fun H locs hI => ?_)
  refine W.eq (g2 := F0 m 26 ls []) rfl ?_
  refine lv_aload_n hx hb dX8_heightAtBeat_26 rfl (lv_at hl 0 rfl) ?_
  refine va_get (D := D) (ci := 8) (v := .ref (am 17)) (C := RX8) (T := TX8) (N := 9) hx hb hts hi_X8_heightAtBeat_X8 hown hK hI.1 0 (cg_0 am cI cC cS st4) rfl 1 (by decide) f_3 (fun _ h9 => h9) rfl dX8_heightAtBeat_27 ?_
  refine lv_aload_n hx hb dX8_heightAtBeat_30 rfl (lv_at hl 0 rfl) ?_
  refine va_get (D := D) (ci := 8) (v := .ref (am 15)) (C := RX8) (T := TX8) (N := 9) hx hb hts hi_X8_heightAtBeat_X8 hown hK hI.1 0 (cg_0 am cI cC cS st4) rfl 8 (by decide) f_0 (fun _ h9 => h9) rfl dX8_heightAtBeat_31 ?_
  refine lv_iload_n hx hb dX8_heightAtBeat_34 rfl (lv_at hl 1 rfl) ?_
  obtain ⟨v5, st6, hqv5, hM⟩ := bd_at hM
  refine jcallV (C := RX0) (As := [.ref (am 15), .int x1]) (rest := []) ⟨hx, hb, hml, hown, hts⟩ (jw_X0_height D am cI cC cS hj N (show ck_Doll 17 by decide) (show ck_Pose 15 by decide) hqv5) (cwV 2 hts gX8_heightAtBeat_X0_height rfl rfl rfl yd_X0_height ⟨Nat.le_of_ble_eq_true rfl, Nat.le_of_ble_eq_true rfl⟩) hK hI 17 (cg_17 am cI cC cS st4) rfl rfl hl.1 rfl (Nat.le_of_ble_eq_true rfl) dX8_heightAtBeat_35 (fun H locs hI => ?_)
  refine W.eq (g2 := F0 m 38 ls [.int v5]) rfl ?_
  have hz := Option.some.inj hM
  exact W.iret hx hb hr (fun t ht hW => jq_i hK hI hz ht hW) hI.2.2.2 dX8_heightAtBeat_38
set_option maxHeartbeats 4000000 in
set_option maxRecDepth 100000 in
theorem jw_X8_path {l : Launch} (D : va_G) (am : Nat → Nat) (cI cC cS : ClassId) (hj : aJ am 52) (N : Nat) {x1 : Int32} {x2 : Int32} {st stZ : PS} {rZ : Int32} (hM : jm_X8_path N x1 x2 st = some (rZ, stZ)) : Met l yX8_path wsX8_path ({ frames := 4, cells := 0, slots := 0, locals := 91 }) (va_Pc [.ref (am 0), .int x1, .int x2] (JH D (cW am cI cC cS) (cTy cI cC cS) st)) (JQ D (aA am 52) (cW am cI cC cS) (cTy cI cC cS) (some (.int rZ)) stZ) 0 0 (aA am 52) := by
  refine jStart (cc := cX8_path) (maxL := 3) (ret := (some .int)) [.ref (am 0), .int x1, .int x2] (by decide) rfl (Nat.le_of_ble_eq_true rfl) (fun p e s m below meth c ls hx hb hr hlocks hts hown hml hK hI hl => ?_)
  have hown : s.vm.findClass RX8 = some m.cls := hown
  replace hl : lv_has ls 3 [(0, .ref (am 0)), (1, .int x1), (2, .int x2)] := hl
  generalize hAV : ([.ref (am 0), .int x1, .int x2] : List Value).toArray = AV at hts ⊢
  unfold jm_X8_path at hM
  refine lv_aload_n hx hb dX8_path_0 rfl (lv_at hl 0 rfl) ?_
  refine lv_iload_n hx hb dX8_path_1 rfl (lv_at hl 1 rfl) ?_
  obtain ⟨v1, st2, hqv1, hM⟩ := bd_at hM
  refine jcallV (C := RX8) (As := [.int x1]) (rest := []) ⟨hx, hb, hml, hown, hts⟩ (jw_X8_isLimb D am cI cC cS hj N hqv1) (cwV 1 hts gX8_path_X8_isLimb rfl rfl rfl yd_X8_isLimb ⟨Nat.le_of_ble_eq_true rfl, Nat.le_of_ble_eq_true rfl⟩) hK hI 0 (cg_0 am cI cC cS st) rfl rfl hl.1 rfl (Nat.le_of_ble_eq_true rfl) dX8_path_2 (fun H locs hI => ?_)
  refine W.eq (g2 := F0 m 5 ls [.int v1]) rfl ?_
  refine lv_if_eq (tgt := 25) hx hb dX8_path_5 (by decide) (fun c3 => ?_) (fun c3 => ?_)
  · replace hM := if_t c3 hM
    refine lv_iconst (v := (-1 : Int32)) hx hb dX8_path_25 (by decide) ?_
    have hz := Option.some.inj hM
    exact W.iret hx hb hr (fun t ht hW => jq_i hK hI hz ht hW) hI.2.2.2 dX8_path_26
  · replace hM := if_f c3 hM
    refine lv_aload_n hx hb dX8_path_8 rfl (lv_at hl 0 rfl) ?_
    refine lv_iload_n hx hb dX8_path_9 rfl (lv_at hl 2 rfl) ?_
    obtain ⟨v4, st5, hqv4, hM⟩ := bd_at hM
    refine jcallV (C := RX8) (As := [.int x2]) (rest := []) ⟨hx, hb, hml, hown, hts⟩ (jw_X8_isBeat D am cI cC cS hj N hqv4) (cwV 1 hts gX8_path_X8_isBeat rfl rfl rfl yd_X8_isBeat ⟨Nat.le_of_ble_eq_true rfl, Nat.le_of_ble_eq_true rfl⟩) hK hI 0 (cg_0 am cI cC cS st2) rfl rfl hl.1 rfl (Nat.le_of_ble_eq_true rfl) dX8_path_10 (fun H locs hI => ?_)
    refine W.eq (g2 := F0 m 13 ls [.int v4]) rfl ?_
    refine lv_if_eq (tgt := 25) hx hb dX8_path_13 (by decide) (fun c6 => ?_) (fun c6 => ?_)
    · replace hM := if_t c6 hM
      refine lv_iconst (v := (-1 : Int32)) hx hb dX8_path_25 (by decide) ?_
      have hz := Option.some.inj hM
      exact W.iret hx hb hr (fun t ht hW => jq_i hK hI hz ht hW) hI.2.2.2 dX8_path_26
    · replace hM := if_f c6 hM
      refine lv_aload_n hx hb dX8_path_16 rfl (lv_at hl 0 rfl) ?_
      refine lv_iload_n hx hb dX8_path_17 rfl (lv_at hl 1 rfl) ?_
      refine lv_iload_n hx hb dX8_path_18 rfl (lv_at hl 2 rfl) ?_
      obtain ⟨v7, st8, hqv7, hM⟩ := bd_at hM
      refine jcallV (C := RX8) (As := [.int x1, .int x2]) (rest := []) ⟨hx, hb, hml, hown, hts⟩ (jw_X8_heightAtBeat D am cI cC cS hj N hqv7) (cwV 2 hts gX8_path_X8_heightAtBeat rfl rfl rfl yd_X8_heightAtBeat ⟨Nat.le_of_ble_eq_true rfl, Nat.le_of_ble_eq_true rfl⟩) hK hI 0 (cg_0 am cI cC cS st5) rfl rfl hl.1 rfl (Nat.le_of_ble_eq_true rfl) dX8_path_19 (fun H locs hI => ?_)
      refine W.eq (g2 := F0 m 22 ls [.int v7]) rfl ?_
      refine lv_goto (tgt := 26) hx hb dX8_path_22 (by decide) ?_
      have hz := Option.some.inj hM
      exact W.iret hx hb hr (fun t ht hW => jq_i hK hI hz ht hW) hI.2.2.2 dX8_path_26
set_option maxRecDepth 20000 in
theorem hi_X8_nods_X8 : ∀ w ∈ wsX80, w ∈ wsX8_nods := by decide +kernel
set_option maxRecDepth 20000 in
theorem hi_X8_nods_X0 : ∀ w ∈ wsX00, w ∈ wsX8_nods := by decide +kernel
set_option maxHeartbeats 4000000 in
set_option maxRecDepth 100000 in
theorem jw_X8_nods {l : Launch} (D : va_G) (am : Nat → Nat) (cI cC cS : ClassId) (hj : aJ am 52) (N : Nat) {x1 : Int32} {st stZ : PS} {rZ : Int32} (hM : jm_X8_nods N x1 st = some (rZ, stZ)) : Met l yX8_nods wsX8_nods ({ frames := 4, cells := 0, slots := 0, locals := 91 }) (va_Pc [.ref (am 0), .int x1] (JH D (cW am cI cC cS) (cTy cI cC cS) st)) (JQ D (aA am 52) (cW am cI cC cS) (cTy cI cC cS) (some (.int rZ)) stZ) 0 0 (aA am 52) := by
  refine jStart (cc := cX8_nods) (maxL := 5) (ret := (some .int)) [.ref (am 0), .int x1] (by decide) rfl (Nat.le_of_ble_eq_true rfl) (fun p e s m below meth c ls hx hb hr hlocks hts hown hml hK hI hl => ?_)
  have hown : s.vm.findClass RX8 = some m.cls := hown
  replace hl : lv_has ls 5 [(0, .ref (am 0)), (1, .int x1)] := hl
  generalize hAV : ([.ref (am 0), .int x1] : List Value).toArray = AV at hts ⊢
  have f_0 := hts (.fieldLink RX8 19 "PuppetBar" "doll" "LPuppetBar$Doll;") (by decide +kernel)
  have f_1 := hts (.fieldLink RX8 248 "PuppetBar$Doll" "beats" "I") (by decide +kernel)
  unfold jm_X8_nods at hM
  refine lv_aload_n hx hb dX8_nods_0 rfl (lv_at hl 0 rfl) ?_
  refine lv_iload_n hx hb dX8_nods_1 rfl (lv_at hl 1 rfl) ?_
  obtain ⟨v1, st2, hqv1, hM⟩ := bd_at hM
  refine jcallV (C := RX8) (As := [.int x1]) (rest := []) ⟨hx, hb, hml, hown, hts⟩ (jw_X8_isLimb D am cI cC cS hj N hqv1) (cwV 1 hts gX8_nods_X8_isLimb rfl rfl rfl yd_X8_isLimb ⟨Nat.le_of_ble_eq_true rfl, Nat.le_of_ble_eq_true rfl⟩) hK hI 0 (cg_0 am cI cC cS st) rfl rfl hl.1 rfl (Nat.le_of_ble_eq_true rfl) dX8_nods_2 (fun H locs hI => ?_)
  refine W.eq (g2 := F0 m 5 ls [.int v1]) rfl ?_
  refine lv_if_ne (tgt := 10) hx hb dX8_nods_5 (by decide) (fun c3 => ?_) (fun c3 => ?_)
  · replace hM := if_f c3 hM
    refine lv_iconst (v := (0 : Int32)) hx hb dX8_nods_10 (by decide) ?_
    refine lv_istore_n (lv' := [(2, .int (0 : Int32)), (0, .ref (am 0)), (1, .int x1)]) hx hb dX8_nods_11 rfl hl (by decide) rfl (fun ls hl => ?_)
    refine lv_iconst (v := (1 : Int32)) hx hb dX8_nods_12 (by decide) ?_
    refine lv_istore_n (lv' := [(3, .int (1 : Int32)), (2, .int (0 : Int32)), (0, .ref (am 0)), (1, .int x1)]) hx hb dX8_nods_13 rfl hl (by decide) rfl (fun ls hl => ?_)
    have lp0 : ∀ (n : Nat) (w5 : Int32) (w6 : Int32) (st4 : PS) (H : Heap) (locs : List Loc) (ls : Array Slot), JI D (aA am 52) (cW am cI cC cS) s.heap st4 H locs → lv_has ls 5 [(0, .ref (am 0)), (1, .int x1), (2, .int w5), (3, .int w6)] → iter (fun q => jm_X8_nods_L14 N x1 q.1 q.2.1 q.2.2) n (w5, w6, st4) = some (rZ, stZ) → W p l e (headSpec wsX8_nods { frames := 4, cells := 0, slots := 0, locals := 91 }).room s m AV below meth c H locs 0 0 (MQ below (JQ D (aA am 52) (cW am cI cC cS) (cTy cI cC cS) (some (.int rZ)) stZ) AV s 0 0 (aA am 52)) (F0 m 14 ls []) := by
      intro n
      induction n with
      | zero =>
        intro _ _ _ _ _ _ _ _ hM
        exact absurd hM (fun h => iter_zero h)
      | succ n ih0 =>
        intro w5 w6 st4 H locs ls hI hl hM
        obtain ⟨z0, hM, hk0⟩ := iter_succ hM
        replace hM : jm_X8_nods_L14 N x1 w5 w6 st4 = some z0 := hM
        unfold jm_X8_nods_L14 at hM
        refine lv_iload_n hx hb dX8_nods_14 rfl (lv_at hl 3 rfl) ?_
        refine lv_aload_n hx hb dX8_nods_15 rfl (lv_at hl 0 rfl) ?_
        refine va_get (D := D) (ci := 8) (v := .ref (am 17)) (C := RX8) (T := TX8) (N := 9) hx hb hts hi_X8_nods_X8 hown hK hI.1 0 (cg_0 am cI cC cS st4) rfl 1 (by decide) f_0 (fun _ h9 => h9) rfl dX8_nods_16 ?_
        refine va_get (D := D) (ci := 0) (v := .int (st4.1 17 9)) (C := RX0) (T := TX0) (N := 11) hx hb hts hi_X8_nods_X0 hown hK hI.1 17 (cg_17 am cI cC cS st4) rfl 9 (by decide) f_1 (fun _ h9 => h9) rfl dX8_nods_19 ?_
        refine lv_iconst (v := (1 : Int32)) hx hb dX8_nods_22 (by decide) ?_
        refine lv_isub hx hb dX8_nods_23 ?_
        refine lv_icmp_ge (tgt := 70) hx hb dX8_nods_24 (by decide) (fun c7 => ?_) (fun c7 => ?_)
        · replace hM := if_t c7 hM
          refine lv_iload_n hx hb dX8_nods_70 rfl (lv_at hl 2 rfl) ?_
          have hz := Option.some.inj hM
          subst hz
          have hz := kn_r hk0
          exact W.iret hx hb hr (fun t ht hW => jq_i hK hI hz ht hW) hI.2.2.2 dX8_nods_71
        · replace hM := if_f c7 hM
          refine lv_aload_n hx hb dX8_nods_27 rfl (lv_at hl 0 rfl) ?_
          refine lv_iload_n hx hb dX8_nods_28 rfl (lv_at hl 1 rfl) ?_
          refine lv_iload_n hx hb dX8_nods_29 rfl (lv_at hl 3 rfl) ?_
          obtain ⟨v8, st9, hqv8, hM⟩ := bd_at hM
          refine jcallV (C := RX8) (As := [.int x1, .int w6]) (rest := []) ⟨hx, hb, hml, hown, hts⟩ (jw_X8_heightAtBeat D am cI cC cS hj N hqv8) (cwV 2 hts gX8_nods_X8_heightAtBeat rfl rfl rfl yd_X8_heightAtBeat ⟨Nat.le_of_ble_eq_true rfl, Nat.le_of_ble_eq_true rfl⟩) hK hI 0 (cg_0 am cI cC cS st4) rfl rfl hl.1 rfl (Nat.le_of_ble_eq_true rfl) dX8_nods_30 (fun H locs hI => ?_)
          refine W.eq (g2 := F0 m 33 ls [.int v8]) rfl ?_
          refine lv_istore (lv' := [(4, .int v8), (0, .ref (am 0)), (1, .int x1), (2, .int w5), (3, .int w6)]) hx hb dX8_nods_33 hl (by decide) rfl (fun ls hl => ?_)
          refine lv_iload hx hb dX8_nods_35 (lv_at hl 0 rfl) ?_
          refine lv_aload_n hx hb dX8_nods_37 rfl (lv_at hl 1 rfl) ?_
          refine lv_iload_n hx hb dX8_nods_38 rfl (lv_at hl 2 rfl) ?_
          refine lv_iload_n hx hb dX8_nods_39 rfl (lv_at hl 4 rfl) ?_
          refine lv_iconst (v := (1 : Int32)) hx hb dX8_nods_40 (by decide) ?_
          refine lv_isub hx hb dX8_nods_41 ?_
          obtain ⟨v10, st11, hqv10, hM⟩ := bd_at hM
          refine jcallV (C := RX8) (As := [.int x1, .int (w6 - (1 : Int32))]) (rest := [.int v8]) ⟨hx, hb, hml, hown, hts⟩ (jw_X8_heightAtBeat D am cI cC cS hj N hqv10) (cwV 2 hts gX8_nods_X8_heightAtBeat rfl rfl rfl yd_X8_heightAtBeat ⟨Nat.le_of_ble_eq_true rfl, Nat.le_of_ble_eq_true rfl⟩) hK hI 0 (cg_0 am cI cC cS st9) rfl rfl hl.1 rfl (Nat.le_of_ble_eq_true rfl) dX8_nods_42 (fun H locs hI => ?_)
          refine W.eq (g2 := F0 m 45 ls [.int v10, .int v8]) rfl ?_
          refine lv_icmp_ge (tgt := 64) hx hb dX8_nods_45 (by decide) (fun c12 => ?_) (fun c12 => ?_)
          · replace hM := if_t c12 hM
            refine lv_iinc (v := (w6 + (1 : Int32))) (lv' := [(3, .int (w6 + (1 : Int32))), (4, .int v8), (0, .ref (am 0)), (1, .int x1), (2, .int w5)]) hx hb dX8_nods_64 hl (k := 4) rfl rfl (by decide) rfl (fun ls hl => ?_)
            refine lv_goto (tgt := 14) hx hb dX8_nods_67 (by decide) ?_
            have hz := Option.some.inj hM
            subst hz
            exact ih0 w5 (w6 + (1 : Int32)) st11 _ _ _ hI (lv_sub hl [2, 3, 4, 0] rfl) hk0
          · replace hM := if_f c12 hM
            refine lv_iload hx hb dX8_nods_48 (lv_at hl 0 rfl) ?_
            refine lv_aload_n hx hb dX8_nods_50 rfl (lv_at hl 1 rfl) ?_
            refine lv_iload_n hx hb dX8_nods_51 rfl (lv_at hl 2 rfl) ?_
            refine lv_iload_n hx hb dX8_nods_52 rfl (lv_at hl 4 rfl) ?_
            refine lv_iconst (v := (1 : Int32)) hx hb dX8_nods_53 (by decide) ?_
            refine lv_iadd hx hb dX8_nods_54 ?_
            obtain ⟨v13, st14, hqv13, hM⟩ := bd_at hM
            refine jcallV (C := RX8) (As := [.int x1, .int (w6 + (1 : Int32))]) (rest := [.int v8]) ⟨hx, hb, hml, hown, hts⟩ (jw_X8_heightAtBeat D am cI cC cS hj N hqv13) (cwV 2 hts gX8_nods_X8_heightAtBeat rfl rfl rfl yd_X8_heightAtBeat ⟨Nat.le_of_ble_eq_true rfl, Nat.le_of_ble_eq_true rfl⟩) hK hI 0 (cg_0 am cI cC cS st11) rfl rfl hl.1 rfl (Nat.le_of_ble_eq_true rfl) dX8_nods_55 (fun H locs hI => ?_)
            refine W.eq (g2 := F0 m 58 ls [.int v13, .int v8]) rfl ?_
            refine lv_icmp_ge (tgt := 64) hx hb dX8_nods_58 (by decide) (fun c15 => ?_) (fun c15 => ?_)
            · replace hM := if_t c15 hM
              refine lv_iinc (v := (w6 + (1 : Int32))) (lv' := [(3, .int (w6 + (1 : Int32))), (4, .int v8), (0, .ref (am 0)), (1, .int x1), (2, .int w5)]) hx hb dX8_nods_64 hl (k := 4) rfl rfl (by decide) rfl (fun ls hl => ?_)
              refine lv_goto (tgt := 14) hx hb dX8_nods_67 (by decide) ?_
              have hz := Option.some.inj hM
              subst hz
              exact ih0 w5 (w6 + (1 : Int32)) st14 _ _ _ hI (lv_sub hl [2, 3, 4, 0] rfl) hk0
            · replace hM := if_f c15 hM
              refine lv_iinc (v := (w5 + (1 : Int32))) (lv' := [(2, .int (w5 + (1 : Int32))), (4, .int v8), (0, .ref (am 0)), (1, .int x1), (3, .int w6)]) hx hb dX8_nods_61 hl (k := 3) rfl rfl (by decide) rfl (fun ls hl => ?_)
              refine lv_iinc (v := (w6 + (1 : Int32))) (lv' := [(3, .int (w6 + (1 : Int32))), (2, .int (w5 + (1 : Int32))), (4, .int v8), (0, .ref (am 0)), (1, .int x1)]) hx hb dX8_nods_64 hl (k := 4) rfl rfl (by decide) rfl (fun ls hl => ?_)
              refine lv_goto (tgt := 14) hx hb dX8_nods_67 (by decide) ?_
              have hz := Option.some.inj hM
              subst hz
              exact ih0 (w5 + (1 : Int32)) (w6 + (1 : Int32)) st14 _ _ _ hI (lv_sub hl [3, 4, 1, 0] rfl) hk0
    exact lp0 N (0 : Int32) (1 : Int32) st2 _ _ _ hI (lv_sub hl [2, 3, 1, 0] rfl) hM
  · replace hM := if_t c3 hM
    refine lv_iconst (v := (-1 : Int32)) hx hb dX8_nods_8 (by decide) ?_
    have hz := Option.some.inj hM
    exact W.iret hx hb hr (fun t ht hW => jq_i hK hI hz ht hW) hI.2.2.2 dX8_nods_9
set_option maxRecDepth 20000 in
theorem hi_X8_play_X8 : ∀ w ∈ wsX80, w ∈ wsX8_play := by decide +kernel
set_option maxRecDepth 20000 in
theorem hi_X8_play_X0 : ∀ w ∈ wsX00, w ∈ wsX8_play := by decide +kernel
set_option maxRecDepth 20000 in
theorem hi_X8_play_X5 : ∀ w ∈ wsX50, w ∈ wsX8_play := by decide +kernel
set_option maxHeartbeats 4000000 in
set_option maxRecDepth 100000 in
theorem jw_X8_play {l : Launch} (D : va_G) (am : Nat → Nat) (cI cC cS : ClassId) (hj : aJ am 52) (N : Nat) {x1 : Int32} {st stZ : PS} {rZ : Int32} (hM : jm_X8_play N x1 st = some (rZ, stZ)) : Met l yX8_play wsX8_play ({ frames := 6, cells := 0, slots := 0, locals := 150 }) (va_Pc [.ref (am 0), .int x1] (JH D (cW am cI cC cS) (cTy cI cC cS) st)) (JQ D (aA am 52) (cW am cI cC cS) (cTy cI cC cS) (some (.int rZ)) stZ) 0 0 (aA am 52) := by
  refine jStart (cc := cX8_play) (maxL := 2) (ret := (some .int)) [.ref (am 0), .int x1] (by decide) rfl (Nat.le_of_ble_eq_true rfl) (fun p e s m below meth c ls hx hb hr hlocks hts hown hml hK hI hl => ?_)
  have hown : s.vm.findClass RX8 = some m.cls := hown
  replace hl : lv_has ls 2 [(0, .ref (am 0)), (1, .int x1)] := hl
  generalize hAV : ([.ref (am 0), .int x1] : List Value).toArray = AV at hts ⊢
  have f_0 := hts (.fieldLink RX8 19 "PuppetBar" "doll" "LPuppetBar$Doll;") (by decide +kernel)
  have f_1 := hts (.fieldLink RX8 248 "PuppetBar$Doll" "beats" "I") (by decide +kernel)
  have f_2 := hts (.fieldLink RX8 47 "PuppetBar" "order" "LPuppetBar$Order;") (by decide +kernel)
  have f_3 := hts (.fieldLink RX8 29 "PuppetBar" "scene" "LPuppetBar$Scene;") (by decide +kernel)
  have f_4 := hts (.fieldLink RX8 65 "PuppetBar$Scene" "pose" "LPuppetBar$Pose;") (by decide +kernel)
  unfold jm_X8_play at hM
  refine lv_iload_n hx hb dX8_play_0 rfl (lv_at hl 1 rfl) ?_
  refine lv_iconst (v := (-1 : Int32)) hx hb dX8_play_1 (by decide) ?_
  refine lv_icmp_lt (tgt := 11) hx hb dX8_play_2 (by decide) (fun c1 => ?_) (fun c1 => ?_)
  · replace hM := if_t c1 hM
    refine lv_iconst (v := (-1 : Int32)) hx hb dX8_play_11 (by decide) ?_
    have hz := Option.some.inj hM
    exact W.iret hx hb hr (fun t ht hW => jq_i hK hI hz ht hW) hI.2.2.2 dX8_play_12
  · replace hM := if_f c1 hM
    refine lv_iload_n hx hb dX8_play_5 rfl (lv_at hl 1 rfl) ?_
    refine lv_bipush (v := (7 : Int32)) hx hb dX8_play_6 (by decide) ?_
    refine lv_icmp_lt (tgt := 13) hx hb dX8_play_8 (by decide) (fun c2 => ?_) (fun c2 => ?_)
    · replace hM := if_t c2 hM
      refine lv_iload_n hx hb dX8_play_13 rfl (lv_at hl 1 rfl) ?_
      refine lv_aload_n hx hb dX8_play_14 rfl (lv_at hl 0 rfl) ?_
      refine va_get (D := D) (ci := 8) (v := .ref (am 17)) (C := RX8) (T := TX8) (N := 9) hx hb hts hi_X8_play_X8 hown hK hI.1 0 (cg_0 am cI cC cS st) rfl 1 (by decide) f_0 (fun _ h9 => h9) rfl dX8_play_15 ?_
      refine va_get (D := D) (ci := 0) (v := .int (st.1 17 9)) (C := RX0) (T := TX0) (N := 11) hx hb hts hi_X8_play_X0 hown hK hI.1 17 (cg_17 am cI cC cS st) rfl 9 (by decide) f_1 (fun _ h9 => h9) rfl dX8_play_18 ?_
      refine lv_icmp_lt (tgt := 27) hx hb dX8_play_21 (by decide) (fun c3 => ?_) (fun c3 => ?_)
      · replace hM := if_t c3 hM
        refine lv_aload_n hx hb dX8_play_27 rfl (lv_at hl 0 rfl) ?_
        refine va_get (D := D) (ci := 8) (v := .ref (am 6)) (C := RX8) (T := TX8) (N := 9) hx hb hts hi_X8_play_X8 hown hK hI.1 0 (cg_0 am cI cC cS st) rfl 6 (by decide) f_2 (fun _ h9 => h9) rfl dX8_play_28 ?_
        refine lv_aload_n hx hb dX8_play_31 rfl (lv_at hl 0 rfl) ?_
        refine va_get (D := D) (ci := 8) (v := .ref (am 17)) (C := RX8) (T := TX8) (N := 9) hx hb hts hi_X8_play_X8 hown hK hI.1 0 (cg_0 am cI cC cS st) rfl 1 (by decide) f_0 (fun _ h9 => h9) rfl dX8_play_32 ?_
        refine lv_aload_n hx hb dX8_play_35 rfl (lv_at hl 0 rfl) ?_
        refine va_get (D := D) (ci := 8) (v := .ref (am 37)) (C := RX8) (T := TX8) (N := 9) hx hb hts hi_X8_play_X8 hown hK hI.1 0 (cg_0 am cI cC cS st) rfl 3 (by decide) f_3 (fun _ h9 => h9) rfl dX8_play_36 ?_
        refine va_get (D := D) (ci := 5) (v := .ref (am 38)) (C := RX5) (T := TX5) (N := 3) hx hb hts hi_X8_play_X5 hown hK hI.1 37 (cg_37 am cI cC cS st) rfl 0 (by decide) f_4 (fun _ h9 => h9) rfl dX8_play_39 ?_
        obtain ⟨v4, st5, hqv4, hM⟩ := bd_at hM
        refine jcallV (C := RX2) (As := [.ref (am 17), .ref (am 38)]) (rest := []) ⟨hx, hb, hml, hown, hts⟩ (jw_X2_plan D am cI cC cS hj N (show ck_Doll 17 by decide) (show ck_Pose 38 by decide) hqv4) (cwV 2 hts gX8_play_X2_plan rfl rfl rfl yd_X2_plan ⟨Nat.le_of_ble_eq_true rfl, Nat.le_of_ble_eq_true rfl⟩) hK hI 6 (cg_6 am cI cC cS st) rfl rfl hl.1 rfl (Nat.le_of_ble_eq_true rfl) dX8_play_42 (fun H locs hI => ?_)
        refine W.eq (g2 := F0 m 45 ls []) rfl ?_
        refine lv_iload_n hx hb dX8_play_45 rfl (lv_at hl 1 rfl) ?_
        refine lv_if_ge (tgt := 59) hx hb dX8_play_46 (by decide) (fun c6 => ?_) (fun c6 => ?_)
        · replace hM := if_t c6 hM
          refine lv_aload_n hx hb dX8_play_59 rfl (lv_at hl 0 rfl) ?_
          refine va_get (D := D) (ci := 8) (v := .ref (am 6)) (C := RX8) (T := TX8) (N := 9) hx hb hts hi_X8_play_X8 hown hK hI.1 0 (cg_0 am cI cC cS st5) rfl 6 (by decide) f_2 (fun _ h9 => h9) rfl dX8_play_60 ?_
          refine lv_iload_n hx hb dX8_play_63 rfl (lv_at hl 1 rfl) ?_
          obtain ⟨v7, st8, hqv7, hM⟩ := bd_at hM
          refine jcallV (C := RX2) (As := [.int x1]) (rest := []) ⟨hx, hb, hml, hown, hts⟩ (jw_X2_beatAt D am cI cC cS hj N hqv7) (cwV 1 hts gX8_play_X2_beatAt rfl rfl rfl yd_X2_beatAt ⟨Nat.le_of_ble_eq_true rfl, Nat.le_of_ble_eq_true rfl⟩) hK hI 6 (cg_6 am cI cC cS st5) rfl rfl hl.1 rfl (Nat.le_of_ble_eq_true rfl) dX8_play_64 (fun H locs hI => ?_)
          refine W.eq (g2 := F0 m 67 ls [.int v7]) rfl ?_
          have hz := Option.some.inj hM
          exact W.iret hx hb hr (fun t ht hW => jq_i hK hI hz ht hW) hI.2.2.2 dX8_play_67
        · replace hM := if_f c6 hM
          refine lv_aload_n hx hb dX8_play_49 rfl (lv_at hl 0 rfl) ?_
          refine va_get (D := D) (ci := 8) (v := .ref (am 6)) (C := RX8) (T := TX8) (N := 9) hx hb hts hi_X8_play_X8 hown hK hI.1 0 (cg_0 am cI cC cS st5) rfl 6 (by decide) f_2 (fun _ h9 => h9) rfl dX8_play_50 ?_
          obtain ⟨v9, st10, hqv9, hM⟩ := bd_at hM
          refine jcallV (C := RX2) (As := []) (rest := []) ⟨hx, hb, hml, hown, hts⟩ (jw_X2_moves D am cI cC cS hj N hqv9) (cwV 0 hts gX8_play_X2_moves rfl rfl rfl yd_X2_moves ⟨Nat.le_of_ble_eq_true rfl, Nat.le_of_ble_eq_true rfl⟩) hK hI 6 (cg_6 am cI cC cS st5) rfl rfl hl.1 rfl (Nat.le_of_ble_eq_true rfl) dX8_play_53 (fun H locs hI => ?_)
          refine W.eq (g2 := F0 m 56 ls [.int v9]) rfl ?_
          refine lv_goto (tgt := 67) hx hb dX8_play_56 (by decide) ?_
          have hz := Option.some.inj hM
          exact W.iret hx hb hr (fun t ht hW => jq_i hK hI hz ht hW) hI.2.2.2 dX8_play_67
      · replace hM := if_f c3 hM
        refine lv_bipush (v := (-9 : Int32)) hx hb dX8_play_24 (by decide) ?_
        have hz := Option.some.inj hM
        exact W.iret hx hb hr (fun t ht hW => jq_i hK hI hz ht hW) hI.2.2.2 dX8_play_26
    · replace hM := if_f c2 hM
      refine lv_iconst (v := (-1 : Int32)) hx hb dX8_play_11 (by decide) ?_
      have hz := Option.some.inj hM
      exact W.iret hx hb hr (fun t ht hW => jq_i hK hI hz ht hW) hI.2.2.2 dX8_play_12
set_option maxHeartbeats 4000000 in
set_option maxRecDepth 100000 in
theorem jw_X8_greatestSharedDivisor {l : Launch} (D : va_G) (am : Nat → Nat) (cI cC cS : ClassId) (hj : aJ am 52) (N : Nat) {x0 : Int32} {st stZ : PS} {rZ : Int32} (hM : jm_X8_greatestSharedDivisor N x0 st = some (rZ, stZ)) : Met l yX8_greatestSharedDivisor wsX8_greatestSharedDivisor ({ frames := 0, cells := 0, slots := 0, locals := 0 }) (va_Pc [.int x0] (JH D (cW am cI cC cS) (cTy cI cC cS) st)) (JQ D (aA am 52) (cW am cI cC cS) (cTy cI cC cS) (some (.int rZ)) stZ) 0 0 (aA am 52) := by
  refine jStart (cc := cX8_greatestSharedDivisor) (maxL := 2) (ret := (some .int)) [.int x0] (by decide) rfl (Nat.le_of_ble_eq_true rfl) (fun p e s m below meth c ls hx hb hr hlocks hts hown hml hK hI hl => ?_)
  have hown : s.vm.findClass RX8 = some m.cls := hown
  replace hl : lv_has ls 2 [(0, .int x0)] := hl
  generalize hAV : ([.int x0] : List Value).toArray = AV at hts ⊢
  unfold jm_X8_greatestSharedDivisor at hM
  refine lv_bipush (v := (10 : Int32)) hx hb dX8_greatestSharedDivisor_0 (by decide) ?_
  refine lv_istore_n (lv' := [(1, .int (10 : Int32)), (0, .int x0)]) hx hb dX8_greatestSharedDivisor_2 rfl hl (by decide) rfl (fun ls hl => ?_)
  have lp0 : ∀ (n : Nat) (w2 : Int32) (st1 : PS) (H : Heap) (locs : List Loc) (ls : Array Slot), JI D (aA am 52) (cW am cI cC cS) s.heap st1 H locs → lv_has ls 2 [(0, .int x0), (1, .int w2)] → iter (fun q => jm_X8_greatestSharedDivisor_L3 N x0 q.1 q.2) n (w2, st1) = some (rZ, stZ) → W p l e (headSpec wsX8_greatestSharedDivisor { frames := 0, cells := 0, slots := 0, locals := 0 }).room s m AV below meth c H locs 0 0 (MQ below (JQ D (aA am 52) (cW am cI cC cS) (cTy cI cC cS) (some (.int rZ)) stZ) AV s 0 0 (aA am 52)) (F0 m 3 ls []) := by
    intro n
    induction n with
    | zero =>
      intro _ _ _ _ _ _ _ hM
      exact absurd hM (fun h => iter_zero h)
    | succ n ih0 =>
      intro w2 st1 H locs ls hI hl hM
      obtain ⟨z0, hM, hk0⟩ := iter_succ hM
      replace hM : jm_X8_greatestSharedDivisor_L3 N x0 w2 st1 = some z0 := hM
      unfold jm_X8_greatestSharedDivisor_L3 at hM
      refine lv_iload_n hx hb dX8_greatestSharedDivisor_3 rfl (lv_at hl 1 rfl) ?_
      refine lv_iconst (v := (1 : Int32)) hx hb dX8_greatestSharedDivisor_4 (by decide) ?_
      refine lv_icmp_le (tgt := 29) hx hb dX8_greatestSharedDivisor_5 (by decide) (fun c3 => ?_) (fun c3 => ?_)
      · replace hM := if_t c3 hM
        refine lv_iconst (v := (1 : Int32)) hx hb dX8_greatestSharedDivisor_29 (by decide) ?_
        have hz := Option.some.inj hM
        subst hz
        have hz := kn_r hk0
        exact W.iret hx hb hr (fun t ht hW => jq_i hK hI hz ht hW) hI.2.2.2 dX8_greatestSharedDivisor_30
      · replace hM := if_f c3 hM
        refine lv_iload_n hx hb dX8_greatestSharedDivisor_8 rfl (lv_at hl 0 rfl) ?_
        refine lv_iload_n hx hb dX8_greatestSharedDivisor_9 rfl (lv_at hl 1 rfl) ?_
        obtain ⟨g4, hM⟩ := gd_at hM
        refine lv_irem hx hb dX8_greatestSharedDivisor_10 (nzB_ne g4) ?_
        refine lv_if_ne (tgt := 23) hx hb dX8_greatestSharedDivisor_11 (by decide) (fun c5 => ?_) (fun c5 => ?_)
        · replace hM := if_f c5 hM
          refine lv_iinc (v := (w2 + (-1 : Int32))) (lv' := [(1, .int (w2 + (-1 : Int32))), (0, .int x0)]) hx hb dX8_greatestSharedDivisor_23 hl (k := 1) rfl rfl (by decide) rfl (fun ls hl => ?_)
          refine lv_goto (tgt := 3) hx hb dX8_greatestSharedDivisor_26 (by decide) ?_
          have hz := Option.some.inj hM
          subst hz
          exact ih0 (w2 + (-1 : Int32)) st1 _ _ _ hI (lv_sub hl [1, 0] rfl) hk0
        · replace hM := if_t c5 hM
          refine lv_bipush (v := (10 : Int32)) hx hb dX8_greatestSharedDivisor_14 (by decide) ?_
          refine lv_iload_n hx hb dX8_greatestSharedDivisor_16 rfl (lv_at hl 1 rfl) ?_
          obtain ⟨g6, hM⟩ := gd_at hM
          refine lv_irem hx hb dX8_greatestSharedDivisor_17 (nzB_ne g6) ?_
          refine lv_if_ne (tgt := 23) hx hb dX8_greatestSharedDivisor_18 (by decide) (fun c7 => ?_) (fun c7 => ?_)
          · replace hM := if_f c7 hM
            refine lv_iinc (v := (w2 + (-1 : Int32))) (lv' := [(1, .int (w2 + (-1 : Int32))), (0, .int x0)]) hx hb dX8_greatestSharedDivisor_23 hl (k := 1) rfl rfl (by decide) rfl (fun ls hl => ?_)
            refine lv_goto (tgt := 3) hx hb dX8_greatestSharedDivisor_26 (by decide) ?_
            have hz := Option.some.inj hM
            subst hz
            exact ih0 (w2 + (-1 : Int32)) st1 _ _ _ hI (lv_sub hl [1, 0] rfl) hk0
          · replace hM := if_t c7 hM
            refine lv_iload_n hx hb dX8_greatestSharedDivisor_21 rfl (lv_at hl 1 rfl) ?_
            have hz := Option.some.inj hM
            subst hz
            have hz := kn_r hk0
            exact W.iret hx hb hr (fun t ht hW => jq_i hK hI hz ht hW) hI.2.2.2 dX8_greatestSharedDivisor_22
  exact lp0 N (10 : Int32) st _ _ _ hI (lv_sub hl [1, 0] rfl) hM
set_option maxHeartbeats 4000000 in
set_option maxRecDepth 100000 in
theorem jw_X8_power {l : Launch} (D : va_G) (am : Nat → Nat) (cI cC cS : ClassId) (hj : aJ am 52) (N : Nat) {x0 : Int32} {x1 : Int32} {st stZ : PS} {rZ : Int32} (hM : jm_X8_power N x0 x1 st = some (rZ, stZ)) : Met l yX8_power wsX8_power ({ frames := 0, cells := 0, slots := 0, locals := 0 }) (va_Pc [.int x0, .int x1] (JH D (cW am cI cC cS) (cTy cI cC cS) st)) (JQ D (aA am 52) (cW am cI cC cS) (cTy cI cC cS) (some (.int rZ)) stZ) 0 0 (aA am 52) := by
  refine jStart (cc := cX8_power) (maxL := 4) (ret := (some .int)) [.int x0, .int x1] (by decide) rfl (Nat.le_of_ble_eq_true rfl) (fun p e s m below meth c ls hx hb hr hlocks hts hown hml hK hI hl => ?_)
  have hown : s.vm.findClass RX8 = some m.cls := hown
  replace hl : lv_has ls 4 [(0, .int x0), (1, .int x1)] := hl
  generalize hAV : ([.int x0, .int x1] : List Value).toArray = AV at hts ⊢
  unfold jm_X8_power at hM
  refine lv_iconst (v := (1 : Int32)) hx hb dX8_power_0 (by decide) ?_
  refine lv_istore_n (lv' := [(2, .int (1 : Int32)), (0, .int x0), (1, .int x1)]) hx hb dX8_power_1 rfl hl (by decide) rfl (fun ls hl => ?_)
  refine lv_iconst (v := (0 : Int32)) hx hb dX8_power_2 (by decide) ?_
  refine lv_istore_n (lv' := [(3, .int (0 : Int32)), (2, .int (1 : Int32)), (0, .int x0), (1, .int x1)]) hx hb dX8_power_3 rfl hl (by decide) rfl (fun ls hl => ?_)
  have lp0 : ∀ (n : Nat) (w2 : Int32) (w3 : Int32) (st1 : PS) (H : Heap) (locs : List Loc) (ls : Array Slot), JI D (aA am 52) (cW am cI cC cS) s.heap st1 H locs → lv_has ls 4 [(0, .int x0), (1, .int x1), (2, .int w2), (3, .int w3)] → iter (fun q => jm_X8_power_L4 N x0 x1 q.1 q.2.1 q.2.2) n (w2, w3, st1) = some (rZ, stZ) → W p l e (headSpec wsX8_power { frames := 0, cells := 0, slots := 0, locals := 0 }).room s m AV below meth c H locs 0 0 (MQ below (JQ D (aA am 52) (cW am cI cC cS) (cTy cI cC cS) (some (.int rZ)) stZ) AV s 0 0 (aA am 52)) (F0 m 4 ls []) := by
    intro n
    induction n with
    | zero =>
      intro _ _ _ _ _ _ _ _ hM
      exact absurd hM (fun h => iter_zero h)
    | succ n ih0 =>
      intro w2 w3 st1 H locs ls hI hl hM
      obtain ⟨z0, hM, hk0⟩ := iter_succ hM
      replace hM : jm_X8_power_L4 N x0 x1 w2 w3 st1 = some z0 := hM
      unfold jm_X8_power_L4 at hM
      refine lv_iload_n hx hb dX8_power_4 rfl (lv_at hl 3 rfl) ?_
      refine lv_iload_n hx hb dX8_power_5 rfl (lv_at hl 1 rfl) ?_
      refine lv_icmp_ge (tgt := 19) hx hb dX8_power_6 (by decide) (fun c4 => ?_) (fun c4 => ?_)
      · replace hM := if_t c4 hM
        refine lv_iload_n hx hb dX8_power_19 rfl (lv_at hl 2 rfl) ?_
        have hz := Option.some.inj hM
        subst hz
        have hz := kn_r hk0
        exact W.iret hx hb hr (fun t ht hW => jq_i hK hI hz ht hW) hI.2.2.2 dX8_power_20
      · replace hM := if_f c4 hM
        refine lv_iload_n hx hb dX8_power_9 rfl (lv_at hl 2 rfl) ?_
        refine lv_iload_n hx hb dX8_power_10 rfl (lv_at hl 0 rfl) ?_
        refine lv_imul hx hb dX8_power_11 ?_
        refine lv_istore_n (lv' := [(2, .int (w2 * x0)), (0, .int x0), (1, .int x1), (3, .int w3)]) hx hb dX8_power_12 rfl hl (by decide) rfl (fun ls hl => ?_)
        refine lv_iinc (v := (w3 + (1 : Int32))) (lv' := [(3, .int (w3 + (1 : Int32))), (2, .int (w2 * x0)), (0, .int x0), (1, .int x1)]) hx hb dX8_power_13 hl (k := 3) rfl rfl (by decide) rfl (fun ls hl => ?_)
        refine lv_goto (tgt := 4) hx hb dX8_power_16 (by decide) ?_
        have hz := Option.some.inj hM
        subst hz
        exact ih0 (w2 * x0) (w3 + (1 : Int32)) st1 _ _ _ hI (lv_sub hl [2, 3, 1, 0] rfl) hk0
  exact lp0 N (1 : Int32) (0 : Int32) st _ _ _ hI (lv_sub hl [2, 3, 1, 0] rfl) hM
set_option maxRecDepth 20000 in
theorem hi_X8_odds_X8 : ∀ w ∈ wsX80, w ∈ wsX8_odds := by decide +kernel
set_option maxRecDepth 20000 in
theorem hi_X8_odds_X5 : ∀ w ∈ wsX50, w ∈ wsX8_odds := by decide +kernel
set_option maxHeartbeats 4000000 in
set_option maxRecDepth 100000 in
theorem jw_X8_odds {l : Launch} (D : va_G) (am : Nat → Nat) (cI cC cS : ClassId) (hj : aJ am 52) (N : Nat) {x1 : Int32} {x2 : Int32} {x3 : Int32} {st stZ : PS} {rZ : Int32} (hM : jm_X8_odds N x1 x2 x3 st = some (rZ, stZ)) : Met l yX8_odds wsX8_odds ({ frames := 3, cells := 0, slots := 0, locals := 69 }) (va_Pc [.ref (am 0), .int x1, .int x2, .int x3] (JH D (cW am cI cC cS) (cTy cI cC cS) st)) (JQ D (aA am 52) (cW am cI cC cS) (cTy cI cC cS) (some (.int rZ)) stZ) 0 0 (aA am 52) := by
  refine jStart (cc := cX8_odds) (maxL := 6) (ret := (some .int)) [.ref (am 0), .int x1, .int x2, .int x3] (by decide) rfl (Nat.le_of_ble_eq_true rfl) (fun p e s m below meth c ls hx hb hr hlocks hts hown hml hK hI hl => ?_)
  have hown : s.vm.findClass RX8 = some m.cls := hown
  replace hl : lv_has ls 6 [(0, .ref (am 0)), (1, .int x1), (2, .int x2), (3, .int x3)] := hl
  generalize hAV : ([.ref (am 0), .int x1, .int x2, .int x3] : List Value).toArray = AV at hts ⊢
  have f_0 := hts (.fieldLink RX8 19 "PuppetBar" "doll" "LPuppetBar$Doll;") (by decide +kernel)
  have f_1 := hts (.fieldLink RX8 29 "PuppetBar" "scene" "LPuppetBar$Scene;") (by decide +kernel)
  have f_2 := hts (.fieldLink RX8 65 "PuppetBar$Scene" "pose" "LPuppetBar$Pose;") (by decide +kernel)
  unfold jm_X8_odds at hM
  refine lv_aload_n hx hb dX8_odds_0 rfl (lv_at hl 0 rfl) ?_
  refine lv_iload_n hx hb dX8_odds_1 rfl (lv_at hl 1 rfl) ?_
  obtain ⟨v1, st2, hqv1, hM⟩ := bd_at hM
  refine jcallV (C := RX8) (As := [.int x1]) (rest := []) ⟨hx, hb, hml, hown, hts⟩ (jw_X8_isLimb D am cI cC cS hj N hqv1) (cwV 1 hts gX8_odds_X8_isLimb rfl rfl rfl yd_X8_isLimb ⟨Nat.le_of_ble_eq_true rfl, Nat.le_of_ble_eq_true rfl⟩) hK hI 0 (cg_0 am cI cC cS st) rfl rfl hl.1 rfl (Nat.le_of_ble_eq_true rfl) dX8_odds_2 (fun H locs hI => ?_)
  refine W.eq (g2 := F0 m 5 ls [.int v1]) rfl ?_
  refine lv_if_eq (tgt := 27) hx hb dX8_odds_5 (by decide) (fun c3 => ?_) (fun c3 => ?_)
  · replace hM := if_t c3 hM
    refine lv_iconst (v := (-1 : Int32)) hx hb dX8_odds_27 (by decide) ?_
    have hz := Option.some.inj hM
    exact W.iret hx hb hr (fun t ht hW => jq_i hK hI hz ht hW) hI.2.2.2 dX8_odds_28
  · replace hM := if_f c3 hM
    refine lv_iload_n hx hb dX8_odds_8 rfl (lv_at hl 2 rfl) ?_
    refine lv_if_lt (tgt := 27) hx hb dX8_odds_9 (by decide) (fun c4 => ?_) (fun c4 => ?_)
    · replace hM := if_t c4 hM
      refine lv_iconst (v := (-1 : Int32)) hx hb dX8_odds_27 (by decide) ?_
      have hz := Option.some.inj hM
      exact W.iret hx hb hr (fun t ht hW => jq_i hK hI hz ht hW) hI.2.2.2 dX8_odds_28
    · replace hM := if_f c4 hM
      refine lv_iload_n hx hb dX8_odds_12 rfl (lv_at hl 2 rfl) ?_
      refine lv_bipush (v := (10 : Int32)) hx hb dX8_odds_13 (by decide) ?_
      refine lv_icmp_gt (tgt := 27) hx hb dX8_odds_15 (by decide) (fun c5 => ?_) (fun c5 => ?_)
      · replace hM := if_t c5 hM
        refine lv_iconst (v := (-1 : Int32)) hx hb dX8_odds_27 (by decide) ?_
        have hz := Option.some.inj hM
        exact W.iret hx hb hr (fun t ht hW => jq_i hK hI hz ht hW) hI.2.2.2 dX8_odds_28
      · replace hM := if_f c5 hM
        refine lv_iload_n hx hb dX8_odds_18 rfl (lv_at hl 3 rfl) ?_
        refine lv_if_lt (tgt := 27) hx hb dX8_odds_19 (by decide) (fun c6 => ?_) (fun c6 => ?_)
        · replace hM := if_t c6 hM
          refine lv_iconst (v := (-1 : Int32)) hx hb dX8_odds_27 (by decide) ?_
          have hz := Option.some.inj hM
          exact W.iret hx hb hr (fun t ht hW => jq_i hK hI hz ht hW) hI.2.2.2 dX8_odds_28
        · replace hM := if_f c6 hM
          refine lv_iload_n hx hb dX8_odds_22 rfl (lv_at hl 3 rfl) ?_
          refine lv_iconst (v := (1 : Int32)) hx hb dX8_odds_23 (by decide) ?_
          refine lv_icmp_le (tgt := 29) hx hb dX8_odds_24 (by decide) (fun c7 => ?_) (fun c7 => ?_)
          · replace hM := if_t c7 hM
            refine lv_aload_n hx hb dX8_odds_29 rfl (lv_at hl 0 rfl) ?_
            refine va_get (D := D) (ci := 8) (v := .ref (am 17)) (C := RX8) (T := TX8) (N := 9) hx hb hts hi_X8_odds_X8 hown hK hI.1 0 (cg_0 am cI cC cS st2) rfl 1 (by decide) f_0 (fun _ h9 => h9) rfl dX8_odds_30 ?_
            refine lv_aload_n hx hb dX8_odds_33 rfl (lv_at hl 0 rfl) ?_
            refine va_get (D := D) (ci := 8) (v := .ref (am 37)) (C := RX8) (T := TX8) (N := 9) hx hb hts hi_X8_odds_X8 hown hK hI.1 0 (cg_0 am cI cC cS st2) rfl 3 (by decide) f_1 (fun _ h9 => h9) rfl dX8_odds_34 ?_
            refine va_get (D := D) (ci := 5) (v := .ref (am 38)) (C := RX5) (T := TX5) (N := 3) hx hb hts hi_X8_odds_X5 hown hK hI.1 37 (cg_37 am cI cC cS st2) rfl 0 (by decide) f_2 (fun _ h9 => h9) rfl dX8_odds_37 ?_
            refine lv_iload_n hx hb dX8_odds_40 rfl (lv_at hl 1 rfl) ?_
            obtain ⟨v8, st9, hqv8, hM⟩ := bd_at hM
            refine jcallV (C := RX0) (As := [.ref (am 38), .int x1]) (rest := []) ⟨hx, hb, hml, hown, hts⟩ (jw_X0_lifters D am cI cC cS hj N (show ck_Doll 17 by decide) (show ck_Pose 38 by decide) hqv8) (cwV 2 hts gX8_odds_X0_lifters rfl rfl rfl yd_X0_lifters ⟨Nat.le_of_ble_eq_true rfl, Nat.le_of_ble_eq_true rfl⟩) hK hI 17 (cg_17 am cI cC cS st2) rfl rfl hl.1 rfl (Nat.le_of_ble_eq_true rfl) dX8_odds_41 (fun H locs hI => ?_)
            refine W.eq (g2 := F0 m 44 ls [.int v8]) rfl ?_
            obtain ⟨v10, st11, hqv10, hM⟩ := bd_at hM
            refine jcallS (As := [.int v8]) (rest := []) ⟨hx, hb, hml, hown, hts⟩ (jw_J6_bitCount_0f7a4 D am cI cC cS hj N hqv10) (va_cwS 1 hts gX8_odds_J6_bitCount_0f7a4 rfl rfl rfl yd_J6_bitCount_0f7a4 ⟨Nat.le_of_ble_eq_true rfl, Nat.le_of_ble_eq_true rfl⟩) hK hI rfl hl.1 rfl (Nat.le_of_ble_eq_true rfl) dX8_odds_44 (fun H locs hI => ?_)
            refine W.eq (g2 := F0 m 47 ls [.int v10]) rfl ?_
            refine lv_istore (lv' := [(4, .int v10), (0, .ref (am 0)), (1, .int x1), (2, .int x2), (3, .int x3)]) hx hb dX8_odds_47 hl (by decide) rfl (fun ls hl => ?_)
            refine lv_iload_n hx hb dX8_odds_49 rfl (lv_at hl 3 rfl) ?_
            obtain ⟨v12, st13, hqv12, hM⟩ := bd_at hM
            refine jcallS (As := [.int x2]) (rest := []) ⟨hx, hb, hml, hown, hts⟩ (jw_X8_greatestSharedDivisor D am cI cC cS hj N hqv12) (va_cwS 1 hts gX8_odds_X8_greatestSharedDivisor rfl rfl rfl yd_X8_greatestSharedDivisor ⟨Nat.le_of_ble_eq_true rfl, Nat.le_of_ble_eq_true rfl⟩) hK hI rfl hl.1 rfl (Nat.le_of_ble_eq_true rfl) dX8_odds_50 (fun H locs hI => ?_)
            refine W.eq (g2 := F0 m 53 ls [.int v12]) rfl ?_
            refine lv_istore (lv' := [(5, .int v12), (4, .int v10), (0, .ref (am 0)), (1, .int x1), (2, .int x2), (3, .int x3)]) hx hb dX8_odds_53 hl (by decide) rfl (fun ls hl => ?_)
            refine lv_iload_n hx hb dX8_odds_55 rfl (lv_at hl 5 rfl) ?_
            refine lv_if_ne (tgt := 66) hx hb dX8_odds_56 (by decide) (fun c14 => ?_) (fun c14 => ?_)
            · replace hM := if_f c14 hM
              refine lv_bipush (v := (10 : Int32)) hx hb dX8_odds_66 (by decide) ?_
              refine lv_iload hx hb dX8_odds_68 (lv_at hl 0 rfl) ?_
              obtain ⟨g15, hM⟩ := gd_at hM
              refine lv_idiv hx hb dX8_odds_70 (nzB_ne g15) ?_
              refine lv_iload hx hb dX8_odds_71 (lv_at hl 1 rfl) ?_
              obtain ⟨v16, st17, hqv16, hM⟩ := bd_at hM
              refine jcallS (As := [.int ((10 : Int32) / v12), .int v10]) (rest := []) ⟨hx, hb, hml, hown, hts⟩ (jw_X8_power D am cI cC cS hj N hqv16) (va_cwS 2 hts gX8_odds_X8_power rfl rfl rfl yd_X8_power ⟨Nat.le_of_ble_eq_true rfl, Nat.le_of_ble_eq_true rfl⟩) hK hI rfl hl.1 rfl (Nat.le_of_ble_eq_true rfl) dX8_odds_73 (fun H locs hI => ?_)
              refine W.eq (g2 := F0 m 76 ls [.int v16]) rfl ?_
              have hz := Option.some.inj hM
              exact W.iret hx hb hr (fun t ht hW => jq_i hK hI hz ht hW) hI.2.2.2 dX8_odds_76
            · replace hM := if_t c14 hM
              refine lv_iload_n hx hb dX8_odds_59 rfl (lv_at hl 4 rfl) ?_
              refine lv_iload hx hb dX8_odds_60 (lv_at hl 0 rfl) ?_
              obtain ⟨g18, hM⟩ := gd_at hM
              refine lv_idiv hx hb dX8_odds_62 (nzB_ne g18) ?_
              refine lv_goto (tgt := 71) hx hb dX8_odds_63 (by decide) ?_
              refine lv_iload hx hb dX8_odds_71 (lv_at hl 1 rfl) ?_
              obtain ⟨v19, st20, hqv19, hM⟩ := bd_at hM
              refine jcallS (As := [.int (x2 / v12), .int v10]) (rest := []) ⟨hx, hb, hml, hown, hts⟩ (jw_X8_power D am cI cC cS hj N hqv19) (va_cwS 2 hts gX8_odds_X8_power rfl rfl rfl yd_X8_power ⟨Nat.le_of_ble_eq_true rfl, Nat.le_of_ble_eq_true rfl⟩) hK hI rfl hl.1 rfl (Nat.le_of_ble_eq_true rfl) dX8_odds_73 (fun H locs hI => ?_)
              refine W.eq (g2 := F0 m 76 ls [.int v19]) rfl ?_
              have hz := Option.some.inj hM
              exact W.iret hx hb hr (fun t ht hW => jq_i hK hI hz ht hW) hI.2.2.2 dX8_odds_76
          · replace hM := if_f c7 hM
            refine lv_iconst (v := (-1 : Int32)) hx hb dX8_odds_27 (by decide) ?_
            have hz := Option.some.inj hM
            exact W.iret hx hb hr (fun t ht hW => jq_i hK hI hz ht hW) hI.2.2.2 dX8_odds_28
set_option maxRecDepth 20000 in
theorem hi_X8_saw_X8 : ∀ w ∈ wsX80, w ∈ wsX8_saw := by decide +kernel
set_option maxHeartbeats 4000000 in
set_option maxRecDepth 100000 in
theorem jw_X8_saw {l : Launch} (D : va_G) (am : Nat → Nat) (cI cC cS : ClassId) (hj : aJ am 52) (N : Nat) {x1 : Int32} {x2 : Int32} {st stZ : PS} {rZ : Int32} (hM : jm_X8_saw N x1 x2 st = some (rZ, stZ)) : Met l yX8_saw wsX8_saw ({ frames := 1, cells := 0, slots := 0, locals := 22 }) (va_Pc [.ref (am 0), .int x1, .int x2] (JH D (cW am cI cC cS) (cTy cI cC cS) st)) (JQ D (aA am 52) (cW am cI cC cS) (cTy cI cC cS) (some (.int rZ)) stZ) 0 0 (aA am 52) := by
  refine jStart (cc := cX8_saw) (maxL := 3) (ret := (some .int)) [.ref (am 0), .int x1, .int x2] (by decide) rfl (Nat.le_of_ble_eq_true rfl) (fun p e s m below meth c ls hx hb hr hlocks hts hown hml hK hI hl => ?_)
  have hown : s.vm.findClass RX8 = some m.cls := hown
  replace hl : lv_has ls 3 [(0, .ref (am 0)), (1, .int x1), (2, .int x2)] := hl
  generalize hAV : ([.ref (am 0), .int x1, .int x2] : List Value).toArray = AV at hts ⊢
  have f_0 := hts (.fieldLink RX8 40 "PuppetBar" "sight" "LPuppetBar$Sight;") (by decide +kernel)
  unfold jm_X8_saw at hM
  refine lv_aload_n hx hb dX8_saw_0 rfl (lv_at hl 0 rfl) ?_
  refine lv_iload_n hx hb dX8_saw_1 rfl (lv_at hl 1 rfl) ?_
  obtain ⟨v1, st2, hqv1, hM⟩ := bd_at hM
  refine jcallV (C := RX8) (As := [.int x1]) (rest := []) ⟨hx, hb, hml, hown, hts⟩ (jw_X8_isLimb D am cI cC cS hj N hqv1) (cwV 1 hts gX8_saw_X8_isLimb rfl rfl rfl yd_X8_isLimb ⟨Nat.le_of_ble_eq_true rfl, Nat.le_of_ble_eq_true rfl⟩) hK hI 0 (cg_0 am cI cC cS st) rfl rfl hl.1 rfl (Nat.le_of_ble_eq_true rfl) dX8_saw_2 (fun H locs hI => ?_)
  refine W.eq (g2 := F0 m 5 ls [.int v1]) rfl ?_
  refine lv_if_eq (tgt := 18) hx hb dX8_saw_5 (by decide) (fun c3 => ?_) (fun c3 => ?_)
  · replace hM := if_t c3 hM
    refine lv_iconst (v := (-1 : Int32)) hx hb dX8_saw_18 (by decide) ?_
    have hz := Option.some.inj hM
    exact W.iret hx hb hr (fun t ht hW => jq_i hK hI hz ht hW) hI.2.2.2 dX8_saw_19
  · replace hM := if_f c3 hM
    refine lv_iload_n hx hb dX8_saw_8 rfl (lv_at hl 2 rfl) ?_
    refine lv_if_lt (tgt := 18) hx hb dX8_saw_9 (by decide) (fun c4 => ?_) (fun c4 => ?_)
    · replace hM := if_t c4 hM
      refine lv_iconst (v := (-1 : Int32)) hx hb dX8_saw_18 (by decide) ?_
      have hz := Option.some.inj hM
      exact W.iret hx hb hr (fun t ht hW => jq_i hK hI hz ht hW) hI.2.2.2 dX8_saw_19
    · replace hM := if_f c4 hM
      refine lv_iload_n hx hb dX8_saw_12 rfl (lv_at hl 2 rfl) ?_
      refine lv_bipush (v := (49 : Int32)) hx hb dX8_saw_13 (by decide) ?_
      refine lv_icmp_le (tgt := 20) hx hb dX8_saw_15 (by decide) (fun c5 => ?_) (fun c5 => ?_)
      · replace hM := if_t c5 hM
        refine lv_aload_n hx hb dX8_saw_20 rfl (lv_at hl 0 rfl) ?_
        refine va_get (D := D) (ci := 8) (v := .ref (am 9)) (C := RX8) (T := TX8) (N := 9) hx hb hts hi_X8_saw_X8 hown hK hI.1 0 (cg_0 am cI cC cS st2) rfl 5 (by decide) f_0 (fun _ h9 => h9) rfl dX8_saw_21 ?_
        refine lv_iload_n hx hb dX8_saw_24 rfl (lv_at hl 1 rfl) ?_
        refine lv_iload_n hx hb dX8_saw_25 rfl (lv_at hl 2 rfl) ?_
        obtain ⟨v6, st7, hqv6, hM⟩ := bd_at hM
        refine jcallV (C := RX7) (As := [.int x1, .int x2]) (rest := []) ⟨hx, hb, hml, hown, hts⟩ (jw_X7_add D am cI cC cS hj N hqv6) (cwV 2 hts gX8_saw_X7_add rfl rfl rfl yd_X7_add ⟨Nat.le_of_ble_eq_true rfl, Nat.le_of_ble_eq_true rfl⟩) hK hI 9 (cg_9 am cI cC cS st2) rfl rfl hl.1 rfl (Nat.le_of_ble_eq_true rfl) dX8_saw_26 (fun H locs hI => ?_)
        refine W.eq (g2 := F0 m 29 ls [.int v6]) rfl ?_
        refine lv_if_eq (tgt := 42) hx hb dX8_saw_29 (by decide) (fun c8 => ?_) (fun c8 => ?_)
        · replace hM := if_t c8 hM
          refine lv_bipush (v := (-3 : Int32)) hx hb dX8_saw_42 (by decide) ?_
          have hz := Option.some.inj hM
          exact W.iret hx hb hr (fun t ht hW => jq_i hK hI hz ht hW) hI.2.2.2 dX8_saw_44
        · replace hM := if_f c8 hM
          refine lv_aload_n hx hb dX8_saw_32 rfl (lv_at hl 0 rfl) ?_
          refine va_get (D := D) (ci := 8) (v := .ref (am 9)) (C := RX8) (T := TX8) (N := 9) hx hb hts hi_X8_saw_X8 hown hK hI.1 0 (cg_0 am cI cC cS st7) rfl 5 (by decide) f_0 (fun _ h9 => h9) rfl dX8_saw_33 ?_
          obtain ⟨v9, st10, hqv9, hM⟩ := bd_at hM
          refine jcallV (C := RX7) (As := []) (rest := []) ⟨hx, hb, hml, hown, hts⟩ (jw_X7_size D am cI cC cS hj N hqv9) (cwV 0 hts gX8_saw_X7_size rfl rfl rfl yd_X7_size ⟨Nat.le_of_ble_eq_true rfl, Nat.le_of_ble_eq_true rfl⟩) hK hI 9 (cg_9 am cI cC cS st7) rfl rfl hl.1 rfl (Nat.le_of_ble_eq_true rfl) dX8_saw_36 (fun H locs hI => ?_)
          refine W.eq (g2 := F0 m 39 ls [.int v9]) rfl ?_
          refine lv_goto (tgt := 44) hx hb dX8_saw_39 (by decide) ?_
          have hz := Option.some.inj hM
          exact W.iret hx hb hr (fun t ht hW => jq_i hK hI hz ht hW) hI.2.2.2 dX8_saw_44
      · replace hM := if_f c5 hM
        refine lv_iconst (v := (-1 : Int32)) hx hb dX8_saw_18 (by decide) ?_
        have hz := Option.some.inj hM
        exact W.iret hx hb hr (fun t ht hW => jq_i hK hI hz ht hW) hI.2.2.2 dX8_saw_19
set_option maxRecDepth 20000 in
theorem hi_X8_forget_X8 : ∀ w ∈ wsX80, w ∈ wsX8_forget := by decide +kernel
set_option maxHeartbeats 4000000 in
set_option maxRecDepth 100000 in
theorem jw_X8_forget {l : Launch} (D : va_G) (am : Nat → Nat) (cI cC cS : ClassId) (hj : aJ am 52) (N : Nat) {st stZ : PS} {rZ : Int32} (hM : jm_X8_forget N st = some (rZ, stZ)) : Met l yX8_forget wsX8_forget ({ frames := 1, cells := 0, slots := 0, locals := 21 }) (va_Pc [.ref (am 0)] (JH D (cW am cI cC cS) (cTy cI cC cS) st)) (JQ D (aA am 52) (cW am cI cC cS) (cTy cI cC cS) (some (.int rZ)) stZ) 0 0 (aA am 52) := by
  refine jStart (cc := cX8_forget) (maxL := 1) (ret := (some .int)) [.ref (am 0)] (by decide) rfl (Nat.le_of_ble_eq_true rfl) (fun p e s m below meth c ls hx hb hr hlocks hts hown hml hK hI hl => ?_)
  have hown : s.vm.findClass RX8 = some m.cls := hown
  replace hl : lv_has ls 1 [(0, .ref (am 0))] := hl
  generalize hAV : ([.ref (am 0)] : List Value).toArray = AV at hts ⊢
  have f_0 := hts (.fieldLink RX8 40 "PuppetBar" "sight" "LPuppetBar$Sight;") (by decide +kernel)
  unfold jm_X8_forget at hM
  refine lv_aload_n hx hb dX8_forget_0 rfl (lv_at hl 0 rfl) ?_
  refine va_get (D := D) (ci := 8) (v := .ref (am 9)) (C := RX8) (T := TX8) (N := 9) hx hb hts hi_X8_forget_X8 hown hK hI.1 0 (cg_0 am cI cC cS st) rfl 5 (by decide) f_0 (fun _ h9 => h9) rfl dX8_forget_1 ?_
  obtain ⟨v1, st2, hqv1, hM⟩ := bd_at hM
  refine jcallV (C := RX7) (As := []) (rest := []) ⟨hx, hb, hml, hown, hts⟩ (jw_X7_empty D am cI cC cS hj N hqv1) (cwV 0 hts gX8_forget_X7_empty rfl rfl rfl yd_X7_empty ⟨Nat.le_of_ble_eq_true rfl, Nat.le_of_ble_eq_true rfl⟩) hK hI 9 (cg_9 am cI cC cS st) rfl rfl hl.1 rfl (Nat.le_of_ble_eq_true rfl) dX8_forget_4 (fun H locs hI => ?_)
  refine W.eq (g2 := F0 m 7 ls [.int v1]) rfl ?_
  have hz := Option.some.inj hM
  exact W.iret hx hb hr (fun t ht hW => jq_i hK hI hz ht hW) hI.2.2.2 dX8_forget_7
set_option maxRecDepth 20000 in
theorem hi_X8_suspects_X8 : ∀ w ∈ wsX80, w ∈ wsX8_suspects := by decide +kernel
set_option maxRecDepth 20000 in
theorem hi_X8_suspects_X5 : ∀ w ∈ wsX50, w ∈ wsX8_suspects := by decide +kernel
set_option maxHeartbeats 4000000 in
set_option maxRecDepth 100000 in
theorem jw_X8_suspects {l : Launch} (D : va_G) (am : Nat → Nat) (cI cC cS : ClassId) (hj : aJ am 52) (N : Nat) {st stZ : PS} {rZ : Int32} (hM : jm_X8_suspects N st = some (rZ, stZ)) : Met l yX8_suspects wsX8_suspects ({ frames := 5, cells := 0, slots := 0, locals := 117 }) (va_Pc [.ref (am 0)] (JH D (cW am cI cC cS) (cTy cI cC cS) st)) (JQ D (aA am 52) (cW am cI cC cS) (cTy cI cC cS) (some (.int rZ)) stZ) 0 0 (aA am 52) := by
  refine jStart (cc := cX8_suspects) (maxL := 1) (ret := (some .int)) [.ref (am 0)] (by decide) rfl (Nat.le_of_ble_eq_true rfl) (fun p e s m below meth c ls hx hb hr hlocks hts hown hml hK hI hl => ?_)
  have hown : s.vm.findClass RX8 = some m.cls := hown
  replace hl : lv_has ls 1 [(0, .ref (am 0))] := hl
  generalize hAV : ([.ref (am 0)] : List Value).toArray = AV at hts ⊢
  have f_0 := hts (.fieldLink RX8 40 "PuppetBar" "sight" "LPuppetBar$Sight;") (by decide +kernel)
  have f_1 := hts (.fieldLink RX8 19 "PuppetBar" "doll" "LPuppetBar$Doll;") (by decide +kernel)
  have f_2 := hts (.fieldLink RX8 29 "PuppetBar" "scene" "LPuppetBar$Scene;") (by decide +kernel)
  have f_3 := hts (.fieldLink RX8 65 "PuppetBar$Scene" "pose" "LPuppetBar$Pose;") (by decide +kernel)
  unfold jm_X8_suspects at hM
  refine lv_aload_n hx hb dX8_suspects_0 rfl (lv_at hl 0 rfl) ?_
  refine va_get (D := D) (ci := 8) (v := .ref (am 9)) (C := RX8) (T := TX8) (N := 9) hx hb hts hi_X8_suspects_X8 hown hK hI.1 0 (cg_0 am cI cC cS st) rfl 5 (by decide) f_0 (fun _ h9 => h9) rfl dX8_suspects_1 ?_
  refine lv_aload_n hx hb dX8_suspects_4 rfl (lv_at hl 0 rfl) ?_
  refine va_get (D := D) (ci := 8) (v := .ref (am 17)) (C := RX8) (T := TX8) (N := 9) hx hb hts hi_X8_suspects_X8 hown hK hI.1 0 (cg_0 am cI cC cS st) rfl 1 (by decide) f_1 (fun _ h9 => h9) rfl dX8_suspects_5 ?_
  refine lv_aload_n hx hb dX8_suspects_8 rfl (lv_at hl 0 rfl) ?_
  refine va_get (D := D) (ci := 8) (v := .ref (am 37)) (C := RX8) (T := TX8) (N := 9) hx hb hts hi_X8_suspects_X8 hown hK hI.1 0 (cg_0 am cI cC cS st) rfl 3 (by decide) f_2 (fun _ h9 => h9) rfl dX8_suspects_9 ?_
  refine va_get (D := D) (ci := 5) (v := .ref (am 38)) (C := RX5) (T := TX5) (N := 3) hx hb hts hi_X8_suspects_X5 hown hK hI.1 37 (cg_37 am cI cC cS st) rfl 0 (by decide) f_3 (fun _ h9 => h9) rfl dX8_suspects_12 ?_
  obtain ⟨v1, st2, hqv1, hM⟩ := bd_at hM
  refine jcallV (C := RX7) (As := [.ref (am 17), .ref (am 38)]) (rest := []) ⟨hx, hb, hml, hown, hts⟩ (jw_X7_suspected D am cI cC cS hj N (show ck_Doll 17 by decide) (show ck_Pose 38 by decide) hqv1) (cwV 2 hts gX8_suspects_X7_suspected rfl rfl rfl yd_X7_suspected ⟨Nat.le_of_ble_eq_true rfl, Nat.le_of_ble_eq_true rfl⟩) hK hI 9 (cg_9 am cI cC cS st) rfl rfl hl.1 rfl (Nat.le_of_ble_eq_true rfl) dX8_suspects_15 (fun H locs hI => ?_)
  refine W.eq (g2 := F0 m 18 ls [.int v1]) rfl ?_
  have hz := Option.some.inj hM
  exact W.iret hx hb hr (fun t ht hW => jq_i hK hI hz ht hW) hI.2.2.2 dX8_suspects_18
set_option maxRecDepth 20000 in
theorem hi_X8_holes_X8 : ∀ w ∈ wsX80, w ∈ wsX8_holes := by decide +kernel
set_option maxRecDepth 20000 in
theorem hi_X8_holes_X5 : ∀ w ∈ wsX50, w ∈ wsX8_holes := by decide +kernel
set_option maxHeartbeats 4000000 in
set_option maxRecDepth 100000 in
theorem jw_X8_holes {l : Launch} (D : va_G) (am : Nat → Nat) (cI cC cS : ClassId) (hj : aJ am 52) (N : Nat) {x1 : Int32} {st stZ : PS} {rZ : Int32} (hM : jm_X8_holes N x1 st = some (rZ, stZ)) : Met l yX8_holes wsX8_holes ({ frames := 5, cells := 0, slots := 0, locals := 117 }) (va_Pc [.ref (am 0), .int x1] (JH D (cW am cI cC cS) (cTy cI cC cS) st)) (JQ D (aA am 52) (cW am cI cC cS) (cTy cI cC cS) (some (.int rZ)) stZ) 0 0 (aA am 52) := by
  refine jStart (cc := cX8_holes) (maxL := 2) (ret := (some .int)) [.ref (am 0), .int x1] (by decide) rfl (Nat.le_of_ble_eq_true rfl) (fun p e s m below meth c ls hx hb hr hlocks hts hown hml hK hI hl => ?_)
  have hown : s.vm.findClass RX8 = some m.cls := hown
  replace hl : lv_has ls 2 [(0, .ref (am 0)), (1, .int x1)] := hl
  generalize hAV : ([.ref (am 0), .int x1] : List Value).toArray = AV at hts ⊢
  have f_0 := hts (.fieldLink RX8 29 "PuppetBar" "scene" "LPuppetBar$Scene;") (by decide +kernel)
  have f_1 := hts (.fieldLink RX8 65 "PuppetBar$Scene" "pose" "LPuppetBar$Pose;") (by decide +kernel)
  have f_2 := hts (.fieldLink RX8 40 "PuppetBar" "sight" "LPuppetBar$Sight;") (by decide +kernel)
  have f_3 := hts (.fieldLink RX8 19 "PuppetBar" "doll" "LPuppetBar$Doll;") (by decide +kernel)
  unfold jm_X8_holes at hM
  refine lv_aload_n hx hb dX8_holes_0 rfl (lv_at hl 0 rfl) ?_
  refine lv_iload_n hx hb dX8_holes_1 rfl (lv_at hl 1 rfl) ?_
  obtain ⟨v1, st2, hqv1, hM⟩ := bd_at hM
  refine jcallV (C := RX8) (As := [.int x1]) (rest := []) ⟨hx, hb, hml, hown, hts⟩ (jw_X8_isString D am cI cC cS hj N hqv1) (cwV 1 hts gX8_holes_X8_isString rfl rfl rfl yd_X8_isString ⟨Nat.le_of_ble_eq_true rfl, Nat.le_of_ble_eq_true rfl⟩) hK hI 0 (cg_0 am cI cC cS st) rfl rfl hl.1 rfl (Nat.le_of_ble_eq_true rfl) dX8_holes_2 (fun H locs hI => ?_)
  refine W.eq (g2 := F0 m 5 ls [.int v1]) rfl ?_
  refine lv_if_ne (tgt := 10) hx hb dX8_holes_5 (by decide) (fun c3 => ?_) (fun c3 => ?_)
  · replace hM := if_f c3 hM
    refine lv_aload_n hx hb dX8_holes_10 rfl (lv_at hl 0 rfl) ?_
    refine va_get (D := D) (ci := 8) (v := .ref (am 37)) (C := RX8) (T := TX8) (N := 9) hx hb hts hi_X8_holes_X8 hown hK hI.1 0 (cg_0 am cI cC cS st2) rfl 3 (by decide) f_0 (fun _ h9 => h9) rfl dX8_holes_11 ?_
    refine va_get (D := D) (ci := 5) (v := .ref (am 38)) (C := RX5) (T := TX5) (N := 3) hx hb hts hi_X8_holes_X5 hown hK hI.1 37 (cg_37 am cI cC cS st2) rfl 0 (by decide) f_1 (fun _ h9 => h9) rfl dX8_holes_14 ?_
    refine lv_iload_n hx hb dX8_holes_17 rfl (lv_at hl 1 rfl) ?_
    obtain ⟨v4, st5, hqv4, hM⟩ := bd_at hM
    refine jcallV (C := RX4) (As := [.int x1]) (rest := []) ⟨hx, hb, hml, hown, hts⟩ (jw_X4_isCut D am cI cC cS hj N (show ck_Pose 38 by decide) hqv4) (cwV 1 hts gX8_holes_X4_isCut rfl rfl rfl yd_X4_isCut ⟨Nat.le_of_ble_eq_true rfl, Nat.le_of_ble_eq_true rfl⟩) hK hI 38 (cg_38 am cI cC cS st2) rfl rfl hl.1 rfl (Nat.le_of_ble_eq_true rfl) dX8_holes_18 (fun H locs hI => ?_)
    refine W.eq (g2 := F0 m 21 ls [.int v4]) rfl ?_
    refine lv_if_eq (tgt := 29) hx hb dX8_holes_21 (by decide) (fun c6 => ?_) (fun c6 => ?_)
    · replace hM := if_t c6 hM
      refine lv_aload_n hx hb dX8_holes_29 rfl (lv_at hl 0 rfl) ?_
      refine va_get (D := D) (ci := 8) (v := .ref (am 9)) (C := RX8) (T := TX8) (N := 9) hx hb hts hi_X8_holes_X8 hown hK hI.1 0 (cg_0 am cI cC cS st5) rfl 5 (by decide) f_2 (fun _ h9 => h9) rfl dX8_holes_30 ?_
      refine lv_aload_n hx hb dX8_holes_33 rfl (lv_at hl 0 rfl) ?_
      refine va_get (D := D) (ci := 8) (v := .ref (am 17)) (C := RX8) (T := TX8) (N := 9) hx hb hts hi_X8_holes_X8 hown hK hI.1 0 (cg_0 am cI cC cS st5) rfl 1 (by decide) f_3 (fun _ h9 => h9) rfl dX8_holes_34 ?_
      refine lv_aload_n hx hb dX8_holes_37 rfl (lv_at hl 0 rfl) ?_
      refine va_get (D := D) (ci := 8) (v := .ref (am 37)) (C := RX8) (T := TX8) (N := 9) hx hb hts hi_X8_holes_X8 hown hK hI.1 0 (cg_0 am cI cC cS st5) rfl 3 (by decide) f_0 (fun _ h9 => h9) rfl dX8_holes_38 ?_
      refine va_get (D := D) (ci := 5) (v := .ref (am 38)) (C := RX5) (T := TX5) (N := 3) hx hb hts hi_X8_holes_X5 hown hK hI.1 37 (cg_37 am cI cC cS st5) rfl 0 (by decide) f_1 (fun _ h9 => h9) rfl dX8_holes_41 ?_
      refine lv_iload_n hx hb dX8_holes_44 rfl (lv_at hl 1 rfl) ?_
      obtain ⟨v7, st8, hqv7, hM⟩ := bd_at hM
      refine jcallV (C := RX7) (As := [.ref (am 17), .ref (am 38), .int x1]) (rest := []) ⟨hx, hb, hml, hown, hts⟩ (jw_X7_fittingHoles D am cI cC cS hj N (show ck_Doll 17 by decide) (show ck_Pose 38 by decide) hqv7) (cwV 3 hts gX8_holes_X7_fittingHoles rfl rfl rfl yd_X7_fittingHoles ⟨Nat.le_of_ble_eq_true rfl, Nat.le_of_ble_eq_true rfl⟩) hK hI 9 (cg_9 am cI cC cS st5) rfl rfl hl.1 rfl (Nat.le_of_ble_eq_true rfl) dX8_holes_45 (fun H locs hI => ?_)
      refine W.eq (g2 := F0 m 48 ls [.int v7]) rfl ?_
      have hz := Option.some.inj hM
      exact W.iret hx hb hr (fun t ht hW => jq_i hK hI hz ht hW) hI.2.2.2 dX8_holes_48
    · replace hM := if_f c6 hM
      refine lv_bipush (v := (-2 : Int32)) hx hb dX8_holes_24 (by decide) ?_
      refine lv_goto (tgt := 48) hx hb dX8_holes_26 (by decide) ?_
      have hz := Option.some.inj hM
      exact W.iret hx hb hr (fun t ht hW => jq_i hK hI hz ht hW) hI.2.2.2 dX8_holes_48
  · replace hM := if_t c3 hM
    refine lv_iconst (v := (-1 : Int32)) hx hb dX8_holes_8 (by decide) ?_
    have hz := Option.some.inj hM
    exact W.iret hx hb hr (fun t ht hW => jq_i hK hI hz ht hW) hI.2.2.2 dX8_holes_9
set_option maxRecDepth 20000 in
theorem hi_X8_look_X8 : ∀ w ∈ wsX80, w ∈ wsX8_look := by decide +kernel
set_option maxRecDepth 20000 in
theorem hi_X8_look_X5 : ∀ w ∈ wsX50, w ∈ wsX8_look := by decide +kernel
set_option maxHeartbeats 4000000 in
set_option maxRecDepth 100000 in
theorem jw_X8_look {l : Launch} (D : va_G) (am : Nat → Nat) (cI cC cS : ClassId) (hj : aJ am 52) (N : Nat) {st stZ : PS} {rZ : Int32} (hM : jm_X8_look N st = some (rZ, stZ)) : Met l yX8_look wsX8_look ({ frames := 6, cells := 0, slots := 0, locals := 144 }) (va_Pc [.ref (am 0)] (JH D (cW am cI cC cS) (cTy cI cC cS) st)) (JQ D (aA am 52) (cW am cI cC cS) (cTy cI cC cS) (some (.int rZ)) stZ) 0 0 (aA am 52) := by
  refine jStart (cc := cX8_look) (maxL := 1) (ret := (some .int)) [.ref (am 0)] (by decide) rfl (Nat.le_of_ble_eq_true rfl) (fun p e s m below meth c ls hx hb hr hlocks hts hown hml hK hI hl => ?_)
  have hown : s.vm.findClass RX8 = some m.cls := hown
  replace hl : lv_has ls 1 [(0, .ref (am 0))] := hl
  generalize hAV : ([.ref (am 0)] : List Value).toArray = AV at hts ⊢
  have f_0 := hts (.fieldLink RX8 40 "PuppetBar" "sight" "LPuppetBar$Sight;") (by decide +kernel)
  have f_1 := hts (.fieldLink RX8 19 "PuppetBar" "doll" "LPuppetBar$Doll;") (by decide +kernel)
  have f_2 := hts (.fieldLink RX8 29 "PuppetBar" "scene" "LPuppetBar$Scene;") (by decide +kernel)
  have f_3 := hts (.fieldLink RX8 65 "PuppetBar$Scene" "pose" "LPuppetBar$Pose;") (by decide +kernel)
  unfold jm_X8_look at hM
  refine lv_aload_n hx hb dX8_look_0 rfl (lv_at hl 0 rfl) ?_
  refine va_get (D := D) (ci := 8) (v := .ref (am 9)) (C := RX8) (T := TX8) (N := 9) hx hb hts hi_X8_look_X8 hown hK hI.1 0 (cg_0 am cI cC cS st) rfl 5 (by decide) f_0 (fun _ h9 => h9) rfl dX8_look_1 ?_
  refine lv_aload_n hx hb dX8_look_4 rfl (lv_at hl 0 rfl) ?_
  refine va_get (D := D) (ci := 8) (v := .ref (am 17)) (C := RX8) (T := TX8) (N := 9) hx hb hts hi_X8_look_X8 hown hK hI.1 0 (cg_0 am cI cC cS st) rfl 1 (by decide) f_1 (fun _ h9 => h9) rfl dX8_look_5 ?_
  refine lv_aload_n hx hb dX8_look_8 rfl (lv_at hl 0 rfl) ?_
  refine va_get (D := D) (ci := 8) (v := .ref (am 37)) (C := RX8) (T := TX8) (N := 9) hx hb hts hi_X8_look_X8 hown hK hI.1 0 (cg_0 am cI cC cS st) rfl 3 (by decide) f_2 (fun _ h9 => h9) rfl dX8_look_9 ?_
  refine va_get (D := D) (ci := 5) (v := .ref (am 38)) (C := RX5) (T := TX5) (N := 3) hx hb hts hi_X8_look_X5 hown hK hI.1 37 (cg_37 am cI cC cS st) rfl 0 (by decide) f_3 (fun _ h9 => h9) rfl dX8_look_12 ?_
  obtain ⟨v1, st2, hqv1, hM⟩ := bd_at hM
  refine jcallV (C := RX7) (As := [.ref (am 17), .ref (am 38)]) (rest := []) ⟨hx, hb, hml, hown, hts⟩ (jw_X7_limbToLookAt D am cI cC cS hj N (show ck_Doll 17 by decide) (show ck_Pose 38 by decide) hqv1) (cwV 2 hts gX8_look_X7_limbToLookAt rfl rfl rfl yd_X7_limbToLookAt ⟨Nat.le_of_ble_eq_true rfl, Nat.le_of_ble_eq_true rfl⟩) hK hI 9 (cg_9 am cI cC cS st) rfl rfl hl.1 rfl (Nat.le_of_ble_eq_true rfl) dX8_look_15 (fun H locs hI => ?_)
  refine W.eq (g2 := F0 m 18 ls [.int v1]) rfl ?_
  have hz := Option.some.inj hM
  exact W.iret hx hb hr (fun t ht hW => jq_i hK hI hz ht hW) hI.2.2.2 dX8_look_18
set_option maxRecDepth 20000 in
theorem hi_X8_mark_X8 : ∀ w ∈ wsX80, w ∈ wsX8_mark := by decide +kernel
set_option maxRecDepth 20000 in
theorem hi_X8_mark_X5 : ∀ w ∈ wsX50, w ∈ wsX8_mark := by decide +kernel
set_option maxHeartbeats 4000000 in
set_option maxRecDepth 100000 in
theorem jw_X8_mark {l : Launch} (D : va_G) (am : Nat → Nat) (cI cC cS : ClassId) (hj : aJ am 52) (N : Nat) {x1 : Int32} {x2 : Int32} {st stZ : PS} {rZ : Int32} (hM : jm_X8_mark N x1 x2 st = some (rZ, stZ)) : Met l yX8_mark wsX8_mark ({ frames := 6, cells := 0, slots := 0, locals := 138 }) (va_Pc [.ref (am 0), .int x1, .int x2] (JH D (cW am cI cC cS) (cTy cI cC cS) st)) (JQ D (aA am 52) (cW am cI cC cS) (cTy cI cC cS) (some (.int rZ)) stZ) 0 0 (aA am 52) := by
  refine jStart (cc := cX8_mark) (maxL := 3) (ret := (some .int)) [.ref (am 0), .int x1, .int x2] (by decide) rfl (Nat.le_of_ble_eq_true rfl) (fun p e s m below meth c ls hx hb hr hlocks hts hown hml hK hI hl => ?_)
  have hown : s.vm.findClass RX8 = some m.cls := hown
  replace hl : lv_has ls 3 [(0, .ref (am 0)), (1, .int x1), (2, .int x2)] := hl
  generalize hAV : ([.ref (am 0), .int x1, .int x2] : List Value).toArray = AV at hts ⊢
  have f_0 := hts (.fieldLink RX8 54 "PuppetBar" "kinds" "LPuppetBar$Kinds;") (by decide +kernel)
  have f_1 := hts (.fieldLink RX8 19 "PuppetBar" "doll" "LPuppetBar$Doll;") (by decide +kernel)
  have f_2 := hts (.fieldLink RX8 29 "PuppetBar" "scene" "LPuppetBar$Scene;") (by decide +kernel)
  have f_3 := hts (.fieldLink RX8 65 "PuppetBar$Scene" "pose" "LPuppetBar$Pose;") (by decide +kernel)
  have f_4 := hts (.constant RX8 124 (-1000000)) (by decide +kernel)
  unfold jm_X8_mark at hM
  refine lv_aload_n hx hb dX8_mark_0 rfl (lv_at hl 0 rfl) ?_
  refine lv_iload_n hx hb dX8_mark_1 rfl (lv_at hl 2 rfl) ?_
  obtain ⟨v1, st2, hqv1, hM⟩ := bd_at hM
  refine jcallV (C := RX8) (As := [.int x2]) (rest := []) ⟨hx, hb, hml, hown, hts⟩ (jw_X8_isLimb D am cI cC cS hj N hqv1) (cwV 1 hts gX8_mark_X8_isLimb rfl rfl rfl yd_X8_isLimb ⟨Nat.le_of_ble_eq_true rfl, Nat.le_of_ble_eq_true rfl⟩) hK hI 0 (cg_0 am cI cC cS st) rfl rfl hl.1 rfl (Nat.le_of_ble_eq_true rfl) dX8_mark_2 (fun H locs hI => ?_)
  refine W.eq (g2 := F0 m 5 ls [.int v1]) rfl ?_
  refine lv_if_ne (tgt := 11) hx hb dX8_mark_5 (by decide) (fun c3 => ?_) (fun c3 => ?_)
  · replace hM := if_f c3 hM
    refine lv_iload_n hx hb dX8_mark_11 rfl (lv_at hl 1 rfl) ?_
    by_cases c4 : x1 = (0 : Int32)
    · replace hM := if_t c4 hM
      refine lv_tableIn (off := 40) (tgt := 52) hx hb dX8_mark_12 (by rw [c4]; decide) (by rw [c4]; decide) (by rw [c4]; decide) (by decide) ?_
      refine lv_aload_n hx hb dX8_mark_52 rfl (lv_at hl 0 rfl) ?_
      refine va_get (D := D) (ci := 8) (v := .ref (am 5)) (C := RX8) (T := TX8) (N := 9) hx hb hts hi_X8_mark_X8 hown hK hI.1 0 (cg_0 am cI cC cS st2) rfl 7 (by decide) f_0 (fun _ h9 => h9) rfl dX8_mark_53 ?_
      refine lv_aload_n hx hb dX8_mark_56 rfl (lv_at hl 0 rfl) ?_
      refine va_get (D := D) (ci := 8) (v := .ref (am 17)) (C := RX8) (T := TX8) (N := 9) hx hb hts hi_X8_mark_X8 hown hK hI.1 0 (cg_0 am cI cC cS st2) rfl 1 (by decide) f_1 (fun _ h9 => h9) rfl dX8_mark_57 ?_
      refine lv_aload_n hx hb dX8_mark_60 rfl (lv_at hl 0 rfl) ?_
      refine va_get (D := D) (ci := 8) (v := .ref (am 37)) (C := RX8) (T := TX8) (N := 9) hx hb hts hi_X8_mark_X8 hown hK hI.1 0 (cg_0 am cI cC cS st2) rfl 3 (by decide) f_2 (fun _ h9 => h9) rfl dX8_mark_61 ?_
      refine va_get (D := D) (ci := 5) (v := .ref (am 38)) (C := RX5) (T := TX5) (N := 3) hx hb hts hi_X8_mark_X5 hown hK hI.1 37 (cg_37 am cI cC cS st2) rfl 0 (by decide) f_3 (fun _ h9 => h9) rfl dX8_mark_64 ?_
      refine lv_iload_n hx hb dX8_mark_67 rfl (lv_at hl 2 rfl) ?_
      obtain ⟨v5, st6, hqv5, hM⟩ := bd_at hM
      refine jcallV (C := RX1) (As := [.ref (am 17), .ref (am 38), .int x2]) (rest := []) ⟨hx, hb, hml, hown, hts⟩ (jw_X1_asLimb D am cI cC cS hj N (show ck_Doll 17 by decide) (show ck_Pose 38 by decide) hqv5) (cwV 3 hts gX8_mark_X1_asLimb rfl rfl rfl yd_X1_asLimb ⟨Nat.le_of_ble_eq_true rfl, Nat.le_of_ble_eq_true rfl⟩) hK hI 5 (cg_5 am cI cC cS st2) rfl rfl hl.1 rfl (Nat.le_of_ble_eq_true rfl) dX8_mark_68 (fun H locs hI => ?_)
      refine W.eq (g2 := F0 m 71 ls [.int v5]) rfl ?_
      have hz := Option.some.inj hM
      exact W.iret hx hb hr (fun t ht hW => jq_i hK hI hz ht hW) hI.2.2.2 dX8_mark_71
    · replace hM := if_f c4 hM
      by_cases c7 : x1 = (1 : Int32)
      · replace hM := if_t c7 hM
        refine lv_tableIn (off := 60) (tgt := 72) hx hb dX8_mark_12 (by rw [c7]; decide) (by rw [c7]; decide) (by rw [c7]; decide) (by decide) ?_
        refine lv_aload_n hx hb dX8_mark_72 rfl (lv_at hl 0 rfl) ?_
        refine va_get (D := D) (ci := 8) (v := .ref (am 5)) (C := RX8) (T := TX8) (N := 9) hx hb hts hi_X8_mark_X8 hown hK hI.1 0 (cg_0 am cI cC cS st2) rfl 7 (by decide) f_0 (fun _ h9 => h9) rfl dX8_mark_73 ?_
        refine lv_aload_n hx hb dX8_mark_76 rfl (lv_at hl 0 rfl) ?_
        refine va_get (D := D) (ci := 8) (v := .ref (am 17)) (C := RX8) (T := TX8) (N := 9) hx hb hts hi_X8_mark_X8 hown hK hI.1 0 (cg_0 am cI cC cS st2) rfl 1 (by decide) f_1 (fun _ h9 => h9) rfl dX8_mark_77 ?_
        refine lv_aload_n hx hb dX8_mark_80 rfl (lv_at hl 0 rfl) ?_
        refine va_get (D := D) (ci := 8) (v := .ref (am 37)) (C := RX8) (T := TX8) (N := 9) hx hb hts hi_X8_mark_X8 hown hK hI.1 0 (cg_0 am cI cC cS st2) rfl 3 (by decide) f_2 (fun _ h9 => h9) rfl dX8_mark_81 ?_
        refine va_get (D := D) (ci := 5) (v := .ref (am 38)) (C := RX5) (T := TX5) (N := 3) hx hb hts hi_X8_mark_X5 hown hK hI.1 37 (cg_37 am cI cC cS st2) rfl 0 (by decide) f_3 (fun _ h9 => h9) rfl dX8_mark_84 ?_
        refine lv_iload_n hx hb dX8_mark_87 rfl (lv_at hl 2 rfl) ?_
        obtain ⟨v8, st9, hqv8, hM⟩ := bd_at hM
        refine jcallV (C := RX1) (As := [.ref (am 17), .ref (am 38), .int x2]) (rest := []) ⟨hx, hb, hml, hown, hts⟩ (jw_X1_asHead D am cI cC cS hj N (show ck_Doll 17 by decide) (show ck_Pose 38 by decide) hqv8) (cwV 3 hts gX8_mark_X1_asHead rfl rfl rfl yd_X1_asHead ⟨Nat.le_of_ble_eq_true rfl, Nat.le_of_ble_eq_true rfl⟩) hK hI 5 (cg_5 am cI cC cS st2) rfl rfl hl.1 rfl (Nat.le_of_ble_eq_true rfl) dX8_mark_88 (fun H locs hI => ?_)
        refine W.eq (g2 := F0 m 91 ls [.int v8]) rfl ?_
        have hz := Option.some.inj hM
        exact W.iret hx hb hr (fun t ht hW => jq_i hK hI hz ht hW) hI.2.2.2 dX8_mark_91
      · replace hM := if_f c7 hM
        by_cases c10 : x1 = (2 : Int32)
        · replace hM := if_t c10 hM
          refine lv_tableIn (off := 80) (tgt := 92) hx hb dX8_mark_12 (by rw [c10]; decide) (by rw [c10]; decide) (by rw [c10]; decide) (by decide) ?_
          refine lv_aload_n hx hb dX8_mark_92 rfl (lv_at hl 0 rfl) ?_
          refine va_get (D := D) (ci := 8) (v := .ref (am 5)) (C := RX8) (T := TX8) (N := 9) hx hb hts hi_X8_mark_X8 hown hK hI.1 0 (cg_0 am cI cC cS st2) rfl 7 (by decide) f_0 (fun _ h9 => h9) rfl dX8_mark_93 ?_
          refine lv_aload_n hx hb dX8_mark_96 rfl (lv_at hl 0 rfl) ?_
          refine va_get (D := D) (ci := 8) (v := .ref (am 17)) (C := RX8) (T := TX8) (N := 9) hx hb hts hi_X8_mark_X8 hown hK hI.1 0 (cg_0 am cI cC cS st2) rfl 1 (by decide) f_1 (fun _ h9 => h9) rfl dX8_mark_97 ?_
          refine lv_aload_n hx hb dX8_mark_100 rfl (lv_at hl 0 rfl) ?_
          refine va_get (D := D) (ci := 8) (v := .ref (am 37)) (C := RX8) (T := TX8) (N := 9) hx hb hts hi_X8_mark_X8 hown hK hI.1 0 (cg_0 am cI cC cS st2) rfl 3 (by decide) f_2 (fun _ h9 => h9) rfl dX8_mark_101 ?_
          refine va_get (D := D) (ci := 5) (v := .ref (am 38)) (C := RX5) (T := TX5) (N := 3) hx hb hts hi_X8_mark_X5 hown hK hI.1 37 (cg_37 am cI cC cS st2) rfl 0 (by decide) f_3 (fun _ h9 => h9) rfl dX8_mark_104 ?_
          refine lv_iload_n hx hb dX8_mark_107 rfl (lv_at hl 2 rfl) ?_
          obtain ⟨v11, st12, hqv11, hM⟩ := bd_at hM
          refine jcallV (C := RX1) (As := [.ref (am 17), .ref (am 38), .int x2]) (rest := []) ⟨hx, hb, hml, hown, hts⟩ (jw_X1_asFoot D am cI cC cS hj N (show ck_Doll 17 by decide) (show ck_Pose 38 by decide) hqv11) (cwV 3 hts gX8_mark_X1_asFoot rfl rfl rfl yd_X1_asFoot ⟨Nat.le_of_ble_eq_true rfl, Nat.le_of_ble_eq_true rfl⟩) hK hI 5 (cg_5 am cI cC cS st2) rfl rfl hl.1 rfl (Nat.le_of_ble_eq_true rfl) dX8_mark_108 (fun H locs hI => ?_)
          refine W.eq (g2 := F0 m 111 ls [.int v11]) rfl ?_
          have hz := Option.some.inj hM
          exact W.iret hx hb hr (fun t ht hW => jq_i hK hI hz ht hW) hI.2.2.2 dX8_mark_111
        · replace hM := if_f c10 hM
          by_cases c13 : x1 = (3 : Int32)
          · replace hM := if_t c13 hM
            refine lv_tableIn (off := 100) (tgt := 112) hx hb dX8_mark_12 (by rw [c13]; decide) (by rw [c13]; decide) (by rw [c13]; decide) (by decide) ?_
            refine lv_aload_n hx hb dX8_mark_112 rfl (lv_at hl 0 rfl) ?_
            refine va_get (D := D) (ci := 8) (v := .ref (am 5)) (C := RX8) (T := TX8) (N := 9) hx hb hts hi_X8_mark_X8 hown hK hI.1 0 (cg_0 am cI cC cS st2) rfl 7 (by decide) f_0 (fun _ h9 => h9) rfl dX8_mark_113 ?_
            refine lv_aload_n hx hb dX8_mark_116 rfl (lv_at hl 0 rfl) ?_
            refine va_get (D := D) (ci := 8) (v := .ref (am 17)) (C := RX8) (T := TX8) (N := 9) hx hb hts hi_X8_mark_X8 hown hK hI.1 0 (cg_0 am cI cC cS st2) rfl 1 (by decide) f_1 (fun _ h9 => h9) rfl dX8_mark_117 ?_
            refine lv_aload_n hx hb dX8_mark_120 rfl (lv_at hl 0 rfl) ?_
            refine va_get (D := D) (ci := 8) (v := .ref (am 37)) (C := RX8) (T := TX8) (N := 9) hx hb hts hi_X8_mark_X8 hown hK hI.1 0 (cg_0 am cI cC cS st2) rfl 3 (by decide) f_2 (fun _ h9 => h9) rfl dX8_mark_121 ?_
            refine va_get (D := D) (ci := 5) (v := .ref (am 38)) (C := RX5) (T := TX5) (N := 3) hx hb hts hi_X8_mark_X5 hown hK hI.1 37 (cg_37 am cI cC cS st2) rfl 0 (by decide) f_3 (fun _ h9 => h9) rfl dX8_mark_124 ?_
            refine lv_iload_n hx hb dX8_mark_127 rfl (lv_at hl 2 rfl) ?_
            obtain ⟨v14, st15, hqv14, hM⟩ := bd_at hM
            refine jcallV (C := RX1) (As := [.ref (am 17), .ref (am 38), .int x2]) (rest := []) ⟨hx, hb, hml, hown, hts⟩ (jw_X1_asCrown D am cI cC cS hj N (show ck_Doll 17 by decide) (show ck_Pose 38 by decide) hqv14) (cwV 3 hts gX8_mark_X1_asCrown rfl rfl rfl yd_X1_asCrown ⟨Nat.le_of_ble_eq_true rfl, Nat.le_of_ble_eq_true rfl⟩) hK hI 5 (cg_5 am cI cC cS st2) rfl rfl hl.1 rfl (Nat.le_of_ble_eq_true rfl) dX8_mark_128 (fun H locs hI => ?_)
            refine W.eq (g2 := F0 m 131 ls [.int v14]) rfl ?_
            have hz := Option.some.inj hM
            exact W.iret hx hb hr (fun t ht hW => jq_i hK hI hz ht hW) hI.2.2.2 dX8_mark_131
          · replace hM := if_f c13 hM
            by_cases c16 : x1 = (4 : Int32)
            · replace hM := if_t c16 hM
              refine lv_tableIn (off := 120) (tgt := 132) hx hb dX8_mark_12 (by rw [c16]; decide) (by rw [c16]; decide) (by rw [c16]; decide) (by decide) ?_
              refine lv_aload_n hx hb dX8_mark_132 rfl (lv_at hl 0 rfl) ?_
              refine va_get (D := D) (ci := 8) (v := .ref (am 5)) (C := RX8) (T := TX8) (N := 9) hx hb hts hi_X8_mark_X8 hown hK hI.1 0 (cg_0 am cI cC cS st2) rfl 7 (by decide) f_0 (fun _ h9 => h9) rfl dX8_mark_133 ?_
              refine lv_aload_n hx hb dX8_mark_136 rfl (lv_at hl 0 rfl) ?_
              refine va_get (D := D) (ci := 8) (v := .ref (am 17)) (C := RX8) (T := TX8) (N := 9) hx hb hts hi_X8_mark_X8 hown hK hI.1 0 (cg_0 am cI cC cS st2) rfl 1 (by decide) f_1 (fun _ h9 => h9) rfl dX8_mark_137 ?_
              refine lv_aload_n hx hb dX8_mark_140 rfl (lv_at hl 0 rfl) ?_
              refine va_get (D := D) (ci := 8) (v := .ref (am 37)) (C := RX8) (T := TX8) (N := 9) hx hb hts hi_X8_mark_X8 hown hK hI.1 0 (cg_0 am cI cC cS st2) rfl 3 (by decide) f_2 (fun _ h9 => h9) rfl dX8_mark_141 ?_
              refine va_get (D := D) (ci := 5) (v := .ref (am 38)) (C := RX5) (T := TX5) (N := 3) hx hb hts hi_X8_mark_X5 hown hK hI.1 37 (cg_37 am cI cC cS st2) rfl 0 (by decide) f_3 (fun _ h9 => h9) rfl dX8_mark_144 ?_
              refine lv_iload_n hx hb dX8_mark_147 rfl (lv_at hl 2 rfl) ?_
              obtain ⟨v17, st18, hqv17, hM⟩ := bd_at hM
              refine jcallV (C := RX1) (As := [.ref (am 17), .ref (am 38), .int x2]) (rest := []) ⟨hx, hb, hml, hown, hts⟩ (jw_X1_asToe D am cI cC cS hj N (show ck_Doll 17 by decide) (show ck_Pose 38 by decide) hqv17) (cwV 3 hts gX8_mark_X1_asToe rfl rfl rfl yd_X1_asToe ⟨Nat.le_of_ble_eq_true rfl, Nat.le_of_ble_eq_true rfl⟩) hK hI 5 (cg_5 am cI cC cS st2) rfl rfl hl.1 rfl (Nat.le_of_ble_eq_true rfl) dX8_mark_148 (fun H locs hI => ?_)
              refine W.eq (g2 := F0 m 151 ls [.int v17]) rfl ?_
              have hz := Option.some.inj hM
              exact W.iret hx hb hr (fun t ht hW => jq_i hK hI hz ht hW) hI.2.2.2 dX8_mark_151
            · replace hM := if_f c16 hM
              by_cases c19 : x1 = (5 : Int32)
              · replace hM := if_t c19 hM
                refine lv_tableIn (off := 140) (tgt := 152) hx hb dX8_mark_12 (by rw [c19]; decide) (by rw [c19]; decide) (by rw [c19]; decide) (by decide) ?_
                refine lv_aload_n hx hb dX8_mark_152 rfl (lv_at hl 0 rfl) ?_
                refine va_get (D := D) (ci := 8) (v := .ref (am 5)) (C := RX8) (T := TX8) (N := 9) hx hb hts hi_X8_mark_X8 hown hK hI.1 0 (cg_0 am cI cC cS st2) rfl 7 (by decide) f_0 (fun _ h9 => h9) rfl dX8_mark_153 ?_
                refine lv_aload_n hx hb dX8_mark_156 rfl (lv_at hl 0 rfl) ?_
                refine va_get (D := D) (ci := 8) (v := .ref (am 17)) (C := RX8) (T := TX8) (N := 9) hx hb hts hi_X8_mark_X8 hown hK hI.1 0 (cg_0 am cI cC cS st2) rfl 1 (by decide) f_1 (fun _ h9 => h9) rfl dX8_mark_157 ?_
                refine lv_aload_n hx hb dX8_mark_160 rfl (lv_at hl 0 rfl) ?_
                refine va_get (D := D) (ci := 8) (v := .ref (am 37)) (C := RX8) (T := TX8) (N := 9) hx hb hts hi_X8_mark_X8 hown hK hI.1 0 (cg_0 am cI cC cS st2) rfl 3 (by decide) f_2 (fun _ h9 => h9) rfl dX8_mark_161 ?_
                refine va_get (D := D) (ci := 5) (v := .ref (am 38)) (C := RX5) (T := TX5) (N := 3) hx hb hts hi_X8_mark_X5 hown hK hI.1 37 (cg_37 am cI cC cS st2) rfl 0 (by decide) f_3 (fun _ h9 => h9) rfl dX8_mark_164 ?_
                refine lv_iload_n hx hb dX8_mark_167 rfl (lv_at hl 2 rfl) ?_
                obtain ⟨v20, st21, hqv20, hM⟩ := bd_at hM
                refine jcallV (C := RX1) (As := [.ref (am 17), .ref (am 38), .int x2]) (rest := []) ⟨hx, hb, hml, hown, hts⟩ (jw_X1_asHand D am cI cC cS hj N (show ck_Doll 17 by decide) (show ck_Pose 38 by decide) hqv20) (cwV 3 hts gX8_mark_X1_asHand rfl rfl rfl yd_X1_asHand ⟨Nat.le_of_ble_eq_true rfl, Nat.le_of_ble_eq_true rfl⟩) hK hI 5 (cg_5 am cI cC cS st2) rfl rfl hl.1 rfl (Nat.le_of_ble_eq_true rfl) dX8_mark_168 (fun H locs hI => ?_)
                refine W.eq (g2 := F0 m 171 ls [.int v20]) rfl ?_
                have hz := Option.some.inj hM
                exact W.iret hx hb hr (fun t ht hW => jq_i hK hI hz ht hW) hI.2.2.2 dX8_mark_171
              · replace hM := if_f c19 hM
                refine lv_tableOut (tgt := 172) hx hb dX8_mark_12 (by have nc4 : ¬ (0 : Int) = (x1).toInt := ne_ti c4; have nc7 : ¬ (1 : Int) = (x1).toInt := ne_ti c7; have nc10 : ¬ (2 : Int) = (x1).toInt := ne_ti c10; have nc13 : ¬ (3 : Int) = (x1).toInt := ne_ti c13; have nc16 : ¬ (4 : Int) = (x1).toInt := ne_ti c16; have nc19 : ¬ (5 : Int) = (x1).toInt := ne_ti c19; omega) (by decide) ?_
                refine lv_ldc (v := (-1000000 : Int32)) hx hb hown f_4 dX8_mark_172 ?_
                have hz := Option.some.inj hM
                exact W.iret hx hb hr (fun t ht hW => jq_i hK hI hz ht hW) hI.2.2.2 dX8_mark_174
  · replace hM := if_t c3 hM
    refine lv_ldc (v := (-1000000 : Int32)) hx hb hown f_4 dX8_mark_8 ?_
    have hz := Option.some.inj hM
    exact W.iret hx hb hr (fun t ht hW => jq_i hK hI hz ht hW) hI.2.2.2 dX8_mark_10
set_option maxHeartbeats 4000000 in
set_option maxRecDepth 100000 in
theorem jw_X8_isImage {l : Launch} (D : va_G) (am : Nat → Nat) (cI cC cS : ClassId) (hj : aJ am 52) (N : Nat) {x0 : Int32} {st stZ : PS} {rZ : Int32} (hM : jm_X8_isImage N x0 st = some (rZ, stZ)) : Met l yX8_isImage wsX8_isImage ({ frames := 0, cells := 0, slots := 0, locals := 0 }) (va_Pc [.int x0] (JH D (cW am cI cC cS) (cTy cI cC cS) st)) (JQ D (aA am 52) (cW am cI cC cS) (cTy cI cC cS) (some (.int rZ)) stZ) 0 0 (aA am 52) := by
  refine jStart (cc := cX8_isImage) (maxL := 1) (ret := (some .boolean)) [.int x0] (by decide) rfl (Nat.le_of_ble_eq_true rfl) (fun p e s m below meth c ls hx hb hr hlocks hts hown hml hK hI hl => ?_)
  have hown : s.vm.findClass RX8 = some m.cls := hown
  replace hl : lv_has ls 1 [(0, .int x0)] := hl
  generalize hAV : ([.int x0] : List Value).toArray = AV at hts ⊢
  unfold jm_X8_isImage at hM
  refine lv_iload_n hx hb dX8_isImage_0 rfl (lv_at hl 0 rfl) ?_
  refine lv_if_lt (tgt := 13) hx hb dX8_isImage_1 (by decide) (fun c1 => ?_) (fun c1 => ?_)
  · replace hM := if_t c1 hM
    refine lv_iconst (v := (0 : Int32)) hx hb dX8_isImage_13 (by decide) ?_
    have hz := Option.some.inj hM
    exact W.zret hx hb hr rfl (fun t ht hW => jq_i hK hI hz ht hW) hI.2.2.2 dX8_isImage_14
  · replace hM := if_f c1 hM
    refine lv_iload_n hx hb dX8_isImage_4 rfl (lv_at hl 0 rfl) ?_
    refine lv_iconst (v := (2 : Int32)) hx hb dX8_isImage_5 (by decide) ?_
    refine lv_icmp_ge (tgt := 13) hx hb dX8_isImage_6 (by decide) (fun c2 => ?_) (fun c2 => ?_)
    · replace hM := if_t c2 hM
      refine lv_iconst (v := (0 : Int32)) hx hb dX8_isImage_13 (by decide) ?_
      have hz := Option.some.inj hM
      exact W.zret hx hb hr rfl (fun t ht hW => jq_i hK hI hz ht hW) hI.2.2.2 dX8_isImage_14
    · replace hM := if_f c2 hM
      refine lv_iconst (v := (1 : Int32)) hx hb dX8_isImage_9 (by decide) ?_
      refine lv_goto (tgt := 14) hx hb dX8_isImage_10 (by decide) ?_
      have hz := Option.some.inj hM
      exact W.zret hx hb hr rfl (fun t ht hW => jq_i hK hI hz ht hW) hI.2.2.2 dX8_isImage_14
