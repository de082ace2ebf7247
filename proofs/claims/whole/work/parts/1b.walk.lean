set_option maxRecDepth 20000 in
theorem hi_X2_moves_X2 : ∀ w ∈ wsX20, w ∈ wsX2_moves := by decide +kernel
set_option maxHeartbeats 4000000 in
set_option maxRecDepth 100000 in
theorem jw_X2_moves {l : Launch} (D : va_G) (am : Nat → Nat) (cI cC cS : ClassId) (hj : aJ am 52) (N : Nat) {st stZ : PS} {rZ : Int32} (hM : jm_X2_moves N st = some (rZ, stZ)) : Met l yX2_moves wsX2_moves ({ frames := 0, cells := 0, slots := 0, locals := 0 }) (va_Pc [.ref (am 6)] (JH D (cW am cI cC cS) (cTy cI cC cS) st)) (JQ D (aA am 52) (cW am cI cC cS) (cTy cI cC cS) (some (.int rZ)) stZ) 0 0 (aA am 52) := by
  refine jStart (cc := cX2_moves) (maxL := 1) (ret := (some .int)) [.ref (am 6)] (by decide) rfl (Nat.le_of_ble_eq_true rfl) (fun p e s m below meth c ls hx hb hr hlocks hts hown hml hK hI hl => ?_)
  have hown : s.vm.findClass RX2 = some m.cls := hown
  replace hl : lv_has ls 1 [(0, .ref (am 6))] := hl
  generalize hAV : ([.ref (am 6)] : List Value).toArray = AV at hts ⊢
  have f_0 := hts (.fieldLink RX2 18 "PuppetBar$Order" "moves" "I") (by decide +kernel)
  unfold jm_X2_moves at hM
  refine lv_aload_n hx hb dX2_moves_0 rfl (lv_at hl 0 rfl) ?_
  refine va_get (D := D) (ci := 2) (v := .int (st.1 6 2)) (C := RX2) (T := TX2) (N := 3) hx hb hts hi_X2_moves_X2 hown hK hI.1 6 (cg_6 am cI cC cS st) rfl 2 (by decide) f_0 (fun _ h9 => h9) rfl dX2_moves_1 ?_
  have hz := Option.some.inj hM
  exact W.iret hx hb hr (fun t ht hW => jq_i hK hI hz ht hW) hI.2.2.2 dX2_moves_4
set_option maxRecDepth 20000 in
theorem hi_X2_beatAt_X2 : ∀ w ∈ wsX20, w ∈ wsX2_beatAt := by decide +kernel
set_option maxHeartbeats 4000000 in
set_option maxRecDepth 100000 in
theorem jw_X2_beatAt {l : Launch} (D : va_G) (am : Nat → Nat) (cI cC cS : ClassId) (hj : aJ am 52) (N : Nat) {x1 : Int32} {st stZ : PS} {rZ : Int32} (hM : jm_X2_beatAt N x1 st = some (rZ, stZ)) : Met l yX2_beatAt wsX2_beatAt ({ frames := 0, cells := 0, slots := 0, locals := 0 }) (va_Pc [.ref (am 6), .int x1] (JH D (cW am cI cC cS) (cTy cI cC cS) st)) (JQ D (aA am 52) (cW am cI cC cS) (cTy cI cC cS) (some (.int rZ)) stZ) 0 0 (aA am 52) := by
  refine jStart (cc := cX2_beatAt) (maxL := 2) (ret := (some .int)) [.ref (am 6), .int x1] (by decide) rfl (Nat.le_of_ble_eq_true rfl) (fun p e s m below meth c ls hx hb hr hlocks hts hown hml hK hI hl => ?_)
  have hown : s.vm.findClass RX2 = some m.cls := hown
  replace hl : lv_has ls 2 [(0, .ref (am 6)), (1, .int x1)] := hl
  generalize hAV : ([.ref (am 6), .int x1] : List Value).toArray = AV at hts ⊢
  have f_0 := hts (.fieldLink RX2 15 "PuppetBar$Order" "found" "[I") (by decide +kernel)
  unfold jm_X2_beatAt at hM
  refine lv_aload_n hx hb dX2_beatAt_0 rfl (lv_at hl 0 rfl) ?_
  refine va_get (D := D) (ci := 2) (v := .ref (am 8)) (C := RX2) (T := TX2) (N := 3) hx hb hts hi_X2_beatAt_X2 hown hK hI.1 6 (cg_6 am cI cC cS st) rfl 1 (by decide) f_0 (fun _ h9 => h9) rfl dX2_beatAt_1 ?_
  refine lv_iload_n hx hb dX2_beatAt_4 rfl (lv_at hl 1 rfl) ?_
  obtain ⟨g1, hM⟩ := gd_at hM
  refine va_iald hx hb hK hI.1 8 0 (cg_8 am cI cC cS st) rfl (inB_vp g1) dX2_beatAt_5 ?_
  have hz := Option.some.inj hM
  exact W.iret hx hb hr (fun t ht hW => jq_i hK hI hz ht hW) hI.2.2.2 dX2_beatAt_6
set_option maxRecDepth 20000 in
theorem hi_X2_movesTo_X0 : ∀ w ∈ wsX00, w ∈ wsX2_movesTo := by decide +kernel
set_option maxHeartbeats 4000000 in
set_option maxRecDepth 100000 in
theorem jw_X2_movesTo {l : Launch} (D : va_G) (am : Nat → Nat) (cI cC cS : ClassId) (hj : aJ am 52) (N : Nat) {r0 : Nat} {x1 : Int32} {x2 : Int32} {x3 : Int32} (h0 : ck_Doll r0) {st stZ : PS} {rZ : Int32} (hM : jm_X2_movesTo N r0 x1 x2 x3 st = some (rZ, stZ)) : Met l yX2_movesTo wsX2_movesTo ({ frames := 1, cells := 0, slots := 0, locals := 21 }) (va_Pc [.ref (am r0), .int x1, .int x2, .int x3] (JH D (cW am cI cC cS) (cTy cI cC cS) st)) (JQ D (aA am 52) (cW am cI cC cS) (cTy cI cC cS) (some (.int rZ)) stZ) 0 0 (aA am 52) := by
  refine jStart (cc := cX2_movesTo) (maxL := 4) (ret := (some .int)) [.ref (am r0), .int x1, .int x2, .int x3] (by decide) rfl (Nat.le_of_ble_eq_true rfl) (fun p e s m below meth c ls hx hb hr hlocks hts hown hml hK hI hl => ?_)
  have hown : s.vm.findClass RX2 = some m.cls := hown
  replace hl : lv_has ls 4 [(0, .ref (am r0)), (1, .int x1), (2, .int x2), (3, .int x3)] := hl
  generalize hAV : ([.ref (am r0), .int x1, .int x2, .int x3] : List Value).toArray = AV at hts ⊢
  have f_0 := hts (.fieldLink RX2 47 "PuppetBar$Doll" "beatLift" "[I") (by decide +kernel)
  have f_1 := hts (.methodLink RX2 57 Lib.Math.abs.name) (by decide +kernel)
  have f_2 := hts (.static Lib.Math.abs.name) (by decide +kernel)
  have f_3 := hts (.initialized "java/lang/Math") (by decide +kernel)
  have f_4 := hts (.code Lib.Math.abs.name Lib.Math.abs.code 1 (some .int)) (by decide +kernel)
  have f_5 := hts (.fieldLink RX2 50 "PuppetBar$Doll" "beatTilt" "[I") (by decide +kernel)
  unfold jm_X2_movesTo at hM
  refine lv_aload_n hx hb dX2_movesTo_0 rfl (lv_at hl 0 rfl) ?_
  refine va_get (D := D) (ci := 0) (v := .ref (am (r0 + 5))) (C := RX0) (T := TX0) (N := 11) hx hb hts hi_X2_movesTo_X0 hown hK hI.1 r0 (cg_Doll am cI cC cS st h0) rfl 4 (by decide) f_0 (fun _ h9 => h9) rfl dX2_movesTo_1 ?_
  refine lv_iload_n hx hb dX2_movesTo_4 rfl (lv_at hl 1 rfl) ?_
  obtain ⟨g1, hM⟩ := gd_at hM
  refine va_iald hx hb hK hI.1 (r0 + 5) 0 (cg_Doll_beatLift am cI cC cS st h0) rfl (inB_vp g1) dX2_movesTo_5 ?_
  refine lv_iload_n hx hb dX2_movesTo_6 rfl (lv_at hl 2 rfl) ?_
  refine lv_isub hx hb dX2_movesTo_7 ?_
  refine va_mabs hx hb (hml.trans hl.1.symm) hown f_1 f_2 f_3 f_4 (Nat.le_of_ble_eq_true rfl) (Nat.le_of_ble_eq_true rfl) (Nat.zero_le _) (Nat.zero_le _) dX2_movesTo_8 ?_
  refine lv_topi (fun y2 ey2 => ?_)
  replace hM := nm_at ey2 hM
  refine lv_aload_n hx hb dX2_movesTo_11 rfl (lv_at hl 0 rfl) ?_
  refine va_get (D := D) (ci := 0) (v := .ref (am (r0 + 6))) (C := RX0) (T := TX0) (N := 11) hx hb hts hi_X2_movesTo_X0 hown hK hI.1 r0 (cg_Doll am cI cC cS st h0) rfl 5 (by decide) f_5 (fun _ h9 => h9) rfl dX2_movesTo_12 ?_
  refine lv_iload_n hx hb dX2_movesTo_15 rfl (lv_at hl 1 rfl) ?_
  obtain ⟨g3, hM⟩ := gd_at hM
  refine va_iald hx hb hK hI.1 (r0 + 6) 0 (cg_Doll_beatTilt am cI cC cS st h0) rfl (inB_vp g3) dX2_movesTo_16 ?_
  refine lv_iload_n hx hb dX2_movesTo_17 rfl (lv_at hl 3 rfl) ?_
  refine lv_isub hx hb dX2_movesTo_18 ?_
  refine va_mabs hx hb (hml.trans hl.1.symm) hown f_1 f_2 f_3 f_4 (Nat.le_of_ble_eq_true rfl) (Nat.le_of_ble_eq_true rfl) (Nat.zero_le _) (Nat.zero_le _) dX2_movesTo_19 ?_
  refine lv_topi (fun y4 ey4 => ?_)
  replace hM := nm_at ey4 hM
  refine lv_iadd hx hb dX2_movesTo_22 ?_
  have hz := Option.some.inj hM
  exact W.iret hx hb hr (fun t ht hW => jq_i hK hI hz ht hW) hI.2.2.2 dX2_movesTo_23
set_option maxRecDepth 20000 in
theorem hi_X2_through_X2 : ∀ w ∈ wsX20, w ∈ wsX2_through := by decide +kernel
set_option maxHeartbeats 4000000 in
set_option maxRecDepth 100000 in
theorem jw_X2_through {l : Launch} (D : va_G) (am : Nat → Nat) (cI cC cS : ClassId) (hj : aJ am 52) (N : Nat) {r1 : Nat} {x2 : Int32} {x3 : Int32} {x4 : Int32} {x5 : Int32} (h1 : ck_Doll r1) {st stZ : PS} {rZ : Int32} (hM : jm_X2_through N r1 x2 x3 x4 x5 st = some (rZ, stZ)) : Met l yX2_through wsX2_through ({ frames := 2, cells := 0, slots := 0, locals := 44 }) (va_Pc [.ref (am 6), .ref (am r1), .int x2, .int x3, .int x4, .int x5] (JH D (cW am cI cC cS) (cTy cI cC cS) st)) (JQ D (aA am 52) (cW am cI cC cS) (cTy cI cC cS) (some (.int rZ)) stZ) 0 0 (aA am 52) := by
  refine jStart (cc := cX2_through) (maxL := 6) (ret := (some .int)) [.ref (am 6), .ref (am r1), .int x2, .int x3, .int x4, .int x5] (by decide) rfl (Nat.le_of_ble_eq_true rfl) (fun p e s m below meth c ls hx hb hr hlocks hts hown hml hK hI hl => ?_)
  have hown : s.vm.findClass RX2 = some m.cls := hown
  replace hl : lv_has ls 6 [(0, .ref (am 6)), (1, .ref (am r1)), (2, .int x2), (3, .int x3), (4, .int x4), (5, .int x5)] := hl
  generalize hAV : ([.ref (am 6), .ref (am r1), .int x2, .int x3, .int x4, .int x5] : List Value).toArray = AV at hts ⊢
  have f_0 := hts (.fieldLink RX2 9 "PuppetBar$Order" "toGo" "[I") (by decide +kernel)
  unfold jm_X2_through at hM
  refine lv_aload_n hx hb dX2_through_0 rfl (lv_at hl 1 rfl) ?_
  refine lv_iload_n hx hb dX2_through_1 rfl (lv_at hl 3 rfl) ?_
  refine lv_iload hx hb dX2_through_2 (lv_at hl 4 rfl) ?_
  refine lv_iload hx hb dX2_through_4 (lv_at hl 5 rfl) ?_
  obtain ⟨v1, st2, hqv1, hM⟩ := bd_at hM
  refine jcallS (As := [.ref (am r1), .int x3, .int x4, .int x5]) (rest := []) ⟨hx, hb, hml, hown, hts⟩ (jw_X2_movesTo D am cI cC cS hj N h1 hqv1) (va_cwS 4 hts gX2_through_X2_movesTo rfl rfl rfl yd_X2_movesTo ⟨Nat.le_of_ble_eq_true rfl, Nat.le_of_ble_eq_true rfl⟩) hK hI rfl hl.1 rfl (Nat.le_of_ble_eq_true rfl) dX2_through_6 (fun H locs hI => ?_)
  refine W.eq (g2 := F0 m 9 ls [.int v1]) rfl ?_
  refine lv_aload_n hx hb dX2_through_9 rfl (lv_at hl 0 rfl) ?_
  refine va_get (D := D) (ci := 2) (v := .ref (am 7)) (C := RX2) (T := TX2) (N := 3) hx hb hts hi_X2_through_X2 hown hK hI.1 6 (cg_6 am cI cC cS st2) rfl 0 (by decide) f_0 (fun _ h9 => h9) rfl dX2_through_10 ?_
  refine lv_iload_n hx hb dX2_through_13 rfl (lv_at hl 2 rfl) ?_
  refine lv_iconst (v := (1 : Int32)) hx hb dX2_through_14 (by decide) ?_
  refine lv_iload_n hx hb dX2_through_15 rfl (lv_at hl 3 rfl) ?_
  refine lv_ishl hx hb dX2_through_16 ?_
  refine lv_ior hx hb dX2_through_17 ?_
  refine lv_bipush (v := (7 : Int32)) hx hb dX2_through_18 (by decide) ?_
  refine lv_imul hx hb dX2_through_20 ?_
  refine lv_iload_n hx hb dX2_through_21 rfl (lv_at hl 3 rfl) ?_
  refine lv_iadd hx hb dX2_through_22 ?_
  obtain ⟨g3, hM⟩ := gd_at hM
  refine va_iald hx hb hK hI.1 7 0 (cg_7 am cI cC cS st2) rfl (inB_vp g3) dX2_through_23 ?_
  refine lv_iadd hx hb dX2_through_24 ?_
  have hz := Option.some.inj hM
  exact W.iret hx hb hr (fun t ht hW => jq_i hK hI hz ht hW) hI.2.2.2 dX2_through_25
set_option maxRecDepth 20000 in
theorem hi_X2_bestNext_X0 : ∀ w ∈ wsX00, w ∈ wsX2_bestNext := by decide +kernel
set_option maxHeartbeats 4000000 in
set_option maxRecDepth 100000 in
theorem jw_X2_bestNext {l : Launch} (D : va_G) (am : Nat → Nat) (cI cC cS : ClassId) (hj : aJ am 52) (N : Nat) {r1 : Nat} {x2 : Int32} {x3 : Int32} {x4 : Int32} (h1 : ck_Doll r1) {st stZ : PS} {rZ : Int32} (hM : jm_X2_bestNext N r1 x2 x3 x4 st = some (rZ, stZ)) : Met l yX2_bestNext wsX2_bestNext ({ frames := 3, cells := 0, slots := 0, locals := 69 }) (va_Pc [.ref (am 6), .ref (am r1), .int x2, .int x3, .int x4] (JH D (cW am cI cC cS) (cTy cI cC cS) st)) (JQ D (aA am 52) (cW am cI cC cS) (cTy cI cC cS) (some (.int rZ)) stZ) 0 0 (aA am 52) := by
  refine jStart (cc := cX2_bestNext) (maxL := 9) (ret := (some .int)) [.ref (am 6), .ref (am r1), .int x2, .int x3, .int x4] (by decide) rfl (Nat.le_of_ble_eq_true rfl) (fun p e s m below meth c ls hx hb hr hlocks hts hown hml hK hI hl => ?_)
  have hown : s.vm.findClass RX2 = some m.cls := hown
  replace hl : lv_has ls 9 [(0, .ref (am 6)), (1, .ref (am r1)), (2, .int x2), (3, .int x3), (4, .int x4)] := hl
  generalize hAV : ([.ref (am 6), .ref (am r1), .int x2, .int x3, .int x4] : List Value).toArray = AV at hts ⊢
  have f_0 := hts (.fieldLink RX2 35 "PuppetBar$Doll" "beats" "I") (by decide +kernel)
  unfold jm_X2_bestNext at hM
  refine lv_bipush (v := (-9 : Int32)) hx hb dX2_bestNext_0 (by decide) ?_
  refine lv_istore (lv' := [(5, .int (-9 : Int32)), (0, .ref (am 6)), (1, .ref (am r1)), (2, .int x2), (3, .int x3), (4, .int x4)]) hx hb dX2_bestNext_2 hl (by decide) rfl (fun ls hl => ?_)
  refine lv_iconst (v := (0 : Int32)) hx hb dX2_bestNext_4 (by decide) ?_
  refine lv_istore (lv' := [(6, .int (0 : Int32)), (5, .int (-9 : Int32)), (0, .ref (am 6)), (1, .ref (am r1)), (2, .int x2), (3, .int x3), (4, .int x4)]) hx hb dX2_bestNext_5 hl (by decide) rfl (fun ls hl => ?_)
  refine lv_iconst (v := (0 : Int32)) hx hb dX2_bestNext_7 (by decide) ?_
  refine lv_istore (lv' := [(7, .int (0 : Int32)), (6, .int (0 : Int32)), (5, .int (-9 : Int32)), (0, .ref (am 6)), (1, .ref (am r1)), (2, .int x2), (3, .int x3), (4, .int x4)]) hx hb dX2_bestNext_8 hl (by decide) rfl (fun ls hl => ?_)
  have lp0 : ∀ (n : Nat) (w2 : Int32) (w3 : Int32) (w4 : Int32) (st1 : PS) (H : Heap) (locs : List Loc) (ls : Array Slot), JI D (aA am 52) (cW am cI cC cS) s.heap st1 H locs → lv_has ls 9 [(0, .ref (am 6)), (1, .ref (am r1)), (2, .int x2), (3, .int x3), (4, .int x4), (5, .int w2), (6, .int w3), (7, .int w4)] → iter (fun q => jm_X2_bestNext_L10 N r1 x2 x3 x4 q.1 q.2.1 q.2.2.1 q.2.2.2) n (w2, w3, w4, st1) = some (rZ, stZ) → W p l e (headSpec wsX2_bestNext { frames := 3, cells := 0, slots := 0, locals := 69 }).room s m AV below meth c H locs 0 0 (MQ below (JQ D (aA am 52) (cW am cI cC cS) (cTy cI cC cS) (some (.int rZ)) stZ) AV s 0 0 (aA am 52)) (F0 m 10 ls []) := by
    intro n
    induction n with
    | zero =>
      intro _ _ _ _ _ _ _ _ _ hM
      exact absurd hM (fun h => iter_zero h)
    | succ n ih0 =>
      intro w2 w3 w4 st1 H locs ls hI hl hM
      obtain ⟨z0, hM, hk0⟩ := iter_succ hM
      replace hM : jm_X2_bestNext_L10 N r1 x2 x3 x4 w2 w3 w4 st1 = some z0 := hM
      unfold jm_X2_bestNext_L10 at hM
      refine lv_iload hx hb dX2_bestNext_10 (lv_at hl 7 rfl) ?_
      refine lv_aload_n hx hb dX2_bestNext_12 rfl (lv_at hl 1 rfl) ?_
      refine va_get (D := D) (ci := 0) (v := .int (st1.1 r1 9)) (C := RX0) (T := TX0) (N := 11) hx hb hts hi_X2_bestNext_X0 hown hK hI.1 r1 (cg_Doll am cI cC cS st1 h1) rfl 9 (by decide) f_0 (fun _ h9 => h9) rfl dX2_bestNext_13 ?_
      refine lv_icmp_ge (tgt := 69) hx hb dX2_bestNext_16 (by decide) (fun c5 => ?_) (fun c5 => ?_)
      · replace hM := if_t c5 hM
        refine lv_iload hx hb dX2_bestNext_69 (lv_at hl 5 rfl) ?_
        have hz := Option.some.inj hM
        subst hz
        have hz := kn_r hk0
        exact W.iret hx hb hr (fun t ht hW => jq_i hK hI hz ht hW) hI.2.2.2 dX2_bestNext_71
      · replace hM := if_f c5 hM
        refine lv_iload_n hx hb dX2_bestNext_19 rfl (lv_at hl 2 rfl) ?_
        refine lv_iload hx hb dX2_bestNext_20 (lv_at hl 7 rfl) ?_
        refine lv_ishr hx hb dX2_bestNext_22 ?_
        refine lv_iconst (v := (1 : Int32)) hx hb dX2_bestNext_23 (by decide) ?_
        refine lv_iand hx hb dX2_bestNext_24 ?_
        refine lv_if_ne (tgt := 63) hx hb dX2_bestNext_25 (by decide) (fun c6 => ?_) (fun c6 => ?_)
        · replace hM := if_f c6 hM
          refine lv_iinc (v := (w4 + (1 : Int32))) (lv' := [(7, .int (w4 + (1 : Int32))), (0, .ref (am 6)), (1, .ref (am r1)), (2, .int x2), (3, .int x3), (4, .int x4), (5, .int w2), (6, .int w3)]) hx hb dX2_bestNext_63 hl (k := 7) rfl rfl (by decide) rfl (fun ls hl => ?_)
          refine lv_goto (tgt := 10) hx hb dX2_bestNext_66 (by decide) ?_
          have hz := Option.some.inj hM
          subst hz
          exact ih0 w2 w3 (w4 + (1 : Int32)) st1 _ _ _ hI (lv_sub hl [1, 2, 3, 4, 5, 6, 7, 0] rfl) hk0
        · replace hM := if_t c6 hM
          refine lv_aload_n hx hb dX2_bestNext_28 rfl (lv_at hl 0 rfl) ?_
          refine lv_aload_n hx hb dX2_bestNext_29 rfl (lv_at hl 1 rfl) ?_
          refine lv_iload_n hx hb dX2_bestNext_30 rfl (lv_at hl 2 rfl) ?_
          refine lv_iload hx hb dX2_bestNext_31 (lv_at hl 7 rfl) ?_
          refine lv_iload_n hx hb dX2_bestNext_33 rfl (lv_at hl 3 rfl) ?_
          refine lv_iload hx hb dX2_bestNext_34 (lv_at hl 4 rfl) ?_
          obtain ⟨v7, st8, hqv7, hM⟩ := bd_at hM
          refine jcallV (C := RX2) (As := [.ref (am r1), .int x2, .int w4, .int x3, .int x4]) (rest := []) ⟨hx, hb, hml, hown, hts⟩ (jw_X2_through D am cI cC cS hj N h1 hqv7) (cwV 5 hts gX2_bestNext_X2_through rfl rfl rfl yd_X2_through ⟨Nat.le_of_ble_eq_true rfl, Nat.le_of_ble_eq_true rfl⟩) hK hI 6 (cg_6 am cI cC cS st1) rfl rfl hl.1 rfl (Nat.le_of_ble_eq_true rfl) dX2_bestNext_36 (fun H locs hI => ?_)
          refine W.eq (g2 := F0 m 39 ls [.int v7]) rfl ?_
          refine lv_istore (lv' := [(8, .int v7), (0, .ref (am 6)), (1, .ref (am r1)), (2, .int x2), (3, .int x3), (4, .int x4), (5, .int w2), (6, .int w3), (7, .int w4)]) hx hb dX2_bestNext_39 hl (by decide) rfl (fun ls hl => ?_)
          refine lv_iload hx hb dX2_bestNext_41 (lv_at hl 6 rfl) ?_
          refine lv_bipush (v := (-9 : Int32)) hx hb dX2_bestNext_43 (by decide) ?_
          refine lv_icmp_eq (tgt := 55) hx hb dX2_bestNext_45 (by decide) (fun c9 => ?_) (fun c9 => ?_)
          · replace hM := if_t c9 hM
            refine lv_iload hx hb dX2_bestNext_55 (lv_at hl 8 rfl) ?_
            refine lv_istore (lv' := [(5, .int w4), (8, .int v7), (0, .ref (am 6)), (1, .ref (am r1)), (2, .int x2), (3, .int x3), (4, .int x4), (6, .int w3), (7, .int w4)]) hx hb dX2_bestNext_57 hl (by decide) rfl (fun ls hl => ?_)
            refine lv_iload hx hb dX2_bestNext_59 (lv_at hl 1 rfl) ?_
            refine lv_istore (lv' := [(6, .int v7), (5, .int w4), (8, .int v7), (0, .ref (am 6)), (1, .ref (am r1)), (2, .int x2), (3, .int x3), (4, .int x4), (7, .int w4)]) hx hb dX2_bestNext_61 hl (by decide) rfl (fun ls hl => ?_)
            refine lv_iinc (v := (w4 + (1 : Int32))) (lv' := [(7, .int (w4 + (1 : Int32))), (6, .int v7), (5, .int w4), (8, .int v7), (0, .ref (am 6)), (1, .ref (am r1)), (2, .int x2), (3, .int x3), (4, .int x4)]) hx hb dX2_bestNext_63 hl (k := 8) rfl rfl (by decide) rfl (fun ls hl => ?_)
            refine lv_goto (tgt := 10) hx hb dX2_bestNext_66 (by decide) ?_
            have hz := Option.some.inj hM
            subst hz
            exact ih0 w4 v7 (w4 + (1 : Int32)) st8 _ _ _ hI (lv_sub hl [4, 5, 6, 7, 8, 2, 1, 0] rfl) hk0
          · replace hM := if_f c9 hM
            refine lv_iload hx hb dX2_bestNext_48 (lv_at hl 0 rfl) ?_
            refine lv_iload hx hb dX2_bestNext_50 (lv_at hl 7 rfl) ?_
            refine lv_icmp_ge (tgt := 63) hx hb dX2_bestNext_52 (by decide) (fun c10 => ?_) (fun c10 => ?_)
            · replace hM := if_t c10 hM
              refine lv_iinc (v := (w4 + (1 : Int32))) (lv' := [(7, .int (w4 + (1 : Int32))), (8, .int v7), (0, .ref (am 6)), (1, .ref (am r1)), (2, .int x2), (3, .int x3), (4, .int x4), (5, .int w2), (6, .int w3)]) hx hb dX2_bestNext_63 hl (k := 8) rfl rfl (by decide) rfl (fun ls hl => ?_)
              refine lv_goto (tgt := 10) hx hb dX2_bestNext_66 (by decide) ?_
              have hz := Option.some.inj hM
              subst hz
              exact ih0 w2 w3 (w4 + (1 : Int32)) st8 _ _ _ hI (lv_sub hl [2, 3, 4, 5, 6, 7, 8, 0] rfl) hk0
            · replace hM := if_f c10 hM
              refine lv_iload hx hb dX2_bestNext_55 (lv_at hl 8 rfl) ?_
              refine lv_istore (lv' := [(5, .int w4), (8, .int v7), (0, .ref (am 6)), (1, .ref (am r1)), (2, .int x2), (3, .int x3), (4, .int x4), (6, .int w3), (7, .int w4)]) hx hb dX2_bestNext_57 hl (by decide) rfl (fun ls hl => ?_)
              refine lv_iload hx hb dX2_bestNext_59 (lv_at hl 1 rfl) ?_
              refine lv_istore (lv' := [(6, .int v7), (5, .int w4), (8, .int v7), (0, .ref (am 6)), (1, .ref (am r1)), (2, .int x2), (3, .int x3), (4, .int x4), (7, .int w4)]) hx hb dX2_bestNext_61 hl (by decide) rfl (fun ls hl => ?_)
              refine lv_iinc (v := (w4 + (1 : Int32))) (lv' := [(7, .int (w4 + (1 : Int32))), (6, .int v7), (5, .int w4), (8, .int v7), (0, .ref (am 6)), (1, .ref (am r1)), (2, .int x2), (3, .int x3), (4, .int x4)]) hx hb dX2_bestNext_63 hl (k := 8) rfl rfl (by decide) rfl (fun ls hl => ?_)
              refine lv_goto (tgt := 10) hx hb dX2_bestNext_66 (by decide) ?_
              have hz := Option.some.inj hM
              subst hz
              exact ih0 w4 v7 (w4 + (1 : Int32)) st8 _ _ _ hI (lv_sub hl [4, 5, 6, 7, 8, 2, 1, 0] rfl) hk0
  exact lp0 N (-9 : Int32) (0 : Int32) (0 : Int32) st _ _ _ hI (lv_sub hl [3, 4, 5, 6, 7, 2, 1, 0] rfl) hM
set_option maxRecDepth 20000 in
theorem hi_X2_fillToGo_X0 : ∀ w ∈ wsX00, w ∈ wsX2_fillToGo := by decide +kernel
set_option maxRecDepth 20000 in
theorem hi_X2_fillToGo_X2 : ∀ w ∈ wsX20, w ∈ wsX2_fillToGo := by decide +kernel
set_option maxHeartbeats 4000000 in
set_option maxRecDepth 100000 in
theorem jw_X2_fillToGo {l : Launch} (D : va_G) (am : Nat → Nat) (cI cC cS : ClassId) (hj : aJ am 52) (N : Nat) {r1 : Nat} (h1 : ck_Doll r1) {st stZ : PS} {rZ : Unit} (hM : jm_X2_fillToGo N r1 st = some (rZ, stZ)) : Met l yX2_fillToGo wsX2_fillToGo ({ frames := 4, cells := 0, slots := 0, locals := 97 }) (va_Pc [.ref (am 6), .ref (am r1)] (JH D (cW am cI cC cS) (cTy cI cC cS) st)) (JQ D (aA am 52) (cW am cI cC cS) (cTy cI cC cS) none stZ) 0 0 (aA am 52) := by
  refine jStart (cc := cX2_fillToGo) (maxL := 7) (ret := none) [.ref (am 6), .ref (am r1)] (by decide) rfl (Nat.le_of_ble_eq_true rfl) (fun p e s m below meth c ls hx hb hr hlocks hts hown hml hK hI hl => ?_)
  have hown : s.vm.findClass RX2 = some m.cls := hown
  replace hl : lv_has ls 7 [(0, .ref (am 6)), (1, .ref (am r1))] := hl
  generalize hAV : ([.ref (am 6), .ref (am r1)] : List Value).toArray = AV at hts ⊢
  have f_0 := hts (.fieldLink RX2 35 "PuppetBar$Doll" "beats" "I") (by decide +kernel)
  have f_1 := hts (.fieldLink RX2 47 "PuppetBar$Doll" "beatLift" "[I") (by decide +kernel)
  have f_2 := hts (.fieldLink RX2 50 "PuppetBar$Doll" "beatTilt" "[I") (by decide +kernel)
  have f_3 := hts (.fieldLink RX2 9 "PuppetBar$Order" "toGo" "[I") (by decide +kernel)
  unfold jm_X2_fillToGo at hM
  refine lv_iconst (v := (1 : Int32)) hx hb dX2_fillToGo_0 (by decide) ?_
  refine lv_aload_n hx hb dX2_fillToGo_1 rfl (lv_at hl 1 rfl) ?_
  refine va_get (D := D) (ci := 0) (v := .int (st.1 r1 9)) (C := RX0) (T := TX0) (N := 11) hx hb hts hi_X2_fillToGo_X0 hown hK hI.1 r1 (cg_Doll am cI cC cS st h1) rfl 9 (by decide) f_0 (fun _ h9 => h9) rfl dX2_fillToGo_2 ?_
  refine lv_ishl hx hb dX2_fillToGo_5 ?_
  refine lv_iconst (v := (1 : Int32)) hx hb dX2_fillToGo_6 (by decide) ?_
  refine lv_isub hx hb dX2_fillToGo_7 ?_
  refine lv_topi (fun y1 ey1 => ?_)
  replace hM := nm_at ey1 hM
  refine lv_istore_n (lv' := [(2, .int y1), (0, .ref (am 6)), (1, .ref (am r1))]) hx hb dX2_fillToGo_8 rfl hl (by decide) rfl (fun ls hl => ?_)
  have lp0 : ∀ (n : Nat) (w3 : Int32) (st2 : PS) (H : Heap) (locs : List Loc) (ls : Array Slot), JI D (aA am 52) (cW am cI cC cS) s.heap st2 H locs → lv_has ls 7 [(0, .ref (am 6)), (1, .ref (am r1)), (2, .int w3)] → iter (fun q => jm_X2_fillToGo_L9 N r1 q.1 q.2) n (w3, st2) = some (rZ, stZ) → W p l e (headSpec wsX2_fillToGo { frames := 4, cells := 0, slots := 0, locals := 97 }).room s m AV below meth c H locs 0 0 (MQ below (JQ D (aA am 52) (cW am cI cC cS) (cTy cI cC cS) none stZ) AV s 0 0 (aA am 52)) (F0 m 9 ls []) := by
    intro n
    induction n with
    | zero =>
      intro _ _ _ _ _ _ _ hM
      exact absurd hM (fun h => iter_zero h)
    | succ n ih0 =>
      intro w3 st2 H locs ls hI hl hM
      obtain ⟨z0, hM, hk0⟩ := iter_succ hM
      replace hM : jm_X2_fillToGo_L9 N r1 w3 st2 = some z0 := hM
      unfold jm_X2_fillToGo_L9 at hM
      refine lv_iload_n hx hb dX2_fillToGo_9 rfl (lv_at hl 2 rfl) ?_
      refine lv_if_le (tgt := 97) hx hb dX2_fillToGo_10 (by decide) (fun c4 => ?_) (fun c4 => ?_)
      · replace hM := if_t c4 hM
        have hz := Option.some.inj hM
        subst hz
        have hz := kn_r hk0
        exact W.vret hx hb hr (fun t ht hW => jq_v hK hI hz ht hW) hI.2.2.2 dX2_fillToGo_97
      · replace hM := if_f c4 hM
        refine lv_iconst (v := (0 : Int32)) hx hb dX2_fillToGo_13 (by decide) ?_
        refine lv_istore_n (lv' := [(3, .int (0 : Int32)), (0, .ref (am 6)), (1, .ref (am r1)), (2, .int w3)]) hx hb dX2_fillToGo_14 rfl hl (by decide) rfl (fun ls hl => ?_)
        have lp1 : ∀ (n : Nat) (w6 : Int32) (st5 : PS) (H : Heap) (locs : List Loc) (ls : Array Slot), JI D (aA am 52) (cW am cI cC cS) s.heap st5 H locs → lv_has ls 7 [(0, .ref (am 6)), (1, .ref (am r1)), (2, .int w3), (3, .int w6)] → iter (fun q => jm_X2_fillToGo_L15 N r1 w3 q.1 q.2) n (w6, st5) = some z0 → W p l e (headSpec wsX2_fillToGo { frames := 4, cells := 0, slots := 0, locals := 97 }).room s m AV below meth c H locs 0 0 (MQ below (JQ D (aA am 52) (cW am cI cC cS) (cTy cI cC cS) none stZ) AV s 0 0 (aA am 52)) (F0 m 15 ls []) := by
          intro n
          induction n with
          | zero =>
            intro _ _ _ _ _ _ _ hM
            exact absurd hM (fun h => iter_zero h)
          | succ n ih1 =>
            intro w6 st5 H locs ls hI hl hM
            obtain ⟨z1, hM, hk1⟩ := iter_succ hM
            replace hM : jm_X2_fillToGo_L15 N r1 w3 w6 st5 = some z1 := hM
            unfold jm_X2_fillToGo_L15 at hM
            refine lv_iload_n hx hb dX2_fillToGo_15 rfl (lv_at hl 3 rfl) ?_
            refine lv_aload_n hx hb dX2_fillToGo_16 rfl (lv_at hl 1 rfl) ?_
            refine va_get (D := D) (ci := 0) (v := .int (st5.1 r1 9)) (C := RX0) (T := TX0) (N := 11) hx hb hts hi_X2_fillToGo_X0 hown hK hI.1 r1 (cg_Doll am cI cC cS st5 h1) rfl 9 (by decide) f_0 (fun _ h9 => h9) rfl dX2_fillToGo_17 ?_
            refine lv_icmp_ge (tgt := 91) hx hb dX2_fillToGo_20 (by decide) (fun c7 => ?_) (fun c7 => ?_)
            · replace hM := if_t c7 hM
              refine lv_iinc (v := (w3 + (-1 : Int32))) (lv' := [(2, .int (w3 + (-1 : Int32))), (0, .ref (am 6)), (1, .ref (am r1)), (3, .int w6)]) hx hb dX2_fillToGo_91 hl (k := 2) rfl rfl (by decide) rfl (fun ls hl => ?_)
              refine lv_goto (tgt := 9) hx hb dX2_fillToGo_94 (by decide) ?_
              have hz := Option.some.inj hM
              subst hz
              have hz := kn_r hk1
              subst hz
              exact ih0 (w3 + (-1 : Int32)) st5 _ _ _ hI (lv_sub hl [1, 2, 0] rfl) hk0
            · replace hM := if_f c7 hM
              refine lv_aload_n hx hb dX2_fillToGo_23 rfl (lv_at hl 1 rfl) ?_
              refine va_get (D := D) (ci := 0) (v := .ref (am (r1 + 5))) (C := RX0) (T := TX0) (N := 11) hx hb hts hi_X2_fillToGo_X0 hown hK hI.1 r1 (cg_Doll am cI cC cS st5 h1) rfl 4 (by decide) f_1 (fun _ h9 => h9) rfl dX2_fillToGo_24 ?_
              refine lv_iload_n hx hb dX2_fillToGo_27 rfl (lv_at hl 3 rfl) ?_
              obtain ⟨g8, hM⟩ := gd_at hM
              refine va_iald hx hb hK hI.1 (r1 + 5) 0 (cg_Doll_beatLift am cI cC cS st5 h1) rfl (inB_vp g8) dX2_fillToGo_28 ?_
              refine lv_istore (lv' := [(4, .int (st5.1 (r1 + 5) (w6).toNatClampNeg)), (0, .ref (am 6)), (1, .ref (am r1)), (2, .int w3), (3, .int w6)]) hx hb dX2_fillToGo_29 hl (by decide) rfl (fun ls hl => ?_)
              refine lv_aload_n hx hb dX2_fillToGo_31 rfl (lv_at hl 2 rfl) ?_
              refine va_get (D := D) (ci := 0) (v := .ref (am (r1 + 6))) (C := RX0) (T := TX0) (N := 11) hx hb hts hi_X2_fillToGo_X0 hown hK hI.1 r1 (cg_Doll am cI cC cS st5 h1) rfl 5 (by decide) f_2 (fun _ h9 => h9) rfl dX2_fillToGo_32 ?_
              refine lv_iload_n hx hb dX2_fillToGo_35 rfl (lv_at hl 4 rfl) ?_
              obtain ⟨g9, hM⟩ := gd_at hM
              refine va_iald hx hb hK hI.1 (r1 + 6) 0 (cg_Doll_beatTilt am cI cC cS st5 h1) rfl (inB_vp g9) dX2_fillToGo_36 ?_
              refine lv_istore (lv' := [(5, .int (st5.1 (r1 + 6) (w6).toNatClampNeg)), (4, .int (st5.1 (r1 + 5) (w6).toNatClampNeg)), (0, .ref (am 6)), (1, .ref (am r1)), (2, .int w3), (3, .int w6)]) hx hb dX2_fillToGo_37 hl (by decide) rfl (fun ls hl => ?_)
              refine lv_aload_n hx hb dX2_fillToGo_39 rfl (lv_at hl 2 rfl) ?_
              refine lv_aload_n hx hb dX2_fillToGo_40 rfl (lv_at hl 3 rfl) ?_
              refine lv_iload_n hx hb dX2_fillToGo_41 rfl (lv_at hl 4 rfl) ?_
              refine lv_iload hx hb dX2_fillToGo_42 (lv_at hl 1 rfl) ?_
              refine lv_iload hx hb dX2_fillToGo_44 (lv_at hl 0 rfl) ?_
              obtain ⟨v10, st11, hqv10, hM⟩ := bd_at hM
              refine jcallV (C := RX2) (As := [.ref (am r1), .int w3, .int (st5.1 (r1 + 5) (w6).toNatClampNeg), .int (st5.1 (r1 + 6) (w6).toNatClampNeg)]) (rest := []) ⟨hx, hb, hml, hown, hts⟩ (jw_X2_bestNext D am cI cC cS hj N h1 hqv10) (cwV 4 hts gX2_fillToGo_X2_bestNext rfl rfl rfl yd_X2_bestNext ⟨Nat.le_of_ble_eq_true rfl, Nat.le_of_ble_eq_true rfl⟩) hK hI 6 (cg_6 am cI cC cS st5) rfl rfl hl.1 rfl (Nat.le_of_ble_eq_true rfl) dX2_fillToGo_46 (fun H locs hI => ?_)
              refine W.eq (g2 := F0 m 49 ls [.int v10]) rfl ?_
              refine lv_istore (lv' := [(6, .int v10), (5, .int (st5.1 (r1 + 6) (w6).toNatClampNeg)), (4, .int (st5.1 (r1 + 5) (w6).toNatClampNeg)), (0, .ref (am 6)), (1, .ref (am r1)), (2, .int w3), (3, .int w6)]) hx hb dX2_fillToGo_49 hl (by decide) rfl (fun ls hl => ?_)
              refine lv_aload_n hx hb dX2_fillToGo_51 rfl (lv_at hl 3 rfl) ?_
              refine va_get (D := D) (ci := 2) (v := .ref (am 7)) (C := RX2) (T := TX2) (N := 3) hx hb hts hi_X2_fillToGo_X2 hown hK hI.1 6 (cg_6 am cI cC cS st11) rfl 0 (by decide) f_3 (fun _ h9 => h9) rfl dX2_fillToGo_52 ?_
              refine lv_iload_n hx hb dX2_fillToGo_55 rfl (lv_at hl 5 rfl) ?_
              refine lv_bipush (v := (7 : Int32)) hx hb dX2_fillToGo_56 (by decide) ?_
              refine lv_imul hx hb dX2_fillToGo_58 ?_
              refine lv_iload_n hx hb dX2_fillToGo_59 rfl (lv_at hl 6 rfl) ?_
              refine lv_iadd hx hb dX2_fillToGo_60 ?_
              refine lv_iload hx hb dX2_fillToGo_61 (lv_at hl 0 rfl) ?_
              refine lv_bipush (v := (-9 : Int32)) hx hb dX2_fillToGo_63 (by decide) ?_
              refine lv_icmp_ne (tgt := 72) hx hb dX2_fillToGo_65 (by decide) (fun c12 => ?_) (fun c12 => ?_)
              · replace hM := if_f c12 hM
                refine lv_aload_n hx hb dX2_fillToGo_72 rfl (lv_at hl 3 rfl) ?_
                refine lv_aload_n hx hb dX2_fillToGo_73 rfl (lv_at hl 4 rfl) ?_
                refine lv_iload_n hx hb dX2_fillToGo_74 rfl (lv_at hl 5 rfl) ?_
                refine lv_iload hx hb dX2_fillToGo_75 (lv_at hl 0 rfl) ?_
                refine lv_iload hx hb dX2_fillToGo_77 (lv_at hl 2 rfl) ?_
                refine lv_iload hx hb dX2_fillToGo_79 (lv_at hl 1 rfl) ?_
                obtain ⟨v13, st14, hqv13, hM⟩ := bd_at hM
                refine jcallV (C := RX2) (As := [.ref (am r1), .int w3, .int v10, .int (st5.1 (r1 + 5) (w6).toNatClampNeg), .int (st5.1 (r1 + 6) (w6).toNatClampNeg)]) (rest := [.int ((w3 * (7 : Int32)) + w6), .ref (am 7)]) ⟨hx, hb, hml, hown, hts⟩ (jw_X2_through D am cI cC cS hj N h1 hqv13) (cwV 5 hts gX2_fillToGo_X2_through rfl rfl rfl yd_X2_through ⟨Nat.le_of_ble_eq_true rfl, Nat.le_of_ble_eq_true rfl⟩) hK hI 6 (cg_6 am cI cC cS st11) rfl rfl hl.1 rfl (Nat.le_of_ble_eq_true rfl) dX2_fillToGo_81 (fun H locs hI => ?_)
                refine W.eq (g2 := F0 m 84 ls [.int v13, .int ((w3 * (7 : Int32)) + w6), .ref (am 7)]) rfl ?_
                obtain ⟨g16, hM⟩ := gd_at hM
                refine jiast (x := v13) (st2 := pU st14 7 (((w3 * (7 : Int32)) + w6)).toNatClampNeg (v13)) hx hb hK (cD hj) hI 7 0 (cg_7 am cI cC cS st14) rfl (inB_vp g16) (cs_7 am cI cC cS st14 _) dX2_fillToGo_84 (fun st15 est15 H locs hI => ?_)
                replace hM := nm_at est15 hM
                refine lv_iinc (v := (w6 + (1 : Int32))) (lv' := [(3, .int (w6 + (1 : Int32))), (6, .int v10), (5, .int (st5.1 (r1 + 6) (w6).toNatClampNeg)), (4, .int (st5.1 (r1 + 5) (w6).toNatClampNeg)), (0, .ref (am 6)), (1, .ref (am r1)), (2, .int w3)]) hx hb dX2_fillToGo_85 hl (k := 6) rfl rfl (by decide) rfl (fun ls hl => ?_)
                refine lv_goto (tgt := 15) hx hb dX2_fillToGo_88 (by decide) ?_
                have hz := Option.some.inj hM
                subst hz
                exact ih1 (w6 + (1 : Int32)) st15 _ _ _ hI (lv_sub hl [4, 5, 6, 0] rfl) hk1
              · replace hM := if_t c12 hM
                refine lv_iconst (v := (0 : Int32)) hx hb dX2_fillToGo_68 (by decide) ?_
                refine lv_goto (tgt := 84) hx hb dX2_fillToGo_69 (by decide) ?_
                obtain ⟨g18, hM⟩ := gd_at hM
                refine jiast (x := (0 : Int32)) (st2 := pU st11 7 (((w3 * (7 : Int32)) + w6)).toNatClampNeg ((0 : Int32))) hx hb hK (cD hj) hI 7 0 (cg_7 am cI cC cS st11) rfl (inB_vp g18) (cs_7 am cI cC cS st11 _) dX2_fillToGo_84 (fun st17 est17 H locs hI => ?_)
                replace hM := nm_at est17 hM
                refine lv_iinc (v := (w6 + (1 : Int32))) (lv' := [(3, .int (w6 + (1 : Int32))), (6, .int v10), (5, .int (st5.1 (r1 + 6) (w6).toNatClampNeg)), (4, .int (st5.1 (r1 + 5) (w6).toNatClampNeg)), (0, .ref (am 6)), (1, .ref (am r1)), (2, .int w3)]) hx hb dX2_fillToGo_85 hl (k := 6) rfl rfl (by decide) rfl (fun ls hl => ?_)
                refine lv_goto (tgt := 15) hx hb dX2_fillToGo_88 (by decide) ?_
                have hz := Option.some.inj hM
                subst hz
                exact ih1 (w6 + (1 : Int32)) st17 _ _ _ hI (lv_sub hl [4, 5, 6, 0] rfl) hk1
        exact lp1 N (0 : Int32) st2 _ _ _ hI (lv_sub hl [1, 2, 3, 0] rfl) hM
  exact lp0 N y1 st _ _ _ hI (lv_sub hl [1, 2, 0] rfl) hM
set_option maxRecDepth 20000 in
theorem hi_X4_tilt_X4 : ∀ w ∈ wsX40, w ∈ wsX4_tilt := by decide +kernel
set_option maxHeartbeats 4000000 in
set_option maxRecDepth 100000 in
theorem jw_X4_tilt {l : Launch} (D : va_G) (am : Nat → Nat) (cI cC cS : ClassId) (hj : aJ am 52) (N : Nat) {r0 : Nat} (h0 : ck_Pose r0) {st stZ : PS} {rZ : Int32} (hM : jm_X4_tilt N r0 st = some (rZ, stZ)) : Met l yX4_tilt wsX4_tilt ({ frames := 0, cells := 0, slots := 0, locals := 0 }) (va_Pc [.ref (am r0)] (JH D (cW am cI cC cS) (cTy cI cC cS) st)) (JQ D (aA am 52) (cW am cI cC cS) (cTy cI cC cS) (some (.int rZ)) stZ) 0 0 (aA am 52) := by
  refine jStart (cc := cX4_tilt) (maxL := 1) (ret := (some .int)) [.ref (am r0)] (by decide) rfl (Nat.le_of_ble_eq_true rfl) (fun p e s m below meth c ls hx hb hr hlocks hts hown hml hK hI hl => ?_)
  have hown : s.vm.findClass RX4 = some m.cls := hown
  replace hl : lv_has ls 1 [(0, .ref (am r0))] := hl
  generalize hAV : ([.ref (am r0)] : List Value).toArray = AV at hts ⊢
  have f_0 := hts (.fieldLink RX4 11 "PuppetBar$Pose" "row" "[I") (by decide +kernel)
  unfold jm_X4_tilt at hM
  refine lv_aload_n hx hb dX4_tilt_0 rfl (lv_at hl 0 rfl) ?_
  refine va_get (D := D) (ci := 4) (v := .ref (am (r0 + 1))) (C := RX4) (T := TX4) (N := 1) hx hb hts hi_X4_tilt_X4 hown hK hI.1 r0 (cg_Pose am cI cC cS st h0) rfl 0 (by decide) f_0 (fun _ h9 => h9) rfl dX4_tilt_1 ?_
  refine lv_iconst (v := (1 : Int32)) hx hb dX4_tilt_4 (by decide) ?_
  refine va_iald hx hb hK hI.1 (r0 + 1) 0 (cg_Pose_row am cI cC cS st h0) rfl (inB_vp rfl) dX4_tilt_5 ?_
  refine W.eq (g2 := F0 m 6 ls [.int (st.1 (r0 + 1) 1)]) rfl ?_
  have hz := Option.some.inj hM
  exact W.iret hx hb hr (fun t ht hW => jq_i hK hI hz ht hW) hI.2.2.2 dX4_tilt_6
set_option maxRecDepth 20000 in
theorem hi_X2_plan_X2 : ∀ w ∈ wsX20, w ∈ wsX2_plan := by decide +kernel
set_option maxRecDepth 20000 in
theorem hi_X2_plan_X0 : ∀ w ∈ wsX00, w ∈ wsX2_plan := by decide +kernel
set_option maxHeartbeats 4000000 in
set_option maxRecDepth 100000 in
theorem jw_X2_plan {l : Launch} (D : va_G) (am : Nat → Nat) (cI cC cS : ClassId) (hj : aJ am 52) (N : Nat) {r1 : Nat} {r2 : Nat} (h1 : ck_Doll r1) (h2 : ck_Pose r2) {st stZ : PS} {rZ : Unit} (hM : jm_X2_plan N r1 r2 st = some (rZ, stZ)) : Met l yX2_plan wsX2_plan ({ frames := 5, cells := 0, slots := 0, locals := 123 }) (va_Pc [.ref (am 6), .ref (am r1), .ref (am r2)] (JH D (cW am cI cC cS) (cTy cI cC cS) st)) (JQ D (aA am 52) (cW am cI cC cS) (cTy cI cC cS) none stZ) 0 0 (aA am 52) := by
  refine jStart (cc := cX2_plan) (maxL := 8) (ret := none) [.ref (am 6), .ref (am r1), .ref (am r2)] (by decide) rfl (Nat.le_of_ble_eq_true rfl) (fun p e s m below meth c ls hx hb hr hlocks hts hown hml hK hI hl => ?_)
  have hown : s.vm.findClass RX2 = some m.cls := hown
  replace hl : lv_has ls 8 [(0, .ref (am 6)), (1, .ref (am r1)), (2, .ref (am r2))] := hl
  generalize hAV : ([.ref (am 6), .ref (am r1), .ref (am r2)] : List Value).toArray = AV at hts ⊢
  have f_0 := hts (.fieldLink RX2 18 "PuppetBar$Order" "moves" "I") (by decide +kernel)
  have f_1 := hts (.fieldLink RX2 35 "PuppetBar$Doll" "beats" "I") (by decide +kernel)
  have f_2 := hts (.fieldLink RX2 15 "PuppetBar$Order" "found" "[I") (by decide +kernel)
  have f_3 := hts (.fieldLink RX2 47 "PuppetBar$Doll" "beatLift" "[I") (by decide +kernel)
  have f_4 := hts (.fieldLink RX2 50 "PuppetBar$Doll" "beatTilt" "[I") (by decide +kernel)
  unfold jm_X2_plan at hM
  refine lv_aload_n hx hb dX2_plan_0 rfl (lv_at hl 0 rfl) ?_
  refine lv_aload_n hx hb dX2_plan_1 rfl (lv_at hl 1 rfl) ?_
  obtain ⟨v1, st2, hqv1, hM⟩ := bd_at hM
  refine jcallV (C := RX2) (As := [.ref (am r1)]) (rest := []) ⟨hx, hb, hml, hown, hts⟩ (jw_X2_fillToGo D am cI cC cS hj N h1 hqv1) (cwV 1 hts gX2_plan_X2_fillToGo rfl rfl rfl yd_X2_fillToGo ⟨Nat.le_of_ble_eq_true rfl, Nat.le_of_ble_eq_true rfl⟩) hK hI 6 (cg_6 am cI cC cS st) rfl rfl hl.1 rfl (Nat.le_of_ble_eq_true rfl) dX2_plan_2 (fun H locs hI => ?_)
  refine W.eq (g2 := F0 m 5 ls []) rfl ?_
  refine lv_aload_n hx hb dX2_plan_5 rfl (lv_at hl 0 rfl) ?_
  refine lv_iconst (v := (0 : Int32)) hx hb dX2_plan_6 (by decide) ?_
  refine jput (D := D) (ci := 2) (v := .int (0 : Int32)) (ty := .int) (C := RX2) (T := TX2) (N := 3) (st2 := pU st2 6 2 (0 : Int32)) hx hb hts hi_X2_plan_X2 tyX2 tyX2_ok nmX2 hown hK (cD hj) hI 6 (cg_6 am cI cC cS st2) rfl 2 (by decide) f_0 (fun _ h9 => h9) rfl (by decide +kernel) rfl rfl (Nat.le_of_ble_eq_true rfl) (cs_6_2 am cI cC cS st2 _) dX2_plan_7 (fun st3 est3 H locs hI => ?_)
  replace hM := nm_at est3 hM
  refine lv_iconst (v := (0 : Int32)) hx hb dX2_plan_10 (by decide) ?_
  refine lv_istore_n (lv' := [(3, .int (0 : Int32)), (0, .ref (am 6)), (1, .ref (am r1)), (2, .ref (am r2))]) hx hb dX2_plan_11 rfl hl (by decide) rfl (fun ls hl => ?_)
  refine lv_aload_n hx hb dX2_plan_12 rfl (lv_at hl 3 rfl) ?_
  obtain ⟨v4, st5, hqv4, hM⟩ := bd_at hM
  refine jcallV (C := RX4) (As := []) (rest := []) ⟨hx, hb, hml, hown, hts⟩ (jw_X4_lift D am cI cC cS hj N h2 hqv4) (cwV 0 hts gX2_plan_X4_lift rfl rfl rfl yd_X4_lift ⟨Nat.le_of_ble_eq_true rfl, Nat.le_of_ble_eq_true rfl⟩) hK hI r2 (cg_Pose am cI cC cS st3 h2) rfl rfl hl.1 rfl (Nat.le_of_ble_eq_true rfl) dX2_plan_13 (fun H locs hI => ?_)
  refine W.eq (g2 := F0 m 16 ls [.int v4]) rfl ?_
  refine lv_istore (lv' := [(4, .int v4), (3, .int (0 : Int32)), (0, .ref (am 6)), (1, .ref (am r1)), (2, .ref (am r2))]) hx hb dX2_plan_16 hl (by decide) rfl (fun ls hl => ?_)
  refine lv_aload_n hx hb dX2_plan_18 rfl (lv_at hl 4 rfl) ?_
  obtain ⟨v6, st7, hqv6, hM⟩ := bd_at hM
  refine jcallV (C := RX4) (As := []) (rest := []) ⟨hx, hb, hml, hown, hts⟩ (jw_X4_tilt D am cI cC cS hj N h2 hqv6) (cwV 0 hts gX2_plan_X4_tilt rfl rfl rfl yd_X4_tilt ⟨Nat.le_of_ble_eq_true rfl, Nat.le_of_ble_eq_true rfl⟩) hK hI r2 (cg_Pose am cI cC cS st5 h2) rfl rfl hl.1 rfl (Nat.le_of_ble_eq_true rfl) dX2_plan_19 (fun H locs hI => ?_)
  refine W.eq (g2 := F0 m 22 ls [.int v6]) rfl ?_
  refine lv_istore (lv' := [(5, .int v6), (4, .int v4), (3, .int (0 : Int32)), (0, .ref (am 6)), (1, .ref (am r1)), (2, .ref (am r2))]) hx hb dX2_plan_22 hl (by decide) rfl (fun ls hl => ?_)
  refine lv_iconst (v := (0 : Int32)) hx hb dX2_plan_24 (by decide) ?_
  refine lv_istore (lv' := [(6, .int (0 : Int32)), (5, .int v6), (4, .int v4), (3, .int (0 : Int32)), (0, .ref (am 6)), (1, .ref (am r1)), (2, .ref (am r2))]) hx hb dX2_plan_25 hl (by decide) rfl (fun ls hl => ?_)
  have lp0 : ∀ (n : Nat) (w9 : Int32) (w10 : Int32) (w11 : Int32) (w12 : Int32) (st8 : PS) (H : Heap) (locs : List Loc) (ls : Array Slot), JI D (aA am 52) (cW am cI cC cS) s.heap st8 H locs → lv_has ls 8 [(0, .ref (am 6)), (1, .ref (am r1)), (2, .ref (am r2)), (3, .int w9), (4, .int w10), (5, .int w11), (6, .int w12)] → iter (fun q => jm_X2_plan_L27 N r1 q.1 q.2.1 q.2.2.1 q.2.2.2.1 q.2.2.2.2) n (w9, w10, w11, w12, st8) = some (rZ, stZ) → W p l e (headSpec wsX2_plan { frames := 5, cells := 0, slots := 0, locals := 123 }).room s m AV below meth c H locs 0 0 (MQ below (JQ D (aA am 52) (cW am cI cC cS) (cTy cI cC cS) none stZ) AV s 0 0 (aA am 52)) (F0 m 27 ls []) := by
    intro n
    induction n with
    | zero =>
      intro _ _ _ _ _ _ _ _ _ _ hM
      exact absurd hM (fun h => iter_zero h)
    | succ n ih0 =>
      intro w9 w10 w11 w12 st8 H locs ls hI hl hM
      obtain ⟨z0, hM, hk0⟩ := iter_succ hM
      replace hM : jm_X2_plan_L27 N r1 w9 w10 w11 w12 st8 = some z0 := hM
      unfold jm_X2_plan_L27 at hM
      refine lv_iload hx hb dX2_plan_27 (lv_at hl 6 rfl) ?_
      refine lv_aload_n hx hb dX2_plan_29 rfl (lv_at hl 1 rfl) ?_
      refine va_get (D := D) (ci := 0) (v := .int (st8.1 r1 9)) (C := RX0) (T := TX0) (N := 11) hx hb hts hi_X2_plan_X0 hown hK hI.1 r1 (cg_Doll am cI cC cS st8 h1) rfl 9 (by decide) f_1 (fun _ h9 => h9) rfl dX2_plan_30 ?_
      refine lv_icmp_ge (tgt := 115) hx hb dX2_plan_33 (by decide) (fun c13 => ?_) (fun c13 => ?_)
      · replace hM := if_t c13 hM
        have hz := Option.some.inj hM
        subst hz
        have hz := kn_r hk0
        exact W.vret hx hb hr (fun t ht hW => jq_v hK hI hz ht hW) hI.2.2.2 dX2_plan_115
      · replace hM := if_f c13 hM
        refine lv_aload_n hx hb dX2_plan_36 rfl (lv_at hl 0 rfl) ?_
        refine lv_aload_n hx hb dX2_plan_37 rfl (lv_at hl 1 rfl) ?_
        refine lv_iload_n hx hb dX2_plan_38 rfl (lv_at hl 3 rfl) ?_
        refine lv_iload hx hb dX2_plan_39 (lv_at hl 4 rfl) ?_
        refine lv_iload hx hb dX2_plan_41 (lv_at hl 5 rfl) ?_
        obtain ⟨v14, st15, hqv14, hM⟩ := bd_at hM
        refine jcallV (C := RX2) (As := [.ref (am r1), .int w9, .int w10, .int w11]) (rest := []) ⟨hx, hb, hml, hown, hts⟩ (jw_X2_bestNext D am cI cC cS hj N h1 hqv14) (cwV 4 hts gX2_plan_X2_bestNext rfl rfl rfl yd_X2_bestNext ⟨Nat.le_of_ble_eq_true rfl, Nat.le_of_ble_eq_true rfl⟩) hK hI 6 (cg_6 am cI cC cS st8) rfl rfl hl.1 rfl (Nat.le_of_ble_eq_true rfl) dX2_plan_43 (fun H locs hI => ?_)
        refine W.eq (g2 := F0 m 46 ls [.int v14]) rfl ?_
        refine lv_istore (lv' := [(7, .int v14), (0, .ref (am 6)), (1, .ref (am r1)), (2, .ref (am r2)), (3, .int w9), (4, .int w10), (5, .int w11), (6, .int w12)]) hx hb dX2_plan_46 hl (by decide) rfl (fun ls hl => ?_)
        refine lv_iload hx hb dX2_plan_48 (lv_at hl 0 rfl) ?_
        refine lv_bipush (v := (-9 : Int32)) hx hb dX2_plan_50 (by decide) ?_
        refine lv_icmp_ne (tgt := 56) hx hb dX2_plan_52 (by decide) (fun c16 => ?_) (fun c16 => ?_)
        · replace hM := if_f c16 hM
          refine lv_aload_n hx hb dX2_plan_56 rfl (lv_at hl 1 rfl) ?_
          refine lv_dup hx hb dX2_plan_57 rfl ?_
          refine va_get (D := D) (ci := 2) (v := .int (st15.1 6 2)) (C := RX2) (T := TX2) (N := 3) hx hb hts hi_X2_plan_X2 hown hK hI.1 6 (cg_6 am cI cC cS st15) rfl 2 (by decide) f_0 (fun _ h9 => h9) rfl dX2_plan_58 ?_
          refine lv_aload_n hx hb dX2_plan_61 rfl (lv_at hl 2 rfl) ?_
          refine lv_iload hx hb dX2_plan_62 (lv_at hl 0 rfl) ?_
          refine lv_iload hx hb dX2_plan_64 (lv_at hl 5 rfl) ?_
          refine lv_iload hx hb dX2_plan_66 (lv_at hl 6 rfl) ?_
          obtain ⟨v17, st18, hqv17, hM⟩ := bd_at hM
          refine jcallS (As := [.ref (am r1), .int v14, .int w10, .int w11]) (rest := [.int (st15.1 6 2), .ref (am 6)]) ⟨hx, hb, hml, hown, hts⟩ (jw_X2_movesTo D am cI cC cS hj N h1 hqv17) (va_cwS 4 hts gX2_plan_X2_movesTo rfl rfl rfl yd_X2_movesTo ⟨Nat.le_of_ble_eq_true rfl, Nat.le_of_ble_eq_true rfl⟩) hK hI rfl hl.1 rfl (Nat.le_of_ble_eq_true rfl) dX2_plan_68 (fun H locs hI => ?_)
          refine W.eq (g2 := F0 m 71 ls [.int v17, .int (st15.1 6 2), .ref (am 6)]) rfl ?_
          refine lv_iadd hx hb dX2_plan_71 ?_
          refine jput (D := D) (ci := 2) (v := .int ((st15.1 6 2) + v17)) (ty := .int) (C := RX2) (T := TX2) (N := 3) (st2 := pU st18 6 2 ((st15.1 6 2) + v17)) hx hb hts hi_X2_plan_X2 tyX2 tyX2_ok nmX2 hown hK (cD hj) hI 6 (cg_6 am cI cC cS st18) rfl 2 (by decide) f_0 (fun _ h9 => h9) rfl (by decide +kernel) rfl rfl (Nat.le_of_ble_eq_true rfl) (cs_6_2 am cI cC cS st18 _) dX2_plan_72 (fun st19 est19 H locs hI => ?_)
          replace hM := nm_at est19 hM
          refine lv_aload_n hx hb dX2_plan_75 rfl (lv_at hl 1 rfl) ?_
          refine va_get (D := D) (ci := 2) (v := .ref (am 8)) (C := RX2) (T := TX2) (N := 3) hx hb hts hi_X2_plan_X2 hown hK hI.1 6 (cg_6 am cI cC cS st19) rfl 1 (by decide) f_2 (fun _ h9 => h9) rfl dX2_plan_76 ?_
          refine lv_iload hx hb dX2_plan_79 (lv_at hl 7 rfl) ?_
          refine lv_iload hx hb dX2_plan_81 (lv_at hl 0 rfl) ?_
          obtain ⟨g21, hM⟩ := gd_at hM
          refine jiast (x := v14) (st2 := pU st19 8 (w12).toNatClampNeg (v14)) hx hb hK (cD hj) hI 8 0 (cg_8 am cI cC cS st19) rfl (inB_vp g21) (cs_8 am cI cC cS st19 _) dX2_plan_83 (fun st20 est20 H locs hI => ?_)
          replace hM := nm_at est20 hM
          refine lv_iload_n hx hb dX2_plan_84 rfl (lv_at hl 4 rfl) ?_
          refine lv_iconst (v := (1 : Int32)) hx hb dX2_plan_85 (by decide) ?_
          refine lv_iload hx hb dX2_plan_86 (lv_at hl 0 rfl) ?_
          refine lv_ishl hx hb dX2_plan_88 ?_
          refine lv_ior hx hb dX2_plan_89 ?_
          refine lv_istore_n (lv' := [(3, .int (w9 ||| ((1 : Int32) <<< (v14 &&& 31)))), (7, .int v14), (0, .ref (am 6)), (1, .ref (am r1)), (2, .ref (am r2)), (4, .int w10), (5, .int w11), (6, .int w12)]) hx hb dX2_plan_90 rfl hl (by decide) rfl (fun ls hl => ?_)
          refine lv_aload_n hx hb dX2_plan_91 rfl (lv_at hl 3 rfl) ?_
          refine va_get (D := D) (ci := 0) (v := .ref (am (r1 + 5))) (C := RX0) (T := TX0) (N := 11) hx hb hts hi_X2_plan_X0 hown hK hI.1 r1 (cg_Doll am cI cC cS st20 h1) rfl 4 (by decide) f_3 (fun _ h9 => h9) rfl dX2_plan_92 ?_
          refine lv_iload hx hb dX2_plan_95 (lv_at hl 1 rfl) ?_
          obtain ⟨g22, hM⟩ := gd_at hM
          refine va_iald hx hb hK hI.1 (r1 + 5) 0 (cg_Doll_beatLift am cI cC cS st20 h1) rfl (inB_vp g22) dX2_plan_97 ?_
          refine lv_istore (lv' := [(4, .int (st20.1 (r1 + 5) (v14).toNatClampNeg)), (3, .int (w9 ||| ((1 : Int32) <<< (v14 &&& 31)))), (7, .int v14), (0, .ref (am 6)), (1, .ref (am r1)), (2, .ref (am r2)), (5, .int w11), (6, .int w12)]) hx hb dX2_plan_98 hl (by decide) rfl (fun ls hl => ?_)
          refine lv_aload_n hx hb dX2_plan_100 rfl (lv_at hl 4 rfl) ?_
          refine va_get (D := D) (ci := 0) (v := .ref (am (r1 + 6))) (C := RX0) (T := TX0) (N := 11) hx hb hts hi_X2_plan_X0 hown hK hI.1 r1 (cg_Doll am cI cC cS st20 h1) rfl 5 (by decide) f_4 (fun _ h9 => h9) rfl dX2_plan_101 ?_
          refine lv_iload hx hb dX2_plan_104 (lv_at hl 2 rfl) ?_
          obtain ⟨g23, hM⟩ := gd_at hM
          refine va_iald hx hb hK hI.1 (r1 + 6) 0 (cg_Doll_beatTilt am cI cC cS st20 h1) rfl (inB_vp g23) dX2_plan_106 ?_
          refine lv_istore (lv' := [(5, .int (st20.1 (r1 + 6) (v14).toNatClampNeg)), (4, .int (st20.1 (r1 + 5) (v14).toNatClampNeg)), (3, .int (w9 ||| ((1 : Int32) <<< (v14 &&& 31)))), (7, .int v14), (0, .ref (am 6)), (1, .ref (am r1)), (2, .ref (am r2)), (6, .int w12)]) hx hb dX2_plan_107 hl (by decide) rfl (fun ls hl => ?_)
          refine lv_iinc (v := (w12 + (1 : Int32))) (lv' := [(6, .int (w12 + (1 : Int32))), (5, .int (st20.1 (r1 + 6) (v14).toNatClampNeg)), (4, .int (st20.1 (r1 + 5) (v14).toNatClampNeg)), (3, .int (w9 ||| ((1 : Int32) <<< (v14 &&& 31)))), (7, .int v14), (0, .ref (am 6)), (1, .ref (am r1)), (2, .ref (am r2))]) hx hb dX2_plan_109 hl (k := 7) rfl rfl (by decide) rfl (fun ls hl => ?_)
          refine lv_goto (tgt := 27) hx hb dX2_plan_112 (by decide) ?_
          have hz := Option.some.inj hM
          subst hz
          exact ih0 (w9 ||| ((1 : Int32) <<< (v14 &&& 31))) (st20.1 (r1 + 5) (v14).toNatClampNeg) (st20.1 (r1 + 6) (v14).toNatClampNeg) (w12 + (1 : Int32)) st20 _ _ _ hI (lv_sub hl [5, 6, 7, 3, 2, 1, 0] rfl) hk0
        · replace hM := if_t c16 hM
          have hz := Option.some.inj hM
          subst hz
          have hz := kn_r hk0
          exact W.vret hx hb hr (fun t ht hW => jq_v hK hI hz ht hW) hI.2.2.2 dX2_plan_55
  exact lp0 N (0 : Int32) v4 v6 (0 : Int32) st7 _ _ _ hI (lv_sub hl [4, 5, 6, 3, 2, 1, 0] rfl) hM
set_option maxRecDepth 20000 in
theorem hi_X3_known_X3 : ∀ w ∈ wsX30, w ∈ wsX3_known := by decide +kernel
set_option maxHeartbeats 4000000 in
set_option maxRecDepth 100000 in
theorem jw_X3_known {l : Launch} (D : va_G) (am : Nat → Nat) (cI cC cS : ClassId) (hj : aJ am 52) (N : Nat) {r0 : Nat} (h0 : ck_Past r0) {st stZ : PS} {rZ : Int32} (hM : jm_X3_known N r0 st = some (rZ, stZ)) : Met l yX3_known wsX3_known ({ frames := 0, cells := 0, slots := 0, locals := 0 }) (va_Pc [.ref (am r0)] (JH D (cW am cI cC cS) (cTy cI cC cS) st)) (JQ D (aA am 52) (cW am cI cC cS) (cTy cI cC cS) (some (.int rZ)) stZ) 0 0 (aA am 52) := by
  refine jStart (cc := cX3_known) (maxL := 1) (ret := (some .int)) [.ref (am r0)] (by decide) rfl (Nat.le_of_ble_eq_true rfl) (fun p e s m below meth c ls hx hb hr hlocks hts hown hml hK hI hl => ?_)
  have hown : s.vm.findClass RX3 = some m.cls := hown
  replace hl : lv_has ls 1 [(0, .ref (am r0))] := hl
  generalize hAV : ([.ref (am r0)] : List Value).toArray = AV at hts ⊢
  have f_0 := hts (.fieldLink RX3 15 "PuppetBar$Past" "steps" "I") (by decide +kernel)
  unfold jm_X3_known at hM
  refine lv_aload_n hx hb dX3_known_0 rfl (lv_at hl 0 rfl) ?_
  refine va_get (D := D) (ci := 3) (v := .int (st.1 r0 1)) (C := RX3) (T := TX3) (N := 3) hx hb hts hi_X3_known_X3 hown hK hI.1 r0 (cg_Past am cI cC cS st h0) rfl 1 (by decide) f_0 (fun _ h9 => h9) rfl dX3_known_1 ?_
  have hz := Option.some.inj hM
  exact W.iret hx hb hr (fun t ht hW => jq_i hK hI hz ht hW) hI.2.2.2 dX3_known_4
set_option maxRecDepth 20000 in
theorem hi_X3_empty_X3 : ∀ w ∈ wsX30, w ∈ wsX3_empty := by decide +kernel
set_option maxHeartbeats 4000000 in
set_option maxRecDepth 100000 in
theorem jw_X3_empty {l : Launch} (D : va_G) (am : Nat → Nat) (cI cC cS : ClassId) (hj : aJ am 52) (N : Nat) {r0 : Nat} (h0 : ck_Past r0) {st stZ : PS} {rZ : Unit} (hM : jm_X3_empty N r0 st = some (rZ, stZ)) : Met l yX3_empty wsX3_empty ({ frames := 0, cells := 0, slots := 0, locals := 0 }) (va_Pc [.ref (am r0)] (JH D (cW am cI cC cS) (cTy cI cC cS) st)) (JQ D (aA am 52) (cW am cI cC cS) (cTy cI cC cS) none stZ) 0 0 (aA am 52) := by
  refine jStart (cc := cX3_empty) (maxL := 1) (ret := none) [.ref (am r0)] (by decide) rfl (Nat.le_of_ble_eq_true rfl) (fun p e s m below meth c ls hx hb hr hlocks hts hown hml hK hI hl => ?_)
  have hown : s.vm.findClass RX3 = some m.cls := hown
  replace hl : lv_has ls 1 [(0, .ref (am r0))] := hl
  generalize hAV : ([.ref (am r0)] : List Value).toArray = AV at hts ⊢
  have f_0 := hts (.fieldLink RX3 15 "PuppetBar$Past" "steps" "I") (by decide +kernel)
  have f_1 := hts (.fieldLink RX3 19 "PuppetBar$Past" "next" "I") (by decide +kernel)
  unfold jm_X3_empty at hM
  refine lv_aload_n hx hb dX3_empty_0 rfl (lv_at hl 0 rfl) ?_
  refine lv_iconst (v := (0 : Int32)) hx hb dX3_empty_1 (by decide) ?_
  refine jput (D := D) (ci := 3) (v := .int (0 : Int32)) (ty := .int) (C := RX3) (T := TX3) (N := 3) (st2 := pU st r0 1 (0 : Int32)) hx hb hts hi_X3_empty_X3 tyX3 tyX3_ok nmX3 hown hK (cD hj) hI r0 (cg_Past am cI cC cS st h0) rfl 1 (by decide) f_0 (fun _ h9 => h9) rfl (by decide +kernel) rfl rfl (Nat.le_of_ble_eq_true rfl) (cs_Past_1 am cI cC cS st h0 _) dX3_empty_2 (fun st1 est1 H locs hI => ?_)
  replace hM := nm_at est1 hM
  refine lv_aload_n hx hb dX3_empty_5 rfl (lv_at hl 0 rfl) ?_
  refine lv_iconst (v := (0 : Int32)) hx hb dX3_empty_6 (by decide) ?_
  refine jput (D := D) (ci := 3) (v := .int (0 : Int32)) (ty := .int) (C := RX3) (T := TX3) (N := 3) (st2 := pU st1 r0 2 (0 : Int32)) hx hb hts hi_X3_empty_X3 tyX3 tyX3_ok nmX3 hown hK (cD hj) hI r0 (cg_Past am cI cC cS st1 h0) rfl 2 (by decide) f_1 (fun _ h9 => h9) rfl (by decide +kernel) rfl rfl (Nat.le_of_ble_eq_true rfl) (cs_Past_2 am cI cC cS st1 h0 _) dX3_empty_7 (fun st2 est2 H locs hI => ?_)
  replace hM := nm_at est2 hM
  have hz := Option.some.inj hM
  exact W.vret hx hb hr (fun t ht hW => jq_v hK hI hz ht hW) hI.2.2.2 dX3_empty_10
set_option maxRecDepth 20000 in
theorem hi_X4_writeTo_X4 : ∀ w ∈ wsX40, w ∈ wsX4_writeTo := by decide +kernel
set_option maxHeartbeats 4000000 in
set_option maxRecDepth 100000 in
theorem jw_X4_writeTo {l : Launch} (D : va_G) (am : Nat → Nat) (cI cC cS : ClassId) (hj : aJ am 52) (N : Nat) {r0 : Nat} {r1 : Nat} {x2 : Int32} (h0 : ck_Pose r0) (h1 : ck_Rows r1) {st stZ : PS} {rZ : Unit} (hM : jm_X4_writeTo N r0 r1 x2 st = some (rZ, stZ)) : Met l yX4_writeTo wsX4_writeTo ({ frames := 1, cells := 0, slots := 0, locals := 26 }) (va_Pc [.ref (am r0), .ref (am r1), .int x2] (JH D (cW am cI cC cS) (cTy cI cC cS) st)) (JQ D (aA am 52) (cW am cI cC cS) (cTy cI cC cS) none stZ) 0 0 (aA am 52) := by
  refine jStart (cc := cX4_writeTo) (maxL := 3) (ret := none) [.ref (am r0), .ref (am r1), .int x2] (by decide) rfl (Nat.le_of_ble_eq_true rfl) (fun p e s m below meth c ls hx hb hr hlocks hts hown hml hK hI hl => ?_)
  have hown : s.vm.findClass RX4 = some m.cls := hown
  replace hl : lv_has ls 3 [(0, .ref (am r0)), (1, .ref (am r1)), (2, .int x2)] := hl
  generalize hAV : ([.ref (am r0), .ref (am r1), .int x2] : List Value).toArray = AV at hts ⊢
  have f_0 := hts (.fieldLink RX4 11 "PuppetBar$Pose" "row" "[I") (by decide +kernel)
  have f_1 := hts (.methodLink RX4 21 arraycopyName) (by decide +kernel)
  have f_2 := hts (.native arraycopyName) (by decide +kernel)
  have f_3 := hts (.static arraycopyName) (by decide +kernel)
  have f_4 := hts (.initialized "java/lang/System") (by decide +kernel)
  unfold jm_X4_writeTo at hM
  refine lv_aload_n hx hb dX4_writeTo_0 rfl (lv_at hl 0 rfl) ?_
  refine va_get (D := D) (ci := 4) (v := .ref (am (r0 + 1))) (C := RX4) (T := TX4) (N := 1) hx hb hts hi_X4_writeTo_X4 hown hK hI.1 r0 (cg_Pose am cI cC cS st h0) rfl 0 (by decide) f_0 (fun _ h9 => h9) rfl dX4_writeTo_1 ?_
  refine lv_iconst (v := (0 : Int32)) hx hb dX4_writeTo_4 (by decide) ?_
  refine lv_aload_n hx hb dX4_writeTo_5 rfl (lv_at hl 1 rfl) ?_
  refine lv_iload_n hx hb dX4_writeTo_6 rfl (lv_at hl 2 rfl) ?_
  refine lv_bipush (v := (21 : Int32)) hx hb dX4_writeTo_7 (by decide) ?_
  refine lv_imul hx hb dX4_writeTo_9 ?_
  refine lv_bipush (v := (21 : Int32)) hx hb dX4_writeTo_10 (by decide) ?_
  obtain ⟨g2, hM⟩ := gd_at hM
  refine jcopy (st2 := pC st r1 (va_cpy (st.1 (r0 + 1)) (st.1 r1) ((0 : Int32)).toNatClampNeg ((x2 * (21 : Int32))).toNatClampNeg ((21 : Int32)).toNatClampNeg)) hx hb (hml.trans hl.1.symm) hown f_1 f_2 f_3 f_4 hK (cD hj) hI (r0 + 1) r1 0 (cg_Pose_row am cI cC cS st h0) (cg_Rows am cI cC cS st h1) rfl g2 (Nat.le_of_ble_eq_true rfl) (Nat.le_of_ble_eq_true rfl) (cs_Rows am cI cC cS st h1 _) dX4_writeTo_12 (fun st1 est1 H locs hI => ?_)
  replace hM := nm_at est1 hM
  have hz := Option.some.inj hM
  exact W.vret hx hb hr (fun t ht hW => jq_v hK hI hz ht hW) hI.2.2.2 dX4_writeTo_15
set_option maxRecDepth 20000 in
theorem hi_X3_add_X3 : ∀ w ∈ wsX30, w ∈ wsX3_add := by decide +kernel
set_option maxHeartbeats 4000000 in
set_option maxRecDepth 100000 in
theorem jw_X3_add {l : Launch} (D : va_G) (am : Nat → Nat) (cI cC cS : ClassId) (hj : aJ am 52) (N : Nat) {r0 : Nat} {r1 : Nat} (h0 : ck_Past r0) (h1 : ck_Pose r1) {st stZ : PS} {rZ : Unit} (hM : jm_X3_add N r0 r1 st = some (rZ, stZ)) : Met l yX3_add wsX3_add ({ frames := 2, cells := 0, slots := 0, locals := 48 }) (va_Pc [.ref (am r0), .ref (am r1)] (JH D (cW am cI cC cS) (cTy cI cC cS) st)) (JQ D (aA am 52) (cW am cI cC cS) (cTy cI cC cS) none stZ) 0 0 (aA am 52) := by
  refine jStart (cc := cX3_add) (maxL := 2) (ret := none) [.ref (am r0), .ref (am r1)] (by decide) rfl (Nat.le_of_ble_eq_true rfl) (fun p e s m below meth c ls hx hb hr hlocks hts hown hml hK hI hl => ?_)
  have hown : s.vm.findClass RX3 = some m.cls := hown
  replace hl : lv_has ls 2 [(0, .ref (am r0)), (1, .ref (am r1))] := hl
  generalize hAV : ([.ref (am r0), .ref (am r1)] : List Value).toArray = AV at hts ⊢
  have f_0 := hts (.fieldLink RX3 11 "PuppetBar$Past" "rows" "[I") (by decide +kernel)
  have f_1 := hts (.fieldLink RX3 19 "PuppetBar$Past" "next" "I") (by decide +kernel)
  have f_2 := hts (.fieldLink RX3 15 "PuppetBar$Past" "steps" "I") (by decide +kernel)
  have f_3 := hts (.methodLink RX3 26 Lib.Math.min.name) (by decide +kernel)
  have f_4 := hts (.static Lib.Math.min.name) (by decide +kernel)
  have f_5 := hts (.initialized "java/lang/Math") (by decide +kernel)
  have f_6 := hts (.code Lib.Math.min.name Lib.Math.min.code 2 (some .int)) (by decide +kernel)
  unfold jm_X3_add at hM
  refine lv_aload_n hx hb dX3_add_0 rfl (lv_at hl 1 rfl) ?_
  refine lv_aload_n hx hb dX3_add_1 rfl (lv_at hl 0 rfl) ?_
  refine va_get (D := D) (ci := 3) (v := .ref (am (r0 + 1))) (C := RX3) (T := TX3) (N := 3) hx hb hts hi_X3_add_X3 hown hK hI.1 r0 (cg_Past am cI cC cS st h0) rfl 0 (by decide) f_0 (fun _ h9 => h9) rfl dX3_add_2 ?_
  refine lv_aload_n hx hb dX3_add_5 rfl (lv_at hl 0 rfl) ?_
  refine va_get (D := D) (ci := 3) (v := .int (st.1 r0 2)) (C := RX3) (T := TX3) (N := 3) hx hb hts hi_X3_add_X3 hown hK hI.1 r0 (cg_Past am cI cC cS st h0) rfl 2 (by decide) f_1 (fun _ h9 => h9) rfl dX3_add_6 ?_
  obtain ⟨v1, st2, hqv1, hM⟩ := bd_at hM
  refine jcallV (C := RX4) (As := [.ref (am (r0 + 1)), .int (st.1 r0 2)]) (rest := []) ⟨hx, hb, hml, hown, hts⟩ (jw_X4_writeTo D am cI cC cS hj N h1 (ck_Past_Rows h0) hqv1) (cwV 2 hts gX3_add_X4_writeTo rfl rfl rfl yd_X4_writeTo ⟨Nat.le_of_ble_eq_true rfl, Nat.le_of_ble_eq_true rfl⟩) hK hI r1 (cg_Pose am cI cC cS st h1) rfl rfl hl.1 rfl (Nat.le_of_ble_eq_true rfl) dX3_add_9 (fun H locs hI => ?_)
  refine W.eq (g2 := F0 m 12 ls []) rfl ?_
  refine lv_aload_n hx hb dX3_add_12 rfl (lv_at hl 0 rfl) ?_
  refine lv_aload_n hx hb dX3_add_13 rfl (lv_at hl 0 rfl) ?_
  refine va_get (D := D) (ci := 3) (v := .int (st2.1 r0 2)) (C := RX3) (T := TX3) (N := 3) hx hb hts hi_X3_add_X3 hown hK hI.1 r0 (cg_Past am cI cC cS st2 h0) rfl 2 (by decide) f_1 (fun _ h9 => h9) rfl dX3_add_14 ?_
  refine lv_iconst (v := (1 : Int32)) hx hb dX3_add_17 (by decide) ?_
  refine lv_iadd hx hb dX3_add_18 ?_
  refine lv_bipush (v := (10 : Int32)) hx hb dX3_add_19 (by decide) ?_
  refine lv_icmp_ge (tgt := 33) hx hb dX3_add_21 (by decide) (fun c3 => ?_) (fun c3 => ?_)
  · replace hM := if_t c3 hM
    refine lv_iconst (v := (0 : Int32)) hx hb dX3_add_33 (by decide) ?_
    refine jput (D := D) (ci := 3) (v := .int (0 : Int32)) (ty := .int) (C := RX3) (T := TX3) (N := 3) (st2 := pU st2 r0 2 (0 : Int32)) hx hb hts hi_X3_add_X3 tyX3 tyX3_ok nmX3 hown hK (cD hj) hI r0 (cg_Past am cI cC cS st2 h0) rfl 2 (by decide) f_1 (fun _ h9 => h9) rfl (by decide +kernel) rfl rfl (Nat.le_of_ble_eq_true rfl) (cs_Past_2 am cI cC cS st2 h0 _) dX3_add_34 (fun st4 est4 H locs hI => ?_)
    replace hM := nm_at est4 hM
    refine lv_aload_n hx hb dX3_add_37 rfl (lv_at hl 0 rfl) ?_
    refine lv_aload_n hx hb dX3_add_38 rfl (lv_at hl 0 rfl) ?_
    refine va_get (D := D) (ci := 3) (v := .int (st4.1 r0 1)) (C := RX3) (T := TX3) (N := 3) hx hb hts hi_X3_add_X3 hown hK hI.1 r0 (cg_Past am cI cC cS st4 h0) rfl 1 (by decide) f_2 (fun _ h9 => h9) rfl dX3_add_39 ?_
    refine lv_iconst (v := (1 : Int32)) hx hb dX3_add_42 (by decide) ?_
    refine lv_iadd hx hb dX3_add_43 ?_
    refine lv_bipush (v := (10 : Int32)) hx hb dX3_add_44 (by decide) ?_
    refine va_mmin hx hb (hml.trans hl.1.symm) hown f_3 f_4 f_5 f_6 (Nat.le_of_ble_eq_true rfl) (Nat.le_of_ble_eq_true rfl) (Nat.zero_le _) (Nat.zero_le _) dX3_add_46 ?_
    refine lv_topi (fun y5 ey5 => ?_)
    replace hM := nm_at ey5 hM
    refine jput (D := D) (ci := 3) (v := .int y5) (ty := .int) (C := RX3) (T := TX3) (N := 3) (st2 := pU st4 r0 1 y5) hx hb hts hi_X3_add_X3 tyX3 tyX3_ok nmX3 hown hK (cD hj) hI r0 (cg_Past am cI cC cS st4 h0) rfl 1 (by decide) f_2 (fun _ h9 => h9) rfl (by decide +kernel) rfl rfl (Nat.le_of_ble_eq_true rfl) (cs_Past_1 am cI cC cS st4 h0 _) dX3_add_49 (fun st6 est6 H locs hI => ?_)
    replace hM := nm_at est6 hM
    have hz := Option.some.inj hM
    exact W.vret hx hb hr (fun t ht hW => jq_v hK hI hz ht hW) hI.2.2.2 dX3_add_52
  · replace hM := if_f c3 hM
    refine lv_aload_n hx hb dX3_add_24 rfl (lv_at hl 0 rfl) ?_
    refine va_get (D := D) (ci := 3) (v := .int (st2.1 r0 2)) (C := RX3) (T := TX3) (N := 3) hx hb hts hi_X3_add_X3 hown hK hI.1 r0 (cg_Past am cI cC cS st2 h0) rfl 2 (by decide) f_1 (fun _ h9 => h9) rfl dX3_add_25 ?_
    refine lv_iconst (v := (1 : Int32)) hx hb dX3_add_28 (by decide) ?_
    refine lv_iadd hx hb dX3_add_29 ?_
    refine lv_goto (tgt := 34) hx hb dX3_add_30 (by decide) ?_
    refine jput (D := D) (ci := 3) (v := .int ((st2.1 r0 2) + (1 : Int32))) (ty := .int) (C := RX3) (T := TX3) (N := 3) (st2 := pU st2 r0 2 ((st2.1 r0 2) + (1 : Int32))) hx hb hts hi_X3_add_X3 tyX3 tyX3_ok nmX3 hown hK (cD hj) hI r0 (cg_Past am cI cC cS st2 h0) rfl 2 (by decide) f_1 (fun _ h9 => h9) rfl (by decide +kernel) rfl rfl (Nat.le_of_ble_eq_true rfl) (cs_Past_2 am cI cC cS st2 h0 _) dX3_add_34 (fun st7 est7 H locs hI => ?_)
    replace hM := nm_at est7 hM
    refine lv_aload_n hx hb dX3_add_37 rfl (lv_at hl 0 rfl) ?_
    refine lv_aload_n hx hb dX3_add_38 rfl (lv_at hl 0 rfl) ?_
    refine va_get (D := D) (ci := 3) (v := .int (st7.1 r0 1)) (C := RX3) (T := TX3) (N := 3) hx hb hts hi_X3_add_X3 hown hK hI.1 r0 (cg_Past am cI cC cS st7 h0) rfl 1 (by decide) f_2 (fun _ h9 => h9) rfl dX3_add_39 ?_
    refine lv_iconst (v := (1 : Int32)) hx hb dX3_add_42 (by decide) ?_
    refine lv_iadd hx hb dX3_add_43 ?_
    refine lv_bipush (v := (10 : Int32)) hx hb dX3_add_44 (by decide) ?_
    refine va_mmin hx hb (hml.trans hl.1.symm) hown f_3 f_4 f_5 f_6 (Nat.le_of_ble_eq_true rfl) (Nat.le_of_ble_eq_true rfl) (Nat.zero_le _) (Nat.zero_le _) dX3_add_46 ?_
    refine lv_topi (fun y8 ey8 => ?_)
    replace hM := nm_at ey8 hM
    refine jput (D := D) (ci := 3) (v := .int y8) (ty := .int) (C := RX3) (T := TX3) (N := 3) (st2 := pU st7 r0 1 y8) hx hb hts hi_X3_add_X3 tyX3 tyX3_ok nmX3 hown hK (cD hj) hI r0 (cg_Past am cI cC cS st7 h0) rfl 1 (by decide) f_2 (fun _ h9 => h9) rfl (by decide +kernel) rfl rfl (Nat.le_of_ble_eq_true rfl) (cs_Past_1 am cI cC cS st7 h0 _) dX3_add_49 (fun st9 est9 H locs hI => ?_)
    replace hM := nm_at est9 hM
    have hz := Option.some.inj hM
    exact W.vret hx hb hr (fun t ht hW => jq_v hK hI hz ht hW) hI.2.2.2 dX3_add_52
set_option maxRecDepth 20000 in
theorem hi_X4_readFrom_X4 : ∀ w ∈ wsX40, w ∈ wsX4_readFrom := by decide +kernel
set_option maxHeartbeats 4000000 in
set_option maxRecDepth 100000 in
theorem jw_X4_readFrom {l : Launch} (D : va_G) (am : Nat → Nat) (cI cC cS : ClassId) (hj : aJ am 52) (N : Nat) {r0 : Nat} {r1 : Nat} {x2 : Int32} (h0 : ck_Pose r0) (h1 : ck_Rows r1) {st stZ : PS} {rZ : Unit} (hM : jm_X4_readFrom N r0 r1 x2 st = some (rZ, stZ)) : Met l yX4_readFrom wsX4_readFrom ({ frames := 1, cells := 0, slots := 0, locals := 26 }) (va_Pc [.ref (am r0), .ref (am r1), .int x2] (JH D (cW am cI cC cS) (cTy cI cC cS) st)) (JQ D (aA am 52) (cW am cI cC cS) (cTy cI cC cS) none stZ) 0 0 (aA am 52) := by
  refine jStart (cc := cX4_readFrom) (maxL := 3) (ret := none) [.ref (am r0), .ref (am r1), .int x2] (by decide) rfl (Nat.le_of_ble_eq_true rfl) (fun p e s m below meth c ls hx hb hr hlocks hts hown hml hK hI hl => ?_)
  have hown : s.vm.findClass RX4 = some m.cls := hown
  replace hl : lv_has ls 3 [(0, .ref (am r0)), (1, .ref (am r1)), (2, .int x2)] := hl
  generalize hAV : ([.ref (am r0), .ref (am r1), .int x2] : List Value).toArray = AV at hts ⊢
  have f_0 := hts (.fieldLink RX4 11 "PuppetBar$Pose" "row" "[I") (by decide +kernel)
  have f_1 := hts (.methodLink RX4 21 arraycopyName) (by decide +kernel)
  have f_2 := hts (.native arraycopyName) (by decide +kernel)
  have f_3 := hts (.static arraycopyName) (by decide +kernel)
  have f_4 := hts (.initialized "java/lang/System") (by decide +kernel)
  unfold jm_X4_readFrom at hM
  refine lv_aload_n hx hb dX4_readFrom_0 rfl (lv_at hl 1 rfl) ?_
  refine lv_iload_n hx hb dX4_readFrom_1 rfl (lv_at hl 2 rfl) ?_
  refine lv_bipush (v := (21 : Int32)) hx hb dX4_readFrom_2 (by decide) ?_
  refine lv_imul hx hb dX4_readFrom_4 ?_
  refine lv_aload_n hx hb dX4_readFrom_5 rfl (lv_at hl 0 rfl) ?_
  refine va_get (D := D) (ci := 4) (v := .ref (am (r0 + 1))) (C := RX4) (T := TX4) (N := 1) hx hb hts hi_X4_readFrom_X4 hown hK hI.1 r0 (cg_Pose am cI cC cS st h0) rfl 0 (by decide) f_0 (fun _ h9 => h9) rfl dX4_readFrom_6 ?_
  refine lv_iconst (v := (0 : Int32)) hx hb dX4_readFrom_9 (by decide) ?_
  refine lv_bipush (v := (21 : Int32)) hx hb dX4_readFrom_10 (by decide) ?_
  obtain ⟨g2, hM⟩ := gd_at hM
  refine jcopy (st2 := pC st (r0 + 1) (va_cpy (st.1 r1) (st.1 (r0 + 1)) ((x2 * (21 : Int32))).toNatClampNeg ((0 : Int32)).toNatClampNeg ((21 : Int32)).toNatClampNeg)) hx hb (hml.trans hl.1.symm) hown f_1 f_2 f_3 f_4 hK (cD hj) hI r1 (r0 + 1) 0 (cg_Rows am cI cC cS st h1) (cg_Pose_row am cI cC cS st h0) rfl g2 (Nat.le_of_ble_eq_true rfl) (Nat.le_of_ble_eq_true rfl) (cs_Pose_row am cI cC cS st h0 _) dX4_readFrom_12 (fun st1 est1 H locs hI => ?_)
  replace hM := nm_at est1 hM
  have hz := Option.some.inj hM
  exact W.vret hx hb hr (fun t ht hW => jq_v hK hI hz ht hW) hI.2.2.2 dX4_readFrom_15
set_option maxRecDepth 20000 in
theorem hi_X3_takeBack_X3 : ∀ w ∈ wsX30, w ∈ wsX3_takeBack := by decide +kernel
set_option maxHeartbeats 4000000 in
set_option maxRecDepth 100000 in
theorem jw_X3_takeBack {l : Launch} (D : va_G) (am : Nat → Nat) (cI cC cS : ClassId) (hj : aJ am 52) (N : Nat) {r0 : Nat} {r1 : Nat} (h0 : ck_Past r0) (h1 : ck_Pose r1) {st stZ : PS} {rZ : Int32} (hM : jm_X3_takeBack N r0 r1 st = some (rZ, stZ)) : Met l yX3_takeBack wsX3_takeBack ({ frames := 2, cells := 0, slots := 0, locals := 48 }) (va_Pc [.ref (am r0), .ref (am r1)] (JH D (cW am cI cC cS) (cTy cI cC cS) st)) (JQ D (aA am 52) (cW am cI cC cS) (cTy cI cC cS) (some (.int rZ)) stZ) 0 0 (aA am 52) := by
  refine jStart (cc := cX3_takeBack) (maxL := 2) (ret := (some .boolean)) [.ref (am r0), .ref (am r1)] (by decide) rfl (Nat.le_of_ble_eq_true rfl) (fun p e s m below meth c ls hx hb hr hlocks hts hown hml hK hI hl => ?_)
  have hown : s.vm.findClass RX3 = some m.cls := hown
  replace hl : lv_has ls 2 [(0, .ref (am r0)), (1, .ref (am r1))] := hl
  generalize hAV : ([.ref (am r0), .ref (am r1)] : List Value).toArray = AV at hts ⊢
  have f_0 := hts (.fieldLink RX3 15 "PuppetBar$Past" "steps" "I") (by decide +kernel)
  have f_1 := hts (.fieldLink RX3 19 "PuppetBar$Past" "next" "I") (by decide +kernel)
  have f_2 := hts (.fieldLink RX3 11 "PuppetBar$Past" "rows" "[I") (by decide +kernel)
  unfold jm_X3_takeBack at hM
  refine lv_aload_n hx hb dX3_takeBack_0 rfl (lv_at hl 0 rfl) ?_
  refine va_get (D := D) (ci := 3) (v := .int (st.1 r0 1)) (C := RX3) (T := TX3) (N := 3) hx hb hts hi_X3_takeBack_X3 hown hK hI.1 r0 (cg_Past am cI cC cS st h0) rfl 1 (by decide) f_0 (fun _ h9 => h9) rfl dX3_takeBack_1 ?_
  refine lv_if_ne (tgt := 9) hx hb dX3_takeBack_4 (by decide) (fun c1 => ?_) (fun c1 => ?_)
  · replace hM := if_f c1 hM
    refine lv_aload_n hx hb dX3_takeBack_9 rfl (lv_at hl 0 rfl) ?_
    refine lv_aload_n hx hb dX3_takeBack_10 rfl (lv_at hl 0 rfl) ?_
    refine va_get (D := D) (ci := 3) (v := .int (st.1 r0 2)) (C := RX3) (T := TX3) (N := 3) hx hb hts hi_X3_takeBack_X3 hown hK hI.1 r0 (cg_Past am cI cC cS st h0) rfl 2 (by decide) f_1 (fun _ h9 => h9) rfl dX3_takeBack_11 ?_
    refine lv_if_le (tgt := 26) hx hb dX3_takeBack_14 (by decide) (fun c2 => ?_) (fun c2 => ?_)
    · replace hM := if_t c2 hM
      refine lv_bipush (v := (9 : Int32)) hx hb dX3_takeBack_26 (by decide) ?_
      refine jput (D := D) (ci := 3) (v := .int (9 : Int32)) (ty := .int) (C := RX3) (T := TX3) (N := 3) (st2 := pU st r0 2 (9 : Int32)) hx hb hts hi_X3_takeBack_X3 tyX3 tyX3_ok nmX3 hown hK (cD hj) hI r0 (cg_Past am cI cC cS st h0) rfl 2 (by decide) f_1 (fun _ h9 => h9) rfl (by decide +kernel) rfl rfl (Nat.le_of_ble_eq_true rfl) (cs_Past_2 am cI cC cS st h0 _) dX3_takeBack_28 (fun st3 est3 H locs hI => ?_)
      replace hM := nm_at est3 hM
      refine lv_aload_n hx hb dX3_takeBack_31 rfl (lv_at hl 0 rfl) ?_
      refine lv_dup hx hb dX3_takeBack_32 rfl ?_
      refine va_get (D := D) (ci := 3) (v := .int (st3.1 r0 1)) (C := RX3) (T := TX3) (N := 3) hx hb hts hi_X3_takeBack_X3 hown hK hI.1 r0 (cg_Past am cI cC cS st3 h0) rfl 1 (by decide) f_0 (fun _ h9 => h9) rfl dX3_takeBack_33 ?_
      refine lv_iconst (v := (1 : Int32)) hx hb dX3_takeBack_36 (by decide) ?_
      refine lv_isub hx hb dX3_takeBack_37 ?_
      refine jput (D := D) (ci := 3) (v := .int ((st3.1 r0 1) - (1 : Int32))) (ty := .int) (C := RX3) (T := TX3) (N := 3) (st2 := pU st3 r0 1 ((st3.1 r0 1) - (1 : Int32))) hx hb hts hi_X3_takeBack_X3 tyX3 tyX3_ok nmX3 hown hK (cD hj) hI r0 (cg_Past am cI cC cS st3 h0) rfl 1 (by decide) f_0 (fun _ h9 => h9) rfl (by decide +kernel) rfl rfl (Nat.le_of_ble_eq_true rfl) (cs_Past_1 am cI cC cS st3 h0 _) dX3_takeBack_38 (fun st4 est4 H locs hI => ?_)
      replace hM := nm_at est4 hM
      refine lv_aload_n hx hb dX3_takeBack_41 rfl (lv_at hl 1 rfl) ?_
      refine lv_aload_n hx hb dX3_takeBack_42 rfl (lv_at hl 0 rfl) ?_
      refine va_get (D := D) (ci := 3) (v := .ref (am (r0 + 1))) (C := RX3) (T := TX3) (N := 3) hx hb hts hi_X3_takeBack_X3 hown hK hI.1 r0 (cg_Past am cI cC cS st4 h0) rfl 0 (by decide) f_2 (fun _ h9 => h9) rfl dX3_takeBack_43 ?_
      refine lv_aload_n hx hb dX3_takeBack_46 rfl (lv_at hl 0 rfl) ?_
      refine va_get (D := D) (ci := 3) (v := .int (st4.1 r0 2)) (C := RX3) (T := TX3) (N := 3) hx hb hts hi_X3_takeBack_X3 hown hK hI.1 r0 (cg_Past am cI cC cS st4 h0) rfl 2 (by decide) f_1 (fun _ h9 => h9) rfl dX3_takeBack_47 ?_
      obtain ⟨v5, st6, hqv5, hM⟩ := bd_at hM
      refine jcallV (C := RX4) (As := [.ref (am (r0 + 1)), .int (st4.1 r0 2)]) (rest := []) ⟨hx, hb, hml, hown, hts⟩ (jw_X4_readFrom D am cI cC cS hj N h1 (ck_Past_Rows h0) hqv5) (cwV 2 hts gX3_takeBack_X4_readFrom rfl rfl rfl yd_X4_readFrom ⟨Nat.le_of_ble_eq_true rfl, Nat.le_of_ble_eq_true rfl⟩) hK hI r1 (cg_Pose am cI cC cS st4 h1) rfl rfl hl.1 rfl (Nat.le_of_ble_eq_true rfl) dX3_takeBack_50 (fun H locs hI => ?_)
      refine W.eq (g2 := F0 m 53 ls []) rfl ?_
      refine lv_iconst (v := (1 : Int32)) hx hb dX3_takeBack_53 (by decide) ?_
      have hz := Option.some.inj hM
      exact W.zret hx hb hr rfl (fun t ht hW => jq_i hK hI hz ht hW) hI.2.2.2 dX3_takeBack_54
    · replace hM := if_f c2 hM
      refine lv_aload_n hx hb dX3_takeBack_17 rfl (lv_at hl 0 rfl) ?_
      refine va_get (D := D) (ci := 3) (v := .int (st.1 r0 2)) (C := RX3) (T := TX3) (N := 3) hx hb hts hi_X3_takeBack_X3 hown hK hI.1 r0 (cg_Past am cI cC cS st h0) rfl 2 (by decide) f_1 (fun _ h9 => h9) rfl dX3_takeBack_18 ?_
      refine lv_iconst (v := (1 : Int32)) hx hb dX3_takeBack_21 (by decide) ?_
      refine lv_isub hx hb dX3_takeBack_22 ?_
      refine lv_goto (tgt := 28) hx hb dX3_takeBack_23 (by decide) ?_
      refine jput (D := D) (ci := 3) (v := .int ((st.1 r0 2) - (1 : Int32))) (ty := .int) (C := RX3) (T := TX3) (N := 3) (st2 := pU st r0 2 ((st.1 r0 2) - (1 : Int32))) hx hb hts hi_X3_takeBack_X3 tyX3 tyX3_ok nmX3 hown hK (cD hj) hI r0 (cg_Past am cI cC cS st h0) rfl 2 (by decide) f_1 (fun _ h9 => h9) rfl (by decide +kernel) rfl rfl (Nat.le_of_ble_eq_true rfl) (cs_Past_2 am cI cC cS st h0 _) dX3_takeBack_28 (fun st7 est7 H locs hI => ?_)
      replace hM := nm_at est7 hM
      refine lv_aload_n hx hb dX3_takeBack_31 rfl (lv_at hl 0 rfl) ?_
      refine lv_dup hx hb dX3_takeBack_32 rfl ?_
      refine va_get (D := D) (ci := 3) (v := .int (st7.1 r0 1)) (C := RX3) (T := TX3) (N := 3) hx hb hts hi_X3_takeBack_X3 hown hK hI.1 r0 (cg_Past am cI cC cS st7 h0) rfl 1 (by decide) f_0 (fun _ h9 => h9) rfl dX3_takeBack_33 ?_
      refine lv_iconst (v := (1 : Int32)) hx hb dX3_takeBack_36 (by decide) ?_
      refine lv_isub hx hb dX3_takeBack_37 ?_
      refine jput (D := D) (ci := 3) (v := .int ((st7.1 r0 1) - (1 : Int32))) (ty := .int) (C := RX3) (T := TX3) (N := 3) (st2 := pU st7 r0 1 ((st7.1 r0 1) - (1 : Int32))) hx hb hts hi_X3_takeBack_X3 tyX3 tyX3_ok nmX3 hown hK (cD hj) hI r0 (cg_Past am cI cC cS st7 h0) rfl 1 (by decide) f_0 (fun _ h9 => h9) rfl (by decide +kernel) rfl rfl (Nat.le_of_ble_eq_true rfl) (cs_Past_1 am cI cC cS st7 h0 _) dX3_takeBack_38 (fun st8 est8 H locs hI => ?_)
      replace hM := nm_at est8 hM
      refine lv_aload_n hx hb dX3_takeBack_41 rfl (lv_at hl 1 rfl) ?_
      refine lv_aload_n hx hb dX3_takeBack_42 rfl (lv_at hl 0 rfl) ?_
      refine va_get (D := D) (ci := 3) (v := .ref (am (r0 + 1))) (C := RX3) (T := TX3) (N := 3) hx hb hts hi_X3_takeBack_X3 hown hK hI.1 r0 (cg_Past am cI cC cS st8 h0) rfl 0 (by decide) f_2 (fun _ h9 => h9) rfl dX3_takeBack_43 ?_
      refine lv_aload_n hx hb dX3_takeBack_46 rfl (lv_at hl 0 rfl) ?_
      refine va_get (D := D) (ci := 3) (v := .int (st8.1 r0 2)) (C := RX3) (T := TX3) (N := 3) hx hb hts hi_X3_takeBack_X3 hown hK hI.1 r0 (cg_Past am cI cC cS st8 h0) rfl 2 (by decide) f_1 (fun _ h9 => h9) rfl dX3_takeBack_47 ?_
      obtain ⟨v9, st10, hqv9, hM⟩ := bd_at hM
      refine jcallV (C := RX4) (As := [.ref (am (r0 + 1)), .int (st8.1 r0 2)]) (rest := []) ⟨hx, hb, hml, hown, hts⟩ (jw_X4_readFrom D am cI cC cS hj N h1 (ck_Past_Rows h0) hqv9) (cwV 2 hts gX3_takeBack_X4_readFrom rfl rfl rfl yd_X4_readFrom ⟨Nat.le_of_ble_eq_true rfl, Nat.le_of_ble_eq_true rfl⟩) hK hI r1 (cg_Pose am cI cC cS st8 h1) rfl rfl hl.1 rfl (Nat.le_of_ble_eq_true rfl) dX3_takeBack_50 (fun H locs hI => ?_)
      refine W.eq (g2 := F0 m 53 ls []) rfl ?_
      refine lv_iconst (v := (1 : Int32)) hx hb dX3_takeBack_53 (by decide) ?_
      have hz := Option.some.inj hM
      exact W.zret hx hb hr rfl (fun t ht hW => jq_i hK hI hz ht hW) hI.2.2.2 dX3_takeBack_54
  · replace hM := if_t c1 hM
    refine lv_iconst (v := (0 : Int32)) hx hb dX3_takeBack_7 (by decide) ?_
    have hz := Option.some.inj hM
    exact W.zret hx hb hr rfl (fun t ht hW => jq_i hK hI hz ht hW) hI.2.2.2 dX3_takeBack_8
set_option maxRecDepth 20000 in
theorem hi_X3_copyFrom_X3 : ∀ w ∈ wsX30, w ∈ wsX3_copyFrom := by decide +kernel
set_option maxHeartbeats 4000000 in
set_option maxRecDepth 100000 in
theorem jw_X3_copyFrom {l : Launch} (D : va_G) (am : Nat → Nat) (cI cC cS : ClassId) (hj : aJ am 52) (N : Nat) {r0 : Nat} {r1 : Nat} (h0 : ck_Past r0) (h1 : ck_Past r1) {st stZ : PS} {rZ : Unit} (hM : jm_X3_copyFrom N r0 r1 st = some (rZ, stZ)) : Met l yX3_copyFrom wsX3_copyFrom ({ frames := 1, cells := 0, slots := 0, locals := 26 }) (va_Pc [.ref (am r0), .ref (am r1)] (JH D (cW am cI cC cS) (cTy cI cC cS) st)) (JQ D (aA am 52) (cW am cI cC cS) (cTy cI cC cS) none stZ) 0 0 (aA am 52) := by
  refine jStart (cc := cX3_copyFrom) (maxL := 2) (ret := none) [.ref (am r0), .ref (am r1)] (by decide) rfl (Nat.le_of_ble_eq_true rfl) (fun p e s m below meth c ls hx hb hr hlocks hts hown hml hK hI hl => ?_)
  have hown : s.vm.findClass RX3 = some m.cls := hown
  replace hl : lv_has ls 2 [(0, .ref (am r0)), (1, .ref (am r1))] := hl
  generalize hAV : ([.ref (am r0), .ref (am r1)] : List Value).toArray = AV at hts ⊢
  have f_0 := hts (.fieldLink RX3 11 "PuppetBar$Past" "rows" "[I") (by decide +kernel)
  have f_1 := hts (.methodLink RX3 35 arraycopyName) (by decide +kernel)
  have f_2 := hts (.native arraycopyName) (by decide +kernel)
  have f_3 := hts (.static arraycopyName) (by decide +kernel)
  have f_4 := hts (.initialized "java/lang/System") (by decide +kernel)
  have f_5 := hts (.fieldLink RX3 15 "PuppetBar$Past" "steps" "I") (by decide +kernel)
  have f_6 := hts (.fieldLink RX3 19 "PuppetBar$Past" "next" "I") (by decide +kernel)
  unfold jm_X3_copyFrom at hM
  refine lv_aload_n hx hb dX3_copyFrom_0 rfl (lv_at hl 1 rfl) ?_
  refine va_get (D := D) (ci := 3) (v := .ref (am (r1 + 1))) (C := RX3) (T := TX3) (N := 3) hx hb hts hi_X3_copyFrom_X3 hown hK hI.1 r1 (cg_Past am cI cC cS st h1) rfl 0 (by decide) f_0 (fun _ h9 => h9) rfl dX3_copyFrom_1 ?_
  refine lv_iconst (v := (0 : Int32)) hx hb dX3_copyFrom_4 (by decide) ?_
  refine lv_aload_n hx hb dX3_copyFrom_5 rfl (lv_at hl 0 rfl) ?_
  refine va_get (D := D) (ci := 3) (v := .ref (am (r0 + 1))) (C := RX3) (T := TX3) (N := 3) hx hb hts hi_X3_copyFrom_X3 hown hK hI.1 r0 (cg_Past am cI cC cS st h0) rfl 0 (by decide) f_0 (fun _ h9 => h9) rfl dX3_copyFrom_6 ?_
  refine lv_iconst (v := (0 : Int32)) hx hb dX3_copyFrom_9 (by decide) ?_
  refine lv_aload_n hx hb dX3_copyFrom_10 rfl (lv_at hl 0 rfl) ?_
  refine va_get (D := D) (ci := 3) (v := .ref (am (r0 + 1))) (C := RX3) (T := TX3) (N := 3) hx hb hts hi_X3_copyFrom_X3 hown hK hI.1 r0 (cg_Past am cI cC cS st h0) rfl 0 (by decide) f_0 (fun _ h9 => h9) rfl dX3_copyFrom_11 ?_
  refine va_alen (v := (210 : Int32)) hx hb hK hI.1 (r0 + 1) 0 (cg_Past_rows am cI cC cS st h0) rfl rfl dX3_copyFrom_14 ?_
  refine jcopy (st2 := pC st (r0 + 1) (va_cpy (st.1 (r1 + 1)) (st.1 (r0 + 1)) ((0 : Int32)).toNatClampNeg ((0 : Int32)).toNatClampNeg ((210 : Int32)).toNatClampNeg)) hx hb (hml.trans hl.1.symm) hown f_1 f_2 f_3 f_4 hK (cD hj) hI (r1 + 1) (r0 + 1) 0 (cg_Past_rows am cI cC cS st h1) (cg_Past_rows am cI cC cS st h0) rfl rfl (Nat.le_of_ble_eq_true rfl) (Nat.le_of_ble_eq_true rfl) (cs_Past_rows am cI cC cS st h0 _) dX3_copyFrom_15 (fun st1 est1 H locs hI => ?_)
  replace hM := nm_at est1 hM
  refine lv_aload_n hx hb dX3_copyFrom_18 rfl (lv_at hl 0 rfl) ?_
  refine lv_aload_n hx hb dX3_copyFrom_19 rfl (lv_at hl 1 rfl) ?_
  refine va_get (D := D) (ci := 3) (v := .int (st1.1 r1 1)) (C := RX3) (T := TX3) (N := 3) hx hb hts hi_X3_copyFrom_X3 hown hK hI.1 r1 (cg_Past am cI cC cS st1 h1) rfl 1 (by decide) f_5 (fun _ h9 => h9) rfl dX3_copyFrom_20 ?_
  refine jput (D := D) (ci := 3) (v := .int (st1.1 r1 1)) (ty := .int) (C := RX3) (T := TX3) (N := 3) (st2 := pU st1 r0 1 (st1.1 r1 1)) hx hb hts hi_X3_copyFrom_X3 tyX3 tyX3_ok nmX3 hown hK (cD hj) hI r0 (cg_Past am cI cC cS st1 h0) rfl 1 (by decide) f_5 (fun _ h9 => h9) rfl (by decide +kernel) rfl rfl (Nat.le_of_ble_eq_true rfl) (cs_Past_1 am cI cC cS st1 h0 _) dX3_copyFrom_23 (fun st2 est2 H locs hI => ?_)
  replace hM := nm_at est2 hM
  refine lv_aload_n hx hb dX3_copyFrom_26 rfl (lv_at hl 0 rfl) ?_
  refine lv_aload_n hx hb dX3_copyFrom_27 rfl (lv_at hl 1 rfl) ?_
  refine va_get (D := D) (ci := 3) (v := .int (st2.1 r1 2)) (C := RX3) (T := TX3) (N := 3) hx hb hts hi_X3_copyFrom_X3 hown hK hI.1 r1 (cg_Past am cI cC cS st2 h1) rfl 2 (by decide) f_6 (fun _ h9 => h9) rfl dX3_copyFrom_28 ?_
  refine jput (D := D) (ci := 3) (v := .int (st2.1 r1 2)) (ty := .int) (C := RX3) (T := TX3) (N := 3) (st2 := pU st2 r0 2 (st2.1 r1 2)) hx hb hts hi_X3_copyFrom_X3 tyX3 tyX3_ok nmX3 hown hK (cD hj) hI r0 (cg_Past am cI cC cS st2 h0) rfl 2 (by decide) f_6 (fun _ h9 => h9) rfl (by decide +kernel) rfl rfl (Nat.le_of_ble_eq_true rfl) (cs_Past_2 am cI cC cS st2 h0 _) dX3_copyFrom_31 (fun st3 est3 H locs hI => ?_)
  replace hM := nm_at est3 hM
  have hz := Option.some.inj hM
  exact W.vret hx hb hr (fun t ht hW => jq_v hK hI hz ht hW) hI.2.2.2 dX3_copyFrom_34
set_option maxRecDepth 20000 in
theorem hi_X4_cut_X4 : ∀ w ∈ wsX40, w ∈ wsX4_cut := by decide +kernel
set_option maxHeartbeats 4000000 in
set_option maxRecDepth 100000 in
theorem jw_X4_cut {l : Launch} (D : va_G) (am : Nat → Nat) (cI cC cS : ClassId) (hj : aJ am 52) (N : Nat) {r0 : Nat} (h0 : ck_Pose r0) {st stZ : PS} {rZ : Int32} (hM : jm_X4_cut N r0 st = some (rZ, stZ)) : Met l yX4_cut wsX4_cut ({ frames := 0, cells := 0, slots := 0, locals := 0 }) (va_Pc [.ref (am r0)] (JH D (cW am cI cC cS) (cTy cI cC cS) st)) (JQ D (aA am 52) (cW am cI cC cS) (cTy cI cC cS) (some (.int rZ)) stZ) 0 0 (aA am 52) := by
  refine jStart (cc := cX4_cut) (maxL := 1) (ret := (some .int)) [.ref (am r0)] (by decide) rfl (Nat.le_of_ble_eq_true rfl) (fun p e s m below meth c ls hx hb hr hlocks hts hown hml hK hI hl => ?_)
  have hown : s.vm.findClass RX4 = some m.cls := hown
  replace hl : lv_has ls 1 [(0, .ref (am r0))] := hl
  generalize hAV : ([.ref (am r0)] : List Value).toArray = AV at hts ⊢
  have f_0 := hts (.fieldLink RX4 11 "PuppetBar$Pose" "row" "[I") (by decide +kernel)
  unfold jm_X4_cut at hM
  refine lv_aload_n hx hb dX4_cut_0 rfl (lv_at hl 0 rfl) ?_
  refine va_get (D := D) (ci := 4) (v := .ref (am (r0 + 1))) (C := RX4) (T := TX4) (N := 1) hx hb hts hi_X4_cut_X4 hown hK hI.1 r0 (cg_Pose am cI cC cS st h0) rfl 0 (by decide) f_0 (fun _ h9 => h9) rfl dX4_cut_1 ?_
  refine lv_iconst (v := (2 : Int32)) hx hb dX4_cut_4 (by decide) ?_
  refine va_iald hx hb hK hI.1 (r0 + 1) 0 (cg_Pose_row am cI cC cS st h0) rfl (inB_vp rfl) dX4_cut_5 ?_
  refine W.eq (g2 := F0 m 6 ls [.int (st.1 (r0 + 1) 2)]) rfl ?_
  have hz := Option.some.inj hM
  exact W.iret hx hb hr (fun t ht hW => jq_i hK hI hz ht hW) hI.2.2.2 dX4_cut_6
set_option maxRecDepth 20000 in
theorem hi_X4_lengthOf_X4 : ∀ w ∈ wsX40, w ∈ wsX4_lengthOf := by decide +kernel
set_option maxHeartbeats 4000000 in
set_option maxRecDepth 100000 in
theorem jw_X4_lengthOf {l : Launch} (D : va_G) (am : Nat → Nat) (cI cC cS : ClassId) (hj : aJ am 52) (N : Nat) {r0 : Nat} {x1 : Int32} (h0 : ck_Pose r0) {st stZ : PS} {rZ : Int32} (hM : jm_X4_lengthOf N r0 x1 st = some (rZ, stZ)) : Met l yX4_lengthOf wsX4_lengthOf ({ frames := 0, cells := 0, slots := 0, locals := 0 }) (va_Pc [.ref (am r0), .int x1] (JH D (cW am cI cC cS) (cTy cI cC cS) st)) (JQ D (aA am 52) (cW am cI cC cS) (cTy cI cC cS) (some (.int rZ)) stZ) 0 0 (aA am 52) := by
  refine jStart (cc := cX4_lengthOf) (maxL := 2) (ret := (some .int)) [.ref (am r0), .int x1] (by decide) rfl (Nat.le_of_ble_eq_true rfl) (fun p e s m below meth c ls hx hb hr hlocks hts hown hml hK hI hl => ?_)
  have hown : s.vm.findClass RX4 = some m.cls := hown
  replace hl : lv_has ls 2 [(0, .ref (am r0)), (1, .int x1)] := hl
  generalize hAV : ([.ref (am r0), .int x1] : List Value).toArray = AV at hts ⊢
  have f_0 := hts (.fieldLink RX4 11 "PuppetBar$Pose" "row" "[I") (by decide +kernel)
  unfold jm_X4_lengthOf at hM
  refine lv_aload_n hx hb dX4_lengthOf_0 rfl (lv_at hl 0 rfl) ?_
  refine va_get (D := D) (ci := 4) (v := .ref (am (r0 + 1))) (C := RX4) (T := TX4) (N := 1) hx hb hts hi_X4_lengthOf_X4 hown hK hI.1 r0 (cg_Pose am cI cC cS st h0) rfl 0 (by decide) f_0 (fun _ h9 => h9) rfl dX4_lengthOf_1 ?_
  refine lv_bipush (v := (15 : Int32)) hx hb dX4_lengthOf_4 (by decide) ?_
  refine lv_iload_n hx hb dX4_lengthOf_6 rfl (lv_at hl 1 rfl) ?_
  refine lv_iadd hx hb dX4_lengthOf_7 ?_
  obtain ⟨g1, hM⟩ := gd_at hM
  refine va_iald hx hb hK hI.1 (r0 + 1) 0 (cg_Pose_row am cI cC cS st h0) rfl (inB_vp g1) dX4_lengthOf_8 ?_
  have hz := Option.some.inj hM
  exact W.iret hx hb hr (fun t ht hW => jq_i hK hI hz ht hW) hI.2.2.2 dX4_lengthOf_9
set_option maxRecDepth 20000 in
theorem hi_X4_setCut_X4 : ∀ w ∈ wsX40, w ∈ wsX4_setCut := by decide +kernel
set_option maxHeartbeats 4000000 in
set_option maxRecDepth 100000 in
theorem jw_X4_setCut {l : Launch} (D : va_G) (am : Nat → Nat) (cI cC cS : ClassId) (hj : aJ am 52) (N : Nat) {r0 : Nat} {x1 : Int32} (h0 : ck_Pose r0) {st stZ : PS} {rZ : Unit} (hM : jm_X4_setCut N r0 x1 st = some (rZ, stZ)) : Met l yX4_setCut wsX4_setCut ({ frames := 0, cells := 0, slots := 0, locals := 0 }) (va_Pc [.ref (am r0), .int x1] (JH D (cW am cI cC cS) (cTy cI cC cS) st)) (JQ D (aA am 52) (cW am cI cC cS) (cTy cI cC cS) none stZ) 0 0 (aA am 52) := by
  refine jStart (cc := cX4_setCut) (maxL := 2) (ret := none) [.ref (am r0), .int x1] (by decide) rfl (Nat.le_of_ble_eq_true rfl) (fun p e s m below meth c ls hx hb hr hlocks hts hown hml hK hI hl => ?_)
  have hown : s.vm.findClass RX4 = some m.cls := hown
  replace hl : lv_has ls 2 [(0, .ref (am r0)), (1, .int x1)] := hl
  generalize hAV : ([.ref (am r0), .int x1] : List Value).toArray = AV at hts ⊢
  have f_0 := hts (.fieldLink RX4 11 "PuppetBar$Pose" "row" "[I") (by decide +kernel)
  unfold jm_X4_setCut at hM
  refine lv_aload_n hx hb dX4_setCut_0 rfl (lv_at hl 0 rfl) ?_
  refine va_get (D := D) (ci := 4) (v := .ref (am (r0 + 1))) (C := RX4) (T := TX4) (N := 1) hx hb hts hi_X4_setCut_X4 hown hK hI.1 r0 (cg_Pose am cI cC cS st h0) rfl 0 (by decide) f_0 (fun _ h9 => h9) rfl dX4_setCut_1 ?_
  refine lv_iconst (v := (2 : Int32)) hx hb dX4_setCut_4 (by decide) ?_
  refine lv_iload_n hx hb dX4_setCut_5 rfl (lv_at hl 1 rfl) ?_
  refine jiast (x := x1) (st2 := pU st (r0 + 1) 2 (x1)) hx hb hK (cD hj) hI (r0 + 1) 0 (cg_Pose_row am cI cC cS st h0) rfl (inB_vp rfl) (cs_Pose_row am cI cC cS st h0 _) dX4_setCut_6 (fun st1 est1 H locs hI => ?_)
  replace hM := nm_at est1 hM
  have hz := Option.some.inj hM
  exact W.vret hx hb hr (fun t ht hW => jq_v hK hI hz ht hW) hI.2.2.2 dX4_setCut_7
set_option maxRecDepth 20000 in
theorem hi_X5_begin_X5 : ∀ w ∈ wsX50, w ∈ wsX5_begin := by decide +kernel
set_option maxHeartbeats 4000000 in
set_option maxRecDepth 100000 in
theorem jw_X5_begin {l : Launch} (D : va_G) (am : Nat → Nat) (cI cC cS : ClassId) (hj : aJ am 52) (N : Nat) {r0 : Nat} {r1 : Nat} (h0 : ck_Scene r0) (h1 : ck_Pose r1) {st stZ : PS} {rZ : Unit} (hM : jm_X5_begin N r0 r1 st = some (rZ, stZ)) : Met l yX5_begin wsX5_begin ({ frames := 2, cells := 0, slots := 0, locals := 47 }) (va_Pc [.ref (am r0), .ref (am r1)] (JH D (cW am cI cC cS) (cTy cI cC cS) st)) (JQ D (aA am 52) (cW am cI cC cS) (cTy cI cC cS) none stZ) 0 0 (aA am 52) := by
  refine jStart (cc := cX5_begin) (maxL := 2) (ret := none) [.ref (am r0), .ref (am r1)] (by decide) rfl (Nat.le_of_ble_eq_true rfl) (fun p e s m below meth c ls hx hb hr hlocks hts hown hml hK hI hl => ?_)
  have hown : s.vm.findClass RX5 = some m.cls := hown
  replace hl : lv_has ls 2 [(0, .ref (am r0)), (1, .ref (am r1))] := hl
  generalize hAV : ([.ref (am r0), .ref (am r1)] : List Value).toArray = AV at hts ⊢
  have f_0 := hts (.fieldLink RX5 10 "PuppetBar$Scene" "pose" "LPuppetBar$Pose;") (by decide +kernel)
  have f_1 := hts (.fieldLink RX5 19 "PuppetBar$Scene" "past" "LPuppetBar$Past;") (by decide +kernel)
  unfold jm_X5_begin at hM
  refine lv_aload_n hx hb dX5_begin_0 rfl (lv_at hl 0 rfl) ?_
  refine va_get (D := D) (ci := 5) (v := .ref (am (r0 + 1))) (C := RX5) (T := TX5) (N := 3) hx hb hts hi_X5_begin_X5 hown hK hI.1 r0 (cg_Scene am cI cC cS st h0) rfl 0 (by decide) f_0 (fun _ h9 => h9) rfl dX5_begin_1 ?_
  refine lv_aload_n hx hb dX5_begin_4 rfl (lv_at hl 1 rfl) ?_
  obtain ⟨v1, st2, hqv1, hM⟩ := bd_at hM
  refine jcallV (C := RX4) (As := [.ref (am r1)]) (rest := []) ⟨hx, hb, hml, hown, hts⟩ (jw_X4_copyFrom D am cI cC cS hj N (ck_Scene_Pose h0) h1 hqv1) (cwV 1 hts gX5_begin_X4_copyFrom rfl rfl rfl yd_X4_copyFrom ⟨Nat.le_of_ble_eq_true rfl, Nat.le_of_ble_eq_true rfl⟩) hK hI (r0 + 1) (cg_Pose am cI cC cS st (ck_Scene_Pose h0)) rfl rfl hl.1 rfl (Nat.le_of_ble_eq_true rfl) dX5_begin_5 (fun H locs hI => ?_)
  refine W.eq (g2 := F0 m 8 ls []) rfl ?_
  refine lv_aload_n hx hb dX5_begin_8 rfl (lv_at hl 0 rfl) ?_
  refine va_get (D := D) (ci := 5) (v := .ref (am (r0 + 3))) (C := RX5) (T := TX5) (N := 3) hx hb hts hi_X5_begin_X5 hown hK hI.1 r0 (cg_Scene am cI cC cS st2 h0) rfl 1 (by decide) f_1 (fun _ h9 => h9) rfl dX5_begin_9 ?_
  obtain ⟨v3, st4, hqv3, hM⟩ := bd_at hM
  refine jcallV (C := RX3) (As := []) (rest := []) ⟨hx, hb, hml, hown, hts⟩ (jw_X3_empty D am cI cC cS hj N (ck_Scene_Past h0) hqv3) (cwV 0 hts gX5_begin_X3_empty rfl rfl rfl yd_X3_empty ⟨Nat.le_of_ble_eq_true rfl, Nat.le_of_ble_eq_true rfl⟩) hK hI (r0 + 3) (cg_Past am cI cC cS st2 (ck_Scene_Past h0)) rfl rfl hl.1 rfl (Nat.le_of_ble_eq_true rfl) dX5_begin_12 (fun H locs hI => ?_)
  refine W.eq (g2 := F0 m 15 ls []) rfl ?_
  have hz := Option.some.inj hM
  exact W.vret hx hb hr (fun t ht hW => jq_v hK hI hz ht hW) hI.2.2.2 dX5_begin_15
set_option maxRecDepth 20000 in
theorem hi_X5_remember_X5 : ∀ w ∈ wsX50, w ∈ wsX5_remember := by decide +kernel
set_option maxHeartbeats 4000000 in
set_option maxRecDepth 100000 in
theorem jw_X5_remember {l : Launch} (D : va_G) (am : Nat → Nat) (cI cC cS : ClassId) (hj : aJ am 52) (N : Nat) {r0 : Nat} (h0 : ck_Scene r0) {st stZ : PS} {rZ : Unit} (hM : jm_X5_remember N r0 st = some (rZ, stZ)) : Met l yX5_remember wsX5_remember ({ frames := 3, cells := 0, slots := 0, locals := 69 }) (va_Pc [.ref (am r0)] (JH D (cW am cI cC cS) (cTy cI cC cS) st)) (JQ D (aA am 52) (cW am cI cC cS) (cTy cI cC cS) none stZ) 0 0 (aA am 52) := by
  refine jStart (cc := cX5_remember) (maxL := 1) (ret := none) [.ref (am r0)] (by decide) rfl (Nat.le_of_ble_eq_true rfl) (fun p e s m below meth c ls hx hb hr hlocks hts hown hml hK hI hl => ?_)
  have hown : s.vm.findClass RX5 = some m.cls := hown
  replace hl : lv_has ls 1 [(0, .ref (am r0))] := hl
  generalize hAV : ([.ref (am r0)] : List Value).toArray = AV at hts ⊢
  have f_0 := hts (.fieldLink RX5 19 "PuppetBar$Scene" "past" "LPuppetBar$Past;") (by decide +kernel)
  have f_1 := hts (.fieldLink RX5 10 "PuppetBar$Scene" "pose" "LPuppetBar$Pose;") (by decide +kernel)
  unfold jm_X5_remember at hM
  refine lv_aload_n hx hb dX5_remember_0 rfl (lv_at hl 0 rfl) ?_
  refine va_get (D := D) (ci := 5) (v := .ref (am (r0 + 3))) (C := RX5) (T := TX5) (N := 3) hx hb hts hi_X5_remember_X5 hown hK hI.1 r0 (cg_Scene am cI cC cS st h0) rfl 1 (by decide) f_0 (fun _ h9 => h9) rfl dX5_remember_1 ?_
  refine lv_aload_n hx hb dX5_remember_4 rfl (lv_at hl 0 rfl) ?_
  refine va_get (D := D) (ci := 5) (v := .ref (am (r0 + 1))) (C := RX5) (T := TX5) (N := 3) hx hb hts hi_X5_remember_X5 hown hK hI.1 r0 (cg_Scene am cI cC cS st h0) rfl 0 (by decide) f_1 (fun _ h9 => h9) rfl dX5_remember_5 ?_
  obtain ⟨v1, st2, hqv1, hM⟩ := bd_at hM
  refine jcallV (C := RX3) (As := [.ref (am (r0 + 1))]) (rest := []) ⟨hx, hb, hml, hown, hts⟩ (jw_X3_add D am cI cC cS hj N (ck_Scene_Past h0) (ck_Scene_Pose h0) hqv1) (cwV 1 hts gX5_remember_X3_add rfl rfl rfl yd_X3_add ⟨Nat.le_of_ble_eq_true rfl, Nat.le_of_ble_eq_true rfl⟩) hK hI (r0 + 3) (cg_Past am cI cC cS st (ck_Scene_Past h0)) rfl rfl hl.1 rfl (Nat.le_of_ble_eq_true rfl) dX5_remember_8 (fun H locs hI => ?_)
  refine W.eq (g2 := F0 m 11 ls []) rfl ?_
  have hz := Option.some.inj hM
  exact W.vret hx hb hr (fun t ht hW => jq_v hK hI hz ht hW) hI.2.2.2 dX5_remember_11
set_option maxRecDepth 20000 in
theorem hi_X5_copyFrom_X5 : ∀ w ∈ wsX50, w ∈ wsX5_copyFrom := by decide +kernel
set_option maxHeartbeats 4000000 in
set_option maxRecDepth 100000 in
theorem jw_X5_copyFrom {l : Launch} (D : va_G) (am : Nat → Nat) (cI cC cS : ClassId) (hj : aJ am 52) (N : Nat) {r0 : Nat} {r1 : Nat} (h0 : ck_Scene r0) (h1 : ck_Scene r1) {st stZ : PS} {rZ : Unit} (hM : jm_X5_copyFrom N r0 r1 st = some (rZ, stZ)) : Met l yX5_copyFrom wsX5_copyFrom ({ frames := 2, cells := 0, slots := 0, locals := 47 }) (va_Pc [.ref (am r0), .ref (am r1)] (JH D (cW am cI cC cS) (cTy cI cC cS) st)) (JQ D (aA am 52) (cW am cI cC cS) (cTy cI cC cS) none stZ) 0 0 (aA am 52) := by
  refine jStart (cc := cX5_copyFrom) (maxL := 2) (ret := none) [.ref (am r0), .ref (am r1)] (by decide) rfl (Nat.le_of_ble_eq_true rfl) (fun p e s m below meth c ls hx hb hr hlocks hts hown hml hK hI hl => ?_)
  have hown : s.vm.findClass RX5 = some m.cls := hown
  replace hl : lv_has ls 2 [(0, .ref (am r0)), (1, .ref (am r1))] := hl
  generalize hAV : ([.ref (am r0), .ref (am r1)] : List Value).toArray = AV at hts ⊢
  have f_0 := hts (.fieldLink RX5 10 "PuppetBar$Scene" "pose" "LPuppetBar$Pose;") (by decide +kernel)
  have f_1 := hts (.fieldLink RX5 19 "PuppetBar$Scene" "past" "LPuppetBar$Past;") (by decide +kernel)
  unfold jm_X5_copyFrom at hM
  refine lv_aload_n hx hb dX5_copyFrom_0 rfl (lv_at hl 0 rfl) ?_
  refine va_get (D := D) (ci := 5) (v := .ref (am (r0 + 1))) (C := RX5) (T := TX5) (N := 3) hx hb hts hi_X5_copyFrom_X5 hown hK hI.1 r0 (cg_Scene am cI cC cS st h0) rfl 0 (by decide) f_0 (fun _ h9 => h9) rfl dX5_copyFrom_1 ?_
  refine lv_aload_n hx hb dX5_copyFrom_4 rfl (lv_at hl 1 rfl) ?_
  refine va_get (D := D) (ci := 5) (v := .ref (am (r1 + 1))) (C := RX5) (T := TX5) (N := 3) hx hb hts hi_X5_copyFrom_X5 hown hK hI.1 r1 (cg_Scene am cI cC cS st h1) rfl 0 (by decide) f_0 (fun _ h9 => h9) rfl dX5_copyFrom_5 ?_
  obtain ⟨v1, st2, hqv1, hM⟩ := bd_at hM
  refine jcallV (C := RX4) (As := [.ref (am (r1 + 1))]) (rest := []) ⟨hx, hb, hml, hown, hts⟩ (jw_X4_copyFrom D am cI cC cS hj N (ck_Scene_Pose h0) (ck_Scene_Pose h1) hqv1) (cwV 1 hts gX5_copyFrom_X4_copyFrom rfl rfl rfl yd_X4_copyFrom ⟨Nat.le_of_ble_eq_true rfl, Nat.le_of_ble_eq_true rfl⟩) hK hI (r0 + 1) (cg_Pose am cI cC cS st (ck_Scene_Pose h0)) rfl rfl hl.1 rfl (Nat.le_of_ble_eq_true rfl) dX5_copyFrom_8 (fun H locs hI => ?_)
  refine W.eq (g2 := F0 m 11 ls []) rfl ?_
  refine lv_aload_n hx hb dX5_copyFrom_11 rfl (lv_at hl 0 rfl) ?_
  refine va_get (D := D) (ci := 5) (v := .ref (am (r0 + 3))) (C := RX5) (T := TX5) (N := 3) hx hb hts hi_X5_copyFrom_X5 hown hK hI.1 r0 (cg_Scene am cI cC cS st2 h0) rfl 1 (by decide) f_1 (fun _ h9 => h9) rfl dX5_copyFrom_12 ?_
  refine lv_aload_n hx hb dX5_copyFrom_15 rfl (lv_at hl 1 rfl) ?_
  refine va_get (D := D) (ci := 5) (v := .ref (am (r1 + 3))) (C := RX5) (T := TX5) (N := 3) hx hb hts hi_X5_copyFrom_X5 hown hK hI.1 r1 (cg_Scene am cI cC cS st2 h1) rfl 1 (by decide) f_1 (fun _ h9 => h9) rfl dX5_copyFrom_16 ?_
  obtain ⟨v3, st4, hqv3, hM⟩ := bd_at hM
  refine jcallV (C := RX3) (As := [.ref (am (r1 + 3))]) (rest := []) ⟨hx, hb, hml, hown, hts⟩ (jw_X3_copyFrom D am cI cC cS hj N (ck_Scene_Past h0) (ck_Scene_Past h1) hqv3) (cwV 1 hts gX5_copyFrom_X3_copyFrom rfl rfl rfl yd_X3_copyFrom ⟨Nat.le_of_ble_eq_true rfl, Nat.le_of_ble_eq_true rfl⟩) hK hI (r0 + 3) (cg_Past am cI cC cS st2 (ck_Scene_Past h0)) rfl rfl hl.1 rfl (Nat.le_of_ble_eq_true rfl) dX5_copyFrom_19 (fun H locs hI => ?_)
  refine W.eq (g2 := F0 m 22 ls []) rfl ?_
  have hz := Option.some.inj hM
  exact W.vret hx hb hr (fun t ht hW => jq_v hK hI hz ht hW) hI.2.2.2 dX5_copyFrom_22
set_option maxRecDepth 20000 in
theorem hi_X6_size_X6 : ∀ w ∈ wsX60, w ∈ wsX6_size := by decide +kernel
set_option maxHeartbeats 4000000 in
set_option maxRecDepth 100000 in
theorem jw_X6_size {l : Launch} (D : va_G) (am : Nat → Nat) (cI cC cS : ClassId) (hj : aJ am 52) (N : Nat) {st stZ : PS} {rZ : Int32} (hM : jm_X6_size N st = some (rZ, stZ)) : Met l yX6_size wsX6_size ({ frames := 0, cells := 0, slots := 0, locals := 0 }) (va_Pc [.ref (am 1)] (JH D (cW am cI cC cS) (cTy cI cC cS) st)) (JQ D (aA am 52) (cW am cI cC cS) (cTy cI cC cS) (some (.int rZ)) stZ) 0 0 (aA am 52) := by
  refine jStart (cc := cX6_size) (maxL := 1) (ret := (some .int)) [.ref (am 1)] (by decide) rfl (Nat.le_of_ble_eq_true rfl) (fun p e s m below meth c ls hx hb hr hlocks hts hown hml hK hI hl => ?_)
  have hown : s.vm.findClass RX6 = some m.cls := hown
  replace hl : lv_has ls 1 [(0, .ref (am 1))] := hl
  generalize hAV : ([.ref (am 1)] : List Value).toArray = AV at hts ⊢
  have f_0 := hts (.fieldLink RX6 19 "PuppetBar$Script" "size" "I") (by decide +kernel)
  unfold jm_X6_size at hM
  refine lv_aload_n hx hb dX6_size_0 rfl (lv_at hl 0 rfl) ?_
  refine va_get (D := D) (ci := 6) (v := .int (st.1 1 1)) (C := RX6) (T := TX6) (N := 9) hx hb hts hi_X6_size_X6 hown hK hI.1 1 (cg_1 am cI cC cS st) rfl 1 (by decide) f_0 (fun _ h9 => h9) rfl dX6_size_1 ?_
  have hz := Option.some.inj hM
  exact W.iret hx hb hr (fun t ht hW => jq_i hK hI hz ht hW) hI.2.2.2 dX6_size_4
set_option maxRecDepth 20000 in
theorem hi_X6_add_X6 : ∀ w ∈ wsX60, w ∈ wsX6_add := by decide +kernel
set_option maxHeartbeats 4000000 in
set_option maxRecDepth 100000 in
theorem jw_X6_add {l : Launch} (D : va_G) (am : Nat → Nat) (cI cC cS : ClassId) (hj : aJ am 52) (N : Nat) {x1 : Int32} {st stZ : PS} {rZ : Int32} (hM : jm_X6_add N x1 st = some (rZ, stZ)) : Met l yX6_add wsX6_add ({ frames := 0, cells := 0, slots := 0, locals := 0 }) (va_Pc [.ref (am 1), .int x1] (JH D (cW am cI cC cS) (cTy cI cC cS) st)) (JQ D (aA am 52) (cW am cI cC cS) (cTy cI cC cS) (some (.int rZ)) stZ) 0 0 (aA am 52) := by
  refine jStart (cc := cX6_add) (maxL := 2) (ret := (some .boolean)) [.ref (am 1), .int x1] (by decide) rfl (Nat.le_of_ble_eq_true rfl) (fun p e s m below meth c ls hx hb hr hlocks hts hown hml hK hI hl => ?_)
  have hown : s.vm.findClass RX6 = some m.cls := hown
  replace hl : lv_has ls 2 [(0, .ref (am 1)), (1, .int x1)] := hl
  generalize hAV : ([.ref (am 1), .int x1] : List Value).toArray = AV at hts ⊢
  have f_0 := hts (.fieldLink RX6 19 "PuppetBar$Script" "size" "I") (by decide +kernel)
  have f_1 := hts (.fieldLink RX6 11 "PuppetBar$Script" "bytes" "[C") (by decide +kernel)
  unfold jm_X6_add at hM
  refine lv_aload_n hx hb dX6_add_0 rfl (lv_at hl 0 rfl) ?_
  refine va_get (D := D) (ci := 6) (v := .int (st.1 1 1)) (C := RX6) (T := TX6) (N := 9) hx hb hts hi_X6_add_X6 hown hK hI.1 1 (cg_1 am cI cC cS st) rfl 1 (by decide) f_0 (fun _ h9 => h9) rfl dX6_add_1 ?_
  refine lv_sipush (v := (170 : Int32)) hx hb dX6_add_4 (by decide) ?_
  refine lv_icmp_lt (tgt := 12) hx hb dX6_add_7 (by decide) (fun c1 => ?_) (fun c1 => ?_)
  · replace hM := if_t c1 hM
    refine lv_aload_n hx hb dX6_add_12 rfl (lv_at hl 0 rfl) ?_
    refine va_get (D := D) (ci := 6) (v := .ref (am 2)) (C := RX6) (T := TX6) (N := 9) hx hb hts hi_X6_add_X6 hown hK hI.1 1 (cg_1 am cI cC cS st) rfl 0 (by decide) f_1 (fun _ h9 => h9) rfl dX6_add_13 ?_
    refine lv_aload_n hx hb dX6_add_16 rfl (lv_at hl 0 rfl) ?_
    refine va_get (D := D) (ci := 6) (v := .int (st.1 1 1)) (C := RX6) (T := TX6) (N := 9) hx hb hts hi_X6_add_X6 hown hK hI.1 1 (cg_1 am cI cC cS st) rfl 1 (by decide) f_0 (fun _ h9 => h9) rfl dX6_add_17 ?_
    refine lv_iload_n hx hb dX6_add_20 rfl (lv_at hl 1 rfl) ?_
    refine lv_i2c (v := ((x1).toUInt32 % 65536).toInt32) hx hb dX6_add_21 rfl ?_
    obtain ⟨g3, hM⟩ := gd_at hM
    refine jcast (x := (((x1).toUInt32 % 65536).toInt32)) (st2 := pU st 2 ((st.1 1 1)).toNatClampNeg (vp_nar .char (((x1).toUInt32 % 65536).toInt32))) hx hb hK (cD hj) hI 2 1 (cg_2 am cI cC cS st) rfl (inB_vp g3) (cs_2 am cI cC cS st _) dX6_add_22 (fun st2 est2 H locs hI => ?_)
    replace hM := nm_at est2 hM
    refine lv_aload_n hx hb dX6_add_23 rfl (lv_at hl 0 rfl) ?_
    refine lv_dup hx hb dX6_add_24 rfl ?_
    refine va_get (D := D) (ci := 6) (v := .int (st2.1 1 1)) (C := RX6) (T := TX6) (N := 9) hx hb hts hi_X6_add_X6 hown hK hI.1 1 (cg_1 am cI cC cS st2) rfl 1 (by decide) f_0 (fun _ h9 => h9) rfl dX6_add_25 ?_
    refine lv_iconst (v := (1 : Int32)) hx hb dX6_add_28 (by decide) ?_
    refine lv_iadd hx hb dX6_add_29 ?_
    refine jput (D := D) (ci := 6) (v := .int ((st2.1 1 1) + (1 : Int32))) (ty := .int) (C := RX6) (T := TX6) (N := 9) (st2 := pU st2 1 1 ((st2.1 1 1) + (1 : Int32))) hx hb hts hi_X6_add_X6 tyX6 tyX6_ok nmX6 hown hK (cD hj) hI 1 (cg_1 am cI cC cS st2) rfl 1 (by decide) f_0 (fun _ h9 => h9) rfl (by decide +kernel) rfl rfl (Nat.le_of_ble_eq_true rfl) (cs_1_1 am cI cC cS st2 _) dX6_add_30 (fun st4 est4 H locs hI => ?_)
    replace hM := nm_at est4 hM
    refine lv_iconst (v := (1 : Int32)) hx hb dX6_add_33 (by decide) ?_
    have hz := Option.some.inj hM
    exact W.zret hx hb hr rfl (fun t ht hW => jq_i hK hI hz ht hW) hI.2.2.2 dX6_add_34
  · replace hM := if_f c1 hM
    refine lv_iconst (v := (0 : Int32)) hx hb dX6_add_10 (by decide) ?_
    have hz := Option.some.inj hM
    exact W.zret hx hb hr rfl (fun t ht hW => jq_i hK hI hz ht hW) hI.2.2.2 dX6_add_11
set_option maxRecDepth 20000 in
theorem hi_X6_empty_X6 : ∀ w ∈ wsX60, w ∈ wsX6_empty := by decide +kernel
set_option maxHeartbeats 4000000 in
set_option maxRecDepth 100000 in
theorem jw_X6_empty {l : Launch} (D : va_G) (am : Nat → Nat) (cI cC cS : ClassId) (hj : aJ am 52) (N : Nat) {st stZ : PS} {rZ : Int32} (hM : jm_X6_empty N st = some (rZ, stZ)) : Met l yX6_empty wsX6_empty ({ frames := 0, cells := 0, slots := 0, locals := 0 }) (va_Pc [.ref (am 1)] (JH D (cW am cI cC cS) (cTy cI cC cS) st)) (JQ D (aA am 52) (cW am cI cC cS) (cTy cI cC cS) (some (.int rZ)) stZ) 0 0 (aA am 52) := by
  refine jStart (cc := cX6_empty) (maxL := 2) (ret := (some .int)) [.ref (am 1)] (by decide) rfl (Nat.le_of_ble_eq_true rfl) (fun p e s m below meth c ls hx hb hr hlocks hts hown hml hK hI hl => ?_)
  have hown : s.vm.findClass RX6 = some m.cls := hown
  replace hl : lv_has ls 2 [(0, .ref (am 1))] := hl
  generalize hAV : ([.ref (am 1)] : List Value).toArray = AV at hts ⊢
  have f_0 := hts (.fieldLink RX6 19 "PuppetBar$Script" "size" "I") (by decide +kernel)
  unfold jm_X6_empty at hM
  refine lv_aload_n hx hb dX6_empty_0 rfl (lv_at hl 0 rfl) ?_
  refine va_get (D := D) (ci := 6) (v := .int (st.1 1 1)) (C := RX6) (T := TX6) (N := 9) hx hb hts hi_X6_empty_X6 hown hK hI.1 1 (cg_1 am cI cC cS st) rfl 1 (by decide) f_0 (fun _ h9 => h9) rfl dX6_empty_1 ?_
  refine lv_istore_n (lv' := [(1, .int (st.1 1 1)), (0, .ref (am 1))]) hx hb dX6_empty_4 rfl hl (by decide) rfl (fun ls hl => ?_)
  refine lv_aload_n hx hb dX6_empty_5 rfl (lv_at hl 1 rfl) ?_
  refine lv_iconst (v := (0 : Int32)) hx hb dX6_empty_6 (by decide) ?_
  refine jput (D := D) (ci := 6) (v := .int (0 : Int32)) (ty := .int) (C := RX6) (T := TX6) (N := 9) (st2 := pU st 1 1 (0 : Int32)) hx hb hts hi_X6_empty_X6 tyX6 tyX6_ok nmX6 hown hK (cD hj) hI 1 (cg_1 am cI cC cS st) rfl 1 (by decide) f_0 (fun _ h9 => h9) rfl (by decide +kernel) rfl rfl (Nat.le_of_ble_eq_true rfl) (cs_1_1 am cI cC cS st _) dX6_empty_7 (fun st1 est1 H locs hI => ?_)
  replace hM := nm_at est1 hM
  refine lv_iload_n hx hb dX6_empty_10 rfl (lv_at hl 0 rfl) ?_
  have hz := Option.some.inj hM
  exact W.iret hx hb hr (fun t ht hW => jq_i hK hI hz ht hW) hI.2.2.2 dX6_empty_11
set_option maxRecDepth 20000 in
theorem hi_X6_isLetter_X6 : ∀ w ∈ wsX60, w ∈ wsX6_isLetter := by decide +kernel
set_option maxHeartbeats 4000000 in
set_option maxRecDepth 100000 in
theorem jw_X6_isLetter {l : Launch} (D : va_G) (am : Nat → Nat) (cI cC cS : ClassId) (hj : aJ am 52) (N : Nat) {x1 : Int32} {st stZ : PS} {rZ : Int32} (hM : jm_X6_isLetter N x1 st = some (rZ, stZ)) : Met l yX6_isLetter wsX6_isLetter ({ frames := 0, cells := 0, slots := 0, locals := 0 }) (va_Pc [.ref (am 1), .int x1] (JH D (cW am cI cC cS) (cTy cI cC cS) st)) (JQ D (aA am 52) (cW am cI cC cS) (cTy cI cC cS) (some (.int rZ)) stZ) 0 0 (aA am 52) := by
  refine jStart (cc := cX6_isLetter) (maxL := 2) (ret := (some .boolean)) [.ref (am 1), .int x1] (by decide) rfl (Nat.le_of_ble_eq_true rfl) (fun p e s m below meth c ls hx hb hr hlocks hts hown hml hK hI hl => ?_)
  have hown : s.vm.findClass RX6 = some m.cls := hown
  replace hl : lv_has ls 2 [(0, .ref (am 1)), (1, .int x1)] := hl
  generalize hAV : ([.ref (am 1), .int x1] : List Value).toArray = AV at hts ⊢
  have f_0 := hts (.fieldLink RX6 11 "PuppetBar$Script" "bytes" "[C") (by decide +kernel)
  unfold jm_X6_isLetter at hM
  refine lv_aload_n hx hb dX6_isLetter_0 rfl (lv_at hl 0 rfl) ?_
  refine va_get (D := D) (ci := 6) (v := .ref (am 2)) (C := RX6) (T := TX6) (N := 9) hx hb hts hi_X6_isLetter_X6 hown hK hI.1 1 (cg_1 am cI cC cS st) rfl 0 (by decide) f_0 (fun _ h9 => h9) rfl dX6_isLetter_1 ?_
  refine lv_iload_n hx hb dX6_isLetter_4 rfl (lv_at hl 1 rfl) ?_
  obtain ⟨g1, hM⟩ := gd_at hM
  refine va_cald hx hb hK hI.1 2 1 (cg_2 am cI cC cS st) rfl (inB_vp g1) dX6_isLetter_5 ?_
  refine lv_bipush (v := (97 : Int32)) hx hb dX6_isLetter_6 (by decide) ?_
  refine lv_icmp_lt (tgt := 26) hx hb dX6_isLetter_8 (by decide) (fun c2 => ?_) (fun c2 => ?_)
  · replace hM := if_t c2 hM
    refine lv_iconst (v := (0 : Int32)) hx hb dX6_isLetter_26 (by decide) ?_
    have hz := Option.some.inj hM
    exact W.zret hx hb hr rfl (fun t ht hW => jq_i hK hI hz ht hW) hI.2.2.2 dX6_isLetter_27
  · replace hM := if_f c2 hM
    refine lv_aload_n hx hb dX6_isLetter_11 rfl (lv_at hl 0 rfl) ?_
    refine va_get (D := D) (ci := 6) (v := .ref (am 2)) (C := RX6) (T := TX6) (N := 9) hx hb hts hi_X6_isLetter_X6 hown hK hI.1 1 (cg_1 am cI cC cS st) rfl 0 (by decide) f_0 (fun _ h9 => h9) rfl dX6_isLetter_12 ?_
    refine lv_iload_n hx hb dX6_isLetter_15 rfl (lv_at hl 1 rfl) ?_
    obtain ⟨g3, hM⟩ := gd_at hM
    refine va_cald hx hb hK hI.1 2 1 (cg_2 am cI cC cS st) rfl (inB_vp g3) dX6_isLetter_16 ?_
    refine lv_bipush (v := (122 : Int32)) hx hb dX6_isLetter_17 (by decide) ?_
    refine lv_icmp_gt (tgt := 26) hx hb dX6_isLetter_19 (by decide) (fun c4 => ?_) (fun c4 => ?_)
    · replace hM := if_t c4 hM
      refine lv_iconst (v := (0 : Int32)) hx hb dX6_isLetter_26 (by decide) ?_
      have hz := Option.some.inj hM
      exact W.zret hx hb hr rfl (fun t ht hW => jq_i hK hI hz ht hW) hI.2.2.2 dX6_isLetter_27
    · replace hM := if_f c4 hM
      refine lv_iconst (v := (1 : Int32)) hx hb dX6_isLetter_22 (by decide) ?_
      refine lv_goto (tgt := 27) hx hb dX6_isLetter_23 (by decide) ?_
      have hz := Option.some.inj hM
      exact W.zret hx hb hr rfl (fun t ht hW => jq_i hK hI hz ht hW) hI.2.2.2 dX6_isLetter_27
set_option maxRecDepth 20000 in
theorem hi_X6_takeLetters_X6 : ∀ w ∈ wsX60, w ∈ wsX6_takeLetters := by decide +kernel
set_option maxHeartbeats 4000000 in
set_option maxRecDepth 100000 in
theorem jw_X6_takeLetters {l : Launch} (D : va_G) (am : Nat → Nat) (cI cC cS : ClassId) (hj : aJ am 52) (N : Nat) {st stZ : PS} {rZ : Unit} (hM : jm_X6_takeLetters N st = some (rZ, stZ)) : Met l yX6_takeLetters wsX6_takeLetters ({ frames := 1, cells := 0, slots := 0, locals := 21 }) (va_Pc [.ref (am 1)] (JH D (cW am cI cC cS) (cTy cI cC cS) st)) (JQ D (aA am 52) (cW am cI cC cS) (cTy cI cC cS) none stZ) 0 0 (aA am 52) := by
  refine jStart (cc := cX6_takeLetters) (maxL := 1) (ret := none) [.ref (am 1)] (by decide) rfl (Nat.le_of_ble_eq_true rfl) (fun p e s m below meth c ls hx hb hr hlocks hts hown hml hK hI hl => ?_)
  have hown : s.vm.findClass RX6 = some m.cls := hown
  replace hl : lv_has ls 1 [(0, .ref (am 1))] := hl
  generalize hAV : ([.ref (am 1)] : List Value).toArray = AV at hts ⊢
  have f_0 := hts (.fieldLink RX6 41 "PuppetBar$Script" "sort" "I") (by decide +kernel)
  have f_1 := hts (.fieldLink RX6 35 "PuppetBar$Script" "end" "I") (by decide +kernel)
  have f_2 := hts (.fieldLink RX6 19 "PuppetBar$Script" "size" "I") (by decide +kernel)
  unfold jm_X6_takeLetters at hM
  refine lv_aload_n hx hb dX6_takeLetters_0 rfl (lv_at hl 0 rfl) ?_
  refine lv_iconst (v := (1 : Int32)) hx hb dX6_takeLetters_1 (by decide) ?_
  refine jput (D := D) (ci := 6) (v := .int (1 : Int32)) (ty := .int) (C := RX6) (T := TX6) (N := 9) (st2 := pU st 1 2 (1 : Int32)) hx hb hts hi_X6_takeLetters_X6 tyX6 tyX6_ok nmX6 hown hK (cD hj) hI 1 (cg_1 am cI cC cS st) rfl 2 (by decide) f_0 (fun _ h9 => h9) rfl (by decide +kernel) rfl rfl (Nat.le_of_ble_eq_true rfl) (cs_1_2 am cI cC cS st _) dX6_takeLetters_2 (fun st1 est1 H locs hI => ?_)
  replace hM := nm_at est1 hM
  have lp0 : ∀ (n : Nat) (st2 : PS) (H : Heap) (locs : List Loc) (ls : Array Slot), JI D (aA am 52) (cW am cI cC cS) s.heap st2 H locs → lv_has ls 1 [(0, .ref (am 1))] → iter (fun q => jm_X6_takeLetters_L5 N q) n st2 = some (rZ, stZ) → W p l e (headSpec wsX6_takeLetters { frames := 1, cells := 0, slots := 0, locals := 21 }).room s m AV below meth c H locs 0 0 (MQ below (JQ D (aA am 52) (cW am cI cC cS) (cTy cI cC cS) none stZ) AV s 0 0 (aA am 52)) (F0 m 5 ls []) := by
    intro n
    induction n with
    | zero =>
      intro _ _ _ _ _ _ hM
      exact absurd hM (fun h => iter_zero h)
    | succ n ih0 =>
      intro st2 H locs ls hI hl hM
      obtain ⟨z0, hM, hk0⟩ := iter_succ hM
      replace hM : jm_X6_takeLetters_L5 N st2 = some z0 := hM
      unfold jm_X6_takeLetters_L5 at hM
      refine lv_aload_n hx hb dX6_takeLetters_5 rfl (lv_at hl 0 rfl) ?_
      refine va_get (D := D) (ci := 6) (v := .int (st2.1 1 4)) (C := RX6) (T := TX6) (N := 9) hx hb hts hi_X6_takeLetters_X6 hown hK hI.1 1 (cg_1 am cI cC cS st2) rfl 4 (by decide) f_1 (fun _ h9 => h9) rfl dX6_takeLetters_6 ?_
      refine lv_aload_n hx hb dX6_takeLetters_9 rfl (lv_at hl 0 rfl) ?_
      refine va_get (D := D) (ci := 6) (v := .int (st2.1 1 1)) (C := RX6) (T := TX6) (N := 9) hx hb hts hi_X6_takeLetters_X6 hown hK hI.1 1 (cg_1 am cI cC cS st2) rfl 1 (by decide) f_2 (fun _ h9 => h9) rfl dX6_takeLetters_10 ?_
      refine lv_icmp_ge (tgt := 40) hx hb dX6_takeLetters_13 (by decide) (fun c3 => ?_) (fun c3 => ?_)
      · replace hM := if_t c3 hM
        have hz := Option.some.inj hM
        subst hz
        have hz := kn_r hk0
        exact W.vret hx hb hr (fun t ht hW => jq_v hK hI hz ht hW) hI.2.2.2 dX6_takeLetters_40
      · replace hM := if_f c3 hM
        refine lv_aload_n hx hb dX6_takeLetters_16 rfl (lv_at hl 0 rfl) ?_
        refine lv_aload_n hx hb dX6_takeLetters_17 rfl (lv_at hl 0 rfl) ?_
        refine va_get (D := D) (ci := 6) (v := .int (st2.1 1 4)) (C := RX6) (T := TX6) (N := 9) hx hb hts hi_X6_takeLetters_X6 hown hK hI.1 1 (cg_1 am cI cC cS st2) rfl 4 (by decide) f_1 (fun _ h9 => h9) rfl dX6_takeLetters_18 ?_
        obtain ⟨v4, st5, hqv4, hM⟩ := bd_at hM
        refine jcallV (C := RX6) (As := [.int (st2.1 1 4)]) (rest := []) ⟨hx, hb, hml, hown, hts⟩ (jw_X6_isLetter D am cI cC cS hj N hqv4) (cwV 1 hts gX6_takeLetters_X6_isLetter rfl rfl rfl yd_X6_isLetter ⟨Nat.le_of_ble_eq_true rfl, Nat.le_of_ble_eq_true rfl⟩) hK hI 1 (cg_1 am cI cC cS st2) rfl rfl hl.1 rfl (Nat.le_of_ble_eq_true rfl) dX6_takeLetters_21 (fun H locs hI => ?_)
        refine W.eq (g2 := F0 m 24 ls [.int v4]) rfl ?_
        refine lv_if_eq (tgt := 40) hx hb dX6_takeLetters_24 (by decide) (fun c6 => ?_) (fun c6 => ?_)
        · replace hM := if_t c6 hM
          have hz := Option.some.inj hM
          subst hz
          have hz := kn_r hk0
          exact W.vret hx hb hr (fun t ht hW => jq_v hK hI hz ht hW) hI.2.2.2 dX6_takeLetters_40
        · replace hM := if_f c6 hM
          refine lv_aload_n hx hb dX6_takeLetters_27 rfl (lv_at hl 0 rfl) ?_
          refine lv_dup hx hb dX6_takeLetters_28 rfl ?_
          refine va_get (D := D) (ci := 6) (v := .int (st5.1 1 4)) (C := RX6) (T := TX6) (N := 9) hx hb hts hi_X6_takeLetters_X6 hown hK hI.1 1 (cg_1 am cI cC cS st5) rfl 4 (by decide) f_1 (fun _ h9 => h9) rfl dX6_takeLetters_29 ?_
          refine lv_iconst (v := (1 : Int32)) hx hb dX6_takeLetters_32 (by decide) ?_
          refine lv_iadd hx hb dX6_takeLetters_33 ?_
          refine jput (D := D) (ci := 6) (v := .int ((st5.1 1 4) + (1 : Int32))) (ty := .int) (C := RX6) (T := TX6) (N := 9) (st2 := pU st5 1 4 ((st5.1 1 4) + (1 : Int32))) hx hb hts hi_X6_takeLetters_X6 tyX6 tyX6_ok nmX6 hown hK (cD hj) hI 1 (cg_1 am cI cC cS st5) rfl 4 (by decide) f_1 (fun _ h9 => h9) rfl (by decide +kernel) rfl rfl (Nat.le_of_ble_eq_true rfl) (cs_1_4 am cI cC cS st5 _) dX6_takeLetters_34 (fun st7 est7 H locs hI => ?_)
          replace hM := nm_at est7 hM
          refine lv_goto (tgt := 5) hx hb dX6_takeLetters_37 (by decide) ?_
          have hz := Option.some.inj hM
          subst hz
          exact ih0 st7 _ _ _ hI (lv_sub hl [0] rfl) hk0
  exact lp0 N st1 _ _ _ hI (lv_sub hl [0] rfl) hM
set_option maxRecDepth 20000 in
theorem hi_X6_isDigit_X6 : ∀ w ∈ wsX60, w ∈ wsX6_isDigit := by decide +kernel
set_option maxHeartbeats 4000000 in
set_option maxRecDepth 100000 in
theorem jw_X6_isDigit {l : Launch} (D : va_G) (am : Nat → Nat) (cI cC cS : ClassId) (hj : aJ am 52) (N : Nat) {x1 : Int32} {st stZ : PS} {rZ : Int32} (hM : jm_X6_isDigit N x1 st = some (rZ, stZ)) : Met l yX6_isDigit wsX6_isDigit ({ frames := 0, cells := 0, slots := 0, locals := 0 }) (va_Pc [.ref (am 1), .int x1] (JH D (cW am cI cC cS) (cTy cI cC cS) st)) (JQ D (aA am 52) (cW am cI cC cS) (cTy cI cC cS) (some (.int rZ)) stZ) 0 0 (aA am 52) := by
  refine jStart (cc := cX6_isDigit) (maxL := 2) (ret := (some .boolean)) [.ref (am 1), .int x1] (by decide) rfl (Nat.le_of_ble_eq_true rfl) (fun p e s m below meth c ls hx hb hr hlocks hts hown hml hK hI hl => ?_)
  have hown : s.vm.findClass RX6 = some m.cls := hown
  replace hl : lv_has ls 2 [(0, .ref (am 1)), (1, .int x1)] := hl
  generalize hAV : ([.ref (am 1), .int x1] : List Value).toArray = AV at hts ⊢
  have f_0 := hts (.fieldLink RX6 11 "PuppetBar$Script" "bytes" "[C") (by decide +kernel)
  unfold jm_X6_isDigit at hM
  refine lv_aload_n hx hb dX6_isDigit_0 rfl (lv_at hl 0 rfl) ?_
  refine va_get (D := D) (ci := 6) (v := .ref (am 2)) (C := RX6) (T := TX6) (N := 9) hx hb hts hi_X6_isDigit_X6 hown hK hI.1 1 (cg_1 am cI cC cS st) rfl 0 (by decide) f_0 (fun _ h9 => h9) rfl dX6_isDigit_1 ?_
  refine lv_iload_n hx hb dX6_isDigit_4 rfl (lv_at hl 1 rfl) ?_
  obtain ⟨g1, hM⟩ := gd_at hM
  refine va_cald hx hb hK hI.1 2 1 (cg_2 am cI cC cS st) rfl (inB_vp g1) dX6_isDigit_5 ?_
  refine lv_bipush (v := (48 : Int32)) hx hb dX6_isDigit_6 (by decide) ?_
  refine lv_icmp_lt (tgt := 26) hx hb dX6_isDigit_8 (by decide) (fun c2 => ?_) (fun c2 => ?_)
  · replace hM := if_t c2 hM
    refine lv_iconst (v := (0 : Int32)) hx hb dX6_isDigit_26 (by decide) ?_
    have hz := Option.some.inj hM
    exact W.zret hx hb hr rfl (fun t ht hW => jq_i hK hI hz ht hW) hI.2.2.2 dX6_isDigit_27
  · replace hM := if_f c2 hM
    refine lv_aload_n hx hb dX6_isDigit_11 rfl (lv_at hl 0 rfl) ?_
    refine va_get (D := D) (ci := 6) (v := .ref (am 2)) (C := RX6) (T := TX6) (N := 9) hx hb hts hi_X6_isDigit_X6 hown hK hI.1 1 (cg_1 am cI cC cS st) rfl 0 (by decide) f_0 (fun _ h9 => h9) rfl dX6_isDigit_12 ?_
    refine lv_iload_n hx hb dX6_isDigit_15 rfl (lv_at hl 1 rfl) ?_
    obtain ⟨g3, hM⟩ := gd_at hM
    refine va_cald hx hb hK hI.1 2 1 (cg_2 am cI cC cS st) rfl (inB_vp g3) dX6_isDigit_16 ?_
    refine lv_bipush (v := (57 : Int32)) hx hb dX6_isDigit_17 (by decide) ?_
    refine lv_icmp_gt (tgt := 26) hx hb dX6_isDigit_19 (by decide) (fun c4 => ?_) (fun c4 => ?_)
    · replace hM := if_t c4 hM
      refine lv_iconst (v := (0 : Int32)) hx hb dX6_isDigit_26 (by decide) ?_
      have hz := Option.some.inj hM
      exact W.zret hx hb hr rfl (fun t ht hW => jq_i hK hI hz ht hW) hI.2.2.2 dX6_isDigit_27
    · replace hM := if_f c4 hM
      refine lv_iconst (v := (1 : Int32)) hx hb dX6_isDigit_22 (by decide) ?_
      refine lv_goto (tgt := 27) hx hb dX6_isDigit_23 (by decide) ?_
      have hz := Option.some.inj hM
      exact W.zret hx hb hr rfl (fun t ht hW => jq_i hK hI hz ht hW) hI.2.2.2 dX6_isDigit_27
set_option maxRecDepth 20000 in
theorem hi_X6_takeNumber_X6 : ∀ w ∈ wsX60, w ∈ wsX6_takeNumber := by decide +kernel
set_option maxHeartbeats 4000000 in
set_option maxRecDepth 100000 in
theorem jw_X6_takeNumber {l : Launch} (D : va_G) (am : Nat → Nat) (cI cC cS : ClassId) (hj : aJ am 52) (N : Nat) {st stZ : PS} {rZ : Unit} (hM : jm_X6_takeNumber N st = some (rZ, stZ)) : Met l yX6_takeNumber wsX6_takeNumber ({ frames := 1, cells := 0, slots := 0, locals := 21 }) (va_Pc [.ref (am 1)] (JH D (cW am cI cC cS) (cTy cI cC cS) st)) (JQ D (aA am 52) (cW am cI cC cS) (cTy cI cC cS) none stZ) 0 0 (aA am 52) := by
  refine jStart (cc := cX6_takeNumber) (maxL := 2) (ret := none) [.ref (am 1)] (by decide) rfl (Nat.le_of_ble_eq_true rfl) (fun p e s m below meth c ls hx hb hr hlocks hts hown hml hK hI hl => ?_)
  have hown : s.vm.findClass RX6 = some m.cls := hown
  replace hl : lv_has ls 2 [(0, .ref (am 1))] := hl
  generalize hAV : ([.ref (am 1)] : List Value).toArray = AV at hts ⊢
  have f_0 := hts (.fieldLink RX6 59 "PuppetBar$Script" "value" "I") (by decide +kernel)
  have f_1 := hts (.fieldLink RX6 35 "PuppetBar$Script" "end" "I") (by decide +kernel)
  have f_2 := hts (.fieldLink RX6 19 "PuppetBar$Script" "size" "I") (by decide +kernel)
  have f_3 := hts (.fieldLink RX6 11 "PuppetBar$Script" "bytes" "[C") (by decide +kernel)
  have f_4 := hts (.fieldLink RX6 48 "PuppetBar$Script" "begin" "I") (by decide +kernel)
  have f_5 := hts (.fieldLink RX6 41 "PuppetBar$Script" "sort" "I") (by decide +kernel)
  have f_6 := hts (.methodLink RX6 127 Lib.Math.min.name) (by decide +kernel)
  have f_7 := hts (.static Lib.Math.min.name) (by decide +kernel)
  have f_8 := hts (.initialized "java/lang/Math") (by decide +kernel)
  have f_9 := hts (.code Lib.Math.min.name Lib.Math.min.code 2 (some .int)) (by decide +kernel)
  unfold jm_X6_takeNumber at hM
  refine lv_aload_n hx hb dX6_takeNumber_0 rfl (lv_at hl 0 rfl) ?_
  refine lv_iconst (v := (0 : Int32)) hx hb dX6_takeNumber_1 (by decide) ?_
  refine jput (D := D) (ci := 6) (v := .int (0 : Int32)) (ty := .int) (C := RX6) (T := TX6) (N := 9) (st2 := pU st 1 5 (0 : Int32)) hx hb hts hi_X6_takeNumber_X6 tyX6 tyX6_ok nmX6 hown hK (cD hj) hI 1 (cg_1 am cI cC cS st) rfl 5 (by decide) f_0 (fun _ h9 => h9) rfl (by decide +kernel) rfl rfl (Nat.le_of_ble_eq_true rfl) (cs_1_5 am cI cC cS st _) dX6_takeNumber_2 (fun st1 est1 H locs hI => ?_)
  replace hM := nm_at est1 hM
  have lp0 : ∀ (n : Nat) (st2 : PS) (H : Heap) (locs : List Loc) (ls : Array Slot), JI D (aA am 52) (cW am cI cC cS) s.heap st2 H locs → lv_has ls 2 [(0, .ref (am 1))] → iter (fun q => jm_X6_takeNumber_L5 N q) n st2 = some (rZ, stZ) → W p l e (headSpec wsX6_takeNumber { frames := 1, cells := 0, slots := 0, locals := 21 }).room s m AV below meth c H locs 0 0 (MQ below (JQ D (aA am 52) (cW am cI cC cS) (cTy cI cC cS) none stZ) AV s 0 0 (aA am 52)) (F0 m 5 ls []) := by
    intro n
    induction n with
    | zero =>
      intro _ _ _ _ _ _ hM
      exact absurd hM (fun h => iter_zero h)
    | succ n ih0 =>
      intro st2 H locs ls hI hl hM
      obtain ⟨z0, hM, hk0⟩ := iter_succ hM
      replace hM : jm_X6_takeNumber_L5 N st2 = some z0 := hM
      unfold jm_X6_takeNumber_L5 at hM
      refine lv_aload_n hx hb dX6_takeNumber_5 rfl (lv_at hl 0 rfl) ?_
      refine va_get (D := D) (ci := 6) (v := .int (st2.1 1 4)) (C := RX6) (T := TX6) (N := 9) hx hb hts hi_X6_takeNumber_X6 hown hK hI.1 1 (cg_1 am cI cC cS st2) rfl 4 (by decide) f_1 (fun _ h9 => h9) rfl dX6_takeNumber_6 ?_
      refine lv_aload_n hx hb dX6_takeNumber_9 rfl (lv_at hl 0 rfl) ?_
      refine va_get (D := D) (ci := 6) (v := .int (st2.1 1 1)) (C := RX6) (T := TX6) (N := 9) hx hb hts hi_X6_takeNumber_X6 hown hK hI.1 1 (cg_1 am cI cC cS st2) rfl 1 (by decide) f_2 (fun _ h9 => h9) rfl dX6_takeNumber_10 ?_
      refine lv_icmp_ge (tgt := 69) hx hb dX6_takeNumber_13 (by decide) (fun c3 => ?_) (fun c3 => ?_)
      · replace hM := if_t c3 hM
        refine lv_aload_n hx hb dX6_takeNumber_69 rfl (lv_at hl 0 rfl) ?_
        refine va_get (D := D) (ci := 6) (v := .ref (am 2)) (C := RX6) (T := TX6) (N := 9) hx hb hts hi_X6_takeNumber_X6 hown hK hI.1 1 (cg_1 am cI cC cS st2) rfl 0 (by decide) f_3 (fun _ h9 => h9) rfl dX6_takeNumber_70 ?_
        refine lv_aload_n hx hb dX6_takeNumber_73 rfl (lv_at hl 0 rfl) ?_
        refine va_get (D := D) (ci := 6) (v := .int (st2.1 1 3)) (C := RX6) (T := TX6) (N := 9) hx hb hts hi_X6_takeNumber_X6 hown hK hI.1 1 (cg_1 am cI cC cS st2) rfl 3 (by decide) f_4 (fun _ h9 => h9) rfl dX6_takeNumber_74 ?_
        obtain ⟨g4, hM⟩ := gd_at hM
        refine va_cald hx hb hK hI.1 2 1 (cg_2 am cI cC cS st2) rfl (inB_vp g4) dX6_takeNumber_77 ?_
        refine lv_bipush (v := (48 : Int32)) hx hb dX6_takeNumber_78 (by decide) ?_
        refine lv_icmp_ne (tgt := 100) hx hb dX6_takeNumber_80 (by decide) (fun c5 => ?_) (fun c5 => ?_)
        · replace hM := if_f c5 hM
          refine lv_iconst (v := (0 : Int32)) hx hb dX6_takeNumber_100 (by decide) ?_
          refine lv_istore_n (lv' := [(1, .int (0 : Int32)), (0, .ref (am 1))]) hx hb dX6_takeNumber_101 rfl hl (by decide) rfl (fun ls hl => ?_)
          refine lv_aload_n hx hb dX6_takeNumber_102 rfl (lv_at hl 1 rfl) ?_
          refine lv_iload_n hx hb dX6_takeNumber_103 rfl (lv_at hl 0 rfl) ?_
          refine lv_if_ne (tgt := 116) hx hb dX6_takeNumber_104 (by decide) (fun c9 => absurd c9 (by decide)) (fun _ => ?_)
          refine lv_aload_n hx hb dX6_takeNumber_107 rfl (lv_at hl 1 rfl) ?_
          refine va_get (D := D) (ci := 6) (v := .int (st2.1 1 5)) (C := RX6) (T := TX6) (N := 9) hx hb hts hi_X6_takeNumber_X6 hown hK hI.1 1 (cg_1 am cI cC cS st2) rfl 5 (by decide) f_0 (fun _ h9 => h9) rfl dX6_takeNumber_108 ?_
          refine lv_bipush (v := (99 : Int32)) hx hb dX6_takeNumber_111 (by decide) ?_
          refine lv_icmp_le (tgt := 120) hx hb dX6_takeNumber_113 (by decide) (fun c6 => ?_) (fun c6 => ?_)
          · replace hM := if_t c6 hM
            refine lv_iconst (v := (2 : Int32)) hx hb dX6_takeNumber_120 (by decide) ?_
            refine jput (D := D) (ci := 6) (v := .int (2 : Int32)) (ty := .int) (C := RX6) (T := TX6) (N := 9) (st2 := pU st2 1 2 (2 : Int32)) hx hb hts hi_X6_takeNumber_X6 tyX6 tyX6_ok nmX6 hown hK (cD hj) hI 1 (cg_1 am cI cC cS st2) rfl 2 (by decide) f_5 (fun _ h9 => h9) rfl (by decide +kernel) rfl rfl (Nat.le_of_ble_eq_true rfl) (cs_1_2 am cI cC cS st2 _) dX6_takeNumber_121 (fun st7 est7 H locs hI => ?_)
            replace hM := nm_at est7 hM
            have hz := Option.some.inj hM
            subst hz
            have hz := kn_r hk0
            exact W.vret hx hb hr (fun t ht hW => jq_v hK hI hz ht hW) hI.2.2.2 dX6_takeNumber_124
          · replace hM := if_f c6 hM
            refine lv_iconst (v := (4 : Int32)) hx hb dX6_takeNumber_116 (by decide) ?_
            refine lv_goto (tgt := 121) hx hb dX6_takeNumber_117 (by decide) ?_
            refine jput (D := D) (ci := 6) (v := .int (4 : Int32)) (ty := .int) (C := RX6) (T := TX6) (N := 9) (st2 := pU st2 1 2 (4 : Int32)) hx hb hts hi_X6_takeNumber_X6 tyX6 tyX6_ok nmX6 hown hK (cD hj) hI 1 (cg_1 am cI cC cS st2) rfl 2 (by decide) f_5 (fun _ h9 => h9) rfl (by decide +kernel) rfl rfl (Nat.le_of_ble_eq_true rfl) (cs_1_2 am cI cC cS st2 _) dX6_takeNumber_121 (fun st8 est8 H locs hI => ?_)
            replace hM := nm_at est8 hM
            have hz := Option.some.inj hM
            subst hz
            have hz := kn_r hk0
            exact W.vret hx hb hr (fun t ht hW => jq_v hK hI hz ht hW) hI.2.2.2 dX6_takeNumber_124
        · replace hM := if_t c5 hM
          refine lv_aload_n hx hb dX6_takeNumber_83 rfl (lv_at hl 0 rfl) ?_
          refine va_get (D := D) (ci := 6) (v := .int (st2.1 1 4)) (C := RX6) (T := TX6) (N := 9) hx hb hts hi_X6_takeNumber_X6 hown hK hI.1 1 (cg_1 am cI cC cS st2) rfl 4 (by decide) f_1 (fun _ h9 => h9) rfl dX6_takeNumber_84 ?_
          refine lv_aload_n hx hb dX6_takeNumber_87 rfl (lv_at hl 0 rfl) ?_
          refine va_get (D := D) (ci := 6) (v := .int (st2.1 1 3)) (C := RX6) (T := TX6) (N := 9) hx hb hts hi_X6_takeNumber_X6 hown hK hI.1 1 (cg_1 am cI cC cS st2) rfl 3 (by decide) f_4 (fun _ h9 => h9) rfl dX6_takeNumber_88 ?_
          refine lv_isub hx hb dX6_takeNumber_91 ?_
          refine lv_iconst (v := (1 : Int32)) hx hb dX6_takeNumber_92 (by decide) ?_
          refine lv_icmp_le (tgt := 100) hx hb dX6_takeNumber_93 (by decide) (fun c9 => ?_) (fun c9 => ?_)
          · replace hM := if_t c9 hM
            refine lv_iconst (v := (0 : Int32)) hx hb dX6_takeNumber_100 (by decide) ?_
            refine lv_istore_n (lv' := [(1, .int (0 : Int32)), (0, .ref (am 1))]) hx hb dX6_takeNumber_101 rfl hl (by decide) rfl (fun ls hl => ?_)
            refine lv_aload_n hx hb dX6_takeNumber_102 rfl (lv_at hl 1 rfl) ?_
            refine lv_iload_n hx hb dX6_takeNumber_103 rfl (lv_at hl 0 rfl) ?_
            refine lv_if_ne (tgt := 116) hx hb dX6_takeNumber_104 (by decide) (fun c9 => absurd c9 (by decide)) (fun _ => ?_)
            refine lv_aload_n hx hb dX6_takeNumber_107 rfl (lv_at hl 1 rfl) ?_
            refine va_get (D := D) (ci := 6) (v := .int (st2.1 1 5)) (C := RX6) (T := TX6) (N := 9) hx hb hts hi_X6_takeNumber_X6 hown hK hI.1 1 (cg_1 am cI cC cS st2) rfl 5 (by decide) f_0 (fun _ h9 => h9) rfl dX6_takeNumber_108 ?_
            refine lv_bipush (v := (99 : Int32)) hx hb dX6_takeNumber_111 (by decide) ?_
            refine lv_icmp_le (tgt := 120) hx hb dX6_takeNumber_113 (by decide) (fun c10 => ?_) (fun c10 => ?_)
            · replace hM := if_t c10 hM
              refine lv_iconst (v := (2 : Int32)) hx hb dX6_takeNumber_120 (by decide) ?_
              refine jput (D := D) (ci := 6) (v := .int (2 : Int32)) (ty := .int) (C := RX6) (T := TX6) (N := 9) (st2 := pU st2 1 2 (2 : Int32)) hx hb hts hi_X6_takeNumber_X6 tyX6 tyX6_ok nmX6 hown hK (cD hj) hI 1 (cg_1 am cI cC cS st2) rfl 2 (by decide) f_5 (fun _ h9 => h9) rfl (by decide +kernel) rfl rfl (Nat.le_of_ble_eq_true rfl) (cs_1_2 am cI cC cS st2 _) dX6_takeNumber_121 (fun st11 est11 H locs hI => ?_)
              replace hM := nm_at est11 hM
              have hz := Option.some.inj hM
              subst hz
              have hz := kn_r hk0
              exact W.vret hx hb hr (fun t ht hW => jq_v hK hI hz ht hW) hI.2.2.2 dX6_takeNumber_124
            · replace hM := if_f c10 hM
              refine lv_iconst (v := (4 : Int32)) hx hb dX6_takeNumber_116 (by decide) ?_
              refine lv_goto (tgt := 121) hx hb dX6_takeNumber_117 (by decide) ?_
              refine jput (D := D) (ci := 6) (v := .int (4 : Int32)) (ty := .int) (C := RX6) (T := TX6) (N := 9) (st2 := pU st2 1 2 (4 : Int32)) hx hb hts hi_X6_takeNumber_X6 tyX6 tyX6_ok nmX6 hown hK (cD hj) hI 1 (cg_1 am cI cC cS st2) rfl 2 (by decide) f_5 (fun _ h9 => h9) rfl (by decide +kernel) rfl rfl (Nat.le_of_ble_eq_true rfl) (cs_1_2 am cI cC cS st2 _) dX6_takeNumber_121 (fun st12 est12 H locs hI => ?_)
              replace hM := nm_at est12 hM
              have hz := Option.some.inj hM
              subst hz
              have hz := kn_r hk0
              exact W.vret hx hb hr (fun t ht hW => jq_v hK hI hz ht hW) hI.2.2.2 dX6_takeNumber_124
          · replace hM := if_f c9 hM
            refine lv_iconst (v := (1 : Int32)) hx hb dX6_takeNumber_96 (by decide) ?_
            refine lv_goto (tgt := 101) hx hb dX6_takeNumber_97 (by decide) ?_
            refine lv_istore_n (lv' := [(1, .int (1 : Int32)), (0, .ref (am 1))]) hx hb dX6_takeNumber_101 rfl hl (by decide) rfl (fun ls hl => ?_)
            refine lv_aload_n hx hb dX6_takeNumber_102 rfl (lv_at hl 1 rfl) ?_
            refine lv_iload_n hx hb dX6_takeNumber_103 rfl (lv_at hl 0 rfl) ?_
            refine lv_if_ne (tgt := 116) hx hb dX6_takeNumber_104 (by decide) (fun _ => ?_) (fun c9 => absurd c9 (by decide))
            refine lv_iconst (v := (4 : Int32)) hx hb dX6_takeNumber_116 (by decide) ?_
            refine lv_goto (tgt := 121) hx hb dX6_takeNumber_117 (by decide) ?_
            refine jput (D := D) (ci := 6) (v := .int (4 : Int32)) (ty := .int) (C := RX6) (T := TX6) (N := 9) (st2 := pU st2 1 2 (4 : Int32)) hx hb hts hi_X6_takeNumber_X6 tyX6 tyX6_ok nmX6 hown hK (cD hj) hI 1 (cg_1 am cI cC cS st2) rfl 2 (by decide) f_5 (fun _ h9 => h9) rfl (by decide +kernel) rfl rfl (Nat.le_of_ble_eq_true rfl) (cs_1_2 am cI cC cS st2 _) dX6_takeNumber_121 (fun st13 est13 H locs hI => ?_)
            replace hM := nm_at est13 hM
            have hz := Option.some.inj hM
            subst hz
            have hz := kn_r hk0
            exact W.vret hx hb hr (fun t ht hW => jq_v hK hI hz ht hW) hI.2.2.2 dX6_takeNumber_124
      · replace hM := if_f c3 hM
        refine lv_aload_n hx hb dX6_takeNumber_16 rfl (lv_at hl 0 rfl) ?_
        refine lv_aload_n hx hb dX6_takeNumber_17 rfl (lv_at hl 0 rfl) ?_
        refine va_get (D := D) (ci := 6) (v := .int (st2.1 1 4)) (C := RX6) (T := TX6) (N := 9) hx hb hts hi_X6_takeNumber_X6 hown hK hI.1 1 (cg_1 am cI cC cS st2) rfl 4 (by decide) f_1 (fun _ h9 => h9) rfl dX6_takeNumber_18 ?_
        obtain ⟨v14, st15, hqv14, hM⟩ := bd_at hM
        refine jcallV (C := RX6) (As := [.int (st2.1 1 4)]) (rest := []) ⟨hx, hb, hml, hown, hts⟩ (jw_X6_isDigit D am cI cC cS hj N hqv14) (cwV 1 hts gX6_takeNumber_X6_isDigit rfl rfl rfl yd_X6_isDigit ⟨Nat.le_of_ble_eq_true rfl, Nat.le_of_ble_eq_true rfl⟩) hK hI 1 (cg_1 am cI cC cS st2) rfl rfl hl.1 rfl (Nat.le_of_ble_eq_true rfl) dX6_takeNumber_21 (fun H locs hI => ?_)
        refine W.eq (g2 := F0 m 24 ls [.int v14]) rfl ?_
        refine lv_if_eq (tgt := 69) hx hb dX6_takeNumber_24 (by decide) (fun c16 => ?_) (fun c16 => ?_)
        · replace hM := if_t c16 hM
          refine lv_aload_n hx hb dX6_takeNumber_69 rfl (lv_at hl 0 rfl) ?_
          refine va_get (D := D) (ci := 6) (v := .ref (am 2)) (C := RX6) (T := TX6) (N := 9) hx hb hts hi_X6_takeNumber_X6 hown hK hI.1 1 (cg_1 am cI cC cS st15) rfl 0 (by decide) f_3 (fun _ h9 => h9) rfl dX6_takeNumber_70 ?_
          refine lv_aload_n hx hb dX6_takeNumber_73 rfl (lv_at hl 0 rfl) ?_
          refine va_get (D := D) (ci := 6) (v := .int (st15.1 1 3)) (C := RX6) (T := TX6) (N := 9) hx hb hts hi_X6_takeNumber_X6 hown hK hI.1 1 (cg_1 am cI cC cS st15) rfl 3 (by decide) f_4 (fun _ h9 => h9) rfl dX6_takeNumber_74 ?_
          obtain ⟨g17, hM⟩ := gd_at hM
          refine va_cald hx hb hK hI.1 2 1 (cg_2 am cI cC cS st15) rfl (inB_vp g17) dX6_takeNumber_77 ?_
          refine lv_bipush (v := (48 : Int32)) hx hb dX6_takeNumber_78 (by decide) ?_
          refine lv_icmp_ne (tgt := 100) hx hb dX6_takeNumber_80 (by decide) (fun c18 => ?_) (fun c18 => ?_)
          · replace hM := if_f c18 hM
            refine lv_iconst (v := (0 : Int32)) hx hb dX6_takeNumber_100 (by decide) ?_
            refine lv_istore_n (lv' := [(1, .int (0 : Int32)), (0, .ref (am 1))]) hx hb dX6_takeNumber_101 rfl hl (by decide) rfl (fun ls hl => ?_)
            refine lv_aload_n hx hb dX6_takeNumber_102 rfl (lv_at hl 1 rfl) ?_
            refine lv_iload_n hx hb dX6_takeNumber_103 rfl (lv_at hl 0 rfl) ?_
            refine lv_if_ne (tgt := 116) hx hb dX6_takeNumber_104 (by decide) (fun c9 => absurd c9 (by decide)) (fun _ => ?_)
            refine lv_aload_n hx hb dX6_takeNumber_107 rfl (lv_at hl 1 rfl) ?_
            refine va_get (D := D) (ci := 6) (v := .int (st15.1 1 5)) (C := RX6) (T := TX6) (N := 9) hx hb hts hi_X6_takeNumber_X6 hown hK hI.1 1 (cg_1 am cI cC cS st15) rfl 5 (by decide) f_0 (fun _ h9 => h9) rfl dX6_takeNumber_108 ?_
            refine lv_bipush (v := (99 : Int32)) hx hb dX6_takeNumber_111 (by decide) ?_
            refine lv_icmp_le (tgt := 120) hx hb dX6_takeNumber_113 (by decide) (fun c19 => ?_) (fun c19 => ?_)
            · replace hM := if_t c19 hM
              refine lv_iconst (v := (2 : Int32)) hx hb dX6_takeNumber_120 (by decide) ?_
              refine jput (D := D) (ci := 6) (v := .int (2 : Int32)) (ty := .int) (C := RX6) (T := TX6) (N := 9) (st2 := pU st15 1 2 (2 : Int32)) hx hb hts hi_X6_takeNumber_X6 tyX6 tyX6_ok nmX6 hown hK (cD hj) hI 1 (cg_1 am cI cC cS st15) rfl 2 (by decide) f_5 (fun _ h9 => h9) rfl (by decide +kernel) rfl rfl (Nat.le_of_ble_eq_true rfl) (cs_1_2 am cI cC cS st15 _) dX6_takeNumber_121 (fun st20 est20 H locs hI => ?_)
              replace hM := nm_at est20 hM
              have hz := Option.some.inj hM
              subst hz
              have hz := kn_r hk0
              exact W.vret hx hb hr (fun t ht hW => jq_v hK hI hz ht hW) hI.2.2.2 dX6_takeNumber_124
            · replace hM := if_f c19 hM
              refine lv_iconst (v := (4 : Int32)) hx hb dX6_takeNumber_116 (by decide) ?_
              refine lv_goto (tgt := 121) hx hb dX6_takeNumber_117 (by decide) ?_
              refine jput (D := D) (ci := 6) (v := .int (4 : Int32)) (ty := .int) (C := RX6) (T := TX6) (N := 9) (st2 := pU st15 1 2 (4 : Int32)) hx hb hts hi_X6_takeNumber_X6 tyX6 tyX6_ok nmX6 hown hK (cD hj) hI 1 (cg_1 am cI cC cS st15) rfl 2 (by decide) f_5 (fun _ h9 => h9) rfl (by decide +kernel) rfl rfl (Nat.le_of_ble_eq_true rfl) (cs_1_2 am cI cC cS st15 _) dX6_takeNumber_121 (fun st21 est21 H locs hI => ?_)
              replace hM := nm_at est21 hM
              have hz := Option.some.inj hM
              subst hz
              have hz := kn_r hk0
              exact W.vret hx hb hr (fun t ht hW => jq_v hK hI hz ht hW) hI.2.2.2 dX6_takeNumber_124
          · replace hM := if_t c18 hM
            refine lv_aload_n hx hb dX6_takeNumber_83 rfl (lv_at hl 0 rfl) ?_
            refine va_get (D := D) (ci := 6) (v := .int (st15.1 1 4)) (C := RX6) (T := TX6) (N := 9) hx hb hts hi_X6_takeNumber_X6 hown hK hI.1 1 (cg_1 am cI cC cS st15) rfl 4 (by decide) f_1 (fun _ h9 => h9) rfl dX6_takeNumber_84 ?_
            refine lv_aload_n hx hb dX6_takeNumber_87 rfl (lv_at hl 0 rfl) ?_
            refine va_get (D := D) (ci := 6) (v := .int (st15.1 1 3)) (C := RX6) (T := TX6) (N := 9) hx hb hts hi_X6_takeNumber_X6 hown hK hI.1 1 (cg_1 am cI cC cS st15) rfl 3 (by decide) f_4 (fun _ h9 => h9) rfl dX6_takeNumber_88 ?_
            refine lv_isub hx hb dX6_takeNumber_91 ?_
            refine lv_iconst (v := (1 : Int32)) hx hb dX6_takeNumber_92 (by decide) ?_
            refine lv_icmp_le (tgt := 100) hx hb dX6_takeNumber_93 (by decide) (fun c22 => ?_) (fun c22 => ?_)
            · replace hM := if_t c22 hM
              refine lv_iconst (v := (0 : Int32)) hx hb dX6_takeNumber_100 (by decide) ?_
              refine lv_istore_n (lv' := [(1, .int (0 : Int32)), (0, .ref (am 1))]) hx hb dX6_takeNumber_101 rfl hl (by decide) rfl (fun ls hl => ?_)
              refine lv_aload_n hx hb dX6_takeNumber_102 rfl (lv_at hl 1 rfl) ?_
              refine lv_iload_n hx hb dX6_takeNumber_103 rfl (lv_at hl 0 rfl) ?_
              refine lv_if_ne (tgt := 116) hx hb dX6_takeNumber_104 (by decide) (fun c9 => absurd c9 (by decide)) (fun _ => ?_)
              refine lv_aload_n hx hb dX6_takeNumber_107 rfl (lv_at hl 1 rfl) ?_
              refine va_get (D := D) (ci := 6) (v := .int (st15.1 1 5)) (C := RX6) (T := TX6) (N := 9) hx hb hts hi_X6_takeNumber_X6 hown hK hI.1 1 (cg_1 am cI cC cS st15) rfl 5 (by decide) f_0 (fun _ h9 => h9) rfl dX6_takeNumber_108 ?_
              refine lv_bipush (v := (99 : Int32)) hx hb dX6_takeNumber_111 (by decide) ?_
              refine lv_icmp_le (tgt := 120) hx hb dX6_takeNumber_113 (by decide) (fun c23 => ?_) (fun c23 => ?_)
              · replace hM := if_t c23 hM
                refine lv_iconst (v := (2 : Int32)) hx hb dX6_takeNumber_120 (by decide) ?_
                refine jput (D := D) (ci := 6) (v := .int (2 : Int32)) (ty := .int) (C := RX6) (T := TX6) (N := 9) (st2 := pU st15 1 2 (2 : Int32)) hx hb hts hi_X6_takeNumber_X6 tyX6 tyX6_ok nmX6 hown hK (cD hj) hI 1 (cg_1 am cI cC cS st15) rfl 2 (by decide) f_5 (fun _ h9 => h9) rfl (by decide +kernel) rfl rfl (Nat.le_of_ble_eq_true rfl) (cs_1_2 am cI cC cS st15 _) dX6_takeNumber_121 (fun st24 est24 H locs hI => ?_)
                replace hM := nm_at est24 hM
                have hz := Option.some.inj hM
                subst hz
                have hz := kn_r hk0
                exact W.vret hx hb hr (fun t ht hW => jq_v hK hI hz ht hW) hI.2.2.2 dX6_takeNumber_124
              · replace hM := if_f c23 hM
                refine lv_iconst (v := (4 : Int32)) hx hb dX6_takeNumber_116 (by decide) ?_
                refine lv_goto (tgt := 121) hx hb dX6_takeNumber_117 (by decide) ?_
                refine jput (D := D) (ci := 6) (v := .int (4 : Int32)) (ty := .int) (C := RX6) (T := TX6) (N := 9) (st2 := pU st15 1 2 (4 : Int32)) hx hb hts hi_X6_takeNumber_X6 tyX6 tyX6_ok nmX6 hown hK (cD hj) hI 1 (cg_1 am cI cC cS st15) rfl 2 (by decide) f_5 (fun _ h9 => h9) rfl (by decide +kernel) rfl rfl (Nat.le_of_ble_eq_true rfl) (cs_1_2 am cI cC cS st15 _) dX6_takeNumber_121 (fun st25 est25 H locs hI => ?_)
                replace hM := nm_at est25 hM
                have hz := Option.some.inj hM
                subst hz
                have hz := kn_r hk0
                exact W.vret hx hb hr (fun t ht hW => jq_v hK hI hz ht hW) hI.2.2.2 dX6_takeNumber_124
            · replace hM := if_f c22 hM
              refine lv_iconst (v := (1 : Int32)) hx hb dX6_takeNumber_96 (by decide) ?_
              refine lv_goto (tgt := 101) hx hb dX6_takeNumber_97 (by decide) ?_
              refine lv_istore_n (lv' := [(1, .int (1 : Int32)), (0, .ref (am 1))]) hx hb dX6_takeNumber_101 rfl hl (by decide) rfl (fun ls hl => ?_)
              refine lv_aload_n hx hb dX6_takeNumber_102 rfl (lv_at hl 1 rfl) ?_
              refine lv_iload_n hx hb dX6_takeNumber_103 rfl (lv_at hl 0 rfl) ?_
              refine lv_if_ne (tgt := 116) hx hb dX6_takeNumber_104 (by decide) (fun _ => ?_) (fun c9 => absurd c9 (by decide))
              refine lv_iconst (v := (4 : Int32)) hx hb dX6_takeNumber_116 (by decide) ?_
              refine lv_goto (tgt := 121) hx hb dX6_takeNumber_117 (by decide) ?_
              refine jput (D := D) (ci := 6) (v := .int (4 : Int32)) (ty := .int) (C := RX6) (T := TX6) (N := 9) (st2 := pU st15 1 2 (4 : Int32)) hx hb hts hi_X6_takeNumber_X6 tyX6 tyX6_ok nmX6 hown hK (cD hj) hI 1 (cg_1 am cI cC cS st15) rfl 2 (by decide) f_5 (fun _ h9 => h9) rfl (by decide +kernel) rfl rfl (Nat.le_of_ble_eq_true rfl) (cs_1_2 am cI cC cS st15 _) dX6_takeNumber_121 (fun st26 est26 H locs hI => ?_)
              replace hM := nm_at est26 hM
              have hz := Option.some.inj hM
              subst hz
              have hz := kn_r hk0
              exact W.vret hx hb hr (fun t ht hW => jq_v hK hI hz ht hW) hI.2.2.2 dX6_takeNumber_124
        · replace hM := if_f c16 hM
          refine lv_aload_n hx hb dX6_takeNumber_27 rfl (lv_at hl 0 rfl) ?_
          refine lv_aload_n hx hb dX6_takeNumber_28 rfl (lv_at hl 0 rfl) ?_
          refine va_get (D := D) (ci := 6) (v := .int (st15.1 1 5)) (C := RX6) (T := TX6) (N := 9) hx hb hts hi_X6_takeNumber_X6 hown hK hI.1 1 (cg_1 am cI cC cS st15) rfl 5 (by decide) f_0 (fun _ h9 => h9) rfl dX6_takeNumber_29 ?_
          refine lv_bipush (v := (10 : Int32)) hx hb dX6_takeNumber_32 (by decide) ?_
          refine lv_imul hx hb dX6_takeNumber_34 ?_
          refine lv_aload_n hx hb dX6_takeNumber_35 rfl (lv_at hl 0 rfl) ?_
          refine va_get (D := D) (ci := 6) (v := .ref (am 2)) (C := RX6) (T := TX6) (N := 9) hx hb hts hi_X6_takeNumber_X6 hown hK hI.1 1 (cg_1 am cI cC cS st15) rfl 0 (by decide) f_3 (fun _ h9 => h9) rfl dX6_takeNumber_36 ?_
          refine lv_aload_n hx hb dX6_takeNumber_39 rfl (lv_at hl 0 rfl) ?_
          refine va_get (D := D) (ci := 6) (v := .int (st15.1 1 4)) (C := RX6) (T := TX6) (N := 9) hx hb hts hi_X6_takeNumber_X6 hown hK hI.1 1 (cg_1 am cI cC cS st15) rfl 4 (by decide) f_1 (fun _ h9 => h9) rfl dX6_takeNumber_40 ?_
          obtain ⟨g27, hM⟩ := gd_at hM
          refine va_cald hx hb hK hI.1 2 1 (cg_2 am cI cC cS st15) rfl (inB_vp g27) dX6_takeNumber_43 ?_
          refine lv_iadd hx hb dX6_takeNumber_44 ?_
          refine lv_bipush (v := (48 : Int32)) hx hb dX6_takeNumber_45 (by decide) ?_
          refine lv_isub hx hb dX6_takeNumber_47 ?_
          refine lv_bipush (v := (100 : Int32)) hx hb dX6_takeNumber_48 (by decide) ?_
          refine va_mmin hx hb (hml.trans hl.1.symm) hown f_6 f_7 f_8 f_9 (Nat.le_of_ble_eq_true rfl) (Nat.le_of_ble_eq_true rfl) (Nat.zero_le _) (Nat.zero_le _) dX6_takeNumber_50 ?_
          refine lv_topi (fun y28 ey28 => ?_)
          replace hM := nm_at ey28 hM
          refine jput (D := D) (ci := 6) (v := .int y28) (ty := .int) (C := RX6) (T := TX6) (N := 9) (st2 := pU st15 1 5 y28) hx hb hts hi_X6_takeNumber_X6 tyX6 tyX6_ok nmX6 hown hK (cD hj) hI 1 (cg_1 am cI cC cS st15) rfl 5 (by decide) f_0 (fun _ h9 => h9) rfl (by decide +kernel) rfl rfl (Nat.le_of_ble_eq_true rfl) (cs_1_5 am cI cC cS st15 _) dX6_takeNumber_53 (fun st29 est29 H locs hI => ?_)
          replace hM := nm_at est29 hM
          refine lv_aload_n hx hb dX6_takeNumber_56 rfl (lv_at hl 0 rfl) ?_
          refine lv_dup hx hb dX6_takeNumber_57 rfl ?_
          refine va_get (D := D) (ci := 6) (v := .int (st29.1 1 4)) (C := RX6) (T := TX6) (N := 9) hx hb hts hi_X6_takeNumber_X6 hown hK hI.1 1 (cg_1 am cI cC cS st29) rfl 4 (by decide) f_1 (fun _ h9 => h9) rfl dX6_takeNumber_58 ?_
          refine lv_iconst (v := (1 : Int32)) hx hb dX6_takeNumber_61 (by decide) ?_
          refine lv_iadd hx hb dX6_takeNumber_62 ?_
          refine jput (D := D) (ci := 6) (v := .int ((st29.1 1 4) + (1 : Int32))) (ty := .int) (C := RX6) (T := TX6) (N := 9) (st2 := pU st29 1 4 ((st29.1 1 4) + (1 : Int32))) hx hb hts hi_X6_takeNumber_X6 tyX6 tyX6_ok nmX6 hown hK (cD hj) hI 1 (cg_1 am cI cC cS st29) rfl 4 (by decide) f_1 (fun _ h9 => h9) rfl (by decide +kernel) rfl rfl (Nat.le_of_ble_eq_true rfl) (cs_1_4 am cI cC cS st29 _) dX6_takeNumber_63 (fun st30 est30 H locs hI => ?_)
          replace hM := nm_at est30 hM
          refine lv_goto (tgt := 5) hx hb dX6_takeNumber_66 (by decide) ?_
          have hz := Option.some.inj hM
          subst hz
          exact ih0 st30 _ _ _ hI (lv_sub hl [0] rfl) hk0
  exact lp0 N st1 _ _ _ hI (lv_sub hl [0] rfl) hM
set_option maxRecDepth 20000 in
theorem hi_X6_nextToken_X6 : ∀ w ∈ wsX60, w ∈ wsX6_nextToken := by decide +kernel
set_option maxHeartbeats 4000000 in
set_option maxRecDepth 100000 in
theorem jw_X6_nextToken {l : Launch} (D : va_G) (am : Nat → Nat) (cI cC cS : ClassId) (hj : aJ am 52) (N : Nat) {st stZ : PS} {rZ : Unit} (hM : jm_X6_nextToken N st = some (rZ, stZ)) : Met l yX6_nextToken wsX6_nextToken ({ frames := 2, cells := 0, slots := 0, locals := 42 }) (va_Pc [.ref (am 1)] (JH D (cW am cI cC cS) (cTy cI cC cS) st)) (JQ D (aA am 52) (cW am cI cC cS) (cTy cI cC cS) none stZ) 0 0 (aA am 52) := by
  refine jStart (cc := cX6_nextToken) (maxL := 1) (ret := none) [.ref (am 1)] (by decide) rfl (Nat.le_of_ble_eq_true rfl) (fun p e s m below meth c ls hx hb hr hlocks hts hown hml hK hI hl => ?_)
  have hown : s.vm.findClass RX6 = some m.cls := hown
  replace hl : lv_has ls 1 [(0, .ref (am 1))] := hl
  generalize hAV : ([.ref (am 1)] : List Value).toArray = AV at hts ⊢
  have f_0 := hts (.fieldLink RX6 35 "PuppetBar$Script" "end" "I") (by decide +kernel)
  have f_1 := hts (.fieldLink RX6 48 "PuppetBar$Script" "begin" "I") (by decide +kernel)
  have f_2 := hts (.fieldLink RX6 19 "PuppetBar$Script" "size" "I") (by decide +kernel)
  have f_3 := hts (.fieldLink RX6 11 "PuppetBar$Script" "bytes" "[C") (by decide +kernel)
  have f_4 := hts (.fieldLink RX6 41 "PuppetBar$Script" "sort" "I") (by decide +kernel)
  unfold jm_X6_nextToken at hM
  refine lv_aload_n hx hb dX6_nextToken_0 rfl (lv_at hl 0 rfl) ?_
  refine lv_aload_n hx hb dX6_nextToken_1 rfl (lv_at hl 0 rfl) ?_
  refine va_get (D := D) (ci := 6) (v := .int (st.1 1 4)) (C := RX6) (T := TX6) (N := 9) hx hb hts hi_X6_nextToken_X6 hown hK hI.1 1 (cg_1 am cI cC cS st) rfl 4 (by decide) f_0 (fun _ h9 => h9) rfl dX6_nextToken_2 ?_
  refine jput (D := D) (ci := 6) (v := .int (st.1 1 4)) (ty := .int) (C := RX6) (T := TX6) (N := 9) (st2 := pU st 1 3 (st.1 1 4)) hx hb hts hi_X6_nextToken_X6 tyX6 tyX6_ok nmX6 hown hK (cD hj) hI 1 (cg_1 am cI cC cS st) rfl 3 (by decide) f_1 (fun _ h9 => h9) rfl (by decide +kernel) rfl rfl (Nat.le_of_ble_eq_true rfl) (cs_1_3 am cI cC cS st _) dX6_nextToken_5 (fun st1 est1 H locs hI => ?_)
  replace hM := nm_at est1 hM
  have lp0 : ∀ (n : Nat) (st2 : PS) (H : Heap) (locs : List Loc) (ls : Array Slot), JI D (aA am 52) (cW am cI cC cS) s.heap st2 H locs → lv_has ls 1 [(0, .ref (am 1))] → iter (fun q => jm_X6_nextToken_L8 N q) n st2 = some (rZ, stZ) → W p l e (headSpec wsX6_nextToken { frames := 2, cells := 0, slots := 0, locals := 42 }).room s m AV below meth c H locs 0 0 (MQ below (JQ D (aA am 52) (cW am cI cC cS) (cTy cI cC cS) none stZ) AV s 0 0 (aA am 52)) (F0 m 8 ls []) := by
    intro n
    induction n with
    | zero =>
      intro _ _ _ _ _ _ hM
      exact absurd hM (fun h => iter_zero h)
    | succ n ih0 =>
      intro st2 H locs ls hI hl hM
      obtain ⟨z0, hM, hk0⟩ := iter_succ hM
      replace hM : jm_X6_nextToken_L8 N st2 = some z0 := hM
      unfold jm_X6_nextToken_L8 at hM
      refine lv_aload_n hx hb dX6_nextToken_8 rfl (lv_at hl 0 rfl) ?_
      refine va_get (D := D) (ci := 6) (v := .int (st2.1 1 3)) (C := RX6) (T := TX6) (N := 9) hx hb hts hi_X6_nextToken_X6 hown hK hI.1 1 (cg_1 am cI cC cS st2) rfl 3 (by decide) f_1 (fun _ h9 => h9) rfl dX6_nextToken_9 ?_
      refine lv_aload_n hx hb dX6_nextToken_12 rfl (lv_at hl 0 rfl) ?_
      refine va_get (D := D) (ci := 6) (v := .int (st2.1 1 1)) (C := RX6) (T := TX6) (N := 9) hx hb hts hi_X6_nextToken_X6 hown hK hI.1 1 (cg_1 am cI cC cS st2) rfl 1 (by decide) f_2 (fun _ h9 => h9) rfl dX6_nextToken_13 ?_
      refine lv_icmp_ge (tgt := 46) hx hb dX6_nextToken_16 (by decide) (fun c3 => ?_) (fun c3 => ?_)
      · replace hM := if_t c3 hM
        refine lv_aload_n hx hb dX6_nextToken_46 rfl (lv_at hl 0 rfl) ?_
        refine lv_aload_n hx hb dX6_nextToken_47 rfl (lv_at hl 0 rfl) ?_
        refine va_get (D := D) (ci := 6) (v := .int (st2.1 1 3)) (C := RX6) (T := TX6) (N := 9) hx hb hts hi_X6_nextToken_X6 hown hK hI.1 1 (cg_1 am cI cC cS st2) rfl 3 (by decide) f_1 (fun _ h9 => h9) rfl dX6_nextToken_48 ?_
        refine jput (D := D) (ci := 6) (v := .int (st2.1 1 3)) (ty := .int) (C := RX6) (T := TX6) (N := 9) (st2 := pU st2 1 4 (st2.1 1 3)) hx hb hts hi_X6_nextToken_X6 tyX6 tyX6_ok nmX6 hown hK (cD hj) hI 1 (cg_1 am cI cC cS st2) rfl 4 (by decide) f_0 (fun _ h9 => h9) rfl (by decide +kernel) rfl rfl (Nat.le_of_ble_eq_true rfl) (cs_1_4 am cI cC cS st2 _) dX6_nextToken_51 (fun st4 est4 H locs hI => ?_)
        replace hM := nm_at est4 hM
        refine lv_aload_n hx hb dX6_nextToken_54 rfl (lv_at hl 0 rfl) ?_
        refine va_get (D := D) (ci := 6) (v := .int (st4.1 1 3)) (C := RX6) (T := TX6) (N := 9) hx hb hts hi_X6_nextToken_X6 hown hK hI.1 1 (cg_1 am cI cC cS st4) rfl 3 (by decide) f_1 (fun _ h9 => h9) rfl dX6_nextToken_55 ?_
        refine lv_aload_n hx hb dX6_nextToken_58 rfl (lv_at hl 0 rfl) ?_
        refine va_get (D := D) (ci := 6) (v := .int (st4.1 1 1)) (C := RX6) (T := TX6) (N := 9) hx hb hts hi_X6_nextToken_X6 hown hK hI.1 1 (cg_1 am cI cC cS st4) rfl 1 (by decide) f_2 (fun _ h9 => h9) rfl dX6_nextToken_59 ?_
        refine lv_icmp_lt (tgt := 73) hx hb dX6_nextToken_62 (by decide) (fun c5 => ?_) (fun c5 => ?_)
        · replace hM := if_t c5 hM
          refine lv_aload_n hx hb dX6_nextToken_73 rfl (lv_at hl 0 rfl) ?_
          refine lv_aload_n hx hb dX6_nextToken_74 rfl (lv_at hl 0 rfl) ?_
          refine va_get (D := D) (ci := 6) (v := .int (st4.1 1 3)) (C := RX6) (T := TX6) (N := 9) hx hb hts hi_X6_nextToken_X6 hown hK hI.1 1 (cg_1 am cI cC cS st4) rfl 3 (by decide) f_1 (fun _ h9 => h9) rfl dX6_nextToken_75 ?_
          obtain ⟨v6, st7, hqv6, hM⟩ := bd_at hM
          refine jcallV (C := RX6) (As := [.int (st4.1 1 3)]) (rest := []) ⟨hx, hb, hml, hown, hts⟩ (jw_X6_isLetter D am cI cC cS hj N hqv6) (cwV 1 hts gX6_nextToken_X6_isLetter rfl rfl rfl yd_X6_isLetter ⟨Nat.le_of_ble_eq_true rfl, Nat.le_of_ble_eq_true rfl⟩) hK hI 1 (cg_1 am cI cC cS st4) rfl rfl hl.1 rfl (Nat.le_of_ble_eq_true rfl) dX6_nextToken_78 (fun H locs hI => ?_)
          refine W.eq (g2 := F0 m 81 ls [.int v6]) rfl ?_
          refine lv_if_eq (tgt := 91) hx hb dX6_nextToken_81 (by decide) (fun c8 => ?_) (fun c8 => ?_)
          · replace hM := if_t c8 hM
            refine lv_aload_n hx hb dX6_nextToken_91 rfl (lv_at hl 0 rfl) ?_
            refine lv_aload_n hx hb dX6_nextToken_92 rfl (lv_at hl 0 rfl) ?_
            refine va_get (D := D) (ci := 6) (v := .int (st7.1 1 3)) (C := RX6) (T := TX6) (N := 9) hx hb hts hi_X6_nextToken_X6 hown hK hI.1 1 (cg_1 am cI cC cS st7) rfl 3 (by decide) f_1 (fun _ h9 => h9) rfl dX6_nextToken_93 ?_
            obtain ⟨v9, st10, hqv9, hM⟩ := bd_at hM
            refine jcallV (C := RX6) (As := [.int (st7.1 1 3)]) (rest := []) ⟨hx, hb, hml, hown, hts⟩ (jw_X6_isDigit D am cI cC cS hj N hqv9) (cwV 1 hts gX6_nextToken_X6_isDigit rfl rfl rfl yd_X6_isDigit ⟨Nat.le_of_ble_eq_true rfl, Nat.le_of_ble_eq_true rfl⟩) hK hI 1 (cg_1 am cI cC cS st7) rfl rfl hl.1 rfl (Nat.le_of_ble_eq_true rfl) dX6_nextToken_96 (fun H locs hI => ?_)
            refine W.eq (g2 := F0 m 99 ls [.int v9]) rfl ?_
            refine lv_if_eq (tgt := 109) hx hb dX6_nextToken_99 (by decide) (fun c11 => ?_) (fun c11 => ?_)
            · replace hM := if_t c11 hM
              refine lv_aload_n hx hb dX6_nextToken_109 rfl (lv_at hl 0 rfl) ?_
              refine lv_aload_n hx hb dX6_nextToken_110 rfl (lv_at hl 0 rfl) ?_
              refine va_get (D := D) (ci := 6) (v := .ref (am 2)) (C := RX6) (T := TX6) (N := 9) hx hb hts hi_X6_nextToken_X6 hown hK hI.1 1 (cg_1 am cI cC cS st10) rfl 0 (by decide) f_3 (fun _ h9 => h9) rfl dX6_nextToken_111 ?_
              refine lv_aload_n hx hb dX6_nextToken_114 rfl (lv_at hl 0 rfl) ?_
              refine va_get (D := D) (ci := 6) (v := .int (st10.1 1 3)) (C := RX6) (T := TX6) (N := 9) hx hb hts hi_X6_nextToken_X6 hown hK hI.1 1 (cg_1 am cI cC cS st10) rfl 3 (by decide) f_1 (fun _ h9 => h9) rfl dX6_nextToken_115 ?_
              obtain ⟨g12, hM⟩ := gd_at hM
              refine va_cald hx hb hK hI.1 2 1 (cg_2 am cI cC cS st10) rfl (inB_vp g12) dX6_nextToken_118 ?_
              refine lv_bipush (v := (59 : Int32)) hx hb dX6_nextToken_119 (by decide) ?_
              refine lv_icmp_ne (tgt := 128) hx hb dX6_nextToken_121 (by decide) (fun c13 => ?_) (fun c13 => ?_)
              · replace hM := if_f c13 hM
                refine lv_iconst (v := (4 : Int32)) hx hb dX6_nextToken_128 (by decide) ?_
                refine jput (D := D) (ci := 6) (v := .int (4 : Int32)) (ty := .int) (C := RX6) (T := TX6) (N := 9) (st2 := pU st10 1 2 (4 : Int32)) hx hb hts hi_X6_nextToken_X6 tyX6 tyX6_ok nmX6 hown hK (cD hj) hI 1 (cg_1 am cI cC cS st10) rfl 2 (by decide) f_4 (fun _ h9 => h9) rfl (by decide +kernel) rfl rfl (Nat.le_of_ble_eq_true rfl) (cs_1_2 am cI cC cS st10 _) dX6_nextToken_129 (fun st14 est14 H locs hI => ?_)
                replace hM := nm_at est14 hM
                refine lv_aload_n hx hb dX6_nextToken_132 rfl (lv_at hl 0 rfl) ?_
                refine lv_dup hx hb dX6_nextToken_133 rfl ?_
                refine va_get (D := D) (ci := 6) (v := .int (st14.1 1 4)) (C := RX6) (T := TX6) (N := 9) hx hb hts hi_X6_nextToken_X6 hown hK hI.1 1 (cg_1 am cI cC cS st14) rfl 4 (by decide) f_0 (fun _ h9 => h9) rfl dX6_nextToken_134 ?_
                refine lv_iconst (v := (1 : Int32)) hx hb dX6_nextToken_137 (by decide) ?_
                refine lv_iadd hx hb dX6_nextToken_138 ?_
                refine jput (D := D) (ci := 6) (v := .int ((st14.1 1 4) + (1 : Int32))) (ty := .int) (C := RX6) (T := TX6) (N := 9) (st2 := pU st14 1 4 ((st14.1 1 4) + (1 : Int32))) hx hb hts hi_X6_nextToken_X6 tyX6 tyX6_ok nmX6 hown hK (cD hj) hI 1 (cg_1 am cI cC cS st14) rfl 4 (by decide) f_0 (fun _ h9 => h9) rfl (by decide +kernel) rfl rfl (Nat.le_of_ble_eq_true rfl) (cs_1_4 am cI cC cS st14 _) dX6_nextToken_139 (fun st15 est15 H locs hI => ?_)
                replace hM := nm_at est15 hM
                have hz := Option.some.inj hM
                subst hz
                have hz := kn_r hk0
                exact W.vret hx hb hr (fun t ht hW => jq_v hK hI hz ht hW) hI.2.2.2 dX6_nextToken_142
              · replace hM := if_t c13 hM
                refine lv_iconst (v := (3 : Int32)) hx hb dX6_nextToken_124 (by decide) ?_
                refine lv_goto (tgt := 129) hx hb dX6_nextToken_125 (by decide) ?_
                refine jput (D := D) (ci := 6) (v := .int (3 : Int32)) (ty := .int) (C := RX6) (T := TX6) (N := 9) (st2 := pU st10 1 2 (3 : Int32)) hx hb hts hi_X6_nextToken_X6 tyX6 tyX6_ok nmX6 hown hK (cD hj) hI 1 (cg_1 am cI cC cS st10) rfl 2 (by decide) f_4 (fun _ h9 => h9) rfl (by decide +kernel) rfl rfl (Nat.le_of_ble_eq_true rfl) (cs_1_2 am cI cC cS st10 _) dX6_nextToken_129 (fun st16 est16 H locs hI => ?_)
                replace hM := nm_at est16 hM
                refine lv_aload_n hx hb dX6_nextToken_132 rfl (lv_at hl 0 rfl) ?_
                refine lv_dup hx hb dX6_nextToken_133 rfl ?_
                refine va_get (D := D) (ci := 6) (v := .int (st16.1 1 4)) (C := RX6) (T := TX6) (N := 9) hx hb hts hi_X6_nextToken_X6 hown hK hI.1 1 (cg_1 am cI cC cS st16) rfl 4 (by decide) f_0 (fun _ h9 => h9) rfl dX6_nextToken_134 ?_
                refine lv_iconst (v := (1 : Int32)) hx hb dX6_nextToken_137 (by decide) ?_
                refine lv_iadd hx hb dX6_nextToken_138 ?_
                refine jput (D := D) (ci := 6) (v := .int ((st16.1 1 4) + (1 : Int32))) (ty := .int) (C := RX6) (T := TX6) (N := 9) (st2 := pU st16 1 4 ((st16.1 1 4) + (1 : Int32))) hx hb hts hi_X6_nextToken_X6 tyX6 tyX6_ok nmX6 hown hK (cD hj) hI 1 (cg_1 am cI cC cS st16) rfl 4 (by decide) f_0 (fun _ h9 => h9) rfl (by decide +kernel) rfl rfl (Nat.le_of_ble_eq_true rfl) (cs_1_4 am cI cC cS st16 _) dX6_nextToken_139 (fun st17 est17 H locs hI => ?_)
                replace hM := nm_at est17 hM
                have hz := Option.some.inj hM
                subst hz
                have hz := kn_r hk0
                exact W.vret hx hb hr (fun t ht hW => jq_v hK hI hz ht hW) hI.2.2.2 dX6_nextToken_142
            · replace hM := if_f c11 hM
              refine lv_aload_n hx hb dX6_nextToken_102 rfl (lv_at hl 0 rfl) ?_
              obtain ⟨v18, st19, hqv18, hM⟩ := bd_at hM
              refine jcallV (C := RX6) (As := []) (rest := []) ⟨hx, hb, hml, hown, hts⟩ (jw_X6_takeNumber D am cI cC cS hj N hqv18) (cwV 0 hts gX6_nextToken_X6_takeNumber rfl rfl rfl yd_X6_takeNumber ⟨Nat.le_of_ble_eq_true rfl, Nat.le_of_ble_eq_true rfl⟩) hK hI 1 (cg_1 am cI cC cS st10) rfl rfl hl.1 rfl (Nat.le_of_ble_eq_true rfl) dX6_nextToken_103 (fun H locs hI => ?_)
              refine W.eq (g2 := F0 m 106 ls []) rfl ?_
              refine lv_goto (tgt := 142) hx hb dX6_nextToken_106 (by decide) ?_
              have hz := Option.some.inj hM
              subst hz
              have hz := kn_r hk0
              exact W.vret hx hb hr (fun t ht hW => jq_v hK hI hz ht hW) hI.2.2.2 dX6_nextToken_142
          · replace hM := if_f c8 hM
            refine lv_aload_n hx hb dX6_nextToken_84 rfl (lv_at hl 0 rfl) ?_
            obtain ⟨v20, st21, hqv20, hM⟩ := bd_at hM
            refine jcallV (C := RX6) (As := []) (rest := []) ⟨hx, hb, hml, hown, hts⟩ (jw_X6_takeLetters D am cI cC cS hj N hqv20) (cwV 0 hts gX6_nextToken_X6_takeLetters rfl rfl rfl yd_X6_takeLetters ⟨Nat.le_of_ble_eq_true rfl, Nat.le_of_ble_eq_true rfl⟩) hK hI 1 (cg_1 am cI cC cS st7) rfl rfl hl.1 rfl (Nat.le_of_ble_eq_true rfl) dX6_nextToken_85 (fun H locs hI => ?_)
            refine W.eq (g2 := F0 m 88 ls []) rfl ?_
            refine lv_goto (tgt := 142) hx hb dX6_nextToken_88 (by decide) ?_
            have hz := Option.some.inj hM
            subst hz
            have hz := kn_r hk0
            exact W.vret hx hb hr (fun t ht hW => jq_v hK hI hz ht hW) hI.2.2.2 dX6_nextToken_142
        · replace hM := if_f c5 hM
          refine lv_aload_n hx hb dX6_nextToken_65 rfl (lv_at hl 0 rfl) ?_
          refine lv_iconst (v := (0 : Int32)) hx hb dX6_nextToken_66 (by decide) ?_
          refine jput (D := D) (ci := 6) (v := .int (0 : Int32)) (ty := .int) (C := RX6) (T := TX6) (N := 9) (st2 := pU st4 1 2 (0 : Int32)) hx hb hts hi_X6_nextToken_X6 tyX6 tyX6_ok nmX6 hown hK (cD hj) hI 1 (cg_1 am cI cC cS st4) rfl 2 (by decide) f_4 (fun _ h9 => h9) rfl (by decide +kernel) rfl rfl (Nat.le_of_ble_eq_true rfl) (cs_1_2 am cI cC cS st4 _) dX6_nextToken_67 (fun st22 est22 H locs hI => ?_)
          replace hM := nm_at est22 hM
          refine lv_goto (tgt := 142) hx hb dX6_nextToken_70 (by decide) ?_
          have hz := Option.some.inj hM
          subst hz
          have hz := kn_r hk0
          exact W.vret hx hb hr (fun t ht hW => jq_v hK hI hz ht hW) hI.2.2.2 dX6_nextToken_142
      · replace hM := if_f c3 hM
        refine lv_aload_n hx hb dX6_nextToken_19 rfl (lv_at hl 0 rfl) ?_
        refine va_get (D := D) (ci := 6) (v := .ref (am 2)) (C := RX6) (T := TX6) (N := 9) hx hb hts hi_X6_nextToken_X6 hown hK hI.1 1 (cg_1 am cI cC cS st2) rfl 0 (by decide) f_3 (fun _ h9 => h9) rfl dX6_nextToken_20 ?_
        refine lv_aload_n hx hb dX6_nextToken_23 rfl (lv_at hl 0 rfl) ?_
        refine va_get (D := D) (ci := 6) (v := .int (st2.1 1 3)) (C := RX6) (T := TX6) (N := 9) hx hb hts hi_X6_nextToken_X6 hown hK hI.1 1 (cg_1 am cI cC cS st2) rfl 3 (by decide) f_1 (fun _ h9 => h9) rfl dX6_nextToken_24 ?_
        obtain ⟨g23, hM⟩ := gd_at hM
        refine va_cald hx hb hK hI.1 2 1 (cg_2 am cI cC cS st2) rfl (inB_vp g23) dX6_nextToken_27 ?_
        refine lv_bipush (v := (32 : Int32)) hx hb dX6_nextToken_28 (by decide) ?_
        refine lv_icmp_ne (tgt := 46) hx hb dX6_nextToken_30 (by decide) (fun c24 => ?_) (fun c24 => ?_)
        · replace hM := if_f c24 hM
          refine lv_aload_n hx hb dX6_nextToken_46 rfl (lv_at hl 0 rfl) ?_
          refine lv_aload_n hx hb dX6_nextToken_47 rfl (lv_at hl 0 rfl) ?_
          refine va_get (D := D) (ci := 6) (v := .int (st2.1 1 3)) (C := RX6) (T := TX6) (N := 9) hx hb hts hi_X6_nextToken_X6 hown hK hI.1 1 (cg_1 am cI cC cS st2) rfl 3 (by decide) f_1 (fun _ h9 => h9) rfl dX6_nextToken_48 ?_
          refine jput (D := D) (ci := 6) (v := .int (st2.1 1 3)) (ty := .int) (C := RX6) (T := TX6) (N := 9) (st2 := pU st2 1 4 (st2.1 1 3)) hx hb hts hi_X6_nextToken_X6 tyX6 tyX6_ok nmX6 hown hK (cD hj) hI 1 (cg_1 am cI cC cS st2) rfl 4 (by decide) f_0 (fun _ h9 => h9) rfl (by decide +kernel) rfl rfl (Nat.le_of_ble_eq_true rfl) (cs_1_4 am cI cC cS st2 _) dX6_nextToken_51 (fun st25 est25 H locs hI => ?_)
          replace hM := nm_at est25 hM
          refine lv_aload_n hx hb dX6_nextToken_54 rfl (lv_at hl 0 rfl) ?_
          refine va_get (D := D) (ci := 6) (v := .int (st25.1 1 3)) (C := RX6) (T := TX6) (N := 9) hx hb hts hi_X6_nextToken_X6 hown hK hI.1 1 (cg_1 am cI cC cS st25) rfl 3 (by decide) f_1 (fun _ h9 => h9) rfl dX6_nextToken_55 ?_
          refine lv_aload_n hx hb dX6_nextToken_58 rfl (lv_at hl 0 rfl) ?_
          refine va_get (D := D) (ci := 6) (v := .int (st25.1 1 1)) (C := RX6) (T := TX6) (N := 9) hx hb hts hi_X6_nextToken_X6 hown hK hI.1 1 (cg_1 am cI cC cS st25) rfl 1 (by decide) f_2 (fun _ h9 => h9) rfl dX6_nextToken_59 ?_
          refine lv_icmp_lt (tgt := 73) hx hb dX6_nextToken_62 (by decide) (fun c26 => ?_) (fun c26 => ?_)
          · replace hM := if_t c26 hM
            refine lv_aload_n hx hb dX6_nextToken_73 rfl (lv_at hl 0 rfl) ?_
            refine lv_aload_n hx hb dX6_nextToken_74 rfl (lv_at hl 0 rfl) ?_
            refine va_get (D := D) (ci := 6) (v := .int (st25.1 1 3)) (C := RX6) (T := TX6) (N := 9) hx hb hts hi_X6_nextToken_X6 hown hK hI.1 1 (cg_1 am cI cC cS st25) rfl 3 (by decide) f_1 (fun _ h9 => h9) rfl dX6_nextToken_75 ?_
            obtain ⟨v27, st28, hqv27, hM⟩ := bd_at hM
            refine jcallV (C := RX6) (As := [.int (st25.1 1 3)]) (rest := []) ⟨hx, hb, hml, hown, hts⟩ (jw_X6_isLetter D am cI cC cS hj N hqv27) (cwV 1 hts gX6_nextToken_X6_isLetter rfl rfl rfl yd_X6_isLetter ⟨Nat.le_of_ble_eq_true rfl, Nat.le_of_ble_eq_true rfl⟩) hK hI 1 (cg_1 am cI cC cS st25) rfl rfl hl.1 rfl (Nat.le_of_ble_eq_true rfl) dX6_nextToken_78 (fun H locs hI => ?_)
            refine W.eq (g2 := F0 m 81 ls [.int v27]) rfl ?_
            refine lv_if_eq (tgt := 91) hx hb dX6_nextToken_81 (by decide) (fun c29 => ?_) (fun c29 => ?_)
            · replace hM := if_t c29 hM
              refine lv_aload_n hx hb dX6_nextToken_91 rfl (lv_at hl 0 rfl) ?_
              refine lv_aload_n hx hb dX6_nextToken_92 rfl (lv_at hl 0 rfl) ?_
              refine va_get (D := D) (ci := 6) (v := .int (st28.1 1 3)) (C := RX6) (T := TX6) (N := 9) hx hb hts hi_X6_nextToken_X6 hown hK hI.1 1 (cg_1 am cI cC cS st28) rfl 3 (by decide) f_1 (fun _ h9 => h9) rfl dX6_nextToken_93 ?_
              obtain ⟨v30, st31, hqv30, hM⟩ := bd_at hM
              refine jcallV (C := RX6) (As := [.int (st28.1 1 3)]) (rest := []) ⟨hx, hb, hml, hown, hts⟩ (jw_X6_isDigit D am cI cC cS hj N hqv30) (cwV 1 hts gX6_nextToken_X6_isDigit rfl rfl rfl yd_X6_isDigit ⟨Nat.le_of_ble_eq_true rfl, Nat.le_of_ble_eq_true rfl⟩) hK hI 1 (cg_1 am cI cC cS st28) rfl rfl hl.1 rfl (Nat.le_of_ble_eq_true rfl) dX6_nextToken_96 (fun H locs hI => ?_)
              refine W.eq (g2 := F0 m 99 ls [.int v30]) rfl ?_
              refine lv_if_eq (tgt := 109) hx hb dX6_nextToken_99 (by decide) (fun c32 => ?_) (fun c32 => ?_)
              · replace hM := if_t c32 hM
                refine lv_aload_n hx hb dX6_nextToken_109 rfl (lv_at hl 0 rfl) ?_
                refine lv_aload_n hx hb dX6_nextToken_110 rfl (lv_at hl 0 rfl) ?_
                refine va_get (D := D) (ci := 6) (v := .ref (am 2)) (C := RX6) (T := TX6) (N := 9) hx hb hts hi_X6_nextToken_X6 hown hK hI.1 1 (cg_1 am cI cC cS st31) rfl 0 (by decide) f_3 (fun _ h9 => h9) rfl dX6_nextToken_111 ?_
                refine lv_aload_n hx hb dX6_nextToken_114 rfl (lv_at hl 0 rfl) ?_
                refine va_get (D := D) (ci := 6) (v := .int (st31.1 1 3)) (C := RX6) (T := TX6) (N := 9) hx hb hts hi_X6_nextToken_X6 hown hK hI.1 1 (cg_1 am cI cC cS st31) rfl 3 (by decide) f_1 (fun _ h9 => h9) rfl dX6_nextToken_115 ?_
                obtain ⟨g33, hM⟩ := gd_at hM
                refine va_cald hx hb hK hI.1 2 1 (cg_2 am cI cC cS st31) rfl (inB_vp g33) dX6_nextToken_118 ?_
                refine lv_bipush (v := (59 : Int32)) hx hb dX6_nextToken_119 (by decide) ?_
                refine lv_icmp_ne (tgt := 128) hx hb dX6_nextToken_121 (by decide) (fun c34 => ?_) (fun c34 => ?_)
                · replace hM := if_f c34 hM
                  refine lv_iconst (v := (4 : Int32)) hx hb dX6_nextToken_128 (by decide) ?_
                  refine jput (D := D) (ci := 6) (v := .int (4 : Int32)) (ty := .int) (C := RX6) (T := TX6) (N := 9) (st2 := pU st31 1 2 (4 : Int32)) hx hb hts hi_X6_nextToken_X6 tyX6 tyX6_ok nmX6 hown hK (cD hj) hI 1 (cg_1 am cI cC cS st31) rfl 2 (by decide) f_4 (fun _ h9 => h9) rfl (by decide +kernel) rfl rfl (Nat.le_of_ble_eq_true rfl) (cs_1_2 am cI cC cS st31 _) dX6_nextToken_129 (fun st35 est35 H locs hI => ?_)
                  replace hM := nm_at est35 hM
                  refine lv_aload_n hx hb dX6_nextToken_132 rfl (lv_at hl 0 rfl) ?_
                  refine lv_dup hx hb dX6_nextToken_133 rfl ?_
                  refine va_get (D := D) (ci := 6) (v := .int (st35.1 1 4)) (C := RX6) (T := TX6) (N := 9) hx hb hts hi_X6_nextToken_X6 hown hK hI.1 1 (cg_1 am cI cC cS st35) rfl 4 (by decide) f_0 (fun _ h9 => h9) rfl dX6_nextToken_134 ?_
                  refine lv_iconst (v := (1 : Int32)) hx hb dX6_nextToken_137 (by decide) ?_
                  refine lv_iadd hx hb dX6_nextToken_138 ?_
                  refine jput (D := D) (ci := 6) (v := .int ((st35.1 1 4) + (1 : Int32))) (ty := .int) (C := RX6) (T := TX6) (N := 9) (st2 := pU st35 1 4 ((st35.1 1 4) + (1 : Int32))) hx hb hts hi_X6_nextToken_X6 tyX6 tyX6_ok nmX6 hown hK (cD hj) hI 1 (cg_1 am cI cC cS st35) rfl 4 (by decide) f_0 (fun _ h9 => h9) rfl (by decide +kernel) rfl rfl (Nat.le_of_ble_eq_true rfl) (cs_1_4 am cI cC cS st35 _) dX6_nextToken_139 (fun st36 est36 H locs hI => ?_)
                  replace hM := nm_at est36 hM
                  have hz := Option.some.inj hM
                  subst hz
                  have hz := kn_r hk0
                  exact W.vret hx hb hr (fun t ht hW => jq_v hK hI hz ht hW) hI.2.2.2 dX6_nextToken_142
                · replace hM := if_t c34 hM
                  refine lv_iconst (v := (3 : Int32)) hx hb dX6_nextToken_124 (by decide) ?_
                  refine lv_goto (tgt := 129) hx hb dX6_nextToken_125 (by decide) ?_
                  refine jput (D := D) (ci := 6) (v := .int (3 : Int32)) (ty := .int) (C := RX6) (T := TX6) (N := 9) (st2 := pU st31 1 2 (3 : Int32)) hx hb hts hi_X6_nextToken_X6 tyX6 tyX6_ok nmX6 hown hK (cD hj) hI 1 (cg_1 am cI cC cS st31) rfl 2 (by decide) f_4 (fun _ h9 => h9) rfl (by decide +kernel) rfl rfl (Nat.le_of_ble_eq_true rfl) (cs_1_2 am cI cC cS st31 _) dX6_nextToken_129 (fun st37 est37 H locs hI => ?_)
                  replace hM := nm_at est37 hM
                  refine lv_aload_n hx hb dX6_nextToken_132 rfl (lv_at hl 0 rfl) ?_
                  refine lv_dup hx hb dX6_nextToken_133 rfl ?_
                  refine va_get (D := D) (ci := 6) (v := .int (st37.1 1 4)) (C := RX6) (T := TX6) (N := 9) hx hb hts hi_X6_nextToken_X6 hown hK hI.1 1 (cg_1 am cI cC cS st37) rfl 4 (by decide) f_0 (fun _ h9 => h9) rfl dX6_nextToken_134 ?_
                  refine lv_iconst (v := (1 : Int32)) hx hb dX6_nextToken_137 (by decide) ?_
                  refine lv_iadd hx hb dX6_nextToken_138 ?_
                  refine jput (D := D) (ci := 6) (v := .int ((st37.1 1 4) + (1 : Int32))) (ty := .int) (C := RX6) (T := TX6) (N := 9) (st2 := pU st37 1 4 ((st37.1 1 4) + (1 : Int32))) hx hb hts hi_X6_nextToken_X6 tyX6 tyX6_ok nmX6 hown hK (cD hj) hI 1 (cg_1 am cI cC cS st37) rfl 4 (by decide) f_0 (fun _ h9 => h9) rfl (by decide +kernel) rfl rfl (Nat.le_of_ble_eq_true rfl) (cs_1_4 am cI cC cS st37 _) dX6_nextToken_139 (fun st38 est38 H locs hI => ?_)
                  replace hM := nm_at est38 hM
                  have hz := Option.some.inj hM
                  subst hz
                  have hz := kn_r hk0
                  exact W.vret hx hb hr (fun t ht hW => jq_v hK hI hz ht hW) hI.2.2.2 dX6_nextToken_142
              · replace hM := if_f c32 hM
                refine lv_aload_n hx hb dX6_nextToken_102 rfl (lv_at hl 0 rfl) ?_
                obtain ⟨v39, st40, hqv39, hM⟩ := bd_at hM
                refine jcallV (C := RX6) (As := []) (rest := []) ⟨hx, hb, hml, hown, hts⟩ (jw_X6_takeNumber D am cI cC cS hj N hqv39) (cwV 0 hts gX6_nextToken_X6_takeNumber rfl rfl rfl yd_X6_takeNumber ⟨Nat.le_of_ble_eq_true rfl, Nat.le_of_ble_eq_true rfl⟩) hK hI 1 (cg_1 am cI cC cS st31) rfl rfl hl.1 rfl (Nat.le_of_ble_eq_true rfl) dX6_nextToken_103 (fun H locs hI => ?_)
                refine W.eq (g2 := F0 m 106 ls []) rfl ?_
                refine lv_goto (tgt := 142) hx hb dX6_nextToken_106 (by decide) ?_
                have hz := Option.some.inj hM
                subst hz
                have hz := kn_r hk0
                exact W.vret hx hb hr (fun t ht hW => jq_v hK hI hz ht hW) hI.2.2.2 dX6_nextToken_142
            · replace hM := if_f c29 hM
              refine lv_aload_n hx hb dX6_nextToken_84 rfl (lv_at hl 0 rfl) ?_
              obtain ⟨v41, st42, hqv41, hM⟩ := bd_at hM
              refine jcallV (C := RX6) (As := []) (rest := []) ⟨hx, hb, hml, hown, hts⟩ (jw_X6_takeLetters D am cI cC cS hj N hqv41) (cwV 0 hts gX6_nextToken_X6_takeLetters rfl rfl rfl yd_X6_takeLetters ⟨Nat.le_of_ble_eq_true rfl, Nat.le_of_ble_eq_true rfl⟩) hK hI 1 (cg_1 am cI cC cS st28) rfl rfl hl.1 rfl (Nat.le_of_ble_eq_true rfl) dX6_nextToken_85 (fun H locs hI => ?_)
              refine W.eq (g2 := F0 m 88 ls []) rfl ?_
              refine lv_goto (tgt := 142) hx hb dX6_nextToken_88 (by decide) ?_
              have hz := Option.some.inj hM
              subst hz
              have hz := kn_r hk0
              exact W.vret hx hb hr (fun t ht hW => jq_v hK hI hz ht hW) hI.2.2.2 dX6_nextToken_142
          · replace hM := if_f c26 hM
            refine lv_aload_n hx hb dX6_nextToken_65 rfl (lv_at hl 0 rfl) ?_
            refine lv_iconst (v := (0 : Int32)) hx hb dX6_nextToken_66 (by decide) ?_
            refine jput (D := D) (ci := 6) (v := .int (0 : Int32)) (ty := .int) (C := RX6) (T := TX6) (N := 9) (st2 := pU st25 1 2 (0 : Int32)) hx hb hts hi_X6_nextToken_X6 tyX6 tyX6_ok nmX6 hown hK (cD hj) hI 1 (cg_1 am cI cC cS st25) rfl 2 (by decide) f_4 (fun _ h9 => h9) rfl (by decide +kernel) rfl rfl (Nat.le_of_ble_eq_true rfl) (cs_1_2 am cI cC cS st25 _) dX6_nextToken_67 (fun st43 est43 H locs hI => ?_)
            replace hM := nm_at est43 hM
            refine lv_goto (tgt := 142) hx hb dX6_nextToken_70 (by decide) ?_
            have hz := Option.some.inj hM
            subst hz
            have hz := kn_r hk0
            exact W.vret hx hb hr (fun t ht hW => jq_v hK hI hz ht hW) hI.2.2.2 dX6_nextToken_142
        · replace hM := if_t c24 hM
          refine lv_aload_n hx hb dX6_nextToken_33 rfl (lv_at hl 0 rfl) ?_
          refine lv_dup hx hb dX6_nextToken_34 rfl ?_
          refine va_get (D := D) (ci := 6) (v := .int (st2.1 1 3)) (C := RX6) (T := TX6) (N := 9) hx hb hts hi_X6_nextToken_X6 hown hK hI.1 1 (cg_1 am cI cC cS st2) rfl 3 (by decide) f_1 (fun _ h9 => h9) rfl dX6_nextToken_35 ?_
          refine lv_iconst (v := (1 : Int32)) hx hb dX6_nextToken_38 (by decide) ?_
          refine lv_iadd hx hb dX6_nextToken_39 ?_
          refine jput (D := D) (ci := 6) (v := .int ((st2.1 1 3) + (1 : Int32))) (ty := .int) (C := RX6) (T := TX6) (N := 9) (st2 := pU st2 1 3 ((st2.1 1 3) + (1 : Int32))) hx hb hts hi_X6_nextToken_X6 tyX6 tyX6_ok nmX6 hown hK (cD hj) hI 1 (cg_1 am cI cC cS st2) rfl 3 (by decide) f_1 (fun _ h9 => h9) rfl (by decide +kernel) rfl rfl (Nat.le_of_ble_eq_true rfl) (cs_1_3 am cI cC cS st2 _) dX6_nextToken_40 (fun st44 est44 H locs hI => ?_)
          replace hM := nm_at est44 hM
          refine lv_goto (tgt := 8) hx hb dX6_nextToken_43 (by decide) ?_
          have hz := Option.some.inj hM
          subst hz
          exact ih0 st44 _ _ _ hI (lv_sub hl [0] rfl) hk0
  exact lp0 N st1 _ _ _ hI (lv_sub hl [0] rfl) hM
set_option maxRecDepth 20000 in
theorem hi_X6_mayBegin_X0 : ∀ w ∈ wsX00, w ∈ wsX6_mayBegin := by decide +kernel
set_option maxRecDepth 20000 in
theorem hi_X6_mayBegin_X6 : ∀ w ∈ wsX60, w ∈ wsX6_mayBegin := by decide +kernel
set_option maxHeartbeats 4000000 in
set_option maxRecDepth 100000 in
theorem jw_X6_mayBegin {l : Launch} (D : va_G) (am : Nat → Nat) (cI cC cS : ClassId) (hj : aJ am 52) (N : Nat) {x1 : Int32} {r2 : Nat} (h2 : ck_Doll r2) {st stZ : PS} {rZ : Int32} (hM : jm_X6_mayBegin N x1 r2 st = some (rZ, stZ)) : Met l yX6_mayBegin wsX6_mayBegin ({ frames := 0, cells := 0, slots := 0, locals := 0 }) (va_Pc [.ref (am 1), .int x1, .ref (am r2)] (JH D (cW am cI cC cS) (cTy cI cC cS) st)) (JQ D (aA am 52) (cW am cI cC cS) (cTy cI cC cS) (some (.int rZ)) stZ) 0 0 (aA am 52) := by
  refine jStart (cc := cX6_mayBegin) (maxL := 3) (ret := (some .boolean)) [.ref (am 1), .int x1, .ref (am r2)] (by decide) rfl (Nat.le_of_ble_eq_true rfl) (fun p e s m below meth c ls hx hb hr hlocks hts hown hml hK hI hl => ?_)
  have hown : s.vm.findClass RX6 = some m.cls := hown
  replace hl : lv_has ls 3 [(0, .ref (am 1)), (1, .int x1), (2, .ref (am r2))] := hl
  generalize hAV : ([.ref (am 1), .int x1, .ref (am r2)] : List Value).toArray = AV at hts ⊢
  have f_0 := hts (.fieldLink RX6 79 "PuppetBar$Doll" "beats" "I") (by decide +kernel)
  have f_1 := hts (.fieldLink RX6 73 "PuppetBar$Doll" "limbs" "I") (by decide +kernel)
  have f_2 := hts (.fieldLink RX6 76 "PuppetBar$Doll" "strings" "I") (by decide +kernel)
  have f_3 := hts (.fieldLink RX6 32 "PuppetBar$Script" "tiltTold" "Z") (by decide +kernel)
  have f_4 := hts (.fieldLink RX6 28 "PuppetBar$Script" "liftTold" "Z") (by decide +kernel)
  unfold jm_X6_mayBegin at hM
  refine lv_iload_n hx hb dX6_mayBegin_0 rfl (lv_at hl 1 rfl) ?_
  by_cases c1 : x1 = (98 : Int32)
  · replace hM := if_t c1 hM
    refine lv_lookup (off := 81) (tgt := 82) hx hb dX6_mayBegin_1 (by decide) (by rw [c1]; decide) (by decide) ?_
    refine lv_aload_n hx hb dX6_mayBegin_82 rfl (lv_at hl 2 rfl) ?_
    refine va_get (D := D) (ci := 0) (v := .int (st.1 r2 9)) (C := RX0) (T := TX0) (N := 11) hx hb hts hi_X6_mayBegin_X0 hown hK hI.1 r2 (cg_Doll am cI cC cS st h2) rfl 9 (by decide) f_0 (fun _ h9 => h9) rfl dX6_mayBegin_83 ?_
    refine lv_bipush (v := (7 : Int32)) hx hb dX6_mayBegin_86 (by decide) ?_
    refine lv_icmp_ge (tgt := 95) hx hb dX6_mayBegin_88 (by decide) (fun c2 => ?_) (fun c2 => ?_)
    · replace hM := if_t c2 hM
      refine lv_iconst (v := (0 : Int32)) hx hb dX6_mayBegin_95 (by decide) ?_
      have hz := Option.some.inj hM
      exact W.zret hx hb hr rfl (fun t ht hW => jq_i hK hI hz ht hW) hI.2.2.2 dX6_mayBegin_96
    · replace hM := if_f c2 hM
      refine lv_iconst (v := (1 : Int32)) hx hb dX6_mayBegin_91 (by decide) ?_
      refine lv_goto (tgt := 96) hx hb dX6_mayBegin_92 (by decide) ?_
      have hz := Option.some.inj hM
      exact W.zret hx hb hr rfl (fun t ht hW => jq_i hK hI hz ht hW) hI.2.2.2 dX6_mayBegin_96
  · replace hM := if_f c1 hM
    by_cases c3 : x1 = (108 : Int32)
    · replace hM := if_t c3 hM
      refine lv_lookup (off := 51) (tgt := 52) hx hb dX6_mayBegin_1 (by decide) (by rw [c3]; decide) (by decide) ?_
      refine lv_aload_n hx hb dX6_mayBegin_52 rfl (lv_at hl 2 rfl) ?_
      refine va_get (D := D) (ci := 0) (v := .int (st.1 r2 7)) (C := RX0) (T := TX0) (N := 11) hx hb hts hi_X6_mayBegin_X0 hown hK hI.1 r2 (cg_Doll am cI cC cS st h2) rfl 7 (by decide) f_1 (fun _ h9 => h9) rfl dX6_mayBegin_53 ?_
      refine lv_bipush (v := (8 : Int32)) hx hb dX6_mayBegin_56 (by decide) ?_
      refine lv_icmp_ge (tgt := 65) hx hb dX6_mayBegin_58 (by decide) (fun c4 => ?_) (fun c4 => ?_)
      · replace hM := if_t c4 hM
        refine lv_iconst (v := (0 : Int32)) hx hb dX6_mayBegin_65 (by decide) ?_
        have hz := Option.some.inj hM
        exact W.zret hx hb hr rfl (fun t ht hW => jq_i hK hI hz ht hW) hI.2.2.2 dX6_mayBegin_66
      · replace hM := if_f c4 hM
        refine lv_iconst (v := (1 : Int32)) hx hb dX6_mayBegin_61 (by decide) ?_
        refine lv_goto (tgt := 66) hx hb dX6_mayBegin_62 (by decide) ?_
        have hz := Option.some.inj hM
        exact W.zret hx hb hr rfl (fun t ht hW => jq_i hK hI hz ht hW) hI.2.2.2 dX6_mayBegin_66
    · replace hM := if_f c3 hM
      by_cases c5 : x1 = (115 : Int32)
      · replace hM := if_t c5 hM
        refine lv_lookup (off := 66) (tgt := 67) hx hb dX6_mayBegin_1 (by decide) (by rw [c5]; decide) (by decide) ?_
        refine lv_aload_n hx hb dX6_mayBegin_67 rfl (lv_at hl 2 rfl) ?_
        refine va_get (D := D) (ci := 0) (v := .int (st.1 r2 8)) (C := RX0) (T := TX0) (N := 11) hx hb hts hi_X6_mayBegin_X0 hown hK hI.1 r2 (cg_Doll am cI cC cS st h2) rfl 8 (by decide) f_2 (fun _ h9 => h9) rfl dX6_mayBegin_68 ?_
        refine lv_bipush (v := (6 : Int32)) hx hb dX6_mayBegin_71 (by decide) ?_
        refine lv_icmp_ge (tgt := 80) hx hb dX6_mayBegin_73 (by decide) (fun c6 => ?_) (fun c6 => ?_)
        · replace hM := if_t c6 hM
          refine lv_iconst (v := (0 : Int32)) hx hb dX6_mayBegin_80 (by decide) ?_
          have hz := Option.some.inj hM
          exact W.zret hx hb hr rfl (fun t ht hW => jq_i hK hI hz ht hW) hI.2.2.2 dX6_mayBegin_81
        · replace hM := if_f c6 hM
          refine lv_iconst (v := (1 : Int32)) hx hb dX6_mayBegin_76 (by decide) ?_
          refine lv_goto (tgt := 81) hx hb dX6_mayBegin_77 (by decide) ?_
          have hz := Option.some.inj hM
          exact W.zret hx hb hr rfl (fun t ht hW => jq_i hK hI hz ht hW) hI.2.2.2 dX6_mayBegin_81
      · replace hM := if_f c5 hM
        by_cases c7 : x1 = (116 : Int32)
        · replace hM := if_t c7 hM
          refine lv_lookup (off := 109) (tgt := 110) hx hb dX6_mayBegin_1 (by decide) (by rw [c7]; decide) (by decide) ?_
          refine lv_aload_n hx hb dX6_mayBegin_110 rfl (lv_at hl 0 rfl) ?_
          refine va_get (D := D) (ci := 6) (v := .int (st.1 1 8)) (C := RX6) (T := TX6) (N := 9) hx hb hts hi_X6_mayBegin_X6 hown hK hI.1 1 (cg_1 am cI cC cS st) rfl 8 (by decide) f_3 (fun _ h9 => h9) rfl dX6_mayBegin_111 ?_
          refine lv_if_ne (tgt := 121) hx hb dX6_mayBegin_114 (by decide) (fun c8 => ?_) (fun c8 => ?_)
          · replace hM := if_f c8 hM
            refine lv_iconst (v := (0 : Int32)) hx hb dX6_mayBegin_121 (by decide) ?_
            have hz := Option.some.inj hM
            exact W.zret hx hb hr rfl (fun t ht hW => jq_i hK hI hz ht hW) hI.2.2.2 dX6_mayBegin_122
          · replace hM := if_t c8 hM
            refine lv_iconst (v := (1 : Int32)) hx hb dX6_mayBegin_117 (by decide) ?_
            refine lv_goto (tgt := 122) hx hb dX6_mayBegin_118 (by decide) ?_
            have hz := Option.some.inj hM
            exact W.zret hx hb hr rfl (fun t ht hW => jq_i hK hI hz ht hW) hI.2.2.2 dX6_mayBegin_122
        · replace hM := if_f c7 hM
          by_cases c9 : x1 = (117 : Int32)
          · replace hM := if_t c9 hM
            refine lv_lookup (off := 96) (tgt := 97) hx hb dX6_mayBegin_1 (by decide) (by rw [c9]; decide) (by decide) ?_
            refine lv_aload_n hx hb dX6_mayBegin_97 rfl (lv_at hl 0 rfl) ?_
            refine va_get (D := D) (ci := 6) (v := .int (st.1 1 7)) (C := RX6) (T := TX6) (N := 9) hx hb hts hi_X6_mayBegin_X6 hown hK hI.1 1 (cg_1 am cI cC cS st) rfl 7 (by decide) f_4 (fun _ h9 => h9) rfl dX6_mayBegin_98 ?_
            refine lv_if_ne (tgt := 108) hx hb dX6_mayBegin_101 (by decide) (fun c10 => ?_) (fun c10 => ?_)
            · replace hM := if_f c10 hM
              refine lv_iconst (v := (0 : Int32)) hx hb dX6_mayBegin_108 (by decide) ?_
              have hz := Option.some.inj hM
              exact W.zret hx hb hr rfl (fun t ht hW => jq_i hK hI hz ht hW) hI.2.2.2 dX6_mayBegin_109
            · replace hM := if_t c10 hM
              refine lv_iconst (v := (1 : Int32)) hx hb dX6_mayBegin_104 (by decide) ?_
              refine lv_goto (tgt := 109) hx hb dX6_mayBegin_105 (by decide) ?_
              have hz := Option.some.inj hM
              exact W.zret hx hb hr rfl (fun t ht hW => jq_i hK hI hz ht hW) hI.2.2.2 dX6_mayBegin_109
          · replace hM := if_f c9 hM
            refine lv_lookup (off := 122) (tgt := 123) hx hb dX6_mayBegin_1 (by decide) (lk_no (ne_ti c1) (lk_no (ne_ti c3) (lk_no (ne_ti c5) (lk_no (ne_ti c7) (lk_no (ne_ti c9) rfl))))) (by decide) ?_
            refine lv_iconst (v := (0 : Int32)) hx hb dX6_mayBegin_123 (by decide) ?_
            have hz := Option.some.inj hM
            exact W.zret hx hb hr rfl (fun t ht hW => jq_i hK hI hz ht hW) hI.2.2.2 dX6_mayBegin_124
set_option maxHeartbeats 4000000 in
set_option maxRecDepth 100000 in
theorem jw_X6_howManyNumbers {l : Launch} (D : va_G) (am : Nat → Nat) (cI cC cS : ClassId) (hj : aJ am 52) (N : Nat) {x0 : Int32} {st stZ : PS} {rZ : Int32} (hM : jm_X6_howManyNumbers N x0 st = some (rZ, stZ)) : Met l yX6_howManyNumbers wsX6_howManyNumbers ({ frames := 0, cells := 0, slots := 0, locals := 0 }) (va_Pc [.int x0] (JH D (cW am cI cC cS) (cTy cI cC cS) st)) (JQ D (aA am 52) (cW am cI cC cS) (cTy cI cC cS) (some (.int rZ)) stZ) 0 0 (aA am 52) := by
  refine jStart (cc := cX6_howManyNumbers) (maxL := 1) (ret := (some .int)) [.int x0] (by decide) rfl (Nat.le_of_ble_eq_true rfl) (fun p e s m below meth c ls hx hb hr hlocks hts hown hml hK hI hl => ?_)
  have hown : s.vm.findClass RX6 = some m.cls := hown
  replace hl : lv_has ls 1 [(0, .int x0)] := hl
  generalize hAV : ([.int x0] : List Value).toArray = AV at hts ⊢
  unfold jm_X6_howManyNumbers at hM
  refine lv_iload_n hx hb dX6_howManyNumbers_0 rfl (lv_at hl 0 rfl) ?_
  by_cases c1 : x0 = (98 : Int32)
  · replace hM := if_t c1 hM
    refine lv_lookup (off := 39) (tgt := 40) hx hb dX6_howManyNumbers_1 (by decide) (by rw [c1]; decide) (by decide) ?_
    refine lv_iconst (v := (2 : Int32)) hx hb dX6_howManyNumbers_40 (by decide) ?_
    have hz := Option.some.inj hM
    exact W.iret hx hb hr (fun t ht hW => jq_i hK hI hz ht hW) hI.2.2.2 dX6_howManyNumbers_41
  · replace hM := if_f c1 hM
    by_cases c2 : x0 = (108 : Int32)
    · replace hM := if_t c2 hM
      refine lv_lookup (off := 35) (tgt := 36) hx hb dX6_howManyNumbers_1 (by decide) (by rw [c2]; decide) (by decide) ?_
      refine lv_iconst (v := (3 : Int32)) hx hb dX6_howManyNumbers_36 (by decide) ?_
      have hz := Option.some.inj hM
      exact W.iret hx hb hr (fun t ht hW => jq_i hK hI hz ht hW) hI.2.2.2 dX6_howManyNumbers_37
    · replace hM := if_f c2 hM
      by_cases c3 : x0 = (115 : Int32)
      · replace hM := if_t c3 hM
        refine lv_lookup (off := 37) (tgt := 38) hx hb dX6_howManyNumbers_1 (by decide) (by rw [c3]; decide) (by decide) ?_
        refine lv_iconst (v := (4 : Int32)) hx hb dX6_howManyNumbers_38 (by decide) ?_
        have hz := Option.some.inj hM
        exact W.iret hx hb hr (fun t ht hW => jq_i hK hI hz ht hW) hI.2.2.2 dX6_howManyNumbers_39
      · replace hM := if_f c3 hM
        refine lv_lookup (off := 41) (tgt := 42) hx hb dX6_howManyNumbers_1 (by decide) (lk_no (ne_ti c1) (lk_no (ne_ti c2) (lk_no (ne_ti c3) rfl))) (by decide) ?_
        refine lv_iconst (v := (1 : Int32)) hx hb dX6_howManyNumbers_42 (by decide) ?_
        have hz := Option.some.inj hM
        exact W.iret hx hb hr (fun t ht hW => jq_i hK hI hz ht hW) hI.2.2.2 dX6_howManyNumbers_43
set_option maxRecDepth 20000 in
theorem hi_X6_least_X0 : ∀ w ∈ wsX00, w ∈ wsX6_least := by decide +kernel
set_option maxHeartbeats 4000000 in
set_option maxRecDepth 100000 in
theorem jw_X6_least {l : Launch} (D : va_G) (am : Nat → Nat) (cI cC cS : ClassId) (hj : aJ am 52) (N : Nat) {x0 : Int32} {x1 : Int32} {r2 : Nat} (h2 : ck_Doll r2) {st stZ : PS} {rZ : Int32} (hM : jm_X6_least N x0 x1 r2 st = some (rZ, stZ)) : Met l yX6_least wsX6_least ({ frames := 0, cells := 0, slots := 0, locals := 0 }) (va_Pc [.int x0, .int x1, .ref (am r2)] (JH D (cW am cI cC cS) (cTy cI cC cS) st)) (JQ D (aA am 52) (cW am cI cC cS) (cTy cI cC cS) (some (.int rZ)) stZ) 0 0 (aA am 52) := by
  refine jStart (cc := cX6_least) (maxL := 4) (ret := (some .int)) [.int x0, .int x1, .ref (am r2)] (by decide) rfl (Nat.le_of_ble_eq_true rfl) (fun p e s m below meth c ls hx hb hr hlocks hts hown hml hK hI hl => ?_)
  have hown : s.vm.findClass RX6 = some m.cls := hown
  replace hl : lv_has ls 4 [(0, .int x0), (1, .int x1), (2, .ref (am r2))] := hl
  generalize hAV : ([.int x0, .int x1, .ref (am r2)] : List Value).toArray = AV at hts ⊢
  have f_0 := hts (.fieldLink RX6 73 "PuppetBar$Doll" "limbs" "I") (by decide +kernel)
  unfold jm_X6_least at hM
  refine lv_iload_n hx hb dX6_least_0 rfl (lv_at hl 0 rfl) ?_
  refine lv_bipush (v := (108 : Int32)) hx hb dX6_least_1 (by decide) ?_
  refine lv_icmp_ne (tgt := 38) hx hb dX6_least_3 (by decide) (fun c1 => ?_) (fun c1 => ?_)
  · replace hM := if_f c1 hM
    refine lv_iload_n hx hb dX6_least_38 rfl (lv_at hl 0 rfl) ?_
    refine lv_bipush (v := (115 : Int32)) hx hb dX6_least_39 (by decide) ?_
    refine lv_icmp_ne (tgt := 53) hx hb dX6_least_41 (by decide) (fun c2 => ?_) (fun c2 => ?_)
    · replace hM := if_f c2 hM
      refine lv_iconst (v := (0 : Int32)) hx hb dX6_least_53 (by decide) ?_
      have hz := Option.some.inj hM
      exact W.iret hx hb hr (fun t ht hW => jq_i hK hI hz ht hW) hI.2.2.2 dX6_least_54
    · replace hM := if_t c2 hM
      refine lv_iload_n hx hb dX6_least_44 rfl (lv_at hl 1 rfl) ?_
      refine lv_iconst (v := (3 : Int32)) hx hb dX6_least_45 (by decide) ?_
      refine lv_icmp_ne (tgt := 53) hx hb dX6_least_46 (by decide) (fun c3 => ?_) (fun c3 => ?_)
      · replace hM := if_f c3 hM
        refine lv_iconst (v := (0 : Int32)) hx hb dX6_least_53 (by decide) ?_
        have hz := Option.some.inj hM
        exact W.iret hx hb hr (fun t ht hW => jq_i hK hI hz ht hW) hI.2.2.2 dX6_least_54
      · replace hM := if_t c3 hM
        refine lv_iconst (v := (1 : Int32)) hx hb dX6_least_49 (by decide) ?_
        refine lv_goto (tgt := 54) hx hb dX6_least_50 (by decide) ?_
        have hz := Option.some.inj hM
        exact W.iret hx hb hr (fun t ht hW => jq_i hK hI hz ht hW) hI.2.2.2 dX6_least_54
  · replace hM := if_t c1 hM
    refine lv_iload_n hx hb dX6_least_6 rfl (lv_at hl 1 rfl) ?_
    refine lv_iconst (v := (1 : Int32)) hx hb dX6_least_7 (by decide) ?_
    refine lv_icmp_ne (tgt := 22) hx hb dX6_least_8 (by decide) (fun c4 => ?_) (fun c4 => ?_)
    · replace hM := if_f c4 hM
      refine lv_iconst (v := (0 : Int32)) hx hb dX6_least_22 (by decide) ?_
      refine lv_istore_n (lv' := [(3, .int (0 : Int32)), (0, .int x0), (1, .int x1), (2, .ref (am r2))]) hx hb dX6_least_23 rfl hl (by decide) rfl (fun ls hl => ?_)
      refine lv_iload_n hx hb dX6_least_24 rfl (lv_at hl 2 rfl) ?_
      refine lv_if_eq (tgt := 32) hx hb dX6_least_25 (by decide) (fun c5 => ?_) (fun c5 => ?_)
      · replace hM := if_t c5 hM
        refine lv_iconst (v := (0 : Int32)) hx hb dX6_least_32 (by decide) ?_
        refine lv_goto (tgt := 37) hx hb dX6_least_33 (by decide) ?_
        have hz := Option.some.inj hM
        exact W.iret hx hb hr (fun t ht hW => jq_i hK hI hz ht hW) hI.2.2.2 dX6_least_37
      · replace hM := if_f c5 hM
        refine lv_iload_n hx hb dX6_least_28 rfl (lv_at hl 0 rfl) ?_
        refine lv_if_eq (tgt := 36) hx hb dX6_least_29 (by decide) (fun _ => ?_) (fun c9 => absurd c9 (by decide))
        refine lv_iconst (v := (1 : Int32)) hx hb dX6_least_36 (by decide) ?_
        have hz := Option.some.inj hM
        exact W.iret hx hb hr (fun t ht hW => jq_i hK hI hz ht hW) hI.2.2.2 dX6_least_37
    · replace hM := if_t c4 hM
      refine lv_aload_n hx hb dX6_least_11 rfl (lv_at hl 2 rfl) ?_
      refine va_get (D := D) (ci := 0) (v := .int (st.1 r2 7)) (C := RX0) (T := TX0) (N := 11) hx hb hts hi_X6_least_X0 hown hK hI.1 r2 (cg_Doll am cI cC cS st h2) rfl 7 (by decide) f_0 (fun _ h9 => h9) rfl dX6_least_12 ?_
      refine lv_if_ne (tgt := 22) hx hb dX6_least_15 (by decide) (fun c6 => ?_) (fun c6 => ?_)
      · replace hM := if_f c6 hM
        refine lv_iconst (v := (0 : Int32)) hx hb dX6_least_22 (by decide) ?_
        refine lv_istore_n (lv' := [(3, .int (0 : Int32)), (0, .int x0), (1, .int x1), (2, .ref (am r2))]) hx hb dX6_least_23 rfl hl (by decide) rfl (fun ls hl => ?_)
        refine lv_iload_n hx hb dX6_least_24 rfl (lv_at hl 2 rfl) ?_
        refine lv_if_eq (tgt := 32) hx hb dX6_least_25 (by decide) (fun c7 => ?_) (fun c7 => ?_)
        · replace hM := if_t c7 hM
          refine lv_iconst (v := (0 : Int32)) hx hb dX6_least_32 (by decide) ?_
          refine lv_goto (tgt := 37) hx hb dX6_least_33 (by decide) ?_
          have hz := Option.some.inj hM
          exact W.iret hx hb hr (fun t ht hW => jq_i hK hI hz ht hW) hI.2.2.2 dX6_least_37
        · replace hM := if_f c7 hM
          refine lv_iload_n hx hb dX6_least_28 rfl (lv_at hl 0 rfl) ?_
          refine lv_if_eq (tgt := 36) hx hb dX6_least_29 (by decide) (fun _ => ?_) (fun c9 => absurd c9 (by decide))
          refine lv_iconst (v := (1 : Int32)) hx hb dX6_least_36 (by decide) ?_
          have hz := Option.some.inj hM
          exact W.iret hx hb hr (fun t ht hW => jq_i hK hI hz ht hW) hI.2.2.2 dX6_least_37
      · replace hM := if_t c6 hM
        refine lv_iconst (v := (1 : Int32)) hx hb dX6_least_18 (by decide) ?_
        refine lv_goto (tgt := 23) hx hb dX6_least_19 (by decide) ?_
        refine lv_istore_n (lv' := [(3, .int (1 : Int32)), (0, .int x0), (1, .int x1), (2, .ref (am r2))]) hx hb dX6_least_23 rfl hl (by decide) rfl (fun ls hl => ?_)
        refine lv_iload_n hx hb dX6_least_24 rfl (lv_at hl 2 rfl) ?_
        refine lv_if_eq (tgt := 32) hx hb dX6_least_25 (by decide) (fun c8 => ?_) (fun c8 => ?_)
        · replace hM := if_t c8 hM
          refine lv_iconst (v := (0 : Int32)) hx hb dX6_least_32 (by decide) ?_
          refine lv_goto (tgt := 37) hx hb dX6_least_33 (by decide) ?_
          have hz := Option.some.inj hM
          exact W.iret hx hb hr (fun t ht hW => jq_i hK hI hz ht hW) hI.2.2.2 dX6_least_37
        · replace hM := if_f c8 hM
          refine lv_iload_n hx hb dX6_least_28 rfl (lv_at hl 0 rfl) ?_
          refine lv_if_eq (tgt := 36) hx hb dX6_least_29 (by decide) (fun c9 => absurd c9 (by decide)) (fun _ => ?_)
          refine lv_iconst (v := (0 : Int32)) hx hb dX6_least_32 (by decide) ?_
          refine lv_goto (tgt := 37) hx hb dX6_least_33 (by decide) ?_
          have hz := Option.some.inj hM
          exact W.iret hx hb hr (fun t ht hW => jq_i hK hI hz ht hW) hI.2.2.2 dX6_least_37
set_option maxRecDepth 20000 in
theorem hi_X6_mostOfLimb_X0 : ∀ w ∈ wsX00, w ∈ wsX6_mostOfLimb := by decide +kernel
set_option maxHeartbeats 4000000 in
set_option maxRecDepth 100000 in
theorem jw_X6_mostOfLimb {l : Launch} (D : va_G) (am : Nat → Nat) (cI cC cS : ClassId) (hj : aJ am 52) (N : Nat) {x0 : Int32} {r1 : Nat} (h1 : ck_Doll r1) {st stZ : PS} {rZ : Int32} (hM : jm_X6_mostOfLimb N x0 r1 st = some (rZ, stZ)) : Met l yX6_mostOfLimb wsX6_mostOfLimb ({ frames := 0, cells := 0, slots := 0, locals := 0 }) (va_Pc [.int x0, .ref (am r1)] (JH D (cW am cI cC cS) (cTy cI cC cS) st)) (JQ D (aA am 52) (cW am cI cC cS) (cTy cI cC cS) (some (.int rZ)) stZ) 0 0 (aA am 52) := by
  refine jStart (cc := cX6_mostOfLimb) (maxL := 2) (ret := (some .int)) [.int x0, .ref (am r1)] (by decide) rfl (Nat.le_of_ble_eq_true rfl) (fun p e s m below meth c ls hx hb hr hlocks hts hown hml hK hI hl => ?_)
  have hown : s.vm.findClass RX6 = some m.cls := hown
  replace hl : lv_has ls 2 [(0, .int x0), (1, .ref (am r1))] := hl
  generalize hAV : ([.int x0, .ref (am r1)] : List Value).toArray = AV at hts ⊢
  have f_0 := hts (.fieldLink RX6 73 "PuppetBar$Doll" "limbs" "I") (by decide +kernel)
  unfold jm_X6_mostOfLimb at hM
  refine lv_iload_n hx hb dX6_mostOfLimb_0 rfl (lv_at hl 0 rfl) ?_
  refine lv_iconst (v := (2 : Int32)) hx hb dX6_mostOfLimb_1 (by decide) ?_
  refine lv_icmp_ne (tgt := 8) hx hb dX6_mostOfLimb_2 (by decide) (fun c1 => ?_) (fun c1 => ?_)
  · replace hM := if_f c1 hM
    refine lv_aload_n hx hb dX6_mostOfLimb_8 rfl (lv_at hl 1 rfl) ?_
    refine va_get (D := D) (ci := 0) (v := .int (st.1 r1 7)) (C := RX0) (T := TX0) (N := 11) hx hb hts hi_X6_mostOfLimb_X0 hown hK hI.1 r1 (cg_Doll am cI cC cS st h1) rfl 7 (by decide) f_0 (fun _ h9 => h9) rfl dX6_mostOfLimb_9 ?_
    refine lv_if_ne (tgt := 17) hx hb dX6_mostOfLimb_12 (by decide) (fun c2 => ?_) (fun c2 => ?_)
    · replace hM := if_f c2 hM
      refine lv_iload_n hx hb dX6_mostOfLimb_17 rfl (lv_at hl 0 rfl) ?_
      refine lv_if_ne (tgt := 30) hx hb dX6_mostOfLimb_18 (by decide) (fun c3 => ?_) (fun c3 => ?_)
      · replace hM := if_f c3 hM
        refine lv_bipush (v := (9 : Int32)) hx hb dX6_mostOfLimb_30 (by decide) ?_
        have hz := Option.some.inj hM
        exact W.iret hx hb hr (fun t ht hW => jq_i hK hI hz ht hW) hI.2.2.2 dX6_mostOfLimb_32
      · replace hM := if_t c3 hM
        refine lv_aload_n hx hb dX6_mostOfLimb_21 rfl (lv_at hl 1 rfl) ?_
        refine va_get (D := D) (ci := 0) (v := .int (st.1 r1 7)) (C := RX0) (T := TX0) (N := 11) hx hb hts hi_X6_mostOfLimb_X0 hown hK hI.1 r1 (cg_Doll am cI cC cS st h1) rfl 7 (by decide) f_0 (fun _ h9 => h9) rfl dX6_mostOfLimb_22 ?_
        refine lv_iconst (v := (1 : Int32)) hx hb dX6_mostOfLimb_25 (by decide) ?_
        refine lv_isub hx hb dX6_mostOfLimb_26 ?_
        refine lv_goto (tgt := 32) hx hb dX6_mostOfLimb_27 (by decide) ?_
        have hz := Option.some.inj hM
        exact W.iret hx hb hr (fun t ht hW => jq_i hK hI hz ht hW) hI.2.2.2 dX6_mostOfLimb_32
    · replace hM := if_t c2 hM
      refine lv_iconst (v := (0 : Int32)) hx hb dX6_mostOfLimb_15 (by decide) ?_
      have hz := Option.some.inj hM
      exact W.iret hx hb hr (fun t ht hW => jq_i hK hI hz ht hW) hI.2.2.2 dX6_mostOfLimb_16
  · replace hM := if_t c1 hM
    refine lv_bipush (v := (9 : Int32)) hx hb dX6_mostOfLimb_5 (by decide) ?_
    have hz := Option.some.inj hM
    exact W.iret hx hb hr (fun t ht hW => jq_i hK hI hz ht hW) hI.2.2.2 dX6_mostOfLimb_7
set_option maxRecDepth 20000 in
theorem hi_X6_mostOfString_X0 : ∀ w ∈ wsX00, w ∈ wsX6_mostOfString := by decide +kernel
set_option maxHeartbeats 4000000 in
set_option maxRecDepth 100000 in
theorem jw_X6_mostOfString {l : Launch} (D : va_G) (am : Nat → Nat) (cI cC cS : ClassId) (hj : aJ am 52) (N : Nat) {x0 : Int32} {r1 : Nat} (h1 : ck_Doll r1) {st stZ : PS} {rZ : Int32} (hM : jm_X6_mostOfString N x0 r1 st = some (rZ, stZ)) : Met l yX6_mostOfString wsX6_mostOfString ({ frames := 0, cells := 0, slots := 0, locals := 0 }) (va_Pc [.int x0, .ref (am r1)] (JH D (cW am cI cC cS) (cTy cI cC cS) st)) (JQ D (aA am 52) (cW am cI cC cS) (cTy cI cC cS) (some (.int rZ)) stZ) 0 0 (aA am 52) := by
  refine jStart (cc := cX6_mostOfString) (maxL := 2) (ret := (some .int)) [.int x0, .ref (am r1)] (by decide) rfl (Nat.le_of_ble_eq_true rfl) (fun p e s m below meth c ls hx hb hr hlocks hts hown hml hK hI hl => ?_)
  have hown : s.vm.findClass RX6 = some m.cls := hown
  replace hl : lv_has ls 2 [(0, .int x0), (1, .ref (am r1))] := hl
  generalize hAV : ([.int x0, .ref (am r1)] : List Value).toArray = AV at hts ⊢
  have f_0 := hts (.fieldLink RX6 73 "PuppetBar$Doll" "limbs" "I") (by decide +kernel)
  unfold jm_X6_mostOfString at hM
  refine lv_iload_n hx hb dX6_mostOfString_0 rfl (lv_at hl 0 rfl) ?_
  by_cases c1 : x0 = (0 : Int32)
  · replace hM := if_t c1 hM
    refine lv_tableIn (off := 27) (tgt := 28) hx hb dX6_mostOfString_1 (by rw [c1]; decide) (by rw [c1]; decide) (by rw [c1]; decide) (by decide) ?_
    refine lv_aload_n hx hb dX6_mostOfString_28 rfl (lv_at hl 1 rfl) ?_
    refine va_get (D := D) (ci := 0) (v := .int (st.1 r1 7)) (C := RX0) (T := TX0) (N := 11) hx hb hts hi_X6_mostOfString_X0 hown hK hI.1 r1 (cg_Doll am cI cC cS st h1) rfl 7 (by decide) f_0 (fun _ h9 => h9) rfl dX6_mostOfString_29 ?_
    refine lv_iconst (v := (1 : Int32)) hx hb dX6_mostOfString_32 (by decide) ?_
    refine lv_isub hx hb dX6_mostOfString_33 ?_
    have hz := Option.some.inj hM
    exact W.iret hx hb hr (fun t ht hW => jq_i hK hI hz ht hW) hI.2.2.2 dX6_mostOfString_34
  · replace hM := if_f c1 hM
    by_cases c2 : x0 = (1 : Int32)
    · replace hM := if_t c2 hM
      refine lv_tableIn (off := 34) (tgt := 35) hx hb dX6_mostOfString_1 (by rw [c2]; decide) (by rw [c2]; decide) (by rw [c2]; decide) (by decide) ?_
      refine lv_bipush (v := (6 : Int32)) hx hb dX6_mostOfString_35 (by decide) ?_
      have hz := Option.some.inj hM
      exact W.iret hx hb hr (fun t ht hW => jq_i hK hI hz ht hW) hI.2.2.2 dX6_mostOfString_37
    · replace hM := if_f c2 hM
      by_cases c3 : x0 = (2 : Int32)
      · replace hM := if_t c3 hM
        refine lv_tableIn (off := 37) (tgt := 38) hx hb dX6_mostOfString_1 (by rw [c3]; decide) (by rw [c3]; decide) (by rw [c3]; decide) (by decide) ?_
        refine lv_bipush (v := (40 : Int32)) hx hb dX6_mostOfString_38 (by decide) ?_
        have hz := Option.some.inj hM
        exact W.iret hx hb hr (fun t ht hW => jq_i hK hI hz ht hW) hI.2.2.2 dX6_mostOfString_40
      · replace hM := if_f c3 hM
        refine lv_tableOut (tgt := 41) hx hb dX6_mostOfString_1 (by have nc1 : ¬ (0 : Int) = (x0).toInt := ne_ti c1; have nc2 : ¬ (1 : Int) = (x0).toInt := ne_ti c2; have nc3 : ¬ (2 : Int) = (x0).toInt := ne_ti c3; omega) (by decide) ?_
        refine lv_bipush (v := (40 : Int32)) hx hb dX6_mostOfString_41 (by decide) ?_
        have hz := Option.some.inj hM
        exact W.iret hx hb hr (fun t ht hW => jq_i hK hI hz ht hW) hI.2.2.2 dX6_mostOfString_43
set_option maxHeartbeats 4000000 in
set_option maxRecDepth 100000 in
theorem jw_X6_most {l : Launch} (D : va_G) (am : Nat → Nat) (cI cC cS : ClassId) (hj : aJ am 52) (N : Nat) {x0 : Int32} {x1 : Int32} {r2 : Nat} (h2 : ck_Doll r2) {st stZ : PS} {rZ : Int32} (hM : jm_X6_most N x0 x1 r2 st = some (rZ, stZ)) : Met l yX6_most wsX6_most ({ frames := 1, cells := 0, slots := 0, locals := 21 }) (va_Pc [.int x0, .int x1, .ref (am r2)] (JH D (cW am cI cC cS) (cTy cI cC cS) st)) (JQ D (aA am 52) (cW am cI cC cS) (cTy cI cC cS) (some (.int rZ)) stZ) 0 0 (aA am 52) := by
  refine jStart (cc := cX6_most) (maxL := 3) (ret := (some .int)) [.int x0, .int x1, .ref (am r2)] (by decide) rfl (Nat.le_of_ble_eq_true rfl) (fun p e s m below meth c ls hx hb hr hlocks hts hown hml hK hI hl => ?_)
  have hown : s.vm.findClass RX6 = some m.cls := hown
  replace hl : lv_has ls 3 [(0, .int x0), (1, .int x1), (2, .ref (am r2))] := hl
  generalize hAV : ([.int x0, .int x1, .ref (am r2)] : List Value).toArray = AV at hts ⊢
  unfold jm_X6_most at hM
  refine lv_iload_n hx hb dX6_most_0 rfl (lv_at hl 0 rfl) ?_
  by_cases c1 : x0 = (98 : Int32)
  · replace hM := if_t c1 hM
    refine lv_lookup (off := 55) (tgt := 56) hx hb dX6_most_1 (by decide) (by rw [c1]; decide) (by decide) ?_
    refine lv_iload_n hx hb dX6_most_56 rfl (lv_at hl 1 rfl) ?_
    refine lv_if_ne (tgt := 65) hx hb dX6_most_57 (by decide) (fun c2 => ?_) (fun c2 => ?_)
    · replace hM := if_f c2 hM
      refine lv_bipush (v := (6 : Int32)) hx hb dX6_most_65 (by decide) ?_
      have hz := Option.some.inj hM
      exact W.iret hx hb hr (fun t ht hW => jq_i hK hI hz ht hW) hI.2.2.2 dX6_most_67
    · replace hM := if_t c2 hM
      refine lv_bipush (v := (40 : Int32)) hx hb dX6_most_60 (by decide) ?_
      refine lv_goto (tgt := 67) hx hb dX6_most_62 (by decide) ?_
      have hz := Option.some.inj hM
      exact W.iret hx hb hr (fun t ht hW => jq_i hK hI hz ht hW) hI.2.2.2 dX6_most_67
  · replace hM := if_f c1 hM
    by_cases c3 : x0 = (108 : Int32)
    · replace hM := if_t c3 hM
      refine lv_lookup (off := 43) (tgt := 44) hx hb dX6_most_1 (by decide) (by rw [c3]; decide) (by decide) ?_
      refine lv_iload_n hx hb dX6_most_44 rfl (lv_at hl 1 rfl) ?_
      refine lv_aload_n hx hb dX6_most_45 rfl (lv_at hl 2 rfl) ?_
      obtain ⟨v4, st5, hqv4, hM⟩ := bd_at hM
      refine jcallS (As := [.int x1, .ref (am r2)]) (rest := []) ⟨hx, hb, hml, hown, hts⟩ (jw_X6_mostOfLimb D am cI cC cS hj N h2 hqv4) (va_cwS 2 hts gX6_most_X6_mostOfLimb rfl rfl rfl yd_X6_mostOfLimb ⟨Nat.le_of_ble_eq_true rfl, Nat.le_of_ble_eq_true rfl⟩) hK hI rfl hl.1 rfl (Nat.le_of_ble_eq_true rfl) dX6_most_46 (fun H locs hI => ?_)
      refine W.eq (g2 := F0 m 49 ls [.int v4]) rfl ?_
      have hz := Option.some.inj hM
      exact W.iret hx hb hr (fun t ht hW => jq_i hK hI hz ht hW) hI.2.2.2 dX6_most_49
    · replace hM := if_f c3 hM
      by_cases c6 : x0 = (115 : Int32)
      · replace hM := if_t c6 hM
        refine lv_lookup (off := 49) (tgt := 50) hx hb dX6_most_1 (by decide) (by rw [c6]; decide) (by decide) ?_
        refine lv_iload_n hx hb dX6_most_50 rfl (lv_at hl 1 rfl) ?_
        refine lv_aload_n hx hb dX6_most_51 rfl (lv_at hl 2 rfl) ?_
        obtain ⟨v7, st8, hqv7, hM⟩ := bd_at hM
        refine jcallS (As := [.int x1, .ref (am r2)]) (rest := []) ⟨hx, hb, hml, hown, hts⟩ (jw_X6_mostOfString D am cI cC cS hj N h2 hqv7) (va_cwS 2 hts gX6_most_X6_mostOfString rfl rfl rfl yd_X6_mostOfString ⟨Nat.le_of_ble_eq_true rfl, Nat.le_of_ble_eq_true rfl⟩) hK hI rfl hl.1 rfl (Nat.le_of_ble_eq_true rfl) dX6_most_52 (fun H locs hI => ?_)
        refine W.eq (g2 := F0 m 55 ls [.int v7]) rfl ?_
        have hz := Option.some.inj hM
        exact W.iret hx hb hr (fun t ht hW => jq_i hK hI hz ht hW) hI.2.2.2 dX6_most_55
      · replace hM := if_f c6 hM
        by_cases c9 : x0 = (117 : Int32)
        · replace hM := if_t c9 hM
          refine lv_lookup (off := 67) (tgt := 68) hx hb dX6_most_1 (by decide) (by rw [c9]; decide) (by decide) ?_
          refine lv_bipush (v := (40 : Int32)) hx hb dX6_most_68 (by decide) ?_
          have hz := Option.some.inj hM
          exact W.iret hx hb hr (fun t ht hW => jq_i hK hI hz ht hW) hI.2.2.2 dX6_most_70
        · replace hM := if_f c9 hM
          refine lv_lookup (off := 70) (tgt := 71) hx hb dX6_most_1 (by decide) (lk_no (ne_ti c1) (lk_no (ne_ti c3) (lk_no (ne_ti c6) (lk_no (ne_ti c9) rfl)))) (by decide) ?_
          refine lv_bipush (v := (6 : Int32)) hx hb dX6_most_71 (by decide) ?_
          have hz := Option.some.inj hM
          exact W.iret hx hb hr (fun t ht hW => jq_i hK hI hz ht hW) hI.2.2.2 dX6_most_73
