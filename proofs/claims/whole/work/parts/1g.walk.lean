set_option maxRecDepth 20000 in
theorem hi_X9_undo_X9 : ∀ w ∈ wsX90, w ∈ wsX9_undo := by decide +kernel
set_option maxHeartbeats 4000000 in
set_option maxRecDepth 100000 in
theorem jw_X9_undo {l : Launch} (D : va_G) (am : Nat → Nat) (cI cZ : ClassId) (hj : aJ am 24) (N : Nat) {st stZ : PS} {rZ : Int32} (hM : jm_X9_undo N st = some (rZ, stZ)) : Met l yX9_undo wsX9_undo ({ frames := 0, cells := 0, slots := 0, locals := 0 }) (va_Pc [.ref (am 0)] (JH D (mW am cI cZ) (mTy cI cZ) st)) (JQ D (aA am 24) (mW am cI cZ) (mTy cI cZ) (some (.int rZ)) stZ) 0 0 (aA am 24) := by
  refine jStart (cc := cX9_undo) (maxL := 2) (ret := (some .int)) [.ref (am 0)] (by decide) rfl (Nat.le_of_ble_eq_true rfl) (fun p e s m below meth c ls hx hb hr hlocks hts hown hml hK hI hl => ?_)
  have hown : s.vm.findClass RX9 = some m.cls := hown
  replace hl : lv_has ls 2 [(0, .ref (am 0))] := hl
  generalize hAV : ([.ref (am 0)] : List Value).toArray = AV at hts ⊢
  have f_0 := hts (.fieldLink RX9 181 "PuppetBarModel" "undoMany" "I") (by decide +kernel)
  have f_1 := hts (.fieldLink RX9 225 "PuppetBarModel" "undoAt" "I") (by decide +kernel)
  have f_2 := hts (.fieldLink RX9 46 "PuppetBarModel" "now" "[I") (by decide +kernel)
  have f_3 := hts (.fieldLink RX9 52 "PuppetBarModel" "undos" "[I") (by decide +kernel)
  unfold jm_X9_undo at hM
  refine lv_aload_n hx hb dX9_undo_0 rfl (lv_at hl 0 rfl) ?_
  refine va_get (D := D) (ci := 9) (v := .int (st.1 0 30)) (C := RX9) (T := TX9) (N := 43) hx hb hts hi_X9_undo_X9 hown hK hI.1 0 (mg_0 am cI cZ st) rfl 30 (by decide) f_0 (fun _ h9 => h9) rfl dX9_undo_1 ?_
  refine lv_if_ne (tgt := 10) hx hb dX9_undo_4 (by decide) (fun c1 => ?_) (fun c1 => ?_)
  · replace hM := if_f c1 hM
    refine lv_aload_n hx hb dX9_undo_10 rfl (lv_at hl 0 rfl) ?_
    refine lv_aload_n hx hb dX9_undo_11 rfl (lv_at hl 0 rfl) ?_
    refine va_get (D := D) (ci := 9) (v := .int (st.1 0 31)) (C := RX9) (T := TX9) (N := 43) hx hb hts hi_X9_undo_X9 hown hK hI.1 0 (mg_0 am cI cZ st) rfl 31 (by decide) f_1 (fun _ h9 => h9) rfl dX9_undo_12 ?_
    refine lv_bipush (v := (10 : Int32)) hx hb dX9_undo_15 (by decide) ?_
    refine lv_iadd hx hb dX9_undo_17 ?_
    refine lv_iconst (v := (1 : Int32)) hx hb dX9_undo_18 (by decide) ?_
    refine lv_isub hx hb dX9_undo_19 ?_
    refine lv_bipush (v := (10 : Int32)) hx hb dX9_undo_20 (by decide) ?_
    refine lv_irem hx hb dX9_undo_22 (by decide) ?_
    refine jput (D := D) (ci := 9) (v := .int ((((st.1 0 31) + (10 : Int32)) - (1 : Int32)) - (((st.1 0 31) + (10 : Int32)) - (1 : Int32)) / (10 : Int32) * (10 : Int32))) (ty := .int) (C := RX9) (T := TX9) (N := 43) (st2 := pU st 0 31 ((((st.1 0 31) + (10 : Int32)) - (1 : Int32)) - (((st.1 0 31) + (10 : Int32)) - (1 : Int32)) / (10 : Int32) * (10 : Int32))) hx hb hts hi_X9_undo_X9 tyX9 tyX9_ok nmX9 hown hK (mD hj) hI 0 (mg_0 am cI cZ st) rfl 31 (by decide) f_1 (fun _ h9 => h9) rfl (by decide +kernel) rfl rfl (Nat.le_of_ble_eq_true rfl) (ms_0_31 am cI cZ st _) dX9_undo_23 (fun st2 est2 H locs hI => ?_)
    replace hM := nm_at est2 hM
    refine lv_aload_n hx hb dX9_undo_26 rfl (lv_at hl 0 rfl) ?_
    refine lv_dup hx hb dX9_undo_27 rfl ?_
    refine va_get (D := D) (ci := 9) (v := .int (st2.1 0 30)) (C := RX9) (T := TX9) (N := 43) hx hb hts hi_X9_undo_X9 hown hK hI.1 0 (mg_0 am cI cZ st2) rfl 30 (by decide) f_0 (fun _ h9 => h9) rfl dX9_undo_28 ?_
    refine lv_iconst (v := (1 : Int32)) hx hb dX9_undo_31 (by decide) ?_
    refine lv_isub hx hb dX9_undo_32 ?_
    refine jput (D := D) (ci := 9) (v := .int ((st2.1 0 30) - (1 : Int32))) (ty := .int) (C := RX9) (T := TX9) (N := 43) (st2 := pU st2 0 30 ((st2.1 0 30) - (1 : Int32))) hx hb hts hi_X9_undo_X9 tyX9 tyX9_ok nmX9 hown hK (mD hj) hI 0 (mg_0 am cI cZ st2) rfl 30 (by decide) f_0 (fun _ h9 => h9) rfl (by decide +kernel) rfl rfl (Nat.le_of_ble_eq_true rfl) (ms_0_30 am cI cZ st2 _) dX9_undo_33 (fun st3 est3 H locs hI => ?_)
    replace hM := nm_at est3 hM
    refine lv_iconst (v := (0 : Int32)) hx hb dX9_undo_36 (by decide) ?_
    refine lv_istore_n (lv' := [(1, .int (0 : Int32)), (0, .ref (am 0))]) hx hb dX9_undo_37 rfl hl (by decide) rfl (fun ls hl => ?_)
    have lp0 : ∀ (n : Nat) (w5 : Int32) (st4 : PS) (H : Heap) (locs : List Loc) (ls : Array Slot), JI D (aA am 24) (mW am cI cZ) s.heap st4 H locs → lv_has ls 2 [(0, .ref (am 0)), (1, .int w5)] → iter (fun q => jm_X9_undo_L38 N q.1 q.2) n (w5, st4) = some (rZ, stZ) → W p l e (headSpec wsX9_undo { frames := 0, cells := 0, slots := 0, locals := 0 }).room s m AV below meth c H locs 0 0 (MQ below (JQ D (aA am 24) (mW am cI cZ) (mTy cI cZ) (some (.int rZ)) stZ) AV s 0 0 (aA am 24)) (F0 m 38 ls []) := by
      intro n
      induction n with
      | zero =>
        intro _ _ _ _ _ _ _ hM
        exact absurd hM (fun h => iter_zero h)
      | succ n ih0 =>
        intro w5 st4 H locs ls hI hl hM
        obtain ⟨z0, hM, hk0⟩ := iter_succ hM
        replace hM : jm_X9_undo_L38 N w5 st4 = some z0 := hM
        unfold jm_X9_undo_L38 at hM
        refine lv_iload_n hx hb dX9_undo_38 rfl (lv_at hl 1 rfl) ?_
        refine lv_bipush (v := (21 : Int32)) hx hb dX9_undo_39 (by decide) ?_
        refine lv_icmp_ge (tgt := 70) hx hb dX9_undo_41 (by decide) (fun c6 => ?_) (fun c6 => ?_)
        · replace hM := if_t c6 hM
          refine lv_aload_n hx hb dX9_undo_70 rfl (lv_at hl 0 rfl) ?_
          refine va_get (D := D) (ci := 9) (v := .int (st4.1 0 30)) (C := RX9) (T := TX9) (N := 43) hx hb hts hi_X9_undo_X9 hown hK hI.1 0 (mg_0 am cI cZ st4) rfl 30 (by decide) f_0 (fun _ h9 => h9) rfl dX9_undo_71 ?_
          have hz := Option.some.inj hM
          subst hz
          have hz := kn_r hk0
          exact W.iret hx hb hr (fun t ht hW => jq_i hK hI hz ht hW) hI.2.2.2 dX9_undo_74
        · replace hM := if_f c6 hM
          refine lv_aload_n hx hb dX9_undo_44 rfl (lv_at hl 0 rfl) ?_
          refine va_get (D := D) (ci := 9) (v := .ref (am 13)) (C := RX9) (T := TX9) (N := 43) hx hb hts hi_X9_undo_X9 hown hK hI.1 0 (mg_0 am cI cZ st4) rfl 28 (by decide) f_2 (fun _ h9 => h9) rfl dX9_undo_45 ?_
          refine lv_iload_n hx hb dX9_undo_48 rfl (lv_at hl 1 rfl) ?_
          refine lv_aload_n hx hb dX9_undo_49 rfl (lv_at hl 0 rfl) ?_
          refine va_get (D := D) (ci := 9) (v := .ref (am 15)) (C := RX9) (T := TX9) (N := 43) hx hb hts hi_X9_undo_X9 hown hK hI.1 0 (mg_0 am cI cZ st4) rfl 32 (by decide) f_3 (fun _ h9 => h9) rfl dX9_undo_50 ?_
          refine lv_bipush (v := (21 : Int32)) hx hb dX9_undo_53 (by decide) ?_
          refine lv_aload_n hx hb dX9_undo_55 rfl (lv_at hl 0 rfl) ?_
          refine va_get (D := D) (ci := 9) (v := .int (st4.1 0 31)) (C := RX9) (T := TX9) (N := 43) hx hb hts hi_X9_undo_X9 hown hK hI.1 0 (mg_0 am cI cZ st4) rfl 31 (by decide) f_1 (fun _ h9 => h9) rfl dX9_undo_56 ?_
          refine lv_imul hx hb dX9_undo_59 ?_
          refine lv_iload_n hx hb dX9_undo_60 rfl (lv_at hl 1 rfl) ?_
          refine lv_iadd hx hb dX9_undo_61 ?_
          obtain ⟨g7, hM⟩ := gd_at hM
          refine va_iald hx hb hK hI.1 15 0 (mg_15 am cI cZ st4) rfl (inB_vp g7) dX9_undo_62 ?_
          obtain ⟨g9, hM⟩ := gd_at hM
          refine jiast (x := (st4.1 15 ((((21 : Int32) * (st4.1 0 31)) + w5)).toNatClampNeg)) (st2 := pU st4 13 (w5).toNatClampNeg ((st4.1 15 ((((21 : Int32) * (st4.1 0 31)) + w5)).toNatClampNeg))) hx hb hK (mD hj) hI 13 0 (mg_13 am cI cZ st4) rfl (inB_vp g9) (ms_13 am cI cZ st4 _) dX9_undo_63 (fun st8 est8 H locs hI => ?_)
          replace hM := nm_at est8 hM
          refine lv_iinc (v := (w5 + (1 : Int32))) (lv' := [(1, .int (w5 + (1 : Int32))), (0, .ref (am 0))]) hx hb dX9_undo_64 hl (k := 1) rfl rfl (by decide) rfl (fun ls hl => ?_)
          refine lv_goto (tgt := 38) hx hb dX9_undo_67 (by decide) ?_
          have hz := Option.some.inj hM
          subst hz
          exact ih0 (w5 + (1 : Int32)) st8 _ _ _ hI (lv_sub hl [1, 0] rfl) hk0
    exact lp0 N (0 : Int32) st3 _ _ _ hI (lv_sub hl [1, 0] rfl) hM
  · replace hM := if_t c1 hM
    refine lv_bipush (v := (-2 : Int32)) hx hb dX9_undo_7 (by decide) ?_
    have hz := Option.some.inj hM
    exact W.iret hx hb hr (fun t ht hW => jq_i hK hI hz ht hW) hI.2.2.2 dX9_undo_9
set_option maxRecDepth 20000 in
theorem hi_X9_taut_X9 : ∀ w ∈ wsX90, w ∈ wsX9_taut := by decide +kernel
set_option maxHeartbeats 4000000 in
set_option maxRecDepth 100000 in
theorem jw_X9_taut {l : Launch} (D : va_G) (am : Nat → Nat) (cI cZ : ClassId) (hj : aJ am 24) (N : Nat) {st stZ : PS} {rZ : Int32} (hM : jm_X9_taut N st = some (rZ, stZ)) : Met l yX9_taut wsX9_taut ({ frames := 4, cells := 0, slots := 0, locals := 90 }) (va_Pc [.ref (am 0)] (JH D (mW am cI cZ) (mTy cI cZ) st)) (JQ D (aA am 24) (mW am cI cZ) (mTy cI cZ) (some (.int rZ)) stZ) 0 0 (aA am 24) := by
  refine jStart (cc := cX9_taut) (maxL := 3) (ret := (some .int)) [.ref (am 0)] (by decide) rfl (Nat.le_of_ble_eq_true rfl) (fun p e s m below meth c ls hx hb hr hlocks hts hown hml hK hI hl => ?_)
  have hown : s.vm.findClass RX9 = some m.cls := hown
  replace hl : lv_has ls 3 [(0, .ref (am 0))] := hl
  generalize hAV : ([.ref (am 0)] : List Value).toArray = AV at hts ⊢
  have f_0 := hts (.fieldLink RX9 172 "PuppetBarModel" "m" "I") (by decide +kernel)
  have f_1 := hts (.fieldLink RX9 46 "PuppetBarModel" "now" "[I") (by decide +kernel)
  unfold jm_X9_taut at hM
  refine lv_iconst (v := (0 : Int32)) hx hb dX9_taut_0 (by decide) ?_
  refine lv_istore_n (lv' := [(1, .int (0 : Int32)), (0, .ref (am 0))]) hx hb dX9_taut_1 rfl hl (by decide) rfl (fun ls hl => ?_)
  refine lv_iconst (v := (0 : Int32)) hx hb dX9_taut_2 (by decide) ?_
  refine lv_istore_n (lv' := [(2, .int (0 : Int32)), (1, .int (0 : Int32)), (0, .ref (am 0))]) hx hb dX9_taut_3 rfl hl (by decide) rfl (fun ls hl => ?_)
  have lp0 : ∀ (n : Nat) (w2 : Int32) (w3 : Int32) (st1 : PS) (H : Heap) (locs : List Loc) (ls : Array Slot), JI D (aA am 24) (mW am cI cZ) s.heap st1 H locs → lv_has ls 3 [(0, .ref (am 0)), (1, .int w2), (2, .int w3)] → iter (fun q => jm_X9_taut_L4 N q.1 q.2.1 q.2.2) n (w2, w3, st1) = some (rZ, stZ) → W p l e (headSpec wsX9_taut { frames := 4, cells := 0, slots := 0, locals := 90 }).room s m AV below meth c H locs 0 0 (MQ below (JQ D (aA am 24) (mW am cI cZ) (mTy cI cZ) (some (.int rZ)) stZ) AV s 0 0 (aA am 24)) (F0 m 4 ls []) := by
    intro n
    induction n with
    | zero =>
      intro _ _ _ _ _ _ _ _ hM
      exact absurd hM (fun h => iter_zero h)
    | succ n ih0 =>
      intro w2 w3 st1 H locs ls hI hl hM
      obtain ⟨z0, hM, hk0⟩ := iter_succ hM
      replace hM : jm_X9_taut_L4 N w2 w3 st1 = some z0 := hM
      unfold jm_X9_taut_L4 at hM
      refine lv_iload_n hx hb dX9_taut_4 rfl (lv_at hl 2 rfl) ?_
      refine lv_aload_n hx hb dX9_taut_5 rfl (lv_at hl 0 rfl) ?_
      refine va_get (D := D) (ci := 9) (v := .int (st1.1 0 19)) (C := RX9) (T := TX9) (N := 43) hx hb hts hi_X9_taut_X9 hown hK hI.1 0 (mg_0 am cI cZ st1) rfl 19 (by decide) f_0 (fun _ h9 => h9) rfl dX9_taut_6 ?_
      refine lv_icmp_ge (tgt := 40) hx hb dX9_taut_9 (by decide) (fun c4 => ?_) (fun c4 => ?_)
      · replace hM := if_t c4 hM
        refine lv_iload_n hx hb dX9_taut_40 rfl (lv_at hl 1 rfl) ?_
        have hz := Option.some.inj hM
        subst hz
        have hz := kn_r hk0
        exact W.iret hx hb hr (fun t ht hW => jq_i hK hI hz ht hW) hI.2.2.2 dX9_taut_41
      · replace hM := if_f c4 hM
        refine lv_iload_n hx hb dX9_taut_12 rfl (lv_at hl 1 rfl) ?_
        refine lv_aload_n hx hb dX9_taut_13 rfl (lv_at hl 0 rfl) ?_
        refine lv_aload_n hx hb dX9_taut_14 rfl (lv_at hl 0 rfl) ?_
        refine va_get (D := D) (ci := 9) (v := .ref (am 13)) (C := RX9) (T := TX9) (N := 43) hx hb hts hi_X9_taut_X9 hown hK hI.1 0 (mg_0 am cI cZ st1) rfl 28 (by decide) f_1 (fun _ h9 => h9) rfl dX9_taut_15 ?_
        refine lv_iload_n hx hb dX9_taut_18 rfl (lv_at hl 2 rfl) ?_
        obtain ⟨v5, st6, hqv5, hM⟩ := bd_at hM
        refine jcallV (C := RX9) (As := [.ref (am 13), .int w3]) (rest := [.int w2]) ⟨hx, hb, hml, hown, hts⟩ (jw_X9_isTaut D am cI cZ hj N (show mk_Of 13 by decide) hqv5) (cwV 2 hts gX9_taut_X9_isTaut rfl rfl rfl yd_X9_isTaut ⟨Nat.le_of_ble_eq_true rfl, Nat.le_of_ble_eq_true rfl⟩) hK hI 0 (mg_0 am cI cZ st1) rfl rfl hl.1 rfl (Nat.le_of_ble_eq_true rfl) dX9_taut_19 (fun H locs hI => ?_)
        refine W.eq (g2 := F0 m 22 ls [.int v5, .int w2]) rfl ?_
        refine lv_if_eq (tgt := 31) hx hb dX9_taut_22 (by decide) (fun c7 => ?_) (fun c7 => ?_)
        · replace hM := if_t c7 hM
          refine lv_iconst (v := (0 : Int32)) hx hb dX9_taut_31 (by decide) ?_
          refine lv_ior hx hb dX9_taut_32 ?_
          refine lv_istore_n (lv' := [(1, .int (w2 ||| (0 : Int32))), (0, .ref (am 0)), (2, .int w3)]) hx hb dX9_taut_33 rfl hl (by decide) rfl (fun ls hl => ?_)
          refine lv_iinc (v := (w3 + (1 : Int32))) (lv' := [(2, .int (w3 + (1 : Int32))), (1, .int (w2 ||| (0 : Int32))), (0, .ref (am 0))]) hx hb dX9_taut_34 hl (k := 2) rfl rfl (by decide) rfl (fun ls hl => ?_)
          refine lv_goto (tgt := 4) hx hb dX9_taut_37 (by decide) ?_
          have hz := Option.some.inj hM
          subst hz
          exact ih0 (w2 ||| (0 : Int32)) (w3 + (1 : Int32)) st6 _ _ _ hI (lv_sub hl [2, 1, 0] rfl) hk0
        · replace hM := if_f c7 hM
          refine lv_iconst (v := (1 : Int32)) hx hb dX9_taut_25 (by decide) ?_
          refine lv_iload_n hx hb dX9_taut_26 rfl (lv_at hl 2 rfl) ?_
          refine lv_ishl hx hb dX9_taut_27 ?_
          refine lv_goto (tgt := 32) hx hb dX9_taut_28 (by decide) ?_
          refine lv_ior hx hb dX9_taut_32 ?_
          refine lv_istore_n (lv' := [(1, .int (w2 ||| ((1 : Int32) <<< (w3 &&& 31)))), (0, .ref (am 0)), (2, .int w3)]) hx hb dX9_taut_33 rfl hl (by decide) rfl (fun ls hl => ?_)
          refine lv_iinc (v := (w3 + (1 : Int32))) (lv' := [(2, .int (w3 + (1 : Int32))), (1, .int (w2 ||| ((1 : Int32) <<< (w3 &&& 31)))), (0, .ref (am 0))]) hx hb dX9_taut_34 hl (k := 2) rfl rfl (by decide) rfl (fun ls hl => ?_)
          refine lv_goto (tgt := 4) hx hb dX9_taut_37 (by decide) ?_
          have hz := Option.some.inj hM
          subst hz
          exact ih0 (w2 ||| ((1 : Int32) <<< (w3 &&& 31))) (w3 + (1 : Int32)) st6 _ _ _ hI (lv_sub hl [2, 1, 0] rfl) hk0
  exact lp0 N (0 : Int32) (0 : Int32) st _ _ _ hI (lv_sub hl [2, 1, 0] rfl) hM
set_option maxRecDepth 20000 in
theorem hi_X9_heights_X9 : ∀ w ∈ wsX90, w ∈ wsX9_heights := by decide +kernel
set_option maxHeartbeats 4000000 in
set_option maxRecDepth 100000 in
theorem jw_X9_heights {l : Launch} (D : va_G) (am : Nat → Nat) (cI cZ : ClassId) (hj : aJ am 24) (N : Nat) {st stZ : PS} {rZ : Int32} (hM : jm_X9_heights N st = some (rZ, stZ)) : Met l yX9_heights wsX9_heights ({ frames := 3, cells := 0, slots := 0, locals := 68 }) (va_Pc [.ref (am 0)] (JH D (mW am cI cZ) (mTy cI cZ) st)) (JQ D (aA am 24) (mW am cI cZ) (mTy cI cZ) (some (.int rZ)) stZ) 0 0 (aA am 24) := by
  refine jStart (cc := cX9_heights) (maxL := 3) (ret := (some .int)) [.ref (am 0)] (by decide) rfl (Nat.le_of_ble_eq_true rfl) (fun p e s m below meth c ls hx hb hr hlocks hts hown hml hK hI hl => ?_)
  have hown : s.vm.findClass RX9 = some m.cls := hown
  replace hl : lv_has ls 3 [(0, .ref (am 0))] := hl
  generalize hAV : ([.ref (am 0)] : List Value).toArray = AV at hts ⊢
  have f_0 := hts (.fieldLink RX9 169 "PuppetBarModel" "n" "I") (by decide +kernel)
  have f_1 := hts (.fieldLink RX9 46 "PuppetBarModel" "now" "[I") (by decide +kernel)
  unfold jm_X9_heights at hM
  refine lv_iconst (v := (0 : Int32)) hx hb dX9_heights_0 (by decide) ?_
  refine lv_istore_n (lv' := [(1, .int (0 : Int32)), (0, .ref (am 0))]) hx hb dX9_heights_1 rfl hl (by decide) rfl (fun ls hl => ?_)
  refine lv_iconst (v := (0 : Int32)) hx hb dX9_heights_2 (by decide) ?_
  refine lv_istore_n (lv' := [(2, .int (0 : Int32)), (1, .int (0 : Int32)), (0, .ref (am 0))]) hx hb dX9_heights_3 rfl hl (by decide) rfl (fun ls hl => ?_)
  have lp0 : ∀ (n : Nat) (w2 : Int32) (w3 : Int32) (st1 : PS) (H : Heap) (locs : List Loc) (ls : Array Slot), JI D (aA am 24) (mW am cI cZ) s.heap st1 H locs → lv_has ls 3 [(0, .ref (am 0)), (1, .int w2), (2, .int w3)] → iter (fun q => jm_X9_heights_L4 N q.1 q.2.1 q.2.2) n (w2, w3, st1) = some (rZ, stZ) → W p l e (headSpec wsX9_heights { frames := 3, cells := 0, slots := 0, locals := 68 }).room s m AV below meth c H locs 0 0 (MQ below (JQ D (aA am 24) (mW am cI cZ) (mTy cI cZ) (some (.int rZ)) stZ) AV s 0 0 (aA am 24)) (F0 m 4 ls []) := by
    intro n
    induction n with
    | zero =>
      intro _ _ _ _ _ _ _ _ hM
      exact absurd hM (fun h => iter_zero h)
    | succ n ih0 =>
      intro w2 w3 st1 H locs ls hI hl hM
      obtain ⟨z0, hM, hk0⟩ := iter_succ hM
      replace hM : jm_X9_heights_L4 N w2 w3 st1 = some z0 := hM
      unfold jm_X9_heights_L4 at hM
      refine lv_iload_n hx hb dX9_heights_4 rfl (lv_at hl 2 rfl) ?_
      refine lv_aload_n hx hb dX9_heights_5 rfl (lv_at hl 0 rfl) ?_
      refine va_get (D := D) (ci := 9) (v := .int (st1.1 0 18)) (C := RX9) (T := TX9) (N := 43) hx hb hts hi_X9_heights_X9 hown hK hI.1 0 (mg_0 am cI cZ st1) rfl 18 (by decide) f_0 (fun _ h9 => h9) rfl dX9_heights_6 ?_
      refine lv_icmp_ge (tgt := 30) hx hb dX9_heights_9 (by decide) (fun c4 => ?_) (fun c4 => ?_)
      · replace hM := if_t c4 hM
        refine lv_iload_n hx hb dX9_heights_30 rfl (lv_at hl 1 rfl) ?_
        have hz := Option.some.inj hM
        subst hz
        have hz := kn_r hk0
        exact W.iret hx hb hr (fun t ht hW => jq_i hK hI hz ht hW) hI.2.2.2 dX9_heights_31
      · replace hM := if_f c4 hM
        refine lv_iload_n hx hb dX9_heights_12 rfl (lv_at hl 1 rfl) ?_
        refine lv_aload_n hx hb dX9_heights_13 rfl (lv_at hl 0 rfl) ?_
        refine lv_aload_n hx hb dX9_heights_14 rfl (lv_at hl 0 rfl) ?_
        refine va_get (D := D) (ci := 9) (v := .ref (am 13)) (C := RX9) (T := TX9) (N := 43) hx hb hts hi_X9_heights_X9 hown hK hI.1 0 (mg_0 am cI cZ st1) rfl 28 (by decide) f_1 (fun _ h9 => h9) rfl dX9_heights_15 ?_
        refine lv_iload_n hx hb dX9_heights_18 rfl (lv_at hl 2 rfl) ?_
        obtain ⟨v5, st6, hqv5, hM⟩ := bd_at hM
        refine jcallV (C := RX9) (As := [.ref (am 13), .int w3]) (rest := [.int w2]) ⟨hx, hb, hml, hown, hts⟩ (jw_X9_height D am cI cZ hj N (show mk_Of 13 by decide) hqv5) (cwV 2 hts gX9_heights_X9_height rfl rfl rfl yd_X9_height ⟨Nat.le_of_ble_eq_true rfl, Nat.le_of_ble_eq_true rfl⟩) hK hI 0 (mg_0 am cI cZ st1) rfl rfl hl.1 rfl (Nat.le_of_ble_eq_true rfl) dX9_heights_19 (fun H locs hI => ?_)
        refine W.eq (g2 := F0 m 22 ls [.int v5, .int w2]) rfl ?_
        refine lv_iadd hx hb dX9_heights_22 ?_
        refine lv_istore_n (lv' := [(1, .int (w2 + v5)), (0, .ref (am 0)), (2, .int w3)]) hx hb dX9_heights_23 rfl hl (by decide) rfl (fun ls hl => ?_)
        refine lv_iinc (v := (w3 + (1 : Int32))) (lv' := [(2, .int (w3 + (1 : Int32))), (1, .int (w2 + v5)), (0, .ref (am 0))]) hx hb dX9_heights_24 hl (k := 2) rfl rfl (by decide) rfl (fun ls hl => ?_)
        refine lv_goto (tgt := 4) hx hb dX9_heights_27 (by decide) ?_
        have hz := Option.some.inj hM
        subst hz
        exact ih0 (w2 + v5) (w3 + (1 : Int32)) st6 _ _ _ hI (lv_sub hl [2, 1, 0] rfl) hk0
  exact lp0 N (0 : Int32) (0 : Int32) st _ _ _ hI (lv_sub hl [2, 1, 0] rfl) hM
set_option maxRecDepth 20000 in
theorem hi_X9_allStrings_X9 : ∀ w ∈ wsX90, w ∈ wsX9_allStrings := by decide +kernel
set_option maxHeartbeats 4000000 in
set_option maxRecDepth 100000 in
theorem jw_X9_allStrings {l : Launch} (D : va_G) (am : Nat → Nat) (cI cZ : ClassId) (hj : aJ am 24) (N : Nat) {st stZ : PS} {rZ : Int32} (hM : jm_X9_allStrings N st = some (rZ, stZ)) : Met l yX9_allStrings wsX9_allStrings ({ frames := 0, cells := 0, slots := 0, locals := 0 }) (va_Pc [.ref (am 0)] (JH D (mW am cI cZ) (mTy cI cZ) st)) (JQ D (aA am 24) (mW am cI cZ) (mTy cI cZ) (some (.int rZ)) stZ) 0 0 (aA am 24) := by
  refine jStart (cc := cX9_allStrings) (maxL := 1) (ret := (some .int)) [.ref (am 0)] (by decide) rfl (Nat.le_of_ble_eq_true rfl) (fun p e s m below meth c ls hx hb hr hlocks hts hown hml hK hI hl => ?_)
  have hown : s.vm.findClass RX9 = some m.cls := hown
  replace hl : lv_has ls 1 [(0, .ref (am 0))] := hl
  generalize hAV : ([.ref (am 0)] : List Value).toArray = AV at hts ⊢
  have f_0 := hts (.fieldLink RX9 172 "PuppetBarModel" "m" "I") (by decide +kernel)
  unfold jm_X9_allStrings at hM
  refine lv_iconst (v := (1 : Int32)) hx hb dX9_allStrings_0 (by decide) ?_
  refine lv_aload_n hx hb dX9_allStrings_1 rfl (lv_at hl 0 rfl) ?_
  refine va_get (D := D) (ci := 9) (v := .int (st.1 0 19)) (C := RX9) (T := TX9) (N := 43) hx hb hts hi_X9_allStrings_X9 hown hK hI.1 0 (mg_0 am cI cZ st) rfl 19 (by decide) f_0 (fun _ h9 => h9) rfl dX9_allStrings_2 ?_
  refine lv_ishl hx hb dX9_allStrings_5 ?_
  refine lv_iconst (v := (1 : Int32)) hx hb dX9_allStrings_6 (by decide) ?_
  refine lv_isub hx hb dX9_allStrings_7 ?_
  have hz := Option.some.inj hM
  exact W.iret hx hb hr (fun t ht hW => jq_i hK hI hz ht hW) hI.2.2.2 dX9_allStrings_8
set_option maxRecDepth 20000 in
theorem hi_X9_isAsHigh_X9 : ∀ w ∈ wsX90, w ∈ wsX9_isAsHigh := by decide +kernel
set_option maxHeartbeats 4000000 in
set_option maxRecDepth 100000 in
theorem jw_X9_isAsHigh {l : Launch} (D : va_G) (am : Nat → Nat) (cI cZ : ClassId) (hj : aJ am 24) (N : Nat) {st stZ : PS} {rZ : Int32} (hM : jm_X9_isAsHigh N st = some (rZ, stZ)) : Met l yX9_isAsHigh wsX9_isAsHigh ({ frames := 3, cells := 0, slots := 0, locals := 68 }) (va_Pc [.ref (am 0)] (JH D (mW am cI cZ) (mTy cI cZ) st)) (JQ D (aA am 24) (mW am cI cZ) (mTy cI cZ) (some (.int rZ)) stZ) 0 0 (aA am 24) := by
  refine jStart (cc := cX9_isAsHigh) (maxL := 3) (ret := (some .boolean)) [.ref (am 0)] (by decide) rfl (Nat.le_of_ble_eq_true rfl) (fun p e s m below meth c ls hx hb hr hlocks hts hown hml hK hI hl => ?_)
  have hown : s.vm.findClass RX9 = some m.cls := hown
  replace hl : lv_has ls 3 [(0, .ref (am 0))] := hl
  generalize hAV : ([.ref (am 0)] : List Value).toArray = AV at hts ⊢
  have f_0 := hts (.fieldLink RX9 169 "PuppetBarModel" "n" "I") (by decide +kernel)
  have f_1 := hts (.fieldLink RX9 49 "PuppetBarModel" "tried" "[I") (by decide +kernel)
  have f_2 := hts (.fieldLink RX9 46 "PuppetBarModel" "now" "[I") (by decide +kernel)
  unfold jm_X9_isAsHigh at hM
  refine lv_iconst (v := (1 : Int32)) hx hb dX9_isAsHigh_0 (by decide) ?_
  refine lv_istore_n (lv' := [(1, .int (1 : Int32)), (0, .ref (am 0))]) hx hb dX9_isAsHigh_1 rfl hl (by decide) rfl (fun ls hl => ?_)
  refine lv_iconst (v := (0 : Int32)) hx hb dX9_isAsHigh_2 (by decide) ?_
  refine lv_istore_n (lv' := [(2, .int (0 : Int32)), (1, .int (1 : Int32)), (0, .ref (am 0))]) hx hb dX9_isAsHigh_3 rfl hl (by decide) rfl (fun ls hl => ?_)
  have lp0 : ∀ (n : Nat) (w2 : Int32) (w3 : Int32) (st1 : PS) (H : Heap) (locs : List Loc) (ls : Array Slot), JI D (aA am 24) (mW am cI cZ) s.heap st1 H locs → lv_has ls 3 [(0, .ref (am 0)), (1, .int w2), (2, .int w3)] → iter (fun q => jm_X9_isAsHigh_L4 N q.1 q.2.1 q.2.2) n (w2, w3, st1) = some (rZ, stZ) → W p l e (headSpec wsX9_isAsHigh { frames := 3, cells := 0, slots := 0, locals := 68 }).room s m AV below meth c H locs 0 0 (MQ below (JQ D (aA am 24) (mW am cI cZ) (mTy cI cZ) (some (.int rZ)) stZ) AV s 0 0 (aA am 24)) (F0 m 4 ls []) := by
    intro n
    induction n with
    | zero =>
      intro _ _ _ _ _ _ _ _ hM
      exact absurd hM (fun h => iter_zero h)
    | succ n ih0 =>
      intro w2 w3 st1 H locs ls hI hl hM
      obtain ⟨z0, hM, hk0⟩ := iter_succ hM
      replace hM : jm_X9_isAsHigh_L4 N w2 w3 st1 = some z0 := hM
      unfold jm_X9_isAsHigh_L4 at hM
      refine lv_iload_n hx hb dX9_isAsHigh_4 rfl (lv_at hl 2 rfl) ?_
      refine lv_aload_n hx hb dX9_isAsHigh_5 rfl (lv_at hl 0 rfl) ?_
      refine va_get (D := D) (ci := 9) (v := .int (st1.1 0 18)) (C := RX9) (T := TX9) (N := 43) hx hb hts hi_X9_isAsHigh_X9 hown hK hI.1 0 (mg_0 am cI cZ st1) rfl 18 (by decide) f_0 (fun _ h9 => h9) rfl dX9_isAsHigh_6 ?_
      refine lv_icmp_ge (tgt := 49) hx hb dX9_isAsHigh_9 (by decide) (fun c4 => ?_) (fun c4 => ?_)
      · replace hM := if_t c4 hM
        refine lv_iload_n hx hb dX9_isAsHigh_49 rfl (lv_at hl 1 rfl) ?_
        obtain ⟨g5, hM⟩ := gd_at hM
        have hz := Option.some.inj hM
        subst hz
        have hz := kn_r hk0
        exact W.zret hx hb hr (isZ_n g5) (fun t ht hW => jq_i hK hI hz ht hW) hI.2.2.2 dX9_isAsHigh_50
      · replace hM := if_f c4 hM
        refine lv_iload_n hx hb dX9_isAsHigh_12 rfl (lv_at hl 1 rfl) ?_
        refine lv_if_eq (tgt := 41) hx hb dX9_isAsHigh_13 (by decide) (fun c6 => ?_) (fun c6 => ?_)
        · replace hM := if_t c6 hM
          refine lv_iconst (v := (0 : Int32)) hx hb dX9_isAsHigh_41 (by decide) ?_
          refine lv_istore_n (lv' := [(1, .int (0 : Int32)), (0, .ref (am 0)), (2, .int w3)]) hx hb dX9_isAsHigh_42 rfl hl (by decide) rfl (fun ls hl => ?_)
          refine lv_iinc (v := (w3 + (1 : Int32))) (lv' := [(2, .int (w3 + (1 : Int32))), (1, .int (0 : Int32)), (0, .ref (am 0))]) hx hb dX9_isAsHigh_43 hl (k := 2) rfl rfl (by decide) rfl (fun ls hl => ?_)
          refine lv_goto (tgt := 4) hx hb dX9_isAsHigh_46 (by decide) ?_
          have hz := Option.some.inj hM
          subst hz
          exact ih0 (0 : Int32) (w3 + (1 : Int32)) st1 _ _ _ hI (lv_sub hl [2, 1, 0] rfl) hk0
        · replace hM := if_f c6 hM
          refine lv_aload_n hx hb dX9_isAsHigh_16 rfl (lv_at hl 0 rfl) ?_
          refine lv_aload_n hx hb dX9_isAsHigh_17 rfl (lv_at hl 0 rfl) ?_
          refine va_get (D := D) (ci := 9) (v := .ref (am 14)) (C := RX9) (T := TX9) (N := 43) hx hb hts hi_X9_isAsHigh_X9 hown hK hI.1 0 (mg_0 am cI cZ st1) rfl 29 (by decide) f_1 (fun _ h9 => h9) rfl dX9_isAsHigh_18 ?_
          refine lv_iload_n hx hb dX9_isAsHigh_21 rfl (lv_at hl 2 rfl) ?_
          obtain ⟨v7, st8, hqv7, hM⟩ := bd_at hM
          refine jcallV (C := RX9) (As := [.ref (am 14), .int w3]) (rest := []) ⟨hx, hb, hml, hown, hts⟩ (jw_X9_height D am cI cZ hj N (show mk_Of 14 by decide) hqv7) (cwV 2 hts gX9_isAsHigh_X9_height rfl rfl rfl yd_X9_height ⟨Nat.le_of_ble_eq_true rfl, Nat.le_of_ble_eq_true rfl⟩) hK hI 0 (mg_0 am cI cZ st1) rfl rfl hl.1 rfl (Nat.le_of_ble_eq_true rfl) dX9_isAsHigh_22 (fun H locs hI => ?_)
          refine W.eq (g2 := F0 m 25 ls [.int v7]) rfl ?_
          refine lv_aload_n hx hb dX9_isAsHigh_25 rfl (lv_at hl 0 rfl) ?_
          refine lv_aload_n hx hb dX9_isAsHigh_26 rfl (lv_at hl 0 rfl) ?_
          refine va_get (D := D) (ci := 9) (v := .ref (am 13)) (C := RX9) (T := TX9) (N := 43) hx hb hts hi_X9_isAsHigh_X9 hown hK hI.1 0 (mg_0 am cI cZ st8) rfl 28 (by decide) f_2 (fun _ h9 => h9) rfl dX9_isAsHigh_27 ?_
          refine lv_iload_n hx hb dX9_isAsHigh_30 rfl (lv_at hl 2 rfl) ?_
          obtain ⟨v9, st10, hqv9, hM⟩ := bd_at hM
          refine jcallV (C := RX9) (As := [.ref (am 13), .int w3]) (rest := [.int v7]) ⟨hx, hb, hml, hown, hts⟩ (jw_X9_height D am cI cZ hj N (show mk_Of 13 by decide) hqv9) (cwV 2 hts gX9_isAsHigh_X9_height rfl rfl rfl yd_X9_height ⟨Nat.le_of_ble_eq_true rfl, Nat.le_of_ble_eq_true rfl⟩) hK hI 0 (mg_0 am cI cZ st8) rfl rfl hl.1 rfl (Nat.le_of_ble_eq_true rfl) dX9_isAsHigh_31 (fun H locs hI => ?_)
          refine W.eq (g2 := F0 m 34 ls [.int v9, .int v7]) rfl ?_
          refine lv_icmp_ne (tgt := 41) hx hb dX9_isAsHigh_34 (by decide) (fun c11 => ?_) (fun c11 => ?_)
          · replace hM := if_f c11 hM
            refine lv_iconst (v := (0 : Int32)) hx hb dX9_isAsHigh_41 (by decide) ?_
            refine lv_istore_n (lv' := [(1, .int (0 : Int32)), (0, .ref (am 0)), (2, .int w3)]) hx hb dX9_isAsHigh_42 rfl hl (by decide) rfl (fun ls hl => ?_)
            refine lv_iinc (v := (w3 + (1 : Int32))) (lv' := [(2, .int (w3 + (1 : Int32))), (1, .int (0 : Int32)), (0, .ref (am 0))]) hx hb dX9_isAsHigh_43 hl (k := 2) rfl rfl (by decide) rfl (fun ls hl => ?_)
            refine lv_goto (tgt := 4) hx hb dX9_isAsHigh_46 (by decide) ?_
            have hz := Option.some.inj hM
            subst hz
            exact ih0 (0 : Int32) (w3 + (1 : Int32)) st10 _ _ _ hI (lv_sub hl [2, 1, 0] rfl) hk0
          · replace hM := if_t c11 hM
            refine lv_iconst (v := (1 : Int32)) hx hb dX9_isAsHigh_37 (by decide) ?_
            refine lv_goto (tgt := 42) hx hb dX9_isAsHigh_38 (by decide) ?_
            refine lv_istore_n (lv' := [(1, .int (1 : Int32)), (0, .ref (am 0)), (2, .int w3)]) hx hb dX9_isAsHigh_42 rfl hl (by decide) rfl (fun ls hl => ?_)
            refine lv_iinc (v := (w3 + (1 : Int32))) (lv' := [(2, .int (w3 + (1 : Int32))), (1, .int (1 : Int32)), (0, .ref (am 0))]) hx hb dX9_isAsHigh_43 hl (k := 2) rfl rfl (by decide) rfl (fun ls hl => ?_)
            refine lv_goto (tgt := 4) hx hb dX9_isAsHigh_46 (by decide) ?_
            have hz := Option.some.inj hM
            subst hz
            exact ih0 (1 : Int32) (w3 + (1 : Int32)) st10 _ _ _ hI (lv_sub hl [2, 1, 0] rfl) hk0
  exact lp0 N (1 : Int32) (0 : Int32) st _ _ _ hI (lv_sub hl [2, 1, 0] rfl) hM
set_option maxRecDepth 20000 in
theorem hi_X9_copyNow_X9 : ∀ w ∈ wsX90, w ∈ wsX9_copyNow := by decide +kernel
set_option maxHeartbeats 4000000 in
set_option maxRecDepth 100000 in
theorem jw_X9_copyNow {l : Launch} (D : va_G) (am : Nat → Nat) (cI cZ : ClassId) (hj : aJ am 24) (N : Nat) {st stZ : PS} {rZ : Unit} (hM : jm_X9_copyNow N st = some (rZ, stZ)) : Met l yX9_copyNow wsX9_copyNow ({ frames := 0, cells := 0, slots := 0, locals := 0 }) (va_Pc [.ref (am 0)] (JH D (mW am cI cZ) (mTy cI cZ) st)) (JQ D (aA am 24) (mW am cI cZ) (mTy cI cZ) none stZ) 0 0 (aA am 24) := by
  refine jStart (cc := cX9_copyNow) (maxL := 2) (ret := none) [.ref (am 0)] (by decide) rfl (Nat.le_of_ble_eq_true rfl) (fun p e s m below meth c ls hx hb hr hlocks hts hown hml hK hI hl => ?_)
  have hown : s.vm.findClass RX9 = some m.cls := hown
  replace hl : lv_has ls 2 [(0, .ref (am 0))] := hl
  generalize hAV : ([.ref (am 0)] : List Value).toArray = AV at hts ⊢
  have f_0 := hts (.fieldLink RX9 49 "PuppetBarModel" "tried" "[I") (by decide +kernel)
  have f_1 := hts (.fieldLink RX9 46 "PuppetBarModel" "now" "[I") (by decide +kernel)
  unfold jm_X9_copyNow at hM
  refine lv_iconst (v := (0 : Int32)) hx hb dX9_copyNow_0 (by decide) ?_
  refine lv_istore_n (lv' := [(1, .int (0 : Int32)), (0, .ref (am 0))]) hx hb dX9_copyNow_1 rfl hl (by decide) rfl (fun ls hl => ?_)
  have lp0 : ∀ (n : Nat) (w2 : Int32) (st1 : PS) (H : Heap) (locs : List Loc) (ls : Array Slot), JI D (aA am 24) (mW am cI cZ) s.heap st1 H locs → lv_has ls 2 [(0, .ref (am 0)), (1, .int w2)] → iter (fun q => jm_X9_copyNow_L2 N q.1 q.2) n (w2, st1) = some (rZ, stZ) → W p l e (headSpec wsX9_copyNow { frames := 0, cells := 0, slots := 0, locals := 0 }).room s m AV below meth c H locs 0 0 (MQ below (JQ D (aA am 24) (mW am cI cZ) (mTy cI cZ) none stZ) AV s 0 0 (aA am 24)) (F0 m 2 ls []) := by
    intro n
    induction n with
    | zero =>
      intro _ _ _ _ _ _ _ hM
      exact absurd hM (fun h => iter_zero h)
    | succ n ih0 =>
      intro w2 st1 H locs ls hI hl hM
      obtain ⟨z0, hM, hk0⟩ := iter_succ hM
      replace hM : jm_X9_copyNow_L2 N w2 st1 = some z0 := hM
      unfold jm_X9_copyNow_L2 at hM
      refine lv_iload_n hx hb dX9_copyNow_2 rfl (lv_at hl 1 rfl) ?_
      refine lv_bipush (v := (21 : Int32)) hx hb dX9_copyNow_3 (by decide) ?_
      refine lv_icmp_ge (tgt := 26) hx hb dX9_copyNow_5 (by decide) (fun c3 => ?_) (fun c3 => ?_)
      · replace hM := if_t c3 hM
        have hz := Option.some.inj hM
        subst hz
        have hz := kn_r hk0
        exact W.vret hx hb hr (fun t ht hW => jq_v hK hI hz ht hW) hI.2.2.2 dX9_copyNow_26
      · replace hM := if_f c3 hM
        refine lv_aload_n hx hb dX9_copyNow_8 rfl (lv_at hl 0 rfl) ?_
        refine va_get (D := D) (ci := 9) (v := .ref (am 14)) (C := RX9) (T := TX9) (N := 43) hx hb hts hi_X9_copyNow_X9 hown hK hI.1 0 (mg_0 am cI cZ st1) rfl 29 (by decide) f_0 (fun _ h9 => h9) rfl dX9_copyNow_9 ?_
        refine lv_iload_n hx hb dX9_copyNow_12 rfl (lv_at hl 1 rfl) ?_
        refine lv_aload_n hx hb dX9_copyNow_13 rfl (lv_at hl 0 rfl) ?_
        refine va_get (D := D) (ci := 9) (v := .ref (am 13)) (C := RX9) (T := TX9) (N := 43) hx hb hts hi_X9_copyNow_X9 hown hK hI.1 0 (mg_0 am cI cZ st1) rfl 28 (by decide) f_1 (fun _ h9 => h9) rfl dX9_copyNow_14 ?_
        refine lv_iload_n hx hb dX9_copyNow_17 rfl (lv_at hl 1 rfl) ?_
        obtain ⟨g4, hM⟩ := gd_at hM
        refine va_iald hx hb hK hI.1 13 0 (mg_13 am cI cZ st1) rfl (inB_vp g4) dX9_copyNow_18 ?_
        obtain ⟨g6, hM⟩ := gd_at hM
        refine jiast (x := (st1.1 13 (w2).toNatClampNeg)) (st2 := pU st1 14 (w2).toNatClampNeg ((st1.1 13 (w2).toNatClampNeg))) hx hb hK (mD hj) hI 14 0 (mg_14 am cI cZ st1) rfl (inB_vp g6) (ms_14 am cI cZ st1 _) dX9_copyNow_19 (fun st5 est5 H locs hI => ?_)
        replace hM := nm_at est5 hM
        refine lv_iinc (v := (w2 + (1 : Int32))) (lv' := [(1, .int (w2 + (1 : Int32))), (0, .ref (am 0))]) hx hb dX9_copyNow_20 hl (k := 1) rfl rfl (by decide) rfl (fun ls hl => ?_)
        refine lv_goto (tgt := 2) hx hb dX9_copyNow_23 (by decide) ?_
        have hz := Option.some.inj hM
        subst hz
        exact ih0 (w2 + (1 : Int32)) st5 _ _ _ hI (lv_sub hl [1, 0] rfl) hk0
  exact lp0 N (0 : Int32) st _ _ _ hI (lv_sub hl [1, 0] rfl) hM
set_option maxRecDepth 20000 in
theorem hi_X9_need_X9 : ∀ w ∈ wsX90, w ∈ wsX9_need := by decide +kernel
set_option maxHeartbeats 4000000 in
set_option maxRecDepth 100000 in
theorem jw_X9_need {l : Launch} (D : va_G) (am : Nat → Nat) (cI cZ : ClassId) (hj : aJ am 24) (N : Nat) {st stZ : PS} {rZ : Int32} (hM : jm_X9_need N st = some (rZ, stZ)) : Met l yX9_need wsX9_need ({ frames := 4, cells := 0, slots := 0, locals := 90 }) (va_Pc [.ref (am 0)] (JH D (mW am cI cZ) (mTy cI cZ) st)) (JQ D (aA am 24) (mW am cI cZ) (mTy cI cZ) (some (.int rZ)) stZ) 0 0 (aA am 24) := by
  refine jStart (cc := cX9_need) (maxL := 4) (ret := (some .int)) [.ref (am 0)] (by decide) rfl (Nat.le_of_ble_eq_true rfl) (fun p e s m below meth c ls hx hb hr hlocks hts hown hml hK hI hl => ?_)
  have hown : s.vm.findClass RX9 = some m.cls := hown
  replace hl : lv_has ls 4 [(0, .ref (am 0))] := hl
  generalize hAV : ([.ref (am 0)] : List Value).toArray = AV at hts ⊢
  have f_0 := hts (.fieldLink RX9 46 "PuppetBarModel" "now" "[I") (by decide +kernel)
  have f_1 := hts (.fieldLink RX9 49 "PuppetBarModel" "tried" "[I") (by decide +kernel)
  unfold jm_X9_need at hM
  refine lv_aload_n hx hb dX9_need_0 rfl (lv_at hl 0 rfl) ?_
  obtain ⟨v1, st2, hqv1, hM⟩ := bd_at hM
  refine jcallV (C := RX9) (As := []) (rest := []) ⟨hx, hb, hml, hown, hts⟩ (jw_X9_allStrings D am cI cZ hj N hqv1) (cwV 0 hts gX9_need_X9_allStrings rfl rfl rfl yd_X9_allStrings ⟨Nat.le_of_ble_eq_true rfl, Nat.le_of_ble_eq_true rfl⟩) hK hI 0 (mg_0 am cI cZ st) rfl rfl hl.1 rfl (Nat.le_of_ble_eq_true rfl) dX9_need_1 (fun H locs hI => ?_)
  refine W.eq (g2 := F0 m 4 ls [.int v1]) rfl ?_
  refine lv_aload_n hx hb dX9_need_4 rfl (lv_at hl 0 rfl) ?_
  refine va_get (D := D) (ci := 9) (v := .ref (am 13)) (C := RX9) (T := TX9) (N := 43) hx hb hts hi_X9_need_X9 hown hK hI.1 0 (mg_0 am cI cZ st2) rfl 28 (by decide) f_0 (fun _ h9 => h9) rfl dX9_need_5 ?_
  refine lv_iconst (v := (2 : Int32)) hx hb dX9_need_8 (by decide) ?_
  refine va_iald hx hb hK hI.1 13 0 (mg_13 am cI cZ st2) rfl (inB_vp rfl) dX9_need_9 ?_
  refine W.eq (g2 := F0 m 10 ls [.int (st2.1 13 2), .int v1]) rfl ?_
  refine lv_iconst (v := (-1 : Int32)) hx hb dX9_need_10 (by decide) ?_
  refine lv_ixor hx hb dX9_need_11 ?_
  refine lv_iand hx hb dX9_need_12 ?_
  refine lv_istore_n (lv' := [(1, .int (v1 &&& ((st2.1 13 2) ^^^ (-1 : Int32)))), (0, .ref (am 0))]) hx hb dX9_need_13 rfl hl (by decide) rfl (fun ls hl => ?_)
  refine lv_iload_n hx hb dX9_need_14 rfl (lv_at hl 0 rfl) ?_
  refine lv_istore_n (lv' := [(2, .int (v1 &&& ((st2.1 13 2) ^^^ (-1 : Int32)))), (1, .int (v1 &&& ((st2.1 13 2) ^^^ (-1 : Int32)))), (0, .ref (am 0))]) hx hb dX9_need_15 rfl hl (by decide) rfl (fun ls hl => ?_)
  refine lv_aload_n hx hb dX9_need_16 rfl (lv_at hl 2 rfl) ?_
  obtain ⟨v3, st4, hqv3, hM⟩ := bd_at hM
  refine jcallV (C := RX9) (As := []) (rest := []) ⟨hx, hb, hml, hown, hts⟩ (jw_X9_copyNow D am cI cZ hj N hqv3) (cwV 0 hts gX9_need_X9_copyNow rfl rfl rfl yd_X9_copyNow ⟨Nat.le_of_ble_eq_true rfl, Nat.le_of_ble_eq_true rfl⟩) hK hI 0 (mg_0 am cI cZ st2) rfl rfl hl.1 rfl (Nat.le_of_ble_eq_true rfl) dX9_need_17 (fun H locs hI => ?_)
  refine W.eq (g2 := F0 m 20 ls []) rfl ?_
  refine lv_iload_n hx hb dX9_need_20 rfl (lv_at hl 1 rfl) ?_
  refine lv_istore_n (lv' := [(3, .int (v1 &&& ((st2.1 13 2) ^^^ (-1 : Int32)))), (2, .int (v1 &&& ((st2.1 13 2) ^^^ (-1 : Int32)))), (1, .int (v1 &&& ((st2.1 13 2) ^^^ (-1 : Int32)))), (0, .ref (am 0))]) hx hb dX9_need_21 rfl hl (by decide) rfl (fun ls hl => ?_)
  obtain ⟨y5, ey5⟩ : ∃ z9 : Int32, z9 = (v1 &&& ((st2.1 13 2) ^^^ (-1 : Int32))) := ⟨_, rfl⟩
  rw [← ey5] at hl
  replace hM := nm_at ey5 hM
  have lp0 : ∀ (n : Nat) (w7 : Int32) (w8 : Int32) (st6 : PS) (H : Heap) (locs : List Loc) (ls : Array Slot), JI D (aA am 24) (mW am cI cZ) s.heap st6 H locs → lv_has ls 4 [(0, .ref (am 0)), (1, .int y5), (2, .int w7), (3, .int w8)] → iter (fun q => jm_X9_need_L22 N y5 q.1 q.2.1 q.2.2) n (w7, w8, st6) = some (rZ, stZ) → W p l e (headSpec wsX9_need { frames := 4, cells := 0, slots := 0, locals := 90 }).room s m AV below meth c H locs 0 0 (MQ below (JQ D (aA am 24) (mW am cI cZ) (mTy cI cZ) (some (.int rZ)) stZ) AV s 0 0 (aA am 24)) (F0 m 22 ls []) := by
    intro n
    induction n with
    | zero =>
      intro _ _ _ _ _ _ _ _ hM
      exact absurd hM (fun h => iter_zero h)
    | succ n ih0 =>
      intro w7 w8 st6 H locs ls hI hl hM
      obtain ⟨z0, hM, hk0⟩ := iter_succ hM
      replace hM : jm_X9_need_L22 N y5 w7 w8 st6 = some z0 := hM
      unfold jm_X9_need_L22 at hM
      refine lv_iload_n hx hb dX9_need_22 rfl (lv_at hl 3 rfl) ?_
      refine lv_if_lt (tgt := 78) hx hb dX9_need_23 (by decide) (fun c9 => ?_) (fun c9 => ?_)
      · replace hM := if_t c9 hM
        refine lv_iload_n hx hb dX9_need_78 rfl (lv_at hl 2 rfl) ?_
        have hz := Option.some.inj hM
        subst hz
        have hz := kn_r hk0
        exact W.iret hx hb hr (fun t ht hW => jq_i hK hI hz ht hW) hI.2.2.2 dX9_need_79
      · replace hM := if_f c9 hM
        refine lv_aload_n hx hb dX9_need_26 rfl (lv_at hl 0 rfl) ?_
        refine va_get (D := D) (ci := 9) (v := .ref (am 14)) (C := RX9) (T := TX9) (N := 43) hx hb hts hi_X9_need_X9 hown hK hI.1 0 (mg_0 am cI cZ st6) rfl 29 (by decide) f_1 (fun _ h9 => h9) rfl dX9_need_27 ?_
        refine lv_iconst (v := (2 : Int32)) hx hb dX9_need_30 (by decide) ?_
        refine lv_aload_n hx hb dX9_need_31 rfl (lv_at hl 0 rfl) ?_
        obtain ⟨v10, st11, hqv10, hM⟩ := bd_at hM
        refine jcallV (C := RX9) (As := []) (rest := [.int (2 : Int32), .ref (am 14)]) ⟨hx, hb, hml, hown, hts⟩ (jw_X9_allStrings D am cI cZ hj N hqv10) (cwV 0 hts gX9_need_X9_allStrings rfl rfl rfl yd_X9_allStrings ⟨Nat.le_of_ble_eq_true rfl, Nat.le_of_ble_eq_true rfl⟩) hK hI 0 (mg_0 am cI cZ st6) rfl rfl hl.1 rfl (Nat.le_of_ble_eq_true rfl) dX9_need_32 (fun H locs hI => ?_)
        refine W.eq (g2 := F0 m 35 ls [.int v10, .int (2 : Int32), .ref (am 14)]) rfl ?_
        refine lv_iload_n hx hb dX9_need_35 rfl (lv_at hl 3 rfl) ?_
        refine lv_iconst (v := (-1 : Int32)) hx hb dX9_need_36 (by decide) ?_
        refine lv_ixor hx hb dX9_need_37 ?_
        refine lv_iand hx hb dX9_need_38 ?_
        refine jiast (x := (v10 &&& (w8 ^^^ (-1 : Int32)))) (st2 := pU st11 14 2 ((v10 &&& (w8 ^^^ (-1 : Int32))))) hx hb hK (mD hj) hI 14 0 (mg_14 am cI cZ st11) rfl (inB_vp rfl) (ms_14 am cI cZ st11 _) dX9_need_39 (fun st12 est12 H locs hI => ?_)
        replace hM := nm_at est12 hM
        refine lv_iload_n hx hb dX9_need_40 rfl (lv_at hl 3 rfl) ?_
        refine lv_iload_n hx hb dX9_need_41 rfl (lv_at hl 1 rfl) ?_
        refine lv_iconst (v := (-1 : Int32)) hx hb dX9_need_42 (by decide) ?_
        refine lv_ixor hx hb dX9_need_43 ?_
        refine lv_iand hx hb dX9_need_44 ?_
        refine lv_if_ne (tgt := 70) hx hb dX9_need_45 (by decide) (fun c13 => ?_) (fun c13 => ?_)
        · replace hM := if_f c13 hM
          refine lv_iload_n hx hb dX9_need_70 rfl (lv_at hl 2 rfl) ?_
          refine lv_istore_n (lv' := [(2, .int w7), (0, .ref (am 0)), (1, .int y5), (3, .int w8)]) hx hb dX9_need_71 rfl hl (by decide) rfl (fun ls hl => ?_)
          refine lv_iinc (v := (w8 + (-1 : Int32))) (lv' := [(3, .int (w8 + (-1 : Int32))), (2, .int w7), (0, .ref (am 0)), (1, .int y5)]) hx hb dX9_need_72 hl (k := 3) rfl rfl (by decide) rfl (fun ls hl => ?_)
          refine lv_goto (tgt := 22) hx hb dX9_need_75 (by decide) ?_
          have hz := Option.some.inj hM
          subst hz
          exact ih0 w7 (w8 + (-1 : Int32)) st12 _ _ _ hI (lv_sub hl [2, 3, 1, 0] rfl) hk0
        · replace hM := if_t c13 hM
          refine lv_iload_n hx hb dX9_need_48 rfl (lv_at hl 3 rfl) ?_
          obtain ⟨v14, st15, hqv14, hM⟩ := bd_at hM
          refine jcallS (As := [.int w8]) (rest := []) ⟨hx, hb, hml, hown, hts⟩ (jw_X9_bits D am cI cZ hj N hqv14) (va_cwS 1 hts gX9_need_X9_bits rfl rfl rfl yd_X9_bits ⟨Nat.le_of_ble_eq_true rfl, Nat.le_of_ble_eq_true rfl⟩) hK hI rfl hl.1 rfl (Nat.le_of_ble_eq_true rfl) dX9_need_49 (fun H locs hI => ?_)
          refine W.eq (g2 := F0 m 52 ls [.int v14]) rfl ?_
          refine lv_iload_n hx hb dX9_need_52 rfl (lv_at hl 2 rfl) ?_
          obtain ⟨v16, st17, hqv16, hM⟩ := bd_at hM
          refine jcallS (As := [.int w7]) (rest := [.int v14]) ⟨hx, hb, hml, hown, hts⟩ (jw_X9_bits D am cI cZ hj N hqv16) (va_cwS 1 hts gX9_need_X9_bits rfl rfl rfl yd_X9_bits ⟨Nat.le_of_ble_eq_true rfl, Nat.le_of_ble_eq_true rfl⟩) hK hI rfl hl.1 rfl (Nat.le_of_ble_eq_true rfl) dX9_need_53 (fun H locs hI => ?_)
          refine W.eq (g2 := F0 m 56 ls [.int v16, .int v14]) rfl ?_
          refine lv_icmp_gt (tgt := 70) hx hb dX9_need_56 (by decide) (fun c18 => ?_) (fun c18 => ?_)
          · replace hM := if_t c18 hM
            refine lv_iload_n hx hb dX9_need_70 rfl (lv_at hl 2 rfl) ?_
            refine lv_istore_n (lv' := [(2, .int w7), (0, .ref (am 0)), (1, .int y5), (3, .int w8)]) hx hb dX9_need_71 rfl hl (by decide) rfl (fun ls hl => ?_)
            refine lv_iinc (v := (w8 + (-1 : Int32))) (lv' := [(3, .int (w8 + (-1 : Int32))), (2, .int w7), (0, .ref (am 0)), (1, .int y5)]) hx hb dX9_need_72 hl (k := 3) rfl rfl (by decide) rfl (fun ls hl => ?_)
            refine lv_goto (tgt := 22) hx hb dX9_need_75 (by decide) ?_
            have hz := Option.some.inj hM
            subst hz
            exact ih0 w7 (w8 + (-1 : Int32)) st17 _ _ _ hI (lv_sub hl [2, 3, 1, 0] rfl) hk0
          · replace hM := if_f c18 hM
            refine lv_aload_n hx hb dX9_need_59 rfl (lv_at hl 0 rfl) ?_
            obtain ⟨v19, st20, hqv19, hM⟩ := bd_at hM
            refine jcallV (C := RX9) (As := []) (rest := []) ⟨hx, hb, hml, hown, hts⟩ (jw_X9_isAsHigh D am cI cZ hj N hqv19) (cwV 0 hts gX9_need_X9_isAsHigh rfl rfl rfl yd_X9_isAsHigh ⟨Nat.le_of_ble_eq_true rfl, Nat.le_of_ble_eq_true rfl⟩) hK hI 0 (mg_0 am cI cZ st17) rfl rfl hl.1 rfl (Nat.le_of_ble_eq_true rfl) dX9_need_60 (fun H locs hI => ?_)
            refine W.eq (g2 := F0 m 63 ls [.int v19]) rfl ?_
            refine lv_if_eq (tgt := 70) hx hb dX9_need_63 (by decide) (fun c21 => ?_) (fun c21 => ?_)
            · replace hM := if_t c21 hM
              refine lv_iload_n hx hb dX9_need_70 rfl (lv_at hl 2 rfl) ?_
              refine lv_istore_n (lv' := [(2, .int w7), (0, .ref (am 0)), (1, .int y5), (3, .int w8)]) hx hb dX9_need_71 rfl hl (by decide) rfl (fun ls hl => ?_)
              refine lv_iinc (v := (w8 + (-1 : Int32))) (lv' := [(3, .int (w8 + (-1 : Int32))), (2, .int w7), (0, .ref (am 0)), (1, .int y5)]) hx hb dX9_need_72 hl (k := 3) rfl rfl (by decide) rfl (fun ls hl => ?_)
              refine lv_goto (tgt := 22) hx hb dX9_need_75 (by decide) ?_
              have hz := Option.some.inj hM
              subst hz
              exact ih0 w7 (w8 + (-1 : Int32)) st20 _ _ _ hI (lv_sub hl [2, 3, 1, 0] rfl) hk0
            · replace hM := if_f c21 hM
              refine lv_iload_n hx hb dX9_need_66 rfl (lv_at hl 3 rfl) ?_
              refine lv_goto (tgt := 71) hx hb dX9_need_67 (by decide) ?_
              refine lv_istore_n (lv' := [(2, .int w8), (0, .ref (am 0)), (1, .int y5), (3, .int w8)]) hx hb dX9_need_71 rfl hl (by decide) rfl (fun ls hl => ?_)
              refine lv_iinc (v := (w8 + (-1 : Int32))) (lv' := [(3, .int (w8 + (-1 : Int32))), (2, .int w8), (0, .ref (am 0)), (1, .int y5)]) hx hb dX9_need_72 hl (k := 3) rfl rfl (by decide) rfl (fun ls hl => ?_)
              refine lv_goto (tgt := 22) hx hb dX9_need_75 (by decide) ?_
              have hz := Option.some.inj hM
              subst hz
              exact ih0 w8 (w8 + (-1 : Int32)) st20 _ _ _ hI (lv_sub hl [2, 3, 1, 0] rfl) hk0
  exact lp0 N y5 y5 st4 _ _ _ hI (lv_sub hl [3, 2, 1, 0] rfl) hM
set_option maxRecDepth 20000 in
theorem hi_X9_crossed_X9 : ∀ w ∈ wsX90, w ∈ wsX9_crossed := by decide +kernel
set_option maxHeartbeats 4000000 in
set_option maxRecDepth 100000 in
theorem jw_X9_crossed {l : Launch} (D : va_G) (am : Nat → Nat) (cI cZ : ClassId) (hj : aJ am 24) (N : Nat) {st stZ : PS} {rZ : Int32} (hM : jm_X9_crossed N st = some (rZ, stZ)) : Met l yX9_crossed wsX9_crossed ({ frames := 1, cells := 0, slots := 0, locals := 21 }) (va_Pc [.ref (am 0)] (JH D (mW am cI cZ) (mTy cI cZ) st)) (JQ D (aA am 24) (mW am cI cZ) (mTy cI cZ) (some (.int rZ)) stZ) 0 0 (aA am 24) := by
  refine jStart (cc := cX9_crossed) (maxL := 5) (ret := (some .int)) [.ref (am 0)] (by decide) rfl (Nat.le_of_ble_eq_true rfl) (fun p e s m below meth c ls hx hb hr hlocks hts hown hml hK hI hl => ?_)
  have hown : s.vm.findClass RX9 = some m.cls := hown
  replace hl : lv_has ls 5 [(0, .ref (am 0))] := hl
  generalize hAV : ([.ref (am 0)] : List Value).toArray = AV at hts ⊢
  have f_0 := hts (.fieldLink RX9 172 "PuppetBarModel" "m" "I") (by decide +kernel)
  have f_1 := hts (.fieldLink RX9 46 "PuppetBarModel" "now" "[I") (by decide +kernel)
  unfold jm_X9_crossed at hM
  refine lv_iconst (v := (0 : Int32)) hx hb dX9_crossed_0 (by decide) ?_
  refine lv_istore_n (lv' := [(1, .int (0 : Int32)), (0, .ref (am 0))]) hx hb dX9_crossed_1 rfl hl (by decide) rfl (fun ls hl => ?_)
  refine lv_iconst (v := (0 : Int32)) hx hb dX9_crossed_2 (by decide) ?_
  refine lv_istore_n (lv' := [(2, .int (0 : Int32)), (1, .int (0 : Int32)), (0, .ref (am 0))]) hx hb dX9_crossed_3 rfl hl (by decide) rfl (fun ls hl => ?_)
  have lp0 : ∀ (n : Nat) (w2 : Int32) (w3 : Int32) (st1 : PS) (H : Heap) (locs : List Loc) (ls : Array Slot), JI D (aA am 24) (mW am cI cZ) s.heap st1 H locs → lv_has ls 5 [(0, .ref (am 0)), (1, .int w2), (2, .int w3)] → iter (fun q => jm_X9_crossed_L4 N q.1 q.2.1 q.2.2) n (w2, w3, st1) = some (rZ, stZ) → W p l e (headSpec wsX9_crossed { frames := 1, cells := 0, slots := 0, locals := 21 }).room s m AV below meth c H locs 0 0 (MQ below (JQ D (aA am 24) (mW am cI cZ) (mTy cI cZ) (some (.int rZ)) stZ) AV s 0 0 (aA am 24)) (F0 m 4 ls []) := by
    intro n
    induction n with
    | zero =>
      intro _ _ _ _ _ _ _ _ hM
      exact absurd hM (fun h => iter_zero h)
    | succ n ih0 =>
      intro w2 w3 st1 H locs ls hI hl hM
      obtain ⟨z0, hM, hk0⟩ := iter_succ hM
      replace hM : jm_X9_crossed_L4 N w2 w3 st1 = some z0 := hM
      unfold jm_X9_crossed_L4 at hM
      refine lv_iload_n hx hb dX9_crossed_4 rfl (lv_at hl 2 rfl) ?_
      refine lv_aload_n hx hb dX9_crossed_5 rfl (lv_at hl 0 rfl) ?_
      refine va_get (D := D) (ci := 9) (v := .int (st1.1 0 19)) (C := RX9) (T := TX9) (N := 43) hx hb hts hi_X9_crossed_X9 hown hK hI.1 0 (mg_0 am cI cZ st1) rfl 19 (by decide) f_0 (fun _ h9 => h9) rfl dX9_crossed_6 ?_
      refine lv_icmp_ge (tgt := 120) hx hb dX9_crossed_9 (by decide) (fun c4 => ?_) (fun c4 => ?_)
      · replace hM := if_t c4 hM
        refine lv_iload_n hx hb dX9_crossed_120 rfl (lv_at hl 1 rfl) ?_
        have hz := Option.some.inj hM
        subst hz
        have hz := kn_r hk0
        exact W.iret hx hb hr (fun t ht hW => jq_i hK hI hz ht hW) hI.2.2.2 dX9_crossed_121
      · replace hM := if_f c4 hM
        refine lv_iconst (v := (0 : Int32)) hx hb dX9_crossed_12 (by decide) ?_
        refine lv_istore_n (lv' := [(3, .int (0 : Int32)), (0, .ref (am 0)), (1, .int w2), (2, .int w3)]) hx hb dX9_crossed_13 rfl hl (by decide) rfl (fun ls hl => ?_)
        have lp1 : ∀ (n : Nat) (w6 : Int32) (w7 : Int32) (st5 : PS) (H : Heap) (locs : List Loc) (ls : Array Slot), JI D (aA am 24) (mW am cI cZ) s.heap st5 H locs → lv_has ls 5 [(0, .ref (am 0)), (1, .int w6), (2, .int w3), (3, .int w7)] → iter (fun q => jm_X9_crossed_L14 N w3 q.1 q.2.1 q.2.2) n (w6, w7, st5) = some z0 → W p l e (headSpec wsX9_crossed { frames := 1, cells := 0, slots := 0, locals := 21 }).room s m AV below meth c H locs 0 0 (MQ below (JQ D (aA am 24) (mW am cI cZ) (mTy cI cZ) (some (.int rZ)) stZ) AV s 0 0 (aA am 24)) (F0 m 14 ls []) := by
          intro n
          induction n with
          | zero =>
            intro _ _ _ _ _ _ _ _ hM
            exact absurd hM (fun h => iter_zero h)
          | succ n ih1 =>
            intro w6 w7 st5 H locs ls hI hl hM
            obtain ⟨z1, hM, hk1⟩ := iter_succ hM
            replace hM : jm_X9_crossed_L14 N w3 w6 w7 st5 = some z1 := hM
            unfold jm_X9_crossed_L14 at hM
            refine lv_iload_n hx hb dX9_crossed_14 rfl (lv_at hl 3 rfl) ?_
            refine lv_aload_n hx hb dX9_crossed_15 rfl (lv_at hl 0 rfl) ?_
            refine va_get (D := D) (ci := 9) (v := .int (st5.1 0 19)) (C := RX9) (T := TX9) (N := 43) hx hb hts hi_X9_crossed_X9 hown hK hI.1 0 (mg_0 am cI cZ st5) rfl 19 (by decide) f_0 (fun _ h9 => h9) rfl dX9_crossed_16 ?_
            refine lv_icmp_ge (tgt := 114) hx hb dX9_crossed_19 (by decide) (fun c8 => ?_) (fun c8 => ?_)
            · replace hM := if_t c8 hM
              refine lv_iinc (v := (w3 + (1 : Int32))) (lv' := [(2, .int (w3 + (1 : Int32))), (0, .ref (am 0)), (1, .int w6), (3, .int w7)]) hx hb dX9_crossed_114 hl (k := 2) rfl rfl (by decide) rfl (fun ls hl => ?_)
              refine lv_goto (tgt := 4) hx hb dX9_crossed_117 (by decide) ?_
              have hz := Option.some.inj hM
              subst hz
              have hz := kn_r hk1
              subst hz
              exact ih0 w6 (w3 + (1 : Int32)) st5 _ _ _ hI (lv_sub hl [1, 2, 0] rfl) hk0
            · replace hM := if_f c8 hM
              refine lv_aload_n hx hb dX9_crossed_22 rfl (lv_at hl 0 rfl) ?_
              refine va_get (D := D) (ci := 9) (v := .ref (am 13)) (C := RX9) (T := TX9) (N := 43) hx hb hts hi_X9_crossed_X9 hown hK hI.1 0 (mg_0 am cI cZ st5) rfl 28 (by decide) f_1 (fun _ h9 => h9) rfl dX9_crossed_23 ?_
              refine lv_iconst (v := (2 : Int32)) hx hb dX9_crossed_26 (by decide) ?_
              refine va_iald hx hb hK hI.1 13 0 (mg_13 am cI cZ st5) rfl (inB_vp rfl) dX9_crossed_27 ?_
              refine W.eq (g2 := F0 m 28 ls [.int (st5.1 13 2)]) rfl ?_
              refine lv_iload_n hx hb dX9_crossed_28 rfl (lv_at hl 2 rfl) ?_
              obtain ⟨v9, st10, hqv9, hM⟩ := bd_at hM
              refine jcallS (As := [.int (st5.1 13 2), .int w3]) (rest := []) ⟨hx, hb, hml, hown, hts⟩ (jw_X9_has D am cI cZ hj N hqv9) (va_cwS 2 hts gX9_crossed_X9_has rfl rfl rfl yd_X9_has ⟨Nat.le_of_ble_eq_true rfl, Nat.le_of_ble_eq_true rfl⟩) hK hI rfl hl.1 rfl (Nat.le_of_ble_eq_true rfl) dX9_crossed_29 (fun H locs hI => ?_)
              refine W.eq (g2 := F0 m 32 ls [.int v9]) rfl ?_
              refine lv_if_ne (tgt := 52) hx hb dX9_crossed_32 (by decide) (fun c11 => ?_) (fun c11 => ?_)
              · replace hM := if_f c11 hM
                refine lv_iconst (v := (0 : Int32)) hx hb dX9_crossed_52 (by decide) ?_
                refine lv_istore (lv' := [(4, .int (0 : Int32)), (0, .ref (am 0)), (1, .int w6), (2, .int w3), (3, .int w7)]) hx hb dX9_crossed_53 hl (by decide) rfl (fun ls hl => ?_)
                refine lv_iload_n hx hb dX9_crossed_55 rfl (lv_at hl 2 rfl) ?_
                refine lv_iload hx hb dX9_crossed_56 (lv_at hl 0 rfl) ?_
                refine lv_if_eq (tgt := 105) hx hb dX9_crossed_58 (by decide) (fun _ => ?_) (fun c9 => absurd c9 (by decide))
                refine lv_iconst (v := (0 : Int32)) hx hb dX9_crossed_105 (by decide) ?_
                refine lv_iadd hx hb dX9_crossed_106 ?_
                refine lv_istore_n (lv' := [(1, .int (w6 + (0 : Int32))), (4, .int (0 : Int32)), (0, .ref (am 0)), (2, .int w3), (3, .int w7)]) hx hb dX9_crossed_107 rfl hl (by decide) rfl (fun ls hl => ?_)
                refine lv_iinc (v := (w7 + (1 : Int32))) (lv' := [(3, .int (w7 + (1 : Int32))), (1, .int (w6 + (0 : Int32))), (4, .int (0 : Int32)), (0, .ref (am 0)), (2, .int w3)]) hx hb dX9_crossed_108 hl (k := 4) rfl rfl (by decide) rfl (fun ls hl => ?_)
                refine lv_goto (tgt := 14) hx hb dX9_crossed_111 (by decide) ?_
                have hz := Option.some.inj hM
                subst hz
                exact ih1 (w6 + (0 : Int32)) (w7 + (1 : Int32)) st10 _ _ _ hI (lv_sub hl [3, 1, 4, 0] rfl) hk1
              · replace hM := if_t c11 hM
                refine lv_aload_n hx hb dX9_crossed_35 rfl (lv_at hl 0 rfl) ?_
                refine va_get (D := D) (ci := 9) (v := .ref (am 13)) (C := RX9) (T := TX9) (N := 43) hx hb hts hi_X9_crossed_X9 hown hK hI.1 0 (mg_0 am cI cZ st10) rfl 28 (by decide) f_1 (fun _ h9 => h9) rfl dX9_crossed_36 ?_
                refine lv_iconst (v := (2 : Int32)) hx hb dX9_crossed_39 (by decide) ?_
                refine va_iald hx hb hK hI.1 13 0 (mg_13 am cI cZ st10) rfl (inB_vp rfl) dX9_crossed_40 ?_
                refine W.eq (g2 := F0 m 41 ls [.int (st10.1 13 2)]) rfl ?_
                refine lv_iload_n hx hb dX9_crossed_41 rfl (lv_at hl 3 rfl) ?_
                obtain ⟨v12, st13, hqv12, hM⟩ := bd_at hM
                refine jcallS (As := [.int (st10.1 13 2), .int w7]) (rest := []) ⟨hx, hb, hml, hown, hts⟩ (jw_X9_has D am cI cZ hj N hqv12) (va_cwS 2 hts gX9_crossed_X9_has rfl rfl rfl yd_X9_has ⟨Nat.le_of_ble_eq_true rfl, Nat.le_of_ble_eq_true rfl⟩) hK hI rfl hl.1 rfl (Nat.le_of_ble_eq_true rfl) dX9_crossed_42 (fun H locs hI => ?_)
                refine W.eq (g2 := F0 m 45 ls [.int v12]) rfl ?_
                refine lv_if_ne (tgt := 52) hx hb dX9_crossed_45 (by decide) (fun c14 => ?_) (fun c14 => ?_)
                · replace hM := if_f c14 hM
                  refine lv_iconst (v := (0 : Int32)) hx hb dX9_crossed_52 (by decide) ?_
                  refine lv_istore (lv' := [(4, .int (0 : Int32)), (0, .ref (am 0)), (1, .int w6), (2, .int w3), (3, .int w7)]) hx hb dX9_crossed_53 hl (by decide) rfl (fun ls hl => ?_)
                  refine lv_iload_n hx hb dX9_crossed_55 rfl (lv_at hl 2 rfl) ?_
                  refine lv_iload hx hb dX9_crossed_56 (lv_at hl 0 rfl) ?_
                  refine lv_if_eq (tgt := 105) hx hb dX9_crossed_58 (by decide) (fun _ => ?_) (fun c9 => absurd c9 (by decide))
                  refine lv_iconst (v := (0 : Int32)) hx hb dX9_crossed_105 (by decide) ?_
                  refine lv_iadd hx hb dX9_crossed_106 ?_
                  refine lv_istore_n (lv' := [(1, .int (w6 + (0 : Int32))), (4, .int (0 : Int32)), (0, .ref (am 0)), (2, .int w3), (3, .int w7)]) hx hb dX9_crossed_107 rfl hl (by decide) rfl (fun ls hl => ?_)
                  refine lv_iinc (v := (w7 + (1 : Int32))) (lv' := [(3, .int (w7 + (1 : Int32))), (1, .int (w6 + (0 : Int32))), (4, .int (0 : Int32)), (0, .ref (am 0)), (2, .int w3)]) hx hb dX9_crossed_108 hl (k := 4) rfl rfl (by decide) rfl (fun ls hl => ?_)
                  refine lv_goto (tgt := 14) hx hb dX9_crossed_111 (by decide) ?_
                  have hz := Option.some.inj hM
                  subst hz
                  exact ih1 (w6 + (0 : Int32)) (w7 + (1 : Int32)) st13 _ _ _ hI (lv_sub hl [3, 1, 4, 0] rfl) hk1
                · replace hM := if_t c14 hM
                  refine lv_iconst (v := (1 : Int32)) hx hb dX9_crossed_48 (by decide) ?_
                  refine lv_goto (tgt := 53) hx hb dX9_crossed_49 (by decide) ?_
                  refine lv_istore (lv' := [(4, .int (1 : Int32)), (0, .ref (am 0)), (1, .int w6), (2, .int w3), (3, .int w7)]) hx hb dX9_crossed_53 hl (by decide) rfl (fun ls hl => ?_)
                  refine lv_iload_n hx hb dX9_crossed_55 rfl (lv_at hl 2 rfl) ?_
                  refine lv_iload hx hb dX9_crossed_56 (lv_at hl 0 rfl) ?_
                  refine lv_if_eq (tgt := 105) hx hb dX9_crossed_58 (by decide) (fun c9 => absurd c9 (by decide)) (fun _ => ?_)
                  refine lv_aload_n hx hb dX9_crossed_61 rfl (lv_at hl 1 rfl) ?_
                  refine va_get (D := D) (ci := 9) (v := .ref (am 13)) (C := RX9) (T := TX9) (N := 43) hx hb hts hi_X9_crossed_X9 hown hK hI.1 0 (mg_0 am cI cZ st13) rfl 28 (by decide) f_1 (fun _ h9 => h9) rfl dX9_crossed_62 ?_
                  refine lv_bipush (v := (9 : Int32)) hx hb dX9_crossed_65 (by decide) ?_
                  refine lv_iload_n hx hb dX9_crossed_67 rfl (lv_at hl 3 rfl) ?_
                  refine lv_iadd hx hb dX9_crossed_68 ?_
                  obtain ⟨g15, hM⟩ := gd_at hM
                  refine va_iald hx hb hK hI.1 13 0 (mg_13 am cI cZ st13) rfl (inB_vp g15) dX9_crossed_69 ?_
                  refine lv_aload_n hx hb dX9_crossed_70 rfl (lv_at hl 1 rfl) ?_
                  refine va_get (D := D) (ci := 9) (v := .ref (am 13)) (C := RX9) (T := TX9) (N := 43) hx hb hts hi_X9_crossed_X9 hown hK hI.1 0 (mg_0 am cI cZ st13) rfl 28 (by decide) f_1 (fun _ h9 => h9) rfl dX9_crossed_71 ?_
                  refine lv_bipush (v := (9 : Int32)) hx hb dX9_crossed_74 (by decide) ?_
                  refine lv_iload_n hx hb dX9_crossed_76 rfl (lv_at hl 4 rfl) ?_
                  refine lv_iadd hx hb dX9_crossed_77 ?_
                  obtain ⟨g16, hM⟩ := gd_at hM
                  refine va_iald hx hb hK hI.1 13 0 (mg_13 am cI cZ st13) rfl (inB_vp g16) dX9_crossed_78 ?_
                  refine lv_icmp_ge (tgt := 105) hx hb dX9_crossed_79 (by decide) (fun c17 => ?_) (fun c17 => ?_)
                  · replace hM := if_t c17 hM
                    refine lv_iconst (v := (0 : Int32)) hx hb dX9_crossed_105 (by decide) ?_
                    refine lv_iadd hx hb dX9_crossed_106 ?_
                    refine lv_istore_n (lv' := [(1, .int (w6 + (0 : Int32))), (4, .int (1 : Int32)), (0, .ref (am 0)), (2, .int w3), (3, .int w7)]) hx hb dX9_crossed_107 rfl hl (by decide) rfl (fun ls hl => ?_)
                    refine lv_iinc (v := (w7 + (1 : Int32))) (lv' := [(3, .int (w7 + (1 : Int32))), (1, .int (w6 + (0 : Int32))), (4, .int (1 : Int32)), (0, .ref (am 0)), (2, .int w3)]) hx hb dX9_crossed_108 hl (k := 4) rfl rfl (by decide) rfl (fun ls hl => ?_)
                    refine lv_goto (tgt := 14) hx hb dX9_crossed_111 (by decide) ?_
                    have hz := Option.some.inj hM
                    subst hz
                    exact ih1 (w6 + (0 : Int32)) (w7 + (1 : Int32)) st13 _ _ _ hI (lv_sub hl [3, 1, 4, 0] rfl) hk1
                  · replace hM := if_f c17 hM
                    refine lv_aload_n hx hb dX9_crossed_82 rfl (lv_at hl 1 rfl) ?_
                    refine va_get (D := D) (ci := 9) (v := .ref (am 13)) (C := RX9) (T := TX9) (N := 43) hx hb hts hi_X9_crossed_X9 hown hK hI.1 0 (mg_0 am cI cZ st13) rfl 28 (by decide) f_1 (fun _ h9 => h9) rfl dX9_crossed_83 ?_
                    refine lv_iconst (v := (3 : Int32)) hx hb dX9_crossed_86 (by decide) ?_
                    refine lv_iload_n hx hb dX9_crossed_87 rfl (lv_at hl 3 rfl) ?_
                    refine lv_iadd hx hb dX9_crossed_88 ?_
                    obtain ⟨g18, hM⟩ := gd_at hM
                    refine va_iald hx hb hK hI.1 13 0 (mg_13 am cI cZ st13) rfl (inB_vp g18) dX9_crossed_89 ?_
                    refine lv_aload_n hx hb dX9_crossed_90 rfl (lv_at hl 1 rfl) ?_
                    refine va_get (D := D) (ci := 9) (v := .ref (am 13)) (C := RX9) (T := TX9) (N := 43) hx hb hts hi_X9_crossed_X9 hown hK hI.1 0 (mg_0 am cI cZ st13) rfl 28 (by decide) f_1 (fun _ h9 => h9) rfl dX9_crossed_91 ?_
                    refine lv_iconst (v := (3 : Int32)) hx hb dX9_crossed_94 (by decide) ?_
                    refine lv_iload_n hx hb dX9_crossed_95 rfl (lv_at hl 4 rfl) ?_
                    refine lv_iadd hx hb dX9_crossed_96 ?_
                    obtain ⟨g19, hM⟩ := gd_at hM
                    refine va_iald hx hb hK hI.1 13 0 (mg_13 am cI cZ st13) rfl (inB_vp g19) dX9_crossed_97 ?_
                    refine lv_icmp_le (tgt := 105) hx hb dX9_crossed_98 (by decide) (fun c20 => ?_) (fun c20 => ?_)
                    · replace hM := if_t c20 hM
                      refine lv_iconst (v := (0 : Int32)) hx hb dX9_crossed_105 (by decide) ?_
                      refine lv_iadd hx hb dX9_crossed_106 ?_
                      refine lv_istore_n (lv' := [(1, .int (w6 + (0 : Int32))), (4, .int (1 : Int32)), (0, .ref (am 0)), (2, .int w3), (3, .int w7)]) hx hb dX9_crossed_107 rfl hl (by decide) rfl (fun ls hl => ?_)
                      refine lv_iinc (v := (w7 + (1 : Int32))) (lv' := [(3, .int (w7 + (1 : Int32))), (1, .int (w6 + (0 : Int32))), (4, .int (1 : Int32)), (0, .ref (am 0)), (2, .int w3)]) hx hb dX9_crossed_108 hl (k := 4) rfl rfl (by decide) rfl (fun ls hl => ?_)
                      refine lv_goto (tgt := 14) hx hb dX9_crossed_111 (by decide) ?_
                      have hz := Option.some.inj hM
                      subst hz
                      exact ih1 (w6 + (0 : Int32)) (w7 + (1 : Int32)) st13 _ _ _ hI (lv_sub hl [3, 1, 4, 0] rfl) hk1
                    · replace hM := if_f c20 hM
                      refine lv_iconst (v := (1 : Int32)) hx hb dX9_crossed_101 (by decide) ?_
                      refine lv_goto (tgt := 106) hx hb dX9_crossed_102 (by decide) ?_
                      refine lv_iadd hx hb dX9_crossed_106 ?_
                      refine lv_istore_n (lv' := [(1, .int (w6 + (1 : Int32))), (4, .int (1 : Int32)), (0, .ref (am 0)), (2, .int w3), (3, .int w7)]) hx hb dX9_crossed_107 rfl hl (by decide) rfl (fun ls hl => ?_)
                      refine lv_iinc (v := (w7 + (1 : Int32))) (lv' := [(3, .int (w7 + (1 : Int32))), (1, .int (w6 + (1 : Int32))), (4, .int (1 : Int32)), (0, .ref (am 0)), (2, .int w3)]) hx hb dX9_crossed_108 hl (k := 4) rfl rfl (by decide) rfl (fun ls hl => ?_)
                      refine lv_goto (tgt := 14) hx hb dX9_crossed_111 (by decide) ?_
                      have hz := Option.some.inj hM
                      subst hz
                      exact ih1 (w6 + (1 : Int32)) (w7 + (1 : Int32)) st13 _ _ _ hI (lv_sub hl [3, 1, 4, 0] rfl) hk1
        exact lp1 N w2 (0 : Int32) st1 _ _ _ hI (lv_sub hl [1, 2, 3, 0] rfl) hM
  exact lp0 N (0 : Int32) (0 : Int32) st _ _ _ hI (lv_sub hl [2, 1, 0] rfl) hM
set_option maxRecDepth 20000 in
theorem hi_X9_now_X9 : ∀ w ∈ wsX90, w ∈ wsX9_now := by decide +kernel
set_option maxHeartbeats 4000000 in
set_option maxRecDepth 100000 in
theorem jw_X9_now {l : Launch} (D : va_G) (am : Nat → Nat) (cI cZ : ClassId) (hj : aJ am 24) (N : Nat) {x1 : Int32} {st stZ : PS} {rZ : Int32} (hM : jm_X9_now N x1 st = some (rZ, stZ)) : Met l yX9_now wsX9_now ({ frames := 5, cells := 0, slots := 0, locals := 113 }) (va_Pc [.ref (am 0), .int x1] (JH D (mW am cI cZ) (mTy cI cZ) st)) (JQ D (aA am 24) (mW am cI cZ) (mTy cI cZ) (some (.int rZ)) stZ) 0 0 (aA am 24) := by
  refine jStart (cc := cX9_now) (maxL := 2) (ret := (some .int)) [.ref (am 0), .int x1] (by decide) rfl (Nat.le_of_ble_eq_true rfl) (fun p e s m below meth c ls hx hb hr hlocks hts hown hml hK hI hl => ?_)
  have hown : s.vm.findClass RX9 = some m.cls := hown
  replace hl : lv_has ls 2 [(0, .ref (am 0)), (1, .int x1)] := hl
  generalize hAV : ([.ref (am 0), .int x1] : List Value).toArray = AV at hts ⊢
  have f_0 := hts (.fieldLink RX9 46 "PuppetBarModel" "now" "[I") (by decide +kernel)
  have f_1 := hts (.constant RX9 214 (-1000000)) (by decide +kernel)
  unfold jm_X9_now at hM
  refine lv_iload_n hx hb dX9_now_0 rfl (lv_at hl 1 rfl) ?_
  by_cases c1 : x1 = (0 : Int32)
  · replace hM := if_t c1 hM
    refine lv_tableIn (off := 47) (tgt := 48) hx hb dX9_now_1 (by rw [c1]; decide) (by rw [c1]; decide) (by rw [c1]; decide) (by decide) ?_
    refine lv_aload_n hx hb dX9_now_48 rfl (lv_at hl 0 rfl) ?_
    refine va_get (D := D) (ci := 9) (v := .ref (am 13)) (C := RX9) (T := TX9) (N := 43) hx hb hts hi_X9_now_X9 hown hK hI.1 0 (mg_0 am cI cZ st) rfl 28 (by decide) f_0 (fun _ h9 => h9) rfl dX9_now_49 ?_
    refine lv_iconst (v := (0 : Int32)) hx hb dX9_now_52 (by decide) ?_
    refine va_iald hx hb hK hI.1 13 0 (mg_13 am cI cZ st) rfl (inB_vp rfl) dX9_now_53 ?_
    refine W.eq (g2 := F0 m 54 ls [.int (st.1 13 0)]) rfl ?_
    have hz := Option.some.inj hM
    exact W.iret hx hb hr (fun t ht hW => jq_i hK hI hz ht hW) hI.2.2.2 dX9_now_54
  · replace hM := if_f c1 hM
    by_cases c2 : x1 = (1 : Int32)
    · replace hM := if_t c2 hM
      refine lv_tableIn (off := 54) (tgt := 55) hx hb dX9_now_1 (by rw [c2]; decide) (by rw [c2]; decide) (by rw [c2]; decide) (by decide) ?_
      refine lv_aload_n hx hb dX9_now_55 rfl (lv_at hl 0 rfl) ?_
      refine va_get (D := D) (ci := 9) (v := .ref (am 13)) (C := RX9) (T := TX9) (N := 43) hx hb hts hi_X9_now_X9 hown hK hI.1 0 (mg_0 am cI cZ st) rfl 28 (by decide) f_0 (fun _ h9 => h9) rfl dX9_now_56 ?_
      refine lv_iconst (v := (1 : Int32)) hx hb dX9_now_59 (by decide) ?_
      refine va_iald hx hb hK hI.1 13 0 (mg_13 am cI cZ st) rfl (inB_vp rfl) dX9_now_60 ?_
      refine W.eq (g2 := F0 m 61 ls [.int (st.1 13 1)]) rfl ?_
      have hz := Option.some.inj hM
      exact W.iret hx hb hr (fun t ht hW => jq_i hK hI hz ht hW) hI.2.2.2 dX9_now_61
    · replace hM := if_f c2 hM
      by_cases c3 : x1 = (2 : Int32)
      · replace hM := if_t c3 hM
        refine lv_tableIn (off := 61) (tgt := 62) hx hb dX9_now_1 (by rw [c3]; decide) (by rw [c3]; decide) (by rw [c3]; decide) (by decide) ?_
        refine lv_aload_n hx hb dX9_now_62 rfl (lv_at hl 0 rfl) ?_
        refine va_get (D := D) (ci := 9) (v := .ref (am 13)) (C := RX9) (T := TX9) (N := 43) hx hb hts hi_X9_now_X9 hown hK hI.1 0 (mg_0 am cI cZ st) rfl 28 (by decide) f_0 (fun _ h9 => h9) rfl dX9_now_63 ?_
        refine lv_iconst (v := (2 : Int32)) hx hb dX9_now_66 (by decide) ?_
        refine va_iald hx hb hK hI.1 13 0 (mg_13 am cI cZ st) rfl (inB_vp rfl) dX9_now_67 ?_
        refine W.eq (g2 := F0 m 68 ls [.int (st.1 13 2)]) rfl ?_
        have hz := Option.some.inj hM
        exact W.iret hx hb hr (fun t ht hW => jq_i hK hI hz ht hW) hI.2.2.2 dX9_now_68
      · replace hM := if_f c3 hM
        by_cases c4 : x1 = (3 : Int32)
        · replace hM := if_t c4 hM
          refine lv_tableIn (off := 68) (tgt := 69) hx hb dX9_now_1 (by rw [c4]; decide) (by rw [c4]; decide) (by rw [c4]; decide) (by decide) ?_
          refine lv_aload_n hx hb dX9_now_69 rfl (lv_at hl 0 rfl) ?_
          refine lv_aload_n hx hb dX9_now_70 rfl (lv_at hl 0 rfl) ?_
          refine va_get (D := D) (ci := 9) (v := .ref (am 13)) (C := RX9) (T := TX9) (N := 43) hx hb hts hi_X9_now_X9 hown hK hI.1 0 (mg_0 am cI cZ st) rfl 28 (by decide) f_0 (fun _ h9 => h9) rfl dX9_now_71 ?_
          obtain ⟨v5, st6, hqv5, hM⟩ := bd_at hM
          refine jcallV (C := RX9) (As := [.ref (am 13)]) (rest := []) ⟨hx, hb, hml, hown, hts⟩ (jw_X9_ground D am cI cZ hj N (show mk_Of 13 by decide) hqv5) (cwV 1 hts gX9_now_X9_ground rfl rfl rfl yd_X9_ground ⟨Nat.le_of_ble_eq_true rfl, Nat.le_of_ble_eq_true rfl⟩) hK hI 0 (mg_0 am cI cZ st) rfl rfl hl.1 rfl (Nat.le_of_ble_eq_true rfl) dX9_now_74 (fun H locs hI => ?_)
          refine W.eq (g2 := F0 m 77 ls [.int v5]) rfl ?_
          have hz := Option.some.inj hM
          exact W.iret hx hb hr (fun t ht hW => jq_i hK hI hz ht hW) hI.2.2.2 dX9_now_77
        · replace hM := if_f c4 hM
          by_cases c7 : x1 = (4 : Int32)
          · replace hM := if_t c7 hM
            refine lv_tableIn (off := 77) (tgt := 78) hx hb dX9_now_1 (by rw [c7]; decide) (by rw [c7]; decide) (by rw [c7]; decide) (by decide) ?_
            refine lv_aload_n hx hb dX9_now_78 rfl (lv_at hl 0 rfl) ?_
            obtain ⟨v8, st9, hqv8, hM⟩ := bd_at hM
            refine jcallV (C := RX9) (As := []) (rest := []) ⟨hx, hb, hml, hown, hts⟩ (jw_X9_taut D am cI cZ hj N hqv8) (cwV 0 hts gX9_now_X9_taut rfl rfl rfl yd_X9_taut ⟨Nat.le_of_ble_eq_true rfl, Nat.le_of_ble_eq_true rfl⟩) hK hI 0 (mg_0 am cI cZ st) rfl rfl hl.1 rfl (Nat.le_of_ble_eq_true rfl) dX9_now_79 (fun H locs hI => ?_)
            refine W.eq (g2 := F0 m 82 ls [.int v8]) rfl ?_
            have hz := Option.some.inj hM
            exact W.iret hx hb hr (fun t ht hW => jq_i hK hI hz ht hW) hI.2.2.2 dX9_now_82
          · replace hM := if_f c7 hM
            by_cases c10 : x1 = (5 : Int32)
            · replace hM := if_t c10 hM
              refine lv_tableIn (off := 82) (tgt := 83) hx hb dX9_now_1 (by rw [c10]; decide) (by rw [c10]; decide) (by rw [c10]; decide) (by decide) ?_
              refine lv_aload_n hx hb dX9_now_83 rfl (lv_at hl 0 rfl) ?_
              obtain ⟨v11, st12, hqv11, hM⟩ := bd_at hM
              refine jcallV (C := RX9) (As := []) (rest := []) ⟨hx, hb, hml, hown, hts⟩ (jw_X9_heights D am cI cZ hj N hqv11) (cwV 0 hts gX9_now_X9_heights rfl rfl rfl yd_X9_heights ⟨Nat.le_of_ble_eq_true rfl, Nat.le_of_ble_eq_true rfl⟩) hK hI 0 (mg_0 am cI cZ st) rfl rfl hl.1 rfl (Nat.le_of_ble_eq_true rfl) dX9_now_84 (fun H locs hI => ?_)
              refine W.eq (g2 := F0 m 87 ls [.int v11]) rfl ?_
              have hz := Option.some.inj hM
              exact W.iret hx hb hr (fun t ht hW => jq_i hK hI hz ht hW) hI.2.2.2 dX9_now_87
            · replace hM := if_f c10 hM
              by_cases c13 : x1 = (6 : Int32)
              · replace hM := if_t c13 hM
                refine lv_tableIn (off := 87) (tgt := 88) hx hb dX9_now_1 (by rw [c13]; decide) (by rw [c13]; decide) (by rw [c13]; decide) (by decide) ?_
                refine lv_aload_n hx hb dX9_now_88 rfl (lv_at hl 0 rfl) ?_
                obtain ⟨v14, st15, hqv14, hM⟩ := bd_at hM
                refine jcallV (C := RX9) (As := []) (rest := []) ⟨hx, hb, hml, hown, hts⟩ (jw_X9_need D am cI cZ hj N hqv14) (cwV 0 hts gX9_now_X9_need rfl rfl rfl yd_X9_need ⟨Nat.le_of_ble_eq_true rfl, Nat.le_of_ble_eq_true rfl⟩) hK hI 0 (mg_0 am cI cZ st) rfl rfl hl.1 rfl (Nat.le_of_ble_eq_true rfl) dX9_now_89 (fun H locs hI => ?_)
                refine W.eq (g2 := F0 m 92 ls [.int v14]) rfl ?_
                have hz := Option.some.inj hM
                exact W.iret hx hb hr (fun t ht hW => jq_i hK hI hz ht hW) hI.2.2.2 dX9_now_92
              · replace hM := if_f c13 hM
                by_cases c16 : x1 = (7 : Int32)
                · replace hM := if_t c16 hM
                  refine lv_tableIn (off := 92) (tgt := 93) hx hb dX9_now_1 (by rw [c16]; decide) (by rw [c16]; decide) (by rw [c16]; decide) (by decide) ?_
                  refine lv_aload_n hx hb dX9_now_93 rfl (lv_at hl 0 rfl) ?_
                  obtain ⟨v17, st18, hqv17, hM⟩ := bd_at hM
                  refine jcallV (C := RX9) (As := []) (rest := []) ⟨hx, hb, hml, hown, hts⟩ (jw_X9_crossed D am cI cZ hj N hqv17) (cwV 0 hts gX9_now_X9_crossed rfl rfl rfl yd_X9_crossed ⟨Nat.le_of_ble_eq_true rfl, Nat.le_of_ble_eq_true rfl⟩) hK hI 0 (mg_0 am cI cZ st) rfl rfl hl.1 rfl (Nat.le_of_ble_eq_true rfl) dX9_now_94 (fun H locs hI => ?_)
                  refine W.eq (g2 := F0 m 97 ls [.int v17]) rfl ?_
                  have hz := Option.some.inj hM
                  exact W.iret hx hb hr (fun t ht hW => jq_i hK hI hz ht hW) hI.2.2.2 dX9_now_97
                · replace hM := if_f c16 hM
                  refine lv_tableOut (tgt := 98) hx hb dX9_now_1 (by have nc1 : ¬ (0 : Int) = (x1).toInt := ne_ti c1; have nc2 : ¬ (1 : Int) = (x1).toInt := ne_ti c2; have nc3 : ¬ (2 : Int) = (x1).toInt := ne_ti c3; have nc4 : ¬ (3 : Int) = (x1).toInt := ne_ti c4; have nc7 : ¬ (4 : Int) = (x1).toInt := ne_ti c7; have nc10 : ¬ (5 : Int) = (x1).toInt := ne_ti c10; have nc13 : ¬ (6 : Int) = (x1).toInt := ne_ti c13; have nc16 : ¬ (7 : Int) = (x1).toInt := ne_ti c16; omega) (by decide) ?_
                  refine lv_ldc (v := (-1000000 : Int32)) hx hb hown f_1 dX9_now_98 ?_
                  have hz := Option.some.inj hM
                  exact W.iret hx hb hr (fun t ht hW => jq_i hK hI hz ht hW) hI.2.2.2 dX9_now_100
set_option maxRecDepth 20000 in
theorem hi_X9_reach_X9 : ∀ w ∈ wsX90, w ∈ wsX9_reach := by decide +kernel
set_option maxHeartbeats 4000000 in
set_option maxRecDepth 100000 in
theorem jw_X9_reach {l : Launch} (D : va_G) (am : Nat → Nat) (cI cZ : ClassId) (hj : aJ am 24) (N : Nat) {x1 : Int32} {x2 : Int32} {st stZ : PS} {rZ : Int32} (hM : jm_X9_reach N x1 x2 st = some (rZ, stZ)) : Met l yX9_reach wsX9_reach ({ frames := 4, cells := 0, slots := 0, locals := 91 }) (va_Pc [.ref (am 0), .int x1, .int x2] (JH D (mW am cI cZ) (mTy cI cZ) st)) (JQ D (aA am 24) (mW am cI cZ) (mTy cI cZ) (some (.int rZ)) stZ) 0 0 (aA am 24) := by
  refine jStart (cc := cX9_reach) (maxL := 9) (ret := (some .int)) [.ref (am 0), .int x1, .int x2] (by decide) rfl (Nat.le_of_ble_eq_true rfl) (fun p e s m below meth c ls hx hb hr hlocks hts hown hml hK hI hl => ?_)
  have hown : s.vm.findClass RX9 = some m.cls := hown
  replace hl : lv_has ls 9 [(0, .ref (am 0)), (1, .int x1), (2, .int x2)] := hl
  generalize hAV : ([.ref (am 0), .int x1, .int x2] : List Value).toArray = AV at hts ⊢
  have f_0 := hts (.fieldLink RX9 169 "PuppetBarModel" "n" "I") (by decide +kernel)
  have f_1 := hts (.constant RX9 214 (-1000000)) (by decide +kernel)
  have f_2 := hts (.constant RX9 262 (1000000)) (by decide +kernel)
  have f_3 := hts (.fieldLink RX9 46 "PuppetBarModel" "now" "[I") (by decide +kernel)
  have f_4 := hts (.fieldLink RX9 49 "PuppetBarModel" "tried" "[I") (by decide +kernel)
  unfold jm_X9_reach at hM
  refine lv_iload_n hx hb dX9_reach_0 rfl (lv_at hl 1 rfl) ?_
  refine lv_iconst (v := (0 : Int32)) hx hb dX9_reach_1 (by decide) ?_
  refine lv_iconst (v := (1 : Int32)) hx hb dX9_reach_2 (by decide) ?_
  refine lv_aload_n hx hb dX9_reach_3 rfl (lv_at hl 0 rfl) ?_
  refine va_get (D := D) (ci := 9) (v := .int (st.1 0 18)) (C := RX9) (T := TX9) (N := 43) hx hb hts hi_X9_reach_X9 hown hK hI.1 0 (mg_0 am cI cZ st) rfl 18 (by decide) f_0 (fun _ h9 => h9) rfl dX9_reach_4 ?_
  refine lv_ishl hx hb dX9_reach_7 ?_
  refine lv_iconst (v := (1 : Int32)) hx hb dX9_reach_8 (by decide) ?_
  refine lv_isub hx hb dX9_reach_9 ?_
  obtain ⟨v1, st2, hqv1, hM⟩ := bd_at hM
  refine jcallS (As := [.int x1, .int (0 : Int32), .int (((1 : Int32) <<< ((st.1 0 18) &&& 31)) - (1 : Int32))]) (rest := []) ⟨hx, hb, hml, hown, hts⟩ (jw_X9_in D am cI cZ hj N hqv1) (va_cwS 3 hts gX9_reach_X9_in rfl rfl rfl yd_X9_in ⟨Nat.le_of_ble_eq_true rfl, Nat.le_of_ble_eq_true rfl⟩) hK hI rfl hl.1 rfl (Nat.le_of_ble_eq_true rfl) dX9_reach_10 (fun H locs hI => ?_)
  refine W.eq (g2 := F0 m 13 ls [.int v1]) rfl ?_
  refine lv_if_eq (tgt := 25) hx hb dX9_reach_13 (by decide) (fun c3 => ?_) (fun c3 => ?_)
  · replace hM := if_t c3 hM
    refine lv_ldc (v := (-1000000 : Int32)) hx hb hown f_1 dX9_reach_25 ?_
    have hz := Option.some.inj hM
    exact W.iret hx hb hr (fun t ht hW => jq_i hK hI hz ht hW) hI.2.2.2 dX9_reach_27
  · replace hM := if_f c3 hM
    refine lv_iload_n hx hb dX9_reach_16 rfl (lv_at hl 2 rfl) ?_
    refine lv_iconst (v := (0 : Int32)) hx hb dX9_reach_17 (by decide) ?_
    refine lv_iconst (v := (2 : Int32)) hx hb dX9_reach_18 (by decide) ?_
    obtain ⟨v4, st5, hqv4, hM⟩ := bd_at hM
    refine jcallS (As := [.int x2, .int (0 : Int32), .int (2 : Int32)]) (rest := []) ⟨hx, hb, hml, hown, hts⟩ (jw_X9_in D am cI cZ hj N hqv4) (va_cwS 3 hts gX9_reach_X9_in rfl rfl rfl yd_X9_in ⟨Nat.le_of_ble_eq_true rfl, Nat.le_of_ble_eq_true rfl⟩) hK hI rfl hl.1 rfl (Nat.le_of_ble_eq_true rfl) dX9_reach_19 (fun H locs hI => ?_)
    refine W.eq (g2 := F0 m 22 ls [.int v4]) rfl ?_
    refine lv_if_ne (tgt := 28) hx hb dX9_reach_22 (by decide) (fun c6 => ?_) (fun c6 => ?_)
    · replace hM := if_f c6 hM
      refine lv_aload_n hx hb dX9_reach_28 rfl (lv_at hl 0 rfl) ?_
      obtain ⟨v7, st8, hqv7, hM⟩ := bd_at hM
      refine jcallV (C := RX9) (As := []) (rest := []) ⟨hx, hb, hml, hown, hts⟩ (jw_X9_copyNow D am cI cZ hj N hqv7) (cwV 0 hts gX9_reach_X9_copyNow rfl rfl rfl yd_X9_copyNow ⟨Nat.le_of_ble_eq_true rfl, Nat.le_of_ble_eq_true rfl⟩) hK hI 0 (mg_0 am cI cZ st5) rfl rfl hl.1 rfl (Nat.le_of_ble_eq_true rfl) dX9_reach_29 (fun H locs hI => ?_)
      refine W.eq (g2 := F0 m 32 ls []) rfl ?_
      refine lv_ldcw (v := (1000000 : Int32)) hx hb hown f_2 dX9_reach_32 ?_
      refine lv_istore_n (lv' := [(3, .int (1000000 : Int32)), (0, .ref (am 0)), (1, .int x1), (2, .int x2)]) hx hb dX9_reach_35 rfl hl (by decide) rfl (fun ls hl => ?_)
      refine lv_bipush (v := (-9 : Int32)) hx hb dX9_reach_36 (by decide) ?_
      refine lv_istore (lv' := [(4, .int (-9 : Int32)), (3, .int (1000000 : Int32)), (0, .ref (am 0)), (1, .int x1), (2, .int x2)]) hx hb dX9_reach_38 hl (by decide) rfl (fun ls hl => ?_)
      refine lv_bipush (v := (-9 : Int32)) hx hb dX9_reach_40 (by decide) ?_
      refine lv_istore (lv' := [(5, .int (-9 : Int32)), (4, .int (-9 : Int32)), (3, .int (1000000 : Int32)), (0, .ref (am 0)), (1, .int x1), (2, .int x2)]) hx hb dX9_reach_42 hl (by decide) rfl (fun ls hl => ?_)
      refine lv_iconst (v := (0 : Int32)) hx hb dX9_reach_44 (by decide) ?_
      refine lv_istore (lv' := [(6, .int (0 : Int32)), (5, .int (-9 : Int32)), (4, .int (-9 : Int32)), (3, .int (1000000 : Int32)), (0, .ref (am 0)), (1, .int x1), (2, .int x2)]) hx hb dX9_reach_45 hl (by decide) rfl (fun ls hl => ?_)
      have lp0 : ∀ (n : Nat) (w10 : Int32) (w11 : Int32) (w12 : Int32) (w13 : Int32) (st9 : PS) (H : Heap) (locs : List Loc) (ls : Array Slot), JI D (aA am 24) (mW am cI cZ) s.heap st9 H locs → lv_has ls 9 [(0, .ref (am 0)), (1, .int x1), (2, .int x2), (3, .int w10), (4, .int w11), (5, .int w12), (6, .int w13)] → iter (fun q => jm_X9_reach_L47 N x1 x2 q.1 q.2.1 q.2.2.1 q.2.2.2.1 q.2.2.2.2) n (w10, w11, w12, w13, st9) = some (rZ, stZ) → W p l e (headSpec wsX9_reach { frames := 4, cells := 0, slots := 0, locals := 91 }).room s m AV below meth c H locs 0 0 (MQ below (JQ D (aA am 24) (mW am cI cZ) (mTy cI cZ) (some (.int rZ)) stZ) AV s 0 0 (aA am 24)) (F0 m 47 ls []) := by
        intro n
        induction n with
        | zero =>
          intro _ _ _ _ _ _ _ _ _ _ hM
          exact absurd hM (fun h => iter_zero h)
        | succ n ih0 =>
          intro w10 w11 w12 w13 st9 H locs ls hI hl hM
          obtain ⟨z0, hM, hk0⟩ := iter_succ hM
          replace hM : jm_X9_reach_L47 N x1 x2 w10 w11 w12 w13 st9 = some z0 := hM
          unfold jm_X9_reach_L47 at hM
          refine lv_iload hx hb dX9_reach_47 (lv_at hl 6 rfl) ?_
          refine lv_bipush (v := (40 : Int32)) hx hb dX9_reach_49 (by decide) ?_
          refine lv_icmp_gt (tgt := 146) hx hb dX9_reach_51 (by decide) (fun c14 => ?_) (fun c14 => ?_)
          · replace hM := if_t c14 hM
            refine lv_iload_n hx hb dX9_reach_146 rfl (lv_at hl 3 rfl) ?_
            refine lv_ldcw (v := (1000000 : Int32)) hx hb hown f_2 dX9_reach_147 ?_
            refine lv_icmp_ne (tgt := 158) hx hb dX9_reach_150 (by decide) (fun c15 => ?_) (fun c15 => ?_)
            · replace hM := if_f c15 hM
              refine lv_iload_n hx hb dX9_reach_158 rfl (lv_at hl 2 rfl) ?_
              refine lv_if_ne (tgt := 166) hx hb dX9_reach_159 (by decide) (fun c16 => ?_) (fun c16 => ?_)
              · replace hM := if_f c16 hM
                refine lv_iload_n hx hb dX9_reach_166 rfl (lv_at hl 2 rfl) ?_
                refine lv_iconst (v := (1 : Int32)) hx hb dX9_reach_167 (by decide) ?_
                refine lv_icmp_ne (tgt := 176) hx hb dX9_reach_168 (by decide) (fun c17 => ?_) (fun c17 => ?_)
                · replace hM := if_f c17 hM
                  refine lv_iload hx hb dX9_reach_176 (lv_at hl 5 rfl) ?_
                  have hz := Option.some.inj hM
                  subst hz
                  have hz := kn_r hk0
                  exact W.iret hx hb hr (fun t ht hW => jq_i hK hI hz ht hW) hI.2.2.2 dX9_reach_178
                · replace hM := if_t c17 hM
                  refine lv_iload hx hb dX9_reach_171 (lv_at hl 4 rfl) ?_
                  refine lv_goto (tgt := 178) hx hb dX9_reach_173 (by decide) ?_
                  have hz := Option.some.inj hM
                  subst hz
                  have hz := kn_r hk0
                  exact W.iret hx hb hr (fun t ht hW => jq_i hK hI hz ht hW) hI.2.2.2 dX9_reach_178
              · replace hM := if_t c16 hM
                refine lv_iload_n hx hb dX9_reach_162 rfl (lv_at hl 3 rfl) ?_
                refine lv_goto (tgt := 178) hx hb dX9_reach_163 (by decide) ?_
                have hz := Option.some.inj hM
                subst hz
                have hz := kn_r hk0
                exact W.iret hx hb hr (fun t ht hW => jq_i hK hI hz ht hW) hI.2.2.2 dX9_reach_178
            · replace hM := if_t c15 hM
              refine lv_bipush (v := (-9 : Int32)) hx hb dX9_reach_153 (by decide) ?_
              refine lv_goto (tgt := 178) hx hb dX9_reach_155 (by decide) ?_
              have hz := Option.some.inj hM
              subst hz
              have hz := kn_r hk0
              exact W.iret hx hb hr (fun t ht hW => jq_i hK hI hz ht hW) hI.2.2.2 dX9_reach_178
          · replace hM := if_f c14 hM
            refine lv_bipush (v := (-3 : Int32)) hx hb dX9_reach_54 (by decide) ?_
            refine lv_istore (lv' := [(7, .int (-3 : Int32)), (0, .ref (am 0)), (1, .int x1), (2, .int x2), (3, .int w10), (4, .int w11), (5, .int w12), (6, .int w13)]) hx hb dX9_reach_56 hl (by decide) rfl (fun ls hl => ?_)
            have lp1 : ∀ (n : Nat) (w19 : Int32) (w20 : Int32) (w21 : Int32) (w22 : Int32) (st18 : PS) (H : Heap) (locs : List Loc) (ls : Array Slot), JI D (aA am 24) (mW am cI cZ) s.heap st18 H locs → lv_has ls 9 [(0, .ref (am 0)), (1, .int x1), (2, .int x2), (3, .int w19), (4, .int w20), (5, .int w21), (6, .int w13), (7, .int w22)] → iter (fun q => jm_X9_reach_L58 N x1 w13 q.1 q.2.1 q.2.2.1 q.2.2.2.1 q.2.2.2.2) n (w19, w20, w21, w22, st18) = some z0 → W p l e (headSpec wsX9_reach { frames := 4, cells := 0, slots := 0, locals := 91 }).room s m AV below meth c H locs 0 0 (MQ below (JQ D (aA am 24) (mW am cI cZ) (mTy cI cZ) (some (.int rZ)) stZ) AV s 0 0 (aA am 24)) (F0 m 58 ls []) := by
              intro n
              induction n with
              | zero =>
                intro _ _ _ _ _ _ _ _ _ _ hM
                exact absurd hM (fun h => iter_zero h)
              | succ n ih1 =>
                intro w19 w20 w21 w22 st18 H locs ls hI hl hM
                obtain ⟨z1, hM, hk1⟩ := iter_succ hM
                replace hM : jm_X9_reach_L58 N x1 w13 w19 w20 w21 w22 st18 = some z1 := hM
                unfold jm_X9_reach_L58 at hM
                refine lv_iload hx hb dX9_reach_58 (lv_at hl 7 rfl) ?_
                refine lv_iconst (v := (4 : Int32)) hx hb dX9_reach_60 (by decide) ?_
                refine lv_icmp_ge (tgt := 140) hx hb dX9_reach_61 (by decide) (fun c23 => ?_) (fun c23 => ?_)
                · replace hM := if_t c23 hM
                  refine lv_iinc (v := (w13 + (1 : Int32))) (lv' := [(6, .int (w13 + (1 : Int32))), (0, .ref (am 0)), (1, .int x1), (2, .int x2), (3, .int w19), (4, .int w20), (5, .int w21), (7, .int w22)]) hx hb dX9_reach_140 hl (k := 6) rfl rfl (by decide) rfl (fun ls hl => ?_)
                  refine lv_goto (tgt := 47) hx hb dX9_reach_143 (by decide) ?_
                  have hz := Option.some.inj hM
                  subst hz
                  have hz := kn_r hk1
                  subst hz
                  exact ih0 w19 w20 w21 (w13 + (1 : Int32)) st18 _ _ _ hI (lv_sub hl [1, 2, 3, 4, 5, 6, 0] rfl) hk0
                · replace hM := if_f c23 hM
                  refine lv_iload hx hb dX9_reach_64 (lv_at hl 6 rfl) ?_
                  refine lv_aload_n hx hb dX9_reach_66 rfl (lv_at hl 0 rfl) ?_
                  refine va_get (D := D) (ci := 9) (v := .ref (am 13)) (C := RX9) (T := TX9) (N := 43) hx hb hts hi_X9_reach_X9 hown hK hI.1 0 (mg_0 am cI cZ st18) rfl 28 (by decide) f_3 (fun _ h9 => h9) rfl dX9_reach_67 ?_
                  refine lv_iconst (v := (0 : Int32)) hx hb dX9_reach_70 (by decide) ?_
                  refine va_iald hx hb hK hI.1 13 0 (mg_13 am cI cZ st18) rfl (inB_vp rfl) dX9_reach_71 ?_
                  refine W.eq (g2 := F0 m 72 ls [.int (st18.1 13 0), .int w13]) rfl ?_
                  obtain ⟨v24, st25, hqv24, hM⟩ := bd_at hM
                  refine jcallS (As := [.int w13, .int (st18.1 13 0)]) (rest := []) ⟨hx, hb, hml, hown, hts⟩ (jw_X9_apart D am cI cZ hj N hqv24) (va_cwS 2 hts gX9_reach_X9_apart rfl rfl rfl yd_X9_apart ⟨Nat.le_of_ble_eq_true rfl, Nat.le_of_ble_eq_true rfl⟩) hK hI rfl hl.1 rfl (Nat.le_of_ble_eq_true rfl) dX9_reach_72 (fun H locs hI => ?_)
                  refine W.eq (g2 := F0 m 75 ls [.int v24]) rfl ?_
                  refine lv_iload hx hb dX9_reach_75 (lv_at hl 7 rfl) ?_
                  refine lv_aload_n hx hb dX9_reach_77 rfl (lv_at hl 0 rfl) ?_
                  refine va_get (D := D) (ci := 9) (v := .ref (am 13)) (C := RX9) (T := TX9) (N := 43) hx hb hts hi_X9_reach_X9 hown hK hI.1 0 (mg_0 am cI cZ st25) rfl 28 (by decide) f_3 (fun _ h9 => h9) rfl dX9_reach_78 ?_
                  refine lv_iconst (v := (1 : Int32)) hx hb dX9_reach_81 (by decide) ?_
                  refine va_iald hx hb hK hI.1 13 0 (mg_13 am cI cZ st25) rfl (inB_vp rfl) dX9_reach_82 ?_
                  refine W.eq (g2 := F0 m 83 ls [.int (st25.1 13 1), .int w22, .int v24]) rfl ?_
                  obtain ⟨v26, st27, hqv26, hM⟩ := bd_at hM
                  refine jcallS (As := [.int w22, .int (st25.1 13 1)]) (rest := [.int v24]) ⟨hx, hb, hml, hown, hts⟩ (jw_X9_apart D am cI cZ hj N hqv26) (va_cwS 2 hts gX9_reach_X9_apart rfl rfl rfl yd_X9_apart ⟨Nat.le_of_ble_eq_true rfl, Nat.le_of_ble_eq_true rfl⟩) hK hI rfl hl.1 rfl (Nat.le_of_ble_eq_true rfl) dX9_reach_83 (fun H locs hI => ?_)
                  refine W.eq (g2 := F0 m 86 ls [.int v26, .int v24]) rfl ?_
                  refine lv_iadd hx hb dX9_reach_86 ?_
                  refine lv_istore (lv' := [(8, .int (v24 + v26)), (0, .ref (am 0)), (1, .int x1), (2, .int x2), (3, .int w19), (4, .int w20), (5, .int w21), (6, .int w13), (7, .int w22)]) hx hb dX9_reach_87 hl (by decide) rfl (fun ls hl => ?_)
                  refine lv_aload_n hx hb dX9_reach_89 rfl (lv_at hl 1 rfl) ?_
                  refine va_get (D := D) (ci := 9) (v := .ref (am 14)) (C := RX9) (T := TX9) (N := 43) hx hb hts hi_X9_reach_X9 hown hK hI.1 0 (mg_0 am cI cZ st27) rfl 29 (by decide) f_4 (fun _ h9 => h9) rfl dX9_reach_90 ?_
                  refine lv_iconst (v := (0 : Int32)) hx hb dX9_reach_93 (by decide) ?_
                  refine lv_iload hx hb dX9_reach_94 (lv_at hl 7 rfl) ?_
                  refine jiast (x := w13) (st2 := pU st27 14 0 (w13)) hx hb hK (mD hj) hI 14 0 (mg_14 am cI cZ st27) rfl (inB_vp rfl) (ms_14 am cI cZ st27 _) dX9_reach_96 (fun st28 est28 H locs hI => ?_)
                  replace hM := nm_at est28 hM
                  refine lv_aload_n hx hb dX9_reach_97 rfl (lv_at hl 1 rfl) ?_
                  refine va_get (D := D) (ci := 9) (v := .ref (am 14)) (C := RX9) (T := TX9) (N := 43) hx hb hts hi_X9_reach_X9 hown hK hI.1 0 (mg_0 am cI cZ st28) rfl 29 (by decide) f_4 (fun _ h9 => h9) rfl dX9_reach_98 ?_
                  refine lv_iconst (v := (1 : Int32)) hx hb dX9_reach_101 (by decide) ?_
                  refine lv_iload hx hb dX9_reach_102 (lv_at hl 8 rfl) ?_
                  refine jiast (x := w22) (st2 := pU st28 14 1 (w22)) hx hb hK (mD hj) hI 14 0 (mg_14 am cI cZ st28) rfl (inB_vp rfl) (ms_14 am cI cZ st28 _) dX9_reach_104 (fun st29 est29 H locs hI => ?_)
                  replace hM := nm_at est29 hM
                  refine lv_iload hx hb dX9_reach_105 (lv_at hl 0 rfl) ?_
                  refine lv_iload_n hx hb dX9_reach_107 rfl (lv_at hl 4 rfl) ?_
                  refine lv_icmp_ge (tgt := 134) hx hb dX9_reach_108 (by decide) (fun c30 => ?_) (fun c30 => ?_)
                  · replace hM := if_t c30 hM
                    refine lv_iinc (v := (w22 + (1 : Int32))) (lv' := [(7, .int (w22 + (1 : Int32))), (8, .int (v24 + v26)), (0, .ref (am 0)), (1, .int x1), (2, .int x2), (3, .int w19), (4, .int w20), (5, .int w21), (6, .int w13)]) hx hb dX9_reach_134 hl (k := 8) rfl rfl (by decide) rfl (fun ls hl => ?_)
                    refine lv_goto (tgt := 58) hx hb dX9_reach_137 (by decide) ?_
                    have hz := Option.some.inj hM
                    subst hz
                    exact ih1 w19 w20 w21 (w22 + (1 : Int32)) st29 _ _ _ hI (lv_sub hl [2, 3, 4, 5, 6, 7, 8, 0] rfl) hk1
                  · replace hM := if_f c30 hM
                    refine lv_aload_n hx hb dX9_reach_111 rfl (lv_at hl 1 rfl) ?_
                    refine lv_aload_n hx hb dX9_reach_112 rfl (lv_at hl 1 rfl) ?_
                    refine va_get (D := D) (ci := 9) (v := .ref (am 14)) (C := RX9) (T := TX9) (N := 43) hx hb hts hi_X9_reach_X9 hown hK hI.1 0 (mg_0 am cI cZ st29) rfl 29 (by decide) f_4 (fun _ h9 => h9) rfl dX9_reach_113 ?_
                    obtain ⟨v31, st32, hqv31, hM⟩ := bd_at hM
                    refine jcallV (C := RX9) (As := [.ref (am 14)]) (rest := []) ⟨hx, hb, hml, hown, hts⟩ (jw_X9_ground D am cI cZ hj N (show mk_Of 14 by decide) hqv31) (cwV 1 hts gX9_reach_X9_ground rfl rfl rfl yd_X9_ground ⟨Nat.le_of_ble_eq_true rfl, Nat.le_of_ble_eq_true rfl⟩) hK hI 0 (mg_0 am cI cZ st29) rfl rfl hl.1 rfl (Nat.le_of_ble_eq_true rfl) dX9_reach_116 (fun H locs hI => ?_)
                    refine W.eq (g2 := F0 m 119 ls [.int v31]) rfl ?_
                    refine lv_iload_n hx hb dX9_reach_119 rfl (lv_at hl 2 rfl) ?_
                    refine lv_icmp_ne (tgt := 134) hx hb dX9_reach_120 (by decide) (fun c33 => ?_) (fun c33 => ?_)
                    · replace hM := if_f c33 hM
                      refine lv_iinc (v := (w22 + (1 : Int32))) (lv' := [(7, .int (w22 + (1 : Int32))), (8, .int (v24 + v26)), (0, .ref (am 0)), (1, .int x1), (2, .int x2), (3, .int w19), (4, .int w20), (5, .int w21), (6, .int w13)]) hx hb dX9_reach_134 hl (k := 8) rfl rfl (by decide) rfl (fun ls hl => ?_)
                      refine lv_goto (tgt := 58) hx hb dX9_reach_137 (by decide) ?_
                      have hz := Option.some.inj hM
                      subst hz
                      exact ih1 w19 w20 w21 (w22 + (1 : Int32)) st32 _ _ _ hI (lv_sub hl [2, 3, 4, 5, 6, 7, 8, 0] rfl) hk1
                    · replace hM := if_t c33 hM
                      refine lv_iload hx hb dX9_reach_123 (lv_at hl 0 rfl) ?_
                      refine lv_istore_n (lv' := [(3, .int (v24 + v26)), (8, .int (v24 + v26)), (0, .ref (am 0)), (1, .int x1), (2, .int x2), (4, .int w20), (5, .int w21), (6, .int w13), (7, .int w22)]) hx hb dX9_reach_125 rfl hl (by decide) rfl (fun ls hl => ?_)
                      refine lv_iload hx hb dX9_reach_126 (lv_at hl 7 rfl) ?_
                      refine lv_istore (lv' := [(4, .int w13), (3, .int (v24 + v26)), (8, .int (v24 + v26)), (0, .ref (am 0)), (1, .int x1), (2, .int x2), (5, .int w21), (6, .int w13), (7, .int w22)]) hx hb dX9_reach_128 hl (by decide) rfl (fun ls hl => ?_)
                      refine lv_iload hx hb dX9_reach_130 (lv_at hl 8 rfl) ?_
                      refine lv_istore (lv' := [(5, .int w22), (4, .int w13), (3, .int (v24 + v26)), (8, .int (v24 + v26)), (0, .ref (am 0)), (1, .int x1), (2, .int x2), (6, .int w13), (7, .int w22)]) hx hb dX9_reach_132 hl (by decide) rfl (fun ls hl => ?_)
                      refine lv_iinc (v := (w22 + (1 : Int32))) (lv' := [(7, .int (w22 + (1 : Int32))), (5, .int w22), (4, .int w13), (3, .int (v24 + v26)), (8, .int (v24 + v26)), (0, .ref (am 0)), (1, .int x1), (2, .int x2), (6, .int w13)]) hx hb dX9_reach_134 hl (k := 8) rfl rfl (by decide) rfl (fun ls hl => ?_)
                      refine lv_goto (tgt := 58) hx hb dX9_reach_137 (by decide) ?_
                      have hz := Option.some.inj hM
                      subst hz
                      exact ih1 (v24 + v26) w13 w22 (w22 + (1 : Int32)) st32 _ _ _ hI (lv_sub hl [5, 6, 7, 3, 2, 1, 8, 0] rfl) hk1
            exact lp1 N w10 w11 w12 (-3 : Int32) st9 _ _ _ hI (lv_sub hl [1, 2, 3, 4, 5, 6, 7, 0] rfl) hM
      exact lp0 N (1000000 : Int32) (-9 : Int32) (-9 : Int32) (0 : Int32) st8 _ _ _ hI (lv_sub hl [4, 5, 6, 3, 2, 1, 0] rfl) hM
    · replace hM := if_t c6 hM
      refine lv_ldc (v := (-1000000 : Int32)) hx hb hown f_1 dX9_reach_25 ?_
      have hz := Option.some.inj hM
      exact W.iret hx hb hr (fun t ht hW => jq_i hK hI hz ht hW) hI.2.2.2 dX9_reach_27
set_option maxRecDepth 20000 in
theorem hi_X9_fell_X9 : ∀ w ∈ wsX90, w ∈ wsX9_fell := by decide +kernel
set_option maxHeartbeats 4000000 in
set_option maxRecDepth 100000 in
theorem jw_X9_fell {l : Launch} (D : va_G) (am : Nat → Nat) (cI cZ : ClassId) (hj : aJ am 24) (N : Nat) {x1 : Int32} {st stZ : PS} {rZ : Int32} (hM : jm_X9_fell N x1 st = some (rZ, stZ)) : Met l yX9_fell wsX9_fell ({ frames := 3, cells := 0, slots := 0, locals := 68 }) (va_Pc [.ref (am 0), .int x1] (JH D (mW am cI cZ) (mTy cI cZ) st)) (JQ D (aA am 24) (mW am cI cZ) (mTy cI cZ) (some (.int rZ)) stZ) 0 0 (aA am 24) := by
  refine jStart (cc := cX9_fell) (maxL := 5) (ret := (some .int)) [.ref (am 0), .int x1] (by decide) rfl (Nat.le_of_ble_eq_true rfl) (fun p e s m below meth c ls hx hb hr hlocks hts hown hml hK hI hl => ?_)
  have hown : s.vm.findClass RX9 = some m.cls := hown
  replace hl : lv_has ls 5 [(0, .ref (am 0)), (1, .int x1)] := hl
  generalize hAV : ([.ref (am 0), .int x1] : List Value).toArray = AV at hts ⊢
  have f_0 := hts (.fieldLink RX9 46 "PuppetBarModel" "now" "[I") (by decide +kernel)
  have f_1 := hts (.fieldLink RX9 49 "PuppetBarModel" "tried" "[I") (by decide +kernel)
  unfold jm_X9_fell at hM
  refine lv_aload_n hx hb dX9_fell_0 rfl (lv_at hl 0 rfl) ?_
  refine lv_iload_n hx hb dX9_fell_1 rfl (lv_at hl 1 rfl) ?_
  obtain ⟨v1, st2, hqv1, hM⟩ := bd_at hM
  refine jcallV (C := RX9) (As := [.int x1]) (rest := []) ⟨hx, hb, hml, hown, hts⟩ (jw_X9_isLimb D am cI cZ hj N hqv1) (cwV 1 hts gX9_fell_X9_isLimb rfl rfl rfl yd_X9_isLimb ⟨Nat.le_of_ble_eq_true rfl, Nat.le_of_ble_eq_true rfl⟩) hK hI 0 (mg_0 am cI cZ st) rfl rfl hl.1 rfl (Nat.le_of_ble_eq_true rfl) dX9_fell_2 (fun H locs hI => ?_)
  refine W.eq (g2 := F0 m 5 ls [.int v1]) rfl ?_
  refine lv_if_ne (tgt := 10) hx hb dX9_fell_5 (by decide) (fun c3 => ?_) (fun c3 => ?_)
  · replace hM := if_f c3 hM
    refine lv_aload_n hx hb dX9_fell_10 rfl (lv_at hl 0 rfl) ?_
    obtain ⟨v4, st5, hqv4, hM⟩ := bd_at hM
    refine jcallV (C := RX9) (As := []) (rest := []) ⟨hx, hb, hml, hown, hts⟩ (jw_X9_allStrings D am cI cZ hj N hqv4) (cwV 0 hts gX9_fell_X9_allStrings rfl rfl rfl yd_X9_allStrings ⟨Nat.le_of_ble_eq_true rfl, Nat.le_of_ble_eq_true rfl⟩) hK hI 0 (mg_0 am cI cZ st2) rfl rfl hl.1 rfl (Nat.le_of_ble_eq_true rfl) dX9_fell_11 (fun H locs hI => ?_)
    refine W.eq (g2 := F0 m 14 ls [.int v4]) rfl ?_
    refine lv_aload_n hx hb dX9_fell_14 rfl (lv_at hl 0 rfl) ?_
    refine va_get (D := D) (ci := 9) (v := .ref (am 13)) (C := RX9) (T := TX9) (N := 43) hx hb hts hi_X9_fell_X9 hown hK hI.1 0 (mg_0 am cI cZ st5) rfl 28 (by decide) f_0 (fun _ h9 => h9) rfl dX9_fell_15 ?_
    refine lv_iconst (v := (2 : Int32)) hx hb dX9_fell_18 (by decide) ?_
    refine va_iald hx hb hK hI.1 13 0 (mg_13 am cI cZ st5) rfl (inB_vp rfl) dX9_fell_19 ?_
    refine W.eq (g2 := F0 m 20 ls [.int (st5.1 13 2), .int v4]) rfl ?_
    refine lv_iconst (v := (-1 : Int32)) hx hb dX9_fell_20 (by decide) ?_
    refine lv_ixor hx hb dX9_fell_21 ?_
    refine lv_iand hx hb dX9_fell_22 ?_
    refine lv_istore_n (lv' := [(2, .int (v4 &&& ((st5.1 13 2) ^^^ (-1 : Int32)))), (0, .ref (am 0)), (1, .int x1)]) hx hb dX9_fell_23 rfl hl (by decide) rfl (fun ls hl => ?_)
    refine lv_iload_n hx hb dX9_fell_24 rfl (lv_at hl 0 rfl) ?_
    refine lv_istore_n (lv' := [(3, .int (v4 &&& ((st5.1 13 2) ^^^ (-1 : Int32)))), (2, .int (v4 &&& ((st5.1 13 2) ^^^ (-1 : Int32)))), (0, .ref (am 0)), (1, .int x1)]) hx hb dX9_fell_25 rfl hl (by decide) rfl (fun ls hl => ?_)
    refine lv_aload_n hx hb dX9_fell_26 rfl (lv_at hl 2 rfl) ?_
    obtain ⟨v6, st7, hqv6, hM⟩ := bd_at hM
    refine jcallV (C := RX9) (As := []) (rest := []) ⟨hx, hb, hml, hown, hts⟩ (jw_X9_copyNow D am cI cZ hj N hqv6) (cwV 0 hts gX9_fell_X9_copyNow rfl rfl rfl yd_X9_copyNow ⟨Nat.le_of_ble_eq_true rfl, Nat.le_of_ble_eq_true rfl⟩) hK hI 0 (mg_0 am cI cZ st5) rfl rfl hl.1 rfl (Nat.le_of_ble_eq_true rfl) dX9_fell_27 (fun H locs hI => ?_)
    refine W.eq (g2 := F0 m 30 ls []) rfl ?_
    refine lv_iload_n hx hb dX9_fell_30 rfl (lv_at hl 1 rfl) ?_
    refine lv_istore (lv' := [(4, .int (v4 &&& ((st5.1 13 2) ^^^ (-1 : Int32)))), (3, .int (v4 &&& ((st5.1 13 2) ^^^ (-1 : Int32)))), (2, .int (v4 &&& ((st5.1 13 2) ^^^ (-1 : Int32)))), (0, .ref (am 0)), (1, .int x1)]) hx hb dX9_fell_31 hl (by decide) rfl (fun ls hl => ?_)
    obtain ⟨y8, ey8⟩ : ∃ z9 : Int32, z9 = (v4 &&& ((st5.1 13 2) ^^^ (-1 : Int32))) := ⟨_, rfl⟩
    rw [← ey8] at hl
    replace hM := nm_at ey8 hM
    have lp0 : ∀ (n : Nat) (w10 : Int32) (w11 : Int32) (st9 : PS) (H : Heap) (locs : List Loc) (ls : Array Slot), JI D (aA am 24) (mW am cI cZ) s.heap st9 H locs → lv_has ls 5 [(0, .ref (am 0)), (1, .int x1), (2, .int y8), (3, .int w10), (4, .int w11)] → iter (fun q => jm_X9_fell_L33 N x1 y8 q.1 q.2.1 q.2.2) n (w10, w11, st9) = some (rZ, stZ) → W p l e (headSpec wsX9_fell { frames := 3, cells := 0, slots := 0, locals := 68 }).room s m AV below meth c H locs 0 0 (MQ below (JQ D (aA am 24) (mW am cI cZ) (mTy cI cZ) (some (.int rZ)) stZ) AV s 0 0 (aA am 24)) (F0 m 33 ls []) := by
      intro n
      induction n with
      | zero =>
        intro _ _ _ _ _ _ _ _ hM
        exact absurd hM (fun h => iter_zero h)
      | succ n ih0 =>
        intro w10 w11 st9 H locs ls hI hl hM
        obtain ⟨z0, hM, hk0⟩ := iter_succ hM
        replace hM : jm_X9_fell_L33 N x1 y8 w10 w11 st9 = some z0 := hM
        unfold jm_X9_fell_L33 at hM
        refine lv_iload hx hb dX9_fell_33 (lv_at hl 4 rfl) ?_
        refine lv_if_lt (tgt := 99) hx hb dX9_fell_35 (by decide) (fun c12 => ?_) (fun c12 => ?_)
        · replace hM := if_t c12 hM
          refine lv_iload_n hx hb dX9_fell_99 rfl (lv_at hl 3 rfl) ?_
          have hz := Option.some.inj hM
          subst hz
          have hz := kn_r hk0
          exact W.iret hx hb hr (fun t ht hW => jq_i hK hI hz ht hW) hI.2.2.2 dX9_fell_100
        · replace hM := if_f c12 hM
          refine lv_aload_n hx hb dX9_fell_38 rfl (lv_at hl 0 rfl) ?_
          refine va_get (D := D) (ci := 9) (v := .ref (am 14)) (C := RX9) (T := TX9) (N := 43) hx hb hts hi_X9_fell_X9 hown hK hI.1 0 (mg_0 am cI cZ st9) rfl 29 (by decide) f_1 (fun _ h9 => h9) rfl dX9_fell_39 ?_
          refine lv_iconst (v := (2 : Int32)) hx hb dX9_fell_42 (by decide) ?_
          refine lv_aload_n hx hb dX9_fell_43 rfl (lv_at hl 0 rfl) ?_
          refine va_get (D := D) (ci := 9) (v := .ref (am 13)) (C := RX9) (T := TX9) (N := 43) hx hb hts hi_X9_fell_X9 hown hK hI.1 0 (mg_0 am cI cZ st9) rfl 28 (by decide) f_0 (fun _ h9 => h9) rfl dX9_fell_44 ?_
          refine lv_iconst (v := (2 : Int32)) hx hb dX9_fell_47 (by decide) ?_
          refine va_iald hx hb hK hI.1 13 0 (mg_13 am cI cZ st9) rfl (inB_vp rfl) dX9_fell_48 ?_
          refine W.eq (g2 := F0 m 49 ls [.int (st9.1 13 2), .int (2 : Int32), .ref (am 14)]) rfl ?_
          refine lv_iload hx hb dX9_fell_49 (lv_at hl 4 rfl) ?_
          refine lv_ior hx hb dX9_fell_51 ?_
          refine jiast (x := ((st9.1 13 2) ||| w11)) (st2 := pU st9 14 2 (((st9.1 13 2) ||| w11))) hx hb hK (mD hj) hI 14 0 (mg_14 am cI cZ st9) rfl (inB_vp rfl) (ms_14 am cI cZ st9 _) dX9_fell_52 (fun st13 est13 H locs hI => ?_)
          replace hM := nm_at est13 hM
          refine lv_iload hx hb dX9_fell_53 (lv_at hl 4 rfl) ?_
          refine lv_iload_n hx hb dX9_fell_55 rfl (lv_at hl 2 rfl) ?_
          refine lv_iconst (v := (-1 : Int32)) hx hb dX9_fell_56 (by decide) ?_
          refine lv_ixor hx hb dX9_fell_57 ?_
          refine lv_iand hx hb dX9_fell_58 ?_
          refine lv_if_ne (tgt := 91) hx hb dX9_fell_59 (by decide) (fun c14 => ?_) (fun c14 => ?_)
          · replace hM := if_f c14 hM
            refine lv_iload_n hx hb dX9_fell_91 rfl (lv_at hl 3 rfl) ?_
            refine lv_istore_n (lv' := [(3, .int w10), (0, .ref (am 0)), (1, .int x1), (2, .int y8), (4, .int w11)]) hx hb dX9_fell_92 rfl hl (by decide) rfl (fun ls hl => ?_)
            refine lv_iinc (v := (w11 + (-1 : Int32))) (lv' := [(4, .int (w11 + (-1 : Int32))), (3, .int w10), (0, .ref (am 0)), (1, .int x1), (2, .int y8)]) hx hb dX9_fell_93 hl (k := 4) rfl rfl (by decide) rfl (fun ls hl => ?_)
            refine lv_goto (tgt := 33) hx hb dX9_fell_96 (by decide) ?_
            have hz := Option.some.inj hM
            subst hz
            exact ih0 w10 (w11 + (-1 : Int32)) st13 _ _ _ hI (lv_sub hl [2, 3, 4, 1, 0] rfl) hk0
          · replace hM := if_t c14 hM
            refine lv_iload hx hb dX9_fell_62 (lv_at hl 4 rfl) ?_
            obtain ⟨v15, st16, hqv15, hM⟩ := bd_at hM
            refine jcallS (As := [.int w11]) (rest := []) ⟨hx, hb, hml, hown, hts⟩ (jw_X9_bits D am cI cZ hj N hqv15) (va_cwS 1 hts gX9_fell_X9_bits rfl rfl rfl yd_X9_bits ⟨Nat.le_of_ble_eq_true rfl, Nat.le_of_ble_eq_true rfl⟩) hK hI rfl hl.1 rfl (Nat.le_of_ble_eq_true rfl) dX9_fell_64 (fun H locs hI => ?_)
            refine W.eq (g2 := F0 m 67 ls [.int v15]) rfl ?_
            refine lv_iload_n hx hb dX9_fell_67 rfl (lv_at hl 3 rfl) ?_
            obtain ⟨v17, st18, hqv17, hM⟩ := bd_at hM
            refine jcallS (As := [.int w10]) (rest := [.int v15]) ⟨hx, hb, hml, hown, hts⟩ (jw_X9_bits D am cI cZ hj N hqv17) (va_cwS 1 hts gX9_fell_X9_bits rfl rfl rfl yd_X9_bits ⟨Nat.le_of_ble_eq_true rfl, Nat.le_of_ble_eq_true rfl⟩) hK hI rfl hl.1 rfl (Nat.le_of_ble_eq_true rfl) dX9_fell_68 (fun H locs hI => ?_)
            refine W.eq (g2 := F0 m 71 ls [.int v17, .int v15]) rfl ?_
            refine lv_icmp_gt (tgt := 91) hx hb dX9_fell_71 (by decide) (fun c19 => ?_) (fun c19 => ?_)
            · replace hM := if_t c19 hM
              refine lv_iload_n hx hb dX9_fell_91 rfl (lv_at hl 3 rfl) ?_
              refine lv_istore_n (lv' := [(3, .int w10), (0, .ref (am 0)), (1, .int x1), (2, .int y8), (4, .int w11)]) hx hb dX9_fell_92 rfl hl (by decide) rfl (fun ls hl => ?_)
              refine lv_iinc (v := (w11 + (-1 : Int32))) (lv' := [(4, .int (w11 + (-1 : Int32))), (3, .int w10), (0, .ref (am 0)), (1, .int x1), (2, .int y8)]) hx hb dX9_fell_93 hl (k := 4) rfl rfl (by decide) rfl (fun ls hl => ?_)
              refine lv_goto (tgt := 33) hx hb dX9_fell_96 (by decide) ?_
              have hz := Option.some.inj hM
              subst hz
              exact ih0 w10 (w11 + (-1 : Int32)) st18 _ _ _ hI (lv_sub hl [2, 3, 4, 1, 0] rfl) hk0
            · replace hM := if_f c19 hM
              refine lv_aload_n hx hb dX9_fell_74 rfl (lv_at hl 0 rfl) ?_
              refine lv_aload_n hx hb dX9_fell_75 rfl (lv_at hl 0 rfl) ?_
              refine va_get (D := D) (ci := 9) (v := .ref (am 14)) (C := RX9) (T := TX9) (N := 43) hx hb hts hi_X9_fell_X9 hown hK hI.1 0 (mg_0 am cI cZ st18) rfl 29 (by decide) f_1 (fun _ h9 => h9) rfl dX9_fell_76 ?_
              refine lv_iload_n hx hb dX9_fell_79 rfl (lv_at hl 1 rfl) ?_
              obtain ⟨v20, st21, hqv20, hM⟩ := bd_at hM
              refine jcallV (C := RX9) (As := [.ref (am 14), .int x1]) (rest := []) ⟨hx, hb, hml, hown, hts⟩ (jw_X9_height D am cI cZ hj N (show mk_Of 14 by decide) hqv20) (cwV 2 hts gX9_fell_X9_height rfl rfl rfl yd_X9_height ⟨Nat.le_of_ble_eq_true rfl, Nat.le_of_ble_eq_true rfl⟩) hK hI 0 (mg_0 am cI cZ st18) rfl rfl hl.1 rfl (Nat.le_of_ble_eq_true rfl) dX9_fell_80 (fun H locs hI => ?_)
              refine W.eq (g2 := F0 m 83 ls [.int v20]) rfl ?_
              refine lv_if_ne (tgt := 91) hx hb dX9_fell_83 (by decide) (fun c22 => ?_) (fun c22 => ?_)
              · replace hM := if_f c22 hM
                refine lv_iload_n hx hb dX9_fell_91 rfl (lv_at hl 3 rfl) ?_
                refine lv_istore_n (lv' := [(3, .int w10), (0, .ref (am 0)), (1, .int x1), (2, .int y8), (4, .int w11)]) hx hb dX9_fell_92 rfl hl (by decide) rfl (fun ls hl => ?_)
                refine lv_iinc (v := (w11 + (-1 : Int32))) (lv' := [(4, .int (w11 + (-1 : Int32))), (3, .int w10), (0, .ref (am 0)), (1, .int x1), (2, .int y8)]) hx hb dX9_fell_93 hl (k := 4) rfl rfl (by decide) rfl (fun ls hl => ?_)
                refine lv_goto (tgt := 33) hx hb dX9_fell_96 (by decide) ?_
                have hz := Option.some.inj hM
                subst hz
                exact ih0 w10 (w11 + (-1 : Int32)) st21 _ _ _ hI (lv_sub hl [2, 3, 4, 1, 0] rfl) hk0
              · replace hM := if_t c22 hM
                refine lv_iload hx hb dX9_fell_86 (lv_at hl 4 rfl) ?_
                refine lv_goto (tgt := 92) hx hb dX9_fell_88 (by decide) ?_
                refine lv_istore_n (lv' := [(3, .int w11), (0, .ref (am 0)), (1, .int x1), (2, .int y8), (4, .int w11)]) hx hb dX9_fell_92 rfl hl (by decide) rfl (fun ls hl => ?_)
                refine lv_iinc (v := (w11 + (-1 : Int32))) (lv' := [(4, .int (w11 + (-1 : Int32))), (3, .int w11), (0, .ref (am 0)), (1, .int x1), (2, .int y8)]) hx hb dX9_fell_93 hl (k := 4) rfl rfl (by decide) rfl (fun ls hl => ?_)
                refine lv_goto (tgt := 33) hx hb dX9_fell_96 (by decide) ?_
                have hz := Option.some.inj hM
                subst hz
                exact ih0 w11 (w11 + (-1 : Int32)) st21 _ _ _ hI (lv_sub hl [2, 3, 4, 1, 0] rfl) hk0
    exact lp0 N y8 y8 st7 _ _ _ hI (lv_sub hl [3, 4, 2, 1, 0] rfl) hM
  · replace hM := if_t c3 hM
    refine lv_iconst (v := (-1 : Int32)) hx hb dX9_fell_8 (by decide) ?_
    have hz := Option.some.inj hM
    exact W.iret hx hb hr (fun t ht hW => jq_i hK hI hz ht hW) hI.2.2.2 dX9_fell_9
set_option maxRecDepth 20000 in
theorem hi_X9_atBeat_X9 : ∀ w ∈ wsX90, w ∈ wsX9_atBeat := by decide +kernel
set_option maxHeartbeats 4000000 in
set_option maxRecDepth 100000 in
theorem jw_X9_atBeat {l : Launch} (D : va_G) (am : Nat → Nat) (cI cZ : ClassId) (hj : aJ am 24) (N : Nat) {x1 : Int32} {x2 : Int32} {st stZ : PS} {rZ : Int32} (hM : jm_X9_atBeat N x1 x2 st = some (rZ, stZ)) : Met l yX9_atBeat wsX9_atBeat ({ frames := 3, cells := 0, slots := 0, locals := 68 }) (va_Pc [.ref (am 0), .int x1, .int x2] (JH D (mW am cI cZ) (mTy cI cZ) st)) (JQ D (aA am 24) (mW am cI cZ) (mTy cI cZ) (some (.int rZ)) stZ) 0 0 (aA am 24) := by
  refine jStart (cc := cX9_atBeat) (maxL := 3) (ret := (some .int)) [.ref (am 0), .int x1, .int x2] (by decide) rfl (Nat.le_of_ble_eq_true rfl) (fun p e s m below meth c ls hx hb hr hlocks hts hown hml hK hI hl => ?_)
  have hown : s.vm.findClass RX9 = some m.cls := hown
  replace hl : lv_has ls 3 [(0, .ref (am 0)), (1, .int x1), (2, .int x2)] := hl
  generalize hAV : ([.ref (am 0), .int x1, .int x2] : List Value).toArray = AV at hts ⊢
  have f_0 := hts (.fieldLink RX9 49 "PuppetBarModel" "tried" "[I") (by decide +kernel)
  have f_1 := hts (.fieldLink RX9 37 "PuppetBarModel" "beatLifts" "[I") (by decide +kernel)
  have f_2 := hts (.fieldLink RX9 40 "PuppetBarModel" "beatTilts" "[I") (by decide +kernel)
  unfold jm_X9_atBeat at hM
  refine lv_aload_n hx hb dX9_atBeat_0 rfl (lv_at hl 0 rfl) ?_
  obtain ⟨v1, st2, hqv1, hM⟩ := bd_at hM
  refine jcallV (C := RX9) (As := []) (rest := []) ⟨hx, hb, hml, hown, hts⟩ (jw_X9_copyNow D am cI cZ hj N hqv1) (cwV 0 hts gX9_atBeat_X9_copyNow rfl rfl rfl yd_X9_copyNow ⟨Nat.le_of_ble_eq_true rfl, Nat.le_of_ble_eq_true rfl⟩) hK hI 0 (mg_0 am cI cZ st) rfl rfl hl.1 rfl (Nat.le_of_ble_eq_true rfl) dX9_atBeat_1 (fun H locs hI => ?_)
  refine W.eq (g2 := F0 m 4 ls []) rfl ?_
  refine lv_aload_n hx hb dX9_atBeat_4 rfl (lv_at hl 0 rfl) ?_
  refine va_get (D := D) (ci := 9) (v := .ref (am 14)) (C := RX9) (T := TX9) (N := 43) hx hb hts hi_X9_atBeat_X9 hown hK hI.1 0 (mg_0 am cI cZ st2) rfl 29 (by decide) f_0 (fun _ h9 => h9) rfl dX9_atBeat_5 ?_
  refine lv_iconst (v := (0 : Int32)) hx hb dX9_atBeat_8 (by decide) ?_
  refine lv_aload_n hx hb dX9_atBeat_9 rfl (lv_at hl 0 rfl) ?_
  refine va_get (D := D) (ci := 9) (v := .ref (am 10)) (C := RX9) (T := TX9) (N := 43) hx hb hts hi_X9_atBeat_X9 hown hK hI.1 0 (mg_0 am cI cZ st2) rfl 25 (by decide) f_1 (fun _ h9 => h9) rfl dX9_atBeat_10 ?_
  refine lv_iload_n hx hb dX9_atBeat_13 rfl (lv_at hl 2 rfl) ?_
  obtain ⟨g3, hM⟩ := gd_at hM
  refine va_iald hx hb hK hI.1 10 0 (mg_10 am cI cZ st2) rfl (inB_vp g3) dX9_atBeat_14 ?_
  refine jiast (x := (st2.1 10 (x2).toNatClampNeg)) (st2 := pU st2 14 0 ((st2.1 10 (x2).toNatClampNeg))) hx hb hK (mD hj) hI 14 0 (mg_14 am cI cZ st2) rfl (inB_vp rfl) (ms_14 am cI cZ st2 _) dX9_atBeat_15 (fun st4 est4 H locs hI => ?_)
  replace hM := nm_at est4 hM
  refine lv_aload_n hx hb dX9_atBeat_16 rfl (lv_at hl 0 rfl) ?_
  refine va_get (D := D) (ci := 9) (v := .ref (am 14)) (C := RX9) (T := TX9) (N := 43) hx hb hts hi_X9_atBeat_X9 hown hK hI.1 0 (mg_0 am cI cZ st4) rfl 29 (by decide) f_0 (fun _ h9 => h9) rfl dX9_atBeat_17 ?_
  refine lv_iconst (v := (1 : Int32)) hx hb dX9_atBeat_20 (by decide) ?_
  refine lv_aload_n hx hb dX9_atBeat_21 rfl (lv_at hl 0 rfl) ?_
  refine va_get (D := D) (ci := 9) (v := .ref (am 11)) (C := RX9) (T := TX9) (N := 43) hx hb hts hi_X9_atBeat_X9 hown hK hI.1 0 (mg_0 am cI cZ st4) rfl 26 (by decide) f_2 (fun _ h9 => h9) rfl dX9_atBeat_22 ?_
  refine lv_iload_n hx hb dX9_atBeat_25 rfl (lv_at hl 2 rfl) ?_
  obtain ⟨g5, hM⟩ := gd_at hM
  refine va_iald hx hb hK hI.1 11 0 (mg_11 am cI cZ st4) rfl (inB_vp g5) dX9_atBeat_26 ?_
  refine jiast (x := (st4.1 11 (x2).toNatClampNeg)) (st2 := pU st4 14 1 ((st4.1 11 (x2).toNatClampNeg))) hx hb hK (mD hj) hI 14 0 (mg_14 am cI cZ st4) rfl (inB_vp rfl) (ms_14 am cI cZ st4 _) dX9_atBeat_27 (fun st6 est6 H locs hI => ?_)
  replace hM := nm_at est6 hM
  refine lv_aload_n hx hb dX9_atBeat_28 rfl (lv_at hl 0 rfl) ?_
  refine lv_aload_n hx hb dX9_atBeat_29 rfl (lv_at hl 0 rfl) ?_
  refine va_get (D := D) (ci := 9) (v := .ref (am 14)) (C := RX9) (T := TX9) (N := 43) hx hb hts hi_X9_atBeat_X9 hown hK hI.1 0 (mg_0 am cI cZ st6) rfl 29 (by decide) f_0 (fun _ h9 => h9) rfl dX9_atBeat_30 ?_
  refine lv_iload_n hx hb dX9_atBeat_33 rfl (lv_at hl 1 rfl) ?_
  obtain ⟨v7, st8, hqv7, hM⟩ := bd_at hM
  refine jcallV (C := RX9) (As := [.ref (am 14), .int x1]) (rest := []) ⟨hx, hb, hml, hown, hts⟩ (jw_X9_height D am cI cZ hj N (show mk_Of 14 by decide) hqv7) (cwV 2 hts gX9_atBeat_X9_height rfl rfl rfl yd_X9_height ⟨Nat.le_of_ble_eq_true rfl, Nat.le_of_ble_eq_true rfl⟩) hK hI 0 (mg_0 am cI cZ st6) rfl rfl hl.1 rfl (Nat.le_of_ble_eq_true rfl) dX9_atBeat_34 (fun H locs hI => ?_)
  refine W.eq (g2 := F0 m 37 ls [.int v7]) rfl ?_
  have hz := Option.some.inj hM
  exact W.iret hx hb hr (fun t ht hW => jq_i hK hI hz ht hW) hI.2.2.2 dX9_atBeat_37
set_option maxHeartbeats 4000000 in
set_option maxRecDepth 100000 in
theorem jw_X9_path {l : Launch} (D : va_G) (am : Nat → Nat) (cI cZ : ClassId) (hj : aJ am 24) (N : Nat) {x1 : Int32} {x2 : Int32} {st stZ : PS} {rZ : Int32} (hM : jm_X9_path N x1 x2 st = some (rZ, stZ)) : Met l yX9_path wsX9_path ({ frames := 4, cells := 0, slots := 0, locals := 90 }) (va_Pc [.ref (am 0), .int x1, .int x2] (JH D (mW am cI cZ) (mTy cI cZ) st)) (JQ D (aA am 24) (mW am cI cZ) (mTy cI cZ) (some (.int rZ)) stZ) 0 0 (aA am 24) := by
  refine jStart (cc := cX9_path) (maxL := 3) (ret := (some .int)) [.ref (am 0), .int x1, .int x2] (by decide) rfl (Nat.le_of_ble_eq_true rfl) (fun p e s m below meth c ls hx hb hr hlocks hts hown hml hK hI hl => ?_)
  have hown : s.vm.findClass RX9 = some m.cls := hown
  replace hl : lv_has ls 3 [(0, .ref (am 0)), (1, .int x1), (2, .int x2)] := hl
  generalize hAV : ([.ref (am 0), .int x1, .int x2] : List Value).toArray = AV at hts ⊢
  unfold jm_X9_path at hM
  refine lv_aload_n hx hb dX9_path_0 rfl (lv_at hl 0 rfl) ?_
  refine lv_iload_n hx hb dX9_path_1 rfl (lv_at hl 1 rfl) ?_
  obtain ⟨v1, st2, hqv1, hM⟩ := bd_at hM
  refine jcallV (C := RX9) (As := [.int x1]) (rest := []) ⟨hx, hb, hml, hown, hts⟩ (jw_X9_isLimb D am cI cZ hj N hqv1) (cwV 1 hts gX9_path_X9_isLimb rfl rfl rfl yd_X9_isLimb ⟨Nat.le_of_ble_eq_true rfl, Nat.le_of_ble_eq_true rfl⟩) hK hI 0 (mg_0 am cI cZ st) rfl rfl hl.1 rfl (Nat.le_of_ble_eq_true rfl) dX9_path_2 (fun H locs hI => ?_)
  refine W.eq (g2 := F0 m 5 ls [.int v1]) rfl ?_
  refine lv_if_eq (tgt := 25) hx hb dX9_path_5 (by decide) (fun c3 => ?_) (fun c3 => ?_)
  · replace hM := if_t c3 hM
    refine lv_iconst (v := (-1 : Int32)) hx hb dX9_path_25 (by decide) ?_
    have hz := Option.some.inj hM
    exact W.iret hx hb hr (fun t ht hW => jq_i hK hI hz ht hW) hI.2.2.2 dX9_path_26
  · replace hM := if_f c3 hM
    refine lv_aload_n hx hb dX9_path_8 rfl (lv_at hl 0 rfl) ?_
    refine lv_iload_n hx hb dX9_path_9 rfl (lv_at hl 2 rfl) ?_
    obtain ⟨v4, st5, hqv4, hM⟩ := bd_at hM
    refine jcallV (C := RX9) (As := [.int x2]) (rest := []) ⟨hx, hb, hml, hown, hts⟩ (jw_X9_isBeat D am cI cZ hj N hqv4) (cwV 1 hts gX9_path_X9_isBeat rfl rfl rfl yd_X9_isBeat ⟨Nat.le_of_ble_eq_true rfl, Nat.le_of_ble_eq_true rfl⟩) hK hI 0 (mg_0 am cI cZ st2) rfl rfl hl.1 rfl (Nat.le_of_ble_eq_true rfl) dX9_path_10 (fun H locs hI => ?_)
    refine W.eq (g2 := F0 m 13 ls [.int v4]) rfl ?_
    refine lv_if_eq (tgt := 25) hx hb dX9_path_13 (by decide) (fun c6 => ?_) (fun c6 => ?_)
    · replace hM := if_t c6 hM
      refine lv_iconst (v := (-1 : Int32)) hx hb dX9_path_25 (by decide) ?_
      have hz := Option.some.inj hM
      exact W.iret hx hb hr (fun t ht hW => jq_i hK hI hz ht hW) hI.2.2.2 dX9_path_26
    · replace hM := if_f c6 hM
      refine lv_aload_n hx hb dX9_path_16 rfl (lv_at hl 0 rfl) ?_
      refine lv_iload_n hx hb dX9_path_17 rfl (lv_at hl 1 rfl) ?_
      refine lv_iload_n hx hb dX9_path_18 rfl (lv_at hl 2 rfl) ?_
      obtain ⟨v7, st8, hqv7, hM⟩ := bd_at hM
      refine jcallV (C := RX9) (As := [.int x1, .int x2]) (rest := []) ⟨hx, hb, hml, hown, hts⟩ (jw_X9_atBeat D am cI cZ hj N hqv7) (cwV 2 hts gX9_path_X9_atBeat rfl rfl rfl yd_X9_atBeat ⟨Nat.le_of_ble_eq_true rfl, Nat.le_of_ble_eq_true rfl⟩) hK hI 0 (mg_0 am cI cZ st5) rfl rfl hl.1 rfl (Nat.le_of_ble_eq_true rfl) dX9_path_19 (fun H locs hI => ?_)
      refine W.eq (g2 := F0 m 22 ls [.int v7]) rfl ?_
      refine lv_goto (tgt := 26) hx hb dX9_path_22 (by decide) ?_
      have hz := Option.some.inj hM
      exact W.iret hx hb hr (fun t ht hW => jq_i hK hI hz ht hW) hI.2.2.2 dX9_path_26
set_option maxRecDepth 20000 in
theorem hi_X9_nods_X9 : ∀ w ∈ wsX90, w ∈ wsX9_nods := by decide +kernel
set_option maxHeartbeats 4000000 in
set_option maxRecDepth 100000 in
theorem jw_X9_nods {l : Launch} (D : va_G) (am : Nat → Nat) (cI cZ : ClassId) (hj : aJ am 24) (N : Nat) {x1 : Int32} {st stZ : PS} {rZ : Int32} (hM : jm_X9_nods N x1 st = some (rZ, stZ)) : Met l yX9_nods wsX9_nods ({ frames := 4, cells := 0, slots := 0, locals := 90 }) (va_Pc [.ref (am 0), .int x1] (JH D (mW am cI cZ) (mTy cI cZ) st)) (JQ D (aA am 24) (mW am cI cZ) (mTy cI cZ) (some (.int rZ)) stZ) 0 0 (aA am 24) := by
  refine jStart (cc := cX9_nods) (maxL := 4) (ret := (some .int)) [.ref (am 0), .int x1] (by decide) rfl (Nat.le_of_ble_eq_true rfl) (fun p e s m below meth c ls hx hb hr hlocks hts hown hml hK hI hl => ?_)
  have hown : s.vm.findClass RX9 = some m.cls := hown
  replace hl : lv_has ls 4 [(0, .ref (am 0)), (1, .int x1)] := hl
  generalize hAV : ([.ref (am 0), .int x1] : List Value).toArray = AV at hts ⊢
  have f_0 := hts (.fieldLink RX9 175 "PuppetBarModel" "beatMany" "I") (by decide +kernel)
  unfold jm_X9_nods at hM
  refine lv_aload_n hx hb dX9_nods_0 rfl (lv_at hl 0 rfl) ?_
  refine lv_iload_n hx hb dX9_nods_1 rfl (lv_at hl 1 rfl) ?_
  obtain ⟨v1, st2, hqv1, hM⟩ := bd_at hM
  refine jcallV (C := RX9) (As := [.int x1]) (rest := []) ⟨hx, hb, hml, hown, hts⟩ (jw_X9_isLimb D am cI cZ hj N hqv1) (cwV 1 hts gX9_nods_X9_isLimb rfl rfl rfl yd_X9_isLimb ⟨Nat.le_of_ble_eq_true rfl, Nat.le_of_ble_eq_true rfl⟩) hK hI 0 (mg_0 am cI cZ st) rfl rfl hl.1 rfl (Nat.le_of_ble_eq_true rfl) dX9_nods_2 (fun H locs hI => ?_)
  refine W.eq (g2 := F0 m 5 ls [.int v1]) rfl ?_
  refine lv_if_ne (tgt := 10) hx hb dX9_nods_5 (by decide) (fun c3 => ?_) (fun c3 => ?_)
  · replace hM := if_f c3 hM
    refine lv_iconst (v := (0 : Int32)) hx hb dX9_nods_10 (by decide) ?_
    refine lv_istore_n (lv' := [(2, .int (0 : Int32)), (0, .ref (am 0)), (1, .int x1)]) hx hb dX9_nods_11 rfl hl (by decide) rfl (fun ls hl => ?_)
    refine lv_iconst (v := (1 : Int32)) hx hb dX9_nods_12 (by decide) ?_
    refine lv_istore_n (lv' := [(3, .int (1 : Int32)), (2, .int (0 : Int32)), (0, .ref (am 0)), (1, .int x1)]) hx hb dX9_nods_13 rfl hl (by decide) rfl (fun ls hl => ?_)
    have lp0 : ∀ (n : Nat) (w5 : Int32) (w6 : Int32) (st4 : PS) (H : Heap) (locs : List Loc) (ls : Array Slot), JI D (aA am 24) (mW am cI cZ) s.heap st4 H locs → lv_has ls 4 [(0, .ref (am 0)), (1, .int x1), (2, .int w5), (3, .int w6)] → iter (fun q => jm_X9_nods_L14 N x1 q.1 q.2.1 q.2.2) n (w5, w6, st4) = some (rZ, stZ) → W p l e (headSpec wsX9_nods { frames := 4, cells := 0, slots := 0, locals := 90 }).room s m AV below meth c H locs 0 0 (MQ below (JQ D (aA am 24) (mW am cI cZ) (mTy cI cZ) (some (.int rZ)) stZ) AV s 0 0 (aA am 24)) (F0 m 14 ls []) := by
      intro n
      induction n with
      | zero =>
        intro _ _ _ _ _ _ _ _ hM
        exact absurd hM (fun h => iter_zero h)
      | succ n ih0 =>
        intro w5 w6 st4 H locs ls hI hl hM
        obtain ⟨z0, hM, hk0⟩ := iter_succ hM
        replace hM : jm_X9_nods_L14 N x1 w5 w6 st4 = some z0 := hM
        unfold jm_X9_nods_L14 at hM
        refine lv_iload_n hx hb dX9_nods_14 rfl (lv_at hl 3 rfl) ?_
        refine lv_aload_n hx hb dX9_nods_15 rfl (lv_at hl 0 rfl) ?_
        refine va_get (D := D) (ci := 9) (v := .int (st4.1 0 20)) (C := RX9) (T := TX9) (N := 43) hx hb hts hi_X9_nods_X9 hown hK hI.1 0 (mg_0 am cI cZ st4) rfl 20 (by decide) f_0 (fun _ h9 => h9) rfl dX9_nods_16 ?_
        refine lv_iconst (v := (1 : Int32)) hx hb dX9_nods_19 (by decide) ?_
        refine lv_isub hx hb dX9_nods_20 ?_
        refine lv_icmp_ge (tgt := 72) hx hb dX9_nods_21 (by decide) (fun c7 => ?_) (fun c7 => ?_)
        · replace hM := if_t c7 hM
          refine lv_iload_n hx hb dX9_nods_72 rfl (lv_at hl 2 rfl) ?_
          have hz := Option.some.inj hM
          subst hz
          have hz := kn_r hk0
          exact W.iret hx hb hr (fun t ht hW => jq_i hK hI hz ht hW) hI.2.2.2 dX9_nods_73
        · replace hM := if_f c7 hM
          refine lv_iload_n hx hb dX9_nods_24 rfl (lv_at hl 2 rfl) ?_
          refine lv_aload_n hx hb dX9_nods_25 rfl (lv_at hl 0 rfl) ?_
          refine lv_iload_n hx hb dX9_nods_26 rfl (lv_at hl 1 rfl) ?_
          refine lv_iload_n hx hb dX9_nods_27 rfl (lv_at hl 3 rfl) ?_
          obtain ⟨v8, st9, hqv8, hM⟩ := bd_at hM
          refine jcallV (C := RX9) (As := [.int x1, .int w6]) (rest := [.int w5]) ⟨hx, hb, hml, hown, hts⟩ (jw_X9_atBeat D am cI cZ hj N hqv8) (cwV 2 hts gX9_nods_X9_atBeat rfl rfl rfl yd_X9_atBeat ⟨Nat.le_of_ble_eq_true rfl, Nat.le_of_ble_eq_true rfl⟩) hK hI 0 (mg_0 am cI cZ st4) rfl rfl hl.1 rfl (Nat.le_of_ble_eq_true rfl) dX9_nods_28 (fun H locs hI => ?_)
          refine W.eq (g2 := F0 m 31 ls [.int v8, .int w5]) rfl ?_
          refine lv_aload_n hx hb dX9_nods_31 rfl (lv_at hl 0 rfl) ?_
          refine lv_iload_n hx hb dX9_nods_32 rfl (lv_at hl 1 rfl) ?_
          refine lv_iload_n hx hb dX9_nods_33 rfl (lv_at hl 3 rfl) ?_
          refine lv_iconst (v := (1 : Int32)) hx hb dX9_nods_34 (by decide) ?_
          refine lv_isub hx hb dX9_nods_35 ?_
          obtain ⟨v10, st11, hqv10, hM⟩ := bd_at hM
          refine jcallV (C := RX9) (As := [.int x1, .int (w6 - (1 : Int32))]) (rest := [.int v8, .int w5]) ⟨hx, hb, hml, hown, hts⟩ (jw_X9_atBeat D am cI cZ hj N hqv10) (cwV 2 hts gX9_nods_X9_atBeat rfl rfl rfl yd_X9_atBeat ⟨Nat.le_of_ble_eq_true rfl, Nat.le_of_ble_eq_true rfl⟩) hK hI 0 (mg_0 am cI cZ st9) rfl rfl hl.1 rfl (Nat.le_of_ble_eq_true rfl) dX9_nods_36 (fun H locs hI => ?_)
          refine W.eq (g2 := F0 m 39 ls [.int v10, .int v8, .int w5]) rfl ?_
          refine lv_icmp_ge (tgt := 63) hx hb dX9_nods_39 (by decide) (fun c12 => ?_) (fun c12 => ?_)
          · replace hM := if_t c12 hM
            refine lv_iconst (v := (0 : Int32)) hx hb dX9_nods_63 (by decide) ?_
            refine lv_iadd hx hb dX9_nods_64 ?_
            refine lv_istore_n (lv' := [(2, .int (w5 + (0 : Int32))), (0, .ref (am 0)), (1, .int x1), (3, .int w6)]) hx hb dX9_nods_65 rfl hl (by decide) rfl (fun ls hl => ?_)
            refine lv_iinc (v := (w6 + (1 : Int32))) (lv' := [(3, .int (w6 + (1 : Int32))), (2, .int (w5 + (0 : Int32))), (0, .ref (am 0)), (1, .int x1)]) hx hb dX9_nods_66 hl (k := 3) rfl rfl (by decide) rfl (fun ls hl => ?_)
            refine lv_goto (tgt := 14) hx hb dX9_nods_69 (by decide) ?_
            have hz := Option.some.inj hM
            subst hz
            exact ih0 (w5 + (0 : Int32)) (w6 + (1 : Int32)) st11 _ _ _ hI (lv_sub hl [2, 3, 1, 0] rfl) hk0
          · replace hM := if_f c12 hM
            refine lv_aload_n hx hb dX9_nods_42 rfl (lv_at hl 0 rfl) ?_
            refine lv_iload_n hx hb dX9_nods_43 rfl (lv_at hl 1 rfl) ?_
            refine lv_iload_n hx hb dX9_nods_44 rfl (lv_at hl 3 rfl) ?_
            obtain ⟨v13, st14, hqv13, hM⟩ := bd_at hM
            refine jcallV (C := RX9) (As := [.int x1, .int w6]) (rest := [.int w5]) ⟨hx, hb, hml, hown, hts⟩ (jw_X9_atBeat D am cI cZ hj N hqv13) (cwV 2 hts gX9_nods_X9_atBeat rfl rfl rfl yd_X9_atBeat ⟨Nat.le_of_ble_eq_true rfl, Nat.le_of_ble_eq_true rfl⟩) hK hI 0 (mg_0 am cI cZ st11) rfl rfl hl.1 rfl (Nat.le_of_ble_eq_true rfl) dX9_nods_45 (fun H locs hI => ?_)
            refine W.eq (g2 := F0 m 48 ls [.int v13, .int w5]) rfl ?_
            refine lv_aload_n hx hb dX9_nods_48 rfl (lv_at hl 0 rfl) ?_
            refine lv_iload_n hx hb dX9_nods_49 rfl (lv_at hl 1 rfl) ?_
            refine lv_iload_n hx hb dX9_nods_50 rfl (lv_at hl 3 rfl) ?_
            refine lv_iconst (v := (1 : Int32)) hx hb dX9_nods_51 (by decide) ?_
            refine lv_iadd hx hb dX9_nods_52 ?_
            obtain ⟨v15, st16, hqv15, hM⟩ := bd_at hM
            refine jcallV (C := RX9) (As := [.int x1, .int (w6 + (1 : Int32))]) (rest := [.int v13, .int w5]) ⟨hx, hb, hml, hown, hts⟩ (jw_X9_atBeat D am cI cZ hj N hqv15) (cwV 2 hts gX9_nods_X9_atBeat rfl rfl rfl yd_X9_atBeat ⟨Nat.le_of_ble_eq_true rfl, Nat.le_of_ble_eq_true rfl⟩) hK hI 0 (mg_0 am cI cZ st14) rfl rfl hl.1 rfl (Nat.le_of_ble_eq_true rfl) dX9_nods_53 (fun H locs hI => ?_)
            refine W.eq (g2 := F0 m 56 ls [.int v15, .int v13, .int w5]) rfl ?_
            refine lv_icmp_ge (tgt := 63) hx hb dX9_nods_56 (by decide) (fun c17 => ?_) (fun c17 => ?_)
            · replace hM := if_t c17 hM
              refine lv_iconst (v := (0 : Int32)) hx hb dX9_nods_63 (by decide) ?_
              refine lv_iadd hx hb dX9_nods_64 ?_
              refine lv_istore_n (lv' := [(2, .int (w5 + (0 : Int32))), (0, .ref (am 0)), (1, .int x1), (3, .int w6)]) hx hb dX9_nods_65 rfl hl (by decide) rfl (fun ls hl => ?_)
              refine lv_iinc (v := (w6 + (1 : Int32))) (lv' := [(3, .int (w6 + (1 : Int32))), (2, .int (w5 + (0 : Int32))), (0, .ref (am 0)), (1, .int x1)]) hx hb dX9_nods_66 hl (k := 3) rfl rfl (by decide) rfl (fun ls hl => ?_)
              refine lv_goto (tgt := 14) hx hb dX9_nods_69 (by decide) ?_
              have hz := Option.some.inj hM
              subst hz
              exact ih0 (w5 + (0 : Int32)) (w6 + (1 : Int32)) st16 _ _ _ hI (lv_sub hl [2, 3, 1, 0] rfl) hk0
            · replace hM := if_f c17 hM
              refine lv_iconst (v := (1 : Int32)) hx hb dX9_nods_59 (by decide) ?_
              refine lv_goto (tgt := 64) hx hb dX9_nods_60 (by decide) ?_
              refine lv_iadd hx hb dX9_nods_64 ?_
              refine lv_istore_n (lv' := [(2, .int (w5 + (1 : Int32))), (0, .ref (am 0)), (1, .int x1), (3, .int w6)]) hx hb dX9_nods_65 rfl hl (by decide) rfl (fun ls hl => ?_)
              refine lv_iinc (v := (w6 + (1 : Int32))) (lv' := [(3, .int (w6 + (1 : Int32))), (2, .int (w5 + (1 : Int32))), (0, .ref (am 0)), (1, .int x1)]) hx hb dX9_nods_66 hl (k := 3) rfl rfl (by decide) rfl (fun ls hl => ?_)
              refine lv_goto (tgt := 14) hx hb dX9_nods_69 (by decide) ?_
              have hz := Option.some.inj hM
              subst hz
              exact ih0 (w5 + (1 : Int32)) (w6 + (1 : Int32)) st16 _ _ _ hI (lv_sub hl [2, 3, 1, 0] rfl) hk0
    exact lp0 N (0 : Int32) (1 : Int32) st2 _ _ _ hI (lv_sub hl [2, 3, 1, 0] rfl) hM
  · replace hM := if_t c3 hM
    refine lv_iconst (v := (-1 : Int32)) hx hb dX9_nods_8 (by decide) ?_
    have hz := Option.some.inj hM
    exact W.iret hx hb hr (fun t ht hW => jq_i hK hI hz ht hW) hI.2.2.2 dX9_nods_9
set_option maxRecDepth 20000 in
theorem hi_X9_moves_X9 : ∀ w ∈ wsX90, w ∈ wsX9_moves := by decide +kernel
set_option maxHeartbeats 4000000 in
set_option maxRecDepth 100000 in
theorem jw_X9_moves {l : Launch} (D : va_G) (am : Nat → Nat) (cI cZ : ClassId) (hj : aJ am 24) (N : Nat) {x1 : Int32} {x2 : Int32} {st stZ : PS} {rZ : Int32} (hM : jm_X9_moves N x1 x2 st = some (rZ, stZ)) : Met l yX9_moves wsX9_moves ({ frames := 1, cells := 0, slots := 0, locals := 21 }) (va_Pc [.ref (am 0), .int x1, .int x2] (JH D (mW am cI cZ) (mTy cI cZ) st)) (JQ D (aA am 24) (mW am cI cZ) (mTy cI cZ) (some (.int rZ)) stZ) 0 0 (aA am 24) := by
  refine jStart (cc := cX9_moves) (maxL := 5) (ret := (some .int)) [.ref (am 0), .int x1, .int x2] (by decide) rfl (Nat.le_of_ble_eq_true rfl) (fun p e s m below meth c ls hx hb hr hlocks hts hown hml hK hI hl => ?_)
  have hown : s.vm.findClass RX9 = some m.cls := hown
  replace hl : lv_has ls 5 [(0, .ref (am 0)), (1, .int x1), (2, .int x2)] := hl
  generalize hAV : ([.ref (am 0), .int x1, .int x2] : List Value).toArray = AV at hts ⊢
  have f_0 := hts (.fieldLink RX9 37 "PuppetBarModel" "beatLifts" "[I") (by decide +kernel)
  have f_1 := hts (.fieldLink RX9 40 "PuppetBarModel" "beatTilts" "[I") (by decide +kernel)
  have f_2 := hts (.fieldLink RX9 46 "PuppetBarModel" "now" "[I") (by decide +kernel)
  unfold jm_X9_moves at hM
  refine lv_iload_n hx hb dX9_moves_0 rfl (lv_at hl 1 rfl) ?_
  refine lv_if_ge (tgt := 13) hx hb dX9_moves_1 (by decide) (fun c1 => ?_) (fun c1 => ?_)
  · replace hM := if_t c1 hM
    refine lv_aload_n hx hb dX9_moves_13 rfl (lv_at hl 0 rfl) ?_
    refine va_get (D := D) (ci := 9) (v := .ref (am 10)) (C := RX9) (T := TX9) (N := 43) hx hb hts hi_X9_moves_X9 hown hK hI.1 0 (mg_0 am cI cZ st) rfl 25 (by decide) f_0 (fun _ h9 => h9) rfl dX9_moves_14 ?_
    refine lv_iload_n hx hb dX9_moves_17 rfl (lv_at hl 1 rfl) ?_
    obtain ⟨g2, hM⟩ := gd_at hM
    refine va_iald hx hb hK hI.1 10 0 (mg_10 am cI cZ st) rfl (inB_vp g2) dX9_moves_18 ?_
    refine lv_istore_n (lv' := [(3, .int (st.1 10 (x1).toNatClampNeg)), (0, .ref (am 0)), (1, .int x1), (2, .int x2)]) hx hb dX9_moves_19 rfl hl (by decide) rfl (fun ls hl => ?_)
    refine lv_iload_n hx hb dX9_moves_20 rfl (lv_at hl 2 rfl) ?_
    refine lv_if_ge (tgt := 33) hx hb dX9_moves_21 (by decide) (fun c3 => ?_) (fun c3 => ?_)
    · replace hM := if_t c3 hM
      refine lv_aload_n hx hb dX9_moves_33 rfl (lv_at hl 1 rfl) ?_
      refine va_get (D := D) (ci := 9) (v := .ref (am 11)) (C := RX9) (T := TX9) (N := 43) hx hb hts hi_X9_moves_X9 hown hK hI.1 0 (mg_0 am cI cZ st) rfl 26 (by decide) f_1 (fun _ h9 => h9) rfl dX9_moves_34 ?_
      refine lv_iload_n hx hb dX9_moves_37 rfl (lv_at hl 2 rfl) ?_
      obtain ⟨g4, hM⟩ := gd_at hM
      refine va_iald hx hb hK hI.1 11 0 (mg_11 am cI cZ st) rfl (inB_vp g4) dX9_moves_38 ?_
      refine lv_istore (lv' := [(4, .int (st.1 11 (x1).toNatClampNeg)), (3, .int (st.1 10 (x1).toNatClampNeg)), (0, .ref (am 0)), (1, .int x1), (2, .int x2)]) hx hb dX9_moves_39 hl (by decide) rfl (fun ls hl => ?_)
      refine lv_iload_n hx hb dX9_moves_41 rfl (lv_at hl 1 rfl) ?_
      refine lv_aload_n hx hb dX9_moves_42 rfl (lv_at hl 2 rfl) ?_
      refine va_get (D := D) (ci := 9) (v := .ref (am 10)) (C := RX9) (T := TX9) (N := 43) hx hb hts hi_X9_moves_X9 hown hK hI.1 0 (mg_0 am cI cZ st) rfl 25 (by decide) f_0 (fun _ h9 => h9) rfl dX9_moves_43 ?_
      refine lv_iload_n hx hb dX9_moves_46 rfl (lv_at hl 4 rfl) ?_
      obtain ⟨g5, hM⟩ := gd_at hM
      refine va_iald hx hb hK hI.1 10 0 (mg_10 am cI cZ st) rfl (inB_vp g5) dX9_moves_47 ?_
      obtain ⟨v6, st7, hqv6, hM⟩ := bd_at hM
      refine jcallS (As := [.int (st.1 10 (x1).toNatClampNeg), .int (st.1 10 (x2).toNatClampNeg)]) (rest := []) ⟨hx, hb, hml, hown, hts⟩ (jw_X9_apart D am cI cZ hj N hqv6) (va_cwS 2 hts gX9_moves_X9_apart rfl rfl rfl yd_X9_apart ⟨Nat.le_of_ble_eq_true rfl, Nat.le_of_ble_eq_true rfl⟩) hK hI rfl hl.1 rfl (Nat.le_of_ble_eq_true rfl) dX9_moves_48 (fun H locs hI => ?_)
      refine W.eq (g2 := F0 m 51 ls [.int v6]) rfl ?_
      refine lv_iload hx hb dX9_moves_51 (lv_at hl 0 rfl) ?_
      refine lv_aload_n hx hb dX9_moves_53 rfl (lv_at hl 2 rfl) ?_
      refine va_get (D := D) (ci := 9) (v := .ref (am 11)) (C := RX9) (T := TX9) (N := 43) hx hb hts hi_X9_moves_X9 hown hK hI.1 0 (mg_0 am cI cZ st7) rfl 26 (by decide) f_1 (fun _ h9 => h9) rfl dX9_moves_54 ?_
      refine lv_iload_n hx hb dX9_moves_57 rfl (lv_at hl 4 rfl) ?_
      obtain ⟨g8, hM⟩ := gd_at hM
      refine va_iald hx hb hK hI.1 11 0 (mg_11 am cI cZ st7) rfl (inB_vp g8) dX9_moves_58 ?_
      obtain ⟨v9, st10, hqv9, hM⟩ := bd_at hM
      refine jcallS (As := [.int (st.1 11 (x1).toNatClampNeg), .int (st7.1 11 (x2).toNatClampNeg)]) (rest := [.int v6]) ⟨hx, hb, hml, hown, hts⟩ (jw_X9_apart D am cI cZ hj N hqv9) (va_cwS 2 hts gX9_moves_X9_apart rfl rfl rfl yd_X9_apart ⟨Nat.le_of_ble_eq_true rfl, Nat.le_of_ble_eq_true rfl⟩) hK hI rfl hl.1 rfl (Nat.le_of_ble_eq_true rfl) dX9_moves_59 (fun H locs hI => ?_)
      refine W.eq (g2 := F0 m 62 ls [.int v9, .int v6]) rfl ?_
      refine lv_iadd hx hb dX9_moves_62 ?_
      have hz := Option.some.inj hM
      exact W.iret hx hb hr (fun t ht hW => jq_i hK hI hz ht hW) hI.2.2.2 dX9_moves_63
    · replace hM := if_f c3 hM
      refine lv_aload_n hx hb dX9_moves_24 rfl (lv_at hl 1 rfl) ?_
      refine va_get (D := D) (ci := 9) (v := .ref (am 13)) (C := RX9) (T := TX9) (N := 43) hx hb hts hi_X9_moves_X9 hown hK hI.1 0 (mg_0 am cI cZ st) rfl 28 (by decide) f_2 (fun _ h9 => h9) rfl dX9_moves_25 ?_
      refine lv_iconst (v := (1 : Int32)) hx hb dX9_moves_28 (by decide) ?_
      refine va_iald hx hb hK hI.1 13 0 (mg_13 am cI cZ st) rfl (inB_vp rfl) dX9_moves_29 ?_
      refine W.eq (g2 := F0 m 30 ls [.int (st.1 13 1)]) rfl ?_
      refine lv_goto (tgt := 39) hx hb dX9_moves_30 (by decide) ?_
      refine lv_istore (lv' := [(4, .int (st.1 13 1)), (3, .int (st.1 10 (x1).toNatClampNeg)), (0, .ref (am 0)), (1, .int x1), (2, .int x2)]) hx hb dX9_moves_39 hl (by decide) rfl (fun ls hl => ?_)
      refine lv_iload_n hx hb dX9_moves_41 rfl (lv_at hl 1 rfl) ?_
      refine lv_aload_n hx hb dX9_moves_42 rfl (lv_at hl 2 rfl) ?_
      refine va_get (D := D) (ci := 9) (v := .ref (am 10)) (C := RX9) (T := TX9) (N := 43) hx hb hts hi_X9_moves_X9 hown hK hI.1 0 (mg_0 am cI cZ st) rfl 25 (by decide) f_0 (fun _ h9 => h9) rfl dX9_moves_43 ?_
      refine lv_iload_n hx hb dX9_moves_46 rfl (lv_at hl 4 rfl) ?_
      obtain ⟨g11, hM⟩ := gd_at hM
      refine va_iald hx hb hK hI.1 10 0 (mg_10 am cI cZ st) rfl (inB_vp g11) dX9_moves_47 ?_
      obtain ⟨v12, st13, hqv12, hM⟩ := bd_at hM
      refine jcallS (As := [.int (st.1 10 (x1).toNatClampNeg), .int (st.1 10 (x2).toNatClampNeg)]) (rest := []) ⟨hx, hb, hml, hown, hts⟩ (jw_X9_apart D am cI cZ hj N hqv12) (va_cwS 2 hts gX9_moves_X9_apart rfl rfl rfl yd_X9_apart ⟨Nat.le_of_ble_eq_true rfl, Nat.le_of_ble_eq_true rfl⟩) hK hI rfl hl.1 rfl (Nat.le_of_ble_eq_true rfl) dX9_moves_48 (fun H locs hI => ?_)
      refine W.eq (g2 := F0 m 51 ls [.int v12]) rfl ?_
      refine lv_iload hx hb dX9_moves_51 (lv_at hl 0 rfl) ?_
      refine lv_aload_n hx hb dX9_moves_53 rfl (lv_at hl 2 rfl) ?_
      refine va_get (D := D) (ci := 9) (v := .ref (am 11)) (C := RX9) (T := TX9) (N := 43) hx hb hts hi_X9_moves_X9 hown hK hI.1 0 (mg_0 am cI cZ st13) rfl 26 (by decide) f_1 (fun _ h9 => h9) rfl dX9_moves_54 ?_
      refine lv_iload_n hx hb dX9_moves_57 rfl (lv_at hl 4 rfl) ?_
      obtain ⟨g14, hM⟩ := gd_at hM
      refine va_iald hx hb hK hI.1 11 0 (mg_11 am cI cZ st13) rfl (inB_vp g14) dX9_moves_58 ?_
      obtain ⟨v15, st16, hqv15, hM⟩ := bd_at hM
      refine jcallS (As := [.int (st.1 13 1), .int (st13.1 11 (x2).toNatClampNeg)]) (rest := [.int v12]) ⟨hx, hb, hml, hown, hts⟩ (jw_X9_apart D am cI cZ hj N hqv15) (va_cwS 2 hts gX9_moves_X9_apart rfl rfl rfl yd_X9_apart ⟨Nat.le_of_ble_eq_true rfl, Nat.le_of_ble_eq_true rfl⟩) hK hI rfl hl.1 rfl (Nat.le_of_ble_eq_true rfl) dX9_moves_59 (fun H locs hI => ?_)
      refine W.eq (g2 := F0 m 62 ls [.int v15, .int v12]) rfl ?_
      refine lv_iadd hx hb dX9_moves_62 ?_
      have hz := Option.some.inj hM
      exact W.iret hx hb hr (fun t ht hW => jq_i hK hI hz ht hW) hI.2.2.2 dX9_moves_63
  · replace hM := if_f c1 hM
    refine lv_aload_n hx hb dX9_moves_4 rfl (lv_at hl 0 rfl) ?_
    refine va_get (D := D) (ci := 9) (v := .ref (am 13)) (C := RX9) (T := TX9) (N := 43) hx hb hts hi_X9_moves_X9 hown hK hI.1 0 (mg_0 am cI cZ st) rfl 28 (by decide) f_2 (fun _ h9 => h9) rfl dX9_moves_5 ?_
    refine lv_iconst (v := (0 : Int32)) hx hb dX9_moves_8 (by decide) ?_
    refine va_iald hx hb hK hI.1 13 0 (mg_13 am cI cZ st) rfl (inB_vp rfl) dX9_moves_9 ?_
    refine W.eq (g2 := F0 m 10 ls [.int (st.1 13 0)]) rfl ?_
    refine lv_goto (tgt := 19) hx hb dX9_moves_10 (by decide) ?_
    refine lv_istore_n (lv' := [(3, .int (st.1 13 0)), (0, .ref (am 0)), (1, .int x1), (2, .int x2)]) hx hb dX9_moves_19 rfl hl (by decide) rfl (fun ls hl => ?_)
    refine lv_iload_n hx hb dX9_moves_20 rfl (lv_at hl 2 rfl) ?_
    refine lv_if_ge (tgt := 33) hx hb dX9_moves_21 (by decide) (fun c17 => ?_) (fun c17 => ?_)
    · replace hM := if_t c17 hM
      refine lv_aload_n hx hb dX9_moves_33 rfl (lv_at hl 1 rfl) ?_
      refine va_get (D := D) (ci := 9) (v := .ref (am 11)) (C := RX9) (T := TX9) (N := 43) hx hb hts hi_X9_moves_X9 hown hK hI.1 0 (mg_0 am cI cZ st) rfl 26 (by decide) f_1 (fun _ h9 => h9) rfl dX9_moves_34 ?_
      refine lv_iload_n hx hb dX9_moves_37 rfl (lv_at hl 2 rfl) ?_
      obtain ⟨g18, hM⟩ := gd_at hM
      refine va_iald hx hb hK hI.1 11 0 (mg_11 am cI cZ st) rfl (inB_vp g18) dX9_moves_38 ?_
      refine lv_istore (lv' := [(4, .int (st.1 11 (x1).toNatClampNeg)), (3, .int (st.1 13 0)), (0, .ref (am 0)), (1, .int x1), (2, .int x2)]) hx hb dX9_moves_39 hl (by decide) rfl (fun ls hl => ?_)
      refine lv_iload_n hx hb dX9_moves_41 rfl (lv_at hl 1 rfl) ?_
      refine lv_aload_n hx hb dX9_moves_42 rfl (lv_at hl 2 rfl) ?_
      refine va_get (D := D) (ci := 9) (v := .ref (am 10)) (C := RX9) (T := TX9) (N := 43) hx hb hts hi_X9_moves_X9 hown hK hI.1 0 (mg_0 am cI cZ st) rfl 25 (by decide) f_0 (fun _ h9 => h9) rfl dX9_moves_43 ?_
      refine lv_iload_n hx hb dX9_moves_46 rfl (lv_at hl 4 rfl) ?_
      obtain ⟨g19, hM⟩ := gd_at hM
      refine va_iald hx hb hK hI.1 10 0 (mg_10 am cI cZ st) rfl (inB_vp g19) dX9_moves_47 ?_
      obtain ⟨v20, st21, hqv20, hM⟩ := bd_at hM
      refine jcallS (As := [.int (st.1 13 0), .int (st.1 10 (x2).toNatClampNeg)]) (rest := []) ⟨hx, hb, hml, hown, hts⟩ (jw_X9_apart D am cI cZ hj N hqv20) (va_cwS 2 hts gX9_moves_X9_apart rfl rfl rfl yd_X9_apart ⟨Nat.le_of_ble_eq_true rfl, Nat.le_of_ble_eq_true rfl⟩) hK hI rfl hl.1 rfl (Nat.le_of_ble_eq_true rfl) dX9_moves_48 (fun H locs hI => ?_)
      refine W.eq (g2 := F0 m 51 ls [.int v20]) rfl ?_
      refine lv_iload hx hb dX9_moves_51 (lv_at hl 0 rfl) ?_
      refine lv_aload_n hx hb dX9_moves_53 rfl (lv_at hl 2 rfl) ?_
      refine va_get (D := D) (ci := 9) (v := .ref (am 11)) (C := RX9) (T := TX9) (N := 43) hx hb hts hi_X9_moves_X9 hown hK hI.1 0 (mg_0 am cI cZ st21) rfl 26 (by decide) f_1 (fun _ h9 => h9) rfl dX9_moves_54 ?_
      refine lv_iload_n hx hb dX9_moves_57 rfl (lv_at hl 4 rfl) ?_
      obtain ⟨g22, hM⟩ := gd_at hM
      refine va_iald hx hb hK hI.1 11 0 (mg_11 am cI cZ st21) rfl (inB_vp g22) dX9_moves_58 ?_
      obtain ⟨v23, st24, hqv23, hM⟩ := bd_at hM
      refine jcallS (As := [.int (st.1 11 (x1).toNatClampNeg), .int (st21.1 11 (x2).toNatClampNeg)]) (rest := [.int v20]) ⟨hx, hb, hml, hown, hts⟩ (jw_X9_apart D am cI cZ hj N hqv23) (va_cwS 2 hts gX9_moves_X9_apart rfl rfl rfl yd_X9_apart ⟨Nat.le_of_ble_eq_true rfl, Nat.le_of_ble_eq_true rfl⟩) hK hI rfl hl.1 rfl (Nat.le_of_ble_eq_true rfl) dX9_moves_59 (fun H locs hI => ?_)
      refine W.eq (g2 := F0 m 62 ls [.int v23, .int v20]) rfl ?_
      refine lv_iadd hx hb dX9_moves_62 ?_
      have hz := Option.some.inj hM
      exact W.iret hx hb hr (fun t ht hW => jq_i hK hI hz ht hW) hI.2.2.2 dX9_moves_63
    · replace hM := if_f c17 hM
      refine lv_aload_n hx hb dX9_moves_24 rfl (lv_at hl 1 rfl) ?_
      refine va_get (D := D) (ci := 9) (v := .ref (am 13)) (C := RX9) (T := TX9) (N := 43) hx hb hts hi_X9_moves_X9 hown hK hI.1 0 (mg_0 am cI cZ st) rfl 28 (by decide) f_2 (fun _ h9 => h9) rfl dX9_moves_25 ?_
      refine lv_iconst (v := (1 : Int32)) hx hb dX9_moves_28 (by decide) ?_
      refine va_iald hx hb hK hI.1 13 0 (mg_13 am cI cZ st) rfl (inB_vp rfl) dX9_moves_29 ?_
      refine W.eq (g2 := F0 m 30 ls [.int (st.1 13 1)]) rfl ?_
      refine lv_goto (tgt := 39) hx hb dX9_moves_30 (by decide) ?_
      refine lv_istore (lv' := [(4, .int (st.1 13 1)), (3, .int (st.1 13 0)), (0, .ref (am 0)), (1, .int x1), (2, .int x2)]) hx hb dX9_moves_39 hl (by decide) rfl (fun ls hl => ?_)
      refine lv_iload_n hx hb dX9_moves_41 rfl (lv_at hl 1 rfl) ?_
      refine lv_aload_n hx hb dX9_moves_42 rfl (lv_at hl 2 rfl) ?_
      refine va_get (D := D) (ci := 9) (v := .ref (am 10)) (C := RX9) (T := TX9) (N := 43) hx hb hts hi_X9_moves_X9 hown hK hI.1 0 (mg_0 am cI cZ st) rfl 25 (by decide) f_0 (fun _ h9 => h9) rfl dX9_moves_43 ?_
      refine lv_iload_n hx hb dX9_moves_46 rfl (lv_at hl 4 rfl) ?_
      obtain ⟨g25, hM⟩ := gd_at hM
      refine va_iald hx hb hK hI.1 10 0 (mg_10 am cI cZ st) rfl (inB_vp g25) dX9_moves_47 ?_
      obtain ⟨v26, st27, hqv26, hM⟩ := bd_at hM
      refine jcallS (As := [.int (st.1 13 0), .int (st.1 10 (x2).toNatClampNeg)]) (rest := []) ⟨hx, hb, hml, hown, hts⟩ (jw_X9_apart D am cI cZ hj N hqv26) (va_cwS 2 hts gX9_moves_X9_apart rfl rfl rfl yd_X9_apart ⟨Nat.le_of_ble_eq_true rfl, Nat.le_of_ble_eq_true rfl⟩) hK hI rfl hl.1 rfl (Nat.le_of_ble_eq_true rfl) dX9_moves_48 (fun H locs hI => ?_)
      refine W.eq (g2 := F0 m 51 ls [.int v26]) rfl ?_
      refine lv_iload hx hb dX9_moves_51 (lv_at hl 0 rfl) ?_
      refine lv_aload_n hx hb dX9_moves_53 rfl (lv_at hl 2 rfl) ?_
      refine va_get (D := D) (ci := 9) (v := .ref (am 11)) (C := RX9) (T := TX9) (N := 43) hx hb hts hi_X9_moves_X9 hown hK hI.1 0 (mg_0 am cI cZ st27) rfl 26 (by decide) f_1 (fun _ h9 => h9) rfl dX9_moves_54 ?_
      refine lv_iload_n hx hb dX9_moves_57 rfl (lv_at hl 4 rfl) ?_
      obtain ⟨g28, hM⟩ := gd_at hM
      refine va_iald hx hb hK hI.1 11 0 (mg_11 am cI cZ st27) rfl (inB_vp g28) dX9_moves_58 ?_
      obtain ⟨v29, st30, hqv29, hM⟩ := bd_at hM
      refine jcallS (As := [.int (st.1 13 1), .int (st27.1 11 (x2).toNatClampNeg)]) (rest := [.int v26]) ⟨hx, hb, hml, hown, hts⟩ (jw_X9_apart D am cI cZ hj N hqv29) (va_cwS 2 hts gX9_moves_X9_apart rfl rfl rfl yd_X9_apart ⟨Nat.le_of_ble_eq_true rfl, Nat.le_of_ble_eq_true rfl⟩) hK hI rfl hl.1 rfl (Nat.le_of_ble_eq_true rfl) dX9_moves_59 (fun H locs hI => ?_)
      refine W.eq (g2 := F0 m 62 ls [.int v29, .int v26]) rfl ?_
      refine lv_iadd hx hb dX9_moves_62 ?_
      have hz := Option.some.inj hM
      exact W.iret hx hb hr (fun t ht hW => jq_i hK hI hz ht hW) hI.2.2.2 dX9_moves_63
set_option maxRecDepth 20000 in
theorem hi_X9_leastFrom_X9 : ∀ w ∈ wsX90, w ∈ wsX9_leastFrom := by decide +kernel
set_option maxHeartbeats 4000000 in
set_option maxRecDepth 100000 in
theorem jw_X9_leastFrom {l : Launch} (D : va_G) (am : Nat → Nat) (cI cZ : ClassId) (hj : aJ am 24) (N : Nat) {x1 : Int32} {x2 : Int32} {st stZ : PS} {rZ : Int32} (hM : jm_X9_leastFrom N x1 x2 st = some (rZ, stZ)) : Met l yX9_leastFrom wsX9_leastFrom ({ frames := 2, cells := 0, slots := 0, locals := 45 }) (va_Pc [.ref (am 0), .int x1, .int x2] (JH D (mW am cI cZ) (mTy cI cZ) st)) (JQ D (aA am 24) (mW am cI cZ) (mTy cI cZ) (some (.int rZ)) stZ) 0 0 (aA am 24) := by
  refine jStart (cc := cX9_leastFrom) (maxL := 6) (ret := (some .int)) [.ref (am 0), .int x1, .int x2] (by decide) rfl (Nat.le_of_ble_eq_true rfl) (fun p e s m below meth c ls hx hb hr hlocks hts hown hml hK hI hl => ?_)
  have hown : s.vm.findClass RX9 = some m.cls := hown
  replace hl : lv_has ls 6 [(0, .ref (am 0)), (1, .int x1), (2, .int x2)] := hl
  generalize hAV : ([.ref (am 0), .int x1, .int x2] : List Value).toArray = AV at hts ⊢
  have f_0 := hts (.constant RX9 262 (1000000)) (by decide +kernel)
  have f_1 := hts (.fieldLink RX9 175 "PuppetBarModel" "beatMany" "I") (by decide +kernel)
  have f_2 := hts (.fieldLink RX9 55 "PuppetBarModel" "yet" "[I") (by decide +kernel)
  unfold jm_X9_leastFrom at hM
  refine lv_iload_n hx hb dX9_leastFrom_0 rfl (lv_at hl 1 rfl) ?_
  refine lv_if_ne (tgt := 8) hx hb dX9_leastFrom_1 (by decide) (fun c1 => ?_) (fun c1 => ?_)
  · replace hM := if_f c1 hM
    refine lv_ldcw (v := (1000000 : Int32)) hx hb hown f_0 dX9_leastFrom_8 ?_
    refine lv_istore_n (lv' := [(3, .int (1000000 : Int32)), (0, .ref (am 0)), (1, .int x1), (2, .int x2)]) hx hb dX9_leastFrom_11 rfl hl (by decide) rfl (fun ls hl => ?_)
    refine lv_iconst (v := (0 : Int32)) hx hb dX9_leastFrom_12 (by decide) ?_
    refine lv_istore (lv' := [(4, .int (0 : Int32)), (3, .int (1000000 : Int32)), (0, .ref (am 0)), (1, .int x1), (2, .int x2)]) hx hb dX9_leastFrom_13 hl (by decide) rfl (fun ls hl => ?_)
    have lp0 : ∀ (n : Nat) (w3 : Int32) (w4 : Int32) (st2 : PS) (H : Heap) (locs : List Loc) (ls : Array Slot), JI D (aA am 24) (mW am cI cZ) s.heap st2 H locs → lv_has ls 6 [(0, .ref (am 0)), (1, .int x1), (2, .int x2), (3, .int w3), (4, .int w4)] → iter (fun q => jm_X9_leastFrom_L15 N x1 x2 q.1 q.2.1 q.2.2) n (w3, w4, st2) = some (rZ, stZ) → W p l e (headSpec wsX9_leastFrom { frames := 2, cells := 0, slots := 0, locals := 45 }).room s m AV below meth c H locs 0 0 (MQ below (JQ D (aA am 24) (mW am cI cZ) (mTy cI cZ) (some (.int rZ)) stZ) AV s 0 0 (aA am 24)) (F0 m 15 ls []) := by
      intro n
      induction n with
      | zero =>
        intro _ _ _ _ _ _ _ _ hM
        exact absurd hM (fun h => iter_zero h)
      | succ n ih0 =>
        intro w3 w4 st2 H locs ls hI hl hM
        obtain ⟨z0, hM, hk0⟩ := iter_succ hM
        replace hM : jm_X9_leastFrom_L15 N x1 x2 w3 w4 st2 = some z0 := hM
        unfold jm_X9_leastFrom_L15 at hM
        refine lv_iload hx hb dX9_leastFrom_15 (lv_at hl 4 rfl) ?_
        refine lv_aload_n hx hb dX9_leastFrom_17 rfl (lv_at hl 0 rfl) ?_
        refine va_get (D := D) (ci := 9) (v := .int (st2.1 0 20)) (C := RX9) (T := TX9) (N := 43) hx hb hts hi_X9_leastFrom_X9 hown hK hI.1 0 (mg_0 am cI cZ st2) rfl 20 (by decide) f_1 (fun _ h9 => h9) rfl dX9_leastFrom_18 ?_
        refine lv_icmp_ge (tgt := 81) hx hb dX9_leastFrom_21 (by decide) (fun c5 => ?_) (fun c5 => ?_)
        · replace hM := if_t c5 hM
          refine lv_iload_n hx hb dX9_leastFrom_81 rfl (lv_at hl 3 rfl) ?_
          have hz := Option.some.inj hM
          subst hz
          have hz := kn_r hk0
          exact W.iret hx hb hr (fun t ht hW => jq_i hK hI hz ht hW) hI.2.2.2 dX9_leastFrom_82
        · replace hM := if_f c5 hM
          refine lv_iload_n hx hb dX9_leastFrom_24 rfl (lv_at hl 1 rfl) ?_
          refine lv_iload hx hb dX9_leastFrom_25 (lv_at hl 4 rfl) ?_
          obtain ⟨v6, st7, hqv6, hM⟩ := bd_at hM
          refine jcallS (As := [.int x1, .int w4]) (rest := []) ⟨hx, hb, hml, hown, hts⟩ (jw_X9_has D am cI cZ hj N hqv6) (va_cwS 2 hts gX9_leastFrom_X9_has rfl rfl rfl yd_X9_has ⟨Nat.le_of_ble_eq_true rfl, Nat.le_of_ble_eq_true rfl⟩) hK hI rfl hl.1 rfl (Nat.le_of_ble_eq_true rfl) dX9_leastFrom_27 (fun H locs hI => ?_)
          refine W.eq (g2 := F0 m 30 ls [.int v6]) rfl ?_
          refine lv_if_eq (tgt := 75) hx hb dX9_leastFrom_30 (by decide) (fun c8 => ?_) (fun c8 => ?_)
          · replace hM := if_t c8 hM
            refine lv_iinc (v := (w4 + (1 : Int32))) (lv' := [(4, .int (w4 + (1 : Int32))), (0, .ref (am 0)), (1, .int x1), (2, .int x2), (3, .int w3)]) hx hb dX9_leastFrom_75 hl (k := 4) rfl rfl (by decide) rfl (fun ls hl => ?_)
            refine lv_goto (tgt := 15) hx hb dX9_leastFrom_78 (by decide) ?_
            have hz := Option.some.inj hM
            subst hz
            exact ih0 w3 (w4 + (1 : Int32)) st7 _ _ _ hI (lv_sub hl [1, 2, 3, 4, 0] rfl) hk0
          · replace hM := if_f c8 hM
            refine lv_aload_n hx hb dX9_leastFrom_33 rfl (lv_at hl 0 rfl) ?_
            refine lv_iload_n hx hb dX9_leastFrom_34 rfl (lv_at hl 2 rfl) ?_
            refine lv_iload hx hb dX9_leastFrom_35 (lv_at hl 4 rfl) ?_
            obtain ⟨v9, st10, hqv9, hM⟩ := bd_at hM
            refine jcallV (C := RX9) (As := [.int x2, .int w4]) (rest := []) ⟨hx, hb, hml, hown, hts⟩ (jw_X9_moves D am cI cZ hj N hqv9) (cwV 2 hts gX9_leastFrom_X9_moves rfl rfl rfl yd_X9_moves ⟨Nat.le_of_ble_eq_true rfl, Nat.le_of_ble_eq_true rfl⟩) hK hI 0 (mg_0 am cI cZ st7) rfl rfl hl.1 rfl (Nat.le_of_ble_eq_true rfl) dX9_leastFrom_37 (fun H locs hI => ?_)
            refine W.eq (g2 := F0 m 40 ls [.int v9]) rfl ?_
            refine lv_aload_n hx hb dX9_leastFrom_40 rfl (lv_at hl 0 rfl) ?_
            refine va_get (D := D) (ci := 9) (v := .ref (am 16)) (C := RX9) (T := TX9) (N := 43) hx hb hts hi_X9_leastFrom_X9 hown hK hI.1 0 (mg_0 am cI cZ st10) rfl 33 (by decide) f_2 (fun _ h9 => h9) rfl dX9_leastFrom_41 ?_
            refine lv_bipush (v := (8 : Int32)) hx hb dX9_leastFrom_44 (by decide) ?_
            refine lv_iload_n hx hb dX9_leastFrom_46 rfl (lv_at hl 1 rfl) ?_
            refine lv_iconst (v := (1 : Int32)) hx hb dX9_leastFrom_47 (by decide) ?_
            refine lv_iload hx hb dX9_leastFrom_48 (lv_at hl 4 rfl) ?_
            refine lv_ishl hx hb dX9_leastFrom_50 ?_
            refine lv_iconst (v := (-1 : Int32)) hx hb dX9_leastFrom_51 (by decide) ?_
            refine lv_ixor hx hb dX9_leastFrom_52 ?_
            refine lv_iand hx hb dX9_leastFrom_53 ?_
            refine lv_imul hx hb dX9_leastFrom_54 ?_
            refine lv_iload hx hb dX9_leastFrom_55 (lv_at hl 4 rfl) ?_
            refine lv_iadd hx hb dX9_leastFrom_57 ?_
            obtain ⟨g11, hM⟩ := gd_at hM
            refine va_iald hx hb hK hI.1 16 0 (mg_16 am cI cZ st10) rfl (inB_vp g11) dX9_leastFrom_58 ?_
            refine lv_iadd hx hb dX9_leastFrom_59 ?_
            refine lv_topi (fun y12 ey12 => ?_)
            replace hM := nm_at ey12 hM
            refine lv_istore (lv' := [(5, .int y12), (0, .ref (am 0)), (1, .int x1), (2, .int x2), (3, .int w3), (4, .int w4)]) hx hb dX9_leastFrom_60 hl (by decide) rfl (fun ls hl => ?_)
            refine lv_iload hx hb dX9_leastFrom_62 (lv_at hl 0 rfl) ?_
            refine lv_iload_n hx hb dX9_leastFrom_64 rfl (lv_at hl 4 rfl) ?_
            refine lv_icmp_ge (tgt := 73) hx hb dX9_leastFrom_65 (by decide) (fun c13 => ?_) (fun c13 => ?_)
            · replace hM := if_t c13 hM
              refine lv_iload_n hx hb dX9_leastFrom_73 rfl (lv_at hl 4 rfl) ?_
              refine lv_istore_n (lv' := [(3, .int w3), (5, .int y12), (0, .ref (am 0)), (1, .int x1), (2, .int x2), (4, .int w4)]) hx hb dX9_leastFrom_74 rfl hl (by decide) rfl (fun ls hl => ?_)
              refine lv_iinc (v := (w4 + (1 : Int32))) (lv' := [(4, .int (w4 + (1 : Int32))), (3, .int w3), (5, .int y12), (0, .ref (am 0)), (1, .int x1), (2, .int x2)]) hx hb dX9_leastFrom_75 hl (k := 5) rfl rfl (by decide) rfl (fun ls hl => ?_)
              refine lv_goto (tgt := 15) hx hb dX9_leastFrom_78 (by decide) ?_
              have hz := Option.some.inj hM
              subst hz
              exact ih0 w3 (w4 + (1 : Int32)) st10 _ _ _ hI (lv_sub hl [3, 4, 5, 1, 0] rfl) hk0
            · replace hM := if_f c13 hM
              refine lv_iload hx hb dX9_leastFrom_68 (lv_at hl 0 rfl) ?_
              refine lv_goto (tgt := 74) hx hb dX9_leastFrom_70 (by decide) ?_
              refine lv_istore_n (lv' := [(3, .int y12), (5, .int y12), (0, .ref (am 0)), (1, .int x1), (2, .int x2), (4, .int w4)]) hx hb dX9_leastFrom_74 rfl hl (by decide) rfl (fun ls hl => ?_)
              refine lv_iinc (v := (w4 + (1 : Int32))) (lv' := [(4, .int (w4 + (1 : Int32))), (3, .int y12), (5, .int y12), (0, .ref (am 0)), (1, .int x1), (2, .int x2)]) hx hb dX9_leastFrom_75 hl (k := 5) rfl rfl (by decide) rfl (fun ls hl => ?_)
              refine lv_goto (tgt := 15) hx hb dX9_leastFrom_78 (by decide) ?_
              have hz := Option.some.inj hM
              subst hz
              exact ih0 y12 (w4 + (1 : Int32)) st10 _ _ _ hI (lv_sub hl [3, 4, 5, 1, 0] rfl) hk0
    exact lp0 N (1000000 : Int32) (0 : Int32) st _ _ _ hI (lv_sub hl [2, 3, 4, 1, 0] rfl) hM
  · replace hM := if_t c1 hM
    refine lv_iconst (v := (0 : Int32)) hx hb dX9_leastFrom_4 (by decide) ?_
    refine lv_goto (tgt := 11) hx hb dX9_leastFrom_5 (by decide) ?_
    refine lv_istore_n (lv' := [(3, .int (0 : Int32)), (0, .ref (am 0)), (1, .int x1), (2, .int x2)]) hx hb dX9_leastFrom_11 rfl hl (by decide) rfl (fun ls hl => ?_)
    refine lv_iconst (v := (0 : Int32)) hx hb dX9_leastFrom_12 (by decide) ?_
    refine lv_istore (lv' := [(4, .int (0 : Int32)), (3, .int (0 : Int32)), (0, .ref (am 0)), (1, .int x1), (2, .int x2)]) hx hb dX9_leastFrom_13 hl (by decide) rfl (fun ls hl => ?_)
    have lp0 : ∀ (n : Nat) (w15 : Int32) (w16 : Int32) (st14 : PS) (H : Heap) (locs : List Loc) (ls : Array Slot), JI D (aA am 24) (mW am cI cZ) s.heap st14 H locs → lv_has ls 6 [(0, .ref (am 0)), (1, .int x1), (2, .int x2), (3, .int w15), (4, .int w16)] → iter (fun q => jm_X9_leastFrom_L15_2 N x1 x2 q.1 q.2.1 q.2.2) n (w15, w16, st14) = some (rZ, stZ) → W p l e (headSpec wsX9_leastFrom { frames := 2, cells := 0, slots := 0, locals := 45 }).room s m AV below meth c H locs 0 0 (MQ below (JQ D (aA am 24) (mW am cI cZ) (mTy cI cZ) (some (.int rZ)) stZ) AV s 0 0 (aA am 24)) (F0 m 15 ls []) := by
      intro n
      induction n with
      | zero =>
        intro _ _ _ _ _ _ _ _ hM
        exact absurd hM (fun h => iter_zero h)
      | succ n ih0 =>
        intro w15 w16 st14 H locs ls hI hl hM
        obtain ⟨z0, hM, hk0⟩ := iter_succ hM
        replace hM : jm_X9_leastFrom_L15_2 N x1 x2 w15 w16 st14 = some z0 := hM
        unfold jm_X9_leastFrom_L15_2 at hM
        refine lv_iload hx hb dX9_leastFrom_15 (lv_at hl 4 rfl) ?_
        refine lv_aload_n hx hb dX9_leastFrom_17 rfl (lv_at hl 0 rfl) ?_
        refine va_get (D := D) (ci := 9) (v := .int (st14.1 0 20)) (C := RX9) (T := TX9) (N := 43) hx hb hts hi_X9_leastFrom_X9 hown hK hI.1 0 (mg_0 am cI cZ st14) rfl 20 (by decide) f_1 (fun _ h9 => h9) rfl dX9_leastFrom_18 ?_
        refine lv_icmp_ge (tgt := 81) hx hb dX9_leastFrom_21 (by decide) (fun c17 => ?_) (fun c17 => ?_)
        · replace hM := if_t c17 hM
          refine lv_iload_n hx hb dX9_leastFrom_81 rfl (lv_at hl 3 rfl) ?_
          have hz := Option.some.inj hM
          subst hz
          have hz := kn_r hk0
          exact W.iret hx hb hr (fun t ht hW => jq_i hK hI hz ht hW) hI.2.2.2 dX9_leastFrom_82
        · replace hM := if_f c17 hM
          refine lv_iload_n hx hb dX9_leastFrom_24 rfl (lv_at hl 1 rfl) ?_
          refine lv_iload hx hb dX9_leastFrom_25 (lv_at hl 4 rfl) ?_
          obtain ⟨v18, st19, hqv18, hM⟩ := bd_at hM
          refine jcallS (As := [.int x1, .int w16]) (rest := []) ⟨hx, hb, hml, hown, hts⟩ (jw_X9_has D am cI cZ hj N hqv18) (va_cwS 2 hts gX9_leastFrom_X9_has rfl rfl rfl yd_X9_has ⟨Nat.le_of_ble_eq_true rfl, Nat.le_of_ble_eq_true rfl⟩) hK hI rfl hl.1 rfl (Nat.le_of_ble_eq_true rfl) dX9_leastFrom_27 (fun H locs hI => ?_)
          refine W.eq (g2 := F0 m 30 ls [.int v18]) rfl ?_
          refine lv_if_eq (tgt := 75) hx hb dX9_leastFrom_30 (by decide) (fun c20 => ?_) (fun c20 => ?_)
          · replace hM := if_t c20 hM
            refine lv_iinc (v := (w16 + (1 : Int32))) (lv' := [(4, .int (w16 + (1 : Int32))), (0, .ref (am 0)), (1, .int x1), (2, .int x2), (3, .int w15)]) hx hb dX9_leastFrom_75 hl (k := 4) rfl rfl (by decide) rfl (fun ls hl => ?_)
            refine lv_goto (tgt := 15) hx hb dX9_leastFrom_78 (by decide) ?_
            have hz := Option.some.inj hM
            subst hz
            exact ih0 w15 (w16 + (1 : Int32)) st19 _ _ _ hI (lv_sub hl [1, 2, 3, 4, 0] rfl) hk0
          · replace hM := if_f c20 hM
            refine lv_aload_n hx hb dX9_leastFrom_33 rfl (lv_at hl 0 rfl) ?_
            refine lv_iload_n hx hb dX9_leastFrom_34 rfl (lv_at hl 2 rfl) ?_
            refine lv_iload hx hb dX9_leastFrom_35 (lv_at hl 4 rfl) ?_
            obtain ⟨v21, st22, hqv21, hM⟩ := bd_at hM
            refine jcallV (C := RX9) (As := [.int x2, .int w16]) (rest := []) ⟨hx, hb, hml, hown, hts⟩ (jw_X9_moves D am cI cZ hj N hqv21) (cwV 2 hts gX9_leastFrom_X9_moves rfl rfl rfl yd_X9_moves ⟨Nat.le_of_ble_eq_true rfl, Nat.le_of_ble_eq_true rfl⟩) hK hI 0 (mg_0 am cI cZ st19) rfl rfl hl.1 rfl (Nat.le_of_ble_eq_true rfl) dX9_leastFrom_37 (fun H locs hI => ?_)
            refine W.eq (g2 := F0 m 40 ls [.int v21]) rfl ?_
            refine lv_aload_n hx hb dX9_leastFrom_40 rfl (lv_at hl 0 rfl) ?_
            refine va_get (D := D) (ci := 9) (v := .ref (am 16)) (C := RX9) (T := TX9) (N := 43) hx hb hts hi_X9_leastFrom_X9 hown hK hI.1 0 (mg_0 am cI cZ st22) rfl 33 (by decide) f_2 (fun _ h9 => h9) rfl dX9_leastFrom_41 ?_
            refine lv_bipush (v := (8 : Int32)) hx hb dX9_leastFrom_44 (by decide) ?_
            refine lv_iload_n hx hb dX9_leastFrom_46 rfl (lv_at hl 1 rfl) ?_
            refine lv_iconst (v := (1 : Int32)) hx hb dX9_leastFrom_47 (by decide) ?_
            refine lv_iload hx hb dX9_leastFrom_48 (lv_at hl 4 rfl) ?_
            refine lv_ishl hx hb dX9_leastFrom_50 ?_
            refine lv_iconst (v := (-1 : Int32)) hx hb dX9_leastFrom_51 (by decide) ?_
            refine lv_ixor hx hb dX9_leastFrom_52 ?_
            refine lv_iand hx hb dX9_leastFrom_53 ?_
            refine lv_imul hx hb dX9_leastFrom_54 ?_
            refine lv_iload hx hb dX9_leastFrom_55 (lv_at hl 4 rfl) ?_
            refine lv_iadd hx hb dX9_leastFrom_57 ?_
            obtain ⟨g23, hM⟩ := gd_at hM
            refine va_iald hx hb hK hI.1 16 0 (mg_16 am cI cZ st22) rfl (inB_vp g23) dX9_leastFrom_58 ?_
            refine lv_iadd hx hb dX9_leastFrom_59 ?_
            refine lv_topi (fun y24 ey24 => ?_)
            replace hM := nm_at ey24 hM
            refine lv_istore (lv' := [(5, .int y24), (0, .ref (am 0)), (1, .int x1), (2, .int x2), (3, .int w15), (4, .int w16)]) hx hb dX9_leastFrom_60 hl (by decide) rfl (fun ls hl => ?_)
            refine lv_iload hx hb dX9_leastFrom_62 (lv_at hl 0 rfl) ?_
            refine lv_iload_n hx hb dX9_leastFrom_64 rfl (lv_at hl 4 rfl) ?_
            refine lv_icmp_ge (tgt := 73) hx hb dX9_leastFrom_65 (by decide) (fun c25 => ?_) (fun c25 => ?_)
            · replace hM := if_t c25 hM
              refine lv_iload_n hx hb dX9_leastFrom_73 rfl (lv_at hl 4 rfl) ?_
              refine lv_istore_n (lv' := [(3, .int w15), (5, .int y24), (0, .ref (am 0)), (1, .int x1), (2, .int x2), (4, .int w16)]) hx hb dX9_leastFrom_74 rfl hl (by decide) rfl (fun ls hl => ?_)
              refine lv_iinc (v := (w16 + (1 : Int32))) (lv' := [(4, .int (w16 + (1 : Int32))), (3, .int w15), (5, .int y24), (0, .ref (am 0)), (1, .int x1), (2, .int x2)]) hx hb dX9_leastFrom_75 hl (k := 5) rfl rfl (by decide) rfl (fun ls hl => ?_)
              refine lv_goto (tgt := 15) hx hb dX9_leastFrom_78 (by decide) ?_
              have hz := Option.some.inj hM
              subst hz
              exact ih0 w15 (w16 + (1 : Int32)) st22 _ _ _ hI (lv_sub hl [3, 4, 5, 1, 0] rfl) hk0
            · replace hM := if_f c25 hM
              refine lv_iload hx hb dX9_leastFrom_68 (lv_at hl 0 rfl) ?_
              refine lv_goto (tgt := 74) hx hb dX9_leastFrom_70 (by decide) ?_
              refine lv_istore_n (lv' := [(3, .int y24), (5, .int y24), (0, .ref (am 0)), (1, .int x1), (2, .int x2), (4, .int w16)]) hx hb dX9_leastFrom_74 rfl hl (by decide) rfl (fun ls hl => ?_)
              refine lv_iinc (v := (w16 + (1 : Int32))) (lv' := [(4, .int (w16 + (1 : Int32))), (3, .int y24), (5, .int y24), (0, .ref (am 0)), (1, .int x1), (2, .int x2)]) hx hb dX9_leastFrom_75 hl (k := 5) rfl rfl (by decide) rfl (fun ls hl => ?_)
              refine lv_goto (tgt := 15) hx hb dX9_leastFrom_78 (by decide) ?_
              have hz := Option.some.inj hM
              subst hz
              exact ih0 y24 (w16 + (1 : Int32)) st22 _ _ _ hI (lv_sub hl [3, 4, 5, 1, 0] rfl) hk0
    exact lp0 N (0 : Int32) (0 : Int32) st _ _ _ hI (lv_sub hl [2, 3, 4, 1, 0] rfl) hM
set_option maxRecDepth 20000 in
theorem hi_X9_play_X9 : ∀ w ∈ wsX90, w ∈ wsX9_play := by decide +kernel
set_option maxHeartbeats 4000000 in
set_option maxRecDepth 100000 in
theorem jw_X9_play {l : Launch} (D : va_G) (am : Nat → Nat) (cI cZ : ClassId) (hj : aJ am 24) (N : Nat) {x1 : Int32} {st stZ : PS} {rZ : Int32} (hM : jm_X9_play N x1 st = some (rZ, stZ)) : Met l yX9_play wsX9_play ({ frames := 3, cells := 0, slots := 0, locals := 70 }) (va_Pc [.ref (am 0), .int x1] (JH D (mW am cI cZ) (mTy cI cZ) st)) (JQ D (aA am 24) (mW am cI cZ) (mTy cI cZ) (some (.int rZ)) stZ) 0 0 (aA am 24) := by
  refine jStart (cc := cX9_play) (maxL := 11) (ret := (some .int)) [.ref (am 0), .int x1] (by decide) rfl (Nat.le_of_ble_eq_true rfl) (fun p e s m below meth c ls hx hb hr hlocks hts hown hml hK hI hl => ?_)
  have hown : s.vm.findClass RX9 = some m.cls := hown
  replace hl : lv_has ls 11 [(0, .ref (am 0)), (1, .int x1)] := hl
  generalize hAV : ([.ref (am 0), .int x1] : List Value).toArray = AV at hts ⊢
  have f_0 := hts (.fieldLink RX9 175 "PuppetBarModel" "beatMany" "I") (by decide +kernel)
  have f_1 := hts (.fieldLink RX9 55 "PuppetBarModel" "yet" "[I") (by decide +kernel)
  unfold jm_X9_play at hM
  refine lv_iload_n hx hb dX9_play_0 rfl (lv_at hl 1 rfl) ?_
  refine lv_iconst (v := (-1 : Int32)) hx hb dX9_play_1 (by decide) ?_
  refine lv_bipush (v := (6 : Int32)) hx hb dX9_play_2 (by decide) ?_
  obtain ⟨v1, st2, hqv1, hM⟩ := bd_at hM
  refine jcallS (As := [.int x1, .int (-1 : Int32), .int (6 : Int32)]) (rest := []) ⟨hx, hb, hml, hown, hts⟩ (jw_X9_in D am cI cZ hj N hqv1) (va_cwS 3 hts gX9_play_X9_in rfl rfl rfl yd_X9_in ⟨Nat.le_of_ble_eq_true rfl, Nat.le_of_ble_eq_true rfl⟩) hK hI rfl hl.1 rfl (Nat.le_of_ble_eq_true rfl) dX9_play_4 (fun H locs hI => ?_)
  refine W.eq (g2 := F0 m 7 ls [.int v1]) rfl ?_
  refine lv_if_ne (tgt := 12) hx hb dX9_play_7 (by decide) (fun c3 => ?_) (fun c3 => ?_)
  · replace hM := if_f c3 hM
    refine lv_iconst (v := (1 : Int32)) hx hb dX9_play_12 (by decide) ?_
    refine lv_aload_n hx hb dX9_play_13 rfl (lv_at hl 0 rfl) ?_
    refine va_get (D := D) (ci := 9) (v := .int (st2.1 0 20)) (C := RX9) (T := TX9) (N := 43) hx hb hts hi_X9_play_X9 hown hK hI.1 0 (mg_0 am cI cZ st2) rfl 20 (by decide) f_0 (fun _ h9 => h9) rfl dX9_play_14 ?_
    refine lv_ishl hx hb dX9_play_17 ?_
    refine lv_iconst (v := (1 : Int32)) hx hb dX9_play_18 (by decide) ?_
    refine lv_isub hx hb dX9_play_19 ?_
    refine lv_topi (fun y4 ey4 => ?_)
    replace hM := nm_at ey4 hM
    refine lv_istore_n (lv' := [(2, .int y4), (0, .ref (am 0)), (1, .int x1)]) hx hb dX9_play_20 rfl hl (by decide) rfl (fun ls hl => ?_)
    refine lv_iconst (v := (0 : Int32)) hx hb dX9_play_21 (by decide) ?_
    refine lv_istore_n (lv' := [(3, .int (0 : Int32)), (2, .int y4), (0, .ref (am 0)), (1, .int x1)]) hx hb dX9_play_22 rfl hl (by decide) rfl (fun ls hl => ?_)
    have lp0 : ∀ (n : Nat) (w6 : Int32) (st5 : PS) (H : Heap) (locs : List Loc) (ls : Array Slot), JI D (aA am 24) (mW am cI cZ) s.heap st5 H locs → lv_has ls 11 [(0, .ref (am 0)), (1, .int x1), (2, .int y4), (3, .int w6)] → iter (fun q => jm_X9_play_L23 N x1 y4 q.1 q.2) n (w6, st5) = some (rZ, stZ) → W p l e (headSpec wsX9_play { frames := 3, cells := 0, slots := 0, locals := 70 }).room s m AV below meth c H locs 0 0 (MQ below (JQ D (aA am 24) (mW am cI cZ) (mTy cI cZ) (some (.int rZ)) stZ) AV s 0 0 (aA am 24)) (F0 m 23 ls []) := by
      intro n
      induction n with
      | zero =>
        intro _ _ _ _ _ _ _ hM
        exact absurd hM (fun h => iter_zero h)
      | succ n ih0 =>
        intro w6 st5 H locs ls hI hl hM
        obtain ⟨z0, hM, hk0⟩ := iter_succ hM
        replace hM : jm_X9_play_L23 N x1 y4 w6 st5 = some z0 := hM
        unfold jm_X9_play_L23 at hM
        refine lv_iload_n hx hb dX9_play_23 rfl (lv_at hl 3 rfl) ?_
        refine lv_iload_n hx hb dX9_play_24 rfl (lv_at hl 2 rfl) ?_
        refine lv_icmp_gt (tgt := 71) hx hb dX9_play_25 (by decide) (fun c7 => ?_) (fun c7 => ?_)
        · replace hM := if_t c7 hM
          refine lv_aload_n hx hb dX9_play_71 rfl (lv_at hl 0 rfl) ?_
          refine lv_iload_n hx hb dX9_play_72 rfl (lv_at hl 2 rfl) ?_
          refine lv_iconst (v := (-1 : Int32)) hx hb dX9_play_73 (by decide) ?_
          obtain ⟨v8, st9, hqv8, hM⟩ := bd_at hM
          refine jcallV (C := RX9) (As := [.int y4, .int (-1 : Int32)]) (rest := []) ⟨hx, hb, hml, hown, hts⟩ (jw_X9_leastFrom D am cI cZ hj N hqv8) (cwV 2 hts gX9_play_X9_leastFrom rfl rfl rfl yd_X9_leastFrom ⟨Nat.le_of_ble_eq_true rfl, Nat.le_of_ble_eq_true rfl⟩) hK hI 0 (mg_0 am cI cZ st5) rfl rfl hl.1 rfl (Nat.le_of_ble_eq_true rfl) dX9_play_74 (fun H locs hI => ?_)
          refine W.eq (g2 := F0 m 77 ls [.int v8]) rfl ?_
          refine lv_istore_n (lv' := [(3, .int v8), (0, .ref (am 0)), (1, .int x1), (2, .int y4)]) hx hb dX9_play_77 rfl hl (by decide) rfl (fun ls hl => ?_)
          refine lv_iload_n hx hb dX9_play_78 rfl (lv_at hl 2 rfl) ?_
          refine lv_if_ge (tgt := 84) hx hb dX9_play_79 (by decide) (fun c10 => ?_) (fun c10 => ?_)
          · replace hM := if_t c10 hM
            refine lv_iload_n hx hb dX9_play_84 rfl (lv_at hl 2 rfl) ?_
            refine lv_aload_n hx hb dX9_play_85 rfl (lv_at hl 1 rfl) ?_
            refine va_get (D := D) (ci := 9) (v := .int (st9.1 0 20)) (C := RX9) (T := TX9) (N := 43) hx hb hts hi_X9_play_X9 hown hK hI.1 0 (mg_0 am cI cZ st9) rfl 20 (by decide) f_0 (fun _ h9 => h9) rfl dX9_play_86 ?_
            refine lv_icmp_lt (tgt := 95) hx hb dX9_play_89 (by decide) (fun c11 => ?_) (fun c11 => ?_)
            · replace hM := if_t c11 hM
              refine lv_iload_n hx hb dX9_play_95 rfl (lv_at hl 3 rfl) ?_
              refine lv_istore (lv' := [(4, .int y4), (3, .int v8), (0, .ref (am 0)), (1, .int x1), (2, .int y4)]) hx hb dX9_play_96 hl (by decide) rfl (fun ls hl => ?_)
              refine lv_iconst (v := (-1 : Int32)) hx hb dX9_play_98 (by decide) ?_
              refine lv_istore (lv' := [(5, .int (-1 : Int32)), (4, .int y4), (3, .int v8), (0, .ref (am 0)), (1, .int x1), (2, .int y4)]) hx hb dX9_play_99 hl (by decide) rfl (fun ls hl => ?_)
              refine lv_iconst (v := (0 : Int32)) hx hb dX9_play_101 (by decide) ?_
              refine lv_istore (lv' := [(6, .int (0 : Int32)), (5, .int (-1 : Int32)), (4, .int y4), (3, .int v8), (0, .ref (am 0)), (1, .int x1), (2, .int y4)]) hx hb dX9_play_102 hl (by decide) rfl (fun ls hl => ?_)
              have lp1 : ∀ (n : Nat) (w13 : Int32) (w14 : Int32) (w15 : Int32) (st12 : PS) (H : Heap) (locs : List Loc) (ls : Array Slot), JI D (aA am 24) (mW am cI cZ) s.heap st12 H locs → lv_has ls 11 [(0, .ref (am 0)), (1, .int x1), (2, .int y4), (3, .int v8), (4, .int w13), (5, .int w14), (6, .int w15)] → iter (fun q => jm_X9_play_L104 N x1 q.1 q.2.1 q.2.2.1 q.2.2.2) n (w13, w14, w15, st12) = some z0 → W p l e (headSpec wsX9_play { frames := 3, cells := 0, slots := 0, locals := 70 }).room s m AV below meth c H locs 0 0 (MQ below (JQ D (aA am 24) (mW am cI cZ) (mTy cI cZ) (some (.int rZ)) stZ) AV s 0 0 (aA am 24)) (F0 m 104 ls []) := by
                intro n
                induction n with
                | zero =>
                  intro _ _ _ _ _ _ _ _ _ hM
                  exact absurd hM (fun h => iter_zero h)
                | succ n ih1 =>
                  intro w13 w14 w15 st12 H locs ls hI hl hM
                  obtain ⟨z1, hM, hk1⟩ := iter_succ hM
                  replace hM : jm_X9_play_L104 N x1 w13 w14 w15 st12 = some z1 := hM
                  unfold jm_X9_play_L104 at hM
                  refine lv_iload hx hb dX9_play_104 (lv_at hl 6 rfl) ?_
                  refine lv_iload_n hx hb dX9_play_106 rfl (lv_at hl 1 rfl) ?_
                  refine lv_icmp_gt (tgt := 229) hx hb dX9_play_107 (by decide) (fun c16 => ?_) (fun c16 => ?_)
                  · replace hM := if_t c16 hM
                    refine lv_iload hx hb dX9_play_229 (lv_at hl 5 rfl) ?_
                    have hz := Option.some.inj hM
                    subst hz
                    have hz := kn_r hk1
                    subst hz
                    have hz := kn_r hk0
                    exact W.iret hx hb hr (fun t ht hW => jq_i hK hI hz ht hW) hI.2.2.2 dX9_play_231
                  · replace hM := if_f c16 hM
                    refine lv_bipush (v := (-9 : Int32)) hx hb dX9_play_110 (by decide) ?_
                    refine lv_istore (lv' := [(7, .int (-9 : Int32)), (0, .ref (am 0)), (1, .int x1), (2, .int y4), (3, .int v8), (4, .int w13), (5, .int w14), (6, .int w15)]) hx hb dX9_play_112 hl (by decide) rfl (fun ls hl => ?_)
                    refine lv_aload_n hx hb dX9_play_114 rfl (lv_at hl 1 rfl) ?_
                    refine lv_iload hx hb dX9_play_115 (lv_at hl 5 rfl) ?_
                    refine lv_iload hx hb dX9_play_117 (lv_at hl 6 rfl) ?_
                    obtain ⟨v17, st18, hqv17, hM⟩ := bd_at hM
                    refine jcallV (C := RX9) (As := [.int w13, .int w14]) (rest := []) ⟨hx, hb, hml, hown, hts⟩ (jw_X9_leastFrom D am cI cZ hj N hqv17) (cwV 2 hts gX9_play_X9_leastFrom rfl rfl rfl yd_X9_leastFrom ⟨Nat.le_of_ble_eq_true rfl, Nat.le_of_ble_eq_true rfl⟩) hK hI 0 (mg_0 am cI cZ st12) rfl rfl hl.1 rfl (Nat.le_of_ble_eq_true rfl) dX9_play_119 (fun H locs hI => ?_)
                    refine W.eq (g2 := F0 m 122 ls [.int v17]) rfl ?_
                    refine lv_istore (lv' := [(8, .int v17), (7, .int (-9 : Int32)), (0, .ref (am 0)), (1, .int x1), (2, .int y4), (3, .int v8), (4, .int w13), (5, .int w14), (6, .int w15)]) hx hb dX9_play_122 hl (by decide) rfl (fun ls hl => ?_)
                    refine lv_aload_n hx hb dX9_play_124 rfl (lv_at hl 2 rfl) ?_
                    refine va_get (D := D) (ci := 9) (v := .int (st18.1 0 20)) (C := RX9) (T := TX9) (N := 43) hx hb hts hi_X9_play_X9 hown hK hI.1 0 (mg_0 am cI cZ st18) rfl 20 (by decide) f_0 (fun _ h9 => h9) rfl dX9_play_125 ?_
                    refine lv_iconst (v := (1 : Int32)) hx hb dX9_play_128 (by decide) ?_
                    refine lv_isub hx hb dX9_play_129 ?_
                    refine lv_istore (lv' := [(9, .int ((st18.1 0 20) - (1 : Int32))), (8, .int v17), (7, .int (-9 : Int32)), (0, .ref (am 0)), (1, .int x1), (2, .int y4), (3, .int v8), (4, .int w13), (5, .int w14), (6, .int w15)]) hx hb dX9_play_130 hl (by decide) rfl (fun ls hl => ?_)
                    have lp2 : ∀ (n : Nat) (w20 : Int32) (w21 : Int32) (st19 : PS) (H : Heap) (locs : List Loc) (ls : Array Slot), JI D (aA am 24) (mW am cI cZ) s.heap st19 H locs → lv_has ls 11 [(0, .ref (am 0)), (1, .int x1), (2, .int y4), (3, .int v8), (4, .int w13), (5, .int w14), (6, .int w15), (7, .int w20), (8, .int v17), (9, .int w21)] → iter (fun q => jm_X9_play_L132 N w13 w14 w15 v17 q.1 q.2.1 q.2.2) n (w20, w21, st19) = some z1 → W p l e (headSpec wsX9_play { frames := 3, cells := 0, slots := 0, locals := 70 }).room s m AV below meth c H locs 0 0 (MQ below (JQ D (aA am 24) (mW am cI cZ) (mTy cI cZ) (some (.int rZ)) stZ) AV s 0 0 (aA am 24)) (F0 m 132 ls []) := by
                      intro n
                      induction n with
                      | zero =>
                        intro _ _ _ _ _ _ _ _ hM
                        exact absurd hM (fun h => iter_zero h)
                      | succ n ih2 =>
                        intro w20 w21 st19 H locs ls hI hl hM
                        obtain ⟨z2, hM, hk2⟩ := iter_succ hM
                        replace hM : jm_X9_play_L132 N w13 w14 w15 v17 w20 w21 st19 = some z2 := hM
                        unfold jm_X9_play_L132 at hM
                        refine lv_iload hx hb dX9_play_132 (lv_at hl 9 rfl) ?_
                        refine lv_if_lt (tgt := 208) hx hb dX9_play_134 (by decide) (fun c22 => ?_) (fun c22 => ?_)
                        · replace hM := if_t c22 hM
                          refine lv_iload hx hb dX9_play_208 (lv_at hl 4 rfl) ?_
                          refine lv_iconst (v := (1 : Int32)) hx hb dX9_play_210 (by decide) ?_
                          refine lv_iload hx hb dX9_play_211 (lv_at hl 7 rfl) ?_
                          refine lv_ishl hx hb dX9_play_213 ?_
                          refine lv_iconst (v := (-1 : Int32)) hx hb dX9_play_214 (by decide) ?_
                          refine lv_ixor hx hb dX9_play_215 ?_
                          refine lv_iand hx hb dX9_play_216 ?_
                          refine lv_topi (fun y23 ey23 => ?_)
                          replace hM := nm_at ey23 hM
                          refine lv_istore (lv' := [(4, .int y23), (0, .ref (am 0)), (1, .int x1), (2, .int y4), (3, .int v8), (5, .int w14), (6, .int w15), (7, .int w20), (8, .int v17), (9, .int w21)]) hx hb dX9_play_217 hl (by decide) rfl (fun ls hl => ?_)
                          refine lv_iload hx hb dX9_play_219 (lv_at hl 7 rfl) ?_
                          refine lv_istore (lv' := [(5, .int w20), (4, .int y23), (0, .ref (am 0)), (1, .int x1), (2, .int y4), (3, .int v8), (6, .int w15), (7, .int w20), (8, .int v17), (9, .int w21)]) hx hb dX9_play_221 hl (by decide) rfl (fun ls hl => ?_)
                          refine lv_iinc (v := (w15 + (1 : Int32))) (lv' := [(6, .int (w15 + (1 : Int32))), (5, .int w20), (4, .int y23), (0, .ref (am 0)), (1, .int x1), (2, .int y4), (3, .int v8), (7, .int w20), (8, .int v17), (9, .int w21)]) hx hb dX9_play_223 hl (k := 6) rfl rfl (by decide) rfl (fun ls hl => ?_)
                          refine lv_goto (tgt := 104) hx hb dX9_play_226 (by decide) ?_
                          have hz := Option.some.inj hM
                          subst hz
                          have hz := kn_r hk2
                          subst hz
                          exact ih1 y23 w20 (w15 + (1 : Int32)) st19 _ _ _ hI (lv_sub hl [3, 4, 5, 6, 2, 1, 0] rfl) hk1
                        · replace hM := if_f c22 hM
                          refine lv_iload hx hb dX9_play_137 (lv_at hl 4 rfl) ?_
                          refine lv_iload hx hb dX9_play_139 (lv_at hl 9 rfl) ?_
                          obtain ⟨v24, st25, hqv24, hM⟩ := bd_at hM
                          refine jcallS (As := [.int w13, .int w21]) (rest := []) ⟨hx, hb, hml, hown, hts⟩ (jw_X9_has D am cI cZ hj N hqv24) (va_cwS 2 hts gX9_play_X9_has rfl rfl rfl yd_X9_has ⟨Nat.le_of_ble_eq_true rfl, Nat.le_of_ble_eq_true rfl⟩) hK hI rfl hl.1 rfl (Nat.le_of_ble_eq_true rfl) dX9_play_141 (fun H locs hI => ?_)
                          refine W.eq (g2 := F0 m 144 ls [.int v24]) rfl ?_
                          refine lv_if_eq (tgt := 185) hx hb dX9_play_144 (by decide) (fun c26 => ?_) (fun c26 => ?_)
                          · replace hM := if_t c26 hM
                            refine lv_iconst (v := (0 : Int32)) hx hb dX9_play_185 (by decide) ?_
                            refine lv_istore (lv' := [(10, .int (0 : Int32)), (0, .ref (am 0)), (1, .int x1), (2, .int y4), (3, .int v8), (4, .int w13), (5, .int w14), (6, .int w15), (7, .int w20), (8, .int v17), (9, .int w21)]) hx hb dX9_play_186 hl (by decide) rfl (fun ls hl => ?_)
                            refine lv_iload hx hb dX9_play_188 (lv_at hl 0 rfl) ?_
                            refine lv_if_eq (tgt := 198) hx hb dX9_play_190 (by decide) (fun _ => ?_) (fun c9 => absurd c9 (by decide))
                            refine lv_iload hx hb dX9_play_198 (lv_at hl 8 rfl) ?_
                            refine lv_istore (lv' := [(7, .int w20), (10, .int (0 : Int32)), (0, .ref (am 0)), (1, .int x1), (2, .int y4), (3, .int v8), (4, .int w13), (5, .int w14), (6, .int w15), (8, .int v17), (9, .int w21)]) hx hb dX9_play_200 hl (by decide) rfl (fun ls hl => ?_)
                            refine lv_iinc (v := (w21 + (-1 : Int32))) (lv' := [(9, .int (w21 + (-1 : Int32))), (7, .int w20), (10, .int (0 : Int32)), (0, .ref (am 0)), (1, .int x1), (2, .int y4), (3, .int v8), (4, .int w13), (5, .int w14), (6, .int w15), (8, .int v17)]) hx hb dX9_play_202 hl (k := 10) rfl rfl (by decide) rfl (fun ls hl => ?_)
                            refine lv_goto (tgt := 132) hx hb dX9_play_205 (by decide) ?_
                            have hz := Option.some.inj hM
                            subst hz
                            exact ih2 w20 (w21 + (-1 : Int32)) st25 _ _ _ hI (lv_sub hl [3, 4, 5, 6, 7, 8, 9, 1, 10, 0] rfl) hk2
                          · replace hM := if_f c26 hM
                            refine lv_aload_n hx hb dX9_play_147 rfl (lv_at hl 0 rfl) ?_
                            refine lv_iload hx hb dX9_play_148 (lv_at hl 5 rfl) ?_
                            refine lv_iload hx hb dX9_play_150 (lv_at hl 9 rfl) ?_
                            obtain ⟨v27, st28, hqv27, hM⟩ := bd_at hM
                            refine jcallV (C := RX9) (As := [.int w14, .int w21]) (rest := []) ⟨hx, hb, hml, hown, hts⟩ (jw_X9_moves D am cI cZ hj N hqv27) (cwV 2 hts gX9_play_X9_moves rfl rfl rfl yd_X9_moves ⟨Nat.le_of_ble_eq_true rfl, Nat.le_of_ble_eq_true rfl⟩) hK hI 0 (mg_0 am cI cZ st25) rfl rfl hl.1 rfl (Nat.le_of_ble_eq_true rfl) dX9_play_152 (fun H locs hI => ?_)
                            refine W.eq (g2 := F0 m 155 ls [.int v27]) rfl ?_
                            refine lv_aload_n hx hb dX9_play_155 rfl (lv_at hl 0 rfl) ?_
                            refine va_get (D := D) (ci := 9) (v := .ref (am 16)) (C := RX9) (T := TX9) (N := 43) hx hb hts hi_X9_play_X9 hown hK hI.1 0 (mg_0 am cI cZ st28) rfl 33 (by decide) f_1 (fun _ h9 => h9) rfl dX9_play_156 ?_
                            refine lv_bipush (v := (8 : Int32)) hx hb dX9_play_159 (by decide) ?_
                            refine lv_iload hx hb dX9_play_161 (lv_at hl 4 rfl) ?_
                            refine lv_iconst (v := (1 : Int32)) hx hb dX9_play_163 (by decide) ?_
                            refine lv_iload hx hb dX9_play_164 (lv_at hl 9 rfl) ?_
                            refine lv_ishl hx hb dX9_play_166 ?_
                            refine lv_iconst (v := (-1 : Int32)) hx hb dX9_play_167 (by decide) ?_
                            refine lv_ixor hx hb dX9_play_168 ?_
                            refine lv_iand hx hb dX9_play_169 ?_
                            refine lv_imul hx hb dX9_play_170 ?_
                            refine lv_iload hx hb dX9_play_171 (lv_at hl 9 rfl) ?_
                            refine lv_iadd hx hb dX9_play_173 ?_
                            obtain ⟨g29, hM⟩ := gd_at hM
                            refine va_iald hx hb hK hI.1 16 0 (mg_16 am cI cZ st28) rfl (inB_vp g29) dX9_play_174 ?_
                            refine lv_iadd hx hb dX9_play_175 ?_
                            refine lv_iload hx hb dX9_play_176 (lv_at hl 8 rfl) ?_
                            refine lv_icmp_ne (tgt := 185) hx hb dX9_play_178 (by decide) (fun c30 => ?_) (fun c30 => ?_)
                            · replace hM := if_f c30 hM
                              refine lv_iconst (v := (0 : Int32)) hx hb dX9_play_185 (by decide) ?_
                              refine lv_istore (lv' := [(10, .int (0 : Int32)), (0, .ref (am 0)), (1, .int x1), (2, .int y4), (3, .int v8), (4, .int w13), (5, .int w14), (6, .int w15), (7, .int w20), (8, .int v17), (9, .int w21)]) hx hb dX9_play_186 hl (by decide) rfl (fun ls hl => ?_)
                              refine lv_iload hx hb dX9_play_188 (lv_at hl 0 rfl) ?_
                              refine lv_if_eq (tgt := 198) hx hb dX9_play_190 (by decide) (fun _ => ?_) (fun c9 => absurd c9 (by decide))
                              refine lv_iload hx hb dX9_play_198 (lv_at hl 8 rfl) ?_
                              refine lv_istore (lv' := [(7, .int w20), (10, .int (0 : Int32)), (0, .ref (am 0)), (1, .int x1), (2, .int y4), (3, .int v8), (4, .int w13), (5, .int w14), (6, .int w15), (8, .int v17), (9, .int w21)]) hx hb dX9_play_200 hl (by decide) rfl (fun ls hl => ?_)
                              refine lv_iinc (v := (w21 + (-1 : Int32))) (lv' := [(9, .int (w21 + (-1 : Int32))), (7, .int w20), (10, .int (0 : Int32)), (0, .ref (am 0)), (1, .int x1), (2, .int y4), (3, .int v8), (4, .int w13), (5, .int w14), (6, .int w15), (8, .int v17)]) hx hb dX9_play_202 hl (k := 10) rfl rfl (by decide) rfl (fun ls hl => ?_)
                              refine lv_goto (tgt := 132) hx hb dX9_play_205 (by decide) ?_
                              have hz := Option.some.inj hM
                              subst hz
                              exact ih2 w20 (w21 + (-1 : Int32)) st28 _ _ _ hI (lv_sub hl [3, 4, 5, 6, 7, 8, 9, 1, 10, 0] rfl) hk2
                            · replace hM := if_t c30 hM
                              refine lv_iconst (v := (1 : Int32)) hx hb dX9_play_181 (by decide) ?_
                              refine lv_goto (tgt := 186) hx hb dX9_play_182 (by decide) ?_
                              refine lv_istore (lv' := [(10, .int (1 : Int32)), (0, .ref (am 0)), (1, .int x1), (2, .int y4), (3, .int v8), (4, .int w13), (5, .int w14), (6, .int w15), (7, .int w20), (8, .int v17), (9, .int w21)]) hx hb dX9_play_186 hl (by decide) rfl (fun ls hl => ?_)
                              refine lv_iload hx hb dX9_play_188 (lv_at hl 0 rfl) ?_
                              refine lv_if_eq (tgt := 198) hx hb dX9_play_190 (by decide) (fun c9 => absurd c9 (by decide)) (fun _ => ?_)
                              refine lv_iload hx hb dX9_play_193 (lv_at hl 10 rfl) ?_
                              refine lv_goto (tgt := 200) hx hb dX9_play_195 (by decide) ?_
                              refine lv_istore (lv' := [(7, .int w21), (10, .int (1 : Int32)), (0, .ref (am 0)), (1, .int x1), (2, .int y4), (3, .int v8), (4, .int w13), (5, .int w14), (6, .int w15), (8, .int v17), (9, .int w21)]) hx hb dX9_play_200 hl (by decide) rfl (fun ls hl => ?_)
                              refine lv_iinc (v := (w21 + (-1 : Int32))) (lv' := [(9, .int (w21 + (-1 : Int32))), (7, .int w21), (10, .int (1 : Int32)), (0, .ref (am 0)), (1, .int x1), (2, .int y4), (3, .int v8), (4, .int w13), (5, .int w14), (6, .int w15), (8, .int v17)]) hx hb dX9_play_202 hl (k := 10) rfl rfl (by decide) rfl (fun ls hl => ?_)
                              refine lv_goto (tgt := 132) hx hb dX9_play_205 (by decide) ?_
                              have hz := Option.some.inj hM
                              subst hz
                              exact ih2 w21 (w21 + (-1 : Int32)) st28 _ _ _ hI (lv_sub hl [3, 4, 5, 6, 7, 8, 9, 1, 10, 0] rfl) hk2
                    exact lp2 N (-9 : Int32) ((st18.1 0 20) - (1 : Int32)) st18 _ _ _ hI (lv_sub hl [3, 4, 5, 6, 7, 8, 9, 2, 1, 0] rfl) hM
              exact lp1 N y4 (-1 : Int32) (0 : Int32) st9 _ _ _ hI (lv_sub hl [4, 5, 6, 3, 2, 1, 0] rfl) hM
            · replace hM := if_f c11 hM
              refine lv_bipush (v := (-9 : Int32)) hx hb dX9_play_92 (by decide) ?_
              have hz := Option.some.inj hM
              subst hz
              have hz := kn_r hk0
              exact W.iret hx hb hr (fun t ht hW => jq_i hK hI hz ht hW) hI.2.2.2 dX9_play_94
          · replace hM := if_f c10 hM
            refine lv_iload_n hx hb dX9_play_82 rfl (lv_at hl 0 rfl) ?_
            have hz := Option.some.inj hM
            subst hz
            have hz := kn_r hk0
            exact W.iret hx hb hr (fun t ht hW => jq_i hK hI hz ht hW) hI.2.2.2 dX9_play_83
        · replace hM := if_f c7 hM
          refine lv_iconst (v := (0 : Int32)) hx hb dX9_play_28 (by decide) ?_
          refine lv_istore (lv' := [(4, .int (0 : Int32)), (0, .ref (am 0)), (1, .int x1), (2, .int y4), (3, .int w6)]) hx hb dX9_play_29 hl (by decide) rfl (fun ls hl => ?_)
          have lp1 : ∀ (n : Nat) (w32 : Int32) (st31 : PS) (H : Heap) (locs : List Loc) (ls : Array Slot), JI D (aA am 24) (mW am cI cZ) s.heap st31 H locs → lv_has ls 11 [(0, .ref (am 0)), (1, .int x1), (2, .int y4), (3, .int w6), (4, .int w32)] → iter (fun q => jm_X9_play_L31 N w6 q.1 q.2) n (w32, st31) = some z0 → W p l e (headSpec wsX9_play { frames := 3, cells := 0, slots := 0, locals := 70 }).room s m AV below meth c H locs 0 0 (MQ below (JQ D (aA am 24) (mW am cI cZ) (mTy cI cZ) (some (.int rZ)) stZ) AV s 0 0 (aA am 24)) (F0 m 31 ls []) := by
            intro n
            induction n with
            | zero =>
              intro _ _ _ _ _ _ _ hM
              exact absurd hM (fun h => iter_zero h)
            | succ n ih1 =>
              intro w32 st31 H locs ls hI hl hM
              obtain ⟨z1, hM, hk1⟩ := iter_succ hM
              replace hM : jm_X9_play_L31 N w6 w32 st31 = some z1 := hM
              unfold jm_X9_play_L31 at hM
              refine lv_iload hx hb dX9_play_31 (lv_at hl 4 rfl) ?_
              refine lv_aload_n hx hb dX9_play_33 rfl (lv_at hl 0 rfl) ?_
              refine va_get (D := D) (ci := 9) (v := .int (st31.1 0 20)) (C := RX9) (T := TX9) (N := 43) hx hb hts hi_X9_play_X9 hown hK hI.1 0 (mg_0 am cI cZ st31) rfl 20 (by decide) f_0 (fun _ h9 => h9) rfl dX9_play_34 ?_
              refine lv_icmp_ge (tgt := 65) hx hb dX9_play_37 (by decide) (fun c33 => ?_) (fun c33 => ?_)
              · replace hM := if_t c33 hM
                refine lv_iinc (v := (w6 + (1 : Int32))) (lv' := [(3, .int (w6 + (1 : Int32))), (0, .ref (am 0)), (1, .int x1), (2, .int y4), (4, .int w32)]) hx hb dX9_play_65 hl (k := 3) rfl rfl (by decide) rfl (fun ls hl => ?_)
                refine lv_goto (tgt := 23) hx hb dX9_play_68 (by decide) ?_
                have hz := Option.some.inj hM
                subst hz
                have hz := kn_r hk1
                subst hz
                exact ih0 (w6 + (1 : Int32)) st31 _ _ _ hI (lv_sub hl [1, 2, 3, 0] rfl) hk0
              · replace hM := if_f c33 hM
                refine lv_aload_n hx hb dX9_play_40 rfl (lv_at hl 0 rfl) ?_
                refine va_get (D := D) (ci := 9) (v := .ref (am 16)) (C := RX9) (T := TX9) (N := 43) hx hb hts hi_X9_play_X9 hown hK hI.1 0 (mg_0 am cI cZ st31) rfl 33 (by decide) f_1 (fun _ h9 => h9) rfl dX9_play_41 ?_
                refine lv_bipush (v := (8 : Int32)) hx hb dX9_play_44 (by decide) ?_
                refine lv_iload_n hx hb dX9_play_46 rfl (lv_at hl 3 rfl) ?_
                refine lv_imul hx hb dX9_play_47 ?_
                refine lv_iload hx hb dX9_play_48 (lv_at hl 4 rfl) ?_
                refine lv_iadd hx hb dX9_play_50 ?_
                refine lv_aload_n hx hb dX9_play_51 rfl (lv_at hl 0 rfl) ?_
                refine lv_iload_n hx hb dX9_play_52 rfl (lv_at hl 3 rfl) ?_
                refine lv_iload hx hb dX9_play_53 (lv_at hl 4 rfl) ?_
                obtain ⟨v34, st35, hqv34, hM⟩ := bd_at hM
                refine jcallV (C := RX9) (As := [.int w6, .int w32]) (rest := [.int (((8 : Int32) * w6) + w32), .ref (am 16)]) ⟨hx, hb, hml, hown, hts⟩ (jw_X9_leastFrom D am cI cZ hj N hqv34) (cwV 2 hts gX9_play_X9_leastFrom rfl rfl rfl yd_X9_leastFrom ⟨Nat.le_of_ble_eq_true rfl, Nat.le_of_ble_eq_true rfl⟩) hK hI 0 (mg_0 am cI cZ st31) rfl rfl hl.1 rfl (Nat.le_of_ble_eq_true rfl) dX9_play_55 (fun H locs hI => ?_)
                refine W.eq (g2 := F0 m 58 ls [.int v34, .int (((8 : Int32) * w6) + w32), .ref (am 16)]) rfl ?_
                obtain ⟨g37, hM⟩ := gd_at hM
                refine jiast (x := v34) (st2 := pU st35 16 ((((8 : Int32) * w6) + w32)).toNatClampNeg (v34)) hx hb hK (mD hj) hI 16 0 (mg_16 am cI cZ st35) rfl (inB_vp g37) (ms_16 am cI cZ st35 _) dX9_play_58 (fun st36 est36 H locs hI => ?_)
                replace hM := nm_at est36 hM
                refine lv_iinc (v := (w32 + (1 : Int32))) (lv' := [(4, .int (w32 + (1 : Int32))), (0, .ref (am 0)), (1, .int x1), (2, .int y4), (3, .int w6)]) hx hb dX9_play_59 hl (k := 4) rfl rfl (by decide) rfl (fun ls hl => ?_)
                refine lv_goto (tgt := 31) hx hb dX9_play_62 (by decide) ?_
                have hz := Option.some.inj hM
                subst hz
                exact ih1 (w32 + (1 : Int32)) st36 _ _ _ hI (lv_sub hl [1, 2, 3, 4, 0] rfl) hk1
          exact lp1 N (0 : Int32) st5 _ _ _ hI (lv_sub hl [1, 2, 3, 4, 0] rfl) hM
    exact lp0 N (0 : Int32) st2 _ _ _ hI (lv_sub hl [2, 3, 1, 0] rfl) hM
  · replace hM := if_t c3 hM
    refine lv_iconst (v := (-1 : Int32)) hx hb dX9_play_10 (by decide) ?_
    have hz := Option.some.inj hM
    exact W.iret hx hb hr (fun t ht hW => jq_i hK hI hz ht hW) hI.2.2.2 dX9_play_11
set_option maxHeartbeats 4000000 in
set_option maxRecDepth 100000 in
theorem jw_X9_common {l : Launch} (D : va_G) (am : Nat → Nat) (cI cZ : ClassId) (hj : aJ am 24) (N : Nat) {x0 : Int32} {x1 : Int32} {st stZ : PS} {rZ : Int32} (hM : jm_X9_common N x0 x1 st = some (rZ, stZ)) : Met l yX9_common wsX9_common ({ frames := 0, cells := 0, slots := 0, locals := 0 }) (va_Pc [.int x0, .int x1] (JH D (mW am cI cZ) (mTy cI cZ) st)) (JQ D (aA am 24) (mW am cI cZ) (mTy cI cZ) (some (.int rZ)) stZ) 0 0 (aA am 24) := by
  refine jStart (cc := cX9_common) (maxL := 5) (ret := (some .int)) [.int x0, .int x1] (by decide) rfl (Nat.le_of_ble_eq_true rfl) (fun p e s m below meth c ls hx hb hr hlocks hts hown hml hK hI hl => ?_)
  have hown : s.vm.findClass RX9 = some m.cls := hown
  replace hl : lv_has ls 5 [(0, .int x0), (1, .int x1)] := hl
  generalize hAV : ([.int x0, .int x1] : List Value).toArray = AV at hts ⊢
  unfold jm_X9_common at hM
  refine lv_iload_n hx hb dX9_common_0 rfl (lv_at hl 0 rfl) ?_
  refine lv_istore_n (lv' := [(2, .int x0), (0, .int x0), (1, .int x1)]) hx hb dX9_common_1 rfl hl (by decide) rfl (fun ls hl => ?_)
  refine lv_iload_n hx hb dX9_common_2 rfl (lv_at hl 2 rfl) ?_
  refine lv_istore_n (lv' := [(3, .int x1), (2, .int x0), (0, .int x0), (1, .int x1)]) hx hb dX9_common_3 rfl hl (by decide) rfl (fun ls hl => ?_)
  have lp0 : ∀ (n : Nat) (w2 : Int32) (w3 : Int32) (st1 : PS) (H : Heap) (locs : List Loc) (ls : Array Slot), JI D (aA am 24) (mW am cI cZ) s.heap st1 H locs → lv_has ls 5 [(0, .int x0), (1, .int x1), (2, .int w2), (3, .int w3)] → iter (fun q => jm_X9_common_L4 N q.1 q.2.1 q.2.2) n (w2, w3, st1) = some (rZ, stZ) → W p l e (headSpec wsX9_common { frames := 0, cells := 0, slots := 0, locals := 0 }).room s m AV below meth c H locs 0 0 (MQ below (JQ D (aA am 24) (mW am cI cZ) (mTy cI cZ) (some (.int rZ)) stZ) AV s 0 0 (aA am 24)) (F0 m 4 ls []) := by
    intro n
    induction n with
    | zero =>
      intro _ _ _ _ _ _ _ _ hM
      exact absurd hM (fun h => iter_zero h)
    | succ n ih0 =>
      intro w2 w3 st1 H locs ls hI hl hM
      obtain ⟨z0, hM, hk0⟩ := iter_succ hM
      replace hM : jm_X9_common_L4 N w2 w3 st1 = some z0 := hM
      unfold jm_X9_common_L4 at hM
      refine lv_iload_n hx hb dX9_common_4 rfl (lv_at hl 3 rfl) ?_
      refine lv_if_eq (tgt := 21) hx hb dX9_common_5 (by decide) (fun c4 => ?_) (fun c4 => ?_)
      · replace hM := if_t c4 hM
        refine lv_iload_n hx hb dX9_common_21 rfl (lv_at hl 2 rfl) ?_
        have hz := Option.some.inj hM
        subst hz
        have hz := kn_r hk0
        exact W.iret hx hb hr (fun t ht hW => jq_i hK hI hz ht hW) hI.2.2.2 dX9_common_22
      · replace hM := if_f c4 hM
        refine lv_iload_n hx hb dX9_common_8 rfl (lv_at hl 2 rfl) ?_
        refine lv_iload_n hx hb dX9_common_9 rfl (lv_at hl 3 rfl) ?_
        obtain ⟨g5, hM⟩ := gd_at hM
        refine lv_irem hx hb dX9_common_10 (nzB_ne g5) ?_
        refine lv_istore (lv' := [(4, .int (w2 - w2 / w3 * w3)), (0, .int x0), (1, .int x1), (2, .int w2), (3, .int w3)]) hx hb dX9_common_11 hl (by decide) rfl (fun ls hl => ?_)
        refine lv_iload_n hx hb dX9_common_13 rfl (lv_at hl 4 rfl) ?_
        refine lv_istore_n (lv' := [(2, .int w3), (4, .int (w2 - w2 / w3 * w3)), (0, .int x0), (1, .int x1), (3, .int w3)]) hx hb dX9_common_14 rfl hl (by decide) rfl (fun ls hl => ?_)
        refine lv_iload hx hb dX9_common_15 (lv_at hl 1 rfl) ?_
        refine lv_istore_n (lv' := [(3, .int (w2 - w2 / w3 * w3)), (2, .int w3), (4, .int (w2 - w2 / w3 * w3)), (0, .int x0), (1, .int x1)]) hx hb dX9_common_17 rfl hl (by decide) rfl (fun ls hl => ?_)
        refine lv_goto (tgt := 4) hx hb dX9_common_18 (by decide) ?_
        have hz := Option.some.inj hM
        subst hz
        exact ih0 w3 (w2 - w2 / w3 * w3) st1 _ _ _ hI (lv_sub hl [3, 4, 1, 0] rfl) hk0
  exact lp0 N x0 x1 st _ _ _ hI (lv_sub hl [2, 3, 1, 0] rfl) hM
