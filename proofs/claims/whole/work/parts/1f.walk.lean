set_option maxRecDepth 20000 in
theorem hi_X9_puppet_X9 : ∀ w ∈ wsX90, w ∈ wsX9_puppet := by decide +kernel
set_option maxHeartbeats 4000000 in
set_option maxRecDepth 100000 in
theorem jw_X9_puppet {l : Launch} (D : va_G) (am : Nat → Nat) (cI cZ : ClassId) (hj : aJ am 24) (N : Nat) {st stZ : PS} {rZ : Int32} (hM : jm_X9_puppet N st = some (rZ, stZ)) : Met l yX9_puppet wsX9_puppet ({ frames := 7, cells := 0, slots := 0, locals := 149 }) (va_Pc [.ref (am 0)] (JH D (mW am cI cZ) (mTy cI cZ) st)) (JQ D (aA am 24) (mW am cI cZ) (mTy cI cZ) (some (.int rZ)) stZ) 0 0 (aA am 24) := by
  refine jStart (cc := cX9_puppet) (maxL := 3) (ret := (some .int)) [.ref (am 0)] (by decide) rfl (Nat.le_of_ble_eq_true rfl) (fun p e s m below meth c ls hx hb hr hlocks hts hown hml hK hI hl => ?_)
  have hown : s.vm.findClass RX9 = some m.cls := hown
  replace hl : lv_has ls 3 [(0, .ref (am 0))] := hl
  generalize hAV : ([.ref (am 0)] : List Value).toArray = AV at hts ⊢
  have f_0 := hts (.fieldLink RX9 84 "PuppetBarModel" "byteMany" "I") (by decide +kernel)
  have f_1 := hts (.fieldLink RX9 114 "PuppetBarModel" "readLimbs" "I") (by decide +kernel)
  have f_2 := hts (.fieldLink RX9 169 "PuppetBarModel" "n" "I") (by decide +kernel)
  have f_3 := hts (.fieldLink RX9 125 "PuppetBarModel" "readStrings" "I") (by decide +kernel)
  have f_4 := hts (.fieldLink RX9 172 "PuppetBarModel" "m" "I") (by decide +kernel)
  have f_5 := hts (.fieldLink RX9 128 "PuppetBarModel" "readBeats" "I") (by decide +kernel)
  have f_6 := hts (.fieldLink RX9 175 "PuppetBarModel" "beatMany" "I") (by decide +kernel)
  have f_7 := hts (.fieldLink RX9 46 "PuppetBarModel" "now" "[I") (by decide +kernel)
  have f_8 := hts (.fieldLink RX9 135 "PuppetBarModel" "readLift" "I") (by decide +kernel)
  have f_9 := hts (.fieldLink RX9 141 "PuppetBarModel" "readTilt" "I") (by decide +kernel)
  have f_10 := hts (.fieldLink RX9 181 "PuppetBarModel" "undoMany" "I") (by decide +kernel)
  have f_11 := hts (.fieldLink RX9 184 "PuppetBarModel" "seenMany" "I") (by decide +kernel)
  have f_12 := hts (.fieldLink RX9 64 "PuppetBarModel" "isKept" "[Z") (by decide +kernel)
  have f_13 := hts (.fieldLink RX9 159 "PuppetBarModel" "readItems" "I") (by decide +kernel)
  have f_14 := hts (.fieldLink RX9 37 "PuppetBarModel" "beatLifts" "[I") (by decide +kernel)
  have f_15 := hts (.fieldLink RX9 19 "PuppetBarModel" "readBeat" "[I") (by decide +kernel)
  have f_16 := hts (.fieldLink RX9 40 "PuppetBarModel" "beatTilts" "[I") (by decide +kernel)
  have f_17 := hts (.fieldLink RX9 16 "PuppetBarModel" "readString" "[I") (by decide +kernel)
  have f_18 := hts (.fieldLink RX9 34 "PuppetBarModel" "strengths" "[I") (by decide +kernel)
  have f_19 := hts (.fieldLink RX9 25 "PuppetBarModel" "parents" "[I") (by decide +kernel)
  have f_20 := hts (.fieldLink RX9 13 "PuppetBarModel" "readLimb" "[I") (by decide +kernel)
  have f_21 := hts (.fieldLink RX9 28 "PuppetBarModel" "bones" "[I") (by decide +kernel)
  have f_22 := hts (.fieldLink RX9 31 "PuppetBarModel" "weights" "[I") (by decide +kernel)
  unfold jm_X9_puppet at hM
  refine lv_aload_n hx hb dX9_puppet_0 rfl (lv_at hl 0 rfl) ?_
  obtain ⟨v1, st2, hqv1, hM⟩ := bd_at hM
  refine jcallV (C := RX9) (As := []) (rest := []) ⟨hx, hb, hml, hown, hts⟩ (jw_X9_faultOf D am cI cZ hj N hqv1) (cwV 0 hts gX9_puppet_X9_faultOf rfl rfl rfl yd_X9_faultOf ⟨Nat.le_of_ble_eq_true rfl, Nat.le_of_ble_eq_true rfl⟩) hK hI 0 (mg_0 am cI cZ st) rfl rfl hl.1 rfl (Nat.le_of_ble_eq_true rfl) dX9_puppet_1 (fun H locs hI => ?_)
  refine W.eq (g2 := F0 m 4 ls [.int v1]) rfl ?_
  refine lv_istore_n (lv' := [(1, .int v1), (0, .ref (am 0))]) hx hb dX9_puppet_4 rfl hl (by decide) rfl (fun ls hl => ?_)
  refine lv_iload_n hx hb dX9_puppet_5 rfl (lv_at hl 0 rfl) ?_
  refine lv_bipush (v := (-9 : Int32)) hx hb dX9_puppet_6 (by decide) ?_
  refine lv_icmp_eq (tgt := 16) hx hb dX9_puppet_8 (by decide) (fun c3 => ?_) (fun c3 => ?_)
  · replace hM := if_t c3 hM
    refine lv_aload_n hx hb dX9_puppet_16 rfl (lv_at hl 1 rfl) ?_
    refine lv_iconst (v := (0 : Int32)) hx hb dX9_puppet_17 (by decide) ?_
    refine jput (D := D) (ci := 9) (v := .int (0 : Int32)) (ty := .int) (C := RX9) (T := TX9) (N := 43) (st2 := pU st2 0 0 (0 : Int32)) hx hb hts hi_X9_puppet_X9 tyX9 tyX9_ok nmX9 hown hK (mD hj) hI 0 (mg_0 am cI cZ st2) rfl 0 (by decide) f_0 (fun _ h9 => h9) rfl (by decide +kernel) rfl rfl (Nat.le_of_ble_eq_true rfl) (ms_0_0 am cI cZ st2 _) dX9_puppet_18 (fun st4 est4 H locs hI => ?_)
    replace hM := nm_at est4 hM
    refine lv_aload_n hx hb dX9_puppet_21 rfl (lv_at hl 1 rfl) ?_
    refine lv_aload_n hx hb dX9_puppet_22 rfl (lv_at hl 1 rfl) ?_
    refine va_get (D := D) (ci := 9) (v := .int (st4.1 0 6)) (C := RX9) (T := TX9) (N := 43) hx hb hts hi_X9_puppet_X9 hown hK hI.1 0 (mg_0 am cI cZ st4) rfl 6 (by decide) f_1 (fun _ h9 => h9) rfl dX9_puppet_23 ?_
    refine jput (D := D) (ci := 9) (v := .int (st4.1 0 6)) (ty := .int) (C := RX9) (T := TX9) (N := 43) (st2 := pU st4 0 18 (st4.1 0 6)) hx hb hts hi_X9_puppet_X9 tyX9 tyX9_ok nmX9 hown hK (mD hj) hI 0 (mg_0 am cI cZ st4) rfl 18 (by decide) f_2 (fun _ h9 => h9) rfl (by decide +kernel) rfl rfl (Nat.le_of_ble_eq_true rfl) (ms_0_18 am cI cZ st4 _) dX9_puppet_26 (fun st5 est5 H locs hI => ?_)
    replace hM := nm_at est5 hM
    refine lv_aload_n hx hb dX9_puppet_29 rfl (lv_at hl 1 rfl) ?_
    refine lv_aload_n hx hb dX9_puppet_30 rfl (lv_at hl 1 rfl) ?_
    refine va_get (D := D) (ci := 9) (v := .int (st5.1 0 7)) (C := RX9) (T := TX9) (N := 43) hx hb hts hi_X9_puppet_X9 hown hK hI.1 0 (mg_0 am cI cZ st5) rfl 7 (by decide) f_3 (fun _ h9 => h9) rfl dX9_puppet_31 ?_
    refine jput (D := D) (ci := 9) (v := .int (st5.1 0 7)) (ty := .int) (C := RX9) (T := TX9) (N := 43) (st2 := pU st5 0 19 (st5.1 0 7)) hx hb hts hi_X9_puppet_X9 tyX9 tyX9_ok nmX9 hown hK (mD hj) hI 0 (mg_0 am cI cZ st5) rfl 19 (by decide) f_4 (fun _ h9 => h9) rfl (by decide +kernel) rfl rfl (Nat.le_of_ble_eq_true rfl) (ms_0_19 am cI cZ st5 _) dX9_puppet_34 (fun st6 est6 H locs hI => ?_)
    replace hM := nm_at est6 hM
    refine lv_aload_n hx hb dX9_puppet_37 rfl (lv_at hl 1 rfl) ?_
    refine lv_aload_n hx hb dX9_puppet_38 rfl (lv_at hl 1 rfl) ?_
    refine va_get (D := D) (ci := 9) (v := .int (st6.1 0 8)) (C := RX9) (T := TX9) (N := 43) hx hb hts hi_X9_puppet_X9 hown hK hI.1 0 (mg_0 am cI cZ st6) rfl 8 (by decide) f_5 (fun _ h9 => h9) rfl dX9_puppet_39 ?_
    refine jput (D := D) (ci := 9) (v := .int (st6.1 0 8)) (ty := .int) (C := RX9) (T := TX9) (N := 43) (st2 := pU st6 0 20 (st6.1 0 8)) hx hb hts hi_X9_puppet_X9 tyX9 tyX9_ok nmX9 hown hK (mD hj) hI 0 (mg_0 am cI cZ st6) rfl 20 (by decide) f_6 (fun _ h9 => h9) rfl (by decide +kernel) rfl rfl (Nat.le_of_ble_eq_true rfl) (ms_0_20 am cI cZ st6 _) dX9_puppet_42 (fun st7 est7 H locs hI => ?_)
    replace hM := nm_at est7 hM
    refine lv_iconst (v := (0 : Int32)) hx hb dX9_puppet_45 (by decide) ?_
    refine lv_istore_n (lv' := [(2, .int (0 : Int32)), (1, .int v1), (0, .ref (am 0))]) hx hb dX9_puppet_46 rfl hl (by decide) rfl (fun ls hl => ?_)
    have lp0 : ∀ (n : Nat) (w9 : Int32) (st8 : PS) (H : Heap) (locs : List Loc) (ls : Array Slot), JI D (aA am 24) (mW am cI cZ) s.heap st8 H locs → lv_has ls 3 [(0, .ref (am 0)), (1, .int v1), (2, .int w9)] → iter (fun q => jm_X9_puppet_L47 N q.1 q.2) n (w9, st8) = some (rZ, stZ) → W p l e (headSpec wsX9_puppet { frames := 7, cells := 0, slots := 0, locals := 149 }).room s m AV below meth c H locs 0 0 (MQ below (JQ D (aA am 24) (mW am cI cZ) (mTy cI cZ) (some (.int rZ)) stZ) AV s 0 0 (aA am 24)) (F0 m 47 ls []) := by
      intro n
      induction n with
      | zero =>
        intro _ _ _ _ _ _ _ hM
        exact absurd hM (fun h => iter_zero h)
      | succ n ih0 =>
        intro w9 st8 H locs ls hI hl hM
        obtain ⟨z0, hM, hk0⟩ := iter_succ hM
        replace hM : jm_X9_puppet_L47 N w9 st8 = some z0 := hM
        unfold jm_X9_puppet_L47 at hM
        refine lv_iload_n hx hb dX9_puppet_47 rfl (lv_at hl 2 rfl) ?_
        refine lv_aload_n hx hb dX9_puppet_48 rfl (lv_at hl 0 rfl) ?_
        refine va_get (D := D) (ci := 9) (v := .int (st8.1 0 18)) (C := RX9) (T := TX9) (N := 43) hx hb hts hi_X9_puppet_X9 hown hK hI.1 0 (mg_0 am cI cZ st8) rfl 18 (by decide) f_2 (fun _ h9 => h9) rfl dX9_puppet_49 ?_
        refine lv_icmp_ge (tgt := 116) hx hb dX9_puppet_52 (by decide) (fun c10 => ?_) (fun c10 => ?_)
        · replace hM := if_t c10 hM
          refine lv_iconst (v := (0 : Int32)) hx hb dX9_puppet_116 (by decide) ?_
          refine lv_istore_n (lv' := [(2, .int (0 : Int32)), (0, .ref (am 0)), (1, .int v1)]) hx hb dX9_puppet_117 rfl hl (by decide) rfl (fun ls hl => ?_)
          have lp1 : ∀ (n : Nat) (w12 : Int32) (st11 : PS) (H : Heap) (locs : List Loc) (ls : Array Slot), JI D (aA am 24) (mW am cI cZ) s.heap st11 H locs → lv_has ls 3 [(0, .ref (am 0)), (1, .int v1), (2, .int w12)] → iter (fun q => jm_X9_puppet_L118 N q.1 q.2) n (w12, st11) = some z0 → W p l e (headSpec wsX9_puppet { frames := 7, cells := 0, slots := 0, locals := 149 }).room s m AV below meth c H locs 0 0 (MQ below (JQ D (aA am 24) (mW am cI cZ) (mTy cI cZ) (some (.int rZ)) stZ) AV s 0 0 (aA am 24)) (F0 m 118 ls []) := by
            intro n
            induction n with
            | zero =>
              intro _ _ _ _ _ _ _ hM
              exact absurd hM (fun h => iter_zero h)
            | succ n ih1 =>
              intro w12 st11 H locs ls hI hl hM
              obtain ⟨z1, hM, hk1⟩ := iter_succ hM
              replace hM : jm_X9_puppet_L118 N w12 st11 = some z1 := hM
              unfold jm_X9_puppet_L118 at hM
              refine lv_iload_n hx hb dX9_puppet_118 rfl (lv_at hl 2 rfl) ?_
              refine lv_bipush (v := (21 : Int32)) hx hb dX9_puppet_119 (by decide) ?_
              refine lv_icmp_ge (tgt := 137) hx hb dX9_puppet_121 (by decide) (fun c13 => ?_) (fun c13 => ?_)
              · replace hM := if_t c13 hM
                refine lv_aload_n hx hb dX9_puppet_137 rfl (lv_at hl 0 rfl) ?_
                refine va_get (D := D) (ci := 9) (v := .ref (am 13)) (C := RX9) (T := TX9) (N := 43) hx hb hts hi_X9_puppet_X9 hown hK hI.1 0 (mg_0 am cI cZ st11) rfl 28 (by decide) f_7 (fun _ h9 => h9) rfl dX9_puppet_138 ?_
                refine lv_iconst (v := (0 : Int32)) hx hb dX9_puppet_141 (by decide) ?_
                refine lv_aload_n hx hb dX9_puppet_142 rfl (lv_at hl 0 rfl) ?_
                refine va_get (D := D) (ci := 9) (v := .int (st11.1 0 12)) (C := RX9) (T := TX9) (N := 43) hx hb hts hi_X9_puppet_X9 hown hK hI.1 0 (mg_0 am cI cZ st11) rfl 12 (by decide) f_8 (fun _ h9 => h9) rfl dX9_puppet_143 ?_
                refine jiast (x := (st11.1 0 12)) (st2 := pU st11 13 0 ((st11.1 0 12))) hx hb hK (mD hj) hI 13 0 (mg_13 am cI cZ st11) rfl (inB_vp rfl) (ms_13 am cI cZ st11 _) dX9_puppet_146 (fun st14 est14 H locs hI => ?_)
                replace hM := nm_at est14 hM
                refine lv_aload_n hx hb dX9_puppet_147 rfl (lv_at hl 0 rfl) ?_
                refine va_get (D := D) (ci := 9) (v := .ref (am 13)) (C := RX9) (T := TX9) (N := 43) hx hb hts hi_X9_puppet_X9 hown hK hI.1 0 (mg_0 am cI cZ st14) rfl 28 (by decide) f_7 (fun _ h9 => h9) rfl dX9_puppet_148 ?_
                refine lv_iconst (v := (1 : Int32)) hx hb dX9_puppet_151 (by decide) ?_
                refine lv_aload_n hx hb dX9_puppet_152 rfl (lv_at hl 0 rfl) ?_
                refine va_get (D := D) (ci := 9) (v := .int (st14.1 0 13)) (C := RX9) (T := TX9) (N := 43) hx hb hts hi_X9_puppet_X9 hown hK hI.1 0 (mg_0 am cI cZ st14) rfl 13 (by decide) f_9 (fun _ h9 => h9) rfl dX9_puppet_153 ?_
                refine jiast (x := (st14.1 0 13)) (st2 := pU st14 13 1 ((st14.1 0 13))) hx hb hK (mD hj) hI 13 0 (mg_13 am cI cZ st14) rfl (inB_vp rfl) (ms_13 am cI cZ st14 _) dX9_puppet_156 (fun st15 est15 H locs hI => ?_)
                replace hM := nm_at est15 hM
                refine lv_iconst (v := (0 : Int32)) hx hb dX9_puppet_157 (by decide) ?_
                refine lv_istore_n (lv' := [(2, .int (0 : Int32)), (0, .ref (am 0)), (1, .int v1)]) hx hb dX9_puppet_158 rfl hl (by decide) rfl (fun ls hl => ?_)
                have lp2 : ∀ (n : Nat) (w17 : Int32) (st16 : PS) (H : Heap) (locs : List Loc) (ls : Array Slot), JI D (aA am 24) (mW am cI cZ) s.heap st16 H locs → lv_has ls 3 [(0, .ref (am 0)), (1, .int v1), (2, .int w17)] → iter (fun q => jm_X9_puppet_L159 N q.1 q.2) n (w17, st16) = some z1 → W p l e (headSpec wsX9_puppet { frames := 7, cells := 0, slots := 0, locals := 149 }).room s m AV below meth c H locs 0 0 (MQ below (JQ D (aA am 24) (mW am cI cZ) (mTy cI cZ) (some (.int rZ)) stZ) AV s 0 0 (aA am 24)) (F0 m 159 ls []) := by
                  intro n
                  induction n with
                  | zero =>
                    intro _ _ _ _ _ _ _ hM
                    exact absurd hM (fun h => iter_zero h)
                  | succ n ih2 =>
                    intro w17 st16 H locs ls hI hl hM
                    obtain ⟨z2, hM, hk2⟩ := iter_succ hM
                    replace hM : jm_X9_puppet_L159 N w17 st16 = some z2 := hM
                    unfold jm_X9_puppet_L159 at hM
                    refine lv_iload_n hx hb dX9_puppet_159 rfl (lv_at hl 2 rfl) ?_
                    refine lv_aload_n hx hb dX9_puppet_160 rfl (lv_at hl 0 rfl) ?_
                    refine va_get (D := D) (ci := 9) (v := .int (st16.1 0 19)) (C := RX9) (T := TX9) (N := 43) hx hb hts hi_X9_puppet_X9 hown hK hI.1 0 (mg_0 am cI cZ st16) rfl 19 (by decide) f_4 (fun _ h9 => h9) rfl dX9_puppet_161 ?_
                    refine lv_icmp_ge (tgt := 243) hx hb dX9_puppet_164 (by decide) (fun c18 => ?_) (fun c18 => ?_)
                    · replace hM := if_t c18 hM
                      refine lv_iconst (v := (0 : Int32)) hx hb dX9_puppet_243 (by decide) ?_
                      refine lv_istore_n (lv' := [(2, .int (0 : Int32)), (0, .ref (am 0)), (1, .int v1)]) hx hb dX9_puppet_244 rfl hl (by decide) rfl (fun ls hl => ?_)
                      have lp3 : ∀ (n : Nat) (w20 : Int32) (st19 : PS) (H : Heap) (locs : List Loc) (ls : Array Slot), JI D (aA am 24) (mW am cI cZ) s.heap st19 H locs → lv_has ls 3 [(0, .ref (am 0)), (1, .int v1), (2, .int w20)] → iter (fun q => jm_X9_puppet_L245 N q.1 q.2) n (w20, st19) = some z2 → W p l e (headSpec wsX9_puppet { frames := 7, cells := 0, slots := 0, locals := 149 }).room s m AV below meth c H locs 0 0 (MQ below (JQ D (aA am 24) (mW am cI cZ) (mTy cI cZ) (some (.int rZ)) stZ) AV s 0 0 (aA am 24)) (F0 m 245 ls []) := by
                        intro n
                        induction n with
                        | zero =>
                          intro _ _ _ _ _ _ _ hM
                          exact absurd hM (fun h => iter_zero h)
                        | succ n ih3 =>
                          intro w20 st19 H locs ls hI hl hM
                          obtain ⟨z3, hM, hk3⟩ := iter_succ hM
                          replace hM : jm_X9_puppet_L245 N w20 st19 = some z3 := hM
                          unfold jm_X9_puppet_L245 at hM
                          refine lv_iload_n hx hb dX9_puppet_245 rfl (lv_at hl 2 rfl) ?_
                          refine lv_aload_n hx hb dX9_puppet_246 rfl (lv_at hl 0 rfl) ?_
                          refine va_get (D := D) (ci := 9) (v := .int (st19.1 0 20)) (C := RX9) (T := TX9) (N := 43) hx hb hts hi_X9_puppet_X9 hown hK hI.1 0 (mg_0 am cI cZ st19) rfl 20 (by decide) f_6 (fun _ h9 => h9) rfl dX9_puppet_247 ?_
                          refine lv_icmp_ge (tgt := 291) hx hb dX9_puppet_250 (by decide) (fun c21 => ?_) (fun c21 => ?_)
                          · replace hM := if_t c21 hM
                            refine lv_aload_n hx hb dX9_puppet_291 rfl (lv_at hl 0 rfl) ?_
                            obtain ⟨v22, st23, hqv22, hM⟩ := bd_at hM
                            refine jcallV (C := RX9) (As := []) (rest := []) ⟨hx, hb, hml, hown, hts⟩ (jw_X9_layFars D am cI cZ hj N hqv22) (cwV 0 hts gX9_puppet_X9_layFars rfl rfl rfl yd_X9_layFars ⟨Nat.le_of_ble_eq_true rfl, Nat.le_of_ble_eq_true rfl⟩) hK hI 0 (mg_0 am cI cZ st19) rfl rfl hl.1 rfl (Nat.le_of_ble_eq_true rfl) dX9_puppet_292 (fun H locs hI => ?_)
                            refine W.eq (g2 := F0 m 295 ls []) rfl ?_
                            refine lv_aload_n hx hb dX9_puppet_295 rfl (lv_at hl 0 rfl) ?_
                            refine lv_iconst (v := (0 : Int32)) hx hb dX9_puppet_296 (by decide) ?_
                            refine jput (D := D) (ci := 9) (v := .int (0 : Int32)) (ty := .int) (C := RX9) (T := TX9) (N := 43) (st2 := pU st23 0 30 (0 : Int32)) hx hb hts hi_X9_puppet_X9 tyX9 tyX9_ok nmX9 hown hK (mD hj) hI 0 (mg_0 am cI cZ st23) rfl 30 (by decide) f_10 (fun _ h9 => h9) rfl (by decide +kernel) rfl rfl (Nat.le_of_ble_eq_true rfl) (ms_0_30 am cI cZ st23 _) dX9_puppet_297 (fun st24 est24 H locs hI => ?_)
                            replace hM := nm_at est24 hM
                            refine lv_aload_n hx hb dX9_puppet_300 rfl (lv_at hl 0 rfl) ?_
                            refine lv_iconst (v := (0 : Int32)) hx hb dX9_puppet_301 (by decide) ?_
                            refine jput (D := D) (ci := 9) (v := .int (0 : Int32)) (ty := .int) (C := RX9) (T := TX9) (N := 43) (st2 := pU st24 0 34 (0 : Int32)) hx hb hts hi_X9_puppet_X9 tyX9 tyX9_ok nmX9 hown hK (mD hj) hI 0 (mg_0 am cI cZ st24) rfl 34 (by decide) f_11 (fun _ h9 => h9) rfl (by decide +kernel) rfl rfl (Nat.le_of_ble_eq_true rfl) (ms_0_34 am cI cZ st24 _) dX9_puppet_302 (fun st25 est25 H locs hI => ?_)
                            replace hM := nm_at est25 hM
                            refine lv_aload_n hx hb dX9_puppet_305 rfl (lv_at hl 0 rfl) ?_
                            refine va_get (D := D) (ci := 9) (v := .ref (am 19)) (C := RX9) (T := TX9) (N := 43) hx hb hts hi_X9_puppet_X9 hown hK hI.1 0 (mg_0 am cI cZ st25) rfl 38 (by decide) f_12 (fun _ h9 => h9) rfl dX9_puppet_306 ?_
                            refine lv_iconst (v := (0 : Int32)) hx hb dX9_puppet_309 (by decide) ?_
                            refine lv_iconst (v := (0 : Int32)) hx hb dX9_puppet_310 (by decide) ?_
                            refine jzast (x := (0 : Int32)) (st2 := pU st25 19 0 (vp_nar .boolean (0 : Int32))) hx hb hK (mD hj) hI 19 1 (mg_19 am cI cZ st25) rfl (inB_vp rfl) (ms_19 am cI cZ st25 _) dX9_puppet_311 (fun st26 est26 H locs hI => ?_)
                            replace hM := nm_at est26 hM
                            refine lv_aload_n hx hb dX9_puppet_312 rfl (lv_at hl 0 rfl) ?_
                            refine va_get (D := D) (ci := 9) (v := .ref (am 19)) (C := RX9) (T := TX9) (N := 43) hx hb hts hi_X9_puppet_X9 hown hK hI.1 0 (mg_0 am cI cZ st26) rfl 38 (by decide) f_12 (fun _ h9 => h9) rfl dX9_puppet_313 ?_
                            refine lv_iconst (v := (1 : Int32)) hx hb dX9_puppet_316 (by decide) ?_
                            refine lv_iconst (v := (0 : Int32)) hx hb dX9_puppet_317 (by decide) ?_
                            refine jzast (x := (0 : Int32)) (st2 := pU st26 19 1 (vp_nar .boolean (0 : Int32))) hx hb hK (mD hj) hI 19 1 (mg_19 am cI cZ st26) rfl (inB_vp rfl) (ms_19 am cI cZ st26 _) dX9_puppet_318 (fun st27 est27 H locs hI => ?_)
                            replace hM := nm_at est27 hM
                            refine lv_aload_n hx hb dX9_puppet_319 rfl (lv_at hl 0 rfl) ?_
                            refine va_get (D := D) (ci := 9) (v := .int (st27.1 0 9)) (C := RX9) (T := TX9) (N := 43) hx hb hts hi_X9_puppet_X9 hown hK hI.1 0 (mg_0 am cI cZ st27) rfl 9 (by decide) f_13 (fun _ h9 => h9) rfl dX9_puppet_320 ?_
                            have hz := Option.some.inj hM
                            subst hz
                            have hz := kn_r hk3
                            subst hz
                            have hz := kn_r hk2
                            subst hz
                            have hz := kn_r hk1
                            subst hz
                            have hz := kn_r hk0
                            exact W.iret hx hb hr (fun t ht hW => jq_i hK hI hz ht hW) hI.2.2.2 dX9_puppet_323
                          · replace hM := if_f c21 hM
                            refine lv_aload_n hx hb dX9_puppet_253 rfl (lv_at hl 0 rfl) ?_
                            refine va_get (D := D) (ci := 9) (v := .ref (am 10)) (C := RX9) (T := TX9) (N := 43) hx hb hts hi_X9_puppet_X9 hown hK hI.1 0 (mg_0 am cI cZ st19) rfl 25 (by decide) f_14 (fun _ h9 => h9) rfl dX9_puppet_254 ?_
                            refine lv_iload_n hx hb dX9_puppet_257 rfl (lv_at hl 2 rfl) ?_
                            refine lv_aload_n hx hb dX9_puppet_258 rfl (lv_at hl 0 rfl) ?_
                            refine va_get (D := D) (ci := 9) (v := .ref (am 4)) (C := RX9) (T := TX9) (N := 43) hx hb hts hi_X9_puppet_X9 hown hK hI.1 0 (mg_0 am cI cZ st19) rfl 16 (by decide) f_15 (fun _ h9 => h9) rfl dX9_puppet_259 ?_
                            refine lv_iconst (v := (2 : Int32)) hx hb dX9_puppet_262 (by decide) ?_
                            refine lv_iload_n hx hb dX9_puppet_263 rfl (lv_at hl 2 rfl) ?_
                            refine lv_imul hx hb dX9_puppet_264 ?_
                            obtain ⟨g28, hM⟩ := gd_at hM
                            refine va_iald hx hb hK hI.1 4 0 (mg_4 am cI cZ st19) rfl (inB_vp g28) dX9_puppet_265 ?_
                            obtain ⟨g30, hM⟩ := gd_at hM
                            refine jiast (x := (st19.1 4 (((2 : Int32) * w20)).toNatClampNeg)) (st2 := pU st19 10 (w20).toNatClampNeg ((st19.1 4 (((2 : Int32) * w20)).toNatClampNeg))) hx hb hK (mD hj) hI 10 0 (mg_10 am cI cZ st19) rfl (inB_vp g30) (ms_10 am cI cZ st19 _) dX9_puppet_266 (fun st29 est29 H locs hI => ?_)
                            replace hM := nm_at est29 hM
                            refine lv_aload_n hx hb dX9_puppet_267 rfl (lv_at hl 0 rfl) ?_
                            refine va_get (D := D) (ci := 9) (v := .ref (am 11)) (C := RX9) (T := TX9) (N := 43) hx hb hts hi_X9_puppet_X9 hown hK hI.1 0 (mg_0 am cI cZ st29) rfl 26 (by decide) f_16 (fun _ h9 => h9) rfl dX9_puppet_268 ?_
                            refine lv_iload_n hx hb dX9_puppet_271 rfl (lv_at hl 2 rfl) ?_
                            refine lv_aload_n hx hb dX9_puppet_272 rfl (lv_at hl 0 rfl) ?_
                            refine va_get (D := D) (ci := 9) (v := .ref (am 4)) (C := RX9) (T := TX9) (N := 43) hx hb hts hi_X9_puppet_X9 hown hK hI.1 0 (mg_0 am cI cZ st29) rfl 16 (by decide) f_15 (fun _ h9 => h9) rfl dX9_puppet_273 ?_
                            refine lv_iconst (v := (2 : Int32)) hx hb dX9_puppet_276 (by decide) ?_
                            refine lv_iload_n hx hb dX9_puppet_277 rfl (lv_at hl 2 rfl) ?_
                            refine lv_imul hx hb dX9_puppet_278 ?_
                            refine lv_iconst (v := (1 : Int32)) hx hb dX9_puppet_279 (by decide) ?_
                            refine lv_iadd hx hb dX9_puppet_280 ?_
                            obtain ⟨g31, hM⟩ := gd_at hM
                            refine va_iald hx hb hK hI.1 4 0 (mg_4 am cI cZ st29) rfl (inB_vp g31) dX9_puppet_281 ?_
                            refine lv_iconst (v := (3 : Int32)) hx hb dX9_puppet_282 (by decide) ?_
                            refine lv_isub hx hb dX9_puppet_283 ?_
                            obtain ⟨g33, hM⟩ := gd_at hM
                            refine jiast (x := ((st29.1 4 ((((2 : Int32) * w20) + (1 : Int32))).toNatClampNeg) - (3 : Int32))) (st2 := pU st29 11 (w20).toNatClampNeg (((st29.1 4 ((((2 : Int32) * w20) + (1 : Int32))).toNatClampNeg) - (3 : Int32)))) hx hb hK (mD hj) hI 11 0 (mg_11 am cI cZ st29) rfl (inB_vp g33) (ms_11 am cI cZ st29 _) dX9_puppet_284 (fun st32 est32 H locs hI => ?_)
                            replace hM := nm_at est32 hM
                            refine lv_iinc (v := (w20 + (1 : Int32))) (lv' := [(2, .int (w20 + (1 : Int32))), (0, .ref (am 0)), (1, .int v1)]) hx hb dX9_puppet_285 hl (k := 2) rfl rfl (by decide) rfl (fun ls hl => ?_)
                            refine lv_goto (tgt := 245) hx hb dX9_puppet_288 (by decide) ?_
                            have hz := Option.some.inj hM
                            subst hz
                            exact ih3 (w20 + (1 : Int32)) st32 _ _ _ hI (lv_sub hl [1, 2, 0] rfl) hk3
                      exact lp3 N (0 : Int32) st16 _ _ _ hI (lv_sub hl [1, 2, 0] rfl) hM
                    · replace hM := if_f c18 hM
                      refine lv_aload_n hx hb dX9_puppet_167 rfl (lv_at hl 0 rfl) ?_
                      refine va_get (D := D) (ci := 9) (v := .ref (am 13)) (C := RX9) (T := TX9) (N := 43) hx hb hts hi_X9_puppet_X9 hown hK hI.1 0 (mg_0 am cI cZ st16) rfl 28 (by decide) f_7 (fun _ h9 => h9) rfl dX9_puppet_168 ?_
                      refine lv_iconst (v := (3 : Int32)) hx hb dX9_puppet_171 (by decide) ?_
                      refine lv_iload_n hx hb dX9_puppet_172 rfl (lv_at hl 2 rfl) ?_
                      refine lv_iadd hx hb dX9_puppet_173 ?_
                      refine lv_aload_n hx hb dX9_puppet_174 rfl (lv_at hl 0 rfl) ?_
                      refine va_get (D := D) (ci := 9) (v := .ref (am 3)) (C := RX9) (T := TX9) (N := 43) hx hb hts hi_X9_puppet_X9 hown hK hI.1 0 (mg_0 am cI cZ st16) rfl 15 (by decide) f_17 (fun _ h9 => h9) rfl dX9_puppet_175 ?_
                      refine lv_iconst (v := (4 : Int32)) hx hb dX9_puppet_178 (by decide) ?_
                      refine lv_iload_n hx hb dX9_puppet_179 rfl (lv_at hl 2 rfl) ?_
                      refine lv_imul hx hb dX9_puppet_180 ?_
                      obtain ⟨g34, hM⟩ := gd_at hM
                      refine va_iald hx hb hK hI.1 3 0 (mg_3 am cI cZ st16) rfl (inB_vp g34) dX9_puppet_181 ?_
                      obtain ⟨g36, hM⟩ := gd_at hM
                      refine jiast (x := (st16.1 3 (((4 : Int32) * w17)).toNatClampNeg)) (st2 := pU st16 13 (((3 : Int32) + w17)).toNatClampNeg ((st16.1 3 (((4 : Int32) * w17)).toNatClampNeg))) hx hb hK (mD hj) hI 13 0 (mg_13 am cI cZ st16) rfl (inB_vp g36) (ms_13 am cI cZ st16 _) dX9_puppet_182 (fun st35 est35 H locs hI => ?_)
                      replace hM := nm_at est35 hM
                      refine lv_aload_n hx hb dX9_puppet_183 rfl (lv_at hl 0 rfl) ?_
                      refine va_get (D := D) (ci := 9) (v := .ref (am 13)) (C := RX9) (T := TX9) (N := 43) hx hb hts hi_X9_puppet_X9 hown hK hI.1 0 (mg_0 am cI cZ st35) rfl 28 (by decide) f_7 (fun _ h9 => h9) rfl dX9_puppet_184 ?_
                      refine lv_bipush (v := (9 : Int32)) hx hb dX9_puppet_187 (by decide) ?_
                      refine lv_iload_n hx hb dX9_puppet_189 rfl (lv_at hl 2 rfl) ?_
                      refine lv_iadd hx hb dX9_puppet_190 ?_
                      refine lv_aload_n hx hb dX9_puppet_191 rfl (lv_at hl 0 rfl) ?_
                      refine va_get (D := D) (ci := 9) (v := .ref (am 3)) (C := RX9) (T := TX9) (N := 43) hx hb hts hi_X9_puppet_X9 hown hK hI.1 0 (mg_0 am cI cZ st35) rfl 15 (by decide) f_17 (fun _ h9 => h9) rfl dX9_puppet_192 ?_
                      refine lv_iconst (v := (4 : Int32)) hx hb dX9_puppet_195 (by decide) ?_
                      refine lv_iload_n hx hb dX9_puppet_196 rfl (lv_at hl 2 rfl) ?_
                      refine lv_imul hx hb dX9_puppet_197 ?_
                      refine lv_iconst (v := (1 : Int32)) hx hb dX9_puppet_198 (by decide) ?_
                      refine lv_iadd hx hb dX9_puppet_199 ?_
                      obtain ⟨g37, hM⟩ := gd_at hM
                      refine va_iald hx hb hK hI.1 3 0 (mg_3 am cI cZ st35) rfl (inB_vp g37) dX9_puppet_200 ?_
                      obtain ⟨g39, hM⟩ := gd_at hM
                      refine jiast (x := (st35.1 3 ((((4 : Int32) * w17) + (1 : Int32))).toNatClampNeg)) (st2 := pU st35 13 (((9 : Int32) + w17)).toNatClampNeg ((st35.1 3 ((((4 : Int32) * w17) + (1 : Int32))).toNatClampNeg))) hx hb hK (mD hj) hI 13 0 (mg_13 am cI cZ st35) rfl (inB_vp g39) (ms_13 am cI cZ st35 _) dX9_puppet_201 (fun st38 est38 H locs hI => ?_)
                      replace hM := nm_at est38 hM
                      refine lv_aload_n hx hb dX9_puppet_202 rfl (lv_at hl 0 rfl) ?_
                      refine va_get (D := D) (ci := 9) (v := .ref (am 13)) (C := RX9) (T := TX9) (N := 43) hx hb hts hi_X9_puppet_X9 hown hK hI.1 0 (mg_0 am cI cZ st38) rfl 28 (by decide) f_7 (fun _ h9 => h9) rfl dX9_puppet_203 ?_
                      refine lv_bipush (v := (15 : Int32)) hx hb dX9_puppet_206 (by decide) ?_
                      refine lv_iload_n hx hb dX9_puppet_208 rfl (lv_at hl 2 rfl) ?_
                      refine lv_iadd hx hb dX9_puppet_209 ?_
                      refine lv_aload_n hx hb dX9_puppet_210 rfl (lv_at hl 0 rfl) ?_
                      refine va_get (D := D) (ci := 9) (v := .ref (am 3)) (C := RX9) (T := TX9) (N := 43) hx hb hts hi_X9_puppet_X9 hown hK hI.1 0 (mg_0 am cI cZ st38) rfl 15 (by decide) f_17 (fun _ h9 => h9) rfl dX9_puppet_211 ?_
                      refine lv_iconst (v := (4 : Int32)) hx hb dX9_puppet_214 (by decide) ?_
                      refine lv_iload_n hx hb dX9_puppet_215 rfl (lv_at hl 2 rfl) ?_
                      refine lv_imul hx hb dX9_puppet_216 ?_
                      refine lv_iconst (v := (2 : Int32)) hx hb dX9_puppet_217 (by decide) ?_
                      refine lv_iadd hx hb dX9_puppet_218 ?_
                      obtain ⟨g40, hM⟩ := gd_at hM
                      refine va_iald hx hb hK hI.1 3 0 (mg_3 am cI cZ st38) rfl (inB_vp g40) dX9_puppet_219 ?_
                      obtain ⟨g42, hM⟩ := gd_at hM
                      refine jiast (x := (st38.1 3 ((((4 : Int32) * w17) + (2 : Int32))).toNatClampNeg)) (st2 := pU st38 13 (((15 : Int32) + w17)).toNatClampNeg ((st38.1 3 ((((4 : Int32) * w17) + (2 : Int32))).toNatClampNeg))) hx hb hK (mD hj) hI 13 0 (mg_13 am cI cZ st38) rfl (inB_vp g42) (ms_13 am cI cZ st38 _) dX9_puppet_220 (fun st41 est41 H locs hI => ?_)
                      replace hM := nm_at est41 hM
                      refine lv_aload_n hx hb dX9_puppet_221 rfl (lv_at hl 0 rfl) ?_
                      refine va_get (D := D) (ci := 9) (v := .ref (am 9)) (C := RX9) (T := TX9) (N := 43) hx hb hts hi_X9_puppet_X9 hown hK hI.1 0 (mg_0 am cI cZ st41) rfl 24 (by decide) f_18 (fun _ h9 => h9) rfl dX9_puppet_222 ?_
                      refine lv_iload_n hx hb dX9_puppet_225 rfl (lv_at hl 2 rfl) ?_
                      refine lv_aload_n hx hb dX9_puppet_226 rfl (lv_at hl 0 rfl) ?_
                      refine va_get (D := D) (ci := 9) (v := .ref (am 3)) (C := RX9) (T := TX9) (N := 43) hx hb hts hi_X9_puppet_X9 hown hK hI.1 0 (mg_0 am cI cZ st41) rfl 15 (by decide) f_17 (fun _ h9 => h9) rfl dX9_puppet_227 ?_
                      refine lv_iconst (v := (4 : Int32)) hx hb dX9_puppet_230 (by decide) ?_
                      refine lv_iload_n hx hb dX9_puppet_231 rfl (lv_at hl 2 rfl) ?_
                      refine lv_imul hx hb dX9_puppet_232 ?_
                      refine lv_iconst (v := (3 : Int32)) hx hb dX9_puppet_233 (by decide) ?_
                      refine lv_iadd hx hb dX9_puppet_234 ?_
                      obtain ⟨g43, hM⟩ := gd_at hM
                      refine va_iald hx hb hK hI.1 3 0 (mg_3 am cI cZ st41) rfl (inB_vp g43) dX9_puppet_235 ?_
                      obtain ⟨g45, hM⟩ := gd_at hM
                      refine jiast (x := (st41.1 3 ((((4 : Int32) * w17) + (3 : Int32))).toNatClampNeg)) (st2 := pU st41 9 (w17).toNatClampNeg ((st41.1 3 ((((4 : Int32) * w17) + (3 : Int32))).toNatClampNeg))) hx hb hK (mD hj) hI 9 0 (mg_9 am cI cZ st41) rfl (inB_vp g45) (ms_9 am cI cZ st41 _) dX9_puppet_236 (fun st44 est44 H locs hI => ?_)
                      replace hM := nm_at est44 hM
                      refine lv_iinc (v := (w17 + (1 : Int32))) (lv' := [(2, .int (w17 + (1 : Int32))), (0, .ref (am 0)), (1, .int v1)]) hx hb dX9_puppet_237 hl (k := 2) rfl rfl (by decide) rfl (fun ls hl => ?_)
                      refine lv_goto (tgt := 159) hx hb dX9_puppet_240 (by decide) ?_
                      have hz := Option.some.inj hM
                      subst hz
                      exact ih2 (w17 + (1 : Int32)) st44 _ _ _ hI (lv_sub hl [1, 2, 0] rfl) hk2
                exact lp2 N (0 : Int32) st15 _ _ _ hI (lv_sub hl [1, 2, 0] rfl) hM
              · replace hM := if_f c13 hM
                refine lv_aload_n hx hb dX9_puppet_124 rfl (lv_at hl 0 rfl) ?_
                refine va_get (D := D) (ci := 9) (v := .ref (am 13)) (C := RX9) (T := TX9) (N := 43) hx hb hts hi_X9_puppet_X9 hown hK hI.1 0 (mg_0 am cI cZ st11) rfl 28 (by decide) f_7 (fun _ h9 => h9) rfl dX9_puppet_125 ?_
                refine lv_iload_n hx hb dX9_puppet_128 rfl (lv_at hl 2 rfl) ?_
                refine lv_iconst (v := (0 : Int32)) hx hb dX9_puppet_129 (by decide) ?_
                obtain ⟨g47, hM⟩ := gd_at hM
                refine jiast (x := (0 : Int32)) (st2 := pU st11 13 (w12).toNatClampNeg ((0 : Int32))) hx hb hK (mD hj) hI 13 0 (mg_13 am cI cZ st11) rfl (inB_vp g47) (ms_13 am cI cZ st11 _) dX9_puppet_130 (fun st46 est46 H locs hI => ?_)
                replace hM := nm_at est46 hM
                refine lv_iinc (v := (w12 + (1 : Int32))) (lv' := [(2, .int (w12 + (1 : Int32))), (0, .ref (am 0)), (1, .int v1)]) hx hb dX9_puppet_131 hl (k := 2) rfl rfl (by decide) rfl (fun ls hl => ?_)
                refine lv_goto (tgt := 118) hx hb dX9_puppet_134 (by decide) ?_
                have hz := Option.some.inj hM
                subst hz
                exact ih1 (w12 + (1 : Int32)) st46 _ _ _ hI (lv_sub hl [1, 2, 0] rfl) hk1
          exact lp1 N (0 : Int32) st8 _ _ _ hI (lv_sub hl [1, 2, 0] rfl) hM
        · replace hM := if_f c10 hM
          refine lv_aload_n hx hb dX9_puppet_55 rfl (lv_at hl 0 rfl) ?_
          refine va_get (D := D) (ci := 9) (v := .ref (am 6)) (C := RX9) (T := TX9) (N := 43) hx hb hts hi_X9_puppet_X9 hown hK hI.1 0 (mg_0 am cI cZ st8) rfl 21 (by decide) f_19 (fun _ h9 => h9) rfl dX9_puppet_56 ?_
          refine lv_iload_n hx hb dX9_puppet_59 rfl (lv_at hl 2 rfl) ?_
          refine lv_iload_n hx hb dX9_puppet_60 rfl (lv_at hl 2 rfl) ?_
          refine lv_if_ne (tgt := 69) hx hb dX9_puppet_61 (by decide) (fun c48 => ?_) (fun c48 => ?_)
          · replace hM := if_f c48 hM
            refine lv_aload_n hx hb dX9_puppet_69 rfl (lv_at hl 0 rfl) ?_
            refine va_get (D := D) (ci := 9) (v := .ref (am 2)) (C := RX9) (T := TX9) (N := 43) hx hb hts hi_X9_puppet_X9 hown hK hI.1 0 (mg_0 am cI cZ st8) rfl 14 (by decide) f_20 (fun _ h9 => h9) rfl dX9_puppet_70 ?_
            refine lv_iconst (v := (3 : Int32)) hx hb dX9_puppet_73 (by decide) ?_
            refine lv_iload_n hx hb dX9_puppet_74 rfl (lv_at hl 2 rfl) ?_
            refine lv_imul hx hb dX9_puppet_75 ?_
            obtain ⟨g49, hM⟩ := gd_at hM
            refine va_iald hx hb hK hI.1 2 0 (mg_2 am cI cZ st8) rfl (inB_vp g49) dX9_puppet_76 ?_
            obtain ⟨g51, hM⟩ := gd_at hM
            refine jiast (x := (st8.1 2 (((3 : Int32) * w9)).toNatClampNeg)) (st2 := pU st8 6 (w9).toNatClampNeg ((st8.1 2 (((3 : Int32) * w9)).toNatClampNeg))) hx hb hK (mD hj) hI 6 0 (mg_6 am cI cZ st8) rfl (inB_vp g51) (ms_6 am cI cZ st8 _) dX9_puppet_77 (fun st50 est50 H locs hI => ?_)
            replace hM := nm_at est50 hM
            refine lv_aload_n hx hb dX9_puppet_78 rfl (lv_at hl 0 rfl) ?_
            refine va_get (D := D) (ci := 9) (v := .ref (am 7)) (C := RX9) (T := TX9) (N := 43) hx hb hts hi_X9_puppet_X9 hown hK hI.1 0 (mg_0 am cI cZ st50) rfl 22 (by decide) f_21 (fun _ h9 => h9) rfl dX9_puppet_79 ?_
            refine lv_iload_n hx hb dX9_puppet_82 rfl (lv_at hl 2 rfl) ?_
            refine lv_aload_n hx hb dX9_puppet_83 rfl (lv_at hl 0 rfl) ?_
            refine va_get (D := D) (ci := 9) (v := .ref (am 2)) (C := RX9) (T := TX9) (N := 43) hx hb hts hi_X9_puppet_X9 hown hK hI.1 0 (mg_0 am cI cZ st50) rfl 14 (by decide) f_20 (fun _ h9 => h9) rfl dX9_puppet_84 ?_
            refine lv_iconst (v := (3 : Int32)) hx hb dX9_puppet_87 (by decide) ?_
            refine lv_iload_n hx hb dX9_puppet_88 rfl (lv_at hl 2 rfl) ?_
            refine lv_imul hx hb dX9_puppet_89 ?_
            refine lv_iconst (v := (1 : Int32)) hx hb dX9_puppet_90 (by decide) ?_
            refine lv_iadd hx hb dX9_puppet_91 ?_
            obtain ⟨g52, hM⟩ := gd_at hM
            refine va_iald hx hb hK hI.1 2 0 (mg_2 am cI cZ st50) rfl (inB_vp g52) dX9_puppet_92 ?_
            obtain ⟨g54, hM⟩ := gd_at hM
            refine jiast (x := (st50.1 2 ((((3 : Int32) * w9) + (1 : Int32))).toNatClampNeg)) (st2 := pU st50 7 (w9).toNatClampNeg ((st50.1 2 ((((3 : Int32) * w9) + (1 : Int32))).toNatClampNeg))) hx hb hK (mD hj) hI 7 0 (mg_7 am cI cZ st50) rfl (inB_vp g54) (ms_7 am cI cZ st50 _) dX9_puppet_93 (fun st53 est53 H locs hI => ?_)
            replace hM := nm_at est53 hM
            refine lv_aload_n hx hb dX9_puppet_94 rfl (lv_at hl 0 rfl) ?_
            refine va_get (D := D) (ci := 9) (v := .ref (am 8)) (C := RX9) (T := TX9) (N := 43) hx hb hts hi_X9_puppet_X9 hown hK hI.1 0 (mg_0 am cI cZ st53) rfl 23 (by decide) f_22 (fun _ h9 => h9) rfl dX9_puppet_95 ?_
            refine lv_iload_n hx hb dX9_puppet_98 rfl (lv_at hl 2 rfl) ?_
            refine lv_aload_n hx hb dX9_puppet_99 rfl (lv_at hl 0 rfl) ?_
            refine va_get (D := D) (ci := 9) (v := .ref (am 2)) (C := RX9) (T := TX9) (N := 43) hx hb hts hi_X9_puppet_X9 hown hK hI.1 0 (mg_0 am cI cZ st53) rfl 14 (by decide) f_20 (fun _ h9 => h9) rfl dX9_puppet_100 ?_
            refine lv_iconst (v := (3 : Int32)) hx hb dX9_puppet_103 (by decide) ?_
            refine lv_iload_n hx hb dX9_puppet_104 rfl (lv_at hl 2 rfl) ?_
            refine lv_imul hx hb dX9_puppet_105 ?_
            refine lv_iconst (v := (2 : Int32)) hx hb dX9_puppet_106 (by decide) ?_
            refine lv_iadd hx hb dX9_puppet_107 ?_
            obtain ⟨g55, hM⟩ := gd_at hM
            refine va_iald hx hb hK hI.1 2 0 (mg_2 am cI cZ st53) rfl (inB_vp g55) dX9_puppet_108 ?_
            obtain ⟨g57, hM⟩ := gd_at hM
            refine jiast (x := (st53.1 2 ((((3 : Int32) * w9) + (2 : Int32))).toNatClampNeg)) (st2 := pU st53 8 (w9).toNatClampNeg ((st53.1 2 ((((3 : Int32) * w9) + (2 : Int32))).toNatClampNeg))) hx hb hK (mD hj) hI 8 0 (mg_8 am cI cZ st53) rfl (inB_vp g57) (ms_8 am cI cZ st53 _) dX9_puppet_109 (fun st56 est56 H locs hI => ?_)
            replace hM := nm_at est56 hM
            refine lv_iinc (v := (w9 + (1 : Int32))) (lv' := [(2, .int (w9 + (1 : Int32))), (0, .ref (am 0)), (1, .int v1)]) hx hb dX9_puppet_110 hl (k := 2) rfl rfl (by decide) rfl (fun ls hl => ?_)
            refine lv_goto (tgt := 47) hx hb dX9_puppet_113 (by decide) ?_
            have hz := Option.some.inj hM
            subst hz
            exact ih0 (w9 + (1 : Int32)) st56 _ _ _ hI (lv_sub hl [1, 2, 0] rfl) hk0
          · replace hM := if_t c48 hM
            refine lv_bipush (v := (-9 : Int32)) hx hb dX9_puppet_64 (by decide) ?_
            refine lv_goto (tgt := 77) hx hb dX9_puppet_66 (by decide) ?_
            obtain ⟨g59, hM⟩ := gd_at hM
            refine jiast (x := (-9 : Int32)) (st2 := pU st8 6 (w9).toNatClampNeg ((-9 : Int32))) hx hb hK (mD hj) hI 6 0 (mg_6 am cI cZ st8) rfl (inB_vp g59) (ms_6 am cI cZ st8 _) dX9_puppet_77 (fun st58 est58 H locs hI => ?_)
            replace hM := nm_at est58 hM
            refine lv_aload_n hx hb dX9_puppet_78 rfl (lv_at hl 0 rfl) ?_
            refine va_get (D := D) (ci := 9) (v := .ref (am 7)) (C := RX9) (T := TX9) (N := 43) hx hb hts hi_X9_puppet_X9 hown hK hI.1 0 (mg_0 am cI cZ st58) rfl 22 (by decide) f_21 (fun _ h9 => h9) rfl dX9_puppet_79 ?_
            refine lv_iload_n hx hb dX9_puppet_82 rfl (lv_at hl 2 rfl) ?_
            refine lv_aload_n hx hb dX9_puppet_83 rfl (lv_at hl 0 rfl) ?_
            refine va_get (D := D) (ci := 9) (v := .ref (am 2)) (C := RX9) (T := TX9) (N := 43) hx hb hts hi_X9_puppet_X9 hown hK hI.1 0 (mg_0 am cI cZ st58) rfl 14 (by decide) f_20 (fun _ h9 => h9) rfl dX9_puppet_84 ?_
            refine lv_iconst (v := (3 : Int32)) hx hb dX9_puppet_87 (by decide) ?_
            refine lv_iload_n hx hb dX9_puppet_88 rfl (lv_at hl 2 rfl) ?_
            refine lv_imul hx hb dX9_puppet_89 ?_
            refine lv_iconst (v := (1 : Int32)) hx hb dX9_puppet_90 (by decide) ?_
            refine lv_iadd hx hb dX9_puppet_91 ?_
            obtain ⟨g60, hM⟩ := gd_at hM
            refine va_iald hx hb hK hI.1 2 0 (mg_2 am cI cZ st58) rfl (inB_vp g60) dX9_puppet_92 ?_
            obtain ⟨g62, hM⟩ := gd_at hM
            refine jiast (x := (st58.1 2 ((((3 : Int32) * w9) + (1 : Int32))).toNatClampNeg)) (st2 := pU st58 7 (w9).toNatClampNeg ((st58.1 2 ((((3 : Int32) * w9) + (1 : Int32))).toNatClampNeg))) hx hb hK (mD hj) hI 7 0 (mg_7 am cI cZ st58) rfl (inB_vp g62) (ms_7 am cI cZ st58 _) dX9_puppet_93 (fun st61 est61 H locs hI => ?_)
            replace hM := nm_at est61 hM
            refine lv_aload_n hx hb dX9_puppet_94 rfl (lv_at hl 0 rfl) ?_
            refine va_get (D := D) (ci := 9) (v := .ref (am 8)) (C := RX9) (T := TX9) (N := 43) hx hb hts hi_X9_puppet_X9 hown hK hI.1 0 (mg_0 am cI cZ st61) rfl 23 (by decide) f_22 (fun _ h9 => h9) rfl dX9_puppet_95 ?_
            refine lv_iload_n hx hb dX9_puppet_98 rfl (lv_at hl 2 rfl) ?_
            refine lv_aload_n hx hb dX9_puppet_99 rfl (lv_at hl 0 rfl) ?_
            refine va_get (D := D) (ci := 9) (v := .ref (am 2)) (C := RX9) (T := TX9) (N := 43) hx hb hts hi_X9_puppet_X9 hown hK hI.1 0 (mg_0 am cI cZ st61) rfl 14 (by decide) f_20 (fun _ h9 => h9) rfl dX9_puppet_100 ?_
            refine lv_iconst (v := (3 : Int32)) hx hb dX9_puppet_103 (by decide) ?_
            refine lv_iload_n hx hb dX9_puppet_104 rfl (lv_at hl 2 rfl) ?_
            refine lv_imul hx hb dX9_puppet_105 ?_
            refine lv_iconst (v := (2 : Int32)) hx hb dX9_puppet_106 (by decide) ?_
            refine lv_iadd hx hb dX9_puppet_107 ?_
            obtain ⟨g63, hM⟩ := gd_at hM
            refine va_iald hx hb hK hI.1 2 0 (mg_2 am cI cZ st61) rfl (inB_vp g63) dX9_puppet_108 ?_
            obtain ⟨g65, hM⟩ := gd_at hM
            refine jiast (x := (st61.1 2 ((((3 : Int32) * w9) + (2 : Int32))).toNatClampNeg)) (st2 := pU st61 8 (w9).toNatClampNeg ((st61.1 2 ((((3 : Int32) * w9) + (2 : Int32))).toNatClampNeg))) hx hb hK (mD hj) hI 8 0 (mg_8 am cI cZ st61) rfl (inB_vp g65) (ms_8 am cI cZ st61 _) dX9_puppet_109 (fun st64 est64 H locs hI => ?_)
            replace hM := nm_at est64 hM
            refine lv_iinc (v := (w9 + (1 : Int32))) (lv' := [(2, .int (w9 + (1 : Int32))), (0, .ref (am 0)), (1, .int v1)]) hx hb dX9_puppet_110 hl (k := 2) rfl rfl (by decide) rfl (fun ls hl => ?_)
            refine lv_goto (tgt := 47) hx hb dX9_puppet_113 (by decide) ?_
            have hz := Option.some.inj hM
            subst hz
            exact ih0 (w9 + (1 : Int32)) st64 _ _ _ hI (lv_sub hl [1, 2, 0] rfl) hk0
    exact lp0 N (0 : Int32) st7 _ _ _ hI (lv_sub hl [2, 1, 0] rfl) hM
  · replace hM := if_f c3 hM
    refine lv_bipush (v := (-10 : Int32)) hx hb dX9_puppet_11 (by decide) ?_
    refine lv_iload_n hx hb dX9_puppet_13 rfl (lv_at hl 0 rfl) ?_
    refine lv_isub hx hb dX9_puppet_14 ?_
    have hz := Option.some.inj hM
    exact W.iret hx hb hr (fun t ht hW => jq_i hK hI hz ht hW) hI.2.2.2 dX9_puppet_15
set_option maxRecDepth 20000 in
theorem hi_X9_isLimb_X9 : ∀ w ∈ wsX90, w ∈ wsX9_isLimb := by decide +kernel
set_option maxHeartbeats 4000000 in
set_option maxRecDepth 100000 in
theorem jw_X9_isLimb {l : Launch} (D : va_G) (am : Nat → Nat) (cI cZ : ClassId) (hj : aJ am 24) (N : Nat) {x1 : Int32} {st stZ : PS} {rZ : Int32} (hM : jm_X9_isLimb N x1 st = some (rZ, stZ)) : Met l yX9_isLimb wsX9_isLimb ({ frames := 1, cells := 0, slots := 0, locals := 22 }) (va_Pc [.ref (am 0), .int x1] (JH D (mW am cI cZ) (mTy cI cZ) st)) (JQ D (aA am 24) (mW am cI cZ) (mTy cI cZ) (some (.int rZ)) stZ) 0 0 (aA am 24) := by
  refine jStart (cc := cX9_isLimb) (maxL := 2) (ret := (some .boolean)) [.ref (am 0), .int x1] (by decide) rfl (Nat.le_of_ble_eq_true rfl) (fun p e s m below meth c ls hx hb hr hlocks hts hown hml hK hI hl => ?_)
  have hown : s.vm.findClass RX9 = some m.cls := hown
  replace hl : lv_has ls 2 [(0, .ref (am 0)), (1, .int x1)] := hl
  generalize hAV : ([.ref (am 0), .int x1] : List Value).toArray = AV at hts ⊢
  have f_0 := hts (.fieldLink RX9 169 "PuppetBarModel" "n" "I") (by decide +kernel)
  unfold jm_X9_isLimb at hM
  refine lv_iload_n hx hb dX9_isLimb_0 rfl (lv_at hl 1 rfl) ?_
  refine lv_iconst (v := (0 : Int32)) hx hb dX9_isLimb_1 (by decide) ?_
  refine lv_aload_n hx hb dX9_isLimb_2 rfl (lv_at hl 0 rfl) ?_
  refine va_get (D := D) (ci := 9) (v := .int (st.1 0 18)) (C := RX9) (T := TX9) (N := 43) hx hb hts hi_X9_isLimb_X9 hown hK hI.1 0 (mg_0 am cI cZ st) rfl 18 (by decide) f_0 (fun _ h9 => h9) rfl dX9_isLimb_3 ?_
  refine lv_iconst (v := (1 : Int32)) hx hb dX9_isLimb_6 (by decide) ?_
  refine lv_isub hx hb dX9_isLimb_7 ?_
  obtain ⟨v1, st2, hqv1, hM⟩ := bd_at hM
  refine jcallS (As := [.int x1, .int (0 : Int32), .int ((st.1 0 18) - (1 : Int32))]) (rest := []) ⟨hx, hb, hml, hown, hts⟩ (jw_X9_in D am cI cZ hj N hqv1) (va_cwS 3 hts gX9_isLimb_X9_in rfl rfl rfl yd_X9_in ⟨Nat.le_of_ble_eq_true rfl, Nat.le_of_ble_eq_true rfl⟩) hK hI rfl hl.1 rfl (Nat.le_of_ble_eq_true rfl) dX9_isLimb_8 (fun H locs hI => ?_)
  refine W.eq (g2 := F0 m 11 ls [.int v1]) rfl ?_
  obtain ⟨g3, hM⟩ := gd_at hM
  have hz := Option.some.inj hM
  exact W.zret hx hb hr (isZ_n g3) (fun t ht hW => jq_i hK hI hz ht hW) hI.2.2.2 dX9_isLimb_11
set_option maxRecDepth 20000 in
theorem hi_X9_isString_X9 : ∀ w ∈ wsX90, w ∈ wsX9_isString := by decide +kernel
set_option maxHeartbeats 4000000 in
set_option maxRecDepth 100000 in
theorem jw_X9_isString {l : Launch} (D : va_G) (am : Nat → Nat) (cI cZ : ClassId) (hj : aJ am 24) (N : Nat) {x1 : Int32} {st stZ : PS} {rZ : Int32} (hM : jm_X9_isString N x1 st = some (rZ, stZ)) : Met l yX9_isString wsX9_isString ({ frames := 1, cells := 0, slots := 0, locals := 22 }) (va_Pc [.ref (am 0), .int x1] (JH D (mW am cI cZ) (mTy cI cZ) st)) (JQ D (aA am 24) (mW am cI cZ) (mTy cI cZ) (some (.int rZ)) stZ) 0 0 (aA am 24) := by
  refine jStart (cc := cX9_isString) (maxL := 2) (ret := (some .boolean)) [.ref (am 0), .int x1] (by decide) rfl (Nat.le_of_ble_eq_true rfl) (fun p e s m below meth c ls hx hb hr hlocks hts hown hml hK hI hl => ?_)
  have hown : s.vm.findClass RX9 = some m.cls := hown
  replace hl : lv_has ls 2 [(0, .ref (am 0)), (1, .int x1)] := hl
  generalize hAV : ([.ref (am 0), .int x1] : List Value).toArray = AV at hts ⊢
  have f_0 := hts (.fieldLink RX9 172 "PuppetBarModel" "m" "I") (by decide +kernel)
  unfold jm_X9_isString at hM
  refine lv_iload_n hx hb dX9_isString_0 rfl (lv_at hl 1 rfl) ?_
  refine lv_iconst (v := (0 : Int32)) hx hb dX9_isString_1 (by decide) ?_
  refine lv_aload_n hx hb dX9_isString_2 rfl (lv_at hl 0 rfl) ?_
  refine va_get (D := D) (ci := 9) (v := .int (st.1 0 19)) (C := RX9) (T := TX9) (N := 43) hx hb hts hi_X9_isString_X9 hown hK hI.1 0 (mg_0 am cI cZ st) rfl 19 (by decide) f_0 (fun _ h9 => h9) rfl dX9_isString_3 ?_
  refine lv_iconst (v := (1 : Int32)) hx hb dX9_isString_6 (by decide) ?_
  refine lv_isub hx hb dX9_isString_7 ?_
  obtain ⟨v1, st2, hqv1, hM⟩ := bd_at hM
  refine jcallS (As := [.int x1, .int (0 : Int32), .int ((st.1 0 19) - (1 : Int32))]) (rest := []) ⟨hx, hb, hml, hown, hts⟩ (jw_X9_in D am cI cZ hj N hqv1) (va_cwS 3 hts gX9_isString_X9_in rfl rfl rfl yd_X9_in ⟨Nat.le_of_ble_eq_true rfl, Nat.le_of_ble_eq_true rfl⟩) hK hI rfl hl.1 rfl (Nat.le_of_ble_eq_true rfl) dX9_isString_8 (fun H locs hI => ?_)
  refine W.eq (g2 := F0 m 11 ls [.int v1]) rfl ?_
  obtain ⟨g3, hM⟩ := gd_at hM
  have hz := Option.some.inj hM
  exact W.zret hx hb hr (isZ_n g3) (fun t ht hW => jq_i hK hI hz ht hW) hI.2.2.2 dX9_isString_11
set_option maxRecDepth 20000 in
theorem hi_X9_isBeat_X9 : ∀ w ∈ wsX90, w ∈ wsX9_isBeat := by decide +kernel
set_option maxHeartbeats 4000000 in
set_option maxRecDepth 100000 in
theorem jw_X9_isBeat {l : Launch} (D : va_G) (am : Nat → Nat) (cI cZ : ClassId) (hj : aJ am 24) (N : Nat) {x1 : Int32} {st stZ : PS} {rZ : Int32} (hM : jm_X9_isBeat N x1 st = some (rZ, stZ)) : Met l yX9_isBeat wsX9_isBeat ({ frames := 1, cells := 0, slots := 0, locals := 22 }) (va_Pc [.ref (am 0), .int x1] (JH D (mW am cI cZ) (mTy cI cZ) st)) (JQ D (aA am 24) (mW am cI cZ) (mTy cI cZ) (some (.int rZ)) stZ) 0 0 (aA am 24) := by
  refine jStart (cc := cX9_isBeat) (maxL := 2) (ret := (some .boolean)) [.ref (am 0), .int x1] (by decide) rfl (Nat.le_of_ble_eq_true rfl) (fun p e s m below meth c ls hx hb hr hlocks hts hown hml hK hI hl => ?_)
  have hown : s.vm.findClass RX9 = some m.cls := hown
  replace hl : lv_has ls 2 [(0, .ref (am 0)), (1, .int x1)] := hl
  generalize hAV : ([.ref (am 0), .int x1] : List Value).toArray = AV at hts ⊢
  have f_0 := hts (.fieldLink RX9 175 "PuppetBarModel" "beatMany" "I") (by decide +kernel)
  unfold jm_X9_isBeat at hM
  refine lv_iload_n hx hb dX9_isBeat_0 rfl (lv_at hl 1 rfl) ?_
  refine lv_iconst (v := (0 : Int32)) hx hb dX9_isBeat_1 (by decide) ?_
  refine lv_aload_n hx hb dX9_isBeat_2 rfl (lv_at hl 0 rfl) ?_
  refine va_get (D := D) (ci := 9) (v := .int (st.1 0 20)) (C := RX9) (T := TX9) (N := 43) hx hb hts hi_X9_isBeat_X9 hown hK hI.1 0 (mg_0 am cI cZ st) rfl 20 (by decide) f_0 (fun _ h9 => h9) rfl dX9_isBeat_3 ?_
  refine lv_iconst (v := (1 : Int32)) hx hb dX9_isBeat_6 (by decide) ?_
  refine lv_isub hx hb dX9_isBeat_7 ?_
  obtain ⟨v1, st2, hqv1, hM⟩ := bd_at hM
  refine jcallS (As := [.int x1, .int (0 : Int32), .int ((st.1 0 20) - (1 : Int32))]) (rest := []) ⟨hx, hb, hml, hown, hts⟩ (jw_X9_in D am cI cZ hj N hqv1) (va_cwS 3 hts gX9_isBeat_X9_in rfl rfl rfl yd_X9_in ⟨Nat.le_of_ble_eq_true rfl, Nat.le_of_ble_eq_true rfl⟩) hK hI rfl hl.1 rfl (Nat.le_of_ble_eq_true rfl) dX9_isBeat_8 (fun H locs hI => ?_)
  refine W.eq (g2 := F0 m 11 ls [.int v1]) rfl ?_
  obtain ⟨g3, hM⟩ := gd_at hM
  have hz := Option.some.inj hM
  exact W.zret hx hb hr (isZ_n g3) (fun t ht hW => jq_i hK hI hz ht hW) hI.2.2.2 dX9_isBeat_11
set_option maxHeartbeats 4000000 in
set_option maxRecDepth 100000 in
theorem jw_X9_end {l : Launch} (D : va_G) (am : Nat → Nat) (cI cZ : ClassId) (hj : aJ am 24) (N : Nat) {r0 : Nat} {x1 : Int32} (h0 : mk_Of r0) {st stZ : PS} {rZ : Int32} (hM : jm_X9_end N r0 x1 st = some (rZ, stZ)) : Met l yX9_end wsX9_end ({ frames := 0, cells := 0, slots := 0, locals := 0 }) (va_Pc [.ref (am r0), .int x1] (JH D (mW am cI cZ) (mTy cI cZ) st)) (JQ D (aA am 24) (mW am cI cZ) (mTy cI cZ) (some (.int rZ)) stZ) 0 0 (aA am 24) := by
  refine jStart (cc := cX9_end) (maxL := 2) (ret := (some .int)) [.ref (am r0), .int x1] (by decide) rfl (Nat.le_of_ble_eq_true rfl) (fun p e s m below meth c ls hx hb hr hlocks hts hown hml hK hI hl => ?_)
  have hown : s.vm.findClass RX9 = some m.cls := hown
  replace hl : lv_has ls 2 [(0, .ref (am r0)), (1, .int x1)] := hl
  generalize hAV : ([.ref (am r0), .int x1] : List Value).toArray = AV at hts ⊢
  unfold jm_X9_end at hM
  refine lv_aload_n hx hb dX9_end_0 rfl (lv_at hl 0 rfl) ?_
  refine lv_iconst (v := (0 : Int32)) hx hb dX9_end_1 (by decide) ?_
  refine va_iald hx hb hK hI.1 r0 0 (mg_Of am cI cZ st h0) rfl (inB_vp rfl) dX9_end_2 ?_
  refine W.eq (g2 := F0 m 3 ls [.int (st.1 r0 0)]) rfl ?_
  refine lv_aload_n hx hb dX9_end_3 rfl (lv_at hl 0 rfl) ?_
  refine lv_iconst (v := (1 : Int32)) hx hb dX9_end_4 (by decide) ?_
  refine va_iald hx hb hK hI.1 r0 0 (mg_Of am cI cZ st h0) rfl (inB_vp rfl) dX9_end_5 ?_
  refine W.eq (g2 := F0 m 6 ls [.int (st.1 r0 1), .int (st.1 r0 0)]) rfl ?_
  refine lv_aload_n hx hb dX9_end_6 rfl (lv_at hl 0 rfl) ?_
  refine lv_bipush (v := (9 : Int32)) hx hb dX9_end_7 (by decide) ?_
  refine lv_iload_n hx hb dX9_end_9 rfl (lv_at hl 1 rfl) ?_
  refine lv_iadd hx hb dX9_end_10 ?_
  obtain ⟨g1, hM⟩ := gd_at hM
  refine va_iald hx hb hK hI.1 r0 0 (mg_Of am cI cZ st h0) rfl (inB_vp g1) dX9_end_11 ?_
  refine lv_iconst (v := (3 : Int32)) hx hb dX9_end_12 (by decide) ?_
  refine lv_isub hx hb dX9_end_13 ?_
  refine lv_imul hx hb dX9_end_14 ?_
  refine lv_iadd hx hb dX9_end_15 ?_
  refine lv_aload_n hx hb dX9_end_16 rfl (lv_at hl 0 rfl) ?_
  refine lv_bipush (v := (15 : Int32)) hx hb dX9_end_17 (by decide) ?_
  refine lv_iload_n hx hb dX9_end_19 rfl (lv_at hl 1 rfl) ?_
  refine lv_iadd hx hb dX9_end_20 ?_
  obtain ⟨g2, hM⟩ := gd_at hM
  refine va_iald hx hb hK hI.1 r0 0 (mg_Of am cI cZ st h0) rfl (inB_vp g2) dX9_end_21 ?_
  refine lv_isub hx hb dX9_end_22 ?_
  have hz := Option.some.inj hM
  exact W.iret hx hb hr (fun t ht hW => jq_i hK hI hz ht hW) hI.2.2.2 dX9_end_23
set_option maxRecDepth 20000 in
theorem hi_X9_reaches_X9 : ∀ w ∈ wsX90, w ∈ wsX9_reaches := by decide +kernel
set_option maxHeartbeats 4000000 in
set_option maxRecDepth 100000 in
theorem jw_X9_reaches {l : Launch} (D : va_G) (am : Nat → Nat) (cI cZ : ClassId) (hj : aJ am 24) (N : Nat) {r1 : Nat} {x2 : Int32} {x3 : Int32} (h1 : mk_Of r1) {st stZ : PS} {rZ : Int32} (hM : jm_X9_reaches N r1 x2 x3 st = some (rZ, stZ)) : Met l yX9_reaches wsX9_reaches ({ frames := 1, cells := 0, slots := 0, locals := 21 }) (va_Pc [.ref (am 0), .ref (am r1), .int x2, .int x3] (JH D (mW am cI cZ) (mTy cI cZ) st)) (JQ D (aA am 24) (mW am cI cZ) (mTy cI cZ) (some (.int rZ)) stZ) 0 0 (aA am 24) := by
  refine jStart (cc := cX9_reaches) (maxL := 4) (ret := (some .int)) [.ref (am 0), .ref (am r1), .int x2, .int x3] (by decide) rfl (Nat.le_of_ble_eq_true rfl) (fun p e s m below meth c ls hx hb hr hlocks hts hown hml hK hI hl => ?_)
  have hown : s.vm.findClass RX9 = some m.cls := hown
  replace hl : lv_has ls 4 [(0, .ref (am 0)), (1, .ref (am r1)), (2, .int x2), (3, .int x3)] := hl
  generalize hAV : ([.ref (am 0), .ref (am r1), .int x2, .int x3] : List Value).toArray = AV at hts ⊢
  have f_0 := hts (.fieldLink RX9 43 "PuppetBarModel" "fars" "[I") (by decide +kernel)
  unfold jm_X9_reaches at hM
  refine lv_aload_n hx hb dX9_reaches_0 rfl (lv_at hl 1 rfl) ?_
  refine lv_iload_n hx hb dX9_reaches_1 rfl (lv_at hl 2 rfl) ?_
  obtain ⟨v1, st2, hqv1, hM⟩ := bd_at hM
  refine jcallS (As := [.ref (am r1), .int x2]) (rest := []) ⟨hx, hb, hml, hown, hts⟩ (jw_X9_end D am cI cZ hj N h1 hqv1) (va_cwS 2 hts gX9_reaches_X9_end rfl rfl rfl yd_X9_end ⟨Nat.le_of_ble_eq_true rfl, Nat.le_of_ble_eq_true rfl⟩) hK hI rfl hl.1 rfl (Nat.le_of_ble_eq_true rfl) dX9_reaches_2 (fun H locs hI => ?_)
  refine W.eq (g2 := F0 m 5 ls [.int v1]) rfl ?_
  refine lv_aload_n hx hb dX9_reaches_5 rfl (lv_at hl 0 rfl) ?_
  refine va_get (D := D) (ci := 9) (v := .ref (am 12)) (C := RX9) (T := TX9) (N := 43) hx hb hts hi_X9_reaches_X9 hown hK hI.1 0 (mg_0 am cI cZ st2) rfl 27 (by decide) f_0 (fun _ h9 => h9) rfl dX9_reaches_6 ?_
  refine lv_bipush (v := (8 : Int32)) hx hb dX9_reaches_9 (by decide) ?_
  refine lv_iload_n hx hb dX9_reaches_11 rfl (lv_at hl 3 rfl) ?_
  refine lv_imul hx hb dX9_reaches_12 ?_
  refine lv_aload_n hx hb dX9_reaches_13 rfl (lv_at hl 1 rfl) ?_
  refine lv_iconst (v := (3 : Int32)) hx hb dX9_reaches_14 (by decide) ?_
  refine lv_iload_n hx hb dX9_reaches_15 rfl (lv_at hl 2 rfl) ?_
  refine lv_iadd hx hb dX9_reaches_16 ?_
  obtain ⟨g3, hM⟩ := gd_at hM
  refine va_iald hx hb hK hI.1 r1 0 (mg_Of am cI cZ st2 h1) rfl (inB_vp g3) dX9_reaches_17 ?_
  refine lv_iadd hx hb dX9_reaches_18 ?_
  obtain ⟨g4, hM⟩ := gd_at hM
  refine va_iald hx hb hK hI.1 12 0 (mg_12 am cI cZ st2) rfl (inB_vp g4) dX9_reaches_19 ?_
  refine lv_isub hx hb dX9_reaches_20 ?_
  have hz := Option.some.inj hM
  exact W.iret hx hb hr (fun t ht hW => jq_i hK hI hz ht hW) hI.2.2.2 dX9_reaches_21
set_option maxRecDepth 20000 in
theorem hi_X9_height_X9 : ∀ w ∈ wsX90, w ∈ wsX9_height := by decide +kernel
set_option maxHeartbeats 4000000 in
set_option maxRecDepth 100000 in
theorem jw_X9_height {l : Launch} (D : va_G) (am : Nat → Nat) (cI cZ : ClassId) (hj : aJ am 24) (N : Nat) {r1 : Nat} {x2 : Int32} (h1 : mk_Of r1) {st stZ : PS} {rZ : Int32} (hM : jm_X9_height N r1 x2 st = some (rZ, stZ)) : Met l yX9_height wsX9_height ({ frames := 2, cells := 0, slots := 0, locals := 44 }) (va_Pc [.ref (am 0), .ref (am r1), .int x2] (JH D (mW am cI cZ) (mTy cI cZ) st)) (JQ D (aA am 24) (mW am cI cZ) (mTy cI cZ) (some (.int rZ)) stZ) 0 0 (aA am 24) := by
  refine jStart (cc := cX9_height) (maxL := 5) (ret := (some .int)) [.ref (am 0), .ref (am r1), .int x2] (by decide) rfl (Nat.le_of_ble_eq_true rfl) (fun p e s m below meth c ls hx hb hr hlocks hts hown hml hK hI hl => ?_)
  have hown : s.vm.findClass RX9 = some m.cls := hown
  replace hl : lv_has ls 5 [(0, .ref (am 0)), (1, .ref (am r1)), (2, .int x2)] := hl
  generalize hAV : ([.ref (am 0), .ref (am r1), .int x2] : List Value).toArray = AV at hts ⊢
  have f_0 := hts (.fieldLink RX9 172 "PuppetBarModel" "m" "I") (by decide +kernel)
  unfold jm_X9_height at hM
  refine lv_iconst (v := (0 : Int32)) hx hb dX9_height_0 (by decide) ?_
  refine lv_istore_n (lv' := [(3, .int (0 : Int32)), (0, .ref (am 0)), (1, .ref (am r1)), (2, .int x2)]) hx hb dX9_height_1 rfl hl (by decide) rfl (fun ls hl => ?_)
  refine lv_iconst (v := (0 : Int32)) hx hb dX9_height_2 (by decide) ?_
  refine lv_istore (lv' := [(4, .int (0 : Int32)), (3, .int (0 : Int32)), (0, .ref (am 0)), (1, .ref (am r1)), (2, .int x2)]) hx hb dX9_height_3 hl (by decide) rfl (fun ls hl => ?_)
  have lp0 : ∀ (n : Nat) (w2 : Int32) (w3 : Int32) (st1 : PS) (H : Heap) (locs : List Loc) (ls : Array Slot), JI D (aA am 24) (mW am cI cZ) s.heap st1 H locs → lv_has ls 5 [(0, .ref (am 0)), (1, .ref (am r1)), (2, .int x2), (3, .int w2), (4, .int w3)] → iter (fun q => jm_X9_height_L5 N r1 x2 q.1 q.2.1 q.2.2) n (w2, w3, st1) = some (rZ, stZ) → W p l e (headSpec wsX9_height { frames := 2, cells := 0, slots := 0, locals := 44 }).room s m AV below meth c H locs 0 0 (MQ below (JQ D (aA am 24) (mW am cI cZ) (mTy cI cZ) (some (.int rZ)) stZ) AV s 0 0 (aA am 24)) (F0 m 5 ls []) := by
    intro n
    induction n with
    | zero =>
      intro _ _ _ _ _ _ _ _ hM
      exact absurd hM (fun h => iter_zero h)
    | succ n ih0 =>
      intro w2 w3 st1 H locs ls hI hl hM
      obtain ⟨z0, hM, hk0⟩ := iter_succ hM
      replace hM : jm_X9_height_L5 N r1 x2 w2 w3 st1 = some z0 := hM
      unfold jm_X9_height_L5 at hM
      refine lv_iload hx hb dX9_height_5 (lv_at hl 4 rfl) ?_
      refine lv_aload_n hx hb dX9_height_7 rfl (lv_at hl 0 rfl) ?_
      refine va_get (D := D) (ci := 9) (v := .int (st1.1 0 19)) (C := RX9) (T := TX9) (N := 43) hx hb hts hi_X9_height_X9 hown hK hI.1 0 (mg_0 am cI cZ st1) rfl 19 (by decide) f_0 (fun _ h9 => h9) rfl dX9_height_8 ?_
      refine lv_icmp_ge (tgt := 56) hx hb dX9_height_11 (by decide) (fun c4 => ?_) (fun c4 => ?_)
      · replace hM := if_t c4 hM
        refine lv_iload_n hx hb dX9_height_56 rfl (lv_at hl 3 rfl) ?_
        have hz := Option.some.inj hM
        subst hz
        have hz := kn_r hk0
        exact W.iret hx hb hr (fun t ht hW => jq_i hK hI hz ht hW) hI.2.2.2 dX9_height_57
      · replace hM := if_f c4 hM
        refine lv_aload_n hx hb dX9_height_14 rfl (lv_at hl 1 rfl) ?_
        refine lv_iconst (v := (2 : Int32)) hx hb dX9_height_15 (by decide) ?_
        refine va_iald hx hb hK hI.1 r1 0 (mg_Of am cI cZ st1 h1) rfl (inB_vp rfl) dX9_height_16 ?_
        refine W.eq (g2 := F0 m 17 ls [.int (st1.1 r1 2)]) rfl ?_
        refine lv_iload hx hb dX9_height_17 (lv_at hl 4 rfl) ?_
        obtain ⟨v5, st6, hqv5, hM⟩ := bd_at hM
        refine jcallS (As := [.int (st1.1 r1 2), .int w3]) (rest := []) ⟨hx, hb, hml, hown, hts⟩ (jw_X9_has D am cI cZ hj N hqv5) (va_cwS 2 hts gX9_height_X9_has rfl rfl rfl yd_X9_has ⟨Nat.le_of_ble_eq_true rfl, Nat.le_of_ble_eq_true rfl⟩) hK hI rfl hl.1 rfl (Nat.le_of_ble_eq_true rfl) dX9_height_19 (fun H locs hI => ?_)
        refine W.eq (g2 := F0 m 22 ls [.int v5]) rfl ?_
        refine lv_if_ne (tgt := 48) hx hb dX9_height_22 (by decide) (fun c7 => ?_) (fun c7 => ?_)
        · replace hM := if_f c7 hM
          refine lv_iload_n hx hb dX9_height_48 rfl (lv_at hl 3 rfl) ?_
          refine lv_istore_n (lv' := [(3, .int w2), (0, .ref (am 0)), (1, .ref (am r1)), (2, .int x2), (4, .int w3)]) hx hb dX9_height_49 rfl hl (by decide) rfl (fun ls hl => ?_)
          refine lv_iinc (v := (w3 + (1 : Int32))) (lv' := [(4, .int (w3 + (1 : Int32))), (3, .int w2), (0, .ref (am 0)), (1, .ref (am r1)), (2, .int x2)]) hx hb dX9_height_50 hl (k := 4) rfl rfl (by decide) rfl (fun ls hl => ?_)
          refine lv_goto (tgt := 5) hx hb dX9_height_53 (by decide) ?_
          have hz := Option.some.inj hM
          subst hz
          exact ih0 w2 (w3 + (1 : Int32)) st6 _ _ _ hI (lv_sub hl [2, 3, 4, 1, 0] rfl) hk0
        · replace hM := if_t c7 hM
          refine lv_aload_n hx hb dX9_height_25 rfl (lv_at hl 0 rfl) ?_
          refine lv_aload_n hx hb dX9_height_26 rfl (lv_at hl 1 rfl) ?_
          refine lv_iload hx hb dX9_height_27 (lv_at hl 4 rfl) ?_
          refine lv_iload_n hx hb dX9_height_29 rfl (lv_at hl 2 rfl) ?_
          obtain ⟨v8, st9, hqv8, hM⟩ := bd_at hM
          refine jcallV (C := RX9) (As := [.ref (am r1), .int w3, .int x2]) (rest := []) ⟨hx, hb, hml, hown, hts⟩ (jw_X9_reaches D am cI cZ hj N h1 hqv8) (cwV 3 hts gX9_height_X9_reaches rfl rfl rfl yd_X9_reaches ⟨Nat.le_of_ble_eq_true rfl, Nat.le_of_ble_eq_true rfl⟩) hK hI 0 (mg_0 am cI cZ st6) rfl rfl hl.1 rfl (Nat.le_of_ble_eq_true rfl) dX9_height_30 (fun H locs hI => ?_)
          refine W.eq (g2 := F0 m 33 ls [.int v8]) rfl ?_
          refine lv_iload_n hx hb dX9_height_33 rfl (lv_at hl 3 rfl) ?_
          refine lv_icmp_le (tgt := 48) hx hb dX9_height_34 (by decide) (fun c10 => ?_) (fun c10 => ?_)
          · replace hM := if_t c10 hM
            refine lv_iload_n hx hb dX9_height_48 rfl (lv_at hl 3 rfl) ?_
            refine lv_istore_n (lv' := [(3, .int w2), (0, .ref (am 0)), (1, .ref (am r1)), (2, .int x2), (4, .int w3)]) hx hb dX9_height_49 rfl hl (by decide) rfl (fun ls hl => ?_)
            refine lv_iinc (v := (w3 + (1 : Int32))) (lv' := [(4, .int (w3 + (1 : Int32))), (3, .int w2), (0, .ref (am 0)), (1, .ref (am r1)), (2, .int x2)]) hx hb dX9_height_50 hl (k := 4) rfl rfl (by decide) rfl (fun ls hl => ?_)
            refine lv_goto (tgt := 5) hx hb dX9_height_53 (by decide) ?_
            have hz := Option.some.inj hM
            subst hz
            exact ih0 w2 (w3 + (1 : Int32)) st9 _ _ _ hI (lv_sub hl [2, 3, 4, 1, 0] rfl) hk0
          · replace hM := if_f c10 hM
            refine lv_aload_n hx hb dX9_height_37 rfl (lv_at hl 0 rfl) ?_
            refine lv_aload_n hx hb dX9_height_38 rfl (lv_at hl 1 rfl) ?_
            refine lv_iload hx hb dX9_height_39 (lv_at hl 4 rfl) ?_
            refine lv_iload_n hx hb dX9_height_41 rfl (lv_at hl 2 rfl) ?_
            obtain ⟨v11, st12, hqv11, hM⟩ := bd_at hM
            refine jcallV (C := RX9) (As := [.ref (am r1), .int w3, .int x2]) (rest := []) ⟨hx, hb, hml, hown, hts⟩ (jw_X9_reaches D am cI cZ hj N h1 hqv11) (cwV 3 hts gX9_height_X9_reaches rfl rfl rfl yd_X9_reaches ⟨Nat.le_of_ble_eq_true rfl, Nat.le_of_ble_eq_true rfl⟩) hK hI 0 (mg_0 am cI cZ st9) rfl rfl hl.1 rfl (Nat.le_of_ble_eq_true rfl) dX9_height_42 (fun H locs hI => ?_)
            refine W.eq (g2 := F0 m 45 ls [.int v11]) rfl ?_
            refine lv_goto (tgt := 49) hx hb dX9_height_45 (by decide) ?_
            refine lv_istore_n (lv' := [(3, .int v11), (0, .ref (am 0)), (1, .ref (am r1)), (2, .int x2), (4, .int w3)]) hx hb dX9_height_49 rfl hl (by decide) rfl (fun ls hl => ?_)
            refine lv_iinc (v := (w3 + (1 : Int32))) (lv' := [(4, .int (w3 + (1 : Int32))), (3, .int v11), (0, .ref (am 0)), (1, .ref (am r1)), (2, .int x2)]) hx hb dX9_height_50 hl (k := 4) rfl rfl (by decide) rfl (fun ls hl => ?_)
            refine lv_goto (tgt := 5) hx hb dX9_height_53 (by decide) ?_
            have hz := Option.some.inj hM
            subst hz
            exact ih0 v11 (w3 + (1 : Int32)) st12 _ _ _ hI (lv_sub hl [2, 3, 4, 1, 0] rfl) hk0
  exact lp0 N (0 : Int32) (0 : Int32) st _ _ _ hI (lv_sub hl [2, 3, 4, 1, 0] rfl) hM
set_option maxRecDepth 20000 in
theorem hi_X9_borne_X9 : ∀ w ∈ wsX90, w ∈ wsX9_borne := by decide +kernel
set_option maxHeartbeats 4000000 in
set_option maxRecDepth 100000 in
theorem jw_X9_borne {l : Launch} (D : va_G) (am : Nat → Nat) (cI cZ : ClassId) (hj : aJ am 24) (N : Nat) {r1 : Nat} {x2 : Int32} (h1 : mk_Of r1) {st stZ : PS} {rZ : Int32} (hM : jm_X9_borne N r1 x2 st = some (rZ, stZ)) : Met l yX9_borne wsX9_borne ({ frames := 3, cells := 0, slots := 0, locals := 68 }) (va_Pc [.ref (am 0), .ref (am r1), .int x2] (JH D (mW am cI cZ) (mTy cI cZ) st)) (JQ D (aA am 24) (mW am cI cZ) (mTy cI cZ) (some (.int rZ)) stZ) 0 0 (aA am 24) := by
  refine jStart (cc := cX9_borne) (maxL := 6) (ret := (some .int)) [.ref (am 0), .ref (am r1), .int x2] (by decide) rfl (Nat.le_of_ble_eq_true rfl) (fun p e s m below meth c ls hx hb hr hlocks hts hown hml hK hI hl => ?_)
  have hown : s.vm.findClass RX9 = some m.cls := hown
  replace hl : lv_has ls 6 [(0, .ref (am 0)), (1, .ref (am r1)), (2, .int x2)] := hl
  generalize hAV : ([.ref (am 0), .ref (am r1), .int x2] : List Value).toArray = AV at hts ⊢
  have f_0 := hts (.fieldLink RX9 172 "PuppetBarModel" "m" "I") (by decide +kernel)
  unfold jm_X9_borne at hM
  refine lv_aload_n hx hb dX9_borne_0 rfl (lv_at hl 0 rfl) ?_
  refine lv_aload_n hx hb dX9_borne_1 rfl (lv_at hl 1 rfl) ?_
  refine lv_iload_n hx hb dX9_borne_2 rfl (lv_at hl 2 rfl) ?_
  obtain ⟨v1, st2, hqv1, hM⟩ := bd_at hM
  refine jcallV (C := RX9) (As := [.ref (am r1), .int x2]) (rest := []) ⟨hx, hb, hml, hown, hts⟩ (jw_X9_height D am cI cZ hj N h1 hqv1) (cwV 2 hts gX9_borne_X9_height rfl rfl rfl yd_X9_height ⟨Nat.le_of_ble_eq_true rfl, Nat.le_of_ble_eq_true rfl⟩) hK hI 0 (mg_0 am cI cZ st) rfl rfl hl.1 rfl (Nat.le_of_ble_eq_true rfl) dX9_borne_3 (fun H locs hI => ?_)
  refine W.eq (g2 := F0 m 6 ls [.int v1]) rfl ?_
  refine lv_istore_n (lv' := [(3, .int v1), (0, .ref (am 0)), (1, .ref (am r1)), (2, .int x2)]) hx hb dX9_borne_6 rfl hl (by decide) rfl (fun ls hl => ?_)
  refine lv_bipush (v := (-9 : Int32)) hx hb dX9_borne_7 (by decide) ?_
  refine lv_istore (lv' := [(4, .int (-9 : Int32)), (3, .int v1), (0, .ref (am 0)), (1, .ref (am r1)), (2, .int x2)]) hx hb dX9_borne_9 hl (by decide) rfl (fun ls hl => ?_)
  refine lv_aload_n hx hb dX9_borne_11 rfl (lv_at hl 2 rfl) ?_
  refine va_get (D := D) (ci := 9) (v := .int (st2.1 0 19)) (C := RX9) (T := TX9) (N := 43) hx hb hts hi_X9_borne_X9 hown hK hI.1 0 (mg_0 am cI cZ st2) rfl 19 (by decide) f_0 (fun _ h9 => h9) rfl dX9_borne_12 ?_
  refine lv_iconst (v := (1 : Int32)) hx hb dX9_borne_15 (by decide) ?_
  refine lv_isub hx hb dX9_borne_16 ?_
  refine lv_istore (lv' := [(5, .int ((st2.1 0 19) - (1 : Int32))), (4, .int (-9 : Int32)), (3, .int v1), (0, .ref (am 0)), (1, .ref (am r1)), (2, .int x2)]) hx hb dX9_borne_17 hl (by decide) rfl (fun ls hl => ?_)
  have lp0 : ∀ (n : Nat) (w4 : Int32) (w5 : Int32) (st3 : PS) (H : Heap) (locs : List Loc) (ls : Array Slot), JI D (aA am 24) (mW am cI cZ) s.heap st3 H locs → lv_has ls 6 [(0, .ref (am 0)), (1, .ref (am r1)), (2, .int x2), (3, .int v1), (4, .int w4), (5, .int w5)] → iter (fun q => jm_X9_borne_L19 N r1 x2 v1 q.1 q.2.1 q.2.2) n (w4, w5, st3) = some (rZ, stZ) → W p l e (headSpec wsX9_borne { frames := 3, cells := 0, slots := 0, locals := 68 }).room s m AV below meth c H locs 0 0 (MQ below (JQ D (aA am 24) (mW am cI cZ) (mTy cI cZ) (some (.int rZ)) stZ) AV s 0 0 (aA am 24)) (F0 m 19 ls []) := by
    intro n
    induction n with
    | zero =>
      intro _ _ _ _ _ _ _ _ hM
      exact absurd hM (fun h => iter_zero h)
    | succ n ih0 =>
      intro w4 w5 st3 H locs ls hI hl hM
      obtain ⟨z0, hM, hk0⟩ := iter_succ hM
      replace hM : jm_X9_borne_L19 N r1 x2 v1 w4 w5 st3 = some z0 := hM
      unfold jm_X9_borne_L19 at hM
      refine lv_iload hx hb dX9_borne_19 (lv_at hl 5 rfl) ?_
      refine lv_if_lt (tgt := 66) hx hb dX9_borne_21 (by decide) (fun c6 => ?_) (fun c6 => ?_)
      · replace hM := if_t c6 hM
        refine lv_iload hx hb dX9_borne_66 (lv_at hl 4 rfl) ?_
        have hz := Option.some.inj hM
        subst hz
        have hz := kn_r hk0
        exact W.iret hx hb hr (fun t ht hW => jq_i hK hI hz ht hW) hI.2.2.2 dX9_borne_68
      · replace hM := if_f c6 hM
        refine lv_iload_n hx hb dX9_borne_24 rfl (lv_at hl 3 rfl) ?_
        refine lv_if_le (tgt := 56) hx hb dX9_borne_25 (by decide) (fun c7 => ?_) (fun c7 => ?_)
        · replace hM := if_t c7 hM
          refine lv_iload hx hb dX9_borne_56 (lv_at hl 4 rfl) ?_
          refine lv_istore (lv' := [(4, .int w4), (0, .ref (am 0)), (1, .ref (am r1)), (2, .int x2), (3, .int v1), (5, .int w5)]) hx hb dX9_borne_58 hl (by decide) rfl (fun ls hl => ?_)
          refine lv_iinc (v := (w5 + (-1 : Int32))) (lv' := [(5, .int (w5 + (-1 : Int32))), (4, .int w4), (0, .ref (am 0)), (1, .ref (am r1)), (2, .int x2), (3, .int v1)]) hx hb dX9_borne_60 hl (k := 5) rfl rfl (by decide) rfl (fun ls hl => ?_)
          refine lv_goto (tgt := 19) hx hb dX9_borne_63 (by decide) ?_
          have hz := Option.some.inj hM
          subst hz
          exact ih0 w4 (w5 + (-1 : Int32)) st3 _ _ _ hI (lv_sub hl [2, 3, 4, 5, 1, 0] rfl) hk0
        · replace hM := if_f c7 hM
          refine lv_aload_n hx hb dX9_borne_28 rfl (lv_at hl 1 rfl) ?_
          refine lv_iconst (v := (2 : Int32)) hx hb dX9_borne_29 (by decide) ?_
          refine va_iald hx hb hK hI.1 r1 0 (mg_Of am cI cZ st3 h1) rfl (inB_vp rfl) dX9_borne_30 ?_
          refine W.eq (g2 := F0 m 31 ls [.int (st3.1 r1 2)]) rfl ?_
          refine lv_iload hx hb dX9_borne_31 (lv_at hl 5 rfl) ?_
          obtain ⟨v8, st9, hqv8, hM⟩ := bd_at hM
          refine jcallS (As := [.int (st3.1 r1 2), .int w5]) (rest := []) ⟨hx, hb, hml, hown, hts⟩ (jw_X9_has D am cI cZ hj N hqv8) (va_cwS 2 hts gX9_borne_X9_has rfl rfl rfl yd_X9_has ⟨Nat.le_of_ble_eq_true rfl, Nat.le_of_ble_eq_true rfl⟩) hK hI rfl hl.1 rfl (Nat.le_of_ble_eq_true rfl) dX9_borne_33 (fun H locs hI => ?_)
          refine W.eq (g2 := F0 m 36 ls [.int v8]) rfl ?_
          refine lv_if_ne (tgt := 56) hx hb dX9_borne_36 (by decide) (fun c10 => ?_) (fun c10 => ?_)
          · replace hM := if_f c10 hM
            refine lv_iload hx hb dX9_borne_56 (lv_at hl 4 rfl) ?_
            refine lv_istore (lv' := [(4, .int w4), (0, .ref (am 0)), (1, .ref (am r1)), (2, .int x2), (3, .int v1), (5, .int w5)]) hx hb dX9_borne_58 hl (by decide) rfl (fun ls hl => ?_)
            refine lv_iinc (v := (w5 + (-1 : Int32))) (lv' := [(5, .int (w5 + (-1 : Int32))), (4, .int w4), (0, .ref (am 0)), (1, .ref (am r1)), (2, .int x2), (3, .int v1)]) hx hb dX9_borne_60 hl (k := 5) rfl rfl (by decide) rfl (fun ls hl => ?_)
            refine lv_goto (tgt := 19) hx hb dX9_borne_63 (by decide) ?_
            have hz := Option.some.inj hM
            subst hz
            exact ih0 w4 (w5 + (-1 : Int32)) st9 _ _ _ hI (lv_sub hl [2, 3, 4, 5, 1, 0] rfl) hk0
          · replace hM := if_t c10 hM
            refine lv_aload_n hx hb dX9_borne_39 rfl (lv_at hl 0 rfl) ?_
            refine lv_aload_n hx hb dX9_borne_40 rfl (lv_at hl 1 rfl) ?_
            refine lv_iload hx hb dX9_borne_41 (lv_at hl 5 rfl) ?_
            refine lv_iload_n hx hb dX9_borne_43 rfl (lv_at hl 2 rfl) ?_
            obtain ⟨v11, st12, hqv11, hM⟩ := bd_at hM
            refine jcallV (C := RX9) (As := [.ref (am r1), .int w5, .int x2]) (rest := []) ⟨hx, hb, hml, hown, hts⟩ (jw_X9_reaches D am cI cZ hj N h1 hqv11) (cwV 3 hts gX9_borne_X9_reaches rfl rfl rfl yd_X9_reaches ⟨Nat.le_of_ble_eq_true rfl, Nat.le_of_ble_eq_true rfl⟩) hK hI 0 (mg_0 am cI cZ st9) rfl rfl hl.1 rfl (Nat.le_of_ble_eq_true rfl) dX9_borne_44 (fun H locs hI => ?_)
            refine W.eq (g2 := F0 m 47 ls [.int v11]) rfl ?_
            refine lv_iload_n hx hb dX9_borne_47 rfl (lv_at hl 3 rfl) ?_
            refine lv_icmp_ne (tgt := 56) hx hb dX9_borne_48 (by decide) (fun c13 => ?_) (fun c13 => ?_)
            · replace hM := if_f c13 hM
              refine lv_iload hx hb dX9_borne_56 (lv_at hl 4 rfl) ?_
              refine lv_istore (lv' := [(4, .int w4), (0, .ref (am 0)), (1, .ref (am r1)), (2, .int x2), (3, .int v1), (5, .int w5)]) hx hb dX9_borne_58 hl (by decide) rfl (fun ls hl => ?_)
              refine lv_iinc (v := (w5 + (-1 : Int32))) (lv' := [(5, .int (w5 + (-1 : Int32))), (4, .int w4), (0, .ref (am 0)), (1, .ref (am r1)), (2, .int x2), (3, .int v1)]) hx hb dX9_borne_60 hl (k := 5) rfl rfl (by decide) rfl (fun ls hl => ?_)
              refine lv_goto (tgt := 19) hx hb dX9_borne_63 (by decide) ?_
              have hz := Option.some.inj hM
              subst hz
              exact ih0 w4 (w5 + (-1 : Int32)) st12 _ _ _ hI (lv_sub hl [2, 3, 4, 5, 1, 0] rfl) hk0
            · replace hM := if_t c13 hM
              refine lv_iload hx hb dX9_borne_51 (lv_at hl 5 rfl) ?_
              refine lv_goto (tgt := 58) hx hb dX9_borne_53 (by decide) ?_
              refine lv_istore (lv' := [(4, .int w5), (0, .ref (am 0)), (1, .ref (am r1)), (2, .int x2), (3, .int v1), (5, .int w5)]) hx hb dX9_borne_58 hl (by decide) rfl (fun ls hl => ?_)
              refine lv_iinc (v := (w5 + (-1 : Int32))) (lv' := [(5, .int (w5 + (-1 : Int32))), (4, .int w5), (0, .ref (am 0)), (1, .ref (am r1)), (2, .int x2), (3, .int v1)]) hx hb dX9_borne_60 hl (k := 5) rfl rfl (by decide) rfl (fun ls hl => ?_)
              refine lv_goto (tgt := 19) hx hb dX9_borne_63 (by decide) ?_
              have hz := Option.some.inj hM
              subst hz
              exact ih0 w5 (w5 + (-1 : Int32)) st12 _ _ _ hI (lv_sub hl [2, 3, 4, 5, 1, 0] rfl) hk0
  exact lp0 N (-9 : Int32) ((st2.1 0 19) - (1 : Int32)) st2 _ _ _ hI (lv_sub hl [3, 4, 5, 2, 1, 0] rfl) hM
set_option maxRecDepth 20000 in
theorem hi_X9_load_X9 : ∀ w ∈ wsX90, w ∈ wsX9_load := by decide +kernel
set_option maxHeartbeats 4000000 in
set_option maxRecDepth 100000 in
theorem jw_X9_load {l : Launch} (D : va_G) (am : Nat → Nat) (cI cZ : ClassId) (hj : aJ am 24) (N : Nat) {r1 : Nat} {x2 : Int32} (h1 : mk_Of r1) {st stZ : PS} {rZ : Int32} (hM : jm_X9_load N r1 x2 st = some (rZ, stZ)) : Met l yX9_load wsX9_load ({ frames := 4, cells := 0, slots := 0, locals := 93 }) (va_Pc [.ref (am 0), .ref (am r1), .int x2] (JH D (mW am cI cZ) (mTy cI cZ) st)) (JQ D (aA am 24) (mW am cI cZ) (mTy cI cZ) (some (.int rZ)) stZ) 0 0 (aA am 24) := by
  refine jStart (cc := cX9_load) (maxL := 5) (ret := (some .int)) [.ref (am 0), .ref (am r1), .int x2] (by decide) rfl (Nat.le_of_ble_eq_true rfl) (fun p e s m below meth c ls hx hb hr hlocks hts hown hml hK hI hl => ?_)
  have hown : s.vm.findClass RX9 = some m.cls := hown
  replace hl : lv_has ls 5 [(0, .ref (am 0)), (1, .ref (am r1)), (2, .int x2)] := hl
  generalize hAV : ([.ref (am 0), .ref (am r1), .int x2] : List Value).toArray = AV at hts ⊢
  have f_0 := hts (.fieldLink RX9 169 "PuppetBarModel" "n" "I") (by decide +kernel)
  have f_1 := hts (.fieldLink RX9 31 "PuppetBarModel" "weights" "[I") (by decide +kernel)
  unfold jm_X9_load at hM
  refine lv_iconst (v := (0 : Int32)) hx hb dX9_load_0 (by decide) ?_
  refine lv_istore_n (lv' := [(3, .int (0 : Int32)), (0, .ref (am 0)), (1, .ref (am r1)), (2, .int x2)]) hx hb dX9_load_1 rfl hl (by decide) rfl (fun ls hl => ?_)
  refine lv_iconst (v := (0 : Int32)) hx hb dX9_load_2 (by decide) ?_
  refine lv_istore (lv' := [(4, .int (0 : Int32)), (3, .int (0 : Int32)), (0, .ref (am 0)), (1, .ref (am r1)), (2, .int x2)]) hx hb dX9_load_3 hl (by decide) rfl (fun ls hl => ?_)
  have lp0 : ∀ (n : Nat) (w2 : Int32) (w3 : Int32) (st1 : PS) (H : Heap) (locs : List Loc) (ls : Array Slot), JI D (aA am 24) (mW am cI cZ) s.heap st1 H locs → lv_has ls 5 [(0, .ref (am 0)), (1, .ref (am r1)), (2, .int x2), (3, .int w2), (4, .int w3)] → iter (fun q => jm_X9_load_L5 N r1 x2 q.1 q.2.1 q.2.2) n (w2, w3, st1) = some (rZ, stZ) → W p l e (headSpec wsX9_load { frames := 4, cells := 0, slots := 0, locals := 93 }).room s m AV below meth c H locs 0 0 (MQ below (JQ D (aA am 24) (mW am cI cZ) (mTy cI cZ) (some (.int rZ)) stZ) AV s 0 0 (aA am 24)) (F0 m 5 ls []) := by
    intro n
    induction n with
    | zero =>
      intro _ _ _ _ _ _ _ _ hM
      exact absurd hM (fun h => iter_zero h)
    | succ n ih0 =>
      intro w2 w3 st1 H locs ls hI hl hM
      obtain ⟨z0, hM, hk0⟩ := iter_succ hM
      replace hM : jm_X9_load_L5 N r1 x2 w2 w3 st1 = some z0 := hM
      unfold jm_X9_load_L5 at hM
      refine lv_iload hx hb dX9_load_5 (lv_at hl 4 rfl) ?_
      refine lv_aload_n hx hb dX9_load_7 rfl (lv_at hl 0 rfl) ?_
      refine va_get (D := D) (ci := 9) (v := .int (st1.1 0 18)) (C := RX9) (T := TX9) (N := 43) hx hb hts hi_X9_load_X9 hown hK hI.1 0 (mg_0 am cI cZ st1) rfl 18 (by decide) f_0 (fun _ h9 => h9) rfl dX9_load_8 ?_
      refine lv_icmp_ge (tgt := 45) hx hb dX9_load_11 (by decide) (fun c4 => ?_) (fun c4 => ?_)
      · replace hM := if_t c4 hM
        refine lv_iload_n hx hb dX9_load_45 rfl (lv_at hl 3 rfl) ?_
        have hz := Option.some.inj hM
        subst hz
        have hz := kn_r hk0
        exact W.iret hx hb hr (fun t ht hW => jq_i hK hI hz ht hW) hI.2.2.2 dX9_load_46
      · replace hM := if_f c4 hM
        refine lv_iload_n hx hb dX9_load_14 rfl (lv_at hl 3 rfl) ?_
        refine lv_aload_n hx hb dX9_load_15 rfl (lv_at hl 0 rfl) ?_
        refine lv_aload_n hx hb dX9_load_16 rfl (lv_at hl 1 rfl) ?_
        refine lv_iload hx hb dX9_load_17 (lv_at hl 4 rfl) ?_
        obtain ⟨v5, st6, hqv5, hM⟩ := bd_at hM
        refine jcallV (C := RX9) (As := [.ref (am r1), .int w3]) (rest := [.int w2]) ⟨hx, hb, hml, hown, hts⟩ (jw_X9_borne D am cI cZ hj N h1 hqv5) (cwV 2 hts gX9_load_X9_borne rfl rfl rfl yd_X9_borne ⟨Nat.le_of_ble_eq_true rfl, Nat.le_of_ble_eq_true rfl⟩) hK hI 0 (mg_0 am cI cZ st1) rfl rfl hl.1 rfl (Nat.le_of_ble_eq_true rfl) dX9_load_19 (fun H locs hI => ?_)
        refine W.eq (g2 := F0 m 22 ls [.int v5, .int w2]) rfl ?_
        refine lv_iload_n hx hb dX9_load_22 rfl (lv_at hl 2 rfl) ?_
        refine lv_icmp_ne (tgt := 36) hx hb dX9_load_23 (by decide) (fun c7 => ?_) (fun c7 => ?_)
        · replace hM := if_f c7 hM
          refine lv_iconst (v := (0 : Int32)) hx hb dX9_load_36 (by decide) ?_
          refine lv_iadd hx hb dX9_load_37 ?_
          refine lv_istore_n (lv' := [(3, .int (w2 + (0 : Int32))), (0, .ref (am 0)), (1, .ref (am r1)), (2, .int x2), (4, .int w3)]) hx hb dX9_load_38 rfl hl (by decide) rfl (fun ls hl => ?_)
          refine lv_iinc (v := (w3 + (1 : Int32))) (lv' := [(4, .int (w3 + (1 : Int32))), (3, .int (w2 + (0 : Int32))), (0, .ref (am 0)), (1, .ref (am r1)), (2, .int x2)]) hx hb dX9_load_39 hl (k := 4) rfl rfl (by decide) rfl (fun ls hl => ?_)
          refine lv_goto (tgt := 5) hx hb dX9_load_42 (by decide) ?_
          have hz := Option.some.inj hM
          subst hz
          exact ih0 (w2 + (0 : Int32)) (w3 + (1 : Int32)) st6 _ _ _ hI (lv_sub hl [2, 3, 4, 1, 0] rfl) hk0
        · replace hM := if_t c7 hM
          refine lv_aload_n hx hb dX9_load_26 rfl (lv_at hl 0 rfl) ?_
          refine va_get (D := D) (ci := 9) (v := .ref (am 8)) (C := RX9) (T := TX9) (N := 43) hx hb hts hi_X9_load_X9 hown hK hI.1 0 (mg_0 am cI cZ st6) rfl 23 (by decide) f_1 (fun _ h9 => h9) rfl dX9_load_27 ?_
          refine lv_iload hx hb dX9_load_30 (lv_at hl 4 rfl) ?_
          obtain ⟨g8, hM⟩ := gd_at hM
          refine va_iald hx hb hK hI.1 8 0 (mg_8 am cI cZ st6) rfl (inB_vp g8) dX9_load_32 ?_
          refine lv_goto (tgt := 37) hx hb dX9_load_33 (by decide) ?_
          refine lv_iadd hx hb dX9_load_37 ?_
          refine lv_istore_n (lv' := [(3, .int (w2 + (st6.1 8 (w3).toNatClampNeg))), (0, .ref (am 0)), (1, .ref (am r1)), (2, .int x2), (4, .int w3)]) hx hb dX9_load_38 rfl hl (by decide) rfl (fun ls hl => ?_)
          refine lv_iinc (v := (w3 + (1 : Int32))) (lv' := [(4, .int (w3 + (1 : Int32))), (3, .int (w2 + (st6.1 8 (w3).toNatClampNeg))), (0, .ref (am 0)), (1, .ref (am r1)), (2, .int x2)]) hx hb dX9_load_39 hl (k := 4) rfl rfl (by decide) rfl (fun ls hl => ?_)
          refine lv_goto (tgt := 5) hx hb dX9_load_42 (by decide) ?_
          have hz := Option.some.inj hM
          subst hz
          exact ih0 (w2 + (st6.1 8 (w3).toNatClampNeg)) (w3 + (1 : Int32)) st6 _ _ _ hI (lv_sub hl [2, 3, 4, 1, 0] rfl) hk0
  exact lp0 N (0 : Int32) (0 : Int32) st _ _ _ hI (lv_sub hl [2, 3, 4, 1, 0] rfl) hM
set_option maxHeartbeats 4000000 in
set_option maxRecDepth 100000 in
theorem jw_X9_up {l : Launch} (D : va_G) (am : Nat → Nat) (cI cZ : ClassId) (hj : aJ am 24) (N : Nat) {x0 : Int32} {st stZ : PS} {rZ : Int32} (hM : jm_X9_up N x0 st = some (rZ, stZ)) : Met l yX9_up wsX9_up ({ frames := 0, cells := 0, slots := 0, locals := 0 }) (va_Pc [.int x0] (JH D (mW am cI cZ) (mTy cI cZ) st)) (JQ D (aA am 24) (mW am cI cZ) (mTy cI cZ) (some (.int rZ)) stZ) 0 0 (aA am 24) := by
  refine jStart (cc := cX9_up) (maxL := 1) (ret := (some .int)) [.int x0] (by decide) rfl (Nat.le_of_ble_eq_true rfl) (fun p e s m below meth c ls hx hb hr hlocks hts hown hml hK hI hl => ?_)
  have hown : s.vm.findClass RX9 = some m.cls := hown
  replace hl : lv_has ls 1 [(0, .int x0)] := hl
  generalize hAV : ([.int x0] : List Value).toArray = AV at hts ⊢
  unfold jm_X9_up at hM
  refine lv_iload_n hx hb dX9_up_0 rfl (lv_at hl 0 rfl) ?_
  refine lv_if_le (tgt := 8) hx hb dX9_up_1 (by decide) (fun c1 => ?_) (fun c1 => ?_)
  · replace hM := if_t c1 hM
    refine lv_iconst (v := (0 : Int32)) hx hb dX9_up_8 (by decide) ?_
    have hz := Option.some.inj hM
    exact W.iret hx hb hr (fun t ht hW => jq_i hK hI hz ht hW) hI.2.2.2 dX9_up_9
  · replace hM := if_f c1 hM
    refine lv_iconst (v := (1 : Int32)) hx hb dX9_up_4 (by decide) ?_
    refine lv_goto (tgt := 9) hx hb dX9_up_5 (by decide) ?_
    have hz := Option.some.inj hM
    exact W.iret hx hb hr (fun t ht hW => jq_i hK hI hz ht hW) hI.2.2.2 dX9_up_9
set_option maxRecDepth 20000 in
theorem hi_X9_ground_X9 : ∀ w ∈ wsX90, w ∈ wsX9_ground := by decide +kernel
set_option maxHeartbeats 4000000 in
set_option maxRecDepth 100000 in
theorem jw_X9_ground {l : Launch} (D : va_G) (am : Nat → Nat) (cI cZ : ClassId) (hj : aJ am 24) (N : Nat) {r1 : Nat} (h1 : mk_Of r1) {st stZ : PS} {rZ : Int32} (hM : jm_X9_ground N r1 st = some (rZ, stZ)) : Met l yX9_ground wsX9_ground ({ frames := 3, cells := 0, slots := 0, locals := 68 }) (va_Pc [.ref (am 0), .ref (am r1)] (JH D (mW am cI cZ) (mTy cI cZ) st)) (JQ D (aA am 24) (mW am cI cZ) (mTy cI cZ) (some (.int rZ)) stZ) 0 0 (aA am 24) := by
  refine jStart (cc := cX9_ground) (maxL := 4) (ret := (some .int)) [.ref (am 0), .ref (am r1)] (by decide) rfl (Nat.le_of_ble_eq_true rfl) (fun p e s m below meth c ls hx hb hr hlocks hts hown hml hK hI hl => ?_)
  have hown : s.vm.findClass RX9 = some m.cls := hown
  replace hl : lv_has ls 4 [(0, .ref (am 0)), (1, .ref (am r1))] := hl
  generalize hAV : ([.ref (am 0), .ref (am r1)] : List Value).toArray = AV at hts ⊢
  have f_0 := hts (.fieldLink RX9 169 "PuppetBarModel" "n" "I") (by decide +kernel)
  unfold jm_X9_ground at hM
  refine lv_iconst (v := (0 : Int32)) hx hb dX9_ground_0 (by decide) ?_
  refine lv_istore_n (lv' := [(2, .int (0 : Int32)), (0, .ref (am 0)), (1, .ref (am r1))]) hx hb dX9_ground_1 rfl hl (by decide) rfl (fun ls hl => ?_)
  refine lv_iconst (v := (0 : Int32)) hx hb dX9_ground_2 (by decide) ?_
  refine lv_istore_n (lv' := [(3, .int (0 : Int32)), (2, .int (0 : Int32)), (0, .ref (am 0)), (1, .ref (am r1))]) hx hb dX9_ground_3 rfl hl (by decide) rfl (fun ls hl => ?_)
  have lp0 : ∀ (n : Nat) (w2 : Int32) (w3 : Int32) (st1 : PS) (H : Heap) (locs : List Loc) (ls : Array Slot), JI D (aA am 24) (mW am cI cZ) s.heap st1 H locs → lv_has ls 4 [(0, .ref (am 0)), (1, .ref (am r1)), (2, .int w2), (3, .int w3)] → iter (fun q => jm_X9_ground_L4 N r1 q.1 q.2.1 q.2.2) n (w2, w3, st1) = some (rZ, stZ) → W p l e (headSpec wsX9_ground { frames := 3, cells := 0, slots := 0, locals := 68 }).room s m AV below meth c H locs 0 0 (MQ below (JQ D (aA am 24) (mW am cI cZ) (mTy cI cZ) (some (.int rZ)) stZ) AV s 0 0 (aA am 24)) (F0 m 4 ls []) := by
    intro n
    induction n with
    | zero =>
      intro _ _ _ _ _ _ _ _ hM
      exact absurd hM (fun h => iter_zero h)
    | succ n ih0 =>
      intro w2 w3 st1 H locs ls hI hl hM
      obtain ⟨z0, hM, hk0⟩ := iter_succ hM
      replace hM : jm_X9_ground_L4 N r1 w2 w3 st1 = some z0 := hM
      unfold jm_X9_ground_L4 at hM
      refine lv_iload_n hx hb dX9_ground_4 rfl (lv_at hl 3 rfl) ?_
      refine lv_aload_n hx hb dX9_ground_5 rfl (lv_at hl 0 rfl) ?_
      refine va_get (D := D) (ci := 9) (v := .int (st1.1 0 18)) (C := RX9) (T := TX9) (N := 43) hx hb hts hi_X9_ground_X9 hown hK hI.1 0 (mg_0 am cI cZ st1) rfl 18 (by decide) f_0 (fun _ h9 => h9) rfl dX9_ground_6 ?_
      refine lv_icmp_ge (tgt := 34) hx hb dX9_ground_9 (by decide) (fun c4 => ?_) (fun c4 => ?_)
      · replace hM := if_t c4 hM
        refine lv_iload_n hx hb dX9_ground_34 rfl (lv_at hl 2 rfl) ?_
        have hz := Option.some.inj hM
        subst hz
        have hz := kn_r hk0
        exact W.iret hx hb hr (fun t ht hW => jq_i hK hI hz ht hW) hI.2.2.2 dX9_ground_35
      · replace hM := if_f c4 hM
        refine lv_iload_n hx hb dX9_ground_12 rfl (lv_at hl 2 rfl) ?_
        refine lv_iconst (v := (1 : Int32)) hx hb dX9_ground_13 (by decide) ?_
        refine lv_aload_n hx hb dX9_ground_14 rfl (lv_at hl 0 rfl) ?_
        refine lv_aload_n hx hb dX9_ground_15 rfl (lv_at hl 1 rfl) ?_
        refine lv_iload_n hx hb dX9_ground_16 rfl (lv_at hl 3 rfl) ?_
        obtain ⟨v5, st6, hqv5, hM⟩ := bd_at hM
        refine jcallV (C := RX9) (As := [.ref (am r1), .int w3]) (rest := [.int (1 : Int32), .int w2]) ⟨hx, hb, hml, hown, hts⟩ (jw_X9_height D am cI cZ hj N h1 hqv5) (cwV 2 hts gX9_ground_X9_height rfl rfl rfl yd_X9_height ⟨Nat.le_of_ble_eq_true rfl, Nat.le_of_ble_eq_true rfl⟩) hK hI 0 (mg_0 am cI cZ st1) rfl rfl hl.1 rfl (Nat.le_of_ble_eq_true rfl) dX9_ground_17 (fun H locs hI => ?_)
        refine W.eq (g2 := F0 m 20 ls [.int v5, .int (1 : Int32), .int w2]) rfl ?_
        obtain ⟨v7, st8, hqv7, hM⟩ := bd_at hM
        refine jcallS (As := [.int v5]) (rest := [.int (1 : Int32), .int w2]) ⟨hx, hb, hml, hown, hts⟩ (jw_X9_up D am cI cZ hj N hqv7) (va_cwS 1 hts gX9_ground_X9_up rfl rfl rfl yd_X9_up ⟨Nat.le_of_ble_eq_true rfl, Nat.le_of_ble_eq_true rfl⟩) hK hI rfl hl.1 rfl (Nat.le_of_ble_eq_true rfl) dX9_ground_20 (fun H locs hI => ?_)
        refine W.eq (g2 := F0 m 23 ls [.int v7, .int (1 : Int32), .int w2]) rfl ?_
        refine lv_isub hx hb dX9_ground_23 ?_
        refine lv_iload_n hx hb dX9_ground_24 rfl (lv_at hl 3 rfl) ?_
        refine lv_ishl hx hb dX9_ground_25 ?_
        refine lv_ior hx hb dX9_ground_26 ?_
        refine lv_topi (fun y9 ey9 => ?_)
        replace hM := nm_at ey9 hM
        refine lv_istore_n (lv' := [(2, .int y9), (0, .ref (am 0)), (1, .ref (am r1)), (3, .int w3)]) hx hb dX9_ground_27 rfl hl (by decide) rfl (fun ls hl => ?_)
        refine lv_iinc (v := (w3 + (1 : Int32))) (lv' := [(3, .int (w3 + (1 : Int32))), (2, .int y9), (0, .ref (am 0)), (1, .ref (am r1))]) hx hb dX9_ground_28 hl (k := 3) rfl rfl (by decide) rfl (fun ls hl => ?_)
        refine lv_goto (tgt := 4) hx hb dX9_ground_31 (by decide) ?_
        have hz := Option.some.inj hM
        subst hz
        exact ih0 y9 (w3 + (1 : Int32)) st8 _ _ _ hI (lv_sub hl [2, 3, 1, 0] rfl) hk0
  exact lp0 N (0 : Int32) (0 : Int32) st _ _ _ hI (lv_sub hl [2, 3, 1, 0] rfl) hM
set_option maxHeartbeats 4000000 in
set_option maxRecDepth 100000 in
theorem jw_X9_isTaut {l : Launch} (D : va_G) (am : Nat → Nat) (cI cZ : ClassId) (hj : aJ am 24) (N : Nat) {r1 : Nat} {x2 : Int32} (h1 : mk_Of r1) {st stZ : PS} {rZ : Int32} (hM : jm_X9_isTaut N r1 x2 st = some (rZ, stZ)) : Met l yX9_isTaut wsX9_isTaut ({ frames := 3, cells := 0, slots := 0, locals := 68 }) (va_Pc [.ref (am 0), .ref (am r1), .int x2] (JH D (mW am cI cZ) (mTy cI cZ) st)) (JQ D (aA am 24) (mW am cI cZ) (mTy cI cZ) (some (.int rZ)) stZ) 0 0 (aA am 24) := by
  refine jStart (cc := cX9_isTaut) (maxL := 3) (ret := (some .boolean)) [.ref (am 0), .ref (am r1), .int x2] (by decide) rfl (Nat.le_of_ble_eq_true rfl) (fun p e s m below meth c ls hx hb hr hlocks hts hown hml hK hI hl => ?_)
  have hown : s.vm.findClass RX9 = some m.cls := hown
  replace hl : lv_has ls 3 [(0, .ref (am 0)), (1, .ref (am r1)), (2, .int x2)] := hl
  generalize hAV : ([.ref (am 0), .ref (am r1), .int x2] : List Value).toArray = AV at hts ⊢
  unfold jm_X9_isTaut at hM
  refine lv_aload_n hx hb dX9_isTaut_0 rfl (lv_at hl 1 rfl) ?_
  refine lv_iconst (v := (2 : Int32)) hx hb dX9_isTaut_1 (by decide) ?_
  refine va_iald hx hb hK hI.1 r1 0 (mg_Of am cI cZ st h1) rfl (inB_vp rfl) dX9_isTaut_2 ?_
  refine W.eq (g2 := F0 m 3 ls [.int (st.1 r1 2)]) rfl ?_
  refine lv_iload_n hx hb dX9_isTaut_3 rfl (lv_at hl 2 rfl) ?_
  obtain ⟨v1, st2, hqv1, hM⟩ := bd_at hM
  refine jcallS (As := [.int (st.1 r1 2), .int x2]) (rest := []) ⟨hx, hb, hml, hown, hts⟩ (jw_X9_has D am cI cZ hj N hqv1) (va_cwS 2 hts gX9_isTaut_X9_has rfl rfl rfl yd_X9_has ⟨Nat.le_of_ble_eq_true rfl, Nat.le_of_ble_eq_true rfl⟩) hK hI rfl hl.1 rfl (Nat.le_of_ble_eq_true rfl) dX9_isTaut_4 (fun H locs hI => ?_)
  refine W.eq (g2 := F0 m 7 ls [.int v1]) rfl ?_
  refine lv_if_ne (tgt := 40) hx hb dX9_isTaut_7 (by decide) (fun c3 => ?_) (fun c3 => ?_)
  · replace hM := if_f c3 hM
    refine lv_iconst (v := (0 : Int32)) hx hb dX9_isTaut_40 (by decide) ?_
    have hz := Option.some.inj hM
    exact W.zret hx hb hr rfl (fun t ht hW => jq_i hK hI hz ht hW) hI.2.2.2 dX9_isTaut_41
  · replace hM := if_t c3 hM
    refine lv_aload_n hx hb dX9_isTaut_10 rfl (lv_at hl 1 rfl) ?_
    refine lv_iload_n hx hb dX9_isTaut_11 rfl (lv_at hl 2 rfl) ?_
    obtain ⟨v4, st5, hqv4, hM⟩ := bd_at hM
    refine jcallS (As := [.ref (am r1), .int x2]) (rest := []) ⟨hx, hb, hml, hown, hts⟩ (jw_X9_end D am cI cZ hj N h1 hqv4) (va_cwS 2 hts gX9_isTaut_X9_end rfl rfl rfl yd_X9_end ⟨Nat.le_of_ble_eq_true rfl, Nat.le_of_ble_eq_true rfl⟩) hK hI rfl hl.1 rfl (Nat.le_of_ble_eq_true rfl) dX9_isTaut_12 (fun H locs hI => ?_)
    refine W.eq (g2 := F0 m 15 ls [.int v4]) rfl ?_
    refine lv_if_le (tgt := 40) hx hb dX9_isTaut_15 (by decide) (fun c6 => ?_) (fun c6 => ?_)
    · replace hM := if_t c6 hM
      refine lv_iconst (v := (0 : Int32)) hx hb dX9_isTaut_40 (by decide) ?_
      have hz := Option.some.inj hM
      exact W.zret hx hb hr rfl (fun t ht hW => jq_i hK hI hz ht hW) hI.2.2.2 dX9_isTaut_41
    · replace hM := if_f c6 hM
      refine lv_aload_n hx hb dX9_isTaut_18 rfl (lv_at hl 0 rfl) ?_
      refine lv_aload_n hx hb dX9_isTaut_19 rfl (lv_at hl 1 rfl) ?_
      refine lv_aload_n hx hb dX9_isTaut_20 rfl (lv_at hl 1 rfl) ?_
      refine lv_iconst (v := (3 : Int32)) hx hb dX9_isTaut_21 (by decide) ?_
      refine lv_iload_n hx hb dX9_isTaut_22 rfl (lv_at hl 2 rfl) ?_
      refine lv_iadd hx hb dX9_isTaut_23 ?_
      obtain ⟨g7, hM⟩ := gd_at hM
      refine va_iald hx hb hK hI.1 r1 0 (mg_Of am cI cZ st5 h1) rfl (inB_vp g7) dX9_isTaut_24 ?_
      obtain ⟨v8, st9, hqv8, hM⟩ := bd_at hM
      refine jcallV (C := RX9) (As := [.ref (am r1), .int (st5.1 r1 (((3 : Int32) + x2)).toNatClampNeg)]) (rest := []) ⟨hx, hb, hml, hown, hts⟩ (jw_X9_height D am cI cZ hj N h1 hqv8) (cwV 2 hts gX9_isTaut_X9_height rfl rfl rfl yd_X9_height ⟨Nat.le_of_ble_eq_true rfl, Nat.le_of_ble_eq_true rfl⟩) hK hI 0 (mg_0 am cI cZ st5) rfl rfl hl.1 rfl (Nat.le_of_ble_eq_true rfl) dX9_isTaut_25 (fun H locs hI => ?_)
      refine W.eq (g2 := F0 m 28 ls [.int v8]) rfl ?_
      refine lv_aload_n hx hb dX9_isTaut_28 rfl (lv_at hl 1 rfl) ?_
      refine lv_iload_n hx hb dX9_isTaut_29 rfl (lv_at hl 2 rfl) ?_
      obtain ⟨v10, st11, hqv10, hM⟩ := bd_at hM
      refine jcallS (As := [.ref (am r1), .int x2]) (rest := [.int v8]) ⟨hx, hb, hml, hown, hts⟩ (jw_X9_end D am cI cZ hj N h1 hqv10) (va_cwS 2 hts gX9_isTaut_X9_end rfl rfl rfl yd_X9_end ⟨Nat.le_of_ble_eq_true rfl, Nat.le_of_ble_eq_true rfl⟩) hK hI rfl hl.1 rfl (Nat.le_of_ble_eq_true rfl) dX9_isTaut_30 (fun H locs hI => ?_)
      refine W.eq (g2 := F0 m 33 ls [.int v10, .int v8]) rfl ?_
      refine lv_icmp_ne (tgt := 40) hx hb dX9_isTaut_33 (by decide) (fun c12 => ?_) (fun c12 => ?_)
      · replace hM := if_f c12 hM
        refine lv_iconst (v := (0 : Int32)) hx hb dX9_isTaut_40 (by decide) ?_
        have hz := Option.some.inj hM
        exact W.zret hx hb hr rfl (fun t ht hW => jq_i hK hI hz ht hW) hI.2.2.2 dX9_isTaut_41
      · replace hM := if_t c12 hM
        refine lv_iconst (v := (1 : Int32)) hx hb dX9_isTaut_36 (by decide) ?_
        refine lv_goto (tgt := 41) hx hb dX9_isTaut_37 (by decide) ?_
        have hz := Option.some.inj hM
        exact W.zret hx hb hr rfl (fun t ht hW => jq_i hK hI hz ht hW) hI.2.2.2 dX9_isTaut_41
set_option maxRecDepth 20000 in
theorem hi_X9_limb_X9 : ∀ w ∈ wsX90, w ∈ wsX9_limb := by decide +kernel
set_option maxHeartbeats 4000000 in
set_option maxRecDepth 100000 in
theorem jw_X9_limb {l : Launch} (D : va_G) (am : Nat → Nat) (cI cZ : ClassId) (hj : aJ am 24) (N : Nat) {x1 : Int32} {x2 : Int32} {st stZ : PS} {rZ : Int32} (hM : jm_X9_limb N x1 x2 st = some (rZ, stZ)) : Met l yX9_limb wsX9_limb ({ frames := 4, cells := 0, slots := 0, locals := 93 }) (va_Pc [.ref (am 0), .int x1, .int x2] (JH D (mW am cI cZ) (mTy cI cZ) st)) (JQ D (aA am 24) (mW am cI cZ) (mTy cI cZ) (some (.int rZ)) stZ) 0 0 (aA am 24) := by
  refine jStart (cc := cX9_limb) (maxL := 3) (ret := (some .int)) [.ref (am 0), .int x1, .int x2] (by decide) rfl (Nat.le_of_ble_eq_true rfl) (fun p e s m below meth c ls hx hb hr hlocks hts hown hml hK hI hl => ?_)
  have hown : s.vm.findClass RX9 = some m.cls := hown
  replace hl : lv_has ls 3 [(0, .ref (am 0)), (1, .int x1), (2, .int x2)] := hl
  generalize hAV : ([.ref (am 0), .int x1, .int x2] : List Value).toArray = AV at hts ⊢
  have f_0 := hts (.fieldLink RX9 25 "PuppetBarModel" "parents" "[I") (by decide +kernel)
  have f_1 := hts (.fieldLink RX9 28 "PuppetBarModel" "bones" "[I") (by decide +kernel)
  have f_2 := hts (.fieldLink RX9 31 "PuppetBarModel" "weights" "[I") (by decide +kernel)
  have f_3 := hts (.fieldLink RX9 46 "PuppetBarModel" "now" "[I") (by decide +kernel)
  unfold jm_X9_limb at hM
  refine lv_aload_n hx hb dX9_limb_0 rfl (lv_at hl 0 rfl) ?_
  refine lv_iload_n hx hb dX9_limb_1 rfl (lv_at hl 1 rfl) ?_
  obtain ⟨v1, st2, hqv1, hM⟩ := bd_at hM
  refine jcallV (C := RX9) (As := [.int x1]) (rest := []) ⟨hx, hb, hml, hown, hts⟩ (jw_X9_isLimb D am cI cZ hj N hqv1) (cwV 1 hts gX9_limb_X9_isLimb rfl rfl rfl yd_X9_isLimb ⟨Nat.le_of_ble_eq_true rfl, Nat.le_of_ble_eq_true rfl⟩) hK hI 0 (mg_0 am cI cZ st) rfl rfl hl.1 rfl (Nat.le_of_ble_eq_true rfl) dX9_limb_2 (fun H locs hI => ?_)
  refine W.eq (g2 := F0 m 5 ls [.int v1]) rfl ?_
  refine lv_if_ne (tgt := 10) hx hb dX9_limb_5 (by decide) (fun c3 => ?_) (fun c3 => ?_)
  · replace hM := if_f c3 hM
    refine lv_iload_n hx hb dX9_limb_10 rfl (lv_at hl 2 rfl) ?_
    by_cases c4 : x2 = (0 : Int32)
    · replace hM := if_t c4 hM
      refine lv_tableIn (off := 33) (tgt := 44) hx hb dX9_limb_11 (by rw [c4]; decide) (by rw [c4]; decide) (by rw [c4]; decide) (by decide) ?_
      refine lv_aload_n hx hb dX9_limb_44 rfl (lv_at hl 0 rfl) ?_
      refine va_get (D := D) (ci := 9) (v := .ref (am 6)) (C := RX9) (T := TX9) (N := 43) hx hb hts hi_X9_limb_X9 hown hK hI.1 0 (mg_0 am cI cZ st2) rfl 21 (by decide) f_0 (fun _ h9 => h9) rfl dX9_limb_45 ?_
      refine lv_iload_n hx hb dX9_limb_48 rfl (lv_at hl 1 rfl) ?_
      obtain ⟨g5, hM⟩ := gd_at hM
      refine va_iald hx hb hK hI.1 6 0 (mg_6 am cI cZ st2) rfl (inB_vp g5) dX9_limb_49 ?_
      have hz := Option.some.inj hM
      exact W.iret hx hb hr (fun t ht hW => jq_i hK hI hz ht hW) hI.2.2.2 dX9_limb_50
    · replace hM := if_f c4 hM
      by_cases c6 : x2 = (1 : Int32)
      · replace hM := if_t c6 hM
        refine lv_tableIn (off := 40) (tgt := 51) hx hb dX9_limb_11 (by rw [c6]; decide) (by rw [c6]; decide) (by rw [c6]; decide) (by decide) ?_
        refine lv_aload_n hx hb dX9_limb_51 rfl (lv_at hl 0 rfl) ?_
        refine va_get (D := D) (ci := 9) (v := .ref (am 7)) (C := RX9) (T := TX9) (N := 43) hx hb hts hi_X9_limb_X9 hown hK hI.1 0 (mg_0 am cI cZ st2) rfl 22 (by decide) f_1 (fun _ h9 => h9) rfl dX9_limb_52 ?_
        refine lv_iload_n hx hb dX9_limb_55 rfl (lv_at hl 1 rfl) ?_
        obtain ⟨g7, hM⟩ := gd_at hM
        refine va_iald hx hb hK hI.1 7 0 (mg_7 am cI cZ st2) rfl (inB_vp g7) dX9_limb_56 ?_
        have hz := Option.some.inj hM
        exact W.iret hx hb hr (fun t ht hW => jq_i hK hI hz ht hW) hI.2.2.2 dX9_limb_57
      · replace hM := if_f c6 hM
        by_cases c8 : x2 = (2 : Int32)
        · replace hM := if_t c8 hM
          refine lv_tableIn (off := 47) (tgt := 58) hx hb dX9_limb_11 (by rw [c8]; decide) (by rw [c8]; decide) (by rw [c8]; decide) (by decide) ?_
          refine lv_aload_n hx hb dX9_limb_58 rfl (lv_at hl 0 rfl) ?_
          refine va_get (D := D) (ci := 9) (v := .ref (am 8)) (C := RX9) (T := TX9) (N := 43) hx hb hts hi_X9_limb_X9 hown hK hI.1 0 (mg_0 am cI cZ st2) rfl 23 (by decide) f_2 (fun _ h9 => h9) rfl dX9_limb_59 ?_
          refine lv_iload_n hx hb dX9_limb_62 rfl (lv_at hl 1 rfl) ?_
          obtain ⟨g9, hM⟩ := gd_at hM
          refine va_iald hx hb hK hI.1 8 0 (mg_8 am cI cZ st2) rfl (inB_vp g9) dX9_limb_63 ?_
          have hz := Option.some.inj hM
          exact W.iret hx hb hr (fun t ht hW => jq_i hK hI hz ht hW) hI.2.2.2 dX9_limb_64
        · replace hM := if_f c8 hM
          by_cases c10 : x2 = (3 : Int32)
          · replace hM := if_t c10 hM
            refine lv_tableIn (off := 54) (tgt := 65) hx hb dX9_limb_11 (by rw [c10]; decide) (by rw [c10]; decide) (by rw [c10]; decide) (by decide) ?_
            refine lv_aload_n hx hb dX9_limb_65 rfl (lv_at hl 0 rfl) ?_
            refine lv_aload_n hx hb dX9_limb_66 rfl (lv_at hl 0 rfl) ?_
            refine va_get (D := D) (ci := 9) (v := .ref (am 13)) (C := RX9) (T := TX9) (N := 43) hx hb hts hi_X9_limb_X9 hown hK hI.1 0 (mg_0 am cI cZ st2) rfl 28 (by decide) f_3 (fun _ h9 => h9) rfl dX9_limb_67 ?_
            refine lv_iload_n hx hb dX9_limb_70 rfl (lv_at hl 1 rfl) ?_
            obtain ⟨v11, st12, hqv11, hM⟩ := bd_at hM
            refine jcallV (C := RX9) (As := [.ref (am 13), .int x1]) (rest := []) ⟨hx, hb, hml, hown, hts⟩ (jw_X9_height D am cI cZ hj N (show mk_Of 13 by decide) hqv11) (cwV 2 hts gX9_limb_X9_height rfl rfl rfl yd_X9_height ⟨Nat.le_of_ble_eq_true rfl, Nat.le_of_ble_eq_true rfl⟩) hK hI 0 (mg_0 am cI cZ st2) rfl rfl hl.1 rfl (Nat.le_of_ble_eq_true rfl) dX9_limb_71 (fun H locs hI => ?_)
            refine W.eq (g2 := F0 m 74 ls [.int v11]) rfl ?_
            have hz := Option.some.inj hM
            exact W.iret hx hb hr (fun t ht hW => jq_i hK hI hz ht hW) hI.2.2.2 dX9_limb_74
          · replace hM := if_f c10 hM
            by_cases c13 : x2 = (4 : Int32)
            · replace hM := if_t c13 hM
              refine lv_tableIn (off := 64) (tgt := 75) hx hb dX9_limb_11 (by rw [c13]; decide) (by rw [c13]; decide) (by rw [c13]; decide) (by decide) ?_
              refine lv_aload_n hx hb dX9_limb_75 rfl (lv_at hl 0 rfl) ?_
              refine lv_aload_n hx hb dX9_limb_76 rfl (lv_at hl 0 rfl) ?_
              refine va_get (D := D) (ci := 9) (v := .ref (am 13)) (C := RX9) (T := TX9) (N := 43) hx hb hts hi_X9_limb_X9 hown hK hI.1 0 (mg_0 am cI cZ st2) rfl 28 (by decide) f_3 (fun _ h9 => h9) rfl dX9_limb_77 ?_
              refine lv_iload_n hx hb dX9_limb_80 rfl (lv_at hl 1 rfl) ?_
              obtain ⟨v14, st15, hqv14, hM⟩ := bd_at hM
              refine jcallV (C := RX9) (As := [.ref (am 13), .int x1]) (rest := []) ⟨hx, hb, hml, hown, hts⟩ (jw_X9_borne D am cI cZ hj N (show mk_Of 13 by decide) hqv14) (cwV 2 hts gX9_limb_X9_borne rfl rfl rfl yd_X9_borne ⟨Nat.le_of_ble_eq_true rfl, Nat.le_of_ble_eq_true rfl⟩) hK hI 0 (mg_0 am cI cZ st2) rfl rfl hl.1 rfl (Nat.le_of_ble_eq_true rfl) dX9_limb_81 (fun H locs hI => ?_)
              refine W.eq (g2 := F0 m 84 ls [.int v14]) rfl ?_
              have hz := Option.some.inj hM
              exact W.iret hx hb hr (fun t ht hW => jq_i hK hI hz ht hW) hI.2.2.2 dX9_limb_84
            · replace hM := if_f c13 hM
              refine lv_tableOut (tgt := 85) hx hb dX9_limb_11 (by have nc4 : ¬ (0 : Int) = (x2).toInt := ne_ti c4; have nc6 : ¬ (1 : Int) = (x2).toInt := ne_ti c6; have nc8 : ¬ (2 : Int) = (x2).toInt := ne_ti c8; have nc10 : ¬ (3 : Int) = (x2).toInt := ne_ti c10; have nc13 : ¬ (4 : Int) = (x2).toInt := ne_ti c13; omega) (by decide) ?_
              refine lv_iconst (v := (-1 : Int32)) hx hb dX9_limb_85 (by decide) ?_
              have hz := Option.some.inj hM
              exact W.iret hx hb hr (fun t ht hW => jq_i hK hI hz ht hW) hI.2.2.2 dX9_limb_86
  · replace hM := if_t c3 hM
    refine lv_iconst (v := (-1 : Int32)) hx hb dX9_limb_8 (by decide) ?_
    have hz := Option.some.inj hM
    exact W.iret hx hb hr (fun t ht hW => jq_i hK hI hz ht hW) hI.2.2.2 dX9_limb_9
set_option maxRecDepth 20000 in
theorem hi_X9_string_X9 : ∀ w ∈ wsX90, w ∈ wsX9_string := by decide +kernel
set_option maxHeartbeats 4000000 in
set_option maxRecDepth 100000 in
theorem jw_X9_string {l : Launch} (D : va_G) (am : Nat → Nat) (cI cZ : ClassId) (hj : aJ am 24) (N : Nat) {x1 : Int32} {x2 : Int32} {st stZ : PS} {rZ : Int32} (hM : jm_X9_string N x1 x2 st = some (rZ, stZ)) : Met l yX9_string wsX9_string ({ frames := 5, cells := 0, slots := 0, locals := 117 }) (va_Pc [.ref (am 0), .int x1, .int x2] (JH D (mW am cI cZ) (mTy cI cZ) st)) (JQ D (aA am 24) (mW am cI cZ) (mTy cI cZ) (some (.int rZ)) stZ) 0 0 (aA am 24) := by
  refine jStart (cc := cX9_string) (maxL := 3) (ret := (some .int)) [.ref (am 0), .int x1, .int x2] (by decide) rfl (Nat.le_of_ble_eq_true rfl) (fun p e s m below meth c ls hx hb hr hlocks hts hown hml hK hI hl => ?_)
  have hown : s.vm.findClass RX9 = some m.cls := hown
  replace hl : lv_has ls 3 [(0, .ref (am 0)), (1, .int x1), (2, .int x2)] := hl
  generalize hAV : ([.ref (am 0), .int x1, .int x2] : List Value).toArray = AV at hts ⊢
  have f_0 := hts (.fieldLink RX9 46 "PuppetBarModel" "now" "[I") (by decide +kernel)
  have f_1 := hts (.fieldLink RX9 34 "PuppetBarModel" "strengths" "[I") (by decide +kernel)
  have f_2 := hts (.constant RX9 214 (-1000000)) (by decide +kernel)
  unfold jm_X9_string at hM
  refine lv_aload_n hx hb dX9_string_0 rfl (lv_at hl 0 rfl) ?_
  refine lv_iload_n hx hb dX9_string_1 rfl (lv_at hl 1 rfl) ?_
  obtain ⟨v1, st2, hqv1, hM⟩ := bd_at hM
  refine jcallV (C := RX9) (As := [.int x1]) (rest := []) ⟨hx, hb, hml, hown, hts⟩ (jw_X9_isString D am cI cZ hj N hqv1) (cwV 1 hts gX9_string_X9_isString rfl rfl rfl yd_X9_isString ⟨Nat.le_of_ble_eq_true rfl, Nat.le_of_ble_eq_true rfl⟩) hK hI 0 (mg_0 am cI cZ st) rfl rfl hl.1 rfl (Nat.le_of_ble_eq_true rfl) dX9_string_2 (fun H locs hI => ?_)
  refine W.eq (g2 := F0 m 5 ls [.int v1]) rfl ?_
  refine lv_if_ne (tgt := 11) hx hb dX9_string_5 (by decide) (fun c3 => ?_) (fun c3 => ?_)
  · replace hM := if_f c3 hM
    refine lv_iload_n hx hb dX9_string_11 rfl (lv_at hl 2 rfl) ?_
    by_cases c4 : x2 = (0 : Int32)
    · replace hM := if_t c4 hM
      refine lv_tableIn (off := 48) (tgt := 60) hx hb dX9_string_12 (by rw [c4]; decide) (by rw [c4]; decide) (by rw [c4]; decide) (by decide) ?_
      refine lv_aload_n hx hb dX9_string_60 rfl (lv_at hl 0 rfl) ?_
      refine va_get (D := D) (ci := 9) (v := .ref (am 13)) (C := RX9) (T := TX9) (N := 43) hx hb hts hi_X9_string_X9 hown hK hI.1 0 (mg_0 am cI cZ st2) rfl 28 (by decide) f_0 (fun _ h9 => h9) rfl dX9_string_61 ?_
      refine lv_iconst (v := (3 : Int32)) hx hb dX9_string_64 (by decide) ?_
      refine lv_iload_n hx hb dX9_string_65 rfl (lv_at hl 1 rfl) ?_
      refine lv_iadd hx hb dX9_string_66 ?_
      obtain ⟨g5, hM⟩ := gd_at hM
      refine va_iald hx hb hK hI.1 13 0 (mg_13 am cI cZ st2) rfl (inB_vp g5) dX9_string_67 ?_
      have hz := Option.some.inj hM
      exact W.iret hx hb hr (fun t ht hW => jq_i hK hI hz ht hW) hI.2.2.2 dX9_string_68
    · replace hM := if_f c4 hM
      by_cases c6 : x2 = (1 : Int32)
      · replace hM := if_t c6 hM
        refine lv_tableIn (off := 57) (tgt := 69) hx hb dX9_string_12 (by rw [c6]; decide) (by rw [c6]; decide) (by rw [c6]; decide) (by decide) ?_
        refine lv_aload_n hx hb dX9_string_69 rfl (lv_at hl 0 rfl) ?_
        refine va_get (D := D) (ci := 9) (v := .ref (am 13)) (C := RX9) (T := TX9) (N := 43) hx hb hts hi_X9_string_X9 hown hK hI.1 0 (mg_0 am cI cZ st2) rfl 28 (by decide) f_0 (fun _ h9 => h9) rfl dX9_string_70 ?_
        refine lv_bipush (v := (9 : Int32)) hx hb dX9_string_73 (by decide) ?_
        refine lv_iload_n hx hb dX9_string_75 rfl (lv_at hl 1 rfl) ?_
        refine lv_iadd hx hb dX9_string_76 ?_
        obtain ⟨g7, hM⟩ := gd_at hM
        refine va_iald hx hb hK hI.1 13 0 (mg_13 am cI cZ st2) rfl (inB_vp g7) dX9_string_77 ?_
        have hz := Option.some.inj hM
        exact W.iret hx hb hr (fun t ht hW => jq_i hK hI hz ht hW) hI.2.2.2 dX9_string_78
      · replace hM := if_f c6 hM
        by_cases c8 : x2 = (2 : Int32)
        · replace hM := if_t c8 hM
          refine lv_tableIn (off := 67) (tgt := 79) hx hb dX9_string_12 (by rw [c8]; decide) (by rw [c8]; decide) (by rw [c8]; decide) (by decide) ?_
          refine lv_aload_n hx hb dX9_string_79 rfl (lv_at hl 0 rfl) ?_
          refine va_get (D := D) (ci := 9) (v := .ref (am 13)) (C := RX9) (T := TX9) (N := 43) hx hb hts hi_X9_string_X9 hown hK hI.1 0 (mg_0 am cI cZ st2) rfl 28 (by decide) f_0 (fun _ h9 => h9) rfl dX9_string_80 ?_
          refine lv_bipush (v := (15 : Int32)) hx hb dX9_string_83 (by decide) ?_
          refine lv_iload_n hx hb dX9_string_85 rfl (lv_at hl 1 rfl) ?_
          refine lv_iadd hx hb dX9_string_86 ?_
          obtain ⟨g9, hM⟩ := gd_at hM
          refine va_iald hx hb hK hI.1 13 0 (mg_13 am cI cZ st2) rfl (inB_vp g9) dX9_string_87 ?_
          have hz := Option.some.inj hM
          exact W.iret hx hb hr (fun t ht hW => jq_i hK hI hz ht hW) hI.2.2.2 dX9_string_88
        · replace hM := if_f c8 hM
          by_cases c10 : x2 = (3 : Int32)
          · replace hM := if_t c10 hM
            refine lv_tableIn (off := 77) (tgt := 89) hx hb dX9_string_12 (by rw [c10]; decide) (by rw [c10]; decide) (by rw [c10]; decide) (by decide) ?_
            refine lv_aload_n hx hb dX9_string_89 rfl (lv_at hl 0 rfl) ?_
            refine va_get (D := D) (ci := 9) (v := .ref (am 9)) (C := RX9) (T := TX9) (N := 43) hx hb hts hi_X9_string_X9 hown hK hI.1 0 (mg_0 am cI cZ st2) rfl 24 (by decide) f_1 (fun _ h9 => h9) rfl dX9_string_90 ?_
            refine lv_iload_n hx hb dX9_string_93 rfl (lv_at hl 1 rfl) ?_
            obtain ⟨g11, hM⟩ := gd_at hM
            refine va_iald hx hb hK hI.1 9 0 (mg_9 am cI cZ st2) rfl (inB_vp g11) dX9_string_94 ?_
            have hz := Option.some.inj hM
            exact W.iret hx hb hr (fun t ht hW => jq_i hK hI hz ht hW) hI.2.2.2 dX9_string_95
          · replace hM := if_f c10 hM
            by_cases c12 : x2 = (4 : Int32)
            · replace hM := if_t c12 hM
              refine lv_tableIn (off := 84) (tgt := 96) hx hb dX9_string_12 (by rw [c12]; decide) (by rw [c12]; decide) (by rw [c12]; decide) (by decide) ?_
              refine lv_aload_n hx hb dX9_string_96 rfl (lv_at hl 0 rfl) ?_
              refine va_get (D := D) (ci := 9) (v := .ref (am 13)) (C := RX9) (T := TX9) (N := 43) hx hb hts hi_X9_string_X9 hown hK hI.1 0 (mg_0 am cI cZ st2) rfl 28 (by decide) f_0 (fun _ h9 => h9) rfl dX9_string_97 ?_
              refine lv_iload_n hx hb dX9_string_100 rfl (lv_at hl 1 rfl) ?_
              obtain ⟨v13, st14, hqv13, hM⟩ := bd_at hM
              refine jcallS (As := [.ref (am 13), .int x1]) (rest := []) ⟨hx, hb, hml, hown, hts⟩ (jw_X9_end D am cI cZ hj N (show mk_Of 13 by decide) hqv13) (va_cwS 2 hts gX9_string_X9_end rfl rfl rfl yd_X9_end ⟨Nat.le_of_ble_eq_true rfl, Nat.le_of_ble_eq_true rfl⟩) hK hI rfl hl.1 rfl (Nat.le_of_ble_eq_true rfl) dX9_string_101 (fun H locs hI => ?_)
              refine W.eq (g2 := F0 m 104 ls [.int v13]) rfl ?_
              have hz := Option.some.inj hM
              exact W.iret hx hb hr (fun t ht hW => jq_i hK hI hz ht hW) hI.2.2.2 dX9_string_104
            · replace hM := if_f c12 hM
              by_cases c15 : x2 = (5 : Int32)
              · replace hM := if_t c15 hM
                refine lv_tableIn (off := 93) (tgt := 105) hx hb dX9_string_12 (by rw [c15]; decide) (by rw [c15]; decide) (by rw [c15]; decide) (by decide) ?_
                refine lv_aload_n hx hb dX9_string_105 rfl (lv_at hl 0 rfl) ?_
                refine lv_aload_n hx hb dX9_string_106 rfl (lv_at hl 0 rfl) ?_
                refine va_get (D := D) (ci := 9) (v := .ref (am 13)) (C := RX9) (T := TX9) (N := 43) hx hb hts hi_X9_string_X9 hown hK hI.1 0 (mg_0 am cI cZ st2) rfl 28 (by decide) f_0 (fun _ h9 => h9) rfl dX9_string_107 ?_
                refine lv_iload_n hx hb dX9_string_110 rfl (lv_at hl 1 rfl) ?_
                obtain ⟨v16, st17, hqv16, hM⟩ := bd_at hM
                refine jcallV (C := RX9) (As := [.ref (am 13), .int x1]) (rest := []) ⟨hx, hb, hml, hown, hts⟩ (jw_X9_isTaut D am cI cZ hj N (show mk_Of 13 by decide) hqv16) (cwV 2 hts gX9_string_X9_isTaut rfl rfl rfl yd_X9_isTaut ⟨Nat.le_of_ble_eq_true rfl, Nat.le_of_ble_eq_true rfl⟩) hK hI 0 (mg_0 am cI cZ st2) rfl rfl hl.1 rfl (Nat.le_of_ble_eq_true rfl) dX9_string_111 (fun H locs hI => ?_)
                refine W.eq (g2 := F0 m 114 ls [.int v16]) rfl ?_
                refine lv_if_eq (tgt := 121) hx hb dX9_string_114 (by decide) (fun c18 => ?_) (fun c18 => ?_)
                · replace hM := if_t c18 hM
                  refine lv_iconst (v := (0 : Int32)) hx hb dX9_string_121 (by decide) ?_
                  have hz := Option.some.inj hM
                  exact W.iret hx hb hr (fun t ht hW => jq_i hK hI hz ht hW) hI.2.2.2 dX9_string_122
                · replace hM := if_f c18 hM
                  refine lv_iconst (v := (1 : Int32)) hx hb dX9_string_117 (by decide) ?_
                  refine lv_goto (tgt := 122) hx hb dX9_string_118 (by decide) ?_
                  have hz := Option.some.inj hM
                  exact W.iret hx hb hr (fun t ht hW => jq_i hK hI hz ht hW) hI.2.2.2 dX9_string_122
              · replace hM := if_f c15 hM
                by_cases c19 : x2 = (6 : Int32)
                · replace hM := if_t c19 hM
                  refine lv_tableIn (off := 111) (tgt := 123) hx hb dX9_string_12 (by rw [c19]; decide) (by rw [c19]; decide) (by rw [c19]; decide) (by decide) ?_
                  refine lv_aload_n hx hb dX9_string_123 rfl (lv_at hl 0 rfl) ?_
                  refine lv_aload_n hx hb dX9_string_124 rfl (lv_at hl 0 rfl) ?_
                  refine va_get (D := D) (ci := 9) (v := .ref (am 13)) (C := RX9) (T := TX9) (N := 43) hx hb hts hi_X9_string_X9 hown hK hI.1 0 (mg_0 am cI cZ st2) rfl 28 (by decide) f_0 (fun _ h9 => h9) rfl dX9_string_125 ?_
                  refine lv_iload_n hx hb dX9_string_128 rfl (lv_at hl 1 rfl) ?_
                  obtain ⟨v20, st21, hqv20, hM⟩ := bd_at hM
                  refine jcallV (C := RX9) (As := [.ref (am 13), .int x1]) (rest := []) ⟨hx, hb, hml, hown, hts⟩ (jw_X9_load D am cI cZ hj N (show mk_Of 13 by decide) hqv20) (cwV 2 hts gX9_string_X9_load rfl rfl rfl yd_X9_load ⟨Nat.le_of_ble_eq_true rfl, Nat.le_of_ble_eq_true rfl⟩) hK hI 0 (mg_0 am cI cZ st2) rfl rfl hl.1 rfl (Nat.le_of_ble_eq_true rfl) dX9_string_129 (fun H locs hI => ?_)
                  refine W.eq (g2 := F0 m 132 ls [.int v20]) rfl ?_
                  have hz := Option.some.inj hM
                  exact W.iret hx hb hr (fun t ht hW => jq_i hK hI hz ht hW) hI.2.2.2 dX9_string_132
                · replace hM := if_f c19 hM
                  by_cases c22 : x2 = (7 : Int32)
                  · replace hM := if_t c22 hM
                    refine lv_tableIn (off := 121) (tgt := 133) hx hb dX9_string_12 (by rw [c22]; decide) (by rw [c22]; decide) (by rw [c22]; decide) (by decide) ?_
                    refine lv_aload_n hx hb dX9_string_133 rfl (lv_at hl 0 rfl) ?_
                    refine va_get (D := D) (ci := 9) (v := .ref (am 13)) (C := RX9) (T := TX9) (N := 43) hx hb hts hi_X9_string_X9 hown hK hI.1 0 (mg_0 am cI cZ st2) rfl 28 (by decide) f_0 (fun _ h9 => h9) rfl dX9_string_134 ?_
                    refine lv_iconst (v := (2 : Int32)) hx hb dX9_string_137 (by decide) ?_
                    refine va_iald hx hb hK hI.1 13 0 (mg_13 am cI cZ st2) rfl (inB_vp rfl) dX9_string_138 ?_
                    refine W.eq (g2 := F0 m 139 ls [.int (st2.1 13 2)]) rfl ?_
                    refine lv_iload_n hx hb dX9_string_139 rfl (lv_at hl 1 rfl) ?_
                    refine lv_ishr hx hb dX9_string_140 ?_
                    refine lv_iconst (v := (1 : Int32)) hx hb dX9_string_141 (by decide) ?_
                    refine lv_iand hx hb dX9_string_142 ?_
                    have hz := Option.some.inj hM
                    exact W.iret hx hb hr (fun t ht hW => jq_i hK hI hz ht hW) hI.2.2.2 dX9_string_143
                  · replace hM := if_f c22 hM
                    refine lv_tableOut (tgt := 144) hx hb dX9_string_12 (by have nc4 : ¬ (0 : Int) = (x2).toInt := ne_ti c4; have nc6 : ¬ (1 : Int) = (x2).toInt := ne_ti c6; have nc8 : ¬ (2 : Int) = (x2).toInt := ne_ti c8; have nc10 : ¬ (3 : Int) = (x2).toInt := ne_ti c10; have nc12 : ¬ (4 : Int) = (x2).toInt := ne_ti c12; have nc15 : ¬ (5 : Int) = (x2).toInt := ne_ti c15; have nc19 : ¬ (6 : Int) = (x2).toInt := ne_ti c19; have nc22 : ¬ (7 : Int) = (x2).toInt := ne_ti c22; omega) (by decide) ?_
                    refine lv_ldc (v := (-1000000 : Int32)) hx hb hown f_2 dX9_string_144 ?_
                    have hz := Option.some.inj hM
                    exact W.iret hx hb hr (fun t ht hW => jq_i hK hI hz ht hW) hI.2.2.2 dX9_string_146
  · replace hM := if_t c3 hM
    refine lv_ldc (v := (-1000000 : Int32)) hx hb hown f_2 dX9_string_8 ?_
    have hz := Option.some.inj hM
    exact W.iret hx hb hr (fun t ht hW => jq_i hK hI hz ht hW) hI.2.2.2 dX9_string_10
set_option maxRecDepth 20000 in
theorem hi_X9_beat_X9 : ∀ w ∈ wsX90, w ∈ wsX9_beat := by decide +kernel
set_option maxHeartbeats 4000000 in
set_option maxRecDepth 100000 in
theorem jw_X9_beat {l : Launch} (D : va_G) (am : Nat → Nat) (cI cZ : ClassId) (hj : aJ am 24) (N : Nat) {x1 : Int32} {x2 : Int32} {st stZ : PS} {rZ : Int32} (hM : jm_X9_beat N x1 x2 st = some (rZ, stZ)) : Met l yX9_beat wsX9_beat ({ frames := 2, cells := 0, slots := 0, locals := 43 }) (va_Pc [.ref (am 0), .int x1, .int x2] (JH D (mW am cI cZ) (mTy cI cZ) st)) (JQ D (aA am 24) (mW am cI cZ) (mTy cI cZ) (some (.int rZ)) stZ) 0 0 (aA am 24) := by
  refine jStart (cc := cX9_beat) (maxL := 3) (ret := (some .int)) [.ref (am 0), .int x1, .int x2] (by decide) rfl (Nat.le_of_ble_eq_true rfl) (fun p e s m below meth c ls hx hb hr hlocks hts hown hml hK hI hl => ?_)
  have hown : s.vm.findClass RX9 = some m.cls := hown
  replace hl : lv_has ls 3 [(0, .ref (am 0)), (1, .int x1), (2, .int x2)] := hl
  generalize hAV : ([.ref (am 0), .int x1, .int x2] : List Value).toArray = AV at hts ⊢
  have f_0 := hts (.constant RX9 214 (-1000000)) (by decide +kernel)
  have f_1 := hts (.fieldLink RX9 40 "PuppetBarModel" "beatTilts" "[I") (by decide +kernel)
  have f_2 := hts (.fieldLink RX9 37 "PuppetBarModel" "beatLifts" "[I") (by decide +kernel)
  unfold jm_X9_beat at hM
  refine lv_aload_n hx hb dX9_beat_0 rfl (lv_at hl 0 rfl) ?_
  refine lv_iload_n hx hb dX9_beat_1 rfl (lv_at hl 1 rfl) ?_
  obtain ⟨v1, st2, hqv1, hM⟩ := bd_at hM
  refine jcallV (C := RX9) (As := [.int x1]) (rest := []) ⟨hx, hb, hml, hown, hts⟩ (jw_X9_isBeat D am cI cZ hj N hqv1) (cwV 1 hts gX9_beat_X9_isBeat rfl rfl rfl yd_X9_isBeat ⟨Nat.le_of_ble_eq_true rfl, Nat.le_of_ble_eq_true rfl⟩) hK hI 0 (mg_0 am cI cZ st) rfl rfl hl.1 rfl (Nat.le_of_ble_eq_true rfl) dX9_beat_2 (fun H locs hI => ?_)
  refine W.eq (g2 := F0 m 5 ls [.int v1]) rfl ?_
  refine lv_if_eq (tgt := 17) hx hb dX9_beat_5 (by decide) (fun c3 => ?_) (fun c3 => ?_)
  · replace hM := if_t c3 hM
    refine lv_ldc (v := (-1000000 : Int32)) hx hb hown f_0 dX9_beat_17 ?_
    refine lv_goto (tgt := 41) hx hb dX9_beat_19 (by decide) ?_
    have hz := Option.some.inj hM
    exact W.iret hx hb hr (fun t ht hW => jq_i hK hI hz ht hW) hI.2.2.2 dX9_beat_41
  · replace hM := if_f c3 hM
    refine lv_iload_n hx hb dX9_beat_8 rfl (lv_at hl 2 rfl) ?_
    refine lv_iconst (v := (0 : Int32)) hx hb dX9_beat_9 (by decide) ?_
    refine lv_iconst (v := (1 : Int32)) hx hb dX9_beat_10 (by decide) ?_
    obtain ⟨v4, st5, hqv4, hM⟩ := bd_at hM
    refine jcallS (As := [.int x2, .int (0 : Int32), .int (1 : Int32)]) (rest := []) ⟨hx, hb, hml, hown, hts⟩ (jw_X9_in D am cI cZ hj N hqv4) (va_cwS 3 hts gX9_beat_X9_in rfl rfl rfl yd_X9_in ⟨Nat.le_of_ble_eq_true rfl, Nat.le_of_ble_eq_true rfl⟩) hK hI rfl hl.1 rfl (Nat.le_of_ble_eq_true rfl) dX9_beat_11 (fun H locs hI => ?_)
    refine W.eq (g2 := F0 m 14 ls [.int v4]) rfl ?_
    refine lv_if_ne (tgt := 22) hx hb dX9_beat_14 (by decide) (fun c6 => ?_) (fun c6 => ?_)
    · replace hM := if_f c6 hM
      refine lv_iload_n hx hb dX9_beat_22 rfl (lv_at hl 2 rfl) ?_
      refine lv_if_ne (tgt := 35) hx hb dX9_beat_23 (by decide) (fun c7 => ?_) (fun c7 => ?_)
      · replace hM := if_f c7 hM
        refine lv_aload_n hx hb dX9_beat_35 rfl (lv_at hl 0 rfl) ?_
        refine va_get (D := D) (ci := 9) (v := .ref (am 11)) (C := RX9) (T := TX9) (N := 43) hx hb hts hi_X9_beat_X9 hown hK hI.1 0 (mg_0 am cI cZ st5) rfl 26 (by decide) f_1 (fun _ h9 => h9) rfl dX9_beat_36 ?_
        refine lv_iload_n hx hb dX9_beat_39 rfl (lv_at hl 1 rfl) ?_
        obtain ⟨g8, hM⟩ := gd_at hM
        refine va_iald hx hb hK hI.1 11 0 (mg_11 am cI cZ st5) rfl (inB_vp g8) dX9_beat_40 ?_
        have hz := Option.some.inj hM
        exact W.iret hx hb hr (fun t ht hW => jq_i hK hI hz ht hW) hI.2.2.2 dX9_beat_41
      · replace hM := if_t c7 hM
        refine lv_aload_n hx hb dX9_beat_26 rfl (lv_at hl 0 rfl) ?_
        refine va_get (D := D) (ci := 9) (v := .ref (am 10)) (C := RX9) (T := TX9) (N := 43) hx hb hts hi_X9_beat_X9 hown hK hI.1 0 (mg_0 am cI cZ st5) rfl 25 (by decide) f_2 (fun _ h9 => h9) rfl dX9_beat_27 ?_
        refine lv_iload_n hx hb dX9_beat_30 rfl (lv_at hl 1 rfl) ?_
        obtain ⟨g9, hM⟩ := gd_at hM
        refine va_iald hx hb hK hI.1 10 0 (mg_10 am cI cZ st5) rfl (inB_vp g9) dX9_beat_31 ?_
        refine lv_goto (tgt := 41) hx hb dX9_beat_32 (by decide) ?_
        have hz := Option.some.inj hM
        exact W.iret hx hb hr (fun t ht hW => jq_i hK hI hz ht hW) hI.2.2.2 dX9_beat_41
    · replace hM := if_t c6 hM
      refine lv_ldc (v := (-1000000 : Int32)) hx hb hown f_0 dX9_beat_17 ?_
      refine lv_goto (tgt := 41) hx hb dX9_beat_19 (by decide) ?_
      have hz := Option.some.inj hM
      exact W.iret hx hb hr (fun t ht hW => jq_i hK hI hz ht hW) hI.2.2.2 dX9_beat_41
set_option maxRecDepth 20000 in
theorem hi_X9_far_X9 : ∀ w ∈ wsX90, w ∈ wsX9_far := by decide +kernel
set_option maxHeartbeats 4000000 in
set_option maxRecDepth 100000 in
theorem jw_X9_far {l : Launch} (D : va_G) (am : Nat → Nat) (cI cZ : ClassId) (hj : aJ am 24) (N : Nat) {x1 : Int32} {x2 : Int32} {st stZ : PS} {rZ : Int32} (hM : jm_X9_far N x1 x2 st = some (rZ, stZ)) : Met l yX9_far wsX9_far ({ frames := 2, cells := 0, slots := 0, locals := 43 }) (va_Pc [.ref (am 0), .int x1, .int x2] (JH D (mW am cI cZ) (mTy cI cZ) st)) (JQ D (aA am 24) (mW am cI cZ) (mTy cI cZ) (some (.int rZ)) stZ) 0 0 (aA am 24) := by
  refine jStart (cc := cX9_far) (maxL := 3) (ret := (some .int)) [.ref (am 0), .int x1, .int x2] (by decide) rfl (Nat.le_of_ble_eq_true rfl) (fun p e s m below meth c ls hx hb hr hlocks hts hown hml hK hI hl => ?_)
  have hown : s.vm.findClass RX9 = some m.cls := hown
  replace hl : lv_has ls 3 [(0, .ref (am 0)), (1, .int x1), (2, .int x2)] := hl
  generalize hAV : ([.ref (am 0), .int x1, .int x2] : List Value).toArray = AV at hts ⊢
  have f_0 := hts (.fieldLink RX9 43 "PuppetBarModel" "fars" "[I") (by decide +kernel)
  unfold jm_X9_far at hM
  refine lv_aload_n hx hb dX9_far_0 rfl (lv_at hl 0 rfl) ?_
  refine lv_iload_n hx hb dX9_far_1 rfl (lv_at hl 1 rfl) ?_
  obtain ⟨v1, st2, hqv1, hM⟩ := bd_at hM
  refine jcallV (C := RX9) (As := [.int x1]) (rest := []) ⟨hx, hb, hml, hown, hts⟩ (jw_X9_isLimb D am cI cZ hj N hqv1) (cwV 1 hts gX9_far_X9_isLimb rfl rfl rfl yd_X9_isLimb ⟨Nat.le_of_ble_eq_true rfl, Nat.le_of_ble_eq_true rfl⟩) hK hI 0 (mg_0 am cI cZ st) rfl rfl hl.1 rfl (Nat.le_of_ble_eq_true rfl) dX9_far_2 (fun H locs hI => ?_)
  refine W.eq (g2 := F0 m 5 ls [.int v1]) rfl ?_
  refine lv_if_eq (tgt := 30) hx hb dX9_far_5 (by decide) (fun c3 => ?_) (fun c3 => ?_)
  · replace hM := if_t c3 hM
    refine lv_iconst (v := (-1 : Int32)) hx hb dX9_far_30 (by decide) ?_
    have hz := Option.some.inj hM
    exact W.iret hx hb hr (fun t ht hW => jq_i hK hI hz ht hW) hI.2.2.2 dX9_far_31
  · replace hM := if_f c3 hM
    refine lv_aload_n hx hb dX9_far_8 rfl (lv_at hl 0 rfl) ?_
    refine lv_iload_n hx hb dX9_far_9 rfl (lv_at hl 2 rfl) ?_
    obtain ⟨v4, st5, hqv4, hM⟩ := bd_at hM
    refine jcallV (C := RX9) (As := [.int x2]) (rest := []) ⟨hx, hb, hml, hown, hts⟩ (jw_X9_isLimb D am cI cZ hj N hqv4) (cwV 1 hts gX9_far_X9_isLimb rfl rfl rfl yd_X9_isLimb ⟨Nat.le_of_ble_eq_true rfl, Nat.le_of_ble_eq_true rfl⟩) hK hI 0 (mg_0 am cI cZ st2) rfl rfl hl.1 rfl (Nat.le_of_ble_eq_true rfl) dX9_far_10 (fun H locs hI => ?_)
    refine W.eq (g2 := F0 m 13 ls [.int v4]) rfl ?_
    refine lv_if_eq (tgt := 30) hx hb dX9_far_13 (by decide) (fun c6 => ?_) (fun c6 => ?_)
    · replace hM := if_t c6 hM
      refine lv_iconst (v := (-1 : Int32)) hx hb dX9_far_30 (by decide) ?_
      have hz := Option.some.inj hM
      exact W.iret hx hb hr (fun t ht hW => jq_i hK hI hz ht hW) hI.2.2.2 dX9_far_31
    · replace hM := if_f c6 hM
      refine lv_aload_n hx hb dX9_far_16 rfl (lv_at hl 0 rfl) ?_
      refine va_get (D := D) (ci := 9) (v := .ref (am 12)) (C := RX9) (T := TX9) (N := 43) hx hb hts hi_X9_far_X9 hown hK hI.1 0 (mg_0 am cI cZ st5) rfl 27 (by decide) f_0 (fun _ h9 => h9) rfl dX9_far_17 ?_
      refine lv_bipush (v := (8 : Int32)) hx hb dX9_far_20 (by decide) ?_
      refine lv_iload_n hx hb dX9_far_22 rfl (lv_at hl 1 rfl) ?_
      refine lv_imul hx hb dX9_far_23 ?_
      refine lv_iload_n hx hb dX9_far_24 rfl (lv_at hl 2 rfl) ?_
      refine lv_iadd hx hb dX9_far_25 ?_
      obtain ⟨g7, hM⟩ := gd_at hM
      refine va_iald hx hb hK hI.1 12 0 (mg_12 am cI cZ st5) rfl (inB_vp g7) dX9_far_26 ?_
      refine lv_goto (tgt := 31) hx hb dX9_far_27 (by decide) ?_
      have hz := Option.some.inj hM
      exact W.iret hx hb hr (fun t ht hW => jq_i hK hI hz ht hW) hI.2.2.2 dX9_far_31
set_option maxRecDepth 20000 in
theorem hi_X9_remember_X9 : ∀ w ∈ wsX90, w ∈ wsX9_remember := by decide +kernel
set_option maxHeartbeats 4000000 in
set_option maxRecDepth 100000 in
theorem jw_X9_remember {l : Launch} (D : va_G) (am : Nat → Nat) (cI cZ : ClassId) (hj : aJ am 24) (N : Nat) {st stZ : PS} {rZ : Unit} (hM : jm_X9_remember N st = some (rZ, stZ)) : Met l yX9_remember wsX9_remember ({ frames := 0, cells := 0, slots := 0, locals := 0 }) (va_Pc [.ref (am 0)] (JH D (mW am cI cZ) (mTy cI cZ) st)) (JQ D (aA am 24) (mW am cI cZ) (mTy cI cZ) none stZ) 0 0 (aA am 24) := by
  refine jStart (cc := cX9_remember) (maxL := 2) (ret := none) [.ref (am 0)] (by decide) rfl (Nat.le_of_ble_eq_true rfl) (fun p e s m below meth c ls hx hb hr hlocks hts hown hml hK hI hl => ?_)
  have hown : s.vm.findClass RX9 = some m.cls := hown
  replace hl : lv_has ls 2 [(0, .ref (am 0))] := hl
  generalize hAV : ([.ref (am 0)] : List Value).toArray = AV at hts ⊢
  have f_0 := hts (.fieldLink RX9 225 "PuppetBarModel" "undoAt" "I") (by decide +kernel)
  have f_1 := hts (.fieldLink RX9 181 "PuppetBarModel" "undoMany" "I") (by decide +kernel)
  have f_2 := hts (.fieldLink RX9 52 "PuppetBarModel" "undos" "[I") (by decide +kernel)
  have f_3 := hts (.fieldLink RX9 46 "PuppetBarModel" "now" "[I") (by decide +kernel)
  unfold jm_X9_remember at hM
  refine lv_iconst (v := (0 : Int32)) hx hb dX9_remember_0 (by decide) ?_
  refine lv_istore_n (lv' := [(1, .int (0 : Int32)), (0, .ref (am 0))]) hx hb dX9_remember_1 rfl hl (by decide) rfl (fun ls hl => ?_)
  have lp0 : ∀ (n : Nat) (w2 : Int32) (st1 : PS) (H : Heap) (locs : List Loc) (ls : Array Slot), JI D (aA am 24) (mW am cI cZ) s.heap st1 H locs → lv_has ls 2 [(0, .ref (am 0)), (1, .int w2)] → iter (fun q => jm_X9_remember_L2 N q.1 q.2) n (w2, st1) = some (rZ, stZ) → W p l e (headSpec wsX9_remember { frames := 0, cells := 0, slots := 0, locals := 0 }).room s m AV below meth c H locs 0 0 (MQ below (JQ D (aA am 24) (mW am cI cZ) (mTy cI cZ) none stZ) AV s 0 0 (aA am 24)) (F0 m 2 ls []) := by
    intro n
    induction n with
    | zero =>
      intro _ _ _ _ _ _ _ hM
      exact absurd hM (fun h => iter_zero h)
    | succ n ih0 =>
      intro w2 st1 H locs ls hI hl hM
      obtain ⟨z0, hM, hk0⟩ := iter_succ hM
      replace hM : jm_X9_remember_L2 N w2 st1 = some z0 := hM
      unfold jm_X9_remember_L2 at hM
      refine lv_iload_n hx hb dX9_remember_2 rfl (lv_at hl 1 rfl) ?_
      refine lv_bipush (v := (21 : Int32)) hx hb dX9_remember_3 (by decide) ?_
      refine lv_icmp_ge (tgt := 34) hx hb dX9_remember_5 (by decide) (fun c3 => ?_) (fun c3 => ?_)
      · replace hM := if_t c3 hM
        refine lv_aload_n hx hb dX9_remember_34 rfl (lv_at hl 0 rfl) ?_
        refine lv_aload_n hx hb dX9_remember_35 rfl (lv_at hl 0 rfl) ?_
        refine va_get (D := D) (ci := 9) (v := .int (st1.1 0 31)) (C := RX9) (T := TX9) (N := 43) hx hb hts hi_X9_remember_X9 hown hK hI.1 0 (mg_0 am cI cZ st1) rfl 31 (by decide) f_0 (fun _ h9 => h9) rfl dX9_remember_36 ?_
        refine lv_iconst (v := (1 : Int32)) hx hb dX9_remember_39 (by decide) ?_
        refine lv_iadd hx hb dX9_remember_40 ?_
        refine lv_bipush (v := (10 : Int32)) hx hb dX9_remember_41 (by decide) ?_
        refine lv_irem hx hb dX9_remember_43 (by decide) ?_
        refine jput (D := D) (ci := 9) (v := .int (((st1.1 0 31) + (1 : Int32)) - ((st1.1 0 31) + (1 : Int32)) / (10 : Int32) * (10 : Int32))) (ty := .int) (C := RX9) (T := TX9) (N := 43) (st2 := pU st1 0 31 (((st1.1 0 31) + (1 : Int32)) - ((st1.1 0 31) + (1 : Int32)) / (10 : Int32) * (10 : Int32))) hx hb hts hi_X9_remember_X9 tyX9 tyX9_ok nmX9 hown hK (mD hj) hI 0 (mg_0 am cI cZ st1) rfl 31 (by decide) f_0 (fun _ h9 => h9) rfl (by decide +kernel) rfl rfl (Nat.le_of_ble_eq_true rfl) (ms_0_31 am cI cZ st1 _) dX9_remember_44 (fun st4 est4 H locs hI => ?_)
        replace hM := nm_at est4 hM
        refine lv_aload_n hx hb dX9_remember_47 rfl (lv_at hl 0 rfl) ?_
        refine lv_dup hx hb dX9_remember_48 rfl ?_
        refine va_get (D := D) (ci := 9) (v := .int (st4.1 0 30)) (C := RX9) (T := TX9) (N := 43) hx hb hts hi_X9_remember_X9 hown hK hI.1 0 (mg_0 am cI cZ st4) rfl 30 (by decide) f_1 (fun _ h9 => h9) rfl dX9_remember_49 ?_
        refine lv_aload_n hx hb dX9_remember_52 rfl (lv_at hl 0 rfl) ?_
        refine va_get (D := D) (ci := 9) (v := .int (st4.1 0 30)) (C := RX9) (T := TX9) (N := 43) hx hb hts hi_X9_remember_X9 hown hK hI.1 0 (mg_0 am cI cZ st4) rfl 30 (by decide) f_1 (fun _ h9 => h9) rfl dX9_remember_53 ?_
        refine lv_bipush (v := (10 : Int32)) hx hb dX9_remember_56 (by decide) ?_
        refine lv_icmp_ge (tgt := 65) hx hb dX9_remember_58 (by decide) (fun c5 => ?_) (fun c5 => ?_)
        · replace hM := if_t c5 hM
          refine lv_iconst (v := (0 : Int32)) hx hb dX9_remember_65 (by decide) ?_
          refine lv_iadd hx hb dX9_remember_66 ?_
          refine jput (D := D) (ci := 9) (v := .int ((st4.1 0 30) + (0 : Int32))) (ty := .int) (C := RX9) (T := TX9) (N := 43) (st2 := pU st4 0 30 ((st4.1 0 30) + (0 : Int32))) hx hb hts hi_X9_remember_X9 tyX9 tyX9_ok nmX9 hown hK (mD hj) hI 0 (mg_0 am cI cZ st4) rfl 30 (by decide) f_1 (fun _ h9 => h9) rfl (by decide +kernel) rfl rfl (Nat.le_of_ble_eq_true rfl) (ms_0_30 am cI cZ st4 _) dX9_remember_67 (fun st6 est6 H locs hI => ?_)
          replace hM := nm_at est6 hM
          have hz := Option.some.inj hM
          subst hz
          have hz := kn_r hk0
          exact W.vret hx hb hr (fun t ht hW => jq_v hK hI hz ht hW) hI.2.2.2 dX9_remember_70
        · replace hM := if_f c5 hM
          refine lv_iconst (v := (1 : Int32)) hx hb dX9_remember_61 (by decide) ?_
          refine lv_goto (tgt := 66) hx hb dX9_remember_62 (by decide) ?_
          refine lv_iadd hx hb dX9_remember_66 ?_
          refine jput (D := D) (ci := 9) (v := .int ((st4.1 0 30) + (1 : Int32))) (ty := .int) (C := RX9) (T := TX9) (N := 43) (st2 := pU st4 0 30 ((st4.1 0 30) + (1 : Int32))) hx hb hts hi_X9_remember_X9 tyX9 tyX9_ok nmX9 hown hK (mD hj) hI 0 (mg_0 am cI cZ st4) rfl 30 (by decide) f_1 (fun _ h9 => h9) rfl (by decide +kernel) rfl rfl (Nat.le_of_ble_eq_true rfl) (ms_0_30 am cI cZ st4 _) dX9_remember_67 (fun st7 est7 H locs hI => ?_)
          replace hM := nm_at est7 hM
          have hz := Option.some.inj hM
          subst hz
          have hz := kn_r hk0
          exact W.vret hx hb hr (fun t ht hW => jq_v hK hI hz ht hW) hI.2.2.2 dX9_remember_70
      · replace hM := if_f c3 hM
        refine lv_aload_n hx hb dX9_remember_8 rfl (lv_at hl 0 rfl) ?_
        refine va_get (D := D) (ci := 9) (v := .ref (am 15)) (C := RX9) (T := TX9) (N := 43) hx hb hts hi_X9_remember_X9 hown hK hI.1 0 (mg_0 am cI cZ st1) rfl 32 (by decide) f_2 (fun _ h9 => h9) rfl dX9_remember_9 ?_
        refine lv_bipush (v := (21 : Int32)) hx hb dX9_remember_12 (by decide) ?_
        refine lv_aload_n hx hb dX9_remember_14 rfl (lv_at hl 0 rfl) ?_
        refine va_get (D := D) (ci := 9) (v := .int (st1.1 0 31)) (C := RX9) (T := TX9) (N := 43) hx hb hts hi_X9_remember_X9 hown hK hI.1 0 (mg_0 am cI cZ st1) rfl 31 (by decide) f_0 (fun _ h9 => h9) rfl dX9_remember_15 ?_
        refine lv_imul hx hb dX9_remember_18 ?_
        refine lv_iload_n hx hb dX9_remember_19 rfl (lv_at hl 1 rfl) ?_
        refine lv_iadd hx hb dX9_remember_20 ?_
        refine lv_aload_n hx hb dX9_remember_21 rfl (lv_at hl 0 rfl) ?_
        refine va_get (D := D) (ci := 9) (v := .ref (am 13)) (C := RX9) (T := TX9) (N := 43) hx hb hts hi_X9_remember_X9 hown hK hI.1 0 (mg_0 am cI cZ st1) rfl 28 (by decide) f_3 (fun _ h9 => h9) rfl dX9_remember_22 ?_
        refine lv_iload_n hx hb dX9_remember_25 rfl (lv_at hl 1 rfl) ?_
        obtain ⟨g8, hM⟩ := gd_at hM
        refine va_iald hx hb hK hI.1 13 0 (mg_13 am cI cZ st1) rfl (inB_vp g8) dX9_remember_26 ?_
        obtain ⟨g10, hM⟩ := gd_at hM
        refine jiast (x := (st1.1 13 (w2).toNatClampNeg)) (st2 := pU st1 15 ((((21 : Int32) * (st1.1 0 31)) + w2)).toNatClampNeg ((st1.1 13 (w2).toNatClampNeg))) hx hb hK (mD hj) hI 15 0 (mg_15 am cI cZ st1) rfl (inB_vp g10) (ms_15 am cI cZ st1 _) dX9_remember_27 (fun st9 est9 H locs hI => ?_)
        replace hM := nm_at est9 hM
        refine lv_iinc (v := (w2 + (1 : Int32))) (lv' := [(1, .int (w2 + (1 : Int32))), (0, .ref (am 0))]) hx hb dX9_remember_28 hl (k := 1) rfl rfl (by decide) rfl (fun ls hl => ?_)
        refine lv_goto (tgt := 2) hx hb dX9_remember_31 (by decide) ?_
        have hz := Option.some.inj hM
        subst hz
        exact ih0 (w2 + (1 : Int32)) st9 _ _ _ hI (lv_sub hl [1, 0] rfl) hk0
  exact lp0 N (0 : Int32) st _ _ _ hI (lv_sub hl [1, 0] rfl) hM
set_option maxRecDepth 20000 in
theorem hi_X9_lifts_X9 : ∀ w ∈ wsX90, w ∈ wsX9_lifts := by decide +kernel
set_option maxHeartbeats 4000000 in
set_option maxRecDepth 100000 in
theorem jw_X9_lifts {l : Launch} (D : va_G) (am : Nat → Nat) (cI cZ : ClassId) (hj : aJ am 24) (N : Nat) {x1 : Int32} {st stZ : PS} {rZ : Int32} (hM : jm_X9_lifts N x1 st = some (rZ, stZ)) : Met l yX9_lifts wsX9_lifts ({ frames := 1, cells := 0, slots := 0, locals := 22 }) (va_Pc [.ref (am 0), .int x1] (JH D (mW am cI cZ) (mTy cI cZ) st)) (JQ D (aA am 24) (mW am cI cZ) (mTy cI cZ) (some (.int rZ)) stZ) 0 0 (aA am 24) := by
  refine jStart (cc := cX9_lifts) (maxL := 2) (ret := (some .int)) [.ref (am 0), .int x1] (by decide) rfl (Nat.le_of_ble_eq_true rfl) (fun p e s m below meth c ls hx hb hr hlocks hts hown hml hK hI hl => ?_)
  have hown : s.vm.findClass RX9 = some m.cls := hown
  replace hl : lv_has ls 2 [(0, .ref (am 0)), (1, .int x1)] := hl
  generalize hAV : ([.ref (am 0), .int x1] : List Value).toArray = AV at hts ⊢
  have f_0 := hts (.fieldLink RX9 46 "PuppetBarModel" "now" "[I") (by decide +kernel)
  unfold jm_X9_lifts at hM
  refine lv_iload_n hx hb dX9_lifts_0 rfl (lv_at hl 1 rfl) ?_
  refine lv_bipush (v := (-5 : Int32)) hx hb dX9_lifts_1 (by decide) ?_
  refine lv_iconst (v := (5 : Int32)) hx hb dX9_lifts_3 (by decide) ?_
  obtain ⟨v1, st2, hqv1, hM⟩ := bd_at hM
  refine jcallS (As := [.int x1, .int (-5 : Int32), .int (5 : Int32)]) (rest := []) ⟨hx, hb, hml, hown, hts⟩ (jw_X9_in D am cI cZ hj N hqv1) (va_cwS 3 hts gX9_lifts_X9_in rfl rfl rfl yd_X9_in ⟨Nat.le_of_ble_eq_true rfl, Nat.le_of_ble_eq_true rfl⟩) hK hI rfl hl.1 rfl (Nat.le_of_ble_eq_true rfl) dX9_lifts_4 (fun H locs hI => ?_)
  refine W.eq (g2 := F0 m 7 ls [.int v1]) rfl ?_
  refine lv_if_eq (tgt := 14) hx hb dX9_lifts_7 (by decide) (fun c3 => ?_) (fun c3 => ?_)
  · replace hM := if_t c3 hM
    refine lv_iconst (v := (-1 : Int32)) hx hb dX9_lifts_14 (by decide) ?_
    have hz := Option.some.inj hM
    exact W.iret hx hb hr (fun t ht hW => jq_i hK hI hz ht hW) hI.2.2.2 dX9_lifts_15
  · replace hM := if_f c3 hM
    refine lv_iload_n hx hb dX9_lifts_10 rfl (lv_at hl 1 rfl) ?_
    refine lv_if_ne (tgt := 16) hx hb dX9_lifts_11 (by decide) (fun c4 => ?_) (fun c4 => ?_)
    · replace hM := if_f c4 hM
      refine lv_aload_n hx hb dX9_lifts_16 rfl (lv_at hl 0 rfl) ?_
      refine va_get (D := D) (ci := 9) (v := .ref (am 13)) (C := RX9) (T := TX9) (N := 43) hx hb hts hi_X9_lifts_X9 hown hK hI.1 0 (mg_0 am cI cZ st2) rfl 28 (by decide) f_0 (fun _ h9 => h9) rfl dX9_lifts_17 ?_
      refine lv_iconst (v := (0 : Int32)) hx hb dX9_lifts_20 (by decide) ?_
      refine va_iald hx hb hK hI.1 13 0 (mg_13 am cI cZ st2) rfl (inB_vp rfl) dX9_lifts_21 ?_
      refine W.eq (g2 := F0 m 22 ls [.int (st2.1 13 0)]) rfl ?_
      refine lv_iload_n hx hb dX9_lifts_22 rfl (lv_at hl 1 rfl) ?_
      refine lv_iadd hx hb dX9_lifts_23 ?_
      refine lv_iconst (v := (0 : Int32)) hx hb dX9_lifts_24 (by decide) ?_
      refine lv_bipush (v := (40 : Int32)) hx hb dX9_lifts_25 (by decide) ?_
      obtain ⟨v5, st6, hqv5, hM⟩ := bd_at hM
      refine jcallS (As := [.int ((st2.1 13 0) + x1), .int (0 : Int32), .int (40 : Int32)]) (rest := []) ⟨hx, hb, hml, hown, hts⟩ (jw_X9_in D am cI cZ hj N hqv5) (va_cwS 3 hts gX9_lifts_X9_in rfl rfl rfl yd_X9_in ⟨Nat.le_of_ble_eq_true rfl, Nat.le_of_ble_eq_true rfl⟩) hK hI rfl hl.1 rfl (Nat.le_of_ble_eq_true rfl) dX9_lifts_27 (fun H locs hI => ?_)
      refine W.eq (g2 := F0 m 30 ls [.int v5]) rfl ?_
      refine lv_if_ne (tgt := 36) hx hb dX9_lifts_30 (by decide) (fun c7 => ?_) (fun c7 => ?_)
      · replace hM := if_f c7 hM
        refine lv_aload_n hx hb dX9_lifts_36 rfl (lv_at hl 0 rfl) ?_
        obtain ⟨v8, st9, hqv8, hM⟩ := bd_at hM
        refine jcallV (C := RX9) (As := []) (rest := []) ⟨hx, hb, hml, hown, hts⟩ (jw_X9_remember D am cI cZ hj N hqv8) (cwV 0 hts gX9_lifts_X9_remember rfl rfl rfl yd_X9_remember ⟨Nat.le_of_ble_eq_true rfl, Nat.le_of_ble_eq_true rfl⟩) hK hI 0 (mg_0 am cI cZ st6) rfl rfl hl.1 rfl (Nat.le_of_ble_eq_true rfl) dX9_lifts_37 (fun H locs hI => ?_)
        refine W.eq (g2 := F0 m 40 ls []) rfl ?_
        refine lv_aload_n hx hb dX9_lifts_40 rfl (lv_at hl 0 rfl) ?_
        refine va_get (D := D) (ci := 9) (v := .ref (am 13)) (C := RX9) (T := TX9) (N := 43) hx hb hts hi_X9_lifts_X9 hown hK hI.1 0 (mg_0 am cI cZ st9) rfl 28 (by decide) f_0 (fun _ h9 => h9) rfl dX9_lifts_41 ?_
        refine lv_iconst (v := (0 : Int32)) hx hb dX9_lifts_44 (by decide) ?_
        refine lv_dup2_11 hx hb dX9_lifts_45 rfl rfl ?_
        refine va_iald hx hb hK hI.1 13 0 (mg_13 am cI cZ st9) rfl (inB_vp rfl) dX9_lifts_46 ?_
        refine W.eq (g2 := F0 m 47 ls [.int (st9.1 13 0), .int (0 : Int32), .ref (am 13)]) rfl ?_
        refine lv_iload_n hx hb dX9_lifts_47 rfl (lv_at hl 1 rfl) ?_
        refine lv_iadd hx hb dX9_lifts_48 ?_
        refine jiast (x := ((st9.1 13 0) + x1)) (st2 := pU st9 13 0 (((st9.1 13 0) + x1))) hx hb hK (mD hj) hI 13 0 (mg_13 am cI cZ st9) rfl (inB_vp rfl) (ms_13 am cI cZ st9 _) dX9_lifts_49 (fun st10 est10 H locs hI => ?_)
        replace hM := nm_at est10 hM
        refine lv_aload_n hx hb dX9_lifts_50 rfl (lv_at hl 0 rfl) ?_
        refine va_get (D := D) (ci := 9) (v := .ref (am 13)) (C := RX9) (T := TX9) (N := 43) hx hb hts hi_X9_lifts_X9 hown hK hI.1 0 (mg_0 am cI cZ st10) rfl 28 (by decide) f_0 (fun _ h9 => h9) rfl dX9_lifts_51 ?_
        refine lv_iconst (v := (0 : Int32)) hx hb dX9_lifts_54 (by decide) ?_
        refine va_iald hx hb hK hI.1 13 0 (mg_13 am cI cZ st10) rfl (inB_vp rfl) dX9_lifts_55 ?_
        refine W.eq (g2 := F0 m 56 ls [.int (st10.1 13 0)]) rfl ?_
        have hz := Option.some.inj hM
        exact W.iret hx hb hr (fun t ht hW => jq_i hK hI hz ht hW) hI.2.2.2 dX9_lifts_56
      · replace hM := if_t c7 hM
        refine lv_bipush (v := (-2 : Int32)) hx hb dX9_lifts_33 (by decide) ?_
        have hz := Option.some.inj hM
        exact W.iret hx hb hr (fun t ht hW => jq_i hK hI hz ht hW) hI.2.2.2 dX9_lifts_35
    · replace hM := if_t c4 hM
      refine lv_iconst (v := (-1 : Int32)) hx hb dX9_lifts_14 (by decide) ?_
      have hz := Option.some.inj hM
      exact W.iret hx hb hr (fun t ht hW => jq_i hK hI hz ht hW) hI.2.2.2 dX9_lifts_15
set_option maxRecDepth 20000 in
theorem hi_X9_tilts_X9 : ∀ w ∈ wsX90, w ∈ wsX9_tilts := by decide +kernel
set_option maxHeartbeats 4000000 in
set_option maxRecDepth 100000 in
theorem jw_X9_tilts {l : Launch} (D : va_G) (am : Nat → Nat) (cI cZ : ClassId) (hj : aJ am 24) (N : Nat) {x1 : Int32} {st stZ : PS} {rZ : Int32} (hM : jm_X9_tilts N x1 st = some (rZ, stZ)) : Met l yX9_tilts wsX9_tilts ({ frames := 1, cells := 0, slots := 0, locals := 22 }) (va_Pc [.ref (am 0), .int x1] (JH D (mW am cI cZ) (mTy cI cZ) st)) (JQ D (aA am 24) (mW am cI cZ) (mTy cI cZ) (some (.int rZ)) stZ) 0 0 (aA am 24) := by
  refine jStart (cc := cX9_tilts) (maxL := 3) (ret := (some .int)) [.ref (am 0), .int x1] (by decide) rfl (Nat.le_of_ble_eq_true rfl) (fun p e s m below meth c ls hx hb hr hlocks hts hown hml hK hI hl => ?_)
  have hown : s.vm.findClass RX9 = some m.cls := hown
  replace hl : lv_has ls 3 [(0, .ref (am 0)), (1, .int x1)] := hl
  generalize hAV : ([.ref (am 0), .int x1] : List Value).toArray = AV at hts ⊢
  have f_0 := hts (.constant RX9 214 (-1000000)) (by decide +kernel)
  have f_1 := hts (.fieldLink RX9 46 "PuppetBarModel" "now" "[I") (by decide +kernel)
  unfold jm_X9_tilts at hM
  refine lv_iload_n hx hb dX9_tilts_0 rfl (lv_at hl 1 rfl) ?_
  refine lv_bipush (v := (-3 : Int32)) hx hb dX9_tilts_1 (by decide) ?_
  refine lv_iconst (v := (3 : Int32)) hx hb dX9_tilts_3 (by decide) ?_
  obtain ⟨v1, st2, hqv1, hM⟩ := bd_at hM
  refine jcallS (As := [.int x1, .int (-3 : Int32), .int (3 : Int32)]) (rest := []) ⟨hx, hb, hml, hown, hts⟩ (jw_X9_in D am cI cZ hj N hqv1) (va_cwS 3 hts gX9_tilts_X9_in rfl rfl rfl yd_X9_in ⟨Nat.le_of_ble_eq_true rfl, Nat.le_of_ble_eq_true rfl⟩) hK hI rfl hl.1 rfl (Nat.le_of_ble_eq_true rfl) dX9_tilts_4 (fun H locs hI => ?_)
  refine W.eq (g2 := F0 m 7 ls [.int v1]) rfl ?_
  refine lv_if_eq (tgt := 20) hx hb dX9_tilts_7 (by decide) (fun c3 => ?_) (fun c3 => ?_)
  · replace hM := if_t c3 hM
    refine lv_ldc (v := (-1000000 : Int32)) hx hb hown f_0 dX9_tilts_20 ?_
    have hz := Option.some.inj hM
    exact W.iret hx hb hr (fun t ht hW => jq_i hK hI hz ht hW) hI.2.2.2 dX9_tilts_22
  · replace hM := if_f c3 hM
    refine lv_iload_n hx hb dX9_tilts_10 rfl (lv_at hl 1 rfl) ?_
    refine lv_aload_n hx hb dX9_tilts_11 rfl (lv_at hl 0 rfl) ?_
    refine va_get (D := D) (ci := 9) (v := .ref (am 13)) (C := RX9) (T := TX9) (N := 43) hx hb hts hi_X9_tilts_X9 hown hK hI.1 0 (mg_0 am cI cZ st2) rfl 28 (by decide) f_1 (fun _ h9 => h9) rfl dX9_tilts_12 ?_
    refine lv_iconst (v := (1 : Int32)) hx hb dX9_tilts_15 (by decide) ?_
    refine va_iald hx hb hK hI.1 13 0 (mg_13 am cI cZ st2) rfl (inB_vp rfl) dX9_tilts_16 ?_
    refine W.eq (g2 := F0 m 17 ls [.int (st2.1 13 1), .int x1]) rfl ?_
    refine lv_icmp_ne (tgt := 23) hx hb dX9_tilts_17 (by decide) (fun c4 => ?_) (fun c4 => ?_)
    · replace hM := if_f c4 hM
      refine lv_aload_n hx hb dX9_tilts_23 rfl (lv_at hl 0 rfl) ?_
      obtain ⟨v5, st6, hqv5, hM⟩ := bd_at hM
      refine jcallV (C := RX9) (As := []) (rest := []) ⟨hx, hb, hml, hown, hts⟩ (jw_X9_remember D am cI cZ hj N hqv5) (cwV 0 hts gX9_tilts_X9_remember rfl rfl rfl yd_X9_remember ⟨Nat.le_of_ble_eq_true rfl, Nat.le_of_ble_eq_true rfl⟩) hK hI 0 (mg_0 am cI cZ st2) rfl rfl hl.1 rfl (Nat.le_of_ble_eq_true rfl) dX9_tilts_24 (fun H locs hI => ?_)
      refine W.eq (g2 := F0 m 27 ls []) rfl ?_
      refine lv_aload_n hx hb dX9_tilts_27 rfl (lv_at hl 0 rfl) ?_
      refine va_get (D := D) (ci := 9) (v := .ref (am 13)) (C := RX9) (T := TX9) (N := 43) hx hb hts hi_X9_tilts_X9 hown hK hI.1 0 (mg_0 am cI cZ st6) rfl 28 (by decide) f_1 (fun _ h9 => h9) rfl dX9_tilts_28 ?_
      refine lv_iconst (v := (1 : Int32)) hx hb dX9_tilts_31 (by decide) ?_
      refine va_iald hx hb hK hI.1 13 0 (mg_13 am cI cZ st6) rfl (inB_vp rfl) dX9_tilts_32 ?_
      refine W.eq (g2 := F0 m 33 ls [.int (st6.1 13 1)]) rfl ?_
      refine lv_istore_n (lv' := [(2, .int (st6.1 13 1)), (0, .ref (am 0)), (1, .int x1)]) hx hb dX9_tilts_33 rfl hl (by decide) rfl (fun ls hl => ?_)
      refine lv_aload_n hx hb dX9_tilts_34 rfl (lv_at hl 1 rfl) ?_
      refine va_get (D := D) (ci := 9) (v := .ref (am 13)) (C := RX9) (T := TX9) (N := 43) hx hb hts hi_X9_tilts_X9 hown hK hI.1 0 (mg_0 am cI cZ st6) rfl 28 (by decide) f_1 (fun _ h9 => h9) rfl dX9_tilts_35 ?_
      refine lv_iconst (v := (1 : Int32)) hx hb dX9_tilts_38 (by decide) ?_
      refine lv_iload_n hx hb dX9_tilts_39 rfl (lv_at hl 2 rfl) ?_
      refine jiast (x := x1) (st2 := pU st6 13 1 (x1)) hx hb hK (mD hj) hI 13 0 (mg_13 am cI cZ st6) rfl (inB_vp rfl) (ms_13 am cI cZ st6 _) dX9_tilts_40 (fun st7 est7 H locs hI => ?_)
      replace hM := nm_at est7 hM
      refine lv_iload_n hx hb dX9_tilts_41 rfl (lv_at hl 0 rfl) ?_
      have hz := Option.some.inj hM
      exact W.iret hx hb hr (fun t ht hW => jq_i hK hI hz ht hW) hI.2.2.2 dX9_tilts_42
    · replace hM := if_t c4 hM
      refine lv_ldc (v := (-1000000 : Int32)) hx hb hown f_0 dX9_tilts_20 ?_
      have hz := Option.some.inj hM
      exact W.iret hx hb hr (fun t ht hW => jq_i hK hI hz ht hW) hI.2.2.2 dX9_tilts_22
set_option maxRecDepth 20000 in
theorem hi_X9_cuts_X9 : ∀ w ∈ wsX90, w ∈ wsX9_cuts := by decide +kernel
set_option maxHeartbeats 4000000 in
set_option maxRecDepth 100000 in
theorem jw_X9_cuts {l : Launch} (D : va_G) (am : Nat → Nat) (cI cZ : ClassId) (hj : aJ am 24) (N : Nat) {x1 : Int32} {st stZ : PS} {rZ : Int32} (hM : jm_X9_cuts N x1 st = some (rZ, stZ)) : Met l yX9_cuts wsX9_cuts ({ frames := 4, cells := 0, slots := 0, locals := 91 }) (va_Pc [.ref (am 0), .int x1] (JH D (mW am cI cZ) (mTy cI cZ) st)) (JQ D (aA am 24) (mW am cI cZ) (mTy cI cZ) (some (.int rZ)) stZ) 0 0 (aA am 24) := by
  refine jStart (cc := cX9_cuts) (maxL := 2) (ret := (some .int)) [.ref (am 0), .int x1] (by decide) rfl (Nat.le_of_ble_eq_true rfl) (fun p e s m below meth c ls hx hb hr hlocks hts hown hml hK hI hl => ?_)
  have hown : s.vm.findClass RX9 = some m.cls := hown
  replace hl : lv_has ls 2 [(0, .ref (am 0)), (1, .int x1)] := hl
  generalize hAV : ([.ref (am 0), .int x1] : List Value).toArray = AV at hts ⊢
  have f_0 := hts (.fieldLink RX9 46 "PuppetBarModel" "now" "[I") (by decide +kernel)
  unfold jm_X9_cuts at hM
  refine lv_aload_n hx hb dX9_cuts_0 rfl (lv_at hl 0 rfl) ?_
  refine lv_iload_n hx hb dX9_cuts_1 rfl (lv_at hl 1 rfl) ?_
  obtain ⟨v1, st2, hqv1, hM⟩ := bd_at hM
  refine jcallV (C := RX9) (As := [.int x1]) (rest := []) ⟨hx, hb, hml, hown, hts⟩ (jw_X9_isString D am cI cZ hj N hqv1) (cwV 1 hts gX9_cuts_X9_isString rfl rfl rfl yd_X9_isString ⟨Nat.le_of_ble_eq_true rfl, Nat.le_of_ble_eq_true rfl⟩) hK hI 0 (mg_0 am cI cZ st) rfl rfl hl.1 rfl (Nat.le_of_ble_eq_true rfl) dX9_cuts_2 (fun H locs hI => ?_)
  refine W.eq (g2 := F0 m 5 ls [.int v1]) rfl ?_
  refine lv_if_ne (tgt := 10) hx hb dX9_cuts_5 (by decide) (fun c3 => ?_) (fun c3 => ?_)
  · replace hM := if_f c3 hM
    refine lv_aload_n hx hb dX9_cuts_10 rfl (lv_at hl 0 rfl) ?_
    refine va_get (D := D) (ci := 9) (v := .ref (am 13)) (C := RX9) (T := TX9) (N := 43) hx hb hts hi_X9_cuts_X9 hown hK hI.1 0 (mg_0 am cI cZ st2) rfl 28 (by decide) f_0 (fun _ h9 => h9) rfl dX9_cuts_11 ?_
    refine lv_iconst (v := (2 : Int32)) hx hb dX9_cuts_14 (by decide) ?_
    refine va_iald hx hb hK hI.1 13 0 (mg_13 am cI cZ st2) rfl (inB_vp rfl) dX9_cuts_15 ?_
    refine W.eq (g2 := F0 m 16 ls [.int (st2.1 13 2)]) rfl ?_
    refine lv_iload_n hx hb dX9_cuts_16 rfl (lv_at hl 1 rfl) ?_
    obtain ⟨v4, st5, hqv4, hM⟩ := bd_at hM
    refine jcallS (As := [.int (st2.1 13 2), .int x1]) (rest := []) ⟨hx, hb, hml, hown, hts⟩ (jw_X9_has D am cI cZ hj N hqv4) (va_cwS 2 hts gX9_cuts_X9_has rfl rfl rfl yd_X9_has ⟨Nat.le_of_ble_eq_true rfl, Nat.le_of_ble_eq_true rfl⟩) hK hI rfl hl.1 rfl (Nat.le_of_ble_eq_true rfl) dX9_cuts_17 (fun H locs hI => ?_)
    refine W.eq (g2 := F0 m 20 ls [.int v4]) rfl ?_
    refine lv_if_eq (tgt := 26) hx hb dX9_cuts_20 (by decide) (fun c6 => ?_) (fun c6 => ?_)
    · replace hM := if_t c6 hM
      refine lv_aload_n hx hb dX9_cuts_26 rfl (lv_at hl 0 rfl) ?_
      obtain ⟨v7, st8, hqv7, hM⟩ := bd_at hM
      refine jcallV (C := RX9) (As := []) (rest := []) ⟨hx, hb, hml, hown, hts⟩ (jw_X9_remember D am cI cZ hj N hqv7) (cwV 0 hts gX9_cuts_X9_remember rfl rfl rfl yd_X9_remember ⟨Nat.le_of_ble_eq_true rfl, Nat.le_of_ble_eq_true rfl⟩) hK hI 0 (mg_0 am cI cZ st5) rfl rfl hl.1 rfl (Nat.le_of_ble_eq_true rfl) dX9_cuts_27 (fun H locs hI => ?_)
      refine W.eq (g2 := F0 m 30 ls []) rfl ?_
      refine lv_aload_n hx hb dX9_cuts_30 rfl (lv_at hl 0 rfl) ?_
      refine va_get (D := D) (ci := 9) (v := .ref (am 13)) (C := RX9) (T := TX9) (N := 43) hx hb hts hi_X9_cuts_X9 hown hK hI.1 0 (mg_0 am cI cZ st8) rfl 28 (by decide) f_0 (fun _ h9 => h9) rfl dX9_cuts_31 ?_
      refine lv_iconst (v := (2 : Int32)) hx hb dX9_cuts_34 (by decide) ?_
      refine lv_dup2_11 hx hb dX9_cuts_35 rfl rfl ?_
      refine va_iald hx hb hK hI.1 13 0 (mg_13 am cI cZ st8) rfl (inB_vp rfl) dX9_cuts_36 ?_
      refine W.eq (g2 := F0 m 37 ls [.int (st8.1 13 2), .int (2 : Int32), .ref (am 13)]) rfl ?_
      refine lv_iconst (v := (1 : Int32)) hx hb dX9_cuts_37 (by decide) ?_
      refine lv_iload_n hx hb dX9_cuts_38 rfl (lv_at hl 1 rfl) ?_
      refine lv_ishl hx hb dX9_cuts_39 ?_
      refine lv_ior hx hb dX9_cuts_40 ?_
      refine jiast (x := ((st8.1 13 2) ||| ((1 : Int32) <<< (x1 &&& 31)))) (st2 := pU st8 13 2 (((st8.1 13 2) ||| ((1 : Int32) <<< (x1 &&& 31))))) hx hb hK (mD hj) hI 13 0 (mg_13 am cI cZ st8) rfl (inB_vp rfl) (ms_13 am cI cZ st8 _) dX9_cuts_41 (fun st9 est9 H locs hI => ?_)
      replace hM := nm_at est9 hM
      refine lv_aload_n hx hb dX9_cuts_42 rfl (lv_at hl 0 rfl) ?_
      refine lv_aload_n hx hb dX9_cuts_43 rfl (lv_at hl 0 rfl) ?_
      refine va_get (D := D) (ci := 9) (v := .ref (am 13)) (C := RX9) (T := TX9) (N := 43) hx hb hts hi_X9_cuts_X9 hown hK hI.1 0 (mg_0 am cI cZ st9) rfl 28 (by decide) f_0 (fun _ h9 => h9) rfl dX9_cuts_44 ?_
      obtain ⟨v10, st11, hqv10, hM⟩ := bd_at hM
      refine jcallV (C := RX9) (As := [.ref (am 13)]) (rest := []) ⟨hx, hb, hml, hown, hts⟩ (jw_X9_ground D am cI cZ hj N (show mk_Of 13 by decide) hqv10) (cwV 1 hts gX9_cuts_X9_ground rfl rfl rfl yd_X9_ground ⟨Nat.le_of_ble_eq_true rfl, Nat.le_of_ble_eq_true rfl⟩) hK hI 0 (mg_0 am cI cZ st9) rfl rfl hl.1 rfl (Nat.le_of_ble_eq_true rfl) dX9_cuts_47 (fun H locs hI => ?_)
      refine W.eq (g2 := F0 m 50 ls [.int v10]) rfl ?_
      obtain ⟨v12, st13, hqv12, hM⟩ := bd_at hM
      refine jcallS (As := [.int v10]) (rest := []) ⟨hx, hb, hml, hown, hts⟩ (jw_X9_bits D am cI cZ hj N hqv12) (va_cwS 1 hts gX9_cuts_X9_bits rfl rfl rfl yd_X9_bits ⟨Nat.le_of_ble_eq_true rfl, Nat.le_of_ble_eq_true rfl⟩) hK hI rfl hl.1 rfl (Nat.le_of_ble_eq_true rfl) dX9_cuts_50 (fun H locs hI => ?_)
      refine W.eq (g2 := F0 m 53 ls [.int v12]) rfl ?_
      have hz := Option.some.inj hM
      exact W.iret hx hb hr (fun t ht hW => jq_i hK hI hz ht hW) hI.2.2.2 dX9_cuts_53
    · replace hM := if_f c6 hM
      refine lv_bipush (v := (-2 : Int32)) hx hb dX9_cuts_23 (by decide) ?_
      have hz := Option.some.inj hM
      exact W.iret hx hb hr (fun t ht hW => jq_i hK hI hz ht hW) hI.2.2.2 dX9_cuts_25
  · replace hM := if_t c3 hM
    refine lv_iconst (v := (-1 : Int32)) hx hb dX9_cuts_8 (by decide) ?_
    have hz := Option.some.inj hM
    exact W.iret hx hb hr (fun t ht hW => jq_i hK hI hz ht hW) hI.2.2.2 dX9_cuts_9
set_option maxRecDepth 20000 in
theorem hi_X9_ties_X9 : ∀ w ∈ wsX90, w ∈ wsX9_ties := by decide +kernel
set_option maxHeartbeats 4000000 in
set_option maxRecDepth 100000 in
theorem jw_X9_ties {l : Launch} (D : va_G) (am : Nat → Nat) (cI cZ : ClassId) (hj : aJ am 24) (N : Nat) {x1 : Int32} {x2 : Int32} {x3 : Int32} {st stZ : PS} {rZ : Int32} (hM : jm_X9_ties N x1 x2 x3 st = some (rZ, stZ)) : Met l yX9_ties wsX9_ties ({ frames := 4, cells := 0, slots := 0, locals := 91 }) (va_Pc [.ref (am 0), .int x1, .int x2, .int x3] (JH D (mW am cI cZ) (mTy cI cZ) st)) (JQ D (aA am 24) (mW am cI cZ) (mTy cI cZ) (some (.int rZ)) stZ) 0 0 (aA am 24) := by
  refine jStart (cc := cX9_ties) (maxL := 4) (ret := (some .int)) [.ref (am 0), .int x1, .int x2, .int x3] (by decide) rfl (Nat.le_of_ble_eq_true rfl) (fun p e s m below meth c ls hx hb hr hlocks hts hown hml hK hI hl => ?_)
  have hown : s.vm.findClass RX9 = some m.cls := hown
  replace hl : lv_has ls 4 [(0, .ref (am 0)), (1, .int x1), (2, .int x2), (3, .int x3)] := hl
  generalize hAV : ([.ref (am 0), .int x1, .int x2, .int x3] : List Value).toArray = AV at hts ⊢
  have f_0 := hts (.fieldLink RX9 46 "PuppetBarModel" "now" "[I") (by decide +kernel)
  unfold jm_X9_ties at hM
  refine lv_aload_n hx hb dX9_ties_0 rfl (lv_at hl 0 rfl) ?_
  refine lv_iload_n hx hb dX9_ties_1 rfl (lv_at hl 1 rfl) ?_
  obtain ⟨v1, st2, hqv1, hM⟩ := bd_at hM
  refine jcallV (C := RX9) (As := [.int x1]) (rest := []) ⟨hx, hb, hml, hown, hts⟩ (jw_X9_isString D am cI cZ hj N hqv1) (cwV 1 hts gX9_ties_X9_isString rfl rfl rfl yd_X9_isString ⟨Nat.le_of_ble_eq_true rfl, Nat.le_of_ble_eq_true rfl⟩) hK hI 0 (mg_0 am cI cZ st) rfl rfl hl.1 rfl (Nat.le_of_ble_eq_true rfl) dX9_ties_2 (fun H locs hI => ?_)
  refine W.eq (g2 := F0 m 5 ls [.int v1]) rfl ?_
  refine lv_if_eq (tgt := 26) hx hb dX9_ties_5 (by decide) (fun c3 => ?_) (fun c3 => ?_)
  · replace hM := if_t c3 hM
    refine lv_iconst (v := (-1 : Int32)) hx hb dX9_ties_26 (by decide) ?_
    have hz := Option.some.inj hM
    exact W.iret hx hb hr (fun t ht hW => jq_i hK hI hz ht hW) hI.2.2.2 dX9_ties_27
  · replace hM := if_f c3 hM
    refine lv_aload_n hx hb dX9_ties_8 rfl (lv_at hl 0 rfl) ?_
    refine lv_iload_n hx hb dX9_ties_9 rfl (lv_at hl 2 rfl) ?_
    obtain ⟨v4, st5, hqv4, hM⟩ := bd_at hM
    refine jcallV (C := RX9) (As := [.int x2]) (rest := []) ⟨hx, hb, hml, hown, hts⟩ (jw_X9_isLimb D am cI cZ hj N hqv4) (cwV 1 hts gX9_ties_X9_isLimb rfl rfl rfl yd_X9_isLimb ⟨Nat.le_of_ble_eq_true rfl, Nat.le_of_ble_eq_true rfl⟩) hK hI 0 (mg_0 am cI cZ st2) rfl rfl hl.1 rfl (Nat.le_of_ble_eq_true rfl) dX9_ties_10 (fun H locs hI => ?_)
    refine W.eq (g2 := F0 m 13 ls [.int v4]) rfl ?_
    refine lv_if_eq (tgt := 26) hx hb dX9_ties_13 (by decide) (fun c6 => ?_) (fun c6 => ?_)
    · replace hM := if_t c6 hM
      refine lv_iconst (v := (-1 : Int32)) hx hb dX9_ties_26 (by decide) ?_
      have hz := Option.some.inj hM
      exact W.iret hx hb hr (fun t ht hW => jq_i hK hI hz ht hW) hI.2.2.2 dX9_ties_27
    · replace hM := if_f c6 hM
      refine lv_iload_n hx hb dX9_ties_16 rfl (lv_at hl 3 rfl) ?_
      refine lv_iconst (v := (0 : Int32)) hx hb dX9_ties_17 (by decide) ?_
      refine lv_bipush (v := (40 : Int32)) hx hb dX9_ties_18 (by decide) ?_
      obtain ⟨v7, st8, hqv7, hM⟩ := bd_at hM
      refine jcallS (As := [.int x3, .int (0 : Int32), .int (40 : Int32)]) (rest := []) ⟨hx, hb, hml, hown, hts⟩ (jw_X9_in D am cI cZ hj N hqv7) (va_cwS 3 hts gX9_ties_X9_in rfl rfl rfl yd_X9_in ⟨Nat.le_of_ble_eq_true rfl, Nat.le_of_ble_eq_true rfl⟩) hK hI rfl hl.1 rfl (Nat.le_of_ble_eq_true rfl) dX9_ties_20 (fun H locs hI => ?_)
      refine W.eq (g2 := F0 m 23 ls [.int v7]) rfl ?_
      refine lv_if_ne (tgt := 28) hx hb dX9_ties_23 (by decide) (fun c9 => ?_) (fun c9 => ?_)
      · replace hM := if_f c9 hM
        refine lv_aload_n hx hb dX9_ties_28 rfl (lv_at hl 0 rfl) ?_
        refine va_get (D := D) (ci := 9) (v := .ref (am 13)) (C := RX9) (T := TX9) (N := 43) hx hb hts hi_X9_ties_X9 hown hK hI.1 0 (mg_0 am cI cZ st8) rfl 28 (by decide) f_0 (fun _ h9 => h9) rfl dX9_ties_29 ?_
        refine lv_iconst (v := (2 : Int32)) hx hb dX9_ties_32 (by decide) ?_
        refine va_iald hx hb hK hI.1 13 0 (mg_13 am cI cZ st8) rfl (inB_vp rfl) dX9_ties_33 ?_
        refine W.eq (g2 := F0 m 34 ls [.int (st8.1 13 2)]) rfl ?_
        refine lv_iload_n hx hb dX9_ties_34 rfl (lv_at hl 1 rfl) ?_
        obtain ⟨v10, st11, hqv10, hM⟩ := bd_at hM
        refine jcallS (As := [.int (st8.1 13 2), .int x1]) (rest := []) ⟨hx, hb, hml, hown, hts⟩ (jw_X9_has D am cI cZ hj N hqv10) (va_cwS 2 hts gX9_ties_X9_has rfl rfl rfl yd_X9_has ⟨Nat.le_of_ble_eq_true rfl, Nat.le_of_ble_eq_true rfl⟩) hK hI rfl hl.1 rfl (Nat.le_of_ble_eq_true rfl) dX9_ties_35 (fun H locs hI => ?_)
        refine W.eq (g2 := F0 m 38 ls [.int v10]) rfl ?_
        refine lv_if_ne (tgt := 44) hx hb dX9_ties_38 (by decide) (fun c12 => ?_) (fun c12 => ?_)
        · replace hM := if_f c12 hM
          refine lv_aload_n hx hb dX9_ties_44 rfl (lv_at hl 0 rfl) ?_
          obtain ⟨v13, st14, hqv13, hM⟩ := bd_at hM
          refine jcallV (C := RX9) (As := []) (rest := []) ⟨hx, hb, hml, hown, hts⟩ (jw_X9_remember D am cI cZ hj N hqv13) (cwV 0 hts gX9_ties_X9_remember rfl rfl rfl yd_X9_remember ⟨Nat.le_of_ble_eq_true rfl, Nat.le_of_ble_eq_true rfl⟩) hK hI 0 (mg_0 am cI cZ st11) rfl rfl hl.1 rfl (Nat.le_of_ble_eq_true rfl) dX9_ties_45 (fun H locs hI => ?_)
          refine W.eq (g2 := F0 m 48 ls []) rfl ?_
          refine lv_aload_n hx hb dX9_ties_48 rfl (lv_at hl 0 rfl) ?_
          refine va_get (D := D) (ci := 9) (v := .ref (am 13)) (C := RX9) (T := TX9) (N := 43) hx hb hts hi_X9_ties_X9 hown hK hI.1 0 (mg_0 am cI cZ st14) rfl 28 (by decide) f_0 (fun _ h9 => h9) rfl dX9_ties_49 ?_
          refine lv_iconst (v := (2 : Int32)) hx hb dX9_ties_52 (by decide) ?_
          refine lv_dup2_11 hx hb dX9_ties_53 rfl rfl ?_
          refine va_iald hx hb hK hI.1 13 0 (mg_13 am cI cZ st14) rfl (inB_vp rfl) dX9_ties_54 ?_
          refine W.eq (g2 := F0 m 55 ls [.int (st14.1 13 2), .int (2 : Int32), .ref (am 13)]) rfl ?_
          refine lv_iconst (v := (1 : Int32)) hx hb dX9_ties_55 (by decide) ?_
          refine lv_iload_n hx hb dX9_ties_56 rfl (lv_at hl 1 rfl) ?_
          refine lv_ishl hx hb dX9_ties_57 ?_
          refine lv_iconst (v := (-1 : Int32)) hx hb dX9_ties_58 (by decide) ?_
          refine lv_ixor hx hb dX9_ties_59 ?_
          refine lv_iand hx hb dX9_ties_60 ?_
          refine jiast (x := ((st14.1 13 2) &&& (((1 : Int32) <<< (x1 &&& 31)) ^^^ (-1 : Int32)))) (st2 := pU st14 13 2 (((st14.1 13 2) &&& (((1 : Int32) <<< (x1 &&& 31)) ^^^ (-1 : Int32))))) hx hb hK (mD hj) hI 13 0 (mg_13 am cI cZ st14) rfl (inB_vp rfl) (ms_13 am cI cZ st14 _) dX9_ties_61 (fun st15 est15 H locs hI => ?_)
          replace hM := nm_at est15 hM
          refine lv_aload_n hx hb dX9_ties_62 rfl (lv_at hl 0 rfl) ?_
          refine va_get (D := D) (ci := 9) (v := .ref (am 13)) (C := RX9) (T := TX9) (N := 43) hx hb hts hi_X9_ties_X9 hown hK hI.1 0 (mg_0 am cI cZ st15) rfl 28 (by decide) f_0 (fun _ h9 => h9) rfl dX9_ties_63 ?_
          refine lv_iconst (v := (3 : Int32)) hx hb dX9_ties_66 (by decide) ?_
          refine lv_iload_n hx hb dX9_ties_67 rfl (lv_at hl 1 rfl) ?_
          refine lv_iadd hx hb dX9_ties_68 ?_
          refine lv_iload_n hx hb dX9_ties_69 rfl (lv_at hl 2 rfl) ?_
          obtain ⟨g17, hM⟩ := gd_at hM
          refine jiast (x := x2) (st2 := pU st15 13 (((3 : Int32) + x1)).toNatClampNeg (x2)) hx hb hK (mD hj) hI 13 0 (mg_13 am cI cZ st15) rfl (inB_vp g17) (ms_13 am cI cZ st15 _) dX9_ties_70 (fun st16 est16 H locs hI => ?_)
          replace hM := nm_at est16 hM
          refine lv_aload_n hx hb dX9_ties_71 rfl (lv_at hl 0 rfl) ?_
          refine va_get (D := D) (ci := 9) (v := .ref (am 13)) (C := RX9) (T := TX9) (N := 43) hx hb hts hi_X9_ties_X9 hown hK hI.1 0 (mg_0 am cI cZ st16) rfl 28 (by decide) f_0 (fun _ h9 => h9) rfl dX9_ties_72 ?_
          refine lv_bipush (v := (15 : Int32)) hx hb dX9_ties_75 (by decide) ?_
          refine lv_iload_n hx hb dX9_ties_77 rfl (lv_at hl 1 rfl) ?_
          refine lv_iadd hx hb dX9_ties_78 ?_
          refine lv_iload_n hx hb dX9_ties_79 rfl (lv_at hl 3 rfl) ?_
          obtain ⟨g19, hM⟩ := gd_at hM
          refine jiast (x := x3) (st2 := pU st16 13 (((15 : Int32) + x1)).toNatClampNeg (x3)) hx hb hK (mD hj) hI 13 0 (mg_13 am cI cZ st16) rfl (inB_vp g19) (ms_13 am cI cZ st16 _) dX9_ties_80 (fun st18 est18 H locs hI => ?_)
          replace hM := nm_at est18 hM
          refine lv_aload_n hx hb dX9_ties_81 rfl (lv_at hl 0 rfl) ?_
          refine lv_aload_n hx hb dX9_ties_82 rfl (lv_at hl 0 rfl) ?_
          refine va_get (D := D) (ci := 9) (v := .ref (am 13)) (C := RX9) (T := TX9) (N := 43) hx hb hts hi_X9_ties_X9 hown hK hI.1 0 (mg_0 am cI cZ st18) rfl 28 (by decide) f_0 (fun _ h9 => h9) rfl dX9_ties_83 ?_
          obtain ⟨v20, st21, hqv20, hM⟩ := bd_at hM
          refine jcallV (C := RX9) (As := [.ref (am 13)]) (rest := []) ⟨hx, hb, hml, hown, hts⟩ (jw_X9_ground D am cI cZ hj N (show mk_Of 13 by decide) hqv20) (cwV 1 hts gX9_ties_X9_ground rfl rfl rfl yd_X9_ground ⟨Nat.le_of_ble_eq_true rfl, Nat.le_of_ble_eq_true rfl⟩) hK hI 0 (mg_0 am cI cZ st18) rfl rfl hl.1 rfl (Nat.le_of_ble_eq_true rfl) dX9_ties_86 (fun H locs hI => ?_)
          refine W.eq (g2 := F0 m 89 ls [.int v20]) rfl ?_
          obtain ⟨v22, st23, hqv22, hM⟩ := bd_at hM
          refine jcallS (As := [.int v20]) (rest := []) ⟨hx, hb, hml, hown, hts⟩ (jw_X9_bits D am cI cZ hj N hqv22) (va_cwS 1 hts gX9_ties_X9_bits rfl rfl rfl yd_X9_bits ⟨Nat.le_of_ble_eq_true rfl, Nat.le_of_ble_eq_true rfl⟩) hK hI rfl hl.1 rfl (Nat.le_of_ble_eq_true rfl) dX9_ties_89 (fun H locs hI => ?_)
          refine W.eq (g2 := F0 m 92 ls [.int v22]) rfl ?_
          have hz := Option.some.inj hM
          exact W.iret hx hb hr (fun t ht hW => jq_i hK hI hz ht hW) hI.2.2.2 dX9_ties_92
        · replace hM := if_t c12 hM
          refine lv_bipush (v := (-2 : Int32)) hx hb dX9_ties_41 (by decide) ?_
          have hz := Option.some.inj hM
          exact W.iret hx hb hr (fun t ht hW => jq_i hK hI hz ht hW) hI.2.2.2 dX9_ties_43
      · replace hM := if_t c9 hM
        refine lv_iconst (v := (-1 : Int32)) hx hb dX9_ties_26 (by decide) ?_
        have hz := Option.some.inj hM
        exact W.iret hx hb hr (fun t ht hW => jq_i hK hI hz ht hW) hI.2.2.2 dX9_ties_27
set_option maxRecDepth 20000 in
theorem hi_X9_hangs_X9 : ∀ w ∈ wsX90, w ∈ wsX9_hangs := by decide +kernel
set_option maxHeartbeats 4000000 in
set_option maxRecDepth 100000 in
theorem jw_X9_hangs {l : Launch} (D : va_G) (am : Nat → Nat) (cI cZ : ClassId) (hj : aJ am 24) (N : Nat) {x1 : Int32} {x2 : Int32} {st stZ : PS} {rZ : Int32} (hM : jm_X9_hangs N x1 x2 st = some (rZ, stZ)) : Met l yX9_hangs wsX9_hangs ({ frames := 2, cells := 0, slots := 0, locals := 43 }) (va_Pc [.ref (am 0), .int x1, .int x2] (JH D (mW am cI cZ) (mTy cI cZ) st)) (JQ D (aA am 24) (mW am cI cZ) (mTy cI cZ) (some (.int rZ)) stZ) 0 0 (aA am 24) := by
  refine jStart (cc := cX9_hangs) (maxL := 4) (ret := (some .int)) [.ref (am 0), .int x1, .int x2] (by decide) rfl (Nat.le_of_ble_eq_true rfl) (fun p e s m below meth c ls hx hb hr hlocks hts hown hml hK hI hl => ?_)
  have hown : s.vm.findClass RX9 = some m.cls := hown
  replace hl : lv_has ls 4 [(0, .ref (am 0)), (1, .int x1), (2, .int x2)] := hl
  generalize hAV : ([.ref (am 0), .int x1, .int x2] : List Value).toArray = AV at hts ⊢
  have f_0 := hts (.fieldLink RX9 46 "PuppetBarModel" "now" "[I") (by decide +kernel)
  unfold jm_X9_hangs at hM
  refine lv_aload_n hx hb dX9_hangs_0 rfl (lv_at hl 0 rfl) ?_
  refine lv_iload_n hx hb dX9_hangs_1 rfl (lv_at hl 1 rfl) ?_
  obtain ⟨v1, st2, hqv1, hM⟩ := bd_at hM
  refine jcallV (C := RX9) (As := [.int x1]) (rest := []) ⟨hx, hb, hml, hown, hts⟩ (jw_X9_isString D am cI cZ hj N hqv1) (cwV 1 hts gX9_hangs_X9_isString rfl rfl rfl yd_X9_isString ⟨Nat.le_of_ble_eq_true rfl, Nat.le_of_ble_eq_true rfl⟩) hK hI 0 (mg_0 am cI cZ st) rfl rfl hl.1 rfl (Nat.le_of_ble_eq_true rfl) dX9_hangs_2 (fun H locs hI => ?_)
  refine W.eq (g2 := F0 m 5 ls [.int v1]) rfl ?_
  refine lv_if_eq (tgt := 18) hx hb dX9_hangs_5 (by decide) (fun c3 => ?_) (fun c3 => ?_)
  · replace hM := if_t c3 hM
    refine lv_iconst (v := (-1 : Int32)) hx hb dX9_hangs_18 (by decide) ?_
    have hz := Option.some.inj hM
    exact W.iret hx hb hr (fun t ht hW => jq_i hK hI hz ht hW) hI.2.2.2 dX9_hangs_19
  · replace hM := if_f c3 hM
    refine lv_iload_n hx hb dX9_hangs_8 rfl (lv_at hl 2 rfl) ?_
    refine lv_iconst (v := (0 : Int32)) hx hb dX9_hangs_9 (by decide) ?_
    refine lv_bipush (v := (6 : Int32)) hx hb dX9_hangs_10 (by decide) ?_
    obtain ⟨v4, st5, hqv4, hM⟩ := bd_at hM
    refine jcallS (As := [.int x2, .int (0 : Int32), .int (6 : Int32)]) (rest := []) ⟨hx, hb, hml, hown, hts⟩ (jw_X9_in D am cI cZ hj N hqv4) (va_cwS 3 hts gX9_hangs_X9_in rfl rfl rfl yd_X9_in ⟨Nat.le_of_ble_eq_true rfl, Nat.le_of_ble_eq_true rfl⟩) hK hI rfl hl.1 rfl (Nat.le_of_ble_eq_true rfl) dX9_hangs_12 (fun H locs hI => ?_)
    refine W.eq (g2 := F0 m 15 ls [.int v4]) rfl ?_
    refine lv_if_ne (tgt := 20) hx hb dX9_hangs_15 (by decide) (fun c6 => ?_) (fun c6 => ?_)
    · replace hM := if_f c6 hM
      refine lv_aload_n hx hb dX9_hangs_20 rfl (lv_at hl 0 rfl) ?_
      refine va_get (D := D) (ci := 9) (v := .ref (am 13)) (C := RX9) (T := TX9) (N := 43) hx hb hts hi_X9_hangs_X9 hown hK hI.1 0 (mg_0 am cI cZ st5) rfl 28 (by decide) f_0 (fun _ h9 => h9) rfl dX9_hangs_21 ?_
      refine lv_bipush (v := (9 : Int32)) hx hb dX9_hangs_24 (by decide) ?_
      refine lv_iload_n hx hb dX9_hangs_26 rfl (lv_at hl 1 rfl) ?_
      refine lv_iadd hx hb dX9_hangs_27 ?_
      obtain ⟨g7, hM⟩ := gd_at hM
      refine va_iald hx hb hK hI.1 13 0 (mg_13 am cI cZ st5) rfl (inB_vp g7) dX9_hangs_28 ?_
      refine lv_topi (fun y8 ey8 => ?_)
      replace hM := nm_at ey8 hM
      refine lv_istore_n (lv' := [(3, .int y8), (0, .ref (am 0)), (1, .int x1), (2, .int x2)]) hx hb dX9_hangs_29 rfl hl (by decide) rfl (fun ls hl => ?_)
      refine lv_iload_n hx hb dX9_hangs_30 rfl (lv_at hl 0 rfl) ?_
      refine lv_iload_n hx hb dX9_hangs_31 rfl (lv_at hl 3 rfl) ?_
      refine lv_icmp_ne (tgt := 38) hx hb dX9_hangs_32 (by decide) (fun c9 => ?_) (fun c9 => ?_)
      · replace hM := if_f c9 hM
        refine lv_aload_n hx hb dX9_hangs_38 rfl (lv_at hl 1 rfl) ?_
        obtain ⟨v10, st11, hqv10, hM⟩ := bd_at hM
        refine jcallV (C := RX9) (As := []) (rest := []) ⟨hx, hb, hml, hown, hts⟩ (jw_X9_remember D am cI cZ hj N hqv10) (cwV 0 hts gX9_hangs_X9_remember rfl rfl rfl yd_X9_remember ⟨Nat.le_of_ble_eq_true rfl, Nat.le_of_ble_eq_true rfl⟩) hK hI 0 (mg_0 am cI cZ st5) rfl rfl hl.1 rfl (Nat.le_of_ble_eq_true rfl) dX9_hangs_39 (fun H locs hI => ?_)
        refine W.eq (g2 := F0 m 42 ls []) rfl ?_
        refine lv_aload_n hx hb dX9_hangs_42 rfl (lv_at hl 1 rfl) ?_
        refine va_get (D := D) (ci := 9) (v := .ref (am 13)) (C := RX9) (T := TX9) (N := 43) hx hb hts hi_X9_hangs_X9 hown hK hI.1 0 (mg_0 am cI cZ st11) rfl 28 (by decide) f_0 (fun _ h9 => h9) rfl dX9_hangs_43 ?_
        refine lv_bipush (v := (9 : Int32)) hx hb dX9_hangs_46 (by decide) ?_
        refine lv_iload_n hx hb dX9_hangs_48 rfl (lv_at hl 2 rfl) ?_
        refine lv_iadd hx hb dX9_hangs_49 ?_
        refine lv_iload_n hx hb dX9_hangs_50 rfl (lv_at hl 3 rfl) ?_
        obtain ⟨g13, hM⟩ := gd_at hM
        refine jiast (x := x2) (st2 := pU st11 13 (((9 : Int32) + x1)).toNatClampNeg (x2)) hx hb hK (mD hj) hI 13 0 (mg_13 am cI cZ st11) rfl (inB_vp g13) (ms_13 am cI cZ st11 _) dX9_hangs_51 (fun st12 est12 H locs hI => ?_)
        replace hM := nm_at est12 hM
        refine lv_iload_n hx hb dX9_hangs_52 rfl (lv_at hl 0 rfl) ?_
        have hz := Option.some.inj hM
        exact W.iret hx hb hr (fun t ht hW => jq_i hK hI hz ht hW) hI.2.2.2 dX9_hangs_53
      · replace hM := if_t c9 hM
        refine lv_bipush (v := (-2 : Int32)) hx hb dX9_hangs_35 (by decide) ?_
        have hz := Option.some.inj hM
        exact W.iret hx hb hr (fun t ht hW => jq_i hK hI hz ht hW) hI.2.2.2 dX9_hangs_37
    · replace hM := if_t c6 hM
      refine lv_iconst (v := (-1 : Int32)) hx hb dX9_hangs_18 (by decide) ?_
      have hz := Option.some.inj hM
      exact W.iret hx hb hr (fun t ht hW => jq_i hK hI hz ht hW) hI.2.2.2 dX9_hangs_19
set_option maxRecDepth 20000 in
theorem hi_X9_snapping_X9 : ∀ w ∈ wsX90, w ∈ wsX9_snapping := by decide +kernel
set_option maxHeartbeats 4000000 in
set_option maxRecDepth 100000 in
theorem jw_X9_snapping {l : Launch} (D : va_G) (am : Nat → Nat) (cI cZ : ClassId) (hj : aJ am 24) (N : Nat) {st stZ : PS} {rZ : Int32} (hM : jm_X9_snapping N st = some (rZ, stZ)) : Met l yX9_snapping wsX9_snapping ({ frames := 5, cells := 0, slots := 0, locals := 117 }) (va_Pc [.ref (am 0)] (JH D (mW am cI cZ) (mTy cI cZ) st)) (JQ D (aA am 24) (mW am cI cZ) (mTy cI cZ) (some (.int rZ)) stZ) 0 0 (aA am 24) := by
  refine jStart (cc := cX9_snapping) (maxL := 5) (ret := (some .int)) [.ref (am 0)] (by decide) rfl (Nat.le_of_ble_eq_true rfl) (fun p e s m below meth c ls hx hb hr hlocks hts hown hml hK hI hl => ?_)
  have hown : s.vm.findClass RX9 = some m.cls := hown
  replace hl : lv_has ls 5 [(0, .ref (am 0))] := hl
  generalize hAV : ([.ref (am 0)] : List Value).toArray = AV at hts ⊢
  have f_0 := hts (.fieldLink RX9 172 "PuppetBarModel" "m" "I") (by decide +kernel)
  have f_1 := hts (.fieldLink RX9 46 "PuppetBarModel" "now" "[I") (by decide +kernel)
  have f_2 := hts (.fieldLink RX9 34 "PuppetBarModel" "strengths" "[I") (by decide +kernel)
  unfold jm_X9_snapping at hM
  refine lv_bipush (v := (-9 : Int32)) hx hb dX9_snapping_0 (by decide) ?_
  refine lv_istore_n (lv' := [(1, .int (-9 : Int32)), (0, .ref (am 0))]) hx hb dX9_snapping_2 rfl hl (by decide) rfl (fun ls hl => ?_)
  refine lv_iconst (v := (0 : Int32)) hx hb dX9_snapping_3 (by decide) ?_
  refine lv_istore_n (lv' := [(2, .int (0 : Int32)), (1, .int (-9 : Int32)), (0, .ref (am 0))]) hx hb dX9_snapping_4 rfl hl (by decide) rfl (fun ls hl => ?_)
  refine lv_iconst (v := (0 : Int32)) hx hb dX9_snapping_5 (by decide) ?_
  refine lv_istore_n (lv' := [(3, .int (0 : Int32)), (2, .int (0 : Int32)), (1, .int (-9 : Int32)), (0, .ref (am 0))]) hx hb dX9_snapping_6 rfl hl (by decide) rfl (fun ls hl => ?_)
  have lp0 : ∀ (n : Nat) (w2 : Int32) (w3 : Int32) (w4 : Int32) (st1 : PS) (H : Heap) (locs : List Loc) (ls : Array Slot), JI D (aA am 24) (mW am cI cZ) s.heap st1 H locs → lv_has ls 5 [(0, .ref (am 0)), (1, .int w2), (2, .int w3), (3, .int w4)] → iter (fun q => jm_X9_snapping_L7 N q.1 q.2.1 q.2.2.1 q.2.2.2) n (w2, w3, w4, st1) = some (rZ, stZ) → W p l e (headSpec wsX9_snapping { frames := 5, cells := 0, slots := 0, locals := 117 }).room s m AV below meth c H locs 0 0 (MQ below (JQ D (aA am 24) (mW am cI cZ) (mTy cI cZ) (some (.int rZ)) stZ) AV s 0 0 (aA am 24)) (F0 m 7 ls []) := by
    intro n
    induction n with
    | zero =>
      intro _ _ _ _ _ _ _ _ _ hM
      exact absurd hM (fun h => iter_zero h)
    | succ n ih0 =>
      intro w2 w3 w4 st1 H locs ls hI hl hM
      obtain ⟨z0, hM, hk0⟩ := iter_succ hM
      replace hM : jm_X9_snapping_L7 N w2 w3 w4 st1 = some z0 := hM
      unfold jm_X9_snapping_L7 at hM
      refine lv_iload_n hx hb dX9_snapping_7 rfl (lv_at hl 3 rfl) ?_
      refine lv_aload_n hx hb dX9_snapping_8 rfl (lv_at hl 0 rfl) ?_
      refine va_get (D := D) (ci := 9) (v := .int (st1.1 0 19)) (C := RX9) (T := TX9) (N := 43) hx hb hts hi_X9_snapping_X9 hown hK hI.1 0 (mg_0 am cI cZ st1) rfl 19 (by decide) f_0 (fun _ h9 => h9) rfl dX9_snapping_9 ?_
      refine lv_icmp_ge (tgt := 81) hx hb dX9_snapping_12 (by decide) (fun c5 => ?_) (fun c5 => ?_)
      · replace hM := if_t c5 hM
        refine lv_iload_n hx hb dX9_snapping_81 rfl (lv_at hl 1 rfl) ?_
        have hz := Option.some.inj hM
        subst hz
        have hz := kn_r hk0
        exact W.iret hx hb hr (fun t ht hW => jq_i hK hI hz ht hW) hI.2.2.2 dX9_snapping_82
      · replace hM := if_f c5 hM
        refine lv_aload_n hx hb dX9_snapping_15 rfl (lv_at hl 0 rfl) ?_
        refine va_get (D := D) (ci := 9) (v := .ref (am 13)) (C := RX9) (T := TX9) (N := 43) hx hb hts hi_X9_snapping_X9 hown hK hI.1 0 (mg_0 am cI cZ st1) rfl 28 (by decide) f_1 (fun _ h9 => h9) rfl dX9_snapping_16 ?_
        refine lv_iconst (v := (2 : Int32)) hx hb dX9_snapping_19 (by decide) ?_
        refine va_iald hx hb hK hI.1 13 0 (mg_13 am cI cZ st1) rfl (inB_vp rfl) dX9_snapping_20 ?_
        refine W.eq (g2 := F0 m 21 ls [.int (st1.1 13 2)]) rfl ?_
        refine lv_iload_n hx hb dX9_snapping_21 rfl (lv_at hl 3 rfl) ?_
        obtain ⟨v6, st7, hqv6, hM⟩ := bd_at hM
        refine jcallS (As := [.int (st1.1 13 2), .int w4]) (rest := []) ⟨hx, hb, hml, hown, hts⟩ (jw_X9_has D am cI cZ hj N hqv6) (va_cwS 2 hts gX9_snapping_X9_has rfl rfl rfl yd_X9_has ⟨Nat.le_of_ble_eq_true rfl, Nat.le_of_ble_eq_true rfl⟩) hK hI rfl hl.1 rfl (Nat.le_of_ble_eq_true rfl) dX9_snapping_22 (fun H locs hI => ?_)
        refine W.eq (g2 := F0 m 25 ls [.int v6]) rfl ?_
        refine lv_if_eq (tgt := 32) hx hb dX9_snapping_25 (by decide) (fun c8 => ?_) (fun c8 => ?_)
        · replace hM := if_t c8 hM
          refine lv_aload_n hx hb dX9_snapping_32 rfl (lv_at hl 0 rfl) ?_
          refine lv_aload_n hx hb dX9_snapping_33 rfl (lv_at hl 0 rfl) ?_
          refine va_get (D := D) (ci := 9) (v := .ref (am 13)) (C := RX9) (T := TX9) (N := 43) hx hb hts hi_X9_snapping_X9 hown hK hI.1 0 (mg_0 am cI cZ st7) rfl 28 (by decide) f_1 (fun _ h9 => h9) rfl dX9_snapping_34 ?_
          refine lv_iload_n hx hb dX9_snapping_37 rfl (lv_at hl 3 rfl) ?_
          obtain ⟨v9, st10, hqv9, hM⟩ := bd_at hM
          refine jcallV (C := RX9) (As := [.ref (am 13), .int w4]) (rest := []) ⟨hx, hb, hml, hown, hts⟩ (jw_X9_load D am cI cZ hj N (show mk_Of 13 by decide) hqv9) (cwV 2 hts gX9_snapping_X9_load rfl rfl rfl yd_X9_load ⟨Nat.le_of_ble_eq_true rfl, Nat.le_of_ble_eq_true rfl⟩) hK hI 0 (mg_0 am cI cZ st7) rfl rfl hl.1 rfl (Nat.le_of_ble_eq_true rfl) dX9_snapping_38 (fun H locs hI => ?_)
          refine W.eq (g2 := F0 m 41 ls [.int v9]) rfl ?_
          refine lv_aload_n hx hb dX9_snapping_41 rfl (lv_at hl 0 rfl) ?_
          refine va_get (D := D) (ci := 9) (v := .ref (am 9)) (C := RX9) (T := TX9) (N := 43) hx hb hts hi_X9_snapping_X9 hown hK hI.1 0 (mg_0 am cI cZ st10) rfl 24 (by decide) f_2 (fun _ h9 => h9) rfl dX9_snapping_42 ?_
          refine lv_iload_n hx hb dX9_snapping_45 rfl (lv_at hl 3 rfl) ?_
          obtain ⟨g11, hM⟩ := gd_at hM
          refine va_iald hx hb hK hI.1 9 0 (mg_9 am cI cZ st10) rfl (inB_vp g11) dX9_snapping_46 ?_
          refine lv_isub hx hb dX9_snapping_47 ?_
          refine lv_istore (lv' := [(4, .int (v9 - (st10.1 9 (w4).toNatClampNeg))), (0, .ref (am 0)), (1, .int w2), (2, .int w3), (3, .int w4)]) hx hb dX9_snapping_48 hl (by decide) rfl (fun ls hl => ?_)
          refine lv_iload hx hb dX9_snapping_50 (lv_at hl 0 rfl) ?_
          refine lv_iload_n hx hb dX9_snapping_52 rfl (lv_at hl 3 rfl) ?_
          refine lv_icmp_le (tgt := 60) hx hb dX9_snapping_53 (by decide) (fun c12 => ?_) (fun c12 => ?_)
          · replace hM := if_t c12 hM
            refine lv_iload_n hx hb dX9_snapping_60 rfl (lv_at hl 2 rfl) ?_
            refine lv_istore_n (lv' := [(1, .int w2), (4, .int (v9 - (st10.1 9 (w4).toNatClampNeg))), (0, .ref (am 0)), (2, .int w3), (3, .int w4)]) hx hb dX9_snapping_61 rfl hl (by decide) rfl (fun ls hl => ?_)
            refine lv_iload hx hb dX9_snapping_62 (lv_at hl 1 rfl) ?_
            refine lv_iload_n hx hb dX9_snapping_64 rfl (lv_at hl 3 rfl) ?_
            refine lv_icmp_le (tgt := 73) hx hb dX9_snapping_65 (by decide) (fun c13 => ?_) (fun c13 => ?_)
            · replace hM := if_t c13 hM
              refine lv_iload_n hx hb dX9_snapping_73 rfl (lv_at hl 3 rfl) ?_
              refine lv_istore_n (lv' := [(2, .int w3), (1, .int w2), (4, .int (v9 - (st10.1 9 (w4).toNatClampNeg))), (0, .ref (am 0)), (3, .int w4)]) hx hb dX9_snapping_74 rfl hl (by decide) rfl (fun ls hl => ?_)
              refine lv_iinc (v := (w4 + (1 : Int32))) (lv' := [(3, .int (w4 + (1 : Int32))), (2, .int w3), (1, .int w2), (4, .int (v9 - (st10.1 9 (w4).toNatClampNeg))), (0, .ref (am 0))]) hx hb dX9_snapping_75 hl (k := 4) rfl rfl (by decide) rfl (fun ls hl => ?_)
              refine lv_goto (tgt := 7) hx hb dX9_snapping_78 (by decide) ?_
              have hz := Option.some.inj hM
              subst hz
              exact ih0 w2 w3 (w4 + (1 : Int32)) st10 _ _ _ hI (lv_sub hl [4, 2, 1, 0] rfl) hk0
            · replace hM := if_f c13 hM
              refine lv_iload hx hb dX9_snapping_68 (lv_at hl 1 rfl) ?_
              refine lv_goto (tgt := 74) hx hb dX9_snapping_70 (by decide) ?_
              refine lv_istore_n (lv' := [(2, .int (v9 - (st10.1 9 (w4).toNatClampNeg))), (1, .int w2), (4, .int (v9 - (st10.1 9 (w4).toNatClampNeg))), (0, .ref (am 0)), (3, .int w4)]) hx hb dX9_snapping_74 rfl hl (by decide) rfl (fun ls hl => ?_)
              refine lv_iinc (v := (w4 + (1 : Int32))) (lv' := [(3, .int (w4 + (1 : Int32))), (2, .int (v9 - (st10.1 9 (w4).toNatClampNeg))), (1, .int w2), (4, .int (v9 - (st10.1 9 (w4).toNatClampNeg))), (0, .ref (am 0))]) hx hb dX9_snapping_75 hl (k := 4) rfl rfl (by decide) rfl (fun ls hl => ?_)
              refine lv_goto (tgt := 7) hx hb dX9_snapping_78 (by decide) ?_
              have hz := Option.some.inj hM
              subst hz
              exact ih0 w2 (v9 - (st10.1 9 (w4).toNatClampNeg)) (w4 + (1 : Int32)) st10 _ _ _ hI (lv_sub hl [4, 2, 1, 0] rfl) hk0
          · replace hM := if_f c12 hM
            refine lv_iload_n hx hb dX9_snapping_56 rfl (lv_at hl 4 rfl) ?_
            refine lv_goto (tgt := 61) hx hb dX9_snapping_57 (by decide) ?_
            refine lv_istore_n (lv' := [(1, .int w4), (4, .int (v9 - (st10.1 9 (w4).toNatClampNeg))), (0, .ref (am 0)), (2, .int w3), (3, .int w4)]) hx hb dX9_snapping_61 rfl hl (by decide) rfl (fun ls hl => ?_)
            refine lv_iload hx hb dX9_snapping_62 (lv_at hl 1 rfl) ?_
            refine lv_iload_n hx hb dX9_snapping_64 rfl (lv_at hl 3 rfl) ?_
            refine lv_icmp_le (tgt := 73) hx hb dX9_snapping_65 (by decide) (fun c14 => ?_) (fun c14 => ?_)
            · replace hM := if_t c14 hM
              refine lv_iload_n hx hb dX9_snapping_73 rfl (lv_at hl 3 rfl) ?_
              refine lv_istore_n (lv' := [(2, .int w3), (1, .int w4), (4, .int (v9 - (st10.1 9 (w4).toNatClampNeg))), (0, .ref (am 0)), (3, .int w4)]) hx hb dX9_snapping_74 rfl hl (by decide) rfl (fun ls hl => ?_)
              refine lv_iinc (v := (w4 + (1 : Int32))) (lv' := [(3, .int (w4 + (1 : Int32))), (2, .int w3), (1, .int w4), (4, .int (v9 - (st10.1 9 (w4).toNatClampNeg))), (0, .ref (am 0))]) hx hb dX9_snapping_75 hl (k := 4) rfl rfl (by decide) rfl (fun ls hl => ?_)
              refine lv_goto (tgt := 7) hx hb dX9_snapping_78 (by decide) ?_
              have hz := Option.some.inj hM
              subst hz
              exact ih0 w4 w3 (w4 + (1 : Int32)) st10 _ _ _ hI (lv_sub hl [4, 2, 1, 0] rfl) hk0
            · replace hM := if_f c14 hM
              refine lv_iload hx hb dX9_snapping_68 (lv_at hl 1 rfl) ?_
              refine lv_goto (tgt := 74) hx hb dX9_snapping_70 (by decide) ?_
              refine lv_istore_n (lv' := [(2, .int (v9 - (st10.1 9 (w4).toNatClampNeg))), (1, .int w4), (4, .int (v9 - (st10.1 9 (w4).toNatClampNeg))), (0, .ref (am 0)), (3, .int w4)]) hx hb dX9_snapping_74 rfl hl (by decide) rfl (fun ls hl => ?_)
              refine lv_iinc (v := (w4 + (1 : Int32))) (lv' := [(3, .int (w4 + (1 : Int32))), (2, .int (v9 - (st10.1 9 (w4).toNatClampNeg))), (1, .int w4), (4, .int (v9 - (st10.1 9 (w4).toNatClampNeg))), (0, .ref (am 0))]) hx hb dX9_snapping_75 hl (k := 4) rfl rfl (by decide) rfl (fun ls hl => ?_)
              refine lv_goto (tgt := 7) hx hb dX9_snapping_78 (by decide) ?_
              have hz := Option.some.inj hM
              subst hz
              exact ih0 w4 (v9 - (st10.1 9 (w4).toNatClampNeg)) (w4 + (1 : Int32)) st10 _ _ _ hI (lv_sub hl [4, 2, 1, 0] rfl) hk0
        · replace hM := if_f c8 hM
          refine lv_iconst (v := (0 : Int32)) hx hb dX9_snapping_28 (by decide) ?_
          refine lv_goto (tgt := 48) hx hb dX9_snapping_29 (by decide) ?_
          refine lv_istore (lv' := [(4, .int (0 : Int32)), (0, .ref (am 0)), (1, .int w2), (2, .int w3), (3, .int w4)]) hx hb dX9_snapping_48 hl (by decide) rfl (fun ls hl => ?_)
          refine lv_iload hx hb dX9_snapping_50 (lv_at hl 0 rfl) ?_
          refine lv_iload_n hx hb dX9_snapping_52 rfl (lv_at hl 3 rfl) ?_
          refine lv_icmp_le (tgt := 60) hx hb dX9_snapping_53 (by decide) (fun c15 => ?_) (fun c15 => ?_)
          · replace hM := if_t c15 hM
            refine lv_iload_n hx hb dX9_snapping_60 rfl (lv_at hl 2 rfl) ?_
            refine lv_istore_n (lv' := [(1, .int w2), (4, .int (0 : Int32)), (0, .ref (am 0)), (2, .int w3), (3, .int w4)]) hx hb dX9_snapping_61 rfl hl (by decide) rfl (fun ls hl => ?_)
            refine lv_iload hx hb dX9_snapping_62 (lv_at hl 1 rfl) ?_
            refine lv_iload_n hx hb dX9_snapping_64 rfl (lv_at hl 3 rfl) ?_
            refine lv_icmp_le (tgt := 73) hx hb dX9_snapping_65 (by decide) (fun c16 => ?_) (fun c16 => ?_)
            · replace hM := if_t c16 hM
              refine lv_iload_n hx hb dX9_snapping_73 rfl (lv_at hl 3 rfl) ?_
              refine lv_istore_n (lv' := [(2, .int w3), (1, .int w2), (4, .int (0 : Int32)), (0, .ref (am 0)), (3, .int w4)]) hx hb dX9_snapping_74 rfl hl (by decide) rfl (fun ls hl => ?_)
              refine lv_iinc (v := (w4 + (1 : Int32))) (lv' := [(3, .int (w4 + (1 : Int32))), (2, .int w3), (1, .int w2), (4, .int (0 : Int32)), (0, .ref (am 0))]) hx hb dX9_snapping_75 hl (k := 4) rfl rfl (by decide) rfl (fun ls hl => ?_)
              refine lv_goto (tgt := 7) hx hb dX9_snapping_78 (by decide) ?_
              have hz := Option.some.inj hM
              subst hz
              exact ih0 w2 w3 (w4 + (1 : Int32)) st7 _ _ _ hI (lv_sub hl [4, 2, 1, 0] rfl) hk0
            · replace hM := if_f c16 hM
              refine lv_iload hx hb dX9_snapping_68 (lv_at hl 1 rfl) ?_
              refine lv_goto (tgt := 74) hx hb dX9_snapping_70 (by decide) ?_
              refine lv_istore_n (lv' := [(2, .int (0 : Int32)), (1, .int w2), (4, .int (0 : Int32)), (0, .ref (am 0)), (3, .int w4)]) hx hb dX9_snapping_74 rfl hl (by decide) rfl (fun ls hl => ?_)
              refine lv_iinc (v := (w4 + (1 : Int32))) (lv' := [(3, .int (w4 + (1 : Int32))), (2, .int (0 : Int32)), (1, .int w2), (4, .int (0 : Int32)), (0, .ref (am 0))]) hx hb dX9_snapping_75 hl (k := 4) rfl rfl (by decide) rfl (fun ls hl => ?_)
              refine lv_goto (tgt := 7) hx hb dX9_snapping_78 (by decide) ?_
              have hz := Option.some.inj hM
              subst hz
              exact ih0 w2 (0 : Int32) (w4 + (1 : Int32)) st7 _ _ _ hI (lv_sub hl [4, 2, 1, 0] rfl) hk0
          · replace hM := if_f c15 hM
            refine lv_iload_n hx hb dX9_snapping_56 rfl (lv_at hl 4 rfl) ?_
            refine lv_goto (tgt := 61) hx hb dX9_snapping_57 (by decide) ?_
            refine lv_istore_n (lv' := [(1, .int w4), (4, .int (0 : Int32)), (0, .ref (am 0)), (2, .int w3), (3, .int w4)]) hx hb dX9_snapping_61 rfl hl (by decide) rfl (fun ls hl => ?_)
            refine lv_iload hx hb dX9_snapping_62 (lv_at hl 1 rfl) ?_
            refine lv_iload_n hx hb dX9_snapping_64 rfl (lv_at hl 3 rfl) ?_
            refine lv_icmp_le (tgt := 73) hx hb dX9_snapping_65 (by decide) (fun c17 => ?_) (fun c17 => ?_)
            · replace hM := if_t c17 hM
              refine lv_iload_n hx hb dX9_snapping_73 rfl (lv_at hl 3 rfl) ?_
              refine lv_istore_n (lv' := [(2, .int w3), (1, .int w4), (4, .int (0 : Int32)), (0, .ref (am 0)), (3, .int w4)]) hx hb dX9_snapping_74 rfl hl (by decide) rfl (fun ls hl => ?_)
              refine lv_iinc (v := (w4 + (1 : Int32))) (lv' := [(3, .int (w4 + (1 : Int32))), (2, .int w3), (1, .int w4), (4, .int (0 : Int32)), (0, .ref (am 0))]) hx hb dX9_snapping_75 hl (k := 4) rfl rfl (by decide) rfl (fun ls hl => ?_)
              refine lv_goto (tgt := 7) hx hb dX9_snapping_78 (by decide) ?_
              have hz := Option.some.inj hM
              subst hz
              exact ih0 w4 w3 (w4 + (1 : Int32)) st7 _ _ _ hI (lv_sub hl [4, 2, 1, 0] rfl) hk0
            · replace hM := if_f c17 hM
              refine lv_iload hx hb dX9_snapping_68 (lv_at hl 1 rfl) ?_
              refine lv_goto (tgt := 74) hx hb dX9_snapping_70 (by decide) ?_
              refine lv_istore_n (lv' := [(2, .int (0 : Int32)), (1, .int w4), (4, .int (0 : Int32)), (0, .ref (am 0)), (3, .int w4)]) hx hb dX9_snapping_74 rfl hl (by decide) rfl (fun ls hl => ?_)
              refine lv_iinc (v := (w4 + (1 : Int32))) (lv' := [(3, .int (w4 + (1 : Int32))), (2, .int (0 : Int32)), (1, .int w4), (4, .int (0 : Int32)), (0, .ref (am 0))]) hx hb dX9_snapping_75 hl (k := 4) rfl rfl (by decide) rfl (fun ls hl => ?_)
              refine lv_goto (tgt := 7) hx hb dX9_snapping_78 (by decide) ?_
              have hz := Option.some.inj hM
              subst hz
              exact ih0 w4 (0 : Int32) (w4 + (1 : Int32)) st7 _ _ _ hI (lv_sub hl [4, 2, 1, 0] rfl) hk0
  exact lp0 N (-9 : Int32) (0 : Int32) (0 : Int32) st _ _ _ hI (lv_sub hl [3, 2, 1, 0] rfl) hM
set_option maxRecDepth 20000 in
theorem hi_X9_holds_X9 : ∀ w ∈ wsX90, w ∈ wsX9_holds := by decide +kernel
set_option maxHeartbeats 4000000 in
set_option maxRecDepth 100000 in
theorem jw_X9_holds {l : Launch} (D : va_G) (am : Nat → Nat) (cI cZ : ClassId) (hj : aJ am 24) (N : Nat) {st stZ : PS} {rZ : Int32} (hM : jm_X9_holds N st = some (rZ, stZ)) : Met l yX9_holds wsX9_holds ({ frames := 6, cells := 0, slots := 0, locals := 141 }) (va_Pc [.ref (am 0)] (JH D (mW am cI cZ) (mTy cI cZ) st)) (JQ D (aA am 24) (mW am cI cZ) (mTy cI cZ) (some (.int rZ)) stZ) 0 0 (aA am 24) := by
  refine jStart (cc := cX9_holds) (maxL := 3) (ret := (some .int)) [.ref (am 0)] (by decide) rfl (Nat.le_of_ble_eq_true rfl) (fun p e s m below meth c ls hx hb hr hlocks hts hown hml hK hI hl => ?_)
  have hown : s.vm.findClass RX9 = some m.cls := hown
  replace hl : lv_has ls 3 [(0, .ref (am 0))] := hl
  generalize hAV : ([.ref (am 0)] : List Value).toArray = AV at hts ⊢
  have f_0 := hts (.fieldLink RX9 46 "PuppetBarModel" "now" "[I") (by decide +kernel)
  unfold jm_X9_holds at hM
  refine lv_aload_n hx hb dX9_holds_0 rfl (lv_at hl 0 rfl) ?_
  obtain ⟨v1, st2, hqv1, hM⟩ := bd_at hM
  refine jcallV (C := RX9) (As := []) (rest := []) ⟨hx, hb, hml, hown, hts⟩ (jw_X9_remember D am cI cZ hj N hqv1) (cwV 0 hts gX9_holds_X9_remember rfl rfl rfl yd_X9_remember ⟨Nat.le_of_ble_eq_true rfl, Nat.le_of_ble_eq_true rfl⟩) hK hI 0 (mg_0 am cI cZ st) rfl rfl hl.1 rfl (Nat.le_of_ble_eq_true rfl) dX9_holds_1 (fun H locs hI => ?_)
  refine W.eq (g2 := F0 m 4 ls []) rfl ?_
  refine lv_iconst (v := (0 : Int32)) hx hb dX9_holds_4 (by decide) ?_
  refine lv_istore_n (lv' := [(1, .int (0 : Int32)), (0, .ref (am 0))]) hx hb dX9_holds_5 rfl hl (by decide) rfl (fun ls hl => ?_)
  refine lv_aload_n hx hb dX9_holds_6 rfl (lv_at hl 1 rfl) ?_
  obtain ⟨v3, st4, hqv3, hM⟩ := bd_at hM
  refine jcallV (C := RX9) (As := []) (rest := []) ⟨hx, hb, hml, hown, hts⟩ (jw_X9_snapping D am cI cZ hj N hqv3) (cwV 0 hts gX9_holds_X9_snapping rfl rfl rfl yd_X9_snapping ⟨Nat.le_of_ble_eq_true rfl, Nat.le_of_ble_eq_true rfl⟩) hK hI 0 (mg_0 am cI cZ st2) rfl rfl hl.1 rfl (Nat.le_of_ble_eq_true rfl) dX9_holds_7 (fun H locs hI => ?_)
  refine W.eq (g2 := F0 m 10 ls [.int v3]) rfl ?_
  refine lv_istore_n (lv' := [(2, .int v3), (1, .int (0 : Int32)), (0, .ref (am 0))]) hx hb dX9_holds_10 rfl hl (by decide) rfl (fun ls hl => ?_)
  have lp0 : ∀ (n : Nat) (w6 : Int32) (w7 : Int32) (st5 : PS) (H : Heap) (locs : List Loc) (ls : Array Slot), JI D (aA am 24) (mW am cI cZ) s.heap st5 H locs → lv_has ls 3 [(0, .ref (am 0)), (1, .int w6), (2, .int w7)] → iter (fun q => jm_X9_holds_L11 N q.1 q.2.1 q.2.2) n (w6, w7, st5) = some (rZ, stZ) → W p l e (headSpec wsX9_holds { frames := 6, cells := 0, slots := 0, locals := 141 }).room s m AV below meth c H locs 0 0 (MQ below (JQ D (aA am 24) (mW am cI cZ) (mTy cI cZ) (some (.int rZ)) stZ) AV s 0 0 (aA am 24)) (F0 m 11 ls []) := by
    intro n
    induction n with
    | zero =>
      intro _ _ _ _ _ _ _ _ hM
      exact absurd hM (fun h => iter_zero h)
    | succ n ih0 =>
      intro w6 w7 st5 H locs ls hI hl hM
      obtain ⟨z0, hM, hk0⟩ := iter_succ hM
      replace hM : jm_X9_holds_L11 N w6 w7 st5 = some z0 := hM
      unfold jm_X9_holds_L11 at hM
      refine lv_iload_n hx hb dX9_holds_11 rfl (lv_at hl 2 rfl) ?_
      refine lv_bipush (v := (-9 : Int32)) hx hb dX9_holds_12 (by decide) ?_
      refine lv_icmp_eq (tgt := 40) hx hb dX9_holds_14 (by decide) (fun c8 => ?_) (fun c8 => ?_)
      · replace hM := if_t c8 hM
        refine lv_iload_n hx hb dX9_holds_40 rfl (lv_at hl 1 rfl) ?_
        have hz := Option.some.inj hM
        subst hz
        have hz := kn_r hk0
        exact W.iret hx hb hr (fun t ht hW => jq_i hK hI hz ht hW) hI.2.2.2 dX9_holds_41
      · replace hM := if_f c8 hM
        refine lv_aload_n hx hb dX9_holds_17 rfl (lv_at hl 0 rfl) ?_
        refine va_get (D := D) (ci := 9) (v := .ref (am 13)) (C := RX9) (T := TX9) (N := 43) hx hb hts hi_X9_holds_X9 hown hK hI.1 0 (mg_0 am cI cZ st5) rfl 28 (by decide) f_0 (fun _ h9 => h9) rfl dX9_holds_18 ?_
        refine lv_iconst (v := (2 : Int32)) hx hb dX9_holds_21 (by decide) ?_
        refine lv_dup2_11 hx hb dX9_holds_22 rfl rfl ?_
        refine va_iald hx hb hK hI.1 13 0 (mg_13 am cI cZ st5) rfl (inB_vp rfl) dX9_holds_23 ?_
        refine W.eq (g2 := F0 m 24 ls [.int (st5.1 13 2), .int (2 : Int32), .ref (am 13)]) rfl ?_
        refine lv_iconst (v := (1 : Int32)) hx hb dX9_holds_24 (by decide) ?_
        refine lv_iload_n hx hb dX9_holds_25 rfl (lv_at hl 2 rfl) ?_
        refine lv_ishl hx hb dX9_holds_26 ?_
        refine lv_ior hx hb dX9_holds_27 ?_
        refine jiast (x := ((st5.1 13 2) ||| ((1 : Int32) <<< (w7 &&& 31)))) (st2 := pU st5 13 2 (((st5.1 13 2) ||| ((1 : Int32) <<< (w7 &&& 31))))) hx hb hK (mD hj) hI 13 0 (mg_13 am cI cZ st5) rfl (inB_vp rfl) (ms_13 am cI cZ st5 _) dX9_holds_28 (fun st9 est9 H locs hI => ?_)
        replace hM := nm_at est9 hM
        refine lv_iinc (v := (w6 + (1 : Int32))) (lv' := [(1, .int (w6 + (1 : Int32))), (0, .ref (am 0)), (2, .int w7)]) hx hb dX9_holds_29 hl (k := 1) rfl rfl (by decide) rfl (fun ls hl => ?_)
        refine lv_aload_n hx hb dX9_holds_32 rfl (lv_at hl 1 rfl) ?_
        obtain ⟨v10, st11, hqv10, hM⟩ := bd_at hM
        refine jcallV (C := RX9) (As := []) (rest := []) ⟨hx, hb, hml, hown, hts⟩ (jw_X9_snapping D am cI cZ hj N hqv10) (cwV 0 hts gX9_holds_X9_snapping rfl rfl rfl yd_X9_snapping ⟨Nat.le_of_ble_eq_true rfl, Nat.le_of_ble_eq_true rfl⟩) hK hI 0 (mg_0 am cI cZ st9) rfl rfl hl.1 rfl (Nat.le_of_ble_eq_true rfl) dX9_holds_33 (fun H locs hI => ?_)
        refine W.eq (g2 := F0 m 36 ls [.int v10]) rfl ?_
        refine lv_istore_n (lv' := [(2, .int v10), (1, .int (w6 + (1 : Int32))), (0, .ref (am 0))]) hx hb dX9_holds_36 rfl hl (by decide) rfl (fun ls hl => ?_)
        refine lv_goto (tgt := 11) hx hb dX9_holds_37 (by decide) ?_
        have hz := Option.some.inj hM
        subst hz
        exact ih0 (w6 + (1 : Int32)) v10 st11 _ _ _ hI (lv_sub hl [2, 1, 0] rfl) hk0
  exact lp0 N (0 : Int32) v3 st4 _ _ _ hI (lv_sub hl [2, 1, 0] rfl) hM
set_option maxRecDepth 20000 in
theorem hi_X9_beats_X9 : ∀ w ∈ wsX90, w ∈ wsX9_beats := by decide +kernel
set_option maxHeartbeats 4000000 in
set_option maxRecDepth 100000 in
theorem jw_X9_beats {l : Launch} (D : va_G) (am : Nat → Nat) (cI cZ : ClassId) (hj : aJ am 24) (N : Nat) {x1 : Int32} {st stZ : PS} {rZ : Int32} (hM : jm_X9_beats N x1 st = some (rZ, stZ)) : Met l yX9_beats wsX9_beats ({ frames := 4, cells := 0, slots := 0, locals := 91 }) (va_Pc [.ref (am 0), .int x1] (JH D (mW am cI cZ) (mTy cI cZ) st)) (JQ D (aA am 24) (mW am cI cZ) (mTy cI cZ) (some (.int rZ)) stZ) 0 0 (aA am 24) := by
  refine jStart (cc := cX9_beats) (maxL := 2) (ret := (some .int)) [.ref (am 0), .int x1] (by decide) rfl (Nat.le_of_ble_eq_true rfl) (fun p e s m below meth c ls hx hb hr hlocks hts hown hml hK hI hl => ?_)
  have hown : s.vm.findClass RX9 = some m.cls := hown
  replace hl : lv_has ls 2 [(0, .ref (am 0)), (1, .int x1)] := hl
  generalize hAV : ([.ref (am 0), .int x1] : List Value).toArray = AV at hts ⊢
  have f_0 := hts (.fieldLink RX9 46 "PuppetBarModel" "now" "[I") (by decide +kernel)
  have f_1 := hts (.fieldLink RX9 37 "PuppetBarModel" "beatLifts" "[I") (by decide +kernel)
  have f_2 := hts (.fieldLink RX9 40 "PuppetBarModel" "beatTilts" "[I") (by decide +kernel)
  unfold jm_X9_beats at hM
  refine lv_aload_n hx hb dX9_beats_0 rfl (lv_at hl 0 rfl) ?_
  refine lv_iload_n hx hb dX9_beats_1 rfl (lv_at hl 1 rfl) ?_
  obtain ⟨v1, st2, hqv1, hM⟩ := bd_at hM
  refine jcallV (C := RX9) (As := [.int x1]) (rest := []) ⟨hx, hb, hml, hown, hts⟩ (jw_X9_isBeat D am cI cZ hj N hqv1) (cwV 1 hts gX9_beats_X9_isBeat rfl rfl rfl yd_X9_isBeat ⟨Nat.le_of_ble_eq_true rfl, Nat.le_of_ble_eq_true rfl⟩) hK hI 0 (mg_0 am cI cZ st) rfl rfl hl.1 rfl (Nat.le_of_ble_eq_true rfl) dX9_beats_2 (fun H locs hI => ?_)
  refine W.eq (g2 := F0 m 5 ls [.int v1]) rfl ?_
  refine lv_if_ne (tgt := 10) hx hb dX9_beats_5 (by decide) (fun c3 => ?_) (fun c3 => ?_)
  · replace hM := if_f c3 hM
    refine lv_aload_n hx hb dX9_beats_10 rfl (lv_at hl 0 rfl) ?_
    obtain ⟨v4, st5, hqv4, hM⟩ := bd_at hM
    refine jcallV (C := RX9) (As := []) (rest := []) ⟨hx, hb, hml, hown, hts⟩ (jw_X9_remember D am cI cZ hj N hqv4) (cwV 0 hts gX9_beats_X9_remember rfl rfl rfl yd_X9_remember ⟨Nat.le_of_ble_eq_true rfl, Nat.le_of_ble_eq_true rfl⟩) hK hI 0 (mg_0 am cI cZ st2) rfl rfl hl.1 rfl (Nat.le_of_ble_eq_true rfl) dX9_beats_11 (fun H locs hI => ?_)
    refine W.eq (g2 := F0 m 14 ls []) rfl ?_
    refine lv_aload_n hx hb dX9_beats_14 rfl (lv_at hl 0 rfl) ?_
    refine va_get (D := D) (ci := 9) (v := .ref (am 13)) (C := RX9) (T := TX9) (N := 43) hx hb hts hi_X9_beats_X9 hown hK hI.1 0 (mg_0 am cI cZ st5) rfl 28 (by decide) f_0 (fun _ h9 => h9) rfl dX9_beats_15 ?_
    refine lv_iconst (v := (0 : Int32)) hx hb dX9_beats_18 (by decide) ?_
    refine lv_aload_n hx hb dX9_beats_19 rfl (lv_at hl 0 rfl) ?_
    refine va_get (D := D) (ci := 9) (v := .ref (am 10)) (C := RX9) (T := TX9) (N := 43) hx hb hts hi_X9_beats_X9 hown hK hI.1 0 (mg_0 am cI cZ st5) rfl 25 (by decide) f_1 (fun _ h9 => h9) rfl dX9_beats_20 ?_
    refine lv_iload_n hx hb dX9_beats_23 rfl (lv_at hl 1 rfl) ?_
    obtain ⟨g6, hM⟩ := gd_at hM
    refine va_iald hx hb hK hI.1 10 0 (mg_10 am cI cZ st5) rfl (inB_vp g6) dX9_beats_24 ?_
    refine jiast (x := (st5.1 10 (x1).toNatClampNeg)) (st2 := pU st5 13 0 ((st5.1 10 (x1).toNatClampNeg))) hx hb hK (mD hj) hI 13 0 (mg_13 am cI cZ st5) rfl (inB_vp rfl) (ms_13 am cI cZ st5 _) dX9_beats_25 (fun st7 est7 H locs hI => ?_)
    replace hM := nm_at est7 hM
    refine lv_aload_n hx hb dX9_beats_26 rfl (lv_at hl 0 rfl) ?_
    refine va_get (D := D) (ci := 9) (v := .ref (am 13)) (C := RX9) (T := TX9) (N := 43) hx hb hts hi_X9_beats_X9 hown hK hI.1 0 (mg_0 am cI cZ st7) rfl 28 (by decide) f_0 (fun _ h9 => h9) rfl dX9_beats_27 ?_
    refine lv_iconst (v := (1 : Int32)) hx hb dX9_beats_30 (by decide) ?_
    refine lv_aload_n hx hb dX9_beats_31 rfl (lv_at hl 0 rfl) ?_
    refine va_get (D := D) (ci := 9) (v := .ref (am 11)) (C := RX9) (T := TX9) (N := 43) hx hb hts hi_X9_beats_X9 hown hK hI.1 0 (mg_0 am cI cZ st7) rfl 26 (by decide) f_2 (fun _ h9 => h9) rfl dX9_beats_32 ?_
    refine lv_iload_n hx hb dX9_beats_35 rfl (lv_at hl 1 rfl) ?_
    obtain ⟨g8, hM⟩ := gd_at hM
    refine va_iald hx hb hK hI.1 11 0 (mg_11 am cI cZ st7) rfl (inB_vp g8) dX9_beats_36 ?_
    refine jiast (x := (st7.1 11 (x1).toNatClampNeg)) (st2 := pU st7 13 1 ((st7.1 11 (x1).toNatClampNeg))) hx hb hK (mD hj) hI 13 0 (mg_13 am cI cZ st7) rfl (inB_vp rfl) (ms_13 am cI cZ st7 _) dX9_beats_37 (fun st9 est9 H locs hI => ?_)
    replace hM := nm_at est9 hM
    refine lv_aload_n hx hb dX9_beats_38 rfl (lv_at hl 0 rfl) ?_
    refine lv_aload_n hx hb dX9_beats_39 rfl (lv_at hl 0 rfl) ?_
    refine va_get (D := D) (ci := 9) (v := .ref (am 13)) (C := RX9) (T := TX9) (N := 43) hx hb hts hi_X9_beats_X9 hown hK hI.1 0 (mg_0 am cI cZ st9) rfl 28 (by decide) f_0 (fun _ h9 => h9) rfl dX9_beats_40 ?_
    obtain ⟨v10, st11, hqv10, hM⟩ := bd_at hM
    refine jcallV (C := RX9) (As := [.ref (am 13)]) (rest := []) ⟨hx, hb, hml, hown, hts⟩ (jw_X9_ground D am cI cZ hj N (show mk_Of 13 by decide) hqv10) (cwV 1 hts gX9_beats_X9_ground rfl rfl rfl yd_X9_ground ⟨Nat.le_of_ble_eq_true rfl, Nat.le_of_ble_eq_true rfl⟩) hK hI 0 (mg_0 am cI cZ st9) rfl rfl hl.1 rfl (Nat.le_of_ble_eq_true rfl) dX9_beats_43 (fun H locs hI => ?_)
    refine W.eq (g2 := F0 m 46 ls [.int v10]) rfl ?_
    obtain ⟨v12, st13, hqv12, hM⟩ := bd_at hM
    refine jcallS (As := [.int v10]) (rest := []) ⟨hx, hb, hml, hown, hts⟩ (jw_X9_bits D am cI cZ hj N hqv12) (va_cwS 1 hts gX9_beats_X9_bits rfl rfl rfl yd_X9_bits ⟨Nat.le_of_ble_eq_true rfl, Nat.le_of_ble_eq_true rfl⟩) hK hI rfl hl.1 rfl (Nat.le_of_ble_eq_true rfl) dX9_beats_46 (fun H locs hI => ?_)
    refine W.eq (g2 := F0 m 49 ls [.int v12]) rfl ?_
    have hz := Option.some.inj hM
    exact W.iret hx hb hr (fun t ht hW => jq_i hK hI hz ht hW) hI.2.2.2 dX9_beats_49
  · replace hM := if_t c3 hM
    refine lv_iconst (v := (-1 : Int32)) hx hb dX9_beats_8 (by decide) ?_
    have hz := Option.some.inj hM
    exact W.iret hx hb hr (fun t ht hW => jq_i hK hI hz ht hW) hI.2.2.2 dX9_beats_9
