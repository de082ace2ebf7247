set_option maxRecDepth 20000 in
theorem hi_X9_odds_X9 : ∀ w ∈ wsX90, w ∈ wsX9_odds := by decide +kernel
set_option maxHeartbeats 4000000 in
set_option maxRecDepth 100000 in
theorem jw_X9_odds {l : Launch} (D : va_G) (am : Nat → Nat) (cI cZ : ClassId) (hj : aJ am 24) (N : Nat) {x1 : Int32} {x2 : Int32} {x3 : Int32} {st stZ : PS} {rZ : Int32} (hM : jm_X9_odds N x1 x2 x3 st = some (rZ, stZ)) : Met l yX9_odds wsX9_odds ({ frames := 3, cells := 0, slots := 0, locals := 68 }) (va_Pc [.ref (am 0), .int x1, .int x2, .int x3] (JH D (mW am cI cZ) (mTy cI cZ) st)) (JQ D (aA am 24) (mW am cI cZ) (mTy cI cZ) (some (.int rZ)) stZ) 0 0 (aA am 24) := by
  refine jStart (cc := cX9_odds) (maxL := 10) (ret := (some .int)) [.ref (am 0), .int x1, .int x2, .int x3] (by decide) rfl (Nat.le_of_ble_eq_true rfl) (fun p e s m below meth c ls hx hb hr hlocks hts hown hml hK hI hl => ?_)
  have hown : s.vm.findClass RX9 = some m.cls := hown
  replace hl : lv_has ls 10 [(0, .ref (am 0)), (1, .int x1), (2, .int x2), (3, .int x3)] := hl
  generalize hAV : ([.ref (am 0), .int x1, .int x2, .int x3] : List Value).toArray = AV at hts ⊢
  have f_0 := hts (.fieldLink RX9 46 "PuppetBarModel" "now" "[I") (by decide +kernel)
  have f_1 := hts (.fieldLink RX9 172 "PuppetBarModel" "m" "I") (by decide +kernel)
  have f_2 := hts (.fieldLink RX9 49 "PuppetBarModel" "tried" "[I") (by decide +kernel)
  unfold jm_X9_odds at hM
  refine lv_aload_n hx hb dX9_odds_0 rfl (lv_at hl 0 rfl) ?_
  refine lv_iload_n hx hb dX9_odds_1 rfl (lv_at hl 1 rfl) ?_
  obtain ⟨v1, st2, hqv1, hM⟩ := bd_at hM
  refine jcallV (C := RX9) (As := [.int x1]) (rest := []) ⟨hx, hb, hml, hown, hts⟩ (jw_X9_isLimb D am cI cZ hj N hqv1) (cwV 1 hts gX9_odds_X9_isLimb rfl rfl rfl yd_X9_isLimb ⟨Nat.le_of_ble_eq_true rfl, Nat.le_of_ble_eq_true rfl⟩) hK hI 0 (mg_0 am cI cZ st) rfl rfl hl.1 rfl (Nat.le_of_ble_eq_true rfl) dX9_odds_2 (fun H locs hI => ?_)
  refine W.eq (g2 := F0 m 5 ls [.int v1]) rfl ?_
  refine lv_if_eq (tgt := 27) hx hb dX9_odds_5 (by decide) (fun c3 => ?_) (fun c3 => ?_)
  · replace hM := if_t c3 hM
    refine lv_iconst (v := (-1 : Int32)) hx hb dX9_odds_27 (by decide) ?_
    have hz := Option.some.inj hM
    exact W.iret hx hb hr (fun t ht hW => jq_i hK hI hz ht hW) hI.2.2.2 dX9_odds_28
  · replace hM := if_f c3 hM
    refine lv_iload_n hx hb dX9_odds_8 rfl (lv_at hl 2 rfl) ?_
    refine lv_iconst (v := (0 : Int32)) hx hb dX9_odds_9 (by decide) ?_
    refine lv_bipush (v := (10 : Int32)) hx hb dX9_odds_10 (by decide) ?_
    obtain ⟨v4, st5, hqv4, hM⟩ := bd_at hM
    refine jcallS (As := [.int x2, .int (0 : Int32), .int (10 : Int32)]) (rest := []) ⟨hx, hb, hml, hown, hts⟩ (jw_X9_in D am cI cZ hj N hqv4) (va_cwS 3 hts gX9_odds_X9_in rfl rfl rfl yd_X9_in ⟨Nat.le_of_ble_eq_true rfl, Nat.le_of_ble_eq_true rfl⟩) hK hI rfl hl.1 rfl (Nat.le_of_ble_eq_true rfl) dX9_odds_12 (fun H locs hI => ?_)
    refine W.eq (g2 := F0 m 15 ls [.int v4]) rfl ?_
    refine lv_if_eq (tgt := 27) hx hb dX9_odds_15 (by decide) (fun c6 => ?_) (fun c6 => ?_)
    · replace hM := if_t c6 hM
      refine lv_iconst (v := (-1 : Int32)) hx hb dX9_odds_27 (by decide) ?_
      have hz := Option.some.inj hM
      exact W.iret hx hb hr (fun t ht hW => jq_i hK hI hz ht hW) hI.2.2.2 dX9_odds_28
    · replace hM := if_f c6 hM
      refine lv_iload_n hx hb dX9_odds_18 rfl (lv_at hl 3 rfl) ?_
      refine lv_iconst (v := (0 : Int32)) hx hb dX9_odds_19 (by decide) ?_
      refine lv_iconst (v := (1 : Int32)) hx hb dX9_odds_20 (by decide) ?_
      obtain ⟨v7, st8, hqv7, hM⟩ := bd_at hM
      refine jcallS (As := [.int x3, .int (0 : Int32), .int (1 : Int32)]) (rest := []) ⟨hx, hb, hml, hown, hts⟩ (jw_X9_in D am cI cZ hj N hqv7) (va_cwS 3 hts gX9_odds_X9_in rfl rfl rfl yd_X9_in ⟨Nat.le_of_ble_eq_true rfl, Nat.le_of_ble_eq_true rfl⟩) hK hI rfl hl.1 rfl (Nat.le_of_ble_eq_true rfl) dX9_odds_21 (fun H locs hI => ?_)
      refine W.eq (g2 := F0 m 24 ls [.int v7]) rfl ?_
      refine lv_if_ne (tgt := 29) hx hb dX9_odds_24 (by decide) (fun c9 => ?_) (fun c9 => ?_)
      · replace hM := if_f c9 hM
        refine lv_aload_n hx hb dX9_odds_29 rfl (lv_at hl 0 rfl) ?_
        obtain ⟨v10, st11, hqv10, hM⟩ := bd_at hM
        refine jcallV (C := RX9) (As := []) (rest := []) ⟨hx, hb, hml, hown, hts⟩ (jw_X9_allStrings D am cI cZ hj N hqv10) (cwV 0 hts gX9_odds_X9_allStrings rfl rfl rfl yd_X9_allStrings ⟨Nat.le_of_ble_eq_true rfl, Nat.le_of_ble_eq_true rfl⟩) hK hI 0 (mg_0 am cI cZ st8) rfl rfl hl.1 rfl (Nat.le_of_ble_eq_true rfl) dX9_odds_30 (fun H locs hI => ?_)
        refine W.eq (g2 := F0 m 33 ls [.int v10]) rfl ?_
        refine lv_aload_n hx hb dX9_odds_33 rfl (lv_at hl 0 rfl) ?_
        refine va_get (D := D) (ci := 9) (v := .ref (am 13)) (C := RX9) (T := TX9) (N := 43) hx hb hts hi_X9_odds_X9 hown hK hI.1 0 (mg_0 am cI cZ st11) rfl 28 (by decide) f_0 (fun _ h9 => h9) rfl dX9_odds_34 ?_
        refine lv_iconst (v := (2 : Int32)) hx hb dX9_odds_37 (by decide) ?_
        refine va_iald hx hb hK hI.1 13 0 (mg_13 am cI cZ st11) rfl (inB_vp rfl) dX9_odds_38 ?_
        refine W.eq (g2 := F0 m 39 ls [.int (st11.1 13 2), .int v10]) rfl ?_
        refine lv_iconst (v := (-1 : Int32)) hx hb dX9_odds_39 (by decide) ?_
        refine lv_ixor hx hb dX9_odds_40 ?_
        refine lv_iand hx hb dX9_odds_41 ?_
        refine lv_istore (lv' := [(4, .int (v10 &&& ((st11.1 13 2) ^^^ (-1 : Int32)))), (0, .ref (am 0)), (1, .int x1), (2, .int x2), (3, .int x3)]) hx hb dX9_odds_42 hl (by decide) rfl (fun ls hl => ?_)
        refine lv_iconst (v := (0 : Int32)) hx hb dX9_odds_44 (by decide) ?_
        refine lv_istore (lv' := [(5, .int (0 : Int32)), (4, .int (v10 &&& ((st11.1 13 2) ^^^ (-1 : Int32)))), (0, .ref (am 0)), (1, .int x1), (2, .int x2), (3, .int x3)]) hx hb dX9_odds_45 hl (by decide) rfl (fun ls hl => ?_)
        refine lv_iconst (v := (1 : Int32)) hx hb dX9_odds_47 (by decide) ?_
        refine lv_istore (lv' := [(6, .int (1 : Int32)), (5, .int (0 : Int32)), (4, .int (v10 &&& ((st11.1 13 2) ^^^ (-1 : Int32)))), (0, .ref (am 0)), (1, .int x1), (2, .int x2), (3, .int x3)]) hx hb dX9_odds_48 hl (by decide) rfl (fun ls hl => ?_)
        refine lv_iconst (v := (0 : Int32)) hx hb dX9_odds_50 (by decide) ?_
        refine lv_istore (lv' := [(7, .int (0 : Int32)), (6, .int (1 : Int32)), (5, .int (0 : Int32)), (4, .int (v10 &&& ((st11.1 13 2) ^^^ (-1 : Int32)))), (0, .ref (am 0)), (1, .int x1), (2, .int x2), (3, .int x3)]) hx hb dX9_odds_51 hl (by decide) rfl (fun ls hl => ?_)
        obtain ⟨y12, ey12⟩ : ∃ z9 : Int32, z9 = (v10 &&& ((st11.1 13 2) ^^^ (-1 : Int32))) := ⟨_, rfl⟩
        rw [← ey12] at hl
        replace hM := nm_at ey12 hM
        have lp0 : ∀ (n : Nat) (w14 : Int32) (w15 : Int32) (st13 : PS) (H : Heap) (locs : List Loc) (ls : Array Slot), JI D (aA am 24) (mW am cI cZ) s.heap st13 H locs → lv_has ls 10 [(0, .ref (am 0)), (1, .int x1), (2, .int x2), (3, .int x3), (4, .int y12), (5, .int (0 : Int32)), (6, .int w14), (7, .int w15)] → iter (fun q => jm_X9_odds_L53 N x1 x2 x3 y12 q.1 q.2.1 q.2.2) n (w14, w15, st13) = some (rZ, stZ) → W p l e (headSpec wsX9_odds { frames := 3, cells := 0, slots := 0, locals := 68 }).room s m AV below meth c H locs 0 0 (MQ below (JQ D (aA am 24) (mW am cI cZ) (mTy cI cZ) (some (.int rZ)) stZ) AV s 0 0 (aA am 24)) (F0 m 53 ls []) := by
          intro n
          induction n with
          | zero =>
            intro _ _ _ _ _ _ _ _ hM
            exact absurd hM (fun h => iter_zero h)
          | succ n ih0 =>
            intro w14 w15 st13 H locs ls hI hl hM
            obtain ⟨z0, hM, hk0⟩ := iter_succ hM
            replace hM : jm_X9_odds_L53 N x1 x2 x3 y12 w14 w15 st13 = some z0 := hM
            unfold jm_X9_odds_L53 at hM
            refine lv_iload hx hb dX9_odds_53 (lv_at hl 7 rfl) ?_
            refine lv_aload_n hx hb dX9_odds_55 rfl (lv_at hl 0 rfl) ?_
            refine va_get (D := D) (ci := 9) (v := .int (st13.1 0 19)) (C := RX9) (T := TX9) (N := 43) hx hb hts hi_X9_odds_X9 hown hK hI.1 0 (mg_0 am cI cZ st13) rfl 19 (by decide) f_1 (fun _ h9 => h9) rfl dX9_odds_56 ?_
            refine lv_icmp_ge (tgt := 89) hx hb dX9_odds_59 (by decide) (fun c16 => ?_) (fun c16 => ?_)
            · replace hM := if_t c16 hM
              refine lv_aload_n hx hb dX9_odds_89 rfl (lv_at hl 0 rfl) ?_
              obtain ⟨v17, st18, hqv17, hM⟩ := bd_at hM
              refine jcallV (C := RX9) (As := []) (rest := []) ⟨hx, hb, hml, hown, hts⟩ (jw_X9_copyNow D am cI cZ hj N hqv17) (cwV 0 hts gX9_odds_X9_copyNow rfl rfl rfl yd_X9_copyNow ⟨Nat.le_of_ble_eq_true rfl, Nat.le_of_ble_eq_true rfl⟩) hK hI 0 (mg_0 am cI cZ st13) rfl rfl hl.1 rfl (Nat.le_of_ble_eq_true rfl) dX9_odds_90 (fun H locs hI => ?_)
              refine W.eq (g2 := F0 m 93 ls []) rfl ?_
              refine lv_iconst (v := (0 : Int32)) hx hb dX9_odds_93 (by decide) ?_
              refine lv_istore (lv' := [(7, .int (0 : Int32)), (0, .ref (am 0)), (1, .int x1), (2, .int x2), (3, .int x3), (4, .int y12), (5, .int (0 : Int32)), (6, .int w14)]) hx hb dX9_odds_94 hl (by decide) rfl (fun ls hl => ?_)
              have lp1 : ∀ (n : Nat) (w20 : Int32) (w21 : Int32) (st19 : PS) (H : Heap) (locs : List Loc) (ls : Array Slot), JI D (aA am 24) (mW am cI cZ) s.heap st19 H locs → lv_has ls 10 [(0, .ref (am 0)), (1, .int x1), (2, .int x2), (3, .int x3), (4, .int y12), (5, .int w20), (6, .int w14), (7, .int w21)] → iter (fun q => jm_X9_odds_L96 N x1 x2 x3 y12 w14 q.1 q.2.1 q.2.2) n (w20, w21, st19) = some z0 → W p l e (headSpec wsX9_odds { frames := 3, cells := 0, slots := 0, locals := 68 }).room s m AV below meth c H locs 0 0 (MQ below (JQ D (aA am 24) (mW am cI cZ) (mTy cI cZ) (some (.int rZ)) stZ) AV s 0 0 (aA am 24)) (F0 m 96 ls []) := by
                intro n
                induction n with
                | zero =>
                  intro _ _ _ _ _ _ _ _ hM
                  exact absurd hM (fun h => iter_zero h)
                | succ n ih1 =>
                  intro w20 w21 st19 H locs ls hI hl hM
                  obtain ⟨z1, hM, hk1⟩ := iter_succ hM
                  replace hM : jm_X9_odds_L96 N x1 x2 x3 y12 w14 w20 w21 st19 = some z1 := hM
                  unfold jm_X9_odds_L96 at hM
                  refine lv_iload hx hb dX9_odds_96 (lv_at hl 7 rfl) ?_
                  refine lv_iload hx hb dX9_odds_98 (lv_at hl 4 rfl) ?_
                  refine lv_icmp_gt (tgt := 215) hx hb dX9_odds_100 (by decide) (fun c22 => ?_) (fun c22 => ?_)
                  · replace hM := if_t c22 hM
                    refine lv_iload hx hb dX9_odds_215 (lv_at hl 5 rfl) ?_
                    refine lv_iload hx hb dX9_odds_217 (lv_at hl 6 rfl) ?_
                    obtain ⟨v23, st24, hqv23, hM⟩ := bd_at hM
                    refine jcallS (As := [.int w20, .int w14]) (rest := []) ⟨hx, hb, hml, hown, hts⟩ (jw_X9_common D am cI cZ hj N hqv23) (va_cwS 2 hts gX9_odds_X9_common rfl rfl rfl yd_X9_common ⟨Nat.le_of_ble_eq_true rfl, Nat.le_of_ble_eq_true rfl⟩) hK hI rfl hl.1 rfl (Nat.le_of_ble_eq_true rfl) dX9_odds_219 (fun H locs hI => ?_)
                    refine W.eq (g2 := F0 m 222 ls [.int v23]) rfl ?_
                    refine lv_istore (lv' := [(7, .int v23), (0, .ref (am 0)), (1, .int x1), (2, .int x2), (3, .int x3), (4, .int y12), (5, .int w20), (6, .int w14)]) hx hb dX9_odds_222 hl (by decide) rfl (fun ls hl => ?_)
                    refine lv_iload_n hx hb dX9_odds_224 rfl (lv_at hl 4 rfl) ?_
                    refine lv_if_ne (tgt := 236) hx hb dX9_odds_225 (by decide) (fun c25 => ?_) (fun c25 => ?_)
                    · replace hM := if_f c25 hM
                      refine lv_iload hx hb dX9_odds_236 (lv_at hl 7 rfl) ?_
                      refine lv_iload hx hb dX9_odds_238 (lv_at hl 0 rfl) ?_
                      obtain ⟨g26, hM⟩ := gd_at hM
                      refine lv_idiv hx hb dX9_odds_240 (nzB_ne g26) ?_
                      have hz := Option.some.inj hM
                      subst hz
                      have hz := kn_r hk1
                      subst hz
                      have hz := kn_r hk0
                      exact W.iret hx hb hr (fun t ht hW => jq_i hK hI hz ht hW) hI.2.2.2 dX9_odds_241
                    · replace hM := if_t c25 hM
                      refine lv_iload hx hb dX9_odds_228 (lv_at hl 6 rfl) ?_
                      refine lv_iload hx hb dX9_odds_230 (lv_at hl 0 rfl) ?_
                      obtain ⟨g27, hM⟩ := gd_at hM
                      refine lv_idiv hx hb dX9_odds_232 (nzB_ne g27) ?_
                      refine lv_goto (tgt := 241) hx hb dX9_odds_233 (by decide) ?_
                      have hz := Option.some.inj hM
                      subst hz
                      have hz := kn_r hk1
                      subst hz
                      have hz := kn_r hk0
                      exact W.iret hx hb hr (fun t ht hW => jq_i hK hI hz ht hW) hI.2.2.2 dX9_odds_241
                  · replace hM := if_f c22 hM
                    refine lv_iload hx hb dX9_odds_103 (lv_at hl 7 rfl) ?_
                    refine lv_iload hx hb dX9_odds_105 (lv_at hl 4 rfl) ?_
                    refine lv_iconst (v := (-1 : Int32)) hx hb dX9_odds_107 (by decide) ?_
                    refine lv_ixor hx hb dX9_odds_108 ?_
                    refine lv_iand hx hb dX9_odds_109 ?_
                    refine lv_if_ne (tgt := 209) hx hb dX9_odds_110 (by decide) (fun c28 => ?_) (fun c28 => ?_)
                    · replace hM := if_f c28 hM
                      refine lv_iinc (v := (w21 + (1 : Int32))) (lv' := [(7, .int (w21 + (1 : Int32))), (0, .ref (am 0)), (1, .int x1), (2, .int x2), (3, .int x3), (4, .int y12), (5, .int w20), (6, .int w14)]) hx hb dX9_odds_209 hl (k := 7) rfl rfl (by decide) rfl (fun ls hl => ?_)
                      refine lv_goto (tgt := 96) hx hb dX9_odds_212 (by decide) ?_
                      have hz := Option.some.inj hM
                      subst hz
                      exact ih1 w20 (w21 + (1 : Int32)) st19 _ _ _ hI (lv_sub hl [1, 2, 3, 4, 5, 6, 7, 0] rfl) hk1
                    · replace hM := if_t c28 hM
                      refine lv_iconst (v := (1 : Int32)) hx hb dX9_odds_113 (by decide) ?_
                      refine lv_istore (lv' := [(8, .int (1 : Int32)), (0, .ref (am 0)), (1, .int x1), (2, .int x2), (3, .int x3), (4, .int y12), (5, .int w20), (6, .int w14), (7, .int w21)]) hx hb dX9_odds_114 hl (by decide) rfl (fun ls hl => ?_)
                      refine lv_iconst (v := (0 : Int32)) hx hb dX9_odds_116 (by decide) ?_
                      refine lv_istore (lv' := [(9, .int (0 : Int32)), (8, .int (1 : Int32)), (0, .ref (am 0)), (1, .int x1), (2, .int x2), (3, .int x3), (4, .int y12), (5, .int w20), (6, .int w14), (7, .int w21)]) hx hb dX9_odds_117 hl (by decide) rfl (fun ls hl => ?_)
                      have lp2 : ∀ (n : Nat) (w30 : Int32) (w31 : Int32) (st29 : PS) (H : Heap) (locs : List Loc) (ls : Array Slot), JI D (aA am 24) (mW am cI cZ) s.heap st29 H locs → lv_has ls 10 [(0, .ref (am 0)), (1, .int x1), (2, .int x2), (3, .int x3), (4, .int y12), (5, .int w20), (6, .int w14), (7, .int w21), (8, .int w30), (9, .int w31)] → iter (fun q => jm_X9_odds_L119 N x1 x2 y12 w20 w21 q.1 q.2.1 q.2.2) n (w30, w31, st29) = some z1 → W p l e (headSpec wsX9_odds { frames := 3, cells := 0, slots := 0, locals := 68 }).room s m AV below meth c H locs 0 0 (MQ below (JQ D (aA am 24) (mW am cI cZ) (mTy cI cZ) (some (.int rZ)) stZ) AV s 0 0 (aA am 24)) (F0 m 119 ls []) := by
                        intro n
                        induction n with
                        | zero =>
                          intro _ _ _ _ _ _ _ _ hM
                          exact absurd hM (fun h => iter_zero h)
                        | succ n ih2 =>
                          intro w30 w31 st29 H locs ls hI hl hM
                          obtain ⟨z2, hM, hk2⟩ := iter_succ hM
                          replace hM : jm_X9_odds_L119 N x1 x2 y12 w20 w21 w30 w31 st29 = some z2 := hM
                          unfold jm_X9_odds_L119 at hM
                          refine lv_iload hx hb dX9_odds_119 (lv_at hl 9 rfl) ?_
                          refine lv_aload_n hx hb dX9_odds_121 rfl (lv_at hl 0 rfl) ?_
                          refine va_get (D := D) (ci := 9) (v := .int (st29.1 0 19)) (C := RX9) (T := TX9) (N := 43) hx hb hts hi_X9_odds_X9 hown hK hI.1 0 (mg_0 am cI cZ st29) rfl 19 (by decide) f_1 (fun _ h9 => h9) rfl dX9_odds_122 ?_
                          refine lv_icmp_ge (tgt := 171) hx hb dX9_odds_125 (by decide) (fun c32 => ?_) (fun c32 => ?_)
                          · replace hM := if_t c32 hM
                            refine lv_aload_n hx hb dX9_odds_171 rfl (lv_at hl 0 rfl) ?_
                            refine va_get (D := D) (ci := 9) (v := .ref (am 14)) (C := RX9) (T := TX9) (N := 43) hx hb hts hi_X9_odds_X9 hown hK hI.1 0 (mg_0 am cI cZ st29) rfl 29 (by decide) f_2 (fun _ h9 => h9) rfl dX9_odds_172 ?_
                            refine lv_iconst (v := (2 : Int32)) hx hb dX9_odds_175 (by decide) ?_
                            refine lv_aload_n hx hb dX9_odds_176 rfl (lv_at hl 0 rfl) ?_
                            refine va_get (D := D) (ci := 9) (v := .ref (am 13)) (C := RX9) (T := TX9) (N := 43) hx hb hts hi_X9_odds_X9 hown hK hI.1 0 (mg_0 am cI cZ st29) rfl 28 (by decide) f_0 (fun _ h9 => h9) rfl dX9_odds_177 ?_
                            refine lv_iconst (v := (2 : Int32)) hx hb dX9_odds_180 (by decide) ?_
                            refine va_iald hx hb hK hI.1 13 0 (mg_13 am cI cZ st29) rfl (inB_vp rfl) dX9_odds_181 ?_
                            refine W.eq (g2 := F0 m 182 ls [.int (st29.1 13 2), .int (2 : Int32), .ref (am 14)]) rfl ?_
                            refine lv_iload hx hb dX9_odds_182 (lv_at hl 7 rfl) ?_
                            refine lv_ior hx hb dX9_odds_184 ?_
                            refine jiast (x := ((st29.1 13 2) ||| w21)) (st2 := pU st29 14 2 (((st29.1 13 2) ||| w21))) hx hb hK (mD hj) hI 14 0 (mg_14 am cI cZ st29) rfl (inB_vp rfl) (ms_14 am cI cZ st29 _) dX9_odds_185 (fun st33 est33 H locs hI => ?_)
                            replace hM := nm_at est33 hM
                            refine lv_iload hx hb dX9_odds_186 (lv_at hl 5 rfl) ?_
                            refine lv_aload_n hx hb dX9_odds_188 rfl (lv_at hl 0 rfl) ?_
                            refine lv_aload_n hx hb dX9_odds_189 rfl (lv_at hl 0 rfl) ?_
                            refine va_get (D := D) (ci := 9) (v := .ref (am 14)) (C := RX9) (T := TX9) (N := 43) hx hb hts hi_X9_odds_X9 hown hK hI.1 0 (mg_0 am cI cZ st33) rfl 29 (by decide) f_2 (fun _ h9 => h9) rfl dX9_odds_190 ?_
                            refine lv_iload_n hx hb dX9_odds_193 rfl (lv_at hl 1 rfl) ?_
                            obtain ⟨v34, st35, hqv34, hM⟩ := bd_at hM
                            refine jcallV (C := RX9) (As := [.ref (am 14), .int x1]) (rest := [.int w20]) ⟨hx, hb, hml, hown, hts⟩ (jw_X9_height D am cI cZ hj N (show mk_Of 14 by decide) hqv34) (cwV 2 hts gX9_odds_X9_height rfl rfl rfl yd_X9_height ⟨Nat.le_of_ble_eq_true rfl, Nat.le_of_ble_eq_true rfl⟩) hK hI 0 (mg_0 am cI cZ st33) rfl rfl hl.1 rfl (Nat.le_of_ble_eq_true rfl) dX9_odds_194 (fun H locs hI => ?_)
                            refine W.eq (g2 := F0 m 197 ls [.int v34, .int w20]) rfl ?_
                            refine lv_if_ne (tgt := 205) hx hb dX9_odds_197 (by decide) (fun c36 => ?_) (fun c36 => ?_)
                            · replace hM := if_f c36 hM
                              refine lv_iconst (v := (0 : Int32)) hx hb dX9_odds_205 (by decide) ?_
                              refine lv_iadd hx hb dX9_odds_206 ?_
                              refine lv_istore (lv' := [(5, .int (w20 + (0 : Int32))), (0, .ref (am 0)), (1, .int x1), (2, .int x2), (3, .int x3), (4, .int y12), (6, .int w14), (7, .int w21), (8, .int w30), (9, .int w31)]) hx hb dX9_odds_207 hl (by decide) rfl (fun ls hl => ?_)
                              refine lv_iinc (v := (w21 + (1 : Int32))) (lv' := [(7, .int (w21 + (1 : Int32))), (5, .int (w20 + (0 : Int32))), (0, .ref (am 0)), (1, .int x1), (2, .int x2), (3, .int x3), (4, .int y12), (6, .int w14), (8, .int w30), (9, .int w31)]) hx hb dX9_odds_209 hl (k := 7) rfl rfl (by decide) rfl (fun ls hl => ?_)
                              refine lv_goto (tgt := 96) hx hb dX9_odds_212 (by decide) ?_
                              have hz := Option.some.inj hM
                              subst hz
                              have hz := kn_r hk2
                              subst hz
                              exact ih1 (w20 + (0 : Int32)) (w21 + (1 : Int32)) st35 _ _ _ hI (lv_sub hl [2, 3, 4, 5, 6, 1, 7, 0] rfl) hk1
                            · replace hM := if_t c36 hM
                              refine lv_iload hx hb dX9_odds_200 (lv_at hl 8 rfl) ?_
                              refine lv_goto (tgt := 206) hx hb dX9_odds_202 (by decide) ?_
                              refine lv_iadd hx hb dX9_odds_206 ?_
                              refine lv_istore (lv' := [(5, .int (w20 + w30)), (0, .ref (am 0)), (1, .int x1), (2, .int x2), (3, .int x3), (4, .int y12), (6, .int w14), (7, .int w21), (8, .int w30), (9, .int w31)]) hx hb dX9_odds_207 hl (by decide) rfl (fun ls hl => ?_)
                              refine lv_iinc (v := (w21 + (1 : Int32))) (lv' := [(7, .int (w21 + (1 : Int32))), (5, .int (w20 + w30)), (0, .ref (am 0)), (1, .int x1), (2, .int x2), (3, .int x3), (4, .int y12), (6, .int w14), (8, .int w30), (9, .int w31)]) hx hb dX9_odds_209 hl (k := 7) rfl rfl (by decide) rfl (fun ls hl => ?_)
                              refine lv_goto (tgt := 96) hx hb dX9_odds_212 (by decide) ?_
                              have hz := Option.some.inj hM
                              subst hz
                              have hz := kn_r hk2
                              subst hz
                              exact ih1 (w20 + w30) (w21 + (1 : Int32)) st35 _ _ _ hI (lv_sub hl [2, 3, 4, 5, 6, 1, 7, 0] rfl) hk1
                          · replace hM := if_f c32 hM
                            refine lv_iload hx hb dX9_odds_128 (lv_at hl 8 rfl) ?_
                            refine lv_iload hx hb dX9_odds_130 (lv_at hl 4 rfl) ?_
                            refine lv_iload hx hb dX9_odds_132 (lv_at hl 9 rfl) ?_
                            obtain ⟨v37, st38, hqv37, hM⟩ := bd_at hM
                            refine jcallS (As := [.int y12, .int w31]) (rest := [.int w30]) ⟨hx, hb, hml, hown, hts⟩ (jw_X9_has D am cI cZ hj N hqv37) (va_cwS 2 hts gX9_odds_X9_has rfl rfl rfl yd_X9_has ⟨Nat.le_of_ble_eq_true rfl, Nat.le_of_ble_eq_true rfl⟩) hK hI rfl hl.1 rfl (Nat.le_of_ble_eq_true rfl) dX9_odds_134 (fun H locs hI => ?_)
                            refine W.eq (g2 := F0 m 137 ls [.int v37, .int w30]) rfl ?_
                            refine lv_if_ne (tgt := 144) hx hb dX9_odds_137 (by decide) (fun c39 => ?_) (fun c39 => ?_)
                            · replace hM := if_f c39 hM
                              refine lv_iload hx hb dX9_odds_144 (lv_at hl 7 rfl) ?_
                              refine lv_iload hx hb dX9_odds_146 (lv_at hl 9 rfl) ?_
                              obtain ⟨v40, st41, hqv40, hM⟩ := bd_at hM
                              refine jcallS (As := [.int w21, .int w31]) (rest := [.int w30]) ⟨hx, hb, hml, hown, hts⟩ (jw_X9_has D am cI cZ hj N hqv40) (va_cwS 2 hts gX9_odds_X9_has rfl rfl rfl yd_X9_has ⟨Nat.le_of_ble_eq_true rfl, Nat.le_of_ble_eq_true rfl⟩) hK hI rfl hl.1 rfl (Nat.le_of_ble_eq_true rfl) dX9_odds_148 (fun H locs hI => ?_)
                              refine W.eq (g2 := F0 m 151 ls [.int v40, .int w30]) rfl ?_
                              refine lv_if_eq (tgt := 158) hx hb dX9_odds_151 (by decide) (fun c42 => ?_) (fun c42 => ?_)
                              · replace hM := if_t c42 hM
                                refine lv_bipush (v := (10 : Int32)) hx hb dX9_odds_158 (by decide) ?_
                                refine lv_iload_n hx hb dX9_odds_160 rfl (lv_at hl 2 rfl) ?_
                                refine lv_isub hx hb dX9_odds_161 ?_
                                refine lv_imul hx hb dX9_odds_162 ?_
                                refine lv_istore (lv' := [(8, .int (w30 * ((10 : Int32) - x2))), (0, .ref (am 0)), (1, .int x1), (2, .int x2), (3, .int x3), (4, .int y12), (5, .int w20), (6, .int w14), (7, .int w21), (9, .int w31)]) hx hb dX9_odds_163 hl (by decide) rfl (fun ls hl => ?_)
                                refine lv_iinc (v := (w31 + (1 : Int32))) (lv' := [(9, .int (w31 + (1 : Int32))), (8, .int (w30 * ((10 : Int32) - x2))), (0, .ref (am 0)), (1, .int x1), (2, .int x2), (3, .int x3), (4, .int y12), (5, .int w20), (6, .int w14), (7, .int w21)]) hx hb dX9_odds_165 hl (k := 9) rfl rfl (by decide) rfl (fun ls hl => ?_)
                                refine lv_goto (tgt := 119) hx hb dX9_odds_168 (by decide) ?_
                                have hz := Option.some.inj hM
                                subst hz
                                exact ih2 (w30 * ((10 : Int32) - x2)) (w31 + (1 : Int32)) st41 _ _ _ hI (lv_sub hl [2, 3, 4, 5, 6, 7, 8, 9, 1, 0] rfl) hk2
                              · replace hM := if_f c42 hM
                                refine lv_iload_n hx hb dX9_odds_154 rfl (lv_at hl 2 rfl) ?_
                                refine lv_goto (tgt := 162) hx hb dX9_odds_155 (by decide) ?_
                                refine lv_imul hx hb dX9_odds_162 ?_
                                refine lv_istore (lv' := [(8, .int (w30 * x2)), (0, .ref (am 0)), (1, .int x1), (2, .int x2), (3, .int x3), (4, .int y12), (5, .int w20), (6, .int w14), (7, .int w21), (9, .int w31)]) hx hb dX9_odds_163 hl (by decide) rfl (fun ls hl => ?_)
                                refine lv_iinc (v := (w31 + (1 : Int32))) (lv' := [(9, .int (w31 + (1 : Int32))), (8, .int (w30 * x2)), (0, .ref (am 0)), (1, .int x1), (2, .int x2), (3, .int x3), (4, .int y12), (5, .int w20), (6, .int w14), (7, .int w21)]) hx hb dX9_odds_165 hl (k := 9) rfl rfl (by decide) rfl (fun ls hl => ?_)
                                refine lv_goto (tgt := 119) hx hb dX9_odds_168 (by decide) ?_
                                have hz := Option.some.inj hM
                                subst hz
                                exact ih2 (w30 * x2) (w31 + (1 : Int32)) st41 _ _ _ hI (lv_sub hl [2, 3, 4, 5, 6, 7, 8, 9, 1, 0] rfl) hk2
                            · replace hM := if_t c39 hM
                              refine lv_iconst (v := (1 : Int32)) hx hb dX9_odds_140 (by decide) ?_
                              refine lv_goto (tgt := 162) hx hb dX9_odds_141 (by decide) ?_
                              refine lv_imul hx hb dX9_odds_162 ?_
                              refine lv_istore (lv' := [(8, .int (w30 * (1 : Int32))), (0, .ref (am 0)), (1, .int x1), (2, .int x2), (3, .int x3), (4, .int y12), (5, .int w20), (6, .int w14), (7, .int w21), (9, .int w31)]) hx hb dX9_odds_163 hl (by decide) rfl (fun ls hl => ?_)
                              refine lv_iinc (v := (w31 + (1 : Int32))) (lv' := [(9, .int (w31 + (1 : Int32))), (8, .int (w30 * (1 : Int32))), (0, .ref (am 0)), (1, .int x1), (2, .int x2), (3, .int x3), (4, .int y12), (5, .int w20), (6, .int w14), (7, .int w21)]) hx hb dX9_odds_165 hl (k := 9) rfl rfl (by decide) rfl (fun ls hl => ?_)
                              refine lv_goto (tgt := 119) hx hb dX9_odds_168 (by decide) ?_
                              have hz := Option.some.inj hM
                              subst hz
                              exact ih2 (w30 * (1 : Int32)) (w31 + (1 : Int32)) st38 _ _ _ hI (lv_sub hl [2, 3, 4, 5, 6, 7, 8, 9, 1, 0] rfl) hk2
                      exact lp2 N (1 : Int32) (0 : Int32) st19 _ _ _ hI (lv_sub hl [2, 3, 4, 5, 6, 7, 8, 9, 1, 0] rfl) hM
              exact lp1 N (0 : Int32) (0 : Int32) st18 _ _ _ hI (lv_sub hl [1, 2, 3, 4, 5, 6, 7, 0] rfl) hM
            · replace hM := if_f c16 hM
              refine lv_iload hx hb dX9_odds_62 (lv_at hl 6 rfl) ?_
              refine lv_iload hx hb dX9_odds_64 (lv_at hl 4 rfl) ?_
              refine lv_iload hx hb dX9_odds_66 (lv_at hl 7 rfl) ?_
              obtain ⟨v43, st44, hqv43, hM⟩ := bd_at hM
              refine jcallS (As := [.int y12, .int w15]) (rest := [.int w14]) ⟨hx, hb, hml, hown, hts⟩ (jw_X9_has D am cI cZ hj N hqv43) (va_cwS 2 hts gX9_odds_X9_has rfl rfl rfl yd_X9_has ⟨Nat.le_of_ble_eq_true rfl, Nat.le_of_ble_eq_true rfl⟩) hK hI rfl hl.1 rfl (Nat.le_of_ble_eq_true rfl) dX9_odds_68 (fun H locs hI => ?_)
              refine W.eq (g2 := F0 m 71 ls [.int v43, .int w14]) rfl ?_
              refine lv_if_eq (tgt := 79) hx hb dX9_odds_71 (by decide) (fun c45 => ?_) (fun c45 => ?_)
              · replace hM := if_t c45 hM
                refine lv_iconst (v := (1 : Int32)) hx hb dX9_odds_79 (by decide) ?_
                refine lv_imul hx hb dX9_odds_80 ?_
                refine lv_istore (lv' := [(6, .int (w14 * (1 : Int32))), (0, .ref (am 0)), (1, .int x1), (2, .int x2), (3, .int x3), (4, .int y12), (5, .int (0 : Int32)), (7, .int w15)]) hx hb dX9_odds_81 hl (by decide) rfl (fun ls hl => ?_)
                refine lv_iinc (v := (w15 + (1 : Int32))) (lv' := [(7, .int (w15 + (1 : Int32))), (6, .int (w14 * (1 : Int32))), (0, .ref (am 0)), (1, .int x1), (2, .int x2), (3, .int x3), (4, .int y12), (5, .int (0 : Int32))]) hx hb dX9_odds_83 hl (k := 7) rfl rfl (by decide) rfl (fun ls hl => ?_)
                refine lv_goto (tgt := 53) hx hb dX9_odds_86 (by decide) ?_
                have hz := Option.some.inj hM
                subst hz
                exact ih0 (w14 * (1 : Int32)) (w15 + (1 : Int32)) st44 _ _ _ hI (lv_sub hl [2, 3, 4, 5, 6, 7, 1, 0] rfl) hk0
              · replace hM := if_f c45 hM
                refine lv_bipush (v := (10 : Int32)) hx hb dX9_odds_74 (by decide) ?_
                refine lv_goto (tgt := 80) hx hb dX9_odds_76 (by decide) ?_
                refine lv_imul hx hb dX9_odds_80 ?_
                refine lv_istore (lv' := [(6, .int (w14 * (10 : Int32))), (0, .ref (am 0)), (1, .int x1), (2, .int x2), (3, .int x3), (4, .int y12), (5, .int (0 : Int32)), (7, .int w15)]) hx hb dX9_odds_81 hl (by decide) rfl (fun ls hl => ?_)
                refine lv_iinc (v := (w15 + (1 : Int32))) (lv' := [(7, .int (w15 + (1 : Int32))), (6, .int (w14 * (10 : Int32))), (0, .ref (am 0)), (1, .int x1), (2, .int x2), (3, .int x3), (4, .int y12), (5, .int (0 : Int32))]) hx hb dX9_odds_83 hl (k := 7) rfl rfl (by decide) rfl (fun ls hl => ?_)
                refine lv_goto (tgt := 53) hx hb dX9_odds_86 (by decide) ?_
                have hz := Option.some.inj hM
                subst hz
                exact ih0 (w14 * (10 : Int32)) (w15 + (1 : Int32)) st44 _ _ _ hI (lv_sub hl [2, 3, 4, 5, 6, 7, 1, 0] rfl) hk0
        exact lp0 N (1 : Int32) (0 : Int32) st11 _ _ _ hI (lv_sub hl [4, 5, 6, 7, 3, 2, 1, 0] rfl) hM
      · replace hM := if_t c9 hM
        refine lv_iconst (v := (-1 : Int32)) hx hb dX9_odds_27 (by decide) ?_
        have hz := Option.some.inj hM
        exact W.iret hx hb hr (fun t ht hW => jq_i hK hI hz ht hW) hI.2.2.2 dX9_odds_28
set_option maxRecDepth 20000 in
theorem hi_X9_saw_X9 : ∀ w ∈ wsX90, w ∈ wsX9_saw := by decide +kernel
set_option maxHeartbeats 4000000 in
set_option maxRecDepth 100000 in
theorem jw_X9_saw {l : Launch} (D : va_G) (am : Nat → Nat) (cI cZ : ClassId) (hj : aJ am 24) (N : Nat) {x1 : Int32} {x2 : Int32} {st stZ : PS} {rZ : Int32} (hM : jm_X9_saw N x1 x2 st = some (rZ, stZ)) : Met l yX9_saw wsX9_saw ({ frames := 2, cells := 0, slots := 0, locals := 43 }) (va_Pc [.ref (am 0), .int x1, .int x2] (JH D (mW am cI cZ) (mTy cI cZ) st)) (JQ D (aA am 24) (mW am cI cZ) (mTy cI cZ) (some (.int rZ)) stZ) 0 0 (aA am 24) := by
  refine jStart (cc := cX9_saw) (maxL := 3) (ret := (some .int)) [.ref (am 0), .int x1, .int x2] (by decide) rfl (Nat.le_of_ble_eq_true rfl) (fun p e s m below meth c ls hx hb hr hlocks hts hown hml hK hI hl => ?_)
  have hown : s.vm.findClass RX9 = some m.cls := hown
  replace hl : lv_has ls 3 [(0, .ref (am 0)), (1, .int x1), (2, .int x2)] := hl
  generalize hAV : ([.ref (am 0), .int x1, .int x2] : List Value).toArray = AV at hts ⊢
  have f_0 := hts (.fieldLink RX9 184 "PuppetBarModel" "seenMany" "I") (by decide +kernel)
  have f_1 := hts (.fieldLink RX9 58 "PuppetBarModel" "seenLimb" "[I") (by decide +kernel)
  have f_2 := hts (.fieldLink RX9 61 "PuppetBarModel" "seenHigh" "[I") (by decide +kernel)
  unfold jm_X9_saw at hM
  refine lv_aload_n hx hb dX9_saw_0 rfl (lv_at hl 0 rfl) ?_
  refine lv_iload_n hx hb dX9_saw_1 rfl (lv_at hl 1 rfl) ?_
  obtain ⟨v1, st2, hqv1, hM⟩ := bd_at hM
  refine jcallV (C := RX9) (As := [.int x1]) (rest := []) ⟨hx, hb, hml, hown, hts⟩ (jw_X9_isLimb D am cI cZ hj N hqv1) (cwV 1 hts gX9_saw_X9_isLimb rfl rfl rfl yd_X9_isLimb ⟨Nat.le_of_ble_eq_true rfl, Nat.le_of_ble_eq_true rfl⟩) hK hI 0 (mg_0 am cI cZ st) rfl rfl hl.1 rfl (Nat.le_of_ble_eq_true rfl) dX9_saw_2 (fun H locs hI => ?_)
  refine W.eq (g2 := F0 m 5 ls [.int v1]) rfl ?_
  refine lv_if_eq (tgt := 18) hx hb dX9_saw_5 (by decide) (fun c3 => ?_) (fun c3 => ?_)
  · replace hM := if_t c3 hM
    refine lv_iconst (v := (-1 : Int32)) hx hb dX9_saw_18 (by decide) ?_
    have hz := Option.some.inj hM
    exact W.iret hx hb hr (fun t ht hW => jq_i hK hI hz ht hW) hI.2.2.2 dX9_saw_19
  · replace hM := if_f c3 hM
    refine lv_iload_n hx hb dX9_saw_8 rfl (lv_at hl 2 rfl) ?_
    refine lv_iconst (v := (0 : Int32)) hx hb dX9_saw_9 (by decide) ?_
    refine lv_bipush (v := (49 : Int32)) hx hb dX9_saw_10 (by decide) ?_
    obtain ⟨v4, st5, hqv4, hM⟩ := bd_at hM
    refine jcallS (As := [.int x2, .int (0 : Int32), .int (49 : Int32)]) (rest := []) ⟨hx, hb, hml, hown, hts⟩ (jw_X9_in D am cI cZ hj N hqv4) (va_cwS 3 hts gX9_saw_X9_in rfl rfl rfl yd_X9_in ⟨Nat.le_of_ble_eq_true rfl, Nat.le_of_ble_eq_true rfl⟩) hK hI rfl hl.1 rfl (Nat.le_of_ble_eq_true rfl) dX9_saw_12 (fun H locs hI => ?_)
    refine W.eq (g2 := F0 m 15 ls [.int v4]) rfl ?_
    refine lv_if_ne (tgt := 20) hx hb dX9_saw_15 (by decide) (fun c6 => ?_) (fun c6 => ?_)
    · replace hM := if_f c6 hM
      refine lv_aload_n hx hb dX9_saw_20 rfl (lv_at hl 0 rfl) ?_
      refine va_get (D := D) (ci := 9) (v := .int (st5.1 0 34)) (C := RX9) (T := TX9) (N := 43) hx hb hts hi_X9_saw_X9 hown hK hI.1 0 (mg_0 am cI cZ st5) rfl 34 (by decide) f_0 (fun _ h9 => h9) rfl dX9_saw_21 ?_
      refine lv_bipush (v := (6 : Int32)) hx hb dX9_saw_24 (by decide) ?_
      refine lv_icmp_ne (tgt := 32) hx hb dX9_saw_26 (by decide) (fun c7 => ?_) (fun c7 => ?_)
      · replace hM := if_f c7 hM
        refine lv_aload_n hx hb dX9_saw_32 rfl (lv_at hl 0 rfl) ?_
        refine va_get (D := D) (ci := 9) (v := .ref (am 17)) (C := RX9) (T := TX9) (N := 43) hx hb hts hi_X9_saw_X9 hown hK hI.1 0 (mg_0 am cI cZ st5) rfl 35 (by decide) f_1 (fun _ h9 => h9) rfl dX9_saw_33 ?_
        refine lv_aload_n hx hb dX9_saw_36 rfl (lv_at hl 0 rfl) ?_
        refine va_get (D := D) (ci := 9) (v := .int (st5.1 0 34)) (C := RX9) (T := TX9) (N := 43) hx hb hts hi_X9_saw_X9 hown hK hI.1 0 (mg_0 am cI cZ st5) rfl 34 (by decide) f_0 (fun _ h9 => h9) rfl dX9_saw_37 ?_
        refine lv_iload_n hx hb dX9_saw_40 rfl (lv_at hl 1 rfl) ?_
        obtain ⟨g9, hM⟩ := gd_at hM
        refine jiast (x := x1) (st2 := pU st5 17 ((st5.1 0 34)).toNatClampNeg (x1)) hx hb hK (mD hj) hI 17 0 (mg_17 am cI cZ st5) rfl (inB_vp g9) (ms_17 am cI cZ st5 _) dX9_saw_41 (fun st8 est8 H locs hI => ?_)
        replace hM := nm_at est8 hM
        refine lv_aload_n hx hb dX9_saw_42 rfl (lv_at hl 0 rfl) ?_
        refine va_get (D := D) (ci := 9) (v := .ref (am 18)) (C := RX9) (T := TX9) (N := 43) hx hb hts hi_X9_saw_X9 hown hK hI.1 0 (mg_0 am cI cZ st8) rfl 36 (by decide) f_2 (fun _ h9 => h9) rfl dX9_saw_43 ?_
        refine lv_aload_n hx hb dX9_saw_46 rfl (lv_at hl 0 rfl) ?_
        refine va_get (D := D) (ci := 9) (v := .int (st8.1 0 34)) (C := RX9) (T := TX9) (N := 43) hx hb hts hi_X9_saw_X9 hown hK hI.1 0 (mg_0 am cI cZ st8) rfl 34 (by decide) f_0 (fun _ h9 => h9) rfl dX9_saw_47 ?_
        refine lv_iload_n hx hb dX9_saw_50 rfl (lv_at hl 2 rfl) ?_
        obtain ⟨g11, hM⟩ := gd_at hM
        refine jiast (x := x2) (st2 := pU st8 18 ((st8.1 0 34)).toNatClampNeg (x2)) hx hb hK (mD hj) hI 18 0 (mg_18 am cI cZ st8) rfl (inB_vp g11) (ms_18 am cI cZ st8 _) dX9_saw_51 (fun st10 est10 H locs hI => ?_)
        replace hM := nm_at est10 hM
        refine lv_aload_n hx hb dX9_saw_52 rfl (lv_at hl 0 rfl) ?_
        refine lv_dup hx hb dX9_saw_53 rfl ?_
        refine va_get (D := D) (ci := 9) (v := .int (st10.1 0 34)) (C := RX9) (T := TX9) (N := 43) hx hb hts hi_X9_saw_X9 hown hK hI.1 0 (mg_0 am cI cZ st10) rfl 34 (by decide) f_0 (fun _ h9 => h9) rfl dX9_saw_54 ?_
        refine lv_iconst (v := (1 : Int32)) hx hb dX9_saw_57 (by decide) ?_
        refine lv_iadd hx hb dX9_saw_58 ?_
        refine jput (D := D) (ci := 9) (v := .int ((st10.1 0 34) + (1 : Int32))) (ty := .int) (C := RX9) (T := TX9) (N := 43) (st2 := pU st10 0 34 ((st10.1 0 34) + (1 : Int32))) hx hb hts hi_X9_saw_X9 tyX9 tyX9_ok nmX9 hown hK (mD hj) hI 0 (mg_0 am cI cZ st10) rfl 34 (by decide) f_0 (fun _ h9 => h9) rfl (by decide +kernel) rfl rfl (Nat.le_of_ble_eq_true rfl) (ms_0_34 am cI cZ st10 _) dX9_saw_59 (fun st12 est12 H locs hI => ?_)
        replace hM := nm_at est12 hM
        refine lv_aload_n hx hb dX9_saw_62 rfl (lv_at hl 0 rfl) ?_
        refine va_get (D := D) (ci := 9) (v := .int (st12.1 0 34)) (C := RX9) (T := TX9) (N := 43) hx hb hts hi_X9_saw_X9 hown hK hI.1 0 (mg_0 am cI cZ st12) rfl 34 (by decide) f_0 (fun _ h9 => h9) rfl dX9_saw_63 ?_
        have hz := Option.some.inj hM
        exact W.iret hx hb hr (fun t ht hW => jq_i hK hI hz ht hW) hI.2.2.2 dX9_saw_66
      · replace hM := if_t c7 hM
        refine lv_bipush (v := (-3 : Int32)) hx hb dX9_saw_29 (by decide) ?_
        have hz := Option.some.inj hM
        exact W.iret hx hb hr (fun t ht hW => jq_i hK hI hz ht hW) hI.2.2.2 dX9_saw_31
    · replace hM := if_t c6 hM
      refine lv_iconst (v := (-1 : Int32)) hx hb dX9_saw_18 (by decide) ?_
      have hz := Option.some.inj hM
      exact W.iret hx hb hr (fun t ht hW => jq_i hK hI hz ht hW) hI.2.2.2 dX9_saw_19
set_option maxRecDepth 20000 in
theorem hi_X9_forget_X9 : ∀ w ∈ wsX90, w ∈ wsX9_forget := by decide +kernel
set_option maxHeartbeats 4000000 in
set_option maxRecDepth 100000 in
theorem jw_X9_forget {l : Launch} (D : va_G) (am : Nat → Nat) (cI cZ : ClassId) (hj : aJ am 24) (N : Nat) {st stZ : PS} {rZ : Int32} (hM : jm_X9_forget N st = some (rZ, stZ)) : Met l yX9_forget wsX9_forget ({ frames := 0, cells := 0, slots := 0, locals := 0 }) (va_Pc [.ref (am 0)] (JH D (mW am cI cZ) (mTy cI cZ) st)) (JQ D (aA am 24) (mW am cI cZ) (mTy cI cZ) (some (.int rZ)) stZ) 0 0 (aA am 24) := by
  refine jStart (cc := cX9_forget) (maxL := 2) (ret := (some .int)) [.ref (am 0)] (by decide) rfl (Nat.le_of_ble_eq_true rfl) (fun p e s m below meth c ls hx hb hr hlocks hts hown hml hK hI hl => ?_)
  have hown : s.vm.findClass RX9 = some m.cls := hown
  replace hl : lv_has ls 2 [(0, .ref (am 0))] := hl
  generalize hAV : ([.ref (am 0)] : List Value).toArray = AV at hts ⊢
  have f_0 := hts (.fieldLink RX9 184 "PuppetBarModel" "seenMany" "I") (by decide +kernel)
  unfold jm_X9_forget at hM
  refine lv_aload_n hx hb dX9_forget_0 rfl (lv_at hl 0 rfl) ?_
  refine va_get (D := D) (ci := 9) (v := .int (st.1 0 34)) (C := RX9) (T := TX9) (N := 43) hx hb hts hi_X9_forget_X9 hown hK hI.1 0 (mg_0 am cI cZ st) rfl 34 (by decide) f_0 (fun _ h9 => h9) rfl dX9_forget_1 ?_
  refine lv_istore_n (lv' := [(1, .int (st.1 0 34)), (0, .ref (am 0))]) hx hb dX9_forget_4 rfl hl (by decide) rfl (fun ls hl => ?_)
  refine lv_aload_n hx hb dX9_forget_5 rfl (lv_at hl 1 rfl) ?_
  refine lv_iconst (v := (0 : Int32)) hx hb dX9_forget_6 (by decide) ?_
  refine jput (D := D) (ci := 9) (v := .int (0 : Int32)) (ty := .int) (C := RX9) (T := TX9) (N := 43) (st2 := pU st 0 34 (0 : Int32)) hx hb hts hi_X9_forget_X9 tyX9 tyX9_ok nmX9 hown hK (mD hj) hI 0 (mg_0 am cI cZ st) rfl 34 (by decide) f_0 (fun _ h9 => h9) rfl (by decide +kernel) rfl rfl (Nat.le_of_ble_eq_true rfl) (ms_0_34 am cI cZ st _) dX9_forget_7 (fun st1 est1 H locs hI => ?_)
  replace hM := nm_at est1 hM
  refine lv_iload_n hx hb dX9_forget_10 rfl (lv_at hl 0 rfl) ?_
  have hz := Option.some.inj hM
  exact W.iret hx hb hr (fun t ht hW => jq_i hK hI hz ht hW) hI.2.2.2 dX9_forget_11
set_option maxRecDepth 20000 in
theorem hi_X9_isSo_X9 : ∀ w ∈ wsX90, w ∈ wsX9_isSo := by decide +kernel
set_option maxHeartbeats 4000000 in
set_option maxRecDepth 100000 in
theorem jw_X9_isSo {l : Launch} (D : va_G) (am : Nat → Nat) (cI cZ : ClassId) (hj : aJ am 24) (N : Nat) {r1 : Nat} (h1 : mk_Of r1) {st stZ : PS} {rZ : Int32} (hM : jm_X9_isSo N r1 st = some (rZ, stZ)) : Met l yX9_isSo wsX9_isSo ({ frames := 3, cells := 0, slots := 0, locals := 68 }) (va_Pc [.ref (am 0), .ref (am r1)] (JH D (mW am cI cZ) (mTy cI cZ) st)) (JQ D (aA am 24) (mW am cI cZ) (mTy cI cZ) (some (.int rZ)) stZ) 0 0 (aA am 24) := by
  refine jStart (cc := cX9_isSo) (maxL := 4) (ret := (some .boolean)) [.ref (am 0), .ref (am r1)] (by decide) rfl (Nat.le_of_ble_eq_true rfl) (fun p e s m below meth c ls hx hb hr hlocks hts hown hml hK hI hl => ?_)
  have hown : s.vm.findClass RX9 = some m.cls := hown
  replace hl : lv_has ls 4 [(0, .ref (am 0)), (1, .ref (am r1))] := hl
  generalize hAV : ([.ref (am 0), .ref (am r1)] : List Value).toArray = AV at hts ⊢
  have f_0 := hts (.fieldLink RX9 184 "PuppetBarModel" "seenMany" "I") (by decide +kernel)
  have f_1 := hts (.fieldLink RX9 58 "PuppetBarModel" "seenLimb" "[I") (by decide +kernel)
  have f_2 := hts (.fieldLink RX9 61 "PuppetBarModel" "seenHigh" "[I") (by decide +kernel)
  unfold jm_X9_isSo at hM
  refine lv_iconst (v := (1 : Int32)) hx hb dX9_isSo_0 (by decide) ?_
  refine lv_istore_n (lv' := [(2, .int (1 : Int32)), (0, .ref (am 0)), (1, .ref (am r1))]) hx hb dX9_isSo_1 rfl hl (by decide) rfl (fun ls hl => ?_)
  refine lv_iconst (v := (0 : Int32)) hx hb dX9_isSo_2 (by decide) ?_
  refine lv_istore_n (lv' := [(3, .int (0 : Int32)), (2, .int (1 : Int32)), (0, .ref (am 0)), (1, .ref (am r1))]) hx hb dX9_isSo_3 rfl hl (by decide) rfl (fun ls hl => ?_)
  have lp0 : ∀ (n : Nat) (w2 : Int32) (w3 : Int32) (st1 : PS) (H : Heap) (locs : List Loc) (ls : Array Slot), JI D (aA am 24) (mW am cI cZ) s.heap st1 H locs → lv_has ls 4 [(0, .ref (am 0)), (1, .ref (am r1)), (2, .int w2), (3, .int w3)] → iter (fun q => jm_X9_isSo_L4 N r1 q.1 q.2.1 q.2.2) n (w2, w3, st1) = some (rZ, stZ) → W p l e (headSpec wsX9_isSo { frames := 3, cells := 0, slots := 0, locals := 68 }).room s m AV below meth c H locs 0 0 (MQ below (JQ D (aA am 24) (mW am cI cZ) (mTy cI cZ) (some (.int rZ)) stZ) AV s 0 0 (aA am 24)) (F0 m 4 ls []) := by
    intro n
    induction n with
    | zero =>
      intro _ _ _ _ _ _ _ _ hM
      exact absurd hM (fun h => iter_zero h)
    | succ n ih0 =>
      intro w2 w3 st1 H locs ls hI hl hM
      obtain ⟨z0, hM, hk0⟩ := iter_succ hM
      replace hM : jm_X9_isSo_L4 N r1 w2 w3 st1 = some z0 := hM
      unfold jm_X9_isSo_L4 at hM
      refine lv_iload_n hx hb dX9_isSo_4 rfl (lv_at hl 3 rfl) ?_
      refine lv_aload_n hx hb dX9_isSo_5 rfl (lv_at hl 0 rfl) ?_
      refine va_get (D := D) (ci := 9) (v := .int (st1.1 0 34)) (C := RX9) (T := TX9) (N := 43) hx hb hts hi_X9_isSo_X9 hown hK hI.1 0 (mg_0 am cI cZ st1) rfl 34 (by decide) f_0 (fun _ h9 => h9) rfl dX9_isSo_6 ?_
      refine lv_icmp_ge (tgt := 48) hx hb dX9_isSo_9 (by decide) (fun c4 => ?_) (fun c4 => ?_)
      · replace hM := if_t c4 hM
        refine lv_iload_n hx hb dX9_isSo_48 rfl (lv_at hl 2 rfl) ?_
        obtain ⟨g5, hM⟩ := gd_at hM
        have hz := Option.some.inj hM
        subst hz
        have hz := kn_r hk0
        exact W.zret hx hb hr (isZ_n g5) (fun t ht hW => jq_i hK hI hz ht hW) hI.2.2.2 dX9_isSo_49
      · replace hM := if_f c4 hM
        refine lv_iload_n hx hb dX9_isSo_12 rfl (lv_at hl 2 rfl) ?_
        refine lv_if_eq (tgt := 40) hx hb dX9_isSo_13 (by decide) (fun c6 => ?_) (fun c6 => ?_)
        · replace hM := if_t c6 hM
          refine lv_iconst (v := (0 : Int32)) hx hb dX9_isSo_40 (by decide) ?_
          refine lv_istore_n (lv' := [(2, .int (0 : Int32)), (0, .ref (am 0)), (1, .ref (am r1)), (3, .int w3)]) hx hb dX9_isSo_41 rfl hl (by decide) rfl (fun ls hl => ?_)
          refine lv_iinc (v := (w3 + (1 : Int32))) (lv' := [(3, .int (w3 + (1 : Int32))), (2, .int (0 : Int32)), (0, .ref (am 0)), (1, .ref (am r1))]) hx hb dX9_isSo_42 hl (k := 3) rfl rfl (by decide) rfl (fun ls hl => ?_)
          refine lv_goto (tgt := 4) hx hb dX9_isSo_45 (by decide) ?_
          have hz := Option.some.inj hM
          subst hz
          exact ih0 (0 : Int32) (w3 + (1 : Int32)) st1 _ _ _ hI (lv_sub hl [2, 3, 1, 0] rfl) hk0
        · replace hM := if_f c6 hM
          refine lv_aload_n hx hb dX9_isSo_16 rfl (lv_at hl 0 rfl) ?_
          refine lv_aload_n hx hb dX9_isSo_17 rfl (lv_at hl 1 rfl) ?_
          refine lv_aload_n hx hb dX9_isSo_18 rfl (lv_at hl 0 rfl) ?_
          refine va_get (D := D) (ci := 9) (v := .ref (am 17)) (C := RX9) (T := TX9) (N := 43) hx hb hts hi_X9_isSo_X9 hown hK hI.1 0 (mg_0 am cI cZ st1) rfl 35 (by decide) f_1 (fun _ h9 => h9) rfl dX9_isSo_19 ?_
          refine lv_iload_n hx hb dX9_isSo_22 rfl (lv_at hl 3 rfl) ?_
          obtain ⟨g7, hM⟩ := gd_at hM
          refine va_iald hx hb hK hI.1 17 0 (mg_17 am cI cZ st1) rfl (inB_vp g7) dX9_isSo_23 ?_
          obtain ⟨v8, st9, hqv8, hM⟩ := bd_at hM
          refine jcallV (C := RX9) (As := [.ref (am r1), .int (st1.1 17 (w3).toNatClampNeg)]) (rest := []) ⟨hx, hb, hml, hown, hts⟩ (jw_X9_height D am cI cZ hj N h1 hqv8) (cwV 2 hts gX9_isSo_X9_height rfl rfl rfl yd_X9_height ⟨Nat.le_of_ble_eq_true rfl, Nat.le_of_ble_eq_true rfl⟩) hK hI 0 (mg_0 am cI cZ st1) rfl rfl hl.1 rfl (Nat.le_of_ble_eq_true rfl) dX9_isSo_24 (fun H locs hI => ?_)
          refine W.eq (g2 := F0 m 27 ls [.int v8]) rfl ?_
          refine lv_aload_n hx hb dX9_isSo_27 rfl (lv_at hl 0 rfl) ?_
          refine va_get (D := D) (ci := 9) (v := .ref (am 18)) (C := RX9) (T := TX9) (N := 43) hx hb hts hi_X9_isSo_X9 hown hK hI.1 0 (mg_0 am cI cZ st9) rfl 36 (by decide) f_2 (fun _ h9 => h9) rfl dX9_isSo_28 ?_
          refine lv_iload_n hx hb dX9_isSo_31 rfl (lv_at hl 3 rfl) ?_
          obtain ⟨g10, hM⟩ := gd_at hM
          refine va_iald hx hb hK hI.1 18 0 (mg_18 am cI cZ st9) rfl (inB_vp g10) dX9_isSo_32 ?_
          refine lv_icmp_ne (tgt := 40) hx hb dX9_isSo_33 (by decide) (fun c11 => ?_) (fun c11 => ?_)
          · replace hM := if_f c11 hM
            refine lv_iconst (v := (0 : Int32)) hx hb dX9_isSo_40 (by decide) ?_
            refine lv_istore_n (lv' := [(2, .int (0 : Int32)), (0, .ref (am 0)), (1, .ref (am r1)), (3, .int w3)]) hx hb dX9_isSo_41 rfl hl (by decide) rfl (fun ls hl => ?_)
            refine lv_iinc (v := (w3 + (1 : Int32))) (lv' := [(3, .int (w3 + (1 : Int32))), (2, .int (0 : Int32)), (0, .ref (am 0)), (1, .ref (am r1))]) hx hb dX9_isSo_42 hl (k := 3) rfl rfl (by decide) rfl (fun ls hl => ?_)
            refine lv_goto (tgt := 4) hx hb dX9_isSo_45 (by decide) ?_
            have hz := Option.some.inj hM
            subst hz
            exact ih0 (0 : Int32) (w3 + (1 : Int32)) st9 _ _ _ hI (lv_sub hl [2, 3, 1, 0] rfl) hk0
          · replace hM := if_t c11 hM
            refine lv_iconst (v := (1 : Int32)) hx hb dX9_isSo_36 (by decide) ?_
            refine lv_goto (tgt := 41) hx hb dX9_isSo_37 (by decide) ?_
            refine lv_istore_n (lv' := [(2, .int (1 : Int32)), (0, .ref (am 0)), (1, .ref (am r1)), (3, .int w3)]) hx hb dX9_isSo_41 rfl hl (by decide) rfl (fun ls hl => ?_)
            refine lv_iinc (v := (w3 + (1 : Int32))) (lv' := [(3, .int (w3 + (1 : Int32))), (2, .int (1 : Int32)), (0, .ref (am 0)), (1, .ref (am r1))]) hx hb dX9_isSo_42 hl (k := 3) rfl rfl (by decide) rfl (fun ls hl => ?_)
            refine lv_goto (tgt := 4) hx hb dX9_isSo_45 (by decide) ?_
            have hz := Option.some.inj hM
            subst hz
            exact ih0 (1 : Int32) (w3 + (1 : Int32)) st9 _ _ _ hI (lv_sub hl [2, 3, 1, 0] rfl) hk0
  exact lp0 N (1 : Int32) (0 : Int32) st _ _ _ hI (lv_sub hl [2, 3, 1, 0] rfl) hM
set_option maxRecDepth 20000 in
theorem hi_X9_without_X9 : ∀ w ∈ wsX90, w ∈ wsX9_without := by decide +kernel
set_option maxHeartbeats 4000000 in
set_option maxRecDepth 100000 in
theorem jw_X9_without {l : Launch} (D : va_G) (am : Nat → Nat) (cI cZ : ClassId) (hj : aJ am 24) (N : Nat) {x1 : Int32} {st stZ : PS} {rZ : Unit} (hM : jm_X9_without N x1 st = some (rZ, stZ)) : Met l yX9_without wsX9_without ({ frames := 1, cells := 0, slots := 0, locals := 21 }) (va_Pc [.ref (am 0), .int x1] (JH D (mW am cI cZ) (mTy cI cZ) st)) (JQ D (aA am 24) (mW am cI cZ) (mTy cI cZ) none stZ) 0 0 (aA am 24) := by
  refine jStart (cc := cX9_without) (maxL := 2) (ret := none) [.ref (am 0), .int x1] (by decide) rfl (Nat.le_of_ble_eq_true rfl) (fun p e s m below meth c ls hx hb hr hlocks hts hown hml hK hI hl => ?_)
  have hown : s.vm.findClass RX9 = some m.cls := hown
  replace hl : lv_has ls 2 [(0, .ref (am 0)), (1, .int x1)] := hl
  generalize hAV : ([.ref (am 0), .int x1] : List Value).toArray = AV at hts ⊢
  have f_0 := hts (.fieldLink RX9 49 "PuppetBarModel" "tried" "[I") (by decide +kernel)
  unfold jm_X9_without at hM
  refine lv_aload_n hx hb dX9_without_0 rfl (lv_at hl 0 rfl) ?_
  obtain ⟨v1, st2, hqv1, hM⟩ := bd_at hM
  refine jcallV (C := RX9) (As := []) (rest := []) ⟨hx, hb, hml, hown, hts⟩ (jw_X9_copyNow D am cI cZ hj N hqv1) (cwV 0 hts gX9_without_X9_copyNow rfl rfl rfl yd_X9_copyNow ⟨Nat.le_of_ble_eq_true rfl, Nat.le_of_ble_eq_true rfl⟩) hK hI 0 (mg_0 am cI cZ st) rfl rfl hl.1 rfl (Nat.le_of_ble_eq_true rfl) dX9_without_1 (fun H locs hI => ?_)
  refine W.eq (g2 := F0 m 4 ls []) rfl ?_
  refine lv_aload_n hx hb dX9_without_4 rfl (lv_at hl 0 rfl) ?_
  refine va_get (D := D) (ci := 9) (v := .ref (am 14)) (C := RX9) (T := TX9) (N := 43) hx hb hts hi_X9_without_X9 hown hK hI.1 0 (mg_0 am cI cZ st2) rfl 29 (by decide) f_0 (fun _ h9 => h9) rfl dX9_without_5 ?_
  refine lv_iconst (v := (2 : Int32)) hx hb dX9_without_8 (by decide) ?_
  refine lv_dup2_11 hx hb dX9_without_9 rfl rfl ?_
  refine va_iald hx hb hK hI.1 14 0 (mg_14 am cI cZ st2) rfl (inB_vp rfl) dX9_without_10 ?_
  refine W.eq (g2 := F0 m 11 ls [.int (st2.1 14 2), .int (2 : Int32), .ref (am 14)]) rfl ?_
  refine lv_iload_n hx hb dX9_without_11 rfl (lv_at hl 1 rfl) ?_
  refine lv_bipush (v := (6 : Int32)) hx hb dX9_without_12 (by decide) ?_
  refine lv_icmp_ge (tgt := 23) hx hb dX9_without_14 (by decide) (fun c3 => ?_) (fun c3 => ?_)
  · replace hM := if_t c3 hM
    refine lv_iconst (v := (0 : Int32)) hx hb dX9_without_23 (by decide) ?_
    refine lv_ior hx hb dX9_without_24 ?_
    refine jiast (x := ((st2.1 14 2) ||| (0 : Int32))) (st2 := pU st2 14 2 (((st2.1 14 2) ||| (0 : Int32)))) hx hb hK (mD hj) hI 14 0 (mg_14 am cI cZ st2) rfl (inB_vp rfl) (ms_14 am cI cZ st2 _) dX9_without_25 (fun st4 est4 H locs hI => ?_)
    replace hM := nm_at est4 hM
    have hz := Option.some.inj hM
    exact W.vret hx hb hr (fun t ht hW => jq_v hK hI hz ht hW) hI.2.2.2 dX9_without_26
  · replace hM := if_f c3 hM
    refine lv_iconst (v := (1 : Int32)) hx hb dX9_without_17 (by decide) ?_
    refine lv_iload_n hx hb dX9_without_18 rfl (lv_at hl 1 rfl) ?_
    refine lv_ishl hx hb dX9_without_19 ?_
    refine lv_goto (tgt := 24) hx hb dX9_without_20 (by decide) ?_
    refine lv_ior hx hb dX9_without_24 ?_
    refine jiast (x := ((st2.1 14 2) ||| ((1 : Int32) <<< (x1 &&& 31)))) (st2 := pU st2 14 2 (((st2.1 14 2) ||| ((1 : Int32) <<< (x1 &&& 31))))) hx hb hK (mD hj) hI 14 0 (mg_14 am cI cZ st2) rfl (inB_vp rfl) (ms_14 am cI cZ st2 _) dX9_without_25 (fun st5 est5 H locs hI => ?_)
    replace hM := nm_at est5 hM
    have hz := Option.some.inj hM
    exact W.vret hx hb hr (fun t ht hW => jq_v hK hI hz ht hW) hI.2.2.2 dX9_without_26
set_option maxRecDepth 20000 in
theorem hi_X9_suspected_X9 : ∀ w ∈ wsX90, w ∈ wsX9_suspected := by decide +kernel
set_option maxHeartbeats 4000000 in
set_option maxRecDepth 100000 in
theorem jw_X9_suspected {l : Launch} (D : va_G) (am : Nat → Nat) (cI cZ : ClassId) (hj : aJ am 24) (N : Nat) {st stZ : PS} {rZ : Int32} (hM : jm_X9_suspected N st = some (rZ, stZ)) : Met l yX9_suspected wsX9_suspected ({ frames := 4, cells := 0, slots := 0, locals := 91 }) (va_Pc [.ref (am 0)] (JH D (mW am cI cZ) (mTy cI cZ) st)) (JQ D (aA am 24) (mW am cI cZ) (mTy cI cZ) (some (.int rZ)) stZ) 0 0 (aA am 24) := by
  refine jStart (cc := cX9_suspected) (maxL := 4) (ret := (some .int)) [.ref (am 0)] (by decide) rfl (Nat.le_of_ble_eq_true rfl) (fun p e s m below meth c ls hx hb hr hlocks hts hown hml hK hI hl => ?_)
  have hown : s.vm.findClass RX9 = some m.cls := hown
  replace hl : lv_has ls 4 [(0, .ref (am 0))] := hl
  generalize hAV : ([.ref (am 0)] : List Value).toArray = AV at hts ⊢
  have f_0 := hts (.fieldLink RX9 49 "PuppetBarModel" "tried" "[I") (by decide +kernel)
  have f_1 := hts (.fieldLink RX9 172 "PuppetBarModel" "m" "I") (by decide +kernel)
  have f_2 := hts (.fieldLink RX9 46 "PuppetBarModel" "now" "[I") (by decide +kernel)
  unfold jm_X9_suspected at hM
  refine lv_iconst (v := (0 : Int32)) hx hb dX9_suspected_0 (by decide) ?_
  refine lv_istore_n (lv' := [(1, .int (0 : Int32)), (0, .ref (am 0))]) hx hb dX9_suspected_1 rfl hl (by decide) rfl (fun ls hl => ?_)
  refine lv_iconst (v := (0 : Int32)) hx hb dX9_suspected_2 (by decide) ?_
  refine lv_istore_n (lv' := [(2, .int (0 : Int32)), (1, .int (0 : Int32)), (0, .ref (am 0))]) hx hb dX9_suspected_3 rfl hl (by decide) rfl (fun ls hl => ?_)
  have lp0 : ∀ (n : Nat) (w2 : Int32) (w3 : Int32) (st1 : PS) (H : Heap) (locs : List Loc) (ls : Array Slot), JI D (aA am 24) (mW am cI cZ) s.heap st1 H locs → lv_has ls 4 [(0, .ref (am 0)), (1, .int w2), (2, .int w3)] → iter (fun q => jm_X9_suspected_L4 N q.1 q.2.1 q.2.2) n (w2, w3, st1) = some (rZ, stZ) → W p l e (headSpec wsX9_suspected { frames := 4, cells := 0, slots := 0, locals := 91 }).room s m AV below meth c H locs 0 0 (MQ below (JQ D (aA am 24) (mW am cI cZ) (mTy cI cZ) (some (.int rZ)) stZ) AV s 0 0 (aA am 24)) (F0 m 4 ls []) := by
    intro n
    induction n with
    | zero =>
      intro _ _ _ _ _ _ _ _ hM
      exact absurd hM (fun h => iter_zero h)
    | succ n ih0 =>
      intro w2 w3 st1 H locs ls hI hl hM
      obtain ⟨z0, hM, hk0⟩ := iter_succ hM
      replace hM : jm_X9_suspected_L4 N w2 w3 st1 = some z0 := hM
      unfold jm_X9_suspected_L4 at hM
      refine lv_iload_n hx hb dX9_suspected_4 rfl (lv_at hl 2 rfl) ?_
      refine lv_bipush (v := (6 : Int32)) hx hb dX9_suspected_5 (by decide) ?_
      refine lv_icmp_gt (tgt := 79) hx hb dX9_suspected_7 (by decide) (fun c4 => ?_) (fun c4 => ?_)
      · replace hM := if_t c4 hM
        refine lv_iload_n hx hb dX9_suspected_79 rfl (lv_at hl 1 rfl) ?_
        have hz := Option.some.inj hM
        subst hz
        have hz := kn_r hk0
        exact W.iret hx hb hr (fun t ht hW => jq_i hK hI hz ht hW) hI.2.2.2 dX9_suspected_80
      · replace hM := if_f c4 hM
        refine lv_aload_n hx hb dX9_suspected_10 rfl (lv_at hl 0 rfl) ?_
        refine lv_iload_n hx hb dX9_suspected_11 rfl (lv_at hl 2 rfl) ?_
        obtain ⟨v5, st6, hqv5, hM⟩ := bd_at hM
        refine jcallV (C := RX9) (As := [.int w3]) (rest := []) ⟨hx, hb, hml, hown, hts⟩ (jw_X9_without D am cI cZ hj N hqv5) (cwV 1 hts gX9_suspected_X9_without rfl rfl rfl yd_X9_without ⟨Nat.le_of_ble_eq_true rfl, Nat.le_of_ble_eq_true rfl⟩) hK hI 0 (mg_0 am cI cZ st1) rfl rfl hl.1 rfl (Nat.le_of_ble_eq_true rfl) dX9_suspected_12 (fun H locs hI => ?_)
        refine W.eq (g2 := F0 m 15 ls []) rfl ?_
        refine lv_iload_n hx hb dX9_suspected_15 rfl (lv_at hl 2 rfl) ?_
        refine lv_bipush (v := (6 : Int32)) hx hb dX9_suspected_16 (by decide) ?_
        refine lv_icmp_eq (tgt := 42) hx hb dX9_suspected_18 (by decide) (fun c7 => ?_) (fun c7 => ?_)
        · replace hM := if_t c7 hM
          refine lv_iconst (v := (1 : Int32)) hx hb dX9_suspected_42 (by decide) ?_
          refine lv_goto (tgt := 47) hx hb dX9_suspected_43 (by decide) ?_
          refine lv_istore_n (lv' := [(3, .int (1 : Int32)), (0, .ref (am 0)), (1, .int w2), (2, .int w3)]) hx hb dX9_suspected_47 rfl hl (by decide) rfl (fun ls hl => ?_)
          refine lv_iload_n hx hb dX9_suspected_48 rfl (lv_at hl 2 rfl) ?_
          refine lv_iload_n hx hb dX9_suspected_49 rfl (lv_at hl 0 rfl) ?_
          refine lv_if_eq (tgt := 70) hx hb dX9_suspected_50 (by decide) (fun c9 => absurd c9 (by decide)) (fun _ => ?_)
          refine lv_aload_n hx hb dX9_suspected_53 rfl (lv_at hl 1 rfl) ?_
          refine lv_aload_n hx hb dX9_suspected_54 rfl (lv_at hl 1 rfl) ?_
          refine va_get (D := D) (ci := 9) (v := .ref (am 14)) (C := RX9) (T := TX9) (N := 43) hx hb hts hi_X9_suspected_X9 hown hK hI.1 0 (mg_0 am cI cZ st6) rfl 29 (by decide) f_0 (fun _ h9 => h9) rfl dX9_suspected_55 ?_
          obtain ⟨v8, st9, hqv8, hM⟩ := bd_at hM
          refine jcallV (C := RX9) (As := [.ref (am 14)]) (rest := [.int w2]) ⟨hx, hb, hml, hown, hts⟩ (jw_X9_isSo D am cI cZ hj N (show mk_Of 14 by decide) hqv8) (cwV 1 hts gX9_suspected_X9_isSo rfl rfl rfl yd_X9_isSo ⟨Nat.le_of_ble_eq_true rfl, Nat.le_of_ble_eq_true rfl⟩) hK hI 0 (mg_0 am cI cZ st6) rfl rfl hl.1 rfl (Nat.le_of_ble_eq_true rfl) dX9_suspected_58 (fun H locs hI => ?_)
          refine W.eq (g2 := F0 m 61 ls [.int v8, .int w2]) rfl ?_
          refine lv_if_eq (tgt := 70) hx hb dX9_suspected_61 (by decide) (fun c10 => ?_) (fun c10 => ?_)
          · replace hM := if_t c10 hM
            refine lv_iconst (v := (0 : Int32)) hx hb dX9_suspected_70 (by decide) ?_
            refine lv_ior hx hb dX9_suspected_71 ?_
            refine lv_istore_n (lv' := [(1, .int (w2 ||| (0 : Int32))), (3, .int (1 : Int32)), (0, .ref (am 0)), (2, .int w3)]) hx hb dX9_suspected_72 rfl hl (by decide) rfl (fun ls hl => ?_)
            refine lv_iinc (v := (w3 + (1 : Int32))) (lv' := [(2, .int (w3 + (1 : Int32))), (1, .int (w2 ||| (0 : Int32))), (3, .int (1 : Int32)), (0, .ref (am 0))]) hx hb dX9_suspected_73 hl (k := 3) rfl rfl (by decide) rfl (fun ls hl => ?_)
            refine lv_goto (tgt := 4) hx hb dX9_suspected_76 (by decide) ?_
            have hz := Option.some.inj hM
            subst hz
            exact ih0 (w2 ||| (0 : Int32)) (w3 + (1 : Int32)) st9 _ _ _ hI (lv_sub hl [3, 1, 0] rfl) hk0
          · replace hM := if_f c10 hM
            refine lv_iconst (v := (1 : Int32)) hx hb dX9_suspected_64 (by decide) ?_
            refine lv_iload_n hx hb dX9_suspected_65 rfl (lv_at hl 3 rfl) ?_
            refine lv_ishl hx hb dX9_suspected_66 ?_
            refine lv_goto (tgt := 71) hx hb dX9_suspected_67 (by decide) ?_
            refine lv_ior hx hb dX9_suspected_71 ?_
            refine lv_istore_n (lv' := [(1, .int (w2 ||| ((1 : Int32) <<< (w3 &&& 31)))), (3, .int (1 : Int32)), (0, .ref (am 0)), (2, .int w3)]) hx hb dX9_suspected_72 rfl hl (by decide) rfl (fun ls hl => ?_)
            refine lv_iinc (v := (w3 + (1 : Int32))) (lv' := [(2, .int (w3 + (1 : Int32))), (1, .int (w2 ||| ((1 : Int32) <<< (w3 &&& 31)))), (3, .int (1 : Int32)), (0, .ref (am 0))]) hx hb dX9_suspected_73 hl (k := 3) rfl rfl (by decide) rfl (fun ls hl => ?_)
            refine lv_goto (tgt := 4) hx hb dX9_suspected_76 (by decide) ?_
            have hz := Option.some.inj hM
            subst hz
            exact ih0 (w2 ||| ((1 : Int32) <<< (w3 &&& 31))) (w3 + (1 : Int32)) st9 _ _ _ hI (lv_sub hl [3, 1, 0] rfl) hk0
        · replace hM := if_f c7 hM
          refine lv_iload_n hx hb dX9_suspected_21 rfl (lv_at hl 2 rfl) ?_
          refine lv_aload_n hx hb dX9_suspected_22 rfl (lv_at hl 0 rfl) ?_
          refine va_get (D := D) (ci := 9) (v := .int (st6.1 0 19)) (C := RX9) (T := TX9) (N := 43) hx hb hts hi_X9_suspected_X9 hown hK hI.1 0 (mg_0 am cI cZ st6) rfl 19 (by decide) f_1 (fun _ h9 => h9) rfl dX9_suspected_23 ?_
          refine lv_icmp_ge (tgt := 46) hx hb dX9_suspected_26 (by decide) (fun c11 => ?_) (fun c11 => ?_)
          · replace hM := if_t c11 hM
            refine lv_iconst (v := (0 : Int32)) hx hb dX9_suspected_46 (by decide) ?_
            refine lv_istore_n (lv' := [(3, .int (0 : Int32)), (0, .ref (am 0)), (1, .int w2), (2, .int w3)]) hx hb dX9_suspected_47 rfl hl (by decide) rfl (fun ls hl => ?_)
            refine lv_iload_n hx hb dX9_suspected_48 rfl (lv_at hl 2 rfl) ?_
            refine lv_iload_n hx hb dX9_suspected_49 rfl (lv_at hl 0 rfl) ?_
            refine lv_if_eq (tgt := 70) hx hb dX9_suspected_50 (by decide) (fun _ => ?_) (fun c9 => absurd c9 (by decide))
            refine lv_iconst (v := (0 : Int32)) hx hb dX9_suspected_70 (by decide) ?_
            refine lv_ior hx hb dX9_suspected_71 ?_
            refine lv_istore_n (lv' := [(1, .int (w2 ||| (0 : Int32))), (3, .int (0 : Int32)), (0, .ref (am 0)), (2, .int w3)]) hx hb dX9_suspected_72 rfl hl (by decide) rfl (fun ls hl => ?_)
            refine lv_iinc (v := (w3 + (1 : Int32))) (lv' := [(2, .int (w3 + (1 : Int32))), (1, .int (w2 ||| (0 : Int32))), (3, .int (0 : Int32)), (0, .ref (am 0))]) hx hb dX9_suspected_73 hl (k := 3) rfl rfl (by decide) rfl (fun ls hl => ?_)
            refine lv_goto (tgt := 4) hx hb dX9_suspected_76 (by decide) ?_
            have hz := Option.some.inj hM
            subst hz
            exact ih0 (w2 ||| (0 : Int32)) (w3 + (1 : Int32)) st6 _ _ _ hI (lv_sub hl [3, 1, 0] rfl) hk0
          · replace hM := if_f c11 hM
            refine lv_aload_n hx hb dX9_suspected_29 rfl (lv_at hl 0 rfl) ?_
            refine va_get (D := D) (ci := 9) (v := .ref (am 13)) (C := RX9) (T := TX9) (N := 43) hx hb hts hi_X9_suspected_X9 hown hK hI.1 0 (mg_0 am cI cZ st6) rfl 28 (by decide) f_2 (fun _ h9 => h9) rfl dX9_suspected_30 ?_
            refine lv_iconst (v := (2 : Int32)) hx hb dX9_suspected_33 (by decide) ?_
            refine va_iald hx hb hK hI.1 13 0 (mg_13 am cI cZ st6) rfl (inB_vp rfl) dX9_suspected_34 ?_
            refine W.eq (g2 := F0 m 35 ls [.int (st6.1 13 2)]) rfl ?_
            refine lv_iload_n hx hb dX9_suspected_35 rfl (lv_at hl 2 rfl) ?_
            obtain ⟨v12, st13, hqv12, hM⟩ := bd_at hM
            refine jcallS (As := [.int (st6.1 13 2), .int w3]) (rest := []) ⟨hx, hb, hml, hown, hts⟩ (jw_X9_has D am cI cZ hj N hqv12) (va_cwS 2 hts gX9_suspected_X9_has rfl rfl rfl yd_X9_has ⟨Nat.le_of_ble_eq_true rfl, Nat.le_of_ble_eq_true rfl⟩) hK hI rfl hl.1 rfl (Nat.le_of_ble_eq_true rfl) dX9_suspected_36 (fun H locs hI => ?_)
            refine W.eq (g2 := F0 m 39 ls [.int v12]) rfl ?_
            refine lv_if_ne (tgt := 46) hx hb dX9_suspected_39 (by decide) (fun c14 => ?_) (fun c14 => ?_)
            · replace hM := if_f c14 hM
              refine lv_iconst (v := (0 : Int32)) hx hb dX9_suspected_46 (by decide) ?_
              refine lv_istore_n (lv' := [(3, .int (0 : Int32)), (0, .ref (am 0)), (1, .int w2), (2, .int w3)]) hx hb dX9_suspected_47 rfl hl (by decide) rfl (fun ls hl => ?_)
              refine lv_iload_n hx hb dX9_suspected_48 rfl (lv_at hl 2 rfl) ?_
              refine lv_iload_n hx hb dX9_suspected_49 rfl (lv_at hl 0 rfl) ?_
              refine lv_if_eq (tgt := 70) hx hb dX9_suspected_50 (by decide) (fun _ => ?_) (fun c9 => absurd c9 (by decide))
              refine lv_iconst (v := (0 : Int32)) hx hb dX9_suspected_70 (by decide) ?_
              refine lv_ior hx hb dX9_suspected_71 ?_
              refine lv_istore_n (lv' := [(1, .int (w2 ||| (0 : Int32))), (3, .int (0 : Int32)), (0, .ref (am 0)), (2, .int w3)]) hx hb dX9_suspected_72 rfl hl (by decide) rfl (fun ls hl => ?_)
              refine lv_iinc (v := (w3 + (1 : Int32))) (lv' := [(2, .int (w3 + (1 : Int32))), (1, .int (w2 ||| (0 : Int32))), (3, .int (0 : Int32)), (0, .ref (am 0))]) hx hb dX9_suspected_73 hl (k := 3) rfl rfl (by decide) rfl (fun ls hl => ?_)
              refine lv_goto (tgt := 4) hx hb dX9_suspected_76 (by decide) ?_
              have hz := Option.some.inj hM
              subst hz
              exact ih0 (w2 ||| (0 : Int32)) (w3 + (1 : Int32)) st13 _ _ _ hI (lv_sub hl [3, 1, 0] rfl) hk0
            · replace hM := if_t c14 hM
              refine lv_iconst (v := (1 : Int32)) hx hb dX9_suspected_42 (by decide) ?_
              refine lv_goto (tgt := 47) hx hb dX9_suspected_43 (by decide) ?_
              refine lv_istore_n (lv' := [(3, .int (1 : Int32)), (0, .ref (am 0)), (1, .int w2), (2, .int w3)]) hx hb dX9_suspected_47 rfl hl (by decide) rfl (fun ls hl => ?_)
              refine lv_iload_n hx hb dX9_suspected_48 rfl (lv_at hl 2 rfl) ?_
              refine lv_iload_n hx hb dX9_suspected_49 rfl (lv_at hl 0 rfl) ?_
              refine lv_if_eq (tgt := 70) hx hb dX9_suspected_50 (by decide) (fun c9 => absurd c9 (by decide)) (fun _ => ?_)
              refine lv_aload_n hx hb dX9_suspected_53 rfl (lv_at hl 1 rfl) ?_
              refine lv_aload_n hx hb dX9_suspected_54 rfl (lv_at hl 1 rfl) ?_
              refine va_get (D := D) (ci := 9) (v := .ref (am 14)) (C := RX9) (T := TX9) (N := 43) hx hb hts hi_X9_suspected_X9 hown hK hI.1 0 (mg_0 am cI cZ st13) rfl 29 (by decide) f_0 (fun _ h9 => h9) rfl dX9_suspected_55 ?_
              obtain ⟨v15, st16, hqv15, hM⟩ := bd_at hM
              refine jcallV (C := RX9) (As := [.ref (am 14)]) (rest := [.int w2]) ⟨hx, hb, hml, hown, hts⟩ (jw_X9_isSo D am cI cZ hj N (show mk_Of 14 by decide) hqv15) (cwV 1 hts gX9_suspected_X9_isSo rfl rfl rfl yd_X9_isSo ⟨Nat.le_of_ble_eq_true rfl, Nat.le_of_ble_eq_true rfl⟩) hK hI 0 (mg_0 am cI cZ st13) rfl rfl hl.1 rfl (Nat.le_of_ble_eq_true rfl) dX9_suspected_58 (fun H locs hI => ?_)
              refine W.eq (g2 := F0 m 61 ls [.int v15, .int w2]) rfl ?_
              refine lv_if_eq (tgt := 70) hx hb dX9_suspected_61 (by decide) (fun c17 => ?_) (fun c17 => ?_)
              · replace hM := if_t c17 hM
                refine lv_iconst (v := (0 : Int32)) hx hb dX9_suspected_70 (by decide) ?_
                refine lv_ior hx hb dX9_suspected_71 ?_
                refine lv_istore_n (lv' := [(1, .int (w2 ||| (0 : Int32))), (3, .int (1 : Int32)), (0, .ref (am 0)), (2, .int w3)]) hx hb dX9_suspected_72 rfl hl (by decide) rfl (fun ls hl => ?_)
                refine lv_iinc (v := (w3 + (1 : Int32))) (lv' := [(2, .int (w3 + (1 : Int32))), (1, .int (w2 ||| (0 : Int32))), (3, .int (1 : Int32)), (0, .ref (am 0))]) hx hb dX9_suspected_73 hl (k := 3) rfl rfl (by decide) rfl (fun ls hl => ?_)
                refine lv_goto (tgt := 4) hx hb dX9_suspected_76 (by decide) ?_
                have hz := Option.some.inj hM
                subst hz
                exact ih0 (w2 ||| (0 : Int32)) (w3 + (1 : Int32)) st16 _ _ _ hI (lv_sub hl [3, 1, 0] rfl) hk0
              · replace hM := if_f c17 hM
                refine lv_iconst (v := (1 : Int32)) hx hb dX9_suspected_64 (by decide) ?_
                refine lv_iload_n hx hb dX9_suspected_65 rfl (lv_at hl 3 rfl) ?_
                refine lv_ishl hx hb dX9_suspected_66 ?_
                refine lv_goto (tgt := 71) hx hb dX9_suspected_67 (by decide) ?_
                refine lv_ior hx hb dX9_suspected_71 ?_
                refine lv_istore_n (lv' := [(1, .int (w2 ||| ((1 : Int32) <<< (w3 &&& 31)))), (3, .int (1 : Int32)), (0, .ref (am 0)), (2, .int w3)]) hx hb dX9_suspected_72 rfl hl (by decide) rfl (fun ls hl => ?_)
                refine lv_iinc (v := (w3 + (1 : Int32))) (lv' := [(2, .int (w3 + (1 : Int32))), (1, .int (w2 ||| ((1 : Int32) <<< (w3 &&& 31)))), (3, .int (1 : Int32)), (0, .ref (am 0))]) hx hb dX9_suspected_73 hl (k := 3) rfl rfl (by decide) rfl (fun ls hl => ?_)
                refine lv_goto (tgt := 4) hx hb dX9_suspected_76 (by decide) ?_
                have hz := Option.some.inj hM
                subst hz
                exact ih0 (w2 ||| ((1 : Int32) <<< (w3 &&& 31))) (w3 + (1 : Int32)) st16 _ _ _ hI (lv_sub hl [3, 1, 0] rfl) hk0
  exact lp0 N (0 : Int32) (0 : Int32) st _ _ _ hI (lv_sub hl [2, 1, 0] rfl) hM
set_option maxHeartbeats 4000000 in
set_option maxRecDepth 100000 in
theorem jw_X9_suspects {l : Launch} (D : va_G) (am : Nat → Nat) (cI cZ : ClassId) (hj : aJ am 24) (N : Nat) {st stZ : PS} {rZ : Int32} (hM : jm_X9_suspects N st = some (rZ, stZ)) : Met l yX9_suspects wsX9_suspects ({ frames := 5, cells := 0, slots := 0, locals := 114 }) (va_Pc [.ref (am 0)] (JH D (mW am cI cZ) (mTy cI cZ) st)) (JQ D (aA am 24) (mW am cI cZ) (mTy cI cZ) (some (.int rZ)) stZ) 0 0 (aA am 24) := by
  refine jStart (cc := cX9_suspects) (maxL := 1) (ret := (some .int)) [.ref (am 0)] (by decide) rfl (Nat.le_of_ble_eq_true rfl) (fun p e s m below meth c ls hx hb hr hlocks hts hown hml hK hI hl => ?_)
  have hown : s.vm.findClass RX9 = some m.cls := hown
  replace hl : lv_has ls 1 [(0, .ref (am 0))] := hl
  generalize hAV : ([.ref (am 0)] : List Value).toArray = AV at hts ⊢
  unfold jm_X9_suspects at hM
  refine lv_aload_n hx hb dX9_suspects_0 rfl (lv_at hl 0 rfl) ?_
  obtain ⟨v1, st2, hqv1, hM⟩ := bd_at hM
  refine jcallV (C := RX9) (As := []) (rest := []) ⟨hx, hb, hml, hown, hts⟩ (jw_X9_suspected D am cI cZ hj N hqv1) (cwV 0 hts gX9_suspects_X9_suspected rfl rfl rfl yd_X9_suspected ⟨Nat.le_of_ble_eq_true rfl, Nat.le_of_ble_eq_true rfl⟩) hK hI 0 (mg_0 am cI cZ st) rfl rfl hl.1 rfl (Nat.le_of_ble_eq_true rfl) dX9_suspects_1 (fun H locs hI => ?_)
  refine W.eq (g2 := F0 m 4 ls [.int v1]) rfl ?_
  have hz := Option.some.inj hM
  exact W.iret hx hb hr (fun t ht hW => jq_i hK hI hz ht hW) hI.2.2.2 dX9_suspects_4
set_option maxRecDepth 20000 in
theorem hi_X9_holes_X9 : ∀ w ∈ wsX90, w ∈ wsX9_holes := by decide +kernel
set_option maxHeartbeats 4000000 in
set_option maxRecDepth 100000 in
theorem jw_X9_holes {l : Launch} (D : va_G) (am : Nat → Nat) (cI cZ : ClassId) (hj : aJ am 24) (N : Nat) {x1 : Int32} {st stZ : PS} {rZ : Int32} (hM : jm_X9_holes N x1 st = some (rZ, stZ)) : Met l yX9_holes wsX9_holes ({ frames := 4, cells := 0, slots := 0, locals := 91 }) (va_Pc [.ref (am 0), .int x1] (JH D (mW am cI cZ) (mTy cI cZ) st)) (JQ D (aA am 24) (mW am cI cZ) (mTy cI cZ) (some (.int rZ)) stZ) 0 0 (aA am 24) := by
  refine jStart (cc := cX9_holes) (maxL := 4) (ret := (some .int)) [.ref (am 0), .int x1] (by decide) rfl (Nat.le_of_ble_eq_true rfl) (fun p e s m below meth c ls hx hb hr hlocks hts hown hml hK hI hl => ?_)
  have hown : s.vm.findClass RX9 = some m.cls := hown
  replace hl : lv_has ls 4 [(0, .ref (am 0)), (1, .int x1)] := hl
  generalize hAV : ([.ref (am 0), .int x1] : List Value).toArray = AV at hts ⊢
  have f_0 := hts (.fieldLink RX9 46 "PuppetBarModel" "now" "[I") (by decide +kernel)
  have f_1 := hts (.fieldLink RX9 49 "PuppetBarModel" "tried" "[I") (by decide +kernel)
  unfold jm_X9_holes at hM
  refine lv_aload_n hx hb dX9_holes_0 rfl (lv_at hl 0 rfl) ?_
  refine lv_iload_n hx hb dX9_holes_1 rfl (lv_at hl 1 rfl) ?_
  obtain ⟨v1, st2, hqv1, hM⟩ := bd_at hM
  refine jcallV (C := RX9) (As := [.int x1]) (rest := []) ⟨hx, hb, hml, hown, hts⟩ (jw_X9_isString D am cI cZ hj N hqv1) (cwV 1 hts gX9_holes_X9_isString rfl rfl rfl yd_X9_isString ⟨Nat.le_of_ble_eq_true rfl, Nat.le_of_ble_eq_true rfl⟩) hK hI 0 (mg_0 am cI cZ st) rfl rfl hl.1 rfl (Nat.le_of_ble_eq_true rfl) dX9_holes_2 (fun H locs hI => ?_)
  refine W.eq (g2 := F0 m 5 ls [.int v1]) rfl ?_
  refine lv_if_ne (tgt := 10) hx hb dX9_holes_5 (by decide) (fun c3 => ?_) (fun c3 => ?_)
  · replace hM := if_f c3 hM
    refine lv_aload_n hx hb dX9_holes_10 rfl (lv_at hl 0 rfl) ?_
    refine va_get (D := D) (ci := 9) (v := .ref (am 13)) (C := RX9) (T := TX9) (N := 43) hx hb hts hi_X9_holes_X9 hown hK hI.1 0 (mg_0 am cI cZ st2) rfl 28 (by decide) f_0 (fun _ h9 => h9) rfl dX9_holes_11 ?_
    refine lv_iconst (v := (2 : Int32)) hx hb dX9_holes_14 (by decide) ?_
    refine va_iald hx hb hK hI.1 13 0 (mg_13 am cI cZ st2) rfl (inB_vp rfl) dX9_holes_15 ?_
    refine W.eq (g2 := F0 m 16 ls [.int (st2.1 13 2)]) rfl ?_
    refine lv_iload_n hx hb dX9_holes_16 rfl (lv_at hl 1 rfl) ?_
    obtain ⟨v4, st5, hqv4, hM⟩ := bd_at hM
    refine jcallS (As := [.int (st2.1 13 2), .int x1]) (rest := []) ⟨hx, hb, hml, hown, hts⟩ (jw_X9_has D am cI cZ hj N hqv4) (va_cwS 2 hts gX9_holes_X9_has rfl rfl rfl yd_X9_has ⟨Nat.le_of_ble_eq_true rfl, Nat.le_of_ble_eq_true rfl⟩) hK hI rfl hl.1 rfl (Nat.le_of_ble_eq_true rfl) dX9_holes_17 (fun H locs hI => ?_)
    refine W.eq (g2 := F0 m 20 ls [.int v4]) rfl ?_
    refine lv_if_eq (tgt := 26) hx hb dX9_holes_20 (by decide) (fun c6 => ?_) (fun c6 => ?_)
    · replace hM := if_t c6 hM
      refine lv_aload_n hx hb dX9_holes_26 rfl (lv_at hl 0 rfl) ?_
      obtain ⟨v7, st8, hqv7, hM⟩ := bd_at hM
      refine jcallV (C := RX9) (As := []) (rest := []) ⟨hx, hb, hml, hown, hts⟩ (jw_X9_copyNow D am cI cZ hj N hqv7) (cwV 0 hts gX9_holes_X9_copyNow rfl rfl rfl yd_X9_copyNow ⟨Nat.le_of_ble_eq_true rfl, Nat.le_of_ble_eq_true rfl⟩) hK hI 0 (mg_0 am cI cZ st5) rfl rfl hl.1 rfl (Nat.le_of_ble_eq_true rfl) dX9_holes_27 (fun H locs hI => ?_)
      refine W.eq (g2 := F0 m 30 ls []) rfl ?_
      refine lv_iconst (v := (0 : Int32)) hx hb dX9_holes_30 (by decide) ?_
      refine lv_istore_n (lv' := [(2, .int (0 : Int32)), (0, .ref (am 0)), (1, .int x1)]) hx hb dX9_holes_31 rfl hl (by decide) rfl (fun ls hl => ?_)
      refine lv_iconst (v := (0 : Int32)) hx hb dX9_holes_32 (by decide) ?_
      refine lv_istore_n (lv' := [(3, .int (0 : Int32)), (2, .int (0 : Int32)), (0, .ref (am 0)), (1, .int x1)]) hx hb dX9_holes_33 rfl hl (by decide) rfl (fun ls hl => ?_)
      have lp0 : ∀ (n : Nat) (w10 : Int32) (w11 : Int32) (st9 : PS) (H : Heap) (locs : List Loc) (ls : Array Slot), JI D (aA am 24) (mW am cI cZ) s.heap st9 H locs → lv_has ls 4 [(0, .ref (am 0)), (1, .int x1), (2, .int w10), (3, .int w11)] → iter (fun q => jm_X9_holes_L34 N x1 q.1 q.2.1 q.2.2) n (w10, w11, st9) = some (rZ, stZ) → W p l e (headSpec wsX9_holes { frames := 4, cells := 0, slots := 0, locals := 91 }).room s m AV below meth c H locs 0 0 (MQ below (JQ D (aA am 24) (mW am cI cZ) (mTy cI cZ) (some (.int rZ)) stZ) AV s 0 0 (aA am 24)) (F0 m 34 ls []) := by
        intro n
        induction n with
        | zero =>
          intro _ _ _ _ _ _ _ _ hM
          exact absurd hM (fun h => iter_zero h)
        | succ n ih0 =>
          intro w10 w11 st9 H locs ls hI hl hM
          obtain ⟨z0, hM, hk0⟩ := iter_succ hM
          replace hM : jm_X9_holes_L34 N x1 w10 w11 st9 = some z0 := hM
          unfold jm_X9_holes_L34 at hM
          refine lv_iload_n hx hb dX9_holes_34 rfl (lv_at hl 3 rfl) ?_
          refine lv_bipush (v := (7 : Int32)) hx hb dX9_holes_35 (by decide) ?_
          refine lv_icmp_ge (tgt := 77) hx hb dX9_holes_37 (by decide) (fun c12 => ?_) (fun c12 => ?_)
          · replace hM := if_t c12 hM
            refine lv_iload_n hx hb dX9_holes_77 rfl (lv_at hl 2 rfl) ?_
            have hz := Option.some.inj hM
            subst hz
            have hz := kn_r hk0
            exact W.iret hx hb hr (fun t ht hW => jq_i hK hI hz ht hW) hI.2.2.2 dX9_holes_78
          · replace hM := if_f c12 hM
            refine lv_aload_n hx hb dX9_holes_40 rfl (lv_at hl 0 rfl) ?_
            refine va_get (D := D) (ci := 9) (v := .ref (am 14)) (C := RX9) (T := TX9) (N := 43) hx hb hts hi_X9_holes_X9 hown hK hI.1 0 (mg_0 am cI cZ st9) rfl 29 (by decide) f_1 (fun _ h9 => h9) rfl dX9_holes_41 ?_
            refine lv_bipush (v := (9 : Int32)) hx hb dX9_holes_44 (by decide) ?_
            refine lv_iload_n hx hb dX9_holes_46 rfl (lv_at hl 1 rfl) ?_
            refine lv_iadd hx hb dX9_holes_47 ?_
            refine lv_iload_n hx hb dX9_holes_48 rfl (lv_at hl 3 rfl) ?_
            obtain ⟨g14, hM⟩ := gd_at hM
            refine jiast (x := w11) (st2 := pU st9 14 (((9 : Int32) + x1)).toNatClampNeg (w11)) hx hb hK (mD hj) hI 14 0 (mg_14 am cI cZ st9) rfl (inB_vp g14) (ms_14 am cI cZ st9 _) dX9_holes_49 (fun st13 est13 H locs hI => ?_)
            replace hM := nm_at est13 hM
            refine lv_iload_n hx hb dX9_holes_50 rfl (lv_at hl 2 rfl) ?_
            refine lv_aload_n hx hb dX9_holes_51 rfl (lv_at hl 0 rfl) ?_
            refine lv_aload_n hx hb dX9_holes_52 rfl (lv_at hl 0 rfl) ?_
            refine va_get (D := D) (ci := 9) (v := .ref (am 14)) (C := RX9) (T := TX9) (N := 43) hx hb hts hi_X9_holes_X9 hown hK hI.1 0 (mg_0 am cI cZ st13) rfl 29 (by decide) f_1 (fun _ h9 => h9) rfl dX9_holes_53 ?_
            obtain ⟨v15, st16, hqv15, hM⟩ := bd_at hM
            refine jcallV (C := RX9) (As := [.ref (am 14)]) (rest := [.int w10]) ⟨hx, hb, hml, hown, hts⟩ (jw_X9_isSo D am cI cZ hj N (show mk_Of 14 by decide) hqv15) (cwV 1 hts gX9_holes_X9_isSo rfl rfl rfl yd_X9_isSo ⟨Nat.le_of_ble_eq_true rfl, Nat.le_of_ble_eq_true rfl⟩) hK hI 0 (mg_0 am cI cZ st13) rfl rfl hl.1 rfl (Nat.le_of_ble_eq_true rfl) dX9_holes_56 (fun H locs hI => ?_)
            refine W.eq (g2 := F0 m 59 ls [.int v15, .int w10]) rfl ?_
            refine lv_if_eq (tgt := 68) hx hb dX9_holes_59 (by decide) (fun c17 => ?_) (fun c17 => ?_)
            · replace hM := if_t c17 hM
              refine lv_iconst (v := (0 : Int32)) hx hb dX9_holes_68 (by decide) ?_
              refine lv_ior hx hb dX9_holes_69 ?_
              refine lv_istore_n (lv' := [(2, .int (w10 ||| (0 : Int32))), (0, .ref (am 0)), (1, .int x1), (3, .int w11)]) hx hb dX9_holes_70 rfl hl (by decide) rfl (fun ls hl => ?_)
              refine lv_iinc (v := (w11 + (1 : Int32))) (lv' := [(3, .int (w11 + (1 : Int32))), (2, .int (w10 ||| (0 : Int32))), (0, .ref (am 0)), (1, .int x1)]) hx hb dX9_holes_71 hl (k := 3) rfl rfl (by decide) rfl (fun ls hl => ?_)
              refine lv_goto (tgt := 34) hx hb dX9_holes_74 (by decide) ?_
              have hz := Option.some.inj hM
              subst hz
              exact ih0 (w10 ||| (0 : Int32)) (w11 + (1 : Int32)) st16 _ _ _ hI (lv_sub hl [2, 3, 1, 0] rfl) hk0
            · replace hM := if_f c17 hM
              refine lv_iconst (v := (1 : Int32)) hx hb dX9_holes_62 (by decide) ?_
              refine lv_iload_n hx hb dX9_holes_63 rfl (lv_at hl 3 rfl) ?_
              refine lv_ishl hx hb dX9_holes_64 ?_
              refine lv_goto (tgt := 69) hx hb dX9_holes_65 (by decide) ?_
              refine lv_ior hx hb dX9_holes_69 ?_
              refine lv_istore_n (lv' := [(2, .int (w10 ||| ((1 : Int32) <<< (w11 &&& 31)))), (0, .ref (am 0)), (1, .int x1), (3, .int w11)]) hx hb dX9_holes_70 rfl hl (by decide) rfl (fun ls hl => ?_)
              refine lv_iinc (v := (w11 + (1 : Int32))) (lv' := [(3, .int (w11 + (1 : Int32))), (2, .int (w10 ||| ((1 : Int32) <<< (w11 &&& 31)))), (0, .ref (am 0)), (1, .int x1)]) hx hb dX9_holes_71 hl (k := 3) rfl rfl (by decide) rfl (fun ls hl => ?_)
              refine lv_goto (tgt := 34) hx hb dX9_holes_74 (by decide) ?_
              have hz := Option.some.inj hM
              subst hz
              exact ih0 (w10 ||| ((1 : Int32) <<< (w11 &&& 31))) (w11 + (1 : Int32)) st16 _ _ _ hI (lv_sub hl [2, 3, 1, 0] rfl) hk0
      exact lp0 N (0 : Int32) (0 : Int32) st8 _ _ _ hI (lv_sub hl [2, 3, 1, 0] rfl) hM
    · replace hM := if_f c6 hM
      refine lv_bipush (v := (-2 : Int32)) hx hb dX9_holes_23 (by decide) ?_
      have hz := Option.some.inj hM
      exact W.iret hx hb hr (fun t ht hW => jq_i hK hI hz ht hW) hI.2.2.2 dX9_holes_25
  · replace hM := if_t c3 hM
    refine lv_iconst (v := (-1 : Int32)) hx hb dX9_holes_8 (by decide) ?_
    have hz := Option.some.inj hM
    exact W.iret hx hb hr (fun t ht hW => jq_i hK hI hz ht hW) hI.2.2.2 dX9_holes_9
set_option maxRecDepth 20000 in
theorem hi_X9_heightWithout_X9 : ∀ w ∈ wsX90, w ∈ wsX9_heightWithout := by decide +kernel
set_option maxHeartbeats 4000000 in
set_option maxRecDepth 100000 in
theorem jw_X9_heightWithout {l : Launch} (D : va_G) (am : Nat → Nat) (cI cZ : ClassId) (hj : aJ am 24) (N : Nat) {x1 : Int32} {x2 : Int32} {st stZ : PS} {rZ : Int32} (hM : jm_X9_heightWithout N x1 x2 st = some (rZ, stZ)) : Met l yX9_heightWithout wsX9_heightWithout ({ frames := 3, cells := 0, slots := 0, locals := 68 }) (va_Pc [.ref (am 0), .int x1, .int x2] (JH D (mW am cI cZ) (mTy cI cZ) st)) (JQ D (aA am 24) (mW am cI cZ) (mTy cI cZ) (some (.int rZ)) stZ) 0 0 (aA am 24) := by
  refine jStart (cc := cX9_heightWithout) (maxL := 3) (ret := (some .int)) [.ref (am 0), .int x1, .int x2] (by decide) rfl (Nat.le_of_ble_eq_true rfl) (fun p e s m below meth c ls hx hb hr hlocks hts hown hml hK hI hl => ?_)
  have hown : s.vm.findClass RX9 = some m.cls := hown
  replace hl : lv_has ls 3 [(0, .ref (am 0)), (1, .int x1), (2, .int x2)] := hl
  generalize hAV : ([.ref (am 0), .int x1, .int x2] : List Value).toArray = AV at hts ⊢
  have f_0 := hts (.fieldLink RX9 49 "PuppetBarModel" "tried" "[I") (by decide +kernel)
  unfold jm_X9_heightWithout at hM
  refine lv_aload_n hx hb dX9_heightWithout_0 rfl (lv_at hl 0 rfl) ?_
  refine lv_iload_n hx hb dX9_heightWithout_1 rfl (lv_at hl 2 rfl) ?_
  obtain ⟨v1, st2, hqv1, hM⟩ := bd_at hM
  refine jcallV (C := RX9) (As := [.int x2]) (rest := []) ⟨hx, hb, hml, hown, hts⟩ (jw_X9_without D am cI cZ hj N hqv1) (cwV 1 hts gX9_heightWithout_X9_without rfl rfl rfl yd_X9_without ⟨Nat.le_of_ble_eq_true rfl, Nat.le_of_ble_eq_true rfl⟩) hK hI 0 (mg_0 am cI cZ st) rfl rfl hl.1 rfl (Nat.le_of_ble_eq_true rfl) dX9_heightWithout_2 (fun H locs hI => ?_)
  refine W.eq (g2 := F0 m 5 ls []) rfl ?_
  refine lv_aload_n hx hb dX9_heightWithout_5 rfl (lv_at hl 0 rfl) ?_
  refine lv_aload_n hx hb dX9_heightWithout_6 rfl (lv_at hl 0 rfl) ?_
  refine va_get (D := D) (ci := 9) (v := .ref (am 14)) (C := RX9) (T := TX9) (N := 43) hx hb hts hi_X9_heightWithout_X9 hown hK hI.1 0 (mg_0 am cI cZ st2) rfl 29 (by decide) f_0 (fun _ h9 => h9) rfl dX9_heightWithout_7 ?_
  refine lv_iload_n hx hb dX9_heightWithout_10 rfl (lv_at hl 1 rfl) ?_
  obtain ⟨v3, st4, hqv3, hM⟩ := bd_at hM
  refine jcallV (C := RX9) (As := [.ref (am 14), .int x1]) (rest := []) ⟨hx, hb, hml, hown, hts⟩ (jw_X9_height D am cI cZ hj N (show mk_Of 14 by decide) hqv3) (cwV 2 hts gX9_heightWithout_X9_height rfl rfl rfl yd_X9_height ⟨Nat.le_of_ble_eq_true rfl, Nat.le_of_ble_eq_true rfl⟩) hK hI 0 (mg_0 am cI cZ st2) rfl rfl hl.1 rfl (Nat.le_of_ble_eq_true rfl) dX9_heightWithout_11 (fun H locs hI => ?_)
  refine W.eq (g2 := F0 m 14 ls [.int v3]) rfl ?_
  have hz := Option.some.inj hM
  exact W.iret hx hb hr (fun t ht hW => jq_i hK hI hz ht hW) hI.2.2.2 dX9_heightWithout_14
set_option maxHeartbeats 4000000 in
set_option maxRecDepth 100000 in
theorem jw_X9_alike {l : Launch} (D : va_G) (am : Nat → Nat) (cI cZ : ClassId) (hj : aJ am 24) (N : Nat) {x1 : Int32} {x2 : Int32} {st stZ : PS} {rZ : Int32} (hM : jm_X9_alike N x1 x2 st = some (rZ, stZ)) : Met l yX9_alike wsX9_alike ({ frames := 4, cells := 0, slots := 0, locals := 90 }) (va_Pc [.ref (am 0), .int x1, .int x2] (JH D (mW am cI cZ) (mTy cI cZ) st)) (JQ D (aA am 24) (mW am cI cZ) (mTy cI cZ) (some (.int rZ)) stZ) 0 0 (aA am 24) := by
  refine jStart (cc := cX9_alike) (maxL := 7) (ret := (some .int)) [.ref (am 0), .int x1, .int x2] (by decide) rfl (Nat.le_of_ble_eq_true rfl) (fun p e s m below meth c ls hx hb hr hlocks hts hown hml hK hI hl => ?_)
  have hown : s.vm.findClass RX9 = some m.cls := hown
  replace hl : lv_has ls 7 [(0, .ref (am 0)), (1, .int x1), (2, .int x2)] := hl
  generalize hAV : ([.ref (am 0), .int x1, .int x2] : List Value).toArray = AV at hts ⊢
  unfold jm_X9_alike at hM
  refine lv_iconst (v := (0 : Int32)) hx hb dX9_alike_0 (by decide) ?_
  refine lv_istore_n (lv' := [(3, .int (0 : Int32)), (0, .ref (am 0)), (1, .int x1), (2, .int x2)]) hx hb dX9_alike_1 rfl hl (by decide) rfl (fun ls hl => ?_)
  refine lv_iconst (v := (0 : Int32)) hx hb dX9_alike_2 (by decide) ?_
  refine lv_istore (lv' := [(4, .int (0 : Int32)), (3, .int (0 : Int32)), (0, .ref (am 0)), (1, .int x1), (2, .int x2)]) hx hb dX9_alike_3 hl (by decide) rfl (fun ls hl => ?_)
  have lp0 : ∀ (n : Nat) (w2 : Int32) (w3 : Int32) (st1 : PS) (H : Heap) (locs : List Loc) (ls : Array Slot), JI D (aA am 24) (mW am cI cZ) s.heap st1 H locs → lv_has ls 7 [(0, .ref (am 0)), (1, .int x1), (2, .int x2), (3, .int w2), (4, .int w3)] → iter (fun q => jm_X9_alike_L5 N x1 x2 q.1 q.2.1 q.2.2) n (w2, w3, st1) = some (rZ, stZ) → W p l e (headSpec wsX9_alike { frames := 4, cells := 0, slots := 0, locals := 90 }).room s m AV below meth c H locs 0 0 (MQ below (JQ D (aA am 24) (mW am cI cZ) (mTy cI cZ) (some (.int rZ)) stZ) AV s 0 0 (aA am 24)) (F0 m 5 ls []) := by
    intro n
    induction n with
    | zero =>
      intro _ _ _ _ _ _ _ _ hM
      exact absurd hM (fun h => iter_zero h)
    | succ n ih0 =>
      intro w2 w3 st1 H locs ls hI hl hM
      obtain ⟨z0, hM, hk0⟩ := iter_succ hM
      replace hM : jm_X9_alike_L5 N x1 x2 w2 w3 st1 = some z0 := hM
      unfold jm_X9_alike_L5 at hM
      refine lv_iload hx hb dX9_alike_5 (lv_at hl 4 rfl) ?_
      refine lv_bipush (v := (6 : Int32)) hx hb dX9_alike_7 (by decide) ?_
      refine lv_icmp_gt (tgt := 95) hx hb dX9_alike_9 (by decide) (fun c4 => ?_) (fun c4 => ?_)
      · replace hM := if_t c4 hM
        refine lv_iload_n hx hb dX9_alike_95 rfl (lv_at hl 3 rfl) ?_
        have hz := Option.some.inj hM
        subst hz
        have hz := kn_r hk0
        exact W.iret hx hb hr (fun t ht hW => jq_i hK hI hz ht hW) hI.2.2.2 dX9_alike_96
      · replace hM := if_f c4 hM
        refine lv_iconst (v := (0 : Int32)) hx hb dX9_alike_12 (by decide) ?_
        refine lv_istore (lv' := [(5, .int (0 : Int32)), (0, .ref (am 0)), (1, .int x1), (2, .int x2), (3, .int w2), (4, .int w3)]) hx hb dX9_alike_13 hl (by decide) rfl (fun ls hl => ?_)
        refine lv_iconst (v := (0 : Int32)) hx hb dX9_alike_15 (by decide) ?_
        refine lv_istore (lv' := [(6, .int (0 : Int32)), (5, .int (0 : Int32)), (0, .ref (am 0)), (1, .int x1), (2, .int x2), (3, .int w2), (4, .int w3)]) hx hb dX9_alike_16 hl (by decide) rfl (fun ls hl => ?_)
        have lp1 : ∀ (n : Nat) (w6 : Int32) (w7 : Int32) (st5 : PS) (H : Heap) (locs : List Loc) (ls : Array Slot), JI D (aA am 24) (mW am cI cZ) s.heap st5 H locs → lv_has ls 7 [(0, .ref (am 0)), (1, .int x1), (2, .int x2), (3, .int w2), (4, .int w3), (5, .int w6), (6, .int w7)] → iter (fun q => jm_X9_alike_L18 N x1 x2 w2 w3 q.1 q.2.1 q.2.2) n (w6, w7, st5) = some z0 → W p l e (headSpec wsX9_alike { frames := 4, cells := 0, slots := 0, locals := 90 }).room s m AV below meth c H locs 0 0 (MQ below (JQ D (aA am 24) (mW am cI cZ) (mTy cI cZ) (some (.int rZ)) stZ) AV s 0 0 (aA am 24)) (F0 m 18 ls []) := by
          intro n
          induction n with
          | zero =>
            intro _ _ _ _ _ _ _ _ hM
            exact absurd hM (fun h => iter_zero h)
          | succ n ih1 =>
            intro w6 w7 st5 H locs ls hI hl hM
            obtain ⟨z1, hM, hk1⟩ := iter_succ hM
            replace hM : jm_X9_alike_L18 N x1 x2 w2 w3 w6 w7 st5 = some z1 := hM
            unfold jm_X9_alike_L18 at hM
            refine lv_iload hx hb dX9_alike_18 (lv_at hl 6 rfl) ?_
            refine lv_bipush (v := (6 : Int32)) hx hb dX9_alike_20 (by decide) ?_
            refine lv_icmp_gt (tgt := 76) hx hb dX9_alike_22 (by decide) (fun c8 => ?_) (fun c8 => ?_)
            · replace hM := if_t c8 hM
              refine lv_iload hx hb dX9_alike_76 (lv_at hl 5 rfl) ?_
              refine lv_iload_n hx hb dX9_alike_78 rfl (lv_at hl 3 rfl) ?_
              refine lv_icmp_le (tgt := 87) hx hb dX9_alike_79 (by decide) (fun c9 => ?_) (fun c9 => ?_)
              · replace hM := if_t c9 hM
                refine lv_iload_n hx hb dX9_alike_87 rfl (lv_at hl 3 rfl) ?_
                refine lv_istore_n (lv' := [(3, .int w2), (0, .ref (am 0)), (1, .int x1), (2, .int x2), (4, .int w3), (5, .int w6), (6, .int w7)]) hx hb dX9_alike_88 rfl hl (by decide) rfl (fun ls hl => ?_)
                refine lv_iinc (v := (w3 + (1 : Int32))) (lv' := [(4, .int (w3 + (1 : Int32))), (3, .int w2), (0, .ref (am 0)), (1, .int x1), (2, .int x2), (5, .int w6), (6, .int w7)]) hx hb dX9_alike_89 hl (k := 4) rfl rfl (by decide) rfl (fun ls hl => ?_)
                refine lv_goto (tgt := 5) hx hb dX9_alike_92 (by decide) ?_
                have hz := Option.some.inj hM
                subst hz
                have hz := kn_r hk1
                subst hz
                exact ih0 w2 (w3 + (1 : Int32)) st5 _ _ _ hI (lv_sub hl [2, 3, 4, 1, 0] rfl) hk0
              · replace hM := if_f c9 hM
                refine lv_iload hx hb dX9_alike_82 (lv_at hl 5 rfl) ?_
                refine lv_goto (tgt := 88) hx hb dX9_alike_84 (by decide) ?_
                refine lv_istore_n (lv' := [(3, .int w6), (0, .ref (am 0)), (1, .int x1), (2, .int x2), (4, .int w3), (5, .int w6), (6, .int w7)]) hx hb dX9_alike_88 rfl hl (by decide) rfl (fun ls hl => ?_)
                refine lv_iinc (v := (w3 + (1 : Int32))) (lv' := [(4, .int (w3 + (1 : Int32))), (3, .int w6), (0, .ref (am 0)), (1, .int x1), (2, .int x2), (5, .int w6), (6, .int w7)]) hx hb dX9_alike_89 hl (k := 4) rfl rfl (by decide) rfl (fun ls hl => ?_)
                refine lv_goto (tgt := 5) hx hb dX9_alike_92 (by decide) ?_
                have hz := Option.some.inj hM
                subst hz
                have hz := kn_r hk1
                subst hz
                exact ih0 w6 (w3 + (1 : Int32)) st5 _ _ _ hI (lv_sub hl [2, 3, 4, 1, 0] rfl) hk0
            · replace hM := if_f c8 hM
              refine lv_iload hx hb dX9_alike_25 (lv_at hl 5 rfl) ?_
              refine lv_iload_n hx hb dX9_alike_27 rfl (lv_at hl 2 rfl) ?_
              refine lv_iload hx hb dX9_alike_28 (lv_at hl 4 rfl) ?_
              obtain ⟨v10, st11, hqv10, hM⟩ := bd_at hM
              refine jcallS (As := [.int x2, .int w3]) (rest := [.int w6]) ⟨hx, hb, hml, hown, hts⟩ (jw_X9_has D am cI cZ hj N hqv10) (va_cwS 2 hts gX9_alike_X9_has rfl rfl rfl yd_X9_has ⟨Nat.le_of_ble_eq_true rfl, Nat.le_of_ble_eq_true rfl⟩) hK hI rfl hl.1 rfl (Nat.le_of_ble_eq_true rfl) dX9_alike_30 (fun H locs hI => ?_)
              refine W.eq (g2 := F0 m 33 ls [.int v10, .int w6]) rfl ?_
              refine lv_if_eq (tgt := 66) hx hb dX9_alike_33 (by decide) (fun c12 => ?_) (fun c12 => ?_)
              · replace hM := if_t c12 hM
                refine lv_iconst (v := (0 : Int32)) hx hb dX9_alike_66 (by decide) ?_
                refine lv_iadd hx hb dX9_alike_67 ?_
                refine lv_istore (lv' := [(5, .int (w6 + (0 : Int32))), (0, .ref (am 0)), (1, .int x1), (2, .int x2), (3, .int w2), (4, .int w3), (6, .int w7)]) hx hb dX9_alike_68 hl (by decide) rfl (fun ls hl => ?_)
                refine lv_iinc (v := (w7 + (1 : Int32))) (lv' := [(6, .int (w7 + (1 : Int32))), (5, .int (w6 + (0 : Int32))), (0, .ref (am 0)), (1, .int x1), (2, .int x2), (3, .int w2), (4, .int w3)]) hx hb dX9_alike_70 hl (k := 6) rfl rfl (by decide) rfl (fun ls hl => ?_)
                refine lv_goto (tgt := 18) hx hb dX9_alike_73 (by decide) ?_
                have hz := Option.some.inj hM
                subst hz
                exact ih1 (w6 + (0 : Int32)) (w7 + (1 : Int32)) st11 _ _ _ hI (lv_sub hl [2, 3, 4, 5, 6, 1, 0] rfl) hk1
              · replace hM := if_f c12 hM
                refine lv_iload_n hx hb dX9_alike_36 rfl (lv_at hl 2 rfl) ?_
                refine lv_iload hx hb dX9_alike_37 (lv_at hl 6 rfl) ?_
                obtain ⟨v13, st14, hqv13, hM⟩ := bd_at hM
                refine jcallS (As := [.int x2, .int w7]) (rest := [.int w6]) ⟨hx, hb, hml, hown, hts⟩ (jw_X9_has D am cI cZ hj N hqv13) (va_cwS 2 hts gX9_alike_X9_has rfl rfl rfl yd_X9_has ⟨Nat.le_of_ble_eq_true rfl, Nat.le_of_ble_eq_true rfl⟩) hK hI rfl hl.1 rfl (Nat.le_of_ble_eq_true rfl) dX9_alike_39 (fun H locs hI => ?_)
                refine W.eq (g2 := F0 m 42 ls [.int v13, .int w6]) rfl ?_
                refine lv_if_eq (tgt := 66) hx hb dX9_alike_42 (by decide) (fun c15 => ?_) (fun c15 => ?_)
                · replace hM := if_t c15 hM
                  refine lv_iconst (v := (0 : Int32)) hx hb dX9_alike_66 (by decide) ?_
                  refine lv_iadd hx hb dX9_alike_67 ?_
                  refine lv_istore (lv' := [(5, .int (w6 + (0 : Int32))), (0, .ref (am 0)), (1, .int x1), (2, .int x2), (3, .int w2), (4, .int w3), (6, .int w7)]) hx hb dX9_alike_68 hl (by decide) rfl (fun ls hl => ?_)
                  refine lv_iinc (v := (w7 + (1 : Int32))) (lv' := [(6, .int (w7 + (1 : Int32))), (5, .int (w6 + (0 : Int32))), (0, .ref (am 0)), (1, .int x1), (2, .int x2), (3, .int w2), (4, .int w3)]) hx hb dX9_alike_70 hl (k := 6) rfl rfl (by decide) rfl (fun ls hl => ?_)
                  refine lv_goto (tgt := 18) hx hb dX9_alike_73 (by decide) ?_
                  have hz := Option.some.inj hM
                  subst hz
                  exact ih1 (w6 + (0 : Int32)) (w7 + (1 : Int32)) st14 _ _ _ hI (lv_sub hl [2, 3, 4, 5, 6, 1, 0] rfl) hk1
                · replace hM := if_f c15 hM
                  refine lv_aload_n hx hb dX9_alike_45 rfl (lv_at hl 0 rfl) ?_
                  refine lv_iload_n hx hb dX9_alike_46 rfl (lv_at hl 1 rfl) ?_
                  refine lv_iload hx hb dX9_alike_47 (lv_at hl 6 rfl) ?_
                  obtain ⟨v16, st17, hqv16, hM⟩ := bd_at hM
                  refine jcallV (C := RX9) (As := [.int x1, .int w7]) (rest := [.int w6]) ⟨hx, hb, hml, hown, hts⟩ (jw_X9_heightWithout D am cI cZ hj N hqv16) (cwV 2 hts gX9_alike_X9_heightWithout rfl rfl rfl yd_X9_heightWithout ⟨Nat.le_of_ble_eq_true rfl, Nat.le_of_ble_eq_true rfl⟩) hK hI 0 (mg_0 am cI cZ st14) rfl rfl hl.1 rfl (Nat.le_of_ble_eq_true rfl) dX9_alike_49 (fun H locs hI => ?_)
                  refine W.eq (g2 := F0 m 52 ls [.int v16, .int w6]) rfl ?_
                  refine lv_aload_n hx hb dX9_alike_52 rfl (lv_at hl 0 rfl) ?_
                  refine lv_iload_n hx hb dX9_alike_53 rfl (lv_at hl 1 rfl) ?_
                  refine lv_iload hx hb dX9_alike_54 (lv_at hl 4 rfl) ?_
                  obtain ⟨v18, st19, hqv18, hM⟩ := bd_at hM
                  refine jcallV (C := RX9) (As := [.int x1, .int w3]) (rest := [.int v16, .int w6]) ⟨hx, hb, hml, hown, hts⟩ (jw_X9_heightWithout D am cI cZ hj N hqv18) (cwV 2 hts gX9_alike_X9_heightWithout rfl rfl rfl yd_X9_heightWithout ⟨Nat.le_of_ble_eq_true rfl, Nat.le_of_ble_eq_true rfl⟩) hK hI 0 (mg_0 am cI cZ st17) rfl rfl hl.1 rfl (Nat.le_of_ble_eq_true rfl) dX9_alike_56 (fun H locs hI => ?_)
                  refine W.eq (g2 := F0 m 59 ls [.int v18, .int v16, .int w6]) rfl ?_
                  refine lv_icmp_ne (tgt := 66) hx hb dX9_alike_59 (by decide) (fun c20 => ?_) (fun c20 => ?_)
                  · replace hM := if_f c20 hM
                    refine lv_iconst (v := (0 : Int32)) hx hb dX9_alike_66 (by decide) ?_
                    refine lv_iadd hx hb dX9_alike_67 ?_
                    refine lv_istore (lv' := [(5, .int (w6 + (0 : Int32))), (0, .ref (am 0)), (1, .int x1), (2, .int x2), (3, .int w2), (4, .int w3), (6, .int w7)]) hx hb dX9_alike_68 hl (by decide) rfl (fun ls hl => ?_)
                    refine lv_iinc (v := (w7 + (1 : Int32))) (lv' := [(6, .int (w7 + (1 : Int32))), (5, .int (w6 + (0 : Int32))), (0, .ref (am 0)), (1, .int x1), (2, .int x2), (3, .int w2), (4, .int w3)]) hx hb dX9_alike_70 hl (k := 6) rfl rfl (by decide) rfl (fun ls hl => ?_)
                    refine lv_goto (tgt := 18) hx hb dX9_alike_73 (by decide) ?_
                    have hz := Option.some.inj hM
                    subst hz
                    exact ih1 (w6 + (0 : Int32)) (w7 + (1 : Int32)) st19 _ _ _ hI (lv_sub hl [2, 3, 4, 5, 6, 1, 0] rfl) hk1
                  · replace hM := if_t c20 hM
                    refine lv_iconst (v := (1 : Int32)) hx hb dX9_alike_62 (by decide) ?_
                    refine lv_goto (tgt := 67) hx hb dX9_alike_63 (by decide) ?_
                    refine lv_iadd hx hb dX9_alike_67 ?_
                    refine lv_istore (lv' := [(5, .int (w6 + (1 : Int32))), (0, .ref (am 0)), (1, .int x1), (2, .int x2), (3, .int w2), (4, .int w3), (6, .int w7)]) hx hb dX9_alike_68 hl (by decide) rfl (fun ls hl => ?_)
                    refine lv_iinc (v := (w7 + (1 : Int32))) (lv' := [(6, .int (w7 + (1 : Int32))), (5, .int (w6 + (1 : Int32))), (0, .ref (am 0)), (1, .int x1), (2, .int x2), (3, .int w2), (4, .int w3)]) hx hb dX9_alike_70 hl (k := 6) rfl rfl (by decide) rfl (fun ls hl => ?_)
                    refine lv_goto (tgt := 18) hx hb dX9_alike_73 (by decide) ?_
                    have hz := Option.some.inj hM
                    subst hz
                    exact ih1 (w6 + (1 : Int32)) (w7 + (1 : Int32)) st19 _ _ _ hI (lv_sub hl [2, 3, 4, 5, 6, 1, 0] rfl) hk1
        exact lp1 N (0 : Int32) (0 : Int32) st1 _ _ _ hI (lv_sub hl [2, 3, 4, 5, 6, 1, 0] rfl) hM
  exact lp0 N (0 : Int32) (0 : Int32) st _ _ _ hI (lv_sub hl [2, 3, 4, 1, 0] rfl) hM
set_option maxRecDepth 20000 in
theorem hi_X9_look_X9 : ∀ w ∈ wsX90, w ∈ wsX9_look := by decide +kernel
set_option maxHeartbeats 4000000 in
set_option maxRecDepth 100000 in
theorem jw_X9_look {l : Launch} (D : va_G) (am : Nat → Nat) (cI cZ : ClassId) (hj : aJ am 24) (N : Nat) {st stZ : PS} {rZ : Int32} (hM : jm_X9_look N st = some (rZ, stZ)) : Met l yX9_look wsX9_look ({ frames := 5, cells := 0, slots := 0, locals := 116 }) (va_Pc [.ref (am 0)] (JH D (mW am cI cZ) (mTy cI cZ) st)) (JQ D (aA am 24) (mW am cI cZ) (mTy cI cZ) (some (.int rZ)) stZ) 0 0 (aA am 24) := by
  refine jStart (cc := cX9_look) (maxL := 6) (ret := (some .int)) [.ref (am 0)] (by decide) rfl (Nat.le_of_ble_eq_true rfl) (fun p e s m below meth c ls hx hb hr hlocks hts hown hml hK hI hl => ?_)
  have hown : s.vm.findClass RX9 = some m.cls := hown
  replace hl : lv_has ls 6 [(0, .ref (am 0))] := hl
  generalize hAV : ([.ref (am 0)] : List Value).toArray = AV at hts ⊢
  have f_0 := hts (.constant RX9 262 (1000000)) (by decide +kernel)
  have f_1 := hts (.fieldLink RX9 169 "PuppetBarModel" "n" "I") (by decide +kernel)
  unfold jm_X9_look at hM
  refine lv_aload_n hx hb dX9_look_0 rfl (lv_at hl 0 rfl) ?_
  obtain ⟨v1, st2, hqv1, hM⟩ := bd_at hM
  refine jcallV (C := RX9) (As := []) (rest := []) ⟨hx, hb, hml, hown, hts⟩ (jw_X9_suspected D am cI cZ hj N hqv1) (cwV 0 hts gX9_look_X9_suspected rfl rfl rfl yd_X9_suspected ⟨Nat.le_of_ble_eq_true rfl, Nat.le_of_ble_eq_true rfl⟩) hK hI 0 (mg_0 am cI cZ st) rfl rfl hl.1 rfl (Nat.le_of_ble_eq_true rfl) dX9_look_1 (fun H locs hI => ?_)
  refine W.eq (g2 := F0 m 4 ls [.int v1]) rfl ?_
  refine lv_istore_n (lv' := [(1, .int v1), (0, .ref (am 0))]) hx hb dX9_look_4 rfl hl (by decide) rfl (fun ls hl => ?_)
  refine lv_bipush (v := (-9 : Int32)) hx hb dX9_look_5 (by decide) ?_
  refine lv_istore_n (lv' := [(2, .int (-9 : Int32)), (1, .int v1), (0, .ref (am 0))]) hx hb dX9_look_7 rfl hl (by decide) rfl (fun ls hl => ?_)
  refine lv_ldcw (v := (1000000 : Int32)) hx hb hown f_0 dX9_look_8 ?_
  refine lv_istore_n (lv' := [(3, .int (1000000 : Int32)), (2, .int (-9 : Int32)), (1, .int v1), (0, .ref (am 0))]) hx hb dX9_look_11 rfl hl (by decide) rfl (fun ls hl => ?_)
  refine lv_iconst (v := (0 : Int32)) hx hb dX9_look_12 (by decide) ?_
  refine lv_istore (lv' := [(4, .int (0 : Int32)), (3, .int (1000000 : Int32)), (2, .int (-9 : Int32)), (1, .int v1), (0, .ref (am 0))]) hx hb dX9_look_13 hl (by decide) rfl (fun ls hl => ?_)
  have lp0 : ∀ (n : Nat) (w4 : Int32) (w5 : Int32) (w6 : Int32) (st3 : PS) (H : Heap) (locs : List Loc) (ls : Array Slot), JI D (aA am 24) (mW am cI cZ) s.heap st3 H locs → lv_has ls 6 [(0, .ref (am 0)), (1, .int v1), (2, .int w4), (3, .int w5), (4, .int w6)] → iter (fun q => jm_X9_look_L15 N v1 q.1 q.2.1 q.2.2.1 q.2.2.2) n (w4, w5, w6, st3) = some (rZ, stZ) → W p l e (headSpec wsX9_look { frames := 5, cells := 0, slots := 0, locals := 116 }).room s m AV below meth c H locs 0 0 (MQ below (JQ D (aA am 24) (mW am cI cZ) (mTy cI cZ) (some (.int rZ)) stZ) AV s 0 0 (aA am 24)) (F0 m 15 ls []) := by
    intro n
    induction n with
    | zero =>
      intro _ _ _ _ _ _ _ _ _ hM
      exact absurd hM (fun h => iter_zero h)
    | succ n ih0 =>
      intro w4 w5 w6 st3 H locs ls hI hl hM
      obtain ⟨z0, hM, hk0⟩ := iter_succ hM
      replace hM : jm_X9_look_L15 N v1 w4 w5 w6 st3 = some z0 := hM
      unfold jm_X9_look_L15 at hM
      refine lv_iload hx hb dX9_look_15 (lv_at hl 4 rfl) ?_
      refine lv_aload_n hx hb dX9_look_17 rfl (lv_at hl 0 rfl) ?_
      refine va_get (D := D) (ci := 9) (v := .int (st3.1 0 18)) (C := RX9) (T := TX9) (N := 43) hx hb hts hi_X9_look_X9 hown hK hI.1 0 (mg_0 am cI cZ st3) rfl 18 (by decide) f_1 (fun _ h9 => h9) rfl dX9_look_18 ?_
      refine lv_icmp_ge (tgt := 69) hx hb dX9_look_21 (by decide) (fun c7 => ?_) (fun c7 => ?_)
      · replace hM := if_t c7 hM
        refine lv_iload_n hx hb dX9_look_69 rfl (lv_at hl 2 rfl) ?_
        have hz := Option.some.inj hM
        subst hz
        have hz := kn_r hk0
        exact W.iret hx hb hr (fun t ht hW => jq_i hK hI hz ht hW) hI.2.2.2 dX9_look_70
      · replace hM := if_f c7 hM
        refine lv_iload_n hx hb dX9_look_24 rfl (lv_at hl 1 rfl) ?_
        refine lv_if_eq (tgt := 69) hx hb dX9_look_25 (by decide) (fun c8 => ?_) (fun c8 => ?_)
        · replace hM := if_t c8 hM
          refine lv_iload_n hx hb dX9_look_69 rfl (lv_at hl 2 rfl) ?_
          have hz := Option.some.inj hM
          subst hz
          have hz := kn_r hk0
          exact W.iret hx hb hr (fun t ht hW => jq_i hK hI hz ht hW) hI.2.2.2 dX9_look_70
        · replace hM := if_f c8 hM
          refine lv_aload_n hx hb dX9_look_28 rfl (lv_at hl 0 rfl) ?_
          refine lv_iload hx hb dX9_look_29 (lv_at hl 4 rfl) ?_
          refine lv_iload_n hx hb dX9_look_31 rfl (lv_at hl 1 rfl) ?_
          obtain ⟨v9, st10, hqv9, hM⟩ := bd_at hM
          refine jcallV (C := RX9) (As := [.int w6, .int v1]) (rest := []) ⟨hx, hb, hml, hown, hts⟩ (jw_X9_alike D am cI cZ hj N hqv9) (cwV 2 hts gX9_look_X9_alike rfl rfl rfl yd_X9_alike ⟨Nat.le_of_ble_eq_true rfl, Nat.le_of_ble_eq_true rfl⟩) hK hI 0 (mg_0 am cI cZ st3) rfl rfl hl.1 rfl (Nat.le_of_ble_eq_true rfl) dX9_look_32 (fun H locs hI => ?_)
          refine W.eq (g2 := F0 m 35 ls [.int v9]) rfl ?_
          refine lv_istore (lv' := [(5, .int v9), (0, .ref (am 0)), (1, .int v1), (2, .int w4), (3, .int w5), (4, .int w6)]) hx hb dX9_look_35 hl (by decide) rfl (fun ls hl => ?_)
          refine lv_iload hx hb dX9_look_37 (lv_at hl 0 rfl) ?_
          refine lv_iload_n hx hb dX9_look_39 rfl (lv_at hl 4 rfl) ?_
          refine lv_icmp_ge (tgt := 48) hx hb dX9_look_40 (by decide) (fun c11 => ?_) (fun c11 => ?_)
          · replace hM := if_t c11 hM
            refine lv_iload_n hx hb dX9_look_48 rfl (lv_at hl 3 rfl) ?_
            refine lv_istore_n (lv' := [(2, .int w4), (5, .int v9), (0, .ref (am 0)), (1, .int v1), (3, .int w5), (4, .int w6)]) hx hb dX9_look_49 rfl hl (by decide) rfl (fun ls hl => ?_)
            refine lv_iload hx hb dX9_look_50 (lv_at hl 1 rfl) ?_
            refine lv_iload_n hx hb dX9_look_52 rfl (lv_at hl 4 rfl) ?_
            refine lv_icmp_ge (tgt := 61) hx hb dX9_look_53 (by decide) (fun c12 => ?_) (fun c12 => ?_)
            · replace hM := if_t c12 hM
              refine lv_iload_n hx hb dX9_look_61 rfl (lv_at hl 4 rfl) ?_
              refine lv_istore_n (lv' := [(3, .int w5), (2, .int w4), (5, .int v9), (0, .ref (am 0)), (1, .int v1), (4, .int w6)]) hx hb dX9_look_62 rfl hl (by decide) rfl (fun ls hl => ?_)
              refine lv_iinc (v := (w6 + (1 : Int32))) (lv' := [(4, .int (w6 + (1 : Int32))), (3, .int w5), (2, .int w4), (5, .int v9), (0, .ref (am 0)), (1, .int v1)]) hx hb dX9_look_63 hl (k := 5) rfl rfl (by decide) rfl (fun ls hl => ?_)
              refine lv_goto (tgt := 15) hx hb dX9_look_66 (by decide) ?_
              have hz := Option.some.inj hM
              subst hz
              exact ih0 w4 w5 (w6 + (1 : Int32)) st10 _ _ _ hI (lv_sub hl [4, 5, 2, 1, 0] rfl) hk0
            · replace hM := if_f c12 hM
              refine lv_iload hx hb dX9_look_56 (lv_at hl 1 rfl) ?_
              refine lv_goto (tgt := 62) hx hb dX9_look_58 (by decide) ?_
              refine lv_istore_n (lv' := [(3, .int v9), (2, .int w4), (5, .int v9), (0, .ref (am 0)), (1, .int v1), (4, .int w6)]) hx hb dX9_look_62 rfl hl (by decide) rfl (fun ls hl => ?_)
              refine lv_iinc (v := (w6 + (1 : Int32))) (lv' := [(4, .int (w6 + (1 : Int32))), (3, .int v9), (2, .int w4), (5, .int v9), (0, .ref (am 0)), (1, .int v1)]) hx hb dX9_look_63 hl (k := 5) rfl rfl (by decide) rfl (fun ls hl => ?_)
              refine lv_goto (tgt := 15) hx hb dX9_look_66 (by decide) ?_
              have hz := Option.some.inj hM
              subst hz
              exact ih0 w4 v9 (w6 + (1 : Int32)) st10 _ _ _ hI (lv_sub hl [4, 5, 2, 1, 0] rfl) hk0
          · replace hM := if_f c11 hM
            refine lv_iload hx hb dX9_look_43 (lv_at hl 5 rfl) ?_
            refine lv_goto (tgt := 49) hx hb dX9_look_45 (by decide) ?_
            refine lv_istore_n (lv' := [(2, .int w6), (5, .int v9), (0, .ref (am 0)), (1, .int v1), (3, .int w5), (4, .int w6)]) hx hb dX9_look_49 rfl hl (by decide) rfl (fun ls hl => ?_)
            refine lv_iload hx hb dX9_look_50 (lv_at hl 1 rfl) ?_
            refine lv_iload_n hx hb dX9_look_52 rfl (lv_at hl 4 rfl) ?_
            refine lv_icmp_ge (tgt := 61) hx hb dX9_look_53 (by decide) (fun c13 => ?_) (fun c13 => ?_)
            · replace hM := if_t c13 hM
              refine lv_iload_n hx hb dX9_look_61 rfl (lv_at hl 4 rfl) ?_
              refine lv_istore_n (lv' := [(3, .int w5), (2, .int w6), (5, .int v9), (0, .ref (am 0)), (1, .int v1), (4, .int w6)]) hx hb dX9_look_62 rfl hl (by decide) rfl (fun ls hl => ?_)
              refine lv_iinc (v := (w6 + (1 : Int32))) (lv' := [(4, .int (w6 + (1 : Int32))), (3, .int w5), (2, .int w6), (5, .int v9), (0, .ref (am 0)), (1, .int v1)]) hx hb dX9_look_63 hl (k := 5) rfl rfl (by decide) rfl (fun ls hl => ?_)
              refine lv_goto (tgt := 15) hx hb dX9_look_66 (by decide) ?_
              have hz := Option.some.inj hM
              subst hz
              exact ih0 w6 w5 (w6 + (1 : Int32)) st10 _ _ _ hI (lv_sub hl [4, 5, 2, 1, 0] rfl) hk0
            · replace hM := if_f c13 hM
              refine lv_iload hx hb dX9_look_56 (lv_at hl 1 rfl) ?_
              refine lv_goto (tgt := 62) hx hb dX9_look_58 (by decide) ?_
              refine lv_istore_n (lv' := [(3, .int v9), (2, .int w6), (5, .int v9), (0, .ref (am 0)), (1, .int v1), (4, .int w6)]) hx hb dX9_look_62 rfl hl (by decide) rfl (fun ls hl => ?_)
              refine lv_iinc (v := (w6 + (1 : Int32))) (lv' := [(4, .int (w6 + (1 : Int32))), (3, .int v9), (2, .int w6), (5, .int v9), (0, .ref (am 0)), (1, .int v1)]) hx hb dX9_look_63 hl (k := 5) rfl rfl (by decide) rfl (fun ls hl => ?_)
              refine lv_goto (tgt := 15) hx hb dX9_look_66 (by decide) ?_
              have hz := Option.some.inj hM
              subst hz
              exact ih0 w6 v9 (w6 + (1 : Int32)) st10 _ _ _ hI (lv_sub hl [4, 5, 2, 1, 0] rfl) hk0
  exact lp0 N (-9 : Int32) (1000000 : Int32) (0 : Int32) st2 _ _ _ hI (lv_sub hl [4, 3, 2, 1, 0] rfl) hM
set_option maxRecDepth 20000 in
theorem hi_X9_mark_X9 : ∀ w ∈ wsX90, w ∈ wsX9_mark := by decide +kernel
set_option maxHeartbeats 4000000 in
set_option maxRecDepth 100000 in
theorem jw_X9_mark {l : Launch} (D : va_G) (am : Nat → Nat) (cI cZ : ClassId) (hj : aJ am 24) (N : Nat) {x1 : Int32} {x2 : Int32} {st stZ : PS} {rZ : Int32} (hM : jm_X9_mark N x1 x2 st = some (rZ, stZ)) : Met l yX9_mark wsX9_mark ({ frames := 3, cells := 0, slots := 0, locals := 68 }) (va_Pc [.ref (am 0), .int x1, .int x2] (JH D (mW am cI cZ) (mTy cI cZ) st)) (JQ D (aA am 24) (mW am cI cZ) (mTy cI cZ) (some (.int rZ)) stZ) 0 0 (aA am 24) := by
  refine jStart (cc := cX9_mark) (maxL := 4) (ret := (some .int)) [.ref (am 0), .int x1, .int x2] (by decide) rfl (Nat.le_of_ble_eq_true rfl) (fun p e s m below meth c ls hx hb hr hlocks hts hown hml hK hI hl => ?_)
  have hown : s.vm.findClass RX9 = some m.cls := hown
  replace hl : lv_has ls 4 [(0, .ref (am 0)), (1, .int x1), (2, .int x2)] := hl
  generalize hAV : ([.ref (am 0), .int x1, .int x2] : List Value).toArray = AV at hts ⊢
  have f_0 := hts (.constant RX9 214 (-1000000)) (by decide +kernel)
  have f_1 := hts (.fieldLink RX9 46 "PuppetBarModel" "now" "[I") (by decide +kernel)
  have f_2 := hts (.fieldLink RX9 296 "PuppetBarModel" "traced" "J") (by decide +kernel)
  have f_3 := hts (.constantLong RX9 300 (10)) (by decide +kernel)
  have f_4 := hts (.fieldLink RX9 31 "PuppetBarModel" "weights" "[I") (by decide +kernel)
  have f_5 := hts (.constantLong RX9 302 (100)) (by decide +kernel)
  have f_6 := hts (.fieldLink RX9 28 "PuppetBarModel" "bones" "[I") (by decide +kernel)
  have f_7 := hts (.constantLong RX9 304 (1010)) (by decide +kernel)
  have f_8 := hts (.constantLong RX9 306 (10100)) (by decide +kernel)
  have f_9 := hts (.constantLong RX9 308 (100000)) (by decide +kernel)
  unfold jm_X9_mark at hM
  refine lv_iload_n hx hb dX9_mark_0 rfl (lv_at hl 1 rfl) ?_
  refine lv_iconst (v := (0 : Int32)) hx hb dX9_mark_1 (by decide) ?_
  refine lv_iconst (v := (5 : Int32)) hx hb dX9_mark_2 (by decide) ?_
  obtain ⟨v1, st2, hqv1, hM⟩ := bd_at hM
  refine jcallS (As := [.int x1, .int (0 : Int32), .int (5 : Int32)]) (rest := []) ⟨hx, hb, hml, hown, hts⟩ (jw_X9_in D am cI cZ hj N hqv1) (va_cwS 3 hts gX9_mark_X9_in rfl rfl rfl yd_X9_in ⟨Nat.le_of_ble_eq_true rfl, Nat.le_of_ble_eq_true rfl⟩) hK hI rfl hl.1 rfl (Nat.le_of_ble_eq_true rfl) dX9_mark_3 (fun H locs hI => ?_)
  refine W.eq (g2 := F0 m 6 ls [.int v1]) rfl ?_
  refine lv_if_eq (tgt := 17) hx hb dX9_mark_6 (by decide) (fun c3 => ?_) (fun c3 => ?_)
  · replace hM := if_t c3 hM
    refine lv_ldc (v := (-1000000 : Int32)) hx hb hown f_0 dX9_mark_17 ?_
    have hz := Option.some.inj hM
    exact W.iret hx hb hr (fun t ht hW => jq_i hK hI hz ht hW) hI.2.2.2 dX9_mark_19
  · replace hM := if_f c3 hM
    refine lv_aload_n hx hb dX9_mark_9 rfl (lv_at hl 0 rfl) ?_
    refine lv_iload_n hx hb dX9_mark_10 rfl (lv_at hl 2 rfl) ?_
    obtain ⟨v4, st5, hqv4, hM⟩ := bd_at hM
    refine jcallV (C := RX9) (As := [.int x2]) (rest := []) ⟨hx, hb, hml, hown, hts⟩ (jw_X9_isLimb D am cI cZ hj N hqv4) (cwV 1 hts gX9_mark_X9_isLimb rfl rfl rfl yd_X9_isLimb ⟨Nat.le_of_ble_eq_true rfl, Nat.le_of_ble_eq_true rfl⟩) hK hI 0 (mg_0 am cI cZ st2) rfl rfl hl.1 rfl (Nat.le_of_ble_eq_true rfl) dX9_mark_11 (fun H locs hI => ?_)
    refine W.eq (g2 := F0 m 14 ls [.int v4]) rfl ?_
    refine lv_if_ne (tgt := 20) hx hb dX9_mark_14 (by decide) (fun c6 => ?_) (fun c6 => ?_)
    · replace hM := if_f c6 hM
      refine lv_aload_n hx hb dX9_mark_20 rfl (lv_at hl 0 rfl) ?_
      refine lv_aload_n hx hb dX9_mark_21 rfl (lv_at hl 0 rfl) ?_
      refine va_get (D := D) (ci := 9) (v := .ref (am 13)) (C := RX9) (T := TX9) (N := 43) hx hb hts hi_X9_mark_X9 hown hK hI.1 0 (mg_0 am cI cZ st5) rfl 28 (by decide) f_1 (fun _ h9 => h9) rfl dX9_mark_22 ?_
      refine lv_iload_n hx hb dX9_mark_25 rfl (lv_at hl 2 rfl) ?_
      obtain ⟨v7, st8, hqv7, hM⟩ := bd_at hM
      refine jcallV (C := RX9) (As := [.ref (am 13), .int x2]) (rest := []) ⟨hx, hb, hml, hown, hts⟩ (jw_X9_height D am cI cZ hj N (show mk_Of 13 by decide) hqv7) (cwV 2 hts gX9_mark_X9_height rfl rfl rfl yd_X9_height ⟨Nat.le_of_ble_eq_true rfl, Nat.le_of_ble_eq_true rfl⟩) hK hI 0 (mg_0 am cI cZ st5) rfl rfl hl.1 rfl (Nat.le_of_ble_eq_true rfl) dX9_mark_26 (fun H locs hI => ?_)
      refine W.eq (g2 := F0 m 29 ls [.int v7]) rfl ?_
      refine lv_istore_n (lv' := [(3, .int v7), (0, .ref (am 0)), (1, .int x1), (2, .int x2)]) hx hb dX9_mark_29 rfl hl (by decide) rfl (fun ls hl => ?_)
      refine lv_aload_n hx hb dX9_mark_30 rfl (lv_at hl 1 rfl) ?_
      refine lv_dup hx hb dX9_mark_31 rfl ?_
      refine va_get (D := D) (ci := 9) (v := .long st8.2) (C := RX9) (T := TX9) (N := 43) hx hb hts hi_X9_mark_X9 hown hK hI.1 0 (mg_0 am cI cZ st8) rfl 37 (by decide) f_2 (fun _ h9 => h9) rfl dX9_mark_32 ?_
      refine lv_lconst (v := (1 : Int64)) hx hb dX9_mark_35 (by decide) ?_
      refine lv_ladd hx hb dX9_mark_36 ?_
      refine jput (D := D) (ci := 9) (v := .long (st8.2 + (1 : Int64))) (ty := .long) (C := RX9) (T := TX9) (N := 43) (st2 := pT st8 (st8.2 + (1 : Int64))) hx hb hts hi_X9_mark_X9 tyX9 tyX9_ok nmX9 hown hK (mD hj) hI 0 (mg_0 am cI cZ st8) rfl 37 (by decide) f_2 (fun _ h9 => h9) rfl (by decide +kernel) rfl rfl (Nat.le_of_ble_eq_true rfl) (ms_0_37 am cI cZ st8 _) dX9_mark_37 (fun st9 est9 H locs hI => ?_)
      replace hM := nm_at est9 hM
      refine lv_iload_n hx hb dX9_mark_40 rfl (lv_at hl 2 rfl) ?_
      by_cases c10 : x1 = (1 : Int32)
      · replace hM := if_t c10 hM
        refine lv_tableIn (off := 35) (tgt := 76) hx hb dX9_mark_41 (by rw [c10]; decide) (by rw [c10]; decide) (by rw [c10]; decide) (by decide) ?_
        refine lv_aload_n hx hb dX9_mark_76 rfl (lv_at hl 1 rfl) ?_
        refine lv_dup hx hb dX9_mark_77 rfl ?_
        refine va_get (D := D) (ci := 9) (v := .long st9.2) (C := RX9) (T := TX9) (N := 43) hx hb hts hi_X9_mark_X9 hown hK hI.1 0 (mg_0 am cI cZ st9) rfl 37 (by decide) f_2 (fun _ h9 => h9) rfl dX9_mark_78 ?_
        refine lv_ldc2 (v := (10 : Int64)) hx hb hown f_3 dX9_mark_81 ?_
        refine lv_ladd hx hb dX9_mark_84 ?_
        refine jput (D := D) (ci := 9) (v := .long (st9.2 + (10 : Int64))) (ty := .long) (C := RX9) (T := TX9) (N := 43) (st2 := pT st9 (st9.2 + (10 : Int64))) hx hb hts hi_X9_mark_X9 tyX9 tyX9_ok nmX9 hown hK (mD hj) hI 0 (mg_0 am cI cZ st9) rfl 37 (by decide) f_2 (fun _ h9 => h9) rfl (by decide +kernel) rfl rfl (Nat.le_of_ble_eq_true rfl) (ms_0_37 am cI cZ st9 _) dX9_mark_85 (fun st11 est11 H locs hI => ?_)
        replace hM := nm_at est11 hM
        refine lv_iload_n hx hb dX9_mark_88 rfl (lv_at hl 0 rfl) ?_
        refine lv_aload_n hx hb dX9_mark_89 rfl (lv_at hl 1 rfl) ?_
        refine va_get (D := D) (ci := 9) (v := .ref (am 8)) (C := RX9) (T := TX9) (N := 43) hx hb hts hi_X9_mark_X9 hown hK hI.1 0 (mg_0 am cI cZ st11) rfl 23 (by decide) f_4 (fun _ h9 => h9) rfl dX9_mark_90 ?_
        refine lv_iload_n hx hb dX9_mark_93 rfl (lv_at hl 3 rfl) ?_
        obtain ⟨g12, hM⟩ := gd_at hM
        refine va_iald hx hb hK hI.1 8 0 (mg_8 am cI cZ st11) rfl (inB_vp g12) dX9_mark_94 ?_
        refine lv_iadd hx hb dX9_mark_95 ?_
        have hz := Option.some.inj hM
        exact W.iret hx hb hr (fun t ht hW => jq_i hK hI hz ht hW) hI.2.2.2 dX9_mark_96
      · replace hM := if_f c10 hM
        by_cases c13 : x1 = (2 : Int32)
        · replace hM := if_t c13 hM
          refine lv_tableIn (off := 56) (tgt := 97) hx hb dX9_mark_41 (by rw [c13]; decide) (by rw [c13]; decide) (by rw [c13]; decide) (by decide) ?_
          refine lv_aload_n hx hb dX9_mark_97 rfl (lv_at hl 1 rfl) ?_
          refine lv_dup hx hb dX9_mark_98 rfl ?_
          refine va_get (D := D) (ci := 9) (v := .long st9.2) (C := RX9) (T := TX9) (N := 43) hx hb hts hi_X9_mark_X9 hown hK hI.1 0 (mg_0 am cI cZ st9) rfl 37 (by decide) f_2 (fun _ h9 => h9) rfl dX9_mark_99 ?_
          refine lv_ldc2 (v := (100 : Int64)) hx hb hown f_5 dX9_mark_102 ?_
          refine lv_ladd hx hb dX9_mark_105 ?_
          refine jput (D := D) (ci := 9) (v := .long (st9.2 + (100 : Int64))) (ty := .long) (C := RX9) (T := TX9) (N := 43) (st2 := pT st9 (st9.2 + (100 : Int64))) hx hb hts hi_X9_mark_X9 tyX9 tyX9_ok nmX9 hown hK (mD hj) hI 0 (mg_0 am cI cZ st9) rfl 37 (by decide) f_2 (fun _ h9 => h9) rfl (by decide +kernel) rfl rfl (Nat.le_of_ble_eq_true rfl) (ms_0_37 am cI cZ st9 _) dX9_mark_106 (fun st14 est14 H locs hI => ?_)
          replace hM := nm_at est14 hM
          refine lv_iload_n hx hb dX9_mark_109 rfl (lv_at hl 0 rfl) ?_
          refine lv_aload_n hx hb dX9_mark_110 rfl (lv_at hl 1 rfl) ?_
          refine va_get (D := D) (ci := 9) (v := .ref (am 7)) (C := RX9) (T := TX9) (N := 43) hx hb hts hi_X9_mark_X9 hown hK hI.1 0 (mg_0 am cI cZ st14) rfl 22 (by decide) f_6 (fun _ h9 => h9) rfl dX9_mark_111 ?_
          refine lv_iload_n hx hb dX9_mark_114 rfl (lv_at hl 3 rfl) ?_
          obtain ⟨g15, hM⟩ := gd_at hM
          refine va_iald hx hb hK hI.1 7 0 (mg_7 am cI cZ st14) rfl (inB_vp g15) dX9_mark_115 ?_
          refine lv_isub hx hb dX9_mark_116 ?_
          have hz := Option.some.inj hM
          exact W.iret hx hb hr (fun t ht hW => jq_i hK hI hz ht hW) hI.2.2.2 dX9_mark_117
        · replace hM := if_f c13 hM
          by_cases c16 : x1 = (3 : Int32)
          · replace hM := if_t c16 hM
            refine lv_tableIn (off := 77) (tgt := 118) hx hb dX9_mark_41 (by rw [c16]; decide) (by rw [c16]; decide) (by rw [c16]; decide) (by decide) ?_
            refine lv_aload_n hx hb dX9_mark_118 rfl (lv_at hl 1 rfl) ?_
            refine lv_dup hx hb dX9_mark_119 rfl ?_
            refine va_get (D := D) (ci := 9) (v := .long st9.2) (C := RX9) (T := TX9) (N := 43) hx hb hts hi_X9_mark_X9 hown hK hI.1 0 (mg_0 am cI cZ st9) rfl 37 (by decide) f_2 (fun _ h9 => h9) rfl dX9_mark_120 ?_
            refine lv_ldc2 (v := (1010 : Int64)) hx hb hown f_7 dX9_mark_123 ?_
            refine lv_ladd hx hb dX9_mark_126 ?_
            refine jput (D := D) (ci := 9) (v := .long (st9.2 + (1010 : Int64))) (ty := .long) (C := RX9) (T := TX9) (N := 43) (st2 := pT st9 (st9.2 + (1010 : Int64))) hx hb hts hi_X9_mark_X9 tyX9 tyX9_ok nmX9 hown hK (mD hj) hI 0 (mg_0 am cI cZ st9) rfl 37 (by decide) f_2 (fun _ h9 => h9) rfl (by decide +kernel) rfl rfl (Nat.le_of_ble_eq_true rfl) (ms_0_37 am cI cZ st9 _) dX9_mark_127 (fun st17 est17 H locs hI => ?_)
            replace hM := nm_at est17 hM
            refine lv_iconst (v := (2 : Int32)) hx hb dX9_mark_130 (by decide) ?_
            refine lv_iload_n hx hb dX9_mark_131 rfl (lv_at hl 0 rfl) ?_
            refine lv_aload_n hx hb dX9_mark_132 rfl (lv_at hl 1 rfl) ?_
            refine va_get (D := D) (ci := 9) (v := .ref (am 8)) (C := RX9) (T := TX9) (N := 43) hx hb hts hi_X9_mark_X9 hown hK hI.1 0 (mg_0 am cI cZ st17) rfl 23 (by decide) f_4 (fun _ h9 => h9) rfl dX9_mark_133 ?_
            refine lv_iload_n hx hb dX9_mark_136 rfl (lv_at hl 3 rfl) ?_
            obtain ⟨g18, hM⟩ := gd_at hM
            refine va_iald hx hb hK hI.1 8 0 (mg_8 am cI cZ st17) rfl (inB_vp g18) dX9_mark_137 ?_
            refine lv_iadd hx hb dX9_mark_138 ?_
            refine lv_imul hx hb dX9_mark_139 ?_
            have hz := Option.some.inj hM
            exact W.iret hx hb hr (fun t ht hW => jq_i hK hI hz ht hW) hI.2.2.2 dX9_mark_140
          · replace hM := if_f c16 hM
            by_cases c19 : x1 = (4 : Int32)
            · replace hM := if_t c19 hM
              refine lv_tableIn (off := 100) (tgt := 141) hx hb dX9_mark_41 (by rw [c19]; decide) (by rw [c19]; decide) (by rw [c19]; decide) (by decide) ?_
              refine lv_aload_n hx hb dX9_mark_141 rfl (lv_at hl 1 rfl) ?_
              refine lv_dup hx hb dX9_mark_142 rfl ?_
              refine va_get (D := D) (ci := 9) (v := .long st9.2) (C := RX9) (T := TX9) (N := 43) hx hb hts hi_X9_mark_X9 hown hK hI.1 0 (mg_0 am cI cZ st9) rfl 37 (by decide) f_2 (fun _ h9 => h9) rfl dX9_mark_143 ?_
              refine lv_ldc2 (v := (10100 : Int64)) hx hb hown f_8 dX9_mark_146 ?_
              refine lv_ladd hx hb dX9_mark_149 ?_
              refine jput (D := D) (ci := 9) (v := .long (st9.2 + (10100 : Int64))) (ty := .long) (C := RX9) (T := TX9) (N := 43) (st2 := pT st9 (st9.2 + (10100 : Int64))) hx hb hts hi_X9_mark_X9 tyX9 tyX9_ok nmX9 hown hK (mD hj) hI 0 (mg_0 am cI cZ st9) rfl 37 (by decide) f_2 (fun _ h9 => h9) rfl (by decide +kernel) rfl rfl (Nat.le_of_ble_eq_true rfl) (ms_0_37 am cI cZ st9 _) dX9_mark_150 (fun st20 est20 H locs hI => ?_)
              replace hM := nm_at est20 hM
              refine lv_iload_n hx hb dX9_mark_153 rfl (lv_at hl 0 rfl) ?_
              refine lv_aload_n hx hb dX9_mark_154 rfl (lv_at hl 1 rfl) ?_
              refine va_get (D := D) (ci := 9) (v := .ref (am 7)) (C := RX9) (T := TX9) (N := 43) hx hb hts hi_X9_mark_X9 hown hK hI.1 0 (mg_0 am cI cZ st20) rfl 22 (by decide) f_6 (fun _ h9 => h9) rfl dX9_mark_155 ?_
              refine lv_iload_n hx hb dX9_mark_158 rfl (lv_at hl 3 rfl) ?_
              obtain ⟨g21, hM⟩ := gd_at hM
              refine va_iald hx hb hK hI.1 7 0 (mg_7 am cI cZ st20) rfl (inB_vp g21) dX9_mark_159 ?_
              refine lv_isub hx hb dX9_mark_160 ?_
              refine lv_iload_n hx hb dX9_mark_161 rfl (lv_at hl 3 rfl) ?_
              refine lv_iadd hx hb dX9_mark_162 ?_
              have hz := Option.some.inj hM
              exact W.iret hx hb hr (fun t ht hW => jq_i hK hI hz ht hW) hI.2.2.2 dX9_mark_163
            · replace hM := if_f c19 hM
              by_cases c22 : x1 = (5 : Int32)
              · replace hM := if_t c22 hM
                refine lv_tableIn (off := 123) (tgt := 164) hx hb dX9_mark_41 (by rw [c22]; decide) (by rw [c22]; decide) (by rw [c22]; decide) (by decide) ?_
                refine lv_aload_n hx hb dX9_mark_164 rfl (lv_at hl 1 rfl) ?_
                refine lv_dup hx hb dX9_mark_165 rfl ?_
                refine va_get (D := D) (ci := 9) (v := .long st9.2) (C := RX9) (T := TX9) (N := 43) hx hb hts hi_X9_mark_X9 hown hK hI.1 0 (mg_0 am cI cZ st9) rfl 37 (by decide) f_2 (fun _ h9 => h9) rfl dX9_mark_166 ?_
                refine lv_ldc2 (v := (100000 : Int64)) hx hb hown f_9 dX9_mark_169 ?_
                refine lv_ladd hx hb dX9_mark_172 ?_
                refine jput (D := D) (ci := 9) (v := .long (st9.2 + (100000 : Int64))) (ty := .long) (C := RX9) (T := TX9) (N := 43) (st2 := pT st9 (st9.2 + (100000 : Int64))) hx hb hts hi_X9_mark_X9 tyX9 tyX9_ok nmX9 hown hK (mD hj) hI 0 (mg_0 am cI cZ st9) rfl 37 (by decide) f_2 (fun _ h9 => h9) rfl (by decide +kernel) rfl rfl (Nat.le_of_ble_eq_true rfl) (ms_0_37 am cI cZ st9 _) dX9_mark_173 (fun st23 est23 H locs hI => ?_)
                replace hM := nm_at est23 hM
                refine lv_iload_n hx hb dX9_mark_176 rfl (lv_at hl 0 rfl) ?_
                refine lv_aload_n hx hb dX9_mark_177 rfl (lv_at hl 1 rfl) ?_
                refine va_get (D := D) (ci := 9) (v := .ref (am 13)) (C := RX9) (T := TX9) (N := 43) hx hb hts hi_X9_mark_X9 hown hK hI.1 0 (mg_0 am cI cZ st23) rfl 28 (by decide) f_1 (fun _ h9 => h9) rfl dX9_mark_178 ?_
                refine lv_iconst (v := (0 : Int32)) hx hb dX9_mark_181 (by decide) ?_
                refine va_iald hx hb hK hI.1 13 0 (mg_13 am cI cZ st23) rfl (inB_vp rfl) dX9_mark_182 ?_
                refine W.eq (g2 := F0 m 183 ls [.int (st23.1 13 0), .int v7]) rfl ?_
                refine lv_iadd hx hb dX9_mark_183 ?_
                have hz := Option.some.inj hM
                exact W.iret hx hb hr (fun t ht hW => jq_i hK hI hz ht hW) hI.2.2.2 dX9_mark_184
              · replace hM := if_f c22 hM
                refine lv_tableOut (tgt := 185) hx hb dX9_mark_41 (by have nc10 : ¬ (1 : Int) = (x1).toInt := ne_ti c10; have nc13 : ¬ (2 : Int) = (x1).toInt := ne_ti c13; have nc16 : ¬ (3 : Int) = (x1).toInt := ne_ti c16; have nc19 : ¬ (4 : Int) = (x1).toInt := ne_ti c19; have nc22 : ¬ (5 : Int) = (x1).toInt := ne_ti c22; omega) (by decide) ?_
                refine lv_iload_n hx hb dX9_mark_185 rfl (lv_at hl 0 rfl) ?_
                have hz := Option.some.inj hM
                exact W.iret hx hb hr (fun t ht hW => jq_i hK hI hz ht hW) hI.2.2.2 dX9_mark_186
    · replace hM := if_t c6 hM
      refine lv_ldc (v := (-1000000 : Int32)) hx hb hown f_0 dX9_mark_17 ?_
      have hz := Option.some.inj hM
      exact W.iret hx hb hr (fun t ht hW => jq_i hK hI hz ht hW) hI.2.2.2 dX9_mark_19
set_option maxRecDepth 20000 in
theorem hi_X9_trace_X9 : ∀ w ∈ wsX90, w ∈ wsX9_trace := by decide +kernel
set_option maxHeartbeats 4000000 in
set_option maxRecDepth 100000 in
theorem jw_X9_trace {l : Launch} (D : va_G) (am : Nat → Nat) (cI cZ : ClassId) (hj : aJ am 24) (N : Nat) {st stZ : PS} {rZ : Int64} (hM : jm_X9_trace N st = some (rZ, stZ)) : Met l yX9_trace wsX9_trace ({ frames := 0, cells := 0, slots := 0, locals := 0 }) (va_Pc [.ref (am 0)] (JH D (mW am cI cZ) (mTy cI cZ) st)) (JQ D (aA am 24) (mW am cI cZ) (mTy cI cZ) (some (.long rZ)) stZ) 0 0 (aA am 24) := by
  refine jStart (cc := cX9_trace) (maxL := 1) (ret := (some .long)) [.ref (am 0)] (by decide) rfl (Nat.le_of_ble_eq_true rfl) (fun p e s m below meth c ls hx hb hr hlocks hts hown hml hK hI hl => ?_)
  have hown : s.vm.findClass RX9 = some m.cls := hown
  replace hl : lv_has ls 1 [(0, .ref (am 0))] := hl
  generalize hAV : ([.ref (am 0)] : List Value).toArray = AV at hts ⊢
  have f_0 := hts (.fieldLink RX9 296 "PuppetBarModel" "traced" "J") (by decide +kernel)
  unfold jm_X9_trace at hM
  refine lv_aload_n hx hb dX9_trace_0 rfl (lv_at hl 0 rfl) ?_
  refine va_get (D := D) (ci := 9) (v := .long st.2) (C := RX9) (T := TX9) (N := 43) hx hb hts hi_X9_trace_X9 hown hK hI.1 0 (mg_0 am cI cZ st) rfl 37 (by decide) f_0 (fun _ h9 => h9) rfl dX9_trace_1 ?_
  have hz := Option.some.inj hM
  exact W.lret hx hb hr (fun t ht hW => jq_l hK hI hz ht hW) hI.2.2.2 dX9_trace_4
set_option maxRecDepth 20000 in
theorem hi_X9_keep_X9 : ∀ w ∈ wsX90, w ∈ wsX9_keep := by decide +kernel
set_option maxHeartbeats 4000000 in
set_option maxRecDepth 100000 in
theorem jw_X9_keep {l : Launch} (D : va_G) (am : Nat → Nat) (cI cZ : ClassId) (hj : aJ am 24) (N : Nat) {x1 : Int32} {st stZ : PS} {rZ : Int32} (hM : jm_X9_keep N x1 st = some (rZ, stZ)) : Met l yX9_keep wsX9_keep ({ frames := 1, cells := 0, slots := 0, locals := 22 }) (va_Pc [.ref (am 0), .int x1] (JH D (mW am cI cZ) (mTy cI cZ) st)) (JQ D (aA am 24) (mW am cI cZ) (mTy cI cZ) (some (.int rZ)) stZ) 0 0 (aA am 24) := by
  refine jStart (cc := cX9_keep) (maxL := 3) (ret := (some .int)) [.ref (am 0), .int x1] (by decide) rfl (Nat.le_of_ble_eq_true rfl) (fun p e s m below meth c ls hx hb hr hlocks hts hown hml hK hI hl => ?_)
  have hown : s.vm.findClass RX9 = some m.cls := hown
  replace hl : lv_has ls 3 [(0, .ref (am 0)), (1, .int x1)] := hl
  generalize hAV : ([.ref (am 0), .int x1] : List Value).toArray = AV at hts ⊢
  have f_0 := hts (.fieldLink RX9 64 "PuppetBarModel" "isKept" "[Z") (by decide +kernel)
  have f_1 := hts (.fieldLink RX9 74 "PuppetBarModel" "keptMany" "[I") (by decide +kernel)
  have f_2 := hts (.fieldLink RX9 181 "PuppetBarModel" "undoMany" "I") (by decide +kernel)
  have f_3 := hts (.fieldLink RX9 77 "PuppetBarModel" "keptAt" "[I") (by decide +kernel)
  have f_4 := hts (.fieldLink RX9 225 "PuppetBarModel" "undoAt" "I") (by decide +kernel)
  have f_5 := hts (.fieldLink RX9 46 "PuppetBarModel" "now" "[I") (by decide +kernel)
  have f_6 := hts (.fieldLink RX9 71 "PuppetBarModel" "keptUndos" "[I") (by decide +kernel)
  have f_7 := hts (.fieldLink RX9 52 "PuppetBarModel" "undos" "[I") (by decide +kernel)
  have f_8 := hts (.fieldLink RX9 68 "PuppetBarModel" "kept" "[I") (by decide +kernel)
  unfold jm_X9_keep at hM
  refine lv_iload_n hx hb dX9_keep_0 rfl (lv_at hl 1 rfl) ?_
  refine lv_iconst (v := (0 : Int32)) hx hb dX9_keep_1 (by decide) ?_
  refine lv_iconst (v := (1 : Int32)) hx hb dX9_keep_2 (by decide) ?_
  obtain ⟨v1, st2, hqv1, hM⟩ := bd_at hM
  refine jcallS (As := [.int x1, .int (0 : Int32), .int (1 : Int32)]) (rest := []) ⟨hx, hb, hml, hown, hts⟩ (jw_X9_in D am cI cZ hj N hqv1) (va_cwS 3 hts gX9_keep_X9_in rfl rfl rfl yd_X9_in ⟨Nat.le_of_ble_eq_true rfl, Nat.le_of_ble_eq_true rfl⟩) hK hI rfl hl.1 rfl (Nat.le_of_ble_eq_true rfl) dX9_keep_3 (fun H locs hI => ?_)
  refine W.eq (g2 := F0 m 6 ls [.int v1]) rfl ?_
  refine lv_if_ne (tgt := 11) hx hb dX9_keep_6 (by decide) (fun c3 => ?_) (fun c3 => ?_)
  · replace hM := if_f c3 hM
    refine lv_aload_n hx hb dX9_keep_11 rfl (lv_at hl 0 rfl) ?_
    refine va_get (D := D) (ci := 9) (v := .ref (am 19)) (C := RX9) (T := TX9) (N := 43) hx hb hts hi_X9_keep_X9 hown hK hI.1 0 (mg_0 am cI cZ st2) rfl 38 (by decide) f_0 (fun _ h9 => h9) rfl dX9_keep_12 ?_
    refine lv_iload_n hx hb dX9_keep_15 rfl (lv_at hl 1 rfl) ?_
    refine lv_iconst (v := (1 : Int32)) hx hb dX9_keep_16 (by decide) ?_
    obtain ⟨g5, hM⟩ := gd_at hM
    refine jzast (x := (1 : Int32)) (st2 := pU st2 19 (x1).toNatClampNeg (vp_nar .boolean (1 : Int32))) hx hb hK (mD hj) hI 19 1 (mg_19 am cI cZ st2) rfl (inB_vp g5) (ms_19 am cI cZ st2 _) dX9_keep_17 (fun st4 est4 H locs hI => ?_)
    replace hM := nm_at est4 hM
    refine lv_aload_n hx hb dX9_keep_18 rfl (lv_at hl 0 rfl) ?_
    refine va_get (D := D) (ci := 9) (v := .ref (am 22)) (C := RX9) (T := TX9) (N := 43) hx hb hts hi_X9_keep_X9 hown hK hI.1 0 (mg_0 am cI cZ st4) rfl 41 (by decide) f_1 (fun _ h9 => h9) rfl dX9_keep_19 ?_
    refine lv_iload_n hx hb dX9_keep_22 rfl (lv_at hl 1 rfl) ?_
    refine lv_aload_n hx hb dX9_keep_23 rfl (lv_at hl 0 rfl) ?_
    refine va_get (D := D) (ci := 9) (v := .int (st4.1 0 30)) (C := RX9) (T := TX9) (N := 43) hx hb hts hi_X9_keep_X9 hown hK hI.1 0 (mg_0 am cI cZ st4) rfl 30 (by decide) f_2 (fun _ h9 => h9) rfl dX9_keep_24 ?_
    obtain ⟨g7, hM⟩ := gd_at hM
    refine jiast (x := (st4.1 0 30)) (st2 := pU st4 22 (x1).toNatClampNeg ((st4.1 0 30))) hx hb hK (mD hj) hI 22 0 (mg_22 am cI cZ st4) rfl (inB_vp g7) (ms_22 am cI cZ st4 _) dX9_keep_27 (fun st6 est6 H locs hI => ?_)
    replace hM := nm_at est6 hM
    refine lv_aload_n hx hb dX9_keep_28 rfl (lv_at hl 0 rfl) ?_
    refine va_get (D := D) (ci := 9) (v := .ref (am 23)) (C := RX9) (T := TX9) (N := 43) hx hb hts hi_X9_keep_X9 hown hK hI.1 0 (mg_0 am cI cZ st6) rfl 42 (by decide) f_3 (fun _ h9 => h9) rfl dX9_keep_29 ?_
    refine lv_iload_n hx hb dX9_keep_32 rfl (lv_at hl 1 rfl) ?_
    refine lv_aload_n hx hb dX9_keep_33 rfl (lv_at hl 0 rfl) ?_
    refine va_get (D := D) (ci := 9) (v := .int (st6.1 0 31)) (C := RX9) (T := TX9) (N := 43) hx hb hts hi_X9_keep_X9 hown hK hI.1 0 (mg_0 am cI cZ st6) rfl 31 (by decide) f_4 (fun _ h9 => h9) rfl dX9_keep_34 ?_
    obtain ⟨g9, hM⟩ := gd_at hM
    refine jiast (x := (st6.1 0 31)) (st2 := pU st6 23 (x1).toNatClampNeg ((st6.1 0 31))) hx hb hK (mD hj) hI 23 0 (mg_23 am cI cZ st6) rfl (inB_vp g9) (ms_23 am cI cZ st6 _) dX9_keep_37 (fun st8 est8 H locs hI => ?_)
    replace hM := nm_at est8 hM
    refine lv_iconst (v := (0 : Int32)) hx hb dX9_keep_38 (by decide) ?_
    refine lv_istore_n (lv' := [(2, .int (0 : Int32)), (0, .ref (am 0)), (1, .int x1)]) hx hb dX9_keep_39 rfl hl (by decide) rfl (fun ls hl => ?_)
    have lp0 : ∀ (n : Nat) (w11 : Int32) (st10 : PS) (H : Heap) (locs : List Loc) (ls : Array Slot), JI D (aA am 24) (mW am cI cZ) s.heap st10 H locs → lv_has ls 3 [(0, .ref (am 0)), (1, .int x1), (2, .int w11)] → iter (fun q => jm_X9_keep_L40 N x1 q.1 q.2) n (w11, st10) = some (rZ, stZ) → W p l e (headSpec wsX9_keep { frames := 1, cells := 0, slots := 0, locals := 22 }).room s m AV below meth c H locs 0 0 (MQ below (JQ D (aA am 24) (mW am cI cZ) (mTy cI cZ) (some (.int rZ)) stZ) AV s 0 0 (aA am 24)) (F0 m 40 ls []) := by
      intro n
      induction n with
      | zero =>
        intro _ _ _ _ _ _ _ hM
        exact absurd hM (fun h => iter_zero h)
      | succ n ih0 =>
        intro w11 st10 H locs ls hI hl hM
        obtain ⟨z0, hM, hk0⟩ := iter_succ hM
        replace hM : jm_X9_keep_L40 N x1 w11 st10 = some z0 := hM
        unfold jm_X9_keep_L40 at hM
        refine lv_iload_n hx hb dX9_keep_40 rfl (lv_at hl 2 rfl) ?_
        refine lv_bipush (v := (21 : Int32)) hx hb dX9_keep_41 (by decide) ?_
        refine lv_icmp_ge (tgt := 69) hx hb dX9_keep_43 (by decide) (fun c12 => ?_) (fun c12 => ?_)
        · replace hM := if_t c12 hM
          refine lv_iconst (v := (0 : Int32)) hx hb dX9_keep_69 (by decide) ?_
          refine lv_istore_n (lv' := [(2, .int (0 : Int32)), (0, .ref (am 0)), (1, .int x1)]) hx hb dX9_keep_70 rfl hl (by decide) rfl (fun ls hl => ?_)
          have lp1 : ∀ (n : Nat) (w14 : Int32) (st13 : PS) (H : Heap) (locs : List Loc) (ls : Array Slot), JI D (aA am 24) (mW am cI cZ) s.heap st13 H locs → lv_has ls 3 [(0, .ref (am 0)), (1, .int x1), (2, .int w14)] → iter (fun q => jm_X9_keep_L71 N x1 q.1 q.2) n (w14, st13) = some z0 → W p l e (headSpec wsX9_keep { frames := 1, cells := 0, slots := 0, locals := 22 }).room s m AV below meth c H locs 0 0 (MQ below (JQ D (aA am 24) (mW am cI cZ) (mTy cI cZ) (some (.int rZ)) stZ) AV s 0 0 (aA am 24)) (F0 m 71 ls []) := by
            intro n
            induction n with
            | zero =>
              intro _ _ _ _ _ _ _ hM
              exact absurd hM (fun h => iter_zero h)
            | succ n ih1 =>
              intro w14 st13 H locs ls hI hl hM
              obtain ⟨z1, hM, hk1⟩ := iter_succ hM
              replace hM : jm_X9_keep_L71 N x1 w14 st13 = some z1 := hM
              unfold jm_X9_keep_L71 at hM
              refine lv_iload_n hx hb dX9_keep_71 rfl (lv_at hl 2 rfl) ?_
              refine lv_sipush (v := (210 : Int32)) hx hb dX9_keep_72 (by decide) ?_
              refine lv_icmp_ge (tgt := 102) hx hb dX9_keep_75 (by decide) (fun c15 => ?_) (fun c15 => ?_)
              · replace hM := if_t c15 hM
                refine lv_aload_n hx hb dX9_keep_102 rfl (lv_at hl 0 rfl) ?_
                refine va_get (D := D) (ci := 9) (v := .ref (am 13)) (C := RX9) (T := TX9) (N := 43) hx hb hts hi_X9_keep_X9 hown hK hI.1 0 (mg_0 am cI cZ st13) rfl 28 (by decide) f_5 (fun _ h9 => h9) rfl dX9_keep_103 ?_
                refine lv_iconst (v := (0 : Int32)) hx hb dX9_keep_106 (by decide) ?_
                refine va_iald hx hb hK hI.1 13 0 (mg_13 am cI cZ st13) rfl (inB_vp rfl) dX9_keep_107 ?_
                refine W.eq (g2 := F0 m 108 ls [.int (st13.1 13 0)]) rfl ?_
                have hz := Option.some.inj hM
                subst hz
                have hz := kn_r hk1
                subst hz
                have hz := kn_r hk0
                exact W.iret hx hb hr (fun t ht hW => jq_i hK hI hz ht hW) hI.2.2.2 dX9_keep_108
              · replace hM := if_f c15 hM
                refine lv_aload_n hx hb dX9_keep_78 rfl (lv_at hl 0 rfl) ?_
                refine va_get (D := D) (ci := 9) (v := .ref (am 21)) (C := RX9) (T := TX9) (N := 43) hx hb hts hi_X9_keep_X9 hown hK hI.1 0 (mg_0 am cI cZ st13) rfl 40 (by decide) f_6 (fun _ h9 => h9) rfl dX9_keep_79 ?_
                refine lv_sipush (v := (210 : Int32)) hx hb dX9_keep_82 (by decide) ?_
                refine lv_iload_n hx hb dX9_keep_85 rfl (lv_at hl 1 rfl) ?_
                refine lv_imul hx hb dX9_keep_86 ?_
                refine lv_iload_n hx hb dX9_keep_87 rfl (lv_at hl 2 rfl) ?_
                refine lv_iadd hx hb dX9_keep_88 ?_
                refine lv_aload_n hx hb dX9_keep_89 rfl (lv_at hl 0 rfl) ?_
                refine va_get (D := D) (ci := 9) (v := .ref (am 15)) (C := RX9) (T := TX9) (N := 43) hx hb hts hi_X9_keep_X9 hown hK hI.1 0 (mg_0 am cI cZ st13) rfl 32 (by decide) f_7 (fun _ h9 => h9) rfl dX9_keep_90 ?_
                refine lv_iload_n hx hb dX9_keep_93 rfl (lv_at hl 2 rfl) ?_
                obtain ⟨g16, hM⟩ := gd_at hM
                refine va_iald hx hb hK hI.1 15 0 (mg_15 am cI cZ st13) rfl (inB_vp g16) dX9_keep_94 ?_
                obtain ⟨g18, hM⟩ := gd_at hM
                refine jiast (x := (st13.1 15 (w14).toNatClampNeg)) (st2 := pU st13 21 ((((210 : Int32) * x1) + w14)).toNatClampNeg ((st13.1 15 (w14).toNatClampNeg))) hx hb hK (mD hj) hI 21 0 (mg_21 am cI cZ st13) rfl (inB_vp g18) (ms_21 am cI cZ st13 _) dX9_keep_95 (fun st17 est17 H locs hI => ?_)
                replace hM := nm_at est17 hM
                refine lv_iinc (v := (w14 + (1 : Int32))) (lv' := [(2, .int (w14 + (1 : Int32))), (0, .ref (am 0)), (1, .int x1)]) hx hb dX9_keep_96 hl (k := 2) rfl rfl (by decide) rfl (fun ls hl => ?_)
                refine lv_goto (tgt := 71) hx hb dX9_keep_99 (by decide) ?_
                have hz := Option.some.inj hM
                subst hz
                exact ih1 (w14 + (1 : Int32)) st17 _ _ _ hI (lv_sub hl [1, 2, 0] rfl) hk1
          exact lp1 N (0 : Int32) st10 _ _ _ hI (lv_sub hl [1, 2, 0] rfl) hM
        · replace hM := if_f c12 hM
          refine lv_aload_n hx hb dX9_keep_46 rfl (lv_at hl 0 rfl) ?_
          refine va_get (D := D) (ci := 9) (v := .ref (am 20)) (C := RX9) (T := TX9) (N := 43) hx hb hts hi_X9_keep_X9 hown hK hI.1 0 (mg_0 am cI cZ st10) rfl 39 (by decide) f_8 (fun _ h9 => h9) rfl dX9_keep_47 ?_
          refine lv_bipush (v := (21 : Int32)) hx hb dX9_keep_50 (by decide) ?_
          refine lv_iload_n hx hb dX9_keep_52 rfl (lv_at hl 1 rfl) ?_
          refine lv_imul hx hb dX9_keep_53 ?_
          refine lv_iload_n hx hb dX9_keep_54 rfl (lv_at hl 2 rfl) ?_
          refine lv_iadd hx hb dX9_keep_55 ?_
          refine lv_aload_n hx hb dX9_keep_56 rfl (lv_at hl 0 rfl) ?_
          refine va_get (D := D) (ci := 9) (v := .ref (am 13)) (C := RX9) (T := TX9) (N := 43) hx hb hts hi_X9_keep_X9 hown hK hI.1 0 (mg_0 am cI cZ st10) rfl 28 (by decide) f_5 (fun _ h9 => h9) rfl dX9_keep_57 ?_
          refine lv_iload_n hx hb dX9_keep_60 rfl (lv_at hl 2 rfl) ?_
          obtain ⟨g19, hM⟩ := gd_at hM
          refine va_iald hx hb hK hI.1 13 0 (mg_13 am cI cZ st10) rfl (inB_vp g19) dX9_keep_61 ?_
          obtain ⟨g21, hM⟩ := gd_at hM
          refine jiast (x := (st10.1 13 (w11).toNatClampNeg)) (st2 := pU st10 20 ((((21 : Int32) * x1) + w11)).toNatClampNeg ((st10.1 13 (w11).toNatClampNeg))) hx hb hK (mD hj) hI 20 0 (mg_20 am cI cZ st10) rfl (inB_vp g21) (ms_20 am cI cZ st10 _) dX9_keep_62 (fun st20 est20 H locs hI => ?_)
          replace hM := nm_at est20 hM
          refine lv_iinc (v := (w11 + (1 : Int32))) (lv' := [(2, .int (w11 + (1 : Int32))), (0, .ref (am 0)), (1, .int x1)]) hx hb dX9_keep_63 hl (k := 2) rfl rfl (by decide) rfl (fun ls hl => ?_)
          refine lv_goto (tgt := 40) hx hb dX9_keep_66 (by decide) ?_
          have hz := Option.some.inj hM
          subst hz
          exact ih0 (w11 + (1 : Int32)) st20 _ _ _ hI (lv_sub hl [1, 2, 0] rfl) hk0
    exact lp0 N (0 : Int32) st8 _ _ _ hI (lv_sub hl [1, 2, 0] rfl) hM
  · replace hM := if_t c3 hM
    refine lv_iconst (v := (-1 : Int32)) hx hb dX9_keep_9 (by decide) ?_
    have hz := Option.some.inj hM
    exact W.iret hx hb hr (fun t ht hW => jq_i hK hI hz ht hW) hI.2.2.2 dX9_keep_10
set_option maxRecDepth 20000 in
theorem hi_X9_back_X9 : ∀ w ∈ wsX90, w ∈ wsX9_back := by decide +kernel
set_option maxHeartbeats 4000000 in
set_option maxRecDepth 100000 in
theorem jw_X9_back {l : Launch} (D : va_G) (am : Nat → Nat) (cI cZ : ClassId) (hj : aJ am 24) (N : Nat) {x1 : Int32} {st stZ : PS} {rZ : Int32} (hM : jm_X9_back N x1 st = some (rZ, stZ)) : Met l yX9_back wsX9_back ({ frames := 1, cells := 0, slots := 0, locals := 22 }) (va_Pc [.ref (am 0), .int x1] (JH D (mW am cI cZ) (mTy cI cZ) st)) (JQ D (aA am 24) (mW am cI cZ) (mTy cI cZ) (some (.int rZ)) stZ) 0 0 (aA am 24) := by
  refine jStart (cc := cX9_back) (maxL := 3) (ret := (some .int)) [.ref (am 0), .int x1] (by decide) rfl (Nat.le_of_ble_eq_true rfl) (fun p e s m below meth c ls hx hb hr hlocks hts hown hml hK hI hl => ?_)
  have hown : s.vm.findClass RX9 = some m.cls := hown
  replace hl : lv_has ls 3 [(0, .ref (am 0)), (1, .int x1)] := hl
  generalize hAV : ([.ref (am 0), .int x1] : List Value).toArray = AV at hts ⊢
  have f_0 := hts (.fieldLink RX9 64 "PuppetBarModel" "isKept" "[Z") (by decide +kernel)
  have f_1 := hts (.fieldLink RX9 74 "PuppetBarModel" "keptMany" "[I") (by decide +kernel)
  have f_2 := hts (.fieldLink RX9 181 "PuppetBarModel" "undoMany" "I") (by decide +kernel)
  have f_3 := hts (.fieldLink RX9 77 "PuppetBarModel" "keptAt" "[I") (by decide +kernel)
  have f_4 := hts (.fieldLink RX9 225 "PuppetBarModel" "undoAt" "I") (by decide +kernel)
  have f_5 := hts (.fieldLink RX9 46 "PuppetBarModel" "now" "[I") (by decide +kernel)
  have f_6 := hts (.fieldLink RX9 52 "PuppetBarModel" "undos" "[I") (by decide +kernel)
  have f_7 := hts (.fieldLink RX9 71 "PuppetBarModel" "keptUndos" "[I") (by decide +kernel)
  have f_8 := hts (.fieldLink RX9 68 "PuppetBarModel" "kept" "[I") (by decide +kernel)
  unfold jm_X9_back at hM
  refine lv_iload_n hx hb dX9_back_0 rfl (lv_at hl 1 rfl) ?_
  refine lv_iconst (v := (0 : Int32)) hx hb dX9_back_1 (by decide) ?_
  refine lv_iconst (v := (1 : Int32)) hx hb dX9_back_2 (by decide) ?_
  obtain ⟨v1, st2, hqv1, hM⟩ := bd_at hM
  refine jcallS (As := [.int x1, .int (0 : Int32), .int (1 : Int32)]) (rest := []) ⟨hx, hb, hml, hown, hts⟩ (jw_X9_in D am cI cZ hj N hqv1) (va_cwS 3 hts gX9_back_X9_in rfl rfl rfl yd_X9_in ⟨Nat.le_of_ble_eq_true rfl, Nat.le_of_ble_eq_true rfl⟩) hK hI rfl hl.1 rfl (Nat.le_of_ble_eq_true rfl) dX9_back_3 (fun H locs hI => ?_)
  refine W.eq (g2 := F0 m 6 ls [.int v1]) rfl ?_
  refine lv_if_ne (tgt := 11) hx hb dX9_back_6 (by decide) (fun c3 => ?_) (fun c3 => ?_)
  · replace hM := if_f c3 hM
    refine lv_aload_n hx hb dX9_back_11 rfl (lv_at hl 0 rfl) ?_
    refine va_get (D := D) (ci := 9) (v := .ref (am 19)) (C := RX9) (T := TX9) (N := 43) hx hb hts hi_X9_back_X9 hown hK hI.1 0 (mg_0 am cI cZ st2) rfl 38 (by decide) f_0 (fun _ h9 => h9) rfl dX9_back_12 ?_
    refine lv_iload_n hx hb dX9_back_15 rfl (lv_at hl 1 rfl) ?_
    obtain ⟨g4, hM⟩ := gd_at hM
    refine va_zald hx hb hK hI.1 19 1 (mg_19 am cI cZ st2) rfl (inB_vp g4) dX9_back_16 ?_
    refine lv_if_ne (tgt := 23) hx hb dX9_back_17 (by decide) (fun c5 => ?_) (fun c5 => ?_)
    · replace hM := if_f c5 hM
      refine lv_aload_n hx hb dX9_back_23 rfl (lv_at hl 0 rfl) ?_
      refine lv_aload_n hx hb dX9_back_24 rfl (lv_at hl 0 rfl) ?_
      refine va_get (D := D) (ci := 9) (v := .ref (am 22)) (C := RX9) (T := TX9) (N := 43) hx hb hts hi_X9_back_X9 hown hK hI.1 0 (mg_0 am cI cZ st2) rfl 41 (by decide) f_1 (fun _ h9 => h9) rfl dX9_back_25 ?_
      refine lv_iload_n hx hb dX9_back_28 rfl (lv_at hl 1 rfl) ?_
      obtain ⟨g6, hM⟩ := gd_at hM
      refine va_iald hx hb hK hI.1 22 0 (mg_22 am cI cZ st2) rfl (inB_vp g6) dX9_back_29 ?_
      refine jput (D := D) (ci := 9) (v := .int (st2.1 22 (x1).toNatClampNeg)) (ty := .int) (C := RX9) (T := TX9) (N := 43) (st2 := pU st2 0 30 (st2.1 22 (x1).toNatClampNeg)) hx hb hts hi_X9_back_X9 tyX9 tyX9_ok nmX9 hown hK (mD hj) hI 0 (mg_0 am cI cZ st2) rfl 30 (by decide) f_2 (fun _ h9 => h9) rfl (by decide +kernel) rfl rfl (Nat.le_of_ble_eq_true rfl) (ms_0_30 am cI cZ st2 _) dX9_back_30 (fun st7 est7 H locs hI => ?_)
      replace hM := nm_at est7 hM
      refine lv_aload_n hx hb dX9_back_33 rfl (lv_at hl 0 rfl) ?_
      refine lv_aload_n hx hb dX9_back_34 rfl (lv_at hl 0 rfl) ?_
      refine va_get (D := D) (ci := 9) (v := .ref (am 23)) (C := RX9) (T := TX9) (N := 43) hx hb hts hi_X9_back_X9 hown hK hI.1 0 (mg_0 am cI cZ st7) rfl 42 (by decide) f_3 (fun _ h9 => h9) rfl dX9_back_35 ?_
      refine lv_iload_n hx hb dX9_back_38 rfl (lv_at hl 1 rfl) ?_
      obtain ⟨g8, hM⟩ := gd_at hM
      refine va_iald hx hb hK hI.1 23 0 (mg_23 am cI cZ st7) rfl (inB_vp g8) dX9_back_39 ?_
      refine jput (D := D) (ci := 9) (v := .int (st7.1 23 (x1).toNatClampNeg)) (ty := .int) (C := RX9) (T := TX9) (N := 43) (st2 := pU st7 0 31 (st7.1 23 (x1).toNatClampNeg)) hx hb hts hi_X9_back_X9 tyX9 tyX9_ok nmX9 hown hK (mD hj) hI 0 (mg_0 am cI cZ st7) rfl 31 (by decide) f_4 (fun _ h9 => h9) rfl (by decide +kernel) rfl rfl (Nat.le_of_ble_eq_true rfl) (ms_0_31 am cI cZ st7 _) dX9_back_40 (fun st9 est9 H locs hI => ?_)
      replace hM := nm_at est9 hM
      refine lv_iconst (v := (0 : Int32)) hx hb dX9_back_43 (by decide) ?_
      refine lv_istore_n (lv' := [(2, .int (0 : Int32)), (0, .ref (am 0)), (1, .int x1)]) hx hb dX9_back_44 rfl hl (by decide) rfl (fun ls hl => ?_)
      have lp0 : ∀ (n : Nat) (w11 : Int32) (st10 : PS) (H : Heap) (locs : List Loc) (ls : Array Slot), JI D (aA am 24) (mW am cI cZ) s.heap st10 H locs → lv_has ls 3 [(0, .ref (am 0)), (1, .int x1), (2, .int w11)] → iter (fun q => jm_X9_back_L45 N x1 q.1 q.2) n (w11, st10) = some (rZ, stZ) → W p l e (headSpec wsX9_back { frames := 1, cells := 0, slots := 0, locals := 22 }).room s m AV below meth c H locs 0 0 (MQ below (JQ D (aA am 24) (mW am cI cZ) (mTy cI cZ) (some (.int rZ)) stZ) AV s 0 0 (aA am 24)) (F0 m 45 ls []) := by
        intro n
        induction n with
        | zero =>
          intro _ _ _ _ _ _ _ hM
          exact absurd hM (fun h => iter_zero h)
        | succ n ih0 =>
          intro w11 st10 H locs ls hI hl hM
          obtain ⟨z0, hM, hk0⟩ := iter_succ hM
          replace hM : jm_X9_back_L45 N x1 w11 st10 = some z0 := hM
          unfold jm_X9_back_L45 at hM
          refine lv_iload_n hx hb dX9_back_45 rfl (lv_at hl 2 rfl) ?_
          refine lv_bipush (v := (21 : Int32)) hx hb dX9_back_46 (by decide) ?_
          refine lv_icmp_ge (tgt := 74) hx hb dX9_back_48 (by decide) (fun c12 => ?_) (fun c12 => ?_)
          · replace hM := if_t c12 hM
            refine lv_iconst (v := (0 : Int32)) hx hb dX9_back_74 (by decide) ?_
            refine lv_istore_n (lv' := [(2, .int (0 : Int32)), (0, .ref (am 0)), (1, .int x1)]) hx hb dX9_back_75 rfl hl (by decide) rfl (fun ls hl => ?_)
            have lp1 : ∀ (n : Nat) (w14 : Int32) (st13 : PS) (H : Heap) (locs : List Loc) (ls : Array Slot), JI D (aA am 24) (mW am cI cZ) s.heap st13 H locs → lv_has ls 3 [(0, .ref (am 0)), (1, .int x1), (2, .int w14)] → iter (fun q => jm_X9_back_L76 N x1 q.1 q.2) n (w14, st13) = some z0 → W p l e (headSpec wsX9_back { frames := 1, cells := 0, slots := 0, locals := 22 }).room s m AV below meth c H locs 0 0 (MQ below (JQ D (aA am 24) (mW am cI cZ) (mTy cI cZ) (some (.int rZ)) stZ) AV s 0 0 (aA am 24)) (F0 m 76 ls []) := by
              intro n
              induction n with
              | zero =>
                intro _ _ _ _ _ _ _ hM
                exact absurd hM (fun h => iter_zero h)
              | succ n ih1 =>
                intro w14 st13 H locs ls hI hl hM
                obtain ⟨z1, hM, hk1⟩ := iter_succ hM
                replace hM : jm_X9_back_L76 N x1 w14 st13 = some z1 := hM
                unfold jm_X9_back_L76 at hM
                refine lv_iload_n hx hb dX9_back_76 rfl (lv_at hl 2 rfl) ?_
                refine lv_sipush (v := (210 : Int32)) hx hb dX9_back_77 (by decide) ?_
                refine lv_icmp_ge (tgt := 107) hx hb dX9_back_80 (by decide) (fun c15 => ?_) (fun c15 => ?_)
                · replace hM := if_t c15 hM
                  refine lv_aload_n hx hb dX9_back_107 rfl (lv_at hl 0 rfl) ?_
                  refine va_get (D := D) (ci := 9) (v := .ref (am 13)) (C := RX9) (T := TX9) (N := 43) hx hb hts hi_X9_back_X9 hown hK hI.1 0 (mg_0 am cI cZ st13) rfl 28 (by decide) f_5 (fun _ h9 => h9) rfl dX9_back_108 ?_
                  refine lv_iconst (v := (0 : Int32)) hx hb dX9_back_111 (by decide) ?_
                  refine va_iald hx hb hK hI.1 13 0 (mg_13 am cI cZ st13) rfl (inB_vp rfl) dX9_back_112 ?_
                  refine W.eq (g2 := F0 m 113 ls [.int (st13.1 13 0)]) rfl ?_
                  have hz := Option.some.inj hM
                  subst hz
                  have hz := kn_r hk1
                  subst hz
                  have hz := kn_r hk0
                  exact W.iret hx hb hr (fun t ht hW => jq_i hK hI hz ht hW) hI.2.2.2 dX9_back_113
                · replace hM := if_f c15 hM
                  refine lv_aload_n hx hb dX9_back_83 rfl (lv_at hl 0 rfl) ?_
                  refine va_get (D := D) (ci := 9) (v := .ref (am 15)) (C := RX9) (T := TX9) (N := 43) hx hb hts hi_X9_back_X9 hown hK hI.1 0 (mg_0 am cI cZ st13) rfl 32 (by decide) f_6 (fun _ h9 => h9) rfl dX9_back_84 ?_
                  refine lv_iload_n hx hb dX9_back_87 rfl (lv_at hl 2 rfl) ?_
                  refine lv_aload_n hx hb dX9_back_88 rfl (lv_at hl 0 rfl) ?_
                  refine va_get (D := D) (ci := 9) (v := .ref (am 21)) (C := RX9) (T := TX9) (N := 43) hx hb hts hi_X9_back_X9 hown hK hI.1 0 (mg_0 am cI cZ st13) rfl 40 (by decide) f_7 (fun _ h9 => h9) rfl dX9_back_89 ?_
                  refine lv_sipush (v := (210 : Int32)) hx hb dX9_back_92 (by decide) ?_
                  refine lv_iload_n hx hb dX9_back_95 rfl (lv_at hl 1 rfl) ?_
                  refine lv_imul hx hb dX9_back_96 ?_
                  refine lv_iload_n hx hb dX9_back_97 rfl (lv_at hl 2 rfl) ?_
                  refine lv_iadd hx hb dX9_back_98 ?_
                  obtain ⟨g16, hM⟩ := gd_at hM
                  refine va_iald hx hb hK hI.1 21 0 (mg_21 am cI cZ st13) rfl (inB_vp g16) dX9_back_99 ?_
                  obtain ⟨g18, hM⟩ := gd_at hM
                  refine jiast (x := (st13.1 21 ((((210 : Int32) * x1) + w14)).toNatClampNeg)) (st2 := pU st13 15 (w14).toNatClampNeg ((st13.1 21 ((((210 : Int32) * x1) + w14)).toNatClampNeg))) hx hb hK (mD hj) hI 15 0 (mg_15 am cI cZ st13) rfl (inB_vp g18) (ms_15 am cI cZ st13 _) dX9_back_100 (fun st17 est17 H locs hI => ?_)
                  replace hM := nm_at est17 hM
                  refine lv_iinc (v := (w14 + (1 : Int32))) (lv' := [(2, .int (w14 + (1 : Int32))), (0, .ref (am 0)), (1, .int x1)]) hx hb dX9_back_101 hl (k := 2) rfl rfl (by decide) rfl (fun ls hl => ?_)
                  refine lv_goto (tgt := 76) hx hb dX9_back_104 (by decide) ?_
                  have hz := Option.some.inj hM
                  subst hz
                  exact ih1 (w14 + (1 : Int32)) st17 _ _ _ hI (lv_sub hl [1, 2, 0] rfl) hk1
            exact lp1 N (0 : Int32) st10 _ _ _ hI (lv_sub hl [1, 2, 0] rfl) hM
          · replace hM := if_f c12 hM
            refine lv_aload_n hx hb dX9_back_51 rfl (lv_at hl 0 rfl) ?_
            refine va_get (D := D) (ci := 9) (v := .ref (am 13)) (C := RX9) (T := TX9) (N := 43) hx hb hts hi_X9_back_X9 hown hK hI.1 0 (mg_0 am cI cZ st10) rfl 28 (by decide) f_5 (fun _ h9 => h9) rfl dX9_back_52 ?_
            refine lv_iload_n hx hb dX9_back_55 rfl (lv_at hl 2 rfl) ?_
            refine lv_aload_n hx hb dX9_back_56 rfl (lv_at hl 0 rfl) ?_
            refine va_get (D := D) (ci := 9) (v := .ref (am 20)) (C := RX9) (T := TX9) (N := 43) hx hb hts hi_X9_back_X9 hown hK hI.1 0 (mg_0 am cI cZ st10) rfl 39 (by decide) f_8 (fun _ h9 => h9) rfl dX9_back_57 ?_
            refine lv_bipush (v := (21 : Int32)) hx hb dX9_back_60 (by decide) ?_
            refine lv_iload_n hx hb dX9_back_62 rfl (lv_at hl 1 rfl) ?_
            refine lv_imul hx hb dX9_back_63 ?_
            refine lv_iload_n hx hb dX9_back_64 rfl (lv_at hl 2 rfl) ?_
            refine lv_iadd hx hb dX9_back_65 ?_
            obtain ⟨g19, hM⟩ := gd_at hM
            refine va_iald hx hb hK hI.1 20 0 (mg_20 am cI cZ st10) rfl (inB_vp g19) dX9_back_66 ?_
            obtain ⟨g21, hM⟩ := gd_at hM
            refine jiast (x := (st10.1 20 ((((21 : Int32) * x1) + w11)).toNatClampNeg)) (st2 := pU st10 13 (w11).toNatClampNeg ((st10.1 20 ((((21 : Int32) * x1) + w11)).toNatClampNeg))) hx hb hK (mD hj) hI 13 0 (mg_13 am cI cZ st10) rfl (inB_vp g21) (ms_13 am cI cZ st10 _) dX9_back_67 (fun st20 est20 H locs hI => ?_)
            replace hM := nm_at est20 hM
            refine lv_iinc (v := (w11 + (1 : Int32))) (lv' := [(2, .int (w11 + (1 : Int32))), (0, .ref (am 0)), (1, .int x1)]) hx hb dX9_back_68 hl (k := 2) rfl rfl (by decide) rfl (fun ls hl => ?_)
            refine lv_goto (tgt := 45) hx hb dX9_back_71 (by decide) ?_
            have hz := Option.some.inj hM
            subst hz
            exact ih0 (w11 + (1 : Int32)) st20 _ _ _ hI (lv_sub hl [1, 2, 0] rfl) hk0
      exact lp0 N (0 : Int32) st9 _ _ _ hI (lv_sub hl [1, 2, 0] rfl) hM
    · replace hM := if_t c5 hM
      refine lv_bipush (v := (-2 : Int32)) hx hb dX9_back_20 (by decide) ?_
      have hz := Option.some.inj hM
      exact W.iret hx hb hr (fun t ht hW => jq_i hK hI hz ht hW) hI.2.2.2 dX9_back_22
  · replace hM := if_t c3 hM
    refine lv_iconst (v := (-1 : Int32)) hx hb dX9_back_9 (by decide) ?_
    have hz := Option.some.inj hM
    exact W.iret hx hb hr (fun t ht hW => jq_i hK hI hz ht hW) hI.2.2.2 dX9_back_10
set_option maxRecDepth 20000 in
theorem hi_X9_count_X9 : ∀ w ∈ wsX90, w ∈ wsX9_count := by decide +kernel
set_option maxHeartbeats 4000000 in
set_option maxRecDepth 100000 in
theorem jw_X9_count {l : Launch} (D : va_G) (am : Nat → Nat) (cI cZ : ClassId) (hj : aJ am 24) (N : Nat) {x1 : Int32} {st stZ : PS} {rZ : Int32} (hM : jm_X9_count N x1 st = some (rZ, stZ)) : Met l yX9_count wsX9_count ({ frames := 0, cells := 0, slots := 0, locals := 0 }) (va_Pc [.ref (am 0), .int x1] (JH D (mW am cI cZ) (mTy cI cZ) st)) (JQ D (aA am 24) (mW am cI cZ) (mTy cI cZ) (some (.int rZ)) stZ) 0 0 (aA am 24) := by
  refine jStart (cc := cX9_count) (maxL := 2) (ret := (some .int)) [.ref (am 0), .int x1] (by decide) rfl (Nat.le_of_ble_eq_true rfl) (fun p e s m below meth c ls hx hb hr hlocks hts hown hml hK hI hl => ?_)
  have hown : s.vm.findClass RX9 = some m.cls := hown
  replace hl : lv_has ls 2 [(0, .ref (am 0)), (1, .int x1)] := hl
  generalize hAV : ([.ref (am 0), .int x1] : List Value).toArray = AV at hts ⊢
  have f_0 := hts (.fieldLink RX9 169 "PuppetBarModel" "n" "I") (by decide +kernel)
  have f_1 := hts (.fieldLink RX9 172 "PuppetBarModel" "m" "I") (by decide +kernel)
  have f_2 := hts (.fieldLink RX9 175 "PuppetBarModel" "beatMany" "I") (by decide +kernel)
  have f_3 := hts (.fieldLink RX9 184 "PuppetBarModel" "seenMany" "I") (by decide +kernel)
  have f_4 := hts (.fieldLink RX9 181 "PuppetBarModel" "undoMany" "I") (by decide +kernel)
  have f_5 := hts (.fieldLink RX9 84 "PuppetBarModel" "byteMany" "I") (by decide +kernel)
  unfold jm_X9_count at hM
  refine lv_iload_n hx hb dX9_count_0 rfl (lv_at hl 1 rfl) ?_
  by_cases c1 : x1 = (0 : Int32)
  · replace hM := if_t c1 hM
    refine lv_tableIn (off := 39) (tgt := 40) hx hb dX9_count_1 (by rw [c1]; decide) (by rw [c1]; decide) (by rw [c1]; decide) (by decide) ?_
    refine lv_aload_n hx hb dX9_count_40 rfl (lv_at hl 0 rfl) ?_
    refine va_get (D := D) (ci := 9) (v := .int (st.1 0 18)) (C := RX9) (T := TX9) (N := 43) hx hb hts hi_X9_count_X9 hown hK hI.1 0 (mg_0 am cI cZ st) rfl 18 (by decide) f_0 (fun _ h9 => h9) rfl dX9_count_41 ?_
    have hz := Option.some.inj hM
    exact W.iret hx hb hr (fun t ht hW => jq_i hK hI hz ht hW) hI.2.2.2 dX9_count_44
  · replace hM := if_f c1 hM
    by_cases c2 : x1 = (1 : Int32)
    · replace hM := if_t c2 hM
      refine lv_tableIn (off := 44) (tgt := 45) hx hb dX9_count_1 (by rw [c2]; decide) (by rw [c2]; decide) (by rw [c2]; decide) (by decide) ?_
      refine lv_aload_n hx hb dX9_count_45 rfl (lv_at hl 0 rfl) ?_
      refine va_get (D := D) (ci := 9) (v := .int (st.1 0 19)) (C := RX9) (T := TX9) (N := 43) hx hb hts hi_X9_count_X9 hown hK hI.1 0 (mg_0 am cI cZ st) rfl 19 (by decide) f_1 (fun _ h9 => h9) rfl dX9_count_46 ?_
      have hz := Option.some.inj hM
      exact W.iret hx hb hr (fun t ht hW => jq_i hK hI hz ht hW) hI.2.2.2 dX9_count_49
    · replace hM := if_f c2 hM
      by_cases c3 : x1 = (2 : Int32)
      · replace hM := if_t c3 hM
        refine lv_tableIn (off := 49) (tgt := 50) hx hb dX9_count_1 (by rw [c3]; decide) (by rw [c3]; decide) (by rw [c3]; decide) (by decide) ?_
        refine lv_aload_n hx hb dX9_count_50 rfl (lv_at hl 0 rfl) ?_
        refine va_get (D := D) (ci := 9) (v := .int (st.1 0 20)) (C := RX9) (T := TX9) (N := 43) hx hb hts hi_X9_count_X9 hown hK hI.1 0 (mg_0 am cI cZ st) rfl 20 (by decide) f_2 (fun _ h9 => h9) rfl dX9_count_51 ?_
        have hz := Option.some.inj hM
        exact W.iret hx hb hr (fun t ht hW => jq_i hK hI hz ht hW) hI.2.2.2 dX9_count_54
      · replace hM := if_f c3 hM
        by_cases c4 : x1 = (3 : Int32)
        · replace hM := if_t c4 hM
          refine lv_tableIn (off := 54) (tgt := 55) hx hb dX9_count_1 (by rw [c4]; decide) (by rw [c4]; decide) (by rw [c4]; decide) (by decide) ?_
          refine lv_aload_n hx hb dX9_count_55 rfl (lv_at hl 0 rfl) ?_
          refine va_get (D := D) (ci := 9) (v := .int (st.1 0 34)) (C := RX9) (T := TX9) (N := 43) hx hb hts hi_X9_count_X9 hown hK hI.1 0 (mg_0 am cI cZ st) rfl 34 (by decide) f_3 (fun _ h9 => h9) rfl dX9_count_56 ?_
          have hz := Option.some.inj hM
          exact W.iret hx hb hr (fun t ht hW => jq_i hK hI hz ht hW) hI.2.2.2 dX9_count_59
        · replace hM := if_f c4 hM
          by_cases c5 : x1 = (4 : Int32)
          · replace hM := if_t c5 hM
            refine lv_tableIn (off := 59) (tgt := 60) hx hb dX9_count_1 (by rw [c5]; decide) (by rw [c5]; decide) (by rw [c5]; decide) (by decide) ?_
            refine lv_aload_n hx hb dX9_count_60 rfl (lv_at hl 0 rfl) ?_
            refine va_get (D := D) (ci := 9) (v := .int (st.1 0 30)) (C := RX9) (T := TX9) (N := 43) hx hb hts hi_X9_count_X9 hown hK hI.1 0 (mg_0 am cI cZ st) rfl 30 (by decide) f_4 (fun _ h9 => h9) rfl dX9_count_61 ?_
            have hz := Option.some.inj hM
            exact W.iret hx hb hr (fun t ht hW => jq_i hK hI hz ht hW) hI.2.2.2 dX9_count_64
          · replace hM := if_f c5 hM
            by_cases c6 : x1 = (5 : Int32)
            · replace hM := if_t c6 hM
              refine lv_tableIn (off := 64) (tgt := 65) hx hb dX9_count_1 (by rw [c6]; decide) (by rw [c6]; decide) (by rw [c6]; decide) (by decide) ?_
              refine lv_aload_n hx hb dX9_count_65 rfl (lv_at hl 0 rfl) ?_
              refine va_get (D := D) (ci := 9) (v := .int (st.1 0 0)) (C := RX9) (T := TX9) (N := 43) hx hb hts hi_X9_count_X9 hown hK hI.1 0 (mg_0 am cI cZ st) rfl 0 (by decide) f_5 (fun _ h9 => h9) rfl dX9_count_66 ?_
              have hz := Option.some.inj hM
              exact W.iret hx hb hr (fun t ht hW => jq_i hK hI hz ht hW) hI.2.2.2 dX9_count_69
            · replace hM := if_f c6 hM
              refine lv_tableOut (tgt := 70) hx hb dX9_count_1 (by have nc1 : ¬ (0 : Int) = (x1).toInt := ne_ti c1; have nc2 : ¬ (1 : Int) = (x1).toInt := ne_ti c2; have nc3 : ¬ (2 : Int) = (x1).toInt := ne_ti c3; have nc4 : ¬ (3 : Int) = (x1).toInt := ne_ti c4; have nc5 : ¬ (4 : Int) = (x1).toInt := ne_ti c5; have nc6 : ¬ (5 : Int) = (x1).toInt := ne_ti c6; omega) (by decide) ?_
              refine lv_iconst (v := (-1 : Int32)) hx hb dX9_count_70 (by decide) ?_
              have hz := Option.some.inj hM
              exact W.iret hx hb hr (fun t ht hW => jq_i hK hI hz ht hW) hI.2.2.2 dX9_count_71
