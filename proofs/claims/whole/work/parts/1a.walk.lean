set_option maxHeartbeats 4000000 in
set_option maxRecDepth 100000 in
theorem jw_J7_fill_53178 {l : Launch} (D : va_G) (am : Nat → Nat) (cI cC cS : ClassId) (hj : aJ am 52) (N : Nat) {r0 : Nat} {x1 : Int32} (h0 : ck_Row r0) {st stZ : PS} {rZ : Unit} (hM : jm_J7_fill_53178 N r0 x1 st = some (rZ, stZ)) : Met l yJ7_fill_53178 wsJ7_fill_53178 ({ frames := 0, cells := 0, slots := 0, locals := 0 }) (va_Pc [.ref (am r0), .int x1] (JH D (cW am cI cC cS) (cTy cI cC cS) st)) (JQ D (aA am 52) (cW am cI cC cS) (cTy cI cC cS) none stZ) 0 0 (aA am 52) := by
  refine jStart (cc := cJ7_fill_53178) (maxL := 4) (ret := none) [.ref (am r0), .int x1] (by decide) rfl (Nat.le_of_ble_eq_true rfl) (fun p e s m below meth c ls hx hb hr hlocks hts hown hml hK hI hl => ?_)
  have hown : s.vm.findClass RJ7 = some m.cls := hown
  replace hl : lv_has ls 4 [(0, .ref (am r0)), (1, .int x1)] := hl
  generalize hAV : ([.ref (am r0), .int x1] : List Value).toArray = AV at hts ⊢
  unfold jm_J7_fill_53178 at hM
  refine lv_iconst (v := (0 : Int32)) hx hb dJ7_fill_53178_0 (by decide) ?_
  refine lv_istore_n (lv' := [(2, .int (0 : Int32)), (0, .ref (am r0)), (1, .int x1)]) hx hb dJ7_fill_53178_1 rfl hl (by decide) rfl (fun ls hl => ?_)
  refine lv_aload_n hx hb dJ7_fill_53178_2 rfl (lv_at hl 1 rfl) ?_
  refine va_alen (v := (21 : Int32)) hx hb hK hI.1 r0 0 (cg_Row am cI cC cS st h0) rfl rfl dJ7_fill_53178_3 ?_
  refine lv_istore_n (lv' := [(3, .int (21 : Int32)), (2, .int (0 : Int32)), (0, .ref (am r0)), (1, .int x1)]) hx hb dJ7_fill_53178_4 rfl hl (by decide) rfl (fun ls hl => ?_)
  have lp0 : ∀ (n : Nat) (w2 : Int32) (st1 : PS) (H : Heap) (locs : List Loc) (ls : Array Slot), JI D (aA am 52) (cW am cI cC cS) s.heap st1 H locs → lv_has ls 4 [(0, .ref (am r0)), (1, .int x1), (2, .int w2), (3, .int (21 : Int32))] → iter (fun q => jm_J7_fill_53178_L5 N r0 x1 q.1 q.2) n (w2, st1) = some (rZ, stZ) → W p l e (headSpec wsJ7_fill_53178 { frames := 0, cells := 0, slots := 0, locals := 0 }).room s m AV below meth c H locs 0 0 (MQ below (JQ D (aA am 52) (cW am cI cC cS) (cTy cI cC cS) none stZ) AV s 0 0 (aA am 52)) (F0 m 5 ls []) := by
    intro n
    induction n with
    | zero =>
      intro _ _ _ _ _ _ _ hM
      exact absurd hM (fun h => iter_zero h)
    | succ n ih0 =>
      intro w2 st1 H locs ls hI hl hM
      obtain ⟨z0, hM, hk0⟩ := iter_succ hM
      replace hM : jm_J7_fill_53178_L5 N r0 x1 w2 st1 = some z0 := hM
      unfold jm_J7_fill_53178_L5 at hM
      refine lv_iload_n hx hb dJ7_fill_53178_5 rfl (lv_at hl 2 rfl) ?_
      refine lv_iload_n hx hb dJ7_fill_53178_6 rfl (lv_at hl 3 rfl) ?_
      refine lv_icmp_ge (tgt := 20) hx hb dJ7_fill_53178_7 (by decide) (fun c3 => ?_) (fun c3 => ?_)
      · replace hM := if_t c3 hM
        have hz := Option.some.inj hM
        subst hz
        have hz := kn_r hk0
        exact W.vret hx hb hr (fun t ht hW => jq_v hK hI hz ht hW) hI.2.2.2 dJ7_fill_53178_20
      · replace hM := if_f c3 hM
        refine lv_aload_n hx hb dJ7_fill_53178_10 rfl (lv_at hl 0 rfl) ?_
        refine lv_iload_n hx hb dJ7_fill_53178_11 rfl (lv_at hl 2 rfl) ?_
        refine lv_iload_n hx hb dJ7_fill_53178_12 rfl (lv_at hl 1 rfl) ?_
        obtain ⟨g5, hM⟩ := gd_at hM
        refine jiast (x := x1) (st2 := pU st1 r0 (w2).toNatClampNeg (x1)) hx hb hK (cD hj) hI r0 0 (cg_Row am cI cC cS st1 h0) rfl (inB_vp g5) (cs_Row am cI cC cS st1 h0 _) dJ7_fill_53178_13 (fun st4 est4 H locs hI => ?_)
        replace hM := nm_at est4 hM
        refine lv_iinc (v := (w2 + (1 : Int32))) (lv' := [(2, .int (w2 + (1 : Int32))), (0, .ref (am r0)), (1, .int x1), (3, .int (21 : Int32))]) hx hb dJ7_fill_53178_14 hl (k := 2) rfl rfl (by decide) rfl (fun ls hl => ?_)
        refine lv_goto (tgt := 5) hx hb dJ7_fill_53178_17 (by decide) ?_
        have hz := Option.some.inj hM
        subst hz
        exact ih0 (w2 + (1 : Int32)) st4 _ _ _ hI (lv_sub hl [1, 2, 0, 3] rfl) hk0
  exact lp0 N (0 : Int32) st _ _ _ hI (lv_sub hl [2, 3, 1, 0] rfl) hM
set_option maxRecDepth 20000 in
theorem hi_X4_empty_X4 : ∀ w ∈ wsX40, w ∈ wsX4_empty := by decide +kernel
set_option maxHeartbeats 4000000 in
set_option maxRecDepth 100000 in
theorem jw_X4_empty {l : Launch} (D : va_G) (am : Nat → Nat) (cI cC cS : ClassId) (hj : aJ am 52) (N : Nat) {r0 : Nat} (h0 : ck_Pose r0) {st stZ : PS} {rZ : Unit} (hM : jm_X4_empty N r0 st = some (rZ, stZ)) : Met l yX4_empty wsX4_empty ({ frames := 1, cells := 0, slots := 0, locals := 23 }) (va_Pc [.ref (am r0)] (JH D (cW am cI cC cS) (cTy cI cC cS) st)) (JQ D (aA am 52) (cW am cI cC cS) (cTy cI cC cS) none stZ) 0 0 (aA am 52) := by
  refine jStart (cc := cX4_empty) (maxL := 1) (ret := none) [.ref (am r0)] (by decide) rfl (Nat.le_of_ble_eq_true rfl) (fun p e s m below meth c ls hx hb hr hlocks hts hown hml hK hI hl => ?_)
  have hown : s.vm.findClass RX4 = some m.cls := hown
  replace hl : lv_has ls 1 [(0, .ref (am r0))] := hl
  generalize hAV : ([.ref (am r0)] : List Value).toArray = AV at hts ⊢
  have f_0 := hts (.fieldLink RX4 11 "PuppetBar$Pose" "row" "[I") (by decide +kernel)
  unfold jm_X4_empty at hM
  refine lv_aload_n hx hb dX4_empty_0 rfl (lv_at hl 0 rfl) ?_
  refine va_get (D := D) (ci := 4) (v := .ref (am (r0 + 1))) (C := RX4) (T := TX4) (N := 1) hx hb hts hi_X4_empty_X4 hown hK hI.1 r0 (cg_Pose am cI cC cS st h0) rfl 0 (by decide) f_0 (fun _ h9 => h9) rfl dX4_empty_1 ?_
  refine lv_iconst (v := (0 : Int32)) hx hb dX4_empty_4 (by decide) ?_
  obtain ⟨v1, st2, hqv1, hM⟩ := bd_at hM
  refine jcallS (As := [.ref (am (r0 + 1)), .int (0 : Int32)]) (rest := []) ⟨hx, hb, hml, hown, hts⟩ (jw_J7_fill_53178 D am cI cC cS hj N (ck_Pose_Row h0) hqv1) (va_cwS 2 hts gX4_empty_J7_fill_53178 rfl rfl rfl yd_J7_fill_53178 ⟨Nat.le_of_ble_eq_true rfl, Nat.le_of_ble_eq_true rfl⟩) hK hI rfl hl.1 rfl (Nat.le_of_ble_eq_true rfl) dX4_empty_5 (fun H locs hI => ?_)
  refine W.eq (g2 := F0 m 8 ls []) rfl ?_
  refine lv_aload_n hx hb dX4_empty_8 rfl (lv_at hl 0 rfl) ?_
  refine va_get (D := D) (ci := 4) (v := .ref (am (r0 + 1))) (C := RX4) (T := TX4) (N := 1) hx hb hts hi_X4_empty_X4 hown hK hI.1 r0 (cg_Pose am cI cC cS st2 h0) rfl 0 (by decide) f_0 (fun _ h9 => h9) rfl dX4_empty_9 ?_
  refine lv_iconst (v := (0 : Int32)) hx hb dX4_empty_12 (by decide) ?_
  refine lv_bipush (v := (20 : Int32)) hx hb dX4_empty_13 (by decide) ?_
  refine jiast (x := (20 : Int32)) (st2 := pU st2 (r0 + 1) 0 ((20 : Int32))) hx hb hK (cD hj) hI (r0 + 1) 0 (cg_Pose_row am cI cC cS st2 h0) rfl (inB_vp rfl) (cs_Pose_row am cI cC cS st2 h0 _) dX4_empty_15 (fun st3 est3 H locs hI => ?_)
  replace hM := nm_at est3 hM
  have hz := Option.some.inj hM
  exact W.vret hx hb hr (fun t ht hW => jq_v hK hI hz ht hW) hI.2.2.2 dX4_empty_16
set_option maxRecDepth 20000 in
theorem hi_X0_empty_X0 : ∀ w ∈ wsX00, w ∈ wsX0_empty := by decide +kernel
set_option maxHeartbeats 4000000 in
set_option maxRecDepth 100000 in
theorem jw_X0_empty {l : Launch} (D : va_G) (am : Nat → Nat) (cI cC cS : ClassId) (hj : aJ am 52) (N : Nat) {r0 : Nat} (h0 : ck_Doll r0) {st stZ : PS} {rZ : Unit} (hM : jm_X0_empty N r0 st = some (rZ, stZ)) : Met l yX0_empty wsX0_empty ({ frames := 2, cells := 0, slots := 0, locals := 43 }) (va_Pc [.ref (am r0)] (JH D (cW am cI cC cS) (cTy cI cC cS) st)) (JQ D (aA am 52) (cW am cI cC cS) (cTy cI cC cS) none stZ) 0 0 (aA am 52) := by
  refine jStart (cc := cX0_empty) (maxL := 1) (ret := none) [.ref (am r0)] (by decide) rfl (Nat.le_of_ble_eq_true rfl) (fun p e s m below meth c ls hx hb hr hlocks hts hown hml hK hI hl => ?_)
  have hown : s.vm.findClass RX0 = some m.cls := hown
  replace hl : lv_has ls 1 [(0, .ref (am r0))] := hl
  generalize hAV : ([.ref (am r0)] : List Value).toArray = AV at hts ⊢
  have f_0 := hts (.fieldLink RX0 40 "PuppetBar$Doll" "limbs" "I") (by decide +kernel)
  have f_1 := hts (.fieldLink RX0 44 "PuppetBar$Doll" "strings" "I") (by decide +kernel)
  have f_2 := hts (.fieldLink RX0 47 "PuppetBar$Doll" "beats" "I") (by decide +kernel)
  have f_3 := hts (.fieldLink RX0 33 "PuppetBar$Doll" "first" "LPuppetBar$Pose;") (by decide +kernel)
  unfold jm_X0_empty at hM
  refine lv_aload_n hx hb dX0_empty_0 rfl (lv_at hl 0 rfl) ?_
  refine lv_iconst (v := (0 : Int32)) hx hb dX0_empty_1 (by decide) ?_
  refine jput (D := D) (ci := 0) (v := .int (0 : Int32)) (ty := .int) (C := RX0) (T := TX0) (N := 11) (st2 := pU st r0 7 (0 : Int32)) hx hb hts hi_X0_empty_X0 tyX0 tyX0_ok nmX0 hown hK (cD hj) hI r0 (cg_Doll am cI cC cS st h0) rfl 7 (by decide) f_0 (fun _ h9 => h9) rfl (by decide +kernel) rfl rfl (Nat.le_of_ble_eq_true rfl) (cs_Doll_7 am cI cC cS st h0 _) dX0_empty_2 (fun st1 est1 H locs hI => ?_)
  replace hM := nm_at est1 hM
  refine lv_aload_n hx hb dX0_empty_5 rfl (lv_at hl 0 rfl) ?_
  refine lv_iconst (v := (0 : Int32)) hx hb dX0_empty_6 (by decide) ?_
  refine jput (D := D) (ci := 0) (v := .int (0 : Int32)) (ty := .int) (C := RX0) (T := TX0) (N := 11) (st2 := pU st1 r0 8 (0 : Int32)) hx hb hts hi_X0_empty_X0 tyX0 tyX0_ok nmX0 hown hK (cD hj) hI r0 (cg_Doll am cI cC cS st1 h0) rfl 8 (by decide) f_1 (fun _ h9 => h9) rfl (by decide +kernel) rfl rfl (Nat.le_of_ble_eq_true rfl) (cs_Doll_8 am cI cC cS st1 h0 _) dX0_empty_7 (fun st2 est2 H locs hI => ?_)
  replace hM := nm_at est2 hM
  refine lv_aload_n hx hb dX0_empty_10 rfl (lv_at hl 0 rfl) ?_
  refine lv_iconst (v := (0 : Int32)) hx hb dX0_empty_11 (by decide) ?_
  refine jput (D := D) (ci := 0) (v := .int (0 : Int32)) (ty := .int) (C := RX0) (T := TX0) (N := 11) (st2 := pU st2 r0 9 (0 : Int32)) hx hb hts hi_X0_empty_X0 tyX0 tyX0_ok nmX0 hown hK (cD hj) hI r0 (cg_Doll am cI cC cS st2 h0) rfl 9 (by decide) f_2 (fun _ h9 => h9) rfl (by decide +kernel) rfl rfl (Nat.le_of_ble_eq_true rfl) (cs_Doll_9 am cI cC cS st2 h0 _) dX0_empty_12 (fun st3 est3 H locs hI => ?_)
  replace hM := nm_at est3 hM
  refine lv_aload_n hx hb dX0_empty_15 rfl (lv_at hl 0 rfl) ?_
  refine va_get (D := D) (ci := 0) (v := .ref (am (r0 + 8))) (C := RX0) (T := TX0) (N := 11) hx hb hts hi_X0_empty_X0 hown hK hI.1 r0 (cg_Doll am cI cC cS st3 h0) rfl 6 (by decide) f_3 (fun _ h9 => h9) rfl dX0_empty_16 ?_
  obtain ⟨v4, st5, hqv4, hM⟩ := bd_at hM
  refine jcallV (C := RX4) (As := []) (rest := []) ⟨hx, hb, hml, hown, hts⟩ (jw_X4_empty D am cI cC cS hj N (ck_Doll_Pose h0) hqv4) (cwV 0 hts gX0_empty_X4_empty rfl rfl rfl yd_X4_empty ⟨Nat.le_of_ble_eq_true rfl, Nat.le_of_ble_eq_true rfl⟩) hK hI (r0 + 8) (cg_Pose am cI cC cS st3 (ck_Doll_Pose h0)) rfl rfl hl.1 rfl (Nat.le_of_ble_eq_true rfl) dX0_empty_19 (fun H locs hI => ?_)
  refine W.eq (g2 := F0 m 22 ls []) rfl ?_
  have hz := Option.some.inj hM
  exact W.vret hx hb hr (fun t ht hW => jq_v hK hI hz ht hW) hI.2.2.2 dX0_empty_22
set_option maxRecDepth 20000 in
theorem hi_X4_copyFrom_X4 : ∀ w ∈ wsX40, w ∈ wsX4_copyFrom := by decide +kernel
set_option maxHeartbeats 4000000 in
set_option maxRecDepth 100000 in
theorem jw_X4_copyFrom {l : Launch} (D : va_G) (am : Nat → Nat) (cI cC cS : ClassId) (hj : aJ am 52) (N : Nat) {r0 : Nat} {r1 : Nat} (h0 : ck_Pose r0) (h1 : ck_Pose r1) {st stZ : PS} {rZ : Unit} (hM : jm_X4_copyFrom N r0 r1 st = some (rZ, stZ)) : Met l yX4_copyFrom wsX4_copyFrom ({ frames := 1, cells := 0, slots := 0, locals := 26 }) (va_Pc [.ref (am r0), .ref (am r1)] (JH D (cW am cI cC cS) (cTy cI cC cS) st)) (JQ D (aA am 52) (cW am cI cC cS) (cTy cI cC cS) none stZ) 0 0 (aA am 52) := by
  refine jStart (cc := cX4_copyFrom) (maxL := 2) (ret := none) [.ref (am r0), .ref (am r1)] (by decide) rfl (Nat.le_of_ble_eq_true rfl) (fun p e s m below meth c ls hx hb hr hlocks hts hown hml hK hI hl => ?_)
  have hown : s.vm.findClass RX4 = some m.cls := hown
  replace hl : lv_has ls 2 [(0, .ref (am r0)), (1, .ref (am r1))] := hl
  generalize hAV : ([.ref (am r0), .ref (am r1)] : List Value).toArray = AV at hts ⊢
  have f_0 := hts (.fieldLink RX4 11 "PuppetBar$Pose" "row" "[I") (by decide +kernel)
  have f_1 := hts (.methodLink RX4 21 arraycopyName) (by decide +kernel)
  have f_2 := hts (.native arraycopyName) (by decide +kernel)
  have f_3 := hts (.static arraycopyName) (by decide +kernel)
  have f_4 := hts (.initialized "java/lang/System") (by decide +kernel)
  unfold jm_X4_copyFrom at hM
  refine lv_aload_n hx hb dX4_copyFrom_0 rfl (lv_at hl 1 rfl) ?_
  refine va_get (D := D) (ci := 4) (v := .ref (am (r1 + 1))) (C := RX4) (T := TX4) (N := 1) hx hb hts hi_X4_copyFrom_X4 hown hK hI.1 r1 (cg_Pose am cI cC cS st h1) rfl 0 (by decide) f_0 (fun _ h9 => h9) rfl dX4_copyFrom_1 ?_
  refine lv_iconst (v := (0 : Int32)) hx hb dX4_copyFrom_4 (by decide) ?_
  refine lv_aload_n hx hb dX4_copyFrom_5 rfl (lv_at hl 0 rfl) ?_
  refine va_get (D := D) (ci := 4) (v := .ref (am (r0 + 1))) (C := RX4) (T := TX4) (N := 1) hx hb hts hi_X4_copyFrom_X4 hown hK hI.1 r0 (cg_Pose am cI cC cS st h0) rfl 0 (by decide) f_0 (fun _ h9 => h9) rfl dX4_copyFrom_6 ?_
  refine lv_iconst (v := (0 : Int32)) hx hb dX4_copyFrom_9 (by decide) ?_
  refine lv_bipush (v := (21 : Int32)) hx hb dX4_copyFrom_10 (by decide) ?_
  refine jcopy (st2 := pC st (r0 + 1) (va_cpy (st.1 (r1 + 1)) (st.1 (r0 + 1)) ((0 : Int32)).toNatClampNeg ((0 : Int32)).toNatClampNeg ((21 : Int32)).toNatClampNeg)) hx hb (hml.trans hl.1.symm) hown f_1 f_2 f_3 f_4 hK (cD hj) hI (r1 + 1) (r0 + 1) 0 (cg_Pose_row am cI cC cS st h1) (cg_Pose_row am cI cC cS st h0) rfl rfl (Nat.le_of_ble_eq_true rfl) (Nat.le_of_ble_eq_true rfl) (cs_Pose_row am cI cC cS st h0 _) dX4_copyFrom_12 (fun st1 est1 H locs hI => ?_)
  replace hM := nm_at est1 hM
  have hz := Option.some.inj hM
  exact W.vret hx hb hr (fun t ht hW => jq_v hK hI hz ht hW) hI.2.2.2 dX4_copyFrom_15
set_option maxRecDepth 20000 in
theorem hi_X0_copyFrom_X0 : ∀ w ∈ wsX00, w ∈ wsX0_copyFrom := by decide +kernel
set_option maxHeartbeats 4000000 in
set_option maxRecDepth 100000 in
theorem jw_X0_copyFrom {l : Launch} (D : va_G) (am : Nat → Nat) (cI cC cS : ClassId) (hj : aJ am 52) (N : Nat) {r0 : Nat} {r1 : Nat} (h0 : ck_Doll r0) (h1 : ck_Doll r1) {st stZ : PS} {rZ : Unit} (hM : jm_X0_copyFrom N r0 r1 st = some (rZ, stZ)) : Met l yX0_copyFrom wsX0_copyFrom ({ frames := 2, cells := 0, slots := 0, locals := 47 }) (va_Pc [.ref (am r0), .ref (am r1)] (JH D (cW am cI cC cS) (cTy cI cC cS) st)) (JQ D (aA am 52) (cW am cI cC cS) (cTy cI cC cS) none stZ) 0 0 (aA am 52) := by
  refine jStart (cc := cX0_copyFrom) (maxL := 2) (ret := none) [.ref (am r0), .ref (am r1)] (by decide) rfl (Nat.le_of_ble_eq_true rfl) (fun p e s m below meth c ls hx hb hr hlocks hts hown hml hK hI hl => ?_)
  have hown : s.vm.findClass RX0 = some m.cls := hown
  replace hl : lv_has ls 2 [(0, .ref (am r0)), (1, .ref (am r1))] := hl
  generalize hAV : ([.ref (am r0), .ref (am r1)] : List Value).toArray = AV at hts ⊢
  have f_0 := hts (.fieldLink RX0 9 "PuppetBar$Doll" "parent" "[I") (by decide +kernel)
  have f_1 := hts (.methodLink RX0 53 arraycopyName) (by decide +kernel)
  have f_2 := hts (.native arraycopyName) (by decide +kernel)
  have f_3 := hts (.static arraycopyName) (by decide +kernel)
  have f_4 := hts (.initialized "java/lang/System") (by decide +kernel)
  have f_5 := hts (.fieldLink RX0 15 "PuppetBar$Doll" "bone" "[I") (by decide +kernel)
  have f_6 := hts (.fieldLink RX0 18 "PuppetBar$Doll" "weight" "[I") (by decide +kernel)
  have f_7 := hts (.fieldLink RX0 21 "PuppetBar$Doll" "strength" "[I") (by decide +kernel)
  have f_8 := hts (.fieldLink RX0 24 "PuppetBar$Doll" "beatLift" "[I") (by decide +kernel)
  have f_9 := hts (.fieldLink RX0 27 "PuppetBar$Doll" "beatTilt" "[I") (by decide +kernel)
  have f_10 := hts (.fieldLink RX0 37 "PuppetBar$Doll" "bonesBetween" "[I") (by decide +kernel)
  have f_11 := hts (.fieldLink RX0 33 "PuppetBar$Doll" "first" "LPuppetBar$Pose;") (by decide +kernel)
  have f_12 := hts (.fieldLink RX0 40 "PuppetBar$Doll" "limbs" "I") (by decide +kernel)
  have f_13 := hts (.fieldLink RX0 44 "PuppetBar$Doll" "strings" "I") (by decide +kernel)
  have f_14 := hts (.fieldLink RX0 47 "PuppetBar$Doll" "beats" "I") (by decide +kernel)
  unfold jm_X0_copyFrom at hM
  refine lv_aload_n hx hb dX0_copyFrom_0 rfl (lv_at hl 1 rfl) ?_
  refine va_get (D := D) (ci := 0) (v := .ref (am (r1 + 1))) (C := RX0) (T := TX0) (N := 11) hx hb hts hi_X0_copyFrom_X0 hown hK hI.1 r1 (cg_Doll am cI cC cS st h1) rfl 0 (by decide) f_0 (fun _ h9 => h9) rfl dX0_copyFrom_1 ?_
  refine lv_iconst (v := (0 : Int32)) hx hb dX0_copyFrom_4 (by decide) ?_
  refine lv_aload_n hx hb dX0_copyFrom_5 rfl (lv_at hl 0 rfl) ?_
  refine va_get (D := D) (ci := 0) (v := .ref (am (r0 + 1))) (C := RX0) (T := TX0) (N := 11) hx hb hts hi_X0_copyFrom_X0 hown hK hI.1 r0 (cg_Doll am cI cC cS st h0) rfl 0 (by decide) f_0 (fun _ h9 => h9) rfl dX0_copyFrom_6 ?_
  refine lv_iconst (v := (0 : Int32)) hx hb dX0_copyFrom_9 (by decide) ?_
  refine lv_bipush (v := (8 : Int32)) hx hb dX0_copyFrom_10 (by decide) ?_
  refine jcopy (st2 := pC st (r0 + 1) (va_cpy (st.1 (r1 + 1)) (st.1 (r0 + 1)) ((0 : Int32)).toNatClampNeg ((0 : Int32)).toNatClampNeg ((8 : Int32)).toNatClampNeg)) hx hb (hml.trans hl.1.symm) hown f_1 f_2 f_3 f_4 hK (cD hj) hI (r1 + 1) (r0 + 1) 0 (cg_Doll_parent am cI cC cS st h1) (cg_Doll_parent am cI cC cS st h0) rfl rfl (Nat.le_of_ble_eq_true rfl) (Nat.le_of_ble_eq_true rfl) (cs_Doll_parent am cI cC cS st h0 _) dX0_copyFrom_12 (fun st1 est1 H locs hI => ?_)
  replace hM := nm_at est1 hM
  refine lv_aload_n hx hb dX0_copyFrom_15 rfl (lv_at hl 1 rfl) ?_
  refine va_get (D := D) (ci := 0) (v := .ref (am (r1 + 2))) (C := RX0) (T := TX0) (N := 11) hx hb hts hi_X0_copyFrom_X0 hown hK hI.1 r1 (cg_Doll am cI cC cS st1 h1) rfl 1 (by decide) f_5 (fun _ h9 => h9) rfl dX0_copyFrom_16 ?_
  refine lv_iconst (v := (0 : Int32)) hx hb dX0_copyFrom_19 (by decide) ?_
  refine lv_aload_n hx hb dX0_copyFrom_20 rfl (lv_at hl 0 rfl) ?_
  refine va_get (D := D) (ci := 0) (v := .ref (am (r0 + 2))) (C := RX0) (T := TX0) (N := 11) hx hb hts hi_X0_copyFrom_X0 hown hK hI.1 r0 (cg_Doll am cI cC cS st1 h0) rfl 1 (by decide) f_5 (fun _ h9 => h9) rfl dX0_copyFrom_21 ?_
  refine lv_iconst (v := (0 : Int32)) hx hb dX0_copyFrom_24 (by decide) ?_
  refine lv_bipush (v := (8 : Int32)) hx hb dX0_copyFrom_25 (by decide) ?_
  refine jcopy (st2 := pC st1 (r0 + 2) (va_cpy (st1.1 (r1 + 2)) (st1.1 (r0 + 2)) ((0 : Int32)).toNatClampNeg ((0 : Int32)).toNatClampNeg ((8 : Int32)).toNatClampNeg)) hx hb (hml.trans hl.1.symm) hown f_1 f_2 f_3 f_4 hK (cD hj) hI (r1 + 2) (r0 + 2) 0 (cg_Doll_bone am cI cC cS st1 h1) (cg_Doll_bone am cI cC cS st1 h0) rfl rfl (Nat.le_of_ble_eq_true rfl) (Nat.le_of_ble_eq_true rfl) (cs_Doll_bone am cI cC cS st1 h0 _) dX0_copyFrom_27 (fun st2 est2 H locs hI => ?_)
  replace hM := nm_at est2 hM
  refine lv_aload_n hx hb dX0_copyFrom_30 rfl (lv_at hl 1 rfl) ?_
  refine va_get (D := D) (ci := 0) (v := .ref (am (r1 + 3))) (C := RX0) (T := TX0) (N := 11) hx hb hts hi_X0_copyFrom_X0 hown hK hI.1 r1 (cg_Doll am cI cC cS st2 h1) rfl 2 (by decide) f_6 (fun _ h9 => h9) rfl dX0_copyFrom_31 ?_
  refine lv_iconst (v := (0 : Int32)) hx hb dX0_copyFrom_34 (by decide) ?_
  refine lv_aload_n hx hb dX0_copyFrom_35 rfl (lv_at hl 0 rfl) ?_
  refine va_get (D := D) (ci := 0) (v := .ref (am (r0 + 3))) (C := RX0) (T := TX0) (N := 11) hx hb hts hi_X0_copyFrom_X0 hown hK hI.1 r0 (cg_Doll am cI cC cS st2 h0) rfl 2 (by decide) f_6 (fun _ h9 => h9) rfl dX0_copyFrom_36 ?_
  refine lv_iconst (v := (0 : Int32)) hx hb dX0_copyFrom_39 (by decide) ?_
  refine lv_bipush (v := (8 : Int32)) hx hb dX0_copyFrom_40 (by decide) ?_
  refine jcopy (st2 := pC st2 (r0 + 3) (va_cpy (st2.1 (r1 + 3)) (st2.1 (r0 + 3)) ((0 : Int32)).toNatClampNeg ((0 : Int32)).toNatClampNeg ((8 : Int32)).toNatClampNeg)) hx hb (hml.trans hl.1.symm) hown f_1 f_2 f_3 f_4 hK (cD hj) hI (r1 + 3) (r0 + 3) 0 (cg_Doll_weight am cI cC cS st2 h1) (cg_Doll_weight am cI cC cS st2 h0) rfl rfl (Nat.le_of_ble_eq_true rfl) (Nat.le_of_ble_eq_true rfl) (cs_Doll_weight am cI cC cS st2 h0 _) dX0_copyFrom_42 (fun st3 est3 H locs hI => ?_)
  replace hM := nm_at est3 hM
  refine lv_aload_n hx hb dX0_copyFrom_45 rfl (lv_at hl 1 rfl) ?_
  refine va_get (D := D) (ci := 0) (v := .ref (am (r1 + 4))) (C := RX0) (T := TX0) (N := 11) hx hb hts hi_X0_copyFrom_X0 hown hK hI.1 r1 (cg_Doll am cI cC cS st3 h1) rfl 3 (by decide) f_7 (fun _ h9 => h9) rfl dX0_copyFrom_46 ?_
  refine lv_iconst (v := (0 : Int32)) hx hb dX0_copyFrom_49 (by decide) ?_
  refine lv_aload_n hx hb dX0_copyFrom_50 rfl (lv_at hl 0 rfl) ?_
  refine va_get (D := D) (ci := 0) (v := .ref (am (r0 + 4))) (C := RX0) (T := TX0) (N := 11) hx hb hts hi_X0_copyFrom_X0 hown hK hI.1 r0 (cg_Doll am cI cC cS st3 h0) rfl 3 (by decide) f_7 (fun _ h9 => h9) rfl dX0_copyFrom_51 ?_
  refine lv_iconst (v := (0 : Int32)) hx hb dX0_copyFrom_54 (by decide) ?_
  refine lv_bipush (v := (6 : Int32)) hx hb dX0_copyFrom_55 (by decide) ?_
  refine jcopy (st2 := pC st3 (r0 + 4) (va_cpy (st3.1 (r1 + 4)) (st3.1 (r0 + 4)) ((0 : Int32)).toNatClampNeg ((0 : Int32)).toNatClampNeg ((6 : Int32)).toNatClampNeg)) hx hb (hml.trans hl.1.symm) hown f_1 f_2 f_3 f_4 hK (cD hj) hI (r1 + 4) (r0 + 4) 0 (cg_Doll_strength am cI cC cS st3 h1) (cg_Doll_strength am cI cC cS st3 h0) rfl rfl (Nat.le_of_ble_eq_true rfl) (Nat.le_of_ble_eq_true rfl) (cs_Doll_strength am cI cC cS st3 h0 _) dX0_copyFrom_57 (fun st4 est4 H locs hI => ?_)
  replace hM := nm_at est4 hM
  refine lv_aload_n hx hb dX0_copyFrom_60 rfl (lv_at hl 1 rfl) ?_
  refine va_get (D := D) (ci := 0) (v := .ref (am (r1 + 5))) (C := RX0) (T := TX0) (N := 11) hx hb hts hi_X0_copyFrom_X0 hown hK hI.1 r1 (cg_Doll am cI cC cS st4 h1) rfl 4 (by decide) f_8 (fun _ h9 => h9) rfl dX0_copyFrom_61 ?_
  refine lv_iconst (v := (0 : Int32)) hx hb dX0_copyFrom_64 (by decide) ?_
  refine lv_aload_n hx hb dX0_copyFrom_65 rfl (lv_at hl 0 rfl) ?_
  refine va_get (D := D) (ci := 0) (v := .ref (am (r0 + 5))) (C := RX0) (T := TX0) (N := 11) hx hb hts hi_X0_copyFrom_X0 hown hK hI.1 r0 (cg_Doll am cI cC cS st4 h0) rfl 4 (by decide) f_8 (fun _ h9 => h9) rfl dX0_copyFrom_66 ?_
  refine lv_iconst (v := (0 : Int32)) hx hb dX0_copyFrom_69 (by decide) ?_
  refine lv_bipush (v := (7 : Int32)) hx hb dX0_copyFrom_70 (by decide) ?_
  refine jcopy (st2 := pC st4 (r0 + 5) (va_cpy (st4.1 (r1 + 5)) (st4.1 (r0 + 5)) ((0 : Int32)).toNatClampNeg ((0 : Int32)).toNatClampNeg ((7 : Int32)).toNatClampNeg)) hx hb (hml.trans hl.1.symm) hown f_1 f_2 f_3 f_4 hK (cD hj) hI (r1 + 5) (r0 + 5) 0 (cg_Doll_beatLift am cI cC cS st4 h1) (cg_Doll_beatLift am cI cC cS st4 h0) rfl rfl (Nat.le_of_ble_eq_true rfl) (Nat.le_of_ble_eq_true rfl) (cs_Doll_beatLift am cI cC cS st4 h0 _) dX0_copyFrom_72 (fun st5 est5 H locs hI => ?_)
  replace hM := nm_at est5 hM
  refine lv_aload_n hx hb dX0_copyFrom_75 rfl (lv_at hl 1 rfl) ?_
  refine va_get (D := D) (ci := 0) (v := .ref (am (r1 + 6))) (C := RX0) (T := TX0) (N := 11) hx hb hts hi_X0_copyFrom_X0 hown hK hI.1 r1 (cg_Doll am cI cC cS st5 h1) rfl 5 (by decide) f_9 (fun _ h9 => h9) rfl dX0_copyFrom_76 ?_
  refine lv_iconst (v := (0 : Int32)) hx hb dX0_copyFrom_79 (by decide) ?_
  refine lv_aload_n hx hb dX0_copyFrom_80 rfl (lv_at hl 0 rfl) ?_
  refine va_get (D := D) (ci := 0) (v := .ref (am (r0 + 6))) (C := RX0) (T := TX0) (N := 11) hx hb hts hi_X0_copyFrom_X0 hown hK hI.1 r0 (cg_Doll am cI cC cS st5 h0) rfl 5 (by decide) f_9 (fun _ h9 => h9) rfl dX0_copyFrom_81 ?_
  refine lv_iconst (v := (0 : Int32)) hx hb dX0_copyFrom_84 (by decide) ?_
  refine lv_bipush (v := (7 : Int32)) hx hb dX0_copyFrom_85 (by decide) ?_
  refine jcopy (st2 := pC st5 (r0 + 6) (va_cpy (st5.1 (r1 + 6)) (st5.1 (r0 + 6)) ((0 : Int32)).toNatClampNeg ((0 : Int32)).toNatClampNeg ((7 : Int32)).toNatClampNeg)) hx hb (hml.trans hl.1.symm) hown f_1 f_2 f_3 f_4 hK (cD hj) hI (r1 + 6) (r0 + 6) 0 (cg_Doll_beatTilt am cI cC cS st5 h1) (cg_Doll_beatTilt am cI cC cS st5 h0) rfl rfl (Nat.le_of_ble_eq_true rfl) (Nat.le_of_ble_eq_true rfl) (cs_Doll_beatTilt am cI cC cS st5 h0 _) dX0_copyFrom_87 (fun st6 est6 H locs hI => ?_)
  replace hM := nm_at est6 hM
  refine lv_aload_n hx hb dX0_copyFrom_90 rfl (lv_at hl 1 rfl) ?_
  refine va_get (D := D) (ci := 0) (v := .ref (am (r1 + 7))) (C := RX0) (T := TX0) (N := 11) hx hb hts hi_X0_copyFrom_X0 hown hK hI.1 r1 (cg_Doll am cI cC cS st6 h1) rfl 10 (by decide) f_10 (fun _ h9 => h9) rfl dX0_copyFrom_91 ?_
  refine lv_iconst (v := (0 : Int32)) hx hb dX0_copyFrom_94 (by decide) ?_
  refine lv_aload_n hx hb dX0_copyFrom_95 rfl (lv_at hl 0 rfl) ?_
  refine va_get (D := D) (ci := 0) (v := .ref (am (r0 + 7))) (C := RX0) (T := TX0) (N := 11) hx hb hts hi_X0_copyFrom_X0 hown hK hI.1 r0 (cg_Doll am cI cC cS st6 h0) rfl 10 (by decide) f_10 (fun _ h9 => h9) rfl dX0_copyFrom_96 ?_
  refine lv_iconst (v := (0 : Int32)) hx hb dX0_copyFrom_99 (by decide) ?_
  refine lv_aload_n hx hb dX0_copyFrom_100 rfl (lv_at hl 0 rfl) ?_
  refine va_get (D := D) (ci := 0) (v := .ref (am (r0 + 7))) (C := RX0) (T := TX0) (N := 11) hx hb hts hi_X0_copyFrom_X0 hown hK hI.1 r0 (cg_Doll am cI cC cS st6 h0) rfl 10 (by decide) f_10 (fun _ h9 => h9) rfl dX0_copyFrom_101 ?_
  refine va_alen (v := (64 : Int32)) hx hb hK hI.1 (r0 + 7) 0 (cg_Doll_bonesBetween am cI cC cS st6 h0) rfl rfl dX0_copyFrom_104 ?_
  refine jcopy (st2 := pC st6 (r0 + 7) (va_cpy (st6.1 (r1 + 7)) (st6.1 (r0 + 7)) ((0 : Int32)).toNatClampNeg ((0 : Int32)).toNatClampNeg ((64 : Int32)).toNatClampNeg)) hx hb (hml.trans hl.1.symm) hown f_1 f_2 f_3 f_4 hK (cD hj) hI (r1 + 7) (r0 + 7) 0 (cg_Doll_bonesBetween am cI cC cS st6 h1) (cg_Doll_bonesBetween am cI cC cS st6 h0) rfl rfl (Nat.le_of_ble_eq_true rfl) (Nat.le_of_ble_eq_true rfl) (cs_Doll_bonesBetween am cI cC cS st6 h0 _) dX0_copyFrom_105 (fun st7 est7 H locs hI => ?_)
  replace hM := nm_at est7 hM
  refine lv_aload_n hx hb dX0_copyFrom_108 rfl (lv_at hl 0 rfl) ?_
  refine va_get (D := D) (ci := 0) (v := .ref (am (r0 + 8))) (C := RX0) (T := TX0) (N := 11) hx hb hts hi_X0_copyFrom_X0 hown hK hI.1 r0 (cg_Doll am cI cC cS st7 h0) rfl 6 (by decide) f_11 (fun _ h9 => h9) rfl dX0_copyFrom_109 ?_
  refine lv_aload_n hx hb dX0_copyFrom_112 rfl (lv_at hl 1 rfl) ?_
  refine va_get (D := D) (ci := 0) (v := .ref (am (r1 + 8))) (C := RX0) (T := TX0) (N := 11) hx hb hts hi_X0_copyFrom_X0 hown hK hI.1 r1 (cg_Doll am cI cC cS st7 h1) rfl 6 (by decide) f_11 (fun _ h9 => h9) rfl dX0_copyFrom_113 ?_
  obtain ⟨v8, st9, hqv8, hM⟩ := bd_at hM
  refine jcallV (C := RX4) (As := [.ref (am (r1 + 8))]) (rest := []) ⟨hx, hb, hml, hown, hts⟩ (jw_X4_copyFrom D am cI cC cS hj N (ck_Doll_Pose h0) (ck_Doll_Pose h1) hqv8) (cwV 1 hts gX0_copyFrom_X4_copyFrom rfl rfl rfl yd_X4_copyFrom ⟨Nat.le_of_ble_eq_true rfl, Nat.le_of_ble_eq_true rfl⟩) hK hI (r0 + 8) (cg_Pose am cI cC cS st7 (ck_Doll_Pose h0)) rfl rfl hl.1 rfl (Nat.le_of_ble_eq_true rfl) dX0_copyFrom_116 (fun H locs hI => ?_)
  refine W.eq (g2 := F0 m 119 ls []) rfl ?_
  refine lv_aload_n hx hb dX0_copyFrom_119 rfl (lv_at hl 0 rfl) ?_
  refine lv_aload_n hx hb dX0_copyFrom_120 rfl (lv_at hl 1 rfl) ?_
  refine va_get (D := D) (ci := 0) (v := .int (st9.1 r1 7)) (C := RX0) (T := TX0) (N := 11) hx hb hts hi_X0_copyFrom_X0 hown hK hI.1 r1 (cg_Doll am cI cC cS st9 h1) rfl 7 (by decide) f_12 (fun _ h9 => h9) rfl dX0_copyFrom_121 ?_
  refine jput (D := D) (ci := 0) (v := .int (st9.1 r1 7)) (ty := .int) (C := RX0) (T := TX0) (N := 11) (st2 := pU st9 r0 7 (st9.1 r1 7)) hx hb hts hi_X0_copyFrom_X0 tyX0 tyX0_ok nmX0 hown hK (cD hj) hI r0 (cg_Doll am cI cC cS st9 h0) rfl 7 (by decide) f_12 (fun _ h9 => h9) rfl (by decide +kernel) rfl rfl (Nat.le_of_ble_eq_true rfl) (cs_Doll_7 am cI cC cS st9 h0 _) dX0_copyFrom_124 (fun st10 est10 H locs hI => ?_)
  replace hM := nm_at est10 hM
  refine lv_aload_n hx hb dX0_copyFrom_127 rfl (lv_at hl 0 rfl) ?_
  refine lv_aload_n hx hb dX0_copyFrom_128 rfl (lv_at hl 1 rfl) ?_
  refine va_get (D := D) (ci := 0) (v := .int (st10.1 r1 8)) (C := RX0) (T := TX0) (N := 11) hx hb hts hi_X0_copyFrom_X0 hown hK hI.1 r1 (cg_Doll am cI cC cS st10 h1) rfl 8 (by decide) f_13 (fun _ h9 => h9) rfl dX0_copyFrom_129 ?_
  refine jput (D := D) (ci := 0) (v := .int (st10.1 r1 8)) (ty := .int) (C := RX0) (T := TX0) (N := 11) (st2 := pU st10 r0 8 (st10.1 r1 8)) hx hb hts hi_X0_copyFrom_X0 tyX0 tyX0_ok nmX0 hown hK (cD hj) hI r0 (cg_Doll am cI cC cS st10 h0) rfl 8 (by decide) f_13 (fun _ h9 => h9) rfl (by decide +kernel) rfl rfl (Nat.le_of_ble_eq_true rfl) (cs_Doll_8 am cI cC cS st10 h0 _) dX0_copyFrom_132 (fun st11 est11 H locs hI => ?_)
  replace hM := nm_at est11 hM
  refine lv_aload_n hx hb dX0_copyFrom_135 rfl (lv_at hl 0 rfl) ?_
  refine lv_aload_n hx hb dX0_copyFrom_136 rfl (lv_at hl 1 rfl) ?_
  refine va_get (D := D) (ci := 0) (v := .int (st11.1 r1 9)) (C := RX0) (T := TX0) (N := 11) hx hb hts hi_X0_copyFrom_X0 hown hK hI.1 r1 (cg_Doll am cI cC cS st11 h1) rfl 9 (by decide) f_14 (fun _ h9 => h9) rfl dX0_copyFrom_137 ?_
  refine jput (D := D) (ci := 0) (v := .int (st11.1 r1 9)) (ty := .int) (C := RX0) (T := TX0) (N := 11) (st2 := pU st11 r0 9 (st11.1 r1 9)) hx hb hts hi_X0_copyFrom_X0 tyX0 tyX0_ok nmX0 hown hK (cD hj) hI r0 (cg_Doll am cI cC cS st11 h0) rfl 9 (by decide) f_14 (fun _ h9 => h9) rfl (by decide +kernel) rfl rfl (Nat.le_of_ble_eq_true rfl) (cs_Doll_9 am cI cC cS st11 h0 _) dX0_copyFrom_140 (fun st12 est12 H locs hI => ?_)
  replace hM := nm_at est12 hM
  have hz := Option.some.inj hM
  exact W.vret hx hb hr (fun t ht hW => jq_v hK hI hz ht hW) hI.2.2.2 dX0_copyFrom_143
set_option maxRecDepth 20000 in
theorem hi_X0_apart_X0 : ∀ w ∈ wsX00, w ∈ wsX0_apart := by decide +kernel
set_option maxHeartbeats 4000000 in
set_option maxRecDepth 100000 in
theorem jw_X0_apart {l : Launch} (D : va_G) (am : Nat → Nat) (cI cC cS : ClassId) (hj : aJ am 52) (N : Nat) {r0 : Nat} {x1 : Int32} {x2 : Int32} (h0 : ck_Doll r0) {st stZ : PS} {rZ : Int32} (hM : jm_X0_apart N r0 x1 x2 st = some (rZ, stZ)) : Met l yX0_apart wsX0_apart ({ frames := 0, cells := 0, slots := 0, locals := 0 }) (va_Pc [.ref (am r0), .int x1, .int x2] (JH D (cW am cI cC cS) (cTy cI cC cS) st)) (JQ D (aA am 52) (cW am cI cC cS) (cTy cI cC cS) (some (.int rZ)) stZ) 0 0 (aA am 52) := by
  refine jStart (cc := cX0_apart) (maxL := 3) (ret := (some .int)) [.ref (am r0), .int x1, .int x2] (by decide) rfl (Nat.le_of_ble_eq_true rfl) (fun p e s m below meth c ls hx hb hr hlocks hts hown hml hK hI hl => ?_)
  have hown : s.vm.findClass RX0 = some m.cls := hown
  replace hl : lv_has ls 3 [(0, .ref (am r0)), (1, .int x1), (2, .int x2)] := hl
  generalize hAV : ([.ref (am r0), .int x1, .int x2] : List Value).toArray = AV at hts ⊢
  have f_0 := hts (.fieldLink RX0 37 "PuppetBar$Doll" "bonesBetween" "[I") (by decide +kernel)
  unfold jm_X0_apart at hM
  refine lv_aload_n hx hb dX0_apart_0 rfl (lv_at hl 0 rfl) ?_
  refine va_get (D := D) (ci := 0) (v := .ref (am (r0 + 7))) (C := RX0) (T := TX0) (N := 11) hx hb hts hi_X0_apart_X0 hown hK hI.1 r0 (cg_Doll am cI cC cS st h0) rfl 10 (by decide) f_0 (fun _ h9 => h9) rfl dX0_apart_1 ?_
  refine lv_iload_n hx hb dX0_apart_4 rfl (lv_at hl 1 rfl) ?_
  refine lv_bipush (v := (8 : Int32)) hx hb dX0_apart_5 (by decide) ?_
  refine lv_imul hx hb dX0_apart_7 ?_
  refine lv_iload_n hx hb dX0_apart_8 rfl (lv_at hl 2 rfl) ?_
  refine lv_iadd hx hb dX0_apart_9 ?_
  obtain ⟨g1, hM⟩ := gd_at hM
  refine va_iald hx hb hK hI.1 (r0 + 7) 0 (cg_Doll_bonesBetween am cI cC cS st h0) rfl (inB_vp g1) dX0_apart_10 ?_
  have hz := Option.some.inj hM
  exact W.iret hx hb hr (fun t ht hW => jq_i hK hI hz ht hW) hI.2.2.2 dX0_apart_11
set_option maxRecDepth 20000 in
theorem hi_X0_addLimb_X0 : ∀ w ∈ wsX00, w ∈ wsX0_addLimb := by decide +kernel
set_option maxHeartbeats 4000000 in
set_option maxRecDepth 100000 in
theorem jw_X0_addLimb {l : Launch} (D : va_G) (am : Nat → Nat) (cI cC cS : ClassId) (hj : aJ am 52) (N : Nat) {r0 : Nat} {x1 : Int32} {x2 : Int32} {x3 : Int32} (h0 : ck_Doll r0) {st stZ : PS} {rZ : Unit} (hM : jm_X0_addLimb N r0 x1 x2 x3 st = some (rZ, stZ)) : Met l yX0_addLimb wsX0_addLimb ({ frames := 1, cells := 0, slots := 0, locals := 22 }) (va_Pc [.ref (am r0), .int x1, .int x2, .int x3] (JH D (cW am cI cC cS) (cTy cI cC cS) st)) (JQ D (aA am 52) (cW am cI cC cS) (cTy cI cC cS) none stZ) 0 0 (aA am 52) := by
  refine jStart (cc := cX0_addLimb) (maxL := 7) (ret := none) [.ref (am r0), .int x1, .int x2, .int x3] (by decide) rfl (Nat.le_of_ble_eq_true rfl) (fun p e s m below meth c ls hx hb hr hlocks hts hown hml hK hI hl => ?_)
  have hown : s.vm.findClass RX0 = some m.cls := hown
  replace hl : lv_has ls 7 [(0, .ref (am r0)), (1, .int x1), (2, .int x2), (3, .int x3)] := hl
  generalize hAV : ([.ref (am r0), .int x1, .int x2, .int x3] : List Value).toArray = AV at hts ⊢
  have f_0 := hts (.fieldLink RX0 40 "PuppetBar$Doll" "limbs" "I") (by decide +kernel)
  have f_1 := hts (.fieldLink RX0 9 "PuppetBar$Doll" "parent" "[I") (by decide +kernel)
  have f_2 := hts (.fieldLink RX0 15 "PuppetBar$Doll" "bone" "[I") (by decide +kernel)
  have f_3 := hts (.fieldLink RX0 18 "PuppetBar$Doll" "weight" "[I") (by decide +kernel)
  have f_4 := hts (.fieldLink RX0 37 "PuppetBar$Doll" "bonesBetween" "[I") (by decide +kernel)
  unfold jm_X0_addLimb at hM
  refine lv_aload_n hx hb dX0_addLimb_0 rfl (lv_at hl 0 rfl) ?_
  refine va_get (D := D) (ci := 0) (v := .int (st.1 r0 7)) (C := RX0) (T := TX0) (N := 11) hx hb hts hi_X0_addLimb_X0 hown hK hI.1 r0 (cg_Doll am cI cC cS st h0) rfl 7 (by decide) f_0 (fun _ h9 => h9) rfl dX0_addLimb_1 ?_
  refine lv_istore (lv' := [(4, .int (st.1 r0 7)), (0, .ref (am r0)), (1, .int x1), (2, .int x2), (3, .int x3)]) hx hb dX0_addLimb_4 hl (by decide) rfl (fun ls hl => ?_)
  refine lv_aload_n hx hb dX0_addLimb_6 rfl (lv_at hl 1 rfl) ?_
  refine va_get (D := D) (ci := 0) (v := .ref (am (r0 + 1))) (C := RX0) (T := TX0) (N := 11) hx hb hts hi_X0_addLimb_X0 hown hK hI.1 r0 (cg_Doll am cI cC cS st h0) rfl 0 (by decide) f_1 (fun _ h9 => h9) rfl dX0_addLimb_7 ?_
  refine lv_iload hx hb dX0_addLimb_10 (lv_at hl 0 rfl) ?_
  refine lv_iload_n hx hb dX0_addLimb_12 rfl (lv_at hl 2 rfl) ?_
  obtain ⟨g2, hM⟩ := gd_at hM
  refine jiast (x := x1) (st2 := pU st (r0 + 1) ((st.1 r0 7)).toNatClampNeg (x1)) hx hb hK (cD hj) hI (r0 + 1) 0 (cg_Doll_parent am cI cC cS st h0) rfl (inB_vp g2) (cs_Doll_parent am cI cC cS st h0 _) dX0_addLimb_13 (fun st1 est1 H locs hI => ?_)
  replace hM := nm_at est1 hM
  refine lv_aload_n hx hb dX0_addLimb_14 rfl (lv_at hl 1 rfl) ?_
  refine va_get (D := D) (ci := 0) (v := .ref (am (r0 + 2))) (C := RX0) (T := TX0) (N := 11) hx hb hts hi_X0_addLimb_X0 hown hK hI.1 r0 (cg_Doll am cI cC cS st1 h0) rfl 1 (by decide) f_2 (fun _ h9 => h9) rfl dX0_addLimb_15 ?_
  refine lv_iload hx hb dX0_addLimb_18 (lv_at hl 0 rfl) ?_
  refine lv_iload_n hx hb dX0_addLimb_20 rfl (lv_at hl 3 rfl) ?_
  obtain ⟨g4, hM⟩ := gd_at hM
  refine jiast (x := x2) (st2 := pU st1 (r0 + 2) ((st.1 r0 7)).toNatClampNeg (x2)) hx hb hK (cD hj) hI (r0 + 2) 0 (cg_Doll_bone am cI cC cS st1 h0) rfl (inB_vp g4) (cs_Doll_bone am cI cC cS st1 h0 _) dX0_addLimb_21 (fun st3 est3 H locs hI => ?_)
  replace hM := nm_at est3 hM
  refine lv_aload_n hx hb dX0_addLimb_22 rfl (lv_at hl 1 rfl) ?_
  refine va_get (D := D) (ci := 0) (v := .ref (am (r0 + 3))) (C := RX0) (T := TX0) (N := 11) hx hb hts hi_X0_addLimb_X0 hown hK hI.1 r0 (cg_Doll am cI cC cS st3 h0) rfl 2 (by decide) f_3 (fun _ h9 => h9) rfl dX0_addLimb_23 ?_
  refine lv_iload hx hb dX0_addLimb_26 (lv_at hl 0 rfl) ?_
  refine lv_iload_n hx hb dX0_addLimb_28 rfl (lv_at hl 4 rfl) ?_
  obtain ⟨g6, hM⟩ := gd_at hM
  refine jiast (x := x3) (st2 := pU st3 (r0 + 3) ((st.1 r0 7)).toNatClampNeg (x3)) hx hb hK (cD hj) hI (r0 + 3) 0 (cg_Doll_weight am cI cC cS st3 h0) rfl (inB_vp g6) (cs_Doll_weight am cI cC cS st3 h0 _) dX0_addLimb_29 (fun st5 est5 H locs hI => ?_)
  replace hM := nm_at est5 hM
  refine lv_iconst (v := (0 : Int32)) hx hb dX0_addLimb_30 (by decide) ?_
  refine lv_istore (lv' := [(5, .int (0 : Int32)), (4, .int (st.1 r0 7)), (0, .ref (am r0)), (1, .int x1), (2, .int x2), (3, .int x3)]) hx hb dX0_addLimb_31 hl (by decide) rfl (fun ls hl => ?_)
  obtain ⟨y7, ey7⟩ : ∃ z9 : Int32, z9 = (st.1 r0 7) := ⟨_, rfl⟩
  rw [← ey7] at hl
  replace hM := nm_at ey7 hM
  have lp0 : ∀ (n : Nat) (w9 : Int32) (st8 : PS) (H : Heap) (locs : List Loc) (ls : Array Slot), JI D (aA am 52) (cW am cI cC cS) s.heap st8 H locs → lv_has ls 7 [(0, .ref (am r0)), (1, .int x1), (2, .int x2), (3, .int x3), (4, .int y7), (5, .int w9)] → iter (fun q => jm_X0_addLimb_L33 N r0 x1 x2 y7 q.1 q.2) n (w9, st8) = some (rZ, stZ) → W p l e (headSpec wsX0_addLimb { frames := 1, cells := 0, slots := 0, locals := 22 }).room s m AV below meth c H locs 0 0 (MQ below (JQ D (aA am 52) (cW am cI cC cS) (cTy cI cC cS) none stZ) AV s 0 0 (aA am 52)) (F0 m 33 ls []) := by
    intro n
    induction n with
    | zero =>
      intro _ _ _ _ _ _ _ hM
      exact absurd hM (fun h => iter_zero h)
    | succ n ih0 =>
      intro w9 st8 H locs ls hI hl hM
      obtain ⟨z0, hM, hk0⟩ := iter_succ hM
      replace hM : jm_X0_addLimb_L33 N r0 x1 x2 y7 w9 st8 = some z0 := hM
      unfold jm_X0_addLimb_L33 at hM
      refine lv_iload hx hb dX0_addLimb_33 (lv_at hl 5 rfl) ?_
      refine lv_iload hx hb dX0_addLimb_35 (lv_at hl 4 rfl) ?_
      refine lv_icmp_ge (tgt := 87) hx hb dX0_addLimb_37 (by decide) (fun c10 => ?_) (fun c10 => ?_)
      · replace hM := if_t c10 hM
        refine lv_aload_n hx hb dX0_addLimb_87 rfl (lv_at hl 0 rfl) ?_
        refine va_get (D := D) (ci := 0) (v := .ref (am (r0 + 7))) (C := RX0) (T := TX0) (N := 11) hx hb hts hi_X0_addLimb_X0 hown hK hI.1 r0 (cg_Doll am cI cC cS st8 h0) rfl 10 (by decide) f_4 (fun _ h9 => h9) rfl dX0_addLimb_88 ?_
        refine lv_iload hx hb dX0_addLimb_91 (lv_at hl 4 rfl) ?_
        refine lv_bipush (v := (8 : Int32)) hx hb dX0_addLimb_93 (by decide) ?_
        refine lv_imul hx hb dX0_addLimb_95 ?_
        refine lv_iload hx hb dX0_addLimb_96 (lv_at hl 4 rfl) ?_
        refine lv_iadd hx hb dX0_addLimb_98 ?_
        refine lv_iconst (v := (0 : Int32)) hx hb dX0_addLimb_99 (by decide) ?_
        obtain ⟨g12, hM⟩ := gd_at hM
        refine jiast (x := (0 : Int32)) (st2 := pU st8 (r0 + 7) (((y7 * (8 : Int32)) + y7)).toNatClampNeg ((0 : Int32))) hx hb hK (cD hj) hI (r0 + 7) 0 (cg_Doll_bonesBetween am cI cC cS st8 h0) rfl (inB_vp g12) (cs_Doll_bonesBetween am cI cC cS st8 h0 _) dX0_addLimb_100 (fun st11 est11 H locs hI => ?_)
        replace hM := nm_at est11 hM
        refine lv_aload_n hx hb dX0_addLimb_101 rfl (lv_at hl 0 rfl) ?_
        refine lv_dup hx hb dX0_addLimb_102 rfl ?_
        refine va_get (D := D) (ci := 0) (v := .int (st11.1 r0 7)) (C := RX0) (T := TX0) (N := 11) hx hb hts hi_X0_addLimb_X0 hown hK hI.1 r0 (cg_Doll am cI cC cS st11 h0) rfl 7 (by decide) f_0 (fun _ h9 => h9) rfl dX0_addLimb_103 ?_
        refine lv_iconst (v := (1 : Int32)) hx hb dX0_addLimb_106 (by decide) ?_
        refine lv_iadd hx hb dX0_addLimb_107 ?_
        refine jput (D := D) (ci := 0) (v := .int ((st11.1 r0 7) + (1 : Int32))) (ty := .int) (C := RX0) (T := TX0) (N := 11) (st2 := pU st11 r0 7 ((st11.1 r0 7) + (1 : Int32))) hx hb hts hi_X0_addLimb_X0 tyX0 tyX0_ok nmX0 hown hK (cD hj) hI r0 (cg_Doll am cI cC cS st11 h0) rfl 7 (by decide) f_0 (fun _ h9 => h9) rfl (by decide +kernel) rfl rfl (Nat.le_of_ble_eq_true rfl) (cs_Doll_7 am cI cC cS st11 h0 _) dX0_addLimb_108 (fun st13 est13 H locs hI => ?_)
        replace hM := nm_at est13 hM
        have hz := Option.some.inj hM
        subst hz
        have hz := kn_r hk0
        exact W.vret hx hb hr (fun t ht hW => jq_v hK hI hz ht hW) hI.2.2.2 dX0_addLimb_111
      · replace hM := if_f c10 hM
        refine lv_iload_n hx hb dX0_addLimb_40 rfl (lv_at hl 2 rfl) ?_
        refine lv_aload_n hx hb dX0_addLimb_41 rfl (lv_at hl 0 rfl) ?_
        refine lv_iload_n hx hb dX0_addLimb_42 rfl (lv_at hl 1 rfl) ?_
        refine lv_iload hx hb dX0_addLimb_43 (lv_at hl 5 rfl) ?_
        obtain ⟨v14, st15, hqv14, hM⟩ := bd_at hM
        refine jcallV (C := RX0) (As := [.int x1, .int w9]) (rest := [.int x2]) ⟨hx, hb, hml, hown, hts⟩ (jw_X0_apart D am cI cC cS hj N h0 hqv14) (cwV 2 hts gX0_addLimb_X0_apart rfl rfl rfl yd_X0_apart ⟨Nat.le_of_ble_eq_true rfl, Nat.le_of_ble_eq_true rfl⟩) hK hI r0 (cg_Doll am cI cC cS st8 h0) rfl rfl hl.1 rfl (Nat.le_of_ble_eq_true rfl) dX0_addLimb_45 (fun H locs hI => ?_)
        refine W.eq (g2 := F0 m 48 ls [.int v14, .int x2]) rfl ?_
        refine lv_iadd hx hb dX0_addLimb_48 ?_
        refine lv_istore (lv' := [(6, .int (x2 + v14)), (0, .ref (am r0)), (1, .int x1), (2, .int x2), (3, .int x3), (4, .int y7), (5, .int w9)]) hx hb dX0_addLimb_49 hl (by decide) rfl (fun ls hl => ?_)
        refine lv_aload_n hx hb dX0_addLimb_51 rfl (lv_at hl 1 rfl) ?_
        refine va_get (D := D) (ci := 0) (v := .ref (am (r0 + 7))) (C := RX0) (T := TX0) (N := 11) hx hb hts hi_X0_addLimb_X0 hown hK hI.1 r0 (cg_Doll am cI cC cS st15 h0) rfl 10 (by decide) f_4 (fun _ h9 => h9) rfl dX0_addLimb_52 ?_
        refine lv_iload hx hb dX0_addLimb_55 (lv_at hl 5 rfl) ?_
        refine lv_bipush (v := (8 : Int32)) hx hb dX0_addLimb_57 (by decide) ?_
        refine lv_imul hx hb dX0_addLimb_59 ?_
        refine lv_iload hx hb dX0_addLimb_60 (lv_at hl 6 rfl) ?_
        refine lv_iadd hx hb dX0_addLimb_62 ?_
        refine lv_iload hx hb dX0_addLimb_63 (lv_at hl 0 rfl) ?_
        obtain ⟨g17, hM⟩ := gd_at hM
        refine jiast (x := (x2 + v14)) (st2 := pU st15 (r0 + 7) (((y7 * (8 : Int32)) + w9)).toNatClampNeg ((x2 + v14))) hx hb hK (cD hj) hI (r0 + 7) 0 (cg_Doll_bonesBetween am cI cC cS st15 h0) rfl (inB_vp g17) (cs_Doll_bonesBetween am cI cC cS st15 h0 _) dX0_addLimb_65 (fun st16 est16 H locs hI => ?_)
        replace hM := nm_at est16 hM
        refine lv_aload_n hx hb dX0_addLimb_66 rfl (lv_at hl 1 rfl) ?_
        refine va_get (D := D) (ci := 0) (v := .ref (am (r0 + 7))) (C := RX0) (T := TX0) (N := 11) hx hb hts hi_X0_addLimb_X0 hown hK hI.1 r0 (cg_Doll am cI cC cS st16 h0) rfl 10 (by decide) f_4 (fun _ h9 => h9) rfl dX0_addLimb_67 ?_
        refine lv_iload hx hb dX0_addLimb_70 (lv_at hl 6 rfl) ?_
        refine lv_bipush (v := (8 : Int32)) hx hb dX0_addLimb_72 (by decide) ?_
        refine lv_imul hx hb dX0_addLimb_74 ?_
        refine lv_iload hx hb dX0_addLimb_75 (lv_at hl 5 rfl) ?_
        refine lv_iadd hx hb dX0_addLimb_77 ?_
        refine lv_iload hx hb dX0_addLimb_78 (lv_at hl 0 rfl) ?_
        obtain ⟨g19, hM⟩ := gd_at hM
        refine jiast (x := (x2 + v14)) (st2 := pU st16 (r0 + 7) (((w9 * (8 : Int32)) + y7)).toNatClampNeg ((x2 + v14))) hx hb hK (cD hj) hI (r0 + 7) 0 (cg_Doll_bonesBetween am cI cC cS st16 h0) rfl (inB_vp g19) (cs_Doll_bonesBetween am cI cC cS st16 h0 _) dX0_addLimb_80 (fun st18 est18 H locs hI => ?_)
        replace hM := nm_at est18 hM
        refine lv_iinc (v := (w9 + (1 : Int32))) (lv' := [(5, .int (w9 + (1 : Int32))), (6, .int (x2 + v14)), (0, .ref (am r0)), (1, .int x1), (2, .int x2), (3, .int x3), (4, .int y7)]) hx hb dX0_addLimb_81 hl (k := 6) rfl rfl (by decide) rfl (fun ls hl => ?_)
        refine lv_goto (tgt := 33) hx hb dX0_addLimb_84 (by decide) ?_
        have hz := Option.some.inj hM
        subst hz
        exact ih0 (w9 + (1 : Int32)) st18 _ _ _ hI (lv_sub hl [2, 3, 4, 5, 6, 0] rfl) hk0
  exact lp0 N (0 : Int32) st5 _ _ _ hI (lv_sub hl [2, 3, 4, 5, 1, 0] rfl) hM
set_option maxRecDepth 20000 in
theorem hi_X4_setLimb_X4 : ∀ w ∈ wsX40, w ∈ wsX4_setLimb := by decide +kernel
set_option maxHeartbeats 4000000 in
set_option maxRecDepth 100000 in
theorem jw_X4_setLimb {l : Launch} (D : va_G) (am : Nat → Nat) (cI cC cS : ClassId) (hj : aJ am 52) (N : Nat) {r0 : Nat} {x1 : Int32} {x2 : Int32} (h0 : ck_Pose r0) {st stZ : PS} {rZ : Unit} (hM : jm_X4_setLimb N r0 x1 x2 st = some (rZ, stZ)) : Met l yX4_setLimb wsX4_setLimb ({ frames := 0, cells := 0, slots := 0, locals := 0 }) (va_Pc [.ref (am r0), .int x1, .int x2] (JH D (cW am cI cC cS) (cTy cI cC cS) st)) (JQ D (aA am 52) (cW am cI cC cS) (cTy cI cC cS) none stZ) 0 0 (aA am 52) := by
  refine jStart (cc := cX4_setLimb) (maxL := 3) (ret := none) [.ref (am r0), .int x1, .int x2] (by decide) rfl (Nat.le_of_ble_eq_true rfl) (fun p e s m below meth c ls hx hb hr hlocks hts hown hml hK hI hl => ?_)
  have hown : s.vm.findClass RX4 = some m.cls := hown
  replace hl : lv_has ls 3 [(0, .ref (am r0)), (1, .int x1), (2, .int x2)] := hl
  generalize hAV : ([.ref (am r0), .int x1, .int x2] : List Value).toArray = AV at hts ⊢
  have f_0 := hts (.fieldLink RX4 11 "PuppetBar$Pose" "row" "[I") (by decide +kernel)
  unfold jm_X4_setLimb at hM
  refine lv_aload_n hx hb dX4_setLimb_0 rfl (lv_at hl 0 rfl) ?_
  refine va_get (D := D) (ci := 4) (v := .ref (am (r0 + 1))) (C := RX4) (T := TX4) (N := 1) hx hb hts hi_X4_setLimb_X4 hown hK hI.1 r0 (cg_Pose am cI cC cS st h0) rfl 0 (by decide) f_0 (fun _ h9 => h9) rfl dX4_setLimb_1 ?_
  refine lv_iconst (v := (3 : Int32)) hx hb dX4_setLimb_4 (by decide) ?_
  refine lv_iload_n hx hb dX4_setLimb_5 rfl (lv_at hl 1 rfl) ?_
  refine lv_iadd hx hb dX4_setLimb_6 ?_
  refine lv_iload_n hx hb dX4_setLimb_7 rfl (lv_at hl 2 rfl) ?_
  obtain ⟨g2, hM⟩ := gd_at hM
  refine jiast (x := x2) (st2 := pU st (r0 + 1) (((3 : Int32) + x1)).toNatClampNeg (x2)) hx hb hK (cD hj) hI (r0 + 1) 0 (cg_Pose_row am cI cC cS st h0) rfl (inB_vp g2) (cs_Pose_row am cI cC cS st h0 _) dX4_setLimb_8 (fun st1 est1 H locs hI => ?_)
  replace hM := nm_at est1 hM
  have hz := Option.some.inj hM
  exact W.vret hx hb hr (fun t ht hW => jq_v hK hI hz ht hW) hI.2.2.2 dX4_setLimb_9
set_option maxRecDepth 20000 in
theorem hi_X4_setHole_X4 : ∀ w ∈ wsX40, w ∈ wsX4_setHole := by decide +kernel
set_option maxHeartbeats 4000000 in
set_option maxRecDepth 100000 in
theorem jw_X4_setHole {l : Launch} (D : va_G) (am : Nat → Nat) (cI cC cS : ClassId) (hj : aJ am 52) (N : Nat) {r0 : Nat} {x1 : Int32} {x2 : Int32} (h0 : ck_Pose r0) {st stZ : PS} {rZ : Unit} (hM : jm_X4_setHole N r0 x1 x2 st = some (rZ, stZ)) : Met l yX4_setHole wsX4_setHole ({ frames := 0, cells := 0, slots := 0, locals := 0 }) (va_Pc [.ref (am r0), .int x1, .int x2] (JH D (cW am cI cC cS) (cTy cI cC cS) st)) (JQ D (aA am 52) (cW am cI cC cS) (cTy cI cC cS) none stZ) 0 0 (aA am 52) := by
  refine jStart (cc := cX4_setHole) (maxL := 3) (ret := none) [.ref (am r0), .int x1, .int x2] (by decide) rfl (Nat.le_of_ble_eq_true rfl) (fun p e s m below meth c ls hx hb hr hlocks hts hown hml hK hI hl => ?_)
  have hown : s.vm.findClass RX4 = some m.cls := hown
  replace hl : lv_has ls 3 [(0, .ref (am r0)), (1, .int x1), (2, .int x2)] := hl
  generalize hAV : ([.ref (am r0), .int x1, .int x2] : List Value).toArray = AV at hts ⊢
  have f_0 := hts (.fieldLink RX4 11 "PuppetBar$Pose" "row" "[I") (by decide +kernel)
  unfold jm_X4_setHole at hM
  refine lv_aload_n hx hb dX4_setHole_0 rfl (lv_at hl 0 rfl) ?_
  refine va_get (D := D) (ci := 4) (v := .ref (am (r0 + 1))) (C := RX4) (T := TX4) (N := 1) hx hb hts hi_X4_setHole_X4 hown hK hI.1 r0 (cg_Pose am cI cC cS st h0) rfl 0 (by decide) f_0 (fun _ h9 => h9) rfl dX4_setHole_1 ?_
  refine lv_bipush (v := (9 : Int32)) hx hb dX4_setHole_4 (by decide) ?_
  refine lv_iload_n hx hb dX4_setHole_6 rfl (lv_at hl 1 rfl) ?_
  refine lv_iadd hx hb dX4_setHole_7 ?_
  refine lv_iload_n hx hb dX4_setHole_8 rfl (lv_at hl 2 rfl) ?_
  obtain ⟨g2, hM⟩ := gd_at hM
  refine jiast (x := x2) (st2 := pU st (r0 + 1) (((9 : Int32) + x1)).toNatClampNeg (x2)) hx hb hK (cD hj) hI (r0 + 1) 0 (cg_Pose_row am cI cC cS st h0) rfl (inB_vp g2) (cs_Pose_row am cI cC cS st h0 _) dX4_setHole_9 (fun st1 est1 H locs hI => ?_)
  replace hM := nm_at est1 hM
  have hz := Option.some.inj hM
  exact W.vret hx hb hr (fun t ht hW => jq_v hK hI hz ht hW) hI.2.2.2 dX4_setHole_10
set_option maxRecDepth 20000 in
theorem hi_X4_setLength_X4 : ∀ w ∈ wsX40, w ∈ wsX4_setLength := by decide +kernel
set_option maxHeartbeats 4000000 in
set_option maxRecDepth 100000 in
theorem jw_X4_setLength {l : Launch} (D : va_G) (am : Nat → Nat) (cI cC cS : ClassId) (hj : aJ am 52) (N : Nat) {r0 : Nat} {x1 : Int32} {x2 : Int32} (h0 : ck_Pose r0) {st stZ : PS} {rZ : Unit} (hM : jm_X4_setLength N r0 x1 x2 st = some (rZ, stZ)) : Met l yX4_setLength wsX4_setLength ({ frames := 0, cells := 0, slots := 0, locals := 0 }) (va_Pc [.ref (am r0), .int x1, .int x2] (JH D (cW am cI cC cS) (cTy cI cC cS) st)) (JQ D (aA am 52) (cW am cI cC cS) (cTy cI cC cS) none stZ) 0 0 (aA am 52) := by
  refine jStart (cc := cX4_setLength) (maxL := 3) (ret := none) [.ref (am r0), .int x1, .int x2] (by decide) rfl (Nat.le_of_ble_eq_true rfl) (fun p e s m below meth c ls hx hb hr hlocks hts hown hml hK hI hl => ?_)
  have hown : s.vm.findClass RX4 = some m.cls := hown
  replace hl : lv_has ls 3 [(0, .ref (am r0)), (1, .int x1), (2, .int x2)] := hl
  generalize hAV : ([.ref (am r0), .int x1, .int x2] : List Value).toArray = AV at hts ⊢
  have f_0 := hts (.fieldLink RX4 11 "PuppetBar$Pose" "row" "[I") (by decide +kernel)
  unfold jm_X4_setLength at hM
  refine lv_aload_n hx hb dX4_setLength_0 rfl (lv_at hl 0 rfl) ?_
  refine va_get (D := D) (ci := 4) (v := .ref (am (r0 + 1))) (C := RX4) (T := TX4) (N := 1) hx hb hts hi_X4_setLength_X4 hown hK hI.1 r0 (cg_Pose am cI cC cS st h0) rfl 0 (by decide) f_0 (fun _ h9 => h9) rfl dX4_setLength_1 ?_
  refine lv_bipush (v := (15 : Int32)) hx hb dX4_setLength_4 (by decide) ?_
  refine lv_iload_n hx hb dX4_setLength_6 rfl (lv_at hl 1 rfl) ?_
  refine lv_iadd hx hb dX4_setLength_7 ?_
  refine lv_iload_n hx hb dX4_setLength_8 rfl (lv_at hl 2 rfl) ?_
  obtain ⟨g2, hM⟩ := gd_at hM
  refine jiast (x := x2) (st2 := pU st (r0 + 1) (((15 : Int32) + x1)).toNatClampNeg (x2)) hx hb hK (cD hj) hI (r0 + 1) 0 (cg_Pose_row am cI cC cS st h0) rfl (inB_vp g2) (cs_Pose_row am cI cC cS st h0 _) dX4_setLength_9 (fun st1 est1 H locs hI => ?_)
  replace hM := nm_at est1 hM
  have hz := Option.some.inj hM
  exact W.vret hx hb hr (fun t ht hW => jq_v hK hI hz ht hW) hI.2.2.2 dX4_setLength_10
set_option maxRecDepth 20000 in
theorem hi_X0_addString_X0 : ∀ w ∈ wsX00, w ∈ wsX0_addString := by decide +kernel
set_option maxHeartbeats 4000000 in
set_option maxRecDepth 100000 in
theorem jw_X0_addString {l : Launch} (D : va_G) (am : Nat → Nat) (cI cC cS : ClassId) (hj : aJ am 52) (N : Nat) {r0 : Nat} {x1 : Int32} {x2 : Int32} {x3 : Int32} {x4 : Int32} (h0 : ck_Doll r0) {st stZ : PS} {rZ : Unit} (hM : jm_X0_addString N r0 x1 x2 x3 x4 st = some (rZ, stZ)) : Met l yX0_addString wsX0_addString ({ frames := 1, cells := 0, slots := 0, locals := 22 }) (va_Pc [.ref (am r0), .int x1, .int x2, .int x3, .int x4] (JH D (cW am cI cC cS) (cTy cI cC cS) st)) (JQ D (aA am 52) (cW am cI cC cS) (cTy cI cC cS) none stZ) 0 0 (aA am 52) := by
  refine jStart (cc := cX0_addString) (maxL := 5) (ret := none) [.ref (am r0), .int x1, .int x2, .int x3, .int x4] (by decide) rfl (Nat.le_of_ble_eq_true rfl) (fun p e s m below meth c ls hx hb hr hlocks hts hown hml hK hI hl => ?_)
  have hown : s.vm.findClass RX0 = some m.cls := hown
  replace hl : lv_has ls 5 [(0, .ref (am r0)), (1, .int x1), (2, .int x2), (3, .int x3), (4, .int x4)] := hl
  generalize hAV : ([.ref (am r0), .int x1, .int x2, .int x3, .int x4] : List Value).toArray = AV at hts ⊢
  have f_0 := hts (.fieldLink RX0 33 "PuppetBar$Doll" "first" "LPuppetBar$Pose;") (by decide +kernel)
  have f_1 := hts (.fieldLink RX0 44 "PuppetBar$Doll" "strings" "I") (by decide +kernel)
  have f_2 := hts (.fieldLink RX0 21 "PuppetBar$Doll" "strength" "[I") (by decide +kernel)
  unfold jm_X0_addString at hM
  refine lv_aload_n hx hb dX0_addString_0 rfl (lv_at hl 0 rfl) ?_
  refine va_get (D := D) (ci := 0) (v := .ref (am (r0 + 8))) (C := RX0) (T := TX0) (N := 11) hx hb hts hi_X0_addString_X0 hown hK hI.1 r0 (cg_Doll am cI cC cS st h0) rfl 6 (by decide) f_0 (fun _ h9 => h9) rfl dX0_addString_1 ?_
  refine lv_aload_n hx hb dX0_addString_4 rfl (lv_at hl 0 rfl) ?_
  refine va_get (D := D) (ci := 0) (v := .int (st.1 r0 8)) (C := RX0) (T := TX0) (N := 11) hx hb hts hi_X0_addString_X0 hown hK hI.1 r0 (cg_Doll am cI cC cS st h0) rfl 8 (by decide) f_1 (fun _ h9 => h9) rfl dX0_addString_5 ?_
  refine lv_iload_n hx hb dX0_addString_8 rfl (lv_at hl 1 rfl) ?_
  obtain ⟨v1, st2, hqv1, hM⟩ := bd_at hM
  refine jcallV (C := RX4) (As := [.int (st.1 r0 8), .int x1]) (rest := []) ⟨hx, hb, hml, hown, hts⟩ (jw_X4_setLimb D am cI cC cS hj N (ck_Doll_Pose h0) hqv1) (cwV 2 hts gX0_addString_X4_setLimb rfl rfl rfl yd_X4_setLimb ⟨Nat.le_of_ble_eq_true rfl, Nat.le_of_ble_eq_true rfl⟩) hK hI (r0 + 8) (cg_Pose am cI cC cS st (ck_Doll_Pose h0)) rfl rfl hl.1 rfl (Nat.le_of_ble_eq_true rfl) dX0_addString_9 (fun H locs hI => ?_)
  refine W.eq (g2 := F0 m 12 ls []) rfl ?_
  refine lv_aload_n hx hb dX0_addString_12 rfl (lv_at hl 0 rfl) ?_
  refine va_get (D := D) (ci := 0) (v := .ref (am (r0 + 8))) (C := RX0) (T := TX0) (N := 11) hx hb hts hi_X0_addString_X0 hown hK hI.1 r0 (cg_Doll am cI cC cS st2 h0) rfl 6 (by decide) f_0 (fun _ h9 => h9) rfl dX0_addString_13 ?_
  refine lv_aload_n hx hb dX0_addString_16 rfl (lv_at hl 0 rfl) ?_
  refine va_get (D := D) (ci := 0) (v := .int (st2.1 r0 8)) (C := RX0) (T := TX0) (N := 11) hx hb hts hi_X0_addString_X0 hown hK hI.1 r0 (cg_Doll am cI cC cS st2 h0) rfl 8 (by decide) f_1 (fun _ h9 => h9) rfl dX0_addString_17 ?_
  refine lv_iload_n hx hb dX0_addString_20 rfl (lv_at hl 2 rfl) ?_
  obtain ⟨v3, st4, hqv3, hM⟩ := bd_at hM
  refine jcallV (C := RX4) (As := [.int (st2.1 r0 8), .int x2]) (rest := []) ⟨hx, hb, hml, hown, hts⟩ (jw_X4_setHole D am cI cC cS hj N (ck_Doll_Pose h0) hqv3) (cwV 2 hts gX0_addString_X4_setHole rfl rfl rfl yd_X4_setHole ⟨Nat.le_of_ble_eq_true rfl, Nat.le_of_ble_eq_true rfl⟩) hK hI (r0 + 8) (cg_Pose am cI cC cS st2 (ck_Doll_Pose h0)) rfl rfl hl.1 rfl (Nat.le_of_ble_eq_true rfl) dX0_addString_21 (fun H locs hI => ?_)
  refine W.eq (g2 := F0 m 24 ls []) rfl ?_
  refine lv_aload_n hx hb dX0_addString_24 rfl (lv_at hl 0 rfl) ?_
  refine va_get (D := D) (ci := 0) (v := .ref (am (r0 + 8))) (C := RX0) (T := TX0) (N := 11) hx hb hts hi_X0_addString_X0 hown hK hI.1 r0 (cg_Doll am cI cC cS st4 h0) rfl 6 (by decide) f_0 (fun _ h9 => h9) rfl dX0_addString_25 ?_
  refine lv_aload_n hx hb dX0_addString_28 rfl (lv_at hl 0 rfl) ?_
  refine va_get (D := D) (ci := 0) (v := .int (st4.1 r0 8)) (C := RX0) (T := TX0) (N := 11) hx hb hts hi_X0_addString_X0 hown hK hI.1 r0 (cg_Doll am cI cC cS st4 h0) rfl 8 (by decide) f_1 (fun _ h9 => h9) rfl dX0_addString_29 ?_
  refine lv_iload_n hx hb dX0_addString_32 rfl (lv_at hl 3 rfl) ?_
  obtain ⟨v5, st6, hqv5, hM⟩ := bd_at hM
  refine jcallV (C := RX4) (As := [.int (st4.1 r0 8), .int x3]) (rest := []) ⟨hx, hb, hml, hown, hts⟩ (jw_X4_setLength D am cI cC cS hj N (ck_Doll_Pose h0) hqv5) (cwV 2 hts gX0_addString_X4_setLength rfl rfl rfl yd_X4_setLength ⟨Nat.le_of_ble_eq_true rfl, Nat.le_of_ble_eq_true rfl⟩) hK hI (r0 + 8) (cg_Pose am cI cC cS st4 (ck_Doll_Pose h0)) rfl rfl hl.1 rfl (Nat.le_of_ble_eq_true rfl) dX0_addString_33 (fun H locs hI => ?_)
  refine W.eq (g2 := F0 m 36 ls []) rfl ?_
  refine lv_aload_n hx hb dX0_addString_36 rfl (lv_at hl 0 rfl) ?_
  refine va_get (D := D) (ci := 0) (v := .ref (am (r0 + 4))) (C := RX0) (T := TX0) (N := 11) hx hb hts hi_X0_addString_X0 hown hK hI.1 r0 (cg_Doll am cI cC cS st6 h0) rfl 3 (by decide) f_2 (fun _ h9 => h9) rfl dX0_addString_37 ?_
  refine lv_aload_n hx hb dX0_addString_40 rfl (lv_at hl 0 rfl) ?_
  refine va_get (D := D) (ci := 0) (v := .int (st6.1 r0 8)) (C := RX0) (T := TX0) (N := 11) hx hb hts hi_X0_addString_X0 hown hK hI.1 r0 (cg_Doll am cI cC cS st6 h0) rfl 8 (by decide) f_1 (fun _ h9 => h9) rfl dX0_addString_41 ?_
  refine lv_iload hx hb dX0_addString_44 (lv_at hl 4 rfl) ?_
  obtain ⟨g8, hM⟩ := gd_at hM
  refine jiast (x := x4) (st2 := pU st6 (r0 + 4) ((st6.1 r0 8)).toNatClampNeg (x4)) hx hb hK (cD hj) hI (r0 + 4) 0 (cg_Doll_strength am cI cC cS st6 h0) rfl (inB_vp g8) (cs_Doll_strength am cI cC cS st6 h0 _) dX0_addString_46 (fun st7 est7 H locs hI => ?_)
  replace hM := nm_at est7 hM
  refine lv_aload_n hx hb dX0_addString_47 rfl (lv_at hl 0 rfl) ?_
  refine lv_dup hx hb dX0_addString_48 rfl ?_
  refine va_get (D := D) (ci := 0) (v := .int (st7.1 r0 8)) (C := RX0) (T := TX0) (N := 11) hx hb hts hi_X0_addString_X0 hown hK hI.1 r0 (cg_Doll am cI cC cS st7 h0) rfl 8 (by decide) f_1 (fun _ h9 => h9) rfl dX0_addString_49 ?_
  refine lv_iconst (v := (1 : Int32)) hx hb dX0_addString_52 (by decide) ?_
  refine lv_iadd hx hb dX0_addString_53 ?_
  refine jput (D := D) (ci := 0) (v := .int ((st7.1 r0 8) + (1 : Int32))) (ty := .int) (C := RX0) (T := TX0) (N := 11) (st2 := pU st7 r0 8 ((st7.1 r0 8) + (1 : Int32))) hx hb hts hi_X0_addString_X0 tyX0 tyX0_ok nmX0 hown hK (cD hj) hI r0 (cg_Doll am cI cC cS st7 h0) rfl 8 (by decide) f_1 (fun _ h9 => h9) rfl (by decide +kernel) rfl rfl (Nat.le_of_ble_eq_true rfl) (cs_Doll_8 am cI cC cS st7 h0 _) dX0_addString_54 (fun st9 est9 H locs hI => ?_)
  replace hM := nm_at est9 hM
  have hz := Option.some.inj hM
  exact W.vret hx hb hr (fun t ht hW => jq_v hK hI hz ht hW) hI.2.2.2 dX0_addString_57
set_option maxRecDepth 20000 in
theorem hi_X0_addBeat_X0 : ∀ w ∈ wsX00, w ∈ wsX0_addBeat := by decide +kernel
set_option maxHeartbeats 4000000 in
set_option maxRecDepth 100000 in
theorem jw_X0_addBeat {l : Launch} (D : va_G) (am : Nat → Nat) (cI cC cS : ClassId) (hj : aJ am 52) (N : Nat) {r0 : Nat} {x1 : Int32} {x2 : Int32} (h0 : ck_Doll r0) {st stZ : PS} {rZ : Unit} (hM : jm_X0_addBeat N r0 x1 x2 st = some (rZ, stZ)) : Met l yX0_addBeat wsX0_addBeat ({ frames := 0, cells := 0, slots := 0, locals := 0 }) (va_Pc [.ref (am r0), .int x1, .int x2] (JH D (cW am cI cC cS) (cTy cI cC cS) st)) (JQ D (aA am 52) (cW am cI cC cS) (cTy cI cC cS) none stZ) 0 0 (aA am 52) := by
  refine jStart (cc := cX0_addBeat) (maxL := 3) (ret := none) [.ref (am r0), .int x1, .int x2] (by decide) rfl (Nat.le_of_ble_eq_true rfl) (fun p e s m below meth c ls hx hb hr hlocks hts hown hml hK hI hl => ?_)
  have hown : s.vm.findClass RX0 = some m.cls := hown
  replace hl : lv_has ls 3 [(0, .ref (am r0)), (1, .int x1), (2, .int x2)] := hl
  generalize hAV : ([.ref (am r0), .int x1, .int x2] : List Value).toArray = AV at hts ⊢
  have f_0 := hts (.fieldLink RX0 24 "PuppetBar$Doll" "beatLift" "[I") (by decide +kernel)
  have f_1 := hts (.fieldLink RX0 47 "PuppetBar$Doll" "beats" "I") (by decide +kernel)
  have f_2 := hts (.fieldLink RX0 27 "PuppetBar$Doll" "beatTilt" "[I") (by decide +kernel)
  unfold jm_X0_addBeat at hM
  refine lv_aload_n hx hb dX0_addBeat_0 rfl (lv_at hl 0 rfl) ?_
  refine va_get (D := D) (ci := 0) (v := .ref (am (r0 + 5))) (C := RX0) (T := TX0) (N := 11) hx hb hts hi_X0_addBeat_X0 hown hK hI.1 r0 (cg_Doll am cI cC cS st h0) rfl 4 (by decide) f_0 (fun _ h9 => h9) rfl dX0_addBeat_1 ?_
  refine lv_aload_n hx hb dX0_addBeat_4 rfl (lv_at hl 0 rfl) ?_
  refine va_get (D := D) (ci := 0) (v := .int (st.1 r0 9)) (C := RX0) (T := TX0) (N := 11) hx hb hts hi_X0_addBeat_X0 hown hK hI.1 r0 (cg_Doll am cI cC cS st h0) rfl 9 (by decide) f_1 (fun _ h9 => h9) rfl dX0_addBeat_5 ?_
  refine lv_iload_n hx hb dX0_addBeat_8 rfl (lv_at hl 1 rfl) ?_
  obtain ⟨g2, hM⟩ := gd_at hM
  refine jiast (x := x1) (st2 := pU st (r0 + 5) ((st.1 r0 9)).toNatClampNeg (x1)) hx hb hK (cD hj) hI (r0 + 5) 0 (cg_Doll_beatLift am cI cC cS st h0) rfl (inB_vp g2) (cs_Doll_beatLift am cI cC cS st h0 _) dX0_addBeat_9 (fun st1 est1 H locs hI => ?_)
  replace hM := nm_at est1 hM
  refine lv_aload_n hx hb dX0_addBeat_10 rfl (lv_at hl 0 rfl) ?_
  refine va_get (D := D) (ci := 0) (v := .ref (am (r0 + 6))) (C := RX0) (T := TX0) (N := 11) hx hb hts hi_X0_addBeat_X0 hown hK hI.1 r0 (cg_Doll am cI cC cS st1 h0) rfl 5 (by decide) f_2 (fun _ h9 => h9) rfl dX0_addBeat_11 ?_
  refine lv_aload_n hx hb dX0_addBeat_14 rfl (lv_at hl 0 rfl) ?_
  refine va_get (D := D) (ci := 0) (v := .int (st1.1 r0 9)) (C := RX0) (T := TX0) (N := 11) hx hb hts hi_X0_addBeat_X0 hown hK hI.1 r0 (cg_Doll am cI cC cS st1 h0) rfl 9 (by decide) f_1 (fun _ h9 => h9) rfl dX0_addBeat_15 ?_
  refine lv_iload_n hx hb dX0_addBeat_18 rfl (lv_at hl 2 rfl) ?_
  obtain ⟨g4, hM⟩ := gd_at hM
  refine jiast (x := x2) (st2 := pU st1 (r0 + 6) ((st1.1 r0 9)).toNatClampNeg (x2)) hx hb hK (cD hj) hI (r0 + 6) 0 (cg_Doll_beatTilt am cI cC cS st1 h0) rfl (inB_vp g4) (cs_Doll_beatTilt am cI cC cS st1 h0 _) dX0_addBeat_19 (fun st3 est3 H locs hI => ?_)
  replace hM := nm_at est3 hM
  refine lv_aload_n hx hb dX0_addBeat_20 rfl (lv_at hl 0 rfl) ?_
  refine lv_dup hx hb dX0_addBeat_21 rfl ?_
  refine va_get (D := D) (ci := 0) (v := .int (st3.1 r0 9)) (C := RX0) (T := TX0) (N := 11) hx hb hts hi_X0_addBeat_X0 hown hK hI.1 r0 (cg_Doll am cI cC cS st3 h0) rfl 9 (by decide) f_1 (fun _ h9 => h9) rfl dX0_addBeat_22 ?_
  refine lv_iconst (v := (1 : Int32)) hx hb dX0_addBeat_25 (by decide) ?_
  refine lv_iadd hx hb dX0_addBeat_26 ?_
  refine jput (D := D) (ci := 0) (v := .int ((st3.1 r0 9) + (1 : Int32))) (ty := .int) (C := RX0) (T := TX0) (N := 11) (st2 := pU st3 r0 9 ((st3.1 r0 9) + (1 : Int32))) hx hb hts hi_X0_addBeat_X0 tyX0 tyX0_ok nmX0 hown hK (cD hj) hI r0 (cg_Doll am cI cC cS st3 h0) rfl 9 (by decide) f_1 (fun _ h9 => h9) rfl (by decide +kernel) rfl rfl (Nat.le_of_ble_eq_true rfl) (cs_Doll_9 am cI cC cS st3 h0 _) dX0_addBeat_27 (fun st5 est5 H locs hI => ?_)
  replace hM := nm_at est5 hM
  have hz := Option.some.inj hM
  exact W.vret hx hb hr (fun t ht hW => jq_v hK hI hz ht hW) hI.2.2.2 dX0_addBeat_30
set_option maxRecDepth 20000 in
theorem hi_X4_setLift_X4 : ∀ w ∈ wsX40, w ∈ wsX4_setLift := by decide +kernel
set_option maxHeartbeats 4000000 in
set_option maxRecDepth 100000 in
theorem jw_X4_setLift {l : Launch} (D : va_G) (am : Nat → Nat) (cI cC cS : ClassId) (hj : aJ am 52) (N : Nat) {r0 : Nat} {x1 : Int32} (h0 : ck_Pose r0) {st stZ : PS} {rZ : Unit} (hM : jm_X4_setLift N r0 x1 st = some (rZ, stZ)) : Met l yX4_setLift wsX4_setLift ({ frames := 0, cells := 0, slots := 0, locals := 0 }) (va_Pc [.ref (am r0), .int x1] (JH D (cW am cI cC cS) (cTy cI cC cS) st)) (JQ D (aA am 52) (cW am cI cC cS) (cTy cI cC cS) none stZ) 0 0 (aA am 52) := by
  refine jStart (cc := cX4_setLift) (maxL := 2) (ret := none) [.ref (am r0), .int x1] (by decide) rfl (Nat.le_of_ble_eq_true rfl) (fun p e s m below meth c ls hx hb hr hlocks hts hown hml hK hI hl => ?_)
  have hown : s.vm.findClass RX4 = some m.cls := hown
  replace hl : lv_has ls 2 [(0, .ref (am r0)), (1, .int x1)] := hl
  generalize hAV : ([.ref (am r0), .int x1] : List Value).toArray = AV at hts ⊢
  have f_0 := hts (.fieldLink RX4 11 "PuppetBar$Pose" "row" "[I") (by decide +kernel)
  unfold jm_X4_setLift at hM
  refine lv_aload_n hx hb dX4_setLift_0 rfl (lv_at hl 0 rfl) ?_
  refine va_get (D := D) (ci := 4) (v := .ref (am (r0 + 1))) (C := RX4) (T := TX4) (N := 1) hx hb hts hi_X4_setLift_X4 hown hK hI.1 r0 (cg_Pose am cI cC cS st h0) rfl 0 (by decide) f_0 (fun _ h9 => h9) rfl dX4_setLift_1 ?_
  refine lv_iconst (v := (0 : Int32)) hx hb dX4_setLift_4 (by decide) ?_
  refine lv_iload_n hx hb dX4_setLift_5 rfl (lv_at hl 1 rfl) ?_
  refine jiast (x := x1) (st2 := pU st (r0 + 1) 0 (x1)) hx hb hK (cD hj) hI (r0 + 1) 0 (cg_Pose_row am cI cC cS st h0) rfl (inB_vp rfl) (cs_Pose_row am cI cC cS st h0 _) dX4_setLift_6 (fun st1 est1 H locs hI => ?_)
  replace hM := nm_at est1 hM
  have hz := Option.some.inj hM
  exact W.vret hx hb hr (fun t ht hW => jq_v hK hI hz ht hW) hI.2.2.2 dX4_setLift_7
set_option maxRecDepth 20000 in
theorem hi_X4_setTilt_X4 : ∀ w ∈ wsX40, w ∈ wsX4_setTilt := by decide +kernel
set_option maxHeartbeats 4000000 in
set_option maxRecDepth 100000 in
theorem jw_X4_setTilt {l : Launch} (D : va_G) (am : Nat → Nat) (cI cC cS : ClassId) (hj : aJ am 52) (N : Nat) {r0 : Nat} {x1 : Int32} (h0 : ck_Pose r0) {st stZ : PS} {rZ : Unit} (hM : jm_X4_setTilt N r0 x1 st = some (rZ, stZ)) : Met l yX4_setTilt wsX4_setTilt ({ frames := 0, cells := 0, slots := 0, locals := 0 }) (va_Pc [.ref (am r0), .int x1] (JH D (cW am cI cC cS) (cTy cI cC cS) st)) (JQ D (aA am 52) (cW am cI cC cS) (cTy cI cC cS) none stZ) 0 0 (aA am 52) := by
  refine jStart (cc := cX4_setTilt) (maxL := 2) (ret := none) [.ref (am r0), .int x1] (by decide) rfl (Nat.le_of_ble_eq_true rfl) (fun p e s m below meth c ls hx hb hr hlocks hts hown hml hK hI hl => ?_)
  have hown : s.vm.findClass RX4 = some m.cls := hown
  replace hl : lv_has ls 2 [(0, .ref (am r0)), (1, .int x1)] := hl
  generalize hAV : ([.ref (am r0), .int x1] : List Value).toArray = AV at hts ⊢
  have f_0 := hts (.fieldLink RX4 11 "PuppetBar$Pose" "row" "[I") (by decide +kernel)
  unfold jm_X4_setTilt at hM
  refine lv_aload_n hx hb dX4_setTilt_0 rfl (lv_at hl 0 rfl) ?_
  refine va_get (D := D) (ci := 4) (v := .ref (am (r0 + 1))) (C := RX4) (T := TX4) (N := 1) hx hb hts hi_X4_setTilt_X4 hown hK hI.1 r0 (cg_Pose am cI cC cS st h0) rfl 0 (by decide) f_0 (fun _ h9 => h9) rfl dX4_setTilt_1 ?_
  refine lv_iconst (v := (1 : Int32)) hx hb dX4_setTilt_4 (by decide) ?_
  refine lv_iload_n hx hb dX4_setTilt_5 rfl (lv_at hl 1 rfl) ?_
  refine jiast (x := x1) (st2 := pU st (r0 + 1) 1 (x1)) hx hb hK (cD hj) hI (r0 + 1) 0 (cg_Pose_row am cI cC cS st h0) rfl (inB_vp rfl) (cs_Pose_row am cI cC cS st h0 _) dX4_setTilt_6 (fun st1 est1 H locs hI => ?_)
  replace hM := nm_at est1 hM
  have hz := Option.some.inj hM
  exact W.vret hx hb hr (fun t ht hW => jq_v hK hI hz ht hW) hI.2.2.2 dX4_setTilt_7
set_option maxRecDepth 20000 in
theorem hi_X0_moveToBeat_X0 : ∀ w ∈ wsX00, w ∈ wsX0_moveToBeat := by decide +kernel
set_option maxHeartbeats 4000000 in
set_option maxRecDepth 100000 in
theorem jw_X0_moveToBeat {l : Launch} (D : va_G) (am : Nat → Nat) (cI cC cS : ClassId) (hj : aJ am 52) (N : Nat) {r0 : Nat} {r1 : Nat} {x2 : Int32} (h0 : ck_Doll r0) (h1 : ck_Pose r1) {st stZ : PS} {rZ : Unit} (hM : jm_X0_moveToBeat N r0 r1 x2 st = some (rZ, stZ)) : Met l yX0_moveToBeat wsX0_moveToBeat ({ frames := 1, cells := 0, slots := 0, locals := 21 }) (va_Pc [.ref (am r0), .ref (am r1), .int x2] (JH D (cW am cI cC cS) (cTy cI cC cS) st)) (JQ D (aA am 52) (cW am cI cC cS) (cTy cI cC cS) none stZ) 0 0 (aA am 52) := by
  refine jStart (cc := cX0_moveToBeat) (maxL := 3) (ret := none) [.ref (am r0), .ref (am r1), .int x2] (by decide) rfl (Nat.le_of_ble_eq_true rfl) (fun p e s m below meth c ls hx hb hr hlocks hts hown hml hK hI hl => ?_)
  have hown : s.vm.findClass RX0 = some m.cls := hown
  replace hl : lv_has ls 3 [(0, .ref (am r0)), (1, .ref (am r1)), (2, .int x2)] := hl
  generalize hAV : ([.ref (am r0), .ref (am r1), .int x2] : List Value).toArray = AV at hts ⊢
  have f_0 := hts (.fieldLink RX0 24 "PuppetBar$Doll" "beatLift" "[I") (by decide +kernel)
  have f_1 := hts (.fieldLink RX0 27 "PuppetBar$Doll" "beatTilt" "[I") (by decide +kernel)
  unfold jm_X0_moveToBeat at hM
  refine lv_aload_n hx hb dX0_moveToBeat_0 rfl (lv_at hl 1 rfl) ?_
  refine lv_aload_n hx hb dX0_moveToBeat_1 rfl (lv_at hl 0 rfl) ?_
  refine va_get (D := D) (ci := 0) (v := .ref (am (r0 + 5))) (C := RX0) (T := TX0) (N := 11) hx hb hts hi_X0_moveToBeat_X0 hown hK hI.1 r0 (cg_Doll am cI cC cS st h0) rfl 4 (by decide) f_0 (fun _ h9 => h9) rfl dX0_moveToBeat_2 ?_
  refine lv_iload_n hx hb dX0_moveToBeat_5 rfl (lv_at hl 2 rfl) ?_
  obtain ⟨g1, hM⟩ := gd_at hM
  refine va_iald hx hb hK hI.1 (r0 + 5) 0 (cg_Doll_beatLift am cI cC cS st h0) rfl (inB_vp g1) dX0_moveToBeat_6 ?_
  obtain ⟨v2, st3, hqv2, hM⟩ := bd_at hM
  refine jcallV (C := RX4) (As := [.int (st.1 (r0 + 5) (x2).toNatClampNeg)]) (rest := []) ⟨hx, hb, hml, hown, hts⟩ (jw_X4_setLift D am cI cC cS hj N h1 hqv2) (cwV 1 hts gX0_moveToBeat_X4_setLift rfl rfl rfl yd_X4_setLift ⟨Nat.le_of_ble_eq_true rfl, Nat.le_of_ble_eq_true rfl⟩) hK hI r1 (cg_Pose am cI cC cS st h1) rfl rfl hl.1 rfl (Nat.le_of_ble_eq_true rfl) dX0_moveToBeat_7 (fun H locs hI => ?_)
  refine W.eq (g2 := F0 m 10 ls []) rfl ?_
  refine lv_aload_n hx hb dX0_moveToBeat_10 rfl (lv_at hl 1 rfl) ?_
  refine lv_aload_n hx hb dX0_moveToBeat_11 rfl (lv_at hl 0 rfl) ?_
  refine va_get (D := D) (ci := 0) (v := .ref (am (r0 + 6))) (C := RX0) (T := TX0) (N := 11) hx hb hts hi_X0_moveToBeat_X0 hown hK hI.1 r0 (cg_Doll am cI cC cS st3 h0) rfl 5 (by decide) f_1 (fun _ h9 => h9) rfl dX0_moveToBeat_12 ?_
  refine lv_iload_n hx hb dX0_moveToBeat_15 rfl (lv_at hl 2 rfl) ?_
  obtain ⟨g4, hM⟩ := gd_at hM
  refine va_iald hx hb hK hI.1 (r0 + 6) 0 (cg_Doll_beatTilt am cI cC cS st3 h0) rfl (inB_vp g4) dX0_moveToBeat_16 ?_
  obtain ⟨v5, st6, hqv5, hM⟩ := bd_at hM
  refine jcallV (C := RX4) (As := [.int (st3.1 (r0 + 6) (x2).toNatClampNeg)]) (rest := []) ⟨hx, hb, hml, hown, hts⟩ (jw_X4_setTilt D am cI cC cS hj N h1 hqv5) (cwV 1 hts gX0_moveToBeat_X4_setTilt rfl rfl rfl yd_X4_setTilt ⟨Nat.le_of_ble_eq_true rfl, Nat.le_of_ble_eq_true rfl⟩) hK hI r1 (cg_Pose am cI cC cS st3 h1) rfl rfl hl.1 rfl (Nat.le_of_ble_eq_true rfl) dX0_moveToBeat_17 (fun H locs hI => ?_)
  refine W.eq (g2 := F0 m 20 ls []) rfl ?_
  have hz := Option.some.inj hM
  exact W.vret hx hb hr (fun t ht hW => jq_v hK hI hz ht hW) hI.2.2.2 dX0_moveToBeat_20
set_option maxRecDepth 20000 in
theorem hi_X4_isCut_X4 : ∀ w ∈ wsX40, w ∈ wsX4_isCut := by decide +kernel
set_option maxHeartbeats 4000000 in
set_option maxRecDepth 100000 in
theorem jw_X4_isCut {l : Launch} (D : va_G) (am : Nat → Nat) (cI cC cS : ClassId) (hj : aJ am 52) (N : Nat) {r0 : Nat} {x1 : Int32} (h0 : ck_Pose r0) {st stZ : PS} {rZ : Int32} (hM : jm_X4_isCut N r0 x1 st = some (rZ, stZ)) : Met l yX4_isCut wsX4_isCut ({ frames := 0, cells := 0, slots := 0, locals := 0 }) (va_Pc [.ref (am r0), .int x1] (JH D (cW am cI cC cS) (cTy cI cC cS) st)) (JQ D (aA am 52) (cW am cI cC cS) (cTy cI cC cS) (some (.int rZ)) stZ) 0 0 (aA am 52) := by
  refine jStart (cc := cX4_isCut) (maxL := 2) (ret := (some .boolean)) [.ref (am r0), .int x1] (by decide) rfl (Nat.le_of_ble_eq_true rfl) (fun p e s m below meth c ls hx hb hr hlocks hts hown hml hK hI hl => ?_)
  have hown : s.vm.findClass RX4 = some m.cls := hown
  replace hl : lv_has ls 2 [(0, .ref (am r0)), (1, .int x1)] := hl
  generalize hAV : ([.ref (am r0), .int x1] : List Value).toArray = AV at hts ⊢
  have f_0 := hts (.fieldLink RX4 11 "PuppetBar$Pose" "row" "[I") (by decide +kernel)
  unfold jm_X4_isCut at hM
  refine lv_aload_n hx hb dX4_isCut_0 rfl (lv_at hl 0 rfl) ?_
  refine va_get (D := D) (ci := 4) (v := .ref (am (r0 + 1))) (C := RX4) (T := TX4) (N := 1) hx hb hts hi_X4_isCut_X4 hown hK hI.1 r0 (cg_Pose am cI cC cS st h0) rfl 0 (by decide) f_0 (fun _ h9 => h9) rfl dX4_isCut_1 ?_
  refine lv_iconst (v := (2 : Int32)) hx hb dX4_isCut_4 (by decide) ?_
  refine va_iald hx hb hK hI.1 (r0 + 1) 0 (cg_Pose_row am cI cC cS st h0) rfl (inB_vp rfl) dX4_isCut_5 ?_
  refine W.eq (g2 := F0 m 6 ls [.int (st.1 (r0 + 1) 2)]) rfl ?_
  refine lv_iload_n hx hb dX4_isCut_6 rfl (lv_at hl 1 rfl) ?_
  refine lv_ishr hx hb dX4_isCut_7 ?_
  refine lv_iconst (v := (1 : Int32)) hx hb dX4_isCut_8 (by decide) ?_
  refine lv_iand hx hb dX4_isCut_9 ?_
  refine lv_iconst (v := (1 : Int32)) hx hb dX4_isCut_10 (by decide) ?_
  refine lv_icmp_ne (tgt := 18) hx hb dX4_isCut_11 (by decide) (fun c1 => ?_) (fun c1 => ?_)
  · replace hM := if_f c1 hM
    refine lv_iconst (v := (0 : Int32)) hx hb dX4_isCut_18 (by decide) ?_
    have hz := Option.some.inj hM
    exact W.zret hx hb hr rfl (fun t ht hW => jq_i hK hI hz ht hW) hI.2.2.2 dX4_isCut_19
  · replace hM := if_t c1 hM
    refine lv_iconst (v := (1 : Int32)) hx hb dX4_isCut_14 (by decide) ?_
    refine lv_goto (tgt := 19) hx hb dX4_isCut_15 (by decide) ?_
    have hz := Option.some.inj hM
    exact W.zret hx hb hr rfl (fun t ht hW => jq_i hK hI hz ht hW) hI.2.2.2 dX4_isCut_19
set_option maxRecDepth 20000 in
theorem hi_X4_endOf_X4 : ∀ w ∈ wsX40, w ∈ wsX4_endOf := by decide +kernel
set_option maxHeartbeats 4000000 in
set_option maxRecDepth 100000 in
theorem jw_X4_endOf {l : Launch} (D : va_G) (am : Nat → Nat) (cI cC cS : ClassId) (hj : aJ am 52) (N : Nat) {r0 : Nat} {x1 : Int32} (h0 : ck_Pose r0) {st stZ : PS} {rZ : Int32} (hM : jm_X4_endOf N r0 x1 st = some (rZ, stZ)) : Met l yX4_endOf wsX4_endOf ({ frames := 0, cells := 0, slots := 0, locals := 0 }) (va_Pc [.ref (am r0), .int x1] (JH D (cW am cI cC cS) (cTy cI cC cS) st)) (JQ D (aA am 52) (cW am cI cC cS) (cTy cI cC cS) (some (.int rZ)) stZ) 0 0 (aA am 52) := by
  refine jStart (cc := cX4_endOf) (maxL := 2) (ret := (some .int)) [.ref (am r0), .int x1] (by decide) rfl (Nat.le_of_ble_eq_true rfl) (fun p e s m below meth c ls hx hb hr hlocks hts hown hml hK hI hl => ?_)
  have hown : s.vm.findClass RX4 = some m.cls := hown
  replace hl : lv_has ls 2 [(0, .ref (am r0)), (1, .int x1)] := hl
  generalize hAV : ([.ref (am r0), .int x1] : List Value).toArray = AV at hts ⊢
  have f_0 := hts (.fieldLink RX4 11 "PuppetBar$Pose" "row" "[I") (by decide +kernel)
  unfold jm_X4_endOf at hM
  refine lv_aload_n hx hb dX4_endOf_0 rfl (lv_at hl 0 rfl) ?_
  refine va_get (D := D) (ci := 4) (v := .ref (am (r0 + 1))) (C := RX4) (T := TX4) (N := 1) hx hb hts hi_X4_endOf_X4 hown hK hI.1 r0 (cg_Pose am cI cC cS st h0) rfl 0 (by decide) f_0 (fun _ h9 => h9) rfl dX4_endOf_1 ?_
  refine lv_iconst (v := (0 : Int32)) hx hb dX4_endOf_4 (by decide) ?_
  refine va_iald hx hb hK hI.1 (r0 + 1) 0 (cg_Pose_row am cI cC cS st h0) rfl (inB_vp rfl) dX4_endOf_5 ?_
  refine W.eq (g2 := F0 m 6 ls [.int (st.1 (r0 + 1) 0)]) rfl ?_
  refine lv_aload_n hx hb dX4_endOf_6 rfl (lv_at hl 0 rfl) ?_
  refine va_get (D := D) (ci := 4) (v := .ref (am (r0 + 1))) (C := RX4) (T := TX4) (N := 1) hx hb hts hi_X4_endOf_X4 hown hK hI.1 r0 (cg_Pose am cI cC cS st h0) rfl 0 (by decide) f_0 (fun _ h9 => h9) rfl dX4_endOf_7 ?_
  refine lv_iconst (v := (1 : Int32)) hx hb dX4_endOf_10 (by decide) ?_
  refine va_iald hx hb hK hI.1 (r0 + 1) 0 (cg_Pose_row am cI cC cS st h0) rfl (inB_vp rfl) dX4_endOf_11 ?_
  refine W.eq (g2 := F0 m 12 ls [.int (st.1 (r0 + 1) 1), .int (st.1 (r0 + 1) 0)]) rfl ?_
  refine lv_aload_n hx hb dX4_endOf_12 rfl (lv_at hl 0 rfl) ?_
  refine va_get (D := D) (ci := 4) (v := .ref (am (r0 + 1))) (C := RX4) (T := TX4) (N := 1) hx hb hts hi_X4_endOf_X4 hown hK hI.1 r0 (cg_Pose am cI cC cS st h0) rfl 0 (by decide) f_0 (fun _ h9 => h9) rfl dX4_endOf_13 ?_
  refine lv_bipush (v := (9 : Int32)) hx hb dX4_endOf_16 (by decide) ?_
  refine lv_iload_n hx hb dX4_endOf_18 rfl (lv_at hl 1 rfl) ?_
  refine lv_iadd hx hb dX4_endOf_19 ?_
  obtain ⟨g1, hM⟩ := gd_at hM
  refine va_iald hx hb hK hI.1 (r0 + 1) 0 (cg_Pose_row am cI cC cS st h0) rfl (inB_vp g1) dX4_endOf_20 ?_
  refine lv_iconst (v := (3 : Int32)) hx hb dX4_endOf_21 (by decide) ?_
  refine lv_isub hx hb dX4_endOf_22 ?_
  refine lv_imul hx hb dX4_endOf_23 ?_
  refine lv_iadd hx hb dX4_endOf_24 ?_
  refine lv_aload_n hx hb dX4_endOf_25 rfl (lv_at hl 0 rfl) ?_
  refine va_get (D := D) (ci := 4) (v := .ref (am (r0 + 1))) (C := RX4) (T := TX4) (N := 1) hx hb hts hi_X4_endOf_X4 hown hK hI.1 r0 (cg_Pose am cI cC cS st h0) rfl 0 (by decide) f_0 (fun _ h9 => h9) rfl dX4_endOf_26 ?_
  refine lv_bipush (v := (15 : Int32)) hx hb dX4_endOf_29 (by decide) ?_
  refine lv_iload_n hx hb dX4_endOf_31 rfl (lv_at hl 1 rfl) ?_
  refine lv_iadd hx hb dX4_endOf_32 ?_
  obtain ⟨g2, hM⟩ := gd_at hM
  refine va_iald hx hb hK hI.1 (r0 + 1) 0 (cg_Pose_row am cI cC cS st h0) rfl (inB_vp g2) dX4_endOf_33 ?_
  refine lv_isub hx hb dX4_endOf_34 ?_
  have hz := Option.some.inj hM
  exact W.iret hx hb hr (fun t ht hW => jq_i hK hI hz ht hW) hI.2.2.2 dX4_endOf_35
set_option maxRecDepth 20000 in
theorem hi_X4_limbOf_X4 : ∀ w ∈ wsX40, w ∈ wsX4_limbOf := by decide +kernel
set_option maxHeartbeats 4000000 in
set_option maxRecDepth 100000 in
theorem jw_X4_limbOf {l : Launch} (D : va_G) (am : Nat → Nat) (cI cC cS : ClassId) (hj : aJ am 52) (N : Nat) {r0 : Nat} {x1 : Int32} (h0 : ck_Pose r0) {st stZ : PS} {rZ : Int32} (hM : jm_X4_limbOf N r0 x1 st = some (rZ, stZ)) : Met l yX4_limbOf wsX4_limbOf ({ frames := 0, cells := 0, slots := 0, locals := 0 }) (va_Pc [.ref (am r0), .int x1] (JH D (cW am cI cC cS) (cTy cI cC cS) st)) (JQ D (aA am 52) (cW am cI cC cS) (cTy cI cC cS) (some (.int rZ)) stZ) 0 0 (aA am 52) := by
  refine jStart (cc := cX4_limbOf) (maxL := 2) (ret := (some .int)) [.ref (am r0), .int x1] (by decide) rfl (Nat.le_of_ble_eq_true rfl) (fun p e s m below meth c ls hx hb hr hlocks hts hown hml hK hI hl => ?_)
  have hown : s.vm.findClass RX4 = some m.cls := hown
  replace hl : lv_has ls 2 [(0, .ref (am r0)), (1, .int x1)] := hl
  generalize hAV : ([.ref (am r0), .int x1] : List Value).toArray = AV at hts ⊢
  have f_0 := hts (.fieldLink RX4 11 "PuppetBar$Pose" "row" "[I") (by decide +kernel)
  unfold jm_X4_limbOf at hM
  refine lv_aload_n hx hb dX4_limbOf_0 rfl (lv_at hl 0 rfl) ?_
  refine va_get (D := D) (ci := 4) (v := .ref (am (r0 + 1))) (C := RX4) (T := TX4) (N := 1) hx hb hts hi_X4_limbOf_X4 hown hK hI.1 r0 (cg_Pose am cI cC cS st h0) rfl 0 (by decide) f_0 (fun _ h9 => h9) rfl dX4_limbOf_1 ?_
  refine lv_iconst (v := (3 : Int32)) hx hb dX4_limbOf_4 (by decide) ?_
  refine lv_iload_n hx hb dX4_limbOf_5 rfl (lv_at hl 1 rfl) ?_
  refine lv_iadd hx hb dX4_limbOf_6 ?_
  obtain ⟨g1, hM⟩ := gd_at hM
  refine va_iald hx hb hK hI.1 (r0 + 1) 0 (cg_Pose_row am cI cC cS st h0) rfl (inB_vp g1) dX4_limbOf_7 ?_
  have hz := Option.some.inj hM
  exact W.iret hx hb hr (fun t ht hW => jq_i hK hI hz ht hW) hI.2.2.2 dX4_limbOf_8
set_option maxHeartbeats 4000000 in
set_option maxRecDepth 100000 in
theorem jw_X0_pull {l : Launch} (D : va_G) (am : Nat → Nat) (cI cC cS : ClassId) (hj : aJ am 52) (N : Nat) {r0 : Nat} {r1 : Nat} {x2 : Int32} {x3 : Int32} (h0 : ck_Doll r0) (h1 : ck_Pose r1) {st stZ : PS} {rZ : Int32} (hM : jm_X0_pull N r0 r1 x2 x3 st = some (rZ, stZ)) : Met l yX0_pull wsX0_pull ({ frames := 1, cells := 0, slots := 0, locals := 22 }) (va_Pc [.ref (am r0), .ref (am r1), .int x2, .int x3] (JH D (cW am cI cC cS) (cTy cI cC cS) st)) (JQ D (aA am 52) (cW am cI cC cS) (cTy cI cC cS) (some (.int rZ)) stZ) 0 0 (aA am 52) := by
  refine jStart (cc := cX0_pull) (maxL := 4) (ret := (some .int)) [.ref (am r0), .ref (am r1), .int x2, .int x3] (by decide) rfl (Nat.le_of_ble_eq_true rfl) (fun p e s m below meth c ls hx hb hr hlocks hts hown hml hK hI hl => ?_)
  have hown : s.vm.findClass RX0 = some m.cls := hown
  replace hl : lv_has ls 4 [(0, .ref (am r0)), (1, .ref (am r1)), (2, .int x2), (3, .int x3)] := hl
  generalize hAV : ([.ref (am r0), .ref (am r1), .int x2, .int x3] : List Value).toArray = AV at hts ⊢
  unfold jm_X0_pull at hM
  refine lv_aload_n hx hb dX0_pull_0 rfl (lv_at hl 1 rfl) ?_
  refine lv_iload_n hx hb dX0_pull_1 rfl (lv_at hl 2 rfl) ?_
  obtain ⟨v1, st2, hqv1, hM⟩ := bd_at hM
  refine jcallV (C := RX4) (As := [.int x2]) (rest := []) ⟨hx, hb, hml, hown, hts⟩ (jw_X4_isCut D am cI cC cS hj N h1 hqv1) (cwV 1 hts gX0_pull_X4_isCut rfl rfl rfl yd_X4_isCut ⟨Nat.le_of_ble_eq_true rfl, Nat.le_of_ble_eq_true rfl⟩) hK hI r1 (cg_Pose am cI cC cS st h1) rfl rfl hl.1 rfl (Nat.le_of_ble_eq_true rfl) dX0_pull_2 (fun H locs hI => ?_)
  refine W.eq (g2 := F0 m 5 ls [.int v1]) rfl ?_
  refine lv_if_eq (tgt := 12) hx hb dX0_pull_5 (by decide) (fun c3 => ?_) (fun c3 => ?_)
  · replace hM := if_t c3 hM
    refine lv_aload_n hx hb dX0_pull_12 rfl (lv_at hl 1 rfl) ?_
    refine lv_iload_n hx hb dX0_pull_13 rfl (lv_at hl 2 rfl) ?_
    obtain ⟨v4, st5, hqv4, hM⟩ := bd_at hM
    refine jcallV (C := RX4) (As := [.int x2]) (rest := []) ⟨hx, hb, hml, hown, hts⟩ (jw_X4_endOf D am cI cC cS hj N h1 hqv4) (cwV 1 hts gX0_pull_X4_endOf rfl rfl rfl yd_X4_endOf ⟨Nat.le_of_ble_eq_true rfl, Nat.le_of_ble_eq_true rfl⟩) hK hI r1 (cg_Pose am cI cC cS st2 h1) rfl rfl hl.1 rfl (Nat.le_of_ble_eq_true rfl) dX0_pull_14 (fun H locs hI => ?_)
    refine W.eq (g2 := F0 m 17 ls [.int v4]) rfl ?_
    refine lv_aload_n hx hb dX0_pull_17 rfl (lv_at hl 0 rfl) ?_
    refine lv_aload_n hx hb dX0_pull_18 rfl (lv_at hl 1 rfl) ?_
    refine lv_iload_n hx hb dX0_pull_19 rfl (lv_at hl 2 rfl) ?_
    obtain ⟨v6, st7, hqv6, hM⟩ := bd_at hM
    refine jcallV (C := RX4) (As := [.int x2]) (rest := [.ref (am r0), .int v4]) ⟨hx, hb, hml, hown, hts⟩ (jw_X4_limbOf D am cI cC cS hj N h1 hqv6) (cwV 1 hts gX0_pull_X4_limbOf rfl rfl rfl yd_X4_limbOf ⟨Nat.le_of_ble_eq_true rfl, Nat.le_of_ble_eq_true rfl⟩) hK hI r1 (cg_Pose am cI cC cS st5 h1) rfl rfl hl.1 rfl (Nat.le_of_ble_eq_true rfl) dX0_pull_20 (fun H locs hI => ?_)
    refine W.eq (g2 := F0 m 23 ls [.int v6, .ref (am r0), .int v4]) rfl ?_
    refine lv_iload_n hx hb dX0_pull_23 rfl (lv_at hl 3 rfl) ?_
    obtain ⟨v8, st9, hqv8, hM⟩ := bd_at hM
    refine jcallV (C := RX0) (As := [.int v6, .int x3]) (rest := [.int v4]) ⟨hx, hb, hml, hown, hts⟩ (jw_X0_apart D am cI cC cS hj N h0 hqv8) (cwV 2 hts gX0_pull_X0_apart rfl rfl rfl yd_X0_apart ⟨Nat.le_of_ble_eq_true rfl, Nat.le_of_ble_eq_true rfl⟩) hK hI r0 (cg_Doll am cI cC cS st7 h0) rfl rfl hl.1 rfl (Nat.le_of_ble_eq_true rfl) dX0_pull_24 (fun H locs hI => ?_)
    refine W.eq (g2 := F0 m 27 ls [.int v8, .int v4]) rfl ?_
    refine lv_isub hx hb dX0_pull_27 ?_
    have hz := Option.some.inj hM
    exact W.iret hx hb hr (fun t ht hW => jq_i hK hI hz ht hW) hI.2.2.2 dX0_pull_28
  · replace hM := if_f c3 hM
    refine lv_iconst (v := (0 : Int32)) hx hb dX0_pull_8 (by decide) ?_
    refine lv_goto (tgt := 28) hx hb dX0_pull_9 (by decide) ?_
    have hz := Option.some.inj hM
    exact W.iret hx hb hr (fun t ht hW => jq_i hK hI hz ht hW) hI.2.2.2 dX0_pull_28
set_option maxRecDepth 20000 in
theorem hi_X0_height_X0 : ∀ w ∈ wsX00, w ∈ wsX0_height := by decide +kernel
set_option maxHeartbeats 4000000 in
set_option maxRecDepth 100000 in
theorem jw_X0_height {l : Launch} (D : va_G) (am : Nat → Nat) (cI cC cS : ClassId) (hj : aJ am 52) (N : Nat) {r0 : Nat} {r1 : Nat} {x2 : Int32} (h0 : ck_Doll r0) (h1 : ck_Pose r1) {st stZ : PS} {rZ : Int32} (hM : jm_X0_height N r0 r1 x2 st = some (rZ, stZ)) : Met l yX0_height wsX0_height ({ frames := 2, cells := 0, slots := 0, locals := 45 }) (va_Pc [.ref (am r0), .ref (am r1), .int x2] (JH D (cW am cI cC cS) (cTy cI cC cS) st)) (JQ D (aA am 52) (cW am cI cC cS) (cTy cI cC cS) (some (.int rZ)) stZ) 0 0 (aA am 52) := by
  refine jStart (cc := cX0_height) (maxL := 5) (ret := (some .int)) [.ref (am r0), .ref (am r1), .int x2] (by decide) rfl (Nat.le_of_ble_eq_true rfl) (fun p e s m below meth c ls hx hb hr hlocks hts hown hml hK hI hl => ?_)
  have hown : s.vm.findClass RX0 = some m.cls := hown
  replace hl : lv_has ls 5 [(0, .ref (am r0)), (1, .ref (am r1)), (2, .int x2)] := hl
  generalize hAV : ([.ref (am r0), .ref (am r1), .int x2] : List Value).toArray = AV at hts ⊢
  have f_0 := hts (.fieldLink RX0 44 "PuppetBar$Doll" "strings" "I") (by decide +kernel)
  have f_1 := hts (.methodLink RX0 99 Lib.Math.max.name) (by decide +kernel)
  have f_2 := hts (.static Lib.Math.max.name) (by decide +kernel)
  have f_3 := hts (.initialized "java/lang/Math") (by decide +kernel)
  have f_4 := hts (.code Lib.Math.max.name Lib.Math.max.code 2 (some .int)) (by decide +kernel)
  unfold jm_X0_height at hM
  refine lv_iconst (v := (0 : Int32)) hx hb dX0_height_0 (by decide) ?_
  refine lv_istore_n (lv' := [(3, .int (0 : Int32)), (0, .ref (am r0)), (1, .ref (am r1)), (2, .int x2)]) hx hb dX0_height_1 rfl hl (by decide) rfl (fun ls hl => ?_)
  refine lv_iconst (v := (0 : Int32)) hx hb dX0_height_2 (by decide) ?_
  refine lv_istore (lv' := [(4, .int (0 : Int32)), (3, .int (0 : Int32)), (0, .ref (am r0)), (1, .ref (am r1)), (2, .int x2)]) hx hb dX0_height_3 hl (by decide) rfl (fun ls hl => ?_)
  have lp0 : ∀ (n : Nat) (w2 : Int32) (w3 : Int32) (st1 : PS) (H : Heap) (locs : List Loc) (ls : Array Slot), JI D (aA am 52) (cW am cI cC cS) s.heap st1 H locs → lv_has ls 5 [(0, .ref (am r0)), (1, .ref (am r1)), (2, .int x2), (3, .int w2), (4, .int w3)] → iter (fun q => jm_X0_height_L5 N r0 r1 x2 q.1 q.2.1 q.2.2) n (w2, w3, st1) = some (rZ, stZ) → W p l e (headSpec wsX0_height { frames := 2, cells := 0, slots := 0, locals := 45 }).room s m AV below meth c H locs 0 0 (MQ below (JQ D (aA am 52) (cW am cI cC cS) (cTy cI cC cS) (some (.int rZ)) stZ) AV s 0 0 (aA am 52)) (F0 m 5 ls []) := by
    intro n
    induction n with
    | zero =>
      intro _ _ _ _ _ _ _ _ hM
      exact absurd hM (fun h => iter_zero h)
    | succ n ih0 =>
      intro w2 w3 st1 H locs ls hI hl hM
      obtain ⟨z0, hM, hk0⟩ := iter_succ hM
      replace hM : jm_X0_height_L5 N r0 r1 x2 w2 w3 st1 = some z0 := hM
      unfold jm_X0_height_L5 at hM
      refine lv_iload hx hb dX0_height_5 (lv_at hl 4 rfl) ?_
      refine lv_aload_n hx hb dX0_height_7 rfl (lv_at hl 0 rfl) ?_
      refine va_get (D := D) (ci := 0) (v := .int (st1.1 r0 8)) (C := RX0) (T := TX0) (N := 11) hx hb hts hi_X0_height_X0 hown hK hI.1 r0 (cg_Doll am cI cC cS st1 h0) rfl 8 (by decide) f_0 (fun _ h9 => h9) rfl dX0_height_8 ?_
      refine lv_icmp_ge (tgt := 33) hx hb dX0_height_11 (by decide) (fun c4 => ?_) (fun c4 => ?_)
      · replace hM := if_t c4 hM
        refine lv_iload_n hx hb dX0_height_33 rfl (lv_at hl 3 rfl) ?_
        have hz := Option.some.inj hM
        subst hz
        have hz := kn_r hk0
        exact W.iret hx hb hr (fun t ht hW => jq_i hK hI hz ht hW) hI.2.2.2 dX0_height_34
      · replace hM := if_f c4 hM
        refine lv_iload_n hx hb dX0_height_14 rfl (lv_at hl 3 rfl) ?_
        refine lv_aload_n hx hb dX0_height_15 rfl (lv_at hl 0 rfl) ?_
        refine lv_aload_n hx hb dX0_height_16 rfl (lv_at hl 1 rfl) ?_
        refine lv_iload hx hb dX0_height_17 (lv_at hl 4 rfl) ?_
        refine lv_iload_n hx hb dX0_height_19 rfl (lv_at hl 2 rfl) ?_
        obtain ⟨v5, st6, hqv5, hM⟩ := bd_at hM
        refine jcallV (C := RX0) (As := [.ref (am r1), .int w3, .int x2]) (rest := [.int w2]) ⟨hx, hb, hml, hown, hts⟩ (jw_X0_pull D am cI cC cS hj N h0 h1 hqv5) (cwV 3 hts gX0_height_X0_pull rfl rfl rfl yd_X0_pull ⟨Nat.le_of_ble_eq_true rfl, Nat.le_of_ble_eq_true rfl⟩) hK hI r0 (cg_Doll am cI cC cS st1 h0) rfl rfl hl.1 rfl (Nat.le_of_ble_eq_true rfl) dX0_height_20 (fun H locs hI => ?_)
        refine W.eq (g2 := F0 m 23 ls [.int v5, .int w2]) rfl ?_
        refine va_mmax hx hb (hml.trans hl.1.symm) hown f_1 f_2 f_3 f_4 (Nat.le_of_ble_eq_true rfl) (Nat.le_of_ble_eq_true rfl) (Nat.zero_le _) (Nat.zero_le _) dX0_height_23 ?_
        refine lv_istore_n (lv' := [(3, .int (if w2 < v5 then v5 else w2)), (0, .ref (am r0)), (1, .ref (am r1)), (2, .int x2), (4, .int w3)]) hx hb dX0_height_26 rfl hl (by decide) rfl (fun ls hl => ?_)
        refine lv_iinc (v := (w3 + (1 : Int32))) (lv' := [(4, .int (w3 + (1 : Int32))), (3, .int (if w2 < v5 then v5 else w2)), (0, .ref (am r0)), (1, .ref (am r1)), (2, .int x2)]) hx hb dX0_height_27 hl (k := 4) rfl rfl (by decide) rfl (fun ls hl => ?_)
        refine lv_goto (tgt := 5) hx hb dX0_height_30 (by decide) ?_
        have hz := Option.some.inj hM
        subst hz
        exact ih0 (if w2 < v5 then v5 else w2) (w3 + (1 : Int32)) st6 _ _ _ hI (lv_sub hl [2, 3, 4, 1, 0] rfl) hk0
  exact lp0 N (0 : Int32) (0 : Int32) st _ _ _ hI (lv_sub hl [2, 3, 4, 1, 0] rfl) hM
set_option maxRecDepth 20000 in
theorem hi_X0_bearer_X0 : ∀ w ∈ wsX00, w ∈ wsX0_bearer := by decide +kernel
set_option maxHeartbeats 4000000 in
set_option maxRecDepth 100000 in
theorem jw_X0_bearer {l : Launch} (D : va_G) (am : Nat → Nat) (cI cC cS : ClassId) (hj : aJ am 52) (N : Nat) {r0 : Nat} {r1 : Nat} {x2 : Int32} (h0 : ck_Doll r0) (h1 : ck_Pose r1) {st stZ : PS} {rZ : Int32} (hM : jm_X0_bearer N r0 r1 x2 st = some (rZ, stZ)) : Met l yX0_bearer wsX0_bearer ({ frames := 2, cells := 0, slots := 0, locals := 45 }) (va_Pc [.ref (am r0), .ref (am r1), .int x2] (JH D (cW am cI cC cS) (cTy cI cC cS) st)) (JQ D (aA am 52) (cW am cI cC cS) (cTy cI cC cS) (some (.int rZ)) stZ) 0 0 (aA am 52) := by
  refine jStart (cc := cX0_bearer) (maxL := 7) (ret := (some .int)) [.ref (am r0), .ref (am r1), .int x2] (by decide) rfl (Nat.le_of_ble_eq_true rfl) (fun p e s m below meth c ls hx hb hr hlocks hts hown hml hK hI hl => ?_)
  have hown : s.vm.findClass RX0 = some m.cls := hown
  replace hl : lv_has ls 7 [(0, .ref (am r0)), (1, .ref (am r1)), (2, .int x2)] := hl
  generalize hAV : ([.ref (am r0), .ref (am r1), .int x2] : List Value).toArray = AV at hts ⊢
  have f_0 := hts (.fieldLink RX0 44 "PuppetBar$Doll" "strings" "I") (by decide +kernel)
  unfold jm_X0_bearer at hM
  refine lv_iconst (v := (0 : Int32)) hx hb dX0_bearer_0 (by decide) ?_
  refine lv_istore_n (lv' := [(3, .int (0 : Int32)), (0, .ref (am r0)), (1, .ref (am r1)), (2, .int x2)]) hx hb dX0_bearer_1 rfl hl (by decide) rfl (fun ls hl => ?_)
  refine lv_bipush (v := (-9 : Int32)) hx hb dX0_bearer_2 (by decide) ?_
  refine lv_istore (lv' := [(4, .int (-9 : Int32)), (3, .int (0 : Int32)), (0, .ref (am r0)), (1, .ref (am r1)), (2, .int x2)]) hx hb dX0_bearer_4 hl (by decide) rfl (fun ls hl => ?_)
  refine lv_iconst (v := (0 : Int32)) hx hb dX0_bearer_6 (by decide) ?_
  refine lv_istore (lv' := [(5, .int (0 : Int32)), (4, .int (-9 : Int32)), (3, .int (0 : Int32)), (0, .ref (am r0)), (1, .ref (am r1)), (2, .int x2)]) hx hb dX0_bearer_7 hl (by decide) rfl (fun ls hl => ?_)
  have lp0 : ∀ (n : Nat) (w2 : Int32) (w3 : Int32) (w4 : Int32) (st1 : PS) (H : Heap) (locs : List Loc) (ls : Array Slot), JI D (aA am 52) (cW am cI cC cS) s.heap st1 H locs → lv_has ls 7 [(0, .ref (am r0)), (1, .ref (am r1)), (2, .int x2), (3, .int w2), (4, .int w3), (5, .int w4)] → iter (fun q => jm_X0_bearer_L9 N r0 r1 x2 q.1 q.2.1 q.2.2.1 q.2.2.2) n (w2, w3, w4, st1) = some (rZ, stZ) → W p l e (headSpec wsX0_bearer { frames := 2, cells := 0, slots := 0, locals := 45 }).room s m AV below meth c H locs 0 0 (MQ below (JQ D (aA am 52) (cW am cI cC cS) (cTy cI cC cS) (some (.int rZ)) stZ) AV s 0 0 (aA am 52)) (F0 m 9 ls []) := by
    intro n
    induction n with
    | zero =>
      intro _ _ _ _ _ _ _ _ _ hM
      exact absurd hM (fun h => iter_zero h)
    | succ n ih0 =>
      intro w2 w3 w4 st1 H locs ls hI hl hM
      obtain ⟨z0, hM, hk0⟩ := iter_succ hM
      replace hM : jm_X0_bearer_L9 N r0 r1 x2 w2 w3 w4 st1 = some z0 := hM
      unfold jm_X0_bearer_L9 at hM
      refine lv_iload hx hb dX0_bearer_9 (lv_at hl 5 rfl) ?_
      refine lv_aload_n hx hb dX0_bearer_11 rfl (lv_at hl 0 rfl) ?_
      refine va_get (D := D) (ci := 0) (v := .int (st1.1 r0 8)) (C := RX0) (T := TX0) (N := 11) hx hb hts hi_X0_bearer_X0 hown hK hI.1 r0 (cg_Doll am cI cC cS st1 h0) rfl 8 (by decide) f_0 (fun _ h9 => h9) rfl dX0_bearer_12 ?_
      refine lv_icmp_ge (tgt := 47) hx hb dX0_bearer_15 (by decide) (fun c5 => ?_) (fun c5 => ?_)
      · replace hM := if_t c5 hM
        refine lv_iload hx hb dX0_bearer_47 (lv_at hl 4 rfl) ?_
        have hz := Option.some.inj hM
        subst hz
        have hz := kn_r hk0
        exact W.iret hx hb hr (fun t ht hW => jq_i hK hI hz ht hW) hI.2.2.2 dX0_bearer_49
      · replace hM := if_f c5 hM
        refine lv_aload_n hx hb dX0_bearer_18 rfl (lv_at hl 0 rfl) ?_
        refine lv_aload_n hx hb dX0_bearer_19 rfl (lv_at hl 1 rfl) ?_
        refine lv_iload hx hb dX0_bearer_20 (lv_at hl 5 rfl) ?_
        refine lv_iload_n hx hb dX0_bearer_22 rfl (lv_at hl 2 rfl) ?_
        obtain ⟨v6, st7, hqv6, hM⟩ := bd_at hM
        refine jcallV (C := RX0) (As := [.ref (am r1), .int w4, .int x2]) (rest := []) ⟨hx, hb, hml, hown, hts⟩ (jw_X0_pull D am cI cC cS hj N h0 h1 hqv6) (cwV 3 hts gX0_bearer_X0_pull rfl rfl rfl yd_X0_pull ⟨Nat.le_of_ble_eq_true rfl, Nat.le_of_ble_eq_true rfl⟩) hK hI r0 (cg_Doll am cI cC cS st1 h0) rfl rfl hl.1 rfl (Nat.le_of_ble_eq_true rfl) dX0_bearer_23 (fun H locs hI => ?_)
        refine W.eq (g2 := F0 m 26 ls [.int v6]) rfl ?_
        refine lv_istore (lv' := [(6, .int v6), (0, .ref (am r0)), (1, .ref (am r1)), (2, .int x2), (3, .int w2), (4, .int w3), (5, .int w4)]) hx hb dX0_bearer_26 hl (by decide) rfl (fun ls hl => ?_)
        refine lv_iload hx hb dX0_bearer_28 (lv_at hl 0 rfl) ?_
        refine lv_iload_n hx hb dX0_bearer_30 rfl (lv_at hl 4 rfl) ?_
        refine lv_icmp_le (tgt := 41) hx hb dX0_bearer_31 (by decide) (fun c8 => ?_) (fun c8 => ?_)
        · replace hM := if_t c8 hM
          refine lv_iinc (v := (w4 + (1 : Int32))) (lv' := [(5, .int (w4 + (1 : Int32))), (6, .int v6), (0, .ref (am r0)), (1, .ref (am r1)), (2, .int x2), (3, .int w2), (4, .int w3)]) hx hb dX0_bearer_41 hl (k := 6) rfl rfl (by decide) rfl (fun ls hl => ?_)
          refine lv_goto (tgt := 9) hx hb dX0_bearer_44 (by decide) ?_
          have hz := Option.some.inj hM
          subst hz
          exact ih0 w2 w3 (w4 + (1 : Int32)) st7 _ _ _ hI (lv_sub hl [2, 3, 4, 5, 6, 0] rfl) hk0
        · replace hM := if_f c8 hM
          refine lv_iload hx hb dX0_bearer_34 (lv_at hl 0 rfl) ?_
          refine lv_istore_n (lv' := [(3, .int v6), (6, .int v6), (0, .ref (am r0)), (1, .ref (am r1)), (2, .int x2), (4, .int w3), (5, .int w4)]) hx hb dX0_bearer_36 rfl hl (by decide) rfl (fun ls hl => ?_)
          refine lv_iload hx hb dX0_bearer_37 (lv_at hl 6 rfl) ?_
          refine lv_istore (lv' := [(4, .int w4), (3, .int v6), (6, .int v6), (0, .ref (am r0)), (1, .ref (am r1)), (2, .int x2), (5, .int w4)]) hx hb dX0_bearer_39 hl (by decide) rfl (fun ls hl => ?_)
          refine lv_iinc (v := (w4 + (1 : Int32))) (lv' := [(5, .int (w4 + (1 : Int32))), (4, .int w4), (3, .int v6), (6, .int v6), (0, .ref (am r0)), (1, .ref (am r1)), (2, .int x2)]) hx hb dX0_bearer_41 hl (k := 6) rfl rfl (by decide) rfl (fun ls hl => ?_)
          refine lv_goto (tgt := 9) hx hb dX0_bearer_44 (by decide) ?_
          have hz := Option.some.inj hM
          subst hz
          exact ih0 v6 w4 (w4 + (1 : Int32)) st7 _ _ _ hI (lv_sub hl [4, 5, 6, 2, 1, 0] rfl) hk0
  exact lp0 N (0 : Int32) (-9 : Int32) (0 : Int32) st _ _ _ hI (lv_sub hl [3, 4, 5, 2, 1, 0] rfl) hM
set_option maxRecDepth 20000 in
theorem hi_X0_lifters_X0 : ∀ w ∈ wsX00, w ∈ wsX0_lifters := by decide +kernel
set_option maxHeartbeats 4000000 in
set_option maxRecDepth 100000 in
theorem jw_X0_lifters {l : Launch} (D : va_G) (am : Nat → Nat) (cI cC cS : ClassId) (hj : aJ am 52) (N : Nat) {r0 : Nat} {r1 : Nat} {x2 : Int32} (h0 : ck_Doll r0) (h1 : ck_Pose r1) {st stZ : PS} {rZ : Int32} (hM : jm_X0_lifters N r0 r1 x2 st = some (rZ, stZ)) : Met l yX0_lifters wsX0_lifters ({ frames := 2, cells := 0, slots := 0, locals := 45 }) (va_Pc [.ref (am r0), .ref (am r1), .int x2] (JH D (cW am cI cC cS) (cTy cI cC cS) st)) (JQ D (aA am 52) (cW am cI cC cS) (cTy cI cC cS) (some (.int rZ)) stZ) 0 0 (aA am 52) := by
  refine jStart (cc := cX0_lifters) (maxL := 5) (ret := (some .int)) [.ref (am r0), .ref (am r1), .int x2] (by decide) rfl (Nat.le_of_ble_eq_true rfl) (fun p e s m below meth c ls hx hb hr hlocks hts hown hml hK hI hl => ?_)
  have hown : s.vm.findClass RX0 = some m.cls := hown
  replace hl : lv_has ls 5 [(0, .ref (am r0)), (1, .ref (am r1)), (2, .int x2)] := hl
  generalize hAV : ([.ref (am r0), .ref (am r1), .int x2] : List Value).toArray = AV at hts ⊢
  have f_0 := hts (.fieldLink RX0 44 "PuppetBar$Doll" "strings" "I") (by decide +kernel)
  unfold jm_X0_lifters at hM
  refine lv_iconst (v := (0 : Int32)) hx hb dX0_lifters_0 (by decide) ?_
  refine lv_istore_n (lv' := [(3, .int (0 : Int32)), (0, .ref (am r0)), (1, .ref (am r1)), (2, .int x2)]) hx hb dX0_lifters_1 rfl hl (by decide) rfl (fun ls hl => ?_)
  refine lv_iconst (v := (0 : Int32)) hx hb dX0_lifters_2 (by decide) ?_
  refine lv_istore (lv' := [(4, .int (0 : Int32)), (3, .int (0 : Int32)), (0, .ref (am r0)), (1, .ref (am r1)), (2, .int x2)]) hx hb dX0_lifters_3 hl (by decide) rfl (fun ls hl => ?_)
  have lp0 : ∀ (n : Nat) (w2 : Int32) (w3 : Int32) (st1 : PS) (H : Heap) (locs : List Loc) (ls : Array Slot), JI D (aA am 52) (cW am cI cC cS) s.heap st1 H locs → lv_has ls 5 [(0, .ref (am r0)), (1, .ref (am r1)), (2, .int x2), (3, .int w2), (4, .int w3)] → iter (fun q => jm_X0_lifters_L5 N r0 r1 x2 q.1 q.2.1 q.2.2) n (w2, w3, st1) = some (rZ, stZ) → W p l e (headSpec wsX0_lifters { frames := 2, cells := 0, slots := 0, locals := 45 }).room s m AV below meth c H locs 0 0 (MQ below (JQ D (aA am 52) (cW am cI cC cS) (cTy cI cC cS) (some (.int rZ)) stZ) AV s 0 0 (aA am 52)) (F0 m 5 ls []) := by
    intro n
    induction n with
    | zero =>
      intro _ _ _ _ _ _ _ _ hM
      exact absurd hM (fun h => iter_zero h)
    | succ n ih0 =>
      intro w2 w3 st1 H locs ls hI hl hM
      obtain ⟨z0, hM, hk0⟩ := iter_succ hM
      replace hM : jm_X0_lifters_L5 N r0 r1 x2 w2 w3 st1 = some z0 := hM
      unfold jm_X0_lifters_L5 at hM
      refine lv_iload hx hb dX0_lifters_5 (lv_at hl 4 rfl) ?_
      refine lv_aload_n hx hb dX0_lifters_7 rfl (lv_at hl 0 rfl) ?_
      refine va_get (D := D) (ci := 0) (v := .int (st1.1 r0 8)) (C := RX0) (T := TX0) (N := 11) hx hb hts hi_X0_lifters_X0 hown hK hI.1 r0 (cg_Doll am cI cC cS st1 h0) rfl 8 (by decide) f_0 (fun _ h9 => h9) rfl dX0_lifters_8 ?_
      refine lv_icmp_ge (tgt := 38) hx hb dX0_lifters_11 (by decide) (fun c4 => ?_) (fun c4 => ?_)
      · replace hM := if_t c4 hM
        refine lv_iload_n hx hb dX0_lifters_38 rfl (lv_at hl 3 rfl) ?_
        have hz := Option.some.inj hM
        subst hz
        have hz := kn_r hk0
        exact W.iret hx hb hr (fun t ht hW => jq_i hK hI hz ht hW) hI.2.2.2 dX0_lifters_39
      · replace hM := if_f c4 hM
        refine lv_aload_n hx hb dX0_lifters_14 rfl (lv_at hl 0 rfl) ?_
        refine lv_aload_n hx hb dX0_lifters_15 rfl (lv_at hl 1 rfl) ?_
        refine lv_iload hx hb dX0_lifters_16 (lv_at hl 4 rfl) ?_
        refine lv_iload_n hx hb dX0_lifters_18 rfl (lv_at hl 2 rfl) ?_
        obtain ⟨v5, st6, hqv5, hM⟩ := bd_at hM
        refine jcallV (C := RX0) (As := [.ref (am r1), .int w3, .int x2]) (rest := []) ⟨hx, hb, hml, hown, hts⟩ (jw_X0_pull D am cI cC cS hj N h0 h1 hqv5) (cwV 3 hts gX0_lifters_X0_pull rfl rfl rfl yd_X0_pull ⟨Nat.le_of_ble_eq_true rfl, Nat.le_of_ble_eq_true rfl⟩) hK hI r0 (cg_Doll am cI cC cS st1 h0) rfl rfl hl.1 rfl (Nat.le_of_ble_eq_true rfl) dX0_lifters_19 (fun H locs hI => ?_)
        refine W.eq (g2 := F0 m 22 ls [.int v5]) rfl ?_
        refine lv_if_le (tgt := 32) hx hb dX0_lifters_22 (by decide) (fun c7 => ?_) (fun c7 => ?_)
        · replace hM := if_t c7 hM
          refine lv_iinc (v := (w3 + (1 : Int32))) (lv' := [(4, .int (w3 + (1 : Int32))), (0, .ref (am r0)), (1, .ref (am r1)), (2, .int x2), (3, .int w2)]) hx hb dX0_lifters_32 hl (k := 4) rfl rfl (by decide) rfl (fun ls hl => ?_)
          refine lv_goto (tgt := 5) hx hb dX0_lifters_35 (by decide) ?_
          have hz := Option.some.inj hM
          subst hz
          exact ih0 w2 (w3 + (1 : Int32)) st6 _ _ _ hI (lv_sub hl [1, 2, 3, 4, 0] rfl) hk0
        · replace hM := if_f c7 hM
          refine lv_iload_n hx hb dX0_lifters_25 rfl (lv_at hl 3 rfl) ?_
          refine lv_iconst (v := (1 : Int32)) hx hb dX0_lifters_26 (by decide) ?_
          refine lv_iload hx hb dX0_lifters_27 (lv_at hl 4 rfl) ?_
          refine lv_ishl hx hb dX0_lifters_29 ?_
          refine lv_ior hx hb dX0_lifters_30 ?_
          refine lv_istore_n (lv' := [(3, .int (w2 ||| ((1 : Int32) <<< (w3 &&& 31)))), (0, .ref (am r0)), (1, .ref (am r1)), (2, .int x2), (4, .int w3)]) hx hb dX0_lifters_31 rfl hl (by decide) rfl (fun ls hl => ?_)
          refine lv_iinc (v := (w3 + (1 : Int32))) (lv' := [(4, .int (w3 + (1 : Int32))), (3, .int (w2 ||| ((1 : Int32) <<< (w3 &&& 31)))), (0, .ref (am r0)), (1, .ref (am r1)), (2, .int x2)]) hx hb dX0_lifters_32 hl (k := 4) rfl rfl (by decide) rfl (fun ls hl => ?_)
          refine lv_goto (tgt := 5) hx hb dX0_lifters_35 (by decide) ?_
          have hz := Option.some.inj hM
          subst hz
          exact ih0 (w2 ||| ((1 : Int32) <<< (w3 &&& 31))) (w3 + (1 : Int32)) st6 _ _ _ hI (lv_sub hl [2, 3, 4, 1, 0] rfl) hk0
  exact lp0 N (0 : Int32) (0 : Int32) st _ _ _ hI (lv_sub hl [2, 3, 4, 1, 0] rfl) hM
set_option maxHeartbeats 4000000 in
set_option maxRecDepth 100000 in
theorem jw_X0_isTaut {l : Launch} (D : va_G) (am : Nat → Nat) (cI cC cS : ClassId) (hj : aJ am 52) (N : Nat) {r0 : Nat} {r1 : Nat} {x2 : Int32} (h0 : ck_Doll r0) (h1 : ck_Pose r1) {st stZ : PS} {rZ : Int32} (hM : jm_X0_isTaut N r0 r1 x2 st = some (rZ, stZ)) : Met l yX0_isTaut wsX0_isTaut ({ frames := 3, cells := 0, slots := 0, locals := 69 }) (va_Pc [.ref (am r0), .ref (am r1), .int x2] (JH D (cW am cI cC cS) (cTy cI cC cS) st)) (JQ D (aA am 52) (cW am cI cC cS) (cTy cI cC cS) (some (.int rZ)) stZ) 0 0 (aA am 52) := by
  refine jStart (cc := cX0_isTaut) (maxL := 4) (ret := (some .boolean)) [.ref (am r0), .ref (am r1), .int x2] (by decide) rfl (Nat.le_of_ble_eq_true rfl) (fun p e s m below meth c ls hx hb hr hlocks hts hown hml hK hI hl => ?_)
  have hown : s.vm.findClass RX0 = some m.cls := hown
  replace hl : lv_has ls 4 [(0, .ref (am r0)), (1, .ref (am r1)), (2, .int x2)] := hl
  generalize hAV : ([.ref (am r0), .ref (am r1), .int x2] : List Value).toArray = AV at hts ⊢
  unfold jm_X0_isTaut at hM
  refine lv_aload_n hx hb dX0_isTaut_0 rfl (lv_at hl 1 rfl) ?_
  refine lv_iload_n hx hb dX0_isTaut_1 rfl (lv_at hl 2 rfl) ?_
  obtain ⟨v1, st2, hqv1, hM⟩ := bd_at hM
  refine jcallV (C := RX4) (As := [.int x2]) (rest := []) ⟨hx, hb, hml, hown, hts⟩ (jw_X4_endOf D am cI cC cS hj N h1 hqv1) (cwV 1 hts gX0_isTaut_X4_endOf rfl rfl rfl yd_X4_endOf ⟨Nat.le_of_ble_eq_true rfl, Nat.le_of_ble_eq_true rfl⟩) hK hI r1 (cg_Pose am cI cC cS st h1) rfl rfl hl.1 rfl (Nat.le_of_ble_eq_true rfl) dX0_isTaut_2 (fun H locs hI => ?_)
  refine W.eq (g2 := F0 m 5 ls [.int v1]) rfl ?_
  refine lv_istore_n (lv' := [(3, .int v1), (0, .ref (am r0)), (1, .ref (am r1)), (2, .int x2)]) hx hb dX0_isTaut_5 rfl hl (by decide) rfl (fun ls hl => ?_)
  refine lv_aload_n hx hb dX0_isTaut_6 rfl (lv_at hl 2 rfl) ?_
  refine lv_iload_n hx hb dX0_isTaut_7 rfl (lv_at hl 3 rfl) ?_
  obtain ⟨v3, st4, hqv3, hM⟩ := bd_at hM
  refine jcallV (C := RX4) (As := [.int x2]) (rest := []) ⟨hx, hb, hml, hown, hts⟩ (jw_X4_isCut D am cI cC cS hj N h1 hqv3) (cwV 1 hts gX0_isTaut_X4_isCut rfl rfl rfl yd_X4_isCut ⟨Nat.le_of_ble_eq_true rfl, Nat.le_of_ble_eq_true rfl⟩) hK hI r1 (cg_Pose am cI cC cS st2 h1) rfl rfl hl.1 rfl (Nat.le_of_ble_eq_true rfl) dX0_isTaut_8 (fun H locs hI => ?_)
  refine W.eq (g2 := F0 m 11 ls [.int v3]) rfl ?_
  refine lv_if_ne (tgt := 36) hx hb dX0_isTaut_11 (by decide) (fun c5 => ?_) (fun c5 => ?_)
  · replace hM := if_f c5 hM
    refine lv_iconst (v := (0 : Int32)) hx hb dX0_isTaut_36 (by decide) ?_
    have hz := Option.some.inj hM
    exact W.zret hx hb hr rfl (fun t ht hW => jq_i hK hI hz ht hW) hI.2.2.2 dX0_isTaut_37
  · replace hM := if_t c5 hM
    refine lv_iload_n hx hb dX0_isTaut_14 rfl (lv_at hl 0 rfl) ?_
    refine lv_if_le (tgt := 36) hx hb dX0_isTaut_15 (by decide) (fun c6 => ?_) (fun c6 => ?_)
    · replace hM := if_t c6 hM
      refine lv_iconst (v := (0 : Int32)) hx hb dX0_isTaut_36 (by decide) ?_
      have hz := Option.some.inj hM
      exact W.zret hx hb hr rfl (fun t ht hW => jq_i hK hI hz ht hW) hI.2.2.2 dX0_isTaut_37
    · replace hM := if_f c6 hM
      refine lv_aload_n hx hb dX0_isTaut_18 rfl (lv_at hl 1 rfl) ?_
      refine lv_aload_n hx hb dX0_isTaut_19 rfl (lv_at hl 2 rfl) ?_
      refine lv_aload_n hx hb dX0_isTaut_20 rfl (lv_at hl 2 rfl) ?_
      refine lv_iload_n hx hb dX0_isTaut_21 rfl (lv_at hl 3 rfl) ?_
      obtain ⟨v7, st8, hqv7, hM⟩ := bd_at hM
      refine jcallV (C := RX4) (As := [.int x2]) (rest := [.ref (am r1), .ref (am r0)]) ⟨hx, hb, hml, hown, hts⟩ (jw_X4_limbOf D am cI cC cS hj N h1 hqv7) (cwV 1 hts gX0_isTaut_X4_limbOf rfl rfl rfl yd_X4_limbOf ⟨Nat.le_of_ble_eq_true rfl, Nat.le_of_ble_eq_true rfl⟩) hK hI r1 (cg_Pose am cI cC cS st4 h1) rfl rfl hl.1 rfl (Nat.le_of_ble_eq_true rfl) dX0_isTaut_22 (fun H locs hI => ?_)
      refine W.eq (g2 := F0 m 25 ls [.int v7, .ref (am r1), .ref (am r0)]) rfl ?_
      obtain ⟨v9, st10, hqv9, hM⟩ := bd_at hM
      refine jcallV (C := RX0) (As := [.ref (am r1), .int v7]) (rest := []) ⟨hx, hb, hml, hown, hts⟩ (jw_X0_height D am cI cC cS hj N h0 h1 hqv9) (cwV 2 hts gX0_isTaut_X0_height rfl rfl rfl yd_X0_height ⟨Nat.le_of_ble_eq_true rfl, Nat.le_of_ble_eq_true rfl⟩) hK hI r0 (cg_Doll am cI cC cS st8 h0) rfl rfl hl.1 rfl (Nat.le_of_ble_eq_true rfl) dX0_isTaut_25 (fun H locs hI => ?_)
      refine W.eq (g2 := F0 m 28 ls [.int v9]) rfl ?_
      refine lv_iload_n hx hb dX0_isTaut_28 rfl (lv_at hl 0 rfl) ?_
      refine lv_icmp_ne (tgt := 36) hx hb dX0_isTaut_29 (by decide) (fun c11 => ?_) (fun c11 => ?_)
      · replace hM := if_f c11 hM
        refine lv_iconst (v := (0 : Int32)) hx hb dX0_isTaut_36 (by decide) ?_
        have hz := Option.some.inj hM
        exact W.zret hx hb hr rfl (fun t ht hW => jq_i hK hI hz ht hW) hI.2.2.2 dX0_isTaut_37
      · replace hM := if_t c11 hM
        refine lv_iconst (v := (1 : Int32)) hx hb dX0_isTaut_32 (by decide) ?_
        refine lv_goto (tgt := 37) hx hb dX0_isTaut_33 (by decide) ?_
        have hz := Option.some.inj hM
        exact W.zret hx hb hr rfl (fun t ht hW => jq_i hK hI hz ht hW) hI.2.2.2 dX0_isTaut_37
set_option maxRecDepth 20000 in
theorem hi_X0_taut_X0 : ∀ w ∈ wsX00, w ∈ wsX0_taut := by decide +kernel
set_option maxHeartbeats 4000000 in
set_option maxRecDepth 100000 in
theorem jw_X0_taut {l : Launch} (D : va_G) (am : Nat → Nat) (cI cC cS : ClassId) (hj : aJ am 52) (N : Nat) {r0 : Nat} {r1 : Nat} (h0 : ck_Doll r0) (h1 : ck_Pose r1) {st stZ : PS} {rZ : Int32} (hM : jm_X0_taut N r0 r1 st = some (rZ, stZ)) : Met l yX0_taut wsX0_taut ({ frames := 4, cells := 0, slots := 0, locals := 92 }) (va_Pc [.ref (am r0), .ref (am r1)] (JH D (cW am cI cC cS) (cTy cI cC cS) st)) (JQ D (aA am 52) (cW am cI cC cS) (cTy cI cC cS) (some (.int rZ)) stZ) 0 0 (aA am 52) := by
  refine jStart (cc := cX0_taut) (maxL := 4) (ret := (some .int)) [.ref (am r0), .ref (am r1)] (by decide) rfl (Nat.le_of_ble_eq_true rfl) (fun p e s m below meth c ls hx hb hr hlocks hts hown hml hK hI hl => ?_)
  have hown : s.vm.findClass RX0 = some m.cls := hown
  replace hl : lv_has ls 4 [(0, .ref (am r0)), (1, .ref (am r1))] := hl
  generalize hAV : ([.ref (am r0), .ref (am r1)] : List Value).toArray = AV at hts ⊢
  have f_0 := hts (.fieldLink RX0 44 "PuppetBar$Doll" "strings" "I") (by decide +kernel)
  unfold jm_X0_taut at hM
  refine lv_iconst (v := (0 : Int32)) hx hb dX0_taut_0 (by decide) ?_
  refine lv_istore_n (lv' := [(2, .int (0 : Int32)), (0, .ref (am r0)), (1, .ref (am r1))]) hx hb dX0_taut_1 rfl hl (by decide) rfl (fun ls hl => ?_)
  refine lv_iconst (v := (0 : Int32)) hx hb dX0_taut_2 (by decide) ?_
  refine lv_istore_n (lv' := [(3, .int (0 : Int32)), (2, .int (0 : Int32)), (0, .ref (am r0)), (1, .ref (am r1))]) hx hb dX0_taut_3 rfl hl (by decide) rfl (fun ls hl => ?_)
  have lp0 : ∀ (n : Nat) (w2 : Int32) (w3 : Int32) (st1 : PS) (H : Heap) (locs : List Loc) (ls : Array Slot), JI D (aA am 52) (cW am cI cC cS) s.heap st1 H locs → lv_has ls 4 [(0, .ref (am r0)), (1, .ref (am r1)), (2, .int w2), (3, .int w3)] → iter (fun q => jm_X0_taut_L4 N r0 r1 q.1 q.2.1 q.2.2) n (w2, w3, st1) = some (rZ, stZ) → W p l e (headSpec wsX0_taut { frames := 4, cells := 0, slots := 0, locals := 92 }).room s m AV below meth c H locs 0 0 (MQ below (JQ D (aA am 52) (cW am cI cC cS) (cTy cI cC cS) (some (.int rZ)) stZ) AV s 0 0 (aA am 52)) (F0 m 4 ls []) := by
    intro n
    induction n with
    | zero =>
      intro _ _ _ _ _ _ _ _ hM
      exact absurd hM (fun h => iter_zero h)
    | succ n ih0 =>
      intro w2 w3 st1 H locs ls hI hl hM
      obtain ⟨z0, hM, hk0⟩ := iter_succ hM
      replace hM : jm_X0_taut_L4 N r0 r1 w2 w3 st1 = some z0 := hM
      unfold jm_X0_taut_L4 at hM
      refine lv_iload_n hx hb dX0_taut_4 rfl (lv_at hl 3 rfl) ?_
      refine lv_aload_n hx hb dX0_taut_5 rfl (lv_at hl 0 rfl) ?_
      refine va_get (D := D) (ci := 0) (v := .int (st1.1 r0 8)) (C := RX0) (T := TX0) (N := 11) hx hb hts hi_X0_taut_X0 hown hK hI.1 r0 (cg_Doll am cI cC cS st1 h0) rfl 8 (by decide) f_0 (fun _ h9 => h9) rfl dX0_taut_6 ?_
      refine lv_icmp_ge (tgt := 33) hx hb dX0_taut_9 (by decide) (fun c4 => ?_) (fun c4 => ?_)
      · replace hM := if_t c4 hM
        refine lv_iload_n hx hb dX0_taut_33 rfl (lv_at hl 2 rfl) ?_
        have hz := Option.some.inj hM
        subst hz
        have hz := kn_r hk0
        exact W.iret hx hb hr (fun t ht hW => jq_i hK hI hz ht hW) hI.2.2.2 dX0_taut_34
      · replace hM := if_f c4 hM
        refine lv_aload_n hx hb dX0_taut_12 rfl (lv_at hl 0 rfl) ?_
        refine lv_aload_n hx hb dX0_taut_13 rfl (lv_at hl 1 rfl) ?_
        refine lv_iload_n hx hb dX0_taut_14 rfl (lv_at hl 3 rfl) ?_
        obtain ⟨v5, st6, hqv5, hM⟩ := bd_at hM
        refine jcallV (C := RX0) (As := [.ref (am r1), .int w3]) (rest := []) ⟨hx, hb, hml, hown, hts⟩ (jw_X0_isTaut D am cI cC cS hj N h0 h1 hqv5) (cwV 2 hts gX0_taut_X0_isTaut rfl rfl rfl yd_X0_isTaut ⟨Nat.le_of_ble_eq_true rfl, Nat.le_of_ble_eq_true rfl⟩) hK hI r0 (cg_Doll am cI cC cS st1 h0) rfl rfl hl.1 rfl (Nat.le_of_ble_eq_true rfl) dX0_taut_15 (fun H locs hI => ?_)
        refine W.eq (g2 := F0 m 18 ls [.int v5]) rfl ?_
        refine lv_if_eq (tgt := 27) hx hb dX0_taut_18 (by decide) (fun c7 => ?_) (fun c7 => ?_)
        · replace hM := if_t c7 hM
          refine lv_iinc (v := (w3 + (1 : Int32))) (lv' := [(3, .int (w3 + (1 : Int32))), (0, .ref (am r0)), (1, .ref (am r1)), (2, .int w2)]) hx hb dX0_taut_27 hl (k := 3) rfl rfl (by decide) rfl (fun ls hl => ?_)
          refine lv_goto (tgt := 4) hx hb dX0_taut_30 (by decide) ?_
          have hz := Option.some.inj hM
          subst hz
          exact ih0 w2 (w3 + (1 : Int32)) st6 _ _ _ hI (lv_sub hl [1, 2, 3, 0] rfl) hk0
        · replace hM := if_f c7 hM
          refine lv_iload_n hx hb dX0_taut_21 rfl (lv_at hl 2 rfl) ?_
          refine lv_iconst (v := (1 : Int32)) hx hb dX0_taut_22 (by decide) ?_
          refine lv_iload_n hx hb dX0_taut_23 rfl (lv_at hl 3 rfl) ?_
          refine lv_ishl hx hb dX0_taut_24 ?_
          refine lv_ior hx hb dX0_taut_25 ?_
          refine lv_istore_n (lv' := [(2, .int (w2 ||| ((1 : Int32) <<< (w3 &&& 31)))), (0, .ref (am r0)), (1, .ref (am r1)), (3, .int w3)]) hx hb dX0_taut_26 rfl hl (by decide) rfl (fun ls hl => ?_)
          refine lv_iinc (v := (w3 + (1 : Int32))) (lv' := [(3, .int (w3 + (1 : Int32))), (2, .int (w2 ||| ((1 : Int32) <<< (w3 &&& 31)))), (0, .ref (am r0)), (1, .ref (am r1))]) hx hb dX0_taut_27 hl (k := 3) rfl rfl (by decide) rfl (fun ls hl => ?_)
          refine lv_goto (tgt := 4) hx hb dX0_taut_30 (by decide) ?_
          have hz := Option.some.inj hM
          subst hz
          exact ih0 (w2 ||| ((1 : Int32) <<< (w3 &&& 31))) (w3 + (1 : Int32)) st6 _ _ _ hI (lv_sub hl [2, 3, 1, 0] rfl) hk0
  exact lp0 N (0 : Int32) (0 : Int32) st _ _ _ hI (lv_sub hl [2, 3, 1, 0] rfl) hM
set_option maxRecDepth 20000 in
theorem hi_X0_load_X0 : ∀ w ∈ wsX00, w ∈ wsX0_load := by decide +kernel
set_option maxHeartbeats 4000000 in
set_option maxRecDepth 100000 in
theorem jw_X0_load {l : Launch} (D : va_G) (am : Nat → Nat) (cI cC cS : ClassId) (hj : aJ am 52) (N : Nat) {r0 : Nat} {r1 : Nat} {x2 : Int32} (h0 : ck_Doll r0) (h1 : ck_Pose r1) {st stZ : PS} {rZ : Int32} (hM : jm_X0_load N r0 r1 x2 st = some (rZ, stZ)) : Met l yX0_load wsX0_load ({ frames := 3, cells := 0, slots := 0, locals := 71 }) (va_Pc [.ref (am r0), .ref (am r1), .int x2] (JH D (cW am cI cC cS) (cTy cI cC cS) st)) (JQ D (aA am 52) (cW am cI cC cS) (cTy cI cC cS) (some (.int rZ)) stZ) 0 0 (aA am 52) := by
  refine jStart (cc := cX0_load) (maxL := 5) (ret := (some .int)) [.ref (am r0), .ref (am r1), .int x2] (by decide) rfl (Nat.le_of_ble_eq_true rfl) (fun p e s m below meth c ls hx hb hr hlocks hts hown hml hK hI hl => ?_)
  have hown : s.vm.findClass RX0 = some m.cls := hown
  replace hl : lv_has ls 5 [(0, .ref (am r0)), (1, .ref (am r1)), (2, .int x2)] := hl
  generalize hAV : ([.ref (am r0), .ref (am r1), .int x2] : List Value).toArray = AV at hts ⊢
  have f_0 := hts (.fieldLink RX0 40 "PuppetBar$Doll" "limbs" "I") (by decide +kernel)
  have f_1 := hts (.fieldLink RX0 18 "PuppetBar$Doll" "weight" "[I") (by decide +kernel)
  unfold jm_X0_load at hM
  refine lv_iconst (v := (0 : Int32)) hx hb dX0_load_0 (by decide) ?_
  refine lv_istore_n (lv' := [(3, .int (0 : Int32)), (0, .ref (am r0)), (1, .ref (am r1)), (2, .int x2)]) hx hb dX0_load_1 rfl hl (by decide) rfl (fun ls hl => ?_)
  refine lv_iconst (v := (0 : Int32)) hx hb dX0_load_2 (by decide) ?_
  refine lv_istore (lv' := [(4, .int (0 : Int32)), (3, .int (0 : Int32)), (0, .ref (am r0)), (1, .ref (am r1)), (2, .int x2)]) hx hb dX0_load_3 hl (by decide) rfl (fun ls hl => ?_)
  have lp0 : ∀ (n : Nat) (w2 : Int32) (w3 : Int32) (st1 : PS) (H : Heap) (locs : List Loc) (ls : Array Slot), JI D (aA am 52) (cW am cI cC cS) s.heap st1 H locs → lv_has ls 5 [(0, .ref (am r0)), (1, .ref (am r1)), (2, .int x2), (3, .int w2), (4, .int w3)] → iter (fun q => jm_X0_load_L5 N r0 r1 x2 q.1 q.2.1 q.2.2) n (w2, w3, st1) = some (rZ, stZ) → W p l e (headSpec wsX0_load { frames := 3, cells := 0, slots := 0, locals := 71 }).room s m AV below meth c H locs 0 0 (MQ below (JQ D (aA am 52) (cW am cI cC cS) (cTy cI cC cS) (some (.int rZ)) stZ) AV s 0 0 (aA am 52)) (F0 m 5 ls []) := by
    intro n
    induction n with
    | zero =>
      intro _ _ _ _ _ _ _ _ hM
      exact absurd hM (fun h => iter_zero h)
    | succ n ih0 =>
      intro w2 w3 st1 H locs ls hI hl hM
      obtain ⟨z0, hM, hk0⟩ := iter_succ hM
      replace hM : jm_X0_load_L5 N r0 r1 x2 w2 w3 st1 = some z0 := hM
      unfold jm_X0_load_L5 at hM
      refine lv_iload hx hb dX0_load_5 (lv_at hl 4 rfl) ?_
      refine lv_aload_n hx hb dX0_load_7 rfl (lv_at hl 0 rfl) ?_
      refine va_get (D := D) (ci := 0) (v := .int (st1.1 r0 7)) (C := RX0) (T := TX0) (N := 11) hx hb hts hi_X0_load_X0 hown hK hI.1 r0 (cg_Doll am cI cC cS st1 h0) rfl 7 (by decide) f_0 (fun _ h9 => h9) rfl dX0_load_8 ?_
      refine lv_icmp_ge (tgt := 41) hx hb dX0_load_11 (by decide) (fun c4 => ?_) (fun c4 => ?_)
      · replace hM := if_t c4 hM
        refine lv_iload_n hx hb dX0_load_41 rfl (lv_at hl 3 rfl) ?_
        have hz := Option.some.inj hM
        subst hz
        have hz := kn_r hk0
        exact W.iret hx hb hr (fun t ht hW => jq_i hK hI hz ht hW) hI.2.2.2 dX0_load_42
      · replace hM := if_f c4 hM
        refine lv_aload_n hx hb dX0_load_14 rfl (lv_at hl 0 rfl) ?_
        refine lv_aload_n hx hb dX0_load_15 rfl (lv_at hl 1 rfl) ?_
        refine lv_iload hx hb dX0_load_16 (lv_at hl 4 rfl) ?_
        obtain ⟨v5, st6, hqv5, hM⟩ := bd_at hM
        refine jcallV (C := RX0) (As := [.ref (am r1), .int w3]) (rest := []) ⟨hx, hb, hml, hown, hts⟩ (jw_X0_bearer D am cI cC cS hj N h0 h1 hqv5) (cwV 2 hts gX0_load_X0_bearer rfl rfl rfl yd_X0_bearer ⟨Nat.le_of_ble_eq_true rfl, Nat.le_of_ble_eq_true rfl⟩) hK hI r0 (cg_Doll am cI cC cS st1 h0) rfl rfl hl.1 rfl (Nat.le_of_ble_eq_true rfl) dX0_load_18 (fun H locs hI => ?_)
        refine W.eq (g2 := F0 m 21 ls [.int v5]) rfl ?_
        refine lv_iload_n hx hb dX0_load_21 rfl (lv_at hl 2 rfl) ?_
        refine lv_icmp_ne (tgt := 35) hx hb dX0_load_22 (by decide) (fun c7 => ?_) (fun c7 => ?_)
        · replace hM := if_f c7 hM
          refine lv_iinc (v := (w3 + (1 : Int32))) (lv' := [(4, .int (w3 + (1 : Int32))), (0, .ref (am r0)), (1, .ref (am r1)), (2, .int x2), (3, .int w2)]) hx hb dX0_load_35 hl (k := 4) rfl rfl (by decide) rfl (fun ls hl => ?_)
          refine lv_goto (tgt := 5) hx hb dX0_load_38 (by decide) ?_
          have hz := Option.some.inj hM
          subst hz
          exact ih0 w2 (w3 + (1 : Int32)) st6 _ _ _ hI (lv_sub hl [1, 2, 3, 4, 0] rfl) hk0
        · replace hM := if_t c7 hM
          refine lv_iload_n hx hb dX0_load_25 rfl (lv_at hl 3 rfl) ?_
          refine lv_aload_n hx hb dX0_load_26 rfl (lv_at hl 0 rfl) ?_
          refine va_get (D := D) (ci := 0) (v := .ref (am (r0 + 3))) (C := RX0) (T := TX0) (N := 11) hx hb hts hi_X0_load_X0 hown hK hI.1 r0 (cg_Doll am cI cC cS st6 h0) rfl 2 (by decide) f_1 (fun _ h9 => h9) rfl dX0_load_27 ?_
          refine lv_iload hx hb dX0_load_30 (lv_at hl 4 rfl) ?_
          obtain ⟨g8, hM⟩ := gd_at hM
          refine va_iald hx hb hK hI.1 (r0 + 3) 0 (cg_Doll_weight am cI cC cS st6 h0) rfl (inB_vp g8) dX0_load_32 ?_
          refine lv_iadd hx hb dX0_load_33 ?_
          refine lv_istore_n (lv' := [(3, .int (w2 + (st6.1 (r0 + 3) (w3).toNatClampNeg))), (0, .ref (am r0)), (1, .ref (am r1)), (2, .int x2), (4, .int w3)]) hx hb dX0_load_34 rfl hl (by decide) rfl (fun ls hl => ?_)
          refine lv_iinc (v := (w3 + (1 : Int32))) (lv' := [(4, .int (w3 + (1 : Int32))), (3, .int (w2 + (st6.1 (r0 + 3) (w3).toNatClampNeg))), (0, .ref (am r0)), (1, .ref (am r1)), (2, .int x2)]) hx hb dX0_load_35 hl (k := 4) rfl rfl (by decide) rfl (fun ls hl => ?_)
          refine lv_goto (tgt := 5) hx hb dX0_load_38 (by decide) ?_
          have hz := Option.some.inj hM
          subst hz
          exact ih0 (w2 + (st6.1 (r0 + 3) (w3).toNatClampNeg)) (w3 + (1 : Int32)) st6 _ _ _ hI (lv_sub hl [2, 3, 4, 1, 0] rfl) hk0
  exact lp0 N (0 : Int32) (0 : Int32) st _ _ _ hI (lv_sub hl [2, 3, 4, 1, 0] rfl) hM
set_option maxRecDepth 20000 in
theorem hi_X0_mostOverloaded_X0 : ∀ w ∈ wsX00, w ∈ wsX0_mostOverloaded := by decide +kernel
set_option maxHeartbeats 4000000 in
set_option maxRecDepth 100000 in
theorem jw_X0_mostOverloaded {l : Launch} (D : va_G) (am : Nat → Nat) (cI cC cS : ClassId) (hj : aJ am 52) (N : Nat) {r0 : Nat} {r1 : Nat} (h0 : ck_Doll r0) (h1 : ck_Pose r1) {st stZ : PS} {rZ : Int32} (hM : jm_X0_mostOverloaded N r0 r1 st = some (rZ, stZ)) : Met l yX0_mostOverloaded wsX0_mostOverloaded ({ frames := 4, cells := 0, slots := 0, locals := 95 }) (va_Pc [.ref (am r0), .ref (am r1)] (JH D (cW am cI cC cS) (cTy cI cC cS) st)) (JQ D (aA am 52) (cW am cI cC cS) (cTy cI cC cS) (some (.int rZ)) stZ) 0 0 (aA am 52) := by
  refine jStart (cc := cX0_mostOverloaded) (maxL := 6) (ret := (some .int)) [.ref (am r0), .ref (am r1)] (by decide) rfl (Nat.le_of_ble_eq_true rfl) (fun p e s m below meth c ls hx hb hr hlocks hts hown hml hK hI hl => ?_)
  have hown : s.vm.findClass RX0 = some m.cls := hown
  replace hl : lv_has ls 6 [(0, .ref (am r0)), (1, .ref (am r1))] := hl
  generalize hAV : ([.ref (am r0), .ref (am r1)] : List Value).toArray = AV at hts ⊢
  have f_0 := hts (.fieldLink RX0 44 "PuppetBar$Doll" "strings" "I") (by decide +kernel)
  have f_1 := hts (.fieldLink RX0 21 "PuppetBar$Doll" "strength" "[I") (by decide +kernel)
  unfold jm_X0_mostOverloaded at hM
  refine lv_iconst (v := (0 : Int32)) hx hb dX0_mostOverloaded_0 (by decide) ?_
  refine lv_istore_n (lv' := [(2, .int (0 : Int32)), (0, .ref (am r0)), (1, .ref (am r1))]) hx hb dX0_mostOverloaded_1 rfl hl (by decide) rfl (fun ls hl => ?_)
  refine lv_bipush (v := (-9 : Int32)) hx hb dX0_mostOverloaded_2 (by decide) ?_
  refine lv_istore_n (lv' := [(3, .int (-9 : Int32)), (2, .int (0 : Int32)), (0, .ref (am r0)), (1, .ref (am r1))]) hx hb dX0_mostOverloaded_4 rfl hl (by decide) rfl (fun ls hl => ?_)
  refine lv_iconst (v := (0 : Int32)) hx hb dX0_mostOverloaded_5 (by decide) ?_
  refine lv_istore (lv' := [(4, .int (0 : Int32)), (3, .int (-9 : Int32)), (2, .int (0 : Int32)), (0, .ref (am r0)), (1, .ref (am r1))]) hx hb dX0_mostOverloaded_6 hl (by decide) rfl (fun ls hl => ?_)
  have lp0 : ∀ (n : Nat) (w2 : Int32) (w3 : Int32) (w4 : Int32) (st1 : PS) (H : Heap) (locs : List Loc) (ls : Array Slot), JI D (aA am 52) (cW am cI cC cS) s.heap st1 H locs → lv_has ls 6 [(0, .ref (am r0)), (1, .ref (am r1)), (2, .int w2), (3, .int w3), (4, .int w4)] → iter (fun q => jm_X0_mostOverloaded_L8 N r0 r1 q.1 q.2.1 q.2.2.1 q.2.2.2) n (w2, w3, w4, st1) = some (rZ, stZ) → W p l e (headSpec wsX0_mostOverloaded { frames := 4, cells := 0, slots := 0, locals := 95 }).room s m AV below meth c H locs 0 0 (MQ below (JQ D (aA am 52) (cW am cI cC cS) (cTy cI cC cS) (some (.int rZ)) stZ) AV s 0 0 (aA am 52)) (F0 m 8 ls []) := by
    intro n
    induction n with
    | zero =>
      intro _ _ _ _ _ _ _ _ _ hM
      exact absurd hM (fun h => iter_zero h)
    | succ n ih0 =>
      intro w2 w3 w4 st1 H locs ls hI hl hM
      obtain ⟨z0, hM, hk0⟩ := iter_succ hM
      replace hM : jm_X0_mostOverloaded_L8 N r0 r1 w2 w3 w4 st1 = some z0 := hM
      unfold jm_X0_mostOverloaded_L8 at hM
      refine lv_iload hx hb dX0_mostOverloaded_8 (lv_at hl 4 rfl) ?_
      refine lv_aload_n hx hb dX0_mostOverloaded_10 rfl (lv_at hl 0 rfl) ?_
      refine va_get (D := D) (ci := 0) (v := .int (st1.1 r0 8)) (C := RX0) (T := TX0) (N := 11) hx hb hts hi_X0_mostOverloaded_X0 hown hK hI.1 r0 (cg_Doll am cI cC cS st1 h0) rfl 8 (by decide) f_0 (fun _ h9 => h9) rfl dX0_mostOverloaded_11 ?_
      refine lv_icmp_ge (tgt := 52) hx hb dX0_mostOverloaded_14 (by decide) (fun c5 => ?_) (fun c5 => ?_)
      · replace hM := if_t c5 hM
        refine lv_iload_n hx hb dX0_mostOverloaded_52 rfl (lv_at hl 3 rfl) ?_
        have hz := Option.some.inj hM
        subst hz
        have hz := kn_r hk0
        exact W.iret hx hb hr (fun t ht hW => jq_i hK hI hz ht hW) hI.2.2.2 dX0_mostOverloaded_53
      · replace hM := if_f c5 hM
        refine lv_aload_n hx hb dX0_mostOverloaded_17 rfl (lv_at hl 0 rfl) ?_
        refine lv_aload_n hx hb dX0_mostOverloaded_18 rfl (lv_at hl 1 rfl) ?_
        refine lv_iload hx hb dX0_mostOverloaded_19 (lv_at hl 4 rfl) ?_
        obtain ⟨v6, st7, hqv6, hM⟩ := bd_at hM
        refine jcallV (C := RX0) (As := [.ref (am r1), .int w4]) (rest := []) ⟨hx, hb, hml, hown, hts⟩ (jw_X0_load D am cI cC cS hj N h0 h1 hqv6) (cwV 2 hts gX0_mostOverloaded_X0_load rfl rfl rfl yd_X0_load ⟨Nat.le_of_ble_eq_true rfl, Nat.le_of_ble_eq_true rfl⟩) hK hI r0 (cg_Doll am cI cC cS st1 h0) rfl rfl hl.1 rfl (Nat.le_of_ble_eq_true rfl) dX0_mostOverloaded_21 (fun H locs hI => ?_)
        refine W.eq (g2 := F0 m 24 ls [.int v6]) rfl ?_
        refine lv_aload_n hx hb dX0_mostOverloaded_24 rfl (lv_at hl 0 rfl) ?_
        refine va_get (D := D) (ci := 0) (v := .ref (am (r0 + 4))) (C := RX0) (T := TX0) (N := 11) hx hb hts hi_X0_mostOverloaded_X0 hown hK hI.1 r0 (cg_Doll am cI cC cS st7 h0) rfl 3 (by decide) f_1 (fun _ h9 => h9) rfl dX0_mostOverloaded_25 ?_
        refine lv_iload hx hb dX0_mostOverloaded_28 (lv_at hl 4 rfl) ?_
        obtain ⟨g8, hM⟩ := gd_at hM
        refine va_iald hx hb hK hI.1 (r0 + 4) 0 (cg_Doll_strength am cI cC cS st7 h0) rfl (inB_vp g8) dX0_mostOverloaded_30 ?_
        refine lv_isub hx hb dX0_mostOverloaded_31 ?_
        refine lv_istore (lv' := [(5, .int (v6 - (st7.1 (r0 + 4) (w4).toNatClampNeg))), (0, .ref (am r0)), (1, .ref (am r1)), (2, .int w2), (3, .int w3), (4, .int w4)]) hx hb dX0_mostOverloaded_32 hl (by decide) rfl (fun ls hl => ?_)
        refine lv_iload hx hb dX0_mostOverloaded_34 (lv_at hl 0 rfl) ?_
        refine lv_iload_n hx hb dX0_mostOverloaded_36 rfl (lv_at hl 3 rfl) ?_
        refine lv_icmp_le (tgt := 46) hx hb dX0_mostOverloaded_37 (by decide) (fun c9 => ?_) (fun c9 => ?_)
        · replace hM := if_t c9 hM
          refine lv_iinc (v := (w4 + (1 : Int32))) (lv' := [(4, .int (w4 + (1 : Int32))), (5, .int (v6 - (st7.1 (r0 + 4) (w4).toNatClampNeg))), (0, .ref (am r0)), (1, .ref (am r1)), (2, .int w2), (3, .int w3)]) hx hb dX0_mostOverloaded_46 hl (k := 5) rfl rfl (by decide) rfl (fun ls hl => ?_)
          refine lv_goto (tgt := 8) hx hb dX0_mostOverloaded_49 (by decide) ?_
          have hz := Option.some.inj hM
          subst hz
          exact ih0 w2 w3 (w4 + (1 : Int32)) st7 _ _ _ hI (lv_sub hl [2, 3, 4, 5, 0] rfl) hk0
        · replace hM := if_f c9 hM
          refine lv_iload hx hb dX0_mostOverloaded_40 (lv_at hl 0 rfl) ?_
          refine lv_istore_n (lv' := [(2, .int (v6 - (st7.1 (r0 + 4) (w4).toNatClampNeg))), (5, .int (v6 - (st7.1 (r0 + 4) (w4).toNatClampNeg))), (0, .ref (am r0)), (1, .ref (am r1)), (3, .int w3), (4, .int w4)]) hx hb dX0_mostOverloaded_42 rfl hl (by decide) rfl (fun ls hl => ?_)
          refine lv_iload hx hb dX0_mostOverloaded_43 (lv_at hl 5 rfl) ?_
          refine lv_istore_n (lv' := [(3, .int w4), (2, .int (v6 - (st7.1 (r0 + 4) (w4).toNatClampNeg))), (5, .int (v6 - (st7.1 (r0 + 4) (w4).toNatClampNeg))), (0, .ref (am r0)), (1, .ref (am r1)), (4, .int w4)]) hx hb dX0_mostOverloaded_45 rfl hl (by decide) rfl (fun ls hl => ?_)
          refine lv_iinc (v := (w4 + (1 : Int32))) (lv' := [(4, .int (w4 + (1 : Int32))), (3, .int w4), (2, .int (v6 - (st7.1 (r0 + 4) (w4).toNatClampNeg))), (5, .int (v6 - (st7.1 (r0 + 4) (w4).toNatClampNeg))), (0, .ref (am r0)), (1, .ref (am r1))]) hx hb dX0_mostOverloaded_46 hl (k := 5) rfl rfl (by decide) rfl (fun ls hl => ?_)
          refine lv_goto (tgt := 8) hx hb dX0_mostOverloaded_49 (by decide) ?_
          have hz := Option.some.inj hM
          subst hz
          exact ih0 (v6 - (st7.1 (r0 + 4) (w4).toNatClampNeg)) w4 (w4 + (1 : Int32)) st7 _ _ _ hI (lv_sub hl [4, 5, 2, 1, 0] rfl) hk0
  exact lp0 N (0 : Int32) (-9 : Int32) (0 : Int32) st _ _ _ hI (lv_sub hl [3, 4, 2, 1, 0] rfl) hM
set_option maxRecDepth 20000 in
theorem hi_X0_grounded_X0 : ∀ w ∈ wsX00, w ∈ wsX0_grounded := by decide +kernel
set_option maxHeartbeats 4000000 in
set_option maxRecDepth 100000 in
theorem jw_X0_grounded {l : Launch} (D : va_G) (am : Nat → Nat) (cI cC cS : ClassId) (hj : aJ am 52) (N : Nat) {r0 : Nat} {r1 : Nat} (h0 : ck_Doll r0) (h1 : ck_Pose r1) {st stZ : PS} {rZ : Int32} (hM : jm_X0_grounded N r0 r1 st = some (rZ, stZ)) : Met l yX0_grounded wsX0_grounded ({ frames := 3, cells := 0, slots := 0, locals := 69 }) (va_Pc [.ref (am r0), .ref (am r1)] (JH D (cW am cI cC cS) (cTy cI cC cS) st)) (JQ D (aA am 52) (cW am cI cC cS) (cTy cI cC cS) (some (.int rZ)) stZ) 0 0 (aA am 52) := by
  refine jStart (cc := cX0_grounded) (maxL := 4) (ret := (some .int)) [.ref (am r0), .ref (am r1)] (by decide) rfl (Nat.le_of_ble_eq_true rfl) (fun p e s m below meth c ls hx hb hr hlocks hts hown hml hK hI hl => ?_)
  have hown : s.vm.findClass RX0 = some m.cls := hown
  replace hl : lv_has ls 4 [(0, .ref (am r0)), (1, .ref (am r1))] := hl
  generalize hAV : ([.ref (am r0), .ref (am r1)] : List Value).toArray = AV at hts ⊢
  have f_0 := hts (.fieldLink RX0 40 "PuppetBar$Doll" "limbs" "I") (by decide +kernel)
  unfold jm_X0_grounded at hM
  refine lv_iconst (v := (0 : Int32)) hx hb dX0_grounded_0 (by decide) ?_
  refine lv_istore_n (lv' := [(2, .int (0 : Int32)), (0, .ref (am r0)), (1, .ref (am r1))]) hx hb dX0_grounded_1 rfl hl (by decide) rfl (fun ls hl => ?_)
  refine lv_iconst (v := (0 : Int32)) hx hb dX0_grounded_2 (by decide) ?_
  refine lv_istore_n (lv' := [(3, .int (0 : Int32)), (2, .int (0 : Int32)), (0, .ref (am r0)), (1, .ref (am r1))]) hx hb dX0_grounded_3 rfl hl (by decide) rfl (fun ls hl => ?_)
  have lp0 : ∀ (n : Nat) (w2 : Int32) (w3 : Int32) (st1 : PS) (H : Heap) (locs : List Loc) (ls : Array Slot), JI D (aA am 52) (cW am cI cC cS) s.heap st1 H locs → lv_has ls 4 [(0, .ref (am r0)), (1, .ref (am r1)), (2, .int w2), (3, .int w3)] → iter (fun q => jm_X0_grounded_L4 N r0 r1 q.1 q.2.1 q.2.2) n (w2, w3, st1) = some (rZ, stZ) → W p l e (headSpec wsX0_grounded { frames := 3, cells := 0, slots := 0, locals := 69 }).room s m AV below meth c H locs 0 0 (MQ below (JQ D (aA am 52) (cW am cI cC cS) (cTy cI cC cS) (some (.int rZ)) stZ) AV s 0 0 (aA am 52)) (F0 m 4 ls []) := by
    intro n
    induction n with
    | zero =>
      intro _ _ _ _ _ _ _ _ hM
      exact absurd hM (fun h => iter_zero h)
    | succ n ih0 =>
      intro w2 w3 st1 H locs ls hI hl hM
      obtain ⟨z0, hM, hk0⟩ := iter_succ hM
      replace hM : jm_X0_grounded_L4 N r0 r1 w2 w3 st1 = some z0 := hM
      unfold jm_X0_grounded_L4 at hM
      refine lv_iload_n hx hb dX0_grounded_4 rfl (lv_at hl 3 rfl) ?_
      refine lv_aload_n hx hb dX0_grounded_5 rfl (lv_at hl 0 rfl) ?_
      refine va_get (D := D) (ci := 0) (v := .int (st1.1 r0 7)) (C := RX0) (T := TX0) (N := 11) hx hb hts hi_X0_grounded_X0 hown hK hI.1 r0 (cg_Doll am cI cC cS st1 h0) rfl 7 (by decide) f_0 (fun _ h9 => h9) rfl dX0_grounded_6 ?_
      refine lv_icmp_ge (tgt := 33) hx hb dX0_grounded_9 (by decide) (fun c4 => ?_) (fun c4 => ?_)
      · replace hM := if_t c4 hM
        refine lv_iload_n hx hb dX0_grounded_33 rfl (lv_at hl 2 rfl) ?_
        have hz := Option.some.inj hM
        subst hz
        have hz := kn_r hk0
        exact W.iret hx hb hr (fun t ht hW => jq_i hK hI hz ht hW) hI.2.2.2 dX0_grounded_34
      · replace hM := if_f c4 hM
        refine lv_aload_n hx hb dX0_grounded_12 rfl (lv_at hl 0 rfl) ?_
        refine lv_aload_n hx hb dX0_grounded_13 rfl (lv_at hl 1 rfl) ?_
        refine lv_iload_n hx hb dX0_grounded_14 rfl (lv_at hl 3 rfl) ?_
        obtain ⟨v5, st6, hqv5, hM⟩ := bd_at hM
        refine jcallV (C := RX0) (As := [.ref (am r1), .int w3]) (rest := []) ⟨hx, hb, hml, hown, hts⟩ (jw_X0_height D am cI cC cS hj N h0 h1 hqv5) (cwV 2 hts gX0_grounded_X0_height rfl rfl rfl yd_X0_height ⟨Nat.le_of_ble_eq_true rfl, Nat.le_of_ble_eq_true rfl⟩) hK hI r0 (cg_Doll am cI cC cS st1 h0) rfl rfl hl.1 rfl (Nat.le_of_ble_eq_true rfl) dX0_grounded_15 (fun H locs hI => ?_)
        refine W.eq (g2 := F0 m 18 ls [.int v5]) rfl ?_
        refine lv_if_ne (tgt := 27) hx hb dX0_grounded_18 (by decide) (fun c7 => ?_) (fun c7 => ?_)
        · replace hM := if_f c7 hM
          refine lv_iinc (v := (w3 + (1 : Int32))) (lv' := [(3, .int (w3 + (1 : Int32))), (0, .ref (am r0)), (1, .ref (am r1)), (2, .int w2)]) hx hb dX0_grounded_27 hl (k := 3) rfl rfl (by decide) rfl (fun ls hl => ?_)
          refine lv_goto (tgt := 4) hx hb dX0_grounded_30 (by decide) ?_
          have hz := Option.some.inj hM
          subst hz
          exact ih0 w2 (w3 + (1 : Int32)) st6 _ _ _ hI (lv_sub hl [1, 2, 3, 0] rfl) hk0
        · replace hM := if_t c7 hM
          refine lv_iload_n hx hb dX0_grounded_21 rfl (lv_at hl 2 rfl) ?_
          refine lv_iconst (v := (1 : Int32)) hx hb dX0_grounded_22 (by decide) ?_
          refine lv_iload_n hx hb dX0_grounded_23 rfl (lv_at hl 3 rfl) ?_
          refine lv_ishl hx hb dX0_grounded_24 ?_
          refine lv_ior hx hb dX0_grounded_25 ?_
          refine lv_istore_n (lv' := [(2, .int (w2 ||| ((1 : Int32) <<< (w3 &&& 31)))), (0, .ref (am r0)), (1, .ref (am r1)), (3, .int w3)]) hx hb dX0_grounded_26 rfl hl (by decide) rfl (fun ls hl => ?_)
          refine lv_iinc (v := (w3 + (1 : Int32))) (lv' := [(3, .int (w3 + (1 : Int32))), (2, .int (w2 ||| ((1 : Int32) <<< (w3 &&& 31)))), (0, .ref (am r0)), (1, .ref (am r1))]) hx hb dX0_grounded_27 hl (k := 3) rfl rfl (by decide) rfl (fun ls hl => ?_)
          refine lv_goto (tgt := 4) hx hb dX0_grounded_30 (by decide) ?_
          have hz := Option.some.inj hM
          subst hz
          exact ih0 (w2 ||| ((1 : Int32) <<< (w3 &&& 31))) (w3 + (1 : Int32)) st6 _ _ _ hI (lv_sub hl [2, 3, 1, 0] rfl) hk0
  exact lp0 N (0 : Int32) (0 : Int32) st _ _ _ hI (lv_sub hl [2, 3, 1, 0] rfl) hM
set_option maxRecDepth 20000 in
theorem hi_X0_groundsJust_X0 : ∀ w ∈ wsX00, w ∈ wsX0_groundsJust := by decide +kernel
set_option maxHeartbeats 4000000 in
set_option maxRecDepth 100000 in
theorem jw_X0_groundsJust {l : Launch} (D : va_G) (am : Nat → Nat) (cI cC cS : ClassId) (hj : aJ am 52) (N : Nat) {r0 : Nat} {r1 : Nat} {x2 : Int32} (h0 : ck_Doll r0) (h1 : ck_Pose r1) {st stZ : PS} {rZ : Int32} (hM : jm_X0_groundsJust N r0 r1 x2 st = some (rZ, stZ)) : Met l yX0_groundsJust wsX0_groundsJust ({ frames := 3, cells := 0, slots := 0, locals := 69 }) (va_Pc [.ref (am r0), .ref (am r1), .int x2] (JH D (cW am cI cC cS) (cTy cI cC cS) st)) (JQ D (aA am 52) (cW am cI cC cS) (cTy cI cC cS) (some (.int rZ)) stZ) 0 0 (aA am 52) := by
  refine jStart (cc := cX0_groundsJust) (maxL := 5) (ret := (some .boolean)) [.ref (am r0), .ref (am r1), .int x2] (by decide) rfl (Nat.le_of_ble_eq_true rfl) (fun p e s m below meth c ls hx hb hr hlocks hts hown hml hK hI hl => ?_)
  have hown : s.vm.findClass RX0 = some m.cls := hown
  replace hl : lv_has ls 5 [(0, .ref (am r0)), (1, .ref (am r1)), (2, .int x2)] := hl
  generalize hAV : ([.ref (am r0), .ref (am r1), .int x2] : List Value).toArray = AV at hts ⊢
  have f_0 := hts (.fieldLink RX0 40 "PuppetBar$Doll" "limbs" "I") (by decide +kernel)
  unfold jm_X0_groundsJust at hM
  refine lv_iconst (v := (0 : Int32)) hx hb dX0_groundsJust_0 (by decide) ?_
  refine lv_istore_n (lv' := [(3, .int (0 : Int32)), (0, .ref (am r0)), (1, .ref (am r1)), (2, .int x2)]) hx hb dX0_groundsJust_1 rfl hl (by decide) rfl (fun ls hl => ?_)
  have lp0 : ∀ (n : Nat) (w2 : Int32) (st1 : PS) (H : Heap) (locs : List Loc) (ls : Array Slot), JI D (aA am 52) (cW am cI cC cS) s.heap st1 H locs → lv_has ls 5 [(0, .ref (am r0)), (1, .ref (am r1)), (2, .int x2), (3, .int w2)] → iter (fun q => jm_X0_groundsJust_L2 N r0 r1 x2 q.1 q.2) n (w2, st1) = some (rZ, stZ) → W p l e (headSpec wsX0_groundsJust { frames := 3, cells := 0, slots := 0, locals := 69 }).room s m AV below meth c H locs 0 0 (MQ below (JQ D (aA am 52) (cW am cI cC cS) (cTy cI cC cS) (some (.int rZ)) stZ) AV s 0 0 (aA am 52)) (F0 m 2 ls []) := by
    intro n
    induction n with
    | zero =>
      intro _ _ _ _ _ _ _ hM
      exact absurd hM (fun h => iter_zero h)
    | succ n ih0 =>
      intro w2 st1 H locs ls hI hl hM
      obtain ⟨z0, hM, hk0⟩ := iter_succ hM
      replace hM : jm_X0_groundsJust_L2 N r0 r1 x2 w2 st1 = some z0 := hM
      unfold jm_X0_groundsJust_L2 at hM
      refine lv_iload_n hx hb dX0_groundsJust_2 rfl (lv_at hl 3 rfl) ?_
      refine lv_aload_n hx hb dX0_groundsJust_3 rfl (lv_at hl 0 rfl) ?_
      refine va_get (D := D) (ci := 0) (v := .int (st1.1 r0 7)) (C := RX0) (T := TX0) (N := 11) hx hb hts hi_X0_groundsJust_X0 hown hK hI.1 r0 (cg_Doll am cI cC cS st1 h0) rfl 7 (by decide) f_0 (fun _ h9 => h9) rfl dX0_groundsJust_4 ?_
      refine lv_icmp_ge (tgt := 53) hx hb dX0_groundsJust_7 (by decide) (fun c3 => ?_) (fun c3 => ?_)
      · replace hM := if_t c3 hM
        refine lv_iconst (v := (1 : Int32)) hx hb dX0_groundsJust_53 (by decide) ?_
        have hz := Option.some.inj hM
        subst hz
        have hz := kn_r hk0
        exact W.zret hx hb hr rfl (fun t ht hW => jq_i hK hI hz ht hW) hI.2.2.2 dX0_groundsJust_54
      · replace hM := if_f c3 hM
        refine lv_iload_n hx hb dX0_groundsJust_10 rfl (lv_at hl 2 rfl) ?_
        refine lv_iload_n hx hb dX0_groundsJust_11 rfl (lv_at hl 3 rfl) ?_
        refine lv_ishr hx hb dX0_groundsJust_12 ?_
        refine lv_iconst (v := (1 : Int32)) hx hb dX0_groundsJust_13 (by decide) ?_
        refine lv_iand hx hb dX0_groundsJust_14 ?_
        refine lv_iconst (v := (1 : Int32)) hx hb dX0_groundsJust_15 (by decide) ?_
        refine lv_icmp_ne (tgt := 23) hx hb dX0_groundsJust_16 (by decide) (fun c4 => ?_) (fun c4 => ?_)
        · replace hM := if_f c4 hM
          refine lv_iconst (v := (0 : Int32)) hx hb dX0_groundsJust_23 (by decide) ?_
          refine lv_istore (lv' := [(4, .int (0 : Int32)), (0, .ref (am r0)), (1, .ref (am r1)), (2, .int x2), (3, .int w2)]) hx hb dX0_groundsJust_24 hl (by decide) rfl (fun ls hl => ?_)
          refine lv_aload_n hx hb dX0_groundsJust_26 rfl (lv_at hl 1 rfl) ?_
          refine lv_aload_n hx hb dX0_groundsJust_27 rfl (lv_at hl 2 rfl) ?_
          refine lv_iload_n hx hb dX0_groundsJust_28 rfl (lv_at hl 4 rfl) ?_
          obtain ⟨v5, st6, hqv5, hM⟩ := bd_at hM
          refine jcallV (C := RX0) (As := [.ref (am r1), .int w2]) (rest := []) ⟨hx, hb, hml, hown, hts⟩ (jw_X0_height D am cI cC cS hj N h0 h1 hqv5) (cwV 2 hts gX0_groundsJust_X0_height rfl rfl rfl yd_X0_height ⟨Nat.le_of_ble_eq_true rfl, Nat.le_of_ble_eq_true rfl⟩) hK hI r0 (cg_Doll am cI cC cS st1 h0) rfl rfl hl.1 rfl (Nat.le_of_ble_eq_true rfl) dX0_groundsJust_29 (fun H locs hI => ?_)
          refine W.eq (g2 := F0 m 32 ls [.int v5]) rfl ?_
          refine lv_if_ne (tgt := 39) hx hb dX0_groundsJust_32 (by decide) (fun c7 => ?_) (fun c7 => ?_)
          · replace hM := if_f c7 hM
            refine lv_iconst (v := (0 : Int32)) hx hb dX0_groundsJust_39 (by decide) ?_
            refine lv_iload hx hb dX0_groundsJust_40 (lv_at hl 0 rfl) ?_
            refine lv_icmp_eq (tgt := 47) hx hb dX0_groundsJust_42 (by decide) (fun _ => ?_) (fun c9 => absurd c9 (by decide))
            refine lv_iinc (v := (w2 + (1 : Int32))) (lv' := [(3, .int (w2 + (1 : Int32))), (4, .int (0 : Int32)), (0, .ref (am r0)), (1, .ref (am r1)), (2, .int x2)]) hx hb dX0_groundsJust_47 hl (k := 4) rfl rfl (by decide) rfl (fun ls hl => ?_)
            refine lv_goto (tgt := 2) hx hb dX0_groundsJust_50 (by decide) ?_
            have hz := Option.some.inj hM
            subst hz
            exact ih0 (w2 + (1 : Int32)) st6 _ _ _ hI (lv_sub hl [2, 3, 4, 0] rfl) hk0
          · replace hM := if_t c7 hM
            refine lv_iconst (v := (1 : Int32)) hx hb dX0_groundsJust_35 (by decide) ?_
            refine lv_goto (tgt := 40) hx hb dX0_groundsJust_36 (by decide) ?_
            refine lv_iload hx hb dX0_groundsJust_40 (lv_at hl 0 rfl) ?_
            refine lv_icmp_eq (tgt := 47) hx hb dX0_groundsJust_42 (by decide) (fun c9 => absurd c9 (by decide)) (fun _ => ?_)
            refine lv_iconst (v := (0 : Int32)) hx hb dX0_groundsJust_45 (by decide) ?_
            have hz := Option.some.inj hM
            subst hz
            have hz := kn_r hk0
            exact W.zret hx hb hr rfl (fun t ht hW => jq_i hK hI hz ht hW) hI.2.2.2 dX0_groundsJust_46
        · replace hM := if_t c4 hM
          refine lv_iconst (v := (1 : Int32)) hx hb dX0_groundsJust_19 (by decide) ?_
          refine lv_goto (tgt := 24) hx hb dX0_groundsJust_20 (by decide) ?_
          refine lv_istore (lv' := [(4, .int (1 : Int32)), (0, .ref (am r0)), (1, .ref (am r1)), (2, .int x2), (3, .int w2)]) hx hb dX0_groundsJust_24 hl (by decide) rfl (fun ls hl => ?_)
          refine lv_aload_n hx hb dX0_groundsJust_26 rfl (lv_at hl 1 rfl) ?_
          refine lv_aload_n hx hb dX0_groundsJust_27 rfl (lv_at hl 2 rfl) ?_
          refine lv_iload_n hx hb dX0_groundsJust_28 rfl (lv_at hl 4 rfl) ?_
          obtain ⟨v8, st9, hqv8, hM⟩ := bd_at hM
          refine jcallV (C := RX0) (As := [.ref (am r1), .int w2]) (rest := []) ⟨hx, hb, hml, hown, hts⟩ (jw_X0_height D am cI cC cS hj N h0 h1 hqv8) (cwV 2 hts gX0_groundsJust_X0_height rfl rfl rfl yd_X0_height ⟨Nat.le_of_ble_eq_true rfl, Nat.le_of_ble_eq_true rfl⟩) hK hI r0 (cg_Doll am cI cC cS st1 h0) rfl rfl hl.1 rfl (Nat.le_of_ble_eq_true rfl) dX0_groundsJust_29 (fun H locs hI => ?_)
          refine W.eq (g2 := F0 m 32 ls [.int v8]) rfl ?_
          refine lv_if_ne (tgt := 39) hx hb dX0_groundsJust_32 (by decide) (fun c10 => ?_) (fun c10 => ?_)
          · replace hM := if_f c10 hM
            refine lv_iconst (v := (0 : Int32)) hx hb dX0_groundsJust_39 (by decide) ?_
            refine lv_iload hx hb dX0_groundsJust_40 (lv_at hl 0 rfl) ?_
            refine lv_icmp_eq (tgt := 47) hx hb dX0_groundsJust_42 (by decide) (fun c9 => absurd c9 (by decide)) (fun _ => ?_)
            refine lv_iconst (v := (0 : Int32)) hx hb dX0_groundsJust_45 (by decide) ?_
            have hz := Option.some.inj hM
            subst hz
            have hz := kn_r hk0
            exact W.zret hx hb hr rfl (fun t ht hW => jq_i hK hI hz ht hW) hI.2.2.2 dX0_groundsJust_46
          · replace hM := if_t c10 hM
            refine lv_iconst (v := (1 : Int32)) hx hb dX0_groundsJust_35 (by decide) ?_
            refine lv_goto (tgt := 40) hx hb dX0_groundsJust_36 (by decide) ?_
            refine lv_iload hx hb dX0_groundsJust_40 (lv_at hl 0 rfl) ?_
            refine lv_icmp_eq (tgt := 47) hx hb dX0_groundsJust_42 (by decide) (fun _ => ?_) (fun c9 => absurd c9 (by decide))
            refine lv_iinc (v := (w2 + (1 : Int32))) (lv' := [(3, .int (w2 + (1 : Int32))), (4, .int (1 : Int32)), (0, .ref (am r0)), (1, .ref (am r1)), (2, .int x2)]) hx hb dX0_groundsJust_47 hl (k := 4) rfl rfl (by decide) rfl (fun ls hl => ?_)
            refine lv_goto (tgt := 2) hx hb dX0_groundsJust_50 (by decide) ?_
            have hz := Option.some.inj hM
            subst hz
            exact ih0 (w2 + (1 : Int32)) st9 _ _ _ hI (lv_sub hl [2, 3, 4, 0] rfl) hk0
  exact lp0 N (0 : Int32) st _ _ _ hI (lv_sub hl [1, 2, 3, 0] rfl) hM
set_option maxRecDepth 20000 in
theorem hi_X0_heightsTogether_X0 : ∀ w ∈ wsX00, w ∈ wsX0_heightsTogether := by decide +kernel
set_option maxHeartbeats 4000000 in
set_option maxRecDepth 100000 in
theorem jw_X0_heightsTogether {l : Launch} (D : va_G) (am : Nat → Nat) (cI cC cS : ClassId) (hj : aJ am 52) (N : Nat) {r0 : Nat} {r1 : Nat} (h0 : ck_Doll r0) (h1 : ck_Pose r1) {st stZ : PS} {rZ : Int32} (hM : jm_X0_heightsTogether N r0 r1 st = some (rZ, stZ)) : Met l yX0_heightsTogether wsX0_heightsTogether ({ frames := 3, cells := 0, slots := 0, locals := 69 }) (va_Pc [.ref (am r0), .ref (am r1)] (JH D (cW am cI cC cS) (cTy cI cC cS) st)) (JQ D (aA am 52) (cW am cI cC cS) (cTy cI cC cS) (some (.int rZ)) stZ) 0 0 (aA am 52) := by
  refine jStart (cc := cX0_heightsTogether) (maxL := 4) (ret := (some .int)) [.ref (am r0), .ref (am r1)] (by decide) rfl (Nat.le_of_ble_eq_true rfl) (fun p e s m below meth c ls hx hb hr hlocks hts hown hml hK hI hl => ?_)
  have hown : s.vm.findClass RX0 = some m.cls := hown
  replace hl : lv_has ls 4 [(0, .ref (am r0)), (1, .ref (am r1))] := hl
  generalize hAV : ([.ref (am r0), .ref (am r1)] : List Value).toArray = AV at hts ⊢
  have f_0 := hts (.fieldLink RX0 40 "PuppetBar$Doll" "limbs" "I") (by decide +kernel)
  unfold jm_X0_heightsTogether at hM
  refine lv_iconst (v := (0 : Int32)) hx hb dX0_heightsTogether_0 (by decide) ?_
  refine lv_istore_n (lv' := [(2, .int (0 : Int32)), (0, .ref (am r0)), (1, .ref (am r1))]) hx hb dX0_heightsTogether_1 rfl hl (by decide) rfl (fun ls hl => ?_)
  refine lv_iconst (v := (0 : Int32)) hx hb dX0_heightsTogether_2 (by decide) ?_
  refine lv_istore_n (lv' := [(3, .int (0 : Int32)), (2, .int (0 : Int32)), (0, .ref (am r0)), (1, .ref (am r1))]) hx hb dX0_heightsTogether_3 rfl hl (by decide) rfl (fun ls hl => ?_)
  have lp0 : ∀ (n : Nat) (w2 : Int32) (w3 : Int32) (st1 : PS) (H : Heap) (locs : List Loc) (ls : Array Slot), JI D (aA am 52) (cW am cI cC cS) s.heap st1 H locs → lv_has ls 4 [(0, .ref (am r0)), (1, .ref (am r1)), (2, .int w2), (3, .int w3)] → iter (fun q => jm_X0_heightsTogether_L4 N r0 r1 q.1 q.2.1 q.2.2) n (w2, w3, st1) = some (rZ, stZ) → W p l e (headSpec wsX0_heightsTogether { frames := 3, cells := 0, slots := 0, locals := 69 }).room s m AV below meth c H locs 0 0 (MQ below (JQ D (aA am 52) (cW am cI cC cS) (cTy cI cC cS) (some (.int rZ)) stZ) AV s 0 0 (aA am 52)) (F0 m 4 ls []) := by
    intro n
    induction n with
    | zero =>
      intro _ _ _ _ _ _ _ _ hM
      exact absurd hM (fun h => iter_zero h)
    | succ n ih0 =>
      intro w2 w3 st1 H locs ls hI hl hM
      obtain ⟨z0, hM, hk0⟩ := iter_succ hM
      replace hM : jm_X0_heightsTogether_L4 N r0 r1 w2 w3 st1 = some z0 := hM
      unfold jm_X0_heightsTogether_L4 at hM
      refine lv_iload_n hx hb dX0_heightsTogether_4 rfl (lv_at hl 3 rfl) ?_
      refine lv_aload_n hx hb dX0_heightsTogether_5 rfl (lv_at hl 0 rfl) ?_
      refine va_get (D := D) (ci := 0) (v := .int (st1.1 r0 7)) (C := RX0) (T := TX0) (N := 11) hx hb hts hi_X0_heightsTogether_X0 hown hK hI.1 r0 (cg_Doll am cI cC cS st1 h0) rfl 7 (by decide) f_0 (fun _ h9 => h9) rfl dX0_heightsTogether_6 ?_
      refine lv_icmp_ge (tgt := 27) hx hb dX0_heightsTogether_9 (by decide) (fun c4 => ?_) (fun c4 => ?_)
      · replace hM := if_t c4 hM
        refine lv_iload_n hx hb dX0_heightsTogether_27 rfl (lv_at hl 2 rfl) ?_
        have hz := Option.some.inj hM
        subst hz
        have hz := kn_r hk0
        exact W.iret hx hb hr (fun t ht hW => jq_i hK hI hz ht hW) hI.2.2.2 dX0_heightsTogether_28
      · replace hM := if_f c4 hM
        refine lv_iload_n hx hb dX0_heightsTogether_12 rfl (lv_at hl 2 rfl) ?_
        refine lv_aload_n hx hb dX0_heightsTogether_13 rfl (lv_at hl 0 rfl) ?_
        refine lv_aload_n hx hb dX0_heightsTogether_14 rfl (lv_at hl 1 rfl) ?_
        refine lv_iload_n hx hb dX0_heightsTogether_15 rfl (lv_at hl 3 rfl) ?_
        obtain ⟨v5, st6, hqv5, hM⟩ := bd_at hM
        refine jcallV (C := RX0) (As := [.ref (am r1), .int w3]) (rest := [.int w2]) ⟨hx, hb, hml, hown, hts⟩ (jw_X0_height D am cI cC cS hj N h0 h1 hqv5) (cwV 2 hts gX0_heightsTogether_X0_height rfl rfl rfl yd_X0_height ⟨Nat.le_of_ble_eq_true rfl, Nat.le_of_ble_eq_true rfl⟩) hK hI r0 (cg_Doll am cI cC cS st1 h0) rfl rfl hl.1 rfl (Nat.le_of_ble_eq_true rfl) dX0_heightsTogether_16 (fun H locs hI => ?_)
        refine W.eq (g2 := F0 m 19 ls [.int v5, .int w2]) rfl ?_
        refine lv_iadd hx hb dX0_heightsTogether_19 ?_
        refine lv_istore_n (lv' := [(2, .int (w2 + v5)), (0, .ref (am r0)), (1, .ref (am r1)), (3, .int w3)]) hx hb dX0_heightsTogether_20 rfl hl (by decide) rfl (fun ls hl => ?_)
        refine lv_iinc (v := (w3 + (1 : Int32))) (lv' := [(3, .int (w3 + (1 : Int32))), (2, .int (w2 + v5)), (0, .ref (am r0)), (1, .ref (am r1))]) hx hb dX0_heightsTogether_21 hl (k := 3) rfl rfl (by decide) rfl (fun ls hl => ?_)
        refine lv_goto (tgt := 4) hx hb dX0_heightsTogether_24 (by decide) ?_
        have hz := Option.some.inj hM
        subst hz
        exact ih0 (w2 + v5) (w3 + (1 : Int32)) st6 _ _ _ hI (lv_sub hl [2, 3, 1, 0] rfl) hk0
  exact lp0 N (0 : Int32) (0 : Int32) st _ _ _ hI (lv_sub hl [2, 3, 1, 0] rfl) hM
set_option maxRecDepth 20000 in
theorem hi_X0_hangsAlike_X0 : ∀ w ∈ wsX00, w ∈ wsX0_hangsAlike := by decide +kernel
set_option maxHeartbeats 4000000 in
set_option maxRecDepth 100000 in
theorem jw_X0_hangsAlike {l : Launch} (D : va_G) (am : Nat → Nat) (cI cC cS : ClassId) (hj : aJ am 52) (N : Nat) {r0 : Nat} {r1 : Nat} {r2 : Nat} (h0 : ck_Doll r0) (h1 : ck_Pose r1) (h2 : ck_Pose r2) {st stZ : PS} {rZ : Int32} (hM : jm_X0_hangsAlike N r0 r1 r2 st = some (rZ, stZ)) : Met l yX0_hangsAlike wsX0_hangsAlike ({ frames := 3, cells := 0, slots := 0, locals := 69 }) (va_Pc [.ref (am r0), .ref (am r1), .ref (am r2)] (JH D (cW am cI cC cS) (cTy cI cC cS) st)) (JQ D (aA am 52) (cW am cI cC cS) (cTy cI cC cS) (some (.int rZ)) stZ) 0 0 (aA am 52) := by
  refine jStart (cc := cX0_hangsAlike) (maxL := 4) (ret := (some .boolean)) [.ref (am r0), .ref (am r1), .ref (am r2)] (by decide) rfl (Nat.le_of_ble_eq_true rfl) (fun p e s m below meth c ls hx hb hr hlocks hts hown hml hK hI hl => ?_)
  have hown : s.vm.findClass RX0 = some m.cls := hown
  replace hl : lv_has ls 4 [(0, .ref (am r0)), (1, .ref (am r1)), (2, .ref (am r2))] := hl
  generalize hAV : ([.ref (am r0), .ref (am r1), .ref (am r2)] : List Value).toArray = AV at hts ⊢
  have f_0 := hts (.fieldLink RX0 40 "PuppetBar$Doll" "limbs" "I") (by decide +kernel)
  unfold jm_X0_hangsAlike at hM
  refine lv_iconst (v := (0 : Int32)) hx hb dX0_hangsAlike_0 (by decide) ?_
  refine lv_istore_n (lv' := [(3, .int (0 : Int32)), (0, .ref (am r0)), (1, .ref (am r1)), (2, .ref (am r2))]) hx hb dX0_hangsAlike_1 rfl hl (by decide) rfl (fun ls hl => ?_)
  have lp0 : ∀ (n : Nat) (w2 : Int32) (st1 : PS) (H : Heap) (locs : List Loc) (ls : Array Slot), JI D (aA am 52) (cW am cI cC cS) s.heap st1 H locs → lv_has ls 4 [(0, .ref (am r0)), (1, .ref (am r1)), (2, .ref (am r2)), (3, .int w2)] → iter (fun q => jm_X0_hangsAlike_L2 N r0 r1 r2 q.1 q.2) n (w2, st1) = some (rZ, stZ) → W p l e (headSpec wsX0_hangsAlike { frames := 3, cells := 0, slots := 0, locals := 69 }).room s m AV below meth c H locs 0 0 (MQ below (JQ D (aA am 52) (cW am cI cC cS) (cTy cI cC cS) (some (.int rZ)) stZ) AV s 0 0 (aA am 52)) (F0 m 2 ls []) := by
    intro n
    induction n with
    | zero =>
      intro _ _ _ _ _ _ _ hM
      exact absurd hM (fun h => iter_zero h)
    | succ n ih0 =>
      intro w2 st1 H locs ls hI hl hM
      obtain ⟨z0, hM, hk0⟩ := iter_succ hM
      replace hM : jm_X0_hangsAlike_L2 N r0 r1 r2 w2 st1 = some z0 := hM
      unfold jm_X0_hangsAlike_L2 at hM
      refine lv_iload_n hx hb dX0_hangsAlike_2 rfl (lv_at hl 3 rfl) ?_
      refine lv_aload_n hx hb dX0_hangsAlike_3 rfl (lv_at hl 0 rfl) ?_
      refine va_get (D := D) (ci := 0) (v := .int (st1.1 r0 7)) (C := RX0) (T := TX0) (N := 11) hx hb hts hi_X0_hangsAlike_X0 hown hK hI.1 r0 (cg_Doll am cI cC cS st1 h0) rfl 7 (by decide) f_0 (fun _ h9 => h9) rfl dX0_hangsAlike_4 ?_
      refine lv_icmp_ge (tgt := 33) hx hb dX0_hangsAlike_7 (by decide) (fun c3 => ?_) (fun c3 => ?_)
      · replace hM := if_t c3 hM
        refine lv_iconst (v := (1 : Int32)) hx hb dX0_hangsAlike_33 (by decide) ?_
        have hz := Option.some.inj hM
        subst hz
        have hz := kn_r hk0
        exact W.zret hx hb hr rfl (fun t ht hW => jq_i hK hI hz ht hW) hI.2.2.2 dX0_hangsAlike_34
      · replace hM := if_f c3 hM
        refine lv_aload_n hx hb dX0_hangsAlike_10 rfl (lv_at hl 0 rfl) ?_
        refine lv_aload_n hx hb dX0_hangsAlike_11 rfl (lv_at hl 1 rfl) ?_
        refine lv_iload_n hx hb dX0_hangsAlike_12 rfl (lv_at hl 3 rfl) ?_
        obtain ⟨v4, st5, hqv4, hM⟩ := bd_at hM
        refine jcallV (C := RX0) (As := [.ref (am r1), .int w2]) (rest := []) ⟨hx, hb, hml, hown, hts⟩ (jw_X0_height D am cI cC cS hj N h0 h1 hqv4) (cwV 2 hts gX0_hangsAlike_X0_height rfl rfl rfl yd_X0_height ⟨Nat.le_of_ble_eq_true rfl, Nat.le_of_ble_eq_true rfl⟩) hK hI r0 (cg_Doll am cI cC cS st1 h0) rfl rfl hl.1 rfl (Nat.le_of_ble_eq_true rfl) dX0_hangsAlike_13 (fun H locs hI => ?_)
        refine W.eq (g2 := F0 m 16 ls [.int v4]) rfl ?_
        refine lv_aload_n hx hb dX0_hangsAlike_16 rfl (lv_at hl 0 rfl) ?_
        refine lv_aload_n hx hb dX0_hangsAlike_17 rfl (lv_at hl 2 rfl) ?_
        refine lv_iload_n hx hb dX0_hangsAlike_18 rfl (lv_at hl 3 rfl) ?_
        obtain ⟨v6, st7, hqv6, hM⟩ := bd_at hM
        refine jcallV (C := RX0) (As := [.ref (am r2), .int w2]) (rest := [.int v4]) ⟨hx, hb, hml, hown, hts⟩ (jw_X0_height D am cI cC cS hj N h0 h2 hqv6) (cwV 2 hts gX0_hangsAlike_X0_height rfl rfl rfl yd_X0_height ⟨Nat.le_of_ble_eq_true rfl, Nat.le_of_ble_eq_true rfl⟩) hK hI r0 (cg_Doll am cI cC cS st5 h0) rfl rfl hl.1 rfl (Nat.le_of_ble_eq_true rfl) dX0_hangsAlike_19 (fun H locs hI => ?_)
        refine W.eq (g2 := F0 m 22 ls [.int v6, .int v4]) rfl ?_
        refine lv_icmp_eq (tgt := 27) hx hb dX0_hangsAlike_22 (by decide) (fun c8 => ?_) (fun c8 => ?_)
        · replace hM := if_t c8 hM
          refine lv_iinc (v := (w2 + (1 : Int32))) (lv' := [(3, .int (w2 + (1 : Int32))), (0, .ref (am r0)), (1, .ref (am r1)), (2, .ref (am r2))]) hx hb dX0_hangsAlike_27 hl (k := 3) rfl rfl (by decide) rfl (fun ls hl => ?_)
          refine lv_goto (tgt := 2) hx hb dX0_hangsAlike_30 (by decide) ?_
          have hz := Option.some.inj hM
          subst hz
          exact ih0 (w2 + (1 : Int32)) st7 _ _ _ hI (lv_sub hl [1, 2, 3, 0] rfl) hk0
        · replace hM := if_f c8 hM
          refine lv_iconst (v := (0 : Int32)) hx hb dX0_hangsAlike_25 (by decide) ?_
          have hz := Option.some.inj hM
          subst hz
          have hz := kn_r hk0
          exact W.zret hx hb hr rfl (fun t ht hW => jq_i hK hI hz ht hW) hI.2.2.2 dX0_hangsAlike_26
  exact lp0 N (0 : Int32) st _ _ _ hI (lv_sub hl [1, 2, 3, 0] rfl) hM
set_option maxRecDepth 20000 in
theorem hi_X4_holeOf_X4 : ∀ w ∈ wsX40, w ∈ wsX4_holeOf := by decide +kernel
set_option maxHeartbeats 4000000 in
set_option maxRecDepth 100000 in
theorem jw_X4_holeOf {l : Launch} (D : va_G) (am : Nat → Nat) (cI cC cS : ClassId) (hj : aJ am 52) (N : Nat) {r0 : Nat} {x1 : Int32} (h0 : ck_Pose r0) {st stZ : PS} {rZ : Int32} (hM : jm_X4_holeOf N r0 x1 st = some (rZ, stZ)) : Met l yX4_holeOf wsX4_holeOf ({ frames := 0, cells := 0, slots := 0, locals := 0 }) (va_Pc [.ref (am r0), .int x1] (JH D (cW am cI cC cS) (cTy cI cC cS) st)) (JQ D (aA am 52) (cW am cI cC cS) (cTy cI cC cS) (some (.int rZ)) stZ) 0 0 (aA am 52) := by
  refine jStart (cc := cX4_holeOf) (maxL := 2) (ret := (some .int)) [.ref (am r0), .int x1] (by decide) rfl (Nat.le_of_ble_eq_true rfl) (fun p e s m below meth c ls hx hb hr hlocks hts hown hml hK hI hl => ?_)
  have hown : s.vm.findClass RX4 = some m.cls := hown
  replace hl : lv_has ls 2 [(0, .ref (am r0)), (1, .int x1)] := hl
  generalize hAV : ([.ref (am r0), .int x1] : List Value).toArray = AV at hts ⊢
  have f_0 := hts (.fieldLink RX4 11 "PuppetBar$Pose" "row" "[I") (by decide +kernel)
  unfold jm_X4_holeOf at hM
  refine lv_aload_n hx hb dX4_holeOf_0 rfl (lv_at hl 0 rfl) ?_
  refine va_get (D := D) (ci := 4) (v := .ref (am (r0 + 1))) (C := RX4) (T := TX4) (N := 1) hx hb hts hi_X4_holeOf_X4 hown hK hI.1 r0 (cg_Pose am cI cC cS st h0) rfl 0 (by decide) f_0 (fun _ h9 => h9) rfl dX4_holeOf_1 ?_
  refine lv_bipush (v := (9 : Int32)) hx hb dX4_holeOf_4 (by decide) ?_
  refine lv_iload_n hx hb dX4_holeOf_6 rfl (lv_at hl 1 rfl) ?_
  refine lv_iadd hx hb dX4_holeOf_7 ?_
  obtain ⟨g1, hM⟩ := gd_at hM
  refine va_iald hx hb hK hI.1 (r0 + 1) 0 (cg_Pose_row am cI cC cS st h0) rfl (inB_vp g1) dX4_holeOf_8 ?_
  have hz := Option.some.inj hM
  exact W.iret hx hb hr (fun t ht hW => jq_i hK hI hz ht hW) hI.2.2.2 dX4_holeOf_9
set_option maxRecDepth 20000 in
theorem hi_X0_crossings_X0 : ∀ w ∈ wsX00, w ∈ wsX0_crossings := by decide +kernel
set_option maxHeartbeats 4000000 in
set_option maxRecDepth 100000 in
theorem jw_X0_crossings {l : Launch} (D : va_G) (am : Nat → Nat) (cI cC cS : ClassId) (hj : aJ am 52) (N : Nat) {r0 : Nat} {r1 : Nat} (h0 : ck_Doll r0) (h1 : ck_Pose r1) {st stZ : PS} {rZ : Int32} (hM : jm_X0_crossings N r0 r1 st = some (rZ, stZ)) : Met l yX0_crossings wsX0_crossings ({ frames := 1, cells := 0, slots := 0, locals := 21 }) (va_Pc [.ref (am r0), .ref (am r1)] (JH D (cW am cI cC cS) (cTy cI cC cS) st)) (JQ D (aA am 52) (cW am cI cC cS) (cTy cI cC cS) (some (.int rZ)) stZ) 0 0 (aA am 52) := by
  refine jStart (cc := cX0_crossings) (maxL := 7) (ret := (some .int)) [.ref (am r0), .ref (am r1)] (by decide) rfl (Nat.le_of_ble_eq_true rfl) (fun p e s m below meth c ls hx hb hr hlocks hts hown hml hK hI hl => ?_)
  have hown : s.vm.findClass RX0 = some m.cls := hown
  replace hl : lv_has ls 7 [(0, .ref (am r0)), (1, .ref (am r1))] := hl
  generalize hAV : ([.ref (am r0), .ref (am r1)] : List Value).toArray = AV at hts ⊢
  have f_0 := hts (.fieldLink RX0 44 "PuppetBar$Doll" "strings" "I") (by decide +kernel)
  unfold jm_X0_crossings at hM
  refine lv_iconst (v := (0 : Int32)) hx hb dX0_crossings_0 (by decide) ?_
  refine lv_istore_n (lv' := [(2, .int (0 : Int32)), (0, .ref (am r0)), (1, .ref (am r1))]) hx hb dX0_crossings_1 rfl hl (by decide) rfl (fun ls hl => ?_)
  refine lv_iconst (v := (0 : Int32)) hx hb dX0_crossings_2 (by decide) ?_
  refine lv_istore_n (lv' := [(3, .int (0 : Int32)), (2, .int (0 : Int32)), (0, .ref (am r0)), (1, .ref (am r1))]) hx hb dX0_crossings_3 rfl hl (by decide) rfl (fun ls hl => ?_)
  have lp0 : ∀ (n : Nat) (w2 : Int32) (w3 : Int32) (st1 : PS) (H : Heap) (locs : List Loc) (ls : Array Slot), JI D (aA am 52) (cW am cI cC cS) s.heap st1 H locs → lv_has ls 7 [(0, .ref (am r0)), (1, .ref (am r1)), (2, .int w2), (3, .int w3)] → iter (fun q => jm_X0_crossings_L4 N r0 r1 q.1 q.2.1 q.2.2) n (w2, w3, st1) = some (rZ, stZ) → W p l e (headSpec wsX0_crossings { frames := 1, cells := 0, slots := 0, locals := 21 }).room s m AV below meth c H locs 0 0 (MQ below (JQ D (aA am 52) (cW am cI cC cS) (cTy cI cC cS) (some (.int rZ)) stZ) AV s 0 0 (aA am 52)) (F0 m 4 ls []) := by
    intro n
    induction n with
    | zero =>
      intro _ _ _ _ _ _ _ _ hM
      exact absurd hM (fun h => iter_zero h)
    | succ n ih0 =>
      intro w2 w3 st1 H locs ls hI hl hM
      obtain ⟨z0, hM, hk0⟩ := iter_succ hM
      replace hM : jm_X0_crossings_L4 N r0 r1 w2 w3 st1 = some z0 := hM
      unfold jm_X0_crossings_L4 at hM
      refine lv_iload_n hx hb dX0_crossings_4 rfl (lv_at hl 3 rfl) ?_
      refine lv_aload_n hx hb dX0_crossings_5 rfl (lv_at hl 0 rfl) ?_
      refine va_get (D := D) (ci := 0) (v := .int (st1.1 r0 8)) (C := RX0) (T := TX0) (N := 11) hx hb hts hi_X0_crossings_X0 hown hK hI.1 r0 (cg_Doll am cI cC cS st1 h0) rfl 8 (by decide) f_0 (fun _ h9 => h9) rfl dX0_crossings_6 ?_
      refine lv_icmp_ge (tgt := 108) hx hb dX0_crossings_9 (by decide) (fun c4 => ?_) (fun c4 => ?_)
      · replace hM := if_t c4 hM
        refine lv_iload_n hx hb dX0_crossings_108 rfl (lv_at hl 2 rfl) ?_
        have hz := Option.some.inj hM
        subst hz
        have hz := kn_r hk0
        exact W.iret hx hb hr (fun t ht hW => jq_i hK hI hz ht hW) hI.2.2.2 dX0_crossings_109
      · replace hM := if_f c4 hM
        refine lv_iconst (v := (0 : Int32)) hx hb dX0_crossings_12 (by decide) ?_
        refine lv_istore (lv' := [(4, .int (0 : Int32)), (0, .ref (am r0)), (1, .ref (am r1)), (2, .int w2), (3, .int w3)]) hx hb dX0_crossings_13 hl (by decide) rfl (fun ls hl => ?_)
        have lp1 : ∀ (n : Nat) (w6 : Int32) (w7 : Int32) (st5 : PS) (H : Heap) (locs : List Loc) (ls : Array Slot), JI D (aA am 52) (cW am cI cC cS) s.heap st5 H locs → lv_has ls 7 [(0, .ref (am r0)), (1, .ref (am r1)), (2, .int w6), (3, .int w3), (4, .int w7)] → iter (fun q => jm_X0_crossings_L15 N r0 r1 w3 q.1 q.2.1 q.2.2) n (w6, w7, st5) = some z0 → W p l e (headSpec wsX0_crossings { frames := 1, cells := 0, slots := 0, locals := 21 }).room s m AV below meth c H locs 0 0 (MQ below (JQ D (aA am 52) (cW am cI cC cS) (cTy cI cC cS) (some (.int rZ)) stZ) AV s 0 0 (aA am 52)) (F0 m 15 ls []) := by
          intro n
          induction n with
          | zero =>
            intro _ _ _ _ _ _ _ _ hM
            exact absurd hM (fun h => iter_zero h)
          | succ n ih1 =>
            intro w6 w7 st5 H locs ls hI hl hM
            obtain ⟨z1, hM, hk1⟩ := iter_succ hM
            replace hM : jm_X0_crossings_L15 N r0 r1 w3 w6 w7 st5 = some z1 := hM
            unfold jm_X0_crossings_L15 at hM
            refine lv_iload hx hb dX0_crossings_15 (lv_at hl 4 rfl) ?_
            refine lv_aload_n hx hb dX0_crossings_17 rfl (lv_at hl 0 rfl) ?_
            refine va_get (D := D) (ci := 0) (v := .int (st5.1 r0 8)) (C := RX0) (T := TX0) (N := 11) hx hb hts hi_X0_crossings_X0 hown hK hI.1 r0 (cg_Doll am cI cC cS st5 h0) rfl 8 (by decide) f_0 (fun _ h9 => h9) rfl dX0_crossings_18 ?_
            refine lv_icmp_ge (tgt := 102) hx hb dX0_crossings_21 (by decide) (fun c8 => ?_) (fun c8 => ?_)
            · replace hM := if_t c8 hM
              refine lv_iinc (v := (w3 + (1 : Int32))) (lv' := [(3, .int (w3 + (1 : Int32))), (0, .ref (am r0)), (1, .ref (am r1)), (2, .int w6), (4, .int w7)]) hx hb dX0_crossings_102 hl (k := 3) rfl rfl (by decide) rfl (fun ls hl => ?_)
              refine lv_goto (tgt := 4) hx hb dX0_crossings_105 (by decide) ?_
              have hz := Option.some.inj hM
              subst hz
              have hz := kn_r hk1
              subst hz
              exact ih0 w6 (w3 + (1 : Int32)) st5 _ _ _ hI (lv_sub hl [1, 2, 3, 0] rfl) hk0
            · replace hM := if_f c8 hM
              refine lv_aload_n hx hb dX0_crossings_24 rfl (lv_at hl 1 rfl) ?_
              refine lv_iload_n hx hb dX0_crossings_25 rfl (lv_at hl 3 rfl) ?_
              obtain ⟨v9, st10, hqv9, hM⟩ := bd_at hM
              refine jcallV (C := RX4) (As := [.int w3]) (rest := []) ⟨hx, hb, hml, hown, hts⟩ (jw_X4_isCut D am cI cC cS hj N h1 hqv9) (cwV 1 hts gX0_crossings_X4_isCut rfl rfl rfl yd_X4_isCut ⟨Nat.le_of_ble_eq_true rfl, Nat.le_of_ble_eq_true rfl⟩) hK hI r1 (cg_Pose am cI cC cS st5 h1) rfl rfl hl.1 rfl (Nat.le_of_ble_eq_true rfl) dX0_crossings_26 (fun H locs hI => ?_)
              refine W.eq (g2 := F0 m 29 ls [.int v9]) rfl ?_
              refine lv_if_ne (tgt := 45) hx hb dX0_crossings_29 (by decide) (fun c11 => ?_) (fun c11 => ?_)
              · replace hM := if_f c11 hM
                refine lv_iconst (v := (0 : Int32)) hx hb dX0_crossings_45 (by decide) ?_
                refine lv_istore (lv' := [(5, .int (0 : Int32)), (0, .ref (am r0)), (1, .ref (am r1)), (2, .int w6), (3, .int w3), (4, .int w7)]) hx hb dX0_crossings_46 hl (by decide) rfl (fun ls hl => ?_)
                refine lv_aload_n hx hb dX0_crossings_48 rfl (lv_at hl 2 rfl) ?_
                refine lv_iload_n hx hb dX0_crossings_49 rfl (lv_at hl 4 rfl) ?_
                obtain ⟨v12, st13, hqv12, hM⟩ := bd_at hM
                refine jcallV (C := RX4) (As := [.int w3]) (rest := []) ⟨hx, hb, hml, hown, hts⟩ (jw_X4_holeOf D am cI cC cS hj N h1 hqv12) (cwV 1 hts gX0_crossings_X4_holeOf rfl rfl rfl yd_X4_holeOf ⟨Nat.le_of_ble_eq_true rfl, Nat.le_of_ble_eq_true rfl⟩) hK hI r1 (cg_Pose am cI cC cS st10 h1) rfl rfl hl.1 rfl (Nat.le_of_ble_eq_true rfl) dX0_crossings_50 (fun H locs hI => ?_)
                refine W.eq (g2 := F0 m 53 ls [.int v12]) rfl ?_
                refine lv_aload_n hx hb dX0_crossings_53 rfl (lv_at hl 2 rfl) ?_
                refine lv_iload hx hb dX0_crossings_54 (lv_at hl 5 rfl) ?_
                obtain ⟨v14, st15, hqv14, hM⟩ := bd_at hM
                refine jcallV (C := RX4) (As := [.int w7]) (rest := [.int v12]) ⟨hx, hb, hml, hown, hts⟩ (jw_X4_holeOf D am cI cC cS hj N h1 hqv14) (cwV 1 hts gX0_crossings_X4_holeOf rfl rfl rfl yd_X4_holeOf ⟨Nat.le_of_ble_eq_true rfl, Nat.le_of_ble_eq_true rfl⟩) hK hI r1 (cg_Pose am cI cC cS st13 h1) rfl rfl hl.1 rfl (Nat.le_of_ble_eq_true rfl) dX0_crossings_56 (fun H locs hI => ?_)
                refine W.eq (g2 := F0 m 59 ls [.int v14, .int v12]) rfl ?_
                refine lv_icmp_ge (tgt := 66) hx hb dX0_crossings_59 (by decide) (fun c16 => ?_) (fun c16 => ?_)
                · replace hM := if_t c16 hM
                  refine lv_iconst (v := (0 : Int32)) hx hb dX0_crossings_66 (by decide) ?_
                  refine lv_istore (lv' := [(6, .int (0 : Int32)), (5, .int (0 : Int32)), (0, .ref (am r0)), (1, .ref (am r1)), (2, .int w6), (3, .int w3), (4, .int w7)]) hx hb dX0_crossings_67 hl (by decide) rfl (fun ls hl => ?_)
                  refine lv_iload hx hb dX0_crossings_69 (lv_at hl 1 rfl) ?_
                  refine lv_if_eq (tgt := 96) hx hb dX0_crossings_71 (by decide) (fun _ => ?_) (fun c9 => absurd c9 (by decide))
                  refine lv_iinc (v := (w7 + (1 : Int32))) (lv' := [(4, .int (w7 + (1 : Int32))), (6, .int (0 : Int32)), (5, .int (0 : Int32)), (0, .ref (am r0)), (1, .ref (am r1)), (2, .int w6), (3, .int w3)]) hx hb dX0_crossings_96 hl (k := 6) rfl rfl (by decide) rfl (fun ls hl => ?_)
                  refine lv_goto (tgt := 15) hx hb dX0_crossings_99 (by decide) ?_
                  have hz := Option.some.inj hM
                  subst hz
                  exact ih1 w6 (w7 + (1 : Int32)) st15 _ _ _ hI (lv_sub hl [3, 4, 5, 6, 0] rfl) hk1
                · replace hM := if_f c16 hM
                  refine lv_iconst (v := (1 : Int32)) hx hb dX0_crossings_62 (by decide) ?_
                  refine lv_goto (tgt := 67) hx hb dX0_crossings_63 (by decide) ?_
                  refine lv_istore (lv' := [(6, .int (1 : Int32)), (5, .int (0 : Int32)), (0, .ref (am r0)), (1, .ref (am r1)), (2, .int w6), (3, .int w3), (4, .int w7)]) hx hb dX0_crossings_67 hl (by decide) rfl (fun ls hl => ?_)
                  refine lv_iload hx hb dX0_crossings_69 (lv_at hl 1 rfl) ?_
                  refine lv_if_eq (tgt := 96) hx hb dX0_crossings_71 (by decide) (fun _ => ?_) (fun c9 => absurd c9 (by decide))
                  refine lv_iinc (v := (w7 + (1 : Int32))) (lv' := [(4, .int (w7 + (1 : Int32))), (6, .int (1 : Int32)), (5, .int (0 : Int32)), (0, .ref (am r0)), (1, .ref (am r1)), (2, .int w6), (3, .int w3)]) hx hb dX0_crossings_96 hl (k := 6) rfl rfl (by decide) rfl (fun ls hl => ?_)
                  refine lv_goto (tgt := 15) hx hb dX0_crossings_99 (by decide) ?_
                  have hz := Option.some.inj hM
                  subst hz
                  exact ih1 w6 (w7 + (1 : Int32)) st15 _ _ _ hI (lv_sub hl [3, 4, 5, 6, 0] rfl) hk1
              · replace hM := if_t c11 hM
                refine lv_aload_n hx hb dX0_crossings_32 rfl (lv_at hl 1 rfl) ?_
                refine lv_iload hx hb dX0_crossings_33 (lv_at hl 4 rfl) ?_
                obtain ⟨v17, st18, hqv17, hM⟩ := bd_at hM
                refine jcallV (C := RX4) (As := [.int w7]) (rest := []) ⟨hx, hb, hml, hown, hts⟩ (jw_X4_isCut D am cI cC cS hj N h1 hqv17) (cwV 1 hts gX0_crossings_X4_isCut rfl rfl rfl yd_X4_isCut ⟨Nat.le_of_ble_eq_true rfl, Nat.le_of_ble_eq_true rfl⟩) hK hI r1 (cg_Pose am cI cC cS st10 h1) rfl rfl hl.1 rfl (Nat.le_of_ble_eq_true rfl) dX0_crossings_35 (fun H locs hI => ?_)
                refine W.eq (g2 := F0 m 38 ls [.int v17]) rfl ?_
                refine lv_if_ne (tgt := 45) hx hb dX0_crossings_38 (by decide) (fun c19 => ?_) (fun c19 => ?_)
                · replace hM := if_f c19 hM
                  refine lv_iconst (v := (0 : Int32)) hx hb dX0_crossings_45 (by decide) ?_
                  refine lv_istore (lv' := [(5, .int (0 : Int32)), (0, .ref (am r0)), (1, .ref (am r1)), (2, .int w6), (3, .int w3), (4, .int w7)]) hx hb dX0_crossings_46 hl (by decide) rfl (fun ls hl => ?_)
                  refine lv_aload_n hx hb dX0_crossings_48 rfl (lv_at hl 2 rfl) ?_
                  refine lv_iload_n hx hb dX0_crossings_49 rfl (lv_at hl 4 rfl) ?_
                  obtain ⟨v20, st21, hqv20, hM⟩ := bd_at hM
                  refine jcallV (C := RX4) (As := [.int w3]) (rest := []) ⟨hx, hb, hml, hown, hts⟩ (jw_X4_holeOf D am cI cC cS hj N h1 hqv20) (cwV 1 hts gX0_crossings_X4_holeOf rfl rfl rfl yd_X4_holeOf ⟨Nat.le_of_ble_eq_true rfl, Nat.le_of_ble_eq_true rfl⟩) hK hI r1 (cg_Pose am cI cC cS st18 h1) rfl rfl hl.1 rfl (Nat.le_of_ble_eq_true rfl) dX0_crossings_50 (fun H locs hI => ?_)
                  refine W.eq (g2 := F0 m 53 ls [.int v20]) rfl ?_
                  refine lv_aload_n hx hb dX0_crossings_53 rfl (lv_at hl 2 rfl) ?_
                  refine lv_iload hx hb dX0_crossings_54 (lv_at hl 5 rfl) ?_
                  obtain ⟨v22, st23, hqv22, hM⟩ := bd_at hM
                  refine jcallV (C := RX4) (As := [.int w7]) (rest := [.int v20]) ⟨hx, hb, hml, hown, hts⟩ (jw_X4_holeOf D am cI cC cS hj N h1 hqv22) (cwV 1 hts gX0_crossings_X4_holeOf rfl rfl rfl yd_X4_holeOf ⟨Nat.le_of_ble_eq_true rfl, Nat.le_of_ble_eq_true rfl⟩) hK hI r1 (cg_Pose am cI cC cS st21 h1) rfl rfl hl.1 rfl (Nat.le_of_ble_eq_true rfl) dX0_crossings_56 (fun H locs hI => ?_)
                  refine W.eq (g2 := F0 m 59 ls [.int v22, .int v20]) rfl ?_
                  refine lv_icmp_ge (tgt := 66) hx hb dX0_crossings_59 (by decide) (fun c24 => ?_) (fun c24 => ?_)
                  · replace hM := if_t c24 hM
                    refine lv_iconst (v := (0 : Int32)) hx hb dX0_crossings_66 (by decide) ?_
                    refine lv_istore (lv' := [(6, .int (0 : Int32)), (5, .int (0 : Int32)), (0, .ref (am r0)), (1, .ref (am r1)), (2, .int w6), (3, .int w3), (4, .int w7)]) hx hb dX0_crossings_67 hl (by decide) rfl (fun ls hl => ?_)
                    refine lv_iload hx hb dX0_crossings_69 (lv_at hl 1 rfl) ?_
                    refine lv_if_eq (tgt := 96) hx hb dX0_crossings_71 (by decide) (fun _ => ?_) (fun c9 => absurd c9 (by decide))
                    refine lv_iinc (v := (w7 + (1 : Int32))) (lv' := [(4, .int (w7 + (1 : Int32))), (6, .int (0 : Int32)), (5, .int (0 : Int32)), (0, .ref (am r0)), (1, .ref (am r1)), (2, .int w6), (3, .int w3)]) hx hb dX0_crossings_96 hl (k := 6) rfl rfl (by decide) rfl (fun ls hl => ?_)
                    refine lv_goto (tgt := 15) hx hb dX0_crossings_99 (by decide) ?_
                    have hz := Option.some.inj hM
                    subst hz
                    exact ih1 w6 (w7 + (1 : Int32)) st23 _ _ _ hI (lv_sub hl [3, 4, 5, 6, 0] rfl) hk1
                  · replace hM := if_f c24 hM
                    refine lv_iconst (v := (1 : Int32)) hx hb dX0_crossings_62 (by decide) ?_
                    refine lv_goto (tgt := 67) hx hb dX0_crossings_63 (by decide) ?_
                    refine lv_istore (lv' := [(6, .int (1 : Int32)), (5, .int (0 : Int32)), (0, .ref (am r0)), (1, .ref (am r1)), (2, .int w6), (3, .int w3), (4, .int w7)]) hx hb dX0_crossings_67 hl (by decide) rfl (fun ls hl => ?_)
                    refine lv_iload hx hb dX0_crossings_69 (lv_at hl 1 rfl) ?_
                    refine lv_if_eq (tgt := 96) hx hb dX0_crossings_71 (by decide) (fun _ => ?_) (fun c9 => absurd c9 (by decide))
                    refine lv_iinc (v := (w7 + (1 : Int32))) (lv' := [(4, .int (w7 + (1 : Int32))), (6, .int (1 : Int32)), (5, .int (0 : Int32)), (0, .ref (am r0)), (1, .ref (am r1)), (2, .int w6), (3, .int w3)]) hx hb dX0_crossings_96 hl (k := 6) rfl rfl (by decide) rfl (fun ls hl => ?_)
                    refine lv_goto (tgt := 15) hx hb dX0_crossings_99 (by decide) ?_
                    have hz := Option.some.inj hM
                    subst hz
                    exact ih1 w6 (w7 + (1 : Int32)) st23 _ _ _ hI (lv_sub hl [3, 4, 5, 6, 0] rfl) hk1
                · replace hM := if_t c19 hM
                  refine lv_iconst (v := (1 : Int32)) hx hb dX0_crossings_41 (by decide) ?_
                  refine lv_goto (tgt := 46) hx hb dX0_crossings_42 (by decide) ?_
                  refine lv_istore (lv' := [(5, .int (1 : Int32)), (0, .ref (am r0)), (1, .ref (am r1)), (2, .int w6), (3, .int w3), (4, .int w7)]) hx hb dX0_crossings_46 hl (by decide) rfl (fun ls hl => ?_)
                  refine lv_aload_n hx hb dX0_crossings_48 rfl (lv_at hl 2 rfl) ?_
                  refine lv_iload_n hx hb dX0_crossings_49 rfl (lv_at hl 4 rfl) ?_
                  obtain ⟨v25, st26, hqv25, hM⟩ := bd_at hM
                  refine jcallV (C := RX4) (As := [.int w3]) (rest := []) ⟨hx, hb, hml, hown, hts⟩ (jw_X4_holeOf D am cI cC cS hj N h1 hqv25) (cwV 1 hts gX0_crossings_X4_holeOf rfl rfl rfl yd_X4_holeOf ⟨Nat.le_of_ble_eq_true rfl, Nat.le_of_ble_eq_true rfl⟩) hK hI r1 (cg_Pose am cI cC cS st18 h1) rfl rfl hl.1 rfl (Nat.le_of_ble_eq_true rfl) dX0_crossings_50 (fun H locs hI => ?_)
                  refine W.eq (g2 := F0 m 53 ls [.int v25]) rfl ?_
                  refine lv_aload_n hx hb dX0_crossings_53 rfl (lv_at hl 2 rfl) ?_
                  refine lv_iload hx hb dX0_crossings_54 (lv_at hl 5 rfl) ?_
                  obtain ⟨v27, st28, hqv27, hM⟩ := bd_at hM
                  refine jcallV (C := RX4) (As := [.int w7]) (rest := [.int v25]) ⟨hx, hb, hml, hown, hts⟩ (jw_X4_holeOf D am cI cC cS hj N h1 hqv27) (cwV 1 hts gX0_crossings_X4_holeOf rfl rfl rfl yd_X4_holeOf ⟨Nat.le_of_ble_eq_true rfl, Nat.le_of_ble_eq_true rfl⟩) hK hI r1 (cg_Pose am cI cC cS st26 h1) rfl rfl hl.1 rfl (Nat.le_of_ble_eq_true rfl) dX0_crossings_56 (fun H locs hI => ?_)
                  refine W.eq (g2 := F0 m 59 ls [.int v27, .int v25]) rfl ?_
                  refine lv_icmp_ge (tgt := 66) hx hb dX0_crossings_59 (by decide) (fun c29 => ?_) (fun c29 => ?_)
                  · replace hM := if_t c29 hM
                    refine lv_iconst (v := (0 : Int32)) hx hb dX0_crossings_66 (by decide) ?_
                    refine lv_istore (lv' := [(6, .int (0 : Int32)), (5, .int (1 : Int32)), (0, .ref (am r0)), (1, .ref (am r1)), (2, .int w6), (3, .int w3), (4, .int w7)]) hx hb dX0_crossings_67 hl (by decide) rfl (fun ls hl => ?_)
                    refine lv_iload hx hb dX0_crossings_69 (lv_at hl 1 rfl) ?_
                    refine lv_if_eq (tgt := 96) hx hb dX0_crossings_71 (by decide) (fun c9 => absurd c9 (by decide)) (fun _ => ?_)
                    refine lv_iload hx hb dX0_crossings_74 (lv_at hl 0 rfl) ?_
                    refine lv_if_eq (tgt := 96) hx hb dX0_crossings_76 (by decide) (fun _ => ?_) (fun c9 => absurd c9 (by decide))
                    refine lv_iinc (v := (w7 + (1 : Int32))) (lv' := [(4, .int (w7 + (1 : Int32))), (6, .int (0 : Int32)), (5, .int (1 : Int32)), (0, .ref (am r0)), (1, .ref (am r1)), (2, .int w6), (3, .int w3)]) hx hb dX0_crossings_96 hl (k := 6) rfl rfl (by decide) rfl (fun ls hl => ?_)
                    refine lv_goto (tgt := 15) hx hb dX0_crossings_99 (by decide) ?_
                    have hz := Option.some.inj hM
                    subst hz
                    exact ih1 w6 (w7 + (1 : Int32)) st28 _ _ _ hI (lv_sub hl [3, 4, 5, 6, 0] rfl) hk1
                  · replace hM := if_f c29 hM
                    refine lv_iconst (v := (1 : Int32)) hx hb dX0_crossings_62 (by decide) ?_
                    refine lv_goto (tgt := 67) hx hb dX0_crossings_63 (by decide) ?_
                    refine lv_istore (lv' := [(6, .int (1 : Int32)), (5, .int (1 : Int32)), (0, .ref (am r0)), (1, .ref (am r1)), (2, .int w6), (3, .int w3), (4, .int w7)]) hx hb dX0_crossings_67 hl (by decide) rfl (fun ls hl => ?_)
                    refine lv_iload hx hb dX0_crossings_69 (lv_at hl 1 rfl) ?_
                    refine lv_if_eq (tgt := 96) hx hb dX0_crossings_71 (by decide) (fun c9 => absurd c9 (by decide)) (fun _ => ?_)
                    refine lv_iload hx hb dX0_crossings_74 (lv_at hl 0 rfl) ?_
                    refine lv_if_eq (tgt := 96) hx hb dX0_crossings_76 (by decide) (fun c9 => absurd c9 (by decide)) (fun _ => ?_)
                    refine lv_aload_n hx hb dX0_crossings_79 rfl (lv_at hl 3 rfl) ?_
                    refine lv_iload_n hx hb dX0_crossings_80 rfl (lv_at hl 5 rfl) ?_
                    obtain ⟨v30, st31, hqv30, hM⟩ := bd_at hM
                    refine jcallV (C := RX4) (As := [.int w3]) (rest := []) ⟨hx, hb, hml, hown, hts⟩ (jw_X4_limbOf D am cI cC cS hj N h1 hqv30) (cwV 1 hts gX0_crossings_X4_limbOf rfl rfl rfl yd_X4_limbOf ⟨Nat.le_of_ble_eq_true rfl, Nat.le_of_ble_eq_true rfl⟩) hK hI r1 (cg_Pose am cI cC cS st28 h1) rfl rfl hl.1 rfl (Nat.le_of_ble_eq_true rfl) dX0_crossings_81 (fun H locs hI => ?_)
                    refine W.eq (g2 := F0 m 84 ls [.int v30]) rfl ?_
                    refine lv_aload_n hx hb dX0_crossings_84 rfl (lv_at hl 3 rfl) ?_
                    refine lv_iload hx hb dX0_crossings_85 (lv_at hl 6 rfl) ?_
                    obtain ⟨v32, st33, hqv32, hM⟩ := bd_at hM
                    refine jcallV (C := RX4) (As := [.int w7]) (rest := [.int v30]) ⟨hx, hb, hml, hown, hts⟩ (jw_X4_limbOf D am cI cC cS hj N h1 hqv32) (cwV 1 hts gX0_crossings_X4_limbOf rfl rfl rfl yd_X4_limbOf ⟨Nat.le_of_ble_eq_true rfl, Nat.le_of_ble_eq_true rfl⟩) hK hI r1 (cg_Pose am cI cC cS st31 h1) rfl rfl hl.1 rfl (Nat.le_of_ble_eq_true rfl) dX0_crossings_87 (fun H locs hI => ?_)
                    refine W.eq (g2 := F0 m 90 ls [.int v32, .int v30]) rfl ?_
                    refine lv_icmp_le (tgt := 96) hx hb dX0_crossings_90 (by decide) (fun c34 => ?_) (fun c34 => ?_)
                    · replace hM := if_t c34 hM
                      refine lv_iinc (v := (w7 + (1 : Int32))) (lv' := [(4, .int (w7 + (1 : Int32))), (6, .int (1 : Int32)), (5, .int (1 : Int32)), (0, .ref (am r0)), (1, .ref (am r1)), (2, .int w6), (3, .int w3)]) hx hb dX0_crossings_96 hl (k := 6) rfl rfl (by decide) rfl (fun ls hl => ?_)
                      refine lv_goto (tgt := 15) hx hb dX0_crossings_99 (by decide) ?_
                      have hz := Option.some.inj hM
                      subst hz
                      exact ih1 w6 (w7 + (1 : Int32)) st33 _ _ _ hI (lv_sub hl [3, 4, 5, 6, 0] rfl) hk1
                    · replace hM := if_f c34 hM
                      refine lv_iinc (v := (w6 + (1 : Int32))) (lv' := [(2, .int (w6 + (1 : Int32))), (6, .int (1 : Int32)), (5, .int (1 : Int32)), (0, .ref (am r0)), (1, .ref (am r1)), (3, .int w3), (4, .int w7)]) hx hb dX0_crossings_93 hl (k := 4) rfl rfl (by decide) rfl (fun ls hl => ?_)
                      refine lv_iinc (v := (w7 + (1 : Int32))) (lv' := [(4, .int (w7 + (1 : Int32))), (2, .int (w6 + (1 : Int32))), (6, .int (1 : Int32)), (5, .int (1 : Int32)), (0, .ref (am r0)), (1, .ref (am r1)), (3, .int w3)]) hx hb dX0_crossings_96 hl (k := 6) rfl rfl (by decide) rfl (fun ls hl => ?_)
                      refine lv_goto (tgt := 15) hx hb dX0_crossings_99 (by decide) ?_
                      have hz := Option.some.inj hM
                      subst hz
                      exact ih1 (w6 + (1 : Int32)) (w7 + (1 : Int32)) st33 _ _ _ hI (lv_sub hl [4, 5, 1, 6, 0] rfl) hk1
        exact lp1 N w2 (0 : Int32) st1 _ _ _ hI (lv_sub hl [1, 2, 3, 4, 0] rfl) hM
  exact lp0 N (0 : Int32) (0 : Int32) st _ _ _ hI (lv_sub hl [2, 3, 1, 0] rfl) hM
set_option maxRecDepth 20000 in
theorem hi_X1_asked_X1 : ∀ w ∈ wsX10, w ∈ wsX1_asked := by decide +kernel
set_option maxHeartbeats 4000000 in
set_option maxRecDepth 100000 in
theorem jw_X1_asked {l : Launch} (D : va_G) (am : Nat → Nat) (cI cC cS : ClassId) (hj : aJ am 52) (N : Nat) {st stZ : PS} {rZ : Int64} (hM : jm_X1_asked N st = some (rZ, stZ)) : Met l yX1_asked wsX1_asked ({ frames := 0, cells := 0, slots := 0, locals := 0 }) (va_Pc [.ref (am 5)] (JH D (cW am cI cC cS) (cTy cI cC cS) st)) (JQ D (aA am 52) (cW am cI cC cS) (cTy cI cC cS) (some (.long rZ)) stZ) 0 0 (aA am 52) := by
  refine jStart (cc := cX1_asked) (maxL := 1) (ret := (some .long)) [.ref (am 5)] (by decide) rfl (Nat.le_of_ble_eq_true rfl) (fun p e s m below meth c ls hx hb hr hlocks hts hown hml hK hI hl => ?_)
  have hown : s.vm.findClass RX1 = some m.cls := hown
  replace hl : lv_has ls 1 [(0, .ref (am 5))] := hl
  generalize hAV : ([.ref (am 5)] : List Value).toArray = AV at hts ⊢
  have f_0 := hts (.fieldLink RX1 7 "PuppetBar$Kinds" "trace" "J") (by decide +kernel)
  unfold jm_X1_asked at hM
  refine lv_aload_n hx hb dX1_asked_0 rfl (lv_at hl 0 rfl) ?_
  refine va_get (D := D) (ci := 1) (v := .long st.2) (C := RX1) (T := TX1) (N := 1) hx hb hts hi_X1_asked_X1 hown hK hI.1 5 (cg_5 am cI cC cS st) rfl 0 (by decide) f_0 (fun _ h9 => h9) rfl dX1_asked_1 ?_
  have hz := Option.some.inj hM
  exact W.lret hx hb hr (fun t ht hW => jq_l hK hI hz ht hW) hI.2.2.2 dX1_asked_4
set_option maxRecDepth 20000 in
theorem hi_X1_asLimb_X1 : ∀ w ∈ wsX10, w ∈ wsX1_asLimb := by decide +kernel
set_option maxHeartbeats 4000000 in
set_option maxRecDepth 100000 in
theorem jw_X1_asLimb {l : Launch} (D : va_G) (am : Nat → Nat) (cI cC cS : ClassId) (hj : aJ am 52) (N : Nat) {r1 : Nat} {r2 : Nat} {x3 : Int32} (h1 : ck_Doll r1) (h2 : ck_Pose r2) {st stZ : PS} {rZ : Int32} (hM : jm_X1_asLimb N r1 r2 x3 st = some (rZ, stZ)) : Met l yX1_asLimb wsX1_asLimb ({ frames := 3, cells := 0, slots := 0, locals := 69 }) (va_Pc [.ref (am 5), .ref (am r1), .ref (am r2), .int x3] (JH D (cW am cI cC cS) (cTy cI cC cS) st)) (JQ D (aA am 52) (cW am cI cC cS) (cTy cI cC cS) (some (.int rZ)) stZ) 0 0 (aA am 52) := by
  refine jStart (cc := cX1_asLimb) (maxL := 4) (ret := (some .int)) [.ref (am 5), .ref (am r1), .ref (am r2), .int x3] (by decide) rfl (Nat.le_of_ble_eq_true rfl) (fun p e s m below meth c ls hx hb hr hlocks hts hown hml hK hI hl => ?_)
  have hown : s.vm.findClass RX1 = some m.cls := hown
  replace hl : lv_has ls 4 [(0, .ref (am 5)), (1, .ref (am r1)), (2, .ref (am r2)), (3, .int x3)] := hl
  generalize hAV : ([.ref (am 5), .ref (am r1), .ref (am r2), .int x3] : List Value).toArray = AV at hts ⊢
  have f_0 := hts (.fieldLink RX1 7 "PuppetBar$Kinds" "trace" "J") (by decide +kernel)
  unfold jm_X1_asLimb at hM
  refine lv_aload_n hx hb dX1_asLimb_0 rfl (lv_at hl 0 rfl) ?_
  refine lv_dup hx hb dX1_asLimb_1 rfl ?_
  refine va_get (D := D) (ci := 1) (v := .long st.2) (C := RX1) (T := TX1) (N := 1) hx hb hts hi_X1_asLimb_X1 hown hK hI.1 5 (cg_5 am cI cC cS st) rfl 0 (by decide) f_0 (fun _ h9 => h9) rfl dX1_asLimb_2 ?_
  refine lv_lconst (v := (1 : Int64)) hx hb dX1_asLimb_5 (by decide) ?_
  refine lv_ladd hx hb dX1_asLimb_6 ?_
  refine jput (D := D) (ci := 1) (v := .long (st.2 + (1 : Int64))) (ty := .long) (C := RX1) (T := TX1) (N := 1) (st2 := pT st (st.2 + (1 : Int64))) hx hb hts hi_X1_asLimb_X1 tyX1 tyX1_ok nmX1 hown hK (cD hj) hI 5 (cg_5 am cI cC cS st) rfl 0 (by decide) f_0 (fun _ h9 => h9) rfl (by decide +kernel) rfl rfl (Nat.le_of_ble_eq_true rfl) (cs_5_0 am cI cC cS st _) dX1_asLimb_7 (fun st1 est1 H locs hI => ?_)
  replace hM := nm_at est1 hM
  refine lv_aload_n hx hb dX1_asLimb_10 rfl (lv_at hl 1 rfl) ?_
  refine lv_aload_n hx hb dX1_asLimb_11 rfl (lv_at hl 2 rfl) ?_
  refine lv_iload_n hx hb dX1_asLimb_12 rfl (lv_at hl 3 rfl) ?_
  obtain ⟨v2, st3, hqv2, hM⟩ := bd_at hM
  refine jcallV (C := RX0) (As := [.ref (am r2), .int x3]) (rest := []) ⟨hx, hb, hml, hown, hts⟩ (jw_X0_height D am cI cC cS hj N h1 h2 hqv2) (cwV 2 hts gX1_asLimb_X0_height rfl rfl rfl yd_X0_height ⟨Nat.le_of_ble_eq_true rfl, Nat.le_of_ble_eq_true rfl⟩) hK hI r1 (cg_Doll am cI cC cS st1 h1) rfl rfl hl.1 rfl (Nat.le_of_ble_eq_true rfl) dX1_asLimb_13 (fun H locs hI => ?_)
  refine W.eq (g2 := F0 m 16 ls [.int v2]) rfl ?_
  have hz := Option.some.inj hM
  exact W.iret hx hb hr (fun t ht hW => jq_i hK hI hz ht hW) hI.2.2.2 dX1_asLimb_16
set_option maxRecDepth 20000 in
theorem hi_X1_asHead_X1 : ∀ w ∈ wsX10, w ∈ wsX1_asHead := by decide +kernel
set_option maxRecDepth 20000 in
theorem hi_X1_asHead_X0 : ∀ w ∈ wsX00, w ∈ wsX1_asHead := by decide +kernel
set_option maxHeartbeats 4000000 in
set_option maxRecDepth 100000 in
theorem jw_X1_asHead {l : Launch} (D : va_G) (am : Nat → Nat) (cI cC cS : ClassId) (hj : aJ am 52) (N : Nat) {r1 : Nat} {r2 : Nat} {x3 : Int32} (h1 : ck_Doll r1) (h2 : ck_Pose r2) {st stZ : PS} {rZ : Int32} (hM : jm_X1_asHead N r1 r2 x3 st = some (rZ, stZ)) : Met l yX1_asHead wsX1_asHead ({ frames := 4, cells := 0, slots := 0, locals := 92 }) (va_Pc [.ref (am 5), .ref (am r1), .ref (am r2), .int x3] (JH D (cW am cI cC cS) (cTy cI cC cS) st)) (JQ D (aA am 52) (cW am cI cC cS) (cTy cI cC cS) (some (.int rZ)) stZ) 0 0 (aA am 52) := by
  refine jStart (cc := cX1_asHead) (maxL := 4) (ret := (some .int)) [.ref (am 5), .ref (am r1), .ref (am r2), .int x3] (by decide) rfl (Nat.le_of_ble_eq_true rfl) (fun p e s m below meth c ls hx hb hr hlocks hts hown hml hK hI hl => ?_)
  have hown : s.vm.findClass RX1 = some m.cls := hown
  replace hl : lv_has ls 4 [(0, .ref (am 5)), (1, .ref (am r1)), (2, .ref (am r2)), (3, .int x3)] := hl
  generalize hAV : ([.ref (am 5), .ref (am r1), .ref (am r2), .int x3] : List Value).toArray = AV at hts ⊢
  have f_0 := hts (.fieldLink RX1 7 "PuppetBar$Kinds" "trace" "J") (by decide +kernel)
  have f_1 := hts (.constantLong RX1 19 (10)) (by decide +kernel)
  have f_2 := hts (.fieldLink RX1 25 "PuppetBar$Doll" "weight" "[I") (by decide +kernel)
  unfold jm_X1_asHead at hM
  refine lv_aload_n hx hb dX1_asHead_0 rfl (lv_at hl 0 rfl) ?_
  refine lv_dup hx hb dX1_asHead_1 rfl ?_
  refine va_get (D := D) (ci := 1) (v := .long st.2) (C := RX1) (T := TX1) (N := 1) hx hb hts hi_X1_asHead_X1 hown hK hI.1 5 (cg_5 am cI cC cS st) rfl 0 (by decide) f_0 (fun _ h9 => h9) rfl dX1_asHead_2 ?_
  refine lv_ldc2 (v := (10 : Int64)) hx hb hown f_1 dX1_asHead_5 ?_
  refine lv_ladd hx hb dX1_asHead_8 ?_
  refine jput (D := D) (ci := 1) (v := .long (st.2 + (10 : Int64))) (ty := .long) (C := RX1) (T := TX1) (N := 1) (st2 := pT st (st.2 + (10 : Int64))) hx hb hts hi_X1_asHead_X1 tyX1 tyX1_ok nmX1 hown hK (cD hj) hI 5 (cg_5 am cI cC cS st) rfl 0 (by decide) f_0 (fun _ h9 => h9) rfl (by decide +kernel) rfl rfl (Nat.le_of_ble_eq_true rfl) (cs_5_0 am cI cC cS st _) dX1_asHead_9 (fun st1 est1 H locs hI => ?_)
  replace hM := nm_at est1 hM
  refine lv_aload_n hx hb dX1_asHead_12 rfl (lv_at hl 0 rfl) ?_
  refine lv_aload_n hx hb dX1_asHead_13 rfl (lv_at hl 1 rfl) ?_
  refine lv_aload_n hx hb dX1_asHead_14 rfl (lv_at hl 2 rfl) ?_
  refine lv_iload_n hx hb dX1_asHead_15 rfl (lv_at hl 3 rfl) ?_
  obtain ⟨v2, st3, hqv2, hM⟩ := bd_at hM
  refine jcallV (C := RX1) (As := [.ref (am r1), .ref (am r2), .int x3]) (rest := []) ⟨hx, hb, hml, hown, hts⟩ (jw_X1_asLimb D am cI cC cS hj N h1 h2 hqv2) (cwV 3 hts gX1_asHead_X1_asLimb rfl rfl rfl yd_X1_asLimb ⟨Nat.le_of_ble_eq_true rfl, Nat.le_of_ble_eq_true rfl⟩) hK hI 5 (cg_5 am cI cC cS st1) rfl rfl hl.1 rfl (Nat.le_of_ble_eq_true rfl) dX1_asHead_16 (fun H locs hI => ?_)
  refine W.eq (g2 := F0 m 19 ls [.int v2]) rfl ?_
  refine lv_aload_n hx hb dX1_asHead_19 rfl (lv_at hl 1 rfl) ?_
  refine va_get (D := D) (ci := 0) (v := .ref (am (r1 + 3))) (C := RX0) (T := TX0) (N := 11) hx hb hts hi_X1_asHead_X0 hown hK hI.1 r1 (cg_Doll am cI cC cS st3 h1) rfl 2 (by decide) f_2 (fun _ h9 => h9) rfl dX1_asHead_20 ?_
  refine lv_iload_n hx hb dX1_asHead_23 rfl (lv_at hl 3 rfl) ?_
  obtain ⟨g4, hM⟩ := gd_at hM
  refine va_iald hx hb hK hI.1 (r1 + 3) 0 (cg_Doll_weight am cI cC cS st3 h1) rfl (inB_vp g4) dX1_asHead_24 ?_
  refine lv_iadd hx hb dX1_asHead_25 ?_
  have hz := Option.some.inj hM
  exact W.iret hx hb hr (fun t ht hW => jq_i hK hI hz ht hW) hI.2.2.2 dX1_asHead_26
set_option maxRecDepth 20000 in
theorem hi_X1_asFoot_X1 : ∀ w ∈ wsX10, w ∈ wsX1_asFoot := by decide +kernel
set_option maxRecDepth 20000 in
theorem hi_X1_asFoot_X0 : ∀ w ∈ wsX00, w ∈ wsX1_asFoot := by decide +kernel
set_option maxHeartbeats 4000000 in
set_option maxRecDepth 100000 in
theorem jw_X1_asFoot {l : Launch} (D : va_G) (am : Nat → Nat) (cI cC cS : ClassId) (hj : aJ am 52) (N : Nat) {r1 : Nat} {r2 : Nat} {x3 : Int32} (h1 : ck_Doll r1) (h2 : ck_Pose r2) {st stZ : PS} {rZ : Int32} (hM : jm_X1_asFoot N r1 r2 x3 st = some (rZ, stZ)) : Met l yX1_asFoot wsX1_asFoot ({ frames := 4, cells := 0, slots := 0, locals := 92 }) (va_Pc [.ref (am 5), .ref (am r1), .ref (am r2), .int x3] (JH D (cW am cI cC cS) (cTy cI cC cS) st)) (JQ D (aA am 52) (cW am cI cC cS) (cTy cI cC cS) (some (.int rZ)) stZ) 0 0 (aA am 52) := by
  refine jStart (cc := cX1_asFoot) (maxL := 4) (ret := (some .int)) [.ref (am 5), .ref (am r1), .ref (am r2), .int x3] (by decide) rfl (Nat.le_of_ble_eq_true rfl) (fun p e s m below meth c ls hx hb hr hlocks hts hown hml hK hI hl => ?_)
  have hown : s.vm.findClass RX1 = some m.cls := hown
  replace hl : lv_has ls 4 [(0, .ref (am 5)), (1, .ref (am r1)), (2, .ref (am r2)), (3, .int x3)] := hl
  generalize hAV : ([.ref (am 5), .ref (am r1), .ref (am r2), .int x3] : List Value).toArray = AV at hts ⊢
  have f_0 := hts (.fieldLink RX1 7 "PuppetBar$Kinds" "trace" "J") (by decide +kernel)
  have f_1 := hts (.constantLong RX1 29 (100)) (by decide +kernel)
  have f_2 := hts (.fieldLink RX1 31 "PuppetBar$Doll" "bone" "[I") (by decide +kernel)
  unfold jm_X1_asFoot at hM
  refine lv_aload_n hx hb dX1_asFoot_0 rfl (lv_at hl 0 rfl) ?_
  refine lv_dup hx hb dX1_asFoot_1 rfl ?_
  refine va_get (D := D) (ci := 1) (v := .long st.2) (C := RX1) (T := TX1) (N := 1) hx hb hts hi_X1_asFoot_X1 hown hK hI.1 5 (cg_5 am cI cC cS st) rfl 0 (by decide) f_0 (fun _ h9 => h9) rfl dX1_asFoot_2 ?_
  refine lv_ldc2 (v := (100 : Int64)) hx hb hown f_1 dX1_asFoot_5 ?_
  refine lv_ladd hx hb dX1_asFoot_8 ?_
  refine jput (D := D) (ci := 1) (v := .long (st.2 + (100 : Int64))) (ty := .long) (C := RX1) (T := TX1) (N := 1) (st2 := pT st (st.2 + (100 : Int64))) hx hb hts hi_X1_asFoot_X1 tyX1 tyX1_ok nmX1 hown hK (cD hj) hI 5 (cg_5 am cI cC cS st) rfl 0 (by decide) f_0 (fun _ h9 => h9) rfl (by decide +kernel) rfl rfl (Nat.le_of_ble_eq_true rfl) (cs_5_0 am cI cC cS st _) dX1_asFoot_9 (fun st1 est1 H locs hI => ?_)
  replace hM := nm_at est1 hM
  refine lv_aload_n hx hb dX1_asFoot_12 rfl (lv_at hl 0 rfl) ?_
  refine lv_aload_n hx hb dX1_asFoot_13 rfl (lv_at hl 1 rfl) ?_
  refine lv_aload_n hx hb dX1_asFoot_14 rfl (lv_at hl 2 rfl) ?_
  refine lv_iload_n hx hb dX1_asFoot_15 rfl (lv_at hl 3 rfl) ?_
  obtain ⟨v2, st3, hqv2, hM⟩ := bd_at hM
  refine jcallV (C := RX1) (As := [.ref (am r1), .ref (am r2), .int x3]) (rest := []) ⟨hx, hb, hml, hown, hts⟩ (jw_X1_asLimb D am cI cC cS hj N h1 h2 hqv2) (cwV 3 hts gX1_asFoot_X1_asLimb rfl rfl rfl yd_X1_asLimb ⟨Nat.le_of_ble_eq_true rfl, Nat.le_of_ble_eq_true rfl⟩) hK hI 5 (cg_5 am cI cC cS st1) rfl rfl hl.1 rfl (Nat.le_of_ble_eq_true rfl) dX1_asFoot_16 (fun H locs hI => ?_)
  refine W.eq (g2 := F0 m 19 ls [.int v2]) rfl ?_
  refine lv_aload_n hx hb dX1_asFoot_19 rfl (lv_at hl 1 rfl) ?_
  refine va_get (D := D) (ci := 0) (v := .ref (am (r1 + 2))) (C := RX0) (T := TX0) (N := 11) hx hb hts hi_X1_asFoot_X0 hown hK hI.1 r1 (cg_Doll am cI cC cS st3 h1) rfl 1 (by decide) f_2 (fun _ h9 => h9) rfl dX1_asFoot_20 ?_
  refine lv_iload_n hx hb dX1_asFoot_23 rfl (lv_at hl 3 rfl) ?_
  obtain ⟨g4, hM⟩ := gd_at hM
  refine va_iald hx hb hK hI.1 (r1 + 2) 0 (cg_Doll_bone am cI cC cS st3 h1) rfl (inB_vp g4) dX1_asFoot_24 ?_
  refine lv_isub hx hb dX1_asFoot_25 ?_
  have hz := Option.some.inj hM
  exact W.iret hx hb hr (fun t ht hW => jq_i hK hI hz ht hW) hI.2.2.2 dX1_asFoot_26
set_option maxRecDepth 20000 in
theorem hi_X1_asCrown_X1 : ∀ w ∈ wsX10, w ∈ wsX1_asCrown := by decide +kernel
set_option maxHeartbeats 4000000 in
set_option maxRecDepth 100000 in
theorem jw_X1_asCrown {l : Launch} (D : va_G) (am : Nat → Nat) (cI cC cS : ClassId) (hj : aJ am 52) (N : Nat) {r1 : Nat} {r2 : Nat} {x3 : Int32} (h1 : ck_Doll r1) (h2 : ck_Pose r2) {st stZ : PS} {rZ : Int32} (hM : jm_X1_asCrown N r1 r2 x3 st = some (rZ, stZ)) : Met l yX1_asCrown wsX1_asCrown ({ frames := 5, cells := 0, slots := 0, locals := 115 }) (va_Pc [.ref (am 5), .ref (am r1), .ref (am r2), .int x3] (JH D (cW am cI cC cS) (cTy cI cC cS) st)) (JQ D (aA am 52) (cW am cI cC cS) (cTy cI cC cS) (some (.int rZ)) stZ) 0 0 (aA am 52) := by
  refine jStart (cc := cX1_asCrown) (maxL := 4) (ret := (some .int)) [.ref (am 5), .ref (am r1), .ref (am r2), .int x3] (by decide) rfl (Nat.le_of_ble_eq_true rfl) (fun p e s m below meth c ls hx hb hr hlocks hts hown hml hK hI hl => ?_)
  have hown : s.vm.findClass RX1 = some m.cls := hown
  replace hl : lv_has ls 4 [(0, .ref (am 5)), (1, .ref (am r1)), (2, .ref (am r2)), (3, .int x3)] := hl
  generalize hAV : ([.ref (am 5), .ref (am r1), .ref (am r2), .int x3] : List Value).toArray = AV at hts ⊢
  have f_0 := hts (.fieldLink RX1 7 "PuppetBar$Kinds" "trace" "J") (by decide +kernel)
  have f_1 := hts (.constantLong RX1 34 (1000)) (by decide +kernel)
  unfold jm_X1_asCrown at hM
  refine lv_aload_n hx hb dX1_asCrown_0 rfl (lv_at hl 0 rfl) ?_
  refine lv_dup hx hb dX1_asCrown_1 rfl ?_
  refine va_get (D := D) (ci := 1) (v := .long st.2) (C := RX1) (T := TX1) (N := 1) hx hb hts hi_X1_asCrown_X1 hown hK hI.1 5 (cg_5 am cI cC cS st) rfl 0 (by decide) f_0 (fun _ h9 => h9) rfl dX1_asCrown_2 ?_
  refine lv_ldc2 (v := (1000 : Int64)) hx hb hown f_1 dX1_asCrown_5 ?_
  refine lv_ladd hx hb dX1_asCrown_8 ?_
  refine jput (D := D) (ci := 1) (v := .long (st.2 + (1000 : Int64))) (ty := .long) (C := RX1) (T := TX1) (N := 1) (st2 := pT st (st.2 + (1000 : Int64))) hx hb hts hi_X1_asCrown_X1 tyX1 tyX1_ok nmX1 hown hK (cD hj) hI 5 (cg_5 am cI cC cS st) rfl 0 (by decide) f_0 (fun _ h9 => h9) rfl (by decide +kernel) rfl rfl (Nat.le_of_ble_eq_true rfl) (cs_5_0 am cI cC cS st _) dX1_asCrown_9 (fun st1 est1 H locs hI => ?_)
  replace hM := nm_at est1 hM
  refine lv_aload_n hx hb dX1_asCrown_12 rfl (lv_at hl 0 rfl) ?_
  refine lv_aload_n hx hb dX1_asCrown_13 rfl (lv_at hl 1 rfl) ?_
  refine lv_aload_n hx hb dX1_asCrown_14 rfl (lv_at hl 2 rfl) ?_
  refine lv_iload_n hx hb dX1_asCrown_15 rfl (lv_at hl 3 rfl) ?_
  obtain ⟨v2, st3, hqv2, hM⟩ := bd_at hM
  refine jcallV (C := RX1) (As := [.ref (am r1), .ref (am r2), .int x3]) (rest := []) ⟨hx, hb, hml, hown, hts⟩ (jw_X1_asHead D am cI cC cS hj N h1 h2 hqv2) (cwV 3 hts gX1_asCrown_X1_asHead rfl rfl rfl yd_X1_asHead ⟨Nat.le_of_ble_eq_true rfl, Nat.le_of_ble_eq_true rfl⟩) hK hI 5 (cg_5 am cI cC cS st1) rfl rfl hl.1 rfl (Nat.le_of_ble_eq_true rfl) dX1_asCrown_16 (fun H locs hI => ?_)
  refine W.eq (g2 := F0 m 19 ls [.int v2]) rfl ?_
  refine lv_iconst (v := (2 : Int32)) hx hb dX1_asCrown_19 (by decide) ?_
  refine lv_imul hx hb dX1_asCrown_20 ?_
  have hz := Option.some.inj hM
  exact W.iret hx hb hr (fun t ht hW => jq_i hK hI hz ht hW) hI.2.2.2 dX1_asCrown_21
set_option maxRecDepth 20000 in
theorem hi_X1_asToe_X1 : ∀ w ∈ wsX10, w ∈ wsX1_asToe := by decide +kernel
set_option maxHeartbeats 4000000 in
set_option maxRecDepth 100000 in
theorem jw_X1_asToe {l : Launch} (D : va_G) (am : Nat → Nat) (cI cC cS : ClassId) (hj : aJ am 52) (N : Nat) {r1 : Nat} {r2 : Nat} {x3 : Int32} (h1 : ck_Doll r1) (h2 : ck_Pose r2) {st stZ : PS} {rZ : Int32} (hM : jm_X1_asToe N r1 r2 x3 st = some (rZ, stZ)) : Met l yX1_asToe wsX1_asToe ({ frames := 5, cells := 0, slots := 0, locals := 115 }) (va_Pc [.ref (am 5), .ref (am r1), .ref (am r2), .int x3] (JH D (cW am cI cC cS) (cTy cI cC cS) st)) (JQ D (aA am 52) (cW am cI cC cS) (cTy cI cC cS) (some (.int rZ)) stZ) 0 0 (aA am 52) := by
  refine jStart (cc := cX1_asToe) (maxL := 4) (ret := (some .int)) [.ref (am 5), .ref (am r1), .ref (am r2), .int x3] (by decide) rfl (Nat.le_of_ble_eq_true rfl) (fun p e s m below meth c ls hx hb hr hlocks hts hown hml hK hI hl => ?_)
  have hown : s.vm.findClass RX1 = some m.cls := hown
  replace hl : lv_has ls 4 [(0, .ref (am 5)), (1, .ref (am r1)), (2, .ref (am r2)), (3, .int x3)] := hl
  generalize hAV : ([.ref (am 5), .ref (am r1), .ref (am r2), .int x3] : List Value).toArray = AV at hts ⊢
  have f_0 := hts (.fieldLink RX1 7 "PuppetBar$Kinds" "trace" "J") (by decide +kernel)
  have f_1 := hts (.constantLong RX1 39 (10000)) (by decide +kernel)
  unfold jm_X1_asToe at hM
  refine lv_aload_n hx hb dX1_asToe_0 rfl (lv_at hl 0 rfl) ?_
  refine lv_dup hx hb dX1_asToe_1 rfl ?_
  refine va_get (D := D) (ci := 1) (v := .long st.2) (C := RX1) (T := TX1) (N := 1) hx hb hts hi_X1_asToe_X1 hown hK hI.1 5 (cg_5 am cI cC cS st) rfl 0 (by decide) f_0 (fun _ h9 => h9) rfl dX1_asToe_2 ?_
  refine lv_ldc2 (v := (10000 : Int64)) hx hb hown f_1 dX1_asToe_5 ?_
  refine lv_ladd hx hb dX1_asToe_8 ?_
  refine jput (D := D) (ci := 1) (v := .long (st.2 + (10000 : Int64))) (ty := .long) (C := RX1) (T := TX1) (N := 1) (st2 := pT st (st.2 + (10000 : Int64))) hx hb hts hi_X1_asToe_X1 tyX1 tyX1_ok nmX1 hown hK (cD hj) hI 5 (cg_5 am cI cC cS st) rfl 0 (by decide) f_0 (fun _ h9 => h9) rfl (by decide +kernel) rfl rfl (Nat.le_of_ble_eq_true rfl) (cs_5_0 am cI cC cS st _) dX1_asToe_9 (fun st1 est1 H locs hI => ?_)
  replace hM := nm_at est1 hM
  refine lv_aload_n hx hb dX1_asToe_12 rfl (lv_at hl 0 rfl) ?_
  refine lv_aload_n hx hb dX1_asToe_13 rfl (lv_at hl 1 rfl) ?_
  refine lv_aload_n hx hb dX1_asToe_14 rfl (lv_at hl 2 rfl) ?_
  refine lv_iload_n hx hb dX1_asToe_15 rfl (lv_at hl 3 rfl) ?_
  obtain ⟨v2, st3, hqv2, hM⟩ := bd_at hM
  refine jcallV (C := RX1) (As := [.ref (am r1), .ref (am r2), .int x3]) (rest := []) ⟨hx, hb, hml, hown, hts⟩ (jw_X1_asFoot D am cI cC cS hj N h1 h2 hqv2) (cwV 3 hts gX1_asToe_X1_asFoot rfl rfl rfl yd_X1_asFoot ⟨Nat.le_of_ble_eq_true rfl, Nat.le_of_ble_eq_true rfl⟩) hK hI 5 (cg_5 am cI cC cS st1) rfl rfl hl.1 rfl (Nat.le_of_ble_eq_true rfl) dX1_asToe_16 (fun H locs hI => ?_)
  refine W.eq (g2 := F0 m 19 ls [.int v2]) rfl ?_
  refine lv_iload_n hx hb dX1_asToe_19 rfl (lv_at hl 3 rfl) ?_
  refine lv_iadd hx hb dX1_asToe_20 ?_
  have hz := Option.some.inj hM
  exact W.iret hx hb hr (fun t ht hW => jq_i hK hI hz ht hW) hI.2.2.2 dX1_asToe_21
set_option maxRecDepth 20000 in
theorem hi_X4_lift_X4 : ∀ w ∈ wsX40, w ∈ wsX4_lift := by decide +kernel
set_option maxHeartbeats 4000000 in
set_option maxRecDepth 100000 in
theorem jw_X4_lift {l : Launch} (D : va_G) (am : Nat → Nat) (cI cC cS : ClassId) (hj : aJ am 52) (N : Nat) {r0 : Nat} (h0 : ck_Pose r0) {st stZ : PS} {rZ : Int32} (hM : jm_X4_lift N r0 st = some (rZ, stZ)) : Met l yX4_lift wsX4_lift ({ frames := 0, cells := 0, slots := 0, locals := 0 }) (va_Pc [.ref (am r0)] (JH D (cW am cI cC cS) (cTy cI cC cS) st)) (JQ D (aA am 52) (cW am cI cC cS) (cTy cI cC cS) (some (.int rZ)) stZ) 0 0 (aA am 52) := by
  refine jStart (cc := cX4_lift) (maxL := 1) (ret := (some .int)) [.ref (am r0)] (by decide) rfl (Nat.le_of_ble_eq_true rfl) (fun p e s m below meth c ls hx hb hr hlocks hts hown hml hK hI hl => ?_)
  have hown : s.vm.findClass RX4 = some m.cls := hown
  replace hl : lv_has ls 1 [(0, .ref (am r0))] := hl
  generalize hAV : ([.ref (am r0)] : List Value).toArray = AV at hts ⊢
  have f_0 := hts (.fieldLink RX4 11 "PuppetBar$Pose" "row" "[I") (by decide +kernel)
  unfold jm_X4_lift at hM
  refine lv_aload_n hx hb dX4_lift_0 rfl (lv_at hl 0 rfl) ?_
  refine va_get (D := D) (ci := 4) (v := .ref (am (r0 + 1))) (C := RX4) (T := TX4) (N := 1) hx hb hts hi_X4_lift_X4 hown hK hI.1 r0 (cg_Pose am cI cC cS st h0) rfl 0 (by decide) f_0 (fun _ h9 => h9) rfl dX4_lift_1 ?_
  refine lv_iconst (v := (0 : Int32)) hx hb dX4_lift_4 (by decide) ?_
  refine va_iald hx hb hK hI.1 (r0 + 1) 0 (cg_Pose_row am cI cC cS st h0) rfl (inB_vp rfl) dX4_lift_5 ?_
  refine W.eq (g2 := F0 m 6 ls [.int (st.1 (r0 + 1) 0)]) rfl ?_
  have hz := Option.some.inj hM
  exact W.iret hx hb hr (fun t ht hW => jq_i hK hI hz ht hW) hI.2.2.2 dX4_lift_6
set_option maxRecDepth 20000 in
theorem hi_X1_asHand_X1 : ∀ w ∈ wsX10, w ∈ wsX1_asHand := by decide +kernel
set_option maxHeartbeats 4000000 in
set_option maxRecDepth 100000 in
theorem jw_X1_asHand {l : Launch} (D : va_G) (am : Nat → Nat) (cI cC cS : ClassId) (hj : aJ am 52) (N : Nat) {r1 : Nat} {r2 : Nat} {x3 : Int32} (h1 : ck_Doll r1) (h2 : ck_Pose r2) {st stZ : PS} {rZ : Int32} (hM : jm_X1_asHand N r1 r2 x3 st = some (rZ, stZ)) : Met l yX1_asHand wsX1_asHand ({ frames := 4, cells := 0, slots := 0, locals := 92 }) (va_Pc [.ref (am 5), .ref (am r1), .ref (am r2), .int x3] (JH D (cW am cI cC cS) (cTy cI cC cS) st)) (JQ D (aA am 52) (cW am cI cC cS) (cTy cI cC cS) (some (.int rZ)) stZ) 0 0 (aA am 52) := by
  refine jStart (cc := cX1_asHand) (maxL := 4) (ret := (some .int)) [.ref (am 5), .ref (am r1), .ref (am r2), .int x3] (by decide) rfl (Nat.le_of_ble_eq_true rfl) (fun p e s m below meth c ls hx hb hr hlocks hts hown hml hK hI hl => ?_)
  have hown : s.vm.findClass RX1 = some m.cls := hown
  replace hl : lv_has ls 4 [(0, .ref (am 5)), (1, .ref (am r1)), (2, .ref (am r2)), (3, .int x3)] := hl
  generalize hAV : ([.ref (am 5), .ref (am r1), .ref (am r2), .int x3] : List Value).toArray = AV at hts ⊢
  have f_0 := hts (.fieldLink RX1 7 "PuppetBar$Kinds" "trace" "J") (by decide +kernel)
  have f_1 := hts (.constantLong RX1 44 (100000)) (by decide +kernel)
  unfold jm_X1_asHand at hM
  refine lv_aload_n hx hb dX1_asHand_0 rfl (lv_at hl 0 rfl) ?_
  refine lv_dup hx hb dX1_asHand_1 rfl ?_
  refine va_get (D := D) (ci := 1) (v := .long st.2) (C := RX1) (T := TX1) (N := 1) hx hb hts hi_X1_asHand_X1 hown hK hI.1 5 (cg_5 am cI cC cS st) rfl 0 (by decide) f_0 (fun _ h9 => h9) rfl dX1_asHand_2 ?_
  refine lv_ldc2 (v := (100000 : Int64)) hx hb hown f_1 dX1_asHand_5 ?_
  refine lv_ladd hx hb dX1_asHand_8 ?_
  refine jput (D := D) (ci := 1) (v := .long (st.2 + (100000 : Int64))) (ty := .long) (C := RX1) (T := TX1) (N := 1) (st2 := pT st (st.2 + (100000 : Int64))) hx hb hts hi_X1_asHand_X1 tyX1 tyX1_ok nmX1 hown hK (cD hj) hI 5 (cg_5 am cI cC cS st) rfl 0 (by decide) f_0 (fun _ h9 => h9) rfl (by decide +kernel) rfl rfl (Nat.le_of_ble_eq_true rfl) (cs_5_0 am cI cC cS st _) dX1_asHand_9 (fun st1 est1 H locs hI => ?_)
  replace hM := nm_at est1 hM
  refine lv_aload_n hx hb dX1_asHand_12 rfl (lv_at hl 0 rfl) ?_
  refine lv_aload_n hx hb dX1_asHand_13 rfl (lv_at hl 1 rfl) ?_
  refine lv_aload_n hx hb dX1_asHand_14 rfl (lv_at hl 2 rfl) ?_
  refine lv_iload_n hx hb dX1_asHand_15 rfl (lv_at hl 3 rfl) ?_
  obtain ⟨v2, st3, hqv2, hM⟩ := bd_at hM
  refine jcallV (C := RX1) (As := [.ref (am r1), .ref (am r2), .int x3]) (rest := []) ⟨hx, hb, hml, hown, hts⟩ (jw_X1_asLimb D am cI cC cS hj N h1 h2 hqv2) (cwV 3 hts gX1_asHand_X1_asLimb rfl rfl rfl yd_X1_asLimb ⟨Nat.le_of_ble_eq_true rfl, Nat.le_of_ble_eq_true rfl⟩) hK hI 5 (cg_5 am cI cC cS st1) rfl rfl hl.1 rfl (Nat.le_of_ble_eq_true rfl) dX1_asHand_16 (fun H locs hI => ?_)
  refine W.eq (g2 := F0 m 19 ls [.int v2]) rfl ?_
  refine lv_aload_n hx hb dX1_asHand_19 rfl (lv_at hl 2 rfl) ?_
  obtain ⟨v4, st5, hqv4, hM⟩ := bd_at hM
  refine jcallV (C := RX4) (As := []) (rest := [.int v2]) ⟨hx, hb, hml, hown, hts⟩ (jw_X4_lift D am cI cC cS hj N h2 hqv4) (cwV 0 hts gX1_asHand_X4_lift rfl rfl rfl yd_X4_lift ⟨Nat.le_of_ble_eq_true rfl, Nat.le_of_ble_eq_true rfl⟩) hK hI r2 (cg_Pose am cI cC cS st3 h2) rfl rfl hl.1 rfl (Nat.le_of_ble_eq_true rfl) dX1_asHand_20 (fun H locs hI => ?_)
  refine W.eq (g2 := F0 m 23 ls [.int v4, .int v2]) rfl ?_
  refine lv_iadd hx hb dX1_asHand_23 ?_
  have hz := Option.some.inj hM
  exact W.iret hx hb hr (fun t ht hW => jq_i hK hI hz ht hW) hI.2.2.2 dX1_asHand_24
