set_option maxRecDepth 20000 in
theorem hi_X6_tell_X6 : ∀ w ∈ wsX60, w ∈ wsX6_tell := by decide +kernel
set_option maxRecDepth 20000 in
theorem hi_X6_tell_X0 : ∀ w ∈ wsX00, w ∈ wsX6_tell := by decide +kernel
set_option maxHeartbeats 4000000 in
set_option maxRecDepth 100000 in
theorem jw_X6_tell {l : Launch} (D : va_G) (am : Nat → Nat) (cI cC cS : ClassId) (hj : aJ am 52) (N : Nat) {x1 : Int32} {r2 : Nat} (h2 : ck_Doll r2) {st stZ : PS} {rZ : Unit} (hM : jm_X6_tell N x1 r2 st = some (rZ, stZ)) : Met l yX6_tell wsX6_tell ({ frames := 2, cells := 0, slots := 0, locals := 48 }) (va_Pc [.ref (am 1), .int x1, .ref (am r2)] (JH D (cW am cI cC cS) (cTy cI cC cS) st)) (JQ D (aA am 52) (cW am cI cC cS) (cTy cI cC cS) none stZ) 0 0 (aA am 52) := by
  refine jStart (cc := cX6_tell) (maxL := 3) (ret := none) [.ref (am 1), .int x1, .ref (am r2)] (by decide) rfl (Nat.le_of_ble_eq_true rfl) (fun p e s m below meth c ls hx hb hr hlocks hts hown hml hK hI hl => ?_)
  have hown : s.vm.findClass RX6 = some m.cls := hown
  replace hl : lv_has ls 3 [(0, .ref (am 1)), (1, .int x1), (2, .ref (am r2))] := hl
  generalize hAV : ([.ref (am 1), .int x1, .ref (am r2)] : List Value).toArray = AV at hts ⊢
  have f_0 := hts (.fieldLink RX6 15 "PuppetBar$Script" "told" "[I") (by decide +kernel)
  have f_1 := hts (.fieldLink RX6 101 "PuppetBar$Doll" "first" "LPuppetBar$Pose;") (by decide +kernel)
  have f_2 := hts (.fieldLink RX6 28 "PuppetBar$Script" "liftTold" "Z") (by decide +kernel)
  have f_3 := hts (.fieldLink RX6 32 "PuppetBar$Script" "tiltTold" "Z") (by decide +kernel)
  unfold jm_X6_tell at hM
  refine lv_iload_n hx hb dX6_tell_0 rfl (lv_at hl 1 rfl) ?_
  by_cases c1 : x1 = (98 : Int32)
  · replace hM := if_t c1 hM
    refine lv_lookup (off := 99) (tgt := 100) hx hb dX6_tell_1 (by decide) (by rw [c1]; decide) (by decide) ?_
    refine lv_aload_n hx hb dX6_tell_100 rfl (lv_at hl 2 rfl) ?_
    refine lv_aload_n hx hb dX6_tell_101 rfl (lv_at hl 0 rfl) ?_
    refine va_get (D := D) (ci := 6) (v := .ref (am 3)) (C := RX6) (T := TX6) (N := 9) hx hb hts hi_X6_tell_X6 hown hK hI.1 1 (cg_1 am cI cC cS st) rfl 6 (by decide) f_0 (fun _ h9 => h9) rfl dX6_tell_102 ?_
    refine lv_iconst (v := (0 : Int32)) hx hb dX6_tell_105 (by decide) ?_
    refine va_iald hx hb hK hI.1 3 0 (cg_3 am cI cC cS st) rfl (inB_vp rfl) dX6_tell_106 ?_
    refine W.eq (g2 := F0 m 107 ls [.int (st.1 3 0), .ref (am r2)]) rfl ?_
    refine lv_aload_n hx hb dX6_tell_107 rfl (lv_at hl 0 rfl) ?_
    refine va_get (D := D) (ci := 6) (v := .ref (am 3)) (C := RX6) (T := TX6) (N := 9) hx hb hts hi_X6_tell_X6 hown hK hI.1 1 (cg_1 am cI cC cS st) rfl 6 (by decide) f_0 (fun _ h9 => h9) rfl dX6_tell_108 ?_
    refine lv_iconst (v := (1 : Int32)) hx hb dX6_tell_111 (by decide) ?_
    refine va_iald hx hb hK hI.1 3 0 (cg_3 am cI cC cS st) rfl (inB_vp rfl) dX6_tell_112 ?_
    refine W.eq (g2 := F0 m 113 ls [.int (st.1 3 1), .int (st.1 3 0), .ref (am r2)]) rfl ?_
    refine lv_iconst (v := (3 : Int32)) hx hb dX6_tell_113 (by decide) ?_
    refine lv_isub hx hb dX6_tell_114 ?_
    obtain ⟨v2, st3, hqv2, hM⟩ := bd_at hM
    refine jcallV (C := RX0) (As := [.int (st.1 3 0), .int ((st.1 3 1) - (3 : Int32))]) (rest := []) ⟨hx, hb, hml, hown, hts⟩ (jw_X0_addBeat D am cI cC cS hj N h2 hqv2) (cwV 2 hts gX6_tell_X0_addBeat rfl rfl rfl yd_X0_addBeat ⟨Nat.le_of_ble_eq_true rfl, Nat.le_of_ble_eq_true rfl⟩) hK hI r2 (cg_Doll am cI cC cS st h2) rfl rfl hl.1 rfl (Nat.le_of_ble_eq_true rfl) dX6_tell_115 (fun H locs hI => ?_)
    refine W.eq (g2 := F0 m 118 ls []) rfl ?_
    refine lv_goto (tgt := 162) hx hb dX6_tell_118 (by decide) ?_
    have hz := Option.some.inj hM
    exact W.vret hx hb hr (fun t ht hW => jq_v hK hI hz ht hW) hI.2.2.2 dX6_tell_162
  · replace hM := if_f c1 hM
    by_cases c4 : x1 = (108 : Int32)
    · replace hM := if_t c4 hM
      refine lv_lookup (off := 43) (tgt := 44) hx hb dX6_tell_1 (by decide) (by rw [c4]; decide) (by decide) ?_
      refine lv_aload_n hx hb dX6_tell_44 rfl (lv_at hl 2 rfl) ?_
      refine lv_aload_n hx hb dX6_tell_45 rfl (lv_at hl 0 rfl) ?_
      refine va_get (D := D) (ci := 6) (v := .ref (am 3)) (C := RX6) (T := TX6) (N := 9) hx hb hts hi_X6_tell_X6 hown hK hI.1 1 (cg_1 am cI cC cS st) rfl 6 (by decide) f_0 (fun _ h9 => h9) rfl dX6_tell_46 ?_
      refine lv_iconst (v := (0 : Int32)) hx hb dX6_tell_49 (by decide) ?_
      refine va_iald hx hb hK hI.1 3 0 (cg_3 am cI cC cS st) rfl (inB_vp rfl) dX6_tell_50 ?_
      refine W.eq (g2 := F0 m 51 ls [.int (st.1 3 0), .ref (am r2)]) rfl ?_
      refine lv_aload_n hx hb dX6_tell_51 rfl (lv_at hl 0 rfl) ?_
      refine va_get (D := D) (ci := 6) (v := .ref (am 3)) (C := RX6) (T := TX6) (N := 9) hx hb hts hi_X6_tell_X6 hown hK hI.1 1 (cg_1 am cI cC cS st) rfl 6 (by decide) f_0 (fun _ h9 => h9) rfl dX6_tell_52 ?_
      refine lv_iconst (v := (1 : Int32)) hx hb dX6_tell_55 (by decide) ?_
      refine va_iald hx hb hK hI.1 3 0 (cg_3 am cI cC cS st) rfl (inB_vp rfl) dX6_tell_56 ?_
      refine W.eq (g2 := F0 m 57 ls [.int (st.1 3 1), .int (st.1 3 0), .ref (am r2)]) rfl ?_
      refine lv_aload_n hx hb dX6_tell_57 rfl (lv_at hl 0 rfl) ?_
      refine va_get (D := D) (ci := 6) (v := .ref (am 3)) (C := RX6) (T := TX6) (N := 9) hx hb hts hi_X6_tell_X6 hown hK hI.1 1 (cg_1 am cI cC cS st) rfl 6 (by decide) f_0 (fun _ h9 => h9) rfl dX6_tell_58 ?_
      refine lv_iconst (v := (2 : Int32)) hx hb dX6_tell_61 (by decide) ?_
      refine va_iald hx hb hK hI.1 3 0 (cg_3 am cI cC cS st) rfl (inB_vp rfl) dX6_tell_62 ?_
      refine W.eq (g2 := F0 m 63 ls [.int (st.1 3 2), .int (st.1 3 1), .int (st.1 3 0), .ref (am r2)]) rfl ?_
      obtain ⟨v5, st6, hqv5, hM⟩ := bd_at hM
      refine jcallV (C := RX0) (As := [.int (st.1 3 0), .int (st.1 3 1), .int (st.1 3 2)]) (rest := []) ⟨hx, hb, hml, hown, hts⟩ (jw_X0_addLimb D am cI cC cS hj N h2 hqv5) (cwV 3 hts gX6_tell_X0_addLimb rfl rfl rfl yd_X0_addLimb ⟨Nat.le_of_ble_eq_true rfl, Nat.le_of_ble_eq_true rfl⟩) hK hI r2 (cg_Doll am cI cC cS st h2) rfl rfl hl.1 rfl (Nat.le_of_ble_eq_true rfl) dX6_tell_63 (fun H locs hI => ?_)
      refine W.eq (g2 := F0 m 66 ls []) rfl ?_
      refine lv_goto (tgt := 162) hx hb dX6_tell_66 (by decide) ?_
      have hz := Option.some.inj hM
      exact W.vret hx hb hr (fun t ht hW => jq_v hK hI hz ht hW) hI.2.2.2 dX6_tell_162
    · replace hM := if_f c4 hM
      by_cases c7 : x1 = (115 : Int32)
      · replace hM := if_t c7 hM
        refine lv_lookup (off := 68) (tgt := 69) hx hb dX6_tell_1 (by decide) (by rw [c7]; decide) (by decide) ?_
        refine lv_aload_n hx hb dX6_tell_69 rfl (lv_at hl 2 rfl) ?_
        refine lv_aload_n hx hb dX6_tell_70 rfl (lv_at hl 0 rfl) ?_
        refine va_get (D := D) (ci := 6) (v := .ref (am 3)) (C := RX6) (T := TX6) (N := 9) hx hb hts hi_X6_tell_X6 hown hK hI.1 1 (cg_1 am cI cC cS st) rfl 6 (by decide) f_0 (fun _ h9 => h9) rfl dX6_tell_71 ?_
        refine lv_iconst (v := (0 : Int32)) hx hb dX6_tell_74 (by decide) ?_
        refine va_iald hx hb hK hI.1 3 0 (cg_3 am cI cC cS st) rfl (inB_vp rfl) dX6_tell_75 ?_
        refine W.eq (g2 := F0 m 76 ls [.int (st.1 3 0), .ref (am r2)]) rfl ?_
        refine lv_aload_n hx hb dX6_tell_76 rfl (lv_at hl 0 rfl) ?_
        refine va_get (D := D) (ci := 6) (v := .ref (am 3)) (C := RX6) (T := TX6) (N := 9) hx hb hts hi_X6_tell_X6 hown hK hI.1 1 (cg_1 am cI cC cS st) rfl 6 (by decide) f_0 (fun _ h9 => h9) rfl dX6_tell_77 ?_
        refine lv_iconst (v := (1 : Int32)) hx hb dX6_tell_80 (by decide) ?_
        refine va_iald hx hb hK hI.1 3 0 (cg_3 am cI cC cS st) rfl (inB_vp rfl) dX6_tell_81 ?_
        refine W.eq (g2 := F0 m 82 ls [.int (st.1 3 1), .int (st.1 3 0), .ref (am r2)]) rfl ?_
        refine lv_aload_n hx hb dX6_tell_82 rfl (lv_at hl 0 rfl) ?_
        refine va_get (D := D) (ci := 6) (v := .ref (am 3)) (C := RX6) (T := TX6) (N := 9) hx hb hts hi_X6_tell_X6 hown hK hI.1 1 (cg_1 am cI cC cS st) rfl 6 (by decide) f_0 (fun _ h9 => h9) rfl dX6_tell_83 ?_
        refine lv_iconst (v := (2 : Int32)) hx hb dX6_tell_86 (by decide) ?_
        refine va_iald hx hb hK hI.1 3 0 (cg_3 am cI cC cS st) rfl (inB_vp rfl) dX6_tell_87 ?_
        refine W.eq (g2 := F0 m 88 ls [.int (st.1 3 2), .int (st.1 3 1), .int (st.1 3 0), .ref (am r2)]) rfl ?_
        refine lv_aload_n hx hb dX6_tell_88 rfl (lv_at hl 0 rfl) ?_
        refine va_get (D := D) (ci := 6) (v := .ref (am 3)) (C := RX6) (T := TX6) (N := 9) hx hb hts hi_X6_tell_X6 hown hK hI.1 1 (cg_1 am cI cC cS st) rfl 6 (by decide) f_0 (fun _ h9 => h9) rfl dX6_tell_89 ?_
        refine lv_iconst (v := (3 : Int32)) hx hb dX6_tell_92 (by decide) ?_
        refine va_iald hx hb hK hI.1 3 0 (cg_3 am cI cC cS st) rfl (inB_vp rfl) dX6_tell_93 ?_
        refine W.eq (g2 := F0 m 94 ls [.int (st.1 3 3), .int (st.1 3 2), .int (st.1 3 1), .int (st.1 3 0), .ref (am r2)]) rfl ?_
        obtain ⟨v8, st9, hqv8, hM⟩ := bd_at hM
        refine jcallV (C := RX0) (As := [.int (st.1 3 0), .int (st.1 3 1), .int (st.1 3 2), .int (st.1 3 3)]) (rest := []) ⟨hx, hb, hml, hown, hts⟩ (jw_X0_addString D am cI cC cS hj N h2 hqv8) (cwV 4 hts gX6_tell_X0_addString rfl rfl rfl yd_X0_addString ⟨Nat.le_of_ble_eq_true rfl, Nat.le_of_ble_eq_true rfl⟩) hK hI r2 (cg_Doll am cI cC cS st h2) rfl rfl hl.1 rfl (Nat.le_of_ble_eq_true rfl) dX6_tell_94 (fun H locs hI => ?_)
        refine W.eq (g2 := F0 m 97 ls []) rfl ?_
        refine lv_goto (tgt := 162) hx hb dX6_tell_97 (by decide) ?_
        have hz := Option.some.inj hM
        exact W.vret hx hb hr (fun t ht hW => jq_v hK hI hz ht hW) hI.2.2.2 dX6_tell_162
      · replace hM := if_f c7 hM
        by_cases c10 : x1 = (117 : Int32)
        · replace hM := if_t c10 hM
          refine lv_lookup (off := 120) (tgt := 121) hx hb dX6_tell_1 (by decide) (by rw [c10]; decide) (by decide) ?_
          refine lv_aload_n hx hb dX6_tell_121 rfl (lv_at hl 2 rfl) ?_
          refine va_get (D := D) (ci := 0) (v := .ref (am (r2 + 8))) (C := RX0) (T := TX0) (N := 11) hx hb hts hi_X6_tell_X0 hown hK hI.1 r2 (cg_Doll am cI cC cS st h2) rfl 6 (by decide) f_1 (fun _ h9 => h9) rfl dX6_tell_122 ?_
          refine lv_aload_n hx hb dX6_tell_125 rfl (lv_at hl 0 rfl) ?_
          refine va_get (D := D) (ci := 6) (v := .ref (am 3)) (C := RX6) (T := TX6) (N := 9) hx hb hts hi_X6_tell_X6 hown hK hI.1 1 (cg_1 am cI cC cS st) rfl 6 (by decide) f_0 (fun _ h9 => h9) rfl dX6_tell_126 ?_
          refine lv_iconst (v := (0 : Int32)) hx hb dX6_tell_129 (by decide) ?_
          refine va_iald hx hb hK hI.1 3 0 (cg_3 am cI cC cS st) rfl (inB_vp rfl) dX6_tell_130 ?_
          refine W.eq (g2 := F0 m 131 ls [.int (st.1 3 0), .ref (am (r2 + 8))]) rfl ?_
          obtain ⟨v11, st12, hqv11, hM⟩ := bd_at hM
          refine jcallV (C := RX4) (As := [.int (st.1 3 0)]) (rest := []) ⟨hx, hb, hml, hown, hts⟩ (jw_X4_setLift D am cI cC cS hj N (ck_Doll_Pose h2) hqv11) (cwV 1 hts gX6_tell_X4_setLift rfl rfl rfl yd_X4_setLift ⟨Nat.le_of_ble_eq_true rfl, Nat.le_of_ble_eq_true rfl⟩) hK hI (r2 + 8) (cg_Pose am cI cC cS st (ck_Doll_Pose h2)) rfl rfl hl.1 rfl (Nat.le_of_ble_eq_true rfl) dX6_tell_131 (fun H locs hI => ?_)
          refine W.eq (g2 := F0 m 134 ls []) rfl ?_
          refine lv_aload_n hx hb dX6_tell_134 rfl (lv_at hl 0 rfl) ?_
          refine lv_iconst (v := (1 : Int32)) hx hb dX6_tell_135 (by decide) ?_
          refine jput (D := D) (ci := 6) (v := .int (1 : Int32)) (ty := .boolean) (C := RX6) (T := TX6) (N := 9) (st2 := pU st12 1 7 (1 : Int32)) hx hb hts hi_X6_tell_X6 tyX6 tyX6_ok nmX6 hown hK (cD hj) hI 1 (cg_1 am cI cC cS st12) rfl 7 (by decide) f_2 (fun _ h9 => h9) rfl (by decide +kernel) rfl rfl (Nat.le_of_ble_eq_true rfl) (cs_1_7 am cI cC cS st12 _) dX6_tell_136 (fun st13 est13 H locs hI => ?_)
          replace hM := nm_at est13 hM
          refine lv_goto (tgt := 162) hx hb dX6_tell_139 (by decide) ?_
          have hz := Option.some.inj hM
          exact W.vret hx hb hr (fun t ht hW => jq_v hK hI hz ht hW) hI.2.2.2 dX6_tell_162
        · replace hM := if_f c10 hM
          refine lv_lookup (off := 141) (tgt := 142) hx hb dX6_tell_1 (by decide) (lk_no (ne_ti c1) (lk_no (ne_ti c4) (lk_no (ne_ti c7) (lk_no (ne_ti c10) rfl)))) (by decide) ?_
          refine lv_aload_n hx hb dX6_tell_142 rfl (lv_at hl 2 rfl) ?_
          refine va_get (D := D) (ci := 0) (v := .ref (am (r2 + 8))) (C := RX0) (T := TX0) (N := 11) hx hb hts hi_X6_tell_X0 hown hK hI.1 r2 (cg_Doll am cI cC cS st h2) rfl 6 (by decide) f_1 (fun _ h9 => h9) rfl dX6_tell_143 ?_
          refine lv_aload_n hx hb dX6_tell_146 rfl (lv_at hl 0 rfl) ?_
          refine va_get (D := D) (ci := 6) (v := .ref (am 3)) (C := RX6) (T := TX6) (N := 9) hx hb hts hi_X6_tell_X6 hown hK hI.1 1 (cg_1 am cI cC cS st) rfl 6 (by decide) f_0 (fun _ h9 => h9) rfl dX6_tell_147 ?_
          refine lv_iconst (v := (0 : Int32)) hx hb dX6_tell_150 (by decide) ?_
          refine va_iald hx hb hK hI.1 3 0 (cg_3 am cI cC cS st) rfl (inB_vp rfl) dX6_tell_151 ?_
          refine W.eq (g2 := F0 m 152 ls [.int (st.1 3 0), .ref (am (r2 + 8))]) rfl ?_
          refine lv_iconst (v := (3 : Int32)) hx hb dX6_tell_152 (by decide) ?_
          refine lv_isub hx hb dX6_tell_153 ?_
          obtain ⟨v14, st15, hqv14, hM⟩ := bd_at hM
          refine jcallV (C := RX4) (As := [.int ((st.1 3 0) - (3 : Int32))]) (rest := []) ⟨hx, hb, hml, hown, hts⟩ (jw_X4_setTilt D am cI cC cS hj N (ck_Doll_Pose h2) hqv14) (cwV 1 hts gX6_tell_X4_setTilt rfl rfl rfl yd_X4_setTilt ⟨Nat.le_of_ble_eq_true rfl, Nat.le_of_ble_eq_true rfl⟩) hK hI (r2 + 8) (cg_Pose am cI cC cS st (ck_Doll_Pose h2)) rfl rfl hl.1 rfl (Nat.le_of_ble_eq_true rfl) dX6_tell_154 (fun H locs hI => ?_)
          refine W.eq (g2 := F0 m 157 ls []) rfl ?_
          refine lv_aload_n hx hb dX6_tell_157 rfl (lv_at hl 0 rfl) ?_
          refine lv_iconst (v := (1 : Int32)) hx hb dX6_tell_158 (by decide) ?_
          refine jput (D := D) (ci := 6) (v := .int (1 : Int32)) (ty := .boolean) (C := RX6) (T := TX6) (N := 9) (st2 := pU st15 1 8 (1 : Int32)) hx hb hts hi_X6_tell_X6 tyX6 tyX6_ok nmX6 hown hK (cD hj) hI 1 (cg_1 am cI cC cS st15) rfl 8 (by decide) f_3 (fun _ h9 => h9) rfl (by decide +kernel) rfl rfl (Nat.le_of_ble_eq_true rfl) (cs_1_8 am cI cC cS st15 _) dX6_tell_159 (fun st16 est16 H locs hI => ?_)
          replace hM := nm_at est16 hM
          have hz := Option.some.inj hM
          exact W.vret hx hb hr (fun t ht hW => jq_v hK hI hz ht hW) hI.2.2.2 dX6_tell_162
set_option maxRecDepth 20000 in
theorem hi_X6_readItem_X6 : ∀ w ∈ wsX60, w ∈ wsX6_readItem := by decide +kernel
set_option maxHeartbeats 4000000 in
set_option maxRecDepth 100000 in
theorem jw_X6_readItem {l : Launch} (D : va_G) (am : Nat → Nat) (cI cC cS : ClassId) (hj : aJ am 52) (N : Nat) {r1 : Nat} (h1 : ck_Doll r1) {st stZ : PS} {rZ : Int32} (hM : jm_X6_readItem N r1 st = some (rZ, stZ)) : Met l yX6_readItem wsX6_readItem ({ frames := 3, cells := 0, slots := 0, locals := 70 }) (va_Pc [.ref (am 1), .ref (am r1)] (JH D (cW am cI cC cS) (cTy cI cC cS) st)) (JQ D (aA am 52) (cW am cI cC cS) (cTy cI cC cS) (some (.int rZ)) stZ) 0 0 (aA am 52) := by
  refine jStart (cc := cX6_readItem) (maxL := 5) (ret := (some .boolean)) [.ref (am 1), .ref (am r1)] (by decide) rfl (Nat.le_of_ble_eq_true rfl) (fun p e s m below meth c ls hx hb hr hlocks hts hown hml hK hI hl => ?_)
  have hown : s.vm.findClass RX6 = some m.cls := hown
  replace hl : lv_has ls 5 [(0, .ref (am 1)), (1, .ref (am r1))] := hl
  generalize hAV : ([.ref (am 1), .ref (am r1)] : List Value).toArray = AV at hts ⊢
  have f_0 := hts (.fieldLink RX6 41 "PuppetBar$Script" "sort" "I") (by decide +kernel)
  have f_1 := hts (.fieldLink RX6 35 "PuppetBar$Script" "end" "I") (by decide +kernel)
  have f_2 := hts (.fieldLink RX6 48 "PuppetBar$Script" "begin" "I") (by decide +kernel)
  have f_3 := hts (.fieldLink RX6 11 "PuppetBar$Script" "bytes" "[C") (by decide +kernel)
  have f_4 := hts (.fieldLink RX6 59 "PuppetBar$Script" "value" "I") (by decide +kernel)
  have f_5 := hts (.fieldLink RX6 15 "PuppetBar$Script" "told" "[I") (by decide +kernel)
  unfold jm_X6_readItem at hM
  refine lv_aload_n hx hb dX6_readItem_0 rfl (lv_at hl 0 rfl) ?_
  refine va_get (D := D) (ci := 6) (v := .int (st.1 1 2)) (C := RX6) (T := TX6) (N := 9) hx hb hts hi_X6_readItem_X6 hown hK hI.1 1 (cg_1 am cI cC cS st) rfl 2 (by decide) f_0 (fun _ h9 => h9) rfl dX6_readItem_1 ?_
  refine lv_iconst (v := (1 : Int32)) hx hb dX6_readItem_4 (by decide) ?_
  refine lv_icmp_ne (tgt := 21) hx hb dX6_readItem_5 (by decide) (fun c1 => ?_) (fun c1 => ?_)
  · replace hM := if_f c1 hM
    refine lv_iconst (v := (0 : Int32)) hx hb dX6_readItem_21 (by decide) ?_
    have hz := Option.some.inj hM
    exact W.zret hx hb hr rfl (fun t ht hW => jq_i hK hI hz ht hW) hI.2.2.2 dX6_readItem_22
  · replace hM := if_t c1 hM
    refine lv_aload_n hx hb dX6_readItem_8 rfl (lv_at hl 0 rfl) ?_
    refine va_get (D := D) (ci := 6) (v := .int (st.1 1 4)) (C := RX6) (T := TX6) (N := 9) hx hb hts hi_X6_readItem_X6 hown hK hI.1 1 (cg_1 am cI cC cS st) rfl 4 (by decide) f_1 (fun _ h9 => h9) rfl dX6_readItem_9 ?_
    refine lv_aload_n hx hb dX6_readItem_12 rfl (lv_at hl 0 rfl) ?_
    refine va_get (D := D) (ci := 6) (v := .int (st.1 1 3)) (C := RX6) (T := TX6) (N := 9) hx hb hts hi_X6_readItem_X6 hown hK hI.1 1 (cg_1 am cI cC cS st) rfl 3 (by decide) f_2 (fun _ h9 => h9) rfl dX6_readItem_13 ?_
    refine lv_isub hx hb dX6_readItem_16 ?_
    refine lv_iconst (v := (1 : Int32)) hx hb dX6_readItem_17 (by decide) ?_
    refine lv_icmp_eq (tgt := 23) hx hb dX6_readItem_18 (by decide) (fun c2 => ?_) (fun c2 => ?_)
    · replace hM := if_t c2 hM
      refine lv_aload_n hx hb dX6_readItem_23 rfl (lv_at hl 0 rfl) ?_
      refine va_get (D := D) (ci := 6) (v := .ref (am 2)) (C := RX6) (T := TX6) (N := 9) hx hb hts hi_X6_readItem_X6 hown hK hI.1 1 (cg_1 am cI cC cS st) rfl 0 (by decide) f_3 (fun _ h9 => h9) rfl dX6_readItem_24 ?_
      refine lv_aload_n hx hb dX6_readItem_27 rfl (lv_at hl 0 rfl) ?_
      refine va_get (D := D) (ci := 6) (v := .int (st.1 1 3)) (C := RX6) (T := TX6) (N := 9) hx hb hts hi_X6_readItem_X6 hown hK hI.1 1 (cg_1 am cI cC cS st) rfl 3 (by decide) f_2 (fun _ h9 => h9) rfl dX6_readItem_28 ?_
      obtain ⟨g3, hM⟩ := gd_at hM
      refine va_cald hx hb hK hI.1 2 1 (cg_2 am cI cC cS st) rfl (inB_vp g3) dX6_readItem_31 ?_
      refine lv_istore_n (lv' := [(2, .int (st.1 2 ((st.1 1 3)).toNatClampNeg)), (0, .ref (am 1)), (1, .ref (am r1))]) hx hb dX6_readItem_32 rfl hl (by decide) rfl (fun ls hl => ?_)
      refine lv_aload_n hx hb dX6_readItem_33 rfl (lv_at hl 1 rfl) ?_
      refine lv_iload_n hx hb dX6_readItem_34 rfl (lv_at hl 0 rfl) ?_
      refine lv_aload_n hx hb dX6_readItem_35 rfl (lv_at hl 2 rfl) ?_
      obtain ⟨v4, st5, hqv4, hM⟩ := bd_at hM
      refine jcallV (C := RX6) (As := [.int (st.1 2 ((st.1 1 3)).toNatClampNeg), .ref (am r1)]) (rest := []) ⟨hx, hb, hml, hown, hts⟩ (jw_X6_mayBegin D am cI cC cS hj N h1 hqv4) (cwV 2 hts gX6_readItem_X6_mayBegin rfl rfl rfl yd_X6_mayBegin ⟨Nat.le_of_ble_eq_true rfl, Nat.le_of_ble_eq_true rfl⟩) hK hI 1 (cg_1 am cI cC cS st) rfl rfl hl.1 rfl (Nat.le_of_ble_eq_true rfl) dX6_readItem_36 (fun H locs hI => ?_)
      refine W.eq (g2 := F0 m 39 ls [.int v4]) rfl ?_
      refine lv_if_ne (tgt := 44) hx hb dX6_readItem_39 (by decide) (fun c6 => ?_) (fun c6 => ?_)
      · replace hM := if_f c6 hM
        refine lv_aload_n hx hb dX6_readItem_44 rfl (lv_at hl 1 rfl) ?_
        obtain ⟨v7, st8, hqv7, hM⟩ := bd_at hM
        refine jcallV (C := RX6) (As := []) (rest := []) ⟨hx, hb, hml, hown, hts⟩ (jw_X6_nextToken D am cI cC cS hj N hqv7) (cwV 0 hts gX6_readItem_X6_nextToken rfl rfl rfl yd_X6_nextToken ⟨Nat.le_of_ble_eq_true rfl, Nat.le_of_ble_eq_true rfl⟩) hK hI 1 (cg_1 am cI cC cS st5) rfl rfl hl.1 rfl (Nat.le_of_ble_eq_true rfl) dX6_readItem_45 (fun H locs hI => ?_)
        refine W.eq (g2 := F0 m 48 ls []) rfl ?_
        refine lv_iload_n hx hb dX6_readItem_48 rfl (lv_at hl 0 rfl) ?_
        obtain ⟨v9, st10, hqv9, hM⟩ := bd_at hM
        refine jcallS (As := [.int (st.1 2 ((st.1 1 3)).toNatClampNeg)]) (rest := []) ⟨hx, hb, hml, hown, hts⟩ (jw_X6_howManyNumbers D am cI cC cS hj N hqv9) (va_cwS 1 hts gX6_readItem_X6_howManyNumbers rfl rfl rfl yd_X6_howManyNumbers ⟨Nat.le_of_ble_eq_true rfl, Nat.le_of_ble_eq_true rfl⟩) hK hI rfl hl.1 rfl (Nat.le_of_ble_eq_true rfl) dX6_readItem_49 (fun H locs hI => ?_)
        refine W.eq (g2 := F0 m 52 ls [.int v9]) rfl ?_
        refine lv_istore_n (lv' := [(3, .int v9), (2, .int (st.1 2 ((st.1 1 3)).toNatClampNeg)), (0, .ref (am 1)), (1, .ref (am r1))]) hx hb dX6_readItem_52 rfl hl (by decide) rfl (fun ls hl => ?_)
        refine lv_iconst (v := (0 : Int32)) hx hb dX6_readItem_53 (by decide) ?_
        refine lv_istore (lv' := [(4, .int (0 : Int32)), (3, .int v9), (2, .int (st.1 2 ((st.1 1 3)).toNatClampNeg)), (0, .ref (am 1)), (1, .ref (am r1))]) hx hb dX6_readItem_54 hl (by decide) rfl (fun ls hl => ?_)
        obtain ⟨y11, ey11⟩ : ∃ z9 : Int32, z9 = (st.1 2 ((st.1 1 3)).toNatClampNeg) := ⟨_, rfl⟩
        rw [← ey11] at hl
        replace hM := nm_at ey11 hM
        have lp0 : ∀ (n : Nat) (w13 : Int32) (st12 : PS) (H : Heap) (locs : List Loc) (ls : Array Slot), JI D (aA am 52) (cW am cI cC cS) s.heap st12 H locs → lv_has ls 5 [(0, .ref (am 1)), (1, .ref (am r1)), (2, .int y11), (3, .int v9), (4, .int w13)] → iter (fun q => jm_X6_readItem_L56 N r1 v9 y11 q.1 q.2) n (w13, st12) = some (rZ, stZ) → W p l e (headSpec wsX6_readItem { frames := 3, cells := 0, slots := 0, locals := 70 }).room s m AV below meth c H locs 0 0 (MQ below (JQ D (aA am 52) (cW am cI cC cS) (cTy cI cC cS) (some (.int rZ)) stZ) AV s 0 0 (aA am 52)) (F0 m 56 ls []) := by
          intro n
          induction n with
          | zero =>
            intro _ _ _ _ _ _ _ hM
            exact absurd hM (fun h => iter_zero h)
          | succ n ih0 =>
            intro w13 st12 H locs ls hI hl hM
            obtain ⟨z0, hM, hk0⟩ := iter_succ hM
            replace hM : jm_X6_readItem_L56 N r1 v9 y11 w13 st12 = some z0 := hM
            unfold jm_X6_readItem_L56 at hM
            refine lv_iload hx hb dX6_readItem_56 (lv_at hl 4 rfl) ?_
            refine lv_iload_n hx hb dX6_readItem_58 rfl (lv_at hl 3 rfl) ?_
            refine lv_icmp_ge (tgt := 121) hx hb dX6_readItem_59 (by decide) (fun c14 => ?_) (fun c14 => ?_)
            · replace hM := if_t c14 hM
              refine lv_aload_n hx hb dX6_readItem_121 rfl (lv_at hl 0 rfl) ?_
              refine va_get (D := D) (ci := 6) (v := .int (st12.1 1 2)) (C := RX6) (T := TX6) (N := 9) hx hb hts hi_X6_readItem_X6 hown hK hI.1 1 (cg_1 am cI cC cS st12) rfl 2 (by decide) f_0 (fun _ h9 => h9) rfl dX6_readItem_122 ?_
              refine lv_iconst (v := (3 : Int32)) hx hb dX6_readItem_125 (by decide) ?_
              refine lv_icmp_eq (tgt := 131) hx hb dX6_readItem_126 (by decide) (fun c15 => ?_) (fun c15 => ?_)
              · replace hM := if_t c15 hM
                refine lv_aload_n hx hb dX6_readItem_131 rfl (lv_at hl 0 rfl) ?_
                obtain ⟨v16, st17, hqv16, hM⟩ := bd_at hM
                refine jcallV (C := RX6) (As := []) (rest := []) ⟨hx, hb, hml, hown, hts⟩ (jw_X6_nextToken D am cI cC cS hj N hqv16) (cwV 0 hts gX6_readItem_X6_nextToken rfl rfl rfl yd_X6_nextToken ⟨Nat.le_of_ble_eq_true rfl, Nat.le_of_ble_eq_true rfl⟩) hK hI 1 (cg_1 am cI cC cS st12) rfl rfl hl.1 rfl (Nat.le_of_ble_eq_true rfl) dX6_readItem_132 (fun H locs hI => ?_)
                refine W.eq (g2 := F0 m 135 ls []) rfl ?_
                refine lv_aload_n hx hb dX6_readItem_135 rfl (lv_at hl 0 rfl) ?_
                refine lv_iload_n hx hb dX6_readItem_136 rfl (lv_at hl 2 rfl) ?_
                refine lv_aload_n hx hb dX6_readItem_137 rfl (lv_at hl 1 rfl) ?_
                obtain ⟨v18, st19, hqv18, hM⟩ := bd_at hM
                refine jcallV (C := RX6) (As := [.int y11, .ref (am r1)]) (rest := []) ⟨hx, hb, hml, hown, hts⟩ (jw_X6_tell D am cI cC cS hj N h1 hqv18) (cwV 2 hts gX6_readItem_X6_tell rfl rfl rfl yd_X6_tell ⟨Nat.le_of_ble_eq_true rfl, Nat.le_of_ble_eq_true rfl⟩) hK hI 1 (cg_1 am cI cC cS st17) rfl rfl hl.1 rfl (Nat.le_of_ble_eq_true rfl) dX6_readItem_138 (fun H locs hI => ?_)
                refine W.eq (g2 := F0 m 141 ls []) rfl ?_
                refine lv_iconst (v := (1 : Int32)) hx hb dX6_readItem_141 (by decide) ?_
                have hz := Option.some.inj hM
                subst hz
                have hz := kn_r hk0
                exact W.zret hx hb hr rfl (fun t ht hW => jq_i hK hI hz ht hW) hI.2.2.2 dX6_readItem_142
              · replace hM := if_f c15 hM
                refine lv_iconst (v := (0 : Int32)) hx hb dX6_readItem_129 (by decide) ?_
                have hz := Option.some.inj hM
                subst hz
                have hz := kn_r hk0
                exact W.zret hx hb hr rfl (fun t ht hW => jq_i hK hI hz ht hW) hI.2.2.2 dX6_readItem_130
            · replace hM := if_f c14 hM
              refine lv_aload_n hx hb dX6_readItem_62 rfl (lv_at hl 0 rfl) ?_
              refine va_get (D := D) (ci := 6) (v := .int (st12.1 1 2)) (C := RX6) (T := TX6) (N := 9) hx hb hts hi_X6_readItem_X6 hown hK hI.1 1 (cg_1 am cI cC cS st12) rfl 2 (by decide) f_0 (fun _ h9 => h9) rfl dX6_readItem_63 ?_
              refine lv_iconst (v := (2 : Int32)) hx hb dX6_readItem_66 (by decide) ?_
              refine lv_icmp_ne (tgt := 98) hx hb dX6_readItem_67 (by decide) (fun c20 => ?_) (fun c20 => ?_)
              · replace hM := if_f c20 hM
                refine lv_iconst (v := (0 : Int32)) hx hb dX6_readItem_98 (by decide) ?_
                have hz := Option.some.inj hM
                subst hz
                have hz := kn_r hk0
                exact W.zret hx hb hr rfl (fun t ht hW => jq_i hK hI hz ht hW) hI.2.2.2 dX6_readItem_99
              · replace hM := if_t c20 hM
                refine lv_aload_n hx hb dX6_readItem_70 rfl (lv_at hl 0 rfl) ?_
                refine va_get (D := D) (ci := 6) (v := .int (st12.1 1 5)) (C := RX6) (T := TX6) (N := 9) hx hb hts hi_X6_readItem_X6 hown hK hI.1 1 (cg_1 am cI cC cS st12) rfl 5 (by decide) f_4 (fun _ h9 => h9) rfl dX6_readItem_71 ?_
                refine lv_iload_n hx hb dX6_readItem_74 rfl (lv_at hl 2 rfl) ?_
                refine lv_iload hx hb dX6_readItem_75 (lv_at hl 4 rfl) ?_
                refine lv_aload_n hx hb dX6_readItem_77 rfl (lv_at hl 1 rfl) ?_
                obtain ⟨v21, st22, hqv21, hM⟩ := bd_at hM
                refine jcallS (As := [.int y11, .int w13, .ref (am r1)]) (rest := [.int (st12.1 1 5)]) ⟨hx, hb, hml, hown, hts⟩ (jw_X6_least D am cI cC cS hj N h1 hqv21) (va_cwS 3 hts gX6_readItem_X6_least rfl rfl rfl yd_X6_least ⟨Nat.le_of_ble_eq_true rfl, Nat.le_of_ble_eq_true rfl⟩) hK hI rfl hl.1 rfl (Nat.le_of_ble_eq_true rfl) dX6_readItem_78 (fun H locs hI => ?_)
                refine W.eq (g2 := F0 m 81 ls [.int v21, .int (st12.1 1 5)]) rfl ?_
                refine lv_icmp_lt (tgt := 98) hx hb dX6_readItem_81 (by decide) (fun c23 => ?_) (fun c23 => ?_)
                · replace hM := if_t c23 hM
                  refine lv_iconst (v := (0 : Int32)) hx hb dX6_readItem_98 (by decide) ?_
                  have hz := Option.some.inj hM
                  subst hz
                  have hz := kn_r hk0
                  exact W.zret hx hb hr rfl (fun t ht hW => jq_i hK hI hz ht hW) hI.2.2.2 dX6_readItem_99
                · replace hM := if_f c23 hM
                  refine lv_aload_n hx hb dX6_readItem_84 rfl (lv_at hl 0 rfl) ?_
                  refine va_get (D := D) (ci := 6) (v := .int (st22.1 1 5)) (C := RX6) (T := TX6) (N := 9) hx hb hts hi_X6_readItem_X6 hown hK hI.1 1 (cg_1 am cI cC cS st22) rfl 5 (by decide) f_4 (fun _ h9 => h9) rfl dX6_readItem_85 ?_
                  refine lv_iload_n hx hb dX6_readItem_88 rfl (lv_at hl 2 rfl) ?_
                  refine lv_iload hx hb dX6_readItem_89 (lv_at hl 4 rfl) ?_
                  refine lv_aload_n hx hb dX6_readItem_91 rfl (lv_at hl 1 rfl) ?_
                  obtain ⟨v24, st25, hqv24, hM⟩ := bd_at hM
                  refine jcallS (As := [.int y11, .int w13, .ref (am r1)]) (rest := [.int (st22.1 1 5)]) ⟨hx, hb, hml, hown, hts⟩ (jw_X6_most D am cI cC cS hj N h1 hqv24) (va_cwS 3 hts gX6_readItem_X6_most rfl rfl rfl yd_X6_most ⟨Nat.le_of_ble_eq_true rfl, Nat.le_of_ble_eq_true rfl⟩) hK hI rfl hl.1 rfl (Nat.le_of_ble_eq_true rfl) dX6_readItem_92 (fun H locs hI => ?_)
                  refine W.eq (g2 := F0 m 95 ls [.int v24, .int (st22.1 1 5)]) rfl ?_
                  refine lv_icmp_le (tgt := 100) hx hb dX6_readItem_95 (by decide) (fun c26 => ?_) (fun c26 => ?_)
                  · replace hM := if_t c26 hM
                    refine lv_aload_n hx hb dX6_readItem_100 rfl (lv_at hl 0 rfl) ?_
                    refine va_get (D := D) (ci := 6) (v := .ref (am 3)) (C := RX6) (T := TX6) (N := 9) hx hb hts hi_X6_readItem_X6 hown hK hI.1 1 (cg_1 am cI cC cS st25) rfl 6 (by decide) f_5 (fun _ h9 => h9) rfl dX6_readItem_101 ?_
                    refine lv_iload hx hb dX6_readItem_104 (lv_at hl 4 rfl) ?_
                    refine lv_aload_n hx hb dX6_readItem_106 rfl (lv_at hl 0 rfl) ?_
                    refine va_get (D := D) (ci := 6) (v := .int (st25.1 1 5)) (C := RX6) (T := TX6) (N := 9) hx hb hts hi_X6_readItem_X6 hown hK hI.1 1 (cg_1 am cI cC cS st25) rfl 5 (by decide) f_4 (fun _ h9 => h9) rfl dX6_readItem_107 ?_
                    obtain ⟨g28, hM⟩ := gd_at hM
                    refine jiast (x := (st25.1 1 5)) (st2 := pU st25 3 (w13).toNatClampNeg ((st25.1 1 5))) hx hb hK (cD hj) hI 3 0 (cg_3 am cI cC cS st25) rfl (inB_vp g28) (cs_3 am cI cC cS st25 _) dX6_readItem_110 (fun st27 est27 H locs hI => ?_)
                    replace hM := nm_at est27 hM
                    refine lv_aload_n hx hb dX6_readItem_111 rfl (lv_at hl 0 rfl) ?_
                    obtain ⟨v29, st30, hqv29, hM⟩ := bd_at hM
                    refine jcallV (C := RX6) (As := []) (rest := []) ⟨hx, hb, hml, hown, hts⟩ (jw_X6_nextToken D am cI cC cS hj N hqv29) (cwV 0 hts gX6_readItem_X6_nextToken rfl rfl rfl yd_X6_nextToken ⟨Nat.le_of_ble_eq_true rfl, Nat.le_of_ble_eq_true rfl⟩) hK hI 1 (cg_1 am cI cC cS st27) rfl rfl hl.1 rfl (Nat.le_of_ble_eq_true rfl) dX6_readItem_112 (fun H locs hI => ?_)
                    refine W.eq (g2 := F0 m 115 ls []) rfl ?_
                    refine lv_iinc (v := (w13 + (1 : Int32))) (lv' := [(4, .int (w13 + (1 : Int32))), (0, .ref (am 1)), (1, .ref (am r1)), (2, .int y11), (3, .int v9)]) hx hb dX6_readItem_115 hl (k := 4) rfl rfl (by decide) rfl (fun ls hl => ?_)
                    refine lv_goto (tgt := 56) hx hb dX6_readItem_118 (by decide) ?_
                    have hz := Option.some.inj hM
                    subst hz
                    exact ih0 (w13 + (1 : Int32)) st30 _ _ _ hI (lv_sub hl [1, 2, 3, 4, 0] rfl) hk0
                  · replace hM := if_f c26 hM
                    refine lv_iconst (v := (0 : Int32)) hx hb dX6_readItem_98 (by decide) ?_
                    have hz := Option.some.inj hM
                    subst hz
                    have hz := kn_r hk0
                    exact W.zret hx hb hr rfl (fun t ht hW => jq_i hK hI hz ht hW) hI.2.2.2 dX6_readItem_99
        exact lp0 N (0 : Int32) st10 _ _ _ hI (lv_sub hl [3, 4, 2, 1, 0] rfl) hM
      · replace hM := if_t c6 hM
        refine lv_iconst (v := (0 : Int32)) hx hb dX6_readItem_42 (by decide) ?_
        have hz := Option.some.inj hM
        exact W.zret hx hb hr rfl (fun t ht hW => jq_i hK hI hz ht hW) hI.2.2.2 dX6_readItem_43
    · replace hM := if_f c2 hM
      refine lv_iconst (v := (0 : Int32)) hx hb dX6_readItem_21 (by decide) ?_
      have hz := Option.some.inj hM
      exact W.zret hx hb hr rfl (fun t ht hW => jq_i hK hI hz ht hW) hI.2.2.2 dX6_readItem_22
set_option maxRecDepth 20000 in
theorem hi_X6_readInto_X6 : ∀ w ∈ wsX60, w ∈ wsX6_readInto := by decide +kernel
set_option maxHeartbeats 4000000 in
set_option maxRecDepth 100000 in
theorem jw_X6_readInto {l : Launch} (D : va_G) (am : Nat → Nat) (cI cC cS : ClassId) (hj : aJ am 52) (N : Nat) {r1 : Nat} (h1 : ck_Doll r1) {st stZ : PS} {rZ : Int32} (hM : jm_X6_readInto N r1 st = some (rZ, stZ)) : Met l yX6_readInto wsX6_readInto ({ frames := 4, cells := 0, slots := 0, locals := 94 }) (va_Pc [.ref (am 1), .ref (am r1)] (JH D (cW am cI cC cS) (cTy cI cC cS) st)) (JQ D (aA am 52) (cW am cI cC cS) (cTy cI cC cS) (some (.int rZ)) stZ) 0 0 (aA am 52) := by
  refine jStart (cc := cX6_readInto) (maxL := 3) (ret := (some .int)) [.ref (am 1), .ref (am r1)] (by decide) rfl (Nat.le_of_ble_eq_true rfl) (fun p e s m below meth c ls hx hb hr hlocks hts hown hml hK hI hl => ?_)
  have hown : s.vm.findClass RX6 = some m.cls := hown
  replace hl : lv_has ls 3 [(0, .ref (am 1)), (1, .ref (am r1))] := hl
  generalize hAV : ([.ref (am 1), .ref (am r1)] : List Value).toArray = AV at hts ⊢
  have f_0 := hts (.fieldLink RX6 28 "PuppetBar$Script" "liftTold" "Z") (by decide +kernel)
  have f_1 := hts (.fieldLink RX6 32 "PuppetBar$Script" "tiltTold" "Z") (by decide +kernel)
  have f_2 := hts (.fieldLink RX6 35 "PuppetBar$Script" "end" "I") (by decide +kernel)
  have f_3 := hts (.fieldLink RX6 41 "PuppetBar$Script" "sort" "I") (by decide +kernel)
  have f_4 := hts (.fieldLink RX6 48 "PuppetBar$Script" "begin" "I") (by decide +kernel)
  unfold jm_X6_readInto at hM
  refine lv_aload_n hx hb dX6_readInto_0 rfl (lv_at hl 1 rfl) ?_
  obtain ⟨v1, st2, hqv1, hM⟩ := bd_at hM
  refine jcallV (C := RX0) (As := []) (rest := []) ⟨hx, hb, hml, hown, hts⟩ (jw_X0_empty D am cI cC cS hj N h1 hqv1) (cwV 0 hts gX6_readInto_X0_empty rfl rfl rfl yd_X0_empty ⟨Nat.le_of_ble_eq_true rfl, Nat.le_of_ble_eq_true rfl⟩) hK hI r1 (cg_Doll am cI cC cS st h1) rfl rfl hl.1 rfl (Nat.le_of_ble_eq_true rfl) dX6_readInto_1 (fun H locs hI => ?_)
  refine W.eq (g2 := F0 m 4 ls []) rfl ?_
  refine lv_aload_n hx hb dX6_readInto_4 rfl (lv_at hl 0 rfl) ?_
  refine lv_iconst (v := (0 : Int32)) hx hb dX6_readInto_5 (by decide) ?_
  refine jput (D := D) (ci := 6) (v := .int (0 : Int32)) (ty := .boolean) (C := RX6) (T := TX6) (N := 9) (st2 := pU st2 1 7 (0 : Int32)) hx hb hts hi_X6_readInto_X6 tyX6 tyX6_ok nmX6 hown hK (cD hj) hI 1 (cg_1 am cI cC cS st2) rfl 7 (by decide) f_0 (fun _ h9 => h9) rfl (by decide +kernel) rfl rfl (Nat.le_of_ble_eq_true rfl) (cs_1_7 am cI cC cS st2 _) dX6_readInto_6 (fun st3 est3 H locs hI => ?_)
  replace hM := nm_at est3 hM
  refine lv_aload_n hx hb dX6_readInto_9 rfl (lv_at hl 0 rfl) ?_
  refine lv_iconst (v := (0 : Int32)) hx hb dX6_readInto_10 (by decide) ?_
  refine jput (D := D) (ci := 6) (v := .int (0 : Int32)) (ty := .boolean) (C := RX6) (T := TX6) (N := 9) (st2 := pU st3 1 8 (0 : Int32)) hx hb hts hi_X6_readInto_X6 tyX6 tyX6_ok nmX6 hown hK (cD hj) hI 1 (cg_1 am cI cC cS st3) rfl 8 (by decide) f_1 (fun _ h9 => h9) rfl (by decide +kernel) rfl rfl (Nat.le_of_ble_eq_true rfl) (cs_1_8 am cI cC cS st3 _) dX6_readInto_11 (fun st4 est4 H locs hI => ?_)
  replace hM := nm_at est4 hM
  refine lv_aload_n hx hb dX6_readInto_14 rfl (lv_at hl 0 rfl) ?_
  refine lv_iconst (v := (0 : Int32)) hx hb dX6_readInto_15 (by decide) ?_
  refine jput (D := D) (ci := 6) (v := .int (0 : Int32)) (ty := .int) (C := RX6) (T := TX6) (N := 9) (st2 := pU st4 1 4 (0 : Int32)) hx hb hts hi_X6_readInto_X6 tyX6 tyX6_ok nmX6 hown hK (cD hj) hI 1 (cg_1 am cI cC cS st4) rfl 4 (by decide) f_2 (fun _ h9 => h9) rfl (by decide +kernel) rfl rfl (Nat.le_of_ble_eq_true rfl) (cs_1_4 am cI cC cS st4 _) dX6_readInto_16 (fun st5 est5 H locs hI => ?_)
  replace hM := nm_at est5 hM
  refine lv_aload_n hx hb dX6_readInto_19 rfl (lv_at hl 0 rfl) ?_
  obtain ⟨v6, st7, hqv6, hM⟩ := bd_at hM
  refine jcallV (C := RX6) (As := []) (rest := []) ⟨hx, hb, hml, hown, hts⟩ (jw_X6_nextToken D am cI cC cS hj N hqv6) (cwV 0 hts gX6_readInto_X6_nextToken rfl rfl rfl yd_X6_nextToken ⟨Nat.le_of_ble_eq_true rfl, Nat.le_of_ble_eq_true rfl⟩) hK hI 1 (cg_1 am cI cC cS st5) rfl rfl hl.1 rfl (Nat.le_of_ble_eq_true rfl) dX6_readInto_20 (fun H locs hI => ?_)
  refine W.eq (g2 := F0 m 23 ls []) rfl ?_
  refine lv_iconst (v := (0 : Int32)) hx hb dX6_readInto_23 (by decide) ?_
  refine lv_istore_n (lv' := [(2, .int (0 : Int32)), (0, .ref (am 1)), (1, .ref (am r1))]) hx hb dX6_readInto_24 rfl hl (by decide) rfl (fun ls hl => ?_)
  have lp0 : ∀ (n : Nat) (w9 : Int32) (st8 : PS) (H : Heap) (locs : List Loc) (ls : Array Slot), JI D (aA am 52) (cW am cI cC cS) s.heap st8 H locs → lv_has ls 3 [(0, .ref (am 1)), (1, .ref (am r1)), (2, .int w9)] → iter (fun q => jm_X6_readInto_L25 N r1 q.1 q.2) n (w9, st8) = some (rZ, stZ) → W p l e (headSpec wsX6_readInto { frames := 4, cells := 0, slots := 0, locals := 94 }).room s m AV below meth c H locs 0 0 (MQ below (JQ D (aA am 52) (cW am cI cC cS) (cTy cI cC cS) (some (.int rZ)) stZ) AV s 0 0 (aA am 52)) (F0 m 25 ls []) := by
    intro n
    induction n with
    | zero =>
      intro _ _ _ _ _ _ _ hM
      exact absurd hM (fun h => iter_zero h)
    | succ n ih0 =>
      intro w9 st8 H locs ls hI hl hM
      obtain ⟨z0, hM, hk0⟩ := iter_succ hM
      replace hM : jm_X6_readInto_L25 N r1 w9 st8 = some z0 := hM
      unfold jm_X6_readInto_L25 at hM
      refine lv_aload_n hx hb dX6_readInto_25 rfl (lv_at hl 0 rfl) ?_
      refine va_get (D := D) (ci := 6) (v := .int (st8.1 1 2)) (C := RX6) (T := TX6) (N := 9) hx hb hts hi_X6_readInto_X6 hown hK hI.1 1 (cg_1 am cI cC cS st8) rfl 2 (by decide) f_3 (fun _ h9 => h9) rfl dX6_readInto_26 ?_
      refine lv_if_eq (tgt := 61) hx hb dX6_readInto_29 (by decide) (fun c10 => ?_) (fun c10 => ?_)
      · replace hM := if_t c10 hM
        refine lv_iload_n hx hb dX6_readInto_61 rfl (lv_at hl 2 rfl) ?_
        have hz := Option.some.inj hM
        subst hz
        have hz := kn_r hk0
        exact W.iret hx hb hr (fun t ht hW => jq_i hK hI hz ht hW) hI.2.2.2 dX6_readInto_62
      · replace hM := if_f c10 hM
        refine lv_iload_n hx hb dX6_readInto_32 rfl (lv_at hl 2 rfl) ?_
        refine lv_sipush (v := (170 : Int32)) hx hb dX6_readInto_33 (by decide) ?_
        refine lv_icmp_ge (tgt := 61) hx hb dX6_readInto_36 (by decide) (fun c11 => ?_) (fun c11 => ?_)
        · replace hM := if_t c11 hM
          refine lv_iload_n hx hb dX6_readInto_61 rfl (lv_at hl 2 rfl) ?_
          have hz := Option.some.inj hM
          subst hz
          have hz := kn_r hk0
          exact W.iret hx hb hr (fun t ht hW => jq_i hK hI hz ht hW) hI.2.2.2 dX6_readInto_62
        · replace hM := if_f c11 hM
          refine lv_aload_n hx hb dX6_readInto_39 rfl (lv_at hl 0 rfl) ?_
          refine lv_aload_n hx hb dX6_readInto_40 rfl (lv_at hl 1 rfl) ?_
          obtain ⟨v12, st13, hqv12, hM⟩ := bd_at hM
          refine jcallV (C := RX6) (As := [.ref (am r1)]) (rest := []) ⟨hx, hb, hml, hown, hts⟩ (jw_X6_readItem D am cI cC cS hj N h1 hqv12) (cwV 1 hts gX6_readInto_X6_readItem rfl rfl rfl yd_X6_readItem ⟨Nat.le_of_ble_eq_true rfl, Nat.le_of_ble_eq_true rfl⟩) hK hI 1 (cg_1 am cI cC cS st8) rfl rfl hl.1 rfl (Nat.le_of_ble_eq_true rfl) dX6_readInto_41 (fun H locs hI => ?_)
          refine W.eq (g2 := F0 m 44 ls [.int v12]) rfl ?_
          refine lv_if_ne (tgt := 55) hx hb dX6_readInto_44 (by decide) (fun c14 => ?_) (fun c14 => ?_)
          · replace hM := if_f c14 hM
            refine lv_iinc (v := (w9 + (1 : Int32))) (lv' := [(2, .int (w9 + (1 : Int32))), (0, .ref (am 1)), (1, .ref (am r1))]) hx hb dX6_readInto_55 hl (k := 2) rfl rfl (by decide) rfl (fun ls hl => ?_)
            refine lv_goto (tgt := 25) hx hb dX6_readInto_58 (by decide) ?_
            have hz := Option.some.inj hM
            subst hz
            exact ih0 (w9 + (1 : Int32)) st13 _ _ _ hI (lv_sub hl [1, 2, 0] rfl) hk0
          · replace hM := if_t c14 hM
            refine lv_bipush (v := (-10 : Int32)) hx hb dX6_readInto_47 (by decide) ?_
            refine lv_aload_n hx hb dX6_readInto_49 rfl (lv_at hl 0 rfl) ?_
            refine va_get (D := D) (ci := 6) (v := .int (st13.1 1 3)) (C := RX6) (T := TX6) (N := 9) hx hb hts hi_X6_readInto_X6 hown hK hI.1 1 (cg_1 am cI cC cS st13) rfl 3 (by decide) f_4 (fun _ h9 => h9) rfl dX6_readInto_50 ?_
            refine lv_isub hx hb dX6_readInto_53 ?_
            have hz := Option.some.inj hM
            subst hz
            have hz := kn_r hk0
            exact W.iret hx hb hr (fun t ht hW => jq_i hK hI hz ht hW) hI.2.2.2 dX6_readInto_54
  exact lp0 N (0 : Int32) st7 _ _ _ hI (lv_sub hl [1, 2, 0] rfl) hM
set_option maxRecDepth 20000 in
theorem hi_X7_size_X7 : ∀ w ∈ wsX70, w ∈ wsX7_size := by decide +kernel
set_option maxHeartbeats 4000000 in
set_option maxRecDepth 100000 in
theorem jw_X7_size {l : Launch} (D : va_G) (am : Nat → Nat) (cI cC cS : ClassId) (hj : aJ am 52) (N : Nat) {st stZ : PS} {rZ : Int32} (hM : jm_X7_size N st = some (rZ, stZ)) : Met l yX7_size wsX7_size ({ frames := 0, cells := 0, slots := 0, locals := 0 }) (va_Pc [.ref (am 9)] (JH D (cW am cI cC cS) (cTy cI cC cS) st)) (JQ D (aA am 52) (cW am cI cC cS) (cTy cI cC cS) (some (.int rZ)) stZ) 0 0 (aA am 52) := by
  refine jStart (cc := cX7_size) (maxL := 1) (ret := (some .int)) [.ref (am 9)] (by decide) rfl (Nat.le_of_ble_eq_true rfl) (fun p e s m below meth c ls hx hb hr hlocks hts hown hml hK hI hl => ?_)
  have hown : s.vm.findClass RX7 = some m.cls := hown
  replace hl : lv_has ls 1 [(0, .ref (am 9))] := hl
  generalize hAV : ([.ref (am 9)] : List Value).toArray = AV at hts ⊢
  have f_0 := hts (.fieldLink RX7 28 "PuppetBar$Sight" "size" "I") (by decide +kernel)
  unfold jm_X7_size at hM
  refine lv_aload_n hx hb dX7_size_0 rfl (lv_at hl 0 rfl) ?_
  refine va_get (D := D) (ci := 7) (v := .int (st.1 9 4)) (C := RX7) (T := TX7) (N := 5) hx hb hts hi_X7_size_X7 hown hK hI.1 9 (cg_9 am cI cC cS st) rfl 4 (by decide) f_0 (fun _ h9 => h9) rfl dX7_size_1 ?_
  have hz := Option.some.inj hM
  exact W.iret hx hb hr (fun t ht hW => jq_i hK hI hz ht hW) hI.2.2.2 dX7_size_4
set_option maxRecDepth 20000 in
theorem hi_X7_add_X7 : ∀ w ∈ wsX70, w ∈ wsX7_add := by decide +kernel
set_option maxHeartbeats 4000000 in
set_option maxRecDepth 100000 in
theorem jw_X7_add {l : Launch} (D : va_G) (am : Nat → Nat) (cI cC cS : ClassId) (hj : aJ am 52) (N : Nat) {x1 : Int32} {x2 : Int32} {st stZ : PS} {rZ : Int32} (hM : jm_X7_add N x1 x2 st = some (rZ, stZ)) : Met l yX7_add wsX7_add ({ frames := 0, cells := 0, slots := 0, locals := 0 }) (va_Pc [.ref (am 9), .int x1, .int x2] (JH D (cW am cI cC cS) (cTy cI cC cS) st)) (JQ D (aA am 52) (cW am cI cC cS) (cTy cI cC cS) (some (.int rZ)) stZ) 0 0 (aA am 52) := by
  refine jStart (cc := cX7_add) (maxL := 3) (ret := (some .boolean)) [.ref (am 9), .int x1, .int x2] (by decide) rfl (Nat.le_of_ble_eq_true rfl) (fun p e s m below meth c ls hx hb hr hlocks hts hown hml hK hI hl => ?_)
  have hown : s.vm.findClass RX7 = some m.cls := hown
  replace hl : lv_has ls 3 [(0, .ref (am 9)), (1, .int x1), (2, .int x2)] := hl
  generalize hAV : ([.ref (am 9), .int x1, .int x2] : List Value).toArray = AV at hts ⊢
  have f_0 := hts (.fieldLink RX7 28 "PuppetBar$Sight" "size" "I") (by decide +kernel)
  have f_1 := hts (.fieldLink RX7 11 "PuppetBar$Sight" "limbs" "[I") (by decide +kernel)
  have f_2 := hts (.fieldLink RX7 15 "PuppetBar$Sight" "heights" "[I") (by decide +kernel)
  unfold jm_X7_add at hM
  refine lv_aload_n hx hb dX7_add_0 rfl (lv_at hl 0 rfl) ?_
  refine va_get (D := D) (ci := 7) (v := .int (st.1 9 4)) (C := RX7) (T := TX7) (N := 5) hx hb hts hi_X7_add_X7 hown hK hI.1 9 (cg_9 am cI cC cS st) rfl 4 (by decide) f_0 (fun _ h9 => h9) rfl dX7_add_1 ?_
  refine lv_bipush (v := (6 : Int32)) hx hb dX7_add_4 (by decide) ?_
  refine lv_icmp_lt (tgt := 11) hx hb dX7_add_6 (by decide) (fun c1 => ?_) (fun c1 => ?_)
  · replace hM := if_t c1 hM
    refine lv_aload_n hx hb dX7_add_11 rfl (lv_at hl 0 rfl) ?_
    refine va_get (D := D) (ci := 7) (v := .ref (am 10)) (C := RX7) (T := TX7) (N := 5) hx hb hts hi_X7_add_X7 hown hK hI.1 9 (cg_9 am cI cC cS st) rfl 0 (by decide) f_1 (fun _ h9 => h9) rfl dX7_add_12 ?_
    refine lv_aload_n hx hb dX7_add_15 rfl (lv_at hl 0 rfl) ?_
    refine va_get (D := D) (ci := 7) (v := .int (st.1 9 4)) (C := RX7) (T := TX7) (N := 5) hx hb hts hi_X7_add_X7 hown hK hI.1 9 (cg_9 am cI cC cS st) rfl 4 (by decide) f_0 (fun _ h9 => h9) rfl dX7_add_16 ?_
    refine lv_iload_n hx hb dX7_add_19 rfl (lv_at hl 1 rfl) ?_
    obtain ⟨g3, hM⟩ := gd_at hM
    refine jiast (x := x1) (st2 := pU st 10 ((st.1 9 4)).toNatClampNeg (x1)) hx hb hK (cD hj) hI 10 0 (cg_10 am cI cC cS st) rfl (inB_vp g3) (cs_10 am cI cC cS st _) dX7_add_20 (fun st2 est2 H locs hI => ?_)
    replace hM := nm_at est2 hM
    refine lv_aload_n hx hb dX7_add_21 rfl (lv_at hl 0 rfl) ?_
    refine va_get (D := D) (ci := 7) (v := .ref (am 11)) (C := RX7) (T := TX7) (N := 5) hx hb hts hi_X7_add_X7 hown hK hI.1 9 (cg_9 am cI cC cS st2) rfl 1 (by decide) f_2 (fun _ h9 => h9) rfl dX7_add_22 ?_
    refine lv_aload_n hx hb dX7_add_25 rfl (lv_at hl 0 rfl) ?_
    refine va_get (D := D) (ci := 7) (v := .int (st2.1 9 4)) (C := RX7) (T := TX7) (N := 5) hx hb hts hi_X7_add_X7 hown hK hI.1 9 (cg_9 am cI cC cS st2) rfl 4 (by decide) f_0 (fun _ h9 => h9) rfl dX7_add_26 ?_
    refine lv_iload_n hx hb dX7_add_29 rfl (lv_at hl 2 rfl) ?_
    obtain ⟨g5, hM⟩ := gd_at hM
    refine jiast (x := x2) (st2 := pU st2 11 ((st2.1 9 4)).toNatClampNeg (x2)) hx hb hK (cD hj) hI 11 0 (cg_11 am cI cC cS st2) rfl (inB_vp g5) (cs_11 am cI cC cS st2 _) dX7_add_30 (fun st4 est4 H locs hI => ?_)
    replace hM := nm_at est4 hM
    refine lv_aload_n hx hb dX7_add_31 rfl (lv_at hl 0 rfl) ?_
    refine lv_dup hx hb dX7_add_32 rfl ?_
    refine va_get (D := D) (ci := 7) (v := .int (st4.1 9 4)) (C := RX7) (T := TX7) (N := 5) hx hb hts hi_X7_add_X7 hown hK hI.1 9 (cg_9 am cI cC cS st4) rfl 4 (by decide) f_0 (fun _ h9 => h9) rfl dX7_add_33 ?_
    refine lv_iconst (v := (1 : Int32)) hx hb dX7_add_36 (by decide) ?_
    refine lv_iadd hx hb dX7_add_37 ?_
    refine jput (D := D) (ci := 7) (v := .int ((st4.1 9 4) + (1 : Int32))) (ty := .int) (C := RX7) (T := TX7) (N := 5) (st2 := pU st4 9 4 ((st4.1 9 4) + (1 : Int32))) hx hb hts hi_X7_add_X7 tyX7 tyX7_ok nmX7 hown hK (cD hj) hI 9 (cg_9 am cI cC cS st4) rfl 4 (by decide) f_0 (fun _ h9 => h9) rfl (by decide +kernel) rfl rfl (Nat.le_of_ble_eq_true rfl) (cs_9_4 am cI cC cS st4 _) dX7_add_38 (fun st6 est6 H locs hI => ?_)
    replace hM := nm_at est6 hM
    refine lv_iconst (v := (1 : Int32)) hx hb dX7_add_41 (by decide) ?_
    have hz := Option.some.inj hM
    exact W.zret hx hb hr rfl (fun t ht hW => jq_i hK hI hz ht hW) hI.2.2.2 dX7_add_42
  · replace hM := if_f c1 hM
    refine lv_iconst (v := (0 : Int32)) hx hb dX7_add_9 (by decide) ?_
    have hz := Option.some.inj hM
    exact W.zret hx hb hr rfl (fun t ht hW => jq_i hK hI hz ht hW) hI.2.2.2 dX7_add_10
set_option maxRecDepth 20000 in
theorem hi_X7_empty_X7 : ∀ w ∈ wsX70, w ∈ wsX7_empty := by decide +kernel
set_option maxHeartbeats 4000000 in
set_option maxRecDepth 100000 in
theorem jw_X7_empty {l : Launch} (D : va_G) (am : Nat → Nat) (cI cC cS : ClassId) (hj : aJ am 52) (N : Nat) {st stZ : PS} {rZ : Int32} (hM : jm_X7_empty N st = some (rZ, stZ)) : Met l yX7_empty wsX7_empty ({ frames := 0, cells := 0, slots := 0, locals := 0 }) (va_Pc [.ref (am 9)] (JH D (cW am cI cC cS) (cTy cI cC cS) st)) (JQ D (aA am 52) (cW am cI cC cS) (cTy cI cC cS) (some (.int rZ)) stZ) 0 0 (aA am 52) := by
  refine jStart (cc := cX7_empty) (maxL := 2) (ret := (some .int)) [.ref (am 9)] (by decide) rfl (Nat.le_of_ble_eq_true rfl) (fun p e s m below meth c ls hx hb hr hlocks hts hown hml hK hI hl => ?_)
  have hown : s.vm.findClass RX7 = some m.cls := hown
  replace hl : lv_has ls 2 [(0, .ref (am 9))] := hl
  generalize hAV : ([.ref (am 9)] : List Value).toArray = AV at hts ⊢
  have f_0 := hts (.fieldLink RX7 28 "PuppetBar$Sight" "size" "I") (by decide +kernel)
  unfold jm_X7_empty at hM
  refine lv_aload_n hx hb dX7_empty_0 rfl (lv_at hl 0 rfl) ?_
  refine va_get (D := D) (ci := 7) (v := .int (st.1 9 4)) (C := RX7) (T := TX7) (N := 5) hx hb hts hi_X7_empty_X7 hown hK hI.1 9 (cg_9 am cI cC cS st) rfl 4 (by decide) f_0 (fun _ h9 => h9) rfl dX7_empty_1 ?_
  refine lv_istore_n (lv' := [(1, .int (st.1 9 4)), (0, .ref (am 9))]) hx hb dX7_empty_4 rfl hl (by decide) rfl (fun ls hl => ?_)
  refine lv_aload_n hx hb dX7_empty_5 rfl (lv_at hl 1 rfl) ?_
  refine lv_iconst (v := (0 : Int32)) hx hb dX7_empty_6 (by decide) ?_
  refine jput (D := D) (ci := 7) (v := .int (0 : Int32)) (ty := .int) (C := RX7) (T := TX7) (N := 5) (st2 := pU st 9 4 (0 : Int32)) hx hb hts hi_X7_empty_X7 tyX7 tyX7_ok nmX7 hown hK (cD hj) hI 9 (cg_9 am cI cC cS st) rfl 4 (by decide) f_0 (fun _ h9 => h9) rfl (by decide +kernel) rfl rfl (Nat.le_of_ble_eq_true rfl) (cs_9_4 am cI cC cS st _) dX7_empty_7 (fun st1 est1 H locs hI => ?_)
  replace hM := nm_at est1 hM
  refine lv_iload_n hx hb dX7_empty_10 rfl (lv_at hl 0 rfl) ?_
  have hz := Option.some.inj hM
  exact W.iret hx hb hr (fun t ht hW => jq_i hK hI hz ht hW) hI.2.2.2 dX7_empty_11
set_option maxRecDepth 20000 in
theorem hi_X7_allIsSo_X7 : ∀ w ∈ wsX70, w ∈ wsX7_allIsSo := by decide +kernel
set_option maxHeartbeats 4000000 in
set_option maxRecDepth 100000 in
theorem jw_X7_allIsSo {l : Launch} (D : va_G) (am : Nat → Nat) (cI cC cS : ClassId) (hj : aJ am 52) (N : Nat) {r1 : Nat} {r2 : Nat} (h1 : ck_Doll r1) (h2 : ck_Pose r2) {st stZ : PS} {rZ : Int32} (hM : jm_X7_allIsSo N r1 r2 st = some (rZ, stZ)) : Met l yX7_allIsSo wsX7_allIsSo ({ frames := 3, cells := 0, slots := 0, locals := 69 }) (va_Pc [.ref (am 9), .ref (am r1), .ref (am r2)] (JH D (cW am cI cC cS) (cTy cI cC cS) st)) (JQ D (aA am 52) (cW am cI cC cS) (cTy cI cC cS) (some (.int rZ)) stZ) 0 0 (aA am 52) := by
  refine jStart (cc := cX7_allIsSo) (maxL := 4) (ret := (some .boolean)) [.ref (am 9), .ref (am r1), .ref (am r2)] (by decide) rfl (Nat.le_of_ble_eq_true rfl) (fun p e s m below meth c ls hx hb hr hlocks hts hown hml hK hI hl => ?_)
  have hown : s.vm.findClass RX7 = some m.cls := hown
  replace hl : lv_has ls 4 [(0, .ref (am 9)), (1, .ref (am r1)), (2, .ref (am r2))] := hl
  generalize hAV : ([.ref (am 9), .ref (am r1), .ref (am r2)] : List Value).toArray = AV at hts ⊢
  have f_0 := hts (.fieldLink RX7 28 "PuppetBar$Sight" "size" "I") (by decide +kernel)
  have f_1 := hts (.fieldLink RX7 11 "PuppetBar$Sight" "limbs" "[I") (by decide +kernel)
  have f_2 := hts (.fieldLink RX7 15 "PuppetBar$Sight" "heights" "[I") (by decide +kernel)
  unfold jm_X7_allIsSo at hM
  refine lv_iconst (v := (0 : Int32)) hx hb dX7_allIsSo_0 (by decide) ?_
  refine lv_istore_n (lv' := [(3, .int (0 : Int32)), (0, .ref (am 9)), (1, .ref (am r1)), (2, .ref (am r2))]) hx hb dX7_allIsSo_1 rfl hl (by decide) rfl (fun ls hl => ?_)
  have lp0 : ∀ (n : Nat) (w2 : Int32) (st1 : PS) (H : Heap) (locs : List Loc) (ls : Array Slot), JI D (aA am 52) (cW am cI cC cS) s.heap st1 H locs → lv_has ls 4 [(0, .ref (am 9)), (1, .ref (am r1)), (2, .ref (am r2)), (3, .int w2)] → iter (fun q => jm_X7_allIsSo_L2 N r1 r2 q.1 q.2) n (w2, st1) = some (rZ, stZ) → W p l e (headSpec wsX7_allIsSo { frames := 3, cells := 0, slots := 0, locals := 69 }).room s m AV below meth c H locs 0 0 (MQ below (JQ D (aA am 52) (cW am cI cC cS) (cTy cI cC cS) (some (.int rZ)) stZ) AV s 0 0 (aA am 52)) (F0 m 2 ls []) := by
    intro n
    induction n with
    | zero =>
      intro _ _ _ _ _ _ _ hM
      exact absurd hM (fun h => iter_zero h)
    | succ n ih0 =>
      intro w2 st1 H locs ls hI hl hM
      obtain ⟨z0, hM, hk0⟩ := iter_succ hM
      replace hM : jm_X7_allIsSo_L2 N r1 r2 w2 st1 = some z0 := hM
      unfold jm_X7_allIsSo_L2 at hM
      refine lv_iload_n hx hb dX7_allIsSo_2 rfl (lv_at hl 3 rfl) ?_
      refine lv_aload_n hx hb dX7_allIsSo_3 rfl (lv_at hl 0 rfl) ?_
      refine va_get (D := D) (ci := 7) (v := .int (st1.1 9 4)) (C := RX7) (T := TX7) (N := 5) hx hb hts hi_X7_allIsSo_X7 hown hK hI.1 9 (cg_9 am cI cC cS st1) rfl 4 (by decide) f_0 (fun _ h9 => h9) rfl dX7_allIsSo_4 ?_
      refine lv_icmp_ge (tgt := 38) hx hb dX7_allIsSo_7 (by decide) (fun c3 => ?_) (fun c3 => ?_)
      · replace hM := if_t c3 hM
        refine lv_iconst (v := (1 : Int32)) hx hb dX7_allIsSo_38 (by decide) ?_
        have hz := Option.some.inj hM
        subst hz
        have hz := kn_r hk0
        exact W.zret hx hb hr rfl (fun t ht hW => jq_i hK hI hz ht hW) hI.2.2.2 dX7_allIsSo_39
      · replace hM := if_f c3 hM
        refine lv_aload_n hx hb dX7_allIsSo_10 rfl (lv_at hl 1 rfl) ?_
        refine lv_aload_n hx hb dX7_allIsSo_11 rfl (lv_at hl 2 rfl) ?_
        refine lv_aload_n hx hb dX7_allIsSo_12 rfl (lv_at hl 0 rfl) ?_
        refine va_get (D := D) (ci := 7) (v := .ref (am 10)) (C := RX7) (T := TX7) (N := 5) hx hb hts hi_X7_allIsSo_X7 hown hK hI.1 9 (cg_9 am cI cC cS st1) rfl 0 (by decide) f_1 (fun _ h9 => h9) rfl dX7_allIsSo_13 ?_
        refine lv_iload_n hx hb dX7_allIsSo_16 rfl (lv_at hl 3 rfl) ?_
        obtain ⟨g4, hM⟩ := gd_at hM
        refine va_iald hx hb hK hI.1 10 0 (cg_10 am cI cC cS st1) rfl (inB_vp g4) dX7_allIsSo_17 ?_
        obtain ⟨v5, st6, hqv5, hM⟩ := bd_at hM
        refine jcallV (C := RX0) (As := [.ref (am r2), .int (st1.1 10 (w2).toNatClampNeg)]) (rest := []) ⟨hx, hb, hml, hown, hts⟩ (jw_X0_height D am cI cC cS hj N h1 h2 hqv5) (cwV 2 hts gX7_allIsSo_X0_height rfl rfl rfl yd_X0_height ⟨Nat.le_of_ble_eq_true rfl, Nat.le_of_ble_eq_true rfl⟩) hK hI r1 (cg_Doll am cI cC cS st1 h1) rfl rfl hl.1 rfl (Nat.le_of_ble_eq_true rfl) dX7_allIsSo_18 (fun H locs hI => ?_)
        refine W.eq (g2 := F0 m 21 ls [.int v5]) rfl ?_
        refine lv_aload_n hx hb dX7_allIsSo_21 rfl (lv_at hl 0 rfl) ?_
        refine va_get (D := D) (ci := 7) (v := .ref (am 11)) (C := RX7) (T := TX7) (N := 5) hx hb hts hi_X7_allIsSo_X7 hown hK hI.1 9 (cg_9 am cI cC cS st6) rfl 1 (by decide) f_2 (fun _ h9 => h9) rfl dX7_allIsSo_22 ?_
        refine lv_iload_n hx hb dX7_allIsSo_25 rfl (lv_at hl 3 rfl) ?_
        obtain ⟨g7, hM⟩ := gd_at hM
        refine va_iald hx hb hK hI.1 11 0 (cg_11 am cI cC cS st6) rfl (inB_vp g7) dX7_allIsSo_26 ?_
        refine lv_icmp_eq (tgt := 32) hx hb dX7_allIsSo_27 (by decide) (fun c8 => ?_) (fun c8 => ?_)
        · replace hM := if_t c8 hM
          refine lv_iinc (v := (w2 + (1 : Int32))) (lv' := [(3, .int (w2 + (1 : Int32))), (0, .ref (am 9)), (1, .ref (am r1)), (2, .ref (am r2))]) hx hb dX7_allIsSo_32 hl (k := 3) rfl rfl (by decide) rfl (fun ls hl => ?_)
          refine lv_goto (tgt := 2) hx hb dX7_allIsSo_35 (by decide) ?_
          have hz := Option.some.inj hM
          subst hz
          exact ih0 (w2 + (1 : Int32)) st6 _ _ _ hI (lv_sub hl [1, 2, 3, 0] rfl) hk0
        · replace hM := if_f c8 hM
          refine lv_iconst (v := (0 : Int32)) hx hb dX7_allIsSo_30 (by decide) ?_
          have hz := Option.some.inj hM
          subst hz
          have hz := kn_r hk0
          exact W.zret hx hb hr rfl (fun t ht hW => jq_i hK hI hz ht hW) hI.2.2.2 dX7_allIsSo_31
  exact lp0 N (0 : Int32) st _ _ _ hI (lv_sub hl [1, 2, 3, 0] rfl) hM
set_option maxRecDepth 20000 in
theorem hi_X7_tryGuess_X7 : ∀ w ∈ wsX70, w ∈ wsX7_tryGuess := by decide +kernel
set_option maxHeartbeats 4000000 in
set_option maxRecDepth 100000 in
theorem jw_X7_tryGuess {l : Launch} (D : va_G) (am : Nat → Nat) (cI cC cS : ClassId) (hj : aJ am 52) (N : Nat) {r1 : Nat} {x2 : Int32} (h1 : ck_Pose r1) {st stZ : PS} {rZ : Unit} (hM : jm_X7_tryGuess N r1 x2 st = some (rZ, stZ)) : Met l yX7_tryGuess wsX7_tryGuess ({ frames := 2, cells := 0, slots := 0, locals := 47 }) (va_Pc [.ref (am 9), .ref (am r1), .int x2] (JH D (cW am cI cC cS) (cTy cI cC cS) st)) (JQ D (aA am 52) (cW am cI cC cS) (cTy cI cC cS) none stZ) 0 0 (aA am 52) := by
  refine jStart (cc := cX7_tryGuess) (maxL := 3) (ret := none) [.ref (am 9), .ref (am r1), .int x2] (by decide) rfl (Nat.le_of_ble_eq_true rfl) (fun p e s m below meth c ls hx hb hr hlocks hts hown hml hK hI hl => ?_)
  have hown : s.vm.findClass RX7 = some m.cls := hown
  replace hl : lv_has ls 3 [(0, .ref (am 9)), (1, .ref (am r1)), (2, .int x2)] := hl
  generalize hAV : ([.ref (am 9), .ref (am r1), .int x2] : List Value).toArray = AV at hts ⊢
  have f_0 := hts (.fieldLink RX7 24 "PuppetBar$Sight" "trial" "LPuppetBar$Pose;") (by decide +kernel)
  unfold jm_X7_tryGuess at hM
  refine lv_aload_n hx hb dX7_tryGuess_0 rfl (lv_at hl 0 rfl) ?_
  refine va_get (D := D) (ci := 7) (v := .ref (am 13)) (C := RX7) (T := TX7) (N := 5) hx hb hts hi_X7_tryGuess_X7 hown hK hI.1 9 (cg_9 am cI cC cS st) rfl 3 (by decide) f_0 (fun _ h9 => h9) rfl dX7_tryGuess_1 ?_
  refine lv_aload_n hx hb dX7_tryGuess_4 rfl (lv_at hl 1 rfl) ?_
  obtain ⟨v1, st2, hqv1, hM⟩ := bd_at hM
  refine jcallV (C := RX4) (As := [.ref (am r1)]) (rest := []) ⟨hx, hb, hml, hown, hts⟩ (jw_X4_copyFrom D am cI cC cS hj N (show ck_Pose 13 by decide) h1 hqv1) (cwV 1 hts gX7_tryGuess_X4_copyFrom rfl rfl rfl yd_X4_copyFrom ⟨Nat.le_of_ble_eq_true rfl, Nat.le_of_ble_eq_true rfl⟩) hK hI 13 (cg_13 am cI cC cS st) rfl rfl hl.1 rfl (Nat.le_of_ble_eq_true rfl) dX7_tryGuess_5 (fun H locs hI => ?_)
  refine W.eq (g2 := F0 m 8 ls []) rfl ?_
  refine lv_iload_n hx hb dX7_tryGuess_8 rfl (lv_at hl 2 rfl) ?_
  refine lv_bipush (v := (6 : Int32)) hx hb dX7_tryGuess_9 (by decide) ?_
  refine lv_icmp_eq (tgt := 29) hx hb dX7_tryGuess_11 (by decide) (fun c3 => ?_) (fun c3 => ?_)
  · replace hM := if_t c3 hM
    have hz := Option.some.inj hM
    exact W.vret hx hb hr (fun t ht hW => jq_v hK hI hz ht hW) hI.2.2.2 dX7_tryGuess_29
  · replace hM := if_f c3 hM
    refine lv_aload_n hx hb dX7_tryGuess_14 rfl (lv_at hl 0 rfl) ?_
    refine va_get (D := D) (ci := 7) (v := .ref (am 13)) (C := RX7) (T := TX7) (N := 5) hx hb hts hi_X7_tryGuess_X7 hown hK hI.1 9 (cg_9 am cI cC cS st2) rfl 3 (by decide) f_0 (fun _ h9 => h9) rfl dX7_tryGuess_15 ?_
    refine lv_aload_n hx hb dX7_tryGuess_18 rfl (lv_at hl 1 rfl) ?_
    obtain ⟨v4, st5, hqv4, hM⟩ := bd_at hM
    refine jcallV (C := RX4) (As := []) (rest := [.ref (am 13)]) ⟨hx, hb, hml, hown, hts⟩ (jw_X4_cut D am cI cC cS hj N h1 hqv4) (cwV 0 hts gX7_tryGuess_X4_cut rfl rfl rfl yd_X4_cut ⟨Nat.le_of_ble_eq_true rfl, Nat.le_of_ble_eq_true rfl⟩) hK hI r1 (cg_Pose am cI cC cS st2 h1) rfl rfl hl.1 rfl (Nat.le_of_ble_eq_true rfl) dX7_tryGuess_19 (fun H locs hI => ?_)
    refine W.eq (g2 := F0 m 22 ls [.int v4, .ref (am 13)]) rfl ?_
    refine lv_iconst (v := (1 : Int32)) hx hb dX7_tryGuess_22 (by decide) ?_
    refine lv_iload_n hx hb dX7_tryGuess_23 rfl (lv_at hl 2 rfl) ?_
    refine lv_ishl hx hb dX7_tryGuess_24 ?_
    refine lv_ior hx hb dX7_tryGuess_25 ?_
    obtain ⟨v6, st7, hqv6, hM⟩ := bd_at hM
    refine jcallV (C := RX4) (As := [.int (v4 ||| ((1 : Int32) <<< (x2 &&& 31)))]) (rest := []) ⟨hx, hb, hml, hown, hts⟩ (jw_X4_setCut D am cI cC cS hj N (show ck_Pose 13 by decide) hqv6) (cwV 1 hts gX7_tryGuess_X4_setCut rfl rfl rfl yd_X4_setCut ⟨Nat.le_of_ble_eq_true rfl, Nat.le_of_ble_eq_true rfl⟩) hK hI 13 (cg_13 am cI cC cS st5) rfl rfl hl.1 rfl (Nat.le_of_ble_eq_true rfl) dX7_tryGuess_26 (fun H locs hI => ?_)
    refine W.eq (g2 := F0 m 29 ls []) rfl ?_
    have hz := Option.some.inj hM
    exact W.vret hx hb hr (fun t ht hW => jq_v hK hI hz ht hW) hI.2.2.2 dX7_tryGuess_29
set_option maxRecDepth 20000 in
theorem hi_X7_suspected_X7 : ∀ w ∈ wsX70, w ∈ wsX7_suspected := by decide +kernel
set_option maxRecDepth 20000 in
theorem hi_X7_suspected_X0 : ∀ w ∈ wsX00, w ∈ wsX7_suspected := by decide +kernel
set_option maxHeartbeats 4000000 in
set_option maxRecDepth 100000 in
theorem jw_X7_suspected {l : Launch} (D : va_G) (am : Nat → Nat) (cI cC cS : ClassId) (hj : aJ am 52) (N : Nat) {r1 : Nat} {r2 : Nat} (h1 : ck_Doll r1) (h2 : ck_Pose r2) {st stZ : PS} {rZ : Int32} (hM : jm_X7_suspected N r1 r2 st = some (rZ, stZ)) : Met l yX7_suspected wsX7_suspected ({ frames := 4, cells := 0, slots := 0, locals := 92 }) (va_Pc [.ref (am 9), .ref (am r1), .ref (am r2)] (JH D (cW am cI cC cS) (cTy cI cC cS) st)) (JQ D (aA am 52) (cW am cI cC cS) (cTy cI cC cS) (some (.int rZ)) stZ) 0 0 (aA am 52) := by
  refine jStart (cc := cX7_suspected) (maxL := 6) (ret := (some .int)) [.ref (am 9), .ref (am r1), .ref (am r2)] (by decide) rfl (Nat.le_of_ble_eq_true rfl) (fun p e s m below meth c ls hx hb hr hlocks hts hown hml hK hI hl => ?_)
  have hown : s.vm.findClass RX7 = some m.cls := hown
  replace hl : lv_has ls 6 [(0, .ref (am 9)), (1, .ref (am r1)), (2, .ref (am r2))] := hl
  generalize hAV : ([.ref (am 9), .ref (am r1), .ref (am r2)] : List Value).toArray = AV at hts ⊢
  have f_0 := hts (.fieldLink RX7 24 "PuppetBar$Sight" "trial" "LPuppetBar$Pose;") (by decide +kernel)
  have f_1 := hts (.fieldLink RX7 50 "PuppetBar$Doll" "strings" "I") (by decide +kernel)
  unfold jm_X7_suspected at hM
  refine lv_iconst (v := (0 : Int32)) hx hb dX7_suspected_0 (by decide) ?_
  refine lv_istore_n (lv' := [(3, .int (0 : Int32)), (0, .ref (am 9)), (1, .ref (am r1)), (2, .ref (am r2))]) hx hb dX7_suspected_1 rfl hl (by decide) rfl (fun ls hl => ?_)
  refine lv_iconst (v := (0 : Int32)) hx hb dX7_suspected_2 (by decide) ?_
  refine lv_istore (lv' := [(4, .int (0 : Int32)), (3, .int (0 : Int32)), (0, .ref (am 9)), (1, .ref (am r1)), (2, .ref (am r2))]) hx hb dX7_suspected_3 hl (by decide) rfl (fun ls hl => ?_)
  have lp0 : ∀ (n : Nat) (w2 : Int32) (w3 : Int32) (st1 : PS) (H : Heap) (locs : List Loc) (ls : Array Slot), JI D (aA am 52) (cW am cI cC cS) s.heap st1 H locs → lv_has ls 6 [(0, .ref (am 9)), (1, .ref (am r1)), (2, .ref (am r2)), (3, .int w2), (4, .int w3)] → iter (fun q => jm_X7_suspected_L5 N r1 r2 q.1 q.2.1 q.2.2) n (w2, w3, st1) = some (rZ, stZ) → W p l e (headSpec wsX7_suspected { frames := 4, cells := 0, slots := 0, locals := 92 }).room s m AV below meth c H locs 0 0 (MQ below (JQ D (aA am 52) (cW am cI cC cS) (cTy cI cC cS) (some (.int rZ)) stZ) AV s 0 0 (aA am 52)) (F0 m 5 ls []) := by
    intro n
    induction n with
    | zero =>
      intro _ _ _ _ _ _ _ _ hM
      exact absurd hM (fun h => iter_zero h)
    | succ n ih0 =>
      intro w2 w3 st1 H locs ls hI hl hM
      obtain ⟨z0, hM, hk0⟩ := iter_succ hM
      replace hM : jm_X7_suspected_L5 N r1 r2 w2 w3 st1 = some z0 := hM
      unfold jm_X7_suspected_L5 at hM
      refine lv_iload hx hb dX7_suspected_5 (lv_at hl 4 rfl) ?_
      refine lv_bipush (v := (7 : Int32)) hx hb dX7_suspected_7 (by decide) ?_
      refine lv_icmp_ge (tgt := 81) hx hb dX7_suspected_9 (by decide) (fun c4 => ?_) (fun c4 => ?_)
      · replace hM := if_t c4 hM
        refine lv_iload_n hx hb dX7_suspected_81 rfl (lv_at hl 3 rfl) ?_
        have hz := Option.some.inj hM
        subst hz
        have hz := kn_r hk0
        exact W.iret hx hb hr (fun t ht hW => jq_i hK hI hz ht hW) hI.2.2.2 dX7_suspected_82
      · replace hM := if_f c4 hM
        refine lv_iload hx hb dX7_suspected_12 (lv_at hl 4 rfl) ?_
        refine lv_bipush (v := (6 : Int32)) hx hb dX7_suspected_14 (by decide) ?_
        refine lv_icmp_eq (tgt := 37) hx hb dX7_suspected_16 (by decide) (fun c5 => ?_) (fun c5 => ?_)
        · replace hM := if_t c5 hM
          refine lv_iconst (v := (1 : Int32)) hx hb dX7_suspected_37 (by decide) ?_
          refine lv_goto (tgt := 42) hx hb dX7_suspected_38 (by decide) ?_
          refine lv_istore (lv' := [(5, .int (1 : Int32)), (0, .ref (am 9)), (1, .ref (am r1)), (2, .ref (am r2)), (3, .int w2), (4, .int w3)]) hx hb dX7_suspected_42 hl (by decide) rfl (fun ls hl => ?_)
          refine lv_aload_n hx hb dX7_suspected_44 rfl (lv_at hl 1 rfl) ?_
          refine lv_aload_n hx hb dX7_suspected_45 rfl (lv_at hl 3 rfl) ?_
          refine lv_iload hx hb dX7_suspected_46 (lv_at hl 5 rfl) ?_
          obtain ⟨v6, st7, hqv6, hM⟩ := bd_at hM
          refine jcallV (C := RX7) (As := [.ref (am r2), .int w3]) (rest := []) ⟨hx, hb, hml, hown, hts⟩ (jw_X7_tryGuess D am cI cC cS hj N h2 hqv6) (cwV 2 hts gX7_suspected_X7_tryGuess rfl rfl rfl yd_X7_tryGuess ⟨Nat.le_of_ble_eq_true rfl, Nat.le_of_ble_eq_true rfl⟩) hK hI 9 (cg_9 am cI cC cS st1) rfl rfl hl.1 rfl (Nat.le_of_ble_eq_true rfl) dX7_suspected_48 (fun H locs hI => ?_)
          refine W.eq (g2 := F0 m 51 ls []) rfl ?_
          refine lv_iload hx hb dX7_suspected_51 (lv_at hl 0 rfl) ?_
          refine lv_if_eq (tgt := 75) hx hb dX7_suspected_53 (by decide) (fun c9 => absurd c9 (by decide)) (fun _ => ?_)
          refine lv_aload_n hx hb dX7_suspected_56 rfl (lv_at hl 1 rfl) ?_
          refine lv_aload_n hx hb dX7_suspected_57 rfl (lv_at hl 2 rfl) ?_
          refine lv_aload_n hx hb dX7_suspected_58 rfl (lv_at hl 1 rfl) ?_
          refine va_get (D := D) (ci := 7) (v := .ref (am 13)) (C := RX7) (T := TX7) (N := 5) hx hb hts hi_X7_suspected_X7 hown hK hI.1 9 (cg_9 am cI cC cS st7) rfl 3 (by decide) f_0 (fun _ h9 => h9) rfl dX7_suspected_59 ?_
          obtain ⟨v8, st9, hqv8, hM⟩ := bd_at hM
          refine jcallV (C := RX7) (As := [.ref (am r1), .ref (am 13)]) (rest := []) ⟨hx, hb, hml, hown, hts⟩ (jw_X7_allIsSo D am cI cC cS hj N h1 (show ck_Pose 13 by decide) hqv8) (cwV 2 hts gX7_suspected_X7_allIsSo rfl rfl rfl yd_X7_allIsSo ⟨Nat.le_of_ble_eq_true rfl, Nat.le_of_ble_eq_true rfl⟩) hK hI 9 (cg_9 am cI cC cS st7) rfl rfl hl.1 rfl (Nat.le_of_ble_eq_true rfl) dX7_suspected_62 (fun H locs hI => ?_)
          refine W.eq (g2 := F0 m 65 ls [.int v8]) rfl ?_
          refine lv_if_eq (tgt := 75) hx hb dX7_suspected_65 (by decide) (fun c10 => ?_) (fun c10 => ?_)
          · replace hM := if_t c10 hM
            refine lv_iinc (v := (w3 + (1 : Int32))) (lv' := [(4, .int (w3 + (1 : Int32))), (5, .int (1 : Int32)), (0, .ref (am 9)), (1, .ref (am r1)), (2, .ref (am r2)), (3, .int w2)]) hx hb dX7_suspected_75 hl (k := 5) rfl rfl (by decide) rfl (fun ls hl => ?_)
            refine lv_goto (tgt := 5) hx hb dX7_suspected_78 (by decide) ?_
            have hz := Option.some.inj hM
            subst hz
            exact ih0 w2 (w3 + (1 : Int32)) st9 _ _ _ hI (lv_sub hl [2, 3, 4, 5, 0] rfl) hk0
          · replace hM := if_f c10 hM
            refine lv_iload_n hx hb dX7_suspected_68 rfl (lv_at hl 4 rfl) ?_
            refine lv_iconst (v := (1 : Int32)) hx hb dX7_suspected_69 (by decide) ?_
            refine lv_iload hx hb dX7_suspected_70 (lv_at hl 5 rfl) ?_
            refine lv_ishl hx hb dX7_suspected_72 ?_
            refine lv_ior hx hb dX7_suspected_73 ?_
            refine lv_istore_n (lv' := [(3, .int (w2 ||| ((1 : Int32) <<< (w3 &&& 31)))), (5, .int (1 : Int32)), (0, .ref (am 9)), (1, .ref (am r1)), (2, .ref (am r2)), (4, .int w3)]) hx hb dX7_suspected_74 rfl hl (by decide) rfl (fun ls hl => ?_)
            refine lv_iinc (v := (w3 + (1 : Int32))) (lv' := [(4, .int (w3 + (1 : Int32))), (3, .int (w2 ||| ((1 : Int32) <<< (w3 &&& 31)))), (5, .int (1 : Int32)), (0, .ref (am 9)), (1, .ref (am r1)), (2, .ref (am r2))]) hx hb dX7_suspected_75 hl (k := 5) rfl rfl (by decide) rfl (fun ls hl => ?_)
            refine lv_goto (tgt := 5) hx hb dX7_suspected_78 (by decide) ?_
            have hz := Option.some.inj hM
            subst hz
            exact ih0 (w2 ||| ((1 : Int32) <<< (w3 &&& 31))) (w3 + (1 : Int32)) st9 _ _ _ hI (lv_sub hl [3, 4, 5, 1, 0] rfl) hk0
        · replace hM := if_f c5 hM
          refine lv_iload hx hb dX7_suspected_19 (lv_at hl 4 rfl) ?_
          refine lv_aload_n hx hb dX7_suspected_21 rfl (lv_at hl 1 rfl) ?_
          refine va_get (D := D) (ci := 0) (v := .int (st1.1 r1 8)) (C := RX0) (T := TX0) (N := 11) hx hb hts hi_X7_suspected_X0 hown hK hI.1 r1 (cg_Doll am cI cC cS st1 h1) rfl 8 (by decide) f_1 (fun _ h9 => h9) rfl dX7_suspected_22 ?_
          refine lv_icmp_ge (tgt := 41) hx hb dX7_suspected_25 (by decide) (fun c11 => ?_) (fun c11 => ?_)
          · replace hM := if_t c11 hM
            refine lv_iconst (v := (0 : Int32)) hx hb dX7_suspected_41 (by decide) ?_
            refine lv_istore (lv' := [(5, .int (0 : Int32)), (0, .ref (am 9)), (1, .ref (am r1)), (2, .ref (am r2)), (3, .int w2), (4, .int w3)]) hx hb dX7_suspected_42 hl (by decide) rfl (fun ls hl => ?_)
            refine lv_aload_n hx hb dX7_suspected_44 rfl (lv_at hl 1 rfl) ?_
            refine lv_aload_n hx hb dX7_suspected_45 rfl (lv_at hl 3 rfl) ?_
            refine lv_iload hx hb dX7_suspected_46 (lv_at hl 5 rfl) ?_
            obtain ⟨v12, st13, hqv12, hM⟩ := bd_at hM
            refine jcallV (C := RX7) (As := [.ref (am r2), .int w3]) (rest := []) ⟨hx, hb, hml, hown, hts⟩ (jw_X7_tryGuess D am cI cC cS hj N h2 hqv12) (cwV 2 hts gX7_suspected_X7_tryGuess rfl rfl rfl yd_X7_tryGuess ⟨Nat.le_of_ble_eq_true rfl, Nat.le_of_ble_eq_true rfl⟩) hK hI 9 (cg_9 am cI cC cS st1) rfl rfl hl.1 rfl (Nat.le_of_ble_eq_true rfl) dX7_suspected_48 (fun H locs hI => ?_)
            refine W.eq (g2 := F0 m 51 ls []) rfl ?_
            refine lv_iload hx hb dX7_suspected_51 (lv_at hl 0 rfl) ?_
            refine lv_if_eq (tgt := 75) hx hb dX7_suspected_53 (by decide) (fun _ => ?_) (fun c9 => absurd c9 (by decide))
            refine lv_iinc (v := (w3 + (1 : Int32))) (lv' := [(4, .int (w3 + (1 : Int32))), (5, .int (0 : Int32)), (0, .ref (am 9)), (1, .ref (am r1)), (2, .ref (am r2)), (3, .int w2)]) hx hb dX7_suspected_75 hl (k := 5) rfl rfl (by decide) rfl (fun ls hl => ?_)
            refine lv_goto (tgt := 5) hx hb dX7_suspected_78 (by decide) ?_
            have hz := Option.some.inj hM
            subst hz
            exact ih0 w2 (w3 + (1 : Int32)) st13 _ _ _ hI (lv_sub hl [2, 3, 4, 5, 0] rfl) hk0
          · replace hM := if_f c11 hM
            refine lv_aload_n hx hb dX7_suspected_28 rfl (lv_at hl 2 rfl) ?_
            refine lv_iload hx hb dX7_suspected_29 (lv_at hl 4 rfl) ?_
            obtain ⟨v14, st15, hqv14, hM⟩ := bd_at hM
            refine jcallV (C := RX4) (As := [.int w3]) (rest := []) ⟨hx, hb, hml, hown, hts⟩ (jw_X4_isCut D am cI cC cS hj N h2 hqv14) (cwV 1 hts gX7_suspected_X4_isCut rfl rfl rfl yd_X4_isCut ⟨Nat.le_of_ble_eq_true rfl, Nat.le_of_ble_eq_true rfl⟩) hK hI r2 (cg_Pose am cI cC cS st1 h2) rfl rfl hl.1 rfl (Nat.le_of_ble_eq_true rfl) dX7_suspected_31 (fun H locs hI => ?_)
            refine W.eq (g2 := F0 m 34 ls [.int v14]) rfl ?_
            refine lv_if_ne (tgt := 41) hx hb dX7_suspected_34 (by decide) (fun c16 => ?_) (fun c16 => ?_)
            · replace hM := if_f c16 hM
              refine lv_iconst (v := (0 : Int32)) hx hb dX7_suspected_41 (by decide) ?_
              refine lv_istore (lv' := [(5, .int (0 : Int32)), (0, .ref (am 9)), (1, .ref (am r1)), (2, .ref (am r2)), (3, .int w2), (4, .int w3)]) hx hb dX7_suspected_42 hl (by decide) rfl (fun ls hl => ?_)
              refine lv_aload_n hx hb dX7_suspected_44 rfl (lv_at hl 1 rfl) ?_
              refine lv_aload_n hx hb dX7_suspected_45 rfl (lv_at hl 3 rfl) ?_
              refine lv_iload hx hb dX7_suspected_46 (lv_at hl 5 rfl) ?_
              obtain ⟨v17, st18, hqv17, hM⟩ := bd_at hM
              refine jcallV (C := RX7) (As := [.ref (am r2), .int w3]) (rest := []) ⟨hx, hb, hml, hown, hts⟩ (jw_X7_tryGuess D am cI cC cS hj N h2 hqv17) (cwV 2 hts gX7_suspected_X7_tryGuess rfl rfl rfl yd_X7_tryGuess ⟨Nat.le_of_ble_eq_true rfl, Nat.le_of_ble_eq_true rfl⟩) hK hI 9 (cg_9 am cI cC cS st15) rfl rfl hl.1 rfl (Nat.le_of_ble_eq_true rfl) dX7_suspected_48 (fun H locs hI => ?_)
              refine W.eq (g2 := F0 m 51 ls []) rfl ?_
              refine lv_iload hx hb dX7_suspected_51 (lv_at hl 0 rfl) ?_
              refine lv_if_eq (tgt := 75) hx hb dX7_suspected_53 (by decide) (fun _ => ?_) (fun c9 => absurd c9 (by decide))
              refine lv_iinc (v := (w3 + (1 : Int32))) (lv' := [(4, .int (w3 + (1 : Int32))), (5, .int (0 : Int32)), (0, .ref (am 9)), (1, .ref (am r1)), (2, .ref (am r2)), (3, .int w2)]) hx hb dX7_suspected_75 hl (k := 5) rfl rfl (by decide) rfl (fun ls hl => ?_)
              refine lv_goto (tgt := 5) hx hb dX7_suspected_78 (by decide) ?_
              have hz := Option.some.inj hM
              subst hz
              exact ih0 w2 (w3 + (1 : Int32)) st18 _ _ _ hI (lv_sub hl [2, 3, 4, 5, 0] rfl) hk0
            · replace hM := if_t c16 hM
              refine lv_iconst (v := (1 : Int32)) hx hb dX7_suspected_37 (by decide) ?_
              refine lv_goto (tgt := 42) hx hb dX7_suspected_38 (by decide) ?_
              refine lv_istore (lv' := [(5, .int (1 : Int32)), (0, .ref (am 9)), (1, .ref (am r1)), (2, .ref (am r2)), (3, .int w2), (4, .int w3)]) hx hb dX7_suspected_42 hl (by decide) rfl (fun ls hl => ?_)
              refine lv_aload_n hx hb dX7_suspected_44 rfl (lv_at hl 1 rfl) ?_
              refine lv_aload_n hx hb dX7_suspected_45 rfl (lv_at hl 3 rfl) ?_
              refine lv_iload hx hb dX7_suspected_46 (lv_at hl 5 rfl) ?_
              obtain ⟨v19, st20, hqv19, hM⟩ := bd_at hM
              refine jcallV (C := RX7) (As := [.ref (am r2), .int w3]) (rest := []) ⟨hx, hb, hml, hown, hts⟩ (jw_X7_tryGuess D am cI cC cS hj N h2 hqv19) (cwV 2 hts gX7_suspected_X7_tryGuess rfl rfl rfl yd_X7_tryGuess ⟨Nat.le_of_ble_eq_true rfl, Nat.le_of_ble_eq_true rfl⟩) hK hI 9 (cg_9 am cI cC cS st15) rfl rfl hl.1 rfl (Nat.le_of_ble_eq_true rfl) dX7_suspected_48 (fun H locs hI => ?_)
              refine W.eq (g2 := F0 m 51 ls []) rfl ?_
              refine lv_iload hx hb dX7_suspected_51 (lv_at hl 0 rfl) ?_
              refine lv_if_eq (tgt := 75) hx hb dX7_suspected_53 (by decide) (fun c9 => absurd c9 (by decide)) (fun _ => ?_)
              refine lv_aload_n hx hb dX7_suspected_56 rfl (lv_at hl 1 rfl) ?_
              refine lv_aload_n hx hb dX7_suspected_57 rfl (lv_at hl 2 rfl) ?_
              refine lv_aload_n hx hb dX7_suspected_58 rfl (lv_at hl 1 rfl) ?_
              refine va_get (D := D) (ci := 7) (v := .ref (am 13)) (C := RX7) (T := TX7) (N := 5) hx hb hts hi_X7_suspected_X7 hown hK hI.1 9 (cg_9 am cI cC cS st20) rfl 3 (by decide) f_0 (fun _ h9 => h9) rfl dX7_suspected_59 ?_
              obtain ⟨v21, st22, hqv21, hM⟩ := bd_at hM
              refine jcallV (C := RX7) (As := [.ref (am r1), .ref (am 13)]) (rest := []) ⟨hx, hb, hml, hown, hts⟩ (jw_X7_allIsSo D am cI cC cS hj N h1 (show ck_Pose 13 by decide) hqv21) (cwV 2 hts gX7_suspected_X7_allIsSo rfl rfl rfl yd_X7_allIsSo ⟨Nat.le_of_ble_eq_true rfl, Nat.le_of_ble_eq_true rfl⟩) hK hI 9 (cg_9 am cI cC cS st20) rfl rfl hl.1 rfl (Nat.le_of_ble_eq_true rfl) dX7_suspected_62 (fun H locs hI => ?_)
              refine W.eq (g2 := F0 m 65 ls [.int v21]) rfl ?_
              refine lv_if_eq (tgt := 75) hx hb dX7_suspected_65 (by decide) (fun c23 => ?_) (fun c23 => ?_)
              · replace hM := if_t c23 hM
                refine lv_iinc (v := (w3 + (1 : Int32))) (lv' := [(4, .int (w3 + (1 : Int32))), (5, .int (1 : Int32)), (0, .ref (am 9)), (1, .ref (am r1)), (2, .ref (am r2)), (3, .int w2)]) hx hb dX7_suspected_75 hl (k := 5) rfl rfl (by decide) rfl (fun ls hl => ?_)
                refine lv_goto (tgt := 5) hx hb dX7_suspected_78 (by decide) ?_
                have hz := Option.some.inj hM
                subst hz
                exact ih0 w2 (w3 + (1 : Int32)) st22 _ _ _ hI (lv_sub hl [2, 3, 4, 5, 0] rfl) hk0
              · replace hM := if_f c23 hM
                refine lv_iload_n hx hb dX7_suspected_68 rfl (lv_at hl 4 rfl) ?_
                refine lv_iconst (v := (1 : Int32)) hx hb dX7_suspected_69 (by decide) ?_
                refine lv_iload hx hb dX7_suspected_70 (lv_at hl 5 rfl) ?_
                refine lv_ishl hx hb dX7_suspected_72 ?_
                refine lv_ior hx hb dX7_suspected_73 ?_
                refine lv_istore_n (lv' := [(3, .int (w2 ||| ((1 : Int32) <<< (w3 &&& 31)))), (5, .int (1 : Int32)), (0, .ref (am 9)), (1, .ref (am r1)), (2, .ref (am r2)), (4, .int w3)]) hx hb dX7_suspected_74 rfl hl (by decide) rfl (fun ls hl => ?_)
                refine lv_iinc (v := (w3 + (1 : Int32))) (lv' := [(4, .int (w3 + (1 : Int32))), (3, .int (w2 ||| ((1 : Int32) <<< (w3 &&& 31)))), (5, .int (1 : Int32)), (0, .ref (am 9)), (1, .ref (am r1)), (2, .ref (am r2))]) hx hb dX7_suspected_75 hl (k := 5) rfl rfl (by decide) rfl (fun ls hl => ?_)
                refine lv_goto (tgt := 5) hx hb dX7_suspected_78 (by decide) ?_
                have hz := Option.some.inj hM
                subst hz
                exact ih0 (w2 ||| ((1 : Int32) <<< (w3 &&& 31))) (w3 + (1 : Int32)) st22 _ _ _ hI (lv_sub hl [3, 4, 5, 1, 0] rfl) hk0
  exact lp0 N (0 : Int32) (0 : Int32) st _ _ _ hI (lv_sub hl [2, 3, 4, 1, 0] rfl) hM
set_option maxRecDepth 20000 in
theorem hi_X7_fittingHoles_X7 : ∀ w ∈ wsX70, w ∈ wsX7_fittingHoles := by decide +kernel
set_option maxHeartbeats 4000000 in
set_option maxRecDepth 100000 in
theorem jw_X7_fittingHoles {l : Launch} (D : va_G) (am : Nat → Nat) (cI cC cS : ClassId) (hj : aJ am 52) (N : Nat) {r1 : Nat} {r2 : Nat} {x3 : Int32} (h1 : ck_Doll r1) (h2 : ck_Pose r2) {st stZ : PS} {rZ : Int32} (hM : jm_X7_fittingHoles N r1 r2 x3 st = some (rZ, stZ)) : Met l yX7_fittingHoles wsX7_fittingHoles ({ frames := 4, cells := 0, slots := 0, locals := 92 }) (va_Pc [.ref (am 9), .ref (am r1), .ref (am r2), .int x3] (JH D (cW am cI cC cS) (cTy cI cC cS) st)) (JQ D (aA am 52) (cW am cI cC cS) (cTy cI cC cS) (some (.int rZ)) stZ) 0 0 (aA am 52) := by
  refine jStart (cc := cX7_fittingHoles) (maxL := 6) (ret := (some .int)) [.ref (am 9), .ref (am r1), .ref (am r2), .int x3] (by decide) rfl (Nat.le_of_ble_eq_true rfl) (fun p e s m below meth c ls hx hb hr hlocks hts hown hml hK hI hl => ?_)
  have hown : s.vm.findClass RX7 = some m.cls := hown
  replace hl : lv_has ls 6 [(0, .ref (am 9)), (1, .ref (am r1)), (2, .ref (am r2)), (3, .int x3)] := hl
  generalize hAV : ([.ref (am 9), .ref (am r1), .ref (am r2), .int x3] : List Value).toArray = AV at hts ⊢
  have f_0 := hts (.fieldLink RX7 24 "PuppetBar$Sight" "trial" "LPuppetBar$Pose;") (by decide +kernel)
  unfold jm_X7_fittingHoles at hM
  refine lv_iconst (v := (0 : Int32)) hx hb dX7_fittingHoles_0 (by decide) ?_
  refine lv_istore (lv' := [(4, .int (0 : Int32)), (0, .ref (am 9)), (1, .ref (am r1)), (2, .ref (am r2)), (3, .int x3)]) hx hb dX7_fittingHoles_1 hl (by decide) rfl (fun ls hl => ?_)
  refine lv_aload_n hx hb dX7_fittingHoles_3 rfl (lv_at hl 1 rfl) ?_
  refine va_get (D := D) (ci := 7) (v := .ref (am 13)) (C := RX7) (T := TX7) (N := 5) hx hb hts hi_X7_fittingHoles_X7 hown hK hI.1 9 (cg_9 am cI cC cS st) rfl 3 (by decide) f_0 (fun _ h9 => h9) rfl dX7_fittingHoles_4 ?_
  refine lv_aload_n hx hb dX7_fittingHoles_7 rfl (lv_at hl 3 rfl) ?_
  obtain ⟨v1, st2, hqv1, hM⟩ := bd_at hM
  refine jcallV (C := RX4) (As := [.ref (am r2)]) (rest := []) ⟨hx, hb, hml, hown, hts⟩ (jw_X4_copyFrom D am cI cC cS hj N (show ck_Pose 13 by decide) h2 hqv1) (cwV 1 hts gX7_fittingHoles_X4_copyFrom rfl rfl rfl yd_X4_copyFrom ⟨Nat.le_of_ble_eq_true rfl, Nat.le_of_ble_eq_true rfl⟩) hK hI 13 (cg_13 am cI cC cS st) rfl rfl hl.1 rfl (Nat.le_of_ble_eq_true rfl) dX7_fittingHoles_8 (fun H locs hI => ?_)
  refine W.eq (g2 := F0 m 11 ls []) rfl ?_
  refine lv_iconst (v := (0 : Int32)) hx hb dX7_fittingHoles_11 (by decide) ?_
  refine lv_istore (lv' := [(5, .int (0 : Int32)), (4, .int (0 : Int32)), (0, .ref (am 9)), (1, .ref (am r1)), (2, .ref (am r2)), (3, .int x3)]) hx hb dX7_fittingHoles_12 hl (by decide) rfl (fun ls hl => ?_)
  have lp0 : ∀ (n : Nat) (w4 : Int32) (w5 : Int32) (st3 : PS) (H : Heap) (locs : List Loc) (ls : Array Slot), JI D (aA am 52) (cW am cI cC cS) s.heap st3 H locs → lv_has ls 6 [(0, .ref (am 9)), (1, .ref (am r1)), (2, .ref (am r2)), (3, .int x3), (4, .int w4), (5, .int w5)] → iter (fun q => jm_X7_fittingHoles_L14 N r1 x3 q.1 q.2.1 q.2.2) n (w4, w5, st3) = some (rZ, stZ) → W p l e (headSpec wsX7_fittingHoles { frames := 4, cells := 0, slots := 0, locals := 92 }).room s m AV below meth c H locs 0 0 (MQ below (JQ D (aA am 52) (cW am cI cC cS) (cTy cI cC cS) (some (.int rZ)) stZ) AV s 0 0 (aA am 52)) (F0 m 14 ls []) := by
    intro n
    induction n with
    | zero =>
      intro _ _ _ _ _ _ _ _ hM
      exact absurd hM (fun h => iter_zero h)
    | succ n ih0 =>
      intro w4 w5 st3 H locs ls hI hl hM
      obtain ⟨z0, hM, hk0⟩ := iter_succ hM
      replace hM : jm_X7_fittingHoles_L14 N r1 x3 w4 w5 st3 = some z0 := hM
      unfold jm_X7_fittingHoles_L14 at hM
      refine lv_iload hx hb dX7_fittingHoles_14 (lv_at hl 5 rfl) ?_
      refine lv_bipush (v := (7 : Int32)) hx hb dX7_fittingHoles_16 (by decide) ?_
      refine lv_icmp_ge (tgt := 58) hx hb dX7_fittingHoles_18 (by decide) (fun c6 => ?_) (fun c6 => ?_)
      · replace hM := if_t c6 hM
        refine lv_iload hx hb dX7_fittingHoles_58 (lv_at hl 4 rfl) ?_
        have hz := Option.some.inj hM
        subst hz
        have hz := kn_r hk0
        exact W.iret hx hb hr (fun t ht hW => jq_i hK hI hz ht hW) hI.2.2.2 dX7_fittingHoles_60
      · replace hM := if_f c6 hM
        refine lv_aload_n hx hb dX7_fittingHoles_21 rfl (lv_at hl 0 rfl) ?_
        refine va_get (D := D) (ci := 7) (v := .ref (am 13)) (C := RX7) (T := TX7) (N := 5) hx hb hts hi_X7_fittingHoles_X7 hown hK hI.1 9 (cg_9 am cI cC cS st3) rfl 3 (by decide) f_0 (fun _ h9 => h9) rfl dX7_fittingHoles_22 ?_
        refine lv_iload_n hx hb dX7_fittingHoles_25 rfl (lv_at hl 3 rfl) ?_
        refine lv_iload hx hb dX7_fittingHoles_26 (lv_at hl 5 rfl) ?_
        obtain ⟨v7, st8, hqv7, hM⟩ := bd_at hM
        refine jcallV (C := RX4) (As := [.int x3, .int w5]) (rest := []) ⟨hx, hb, hml, hown, hts⟩ (jw_X4_setHole D am cI cC cS hj N (show ck_Pose 13 by decide) hqv7) (cwV 2 hts gX7_fittingHoles_X4_setHole rfl rfl rfl yd_X4_setHole ⟨Nat.le_of_ble_eq_true rfl, Nat.le_of_ble_eq_true rfl⟩) hK hI 13 (cg_13 am cI cC cS st3) rfl rfl hl.1 rfl (Nat.le_of_ble_eq_true rfl) dX7_fittingHoles_28 (fun H locs hI => ?_)
        refine W.eq (g2 := F0 m 31 ls []) rfl ?_
        refine lv_aload_n hx hb dX7_fittingHoles_31 rfl (lv_at hl 0 rfl) ?_
        refine lv_aload_n hx hb dX7_fittingHoles_32 rfl (lv_at hl 1 rfl) ?_
        refine lv_aload_n hx hb dX7_fittingHoles_33 rfl (lv_at hl 0 rfl) ?_
        refine va_get (D := D) (ci := 7) (v := .ref (am 13)) (C := RX7) (T := TX7) (N := 5) hx hb hts hi_X7_fittingHoles_X7 hown hK hI.1 9 (cg_9 am cI cC cS st8) rfl 3 (by decide) f_0 (fun _ h9 => h9) rfl dX7_fittingHoles_34 ?_
        obtain ⟨v9, st10, hqv9, hM⟩ := bd_at hM
        refine jcallV (C := RX7) (As := [.ref (am r1), .ref (am 13)]) (rest := []) ⟨hx, hb, hml, hown, hts⟩ (jw_X7_allIsSo D am cI cC cS hj N h1 (show ck_Pose 13 by decide) hqv9) (cwV 2 hts gX7_fittingHoles_X7_allIsSo rfl rfl rfl yd_X7_allIsSo ⟨Nat.le_of_ble_eq_true rfl, Nat.le_of_ble_eq_true rfl⟩) hK hI 9 (cg_9 am cI cC cS st8) rfl rfl hl.1 rfl (Nat.le_of_ble_eq_true rfl) dX7_fittingHoles_37 (fun H locs hI => ?_)
        refine W.eq (g2 := F0 m 40 ls [.int v9]) rfl ?_
        refine lv_if_eq (tgt := 52) hx hb dX7_fittingHoles_40 (by decide) (fun c11 => ?_) (fun c11 => ?_)
        · replace hM := if_t c11 hM
          refine lv_iinc (v := (w5 + (1 : Int32))) (lv' := [(5, .int (w5 + (1 : Int32))), (0, .ref (am 9)), (1, .ref (am r1)), (2, .ref (am r2)), (3, .int x3), (4, .int w4)]) hx hb dX7_fittingHoles_52 hl (k := 5) rfl rfl (by decide) rfl (fun ls hl => ?_)
          refine lv_goto (tgt := 14) hx hb dX7_fittingHoles_55 (by decide) ?_
          have hz := Option.some.inj hM
          subst hz
          exact ih0 w4 (w5 + (1 : Int32)) st10 _ _ _ hI (lv_sub hl [1, 2, 3, 4, 5, 0] rfl) hk0
        · replace hM := if_f c11 hM
          refine lv_iload hx hb dX7_fittingHoles_43 (lv_at hl 4 rfl) ?_
          refine lv_iconst (v := (1 : Int32)) hx hb dX7_fittingHoles_45 (by decide) ?_
          refine lv_iload hx hb dX7_fittingHoles_46 (lv_at hl 5 rfl) ?_
          refine lv_ishl hx hb dX7_fittingHoles_48 ?_
          refine lv_ior hx hb dX7_fittingHoles_49 ?_
          refine lv_istore (lv' := [(4, .int (w4 ||| ((1 : Int32) <<< (w5 &&& 31)))), (0, .ref (am 9)), (1, .ref (am r1)), (2, .ref (am r2)), (3, .int x3), (5, .int w5)]) hx hb dX7_fittingHoles_50 hl (by decide) rfl (fun ls hl => ?_)
          refine lv_iinc (v := (w5 + (1 : Int32))) (lv' := [(5, .int (w5 + (1 : Int32))), (4, .int (w4 ||| ((1 : Int32) <<< (w5 &&& 31)))), (0, .ref (am 9)), (1, .ref (am r1)), (2, .ref (am r2)), (3, .int x3)]) hx hb dX7_fittingHoles_52 hl (k := 5) rfl rfl (by decide) rfl (fun ls hl => ?_)
          refine lv_goto (tgt := 14) hx hb dX7_fittingHoles_55 (by decide) ?_
          have hz := Option.some.inj hM
          subst hz
          exact ih0 (w4 ||| ((1 : Int32) <<< (w5 &&& 31))) (w5 + (1 : Int32)) st10 _ _ _ hI (lv_sub hl [2, 3, 4, 5, 1, 0] rfl) hk0
  exact lp0 N (0 : Int32) (0 : Int32) st2 _ _ _ hI (lv_sub hl [2, 3, 4, 5, 1, 0] rfl) hM
set_option maxRecDepth 20000 in
theorem hi_X7_howManyGuessed_X7 : ∀ w ∈ wsX70, w ∈ wsX7_howManyGuessed := by decide +kernel
set_option maxHeartbeats 4000000 in
set_option maxRecDepth 100000 in
theorem jw_X7_howManyGuessed {l : Launch} (D : va_G) (am : Nat → Nat) (cI cC cS : ClassId) (hj : aJ am 52) (N : Nat) {x1 : Int32} {x2 : Int32} {st stZ : PS} {rZ : Int32} (hM : jm_X7_howManyGuessed N x1 x2 st = some (rZ, stZ)) : Met l yX7_howManyGuessed wsX7_howManyGuessed ({ frames := 0, cells := 0, slots := 0, locals := 0 }) (va_Pc [.ref (am 9), .int x1, .int x2] (JH D (cW am cI cC cS) (cTy cI cC cS) st)) (JQ D (aA am 52) (cW am cI cC cS) (cTy cI cC cS) (some (.int rZ)) stZ) 0 0 (aA am 52) := by
  refine jStart (cc := cX7_howManyGuessed) (maxL := 5) (ret := (some .int)) [.ref (am 9), .int x1, .int x2] (by decide) rfl (Nat.le_of_ble_eq_true rfl) (fun p e s m below meth c ls hx hb hr hlocks hts hown hml hK hI hl => ?_)
  have hown : s.vm.findClass RX7 = some m.cls := hown
  replace hl : lv_has ls 5 [(0, .ref (am 9)), (1, .int x1), (2, .int x2)] := hl
  generalize hAV : ([.ref (am 9), .int x1, .int x2] : List Value).toArray = AV at hts ⊢
  have f_0 := hts (.fieldLink RX7 18 "PuppetBar$Sight" "guessed" "[I") (by decide +kernel)
  unfold jm_X7_howManyGuessed at hM
  refine lv_iconst (v := (0 : Int32)) hx hb dX7_howManyGuessed_0 (by decide) ?_
  refine lv_istore_n (lv' := [(3, .int (0 : Int32)), (0, .ref (am 9)), (1, .int x1), (2, .int x2)]) hx hb dX7_howManyGuessed_1 rfl hl (by decide) rfl (fun ls hl => ?_)
  refine lv_iconst (v := (0 : Int32)) hx hb dX7_howManyGuessed_2 (by decide) ?_
  refine lv_istore (lv' := [(4, .int (0 : Int32)), (3, .int (0 : Int32)), (0, .ref (am 9)), (1, .int x1), (2, .int x2)]) hx hb dX7_howManyGuessed_3 hl (by decide) rfl (fun ls hl => ?_)
  have lp0 : ∀ (n : Nat) (w2 : Int32) (w3 : Int32) (st1 : PS) (H : Heap) (locs : List Loc) (ls : Array Slot), JI D (aA am 52) (cW am cI cC cS) s.heap st1 H locs → lv_has ls 5 [(0, .ref (am 9)), (1, .int x1), (2, .int x2), (3, .int w2), (4, .int w3)] → iter (fun q => jm_X7_howManyGuessed_L5 N x1 x2 q.1 q.2.1 q.2.2) n (w2, w3, st1) = some (rZ, stZ) → W p l e (headSpec wsX7_howManyGuessed { frames := 0, cells := 0, slots := 0, locals := 0 }).room s m AV below meth c H locs 0 0 (MQ below (JQ D (aA am 52) (cW am cI cC cS) (cTy cI cC cS) (some (.int rZ)) stZ) AV s 0 0 (aA am 52)) (F0 m 5 ls []) := by
    intro n
    induction n with
    | zero =>
      intro _ _ _ _ _ _ _ _ hM
      exact absurd hM (fun h => iter_zero h)
    | succ n ih0 =>
      intro w2 w3 st1 H locs ls hI hl hM
      obtain ⟨z0, hM, hk0⟩ := iter_succ hM
      replace hM : jm_X7_howManyGuessed_L5 N x1 x2 w2 w3 st1 = some z0 := hM
      unfold jm_X7_howManyGuessed_L5 at hM
      refine lv_iload hx hb dX7_howManyGuessed_5 (lv_at hl 4 rfl) ?_
      refine lv_iload_n hx hb dX7_howManyGuessed_7 rfl (lv_at hl 2 rfl) ?_
      refine lv_icmp_ge (tgt := 31) hx hb dX7_howManyGuessed_8 (by decide) (fun c4 => ?_) (fun c4 => ?_)
      · replace hM := if_t c4 hM
        refine lv_iload_n hx hb dX7_howManyGuessed_31 rfl (lv_at hl 3 rfl) ?_
        have hz := Option.some.inj hM
        subst hz
        have hz := kn_r hk0
        exact W.iret hx hb hr (fun t ht hW => jq_i hK hI hz ht hW) hI.2.2.2 dX7_howManyGuessed_32
      · replace hM := if_f c4 hM
        refine lv_aload_n hx hb dX7_howManyGuessed_11 rfl (lv_at hl 0 rfl) ?_
        refine va_get (D := D) (ci := 7) (v := .ref (am 12)) (C := RX7) (T := TX7) (N := 5) hx hb hts hi_X7_howManyGuessed_X7 hown hK hI.1 9 (cg_9 am cI cC cS st1) rfl 2 (by decide) f_0 (fun _ h9 => h9) rfl dX7_howManyGuessed_12 ?_
        refine lv_iload hx hb dX7_howManyGuessed_15 (lv_at hl 4 rfl) ?_
        obtain ⟨g5, hM⟩ := gd_at hM
        refine va_iald hx hb hK hI.1 12 0 (cg_12 am cI cC cS st1) rfl (inB_vp g5) dX7_howManyGuessed_17 ?_
        refine lv_iload_n hx hb dX7_howManyGuessed_18 rfl (lv_at hl 1 rfl) ?_
        refine lv_icmp_ne (tgt := 25) hx hb dX7_howManyGuessed_19 (by decide) (fun c6 => ?_) (fun c6 => ?_)
        · replace hM := if_f c6 hM
          refine lv_iinc (v := (w3 + (1 : Int32))) (lv' := [(4, .int (w3 + (1 : Int32))), (0, .ref (am 9)), (1, .int x1), (2, .int x2), (3, .int w2)]) hx hb dX7_howManyGuessed_25 hl (k := 4) rfl rfl (by decide) rfl (fun ls hl => ?_)
          refine lv_goto (tgt := 5) hx hb dX7_howManyGuessed_28 (by decide) ?_
          have hz := Option.some.inj hM
          subst hz
          exact ih0 w2 (w3 + (1 : Int32)) st1 _ _ _ hI (lv_sub hl [1, 2, 3, 4, 0] rfl) hk0
        · replace hM := if_t c6 hM
          refine lv_iinc (v := (w2 + (1 : Int32))) (lv' := [(3, .int (w2 + (1 : Int32))), (0, .ref (am 9)), (1, .int x1), (2, .int x2), (4, .int w3)]) hx hb dX7_howManyGuessed_22 hl (k := 3) rfl rfl (by decide) rfl (fun ls hl => ?_)
          refine lv_iinc (v := (w3 + (1 : Int32))) (lv' := [(4, .int (w3 + (1 : Int32))), (3, .int (w2 + (1 : Int32))), (0, .ref (am 9)), (1, .int x1), (2, .int x2)]) hx hb dX7_howManyGuessed_25 hl (k := 4) rfl rfl (by decide) rfl (fun ls hl => ?_)
          refine lv_goto (tgt := 5) hx hb dX7_howManyGuessed_28 (by decide) ?_
          have hz := Option.some.inj hM
          subst hz
          exact ih0 (w2 + (1 : Int32)) (w3 + (1 : Int32)) st1 _ _ _ hI (lv_sub hl [2, 3, 4, 1, 0] rfl) hk0
  exact lp0 N (0 : Int32) (0 : Int32) st _ _ _ hI (lv_sub hl [2, 3, 4, 1, 0] rfl) hM
set_option maxRecDepth 20000 in
theorem hi_X7_mostLeft_X7 : ∀ w ∈ wsX70, w ∈ wsX7_mostLeft := by decide +kernel
set_option maxHeartbeats 4000000 in
set_option maxRecDepth 100000 in
theorem jw_X7_mostLeft {l : Launch} (D : va_G) (am : Nat → Nat) (cI cC cS : ClassId) (hj : aJ am 52) (N : Nat) {r1 : Nat} {r2 : Nat} {x3 : Int32} {x4 : Int32} (h1 : ck_Doll r1) (h2 : ck_Pose r2) {st stZ : PS} {rZ : Int32} (hM : jm_X7_mostLeft N r1 r2 x3 x4 st = some (rZ, stZ)) : Met l yX7_mostLeft wsX7_mostLeft ({ frames := 3, cells := 0, slots := 0, locals := 69 }) (va_Pc [.ref (am 9), .ref (am r1), .ref (am r2), .int x3, .int x4] (JH D (cW am cI cC cS) (cTy cI cC cS) st)) (JQ D (aA am 52) (cW am cI cC cS) (cTy cI cC cS) (some (.int rZ)) stZ) 0 0 (aA am 52) := by
  refine jStart (cc := cX7_mostLeft) (maxL := 8) (ret := (some .int)) [.ref (am 9), .ref (am r1), .ref (am r2), .int x3, .int x4] (by decide) rfl (Nat.le_of_ble_eq_true rfl) (fun p e s m below meth c ls hx hb hr hlocks hts hown hml hK hI hl => ?_)
  have hown : s.vm.findClass RX7 = some m.cls := hown
  replace hl : lv_has ls 8 [(0, .ref (am 9)), (1, .ref (am r1)), (2, .ref (am r2)), (3, .int x3), (4, .int x4)] := hl
  generalize hAV : ([.ref (am 9), .ref (am r1), .ref (am r2), .int x3, .int x4] : List Value).toArray = AV at hts ⊢
  have f_0 := hts (.fieldLink RX7 18 "PuppetBar$Sight" "guessed" "[I") (by decide +kernel)
  have f_1 := hts (.methodLink RX7 83 Lib.Math.max.name) (by decide +kernel)
  have f_2 := hts (.static Lib.Math.max.name) (by decide +kernel)
  have f_3 := hts (.initialized "java/lang/Math") (by decide +kernel)
  have f_4 := hts (.code Lib.Math.max.name Lib.Math.max.code 2 (some .int)) (by decide +kernel)
  have f_5 := hts (.fieldLink RX7 24 "PuppetBar$Sight" "trial" "LPuppetBar$Pose;") (by decide +kernel)
  unfold jm_X7_mostLeft at hM
  refine lv_iconst (v := (0 : Int32)) hx hb dX7_mostLeft_0 (by decide) ?_
  refine lv_istore (lv' := [(5, .int (0 : Int32)), (0, .ref (am 9)), (1, .ref (am r1)), (2, .ref (am r2)), (3, .int x3), (4, .int x4)]) hx hb dX7_mostLeft_1 hl (by decide) rfl (fun ls hl => ?_)
  refine lv_iconst (v := (0 : Int32)) hx hb dX7_mostLeft_3 (by decide) ?_
  refine lv_istore (lv' := [(6, .int (0 : Int32)), (5, .int (0 : Int32)), (0, .ref (am 9)), (1, .ref (am r1)), (2, .ref (am r2)), (3, .int x3), (4, .int x4)]) hx hb dX7_mostLeft_4 hl (by decide) rfl (fun ls hl => ?_)
  have lp0 : ∀ (n : Nat) (w2 : Int32) (w3 : Int32) (st1 : PS) (H : Heap) (locs : List Loc) (ls : Array Slot), JI D (aA am 52) (cW am cI cC cS) s.heap st1 H locs → lv_has ls 8 [(0, .ref (am 9)), (1, .ref (am r1)), (2, .ref (am r2)), (3, .int x3), (4, .int x4), (5, .int w2), (6, .int w3)] → iter (fun q => jm_X7_mostLeft_L6 N r1 r2 x3 x4 q.1 q.2.1 q.2.2) n (w2, w3, st1) = some (rZ, stZ) → W p l e (headSpec wsX7_mostLeft { frames := 3, cells := 0, slots := 0, locals := 69 }).room s m AV below meth c H locs 0 0 (MQ below (JQ D (aA am 52) (cW am cI cC cS) (cTy cI cC cS) (some (.int rZ)) stZ) AV s 0 0 (aA am 52)) (F0 m 6 ls []) := by
    intro n
    induction n with
    | zero =>
      intro _ _ _ _ _ _ _ _ hM
      exact absurd hM (fun h => iter_zero h)
    | succ n ih0 =>
      intro w2 w3 st1 H locs ls hI hl hM
      obtain ⟨z0, hM, hk0⟩ := iter_succ hM
      replace hM : jm_X7_mostLeft_L6 N r1 r2 x3 x4 w2 w3 st1 = some z0 := hM
      unfold jm_X7_mostLeft_L6 at hM
      refine lv_iload hx hb dX7_mostLeft_6 (lv_at hl 6 rfl) ?_
      refine lv_bipush (v := (7 : Int32)) hx hb dX7_mostLeft_8 (by decide) ?_
      refine lv_icmp_ge (tgt := 56) hx hb dX7_mostLeft_10 (by decide) (fun c4 => ?_) (fun c4 => ?_)
      · replace hM := if_t c4 hM
        refine lv_iconst (v := (0 : Int32)) hx hb dX7_mostLeft_56 (by decide) ?_
        refine lv_istore (lv' := [(6, .int (0 : Int32)), (0, .ref (am 9)), (1, .ref (am r1)), (2, .ref (am r2)), (3, .int x3), (4, .int x4), (5, .int w2)]) hx hb dX7_mostLeft_57 hl (by decide) rfl (fun ls hl => ?_)
        refine lv_iconst (v := (0 : Int32)) hx hb dX7_mostLeft_59 (by decide) ?_
        refine lv_istore (lv' := [(7, .int (0 : Int32)), (6, .int (0 : Int32)), (0, .ref (am 9)), (1, .ref (am r1)), (2, .ref (am r2)), (3, .int x3), (4, .int x4), (5, .int w2)]) hx hb dX7_mostLeft_60 hl (by decide) rfl (fun ls hl => ?_)
        have lp1 : ∀ (n : Nat) (w6 : Int32) (w7 : Int32) (st5 : PS) (H : Heap) (locs : List Loc) (ls : Array Slot), JI D (aA am 52) (cW am cI cC cS) s.heap st5 H locs → lv_has ls 8 [(0, .ref (am 9)), (1, .ref (am r1)), (2, .ref (am r2)), (3, .int x3), (4, .int x4), (5, .int w2), (6, .int w6), (7, .int w7)] → iter (fun q => jm_X7_mostLeft_L62 N w2 q.1 q.2.1 q.2.2) n (w6, w7, st5) = some z0 → W p l e (headSpec wsX7_mostLeft { frames := 3, cells := 0, slots := 0, locals := 69 }).room s m AV below meth c H locs 0 0 (MQ below (JQ D (aA am 52) (cW am cI cC cS) (cTy cI cC cS) (some (.int rZ)) stZ) AV s 0 0 (aA am 52)) (F0 m 62 ls []) := by
          intro n
          induction n with
          | zero =>
            intro _ _ _ _ _ _ _ _ hM
            exact absurd hM (fun h => iter_zero h)
          | succ n ih1 =>
            intro w6 w7 st5 H locs ls hI hl hM
            obtain ⟨z1, hM, hk1⟩ := iter_succ hM
            replace hM : jm_X7_mostLeft_L62 N w2 w6 w7 st5 = some z1 := hM
            unfold jm_X7_mostLeft_L62 at hM
            refine lv_iload hx hb dX7_mostLeft_62 (lv_at hl 7 rfl) ?_
            refine lv_iload hx hb dX7_mostLeft_64 (lv_at hl 5 rfl) ?_
            refine lv_icmp_ge (tgt := 95) hx hb dX7_mostLeft_66 (by decide) (fun c8 => ?_) (fun c8 => ?_)
            · replace hM := if_t c8 hM
              refine lv_iload hx hb dX7_mostLeft_95 (lv_at hl 6 rfl) ?_
              have hz := Option.some.inj hM
              subst hz
              have hz := kn_r hk1
              subst hz
              have hz := kn_r hk0
              exact W.iret hx hb hr (fun t ht hW => jq_i hK hI hz ht hW) hI.2.2.2 dX7_mostLeft_97
            · replace hM := if_f c8 hM
              refine lv_iload hx hb dX7_mostLeft_69 (lv_at hl 6 rfl) ?_
              refine lv_aload_n hx hb dX7_mostLeft_71 rfl (lv_at hl 0 rfl) ?_
              refine lv_aload_n hx hb dX7_mostLeft_72 rfl (lv_at hl 0 rfl) ?_
              refine va_get (D := D) (ci := 7) (v := .ref (am 12)) (C := RX7) (T := TX7) (N := 5) hx hb hts hi_X7_mostLeft_X7 hown hK hI.1 9 (cg_9 am cI cC cS st5) rfl 2 (by decide) f_0 (fun _ h9 => h9) rfl dX7_mostLeft_73 ?_
              refine lv_iload hx hb dX7_mostLeft_76 (lv_at hl 7 rfl) ?_
              obtain ⟨g9, hM⟩ := gd_at hM
              refine va_iald hx hb hK hI.1 12 0 (cg_12 am cI cC cS st5) rfl (inB_vp g9) dX7_mostLeft_78 ?_
              refine lv_iload hx hb dX7_mostLeft_79 (lv_at hl 5 rfl) ?_
              obtain ⟨v10, st11, hqv10, hM⟩ := bd_at hM
              refine jcallV (C := RX7) (As := [.int (st5.1 12 (w7).toNatClampNeg), .int w2]) (rest := [.int w6]) ⟨hx, hb, hml, hown, hts⟩ (jw_X7_howManyGuessed D am cI cC cS hj N hqv10) (cwV 2 hts gX7_mostLeft_X7_howManyGuessed rfl rfl rfl yd_X7_howManyGuessed ⟨Nat.le_of_ble_eq_true rfl, Nat.le_of_ble_eq_true rfl⟩) hK hI 9 (cg_9 am cI cC cS st5) rfl rfl hl.1 rfl (Nat.le_of_ble_eq_true rfl) dX7_mostLeft_81 (fun H locs hI => ?_)
              refine W.eq (g2 := F0 m 84 ls [.int v10, .int w6]) rfl ?_
              refine va_mmax hx hb (hml.trans hl.1.symm) hown f_1 f_2 f_3 f_4 (Nat.le_of_ble_eq_true rfl) (Nat.le_of_ble_eq_true rfl) (Nat.zero_le _) (Nat.zero_le _) dX7_mostLeft_84 ?_
              refine lv_istore (lv' := [(6, .int (if w6 < v10 then v10 else w6)), (0, .ref (am 9)), (1, .ref (am r1)), (2, .ref (am r2)), (3, .int x3), (4, .int x4), (5, .int w2), (7, .int w7)]) hx hb dX7_mostLeft_87 hl (by decide) rfl (fun ls hl => ?_)
              refine lv_iinc (v := (w7 + (1 : Int32))) (lv' := [(7, .int (w7 + (1 : Int32))), (6, .int (if w6 < v10 then v10 else w6)), (0, .ref (am 9)), (1, .ref (am r1)), (2, .ref (am r2)), (3, .int x3), (4, .int x4), (5, .int w2)]) hx hb dX7_mostLeft_89 hl (k := 7) rfl rfl (by decide) rfl (fun ls hl => ?_)
              refine lv_goto (tgt := 62) hx hb dX7_mostLeft_92 (by decide) ?_
              have hz := Option.some.inj hM
              subst hz
              exact ih1 (if w6 < v10 then v10 else w6) (w7 + (1 : Int32)) st11 _ _ _ hI (lv_sub hl [2, 3, 4, 5, 6, 7, 1, 0] rfl) hk1
        exact lp1 N (0 : Int32) (0 : Int32) st1 _ _ _ hI (lv_sub hl [2, 3, 4, 5, 6, 7, 1, 0] rfl) hM
      · replace hM := if_f c4 hM
        refine lv_iload hx hb dX7_mostLeft_13 (lv_at hl 4 rfl) ?_
        refine lv_iload hx hb dX7_mostLeft_15 (lv_at hl 6 rfl) ?_
        refine lv_ishr hx hb dX7_mostLeft_17 ?_
        refine lv_iconst (v := (1 : Int32)) hx hb dX7_mostLeft_18 (by decide) ?_
        refine lv_iand hx hb dX7_mostLeft_19 ?_
        refine lv_iconst (v := (1 : Int32)) hx hb dX7_mostLeft_20 (by decide) ?_
        refine lv_icmp_ne (tgt := 50) hx hb dX7_mostLeft_21 (by decide) (fun c12 => ?_) (fun c12 => ?_)
        · replace hM := if_f c12 hM
          refine lv_iinc (v := (w3 + (1 : Int32))) (lv' := [(6, .int (w3 + (1 : Int32))), (0, .ref (am 9)), (1, .ref (am r1)), (2, .ref (am r2)), (3, .int x3), (4, .int x4), (5, .int w2)]) hx hb dX7_mostLeft_50 hl (k := 6) rfl rfl (by decide) rfl (fun ls hl => ?_)
          refine lv_goto (tgt := 6) hx hb dX7_mostLeft_53 (by decide) ?_
          have hz := Option.some.inj hM
          subst hz
          exact ih0 w2 (w3 + (1 : Int32)) st1 _ _ _ hI (lv_sub hl [1, 2, 3, 4, 5, 6, 0] rfl) hk0
        · replace hM := if_t c12 hM
          refine lv_aload_n hx hb dX7_mostLeft_24 rfl (lv_at hl 0 rfl) ?_
          refine lv_aload_n hx hb dX7_mostLeft_25 rfl (lv_at hl 2 rfl) ?_
          refine lv_iload hx hb dX7_mostLeft_26 (lv_at hl 6 rfl) ?_
          obtain ⟨v13, st14, hqv13, hM⟩ := bd_at hM
          refine jcallV (C := RX7) (As := [.ref (am r2), .int w3]) (rest := []) ⟨hx, hb, hml, hown, hts⟩ (jw_X7_tryGuess D am cI cC cS hj N h2 hqv13) (cwV 2 hts gX7_mostLeft_X7_tryGuess rfl rfl rfl yd_X7_tryGuess ⟨Nat.le_of_ble_eq_true rfl, Nat.le_of_ble_eq_true rfl⟩) hK hI 9 (cg_9 am cI cC cS st1) rfl rfl hl.1 rfl (Nat.le_of_ble_eq_true rfl) dX7_mostLeft_28 (fun H locs hI => ?_)
          refine W.eq (g2 := F0 m 31 ls []) rfl ?_
          refine lv_aload_n hx hb dX7_mostLeft_31 rfl (lv_at hl 0 rfl) ?_
          refine va_get (D := D) (ci := 7) (v := .ref (am 12)) (C := RX7) (T := TX7) (N := 5) hx hb hts hi_X7_mostLeft_X7 hown hK hI.1 9 (cg_9 am cI cC cS st14) rfl 2 (by decide) f_0 (fun _ h9 => h9) rfl dX7_mostLeft_32 ?_
          refine lv_iload hx hb dX7_mostLeft_35 (lv_at hl 5 rfl) ?_
          refine lv_aload_n hx hb dX7_mostLeft_37 rfl (lv_at hl 1 rfl) ?_
          refine lv_aload_n hx hb dX7_mostLeft_38 rfl (lv_at hl 0 rfl) ?_
          refine va_get (D := D) (ci := 7) (v := .ref (am 13)) (C := RX7) (T := TX7) (N := 5) hx hb hts hi_X7_mostLeft_X7 hown hK hI.1 9 (cg_9 am cI cC cS st14) rfl 3 (by decide) f_5 (fun _ h9 => h9) rfl dX7_mostLeft_39 ?_
          refine lv_iload_n hx hb dX7_mostLeft_42 rfl (lv_at hl 3 rfl) ?_
          obtain ⟨v15, st16, hqv15, hM⟩ := bd_at hM
          refine jcallV (C := RX0) (As := [.ref (am 13), .int x3]) (rest := [.int w2, .ref (am 12)]) ⟨hx, hb, hml, hown, hts⟩ (jw_X0_height D am cI cC cS hj N h1 (show ck_Pose 13 by decide) hqv15) (cwV 2 hts gX7_mostLeft_X0_height rfl rfl rfl yd_X0_height ⟨Nat.le_of_ble_eq_true rfl, Nat.le_of_ble_eq_true rfl⟩) hK hI r1 (cg_Doll am cI cC cS st14 h1) rfl rfl hl.1 rfl (Nat.le_of_ble_eq_true rfl) dX7_mostLeft_43 (fun H locs hI => ?_)
          refine W.eq (g2 := F0 m 46 ls [.int v15, .int w2, .ref (am 12)]) rfl ?_
          obtain ⟨g18, hM⟩ := gd_at hM
          refine jiast (x := v15) (st2 := pU st16 12 (w2).toNatClampNeg (v15)) hx hb hK (cD hj) hI 12 0 (cg_12 am cI cC cS st16) rfl (inB_vp g18) (cs_12 am cI cC cS st16 _) dX7_mostLeft_46 (fun st17 est17 H locs hI => ?_)
          replace hM := nm_at est17 hM
          refine lv_iinc (v := (w2 + (1 : Int32))) (lv' := [(5, .int (w2 + (1 : Int32))), (0, .ref (am 9)), (1, .ref (am r1)), (2, .ref (am r2)), (3, .int x3), (4, .int x4), (6, .int w3)]) hx hb dX7_mostLeft_47 hl (k := 5) rfl rfl (by decide) rfl (fun ls hl => ?_)
          refine lv_iinc (v := (w3 + (1 : Int32))) (lv' := [(6, .int (w3 + (1 : Int32))), (5, .int (w2 + (1 : Int32))), (0, .ref (am 9)), (1, .ref (am r1)), (2, .ref (am r2)), (3, .int x3), (4, .int x4)]) hx hb dX7_mostLeft_50 hl (k := 6) rfl rfl (by decide) rfl (fun ls hl => ?_)
          refine lv_goto (tgt := 6) hx hb dX7_mostLeft_53 (by decide) ?_
          have hz := Option.some.inj hM
          subst hz
          exact ih0 (w2 + (1 : Int32)) (w3 + (1 : Int32)) st17 _ _ _ hI (lv_sub hl [2, 3, 4, 5, 6, 1, 0] rfl) hk0
  exact lp0 N (0 : Int32) (0 : Int32) st _ _ _ hI (lv_sub hl [2, 3, 4, 5, 6, 1, 0] rfl) hM
set_option maxRecDepth 20000 in
theorem hi_X7_limbToLookAt_X0 : ∀ w ∈ wsX00, w ∈ wsX7_limbToLookAt := by decide +kernel
set_option maxHeartbeats 4000000 in
set_option maxRecDepth 100000 in
theorem jw_X7_limbToLookAt {l : Launch} (D : va_G) (am : Nat → Nat) (cI cC cS : ClassId) (hj : aJ am 52) (N : Nat) {r1 : Nat} {r2 : Nat} (h1 : ck_Doll r1) (h2 : ck_Pose r2) {st stZ : PS} {rZ : Int32} (hM : jm_X7_limbToLookAt N r1 r2 st = some (rZ, stZ)) : Met l yX7_limbToLookAt wsX7_limbToLookAt ({ frames := 5, cells := 0, slots := 0, locals := 117 }) (va_Pc [.ref (am 9), .ref (am r1), .ref (am r2)] (JH D (cW am cI cC cS) (cTy cI cC cS) st)) (JQ D (aA am 52) (cW am cI cC cS) (cTy cI cC cS) (some (.int rZ)) stZ) 0 0 (aA am 52) := by
  refine jStart (cc := cX7_limbToLookAt) (maxL := 8) (ret := (some .int)) [.ref (am 9), .ref (am r1), .ref (am r2)] (by decide) rfl (Nat.le_of_ble_eq_true rfl) (fun p e s m below meth c ls hx hb hr hlocks hts hown hml hK hI hl => ?_)
  have hown : s.vm.findClass RX7 = some m.cls := hown
  replace hl : lv_has ls 8 [(0, .ref (am 9)), (1, .ref (am r1)), (2, .ref (am r2))] := hl
  generalize hAV : ([.ref (am 9), .ref (am r1), .ref (am r2)] : List Value).toArray = AV at hts ⊢
  have f_0 := hts (.fieldLink RX7 73 "PuppetBar$Doll" "limbs" "I") (by decide +kernel)
  unfold jm_X7_limbToLookAt at hM
  refine lv_aload_n hx hb dX7_limbToLookAt_0 rfl (lv_at hl 0 rfl) ?_
  refine lv_aload_n hx hb dX7_limbToLookAt_1 rfl (lv_at hl 1 rfl) ?_
  refine lv_aload_n hx hb dX7_limbToLookAt_2 rfl (lv_at hl 2 rfl) ?_
  obtain ⟨v1, st2, hqv1, hM⟩ := bd_at hM
  refine jcallV (C := RX7) (As := [.ref (am r1), .ref (am r2)]) (rest := []) ⟨hx, hb, hml, hown, hts⟩ (jw_X7_suspected D am cI cC cS hj N h1 h2 hqv1) (cwV 2 hts gX7_limbToLookAt_X7_suspected rfl rfl rfl yd_X7_suspected ⟨Nat.le_of_ble_eq_true rfl, Nat.le_of_ble_eq_true rfl⟩) hK hI 9 (cg_9 am cI cC cS st) rfl rfl hl.1 rfl (Nat.le_of_ble_eq_true rfl) dX7_limbToLookAt_3 (fun H locs hI => ?_)
  refine W.eq (g2 := F0 m 6 ls [.int v1]) rfl ?_
  refine lv_istore_n (lv' := [(3, .int v1), (0, .ref (am 9)), (1, .ref (am r1)), (2, .ref (am r2))]) hx hb dX7_limbToLookAt_6 rfl hl (by decide) rfl (fun ls hl => ?_)
  refine lv_iload_n hx hb dX7_limbToLookAt_7 rfl (lv_at hl 0 rfl) ?_
  refine lv_if_ne (tgt := 14) hx hb dX7_limbToLookAt_8 (by decide) (fun c3 => ?_) (fun c3 => ?_)
  · replace hM := if_f c3 hM
    refine lv_bipush (v := (8 : Int32)) hx hb dX7_limbToLookAt_14 (by decide) ?_
    refine lv_istore (lv' := [(4, .int (8 : Int32)), (3, .int v1), (0, .ref (am 9)), (1, .ref (am r1)), (2, .ref (am r2))]) hx hb dX7_limbToLookAt_16 hl (by decide) rfl (fun ls hl => ?_)
    refine lv_bipush (v := (-9 : Int32)) hx hb dX7_limbToLookAt_18 (by decide) ?_
    refine lv_istore (lv' := [(5, .int (-9 : Int32)), (4, .int (8 : Int32)), (3, .int v1), (0, .ref (am 9)), (1, .ref (am r1)), (2, .ref (am r2))]) hx hb dX7_limbToLookAt_20 hl (by decide) rfl (fun ls hl => ?_)
    refine lv_iconst (v := (0 : Int32)) hx hb dX7_limbToLookAt_22 (by decide) ?_
    refine lv_istore (lv' := [(6, .int (0 : Int32)), (5, .int (-9 : Int32)), (4, .int (8 : Int32)), (3, .int v1), (0, .ref (am 9)), (1, .ref (am r1)), (2, .ref (am r2))]) hx hb dX7_limbToLookAt_23 hl (by decide) rfl (fun ls hl => ?_)
    have lp0 : ∀ (n : Nat) (w5 : Int32) (w6 : Int32) (w7 : Int32) (st4 : PS) (H : Heap) (locs : List Loc) (ls : Array Slot), JI D (aA am 52) (cW am cI cC cS) s.heap st4 H locs → lv_has ls 8 [(0, .ref (am 9)), (1, .ref (am r1)), (2, .ref (am r2)), (3, .int v1), (4, .int w5), (5, .int w6), (6, .int w7)] → iter (fun q => jm_X7_limbToLookAt_L25 N r1 r2 v1 q.1 q.2.1 q.2.2.1 q.2.2.2) n (w5, w6, w7, st4) = some (rZ, stZ) → W p l e (headSpec wsX7_limbToLookAt { frames := 5, cells := 0, slots := 0, locals := 117 }).room s m AV below meth c H locs 0 0 (MQ below (JQ D (aA am 52) (cW am cI cC cS) (cTy cI cC cS) (some (.int rZ)) stZ) AV s 0 0 (aA am 52)) (F0 m 25 ls []) := by
      intro n
      induction n with
      | zero =>
        intro _ _ _ _ _ _ _ _ _ hM
        exact absurd hM (fun h => iter_zero h)
      | succ n ih0 =>
        intro w5 w6 w7 st4 H locs ls hI hl hM
        obtain ⟨z0, hM, hk0⟩ := iter_succ hM
        replace hM : jm_X7_limbToLookAt_L25 N r1 r2 v1 w5 w6 w7 st4 = some z0 := hM
        unfold jm_X7_limbToLookAt_L25 at hM
        refine lv_iload hx hb dX7_limbToLookAt_25 (lv_at hl 6 rfl) ?_
        refine lv_aload_n hx hb dX7_limbToLookAt_27 rfl (lv_at hl 1 rfl) ?_
        refine va_get (D := D) (ci := 0) (v := .int (st4.1 r1 7)) (C := RX0) (T := TX0) (N := 11) hx hb hts hi_X7_limbToLookAt_X0 hown hK hI.1 r1 (cg_Doll am cI cC cS st4 h1) rfl 7 (by decide) f_0 (fun _ h9 => h9) rfl dX7_limbToLookAt_28 ?_
        refine lv_icmp_ge (tgt := 66) hx hb dX7_limbToLookAt_31 (by decide) (fun c8 => ?_) (fun c8 => ?_)
        · replace hM := if_t c8 hM
          refine lv_iload hx hb dX7_limbToLookAt_66 (lv_at hl 5 rfl) ?_
          have hz := Option.some.inj hM
          subst hz
          have hz := kn_r hk0
          exact W.iret hx hb hr (fun t ht hW => jq_i hK hI hz ht hW) hI.2.2.2 dX7_limbToLookAt_68
        · replace hM := if_f c8 hM
          refine lv_aload_n hx hb dX7_limbToLookAt_34 rfl (lv_at hl 0 rfl) ?_
          refine lv_aload_n hx hb dX7_limbToLookAt_35 rfl (lv_at hl 1 rfl) ?_
          refine lv_aload_n hx hb dX7_limbToLookAt_36 rfl (lv_at hl 2 rfl) ?_
          refine lv_iload hx hb dX7_limbToLookAt_37 (lv_at hl 6 rfl) ?_
          refine lv_iload_n hx hb dX7_limbToLookAt_39 rfl (lv_at hl 3 rfl) ?_
          obtain ⟨v9, st10, hqv9, hM⟩ := bd_at hM
          refine jcallV (C := RX7) (As := [.ref (am r1), .ref (am r2), .int w7, .int v1]) (rest := []) ⟨hx, hb, hml, hown, hts⟩ (jw_X7_mostLeft D am cI cC cS hj N h1 h2 hqv9) (cwV 4 hts gX7_limbToLookAt_X7_mostLeft rfl rfl rfl yd_X7_mostLeft ⟨Nat.le_of_ble_eq_true rfl, Nat.le_of_ble_eq_true rfl⟩) hK hI 9 (cg_9 am cI cC cS st4) rfl rfl hl.1 rfl (Nat.le_of_ble_eq_true rfl) dX7_limbToLookAt_40 (fun H locs hI => ?_)
          refine W.eq (g2 := F0 m 43 ls [.int v9]) rfl ?_
          refine lv_istore (lv' := [(7, .int v9), (0, .ref (am 9)), (1, .ref (am r1)), (2, .ref (am r2)), (3, .int v1), (4, .int w5), (5, .int w6), (6, .int w7)]) hx hb dX7_limbToLookAt_43 hl (by decide) rfl (fun ls hl => ?_)
          refine lv_iload hx hb dX7_limbToLookAt_45 (lv_at hl 0 rfl) ?_
          refine lv_iload hx hb dX7_limbToLookAt_47 (lv_at hl 5 rfl) ?_
          refine lv_icmp_ge (tgt := 60) hx hb dX7_limbToLookAt_49 (by decide) (fun c11 => ?_) (fun c11 => ?_)
          · replace hM := if_t c11 hM
            refine lv_iinc (v := (w7 + (1 : Int32))) (lv' := [(6, .int (w7 + (1 : Int32))), (7, .int v9), (0, .ref (am 9)), (1, .ref (am r1)), (2, .ref (am r2)), (3, .int v1), (4, .int w5), (5, .int w6)]) hx hb dX7_limbToLookAt_60 hl (k := 7) rfl rfl (by decide) rfl (fun ls hl => ?_)
            refine lv_goto (tgt := 25) hx hb dX7_limbToLookAt_63 (by decide) ?_
            have hz := Option.some.inj hM
            subst hz
            exact ih0 w5 w6 (w7 + (1 : Int32)) st10 _ _ _ hI (lv_sub hl [2, 3, 4, 5, 6, 7, 0] rfl) hk0
          · replace hM := if_f c11 hM
            refine lv_iload hx hb dX7_limbToLookAt_52 (lv_at hl 0 rfl) ?_
            refine lv_istore (lv' := [(4, .int v9), (7, .int v9), (0, .ref (am 9)), (1, .ref (am r1)), (2, .ref (am r2)), (3, .int v1), (5, .int w6), (6, .int w7)]) hx hb dX7_limbToLookAt_54 hl (by decide) rfl (fun ls hl => ?_)
            refine lv_iload hx hb dX7_limbToLookAt_56 (lv_at hl 7 rfl) ?_
            refine lv_istore (lv' := [(5, .int w7), (4, .int v9), (7, .int v9), (0, .ref (am 9)), (1, .ref (am r1)), (2, .ref (am r2)), (3, .int v1), (6, .int w7)]) hx hb dX7_limbToLookAt_58 hl (by decide) rfl (fun ls hl => ?_)
            refine lv_iinc (v := (w7 + (1 : Int32))) (lv' := [(6, .int (w7 + (1 : Int32))), (5, .int w7), (4, .int v9), (7, .int v9), (0, .ref (am 9)), (1, .ref (am r1)), (2, .ref (am r2)), (3, .int v1)]) hx hb dX7_limbToLookAt_60 hl (k := 7) rfl rfl (by decide) rfl (fun ls hl => ?_)
            refine lv_goto (tgt := 25) hx hb dX7_limbToLookAt_63 (by decide) ?_
            have hz := Option.some.inj hM
            subst hz
            exact ih0 v9 w7 (w7 + (1 : Int32)) st10 _ _ _ hI (lv_sub hl [4, 5, 6, 7, 2, 1, 0] rfl) hk0
    exact lp0 N (8 : Int32) (-9 : Int32) (0 : Int32) st2 _ _ _ hI (lv_sub hl [4, 5, 6, 3, 2, 1, 0] rfl) hM
  · replace hM := if_t c3 hM
    refine lv_bipush (v := (-9 : Int32)) hx hb dX7_limbToLookAt_11 (by decide) ?_
    have hz := Option.some.inj hM
    exact W.iret hx hb hr (fun t ht hW => jq_i hK hI hz ht hW) hI.2.2.2 dX7_limbToLookAt_13
set_option maxRecDepth 20000 in
theorem hi_X8_type_X8 : ∀ w ∈ wsX80, w ∈ wsX8_type := by decide +kernel
set_option maxHeartbeats 4000000 in
set_option maxRecDepth 100000 in
theorem jw_X8_type {l : Launch} (D : va_G) (am : Nat → Nat) (cI cC cS : ClassId) (hj : aJ am 52) (N : Nat) {x1 : Int32} {st stZ : PS} {rZ : Int32} (hM : jm_X8_type N x1 st = some (rZ, stZ)) : Met l yX8_type wsX8_type ({ frames := 1, cells := 0, slots := 0, locals := 21 }) (va_Pc [.ref (am 0), .int x1] (JH D (cW am cI cC cS) (cTy cI cC cS) st)) (JQ D (aA am 52) (cW am cI cC cS) (cTy cI cC cS) (some (.int rZ)) stZ) 0 0 (aA am 52) := by
  refine jStart (cc := cX8_type) (maxL := 2) (ret := (some .int)) [.ref (am 0), .int x1] (by decide) rfl (Nat.le_of_ble_eq_true rfl) (fun p e s m below meth c ls hx hb hr hlocks hts hown hml hK hI hl => ?_)
  have hown : s.vm.findClass RX8 = some m.cls := hown
  replace hl : lv_has ls 2 [(0, .ref (am 0)), (1, .int x1)] := hl
  generalize hAV : ([.ref (am 0), .int x1] : List Value).toArray = AV at hts ⊢
  have f_0 := hts (.fieldLink RX8 12 "PuppetBar" "script" "LPuppetBar$Script;") (by decide +kernel)
  unfold jm_X8_type at hM
  refine lv_iload_n hx hb dX8_type_0 rfl (lv_at hl 1 rfl) ?_
  refine lv_if_lt (tgt := 11) hx hb dX8_type_1 (by decide) (fun c1 => ?_) (fun c1 => ?_)
  · replace hM := if_t c1 hM
    refine lv_iconst (v := (-1 : Int32)) hx hb dX8_type_11 (by decide) ?_
    have hz := Option.some.inj hM
    exact W.iret hx hb hr (fun t ht hW => jq_i hK hI hz ht hW) hI.2.2.2 dX8_type_12
  · replace hM := if_f c1 hM
    refine lv_iload_n hx hb dX8_type_4 rfl (lv_at hl 1 rfl) ?_
    refine lv_sipush (v := (255 : Int32)) hx hb dX8_type_5 (by decide) ?_
    refine lv_icmp_le (tgt := 13) hx hb dX8_type_8 (by decide) (fun c2 => ?_) (fun c2 => ?_)
    · replace hM := if_t c2 hM
      refine lv_aload_n hx hb dX8_type_13 rfl (lv_at hl 0 rfl) ?_
      refine va_get (D := D) (ci := 8) (v := .ref (am 1)) (C := RX8) (T := TX8) (N := 9) hx hb hts hi_X8_type_X8 hown hK hI.1 0 (cg_0 am cI cC cS st) rfl 0 (by decide) f_0 (fun _ h9 => h9) rfl dX8_type_14 ?_
      refine lv_iload_n hx hb dX8_type_17 rfl (lv_at hl 1 rfl) ?_
      obtain ⟨v3, st4, hqv3, hM⟩ := bd_at hM
      refine jcallV (C := RX6) (As := [.int x1]) (rest := []) ⟨hx, hb, hml, hown, hts⟩ (jw_X6_add D am cI cC cS hj N hqv3) (cwV 1 hts gX8_type_X6_add rfl rfl rfl yd_X6_add ⟨Nat.le_of_ble_eq_true rfl, Nat.le_of_ble_eq_true rfl⟩) hK hI 1 (cg_1 am cI cC cS st) rfl rfl hl.1 rfl (Nat.le_of_ble_eq_true rfl) dX8_type_18 (fun H locs hI => ?_)
      refine W.eq (g2 := F0 m 21 ls [.int v3]) rfl ?_
      refine lv_if_eq (tgt := 34) hx hb dX8_type_21 (by decide) (fun c5 => ?_) (fun c5 => ?_)
      · replace hM := if_t c5 hM
        refine lv_bipush (v := (-3 : Int32)) hx hb dX8_type_34 (by decide) ?_
        have hz := Option.some.inj hM
        exact W.iret hx hb hr (fun t ht hW => jq_i hK hI hz ht hW) hI.2.2.2 dX8_type_36
      · replace hM := if_f c5 hM
        refine lv_aload_n hx hb dX8_type_24 rfl (lv_at hl 0 rfl) ?_
        refine va_get (D := D) (ci := 8) (v := .ref (am 1)) (C := RX8) (T := TX8) (N := 9) hx hb hts hi_X8_type_X8 hown hK hI.1 0 (cg_0 am cI cC cS st4) rfl 0 (by decide) f_0 (fun _ h9 => h9) rfl dX8_type_25 ?_
        obtain ⟨v6, st7, hqv6, hM⟩ := bd_at hM
        refine jcallV (C := RX6) (As := []) (rest := []) ⟨hx, hb, hml, hown, hts⟩ (jw_X6_size D am cI cC cS hj N hqv6) (cwV 0 hts gX8_type_X6_size rfl rfl rfl yd_X6_size ⟨Nat.le_of_ble_eq_true rfl, Nat.le_of_ble_eq_true rfl⟩) hK hI 1 (cg_1 am cI cC cS st4) rfl rfl hl.1 rfl (Nat.le_of_ble_eq_true rfl) dX8_type_28 (fun H locs hI => ?_)
        refine W.eq (g2 := F0 m 31 ls [.int v6]) rfl ?_
        refine lv_goto (tgt := 36) hx hb dX8_type_31 (by decide) ?_
        have hz := Option.some.inj hM
        exact W.iret hx hb hr (fun t ht hW => jq_i hK hI hz ht hW) hI.2.2.2 dX8_type_36
    · replace hM := if_f c2 hM
      refine lv_iconst (v := (-1 : Int32)) hx hb dX8_type_11 (by decide) ?_
      have hz := Option.some.inj hM
      exact W.iret hx hb hr (fun t ht hW => jq_i hK hI hz ht hW) hI.2.2.2 dX8_type_12
set_option maxRecDepth 20000 in
theorem hi_X8_clear_X8 : ∀ w ∈ wsX80, w ∈ wsX8_clear := by decide +kernel
set_option maxHeartbeats 4000000 in
set_option maxRecDepth 100000 in
theorem jw_X8_clear {l : Launch} (D : va_G) (am : Nat → Nat) (cI cC cS : ClassId) (hj : aJ am 52) (N : Nat) {st stZ : PS} {rZ : Int32} (hM : jm_X8_clear N st = some (rZ, stZ)) : Met l yX8_clear wsX8_clear ({ frames := 1, cells := 0, slots := 0, locals := 21 }) (va_Pc [.ref (am 0)] (JH D (cW am cI cC cS) (cTy cI cC cS) st)) (JQ D (aA am 52) (cW am cI cC cS) (cTy cI cC cS) (some (.int rZ)) stZ) 0 0 (aA am 52) := by
  refine jStart (cc := cX8_clear) (maxL := 1) (ret := (some .int)) [.ref (am 0)] (by decide) rfl (Nat.le_of_ble_eq_true rfl) (fun p e s m below meth c ls hx hb hr hlocks hts hown hml hK hI hl => ?_)
  have hown : s.vm.findClass RX8 = some m.cls := hown
  replace hl : lv_has ls 1 [(0, .ref (am 0))] := hl
  generalize hAV : ([.ref (am 0)] : List Value).toArray = AV at hts ⊢
  have f_0 := hts (.fieldLink RX8 12 "PuppetBar" "script" "LPuppetBar$Script;") (by decide +kernel)
  unfold jm_X8_clear at hM
  refine lv_aload_n hx hb dX8_clear_0 rfl (lv_at hl 0 rfl) ?_
  refine va_get (D := D) (ci := 8) (v := .ref (am 1)) (C := RX8) (T := TX8) (N := 9) hx hb hts hi_X8_clear_X8 hown hK hI.1 0 (cg_0 am cI cC cS st) rfl 0 (by decide) f_0 (fun _ h9 => h9) rfl dX8_clear_1 ?_
  obtain ⟨v1, st2, hqv1, hM⟩ := bd_at hM
  refine jcallV (C := RX6) (As := []) (rest := []) ⟨hx, hb, hml, hown, hts⟩ (jw_X6_empty D am cI cC cS hj N hqv1) (cwV 0 hts gX8_clear_X6_empty rfl rfl rfl yd_X6_empty ⟨Nat.le_of_ble_eq_true rfl, Nat.le_of_ble_eq_true rfl⟩) hK hI 1 (cg_1 am cI cC cS st) rfl rfl hl.1 rfl (Nat.le_of_ble_eq_true rfl) dX8_clear_4 (fun H locs hI => ?_)
  refine W.eq (g2 := F0 m 7 ls [.int v1]) rfl ?_
  have hz := Option.some.inj hM
  exact W.iret hx hb hr (fun t ht hW => jq_i hK hI hz ht hW) hI.2.2.2 dX8_clear_7
set_option maxRecDepth 20000 in
theorem hi_X8_puppet_X8 : ∀ w ∈ wsX80, w ∈ wsX8_puppet := by decide +kernel
set_option maxRecDepth 20000 in
theorem hi_X8_puppet_X0 : ∀ w ∈ wsX00, w ∈ wsX8_puppet := by decide +kernel
set_option maxRecDepth 20000 in
theorem hi_X8_puppet_X5 : ∀ w ∈ wsX50, w ∈ wsX8_puppet := by decide +kernel
set_option maxHeartbeats 4000000 in
set_option maxRecDepth 100000 in
theorem jw_X8_puppet {l : Launch} (D : va_G) (am : Nat → Nat) (cI cC cS : ClassId) (hj : aJ am 52) (N : Nat) {st stZ : PS} {rZ : Int32} (hM : jm_X8_puppet N st = some (rZ, stZ)) : Met l yX8_puppet wsX8_puppet ({ frames := 5, cells := 0, slots := 0, locals := 116 }) (va_Pc [.ref (am 0)] (JH D (cW am cI cC cS) (cTy cI cC cS) st)) (JQ D (aA am 52) (cW am cI cC cS) (cTy cI cC cS) (some (.int rZ)) stZ) 0 0 (aA am 52) := by
  refine jStart (cc := cX8_puppet) (maxL := 3) (ret := (some .int)) [.ref (am 0)] (by decide) rfl (Nat.le_of_ble_eq_true rfl) (fun p e s m below meth c ls hx hb hr hlocks hts hown hml hK hI hl => ?_)
  have hown : s.vm.findClass RX8 = some m.cls := hown
  replace hl : lv_has ls 3 [(0, .ref (am 0))] := hl
  generalize hAV : ([.ref (am 0)] : List Value).toArray = AV at hts ⊢
  have f_0 := hts (.fieldLink RX8 12 "PuppetBar" "script" "LPuppetBar$Script;") (by decide +kernel)
  have f_1 := hts (.fieldLink RX8 23 "PuppetBar" "spare" "LPuppetBar$Doll;") (by decide +kernel)
  have f_2 := hts (.fieldLink RX8 19 "PuppetBar" "doll" "LPuppetBar$Doll;") (by decide +kernel)
  have f_3 := hts (.fieldLink RX8 29 "PuppetBar" "scene" "LPuppetBar$Scene;") (by decide +kernel)
  have f_4 := hts (.fieldLink RX8 89 "PuppetBar$Doll" "first" "LPuppetBar$Pose;") (by decide +kernel)
  have f_5 := hts (.fieldLink RX8 40 "PuppetBar" "sight" "LPuppetBar$Sight;") (by decide +kernel)
  have f_6 := hts (.fieldLink RX8 33 "PuppetBar" "images" "[LPuppetBar$Scene;") (by decide +kernel)
  have f_7 := hts (.fieldLink RX8 96 "PuppetBar$Scene" "kept" "Z") (by decide +kernel)
  unfold jm_X8_puppet at hM
  refine lv_aload_n hx hb dX8_puppet_0 rfl (lv_at hl 0 rfl) ?_
  refine va_get (D := D) (ci := 8) (v := .ref (am 1)) (C := RX8) (T := TX8) (N := 9) hx hb hts hi_X8_puppet_X8 hown hK hI.1 0 (cg_0 am cI cC cS st) rfl 0 (by decide) f_0 (fun _ h9 => h9) rfl dX8_puppet_1 ?_
  refine lv_aload_n hx hb dX8_puppet_4 rfl (lv_at hl 0 rfl) ?_
  refine va_get (D := D) (ci := 8) (v := .ref (am 27)) (C := RX8) (T := TX8) (N := 9) hx hb hts hi_X8_puppet_X8 hown hK hI.1 0 (cg_0 am cI cC cS st) rfl 2 (by decide) f_1 (fun _ h9 => h9) rfl dX8_puppet_5 ?_
  obtain ⟨v1, st2, hqv1, hM⟩ := bd_at hM
  refine jcallV (C := RX6) (As := [.ref (am 27)]) (rest := []) ⟨hx, hb, hml, hown, hts⟩ (jw_X6_readInto D am cI cC cS hj N (show ck_Doll 27 by decide) hqv1) (cwV 1 hts gX8_puppet_X6_readInto rfl rfl rfl yd_X6_readInto ⟨Nat.le_of_ble_eq_true rfl, Nat.le_of_ble_eq_true rfl⟩) hK hI 1 (cg_1 am cI cC cS st) rfl rfl hl.1 rfl (Nat.le_of_ble_eq_true rfl) dX8_puppet_8 (fun H locs hI => ?_)
  refine W.eq (g2 := F0 m 11 ls [.int v1]) rfl ?_
  refine lv_istore_n (lv' := [(1, .int v1), (0, .ref (am 0))]) hx hb dX8_puppet_11 rfl hl (by decide) rfl (fun ls hl => ?_)
  refine lv_iload_n hx hb dX8_puppet_12 rfl (lv_at hl 0 rfl) ?_
  refine lv_if_ge (tgt := 18) hx hb dX8_puppet_13 (by decide) (fun c3 => ?_) (fun c3 => ?_)
  · replace hM := if_t c3 hM
    refine lv_aload_n hx hb dX8_puppet_18 rfl (lv_at hl 1 rfl) ?_
    refine va_get (D := D) (ci := 8) (v := .ref (am 1)) (C := RX8) (T := TX8) (N := 9) hx hb hts hi_X8_puppet_X8 hown hK hI.1 0 (cg_0 am cI cC cS st2) rfl 0 (by decide) f_0 (fun _ h9 => h9) rfl dX8_puppet_19 ?_
    obtain ⟨v4, st5, hqv4, hM⟩ := bd_at hM
    refine jcallV (C := RX6) (As := []) (rest := []) ⟨hx, hb, hml, hown, hts⟩ (jw_X6_empty D am cI cC cS hj N hqv4) (cwV 0 hts gX8_puppet_X6_empty rfl rfl rfl yd_X6_empty ⟨Nat.le_of_ble_eq_true rfl, Nat.le_of_ble_eq_true rfl⟩) hK hI 1 (cg_1 am cI cC cS st2) rfl rfl hl.1 rfl (Nat.le_of_ble_eq_true rfl) dX8_puppet_22 (fun H locs hI => ?_)
    refine W.eq (g2 := F0 m 25 ls [.int v4]) rfl ?_
    refine lv_pop hx hb dX8_puppet_25 rfl ?_
    refine lv_aload_n hx hb dX8_puppet_26 rfl (lv_at hl 1 rfl) ?_
    refine va_get (D := D) (ci := 8) (v := .ref (am 17)) (C := RX8) (T := TX8) (N := 9) hx hb hts hi_X8_puppet_X8 hown hK hI.1 0 (cg_0 am cI cC cS st5) rfl 1 (by decide) f_2 (fun _ h9 => h9) rfl dX8_puppet_27 ?_
    refine lv_aload_n hx hb dX8_puppet_30 rfl (lv_at hl 1 rfl) ?_
    refine va_get (D := D) (ci := 8) (v := .ref (am 27)) (C := RX8) (T := TX8) (N := 9) hx hb hts hi_X8_puppet_X8 hown hK hI.1 0 (cg_0 am cI cC cS st5) rfl 2 (by decide) f_1 (fun _ h9 => h9) rfl dX8_puppet_31 ?_
    obtain ⟨v6, st7, hqv6, hM⟩ := bd_at hM
    refine jcallV (C := RX0) (As := [.ref (am 27)]) (rest := []) ⟨hx, hb, hml, hown, hts⟩ (jw_X0_copyFrom D am cI cC cS hj N (show ck_Doll 17 by decide) (show ck_Doll 27 by decide) hqv6) (cwV 1 hts gX8_puppet_X0_copyFrom rfl rfl rfl yd_X0_copyFrom ⟨Nat.le_of_ble_eq_true rfl, Nat.le_of_ble_eq_true rfl⟩) hK hI 17 (cg_17 am cI cC cS st5) rfl rfl hl.1 rfl (Nat.le_of_ble_eq_true rfl) dX8_puppet_34 (fun H locs hI => ?_)
    refine W.eq (g2 := F0 m 37 ls []) rfl ?_
    refine lv_aload_n hx hb dX8_puppet_37 rfl (lv_at hl 1 rfl) ?_
    refine va_get (D := D) (ci := 8) (v := .ref (am 37)) (C := RX8) (T := TX8) (N := 9) hx hb hts hi_X8_puppet_X8 hown hK hI.1 0 (cg_0 am cI cC cS st7) rfl 3 (by decide) f_3 (fun _ h9 => h9) rfl dX8_puppet_38 ?_
    refine lv_aload_n hx hb dX8_puppet_41 rfl (lv_at hl 1 rfl) ?_
    refine va_get (D := D) (ci := 8) (v := .ref (am 17)) (C := RX8) (T := TX8) (N := 9) hx hb hts hi_X8_puppet_X8 hown hK hI.1 0 (cg_0 am cI cC cS st7) rfl 1 (by decide) f_2 (fun _ h9 => h9) rfl dX8_puppet_42 ?_
    refine va_get (D := D) (ci := 0) (v := .ref (am 25)) (C := RX0) (T := TX0) (N := 11) hx hb hts hi_X8_puppet_X0 hown hK hI.1 17 (cg_17 am cI cC cS st7) rfl 6 (by decide) f_4 (fun _ h9 => h9) rfl dX8_puppet_45 ?_
    obtain ⟨v8, st9, hqv8, hM⟩ := bd_at hM
    refine jcallV (C := RX5) (As := [.ref (am 25)]) (rest := []) ⟨hx, hb, hml, hown, hts⟩ (jw_X5_begin D am cI cC cS hj N (show ck_Scene 37 by decide) (show ck_Pose 25 by decide) hqv8) (cwV 1 hts gX8_puppet_X5_begin rfl rfl rfl yd_X5_begin ⟨Nat.le_of_ble_eq_true rfl, Nat.le_of_ble_eq_true rfl⟩) hK hI 37 (cg_37 am cI cC cS st7) rfl rfl hl.1 rfl (Nat.le_of_ble_eq_true rfl) dX8_puppet_48 (fun H locs hI => ?_)
    refine W.eq (g2 := F0 m 51 ls []) rfl ?_
    refine lv_iconst (v := (0 : Int32)) hx hb dX8_puppet_51 (by decide) ?_
    refine lv_istore_n (lv' := [(2, .int (0 : Int32)), (1, .int v1), (0, .ref (am 0))]) hx hb dX8_puppet_52 rfl hl (by decide) rfl (fun ls hl => ?_)
    have lp0 : ∀ (n : Nat) (w11 : Int32) (st10 : PS) (H : Heap) (locs : List Loc) (ls : Array Slot), JI D (aA am 52) (cW am cI cC cS) s.heap st10 H locs → lv_has ls 3 [(0, .ref (am 0)), (1, .int v1), (2, .int w11)] → iter (fun q => jm_X8_puppet_L53 N v1 q.1 q.2) n (w11, st10) = some (rZ, stZ) → W p l e (headSpec wsX8_puppet { frames := 5, cells := 0, slots := 0, locals := 116 }).room s m AV below meth c H locs 0 0 (MQ below (JQ D (aA am 52) (cW am cI cC cS) (cTy cI cC cS) (some (.int rZ)) stZ) AV s 0 0 (aA am 52)) (F0 m 53 ls []) := by
      intro n
      induction n with
      | zero =>
        intro _ _ _ _ _ _ _ hM
        exact absurd hM (fun h => iter_zero h)
      | succ n ih0 =>
        intro w11 st10 H locs ls hI hl hM
        obtain ⟨z0, hM, hk0⟩ := iter_succ hM
        replace hM : jm_X8_puppet_L53 N v1 w11 st10 = some z0 := hM
        unfold jm_X8_puppet_L53 at hM
        refine lv_iload_n hx hb dX8_puppet_53 rfl (lv_at hl 2 rfl) ?_
        refine lv_iconst (v := (2 : Int32)) hx hb dX8_puppet_54 (by decide) ?_
        refine lv_icmp_ge (tgt := 74) hx hb dX8_puppet_55 (by decide) (fun c12 => ?_) (fun c12 => ?_)
        · replace hM := if_t c12 hM
          refine lv_aload_n hx hb dX8_puppet_74 rfl (lv_at hl 0 rfl) ?_
          refine va_get (D := D) (ci := 8) (v := .ref (am 9)) (C := RX8) (T := TX8) (N := 9) hx hb hts hi_X8_puppet_X8 hown hK hI.1 0 (cg_0 am cI cC cS st10) rfl 5 (by decide) f_5 (fun _ h9 => h9) rfl dX8_puppet_75 ?_
          obtain ⟨v13, st14, hqv13, hM⟩ := bd_at hM
          refine jcallV (C := RX7) (As := []) (rest := []) ⟨hx, hb, hml, hown, hts⟩ (jw_X7_empty D am cI cC cS hj N hqv13) (cwV 0 hts gX8_puppet_X7_empty rfl rfl rfl yd_X7_empty ⟨Nat.le_of_ble_eq_true rfl, Nat.le_of_ble_eq_true rfl⟩) hK hI 9 (cg_9 am cI cC cS st10) rfl rfl hl.1 rfl (Nat.le_of_ble_eq_true rfl) dX8_puppet_78 (fun H locs hI => ?_)
          refine W.eq (g2 := F0 m 81 ls [.int v13]) rfl ?_
          refine lv_pop hx hb dX8_puppet_81 rfl ?_
          refine lv_iload_n hx hb dX8_puppet_82 rfl (lv_at hl 1 rfl) ?_
          have hz := Option.some.inj hM
          subst hz
          have hz := kn_r hk0
          exact W.iret hx hb hr (fun t ht hW => jq_i hK hI hz ht hW) hI.2.2.2 dX8_puppet_83
        · replace hM := if_f c12 hM
          refine lv_aload_n hx hb dX8_puppet_58 rfl (lv_at hl 0 rfl) ?_
          refine va_get (D := D) (ci := 8) (v := .ref (am 4)) (C := RX8) (T := TX8) (N := 9) hx hb hts hi_X8_puppet_X8 hown hK hI.1 0 (cg_0 am cI cC cS st10) rfl 4 (by decide) f_6 (fun _ h9 => h9) rfl dX8_puppet_59 ?_
          refine lv_iload_n hx hb dX8_puppet_62 rfl (lv_at hl 2 rfl) ?_
          by_cases c15 : w11 = 0
          · replace hM := if_t c15 hM
            refine va_aldq hx hb hK hI.1 4 2 (cg_4 am cI cC cS st10) rfl (by rw [c15]; exact inB_vp rfl) dX8_puppet_63 ?_
            refine W.eq (g2 := F0 m 64 ls [.ref (am 42)]) (by rw [c15]; rfl) ?_
            refine lv_iconst (v := (0 : Int32)) hx hb dX8_puppet_64 (by decide) ?_
            refine jput (D := D) (ci := 5) (v := .int (0 : Int32)) (ty := .boolean) (C := RX5) (T := TX5) (N := 3) (st2 := pU st10 42 2 (0 : Int32)) hx hb hts hi_X8_puppet_X5 tyX5 tyX5_ok nmX5 hown hK (cD hj) hI 42 (cg_42 am cI cC cS st10) rfl 2 (by decide) f_7 (fun _ h9 => h9) rfl (by decide +kernel) rfl rfl (Nat.le_of_ble_eq_true rfl) (cs_42_2 am cI cC cS st10 _) dX8_puppet_65 (fun st17 est17 H locs hI => ?_)
            replace hM := nm_at est17 hM
            refine lv_iinc (v := (w11 + (1 : Int32))) (lv' := [(2, .int (w11 + (1 : Int32))), (0, .ref (am 0)), (1, .int v1)]) hx hb dX8_puppet_68 hl (k := 2) rfl rfl (by decide) rfl (fun ls hl => ?_)
            refine lv_goto (tgt := 53) hx hb dX8_puppet_71 (by decide) ?_
            have hz := Option.some.inj hM
            subst hz
            exact ih0 (w11 + (1 : Int32)) st17 _ _ _ hI (lv_sub hl [1, 2, 0] rfl) hk0
          · replace hM := if_f c15 hM
            by_cases c16 : w11 = 1
            · replace hM := if_t c16 hM
              refine va_aldq hx hb hK hI.1 4 2 (cg_4 am cI cC cS st10) rfl (by rw [c16]; exact inB_vp rfl) dX8_puppet_63 ?_
              refine W.eq (g2 := F0 m 64 ls [.ref (am 47)]) (by rw [c16]; rfl) ?_
              refine lv_iconst (v := (0 : Int32)) hx hb dX8_puppet_64 (by decide) ?_
              refine jput (D := D) (ci := 5) (v := .int (0 : Int32)) (ty := .boolean) (C := RX5) (T := TX5) (N := 3) (st2 := pU st10 47 2 (0 : Int32)) hx hb hts hi_X8_puppet_X5 tyX5 tyX5_ok nmX5 hown hK (cD hj) hI 47 (cg_47 am cI cC cS st10) rfl 2 (by decide) f_7 (fun _ h9 => h9) rfl (by decide +kernel) rfl rfl (Nat.le_of_ble_eq_true rfl) (cs_47_2 am cI cC cS st10 _) dX8_puppet_65 (fun st18 est18 H locs hI => ?_)
              replace hM := nm_at est18 hM
              refine lv_iinc (v := (w11 + (1 : Int32))) (lv' := [(2, .int (w11 + (1 : Int32))), (0, .ref (am 0)), (1, .int v1)]) hx hb dX8_puppet_68 hl (k := 2) rfl rfl (by decide) rfl (fun ls hl => ?_)
              refine lv_goto (tgt := 53) hx hb dX8_puppet_71 (by decide) ?_
              have hz := Option.some.inj hM
              subst hz
              exact ih0 (w11 + (1 : Int32)) st18 _ _ _ hI (lv_sub hl [1, 2, 0] rfl) hk0
            · replace hM := if_f c16 hM
              cases hM
    exact lp0 N (0 : Int32) st9 _ _ _ hI (lv_sub hl [2, 1, 0] rfl) hM
  · replace hM := if_f c3 hM
    refine lv_iload_n hx hb dX8_puppet_16 rfl (lv_at hl 0 rfl) ?_
    have hz := Option.some.inj hM
    exact W.iret hx hb hr (fun t ht hW => jq_i hK hI hz ht hW) hI.2.2.2 dX8_puppet_17
set_option maxRecDepth 20000 in
theorem hi_X8_isLimb_X8 : ∀ w ∈ wsX80, w ∈ wsX8_isLimb := by decide +kernel
set_option maxRecDepth 20000 in
theorem hi_X8_isLimb_X0 : ∀ w ∈ wsX00, w ∈ wsX8_isLimb := by decide +kernel
set_option maxHeartbeats 4000000 in
set_option maxRecDepth 100000 in
theorem jw_X8_isLimb {l : Launch} (D : va_G) (am : Nat → Nat) (cI cC cS : ClassId) (hj : aJ am 52) (N : Nat) {x1 : Int32} {st stZ : PS} {rZ : Int32} (hM : jm_X8_isLimb N x1 st = some (rZ, stZ)) : Met l yX8_isLimb wsX8_isLimb ({ frames := 0, cells := 0, slots := 0, locals := 0 }) (va_Pc [.ref (am 0), .int x1] (JH D (cW am cI cC cS) (cTy cI cC cS) st)) (JQ D (aA am 52) (cW am cI cC cS) (cTy cI cC cS) (some (.int rZ)) stZ) 0 0 (aA am 52) := by
  refine jStart (cc := cX8_isLimb) (maxL := 2) (ret := (some .boolean)) [.ref (am 0), .int x1] (by decide) rfl (Nat.le_of_ble_eq_true rfl) (fun p e s m below meth c ls hx hb hr hlocks hts hown hml hK hI hl => ?_)
  have hown : s.vm.findClass RX8 = some m.cls := hown
  replace hl : lv_has ls 2 [(0, .ref (am 0)), (1, .int x1)] := hl
  generalize hAV : ([.ref (am 0), .int x1] : List Value).toArray = AV at hts ⊢
  have f_0 := hts (.fieldLink RX8 19 "PuppetBar" "doll" "LPuppetBar$Doll;") (by decide +kernel)
  have f_1 := hts (.fieldLink RX8 235 "PuppetBar$Doll" "limbs" "I") (by decide +kernel)
  unfold jm_X8_isLimb at hM
  refine lv_iload_n hx hb dX8_isLimb_0 rfl (lv_at hl 1 rfl) ?_
  refine lv_if_lt (tgt := 19) hx hb dX8_isLimb_1 (by decide) (fun c1 => ?_) (fun c1 => ?_)
  · replace hM := if_t c1 hM
    refine lv_iconst (v := (0 : Int32)) hx hb dX8_isLimb_19 (by decide) ?_
    have hz := Option.some.inj hM
    exact W.zret hx hb hr rfl (fun t ht hW => jq_i hK hI hz ht hW) hI.2.2.2 dX8_isLimb_20
  · replace hM := if_f c1 hM
    refine lv_iload_n hx hb dX8_isLimb_4 rfl (lv_at hl 1 rfl) ?_
    refine lv_aload_n hx hb dX8_isLimb_5 rfl (lv_at hl 0 rfl) ?_
    refine va_get (D := D) (ci := 8) (v := .ref (am 17)) (C := RX8) (T := TX8) (N := 9) hx hb hts hi_X8_isLimb_X8 hown hK hI.1 0 (cg_0 am cI cC cS st) rfl 1 (by decide) f_0 (fun _ h9 => h9) rfl dX8_isLimb_6 ?_
    refine va_get (D := D) (ci := 0) (v := .int (st.1 17 7)) (C := RX0) (T := TX0) (N := 11) hx hb hts hi_X8_isLimb_X0 hown hK hI.1 17 (cg_17 am cI cC cS st) rfl 7 (by decide) f_1 (fun _ h9 => h9) rfl dX8_isLimb_9 ?_
    refine lv_icmp_ge (tgt := 19) hx hb dX8_isLimb_12 (by decide) (fun c2 => ?_) (fun c2 => ?_)
    · replace hM := if_t c2 hM
      refine lv_iconst (v := (0 : Int32)) hx hb dX8_isLimb_19 (by decide) ?_
      have hz := Option.some.inj hM
      exact W.zret hx hb hr rfl (fun t ht hW => jq_i hK hI hz ht hW) hI.2.2.2 dX8_isLimb_20
    · replace hM := if_f c2 hM
      refine lv_iconst (v := (1 : Int32)) hx hb dX8_isLimb_15 (by decide) ?_
      refine lv_goto (tgt := 20) hx hb dX8_isLimb_16 (by decide) ?_
      have hz := Option.some.inj hM
      exact W.zret hx hb hr rfl (fun t ht hW => jq_i hK hI hz ht hW) hI.2.2.2 dX8_isLimb_20
set_option maxRecDepth 20000 in
theorem hi_X8_limb_X8 : ∀ w ∈ wsX80, w ∈ wsX8_limb := by decide +kernel
set_option maxRecDepth 20000 in
theorem hi_X8_limb_X0 : ∀ w ∈ wsX00, w ∈ wsX8_limb := by decide +kernel
set_option maxRecDepth 20000 in
theorem hi_X8_limb_X5 : ∀ w ∈ wsX50, w ∈ wsX8_limb := by decide +kernel
set_option maxHeartbeats 4000000 in
set_option maxRecDepth 100000 in
theorem jw_X8_limb {l : Launch} (D : va_G) (am : Nat → Nat) (cI cC cS : ClassId) (hj : aJ am 52) (N : Nat) {x1 : Int32} {x2 : Int32} {st stZ : PS} {rZ : Int32} (hM : jm_X8_limb N x1 x2 st = some (rZ, stZ)) : Met l yX8_limb wsX8_limb ({ frames := 3, cells := 0, slots := 0, locals := 71 }) (va_Pc [.ref (am 0), .int x1, .int x2] (JH D (cW am cI cC cS) (cTy cI cC cS) st)) (JQ D (aA am 52) (cW am cI cC cS) (cTy cI cC cS) (some (.int rZ)) stZ) 0 0 (aA am 52) := by
  refine jStart (cc := cX8_limb) (maxL := 3) (ret := (some .int)) [.ref (am 0), .int x1, .int x2] (by decide) rfl (Nat.le_of_ble_eq_true rfl) (fun p e s m below meth c ls hx hb hr hlocks hts hown hml hK hI hl => ?_)
  have hown : s.vm.findClass RX8 = some m.cls := hown
  replace hl : lv_has ls 3 [(0, .ref (am 0)), (1, .int x1), (2, .int x2)] := hl
  generalize hAV : ([.ref (am 0), .int x1, .int x2] : List Value).toArray = AV at hts ⊢
  have f_0 := hts (.fieldLink RX8 19 "PuppetBar" "doll" "LPuppetBar$Doll;") (by decide +kernel)
  have f_1 := hts (.fieldLink RX8 104 "PuppetBar$Doll" "parent" "[I") (by decide +kernel)
  have f_2 := hts (.fieldLink RX8 108 "PuppetBar$Doll" "bone" "[I") (by decide +kernel)
  have f_3 := hts (.fieldLink RX8 111 "PuppetBar$Doll" "weight" "[I") (by decide +kernel)
  have f_4 := hts (.fieldLink RX8 29 "PuppetBar" "scene" "LPuppetBar$Scene;") (by decide +kernel)
  have f_5 := hts (.fieldLink RX8 65 "PuppetBar$Scene" "pose" "LPuppetBar$Pose;") (by decide +kernel)
  unfold jm_X8_limb at hM
  refine lv_aload_n hx hb dX8_limb_0 rfl (lv_at hl 0 rfl) ?_
  refine lv_iload_n hx hb dX8_limb_1 rfl (lv_at hl 1 rfl) ?_
  obtain ⟨v1, st2, hqv1, hM⟩ := bd_at hM
  refine jcallV (C := RX8) (As := [.int x1]) (rest := []) ⟨hx, hb, hml, hown, hts⟩ (jw_X8_isLimb D am cI cC cS hj N hqv1) (cwV 1 hts gX8_limb_X8_isLimb rfl rfl rfl yd_X8_isLimb ⟨Nat.le_of_ble_eq_true rfl, Nat.le_of_ble_eq_true rfl⟩) hK hI 0 (cg_0 am cI cC cS st) rfl rfl hl.1 rfl (Nat.le_of_ble_eq_true rfl) dX8_limb_2 (fun H locs hI => ?_)
  refine W.eq (g2 := F0 m 5 ls [.int v1]) rfl ?_
  refine lv_if_ne (tgt := 10) hx hb dX8_limb_5 (by decide) (fun c3 => ?_) (fun c3 => ?_)
  · replace hM := if_f c3 hM
    refine lv_iload_n hx hb dX8_limb_10 rfl (lv_at hl 2 rfl) ?_
    by_cases c4 : x2 = (0 : Int32)
    · replace hM := if_t c4 hM
      refine lv_tableIn (off := 33) (tgt := 44) hx hb dX8_limb_11 (by rw [c4]; decide) (by rw [c4]; decide) (by rw [c4]; decide) (by decide) ?_
      refine lv_iload_n hx hb dX8_limb_44 rfl (lv_at hl 1 rfl) ?_
      refine lv_if_ne (tgt := 53) hx hb dX8_limb_45 (by decide) (fun c5 => ?_) (fun c5 => ?_)
      · replace hM := if_f c5 hM
        refine lv_aload_n hx hb dX8_limb_53 rfl (lv_at hl 0 rfl) ?_
        refine va_get (D := D) (ci := 8) (v := .ref (am 17)) (C := RX8) (T := TX8) (N := 9) hx hb hts hi_X8_limb_X8 hown hK hI.1 0 (cg_0 am cI cC cS st2) rfl 1 (by decide) f_0 (fun _ h9 => h9) rfl dX8_limb_54 ?_
        refine va_get (D := D) (ci := 0) (v := .ref (am 18)) (C := RX0) (T := TX0) (N := 11) hx hb hts hi_X8_limb_X0 hown hK hI.1 17 (cg_17 am cI cC cS st2) rfl 0 (by decide) f_1 (fun _ h9 => h9) rfl dX8_limb_57 ?_
        refine lv_iload_n hx hb dX8_limb_60 rfl (lv_at hl 1 rfl) ?_
        obtain ⟨g6, hM⟩ := gd_at hM
        refine va_iald hx hb hK hI.1 18 0 (cg_18 am cI cC cS st2) rfl (inB_vp g6) dX8_limb_61 ?_
        have hz := Option.some.inj hM
        exact W.iret hx hb hr (fun t ht hW => jq_i hK hI hz ht hW) hI.2.2.2 dX8_limb_62
      · replace hM := if_t c5 hM
        refine lv_bipush (v := (-9 : Int32)) hx hb dX8_limb_48 (by decide) ?_
        refine lv_goto (tgt := 62) hx hb dX8_limb_50 (by decide) ?_
        have hz := Option.some.inj hM
        exact W.iret hx hb hr (fun t ht hW => jq_i hK hI hz ht hW) hI.2.2.2 dX8_limb_62
    · replace hM := if_f c4 hM
      by_cases c7 : x2 = (1 : Int32)
      · replace hM := if_t c7 hM
        refine lv_tableIn (off := 52) (tgt := 63) hx hb dX8_limb_11 (by rw [c7]; decide) (by rw [c7]; decide) (by rw [c7]; decide) (by decide) ?_
        refine lv_aload_n hx hb dX8_limb_63 rfl (lv_at hl 0 rfl) ?_
        refine va_get (D := D) (ci := 8) (v := .ref (am 17)) (C := RX8) (T := TX8) (N := 9) hx hb hts hi_X8_limb_X8 hown hK hI.1 0 (cg_0 am cI cC cS st2) rfl 1 (by decide) f_0 (fun _ h9 => h9) rfl dX8_limb_64 ?_
        refine va_get (D := D) (ci := 0) (v := .ref (am 19)) (C := RX0) (T := TX0) (N := 11) hx hb hts hi_X8_limb_X0 hown hK hI.1 17 (cg_17 am cI cC cS st2) rfl 1 (by decide) f_2 (fun _ h9 => h9) rfl dX8_limb_67 ?_
        refine lv_iload_n hx hb dX8_limb_70 rfl (lv_at hl 1 rfl) ?_
        obtain ⟨g8, hM⟩ := gd_at hM
        refine va_iald hx hb hK hI.1 19 0 (cg_19 am cI cC cS st2) rfl (inB_vp g8) dX8_limb_71 ?_
        have hz := Option.some.inj hM
        exact W.iret hx hb hr (fun t ht hW => jq_i hK hI hz ht hW) hI.2.2.2 dX8_limb_72
      · replace hM := if_f c7 hM
        by_cases c9 : x2 = (2 : Int32)
        · replace hM := if_t c9 hM
          refine lv_tableIn (off := 62) (tgt := 73) hx hb dX8_limb_11 (by rw [c9]; decide) (by rw [c9]; decide) (by rw [c9]; decide) (by decide) ?_
          refine lv_aload_n hx hb dX8_limb_73 rfl (lv_at hl 0 rfl) ?_
          refine va_get (D := D) (ci := 8) (v := .ref (am 17)) (C := RX8) (T := TX8) (N := 9) hx hb hts hi_X8_limb_X8 hown hK hI.1 0 (cg_0 am cI cC cS st2) rfl 1 (by decide) f_0 (fun _ h9 => h9) rfl dX8_limb_74 ?_
          refine va_get (D := D) (ci := 0) (v := .ref (am 20)) (C := RX0) (T := TX0) (N := 11) hx hb hts hi_X8_limb_X0 hown hK hI.1 17 (cg_17 am cI cC cS st2) rfl 2 (by decide) f_3 (fun _ h9 => h9) rfl dX8_limb_77 ?_
          refine lv_iload_n hx hb dX8_limb_80 rfl (lv_at hl 1 rfl) ?_
          obtain ⟨g10, hM⟩ := gd_at hM
          refine va_iald hx hb hK hI.1 20 0 (cg_20 am cI cC cS st2) rfl (inB_vp g10) dX8_limb_81 ?_
          have hz := Option.some.inj hM
          exact W.iret hx hb hr (fun t ht hW => jq_i hK hI hz ht hW) hI.2.2.2 dX8_limb_82
        · replace hM := if_f c9 hM
          by_cases c11 : x2 = (3 : Int32)
          · replace hM := if_t c11 hM
            refine lv_tableIn (off := 72) (tgt := 83) hx hb dX8_limb_11 (by rw [c11]; decide) (by rw [c11]; decide) (by rw [c11]; decide) (by decide) ?_
            refine lv_aload_n hx hb dX8_limb_83 rfl (lv_at hl 0 rfl) ?_
            refine va_get (D := D) (ci := 8) (v := .ref (am 17)) (C := RX8) (T := TX8) (N := 9) hx hb hts hi_X8_limb_X8 hown hK hI.1 0 (cg_0 am cI cC cS st2) rfl 1 (by decide) f_0 (fun _ h9 => h9) rfl dX8_limb_84 ?_
            refine lv_aload_n hx hb dX8_limb_87 rfl (lv_at hl 0 rfl) ?_
            refine va_get (D := D) (ci := 8) (v := .ref (am 37)) (C := RX8) (T := TX8) (N := 9) hx hb hts hi_X8_limb_X8 hown hK hI.1 0 (cg_0 am cI cC cS st2) rfl 3 (by decide) f_4 (fun _ h9 => h9) rfl dX8_limb_88 ?_
            refine va_get (D := D) (ci := 5) (v := .ref (am 38)) (C := RX5) (T := TX5) (N := 3) hx hb hts hi_X8_limb_X5 hown hK hI.1 37 (cg_37 am cI cC cS st2) rfl 0 (by decide) f_5 (fun _ h9 => h9) rfl dX8_limb_91 ?_
            refine lv_iload_n hx hb dX8_limb_94 rfl (lv_at hl 1 rfl) ?_
            obtain ⟨v12, st13, hqv12, hM⟩ := bd_at hM
            refine jcallV (C := RX0) (As := [.ref (am 38), .int x1]) (rest := []) ⟨hx, hb, hml, hown, hts⟩ (jw_X0_height D am cI cC cS hj N (show ck_Doll 17 by decide) (show ck_Pose 38 by decide) hqv12) (cwV 2 hts gX8_limb_X0_height rfl rfl rfl yd_X0_height ⟨Nat.le_of_ble_eq_true rfl, Nat.le_of_ble_eq_true rfl⟩) hK hI 17 (cg_17 am cI cC cS st2) rfl rfl hl.1 rfl (Nat.le_of_ble_eq_true rfl) dX8_limb_95 (fun H locs hI => ?_)
            refine W.eq (g2 := F0 m 98 ls [.int v12]) rfl ?_
            have hz := Option.some.inj hM
            exact W.iret hx hb hr (fun t ht hW => jq_i hK hI hz ht hW) hI.2.2.2 dX8_limb_98
          · replace hM := if_f c11 hM
            by_cases c14 : x2 = (4 : Int32)
            · replace hM := if_t c14 hM
              refine lv_tableIn (off := 88) (tgt := 99) hx hb dX8_limb_11 (by rw [c14]; decide) (by rw [c14]; decide) (by rw [c14]; decide) (by decide) ?_
              refine lv_aload_n hx hb dX8_limb_99 rfl (lv_at hl 0 rfl) ?_
              refine va_get (D := D) (ci := 8) (v := .ref (am 17)) (C := RX8) (T := TX8) (N := 9) hx hb hts hi_X8_limb_X8 hown hK hI.1 0 (cg_0 am cI cC cS st2) rfl 1 (by decide) f_0 (fun _ h9 => h9) rfl dX8_limb_100 ?_
              refine lv_aload_n hx hb dX8_limb_103 rfl (lv_at hl 0 rfl) ?_
              refine va_get (D := D) (ci := 8) (v := .ref (am 37)) (C := RX8) (T := TX8) (N := 9) hx hb hts hi_X8_limb_X8 hown hK hI.1 0 (cg_0 am cI cC cS st2) rfl 3 (by decide) f_4 (fun _ h9 => h9) rfl dX8_limb_104 ?_
              refine va_get (D := D) (ci := 5) (v := .ref (am 38)) (C := RX5) (T := TX5) (N := 3) hx hb hts hi_X8_limb_X5 hown hK hI.1 37 (cg_37 am cI cC cS st2) rfl 0 (by decide) f_5 (fun _ h9 => h9) rfl dX8_limb_107 ?_
              refine lv_iload_n hx hb dX8_limb_110 rfl (lv_at hl 1 rfl) ?_
              obtain ⟨v15, st16, hqv15, hM⟩ := bd_at hM
              refine jcallV (C := RX0) (As := [.ref (am 38), .int x1]) (rest := []) ⟨hx, hb, hml, hown, hts⟩ (jw_X0_bearer D am cI cC cS hj N (show ck_Doll 17 by decide) (show ck_Pose 38 by decide) hqv15) (cwV 2 hts gX8_limb_X0_bearer rfl rfl rfl yd_X0_bearer ⟨Nat.le_of_ble_eq_true rfl, Nat.le_of_ble_eq_true rfl⟩) hK hI 17 (cg_17 am cI cC cS st2) rfl rfl hl.1 rfl (Nat.le_of_ble_eq_true rfl) dX8_limb_111 (fun H locs hI => ?_)
              refine W.eq (g2 := F0 m 114 ls [.int v15]) rfl ?_
              have hz := Option.some.inj hM
              exact W.iret hx hb hr (fun t ht hW => jq_i hK hI hz ht hW) hI.2.2.2 dX8_limb_114
            · replace hM := if_f c14 hM
              refine lv_tableOut (tgt := 115) hx hb dX8_limb_11 (by have nc4 : ¬ (0 : Int) = (x2).toInt := ne_ti c4; have nc7 : ¬ (1 : Int) = (x2).toInt := ne_ti c7; have nc9 : ¬ (2 : Int) = (x2).toInt := ne_ti c9; have nc11 : ¬ (3 : Int) = (x2).toInt := ne_ti c11; have nc14 : ¬ (4 : Int) = (x2).toInt := ne_ti c14; omega) (by decide) ?_
              refine lv_iconst (v := (-1 : Int32)) hx hb dX8_limb_115 (by decide) ?_
              have hz := Option.some.inj hM
              exact W.iret hx hb hr (fun t ht hW => jq_i hK hI hz ht hW) hI.2.2.2 dX8_limb_116
  · replace hM := if_t c3 hM
    refine lv_iconst (v := (-1 : Int32)) hx hb dX8_limb_8 (by decide) ?_
    have hz := Option.some.inj hM
    exact W.iret hx hb hr (fun t ht hW => jq_i hK hI hz ht hW) hI.2.2.2 dX8_limb_9
set_option maxRecDepth 20000 in
theorem hi_X8_isString_X8 : ∀ w ∈ wsX80, w ∈ wsX8_isString := by decide +kernel
set_option maxRecDepth 20000 in
theorem hi_X8_isString_X0 : ∀ w ∈ wsX00, w ∈ wsX8_isString := by decide +kernel
set_option maxHeartbeats 4000000 in
set_option maxRecDepth 100000 in
theorem jw_X8_isString {l : Launch} (D : va_G) (am : Nat → Nat) (cI cC cS : ClassId) (hj : aJ am 52) (N : Nat) {x1 : Int32} {st stZ : PS} {rZ : Int32} (hM : jm_X8_isString N x1 st = some (rZ, stZ)) : Met l yX8_isString wsX8_isString ({ frames := 0, cells := 0, slots := 0, locals := 0 }) (va_Pc [.ref (am 0), .int x1] (JH D (cW am cI cC cS) (cTy cI cC cS) st)) (JQ D (aA am 52) (cW am cI cC cS) (cTy cI cC cS) (some (.int rZ)) stZ) 0 0 (aA am 52) := by
  refine jStart (cc := cX8_isString) (maxL := 2) (ret := (some .boolean)) [.ref (am 0), .int x1] (by decide) rfl (Nat.le_of_ble_eq_true rfl) (fun p e s m below meth c ls hx hb hr hlocks hts hown hml hK hI hl => ?_)
  have hown : s.vm.findClass RX8 = some m.cls := hown
  replace hl : lv_has ls 2 [(0, .ref (am 0)), (1, .int x1)] := hl
  generalize hAV : ([.ref (am 0), .int x1] : List Value).toArray = AV at hts ⊢
  have f_0 := hts (.fieldLink RX8 19 "PuppetBar" "doll" "LPuppetBar$Doll;") (by decide +kernel)
  have f_1 := hts (.fieldLink RX8 311 "PuppetBar$Doll" "strings" "I") (by decide +kernel)
  unfold jm_X8_isString at hM
  refine lv_iload_n hx hb dX8_isString_0 rfl (lv_at hl 1 rfl) ?_
  refine lv_if_lt (tgt := 19) hx hb dX8_isString_1 (by decide) (fun c1 => ?_) (fun c1 => ?_)
  · replace hM := if_t c1 hM
    refine lv_iconst (v := (0 : Int32)) hx hb dX8_isString_19 (by decide) ?_
    have hz := Option.some.inj hM
    exact W.zret hx hb hr rfl (fun t ht hW => jq_i hK hI hz ht hW) hI.2.2.2 dX8_isString_20
  · replace hM := if_f c1 hM
    refine lv_iload_n hx hb dX8_isString_4 rfl (lv_at hl 1 rfl) ?_
    refine lv_aload_n hx hb dX8_isString_5 rfl (lv_at hl 0 rfl) ?_
    refine va_get (D := D) (ci := 8) (v := .ref (am 17)) (C := RX8) (T := TX8) (N := 9) hx hb hts hi_X8_isString_X8 hown hK hI.1 0 (cg_0 am cI cC cS st) rfl 1 (by decide) f_0 (fun _ h9 => h9) rfl dX8_isString_6 ?_
    refine va_get (D := D) (ci := 0) (v := .int (st.1 17 8)) (C := RX0) (T := TX0) (N := 11) hx hb hts hi_X8_isString_X0 hown hK hI.1 17 (cg_17 am cI cC cS st) rfl 8 (by decide) f_1 (fun _ h9 => h9) rfl dX8_isString_9 ?_
    refine lv_icmp_ge (tgt := 19) hx hb dX8_isString_12 (by decide) (fun c2 => ?_) (fun c2 => ?_)
    · replace hM := if_t c2 hM
      refine lv_iconst (v := (0 : Int32)) hx hb dX8_isString_19 (by decide) ?_
      have hz := Option.some.inj hM
      exact W.zret hx hb hr rfl (fun t ht hW => jq_i hK hI hz ht hW) hI.2.2.2 dX8_isString_20
    · replace hM := if_f c2 hM
      refine lv_iconst (v := (1 : Int32)) hx hb dX8_isString_15 (by decide) ?_
      refine lv_goto (tgt := 20) hx hb dX8_isString_16 (by decide) ?_
      have hz := Option.some.inj hM
      exact W.zret hx hb hr rfl (fun t ht hW => jq_i hK hI hz ht hW) hI.2.2.2 dX8_isString_20
set_option maxRecDepth 20000 in
theorem hi_X8_string_X8 : ∀ w ∈ wsX80, w ∈ wsX8_string := by decide +kernel
set_option maxRecDepth 20000 in
theorem hi_X8_string_X5 : ∀ w ∈ wsX50, w ∈ wsX8_string := by decide +kernel
set_option maxRecDepth 20000 in
theorem hi_X8_string_X0 : ∀ w ∈ wsX00, w ∈ wsX8_string := by decide +kernel
set_option maxHeartbeats 4000000 in
set_option maxRecDepth 100000 in
theorem jw_X8_string {l : Launch} (D : va_G) (am : Nat → Nat) (cI cC cS : ClassId) (hj : aJ am 52) (N : Nat) {x1 : Int32} {x2 : Int32} {st stZ : PS} {rZ : Int32} (hM : jm_X8_string N x1 x2 st = some (rZ, stZ)) : Met l yX8_string wsX8_string ({ frames := 4, cells := 0, slots := 0, locals := 95 }) (va_Pc [.ref (am 0), .int x1, .int x2] (JH D (cW am cI cC cS) (cTy cI cC cS) st)) (JQ D (aA am 52) (cW am cI cC cS) (cTy cI cC cS) (some (.int rZ)) stZ) 0 0 (aA am 52) := by
  refine jStart (cc := cX8_string) (maxL := 3) (ret := (some .int)) [.ref (am 0), .int x1, .int x2] (by decide) rfl (Nat.le_of_ble_eq_true rfl) (fun p e s m below meth c ls hx hb hr hlocks hts hown hml hK hI hl => ?_)
  have hown : s.vm.findClass RX8 = some m.cls := hown
  replace hl : lv_has ls 3 [(0, .ref (am 0)), (1, .int x1), (2, .int x2)] := hl
  generalize hAV : ([.ref (am 0), .int x1, .int x2] : List Value).toArray = AV at hts ⊢
  have f_0 := hts (.fieldLink RX8 29 "PuppetBar" "scene" "LPuppetBar$Scene;") (by decide +kernel)
  have f_1 := hts (.fieldLink RX8 65 "PuppetBar$Scene" "pose" "LPuppetBar$Pose;") (by decide +kernel)
  have f_2 := hts (.fieldLink RX8 19 "PuppetBar" "doll" "LPuppetBar$Doll;") (by decide +kernel)
  have f_3 := hts (.fieldLink RX8 135 "PuppetBar$Doll" "strength" "[I") (by decide +kernel)
  have f_4 := hts (.constant RX8 124 (-1000000)) (by decide +kernel)
  unfold jm_X8_string at hM
  refine lv_aload_n hx hb dX8_string_0 rfl (lv_at hl 0 rfl) ?_
  refine lv_iload_n hx hb dX8_string_1 rfl (lv_at hl 1 rfl) ?_
  obtain ⟨v1, st2, hqv1, hM⟩ := bd_at hM
  refine jcallV (C := RX8) (As := [.int x1]) (rest := []) ⟨hx, hb, hml, hown, hts⟩ (jw_X8_isString D am cI cC cS hj N hqv1) (cwV 1 hts gX8_string_X8_isString rfl rfl rfl yd_X8_isString ⟨Nat.le_of_ble_eq_true rfl, Nat.le_of_ble_eq_true rfl⟩) hK hI 0 (cg_0 am cI cC cS st) rfl rfl hl.1 rfl (Nat.le_of_ble_eq_true rfl) dX8_string_2 (fun H locs hI => ?_)
  refine W.eq (g2 := F0 m 5 ls [.int v1]) rfl ?_
  refine lv_if_ne (tgt := 11) hx hb dX8_string_5 (by decide) (fun c3 => ?_) (fun c3 => ?_)
  · replace hM := if_f c3 hM
    refine lv_iload_n hx hb dX8_string_11 rfl (lv_at hl 2 rfl) ?_
    by_cases c4 : x2 = (0 : Int32)
    · replace hM := if_t c4 hM
      refine lv_tableIn (off := 48) (tgt := 60) hx hb dX8_string_12 (by rw [c4]; decide) (by rw [c4]; decide) (by rw [c4]; decide) (by decide) ?_
      refine lv_aload_n hx hb dX8_string_60 rfl (lv_at hl 0 rfl) ?_
      refine va_get (D := D) (ci := 8) (v := .ref (am 37)) (C := RX8) (T := TX8) (N := 9) hx hb hts hi_X8_string_X8 hown hK hI.1 0 (cg_0 am cI cC cS st2) rfl 3 (by decide) f_0 (fun _ h9 => h9) rfl dX8_string_61 ?_
      refine va_get (D := D) (ci := 5) (v := .ref (am 38)) (C := RX5) (T := TX5) (N := 3) hx hb hts hi_X8_string_X5 hown hK hI.1 37 (cg_37 am cI cC cS st2) rfl 0 (by decide) f_1 (fun _ h9 => h9) rfl dX8_string_64 ?_
      refine lv_iload_n hx hb dX8_string_67 rfl (lv_at hl 1 rfl) ?_
      obtain ⟨v5, st6, hqv5, hM⟩ := bd_at hM
      refine jcallV (C := RX4) (As := [.int x1]) (rest := []) ⟨hx, hb, hml, hown, hts⟩ (jw_X4_limbOf D am cI cC cS hj N (show ck_Pose 38 by decide) hqv5) (cwV 1 hts gX8_string_X4_limbOf rfl rfl rfl yd_X4_limbOf ⟨Nat.le_of_ble_eq_true rfl, Nat.le_of_ble_eq_true rfl⟩) hK hI 38 (cg_38 am cI cC cS st2) rfl rfl hl.1 rfl (Nat.le_of_ble_eq_true rfl) dX8_string_68 (fun H locs hI => ?_)
      refine W.eq (g2 := F0 m 71 ls [.int v5]) rfl ?_
      have hz := Option.some.inj hM
      exact W.iret hx hb hr (fun t ht hW => jq_i hK hI hz ht hW) hI.2.2.2 dX8_string_71
    · replace hM := if_f c4 hM
      by_cases c7 : x2 = (1 : Int32)
      · replace hM := if_t c7 hM
        refine lv_tableIn (off := 60) (tgt := 72) hx hb dX8_string_12 (by rw [c7]; decide) (by rw [c7]; decide) (by rw [c7]; decide) (by decide) ?_
        refine lv_aload_n hx hb dX8_string_72 rfl (lv_at hl 0 rfl) ?_
        refine va_get (D := D) (ci := 8) (v := .ref (am 37)) (C := RX8) (T := TX8) (N := 9) hx hb hts hi_X8_string_X8 hown hK hI.1 0 (cg_0 am cI cC cS st2) rfl 3 (by decide) f_0 (fun _ h9 => h9) rfl dX8_string_73 ?_
        refine va_get (D := D) (ci := 5) (v := .ref (am 38)) (C := RX5) (T := TX5) (N := 3) hx hb hts hi_X8_string_X5 hown hK hI.1 37 (cg_37 am cI cC cS st2) rfl 0 (by decide) f_1 (fun _ h9 => h9) rfl dX8_string_76 ?_
        refine lv_iload_n hx hb dX8_string_79 rfl (lv_at hl 1 rfl) ?_
        obtain ⟨v8, st9, hqv8, hM⟩ := bd_at hM
        refine jcallV (C := RX4) (As := [.int x1]) (rest := []) ⟨hx, hb, hml, hown, hts⟩ (jw_X4_holeOf D am cI cC cS hj N (show ck_Pose 38 by decide) hqv8) (cwV 1 hts gX8_string_X4_holeOf rfl rfl rfl yd_X4_holeOf ⟨Nat.le_of_ble_eq_true rfl, Nat.le_of_ble_eq_true rfl⟩) hK hI 38 (cg_38 am cI cC cS st2) rfl rfl hl.1 rfl (Nat.le_of_ble_eq_true rfl) dX8_string_80 (fun H locs hI => ?_)
        refine W.eq (g2 := F0 m 83 ls [.int v8]) rfl ?_
        have hz := Option.some.inj hM
        exact W.iret hx hb hr (fun t ht hW => jq_i hK hI hz ht hW) hI.2.2.2 dX8_string_83
      · replace hM := if_f c7 hM
        by_cases c10 : x2 = (2 : Int32)
        · replace hM := if_t c10 hM
          refine lv_tableIn (off := 72) (tgt := 84) hx hb dX8_string_12 (by rw [c10]; decide) (by rw [c10]; decide) (by rw [c10]; decide) (by decide) ?_
          refine lv_aload_n hx hb dX8_string_84 rfl (lv_at hl 0 rfl) ?_
          refine va_get (D := D) (ci := 8) (v := .ref (am 37)) (C := RX8) (T := TX8) (N := 9) hx hb hts hi_X8_string_X8 hown hK hI.1 0 (cg_0 am cI cC cS st2) rfl 3 (by decide) f_0 (fun _ h9 => h9) rfl dX8_string_85 ?_
          refine va_get (D := D) (ci := 5) (v := .ref (am 38)) (C := RX5) (T := TX5) (N := 3) hx hb hts hi_X8_string_X5 hown hK hI.1 37 (cg_37 am cI cC cS st2) rfl 0 (by decide) f_1 (fun _ h9 => h9) rfl dX8_string_88 ?_
          refine lv_iload_n hx hb dX8_string_91 rfl (lv_at hl 1 rfl) ?_
          obtain ⟨v11, st12, hqv11, hM⟩ := bd_at hM
          refine jcallV (C := RX4) (As := [.int x1]) (rest := []) ⟨hx, hb, hml, hown, hts⟩ (jw_X4_lengthOf D am cI cC cS hj N (show ck_Pose 38 by decide) hqv11) (cwV 1 hts gX8_string_X4_lengthOf rfl rfl rfl yd_X4_lengthOf ⟨Nat.le_of_ble_eq_true rfl, Nat.le_of_ble_eq_true rfl⟩) hK hI 38 (cg_38 am cI cC cS st2) rfl rfl hl.1 rfl (Nat.le_of_ble_eq_true rfl) dX8_string_92 (fun H locs hI => ?_)
          refine W.eq (g2 := F0 m 95 ls [.int v11]) rfl ?_
          have hz := Option.some.inj hM
          exact W.iret hx hb hr (fun t ht hW => jq_i hK hI hz ht hW) hI.2.2.2 dX8_string_95
        · replace hM := if_f c10 hM
          by_cases c13 : x2 = (3 : Int32)
          · replace hM := if_t c13 hM
            refine lv_tableIn (off := 84) (tgt := 96) hx hb dX8_string_12 (by rw [c13]; decide) (by rw [c13]; decide) (by rw [c13]; decide) (by decide) ?_
            refine lv_aload_n hx hb dX8_string_96 rfl (lv_at hl 0 rfl) ?_
            refine va_get (D := D) (ci := 8) (v := .ref (am 17)) (C := RX8) (T := TX8) (N := 9) hx hb hts hi_X8_string_X8 hown hK hI.1 0 (cg_0 am cI cC cS st2) rfl 1 (by decide) f_2 (fun _ h9 => h9) rfl dX8_string_97 ?_
            refine va_get (D := D) (ci := 0) (v := .ref (am 21)) (C := RX0) (T := TX0) (N := 11) hx hb hts hi_X8_string_X0 hown hK hI.1 17 (cg_17 am cI cC cS st2) rfl 3 (by decide) f_3 (fun _ h9 => h9) rfl dX8_string_100 ?_
            refine lv_iload_n hx hb dX8_string_103 rfl (lv_at hl 1 rfl) ?_
            obtain ⟨g14, hM⟩ := gd_at hM
            refine va_iald hx hb hK hI.1 21 0 (cg_21 am cI cC cS st2) rfl (inB_vp g14) dX8_string_104 ?_
            have hz := Option.some.inj hM
            exact W.iret hx hb hr (fun t ht hW => jq_i hK hI hz ht hW) hI.2.2.2 dX8_string_105
          · replace hM := if_f c13 hM
            by_cases c15 : x2 = (4 : Int32)
            · replace hM := if_t c15 hM
              refine lv_tableIn (off := 94) (tgt := 106) hx hb dX8_string_12 (by rw [c15]; decide) (by rw [c15]; decide) (by rw [c15]; decide) (by decide) ?_
              refine lv_aload_n hx hb dX8_string_106 rfl (lv_at hl 0 rfl) ?_
              refine va_get (D := D) (ci := 8) (v := .ref (am 37)) (C := RX8) (T := TX8) (N := 9) hx hb hts hi_X8_string_X8 hown hK hI.1 0 (cg_0 am cI cC cS st2) rfl 3 (by decide) f_0 (fun _ h9 => h9) rfl dX8_string_107 ?_
              refine va_get (D := D) (ci := 5) (v := .ref (am 38)) (C := RX5) (T := TX5) (N := 3) hx hb hts hi_X8_string_X5 hown hK hI.1 37 (cg_37 am cI cC cS st2) rfl 0 (by decide) f_1 (fun _ h9 => h9) rfl dX8_string_110 ?_
              refine lv_iload_n hx hb dX8_string_113 rfl (lv_at hl 1 rfl) ?_
              obtain ⟨v16, st17, hqv16, hM⟩ := bd_at hM
              refine jcallV (C := RX4) (As := [.int x1]) (rest := []) ⟨hx, hb, hml, hown, hts⟩ (jw_X4_endOf D am cI cC cS hj N (show ck_Pose 38 by decide) hqv16) (cwV 1 hts gX8_string_X4_endOf rfl rfl rfl yd_X4_endOf ⟨Nat.le_of_ble_eq_true rfl, Nat.le_of_ble_eq_true rfl⟩) hK hI 38 (cg_38 am cI cC cS st2) rfl rfl hl.1 rfl (Nat.le_of_ble_eq_true rfl) dX8_string_114 (fun H locs hI => ?_)
              refine W.eq (g2 := F0 m 117 ls [.int v16]) rfl ?_
              have hz := Option.some.inj hM
              exact W.iret hx hb hr (fun t ht hW => jq_i hK hI hz ht hW) hI.2.2.2 dX8_string_117
            · replace hM := if_f c15 hM
              by_cases c18 : x2 = (5 : Int32)
              · replace hM := if_t c18 hM
                refine lv_tableIn (off := 106) (tgt := 118) hx hb dX8_string_12 (by rw [c18]; decide) (by rw [c18]; decide) (by rw [c18]; decide) (by decide) ?_
                refine lv_aload_n hx hb dX8_string_118 rfl (lv_at hl 0 rfl) ?_
                refine va_get (D := D) (ci := 8) (v := .ref (am 17)) (C := RX8) (T := TX8) (N := 9) hx hb hts hi_X8_string_X8 hown hK hI.1 0 (cg_0 am cI cC cS st2) rfl 1 (by decide) f_2 (fun _ h9 => h9) rfl dX8_string_119 ?_
                refine lv_aload_n hx hb dX8_string_122 rfl (lv_at hl 0 rfl) ?_
                refine va_get (D := D) (ci := 8) (v := .ref (am 37)) (C := RX8) (T := TX8) (N := 9) hx hb hts hi_X8_string_X8 hown hK hI.1 0 (cg_0 am cI cC cS st2) rfl 3 (by decide) f_0 (fun _ h9 => h9) rfl dX8_string_123 ?_
                refine va_get (D := D) (ci := 5) (v := .ref (am 38)) (C := RX5) (T := TX5) (N := 3) hx hb hts hi_X8_string_X5 hown hK hI.1 37 (cg_37 am cI cC cS st2) rfl 0 (by decide) f_1 (fun _ h9 => h9) rfl dX8_string_126 ?_
                refine lv_iload_n hx hb dX8_string_129 rfl (lv_at hl 1 rfl) ?_
                obtain ⟨v19, st20, hqv19, hM⟩ := bd_at hM
                refine jcallV (C := RX0) (As := [.ref (am 38), .int x1]) (rest := []) ⟨hx, hb, hml, hown, hts⟩ (jw_X0_isTaut D am cI cC cS hj N (show ck_Doll 17 by decide) (show ck_Pose 38 by decide) hqv19) (cwV 2 hts gX8_string_X0_isTaut rfl rfl rfl yd_X0_isTaut ⟨Nat.le_of_ble_eq_true rfl, Nat.le_of_ble_eq_true rfl⟩) hK hI 17 (cg_17 am cI cC cS st2) rfl rfl hl.1 rfl (Nat.le_of_ble_eq_true rfl) dX8_string_130 (fun H locs hI => ?_)
                refine W.eq (g2 := F0 m 133 ls [.int v19]) rfl ?_
                refine lv_if_eq (tgt := 140) hx hb dX8_string_133 (by decide) (fun c21 => ?_) (fun c21 => ?_)
                · replace hM := if_t c21 hM
                  refine lv_iconst (v := (0 : Int32)) hx hb dX8_string_140 (by decide) ?_
                  have hz := Option.some.inj hM
                  exact W.iret hx hb hr (fun t ht hW => jq_i hK hI hz ht hW) hI.2.2.2 dX8_string_141
                · replace hM := if_f c21 hM
                  refine lv_iconst (v := (1 : Int32)) hx hb dX8_string_136 (by decide) ?_
                  refine lv_goto (tgt := 141) hx hb dX8_string_137 (by decide) ?_
                  have hz := Option.some.inj hM
                  exact W.iret hx hb hr (fun t ht hW => jq_i hK hI hz ht hW) hI.2.2.2 dX8_string_141
              · replace hM := if_f c18 hM
                by_cases c22 : x2 = (6 : Int32)
                · replace hM := if_t c22 hM
                  refine lv_tableIn (off := 130) (tgt := 142) hx hb dX8_string_12 (by rw [c22]; decide) (by rw [c22]; decide) (by rw [c22]; decide) (by decide) ?_
                  refine lv_aload_n hx hb dX8_string_142 rfl (lv_at hl 0 rfl) ?_
                  refine va_get (D := D) (ci := 8) (v := .ref (am 17)) (C := RX8) (T := TX8) (N := 9) hx hb hts hi_X8_string_X8 hown hK hI.1 0 (cg_0 am cI cC cS st2) rfl 1 (by decide) f_2 (fun _ h9 => h9) rfl dX8_string_143 ?_
                  refine lv_aload_n hx hb dX8_string_146 rfl (lv_at hl 0 rfl) ?_
                  refine va_get (D := D) (ci := 8) (v := .ref (am 37)) (C := RX8) (T := TX8) (N := 9) hx hb hts hi_X8_string_X8 hown hK hI.1 0 (cg_0 am cI cC cS st2) rfl 3 (by decide) f_0 (fun _ h9 => h9) rfl dX8_string_147 ?_
                  refine va_get (D := D) (ci := 5) (v := .ref (am 38)) (C := RX5) (T := TX5) (N := 3) hx hb hts hi_X8_string_X5 hown hK hI.1 37 (cg_37 am cI cC cS st2) rfl 0 (by decide) f_1 (fun _ h9 => h9) rfl dX8_string_150 ?_
                  refine lv_iload_n hx hb dX8_string_153 rfl (lv_at hl 1 rfl) ?_
                  obtain ⟨v23, st24, hqv23, hM⟩ := bd_at hM
                  refine jcallV (C := RX0) (As := [.ref (am 38), .int x1]) (rest := []) ⟨hx, hb, hml, hown, hts⟩ (jw_X0_load D am cI cC cS hj N (show ck_Doll 17 by decide) (show ck_Pose 38 by decide) hqv23) (cwV 2 hts gX8_string_X0_load rfl rfl rfl yd_X0_load ⟨Nat.le_of_ble_eq_true rfl, Nat.le_of_ble_eq_true rfl⟩) hK hI 17 (cg_17 am cI cC cS st2) rfl rfl hl.1 rfl (Nat.le_of_ble_eq_true rfl) dX8_string_154 (fun H locs hI => ?_)
                  refine W.eq (g2 := F0 m 157 ls [.int v23]) rfl ?_
                  have hz := Option.some.inj hM
                  exact W.iret hx hb hr (fun t ht hW => jq_i hK hI hz ht hW) hI.2.2.2 dX8_string_157
                · replace hM := if_f c22 hM
                  by_cases c25 : x2 = (7 : Int32)
                  · replace hM := if_t c25 hM
                    refine lv_tableIn (off := 146) (tgt := 158) hx hb dX8_string_12 (by rw [c25]; decide) (by rw [c25]; decide) (by rw [c25]; decide) (by decide) ?_
                    refine lv_aload_n hx hb dX8_string_158 rfl (lv_at hl 0 rfl) ?_
                    refine va_get (D := D) (ci := 8) (v := .ref (am 37)) (C := RX8) (T := TX8) (N := 9) hx hb hts hi_X8_string_X8 hown hK hI.1 0 (cg_0 am cI cC cS st2) rfl 3 (by decide) f_0 (fun _ h9 => h9) rfl dX8_string_159 ?_
                    refine va_get (D := D) (ci := 5) (v := .ref (am 38)) (C := RX5) (T := TX5) (N := 3) hx hb hts hi_X8_string_X5 hown hK hI.1 37 (cg_37 am cI cC cS st2) rfl 0 (by decide) f_1 (fun _ h9 => h9) rfl dX8_string_162 ?_
                    refine lv_iload_n hx hb dX8_string_165 rfl (lv_at hl 1 rfl) ?_
                    obtain ⟨v26, st27, hqv26, hM⟩ := bd_at hM
                    refine jcallV (C := RX4) (As := [.int x1]) (rest := []) ⟨hx, hb, hml, hown, hts⟩ (jw_X4_isCut D am cI cC cS hj N (show ck_Pose 38 by decide) hqv26) (cwV 1 hts gX8_string_X4_isCut rfl rfl rfl yd_X4_isCut ⟨Nat.le_of_ble_eq_true rfl, Nat.le_of_ble_eq_true rfl⟩) hK hI 38 (cg_38 am cI cC cS st2) rfl rfl hl.1 rfl (Nat.le_of_ble_eq_true rfl) dX8_string_166 (fun H locs hI => ?_)
                    refine W.eq (g2 := F0 m 169 ls [.int v26]) rfl ?_
                    refine lv_if_eq (tgt := 176) hx hb dX8_string_169 (by decide) (fun c28 => ?_) (fun c28 => ?_)
                    · replace hM := if_t c28 hM
                      refine lv_iconst (v := (0 : Int32)) hx hb dX8_string_176 (by decide) ?_
                      have hz := Option.some.inj hM
                      exact W.iret hx hb hr (fun t ht hW => jq_i hK hI hz ht hW) hI.2.2.2 dX8_string_177
                    · replace hM := if_f c28 hM
                      refine lv_iconst (v := (1 : Int32)) hx hb dX8_string_172 (by decide) ?_
                      refine lv_goto (tgt := 177) hx hb dX8_string_173 (by decide) ?_
                      have hz := Option.some.inj hM
                      exact W.iret hx hb hr (fun t ht hW => jq_i hK hI hz ht hW) hI.2.2.2 dX8_string_177
                  · replace hM := if_f c25 hM
                    refine lv_tableOut (tgt := 178) hx hb dX8_string_12 (by have nc4 : ¬ (0 : Int) = (x2).toInt := ne_ti c4; have nc7 : ¬ (1 : Int) = (x2).toInt := ne_ti c7; have nc10 : ¬ (2 : Int) = (x2).toInt := ne_ti c10; have nc13 : ¬ (3 : Int) = (x2).toInt := ne_ti c13; have nc15 : ¬ (4 : Int) = (x2).toInt := ne_ti c15; have nc18 : ¬ (5 : Int) = (x2).toInt := ne_ti c18; have nc22 : ¬ (6 : Int) = (x2).toInt := ne_ti c22; have nc25 : ¬ (7 : Int) = (x2).toInt := ne_ti c25; omega) (by decide) ?_
                    refine lv_ldc (v := (-1000000 : Int32)) hx hb hown f_4 dX8_string_178 ?_
                    have hz := Option.some.inj hM
                    exact W.iret hx hb hr (fun t ht hW => jq_i hK hI hz ht hW) hI.2.2.2 dX8_string_180
  · replace hM := if_t c3 hM
    refine lv_ldc (v := (-1000000 : Int32)) hx hb hown f_4 dX8_string_8 ?_
    have hz := Option.some.inj hM
    exact W.iret hx hb hr (fun t ht hW => jq_i hK hI hz ht hW) hI.2.2.2 dX8_string_10
set_option maxRecDepth 20000 in
theorem hi_X8_isBeat_X8 : ∀ w ∈ wsX80, w ∈ wsX8_isBeat := by decide +kernel
set_option maxRecDepth 20000 in
theorem hi_X8_isBeat_X0 : ∀ w ∈ wsX00, w ∈ wsX8_isBeat := by decide +kernel
set_option maxHeartbeats 4000000 in
set_option maxRecDepth 100000 in
theorem jw_X8_isBeat {l : Launch} (D : va_G) (am : Nat → Nat) (cI cC cS : ClassId) (hj : aJ am 52) (N : Nat) {x1 : Int32} {st stZ : PS} {rZ : Int32} (hM : jm_X8_isBeat N x1 st = some (rZ, stZ)) : Met l yX8_isBeat wsX8_isBeat ({ frames := 0, cells := 0, slots := 0, locals := 0 }) (va_Pc [.ref (am 0), .int x1] (JH D (cW am cI cC cS) (cTy cI cC cS) st)) (JQ D (aA am 52) (cW am cI cC cS) (cTy cI cC cS) (some (.int rZ)) stZ) 0 0 (aA am 52) := by
  refine jStart (cc := cX8_isBeat) (maxL := 2) (ret := (some .boolean)) [.ref (am 0), .int x1] (by decide) rfl (Nat.le_of_ble_eq_true rfl) (fun p e s m below meth c ls hx hb hr hlocks hts hown hml hK hI hl => ?_)
  have hown : s.vm.findClass RX8 = some m.cls := hown
  replace hl : lv_has ls 2 [(0, .ref (am 0)), (1, .int x1)] := hl
  generalize hAV : ([.ref (am 0), .int x1] : List Value).toArray = AV at hts ⊢
  have f_0 := hts (.fieldLink RX8 19 "PuppetBar" "doll" "LPuppetBar$Doll;") (by decide +kernel)
  have f_1 := hts (.fieldLink RX8 248 "PuppetBar$Doll" "beats" "I") (by decide +kernel)
  unfold jm_X8_isBeat at hM
  refine lv_iload_n hx hb dX8_isBeat_0 rfl (lv_at hl 1 rfl) ?_
  refine lv_if_lt (tgt := 19) hx hb dX8_isBeat_1 (by decide) (fun c1 => ?_) (fun c1 => ?_)
  · replace hM := if_t c1 hM
    refine lv_iconst (v := (0 : Int32)) hx hb dX8_isBeat_19 (by decide) ?_
    have hz := Option.some.inj hM
    exact W.zret hx hb hr rfl (fun t ht hW => jq_i hK hI hz ht hW) hI.2.2.2 dX8_isBeat_20
  · replace hM := if_f c1 hM
    refine lv_iload_n hx hb dX8_isBeat_4 rfl (lv_at hl 1 rfl) ?_
    refine lv_aload_n hx hb dX8_isBeat_5 rfl (lv_at hl 0 rfl) ?_
    refine va_get (D := D) (ci := 8) (v := .ref (am 17)) (C := RX8) (T := TX8) (N := 9) hx hb hts hi_X8_isBeat_X8 hown hK hI.1 0 (cg_0 am cI cC cS st) rfl 1 (by decide) f_0 (fun _ h9 => h9) rfl dX8_isBeat_6 ?_
    refine va_get (D := D) (ci := 0) (v := .int (st.1 17 9)) (C := RX0) (T := TX0) (N := 11) hx hb hts hi_X8_isBeat_X0 hown hK hI.1 17 (cg_17 am cI cC cS st) rfl 9 (by decide) f_1 (fun _ h9 => h9) rfl dX8_isBeat_9 ?_
    refine lv_icmp_ge (tgt := 19) hx hb dX8_isBeat_12 (by decide) (fun c2 => ?_) (fun c2 => ?_)
    · replace hM := if_t c2 hM
      refine lv_iconst (v := (0 : Int32)) hx hb dX8_isBeat_19 (by decide) ?_
      have hz := Option.some.inj hM
      exact W.zret hx hb hr rfl (fun t ht hW => jq_i hK hI hz ht hW) hI.2.2.2 dX8_isBeat_20
    · replace hM := if_f c2 hM
      refine lv_iconst (v := (1 : Int32)) hx hb dX8_isBeat_15 (by decide) ?_
      refine lv_goto (tgt := 20) hx hb dX8_isBeat_16 (by decide) ?_
      have hz := Option.some.inj hM
      exact W.zret hx hb hr rfl (fun t ht hW => jq_i hK hI hz ht hW) hI.2.2.2 dX8_isBeat_20
set_option maxRecDepth 20000 in
theorem hi_X8_beat_X8 : ∀ w ∈ wsX80, w ∈ wsX8_beat := by decide +kernel
set_option maxRecDepth 20000 in
theorem hi_X8_beat_X0 : ∀ w ∈ wsX00, w ∈ wsX8_beat := by decide +kernel
set_option maxHeartbeats 4000000 in
set_option maxRecDepth 100000 in
theorem jw_X8_beat {l : Launch} (D : va_G) (am : Nat → Nat) (cI cC cS : ClassId) (hj : aJ am 52) (N : Nat) {x1 : Int32} {x2 : Int32} {st stZ : PS} {rZ : Int32} (hM : jm_X8_beat N x1 x2 st = some (rZ, stZ)) : Met l yX8_beat wsX8_beat ({ frames := 1, cells := 0, slots := 0, locals := 21 }) (va_Pc [.ref (am 0), .int x1, .int x2] (JH D (cW am cI cC cS) (cTy cI cC cS) st)) (JQ D (aA am 52) (cW am cI cC cS) (cTy cI cC cS) (some (.int rZ)) stZ) 0 0 (aA am 52) := by
  refine jStart (cc := cX8_beat) (maxL := 3) (ret := (some .int)) [.ref (am 0), .int x1, .int x2] (by decide) rfl (Nat.le_of_ble_eq_true rfl) (fun p e s m below meth c ls hx hb hr hlocks hts hown hml hK hI hl => ?_)
  have hown : s.vm.findClass RX8 = some m.cls := hown
  replace hl : lv_has ls 3 [(0, .ref (am 0)), (1, .int x1), (2, .int x2)] := hl
  generalize hAV : ([.ref (am 0), .int x1, .int x2] : List Value).toArray = AV at hts ⊢
  have f_0 := hts (.fieldLink RX8 19 "PuppetBar" "doll" "LPuppetBar$Doll;") (by decide +kernel)
  have f_1 := hts (.fieldLink RX8 154 "PuppetBar$Doll" "beatLift" "[I") (by decide +kernel)
  have f_2 := hts (.fieldLink RX8 157 "PuppetBar$Doll" "beatTilt" "[I") (by decide +kernel)
  have f_3 := hts (.constant RX8 124 (-1000000)) (by decide +kernel)
  unfold jm_X8_beat at hM
  refine lv_aload_n hx hb dX8_beat_0 rfl (lv_at hl 0 rfl) ?_
  refine lv_iload_n hx hb dX8_beat_1 rfl (lv_at hl 1 rfl) ?_
  obtain ⟨v1, st2, hqv1, hM⟩ := bd_at hM
  refine jcallV (C := RX8) (As := [.int x1]) (rest := []) ⟨hx, hb, hml, hown, hts⟩ (jw_X8_isBeat D am cI cC cS hj N hqv1) (cwV 1 hts gX8_beat_X8_isBeat rfl rfl rfl yd_X8_isBeat ⟨Nat.le_of_ble_eq_true rfl, Nat.le_of_ble_eq_true rfl⟩) hK hI 0 (cg_0 am cI cC cS st) rfl rfl hl.1 rfl (Nat.le_of_ble_eq_true rfl) dX8_beat_2 (fun H locs hI => ?_)
  refine W.eq (g2 := F0 m 5 ls [.int v1]) rfl ?_
  refine lv_if_ne (tgt := 11) hx hb dX8_beat_5 (by decide) (fun c3 => ?_) (fun c3 => ?_)
  · replace hM := if_f c3 hM
    refine lv_iload_n hx hb dX8_beat_11 rfl (lv_at hl 2 rfl) ?_
    by_cases c4 : x2 = (0 : Int32)
    · replace hM := if_t c4 hM
      refine lv_lookup (off := 28) (tgt := 40) hx hb dX8_beat_12 (by decide) (by rw [c4]; decide) (by decide) ?_
      refine lv_aload_n hx hb dX8_beat_40 rfl (lv_at hl 0 rfl) ?_
      refine va_get (D := D) (ci := 8) (v := .ref (am 17)) (C := RX8) (T := TX8) (N := 9) hx hb hts hi_X8_beat_X8 hown hK hI.1 0 (cg_0 am cI cC cS st2) rfl 1 (by decide) f_0 (fun _ h9 => h9) rfl dX8_beat_41 ?_
      refine va_get (D := D) (ci := 0) (v := .ref (am 22)) (C := RX0) (T := TX0) (N := 11) hx hb hts hi_X8_beat_X0 hown hK hI.1 17 (cg_17 am cI cC cS st2) rfl 4 (by decide) f_1 (fun _ h9 => h9) rfl dX8_beat_44 ?_
      refine lv_iload_n hx hb dX8_beat_47 rfl (lv_at hl 1 rfl) ?_
      obtain ⟨g5, hM⟩ := gd_at hM
      refine va_iald hx hb hK hI.1 22 0 (cg_22 am cI cC cS st2) rfl (inB_vp g5) dX8_beat_48 ?_
      have hz := Option.some.inj hM
      exact W.iret hx hb hr (fun t ht hW => jq_i hK hI hz ht hW) hI.2.2.2 dX8_beat_49
    · replace hM := if_f c4 hM
      by_cases c6 : x2 = (1 : Int32)
      · replace hM := if_t c6 hM
        refine lv_lookup (off := 38) (tgt := 50) hx hb dX8_beat_12 (by decide) (by rw [c6]; decide) (by decide) ?_
        refine lv_aload_n hx hb dX8_beat_50 rfl (lv_at hl 0 rfl) ?_
        refine va_get (D := D) (ci := 8) (v := .ref (am 17)) (C := RX8) (T := TX8) (N := 9) hx hb hts hi_X8_beat_X8 hown hK hI.1 0 (cg_0 am cI cC cS st2) rfl 1 (by decide) f_0 (fun _ h9 => h9) rfl dX8_beat_51 ?_
        refine va_get (D := D) (ci := 0) (v := .ref (am 23)) (C := RX0) (T := TX0) (N := 11) hx hb hts hi_X8_beat_X0 hown hK hI.1 17 (cg_17 am cI cC cS st2) rfl 5 (by decide) f_2 (fun _ h9 => h9) rfl dX8_beat_54 ?_
        refine lv_iload_n hx hb dX8_beat_57 rfl (lv_at hl 1 rfl) ?_
        obtain ⟨g7, hM⟩ := gd_at hM
        refine va_iald hx hb hK hI.1 23 0 (cg_23 am cI cC cS st2) rfl (inB_vp g7) dX8_beat_58 ?_
        have hz := Option.some.inj hM
        exact W.iret hx hb hr (fun t ht hW => jq_i hK hI hz ht hW) hI.2.2.2 dX8_beat_59
      · replace hM := if_f c6 hM
        refine lv_lookup (off := 48) (tgt := 60) hx hb dX8_beat_12 (by decide) (lk_no (ne_ti c4) (lk_no (ne_ti c6) rfl)) (by decide) ?_
        refine lv_ldc (v := (-1000000 : Int32)) hx hb hown f_3 dX8_beat_60 ?_
        have hz := Option.some.inj hM
        exact W.iret hx hb hr (fun t ht hW => jq_i hK hI hz ht hW) hI.2.2.2 dX8_beat_62
  · replace hM := if_t c3 hM
    refine lv_ldc (v := (-1000000 : Int32)) hx hb hown f_3 dX8_beat_8 ?_
    have hz := Option.some.inj hM
    exact W.iret hx hb hr (fun t ht hW => jq_i hK hI hz ht hW) hI.2.2.2 dX8_beat_10
set_option maxRecDepth 20000 in
theorem hi_X8_far_X8 : ∀ w ∈ wsX80, w ∈ wsX8_far := by decide +kernel
set_option maxHeartbeats 4000000 in
set_option maxRecDepth 100000 in
theorem jw_X8_far {l : Launch} (D : va_G) (am : Nat → Nat) (cI cC cS : ClassId) (hj : aJ am 52) (N : Nat) {x1 : Int32} {x2 : Int32} {st stZ : PS} {rZ : Int32} (hM : jm_X8_far N x1 x2 st = some (rZ, stZ)) : Met l yX8_far wsX8_far ({ frames := 1, cells := 0, slots := 0, locals := 22 }) (va_Pc [.ref (am 0), .int x1, .int x2] (JH D (cW am cI cC cS) (cTy cI cC cS) st)) (JQ D (aA am 52) (cW am cI cC cS) (cTy cI cC cS) (some (.int rZ)) stZ) 0 0 (aA am 52) := by
  refine jStart (cc := cX8_far) (maxL := 3) (ret := (some .int)) [.ref (am 0), .int x1, .int x2] (by decide) rfl (Nat.le_of_ble_eq_true rfl) (fun p e s m below meth c ls hx hb hr hlocks hts hown hml hK hI hl => ?_)
  have hown : s.vm.findClass RX8 = some m.cls := hown
  replace hl : lv_has ls 3 [(0, .ref (am 0)), (1, .int x1), (2, .int x2)] := hl
  generalize hAV : ([.ref (am 0), .int x1, .int x2] : List Value).toArray = AV at hts ⊢
  have f_0 := hts (.fieldLink RX8 19 "PuppetBar" "doll" "LPuppetBar$Doll;") (by decide +kernel)
  unfold jm_X8_far at hM
  refine lv_aload_n hx hb dX8_far_0 rfl (lv_at hl 0 rfl) ?_
  refine lv_iload_n hx hb dX8_far_1 rfl (lv_at hl 1 rfl) ?_
  obtain ⟨v1, st2, hqv1, hM⟩ := bd_at hM
  refine jcallV (C := RX8) (As := [.int x1]) (rest := []) ⟨hx, hb, hml, hown, hts⟩ (jw_X8_isLimb D am cI cC cS hj N hqv1) (cwV 1 hts gX8_far_X8_isLimb rfl rfl rfl yd_X8_isLimb ⟨Nat.le_of_ble_eq_true rfl, Nat.le_of_ble_eq_true rfl⟩) hK hI 0 (cg_0 am cI cC cS st) rfl rfl hl.1 rfl (Nat.le_of_ble_eq_true rfl) dX8_far_2 (fun H locs hI => ?_)
  refine W.eq (g2 := F0 m 5 ls [.int v1]) rfl ?_
  refine lv_if_eq (tgt := 28) hx hb dX8_far_5 (by decide) (fun c3 => ?_) (fun c3 => ?_)
  · replace hM := if_t c3 hM
    refine lv_iconst (v := (-1 : Int32)) hx hb dX8_far_28 (by decide) ?_
    have hz := Option.some.inj hM
    exact W.iret hx hb hr (fun t ht hW => jq_i hK hI hz ht hW) hI.2.2.2 dX8_far_29
  · replace hM := if_f c3 hM
    refine lv_aload_n hx hb dX8_far_8 rfl (lv_at hl 0 rfl) ?_
    refine lv_iload_n hx hb dX8_far_9 rfl (lv_at hl 2 rfl) ?_
    obtain ⟨v4, st5, hqv4, hM⟩ := bd_at hM
    refine jcallV (C := RX8) (As := [.int x2]) (rest := []) ⟨hx, hb, hml, hown, hts⟩ (jw_X8_isLimb D am cI cC cS hj N hqv4) (cwV 1 hts gX8_far_X8_isLimb rfl rfl rfl yd_X8_isLimb ⟨Nat.le_of_ble_eq_true rfl, Nat.le_of_ble_eq_true rfl⟩) hK hI 0 (cg_0 am cI cC cS st2) rfl rfl hl.1 rfl (Nat.le_of_ble_eq_true rfl) dX8_far_10 (fun H locs hI => ?_)
    refine W.eq (g2 := F0 m 13 ls [.int v4]) rfl ?_
    refine lv_if_eq (tgt := 28) hx hb dX8_far_13 (by decide) (fun c6 => ?_) (fun c6 => ?_)
    · replace hM := if_t c6 hM
      refine lv_iconst (v := (-1 : Int32)) hx hb dX8_far_28 (by decide) ?_
      have hz := Option.some.inj hM
      exact W.iret hx hb hr (fun t ht hW => jq_i hK hI hz ht hW) hI.2.2.2 dX8_far_29
    · replace hM := if_f c6 hM
      refine lv_aload_n hx hb dX8_far_16 rfl (lv_at hl 0 rfl) ?_
      refine va_get (D := D) (ci := 8) (v := .ref (am 17)) (C := RX8) (T := TX8) (N := 9) hx hb hts hi_X8_far_X8 hown hK hI.1 0 (cg_0 am cI cC cS st5) rfl 1 (by decide) f_0 (fun _ h9 => h9) rfl dX8_far_17 ?_
      refine lv_iload_n hx hb dX8_far_20 rfl (lv_at hl 1 rfl) ?_
      refine lv_iload_n hx hb dX8_far_21 rfl (lv_at hl 2 rfl) ?_
      obtain ⟨v7, st8, hqv7, hM⟩ := bd_at hM
      refine jcallV (C := RX0) (As := [.int x1, .int x2]) (rest := []) ⟨hx, hb, hml, hown, hts⟩ (jw_X0_apart D am cI cC cS hj N (show ck_Doll 17 by decide) hqv7) (cwV 2 hts gX8_far_X0_apart rfl rfl rfl yd_X0_apart ⟨Nat.le_of_ble_eq_true rfl, Nat.le_of_ble_eq_true rfl⟩) hK hI 17 (cg_17 am cI cC cS st5) rfl rfl hl.1 rfl (Nat.le_of_ble_eq_true rfl) dX8_far_22 (fun H locs hI => ?_)
      refine W.eq (g2 := F0 m 25 ls [.int v7]) rfl ?_
      refine lv_goto (tgt := 29) hx hb dX8_far_25 (by decide) ?_
      have hz := Option.some.inj hM
      exact W.iret hx hb hr (fun t ht hW => jq_i hK hI hz ht hW) hI.2.2.2 dX8_far_29
set_option maxRecDepth 20000 in
theorem hi_X8_lifts_X8 : ∀ w ∈ wsX80, w ∈ wsX8_lifts := by decide +kernel
set_option maxRecDepth 20000 in
theorem hi_X8_lifts_X5 : ∀ w ∈ wsX50, w ∈ wsX8_lifts := by decide +kernel
set_option maxHeartbeats 4000000 in
set_option maxRecDepth 100000 in
theorem jw_X8_lifts {l : Launch} (D : va_G) (am : Nat → Nat) (cI cC cS : ClassId) (hj : aJ am 52) (N : Nat) {x1 : Int32} {st stZ : PS} {rZ : Int32} (hM : jm_X8_lifts N x1 st = some (rZ, stZ)) : Met l yX8_lifts wsX8_lifts ({ frames := 4, cells := 0, slots := 0, locals := 89 }) (va_Pc [.ref (am 0), .int x1] (JH D (cW am cI cC cS) (cTy cI cC cS) st)) (JQ D (aA am 52) (cW am cI cC cS) (cTy cI cC cS) (some (.int rZ)) stZ) 0 0 (aA am 52) := by
  refine jStart (cc := cX8_lifts) (maxL := 3) (ret := (some .int)) [.ref (am 0), .int x1] (by decide) rfl (Nat.le_of_ble_eq_true rfl) (fun p e s m below meth c ls hx hb hr hlocks hts hown hml hK hI hl => ?_)
  have hown : s.vm.findClass RX8 = some m.cls := hown
  replace hl : lv_has ls 3 [(0, .ref (am 0)), (1, .int x1)] := hl
  generalize hAV : ([.ref (am 0), .int x1] : List Value).toArray = AV at hts ⊢
  have f_0 := hts (.fieldLink RX8 29 "PuppetBar" "scene" "LPuppetBar$Scene;") (by decide +kernel)
  have f_1 := hts (.fieldLink RX8 65 "PuppetBar$Scene" "pose" "LPuppetBar$Pose;") (by decide +kernel)
  unfold jm_X8_lifts at hM
  refine lv_iload_n hx hb dX8_lifts_0 rfl (lv_at hl 1 rfl) ?_
  refine lv_bipush (v := (-5 : Int32)) hx hb dX8_lifts_1 (by decide) ?_
  refine lv_icmp_lt (tgt := 15) hx hb dX8_lifts_3 (by decide) (fun c1 => ?_) (fun c1 => ?_)
  · replace hM := if_t c1 hM
    refine lv_iconst (v := (-1 : Int32)) hx hb dX8_lifts_15 (by decide) ?_
    have hz := Option.some.inj hM
    exact W.iret hx hb hr (fun t ht hW => jq_i hK hI hz ht hW) hI.2.2.2 dX8_lifts_16
  · replace hM := if_f c1 hM
    refine lv_iload_n hx hb dX8_lifts_6 rfl (lv_at hl 1 rfl) ?_
    refine lv_iconst (v := (5 : Int32)) hx hb dX8_lifts_7 (by decide) ?_
    refine lv_icmp_gt (tgt := 15) hx hb dX8_lifts_8 (by decide) (fun c2 => ?_) (fun c2 => ?_)
    · replace hM := if_t c2 hM
      refine lv_iconst (v := (-1 : Int32)) hx hb dX8_lifts_15 (by decide) ?_
      have hz := Option.some.inj hM
      exact W.iret hx hb hr (fun t ht hW => jq_i hK hI hz ht hW) hI.2.2.2 dX8_lifts_16
    · replace hM := if_f c2 hM
      refine lv_iload_n hx hb dX8_lifts_11 rfl (lv_at hl 1 rfl) ?_
      refine lv_if_ne (tgt := 17) hx hb dX8_lifts_12 (by decide) (fun c3 => ?_) (fun c3 => ?_)
      · replace hM := if_f c3 hM
        refine lv_aload_n hx hb dX8_lifts_17 rfl (lv_at hl 0 rfl) ?_
        refine va_get (D := D) (ci := 8) (v := .ref (am 37)) (C := RX8) (T := TX8) (N := 9) hx hb hts hi_X8_lifts_X8 hown hK hI.1 0 (cg_0 am cI cC cS st) rfl 3 (by decide) f_0 (fun _ h9 => h9) rfl dX8_lifts_18 ?_
        refine va_get (D := D) (ci := 5) (v := .ref (am 38)) (C := RX5) (T := TX5) (N := 3) hx hb hts hi_X8_lifts_X5 hown hK hI.1 37 (cg_37 am cI cC cS st) rfl 0 (by decide) f_1 (fun _ h9 => h9) rfl dX8_lifts_21 ?_
        obtain ⟨v4, st5, hqv4, hM⟩ := bd_at hM
        refine jcallV (C := RX4) (As := []) (rest := []) ⟨hx, hb, hml, hown, hts⟩ (jw_X4_lift D am cI cC cS hj N (show ck_Pose 38 by decide) hqv4) (cwV 0 hts gX8_lifts_X4_lift rfl rfl rfl yd_X4_lift ⟨Nat.le_of_ble_eq_true rfl, Nat.le_of_ble_eq_true rfl⟩) hK hI 38 (cg_38 am cI cC cS st) rfl rfl hl.1 rfl (Nat.le_of_ble_eq_true rfl) dX8_lifts_24 (fun H locs hI => ?_)
        refine W.eq (g2 := F0 m 27 ls [.int v4]) rfl ?_
        refine lv_iload_n hx hb dX8_lifts_27 rfl (lv_at hl 1 rfl) ?_
        refine lv_iadd hx hb dX8_lifts_28 ?_
        refine lv_istore_n (lv' := [(2, .int (v4 + x1)), (0, .ref (am 0)), (1, .int x1)]) hx hb dX8_lifts_29 rfl hl (by decide) rfl (fun ls hl => ?_)
        refine lv_iload_n hx hb dX8_lifts_30 rfl (lv_at hl 0 rfl) ?_
        refine lv_if_lt (tgt := 40) hx hb dX8_lifts_31 (by decide) (fun c6 => ?_) (fun c6 => ?_)
        · replace hM := if_t c6 hM
          refine lv_bipush (v := (-2 : Int32)) hx hb dX8_lifts_40 (by decide) ?_
          have hz := Option.some.inj hM
          exact W.iret hx hb hr (fun t ht hW => jq_i hK hI hz ht hW) hI.2.2.2 dX8_lifts_42
        · replace hM := if_f c6 hM
          refine lv_iload_n hx hb dX8_lifts_34 rfl (lv_at hl 0 rfl) ?_
          refine lv_bipush (v := (40 : Int32)) hx hb dX8_lifts_35 (by decide) ?_
          refine lv_icmp_le (tgt := 43) hx hb dX8_lifts_37 (by decide) (fun c7 => ?_) (fun c7 => ?_)
          · replace hM := if_t c7 hM
            refine lv_aload_n hx hb dX8_lifts_43 rfl (lv_at hl 1 rfl) ?_
            refine va_get (D := D) (ci := 8) (v := .ref (am 37)) (C := RX8) (T := TX8) (N := 9) hx hb hts hi_X8_lifts_X8 hown hK hI.1 0 (cg_0 am cI cC cS st5) rfl 3 (by decide) f_0 (fun _ h9 => h9) rfl dX8_lifts_44 ?_
            obtain ⟨v8, st9, hqv8, hM⟩ := bd_at hM
            refine jcallV (C := RX5) (As := []) (rest := []) ⟨hx, hb, hml, hown, hts⟩ (jw_X5_remember D am cI cC cS hj N (show ck_Scene 37 by decide) hqv8) (cwV 0 hts gX8_lifts_X5_remember rfl rfl rfl yd_X5_remember ⟨Nat.le_of_ble_eq_true rfl, Nat.le_of_ble_eq_true rfl⟩) hK hI 37 (cg_37 am cI cC cS st5) rfl rfl hl.1 rfl (Nat.le_of_ble_eq_true rfl) dX8_lifts_47 (fun H locs hI => ?_)
            refine W.eq (g2 := F0 m 50 ls []) rfl ?_
            refine lv_aload_n hx hb dX8_lifts_50 rfl (lv_at hl 1 rfl) ?_
            refine va_get (D := D) (ci := 8) (v := .ref (am 37)) (C := RX8) (T := TX8) (N := 9) hx hb hts hi_X8_lifts_X8 hown hK hI.1 0 (cg_0 am cI cC cS st9) rfl 3 (by decide) f_0 (fun _ h9 => h9) rfl dX8_lifts_51 ?_
            refine va_get (D := D) (ci := 5) (v := .ref (am 38)) (C := RX5) (T := TX5) (N := 3) hx hb hts hi_X8_lifts_X5 hown hK hI.1 37 (cg_37 am cI cC cS st9) rfl 0 (by decide) f_1 (fun _ h9 => h9) rfl dX8_lifts_54 ?_
            refine lv_iload_n hx hb dX8_lifts_57 rfl (lv_at hl 0 rfl) ?_
            obtain ⟨v10, st11, hqv10, hM⟩ := bd_at hM
            refine jcallV (C := RX4) (As := [.int (v4 + x1)]) (rest := []) ⟨hx, hb, hml, hown, hts⟩ (jw_X4_setLift D am cI cC cS hj N (show ck_Pose 38 by decide) hqv10) (cwV 1 hts gX8_lifts_X4_setLift rfl rfl rfl yd_X4_setLift ⟨Nat.le_of_ble_eq_true rfl, Nat.le_of_ble_eq_true rfl⟩) hK hI 38 (cg_38 am cI cC cS st9) rfl rfl hl.1 rfl (Nat.le_of_ble_eq_true rfl) dX8_lifts_58 (fun H locs hI => ?_)
            refine W.eq (g2 := F0 m 61 ls []) rfl ?_
            refine lv_iload_n hx hb dX8_lifts_61 rfl (lv_at hl 0 rfl) ?_
            have hz := Option.some.inj hM
            exact W.iret hx hb hr (fun t ht hW => jq_i hK hI hz ht hW) hI.2.2.2 dX8_lifts_62
          · replace hM := if_f c7 hM
            refine lv_bipush (v := (-2 : Int32)) hx hb dX8_lifts_40 (by decide) ?_
            have hz := Option.some.inj hM
            exact W.iret hx hb hr (fun t ht hW => jq_i hK hI hz ht hW) hI.2.2.2 dX8_lifts_42
      · replace hM := if_t c3 hM
        refine lv_iconst (v := (-1 : Int32)) hx hb dX8_lifts_15 (by decide) ?_
        have hz := Option.some.inj hM
        exact W.iret hx hb hr (fun t ht hW => jq_i hK hI hz ht hW) hI.2.2.2 dX8_lifts_16
set_option maxRecDepth 20000 in
theorem hi_X8_tilts_X8 : ∀ w ∈ wsX80, w ∈ wsX8_tilts := by decide +kernel
set_option maxRecDepth 20000 in
theorem hi_X8_tilts_X5 : ∀ w ∈ wsX50, w ∈ wsX8_tilts := by decide +kernel
set_option maxHeartbeats 4000000 in
set_option maxRecDepth 100000 in
theorem jw_X8_tilts {l : Launch} (D : va_G) (am : Nat → Nat) (cI cC cS : ClassId) (hj : aJ am 52) (N : Nat) {x1 : Int32} {st stZ : PS} {rZ : Int32} (hM : jm_X8_tilts N x1 st = some (rZ, stZ)) : Met l yX8_tilts wsX8_tilts ({ frames := 4, cells := 0, slots := 0, locals := 89 }) (va_Pc [.ref (am 0), .int x1] (JH D (cW am cI cC cS) (cTy cI cC cS) st)) (JQ D (aA am 52) (cW am cI cC cS) (cTy cI cC cS) (some (.int rZ)) stZ) 0 0 (aA am 52) := by
  refine jStart (cc := cX8_tilts) (maxL := 3) (ret := (some .int)) [.ref (am 0), .int x1] (by decide) rfl (Nat.le_of_ble_eq_true rfl) (fun p e s m below meth c ls hx hb hr hlocks hts hown hml hK hI hl => ?_)
  have hown : s.vm.findClass RX8 = some m.cls := hown
  replace hl : lv_has ls 3 [(0, .ref (am 0)), (1, .int x1)] := hl
  generalize hAV : ([.ref (am 0), .int x1] : List Value).toArray = AV at hts ⊢
  have f_0 := hts (.fieldLink RX8 29 "PuppetBar" "scene" "LPuppetBar$Scene;") (by decide +kernel)
  have f_1 := hts (.fieldLink RX8 65 "PuppetBar$Scene" "pose" "LPuppetBar$Pose;") (by decide +kernel)
  have f_2 := hts (.constant RX8 124 (-1000000)) (by decide +kernel)
  unfold jm_X8_tilts at hM
  refine lv_aload_n hx hb dX8_tilts_0 rfl (lv_at hl 0 rfl) ?_
  refine va_get (D := D) (ci := 8) (v := .ref (am 37)) (C := RX8) (T := TX8) (N := 9) hx hb hts hi_X8_tilts_X8 hown hK hI.1 0 (cg_0 am cI cC cS st) rfl 3 (by decide) f_0 (fun _ h9 => h9) rfl dX8_tilts_1 ?_
  refine va_get (D := D) (ci := 5) (v := .ref (am 38)) (C := RX5) (T := TX5) (N := 3) hx hb hts hi_X8_tilts_X5 hown hK hI.1 37 (cg_37 am cI cC cS st) rfl 0 (by decide) f_1 (fun _ h9 => h9) rfl dX8_tilts_4 ?_
  obtain ⟨v1, st2, hqv1, hM⟩ := bd_at hM
  refine jcallV (C := RX4) (As := []) (rest := []) ⟨hx, hb, hml, hown, hts⟩ (jw_X4_tilt D am cI cC cS hj N (show ck_Pose 38 by decide) hqv1) (cwV 0 hts gX8_tilts_X4_tilt rfl rfl rfl yd_X4_tilt ⟨Nat.le_of_ble_eq_true rfl, Nat.le_of_ble_eq_true rfl⟩) hK hI 38 (cg_38 am cI cC cS st) rfl rfl hl.1 rfl (Nat.le_of_ble_eq_true rfl) dX8_tilts_7 (fun H locs hI => ?_)
  refine W.eq (g2 := F0 m 10 ls [.int v1]) rfl ?_
  refine lv_istore_n (lv' := [(2, .int v1), (0, .ref (am 0)), (1, .int x1)]) hx hb dX8_tilts_10 rfl hl (by decide) rfl (fun ls hl => ?_)
  refine lv_iload_n hx hb dX8_tilts_11 rfl (lv_at hl 2 rfl) ?_
  refine lv_bipush (v := (-3 : Int32)) hx hb dX8_tilts_12 (by decide) ?_
  refine lv_icmp_lt (tgt := 27) hx hb dX8_tilts_14 (by decide) (fun c3 => ?_) (fun c3 => ?_)
  · replace hM := if_t c3 hM
    refine lv_ldc (v := (-1000000 : Int32)) hx hb hown f_2 dX8_tilts_27 ?_
    have hz := Option.some.inj hM
    exact W.iret hx hb hr (fun t ht hW => jq_i hK hI hz ht hW) hI.2.2.2 dX8_tilts_29
  · replace hM := if_f c3 hM
    refine lv_iload_n hx hb dX8_tilts_17 rfl (lv_at hl 2 rfl) ?_
    refine lv_iconst (v := (3 : Int32)) hx hb dX8_tilts_18 (by decide) ?_
    refine lv_icmp_gt (tgt := 27) hx hb dX8_tilts_19 (by decide) (fun c4 => ?_) (fun c4 => ?_)
    · replace hM := if_t c4 hM
      refine lv_ldc (v := (-1000000 : Int32)) hx hb hown f_2 dX8_tilts_27 ?_
      have hz := Option.some.inj hM
      exact W.iret hx hb hr (fun t ht hW => jq_i hK hI hz ht hW) hI.2.2.2 dX8_tilts_29
    · replace hM := if_f c4 hM
      refine lv_iload_n hx hb dX8_tilts_22 rfl (lv_at hl 2 rfl) ?_
      refine lv_iload_n hx hb dX8_tilts_23 rfl (lv_at hl 0 rfl) ?_
      refine lv_icmp_ne (tgt := 30) hx hb dX8_tilts_24 (by decide) (fun c5 => ?_) (fun c5 => ?_)
      · replace hM := if_f c5 hM
        refine lv_aload_n hx hb dX8_tilts_30 rfl (lv_at hl 1 rfl) ?_
        refine va_get (D := D) (ci := 8) (v := .ref (am 37)) (C := RX8) (T := TX8) (N := 9) hx hb hts hi_X8_tilts_X8 hown hK hI.1 0 (cg_0 am cI cC cS st2) rfl 3 (by decide) f_0 (fun _ h9 => h9) rfl dX8_tilts_31 ?_
        obtain ⟨v6, st7, hqv6, hM⟩ := bd_at hM
        refine jcallV (C := RX5) (As := []) (rest := []) ⟨hx, hb, hml, hown, hts⟩ (jw_X5_remember D am cI cC cS hj N (show ck_Scene 37 by decide) hqv6) (cwV 0 hts gX8_tilts_X5_remember rfl rfl rfl yd_X5_remember ⟨Nat.le_of_ble_eq_true rfl, Nat.le_of_ble_eq_true rfl⟩) hK hI 37 (cg_37 am cI cC cS st2) rfl rfl hl.1 rfl (Nat.le_of_ble_eq_true rfl) dX8_tilts_34 (fun H locs hI => ?_)
        refine W.eq (g2 := F0 m 37 ls []) rfl ?_
        refine lv_aload_n hx hb dX8_tilts_37 rfl (lv_at hl 1 rfl) ?_
        refine va_get (D := D) (ci := 8) (v := .ref (am 37)) (C := RX8) (T := TX8) (N := 9) hx hb hts hi_X8_tilts_X8 hown hK hI.1 0 (cg_0 am cI cC cS st7) rfl 3 (by decide) f_0 (fun _ h9 => h9) rfl dX8_tilts_38 ?_
        refine va_get (D := D) (ci := 5) (v := .ref (am 38)) (C := RX5) (T := TX5) (N := 3) hx hb hts hi_X8_tilts_X5 hown hK hI.1 37 (cg_37 am cI cC cS st7) rfl 0 (by decide) f_1 (fun _ h9 => h9) rfl dX8_tilts_41 ?_
        refine lv_iload_n hx hb dX8_tilts_44 rfl (lv_at hl 2 rfl) ?_
        obtain ⟨v8, st9, hqv8, hM⟩ := bd_at hM
        refine jcallV (C := RX4) (As := [.int x1]) (rest := []) ⟨hx, hb, hml, hown, hts⟩ (jw_X4_setTilt D am cI cC cS hj N (show ck_Pose 38 by decide) hqv8) (cwV 1 hts gX8_tilts_X4_setTilt rfl rfl rfl yd_X4_setTilt ⟨Nat.le_of_ble_eq_true rfl, Nat.le_of_ble_eq_true rfl⟩) hK hI 38 (cg_38 am cI cC cS st7) rfl rfl hl.1 rfl (Nat.le_of_ble_eq_true rfl) dX8_tilts_45 (fun H locs hI => ?_)
        refine W.eq (g2 := F0 m 48 ls []) rfl ?_
        refine lv_iload_n hx hb dX8_tilts_48 rfl (lv_at hl 0 rfl) ?_
        have hz := Option.some.inj hM
        exact W.iret hx hb hr (fun t ht hW => jq_i hK hI hz ht hW) hI.2.2.2 dX8_tilts_49
      · replace hM := if_t c5 hM
        refine lv_ldc (v := (-1000000 : Int32)) hx hb hown f_2 dX8_tilts_27 ?_
        have hz := Option.some.inj hM
        exact W.iret hx hb hr (fun t ht hW => jq_i hK hI hz ht hW) hI.2.2.2 dX8_tilts_29
set_option maxHeartbeats 4000000 in
set_option maxRecDepth 100000 in
theorem jw_J6_bitCount_0f7a4 {l : Launch} (D : va_G) (am : Nat → Nat) (cI cC cS : ClassId) (hj : aJ am 52) (N : Nat) {x0 : Int32} {st stZ : PS} {rZ : Int32} (hM : jm_J6_bitCount_0f7a4 N x0 st = some (rZ, stZ)) : Met l yJ6_bitCount_0f7a4 wsJ6_bitCount_0f7a4 ({ frames := 0, cells := 0, slots := 0, locals := 0 }) (va_Pc [.int x0] (JH D (cW am cI cC cS) (cTy cI cC cS) st)) (JQ D (aA am 52) (cW am cI cC cS) (cTy cI cC cS) (some (.int rZ)) stZ) 0 0 (aA am 52) := by
  refine jStart (cc := cJ6_bitCount_0f7a4) (maxL := 1) (ret := (some .int)) [.int x0] (by decide) rfl (Nat.le_of_ble_eq_true rfl) (fun p e s m below meth c ls hx hb hr hlocks hts hown hml hK hI hl => ?_)
  have hown : s.vm.findClass RJ6 = some m.cls := hown
  replace hl : lv_has ls 1 [(0, .int x0)] := hl
  generalize hAV : ([.int x0] : List Value).toArray = AV at hts ⊢
  have f_0 := hts (.constant RJ6 265 (1431655765)) (by decide +kernel)
  have f_1 := hts (.constant RJ6 266 (858993459)) (by decide +kernel)
  have f_2 := hts (.constant RJ6 267 (252645135)) (by decide +kernel)
  unfold jm_J6_bitCount_0f7a4 at hM
  refine lv_iload_n hx hb dJ6_bitCount_0f7a4_0 rfl (lv_at hl 0 rfl) ?_
  refine lv_iload_n hx hb dJ6_bitCount_0f7a4_1 rfl (lv_at hl 0 rfl) ?_
  refine lv_iconst (v := (1 : Int32)) hx hb dJ6_bitCount_0f7a4_2 (by decide) ?_
  refine lv_iushr (v := ((x0).toUInt32 >>> (((1 : Int32)).toUInt32 &&& Int32.toUInt32 31)).toInt32) hx hb dJ6_bitCount_0f7a4_3 rfl ?_
  refine lv_ldcw (v := (1431655765 : Int32)) hx hb hown f_0 dJ6_bitCount_0f7a4_4 ?_
  refine lv_iand hx hb dJ6_bitCount_0f7a4_7 ?_
  refine lv_isub hx hb dJ6_bitCount_0f7a4_8 ?_
  refine lv_topi (fun y1 ey1 => ?_)
  replace hM := nm_at ey1 hM
  refine lv_istore_n (lv' := [(0, .int y1)]) hx hb dJ6_bitCount_0f7a4_9 rfl hl (by decide) rfl (fun ls hl => ?_)
  refine lv_iload_n hx hb dJ6_bitCount_0f7a4_10 rfl (lv_at hl 0 rfl) ?_
  refine lv_ldcw (v := (858993459 : Int32)) hx hb hown f_1 dJ6_bitCount_0f7a4_11 ?_
  refine lv_iand hx hb dJ6_bitCount_0f7a4_14 ?_
  refine lv_iload_n hx hb dJ6_bitCount_0f7a4_15 rfl (lv_at hl 0 rfl) ?_
  refine lv_iconst (v := (2 : Int32)) hx hb dJ6_bitCount_0f7a4_16 (by decide) ?_
  refine lv_iushr (v := ((y1).toUInt32 >>> (((2 : Int32)).toUInt32 &&& Int32.toUInt32 31)).toInt32) hx hb dJ6_bitCount_0f7a4_17 rfl ?_
  refine lv_ldcw (v := (858993459 : Int32)) hx hb hown f_1 dJ6_bitCount_0f7a4_18 ?_
  refine lv_iand hx hb dJ6_bitCount_0f7a4_21 ?_
  refine lv_iadd hx hb dJ6_bitCount_0f7a4_22 ?_
  refine lv_topi (fun y2 ey2 => ?_)
  replace hM := nm_at ey2 hM
  refine lv_istore_n (lv' := [(0, .int y2)]) hx hb dJ6_bitCount_0f7a4_23 rfl hl (by decide) rfl (fun ls hl => ?_)
  refine lv_iload_n hx hb dJ6_bitCount_0f7a4_24 rfl (lv_at hl 0 rfl) ?_
  refine lv_iload_n hx hb dJ6_bitCount_0f7a4_25 rfl (lv_at hl 0 rfl) ?_
  refine lv_iconst (v := (4 : Int32)) hx hb dJ6_bitCount_0f7a4_26 (by decide) ?_
  refine lv_iushr (v := ((y2).toUInt32 >>> (((4 : Int32)).toUInt32 &&& Int32.toUInt32 31)).toInt32) hx hb dJ6_bitCount_0f7a4_27 rfl ?_
  refine lv_iadd hx hb dJ6_bitCount_0f7a4_28 ?_
  refine lv_ldcw (v := (252645135 : Int32)) hx hb hown f_2 dJ6_bitCount_0f7a4_29 ?_
  refine lv_iand hx hb dJ6_bitCount_0f7a4_32 ?_
  refine lv_topi (fun y3 ey3 => ?_)
  replace hM := nm_at ey3 hM
  refine lv_istore_n (lv' := [(0, .int y3)]) hx hb dJ6_bitCount_0f7a4_33 rfl hl (by decide) rfl (fun ls hl => ?_)
  refine lv_iload_n hx hb dJ6_bitCount_0f7a4_34 rfl (lv_at hl 0 rfl) ?_
  refine lv_iload_n hx hb dJ6_bitCount_0f7a4_35 rfl (lv_at hl 0 rfl) ?_
  refine lv_bipush (v := (8 : Int32)) hx hb dJ6_bitCount_0f7a4_36 (by decide) ?_
  refine lv_iushr (v := ((y3).toUInt32 >>> (((8 : Int32)).toUInt32 &&& Int32.toUInt32 31)).toInt32) hx hb dJ6_bitCount_0f7a4_38 rfl ?_
  refine lv_iadd hx hb dJ6_bitCount_0f7a4_39 ?_
  refine lv_topi (fun y4 ey4 => ?_)
  replace hM := nm_at ey4 hM
  refine lv_istore_n (lv' := [(0, .int y4)]) hx hb dJ6_bitCount_0f7a4_40 rfl hl (by decide) rfl (fun ls hl => ?_)
  refine lv_iload_n hx hb dJ6_bitCount_0f7a4_41 rfl (lv_at hl 0 rfl) ?_
  refine lv_iload_n hx hb dJ6_bitCount_0f7a4_42 rfl (lv_at hl 0 rfl) ?_
  refine lv_bipush (v := (16 : Int32)) hx hb dJ6_bitCount_0f7a4_43 (by decide) ?_
  refine lv_iushr (v := ((y4).toUInt32 >>> (((16 : Int32)).toUInt32 &&& Int32.toUInt32 31)).toInt32) hx hb dJ6_bitCount_0f7a4_45 rfl ?_
  refine lv_iadd hx hb dJ6_bitCount_0f7a4_46 ?_
  refine lv_topi (fun y5 ey5 => ?_)
  replace hM := nm_at ey5 hM
  refine lv_istore_n (lv' := [(0, .int y5)]) hx hb dJ6_bitCount_0f7a4_47 rfl hl (by decide) rfl (fun ls hl => ?_)
  refine lv_iload_n hx hb dJ6_bitCount_0f7a4_48 rfl (lv_at hl 0 rfl) ?_
  refine lv_bipush (v := (63 : Int32)) hx hb dJ6_bitCount_0f7a4_49 (by decide) ?_
  refine lv_iand hx hb dJ6_bitCount_0f7a4_51 ?_
  have hz := Option.some.inj hM
  exact W.iret hx hb hr (fun t ht hW => jq_i hK hI hz ht hW) hI.2.2.2 dJ6_bitCount_0f7a4_52
set_option maxRecDepth 20000 in
theorem hi_X8_howManyGrounded_X8 : ∀ w ∈ wsX80, w ∈ wsX8_howManyGrounded := by decide +kernel
set_option maxRecDepth 20000 in
theorem hi_X8_howManyGrounded_X5 : ∀ w ∈ wsX50, w ∈ wsX8_howManyGrounded := by decide +kernel
set_option maxHeartbeats 4000000 in
set_option maxRecDepth 100000 in
theorem jw_X8_howManyGrounded {l : Launch} (D : va_G) (am : Nat → Nat) (cI cC cS : ClassId) (hj : aJ am 52) (N : Nat) {st stZ : PS} {rZ : Int32} (hM : jm_X8_howManyGrounded N st = some (rZ, stZ)) : Met l yX8_howManyGrounded wsX8_howManyGrounded ({ frames := 4, cells := 0, slots := 0, locals := 92 }) (va_Pc [.ref (am 0)] (JH D (cW am cI cC cS) (cTy cI cC cS) st)) (JQ D (aA am 52) (cW am cI cC cS) (cTy cI cC cS) (some (.int rZ)) stZ) 0 0 (aA am 52) := by
  refine jStart (cc := cX8_howManyGrounded) (maxL := 1) (ret := (some .int)) [.ref (am 0)] (by decide) rfl (Nat.le_of_ble_eq_true rfl) (fun p e s m below meth c ls hx hb hr hlocks hts hown hml hK hI hl => ?_)
  have hown : s.vm.findClass RX8 = some m.cls := hown
  replace hl : lv_has ls 1 [(0, .ref (am 0))] := hl
  generalize hAV : ([.ref (am 0)] : List Value).toArray = AV at hts ⊢
  have f_0 := hts (.fieldLink RX8 19 "PuppetBar" "doll" "LPuppetBar$Doll;") (by decide +kernel)
  have f_1 := hts (.fieldLink RX8 29 "PuppetBar" "scene" "LPuppetBar$Scene;") (by decide +kernel)
  have f_2 := hts (.fieldLink RX8 65 "PuppetBar$Scene" "pose" "LPuppetBar$Pose;") (by decide +kernel)
  unfold jm_X8_howManyGrounded at hM
  refine lv_aload_n hx hb dX8_howManyGrounded_0 rfl (lv_at hl 0 rfl) ?_
  refine va_get (D := D) (ci := 8) (v := .ref (am 17)) (C := RX8) (T := TX8) (N := 9) hx hb hts hi_X8_howManyGrounded_X8 hown hK hI.1 0 (cg_0 am cI cC cS st) rfl 1 (by decide) f_0 (fun _ h9 => h9) rfl dX8_howManyGrounded_1 ?_
  refine lv_aload_n hx hb dX8_howManyGrounded_4 rfl (lv_at hl 0 rfl) ?_
  refine va_get (D := D) (ci := 8) (v := .ref (am 37)) (C := RX8) (T := TX8) (N := 9) hx hb hts hi_X8_howManyGrounded_X8 hown hK hI.1 0 (cg_0 am cI cC cS st) rfl 3 (by decide) f_1 (fun _ h9 => h9) rfl dX8_howManyGrounded_5 ?_
  refine va_get (D := D) (ci := 5) (v := .ref (am 38)) (C := RX5) (T := TX5) (N := 3) hx hb hts hi_X8_howManyGrounded_X5 hown hK hI.1 37 (cg_37 am cI cC cS st) rfl 0 (by decide) f_2 (fun _ h9 => h9) rfl dX8_howManyGrounded_8 ?_
  obtain ⟨v1, st2, hqv1, hM⟩ := bd_at hM
  refine jcallV (C := RX0) (As := [.ref (am 38)]) (rest := []) ⟨hx, hb, hml, hown, hts⟩ (jw_X0_grounded D am cI cC cS hj N (show ck_Doll 17 by decide) (show ck_Pose 38 by decide) hqv1) (cwV 1 hts gX8_howManyGrounded_X0_grounded rfl rfl rfl yd_X0_grounded ⟨Nat.le_of_ble_eq_true rfl, Nat.le_of_ble_eq_true rfl⟩) hK hI 17 (cg_17 am cI cC cS st) rfl rfl hl.1 rfl (Nat.le_of_ble_eq_true rfl) dX8_howManyGrounded_11 (fun H locs hI => ?_)
  refine W.eq (g2 := F0 m 14 ls [.int v1]) rfl ?_
  obtain ⟨v3, st4, hqv3, hM⟩ := bd_at hM
  refine jcallS (As := [.int v1]) (rest := []) ⟨hx, hb, hml, hown, hts⟩ (jw_J6_bitCount_0f7a4 D am cI cC cS hj N hqv3) (va_cwS 1 hts gX8_howManyGrounded_J6_bitCount_0f7a4 rfl rfl rfl yd_J6_bitCount_0f7a4 ⟨Nat.le_of_ble_eq_true rfl, Nat.le_of_ble_eq_true rfl⟩) hK hI rfl hl.1 rfl (Nat.le_of_ble_eq_true rfl) dX8_howManyGrounded_14 (fun H locs hI => ?_)
  refine W.eq (g2 := F0 m 17 ls [.int v3]) rfl ?_
  have hz := Option.some.inj hM
  exact W.iret hx hb hr (fun t ht hW => jq_i hK hI hz ht hW) hI.2.2.2 dX8_howManyGrounded_17
