/-! MAKING: the nested classes, printed by wip/gen/gi.py -/
abbrev gPast (cI : ClassId) (ad : Nat → Nat) : va_W := [((ad 0), .inr (3, [.ref (ad 1), .int 0, .int 0])), ((ad 1), .inl (cI, zA 210))]
set_option maxRecDepth 20000 in
theorem ji_X3 {l : Launch} (D : va_G) (cI : ClassId) (tys : List (ClassId × FieldType)) (ht0 : tys[0]? = some (cI, .int)) (h sz : Nat) : Met l yX3_init wsX3_init ({ frames := 1, cells := 1, slots := 210, locals := 12 }) (va_Pc [.ref h] (kPre D tys h 3 [.null, .int 0, .int 0] sz)) (kQ D (va_A [(h, .inr (3, [.null, .int 0, .int 0]))] sz) h (gPast cI)) 1 210 (va_A [(h, .inr (3, [.null, .int 0, .int 0]))] sz) := by
  refine kStart (cc := cX3_init) (by decide) rfl rfl (fun p e s m below meth c ls A hx hb hr hlocks hts hown hml hin hK hn hP hD hA hS hl => ?_)
  have hown : s.vm.findClass RX3 = some m.cls := hown
  have hi0 : ∀ w ∈ u_ws RX3 TX3 3, w ∈ wsX3_init := by decide +kernel
  refine lv_aload_n hx hb dX3_init_0 rfl (lv_at hl 0 rfl) ?_
  refine W.objInit hx hb hown (hts (.methodLink RX3 1 objectInit) (by decide +kernel)) (hts (.instanceMethod objectInit) (by decide +kernel)) (hts _ (List.mem_of_getElem? (i := 3) rfl)) rfl (by rw [hml]; exact hl.1) rfl dX3_init_1 (Nat.le_of_ble_eq_true rfl) (Nat.le_of_ble_eq_true rfl) ?_
  refine W.eq (g2 := F0 m 4 ls []) rfl ?_
  refine lv_aload_n hx hb dX3_init_4 rfl (lv_at hl 0 rfl) ?_
  refine lv_sipush (v := (210 : Int32)) hx hb dX3_init_5 (by decide) ?_
  refine jnewa (atype := .int) (ty := .int) (N' := 210) (a0 := zA 210) hx hb (hts (.arrayClass .int) (by decide +kernel)) rfl hK hP hD hS hA 0 ht0 prI (fun cA => zA_i 210 cA) (by decide) rfl (by decide) (Nat.le_of_ble_eq_true rfl) (Nat.le_of_ble_eq_true rfl) dX3_init_8 (fun q1 H hP hD hS => ?_)
  replace hP : va_P D vwCl [(h, .inr (3, [.null, .int 0, .int 0])), (q1, .inl (cI, zA 210))] H := hP
  replace hD : va_D A [(h, .inr (3, [.null, .int 0, .int 0])), (q1, .inl (cI, zA 210))] := hD
  refine va_putF (D := D) (ci := 3) (v := .ref q1) (ty := (.array .int)) (C := RX3) (T := TX3) (N := 3) hx hb hts hi0 tyX3 tyX3_ok nmX3 hown hK hP hD hS 0 rfl rfl 0 (by decide) (hts (.fieldLink RX3 11 "PuppetBar$Past" "rows" "[I") (by decide +kernel)) (fun _ h9 => h9) rfl hin rfl (by decide +kernel) rfl rfl (Nat.le_of_ble_eq_true rfl) dX3_init_10 (fun H locs hP hD hS => ?_)
  replace hP : va_P D vwCl [(h, .inr (3, [.ref q1, .int 0, .int 0])), (q1, .inl (cI, zA 210))] H := hP
  replace hD : va_D A [(h, .inr (3, [.ref q1, .int 0, .int 0])), (q1, .inl (cI, zA 210))] := hD
  replace hP : va_P D vwCl (gPast cI (fun i => [h, q1].getD i 0)) H := hP
  replace hD : va_D A (gPast cI (fun i => [h, q1].getD i 0)) := hD
  refine W.widen (k := 1) (n := 210) (Nat.le_of_ble_eq_true rfl) (Nat.le_of_ble_eq_true rfl) ?_
  exact W.vret hx hb hr (fun t ht hW => ⟨⟨(fun i => [h, q1].getD i 0), rfl, rfl, by rw [ht]; exact hP, hD⟩, hS.F ht⟩) hS.2.2 dX3_init_13
abbrev gKinds (ad : Nat → Nat) : va_W := [((ad 0), .inr (1, [.long 0]))]
set_option maxRecDepth 20000 in
theorem ji_X1 {l : Launch} (D : va_G) (tys : List (ClassId × FieldType)) (h sz : Nat) : Met l yX1_init wsX1_init ({ frames := 1, cells := 0, slots := 0, locals := 12 }) (va_Pc [.ref h] (kPre D tys h 1 [.long 0] sz)) (kQ D (va_A [(h, .inr (1, [.long 0]))] sz) h (gKinds)) 0 0 (va_A [(h, .inr (1, [.long 0]))] sz) := by
  refine kStart (cc := cX1_init) (by decide) rfl rfl (fun p e s m below meth c ls A hx hb hr hlocks hts hown hml hin hK hn hP hD hA hS hl => ?_)
  have hown : s.vm.findClass RX1 = some m.cls := hown
  refine lv_aload_n hx hb dX1_init_0 rfl (lv_at hl 0 rfl) ?_
  refine W.objInit hx hb hown (hts (.methodLink RX1 1 objectInit) (by decide +kernel)) (hts (.instanceMethod objectInit) (by decide +kernel)) (hts _ (List.mem_of_getElem? (i := 3) rfl)) rfl (by rw [hml]; exact hl.1) rfl dX1_init_1 (Nat.le_of_ble_eq_true rfl) (Nat.le_of_ble_eq_true rfl) ?_
  refine W.eq (g2 := F0 m 4 ls []) rfl ?_
  replace hP : va_P D vwCl (gKinds (fun i => [h].getD i 0)) s.heap := hP
  replace hD : va_D A (gKinds (fun i => [h].getD i 0)) := hD
  refine W.widen (k := 0) (n := 0) (Nat.le_of_ble_eq_true rfl) (Nat.le_of_ble_eq_true rfl) ?_
  exact W.vret hx hb hr (fun t ht hW => ⟨⟨(fun i => [h].getD i 0), rfl, rfl, by rw [ht]; exact hP, hD⟩, hS.F ht⟩) hS.2.2 dX1_init_4
abbrev gScript (cI : ClassId) (cC : ClassId) (ad : Nat → Nat) : va_W := [((ad 0), .inr (6, [.ref (ad 1), .int 0, .int 0, .int 0, .int 0, .int 0, .ref (ad 2), .int 0, .int 0])), ((ad 1), .inl (cC, zA 170)), ((ad 2), .inl (cI, zA 4))]
set_option maxRecDepth 20000 in
theorem ji_X6 {l : Launch} (D : va_G) (cI : ClassId) (cC : ClassId) (tys : List (ClassId × FieldType)) (ht0 : tys[0]? = some (cI, .int)) (ht1 : tys[1]? = some (cC, .char)) (h sz : Nat) : Met l yX6_init wsX6_init ({ frames := 1, cells := 2, slots := 174, locals := 12 }) (va_Pc [.ref h] (kPre D tys h 6 [.null, .int 0, .int 0, .int 0, .int 0, .int 0, .null, .int 0, .int 0] sz)) (kQ D (va_A [(h, .inr (6, [.null, .int 0, .int 0, .int 0, .int 0, .int 0, .null, .int 0, .int 0]))] sz) h (gScript cI cC)) 2 174 (va_A [(h, .inr (6, [.null, .int 0, .int 0, .int 0, .int 0, .int 0, .null, .int 0, .int 0]))] sz) := by
  refine kStart (cc := cX6_init) (by decide) rfl rfl (fun p e s m below meth c ls A hx hb hr hlocks hts hown hml hin hK hn hP hD hA hS hl => ?_)
  have hown : s.vm.findClass RX6 = some m.cls := hown
  have hi0 : ∀ w ∈ u_ws RX6 TX6 9, w ∈ wsX6_init := by decide +kernel
  refine lv_aload_n hx hb dX6_init_0 rfl (lv_at hl 0 rfl) ?_
  refine W.objInit hx hb hown (hts (.methodLink RX6 3 objectInit) (by decide +kernel)) (hts (.instanceMethod objectInit) (by decide +kernel)) (hts _ (List.mem_of_getElem? (i := 3) rfl)) rfl (by rw [hml]; exact hl.1) rfl dX6_init_1 (Nat.le_of_ble_eq_true rfl) (Nat.le_of_ble_eq_true rfl) ?_
  refine W.eq (g2 := F0 m 4 ls []) rfl ?_
  refine lv_aload_n hx hb dX6_init_4 rfl (lv_at hl 0 rfl) ?_
  refine lv_sipush (v := (170 : Int32)) hx hb dX6_init_5 (by decide) ?_
  refine jnewa (atype := .char) (ty := .char) (N' := 170) (a0 := zA 170) hx hb (hts (.arrayClass .char) (by decide +kernel)) rfl hK hP hD hS hA 1 ht1 prC (fun cA => zA_c 170 cA) (by decide) rfl (by decide) (Nat.le_of_ble_eq_true rfl) (Nat.le_of_ble_eq_true rfl) dX6_init_8 (fun q1 H hP hD hS => ?_)
  replace hP : va_P D vwCl [(h, .inr (6, [.null, .int 0, .int 0, .int 0, .int 0, .int 0, .null, .int 0, .int 0])), (q1, .inl (cC, zA 170))] H := hP
  replace hD : va_D A [(h, .inr (6, [.null, .int 0, .int 0, .int 0, .int 0, .int 0, .null, .int 0, .int 0])), (q1, .inl (cC, zA 170))] := hD
  refine va_putF (D := D) (ci := 6) (v := .ref q1) (ty := (.array .char)) (C := RX6) (T := TX6) (N := 9) hx hb hts hi0 tyX6 tyX6_ok nmX6 hown hK hP hD hS 0 rfl rfl 0 (by decide) (hts (.fieldLink RX6 11 "PuppetBar$Script" "bytes" "[C") (by decide +kernel)) (fun _ h9 => h9) rfl hin rfl (by decide +kernel) rfl rfl (Nat.le_of_ble_eq_true rfl) dX6_init_10 (fun H locs hP hD hS => ?_)
  replace hP : va_P D vwCl [(h, .inr (6, [.ref q1, .int 0, .int 0, .int 0, .int 0, .int 0, .null, .int 0, .int 0])), (q1, .inl (cC, zA 170))] H := hP
  replace hD : va_D A [(h, .inr (6, [.ref q1, .int 0, .int 0, .int 0, .int 0, .int 0, .null, .int 0, .int 0])), (q1, .inl (cC, zA 170))] := hD
  refine lv_aload_n hx hb dX6_init_13 rfl (lv_at hl 0 rfl) ?_
  refine lv_iconst (v := (4 : Int32)) hx hb dX6_init_14 (by decide) ?_
  refine jnewa (atype := .int) (ty := .int) (N' := 4) (a0 := zA 4) hx hb (hts (.arrayClass .int) (by decide +kernel)) rfl hK hP hD hS hA 0 ht0 prI (fun cA => zA_i 4 cA) (by decide) rfl (by decide) (Nat.le_of_ble_eq_true rfl) (Nat.le_of_ble_eq_true rfl) dX6_init_15 (fun q2 H hP hD hS => ?_)
  replace hP : va_P D vwCl [(h, .inr (6, [.ref q1, .int 0, .int 0, .int 0, .int 0, .int 0, .null, .int 0, .int 0])), (q1, .inl (cC, zA 170)), (q2, .inl (cI, zA 4))] H := hP
  replace hD : va_D A [(h, .inr (6, [.ref q1, .int 0, .int 0, .int 0, .int 0, .int 0, .null, .int 0, .int 0])), (q1, .inl (cC, zA 170)), (q2, .inl (cI, zA 4))] := hD
  refine va_putF (D := D) (ci := 6) (v := .ref q2) (ty := (.array .int)) (C := RX6) (T := TX6) (N := 9) hx hb hts hi0 tyX6 tyX6_ok nmX6 hown hK hP hD hS 0 rfl rfl 6 (by decide) (hts (.fieldLink RX6 15 "PuppetBar$Script" "told" "[I") (by decide +kernel)) (fun _ h9 => h9) rfl hin rfl (by decide +kernel) rfl rfl (Nat.le_of_ble_eq_true rfl) dX6_init_17 (fun H locs hP hD hS => ?_)
  replace hP : va_P D vwCl [(h, .inr (6, [.ref q1, .int 0, .int 0, .int 0, .int 0, .int 0, .ref q2, .int 0, .int 0])), (q1, .inl (cC, zA 170)), (q2, .inl (cI, zA 4))] H := hP
  replace hD : va_D A [(h, .inr (6, [.ref q1, .int 0, .int 0, .int 0, .int 0, .int 0, .ref q2, .int 0, .int 0])), (q1, .inl (cC, zA 170)), (q2, .inl (cI, zA 4))] := hD
  replace hP : va_P D vwCl (gScript cI cC (fun i => [h, q1, q2].getD i 0)) H := hP
  replace hD : va_D A (gScript cI cC (fun i => [h, q1, q2].getD i 0)) := hD
  refine W.widen (k := 2) (n := 174) (Nat.le_of_ble_eq_true rfl) (Nat.le_of_ble_eq_true rfl) ?_
  exact W.vret hx hb hr (fun t ht hW => ⟨⟨(fun i => [h, q1, q2].getD i 0), rfl, rfl, by rw [ht]; exact hP, hD⟩, hS.F ht⟩) hS.2.2 dX6_init_20
abbrev gOrder (cI : ClassId) (ad : Nat → Nat) : va_W := [((ad 0), .inr (2, [.ref (ad 1), .ref (ad 2), .int 0])), ((ad 1), .inl (cI, zA 896)), ((ad 2), .inl (cI, zA 7))]
set_option maxRecDepth 20000 in
theorem ji_X2 {l : Launch} (D : va_G) (cI : ClassId) (tys : List (ClassId × FieldType)) (ht0 : tys[0]? = some (cI, .int)) (h sz : Nat) : Met l yX2_init wsX2_init ({ frames := 1, cells := 2, slots := 903, locals := 12 }) (va_Pc [.ref h] (kPre D tys h 2 [.null, .null, .int 0] sz)) (kQ D (va_A [(h, .inr (2, [.null, .null, .int 0]))] sz) h (gOrder cI)) 2 903 (va_A [(h, .inr (2, [.null, .null, .int 0]))] sz) := by
  refine kStart (cc := cX2_init) (by decide) rfl rfl (fun p e s m below meth c ls A hx hb hr hlocks hts hown hml hin hK hn hP hD hA hS hl => ?_)
  have hown : s.vm.findClass RX2 = some m.cls := hown
  have hi0 : ∀ w ∈ u_ws RX2 TX2 3, w ∈ wsX2_init := by decide +kernel
  refine lv_aload_n hx hb dX2_init_0 rfl (lv_at hl 0 rfl) ?_
  refine W.objInit hx hb hown (hts (.methodLink RX2 3 objectInit) (by decide +kernel)) (hts (.instanceMethod objectInit) (by decide +kernel)) (hts _ (List.mem_of_getElem? (i := 3) rfl)) rfl (by rw [hml]; exact hl.1) rfl dX2_init_1 (Nat.le_of_ble_eq_true rfl) (Nat.le_of_ble_eq_true rfl) ?_
  refine W.eq (g2 := F0 m 4 ls []) rfl ?_
  refine lv_aload_n hx hb dX2_init_4 rfl (lv_at hl 0 rfl) ?_
  refine lv_sipush (v := (896 : Int32)) hx hb dX2_init_5 (by decide) ?_
  refine jnewa (atype := .int) (ty := .int) (N' := 896) (a0 := zA 896) hx hb (hts (.arrayClass .int) (by decide +kernel)) rfl hK hP hD hS hA 0 ht0 prI (fun cA => zA_i 896 cA) (by decide) rfl (by decide) (Nat.le_of_ble_eq_true rfl) (Nat.le_of_ble_eq_true rfl) dX2_init_8 (fun q1 H hP hD hS => ?_)
  replace hP : va_P D vwCl [(h, .inr (2, [.null, .null, .int 0])), (q1, .inl (cI, zA 896))] H := hP
  replace hD : va_D A [(h, .inr (2, [.null, .null, .int 0])), (q1, .inl (cI, zA 896))] := hD
  refine va_putF (D := D) (ci := 2) (v := .ref q1) (ty := (.array .int)) (C := RX2) (T := TX2) (N := 3) hx hb hts hi0 tyX2 tyX2_ok nmX2 hown hK hP hD hS 0 rfl rfl 0 (by decide) (hts (.fieldLink RX2 9 "PuppetBar$Order" "toGo" "[I") (by decide +kernel)) (fun _ h9 => h9) rfl hin rfl (by decide +kernel) rfl rfl (Nat.le_of_ble_eq_true rfl) dX2_init_10 (fun H locs hP hD hS => ?_)
  replace hP : va_P D vwCl [(h, .inr (2, [.ref q1, .null, .int 0])), (q1, .inl (cI, zA 896))] H := hP
  replace hD : va_D A [(h, .inr (2, [.ref q1, .null, .int 0])), (q1, .inl (cI, zA 896))] := hD
  refine lv_aload_n hx hb dX2_init_13 rfl (lv_at hl 0 rfl) ?_
  refine lv_bipush (v := (7 : Int32)) hx hb dX2_init_14 (by decide) ?_
  refine jnewa (atype := .int) (ty := .int) (N' := 7) (a0 := zA 7) hx hb (hts (.arrayClass .int) (by decide +kernel)) rfl hK hP hD hS hA 0 ht0 prI (fun cA => zA_i 7 cA) (by decide) rfl (by decide) (Nat.le_of_ble_eq_true rfl) (Nat.le_of_ble_eq_true rfl) dX2_init_16 (fun q2 H hP hD hS => ?_)
  replace hP : va_P D vwCl [(h, .inr (2, [.ref q1, .null, .int 0])), (q1, .inl (cI, zA 896)), (q2, .inl (cI, zA 7))] H := hP
  replace hD : va_D A [(h, .inr (2, [.ref q1, .null, .int 0])), (q1, .inl (cI, zA 896)), (q2, .inl (cI, zA 7))] := hD
  refine va_putF (D := D) (ci := 2) (v := .ref q2) (ty := (.array .int)) (C := RX2) (T := TX2) (N := 3) hx hb hts hi0 tyX2 tyX2_ok nmX2 hown hK hP hD hS 0 rfl rfl 1 (by decide) (hts (.fieldLink RX2 15 "PuppetBar$Order" "found" "[I") (by decide +kernel)) (fun _ h9 => h9) rfl hin rfl (by decide +kernel) rfl rfl (Nat.le_of_ble_eq_true rfl) dX2_init_18 (fun H locs hP hD hS => ?_)
  replace hP : va_P D vwCl [(h, .inr (2, [.ref q1, .ref q2, .int 0])), (q1, .inl (cI, zA 896)), (q2, .inl (cI, zA 7))] H := hP
  replace hD : va_D A [(h, .inr (2, [.ref q1, .ref q2, .int 0])), (q1, .inl (cI, zA 896)), (q2, .inl (cI, zA 7))] := hD
  replace hP : va_P D vwCl (gOrder cI (fun i => [h, q1, q2].getD i 0)) H := hP
  replace hD : va_D A (gOrder cI (fun i => [h, q1, q2].getD i 0)) := hD
  refine W.widen (k := 2) (n := 903) (Nat.le_of_ble_eq_true rfl) (Nat.le_of_ble_eq_true rfl) ?_
  exact W.vret hx hb hr (fun t ht hW => ⟨⟨(fun i => [h, q1, q2].getD i 0), rfl, rfl, by rw [ht]; exact hP, hD⟩, hS.F ht⟩) hS.2.2 dX2_init_21
abbrev gDoll (cI : ClassId) (ad : Nat → Nat) : va_W := [((ad 0), .inr (0, [.ref (ad 1), .ref (ad 2), .ref (ad 3), .ref (ad 4), .ref (ad 5), .ref (ad 6), .ref (ad 7), .int 0, .int 0, .int 0, .ref (ad 9)])), ((ad 1), .inl (cI, zA 8)), ((ad 2), .inl (cI, zA 8)), ((ad 3), .inl (cI, zA 8)), ((ad 4), .inl (cI, zA 6)), ((ad 5), .inl (cI, zA 7)), ((ad 6), .inl (cI, zA 7)), ((ad 7), .inr (4, [.ref (ad 8)])), ((ad 8), .inl (cI, zA 21)), ((ad 9), .inl (cI, zA 64))]
set_option maxRecDepth 20000 in
theorem ji_X0 {l : Launch} (D : va_G) (cI : ClassId) (tys : List (ClassId × FieldType)) (ht0 : tys[0]? = some (cI, .int)) (h sz : Nat) : Met l yX0_init wsX0_init ({ frames := 2, cells := 9, slots := 130, locals := 32 }) (va_Pc [.ref h] (kPre D tys h 0 [.null, .null, .null, .null, .null, .null, .null, .int 0, .int 0, .int 0, .null] sz)) (kQ D (va_A [(h, .inr (0, [.null, .null, .null, .null, .null, .null, .null, .int 0, .int 0, .int 0, .null]))] sz) h (gDoll cI)) 9 130 (va_A [(h, .inr (0, [.null, .null, .null, .null, .null, .null, .null, .int 0, .int 0, .int 0, .null]))] sz) := by
  refine kStart (cc := cX0_init) (by decide) rfl rfl (fun p e s m below meth c ls A hx hb hr hlocks hts hown hml hin hK hn hP hD hA hS hl => ?_)
  have hown : s.vm.findClass RX0 = some m.cls := hown
  have hi0 : ∀ w ∈ u_ws RX0 TX0 11, w ∈ wsX0_init := by decide +kernel
  refine lv_aload_n hx hb dX0_init_0 rfl (lv_at hl 0 rfl) ?_
  refine W.objInit hx hb hown (hts (.methodLink RX0 3 objectInit) (by decide +kernel)) (hts (.instanceMethod objectInit) (by decide +kernel)) (hts _ (List.mem_of_getElem? (i := 3) rfl)) rfl (by rw [hml]; exact hl.1) rfl dX0_init_1 (Nat.le_of_ble_eq_true rfl) (Nat.le_of_ble_eq_true rfl) ?_
  refine W.eq (g2 := F0 m 4 ls []) rfl ?_
  refine lv_aload_n hx hb dX0_init_4 rfl (lv_at hl 0 rfl) ?_
  refine lv_bipush (v := (8 : Int32)) hx hb dX0_init_5 (by decide) ?_
  refine jnewa (atype := .int) (ty := .int) (N' := 8) (a0 := zA 8) hx hb (hts (.arrayClass .int) (by decide +kernel)) rfl hK hP hD hS hA 0 ht0 prI (fun cA => zA_i 8 cA) (by decide) rfl (by decide) (Nat.le_of_ble_eq_true rfl) (Nat.le_of_ble_eq_true rfl) dX0_init_7 (fun q1 H hP hD hS => ?_)
  replace hP : va_P D vwCl [(h, .inr (0, [.null, .null, .null, .null, .null, .null, .null, .int 0, .int 0, .int 0, .null])), (q1, .inl (cI, zA 8))] H := hP
  replace hD : va_D A [(h, .inr (0, [.null, .null, .null, .null, .null, .null, .null, .int 0, .int 0, .int 0, .null])), (q1, .inl (cI, zA 8))] := hD
  refine va_putF (D := D) (ci := 0) (v := .ref q1) (ty := (.array .int)) (C := RX0) (T := TX0) (N := 11) hx hb hts hi0 tyX0 tyX0_ok nmX0 hown hK hP hD hS 0 rfl rfl 0 (by decide) (hts (.fieldLink RX0 9 "PuppetBar$Doll" "parent" "[I") (by decide +kernel)) (fun _ h9 => h9) rfl hin rfl (by decide +kernel) rfl rfl (Nat.le_of_ble_eq_true rfl) dX0_init_9 (fun H locs hP hD hS => ?_)
  replace hP : va_P D vwCl [(h, .inr (0, [.ref q1, .null, .null, .null, .null, .null, .null, .int 0, .int 0, .int 0, .null])), (q1, .inl (cI, zA 8))] H := hP
  replace hD : va_D A [(h, .inr (0, [.ref q1, .null, .null, .null, .null, .null, .null, .int 0, .int 0, .int 0, .null])), (q1, .inl (cI, zA 8))] := hD
  refine lv_aload_n hx hb dX0_init_12 rfl (lv_at hl 0 rfl) ?_
  refine lv_bipush (v := (8 : Int32)) hx hb dX0_init_13 (by decide) ?_
  refine jnewa (atype := .int) (ty := .int) (N' := 8) (a0 := zA 8) hx hb (hts (.arrayClass .int) (by decide +kernel)) rfl hK hP hD hS hA 0 ht0 prI (fun cA => zA_i 8 cA) (by decide) rfl (by decide) (Nat.le_of_ble_eq_true rfl) (Nat.le_of_ble_eq_true rfl) dX0_init_15 (fun q2 H hP hD hS => ?_)
  replace hP : va_P D vwCl [(h, .inr (0, [.ref q1, .null, .null, .null, .null, .null, .null, .int 0, .int 0, .int 0, .null])), (q1, .inl (cI, zA 8)), (q2, .inl (cI, zA 8))] H := hP
  replace hD : va_D A [(h, .inr (0, [.ref q1, .null, .null, .null, .null, .null, .null, .int 0, .int 0, .int 0, .null])), (q1, .inl (cI, zA 8)), (q2, .inl (cI, zA 8))] := hD
  refine va_putF (D := D) (ci := 0) (v := .ref q2) (ty := (.array .int)) (C := RX0) (T := TX0) (N := 11) hx hb hts hi0 tyX0 tyX0_ok nmX0 hown hK hP hD hS 0 rfl rfl 1 (by decide) (hts (.fieldLink RX0 15 "PuppetBar$Doll" "bone" "[I") (by decide +kernel)) (fun _ h9 => h9) rfl hin rfl (by decide +kernel) rfl rfl (Nat.le_of_ble_eq_true rfl) dX0_init_17 (fun H locs hP hD hS => ?_)
  replace hP : va_P D vwCl [(h, .inr (0, [.ref q1, .ref q2, .null, .null, .null, .null, .null, .int 0, .int 0, .int 0, .null])), (q1, .inl (cI, zA 8)), (q2, .inl (cI, zA 8))] H := hP
  replace hD : va_D A [(h, .inr (0, [.ref q1, .ref q2, .null, .null, .null, .null, .null, .int 0, .int 0, .int 0, .null])), (q1, .inl (cI, zA 8)), (q2, .inl (cI, zA 8))] := hD
  refine lv_aload_n hx hb dX0_init_20 rfl (lv_at hl 0 rfl) ?_
  refine lv_bipush (v := (8 : Int32)) hx hb dX0_init_21 (by decide) ?_
  refine jnewa (atype := .int) (ty := .int) (N' := 8) (a0 := zA 8) hx hb (hts (.arrayClass .int) (by decide +kernel)) rfl hK hP hD hS hA 0 ht0 prI (fun cA => zA_i 8 cA) (by decide) rfl (by decide) (Nat.le_of_ble_eq_true rfl) (Nat.le_of_ble_eq_true rfl) dX0_init_23 (fun q3 H hP hD hS => ?_)
  replace hP : va_P D vwCl [(h, .inr (0, [.ref q1, .ref q2, .null, .null, .null, .null, .null, .int 0, .int 0, .int 0, .null])), (q1, .inl (cI, zA 8)), (q2, .inl (cI, zA 8)), (q3, .inl (cI, zA 8))] H := hP
  replace hD : va_D A [(h, .inr (0, [.ref q1, .ref q2, .null, .null, .null, .null, .null, .int 0, .int 0, .int 0, .null])), (q1, .inl (cI, zA 8)), (q2, .inl (cI, zA 8)), (q3, .inl (cI, zA 8))] := hD
  refine va_putF (D := D) (ci := 0) (v := .ref q3) (ty := (.array .int)) (C := RX0) (T := TX0) (N := 11) hx hb hts hi0 tyX0 tyX0_ok nmX0 hown hK hP hD hS 0 rfl rfl 2 (by decide) (hts (.fieldLink RX0 18 "PuppetBar$Doll" "weight" "[I") (by decide +kernel)) (fun _ h9 => h9) rfl hin rfl (by decide +kernel) rfl rfl (Nat.le_of_ble_eq_true rfl) dX0_init_25 (fun H locs hP hD hS => ?_)
  replace hP : va_P D vwCl [(h, .inr (0, [.ref q1, .ref q2, .ref q3, .null, .null, .null, .null, .int 0, .int 0, .int 0, .null])), (q1, .inl (cI, zA 8)), (q2, .inl (cI, zA 8)), (q3, .inl (cI, zA 8))] H := hP
  replace hD : va_D A [(h, .inr (0, [.ref q1, .ref q2, .ref q3, .null, .null, .null, .null, .int 0, .int 0, .int 0, .null])), (q1, .inl (cI, zA 8)), (q2, .inl (cI, zA 8)), (q3, .inl (cI, zA 8))] := hD
  refine lv_aload_n hx hb dX0_init_28 rfl (lv_at hl 0 rfl) ?_
  refine lv_bipush (v := (6 : Int32)) hx hb dX0_init_29 (by decide) ?_
  refine jnewa (atype := .int) (ty := .int) (N' := 6) (a0 := zA 6) hx hb (hts (.arrayClass .int) (by decide +kernel)) rfl hK hP hD hS hA 0 ht0 prI (fun cA => zA_i 6 cA) (by decide) rfl (by decide) (Nat.le_of_ble_eq_true rfl) (Nat.le_of_ble_eq_true rfl) dX0_init_31 (fun q4 H hP hD hS => ?_)
  replace hP : va_P D vwCl [(h, .inr (0, [.ref q1, .ref q2, .ref q3, .null, .null, .null, .null, .int 0, .int 0, .int 0, .null])), (q1, .inl (cI, zA 8)), (q2, .inl (cI, zA 8)), (q3, .inl (cI, zA 8)), (q4, .inl (cI, zA 6))] H := hP
  replace hD : va_D A [(h, .inr (0, [.ref q1, .ref q2, .ref q3, .null, .null, .null, .null, .int 0, .int 0, .int 0, .null])), (q1, .inl (cI, zA 8)), (q2, .inl (cI, zA 8)), (q3, .inl (cI, zA 8)), (q4, .inl (cI, zA 6))] := hD
  refine va_putF (D := D) (ci := 0) (v := .ref q4) (ty := (.array .int)) (C := RX0) (T := TX0) (N := 11) hx hb hts hi0 tyX0 tyX0_ok nmX0 hown hK hP hD hS 0 rfl rfl 3 (by decide) (hts (.fieldLink RX0 21 "PuppetBar$Doll" "strength" "[I") (by decide +kernel)) (fun _ h9 => h9) rfl hin rfl (by decide +kernel) rfl rfl (Nat.le_of_ble_eq_true rfl) dX0_init_33 (fun H locs hP hD hS => ?_)
  replace hP : va_P D vwCl [(h, .inr (0, [.ref q1, .ref q2, .ref q3, .ref q4, .null, .null, .null, .int 0, .int 0, .int 0, .null])), (q1, .inl (cI, zA 8)), (q2, .inl (cI, zA 8)), (q3, .inl (cI, zA 8)), (q4, .inl (cI, zA 6))] H := hP
  replace hD : va_D A [(h, .inr (0, [.ref q1, .ref q2, .ref q3, .ref q4, .null, .null, .null, .int 0, .int 0, .int 0, .null])), (q1, .inl (cI, zA 8)), (q2, .inl (cI, zA 8)), (q3, .inl (cI, zA 8)), (q4, .inl (cI, zA 6))] := hD
  refine lv_aload_n hx hb dX0_init_36 rfl (lv_at hl 0 rfl) ?_
  refine lv_bipush (v := (7 : Int32)) hx hb dX0_init_37 (by decide) ?_
  refine jnewa (atype := .int) (ty := .int) (N' := 7) (a0 := zA 7) hx hb (hts (.arrayClass .int) (by decide +kernel)) rfl hK hP hD hS hA 0 ht0 prI (fun cA => zA_i 7 cA) (by decide) rfl (by decide) (Nat.le_of_ble_eq_true rfl) (Nat.le_of_ble_eq_true rfl) dX0_init_39 (fun q5 H hP hD hS => ?_)
  replace hP : va_P D vwCl [(h, .inr (0, [.ref q1, .ref q2, .ref q3, .ref q4, .null, .null, .null, .int 0, .int 0, .int 0, .null])), (q1, .inl (cI, zA 8)), (q2, .inl (cI, zA 8)), (q3, .inl (cI, zA 8)), (q4, .inl (cI, zA 6)), (q5, .inl (cI, zA 7))] H := hP
  replace hD : va_D A [(h, .inr (0, [.ref q1, .ref q2, .ref q3, .ref q4, .null, .null, .null, .int 0, .int 0, .int 0, .null])), (q1, .inl (cI, zA 8)), (q2, .inl (cI, zA 8)), (q3, .inl (cI, zA 8)), (q4, .inl (cI, zA 6)), (q5, .inl (cI, zA 7))] := hD
  refine va_putF (D := D) (ci := 0) (v := .ref q5) (ty := (.array .int)) (C := RX0) (T := TX0) (N := 11) hx hb hts hi0 tyX0 tyX0_ok nmX0 hown hK hP hD hS 0 rfl rfl 4 (by decide) (hts (.fieldLink RX0 24 "PuppetBar$Doll" "beatLift" "[I") (by decide +kernel)) (fun _ h9 => h9) rfl hin rfl (by decide +kernel) rfl rfl (Nat.le_of_ble_eq_true rfl) dX0_init_41 (fun H locs hP hD hS => ?_)
  replace hP : va_P D vwCl [(h, .inr (0, [.ref q1, .ref q2, .ref q3, .ref q4, .ref q5, .null, .null, .int 0, .int 0, .int 0, .null])), (q1, .inl (cI, zA 8)), (q2, .inl (cI, zA 8)), (q3, .inl (cI, zA 8)), (q4, .inl (cI, zA 6)), (q5, .inl (cI, zA 7))] H := hP
  replace hD : va_D A [(h, .inr (0, [.ref q1, .ref q2, .ref q3, .ref q4, .ref q5, .null, .null, .int 0, .int 0, .int 0, .null])), (q1, .inl (cI, zA 8)), (q2, .inl (cI, zA 8)), (q3, .inl (cI, zA 8)), (q4, .inl (cI, zA 6)), (q5, .inl (cI, zA 7))] := hD
  refine lv_aload_n hx hb dX0_init_44 rfl (lv_at hl 0 rfl) ?_
  refine lv_bipush (v := (7 : Int32)) hx hb dX0_init_45 (by decide) ?_
  refine jnewa (atype := .int) (ty := .int) (N' := 7) (a0 := zA 7) hx hb (hts (.arrayClass .int) (by decide +kernel)) rfl hK hP hD hS hA 0 ht0 prI (fun cA => zA_i 7 cA) (by decide) rfl (by decide) (Nat.le_of_ble_eq_true rfl) (Nat.le_of_ble_eq_true rfl) dX0_init_47 (fun q6 H hP hD hS => ?_)
  replace hP : va_P D vwCl [(h, .inr (0, [.ref q1, .ref q2, .ref q3, .ref q4, .ref q5, .null, .null, .int 0, .int 0, .int 0, .null])), (q1, .inl (cI, zA 8)), (q2, .inl (cI, zA 8)), (q3, .inl (cI, zA 8)), (q4, .inl (cI, zA 6)), (q5, .inl (cI, zA 7)), (q6, .inl (cI, zA 7))] H := hP
  replace hD : va_D A [(h, .inr (0, [.ref q1, .ref q2, .ref q3, .ref q4, .ref q5, .null, .null, .int 0, .int 0, .int 0, .null])), (q1, .inl (cI, zA 8)), (q2, .inl (cI, zA 8)), (q3, .inl (cI, zA 8)), (q4, .inl (cI, zA 6)), (q5, .inl (cI, zA 7)), (q6, .inl (cI, zA 7))] := hD
  refine va_putF (D := D) (ci := 0) (v := .ref q6) (ty := (.array .int)) (C := RX0) (T := TX0) (N := 11) hx hb hts hi0 tyX0 tyX0_ok nmX0 hown hK hP hD hS 0 rfl rfl 5 (by decide) (hts (.fieldLink RX0 27 "PuppetBar$Doll" "beatTilt" "[I") (by decide +kernel)) (fun _ h9 => h9) rfl hin rfl (by decide +kernel) rfl rfl (Nat.le_of_ble_eq_true rfl) dX0_init_49 (fun H locs hP hD hS => ?_)
  replace hP : va_P D vwCl [(h, .inr (0, [.ref q1, .ref q2, .ref q3, .ref q4, .ref q5, .ref q6, .null, .int 0, .int 0, .int 0, .null])), (q1, .inl (cI, zA 8)), (q2, .inl (cI, zA 8)), (q3, .inl (cI, zA 8)), (q4, .inl (cI, zA 6)), (q5, .inl (cI, zA 7)), (q6, .inl (cI, zA 7))] H := hP
  replace hD : va_D A [(h, .inr (0, [.ref q1, .ref q2, .ref q3, .ref q4, .ref q5, .ref q6, .null, .int 0, .int 0, .int 0, .null])), (q1, .inl (cI, zA 8)), (q2, .inl (cI, zA 8)), (q3, .inl (cI, zA 8)), (q4, .inl (cI, zA 6)), (q5, .inl (cI, zA 7)), (q6, .inl (cI, zA 7))] := hD
  refine lv_aload_n hx hb dX0_init_52 rfl (lv_at hl 0 rfl) ?_
  refine va_new (ci := 4) (fs := [.null]) (C := RX4) (T := TX4) (N := 1) hx hb hts (by decide +kernel) tyX4 tyX4_ok hown (hts (.classLink RX0 30 RX4) (by decide +kernel)) (hts (.instantiable RX4 1) (by decide +kernel)) (hts (.initialized RX4) (by decide +kernel)) hK hP hD hS hA rfl (fun j hj => by rcases (show j = 0 by omega) with rfl <;> rfl) (Nat.le_of_ble_eq_true rfl) (Nat.le_of_ble_eq_true rfl) dX0_init_53 (fun q7 H hP hD hS => ?_)
  replace hP : va_P D vwCl [(h, .inr (0, [.ref q1, .ref q2, .ref q3, .ref q4, .ref q5, .ref q6, .null, .int 0, .int 0, .int 0, .null])), (q1, .inl (cI, zA 8)), (q2, .inl (cI, zA 8)), (q3, .inl (cI, zA 8)), (q4, .inl (cI, zA 6)), (q5, .inl (cI, zA 7)), (q6, .inl (cI, zA 7)), (q7, .inr (4, [.null]))] H := hP
  replace hD : va_D A [(h, .inr (0, [.ref q1, .ref q2, .ref q3, .ref q4, .ref q5, .ref q6, .null, .int 0, .int 0, .int 0, .null])), (q1, .inl (cI, zA 8)), (q2, .inl (cI, zA 8)), (q3, .inl (cI, zA 8)), (q4, .inl (cI, zA 6)), (q5, .inl (cI, zA 7)), (q6, .inl (cI, zA 7)), (q7, .inr (4, [.null]))] := hD
  refine lv_dup hx hb dX0_init_56 rfl ?_
  have hPc := hP.sub (ws' := [(q7, .inr (4, [.null]))]) [7] rfl
  refine jK (ws := [(h, .inr (0, [.ref q1, .ref q2, .ref q3, .ref q4, .ref q5, .ref q6, .null, .int 0, .int 0, .int 0, .null])), (q1, .inl (cI, zA 8)), (q2, .inl (cI, zA 8)), (q3, .inl (cI, zA 8)), (q4, .inl (cI, zA 6)), (q5, .inl (cI, zA 7)), (q6, .inl (cI, zA 7))]) (ci := 4) (fs := [.null]) (grp := gPose cI) (va_runIN (host := "PuppetBar") (b := q7) (As := []) (rest := [.ref q7, .ref h]) ⟨hx, hb, hml, hown, hts⟩ (ji_X4 D cI tys ht0 q7 H.size) ⟨va_cnB 0 hts gX0_init_X4_init_n32 rfl rfl rfl hn.2.2.1 (hts (.initialized RX4) (by decide +kernel)) (by decide +kernel) ⟨Nat.le_of_ble_eq_true rfl, Nat.le_of_ble_eq_true rfl⟩, rfl, hts (.instanceMethod yX4_init) (by decide +kernel)⟩ ⟨kPre_blind _ _ _ _ _ _ _, fun U hU hW => ⟨rfl, by rw [hU], by rw [hU]; exact hPc, va_K.moved hW.alike hK, nst_warm hW hn⟩⟩ rfl rfl hl.1 rfl (lv_room (Nat.le_of_ble_eq_true rfl)) dX0_init_57 ⟨Nat.le_of_ble_eq_true rfl, Nat.le_of_ble_eq_true rfl⟩) hP hD hS hA (fun ad8 H locs e_ad8 hP9 hD9 hS9 => ?_)
  clear hPc hP hD hS
  subst e_ad8
  have hP := hP9
  have hD := hD9
  have hS := hS9
  clear hP9 hD9 hS9
  replace hP : va_P D vwCl [(h, .inr (0, [.ref q1, .ref q2, .ref q3, .ref q4, .ref q5, .ref q6, .null, .int 0, .int 0, .int 0, .null])), (q1, .inl (cI, zA 8)), (q2, .inl (cI, zA 8)), (q3, .inl (cI, zA 8)), (q4, .inl (cI, zA 6)), (q5, .inl (cI, zA 7)), (q6, .inl (cI, zA 7)), ((ad8 0), .inr (4, [.ref (ad8 1)])), ((ad8 1), .inl (cI, zA 21))] H := hP
  replace hD : va_D A [(h, .inr (0, [.ref q1, .ref q2, .ref q3, .ref q4, .ref q5, .ref q6, .null, .int 0, .int 0, .int 0, .null])), (q1, .inl (cI, zA 8)), (q2, .inl (cI, zA 8)), (q3, .inl (cI, zA 8)), (q4, .inl (cI, zA 6)), (q5, .inl (cI, zA 7)), (q6, .inl (cI, zA 7)), ((ad8 0), .inr (4, [.ref (ad8 1)])), ((ad8 1), .inl (cI, zA 21))] := hD
  refine W.eq (g2 := F0 m 60 ls [.ref (ad8 0), .ref h]) rfl ?_
  refine va_putF (D := D) (ci := 0) (v := .ref (ad8 0)) (ty := (.object "PuppetBar$Pose")) (C := RX0) (T := TX0) (N := 11) hx hb hts hi0 tyX0 tyX0_ok nmX0 hown hK hP hD hS 0 rfl rfl 6 (by decide) (hts (.fieldLink RX0 33 "PuppetBar$Doll" "first" "LPuppetBar$Pose;") (by decide +kernel)) (fun _ h9 => h9) rfl hin rfl (by decide +kernel) rfl rfl (Nat.le_of_ble_eq_true rfl) dX0_init_60 (fun H locs hP hD hS => ?_)
  replace hP : va_P D vwCl [(h, .inr (0, [.ref q1, .ref q2, .ref q3, .ref q4, .ref q5, .ref q6, .ref (ad8 0), .int 0, .int 0, .int 0, .null])), (q1, .inl (cI, zA 8)), (q2, .inl (cI, zA 8)), (q3, .inl (cI, zA 8)), (q4, .inl (cI, zA 6)), (q5, .inl (cI, zA 7)), (q6, .inl (cI, zA 7)), ((ad8 0), .inr (4, [.ref (ad8 1)])), ((ad8 1), .inl (cI, zA 21))] H := hP
  replace hD : va_D A [(h, .inr (0, [.ref q1, .ref q2, .ref q3, .ref q4, .ref q5, .ref q6, .ref (ad8 0), .int 0, .int 0, .int 0, .null])), (q1, .inl (cI, zA 8)), (q2, .inl (cI, zA 8)), (q3, .inl (cI, zA 8)), (q4, .inl (cI, zA 6)), (q5, .inl (cI, zA 7)), (q6, .inl (cI, zA 7)), ((ad8 0), .inr (4, [.ref (ad8 1)])), ((ad8 1), .inl (cI, zA 21))] := hD
  refine lv_aload_n hx hb dX0_init_63 rfl (lv_at hl 0 rfl) ?_
  refine lv_bipush (v := (64 : Int32)) hx hb dX0_init_64 (by decide) ?_
  refine jnewa (atype := .int) (ty := .int) (N' := 64) (a0 := zA 64) hx hb (hts (.arrayClass .int) (by decide +kernel)) rfl hK hP hD hS hA 0 ht0 prI (fun cA => zA_i 64 cA) (by decide) rfl (by decide) (Nat.le_of_ble_eq_true rfl) (Nat.le_of_ble_eq_true rfl) dX0_init_66 (fun q9 H hP hD hS => ?_)
  replace hP : va_P D vwCl [(h, .inr (0, [.ref q1, .ref q2, .ref q3, .ref q4, .ref q5, .ref q6, .ref (ad8 0), .int 0, .int 0, .int 0, .null])), (q1, .inl (cI, zA 8)), (q2, .inl (cI, zA 8)), (q3, .inl (cI, zA 8)), (q4, .inl (cI, zA 6)), (q5, .inl (cI, zA 7)), (q6, .inl (cI, zA 7)), ((ad8 0), .inr (4, [.ref (ad8 1)])), ((ad8 1), .inl (cI, zA 21)), (q9, .inl (cI, zA 64))] H := hP
  replace hD : va_D A [(h, .inr (0, [.ref q1, .ref q2, .ref q3, .ref q4, .ref q5, .ref q6, .ref (ad8 0), .int 0, .int 0, .int 0, .null])), (q1, .inl (cI, zA 8)), (q2, .inl (cI, zA 8)), (q3, .inl (cI, zA 8)), (q4, .inl (cI, zA 6)), (q5, .inl (cI, zA 7)), (q6, .inl (cI, zA 7)), ((ad8 0), .inr (4, [.ref (ad8 1)])), ((ad8 1), .inl (cI, zA 21)), (q9, .inl (cI, zA 64))] := hD
  refine va_putF (D := D) (ci := 0) (v := .ref q9) (ty := (.array .int)) (C := RX0) (T := TX0) (N := 11) hx hb hts hi0 tyX0 tyX0_ok nmX0 hown hK hP hD hS 0 rfl rfl 10 (by decide) (hts (.fieldLink RX0 37 "PuppetBar$Doll" "bonesBetween" "[I") (by decide +kernel)) (fun _ h9 => h9) rfl hin rfl (by decide +kernel) rfl rfl (Nat.le_of_ble_eq_true rfl) dX0_init_68 (fun H locs hP hD hS => ?_)
  replace hP : va_P D vwCl [(h, .inr (0, [.ref q1, .ref q2, .ref q3, .ref q4, .ref q5, .ref q6, .ref (ad8 0), .int 0, .int 0, .int 0, .ref q9])), (q1, .inl (cI, zA 8)), (q2, .inl (cI, zA 8)), (q3, .inl (cI, zA 8)), (q4, .inl (cI, zA 6)), (q5, .inl (cI, zA 7)), (q6, .inl (cI, zA 7)), ((ad8 0), .inr (4, [.ref (ad8 1)])), ((ad8 1), .inl (cI, zA 21)), (q9, .inl (cI, zA 64))] H := hP
  replace hD : va_D A [(h, .inr (0, [.ref q1, .ref q2, .ref q3, .ref q4, .ref q5, .ref q6, .ref (ad8 0), .int 0, .int 0, .int 0, .ref q9])), (q1, .inl (cI, zA 8)), (q2, .inl (cI, zA 8)), (q3, .inl (cI, zA 8)), (q4, .inl (cI, zA 6)), (q5, .inl (cI, zA 7)), (q6, .inl (cI, zA 7)), ((ad8 0), .inr (4, [.ref (ad8 1)])), ((ad8 1), .inl (cI, zA 21)), (q9, .inl (cI, zA 64))] := hD
  replace hP : va_P D vwCl (gDoll cI (fun i => [h, q1, q2, q3, q4, q5, q6, (ad8 0), (ad8 1), q9].getD i 0)) H := hP
  replace hD : va_D A (gDoll cI (fun i => [h, q1, q2, q3, q4, q5, q6, (ad8 0), (ad8 1), q9].getD i 0)) := hD
  refine W.widen (k := 9) (n := 130) (Nat.le_of_ble_eq_true rfl) (Nat.le_of_ble_eq_true rfl) ?_
  exact W.vret hx hb hr (fun t ht hW => ⟨⟨(fun i => [h, q1, q2, q3, q4, q5, q6, (ad8 0), (ad8 1), q9].getD i 0), rfl, rfl, by rw [ht]; exact hP, hD⟩, hS.F ht⟩) hS.2.2 dX0_init_71
abbrev gScene (cI : ClassId) (ad : Nat → Nat) : va_W := [((ad 0), .inr (5, [.ref (ad 1), .ref (ad 3), .int 0])), ((ad 1), .inr (4, [.ref (ad 2)])), ((ad 2), .inl (cI, zA 21)), ((ad 3), .inr (3, [.ref (ad 4), .int 0, .int 0])), ((ad 4), .inl (cI, zA 210))]
set_option maxRecDepth 20000 in
theorem ji_X5 {l : Launch} (D : va_G) (cI : ClassId) (tys : List (ClassId × FieldType)) (ht0 : tys[0]? = some (cI, .int)) (h sz : Nat) : Met l yX5_init wsX5_init ({ frames := 2, cells := 4, slots := 235, locals := 32 }) (va_Pc [.ref h] (kPre D tys h 5 [.null, .null, .int 0] sz)) (kQ D (va_A [(h, .inr (5, [.null, .null, .int 0]))] sz) h (gScene cI)) 4 235 (va_A [(h, .inr (5, [.null, .null, .int 0]))] sz) := by
  refine kStart (cc := cX5_init) (by decide) rfl rfl (fun p e s m below meth c ls A hx hb hr hlocks hts hown hml hin hK hn hP hD hA hS hl => ?_)
  have hown : s.vm.findClass RX5 = some m.cls := hown
  have hi0 : ∀ w ∈ u_ws RX5 TX5 3, w ∈ wsX5_init := by decide +kernel
  refine lv_aload_n hx hb dX5_init_0 rfl (lv_at hl 0 rfl) ?_
  refine W.objInit hx hb hown (hts (.methodLink RX5 1 objectInit) (by decide +kernel)) (hts (.instanceMethod objectInit) (by decide +kernel)) (hts _ (List.mem_of_getElem? (i := 3) rfl)) rfl (by rw [hml]; exact hl.1) rfl dX5_init_1 (Nat.le_of_ble_eq_true rfl) (Nat.le_of_ble_eq_true rfl) ?_
  refine W.eq (g2 := F0 m 4 ls []) rfl ?_
  refine lv_aload_n hx hb dX5_init_4 rfl (lv_at hl 0 rfl) ?_
  refine va_new (ci := 4) (fs := [.null]) (C := RX4) (T := TX4) (N := 1) hx hb hts (by decide +kernel) tyX4 tyX4_ok hown (hts (.classLink RX5 7 RX4) (by decide +kernel)) (hts (.instantiable RX4 1) (by decide +kernel)) (hts (.initialized RX4) (by decide +kernel)) hK hP hD hS hA rfl (fun j hj => by rcases (show j = 0 by omega) with rfl <;> rfl) (Nat.le_of_ble_eq_true rfl) (Nat.le_of_ble_eq_true rfl) dX5_init_5 (fun q1 H hP hD hS => ?_)
  replace hP : va_P D vwCl [(h, .inr (5, [.null, .null, .int 0])), (q1, .inr (4, [.null]))] H := hP
  replace hD : va_D A [(h, .inr (5, [.null, .null, .int 0])), (q1, .inr (4, [.null]))] := hD
  refine lv_dup hx hb dX5_init_8 rfl ?_
  have hPc := hP.sub (ws' := [(q1, .inr (4, [.null]))]) [1] rfl
  refine jK (ws := [(h, .inr (5, [.null, .null, .int 0]))]) (ci := 4) (fs := [.null]) (grp := gPose cI) (va_runIN (host := "PuppetBar") (b := q1) (As := []) (rest := [.ref q1, .ref h]) ⟨hx, hb, hml, hown, hts⟩ (ji_X4 D cI tys ht0 q1 H.size) ⟨va_cnB 0 hts gX5_init_X4_init_n9 rfl rfl rfl hn.2.2.2.2.1 (hts (.initialized RX4) (by decide +kernel)) (by decide +kernel) ⟨Nat.le_of_ble_eq_true rfl, Nat.le_of_ble_eq_true rfl⟩, rfl, hts (.instanceMethod yX4_init) (by decide +kernel)⟩ ⟨kPre_blind _ _ _ _ _ _ _, fun U hU hW => ⟨rfl, by rw [hU], by rw [hU]; exact hPc, va_K.moved hW.alike hK, nst_warm hW hn⟩⟩ rfl rfl hl.1 rfl (lv_room (Nat.le_of_ble_eq_true rfl)) dX5_init_9 ⟨Nat.le_of_ble_eq_true rfl, Nat.le_of_ble_eq_true rfl⟩) hP hD hS hA (fun ad2 H locs e_ad2 hP9 hD9 hS9 => ?_)
  clear hPc hP hD hS
  subst e_ad2
  have hP := hP9
  have hD := hD9
  have hS := hS9
  clear hP9 hD9 hS9
  replace hP : va_P D vwCl [(h, .inr (5, [.null, .null, .int 0])), ((ad2 0), .inr (4, [.ref (ad2 1)])), ((ad2 1), .inl (cI, zA 21))] H := hP
  replace hD : va_D A [(h, .inr (5, [.null, .null, .int 0])), ((ad2 0), .inr (4, [.ref (ad2 1)])), ((ad2 1), .inl (cI, zA 21))] := hD
  refine W.eq (g2 := F0 m 12 ls [.ref (ad2 0), .ref h]) rfl ?_
  refine va_putF (D := D) (ci := 5) (v := .ref (ad2 0)) (ty := (.object "PuppetBar$Pose")) (C := RX5) (T := TX5) (N := 3) hx hb hts hi0 tyX5 tyX5_ok nmX5 hown hK hP hD hS 0 rfl rfl 0 (by decide) (hts (.fieldLink RX5 10 "PuppetBar$Scene" "pose" "LPuppetBar$Pose;") (by decide +kernel)) (fun _ h9 => h9) rfl hin rfl (by decide +kernel) rfl rfl (Nat.le_of_ble_eq_true rfl) dX5_init_12 (fun H locs hP hD hS => ?_)
  replace hP : va_P D vwCl [(h, .inr (5, [.ref (ad2 0), .null, .int 0])), ((ad2 0), .inr (4, [.ref (ad2 1)])), ((ad2 1), .inl (cI, zA 21))] H := hP
  replace hD : va_D A [(h, .inr (5, [.ref (ad2 0), .null, .int 0])), ((ad2 0), .inr (4, [.ref (ad2 1)])), ((ad2 1), .inl (cI, zA 21))] := hD
  refine lv_aload_n hx hb dX5_init_15 rfl (lv_at hl 0 rfl) ?_
  refine va_new (ci := 3) (fs := [.null, .int 0, .int 0]) (C := RX3) (T := TX3) (N := 3) hx hb hts (by decide +kernel) tyX3 tyX3_ok hown (hts (.classLink RX5 16 RX3) (by decide +kernel)) (hts (.instantiable RX3 3) (by decide +kernel)) (hts (.initialized RX3) (by decide +kernel)) hK hP hD hS hA rfl (fun j hj => by rcases (show j = 0 ∨ j = 1 ∨ j = 2 by omega) with rfl | rfl | rfl <;> rfl) (Nat.le_of_ble_eq_true rfl) (Nat.le_of_ble_eq_true rfl) dX5_init_16 (fun q3 H hP hD hS => ?_)
  replace hP : va_P D vwCl [(h, .inr (5, [.ref (ad2 0), .null, .int 0])), ((ad2 0), .inr (4, [.ref (ad2 1)])), ((ad2 1), .inl (cI, zA 21)), (q3, .inr (3, [.null, .int 0, .int 0]))] H := hP
  replace hD : va_D A [(h, .inr (5, [.ref (ad2 0), .null, .int 0])), ((ad2 0), .inr (4, [.ref (ad2 1)])), ((ad2 1), .inl (cI, zA 21)), (q3, .inr (3, [.null, .int 0, .int 0]))] := hD
  refine lv_dup hx hb dX5_init_19 rfl ?_
  have hPc := hP.sub (ws' := [(q3, .inr (3, [.null, .int 0, .int 0]))]) [3] rfl
  refine jK (ws := [(h, .inr (5, [.ref (ad2 0), .null, .int 0])), ((ad2 0), .inr (4, [.ref (ad2 1)])), ((ad2 1), .inl (cI, zA 21))]) (ci := 3) (fs := [.null, .int 0, .int 0]) (grp := gPast cI) (va_runIN (host := "PuppetBar") (b := q3) (As := []) (rest := [.ref q3, .ref h]) ⟨hx, hb, hml, hown, hts⟩ (ji_X3 D cI tys ht0 q3 H.size) ⟨va_cnB 0 hts gX5_init_X3_init_n18 rfl rfl rfl hn.2.2.2.2.2.1 (hts (.initialized RX3) (by decide +kernel)) (by decide +kernel) ⟨Nat.le_of_ble_eq_true rfl, Nat.le_of_ble_eq_true rfl⟩, rfl, hts (.instanceMethod yX3_init) (by decide +kernel)⟩ ⟨kPre_blind _ _ _ _ _ _ _, fun U hU hW => ⟨rfl, by rw [hU], by rw [hU]; exact hPc, va_K.moved hW.alike hK, nst_warm hW hn⟩⟩ rfl rfl hl.1 rfl (lv_room (Nat.le_of_ble_eq_true rfl)) dX5_init_20 ⟨Nat.le_of_ble_eq_true rfl, Nat.le_of_ble_eq_true rfl⟩) hP hD hS hA (fun ad4 H locs e_ad4 hP9 hD9 hS9 => ?_)
  clear hPc hP hD hS
  subst e_ad4
  have hP := hP9
  have hD := hD9
  have hS := hS9
  clear hP9 hD9 hS9
  replace hP : va_P D vwCl [(h, .inr (5, [.ref (ad2 0), .null, .int 0])), ((ad2 0), .inr (4, [.ref (ad2 1)])), ((ad2 1), .inl (cI, zA 21)), ((ad4 0), .inr (3, [.ref (ad4 1), .int 0, .int 0])), ((ad4 1), .inl (cI, zA 210))] H := hP
  replace hD : va_D A [(h, .inr (5, [.ref (ad2 0), .null, .int 0])), ((ad2 0), .inr (4, [.ref (ad2 1)])), ((ad2 1), .inl (cI, zA 21)), ((ad4 0), .inr (3, [.ref (ad4 1), .int 0, .int 0])), ((ad4 1), .inl (cI, zA 210))] := hD
  refine W.eq (g2 := F0 m 23 ls [.ref (ad4 0), .ref h]) rfl ?_
  refine va_putF (D := D) (ci := 5) (v := .ref (ad4 0)) (ty := (.object "PuppetBar$Past")) (C := RX5) (T := TX5) (N := 3) hx hb hts hi0 tyX5 tyX5_ok nmX5 hown hK hP hD hS 0 rfl rfl 1 (by decide) (hts (.fieldLink RX5 19 "PuppetBar$Scene" "past" "LPuppetBar$Past;") (by decide +kernel)) (fun _ h9 => h9) rfl hin rfl (by decide +kernel) rfl rfl (Nat.le_of_ble_eq_true rfl) dX5_init_23 (fun H locs hP hD hS => ?_)
  replace hP : va_P D vwCl [(h, .inr (5, [.ref (ad2 0), .ref (ad4 0), .int 0])), ((ad2 0), .inr (4, [.ref (ad2 1)])), ((ad2 1), .inl (cI, zA 21)), ((ad4 0), .inr (3, [.ref (ad4 1), .int 0, .int 0])), ((ad4 1), .inl (cI, zA 210))] H := hP
  replace hD : va_D A [(h, .inr (5, [.ref (ad2 0), .ref (ad4 0), .int 0])), ((ad2 0), .inr (4, [.ref (ad2 1)])), ((ad2 1), .inl (cI, zA 21)), ((ad4 0), .inr (3, [.ref (ad4 1), .int 0, .int 0])), ((ad4 1), .inl (cI, zA 210))] := hD
  replace hP : va_P D vwCl (gScene cI (fun i => [h, (ad2 0), (ad2 1), (ad4 0), (ad4 1)].getD i 0)) H := hP
  replace hD : va_D A (gScene cI (fun i => [h, (ad2 0), (ad2 1), (ad4 0), (ad4 1)].getD i 0)) := hD
  refine W.widen (k := 4) (n := 235) (Nat.le_of_ble_eq_true rfl) (Nat.le_of_ble_eq_true rfl) ?_
  exact W.vret hx hb hr (fun t ht hW => ⟨⟨(fun i => [h, (ad2 0), (ad2 1), (ad4 0), (ad4 1)].getD i 0), rfl, rfl, by rw [ht]; exact hP, hD⟩, hS.F ht⟩) hS.2.2 dX5_init_26
abbrev gSight (cI : ClassId) (ad : Nat → Nat) : va_W := [((ad 0), .inr (7, [.ref (ad 1), .ref (ad 2), .ref (ad 3), .ref (ad 4), .int 0])), ((ad 1), .inl (cI, zA 6)), ((ad 2), .inl (cI, zA 6)), ((ad 3), .inl (cI, zA 7)), ((ad 4), .inr (4, [.ref (ad 5)])), ((ad 5), .inl (cI, zA 21))]
set_option maxRecDepth 20000 in
theorem ji_X7 {l : Launch} (D : va_G) (cI : ClassId) (tys : List (ClassId × FieldType)) (ht0 : tys[0]? = some (cI, .int)) (h sz : Nat) : Met l yX7_init wsX7_init ({ frames := 2, cells := 5, slots := 41, locals := 32 }) (va_Pc [.ref h] (kPre D tys h 7 [.null, .null, .null, .null, .int 0] sz)) (kQ D (va_A [(h, .inr (7, [.null, .null, .null, .null, .int 0]))] sz) h (gSight cI)) 5 41 (va_A [(h, .inr (7, [.null, .null, .null, .null, .int 0]))] sz) := by
  refine kStart (cc := cX7_init) (by decide) rfl rfl (fun p e s m below meth c ls A hx hb hr hlocks hts hown hml hin hK hn hP hD hA hS hl => ?_)
  have hown : s.vm.findClass RX7 = some m.cls := hown
  have hi0 : ∀ w ∈ u_ws RX7 TX7 5, w ∈ wsX7_init := by decide +kernel
  refine lv_aload_n hx hb dX7_init_0 rfl (lv_at hl 0 rfl) ?_
  refine W.objInit hx hb hown (hts (.methodLink RX7 3 objectInit) (by decide +kernel)) (hts (.instanceMethod objectInit) (by decide +kernel)) (hts _ (List.mem_of_getElem? (i := 3) rfl)) rfl (by rw [hml]; exact hl.1) rfl dX7_init_1 (Nat.le_of_ble_eq_true rfl) (Nat.le_of_ble_eq_true rfl) ?_
  refine W.eq (g2 := F0 m 4 ls []) rfl ?_
  refine lv_aload_n hx hb dX7_init_4 rfl (lv_at hl 0 rfl) ?_
  refine lv_bipush (v := (6 : Int32)) hx hb dX7_init_5 (by decide) ?_
  refine jnewa (atype := .int) (ty := .int) (N' := 6) (a0 := zA 6) hx hb (hts (.arrayClass .int) (by decide +kernel)) rfl hK hP hD hS hA 0 ht0 prI (fun cA => zA_i 6 cA) (by decide) rfl (by decide) (Nat.le_of_ble_eq_true rfl) (Nat.le_of_ble_eq_true rfl) dX7_init_7 (fun q1 H hP hD hS => ?_)
  replace hP : va_P D vwCl [(h, .inr (7, [.null, .null, .null, .null, .int 0])), (q1, .inl (cI, zA 6))] H := hP
  replace hD : va_D A [(h, .inr (7, [.null, .null, .null, .null, .int 0])), (q1, .inl (cI, zA 6))] := hD
  refine va_putF (D := D) (ci := 7) (v := .ref q1) (ty := (.array .int)) (C := RX7) (T := TX7) (N := 5) hx hb hts hi0 tyX7 tyX7_ok nmX7 hown hK hP hD hS 0 rfl rfl 0 (by decide) (hts (.fieldLink RX7 11 "PuppetBar$Sight" "limbs" "[I") (by decide +kernel)) (fun _ h9 => h9) rfl hin rfl (by decide +kernel) rfl rfl (Nat.le_of_ble_eq_true rfl) dX7_init_9 (fun H locs hP hD hS => ?_)
  replace hP : va_P D vwCl [(h, .inr (7, [.ref q1, .null, .null, .null, .int 0])), (q1, .inl (cI, zA 6))] H := hP
  replace hD : va_D A [(h, .inr (7, [.ref q1, .null, .null, .null, .int 0])), (q1, .inl (cI, zA 6))] := hD
  refine lv_aload_n hx hb dX7_init_12 rfl (lv_at hl 0 rfl) ?_
  refine lv_bipush (v := (6 : Int32)) hx hb dX7_init_13 (by decide) ?_
  refine jnewa (atype := .int) (ty := .int) (N' := 6) (a0 := zA 6) hx hb (hts (.arrayClass .int) (by decide +kernel)) rfl hK hP hD hS hA 0 ht0 prI (fun cA => zA_i 6 cA) (by decide) rfl (by decide) (Nat.le_of_ble_eq_true rfl) (Nat.le_of_ble_eq_true rfl) dX7_init_15 (fun q2 H hP hD hS => ?_)
  replace hP : va_P D vwCl [(h, .inr (7, [.ref q1, .null, .null, .null, .int 0])), (q1, .inl (cI, zA 6)), (q2, .inl (cI, zA 6))] H := hP
  replace hD : va_D A [(h, .inr (7, [.ref q1, .null, .null, .null, .int 0])), (q1, .inl (cI, zA 6)), (q2, .inl (cI, zA 6))] := hD
  refine va_putF (D := D) (ci := 7) (v := .ref q2) (ty := (.array .int)) (C := RX7) (T := TX7) (N := 5) hx hb hts hi0 tyX7 tyX7_ok nmX7 hown hK hP hD hS 0 rfl rfl 1 (by decide) (hts (.fieldLink RX7 15 "PuppetBar$Sight" "heights" "[I") (by decide +kernel)) (fun _ h9 => h9) rfl hin rfl (by decide +kernel) rfl rfl (Nat.le_of_ble_eq_true rfl) dX7_init_17 (fun H locs hP hD hS => ?_)
  replace hP : va_P D vwCl [(h, .inr (7, [.ref q1, .ref q2, .null, .null, .int 0])), (q1, .inl (cI, zA 6)), (q2, .inl (cI, zA 6))] H := hP
  replace hD : va_D A [(h, .inr (7, [.ref q1, .ref q2, .null, .null, .int 0])), (q1, .inl (cI, zA 6)), (q2, .inl (cI, zA 6))] := hD
  refine lv_aload_n hx hb dX7_init_20 rfl (lv_at hl 0 rfl) ?_
  refine lv_bipush (v := (7 : Int32)) hx hb dX7_init_21 (by decide) ?_
  refine jnewa (atype := .int) (ty := .int) (N' := 7) (a0 := zA 7) hx hb (hts (.arrayClass .int) (by decide +kernel)) rfl hK hP hD hS hA 0 ht0 prI (fun cA => zA_i 7 cA) (by decide) rfl (by decide) (Nat.le_of_ble_eq_true rfl) (Nat.le_of_ble_eq_true rfl) dX7_init_23 (fun q3 H hP hD hS => ?_)
  replace hP : va_P D vwCl [(h, .inr (7, [.ref q1, .ref q2, .null, .null, .int 0])), (q1, .inl (cI, zA 6)), (q2, .inl (cI, zA 6)), (q3, .inl (cI, zA 7))] H := hP
  replace hD : va_D A [(h, .inr (7, [.ref q1, .ref q2, .null, .null, .int 0])), (q1, .inl (cI, zA 6)), (q2, .inl (cI, zA 6)), (q3, .inl (cI, zA 7))] := hD
  refine va_putF (D := D) (ci := 7) (v := .ref q3) (ty := (.array .int)) (C := RX7) (T := TX7) (N := 5) hx hb hts hi0 tyX7 tyX7_ok nmX7 hown hK hP hD hS 0 rfl rfl 2 (by decide) (hts (.fieldLink RX7 18 "PuppetBar$Sight" "guessed" "[I") (by decide +kernel)) (fun _ h9 => h9) rfl hin rfl (by decide +kernel) rfl rfl (Nat.le_of_ble_eq_true rfl) dX7_init_25 (fun H locs hP hD hS => ?_)
  replace hP : va_P D vwCl [(h, .inr (7, [.ref q1, .ref q2, .ref q3, .null, .int 0])), (q1, .inl (cI, zA 6)), (q2, .inl (cI, zA 6)), (q3, .inl (cI, zA 7))] H := hP
  replace hD : va_D A [(h, .inr (7, [.ref q1, .ref q2, .ref q3, .null, .int 0])), (q1, .inl (cI, zA 6)), (q2, .inl (cI, zA 6)), (q3, .inl (cI, zA 7))] := hD
  refine lv_aload_n hx hb dX7_init_28 rfl (lv_at hl 0 rfl) ?_
  refine va_new (ci := 4) (fs := [.null]) (C := RX4) (T := TX4) (N := 1) hx hb hts (by decide +kernel) tyX4 tyX4_ok hown (hts (.classLink RX7 21 RX4) (by decide +kernel)) (hts (.instantiable RX4 1) (by decide +kernel)) (hts (.initialized RX4) (by decide +kernel)) hK hP hD hS hA rfl (fun j hj => by rcases (show j = 0 by omega) with rfl <;> rfl) (Nat.le_of_ble_eq_true rfl) (Nat.le_of_ble_eq_true rfl) dX7_init_29 (fun q4 H hP hD hS => ?_)
  replace hP : va_P D vwCl [(h, .inr (7, [.ref q1, .ref q2, .ref q3, .null, .int 0])), (q1, .inl (cI, zA 6)), (q2, .inl (cI, zA 6)), (q3, .inl (cI, zA 7)), (q4, .inr (4, [.null]))] H := hP
  replace hD : va_D A [(h, .inr (7, [.ref q1, .ref q2, .ref q3, .null, .int 0])), (q1, .inl (cI, zA 6)), (q2, .inl (cI, zA 6)), (q3, .inl (cI, zA 7)), (q4, .inr (4, [.null]))] := hD
  refine lv_dup hx hb dX7_init_32 rfl ?_
  have hPc := hP.sub (ws' := [(q4, .inr (4, [.null]))]) [4] rfl
  refine jK (ws := [(h, .inr (7, [.ref q1, .ref q2, .ref q3, .null, .int 0])), (q1, .inl (cI, zA 6)), (q2, .inl (cI, zA 6)), (q3, .inl (cI, zA 7))]) (ci := 4) (fs := [.null]) (grp := gPose cI) (va_runIN (host := "PuppetBar") (b := q4) (As := []) (rest := [.ref q4, .ref h]) ⟨hx, hb, hml, hown, hts⟩ (ji_X4 D cI tys ht0 q4 H.size) ⟨va_cnB 0 hts gX7_init_X4_init_n23 rfl rfl rfl hn.2.2.2.2.2.2.2.1 (hts (.initialized RX4) (by decide +kernel)) (by decide +kernel) ⟨Nat.le_of_ble_eq_true rfl, Nat.le_of_ble_eq_true rfl⟩, rfl, hts (.instanceMethod yX4_init) (by decide +kernel)⟩ ⟨kPre_blind _ _ _ _ _ _ _, fun U hU hW => ⟨rfl, by rw [hU], by rw [hU]; exact hPc, va_K.moved hW.alike hK, nst_warm hW hn⟩⟩ rfl rfl hl.1 rfl (lv_room (Nat.le_of_ble_eq_true rfl)) dX7_init_33 ⟨Nat.le_of_ble_eq_true rfl, Nat.le_of_ble_eq_true rfl⟩) hP hD hS hA (fun ad5 H locs e_ad5 hP9 hD9 hS9 => ?_)
  clear hPc hP hD hS
  subst e_ad5
  have hP := hP9
  have hD := hD9
  have hS := hS9
  clear hP9 hD9 hS9
  replace hP : va_P D vwCl [(h, .inr (7, [.ref q1, .ref q2, .ref q3, .null, .int 0])), (q1, .inl (cI, zA 6)), (q2, .inl (cI, zA 6)), (q3, .inl (cI, zA 7)), ((ad5 0), .inr (4, [.ref (ad5 1)])), ((ad5 1), .inl (cI, zA 21))] H := hP
  replace hD : va_D A [(h, .inr (7, [.ref q1, .ref q2, .ref q3, .null, .int 0])), (q1, .inl (cI, zA 6)), (q2, .inl (cI, zA 6)), (q3, .inl (cI, zA 7)), ((ad5 0), .inr (4, [.ref (ad5 1)])), ((ad5 1), .inl (cI, zA 21))] := hD
  refine W.eq (g2 := F0 m 36 ls [.ref (ad5 0), .ref h]) rfl ?_
  refine va_putF (D := D) (ci := 7) (v := .ref (ad5 0)) (ty := (.object "PuppetBar$Pose")) (C := RX7) (T := TX7) (N := 5) hx hb hts hi0 tyX7 tyX7_ok nmX7 hown hK hP hD hS 0 rfl rfl 3 (by decide) (hts (.fieldLink RX7 24 "PuppetBar$Sight" "trial" "LPuppetBar$Pose;") (by decide +kernel)) (fun _ h9 => h9) rfl hin rfl (by decide +kernel) rfl rfl (Nat.le_of_ble_eq_true rfl) dX7_init_36 (fun H locs hP hD hS => ?_)
  replace hP : va_P D vwCl [(h, .inr (7, [.ref q1, .ref q2, .ref q3, .ref (ad5 0), .int 0])), (q1, .inl (cI, zA 6)), (q2, .inl (cI, zA 6)), (q3, .inl (cI, zA 7)), ((ad5 0), .inr (4, [.ref (ad5 1)])), ((ad5 1), .inl (cI, zA 21))] H := hP
  replace hD : va_D A [(h, .inr (7, [.ref q1, .ref q2, .ref q3, .ref (ad5 0), .int 0])), (q1, .inl (cI, zA 6)), (q2, .inl (cI, zA 6)), (q3, .inl (cI, zA 7)), ((ad5 0), .inr (4, [.ref (ad5 1)])), ((ad5 1), .inl (cI, zA 21))] := hD
  replace hP : va_P D vwCl (gSight cI (fun i => [h, q1, q2, q3, (ad5 0), (ad5 1)].getD i 0)) H := hP
  replace hD : va_D A (gSight cI (fun i => [h, q1, q2, q3, (ad5 0), (ad5 1)].getD i 0)) := hD
  refine W.widen (k := 5) (n := 41) (Nat.le_of_ble_eq_true rfl) (Nat.le_of_ble_eq_true rfl) ?_
  exact W.vret hx hb hr (fun t ht hW => ⟨⟨(fun i => [h, q1, q2, q3, (ad5 0), (ad5 1)].getD i 0), rfl, rfl, by rw [ht]; exact hP, hD⟩, hS.F ht⟩) hS.2.2 dX7_init_39
