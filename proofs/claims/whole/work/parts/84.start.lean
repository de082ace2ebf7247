/-! the law's start -/
theorem pr_l {D : va_G} {w1 w2 : va_W} {X : Heap} (h : va_P D vwCl (w1 ++ w2) X) : va_P D vwCl w1 X := fun k q hk => h k q (by rw [List.getElem?_append_left (List.getElem?_eq_some_iff.mp hk).1]; exact hk)
theorem pr_r {D : va_G} {w1 w2 : va_W} {X : Heap} (h : va_P D vwCl (w1 ++ w2) X) : va_P D vwCl w2 X := fun k q hk => h (w1.length + k) q (by rw [List.getElem?_append_right (Nat.le_add_right _ _), Nat.add_sub_cancel_left]; exact hk)
theorem w_get {am : Nat → Nat} {n : Nat} {ws : va_W} (hm : ws.map Prod.fst = (List.range n).map am) {k : Nat} (hk : k < n) : ∃ e : va_E, ws[k]? = some (am k, e) := by
  have h1 : (ws.map Prod.fst)[k]? = some (am k) := by rw [hm, List.getElem?_map, List.getElem?_range hk]; rfl
  rw [List.getElem?_map] at h1
  cases hw : ws[k]? with
  | none => rw [hw] at h1; cases h1
  | some q =>
    rw [hw] at h1
    have e : q.1 = am k := Option.some.inj h1
    exact ⟨q.2, by rw [← e]⟩
theorem two {A : Nat → Prop} {w1 w2 : va_W} {am bm : Nat → Nat} {n1 n2 : Nat} (hm1 : w1.map Prod.fst = (List.range n1).map am) (hm2 : w2.map Prod.fst = (List.range n2).map bm) (hD : va_D A (w1 ++ w2)) : aJ am n1 ∧ aJ bm n2 ∧ (∀ k, k < n1 → A (am k)) ∧ (∀ k, k < n2 → A (bm k)) ∧ ∀ i j, i < n1 → j < n2 → am i ≠ bm j := by
  have L1 : w1.length = n1 := by
    have h := congrArg List.length hm1
    rw [List.length_map, List.length_map, List.length_range] at h
    exact h
  have g1 : ∀ k, k < n1 → ∃ e : va_E, (w1 ++ w2)[k]? = some (am k, e) := fun k hk => by
    obtain ⟨e, h⟩ := w_get hm1 hk
    exact ⟨e, by rw [List.getElem?_append_left (by omega)]; exact h⟩
  have g2 : ∀ k, k < n2 → ∃ e : va_E, (w1 ++ w2)[n1 + k]? = some (bm k, e) := fun k hk => by
    obtain ⟨e, h⟩ := w_get hm2 hk
    exact ⟨e, by rw [List.getElem?_append_right (by omega), L1, Nat.add_sub_cancel_left]; exact h⟩
  refine ⟨fun i j hi hj e => ?_, fun i j hi hj e => ?_, fun k hk => ?_, fun k hk => ?_, fun i j hi hj e => ?_⟩
  · obtain ⟨_, h1⟩ := g1 i hi
    obtain ⟨_, h2⟩ := g1 j hj
    exact hD.1 i j _ _ h1 h2 e
  · obtain ⟨_, h1⟩ := g2 i hi
    obtain ⟨_, h2⟩ := g2 j hj
    have := hD.1 _ _ _ _ h1 h2 e
    omega
  · obtain ⟨_, h1⟩ := g1 k hk
    exact hD.2 _ _ h1
  · obtain ⟨_, h1⟩ := g2 k hk
    exact hD.2 _ _ h1
  · obtain ⟨_, h1⟩ := g1 i hi
    obtain ⟨_, h2⟩ := g2 j hj
    have := hD.1 _ _ _ _ h1 h2 e
    omega
theorem at3 {s : State} {a b c : ClassId} {x y z : FieldType} (h0 : ArrOfT s a x ∧ va_RA s a x) (h1 : ArrOfT s b y ∧ va_RA s b y) (h2 : ArrOfT s c z ∧ va_RA s c z) : ∀ (k : Nat) (q : ClassId × FieldType), [(a, x), (b, y), (c, z)][k]? = some q → ArrOfT s q.1 q.2 ∧ va_RA s q.1 q.2 := by
  intro k q hq
  match k, hq with
  | 0, hq => cases hq; exact h0
  | 1, hq => cases hq; exact h1
  | 2, hq => cases hq; exact h2
  | k + 3, hq => simp at hq
theorem at2 {s : State} {a b : ClassId} {x y : FieldType} (h0 : ArrOfT s a x ∧ va_RA s a x) (h1 : ArrOfT s b y ∧ va_RA s b y) : ∀ (k : Nat) (q : ClassId × FieldType), [(a, x), (b, y)][k]? = some q → ArrOfT s q.1 q.2 ∧ va_RA s q.1 q.2 := by
  intro k q hq
  match k, hq with
  | 0, hq => cases hq; exact h0
  | 1, hq => cases hq; exact h1
  | k + 2, hq => simp at hq
theorem lw_nst {p : Program} {s : State} {m : MethodId} {meth : Method} {c : Code} {b L : Nat} {xs : Nat → Int32} (C0 : lw_At p s m meth c b L xs) : nst s := by
  obtain ⟨-, -, -, -, -, hts0, -⟩ := C0
  exact ⟨va_Nw.of rfl (hts0 (.methodLinkNest RX8 11 yX6_init "PuppetBar") (List.mem_of_getElem? (i := 86) (by decide +kernel))), va_Nw.of rfl (hts0 (.methodLinkNest RX8 18 yX0_init "PuppetBar") (List.mem_of_getElem? (i := 122) (by decide +kernel))), va_Nw.of rfl (hts0 (.methodLinkNest RX0 32 yX4_init "PuppetBar") (List.mem_of_getElem? (i := 128) (by decide +kernel))), va_Nw.of rfl (hts0 (.methodLinkNest RX8 28 yX5_init "PuppetBar") (List.mem_of_getElem? (i := 193) (by decide +kernel))), va_Nw.of rfl (hts0 (.methodLinkNest RX5 9 yX4_init "PuppetBar") (List.mem_of_getElem? (i := 198) (by decide +kernel))), va_Nw.of rfl (hts0 (.methodLinkNest RX5 18 yX3_init "PuppetBar") (List.mem_of_getElem? (i := 201) (by decide +kernel))), va_Nw.of rfl (hts0 (.methodLinkNest RX8 39 yX7_init "PuppetBar") (List.mem_of_getElem? (i := 230) (by decide +kernel))), va_Nw.of rfl (hts0 (.methodLinkNest RX7 23 yX4_init "PuppetBar") (List.mem_of_getElem? (i := 235) (by decide +kernel))), va_Nw.of rfl (hts0 (.methodLinkNest RX8 46 yX2_init "PuppetBar") (List.mem_of_getElem? (i := 254) (by decide +kernel))), va_Nw.of rfl (hts0 (.methodLinkNest RX8 53 yX1_init "PuppetBar") (List.mem_of_getElem? (i := 270) (by decide +kernel))), va_Nw.of rfl (hts0 (.methodLinkNest RX8 60 yX4_init "PuppetBar") (List.mem_of_getElem? (i := 279) (by decide +kernel))), va_AO.of (hts0 (.arrayOver (.object "PuppetBar$Scene")) (List.mem_of_getElem? (i := 227) (by decide +kernel)))⟩
theorem lw_cls {p : Program} {s : State} {m : MethodId} {meth : Method} {c : Code} {b L : Nat} {xs : Nat → Int32} (C0 : lw_At p s m meth c b L xs) : ∃ (D : va_G) (cI cC cS cZ : ClassId), va_K D vwCl (cTy cI cC cS) s ∧ va_K D vwCl (mTy cI cZ) s := by
  obtain ⟨-, -, -, -, -, hts0, -⟩ := C0
  obtain ⟨c0, i0, k0⟩ := u_known (C := RX0) (T := TX0) (N := 11) (n := 11) hts0 wsX00_in (hts0 (.instantiable RX0 11) (List.mem_of_getElem? (i := 121) (by decide +kernel)))
  obtain ⟨c1, i1, k1⟩ := u_known (C := RX1) (T := TX1) (N := 1) (n := 1) hts0 wsX10_in (hts0 (.instantiable RX1 1) (List.mem_of_getElem? (i := 269) (by decide +kernel)))
  obtain ⟨c2, i2, k2⟩ := u_known (C := RX2) (T := TX2) (N := 3) (n := 3) hts0 wsX20_in (hts0 (.instantiable RX2 3) (List.mem_of_getElem? (i := 253) (by decide +kernel)))
  obtain ⟨c3, i3, k3⟩ := u_known (C := RX3) (T := TX3) (N := 3) (n := 3) hts0 wsX30_in (hts0 (.instantiable RX3 3) (List.mem_of_getElem? (i := 200) (by decide +kernel)))
  obtain ⟨c4, i4, k4⟩ := u_known (C := RX4) (T := TX4) (N := 1) (n := 1) hts0 wsX40_in (hts0 (.instantiable RX4 1) (List.mem_of_getElem? (i := 127) (by decide +kernel)))
  obtain ⟨c5, i5, k5⟩ := u_known (C := RX5) (T := TX5) (N := 3) (n := 3) hts0 wsX50_in (hts0 (.instantiable RX5 3) (List.mem_of_getElem? (i := 192) (by decide +kernel)))
  obtain ⟨c6, i6, k6⟩ := u_known (C := RX6) (T := TX6) (N := 9) (n := 9) hts0 wsX60_in (hts0 (.instantiable RX6 9) (List.mem_of_getElem? (i := 85) (by decide +kernel)))
  obtain ⟨c7, i7, k7⟩ := u_known (C := RX7) (T := TX7) (N := 5) (n := 5) hts0 wsX70_in (hts0 (.instantiable RX7 5) (List.mem_of_getElem? (i := 229) (by decide +kernel)))
  obtain ⟨c8, i8, k8⟩ := u_known (C := RX8) (T := TX8) (N := 9) (n := 9) hts0 wsX80_in (hts0 (.instantiable RX8 9) (List.mem_of_getElem? (i := 77) (by decide +kernel)))
  obtain ⟨c9, i9, k9⟩ := u_known (C := RX9) (T := TX9) (N := 43) (n := 43) hts0 wsX90_in (hts0 (.instantiable RX9 43) (List.mem_of_getElem? (i := 881) (by decide +kernel)))
  obtain ⟨cI, kI, pI, fI, gI, eI⟩ := Cond.arrayClass_spec (type := .int) (hts0 (.arrayClass .int) (List.mem_of_getElem? (i := 119) (by decide +kernel)))
  obtain ⟨cC, kC, pC, fC, gC, eC⟩ := Cond.arrayClass_spec (type := .char) (hts0 (.arrayClass .char) (List.mem_of_getElem? (i := 118) (by decide +kernel)))
  obtain ⟨cZ, kZ, pZ, fZ, gZ, eZ⟩ := Cond.arrayClass_spec (type := .boolean) (hts0 (.arrayClass .boolean) (List.mem_of_getElem? (i := 1016) (by decide +kernel)))
  obtain ⟨pS, cS, kS, fP, -, gS, eS, fS⟩ := Cond.arrayOver_spec (n := "PuppetBar$Scene") (hts0 (.arrayOver (.object "PuppetBar$Scene")) (List.mem_of_getElem? (i := 227) (by decide +kernel)))
  have hKn : ∀ (k : Nat) (q : vw_C), vwCl[k]? = some q → u_Kn s q.1 q.2.1 q.2.2 ([c0, c1, c2, c3, c4, c5, c6, c7, c8, c9].getD k 0) ([i0, i1, i2, i3, i4, i5, i6, i7, i8, i9].getD k (fun _ => 0)) := by
    intro k q hq
    match k, hq with
    | 0, hq =>
      have e : (RX0, TX0, 11) = q := Option.some.inj hq
      subst e
      exact k0
    | 1, hq =>
      have e : (RX1, TX1, 1) = q := Option.some.inj hq
      subst e
      exact k1
    | 2, hq =>
      have e : (RX2, TX2, 3) = q := Option.some.inj hq
      subst e
      exact k2
    | 3, hq =>
      have e : (RX3, TX3, 3) = q := Option.some.inj hq
      subst e
      exact k3
    | 4, hq =>
      have e : (RX4, TX4, 1) = q := Option.some.inj hq
      subst e
      exact k4
    | 5, hq =>
      have e : (RX5, TX5, 3) = q := Option.some.inj hq
      subst e
      exact k5
    | 6, hq =>
      have e : (RX6, TX6, 9) = q := Option.some.inj hq
      subst e
      exact k6
    | 7, hq =>
      have e : (RX7, TX7, 5) = q := Option.some.inj hq
      subst e
      exact k7
    | 8, hq =>
      have e : (RX8, TX8, 9) = q := Option.some.inj hq
      subst e
      exact k8
    | 9, hq =>
      have e : (RX9, TX9, 43) = q := Option.some.inj hq
      subst e
      exact k9
    | k + 10, hq =>
      have h : k + 10 < 10 := (List.getElem?_eq_some_iff.mp hq).1
      exact absurd h (by omega)
  have aI : ArrOfT s cI .int ∧ va_RA s cI .int := ⟨fun n z => ⟨fun k h => (by cases h), kI, gI, pI, eI⟩, fI⟩
  have aC : ArrOfT s cC .char ∧ va_RA s cC .char := ⟨fun n z => ⟨fun k h => (by cases h), kC, gC, pC, eC⟩, fC⟩
  have aZ : ArrOfT s cZ .boolean ∧ va_RA s cZ .boolean := ⟨fun n z => ⟨fun k h => (by cases h), kZ, gZ, pZ, eZ⟩, fZ⟩
  have aS : ArrOfT s cS (.object "PuppetBar$Scene") ∧ va_RA s cS (.object "PuppetBar$Scene") := ⟨fun n z => ⟨fun k h => (by cases h), kS, gS, pS, eS⟩, kS, pS, gS, eS, fP, fS⟩
  exact ⟨(fun k => [c0, c1, c2, c3, c4, c5, c6, c7, c8, c9].getD k 0, fun k => [i0, i1, i2, i3, i4, i5, i6, i7, i8, i9].getD k (fun _ => 0)), cI, cC, cS, cZ, ⟨hKn, at3 aI aC aS⟩, ⟨hKn, at2 aI aZ⟩⟩
set_option maxHeartbeats 4000000 in
set_option maxRecDepth 100000 in
/-- THE LAW, from its entry -/
theorem whole_start {p : Program} {e : Env} {s : State} {m : MethodId} {below : List Frame} {meth : Method} {c : Code} (l : Launch) {b L : Nat} {xs : Nat → Int32} (hL : L ≤ 256) (C0 : lw_At p s m meth c b L xs) : W p l e room_1 s m #[Value.ref b] below meth c s.heap [] 0 0 (lw_Z below #[Value.ref b] s) (entryFrame m ([Value.ref b] : List Value).toArray 4) := by
  have hn := lw_nst C0
  obtain ⟨D, cI, cC, cS, cZ, hKc, hKm⟩ := lw_cls C0
  obtain ⟨hx, hb, hr, hml, hown, hts0, hX, hbl, hlocks, hgv⟩ := id C0
  have hown : s.vm.findClass RL = some m.cls := hown
  have hts : ∀ w ∈ wsL_law, w.before #[Value.ref b] s = true := fun w h => hts0 w (wsL_law_in w h)
  obtain ⟨N, hN⟩ : ∃ N : Nat, 2000000 ≤ N := ⟨_, Nat.le_refl _⟩
  obtain ⟨st1, hM, hR⟩ := st_one (N := N) (by omega)
  have hA : ∀ q : Nat, s.heap.size ≤ q → lA s q := fun _ h => h
  have hS : va_S (lA s) s.heap s.heap [] := va_S.rf
  have hP : va_P D vwCl [] s.heap := fun k q h => by simp at h
  have hD : va_D (lA s) [] := ⟨fun i j p q h => by simp at h, fun k q h => by simp at h⟩
  have hl := lv_entry ([.ref b]) (n := 4) (Nat.le_of_ble_eq_true rfl)
  rw [lg_entry_eq]
  generalize (lg_sl ([.ref b]) ++ List.replicate (4 - (lg_sl ([.ref b])).length) Slot.unset).toArray = ls at hl ⊢
  have hl : lv_has ls 4 [(0, .ref b)] := hl
  refine va_new (ci := 8) (fs := [.null, .null, .null, .null, .null, .null, .null, .null, .null]) (C := RX8) (T := TX8) (N := 9) hx hb hts0 wsX80_in tyX8 tyX8_ok hown (hts0 (.classLink RL 7 RX8) (List.mem_of_getElem? (i := 76) (by decide +kernel))) (hts0 (.instantiable RX8 9) (List.mem_of_getElem? (i := 77) (by decide +kernel))) (hts0 (.initialized RX8) (List.mem_of_getElem? (i := 62) (by decide +kernel))) hKc hP hD hS hA rfl (fun j hj => by rcases (show j = 0 ∨ j = 1 ∨ j = 2 ∨ j = 3 ∨ j = 4 ∨ j = 5 ∨ j = 6 ∨ j = 7 ∨ j = 8 by omega) with rfl | rfl | rfl | rfl | rfl | rfl | rfl | rfl | rfl <;> rfl) (Nat.le_of_ble_eq_true rfl) (Nat.le_of_ble_eq_true rfl) dL_law_0 (fun q0 H hP hD hS => ?_)
  refine lv_dup hx hb dL_law_3 rfl ?_
  have hPc := hP.sub (ws' := [(q0, .inr (8, [.null, .null, .null, .null, .null, .null, .null, .null, .null]))]) [0] rfl
  refine jK (ws := []) (ci := 8) (fs := [.null, .null, .null, .null, .null, .null, .null, .null, .null]) (grp := fun ad => cW ad cI cC cS st1) (va_runI (b := q0) (As := []) (rest := [.ref q0]) ⟨hx, hb, hml, hown, hts0⟩ (ji_X8 D cI cC cS N hM q0 H.size) (cwI 0 hts gL_law_X8_init rfl rfl rfl (hts0 (.initialized RX8) (List.mem_of_getElem? (i := 62) (by decide +kernel))) (hts0 (.methodLink RL 9 yX8_init) (List.mem_of_getElem? (i := 78) (by decide +kernel))) (hts0 (.instanceMethod yX8_init) (List.mem_of_getElem? (i := 79) (by decide +kernel))) rfl (by decide +kernel) ⟨Nat.le_of_ble_eq_true rfl, Nat.le_of_ble_eq_true rfl⟩) ⟨kPre_blind _ _ _ _ _ _ _, fun U hU hW => ⟨rfl, by rw [hU], by rw [hU]; exact hPc, va_K.moved hW.alike hKc, nst_warm hW hn⟩⟩ rfl rfl hl.1 rfl (lv_room (Nat.le_of_ble_eq_true rfl)) dL_law_4 ⟨Nat.le_of_ble_eq_true rfl, Nat.le_of_ble_eq_true rfl⟩) hP hD hS hA (fun am H locs e_am hP9 hD9 hS9 => ?_)
  clear hPc hP hD hS
  subst e_am
  have hP := hP9
  have hD := hD9
  have hS := hS9
  clear hP9 hD9 hS9
  replace hP : va_P D vwCl (cW am cI cC cS st1) H := hP
  replace hD : va_D (lA s) (cW am cI cC cS st1) := hD
  refine W.eq (g2 := F0 m 7 ls [.ref (am 0)]) rfl ?_
  refine lv_astore_n (lv' := [(1, .ref (am 0)), (0, .ref b)]) hx hb dL_law_7 rfl hl (by decide) rfl (fun ls hl => ?_)
  refine va_new (ci := 9) (fs := [.int 0, .null, .int 0, .int 0, .int 0, .int 0, .int 0, .int 0, .int 0, .int 0, .int 0, .int 0, .int 0, .int 0, .null, .null, .null, .null, .int 0, .int 0, .int 0, .null, .null, .null, .null, .null, .null, .null, .null, .null, .int 0, .int 0, .null, .null, .int 0, .null, .null, .long 0, .null, .null, .null, .null, .null]) (C := RX9) (T := TX9) (N := 43) hx hb hts0 wsX90_in tyX9 tyX9_ok hown (hts0 (.classLink RL 10 RX9) (List.mem_of_getElem? (i := 880) (by decide +kernel))) (hts0 (.instantiable RX9 43) (List.mem_of_getElem? (i := 881) (by decide +kernel))) (hts0 (.initialized RX9) (List.mem_of_getElem? (i := 72) (by decide +kernel))) hKm hP hD hS hA rfl (fun j hj => by rcases (show j = 0 ∨ j = 1 ∨ j = 2 ∨ j = 3 ∨ j = 4 ∨ j = 5 ∨ j = 6 ∨ j = 7 ∨ j = 8 ∨ j = 9 ∨ j = 10 ∨ j = 11 ∨ j = 12 ∨ j = 13 ∨ j = 14 ∨ j = 15 ∨ j = 16 ∨ j = 17 ∨ j = 18 ∨ j = 19 ∨ j = 20 ∨ j = 21 ∨ j = 22 ∨ j = 23 ∨ j = 24 ∨ j = 25 ∨ j = 26 ∨ j = 27 ∨ j = 28 ∨ j = 29 ∨ j = 30 ∨ j = 31 ∨ j = 32 ∨ j = 33 ∨ j = 34 ∨ j = 35 ∨ j = 36 ∨ j = 37 ∨ j = 38 ∨ j = 39 ∨ j = 40 ∨ j = 41 ∨ j = 42 by omega) with rfl | rfl | rfl | rfl | rfl | rfl | rfl | rfl | rfl | rfl | rfl | rfl | rfl | rfl | rfl | rfl | rfl | rfl | rfl | rfl | rfl | rfl | rfl | rfl | rfl | rfl | rfl | rfl | rfl | rfl | rfl | rfl | rfl | rfl | rfl | rfl | rfl | rfl | rfl | rfl | rfl | rfl | rfl <;> rfl) (Nat.le_of_ble_eq_true rfl) (Nat.le_of_ble_eq_true rfl) dL_law_8 (fun q1 H hP hD hS => ?_)
  refine lv_dup hx hb dL_law_11 rfl ?_
  have hPc : va_P D vwCl [(q1, .inr (9, [.int 0, .null, .int 0, .int 0, .int 0, .int 0, .int 0, .int 0, .int 0, .int 0, .int 0, .int 0, .int 0, .int 0, .null, .null, .null, .null, .int 0, .int 0, .int 0, .null, .null, .null, .null, .null, .null, .null, .null, .null, .int 0, .int 0, .null, .null, .int 0, .null, .null, .long 0, .null, .null, .null, .null, .null]))] H := fun k q hk => pr_r hP k q hk
  refine jK (ws := cW am cI cC cS st1) (ci := 9) (fs := [.int 0, .null, .int 0, .int 0, .int 0, .int 0, .int 0, .int 0, .int 0, .int 0, .int 0, .int 0, .int 0, .int 0, .null, .null, .null, .null, .int 0, .int 0, .int 0, .null, .null, .null, .null, .null, .null, .null, .null, .null, .int 0, .int 0, .null, .null, .int 0, .null, .null, .long 0, .null, .null, .null, .null, .null]) (grp := fun ad => mW ad cI cZ (pU zS 13 0 20)) (va_runI (b := q1) (As := []) (rest := [.ref q1]) ⟨hx, hb, hml, hown, hts0⟩ (ji_X9 D cI cZ q1 H.size) (cwI 0 hts gL_law_X9_init rfl rfl rfl (hts0 (.initialized RX9) (List.mem_of_getElem? (i := 72) (by decide +kernel))) (hts0 (.methodLink RL 12 yX9_init) (List.mem_of_getElem? (i := 882) (by decide +kernel))) (hts0 (.instanceMethod yX9_init) (List.mem_of_getElem? (i := 883) (by decide +kernel))) rfl (by decide +kernel) ⟨Nat.le_of_ble_eq_true rfl, Nat.le_of_ble_eq_true rfl⟩) ⟨kPre_blind _ _ _ _ _ _ _, fun U hU hW => ⟨rfl, by rw [hU], by rw [hU]; exact hPc, va_K.moved hW.alike hKm, nst_warm hW hn⟩⟩ rfl rfl hl.1 rfl (lv_room (Nat.le_of_ble_eq_true rfl)) dL_law_12 ⟨Nat.le_of_ble_eq_true rfl, Nat.le_of_ble_eq_true rfl⟩) hP hD hS hA (fun bm H locs e_bm hP9 hD9 hS9 => ?_)
  clear hPc hP hD hS
  subst e_bm
  have hP := hP9
  have hD := hD9
  have hS := hS9
  clear hP9 hD9 hS9
  refine W.eq (g2 := F0 m 15 ls [.ref (bm 0)]) rfl ?_
  refine lv_astore_n (lv' := [(2, .ref (bm 0)), (1, .ref (am 0)), (0, .ref b)]) hx hb dL_law_15 rfl hl (by decide) rfl (fun ls hl => ?_)
  refine lv_iconst (v := (0 : Int32)) hx hb dL_law_16 (by decide) ?_
  refine lv_istore_n (lv' := [(3, .int 0), (2, .ref (bm 0)), (1, .ref (am 0)), (0, .ref b)]) hx hb dL_law_17 rfl hl (by decide) rfl (fun ls hl => ?_)
  obtain ⟨j1, j2, a1, a2, ap⟩ := two (cW_map am cI cC cS st1) (mW_map bm cI cZ (pU zS 13 0 20)) hD
  refine W.widen (k := 76) (n := 4305) (Nat.le_of_ble_eq_true rfl) (Nat.le_of_ble_eq_true rfl) ?_
  exact law_loop hL ⟨C0, hKc, hKm, j1, j2, a1, a2, ap⟩ hN (L + 1) 0 (Nat.zero_le L) (by omega) 0 nI_0.symm H locs st1 _ ⟨pr_l hP, pr_r hP, hS⟩ hR ls (lv_sub hl [3, 2, 1, 0] rfl)
