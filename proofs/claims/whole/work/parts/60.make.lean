/-! MAKING: constructors. What the tables say of nest mates, and of the array of scenes -/
def nst (U : State) : Prop := va_Nw (.methodLinkNest RX8 11 yX6_init "PuppetBar") U ∧ va_Nw (.methodLinkNest RX8 18 yX0_init "PuppetBar") U ∧ va_Nw (.methodLinkNest RX0 32 yX4_init "PuppetBar") U ∧ va_Nw (.methodLinkNest RX8 28 yX5_init "PuppetBar") U ∧ va_Nw (.methodLinkNest RX5 9 yX4_init "PuppetBar") U ∧ va_Nw (.methodLinkNest RX5 18 yX3_init "PuppetBar") U ∧ va_Nw (.methodLinkNest RX8 39 yX7_init "PuppetBar") U ∧ va_Nw (.methodLinkNest RX7 23 yX4_init "PuppetBar") U ∧ va_Nw (.methodLinkNest RX8 46 yX2_init "PuppetBar") U ∧ va_Nw (.methodLinkNest RX8 53 yX1_init "PuppetBar") U ∧ va_Nw (.methodLinkNest RX8 60 yX4_init "PuppetBar") U ∧ va_AO "PuppetBar$Scene" U
theorem nst_same {u U : State} (h : u.vm = U.vm) (q : nst u) : nst U := by
  obtain ⟨q1, q2, q3, q4, q5, q6, q7, q8, q9, q10, q11, q12⟩ := q
  exact ⟨va_Nw.same rfl h q1, va_Nw.same rfl h q2, va_Nw.same rfl h q3, va_Nw.same rfl h q4, va_Nw.same rfl h q5, va_Nw.same rfl h q6, va_Nw.same rfl h q7, va_Nw.same rfl h q8, va_Nw.same rfl h q9, va_Nw.same rfl h q10, va_Nw.same rfl h q11, va_AO.moved (by rw [h]; exact Vm.Alike.refl U.vm) q12⟩
theorem nst_warm {s U : State} (h : s.WarmedH U.vm) (q : nst s) : nst U := by
  obtain ⟨q1, q2, q3, q4, q5, q6, q7, q8, q9, q10, q11, q12⟩ := q
  exact ⟨va_Nw.warmM h q1, va_Nw.warmM h q2, va_Nw.warmM h q3, va_Nw.warmM h q4, va_Nw.warmM h q5, va_Nw.warmM h q6, va_Nw.warmM h q7, va_Nw.warmM h q8, va_Nw.warmM h q9, va_Nw.warmM h q10, va_Nw.warmM h q11, va_AO.moved h.alike q12⟩
/-- where a constructor begins, and where it ends -/
def kPre (D : va_G) (tys : List (ClassId × FieldType)) (h ci : Nat) (fs : List Value) (sz : Nat) (U : State) : Prop := U.heap.size = sz ∧ va_P D vwCl [(h, .inr (ci, fs))] U.heap ∧ va_K D vwCl tys U ∧ nst U
def kQ (D : va_G) (A : Nat → Prop) (h : Nat) (grp : (Nat → Nat) → va_W) : Array Value → State → Outcome → State → Prop := va_Qv (fun ad : Nat → Nat => ad 0 = h) (fun ad t => va_P D vwCl (grp ad) t.heap ∧ va_D A (grp ad)) A
theorem kPre_blind (D : va_G) (tys : List (ClassId × FieldType)) (h ci : Nat) (fs : List Value) (sz : Nat) (av : List Value) : FrameBlind (va_Pc av (kPre D tys h ci fs sz)) := fun a U g mk q => by
  obtain ⟨q0, q1, qP, qK, qn⟩ := q
  exact ⟨q0, q1, qP, va_K.moved (u := U) (U := U.calling g mk a) (Vm.Alike.refl U.vm) qK, nst_same (u := U) rfl qn⟩
theorem va_D1 {A : Nat → Prop} {h : Nat} {x : va_E} (hA : A h) : va_D A [(h, x)] := by
  have k0 : ∀ (k : Nat) (q : Nat × va_E), [(h, x)][k]? = some q → k = 0 ∧ q = (h, x) := fun k q hq => by
    have hz : k < 1 := (List.getElem?_eq_some_iff.mp hq).1
    have e : k = 0 := by omega
    subst e
    exact ⟨rfl, (Option.some.inj hq).symm⟩
  exact ⟨fun i j p q hp hq _ => by rw [(k0 i p hp).1, (k0 j q hq).1], fun k q hq => by rw [(k0 k q hq).2]; exact hA⟩
section MK
variable {p : Program} {l : Launch} {e : Env} {R : Room} {s : State} {m : MethodId} {args : Array Value} {below : List Frame} {meth : Method} {c : Code} {H : Heap} {locs : List Loc} {cells slots : Nat} {Q : State → Prop}
variable {cc : ByteArray} {pc : Nat} {ls : Array Slot} {rest st0 : List Value} {D : va_G} {A : Nat → Prop} {a : Nat} {tys : List (ClassId × FieldType)} {ws : va_W} {H0 : Heap}
theorem kStart {y : MethodName} {Ts Ts' : List Cond} {rm : Room} {h ci sz mc ms : Nat} {fs : List Value} {grp : (Nat → Nat) → va_W} (hy : plainName y.cls = true) (hw : Ts = Cond.code y cc 1 none :: Ts') (hyn : y.name = "<init>")
    (body : ∀ (p : Program) (e : Env) (s : State) (m : MethodId) (below : List Frame) (meth : Method) (c : Code) (ls : Array Slot) (A : Nat → Prop), p.tables.exec = Jvm.exec → c.code = cc → meth.sig.returnType = none → meth.locks = false → (∀ w ∈ Ts, w.before [Value.ref h].toArray s = true) → s.vm.findClass y.cls = some m.cls → c.maxLocals = 1 → meth.name = "<init>" → va_K D vwCl tys s → nst s → va_P D vwCl [(h, .inr (ci, fs))] s.heap → va_D A [(h, .inr (ci, fs))] → (∀ q, s.heap.size ≤ q → A q) → va_S A s.heap s.heap [] → lv_has ls 1 [(0, .ref h)] → W p l e (headSpec Ts rm).room s m [Value.ref h].toArray below meth c s.heap [] 0 0 (MQ below (kQ D A h grp) [Value.ref h].toArray s mc ms A) (F0 m 0 ls [])) :
    Met l y Ts rm (va_Pc [.ref h] (kPre D tys h ci fs sz)) (kQ D (va_A [(h, .inr (ci, fs))] sz) h grp) mc ms (va_A [(h, .inr (ci, fs))] sz) := by
  refine Met.ofW (cc := cc) (maxL := 1) (ret := none) hy hw ?_
  intro p e s m args below meth c s₁ B hml hv
  obtain ⟨rfl, rfl, hP, hK, hn⟩ := hv
  have hin : meth.name = "<init>" := hyn ▸ (name_of_methodNamed B.named B.method).1
  have hl := lv_entry [Value.ref h] (n := 1) (Nat.le_of_ble_eq_true rfl)
  rw [lg_entry_eq]
  exact body p e s m below meth c _ _ B.exec B.bytes B.returns B.notSynchronized (atoms_spec (ws := Ts) B.pre) (findClass_of_methodNamed B.named) hml hin hK hn hP (va_D1 (Or.inl ⟨0, _, rfl⟩)) (fun q h => Or.inr h) va_S.rf hl
theorem jnewa (hexec : p.tables.exec = Jvm.exec) (hb : c.code = cc) {atype : ArrayType} (harr : (Cond.arrayClass (newarray.typeOf atype)).before args s = true) {ty : FieldType} (hty : newarray.typeOf atype = ty) (hK : va_K D vwCl tys s) (hP : va_P D vwCl ws H) (hD : va_D A ws) (hS : va_S A H0 H locs) (hA : ∀ q, H0.size ≤ q → A q) (t0 : Nat) {cA : ClassId} (ht : tys[t0]? = some (cA, ty)) (hpr : ∀ cB, va_RA s cB ty → va_RA s cA ty → cB = cA)
    {n : Int32} {N' : Nat} {a0 : vp_A} (ha : ∀ cA : ClassId, vp_cell cA a0 = arrV cA N' (fun _ => defaultValue ty)) (hn : ¬ n < 0) (hN : n.toNatClampNeg = N') (hbytes : N' * componentBytes ty ≤ 536870912) (hcells : cells + 1 ≤ R.cells) (hslots : slots + N' ≤ R.slots) (hdg : decode cc pc = .ok (.newarray atype, 2))
    (kk : ∀ (q : Nat) (H1 : Heap), va_P D vwCl (ws ++ [(q, .inl (cA, a0))]) H1 → va_D A (ws ++ [(q, .inl (cA, a0))]) → va_S A H0 H1 locs →
      W p l e R s m args below meth c H1 locs (cells + 1) (slots + N') Q (F0 m (pc + 2) ls (.ref q :: rest))) : W p l e R s m args below meth c H locs cells slots Q (F0 m pc ls (.int n :: rest)) :=
  va_newa hexec hb harr hty hK hP hD hS hA ha hn hN hbytes hcells hslots hdg (fun q cB H1 hK1 hP1 hD1 hS1 => by
    have h1 := (hK1.2 tys.length (cB, ty) (by simp)).2
    have e := hpr cB h1 (hK.2 t0 _ ht).2
    subst e
    exact kk q H1 hP1 hD1 hS1)
theorem jnewq (hexec : p.tables.exec = Jvm.exec) (hb : c.code = cc) {own C : String} {index : Nat} (hown : s.vm.findClass own = some m.cls) (hclink : (Cond.classLink own index C).before args s = true) (hover : va_AO C s) (hK : va_K D vwCl tys s) (hP : va_P D vwCl ws H) (hD : va_D A ws) (hS : va_S A H0 H locs) (hA : ∀ q, H0.size ≤ q → A q) (t0 : Nat) {cA : ClassId} (ht : tys[t0]? = some (cA, .object C))
    {n : Int32} {N' : Nat} (hn : ¬ n < 0) (hN : n.toNatClampNeg = N') (hbytes : N' * 4 ≤ 536870912) (hcells : cells + 1 ≤ R.cells) (hslots : slots + N' ≤ R.slots) (hdg : decode cc pc = .ok (.anewarray index, 3))
    (kk : ∀ (q : Nat) (H1 : Heap), va_P D vwCl (ws ++ [(q, .inl (cA, N', .inr (.inr (.inr (.inr (fun _ => none))))))]) H1 → va_D A (ws ++ [(q, .inl (cA, N', .inr (.inr (.inr (.inr (fun _ => none))))))]) → va_S A H0 H1 locs →
      W p l e R s m args below meth c H1 locs (cells + 1) (slots + N') Q (F0 m (pc + 3) ls (.ref q :: rest))) : W p l e R s m args below meth c H locs cells slots Q (F0 m pc ls (.int n :: rest)) :=
  va_newq hexec hb hown hclink hover hK hP hD hS hA hn hN hbytes hcells hslots hdg (fun q cB H1 hK1 hP1 hD1 hS1 => by
    obtain ⟨-, -, -, -, -, h1⟩ := (hK1.2 tys.length (cB, .object C) (by simp)).2
    obtain ⟨-, -, -, -, -, h2⟩ := (hK.2 t0 _ ht).2
    have e : cB = cA := Option.some.inj (h1.symm.trans h2)
    subst e
    exact kk q H1 hP1 hD1 hS1)
/-- behind a constructor: the cells that were there, and what it made -/
theorem jK {q ci mc ms : Nat} {fs : List Value} {grp : (Nat → Nat) → va_W} {av : Array Value} (hr : va_Run p l e R s m args below meth c H locs cells slots mc ms (F0 m pc ls st0) rest (kQ D (va_A [(q, .inr (ci, fs))] H.size) q grp av) (va_A [(q, .inr (ci, fs))] H.size)) (hP : va_P D vwCl (ws ++ [(q, .inr (ci, fs))]) H) (hD : va_D A (ws ++ [(q, .inr (ci, fs))])) (hS : va_S A H0 H locs) (hA : ∀ q, H0.size ≤ q → A q)
    (kk : ∀ (ad : Nat → Nat) (H1 : Heap) (locs1 : List Loc), ad 0 = q → va_P D vwCl (ws ++ grp ad) H1 → va_D A (ws ++ grp ad) → va_S A H0 H1 locs1 → W p l e R s m args below meth c H1 locs1 (cells + mc) (slots + ms) Q (F0 m (pc + 3) ls rest)) : W p l e R s m args below meth c H locs cells slots Q (F0 m pc ls st0) := by
  have hq : (ws ++ [(q, (.inr (ci, fs) : va_E))])[ws.length]? = some (q, .inr (ci, fs)) := by simp
  have hold : ∀ (k : Nat) (x : Nat × va_E), ws[k]? = some x → (ws ++ [(q, (.inr (ci, fs) : va_E))])[k]? = some x := fun k x hk => by
    rw [List.getElem?_append_left (List.getElem?_eq_some_iff.mp hk).1]; exact hk
  have hF : ∀ x, va_A [(q, .inr (ci, fs))] H.size x → A x := fun x h => by
    rcases h with ⟨k, e1, h⟩ | h
    · have hz : k < 1 := (List.getElem?_eq_some_iff.mp h).1
      have e2 : k = 0 := by omega
      subst e2
      have e3 := Option.some.inj h
      have : x = q := (congrArg Prod.fst e3).symm
      rw [this]; exact hD.2 _ _ hq
    · exact hA x (Nat.le_trans hS.1 h)
  have apart : ∀ (k : Nat) (x : Nat × va_E), ws[k]? = some x → x.1 < H.size ∧ ¬ va_A [(q, .inr (ci, fs))] H.size x.1 := fun k x hk => by
    have hl := (hP k x (hold k x hk)).lt
    refine ⟨hl, fun h => ?_⟩
    rcases h with ⟨k2, e1, h⟩ | h
    · have hz : k2 < 1 := (List.getElem?_eq_some_iff.mp h).1
      have e2 : k2 = 0 := by omega
      subst e2
      have e3 := Option.some.inj h
      have e4 : x.1 = q := (congrArg Prod.fst e3).symm
      have := hD.1 k ws.length x (q, .inr (ci, fs)) (hold k x hk) hq e4
      have := (List.getElem?_eq_some_iff.mp hk).1
      omega
    · omega
  refine va_callv hr hS (fun x _ h => hF x h) hF (fun ad t H1 locs1 ht hvm hw hB hz1 hk1 hS1 => kk ad H1 locs1 hw ?_ ?_ hS1)
  · refine va_P.app (fun k x hk => ?_) (by rw [← ht]; exact hB.1)
    obtain ⟨g1, g2⟩ := apart k x hk
    exact (hP k x (hold k x hk)).kept (hk1 x.1 g1 g2)
  · refine va_D.app ⟨fun i j x y hx hy e => hD.1 i j x y (hold i x hx) (hold j y hy) e, fun k x hk => hD.2 k x (hold k x hk)⟩ (hB.2.weaken (fun k x _ h => hF x.1 h)) (fun i j x y hx hy hxy => ?_)
    exact (apart i x hx).2 (by rw [hxy]; exact hB.2.2 j y hy)
end MK
theorem prI {s : State} {cA : ClassId} : ∀ cB, va_RA s cB .int → va_RA s cA .int → cB = cA := fun _ h1 h2 => Option.some.inj (h1.symm.trans h2)
theorem prC {s : State} {cA : ClassId} : ∀ cB, va_RA s cB .char → va_RA s cA .char → cB = cA := fun _ h1 h2 => Option.some.inj (h1.symm.trans h2)
theorem prZ {s : State} {cA : ClassId} : ∀ cB, va_RA s cB .boolean → va_RA s cA .boolean → cB = cA := fun _ h1 h2 => Option.some.inj (h1.symm.trans h2)
abbrev zA (n : Nat) : vp_A := (n, .inl (fun _ => 0))
theorem zA_i (n : Nat) (cA : ClassId) : vp_cell cA (zA n) = arrV cA n (fun _ => defaultValue .int) := rfl
theorem zA_c (n : Nat) (cA : ClassId) : vp_cell cA (zA n) = arrV cA n (fun _ => defaultValue .char) := rfl
theorem zA_z (n : Nat) (cA : ClassId) : vp_cell cA (zA n) = arrV cA n (fun _ => defaultValue .boolean) := rfl
/-! Pose, by hand, as the pattern for the rest -/
abbrev gPose (cI : ClassId) (ad : Nat → Nat) : va_W := [(ad 0, .inr (4, [.ref (ad 1)])), (ad 1, .inl (cI, zA 21))]
set_option maxRecDepth 20000 in
theorem ji_X4 {l : Launch} (D : va_G) (cI : ClassId) (tys : List (ClassId × FieldType)) (ht : tys[0]? = some (cI, .int)) (h sz : Nat) : Met l yX4_init wsX4_init ({ frames := 1, cells := 1, slots := 21, locals := 12 }) (va_Pc [.ref h] (kPre D tys h 4 [.null] sz)) (kQ D (va_A [(h, .inr (4, [.null]))] sz) h (gPose cI)) 1 21 (va_A [(h, .inr (4, [.null]))] sz) := by
  refine kStart (cc := cX4_init) (by decide) rfl rfl (fun p e s m below meth c ls A hx hb hr hlocks hts hown hml hin hK hn hP hD hA hS hl => ?_)
  have hown : s.vm.findClass RX4 = some m.cls := hown
  refine lv_aload_n hx hb dX4_init_0 rfl (lv_at hl 0 rfl) ?_
  refine W.objInit hx hb hown (hts (.methodLink RX4 5 objectInit) (by decide +kernel)) (hts (.instanceMethod objectInit) (by decide +kernel)) (hts _ (List.mem_of_getElem? (i := 3) rfl)) rfl (by rw [hml]; exact hl.1) rfl dX4_init_1 (Nat.le_of_ble_eq_true rfl) (Nat.le_of_ble_eq_true rfl) ?_
  refine W.eq (g2 := F0 m 4 ls []) rfl ?_
  refine lv_aload_n hx hb dX4_init_4 rfl (lv_at hl 0 rfl) ?_
  refine lv_bipush (v := (21 : Int32)) hx hb dX4_init_5 (by decide) ?_
  refine jnewa (atype := .int) (ty := .int) (N' := 21) (a0 := zA 21) hx hb (hts (.arrayClass .int) (by decide +kernel)) rfl hK hP hD hS hA 0 ht prI (fun _ => rfl) (by decide) rfl (by decide) (Nat.le_of_ble_eq_true rfl) (Nat.le_of_ble_eq_true rfl) dX4_init_7 (fun q1 H hP hD hS => ?_)
  replace hP : va_P D vwCl [(h, .inr (4, [.null])), (q1, .inl (cI, zA 21))] H := hP
  replace hD : va_D A [(h, .inr (4, [.null])), (q1, .inl (cI, zA 21))] := hD
  refine va_putF (D := D) (ci := 4) (v := .ref q1) (ty := .array .int) (C := RX4) (T := TX4) (N := 1) hx hb hts (by decide +kernel) tyX4 tyX4_ok nmX4 hown hK hP hD hS 0 rfl rfl 0 (by decide) (hts (.fieldLink RX4 11 "PuppetBar$Pose" "row" "[I") (by decide +kernel)) (fun _ h9 => h9) rfl hin rfl (by decide +kernel) rfl rfl (Nat.le_of_ble_eq_true rfl) dX4_init_9 (fun H locs hP hD hS => ?_)
  replace hP : va_P D vwCl (gPose cI (fun i => [h, q1].getD i 0)) H := hP
  replace hD : va_D A (gPose cI (fun i => [h, q1].getD i 0)) := hD
  refine W.widen (k := 1) (n := 21) (by decide) (by decide) ?_
  exact W.vret hx hb hr (fun t ht hW => ⟨⟨fun i => [h, q1].getD i 0, rfl, rfl, by rw [ht]; exact hP, hD⟩, hS.F ht⟩) hS.2.2 dX4_init_12
