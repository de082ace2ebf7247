/-! My base. A pure state: a function from cells to their numbers, and one long. A program is a function of pure states. -/
abbrev PS : Type := (Nat → Nat → Int32) × Int64
/-- cell k becomes g -/
def pC (st : PS) (k : Nat) (g : Nat → Int32) : PS := (fun a => if a = k then g else st.1 a, st.2)
/-- place j of cell k becomes v -/
def pU (st : PS) (k j : Nat) (v : Int32) : PS := pC st k (upd (st.1 k) j v)
def pT (st : PS) (t : Int64) : PS := (st.1, t)
def inB (i : Int32) (n : Nat) : Bool := decide (¬ (i < 0 ∨ n ≤ i.toNatClampNeg))
theorem inB_vp {i : Int32} {n : Nat} (h : inB i n = true) : vp_in i n := (of_decide_eq_true h : ¬ (i < 0 ∨ n ≤ i.toNatClampNeg))
/-- a guard, a call, a name, a loop -/
def gd {α : Type} (c : Bool) (x : Option α) : Option α := match c with
  | true => x
  | false => none
def bd {ρ τ : Type} (x : Option (ρ × PS)) (f : ρ → PS → Option τ) : Option τ := match x with
  | none => none
  | some q => f q.1 q.2
def nm {α β : Type} (a : α) (f : α → β) : β := f a
def iter {σ τ : Type} (f : σ → Option (σ ⊕ τ)) : Nat → σ → Option τ
  | 0, _ => none
  | n + 1, s => match f s with
    | none => none
    | some (.inl s') => iter f n s'
    | some (.inr y) => some y
def kn {σ τ : Type} (f : σ → Option (σ ⊕ τ)) (n : Nat) (z : τ) (x : σ ⊕ τ) : Prop := match x with
  | .inl s' => iter f n s' = some z
  | .inr y => y = z
theorem iter_zero {σ τ : Type} {f : σ → Option (σ ⊕ τ)} {s : σ} {z : τ} (h : iter f 0 s = some z) : False := by cases h
theorem iter_succ {σ τ : Type} {f : σ → Option (σ ⊕ τ)} {n : Nat} {s : σ} {z : τ} (h : iter f (n + 1) s = some z) : ∃ x, f s = some x ∧ kn f n z x := by
  unfold iter at h
  cases hf : f s with
  | none => rw [hf] at h; cases h
  | some x =>
    rw [hf] at h
    cases x with
    | inl s' => exact ⟨_, rfl, h⟩
    | inr y => exact ⟨_, rfl, Option.some.inj h⟩
theorem gd_some {α : Type} {c : Bool} {x : Option α} {z : Option α} {y : α} (h : gd c x = z) (hz : z = some y) : c = true ∧ x = z := by
  cases c with
  | true => exact ⟨rfl, h⟩
  | false => rw [← h] at hz; cases hz
theorem gd_at {α : Type} {c : Bool} {x : Option α} {y : α} (h : gd c x = some y) : c = true ∧ x = some y := gd_some h rfl
theorem bd_at {ρ τ : Type} {x : Option (ρ × PS)} {f : ρ → PS → Option τ} {z : τ} (h : bd x f = some z) : ∃ (r : ρ) (st : PS), x = some (r, st) ∧ f r st = some z := by
  cases x with
  | none => cases h
  | some q => exact ⟨q.1, q.2, rfl, h⟩
theorem nm_at {α β : Type} {a y : α} {f : α → β} {z : β} (e : y = a) (h : nm a f = z) : f y = z := by subst e; exact h
theorem if_t {α : Type} {c : Prop} {i : Decidable c} {A B z : α} (hc : c) (h : @ite α c i A B = z) : A = z := by
  rw [if_pos hc] at h; exact h
theorem if_f {α : Type} {c : Prop} {i : Decidable c} {A B z : α} (hc : ¬ c) (h : @ite α c i A B = z) : B = z := by
  rw [if_neg hc] at h; exact h
theorem kn_r {σ τ : Type} {f : σ → Option (σ ⊕ τ)} {n : Nat} {z y : τ} (h : kn f n z (.inr y)) : y = z := h
def nzB (y : Int32) : Bool := decide (¬ y = 0)
theorem nzB_ne {y : Int32} (h : nzB y = true) : ¬ y = 0 := of_decide_eq_true h
def isZ (v : Int32) : Bool := decide (v = 0 ∨ v = 1)
theorem isZ_n {v : Int32} (h : isZ v = true) : narrow .boolean (.int v) = .int v := by
  rcases of_decide_eq_true h with rfl | rfl <;> rfl
theorem ne_ti {x k : Int32} (h : ¬ x = k) : ¬ k.toInt = x.toInt := fun e => h (Int32.toInt_inj.mp e.symm)
theorem lk_no {a o d k off : Int} {r : List (Int × Int)} (h : ¬ a = k) (h2 : Op.lookupswitch.offset r d k = off) : Op.lookupswitch.offset ((a, o) :: r) d k = off := by
  rw [Op.lookupswitch.offset_cons, if_neg h]; exact h2
/-- may that stretch be copied -/
def cpB (sp dp n : Int32) (n0 n1 : Nat) : Bool := decide (¬ sp < 0 ∧ ¬ dp < 0 ∧ ¬ n < 0 ∧ sp.toNatClampNeg + n.toNatClampNeg ≤ n0 ∧ dp.toNatClampNeg + n.toNatClampNeg ≤ n1)
/-! worlds: w st is the list of cells that the pure state st spells -/
def JH (D : va_G) (w : PS → va_W) (tys : List (ClassId × FieldType)) (st : PS) (U : State) : Prop := va_P D vwCl (w st) U.heap ∧ va_K D vwCl tys U
def JI (D : va_G) (A : Nat → Prop) (w : PS → va_W) (H0 : Heap) (st : PS) (H : Heap) (locs : List Loc) : Prop := va_P D vwCl (w st) H ∧ va_S A H0 H locs
def JQ (D : va_G) (A : Nat → Prop) (w : PS → va_W) (tys : List (ClassId × FieldType)) (v : Option Value) (st : PS) : Array Value → State → Outcome → State → Prop := fun _ s o t => o = .returned v ∧ JH D w tys st t ∧ va_F A s t
theorem JH_blind (D : va_G) (w : PS → va_W) (tys : List (ClassId × FieldType)) (st : PS) (av : List Value) : FrameBlind (va_Pc av (JH D w tys st)) := fun a U g mk q => by
  obtain ⟨q0, qP, qK⟩ := q
  exact ⟨q0, qP, va_K.moved (u := U) (U := U.calling g mk a) (Vm.Alike.refl U.vm) qK⟩
section JB
variable {p : Program} {l : Launch} {e : Env} {R : Room} {s : State} {m : MethodId} {args : Array Value} {below : List Frame} {meth : Method} {c : Code} {H : Heap} {locs : List Loc} {cells slots : Nat} {Q : State → Prop}
variable {cc : ByteArray} {pc : Nat} {ls : Array Slot} {rest : List Value} {D : va_G} {A : Nat → Prop} {a : Nat} {tys : List (ClassId × FieldType)} {w : PS → va_W} {st st2 : PS}
theorem jStart {y : MethodName} {ws ws' : List Cond} {rm : Room} {v : Option Value} {maxL : Nat} {ret : Option FieldType} (av : List Value) (hy : plainName y.cls = true) (hw : ws = Cond.code y cc maxL ret :: ws') (hlen : (lg_sl av).length ≤ maxL)
    (body : ∀ (p : Program) (e : Env) (s : State) (m : MethodId) (below : List Frame) (meth : Method) (c : Code) (ls : Array Slot), p.tables.exec = Jvm.exec → c.code = cc → meth.sig.returnType = ret → meth.locks = false → (∀ w ∈ ws, w.before av.toArray s = true) → s.vm.findClass y.cls = some m.cls → c.maxLocals = maxL → va_K D vwCl tys s → JI D A w s.heap st s.heap [] → lv_has ls maxL (lv_args 0 av) → W p l e (headSpec ws rm).room s m av.toArray below meth c s.heap [] 0 0 (MQ below (JQ D A w tys v st2) av.toArray s 0 0 A) (F0 m 0 ls [])) :
    Met l y ws rm (va_Pc av (JH D w tys st)) (JQ D A w tys v st2) 0 0 A := by
  refine Met.ofW (cc := cc) (maxL := maxL) (ret := ret) hy hw ?_
  intro p e s m args below meth c s₁ B hml hv
  obtain ⟨rfl, hP, hK⟩ := hv
  have hl := lv_entry av (n := maxL) hlen
  rw [lg_entry_eq]
  exact body p e s m below meth c _ B.exec B.bytes B.returns B.notSynchronized (atoms_spec (ws := ws) B.pre) (findClass_of_methodNamed B.named) hml hK ⟨hP, va_S.rf⟩ hl
theorem jq {v : Option Value} {t : State} (hK : va_K D vwCl tys s) (hI : JI D A w s.heap st H locs) (ht : t.heap = H) (hW : s.WarmedH t.vm) : JQ D A w tys v st args s (.returned v) t := ⟨rfl, ⟨by rw [ht]; exact hI.1, va_K.moved hW.alike hK⟩, hI.2.F ht⟩
theorem jq_i {v r : Int32} {t : State} (hK : va_K D vwCl tys s) (hI : JI D A w s.heap st H locs) (hz : (v, st) = (r, st2)) (ht : t.heap = H) (hW : s.WarmedH t.vm) : JQ D A w tys (some (.int r)) st2 args s (.returned (some (.int v))) t := by
  cases hz; exact jq hK hI ht hW
theorem jq_l {v r : Int64} {t : State} (hK : va_K D vwCl tys s) (hI : JI D A w s.heap st H locs) (hz : (v, st) = (r, st2)) (ht : t.heap = H) (hW : s.WarmedH t.vm) : JQ D A w tys (some (.long r)) st2 args s (.returned (some (.long v))) t := by
  cases hz; exact jq hK hI ht hW
theorem jq_v {v r : Unit} {t : State} (hK : va_K D vwCl tys s) (hI : JI D A w s.heap st H locs) (hz : (v, st) = (r, st2)) (ht : t.heap = H) (hW : s.WarmedH t.vm) : JQ D A w tys none st2 args s (.returned none) t := by
  cases hz; exact jq hK hI ht hW
theorem jput (hexec : p.tables.exec = Jvm.exec) (hb : c.code = cc) {own ref C : String} {T : u_T} {N ci index : Nat} {Ts : List Cond} (hts : ∀ w ∈ Ts, w.before args s = true) (hin : ∀ w ∈ u_ws C T N, w ∈ Ts) (ty0 : Nat → FieldType) (hty : ∀ k, k < N → parseFieldDescriptor (T k).2.2.1 = some (ty0 k)) (hnm : ∀ a, a < N → ∀ b, b < N → a ≠ b → (T a).2.1 ≠ (T b).2.1) (hown : s.vm.findClass own = some m.cls) (hK : va_K D vwCl tys s) (hD : ∀ st, va_D A (w st)) (hI : JI D A w s.heap st H locs) (q0 : Nat) {fs : List Value} (he : (w st)[q0]? = some (a, .inr (ci, fs))) (hc : vwCl[ci]? = some (C, T, N)) (k : Nat) (hk : k < N) (hlink : (Cond.fieldLink own index ref (T k).2.1 (T k).2.2.1).before args s = true) (hsame : ∀ x, s.fieldFound? (T k).1 (T k).2.1 (T k).2.2.1 = some x → s.fieldFound? ref (T k).2.1 (T k).2.2.1 = some x) (hfin : (T k).2.2.2 = false) {ty : FieldType} {v : Value} (hd : parseFieldDescriptor (T k).2.2.1 = some ty) (hn : narrow ty v = v) (hfit : fits ty v = true) (hl : k < fs.length)
    (hset : (w st).set q0 (a, .inr (ci, fs.set k v)) = w st2) (hdg : decode cc pc = .ok (.putfield index, 3)) (kk : ∀ (st3 : PS), st3 = st2 → ∀ (H1 : Heap) (locs1 : List Loc), JI D A w s.heap st3 H1 locs1 → W p l e R s m args below meth c H1 locs1 cells slots Q (F0 m (pc + 3) ls rest)) : W p l e R s m args below meth c H locs cells slots Q (F0 m pc ls (v :: .ref a :: rest)) :=
  va_put hexec hb hts hin ty0 hty hnm hown hK hI.1 (hD st) hI.2 q0 he hc k hk hlink hsame hfin hd hn hfit hl hdg (fun H1 locs1 h1 _ h2 => kk st2 rfl H1 locs1 ⟨hset ▸ h1, h2⟩)
theorem jiast (hexec : p.tables.exec = Jvm.exec) (hb : c.code = cc) (hK : va_K D vwCl tys s) (hD : ∀ st, va_D A (w st)) (hI : JI D A w s.heap st H locs) (q0 t0 : Nat) {cA : ClassId} {n : Nat} {f : Nat → Int32} (ha : (w st)[q0]? = some (a, .inl (cA, n, .inl f))) (ht : tys[t0]? = some (cA, .int)) {i : Int32} {x : Int32} (hin : vp_in i n)
    (hset : (w st).set q0 (a, .inl (cA, n, .inl (upd f i.toNatClampNeg x))) = w st2) (hdg : decode cc pc = .ok (.iastore, 1)) (kk : ∀ (st3 : PS), st3 = st2 → ∀ (H1 : Heap) (locs1 : List Loc), JI D A w s.heap st3 H1 locs1 → W p l e R s m args below meth c H1 locs1 cells slots Q (F0 m (pc + 1) ls rest)) : W p l e R s m args below meth c H locs cells slots Q (F0 m pc ls (.int x :: .int i :: .ref a :: rest)) :=
  va_iast hexec hb hK hI.1 (hD st) hI.2 q0 t0 ha ht hin hdg (fun H1 locs1 h1 _ h2 => kk st2 rfl H1 locs1 ⟨hset ▸ h1, h2⟩)
theorem jcast (hexec : p.tables.exec = Jvm.exec) (hb : c.code = cc) (hK : va_K D vwCl tys s) (hD : ∀ st, va_D A (w st)) (hI : JI D A w s.heap st H locs) (q0 t0 : Nat) {cA : ClassId} {n : Nat} {f : Nat → Int32} (ha : (w st)[q0]? = some (a, .inl (cA, n, .inl f))) (ht : tys[t0]? = some (cA, .char)) {i : Int32} {x : Int32} (hin : vp_in i n)
    (hset : (w st).set q0 (a, .inl (cA, n, .inl (upd f i.toNatClampNeg (vp_nar .char x)))) = w st2) (hdg : decode cc pc = .ok (.castore, 1)) (kk : ∀ (st3 : PS), st3 = st2 → ∀ (H1 : Heap) (locs1 : List Loc), JI D A w s.heap st3 H1 locs1 → W p l e R s m args below meth c H1 locs1 cells slots Q (F0 m (pc + 1) ls rest)) : W p l e R s m args below meth c H locs cells slots Q (F0 m pc ls (.int x :: .int i :: .ref a :: rest)) :=
  va_cast hexec hb hK hI.1 (hD st) hI.2 q0 t0 ha ht hin hdg (fun H1 locs1 h1 _ h2 => kk st2 rfl H1 locs1 ⟨hset ▸ h1, h2⟩)
theorem jzast (hexec : p.tables.exec = Jvm.exec) (hb : c.code = cc) (hK : va_K D vwCl tys s) (hD : ∀ st, va_D A (w st)) (hI : JI D A w s.heap st H locs) (q0 t0 : Nat) {cA : ClassId} {n : Nat} {f : Nat → Int32} (ha : (w st)[q0]? = some (a, .inl (cA, n, .inl f))) (ht : tys[t0]? = some (cA, .boolean)) {i : Int32} {x : Int32} (hin : vp_in i n)
    (hset : (w st).set q0 (a, .inl (cA, n, .inl (upd f i.toNatClampNeg (vp_nar .boolean x)))) = w st2) (hdg : decode cc pc = .ok (.bastore, 1)) (kk : ∀ (st3 : PS), st3 = st2 → ∀ (H1 : Heap) (locs1 : List Loc), JI D A w s.heap st3 H1 locs1 → W p l e R s m args below meth c H1 locs1 cells slots Q (F0 m (pc + 1) ls rest)) : W p l e R s m args below meth c H locs cells slots Q (F0 m pc ls (.int x :: .int i :: .ref a :: rest)) :=
  va_zast hexec hb hK hI.1 (hD st) hI.2 q0 t0 ha ht hin hdg (fun H1 locs1 h1 _ h2 => kk st2 rfl H1 locs1 ⟨hset ▸ h1, h2⟩)
theorem jcopy (hexec : p.tables.exec = Jvm.exec) (hb : c.code = cc) (hml : c.maxLocals = ls.size) {own : String} {index : Nat} (hown : s.vm.findClass own = some m.cls) (hlink : (Cond.methodLink own index arraycopyName).before args s = true) (hnat : (Cond.native arraycopyName).before args s = true) (hstat : (Cond.static arraycopyName).before args s = true) (hini : (Cond.initialized "java/lang/System").before args s = true)
    (hK : va_K D vwCl tys s) (hD : ∀ st, va_D A (w st)) (hI : JI D A w s.heap st H locs) (q0 q1 t0 : Nat) {a0 : Nat} {c0 : ClassId} {n0 n1 : Nat} {f g : Nat → Int32} (ha0 : (w st)[q0]? = some (a0, .inl (c0, n0, .inl f))) (ha1 : (w st)[q1]? = some (a, .inl (c0, n1, .inl g))) (ht0 : tys[t0]? = some (c0, .int))
    {sp dp n : Int32} (h45 : cpB sp dp n n0 n1 = true) (hframes : 1 ≤ R.frames) (hlocals : (rest.map fun v => v.category).sum + (nativeFrameWords "java/lang/System" "arraycopy" 5 + 11) ≤ R.locals) (hset : (w st).set q1 (a, .inl (c0, n1, .inl (va_cpy f g sp.toNatClampNeg dp.toNatClampNeg n.toNatClampNeg))) = w st2) (hdg : decode cc pc = .ok (.invokestatic index, 3))
    (kk : ∀ (st3 : PS), st3 = st2 → ∀ (H1 : Heap) (locs1 : List Loc), JI D A w s.heap st3 H1 locs1 → W p l e R s m args below meth c H1 locs1 cells slots Q (F0 m (pc + 3) ls rest)) : W p l e R s m args below meth c H locs cells slots Q (F0 m pc ls (.int n :: .int dp :: .ref a :: .int sp :: .ref a0 :: rest)) := by
  obtain ⟨h1, h2, h3, h4, h5⟩ := of_decide_eq_true h45
  exact va_copyi hexec hb hml hown hlink hnat hstat hini hK hI.1 (hD st) hI.2 q0 q1 t0 t0 ha0 ha1 ht0 ht0 rfl h1 h2 h3 h4 h5 (fun _ _ => rfl) hframes hlocals hdg (fun H1 locs1 h1 _ h2 => kk st2 rfl H1 locs1 ⟨hset ▸ h1, h2⟩)
variable {y : MethodName} {bytes : ByteArray} {maxL nL n index : Nat} {ret : Option FieldType} {ws : List Cond} {rm : Room} {Ts : List Cond} {own C : String} {b : Addr} {As : List Value} {stk : List Value}
theorem jRun {v : Option Value} {av : List Value} (hr : va_Run p l e R s m args below meth c H locs 0 0 0 0 (F0 m pc ls stk) rest (JQ D A w tys v st2 av.toArray) A) (hI : JI D A w s.heap st H locs) (kk : ∀ (H1 : Heap) (locs1 : List Loc), JI D A w s.heap st2 H1 locs1 → W p l e R s m args below meth c H1 locs1 0 0 Q (F0 m (pc + 3) ls (v.toList ++ rest))) : W p l e R s m args below meth c H locs 0 0 Q (F0 m pc ls stk) := by
  intro T hT X
  obtain ⟨v', st₀, t, T', L, h0, X', hL, e1, e2, ⟨hv, hJ, hz, hk⟩, go⟩ := hr T hT X
  cases hv
  rw [h0] at hz hk
  have hS := hI.2
  obtain ⟨t2, a1, b1⟩ := kk T'.heap (locs ++ L) ⟨by rw [e1]; exact hJ.1, ⟨Nat.le_trans hS.1 (by rw [e1]; exact hz), fun q h1 h2 => by rw [e1, hk q (Nat.lt_of_lt_of_le h1 hS.1) h2]; exact hS.2.1 q h1 h2, fun q hq => by
      rcases List.mem_append.mp hq with h | h
      · exact hS.2.2 q h
      · exact hL q h⟩⟩ T' rfl X'
  exact ⟨t2, go t2 a1, b1⟩
theorem jcallV {v : Option Value} (S : CallFix p m c cc nL s args Ts own) (hM : Met l y ws rm (va_Pc (.ref b :: As) (JH D w tys st)) (JQ D A w tys v st2) 0 0 A) (cw : CallW R s args own C index y bytes maxL ret ws rm 0 0 n) (hK : va_K D vwCl tys s) (hI : JI D A w s.heap st H locs) (q0 : Nat) {ci : Nat} {fs : List Value} (he : (w st)[q0]? = some (b, .inr (ci, fs))) {T : u_T} {N : Nat} (hc : vwCl[ci]? = some (C, T, N))
    (hn : As.length = n) (hsize : ls.size = nL) (hstack : stk = As.reverse ++ .ref b :: rest) (hW : (rest.map fun v => v.category).sum ≤ 8) (hdg : decode cc pc = .ok (.invokevirtual index, 3)) (kk : ∀ (H1 : Heap) (locs1 : List Loc), JI D A w s.heap st2 H1 locs1 → W p l e R s m args below meth c H1 locs1 0 0 Q (F0 m (pc + 3) ls (v.toList ++ rest))) : W p l e R s m args below meth c H locs 0 0 Q (F0 m pc ls stk) :=
  jRun (va_runV (As := As) (rest := rest) S hM cw ⟨JH_blind _ _ _ _ _, va_recv hK hI.1 hc he, fun U hU hW => ⟨rfl, by rw [hU]; exact hI.1, va_K.moved hW.alike hK⟩⟩ rfl hn hsize hstack (lv_room hW) hdg ⟨Nat.zero_le _, Nat.zero_le _⟩) hI kk
theorem jcallS {v : Option Value} (S : CallFix p m c cc nL s args Ts own) (hM : Met l y ws rm (va_Pc As (JH D w tys st)) (JQ D A w tys v st2) 0 0 A) (cw : CallB R s args own index y bytes maxL ret ws rm 0 0 n ∧ (Cond.static y).before args s = true) (hK : va_K D vwCl tys s) (hI : JI D A w s.heap st H locs)
    (hn : As.length = n) (hsize : ls.size = nL) (hstack : stk = As.reverse ++ rest) (hW : (rest.map fun v => v.category).sum ≤ 8) (hdg : decode cc pc = .ok (.invokestatic index, 3)) (kk : ∀ (H1 : Heap) (locs1 : List Loc), JI D A w s.heap st2 H1 locs1 → W p l e R s m args below meth c H1 locs1 0 0 Q (F0 m (pc + 3) ls (v.toList ++ rest))) : W p l e R s m args below meth c H locs 0 0 Q (F0 m pc ls stk) :=
  jRun (va_runS (As := As) (rest := rest) S hM cw ⟨JH_blind _ _ _ _ _, fun U hU hW => ⟨rfl, by rw [hU]; exact hI.1, va_K.moved hW.alike hK⟩⟩ rfl hn hsize hstack (lv_room hW) hdg ⟨Nat.zero_le _, Nat.zero_le _⟩) hI kk
end JB
