/-! THE CLAIM OUT OF ONE WALK OF THE LAW'S BODY. Your part is whole_start (and what it stands on); all else here is the same for every law, but numbers. -/
def R_law : String := "PuppetBarLaw"
def lw_P (b : Addr) (xs : List Int32) (args : Array Value) (s : State) : Prop := args = #[.ref b] ∧ s.IntsAt b xs ∧ xs.length ≤ 256 ∧ (Jvm.Cond.and given_1 narrow_1).before args s = true
def lw_Q (_ : Array Value) (s : State) (o : Outcome) (t : State) : Prop := o = .returned (some (.int 1)) ∧ Framed s o t [] 76 4305
def lw_Z (below : List Frame) (a : Array Value) (s : State) : State → Prop := fun t => ∃ o, t.status = .running ∧ Ended t below o ∧ lw_Q a s o t
/-- the law's own end, with 1 on the stack, nothing written that was there before, its room as the claim has it -/
theorem lw_ret {p : Program} {l : Launch} {e : Env} {s : State} {m : MethodId} {below : List Frame} {meth : Method} {c : Code} {b : Nat} (hx : p.tables.exec = Jvm.exec) (hb : c.code = code) (hr : meth.sig.returnType = ret) (hlocks : meth.locks = false) {pc : Nat} {H : Heap} {ls : Array Slot} (hdg : decode code pc = .ok (.ireturn, 1)) : W p l e room_1 s m #[Value.ref b] below meth c H [] 76 4305 (lw_Z below #[Value.ref b] s) (F0 m pc ls [.int 1]) := by
  intro T hT X
  obtain ⟨fs, hret, hrun, hended, hW, hframe⟩ := X.leave (v := some (.int 1)) (hlocks := hlocks) (fun h => by rw [hr] at h; cases h)
  have hmeth' : T.vm.method? m = some meth := X.method'
  refine ⟨T.setFrames fs, ?_, .returned (some (.int 1)), hrun, hended, rfl, ⟨_, rfl⟩, hW, hframe⟩
  jvm_step X.here [X.here.top, hx, hb, hdg, hmeth', hr, ret, narrow_b1]
  (try refine ⟨rfl, ?_⟩); (try refine ⟨rfl, ?_⟩)
  first | (intro acts; rw [hret _ acts rfl rfl rfl]) | rw [hret _ _ rfl rfl rfl]
  exact Steps.refl _
/-- what holds at the law's entry: the machine, the code, the tables' words (any of lw_tbl by 'hts w (by decide +kernel)'), the script of L ints xs at the cell b, what the Statement gives of the start (any of its parts by flat_of_before) -/
def lw_At (p : Program) (s : State) (m : MethodId) (meth : Method) (c : Code) (b L : Nat) (xs : Nat → Int32) : Prop :=
  p.tables.exec = Jvm.exec ∧ c.code = code ∧ meth.sig.returnType = ret ∧ c.maxLocals = 4 ∧ s.vm.findClass R_law = some m.cls ∧ (∀ w ∈ lw_tbl, w.before #[Value.ref b] s = true) ∧ va_X b L xs s s.heap ∧ b < s.heap.size ∧ meth.locks = false ∧ (Jvm.Cond.and given_1 narrow_1).before #[Value.ref b] s = true
abbrev lA (s : State) : Nat → Prop := fun q => s.heap.size ≤ q
/-- what holds in the whole law -/
def LC (p : Program) (s : State) (m : MethodId) (meth : Method) (c : Code) (b L : Nat) (xs : Nat → Int32) (D : va_G) (am bm : Nat → Nat) (cI cC cS cZ : ClassId) : Prop := lw_At p s m meth c b L xs ∧ va_K D vwCl (cTy cI cC cS) s ∧ va_K D vwCl (mTy cI cZ) s ∧ aJ am 52 ∧ aJ bm 24 ∧ (∀ k, k < 52 → s.heap.size ≤ am k) ∧ (∀ k, k < 24 → s.heap.size ≤ bm k) ∧ ∀ i j, i < 52 → j < 24 → am i ≠ bm j
/-- the two worlds side by side -/
def LI (D : va_G) (am bm : Nat → Nat) (cI cC cS cZ : ClassId) (s : State) (X : Heap) (locs : List Loc) (cs ms : PS) : Prop := va_P D vwCl (cW am cI cC cS cs) X ∧ va_P D vwCl (mW bm cI cZ ms) X ∧ va_S (lA s) s.heap X locs
theorem w_at {am : Nat → Nat} {n : Nat} {ws : va_W} (hm : ws.map Prod.fst = (List.range n).map am) {k : Nat} {q : Nat × va_E} (hq : ws[k]? = some q) : k < n ∧ q.1 = am k := by
  have h1 : (ws.map Prod.fst)[k]? = some q.1 := by rw [List.getElem?_map, hq]; rfl
  rw [hm, List.getElem?_map] at h1
  have hk : k < n := by
    rcases Nat.lt_or_ge k n with h | h
    · exact h
    · rw [List.getElem?_eq_none (by simpa using h)] at h1; cases h1
  rw [List.getElem?_range hk] at h1
  exact ⟨hk, (Option.some.inj h1).symm⟩
section LW
variable {p : Program} {l : Launch} {e : Env} {s : State} {m : MethodId} {below : List Frame} {meth : Method} {c : Code} {b L : Nat} {xs : Nat → Int32} {D : va_G} {am bm : Nat → Nat} {cI cC cS cZ : ClassId} {H : Heap} {locs : List Loc} {ls : Array Slot} {Q : State → Prop}
variable {y : MethodName} {bytes : ByteArray} {maxL n index pc : Nat} {ret : Option FieldType} {ws : List Cond} {rm : Room} {As rest stk : List Value} {v : Option Value}
theorem lcC (C0 : LC p s m meth c b L xs D am bm cI cC cS cZ) {cs cs' ms : PS} (hM : Met l y ws rm (va_Pc (.ref (am 0) :: As) (JH D (cW am cI cC cS) (cTy cI cC cS) cs)) (JQ D (aA am 52) (cW am cI cC cS) (cTy cI cC cS) v cs') 0 0 (aA am 52)) (cw : CallW room_1 s #[Value.ref b] RL RX8 index y bytes maxL ret ws rm 0 0 n) (hI : LI D am bm cI cC cS cZ s H locs cs ms) (hn : As.length = n) (hsize : ls.size = 4) (hstack : stk = As.reverse ++ .ref (am 0) :: rest) (hW : (rest.map fun v => v.category).sum ≤ 8) (hdg : decode code pc = .ok (.invokevirtual index, 3))
    (kk : ∀ (H1 : Heap) (locs1 : List Loc), LI D am bm cI cC cS cZ s H1 locs1 cs' ms → W p l e room_1 s m #[Value.ref b] below meth c H1 locs1 76 4305 Q (F0 m (pc + 3) ls (v.toList ++ rest))) : W p l e room_1 s m #[Value.ref b] below meth c H locs 76 4305 Q (F0 m pc ls stk) := by
  obtain ⟨⟨hx, hb, hr, hml, hown, hts, -⟩, hKc, hKm, hj, hj2, ha, hb2, hab⟩ := C0
  have hown : s.vm.findClass RL = some m.cls := hown
  exact jG (ws2 := mW bm cI cZ ms) (va_runV (As := As) (rest := rest) ⟨hx, hb, hml, hown, hts⟩ hM cw ⟨JH_blind _ _ _ _ _, va_recv (q := (RX8, TX8, 9)) hKc hI.1 (ci := 8) (q0 := 0) rfl (cg_0 am cI cC cS cs), fun U hU hW => ⟨rfl, by rw [hU]; exact hI.1, va_K.moved hW.alike hKc⟩⟩ rfl hn hsize hstack (lv_room hW) hdg ⟨Nat.le_refl _, Nat.le_refl _⟩) (fun q hq => by obtain ⟨k, hk, rfl⟩ := hq; exact ha k hk) hI.2.2 hI.2.1 (fun k q hq hA => by
    obtain ⟨h1, h2⟩ := w_at (mW_map bm cI cZ ms) hq
    obtain ⟨i, hi, e⟩ := hA
    exact hab i k hi h1 (e.symm.trans h2)) (fun H1 locs1 h1 h2 h3 => kk H1 locs1 ⟨h1, h2, h3⟩)
theorem lcM (C0 : LC p s m meth c b L xs D am bm cI cC cS cZ) {cs ms ms' : PS} (hM : Met l y ws rm (va_Pc (.ref (bm 0) :: As) (JH D (mW bm cI cZ) (mTy cI cZ) ms)) (JQ D (aA bm 24) (mW bm cI cZ) (mTy cI cZ) v ms') 0 0 (aA bm 24)) (cw : CallW room_1 s #[Value.ref b] RL RX9 index y bytes maxL ret ws rm 0 0 n) (hI : LI D am bm cI cC cS cZ s H locs cs ms) (hn : As.length = n) (hsize : ls.size = 4) (hstack : stk = As.reverse ++ .ref (bm 0) :: rest) (hW : (rest.map fun v => v.category).sum ≤ 8) (hdg : decode code pc = .ok (.invokevirtual index, 3))
    (kk : ∀ (H1 : Heap) (locs1 : List Loc), LI D am bm cI cC cS cZ s H1 locs1 cs ms' → W p l e room_1 s m #[Value.ref b] below meth c H1 locs1 76 4305 Q (F0 m (pc + 3) ls (v.toList ++ rest))) : W p l e room_1 s m #[Value.ref b] below meth c H locs 76 4305 Q (F0 m pc ls stk) := by
  obtain ⟨⟨hx, hb, hr, hml, hown, hts, -⟩, hKc, hKm, hj, hj2, ha, hb2, hab⟩ := C0
  have hown : s.vm.findClass RL = some m.cls := hown
  exact jG (ws2 := cW am cI cC cS cs) (va_runV (As := As) (rest := rest) ⟨hx, hb, hml, hown, hts⟩ hM cw ⟨JH_blind _ _ _ _ _, va_recv (q := (RX9, TX9, 43)) hKm hI.2.1 (ci := 9) (q0 := 0) rfl (mg_0 bm cI cZ ms), fun U hU hW => ⟨rfl, by rw [hU]; exact hI.2.1, va_K.moved hW.alike hKm⟩⟩ rfl hn hsize hstack (lv_room hW) hdg ⟨Nat.le_refl _, Nat.le_refl _⟩) (fun q hq => by obtain ⟨k, hk, rfl⟩ := hq; exact hb2 k hk) hI.2.2 hI.1 (fun k q hq hA => by
    obtain ⟨h1, h2⟩ := w_at (cW_map am cI cC cS cs) hq
    obtain ⟨i, hi, e⟩ := hA
    exact hab k i h1 hi (h2.symm.trans e)) (fun H1 locs1 h1 h2 h3 => kk H1 locs1 ⟨h2, h1, h3⟩)
end LW
