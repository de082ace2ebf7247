/-! PURE: beats (PATH, NODS), what was seen (SUSPECTS, HOLES) -/
def Rb (R BL BT : Nat → Int32) (i : Nat) : Nat → Int32 := upd (upd R 0 (BL i)) 1 (BT i)
theorem rV_Rb {f R BL BT : Nat → Int32} {i : Nat} (h : rV f R) : rV (upd (upd f 0 (BL i)) 1 (BT i)) (Rb R BL BT i) := by
  intro j hj
  unfold Rb
  by_cases e1 : j = 1
  · subst e1; rw [pk_us, pk_us]
  · rw [pk_un e1, pk_un e1]
    by_cases e0 : j = 0
    · subst e0; rw [pk_us, pk_us]
    · rw [pk_un e0, pk_un e0]; exact h j hj
theorem aN_Rb {n k i : Nat} {R BL BT : Nat → Int32} (h : aN n k R) : aN n k (Rb R BL BT i) := aN_upd (aN_upd h (Or.inl (by omega))) (Or.inl (by omega))
theorem q_move {N p b i : Nat} {st : PS} {BL BT : Nat → Int32} (hi : i < b) (hb : b ≤ 7) (h1 : ∀ i, i < b → st.1 22 i = BL i) (h2 : ∀ i, i < b → st.1 23 i = BT i) (hp1 : p + 1 ≠ 22) (hp2 : p + 1 ≠ 23) : jm_X0_moveToBeat N 17 p (nI i) st = some ((), pU (pU st (p + 1) 0 (BL i)) (p + 1) 1 (BT i)) := by
  unfold jm_X0_moveToBeat jm_X4_setLift jm_X4_setTilt
  rw [inB_nI (show i < 7 by omega) (by omega), gd_t, cl (by omega), nm_d, bd_s, gd_t, nm_d, bd_s, show (17 + 5 : Nat) = 22 from rfl, show (17 + 6 : Nat) = 23 from rfl, h1 i hi, pU_n (by omega), h2 i hi]
theorem q_hab {N n k b i l : Nat} {c : PS} {F R BL BT : Nat → Int32} (hV : cV c 17 n k F) (hR : rV (c.1 39) R) (hA : aN n k R) (hl : l < n) (hi : i < b) (hb : b ≤ 7) (h1 : ∀ i, i < b → c.1 22 i = BL i) (h2 : ∀ i, i < b → c.1 23 i = BT i) (hN : 2000 ≤ N) : ∃ c', jm_X8_heightAtBeat N (nI l) (nI i) c = some (hg F (Rb R BL BT i) l k, c') ∧ cE c c' := by
  unfold jm_X8_heightAtBeat jm_X4_copyFrom
  rw [nm_d, bd_s, show (38 + 1 : Nat) = 39 from rfl, show (15 + 1 : Nat) = 16 from rfl]
  generalize hc1 : pC c 16 (va_cpy (c.1 39) (c.1 16) ((0 : Int32)).toNatClampNeg ((0 : Int32)).toNatClampNeg ((21 : Int32)).toNatClampNeg) = c1
  have E1 : cE c c1 := by rw [← hc1]; exact cE_C _ (by decide)
  have V1 : rV (c1.1 16) R := by rw [← hc1, pC_1]; exact rV_cpy hR
  rw [q_move (p := 15) (BL := BL) (BT := BT) hi hb (fun i hi => by rw [E1.1 22 (by decide)]; exact h1 i hi) (fun i hi => by rw [E1.1 23 (by decide)]; exact h2 i hi) (by decide) (by decide), bd_s, show (15 + 1 : Nat) = 16 from rfl]
  generalize hc2 : pU (pU c1 16 0 (BL i)) 16 1 (BT i) = c2
  have E2 : cE c c2 := by rw [← hc2]; exact cE_t E1 (cE_t (cE_U _ _ (by decide)) (cE_U _ _ (by decide)))
  have V2 : rV (c2.1 (15 + 1)) (Rb R BL BT i) := by rw [← hc2]; show rV ((pU (pU c1 16 0 (BL i)) 16 1 (BT i)).1 16) _; rw [pU_1, pU_1]; exact rV_Rb V1
  rw [q_height (cV_E hV E2) V2 (aN_Rb hA) hl hN, bd_s]
  exact ⟨c2, rfl, E2⟩
theorem q_atBeat {N n k b i l : Nat} {m : PS} {F R BL BT : Nat → Int32} (hV : mV m n k F) (hR : rV (m.1 13) R) (hA : aN n k R) (hl : l < n) (hi : i < b) (hb : b ≤ 7) (h1 : ∀ i, i < b → m.1 10 i = BL i) (h2 : ∀ i, i < b → m.1 11 i = BT i) (hN : 2000 ≤ N) : ∃ m', jm_X9_atBeat N (nI l) (nI i) m = some (hg F (Rb R BL BT i) l k, m') ∧ mE m m' := by
  unfold jm_X9_atBeat
  obtain ⟨m1, hm1, E1, V1⟩ := q_copyNow hR hN
  rw [hm1, bd_s, inB_nI (show i < 7 by omega) (by omega), gd_t, nm_d, gd_t, nm_d, cl (by omega), E1.1 10 (by decide), h1 i hi, pU_n (by decide), E1.1 11 (by decide), h2 i hi]
  generalize hc2 : pU (pU m1 14 0 (BL i)) 14 1 (BT i) = m2
  have E2 : mE m m2 := by rw [← hc2]; exact mE_t E1 (mE_t (mE_U _ _ (by decide)) (mE_U _ _ (by decide)))
  have V2 : rV (m2.1 14) (Rb R BL BT i) := by rw [← hc2, pU_1, pU_1]; exact rV_Rb V1
  rw [q_mheight (mV_E hV E2) V2 (aN_Rb hA) hl hN, bd_s]
  exact ⟨m2, rfl, E2⟩
/-- NODS: H the heights at beats -/
def noF (H : Nat → Int32) : Nat → Int32
  | 0 => 0
  | i + 1 => if ¬ H i ≤ H (i + 1) ∧ ¬ H (i + 2) ≤ H (i + 1) then noF H i + 1 else noF H i
theorem q_nods {N n k b l : Nat} {c : PS} {F R BL BT : Nat → Int32} (hV : cV c 17 n k F) (hR : rV (c.1 39) R) (hA : aN n k R) (hl : l < n) (hb : b ≤ 7) (hbb : c.1 17 9 = nI b) (h1 : ∀ i, i < b → c.1 22 i = BL i) (h2 : ∀ i, i < b → c.1 23 i = BT i) (hN : 2000 ≤ N) : ∃ r, iter (fun q => jm_X8_nods_L14 N (nI l) q.1 q.2.1 q.2.2) N (0, 1, c) = some r ∧ r.1 = noF (fun i => hg F (Rb R BL BT i) l k) (b - 2) ∧ cE c r.2 := by
  refine iter_inv (fun i q => q.1 = noF (fun i => hg F (Rb R BL BT i) l k) i ∧ q.2.1 = nI (i + 1) ∧ cE c q.2.2) _ (b - 2) (fun i s hi hI => ?_) (fun s hI => ?_) (by omega) ⟨rfl, rfl, cE_r c⟩
  · obtain ⟨w5, w6, st⟩ := s
    obtain ⟨i1, i2, i3⟩ := hI
    have i1 : w5 = noF (fun i => hg F (Rb R BL BT i) l k) i := i1
    have i2 : w6 = nI (i + 1) := i2
    have i3 : cE c st := i3
    subst i1 i2
    have ev : ∀ (st : PS), cE c st → ∀ j, j < b → ∃ c', jm_X8_heightAtBeat N (nI l) (nI j) st = some (hg F (Rb R BL BT j) l k, c') ∧ cE c c' := fun st E j hj => by
      obtain ⟨c', q1, q2⟩ := q_hab (c := st) (BL := BL) (BT := BT) (cV_E hV E) (by rw [E.1 39 (by decide)]; exact hR) hA hl hj hb (fun i hi => by rw [E.1 22 (by decide)]; exact h1 i hi) (fun i hi => by rw [E.1 23 (by decide)]; exact h2 i hi) hN
      exact ⟨c', q1, cE_t E q2⟩
    show ∃ s', jm_X8_nods_L14 N (nI l) (noF (fun i => hg F (Rb R BL BT i) l k) i) (nI (i + 1)) st = some (.inl s') ∧ _
    unfold jm_X8_nods_L14
    obtain ⟨s1, q1, E1⟩ := ev st i3 (i + 1) (by omega)
    obtain ⟨s2, q2, E2⟩ := ev s1 E1 i (by omega)
    obtain ⟨s3, q3, E3⟩ := ev s2 E2 (i + 2) (by omega)
    rw [i3.1 17 (by decide), hbb, cd_0, cd_in (by omega), if_neg (nle (by omega) (by omega)), q1, bd_s, nI_pred, q2, bd_s, nI_1]
    by_cases z1 : hg F (Rb R BL BT i) l k ≤ hg F (Rb R BL BT (i + 1)) l k
    · rw [if_pos z1]
      refine ⟨_, rfl, ?_, rfl, E2⟩
      show _ = noF (fun i => hg F (Rb R BL BT i) l k) (i + 1)
      rw [noF, if_neg (fun z => z.1 z1)]
    · rw [if_neg z1, q3, bd_s]
      by_cases z2 : hg F (Rb R BL BT (i + 2)) l k ≤ hg F (Rb R BL BT (i + 1)) l k
      · rw [if_pos z2]
        refine ⟨_, rfl, ?_, rfl, E3⟩
        show _ = noF (fun i => hg F (Rb R BL BT i) l k) (i + 1)
        rw [noF, if_neg (fun z => z.2 z2)]
      · rw [if_neg z2]
        refine ⟨_, rfl, ?_, rfl, E3⟩
        show _ = noF (fun i => hg F (Rb R BL BT i) l k) (i + 1)
        rw [noF, if_pos ⟨z1, z2⟩]
  · obtain ⟨w5, w6, st⟩ := s
    obtain ⟨i1, i2, i3⟩ := hI
    have i1 : w5 = noF (fun i => hg F (Rb R BL BT i) l k) (b - 2) := i1
    have i2 : w6 = nI (b - 2 + 1) := i2
    have i3 : cE c st := i3
    subst i1 i2
    refine ⟨(noF (fun i => hg F (Rb R BL BT i) l k) (b - 2), st), ?_, rfl, i3⟩
    show jm_X8_nods_L14 N (nI l) (noF (fun i => hg F (Rb R BL BT i) l k) (b - 2)) (nI (b - 2 + 1)) st = _
    unfold jm_X8_nods_L14
    rw [i3.1 17 (by decide), hbb, cd_0, if_pos]
    unfold cd
    by_cases z : 0 < b
    · rw [if_pos z]; exact yle (by omega) (by omega)
    · rw [if_neg z, show b - 2 + 1 = 1 by omega]; decide
theorem q_nods9 {N n k b l : Nat} {m : PS} {F R BL BT : Nat → Int32} (hV : mV m n k F) (hR : rV (m.1 13) R) (hA : aN n k R) (hl : l < n) (hb : b ≤ 7) (hbb : m.1 0 20 = nI b) (h1 : ∀ i, i < b → m.1 10 i = BL i) (h2 : ∀ i, i < b → m.1 11 i = BT i) (hN : 2000 ≤ N) : ∃ r, iter (fun q => jm_X9_nods_L14 N (nI l) q.1 q.2.1 q.2.2) N (0, 1, m) = some r ∧ r.1 = noF (fun i => hg F (Rb R BL BT i) l k) (b - 2) ∧ mE m r.2 := by
  refine iter_inv (fun i q => q.1 = noF (fun i => hg F (Rb R BL BT i) l k) i ∧ q.2.1 = nI (i + 1) ∧ mE m q.2.2) _ (b - 2) (fun i s hi hI => ?_) (fun s hI => ?_) (by omega) ⟨rfl, rfl, mE_r m⟩
  · obtain ⟨w5, w6, st⟩ := s
    obtain ⟨i1, i2, i3⟩ := hI
    have i1 : w5 = noF (fun i => hg F (Rb R BL BT i) l k) i := i1
    have i2 : w6 = nI (i + 1) := i2
    have i3 : mE m st := i3
    subst i1 i2
    have ev : ∀ (st : PS), mE m st → ∀ j, j < b → ∃ c', jm_X9_atBeat N (nI l) (nI j) st = some (hg F (Rb R BL BT j) l k, c') ∧ mE m c' := fun st E j hj => by
      obtain ⟨c', q1, q2⟩ := q_atBeat (m := st) (BL := BL) (BT := BT) (mV_E hV E) (by rw [E.1 13 (by decide)]; exact hR) hA hl hj hb (fun i hi => by rw [E.1 10 (by decide)]; exact h1 i hi) (fun i hi => by rw [E.1 11 (by decide)]; exact h2 i hi) hN
      exact ⟨c', q1, mE_t E q2⟩
    show ∃ s', jm_X9_nods_L14 N (nI l) (noF (fun i => hg F (Rb R BL BT i) l k) i) (nI (i + 1)) st = some (.inl s') ∧ _
    unfold jm_X9_nods_L14
    obtain ⟨s1, q1, E1⟩ := ev st i3 (i + 1) (by omega)
    obtain ⟨s2, q2, E2⟩ := ev s1 E1 i (by omega)
    obtain ⟨s3, q3, E3⟩ := ev s2 E2 (i + 1) (by omega)
    obtain ⟨s4, q4, E4⟩ := ev s3 E3 (i + 2) (by omega)
    rw [i3.1 0 (by decide), hbb, cd_0, cd_in (by omega), if_neg (nle (by omega) (by omega)), q1, bd_s, nI_pred, q2, bd_s, nI_1, Int32.add_zero]
    by_cases z1 : hg F (Rb R BL BT i) l k ≤ hg F (Rb R BL BT (i + 1)) l k
    · rw [if_pos z1]
      refine ⟨_, rfl, ?_, rfl, E2⟩
      show _ = noF (fun i => hg F (Rb R BL BT i) l k) (i + 1)
      rw [noF, if_neg (fun z => z.1 z1)]
    · rw [if_neg z1, q3, bd_s, q4, bd_s]
      by_cases z2 : hg F (Rb R BL BT (i + 2)) l k ≤ hg F (Rb R BL BT (i + 1)) l k
      · rw [if_pos z2]
        refine ⟨_, rfl, ?_, rfl, E4⟩
        show _ = noF (fun i => hg F (Rb R BL BT i) l k) (i + 1)
        rw [noF, if_neg (fun z => z.2 z2)]
      · rw [if_neg z2]
        refine ⟨_, rfl, ?_, rfl, E4⟩
        show _ = noF (fun i => hg F (Rb R BL BT i) l k) (i + 1)
        rw [noF, if_pos ⟨z1, z2⟩]
  · obtain ⟨w5, w6, st⟩ := s
    obtain ⟨i1, i2, i3⟩ := hI
    have i1 : w5 = noF (fun i => hg F (Rb R BL BT i) l k) (b - 2) := i1
    have i2 : w6 = nI (b - 2 + 1) := i2
    have i3 : mE m st := i3
    subst i1 i2
    refine ⟨(noF (fun i => hg F (Rb R BL BT i) l k) (b - 2), st), ?_, rfl, i3⟩
    show jm_X9_nods_L14 N (nI l) (noF (fun i => hg F (Rb R BL BT i) l k) (b - 2)) (nI (b - 2 + 1)) st = _
    unfold jm_X9_nods_L14
    rw [i3.1 0 (by decide), hbb, cd_0, if_pos]
    unfold cd
    by_cases z : 0 < b
    · rw [if_pos z]; exact yle (by omega) (by omega)
    · rw [if_neg z, show b - 2 + 1 = 1 by omega]; decide
/-! what was seen: SL which limbs, SH how high -/
def cS (c : PS) (se n : Nat) (SL SH : Nat → Int32) : Prop := c.1 9 4 = nI se ∧ se ≤ 6 ∧ ∀ j, j < se → c.1 10 j = SL j ∧ c.1 11 j = SH j ∧ ∃ l, l < n ∧ SL j = nI l
def mS (m : PS) (se n : Nat) (SL SH : Nat → Int32) : Prop := m.1 0 34 = nI se ∧ se ≤ 6 ∧ ∀ j, j < se → m.1 17 j = SL j ∧ m.1 18 j = SH j ∧ ∃ l, l < n ∧ SL j = nI l
theorem cS_E {c c' : PS} {se n : Nat} {SL SH : Nat → Int32} (h : cS c se n SL SH) (e : cE c c') : cS c' se n SL SH := by
  obtain ⟨h1, h2, h3⟩ := h
  exact ⟨by rw [e.1 9 (by decide)]; exact h1, h2, fun j hj => by rw [e.1 10 (by decide), e.1 11 (by decide)]; exact h3 j hj⟩
theorem mS_E {c c' : PS} {se n : Nat} {SL SH : Nat → Int32} (h : mS c se n SL SH) (e : mE c c') : mS c' se n SL SH := by
  obtain ⟨h1, h2, h3⟩ := h
  exact ⟨by rw [e.1 0 (by decide)]; exact h1, h2, fun j hj => by rw [e.1 17 (by decide), e.1 18 (by decide)]; exact h3 j hj⟩
def soP (F R SL SH : Nat → Int32) (k j : Nat) : Bool := decide (hg F R (SL j).toNatClampNeg k = SH j)
theorem q_allIsSo {N p n k se : Nat} {c : PS} {F R SL SH : Nat → Int32} (hV : cV c 17 n k F) (hR : rV (c.1 (p + 1)) R) (hA : aN n k R) (hS : cS c se n SL SH) (hN : 2000 ≤ N) : jm_X7_allIsSo N 17 p c = some (zB (allB (soP F R SL SH k) se), c) := by
  have hn := hV.2.2.1
  unfold jm_X7_allIsSo
  refine (iter_all (fun i => (nI i, c)) se (soP F R SL SH k) (r0 := (0, c)) (r1 := (1, c)) (fun i hi => ?_) ?_ (by have := hS.2.1; omega)).trans ?_
  · show jm_X7_allIsSo_L2 N 17 p (nI i) c = _
    have h6 := hS.2.1
    obtain ⟨e1, e2, l, hl, e3⟩ := hS.2.2 i hi
    unfold jm_X7_allIsSo_L2
    rw [hS.1, if_neg (nle hi (by omega)), inB_nI (show i < 6 by omega) (by omega), gd_t, cl (by omega), e1, e3, q_height hV hR hA hl hN, bd_s, gd_t, e2, nI_1]
    by_cases z : hg F R l k = SH i
    · rw [if_pos z, if_pos (show soP F R SL SH k i = true from decide_eq_true (by rw [e3, cl (by omega)]; exact z))]
    · rw [if_neg z, if_neg (show ¬ soP F R SL SH k i = true from fun q => z (by have := of_decide_eq_true q; rw [e3, cl (by omega)] at this; exact this))]
  · show jm_X7_allIsSo_L2 N 17 p (nI se) c = _
    have h6 := hS.2.1
    unfold jm_X7_allIsSo_L2
    rw [hS.1, if_pos (yle (Nat.le_refl se) (by omega))]
  · unfold zB
    split <;> rfl
theorem q_isSo {N r n k se : Nat} {m : PS} {F R SL SH : Nat → Int32} (hV : mV m n k F) (hR : rV (m.1 r) R) (hA : aN n k R) (hS : mS m se n SL SH) (hN : 2000 ≤ N) : jm_X9_isSo N r m = some (zB (allB (soP F R SL SH k) se), m) := by
  have hn := hV.2.2.1
  have h6 := hS.2.1
  unfold jm_X9_isSo
  refine iter_for (fun i => (zB (allB (soP F R SL SH k) i), nI i, m)) se (fun i hi => ?_) ?_ (by omega)
  · show jm_X9_isSo_L4 N r (zB (allB (soP F R SL SH k) i)) (nI i) m = some (.inl (zB (allB (soP F R SL SH k) (i + 1)), nI (i + 1), m))
    obtain ⟨e1, e2, l, hl, e3⟩ := hS.2.2 i hi
    unfold jm_X9_isSo_L4
    rw [hS.1, if_neg (nle hi (by omega)), nI_1, allB]
    cases ha : allB (soP F R SL SH k) i
    · rw [if_pos (by decide)]; rfl
    · rw [if_neg (by decide), inB_nI (show i < 6 by omega) (by omega), gd_t, cl (by omega), e1, e3, q_mheight hV hR hA hl hN, bd_s, gd_t, e2]
      by_cases z : hg F R l k = SH i
      · rw [if_pos z, show soP F R SL SH k i = true from decide_eq_true (by rw [e3, cl (by omega)]; exact z)]; rfl
      · rw [if_neg z, show soP F R SL SH k i = false from decide_eq_false (by rw [e3, cl (by omega)]; exact z)]; rfl
  · show jm_X9_isSo_L4 N r (zB (allB (soP F R SL SH k) se)) (nI se) m = _
    unfold jm_X9_isSo_L4
    rw [hS.1, if_pos (yle (Nat.le_refl se) (by omega)), isZ_zB, gd_t]
/-- as if string g were cut too; 6: as it is -/
def Rg (R : Nat → Int32) (g : Nat) : Nat → Int32 := upd R 2 (R 2 ||| (if g < 6 then bit1 g else 0))
theorem q_tryGuess {N g : Nat} {c : PS} {R : Nat → Int32} (hR : rV (c.1 39) R) (hg : g ≤ 6) : ∃ c', jm_X7_tryGuess N 38 (nI g) c = some ((), c') ∧ cE c c' ∧ rV (c'.1 14) (Rg R g) := by
  unfold jm_X7_tryGuess jm_X4_copyFrom
  rw [nm_d, bd_s, show (38 + 1 : Nat) = 39 from rfl, show (13 + 1 : Nat) = 14 from rfl]
  generalize hc1 : pC c 14 (va_cpy (c.1 39) (c.1 14) ((0 : Int32)).toNatClampNeg ((0 : Int32)).toNatClampNeg ((21 : Int32)).toNatClampNeg) = c1
  have E1 : cE c c1 := by rw [← hc1]; exact cE_C _ (by decide)
  have V1 : rV (c1.1 14) R := by rw [← hc1, pC_1]; exact rV_cpy hR
  by_cases h : g = 6
  · subst h
    rw [if_pos (show nI 6 = 6 from rfl)]
    refine ⟨c1, rfl, E1, fun j hj => ?_⟩
    unfold Rg
    rw [if_neg (by omega), or_z]
    by_cases e : j = 2
    · subst e; rw [pk_us]; exact V1 2 hj
    · rw [pk_un e]; exact V1 j hj
  · rw [if_neg (show ¬ nI g = 6 from fun z => h ((nI_eq (a := g) (b := 6) (by omega) (by omega)).mp z))]
    unfold jm_X4_cut jm_X4_setCut
    rw [bd_s, nm_d, bd_s, show (38 + 1 : Nat) = 39 from rfl, show (13 + 1 : Nat) = 14 from rfl, E1.1 39 (by decide), hR 2 (by omega)]
    refine ⟨_, rfl, cE_t E1 (cE_U _ _ (by decide)), ?_⟩
    rw [pU_1]
    unfold Rg
    rw [if_pos (by omega)]
    exact rV_upd (rV_ne V1 2)
theorem q_without {N g : Nat} {m : PS} {R : Nat → Int32} (hR : rV (m.1 13) R) (hg : g ≤ 6) (hN : 2000 ≤ N) : ∃ m', jm_X9_without N (nI g) m = some ((), m') ∧ mE m m' ∧ rV (m'.1 14) (Rg R g) := by
  unfold jm_X9_without
  obtain ⟨m1, hm1, E1, V1⟩ := q_copyNow hR hN
  rw [hm1, bd_s, V1 2 (by omega), nm_d, nm_d]
  by_cases h : g = 6
  · subst h
    rw [if_pos (show (6 : Int32) ≤ nI 6 from Int32.le_refl _)]
    refine ⟨_, rfl, mE_t E1 (mE_U _ _ (by decide)), ?_⟩
    rw [pU_1]
    unfold Rg
    rw [if_neg (by omega)]
    exact rV_upd (rV_ne V1 2)
  · rw [if_neg (show ¬ (6 : Int32) ≤ nI g from nle (a := 6) (by omega) (by omega))]
    refine ⟨_, rfl, mE_t E1 (mE_U _ _ (by decide)), ?_⟩
    rw [pU_1]
    unfold Rg
    rw [if_pos (by omega)]
    exact rV_upd (rV_ne V1 2)
theorem aN_Rg {n k g : Nat} {R : Nat → Int32} (h : aN n k R) : aN n k (Rg R g) := aN_upd h (Or.inl (by omega))
def spP (F R SL SH : Nat → Int32) (k se g : Nat) : Bool := decide (g = 6 ∨ (g < k ∧ ¬ cutP R g)) && allB (soP F (Rg R g) SL SH k) se
