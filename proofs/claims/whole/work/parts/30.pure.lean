/-! PURE: LOOK -/
def Hq (F R : Nat → Int32) (l k : Nat) (g : Nat) : Int32 := hg F (Rg R g) l k
theorem q_howMany {N t : Nat} {x : Int32} {st : PS} (ht : t ≤ 7) (hN : 2000 ≤ N) : jm_X7_howManyGuessed N x (nI t) st = some (nI (hm (st.1 12) x t), st) := by
  unfold jm_X7_howManyGuessed
  refine iter_for (fun i => (nI (hm (st.1 12) x i), nI i, st)) t (fun i hi => ?_) ?_ (by omega)
  · show jm_X7_howManyGuessed_L5 N x (nI t) (nI (hm (st.1 12) x i)) (nI i) st = some (.inl (nI (hm (st.1 12) x (i + 1)), nI (i + 1), st))
    unfold jm_X7_howManyGuessed_L5
    rw [if_neg (nle hi (by omega)), inB_nI (show i < 7 by omega) (by omega), gd_t, cl (by omega), nI_1, nI_1, hm]
    split <;> rfl
  · show jm_X7_howManyGuessed_L5 N x (nI t) (nI (hm (st.1 12) x t)) (nI t) st = _
    unfold jm_X7_howManyGuessed_L5
    rw [if_pos (Int32.le_refl _)]
theorem np_le (v g : Nat) : np v g ≤ g := cnt_le _ g
theorem q_mostLeft {N n k l v : Nat} {c : PS} {F R : Nat → Int32} (hV : cV c 17 n k F) (hR : rV (c.1 39) R) (hA : aN n k R) (hl : l < n) (hv : v < 128) (hN : 2000 ≤ N) : ∃ c', jm_X7_mostLeft N 17 38 (nI l) (nI v) c = some (nI (mxM v (Hq F R l k) 7), c') ∧ cE c c' := by
  unfold jm_X7_mostLeft
  refine ex_el (iter_inv (f := fun q => jm_X7_mostLeft_L6 N 17 38 (nI l) (nI v) q.1 q.2.1 q.2.2) (fun g q => q.1 = nI (np v g) ∧ q.2.1 = nI g ∧ cE c q.2.2 ∧ gOk v (Hq F R l k) (q.2.2.1 12) g) (fun r => r.1 = nI (mxM v (Hq F R l k) 7) ∧ cE c r.2) 7 (fun g s hg7 hI => ?_) (fun s hI => ?_) (N := N) (by omega) (s0 := (0, 0, c)) ⟨rfl, rfl, cE_r c, fun z hz => absurd hz (by omega)⟩) (fun r h1 h2 => ?_)
  · obtain ⟨w2, w3, st⟩ := s
    obtain ⟨i1, i2, i3, i4⟩ := hI
    have i1 : w2 = nI (np v g) := i1
    have i2 : w3 = nI g := i2
    have i3 : cE c st := i3
    have i4 : gOk v (Hq F R l k) (st.1 12) g := i4
    subst i1 i2
    have hnp := np_le v g
    show ∃ s', jm_X7_mostLeft_L6 N 17 38 (nI l) (nI v) (nI (np v g)) (nI g) st = some (.inl s') ∧ _
    unfold jm_X7_mostLeft_L6
    rw [if_neg (show ¬ (7 : Int32) ≤ nI g from nle (a := 7) hg7 (by omega)), nI_1, nI_1]
    cases ht : v.testBit g
    · rw [if_neg (fun z => by have := (tb (show v < 256 by omega) (by omega)).mp z; rw [ht] at this; cases this)]
      refine ⟨_, rfl, ?_, rfl, i3, fun z hz h => ?_⟩
      · show nI (np v g) = nI (np v (g + 1))
        rw [np_n ht]
      · rcases Nat.lt_succ_iff_lt_or_eq.mp hz with q | q
        · exact i4 z q h
        · rw [q, ht] at h; cases h
    · rw [if_pos ((tb (show v < 256 by omega) (by omega)).mpr ht)]
      obtain ⟨s1, q1, E1, V1⟩ := q_tryGuess (N := N) (c := st) (R := R) (g := g) (by rw [i3.1 39 (by decide)]; exact hR) (by omega)
      have E1' := cE_t i3 E1
      rw [q1, bd_s, q_height (p := 13) (cV_E hV E1') V1 (aN_Rg hA) hl hN, bd_s, inB_nI (show np v g < 7 by omega) (by omega), gd_t, nm_d, cl (by omega)]
      refine ⟨_, rfl, ?_, rfl, cE_t E1' (cE_U _ _ (by decide)), fun z hz h => ?_⟩
      · show nI (np v g + 1) = nI (np v (g + 1))
        rw [np_s ht]
      · show (pU s1 12 (np v g) _).1 12 (np v z) = _
        rw [pU_1]
        rcases Nat.lt_succ_iff_lt_or_eq.mp hz with q | q
        · have := np_mono v (show z + 1 ≤ g by omega)
          rw [np_s h] at this
          have e12 : s1.1 12 (np v z) = st.1 12 (np v z) := by
            -- a guess writes the trial row alone
            have := q1
            unfold jm_X7_tryGuess jm_X4_copyFrom jm_X4_cut jm_X4_setCut at this
            rw [nm_d, bd_s] at this
            split at this
            · have := (Prod.mk.inj (Option.some.inj this)).2
              rw [← this, pC_n (by decide)]
            · rw [bd_s, nm_d, bd_s] at this
              have := (Prod.mk.inj (Option.some.inj this)).2
              rw [← this, pU_n (by decide), pC_n (by decide)]
          rw [pk_un (by omega), e12]
          exact i4 z q h
        · subst q; rw [pk_us]; rfl
  · obtain ⟨w2, w3, st⟩ := s
    obtain ⟨i1, i2, i3, i4⟩ := hI
    have i1 : w2 = nI (np v 7) := i1
    have i2 : w3 = nI 7 := i2
    have i3 : cE c st := i3
    have i4 : gOk v (Hq F R l k) (st.1 12) 7 := i4
    subst i1 i2
    have hnp := np_le v 7
    refine ⟨(nI (mxM v (Hq F R l k) 7), st), ?_, rfl, i3⟩
    show jm_X7_mostLeft_L6 N 17 38 (nI l) (nI v) (nI (np v 7)) (nI 7) st = _
    unfold jm_X7_mostLeft_L6
    rw [if_pos (show (7 : Int32) ≤ nI 7 from Int32.le_refl _), ← mxC_M 7 i4]
    refine iter_for (fun i => (nI (mxC v (Hq F R l k) (st.1 12) i), nI i, st)) (np v 7) (fun i hi => ?_) ?_ (by omega)
    · show jm_X7_mostLeft_L62 N (nI (np v 7)) (nI (mxC v (Hq F R l k) (st.1 12) i)) (nI i) st = some (.inl (nI (mxC v (Hq F R l k) (st.1 12) (i + 1)), nI (i + 1), st))
      unfold jm_X7_mostLeft_L62
      rw [if_neg (nle hi (by omega)), inB_nI (show i < 7 by omega) (by omega), gd_t, cl (by omega), q_howMany hnp hN, bd_s, hm_cq 7 i4, nI_1, mxC]
      have hc := cq_le v (Hq F R l k) (st.1 12 i) 7
      by_cases z : mxC v (Hq F R l k) (st.1 12) i < cq v (Hq F R l k) (st.1 12 i) 7
      · rw [if_pos z, if_pos (nI_lt z (by omega))]
      · have hm7 : mxC v (Hq F R l k) (st.1 12) i ≤ 7 := by
          have : ∀ j, mxC v (Hq F R l k) (st.1 12) j ≤ 7 := by
            intro j
            induction j with
            | zero => rw [mxC]; omega
            | succ j ih =>
              have := cq_le v (Hq F R l k) (st.1 12 j) 7
              rw [mxC]
              split <;> omega
          exact this i
        rw [if_neg z, if_neg (nI_nlt (by omega) (by omega))]
    · show jm_X7_mostLeft_L62 N (nI (np v 7)) (nI (mxC v (Hq F R l k) (st.1 12) (np v 7))) (nI (np v 7)) st = _
      unfold jm_X7_mostLeft_L62
      rw [if_pos (Int32.le_refl _)]
  · exact ⟨r.2, by rw [h1, ← h2.1], h2.2⟩
theorem q_hw {N n k l g : Nat} {m : PS} {F R : Nat → Int32} (hV : mV m n k F) (hR : rV (m.1 13) R) (hA : aN n k R) (hl : l < n) (hg : g ≤ 6) (hN : 2000 ≤ N) : ∃ m', jm_X9_heightWithout N (nI l) (nI g) m = some (Hq F R l k g, m') ∧ mE m m' := by
  unfold jm_X9_heightWithout
  obtain ⟨s1, q1, E1, V1⟩ := q_without (N := N) hR hg hN
  rw [q1, bd_s, q_mheight (mV_E hV E1) V1 (aN_Rg hA) hl hN, bd_s]
  exact ⟨s1, rfl, E1⟩
theorem q_alike {N n k l v : Nat} {m : PS} {F R : Nat → Int32} (hV : mV m n k F) (hR : rV (m.1 13) R) (hA : aN n k R) (hl : l < n) (hv : v < 128) (hN : 2000 ≤ N) : ∃ m', jm_X9_alike N (nI l) (nI v) m = some (nI (mxM v (Hq F R l k) 7), m') ∧ mE m m' := by
  unfold jm_X9_alike
  refine ex_el (iter_inv (f := fun q => jm_X9_alike_L5 N (nI l) (nI v) q.1 q.2.1 q.2.2) (fun g q => q.1 = nI (mxM v (Hq F R l k) g) ∧ q.2.1 = nI g ∧ mE m q.2.2) (fun r => r.1 = nI (mxM v (Hq F R l k) 7) ∧ mE m r.2) 7 (fun g s hg7 hI => ?_) (fun s hI => ?_) (N := N) (by omega) (s0 := (0, 0, m)) ⟨rfl, rfl, mE_r m⟩) (fun r h1 h2 => ?_)
  · obtain ⟨w2, w3, st⟩ := s
    obtain ⟨i1, i2, i3⟩ := hI
    have i1 : w2 = nI (mxM v (Hq F R l k) g) := i1
    have i2 : w3 = nI g := i2
    have i3 : mE m st := i3
    subst i1 i2
    have hmx := mxM_le v (Hq F R l k) g
    show ∃ s', jm_X9_alike_L5 N (nI l) (nI v) (nI (mxM v (Hq F R l k) g)) (nI g) st = some (.inl s') ∧ _
    unfold jm_X9_alike_L5
    rw [if_neg (show ¬ (6 : Int32) < nI g from nI_nlt (a := 6) (by omega) (by omega))]
    have inner : ∃ r, iter (fun q => jm_X9_alike_L18 N (nI l) (nI v) (nI (mxM v (Hq F R l k) g)) (nI g) q.1 q.2.1 q.2.2) N (0, 0, st) = some r ∧ ∃ st', r = .inl (nI (mxM v (Hq F R l k) (g + 1)), nI (g + 1), st') ∧ mE m st' := by
      refine iter_inv (fun z q => q.1 = nI (if v.testBit g = true then cq v (Hq F R l k) (Hq F R l k g) z else 0) ∧ q.2.1 = nI z ∧ mE m q.2.2) _ 7 (fun z s hz hI => ?_) (fun s hI => ?_) (by omega) ⟨by split <;> rfl, rfl, i3⟩
      · obtain ⟨w6, w7, st⟩ := s
        obtain ⟨i1, i2, i3⟩ := hI
        have i1 : w6 = nI (if v.testBit g = true then cq v (Hq F R l k) (Hq F R l k g) z else 0) := i1
        have i2 : w7 = nI z := i2
        have i3 : mE m st := i3
        subst i1 i2
        show ∃ s', jm_X9_alike_L18 N (nI l) (nI v) (nI (mxM v (Hq F R l k) g)) (nI g) (nI (if v.testBit g = true then cq v (Hq F R l k) (Hq F R l k g) z else 0)) (nI z) st = some (.inl s') ∧ _
        unfold jm_X9_alike_L18
        rw [if_neg (show ¬ (6 : Int32) < nI z from nI_nlt (a := 6) (by omega) (by omega)), has_N (by omega) (by omega), bd_s, has_N (by omega) (by omega), bd_s, nI_1, nI_1, Int32.add_zero]
        have R13 : rV (st.1 13) R := by rw [i3.1 13 (by decide)]; exact hR
        obtain ⟨s1, q1, E1⟩ := q_hw (N := N) (g := z) (mV_E hV i3) R13 hA hl (by omega) hN
        have E1' := mE_t i3 E1
        obtain ⟨s2, q2, E2⟩ := q_hw (N := N) (g := g) (mV_E hV E1') (by rw [E1'.1 13 (by decide)]; exact hR) hA hl (by omega) hN
        have E2' := mE_t E1' E2
        rw [q1, bd_s, q2, bd_s]
        cases hg : v.testBit g
        · exact ⟨(nI 0, nI (z + 1), st), by simp, rfl, rfl, i3⟩
        · cases hz2 : v.testBit z
          · refine ⟨(nI (cq v (Hq F R l k) (Hq F R l k g) z), nI (z + 1), st), by simp, ?_, rfl, i3⟩
            show nI _ = nI (if true = true then cnt _ (z + 1) else 0)
            rw [cnt, hz2]; simp; rfl
          · by_cases e : Hq F R l k z = Hq F R l k g
            · refine ⟨(nI (cq v (Hq F R l k) (Hq F R l k g) z + 1), nI (z + 1), s2), by simp [e], ?_, rfl, E2'⟩
              show nI _ = nI (if true = true then cnt _ (z + 1) else 0)
              rw [cnt, hz2]; simp [e]; rfl
            · refine ⟨(nI (cq v (Hq F R l k) (Hq F R l k g) z), nI (z + 1), s2), by simp [e], ?_, rfl, E2'⟩
              show nI _ = nI (if true = true then cnt _ (z + 1) else 0)
              rw [cnt, hz2]; simp [e]; rfl
      · obtain ⟨w6, w7, st⟩ := s
        obtain ⟨i1, i2, i3⟩ := hI
        have i1 : w6 = nI (if v.testBit g = true then cq v (Hq F R l k) (Hq F R l k g) 7 else 0) := i1
        have i2 : w7 = nI 7 := i2
        subst i1 i2
        refine ⟨.inl (nI (mxM v (Hq F R l k) (g + 1)), nI (g + 1), st), ?_, st, rfl, i3⟩
        show jm_X9_alike_L18 N (nI l) (nI v) (nI (mxM v (Hq F R l k) g)) (nI g) (nI (if v.testBit g = true then cq v (Hq F R l k) (Hq F R l k g) 7 else 0)) (nI 7) st = _
        unfold jm_X9_alike_L18
        rw [if_pos (by decide), nI_1, mxM]
        have hc := cq_le v (Hq F R l k) (Hq F R l k g) 7
        cases hg : v.testBit g
        · rw [if_pos (yle (by simp) (by omega))]; simp
        · by_cases z : mxM v (Hq F R l k) g < cq v (Hq F R l k) (Hq F R l k g) 7
          · rw [if_neg (nle (by simpa using z) (by simp; omega))]; simp [z]
          · rw [if_pos (yle (by simp; omega) (by omega))]; simp [z]
    obtain ⟨r, hr, st', er, e1⟩ := inner
    subst er
    exact ⟨_, hr, rfl, rfl, e1⟩
  · obtain ⟨w2, w3, st⟩ := s
    obtain ⟨i1, i2, i3⟩ := hI
    have i1 : w2 = nI (mxM v (Hq F R l k) 7) := i1
    have i2 : w3 = nI 7 := i2
    subst i1 i2
    refine ⟨(nI (mxM v (Hq F R l k) 7), st), ?_, rfl, i3⟩
    show jm_X9_alike_L5 N (nI l) (nI v) (nI (mxM v (Hq F R l k) 7)) (nI 7) st = _
    unfold jm_X9_alike_L5
    rw [if_pos (by decide)]
  · exact ⟨r.2, by rw [h1, ← h2.1], h2.2⟩
def lkF (ml : Nat → Nat) : Nat → Option (Nat × Nat)
  | 0 => none
  | l + 1 => match lkF ml l with
    | none => some (ml l, l)
    | some q => if q.1 ≤ ml l then some q else some (ml l, l)
theorem lkF_inv {ml : Nat → Nat} (h : ∀ l, ml l ≤ 7) : ∀ l q, lkF ml l = some q → q.1 ≤ 7
  | 0, q, e => by cases e
  | l + 1, q, e => by
    rw [lkF] at e
    cases hb : lkF ml l with
    | none => rw [hb] at e; cases e; exact h l
    | some p =>
      rw [hb] at e
      have ih := lkF_inv h l p hb
      simp only at e
      split at e
      · cases e; exact ih
      · cases e; exact h l
def lkA (o : Option (Nat × Nat)) (x : Int32) : Int32 := match o with
  | none => x
  | some q => nI q.1
def lkB (o : Option (Nat × Nat)) : Int32 := match o with
  | none => -9
  | some q => nI q.2
theorem q_look {N n k se : Nat} {c : PS} {F R SL SH : Nat → Int32} (hV : cV c 17 n k F) (hR : rV (c.1 39) R) (hA : aN n k R) (hS : cS c se n SL SH) (hN : 2000 ≤ N) : ∃ c', jm_X7_limbToLookAt N 17 38 c = some (if bN (spP F R SL SH k se) 7 = 0 then -9 else lkB (lkF (fun l => mxM (bN (spP F R SL SH k se) 7) (Hq F R l k) 7) n), c') ∧ cE c c' := by
  have hn := hV.2.2.1
  unfold jm_X7_limbToLookAt
  obtain ⟨c1, q1, E1⟩ := q_suspected hV hR hA hS hN
  rw [q1, bd_s, bitsF_N _ 7 (by omega)]
  have hv : bN (spP F R SL SH k se) 7 < 128 := bN_lt _ 7
  generalize bN (spP F R SL SH k se) 7 = v at hv
  by_cases h0 : v = 0
  · rw [if_pos (show nI v = 0 by rw [h0]; rfl), if_pos h0]
    exact ⟨c1, rfl, E1⟩
  · rw [if_neg (nI_ne0 (by omega) (by omega)), if_neg h0]
    have hml : ∀ l, (fun l => mxM v (Hq F R l k) 7) l ≤ 7 := fun l => mxM_le v _ 7
    refine ex_el (iter_inv (f := fun q => jm_X7_limbToLookAt_L25 N 17 38 (nI v) q.1 q.2.1 q.2.2.1 q.2.2.2) (fun l q => q.1 = lkA (lkF (fun l => mxM v (Hq F R l k) 7) l) 8 ∧ q.2.1 = lkB (lkF (fun l => mxM v (Hq F R l k) 7) l) ∧ q.2.2.1 = nI l ∧ cE c q.2.2.2) (fun r => r.1 = lkB (lkF (fun l => mxM v (Hq F R l k) 7) n) ∧ cE c r.2) n (fun l s hl hI => ?_) (fun s hI => ?_) (N := N) (by omega) (s0 := (8, -9, 0, c1)) ⟨rfl, rfl, rfl, E1⟩) (fun r h1 h2 => ?_)
    · obtain ⟨w5, w6, w7, st⟩ := s
      obtain ⟨i1, i2, i3, i4⟩ := hI
      have i1 : w5 = lkA (lkF (fun l => mxM v (Hq F R l k) 7) l) 8 := i1
      have i2 : w6 = lkB (lkF (fun l => mxM v (Hq F R l k) 7) l) := i2
      have i3 : w7 = nI l := i3
      have i4 : cE c st := i4
      subst i1 i2 i3
      obtain ⟨s1, p1, E2⟩ := q_mostLeft (N := N) (v := v) (cV_E hV i4) (by rw [i4.1 39 (by decide)]; exact hR) hA hl hv hN
      have E2' := cE_t i4 E2
      have hx := hml l
      show ∃ s', jm_X7_limbToLookAt_L25 N 17 38 (nI v) (lkA (lkF (fun l => mxM v (Hq F R l k) 7) l) 8) (lkB (lkF (fun l => mxM v (Hq F R l k) 7) l)) (nI l) st = some (.inl s') ∧ _
      unfold jm_X7_limbToLookAt_L25
      rw [(cV_E hV i4).1, if_neg (nle hl (by omega)), p1, bd_s, nI_1]
      have hx' : mxM v (Hq F R l k) 7 ≤ 7 := hx
      cases hb : lkF (fun l => mxM v (Hq F R l k) 7) l with
      | none =>
        rw [if_neg (show ¬ lkA none 8 ≤ nI (mxM v (Hq F R l k) 7) from nle (a := 8) (by omega) (by omega))]
        refine ⟨_, rfl, ?_, ?_, rfl, E2'⟩
        · show _ = lkA (lkF _ (l + 1)) 8
          rw [lkF, hb]; rfl
        · show _ = lkB (lkF _ (l + 1))
          rw [lkF, hb]; rfl
      | some q =>
        have hq := lkF_inv hml l q hb
        by_cases z : q.1 ≤ mxM v (Hq F R l k) 7
        · rw [if_pos (show lkA (some q) 8 ≤ nI (mxM v (Hq F R l k) 7) from yle z (by omega))]
          refine ⟨_, rfl, ?_, ?_, rfl, E2'⟩
          · show _ = lkA (lkF _ (l + 1)) 8
            rw [lkF, hb]; simp [z]
          · show _ = lkB (lkF _ (l + 1))
            rw [lkF, hb]; simp [z]
        · rw [if_neg (show ¬ lkA (some q) 8 ≤ nI (mxM v (Hq F R l k) 7) from nle (by omega) (by omega))]
          refine ⟨_, rfl, ?_, ?_, rfl, E2'⟩
          · show _ = lkA (lkF _ (l + 1)) 8
            rw [lkF, hb]; simp [z, lkA]
          · show _ = lkB (lkF _ (l + 1))
            rw [lkF, hb]; simp [z, lkB]
    · obtain ⟨w5, w6, w7, st⟩ := s
      obtain ⟨i1, i2, i3, i4⟩ := hI
      have i2 : w6 = lkB (lkF (fun l => mxM v (Hq F R l k) 7) n) := i2
      have i3 : w7 = nI n := i3
      have i4 : cE c st := i4
      subst i2 i3
      refine ⟨(lkB (lkF (fun l => mxM v (Hq F R l k) 7) n), st), ?_, rfl, i4⟩
      show jm_X7_limbToLookAt_L25 N 17 38 (nI v) w5 (lkB (lkF (fun l => mxM v (Hq F R l k) 7) n)) (nI n) st = _
      unfold jm_X7_limbToLookAt_L25
      rw [(cV_E hV i4).1, if_pos (yle (Nat.le_refl n) (by omega))]
    · exact ⟨r.2, by rw [h1, ← h2.1], h2.2⟩
theorem q_look9 {N n k se : Nat} {m : PS} {F R SL SH : Nat → Int32} (hV : mV m n k F) (hR : rV (m.1 13) R) (hA : aN n k R) (hS : mS m se n SL SH) (hN : 2000 ≤ N) : ∃ m', jm_X9_look N m = some (if bN (spP F R SL SH k se) 7 = 0 then -9 else lkB (lkF (fun l => mxM (bN (spP F R SL SH k se) 7) (Hq F R l k) 7) n), m') ∧ mE m m' := by
  have hn := hV.2.2.1
  unfold jm_X9_look
  obtain ⟨c1, q1, E1⟩ := q_suspected9 hV hR hA hS hN
  rw [q1, bd_s, bitsF_N _ 7 (by omega)]
  have hv : bN (spP F R SL SH k se) 7 < 128 := bN_lt _ 7
  generalize bN (spP F R SL SH k se) 7 = v at hv
  by_cases h0 : v = 0
  · rw [if_pos h0]
    refine ⟨c1, iter_for (fun _ => ((-9 : Int32), (1000000 : Int32), (0 : Int32), c1)) 0 (fun i hi => absurd hi (by omega)) ?_ (by omega), E1⟩
    show jm_X9_look_L15 N (nI v) (-9) 1000000 0 c1 = _
    unfold jm_X9_look_L15
    rw [if_pos (show nI v = 0 by rw [h0]; rfl)]
    split <;> rfl
  · rw [if_neg h0]
    have hml : ∀ l, (fun l => mxM v (Hq F R l k) 7) l ≤ 7 := fun l => mxM_le v _ 7
    refine ex_el (iter_inv (f := fun q => jm_X9_look_L15 N (nI v) q.1 q.2.1 q.2.2.1 q.2.2.2) (fun l q => q.1 = lkB (lkF (fun l => mxM v (Hq F R l k) 7) l) ∧ q.2.1 = lkA (lkF (fun l => mxM v (Hq F R l k) 7) l) 1000000 ∧ q.2.2.1 = nI l ∧ mE m q.2.2.2) (fun r => r.1 = lkB (lkF (fun l => mxM v (Hq F R l k) 7) n) ∧ mE m r.2) n (fun l s hl hI => ?_) (fun s hI => ?_) (N := N) (by omega) (s0 := (-9, 1000000, 0, c1)) ⟨rfl, rfl, rfl, E1⟩) (fun r h1 h2 => ?_)
    · obtain ⟨w4, w5, w6, st⟩ := s
      obtain ⟨i1, i2, i3, i4⟩ := hI
      have i1 : w4 = lkB (lkF (fun l => mxM v (Hq F R l k) 7) l) := i1
      have i2 : w5 = lkA (lkF (fun l => mxM v (Hq F R l k) 7) l) 1000000 := i2
      have i3 : w6 = nI l := i3
      have i4 : mE m st := i4
      subst i1 i2 i3
      obtain ⟨s1, p1, E2⟩ := q_alike (N := N) (v := v) (mV_E hV i4) (by rw [i4.1 13 (by decide)]; exact hR) hA hl hv hN
      have E2' := mE_t i4 E2
      have hx' : mxM v (Hq F R l k) 7 ≤ 7 := hml l
      show ∃ s', jm_X9_look_L15 N (nI v) (lkB (lkF (fun l => mxM v (Hq F R l k) 7) l)) (lkA (lkF (fun l => mxM v (Hq F R l k) 7) l) 1000000) (nI l) st = some (.inl s') ∧ _
      unfold jm_X9_look_L15
      rw [(mV_E hV i4).1, if_neg (nle hl (by omega)), if_neg (nI_ne0 (by omega) (by omega)), p1, bd_s, nI_1]
      cases hb : lkF (fun l => mxM v (Hq F R l k) 7) l with
      | none =>
        have hno : ¬ lkA none 1000000 ≤ nI (mxM v (Hq F R l k) 7) := nI_ge (a := mxM v (Hq F R l k) 7) (b := 1000000) (by omega) (by omega)
        rw [if_neg hno, if_neg hno]
        refine ⟨_, rfl, ?_, ?_, rfl, E2'⟩
        · show _ = lkB (lkF _ (l + 1))
          rw [lkF, hb]; rfl
        · show _ = lkA (lkF _ (l + 1)) 1000000
          rw [lkF, hb]; rfl
      | some q =>
        have hq := lkF_inv hml l q hb
        by_cases z : q.1 ≤ mxM v (Hq F R l k) 7
        · have hy : lkA (some q) 1000000 ≤ nI (mxM v (Hq F R l k) 7) := yle z (by omega)
          rw [if_pos hy, if_pos hy]
          refine ⟨_, rfl, ?_, ?_, rfl, E2'⟩
          · show _ = lkB (lkF _ (l + 1))
            rw [lkF, hb]; simp [z]
          · show _ = lkA (lkF _ (l + 1)) 1000000
            rw [lkF, hb]; simp [z]
        · have hno : ¬ lkA (some q) 1000000 ≤ nI (mxM v (Hq F R l k) 7) := nle (by omega) (by omega)
          rw [if_neg hno, if_neg hno]
          refine ⟨_, rfl, ?_, ?_, rfl, E2'⟩
          · show _ = lkB (lkF _ (l + 1))
            rw [lkF, hb]; simp [z, lkB]
          · show _ = lkA (lkF _ (l + 1)) 1000000
            rw [lkF, hb]; simp [z, lkA]
    · obtain ⟨w4, w5, w6, st⟩ := s
      obtain ⟨i1, i2, i3, i4⟩ := hI
      have i1 : w4 = lkB (lkF (fun l => mxM v (Hq F R l k) 7) n) := i1
      have i3 : w6 = nI n := i3
      have i4 : mE m st := i4
      subst i1 i3
      refine ⟨(lkB (lkF (fun l => mxM v (Hq F R l k) 7) n), st), ?_, rfl, i4⟩
      show jm_X9_look_L15 N (nI v) (lkB (lkF (fun l => mxM v (Hq F R l k) 7) n)) w5 (nI n) st = _
      unfold jm_X9_look_L15
      rw [(mV_E hV i4).1, if_pos (yle (Nat.le_refl n) (by omega))]
    · exact ⟨r.2, by rw [h1, ← h2.1], h2.2⟩
