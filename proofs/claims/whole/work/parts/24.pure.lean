/-! PURE: scratch cells; NEED and FELL -/
def cE (c c' : PS) : Prop := (∀ a, a ∉ ([6, 7, 8, 12, 14, 16] : List Nat) → c'.1 a = c.1 a) ∧ c'.2 = c.2
def mE (c c' : PS) : Prop := (∀ a, a ∉ ([14, 16] : List Nat) → c'.1 a = c.1 a) ∧ c'.2 = c.2
theorem cE_r (c : PS) : cE c c := ⟨fun _ _ => rfl, rfl⟩
theorem mE_r (c : PS) : mE c c := ⟨fun _ _ => rfl, rfl⟩
theorem cE_t {a b c : PS} (h1 : cE a b) (h2 : cE b c) : cE a c := ⟨fun x hx => (h2.1 x hx).trans (h1.1 x hx), h2.2.trans h1.2⟩
theorem mE_t {a b c : PS} (h1 : mE a b) (h2 : mE b c) : mE a c := ⟨fun x hx => (h2.1 x hx).trans (h1.1 x hx), h2.2.trans h1.2⟩
theorem cE_C {c : PS} {k : Nat} (g : Nat → Int32) (hk : k ∈ ([6, 7, 8, 12, 14, 16] : List Nat)) : cE c (pC c k g) := ⟨fun a ha => pC_n (fun e => ha (e ▸ hk)), rfl⟩
theorem mE_C {c : PS} {k : Nat} (g : Nat → Int32) (hk : k ∈ ([14, 16] : List Nat)) : mE c (pC c k g) := ⟨fun a ha => pC_n (fun e => ha (e ▸ hk)), rfl⟩
theorem cE_U {c : PS} {k : Nat} (j : Nat) (v : Int32) (hk : k ∈ ([6, 7, 8, 12, 14, 16] : List Nat)) : cE c (pU c k j v) := cE_C _ hk
theorem mE_U {c : PS} {k : Nat} (j : Nat) (v : Int32) (hk : k ∈ ([14, 16] : List Nat)) : mE c (pU c k j v) := mE_C _ hk
theorem cV_E {c c' : PS} {n k : Nat} {F : Nat → Int32} (h : cV c 17 n k F) (e : cE c c') : cV c' 17 n k F := by
  obtain ⟨h1, h2, h3, h4, h5⟩ := h
  have e1 := e.1 17 (by decide)
  have e2 := e.1 (17 + 7) (by decide)
  exact ⟨by rw [e1]; exact h1, by rw [e1]; exact h2, h3, h4, fun a ha l hl => by rw [e2]; exact h5 a ha l hl⟩
theorem mV_E {c c' : PS} {n k : Nat} {F : Nat → Int32} (h : mV c n k F) (e : mE c c') : mV c' n k F := by
  obtain ⟨h1, h2, h3, h4, h5⟩ := h
  have e1 := e.1 0 (by decide)
  have e2 := e.1 12 (by decide)
  exact ⟨by rw [e1]; exact h1, by rw [e1]; exact h2, h3, h4, fun a ha l hl => by rw [e2]; exact h5 a ha l hl⟩
theorem rV_cpy {f g R : Nat → Int32} (h : rV f R) : rV (va_cpy f g ((0 : Int32)).toNatClampNeg ((0 : Int32)).toNatClampNeg ((21 : Int32)).toNatClampNeg) R := by
  intro j hj
  rw [show ((0 : Int32)).toNatClampNeg = 0 from rfl, show ((21 : Int32)).toNatClampNeg = 21 from rfl, pk_cpy_in (by omega) (by omega)]
  rw [show 0 + (j - 0) = j by omega]
  exact h j hj
theorem rV_upd {f R : Nat → Int32} {j : Nat} {v : Int32} (h : ∀ i, i < 21 → i ≠ j → f i = R i) : rV (upd f j v) (upd R j v) := by
  intro i hi
  by_cases e : i = j
  · subst e; rw [pk_us, pk_us]
  · rw [pk_un e, pk_un e]; exact h i hi e
theorem rV_ne {f R : Nat → Int32} (h : rV f R) (j : Nat) : ∀ i, i < 21 → i ≠ j → f i = R i := fun i hi _ => h i hi
theorem aN_upd {n k j : Nat} {R : Nat → Int32} {v : Int32} (h : aN n k R) (hj : j < 3 ∨ 3 + k ≤ j) : aN n k (upd R j v) := fun s hs => by
  obtain ⟨a, ha, e⟩ := h s hs
  exact ⟨a, ha, by rw [pk_un (by omega)]; exact e⟩
/-- the reference copies its row -/
theorem q_copyNow {N : Nat} {m : PS} {R : Nat → Int32} (hR : rV (m.1 13) R) (hN : 2000 ≤ N) : ∃ m', jm_X9_copyNow N m = some ((), m') ∧ mE m m' ∧ rV (m'.1 14) R := by
  unfold jm_X9_copyNow
  refine ex_el (iter_inv (f := fun q => jm_X9_copyNow_L2 N q.1 q.2) (fun i q => q.1 = nI i ∧ mE m q.2 ∧ ∀ j, j < i → q.2.1 14 j = R j) (fun r => mE m r.2 ∧ rV (r.2.1 14) R) 21 (fun i s hi hI => ?_) (fun s hI => ?_) (N := N) (by omega) (s0 := (0, m)) ⟨rfl, mE_r m, fun j hj => absurd hj (by omega)⟩) (fun r h1 h2 => ?_)
  · obtain ⟨w, st⟩ := s
    obtain ⟨e1, e2, e3⟩ := hI
    have e1 : w = nI i := e1
    subst e1
    have e2 : mE m st := e2
    refine ⟨(nI (i + 1), pU st 14 i (st.1 13 i)), ?_, rfl, mE_t e2 (mE_U _ _ (by decide)), fun j hj => ?_⟩
    · show jm_X9_copyNow_L2 N (nI i) st = _
      unfold jm_X9_copyNow_L2
      rw [if_neg (show ¬ (21 : Int32) ≤ nI i from nle (a := 21) hi (by omega)), inB_nI (show i < 21 by omega) (by omega), gd_t, gd_t, nm_d, cl (by omega), nI_1]
    · show (pU st 14 i (st.1 13 i)).1 14 j = R j
      rw [pU_1]
      by_cases e : j = i
      · subst e; rw [pk_us, e2.1 13 (by decide)]; exact hR j (by omega)
      · rw [pk_un e]; exact e3 j (by omega)
  · obtain ⟨w, st⟩ := s
    obtain ⟨e1, e2, e3⟩ := hI
    have e1 : w = nI 21 := e1
    subst e1
    refine ⟨((), st), ?_, e2, e3⟩
    show jm_X9_copyNow_L2 N (nI 21) st = _
    unfold jm_X9_copyNow_L2
    rw [if_pos (show (21 : Int32) ≤ nI 21 from Int32.le_refl _)]
  · exact ⟨r.2, by rw [h1], h2⟩
def Rn (k : Nat) (R : Nat → Int32) (s : Nat) : Nat → Int32 := upd R 2 (nI (2 ^ k - 1) &&& (nI s ^^^ (-1)))
def ndQ (F R : Nat → Int32) (n k h s : Nat) : Bool := decide (s &&& h = s) && allB (haP F R (Rn k R s) k) n
theorem ndQ_pop {F R : Nat → Int32} {n k h : Nat} (hh : h < 64) : ∀ s, s < h → ndQ F R n k h s = true → pop s < pop h := fun s hs q => by
  unfold ndQ at q
  rw [Bool.and_eq_true] at q
  exact pop_sub_all ⟨s, by omega⟩ ⟨h, hh⟩ (of_decide_eq_true q.1) hs
theorem bu_le (Q : Nat → Bool) (h : Nat) : ∀ i, i ≤ h → bu Q h i ≤ h
  | 0, _ => Nat.le_refl h
  | i + 1, hi => by
    rw [bu]
    split
    · omega
    · exact bu_le Q h i (by omega)
theorem bw_le (Q : Nat → Bool) (h : Nat) : ∀ j, bw Q h j ≤ h
  | 0 => Nat.le_refl h
  | j + 1 => by
    rw [bw]
    split
    · omega
    · exact bw_le Q h j
theorem pops {a : Nat} : pop a < 100000 := by have := pop_le a; omega
theorem q_needed {N n k cu : Nat} {c : PS} {F R : Nat → Int32} (hV : cV c 17 n k F) (hR : rV (c.1 39) R) (hA : aN n k R) (hc : R 2 = nI cu) (hcu : cu < 64) (hN : 2000 ≤ N) : ∃ c', jm_X8_needed N c = some (nI (bu (ndQ F R n k (hld k cu)) (hld k cu) (hld k cu)), c') ∧ cE c c' := by
  have hk := hV.2.2.2.1
  have hh : hld k cu < 64 := Nat.lt_of_lt_of_le (hld_lt hk) (pow6 hk)
  have e0 : ((1 : Int32) <<< (nI k &&& 31)) - 1 = nI (2 ^ k - 1) := all_all ⟨k, by omega⟩
  have e1 : nI (2 ^ k - 1) &&& (nI cu ^^^ (-1)) = nI (hld k cu) := hld_all ⟨k, by omega⟩ ⟨cu, hcu⟩
  unfold jm_X8_needed jm_X4_cut jm_X4_copyFrom
  rw [hV.2.1, e0, nm_d, bd_s, nm_d, bd_s, nm_d, show (38 + 1 : Nat) = 39 from rfl, show (15 + 1 : Nat) = 16 from rfl, hR 2 (by omega), hc, e1]
  generalize hld k cu = h at hh
  generalize hc1 : pC c 16 (va_cpy (c.1 39) (c.1 16) ((0 : Int32)).toNatClampNeg ((0 : Int32)).toNatClampNeg ((21 : Int32)).toNatClampNeg) = c1
  have E1 : cE c c1 := by rw [← hc1]; exact cE_C _ (by decide)
  have V1 : rV (c1.1 16) R := by rw [← hc1, pC_1]; exact rV_cpy hR
  refine ex_el (iter_inv (f := fun q => jm_X8_needed_L46 N (nI (2 ^ k - 1)) (nI h) q.1 q.2.1 q.2.2) (fun i q => q.1 = nI (bu (ndQ F R n k h) h i) ∧ q.2.1 = nI i ∧ cE c q.2.2 ∧ ∀ j, j < 21 → j ≠ 2 → q.2.2.1 16 j = R j) (fun r => r.1 = nI (bu (ndQ F R n k h) h h) ∧ cE c r.2) h (fun i s hi hI => ?_) (fun s hI => ?_) (N := N) (by omega) (s0 := (nI h, 0, c1)) ⟨rfl, rfl, E1, rV_ne V1 2⟩) (fun r h1 h2 => ?_)
  · obtain ⟨w8, w9, st⟩ := s
    obtain ⟨i1, i2, i3, i4⟩ := hI
    have i1 : w8 = nI (bu (ndQ F R n k h) h i) := i1
    have i2 : w9 = nI i := i2
    have i3 : cE c st := i3
    have i4 : ∀ j, j < 21 → j ≠ 2 → st.1 16 j = R j := i4
    subst i1 i2
    have hb := bu_le (ndQ F R n k h) h i (by omega)
    show ∃ s', jm_X8_needed_L46 N (nI (2 ^ k - 1)) (nI h) (nI (bu (ndQ F R n k h) h i)) (nI i) st = some (.inl s') ∧ _
    unfold jm_X8_needed_L46
    rw [if_neg (nle hi (by omega))]
    by_cases hs : i &&& h = i
    · rw [if_pos ((sub_all ⟨i, by omega⟩ ⟨h, hh⟩).mpr hs), q_bitCount (by omega), bd_s, q_bitCount (by omega), bd_s, nI_1]
      by_cases hp : pop (bu (ndQ F R n k h) h i) ≤ pop i
      · rw [if_pos (yle hp pops)]
        refine ⟨_, rfl, ?_, rfl, i3, i4⟩
        show nI _ = nI (bu (ndQ F R n k h) h (i + 1))
        rw [bu, if_neg (fun z => by have := z.2; omega)]
      · rw [if_neg (nle (by omega) pops)]
        unfold jm_X4_setCut
        rw [nm_d, bd_s, show (15 + 1 : Nat) = 16 from rfl]
        generalize hs2 : pU st 16 2 (nI (2 ^ k - 1) &&& (nI i ^^^ (-1))) = st2
        have E2 : cE c st2 := by rw [← hs2]; exact cE_t i3 (cE_U _ _ (by decide))
        have V2 : rV (st2.1 (15 + 1)) (Rn k R i) := by rw [← hs2]; show rV ((pU st 16 2 _).1 16) _; rw [pU_1]; exact rV_upd i4
        have V3 : rV (st2.1 (38 + 1)) R := by rw [E2.1 39 (by decide)]; exact hR
        have hA2 : aN n k (Rn k R i) := aN_upd hA (Or.inl (by omega))
        rw [q_hangsAlike (cV_E hV E2) V3 V2 hA hA2 hN, bd_s]
        have V4 : ∀ j, j < 21 → j ≠ 2 → st2.1 16 j = R j := fun j hj hj2 => by rw [← hs2, pU_1, pk_un hj2]; exact i4 j hj hj2
        by_cases ha : allB (haP F R (Rn k R i) k) n = true
        · rw [if_pos ha, if_neg (by decide)]
          refine ⟨_, rfl, ?_, rfl, E2, V4⟩
          show nI i = nI (bu (ndQ F R n k h) h (i + 1))
          rw [bu, if_pos ⟨by unfold ndQ; rw [ha, decide_eq_true hs]; rfl, by omega⟩]
        · rw [if_neg ha, if_pos rfl]
          refine ⟨_, rfl, ?_, rfl, E2, V4⟩
          show nI _ = nI (bu (ndQ F R n k h) h (i + 1))
          rw [bu, if_neg (fun z => ha (by have := z.1; unfold ndQ at this; rw [Bool.and_eq_true] at this; exact this.2))]
    · rw [if_neg (fun z => hs ((sub_all ⟨i, by omega⟩ ⟨h, hh⟩).mp z)), nI_1]
      refine ⟨_, rfl, ?_, rfl, i3, i4⟩
      show nI _ = nI (bu (ndQ F R n k h) h (i + 1))
      rw [bu, if_neg (fun z => hs (by have := z.1; unfold ndQ at this; rw [Bool.and_eq_true] at this; exact of_decide_eq_true this.1))]
  · obtain ⟨w8, w9, st⟩ := s
    obtain ⟨i1, i2, i3, i4⟩ := hI
    have i1 : w8 = nI (bu (ndQ F R n k h) h h) := i1
    have i2 : w9 = nI h := i2
    subst i1 i2
    refine ⟨(nI (bu (ndQ F R n k h) h h), st), ?_, rfl, i3⟩
    show jm_X8_needed_L46 N (nI (2 ^ k - 1)) (nI h) (nI (bu (ndQ F R n k h) h h)) (nI h) st = _
    unfold jm_X8_needed_L46
    rw [if_pos (Int32.le_refl _)]
  · exact ⟨r.2, by rw [h1, ← h2.1], h2.2⟩
theorem q_allStrings {N n k : Nat} {m : PS} {F : Nat → Int32} (hV : mV m n k F) : jm_X9_allStrings N m = some (nI (2 ^ k - 1), m) := by
  have hk := hV.2.2.2.1
  have e0 : ((1 : Int32) <<< (nI k &&& 31)) - 1 = nI (2 ^ k - 1) := all_all ⟨k, by omega⟩
  unfold jm_X9_allStrings
  rw [hV.2.1, e0]
theorem q_need {N n k cu : Nat} {m : PS} {F R : Nat → Int32} (hV : mV m n k F) (hR : rV (m.1 13) R) (hA : aN n k R) (hc : R 2 = nI cu) (hcu : cu < 64) (hN : 2000 ≤ N) : ∃ m', jm_X9_need N m = some (nI (bw (ndQ F R n k (hld k cu)) (hld k cu) (hld k cu + 1)), m') ∧ mE m m' := by
  have hk := hV.2.2.2.1
  have hh : hld k cu < 64 := Nat.lt_of_lt_of_le (hld_lt hk) (pow6 hk)
  have e1 : nI (2 ^ k - 1) &&& (nI cu ^^^ (-1)) = nI (hld k cu) := hld_all ⟨k, by omega⟩ ⟨cu, hcu⟩
  unfold jm_X9_need
  obtain ⟨m1, hm1, E1, V1⟩ := q_copyNow hR hN
  rw [q_allStrings hV, bd_s, hm1, bd_s, nm_d, hR 2 (by omega), hc, e1]
  generalize hld k cu = h at hh
  refine ex_el (iter_inv (f := fun q => jm_X9_need_L22 N (nI h) q.1 q.2.1 q.2.2) (fun j q => q.1 = nI (bw (ndQ F R n k h) h j) ∧ q.2.1 = cd (h + 1) j ∧ mE m q.2.2 ∧ ∀ j, j < 21 → j ≠ 2 → q.2.2.1 14 j = R j) (fun r => r.1 = nI (bw (ndQ F R n k h) h (h + 1)) ∧ mE m r.2) (h + 1) (fun j s hj hI => ?_) (fun s hI => ?_) (N := N) (by omega) (s0 := (nI h, nI h, m1)) ⟨rfl, by rw [cd_in (by omega)]; rfl, E1, rV_ne V1 2⟩) (fun r h1 h2 => ?_)
  · obtain ⟨w8, w9, st⟩ := s
    obtain ⟨i1, i2, i3, i4⟩ := hI
    have i1 : w8 = nI (bw (ndQ F R n k h) h j) := i1
    have i2 : w9 = cd (h + 1) j := i2
    have i3 : mE m st := i3
    have i4 : ∀ j, j < 21 → j ≠ 2 → st.1 14 j = R j := i4
    subst i1 i2
    have hb := bw_le (ndQ F R n k h) h j
    show ∃ s', jm_X9_need_L22 N (nI h) (nI (bw (ndQ F R n k h) h j)) (cd (h + 1) j) st = some (.inl s') ∧ _
    unfold jm_X9_need_L22
    rw [if_neg (cd_nn hj (by omega)), q_allStrings (mV_E hV i3), bd_s, nm_d, cd_s hj, cd_in hj, show h + 1 - 1 - j = h - j by omega]
    have hs2 : ∃ st2, st2 = pU st 14 2 (nI (2 ^ k - 1) &&& (nI (h - j) ^^^ (-1))) := ⟨_, rfl⟩
    obtain ⟨st2, hs2⟩ := hs2
    rw [← hs2]
    have E2 : mE m st2 := by rw [hs2]; exact mE_t i3 (mE_U _ _ (by decide))
    have V2 : rV (st2.1 14) (Rn k R (h - j)) := by rw [hs2, pU_1]; exact rV_upd i4
    have V3 : rV (st2.1 13) R := by rw [E2.1 13 (by decide)]; exact hR
    have hA2 : aN n k (Rn k R (h - j)) := aN_upd hA (Or.inl (by omega))
    have V4 : ∀ j, j < 21 → j ≠ 2 → st2.1 14 j = R j := fun j hj hj2 => by rw [hs2, pU_1, pk_un hj2]; exact i4 j hj hj2
    by_cases hs : (h - j) &&& h = h - j
    · rw [if_pos ((sub_all ⟨h - j, by omega⟩ ⟨h, hh⟩).mpr hs), q_bits (by omega) hN, bd_s, q_bits (by omega) hN, bd_s]
      by_cases hp : pop (bw (ndQ F R n k h) h j) < pop (h - j)
      · rw [if_pos (nI_lt hp (by have := pops (a := h - j); omega))]
        refine ⟨_, rfl, ?_, rfl, E2, V4⟩
        show nI _ = nI (bw (ndQ F R n k h) h (j + 1))
        rw [bw, if_neg (fun z => by have := z.2; omega)]
      · rw [if_neg (nI_nlt (by omega) (by have := pops (a := bw (ndQ F R n k h) h j); omega)), q_isAsHigh (mV_E hV E2) V3 V2 hA hA2 hN, bd_s]
        by_cases ha : allB (haP F R (Rn k R (h - j)) k) n = true
        · rw [ha, if_neg (by decide)]
          refine ⟨_, rfl, ?_, rfl, E2, V4⟩
          show nI (h - j) = nI (bw (ndQ F R n k h) h (j + 1))
          rw [bw, if_pos ⟨by unfold ndQ; rw [ha, decide_eq_true hs]; rfl, by omega⟩]
        · have ha' : allB (haP F R (Rn k R (h - j)) k) n = false := by simpa using ha
          rw [ha', if_pos (by decide)]
          refine ⟨_, rfl, ?_, rfl, E2, V4⟩
          show nI _ = nI (bw (ndQ F R n k h) h (j + 1))
          rw [bw, if_neg (fun z => ha (by have := z.1; unfold ndQ at this; rw [Bool.and_eq_true] at this; exact this.2))]
    · rw [if_neg (fun z => hs ((sub_all ⟨h - j, by omega⟩ ⟨h, hh⟩).mp z))]
      refine ⟨_, rfl, ?_, rfl, E2, V4⟩
      show nI _ = nI (bw (ndQ F R n k h) h (j + 1))
      rw [bw, if_neg (fun z => hs (by have := z.1; unfold ndQ at this; rw [Bool.and_eq_true] at this; exact of_decide_eq_true this.1))]
  · obtain ⟨w8, w9, st⟩ := s
    obtain ⟨i1, i2, i3, i4⟩ := hI
    have i1 : w8 = nI (bw (ndQ F R n k h) h (h + 1)) := i1
    have i2 : w9 = cd (h + 1) (h + 1) := i2
    subst i1 i2
    refine ⟨(nI (bw (ndQ F R n k h) h (h + 1)), st), ?_, rfl, i3⟩
    show jm_X9_need_L22 N (nI h) (nI (bw (ndQ F R n k h) h (h + 1))) (cd (h + 1) (h + 1)) st = _
    unfold jm_X9_need_L22
    rw [if_pos (cd_end _)]
  · exact ⟨r.2, by rw [h1, ← h2.1], h2.2⟩
