/-! PURE: SUSPECTS, HOLES, LOOK -/
theorem bitsF_t {P : Nat → Bool} {l : Nat} (h : P l = true) : bitsF P (l + 1) = bitsF P l ||| bit1 l := by rw [bitsF, if_pos h]
theorem bitsF_f {P : Nat → Bool} {l : Nat} (h : P l = false) : bitsF P (l + 1) = bitsF P l := by rw [bitsF, if_neg (by simp [h])]
theorem zB_if {α : Type} (b : Bool) (x y : α) : (if zB b = 0 then x else y) = if b = true then y else x := by cases b <;> rfl
theorem q_suspected {N n k se : Nat} {c : PS} {F R SL SH : Nat → Int32} (hV : cV c 17 n k F) (hR : rV (c.1 39) R) (hA : aN n k R) (hS : cS c se n SL SH) (hN : 2000 ≤ N) : ∃ c', jm_X7_suspected N 17 38 c = some (bitsF (spP F R SL SH k se) 7, c') ∧ cE c c' := by
  have hk := hV.2.2.2.1
  unfold jm_X7_suspected
  refine ex_el (iter_inv (f := fun q => jm_X7_suspected_L5 N 17 38 q.1 q.2.1 q.2.2) (fun g q => q.1 = bitsF (spP F R SL SH k se) g ∧ q.2.1 = nI g ∧ cE c q.2.2) (fun r => r.1 = bitsF (spP F R SL SH k se) 7 ∧ cE c r.2) 7 (fun g s hg7 hI => ?_) (fun s hI => ?_) (N := N) (by omega) (s0 := (0, 0, c)) ⟨rfl, rfl, cE_r c⟩) (fun r h1 h2 => ?_)
  · obtain ⟨w2, w3, st⟩ := s
    obtain ⟨i1, i2, i3⟩ := hI
    have i1 : w2 = bitsF (spP F R SL SH k se) g := i1
    have i2 : w3 = nI g := i2
    have i3 : cE c st := i3
    subst i1 i2
    have R39 : rV (st.1 39) R := by rw [i3.1 39 (by decide)]; exact hR
    obtain ⟨s1, q1, E1, V1⟩ := q_tryGuess (N := N) R39 (show g ≤ 6 by omega)
    have E1' := cE_t i3 E1
    have q2 := q_allIsSo (N := N) (p := 13) (cV_E hV E1') V1 (aN_Rg hA) (cS_E hS E1') hN
    show ∃ s', jm_X7_suspected_L5 N 17 38 (bitsF (spP F R SL SH k se) g) (nI g) st = some (.inl s') ∧ _
    unfold jm_X7_suspected_L5
    rw [if_neg (show ¬ (7 : Int32) ≤ nI g from nle (a := 7) hg7 (by omega)), nI_1]
    by_cases h6 : g = 6
    · subst h6
      rw [if_pos (show nI 6 = 6 from rfl), q1, bd_s, q2, bd_s, zB_if]
      cases ha : allB (soP F (Rg R 6) SL SH k) se
      · refine ⟨_, rfl, ?_, rfl, E1'⟩
        show bitsF (spP F R SL SH k se) 6 = bitsF (spP F R SL SH k se) (6 + 1)
        exact (bitsF_f (by unfold spP; rw [ha]; simp)).symm
      · refine ⟨_, rfl, ?_, rfl, E1'⟩
        show bitsF (spP F R SL SH k se) 6 ||| _ = bitsF (spP F R SL SH k se) (6 + 1)
        exact (bitsF_t (by unfold spP; rw [ha]; simp)).symm
    · rw [if_neg (show ¬ nI g = 6 from fun z => h6 ((nI_eq (a := g) (b := 6) (by omega) (by omega)).mp z)), (cV_E hV i3).2.1]
      by_cases hgk : k ≤ g
      · rw [if_pos (yle hgk (by omega)), q1, bd_s]
        refine ⟨_, rfl, ?_, rfl, E1'⟩
        show bitsF (spP F R SL SH k se) g = bitsF (spP F R SL SH k se) (g + 1)
        exact (bitsF_f (by unfold spP; rw [decide_eq_false (fun z => z.elim h6 (fun z => by omega))]; simp)).symm
      · rw [if_neg (nle (by omega) (by omega)), q_isCut (p := 38) R39, bd_s, q1, bd_s, bd_s, q2, bd_s, zB_if]
        by_cases hc : cutP R g
        · rw [if_pos hc, if_neg (by decide)]
          refine ⟨_, rfl, ?_, rfl, E1'⟩
          show bitsF (spP F R SL SH k se) g = bitsF (spP F R SL SH k se) (g + 1)
          exact (bitsF_f (by unfold spP; rw [decide_eq_false (fun z => z.elim h6 (fun z => z.2 hc))]; simp)).symm
        · have hd : decide (g = 6 ∨ (g < k ∧ ¬ cutP R g)) = true := decide_eq_true (Or.inr ⟨by omega, hc⟩)
          rw [if_neg hc, if_pos rfl]
          cases ha : allB (soP F (Rg R g) SL SH k) se
          · refine ⟨_, rfl, ?_, rfl, E1'⟩
            show bitsF (spP F R SL SH k se) g = bitsF (spP F R SL SH k se) (g + 1)
            exact (bitsF_f (by unfold spP; rw [ha]; simp)).symm
          · refine ⟨_, rfl, ?_, rfl, E1'⟩
            show bitsF (spP F R SL SH k se) g ||| _ = bitsF (spP F R SL SH k se) (g + 1)
            exact (bitsF_t (by unfold spP; rw [ha, hd]; rfl)).symm
  · obtain ⟨w2, w3, st⟩ := s
    obtain ⟨i1, i2, i3⟩ := hI
    have i1 : w2 = bitsF (spP F R SL SH k se) 7 := i1
    have i2 : w3 = nI 7 := i2
    subst i1 i2
    refine ⟨(bitsF (spP F R SL SH k se) 7, st), ?_, rfl, i3⟩
    show jm_X7_suspected_L5 N 17 38 (bitsF (spP F R SL SH k se) 7) (nI 7) st = _
    unfold jm_X7_suspected_L5
    rw [if_pos (show (7 : Int32) ≤ nI 7 from Int32.le_refl _)]
  · exact ⟨r.2, by rw [h1, ← h2.1], h2.2⟩
theorem q_suspected9 {N n k se : Nat} {m : PS} {F R SL SH : Nat → Int32} (hV : mV m n k F) (hR : rV (m.1 13) R) (hA : aN n k R) (hS : mS m se n SL SH) (hN : 2000 ≤ N) : ∃ m', jm_X9_suspected N m = some (bitsF (spP F R SL SH k se) 7, m') ∧ mE m m' := by
  have hk := hV.2.2.2.1
  unfold jm_X9_suspected
  refine ex_el (iter_inv (f := fun q => jm_X9_suspected_L4 N q.1 q.2.1 q.2.2) (fun g q => q.1 = bitsF (spP F R SL SH k se) g ∧ q.2.1 = nI g ∧ mE m q.2.2) (fun r => r.1 = bitsF (spP F R SL SH k se) 7 ∧ mE m r.2) 7 (fun g s hg7 hI => ?_) (fun s hI => ?_) (N := N) (by omega) (s0 := (0, 0, m)) ⟨rfl, rfl, mE_r m⟩) (fun r h1 h2 => ?_)
  · obtain ⟨w2, w3, st⟩ := s
    obtain ⟨i1, i2, i3⟩ := hI
    have i1 : w2 = bitsF (spP F R SL SH k se) g := i1
    have i2 : w3 = nI g := i2
    have i3 : mE m st := i3
    subst i1 i2
    have R13 : rV (st.1 13) R := by rw [i3.1 13 (by decide)]; exact hR
    obtain ⟨s1, q1, E1, V1⟩ := q_without (N := N) R13 (show g ≤ 6 by omega) hN
    have E1' := mE_t i3 E1
    have q2 := q_isSo (N := N) (r := 14) (mV_E hV E1') V1 (aN_Rg hA) (mS_E hS E1') hN
    have e2 : s1.1 13 2 = R 2 := by rw [E1'.1 13 (by decide)]; exact hR 2 (by omega)
    show ∃ s', jm_X9_suspected_L4 N (bitsF (spP F R SL SH k se) g) (nI g) st = some (.inl s') ∧ _
    unfold jm_X9_suspected_L4
    rw [if_neg (show ¬ (6 : Int32) < nI g from nI_nlt (a := 6) (by omega) (by omega)), nI_1, q1, bd_s, or_z]
    by_cases h6 : g = 6
    · subst h6
      rw [if_pos (show nI 6 = 6 from rfl), q2, bd_s, zB_if]
      cases ha : allB (soP F (Rg R 6) SL SH k) se
      · refine ⟨_, rfl, ?_, rfl, E1'⟩
        show bitsF (spP F R SL SH k se) 6 = bitsF (spP F R SL SH k se) (6 + 1)
        exact (bitsF_f (by unfold spP; rw [ha]; simp)).symm
      · refine ⟨_, rfl, ?_, rfl, E1'⟩
        show bitsF (spP F R SL SH k se) 6 ||| _ = bitsF (spP F R SL SH k se) (6 + 1)
        exact (bitsF_t (by unfold spP; rw [ha]; simp)).symm
    · rw [if_neg (show ¬ nI g = 6 from fun z => h6 ((nI_eq (a := g) (b := 6) (by omega) (by omega)).mp z)), (mV_E hV E1').2.1]
      by_cases hgk : k ≤ g
      · rw [if_pos (yle hgk (by omega))]
        refine ⟨_, rfl, ?_, rfl, E1'⟩
        show bitsF (spP F R SL SH k se) g = bitsF (spP F R SL SH k se) (g + 1)
        exact (bitsF_f (by unfold spP; rw [decide_eq_false (fun z => z.elim h6 (fun z => by omega))]; simp)).symm
      · rw [if_neg (nle (by omega) (by omega)), q_has, bd_s, e2, q2, bd_s, zB_if]
        by_cases hc : cutP R g
        · rw [if_pos hc, if_neg (by decide)]
          refine ⟨_, rfl, ?_, rfl, E1'⟩
          show bitsF (spP F R SL SH k se) g = bitsF (spP F R SL SH k se) (g + 1)
          exact (bitsF_f (by unfold spP; rw [decide_eq_false (fun z => z.elim h6 (fun z => z.2 hc))]; simp)).symm
        · have hd : decide (g = 6 ∨ (g < k ∧ ¬ cutP R g)) = true := decide_eq_true (Or.inr ⟨by omega, hc⟩)
          rw [if_neg hc, if_pos rfl]
          cases ha : allB (soP F (Rg R g) SL SH k) se
          · refine ⟨_, rfl, ?_, rfl, E1'⟩
            show bitsF (spP F R SL SH k se) g = bitsF (spP F R SL SH k se) (g + 1)
            exact (bitsF_f (by unfold spP; rw [ha]; simp)).symm
          · refine ⟨_, rfl, ?_, rfl, E1'⟩
            show bitsF (spP F R SL SH k se) g ||| _ = bitsF (spP F R SL SH k se) (g + 1)
            exact (bitsF_t (by unfold spP; rw [ha, hd]; rfl)).symm
  · obtain ⟨w2, w3, st⟩ := s
    obtain ⟨i1, i2, i3⟩ := hI
    have i1 : w2 = bitsF (spP F R SL SH k se) 7 := i1
    have i2 : w3 = nI 7 := i2
    subst i1 i2
    refine ⟨(bitsF (spP F R SL SH k se) 7, st), ?_, rfl, i3⟩
    show jm_X9_suspected_L4 N (bitsF (spP F R SL SH k se) 7) (nI 7) st = _
    unfold jm_X9_suspected_L4
    rw [if_pos (by decide)]
  · exact ⟨r.2, by rw [h1, ← h2.1], h2.2⟩
/-! HOLES -/
def hoP (F R SL SH : Nat → Int32) (k se s h : Nat) : Bool := allB (soP F (upd R (9 + s) (nI h)) SL SH k) se
theorem q_fitting {N n k se s : Nat} {c : PS} {F R SL SH : Nat → Int32} (hV : cV c 17 n k F) (hR : rV (c.1 39) R) (hA : aN n k R) (hS : cS c se n SL SH) (hs : s < k) (hN : 2000 ≤ N) : ∃ c', jm_X7_fittingHoles N 17 38 (nI s) c = some (bitsF (hoP F R SL SH k se s) 7, c') ∧ cE c c' := by
  have hk := hV.2.2.2.1
  unfold jm_X7_fittingHoles jm_X4_copyFrom
  rw [nm_d, bd_s, show (38 + 1 : Nat) = 39 from rfl, show (13 + 1 : Nat) = 14 from rfl]
  generalize hc1 : pC c 14 (va_cpy (c.1 39) (c.1 14) ((0 : Int32)).toNatClampNeg ((0 : Int32)).toNatClampNeg ((21 : Int32)).toNatClampNeg) = c1
  have E1 : cE c c1 := by rw [← hc1]; exact cE_C _ (by decide)
  have V1 : rV (c1.1 14) R := by rw [← hc1, pC_1]; exact rV_cpy hR
  refine ex_el (iter_inv (f := fun q => jm_X7_fittingHoles_L14 N 17 (nI s) q.1 q.2.1 q.2.2) (fun h q => q.1 = bitsF (hoP F R SL SH k se s) h ∧ q.2.1 = nI h ∧ cE c q.2.2 ∧ ∀ j, j < 21 → j ≠ 9 + s → q.2.2.1 14 j = R j) (fun r => r.1 = bitsF (hoP F R SL SH k se s) 7 ∧ cE c r.2) 7 (fun h t hh hI => ?_) (fun t hI => ?_) (N := N) (by omega) (s0 := (0, 0, c1)) ⟨rfl, rfl, E1, rV_ne V1 _⟩) (fun r h1 h2 => ?_)
  · obtain ⟨w4, w5, st⟩ := t
    obtain ⟨i1, i2, i3, i4⟩ := hI
    have i1 : w4 = bitsF (hoP F R SL SH k se s) h := i1
    have i2 : w5 = nI h := i2
    have i3 : cE c st := i3
    have i4 : ∀ j, j < 21 → j ≠ 9 + s → st.1 14 j = R j := i4
    subst i1 i2
    show ∃ s', jm_X7_fittingHoles_L14 N 17 (nI s) (bitsF (hoP F R SL SH k se s) h) (nI h) st = some (.inl s') ∧ _
    unfold jm_X7_fittingHoles_L14 jm_X4_setHole
    rw [if_neg (show ¬ (7 : Int32) ≤ nI h from nle (a := 7) hh (by omega)), a9, inB_nI (show 9 + s < 21 by omega) (by omega), gd_t, nm_d, bd_s, cl (by omega), nI_1, show (13 + 1 : Nat) = 14 from rfl]
    generalize hs2 : pU st 14 (9 + s) (nI h) = st2
    have E2 : cE c st2 := by rw [← hs2]; exact cE_t i3 (cE_U _ _ (by decide))
    have V2 : rV (st2.1 (13 + 1)) (upd R (9 + s) (nI h)) := by rw [← hs2]; show rV ((pU st 14 (9 + s) (nI h)).1 14) _; rw [pU_1]; exact rV_upd i4
    have V4 : ∀ j, j < 21 → j ≠ 9 + s → st2.1 14 j = R j := fun j hj hj2 => by rw [← hs2, pU_1, pk_un hj2]; exact i4 j hj hj2
    rw [q_allIsSo (cV_E hV E2) V2 (aN_upd hA (Or.inr (by omega))) (cS_E hS E2) hN, bd_s, zB_if]
    cases ha : allB (soP F (upd R (9 + s) (nI h)) SL SH k) se
    · refine ⟨_, rfl, ?_, rfl, E2, V4⟩
      show bitsF (hoP F R SL SH k se s) h = bitsF (hoP F R SL SH k se s) (h + 1)
      exact (bitsF_f (by unfold hoP; exact ha)).symm
    · refine ⟨_, rfl, ?_, rfl, E2, V4⟩
      show bitsF (hoP F R SL SH k se s) h ||| _ = bitsF (hoP F R SL SH k se s) (h + 1)
      exact (bitsF_t (by unfold hoP; exact ha)).symm
  · obtain ⟨w4, w5, st⟩ := t
    obtain ⟨i1, i2, i3, i4⟩ := hI
    have i1 : w4 = bitsF (hoP F R SL SH k se s) 7 := i1
    have i2 : w5 = nI 7 := i2
    subst i1 i2
    refine ⟨(bitsF (hoP F R SL SH k se s) 7, st), ?_, rfl, i3⟩
    show jm_X7_fittingHoles_L14 N 17 (nI s) (bitsF (hoP F R SL SH k se s) 7) (nI 7) st = _
    unfold jm_X7_fittingHoles_L14
    rw [if_pos (show (7 : Int32) ≤ nI 7 from Int32.le_refl _)]
  · exact ⟨r.2, by rw [h1, ← h2.1], h2.2⟩
/-- the reference's loop -/
theorem q_holesL {N n k se s : Nat} {m m1 : PS} {F R SL SH : Nat → Int32} (hV : mV m n k F) (hA : aN n k R) (hS : mS m se n SL SH) (hs : s < k) (E1 : mE m m1) (V1 : rV (m1.1 14) R) (hN : 2000 ≤ N) : ∃ m', iter (fun q => jm_X9_holes_L34 N (nI s) q.1 q.2.1 q.2.2) N (0, 0, m1) = some (bitsF (hoP F R SL SH k se s) 7, m') ∧ mE m m' := by
  have hk := hV.2.2.2.1
  refine ex_el (iter_inv (f := fun q => jm_X9_holes_L34 N (nI s) q.1 q.2.1 q.2.2) (fun h q => q.1 = bitsF (hoP F R SL SH k se s) h ∧ q.2.1 = nI h ∧ mE m q.2.2 ∧ ∀ j, j < 21 → j ≠ 9 + s → q.2.2.1 14 j = R j) (fun r => r.1 = bitsF (hoP F R SL SH k se s) 7 ∧ mE m r.2) 7 (fun h t hh hI => ?_) (fun t hI => ?_) (N := N) (by omega) (s0 := (0, 0, m1)) ⟨rfl, rfl, E1, rV_ne V1 _⟩) (fun r h1 h2 => ?_)
  · obtain ⟨w4, w5, st⟩ := t
    obtain ⟨i1, i2, i3, i4⟩ := hI
    have i1 : w4 = bitsF (hoP F R SL SH k se s) h := i1
    have i2 : w5 = nI h := i2
    have i3 : mE m st := i3
    have i4 : ∀ j, j < 21 → j ≠ 9 + s → st.1 14 j = R j := i4
    subst i1 i2
    show ∃ s', jm_X9_holes_L34 N (nI s) (bitsF (hoP F R SL SH k se s) h) (nI h) st = some (.inl s') ∧ _
    unfold jm_X9_holes_L34
    rw [if_neg (show ¬ (7 : Int32) ≤ nI h from nle (a := 7) hh (by omega)), a9, inB_nI (show 9 + s < 21 by omega) (by omega), gd_t, nm_d, cl (by omega), nI_1, or_z]
    generalize hs2 : pU st 14 (9 + s) (nI h) = st2
    have E2 : mE m st2 := by rw [← hs2]; exact mE_t i3 (mE_U _ _ (by decide))
    have V2 : rV (st2.1 14) (upd R (9 + s) (nI h)) := by rw [← hs2, pU_1]; exact rV_upd i4
    have V4 : ∀ j, j < 21 → j ≠ 9 + s → st2.1 14 j = R j := fun j hj hj2 => by rw [← hs2, pU_1, pk_un hj2]; exact i4 j hj hj2
    rw [q_isSo (mV_E hV E2) V2 (aN_upd hA (Or.inr (by omega))) (mS_E hS E2) hN, bd_s, zB_if]
    cases ha : allB (soP F (upd R (9 + s) (nI h)) SL SH k) se
    · refine ⟨_, rfl, ?_, rfl, E2, V4⟩
      show bitsF (hoP F R SL SH k se s) h = bitsF (hoP F R SL SH k se s) (h + 1)
      exact (bitsF_f (by unfold hoP; exact ha)).symm
    · refine ⟨_, rfl, ?_, rfl, E2, V4⟩
      show bitsF (hoP F R SL SH k se s) h ||| _ = bitsF (hoP F R SL SH k se s) (h + 1)
      exact (bitsF_t (by unfold hoP; exact ha)).symm
  · obtain ⟨w4, w5, st⟩ := t
    obtain ⟨i1, i2, i3, i4⟩ := hI
    have i1 : w4 = bitsF (hoP F R SL SH k se s) 7 := i1
    have i2 : w5 = nI 7 := i2
    subst i1 i2
    refine ⟨(bitsF (hoP F R SL SH k se s) 7, st), ?_, rfl, i3⟩
    show jm_X9_holes_L34 N (nI s) (bitsF (hoP F R SL SH k se s) 7) (nI 7) st = _
    unfold jm_X9_holes_L34
    rw [if_pos (show (7 : Int32) ≤ nI 7 from Int32.le_refl _)]
  · exact ⟨r.2, by rw [h1, ← h2.1], h2.2⟩
/-! LOOK: v the suspects, H the height as each of them would have it -/
def cq (v : Nat) (H : Nat → Int32) (x : Int32) : Nat → Nat := cnt (fun z => v.testBit z && decide (H z = x))
def np (v : Nat) : Nat → Nat := cnt (fun z => v.testBit z)
def mxM (v : Nat) (H : Nat → Int32) : Nat → Nat
  | 0 => 0
  | g + 1 => if v.testBit g = true then (if mxM v H g < cq v H (H g) 7 then cq v H (H g) 7 else mxM v H g) else mxM v H g
theorem cq_le (v : Nat) (H : Nat → Int32) (x : Int32) (g : Nat) : cq v H x g ≤ g := cnt_le _ g
theorem mxM_le (v : Nat) (H : Nat → Int32) : ∀ g, mxM v H g ≤ 7
  | 0 => by rw [mxM]; omega
  | g + 1 => by
    have := mxM_le v H g
    have := cq_le v H (H g) 7
    rw [mxM]
    split
    · split <;> omega
    · omega
theorem np_mono (v : Nat) {a b : Nat} (h : a ≤ b) : np v a ≤ np v b := by
  induction h with
  | refl => exact Nat.le_refl _
  | step h ih =>
    refine Nat.le_trans ih ?_
    show cnt _ _ ≤ cnt _ (_ + 1)
    rw [cnt]
    split <;> omega
theorem np_s {v g : Nat} (h : v.testBit g = true) : np v (g + 1) = np v g + 1 := by show cnt _ (g + 1) = _; rw [cnt, if_pos h]; rfl
theorem np_n {v g : Nat} (h : v.testBit g = false) : np v (g + 1) = np v g := by show cnt _ (g + 1) = _; rw [cnt, if_neg (by simp [h])]; rfl
/-- the row of guesses: each suspect's height at its place -/
def gOk (v : Nat) (H G : Nat → Int32) (g : Nat) : Prop := ∀ z, z < g → v.testBit z = true → G (np v z) = H z
/-- how often x stands among the first i guesses -/
def hm (G : Nat → Int32) (x : Int32) : Nat → Nat
  | 0 => 0
  | i + 1 => if G i = x then hm G x i + 1 else hm G x i
theorem hm_cq {v : Nat} {H G : Nat → Int32} {x : Int32} : ∀ g, gOk v H G g → hm G x (np v g) = cq v H x g
  | 0, _ => rfl
  | g + 1, h => by
    have ih := hm_cq (x := x) g (fun z hz => h z (by omega))
    show _ = cnt _ (g + 1)
    rw [cnt]
    cases ht : v.testBit g
    · rw [np_n ht, ih]; simp; rfl
    · rw [np_s ht, hm, ih, h g (by omega) ht]
      by_cases e : H g = x
      · rw [if_pos e]; simp [e]; rfl
      · rw [if_neg e]; simp [e]; rfl
def mxC (v : Nat) (H G : Nat → Int32) : Nat → Nat
  | 0 => 0
  | i + 1 => if mxC v H G i < cq v H (G i) 7 then cq v H (G i) 7 else mxC v H G i
theorem mxC_M {v : Nat} {H G : Nat → Int32} : ∀ g, gOk v H G g → mxC v H G (np v g) = mxM v H g
  | 0, _ => rfl
  | g + 1, h => by
    have ih := mxC_M g (fun z hz => h z (by omega))
    rw [mxM]
    cases ht : v.testBit g
    · rw [np_n ht, ih]; simp
    · rw [np_s ht, mxC, ih, h g (by omega) ht]; simp
