/-! PURE: images -/
theorem ring_congr {n k u p q : Nat} {f g f' g' : Nat → Int32} (h : ring n k u p q f g) (hf : ∀ i, i < 210 → f' i = f i) (hg : ∀ i, i < 210 → g' i = g i) : ring n k u p q f' g' := fun j hj => by
  obtain ⟨R, h1, h2, h3⟩ := h j hj
  have e1 : rg p j < 10 := by unfold rg; omega
  have e2 : rg q j < 10 := by unfold rg; omega
  exact ⟨R, h1, fun i hi => by rw [hf _ (by omega)]; exact h2 i hi, fun i hi => by rw [hg _ (by omega)]; exact h3 i hi⟩
theorem q_scopy {N a b : Nat} {c : PS} (hab : a + 5 ≤ b ∨ b + 5 ≤ a) : ∃ c', jm_X5_copyFrom N a b c = some ((), c') ∧ (∀ x, x ≠ a + 2 → x ≠ a + 3 → x ≠ a + 4 → c'.1 x = c.1 x) ∧ c'.2 = c.2 ∧ (∀ j, j < 21 → c'.1 (a + 2) j = c.1 (b + 2) j) ∧ (∀ j, j < 210 → c'.1 (a + 4) j = c.1 (b + 4) j) ∧ c'.1 (a + 3) 1 = c.1 (b + 3) 1 ∧ c'.1 (a + 3) 2 = c.1 (b + 3) 2 := by
  unfold jm_X5_copyFrom jm_X4_copyFrom jm_X3_copyFrom
  rw [nm_d, bd_s, nm_d, nm_d, nm_d, bd_s, show a + 1 + 1 = a + 2 by omega, show b + 1 + 1 = b + 2 by omega, show a + 3 + 1 = a + 4 by omega, show b + 3 + 1 = b + 4 by omega, show ((0 : Int32)).toNatClampNeg = 0 from rfl, show ((21 : Int32)).toNatClampNeg = 21 from rfl, show ((210 : Int32)).toNatClampNeg = 210 from rfl]
  refine ⟨_, rfl, fun x h2 h3 h4 => ?_, rfl, fun j hj => ?_, fun j hj => ?_, ?_, ?_⟩
  · rw [pU_n h3, pU_n h3, pC_n h4, pC_n h2]
  · rw [pU_n (by omega), pU_n (by omega), pC_n (by omega), pC_1, pk_cpy_in (by omega) (by omega), show 0 + (j - 0) = j by omega]
  · rw [pU_n (by omega), pU_n (by omega), pC_1, pk_cpy_in (by omega) (by omega), show 0 + (j - 0) = j by omega, pC_n (by omega)]
  · rw [pU_1, pk_un (by decide), pU_1, pk_us, pC_n (by omega), pC_n (by omega)]
  · rw [pU_1, pk_us, pU_n (by omega), pC_n (by omega), pC_n (by omega)]
theorem m210 (a b : Nat) : 210 * nI a + nI b = nI (210 * a + b) := by rw [show (210 : Int32) = nI 210 from rfl, pk_mul, nI_add]
theorem nar1 : vp_nar .boolean 1 = 1 := by decide
theorem nar0 : vp_nar .boolean 0 = 0 := by decide
theorem in01 {N i : Nat} {m : PS} (hi : i < 2) : jm_X9_in N (nI i) 0 1 m = some (1, m) := by
  unfold jm_X9_in
  rw [if_neg (nI_pos (by omega)), if_neg (show ¬ (1 : Int32) < nI i from nI_nlt (a := 1) (by omega) (by omega))]
theorem q_keep9 {N i : Nat} {m : PS} (hi : i < 2) (hN : 2000 ≤ N) : ∃ m', jm_X9_keep N (nI i) m = some (m.1 13 0, m') ∧ (∀ a, a ≠ 19 → a ≠ 20 → a ≠ 21 → a ≠ 22 → a ≠ 23 → m'.1 a = m.1 a) ∧ m'.2 = m.2 ∧ m'.1 19 = upd (m.1 19) i 1 ∧ m'.1 22 = upd (m.1 22) i (m.1 0 30) ∧ m'.1 23 = upd (m.1 23) i (m.1 0 31) ∧ (∀ y, m'.1 20 y = if 21 * i ≤ y ∧ y < 21 * i + 21 then m.1 13 (y - 21 * i) else m.1 20 y) ∧ (∀ y, m'.1 21 y = if 210 * i ≤ y ∧ y < 210 * i + 210 then m.1 15 (y - 210 * i) else m.1 21 y) := by
  unfold jm_X9_keep
  rw [in01 hi, bd_s, if_neg (by decide), inB_nI hi (by omega), gd_t, nm_d, gd_t, nm_d, gd_t, nm_d, cl (by omega), nar1, pU_n (by decide), pU_n (by decide), pU_n (by decide)]
  generalize hs : pU (pU (pU m 19 i 1) 22 i (m.1 0 30)) 23 i (m.1 0 31) = m2
  have A1 : ∀ a, a ≠ 19 → a ≠ 22 → a ≠ 23 → m2.1 a = m.1 a := fun a h1 h2 h3 => by rw [← hs, pU_n h3, pU_n h2, pU_n h1]
  have A2 : m2.1 19 = upd (m.1 19) i 1 := by rw [← hs, pU_n (by decide), pU_n (by decide), pU_1]
  have A3 : m2.1 22 = upd (m.1 22) i (m.1 0 30) := by rw [← hs, pU_n (by decide), pU_1, pU_n (by decide)]
  have A4 : m2.1 23 = upd (m.1 23) i (m.1 0 31) := by rw [← hs, pU_1, pU_n (by decide), pU_n (by decide)]
  have A5 : m2.2 = m.2 := by rw [← hs]; rfl
  refine ex_el (iter_inv (f := fun s => jm_X9_keep_L40 N (nI i) s.1 s.2) (fun j s => s.1 = nI j ∧ (∀ a, a ≠ 20 → s.2.1 a = m2.1 a) ∧ s.2.2 = m.2 ∧ ∀ y, s.2.1 20 y = if 21 * i ≤ y ∧ y < 21 * i + j then m.1 13 (y - 21 * i) else m.1 20 y) (fun r => r.1 = m.1 13 0 ∧ (∀ a, a ≠ 20 → a ≠ 21 → r.2.1 a = m2.1 a) ∧ r.2.2 = m.2 ∧ (∀ y, r.2.1 20 y = if 21 * i ≤ y ∧ y < 21 * i + 21 then m.1 13 (y - 21 * i) else m.1 20 y) ∧ ∀ y, r.2.1 21 y = if 210 * i ≤ y ∧ y < 210 * i + 210 then m.1 15 (y - 210 * i) else m.1 21 y) 21 (fun j s hj hI => ?_) (fun s hI => ?_) (N := N) (by omega) (s0 := (0, m2)) ⟨rfl, fun _ _ => rfl, A5, fun y => by rw [if_neg (by omega)]; show m2.1 20 y = _; rw [A1 20 (by decide) (by decide) (by decide)]⟩) (fun r h1 h2 => ?_)
  · obtain ⟨w, st⟩ := s
    obtain ⟨i1, i2, i3, i4⟩ := hI
    have i1 : w = nI j := i1
    have i2 : ∀ a, a ≠ 20 → st.1 a = m2.1 a := i2
    have i4 : ∀ y, st.1 20 y = if 21 * i ≤ y ∧ y < 21 * i + j then m.1 13 (y - 21 * i) else m.1 20 y := i4
    subst i1
    show ∃ s', jm_X9_keep_L40 N (nI i) (nI j) st = some (.inl s') ∧ _
    unfold jm_X9_keep_L40
    rw [if_neg (show ¬ (21 : Int32) ≤ nI j from nle (a := 21) hj (by omega)), inB_nI (show j < 21 by omega) (by omega), gd_t, m21', inB_nI (show 21 * i + j < 42 by omega) (by omega), gd_t, nm_d, cl (by omega), cl (by omega), i2 13 (by decide), A1 13 (by decide) (by decide) (by decide), nI_1]
    refine ⟨_, rfl, rfl, fun a ha => ?_, i3, fun y => ?_⟩
    · show (pU st 20 _ _).1 a = _
      rw [pU_n ha]; exact i2 a ha
    · show (pU st 20 _ _).1 20 y = _
      rw [pU_1]
      by_cases e : y = 21 * i + j
      · subst e; rw [pk_us, if_pos ⟨by omega, by omega⟩, show 21 * i + j - 21 * i = j by omega]
      · rw [pk_un e, i4]
        by_cases h : 21 * i ≤ y ∧ y < 21 * i + j
        · rw [if_pos h, if_pos ⟨h.1, by omega⟩]
        · rw [if_neg h, if_neg (by omega)]
  · obtain ⟨w, st⟩ := s
    obtain ⟨i1, i2, i3, i4⟩ := hI
    have i1 : w = nI 21 := i1
    have i2 : ∀ a, a ≠ 20 → st.1 a = m2.1 a := i2
    have i3 : st.2 = m.2 := i3
    have i4 : ∀ y, st.1 20 y = if 21 * i ≤ y ∧ y < 21 * i + 21 then m.1 13 (y - 21 * i) else m.1 20 y := i4
    subst i1
    show ∃ r, jm_X9_keep_L40 N (nI i) (nI 21) st = some (.inr r) ∧ _
    unfold jm_X9_keep_L40
    rw [if_pos (show (21 : Int32) ≤ nI 21 from Int32.le_refl _)]
    have inner : ∃ r, iter (fun q => jm_X9_keep_L71 N (nI i) q.1 q.2) N (0, st) = some r ∧ ∃ st', r = .inr (m.1 13 0, st') ∧ (∀ a, a ≠ 21 → st'.1 a = st.1 a) ∧ st'.2 = m.2 ∧ ∀ y, st'.1 21 y = if 210 * i ≤ y ∧ y < 210 * i + 210 then m.1 15 (y - 210 * i) else m.1 21 y := by
      refine iter_inv (fun j s => s.1 = nI j ∧ (∀ a, a ≠ 21 → s.2.1 a = st.1 a) ∧ s.2.2 = m.2 ∧ ∀ y, s.2.1 21 y = if 210 * i ≤ y ∧ y < 210 * i + j then m.1 15 (y - 210 * i) else m.1 21 y) _ 210 (fun j s hj hI => ?_) (fun s hI => ?_) (by omega) ⟨rfl, fun _ _ => rfl, i3, fun y => by rw [if_neg (by omega)]; show st.1 21 y = _; rw [i2 21 (by decide), A1 21 (by decide) (by decide) (by decide)]⟩
      · obtain ⟨w, st2⟩ := s
        obtain ⟨j1, j2, j3, j4⟩ := hI
        have j1 : w = nI j := j1
        have j2 : ∀ a, a ≠ 21 → st2.1 a = st.1 a := j2
        have j4 : ∀ y, st2.1 21 y = if 210 * i ≤ y ∧ y < 210 * i + j then m.1 15 (y - 210 * i) else m.1 21 y := j4
        subst j1
        show ∃ s', jm_X9_keep_L71 N (nI i) (nI j) st2 = some (.inl s') ∧ _
        unfold jm_X9_keep_L71
        rw [if_neg (show ¬ (210 : Int32) ≤ nI j from nle (a := 210) hj (by omega)), inB_nI (show j < 210 by omega) (by omega), gd_t, m210, inB_nI (show 210 * i + j < 420 by omega) (by omega), gd_t, nm_d, cl (by omega), cl (by omega), j2 15 (by decide), i2 15 (by decide), A1 15 (by decide) (by decide) (by decide), nI_1]
        refine ⟨_, rfl, rfl, fun a ha => ?_, j3, fun y => ?_⟩
        · show (pU st2 21 _ _).1 a = _
          rw [pU_n ha]; exact j2 a ha
        · show (pU st2 21 _ _).1 21 y = _
          rw [pU_1]
          by_cases e : y = 210 * i + j
          · subst e; rw [pk_us, if_pos ⟨by omega, by omega⟩, show 210 * i + j - 210 * i = j by omega]
          · rw [pk_un e, j4]
            by_cases h : 210 * i ≤ y ∧ y < 210 * i + j
            · rw [if_pos h, if_pos ⟨h.1, by omega⟩]
            · rw [if_neg h, if_neg (by omega)]
      · obtain ⟨w, st2⟩ := s
        obtain ⟨j1, j2, j3, j4⟩ := hI
        have j1 : w = nI 210 := j1
        have j2 : ∀ a, a ≠ 21 → st2.1 a = st.1 a := j2
        subst j1
        refine ⟨.inr (m.1 13 0, st2), ?_, st2, rfl, j2, j3, j4⟩
        show jm_X9_keep_L71 N (nI i) (nI 210) st2 = _
        unfold jm_X9_keep_L71
        rw [if_pos (show (210 : Int32) ≤ nI 210 from Int32.le_refl _), j2 13 (by decide), i2 13 (by decide), A1 13 (by decide) (by decide) (by decide)]
    obtain ⟨r, hr, st', er, e1, e2, e3⟩ := inner
    subst er
    exact ⟨_, hr, rfl, fun a h20 h21 => by rw [← i2 a h20]; exact e1 a h21, e2, fun y => by rw [e1 20 (by decide)]; exact i4 y, e3⟩
  · obtain ⟨g1, g2, g3, g4, g5⟩ := h2
    exact ⟨r.2, by rw [h1, ← g1], fun a h19 h20 h21 h22 h23 => by rw [g2 a h20 h21]; exact A1 a h19 h22 h23, g3, by rw [g2 19 (by decide) (by decide)]; exact A2, by rw [g2 22 (by decide) (by decide)]; exact A3, by rw [g2 23 (by decide) (by decide)]; exact A4, g4, g5⟩
theorem q_back9 {N i : Nat} {m : PS} (hi : i < 2) (hk : ¬ m.1 19 i = 0) (hN : 2000 ≤ N) : ∃ m', jm_X9_back N (nI i) m = some (m.1 20 (21 * i), m') ∧ (∀ a, a ≠ 0 → a ≠ 13 → a ≠ 15 → m'.1 a = m.1 a) ∧ m'.2 = m.2 ∧ (∀ j, j ≠ 30 → j ≠ 31 → m'.1 0 j = m.1 0 j) ∧ m'.1 0 30 = m.1 22 i ∧ m'.1 0 31 = m.1 23 i ∧ (∀ j, j < 21 → m'.1 13 j = m.1 20 (21 * i + j)) ∧ (∀ j, j < 210 → m'.1 15 j = m.1 21 (210 * i + j)) := by
  unfold jm_X9_back
  rw [in01 hi, bd_s, if_neg (by decide), inB_nI hi (by omega), gd_t, cl (by omega), if_neg hk, gd_t, nm_d, gd_t, nm_d, pU_n (by decide)]
  generalize hs : pU (pU m 0 30 (m.1 22 i)) 0 31 (m.1 23 i) = m2
  have A1 : ∀ a, a ≠ 0 → m2.1 a = m.1 a := fun a ha => by rw [← hs, pU_n ha, pU_n ha]
  have A2 : ∀ j, j ≠ 30 → j ≠ 31 → m2.1 0 j = m.1 0 j := fun j h30 h31 => by rw [← hs, pU_1, pk_un h31, pU_1, pk_un h30]
  have A3 : m2.1 0 30 = m.1 22 i := by rw [← hs, pU_1, pk_un (by decide), pU_1, pk_us]
  have A4 : m2.1 0 31 = m.1 23 i := by rw [← hs, pU_1, pk_us]
  have A5 : m2.2 = m.2 := by rw [← hs]; rfl
  refine ex_el (iter_inv (f := fun s => jm_X9_back_L45 N (nI i) s.1 s.2) (fun j s => s.1 = nI j ∧ (∀ a, a ≠ 13 → s.2.1 a = m2.1 a) ∧ s.2.2 = m.2 ∧ ∀ y, y < j → s.2.1 13 y = m.1 20 (21 * i + y)) (fun r => r.1 = m.1 20 (21 * i) ∧ (∀ a, a ≠ 13 → a ≠ 15 → r.2.1 a = m2.1 a) ∧ r.2.2 = m.2 ∧ (∀ j, j < 21 → r.2.1 13 j = m.1 20 (21 * i + j)) ∧ ∀ j, j < 210 → r.2.1 15 j = m.1 21 (210 * i + j)) 21 (fun j s hj hI => ?_) (fun s hI => ?_) (N := N) (by omega) (s0 := (0, m2)) ⟨rfl, fun _ _ => rfl, A5, fun y hy => absurd hy (by omega)⟩) (fun r h1 h2 => ?_)
  · obtain ⟨w, st⟩ := s
    obtain ⟨i1, i2, i3, i4⟩ := hI
    have i1 : w = nI j := i1
    have i2 : ∀ a, a ≠ 13 → st.1 a = m2.1 a := i2
    have i4 : ∀ y, y < j → st.1 13 y = m.1 20 (21 * i + y) := i4
    subst i1
    show ∃ s', jm_X9_back_L45 N (nI i) (nI j) st = some (.inl s') ∧ _
    unfold jm_X9_back_L45
    rw [if_neg (show ¬ (21 : Int32) ≤ nI j from nle (a := 21) hj (by omega)), m21', inB_nI (show 21 * i + j < 42 by omega) (by omega), gd_t, inB_nI (show j < 21 by omega) (by omega), gd_t, nm_d, cl (by omega), cl (by omega), i2 20 (by decide), A1 20 (by decide), nI_1]
    refine ⟨_, rfl, rfl, fun a ha => ?_, i3, fun y hy => ?_⟩
    · show (pU st 13 _ _).1 a = _
      rw [pU_n ha]; exact i2 a ha
    · show (pU st 13 _ _).1 13 y = _
      rw [pU_1]
      by_cases e : y = j
      · subst e; rw [pk_us]
      · rw [pk_un e]; exact i4 y (by omega)
  · obtain ⟨w, st⟩ := s
    obtain ⟨i1, i2, i3, i4⟩ := hI
    have i1 : w = nI 21 := i1
    have i2 : ∀ a, a ≠ 13 → st.1 a = m2.1 a := i2
    have i3 : st.2 = m.2 := i3
    have i4 : ∀ y, y < 21 → st.1 13 y = m.1 20 (21 * i + y) := i4
    subst i1
    show ∃ r, jm_X9_back_L45 N (nI i) (nI 21) st = some (.inr r) ∧ _
    unfold jm_X9_back_L45
    rw [if_pos (show (21 : Int32) ≤ nI 21 from Int32.le_refl _)]
    have inner : ∃ r, iter (fun q => jm_X9_back_L76 N (nI i) q.1 q.2) N (0, st) = some r ∧ ∃ st', r = .inr (m.1 20 (21 * i), st') ∧ (∀ a, a ≠ 15 → st'.1 a = st.1 a) ∧ st'.2 = m.2 ∧ ∀ y, y < 210 → st'.1 15 y = m.1 21 (210 * i + y) := by
      refine iter_inv (fun j s => s.1 = nI j ∧ (∀ a, a ≠ 15 → s.2.1 a = st.1 a) ∧ s.2.2 = m.2 ∧ ∀ y, y < j → s.2.1 15 y = m.1 21 (210 * i + y)) _ 210 (fun j s hj hI => ?_) (fun s hI => ?_) (by omega) ⟨rfl, fun _ _ => rfl, i3, fun y hy => absurd hy (by omega)⟩
      · obtain ⟨w, st2⟩ := s
        obtain ⟨j1, j2, j3, j4⟩ := hI
        have j1 : w = nI j := j1
        have j2 : ∀ a, a ≠ 15 → st2.1 a = st.1 a := j2
        have j4 : ∀ y, y < j → st2.1 15 y = m.1 21 (210 * i + y) := j4
        subst j1
        show ∃ s', jm_X9_back_L76 N (nI i) (nI j) st2 = some (.inl s') ∧ _
        unfold jm_X9_back_L76
        rw [if_neg (show ¬ (210 : Int32) ≤ nI j from nle (a := 210) hj (by omega)), m210, inB_nI (show 210 * i + j < 420 by omega) (by omega), gd_t, inB_nI (show j < 210 by omega) (by omega), gd_t, nm_d, cl (by omega), cl (by omega), j2 21 (by decide), i2 21 (by decide), A1 21 (by decide), nI_1]
        refine ⟨_, rfl, rfl, fun a ha => ?_, j3, fun y hy => ?_⟩
        · show (pU st2 15 _ _).1 a = _
          rw [pU_n ha]; exact j2 a ha
        · show (pU st2 15 _ _).1 15 y = _
          rw [pU_1]
          by_cases e : y = j
          · subst e; rw [pk_us]
          · rw [pk_un e]; exact j4 y (by omega)
      · obtain ⟨w, st2⟩ := s
        obtain ⟨j1, j2, j3, j4⟩ := hI
        have j1 : w = nI 210 := j1
        have j2 : ∀ a, a ≠ 15 → st2.1 a = st.1 a := j2
        subst j1
        refine ⟨.inr (m.1 20 (21 * i), st2), ?_, st2, rfl, j2, j3, j4⟩
        show jm_X9_back_L76 N (nI i) (nI 210) st2 = _
        unfold jm_X9_back_L76
        rw [if_pos (show (210 : Int32) ≤ nI 210 from Int32.le_refl _), j2 13 (by decide), i4 0 (by omega), Nat.add_zero]
    obtain ⟨r, hr, st', er, e1, e2, e3⟩ := inner
    subst er
    exact ⟨_, hr, rfl, fun a h13 h15 => by rw [← i2 a h13]; exact e1 a h15, e2, fun j hj => by rw [e1 13 (by decide)]; exact i4 j hj, e3⟩
  · obtain ⟨g1, g2, g3, g4, g5⟩ := h2
    exact ⟨r.2, by rw [h1, ← g1], fun a h0 h13 h15 => by rw [g2 a h13 h15]; exact A1 a h0, g3, fun j h30 h31 => by rw [g2 0 (by decide) (by decide)]; exact A2 j h30 h31, by rw [g2 0 (by decide) (by decide)]; exact A3, by rw [g2 0 (by decide) (by decide)]; exact A4, g4, g5⟩
