/-! PURE: PUPPET -/
theorem op_puppet {N : Nat} (hN : 2000 ≤ N) : same1 (jm_X8_puppet N) (jm_X9_puppet N) := by
  intro c m h
  have h' := h
  obtain ⟨-, -, -, -, -, -, -, -, -, ⟨nb, t0, t1, t2, t3⟩, -, -, ⟨-, -, -, q, -, -, -, -, -, hq, -, -, -, hq31, -⟩, ht⟩ := h'
  have hc : txC c nb (fun i => (c.1 2 i).toNatClampNeg) := by
    refine ⟨t1, t0, fun i hi => ?_⟩
    obtain ⟨v, hv, e1, e2⟩ := t3 i hi
    show c.1 2 i = nI (c.1 2 i).toNatClampNeg ∧ (c.1 2 i).toNatClampNeg < 256
    rw [e1, cl (by omega)]; exact ⟨rfl, hv⟩
  have hm : txM m nb (fun i => (c.1 2 i).toNatClampNeg) := by
    refine ⟨t2, t0, fun i hi => ?_⟩
    obtain ⟨v, hv, e1, e2⟩ := t3 i hi
    show m.1 1 i = nI (c.1 2 i).toNatClampNeg ∧ (c.1 2 i).toNatClampNeg < 256
    rw [e1, e2, cl (by omega)]; exact ⟨rfl, hv⟩
  rcases read_all (N := N) hc hm hN with ⟨c', m', it, g1, g2, g3, g4, g5⟩ | ⟨c', m', b, g0, g1, g2, g3, g4⟩
  · have hit := rdR_le g3
    obtain ⟨n, k, b, z1, z2, ⟨L1, L2, L3, L4, L5⟩, ⟨S1, S2, S3, S4, S5⟩, ⟨B1, B2, B3, B4⟩, ⟨-, -, -, -, ⟨w1, U5, U6, U7⟩, ⟨w2, U8, U9, U10⟩, U11⟩, h9, -⟩ := g3
    obtain ⟨⟨rv, c2⟩, p1, p2, p3, p4, p5, p6, p7, p8, p9, p10, p11, p12, p13, p14, p15, p16, p17⟩ := pupC (N := N) (v := nI it) (c := c') hN
    simp only [] at p2 p3 p4 p5 p6 p7 p8 p9 p10 p11 p12 p13 p14 p15 p16 p17
    subst p2
    generalize eM : pU (pU (pU (pU m' 0 0 0) 0 18 (nI n)) 0 19 (nI k)) 0 20 (nI b) = m1
    have M0 : m1.1 0 = upd (upd (upd (upd (m'.1 0) 0 0) 18 (nI n)) 19 (nI k)) 20 (nI b) := by
      rw [← eM, pU_1, pU_1, pU_1, pU_1]
    have MM : ∀ a, a ≠ 0 → m1.1 a = m'.1 a := fun a ha => by rw [← eM, pU_n ha, pU_n ha, pU_n ha, pU_n ha]
    have M0o : ∀ j, j ≠ 0 → j ≠ 18 → j ≠ 19 → j ≠ 20 → m1.1 0 j = m'.1 0 j := fun j q1 q2 q3 q4 => by
      rw [M0, pk_un q4, pk_un q3, pk_un q2, pk_un q1]
    have M018 : m1.1 0 18 = nI n := by rw [M0, pk_un (by decide), pk_un (by decide), pk_us]
    have M019 : m1.1 0 19 = nI k := by rw [M0, pk_un (by decide), pk_us]
    have M020 : m1.1 0 20 = nI b := by rw [M0, pk_us]
    have M000 : m1.1 0 0 = 0 := by rw [M0, pk_un (by decide), pk_un (by decide), pk_un (by decide), pk_us]
    obtain ⟨⟨rv2, m2⟩, k1, k2, mA, A1, A2, A3, mB, E1, E2, E3, E4, E5, mC, C1, C2, C3, C4, D1, D2, D3, D4, D5, D6, D7, D8, D9⟩ := pupA (N := N) (n := n) (k := k) (b := b) (m := m1) M018 L3 M019 S3 M020 B3 (fun a ha h0 => by
      obtain ⟨p, v, w, y1, y2, y3, -⟩ := L4 a ha
      exact ⟨p, by rw [MM 2 (by decide)]; exact y2, by omega⟩) hN
    simp only [] at k2 D1 D2 D3 D4 D5 D6 D7 D8 D9
    have hr : rv2 = nI it := by rw [k2, M0o 9 (by decide) (by decide) (by decide) (by decide), h9]
    subst hr
    -- the reference's cells at the end
    have Z0 : ∀ j, j ≠ 30 → j ≠ 34 → m2.1 0 j = m1.1 0 j := fun j q1 q2 => by
      rw [D3 j q1 q2, C1 0 (by decide) (by decide), E1 0 (by decide), A1 0 (by decide) (by decide) (by decide)]
    have Z6 : m2.1 6 = mA.1 6 := by rw [D1 6 (by decide), C1 6 (by decide) (by decide), E1 6 (by decide)]
    have Z7 : m2.1 7 = mA.1 7 := by rw [D1 7 (by decide), C1 7 (by decide) (by decide), E1 7 (by decide)]
    have Z8 : m2.1 8 = mA.1 8 := by rw [D1 8 (by decide), C1 8 (by decide) (by decide), E1 8 (by decide)]
    have Z9 : m2.1 9 = mC.1 9 := D1 9 (by decide)
    have Z13 : m2.1 13 = mC.1 13 := D1 13 (by decide)
    have B3' : mB.1 3 = m'.1 3 := by rw [E1 3 (by decide), A1 3 (by decide) (by decide) (by decide), MM 3 (by decide)]
    have C4' : mC.1 4 = m'.1 4 := by rw [C1 4 (by decide) (by decide), E1 4 (by decide), A1 4 (by decide) (by decide) (by decide), MM 4 (by decide)]
    have A2' : m1.1 2 = m'.1 2 := MM 2 (by decide)
    have A0' : mA.1 0 = m1.1 0 := A1 0 (by decide) (by decide) (by decide)
    rw [C1 6 (by decide) (by decide), E1 6 (by decide), C1 7 (by decide) (by decide), E1 7 (by decide)] at D7
    have hG : ∀ a, a < n → ∀ l, l < n → c'.1 34 (8 * a + l) = m2.1 12 (8 * a + l) := by
      refine fG_eq L3 L5 D7 (fun a ha h0 => ?_) (fun a ha h0 => ?_)
      · obtain ⟨p, v, w, y1, y2, y3, -⟩ := L4 a ha
        exact ⟨p, y1, by rw [(A3 a ha).1, if_neg (by omega), A2']; exact y2, by omega⟩
      · obtain ⟨p, v, w, y1, y2, y3, y4, y5, -⟩ := L4 a ha
        rw [y4, (A3 a ha).2.1, A2', y5]
    refine ⟨nI it, c2, m2, ?_, ?_, n, k, b, c'.1 34, c'.1 30, c'.1 31, fun i => (c'.1 32 i).toNatClampNeg, fun i => (m'.1 4 (2 * i + 1)).toNatClampNeg, ⟨⟨by rw [p5, L1], by rw [p6, S1], L3, S3, fun a ha l hl => ?_⟩, ⟨?_, ?_, L3, S3, fun a ha l hl => ?_⟩, L5.2.1, fun l hl => ?_, fun s hs => ?_, ⟨by rw [p7, B1], B3, fun i hi => ?_⟩, ⟨?_, B3, fun i hi => ?_⟩⟩, ⟨0, by omega, by rw [p4]; rfl, ?_, fun i hi => absurd hi (by omega)⟩, ⟨Or.inl ⟨p15, D8⟩, Or.inl ⟨p16, D9⟩⟩, ⟨0, fun _ => 0, fun _ => 0, ⟨by rw [p17]; rfl, by omega, fun j hj => absurd hj (by omega)⟩, ⟨by rw [D5]; rfl, by omega, fun j hj => absurd hj (by omega)⟩⟩, ⟨c'.1 36, 0, 0, q, ⟨⟨w1, U5, U6⟩, ⟨w2, U8, U9⟩, ⟨0, Nat.two_pow_pos k, by rw [U11]; rfl⟩, fun s hs => ?_⟩, fun j hj => p12 j hj, fun j hj => ?_, by omega, by omega, hq, by rw [p13]; rfl, by rw [p14]; rfl, by rw [D4]; rfl, ?_, fun j hj => absurd hj (by omega)⟩, ?_⟩
    · unfold jm_X8_puppet
      rw [g1, bd_s, if_pos (nI_pos' (by omega))]
      exact p1
    · unfold jm_X9_puppet
      rw [g2, bd_s, if_pos rfl, nm_d, nm_d, nm_d, nm_d]
      have e1 : (pU m' 0 0 0).1 0 6 = nI n := by rw [pU_1, pk_un (by decide), L2]
      have e2 : (pU (pU m' 0 0 0) 0 18 (nI n)).1 0 7 = nI k := by rw [pU_1, pk_un (by decide), pU_1, pk_un (by decide), S2]
      have e3 : (pU (pU (pU m' 0 0 0) 0 18 (nI n)) 0 19 (nI k)).1 0 8 = nI b := by rw [pU_1, pk_un (by decide), pU_1, pk_un (by decide), pU_1, pk_un (by decide), B2]
      rw [e1, e2, e3, eM]
      exact k1
    · exact p11 _ (by omega)
    · rw [Z0 18 (by decide) (by decide), M018]
    · rw [Z0 19 (by decide) (by decide), M019]
    · rw [← hG l hl a ha]; exact (L5.2.1 l hl a ha)
    · obtain ⟨p, v, w, y1, y2, y3, y4, y5, y6, y7⟩ := L4 l hl
      obtain ⟨x1, x2, x3⟩ := p8 l (by omega)
      obtain ⟨v1, v2, v3⟩ := A3 l hl
      refine ⟨?_, ?_, x3, ?_⟩
      · rw [Z6, v1, A2', y2, x1, y1]
      · rw [Z7, v2, A2', y5, x2, y4]
      · rw [Z8, v3, A2', y7, y6]
    · obtain ⟨a, v, y1, y2, y3, y4, y5, y6, y7, y8, y9⟩ := S4 s hs
      exact ⟨p9 s (by omega), by rw [Z9, (C3 s hs).2.2.2, B3', y9, y8], v, y6, y7, y8⟩
    · obtain ⟨u, t, y1, y2, y3, y4, y5, y6⟩ := B4 i hi
      obtain ⟨x1, x2⟩ := p10 i (by omega)
      show c2.1 22 i = nI (c'.1 32 i).toNatClampNeg ∧ c2.1 23 i = tI (m'.1 4 (2 * i + 1)).toNatClampNeg ∧ (c'.1 32 i).toNatClampNeg ≤ 40 ∧ (m'.1 4 (2 * i + 1)).toNatClampNeg ≤ 6
      rw [x1, x2, y3, y5, y6, cl (by omega), cl (by omega)]
      exact ⟨rfl, rfl, y1, y2⟩
    · rw [Z0 20 (by decide) (by decide), M020]
    · obtain ⟨u, t, y1, y2, y3, y4, y5, y6⟩ := B4 i hi
      obtain ⟨x1, x2⟩ := D6 i hi
      show m2.1 10 i = nI (c'.1 32 i).toNatClampNeg ∧ m2.1 11 i = tI (m'.1 4 (2 * i + 1)).toNatClampNeg ∧ (c'.1 32 i).toNatClampNeg ≤ 40 ∧ (m'.1 4 (2 * i + 1)).toNatClampNeg ≤ 6
      rw [x1, x2, C4', y3, y4, y6, cl (by omega), cl (by omega)]
      exact ⟨rfl, rfl, y1, y2⟩
    · rw [Z0 0 (by decide) (by decide), M000]; rfl
    · obtain ⟨a, v, y1, y2, -⟩ := S4 s hs
      exact ⟨a, y1, y2⟩
    · rw [Z13]
      by_cases c0 : j = 0
      · rw [c0, C4 0 (by omega), E3, A0', M0o 12 (by decide) (by decide) (by decide) (by decide), U7, U6]
      by_cases c1 : j = 1
      · rw [c1, C4 1 (by omega), E4, A0', M0o 13 (by decide) (by decide) (by decide) (by decide), U10, U9]
      by_cases c2' : j = 2
      · rw [c2', C4 2 (by omega), E5 2 (by omega) (by omega), U11]
      by_cases c3 : j < 9
      · obtain ⟨s, rfl⟩ : ∃ s, j = 3 + s := ⟨j - 3, by omega⟩
        by_cases d : s < k
        · obtain ⟨a, v, y1, y2, y3, y4, y5, y6, y7, y8, y9⟩ := S4 s d
          rw [(C3 s d).1, B3', y3, y2]
        · rw [C4 _ (by omega), E5 _ (by omega) (by omega), (S5 s (by omega) (by omega)).1]
      by_cases c4 : j < 15
      · obtain ⟨s, rfl⟩ : ∃ s, j = 9 + s := ⟨j - 9, by omega⟩
        by_cases d : s < k
        · obtain ⟨a, v, y1, y2, y3, y4, y5, y6, y7, y8, y9⟩ := S4 s d
          rw [(C3 s d).2.1, B3', y4]
        · rw [C4 _ (by omega), E5 _ (by omega) (by omega), (S5 s (by omega) (by omega)).2.1]
      · obtain ⟨s, rfl⟩ : ∃ s, j = 15 + s := ⟨j - 15, by omega⟩
        by_cases d : s < k
        · obtain ⟨a, v, y1, y2, y3, y4, y5, y6, y7, y8, y9⟩ := S4 s d
          rw [(C3 s d).2.2.1, B3', y5]
        · rw [C4 _ (by omega), E5 _ (by omega) (by omega), (S5 s (by omega) (by omega)).2.2]
    · rw [Z0 31 (by decide) (by decide), M0o 31 (by decide) (by decide) (by decide) (by decide), g5.2.1 31 (by omega), hq31]
    · rw [p3, g4.2.2, D2, C2, E2, A2, ← eM]
      show c.2 = m'.2
      rw [g5.2.2, ht]
  · refine ⟨-10 - nI b, c', m', ?_, ?_, Rel_F h g3 g4⟩
    · unfold jm_X8_puppet
      rw [g1, bd_s, if_neg (show ¬ (0 : Int32) ≤ -10 - nI b from ?_)]
      have e1 : (-10 : Int32) - nI b = nI 0 - nI (10 + b) := by
        rw [show (-10 : Int32) = nI 0 - nI 10 from rfl, ← nI_add 10 b]
        rw [Int32.sub_eq_add_neg, Int32.sub_eq_add_neg, Int32.sub_eq_add_neg, Int32.neg_add, Int32.sub_eq_add_neg, Int32.add_assoc]
      rw [e1]
      exact Int32.not_le.mpr (pk_sneg (by omega) (by omega))
    · unfold jm_X9_puppet
      rw [g2, bd_s, if_neg (nI_ne9 (by omega))]
