/-! PURE: HOLDS, UNDO, images -/
theorem mo_or {F R Wt Sg : Nat → Int32} {n k : Nat} (hk : k ≤ 6) (hP : ∀ s, s < k → ∃ v, 0 < v ∧ v ≤ 40 ∧ Sg s = nI v) : ∀ j, j ≤ k → (moF F R Wt Sg n k j).2 = -9 ∨ ∃ s, s < j ∧ (moF F R Wt Sg n k j).2 = nI s ∧ ¬ cutP R s
  | 0, _ => Or.inl rfl
  | j + 1, hj => by
    have ih := mo_or (F := F) (R := R) (Wt := Wt) (n := n) hk hP j (by omega)
    have h0 := moF_nn F R Wt Sg n k j
    rw [moF]
    by_cases z : ldF F R Wt k (nI j) n - Sg j ≤ (moF F R Wt Sg n k j).1
    · rw [if_pos z]
      rcases ih with h | ⟨s, hs, h⟩
      · exact Or.inl h
      · exact Or.inr ⟨s, by omega, h⟩
    · rw [if_neg z]
      refine Or.inr ⟨j, by omega, rfl, fun hc => z ?_⟩
      obtain ⟨v, hv0, hv, ev⟩ := hP j (by omega)
      rw [ld_cut hc (by omega) (by omega) n, ev]
      have : ((0 : Int32) - nI v) < 0 := pk_sneg (a := 0) (by omega) hv0
      rw [i_lt, i_0] at this
      rw [i_le, i_0] at h0
      rw [i_le]
      omega
set_option maxRecDepth 20000 in
theorem popor_all : ∀ (c : Fin 64) (s : Fin 6), c.val.testBit s.val = false → pop (c.val ||| 2 ^ s.val) = pop c.val + 1 := by decide +kernel
theorem pop_lek {v k : Nat} (hk : k ≤ 6) (hv : v < 2 ^ k) : pop v ≤ k := by
  rw [pop_cnt hk hv]; exact cnt_le _ k
theorem holds_go {N n k : Nat} {F Wt Sg : Nat → Int32} (hP : ∀ s, s < k → ∃ v, 0 < v ∧ v ≤ 40 ∧ Sg s = nI v) (hN : 2000 ≤ N) : ∀ (j N1 w cu : Nat) (c m : PS) (R : Nat → Int32), j < N1 → rowOk n k R → R 2 = nI cu → cu < 2 ^ k → k ≤ pop cu + j → w + j ≤ 6 → cV c 17 n k F → mV m n k F → (∀ l, l < n → c.1 20 l = Wt l ∧ m.1 8 l = Wt l) → (∀ s, s < k → c.1 21 s = Sg s ∧ m.1 9 s = Sg s) → rV (c.1 39) R → rV (m.1 13) R → ∃ w' c' m' R', iter (fun q => jm_X8_holds_L24 N q.1 q.2.1 q.2.2) N1 (nI w, (moF F R Wt Sg n k k).2, c) = some (nI w', c') ∧ iter (fun q => jm_X9_holds_L11 N q.1 q.2.1 q.2.2) N1 (nI w, (moF F R Wt Sg n k k).2, m) = some (nI w', m') ∧ dC c c' ∧ dM m m' ∧ rowOk n k R' ∧ rV (c'.1 39) R' ∧ rV (m'.1 13) R' := by
  intro j
  induction j with
  | zero =>
    intro N1 w cu c m R hj hR e2 hcu hkp hw hV hW hL hS r1 r2
    have hk : k ≤ 6 := hV.2.2.2.1
    have hcu' : cu < 64 := Nat.lt_of_lt_of_le hcu (pow6 hk)
    obtain ⟨N1, rfl⟩ : ∃ q, N1 = q + 1 := ⟨N1 - 1, by omega⟩
    have h9 : (moF F R Wt Sg n k k).2 = -9 := by
      rcases mo_or (F := F) (R := R) (Wt := Wt) (n := n) hk hP k (Nat.le_refl k) with h | ⟨s, hs, -, hc⟩
      · exact h
      · exfalso
        have hb : cu.testBit s = false := by
          rw [cutP_N e2 hcu' (by omega)] at hc
          simpa using hc
        have e := popor_all ⟨cu, hcu'⟩ ⟨s, by omega⟩ hb
        have e' := pop_lek hk (Nat.or_lt_two_pow hcu (Nat.pow_lt_pow_right (a := 2) (by omega) hs))
        simp only [] at e
        omega
    rw [h9]
    refine ⟨w, c, m, R, iter_e ?_, iter_e ?_, ⟨fun _ _ => rfl, rfl⟩, ⟨fun _ _ => rfl, rfl⟩, hR, r1, r2⟩
    · show jm_X8_holds_L24 N (nI w) (-9) c = _
      unfold jm_X8_holds_L24
      rw [if_pos rfl]
    · show jm_X9_holds_L11 N (nI w) (-9) m = _
      unfold jm_X9_holds_L11
      rw [if_pos rfl]
  | succ j ih =>
    intro N1 w cu c m R hj hR e2 hcu hkp hw hV hW hL hS r1 r2
    have hk : k ≤ 6 := hV.2.2.2.1
    have hcu' : cu < 64 := Nat.lt_of_lt_of_le hcu (pow6 hk)
    obtain ⟨N1, rfl⟩ : ∃ q, N1 = q + 1 := ⟨N1 - 1, by omega⟩
    rcases mo_or (F := F) (R := R) (Wt := Wt) (n := n) hk hP k (Nat.le_refl k) with h | ⟨s, hs, es, hc⟩
    · rw [h]
      refine ⟨w, c, m, R, iter_e ?_, iter_e ?_, ⟨fun _ _ => rfl, rfl⟩, ⟨fun _ _ => rfl, rfl⟩, hR, r1, r2⟩
      · show jm_X8_holds_L24 N (nI w) (-9) c = _
        unfold jm_X8_holds_L24
        rw [if_pos rfl]
      · show jm_X9_holds_L11 N (nI w) (-9) m = _
        unfold jm_X9_holds_L11
        rw [if_pos rfl]
    · have hb : cu.testBit s = false := by
        rw [cutP_N e2 hcu' (by omega)] at hc
        simpa using hc
      have e := popor_all ⟨cu, hcu'⟩ ⟨s, by omega⟩ hb
      simp only [] at e
      have hw2 : cu ||| 2 ^ s < 2 ^ k := Nat.or_lt_two_pow hcu (Nat.pow_lt_pow_right (by omega) hs)
      have hO : rowOk n k (upd R 2 (nI (cu ||| 2 ^ s))) := rk_2 hR hw2
      generalize ec2 : pU c 39 2 (nI (cu ||| 2 ^ s)) = c2
      generalize em2 : pU m 13 2 (nI (cu ||| 2 ^ s)) = m2
      have k1 : dC c c2 := by rw [← ec2]; exact dC_U ..
      have k2 : dM m m2 := by rw [← em2]; exact dM_U ..
      have s1 : rV (c2.1 39) (upd R 2 (nI (cu ||| 2 ^ s))) := by
        rw [← ec2, pU_1]; exact rV_u r1 _ _
      have s2 : rV (m2.1 13) (upd R 2 (nI (cu ||| 2 ^ s))) := by
        rw [← em2, pU_1]; exact rV_u r2 _ _
      have v1 : cV c2 17 n k F := cV_d hV (k1.1 17 (by decide)) (k1.1 24 (by decide))
      have v2 : mV m2 n k F := mV_d hW (by rw [k2.1 0 (by decide)]) (by rw [k2.1 0 (by decide)]) (k2.1 12 (by decide))
      have hL2 : ∀ l, l < n → c2.1 20 l = Wt l ∧ m2.1 8 l = Wt l := fun l hl => by
        rw [k1.1 20 (by decide), k2.1 8 (by decide)]; exact hL l hl
      have hS2 : ∀ s, s < k → c2.1 21 s = Sg s ∧ m2.1 9 s = Sg s := fun s hs => by
        rw [k1.1 21 (by decide), k2.1 9 (by decide)]; exact hS s hs
      obtain ⟨w', c', m', R', g1, g2, g3, g4, g5, g6, g7⟩ := ih N1 (w + 1) (cu ||| 2 ^ s) c2 m2 (upd R 2 (nI (cu ||| 2 ^ s))) (by omega) hO (pk_us ..) hw2 (by omega) (by omega) v1 v2 hL2 hS2 s1 s2
      rw [es]
      refine ⟨w', c', m', R', (iter_s ?_).trans g1, (iter_s ?_).trans g2, dC_t k1 g3, dM_t k2 g4, g5, g6, g7⟩
      · show jm_X8_holds_L24 N (nI w) (nI s) c = _
        unfold jm_X8_holds_L24 jm_X4_cut jm_X4_setCut
        rw [if_neg (nI_ne9 (by omega)), if_neg (show ¬ (6 : Int32) ≤ nI w from nle (a := 6) (by omega) (by omega)), bd_s, show 38 + 1 = 39 from rfl, r1 2 (by omega), e2, or_N (by omega), nm_d, bd_s, ec2, q_over (p := 38) v1 s1 hO.2.2.2 (fun l hl => (hL2 l hl).1) (fun s hs => (hS2 s hs).1) hN, bd_s, nI_1]
      · show jm_X9_holds_L11 N (nI w) (nI s) m = _
        unfold jm_X9_holds_L11
        rw [if_neg (nI_ne9 (by omega)), r2 2 (by omega), e2, or_N (by omega), nm_d, em2, q_snapping v2 s2 hO.2.2.2 (fun l hl => (hL2 l hl).2) (fun s hs => (hS2 s hs).2) hP hN, bd_s, nI_1]
theorem op_holds {N : Nat} (hN : 2000 ≤ N) : same1 (jm_X8_holds N) (jm_X9_holds N) := by
  intro c m h
  obtain ⟨n, k, b, F, Wt, Sg, bl, bt, hD, hT, hI, hSe, hNN, ht⟩ := h
  have hNN' := hNN
  obtain ⟨R, u, p, q, hR, r1, r2, -, -, -, -, -, -, -, -⟩ := hNN'
  have hR' := hR
  obtain ⟨-, -, ⟨cu, hcu, e2⟩, hA⟩ := hR'
  have hD' := hD
  obtain ⟨hV, hW, -, hL, hS, -, -⟩ := hD'
  have hk : k ≤ 6 := hV.2.2.2.1
  obtain ⟨c1, m1, d1, d2, d3, d4, d5, d6⟩ := deed (N := N) hD hT hI hSe hNN ht hN
  obtain ⟨v1, v2⟩ := d5 c1 m1 ⟨fun _ _ => rfl, rfl⟩ ⟨fun _ _ => rfl, rfl⟩
  have r1' : rV (c1.1 39) R := by rw [d3 39 (by decide) (by decide)]; exact r1
  have r2' : rV (m1.1 13) R := by rw [d4 13 (by decide) (by decide)]; exact r2
  have hL' : ∀ l, l < n → c1.1 20 l = Wt l ∧ m1.1 8 l = Wt l := fun l hl => by
    rw [d3 20 (by decide) (by decide), d4 8 (by decide) (by decide)]; exact ⟨(hL l hl).2.2.1, (hL l hl).2.2.2⟩
  have hS' : ∀ s, s < k → c1.1 21 s = Sg s ∧ m1.1 9 s = Sg s := fun s hs => by
    rw [d3 21 (by decide) (by decide), d4 9 (by decide) (by decide)]; exact ⟨(hS s hs).1, (hS s hs).2.1⟩
  obtain ⟨w', c', m', R', g1, g2, g3, g4, g5, g6, g7⟩ := holds_go (F := F) (Wt := Wt) (fun s hs => (hS s hs).2.2) hN 6 N 0 cu c1 m1 R (by omega) hR e2 hcu (by omega) (by omega) v1 v2 hL' hS' r1' r2'
  refine ⟨nI w', c', m', ?_, ?_, d6 _ _ R' g3 g4 g5 g6 g7⟩
  · unfold jm_X8_holds
    rw [d1, bd_s, q_over (p := 38) v1 r1' hA (fun l hl => (hL' l hl).1) (fun s hs => (hS' s hs).1) hN, bd_s]
    exact g1
  · unfold jm_X9_holds
    rw [d2, bd_s, q_snapping v2 r2' hA (fun l hl => (hL' l hl).2) (fun s hs => (hS' s hs).2) (fun s hs => (hS s hs).2.2) hN, bd_s]
    exact g2
theorem op_undo {N : Nat} (hN : 2000 ≤ N) : same1 (jm_X8_undo N) (jm_X9_undo N) := by
  intro c m h
  have h' := h
  obtain ⟨n, k, b, F, Wt, Sg, bl, bt, hD, hT, hI, hSe, ⟨R, u, p, q, hR, r1, r2, u1, p1, q1, n1, n2, n3, n4, hr⟩, ht⟩ := h'
  cases u with
  | zero =>
    refine qs h (r := -2) ?_ ?_
    · unfold jm_X8_undo jm_X3_takeBack
      rw [n1, if_pos (show nI 0 = 0 from rfl), bd_s, if_pos p00]
    · unfold jm_X9_undo
      rw [n3, if_pos (show nI 0 = 0 from rfl)]
  | succ u =>
    obtain ⟨c', a1, a2, a3, a4, a5, a6⟩ := q_takeBack (N := N) n1 u1 n2 p1
    obtain ⟨m', b1, b2, b3, b4, b5, b6, b7⟩ := q_undo9 (N := N) n3 u1 n4 q1 hN
    obtain ⟨R0, o1, o2, o3⟩ := hr 0 (by omega)
    refine ⟨nI u, c', m', ?_, b1, Rel_N hD hT hI hSe ht (fun a ha => ?_) a3 (fun a ha => ?_) b4 b3 ⟨R0, u, rg p 0, rg q 0, o1, fun i hi => ?_, fun i hi => ?_, by omega, by unfold rg; omega, by unfold rg; omega, a4, a5, b5, b6, ?_⟩⟩
    · unfold jm_X8_undo jm_X3_known
      rw [a1, bd_s, if_neg n10, bd_s, a4]
    · simp at ha
      exact a2 a (by omega) (by omega)
    · simp at ha
      exact b2 a (by omega) (by omega)
    · rw [a6 i hi, o2 i hi]
    · rw [b7 i hi, o3 i hi]
    · rw [a2 41 (by decide) (by decide), b2 15 (by decide) (by decide)]
      exact ring_back hr u1 p1 q1
def imI (c m : PS) (n k i ca : Nat) : Prop := imR n k (c.1 ca 2) (m.1 19 i) (c.1 (ca + 2)) (fun j => m.1 20 (21 * i + j)) (c.1 (ca + 3) 1) (c.1 (ca + 3) 2) (m.1 22 i) (m.1 23 i) (c.1 (ca + 4)) (fun j => m.1 21 (210 * i + j))
theorem relI_i {c m : PS} {n k : Nat} : relI c m n k ↔ imI c m n k 0 42 ∧ imI c m n k 1 47 := Iff.rfl
theorem imI_c {c c' m m' : PS} {n k i ca : Nat} (h : imI c m n k i ca) (h0 : c'.1 ca 2 = c.1 ca 2) (h2 : c'.1 (ca + 2) = c.1 (ca + 2)) (h3 : c'.1 (ca + 3) = c.1 (ca + 3)) (h4 : c'.1 (ca + 4) = c.1 (ca + 4)) (m1 : m'.1 19 i = m.1 19 i) (m2 : m'.1 22 i = m.1 22 i) (m3 : m'.1 23 i = m.1 23 i) (m4 : ∀ j, j < 21 → m'.1 20 (21 * i + j) = m.1 20 (21 * i + j)) (m5 : ∀ j, j < 210 → m'.1 21 (210 * i + j) = m.1 21 (210 * i + j)) : imI c' m' n k i ca := by
  unfold imI at h ⊢
  rw [h0, h2, h3, h4, m1, m2, m3]
  rcases h with h | ⟨e1, e2, R, u, p, q, a1, a2, a3, a4, a5, a6, a7, a8, a9, a10, a11⟩
  · exact Or.inl h
  · exact Or.inr ⟨e1, e2, R, u, p, q, a1, a2, fun j hj => (m4 j hj).trans (a3 j hj), a4, a5, a6, a7, a8, a9, a10, ring_congr a11 (fun _ _ => rfl) m5⟩
theorem Rel_I {c c' m m' : PS} {n k b : Nat} {F Wt Sg : Nat → Int32} {bl bt : Nat → Nat} (hD : relD c m n k b F Wt Sg bl bt) (hT : relT c m) (hS : relS c m n) (hN : relN c m n k) (ht : c.2 = m.2) (C : ∀ a, a < 42 → c'.1 a = c.1 a) (C2 : c'.2 = c.2) (M : ∀ a, a < 19 → m'.1 a = m.1 a) (M2 : m'.2 = m.2) (hI : relI c' m' n k) : Rel c' m' := by
  refine ⟨n, k, b, F, Wt, Sg, bl, bt, relD_c hD (fun a h1 h2 => C a (by omega)) (fun j _ _ => by rw [M 0 (by decide)]) (fun a h1 h2 => M a (by omega)), relT_c hT (by rw [C 1 (by decide)]) (C 2 (by decide)) (by rw [M 0 (by decide)]) (M 1 (by decide)), hI, relS_c hS (by rw [C 9 (by decide)]) (C 10 (by decide)) (C 11 (by decide)) (by rw [M 0 (by decide)]) (M 17 (by decide)) (M 18 (by decide)), relN_c hN (C 39 (by decide)) (C 40 (by decide)) (C 41 (by decide)) (M 13 (by decide)) (by rw [M 0 (by decide)]) (by rw [M 0 (by decide)]) (M 15 (by decide)), ?_⟩
  rw [C2, M2]; exact ht
theorem kp {N n k i ca : Nat} {c m : PS} (hi : i < 2) (hca : ca = 42 + 5 * i) (hN : relN c m n k) (hN2 : 2000 ≤ N) : ∃ c' m', bd (jm_X5_copyFrom N ca 37 c) (fun _ st => nm (pU st ca 2 (1 : Int32)) (fun s => bd (jm_X4_lift N 38 s) (fun v11 st12 => some ((v11, st12))))) = some (c.1 39 0, c') ∧ jm_X9_keep N (nI i) m = some (m.1 13 0, m') ∧ (∀ a, a < ca ∨ ca + 5 ≤ a → c'.1 a = c.1 a) ∧ c'.2 = c.2 ∧ (∀ a, a < 19 → m'.1 a = m.1 a) ∧ m'.2 = m.2 ∧ imI c' m' n k i ca ∧ ∀ i', i' < 2 → i' ≠ i → m'.1 19 i' = m.1 19 i' ∧ m'.1 22 i' = m.1 22 i' ∧ m'.1 23 i' = m.1 23 i' ∧ (∀ j, j < 21 → m'.1 20 (21 * i' + j) = m.1 20 (21 * i' + j)) ∧ (∀ j, j < 210 → m'.1 21 (210 * i' + j) = m.1 21 (210 * i' + j)) := by
  obtain ⟨c1, a1, a2, a3, a4, a5, a6, a7⟩ := q_scopy (N := N) (a := ca) (b := 37) (c := c) (Or.inr (by omega))
  obtain ⟨m', b1, b2, b3, b4, b5, b6, b7, b8⟩ := q_keep9 (N := N) (m := m) hi hN2
  obtain ⟨R, u, p, q, hR, r1, r2, u1, p1, q1, n1, n2, n3, n4, hr⟩ := hN
  refine ⟨pU c1 ca 2 1, m', ?_, b1, fun a ha => ?_, a3, fun a ha => b2 a (by omega) (by omega) (by omega) (by omega) (by omega), b3, Or.inr ⟨?_, ?_, R, u, p, q, hR, fun j hj => ?_, fun j hj => ?_, u1, p1, q1, ?_, ?_, ?_, ?_, ?_⟩, fun i' hi' hne => ⟨?_, ?_, ?_, fun j hj => ?_, fun j hj => ?_⟩⟩
  · rw [a1, bd_s, nm_d]
    refine bd_e ?_
    show some ((pU c1 ca 2 1).1 39 0, _) = _
    rw [pU_n (by omega), a2 39 (by omega) (by omega) (by omega)]
  · rw [pU_n (by omega), a2 a (by omega) (by omega) (by omega)]
  · rw [pU_1, pk_us]
  · rw [b4, pk_us]
  · rw [pU_n (by omega), a4 j hj]; exact r1 j hj
  · show m'.1 20 (21 * i + j) = _
    rw [b7, if_pos (by omega), show 21 * i + j - 21 * i = j by omega]; exact r2 j hj
  · rw [pU_n (by omega), a6]; exact n1
  · rw [pU_n (by omega), a7]; exact n2
  · rw [b5, pk_us]; exact n3
  · rw [b6, pk_us]; exact n4
  · refine ring_congr hr (fun j hj => ?_) (fun j hj => ?_)
    · rw [pU_n (by omega), a5 j hj]
    · show m'.1 21 (210 * i + j) = _
      rw [b8, if_pos (by omega), show 210 * i + j - 210 * i = j by omega]
  · rw [b4, pk_un hne]
  · rw [b5, pk_un hne]
  · rw [b6, pk_un hne]
  · rw [b7, if_neg (by omega)]
  · rw [b8, if_neg (by omega)]
theorem i01 {N : Nat} {x : Int32} {c m : PS} : (jm_X8_isImage N x c = some (0, c) ∧ jm_X9_in N x 0 1 m = some (0, m)) ∨ (x = 0 ∨ x = 1) ∧ jm_X8_isImage N x c = some (1, c) ∧ jm_X9_in N x 0 1 m = some (1, m) := by
  unfold jm_X8_isImage
  rcases rng x (M := 1) (by omega) with h1 | ⟨h1, h2⟩ | ⟨v, hv, rfl⟩
  · exact Or.inl ⟨by rw [if_pos h1], in_n (Or.inl h1)⟩
  · refine Or.inl ⟨?_, in_n (b := 1) (Or.inr h2)⟩
    rw [if_neg h1, if_pos ?_]
    have e1 : (nI 1).toInt = 1 := rfl
    have e2 : (2 : Int32).toInt = 2 := rfl
    rw [i_lt, e1] at h2
    rw [i_le, e2]; omega
  · refine Or.inr ⟨?_, ?_, in01 (by omega)⟩
    · rcases (show v = 0 ∨ v = 1 by omega) with rfl | rfl
      · exact Or.inl rfl
      · exact Or.inr rfl
    · rw [if_neg (nI_pos (by omega)), if_neg (show ¬ (2 : Int32) ≤ nI v from nle (a := 2) (by omega) (by omega))]
theorem op_keep {N : Nat} {x : Int32} (hN : 2000 ≤ N) : same1 (jm_X8_keep N x) (jm_X9_keep N x) := by
  intro c m h
  have h' := h
  obtain ⟨n, k, b, F, Wt, Sg, bl, bt, hD, hT, hI, hSe, hNN, ht⟩ := h'
  have hNN' := hNN
  obtain ⟨R, u, p, q, hR, r1, r2, -, -, -, -, -, -, -, -⟩ := hNN'
  have e0 : m.1 13 0 = c.1 39 0 := by rw [r1 0 (by omega), r2 0 (by omega)]
  rcases i01 (N := N) (x := x) (c := c) (m := m) with ⟨i1, i2⟩ | ⟨hx, i1, i2⟩
  · unfold jm_X8_keep jm_X9_keep
    rw [i1, i2, bd_s, bd_s, if_pos p00, if_pos p00]
    exact qs h rfl rfl
  · rcases hx with rfl | rfl
    · obtain ⟨c', m', g1, g2, g3, g4, g5, g6, g7, g8⟩ := kp (i := 0) (ca := 42) (by omega) rfl hNN hN
      refine ⟨c.1 39 0, c', m', ?_, by rw [← e0]; exact g2, Rel_I hD hT hSe hNN ht (fun a ha => g3 a (by omega)) g4 g5 g6 (relI_i.mpr ⟨g7, ?_⟩)⟩
      · unfold jm_X8_keep
        rw [i1, bd_s, if_neg n10, if_pos p00]
        exact g1
      · obtain ⟨k1, k2, k3, k4, k5⟩ := g8 1 (by omega) (by omega)
        exact imI_c (relI_i.mp hI).2 (by rw [g3 47 (by omega)]) (g3 _ (by omega)) (g3 _ (by omega)) (g3 _ (by omega)) k1 k2 k3 k4 k5
    · obtain ⟨c', m', g1, g2, g3, g4, g5, g6, g7, g8⟩ := kp (i := 1) (ca := 47) (by omega) rfl hNN hN
      refine ⟨c.1 39 0, c', m', ?_, by rw [← e0]; exact g2, Rel_I hD hT hSe hNN ht (fun a ha => g3 a (by omega)) g4 g5 g6 (relI_i.mpr ⟨?_, g7⟩)⟩
      · unfold jm_X8_keep
        rw [i1, bd_s, if_neg n10, if_neg n10, if_pos rfl]
        exact g1
      · obtain ⟨k1, k2, k3, k4, k5⟩ := g8 0 (by omega) (by omega)
        exact imI_c (relI_i.mp hI).1 (by rw [g3 42 (by omega)]) (g3 _ (by omega)) (g3 _ (by omega)) (g3 _ (by omega)) k1 k2 k3 k4 k5
theorem bk {N n k i ca : Nat} {c m : PS} {b : Nat} {F Wt Sg : Nat → Int32} {bl bt : Nat → Nat} (hi : i < 2) (hca : ca = 42 + 5 * i) (hD : relD c m n k b F Wt Sg bl bt) (hT : relT c m) (hI : relI c m n k) (hS : relS c m n) (ht : c.2 = m.2) (hm : imI c m n k i ca) (hN2 : 2000 ≤ N) : (c.1 ca 2 = 0 ∧ jm_X9_back N (nI i) m = some (-2, m)) ∨ (¬ c.1 ca 2 = 0 ∧ ∃ r c' m', bd (jm_X5_copyFrom N 37 ca c) (fun _ s => bd (jm_X4_lift N 38 s) (fun v11 st12 => some ((v11, st12)))) = some (r, c') ∧ jm_X9_back N (nI i) m = some (r, m') ∧ Rel c' m') := by
  rcases hm with ⟨e1, e2⟩ | ⟨e1, e2, R, u, p, q, hR, r1, r2, u1, p1, q1, n1, n2, n3, n4, hr⟩
  · refine Or.inl ⟨e1, ?_⟩
    unfold jm_X9_back
    rw [in01 hi, bd_s, if_neg n10, inB_nI hi (by omega), gd_t, cl (by omega), e2, if_pos p00]
  · refine Or.inr ⟨by rw [e1]; exact n10, ?_⟩
    obtain ⟨c1, a1, a2, a3, a4, a5, a6, a7⟩ := q_scopy (N := N) (a := 37) (b := ca) (c := c) (Or.inl (by omega))
    obtain ⟨m', b1, b2, b3, b4, b5, b6, b7, b8⟩ := q_back9 (N := N) (m := m) hi (by rw [e2]; exact n10) hN2
    refine ⟨R 0, c1, m', ?_, ?_, Rel_N hD hT hI hS ht (fun a ha => ?_) a3 (fun a ha => ?_) b4 b3 ⟨R, u, p, q, hR, fun j hj => ?_, fun j hj => ?_, u1, p1, q1, ?_, ?_, ?_, ?_, ?_⟩⟩
    · rw [a1, bd_s]
      refine bd_e ?_
      show some (c1.1 39 0, c1) = _
      rw [a4 0 (by omega), r1 0 (by omega)]
    · rw [b1]
      have := r2 0 (by omega)
      simp only [Nat.add_zero] at this
      rw [this]
    · simp at ha
      exact a2 a (by omega) (by omega) (by omega)
    · simp at ha
      exact b2 a (by omega) (by omega) (by omega)
    · rw [a4 j hj]; exact r1 j hj
    · rw [b7 j hj]; exact r2 j hj
    · rw [a6]; exact n1
    · rw [a7]; exact n2
    · rw [b5]; exact n3
    · rw [b6]; exact n4
    · exact ring_congr hr a5 b8
theorem op_back {N : Nat} {x : Int32} (hN : 2000 ≤ N) : same1 (jm_X8_back N x) (jm_X9_back N x) := by
  intro c m h
  have h' := h
  obtain ⟨n, k, b, F, Wt, Sg, bl, bt, hD, hT, hI, hSe, hNN, ht⟩ := h'
  rcases i01 (N := N) (x := x) (c := c) (m := m) with ⟨i1, i2⟩ | ⟨hx, i1, i2⟩
  · unfold jm_X8_back jm_X9_back
    rw [i1, i2, bd_s, bd_s, if_pos p00, if_pos p00]
    exact qs h rfl rfl
  · rcases hx with rfl | rfl
    · rcases bk (N := N) (i := 0) (ca := 42) (by omega) rfl hD hT hI hSe ht (relI_i.mp hI).1 hN with ⟨z, g⟩ | ⟨z, r, c', m', g1, g2, g3⟩
      · refine qs h ?_ g
        unfold jm_X8_back
        rw [i1, bd_s, if_neg n10, if_pos p00, if_pos z]
      · refine ⟨r, c', m', ?_, g2, g3⟩
        unfold jm_X8_back
        rw [i1, bd_s, if_neg n10, if_pos p00, if_neg z, if_pos p00]
        exact g1
    · rcases bk (N := N) (i := 1) (ca := 47) (by omega) rfl hD hT hI hSe ht (relI_i.mp hI).2 hN with ⟨z, g⟩ | ⟨z, r, c', m', g1, g2, g3⟩
      · refine qs h ?_ g
        unfold jm_X8_back
        rw [i1, bd_s, if_neg n10, if_neg n10, if_pos rfl, if_pos z]
      · refine ⟨r, c', m', ?_, g2, g3⟩
        unfold jm_X8_back
        rw [i1, bd_s, if_neg n10, if_neg n10, if_pos rfl, if_neg z, if_neg n10, if_pos rfl]
        exact g1
