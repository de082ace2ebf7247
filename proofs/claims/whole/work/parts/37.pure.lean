/-! PURE: questions -/
theorem qry {c m : PS} {f g : Option (Int32 × PS)} {r : Int32} (h : Rel c m) (h1 : ∃ c', f = some (r, c') ∧ cE c c') (h2 : ∃ m', g = some (r, m') ∧ mE m m') : ∃ r c' m', f = some (r, c') ∧ g = some (r, m') ∧ Rel c' m' := by
  obtain ⟨c', e1, k1⟩ := h1
  obtain ⟨m', e2, k2⟩ := h2
  exact ⟨r, c', m', e1, e2, Rel_E h k1 k2⟩
theorem qs {c m : PS} {f g : Option (Int32 × PS)} {r : Int32} (h : Rel c m) (h1 : f = some (r, c)) (h2 : g = some (r, m)) : ∃ r c' m', f = some (r, c') ∧ g = some (r, m') ∧ Rel c' m' := ⟨r, c, m, h1, h2, h⟩
theorem bd_e {x : Option (Int32 × PS)} {r : Int32} {s : PS} (h : x = some (r, s)) : bd x (fun v st => some (v, st)) = some (r, s) := by rw [h, bd_s]
theorem bd_E {x : Option (Int32 × PS)} {r : Int32} {E : PS → Prop} (h : ∃ s, x = some (r, s) ∧ E s) : ∃ s, bd x (fun v st => some (v, st)) = some (r, s) ∧ E s := by
  obtain ⟨s, e, k⟩ := h
  exact ⟨s, bd_e e, k⟩
theorem nI_z {l : Nat} (hl : l < 100000) : nI l = 0 ↔ l = 0 := nI_eq (a := l) (b := 0) (by omega) (by omega)
theorem op_limb {N : Nat} {x y : Int32} (hN : 2000 ≤ N) : same1 (jm_X8_limb N x y) (jm_X9_limb N x y) := by
  intro c m h
  have h' := h
  obtain ⟨n, k, b, F, Wt, Sg, bl, bt, ⟨hV, hW, hsym, hL, hS, hB, hB'⟩, hT, hI, hSe, ⟨R, u, p, q, hR, r1, r2, u1, p1, q1, n1, n2, n3, n4, hr⟩, ht⟩ := h'
  obtain ⟨⟨v0, hv0, e0⟩, ⟨t0, ht0, e1⟩, ⟨cu, hcu, e2⟩, hA⟩ := hR
  have hn : n ≤ 8 := hV.2.2.1
  unfold jm_X8_limb jm_X9_limb
  rcases isL (N := N) (x := x) hV.1 hW.1 hn with ⟨⟨l, hl, rfl⟩, i1, i2⟩ | ⟨i1, i2⟩
  · obtain ⟨L1, L2, L3, L4⟩ := hL l hl
    have ib : inB (nI l) 8 = true := inB_nI (by omega) (by omega)
    rw [i1, i2, bd_s, bd_s, if_neg n10, if_neg n10]
    by_cases y0 : y = 0
    · rw [if_pos y0, if_pos y0, ib, gd_t, gd_t, cl (by omega)]
      by_cases z : l = 0
      · rw [if_pos ((nI_z (by omega)).mpr z)]
        exact qs h rfl (by rw [L1, if_pos z])
      · rw [if_neg (fun e => z ((nI_z (by omega)).mp e))]
        exact qs h rfl (by rw [L1, if_neg z])
    rw [if_neg y0, if_neg y0]
    by_cases y0 : y = 1
    · rw [if_pos y0, if_pos y0, ib, gd_t, gd_t, cl (by omega)]
      exact qs h rfl (by rw [L2])
    rw [if_neg y0, if_neg y0]
    by_cases y0 : y = 2
    · rw [if_pos y0, if_pos y0, ib, gd_t, gd_t, cl (by omega)]
      exact qs h rfl (by rw [L4, L3])
    rw [if_neg y0, if_neg y0]
    by_cases y0 : y = 3
    · rw [if_pos y0, if_pos y0]
      exact qs h (bd_e (q_height hV r1 hA hl hN)) (bd_e (q_mheight hW r2 hA hl hN))
    rw [if_neg y0, if_neg y0]
    by_cases y0 : y = 4
    · rw [if_pos y0, if_pos y0]
      exact qs h (bd_e (q_bearer hV r1 hA hl hN)) (bd_e (q_borne hW r2 hA hl hN))
    rw [if_neg y0, if_neg y0]
    exact qs h rfl rfl
  · rw [i1, i2, bd_s, bd_s, if_pos p00, if_pos p00]
    exact qs h rfl rfl
theorem cut01 (R : Nat → Int32) (s : Nat) (cu : Nat) (h : R 2 = nI cu) (hc : cu < 256) (hs : s < 8) : ((R 2 >>> (nI s &&& 31)) &&& 1) = if cutP R s then 1 else 0 := by
  by_cases z : cutP R s
  · rw [if_pos z]; exact z
  · rw [if_neg z]
    unfold cutP at z
    rw [h] at z ⊢
    rw [tb hc hs] at z
    exact (tz hc hs).mpr (by simpa using z)
theorem op_string {N : Nat} {x y : Int32} (hN : 2000 ≤ N) : same1 (jm_X8_string N x y) (jm_X9_string N x y) := by
  intro c m h
  have h' := h
  obtain ⟨n, k, b, F, Wt, Sg, bl, bt, ⟨hV, hW, hsym, hL, hS, hB, hB'⟩, hT, hI, hSe, ⟨R, u, p, q, hR, r1, r2, u1, p1, q1, n1, n2, n3, n4, hr⟩, ht⟩ := h'
  obtain ⟨⟨v0, hv0, e0⟩, ⟨t0, ht0, e1⟩, ⟨cu, hcu, e2⟩, hA⟩ := hR
  have hn : n ≤ 8 := hV.2.2.1
  have hk : k ≤ 6 := hV.2.2.2.1
  have hcu' : cu < 64 := Nat.lt_of_lt_of_le hcu (pow6 hk)
  unfold jm_X8_string jm_X9_string
  rcases isS (N := N) (x := x) hV.2.1 hW.2.1 (by omega) with ⟨⟨s, hs, rfl⟩, i1, i2⟩ | ⟨i1, i2⟩
  · have ib : inB (nI s) 6 = true := inB_nI (by omega) (by omega)
    have ib3 : inB (3 + nI s) 21 = true := by rw [a3]; exact inB_nI (by omega) (by omega)
    have ib9 : inB (9 + nI s) 21 = true := by rw [a9]; exact inB_nI (by omega) (by omega)
    have ib15 : inB (15 + nI s) 21 = true := by rw [a15]; exact inB_nI (by omega) (by omega)
    rw [i1, i2, bd_s, bd_s, if_neg n10, if_neg n10]
    by_cases y0 : y = 0
    · rw [if_pos y0, if_pos y0, ib3, gd_t, a3, cl (by omega)]
      exact qs h (bd_e (q_limbOf r1 (by omega))) (by rw [r2 (3 + s) (by omega)])
    rw [if_neg y0, if_neg y0]
    by_cases y0 : y = 1
    · rw [if_pos y0, if_pos y0, ib9, gd_t, a9, cl (by omega)]
      exact qs h (bd_e (q_holeOf r1 (by omega))) (by rw [r2 (9 + s) (by omega)])
    rw [if_neg y0, if_neg y0]
    by_cases y0 : y = 2
    · rw [if_pos y0, if_pos y0, ib15, gd_t, a15, cl (by omega)]
      exact qs h (bd_e (q_lengthOf r1 (by omega))) (by rw [r2 (15 + s) (by omega)])
    rw [if_neg y0, if_neg y0]
    by_cases y0 : y = 3
    · rw [if_pos y0, if_pos y0, ib, gd_t, gd_t, cl (by omega)]
      exact qs h rfl (by rw [(hS s hs).2.1, (hS s hs).1])
    rw [if_neg y0, if_neg y0]
    by_cases y0 : y = 4
    · rw [if_pos y0, if_pos y0]
      exact qs h (bd_e (q_endOf r1 (by omega))) (bd_e (q_end r2 (by omega)))
    rw [if_neg y0, if_neg y0]
    by_cases y0 : y = 5
    · rw [if_pos y0, if_pos y0, q_isTaut hV r1 hA hs hN, q_misTaut hW r2 hA hs hN, bd_s, bd_s]
      by_cases z : ttP F R k s = true
      · rw [if_pos z, if_neg n10, if_neg n10]; exact qs h rfl rfl
      · rw [if_neg z, if_pos p00, if_pos p00]; exact qs h rfl rfl
    rw [if_neg y0, if_neg y0]
    by_cases y0 : y = 6
    · rw [if_pos y0, if_pos y0]
      exact qs h (bd_e (q_load hV r1 hA (fun l hl => (hL l hl).2.2.1) hN)) (bd_e (q_mload hW r2 hA (fun l hl => (hL l hl).2.2.2) hN))
    rw [if_neg y0, if_neg y0]
    by_cases y0 : y = 7
    · rw [if_pos y0, if_pos y0, q_isCut r1, bd_s]
      have e := cut01 R s cu e2 (by omega) (by omega)
      by_cases z : cutP R s
      · rw [if_pos z] at e
        exact qs h (r := 1) (by rw [if_pos z, if_neg n10]) (by rw [r2 2 (by omega), e])
      · rw [if_neg z] at e
        exact qs h (r := 0) (by rw [if_neg z, if_pos p00]) (by rw [r2 2 (by omega), e])
    rw [if_neg y0, if_neg y0]
    exact qs h rfl rfl
  · rw [i1, i2, bd_s, bd_s, if_pos p00, if_pos p00]
    exact qs h rfl rfl
theorem in_y {N : Nat} {y a b : Int32} {m : PS} (h1 : ¬ y < a) (h2 : ¬ b < y) : jm_X9_in N y a b m = some (1, m) := by
  unfold jm_X9_in
  rw [if_neg h1, if_neg h2]
theorem in_n {N : Nat} {y a b : Int32} {m : PS} (h : y < a ∨ b < y) : jm_X9_in N y a b m = some (0, m) := by
  unfold jm_X9_in
  by_cases h1 : y < a
  · rw [if_pos h1]
  · rw [if_neg h1, if_pos (h.resolve_left h1)]
theorem op_beat {N : Nat} {x y : Int32} : same1 (jm_X8_beat N x y) (jm_X9_beat N x y) := by
  intro c m h
  have h' := h
  obtain ⟨n, k, b, F, Wt, Sg, bl, bt, ⟨hV, hW, hsym, hL, hS, hB, hB'⟩, hT, hI, hSe, hN, ht⟩ := h'
  have hb := hB.2.1
  unfold jm_X8_beat jm_X9_beat
  rcases isB (N := N) (x := x) hB.1 hB'.1 (by omega) with ⟨⟨l, hl, rfl⟩, i1, i2⟩ | ⟨i1, i2⟩
  · have ib : inB (nI l) 7 = true := inB_nI (by omega) (by omega)
    rw [i1, i2, bd_s, bd_s, if_neg n10, if_neg n10]
    by_cases y0 : y = 0
    · subst y0
      rw [in_y (by decide) (by decide), bd_s, if_neg n10, if_pos p00, if_pos p00, ib, gd_t, gd_t, cl (by omega)]
      exact qs h rfl (by rw [(hB'.2.2 l hl).1, (hB.2.2 l hl).1])
    by_cases y1 : y = 1
    · subst y1
      rw [in_y (by decide) (by decide), bd_s, if_neg n10, if_neg y0, if_neg y0, if_pos rfl, ib, gd_t, gd_t, cl (by omega)]
      exact qs h rfl (by rw [(hB'.2.2 l hl).2.1, (hB.2.2 l hl).2.1])
    · rw [in_n (by
        rw [i_lt, i_lt]
        have a0 : ¬ y.toInt = 0 := fun e => y0 (i_eq.mpr e)
        have a1 : ¬ y.toInt = 1 := fun e => y1 (i_eq.mpr e)
        have b1 : (1 : Int32).toInt = 1 := rfl
        rw [i_0, b1]; omega), bd_s, if_pos p00, if_neg y0, if_neg y1]
      exact qs h rfl rfl
  · rw [i1, i2, bd_s, bd_s, if_pos p00, if_pos p00]
    exact qs h rfl rfl
theorem op_far {N : Nat} {x y : Int32} : same1 (jm_X8_far N x y) (jm_X9_far N x y) := by
  intro c m h
  have h' := h
  obtain ⟨n, k, b, F, Wt, Sg, bl, bt, ⟨hV, hW, hsym, hL, hS, hB, hB'⟩, hT, hI, hSe, hN, ht⟩ := h'
  have hn : n ≤ 8 := hV.2.2.1
  unfold jm_X8_far jm_X9_far
  rcases isL (N := N) (x := x) hV.1 hW.1 hn with ⟨⟨l, hl, rfl⟩, i1, i2⟩ | ⟨i1, i2⟩
  · rw [i1, i2, bd_s, bd_s, if_neg n10, if_neg n10]
    rcases isL (N := N) (x := y) hV.1 hW.1 hn with ⟨⟨a, ha, rfl⟩, j1, j2⟩ | ⟨j1, j2⟩
    · rw [j1, j2, bd_s, bd_s, if_neg n10, if_neg n10, m8', inB_nI (by omega) (by omega), gd_t, cl (by omega)]
      exact qs h (bd_e (q_apart hV hl ha)) (by rw [hW.2.2.2.2 a ha l hl, hsym a ha l hl])
    · rw [j1, j2, bd_s, bd_s, if_pos p00, if_pos p00]
      exact qs h rfl rfl
  · rw [i1, i2, bd_s, bd_s, if_pos p00, if_pos p00]
    exact qs h rfl rfl
theorem op_fell {N : Nat} {x : Int32} (hN : 2000 ≤ N) : same1 (jm_X8_fell N x) (jm_X9_fell N x) := by
  intro c m h
  have h' := h
  obtain ⟨n, k, b, F, Wt, Sg, bl, bt, ⟨hV, hW, hsym, hL, hS, hB, hB'⟩, hT, hI, hSe, ⟨R, u, p, q, hR, r1, r2, u1, p1, q1, n1, n2, n3, n4, hr⟩, ht⟩ := h'
  obtain ⟨⟨v0, hv0, e0⟩, ⟨t0, ht0, e1⟩, ⟨cu, hcu, e2⟩, hA⟩ := hR
  have hk : k ≤ 6 := hV.2.2.2.1
  have hcu' : cu < 64 := Nat.lt_of_lt_of_le hcu (pow6 hk)
  rcases isL (N := N) (x := x) hV.1 hW.1 hV.2.2.1 with ⟨⟨l, hl, rfl⟩, i1, i2⟩ | ⟨i1, i2⟩
  · refine qry h ?_ (q_fellL hW r2 hA e2 hcu' hl hN)
    unfold jm_X8_fell
    rw [i1, bd_s, if_neg n10]
    exact ⟨c, bd_e (q_lifters hV r1 hA hl hN), cE_r c⟩
  · unfold jm_X8_fell jm_X9_fell
    rw [i1, i2, bd_s, bd_s, if_pos p00, if_pos p00]
    exact qs h rfl rfl
theorem op_path {N : Nat} {x y : Int32} (hN : 2000 ≤ N) : same1 (jm_X8_path N x y) (jm_X9_path N x y) := by
  intro c m h
  have h' := h
  obtain ⟨n, k, b, F, Wt, Sg, bl, bt, ⟨hV, hW, hsym, hL, hS, hB, hB'⟩, hT, hI, hSe, ⟨R, u, p, q, hR, r1, r2, u1, p1, q1, n1, n2, n3, n4, hr⟩, ht⟩ := h'
  obtain ⟨⟨v0, hv0, e0⟩, ⟨t0, ht0, e1⟩, ⟨cu, hcu, e2⟩, hA⟩ := hR
  have hb := hB.2.1
  unfold jm_X8_path jm_X9_path
  rcases isL (N := N) (x := x) hV.1 hW.1 hV.2.2.1 with ⟨⟨l, hl, rfl⟩, i1, i2⟩ | ⟨i1, i2⟩
  · rw [i1, i2, bd_s, bd_s, if_neg n10, if_neg n10]
    rcases isB (N := N) (x := y) hB.1 hB'.1 (by omega) with ⟨⟨a, ha, rfl⟩, j1, j2⟩ | ⟨j1, j2⟩
    · rw [j1, j2, bd_s, bd_s, if_neg n10, if_neg n10]
      exact qry h (bd_E (q_hab (BL := fun i => nI (bl i)) (BT := fun i => tI (bt i)) hV r1 hA hl ha hb (fun i hi => (hB.2.2 i hi).1) (fun i hi => (hB.2.2 i hi).2.1) hN)) (bd_E (q_atBeat (BL := fun i => nI (bl i)) (BT := fun i => tI (bt i)) hW r2 hA hl ha hb (fun i hi => (hB'.2.2 i hi).1) (fun i hi => (hB'.2.2 i hi).2.1) hN))
    · rw [j1, j2, bd_s, bd_s, if_pos p00, if_pos p00]
      exact qs h rfl rfl
  · rw [i1, i2, bd_s, bd_s, if_pos p00, if_pos p00]
    exact qs h rfl rfl
theorem op_nods {N : Nat} {x : Int32} (hN : 2000 ≤ N) : same1 (jm_X8_nods N x) (jm_X9_nods N x) := by
  intro c m h
  have h' := h
  obtain ⟨n, k, b, F, Wt, Sg, bl, bt, ⟨hV, hW, hsym, hL, hS, hB, hB'⟩, hT, hI, hSe, ⟨R, u, p, q, hR, r1, r2, u1, p1, q1, n1, n2, n3, n4, hr⟩, ht⟩ := h'
  obtain ⟨⟨v0, hv0, e0⟩, ⟨t0, ht0, e1⟩, ⟨cu, hcu, e2⟩, hA⟩ := hR
  have hb := hB.2.1
  unfold jm_X8_nods jm_X9_nods
  rcases isL (N := N) (x := x) hV.1 hW.1 hV.2.2.1 with ⟨⟨l, hl, rfl⟩, i1, i2⟩ | ⟨i1, i2⟩
  · rw [i1, i2, bd_s, bd_s, if_neg n10, if_neg n10]
    obtain ⟨x1, a1, a2, a3⟩ := q_nods (BL := fun i => nI (bl i)) (BT := fun i => tI (bt i)) hV r1 hA hl hb hB.1 (fun i hi => (hB.2.2 i hi).1) (fun i hi => (hB.2.2 i hi).2.1) hN
    obtain ⟨x2, b1, b2, b3⟩ := q_nods9 (BL := fun i => nI (bl i)) (BT := fun i => tI (bt i)) hW r2 hA hl hb hB'.1 (fun i hi => (hB'.2.2 i hi).1) (fun i hi => (hB'.2.2 i hi).2.1) hN
    exact qry h (r := x1.1) ⟨x1.2, a1, a3⟩ ⟨x2.2, by rw [b1, a2, ← b2], b3⟩
  · rw [i1, i2, bd_s, bd_s, if_pos p00, if_pos p00]
    exact qs h rfl rfl
theorem op_now {N : Nat} {x : Int32} (hN : 2000 ≤ N) : same1 (jm_X8_now N x) (jm_X9_now N x) := by
  intro c m h
  have h' := h
  obtain ⟨n, k, b, F, Wt, Sg, bl, bt, ⟨hV, hW, hsym, hL, hS, hB, hB'⟩, hT, hI, hSe, ⟨R, u, p, q, hR, r1, r2, u1, p1, q1, n1, n2, n3, n4, hr⟩, ht⟩ := h'
  obtain ⟨⟨v0, hv0, e0⟩, ⟨t0, ht0, e1⟩, ⟨cu, hcu, e2⟩, hA⟩ := hR
  have hk : k ≤ 6 := hV.2.2.2.1
  have hcu' : cu < 64 := Nat.lt_of_lt_of_le hcu (pow6 hk)
  unfold jm_X8_now jm_X9_now
  by_cases y0 : x = 0
  · rw [if_pos y0, if_pos y0]
    exact qs h (bd_e rfl) (by rw [r2 0 (by omega), r1 0 (by omega)])
  rw [if_neg y0, if_neg y0]
  by_cases y0 : x = 1
  · rw [if_pos y0, if_pos y0]
    exact qs h (bd_e rfl) (by rw [r2 1 (by omega), r1 1 (by omega)])
  rw [if_neg y0, if_neg y0]
  by_cases y0 : x = 2
  · rw [if_pos y0, if_pos y0]
    exact qs h (bd_e rfl) (by rw [r2 2 (by omega), r1 2 (by omega)])
  rw [if_neg y0, if_neg y0]
  by_cases y0 : x = 3
  · rw [if_pos y0, if_pos y0]
    exact qs h (bd_e (q_grounded hV r1 hA hN)) (bd_e (q_ground hW r2 hA hN))
  rw [if_neg y0, if_neg y0]
  by_cases y0 : x = 4
  · rw [if_pos y0, if_pos y0]
    exact qs h (bd_e (q_taut hV r1 hA hN)) (bd_e (q_mtaut hW r2 hA hN))
  rw [if_neg y0, if_neg y0]
  by_cases y0 : x = 5
  · rw [if_pos y0, if_pos y0]
    exact qs h (bd_e (q_together hV r1 hA hN)) (bd_e (q_heights hW r2 hA hN))
  rw [if_neg y0, if_neg y0]
  by_cases y0 : x = 6
  · rw [if_pos y0, if_pos y0]
    have e := bu_bw (ndQ_pop (F := F) (R := R) (n := n) (k := k) (h := hld k cu) (Nat.lt_of_lt_of_le (hld_lt hk) (pow6 hk)))
    refine qry h (bd_E (q_needed hV r1 hA e2 hcu' hN)) (bd_E ?_)
    rw [e]
    exact q_need hW r2 hA e2 hcu' hN
  rw [if_neg y0, if_neg y0]
  by_cases y0 : x = 7
  · rw [if_pos y0, if_pos y0]
    exact qs h (bd_e (q_crossings hV r1 hN)) (bd_e (q_crossed hW r2 hN))
  rw [if_neg y0, if_neg y0]
  exact qs h rfl rfl
theorem op_suspects {N : Nat} (hN : 2000 ≤ N) : same1 (jm_X8_suspects N) (jm_X9_suspects N) := by
  intro c m h
  have h' := h
  obtain ⟨n, k, b, F, Wt, Sg, bl, bt, ⟨hV, hW, hsym, hL, hS, hB, hB'⟩, hT, hI, ⟨se, SL, SH, s1, s2⟩, ⟨R, u, p, q, hR, r1, r2, u1, p1, q1, n1, n2, n3, n4, hr⟩, ht⟩ := h'
  exact qry h (bd_E (q_suspected hV r1 hR.2.2.2 s1 hN)) (bd_E (q_suspected9 hW r2 hR.2.2.2 s2 hN))
theorem op_look {N : Nat} (hN : 2000 ≤ N) : same1 (jm_X8_look N) (jm_X9_look N) := by
  intro c m h
  have h' := h
  obtain ⟨n, k, b, F, Wt, Sg, bl, bt, ⟨hV, hW, hsym, hL, hS, hB, hB'⟩, hT, hI, ⟨se, SL, SH, s1, s2⟩, ⟨R, u, p, q, hR, r1, r2, u1, p1, q1, n1, n2, n3, n4, hr⟩, ht⟩ := h'
  exact qry h (bd_E (q_look hV r1 hR.2.2.2 s1 hN)) (q_look9 hW r2 hR.2.2.2 s2 hN)
theorem op_holes {N : Nat} {x : Int32} (hN : 2000 ≤ N) : same1 (jm_X8_holes N x) (jm_X9_holes N x) := by
  intro c m h
  have h' := h
  obtain ⟨n, k, b, F, Wt, Sg, bl, bt, ⟨hV, hW, hsym, hL, hS, hB, hB'⟩, hT, hI, ⟨se, SL, SH, s1, s2⟩, ⟨R, u, p, q, hR, r1, r2, u1, p1, q1, n1, n2, n3, n4, hr⟩, ht⟩ := h'
  have hk : k ≤ 6 := hV.2.2.2.1
  unfold jm_X8_holes jm_X9_holes
  rcases isS (N := N) (x := x) hV.2.1 hW.2.1 (by omega) with ⟨⟨s, hs, rfl⟩, i1, i2⟩ | ⟨i1, i2⟩
  · rw [i1, i2, bd_s, bd_s, if_neg n10, if_neg n10, q_isCut r1, q_has, r2 2 (by omega)]
    by_cases z : cutP R s
    · rw [if_pos z, bd_s, bd_s, if_neg n10, if_neg n10]
      exact qs h rfl rfl
    · rw [if_neg z, bd_s, bd_s, if_pos p00, if_pos p00]
      refine qry h (bd_E (q_fitting hV r1 hR.2.2.2 s1 hs hN)) ?_
      obtain ⟨m1, g1, g2, g3⟩ := q_copyNow (N := N) r2 hN
      rw [g1, bd_s]
      exact q_holesL hW hR.2.2.2 s2 hs g2 g3 hN
  · rw [i1, i2, bd_s, bd_s, if_pos p00, if_pos p00]
    exact qs h rfl rfl
