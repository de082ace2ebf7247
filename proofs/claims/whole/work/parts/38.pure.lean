/-! PURE: more questions; what was seen; kinds -/
theorem rng (x : Int32) {M : Nat} (hM : M < 100000) : x < 0 ∨ (¬ x < 0 ∧ nI M < x) ∨ ∃ j, j ≤ M ∧ x = nI j := by
  by_cases h : x < 0
  · exact Or.inl h
  · by_cases h2 : nI M < x
    · exact Or.inr (Or.inl ⟨h, h2⟩)
    · exact Or.inr (Or.inr (nI_of2 (M := nI M) (n := M) (nI_toInt (by omega)) h (Int32.not_lt.mp h2)))
theorem rng_i {N j M : Nat} {m : PS} (h : j ≤ M) (hM : M < 100000) : jm_X9_in N (nI j) 0 (nI M) m = some (1, m) := in_y (nI_pos (by omega)) (nI_nlt h (by omega))
theorem nlt_le {x y : Int32} (h : x < y) : ¬ y ≤ x := Int32.not_le.mpr h
theorem op_reach {N : Nat} {x y : Int32} (hN : 2000 ≤ N) : same1 (jm_X8_reach N x y) (jm_X9_reach N x y) := by
  intro c m h
  have h' := h
  obtain ⟨n, k, b, F, Wt, Sg, bl, bt, ⟨hV, hW, hsym, hL, hS, hB, hB'⟩, hT, hI, hSe, ⟨R, u, p, q, hR, r1, r2, u1, p1, q1, n1, n2, n3, n4, hr⟩, ht⟩ := h'
  obtain ⟨⟨v0, hv0, e0⟩, ⟨t0, ht0, e1⟩, ⟨cu, hcu, e2⟩, hA⟩ := hR
  have hn : n ≤ 8 := hV.2.2.1
  have p8 := pow8 hn
  have pp : 0 < 2 ^ n := Nat.two_pow_pos n
  have eb : (1 : Int32) <<< (nI n &&& 31) = nI (2 ^ n) := b1 (s := n) (by omega)
  have eb1 : nI (2 ^ n) - 1 = nI (2 ^ n - 1) := by rw [cd_0, cd_in pp]; rfl
  rcases rng x (M := 2 ^ n - 1) (by omega) with h1 | ⟨h1, h2⟩ | ⟨v, hv, rfl⟩
  · unfold jm_X8_reach jm_X9_reach
    rw [if_pos h1, in_n (Or.inl h1), bd_s, if_pos p00]
    exact qs h rfl rfl
  · unfold jm_X8_reach jm_X9_reach
    rw [if_neg h1, hV.1, hW.1, eb, eb1, in_n (Or.inr h2), bd_s, if_pos p00, if_pos (show nI (2 ^ n) ≤ x by
      rw [i_lt, nI_toInt (by omega)] at h2
      rw [i_le, nI_toInt (by omega)]; omega)]
    exact qs h rfl rfl
  · have hv' : v < 2 ^ n := by omega
    have c1 : ∀ a b : Option (Int32 × PS), (if nI v < 0 then a else if ((1 : Int32) <<< ((c.1 17 7) &&& 31)) ≤ nI v then a else b) = b := fun a b => by
      rw [if_neg (nI_pos (by omega)), hV.1, eb, if_neg (nle hv' (by omega))]
    have m1 : jm_X9_in N (nI v) 0 (((1 : Int32) <<< ((m.1 0 18) &&& 31)) - 1) m = some (1, m) := by
      rw [hW.1, eb, eb1]; exact rng_i hv (by omega)
    rcases rng y (M := 2) (by omega) with h1 | ⟨h1, h2⟩ | ⟨w, hw, rfl⟩
    · unfold jm_X8_reach jm_X9_reach
      rw [c1, if_pos h1, m1, bd_s, if_neg n10, in_n (Or.inl h1), bd_s, if_pos p00]
      exact qs h rfl rfl
    · unfold jm_X8_reach jm_X9_reach
      rw [c1, if_neg h1, if_neg (show ¬ y ≤ 2 from nlt_le h2), m1, bd_s, if_neg n10, in_n (b := 2) (Or.inr h2), bd_s, if_pos p00]
      exact qs h rfl rfl
    · have hx : nI w = 0 ∨ nI w = 1 ∨ nI w = 2 := by
        rcases (show w = 0 ∨ w = 1 ∨ w = 2 by omega) with rfl | rfl | rfl
        · exact Or.inl rfl
        · exact Or.inr (Or.inl rfl)
        · exact Or.inr (Or.inr rfl)
      refine qry h ?_ (q_reach9 hW r2 hA hv' e0 hv0 e1 ht0 hx hN)
      unfold jm_X8_reach
      obtain ⟨c', g1, g2⟩ := q_near (N := N) hV r1 hA hv' e0 hv0 e1 ht0 hN
      rw [c1, if_neg (nI_pos (by omega)), if_pos (show nI w ≤ 2 from yle (b := 2) hw (by omega)), g1, bd_s]
      refine ⟨c', ?_, g2⟩
      have inv := rcF_inv (F := F) (R := R) (n := n) (k := k) (v := v) hv0 ht0 287 (by omega)
      generalize rcF F R n k v v0 t0 (7 * 41) = o at inv ⊢
      cases o with
      | none => rfl
      | some q =>
        obtain ⟨i1, i2, i3⟩ := inv q rfl
        obtain ⟨d1, d2, d3⟩ := rk_dec (q := q) i3 (by omega) i2
        rw [show en1 (some q) = nI (rk q) from rfl, if_neg (nI_ne9 (by unfold rk; omega)), d1, d2, d3]
        rcases (show w = 0 ∨ w = 1 ∨ w = 2 by omega) with rfl | rfl | rfl
        · rfl
        · rfl
        · rfl
theorem op_play {N : Nat} {x : Int32} (hN : 2000 ≤ N) : same1 (jm_X8_play N x) (jm_X9_play N x) := by
  intro c m h
  have h' := h
  obtain ⟨n, k, b, F, Wt, Sg, bl, bt, ⟨hV, hW, hsym, hL, hS, hB, hB'⟩, hT, hI, hSe, ⟨R, u, p, q, hR, r1, r2, u1, p1, q1, n1, n2, n3, n4, hr⟩, ht⟩ := h'
  obtain ⟨⟨v0, hv0, e0⟩, ⟨t0, ht0, e1⟩, ⟨cu, hcu, e2⟩, hA⟩ := hR
  have hb := hB.2.1
  have hm1 : (-1 : Int32).toInt = -1 := rfl
  by_cases a1 : x < -1
  · unfold jm_X8_play jm_X9_play
    rw [if_pos a1, in_n (Or.inl a1), bd_s, if_pos p00]
    exact qs h rfl rfl
  · by_cases a2 : x < 7
    · have hx : x = -1 ∨ ∃ i, i < 7 ∧ x = nI i := by
        by_cases z : x < 0
        · left
          rw [i_lt, hm1] at a1
          rw [i_lt, i_0] at z
          rw [i_eq, hm1]; omega
        · right
          rcases pk_ix x (show 7 < 2 ^ 31 by omega) with z' | z' | ⟨j, hj, e⟩
          · exact absurd z' z
          · exact absurd a2 (Int32.not_lt.mpr z')
          · exact ⟨j, hj, e⟩
      refine qry h ?_ (q_play9 (p0 := (v0, t0)) hB' ⟨hv0, ht0⟩ (by rw [r2 0 (by omega), e0]) (by rw [r2 1 (by omega), e1]) hx (fun c' g1 g2 => ⟨g1, hb, fun i hi => ⟨(g2 i hi).1, (g2 i hi).2, (hB.2.2 i hi).2.2.1, (hB.2.2 i hi).2.2.2⟩⟩) hN)
      unfold jm_X8_play
      rw [if_neg a1, if_pos a2, hB.1]
      obtain ⟨c', g1, g2, g3, g4⟩ := q_plan (N := N) (p0 := (v0, t0)) hB ⟨hv0, ht0⟩ (by rw [r1 0 (by omega), e0]) (by rw [r1 1 (by omega), e1]) hN
      unfold plA
      rcases hx with rfl | ⟨i, hi, rfl⟩
      · rw [if_pos (show (-1 : Int32) < nI b by rw [i_lt, hm1, nI_toInt (by omega)]; omega), if_pos (show (-1 : Int32) < 0 by decide), g1, bd_s, if_neg (show ¬ (0 : Int32) ≤ -1 by decide)]
        exact ⟨c', bd_e (by rw [← g3]; rfl), g2⟩
      · rw [if_neg (nI_pos (n := i) (by omega))]
        by_cases z : i < b
        · rw [if_pos (nI_lt z (by omega)), if_pos (nI_lt z (by omega)), g1, bd_s, if_pos (nI_pos' (by omega))]
          refine ⟨c', bd_e ?_, g2⟩
          unfold jm_X2_beatAt
          rw [inB_nI hi (by omega), gd_t, cl (by omega), g4 i z]
        · rw [if_neg (nI_nlt (a := i) (b := b) (by omega) (by omega)), if_neg (nI_nlt (a := i) (b := b) (by omega) (by omega))]
          exact ⟨c, rfl, cE_r c⟩
    · unfold jm_X8_play jm_X9_play
      rw [if_neg a1, if_neg a2, in_n (Or.inr (show (6 : Int32) < x by
        have h6 : (6 : Int32).toInt = 6 := rfl
        have h7 : (7 : Int32).toInt = 7 := rfl
        rw [i_lt, h7] at a2
        rw [i_lt, h6]; omega)), bd_s, if_pos p00]
      exact qs h rfl rfl
theorem nzB_nI {a : Nat} (h0 : 0 < a) (h : a < 100000) : nzB (nI a) = true := decide_eq_true (nI_ne0 h0 (by omega))
theorem op_odds {N : Nat} {x y z : Int32} (hN : 2000000 ≤ N) : same1 (jm_X8_odds N x y z) (jm_X9_odds N x y z) := by
  intro c m h
  have h' := h
  obtain ⟨n, k, b, F, Wt, Sg, bl, bt, ⟨hV, hW, hsym, hL, hS, hB, hB'⟩, hT, hI, hSe, ⟨R, u, p, q, hR, r1, r2, u1, p1, q1, n1, n2, n3, n4, hr⟩, ht⟩ := h'
  obtain ⟨⟨v0, hv0, e0⟩, ⟨t0, ht0, e1⟩, ⟨cu, hcu, e2⟩, hA⟩ := hR
  have hk : k ≤ 6 := hV.2.2.2.1
  have hcu' : cu < 64 := Nat.lt_of_lt_of_le hcu (pow6 hk)
  rcases isL (N := N) (x := x) hV.1 hW.1 hV.2.2.1 with ⟨⟨l, hl, rfl⟩, i1, i2⟩ | ⟨i1, i2⟩
  · rcases rng y (M := 10) (by omega) with h1 | ⟨h1, h2⟩ | ⟨v, hv, rfl⟩
    · unfold jm_X8_odds jm_X9_odds
      rw [i1, i2, bd_s, bd_s, if_neg n10, if_neg n10, if_pos h1, in_n (Or.inl h1), bd_s, if_pos p00]
      exact qs h rfl rfl
    · unfold jm_X8_odds jm_X9_odds
      rw [i1, i2, bd_s, bd_s, if_neg n10, if_neg n10, if_neg h1, if_pos (show (10 : Int32) < y from h2), in_n (b := 10) (Or.inr h2), bd_s, if_pos p00]
      exact qs h rfl rfl
    · have ci : jm_X9_in N (nI v) 0 10 m = some (1, m) := rng_i (M := 10) hv (by omega)
      have cn : ¬ (10 : Int32) < nI v := nI_nlt (a := 10) hv (by omega)
      rcases rng z (M := 1) (by omega) with h1 | ⟨h1, h2⟩ | ⟨w, hw, rfl⟩
      · unfold jm_X8_odds jm_X9_odds
        rw [i1, i2, bd_s, bd_s, if_neg n10, if_neg n10, if_neg (nI_pos (by omega)), if_neg cn, ci, bd_s, if_neg n10, in_n (Or.inl h1), bd_s, if_pos p00, if_pos h1]
        exact qs h rfl rfl
      · unfold jm_X8_odds jm_X9_odds
        rw [i1, i2, bd_s, bd_s, if_neg n10, if_neg n10, if_neg (nI_pos (by omega)), if_neg cn, ci, bd_s, if_neg n10, in_n (b := 1) (Or.inr h2), bd_s, if_pos p00, if_neg h1, if_neg (show ¬ z ≤ 1 from nlt_le h2)]
        exact qs h rfl rfl
      · have hz : nI w = 0 ∨ nI w = 1 := by
          rcases (show w = 0 ∨ w = 1 by omega) with rfl | rfl
          · exact Or.inl rfl
          · exact Or.inr rfl
        refine qry h ?_ (q_odds9 hW r2 hA e2 hcu' hl hv hz hN)
        refine ⟨c, ?_, cE_r c⟩
        have hg : 0 < Nat.gcd v 10 := Nat.gcd_pos_of_pos_right v (by omega)
        have hg' : Nat.gcd v 10 ≤ 10 := Nat.gcd_le_right v (by omega)
        have hL : bN (lfP F R l) k < 64 := Nat.lt_of_lt_of_le (bN_lt _ k) (pow6 hk)
        have hp := pop_le (bN (lfP F R l) k)
        unfold jm_X8_odds
        rw [i1, bd_s, if_neg n10, if_neg (nI_pos (by omega)), if_neg cn, if_neg (nI_pos (by omega)), if_pos (show nI w ≤ 1 from yle (b := 1) hw (by omega)), q_lifters hV r1 hA hl (by omega), bd_s, q_bitCount (by omega), bd_s, q_gsd hv (by omega), bd_s, nzB_nI hg (by omega), gd_t, gd_t]
        by_cases z0 : nI w = 0
        · rw [if_pos z0, if_pos z0, pk_div (by omega) hg (by omega)]
          exact bd_e (q_power (by omega) (by omega))
        · rw [if_neg z0, if_neg z0, show (10 : Int32) = nI 10 from rfl, pk_div (by omega) hg (by omega)]
          exact bd_e (q_power (by omega) (by omega))
  · unfold jm_X8_odds jm_X9_odds
    rw [i1, i2, bd_s, bd_s, if_pos p00, if_pos p00]
    exact qs h rfl rfl
theorem Rel_S {c c' m m' : PS} {n k b : Nat} {F Wt Sg : Nat → Int32} {bl bt : Nat → Nat} (hD : relD c m n k b F Wt Sg bl bt) (hT : relT c m) (hI : relI c m n k) (hN : relN c m n k) (ht : c.2 = m.2) (C : ∀ a, a ∉ ([9, 10, 11] : List Nat) → c'.1 a = c.1 a) (C2 : c'.2 = c.2) (M : ∀ a, a ∉ ([0, 17, 18] : List Nat) → m'.1 a = m.1 a) (M0 : ∀ j, j ≠ 34 → m'.1 0 j = m.1 0 j) (M2 : m'.2 = m.2) (hS : relS c' m' n) : Rel c' m' := by
  refine ⟨n, k, b, F, Wt, Sg, bl, bt, relD_c hD (fun a h1 h2 => C a (by simp; omega)) (fun j _ _ => M0 j (by omega)) (fun a h1 h2 => M a (by simp; omega)), relT_c hT (by rw [C 1 (by decide)]) (C 2 (by decide)) (M0 0 (by omega)) (M 1 (by decide)), relI_c hI (fun a ha => C a (by simp at ha ⊢; omega)) (fun a ha => M a (by simp at ha ⊢; omega)), hS, relN_c hN (C 39 (by decide)) (C 40 (by decide)) (C 41 (by decide)) (M 13 (by decide)) (M0 30 (by omega)) (M0 31 (by omega)) (M 15 (by decide)), ?_⟩
  rw [C2, M2]; exact ht
theorem op_forget {N : Nat} : same1 (jm_X8_forget N) (jm_X9_forget N) := by
  intro c m h
  obtain ⟨n, k, b, F, Wt, Sg, bl, bt, hD, hT, hI, ⟨se, SL, SH, s1, s2⟩, hN, ht⟩ := h
  refine ⟨nI se, pU c 9 4 0, pU m 0 34 0, ?_, ?_, ?_⟩
  · unfold jm_X8_forget jm_X7_empty
    rw [nm_d, bd_s, s1.1]
  · unfold jm_X9_forget
    rw [nm_d, s2.1]
  · exact Rel_S hD hT hI hN ht (fun a ha => pU_n (by simp at ha; omega)) rfl (fun a ha => pU_n (by simp at ha; omega)) (fun j hj => by rw [pU_1, pk_un hj]) rfl ⟨0, SL, SH, ⟨by rw [pU_1, pk_us]; rfl, by omega, fun j hj => absurd hj (by omega)⟩, ⟨by rw [pU_1, pk_us]; rfl, by omega, fun j hj => absurd hj (by omega)⟩⟩
theorem op_saw {N : Nat} {x y : Int32} : same1 (jm_X8_saw N x y) (jm_X9_saw N x y) := by
  intro c m h
  have h' := h
  obtain ⟨n, k, b, F, Wt, Sg, bl, bt, hD, hT, hI, ⟨se, SL, SH, s1, s2⟩, hN, ht⟩ := h'
  have hV := hD.1
  have hW := hD.2.1
  have hse := s1.2.1
  rcases isL (N := N) (x := x) hV.1 hW.1 hV.2.2.1 with ⟨⟨l, hl, rfl⟩, i1, i2⟩ | ⟨i1, i2⟩
  · rcases rng y (M := 49) (by omega) with h1 | ⟨h1, h2⟩ | ⟨v, hv, rfl⟩
    · unfold jm_X8_saw jm_X9_saw
      rw [i1, i2, bd_s, bd_s, if_neg n10, if_neg n10, if_pos h1, in_n (Or.inl h1), bd_s, if_pos p00]
      exact qs h rfl rfl
    · unfold jm_X8_saw jm_X9_saw
      rw [i1, i2, bd_s, bd_s, if_neg n10, if_neg n10, if_neg h1, if_neg (show ¬ y ≤ 49 from nlt_le h2), in_n (b := 49) (Or.inr h2), bd_s, if_pos p00]
      exact qs h rfl rfl
    · have ci : jm_X9_in N (nI v) 0 49 m = some (1, m) := rng_i (M := 49) hv (by omega)
      have cn : nI v ≤ 49 := yle (b := 49) hv (by omega)
      by_cases z : se = 6
      · refine qs h (r := -3) ?_ ?_
        · unfold jm_X8_saw jm_X7_add
          rw [i1, bd_s, if_neg n10, if_neg (nI_pos (by omega)), if_pos cn, s1.1, z, if_neg (show ¬ nI 6 < 6 by decide), bd_s, if_pos p00]
        · unfold jm_X9_saw
          rw [i2, bd_s, if_neg n10, ci, bd_s, if_neg n10, s2.1, z, if_pos (show nI 6 = 6 by decide)]
      · have hs6 : se < 6 := by omega
        refine ⟨nI (se + 1), pU (pU (pU c 10 se (nI l)) 11 se (nI v)) 9 4 (nI (se + 1)), pU (pU (pU m 17 se (nI l)) 18 se (nI v)) 0 34 (nI (se + 1)), ?_, ?_, ?_⟩
        · unfold jm_X8_saw jm_X7_add jm_X7_size
          rw [i1, bd_s, if_neg n10, if_neg (nI_pos (by omega)), if_pos cn, s1.1, if_pos (show nI se < 6 from nI_lt (b := 6) hs6 (by omega)), inB_nI hs6 (by omega), gd_t, nm_d, pU_n (show ¬ 9 = 10 by decide), s1.1, inB_nI hs6 (by omega), gd_t, nm_d, nm_d, bd_s, if_neg n10, bd_s, cl (by omega), pU_n (show ¬ 9 = 11 by decide), pU_n (show ¬ 9 = 10 by decide), s1.1, nI_1, pU_1, pk_us]
        · unfold jm_X9_saw
          rw [i2, bd_s, if_neg n10, ci, bd_s, if_neg n10, s2.1, if_neg (show ¬ nI se = 6 from fun e => by have := (nI_eq (a := se) (b := 6) (by omega) (by omega)).mp e; omega), inB_nI hs6 (by omega), gd_t, nm_d, pU_n (show ¬ 0 = 17 by decide), s2.1, inB_nI hs6 (by omega), gd_t, nm_d, nm_d, cl (by omega), pU_n (show ¬ 0 = 18 by decide), pU_n (show ¬ 0 = 17 by decide), s2.1, nI_1, pU_1, pk_us]
        · refine Rel_S hD hT hI hN ht (fun a ha => by simp at ha; rw [pU_n (by omega), pU_n (by omega), pU_n (by omega)]) rfl (fun a ha => by simp at ha; rw [pU_n (by omega), pU_n (by omega), pU_n (by omega)]) (fun j hj => by rw [pU_1, pk_un hj, pU_n (by decide), pU_n (by decide)]) rfl ⟨se + 1, upd SL se (nI l), upd SH se (nI v), ⟨by rw [pU_1, pk_us], by omega, fun j hj => ?_⟩, ⟨by rw [pU_1, pk_us], by omega, fun j hj => ?_⟩⟩
          · rw [pU_n (by decide), pU_n (by decide), pU_1, pU_n (by decide), pU_1, pU_n (by decide)]
            by_cases e : j = se
            · subst e
              rw [pk_us, pk_us, pk_us, pk_us]; exact ⟨rfl, rfl, l, hl, rfl⟩
            · rw [pk_un e, pk_un e, pk_un e, pk_un e]; exact s1.2.2 j (by omega)
          · rw [pU_n (by decide), pU_n (by decide), pU_1, pU_n (by decide), pU_1, pU_n (by decide)]
            by_cases e : j = se
            · subst e
              rw [pk_us, pk_us, pk_us, pk_us]; exact ⟨rfl, rfl, l, hl, rfl⟩
            · rw [pk_un e, pk_un e, pk_un e, pk_un e]; exact s2.2.2 j (by omega)
  · unfold jm_X8_saw jm_X9_saw
    rw [i1, i2, bd_s, bd_s, if_pos p00, if_pos p00]
    exact qs h rfl rfl
theorem Rel_T {c m : PS} {x : Int64} (h : Rel c m) : Rel (pT c x) (pT m x) := by
  obtain ⟨n, k, b, F, Wt, Sg, bl, bt, hD, hT, hI, hS, hN, ht⟩ := h
  exact ⟨n, k, b, F, Wt, Sg, bl, bt, relD_c hD (fun _ _ _ => rfl) (fun _ _ _ => rfl) (fun _ _ _ => rfl), relT_c hT rfl rfl rfl rfl, relI_c hI (fun _ _ => rfl) (fun _ _ => rfl), relS_c hS rfl rfl rfl rfl rfl rfl, relN_c hN rfl rfl rfl rfl rfl rfl rfl, rfl⟩
theorem rT {c m c' m' : PS} {x y : Int64} {f g : Option (Int32 × PS)} {r r' : Int32} (h : Rel c m) (h1 : f = some (r, c')) (e1 : c' = pT c x) (h2 : g = some (r', m')) (e2 : m' = pT m y) (e : x = y) (er : r = r') : ∃ r c' m', f = some (r, c') ∧ g = some (r, m') ∧ Rel c' m' := by
  subst e; subst er
  exact ⟨r, c', m', h1, h2, by rw [e1, e2]; exact Rel_T h⟩
theorem q_asLimb {N n k l : Nat} {st : PS} {F R : Nat → Int32} (hV : cV st 17 n k F) (hR : rV (st.1 39) R) (hA : aN n k R) (hl : l < n) (hN : 2000 ≤ N) : jm_X1_asLimb N 17 38 (nI l) st = some (hg F R l k, pT st (st.2 + 1)) := by
  unfold jm_X1_asLimb
  rw [nm_d]
  exact bd_e (q_height (st := pT st (st.2 + 1)) hV hR hA hl hN)
theorem q_asHead {N n k l : Nat} {st : PS} {F R : Nat → Int32} (hV : cV st 17 n k F) (hR : rV (st.1 39) R) (hA : aN n k R) (hl : l < n) (hN : 2000 ≤ N) : jm_X1_asHead N 17 38 (nI l) st = some (hg F R l k + st.1 20 l, pT st (st.2 + 10 + 1)) := by
  have hn : n ≤ 8 := hV.2.2.1
  unfold jm_X1_asHead
  rw [nm_d, q_asLimb (st := pT st (st.2 + 10)) hV hR hA hl hN, bd_s, inB_nI (by omega) (by omega), gd_t, cl (by omega)]
  rfl
theorem q_asFoot {N n k l : Nat} {st : PS} {F R : Nat → Int32} (hV : cV st 17 n k F) (hR : rV (st.1 39) R) (hA : aN n k R) (hl : l < n) (hN : 2000 ≤ N) : jm_X1_asFoot N 17 38 (nI l) st = some (hg F R l k - st.1 19 l, pT st (st.2 + 100 + 1)) := by
  have hn : n ≤ 8 := hV.2.2.1
  unfold jm_X1_asFoot
  rw [nm_d, q_asLimb (st := pT st (st.2 + 100)) hV hR hA hl hN, bd_s, inB_nI (by omega) (by omega), gd_t, cl (by omega)]
  rfl
theorem mul2 (x : Int32) : 2 * x = x * 2 := Int32.mul_comm 2 x
theorem op_mark {N : Nat} {x y : Int32} (hN : 2000 ≤ N) : same1 (jm_X8_mark N x y) (jm_X9_mark N x y) := by
  intro c m h
  have h' := h
  obtain ⟨n, k, b, F, Wt, Sg, bl, bt, ⟨hV, hW, hsym, hL, hS, hB, hB'⟩, hT, hI, hSe, ⟨R, u, p, q, hR, r1, r2, u1, p1, q1, n1, n2, n3, n4, hr⟩, ht⟩ := h'
  have hA := hR.2.2.2
  have hn : n ≤ 8 := hV.2.2.1
  rcases isL (N := N) (x := y) hV.1 hW.1 hV.2.2.1 with ⟨⟨l, hl, rfl⟩, i1, i2⟩ | ⟨i1, i2⟩
  · obtain ⟨L1, L2, L3, L4⟩ := hL l hl
    have ib : inB (nI l) 8 = true := inB_nI (by omega) (by omega)
    have cM : ∀ z, jm_X8_mark N x (nI l) c = z → jm_X8_mark N x (nI l) c = z := fun _ e => e
    have mM : ¬ x < 0 → ¬ (5 : Int32) < x → jm_X9_mark N x (nI l) m = (if x = (1 : Int32) then (some (hg F R l k + m.1 8 l, pT m (m.2 + 1 + 10))) else (if x = (2 : Int32) then (some (hg F R l k - m.1 7 l, pT m (m.2 + 1 + 100))) else (if x = (3 : Int32) then (some (2 * (hg F R l k + m.1 8 l), pT m (m.2 + 1 + 1010))) else (if x = (4 : Int32) then (some (hg F R l k - m.1 7 l + nI l, pT m (m.2 + 1 + 10100))) else (if x = (5 : Int32) then (some (hg F R l k + m.1 13 0, pT m (m.2 + 1 + 100000))) else (some (hg F R l k, pT m (m.2 + 1)))))))) := fun a1 a2 => by
      unfold jm_X9_mark
      rw [in_y a1 a2, bd_s, if_neg n10, i2, bd_s, if_neg n10, q_mheight hW r2 hA hl hN, bd_s, nm_d, nm_d, nm_d, nm_d, nm_d, nm_d, ib, gd_t, gd_t, gd_t, gd_t, cl (by omega)]
      rfl
    have g_asHead : ∀ z, jm_X1_asHead N 17 38 (nI l) (pT c z) = some (hg F R l k + c.1 20 l, pT c (z + 10 + 1)) := fun z => q_asHead (st := pT c z) hV r1 hA hl hN
    have g_asFoot : ∀ z, jm_X1_asFoot N 17 38 (nI l) (pT c z) = some (hg F R l k - c.1 19 l, pT c (z + 100 + 1)) := fun z => q_asFoot (st := pT c z) hV r1 hA hl hN
    have g_asLimb : ∀ z, jm_X1_asLimb N 17 38 (nI l) (pT c z) = some (hg F R l k, pT c (z + 1)) := fun z => q_asLimb (st := pT c z) hV r1 hA hl hN
    by_cases y0 : x = 0
    · subst y0
      refine rT h ?_ rfl (mM (by decide) (by decide)) rfl (show c.2 + 1 = m.2 + 1 by rw [ht]) rfl
      unfold jm_X8_mark
      rw [i1, bd_s, if_neg n10, if_pos rfl]
      exact bd_e (q_asLimb hV r1 hA hl hN)
    by_cases y1 : x = 1
    · subst y1
      refine rT h ?_ rfl (mM (by decide) (by decide)) rfl (show c.2 + 10 + 1 = m.2 + 1 + 10 by rw [ht, Int64.add_assoc, Int64.add_assoc]; rfl) (by rw [L4, ← L3])
      unfold jm_X8_mark
      rw [i1, bd_s, if_neg n10, if_neg y0, if_pos rfl]
      exact bd_e (q_asHead hV r1 hA hl hN)
    by_cases y2 : x = 2
    · subst y2
      refine rT h ?_ rfl (mM (by decide) (by decide)) rfl (show c.2 + 100 + 1 = m.2 + 1 + 100 by rw [ht, Int64.add_assoc, Int64.add_assoc]; rfl) (by rw [L2])
      unfold jm_X8_mark
      rw [i1, bd_s, if_neg n10, if_neg y0, if_neg y1, if_pos rfl]
      exact bd_e (q_asFoot hV r1 hA hl hN)
    by_cases y3 : x = 3
    · subst y3
      refine rT h ?_ rfl (mM (by decide) (by decide)) rfl (show c.2 + 1000 + 10 + 1 = m.2 + 1 + 1010 by rw [ht, Int64.add_assoc, Int64.add_assoc, Int64.add_assoc]; rfl) (show (hg F R l k + c.1 20 l) * 2 = _ by rw [mul2, L4, ← L3])
      unfold jm_X8_mark jm_X1_asCrown
      rw [i1, bd_s, if_neg n10, if_neg y0, if_neg y1, if_neg y2, if_pos rfl, nm_d, g_asHead, bd_s]
      exact bd_e rfl
    by_cases y4 : x = 4
    · subst y4
      refine rT h ?_ rfl (mM (by decide) (by decide)) rfl (show c.2 + 10000 + 100 + 1 = m.2 + 1 + 10100 by rw [ht, Int64.add_assoc, Int64.add_assoc, Int64.add_assoc]; rfl) (show hg F R l k - c.1 19 l + nI l = _ by rw [L2])
      unfold jm_X8_mark jm_X1_asToe
      rw [i1, bd_s, if_neg n10, if_neg y0, if_neg y1, if_neg y2, if_neg y3, if_pos rfl, nm_d, g_asFoot, bd_s]
      exact bd_e rfl
    by_cases y5 : x = 5
    · subst y5
      refine rT h ?_ rfl (mM (by decide) (by decide)) rfl (show c.2 + 100000 + 1 = m.2 + 1 + 100000 by rw [ht, Int64.add_assoc, Int64.add_assoc]; rfl) (show hg F R l k + c.1 39 0 = _ by rw [r1 0 (by omega), r2 0 (by omega)])
      unfold jm_X8_mark jm_X1_asHand
      rw [i1, bd_s, if_neg n10, if_neg y0, if_neg y1, if_neg y2, if_neg y3, if_neg y4, if_pos rfl, nm_d, g_asLimb, bd_s]
      exact bd_e rfl
    · refine qs h (r := -1000000) ?_ ?_
      · unfold jm_X8_mark
        rw [i1, bd_s, if_neg n10, if_neg y0, if_neg y1, if_neg y2, if_neg y3, if_neg y4, if_neg y5]
      · unfold jm_X9_mark
        rw [in_n (b := 5) (by
          rcases rng x (M := 5) (by omega) with g | ⟨-, g⟩ | ⟨j, hj, e⟩
          · exact Or.inl g
          · exact Or.inr g
          · exfalso
            rcases (show j = 0 ∨ j = 1 ∨ j = 2 ∨ j = 3 ∨ j = 4 ∨ j = 5 by omega) with z | z | z | z | z | z
            · subst z; exact y0 e
            · subst z; exact y1 e
            · subst z; exact y2 e
            · subst z; exact y3 e
            · subst z; exact y4 e
            · subst z; exact y5 e), bd_s, if_pos p00]
  · refine qs h (r := -1000000) ?_ ?_
    · unfold jm_X8_mark
      rw [i1, bd_s, if_pos p00]
    · unfold jm_X9_mark
      by_cases g : x < 0 ∨ 5 < x
      · rw [in_n g, bd_s, if_pos p00]
      · rw [in_y (fun e => g (Or.inl e)) (fun e => g (Or.inr e)), bd_s, if_neg n10, i2, bd_s, if_pos p00]
