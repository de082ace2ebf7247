/-! PURE: all items of a text -/
theorem rdR_le {c m : PS} {it : Nat} (h : rdR c m it) : it ≤ 23 := by
  obtain ⟨n, k, b, z1, z2, hL, hS, hB, -, -, hit⟩ := h
  have h1 := hL.2.2.1
  have h2 := hS.2.2.1
  have h3 := hB.2.2.1
  have q : ∀ z : Bool, zn z ≤ 1 := fun z => by cases z <;> decide
  have q1 := q z1
  have q2 := q z2
  omega
theorem all_go {N nb : Nat} {T : Nat → Nat} (hN : 2000 ≤ N) : ∀ (j N1 it : Nat) (c m : PS), j < N1 → it + j = 24 → txC c nb T → txM m nb T → hand c m T nb → rdR c m it → (∃ c' m' it', iter (fun q => jm_X6_readInto_L25 N 27 q.1 q.2) N1 (nI it, c) = some (nI it', c') ∧ iter (fun q => jm_X9_faultOf_L50 N q) N1 m = some (-9, m') ∧ rdR c' m' it' ∧ cF c c' ∧ mF m m') ∨ (∃ c' m' b, b ≤ 170 ∧ iter (fun q => jm_X6_readInto_L25 N 27 q.1 q.2) N1 (nI it, c) = some (-10 - nI b, c') ∧ iter (fun q => jm_X9_faultOf_L50 N q) N1 m = some (nI b, m') ∧ cF c c' ∧ mF m m') := by
  intro j
  induction j with
  | zero =>
    intro N1 it c m _ hj _ _ _ hR
    have := rdR_le hR
    omega
  | succ j ih =>
    intro N1 it c m hj1 hj hc hm hh hR
    have hnb := hc.2.1
    have hit := rdR_le hR
    obtain ⟨N1, rfl⟩ : ∃ q, N1 = q + 1 := ⟨N1 - 1, by omega⟩
    have h170 : ¬ (170 : Int32) ≤ nI it := nle (a := 170) (by omega) (by omega)
    have bad : ¬ c.1 1 2 = 0 → ¬ m.1 0 4 = -1 → (∃ c1 m1, jm_X6_readItem N 27 c = some (0, c1) ∧ jm_X9_readsItem N m = some (0, m1) ∧ hand c1 m1 T nb ∧ cF c c1 ∧ mF m m1) → (∃ c' m' b, b ≤ 170 ∧ iter (fun q => jm_X6_readInto_L25 N 27 q.1 q.2) (N1 + 1) (nI it, c) = some (-10 - nI b, c') ∧ iter (fun q => jm_X9_faultOf_L50 N q) (N1 + 1) m = some (nI b, m') ∧ cF c c' ∧ mF m m') := by
      rintro n1 n2 ⟨c1, m1, h1, h2, h3, h4, h5⟩
      obtain ⟨b, e, q1, q2, q3, q4, q5, q6, q7⟩ := h3
      refine ⟨c1, m1, b, by omega, iter_e ?_, iter_e ?_, h4, h5⟩
      · show jm_X6_readInto_L25 N 27 (nI it) c = _
        unfold jm_X6_readInto_L25
        rw [if_neg n1, if_neg h170, h1, bd_s, if_pos p00, q3]
      · show jm_X9_faultOf_L50 N m = _
        unfold jm_X9_faultOf_L50
        rw [if_neg n2, h2, bd_s, if_pos p00]
        rcases q7 with ⟨a1, a2, a3⟩ | ⟨a1, a2, a3, a4, a5, a6⟩ | ⟨a1, a2, a3, a4⟩ | ⟨a1, a2, a3⟩ | ⟨a1, a2, a3⟩
        · rw [if_pos a3, h5.2.1 0 (Or.inl rfl), hm.1, a1]
        · rw [if_neg (show ¬ m1.1 0 4 = -1 by
            rw [a6]
            split
            · intro q
              have w : (nI (T b)).toInt = (T b : Int) := nI_toInt (by omega)
              rw [q] at w
              have : (-1 : Int32).toInt = -1 := rfl
              omega
            · decide), q5]
        · rw [if_neg (show ¬ m1.1 0 4 = -1 by rw [a3]; decide), q5]
        · rw [if_neg (show ¬ m1.1 0 4 = -1 by rw [a3]; decide), q5]
        · rw [if_neg (show ¬ m1.1 0 4 = -1 by rw [a3]; decide), q5]
    have hh' := hh
    obtain ⟨b, e, q1, q2, q3, q4, q5, q6, q7⟩ := hh'
    have noI : ¬ m.1 0 4 = 98 → ¬ m.1 0 4 = 108 → ¬ m.1 0 4 = 115 → ¬ m.1 0 4 = 116 → ¬ m.1 0 4 = 117 → jm_X9_readsItem N m = some (0, m) := fun r1 r2 r3 r4 r5 => by
      unfold jm_X9_readsItem
      rw [if_neg r1, if_neg r2, if_neg r3, if_neg r4, if_neg r5]
    rcases q7 with ⟨a1, a2, a3⟩ | ⟨a1, a2, a3, a4, a5, a6⟩ | ⟨a1, a2, a3, a4⟩ | ⟨a1, a2, a3⟩ | ⟨a1, a2, a3⟩
    · refine Or.inl ⟨c, m, it, iter_e ?_, iter_e ?_, hR, cF_r c, mF_r m⟩
      · show jm_X6_readInto_L25 N 27 (nI it) c = _
        unfold jm_X6_readInto_L25
        rw [if_pos a2]
      · show jm_X9_faultOf_L50 N m = _
        unfold jm_X9_faultOf_L50
        rw [if_pos a3]
    · by_cases z : e - b = 1
      · rw [if_pos z] at a6
        have n1 : ¬ c.1 1 2 = 0 := by rw [a3]; decide
        have n2 : ¬ m.1 0 4 = -1 := by
          rw [a6]
          intro q
          have w : (nI (T b)).toInt = (T b : Int) := nI_toInt (by omega)
          rw [q] at w
          have : (-1 : Int32).toInt = -1 := rfl
          omega
        rcases item (N := N) (it := it) hc hm a1 (show e = b + 1 by omega) q2 a3 q3 q4 q6 a6 hh hR hN with hb | ⟨c1, m0, m1, h1, h2, h3, h4, h5, h6, h7, h8, h9⟩
        · exact Or.inr (bad n1 n2 hb)
        · have s1 : iter (fun q => jm_X6_readInto_L25 N 27 q.1 q.2) (N1 + 1) (nI it, c) = iter (fun q => jm_X6_readInto_L25 N 27 q.1 q.2) N1 (nI (it + 1), c1) := iter_s (by
            show jm_X6_readInto_L25 N 27 (nI it) c = _
            unfold jm_X6_readInto_L25
            rw [if_neg n1, if_neg h170, h1, bd_s, if_neg n10, nI_1])
          have s2 : iter (fun q => jm_X9_faultOf_L50 N q) (N1 + 1) m = iter (fun q => jm_X9_faultOf_L50 N q) N1 m1 := iter_s (by
            show jm_X9_faultOf_L50 N m = _
            unfold jm_X9_faultOf_L50
            rw [if_neg n2, h2, bd_s, if_neg n10, nm_d, h3, bd_s])
          rw [s1, s2]
          rcases ih N1 (it + 1) c1 m1 (by omega) (by omega) h6 h7 h4 h5 with ⟨c', m', it', g1, g2, g3, g4, g5⟩ | ⟨c', m', b', g0, g1, g2, g3, g4⟩
          · exact Or.inl ⟨c', m', it', g1, g2, g3, cF_t h8 g4, mF_t h9 g5⟩
          · exact Or.inr ⟨c', m', b', g0, g1, g2, cF_t h8 g3, mF_t h9 g4⟩
      · rw [if_neg z] at a6
        refine Or.inr (bad (by rw [a3]; decide) (by rw [a6]; decide) ⟨c, m, ?_, noI (by rw [a6]; decide) (by rw [a6]; decide) (by rw [a6]; decide) (by rw [a6]; decide) (by rw [a6]; decide), hh, cF_r c, mF_r m⟩)
        unfold jm_X6_readItem
        rw [if_pos a3, q4, q3, pk_sub q1, if_neg (show ¬ nI (e - b) = 1 from nIn (b := 1) (by omega) (by omega) z)]
    · refine Or.inr (bad (by rw [a2]; decide) (by rw [a3]; decide) ⟨c, m, ?_, noI (by rw [a3]; decide) (by rw [a3]; decide) (by rw [a3]; decide) (by rw [a3]; decide) (by rw [a3]; decide), hh, cF_r c, mF_r m⟩)
      unfold jm_X6_readItem
      rw [if_neg (by rw [a2]; decide)]
    · refine Or.inr (bad (by rw [a2]; decide) (by rw [a3]; decide) ⟨c, m, ?_, noI (by rw [a3]; decide) (by rw [a3]; decide) (by rw [a3]; decide) (by rw [a3]; decide) (by rw [a3]; decide), hh, cF_r c, mF_r m⟩)
      unfold jm_X6_readItem
      rw [if_neg (by rw [a2]; decide)]
    · refine Or.inr (bad (by rw [a2]; decide) (by rw [a3]; decide) ⟨c, m, ?_, noI (by rw [a3]; decide) (by rw [a3]; decide) (by rw [a3]; decide) (by rw [a3]; decide) (by rw [a3]; decide), hh, cF_r c, mF_r m⟩)
      unfold jm_X6_readItem
      rw [if_neg (by rw [a2]; decide)]
theorem q_fill0 {N r : Nat} {c : PS} (hN : 2000 ≤ N) : ∃ c', jm_J7_fill_53178 N r 0 c = some ((), c') ∧ ((∀ a, a ≠ r → c'.1 a = c.1 a) ∧ c'.2 = c.2 ∧ ∀ j, j < 21 → c'.1 r j = 0) := by
  unfold jm_J7_fill_53178
  refine ex_el (iter_inv (f := fun q => jm_J7_fill_53178_L5 N r 0 q.1 q.2) (fun i s => s.1 = nI i ∧ (∀ a, a ≠ r → s.2.1 a = c.1 a) ∧ s.2.2 = c.2 ∧ ∀ j, j < i → s.2.1 r j = 0) (fun x : Unit × PS => (∀ a, a ≠ r → x.2.1 a = c.1 a) ∧ x.2.2 = c.2 ∧ ∀ j, j < 21 → x.2.1 r j = 0) 21 ?_ ?_ (by omega) ?_) (fun r g1 g2 => ⟨r.2, g1, g2⟩)
  · rintro i ⟨w, st⟩ hi ⟨rfl, h1, h2, h3⟩
    refine ⟨(nI (i + 1), pU st r i 0), ?_, rfl, fun a ha => ?_, h2, fun j hj => ?_⟩
    · show jm_J7_fill_53178_L5 N r 0 (nI i) st = _
      unfold jm_J7_fill_53178_L5
      rw [if_neg (show ¬ (21 : Int32) ≤ nI i from nle (a := 21) hi (by omega)), inB_nI hi (by omega), gd_t, nm_d, nI_1, cl (by omega)]
    · rw [pU_n ha]; exact h1 a ha
    · rw [pU_1]
      by_cases e : j = i
      · subst e; rw [pk_us]
      · rw [pk_un e]; exact h3 j (by omega)
  · rintro ⟨w, st⟩ ⟨rfl, h1, h2, h3⟩
    refine ⟨((), st), ?_, h1, h2, h3⟩
    show jm_J7_fill_53178_L5 N r 0 (nI 21) st = _
    unfold jm_J7_fill_53178_L5
    rw [if_pos (show (21 : Int32) ≤ nI 21 by decide)]
  · exact ⟨rfl, fun _ _ => rfl, rfl, fun j hj => absurd hj (by omega)⟩
theorem read_all {N nb : Nat} {T : Nat → Nat} {c m : PS} (hc : txC c nb T) (hm : txM m nb T) (hN : 2000 ≤ N) : (∃ c' m' it', jm_X6_readInto N 27 c = some (nI it', c') ∧ jm_X9_faultOf N m = some (-9, m') ∧ rdR c' m' it' ∧ cF c c' ∧ mF m m') ∨ (∃ c' m' b, b ≤ 170 ∧ jm_X6_readInto N 27 c = some (-10 - nI b, c') ∧ jm_X9_faultOf N m = some (nI b, m') ∧ cF c c' ∧ mF m m') := by
  unfold jm_X6_readInto jm_X9_faultOf jm_X0_empty jm_X4_empty
  rw [nm_d, nm_d, nm_d]
  obtain ⟨c1, f1, f2, f3, f4⟩ := q_fill0 (N := N) (r := 27 + 8 + 1) (c := pU (pU (pU c 27 7 0) 27 8 0) 27 9 0) hN
  rw [f1, bd_s, nm_d, bd_s, bd_s, nm_d, nm_d, nm_d, show 27 + 8 + 1 = 36 from rfl, nm_d, nm_d, nm_d, nm_d, nm_d, nm_d, nm_d, nm_d, nm_d]
  rw [show 27 + 8 + 1 = 36 from rfl] at f2 f4
  generalize eC : pU (pU (pU (pU c1 36 0 20) 1 7 0) 1 8 0) 1 4 0 = c2
  generalize eM : pU (pU (pU (pU (pU (pU (pU (pU (pU m 0 2 0) 0 6 0) 0 7 0) 0 8 0) 0 9 0) 0 10 0) 0 11 0) 0 12 20) 0 13 0 = m2
  have C1 : ∀ j, j ≠ 7 → j ≠ 8 → j ≠ 4 → c2.1 1 j = c.1 1 j := fun j h1 h2 h3 => by
    rw [← eC, pU_1, pk_un h3, pU_1, pk_un h2, pU_1, pk_un h1, pU_n (by decide), f2 1 (by decide), pU_n (by decide), pU_n (by decide), pU_n (by decide)]
  have C14 : c2.1 1 4 = nI 0 := by rw [← eC, pU_1, pk_us]; rfl
  have C17 : c2.1 1 7 = 0 := by rw [← eC, pU_1, pk_un (by decide), pU_1, pk_un (by decide), pU_1, pk_us]
  have C18 : c2.1 1 8 = 0 := by rw [← eC, pU_1, pk_un (by decide), pU_1, pk_us]
  have C36 : c2.1 36 = upd (c1.1 36) 0 20 := by rw [← eC, pU_n (by decide), pU_n (by decide), pU_n (by decide), pU_1]
  have C27 : c2.1 27 = upd (upd (upd (c.1 27) 7 0) 8 0) 9 0 := by
    rw [← eC, pU_n (by decide), pU_n (by decide), pU_n (by decide), pU_n (by decide), f2 27 (by decide), pU_1, pU_1, pU_1]
  have CC : ∀ a, a ≠ 1 → a ≠ 27 → a ≠ 36 → c2.1 a = c.1 a := fun a h1 h2 h3 => by
    rw [← eC, pU_n h1, pU_n h1, pU_n h1, pU_n h3, f2 a h3, pU_n h2, pU_n h2, pU_n h2]
  have C2 : c2.2 = c.2 := by rw [← eC]; exact f3
  have MM : ∀ a, a ≠ 0 → m2.1 a = m.1 a := fun a h => by
    rw [← eM, pU_n h, pU_n h, pU_n h, pU_n h, pU_n h, pU_n h, pU_n h, pU_n h, pU_n h]
  have M2 : m2.2 = m.2 := by rw [← eM]; rfl
  have M0 : m2.1 0 = upd (upd (upd (upd (upd (upd (upd (upd (upd (m.1 0) 2 0) 6 0) 7 0) 8 0) 9 0) 10 0) 11 0) 12 20) 13 0 := by
    rw [← eM, pU_1, pU_1, pU_1, pU_1, pU_1, pU_1, pU_1, pU_1, pU_1]
  have M0o : ∀ j, j = 0 ∨ 14 ≤ j → m2.1 0 j = m.1 0 j := fun j hj => by
    rw [M0, pk_un (by omega), pk_un (by omega), pk_un (by omega), pk_un (by omega), pk_un (by omega), pk_un (by omega), pk_un (by omega), pk_un (by omega), pk_un (by omega)]
  have tc : txC c2 nb T := by
    unfold txC at hc ⊢
    rw [C1 1 (by decide) (by decide) (by decide), CC 2 (by decide) (by decide) (by decide)]; exact hc
  have tm : txM m2 nb T := by
    unfold txM at hm ⊢
    rw [M0o 0 (by omega), MM 1 (by decide)]; exact hm
  have fC : cF c c2 := ⟨fun a h1 h3 h => CC a h1 (by omega) (by omega), C1 1 (by decide) (by decide) (by decide), C2⟩
  have fM : mF m m2 := ⟨fun a h => MM a (by omega), M0o, M2⟩
  obtain ⟨c3, m3, g1, g2, g3, g4, g5⟩ := tok (N := N) tc tm C14 (show m2.1 0 2 = nI 0 by rw [M0, pk_un (by decide), pk_un (by decide), pk_un (by decide), pk_un (by decide), pk_un (by decide), pk_un (by decide), pk_un (by decide), pk_un (by decide), pk_us]; rfl) (by omega) hN
  have hR : rdR c3 m3 0 := by
    refine ⟨0, 0, 0, false, false, ⟨?_, ?_, by omega, fun l hl => absurd hl (by omega), fun a ha => absurd ha (by omega), fun a ha => absurd ha (by omega), fun a ha => absurd ha (by omega)⟩, ⟨?_, ?_, by omega, fun l hl => absurd hl (by omega), fun s _ hs => ?_⟩, ⟨?_, ?_, by omega, fun l hl => absurd hl (by omega)⟩, ⟨?_, ?_, ?_, ?_, ⟨20, by omega, ?_, ?_⟩, ⟨3, by omega, ?_, ?_⟩, ?_⟩, ?_, rfl⟩
    · rw [g3.1 27 (by decide), C27, pk_un (by decide), pk_un (by decide), pk_us]; rfl
    · rw [g4.2.2 6 (by decide), M0, pk_un (by decide), pk_un (by decide), pk_un (by decide), pk_un (by decide), pk_un (by decide), pk_un (by decide), pk_un (by decide), pk_us]; rfl
    · rw [g3.1 27 (by decide), C27, pk_un (by decide), pk_us]; rfl
    · rw [g4.2.2 7 (by decide), M0, pk_un (by decide), pk_un (by decide), pk_un (by decide), pk_un (by decide), pk_un (by decide), pk_un (by decide), pk_us]; rfl
    · rw [g3.1 36 (by decide), C36, pk_un (by omega), pk_un (by omega), pk_un (by omega)]
      exact ⟨f4 _ (by omega), f4 _ (by omega), f4 _ (by omega)⟩
    · rw [g3.1 27 (by decide), C27, pk_us]; rfl
    · rw [g4.2.2 8 (by decide), M0, pk_un (by decide), pk_un (by decide), pk_un (by decide), pk_un (by decide), pk_un (by decide), pk_us]; rfl
    · rw [g3.2.2 7 (by decide), C17]; rfl
    · rw [g4.2.2 10 (by decide), M0, pk_un (by decide), pk_un (by decide), pk_un (by decide), pk_us]; rfl
    · rw [g3.2.2 8 (by decide), C18]; rfl
    · rw [g4.2.2 11 (by decide), M0, pk_un (by decide), pk_un (by decide), pk_us]; rfl
    · rw [g3.1 36 (by decide), C36, pk_us]; rfl
    · rw [g4.2.2 12 (by decide), M0, pk_un (by decide), pk_us]; rfl
    · rw [g3.1 36 (by decide), C36, pk_un (by decide), f4 1 (by omega)]; rfl
    · rw [g4.2.2 13 (by decide), M0, pk_us]; rfl
    · rw [g3.1 36 (by decide), C36, pk_un (by decide), f4 2 (by omega)]
    · rw [g4.2.2 9 (by decide), M0, pk_un (by decide), pk_un (by decide), pk_un (by decide), pk_un (by decide), pk_us]; rfl
  rw [g1, g2, bd_s, bd_s]
  rcases all_go (N := N) hN 24 N 0 c3 m3 (by omega) (by omega) (txC_X tc g3) (txM_X tm g4) g5 hR with ⟨c', m', it', k1, k2, k3, k4, k5⟩ | ⟨c', m', b', k0, k1, k2, k3, k4⟩
  · exact Or.inl ⟨c', m', it', k1, k2, k3, cF_t fC (cF_t (cX_F g3) k4), mF_t fM (mF_t (mX_F g4) k5)⟩
  · exact Or.inr ⟨c', m', b', k0, k1, k2, cF_t fC (cF_t (cX_F g3) k3), mF_t fM (mF_t (mX_F g4) k4)⟩
