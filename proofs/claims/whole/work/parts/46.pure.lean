/-! PURE: the items of a string, a beat, the lift, the tilt -/
theorem string4 {N M nb n k b it : Nat} {z1 z2 : Bool} {c m : PS} {T : Nat → Nat} (hp : pre c m T nb) (hL : rdL c m n) (hS : rdS c m n k) (hB : rdB c m b) (hU : rdU c m z1 z2) (h9 : m.1 0 9 = nI it) (hit : it = n + k + b + zn z1 + zn z2) (hn : k < 6)
    (l0 : ∀ s : PS, s.1 27 = c.1 27 → jm_X6_least N 115 (nI 0) 27 s = some (0, s)) (h0 : ∀ s : PS, s.1 27 = c.1 27 → jm_X6_most N 115 (nI 0) 27 s = some (nI n - 1, s))
    (l1 : ∀ s : PS, s.1 27 = c.1 27 → jm_X6_least N 115 (nI 1) 27 s = some (0, s)) (h1 : ∀ s : PS, s.1 27 = c.1 27 → jm_X6_most N 115 (nI 1) 27 s = some (6, s))
    (l2 : ∀ s : PS, s.1 27 = c.1 27 → jm_X6_least N 115 (nI 2) 27 s = some (0, s)) (h2 : ∀ s : PS, s.1 27 = c.1 27 → jm_X6_most N 115 (nI 2) 27 s = some (40, s))
    (l3 : ∀ s : PS, s.1 27 = c.1 27 → jm_X6_least N 115 (nI 3) 27 s = some (1, s)) (h3 : ∀ s : PS, s.1 27 = c.1 27 → jm_X6_most N 115 (nI 3) 27 s = some (40, s)) (hN : 2000 ≤ N) :
    itemR N c m T nb it (clP N 115 4 0 (M + 5) c) (bd (jm_X9_told N 3 ((4 : Int32) * nI k) (0 : Int32) (nI n - (1 : Int32)) m) (fun v2 st3 => if v2 = 0 then (some (((0 : Int32), st3))) else (bd (jm_X9_told N 3 (((4 : Int32) * nI k) + (1 : Int32)) (0 : Int32) (6 : Int32) st3) (fun v5 st6 => if v5 = 0 then (some (((0 : Int32), st6))) else (bd (jm_X9_told N 3 (((4 : Int32) * nI k) + (2 : Int32)) (0 : Int32) (40 : Int32) st6) (fun v8 st9 => if v8 = 0 then (some (((0 : Int32), st9))) else (bd (jm_X9_told N 3 (((4 : Int32) * nI k) + (3 : Int32)) (1 : Int32) (40 : Int32) st9) (fun v11 st12 => if v11 = 0 then (some (((0 : Int32), st12))) else (nm (pU st12 0 7 ((st12.1 0 7) + (1 : Int32))) (fun st14 => bd (jm_X9_ends N st14) (fun v15 st16 => gd (isZ v15) (some ((v15, st16)))))))))))))) := by
  have i0 : (4 : Int32) * nI k = nI (4 * k) := pk_mul 4 k
  have i1 : (4 : Int32) * nI k + 1 = nI (4 * k + 1) := by rw [i0, nI_1]
  have i2 : (4 : Int32) * nI k + 2 = nI (4 * k + 2) := by rw [i0]; exact nI_add (4 * k) 2
  have i3 : (4 : Int32) * nI k + 3 = nI (4 * k + 3) := by rw [i0]; exact nI_add (4 * k) 3
  rw [i1, i2, i3, i0]
  have e3 : mL 3 = 24 := rfl
  have hn8 := hL.2.2.1
  rcases num (N := N) (N1 := M + 4) (nn := 4) (i := 0) (r := 3) (idx := 4 * k) hp (by omega) (by omega) l0 h0 (by omega) (by omega) (by omega) (by omega) hN with ⟨c1, m1, g1, g2, g3, g4, g5⟩ | ⟨v0, c1, m1, a1, a2, a3, a4, a5, a6, a7, a8⟩
  · rw [g1, g2, bd_s, if_pos p00]
    exact Or.inl ⟨c1, m1, rfl, rfl, g3, cX_F g4, mX_F g5⟩
  rw [a4, a5, bd_s, if_neg n10]
  have k1 : c1.1 27 = c.1 27 := a7.1 27 (by decide) (by decide)
  rcases num (N := N) (N1 := M + 3) (nn := 4) (i := 1) (r := 3) (idx := 4 * k + 1) a6 (by omega) (by omega) (fun s hs => l1 s (hs.trans k1)) (fun s hs => h1 s (hs.trans k1)) (by omega) (by omega) (by omega) (by omega) hN with ⟨c2, m2, g1, g2, g3, g4, g5⟩ | ⟨v1, c2, m2, b1, b2, b3, b4, b5, b6, b7, b8⟩
  · rw [g1, g2, bd_s, if_pos p00]
    exact Or.inl ⟨c2, m2, rfl, rfl, g3, cF_t (cN_F a7) (cX_F g4), mF_t (mN_F a8 (by omega) (by omega)) (mX_F g5)⟩
  rw [b4, b5, bd_s, if_neg n10]
  have k2 : c2.1 27 = c.1 27 := (b7.1 27 (by decide) (by decide)).trans k1
  rcases num (N := N) (N1 := M + 2) (nn := 4) (i := 2) (r := 3) (idx := 4 * k + 2) b6 (by omega) (by omega) (fun s hs => l2 s (hs.trans k2)) (fun s hs => h2 s (hs.trans k2)) (by omega) (by omega) (by omega) (by omega) hN with ⟨c3, m3, g1, g2, g3, g4, g5⟩ | ⟨v2, c3, m3, d1, d2, d3, d4, d5, d6, d7, d8⟩
  · rw [g1, g2, bd_s, if_pos p00]
    exact Or.inl ⟨c3, m3, rfl, rfl, g3, cF_t (cN_F a7) (cF_t (cN_F b7) (cX_F g4)), mF_t (mN_F a8 (by omega) (by omega)) (mF_t (mN_F b8 (by omega) (by omega)) (mX_F g5))⟩
  rw [d4, d5, bd_s, if_neg n10]
  have k3 : c3.1 27 = c.1 27 := (d7.1 27 (by decide) (by decide)).trans k2
  rcases num (N := N) (N1 := M + 1) (nn := 4) (i := 3) (r := 3) (idx := 4 * k + 3) d6 (by omega) (by omega) (fun s hs => l3 s (hs.trans k3)) (fun s hs => h3 s (hs.trans k3)) (by omega) (by omega) (by omega) (by omega) hN with ⟨c4, m4, g1, g2, g3, g4, g5⟩ | ⟨v3, c4, m4, o1, o2, o3, o4, o5, o6, o7, o8⟩
  · rw [g1, g2, bd_s, if_pos p00]
    exact Or.inl ⟨c4, m4, rfl, rfl, g3, cF_t (cN_F a7) (cF_t (cN_F b7) (cF_t (cN_F d7) (cX_F g4))), mF_t (mN_F a8 (by omega) (by omega)) (mF_t (mN_F b8 (by omega) (by omega)) (mF_t (mN_F d8 (by omega) (by omega)) (mX_F g5)))⟩
  rw [o4, o5, bd_s, if_neg n10, nm_d]
  have m47 : m4.1 0 7 = nI k := by rw [o8.2.2.2 7 (by decide), d8.2.2.2 7 (by decide), b8.2.2.2 7 (by decide), a8.2.2.2 7 (by decide)]; exact hS.2.1
  rw [m47, nI_1]
  have fc : cF c c4 := cF_t (cN_F a7) (cF_t (cN_F b7) (cF_t (cN_F d7) (cN_F o7)))
  have fm : mF m (pU m4 0 7 (nI (k + 1))) := mF_t (mN_F a8 (by omega) (by omega)) (mF_t (mN_F b8 (by omega) (by omega)) (mF_t (mN_F d8 (by omega) (by omega)) (mF_t (mN_F o8 (by omega) (by omega)) (mF_U _ _ (by omega) (by omega)))))
  rcases semi (N := N) (N1 := M) (nn := 4) (y := 115) (pre_U (v := nI (k + 1)) (j := 7) o6 (by omega) (by omega)) (by omega) hN with ⟨c5, m5, g1, g2, g3, g4, g5⟩ | ⟨c5, m5, g1, g2, g3, g4, g5⟩
  · rw [g1, g2, bd_s, isz0, gd_t]
    exact Or.inl ⟨c5, m5, rfl, rfl, g3, cF_t fc (cX_F g4), mF_t fm (mX_F g5)⟩
  rw [g1, g2, bd_s, isz1, gd_t]
  obtain ⟨c6, m6, f1, f2, f3, f4, f5, f6, f7⟩ := fin (N := N) (v := m5.1 0 9 + 1) g3 hN
  have K : ∀ a, a ≠ 1 → a ≠ 3 → c6.1 a = c.1 a := fun a q1 q3 => by
    rw [f4.1 a q1, g4.1 a q1, o7.1 a q1 q3, d7.1 a q1 q3, b7.1 a q1 q3, a7.1 a q1 q3]
  have K1 : ∀ j, j ∉ ([2, 3, 4, 5] : List Nat) → c6.1 1 j = c.1 1 j := fun j hj => by
    rw [f4.2.2 j hj, g4.2.2 j hj, o7.2.2.2 j hj, d7.2.2.2 j hj, b7.2.2.2 j hj, a7.2.2.2 j hj]
  have K3 : c6.1 3 = upd (upd (upd (upd (c.1 3) 0 (nI v0)) 1 (nI v1)) 2 (nI v2)) 3 (nI v3) := by
    rw [f4.1 3 (by decide), g4.1 3 (by decide), o7.2.1, d7.2.1, b7.2.1, a7.2.1]
  have m59 : m5.1 0 9 = nI it := by
    rw [g5.2.2 9 (by decide), pU_1, pk_un (by decide), o8.2.2.2 9 (by decide), d8.2.2.2 9 (by decide), b8.2.2.2 9 (by decide), a8.2.2.2 9 (by decide), h9]
  have M0 : ∀ j, j ∉ ([2, 3, 4, 5] : List Nat) → j ≠ 7 → j ≠ 9 → m6.1 0 j = m.1 0 j := fun j hj h6 h9 => by
    rw [f5.2.2 j hj, pU_1, pk_un h9, g5.2.2 j hj, pU_1, pk_un h6, o8.2.2.2 j hj, d8.2.2.2 j hj, b8.2.2.2 j hj, a8.2.2.2 j hj]
  have M7 : m6.1 0 7 = nI (k + 1) := by
    rw [f5.2.2 7 (by decide), pU_1, pk_un (by decide), g5.2.2 7 (by decide), pU_1, pk_us]
  have M9 : m6.1 0 9 = nI (it + 1) := by
    rw [f5.2.2 9 (by decide), pU_1, pk_us, m59, nI_1]
  have M3 : m6.1 3 = upd (upd (upd (upd (m.1 3) (4 * k) (nI v0)) (4 * k + 1) (nI v1)) (4 * k + 2) (nI v2)) (4 * k + 3) (nI v3) := by
    rw [f5.1 3 (by decide), pU_n (by decide), g5.1 3 (by decide), pU_n (by decide), o8.2.1, d8.2.1, b8.2.1, a8.2.1]
  have MM : ∀ a, a ≠ 0 → a ≠ 3 → m6.1 a = m.1 a := fun a q0 q2 => by
    rw [f5.1 a q0, pU_n q0, g5.1 a q0, pU_n q0, o8.1 a q0 q2, d8.1 a q0 q2, b8.1 a q0 q2, a8.1 a q0 q2]
  obtain ⟨S1, S2, S3, S4, S5⟩ := hS
  have hv0 : v0 < n := by
    by_cases z : n = 0
    · subst z
      rw [show nI 0 - 1 = (-1 : Int32) from rfl, i_le, nI_toInt (by omega)] at a2
      have : (-1 : Int32).toInt = -1 := rfl
      omega
    · have := v_le (n := n - 1) a3 (by omega) (by rw [← pk_sub (by omega)]; exact a2)
      omega
  have hv3 : 0 < v3 ∧ v3 ≤ 40 := ⟨v_ge (n := 1) o3 (by omega) o1, v_le (n := 40) o3 (by omega) o2⟩
  have k68 : c6.1 27 8 = nI k := by rw [K 27 (by decide) (by decide)]; exact S1
  generalize eq7 : pU (pU (pU (pU (pU c6 36 (3 + k) (nI v0)) 36 (9 + k) (nI v1)) 36 (15 + k) (nI v2)) 31 k (nI v3)) 27 8 (nI (k + 1)) = c7
  have t1 : jm_X0_addString N 27 (nI v0) (nI v1) (nI v2) (nI v3) c6 = some ((), c7) := by
    unfold jm_X0_addString jm_X4_setLimb jm_X4_setHole jm_X4_setLength
    rw [k68, show (3 : Int32) + nI k = nI (3 + k) from nI_add 3 k, inB_nI (show 3 + k < 21 by omega) (by omega), gd_t, nm_d, bd_s, show 27 + 8 + 1 = 36 from rfl, pU_n (show ¬ 27 = 36 by decide), k68, a9, inB_nI (show 9 + k < 21 by omega) (by omega), gd_t, nm_d, bd_s, pU_n (show ¬ 27 = 36 by decide), pU_n (show ¬ 27 = 36 by decide), k68, a15, inB_nI (show 15 + k < 21 by omega) (by omega), gd_t, nm_d, bd_s, pU_n (show ¬ 27 = 36 by decide), pU_n (show ¬ 27 = 36 by decide), pU_n (show ¬ 27 = 36 by decide), k68, inB_nI (show k < 6 by omega) (by omega), gd_t, nm_d, nm_d, pU_n (show ¬ 27 = 27 + 4 by decide), pU_n (show ¬ 27 = 36 by decide), pU_n (show ¬ 27 = 36 by decide), pU_n (show ¬ 27 = 36 by decide), k68, nI_1, cl (by omega), cl (by omega), cl (by omega), cl (by omega), ← eq7]
  have t27 : c7.1 27 = upd (c6.1 27) 8 (nI (k + 1)) := by
    rw [← eq7, pU_1, pU_n (by decide), pU_n (by decide), pU_n (by decide), pU_n (by decide)]
  have t31 : c7.1 31 = upd (c6.1 31) k (nI v3) := by
    rw [← eq7, pU_n (by decide), pU_1, pU_n (by decide), pU_n (by decide), pU_n (by decide)]
  have t36 : c7.1 36 = upd (upd (upd (c6.1 36) (3 + k) (nI v0)) (9 + k) (nI v1)) (15 + k) (nI v2) := by
    rw [← eq7, pU_n (by decide), pU_n (by decide), pU_1, pU_1, pU_1]
  have t7 : ∀ a, a ≠ 27 → a ≠ 31 → a ≠ 36 → c7.1 a = c6.1 a := fun a q1 q2 q3 => by
    rw [← eq7, pU_n q1, pU_n q2, pU_n q3, pU_n q3, pU_n q3]
  have t8 : c7.2 = c6.2 := by rw [← eq7]; rfl
  have hR : rdR c7 m6 (it + 1) := by
    refine ⟨n, k + 1, b, z1, z2, rdL_c hL ?_ ?_ ?_ ?_ ?_ ?_ ?_, ⟨by rw [t27, pk_us], M7, by omega, fun s hs => ?_, fun s hs hs6 => ?_⟩, rdB_c hB ?_ ?_ ?_ ?_ ?_, rdU_c hU ?_ ?_ ?_ ?_, M9, by omega⟩
    · rw [t27, pk_un (by decide), K 27 (by decide) (by decide)]
    · exact M0 6 (by decide) (by decide) (by decide)
    · rw [t7 28 (by decide) (by decide) (by decide), K 28 (by decide) (by decide)]
    · rw [t7 29 (by decide) (by decide) (by decide), K 29 (by decide) (by decide)]
    · rw [t7 30 (by decide) (by decide) (by decide), K 30 (by decide) (by decide)]
    · rw [t7 34 (by decide) (by decide) (by decide), K 34 (by decide) (by decide)]
    · exact MM 2 (by decide) (by decide)
    · rw [t36, t31, M3, K 36 (by decide) (by decide), K 31 (by decide) (by decide)]
      by_cases e : s = k
      · subst e
        refine ⟨v0, v3, hv0, ?_, ?_, ?_, ?_, hv3.1, hv3.2, ?_, ?_⟩
        · rw [pk_un (by omega), pk_un (by omega), pk_us]
        · rw [pk_un (by omega), pk_un (by omega), pk_un (by omega), pk_us]
        · rw [pk_un (by omega), pk_us, pk_un (by omega), pk_un (by omega), pk_us]
        · rw [pk_us, pk_un (by omega), pk_us]
        · rw [pk_us]
        · rw [pk_us]
      · obtain ⟨a, v, q1, q2, q3, q4, q5, q6, q7, q8, q9⟩ := S4 s (by omega)
        refine ⟨a, v, q1, ?_, ?_, ?_, ?_, q6, q7, ?_, ?_⟩
        · rw [pk_un (by omega), pk_un (by omega), pk_un (by omega)]; exact q2
        · rw [pk_un (by omega), pk_un (by omega), pk_un (by omega), pk_un (by omega)]; exact q3
        · rw [pk_un (by omega), pk_un (by omega), pk_un (by omega), pk_un (by omega), pk_un (by omega), pk_un (by omega), pk_un (by omega)]; exact q4
        · rw [pk_un (by omega), pk_un (by omega), pk_un (by omega), pk_un (by omega), pk_un (by omega), pk_un (by omega), pk_un (by omega)]; exact q5
        · rw [pk_un e]; exact q8
        · rw [pk_un (by omega), pk_un (by omega), pk_un (by omega), pk_un (by omega)]; exact q9
    · obtain ⟨q1, q2, q3⟩ := S5 s (by omega) hs6
      rw [t36, K 36 (by decide) (by decide)]
      refine ⟨?_, ?_, ?_⟩
      · rw [pk_un (by omega), pk_un (by omega), pk_un (by omega)]; exact q1
      · rw [pk_un (by omega), pk_un (by omega), pk_un (by omega)]; exact q2
      · rw [pk_un (by omega), pk_un (by omega), pk_un (by omega)]; exact q3
    · rw [t27, pk_un (by decide), K 27 (by decide) (by decide)]
    · exact M0 8 (by decide) (by decide) (by decide)
    · rw [t7 32 (by decide) (by decide) (by decide), K 32 (by decide) (by decide)]
    · rw [t7 33 (by decide) (by decide) (by decide), K 33 (by decide) (by decide)]
    · exact MM 4 (by decide) (by decide)
    · rw [t7 1 (by decide) (by decide) (by decide), K1 7 (by decide)]
    · rw [t7 1 (by decide) (by decide) (by decide), K1 8 (by decide)]
    · intro j _; rw [t36, K 36 (by decide) (by decide), pk_un (by omega), pk_un (by omega), pk_un (by omega)]
    · intro j q1 q2; exact M0 j (by simp; omega) (by omega) (by omega)
  refine Or.inr ⟨c7, m5, m6, ?_, rfl, f2, hand_c f3 (fun j _ _ => by rw [t7 1 (by decide) (by decide) (by decide)]), hR, ?_, f7, ⟨fun a q1 q3 q => ?_, ?_, ?_⟩, ?_⟩
  · rw [f1, bd_s]
    unfold jm_X6_tell
    rw [if_neg (show ¬ (115 : Int32) = 98 by decide), if_neg (show ¬ (115 : Int32) = 108 by decide), if_pos rfl, K3, pk_us, pk_un (show (2 : Nat) ≠ 3 by decide), pk_us, pk_un (show (1 : Nat) ≠ 3 by decide), pk_un (show (1 : Nat) ≠ 2 by decide), pk_us, pk_un (show (0 : Nat) ≠ 3 by decide), pk_un (show (0 : Nat) ≠ 2 by decide), pk_un (show (0 : Nat) ≠ 1 by decide), pk_us, t1, bd_s, bd_s]
  · unfold txC at f6 ⊢
    rw [t7 1 (by decide) (by decide) (by decide), t7 2 (by decide) (by decide) (by decide)]; exact f6
  · rw [t7 a (by omega) (by omega) (by omega), K a q1 q3]
  · rw [t7 1 (by decide) (by decide) (by decide), K1 1 (by decide)]
  · rw [t8, f4.2.1, g4.2.1, o7.2.2.1, d7.2.2.1, b7.2.2.1, a7.2.2.1]
  · exact mF_t fm (mF_t (mX_F g5) (mF_t (mF_U _ _ (by omega) (by omega)) (mX_F f5)))
theorem beat2 {N M nb n k b it : Nat} {z1 z2 : Bool} {c m : PS} {T : Nat → Nat} (hp : pre c m T nb) (hL : rdL c m n) (hS : rdS c m n k) (hB : rdB c m b) (hU : rdU c m z1 z2) (h9 : m.1 0 9 = nI it) (hit : it = n + k + b + zn z1 + zn z2) (hn : b < 7)
    (l0 : ∀ s : PS, s.1 27 = c.1 27 → jm_X6_least N 98 (nI 0) 27 s = some (0, s)) (h0 : ∀ s : PS, s.1 27 = c.1 27 → jm_X6_most N 98 (nI 0) 27 s = some (40, s))
    (l1 : ∀ s : PS, s.1 27 = c.1 27 → jm_X6_least N 98 (nI 1) 27 s = some (0, s)) (h1 : ∀ s : PS, s.1 27 = c.1 27 → jm_X6_most N 98 (nI 1) 27 s = some (6, s)) (hN : 2000 ≤ N) :
    itemR N c m T nb it (clP N 98 2 0 (M + 3) c) (bd (jm_X9_told N 4 ((2 : Int32) * nI b) (0 : Int32) (40 : Int32) m) (fun v2 st3 => if v2 = 0 then (some (((0 : Int32), st3))) else (bd (jm_X9_told N 4 (((2 : Int32) * (st3.1 0 8)) + (1 : Int32)) (0 : Int32) (6 : Int32) st3) (fun v5 st6 => if v5 = 0 then (some (((0 : Int32), st6))) else (nm (pU st6 0 8 ((st6.1 0 8) + (1 : Int32))) (fun st8 => bd (jm_X9_ends N st8) (fun v9 st10 => gd (isZ v9) (some ((v9, st10)))))))))) := by
  have i0 : (2 : Int32) * nI b = nI (2 * b) := pk_mul 2 b
  have i1 : (2 : Int32) * nI b + 1 = nI (2 * b + 1) := by rw [i0, nI_1]
  rw [i0]
  have e3 : mL 4 = 14 := rfl
  rcases num (N := N) (N1 := M + 2) (nn := 2) (i := 0) (r := 4) (idx := 2 * b) hp (by omega) (by omega) l0 h0 (by omega) (by omega) (by omega) (by omega) hN with ⟨c1, m1, g1, g2, g3, g4, g5⟩ | ⟨v0, c1, m1, a1, a2, a3, a4, a5, a6, a7, a8⟩
  · rw [g1, g2, bd_s, if_pos p00]
    exact Or.inl ⟨c1, m1, rfl, rfl, g3, cX_F g4, mX_F g5⟩
  have m18 : m1.1 0 8 = nI b := by rw [a8.2.2.2 8 (by decide)]; exact hB.2.1
  rw [a4, a5, bd_s, if_neg n10, m18, i1]
  have k1 : c1.1 27 = c.1 27 := a7.1 27 (by decide) (by decide)
  rcases num (N := N) (N1 := M + 1) (nn := 2) (i := 1) (r := 4) (idx := 2 * b + 1) a6 (by omega) (by omega) (fun s hs => l1 s (hs.trans k1)) (fun s hs => h1 s (hs.trans k1)) (by omega) (by omega) (by omega) (by omega) hN with ⟨c2, m2, g1, g2, g3, g4, g5⟩ | ⟨v1, c2, m2, b1, b2, b3, b4, b5, b6, b7, b8⟩
  · rw [g1, g2, bd_s, if_pos p00]
    exact Or.inl ⟨c2, m2, rfl, rfl, g3, cF_t (cN_F a7) (cX_F g4), mF_t (mN_F a8 (by omega) (by omega)) (mX_F g5)⟩
  rw [b4, b5, bd_s, if_neg n10, nm_d]
  have m28 : m2.1 0 8 = nI b := by rw [b8.2.2.2 8 (by decide), m18]
  rw [m28, nI_1]
  have fc : cF c c2 := cF_t (cN_F a7) (cN_F b7)
  have fm : mF m (pU m2 0 8 (nI (b + 1))) := mF_t (mN_F a8 (by omega) (by omega)) (mF_t (mN_F b8 (by omega) (by omega)) (mF_U _ _ (by omega) (by omega)))
  rcases semi (N := N) (N1 := M) (nn := 2) (y := 98) (pre_U (v := nI (b + 1)) (j := 8) b6 (by omega) (by omega)) (by omega) hN with ⟨c5, m5, g1, g2, g3, g4, g5⟩ | ⟨c5, m5, g1, g2, g3, g4, g5⟩
  · rw [g1, g2, bd_s, isz0, gd_t]
    exact Or.inl ⟨c5, m5, rfl, rfl, g3, cF_t fc (cX_F g4), mF_t fm (mX_F g5)⟩
  rw [g1, g2, bd_s, isz1, gd_t]
  obtain ⟨c6, m6, f1, f2, f3, f4, f5, f6, f7⟩ := fin (N := N) (v := m5.1 0 9 + 1) g3 hN
  have K : ∀ a, a ≠ 1 → a ≠ 3 → c6.1 a = c.1 a := fun a q1 q3 => by
    rw [f4.1 a q1, g4.1 a q1, b7.1 a q1 q3, a7.1 a q1 q3]
  have K1 : ∀ j, j ∉ ([2, 3, 4, 5] : List Nat) → c6.1 1 j = c.1 1 j := fun j hj => by
    rw [f4.2.2 j hj, g4.2.2 j hj, b7.2.2.2 j hj, a7.2.2.2 j hj]
  have K3 : c6.1 3 = upd (upd (c.1 3) 0 (nI v0)) 1 (nI v1) := by
    rw [f4.1 3 (by decide), g4.1 3 (by decide), b7.2.1, a7.2.1]
  have m59 : m5.1 0 9 = nI it := by
    rw [g5.2.2 9 (by decide), pU_1, pk_un (by decide), b8.2.2.2 9 (by decide), a8.2.2.2 9 (by decide), h9]
  have M0 : ∀ j, j ∉ ([2, 3, 4, 5] : List Nat) → j ≠ 8 → j ≠ 9 → m6.1 0 j = m.1 0 j := fun j hj h6 h9 => by
    rw [f5.2.2 j hj, pU_1, pk_un h9, g5.2.2 j hj, pU_1, pk_un h6, b8.2.2.2 j hj, a8.2.2.2 j hj]
  have M7 : m6.1 0 8 = nI (b + 1) := by
    rw [f5.2.2 8 (by decide), pU_1, pk_un (by decide), g5.2.2 8 (by decide), pU_1, pk_us]
  have M9 : m6.1 0 9 = nI (it + 1) := by
    rw [f5.2.2 9 (by decide), pU_1, pk_us, m59, nI_1]
  have M3 : m6.1 4 = upd (upd (m.1 4) (2 * b) (nI v0)) (2 * b + 1) (nI v1) := by
    rw [f5.1 4 (by decide), pU_n (by decide), g5.1 4 (by decide), pU_n (by decide), b8.2.1, a8.2.1]
  have MM : ∀ a, a ≠ 0 → a ≠ 4 → m6.1 a = m.1 a := fun a q0 q2 => by
    rw [f5.1 a q0, pU_n q0, g5.1 a q0, pU_n q0, b8.1 a q0 q2, a8.1 a q0 q2]
  obtain ⟨B1, B2, B3, B4⟩ := hB
  have hv0 : v0 ≤ 40 := v_le (n := 40) a3 (by omega) a2
  have hv1 : v1 ≤ 6 := v_le (n := 6) b3 (by omega) b2
  have k69 : c6.1 27 9 = nI b := by rw [K 27 (by decide) (by decide)]; exact B1
  generalize eq7 : pU (pU (pU c6 32 b (nI v0)) 33 b (tI v1)) 27 9 (nI (b + 1)) = c7
  have t1 : jm_X0_addBeat N 27 (nI v0) (tI v1) c6 = some ((), c7) := by
    unfold jm_X0_addBeat
    rw [k69, inB_nI (show b < 7 by omega) (by omega), gd_t, nm_d, show 27 + 5 = 32 from rfl, show 27 + 6 = 33 from rfl, pU_n (show ¬ 27 = 32 by decide), k69, inB_nI (show b < 7 by omega) (by omega), gd_t, nm_d, nm_d, pU_n (show ¬ 27 = 33 by decide), pU_n (show ¬ 27 = 32 by decide), k69, nI_1, cl (by omega), ← eq7]
  have t27 : c7.1 27 = upd (c6.1 27) 9 (nI (b + 1)) := by
    rw [← eq7, pU_1, pU_n (by decide), pU_n (by decide)]
  have t32 : c7.1 32 = upd (c6.1 32) b (nI v0) := by
    rw [← eq7, pU_n (by decide), pU_n (by decide), pU_1]
  have t33 : c7.1 33 = upd (c6.1 33) b (tI v1) := by
    rw [← eq7, pU_n (by decide), pU_1, pU_n (by decide)]
  have t7 : ∀ a, a ≠ 27 → a ≠ 32 → a ≠ 33 → c7.1 a = c6.1 a := fun a q1 q2 q3 => by
    rw [← eq7, pU_n q1, pU_n q3, pU_n q2]
  have t8 : c7.2 = c6.2 := by rw [← eq7]; rfl
  have hR : rdR c7 m6 (it + 1) := by
    refine ⟨n, k, b + 1, z1, z2, rdL_c hL ?_ ?_ ?_ ?_ ?_ ?_ ?_, rdS_c hS ?_ ?_ ?_ ?_ ?_, ⟨by rw [t27, pk_us], M7, by omega, fun s hs => ?_⟩, rdU_c hU ?_ ?_ ?_ ?_, M9, by omega⟩
    · rw [t27, pk_un (by decide), K 27 (by decide) (by decide)]
    · exact M0 6 (by decide) (by decide) (by decide)
    · rw [t7 28 (by decide) (by decide) (by decide), K 28 (by decide) (by decide)]
    · rw [t7 29 (by decide) (by decide) (by decide), K 29 (by decide) (by decide)]
    · rw [t7 30 (by decide) (by decide) (by decide), K 30 (by decide) (by decide)]
    · rw [t7 34 (by decide) (by decide) (by decide), K 34 (by decide) (by decide)]
    · exact MM 2 (by decide) (by decide)
    · rw [t27, pk_un (by decide), K 27 (by decide) (by decide)]
    · exact M0 7 (by decide) (by decide) (by decide)
    · intro j _; rw [t7 36 (by decide) (by decide) (by decide), K 36 (by decide) (by decide)]
    · rw [t7 31 (by decide) (by decide) (by decide), K 31 (by decide) (by decide)]
    · exact MM 3 (by decide) (by decide)
    · rw [t32, t33, M3, K 32 (by decide) (by decide), K 33 (by decide) (by decide)]
      by_cases e : s = b
      · subst e
        refine ⟨v0, v1, hv0, hv1, ?_, ?_, ?_, ?_⟩
        · rw [pk_us]
        · rw [pk_un (by omega), pk_us]
        · rw [pk_us]
        · rw [pk_us]
      · obtain ⟨u, t, q1, q2, q3, q4, q5, q6⟩ := B4 s (by omega)
        refine ⟨u, t, q1, q2, ?_, ?_, ?_, ?_⟩
        · rw [pk_un e]; exact q3
        · rw [pk_un (by omega), pk_un (by omega)]; exact q4
        · rw [pk_un e]; exact q5
        · rw [pk_un (by omega), pk_un (by omega)]; exact q6
    · rw [t7 1 (by decide) (by decide) (by decide), K1 7 (by decide)]
    · rw [t7 1 (by decide) (by decide) (by decide), K1 8 (by decide)]
    · intro j _; rw [t7 36 (by decide) (by decide) (by decide), K 36 (by decide) (by decide)]
    · intro j q1 q2; exact M0 j (by simp; omega) (by omega) (by omega)
  refine Or.inr ⟨c7, m5, m6, ?_, rfl, f2, hand_c f3 (fun j _ _ => by rw [t7 1 (by decide) (by decide) (by decide)]), hR, ?_, f7, ⟨fun a q1 q3 q => ?_, ?_, ?_⟩, ?_⟩
  · rw [f1, bd_s]
    unfold jm_X6_tell
    rw [if_pos rfl, K3, pk_us, pk_un (show (0 : Nat) ≠ 1 by decide), pk_us, show nI v1 - 3 = tI v1 from rfl, t1, bd_s, bd_s]
  · unfold txC at f6 ⊢
    rw [t7 1 (by decide) (by decide) (by decide), t7 2 (by decide) (by decide) (by decide)]; exact f6
  · rw [t7 a (by omega) (by omega) (by omega), K a q1 q3]
  · rw [t7 1 (by decide) (by decide) (by decide), K1 1 (by decide)]
  · rw [t8, f4.2.1, g4.2.1, b7.2.2.1, a7.2.2.1]
  · exact mF_t fm (mF_t (mX_F g5) (mF_t (mF_U _ _ (by omega) (by omega)) (mX_F f5)))
theorem lift1 {N M nb n k b it : Nat} {z1 z2 : Bool} {c m : PS} {T : Nat → Nat} (hp : pre c m T nb) (hL : rdL c m n) (hS : rdS c m n k) (hB : rdB c m b) (hU : rdU c m z1 z2) (h9 : m.1 0 9 = nI it) (hit : it = n + k + b + zn z1 + zn z2) (hz : z1 = false)
    (l0 : ∀ s : PS, s.1 27 = c.1 27 → jm_X6_least N 117 (nI 0) 27 s = some (0, s)) (h0 : ∀ s : PS, s.1 27 = c.1 27 → jm_X6_most N 117 (nI 0) 27 s = some (40, s)) (hN : 2000 ≤ N) :
    itemR N c m T nb it (clP N 117 1 0 (M + 2) c) (bd (jm_X9_told N 5 (0 : Int32) (0 : Int32) (40 : Int32) m) (fun v2 st3 => if v2 = 0 then (some (((0 : Int32), st3))) else (nm (pU st3 0 10 (1 : Int32)) (fun st5 => nm (pU st5 0 12 (st5.1 5 0)) (fun st6 => bd (jm_X9_ends N st6) (fun v7 st8 => gd (isZ v7) (some ((v7, st8))))))))) := by
  have e3 : mL 5 = 1 := rfl
  rw [show jm_X9_told N 5 0 0 40 m = jm_X9_told N 5 (nI 0) 0 40 m from rfl]
  rcases num (N := N) (N1 := M + 1) (nn := 1) (i := 0) (r := 5) (idx := 0) hp (by omega) (by omega) l0 h0 (by omega) (by omega) (by omega) (by omega) hN with ⟨c1, m1, g1, g2, g3, g4, g5⟩ | ⟨v0, c1, m1, a1, a2, a3, a4, a5, a6, a7, a8⟩
  · rw [g1, g2, bd_s, if_pos p00]
    exact Or.inl ⟨c1, m1, rfl, rfl, g3, cX_F g4, mX_F g5⟩
  rw [a4, a5, bd_s, if_neg n10, nm_d, nm_d, pU_n (show ¬ 5 = 0 by decide), a8.2.1, pk_us]
  have fm : mF m (pU (pU m1 0 10 1) 0 12 (nI v0)) := mF_t (mN_F a8 (by omega) (by omega)) (mF_t (mF_U _ _ (by omega) (by omega)) (mF_U _ _ (by omega) (by omega)))
  rcases semi (N := N) (N1 := M) (nn := 1) (y := 117) (pre_U (v := nI v0) (j := 12) (pre_U (v := 1) (j := 10) a6 (by omega) (by omega)) (by omega) (by omega)) (by omega) hN with ⟨c5, m5, g1, g2, g3, g4, g5⟩ | ⟨c5, m5, g1, g2, g3, g4, g5⟩
  · rw [g1, g2, bd_s, isz0, gd_t]
    exact Or.inl ⟨c5, m5, rfl, rfl, g3, cF_t (cN_F a7) (cX_F g4), mF_t fm (mX_F g5)⟩
  rw [g1, g2, bd_s, isz1, gd_t]
  obtain ⟨c6, m6, f1, f2, f3, f4, f5, f6, f7⟩ := fin (N := N) (v := m5.1 0 9 + 1) g3 hN
  have K : ∀ a, a ≠ 1 → a ≠ 3 → c6.1 a = c.1 a := fun a q1 q3 => by
    rw [f4.1 a q1, g4.1 a q1, a7.1 a q1 q3]
  have K1 : ∀ j, j ∉ ([2, 3, 4, 5] : List Nat) → c6.1 1 j = c.1 1 j := fun j hj => by
    rw [f4.2.2 j hj, g4.2.2 j hj, a7.2.2.2 j hj]
  have K3 : c6.1 3 = upd (c.1 3) 0 (nI v0) := by
    rw [f4.1 3 (by decide), g4.1 3 (by decide), a7.2.1]
  have m59 : m5.1 0 9 = nI it := by
    rw [g5.2.2 9 (by decide), pU_1, pk_un (by decide), pU_1, pk_un (by decide), a8.2.2.2 9 (by decide), h9]
  have M0 : ∀ j, j ∉ ([2, 3, 4, 5] : List Nat) → j ≠ 10 → j ≠ 12 → j ≠ 9 → m6.1 0 j = m.1 0 j := fun j hj h6 h7 h9 => by
    rw [f5.2.2 j hj, pU_1, pk_un h9, g5.2.2 j hj, pU_1, pk_un h7, pU_1, pk_un h6, a8.2.2.2 j hj]
  have M7 : m6.1 0 10 = 1 := by
    rw [f5.2.2 10 (by decide), pU_1, pk_un (by decide), g5.2.2 10 (by decide), pU_1, pk_un (by decide), pU_1, pk_us]
  have M8 : m6.1 0 12 = nI v0 := by
    rw [f5.2.2 12 (by decide), pU_1, pk_un (by decide), g5.2.2 12 (by decide), pU_1, pk_us]
  have M9 : m6.1 0 9 = nI (it + 1) := by
    rw [f5.2.2 9 (by decide), pU_1, pk_us, m59, nI_1]
  have MM : ∀ a, a ≠ 0 → a ≠ 5 → m6.1 a = m.1 a := fun a q0 q2 => by
    rw [f5.1 a q0, pU_n q0, g5.1 a q0, pU_n q0, pU_n q0, a8.1 a q0 q2]
  have hv0 : v0 ≤ 40 := v_le (n := 40) a3 (by omega) a2
  obtain ⟨U1, U2, U3, U4, ⟨w1, U5, U6, U7⟩, ⟨w2, U8, U9, U10⟩, U11⟩ := hU
  generalize eq7 : pU (pU c6 36 0 (nI v0)) 1 7 1 = c7
  have t36 : c7.1 36 = upd (c6.1 36) 0 (nI v0) := by
    rw [← eq7, pU_n (by decide), pU_1]
  have t1' : c7.1 1 = upd (c6.1 1) 7 1 := by
    rw [← eq7, pU_1, pU_n (by decide)]
  have t7 : ∀ a, a ≠ 1 → a ≠ 36 → c7.1 a = c6.1 a := fun a q1 q2 => by
    rw [← eq7, pU_n q1, pU_n q2]
  have t8 : c7.2 = c6.2 := by rw [← eq7]; rfl
  have hR : rdR c7 m6 (it + 1) := by
    refine ⟨n, k, b, true, z2, rdL_c hL ?_ ?_ ?_ ?_ ?_ ?_ ?_, rdS_c hS ?_ ?_ ?_ ?_ ?_, rdB_c hB ?_ ?_ ?_ ?_ ?_, ⟨?_, ?_, ?_, ?_, ⟨v0, hv0, by rw [t36, pk_us], M8⟩, ⟨w2, U8, by rw [t36, pk_un (by decide), K 36 (by decide) (by decide)]; exact U9, by rw [M0 13 (by decide) (by decide) (by decide) (by decide)]; exact U10⟩, ?_⟩, M9, ?_⟩
    · rw [t7 27 (by decide) (by decide), K 27 (by decide) (by decide)]
    · exact M0 6 (by decide) (by decide) (by decide) (by decide)
    · rw [t7 28 (by decide) (by decide), K 28 (by decide) (by decide)]
    · rw [t7 29 (by decide) (by decide), K 29 (by decide) (by decide)]
    · rw [t7 30 (by decide) (by decide), K 30 (by decide) (by decide)]
    · rw [t7 34 (by decide) (by decide), K 34 (by decide) (by decide)]
    · exact MM 2 (by decide) (by decide)
    · rw [t7 27 (by decide) (by decide), K 27 (by decide) (by decide)]
    · exact M0 7 (by decide) (by decide) (by decide) (by decide)
    · intro j _; rw [t36, pk_un (by omega), K 36 (by decide) (by decide)]
    · rw [t7 31 (by decide) (by decide), K 31 (by decide) (by decide)]
    · exact MM 3 (by decide) (by decide)
    · rw [t7 27 (by decide) (by decide), K 27 (by decide) (by decide)]
    · exact M0 8 (by decide) (by decide) (by decide) (by decide)
    · rw [t7 32 (by decide) (by decide), K 32 (by decide) (by decide)]
    · rw [t7 33 (by decide) (by decide), K 33 (by decide) (by decide)]
    · exact MM 4 (by decide) (by decide)
    · rw [t1', pk_us]; rfl
    · rw [M7]; rfl
    · rw [t1', pk_un (by decide), K1 8 (by decide)]; exact U3
    · rw [M0 11 (by decide) (by decide) (by decide) (by decide)]; exact U4
    · rw [t36, pk_un (by decide), K 36 (by decide) (by decide)]; exact U11
    · rw [hit, hz]
      have y1 : zn true = 1 := rfl
      have y0 : zn false = 0 := rfl
      omega
  refine Or.inr ⟨c7, m5, m6, ?_, rfl, f2, hand_c f3 (fun j _ _ => by rw [t1', pk_un (by omega)]), hR, ?_, f7, ⟨fun a q1 q3 q => ?_, ?_, ?_⟩, ?_⟩
  · rw [f1, bd_s]
    unfold jm_X6_tell jm_X4_setLift
    rw [if_neg (show ¬ (117 : Int32) = 98 by decide), if_neg (show ¬ (117 : Int32) = 108 by decide), if_neg (show ¬ (117 : Int32) = 115 by decide), if_pos rfl, K3, pk_us, nm_d, bd_s, nm_d, bd_s, show 27 + 8 + 1 = 36 from rfl, ← eq7]
  · unfold txC at f6 ⊢
    rw [t1', pk_un (by decide), t7 2 (by decide) (by decide)]; exact f6
  · rw [t7 a (by omega) (by omega), K a q1 q3]
  · rw [t1', pk_un (by decide), K1 1 (by decide)]
  · rw [t8, f4.2.1, g4.2.1, a7.2.2.1]
  · exact mF_t fm (mF_t (mX_F g5) (mF_t (mF_U _ _ (by omega) (by omega)) (mX_F f5)))
theorem tilt1 {N M nb n k b it : Nat} {z1 z2 : Bool} {c m : PS} {T : Nat → Nat} (hp : pre c m T nb) (hL : rdL c m n) (hS : rdS c m n k) (hB : rdB c m b) (hU : rdU c m z1 z2) (h9 : m.1 0 9 = nI it) (hit : it = n + k + b + zn z1 + zn z2) (hz : z2 = false)
    (l0 : ∀ s : PS, s.1 27 = c.1 27 → jm_X6_least N 116 (nI 0) 27 s = some (0, s)) (h0 : ∀ s : PS, s.1 27 = c.1 27 → jm_X6_most N 116 (nI 0) 27 s = some (6, s)) (hN : 2000 ≤ N) :
    itemR N c m T nb it (clP N 116 1 0 (M + 2) c) (bd (jm_X9_told N 5 (0 : Int32) (0 : Int32) (6 : Int32) m) (fun v2 st3 => if v2 = 0 then (some (((0 : Int32), st3))) else (nm (pU st3 0 11 (1 : Int32)) (fun st5 => nm (pU st5 0 13 ((st5.1 5 0) - (3 : Int32))) (fun st6 => bd (jm_X9_ends N st6) (fun v7 st8 => gd (isZ v7) (some ((v7, st8))))))))) := by
  have e3 : mL 5 = 1 := rfl
  rw [show jm_X9_told N 5 0 0 6 m = jm_X9_told N 5 (nI 0) 0 6 m from rfl]
  rcases num (N := N) (N1 := M + 1) (nn := 1) (i := 0) (r := 5) (idx := 0) hp (by omega) (by omega) l0 h0 (by omega) (by omega) (by omega) (by omega) hN with ⟨c1, m1, g1, g2, g3, g4, g5⟩ | ⟨v0, c1, m1, a1, a2, a3, a4, a5, a6, a7, a8⟩
  · rw [g1, g2, bd_s, if_pos p00]
    exact Or.inl ⟨c1, m1, rfl, rfl, g3, cX_F g4, mX_F g5⟩
  rw [a4, a5, bd_s, if_neg n10, nm_d, nm_d, pU_n (show ¬ 5 = 0 by decide), a8.2.1, pk_us]
  have fm : mF m (pU (pU m1 0 11 1) 0 13 (nI v0 - 3)) := mF_t (mN_F a8 (by omega) (by omega)) (mF_t (mF_U _ _ (by omega) (by omega)) (mF_U _ _ (by omega) (by omega)))
  rcases semi (N := N) (N1 := M) (nn := 1) (y := 116) (pre_U (v := nI v0 - 3) (j := 13) (pre_U (v := 1) (j := 11) a6 (by omega) (by omega)) (by omega) (by omega)) (by omega) hN with ⟨c5, m5, g1, g2, g3, g4, g5⟩ | ⟨c5, m5, g1, g2, g3, g4, g5⟩
  · rw [g1, g2, bd_s, isz0, gd_t]
    exact Or.inl ⟨c5, m5, rfl, rfl, g3, cF_t (cN_F a7) (cX_F g4), mF_t fm (mX_F g5)⟩
  rw [g1, g2, bd_s, isz1, gd_t]
  obtain ⟨c6, m6, f1, f2, f3, f4, f5, f6, f7⟩ := fin (N := N) (v := m5.1 0 9 + 1) g3 hN
  have K : ∀ a, a ≠ 1 → a ≠ 3 → c6.1 a = c.1 a := fun a q1 q3 => by
    rw [f4.1 a q1, g4.1 a q1, a7.1 a q1 q3]
  have K1 : ∀ j, j ∉ ([2, 3, 4, 5] : List Nat) → c6.1 1 j = c.1 1 j := fun j hj => by
    rw [f4.2.2 j hj, g4.2.2 j hj, a7.2.2.2 j hj]
  have K3 : c6.1 3 = upd (c.1 3) 0 (nI v0) := by
    rw [f4.1 3 (by decide), g4.1 3 (by decide), a7.2.1]
  have m59 : m5.1 0 9 = nI it := by
    rw [g5.2.2 9 (by decide), pU_1, pk_un (by decide), pU_1, pk_un (by decide), a8.2.2.2 9 (by decide), h9]
  have M0 : ∀ j, j ∉ ([2, 3, 4, 5] : List Nat) → j ≠ 11 → j ≠ 13 → j ≠ 9 → m6.1 0 j = m.1 0 j := fun j hj h6 h7 h9 => by
    rw [f5.2.2 j hj, pU_1, pk_un h9, g5.2.2 j hj, pU_1, pk_un h7, pU_1, pk_un h6, a8.2.2.2 j hj]
  have M7 : m6.1 0 11 = 1 := by
    rw [f5.2.2 11 (by decide), pU_1, pk_un (by decide), g5.2.2 11 (by decide), pU_1, pk_un (by decide), pU_1, pk_us]
  have M8 : m6.1 0 13 = nI v0 - 3 := by
    rw [f5.2.2 13 (by decide), pU_1, pk_un (by decide), g5.2.2 13 (by decide), pU_1, pk_us]
  have M9 : m6.1 0 9 = nI (it + 1) := by
    rw [f5.2.2 9 (by decide), pU_1, pk_us, m59, nI_1]
  have MM : ∀ a, a ≠ 0 → a ≠ 5 → m6.1 a = m.1 a := fun a q0 q2 => by
    rw [f5.1 a q0, pU_n q0, g5.1 a q0, pU_n q0, pU_n q0, a8.1 a q0 q2]
  have hv0 : v0 ≤ 6 := v_le (n := 6) a3 (by omega) a2
  obtain ⟨U1, U2, U3, U4, ⟨w1, U5, U6, U7⟩, ⟨w2, U8, U9, U10⟩, U11⟩ := hU
  generalize eq7 : pU (pU c6 36 1 (nI v0 - 3)) 1 8 1 = c7
  have t36 : c7.1 36 = upd (c6.1 36) 1 (nI v0 - 3) := by
    rw [← eq7, pU_n (by decide), pU_1]
  have t1' : c7.1 1 = upd (c6.1 1) 8 1 := by
    rw [← eq7, pU_1, pU_n (by decide)]
  have t7 : ∀ a, a ≠ 1 → a ≠ 36 → c7.1 a = c6.1 a := fun a q1 q2 => by
    rw [← eq7, pU_n q1, pU_n q2]
  have t8 : c7.2 = c6.2 := by rw [← eq7]; rfl
  have hR : rdR c7 m6 (it + 1) := by
    refine ⟨n, k, b, z1, true, rdL_c hL ?_ ?_ ?_ ?_ ?_ ?_ ?_, rdS_c hS ?_ ?_ ?_ ?_ ?_, rdB_c hB ?_ ?_ ?_ ?_ ?_, ⟨?_, ?_, ?_, ?_, ⟨w1, U5, by rw [t36, pk_un (by decide), K 36 (by decide) (by decide)]; exact U6, by rw [M0 12 (by decide) (by decide) (by decide) (by decide)]; exact U7⟩, ⟨v0, hv0, by rw [t36, pk_us]; rfl, M8⟩, ?_⟩, M9, ?_⟩
    · rw [t7 27 (by decide) (by decide), K 27 (by decide) (by decide)]
    · exact M0 6 (by decide) (by decide) (by decide) (by decide)
    · rw [t7 28 (by decide) (by decide), K 28 (by decide) (by decide)]
    · rw [t7 29 (by decide) (by decide), K 29 (by decide) (by decide)]
    · rw [t7 30 (by decide) (by decide), K 30 (by decide) (by decide)]
    · rw [t7 34 (by decide) (by decide), K 34 (by decide) (by decide)]
    · exact MM 2 (by decide) (by decide)
    · rw [t7 27 (by decide) (by decide), K 27 (by decide) (by decide)]
    · exact M0 7 (by decide) (by decide) (by decide) (by decide)
    · intro j _; rw [t36, pk_un (by omega), K 36 (by decide) (by decide)]
    · rw [t7 31 (by decide) (by decide), K 31 (by decide) (by decide)]
    · exact MM 3 (by decide) (by decide)
    · rw [t7 27 (by decide) (by decide), K 27 (by decide) (by decide)]
    · exact M0 8 (by decide) (by decide) (by decide) (by decide)
    · rw [t7 32 (by decide) (by decide), K 32 (by decide) (by decide)]
    · rw [t7 33 (by decide) (by decide), K 33 (by decide) (by decide)]
    · exact MM 4 (by decide) (by decide)
    · rw [t1', pk_un (by decide), K1 7 (by decide)]; exact U1
    · rw [M0 10 (by decide) (by decide) (by decide) (by decide)]; exact U2
    · rw [t1', pk_us]; rfl
    · rw [M7]; rfl
    · rw [t36, pk_un (by decide), K 36 (by decide) (by decide)]; exact U11
    · rw [hit, hz]
      have y1 : zn true = 1 := rfl
      have y0 : zn false = 0 := rfl
      omega
  refine Or.inr ⟨c7, m5, m6, ?_, rfl, f2, hand_c f3 (fun j _ _ => by rw [t1', pk_un (by omega)]), hR, ?_, f7, ⟨fun a q1 q3 q => ?_, ?_, ?_⟩, ?_⟩
  · rw [f1, bd_s]
    unfold jm_X6_tell jm_X4_setTilt
    rw [if_neg (show ¬ (116 : Int32) = 98 by decide), if_neg (show ¬ (116 : Int32) = 108 by decide), if_neg (show ¬ (116 : Int32) = 115 by decide), if_neg (show ¬ (116 : Int32) = 117 by decide), K3, pk_us, nm_d, bd_s, nm_d, bd_s, show 27 + 8 + 1 = 36 from rfl, ← eq7]
  · unfold txC at f6 ⊢
    rw [t1', pk_un (by decide), t7 2 (by decide) (by decide)]; exact f6
  · rw [t7 a (by omega) (by omega), K a q1 q3]
  · rw [t1', pk_un (by decide), K1 1 (by decide)]
  · rw [t8, f4.2.1, g4.2.1, a7.2.2.1]
  · exact mF_t fm (mF_t (mX_F g5) (mF_t (mF_U _ _ (by omega) (by omega)) (mX_F f5)))
