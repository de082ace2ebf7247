/-! PURE: the item of a limb -/
theorem v_le {v n : Nat} (hv : v ≤ 99) (hn : n < 100000) (h : nI v ≤ nI n) : v ≤ n := (nI_leI (by omega) (by omega)).mp h
theorem v_ge {v n : Nat} (hv : v ≤ 99) (hn : n < 100000) (h : ¬ nI v < nI n) : n ≤ v := by
  by_cases z : v < n
  · exact absurd (nI_lt z (by omega)) h
  · omega
theorem isz1 : isZ 1 = true := rfl
theorem isz0 : isZ 0 = true := rfl
theorem limb3 {N M nb n k b it : Nat} {z1 z2 : Bool} {lo0 hi0 lo1 hi1 : Int32} {c m : PS} {T : Nat → Nat} (hp : pre c m T nb) (hL : rdL c m n) (hS : rdS c m n k) (hB : rdB c m b) (hU : rdU c m z1 z2) (h9 : m.1 0 9 = nI it) (hit : it = n + k + b + zn z1 + zn z2) (hn : n < 8)
    (l0 : ∀ s : PS, s.1 27 = c.1 27 → jm_X6_least N 108 (nI 0) 27 s = some (lo0, s)) (h0 : ∀ s : PS, s.1 27 = c.1 27 → jm_X6_most N 108 (nI 0) 27 s = some (hi0, s))
    (l1 : ∀ s : PS, s.1 27 = c.1 27 → jm_X6_least N 108 (nI 1) 27 s = some (lo1, s)) (h1 : ∀ s : PS, s.1 27 = c.1 27 → jm_X6_most N 108 (nI 1) 27 s = some (hi1, s))
    (l2 : ∀ s : PS, s.1 27 = c.1 27 → jm_X6_least N 108 (nI 2) 27 s = some (1, s)) (h2 : ∀ s : PS, s.1 27 = c.1 27 → jm_X6_most N 108 (nI 2) 27 s = some (9, s))
    (hv : ∀ v, v ≤ 99 → nI v ≤ hi0 → v < n ∨ (n = 0 ∧ v = 0)) (hN : 2000 ≤ N) :
    itemR N c m T nb it (clP N 108 3 0 (M + 4) c) (bd (jm_X9_told N 2 ((3 : Int32) * nI n) lo0 hi0 m) (fun v3 st4 => if v3 = 0 then (some (((0 : Int32), st4))) else (bd (jm_X9_told N 2 (((3 : Int32) * nI n) + (1 : Int32)) lo1 hi1 st4) (fun v6 st7 => if v6 = 0 then (some (((0 : Int32), st7))) else (bd (jm_X9_told N 2 (((3 : Int32) * nI n) + (2 : Int32)) (1 : Int32) (9 : Int32) st7) (fun v9 st10 => if v9 = 0 then (some (((0 : Int32), st10))) else (nm (pU st10 0 6 ((st10.1 0 6) + (1 : Int32))) (fun st12 => bd (jm_X9_ends N st12) (fun v13 st14 => gd (isZ v13) (some ((v13, st14)))))))))))) := by
  have i0 : (3 : Int32) * nI n = nI (3 * n) := pk_mul 3 n
  have i1 : (3 : Int32) * nI n + 1 = nI (3 * n + 1) := by rw [i0, nI_1]
  have i2 : (3 : Int32) * nI n + 2 = nI (3 * n + 2) := by rw [i0]; exact nI_add (3 * n) 2
  rw [i1, i2, i0]
  have e3 : mL 2 = 24 := rfl
  rcases num (N := N) (N1 := M + 3) (nn := 3) (i := 0) (r := 2) (idx := 3 * n) hp (by omega) (by omega) l0 h0 (by omega) (by omega) (by omega) (by omega) hN with ⟨c1, m1, g1, g2, g3, g4, g5⟩ | ⟨v0, c1, m1, a1, a2, a3, a4, a5, a6, a7, a8⟩
  · rw [g1, g2, bd_s, if_pos p00]
    exact Or.inl ⟨c1, m1, rfl, rfl, g3, cX_F g4, mX_F g5⟩
  rw [a4, a5, bd_s, if_neg n10]
  have k1 : c1.1 27 = c.1 27 := a7.1 27 (by decide) (by decide)
  rcases num (N := N) (N1 := M + 2) (nn := 3) (i := 1) (r := 2) (idx := 3 * n + 1) a6 (by omega) (by omega) (fun s hs => l1 s (hs.trans k1)) (fun s hs => h1 s (hs.trans k1)) (by omega) (by omega) (by omega) (by omega) hN with ⟨c2, m2, g1, g2, g3, g4, g5⟩ | ⟨v1, c2, m2, b1, b2, b3, b4, b5, b6, b7, b8⟩
  · rw [g1, g2, bd_s, if_pos p00]
    exact Or.inl ⟨c2, m2, rfl, rfl, g3, cF_t (cN_F a7) (cX_F g4), mF_t (mN_F a8 (by omega) (by omega)) (mX_F g5)⟩
  rw [b4, b5, bd_s, if_neg n10]
  have k2 : c2.1 27 = c.1 27 := (b7.1 27 (by decide) (by decide)).trans k1
  rcases num (N := N) (N1 := M + 1) (nn := 3) (i := 2) (r := 2) (idx := 3 * n + 2) b6 (by omega) (by omega) (fun s hs => l2 s (hs.trans k2)) (fun s hs => h2 s (hs.trans k2)) (by omega) (by omega) (by omega) (by omega) hN with ⟨c3, m3, g1, g2, g3, g4, g5⟩ | ⟨v2, c3, m3, d1, d2, d3, d4, d5, d6, d7, d8⟩
  · rw [g1, g2, bd_s, if_pos p00]
    exact Or.inl ⟨c3, m3, rfl, rfl, g3, cF_t (cN_F a7) (cF_t (cN_F b7) (cX_F g4)), mF_t (mN_F a8 (by omega) (by omega)) (mF_t (mN_F b8 (by omega) (by omega)) (mX_F g5))⟩
  rw [d4, d5, bd_s, if_neg n10, nm_d]
  have m36 : m3.1 0 6 = nI n := by rw [d8.2.2.2 6 (by decide), b8.2.2.2 6 (by decide), a8.2.2.2 6 (by decide)]; exact hL.2.1
  rw [m36, nI_1]
  have fc : cF c c3 := cF_t (cN_F a7) (cF_t (cN_F b7) (cN_F d7))
  have fm : mF m (pU m3 0 6 (nI (n + 1))) := mF_t (mN_F a8 (by omega) (by omega)) (mF_t (mN_F b8 (by omega) (by omega)) (mF_t (mN_F d8 (by omega) (by omega)) (mF_U _ _ (by omega) (by omega))))
  rcases semi (N := N) (N1 := M) (nn := 3) (y := 108) (pre_U (v := nI (n + 1)) (j := 6) d6 (by omega) (by omega)) (by omega) hN with ⟨c4, m4, g1, g2, g3, g4, g5⟩ | ⟨c4, m4, g1, g2, g3, g4, g5⟩
  · rw [g1, g2, bd_s, isz0, gd_t]
    exact Or.inl ⟨c4, m4, rfl, rfl, g3, cF_t fc (cX_F g4), mF_t fm (mX_F g5)⟩
  rw [g1, g2, bd_s, isz1, gd_t]
  obtain ⟨c5, m5, f1, f2, f3, f4, f5, f6, f7⟩ := fin (N := N) (v := m4.1 0 9 + 1) g3 hN
  have K : ∀ a, a ≠ 1 → a ≠ 3 → c5.1 a = c.1 a := fun a q1 q3 => by
    rw [f4.1 a q1, g4.1 a q1, d7.1 a q1 q3, b7.1 a q1 q3, a7.1 a q1 q3]
  have K1 : ∀ j, j ∉ ([2, 3, 4, 5] : List Nat) → c5.1 1 j = c.1 1 j := fun j hj => by
    rw [f4.2.2 j hj, g4.2.2 j hj, d7.2.2.2 j hj, b7.2.2.2 j hj, a7.2.2.2 j hj]
  have K3 : c5.1 3 = upd (upd (upd (c.1 3) 0 (nI v0)) 1 (nI v1)) 2 (nI v2) := by
    rw [f4.1 3 (by decide), g4.1 3 (by decide), d7.2.1, b7.2.1, a7.2.1]
  have m49 : m4.1 0 9 = nI it := by
    rw [g5.2.2 9 (by decide), pU_1, pk_un (by decide), d8.2.2.2 9 (by decide), b8.2.2.2 9 (by decide), a8.2.2.2 9 (by decide), h9]
  have M0 : ∀ j, j ∉ ([2, 3, 4, 5] : List Nat) → j ≠ 6 → j ≠ 9 → m5.1 0 j = m.1 0 j := fun j hj h6 h9 => by
    rw [f5.2.2 j hj, pU_1, pk_un h9, g5.2.2 j hj, pU_1, pk_un h6, d8.2.2.2 j hj, b8.2.2.2 j hj, a8.2.2.2 j hj]
  have M6 : m5.1 0 6 = nI (n + 1) := by
    rw [f5.2.2 6 (by decide), pU_1, pk_un (by decide), g5.2.2 6 (by decide), pU_1, pk_us]
  have M9 : m5.1 0 9 = nI (it + 1) := by
    rw [f5.2.2 9 (by decide), pU_1, pk_us, m49, nI_1]
  have M2 : m5.1 2 = upd (upd (upd (m.1 2) (3 * n) (nI v0)) (3 * n + 1) (nI v1)) (3 * n + 2) (nI v2) := by
    rw [f5.1 2 (by decide), pU_n (by decide), g5.1 2 (by decide), pU_n (by decide), d8.2.1, b8.2.1, a8.2.1]
  have MM : ∀ a, a ≠ 0 → a ≠ 2 → m5.1 a = m.1 a := fun a q0 q2 => by
    rw [f5.1 a q0, pU_n q0, g5.1 a q0, pU_n q0, d8.1 a q0 q2, b8.1 a q0 q2, a8.1 a q0 q2]
  obtain ⟨L1, L2, L3, L4, L5⟩ := hL
  have hpn := hv v0 a3 a2
  obtain ⟨c6, t1, t2, t3, t4, t5, t6, t7, t8, t9, t10, t11⟩ := q_addLimb (N := N) (p := v0) (x2 := nI v1) (x3 := nI v2) (show c5.1 27 7 = nI n by rw [K 27 (by decide) (by decide)]; exact L1) hn (by omega) hN
  have hR : rdR c6 m5 (it + 1) := by
    refine ⟨n + 1, k, b, z1, z2, ⟨t2, M6, by omega, fun l hl => ?_, ?_⟩, rdS_n (rdS_c hS ?_ ?_ ?_ ?_ ?_) (by omega), rdB_c hB ?_ ?_ ?_ ?_ ?_, rdU_c hU ?_ ?_ ?_ ?_, M9, by omega⟩
    · rw [t4, t5, t6, M2]
      by_cases e : l = n
      · subst e
        refine ⟨v0, v1, v2, by rw [pk_us], by rw [pk_un (by omega), pk_un (by omega), pk_us], hpn, by rw [pk_us], by rw [pk_un (by omega), pk_us], by rw [pk_us], by rw [pk_us]⟩
      · obtain ⟨p, v, w, q1, q2, q3, q4, q5, q6, q7⟩ := L4 l (by omega)
        refine ⟨p, v, w, ?_, ?_, q3, ?_, ?_, ?_, ?_⟩
        · rw [pk_un e, K 28 (by decide) (by decide)]; exact q1
        · rw [pk_un (by omega), pk_un (by omega), pk_un (by omega)]; exact q2
        · rw [pk_un e, K 29 (by decide) (by decide)]; exact q4
        · rw [pk_un (by omega), pk_un (by omega), pk_un (by omega)]; exact q5
        · rw [pk_un e, K 30 (by decide) (by decide)]; exact q6
        · rw [pk_un (by omega), pk_un (by omega), pk_un (by omega)]; exact q7
    · rw [K 34 (by decide) (by decide)] at t9 t10
      refine fG_add L5 (by omega) (fun l hl => ?_) hn (by rw [t4, K 28 (by decide) (by decide)]) (by rw [t5, K 29 (by decide) (by decide)]) t9 t10 t11
      obtain ⟨p, v, w, q1, q2, q3, -⟩ := L4 l hl
      exact ⟨p, q1, q3⟩
    · rw [t3 8 (by decide), K 27 (by decide) (by decide)]
    · exact M0 7 (by decide) (by decide) (by decide)
    · intro j _; rw [t7 36 (by decide), K 36 (by decide) (by decide)]
    · rw [t7 31 (by decide), K 31 (by decide) (by decide)]
    · exact MM 3 (by decide) (by decide)
    · rw [t3 9 (by decide), K 27 (by decide) (by decide)]
    · exact M0 8 (by decide) (by decide) (by decide)
    · rw [t7 32 (by decide), K 32 (by decide) (by decide)]
    · rw [t7 33 (by decide), K 33 (by decide) (by decide)]
    · exact MM 4 (by decide) (by decide)
    · rw [t7 1 (by decide), K1 7 (by decide)]
    · rw [t7 1 (by decide), K1 8 (by decide)]
    · intro j _; rw [t7 36 (by decide), K 36 (by decide) (by decide)]
    · intro j q1 q2; exact M0 j (by simp; omega) (by omega) (by omega)
  refine Or.inr ⟨c6, m4, m5, ?_, rfl, f2, hand_c f3 (fun j _ _ => by rw [t7 1 (by decide)]), hR, ?_, f7, ⟨fun a q1 q3 q => ?_, ?_, ?_⟩, ?_⟩
  · rw [f1, bd_s]
    unfold jm_X6_tell
    rw [if_neg (show ¬ (108 : Int32) = 98 by decide), if_pos rfl, K3, pk_us, pk_un (show (1 : Nat) ≠ 2 by decide), pk_us, pk_un (show (0 : Nat) ≠ 2 by decide), pk_un (show (0 : Nat) ≠ 1 by decide), pk_us, t1, bd_s, bd_s]
  · unfold txC at f6 ⊢
    rw [t7 1 (by decide), t7 2 (by decide)]; exact f6
  · rw [t7 a (by simp; omega), K a q1 q3]
  · rw [t7 1 (by decide), K1 1 (by decide)]
  · rw [t8, f4.2.1, g4.2.1, d7.2.2.1, b7.2.2.1, a7.2.2.1]
  · exact mF_t fm (mF_t (mX_F g5) (mF_t (mF_U _ _ (by omega) (by omega)) (mX_F f5)))
