/-! PURE: a new puppet -/
theorem cp_in {f g : Nat → Int32} {n j : Nat} (h : j < n) : va_cpy f g 0 0 n j = f j := by
  rw [pk_cpy_in (by omega) (by omega), show 0 + (j - 0) = j by omega]
theorem pupC {N : Nat} {v : Int32} {c : PS} (hN : 2000 ≤ N) : ∃ r, (bd (jm_X6_empty N c) (fun v4 st5 => bd (jm_X0_copyFrom N 17 27 st5) (fun v6 st7 => bd (jm_X5_begin N 37 25 st7) (fun v8 st9 => iter (fun q => jm_X8_puppet_L53 N v q.1 q.2) N ((0 : Int32), st9))))) = some r ∧ (r.1 = v ∧ r.2.2 = c.2 ∧ r.2.1 1 1 = 0 ∧ r.2.1 17 7 = c.1 27 7 ∧ r.2.1 17 8 = c.1 27 8 ∧ r.2.1 17 9 = c.1 27 9 ∧ (∀ j, j < 8 → r.2.1 18 j = c.1 28 j ∧ r.2.1 19 j = c.1 29 j ∧ r.2.1 20 j = c.1 30 j) ∧ (∀ j, j < 6 → r.2.1 21 j = c.1 31 j) ∧ (∀ j, j < 7 → r.2.1 22 j = c.1 32 j ∧ r.2.1 23 j = c.1 33 j) ∧ (∀ j, j < 64 → r.2.1 24 j = c.1 34 j) ∧ (∀ j, j < 21 → r.2.1 39 j = c.1 36 j) ∧ r.2.1 40 1 = 0 ∧ r.2.1 40 2 = 0 ∧ r.2.1 42 2 = 0 ∧ r.2.1 47 2 = 0 ∧ r.2.1 9 4 = 0) := by
  unfold jm_X6_empty jm_X0_copyFrom jm_X5_begin jm_X4_copyFrom jm_X3_empty
  rw [nm_d, bd_s, show ((0 : Int32)).toNatClampNeg = 0 from rfl, show ((8 : Int32)).toNatClampNeg = 8 from rfl, show ((6 : Int32)).toNatClampNeg = 6 from rfl, show ((7 : Int32)).toNatClampNeg = 7 from rfl, show ((64 : Int32)).toNatClampNeg = 64 from rfl, show ((21 : Int32)).toNatClampNeg = 21 from rfl]
  rw [nm_d, nm_d, nm_d, nm_d, nm_d, nm_d, nm_d, nm_d, bd_s, nm_d, nm_d, nm_d, bd_s, nm_d, bd_s, nm_d, nm_d, bd_s, bd_s]
  generalize eS : pU (pU _ (37 + 3) 1 0) (37 + 3) 2 0 = s
  have h2 : s.2 = c.2 := by rw [← eS]; rfl
  have h11 : s.1 1 1 = 0 := by rw [← eS]; rfl
  have h17 : s.1 17 7 = c.1 27 7 ∧ s.1 17 8 = c.1 27 8 ∧ s.1 17 9 = c.1 27 9 := by rw [← eS]; exact ⟨rfl, rfl, rfl⟩
  have h18 : s.1 18 = va_cpy (c.1 28) (c.1 18) 0 0 8 := by rw [← eS]; rfl
  have h19 : s.1 19 = va_cpy (c.1 29) (c.1 19) 0 0 8 := by rw [← eS]; rfl
  have h20 : s.1 20 = va_cpy (c.1 30) (c.1 20) 0 0 8 := by rw [← eS]; rfl
  have h21 : s.1 21 = va_cpy (c.1 31) (c.1 21) 0 0 6 := by rw [← eS]; rfl
  have h22 : s.1 22 = va_cpy (c.1 32) (c.1 22) 0 0 7 := by rw [← eS]; rfl
  have h23 : s.1 23 = va_cpy (c.1 33) (c.1 23) 0 0 7 := by rw [← eS]; rfl
  have h24 : s.1 24 = va_cpy (c.1 34) (c.1 24) 0 0 64 := by rw [← eS]; rfl
  have h39 : s.1 39 = va_cpy (va_cpy (c.1 36) (c.1 26) 0 0 21) (c.1 39) 0 0 21 := by rw [← eS]; rfl
  have h40 : s.1 40 1 = 0 ∧ s.1 40 2 = 0 := by rw [← eS]; exact ⟨rfl, rfl⟩
  clear eS
  obtain ⟨N, rfl⟩ : ∃ q, N = q + 3 := ⟨N - 3, by omega⟩
  have l0 : jm_X8_puppet_L53 (N + 3) v 0 s = some (.inl (1, pU s 42 2 0)) := rfl
  have l1 : jm_X8_puppet_L53 (N + 3) v 1 (pU s 42 2 0) = some (.inl (2, pU (pU s 42 2 0) 47 2 0)) := rfl
  have l2 : jm_X8_puppet_L53 (N + 3) v 2 (pU (pU s 42 2 0) 47 2 0) = some (.inr (v, pU (pU (pU s 42 2 0) 47 2 0) 9 4 0)) := rfl
  refine ⟨(v, pU (pU (pU s 42 2 0) 47 2 0) 9 4 0), ?_, rfl, h2, ?_, ?_, ?_, ?_, fun j hj => ⟨?_, ?_, ?_⟩, fun j hj => ?_, fun j hj => ⟨?_, ?_⟩, fun j hj => ?_, fun j hj => ?_, ?_, ?_, ?_, ?_, ?_⟩
  · exact (iter_s l0).trans ((iter_s l1).trans (iter_e l2))
  · rw [pU_n (by decide), pU_n (by decide), pU_n (by decide)]; exact h11
  · rw [pU_n (by decide), pU_n (by decide), pU_n (by decide)]; exact h17.1
  · rw [pU_n (by decide), pU_n (by decide), pU_n (by decide)]; exact h17.2.1
  · rw [pU_n (by decide), pU_n (by decide), pU_n (by decide)]; exact h17.2.2
  · rw [pU_n (by decide), pU_n (by decide), pU_n (by decide), h18, cp_in hj]
  · rw [pU_n (by decide), pU_n (by decide), pU_n (by decide), h19, cp_in hj]
  · rw [pU_n (by decide), pU_n (by decide), pU_n (by decide), h20, cp_in hj]
  · rw [pU_n (by decide), pU_n (by decide), pU_n (by decide), h21, cp_in hj]
  · rw [pU_n (by decide), pU_n (by decide), pU_n (by decide), h22, cp_in hj]
  · rw [pU_n (by decide), pU_n (by decide), pU_n (by decide), h23, cp_in hj]
  · rw [pU_n (by decide), pU_n (by decide), pU_n (by decide), h24, cp_in hj]
  · rw [pU_n (by decide), pU_n (by decide), pU_n (by decide), h39, cp_in hj, cp_in hj]
  · rw [pU_n (by decide), pU_n (by decide), pU_n (by decide)]; exact h40.1
  · rw [pU_n (by decide), pU_n (by decide), pU_n (by decide)]; exact h40.2
  · rw [pU_n (by decide), pU_n (by decide), pU_1, pk_us]
  · rw [pU_n (by decide), pU_1, pk_us]
  · rw [pU_1, pk_us]
/-! the reference: how far limbs are apart -/
theorem fG_ext {n : Nat} {G G' par bone : Nat → Int32} (h : fG n G par bone) (hn : n < 8) (hpar : ∀ a, a ≤ n → 0 < a → ∃ q : Nat, par a = nI q ∧ q < a) (g1 : ∀ a, a < n → ∀ l, l < n → G' (8 * a + l) = G (8 * a + l)) (g2 : ∀ l, l < n → G' (8 * n + l) = bone n + G (8 * (par n).toNatClampNeg + l) ∧ G' (8 * l + n) = bone n + G (8 * (par n).toNatClampNeg + l)) (g3 : G' (8 * n + n) = 0) : fG (n + 1) G' par bone := by
  obtain ⟨h1, h2, h3⟩ := h
  refine ⟨fun a ha => ?_, fun a ha l hl => ?_, fun a ha l hl => ?_⟩
  · by_cases z : a = n
    · rw [z]; exact g3
    · rw [g1 a (by omega) a (by omega)]; exact h1 a (by omega)
  · by_cases z : a = n
    · by_cases y : l = n
      · rw [z, y]
      · rw [z, (g2 l (by omega)).1, (g2 l (by omega)).2]
    · by_cases y : l = n
      · rw [y, (g2 a (by omega)).1, (g2 a (by omega)).2]
      · rw [g1 a (by omega) l (by omega), g1 l (by omega) a (by omega)]; exact h2 a (by omega) l (by omega)
  · obtain ⟨q, eq, hq⟩ := hpar a (by omega) (by omega)
    by_cases z : a = n
    · rw [z] at eq hl ⊢
      rw [(g2 l (by omega)).1, eq, cl (by omega), g1 q (by omega) l (by omega)]
    · rw [g1 a (by omega) l (by omega), h3 a (by omega) l hl, eq, cl (by omega), g1 q (by omega) l (by omega)]
theorem fG_eq {n : Nat} {G G2 par par2 bone bone2 : Nat → Int32} (hn : n ≤ 8) (h : fG n G par bone) (h' : fG n G2 par2 bone2) (hp : ∀ a, a < n → 0 < a → ∃ q : Nat, par a = nI q ∧ par2 a = nI q ∧ q < a) (hb : ∀ a, a < n → 0 < a → bone a = bone2 a) : ∀ a, a < n → ∀ l, l < n → G (8 * a + l) = G2 (8 * a + l) := by
  obtain ⟨h1, h2, h3⟩ := h
  obtain ⟨k1, k2, k3⟩ := h'
  have key : ∀ s a, a < s → a < n → ∀ l, l ≤ a → G (8 * a + l) = G2 (8 * a + l) := by
    intro s
    induction s with
    | zero => intro a ha; omega
    | succ s ih =>
      intro a ha han l hl
      by_cases z : l = a
      · rw [z, h1 a han, k1 a han]
      · obtain ⟨q, e1, e2, hq⟩ := hp a han (by omega)
        rw [h3 a han l (by omega), k3 a han l (by omega), e1, e2, hb a han (by omega), cl (by omega)]
        by_cases y : l ≤ q
        · rw [ih q (by omega) (by omega) l y]
        · rw [h2 q (by omega) l (by omega), k2 q (by omega) l (by omega), ih l (by omega) (by omega) q (by omega)]
  intro a ha l hl
  by_cases z : l ≤ a
  · exact key (a + 1) a (by omega) ha l z
  · rw [h2 a ha l hl, k2 a ha l hl]
    exact key (l + 1) l (by omega) hl a (by omega)
theorem q_lay {N n : Nat} {m : PS} (h18 : m.1 0 18 = nI n) (hn : n ≤ 8) (hpar : ∀ a, a < n → 0 < a → ∃ q : Nat, m.1 6 a = nI q ∧ q < a) (hN : 2000 ≤ N) : ∃ m', jm_X9_layFars N m = some ((), m') ∧ ((∀ a, a ≠ 12 → m'.1 a = m.1 a) ∧ m'.2 = m.2 ∧ fG n (m'.1 12) (m.1 6) (m.1 7)) := by
  unfold jm_X9_layFars
  refine ex_el (iter_inv (f := fun q => jm_X9_layFars_L2 N q.1 q.2) (fun i s => s.1 = nI i ∧ (∀ a, a ≠ 12 → s.2.1 a = m.1 a) ∧ s.2.2 = m.2 ∧ fG i (s.2.1 12) (m.1 6) (m.1 7)) (fun r : Unit × PS => (∀ a, a ≠ 12 → r.2.1 a = m.1 a) ∧ r.2.2 = m.2 ∧ fG n (r.2.1 12) (m.1 6) (m.1 7)) n ?_ ?_ (by omega) ?_) (fun r g1 g2 => ⟨r.2, g1, g2⟩)
  · rintro i ⟨w, st⟩ hi ⟨rfl, h1, h2, h3⟩
    show ∃ s', jm_X9_layFars_L2 N (nI i) st = some (.inl s') ∧ _
    unfold jm_X9_layFars_L2
    rw [h1 0 (by decide), h18, if_neg (nle hi (by omega)), m8', inB_nI (show 8 * i + i < 64 by omega) (by omega), gd_t, nm_d, cl (by omega)]
    refine ex_el (iter_inv (N := N) (s0 := (0, pU st 12 (8 * i + i) 0)) (f := fun q => jm_X9_layFars_L24 N (nI i) q.1 q.2) (fun u s => s.1 = nI u ∧ (∀ a, a ≠ 12 → s.2.1 a = m.1 a) ∧ s.2.2 = m.2 ∧ (∀ a, a < i → ∀ l, l < i → s.2.1 12 (8 * a + l) = st.1 12 (8 * a + l)) ∧ s.2.1 12 (8 * i + i) = 0 ∧ ∀ l, l < u → s.2.1 12 (8 * i + l) = m.1 7 i + st.1 12 (8 * (m.1 6 i).toNatClampNeg + l) ∧ s.2.1 12 (8 * l + i) = m.1 7 i + st.1 12 (8 * (m.1 6 i).toNatClampNeg + l)) (fun r : (Int32 × PS) ⊕ (Unit × PS) => ∃ s', r = .inl (nI (i + 1), s') ∧ (∀ a, a ≠ 12 → s'.1 a = m.1 a) ∧ s'.2 = m.2 ∧ (∀ a, a < i → ∀ l, l < i → s'.1 12 (8 * a + l) = st.1 12 (8 * a + l)) ∧ s'.1 12 (8 * i + i) = 0 ∧ ∀ l, l < i → s'.1 12 (8 * i + l) = m.1 7 i + st.1 12 (8 * (m.1 6 i).toNatClampNeg + l) ∧ s'.1 12 (8 * l + i) = m.1 7 i + st.1 12 (8 * (m.1 6 i).toNatClampNeg + l)) i ?_ ?_ (by omega) ?_) (fun r g1 g2 => ?_)
    · rintro u ⟨w, s⟩ hu ⟨rfl, k1, k2, k3, k4, k5⟩
      obtain ⟨q, eq, hq⟩ := hpar i hi (by omega)
      rw [eq, cl (by omega)] at k5 ⊢
      refine ⟨(nI (u + 1), pU (pU s 12 (8 * i + u) (m.1 7 i + st.1 12 (8 * q + u))) 12 (8 * u + i) (m.1 7 i + st.1 12 (8 * q + u))), ?_, rfl, fun a ha => ?_, k2, fun a ha l hl => ?_, ?_, fun l hl => ⟨?_, ?_⟩⟩
      · show jm_X9_layFars_L24 N (nI i) (nI u) s = _
        unfold jm_X9_layFars_L24
        rw [if_neg (nle hu (by omega)), inB_nI (show i < 8 by omega) (by omega), gd_t, gd_t, cl (by omega), k1 6 (by decide), k1 7 (by decide), eq, m8', m8', m8', inB_nI (show 8 * q + u < 64 by omega) (by omega), gd_t, nm_d, inB_nI (show 8 * i + u < 64 by omega) (by omega), gd_t, nm_d, inB_nI (show 8 * u + i < 64 by omega) (by omega), gd_t, nm_d, cl (by omega), cl (by omega), cl (by omega), nI_1, k3 q (by omega) u hu]
      · rw [pU_n ha, pU_n ha]; exact k1 a ha
      · rw [pU_1, pk_un (by omega), pU_1, pk_un (by omega)]; exact k3 a ha l hl
      · rw [pU_1, pk_un (by omega), pU_1, pk_un (by omega)]; exact k4
      · rw [pU_1, pk_un (by omega), pU_1]
        by_cases e : l = u
        · subst e; rw [pk_us]
        · rw [pk_un (by omega)]; exact (k5 l (by omega)).1
      · rw [pU_1]
        by_cases e : l = u
        · subst e; rw [pk_us]
        · rw [pk_un (by omega), pU_1, pk_un (by omega)]; exact (k5 l (by omega)).2
    · rintro ⟨w, s⟩ ⟨rfl, k1, k2, k3, k4, k5⟩
      refine ⟨.inl (nI (i + 1), s), ?_, s, rfl, k1, k2, k3, k4, k5⟩
      show jm_X9_layFars_L24 N (nI i) (nI i) s = _
      unfold jm_X9_layFars_L24
      rw [if_pos (yle (Nat.le_refl _) (by omega)), nI_1]
    · refine ⟨rfl, fun a ha => ?_, h2, fun a ha l hl => ?_, ?_, fun l hl => absurd hl (by omega)⟩
      · rw [pU_n ha]; exact h1 a ha
      · rw [pU_1, pk_un (by omega)]
      · rw [pU_1, pk_us]
    · obtain ⟨s', rfl, k1, k2, k3, k4, k5⟩ := g2
      exact ⟨(nI (i + 1), s'), g1, rfl, k1, k2, fG_ext h3 (by omega) (fun a ha h0 => hpar a (by omega) h0) k3 k5 k4⟩
  · rintro ⟨w, st⟩ ⟨rfl, h1, h2, h3⟩
    refine ⟨((), st), ?_, h1, h2, h3⟩
    show jm_X9_layFars_L2 N (nI n) st = _
    unfold jm_X9_layFars_L2
    rw [h1 0 (by decide), h18, if_pos (yle (Nat.le_refl _) (by omega))]
  · exact ⟨rfl, fun _ _ => rfl, rfl, fun a ha => absurd ha (by omega), fun a ha => absurd ha (by omega), fun a ha => absurd ha (by omega)⟩
