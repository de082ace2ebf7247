/-! PURE: a new puppet, of the reference -/
def PD (m m' : PS) (n b : Nat) : Prop := (∀ a, a ∉ ([0, 10, 11, 12, 19] : List Nat) → m'.1 a = m.1 a) ∧ m'.2 = m.2 ∧ (∀ j, j ≠ 30 → j ≠ 34 → m'.1 0 j = m.1 0 j) ∧ m'.1 0 30 = 0 ∧ m'.1 0 34 = 0 ∧ (∀ i, i < b → m'.1 10 i = m.1 4 (2 * i) ∧ m'.1 11 i = m.1 4 (2 * i + 1) - 3) ∧ fG n (m'.1 12) (m.1 6) (m.1 7) ∧ m'.1 19 0 = 0 ∧ m'.1 19 1 = 0
theorem pupD {N n b : Nat} {m : PS} (h18 : m.1 0 18 = nI n) (hn : n ≤ 8) (h20 : m.1 0 20 = nI b) (hb : b ≤ 7) (hpar : ∀ a, a < n → 0 < a → ∃ q : Nat, m.1 6 a = nI q ∧ q < a) (hN : 2000 ≤ N) : ∃ r : (Int32 × PS) ⊕ ((Int32 × PS) ⊕ ((Int32 × PS) ⊕ (Int32 × PS))), iter (fun q => jm_X9_puppet_L245 N q.1 q.2) N ((0 : Int32), m) = some r ∧ ∃ m', r = .inr (.inr (.inr (m.1 0 9, m'))) ∧ PD m m' n b := by
  refine iter_inv (N := N) (s0 := (0, m)) (f := fun q => jm_X9_puppet_L245 N q.1 q.2) (fun i s => s.1 = nI i ∧ (∀ a, a ≠ 10 → a ≠ 11 → s.2.1 a = m.1 a) ∧ s.2.2 = m.2 ∧ ∀ j, j < i → s.2.1 10 j = m.1 4 (2 * j) ∧ s.2.1 11 j = m.1 4 (2 * j + 1) - 3) (fun r : (Int32 × PS) ⊕ ((Int32 × PS) ⊕ ((Int32 × PS) ⊕ (Int32 × PS))) => ∃ m', r = .inr (.inr (.inr (m.1 0 9, m'))) ∧ PD m m' n b) b ?_ ?_ (by omega) ?_
  · rintro i ⟨w, st⟩ hi ⟨rfl, h1, h2, h3⟩
    have i0 : (2 : Int32) * nI i = nI (2 * i) := pk_mul 2 i
    refine ⟨(nI (i + 1), pU (pU st 10 i (m.1 4 (2 * i))) 11 i (m.1 4 (2 * i + 1) - 3)), ?_, rfl, fun a q1 q2 => ?_, h2, fun j hj => ⟨?_, ?_⟩⟩
    · show jm_X9_puppet_L245 N (nI i) st = _
      unfold jm_X9_puppet_L245
      rw [h1 0 (by decide) (by decide), h20, if_neg (nle hi (by omega)), i0, inB_nI (show 2 * i < 14 by omega) (by omega), gd_t, inB_nI (show i < 7 by omega) (by omega), gd_t, nm_d, nI_1, inB_nI (show 2 * i + 1 < 14 by omega) (by omega), gd_t, gd_t, nm_d, cl (by omega), cl (by omega), cl (by omega), h1 4 (by decide) (by decide), pU_n (show ¬ 4 = 10 by decide), h1 4 (by decide) (by decide), nI_1]
    · rw [pU_n q2, pU_n q1]; exact h1 a q1 q2
    · rw [pU_n (by decide), pU_1]
      by_cases e : j = i
      · subst e; rw [pk_us]
      · rw [pk_un e]; exact (h3 j (by omega)).1
    · rw [pU_1]
      by_cases e : j = i
      · subst e; rw [pk_us]
      · rw [pk_un e, pU_n (by decide)]; exact (h3 j (by omega)).2
  · rintro ⟨w, st⟩ ⟨rfl, h1, h2, h3⟩
    have k6 : st.1 6 = m.1 6 := h1 6 (by decide) (by decide)
    have k7 : st.1 7 = m.1 7 := h1 7 (by decide) (by decide)
    obtain ⟨m', g1, g2, g3, g4⟩ := q_lay (N := N) (m := st) (by rw [h1 0 (by decide) (by decide)]; exact h18) hn (by rw [k6]; exact hpar) hN
    rw [k6, k7] at g4
    generalize eF : pU (pU (pU (pU m' 0 30 0) 0 34 0) 19 0 (vp_nar .boolean 0)) 19 1 (vp_nar .boolean 0) = mf
    have q0 : mf.1 0 = upd (upd (m.1 0) 30 0) 34 0 := by
      rw [← eF, pU_n (by decide), pU_n (by decide), pU_1, pU_1, g2 0 (by decide), h1 0 (by decide) (by decide)]
    have q19 : mf.1 19 = upd (upd (m'.1 19) 0 0) 1 0 := by
      rw [← eF, pU_1, pU_1, nar0, pU_n (by decide), pU_n (by decide)]
    have qa : ∀ a, a ≠ 0 → a ≠ 19 → mf.1 a = m'.1 a := fun a e1 e2 => by
      rw [← eF, pU_n e2, pU_n e2, pU_n e1, pU_n e1]
    refine ⟨.inr (.inr (.inr (m.1 0 9, mf))), ?_, mf, rfl, fun a ha => ?_, ?_, fun j q1 q2 => ?_, ?_, ?_, fun i hi => ?_, ?_, ?_, ?_⟩
    · show jm_X9_puppet_L245 N (nI b) st = _
      unfold jm_X9_puppet_L245
      rw [h1 0 (by decide) (by decide), h20, if_pos (yle (Nat.le_refl _) (by omega)), g1, bd_s, nm_d, nm_d, nm_d, nm_d, eF, q0, pk_un (by decide), pk_un (by decide)]
    · simp at ha
      rw [qa a (by omega) (by omega), g2 a (by omega), h1 a (by omega) (by omega)]
    · rw [← eF]; exact g3.trans h2
    · rw [q0, pk_un q2, pk_un q1]
    · rw [q0, pk_un (by decide), pk_us]
    · rw [q0, pk_us]
    · rw [qa 10 (by decide) (by decide), qa 11 (by decide) (by decide), g2 10 (by decide), g2 11 (by decide)]; exact h3 i hi
    · rw [qa 12 (by decide) (by decide)]; exact g4
    · rw [q19, pk_un (by decide), pk_us]
    · rw [q19, pk_us]
  · exact ⟨rfl, fun _ _ _ => rfl, rfl, fun j hj => absurd hj (by omega)⟩
def PC (m m' : PS) (n k b : Nat) : Prop := ∃ m1 : PS, (∀ a, a ≠ 9 → a ≠ 13 → m1.1 a = m.1 a) ∧ m1.2 = m.2 ∧ (∀ s, s < k → m1.1 13 (3 + s) = m.1 3 (4 * s) ∧ m1.1 13 (9 + s) = m.1 3 (4 * s + 1) ∧ m1.1 13 (15 + s) = m.1 3 (4 * s + 2) ∧ m1.1 9 s = m.1 3 (4 * s + 3)) ∧ (∀ j, (j < 3 ∨ (3 + k ≤ j ∧ j < 9) ∨ (9 + k ≤ j ∧ j < 15) ∨ 15 + k ≤ j) → m1.1 13 j = m.1 13 j) ∧ PD m1 m' n b
theorem pupCm {N n k b : Nat} {m : PS} (h18 : m.1 0 18 = nI n) (hn : n ≤ 8) (h19 : m.1 0 19 = nI k) (hk : k ≤ 6) (h20 : m.1 0 20 = nI b) (hb : b ≤ 7) (hpar : ∀ a, a < n → 0 < a → ∃ q : Nat, m.1 6 a = nI q ∧ q < a) (hN : 2000 ≤ N) : ∃ r : (Int32 × PS) ⊕ ((Int32 × PS) ⊕ (Int32 × PS)), iter (fun q => jm_X9_puppet_L159 N q.1 q.2) N ((0 : Int32), m) = some r ∧ ∃ m', r = .inr (.inr (m.1 0 9, m')) ∧ PC m m' n k b := by
  refine iter_inv (N := N) (s0 := (0, m)) (f := fun q => jm_X9_puppet_L159 N q.1 q.2) (fun i s => s.1 = nI i ∧ (∀ a, a ≠ 9 → a ≠ 13 → s.2.1 a = m.1 a) ∧ s.2.2 = m.2 ∧ (∀ q, q < i → s.2.1 13 (3 + q) = m.1 3 (4 * q) ∧ s.2.1 13 (9 + q) = m.1 3 (4 * q + 1) ∧ s.2.1 13 (15 + q) = m.1 3 (4 * q + 2) ∧ s.2.1 9 q = m.1 3 (4 * q + 3)) ∧ (∀ j, (j < 3 ∨ (3 + i ≤ j ∧ j < 9) ∨ (9 + i ≤ j ∧ j < 15) ∨ 15 + i ≤ j) → s.2.1 13 j = m.1 13 j)) (fun r : (Int32 × PS) ⊕ ((Int32 × PS) ⊕ (Int32 × PS)) => ∃ m', r = .inr (.inr (m.1 0 9, m')) ∧ PC m m' n k b) k ?_ ?_ (by omega) ?_
  · rintro i ⟨w, st⟩ hi ⟨rfl, h1, h2, h3, h4⟩
    have i0 : (4 : Int32) * nI i = nI (4 * i) := pk_mul 4 i
    have i2 : nI (4 * i) + 2 = nI (4 * i + 2) := nI_add (4 * i) 2
    have i3 : nI (4 * i) + 3 = nI (4 * i + 3) := nI_add (4 * i) 3
    have k3 : st.1 3 = m.1 3 := h1 3 (by decide) (by decide)
    generalize eS : pU (pU (pU (pU st 13 (3 + i) (m.1 3 (4 * i))) 13 (9 + i) (m.1 3 (4 * i + 1))) 13 (15 + i) (m.1 3 (4 * i + 2))) 9 i (m.1 3 (4 * i + 3)) = s'
    have e13 : s'.1 13 = upd (upd (upd (st.1 13) (3 + i) (m.1 3 (4 * i))) (9 + i) (m.1 3 (4 * i + 1))) (15 + i) (m.1 3 (4 * i + 2)) := by
      rw [← eS, pU_n (by decide), pU_1, pU_1, pU_1]
    have e9 : s'.1 9 = upd (st.1 9) i (m.1 3 (4 * i + 3)) := by
      rw [← eS, pU_1, pU_n (by decide), pU_n (by decide), pU_n (by decide)]
    refine ⟨(nI (i + 1), s'), ?_, rfl, fun a q1 q2 => ?_, ?_, fun q hq => ?_, fun j hj => ?_⟩
    · show jm_X9_puppet_L159 N (nI i) st = _
      unfold jm_X9_puppet_L159
      rw [h1 0 (by decide) (by decide), h19, if_neg (nle hi (by omega)), i0, inB_nI (show 4 * i < 24 by omega) (by omega), gd_t, show (3 : Int32) + nI i = nI (3 + i) from nI_add 3 i, inB_nI (show 3 + i < 21 by omega) (by omega), gd_t, nm_d, nI_1, inB_nI (show 4 * i + 1 < 24 by omega) (by omega), gd_t, a9, inB_nI (show 9 + i < 21 by omega) (by omega), gd_t, nm_d, i2, inB_nI (show 4 * i + 2 < 24 by omega) (by omega), gd_t, a15, inB_nI (show 15 + i < 21 by omega) (by omega), gd_t, nm_d, i3, inB_nI (show 4 * i + 3 < 24 by omega) (by omega), gd_t, inB_nI (show i < 6 by omega) (by omega), gd_t, nm_d, nI_1]
      rw [cl (show 3 + i < 100000 by omega), cl (show 9 + i < 100000 by omega), cl (show 15 + i < 100000 by omega), cl (show 4 * i < 100000 by omega), cl (show 4 * i + 1 < 100000 by omega), cl (show 4 * i + 2 < 100000 by omega), cl (show 4 * i + 3 < 100000 by omega), cl (show i < 100000 by omega)]
      have p3 : ∀ (s : PS) (j : Nat) (v : Int32), (pU s 13 j v).1 3 = s.1 3 := fun _ _ _ => pU_n (by decide)
      simp only [p3, k3]
      rw [eS]
    · rw [← eS, pU_n q1, pU_n q2, pU_n q2, pU_n q2]; exact h1 a q1 q2
    · rw [← eS]; exact h2
    · show s'.1 13 (3 + q) = _ ∧ s'.1 13 (9 + q) = _ ∧ s'.1 13 (15 + q) = _ ∧ s'.1 9 q = _
      rw [e13, e9]
      by_cases e : q = i
      · subst e
        refine ⟨?_, ?_, ?_, ?_⟩
        · rw [pk_un (by omega), pk_un (by omega), pk_us]
        · rw [pk_un (by omega), pk_us]
        · rw [pk_us]
        · rw [pk_us]
      · obtain ⟨k1, k2, k3, k4⟩ := h3 q (by omega)
        refine ⟨?_, ?_, ?_, ?_⟩
        · rw [pk_un (by omega), pk_un (by omega), pk_un (by omega)]; exact k1
        · rw [pk_un (by omega), pk_un (by omega), pk_un (by omega)]; exact k2
        · rw [pk_un (by omega), pk_un (by omega), pk_un (by omega)]; exact k3
        · rw [pk_un e]; exact k4
    · show s'.1 13 j = _
      rw [e13, pk_un (by omega), pk_un (by omega), pk_un (by omega)]
      exact h4 j (by omega)
  · rintro ⟨w, st⟩ ⟨rfl, h1, h2, h3, h4⟩
    have k0 : st.1 0 = m.1 0 := h1 0 (by decide) (by decide)
    obtain ⟨r, g1, m', g2, g3⟩ := pupD (N := N) (n := n) (b := b) (m := st) (by rw [k0]; exact h18) hn (by rw [k0]; exact h20) hb (by rw [h1 6 (by decide) (by decide)]; exact hpar) hN
    refine ⟨.inr (.inr (m.1 0 9, m')), ?_, m', rfl, st, h1, h2, h3, h4, g3⟩
    show jm_X9_puppet_L159 N (nI k) st = _
    unfold jm_X9_puppet_L159
    rw [k0, h19, if_pos (yle (Nat.le_refl _) (by omega)), g1, g2, k0]
  · exact ⟨rfl, fun _ _ _ => rfl, rfl, fun j hj => absurd hj (by omega), fun _ _ => rfl⟩
def PB (m m' : PS) (n k b : Nat) : Prop := ∃ m1 : PS, (∀ a, a ≠ 13 → m1.1 a = m.1 a) ∧ m1.2 = m.2 ∧ m1.1 13 0 = m.1 0 12 ∧ m1.1 13 1 = m.1 0 13 ∧ (∀ j, 2 ≤ j → j < 21 → m1.1 13 j = 0) ∧ PC m1 m' n k b
theorem pupB {N n k b : Nat} {m : PS} (h18 : m.1 0 18 = nI n) (hn : n ≤ 8) (h19 : m.1 0 19 = nI k) (hk : k ≤ 6) (h20 : m.1 0 20 = nI b) (hb : b ≤ 7) (hpar : ∀ a, a < n → 0 < a → ∃ q : Nat, m.1 6 a = nI q ∧ q < a) (hN : 2000 ≤ N) : ∃ r : (Int32 × PS) ⊕ (Int32 × PS), iter (fun q => jm_X9_puppet_L118 N q.1 q.2) N ((0 : Int32), m) = some r ∧ ∃ m', r = .inr (m.1 0 9, m') ∧ PB m m' n k b := by
  refine iter_inv (N := N) (s0 := (0, m)) (f := fun q => jm_X9_puppet_L118 N q.1 q.2) (fun i s => s.1 = nI i ∧ (∀ a, a ≠ 13 → s.2.1 a = m.1 a) ∧ s.2.2 = m.2 ∧ ∀ j, j < i → s.2.1 13 j = 0) (fun r : (Int32 × PS) ⊕ (Int32 × PS) => ∃ m', r = .inr (m.1 0 9, m') ∧ PB m m' n k b) 21 ?_ ?_ (by omega) ?_
  · rintro i ⟨w, st⟩ hi ⟨rfl, h1, h2, h3⟩
    refine ⟨(nI (i + 1), pU st 13 i 0), ?_, rfl, fun a q1 => ?_, h2, fun j hj => ?_⟩
    · show jm_X9_puppet_L118 N (nI i) st = _
      unfold jm_X9_puppet_L118
      rw [if_neg (show ¬ (21 : Int32) ≤ nI i from nle (a := 21) hi (by omega)), inB_nI hi (by omega), gd_t, nm_d, cl (by omega), nI_1]
    · rw [pU_n q1]; exact h1 a q1
    · rw [pU_1]
      by_cases e : j = i
      · subst e; rw [pk_us]
      · rw [pk_un e]; exact h3 j (by omega)
  · rintro ⟨w, st⟩ ⟨rfl, h1, h2, h3⟩
    have k0 : st.1 0 = m.1 0 := h1 0 (by decide)
    generalize eS : pU (pU st 13 0 (m.1 0 12)) 13 1 (m.1 0 13) = s'
    have e0 : s'.1 0 = m.1 0 := by rw [← eS, pU_n (by decide), pU_n (by decide), k0]
    have ea : ∀ a, a ≠ 13 → s'.1 a = m.1 a := fun a q => by rw [← eS, pU_n q, pU_n q, h1 a q]
    have e13 : s'.1 13 = upd (upd (st.1 13) 0 (m.1 0 12)) 1 (m.1 0 13) := by rw [← eS, pU_1, pU_1]
    obtain ⟨r, g1, m', g2, g3⟩ := pupCm (N := N) (n := n) (k := k) (b := b) (m := s') (by rw [e0]; exact h18) hn (by rw [e0]; exact h19) hk (by rw [e0]; exact h20) hb (by rw [ea 6 (by decide)]; exact hpar) hN
    refine ⟨.inr (m.1 0 9, m'), ?_, m', rfl, s', ea, by rw [← eS]; exact h2, ?_, ?_, fun j j1 j2 => ?_, g3⟩
    · show jm_X9_puppet_L118 N (nI 21) st = _
      unfold jm_X9_puppet_L118
      rw [if_pos (show (21 : Int32) ≤ nI 21 by decide), nm_d, nm_d, k0, pU_n (show ¬ 0 = 13 by decide), k0, eS, g1, g2, e0]
    · rw [e13, pk_un (by decide), pk_us]
    · rw [e13, pk_us]
    · rw [e13, pk_un (by omega), pk_un (by omega)]; exact h3 j j2
  · exact ⟨rfl, fun _ _ => rfl, rfl, fun j hj => absurd hj (by omega)⟩
def PA (m m' : PS) (n k b : Nat) : Prop := ∃ m1 : PS, (∀ a, a ≠ 6 → a ≠ 7 → a ≠ 8 → m1.1 a = m.1 a) ∧ m1.2 = m.2 ∧ (∀ l, l < n → m1.1 6 l = (if l = 0 then -9 else m.1 2 (3 * l)) ∧ m1.1 7 l = m.1 2 (3 * l + 1) ∧ m1.1 8 l = m.1 2 (3 * l + 2)) ∧ PB m1 m' n k b
theorem pupA {N n k b : Nat} {m : PS} (h18 : m.1 0 18 = nI n) (hn : n ≤ 8) (h19 : m.1 0 19 = nI k) (hk : k ≤ 6) (h20 : m.1 0 20 = nI b) (hb : b ≤ 7) (hpar : ∀ a, a < n → 0 < a → ∃ q : Nat, m.1 2 (3 * a) = nI q ∧ q < a) (hN : 2000 ≤ N) : ∃ r : Int32 × PS, iter (fun q => jm_X9_puppet_L47 N q.1 q.2) N ((0 : Int32), m) = some r ∧ (r.1 = m.1 0 9 ∧ PA m r.2 n k b) := by
  refine iter_inv (N := N) (s0 := (0, m)) (f := fun q => jm_X9_puppet_L47 N q.1 q.2) (fun i s => s.1 = nI i ∧ (∀ a, a ≠ 6 → a ≠ 7 → a ≠ 8 → s.2.1 a = m.1 a) ∧ s.2.2 = m.2 ∧ ∀ l, l < i → s.2.1 6 l = (if l = 0 then -9 else m.1 2 (3 * l)) ∧ s.2.1 7 l = m.1 2 (3 * l + 1) ∧ s.2.1 8 l = m.1 2 (3 * l + 2)) (fun r : Int32 × PS => r.1 = m.1 0 9 ∧ PA m r.2 n k b) n ?_ ?_ (by omega) ?_
  · rintro i ⟨w, st⟩ hi ⟨rfl, h1, h2, h3⟩
    have i0 : (3 : Int32) * nI i = nI (3 * i) := pk_mul 3 i
    have i2 : nI (3 * i) + 2 = nI (3 * i + 2) := nI_add (3 * i) 2
    have k2 : st.1 2 = m.1 2 := h1 2 (by decide) (by decide) (by decide)
    generalize eS : pU (pU (pU st 6 i (if i = 0 then -9 else m.1 2 (3 * i))) 7 i (m.1 2 (3 * i + 1))) 8 i (m.1 2 (3 * i + 2)) = s'
    refine ⟨(nI (i + 1), s'), ?_, rfl, fun a q1 q2 q3 => ?_, ?_, fun l hl => ?_⟩
    · show jm_X9_puppet_L47 N (nI i) st = _
      unfold jm_X9_puppet_L47
      have b1 : inB (nI i) 8 = true := inB_nI (by omega) (by omega)
      have b2 : inB (nI (3 * i)) 24 = true := inB_nI (by omega) (by omega)
      have b3 : inB (nI (3 * i + 1)) 24 = true := inB_nI (by omega) (by omega)
      have b4 : inB (nI (3 * i + 2)) 24 = true := inB_nI (by omega) (by omega)
      have p6 : ∀ (s : PS) (j : Nat) (v : Int32), (pU s 6 j v).1 2 = s.1 2 := fun _ _ _ => pU_n (by decide)
      have p7 : ∀ (s : PS) (j : Nat) (v : Int32), (pU s 7 j v).1 2 = s.1 2 := fun _ _ _ => pU_n (by decide)
      rw [h1 0 (by decide) (by decide) (by decide), h18, if_neg (nle hi (by omega)), i0, nI_1, i2, nI_1]
      simp only [b1, b2, b3, b4, gd_t, nm_d]
      rw [cl (show i < 100000 by omega), cl (show 3 * i < 100000 by omega), cl (show 3 * i + 1 < 100000 by omega), cl (show 3 * i + 2 < 100000 by omega)]
      simp only [p6, p7, k2]
      by_cases z : i = 0
      · rw [if_pos ((nI_z (by omega)).mpr z), ← eS, if_pos z]
      · rw [if_neg (fun e => z ((nI_z (by omega)).mp e)), ← eS, if_neg z]
    · rw [← eS, pU_n q3, pU_n q2, pU_n q1]; exact h1 a q1 q2 q3
    · rw [← eS]; exact h2
    · show s'.1 6 l = _ ∧ s'.1 7 l = _ ∧ s'.1 8 l = _
      rw [← eS, pU_n (show ¬ 6 = 8 by decide), pU_n (show ¬ 6 = 7 by decide), pU_1, pU_n (show ¬ 7 = 8 by decide), pU_1, pU_n (show ¬ 7 = 6 by decide), pU_1, pU_n (show ¬ 8 = 7 by decide), pU_n (show ¬ 8 = 6 by decide)]
      by_cases e : l = i
      · subst e; rw [pk_us, pk_us, pk_us]; exact ⟨rfl, rfl, rfl⟩
      · rw [pk_un e, pk_un e, pk_un e]; exact h3 l (by omega)
  · rintro ⟨w, st⟩ ⟨rfl, h1, h2, h3⟩
    have k0 : st.1 0 = m.1 0 := h1 0 (by decide) (by decide) (by decide)
    obtain ⟨r, g1, m', g2, g3⟩ := pupB (N := N) (n := n) (k := k) (b := b) (m := st) (by rw [k0]; exact h18) hn (by rw [k0]; exact h19) hk (by rw [k0]; exact h20) hb (fun a ha h0 => by
      obtain ⟨q, e, hq⟩ := hpar a ha h0
      exact ⟨q, by rw [(h3 a ha).1, if_neg (by omega)]; exact e, hq⟩) hN
    refine ⟨(m.1 0 9, m'), ?_, rfl, st, h1, h2, h3, g3⟩
    show jm_X9_puppet_L47 N (nI n) st = _
    unfold jm_X9_puppet_L47
    rw [k0, h18, if_pos (yle (Nat.le_refl _) (by omega)), g1, g2, k0]
  · exact ⟨rfl, fun _ _ _ _ => rfl, rfl, fun j hj => absurd hj (by omega)⟩
