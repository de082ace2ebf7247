/-! PURE: the relation of a state of the class and a state of the reference -/
def scR (n k : Nat) (rc rm : Nat → Int32) (uc pc um qm : Int32) (f g : Nat → Int32) : Prop := ∃ (R : Nat → Int32) (u p q : Nat), rowOk n k R ∧ rV rc R ∧ rV rm R ∧ u ≤ 10 ∧ p < 10 ∧ q < 10 ∧ uc = nI u ∧ pc = nI p ∧ um = nI u ∧ qm = nI q ∧ ring n k u p q f g
def imR (n k : Nat) (kc km : Int32) (rc rm : Nat → Int32) (uc pc um qm : Int32) (f g : Nat → Int32) : Prop := (kc = 0 ∧ km = 0) ∨ (kc = 1 ∧ km = 1 ∧ scR n k rc rm uc pc um qm f g)
def relD (c m : PS) (n k b : Nat) (F Wt Sg : Nat → Int32) (bl bt : Nat → Nat) : Prop := cV c 17 n k F ∧ mV m n k F ∧ (∀ a, a < n → ∀ l, l < n → F (8 * a + l) = F (8 * l + a)) ∧ (∀ l, l < n → m.1 6 l = (if l = 0 then -9 else c.1 18 l) ∧ m.1 7 l = c.1 19 l ∧ c.1 20 l = Wt l ∧ m.1 8 l = Wt l) ∧ (∀ s, s < k → c.1 21 s = Sg s ∧ m.1 9 s = Sg s ∧ ∃ v, 0 < v ∧ v ≤ 40 ∧ Sg s = nI v) ∧ cB c b bl bt ∧ mB m b bl bt
def relT (c m : PS) : Prop := ∃ nb, nb ≤ 170 ∧ c.1 1 1 = nI nb ∧ m.1 0 0 = nI nb ∧ ∀ i, i < nb → ∃ v, v < 256 ∧ c.1 2 i = nI v ∧ m.1 1 i = nI v
def relI (c m : PS) (n k : Nat) : Prop := imR n k (c.1 42 2) (m.1 19 0) (c.1 44) (fun j => m.1 20 (21 * 0 + j)) (c.1 45 1) (c.1 45 2) (m.1 22 0) (m.1 23 0) (c.1 46) (fun j => m.1 21 (210 * 0 + j)) ∧ imR n k (c.1 47 2) (m.1 19 1) (c.1 49) (fun j => m.1 20 (21 * 1 + j)) (c.1 50 1) (c.1 50 2) (m.1 22 1) (m.1 23 1) (c.1 51) (fun j => m.1 21 (210 * 1 + j))
def relS (c m : PS) (n : Nat) : Prop := ∃ (se : Nat) (SL SH : Nat → Int32), cS c se n SL SH ∧ mS m se n SL SH
def relN (c m : PS) (n k : Nat) : Prop := scR n k (c.1 39) (m.1 13) (c.1 40 1) (c.1 40 2) (m.1 0 30) (m.1 0 31) (c.1 41) (m.1 15)
def Rel (c m : PS) : Prop := ∃ (n k b : Nat) (F Wt Sg : Nat → Int32) (bl bt : Nat → Nat), relD c m n k b F Wt Sg bl bt ∧ relT c m ∧ relI c m n k ∧ relS c m n ∧ relN c m n k ∧ c.2 = m.2
theorem relD_c {c c' m m' : PS} {n k b : Nat} {F Wt Sg : Nat → Int32} {bl bt : Nat → Nat} (h : relD c m n k b F Wt Sg bl bt) (hc : ∀ a, 17 ≤ a → a ≤ 24 → c'.1 a = c.1 a) (h0 : ∀ j, 18 ≤ j → j ≤ 20 → m'.1 0 j = m.1 0 j) (hm : ∀ a, 6 ≤ a → a ≤ 12 → m'.1 a = m.1 a) : relD c' m' n k b F Wt Sg bl bt := by
  obtain ⟨⟨a1, a2, a3, a4, a5⟩, ⟨b1, b2, b3, b4, b5⟩, d3, d4, d5, ⟨e1, e2, e3⟩, ⟨f1, f2, f3⟩⟩ := h
  refine ⟨⟨by rw [hc 17 (by omega) (by omega)]; exact a1, by rw [hc 17 (by omega) (by omega)]; exact a2, a3, a4, fun a ha l hl => by rw [hc (17 + 7) (by omega) (by omega)]; exact a5 a ha l hl⟩, ⟨by rw [h0 18 (by omega) (by omega)]; exact b1, by rw [h0 19 (by omega) (by omega)]; exact b2, b3, b4, fun a ha l hl => by rw [hm 12 (by omega) (by omega)]; exact b5 a ha l hl⟩, d3, fun l hl => ?_, fun s hs => ?_, ⟨by rw [hc 17 (by omega) (by omega)]; exact e1, e2, fun i hi => ?_⟩, ⟨by rw [h0 20 (by omega) (by omega)]; exact f1, f2, fun i hi => ?_⟩⟩
  · rw [hm 6 (by omega) (by omega), hm 7 (by omega) (by omega), hm 8 (by omega) (by omega), hc 18 (by omega) (by omega), hc 19 (by omega) (by omega), hc 20 (by omega) (by omega)]; exact d4 l hl
  · rw [hm 9 (by omega) (by omega), hc 21 (by omega) (by omega)]; exact d5 s hs
  · rw [hc 22 (by omega) (by omega), hc 23 (by omega) (by omega)]; exact e3 i hi
  · rw [hm 10 (by omega) (by omega), hm 11 (by omega) (by omega)]; exact f3 i hi
theorem relT_c {c c' m m' : PS} (h : relT c m) (h1 : c'.1 1 1 = c.1 1 1) (h2 : c'.1 2 = c.1 2) (h3 : m'.1 0 0 = m.1 0 0) (h4 : m'.1 1 = m.1 1) : relT c' m' := by
  obtain ⟨nb, a1, a2, a3, a4⟩ := h
  exact ⟨nb, a1, by rw [h1]; exact a2, by rw [h3]; exact a3, fun i hi => by rw [h2, h4]; exact a4 i hi⟩
theorem relI_c {c c' m m' : PS} {n k : Nat} (h : relI c m n k) (hc : ∀ a, a ∈ ([42, 44, 45, 46, 47, 49, 50, 51] : List Nat) → c'.1 a = c.1 a) (hm : ∀ a, a ∈ ([19, 20, 21, 22, 23] : List Nat) → m'.1 a = m.1 a) : relI c' m' n k := by
  unfold relI at h ⊢
  rw [hc 42 (by decide), hc 44 (by decide), hc 45 (by decide), hc 46 (by decide), hc 47 (by decide), hc 49 (by decide), hc 50 (by decide), hc 51 (by decide), hm 19 (by decide), hm 20 (by decide), hm 21 (by decide), hm 22 (by decide), hm 23 (by decide)]
  exact h
theorem relS_c {c c' m m' : PS} {n : Nat} (h : relS c m n) (h1 : c'.1 9 4 = c.1 9 4) (h2 : c'.1 10 = c.1 10) (h3 : c'.1 11 = c.1 11) (h4 : m'.1 0 34 = m.1 0 34) (h5 : m'.1 17 = m.1 17) (h6 : m'.1 18 = m.1 18) : relS c' m' n := by
  obtain ⟨se, SL, SH, ⟨a1, a2, a3⟩, ⟨b1, b2, b3⟩⟩ := h
  exact ⟨se, SL, SH, ⟨by rw [h1]; exact a1, a2, fun j hj => by rw [h2, h3]; exact a3 j hj⟩, ⟨by rw [h4]; exact b1, b2, fun j hj => by rw [h5, h6]; exact b3 j hj⟩⟩
theorem relN_c {c c' m m' : PS} {n k : Nat} (h : relN c m n k) (h1 : c'.1 39 = c.1 39) (h2 : c'.1 40 = c.1 40) (h3 : c'.1 41 = c.1 41) (h4 : m'.1 13 = m.1 13) (h5 : m'.1 0 30 = m.1 0 30) (h6 : m'.1 0 31 = m.1 0 31) (h7 : m'.1 15 = m.1 15) : relN c' m' n k := by
  unfold relN at h ⊢
  rw [h1, h2, h3, h4, h5, h6, h7]; exact h
/-- questions: only scratch cells change -/
theorem Rel_E {c c' m m' : PS} (h : Rel c m) (ec : cE c c') (em : mE m m') : Rel c' m' := by
  obtain ⟨n, k, b, F, Wt, Sg, bl, bt, hD, hT, hI, hS, hN, ht⟩ := h
  have C : ∀ a, a ∉ ([6, 7, 8, 12, 14, 16] : List Nat) → c'.1 a = c.1 a := ec.1
  have M : ∀ a, a ∉ ([14, 16] : List Nat) → m'.1 a = m.1 a := em.1
  refine ⟨n, k, b, F, Wt, Sg, bl, bt, relD_c hD (fun a h1 h2 => C a (by simp; omega)) (fun j _ _ => by rw [M 0 (by decide)]) (fun a h1 h2 => M a (by simp; omega)), relT_c hT (by rw [C 1 (by decide)]) (C 2 (by decide)) (by rw [M 0 (by decide)]) (M 1 (by decide)), relI_c hI (fun a ha => C a (by simp at ha ⊢; omega)) (fun a ha => M a (by simp at ha ⊢; omega)), relS_c hS (by rw [C 9 (by decide)]) (C 10 (by decide)) (C 11 (by decide)) (by rw [M 0 (by decide)]) (M 17 (by decide)) (M 18 (by decide)), relN_c hN (C 39 (by decide)) (C 40 (by decide)) (C 41 (by decide)) (M 13 (by decide)) (by rw [M 0 (by decide)]) (by rw [M 0 (by decide)]) (M 15 (by decide)), ?_⟩
  rw [ec.2, em.2]; exact ht
/-- deeds: the scene changes -/
theorem Rel_N {c c' m m' : PS} {n k b : Nat} {F Wt Sg : Nat → Int32} {bl bt : Nat → Nat} (hD : relD c m n k b F Wt Sg bl bt) (hT : relT c m) (hI : relI c m n k) (hS : relS c m n) (ht : c.2 = m.2) (C : ∀ a, a ∉ ([39, 40, 41] : List Nat) → c'.1 a = c.1 a) (C2 : c'.2 = c.2) (M : ∀ a, a ∉ ([0, 13, 15] : List Nat) → m'.1 a = m.1 a) (M0 : ∀ j, j ≠ 30 → j ≠ 31 → m'.1 0 j = m.1 0 j) (M2 : m'.2 = m.2) (hN : relN c' m' n k) : Rel c' m' := by
  refine ⟨n, k, b, F, Wt, Sg, bl, bt, relD_c hD (fun a h1 h2 => C a (by simp; omega)) (fun j _ _ => M0 j (by omega) (by omega)) (fun a h1 h2 => M a (by simp; omega)), relT_c hT (by rw [C 1 (by decide)]) (C 2 (by decide)) (M0 0 (by omega) (by omega)) (M 1 (by decide)), relI_c hI (fun a ha => C a (by simp at ha ⊢; omega)) (fun a ha => M a (by simp at ha ⊢; omega)), relS_c hS (by rw [C 9 (by decide)]) (C 10 (by decide)) (C 11 (by decide)) (M0 34 (by omega) (by omega)) (M 17 (by decide)) (M 18 (by decide)), hN, ?_⟩
  rw [C2, M2]; exact ht
/-! is there such a thing -/
theorem inR {N n : Nat} {x y : Int32} {m : PS} (hy : y = nI n) (hn : n ≤ 8) : ((∃ l, l < n ∧ x = nI l) ∧ (bd (jm_X9_in N x 0 (y - 1) m) (fun v1 st2 => gd (isZ v1) (some (v1, st2)))) = some (1, m) ∧ ¬ x < 0 ∧ ¬ y ≤ x) ∨ ((bd (jm_X9_in N x 0 (y - 1) m) (fun v1 st2 => gd (isZ v1) (some (v1, st2)))) = some (0, m) ∧ (x < 0 ∨ (¬ x < 0 ∧ y ≤ x))) := by
  subst hy
  unfold jm_X9_in
  rw [cd_0]
  rcases pk_ix x (show n < 2 ^ 31 by omega) with h | h | ⟨l, hl, rfl⟩
  · right
    rw [if_pos h]
    exact ⟨rfl, Or.inl h⟩
  · right
    have h0 : ¬ x < 0 := by
      have : (nI n).toInt = (n : Int) := nI_toInt (by omega)
      rw [i_le, this] at h
      rw [i_lt, i_0]; omega
    have h1 : cd n 0 < x := by
      have e : (nI n).toInt = (n : Int) := nI_toInt (by omega)
      rw [i_le, e] at h
      unfold cd
      by_cases z : 0 < n
      · rw [if_pos z, i_lt]
        have : (nI (n - 1 - 0)).toInt = ((n - 1 - 0 : Nat) : Int) := nI_toInt (by omega)
        rw [this]; omega
      · rw [if_neg z, i_lt]
        have : (-1 : Int32).toInt = -1 := rfl
        rw [this]; omega
    rw [if_neg h0, if_pos h1]
    exact ⟨rfl, Or.inr ⟨h0, h⟩⟩
  · left
    rw [if_neg (nI_pos (by omega)), cd_in (by omega), if_neg (nI_nlt (by omega) (by omega))]
    exact ⟨⟨l, hl, rfl⟩, rfl, nI_pos (by omega), nle hl (by omega)⟩
theorem isL {N n : Nat} {x : Int32} {c m : PS} (hc : c.1 17 7 = nI n) (hm : m.1 0 18 = nI n) (hn : n ≤ 8) : ((∃ l, l < n ∧ x = nI l) ∧ jm_X8_isLimb N x c = some (1, c) ∧ jm_X9_isLimb N x m = some (1, m)) ∨ (jm_X8_isLimb N x c = some (0, c) ∧ jm_X9_isLimb N x m = some (0, m)) := by
  unfold jm_X8_isLimb jm_X9_isLimb
  rcases inR (N := N) (x := x) (m := m) hm hn with ⟨h1, h2, h3, h4⟩ | ⟨h2, h3⟩
  · exact Or.inl ⟨h1, by rw [if_neg h3, hc, ← hm, if_neg h4], h2⟩
  · refine Or.inr ⟨?_, h2⟩
    rcases h3 with h | ⟨h, h'⟩
    · rw [if_pos h]
    · rw [if_neg h, hc, ← hm, if_pos h']
theorem isS {N n : Nat} {x : Int32} {c m : PS} (hc : c.1 17 8 = nI n) (hm : m.1 0 19 = nI n) (hn : n ≤ 8) : ((∃ l, l < n ∧ x = nI l) ∧ jm_X8_isString N x c = some (1, c) ∧ jm_X9_isString N x m = some (1, m)) ∨ (jm_X8_isString N x c = some (0, c) ∧ jm_X9_isString N x m = some (0, m)) := by
  unfold jm_X8_isString jm_X9_isString
  rcases inR (N := N) (x := x) (m := m) hm hn with ⟨h1, h2, h3, h4⟩ | ⟨h2, h3⟩
  · exact Or.inl ⟨h1, by rw [if_neg h3, hc, ← hm, if_neg h4], h2⟩
  · refine Or.inr ⟨?_, h2⟩
    rcases h3 with h | ⟨h, h'⟩
    · rw [if_pos h]
    · rw [if_neg h, hc, ← hm, if_pos h']
theorem isB {N n : Nat} {x : Int32} {c m : PS} (hc : c.1 17 9 = nI n) (hm : m.1 0 20 = nI n) (hn : n ≤ 8) : ((∃ l, l < n ∧ x = nI l) ∧ jm_X8_isBeat N x c = some (1, c) ∧ jm_X9_isBeat N x m = some (1, m)) ∨ (jm_X8_isBeat N x c = some (0, c) ∧ jm_X9_isBeat N x m = some (0, m)) := by
  unfold jm_X8_isBeat jm_X9_isBeat
  rcases inR (N := N) (x := x) (m := m) hm hn with ⟨h1, h2, h3, h4⟩ | ⟨h2, h3⟩
  · exact Or.inl ⟨h1, by rw [if_neg h3, hc, ← hm, if_neg h4], h2⟩
  · refine Or.inr ⟨?_, h2⟩
    rcases h3 with h | ⟨h, h'⟩
    · rw [if_pos h]
    · rw [if_neg h, hc, ← hm, if_pos h']
theorem n10 : ¬ (1 : Int32) = 0 := by decide
theorem p00 : (0 : Int32) = 0 := rfl
/-- what an operation owes -/
def same1 (f g : PS → Option (Int32 × PS)) : Prop := ∀ c m, Rel c m → ∃ r c' m', f c = some (r, c') ∧ g m = some (r, m') ∧ Rel c' m'
theorem op_count {N : Nat} {x : Int32} : same1 (jm_X8_count N x) (jm_X9_count N x) := by
  intro c m h
  have h' := h
  obtain ⟨n, k, b, F, Wt, Sg, bl, bt, ⟨hV, mV', -, -, -, hB, mB'⟩, ⟨nb, -, t1, t2, -⟩, -, ⟨se, SL, SH, s1, s2⟩, ⟨R, u, p, q, -, -, -, -, -, -, n1, n2, n3, n4, -⟩, -⟩ := h'
  unfold jm_X8_count jm_X9_count jm_X7_size jm_X3_known jm_X6_size
  rw [bd_s, bd_s, bd_s, hV.1, hV.2.1, hB.1, s1.1, n1, t1, mV'.1, mV'.2.1, mB'.1, s2.1, n3, t2]
  repeat' split
  all_goals exact ⟨_, _, _, rfl, rfl, h⟩
theorem op_trace {N : Nat} {c m : PS} (h : Rel c m) : ∃ r c' m', jm_X8_trace N c = some (r, c') ∧ jm_X9_trace N m = some (r, m') ∧ Rel c' m' := by
  have h' := h
  obtain ⟨n, k, b, F, Wt, Sg, bl, bt, -, -, -, -, -, ht⟩ := h'
  refine ⟨c.2, c, m, rfl, ?_, h⟩
  show some (m.2, m) = _
  rw [ht]
theorem op_clear {N : Nat} : same1 (jm_X8_clear N) (jm_X9_clear N) := by
  intro c m h
  obtain ⟨n, k, b, F, Wt, Sg, bl, bt, hD, ⟨nb, t0, t1, t2, t3⟩, hI, hS, hN, ht⟩ := h
  unfold jm_X8_clear jm_X9_clear jm_X6_empty
  rw [nm_d, bd_s, nm_d, t1, t2]
  refine ⟨_, _, _, rfl, rfl, n, k, b, F, Wt, Sg, bl, bt, relD_c hD (fun a h1 h2 => pU_n (by omega)) (fun j _ _ => by rw [pU_1, pk_un (by omega)]) (fun a h1 h2 => pU_n (by omega)), ⟨0, by omega, by rw [pU_1, pk_us]; rfl, by rw [pU_1, pk_us]; rfl, fun i hi => absurd hi (by omega)⟩, relI_c hI (fun a ha => pU_n (by simp at ha; omega)) (fun a ha => pU_n (by simp at ha; omega)), relS_c hS (by rw [pU_n (by decide)]) (pU_n (by decide)) (pU_n (by decide)) (by rw [pU_1, pk_un (by decide)]) (pU_n (by decide)) (pU_n (by decide)), relN_c hN (pU_n (by decide)) (pU_n (by decide)) (pU_n (by decide)) (pU_n (by decide)) (by rw [pU_1, pk_un (by decide)]) (by rw [pU_1, pk_un (by decide)]) (pU_n (by decide)), ht⟩
theorem ch_all : ∀ v : Fin 256, vp_nar .char (((nI v.val).toUInt32 % 65536).toInt32) = nI v.val := by decide +kernel
theorem ty_c {N nb v : Nat} {c : PS} (t1 : c.1 1 1 = nI nb) (hv : v ≤ 255) (h3 : nb < 170) : jm_X8_type N (nI v) c = some (nI (nb + 1), pU (pU c 2 nb (nI v)) 1 1 (nI (nb + 1))) := by
  unfold jm_X8_type jm_X6_add jm_X6_size
  rw [if_neg (nI_pos (by omega)), if_pos (show nI v ≤ 255 from yle (b := 255) hv (by omega)), t1, if_pos (show nI nb < 170 from nI_lt (b := 170) h3 (by omega)), inB_nI h3 (by omega), gd_t, nm_d, nm_d, bd_s, if_neg n10, bd_s, cl (by omega), pU_n (show ¬ 1 = 2 by decide), t1, nI_1, pU_1, pk_us, ch_all ⟨v, by omega⟩]
theorem ty_m {N nb v : Nat} {m : PS} (t1 : m.1 0 0 = nI nb) (hv : v ≤ 255) (h3 : nb < 170) : jm_X9_type N (nI v) m = some (nI (nb + 1), pU (pU m 1 nb (nI v)) 0 0 (nI (nb + 1))) := by
  unfold jm_X9_type jm_X9_in
  rw [if_neg (nI_pos (by omega)), if_neg (show ¬ (255 : Int32) < nI v from nI_nlt (a := 255) (by omega) (by omega)), bd_s, if_neg n10, t1, if_neg (show ¬ nI nb = 170 from fun e => by have := (nI_eq (a := nb) (b := 170) (by omega) (by omega)).mp e; omega), inB_nI h3 (by omega), gd_t, nm_d, nm_d, cl (by omega), pU_n (show ¬ 0 = 1 by decide), t1, nI_1, pU_1, pk_us]
theorem op_type {N : Nat} {x : Int32} : same1 (jm_X8_type N x) (jm_X9_type N x) := by
  intro c m h
  have h' := h
  obtain ⟨n, k, b, F, Wt, Sg, bl, bt, hD, ⟨nb, t0, t1, t2, t3⟩, hI, hS, hN, ht⟩ := h'
  by_cases h1 : x < 0
  · unfold jm_X8_type jm_X9_type jm_X9_in
    rw [if_pos h1, if_pos h1, bd_s, if_pos rfl]
    exact ⟨_, _, _, rfl, rfl, h⟩
  · by_cases h2 : x ≤ 255
    · obtain ⟨v, hv, rfl⟩ := nI_of2 (M := 255) (n := 255) rfl h1 h2
      by_cases h3 : nb < 170
      · refine ⟨_, _, _, ty_c t1 hv h3, ty_m t2 hv h3, n, k, b, F, Wt, Sg, bl, bt, relD_c hD (fun a h1 h2 => by rw [pU_n (by omega), pU_n (by omega)]) (fun j _ _ => by rw [pU_1, pk_un (by omega), pU_n (by decide)]) (fun a h1 h2 => by rw [pU_n (by omega), pU_n (by omega)]), ⟨nb + 1, by omega, by rw [pU_1, pk_us], by rw [pU_1, pk_us], fun i hi => ?_⟩, relI_c hI (fun a ha => by simp at ha; rw [pU_n (by omega), pU_n (by omega)]) (fun a ha => by simp at ha; rw [pU_n (by omega), pU_n (by omega)]), relS_c hS (by rw [pU_n (by decide), pU_n (by decide)]) (by rw [pU_n (by decide), pU_n (by decide)]) (by rw [pU_n (by decide), pU_n (by decide)]) (by rw [pU_1, pk_un (by decide), pU_n (by decide)]) (by rw [pU_n (by decide), pU_n (by decide)]) (by rw [pU_n (by decide), pU_n (by decide)]), relN_c hN (by rw [pU_n (by decide), pU_n (by decide)]) (by rw [pU_n (by decide), pU_n (by decide)]) (by rw [pU_n (by decide), pU_n (by decide)]) (by rw [pU_n (by decide), pU_n (by decide)]) (by rw [pU_1, pk_un (by decide), pU_n (by decide)]) (by rw [pU_1, pk_un (by decide), pU_n (by decide)]) (by rw [pU_n (by decide), pU_n (by decide)]), ht⟩
        rw [pU_n (by decide), pU_1, pU_n (by decide), pU_1]
        by_cases e : i = nb
        · subst e
          exact ⟨v, by omega, by rw [pk_us], by rw [pk_us]⟩
        · rw [pk_un e, pk_un e]
          exact t3 i (by omega)
      · have e : nb = 170 := by omega
        refine ⟨-3, c, m, ?_, ?_, h⟩
        · unfold jm_X8_type jm_X6_add
          rw [if_neg h1, if_pos h2, t1, if_neg (show ¬ nI nb < 170 from nI_nlt (a := nb) (b := 170) (by omega) (by omega)), bd_s, if_pos rfl]
        · unfold jm_X9_type jm_X9_in
          rw [if_neg h1, if_neg (Int32.not_lt.mpr h2), bd_s, if_neg n10, t2, if_pos (show nI nb = 170 by rw [e]; rfl)]
    · refine ⟨-1, c, m, ?_, ?_, h⟩
      · unfold jm_X8_type
        rw [if_neg h1, if_neg h2]
      · unfold jm_X9_type jm_X9_in
        rw [if_neg h1, if_pos (Int32.not_le.mp h2), bd_s, if_pos rfl]
