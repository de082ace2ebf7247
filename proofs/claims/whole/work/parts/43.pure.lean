/-! PURE: items, step by step -/
def pre (c m : PS) (T : Nat → Nat) (nb : Nat) : Prop := txC c nb T ∧ txM m nb T ∧ ∃ e, e ≤ nb ∧ c.1 1 4 = nI e ∧ m.1 0 2 = nI e
def cN (c c1 : PS) (i v : Nat) : Prop := (∀ a, a ≠ 1 → a ≠ 3 → c1.1 a = c.1 a) ∧ c1.1 3 = upd (c.1 3) i (nI v) ∧ c1.2 = c.2 ∧ ∀ j, j ∉ ([2, 3, 4, 5] : List Nat) → c1.1 1 j = c.1 1 j
def mN (m m1 : PS) (r i v : Nat) : Prop := (∀ a, a ≠ 0 → a ≠ r → m1.1 a = m.1 a) ∧ m1.1 r = upd (m.1 r) i (nI v) ∧ m1.2 = m.2 ∧ ∀ j, j ∉ ([2, 3, 4, 5] : List Nat) → m1.1 0 j = m.1 0 j
def clP (N : Nat) (y : Int32) (nn i N1 : Nat) (s : PS) : Option (Int32 × PS) := bd (jm_X6_nextToken N s) (fun _ s1 => iter (fun q => jm_X6_readItem_L56 N 27 (nI nn) y q.1 q.2) N1 (nI i, s1))
theorem hand_pre {c m c' m' : PS} {T : Nat → Nat} {nb : Nat} (hc : txC c nb T) (hm : txM m nb T) (x : cX c c') (y : mX m m') (h : hand c' m' T nb) : pre c' m' T nb := by
  obtain ⟨b, e, h1, h2, h3, h4, h5, h6, -⟩ := h
  exact ⟨txC_X hc x, txM_X hm y, e, h2, h4, h6⟩
def itN {σ τ : Type} (f : σ → Option (σ ⊕ τ)) (n : Nat) (z : Option (σ ⊕ τ)) : Option τ := match z with
  | none => none
  | some (.inl s) => iter f n s
  | some (.inr r) => some r
theorem iter_N {σ τ : Type} {f : σ → Option (σ ⊕ τ)} {n : Nat} {s : σ} : iter f (n + 1) s = itN f n (f s) := by
  cases h : f s with
  | none => simp [iter, h, itN]
  | some z => cases z <;> simp [iter, h, itN]
theorem num {N N1 nn i r idx nb : Nat} {y lo hi : Int32} {c m : PS} {T : Nat → Nat} (hp : pre c m T nb) (hii : i < nn) (hn : nn ≤ 4) (hl : ∀ s : PS, s.1 27 = c.1 27 → jm_X6_least N y (nI i) 27 s = some (lo, s)) (hh : ∀ s : PS, s.1 27 = c.1 27 → jm_X6_most N y (nI i) 27 s = some (hi, s)) (hx : idx < mL r) (hmL : mL r ≤ 100) (hr : r ≠ 0) (hr1 : r ≠ 1) (hN : 2000 ≤ N) : (∃ c1 m1, clP N y nn i (N1 + 1) c = some (0, c1) ∧ jm_X9_told N r (nI idx) lo hi m = some (0, m1) ∧ hand c1 m1 T nb ∧ cX c c1 ∧ mX m m1) ∨ (∃ v c1 m1, ¬ nI v < lo ∧ nI v ≤ hi ∧ v ≤ 99 ∧ clP N y nn i (N1 + 1) c = clP N y nn (i + 1) N1 c1 ∧ jm_X9_told N r (nI idx) lo hi m = some (1, m1) ∧ pre c1 m1 T nb ∧ cN c c1 i v ∧ mN m m1 r idx v) := by
  obtain ⟨hc, hm, e, he, c4, m2⟩ := hp
  obtain ⟨c1, m1, g1, g2, g3, g4, g5⟩ := tok (N := N) hc hm c4 m2 he hN
  have hpre := hand_pre hc hm g3 g4 g5
  have e27 : c1.1 27 = c.1 27 := g3.1 27 (by decide)
  have L56 : ∀ z, jm_X6_readItem_L56 N 27 (nI nn) y (nI i) c1 = z → clP N y nn i (N1 + 1) c = itN (fun q => jm_X6_readItem_L56 N 27 (nI nn) y q.1 q.2) N1 z := by
    intro z hz
    unfold clP
    rw [g1, bd_s, iter_N, ← hz]
  have bad : ¬ c1.1 1 2 = 2 → ¬ m1.1 0 4 = 48 → clP N y nn i (N1 + 1) c = some (0, c1) ∧ jm_X9_told N r (nI idx) lo hi m = some (0, m1) := fun b1 b2 => by
    refine ⟨L56 (some (.inr (0, c1))) ?_, ?_⟩
    · unfold jm_X6_readItem_L56
      rw [if_neg (nle hii (by omega)), if_neg b1]
    · unfold jm_X9_told
      rw [g2, bd_s, if_neg b2]
  have g5' := g5
  obtain ⟨b, e', -, -, -, -, -, -, hh'⟩ := g5'
  rcases hh' with ⟨a1, a2, a3⟩ | ⟨a1, a2, a3, a4, a5, a6⟩ | ⟨a1, a2, a3, v, a4, a5, a6⟩ | ⟨a1, a2, a3⟩ | ⟨a1, a2, a3⟩
  · obtain ⟨q1, q2⟩ := bad (by rw [a2]; decide) (by rw [a3]; decide)
    exact Or.inl ⟨c1, m1, q1, q2, g5, g3, g4⟩
  · obtain ⟨q1, q2⟩ := bad (by rw [a3]; decide) (by
      rw [a6]
      split
      · exact fun q => by have := (nI_eq (a := T b) (b := 48) (by omega) (by omega)).mp q; omega
      · decide)
    exact Or.inl ⟨c1, m1, q1, q2, g5, g3, g4⟩
  · by_cases z1 : nI v < lo
    · refine Or.inl ⟨c1, m1, L56 (some (.inr (0, c1))) ?_, ?_, g5, g3, g4⟩
      · unfold jm_X6_readItem_L56
        rw [if_neg (nle hii (by omega)), if_pos a2, hl c1 e27, bd_s, a5, if_pos z1]
      · unfold jm_X9_told
        rw [g2, bd_s, if_pos a3, a6, in_n (Or.inl z1), bd_s, if_pos p00]
    · by_cases z2 : nI v ≤ hi
      · refine Or.inr ⟨v, pU c1 3 i (nI v), pU m1 r idx (nI v), z1, z2, a4, ?_, ?_, ?_, ?_, ?_⟩
        · rw [L56 (bd (jm_X6_nextToken N (pU c1 3 i (nI v))) (fun _ st30 => some (.inl (nI (i + 1), st30)))) (by
            unfold jm_X6_readItem_L56
            rw [if_neg (nle hii (by omega)), if_pos a2, hl c1 e27, bd_s, a5, if_neg z1, hh c1 e27, bd_s, a5, if_pos z2, inB_nI (by omega) (by omega), gd_t, nm_d, cl (by omega), nI_1])]
          unfold clP
          cases jm_X6_nextToken N (pU c1 3 i (nI v)) with
          | none => rfl
          | some z => rfl
        · unfold jm_X9_told
          rw [g2, bd_s, if_pos a3, a6, in_y z1 (Int32.not_lt.mpr z2), bd_s, if_neg n10, inB_nI hx (by omega), gd_t, nm_d, cl (by omega), a6]
        · obtain ⟨hc1, hm1, e'', he'', k1, k2⟩ := hpre
          refine ⟨?_, ?_, e'', he'', by rw [pU_n (by decide)]; exact k1, by rw [pU_n (Ne.symm hr)]; exact k2⟩
          · unfold txC at hc1 ⊢
            rw [pU_n (by decide), pU_n (by decide)]; exact hc1
          · unfold txM at hm1 ⊢
            rw [pU_n (Ne.symm hr), pU_n (Ne.symm hr1)]; exact hm1
        · exact ⟨fun a h1 h3 => by rw [pU_n h3, g3.1 a h1], by rw [pU_1, g3.1 3 (by decide)], g3.2.1, fun j hj => by rw [pU_n (by decide), g3.2.2 j hj]⟩
        · exact ⟨fun a h1 h3 => by rw [pU_n h3, g4.1 a h1], by rw [pU_1, g4.1 r hr], g4.2.1, fun j hj => by rw [pU_n (Ne.symm hr), g4.2.2 j hj]⟩
      · refine Or.inl ⟨c1, m1, L56 (some (.inr (0, c1))) ?_, ?_, g5, g3, g4⟩
        · unfold jm_X6_readItem_L56
          rw [if_neg (nle hii (by omega)), if_pos a2, hl c1 e27, bd_s, a5, if_neg z1, hh c1 e27, bd_s, a5, if_neg z2]
        · unfold jm_X9_told
          rw [g2, bd_s, if_pos a3, a6, in_n (Or.inr (Int32.not_le.mp z2)), bd_s, if_pos p00]
  · obtain ⟨q1, q2⟩ := bad (by rw [a2]; decide) (by rw [a3]; decide)
    exact Or.inl ⟨c1, m1, q1, q2, g5, g3, g4⟩
  · obtain ⟨q1, q2⟩ := bad (by rw [a2]; decide) (by rw [a3]; decide)
    exact Or.inl ⟨c1, m1, q1, q2, g5, g3, g4⟩
theorem semi {N N1 nn nb : Nat} {y : Int32} {c m : PS} {T : Nat → Nat} (hp : pre c m T nb) (hn : nn ≤ 4) (hN : 2000 ≤ N) : (∃ c1 m1, clP N y nn nn (N1 + 1) c = some (0, c1) ∧ jm_X9_ends N m = some (0, m1) ∧ hand c1 m1 T nb ∧ cX c c1 ∧ mX m m1) ∨ (∃ c1 m1, clP N y nn nn (N1 + 1) c = bd (jm_X6_nextToken N c1) (fun _ s => bd (jm_X6_tell N y 27 s) (fun _ s2 => some (1, s2))) ∧ jm_X9_ends N m = some (1, m1) ∧ pre c1 m1 T nb ∧ cX c c1 ∧ mX m m1) := by
  obtain ⟨hc, hm, e, he, c4, m2⟩ := hp
  obtain ⟨c1, m1, g1, g2, g3, g4, g5⟩ := tok (N := N) hc hm c4 m2 he hN
  have hpre := hand_pre hc hm g3 g4 g5
  have L56 : ∀ z, jm_X6_readItem_L56 N 27 (nI nn) y (nI nn) c1 = z → clP N y nn nn (N1 + 1) c = itN (fun q => jm_X6_readItem_L56 N 27 (nI nn) y q.1 q.2) N1 z := by
    intro z hz
    unfold clP
    rw [g1, bd_s, iter_N, ← hz]
  by_cases z : c1.1 1 2 = 3
  · have z4 : m1.1 0 4 = 59 := by
      obtain ⟨b, e', -, -, -, -, -, -, hh'⟩ := g5
      rcases hh' with ⟨a1, a2, a3⟩ | ⟨a1, a2, a3, a4, a5, a6⟩ | ⟨a1, a2, a3, v, a4, a5, a6⟩ | ⟨a1, a2, a3⟩ | ⟨a1, a2, a3⟩
      · rw [a2] at z; exact absurd z (by decide)
      · rw [a3] at z; exact absurd z (by decide)
      · rw [a2] at z; exact absurd z (by decide)
      · exact a3
      · rw [a2] at z; exact absurd z (by decide)
    refine Or.inr ⟨c1, m1, ?_, ?_, hpre, g3, g4⟩
    · rw [L56 (bd (jm_X6_nextToken N c1) (fun _ st17 => bd (jm_X6_tell N y 27 st17) (fun _ st19 => some (.inr (1, st19))))) (by
        unfold jm_X6_readItem_L56
        rw [if_pos (yle (Nat.le_refl _) (by omega)), if_pos z])]
      cases jm_X6_nextToken N c1 with
      | none => rfl
      | some w =>
        obtain ⟨w1, w2⟩ := w
        rw [bd_s, bd_s]
        cases jm_X6_tell N y 27 w2 with
        | none => rfl
        | some u => rfl
    · unfold jm_X9_ends
      rw [g2, bd_s, if_pos z4]
  · have z4 : ¬ m1.1 0 4 = 59 := by
      have g5' := g5
      obtain ⟨b, e', -, -, -, -, -, -, hh'⟩ := g5'
      rcases hh' with ⟨a1, a2, a3⟩ | ⟨a1, a2, a3, a4, a5, a6⟩ | ⟨a1, a2, a3, v, a4, a5, a6⟩ | ⟨a1, a2, a3⟩ | ⟨a1, a2, a3⟩
      · rw [a3]; decide
      · rw [a6]
        split
        · exact fun q => by have := (nI_eq (a := T b) (b := 59) (by omega) (by omega)).mp q; omega
        · decide
      · rw [a3]; decide
      · exact absurd a2 z
      · rw [a3]; decide
    refine Or.inl ⟨c1, m1, L56 (some (.inr (0, c1))) ?_, ?_, g5, g3, g4⟩
    · unfold jm_X6_readItem_L56
      rw [if_pos (yle (Nat.le_refl _) (by omega)), if_neg z]
    · unfold jm_X9_ends
      rw [g2, bd_s, if_neg z4]
/-! what a reading leaves alone -/
def cF (c c' : PS) : Prop := (∀ a, a ≠ 1 → a ≠ 3 → (a < 27 ∨ 36 < a) → c'.1 a = c.1 a) ∧ c'.1 1 1 = c.1 1 1 ∧ c'.2 = c.2
def mF (m m' : PS) : Prop := (∀ a, a = 1 ∨ 6 ≤ a → m'.1 a = m.1 a) ∧ (∀ j, j = 0 ∨ 14 ≤ j → m'.1 0 j = m.1 0 j) ∧ m'.2 = m.2
theorem cF_r (c : PS) : cF c c := ⟨fun _ _ _ _ => rfl, rfl, rfl⟩
theorem mF_r (c : PS) : mF c c := ⟨fun _ _ => rfl, fun _ _ => rfl, rfl⟩
theorem cF_t {a b c : PS} (h1 : cF a b) (h2 : cF b c) : cF a c := ⟨fun x p q r => (h2.1 x p q r).trans (h1.1 x p q r), h2.2.1.trans h1.2.1, h2.2.2.trans h1.2.2⟩
theorem mF_t {a b c : PS} (h1 : mF a b) (h2 : mF b c) : mF a c := ⟨fun x p => (h2.1 x p).trans (h1.1 x p), fun x p => (h2.2.1 x p).trans (h1.2.1 x p), h2.2.2.trans h1.2.2⟩
theorem cX_F {c c' : PS} (h : cX c c') : cF c c' := ⟨fun a h1 _ _ => h.1 a h1, h.2.2 1 (by decide), h.2.1⟩
theorem mX_F {c c' : PS} (h : mX c c') : mF c c' := ⟨fun a h1 => h.1 a (by omega), fun j hj => h.2.2 j (by simp; omega), h.2.1⟩
theorem cN_F {c c' : PS} {i v : Nat} (h : cN c c' i v) : cF c c' := ⟨fun a h1 h2 _ => h.1 a h1 h2, h.2.2.2 1 (by decide), h.2.2.1⟩
theorem mN_F {c c' : PS} {r i v : Nat} (h : mN c c' r i v) (hr : 2 ≤ r) (hr2 : r ≤ 5) : mF c c' := ⟨fun a h1 => h.1 a (by omega) (by omega), fun j hj => h.2.2.2 j (by simp; omega), h.2.2.1⟩
theorem mF_U (m : PS) {j : Nat} (v : Int32) (h : j ≠ 0) (h2 : j < 14) : mF m (pU m 0 j v) := ⟨fun a h1 => pU_n (by omega), fun i hi => by rw [pU_1, pk_un (by omega)], rfl⟩
theorem Rel_F {c c' m m' : PS} (h : Rel c m) (x : cF c c') (y : mF m m') : Rel c' m' := by
  obtain ⟨n, k, b, F, Wt, Sg, bl, bt, hD, hT, hI, hS, hN, ht⟩ := h
  have C : ∀ a, a ≠ 1 → a ≠ 3 → (a < 27 ∨ 36 < a) → c'.1 a = c.1 a := x.1
  have M : ∀ a, a = 1 ∨ 6 ≤ a → m'.1 a = m.1 a := y.1
  have M0 : ∀ j, j = 0 ∨ 14 ≤ j → m'.1 0 j = m.1 0 j := y.2.1
  refine ⟨n, k, b, F, Wt, Sg, bl, bt, relD_c hD (fun a h1 h2 => C a (by omega) (by omega) (by omega)) (fun j _ _ => M0 j (by omega)) (fun a h1 h2 => M a (by omega)), relT_c hT x.2.1 (C 2 (by omega) (by omega) (by omega)) (M0 0 (by omega)) (M 1 (by omega)), relI_c hI (fun a ha => C a (by simp at ha; omega) (by simp at ha; omega) (by simp at ha; omega)) (fun a ha => M a (by simp at ha; omega)), relS_c hS (by rw [C 9 (by omega) (by omega) (by omega)]) (C 10 (by omega) (by omega) (by omega)) (C 11 (by omega) (by omega) (by omega)) (M0 34 (by omega)) (M 17 (by omega)) (M 18 (by omega)), relN_c hN (C 39 (by omega) (by omega) (by omega)) (C 40 (by omega) (by omega) (by omega)) (C 41 (by omega) (by omega) (by omega)) (M 13 (by omega)) (M0 30 (by omega)) (M0 31 (by omega)) (M 15 (by omega)), ?_⟩
  rw [x.2.2, y.2.2]; exact ht
