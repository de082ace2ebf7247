/-! PURE: loops that use scratch cells, crossings, how many bits, NEED and FELL -/
theorem iter_inv {σ τ : Type} {f : σ → Option (σ ⊕ τ)} (I : Nat → σ → Prop) (Post : τ → Prop) (m : Nat) (hs : ∀ i s, i < m → I i s → ∃ s', f s = some (.inl s') ∧ I (i + 1) s') (he : ∀ s, I m s → ∃ r, f s = some (.inr r) ∧ Post r) {N : Nat} (hN : m < N) {s0 : σ} (h0 : I 0 s0) : ∃ r, iter f N s0 = some r ∧ Post r := by
  have key : ∀ (k i n : Nat) (s : σ), i + k = m → k < n → I i s → ∃ r, iter f n s = some r ∧ Post r := by
    intro k
    induction k with
    | zero =>
      intro i n s hi hn h
      obtain ⟨n, rfl⟩ : ∃ q, n = q + 1 := ⟨n - 1, by omega⟩
      have hi : i = m := by omega
      subst hi
      obtain ⟨r, h1, h2⟩ := he s h
      exact ⟨r, by simp only [iter, h1], h2⟩
    | succ k ih =>
      intro i n s hi hn h
      obtain ⟨n, rfl⟩ : ∃ q, n = q + 1 := ⟨n - 1, by omega⟩
      obtain ⟨s', h1, h2⟩ := hs i s (by omega) h
      obtain ⟨r, h3, h4⟩ := ih (i + 1) n s' (by omega) (by omega) h2
      exact ⟨r, by simp only [iter, h1]; exact h3, h4⟩
  exact key m 0 N s0 (by omega) hN h0
theorem ex_el {α : Type} {p q : α → Prop} {b : Prop} (h : ∃ r, p r ∧ q r) (k : ∀ r, p r → q r → b) : b := by
  obtain ⟨r, h1, h2⟩ := h
  exact k r h1 h2
/-- crossings -/
def crP (R : Nat → Int32) (s t : Nat) : Bool := decide (¬ cutP R s ∧ ¬ cutP R t ∧ ¬ R (9 + t) ≤ R (9 + s) ∧ ¬ R (3 + s) ≤ R (3 + t))
def crI (R : Nat → Int32) (s : Nat) (b : Int32) : Nat → Int32
  | 0 => b
  | t + 1 => if crP R s t = true then crI R s b t + 1 else crI R s b t
def crO (R : Nat → Int32) (k : Nat) : Nat → Int32
  | 0 => 0
  | s + 1 => crI R s (crO R k s) k
theorem q_crossings {N d p n k : Nat} {st : PS} {F R : Nat → Int32} (hV : cV st d n k F) (hR : rV (st.1 (p + 1)) R) (hN : 2000 ≤ N) : jm_X0_crossings N d p st = some (crO R k k, st) := by
  have hk := hV.2.2.2.1
  unfold jm_X0_crossings
  refine iter_for (fun i => (crO R k i, nI i, st)) k (fun i hi => ?_) ?_ (by omega)
  · show jm_X0_crossings_L4 N d p (crO R k i) (nI i) st = some (.inl (crO R k (i + 1), nI (i + 1), st))
    unfold jm_X0_crossings_L4
    rw [hV.2.1, if_neg (nle hi (by omega)), crO]
    refine iter_for (fun t => (crI R i (crO R k i) t, nI t, st)) k (fun t ht => ?_) ?_ (by omega)
    · show jm_X0_crossings_L15 N d p (nI i) (crI R i (crO R k i) t) (nI t) st = some (.inl (crI R i (crO R k i) (t + 1), nI (t + 1), st))
      unfold jm_X0_crossings_L15
      rw [hV.2.1, if_neg (nle ht (by omega)), q_isCut hR, bd_s, q_isCut hR, bd_s, q_holeOf hR (by omega), bd_s, q_holeOf hR (by omega), bd_s, q_limbOf hR (by omega), bd_s, q_limbOf hR (by omega), bd_s, nI_1, crI]
      by_cases h1 : cutP R i
      · have e : crP R i t = false := decide_eq_false (fun q => q.1 h1)
        rw [if_pos h1, e]
        simp [bd_s, q_holeOf hR (show i < 6 by omega), q_holeOf hR (show t < 6 by omega)]
      · by_cases h2 : cutP R t
        · have e : crP R i t = false := decide_eq_false (fun q => q.2.1 h2)
          rw [if_neg h1, if_pos h2, e]
          simp [bd_s, q_holeOf hR (show i < 6 by omega), q_holeOf hR (show t < 6 by omega)]
        · by_cases h3 : R (9 + t) ≤ R (9 + i)
          · have e : crP R i t = false := decide_eq_false (fun q => q.2.2.1 h3)
            rw [if_neg h1, if_neg h2, e, if_pos h3]
            simp
          · by_cases h4 : R (3 + i) ≤ R (3 + t)
            · have e : crP R i t = false := decide_eq_false (fun q => q.2.2.2 h4)
              rw [if_neg h1, if_neg h2, e, if_neg h3, if_pos h4]
              simp
            · have e : crP R i t = true := decide_eq_true ⟨h1, h2, h3, h4⟩
              rw [if_neg h1, if_neg h2, e, if_neg h3, if_neg h4]
              simp
    · show jm_X0_crossings_L15 N d p (nI i) (crI R i (crO R k i) k) (nI k) st = _
      unfold jm_X0_crossings_L15
      rw [hV.2.1, if_pos (yle (Nat.le_refl k) (by omega)), nI_1]
  · show jm_X0_crossings_L4 N d p (crO R k k) (nI k) st = _
    unfold jm_X0_crossings_L4
    rw [hV.2.1, if_pos (yle (Nat.le_refl k) (by omega))]
theorem q_crossed {N n k : Nat} {st : PS} {F R : Nat → Int32} (hV : mV st n k F) (hR : rV (st.1 13) R) (hN : 2000 ≤ N) : jm_X9_crossed N st = some (crO R k k, st) := by
  have hk := hV.2.2.2.1
  unfold jm_X9_crossed
  refine iter_for (fun i => (crO R k i, nI i, st)) k (fun i hi => ?_) ?_ (by omega)
  · show jm_X9_crossed_L4 N (crO R k i) (nI i) st = some (.inl (crO R k (i + 1), nI (i + 1), st))
    unfold jm_X9_crossed_L4
    rw [hV.2.1, if_neg (nle hi (by omega)), crO]
    refine iter_for (fun t => (crI R i (crO R k i) t, nI t, st)) k (fun t ht => ?_) ?_ (by omega)
    · show jm_X9_crossed_L14 N (nI i) (crI R i (crO R k i) t) (nI t) st = some (.inl (crI R i (crO R k i) (t + 1), nI (t + 1), st))
      unfold jm_X9_crossed_L14
      rw [hV.2.1, if_neg (nle ht (by omega)), q_has, bd_s, q_has, bd_s, hR 2 (by omega), a9, a9, a3, a3, inB_nI (show 9 + i < 21 by omega) (by omega), inB_nI (show 9 + t < 21 by omega) (by omega), inB_nI (show 3 + i < 21 by omega) (by omega), inB_nI (show 3 + t < 21 by omega) (by omega), cl (by omega), cl (by omega), cl (by omega), cl (by omega), hR (9 + t) (by omega), hR (9 + i) (by omega), hR (3 + i) (by omega), hR (3 + t) (by omega), nI_1, crI, gd_t, gd_t, gd_t, gd_t, Int32.add_zero]
      by_cases h1 : cutP R i
      · have e : crP R i t = false := decide_eq_false (fun q => q.1 h1)
        rw [if_pos h1, e]
        simp
      · by_cases h2 : cutP R t
        · have e : crP R i t = false := decide_eq_false (fun q => q.2.1 h2)
          rw [if_neg h1, if_pos h2, e]
          simp
        · by_cases h3 : R (9 + t) ≤ R (9 + i)
          · have e : crP R i t = false := decide_eq_false (fun q => q.2.2.1 h3)
            rw [if_neg h1, if_neg h2, e, if_pos h3]
            simp
          · by_cases h4 : R (3 + i) ≤ R (3 + t)
            · have e : crP R i t = false := decide_eq_false (fun q => q.2.2.2 h4)
              rw [if_neg h1, if_neg h2, e, if_neg h3, if_pos h4]
              simp
            · have e : crP R i t = true := decide_eq_true ⟨h1, h2, h3, h4⟩
              rw [if_neg h1, if_neg h2, e, if_neg h3, if_neg h4]
              simp
    · show jm_X9_crossed_L14 N (nI i) (crI R i (crO R k i) k) (nI k) st = _
      unfold jm_X9_crossed_L14
      rw [hV.2.1, if_pos (yle (Nat.le_refl k) (by omega)), nI_1]
  · show jm_X9_crossed_L4 N (crO R k k) (nI k) st = _
    unfold jm_X9_crossed_L4
    rw [hV.2.1, if_pos (yle (Nat.le_refl k) (by omega))]
/-! how many bits -/
def pop (v : Nat) : Nat := (List.range 8).countP (fun i => v.testBit i)
def bcE (x0 : Int32) : Int32 := nm (x0 - ((((x0).toUInt32 >>> (((1 : Int32)).toUInt32 &&& Int32.toUInt32 31)).toInt32) &&& (1431655765 : Int32))) (fun y1 => nm ((y1 &&& (858993459 : Int32)) + ((((y1).toUInt32 >>> (((2 : Int32)).toUInt32 &&& Int32.toUInt32 31)).toInt32) &&& (858993459 : Int32))) (fun y2 => nm ((y2 + (((y2).toUInt32 >>> (((4 : Int32)).toUInt32 &&& Int32.toUInt32 31)).toInt32)) &&& (252645135 : Int32)) (fun y3 => nm (y3 + (((y3).toUInt32 >>> (((8 : Int32)).toUInt32 &&& Int32.toUInt32 31)).toInt32)) (fun y4 => nm (y4 + (((y4).toUInt32 >>> (((16 : Int32)).toUInt32 &&& Int32.toUInt32 31)).toInt32)) (fun y5 => y5 &&& (63 : Int32))))))
set_option maxRecDepth 100000 in
theorem bcE_all : ∀ v : Fin 256, bcE (nI v.val) = nI (pop v.val) := by decide +kernel
theorem q_bitCount {N v : Nat} {st : PS} (hv : v < 256) : jm_J6_bitCount_0f7a4 N (nI v) st = some (nI (pop v), st) := by
  rw [← bcE_all ⟨v, hv⟩]; rfl
set_option maxRecDepth 100000 in
theorem kern_all : ∀ v : Fin 256, v.val = 0 ∨ ((nI v.val &&& (nI v.val - 1)) = nI (v.val &&& (v.val - 1)) ∧ (v.val &&& (v.val - 1)) < 256 ∧ pop (v.val &&& (v.val - 1)) + 1 = pop v.val) := by decide +kernel
theorem pop_le (v : Nat) : pop v ≤ 8 := by
  have := List.countP_le_length (p := fun i => v.testBit i) (l := List.range 8)
  simpa [pop] using this
theorem q_bits {N v : Nat} {st : PS} (hv : v < 256) (hN : 2000 ≤ N) : jm_X9_bits N (nI v) st = some (nI (pop v), st) := by
  have key : ∀ (p v c n : Nat), v < 256 → pop v = p → p < n → iter (fun q => jm_X9_bits_L4 N q.1 q.2.1 q.2.2) n (nI c, nI v, st) = some (nI (c + p), st) := by
    intro p
    induction p with
    | zero =>
      intro v c n hv hp hn
      obtain ⟨n, rfl⟩ : ∃ q, n = q + 1 := ⟨n - 1, by omega⟩
      rcases kern_all ⟨v, hv⟩ with h | h
      · have h : v = 0 := h
        subst h
        rfl
      · have h := h.2.2
        have h : pop (v &&& (v - 1)) + 1 = pop v := h
        omega
    | succ p ih =>
      intro v c n hv hp hn
      obtain ⟨n, rfl⟩ : ∃ q, n = q + 1 := ⟨n - 1, by omega⟩
      rcases kern_all ⟨v, hv⟩ with h | ⟨h1, h2, h3⟩
      · have h : v = 0 := h
        subst h
        exact absurd hp (by rw [show pop 0 = 0 by decide]; omega)
      · have h1 : (nI v &&& (nI v - 1)) = nI (v &&& (v - 1)) := h1
        have h2 : v &&& (v - 1) < 256 := h2
        have h3 : pop (v &&& (v - 1)) + 1 = pop v := h3
        have hz : ¬ nI v = 0 := fun e => by
          have : v = 0 := (nI_eq (a := v) (b := 0) (by omega) (by omega)).mp e
          subst this
          exact absurd hp (by rw [show pop 0 = 0 by decide]; omega)
        have hb : jm_X9_bits_L4 N (nI c) (nI v) st = some (.inl (nI (c + 1), nI (v &&& (v - 1)), st)) := by
          unfold jm_X9_bits_L4
          rw [if_neg hz, h1, nI_1]
        have := ih (v &&& (v - 1)) (c + 1) n h2 (by omega) (by omega)
        simp only [iter, hb]
        rw [this, show c + 1 + p = c + (p + 1) by omega]
  have := key (pop v) v 0 N hv rfl (by have := pop_le v; omega)
  rw [show 0 + pop v = pop v by omega] at this
  exact this
/-! the least set: going up, going down -/
def lex (a b : Nat) : Prop := pop a < pop b ∨ (pop a = pop b ∧ a ≤ b)
theorem lex_anti {a b : Nat} (h1 : lex a b) (h2 : lex b a) : a = b := by unfold lex at h1 h2; omega
def bu (Q : Nat → Bool) (h : Nat) : Nat → Nat
  | 0 => h
  | i + 1 => if Q i = true ∧ pop i < pop (bu Q h i) then i else bu Q h i
def bw (Q : Nat → Bool) (h : Nat) : Nat → Nat
  | 0 => h
  | j + 1 => if Q (h - j) = true ∧ pop (h - j) ≤ pop (bw Q h j) then h - j else bw Q h j
theorem bu_inv {Q : Nat → Bool} {h : Nat} (hq : ∀ s, s < h → Q s = true → pop s < pop h) : ∀ i, i ≤ h → (bu Q h i = h ∨ (bu Q h i < i ∧ Q (bu Q h i) = true)) ∧ ∀ s, s < i → Q s = true → lex (bu Q h i) s
  | 0, _ => ⟨Or.inl rfl, fun s hs => absurd hs (by omega)⟩
  | i + 1, hi => by
    obtain ⟨h1, h2⟩ := bu_inv hq i (by omega)
    rw [bu]
    by_cases c : Q i = true ∧ pop i < pop (bu Q h i)
    · rw [if_pos c]
      refine ⟨Or.inr ⟨by omega, c.1⟩, fun s hs hq => ?_⟩
      rcases Nat.lt_succ_iff_lt_or_eq.mp hs with q | q
      · have := h2 s q hq
        unfold lex at this ⊢
        omega
      · rw [q]; exact Or.inr ⟨rfl, Nat.le_refl i⟩
    · rw [if_neg c]
      refine ⟨?_, fun s hs hQ => ?_⟩
      · rcases h1 with e | e
        · exact Or.inl e
        · exact Or.inr ⟨by omega, e.2⟩
      · rcases Nat.lt_succ_iff_lt_or_eq.mp hs with q | q
        · exact h2 s q hQ
        · rw [q] at hQ ⊢
          have hp : ¬ pop i < pop (bu Q h i) := fun z => c ⟨hQ, z⟩
          rcases h1 with e | e
          · rw [e] at hp
            exact absurd (hq i (by omega) hQ) hp
          · unfold lex; omega
theorem bw_inv (Q : Nat → Bool) (h : Nat) : ∀ j, j ≤ h + 1 → (bw Q h j = h ∨ (h < bw Q h j + j ∧ bw Q h j ≤ h ∧ Q (bw Q h j) = true)) ∧ lex (bw Q h j) h ∧ ∀ s, h < s + j → s ≤ h → Q s = true → lex (bw Q h j) s
  | 0, _ => ⟨Or.inl rfl, Or.inr ⟨rfl, Nat.le_refl h⟩, fun s h1 h2 => absurd h1 (by omega)⟩
  | j + 1, hj => by
    obtain ⟨h1, h0, h2⟩ := bw_inv Q h j (by omega)
    rw [bw]
    by_cases c : Q (h - j) = true ∧ pop (h - j) ≤ pop (bw Q h j)
    · rw [if_pos c]
      have hb : h - j ≤ bw Q h j := by
        rcases h1 with e | e
        · rw [e]; omega
        · omega
      have hl : ∀ s, lex (bw Q h j) s → lex (h - j) s := fun s q => by unfold lex at q ⊢; omega
      refine ⟨Or.inr ⟨by omega, by omega, c.1⟩, hl _ h0, fun s hs1 hs2 hq => ?_⟩
      by_cases q : h < s + j
      · exact hl _ (h2 s q hs2 hq)
      · have : s = h - j := by omega
        rw [this]; exact Or.inr ⟨rfl, Nat.le_refl _⟩
    · rw [if_neg c]
      refine ⟨?_, h0, fun s hs1 hs2 hq => ?_⟩
      · rcases h1 with e | e
        · exact Or.inl e
        · exact Or.inr ⟨by omega, e.2⟩
      · by_cases q : h < s + j
        · exact h2 s q hs2 hq
        · have e : s = h - j := by omega
          rw [e] at hq ⊢
          have : ¬ pop (h - j) ≤ pop (bw Q h j) := fun z => c ⟨hq, z⟩
          unfold lex; omega
theorem bu_bw {Q : Nat → Bool} {h : Nat} (hq : ∀ s, s < h → Q s = true → pop s < pop h) : bu Q h h = bw Q h (h + 1) := by
  obtain ⟨h1, h2⟩ := bu_inv hq h (Nat.le_refl h)
  obtain ⟨g1, g0, g2⟩ := bw_inv Q h (h + 1) (Nat.le_refl _)
  have A : lex (bu Q h h) (bw Q h (h + 1)) := by
    rcases g1 with e | ⟨e1, e2, e3⟩
    · rw [e]
      rcases h1 with z | z
      · rw [z]; exact Or.inr ⟨rfl, Nat.le_refl h⟩
      · exact Or.inl (hq _ z.1 z.2)
    · by_cases z : bw Q h (h + 1) < h
      · exact h2 _ z e3
      · have e : bw Q h (h + 1) = h := by omega
        rw [e]
        rcases h1 with z | z
        · rw [z]; exact Or.inr ⟨rfl, Nat.le_refl h⟩
        · exact Or.inl (hq _ z.1 z.2)
  have B : lex (bw Q h (h + 1)) (bu Q h h) := by
    rcases h1 with z | z
    · rw [z]; exact g0
    · exact g2 _ (by omega) (by omega) z.2
  exact lex_anti A B
/-! sets of strings as numbers below 64 -/
set_option maxRecDepth 100000 in
theorem sub_all : ∀ s h : Fin 64, ((nI s.val &&& (nI h.val ^^^ (-1))) = 0) ↔ s.val &&& h.val = s.val := by decide +kernel
set_option maxRecDepth 100000 in
theorem pop_sub_all : ∀ s h : Fin 64, s.val &&& h.val = s.val → s.val < h.val → pop s.val < pop h.val := by decide +kernel
set_option maxRecDepth 100000 in
theorem hld_all : ∀ k : Fin 7, ∀ c : Fin 64, (nI (2 ^ k.val - 1) &&& (nI c.val ^^^ (-1))) = nI ((2 ^ k.val - 1) &&& (63 ^^^ c.val)) := by decide +kernel
theorem all_all : ∀ k : Fin 8, ((1 : Int32) <<< (nI k.val &&& 31)) - 1 = nI (2 ^ k.val - 1) := by decide +kernel
def hld (k cu : Nat) : Nat := (2 ^ k - 1) &&& (63 ^^^ cu)
theorem hld_lt {k cu : Nat} (hk : k ≤ 6) : hld k cu < 2 ^ k := by
  unfold hld
  have h1 : (2 ^ k - 1) &&& (63 ^^^ cu) ≤ 2 ^ k - 1 := Nat.and_le_left
  have : 0 < 2 ^ k := Nat.two_pow_pos k
  omega
theorem hld_tb {k cu t : Nat} (hk : k ≤ 6) (hc : cu < 64) : (hld k cu).testBit t = (decide (t < k) && !cu.testBit t) := by
  unfold hld
  rw [Nat.testBit_and, Nat.testBit_two_pow_sub_one, Nat.testBit_xor, show (63 : Nat) = 2 ^ 6 - 1 from rfl, Nat.testBit_two_pow_sub_one]
  by_cases h : t < k
  · simp [h, show t < 6 by omega]
  · simp [h]
