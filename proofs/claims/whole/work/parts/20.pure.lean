/-! PURE: loops, numbers, states -/
theorem iter_for {σ τ : Type} {f : σ → Option (σ ⊕ τ)} (z : Nat → σ) (m : Nat) {r : τ} (hs : ∀ i, i < m → f (z i) = some (.inl (z (i + 1)))) (he : f (z m) = some (.inr r)) {N : Nat} (hN : m < N) : iter f N (z 0) = some r := by
  have key : ∀ (k i n : Nat), i + k = m → k < n → iter f n (z i) = some r := by
    intro k
    induction k with
    | zero =>
      intro i n hi hn
      obtain ⟨n, rfl⟩ : ∃ q, n = q + 1 := ⟨n - 1, by omega⟩
      have hi : i = m := by omega
      subst hi
      simp only [iter, he]
    | succ k ih =>
      intro i n hi hn
      obtain ⟨n, rfl⟩ : ∃ q, n = q + 1 := ⟨n - 1, by omega⟩
      simp only [iter, hs i (by omega)]
      exact ih (i + 1) n (by omega) (by omega)
  exact key m 0 N (by omega) hN
def allB (p : Nat → Bool) : Nat → Bool
  | 0 => true
  | m + 1 => allB p m && p m
theorem allB_iff {p : Nat → Bool} {m : Nat} : allB p m = true ↔ ∀ i, i < m → p i = true := by
  induction m with
  | zero => simp [allB]
  | succ m ih =>
    simp only [allB, Bool.and_eq_true, ih]
    constructor
    · intro h i hi
      rcases Nat.lt_succ_iff_lt_or_eq.mp hi with h1 | h1
      · exact h.1 i h1
      · rw [h1]; exact h.2
    · intro h
      exact ⟨fun i hi => h i (by omega), h m (by omega)⟩
theorem iter_all {σ τ : Type} {f : σ → Option (σ ⊕ τ)} (z : Nat → σ) (m : Nat) (p : Nat → Bool) {r0 r1 : τ} (hs : ∀ i, i < m → f (z i) = if p i = true then some (.inl (z (i + 1))) else some (.inr r0)) (he : f (z m) = some (.inr r1)) {N : Nat} (hN : m < N) : iter f N (z 0) = some (if allB p m = true then r1 else r0) := by
  have key : ∀ (k i n : Nat), i + k = m → k < n → (∀ j, j < i → p j = true) → iter f n (z i) = some (if allB p m = true then r1 else r0) := by
    intro k
    induction k with
    | zero =>
      intro i n hi hn hp
      obtain ⟨n, rfl⟩ : ∃ q, n = q + 1 := ⟨n - 1, by omega⟩
      have hi : i = m := by omega
      subst hi
      simp only [iter, he, allB_iff.mpr hp, if_true]
    | succ k ih =>
      intro i n hi hn hp
      obtain ⟨n, rfl⟩ : ∃ q, n = q + 1 := ⟨n - 1, by omega⟩
      simp only [iter, hs i (by omega)]
      by_cases h : p i = true
      · simp only [h, if_true]
        refine ih (i + 1) n (by omega) (by omega) (fun j hj => ?_)
        rcases Nat.lt_succ_iff_lt_or_eq.mp hj with h1 | h1
        · exact hp j h1
        · rw [h1]; exact h
      · simp only [h, if_false]
        have : ¬ allB p m = true := fun h2 => h (allB_iff.mp h2 i (by omega))
        simp [this]
  exact key m 0 N (by omega) hN (fun j hj => absurd hj (by omega))
theorem inB_nI {a n : Nat} (h : a < n) (hn : n ≤ 100000) : inB (nI a) n = true := decide_eq_true (nI_in h (by omega))
theorem cl {a : Nat} (h : a < 100000) : (nI a).toNatClampNeg = a := nI_clamp (by omega)
theorem a3 (s : Nat) : (3 : Int32) + nI s = nI (3 + s) := nI_add 3 s
theorem a9 (s : Nat) : (9 : Int32) + nI s = nI (9 + s) := nI_add 9 s
theorem a15 (s : Nat) : (15 : Int32) + nI s = nI (15 + s) := nI_add 15 s
theorem m8 (a b : Nat) : nI a * 8 + nI b = nI (8 * a + b) := by
  rw [show (8 : Int32) = nI 8 from rfl, pk_mul, nI_add, Nat.mul_comm]
theorem m8' (a b : Nat) : 8 * nI a + nI b = nI (8 * a + b) := by
  rw [show (8 : Int32) = nI 8 from rfl, pk_mul, nI_add]
theorem gd_t {α : Type} (x : Option α) : gd true x = x := rfl
theorem bd_s {ρ τ : Type} (r : ρ) (st : PS) (f : ρ → PS → Option τ) : bd (some (r, st)) f = f r st := rfl
theorem nm_d {α β : Type} (a : α) (f : α → β) : nm a f = f a := rfl
theorem pC_1 (st : PS) (k : Nat) (g : Nat → Int32) : (pC st k g).1 k = g := by simp [pC]
theorem pC_n {st : PS} {k a : Nat} {g : Nat → Int32} (h : ¬ a = k) : (pC st k g).1 a = st.1 a := by simp [pC, h]
theorem pC_2 (st : PS) (k : Nat) (g : Nat → Int32) : (pC st k g).2 = st.2 := rfl
theorem pU_1 (st : PS) (k j : Nat) (v : Int32) : (pU st k j v).1 k = upd (st.1 k) j v := by simp [pU, pC]
theorem pU_n {st : PS} {k a j : Nat} {v : Int32} (h : ¬ a = k) : (pU st k j v).1 a = st.1 a := by simp [pU, pC, h]
theorem pU_2 (st : PS) (k j : Nat) (v : Int32) : (pU st k j v).2 = st.2 := rfl
theorem nle {a b : Nat} (h : b < a) (ha : a < 100000) : ¬ nI a ≤ nI b := nI_ge h (by omega)
theorem yle {a b : Nat} (h : a ≤ b) (hb : b < 100000) : nI a ≤ nI b := nI_le h (by omega)
/-! what hangs: F the bones between limbs, R a row (0 lift, 1 tilt, 2 cut, 3.. limbs, 9.. holes, 15.. lengths) -/
abbrev cutP (R : Nat → Int32) (s : Nat) : Prop := ((R 2 >>> (nI s &&& 31)) &&& 1) = 1
def en (R : Nat → Int32) (s : Nat) : Int32 := R 0 + R 1 * (R (9 + s) - 3) - R (15 + s)
def pl (F R : Nat → Int32) (s l : Nat) : Int32 := if cutP R s then 0 else en R s - F (8 * (R (3 + s)).toNatClampNeg + l)
def hg (F R : Nat → Int32) (l : Nat) : Nat → Int32
  | 0 => 0
  | s + 1 => if hg F R l s < pl F R s l then pl F R s l else hg F R l s
/-- the views: of the class (doll d), of the reference, of a row; where strings hang -/
def cV (st : PS) (d n k : Nat) (F : Nat → Int32) : Prop := st.1 d 7 = nI n ∧ st.1 d 8 = nI k ∧ n ≤ 8 ∧ k ≤ 6 ∧ ∀ a, a < n → ∀ l, l < n → st.1 (d + 7) (8 * a + l) = F (8 * a + l)
def mV (st : PS) (n k : Nat) (F : Nat → Int32) : Prop := st.1 0 18 = nI n ∧ st.1 0 19 = nI k ∧ n ≤ 8 ∧ k ≤ 6 ∧ ∀ a, a < n → ∀ l, l < n → st.1 12 (8 * l + a) = F (8 * a + l)
def rV (f R : Nat → Int32) : Prop := ∀ j, j < 21 → f j = R j
def aN (n k : Nat) (R : Nat → Int32) : Prop := ∀ s, s < k → ∃ a, a < n ∧ R (3 + s) = nI a
theorem q_isCut {N p s : Nat} {st : PS} {R : Nat → Int32} (hR : rV (st.1 (p + 1)) R) : jm_X4_isCut N p (nI s) st = some (if cutP R s then 1 else 0, st) := by
  unfold jm_X4_isCut cutP
  rw [hR 2 (by omega)]
  split <;> rfl
theorem q_endOf {N p s : Nat} {st : PS} {R : Nat → Int32} (hR : rV (st.1 (p + 1)) R) (hs : s < 6) : jm_X4_endOf N p (nI s) st = some (en R s, st) := by
  unfold jm_X4_endOf en
  rw [a9, a15, inB_nI (show 9 + s < 21 by omega) (by omega), inB_nI (show 15 + s < 21 by omega) (by omega), cl (by omega), cl (by omega), hR 0 (by omega), hR 1 (by omega), hR (9 + s) (by omega), hR (15 + s) (by omega)]
  rfl
theorem q_limbOf {N p s : Nat} {st : PS} {R : Nat → Int32} (hR : rV (st.1 (p + 1)) R) (hs : s < 6) : jm_X4_limbOf N p (nI s) st = some (R (3 + s), st) := by
  unfold jm_X4_limbOf
  rw [a3, inB_nI (show 3 + s < 21 by omega) (by omega), cl (by omega), hR (3 + s) (by omega)]
  rfl
theorem q_holeOf {N p s : Nat} {st : PS} {R : Nat → Int32} (hR : rV (st.1 (p + 1)) R) (hs : s < 6) : jm_X4_holeOf N p (nI s) st = some (R (9 + s), st) := by
  unfold jm_X4_holeOf
  rw [a9, inB_nI (show 9 + s < 21 by omega) (by omega), cl (by omega), hR (9 + s) (by omega)]
  rfl
theorem q_lengthOf {N p s : Nat} {st : PS} {R : Nat → Int32} (hR : rV (st.1 (p + 1)) R) (hs : s < 6) : jm_X4_lengthOf N p (nI s) st = some (R (15 + s), st) := by
  unfold jm_X4_lengthOf
  rw [a15, inB_nI (show 15 + s < 21 by omega) (by omega), cl (by omega), hR (15 + s) (by omega)]
  rfl
theorem q_apart {N d n k a b : Nat} {st : PS} {F : Nat → Int32} (hV : cV st d n k F) (ha : a < n) (hb : b < n) : jm_X0_apart N d (nI a) (nI b) st = some (F (8 * a + b), st) := by
  obtain ⟨-, -, hn, -, hF⟩ := hV
  unfold jm_X0_apart
  rw [m8, inB_nI (show 8 * a + b < 64 by omega) (by omega), cl (by omega), hF a ha b hb]
  rfl
theorem q_pull {N d p n k s l : Nat} {st : PS} {F R : Nat → Int32} (hV : cV st d n k F) (hR : rV (st.1 (p + 1)) R) (hA : aN n k R) (hs : s < k) (hl : l < n) : jm_X0_pull N d p (nI s) (nI l) st = some (pl F R s l, st) := by
  obtain ⟨a, ha, ea⟩ := hA s hs
  have hn := hV.2.2.1
  have hk := hV.2.2.2.1
  unfold jm_X0_pull pl
  rw [q_isCut hR, bd_s]
  by_cases h : cutP R s
  · rw [if_pos h, if_pos h]; rfl
  · rw [if_neg h, if_neg h, if_pos rfl, q_endOf hR (by omega), bd_s, q_limbOf hR (by omega), bd_s, ea, q_apart hV ha hl, bd_s, cl (by omega)]
theorem q_height {N d p n k l : Nat} {st : PS} {F R : Nat → Int32} (hV : cV st d n k F) (hR : rV (st.1 (p + 1)) R) (hA : aN n k R) (hl : l < n) (hN : 2000 ≤ N) : jm_X0_height N d p (nI l) st = some (hg F R l k, st) := by
  have hk := hV.2.2.2.1
  unfold jm_X0_height
  refine iter_for (fun i => (hg F R l i, nI i, st)) k (fun i hi => ?_) ?_ (by omega)
  · show jm_X0_height_L5 N d p (nI l) (hg F R l i) (nI i) st = _
    unfold jm_X0_height_L5
    rw [hV.2.1, if_neg (nle hi (by omega)), q_pull hV hR hA hi hl, bd_s, nI_1]
    rfl
  · show jm_X0_height_L5 N d p (nI l) (hg F R l k) (nI k) st = _
    unfold jm_X0_height_L5
    rw [hV.2.1, if_pos (yle (Nat.le_refl k) (by omega))]
/-! the same of the reference -/
theorem q_has {N s : Nat} {x : Int32} {st : PS} : jm_X9_has N x (nI s) st = some (if ((x >>> (nI s &&& 31)) &&& 1) = 1 then 1 else 0, st) := by
  unfold jm_X9_has
  split <;> rfl
theorem q_end {N r s : Nat} {st : PS} {R : Nat → Int32} (hR : rV (st.1 r) R) (hs : s < 6) : jm_X9_end N r (nI s) st = some (en R s, st) := by
  unfold jm_X9_end en
  rw [a9, a15, inB_nI (show 9 + s < 21 by omega) (by omega), inB_nI (show 15 + s < 21 by omega) (by omega), cl (by omega), cl (by omega), hR 0 (by omega), hR 1 (by omega), hR (9 + s) (by omega), hR (15 + s) (by omega)]
  rfl
theorem q_reaches {N r n k s l a : Nat} {st : PS} {F R : Nat → Int32} (hV : mV st n k F) (hR : rV (st.1 r) R) (ha : a < n) (ea : R (3 + s) = nI a) (hs : s < 6) (hl : l < n) : jm_X9_reaches N r (nI s) (nI l) st = some (en R s - F (8 * a + l), st) := by
  have hn := hV.2.2.1
  unfold jm_X9_reaches
  rw [q_end hR hs, bd_s, a3, inB_nI (show 3 + s < 21 by omega) (by omega), cl (by omega), hR (3 + s) (by omega), ea, m8', inB_nI (show 8 * l + a < 64 by omega) (by omega), cl (by omega), hV.2.2.2.2 a ha l hl]
  rfl
theorem hg_nn (F R : Nat → Int32) (l : Nat) : ∀ s, ¬ hg F R l s < 0
  | 0 => by unfold hg; decide
  | s + 1 => by
    have ih := hg_nn F R l s
    unfold hg
    split
    · rename_i h
      rw [Int32.lt_iff_toInt_lt] at h ih ⊢
      have : (0 : Int32).toInt = 0 := rfl
      omega
    · exact ih
theorem q_mheight {N r n k l : Nat} {st : PS} {F R : Nat → Int32} (hV : mV st n k F) (hR : rV (st.1 r) R) (hA : aN n k R) (hl : l < n) (hN : 2000 ≤ N) : jm_X9_height N r (nI l) st = some (hg F R l k, st) := by
  have hk := hV.2.2.2.1
  have hn := hV.2.2.1
  unfold jm_X9_height
  refine iter_for (fun i => (hg F R l i, nI i, st)) k (fun i hi => ?_) ?_ (by omega)
  · show jm_X9_height_L5 N r (nI l) (hg F R l i) (nI i) st = some (.inl (hg F R l (i + 1), nI (i + 1), st))
    obtain ⟨a, ha, ea⟩ := hA i hi
    unfold jm_X9_height_L5
    rw [hV.2.1, if_neg (nle hi (by omega)), q_has, bd_s, hR 2 (by omega), nI_1]
    by_cases h : cutP R i
    · rw [if_pos h, if_neg (by decide), show hg F R l (i + 1) = hg F R l i from by rw [hg, pl, if_pos h, if_neg (hg_nn F R l i)]]
    · have e : pl F R i l = en R i - F (8 * a + l) := by rw [pl, if_neg h, ea, cl (by omega)]
      rw [if_neg h, if_pos rfl, q_reaches hV hR ha ea (by omega) hl, bd_s, hg, e]
      by_cases h2 : en R i - F (8 * a + l) ≤ hg F R l i
      · rw [if_pos h2, if_neg (Int32.not_lt.mpr h2)]
      · rw [if_neg h2, q_reaches hV hR ha ea (by omega) hl, bd_s, if_pos (Int32.not_le.mp h2)]
  · show jm_X9_height_L5 N r (nI l) (hg F R l k) (nI k) st = _
    unfold jm_X9_height_L5
    rw [hV.2.1, if_pos (yle (Nat.le_refl k) (by omega))]
