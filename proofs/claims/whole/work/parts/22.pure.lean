/-! PURE: sets as bits -/
set_option maxRecDepth 100000 in
theorem tb_all : ∀ v : Fin 256, ∀ s : Fin 8, (((nI v.val >>> (nI s.val &&& 31)) &&& 1) = 1) ↔ v.val.testBit s.val = true := by decide +kernel
theorem tb {v s : Nat} (hv : v < 256) (hs : s < 8) : (((nI v >>> (nI s &&& 31)) &&& 1) = 1) ↔ v.testBit s = true := tb_all ⟨v, hv⟩ ⟨s, hs⟩
set_option maxRecDepth 100000 in
theorem tz_all : ∀ v : Fin 256, ∀ s : Fin 8, (((nI v.val >>> (nI s.val &&& 31)) &&& 1) = 0) ↔ v.val.testBit s.val = false := by decide +kernel
theorem tz {v s : Nat} (hv : v < 256) (hs : s < 8) : (((nI v >>> (nI s &&& 31)) &&& 1) = 0) ↔ v.testBit s = false := tz_all ⟨v, hv⟩ ⟨s, hs⟩
theorem b1_all : ∀ s : Fin 16, bit1 s.val = nI (2 ^ s.val) := by decide +kernel
theorem b1 {s : Nat} (hs : s < 16) : bit1 s = nI (2 ^ s) := b1_all ⟨s, hs⟩
theorem nI_or (a b : Nat) : nI a ||| nI b = nI (a ||| b) := by
  rw [← Int32.toBitVec_inj]
  show (BitVec.ofNat 32 a) ||| (BitVec.ofNat 32 b) = BitVec.ofNat 32 (a ||| b)
  apply BitVec.eq_of_getLsbD_eq
  intro i hi
  simp [Nat.testBit_or, hi]
theorem nI_and (a b : Nat) : nI a &&& nI b = nI (a &&& b) := by
  rw [← Int32.toBitVec_inj]
  show (BitVec.ofNat 32 a) &&& (BitVec.ofNat 32 b) = BitVec.ofNat 32 (a &&& b)
  apply BitVec.eq_of_getLsbD_eq
  intro i hi
  simp [Nat.testBit_and, hi]
/-- the set of those below n for which P holds, as a number -/
def bN (P : Nat → Bool) : Nat → Nat
  | 0 => 0
  | l + 1 => if P l = true then bN P l ||| 2 ^ l else bN P l
theorem bN_tb (P : Nat → Bool) (n i : Nat) : (bN P n).testBit i = (decide (i < n) && P i) := by
  induction n with
  | zero => simp [bN]
  | succ n ih =>
    rw [bN]
    by_cases h : P n = true
    · rw [if_pos h, Nat.testBit_or, ih, Nat.testBit_two_pow]
      by_cases e : n = i
      · subst e; simp [h]
      · have : (i < n + 1) = (i < n) := by apply propext; omega
        simp [e, this]
    · rw [if_neg h, ih]
      by_cases e : i = n
      · subst e; simp [h]
      · have : (i < n + 1) = (i < n) := by apply propext; omega
        simp [this]
theorem bN_lt (P : Nat → Bool) (n : Nat) : bN P n < 2 ^ n := by
  apply Nat.lt_pow_two_of_testBit
  intro i hi
  rw [bN_tb]
  simp [show ¬ i < n by omega]
theorem bitsF_N (P : Nat → Bool) : ∀ n, n ≤ 16 → bitsF P n = nI (bN P n)
  | 0, _ => rfl
  | n + 1, h => by
    rw [bitsF, bN, bitsF_N P n (by omega), b1 (by omega)]
    split
    · rw [nI_or]
    · rfl
theorem bN_eq {P : Nat → Bool} {n v : Nat} (hv : v < 2 ^ n) : bN P n = v ↔ ∀ l, l < n → P l = v.testBit l := by
  constructor
  · intro h l hl
    rw [← h, bN_tb]; simp [hl]
  · intro h
    apply Nat.eq_of_testBit_eq
    intro i
    rw [bN_tb]
    by_cases hi : i < n
    · rw [h i hi]; simp [hi]
    · rw [Nat.testBit_lt_two_pow (Nat.lt_of_lt_of_le hv (Nat.pow_le_pow_right (by omega) (by omega)))]
      simp [hi]
theorem pow8 {n : Nat} (h : n ≤ 8) : 2 ^ n ≤ 256 := Nat.pow_le_pow_right (n := 2) (by omega) h
theorem pow6 {n : Nat} (h : n ≤ 6) : 2 ^ n ≤ 64 := Nat.pow_le_pow_right (n := 2) (by omega) h
/-! just these are on the ground -/
theorem q_groundsJust {N d p n k v : Nat} {st : PS} {F R : Nat → Int32} (hV : cV st d n k F) (hR : rV (st.1 (p + 1)) R) (hA : aN n k R) (hv : v < 2 ^ n) (hN : 2000 ≤ N) : jm_X0_groundsJust N d p (nI v) st = some (if bitsF (gdP F R k) n = nI v then 1 else 0, st) := by
  have hn := hV.2.2.1
  have hv8 : v < 256 := Nat.lt_of_lt_of_le hv (pow8 hn)
  unfold jm_X0_groundsJust
  refine (iter_all (fun i => (nI i, st)) n (fun l => gdP F R k l == v.testBit l) (r0 := (0, st)) (r1 := (1, st)) (fun i hi => ?_) ?_ (by omega)).trans ?_
  · show jm_X0_groundsJust_L2 N d p (nI v) (nI i) st = _
    unfold jm_X0_groundsJust_L2
    rw [hV.1, if_neg (nle hi (by omega)), q_height hV hR hA hi hN, bd_s, bd_s, nI_1]
    by_cases h1 : v.testBit i = true
    · rw [if_pos ((tb hv8 (by omega)).mpr h1), h1]
      by_cases h2 : hg F R i k = 0
      · simp [gdP, h2]
      · simp [gdP, h2]
    · rw [if_neg (fun q => h1 ((tb hv8 (by omega)).mp q))]
      have h1' : v.testBit i = false := by simpa using h1
      rw [h1']
      by_cases h2 : hg F R i k = 0
      · simp [gdP, h2]
      · simp [gdP, h2]
  · show jm_X0_groundsJust_L2 N d p (nI v) (nI n) st = _
    unfold jm_X0_groundsJust_L2
    rw [hV.1, if_pos (yle (Nat.le_refl n) (by omega))]
  · congr 1
    rw [bitsF_N _ n (by omega)]
    by_cases h : bN (gdP F R k) n = v
    · have h1 : allB (fun l => gdP F R k l == v.testBit l) n = true := allB_iff.mpr (fun i hi => by rw [beq_iff_eq]; exact (bN_eq hv).mp h i hi)
      rw [if_pos h1, h, if_pos rfl]
    · have h1 : ¬ allB (fun l => gdP F R k l == v.testBit l) n = true := fun h2 => h ((bN_eq hv).mpr (fun l hl => by have := allB_iff.mp h2 l hl; rw [beq_iff_eq] at this; exact this))
      have h3 : bN (gdP F R k) n < 256 := Nat.lt_of_lt_of_le (bN_lt _ _) (pow8 hn)
      rw [if_neg h1, if_neg (fun e => h ((nI_eq (by omega) (by omega)).mp e))]
/-! the strings that lift -/
def lfP (F R : Nat → Int32) (l s : Nat) : Bool := decide (0 < pl F R s l)
theorem q_lifters {N d p n k l : Nat} {st : PS} {F R : Nat → Int32} (hV : cV st d n k F) (hR : rV (st.1 (p + 1)) R) (hA : aN n k R) (hl : l < n) (hN : 2000 ≤ N) : jm_X0_lifters N d p (nI l) st = some (nI (bN (lfP F R l) k), st) := by
  have hk := hV.2.2.2.1
  rw [← bitsF_N _ k (by omega)]
  unfold jm_X0_lifters
  refine iter_for (fun i => (bitsF (lfP F R l) i, nI i, st)) k (fun i hi => ?_) ?_ (by omega)
  · show jm_X0_lifters_L5 N d p (nI l) (bitsF (lfP F R l) i) (nI i) st = some (.inl (bitsF (lfP F R l) (i + 1), nI (i + 1), st))
    unfold jm_X0_lifters_L5
    rw [hV.2.1, if_neg (nle hi (by omega)), q_pull hV hR hA hi hl, bd_s, nI_1, bitsF]
    by_cases h : pl F R i l ≤ 0
    · rw [if_pos h, if_neg (show ¬ lfP F R l i = true from fun q => Int32.not_le.mpr (of_decide_eq_true q) h)]
    · rw [if_neg h, if_pos (show lfP F R l i = true from decide_eq_true (Int32.not_le.mp h))]; rfl
  · show jm_X0_lifters_L5 N d p (nI l) (bitsF (lfP F R l) k) (nI k) st = _
    unfold jm_X0_lifters_L5
    rw [hV.2.1, if_pos (yle (Nat.le_refl k) (by omega))]
/-! what snaps: Sg the strengths -/
def moF (F R Wt Sg : Nat → Int32) (n k : Nat) : Nat → Int32 × Int32
  | 0 => (0, -9)
  | s + 1 => if ldF F R Wt k (nI s) n - Sg s ≤ (moF F R Wt Sg n k s).1 then moF F R Wt Sg n k s else (ldF F R Wt k (nI s) n - Sg s, nI s)
theorem moF_nn (F R Wt Sg : Nat → Int32) (n k : Nat) : ∀ s, (0 : Int32) ≤ (moF F R Wt Sg n k s).1
  | 0 => Int32.le_refl 0
  | s + 1 => by
    have ih := moF_nn F R Wt Sg n k s
    rw [moF]
    split
    · exact ih
    · rename_i h
      have h := Int32.not_le.mp h
      rw [i_lt] at h
      rw [i_le] at ih ⊢
      show _ ≤ (ldF F R Wt k (nI s) n - Sg s).toInt
      omega
theorem q_over {N d p n k : Nat} {st : PS} {F R Wt Sg : Nat → Int32} (hV : cV st d n k F) (hR : rV (st.1 (p + 1)) R) (hA : aN n k R) (hW : ∀ l, l < n → st.1 (d + 3) l = Wt l) (hS : ∀ s, s < k → st.1 (d + 4) s = Sg s) (hN : 2000 ≤ N) : jm_X0_mostOverloaded N d p st = some ((moF F R Wt Sg n k k).2, st) := by
  have hk := hV.2.2.2.1
  unfold jm_X0_mostOverloaded
  refine iter_for (fun i => ((moF F R Wt Sg n k i).1, (moF F R Wt Sg n k i).2, nI i, st)) k (fun i hi => ?_) ?_ (by omega)
  · show jm_X0_mostOverloaded_L8 N d p (moF F R Wt Sg n k i).1 (moF F R Wt Sg n k i).2 (nI i) st = some (.inl ((moF F R Wt Sg n k (i + 1)).1, (moF F R Wt Sg n k (i + 1)).2, nI (i + 1), st))
    unfold jm_X0_mostOverloaded_L8
    rw [hV.2.1, if_neg (nle hi (by omega)), q_load hV hR hA hW hN, bd_s, nI_1, inB_nI (show i < 6 by omega) (by omega), gd_t, cl (by omega), hS i hi, moF]
    split <;> rfl
  · show jm_X0_mostOverloaded_L8 N d p (moF F R Wt Sg n k k).1 (moF F R Wt Sg n k k).2 (nI k) st = _
    unfold jm_X0_mostOverloaded_L8
    rw [hV.2.1, if_pos (yle (Nat.le_refl k) (by omega))]
theorem br_cut {F R : Nat → Int32} {l s k : Nat} (hc : cutP R s) (hs : s < 100000) (hk : k ≤ 100000) : ¬ (brF F R l k).2 = nI s := by
  obtain ⟨-, h2⟩ := brF_inv F R l k
  rcases h2 with ⟨q, e⟩ | ⟨q, t, ht, e, e2, e3⟩
  · rw [e]
    intro h
    have : (nI s).toInt = (s : Int) := nI_toInt (by omega)
    rw [← h] at this
    have : (-9 : Int32).toInt = -9 := rfl
    omega
  · rw [e]
    intro h
    have : t = s := (nI_eq (by omega) (by omega)).mp h
    subst this
    rw [pl, if_pos hc] at e2
    rw [← e2] at q
    exact absurd q (by decide)
theorem ld_cut {F R Wt : Nat → Int32} {s k : Nat} (hc : cutP R s) (hs : s < 100000) (hk : k ≤ 100000) : ∀ n, ldF F R Wt k (nI s) n = 0
  | 0 => rfl
  | n + 1 => by rw [ldF, if_neg (br_cut hc hs hk), ld_cut hc hs hk n]
theorem q_snapping {N n k : Nat} {st : PS} {F R Wt Sg : Nat → Int32} (hV : mV st n k F) (hR : rV (st.1 13) R) (hA : aN n k R) (hW : ∀ l, l < n → st.1 8 l = Wt l) (hS : ∀ s, s < k → st.1 9 s = Sg s) (hP : ∀ s, s < k → ∃ v, 0 < v ∧ v ≤ 40 ∧ Sg s = nI v) (hN : 2000 ≤ N) : jm_X9_snapping N st = some ((moF F R Wt Sg n k k).2, st) := by
  have hk := hV.2.2.2.1
  unfold jm_X9_snapping
  refine iter_for (fun i => ((moF F R Wt Sg n k i).2, (moF F R Wt Sg n k i).1, nI i, st)) k (fun i hi => ?_) ?_ (by omega)
  · show jm_X9_snapping_L7 N (moF F R Wt Sg n k i).2 (moF F R Wt Sg n k i).1 (nI i) st = some (.inl ((moF F R Wt Sg n k (i + 1)).2, (moF F R Wt Sg n k (i + 1)).1, nI (i + 1), st))
    unfold jm_X9_snapping_L7
    rw [hV.2.1, if_neg (nle hi (by omega)), q_has, bd_s, nI_1, hR 2 (by omega), moF]
    by_cases hc : cutP R i
    · obtain ⟨v, hv0, hv, ev⟩ := hP i hi
      have h0 := moF_nn F R Wt Sg n k i
      have h1 : (0 : Int32) - Sg i ≤ (moF F R Wt Sg n k i).1 := by
        rw [ev]
        have : ((0 : Int32) - nI v) < 0 := pk_sneg (a := 0) (by omega) hv0
        rw [i_lt, i_0] at this
        rw [i_le, i_0] at h0
        rw [i_le]
        omega
      rw [if_pos hc, if_neg (by decide), ld_cut hc (by omega) (by omega) n, if_pos h1, if_pos h0, if_pos h0]
    · rw [if_neg hc, if_pos rfl, q_mload hV hR hA hW hN, bd_s, inB_nI (show i < 6 by omega) (by omega), gd_t, cl (by omega), hS i hi]
      split <;> rfl
  · show jm_X9_snapping_L7 N (moF F R Wt Sg n k k).2 (moF F R Wt Sg n k k).1 (nI k) st = _
    unfold jm_X9_snapping_L7
    rw [hV.2.1, if_pos (yle (Nat.le_refl k) (by omega))]
/-! two rows that hang alike -/
def haP (F R R2 : Nat → Int32) (k l : Nat) : Bool := decide (hg F R l k = hg F R2 l k)
theorem q_hangsAlike {N d p p2 n k : Nat} {st : PS} {F R R2 : Nat → Int32} (hV : cV st d n k F) (hR : rV (st.1 (p + 1)) R) (hR2 : rV (st.1 (p2 + 1)) R2) (hA : aN n k R) (hA2 : aN n k R2) (hN : 2000 ≤ N) : jm_X0_hangsAlike N d p p2 st = some (if allB (haP F R R2 k) n = true then 1 else 0, st) := by
  have hn := hV.2.2.1
  unfold jm_X0_hangsAlike
  refine (iter_all (fun i => (nI i, st)) n (haP F R R2 k) (r0 := (0, st)) (r1 := (1, st)) (fun i hi => ?_) ?_ (by omega)).trans ?_
  · show jm_X0_hangsAlike_L2 N d p p2 (nI i) st = _
    unfold jm_X0_hangsAlike_L2
    rw [hV.1, if_neg (nle hi (by omega)), q_height hV hR hA hi hN, bd_s, q_height hV hR2 hA2 hi hN, bd_s, nI_1]
    by_cases h : hg F R i k = hg F R2 i k
    · rw [if_pos h, if_pos (show haP F R R2 k i = true from decide_eq_true h)]
    · rw [if_neg h, if_neg (show ¬ haP F R R2 k i = true from fun q => h (of_decide_eq_true q))]
  · show jm_X0_hangsAlike_L2 N d p p2 (nI n) st = _
    unfold jm_X0_hangsAlike_L2
    rw [hV.1, if_pos (yle (Nat.le_refl n) (by omega))]
  · split <;> rfl
def zB (b : Bool) : Int32 := if b = true then 1 else 0
theorem isZ_zB (b : Bool) : isZ (zB b) = true := by cases b <;> rfl
theorem zB_0 (b : Bool) : zB b = 0 ↔ b = false := by cases b <;> simp [zB] <;> decide
theorem q_isAsHigh {N n k : Nat} {st : PS} {F R R2 : Nat → Int32} (hV : mV st n k F) (hR : rV (st.1 13) R) (hR2 : rV (st.1 14) R2) (hA : aN n k R) (hA2 : aN n k R2) (hN : 2000 ≤ N) : jm_X9_isAsHigh N st = some (zB (allB (haP F R R2 k) n), st) := by
  have hn := hV.2.2.1
  unfold jm_X9_isAsHigh
  refine iter_for (fun i => (zB (allB (haP F R R2 k) i), nI i, st)) n (fun i hi => ?_) ?_ (by omega)
  · show jm_X9_isAsHigh_L4 N (zB (allB (haP F R R2 k) i)) (nI i) st = some (.inl (zB (allB (haP F R R2 k) (i + 1)), nI (i + 1), st))
    unfold jm_X9_isAsHigh_L4
    rw [hV.1, if_neg (nle hi (by omega)), nI_1, allB]
    by_cases h : allB (haP F R R2 k) i = true
    · rw [h, if_neg (by decide), q_mheight hV hR2 hA2 hi hN, bd_s, q_mheight hV hR hA hi hN, bd_s]
      by_cases h2 : hg F R i k = hg F R2 i k
      · rw [if_pos h2.symm, show haP F R R2 k i = true from decide_eq_true h2]; rfl
      · rw [if_neg (fun e => h2 e.symm), show haP F R R2 k i = false from decide_eq_false h2]; rfl
    · have h : allB (haP F R R2 k) i = false := by simpa using h
      rw [h, if_pos (by decide)]; rfl
  · show jm_X9_isAsHigh_L4 N (zB (allB (haP F R R2 k) n)) (nI n) st = _
    unfold jm_X9_isAsHigh_L4
    rw [hV.1, if_pos (yle (Nat.le_refl n) (by omega)), isZ_zB, gd_t]
