/-! PURE: who bears a limb, loads, the ground, what is taut -/
theorem i_lt {x y : Int32} : x < y ↔ x.toInt < y.toInt := Int32.lt_iff_toInt_lt
theorem i_le {x y : Int32} : x ≤ y ↔ x.toInt ≤ y.toInt := Int32.le_iff_toInt_le
theorem i_eq {x y : Int32} : x = y ↔ x.toInt = y.toInt := Int32.toInt_inj.symm
theorem i_0 : (0 : Int32).toInt = 0 := rfl
def brF (F R : Nat → Int32) (l : Nat) : Nat → Int32 × Int32
  | 0 => (0, -9)
  | s + 1 => if pl F R s l ≤ (brF F R l s).1 then brF F R l s else (pl F R s l, nI s)
theorem brF_1 (F R : Nat → Int32) (l : Nat) : ∀ s, (brF F R l s).1 = hg F R l s
  | 0 => rfl
  | s + 1 => by
    have ih := brF_1 F R l s
    rw [brF, hg, ih]
    by_cases h : pl F R s l ≤ hg F R l s
    · rw [if_pos h, if_neg (Int32.not_lt.mpr h), ih]
    · rw [if_neg h, if_pos (Int32.not_le.mp h)]
theorem q_bearer {N d p n k l : Nat} {st : PS} {F R : Nat → Int32} (hV : cV st d n k F) (hR : rV (st.1 (p + 1)) R) (hA : aN n k R) (hl : l < n) (hN : 2000 ≤ N) : jm_X0_bearer N d p (nI l) st = some ((brF F R l k).2, st) := by
  have hk := hV.2.2.2.1
  unfold jm_X0_bearer
  refine iter_for (fun i => ((brF F R l i).1, (brF F R l i).2, nI i, st)) k (fun i hi => ?_) ?_ (by omega)
  · show jm_X0_bearer_L9 N d p (nI l) (brF F R l i).1 (brF F R l i).2 (nI i) st = some (.inl ((brF F R l (i + 1)).1, (brF F R l (i + 1)).2, nI (i + 1), st))
    unfold jm_X0_bearer_L9
    rw [hV.2.1, if_neg (nle hi (by omega)), q_pull hV hR hA hi hl, bd_s, nI_1, brF]
    split <;> rfl
  · show jm_X0_bearer_L9 N d p (nI l) (brF F R l k).1 (brF F R l k).2 (nI k) st = _
    unfold jm_X0_bearer_L9
    rw [hV.2.1, if_pos (yle (Nat.le_refl k) (by omega))]
/-- going down: the lowest place where P holds -/
def dn (P : Nat → Bool) (k : Nat) : Nat → Int32
  | 0 => -9
  | j + 1 => if P (k - 1 - j) = true then nI (k - 1 - j) else dn P k j
theorem dn_none {P : Nat → Bool} {k : Nat} : ∀ j, j ≤ k → (∀ i, i < k → ¬ P i = true) → dn P k j = -9
  | 0, _, _ => rfl
  | j + 1, h, hP => by rw [dn, if_neg (hP _ (by omega)), dn_none j (by omega) hP]
theorem dn_low {P : Nat → Bool} {k t : Nat} (ht : t < k) (h1 : P t = true) (h2 : ∀ u, u < t → ¬ P u = true) : ∀ j, j ≤ k → k ≤ t + j → dn P k j = nI t
  | 0, _, h => by omega
  | j + 1, hj, h => by
    rw [dn]
    by_cases e : k - 1 - j = t
    · rw [e, if_pos h1]
    · rw [if_neg (h2 _ (by omega)), dn_low ht h1 h2 j (by omega) (by omega)]
def cd (k j : Nat) : Int32 := if j < k then nI (k - 1 - j) else -1
theorem cd_0 (k : Nat) : nI k - 1 = cd k 0 := by
  unfold cd
  cases k with
  | zero => rfl
  | succ k => rw [if_pos (by omega), nI_pred, show k + 1 - 1 - 0 = k by omega]
theorem cd_s {k j : Nat} (h : j < k) : cd k j + (-1) = cd k (j + 1) := by
  unfold cd
  rw [if_pos h]
  by_cases h2 : j + 1 < k
  · rw [if_pos h2, show k - 1 - j = (k - 1 - (j + 1)) + 1 by omega, pk_m1]
  · rw [if_neg h2, show k - 1 - j = 0 by omega]; rfl
theorem cd_in {k j : Nat} (h : j < k) : cd k j = nI (k - 1 - j) := by rw [cd, if_pos h]
theorem cd_nn {k j : Nat} (h : j < k) (hk : k ≤ 100000) : ¬ cd k j < 0 := by rw [cd_in h]; exact nI_pos (by omega)
theorem cd_end (k : Nat) : cd k k < 0 := by rw [cd, if_neg (Nat.lt_irrefl k)]; decide
def brP (F R : Nat → Int32) (l k : Nat) (s : Nat) : Bool := decide (0 < hg F R l k ∧ ¬ cutP R s ∧ pl F R s l = hg F R l k)
theorem brF_inv (F R : Nat → Int32) (l : Nat) : ∀ s, (∀ u, u < s → pl F R u l ≤ hg F R l s) ∧ ((hg F R l s = 0 ∧ (brF F R l s).2 = -9) ∨ (0 < hg F R l s ∧ ∃ t, t < s ∧ (brF F R l s).2 = nI t ∧ pl F R t l = hg F R l s ∧ ∀ u, u < t → pl F R u l < hg F R l s))
  | 0 => ⟨fun u h => absurd h (by omega), Or.inl ⟨rfl, rfl⟩⟩
  | s + 1 => by
    obtain ⟨h1, h2⟩ := brF_inv F R l s
    have e1 := brF_1 F R l s
    have nn := hg_nn F R l s
    rw [hg, brF, e1]
    by_cases h : pl F R s l ≤ hg F R l s
    · rw [if_neg (Int32.not_lt.mpr h), if_pos h]
      refine ⟨fun u hu => ?_, ?_⟩
      · rcases Nat.lt_succ_iff_lt_or_eq.mp hu with q | q
        · exact h1 u q
        · rw [q]; exact h
      · rcases h2 with q | ⟨q, t, ht, q2⟩
        · exact Or.inl q
        · exact Or.inr ⟨q, t, by omega, q2⟩
    · have h' := Int32.not_le.mp h
      rw [if_pos h', if_neg h]
      refine ⟨fun u hu => ?_, Or.inr ⟨?_, s, by omega, rfl, rfl, fun u hu => ?_⟩⟩
      · rcases Nat.lt_succ_iff_lt_or_eq.mp hu with q | q
        · have := h1 u q
          rw [i_lt] at h'; rw [i_le] at this ⊢; omega
        · rw [q]; exact Int32.le_refl _
      · rw [i_lt, i_0] at nn ⊢; rw [i_lt] at h'; omega
      · have := h1 u hu
        rw [i_lt] at h' ⊢; rw [i_le] at this; omega
theorem brP_eq (F R : Nat → Int32) (l k : Nat) : dn (brP F R l k) k k = (brF F R l k).2 := by
  obtain ⟨h1, h2⟩ := brF_inv F R l k
  rcases h2 with ⟨q, e⟩ | ⟨q, t, ht, e, e2, e3⟩
  · rw [e, dn_none k (Nat.le_refl k)]
    intro i hi h
    have := (of_decide_eq_true h).1
    rw [q] at this
    exact absurd this (by decide)
  · rw [e, dn_low ht _ _ k (Nat.le_refl k) (by omega)]
    · refine decide_eq_true ⟨q, fun hc => ?_, e2⟩
      rw [pl, if_pos hc] at e2
      rw [← e2] at q
      exact absurd q (by decide)
    · intro u hu h
      have h3 := (of_decide_eq_true h).2.2
      have h4 := e3 u hu
      rw [h3] at h4
      exact Int32.lt_irrefl h4
theorem q_borne {N r n k l : Nat} {st : PS} {F R : Nat → Int32} (hV : mV st n k F) (hR : rV (st.1 r) R) (hA : aN n k R) (hl : l < n) (hN : 2000 ≤ N) : jm_X9_borne N r (nI l) st = some ((brF F R l k).2, st) := by
  have hk := hV.2.2.2.1
  have hn := hV.2.2.1
  unfold jm_X9_borne
  rw [q_mheight hV hR hA hl hN, bd_s, hV.2.1, cd_0, ← brP_eq]
  refine iter_for (fun j => (dn (brP F R l k) k j, cd k j, st)) k (fun j hj => ?_) ?_ (by omega)
  · show jm_X9_borne_L19 N r (nI l) (hg F R l k) (dn (brP F R l k) k j) (cd k j) st = some (.inl (dn (brP F R l k) k (j + 1), cd k (j + 1), st))
    unfold jm_X9_borne_L19
    rw [if_neg (cd_nn hj (by omega)), cd_s hj, cd_in hj, dn]
    by_cases h0 : hg F R l k ≤ 0
    · rw [if_pos h0, if_neg]
      intro h
      exact Int32.not_le.mpr (of_decide_eq_true h).1 h0
    · obtain ⟨a, ha, ea⟩ := hA (k - 1 - j) (by omega)
      rw [if_neg h0, q_has, bd_s, hR 2 (by omega)]
      by_cases hc : cutP R (k - 1 - j)
      · rw [if_pos hc, if_neg (by decide), if_neg]
        intro h
        exact (of_decide_eq_true h).2.1 hc
      · have e : pl F R (k - 1 - j) l = en R (k - 1 - j) - F (8 * a + l) := by rw [pl, if_neg hc, ea, cl (by omega)]
        rw [if_neg hc, if_pos rfl, q_reaches hV hR ha ea (by omega) hl, bd_s, ← e]
        by_cases h2 : pl F R (k - 1 - j) l = hg F R l k
        · rw [if_pos h2, if_pos]
          exact decide_eq_true ⟨Int32.not_le.mp h0, hc, h2⟩
        · rw [if_neg h2, if_neg]
          intro h
          exact h2 (of_decide_eq_true h).2.2
  · show jm_X9_borne_L19 N r (nI l) (hg F R l k) (dn (brP F R l k) k k) (cd k k) st = _
    unfold jm_X9_borne_L19
    rw [if_pos (cd_end k)]
/-! loads: Wt the weights -/
def ldF (F R Wt : Nat → Int32) (k : Nat) (x : Int32) : Nat → Int32
  | 0 => 0
  | l + 1 => if (brF F R l k).2 = x then ldF F R Wt k x l + Wt l else ldF F R Wt k x l
theorem q_load {N d p n k : Nat} {x : Int32} {st : PS} {F R Wt : Nat → Int32} (hV : cV st d n k F) (hR : rV (st.1 (p + 1)) R) (hA : aN n k R) (hW : ∀ l, l < n → st.1 (d + 3) l = Wt l) (hN : 2000 ≤ N) : jm_X0_load N d p x st = some (ldF F R Wt k x n, st) := by
  have hn := hV.2.2.1
  unfold jm_X0_load
  refine iter_for (fun i => (ldF F R Wt k x i, nI i, st)) n (fun i hi => ?_) ?_ (by omega)
  · show jm_X0_load_L5 N d p x (ldF F R Wt k x i) (nI i) st = some (.inl (ldF F R Wt k x (i + 1), nI (i + 1), st))
    unfold jm_X0_load_L5
    rw [hV.1, if_neg (nle hi (by omega)), q_bearer hV hR hA hi hN, bd_s, nI_1, ldF, inB_nI (show i < 8 by omega) (by omega), cl (by omega), hW i hi, gd_t]
    split <;> rfl
  · show jm_X0_load_L5 N d p x (ldF F R Wt k x n) (nI n) st = _
    unfold jm_X0_load_L5
    rw [hV.1, if_pos (yle (Nat.le_refl n) (by omega))]
theorem q_mload {N r n k : Nat} {x : Int32} {st : PS} {F R Wt : Nat → Int32} (hV : mV st n k F) (hR : rV (st.1 r) R) (hA : aN n k R) (hW : ∀ l, l < n → st.1 8 l = Wt l) (hN : 2000 ≤ N) : jm_X9_load N r x st = some (ldF F R Wt k x n, st) := by
  have hn := hV.2.2.1
  unfold jm_X9_load
  refine iter_for (fun i => (ldF F R Wt k x i, nI i, st)) n (fun i hi => ?_) ?_ (by omega)
  · show jm_X9_load_L5 N r x (ldF F R Wt k x i) (nI i) st = some (.inl (ldF F R Wt k x (i + 1), nI (i + 1), st))
    unfold jm_X9_load_L5
    rw [hV.1, if_neg (nle hi (by omega)), q_borne hV hR hA hi hN, bd_s, nI_1, ldF, inB_nI (show i < 8 by omega) (by omega), cl (by omega), hW i hi, gd_t, Int32.add_zero]
    split <;> rfl
  · show jm_X9_load_L5 N r x (ldF F R Wt k x n) (nI n) st = _
    unfold jm_X9_load_L5
    rw [hV.1, if_pos (yle (Nat.le_refl n) (by omega))]
/-! the ground -/
def bit1 (l : Nat) : Int32 := (1 : Int32) <<< (nI l &&& 31)
def bitsF (P : Nat → Bool) : Nat → Int32
  | 0 => 0
  | l + 1 => if P l = true then bitsF P l ||| bit1 l else bitsF P l
def gdP (F R : Nat → Int32) (k l : Nat) : Bool := decide (hg F R l k = 0)
theorem q_grounded {N d p n k : Nat} {st : PS} {F R : Nat → Int32} (hV : cV st d n k F) (hR : rV (st.1 (p + 1)) R) (hA : aN n k R) (hN : 2000 ≤ N) : jm_X0_grounded N d p st = some (bitsF (gdP F R k) n, st) := by
  have hn := hV.2.2.1
  unfold jm_X0_grounded
  refine iter_for (fun i => (bitsF (gdP F R k) i, nI i, st)) n (fun i hi => ?_) ?_ (by omega)
  · show jm_X0_grounded_L4 N d p (bitsF (gdP F R k) i) (nI i) st = some (.inl (bitsF (gdP F R k) (i + 1), nI (i + 1), st))
    unfold jm_X0_grounded_L4
    rw [hV.1, if_neg (nle hi (by omega)), q_height hV hR hA hi hN, bd_s, nI_1, bitsF]
    by_cases h : hg F R i k = 0
    · rw [if_pos h, if_pos (show gdP F R k i = true from decide_eq_true h)]; rfl
    · rw [if_neg h, if_neg (show ¬ gdP F R k i = true from fun q => h (of_decide_eq_true q))]
  · show jm_X0_grounded_L4 N d p (bitsF (gdP F R k) n) (nI n) st = _
    unfold jm_X0_grounded_L4
    rw [hV.1, if_pos (yle (Nat.le_refl n) (by omega))]
theorem or_z (x : Int32) : x ||| 0 = x := by rw [← Int32.toBitVec_inj]; simp
theorem z_shl (s : Int32) : (0 : Int32) <<< s = 0 := by rw [← Int32.toBitVec_inj]; simp
theorem q_ground {N r n k : Nat} {st : PS} {F R : Nat → Int32} (hV : mV st n k F) (hR : rV (st.1 r) R) (hA : aN n k R) (hN : 2000 ≤ N) : jm_X9_ground N r st = some (bitsF (gdP F R k) n, st) := by
  have hn := hV.2.2.1
  unfold jm_X9_ground
  refine iter_for (fun i => (bitsF (gdP F R k) i, nI i, st)) n (fun i hi => ?_) ?_ (by omega)
  · show jm_X9_ground_L4 N r (bitsF (gdP F R k) i) (nI i) st = some (.inl (bitsF (gdP F R k) (i + 1), nI (i + 1), st))
    have nn := hg_nn F R i k
    unfold jm_X9_ground_L4 jm_X9_up
    rw [hV.1, if_neg (nle hi (by omega)), q_mheight hV hR hA hi hN, bd_s, nI_1, bitsF]
    by_cases h : hg F R i k = 0
    · rw [h, if_pos (Int32.le_refl 0), bd_s, nm_d, if_pos (show gdP F R k i = true from decide_eq_true h)]; rfl
    · have h2 : ¬ hg F R i k ≤ 0 := by
        rw [i_le, i_0]; rw [i_lt, i_0] at nn; rw [i_eq, i_0] at h; omega
      rw [if_neg h2, bd_s, nm_d, if_neg (show ¬ gdP F R k i = true from fun q => h (of_decide_eq_true q)), show (1 : Int32) - 1 = 0 from rfl, z_shl, or_z]
  · show jm_X9_ground_L4 N r (bitsF (gdP F R k) n) (nI n) st = _
    unfold jm_X9_ground_L4
    rw [hV.1, if_pos (yle (Nat.le_refl n) (by omega))]
/-! all heights together -/
def hsF (F R : Nat → Int32) (k : Nat) : Nat → Int32
  | 0 => 0
  | l + 1 => hsF F R k l + hg F R l k
theorem q_together {N d p n k : Nat} {st : PS} {F R : Nat → Int32} (hV : cV st d n k F) (hR : rV (st.1 (p + 1)) R) (hA : aN n k R) (hN : 2000 ≤ N) : jm_X0_heightsTogether N d p st = some (hsF F R k n, st) := by
  have hn := hV.2.2.1
  unfold jm_X0_heightsTogether
  refine iter_for (fun i => (hsF F R k i, nI i, st)) n (fun i hi => ?_) ?_ (by omega)
  · show jm_X0_heightsTogether_L4 N d p (hsF F R k i) (nI i) st = some (.inl (hsF F R k (i + 1), nI (i + 1), st))
    unfold jm_X0_heightsTogether_L4
    rw [hV.1, if_neg (nle hi (by omega)), q_height hV hR hA hi hN, bd_s, nI_1, hsF]
  · show jm_X0_heightsTogether_L4 N d p (hsF F R k n) (nI n) st = _
    unfold jm_X0_heightsTogether_L4
    rw [hV.1, if_pos (yle (Nat.le_refl n) (by omega))]
theorem q_heights {N n k : Nat} {st : PS} {F R : Nat → Int32} (hV : mV st n k F) (hR : rV (st.1 13) R) (hA : aN n k R) (hN : 2000 ≤ N) : jm_X9_heights N st = some (hsF F R k n, st) := by
  have hn := hV.2.2.1
  unfold jm_X9_heights
  refine iter_for (fun i => (hsF F R k i, nI i, st)) n (fun i hi => ?_) ?_ (by omega)
  · show jm_X9_heights_L4 N (hsF F R k i) (nI i) st = some (.inl (hsF F R k (i + 1), nI (i + 1), st))
    unfold jm_X9_heights_L4
    rw [hV.1, if_neg (nle hi (by omega)), q_mheight hV hR hA hi hN, bd_s, nI_1, hsF]
  · show jm_X9_heights_L4 N (hsF F R k n) (nI n) st = _
    unfold jm_X9_heights_L4
    rw [hV.1, if_pos (yle (Nat.le_refl n) (by omega))]
/-! taut -/
def ttP (F R : Nat → Int32) (k s : Nat) : Bool := decide (¬ cutP R s ∧ ¬ en R s ≤ 0 ∧ hg F R (R (3 + s)).toNatClampNeg k = en R s)
theorem q_isTaut {N d p n k s : Nat} {st : PS} {F R : Nat → Int32} (hV : cV st d n k F) (hR : rV (st.1 (p + 1)) R) (hA : aN n k R) (hs : s < k) (hN : 2000 ≤ N) : jm_X0_isTaut N d p (nI s) st = some (if ttP F R k s = true then 1 else 0, st) := by
  have hk := hV.2.2.2.1
  have hn := hV.2.2.1
  obtain ⟨a, ha, ea⟩ := hA s hs
  unfold jm_X0_isTaut
  rw [q_endOf hR (by omega), bd_s, q_isCut hR, bd_s]
  by_cases hc : cutP R s
  · rw [if_pos hc, if_neg (by decide), if_neg (fun q => (of_decide_eq_true q).1 hc)]
  · rw [if_neg hc, if_pos rfl]
    by_cases h1 : en R s ≤ 0
    · rw [if_pos h1, if_neg (fun q => (of_decide_eq_true q).2.1 h1)]
    · rw [if_neg h1, q_limbOf hR (by omega), bd_s, ea, q_height hV hR hA ha hN, bd_s]
      by_cases h2 : hg F R a k = en R s
      · rw [if_pos h2, if_pos (show ttP F R k s = true from decide_eq_true ⟨hc, h1, by rw [ea, cl (by omega)]; exact h2⟩)]
      · rw [if_neg h2, if_neg (fun q => h2 (by have := (of_decide_eq_true q).2.2; rw [ea, cl (by omega)] at this; exact this))]
theorem q_misTaut {N r n k s : Nat} {st : PS} {F R : Nat → Int32} (hV : mV st n k F) (hR : rV (st.1 r) R) (hA : aN n k R) (hs : s < k) (hN : 2000 ≤ N) : jm_X9_isTaut N r (nI s) st = some (if ttP F R k s = true then 1 else 0, st) := by
  have hk := hV.2.2.2.1
  have hn := hV.2.2.1
  obtain ⟨a, ha, ea⟩ := hA s hs
  unfold jm_X9_isTaut
  rw [q_has, bd_s, hR 2 (by omega)]
  by_cases hc : cutP R s
  · rw [if_pos hc, if_neg (by decide), if_neg (fun q => (of_decide_eq_true q).1 hc)]
  · rw [if_neg hc, if_pos rfl, q_end hR (by omega), bd_s]
    by_cases h1 : en R s ≤ 0
    · rw [if_pos h1, if_neg (fun q => (of_decide_eq_true q).2.1 h1)]
    · rw [if_neg h1, a3, inB_nI (show 3 + s < 21 by omega) (by omega), cl (by omega), hR (3 + s) (by omega), gd_t, ea, q_mheight hV hR hA ha hN, bd_s, q_end hR (by omega), bd_s]
      by_cases h2 : hg F R a k = en R s
      · rw [if_pos h2, if_pos (show ttP F R k s = true from decide_eq_true ⟨hc, h1, by rw [ea, cl (by omega)]; exact h2⟩)]
      · rw [if_neg h2, if_neg (fun q => h2 (by have := (of_decide_eq_true q).2.2; rw [ea, cl (by omega)] at this; exact this))]
theorem q_taut {N d p n k : Nat} {st : PS} {F R : Nat → Int32} (hV : cV st d n k F) (hR : rV (st.1 (p + 1)) R) (hA : aN n k R) (hN : 2000 ≤ N) : jm_X0_taut N d p st = some (bitsF (ttP F R k) k, st) := by
  have hk := hV.2.2.2.1
  unfold jm_X0_taut
  refine iter_for (fun i => (bitsF (ttP F R k) i, nI i, st)) k (fun i hi => ?_) ?_ (by omega)
  · show jm_X0_taut_L4 N d p (bitsF (ttP F R k) i) (nI i) st = some (.inl (bitsF (ttP F R k) (i + 1), nI (i + 1), st))
    unfold jm_X0_taut_L4
    rw [hV.2.1, if_neg (nle hi (by omega)), q_isTaut hV hR hA hi hN, bd_s, nI_1, bitsF]
    by_cases h : ttP F R k i = true
    · rw [if_pos h, if_pos h, if_neg (by decide)]; rfl
    · rw [if_neg h, if_neg h, if_pos rfl]
  · show jm_X0_taut_L4 N d p (bitsF (ttP F R k) k) (nI k) st = _
    unfold jm_X0_taut_L4
    rw [hV.2.1, if_pos (yle (Nat.le_refl k) (by omega))]
theorem q_mtaut {N n k : Nat} {st : PS} {F R : Nat → Int32} (hV : mV st n k F) (hR : rV (st.1 13) R) (hA : aN n k R) (hN : 2000 ≤ N) : jm_X9_taut N st = some (bitsF (ttP F R k) k, st) := by
  have hk := hV.2.2.2.1
  unfold jm_X9_taut
  refine iter_for (fun i => (bitsF (ttP F R k) i, nI i, st)) k (fun i hi => ?_) ?_ (by omega)
  · show jm_X9_taut_L4 N (bitsF (ttP F R k) i) (nI i) st = some (.inl (bitsF (ttP F R k) (i + 1), nI (i + 1), st))
    unfold jm_X9_taut_L4
    rw [hV.2.1, if_neg (nle hi (by omega)), q_misTaut hV hR hA hi hN, bd_s, nI_1, bitsF]
    by_cases h : ttP F R k i = true
    · rw [if_pos h, if_pos h, if_neg (by decide)]; rfl
    · rw [if_neg h, if_neg h, if_pos rfl, or_z]
  · show jm_X9_taut_L4 N (bitsF (ttP F R k) k) (nI k) st = _
    unfold jm_X9_taut_L4
    rw [hV.2.1, if_pos (yle (Nat.le_refl k) (by omega))]
