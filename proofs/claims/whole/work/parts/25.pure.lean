/-! PURE: FELL -/
theorem hg_zero {F R : Nat → Int32} {l k : Nat} : hg F R l k = 0 ↔ ∀ t, t < k → pl F R t l ≤ 0 := by
  constructor
  · intro h t ht
    have := (brF_inv F R l k).1 t ht
    rw [h] at this
    exact this
  · induction k with
    | zero => intro _; rfl
    | succ k ih =>
      intro h
      have e := ih (fun t ht => h t (by omega))
      rw [hg, e, if_neg (Int32.not_lt.mpr (h k (by omega)))]
theorem en_upd (R : Nat → Int32) (v : Int32) (t : Nat) : en (upd R 2 v) t = en R t := by
  unfold en
  rw [pk_un (by omega), pk_un (by omega), pk_un (by omega), pk_un (by omega)]
theorem cutP_N {R : Nat → Int32} {cu t : Nat} (h : R 2 = nI cu) (hc : cu < 64) (ht : t < 6) : cutP R t ↔ cu.testBit t = true := by
  unfold cutP
  rw [h]
  exact tb (by omega) (by omega)
theorem or_lt64 {a b : Nat} (ha : a < 64) (hb : b < 64) : a ||| b < 64 := Nat.or_lt_two_pow (n := 6) ha hb
/-- with the strings of s cut too: on the ground just if every lifting one is in s -/
theorem fl_iff {F R : Nat → Int32} {l k cu s : Nat} (hk : k ≤ 6) (hc : R 2 = nI cu) (hcu : cu < 64) (hs : s < 64) : hg F (upd R 2 (nI (cu ||| s))) l k = 0 ↔ bN (lfP F R l) k &&& s = bN (lfP F R l) k := by
  have e2 : upd R 2 (nI (cu ||| s)) 2 = nI (cu ||| s) := pk_us
  have hP : ∀ t, t < k → (pl F (upd R 2 (nI (cu ||| s))) t l ≤ 0 ↔ (lfP F R l t = true → s.testBit t = true)) := by
    intro t ht
    have c1 := cutP_N e2 (or_lt64 hcu hs) (show t < 6 by omega)
    have c2 := cutP_N hc hcu (show t < 6 by omega)
    rw [Nat.testBit_or, Bool.or_eq_true] at c1
    unfold pl lfP pl
    rw [en_upd, pk_un (show 3 + t ≠ 2 by omega)]
    by_cases h1 : cu.testBit t = true
    · rw [if_pos (c1.mpr (Or.inl h1)), if_pos (c2.mpr h1)]
      exact ⟨fun _ h => absurd (of_decide_eq_true h) (by decide), fun _ => Int32.le_refl 0⟩
    · have n2 : ¬ cutP R t := fun z => h1 (c2.mp z)
      rw [if_neg n2]
      by_cases h2 : s.testBit t = true
      · rw [if_pos (c1.mpr (Or.inr h2))]
        exact ⟨fun _ _ => h2, fun _ => Int32.le_refl 0⟩
      · rw [if_neg (fun z => (c1.mp z).elim h1 h2)]
        constructor
        · intro h h3
          exact absurd h (Int32.not_le.mpr (of_decide_eq_true h3))
        · intro h
          exact Int32.not_lt.mp (fun z => h2 (h (decide_eq_true z)))
  rw [hg_zero]
  constructor
  · intro h
    apply Nat.eq_of_testBit_eq
    intro i
    rw [Nat.testBit_and, bN_tb]
    by_cases hi : i < k
    · by_cases hl : lfP F R l i = true
      · rw [(hP i hi).mp (h i hi) hl]; simp
      · simp [hl]
    · simp [hi]
  · intro h t ht
    refine (hP t ht).mpr (fun hl => ?_)
    have : (bN (lfP F R l) k &&& s).testBit t = (bN (lfP F R l) k).testBit t := by rw [h]
    rw [Nat.testBit_and, bN_tb] at this
    simpa [ht, hl] using this
theorem lf_sub {F R : Nat → Int32} {l k cu : Nat} (hk : k ≤ 6) (hc : R 2 = nI cu) (hcu : cu < 64) : bN (lfP F R l) k &&& hld k cu = bN (lfP F R l) k := by
  apply Nat.eq_of_testBit_eq
  intro i
  rw [Nat.testBit_and, bN_tb, hld_tb hk hcu]
  by_cases hi : i < k
  · by_cases hl : lfP F R l i = true
    · have : ¬ cu.testBit i = true := fun z => by
        have := (cutP_N hc hcu (show i < 6 by omega)).mpr z
        have h2 := of_decide_eq_true hl
        rw [pl, if_pos this] at h2
        exact absurd h2 (by decide)
      simp [hi, hl, this]
    · simp [hl]
  · simp [hi]
def flQ (F R : Nat → Int32) (l k cu h s : Nat) : Bool := decide (s &&& h = s) && decide (hg F (upd R 2 (nI (cu ||| s))) l k = 0)
set_option maxRecDepth 100000 in
theorem pop_lex_all : ∀ a b : Fin 64, a.val &&& b.val = a.val → (pop a.val < pop b.val ∨ (pop a.val = pop b.val ∧ a.val ≤ b.val)) := by decide +kernel
theorem fl_eq {F R : Nat → Int32} {l k cu : Nat} (hk : k ≤ 6) (hc : R 2 = nI cu) (hcu : cu < 64) : bw (flQ F R l k cu (hld k cu)) (hld k cu) (hld k cu + 1) = bN (lfP F R l) k := by
  have hh : hld k cu < 64 := Nat.lt_of_lt_of_le (hld_lt hk) (pow6 hk)
  have hL : bN (lfP F R l) k < 64 := Nat.lt_of_lt_of_le (bN_lt _ _) (pow6 hk)
  have hsub := lf_sub (F := F) (l := l) hk hc hcu
  have hle : bN (lfP F R l) k ≤ hld k cu := by rw [← hsub]; exact Nat.and_le_right
  have hself : bN (lfP F R l) k &&& bN (lfP F R l) k = bN (lfP F R l) k := Nat.and_self _
  obtain ⟨g1, g0, g2⟩ := bw_inv (flQ F R l k cu (hld k cu)) (hld k cu) (hld k cu + 1) (Nat.le_refl _)
  have A := g2 (bN (lfP F R l) k) (by omega) hle (by
    unfold flQ
    rw [decide_eq_true hsub, decide_eq_true ((fl_iff hk hc hcu hL).mpr hself)]; rfl)
  have hr : bw (flQ F R l k cu (hld k cu)) (hld k cu) (hld k cu + 1) < 64 := by have := bw_le (flQ F R l k cu (hld k cu)) (hld k cu) (hld k cu + 1); omega
  have B : lex (bN (lfP F R l) k) (bw (flQ F R l k cu (hld k cu)) (hld k cu) (hld k cu + 1)) := by
    refine pop_lex_all ⟨_, hL⟩ ⟨_, hr⟩ ?_
    show bN (lfP F R l) k &&& bw (flQ F R l k cu (hld k cu)) (hld k cu) (hld k cu + 1) = bN (lfP F R l) k
    rcases g1 with e | ⟨-, -, e⟩
    · rw [e]; exact hsub
    · unfold flQ at e
      rw [Bool.and_eq_true] at e
      exact (fl_iff hk hc hcu hr).mp (of_decide_eq_true e.2)
  exact lex_anti A B
theorem q_isLimb9 {N n l : Nat} {m : PS} (h : m.1 0 18 = nI n) (hn : n ≤ 8) (hl : l < n) : jm_X9_isLimb N (nI l) m = some (1, m) := by
  unfold jm_X9_isLimb jm_X9_in
  rw [h, cd_0, cd_in (by omega), if_neg (nI_pos (by omega)), if_neg (nI_nlt (by omega) (by omega))]
  rfl
/-- the loop of fell() of the reference, behind its tests -/
theorem q_fellL {N n k cu l : Nat} {m : PS} {F R : Nat → Int32} (hV : mV m n k F) (hR : rV (m.1 13) R) (hA : aN n k R) (hc : R 2 = nI cu) (hcu : cu < 64) (hl : l < n) (hN : 2000 ≤ N) : ∃ m', jm_X9_fell N (nI l) m = some (nI (bN (lfP F R l) k), m') ∧ mE m m' := by
  have hk := hV.2.2.2.1
  have hh : hld k cu < 64 := Nat.lt_of_lt_of_le (hld_lt hk) (pow6 hk)
  have e1 : nI (2 ^ k - 1) &&& (nI cu ^^^ (-1)) = nI (hld k cu) := hld_all ⟨k, by omega⟩ ⟨cu, hcu⟩
  unfold jm_X9_fell
  obtain ⟨m1, hm1, E1, V1⟩ := q_copyNow hR hN
  rw [q_isLimb9 hV.1 hV.2.2.1 hl, bd_s, if_neg (by decide), q_allStrings hV, bd_s, hm1, bd_s, nm_d, hR 2 (by omega), hc, e1, ← fl_eq hk hc hcu]
  generalize hld k cu = h at hh
  refine ex_el (iter_inv (f := fun q => jm_X9_fell_L33 N (nI l) (nI h) q.1 q.2.1 q.2.2) (fun j q => q.1 = nI (bw (flQ F R l k cu h) h j) ∧ q.2.1 = cd (h + 1) j ∧ mE m q.2.2 ∧ ∀ j, j < 21 → j ≠ 2 → q.2.2.1 14 j = R j) (fun r => r.1 = nI (bw (flQ F R l k cu h) h (h + 1)) ∧ mE m r.2) (h + 1) (fun j s hj hI => ?_) (fun s hI => ?_) (N := N) (by omega) (s0 := (nI h, nI h, m1)) ⟨rfl, by rw [cd_in (by omega)]; rfl, E1, rV_ne V1 2⟩) (fun r h1 h2 => ?_)
  · obtain ⟨w8, w9, st⟩ := s
    obtain ⟨i1, i2, i3, i4⟩ := hI
    have i1 : w8 = nI (bw (flQ F R l k cu h) h j) := i1
    have i2 : w9 = cd (h + 1) j := i2
    have i3 : mE m st := i3
    have i4 : ∀ j, j < 21 → j ≠ 2 → st.1 14 j = R j := i4
    subst i1 i2
    have hb := bw_le (flQ F R l k cu h) h j
    show ∃ s', jm_X9_fell_L33 N (nI l) (nI h) (nI (bw (flQ F R l k cu h) h j)) (cd (h + 1) j) st = some (.inl s') ∧ _
    unfold jm_X9_fell_L33
    rw [if_neg (cd_nn hj (by omega)), nm_d, cd_s hj, cd_in hj, show h + 1 - 1 - j = h - j by omega, i3.1 13 (by decide), hR 2 (by omega), hc, nI_or]
    have hs2 : ∃ st2, st2 = pU st 14 2 (nI (cu ||| (h - j))) := ⟨_, rfl⟩
    obtain ⟨st2, hs2⟩ := hs2
    rw [← hs2]
    have E2 : mE m st2 := by rw [hs2]; exact mE_t i3 (mE_U _ _ (by decide))
    have V2 : rV (st2.1 14) (upd R 2 (nI (cu ||| (h - j)))) := by rw [hs2, pU_1]; exact rV_upd i4
    have hA2 : aN n k (upd R 2 (nI (cu ||| (h - j)))) := aN_upd hA (Or.inl (by omega))
    have V4 : ∀ j, j < 21 → j ≠ 2 → st2.1 14 j = R j := fun j hj hj2 => by rw [hs2, pU_1, pk_un hj2]; exact i4 j hj hj2
    by_cases hs : (h - j) &&& h = h - j
    · rw [if_pos ((sub_all ⟨h - j, by omega⟩ ⟨h, hh⟩).mpr hs), q_bits (by omega) hN, bd_s, q_bits (by omega) hN, bd_s]
      by_cases hp : pop (bw (flQ F R l k cu h) h j) < pop (h - j)
      · rw [if_pos (nI_lt hp (by have := pops (a := h - j); omega))]
        refine ⟨_, rfl, ?_, rfl, E2, V4⟩
        show nI _ = nI (bw (flQ F R l k cu h) h (j + 1))
        rw [bw, if_neg (fun z => by have := z.2; omega)]
      · rw [if_neg (nI_nlt (by omega) (by have := pops (a := bw (flQ F R l k cu h) h j); omega)), q_mheight (mV_E hV E2) V2 hA2 hl hN, bd_s]
        by_cases ha : hg F (upd R 2 (nI (cu ||| (h - j)))) l k = 0
        · rw [if_pos ha]
          refine ⟨_, rfl, ?_, rfl, E2, V4⟩
          show nI (h - j) = nI (bw (flQ F R l k cu h) h (j + 1))
          rw [bw, if_pos ⟨by unfold flQ; rw [decide_eq_true ha, decide_eq_true hs]; rfl, by omega⟩]
        · rw [if_neg ha]
          refine ⟨_, rfl, ?_, rfl, E2, V4⟩
          show nI _ = nI (bw (flQ F R l k cu h) h (j + 1))
          rw [bw, if_neg (fun z => ha (by have := z.1; unfold flQ at this; rw [Bool.and_eq_true] at this; exact of_decide_eq_true this.2))]
    · rw [if_neg (fun z => hs ((sub_all ⟨h - j, by omega⟩ ⟨h, hh⟩).mp z))]
      refine ⟨_, rfl, ?_, rfl, E2, V4⟩
      show nI _ = nI (bw (flQ F R l k cu h) h (j + 1))
      rw [bw, if_neg (fun z => hs (by have := z.1; unfold flQ at this; rw [Bool.and_eq_true] at this; exact of_decide_eq_true this.1))]
  · obtain ⟨w8, w9, st⟩ := s
    obtain ⟨i1, i2, i3, i4⟩ := hI
    have i1 : w8 = nI (bw (flQ F R l k cu h) h (h + 1)) := i1
    have i2 : w9 = cd (h + 1) (h + 1) := i2
    subst i1 i2
    refine ⟨(nI (bw (flQ F R l k cu h) h (h + 1)), st), ?_, rfl, i3⟩
    show jm_X9_fell_L33 N (nI l) (nI h) (nI (bw (flQ F R l k cu h) h (h + 1))) (cd (h + 1) (h + 1)) st = _
    unfold jm_X9_fell_L33
    rw [if_pos (cd_end _)]
  · exact ⟨r.2, by rw [h1, ← h2.1], h2.2⟩
/-! ODDS: a product over strings, summed over sets -/
def gP (a : Nat → Bool → Nat) (v : Nat) : Nat → Nat
  | 0 => 1
  | s + 1 => gP a v s * a s (v.testBit s)
def sP (f : Nat → Nat) : Nat → Nat
  | 0 => 0
  | n + 1 => sP f n + f n
def tP (a : Nat → Bool → Nat) : Nat → Nat
  | 0 => 1
  | s + 1 => tP a s * (a s false + a s true)
theorem sP_add (f : Nat → Nat) (m : Nat) : ∀ n, sP f (m + n) = sP f m + sP (fun i => f (m + i)) n
  | 0 => by simp [sP]
  | n + 1 => by rw [show m + (n + 1) = (m + n) + 1 by omega, sP, sP_add f m n, sP, Nat.add_assoc]
theorem sP_congr {f g : Nat → Nat} : ∀ n, (∀ i, i < n → f i = g i) → sP f n = sP g n
  | 0, _ => rfl
  | n + 1, h => by rw [sP, sP, sP_congr n (fun i hi => h i (by omega)), h n (by omega)]
theorem sP_mul (f : Nat → Nat) (x : Nat) : ∀ n, sP (fun i => f i * x) n = sP f n * x
  | 0 => by simp [sP]
  | n + 1 => by rw [sP, sP, sP_mul f x n, Nat.add_mul]
theorem gP_congr (a : Nat → Bool → Nat) {v w : Nat} : ∀ k, (∀ s, s < k → v.testBit s = w.testBit s) → gP a v k = gP a w k
  | 0, _ => rfl
  | k + 1, h => by rw [gP, gP, gP_congr a k (fun s hs => h s (by omega)), h k (by omega)]
theorem tb_hi {k i s : Nat} (hi : i < 2 ^ k) (hs : s ≤ k) : (2 ^ k + i).testBit s = if s = k then true else i.testBit s := by
  by_cases e : s = k
  · subst e
    rw [if_pos rfl, Nat.testBit_two_pow_add_eq, Nat.testBit_lt_two_pow hi]; rfl
  · rw [if_neg e, Nat.testBit_two_pow_add_gt (by omega)]
theorem sP_gP (a : Nat → Bool → Nat) : ∀ k, sP (fun v => gP a v k) (2 ^ k) = tP a k
  | 0 => rfl
  | k + 1 => by
    rw [show 2 ^ (k + 1) = 2 ^ k + 2 ^ k by omega, sP_add, tP, ← sP_gP a k, Nat.mul_add, ← sP_mul, ← sP_mul]
    congr 1
    · apply sP_congr
      intro i hi
      rw [gP, Nat.testBit_lt_two_pow hi]
    · apply sP_congr
      intro i hi
      rw [gP, tb_hi hi (Nat.le_refl k), if_pos rfl, gP_congr a (v := 2 ^ k + i) (w := i) k (fun s hs => by rw [tb_hi hi (by omega), if_neg (by omega)])]
