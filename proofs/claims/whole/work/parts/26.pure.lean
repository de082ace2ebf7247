/-! PURE: ODDS -/
def cnt (P : Nat → Bool) : Nat → Nat
  | 0 => 0
  | s + 1 => if P s = true then cnt P s + 1 else cnt P s
theorem cnt_le (P : Nat → Bool) : ∀ k, cnt P k ≤ k
  | 0 => Nat.le_refl 0
  | k + 1 => by
    have := cnt_le P k
    rw [cnt]
    split <;> omega
theorem cnt_more {P : Nat → Bool} {k : Nat} (h : ∀ s, k ≤ s → P s = false) : ∀ j, cnt P (k + j) = cnt P k
  | 0 => rfl
  | j + 1 => by rw [show k + (j + 1) = (k + j) + 1 by omega, cnt, h (k + j) (by omega), cnt_more h j]; simp
theorem pop_cnt_all : ∀ v : Fin 64, pop v.val = cnt (fun s => v.val.testBit s) 6 := by decide +kernel
theorem pop_cnt {v k : Nat} (hk : k ≤ 6) (hv : v < 2 ^ k) : pop v = cnt (fun s => v.testBit s) k := by
  have h : ∀ s, k ≤ s → (fun s => v.testBit s) s = false := fun s hs => Nat.testBit_lt_two_pow (Nat.lt_of_lt_of_le hv (Nat.pow_le_pow_right (by omega) hs))
  have h2 := cnt_more h (6 - k)
  rw [show k + (6 - k) = 6 by omega] at h2
  rw [← h2]
  exact pop_cnt_all ⟨v, Nat.lt_of_lt_of_le hv (pow6 hk)⟩
/-- the weight of string s, in the set (b) or not: h who may break, L who lifts -/
def aW (h L x : Nat) (s : Nat) (b : Bool) : Nat := match b with
  | true => if h.testBit s = true then x else 0
  | false => if L.testBit s = true then 0 else if h.testBit s = true then 10 - x else 1
/-- what the reference multiplies -/
def gB (h v x : Nat) : Nat → Nat
  | 0 => 1
  | s + 1 => gB h v x s * (if h.testBit s = true then (if v.testBit s = true then x else 10 - x) else 1)
def okB (h L v : Nat) : Nat → Bool
  | 0 => true
  | s + 1 => okB h L v s && (!v.testBit s || h.testBit s) && (!L.testBit s || v.testBit s)
theorem gP_gB (h L v x : Nat) : ∀ k, gP (aW h L x) v k = if okB h L v k = true then gB h v x k else 0
  | 0 => rfl
  | k + 1 => by
    rw [gP, gP_gB h L v x k, gB, okB]
    by_cases ho : okB h L v k = true
    · rw [ho, if_pos rfl]
      cases hv : v.testBit k <;> cases hh : h.testBit k <;> cases hL : L.testBit k <;> simp [aW, hh, hL]
    · have ho : okB h L v k = false := by simpa using ho
      rw [ho]; simp
theorem okB_iff {h L v : Nat} : ∀ {k}, okB h L v k = true ↔ ∀ s, s < k → (v.testBit s = true → h.testBit s = true) ∧ (L.testBit s = true → v.testBit s = true)
  | 0 => by simp [okB]
  | k + 1 => by
    rw [okB, Bool.and_eq_true, Bool.and_eq_true, okB_iff]
    constructor
    · intro ⟨⟨h1, h2⟩, h3⟩ s hs
      rcases Nat.lt_succ_iff_lt_or_eq.mp hs with q | q
      · exact h1 s q
      · subst q
        constructor
        · intro z; rw [z] at h2; simpa using h2
        · intro z; rw [z] at h3; simpa using h3
    · intro H
      refine ⟨⟨fun s hs => H s (by omega), ?_⟩, ?_⟩
      · have := (H k (by omega)).1
        cases hv : v.testBit k
        · rfl
        · rw [this hv]; rfl
      · have := (H k (by omega)).2
        cases hv : L.testBit k
        · rfl
        · rw [this hv]; rfl
theorem and_iff {a b k : Nat} (ha : a < 2 ^ k) : a &&& b = a ↔ ∀ s, s < k → a.testBit s = true → b.testBit s = true := by
  constructor
  · intro h s _ hs
    have : (a &&& b).testBit s = a.testBit s := by rw [h]
    rw [Nat.testBit_and, hs] at this
    simpa using this
  · intro h
    apply Nat.eq_of_testBit_eq
    intro i
    rw [Nat.testBit_and]
    by_cases hi : i < k
    · cases ht : a.testBit i
      · rfl
      · rw [h i hi ht]; rfl
    · rw [Nat.testBit_lt_two_pow (Nat.lt_of_lt_of_le ha (Nat.pow_le_pow_right (by omega) (by omega)))]; rfl
theorem okB_and {h L v k : Nat} (hL : L < 2 ^ k) (hv : v < 2 ^ k) : okB h L v k = true ↔ v &&& h = v ∧ L &&& v = L := by
  rw [okB_iff, and_iff hv, and_iff hL]
  constructor
  · intro H
    exact ⟨fun s hs => (H s hs).1, fun s hs => (H s hs).2⟩
  · intro H s hs
    exact ⟨H.1 s hs, H.2 s hs⟩
def pA (h : Nat) : Nat → Nat
  | 0 => 1
  | s + 1 => pA h s * (if h.testBit s = true then 10 else 1)
theorem pA_pow (h : Nat) : ∀ k, pA h k = 10 ^ cnt (fun s => h.testBit s) k
  | 0 => rfl
  | k + 1 => by
    rw [pA, pA_pow h k, cnt]
    split
    · rw [Nat.pow_succ]
    · rw [Nat.mul_one]
theorem tP_pow {h L x : Nat} (hx : x ≤ 10) : ∀ k, (∀ s, s < k → L.testBit s = true → h.testBit s = true) → tP (aW h L x) k = x ^ cnt (fun s => L.testBit s) k * 10 ^ (cnt (fun s => h.testBit s) k - cnt (fun s => L.testBit s) k) ∧ cnt (fun s => L.testBit s) k ≤ cnt (fun s => h.testBit s) k
  | 0, _ => ⟨rfl, Nat.le_refl 0⟩
  | k + 1, H => by
    obtain ⟨ih, il⟩ := tP_pow hx k (fun s hs => H s (by omega))
    have Hk := H k (by omega)
    rw [tP, ih, cnt, cnt]
    cases hh : h.testBit k <;> cases hL : L.testBit k
    · simp [aW, hh, hL, il]
    · rw [hL] at Hk
      rw [Hk rfl] at hh
      cases hh
    · have : aW h L x k false + aW h L x k true = 10 := by simp [aW, hh, hL]; omega
      rw [this]
      refine ⟨?_, by simp; omega⟩
      simp only [if_true, Bool.false_eq_true, if_false]
      rw [show cnt (fun s => h.testBit s) k + 1 - cnt (fun s => L.testBit s) k = (cnt (fun s => h.testBit s) k - cnt (fun s => L.testBit s) k) + 1 by omega, Nat.pow_succ, Nat.mul_assoc]
    · have : aW h L x k false + aW h L x k true = x := by simp [aW, hh, hL]
      rw [this]
      refine ⟨?_, by simp; omega⟩
      simp only [if_true]
      rw [show cnt (fun s => h.testBit s) k + 1 - (cnt (fun s => L.testBit s) k + 1) = cnt (fun s => h.testBit s) k - cnt (fun s => L.testBit s) k by omega, Nat.pow_succ]
      rw [Nat.mul_assoc, Nat.mul_assoc, Nat.mul_comm (10 ^ _) x]
theorem sP_ext {f : Nat → Nat} {n : Nat} : ∀ j, (∀ i, n ≤ i → i < n + j → f i = 0) → sP f (n + j) = sP f n
  | 0, _ => rfl
  | j + 1, h => by rw [show n + (j + 1) = (n + j) + 1 by omega, sP, sP_ext j (fun i h1 h2 => h i h1 (by omega)), h (n + j) (by omega) (by omega)]; rfl
/-- the whole sum -/
theorem od_sum {h L x k : Nat} (hk : k ≤ 6) (hx : x ≤ 10) (hh : h < 2 ^ k) (hL : L &&& h = L) : sP (fun v => gP (aW h L x) v k) (h + 1) = x ^ pop L * 10 ^ (pop h - pop L) ∧ pop L ≤ pop h := by
  have hLl : L < 2 ^ k := by have : L &&& h ≤ h := Nat.and_le_right; rw [hL] at this; omega
  have e := sP_ext (f := fun v => gP (aW h L x) v k) (n := h + 1) (2 ^ k - (h + 1)) (fun i h1 h2 => by
    have hi : i < 2 ^ k := by omega
    show gP (aW h L x) i k = 0
    rw [gP_gB, if_neg]
    intro z
    have := ((okB_and hLl hi).mp z).1
    have h3 : i &&& h ≤ h := Nat.and_le_right
    omega)
  rw [show h + 1 + (2 ^ k - (h + 1)) = 2 ^ k by omega, sP_gP] at e
  rw [← e, pop_cnt hk hLl, pop_cnt hk hh]
  exact tP_pow hx k ((and_iff hLl).mp hL)
set_option maxRecDepth 100000 in
theorem od_fin : ∀ (a b : Fin 7) (x : Fin 11), a.val ≤ b.val → (x.val ^ a.val * 10 ^ (b.val - a.val)) / Nat.gcd (x.val ^ a.val * 10 ^ (b.val - a.val)) (10 ^ b.val) = (x.val / Nat.gcd x.val 10) ^ a.val ∧ 10 ^ b.val / Nat.gcd (x.val ^ a.val * 10 ^ (b.val - a.val)) (10 ^ b.val) = (10 / Nat.gcd x.val 10) ^ a.val := by decide +kernel
theorem q_common {N : Nat} {m : PS} : ∀ (y x n : Nat), x < 2 ^ 31 → y < 2 ^ 31 → y < n → iter (fun q => jm_X9_common_L4 N q.1 q.2.1 q.2.2) n (nI x, nI y, m) = some (nI (Nat.gcd x y), m) := by
  intro y
  induction y using Nat.strongRecOn with
  | ind y ih =>
    intro x n hx hy hn
    obtain ⟨n, rfl⟩ : ∃ q, n = q + 1 := ⟨n - 1, by omega⟩
    by_cases h : y = 0
    · subst h
      have hb : jm_X9_common_L4 N (nI x) (nI 0) m = some (.inr (nI x, m)) := by
        unfold jm_X9_common_L4
        rw [if_pos nI_0]
      simp only [iter, hb, Nat.gcd_zero_right]
    · have hb : jm_X9_common_L4 N (nI x) (nI y) m = some (.inl (nI y, nI (x % y), m)) := by
        unfold jm_X9_common_L4
        rw [if_neg (nI_ne0 (by omega) hy), show nzB (nI y) = true from decide_eq_true (nI_ne0 (by omega) hy), gd_t, pk_rem hx (by omega) hy]
      have hlt : x % y < y := Nat.mod_lt _ (by omega)
      simp only [iter, hb]
      rw [ih (x % y) hlt y n hy (by omega) (by omega), Nat.gcd_comm y (x % y), Nat.gcd_comm x y, Nat.gcd_rec y x]
/-! the class' own way -/
theorem gs_all : ∀ (x d : Fin 11), 0 < d.val → ((nI x.val - nI x.val / nI d.val * nI d.val = 0) ↔ x.val % d.val = 0) := by decide +kernel
theorem q_gsd {N x : Nat} {st : PS} (hx : x ≤ 10) (hN : 2000 ≤ N) : jm_X8_greatestSharedDivisor N (nI x) st = some (nI (Nat.gcd x 10), st) := by
  unfold jm_X8_greatestSharedDivisor
  have g1 : Nat.gcd x 10 ∣ x := Nat.gcd_dvd_left x 10
  have g2 : Nat.gcd x 10 ∣ 10 := Nat.gcd_dvd_right x 10
  have g3 : Nat.gcd x 10 ≤ 10 := Nat.le_of_dvd (by omega) g2
  have g4 : 0 < Nat.gcd x 10 := Nat.gcd_pos_of_pos_right x (by omega)
  refine iter_for (fun i => (nI (10 - i), st)) (10 - Nat.gcd x 10) (fun i hi => ?_) ?_ (by omega)
  · show jm_X8_greatestSharedDivisor_L3 N (nI x) (nI (10 - i)) st = some (.inl (nI (10 - (i + 1)), st))
    have nd : ¬ (x % (10 - i) = 0 ∧ 10 % (10 - i) = 0) := by
      intro ⟨d1, d2⟩
      have := Nat.dvd_gcd (Nat.dvd_of_mod_eq_zero d1) (Nat.dvd_of_mod_eq_zero d2)
      have := Nat.le_of_dvd g4 this
      omega
    have e1 := gs_all ⟨x, by omega⟩ ⟨10 - i, by omega⟩ (by show 0 < 10 - i; omega)
    have e2 := gs_all ⟨10, by omega⟩ ⟨10 - i, by omega⟩ (by show 0 < 10 - i; omega)
    have e1 : (nI x - nI x / nI (10 - i) * nI (10 - i) = 0) ↔ x % (10 - i) = 0 := e1
    have e2 : ((10 : Int32) - (10 : Int32) / nI (10 - i) * nI (10 - i) = 0) ↔ 10 % (10 - i) = 0 := e2
    unfold jm_X8_greatestSharedDivisor_L3
    rw [if_neg (show ¬ nI (10 - i) ≤ 1 from nle (b := 1) (by omega) (by omega)), show nzB (nI (10 - i)) = true from decide_eq_true (nI_ne0 (by omega) (by omega)), gd_t, gd_t, show nI (10 - i) + (-1) = nI (10 - (i + 1)) from by rw [show 10 - i = (10 - (i + 1)) + 1 by omega, pk_m1]]
    by_cases h1 : x % (10 - i) = 0
    · rw [if_pos (e1.mpr h1), if_neg (fun z => nd ⟨h1, e2.mp z⟩)]
    · rw [if_neg (fun z => h1 (e1.mp z))]
  · rw [show 10 - (10 - Nat.gcd x 10) = Nat.gcd x 10 by omega]
    show jm_X8_greatestSharedDivisor_L3 N (nI x) (nI (Nat.gcd x 10)) st = _
    unfold jm_X8_greatestSharedDivisor_L3
    by_cases h : Nat.gcd x 10 = 1
    · rw [h, if_pos (show nI 1 ≤ 1 from Int32.le_refl _)]; rfl
    · have e1 := gs_all ⟨x, by omega⟩ ⟨Nat.gcd x 10, by omega⟩ g4
      have e2 := gs_all ⟨10, by omega⟩ ⟨Nat.gcd x 10, by omega⟩ g4
      have e1 : (nI x - nI x / nI (Nat.gcd x 10) * nI (Nat.gcd x 10) = 0) ↔ x % (Nat.gcd x 10) = 0 := e1
      have e2 : ((10 : Int32) - (10 : Int32) / nI (Nat.gcd x 10) * nI (Nat.gcd x 10) = 0) ↔ 10 % (Nat.gcd x 10) = 0 := e2
      rw [if_neg (show ¬ nI (Nat.gcd x 10) ≤ 1 from nle (b := 1) (by omega) (by omega)), show nzB (nI (Nat.gcd x 10)) = true from decide_eq_true (nI_ne0 (by omega) (by omega)), gd_t, gd_t, if_pos (e1.mpr (Nat.mod_eq_zero_of_dvd g1)), if_pos (e2.mpr (Nat.mod_eq_zero_of_dvd g2))]
theorem q_power {N b t : Nat} {st : PS} (ht : t ≤ 8) (hN : 2000 ≤ N) : jm_X8_power N (nI b) (nI t) st = some (nI (b ^ t), st) := by
  unfold jm_X8_power
  refine iter_for (fun i => (nI (b ^ i), nI i, st)) t (fun i hi => ?_) ?_ (by omega)
  · show jm_X8_power_L4 N (nI b) (nI t) (nI (b ^ i)) (nI i) st = some (.inl (nI (b ^ (i + 1)), nI (i + 1), st))
    unfold jm_X8_power_L4
    rw [if_neg (nle hi (by omega)), pk_mul, nI_1, Nat.pow_succ]
  · show jm_X8_power_L4 N (nI b) (nI t) (nI (b ^ t)) (nI t) st = _
    unfold jm_X8_power_L4
    rw [if_pos (Int32.le_refl _)]
/-! the reference's sum -/
theorem has_N {N v s : Nat} {m : PS} (hv : v < 256) (hs : s < 8) : jm_X9_has N (nI v) (nI s) m = some (if v.testBit s = true then 1 else 0, m) := by
  rw [q_has]
  by_cases h : v.testBit s = true
  · rw [if_pos ((tb hv hs).mpr h), if_pos h]
  · rw [if_neg (fun z => h ((tb hv hs).mp z)), if_neg h]
theorem q_odds9 {N n k cu l x : Nat} {y : Int32} {m : PS} {F R : Nat → Int32} (hV : mV m n k F) (hR : rV (m.1 13) R) (hA : aN n k R) (hc : R 2 = nI cu) (hcu : cu < 64) (hl : l < n) (hx : x ≤ 10) (hy : y = 0 ∨ y = 1) (hN : 2000000 ≤ N) : ∃ m', jm_X9_odds N (nI l) (nI x) y m = some (nI ((if y = 0 then x / Nat.gcd x 10 else 10 / Nat.gcd x 10) ^ pop (bN (lfP F R l) k)), m') ∧ mE m m' := by
  have hk := hV.2.2.2.1
  have hhk : hld k cu < 2 ^ k := hld_lt hk
  have hh : hld k cu < 64 := Nat.lt_of_lt_of_le hhk (pow6 hk)
  have e1 : nI (2 ^ k - 1) &&& (nI cu ^^^ (-1)) = nI (hld k cu) := hld_all ⟨k, by omega⟩ ⟨cu, hcu⟩
  have hsub := lf_sub (F := F) (l := l) hk hc hcu
  have hLk : bN (lfP F R l) k < 2 ^ k := bN_lt _ _
  have i1 : jm_X9_in N (nI x) 0 10 m = some (1, m) := by
    unfold jm_X9_in
    rw [if_neg (nI_pos (by omega)), if_neg (show ¬ (10 : Int32) < nI x from nI_nlt (b := x) (a := 10) (by omega) (by omega))]
  have i2 : jm_X9_in N y 0 1 m = some (1, m) := by rcases hy with rfl | rfl <;> rfl
  unfold jm_X9_odds
  rw [q_isLimb9 hV.1 hV.2.2.1 hl, bd_s, if_neg (by decide), i1, bd_s, if_neg (by decide), i2, bd_s, if_neg (by decide), q_allStrings hV, bd_s, hR 2 (by omega), hc, e1, nm_d]
  have hflv : ∀ v, v < 64 → (hg F (upd R 2 (nI (cu ||| v))) l k = 0 ↔ bN (lfP F R l) k &&& v = bN (lfP F R l) k) := fun v hv => fl_iff hk hc hcu hv
  generalize hld k cu = h at hh hsub hhk
  generalize bN (lfP F R l) k = L at hsub hLk hflv
  obtain ⟨hsum, hpop⟩ := od_sum (x := x) hk hx hhk hsub
  have hph : pop h ≤ 6 := by rw [pop_cnt hk hhk]; have := cnt_le (fun s => h.testBit s) k; omega
  have hall : pA h k = 10 ^ pop h := by rw [pA_pow, pop_cnt hk hhk]
  have hbig : 10 ^ pop h ≤ 1000000 := Nat.pow_le_pow_right (n := 10) (by omega) hph
  have hS : x ^ pop L * 10 ^ (pop h - pop L) ≤ 10 ^ pop h := by
    have h1 : x ^ pop L ≤ 10 ^ pop L := Nat.pow_le_pow_left hx _
    have h2 : 10 ^ pop h = 10 ^ pop L * 10 ^ (pop h - pop L) := by rw [← Nat.pow_add]; congr 1; omega
    rw [h2]
    exact Nat.mul_le_mul_right _ h1
  have hg0 : 0 < Nat.gcd (x ^ pop L * 10 ^ (pop h - pop L)) (10 ^ pop h) := Nat.gcd_pos_of_pos_right _ (Nat.pow_pos (by omega))
  have hgle : Nat.gcd (x ^ pop L * 10 ^ (pop h - pop L)) (10 ^ pop h) ≤ 10 ^ pop h := Nat.le_of_dvd (Nat.pow_pos (by omega)) (Nat.gcd_dvd_right _ _)
  have hfin := od_fin ⟨pop L, by omega⟩ ⟨pop h, by omega⟩ ⟨x, by omega⟩ hpop
  obtain ⟨m1, hm1, E1, V1⟩ := q_copyNow hR (show 2000 ≤ N by omega)
  have key : ∃ r, iter (fun q => jm_X9_odds_L96 N (nI l) (nI x) y (nI h) (nI (pA h k)) q.1 q.2.1 q.2.2) N (0, 0, m1) = some r ∧ ∃ m', r = .inr (nI ((if y = 0 then x / Nat.gcd x 10 else 10 / Nat.gcd x 10) ^ pop L), m') ∧ mE m m' := by
    refine iter_inv (fun v q => q.1 = nI (sP (fun v => gP (aW h L x) v k) v) ∧ q.2.1 = nI v ∧ mE m q.2.2 ∧ ∀ j, j < 21 → j ≠ 2 → q.2.2.1 14 j = R j) _ (h + 1) (fun v s hv hI => ?_) (fun s hI => ?_) (by omega) ⟨rfl, rfl, E1, rV_ne V1 2⟩
    · obtain ⟨w20, w21, st⟩ := s
      obtain ⟨i1, i2, i3, i4⟩ := hI
      have i1 : w20 = nI (sP (fun v => gP (aW h L x) v k) v) := i1
      have i2 : w21 = nI v := i2
      have i3 : mE m st := i3
      have i4 : ∀ j, j < 21 → j ≠ 2 → st.1 14 j = R j := i4
      subst i1 i2
      have hv2 : v < 2 ^ k := by omega
      show ∃ s', jm_X9_odds_L96 N (nI l) (nI x) y (nI h) (nI (pA h k)) (nI (sP (fun v => gP (aW h L x) v k) v)) (nI v) st = some (.inl s') ∧ _
      unfold jm_X9_odds_L96
      rw [if_neg (nI_nlt (by omega) (by omega)), nI_1]
      by_cases hs : v &&& h = v
      · rw [if_pos ((sub_all ⟨v, by omega⟩ ⟨h, hh⟩).mpr hs)]
        have hs2 : ∃ st2, st2 = pU st 14 2 (nI (cu ||| v)) := ⟨_, rfl⟩
        obtain ⟨st2, hs2⟩ := hs2
        have E2 : mE m st2 := by rw [hs2]; exact mE_t i3 (mE_U _ _ (by decide))
        have V2 : rV (st2.1 14) (upd R 2 (nI (cu ||| v))) := by rw [hs2, pU_1]; exact rV_upd i4
        have hA2 : aN n k (upd R 2 (nI (cu ||| v))) := aN_upd hA (Or.inl (by omega))
        have V4 : ∀ j, j < 21 → j ≠ 2 → st2.1 14 j = R j := fun j hj hj2 => by rw [hs2, pU_1, pk_un hj2]; exact i4 j hj hj2
        refine ⟨(nI (sP (fun v => gP (aW h L x) v k) (v + 1)), nI (v + 1), st2), ?_, rfl, rfl, E2, V4⟩
        refine iter_for (fun s => (nI (gB h v x s), nI s, st)) k (fun s hsk => ?_) ?_ (by omega)
        · show jm_X9_odds_L119 N (nI l) (nI x) (nI h) (nI (sP (fun v => gP (aW h L x) v k) v)) (nI v) (nI (gB h v x s)) (nI s) st = some (.inl (nI (gB h v x (s + 1)), nI (s + 1), st))
          unfold jm_X9_odds_L119
          rw [(mV_E hV i3).2.1, if_neg (nle hsk (by omega)), has_N (by omega) (by omega), bd_s, has_N (by omega) (by omega), bd_s, nI_1, gB]
          cases h1 : h.testBit s
          · simp
          · cases h2 : v.testBit s
            · simp [show (10 : Int32) - nI x = nI (10 - x) from pk_sub (a := 10) hx, pk_mul]
            · simp [pk_mul]
        · show jm_X9_odds_L119 N (nI l) (nI x) (nI h) (nI (sP (fun v => gP (aW h L x) v k) v)) (nI v) (nI (gB h v x k)) (nI k) st = _
          unfold jm_X9_odds_L119
          rw [(mV_E hV i3).2.1, if_pos (Int32.le_refl _), nm_d, i3.1 13 (by decide), hR 2 (by omega), hc, nI_or, ← hs2, q_mheight (mV_E hV E2) V2 hA2 hl (by omega), bd_s, nI_1, sP, gP_gB]
          by_cases hz : hg F (upd R 2 (nI (cu ||| v))) l k = 0
          · rw [if_pos hz, if_pos ((okB_and hLk hv2).mpr ⟨hs, (hflv v (by omega)).mp hz⟩), nI_add]
          · rw [if_neg hz, if_neg (fun z => hz ((hflv v (by omega)).mpr ((okB_and hLk hv2).mp z).2)), Int32.add_zero]; rfl
      · rw [if_neg (fun z => hs ((sub_all ⟨v, by omega⟩ ⟨h, hh⟩).mp z))]
        refine ⟨_, rfl, ?_, rfl, i3, i4⟩
        show nI _ = nI (sP (fun v => gP (aW h L x) v k) (v + 1))
        rw [sP, gP_gB, if_neg (fun z => hs ((okB_and hLk hv2).mp z).1), Nat.add_zero]
    · obtain ⟨w20, w21, st⟩ := s
      obtain ⟨i1, i2, i3, i4⟩ := hI
      have i1 : w20 = nI (sP (fun v => gP (aW h L x) v k) (h + 1)) := i1
      have i2 : w21 = nI (h + 1) := i2
      subst i1 i2
      refine ⟨.inr (nI ((if y = 0 then x / Nat.gcd x 10 else 10 / Nat.gcd x 10) ^ pop L), st), ?_, st, rfl, i3⟩
      show jm_X9_odds_L96 N (nI l) (nI x) y (nI h) (nI (pA h k)) (nI (sP (fun v => gP (aW h L x) v k) (h + 1))) (nI (h + 1)) st = _
      unfold jm_X9_odds_L96 jm_X9_common
      rw [if_pos (nI_lt (by omega) (by omega)), hsum, hall, q_common (10 ^ pop h) _ N (by omega) (by omega) (by omega), bd_s, show nzB (nI (Nat.gcd (x ^ pop L * 10 ^ (pop h - pop L)) (10 ^ pop h))) = true from decide_eq_true (nI_ne0 hg0 (by omega)), gd_t, gd_t, pk_div (by omega) hg0 (by omega), pk_div (by omega) hg0 (by omega)]
      rcases hy with rfl | rfl
      · rw [if_pos rfl, if_pos rfl]
        rw [show (x ^ pop L * 10 ^ (pop h - pop L)) / Nat.gcd (x ^ pop L * 10 ^ (pop h - pop L)) (10 ^ pop h) = (x / Nat.gcd x 10) ^ pop L from hfin.1]
      · rw [if_neg (by decide), if_neg (by decide)]
        rw [show 10 ^ pop h / Nat.gcd (x ^ pop L * 10 ^ (pop h - pop L)) (10 ^ pop h) = (10 / Nat.gcd x 10) ^ pop L from hfin.2]
  obtain ⟨r, hr, m', er, E'⟩ := key
  subst er
  refine ⟨m', ?_, E'⟩
  refine iter_for (fun s => (nI (pA h s), nI s, m)) k (fun s hs => ?_) ?_ (by omega)
  · show jm_X9_odds_L53 N (nI l) (nI x) y (nI h) (nI (pA h s)) (nI s) m = some (.inl (nI (pA h (s + 1)), nI (s + 1), m))
    unfold jm_X9_odds_L53
    rw [hV.2.1, if_neg (nle hs (by omega)), has_N (by omega) (by omega), bd_s, nI_1, pA]
    cases h1 : h.testBit s
    · simp
    · simp [show nI (pA h s) * 10 = nI (pA h s * 10) from pk_mul _ 10]
  · show jm_X9_odds_L53 N (nI l) (nI x) y (nI h) (nI (pA h k)) (nI k) m = _
    unfold jm_X9_odds_L53
    rw [hV.2.1, if_pos (Int32.le_refl _), hm1, bd_s]
    exact hr
