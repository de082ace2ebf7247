/-! PURE: REACH -/
def tI (t : Nat) : Int32 := nI t - 3
theorem tI_s (t : Nat) : tI t + 1 = tI (t + 1) := by
  unfold tI
  rw [nI_succ, Int32.sub_eq_add_neg, Int32.sub_eq_add_neg, Int32.add_assoc, Int32.add_comm (-3) 1, ← Int32.add_assoc]
def dN (a b : Nat) : Nat := (a - b) + (b - a)
set_option maxRecDepth 100000 in
theorem ab_all : ∀ a b : Fin 41, (if 0 ≤ (nI a.val - nI b.val) then (nI a.val - nI b.val) else 0 - (nI a.val - nI b.val)) = nI (dN a.val b.val) := by decide +kernel
theorem abt_all : ∀ a b : Fin 7, (if 0 ≤ (tI a.val - tI b.val) then (tI a.val - tI b.val) else 0 - (tI a.val - tI b.val)) = nI (dN a.val b.val) := by decide +kernel
set_option maxRecDepth 100000 in
theorem ap_all : ∀ a b : Fin 41, (if nI b.val ≤ nI a.val then nI a.val - nI b.val else nI b.val - nI a.val) = nI (dN a.val b.val) := by decide +kernel
theorem apt_all : ∀ a b : Fin 7, (if tI b.val ≤ tI a.val then tI a.val - tI b.val else tI b.val - tI a.val) = nI (dN a.val b.val) := by decide +kernel
theorem t3_all : ∀ t : Fin 8, ((3 : Int32) < tI t.val ↔ t.val = 7) ∧ ((4 : Int32) ≤ tI t.val ↔ t.val = 7) := by decide +kernel
theorem q_apart9 {N : Nat} {x y : Int32} {m : PS} : jm_X9_apart N x y m = some (if y ≤ x then x - y else y - x, m) := by
  unfold jm_X9_apart
  split <;> rfl
def Rt (R : Nat → Int32) (u t : Nat) : Nat → Int32 := upd (upd R 0 (nI u)) 1 (tI t)
def rcG (F R : Nat → Int32) (n k v u t : Nat) : Bool := decide (bitsF (gdP F (Rt R u t) k) n = nI v)
def rcS (v0 t0 u t : Nat) : Nat := dN u v0 + dN t t0
def rcC (F R : Nat → Int32) (n k v v0 t0 u t : Nat) (b : Option (Nat × Nat × Nat)) : Option (Nat × Nat × Nat) := match b with
  | none => if rcG F R n k v u t = true then some (rcS v0 t0 u t, u, t) else none
  | some q => if rcS v0 t0 u t < q.1 ∧ rcG F R n k v u t = true then some (rcS v0 t0 u t, u, t) else some q
def rcF (F R : Nat → Int32) (n k v v0 t0 : Nat) : Nat → Option (Nat × Nat × Nat)
  | 0 => none
  | i + 1 => rcC F R n k v v0 t0 (i / 7) (i % 7) (rcF F R n k v v0 t0 i)
theorem rcF_inv {F R : Nat → Int32} {n k v v0 t0 : Nat} (hv0 : v0 ≤ 40) (ht0 : t0 ≤ 6) : ∀ i, i ≤ 287 → ∀ q, rcF F R n k v v0 t0 i = some q → 7 * q.2.1 + q.2.2 < i ∧ q.2.2 < 7 ∧ q.1 ≤ 46
  | 0, _, q, h => by cases h
  | i + 1, hi, q, h => by
    have hs : rcS v0 t0 (i / 7) (i % 7) ≤ 46 := by unfold rcS dN; omega
    rw [rcF] at h
    cases hb : rcF F R n k v v0 t0 i with
    | none =>
      rw [hb, rcC] at h
      split at h
      · cases h
        exact ⟨(by show 7 * (i / 7) + i % 7 < i + 1; omega), (by show i % 7 < 7; omega), hs⟩
      · cases h
    | some p =>
      have ih := rcF_inv hv0 ht0 i (by omega) p hb
      rw [hb, rcC] at h
      split at h
      · cases h
        exact ⟨(by show 7 * (i / 7) + i % 7 < i + 1; omega), (by show i % 7 < 7; omega), hs⟩
      · cases h
        omega
def rk (q : Nat × Nat × Nat) : Nat := (q.1 * 41 + q.2.1) * 7 + q.2.2
def en1 (b : Option (Nat × Nat × Nat)) : Int32 := match b with
  | none => -9
  | some q => nI (rk q)
theorem rk_expr (s u t : Nat) : ((((nI s * 41) + nI u) * 7) + tI t) + 3 = nI ((s * 41 + u) * 7 + t) := by
  unfold tI
  rw [show (41 : Int32) = nI 41 from rfl, show (7 : Int32) = nI 7 from rfl, pk_mul, nI_add, pk_mul, Int32.sub_eq_add_neg, ← Int32.add_assoc, Int32.add_assoc, show (-3 : Int32) + 3 = 0 from rfl, Int32.add_zero, nI_add]
theorem nI_ne9 {a : Nat} (h : a < 100000) : ¬ nI a = -9 := fun e => by
  have : (nI a).toInt = (a : Int) := nI_toInt (by omega)
  rw [e] at this
  have : (-9 : Int32).toInt = -9 := rfl
  omega
theorem nI_ne6 {a : Nat} (h : a < 100000) : ¬ nI a = 1000000 := fun e => by
  have := (nI_eq (a := a) (b := 1000000) (by omega) (by omega)).mp e
  omega
/-- one place of the class' search -/
theorem q_near1 {N n k v v0 t0 u t i : Nat} {c st : PS} {F R : Nat → Int32} (hV : cV c 17 n k F) (hR : rV (c.1 39) R) (hA : aN n k R) (hv : v < 2 ^ n) (h0 : R 0 = nI v0) (hv0 : v0 ≤ 40) (h1 : R 1 = tI t0) (ht0 : t0 ≤ 6) (hu : u ≤ 40) (ht : t < 7) (hi : i = 7 * u + t) (E : cE c st) (hr : ∀ j, j < 21 → j ≠ 0 → j ≠ 1 → st.1 16 j = R j) (hN : 2000 ≤ N) : ∃ st', jm_X8_nearestGrounding_L29 N (nI v) (nI u) (en1 (rcF F R n k v v0 t0 i)) (tI t) st = some (.inl (en1 (rcF F R n k v v0 t0 (i + 1)), tI (t + 1), st')) ∧ cE c st' ∧ ∀ j, j < 21 → j ≠ 0 → j ≠ 1 → st'.1 16 j = R j := by
  have hn := hV.2.2.1
  have hk := hV.2.2.2.1
  have e39 := E.1 39 (by decide)
  have hs46 : rcS v0 t0 u t ≤ 46 := by unfold rcS dN; omega
  unfold jm_X8_nearestGrounding_L29 jm_X4_lift jm_X4_tilt
  rw [if_neg (fun z => by have := (t3_all ⟨t, by omega⟩).1.mp z; have : t = 7 := this; omega), bd_s, bd_s, show (38 + 1 : Nat) = 39 from rfl, e39, hR 0 (by omega), hR 1 (by omega), h0, h1, ab_all ⟨u, by omega⟩ ⟨v0, by omega⟩, abt_all ⟨t, by omega⟩ ⟨t0, by omega⟩, nI_add, nm_d, show dN (⟨u, by omega⟩ : Fin 41).val (⟨v0, by omega⟩ : Fin 41).val + dN (⟨t, by omega⟩ : Fin 7).val (⟨t0, by omega⟩ : Fin 7).val = rcS v0 t0 u t from rfl, rk_expr, nm_d, tI_s, rcF, show i / 7 = u by omega, show i % 7 = t by omega]
  -- what an evaluation does
  have ev : ∃ st', (jm_X4_setLift N 15 (nI u) st = some ((), pU st 16 0 (nI u))) ∧ (jm_X4_setTilt N 15 (tI t) (pU st 16 0 (nI u)) = some ((), st')) ∧ jm_X0_groundsJust N 17 15 (nI v) st' = some (if rcG F R n k v u t = true then 1 else 0, st') ∧ cE c st' ∧ ∀ j, j < 21 → j ≠ 0 → j ≠ 1 → st'.1 16 j = R j := by
    refine ⟨pU (pU st 16 0 (nI u)) 16 1 (tI t), rfl, rfl, ?_, cE_t E (cE_t (cE_U _ _ (by decide)) (cE_U _ _ (by decide))), fun j hj h1 h2 => ?_⟩
    · have E2 : cE c (pU (pU st 16 0 (nI u)) 16 1 (tI t)) := cE_t E (cE_t (cE_U _ _ (by decide)) (cE_U _ _ (by decide)))
      have V2 : rV ((pU (pU st 16 0 (nI u)) 16 1 (tI t)).1 (15 + 1)) (Rt R u t) := by
        show rV ((pU (pU st 16 0 (nI u)) 16 1 (tI t)).1 16) _
        rw [pU_1, pU_1]
        intro j hj
        unfold Rt
        by_cases e1 : j = 1
        · subst e1; rw [pk_us, pk_us]
        · rw [pk_un e1, pk_un e1]
          by_cases e0 : j = 0
          · subst e0; rw [pk_us, pk_us]
          · rw [pk_un e0, pk_un e0]; exact hr j hj e0 e1
      have hA2 : aN n k (Rt R u t) := aN_upd (aN_upd hA (Or.inl (by omega))) (Or.inl (by omega))
      rw [q_groundsJust (cV_E hV E2) V2 hA2 hv hN]
      unfold rcG
      by_cases z : bitsF (gdP F (Rt R u t) k) n = nI v
      · rw [if_pos z, decide_eq_true z]; rfl
      · rw [if_neg z, decide_eq_false z]; rfl
    · rw [pU_1, pU_1, pk_un h2, pk_un h1]; exact hr j hj h1 h2
  obtain ⟨st', ev1, ev2, ev3, ev4, ev5⟩ := ev
  cases hb : rcF F R n k v v0 t0 i with
  | none =>
    rw [show en1 none = (-9 : Int32) from rfl, if_pos rfl, ev1, bd_s, ev2, bd_s, ev3, bd_s, rcC]
    cases hG : rcG F R n k v u t
    · exact ⟨st', by simp [en1], ev4, ev5⟩
    · exact ⟨st', by simp [en1, rk], ev4, ev5⟩
  | some q =>
    obtain ⟨b1, b2, b3⟩ := rcF_inv hv0 ht0 i (by omega) q hb
    have hrk : rk q < 100000 := by unfold rk; omega
    have cmp : (rk q ≤ (rcS v0 t0 u t * 41 + u) * 7 + t) ↔ ¬ rcS v0 t0 u t < q.1 := by
      unfold rk
      constructor
      · intro h z
        have : rcS v0 t0 u t + 1 ≤ q.1 := z
        have : (rcS v0 t0 u t + 1) * 287 ≤ q.1 * 287 := Nat.mul_le_mul_right _ this
        omega
      · intro h
        have : q.1 ≤ rcS v0 t0 u t := by omega
        have : q.1 * 287 ≤ rcS v0 t0 u t * 287 := Nat.mul_le_mul_right _ this
        by_cases e : q.1 = rcS v0 t0 u t
        · rw [← e]; omega
        · have : q.1 + 1 ≤ rcS v0 t0 u t := by omega
          have : (q.1 + 1) * 287 ≤ rcS v0 t0 u t * 287 := Nat.mul_le_mul_right _ this
          omega
    rw [show en1 (some q) = nI (rk q) from rfl, if_neg (nI_ne9 hrk), rcC]
    by_cases hc : rcS v0 t0 u t < q.1
    · rw [if_neg (fun z => by
        have h2 := (nI_leI (a := rk q) (b := (rcS v0 t0 u t * 41 + u) * 7 + t) (by omega) (by omega)).mp z
        exact cmp.mp h2 hc), ev1, bd_s, ev2, bd_s, ev3, bd_s]
      cases hG : rcG F R n k v u t
      · exact ⟨st', by simp [en1], ev4, ev5⟩
      · exact ⟨st', by simp [en1, rk, hc], ev4, ev5⟩
    · rw [if_pos (yle (cmp.mpr hc) (by omega)), if_neg (fun z => hc z.1)]
      exact ⟨st, rfl, E, hr⟩
set_option maxRecDepth 100000 in
theorem q_near {N n k v v0 t0 : Nat} {c : PS} {F R : Nat → Int32} (hV : cV c 17 n k F) (hR : rV (c.1 39) R) (hA : aN n k R) (hv : v < 2 ^ n) (h0 : R 0 = nI v0) (hv0 : v0 ≤ 40) (h1 : R 1 = tI t0) (ht0 : t0 ≤ 6) (hN : 2000 ≤ N) : ∃ c', jm_X8_nearestGrounding N (nI v) c = some (en1 (rcF F R n k v v0 t0 (7 * 41)), c') ∧ cE c c' := by
  unfold jm_X8_nearestGrounding jm_X4_copyFrom
  rw [nm_d, bd_s, show (38 + 1 : Nat) = 39 from rfl, show (15 + 1 : Nat) = 16 from rfl]
  generalize hc1 : pC c 16 (va_cpy (c.1 39) (c.1 16) ((0 : Int32)).toNatClampNeg ((0 : Int32)).toNatClampNeg ((21 : Int32)).toNatClampNeg) = c1
  have E1 : cE c c1 := by rw [← hc1]; exact cE_C _ (by decide)
  have V1 : rV (c1.1 16) R := by rw [← hc1, pC_1]; exact rV_cpy hR
  have key : ∃ r, iter (fun q => jm_X8_nearestGrounding_L19 N (nI v) q.1 q.2.1 q.2.2) N ((-9 : Int32), (0 : Int32), c1) = some r ∧ r.1 = en1 (rcF F R n k v v0 t0 (7 * 41)) ∧ cE c r.2 := by
    refine iter_inv (fun u q => q.1 = en1 (rcF F R n k v v0 t0 (7 * u)) ∧ q.2.1 = nI u ∧ cE c q.2.2 ∧ ∀ j, j < 21 → j ≠ 0 → j ≠ 1 → q.2.2.1 16 j = R j) _ 41 (fun u s hu hI => ?_) (fun s hI => ?_) (by omega) ⟨rfl, rfl, E1, fun j hj _ _ => V1 j hj⟩
    · obtain ⟨w4, w5, st⟩ := s
      obtain ⟨i1, i2, i3, i4⟩ := hI
      have i1 : w4 = en1 (rcF F R n k v v0 t0 (7 * u)) := i1
      have i2 : w5 = nI u := i2
      subst i1 i2
      show ∃ s', jm_X8_nearestGrounding_L19 N (nI v) (en1 (rcF F R n k v v0 t0 (7 * u))) (nI u) st = some (.inl s') ∧ _
      unfold jm_X8_nearestGrounding_L19
      rw [if_neg (show ¬ (40 : Int32) < nI u from nI_nlt (a := 40) (by omega) (by omega))]
      have inner : ∃ r, iter (fun q => jm_X8_nearestGrounding_L29 N (nI v) (nI u) q.1 q.2.1 q.2.2) N (en1 (rcF F R n k v v0 t0 (7 * u)), (-3 : Int32), st) = some r ∧ ∃ st', r = .inl (en1 (rcF F R n k v v0 t0 (7 * (u + 1))), nI (u + 1), st') ∧ cE c st' ∧ ∀ j, j < 21 → j ≠ 0 → j ≠ 1 → st'.1 16 j = R j := by
        refine iter_inv (fun t q => q.1 = en1 (rcF F R n k v v0 t0 (7 * u + t)) ∧ q.2.1 = tI t ∧ cE c q.2.2 ∧ ∀ j, j < 21 → j ≠ 0 → j ≠ 1 → q.2.2.1 16 j = R j) _ 7 (fun t s ht hI => ?_) (fun s hI => ?_) (by omega) ⟨rfl, rfl, i3, i4⟩
        · obtain ⟨w8, w9, st⟩ := s
          obtain ⟨i1, i2, i3, i4⟩ := hI
          have i1 : w8 = en1 (rcF F R n k v v0 t0 (7 * u + t)) := i1
          have i2 : w9 = tI t := i2
          subst i1 i2
          obtain ⟨st', q1, q2, q3⟩ := q_near1 (t := t) (u := u) hV hR hA hv h0 hv0 h1 ht0 (by omega) ht rfl i3 i4 hN
          exact ⟨_, q1, rfl, rfl, q2, q3⟩
        · obtain ⟨w8, w9, st⟩ := s
          obtain ⟨i1, i2, i3, i4⟩ := hI
          have i1 : w8 = en1 (rcF F R n k v v0 t0 (7 * u + 7)) := i1
          have i2 : w9 = tI 7 := i2
          subst i1 i2
          refine ⟨.inl (en1 (rcF F R n k v v0 t0 (7 * (u + 1))), nI (u + 1), st), ?_, st, rfl, i3, i4⟩
          show jm_X8_nearestGrounding_L29 N (nI v) (nI u) (en1 (rcF F R n k v v0 t0 (7 * u + 7))) (tI 7) st = _
          unfold jm_X8_nearestGrounding_L29
          rw [if_pos (by decide), nI_1, show 7 * u + 7 = 7 * (u + 1) by omega]
      obtain ⟨r, hr, st', er, e1, e2⟩ := inner
      subst er
      exact ⟨_, hr, rfl, rfl, e1, e2⟩
    · obtain ⟨w4, w5, st⟩ := s
      obtain ⟨i1, i2, i3, i4⟩ := hI
      have i1 : w4 = en1 (rcF F R n k v v0 t0 (7 * 41)) := i1
      have i2 : w5 = nI 41 := i2
      subst i1 i2
      refine ⟨(en1 (rcF F R n k v v0 t0 (7 * 41)), st), ?_, rfl, i3⟩
      show jm_X8_nearestGrounding_L19 N (nI v) (en1 (rcF F R n k v v0 t0 (7 * 41))) (nI 41) st = _
      unfold jm_X8_nearestGrounding_L19
      rw [if_pos (by decide)]
  obtain ⟨r, h1, h2, h3⟩ := key
  exact ⟨r.2, by rw [h1, ← h2], h3⟩
/-! the reference's search -/
def rcA (x2 : Int32) (b : Option (Nat × Nat × Nat)) : Int32 := match b with
  | none => -9
  | some q => if x2 = 0 then nI q.1 else if x2 = 1 then nI q.2.1 else tI q.2.2
def e2a (b : Option (Nat × Nat × Nat)) : Int32 := match b with
  | none => 1000000
  | some q => nI q.1
def e2b (b : Option (Nat × Nat × Nat)) : Int32 := match b with
  | none => -9
  | some q => nI q.2.1
def e2c (b : Option (Nat × Nat × Nat)) : Int32 := match b with
  | none => -9
  | some q => tI q.2.2
set_option maxRecDepth 100000 in
theorem q_rch1 {N n k v v0 t0 u t i : Nat} {m st : PS} {F R : Nat → Int32} (hV : mV m n k F) (hR : rV (m.1 13) R) (hA : aN n k R) (h0 : R 0 = nI v0) (hv0 : v0 ≤ 40) (h1 : R 1 = tI t0) (ht0 : t0 ≤ 6) (hu : u ≤ 40) (ht : t < 7) (hi : i = 7 * u + t) (E : mE m st) (hr : ∀ j, j < 21 → j ≠ 0 → j ≠ 1 → st.1 14 j = R j) (hN : 2000 ≤ N) : ∃ st', jm_X9_reach_L58 N (nI v) (nI u) (e2a (rcF F R n k v v0 t0 i)) (e2b (rcF F R n k v v0 t0 i)) (e2c (rcF F R n k v v0 t0 i)) (tI t) st = some (.inl (e2a (rcF F R n k v v0 t0 (i + 1)), e2b (rcF F R n k v v0 t0 (i + 1)), e2c (rcF F R n k v v0 t0 (i + 1)), tI (t + 1), st')) ∧ mE m st' ∧ ∀ j, j < 21 → j ≠ 0 → j ≠ 1 → st'.1 14 j = R j := by
  have e13 := E.1 13 (by decide)
  have hs46 : rcS v0 t0 u t ≤ 46 := by unfold rcS dN; omega
  unfold jm_X9_reach_L58
  rw [if_neg (fun z => by have := (t3_all ⟨t, by omega⟩).2.mp z; have : t = 7 := this; omega), q_apart9, bd_s, q_apart9, bd_s, e13, hR 0 (by omega), hR 1 (by omega), h0, h1, ap_all ⟨u, by omega⟩ ⟨v0, by omega⟩, apt_all ⟨t, by omega⟩ ⟨t0, by omega⟩, nI_add, show dN (⟨u, by omega⟩ : Fin 41).val (⟨v0, by omega⟩ : Fin 41).val + dN (⟨t, by omega⟩ : Fin 7).val (⟨t0, by omega⟩ : Fin 7).val = rcS v0 t0 u t from rfl, nm_d, nm_d, tI_s, rcF, show i / 7 = u by omega, show i % 7 = t by omega]
  obtain ⟨st2, hs2⟩ : ∃ st2, st2 = pU (pU st 14 0 (nI u)) 14 1 (tI t) := ⟨_, rfl⟩
  rw [← hs2]
  have E2 : mE m st2 := by rw [hs2]; exact mE_t E (mE_t (mE_U _ _ (by decide)) (mE_U _ _ (by decide)))
  have V2 : rV (st2.1 14) (Rt R u t) := by
    rw [hs2, pU_1, pU_1]
    intro j hj
    unfold Rt
    by_cases e1 : j = 1
    · subst e1; rw [pk_us, pk_us]
    · rw [pk_un e1, pk_un e1]
      by_cases e0 : j = 0
      · subst e0; rw [pk_us, pk_us]
      · rw [pk_un e0, pk_un e0]; exact hr j hj e0 e1
  have V4 : ∀ j, j < 21 → j ≠ 0 → j ≠ 1 → st2.1 14 j = R j := fun j hj z0 z1 => by rw [hs2, pU_1, pU_1, pk_un z1, pk_un z0]; exact hr j hj z0 z1
  have hA2 : aN n k (Rt R u t) := aN_upd (aN_upd hA (Or.inl (by omega))) (Or.inl (by omega))
  rw [q_ground (mV_E hV E2) V2 hA2 hN, bd_s]
  cases hb : rcF F R n k v v0 t0 i with
  | none =>
    rw [rcC, if_neg (show ¬ e2a none ≤ nI (rcS v0 t0 u t) from nI_ge (a := rcS v0 t0 u t) (b := 1000000) (by omega) (by omega))]
    by_cases hG : bitsF (gdP F (Rt R u t) k) n = nI v
    · rw [if_pos hG, if_pos (show rcG F R n k v u t = true from decide_eq_true hG)]
      exact ⟨st2, rfl, E2, V4⟩
    · rw [if_neg hG, if_neg (show ¬ rcG F R n k v u t = true from fun z => hG (of_decide_eq_true z))]
      exact ⟨st2, rfl, E2, V4⟩
  | some q =>
    obtain ⟨b1, b2, b3⟩ := rcF_inv hv0 ht0 i (by omega) q hb
    rw [rcC]
    by_cases hc : rcS v0 t0 u t < q.1
    · rw [if_neg (show ¬ e2a (some q) ≤ nI (rcS v0 t0 u t) from nle hc (by omega))]
      by_cases hG : bitsF (gdP F (Rt R u t) k) n = nI v
      · rw [if_pos hG, if_pos ⟨hc, show rcG F R n k v u t = true from decide_eq_true hG⟩]
        exact ⟨st2, rfl, E2, V4⟩
      · rw [if_neg hG, if_neg (fun z => hG (of_decide_eq_true z.2))]
        exact ⟨st2, rfl, E2, V4⟩
    · rw [if_pos (show e2a (some q) ≤ nI (rcS v0 t0 u t) from yle (by omega) (by omega)), if_neg (fun z => hc z.1)]
      exact ⟨st2, rfl, E2, V4⟩
set_option maxRecDepth 100000 in
theorem q_reach9 {N n k v v0 t0 : Nat} {x2 : Int32} {m : PS} {F R : Nat → Int32} (hV : mV m n k F) (hR : rV (m.1 13) R) (hA : aN n k R) (hv : v < 2 ^ n) (h0 : R 0 = nI v0) (hv0 : v0 ≤ 40) (h1 : R 1 = tI t0) (ht0 : t0 ≤ 6) (hx : x2 = 0 ∨ x2 = 1 ∨ x2 = 2) (hN : 2000 ≤ N) : ∃ m', jm_X9_reach N (nI v) x2 m = some (rcA x2 (rcF F R n k v v0 t0 (7 * 41)), m') ∧ mE m m' := by
  have hn := hV.2.2.1
  have hv8 : v < 256 := Nat.lt_of_lt_of_le hv (pow8 hn)
  have i1 : jm_X9_in N (nI v) 0 (((1 : Int32) <<< ((m.1 0 18) &&& 31)) - 1) m = some (1, m) := by
    unfold jm_X9_in
    have hp : ((1 : Int32) <<< (nI n &&& 31)) = nI (2 ^ n) := b1 (by omega)
    have h2 : nI (2 ^ n) - 1 = nI (2 ^ n - 1) := by rw [show 2 ^ n = (2 ^ n - 1) + 1 by omega, nI_pred]; rfl
    have := pow8 hn
    rw [hV.1, hp, h2, if_neg (nI_pos (by omega)), if_neg (nI_nlt (by omega) (by omega))]
  have i2 : jm_X9_in N x2 0 2 m = some (1, m) := by rcases hx with rfl | rfl | rfl <;> rfl
  unfold jm_X9_reach
  obtain ⟨m1, hm1, E1, V1⟩ := q_copyNow hR hN
  rw [i1, bd_s, if_neg (by decide), i2, bd_s, if_neg (by decide), hm1, bd_s]
  refine ex_el (iter_inv (f := fun q => jm_X9_reach_L47 N (nI v) x2 q.1 q.2.1 q.2.2.1 q.2.2.2.1 q.2.2.2.2) (fun u q => q.1 = e2a (rcF F R n k v v0 t0 (7 * u)) ∧ q.2.1 = e2b (rcF F R n k v v0 t0 (7 * u)) ∧ q.2.2.1 = e2c (rcF F R n k v v0 t0 (7 * u)) ∧ q.2.2.2.1 = nI u ∧ mE m q.2.2.2.2 ∧ ∀ j, j < 21 → j ≠ 0 → j ≠ 1 → q.2.2.2.2.1 14 j = R j) (fun r => r.1 = rcA x2 (rcF F R n k v v0 t0 (7 * 41)) ∧ mE m r.2) 41 (fun u s hu hI => ?_) (fun s hI => ?_) (N := N) (by omega) (s0 := (1000000, -9, -9, 0, m1)) ⟨rfl, rfl, rfl, rfl, E1, fun j hj _ _ => V1 j hj⟩) (fun r h1 h2 => ?_)
  · obtain ⟨w10, w11, w12, w13, st⟩ := s
    obtain ⟨i1, i2, i3, i4, i5, i6⟩ := hI
    have i1 : w10 = e2a (rcF F R n k v v0 t0 (7 * u)) := i1
    have i2 : w11 = e2b (rcF F R n k v v0 t0 (7 * u)) := i2
    have i3 : w12 = e2c (rcF F R n k v v0 t0 (7 * u)) := i3
    have i4 : w13 = nI u := i4
    subst i1 i2 i3 i4
    show ∃ s', jm_X9_reach_L47 N (nI v) x2 (e2a (rcF F R n k v v0 t0 (7 * u))) (e2b (rcF F R n k v v0 t0 (7 * u))) (e2c (rcF F R n k v v0 t0 (7 * u))) (nI u) st = some (.inl s') ∧ _
    unfold jm_X9_reach_L47
    rw [if_neg (show ¬ (40 : Int32) < nI u from nI_nlt (a := 40) (by omega) (by omega))]
    have inner : ∃ r, iter (fun q => jm_X9_reach_L58 N (nI v) (nI u) q.1 q.2.1 q.2.2.1 q.2.2.2.1 q.2.2.2.2) N (e2a (rcF F R n k v v0 t0 (7 * u)), e2b (rcF F R n k v v0 t0 (7 * u)), e2c (rcF F R n k v v0 t0 (7 * u)), (-3 : Int32), st) = some r ∧ ∃ st', r = .inl (e2a (rcF F R n k v v0 t0 (7 * (u + 1))), e2b (rcF F R n k v v0 t0 (7 * (u + 1))), e2c (rcF F R n k v v0 t0 (7 * (u + 1))), nI (u + 1), st') ∧ mE m st' ∧ ∀ j, j < 21 → j ≠ 0 → j ≠ 1 → st'.1 14 j = R j := by
      refine iter_inv (fun t q => q.1 = e2a (rcF F R n k v v0 t0 (7 * u + t)) ∧ q.2.1 = e2b (rcF F R n k v v0 t0 (7 * u + t)) ∧ q.2.2.1 = e2c (rcF F R n k v v0 t0 (7 * u + t)) ∧ q.2.2.2.1 = tI t ∧ mE m q.2.2.2.2 ∧ ∀ j, j < 21 → j ≠ 0 → j ≠ 1 → q.2.2.2.2.1 14 j = R j) _ 7 (fun t s ht hI => ?_) (fun s hI => ?_) (by omega) ⟨rfl, rfl, rfl, rfl, i5, i6⟩
      · obtain ⟨w19, w20, w21, w22, st⟩ := s
        obtain ⟨i1, i2, i3, i4, i5, i6⟩ := hI
        have i1 : w19 = e2a (rcF F R n k v v0 t0 (7 * u + t)) := i1
        have i2 : w20 = e2b (rcF F R n k v v0 t0 (7 * u + t)) := i2
        have i3 : w21 = e2c (rcF F R n k v v0 t0 (7 * u + t)) := i3
        have i4 : w22 = tI t := i4
        subst i1 i2 i3 i4
        obtain ⟨st', q1, q2, q3⟩ := q_rch1 (t := t) (u := u) (v := v) hV hR hA h0 hv0 h1 ht0 (by omega) ht rfl i5 i6 hN
        exact ⟨_, q1, rfl, rfl, rfl, rfl, q2, q3⟩
      · obtain ⟨w19, w20, w21, w22, st⟩ := s
        obtain ⟨i1, i2, i3, i4, i5, i6⟩ := hI
        have i1 : w19 = e2a (rcF F R n k v v0 t0 (7 * u + 7)) := i1
        have i2 : w20 = e2b (rcF F R n k v v0 t0 (7 * u + 7)) := i2
        have i3 : w21 = e2c (rcF F R n k v v0 t0 (7 * u + 7)) := i3
        have i4 : w22 = tI 7 := i4
        subst i1 i2 i3 i4
        refine ⟨.inl (e2a (rcF F R n k v v0 t0 (7 * (u + 1))), e2b (rcF F R n k v v0 t0 (7 * (u + 1))), e2c (rcF F R n k v v0 t0 (7 * (u + 1))), nI (u + 1), st), ?_, st, rfl, i5, i6⟩
        show jm_X9_reach_L58 N (nI v) (nI u) (e2a (rcF F R n k v v0 t0 (7 * u + 7))) (e2b (rcF F R n k v v0 t0 (7 * u + 7))) (e2c (rcF F R n k v v0 t0 (7 * u + 7))) (tI 7) st = _
        unfold jm_X9_reach_L58
        rw [if_pos (by decide), nI_1, show 7 * u + 7 = 7 * (u + 1) by omega]
    obtain ⟨r, hr, st', er, e1, e2⟩ := inner
    subst er
    exact ⟨_, hr, rfl, rfl, rfl, rfl, e1, e2⟩
  · obtain ⟨w10, w11, w12, w13, st⟩ := s
    obtain ⟨i1, i2, i3, i4, i5, i6⟩ := hI
    have i1 : w10 = e2a (rcF F R n k v v0 t0 (7 * 41)) := i1
    have i2 : w11 = e2b (rcF F R n k v v0 t0 (7 * 41)) := i2
    have i3 : w12 = e2c (rcF F R n k v v0 t0 (7 * 41)) := i3
    have i4 : w13 = nI 41 := i4
    have hb := rcF_inv (F := F) (R := R) (n := n) (k := k) (v := v) hv0 ht0 (7 * 41) (by omega)
    generalize rcF F R n k v v0 t0 (7 * 41) = b at *
    subst i1 i2 i3 i4
    refine ⟨(rcA x2 b, st), ?_, rfl, i5⟩
    show jm_X9_reach_L47 N (nI v) x2 (e2a b) (e2b b) (e2c b) (nI 41) st = _
    unfold jm_X9_reach_L47
    rw [if_pos (by decide)]
    cases b with
    | none => rw [if_pos (show e2a none = 1000000 from rfl)]; rfl
    | some q =>
      rw [if_neg (show ¬ e2a (some q) = 1000000 from nI_ne6 (by have := (hb q rfl).2.2; omega))]
      rcases hx with rfl | rfl | rfl <;> rfl
  · exact ⟨r.2, by rw [h1, ← h2.1], h2.2⟩
/-- the class decodes what it found -/
theorem rk_dec {q : Nat × Nat × Nat} (h1 : q.1 ≤ 46) (h2 : q.2.1 ≤ 40) (h3 : q.2.2 < 7) : nI (rk q) / 287 = nI q.1 ∧ (nI (rk q) / 7 - nI (rk q) / 7 / 41 * 41) = nI q.2.1 ∧ (nI (rk q) - nI (rk q) / 7 * 7 - 3) = tI q.2.2 := by
  have hr : rk q < 2 ^ 31 := by unfold rk; omega
  refine ⟨?_, ?_, ?_⟩
  · rw [show (287 : Int32) = nI 287 from rfl, pk_div hr (by omega) (by omega)]
    congr 1
    unfold rk; omega
  · rw [show (7 : Int32) = nI 7 from rfl, show (41 : Int32) = nI 41 from rfl, pk_div hr (by omega) (by omega), pk_rem (by unfold rk; omega) (by omega) (by omega)]
    congr 1
    unfold rk; omega
  · rw [show (7 : Int32) = nI 7 from rfl, pk_rem hr (by omega) (by omega)]
    unfold tI
    congr 2
    unfold rk; omega
