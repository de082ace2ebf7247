/-! PURE: PLAY, the class' walk and the reference's -/
theorem q_fill {N b : Nat} {c : PS} {bl bt : Nat → Nat} (hB : cB c b bl bt) (hN : 2000 ≤ N) : ∃ c', jm_X2_fillToGo N 17 c = some ((), c') ∧ cE c c' ∧ cT c' (Db bl bt b) b (2 ^ b - 1) ∧ c'.1 6 = c.1 6 ∧ c'.1 8 = c.1 8 := by
  have hb := hB.2.1
  have h128 := p7 hb
  have hpos : 0 < 2 ^ b := Nat.two_pow_pos b
  have e0 : ((1 : Int32) <<< (nI b &&& 31)) - 1 = nI (2 ^ b - 1) := all_all ⟨b, by omega⟩
  unfold jm_X2_fillToGo
  rw [hB.1, e0, nm_d]
  refine ex_el (iter_inv (f := fun q => jm_X2_fillToGo_L9 N 17 q.1 q.2) (fun i q => q.1 = nI (cp b i) ∧ cE c q.2 ∧ cT q.2 (Db bl bt b) b i ∧ q.2.1 6 = c.1 6 ∧ q.2.1 8 = c.1 8) (fun r => cE c r.2 ∧ cT r.2 (Db bl bt b) b (2 ^ b - 1) ∧ r.2.1 6 = c.1 6 ∧ r.2.1 8 = c.1 8) (2 ^ b - 1) (fun i s hi hI => ?_) (fun s hI => ?_) (N := N) (by omega) (s0 := (nI (2 ^ b - 1), c)) ⟨rfl, cE_r c, fun L hL => absurd hL (by omega), rfl, rfl⟩) (fun r h1 h2 => ?_)
  · obtain ⟨w3, st⟩ := s
    obtain ⟨i1, i2, i3, i4, i5⟩ := hI
    have i1 : w3 = nI (cp b i) := i1
    subst i1
    have hcp : cp b i < 128 ∧ 0 < cp b i := by unfold cp; omega
    show ∃ s', jm_X2_fillToGo_L9 N 17 (nI (cp b i)) st = some (.inl s') ∧ _
    unfold jm_X2_fillToGo_L9
    rw [if_neg (nI_nle hcp.2 (by omega))]
    have inner : ∃ r, iter (fun q => jm_X2_fillToGo_L15 N 17 (nI (cp b i)) q.1 q.2) N (0, st) = some r ∧ ∃ st', r = .inl (nI (cp b (i + 1)), st') ∧ cE c st' ∧ cT st' (Db bl bt b) b (i + 1) ∧ st'.1 6 = c.1 6 ∧ st'.1 8 = c.1 8 := by
      refine iter_inv (fun j q => q.1 = nI j ∧ cE c q.2 ∧ cT q.2 (Db bl bt b) b i ∧ (∀ x, x < j → q.2.1 7 (cp b i * 7 + x) = nI (Yv (Db bl bt b) b i x)) ∧ q.2.1 6 = c.1 6 ∧ q.2.1 8 = c.1 8) _ b (fun j s hj hI => ?_) (fun s hI => ?_) (by omega) ⟨rfl, i2, i3, fun x hx => absurd hx (by omega), i4, i5⟩
      · obtain ⟨w6, st⟩ := s
        obtain ⟨i1, i2, i3, i4, i5, i6⟩ := hI
        have i1 : w6 = nI j := i1
        have i2 : cE c st := i2
        have i3 : cT st (Db bl bt b) b i := i3
        have i4 : ∀ x, x < j → st.1 7 (cp b i * 7 + x) = nI (Yv (Db bl bt b) b i x) := i4
        have i5 : st.1 6 = c.1 6 := i5
        have i6 : st.1 8 = c.1 8 := i6
        subst i1
        have B2 := cB_E hB i2
        obtain ⟨e1, e2, e3, e4⟩ := B2.2.2 j hj
        have hD := Db_le hB
        show ∃ s', jm_X2_fillToGo_L15 N 17 (nI (cp b i)) (nI j) st = some (.inl s') ∧ _
        unfold jm_X2_fillToGo_L15
        rw [B2.1, if_neg (nle hj (by omega)), inB_nI (show j < 7 by omega) (by omega), gd_t, gd_t, cl (by omega), show (17 + 5 : Nat) = 22 from rfl, show (17 + 6 : Nat) = 23 from rfl, e1, e2, q_bestNext hD B2 i3 (by omega) (Nat.le_refl i) e3 e4 hN, bd_s, show nI (cp b i) * 7 + nI j = nI (cp b i * 7 + j) from by rw [show (7 : Int32) = nI 7 from rfl, pk_mul, nI_add], inB_nI (show cp b i * 7 + j < 896 by omega) (by omega), gd_t, nm_d, nI_1, cl (by omega)]
        have hY := Y_beat (L := i) (bl := bl) (bt := bt) hb (by omega) hj
        have fin : ∀ v, v = nI (Yv (Db bl bt b) b i j) → (nI (j + 1) = nI (j + 1) ∧ cE c (pU st 7 (cp b i * 7 + j) v) ∧ cT (pU st 7 (cp b i * 7 + j) v) (Db bl bt b) b i ∧ (∀ x, x < j + 1 → (pU st 7 (cp b i * 7 + j) v).1 7 (cp b i * 7 + x) = nI (Yv (Db bl bt b) b i x)) ∧ (pU st 7 (cp b i * 7 + j) v).1 6 = c.1 6 ∧ (pU st 7 (cp b i * 7 + j) v).1 8 = c.1 8) := by
          intro v hv
          refine ⟨rfl, cE_t i2 (cE_U _ _ (by decide)), fun L hL x hx => ?_, fun x hx => ?_, by rw [pU_n (by decide)]; exact i5, by rw [pU_n (by decide)]; exact i6⟩
          · rw [pU_1, pk_un (by unfold cp; omega)]
            exact i3 L hL x hx
          · rw [pU_1]
            by_cases e : x = j
            · subst e; rw [pk_us, hv]
            · rw [pk_un (by omega)]; exact i4 x (by omega)
        cases ho : bnF (Cq (Db bl bt b) bl bt b i (bl j, bt j)) i b with
        | none =>
          rw [show bnA none = (-9 : Int32) from rfl, if_pos rfl]
          exact ⟨_, rfl, fin 0 (by rw [hY, ho]; rfl)⟩
        | some q =>
          have hin := bnF_inv (C := Cq (Db bl bt b) bl bt b i (bl j, bt j)) (L := i) b
          rw [ho] at hin
          obtain ⟨g1, g2, g3, -, -⟩ := hin
          rw [show bnA (some q) = nI q.1 from rfl, if_neg (nI_ne9 (by omega)), q_through B2 i3 (by omega) (Nat.le_refl i) g1 g2 e3 e4, bd_s, gd_t, nm_d]
          exact ⟨_, rfl, fin _ (by rw [hY, ho, g3]; rfl)⟩
      · obtain ⟨w6, st⟩ := s
        obtain ⟨i1, i2, i3, i4, i5, i6⟩ := hI
        have i1 : w6 = nI b := i1
        have i2 : cE c st := i2
        have i3 : cT st (Db bl bt b) b i := i3
        have i4 : ∀ x, x < b → st.1 7 (cp b i * 7 + x) = nI (Yv (Db bl bt b) b i x) := i4
        subst i1
        refine ⟨.inl (nI (cp b (i + 1)), st), ?_, st, rfl, i2, fun L hL x hx => ?_, i5, i6⟩
        · show jm_X2_fillToGo_L15 N 17 (nI (cp b i)) (nI b) st = _
          unfold jm_X2_fillToGo_L15
          rw [(cB_E hB i2).1, if_pos (Int32.le_refl _), show cp b i = cp b (i + 1) + 1 by unfold cp; omega, pk_m1]
        · rcases Nat.lt_succ_iff_lt_or_eq.mp hL with z | z
          · exact i3 L z x hx
          · rw [z]; exact i4 x hx
    obtain ⟨r, hr, st', er, e1, e2, e3, e4⟩ := inner
    subst er
    exact ⟨_, hr, rfl, e1, e2, e3, e4⟩
  · obtain ⟨w3, st⟩ := s
    obtain ⟨i1, i2, i3, i4, i5⟩ := hI
    have i1 : w3 = nI (cp b (2 ^ b - 1)) := i1
    subst i1
    refine ⟨((), st), ?_, i2, i3, i4, i5⟩
    show jm_X2_fillToGo_L9 N 17 (nI (cp b (2 ^ b - 1))) st = _
    unfold jm_X2_fillToGo_L9
    rw [if_pos (by rw [show cp b (2 ^ b - 1) = 0 by unfold cp; omega]; exact Int32.le_refl _)]
  · exact ⟨r.2, by rw [h1], h2.1, h2.2.1, h2.2.2.1, h2.2.2.2⟩
/-- the way: what is left, where the bar is, how many moves -/
def sq (bl bt : Nat → Nat) (b : Nat) (p0 : Nat × Nat) : Nat → Nat × (Nat × Nat) × Nat
  | 0 => (2 ^ b - 1, p0, 0)
  | i + 1 => match bnF (Cq (Db bl bt b) bl bt b (sq bl bt b p0 i).1 (sq bl bt b p0 i).2.1) (sq bl bt b p0 i).1 b with
    | none => sq bl bt b p0 i
    | some q => (rm (sq bl bt b p0 i).1 q.1, (bl q.1, bt q.1), (sq bl bt b p0 i).2.2 + Dq bl bt (sq bl bt b p0 i).2.1 q.1)
def sqB (bl bt : Nat → Nat) (b : Nat) (p0 : Nat × Nat) (i : Nat) : Option (Nat × Nat) := bnF (Cq (Db bl bt b) bl bt b (sq bl bt b p0 i).1 (sq bl bt b p0 i).2.1) (sq bl bt b p0 i).1 b
theorem cnt_rm {L j : Nat} (hL : L < 128) (hj : j < 7) (h : L.testBit j = true) : ∀ b, b ≤ 7 → cnt (fun s => (rm L j).testBit s) b + (if j < b then 1 else 0) = cnt (fun s => L.testBit s) b
  | 0, _ => by simp [cnt]
  | b + 1, hb => by
    have ih := cnt_rm hL hj h b (by omega)
    have e := rm_tb_all ⟨L, hL⟩ ⟨j, hj⟩ ⟨b, by omega⟩
    have e : (rm L j).testBit b = (L.testBit b && decide (b ≠ j)) := e
    rw [cnt, cnt]
    simp only [e]
    by_cases z : b = j
    · subst z
      rw [if_neg (show ¬ b < b by omega)] at ih
      simp [h]; omega
    · by_cases w : j < b
      · rw [if_pos w] at ih
        rw [if_pos (show j < b + 1 by omega)]
        by_cases t : L.testBit b = true
        · simp [t, z]; omega
        · simp [t]; omega
      · rw [if_neg w] at ih
        rw [if_neg (show ¬ j < b + 1 by omega)]
        by_cases t : L.testBit b = true
        · simp [t, z]; omega
        · simp [t]; omega
theorem cnt_all : ∀ b : Fin 8, cnt (fun s => (2 ^ b.val - 1).testBit s) b.val = b.val := by decide +kernel
theorem cnt_none {P : Nat → Bool} : ∀ b, (∀ j, j < b → ¬ P j = true) → cnt P b = 0
  | 0, _ => rfl
  | b + 1, h => by rw [cnt, if_neg (h b (by omega)), cnt_none b (fun j hj => h j (by omega))]
theorem rm_lt {L j b : Nat} (h : L < 2 ^ b) : rm L j < 2 ^ b := by
  have : rm L j ≤ L := Nat.and_le_left
  omega
theorem sq_inv {b : Nat} {c : PS} {bl bt : Nat → Nat} (hB : cB c b bl bt) {p0 : Nat × Nat} (h0 : p0.1 ≤ 40 ∧ p0.2 ≤ 6) : ∀ i, i ≤ b → (sq bl bt b p0 i).1 < 2 ^ b ∧ cnt (fun s => (sq bl bt b p0 i).1.testBit s) b = b - i ∧ (sq bl bt b p0 i).2.1.1 ≤ 40 ∧ (sq bl bt b p0 i).2.1.2 ≤ 6 ∧ (sq bl bt b p0 i).2.2 + lfV (sqB bl bt b p0 i) = lfV (sqB bl bt b p0 0)
  | 0, _ => by
    have hpos : 0 < 2 ^ b := Nat.two_pow_pos b
    refine ⟨by show 2 ^ b - 1 < 2 ^ b; omega, ?_, h0.1, h0.2, by show 0 + _ = _; omega⟩
    exact cnt_all ⟨b, by have := hB.2.1; omega⟩
  | i + 1, hi => by
    obtain ⟨a1, a2, a3, a4, a5⟩ := sq_inv hB h0 i (by omega)
    have hb := hB.2.1
    have h128 := p7 hb
    have hin := bnF_inv (C := Cq (Db bl bt b) bl bt b (sq bl bt b p0 i).1 (sq bl bt b p0 i).2.1) (L := (sq bl bt b p0 i).1) b
    cases ho : bnF (Cq (Db bl bt b) bl bt b (sq bl bt b p0 i).1 (sq bl bt b p0 i).2.1) (sq bl bt b p0 i).1 b with
    | none =>
      rw [ho] at hin
      have := cnt_none (P := fun s => (sq bl bt b p0 i).1.testBit s) b hin
      omega
    | some q =>
      rw [ho] at hin
      obtain ⟨g1, g2, g3, -, -⟩ := hin
      have es : sq bl bt b p0 (i + 1) = (rm (sq bl bt b p0 i).1 q.1, (bl q.1, bt q.1), (sq bl bt b p0 i).2.2 + Dq bl bt (sq bl bt b p0 i).2.1 q.1) := by rw [sq, ho]
      obtain ⟨-, -, f3, f4⟩ := hB.2.2 q.1 g1
      have hc := cnt_rm (show (sq bl bt b p0 i).1 < 128 by omega) (show q.1 < 7 by omega) g2 b hb
      rw [if_pos g1] at hc
      have hrl := rm_lt (j := q.1) a1
      rw [es]
      refine ⟨hrl, by show cnt (fun s => (rm (sq bl bt b p0 i).1 q.1).testBit s) b = _; omega, f3, f4, ?_⟩
      have hY := Y_beat (L := rm (sq bl bt b p0 i).1 q.1) (bl := bl) (bt := bt) hb (by omega) g1
      have e2 : lfV (sqB bl bt b p0 (i + 1)) = Yv (Db bl bt b) b (rm (sq bl bt b p0 i).1 q.1) q.1 := by
        rw [hY]
        show lfV (bnF (Cq (Db bl bt b) bl bt b (sq bl bt b p0 (i + 1)).1 (sq bl bt b p0 (i + 1)).2.1) (sq bl bt b p0 (i + 1)).1 b) = _
        rw [es]
      have e3 : lfV (sqB bl bt b p0 i) = q.2 := by
        show lfV (bnF _ _ b) = _
        rw [ho]; rfl
      rw [e2]
      rw [e3] at a5
      have g3 : Dq bl bt (sq bl bt b p0 i).2.1 q.1 + Yv (Db bl bt b) b (rm (sq bl bt b p0 i).1 q.1) q.1 = q.2 := g3
      show (sq bl bt b p0 i).2.2 + Dq bl bt (sq bl bt b p0 i).2.1 q.1 + Yv (Db bl bt b) b (rm (sq bl bt b p0 i).1 q.1) q.1 = _
      omega
theorem sq_some {b : Nat} {c : PS} {bl bt : Nat → Nat} (hB : cB c b bl bt) {p0 : Nat × Nat} (h0 : p0.1 ≤ 40 ∧ p0.2 ≤ 6) {i : Nat} (hi : i < b) : ∃ q, sqB bl bt b p0 i = some q := by
  obtain ⟨-, a2, -⟩ := sq_inv hB h0 i (by omega)
  cases ho : sqB bl bt b p0 i with
  | none =>
    have hin := bnF_inv (C := Cq (Db bl bt b) bl bt b (sq bl bt b p0 i).1 (sq bl bt b p0 i).2.1) (L := (sq bl bt b p0 i).1) b
    have ho' : bnF (Cq (Db bl bt b) bl bt b (sq bl bt b p0 i).1 (sq bl bt b p0 i).2.1) (sq bl bt b p0 i).1 b = none := ho
    rw [ho'] at hin
    have := cnt_none (P := fun s => (sq bl bt b p0 i).1.testBit s) b hin
    omega
  | some q => exact ⟨q, rfl⟩
theorem q_plan {N b : Nat} {c : PS} {bl bt : Nat → Nat} {p0 : Nat × Nat} (hB : cB c b bl bt) (h0 : p0.1 ≤ 40 ∧ p0.2 ≤ 6) (hl : c.1 39 0 = nI p0.1) (ht : c.1 39 1 = tI p0.2) (hN : 2000 ≤ N) : ∃ c', jm_X2_plan N 17 38 c = some ((), c') ∧ cE c c' ∧ c'.1 6 2 = nI (lfV (sqB bl bt b p0 0)) ∧ ∀ i, i < b → c'.1 8 i = bnA (sqB bl bt b p0 i) := by
  have hb := hB.2.1
  have h128 := p7 hb
  have hpos : 0 < 2 ^ b := Nat.two_pow_pos b
  obtain ⟨c1, q1, E1, T1, -, -⟩ := q_fill hB hN
  unfold jm_X2_plan jm_X4_lift jm_X4_tilt
  rw [q1, bd_s, nm_d, bd_s, bd_s, show (38 + 1 : Nat) = 39 from rfl, pU_n (by decide), E1.1 39 (by decide), hl, ht]
  generalize hs2 : pU c1 6 2 0 = c2
  have E2 : cE c c2 := by rw [← hs2]; exact cE_t E1 (cE_U _ _ (by decide))
  have T2 : cT c2 (Db bl bt b) b (2 ^ b - 1) := fun L hL j hj => by rw [← hs2, pU_n (by decide)]; exact T1 L hL j hj
  have M2 : c2.1 6 2 = 0 := by rw [← hs2, pU_1, pk_us]
  have hD := Db_le hB
  refine ex_el (iter_inv (f := fun q => jm_X2_plan_L27 N 17 q.1 q.2.1 q.2.2.1 q.2.2.2.1 q.2.2.2.2) (fun i q => q.1 = nI (cp b (sq bl bt b p0 i).1) ∧ q.2.1 = nI (sq bl bt b p0 i).2.1.1 ∧ q.2.2.1 = tI (sq bl bt b p0 i).2.1.2 ∧ q.2.2.2.1 = nI i ∧ cE c q.2.2.2.2 ∧ cT q.2.2.2.2 (Db bl bt b) b (2 ^ b - 1) ∧ q.2.2.2.2.1 6 2 = nI (sq bl bt b p0 i).2.2 ∧ ∀ x, x < i → q.2.2.2.2.1 8 x = bnA (sqB bl bt b p0 x)) (fun r => cE c r.2 ∧ r.2.1 6 2 = nI (sq bl bt b p0 b).2.2 ∧ ∀ x, x < b → r.2.1 8 x = bnA (sqB bl bt b p0 x)) b (fun i s hi hI => ?_) (fun s hI => ?_) (N := N) (by omega) (s0 := (0, nI p0.1, tI p0.2, 0, c2)) ⟨?_, rfl, rfl, rfl, E2, T2, M2, fun x hx => absurd hx (by omega)⟩) (fun r h1 h2 => ?_)
  · obtain ⟨w9, w10, w11, w12, st⟩ := s
    obtain ⟨i1, i2, i3, i4, i5, i6, i7, i8⟩ := hI
    have i1 : w9 = nI (cp b (sq bl bt b p0 i).1) := i1
    have i2 : w10 = nI (sq bl bt b p0 i).2.1.1 := i2
    have i3 : w11 = tI (sq bl bt b p0 i).2.1.2 := i3
    have i4 : w12 = nI i := i4
    have i5 : cE c st := i5
    have i6 : cT st (Db bl bt b) b (2 ^ b - 1) := i6
    have i7 : st.1 6 2 = nI (sq bl bt b p0 i).2.2 := i7
    have i8 : ∀ x, x < i → st.1 8 x = bnA (sqB bl bt b p0 x) := i8
    subst i1 i2 i3 i4
    obtain ⟨a1, a2, a3, a4, a5⟩ := sq_inv hB h0 i (by omega)
    have B2 := cB_E hB i5
    obtain ⟨q, ho⟩ := sq_some hB h0 hi
    have ho' : bnF (Cq (Db bl bt b) bl bt b (sq bl bt b p0 i).1 (sq bl bt b p0 i).2.1) (sq bl bt b p0 i).1 b = some q := ho
    have hin := bnF_inv (C := Cq (Db bl bt b) bl bt b (sq bl bt b p0 i).1 (sq bl bt b p0 i).2.1) (L := (sq bl bt b p0 i).1) b
    rw [ho'] at hin
    obtain ⟨g1, g2, g3, -, -⟩ := hin
    have es : sq bl bt b p0 (i + 1) = (rm (sq bl bt b p0 i).1 q.1, (bl q.1, bt q.1), (sq bl bt b p0 i).2.2 + Dq bl bt (sq bl bt b p0 i).2.1 q.1) := by rw [sq, ho']
    obtain ⟨f1, f2, f3, f4⟩ := B2.2.2 q.1 g1
    have ecp := (cp_all ⟨b, by omega⟩ ⟨(sq bl bt b p0 i).1, by omega⟩ ⟨q.1, by omega⟩ a1 g1).2 g2
    have ecp : (cp b (sq bl bt b p0 i).1) ||| 2 ^ q.1 = cp b (rm (sq bl bt b p0 i).1 q.1) := ecp
    show ∃ s', jm_X2_plan_L27 N 17 (nI (cp b (sq bl bt b p0 i).1)) (nI (sq bl bt b p0 i).2.1.1) (tI (sq bl bt b p0 i).2.1.2) (nI i) st = some (.inl s') ∧ _
    unfold jm_X2_plan_L27
    rw [B2.1, if_neg (nle hi (by omega)), q_bestNext hD B2 i6 a1 (by omega) a3 a4 hN, bd_s, show bnF (Cq (Db bl bt b) bl bt b (sq bl bt b p0 i).1 ((sq bl bt b p0 i).2.1.1, (sq bl bt b p0 i).2.1.2)) (sq bl bt b p0 i).1 b = some q from ho', show bnA (some q) = nI q.1 from rfl, if_neg (nI_ne9 (by omega)), q_movesTo B2 g1 a3 a4, bd_s, nm_d, inB_nI (show i < 7 by omega) (by omega), gd_t, nm_d, inB_nI (show q.1 < 7 by omega) (by omega), gd_t, gd_t, cl (by omega), cl (by omega), show (17 + 5 : Nat) = 22 from rfl, show (17 + 6 : Nat) = 23 from rfl, pU_n (by decide), pU_n (by decide), pU_n (by decide), pU_n (by decide), f1, f2, i7, nI_add, nI_1, show ((1 : Int32) <<< (nI q.1 &&& 31)) = nI (2 ^ q.1) from b1 (by omega), nI_or, ecp]
    refine ⟨_, rfl, ?_, ?_, ?_, rfl, ?_, fun L hL j hj => ?_, ?_, fun x hx => ?_⟩
    · show _ = nI (cp b (sq bl bt b p0 (i + 1)).1); rw [es]
    · show _ = nI (sq bl bt b p0 (i + 1)).2.1.1; rw [es]
    · show _ = tI (sq bl bt b p0 (i + 1)).2.1.2; rw [es]
    · exact cE_t i5 (cE_t (cE_U _ _ (by decide)) (cE_U _ _ (by decide)))
    · show (pU (pU st 6 2 _) 8 i _).1 7 _ = _
      rw [pU_n (by decide), pU_n (by decide)]; exact i6 L hL j hj
    · show (pU (pU st 6 2 _) 8 i _).1 6 2 = _
      rw [pU_n (by decide), pU_1, pk_us, es]
    · show (pU (pU st 6 2 _) 8 i _).1 8 x = _
      rw [pU_1]
      by_cases e : x = i
      · subst e; rw [pk_us, ho]; rfl
      · rw [pk_un e, pU_n (by decide)]; exact i8 x (by omega)
  · obtain ⟨w9, w10, w11, w12, st⟩ := s
    obtain ⟨i1, i2, i3, i4, i5, i6, i7, i8⟩ := hI
    have i4 : w12 = nI b := i4
    have i5 : cE c st := i5
    subst i4
    refine ⟨((), st), ?_, i5, i7, i8⟩
    show jm_X2_plan_L27 N 17 w9 w10 w11 (nI b) st = _
    unfold jm_X2_plan_L27
    rw [(cB_E hB i5).1, if_pos (Int32.le_refl _)]
  · show (0 : Int32) = nI (cp b (2 ^ b - 1))
    rw [show cp b (2 ^ b - 1) = 0 by unfold cp; omega]; rfl
  · obtain ⟨-, -, -, -, a5⟩ := sq_inv hB h0 b (Nat.le_refl b)
    have hz : lfV (sqB bl bt b p0 b) = 0 := by
      obtain ⟨-, a2, -⟩ := sq_inv hB h0 b (Nat.le_refl b)
      have hin := bnF_inv (C := Cq (Db bl bt b) bl bt b (sq bl bt b p0 b).1 (sq bl bt b p0 b).2.1) (L := (sq bl bt b p0 b).1) b
      cases ho : sqB bl bt b p0 b with
      | none => rfl
      | some q =>
        have ho' : bnF (Cq (Db bl bt b) bl bt b (sq bl bt b p0 b).1 (sq bl bt b p0 b).2.1) (sq bl bt b p0 b).1 b = some q := ho
        rw [ho'] at hin
        obtain ⟨g1, g2, -⟩ := hin
        have : ∀ (P : Nat → Bool) (b x : Nat), x < b → P x = true → 0 < cnt P b := by
          intro P b
          induction b with
          | zero => intro x hx; omega
          | succ b ih =>
            intro x hx hp
            rw [cnt]
            rcases Nat.lt_succ_iff_lt_or_eq.mp hx with z | z
            · have := ih x z hp
              split <;> omega
            · subst z; rw [if_pos hp]; omega
        have := this (fun s => (sq bl bt b p0 b).1.testBit s) b q.1 g1 g2
        omega
    exact ⟨r.2, by rw [h1], h2.1, by rw [h2.2.1]; congr 1; omega, h2.2.2⟩
