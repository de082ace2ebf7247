/-! PURE: PLAY. L the beats that are left, b how many there are -/
def rm (L j : Nat) : Nat := L &&& (127 ^^^ 2 ^ j)
def cp (b L : Nat) : Nat := 2 ^ b - 1 - L
set_option maxRecDepth 100000 in
theorem rm_all : ∀ (L : Fin 128) (j : Fin 7), (nI L.val &&& (((1 : Int32) <<< (nI j.val &&& 31)) ^^^ (-1))) = nI (rm L.val j.val) ∧ rm L.val j.val < 128 ∧ (L.val.testBit j.val = true → rm L.val j.val < L.val) := by decide +kernel
set_option maxRecDepth 100000 in
theorem rm_tb_all : ∀ (L : Fin 128) (j i : Fin 7), (rm L.val j.val).testBit i.val = (L.val.testBit i.val && decide (i.val ≠ j.val)) := by decide +kernel
set_option maxRecDepth 100000 in
theorem cp_all : ∀ (b : Fin 8) (L : Fin 128) (j : Fin 7), L.val < 2 ^ b.val → j.val < b.val → ((cp b.val L.val).testBit j.val = !L.val.testBit j.val) ∧ (L.val.testBit j.val = true → ((cp b.val L.val) ||| 2 ^ j.val) = cp b.val (rm L.val j.val)) := by decide +kernel
theorem p7 {b : Nat} (h : b ≤ 7) : 2 ^ b ≤ 128 := Nat.pow_le_pow_right (n := 2) (by omega) h
/-- the best of those that are left, by C what each costs: which, how much -/
def bnF (C : Nat → Nat) (L : Nat) : Nat → Option (Nat × Nat)
  | 0 => none
  | j + 1 => if L.testBit j = true then (match bnF C L j with | none => some (j, C j) | some q => if q.2 ≤ C j then some q else some (j, C j)) else bnF C L j
def lfV (o : Option (Nat × Nat)) : Nat := match o with
  | none => 0
  | some q => q.2
theorem bnF_congr {C C' : Nat → Nat} {L : Nat} : ∀ b, (∀ j, j < b → L.testBit j = true → C j = C' j) → bnF C L b = bnF C' L b
  | 0, _ => rfl
  | b + 1, h => by
    rw [bnF, bnF, bnF_congr b (fun j hj => h j (by omega))]
    by_cases t : L.testBit b = true
    · rw [if_pos t, if_pos t, h b (by omega) t]
    · rw [if_neg t, if_neg t]
theorem bnF_inv {C : Nat → Nat} {L : Nat} : ∀ b, match bnF C L b with
    | none => ∀ j, j < b → ¬ L.testBit j = true
    | some q => q.1 < b ∧ L.testBit q.1 = true ∧ C q.1 = q.2 ∧ (∀ j, j < b → L.testBit j = true → q.2 ≤ C j) ∧ ∀ j, j < q.1 → L.testBit j = true → q.2 < C j
  | 0 => fun j hj => absurd hj (by omega)
  | b + 1 => by
    have ih := bnF_inv (C := C) (L := L) b
    rw [bnF]
    by_cases t : L.testBit b = true
    · rw [if_pos t]
      cases hb : bnF C L b with
      | none =>
        rw [hb] at ih
        refine ⟨by show b < b + 1; omega, t, rfl, fun j hj h => ?_, fun j hj h => absurd h (ih j hj)⟩
        rcases Nat.lt_succ_iff_lt_or_eq.mp hj with z | z
        · exact absurd h (ih j z)
        · rw [z]; exact Nat.le_refl _
      | some q =>
        rw [hb] at ih
        obtain ⟨h1, h2, h3, h4, h5⟩ := ih
        by_cases z : q.2 ≤ C b
        · simp only [if_pos z]
          refine ⟨by omega, h2, h3, fun j hj h => ?_, h5⟩
          rcases Nat.lt_succ_iff_lt_or_eq.mp hj with w | w
          · exact h4 j w h
          · rw [w]; exact z
        · simp only [if_neg z]
          refine ⟨by omega, t, trivial, fun j hj h => ?_, fun j hj h => ?_⟩
          · show C b ≤ C j
            rcases Nat.lt_succ_iff_lt_or_eq.mp hj with w | w
            · have := h4 j w h; omega
            · rw [w]; exact Nat.le_refl _
          · show C b < C j
            have := h4 j hj h; omega
    · rw [if_neg t]
      cases hb : bnF C L b with
      | none =>
        rw [hb] at ih
        intro j hj
        rcases Nat.lt_succ_iff_lt_or_eq.mp hj with z | z
        · exact ih j z
        · rw [z]; exact t
      | some q =>
        rw [hb] at ih
        obtain ⟨h1, h2, h3, h4, h5⟩ := ih
        refine ⟨by omega, h2, h3, fun j hj h => ?_, h5⟩
        rcases Nat.lt_succ_iff_lt_or_eq.mp hj with w | w
        · exact h4 j w h
        · rw [w] at h; exact absurd h t
/-- the table, row by row -/
def Yt (Dp : Nat → Nat → Nat) (b : Nat) : Nat → Nat → Nat → Nat
  | 0 => fun _ _ => 0
  | i + 1 => fun L j => if L = i then lfV (bnF (fun x => Dp j x + Yt Dp b i (rm i x) x) i b) else Yt Dp b i L j
def Yv (Dp : Nat → Nat → Nat) (b L j : Nat) : Nat := Yt Dp b (L + 1) L j
theorem Yt_Y (Dp : Nat → Nat → Nat) (b : Nat) : ∀ i L j, L < i → Yt Dp b i L j = Yv Dp b L j
  | 0, L, j, h => by omega
  | i + 1, L, j, h => by
    by_cases e : L = i
    · subst e; rfl
    · show (if L = i then _ else Yt Dp b i L j) = _
      rw [if_neg e, Yt_Y Dp b i L j (by omega)]
theorem Y_eq {Dp : Nat → Nat → Nat} {b L j : Nat} (hb : b ≤ 7) (hL : L < 128) : Yv Dp b L j = lfV (bnF (fun x => Dp j x + Yv Dp b (rm L x) x) L b) := by
  show (if L = L then _ else _) = _
  rw [if_pos rfl]
  congr 1
  apply bnF_congr
  intro x hx ht
  have := (rm_all ⟨L, hL⟩ ⟨x, by omega⟩).2.2 ht
  show Dp j x + Yt Dp b L (rm L x) x = _
  rw [Yt_Y Dp b L (rm L x) x this]
theorem Yt_le {Dp : Nat → Nat → Nat} (hD : ∀ i j, Dp i j ≤ 46) (b : Nat) : ∀ i L j, Yt Dp b i L j ≤ 46 * i
  | 0, L, j => Nat.le_refl 0
  | i + 1, L, j => by
    show (if L = i then lfV (bnF (fun x => Dp j x + Yt Dp b i (rm i x) x) i b) else Yt Dp b i L j) ≤ _
    by_cases e : L = i
    · rw [if_pos e]
      have := bnF_inv (C := fun x => Dp j x + Yt Dp b i (rm i x) x) (L := i) b
      cases hb : bnF (fun x => Dp j x + Yt Dp b i (rm i x) x) i b with
      | none => exact Nat.zero_le _
      | some q =>
        rw [hb] at this
        obtain ⟨-, -, h3, -, -⟩ := this
        show q.2 ≤ _
        have h1 := hD j q.1
        have h2 := Yt_le hD b i (rm i q.1) q.1
        have h3 : Dp j q.1 + Yt Dp b i (rm i q.1) q.1 = q.2 := h3
        omega
    · rw [if_neg e]
      have := Yt_le hD b i L j
      omega
theorem Y_le {Dp : Nat → Nat → Nat} (hD : ∀ i j, Dp i j ≤ 46) {b L j : Nat} (hL : L < 128) : Yv Dp b L j ≤ 5888 := by
  have := Yt_le hD b (L + 1) L j
  unfold Yv
  omega
/-! the positions -/
def Dq (bl bt : Nat → Nat) (p : Nat × Nat) (j : Nat) : Nat := dN (bl j) p.1 + dN (bt j) p.2
theorem dN_c (a b : Nat) : dN a b = dN b a := by unfold dN; omega
/-- how the beats stand in the class, in the reference -/
def cB (c : PS) (b : Nat) (bl bt : Nat → Nat) : Prop := c.1 17 9 = nI b ∧ b ≤ 7 ∧ ∀ i, i < b → c.1 22 i = nI (bl i) ∧ c.1 23 i = tI (bt i) ∧ bl i ≤ 40 ∧ bt i ≤ 6
def mB (m : PS) (b : Nat) (bl bt : Nat → Nat) : Prop := m.1 0 20 = nI b ∧ b ≤ 7 ∧ ∀ i, i < b → m.1 10 i = nI (bl i) ∧ m.1 11 i = tI (bt i) ∧ bl i ≤ 40 ∧ bt i ≤ 6
theorem cB_E {c c' : PS} {b : Nat} {bl bt : Nat → Nat} (h : cB c b bl bt) (e : cE c c') : cB c' b bl bt := by
  obtain ⟨h1, h2, h3⟩ := h
  exact ⟨by rw [e.1 17 (by decide)]; exact h1, h2, fun i hi => by rw [e.1 22 (by decide), e.1 23 (by decide)]; exact h3 i hi⟩
theorem mB_E {c c' : PS} {b : Nat} {bl bt : Nat → Nat} (h : mB c b bl bt) (e : mE c c') : mB c' b bl bt := by
  obtain ⟨h1, h2, h3⟩ := h
  exact ⟨by rw [e.1 0 (by decide)]; exact h1, h2, fun i hi => by rw [e.1 10 (by decide), e.1 11 (by decide)]; exact h3 i hi⟩
theorem q_movesTo {N b u t j : Nat} {c : PS} {bl bt : Nat → Nat} (hB : cB c b bl bt) (hj : j < b) (hu : u ≤ 40) (ht : t ≤ 6) : jm_X2_movesTo N 17 (nI j) (nI u) (tI t) c = some (nI (Dq bl bt (u, t) j), c) := by
  obtain ⟨-, hb, h3⟩ := hB
  obtain ⟨e1, e2, e3, e4⟩ := h3 j hj
  unfold jm_X2_movesTo
  rw [inB_nI (show j < 7 by omega) (by omega), gd_t, nm_d, gd_t, nm_d, cl (by omega), show (17 + 5 : Nat) = 22 from rfl, show (17 + 6 : Nat) = 23 from rfl, e1, e2, ab_all ⟨bl j, by omega⟩ ⟨u, by omega⟩, abt_all ⟨bt j, by omega⟩ ⟨t, by omega⟩, nI_add]
  rfl
/-- row L and those below it of the class' table -/
def cT (c : PS) (Dp : Nat → Nat → Nat) (b i : Nat) : Prop := ∀ L, L < i → ∀ j, j < b → c.1 7 (cp b L * 7 + j) = nI (Yv Dp b L j)
def Cq (Dp : Nat → Nat → Nat) (bl bt : Nat → Nat) (b L : Nat) (p : Nat × Nat) (j : Nat) : Nat := Dq bl bt p j + Yv Dp b (rm L j) j
theorem Dq_le {b u t j : Nat} {c : PS} {bl bt : Nat → Nat} (hB : cB c b bl bt) (hj : j < b) (hu : u ≤ 40) (ht : t ≤ 6) : Dq bl bt (u, t) j ≤ 46 := by
  obtain ⟨-, hb, h3⟩ := hB
  obtain ⟨-, -, e3, e4⟩ := h3 j hj
  unfold Dq dN
  show bl j - u + (u - bl j) + (bt j - t + (t - bt j)) ≤ 46
  omega
theorem q_through {N b i L u t j : Nat} {c : PS} {bl bt : Nat → Nat} {Dp : Nat → Nat → Nat} (hB : cB c b bl bt) (hT : cT c Dp b i) (hL : L < 2 ^ b) (hLi : L ≤ i) (hj : j < b) (htb : L.testBit j = true) (hu : u ≤ 40) (ht : t ≤ 6) : jm_X2_through N 17 (nI (cp b L)) (nI j) (nI u) (tI t) c = some (nI (Cq Dp bl bt b L (u, t) j), c) := by
  have hb := hB.2.1
  have h128 := p7 hb
  have hr := (rm_all ⟨L, by omega⟩ ⟨j, by omega⟩).2
  have hr1 : rm L j < L := hr.2 htb
  have e1 := (cp_all ⟨b, by omega⟩ ⟨L, by omega⟩ ⟨j, by omega⟩ hL hj).2 htb
  have e1 : (cp b L) ||| 2 ^ j = cp b (rm L j) := e1
  have hcp : cp b (rm L j) < 128 := by unfold cp; omega
  unfold jm_X2_through
  rw [q_movesTo hB hj hu ht, bd_s, show ((1 : Int32) <<< (nI j &&& 31)) = nI (2 ^ j) from b1 (by omega), nI_or, e1, show nI (cp b (rm L j)) * 7 + nI j = nI (cp b (rm L j) * 7 + j) from by rw [show (7 : Int32) = nI 7 from rfl, pk_mul, nI_add], inB_nI (show cp b (rm L j) * 7 + j < 896 by omega) (by omega), gd_t, cl (by omega), hT (rm L j) (by omega) j hj, nI_add]
  rfl
def bnA (o : Option (Nat × Nat)) : Int32 := match o with
  | none => -9
  | some q => nI q.1
def bnB (o : Option (Nat × Nat)) : Int32 := match o with
  | none => 0
  | some q => nI q.2
theorem Cq_le {Dp : Nat → Nat → Nat} (hD : ∀ i j, Dp i j ≤ 46) {b u t j L : Nat} {c : PS} {bl bt : Nat → Nat} (hB : cB c b bl bt) (hL : L < 2 ^ b) (hj : j < b) (hu : u ≤ 40) (ht : t ≤ 6) : Cq Dp bl bt b L (u, t) j ≤ 6000 := by
  have h1 := Dq_le hB hj hu ht
  have hb := hB.2.1
  have h128 := p7 hb
  have h2 := Y_le hD (b := b) (j := j) (rm_all ⟨L, by omega⟩ ⟨j, by omega⟩).2.1
  have h2 : Yv Dp b (rm L j) j ≤ 5888 := h2
  unfold Cq
  omega
theorem bnF_le {C : Nat → Nat} {L M : Nat} : ∀ b, (∀ j, j < b → L.testBit j = true → C j ≤ M) → ∀ q, bnF C L b = some q → q.2 ≤ M ∧ q.1 < b := by
  intro b h q e
  have := bnF_inv (C := C) (L := L) b
  rw [e] at this
  obtain ⟨h1, h2, h3, -, -⟩ := this
  exact ⟨by rw [← h3]; exact h q.1 h1 h2, h1⟩
theorem q_bestNext {N b i L u t : Nat} {c : PS} {bl bt : Nat → Nat} {Dp : Nat → Nat → Nat} (hD : ∀ i j, Dp i j ≤ 46) (hB : cB c b bl bt) (hT : cT c Dp b i) (hL : L < 2 ^ b) (hLi : L ≤ i) (hu : u ≤ 40) (ht : t ≤ 6) (hN : 2000 ≤ N) : jm_X2_bestNext N 17 (nI (cp b L)) (nI u) (tI t) c = some (bnA (bnF (Cq Dp bl bt b L (u, t)) L b), c) := by
  have hb := hB.2.1
  have h128 := p7 hb
  unfold jm_X2_bestNext
  refine iter_for (fun j => (bnA (bnF (Cq Dp bl bt b L (u, t)) L j), bnB (bnF (Cq Dp bl bt b L (u, t)) L j), nI j, c)) b (fun j hj => ?_) ?_ (by omega)
  · show jm_X2_bestNext_L10 N 17 (nI (cp b L)) (nI u) (tI t) (bnA (bnF (Cq Dp bl bt b L (u, t)) L j)) (bnB (bnF (Cq Dp bl bt b L (u, t)) L j)) (nI j) c = some (.inl (bnA (bnF (Cq Dp bl bt b L (u, t)) L (j + 1)), bnB (bnF (Cq Dp bl bt b L (u, t)) L (j + 1)), nI (j + 1), c))
    have e0 := (cp_all ⟨b, by omega⟩ ⟨L, by omega⟩ ⟨j, by omega⟩ hL hj).1
    have e0 : (cp b L).testBit j = !L.testBit j := e0
    have hcp : cp b L < 128 := by unfold cp; omega
    have hC := Cq_le hD hB hL hj hu ht
    unfold jm_X2_bestNext_L10
    rw [hB.1, if_neg (nle hj (by omega)), nI_1, bnF]
    by_cases htb : L.testBit j = true
    · rw [if_pos ((tz (by omega) (by omega)).mpr (by rw [e0, htb]; rfl)), q_through hB hT hL hLi hj htb hu ht, bd_s, if_pos htb]
      cases hbn : bnF (Cq Dp bl bt b L (u, t)) L j with
      | none => rw [show bnA none = (-9 : Int32) from rfl, if_pos rfl]; rfl
      | some q =>
        obtain ⟨q2, q1⟩ := bnF_le (M := 6000) j (fun x hx _ => Cq_le hD hB hL (by omega) hu ht) q hbn
        rw [show bnA (some q) = nI q.1 from rfl, show bnB (some q) = nI q.2 from rfl, if_neg (nI_ne9 (by omega))]
        by_cases z : q.2 ≤ Cq Dp bl bt b L (u, t) j
        · rw [if_pos (yle z (by omega))]; simp only [if_pos z]; rfl
        · rw [if_neg (nle (by omega) (by omega))]; simp only [if_neg z]; rfl
    · rw [if_neg (fun z => htb (by have := (tz (show cp b L < 256 by omega) (show j < 8 by omega)).mp z; rw [e0] at this; simpa using this)), if_neg htb]
  · show jm_X2_bestNext_L10 N 17 (nI (cp b L)) (nI u) (tI t) (bnA (bnF (Cq Dp bl bt b L (u, t)) L b)) (bnB (bnF (Cq Dp bl bt b L (u, t)) L b)) (nI b) c = _
    unfold jm_X2_bestNext_L10
    rw [hB.1, if_pos (Int32.le_refl _)]
/-- from beat to beat -/
def Db (bl bt : Nat → Nat) (b i j : Nat) : Nat := if i < b ∧ j < b then Dq bl bt (bl i, bt i) j else 0
theorem Db_le {b : Nat} {c : PS} {bl bt : Nat → Nat} (hB : cB c b bl bt) (i j : Nat) : Db bl bt b i j ≤ 46 := by
  unfold Db
  split
  · rename_i h
    obtain ⟨-, -, e3, e4⟩ := hB.2.2 i h.1
    exact Dq_le hB h.2 e3 e4
  · omega
theorem Y_beat {b L j : Nat} {bl bt : Nat → Nat} (hb : b ≤ 7) (hL : L < 128) (hj : j < b) : Yv (Db bl bt b) b L j = lfV (bnF (Cq (Db bl bt b) bl bt b L (bl j, bt j)) L b) := by
  rw [Y_eq hb hL]
  congr 1
  apply bnF_congr
  intro x hx _
  show Db bl bt b j x + _ = _
  unfold Cq
  rw [Db, if_pos ⟨hj, hx⟩]
