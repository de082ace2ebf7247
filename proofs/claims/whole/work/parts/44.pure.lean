/-! PURE: the doll as it is read -/
def fG (n : Nat) (G par bone : Nat → Int32) : Prop := (∀ a, a < n → G (8 * a + a) = 0) ∧ (∀ a, a < n → ∀ l, l < n → G (8 * a + l) = G (8 * l + a)) ∧ ∀ a, a < n → ∀ l, l < a → G (8 * a + l) = bone a + G (8 * (par a).toNatClampNeg + l)
def rdL (c m : PS) (n : Nat) : Prop := c.1 27 7 = nI n ∧ m.1 0 6 = nI n ∧ n ≤ 8 ∧ (∀ l, l < n → ∃ p v w : Nat, c.1 28 l = nI p ∧ m.1 2 (3 * l) = nI p ∧ (p < l ∨ (l = 0 ∧ p = 0)) ∧ c.1 29 l = nI v ∧ m.1 2 (3 * l + 1) = nI v ∧ c.1 30 l = nI w ∧ m.1 2 (3 * l + 2) = nI w) ∧ fG n (c.1 34) (c.1 28) (c.1 29)
def rdS (c m : PS) (n k : Nat) : Prop := c.1 27 8 = nI k ∧ m.1 0 7 = nI k ∧ k ≤ 6 ∧ (∀ s, s < k → ∃ a v : Nat, a < n ∧ c.1 36 (3 + s) = nI a ∧ m.1 3 (4 * s) = nI a ∧ c.1 36 (9 + s) = m.1 3 (4 * s + 1) ∧ c.1 36 (15 + s) = m.1 3 (4 * s + 2) ∧ 0 < v ∧ v ≤ 40 ∧ c.1 31 s = nI v ∧ m.1 3 (4 * s + 3) = nI v) ∧ (∀ s, k ≤ s → s < 6 → c.1 36 (3 + s) = 0 ∧ c.1 36 (9 + s) = 0 ∧ c.1 36 (15 + s) = 0)
def rdB (c m : PS) (b : Nat) : Prop := c.1 27 9 = nI b ∧ m.1 0 8 = nI b ∧ b ≤ 7 ∧ ∀ i, i < b → ∃ u t : Nat, u ≤ 40 ∧ t ≤ 6 ∧ c.1 32 i = nI u ∧ m.1 4 (2 * i) = nI u ∧ c.1 33 i = tI t ∧ m.1 4 (2 * i + 1) = nI t
def rdU (c m : PS) (z1 z2 : Bool) : Prop := c.1 1 7 = zB z1 ∧ m.1 0 10 = zB z1 ∧ c.1 1 8 = zB z2 ∧ m.1 0 11 = zB z2 ∧ (∃ v, v ≤ 40 ∧ c.1 36 0 = nI v ∧ m.1 0 12 = nI v) ∧ (∃ t, t ≤ 6 ∧ c.1 36 1 = tI t ∧ m.1 0 13 = tI t) ∧ c.1 36 2 = 0
def zn (b : Bool) : Nat := if b = true then 1 else 0
def rdR (c m : PS) (it : Nat) : Prop := ∃ n k b z1 z2, rdL c m n ∧ rdS c m n k ∧ rdB c m b ∧ rdU c m z1 z2 ∧ m.1 0 9 = nI it ∧ it = n + k + b + zn z1 + zn z2
theorem rdL_c {c m c' m' : PS} {n : Nat} (h : rdL c m n) (h1 : c'.1 27 7 = c.1 27 7) (h2 : m'.1 0 6 = m.1 0 6) (h3 : c'.1 28 = c.1 28) (h4 : c'.1 29 = c.1 29) (h5 : c'.1 30 = c.1 30) (h6 : c'.1 34 = c.1 34) (h7 : m'.1 2 = m.1 2) : rdL c' m' n := by
  unfold rdL at h ⊢
  rw [h1, h2, h3, h4, h5, h6, h7]; exact h
theorem rdS_c {c m c' m' : PS} {n k : Nat} (h : rdS c m n k) (h1 : c'.1 27 8 = c.1 27 8) (h2 : m'.1 0 7 = m.1 0 7) (h3 : ∀ j, 3 ≤ j → c'.1 36 j = c.1 36 j) (h4 : c'.1 31 = c.1 31) (h7 : m'.1 3 = m.1 3) : rdS c' m' n k := by
  obtain ⟨a1, a2, a3, a4, a5⟩ := h
  refine ⟨by rw [h1]; exact a1, by rw [h2]; exact a2, a3, fun s hs => ?_, fun s h1 h2 => ?_⟩
  · rw [h3 _ (by omega), h3 _ (by omega), h3 _ (by omega), h4, h7]; exact a4 s hs
  · rw [h3 _ (by omega), h3 _ (by omega), h3 _ (by omega)]; exact a5 s h1 h2
theorem rdS_n {c m : PS} {n n' k : Nat} (h : rdS c m n k) (hn : n ≤ n') : rdS c m n' k := by
  obtain ⟨a1, a2, a3, a4, a5⟩ := h
  refine ⟨a1, a2, a3, fun s hs => ?_, a5⟩
  obtain ⟨a, v, b1, b2⟩ := a4 s hs
  exact ⟨a, v, by omega, b2⟩
theorem rdB_c {c m c' m' : PS} {b : Nat} (h : rdB c m b) (h1 : c'.1 27 9 = c.1 27 9) (h2 : m'.1 0 8 = m.1 0 8) (h3 : c'.1 32 = c.1 32) (h4 : c'.1 33 = c.1 33) (h7 : m'.1 4 = m.1 4) : rdB c' m' b := by
  unfold rdB at h ⊢
  rw [h1, h2, h3, h4, h7]; exact h
theorem rdU_c {c m c' m' : PS} {z1 z2 : Bool} (h : rdU c m z1 z2) (h1 : c'.1 1 7 = c.1 1 7) (h2 : c'.1 1 8 = c.1 1 8) (h3 : ∀ j, j < 3 → c'.1 36 j = c.1 36 j) (h4 : ∀ j, 10 ≤ j → j ≤ 13 → m'.1 0 j = m.1 0 j) : rdU c' m' z1 z2 := by
  unfold rdU at h ⊢
  rw [h1, h2, h3 0 (by omega), h3 1 (by omega), h3 2 (by omega), h4 10 (by omega) (by omega), h4 11 (by omega) (by omega), h4 12 (by omega) (by omega), h4 13 (by omega) (by omega)]; exact h
theorem q_addLimb {N n p : Nat} {x2 x3 : Int32} {c : PS} (h7 : c.1 27 7 = nI n) (hn : n < 8) (hp : p < n ∨ n = 0) (hN : 2000 ≤ N) : ∃ c', jm_X0_addLimb N 27 (nI p) x2 x3 c = some ((), c') ∧ (c'.1 27 7 = nI (n + 1) ∧ (∀ j, j ≠ 7 → c'.1 27 j = c.1 27 j) ∧ c'.1 28 = upd (c.1 28) n (nI p) ∧ c'.1 29 = upd (c.1 29) n x2 ∧ c'.1 30 = upd (c.1 30) n x3 ∧ (∀ a, a ∉ ([27, 28, 29, 30, 34] : List Nat) → c'.1 a = c.1 a) ∧ c'.2 = c.2 ∧ (∀ a, a < n → ∀ l, l < n → c'.1 34 (8 * a + l) = c.1 34 (8 * a + l)) ∧ (∀ l, l < n → c'.1 34 (8 * n + l) = x2 + c.1 34 (8 * p + l) ∧ c'.1 34 (8 * l + n) = x2 + c.1 34 (8 * p + l)) ∧ c'.1 34 (8 * n + n) = 0) := by
  unfold jm_X0_addLimb
  rw [h7, inB_nI hn (by omega), gd_t, nm_d, gd_t, nm_d, gd_t, nm_d, nm_d, cl (by omega), show 27 + 1 = 28 from rfl, show 27 + 2 = 29 from rfl, show 27 + 3 = 30 from rfl]
  refine ex_el (iter_inv (f := fun q => jm_X0_addLimb_L33 N 27 (nI p) x2 (nI n) q.1 q.2) (fun i s => s.1 = nI i ∧ s.2.1 27 = c.1 27 ∧ s.2.1 28 = upd (c.1 28) n (nI p) ∧ s.2.1 29 = upd (c.1 29) n x2 ∧ s.2.1 30 = upd (c.1 30) n x3 ∧ (∀ a, a ∉ ([27, 28, 29, 30, 34] : List Nat) → s.2.1 a = c.1 a) ∧ s.2.2 = c.2 ∧ (∀ a, a < n → ∀ l, l < n → s.2.1 34 (8 * a + l) = c.1 34 (8 * a + l)) ∧ (∀ l, l < i → s.2.1 34 (8 * n + l) = x2 + c.1 34 (8 * p + l) ∧ s.2.1 34 (8 * l + n) = x2 + c.1 34 (8 * p + l))) (fun r : Unit × PS => r.2.1 27 7 = nI (n + 1) ∧ (∀ j, j ≠ 7 → r.2.1 27 j = c.1 27 j) ∧ r.2.1 28 = upd (c.1 28) n (nI p) ∧ r.2.1 29 = upd (c.1 29) n x2 ∧ r.2.1 30 = upd (c.1 30) n x3 ∧ (∀ a, a ∉ ([27, 28, 29, 30, 34] : List Nat) → r.2.1 a = c.1 a) ∧ r.2.2 = c.2 ∧ (∀ a, a < n → ∀ l, l < n → r.2.1 34 (8 * a + l) = c.1 34 (8 * a + l)) ∧ (∀ l, l < n → r.2.1 34 (8 * n + l) = x2 + c.1 34 (8 * p + l) ∧ r.2.1 34 (8 * l + n) = x2 + c.1 34 (8 * p + l)) ∧ r.2.1 34 (8 * n + n) = 0) n ?_ ?_ (by omega) ?_) (fun r g1 g2 => ⟨r.2, g1, g2⟩)
  · rintro i ⟨w, st⟩ hi ⟨rfl, a1, a2, a3, a4, a5, a6, a7, a8⟩
    have hpn : p < n := by omega
    refine ⟨(nI (i + 1), pU (pU st 34 (8 * n + i) (x2 + c.1 34 (8 * p + i))) 34 (8 * i + n) (x2 + c.1 34 (8 * p + i))), ?_, rfl, ?_, ?_, ?_, ?_, fun a ha => ?_, a6, fun a ha l hl => ?_, fun l hl => ⟨?_, ?_⟩⟩
    · show jm_X0_addLimb_L33 N 27 (nI p) x2 (nI n) (nI i) st = _
      unfold jm_X0_addLimb_L33 jm_X0_apart
      rw [if_neg (nle hi (by omega)), m8, m8, m8, inB_nI (show 8 * p + i < 64 by omega) (by omega), gd_t, bd_s, inB_nI (show 8 * n + i < 64 by omega) (by omega), gd_t, nm_d, inB_nI (show 8 * i + n < 64 by omega) (by omega), gd_t, nm_d, cl (by omega), cl (by omega), cl (by omega), nI_1, show 27 + 7 = 34 from rfl, a7 p hpn i hi]
    · rw [pU_n (by decide), pU_n (by decide)]; exact a1
    · rw [pU_n (by decide), pU_n (by decide)]; exact a2
    · rw [pU_n (by decide), pU_n (by decide)]; exact a3
    · rw [pU_n (by decide), pU_n (by decide)]; exact a4
    · have : ¬ a = 34 := fun e => ha (by rw [e]; decide)
      rw [pU_n this, pU_n this]; exact a5 a ha
    · rw [pU_1, pk_un (by omega), pU_1, pk_un (by omega)]; exact a7 a ha l hl
    · rw [pU_1, pk_un (by omega), pU_1]
      by_cases e : l = i
      · subst e; rw [pk_us]
      · rw [pk_un (by omega)]; exact (a8 l (by omega)).1
    · rw [pU_1]
      by_cases e : l = i
      · subst e; rw [pk_us]
      · rw [pk_un (by omega), pU_1, pk_un (by omega)]; exact (a8 l (by omega)).2
  · rintro ⟨w, st⟩ ⟨rfl, a1, a2, a3, a4, a5, a6, a7, a8⟩
    refine ⟨((), pU (pU st 34 (8 * n + n) 0) 27 7 (nI (n + 1))), ?_, ?_, fun j hj => ?_, ?_, ?_, ?_, fun a ha => ?_, a6, fun a ha l hl => ?_, fun l hl => ⟨?_, ?_⟩, ?_⟩
    · show jm_X0_addLimb_L33 N 27 (nI p) x2 (nI n) (nI n) st = _
      unfold jm_X0_addLimb_L33
      rw [if_pos (yle (Nat.le_refl _) (by omega)), m8, inB_nI (show 8 * n + n < 64 by omega) (by omega), gd_t, nm_d, nm_d, cl (by omega), pU_n (by decide), a1, h7, nI_1]
    · rw [pU_1, pk_us]
    · rw [pU_1, pk_un hj, pU_n (by decide), a1]
    · rw [pU_n (by decide), pU_n (by decide)]; exact a2
    · rw [pU_n (by decide), pU_n (by decide)]; exact a3
    · rw [pU_n (by decide), pU_n (by decide)]; exact a4
    · have h1 : ¬ a = 34 := fun e => ha (by rw [e]; decide)
      have h2 : ¬ a = 27 := fun e => ha (by rw [e]; decide)
      rw [pU_n h2, pU_n h1]; exact a5 a ha
    · rw [pU_n (by decide), pU_1, pk_un (by omega)]; exact a7 a ha l hl
    · rw [pU_n (by decide), pU_1, pk_un (by omega)]; exact (a8 l hl).1
    · rw [pU_n (by decide), pU_1, pk_un (by omega)]; exact (a8 l hl).2
    · rw [pU_n (by decide), pU_1, pk_us]
  · refine ⟨rfl, ?_, ?_, ?_, ?_, fun a ha => ?_, rfl, fun a ha l hl => ?_, fun l hl => absurd hl (by omega)⟩
    · rw [pU_n (by decide), pU_n (by decide), pU_n (by decide)]
    · rw [pU_n (by decide), pU_n (by decide), pU_1]
    · rw [pU_n (by decide), pU_1, pU_n (by decide)]
    · rw [pU_1, pU_n (by decide), pU_n (by decide)]
    · have h1 : ¬ a = 28 := fun e => ha (by rw [e]; decide)
      have h2 : ¬ a = 29 := fun e => ha (by rw [e]; decide)
      have h3 : ¬ a = 30 := fun e => ha (by rw [e]; decide)
      rw [pU_n h3, pU_n h2, pU_n h1]
    · rw [pU_n (by decide), pU_n (by decide), pU_n (by decide)]
theorem fG_add {n p : Nat} {G G' par bone par' bone' : Nat → Int32} {x2 : Int32} (h : fG n G par bone) (hp : p < n ∨ n = 0) (hpl : ∀ l, l < n → ∃ q : Nat, par l = nI q ∧ (q < l ∨ (l = 0 ∧ q = 0))) (hn : n < 8) (e1 : par' = upd par n (nI p)) (e2 : bone' = upd bone n x2) (g1 : ∀ a, a < n → ∀ l, l < n → G' (8 * a + l) = G (8 * a + l)) (g2 : ∀ l, l < n → G' (8 * n + l) = x2 + G (8 * p + l) ∧ G' (8 * l + n) = x2 + G (8 * p + l)) (g3 : G' (8 * n + n) = 0) : fG (n + 1) G' par' bone' := by
  obtain ⟨h1, h2, h3⟩ := h
  refine ⟨fun a ha => ?_, fun a ha l hl => ?_, fun a ha l hl => ?_⟩
  · by_cases z : a = n
    · rw [z]; exact g3
    · rw [g1 a (by omega) a (by omega)]; exact h1 a (by omega)
  · by_cases z : a = n
    · by_cases y : l = n
      · rw [z, y]
      · rw [z, (g2 l (by omega)).1, (g2 l (by omega)).2]
    · by_cases y : l = n
      · rw [y, (g2 a (by omega)).1, (g2 a (by omega)).2]
      · rw [g1 a (by omega) l (by omega), g1 l (by omega) a (by omega)]; exact h2 a (by omega) l (by omega)
  · by_cases z : a = n
    · rw [z, (g2 l (by omega)).1, e1, e2, pk_us, pk_us, cl (by omega), g1 p (by omega) l (by omega)]
    · obtain ⟨q, eq, hq⟩ := hpl a (by omega)
      rw [e1, e2, pk_un z, pk_un z, g1 a (by omega) l (by omega), h3 a (by omega) l hl, eq, cl (by omega), g1 q (by omega) l (by omega)]
theorem hand_c {c c' m : PS} {T : Nat → Nat} {nb : Nat} (h : hand c m T nb) (x : ∀ j, 2 ≤ j → j ≤ 5 → c'.1 1 j = c.1 1 j) : hand c' m T nb := by
  unfold hand at h ⊢
  rw [x 2 (by omega) (by omega), x 3 (by omega) (by omega), x 4 (by omega) (by omega), x 5 (by omega) (by omega)]; exact h
theorem fin {N nb : Nat} {v : Int32} {c m : PS} {T : Nat → Nat} (hp : pre c m T nb) (hN : 2000 ≤ N) : ∃ c2 m2, jm_X6_nextToken N c = some ((), c2) ∧ jm_X9_reads N (pU m 0 9 v) = some ((), m2) ∧ hand c2 m2 T nb ∧ cX c c2 ∧ mX (pU m 0 9 v) m2 ∧ txC c2 nb T ∧ txM m2 nb T := by
  obtain ⟨hc, hm, e, he, c4, m2⟩ := hp
  have hm' : txM (pU m 0 9 v) nb T := by
    unfold txM at hm ⊢
    rw [pU_1, pk_un (by decide), pU_n (by decide)]; exact hm
  obtain ⟨c1, m1, g1, g2, g3, g4, g5⟩ := tok (N := N) hc hm' c4 (by rw [pU_1, pk_un (by decide)]; exact m2) he hN
  exact ⟨c1, m1, g1, g2, g5, g3, g4, txC_X hc g3, txM_X hm' g4⟩
def itemR (N : Nat) (c m : PS) (T : Nat → Nat) (nb it : Nat) (rd8 rd9 : Option (Int32 × PS)) : Prop := (∃ c1 m1, rd8 = some (0, c1) ∧ rd9 = some (0, m1) ∧ hand c1 m1 T nb ∧ cF c c1 ∧ mF m m1) ∨ (∃ c1 m0 m1, rd8 = some (1, c1) ∧ rd9 = some (1, m0) ∧ jm_X9_reads N (pU m0 0 9 (m0.1 0 9 + 1)) = some ((), m1) ∧ hand c1 m1 T nb ∧ rdR c1 m1 (it + 1) ∧ txC c1 nb T ∧ txM m1 nb T ∧ cF c c1 ∧ mF m m1)
theorem pre_U {c m : PS} {T : Nat → Nat} {nb j : Nat} {v : Int32} (h : pre c m T nb) (h0 : j ≠ 0) (h2 : j ≠ 2) : pre c (pU m 0 j v) T nb := by
  obtain ⟨hc, hm, e, he, c4, m2⟩ := h
  refine ⟨hc, ?_, e, he, c4, by rw [pU_1, pk_un (Ne.symm h2)]; exact m2⟩
  unfold txM at hm ⊢
  rw [pU_1, pk_un (Ne.symm h0), pU_n (by decide)]; exact hm
