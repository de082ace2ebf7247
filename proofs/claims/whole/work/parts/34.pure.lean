/-! PURE: what may be undone: two rings -/
def rowOk (n k : Nat) (R : Nat → Int32) : Prop := (∃ v, v ≤ 40 ∧ R 0 = nI v) ∧ (∃ t, t ≤ 6 ∧ R 1 = tI t) ∧ (∃ cu, cu < 2 ^ k ∧ R 2 = nI cu) ∧ aN n k R
def rg (p j : Nat) : Nat := (p + 9 - j) % 10
def ring (n k u p q : Nat) (f g : Nat → Int32) : Prop := ∀ j, j < u → ∃ R, rowOk n k R ∧ (∀ i, i < 21 → f (21 * rg p j + i) = R i) ∧ ∀ i, i < 21 → g (21 * rg q j + i) = R i
/-- a row laid at place p -/
def lay (f : Nat → Int32) (p : Nat) (r : Nat → Int32) : Nat → Int32 := fun i => if 21 * p ≤ i ∧ i < 21 * p + 21 then r (i - 21 * p) else f i
theorem lay_at {f r : Nat → Int32} {p i : Nat} (hi : i < 21) : lay f p r (21 * p + i) = r i := by
  unfold lay
  rw [if_pos ⟨by omega, by omega⟩, show 21 * p + i - 21 * p = i by omega]
theorem lay_off {f r : Nat → Int32} {p x i : Nat} (hi : i < 21) (h : x ≠ p) : lay f p r (21 * x + i) = f (21 * x + i) := by
  unfold lay
  rw [if_neg (by omega)]
theorem ring_add {n k u p q : Nat} {f g R rc rm : Nat → Int32} (h : ring n k u p q f g) (hu : u ≤ 10) (hp : p < 10) (hq : q < 10) (hR : rowOk n k R) (hc : rV rc R) (hm : rV rm R) : ring n k (min (u + 1) 10) ((p + 1) % 10) ((q + 1) % 10) (lay f p rc) (lay g q rm) := by
  intro j hj
  by_cases e : j = 0
  · subst e
    refine ⟨R, hR, fun i hi => ?_, fun i hi => ?_⟩
    · rw [show rg ((p + 1) % 10) 0 = p by unfold rg; omega, lay_at hi]; exact hc i hi
    · rw [show rg ((q + 1) % 10) 0 = q by unfold rg; omega, lay_at hi]; exact hm i hi
  · obtain ⟨R', h1, h2, h3⟩ := h (j - 1) (by omega)
    refine ⟨R', h1, fun i hi => ?_, fun i hi => ?_⟩
    · rw [show rg ((p + 1) % 10) j = rg p (j - 1) by unfold rg; omega, lay_off hi (by unfold rg; omega)]; exact h2 i hi
    · rw [show rg ((q + 1) % 10) j = rg q (j - 1) by unfold rg; omega, lay_off hi (by unfold rg; omega)]; exact h3 i hi
theorem ring_back {n k u p q : Nat} {f g : Nat → Int32} (h : ring n k (u + 1) p q f g) (hu : u + 1 ≤ 10) (hp : p < 10) (hq : q < 10) : ring n k u (rg p 0) (rg q 0) f g := fun j hj => by
  obtain ⟨R, h1, h2, h3⟩ := h (j + 1) (by omega)
  refine ⟨R, h1, fun i hi => ?_, fun i hi => ?_⟩
  · rw [show rg (rg p 0) j = rg p (j + 1) by unfold rg; omega]; exact h2 i hi
  · rw [show rg (rg q 0) j = rg q (j + 1) by unfold rg; omega]; exact h3 i hi
theorem m21 (a : Nat) : nI a * 21 = nI (21 * a) := by rw [show (21 : Int32) = nI 21 from rfl, pk_mul, Nat.mul_comm]
theorem m21' (a b : Nat) : 21 * nI a + nI b = nI (21 * a + b) := by rw [show (21 : Int32) = nI 21 from rfl, pk_mul, nI_add]
theorem cpB_1 {p : Nat} (hp : p < 10) : cpB 0 (nI (21 * p)) 21 21 210 = true := by
  unfold cpB
  refine decide_eq_true ⟨by decide, nI_pos (by omega), by decide, by decide, ?_⟩
  rw [cl (by omega), show ((21 : Int32)).toNatClampNeg = 21 from rfl]; omega
theorem cpB_2 {p : Nat} (hp : p < 10) : cpB (nI (21 * p)) 0 21 210 21 = true := by
  unfold cpB
  refine decide_eq_true ⟨nI_pos (by omega), by decide, by decide, ?_, by decide⟩
  rw [cl (by omega), show ((21 : Int32)).toNatClampNeg = 21 from rfl]; omega
theorem cpy_lay (f g : Nat → Int32) (p : Nat) : va_cpy f g 0 (21 * p) 21 = lay g p f := by
  funext i
  unfold lay
  by_cases h : 21 * p ≤ i ∧ i < 21 * p + 21
  · rw [if_pos h, pk_cpy_in h.1 h.2, Nat.zero_add]
  · rw [if_neg h, pk_cpy_out (by omega)]
/-- the class remembers its row -/
theorem q_remember {N u p : Nat} {c : PS} (h1 : c.1 40 1 = nI u) (hu : u ≤ 10) (h2 : c.1 40 2 = nI p) (hp : p < 10) : ∃ c', jm_X5_remember N 37 c = some ((), c') ∧ (∀ a, a ≠ 40 → a ≠ 41 → c'.1 a = c.1 a) ∧ c'.2 = c.2 ∧ c'.1 40 1 = nI (min (u + 1) 10) ∧ c'.1 40 2 = nI ((p + 1) % 10) ∧ c'.1 41 = lay (c.1 41) p (c.1 39) := by
  unfold jm_X5_remember jm_X3_add jm_X4_writeTo
  rw [show (37 + 3 : Nat) = 40 from rfl, show (40 + 1 : Nat) = 41 from rfl, show (37 + 1 + 1 : Nat) = 39 from rfl, h2, m21, cpB_1 hp, gd_t, nm_d, bd_s, cl (by omega), show ((0 : Int32)).toNatClampNeg = 0 from rfl, show ((21 : Int32)).toNatClampNeg = 21 from rfl, cpy_lay, pC_n (by decide), h2, nI_1]
  by_cases z : 10 ≤ p + 1
  · rw [if_pos (show (10 : Int32) ≤ nI (p + 1) from yle (a := 10) z (by omega)), nm_d, nm_d, nm_d, pU_1, pk_un (by decide), pC_n (by decide), h1, nI_1]
    refine ⟨_, rfl, fun a ha hb => ?_, rfl, ?_, ?_, ?_⟩
    · rw [pU_n ha, pU_n ha, pC_n hb]
    · rw [pU_1, pk_us]
      by_cases w : 10 < u + 1
      · rw [if_pos (show (10 : Int32) < nI (u + 1) from nI_lt (a := 10) w (by omega)), show min (u + 1) 10 = 10 by omega]; rfl
      · rw [if_neg (show ¬ (10 : Int32) < nI (u + 1) from nI_nlt (a := 10) (by omega) (by omega)), show min (u + 1) 10 = u + 1 by omega]
    · rw [pU_1, pk_un (by decide), pU_1, pk_us, show (p + 1) % 10 = 0 by omega]; rfl
    · rw [pU_n (by decide), pU_n (by decide), pC_1]
  · rw [if_neg (show ¬ (10 : Int32) ≤ nI (p + 1) from nle (a := 10) (by omega) (by omega)), nm_d, nm_d, nm_d, pU_1, pk_un (by decide), pC_n (by decide), h1, nI_1]
    refine ⟨_, rfl, fun a ha hb => ?_, rfl, ?_, ?_, ?_⟩
    · rw [pU_n ha, pU_n ha, pC_n hb]
    · rw [pU_1, pk_us]
      by_cases w : 10 < u + 1
      · rw [if_pos (show (10 : Int32) < nI (u + 1) from nI_lt (a := 10) w (by omega)), show min (u + 1) 10 = 10 by omega]; rfl
      · rw [if_neg (show ¬ (10 : Int32) < nI (u + 1) from nI_nlt (a := 10) (by omega) (by omega)), show min (u + 1) 10 = u + 1 by omega]
    · rw [pU_1, pk_un (by decide), pU_1, pk_us, show (p + 1) % 10 = p + 1 by omega]
    · rw [pU_n (by decide), pU_n (by decide), pC_1]
/-- a stretch copied place by place -/
theorem lay_s {f r : Nat → Int32} {p i : Nat} (hi : i < 21) : upd (fun x => if 21 * p ≤ x ∧ x < 21 * p + i then r (x - 21 * p) else f x) (21 * p + i) (r i) = fun x => if 21 * p ≤ x ∧ x < 21 * p + (i + 1) then r (x - 21 * p) else f x := by
  funext x
  by_cases e : x = 21 * p + i
  · subst e
    rw [pk_us, if_pos ⟨by omega, by omega⟩, show 21 * p + i - 21 * p = i by omega]
  · rw [pk_un e]
    by_cases h : 21 * p ≤ x ∧ x < 21 * p + i
    · rw [if_pos h, if_pos ⟨h.1, by omega⟩]
    · rw [if_neg h, if_neg (by omega)]
theorem q_remember9 {N u q : Nat} {m : PS} (h1 : m.1 0 30 = nI u) (hu : u ≤ 10) (h2 : m.1 0 31 = nI q) (hq : q < 10) (hN : 2000 ≤ N) : ∃ m', jm_X9_remember N m = some ((), m') ∧ (∀ a, a ≠ 0 → a ≠ 15 → m'.1 a = m.1 a) ∧ m'.2 = m.2 ∧ (∀ j, j ≠ 30 → j ≠ 31 → m'.1 0 j = m.1 0 j) ∧ m'.1 0 30 = nI (min (u + 1) 10) ∧ m'.1 0 31 = nI ((q + 1) % 10) ∧ m'.1 15 = lay (m.1 15) q (m.1 13) := by
  unfold jm_X9_remember
  refine ex_el (iter_inv (f := fun s => jm_X9_remember_L2 N s.1 s.2) (fun i s => s.1 = nI i ∧ (∀ a, a ≠ 15 → s.2.1 a = m.1 a) ∧ s.2.2 = m.2 ∧ s.2.1 15 = fun x => if 21 * q ≤ x ∧ x < 21 * q + i then m.1 13 (x - 21 * q) else m.1 15 x) (fun r => (∀ a, a ≠ 0 → a ≠ 15 → r.2.1 a = m.1 a) ∧ r.2.2 = m.2 ∧ (∀ j, j ≠ 30 → j ≠ 31 → r.2.1 0 j = m.1 0 j) ∧ r.2.1 0 30 = nI (min (u + 1) 10) ∧ r.2.1 0 31 = nI ((q + 1) % 10) ∧ r.2.1 15 = lay (m.1 15) q (m.1 13)) 21 (fun i s hi hI => ?_) (fun s hI => ?_) (N := N) (by omega) (s0 := (0, m)) ⟨rfl, fun _ _ => rfl, rfl, ?_⟩) (fun r h1 h2 => ?_)
  · obtain ⟨w2, st⟩ := s
    obtain ⟨i1, i2, i3, i4⟩ := hI
    have i1 : w2 = nI i := i1
    have i2 : ∀ a, a ≠ 15 → st.1 a = m.1 a := i2
    have i4 : st.1 15 = fun x => if 21 * q ≤ x ∧ x < 21 * q + i then m.1 13 (x - 21 * q) else m.1 15 x := i4
    subst i1
    show ∃ s', jm_X9_remember_L2 N (nI i) st = some (.inl s') ∧ _
    unfold jm_X9_remember_L2
    rw [if_neg (show ¬ (21 : Int32) ≤ nI i from nle (a := 21) hi (by omega)), inB_nI (show i < 21 by omega) (by omega), gd_t, i2 0 (by decide), h2, m21', inB_nI (show 21 * q + i < 210 by omega) (by omega), gd_t, nm_d, cl (by omega), cl (by omega), i2 13 (by decide), nI_1]
    refine ⟨_, rfl, rfl, fun a ha => ?_, i3, ?_⟩
    · show (pU st 15 _ _).1 a = _
      rw [pU_n ha]; exact i2 a ha
    · show (pU st 15 _ _).1 15 = _
      rw [pU_1, i4, lay_s hi]
  · obtain ⟨w2, st⟩ := s
    obtain ⟨i1, i2, i3, i4⟩ := hI
    have i1 : w2 = nI 21 := i1
    have i2 : ∀ a, a ≠ 15 → st.1 a = m.1 a := i2
    have i3 : st.2 = m.2 := i3
    have i4 : st.1 15 = fun x => if 21 * q ≤ x ∧ x < 21 * q + 21 then m.1 13 (x - 21 * q) else m.1 15 x := i4
    subst i1
    have e31 : nI (q + 1) - nI (q + 1) / 10 * 10 = nI ((q + 1) % 10) := by
      rw [show (10 : Int32) = nI 10 from rfl, pk_rem (by omega) (by omega) (by omega)]
    show ∃ r, jm_X9_remember_L2 N (nI 21) st = some (.inr r) ∧ _
    unfold jm_X9_remember_L2
    rw [if_pos (show (21 : Int32) ≤ nI 21 from Int32.le_refl _), nm_d, i2 0 (by decide), h2, nI_1, e31, pU_1, pk_un (by decide), i2 0 (by decide), h1, nm_d, nm_d]
    by_cases z : 10 ≤ u
    · rw [if_pos (show (10 : Int32) ≤ nI u from yle (a := 10) z (by omega))]
      refine ⟨_, rfl, fun a ha hb => ?_, i3, fun j h30 h31 => ?_, ?_, ?_, ?_⟩
      · show (pU (pU st 0 31 _) 0 30 _).1 a = _
        rw [pU_n ha, pU_n ha]; exact i2 a hb
      · show (pU (pU st 0 31 _) 0 30 _).1 0 j = _
        rw [pU_1, pk_un h30, pU_1, pk_un h31, i2 0 (by decide)]
      · show (pU (pU st 0 31 _) 0 30 _).1 0 30 = _
        rw [pU_1, pk_us, Int32.add_zero, show min (u + 1) 10 = u by omega]
      · show (pU (pU st 0 31 _) 0 30 _).1 0 31 = _
        rw [pU_1, pk_un (by decide), pU_1, pk_us]
      · show (pU (pU st 0 31 _) 0 30 _).1 15 = _
        rw [pU_n (by decide), pU_n (by decide), i4]; rfl
    · rw [if_neg (show ¬ (10 : Int32) ≤ nI u from nle (a := 10) (by omega) (by omega))]
      refine ⟨_, rfl, fun a ha hb => ?_, i3, fun j h30 h31 => ?_, ?_, ?_, ?_⟩
      · show (pU (pU st 0 31 _) 0 30 _).1 a = _
        rw [pU_n ha, pU_n ha]; exact i2 a hb
      · show (pU (pU st 0 31 _) 0 30 _).1 0 j = _
        rw [pU_1, pk_un h30, pU_1, pk_un h31, i2 0 (by decide)]
      · show (pU (pU st 0 31 _) 0 30 _).1 0 30 = _
        rw [pU_1, pk_us, nI_1, show min (u + 1) 10 = u + 1 by omega]
      · show (pU (pU st 0 31 _) 0 30 _).1 0 31 = _
        rw [pU_1, pk_un (by decide), pU_1, pk_us]
      · show (pU (pU st 0 31 _) 0 30 _).1 15 = _
        rw [pU_n (by decide), pU_n (by decide), i4]; rfl
  · show m.1 15 = fun x => if 21 * q ≤ x ∧ x < 21 * q + 0 then m.1 13 (x - 21 * q) else m.1 15 x
    funext x
    rw [if_neg (by omega)]
  · exact ⟨r.2, by rw [h1], h2⟩
/-- undo of the class: there is something -/
theorem q_takeBack {N u p : Nat} {c : PS} (h1 : c.1 40 1 = nI (u + 1)) (hu : u + 1 ≤ 10) (h2 : c.1 40 2 = nI p) (hp : p < 10) : ∃ c', jm_X3_takeBack N 40 38 c = some (1, c') ∧ (∀ a, a ≠ 39 → a ≠ 40 → c'.1 a = c.1 a) ∧ c'.2 = c.2 ∧ c'.1 40 1 = nI u ∧ c'.1 40 2 = nI (rg p 0) ∧ ∀ i, i < 21 → c'.1 39 i = c.1 41 (21 * rg p 0 + i) := by
  unfold jm_X3_takeBack jm_X4_readFrom
  rw [h1, if_neg (nI_ne0 (by omega) (by omega)), h2, show (38 + 1 : Nat) = 39 from rfl, show (40 + 1 : Nat) = 41 from rfl]
  have fin : ∀ c3 : PS, c3.1 40 2 = nI (rg p 0) → c3.1 41 = c.1 41 → c3.1 40 1 = nI u → (∀ a, a ≠ 40 → c3.1 a = c.1 a) → c3.2 = c.2 → ∃ c', (bd (gd (cpB (c3.1 40 2 * 21) 0 21 210 21) (nm (pC c3 39 (va_cpy (c3.1 41) (c3.1 39) (c3.1 40 2 * 21).toNatClampNeg ((0 : Int32)).toNatClampNeg ((21 : Int32)).toNatClampNeg)) (fun st1 => some ((), st1)))) (fun _ st6 => some ((1 : Int32), st6))) = some (1, c') ∧ (∀ a, a ≠ 39 → a ≠ 40 → c'.1 a = c.1 a) ∧ c'.2 = c.2 ∧ c'.1 40 1 = nI u ∧ c'.1 40 2 = nI (rg p 0) ∧ ∀ i, i < 21 → c'.1 39 i = c.1 41 (21 * rg p 0 + i) := by
    intro c3 g1 g2 g3 g4 g5
    have hr : rg p 0 < 10 := by unfold rg; omega
    rw [g1, m21, cpB_2 hr, gd_t, nm_d, bd_s, g2]
    refine ⟨_, rfl, fun a ha hb => ?_, g5, ?_, ?_, fun i hi => ?_⟩
    · rw [pC_n ha]; exact g4 a hb
    · rw [pC_n (by decide)]; exact g3
    · rw [pC_n (by decide)]; exact g1
    · rw [pC_1, show ((0 : Int32)).toNatClampNeg = 0 from rfl, show ((21 : Int32)).toNatClampNeg = 21 from rfl, cl (by omega), pk_cpy_in (by omega) (by omega), show i - 0 = i by omega]
  by_cases z : p = 0
  · subst z
    rw [if_pos (show nI 0 ≤ 0 from Int32.le_refl _), nm_d, nm_d]
    refine fin _ ?_ ?_ ?_ (fun a ha => ?_) rfl
    · rw [pU_1, pk_un (by decide), pU_1, pk_us]; rfl
    · rw [pU_n (by decide), pU_n (by decide)]
    · rw [pU_1, pk_us, pU_1, pk_un (by decide), h1, nI_pred]
    · rw [pU_n ha, pU_n ha]
  · rw [if_neg (nI_nle (by omega) (by omega)), nm_d, nm_d]
    refine fin _ ?_ ?_ ?_ (fun a ha => ?_) rfl
    · rw [pU_1, pk_un (by decide), pU_1, pk_us, show rg p 0 = p - 1 by unfold rg; omega, show p = (p - 1) + 1 by omega, nI_pred]; simp
    · rw [pU_n (by decide), pU_n (by decide)]
    · rw [pU_1, pk_us, pU_1, pk_un (by decide), h1, nI_pred]
    · rw [pU_n ha, pU_n ha]
theorem q_undo9 {N u q : Nat} {m : PS} (h1 : m.1 0 30 = nI (u + 1)) (hu : u + 1 ≤ 10) (h2 : m.1 0 31 = nI q) (hq : q < 10) (hN : 2000 ≤ N) : ∃ m', jm_X9_undo N m = some (nI u, m') ∧ (∀ a, a ≠ 0 → a ≠ 13 → m'.1 a = m.1 a) ∧ m'.2 = m.2 ∧ (∀ j, j ≠ 30 → j ≠ 31 → m'.1 0 j = m.1 0 j) ∧ m'.1 0 30 = nI u ∧ m'.1 0 31 = nI (rg q 0) ∧ ∀ i, i < 21 → m'.1 13 i = m.1 15 (21 * rg q 0 + i) := by
  have hr : rg q 0 < 10 := by unfold rg; omega
  have e1 : (((nI q + 10) - 1) - ((nI q + 10) - 1) / 10 * 10) = nI (rg q 0) := by
    rw [show nI q + 10 = nI (q + 10) from nI_add q 10, show q + 10 = (q + 9) + 1 by omega, nI_pred, show (10 : Int32) = nI 10 from rfl, pk_rem (by omega) (by omega) (by omega)]; rfl
  unfold jm_X9_undo
  rw [h1, if_neg (nI_ne0 (by omega) (by omega)), h2, e1, nm_d, nm_d, pU_1, pk_un (by decide), h1, nI_pred]
  generalize hs : pU (pU m 0 31 (nI (rg q 0))) 0 30 (nI u) = m2
  have A1 : ∀ a, a ≠ 0 → m2.1 a = m.1 a := fun a ha => by rw [← hs, pU_n ha, pU_n ha]
  have A2 : ∀ j, j ≠ 30 → j ≠ 31 → m2.1 0 j = m.1 0 j := fun j h30 h31 => by rw [← hs, pU_1, pk_un h30, pU_1, pk_un h31]
  have A3 : m2.1 0 30 = nI u := by rw [← hs, pU_1, pk_us]
  have A4 : m2.1 0 31 = nI (rg q 0) := by rw [← hs, pU_1, pk_un (by decide), pU_1, pk_us]
  have A5 : m2.2 = m.2 := by rw [← hs]; rfl
  refine ex_el (iter_inv (f := fun s => jm_X9_undo_L38 N s.1 s.2) (fun i s => s.1 = nI i ∧ (∀ a, a ≠ 13 → s.2.1 a = m2.1 a) ∧ s.2.2 = m.2 ∧ ∀ x, x < i → s.2.1 13 x = m.1 15 (21 * rg q 0 + x)) (fun r => r.1 = nI u ∧ (∀ a, a ≠ 0 → a ≠ 13 → r.2.1 a = m.1 a) ∧ r.2.2 = m.2 ∧ (∀ j, j ≠ 30 → j ≠ 31 → r.2.1 0 j = m.1 0 j) ∧ r.2.1 0 30 = nI u ∧ r.2.1 0 31 = nI (rg q 0) ∧ ∀ i, i < 21 → r.2.1 13 i = m.1 15 (21 * rg q 0 + i)) 21 (fun i s hi hI => ?_) (fun s hI => ?_) (N := N) (by omega) (s0 := (0, m2)) ⟨rfl, fun _ _ => rfl, A5, fun x hx => absurd hx (by omega)⟩) (fun r h1 h2 => ?_)
  · obtain ⟨w5, st⟩ := s
    obtain ⟨i1, i2, i3, i4⟩ := hI
    have i1 : w5 = nI i := i1
    have i2 : ∀ a, a ≠ 13 → st.1 a = m2.1 a := i2
    have i4 : ∀ x, x < i → st.1 13 x = m.1 15 (21 * rg q 0 + x) := i4
    subst i1
    show ∃ s', jm_X9_undo_L38 N (nI i) st = some (.inl s') ∧ _
    unfold jm_X9_undo_L38
    rw [if_neg (show ¬ (21 : Int32) ≤ nI i from nle (a := 21) hi (by omega)), i2 0 (by decide), A4, m21', inB_nI (show 21 * rg q 0 + i < 210 by omega) (by omega), gd_t, inB_nI (show i < 21 by omega) (by omega), gd_t, nm_d, cl (by omega), cl (by omega), i2 15 (by decide), A1 15 (by decide), nI_1]
    refine ⟨_, rfl, rfl, fun a ha => ?_, i3, fun x hx => ?_⟩
    · show (pU st 13 _ _).1 a = _
      rw [pU_n ha]; exact i2 a ha
    · show (pU st 13 _ _).1 13 x = _
      rw [pU_1]
      by_cases e : x = i
      · subst e; rw [pk_us]
      · rw [pk_un e]; exact i4 x (by omega)
  · obtain ⟨w5, st⟩ := s
    obtain ⟨i1, i2, i3, i4⟩ := hI
    have i1 : w5 = nI 21 := i1
    have i2 : ∀ a, a ≠ 13 → st.1 a = m2.1 a := i2
    subst i1
    refine ⟨(nI u, st), ?_, rfl, fun a ha hb => by rw [← A1 a ha]; exact i2 a hb, i3, fun j h30 h31 => by show st.1 0 j = _; rw [i2 0 (by decide)]; exact A2 j h30 h31, by show st.1 0 30 = _; rw [i2 0 (by decide)]; exact A3, by show st.1 0 31 = _; rw [i2 0 (by decide)]; exact A4, i4⟩
    show jm_X9_undo_L38 N (nI 21) st = _
    unfold jm_X9_undo_L38
    rw [if_pos (show (21 : Int32) ≤ nI 21 from Int32.le_refl _), i2 0 (by decide), A3]
  · exact ⟨r.2, by rw [h1, ← h2.1], h2.2⟩
