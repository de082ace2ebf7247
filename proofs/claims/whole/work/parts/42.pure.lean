/-! PURE: tokens of the reference -/
def tkM (m : PS) (T : Nat → Nat) (nb b e : Nat) : Prop := m.1 0 3 = nI b ∧ m.1 0 2 = nI e ∧ b ≤ e ∧ e ≤ nb ∧ ((b = nb ∧ m.1 0 4 = -1) ∨ (b < nb ∧ Lp (T b) = true ∧ m.1 0 4 = (if e - b = 1 then nI (T b) else 0) ∧ b < e) ∨ (b < nb ∧ Fp (T b) = true ∧ nS T b e = false ∧ m.1 0 4 = 48 ∧ m.1 0 5 = nI (vN T b (e - b)) ∧ vN T b (e - b) ≤ 99) ∨ (b < nb ∧ Fp (T b) = true ∧ nS T b e = true ∧ m.1 0 4 = 0) ∨ (b < nb ∧ Lp (T b) = false ∧ Fp (T b) = false ∧ T b = 59 ∧ m.1 0 4 = 59) ∨ (b < nb ∧ Lp (T b) = false ∧ Fp (T b) = false ∧ T b ≠ 59 ∧ m.1 0 4 = 0))
theorem at0_y {T : Nat → Nat} {nb i : Nat} (h : i < nb) : at0 T nb i = T i := if_pos h
theorem at0_n {T : Nat → Nat} {nb i : Nat} (h : ¬ i < nb) : at0 T nb i = 0 := if_neg h
theorem q_letters9 {N nb b e : Nat} {T : Nat → Nat} {m : PS} (h : txM m nb T) (h2 : m.1 0 2 = nI b) (h3 : m.1 0 3 = nI b) (hb : b < nb) (hL : Lp (T b) = true) (hr : run (fun i => Lp (T i)) nb b e) (hN : 2000 ≤ N) : ∃ r : PS ⊕ (Unit × PS), iter (fun q => jm_X9_reads_L69 N (nI (T b)) q) N m = some r ∧ ∃ m', r = .inr ((), m') ∧ mX m m' ∧ tkM m' T nb b e := by
  obtain ⟨r1, r2, r3, r4⟩ := hr
  have hnb := h.2.1
  have hlt := run_lt ⟨r1, r2, r3, r4⟩ hb hL
  refine iter_inv (f := fun q => jm_X9_reads_L69 N (nI (T b)) q) (fun i st => mX m st ∧ st.1 0 3 = nI b ∧ st.1 0 2 = nI (b + i)) (fun r : PS ⊕ (Unit × PS) => ∃ m', r = .inr ((), m') ∧ mX m m' ∧ tkM m' T nb b e) (e - b) ?_ ?_ (by omega) ?_
  · rintro i st hi ⟨x, s3, s2⟩
    have tx := txM_X h x
    have hl : Lp (T (b + i)) = true := r3 (b + i) (by omega) (by omega)
    refine ⟨pU st 0 2 (nI (b + i + 1)), ?_, mX_t x (mX_U _ _ (by decide)), ?_, ?_⟩
    · show jm_X9_reads_L69 N (nI (T b)) st = _
      unfold jm_X9_reads_L69
      rw [s2, q_byteAt tx (by omega), bd_s, at0_y (by omega), q_isLet9 (tx.2.2 (b + i) (by omega)).2, bd_s, hl, if_neg (show ¬ zB true = 0 from n10), s2, nm_d, nI_1]
    · rw [pU_1, pk_un (by decide)]; exact s3
    · rw [pU_1, pk_us]; rfl
  · rintro st ⟨x, s3, s2⟩
    have tx := txM_X h x
    rw [show b + (e - b) = e by omega] at s2
    have hl : Lp (at0 T nb e) = false := by
      by_cases z : e < nb
      · rw [at0_y z]; exact r4 z
      · rw [at0_n z]; rfl
    refine ⟨.inr ((), pU st 0 4 (if e - b = 1 then nI (T b) else 0)), ?_, _, rfl, mX_t x (mX_U _ _ (by decide)), ?_, ?_, r1, r2, Or.inr (Or.inl ⟨hb, hL, ?_, hlt⟩)⟩
    · show jm_X9_reads_L69 N (nI (T b)) st = _
      unfold jm_X9_reads_L69
      rw [s2, q_byteAt tx r2, bd_s, q_isLet9 (at0_lt tx), bd_s, hl, if_pos (show zB false = 0 from rfl), s2, s3, pk_sub r1, nm_d, nm_d]
      by_cases z : e - b = 1
      · rw [if_pos (show nI (e - b) = 1 by rw [z]; rfl), if_pos z]
      · rw [if_neg (show ¬ nI (e - b) = 1 from fun q => z ((nI_eq (a := e - b) (b := 1) (by omega) (by omega)).mp q)), if_neg z]
    · rw [pU_1, pk_un (by decide)]; exact s3
    · rw [pU_1, pk_un (by decide)]; exact s2
    · rw [pU_1, pk_us]
  · exact ⟨mX_r m, h3, h2⟩
theorem q_figures9 {N nb b e : Nat} {T : Nat → Nat} {m : PS} (h : txM m nb T) (h2 : m.1 0 2 = nI b) (h3 : m.1 0 3 = nI b) (h5 : m.1 0 5 = 0) (hb : b < nb) (hF : Fp (T b) = true) (hr : run (fun i => Fp (T i)) nb b e) (hN : 2000 ≤ N) : ∃ r : PS ⊕ (Unit × PS), iter (fun q => jm_X9_reads_L133 N (nI (T b)) q) N m = some r ∧ ∃ m', r = .inr ((), m') ∧ mX m m' ∧ tkM m' T nb b e := by
  obtain ⟨r1, r2, r3, r4⟩ := hr
  have hnb := h.2.1
  have hTb := (h.2.2 b hb).2
  refine iter_inv (f := fun q => jm_X9_reads_L133 N (nI (T b)) q) (fun i st => mX m st ∧ st.1 0 3 = nI b ∧ st.1 0 2 = nI (b + i) ∧ st.1 0 5 = nI (vN T b i) ∧ vN T b i ≤ 1000) (fun r : PS ⊕ (Unit × PS) => ∃ m', r = .inr ((), m') ∧ mX m m' ∧ tkM m' T nb b e) (e - b) ?_ ?_ (by omega) ?_
  · rintro i st hi ⟨x, s3, s2, s5, hv⟩
    have tx := txM_X h x
    have hf : Fp (T (b + i)) = true := r3 (b + i) (by omega) (by omega)
    have hf' : 48 ≤ T (b + i) ∧ T (b + i) ≤ 57 := of_decide_eq_true hf
    refine ⟨pU (pU st 0 5 (nI (vN T b (i + 1)))) 0 2 (nI (b + i + 1)), ?_, mX_t x (mX_t (mX_U _ _ (by decide)) (mX_U _ _ (by decide))), ?_, ?_, ?_, ?_⟩
    · show jm_X9_reads_L133 N (nI (T b)) st = _
      unfold jm_X9_reads_L133
      rw [s2, q_byteAt tx (by omega), bd_s, at0_y (by omega), q_isDig9 (tx.2.2 (b + i) (by omega)).2, bd_s, hf, if_neg (show ¬ zB true = 0 from n10), s5, vN]
      by_cases z : vN T b i ≤ 99
      · rw [if_pos (show nI (vN T b i) ≤ 99 from yle (b := 99) z (by omega)), s2, q_byteAt tx (by omega), bd_s, at0_y (by omega), if_pos z, show (10 : Int32) = nI 10 from rfl, show (48 : Int32) = nI 48 from rfl, pk_mul, nI_add, pk_sub (by omega), nm_d, nm_d, pU_1, pk_un (by decide), s2, nI_1, show 10 * vN T b i + T (b + i) - 48 = 10 * vN T b i + (T (b + i) - 48) by omega]
      · rw [if_neg (show ¬ nI (vN T b i) ≤ 99 from nle (b := 99) (by omega) (by omega)), if_neg z, nm_d, nm_d, pU_1, pk_un (by decide), s2, nI_1]
    · rw [pU_1, pk_un (by decide), pU_1, pk_un (by decide)]; exact s3
    · rw [pU_1, pk_us]; rfl
    · rw [pU_1, pk_un (by decide), pU_1, pk_us]
    · rw [vN]; split <;> omega
  · rintro st ⟨x, s3, s2, s5, hv⟩
    have tx := txM_X h x
    rw [show b + (e - b) = e by omega] at s2
    have hl : Fp (at0 T nb e) = false := by
      by_cases z : e < nb
      · rw [at0_y z]; exact r4 z
      · rw [at0_n z]; rfl
    refine ⟨.inr ((), pU st 0 4 (if nS T b e = true then 0 else 48)), ?_, _, rfl, mX_t x (mX_U _ _ (by decide)), ?_, ?_, r1, r2, ?_⟩
    · show jm_X9_reads_L133 N (nI (T b)) st = _
      unfold jm_X9_reads_L133
      rw [s2, q_byteAt tx r2, bd_s, q_isDig9 (at0_lt tx), bd_s, hl, if_pos (show zB false = 0 from rfl), s5, s2, s3, pk_sub r1, nm_d, nm_d]
      by_cases z1 : 99 < vN T b (e - b)
      · rw [if_pos (show (99 : Int32) < nI (vN T b (e - b)) from nI_lt (a := 99) z1 (by omega)), if_pos (show nS T b e = true from decide_eq_true (Or.inr z1))]
      · rw [if_neg (show ¬ (99 : Int32) < nI (vN T b (e - b)) from nI_nlt (a := 99) (by omega) (by omega))]
        by_cases z2 : T b = 48
        · rw [if_pos (show nI (T b) = 48 by rw [z2]; rfl)]
          by_cases z3 : e - b ≤ 1
          · rw [if_pos (show nI (e - b) ≤ 1 from yle (b := 1) z3 (by omega)), if_neg (show ¬ nS T b e = true by unfold nS; rw [decide_eq_true_eq]; omega)]
          · rw [if_neg (show ¬ nI (e - b) ≤ 1 from nle (b := 1) (by omega) (by omega)), if_pos (show nS T b e = true from decide_eq_true (Or.inl ⟨z2, by omega⟩))]
        · rw [if_neg (show ¬ nI (T b) = 48 from fun q => z2 ((nI_eq (a := T b) (b := 48) (by omega) (by omega)).mp q)), if_neg (show ¬ nS T b e = true by unfold nS; rw [decide_eq_true_eq]; omega)]
    · rw [pU_1, pk_un (by decide)]; exact s3
    · rw [pU_1, pk_un (by decide)]; exact s2
    · cases hS : nS T b e with
      | true => exact Or.inr (Or.inr (Or.inr (Or.inl ⟨hb, hF, rfl, by rw [pU_1, pk_us]; rfl⟩)))
      | false =>
        have hS' := of_decide_eq_false hS
        exact Or.inr (Or.inr (Or.inl ⟨hb, hF, rfl, by rw [pU_1, pk_us]; rfl, by rw [pU_1, pk_un (by decide)]; exact s5, by omega⟩))
  · exact ⟨mX_r m, h3, h2, h5, by unfold vN; omega⟩
theorem q_reads {N nb e0 b e : Nat} {T : Nat → Nat} {m : PS} (h : txM m nb T) (h4 : m.1 0 2 = nI e0) (hb : run (fun i => decide (T i = 32)) nb e0 b) (hs : stop T nb b e) (hN : 2000 ≤ N) : ∃ m', jm_X9_reads N m = some ((), m') ∧ (mX m m' ∧ tkM m' T nb b e) := by
  obtain ⟨r1, r2, r3, r4⟩ := hb
  have hnb := h.2.1
  unfold jm_X9_reads
  refine ex_el (iter_inv (f := fun q => jm_X9_reads_L0 N q) (fun i st => mX m st ∧ st.1 0 2 = nI (e0 + i)) (fun r : Unit × PS => mX m r.2 ∧ tkM r.2 T nb b e) (b - e0) ?_ ?_ (by omega) ?_) (fun r g1 g2 => ⟨r.2, g1, g2⟩)
  · rintro i st hi ⟨x, s2⟩
    have tx := txM_X h x
    have h32 : T (e0 + i) = 32 := of_decide_eq_true (r3 (e0 + i) (by omega) (by omega))
    refine ⟨pU st 0 2 (nI (e0 + i + 1)), ?_, mX_t x (mX_U _ _ (by decide)), by rw [pU_1, pk_us]; rfl⟩
    show jm_X9_reads_L0 N st = _
    unfold jm_X9_reads_L0
    rw [s2, q_byteAt tx (by omega), bd_s, at0_y (by omega), h32, if_pos (show nI 32 = 32 from rfl), s2, nm_d, nI_1]
  · rintro st ⟨x, s2⟩
    have tx := txM_X h x
    rw [show e0 + (b - e0) = b by omega] at s2
    have n32 : ¬ nI (at0 T nb b) = 32 := by
      by_cases z : b < nb
      · rw [at0_y z]
        have n32 : ¬ T b = 32 := of_decide_eq_false (r4 z)
        have hT := (tx.2.2 b z).2
        exact fun q => n32 ((nI_eq (a := T b) (b := 32) (by omega) (by omega)).mp q)
      · rw [at0_n z]; decide
    have x2 : mX m (pU st 0 3 (nI b)) := mX_t x (mX_U _ _ (by decide))
    have z3 : (pU st 0 3 (nI b)).1 0 3 = nI b := by rw [pU_1, pk_us]
    have z2 : (pU st 0 3 (nI b)).1 0 2 = nI b := by rw [pU_1, pk_un (by decide)]; exact s2
    show ∃ r, jm_X9_reads_L0 N st = some (.inr r) ∧ _
    unfold jm_X9_reads_L0
    rw [s2, q_byteAt tx r2, bd_s, if_neg n32, s2, nm_d]
    generalize pU st 0 3 (nI b) = s at x2 z3 z2 ⊢
    have ty := txM_X h x2
    rw [z2, q_byteAt ty r2, bd_s, z2, ty.1]
    rcases hs with ⟨rfl, rfl⟩ | ⟨hb, hL, hr⟩ | ⟨hb, hL, hF, hr⟩ | ⟨hb, hL, hF, rfl⟩
    · rw [if_pos rfl, nm_d]
      refine ⟨_, rfl, mX_t x2 (mX_U _ _ (by decide)), ?_, ?_, Nat.le_refl _, Nat.le_refl _, Or.inl ⟨rfl, ?_⟩⟩
      · rw [pU_1, pk_un (by decide)]; exact z3
      · rw [pU_1, pk_un (by decide)]; exact z2
      · rw [pU_1, pk_us]
    · obtain ⟨r, g1, m', g2, g3, g4⟩ := q_letters9 (N := N) ty z2 z3 hb hL hr hN
      rw [if_neg (show ¬ nI b = nI nb from fun q => by have := (nI_eq (by omega) (by omega)).mp q; omega), at0_y hb, q_isLet9 (ty.2.2 b hb).2, bd_s, hL, if_neg (show ¬ zB true = 0 from n10), g1]
      exact ⟨((), m'), by rw [g2], mX_t x2 g3, g4⟩
    · have k5 : (pU s 0 5 0).1 0 5 = 0 := by rw [pU_1, pk_us]
      have k2 : (pU s 0 5 0).1 0 2 = nI b := by rw [pU_1, pk_un (by decide)]; exact z2
      have k3 : (pU s 0 5 0).1 0 3 = nI b := by rw [pU_1, pk_un (by decide)]; exact z3
      have kx : mX s (pU s 0 5 0) := mX_U _ _ (by decide)
      obtain ⟨r, g1, m', g2, g3, g4⟩ := q_figures9 (N := N) (txM_X ty kx) k2 k3 k5 hb hF hr hN
      rw [if_neg (show ¬ nI b = nI nb from fun q => by have := (nI_eq (by omega) (by omega)).mp q; omega), at0_y hb, q_isLet9 (ty.2.2 b hb).2, bd_s, hL, if_pos (show zB false = 0 from rfl), q_isDig9 (ty.2.2 b hb).2, bd_s, hF, if_neg (show ¬ zB true = 0 from n10), nm_d, g1]
      exact ⟨((), m'), by rw [g2], mX_t x2 (mX_t kx g3), g4⟩
    · have hT := (ty.2.2 b hb).2
      rw [if_neg (show ¬ nI b = nI nb from fun q => by have := (nI_eq (by omega) (by omega)).mp q; omega), at0_y hb, q_isLet9 hT, bd_s, hL, if_pos (show zB false = 0 from rfl), q_isDig9 hT, bd_s, hF, if_pos (show zB false = 0 from rfl), z2, nI_1, nm_d, nm_d, nm_d]
      by_cases y : T b = 59
      · rw [if_pos (show nI (T b) = 59 by rw [y]; rfl)]
        refine ⟨_, rfl, mX_t x2 (mX_t (mX_U _ _ (by decide)) (mX_U _ _ (by decide))), ?_, ?_, by omega, by omega, Or.inr (Or.inr (Or.inr (Or.inr (Or.inl ⟨hb, hL, hF, y, ?_⟩))))⟩
        · rw [pU_1, pk_un (by decide), pU_1, pk_un (by decide)]; exact z3
        · rw [pU_1, pk_un (by decide), pU_1, pk_us]
        · rw [pU_1, pk_us, y]; rfl
      · rw [if_neg (show ¬ nI (T b) = 59 from fun q => y ((nI_eq (a := T b) (b := 59) (by omega) (by omega)).mp q))]
        refine ⟨_, rfl, mX_t x2 (mX_t (mX_U _ _ (by decide)) (mX_U _ _ (by decide))), ?_, ?_, by omega, by omega, Or.inr (Or.inr (Or.inr (Or.inr (Or.inr ⟨hb, hL, hF, y, ?_⟩))))⟩
        · rw [pU_1, pk_un (by decide), pU_1, pk_un (by decide)]; exact z3
        · rw [pU_1, pk_un (by decide), pU_1, pk_us]
        · rw [pU_1, pk_us]
  · exact ⟨mX_r m, h4⟩
/-! both: the token at hand -/
def hand (c m : PS) (T : Nat → Nat) (nb : Nat) : Prop := ∃ b e, b ≤ e ∧ e ≤ nb ∧ c.1 1 3 = nI b ∧ c.1 1 4 = nI e ∧ m.1 0 3 = nI b ∧ m.1 0 2 = nI e ∧ ((b = nb ∧ c.1 1 2 = 0 ∧ m.1 0 4 = -1) ∨ (b < nb ∧ b < e ∧ c.1 1 2 = 1 ∧ 97 ≤ T b ∧ T b ≤ 122 ∧ m.1 0 4 = (if e - b = 1 then nI (T b) else 0)) ∨ (b < nb ∧ c.1 1 2 = 2 ∧ m.1 0 4 = 48 ∧ ∃ v, v ≤ 99 ∧ c.1 1 5 = nI v ∧ m.1 0 5 = nI v) ∨ (b < nb ∧ c.1 1 2 = 3 ∧ m.1 0 4 = 59) ∨ (b < nb ∧ c.1 1 2 = 4 ∧ m.1 0 4 = 0))
theorem tok {N nb e : Nat} {T : Nat → Nat} {c m : PS} (hc : txC c nb T) (hm : txM m nb T) (c4 : c.1 1 4 = nI e) (m2 : m.1 0 2 = nI e) (he : e ≤ nb) (hN : 2000 ≤ N) : ∃ c' m', jm_X6_nextToken N c = some ((), c') ∧ jm_X9_reads N m = some ((), m') ∧ cX c c' ∧ mX m m' ∧ hand c' m' T nb := by
  obtain ⟨b, hb⟩ := run_ex (fun i => decide (T i = 32)) nb (nb - e) e (by omega)
  obtain ⟨e', hs⟩ := stop_ex T hb.2.1
  obtain ⟨c', g1, g2, t1, t2, t3, t4, tt⟩ := q_next (N := N) hc c4 hb hs hN
  obtain ⟨m', k1, k2, u1, u2, u3, u4, uu⟩ := q_reads (N := N) hm m2 hb hs hN
  refine ⟨c', m', g1, k1, g2, k2, b, e', t3, t4, t1, t2, u1, u2, ?_⟩
  have hLF : Lp (T b) = true → Fp (T b) = true → False := fun a1 a2 => by
    have a1 : 97 ≤ T b ∧ T b ≤ 122 := of_decide_eq_true a1
    have a2 : 48 ≤ T b ∧ T b ≤ 57 := of_decide_eq_true a2
    omega
  rcases tt with ⟨a1, a2⟩ | ⟨a1, a2, a3, a4⟩ | ⟨a1, a2, a3, a4, a5, a6⟩ | ⟨a1, a2, a3, a4⟩ | ⟨a1, a2, a3, a4, a5⟩ | ⟨a1, a2, a3, a4, a5⟩
  · rcases uu with ⟨b1, b2⟩ | ⟨b1, b2, b3, b4⟩ | ⟨b1, b2, b3, b4, b5, b6⟩ | ⟨b1, b2, b3, b4⟩ | ⟨b1, b2, b3, b4, b5⟩ | ⟨b1, b2, b3, b4, b5⟩
    · exact Or.inl ⟨a1, a2, b2⟩
    all_goals omega
  · have a2' : 97 ≤ T b ∧ T b ≤ 122 := of_decide_eq_true a2
    rcases uu with ⟨b1, b2⟩ | ⟨b1, b2, b3, b4⟩ | ⟨b1, b2, b3, b4, b5, b6⟩ | ⟨b1, b2, b3, b4⟩ | ⟨b1, b2, b3, b4, b5⟩ | ⟨b1, b2, b3, b4, b5⟩
    · omega
    · exact Or.inr (Or.inl ⟨a1, a4, a3, a2'.1, a2'.2, b3⟩)
    · exact absurd b2 (fun q => hLF a2 q)
    · exact absurd b2 (fun q => hLF a2 q)
    · rw [a2] at b2; exact absurd b2 (by decide)
    · rw [a2] at b2; exact absurd b2 (by decide)
  · rcases uu with ⟨b1, b2⟩ | ⟨b1, b2, b3, b4⟩ | ⟨b1, b2, b3, b4, b5, b6⟩ | ⟨b1, b2, b3, b4⟩ | ⟨b1, b2, b3, b4, b5⟩ | ⟨b1, b2, b3, b4, b5⟩
    · omega
    · exact absurd a2 (fun q => hLF b2 q)
    · exact Or.inr (Or.inr (Or.inl ⟨a1, a4, b4, _, a6, a5, b5⟩))
    · rw [a3] at b3; exact absurd b3 (by decide)
    · rw [a2] at b3; exact absurd b3 (by decide)
    · rw [a2] at b3; exact absurd b3 (by decide)
  · rcases uu with ⟨b1, b2⟩ | ⟨b1, b2, b3, b4⟩ | ⟨b1, b2, b3, b4, b5, b6⟩ | ⟨b1, b2, b3, b4⟩ | ⟨b1, b2, b3, b4, b5⟩ | ⟨b1, b2, b3, b4, b5⟩
    · omega
    · exact absurd a2 (fun q => hLF b2 q)
    · rw [a3] at b3; exact absurd b3 (by decide)
    · exact Or.inr (Or.inr (Or.inr (Or.inr ⟨a1, a4, b4⟩)))
    · rw [a2] at b3; exact absurd b3 (by decide)
    · rw [a2] at b3; exact absurd b3 (by decide)
  · rcases uu with ⟨b1, b2⟩ | ⟨b1, b2, b3, b4⟩ | ⟨b1, b2, b3, b4, b5, b6⟩ | ⟨b1, b2, b3, b4⟩ | ⟨b1, b2, b3, b4, b5⟩ | ⟨b1, b2, b3, b4, b5⟩
    · omega
    · rw [a2] at b2; exact absurd b2 (by decide)
    · rw [a3] at b2; exact absurd b2 (by decide)
    · rw [a3] at b2; exact absurd b2 (by decide)
    · exact Or.inr (Or.inr (Or.inr (Or.inl ⟨a1, a5, b5⟩)))
    · exact absurd a4 b4
  · rcases uu with ⟨b1, b2⟩ | ⟨b1, b2, b3, b4⟩ | ⟨b1, b2, b3, b4, b5, b6⟩ | ⟨b1, b2, b3, b4⟩ | ⟨b1, b2, b3, b4, b5⟩ | ⟨b1, b2, b3, b4, b5⟩
    · omega
    · rw [a2] at b2; exact absurd b2 (by decide)
    · rw [a3] at b2; exact absurd b2 (by decide)
    · rw [a3] at b2; exact absurd b2 (by decide)
    · exact absurd b4 a4
    · exact Or.inr (Or.inr (Or.inr (Or.inr ⟨a1, a5, b5⟩)))
