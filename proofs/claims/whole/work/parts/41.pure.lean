/-! PURE: tokens -/
def run (P : Nat → Bool) (nb e b : Nat) : Prop := e ≤ b ∧ b ≤ nb ∧ (∀ i, e ≤ i → i < b → P i = true) ∧ (b < nb → P b = false)
theorem run_ex (P : Nat → Bool) (nb : Nat) : ∀ k e, e + k = nb → ∃ b, run P nb e b
  | 0, e, h => ⟨e, Nat.le_refl _, by omega, fun i h1 h2 => absurd h1 (by omega), fun h1 => absurd h1 (by omega)⟩
  | k + 1, e, h => by
    by_cases z : P e = true
    · obtain ⟨b, h1, h2, h3, h4⟩ := run_ex P nb k (e + 1) (by omega)
      refine ⟨b, by omega, h2, fun i g1 g2 => ?_, h4⟩
      by_cases y : i = e
      · rw [y]; exact z
      · exact h3 i (by omega) g2
    · exact ⟨e, Nat.le_refl _, by omega, fun i h1 h2 => absurd h1 (by omega), fun _ => by simpa using z⟩
def txC (c : PS) (nb : Nat) (T : Nat → Nat) : Prop := c.1 1 1 = nI nb ∧ nb ≤ 170 ∧ ∀ i, i < nb → c.1 2 i = nI (T i) ∧ T i < 256
def txM (m : PS) (nb : Nat) (T : Nat → Nat) : Prop := m.1 0 0 = nI nb ∧ nb ≤ 170 ∧ ∀ i, i < nb → m.1 1 i = nI (T i) ∧ T i < 256
def cX (c c' : PS) : Prop := (∀ a, a ≠ 1 → c'.1 a = c.1 a) ∧ c'.2 = c.2 ∧ ∀ j, j ∉ ([2, 3, 4, 5] : List Nat) → c'.1 1 j = c.1 1 j
def mX (c c' : PS) : Prop := (∀ a, a ≠ 0 → c'.1 a = c.1 a) ∧ c'.2 = c.2 ∧ ∀ j, j ∉ ([2, 3, 4, 5] : List Nat) → c'.1 0 j = c.1 0 j
theorem cX_r (c : PS) : cX c c := ⟨fun _ _ => rfl, rfl, fun _ _ => rfl⟩
theorem mX_r (c : PS) : mX c c := ⟨fun _ _ => rfl, rfl, fun _ _ => rfl⟩
theorem cX_t {a b c : PS} (h1 : cX a b) (h2 : cX b c) : cX a c := ⟨fun x hx => (h2.1 x hx).trans (h1.1 x hx), h2.2.1.trans h1.2.1, fun j hj => (h2.2.2 j hj).trans (h1.2.2 j hj)⟩
theorem mX_t {a b c : PS} (h1 : mX a b) (h2 : mX b c) : mX a c := ⟨fun x hx => (h2.1 x hx).trans (h1.1 x hx), h2.2.1.trans h1.2.1, fun j hj => (h2.2.2 j hj).trans (h1.2.2 j hj)⟩
theorem cX_U (c : PS) {j : Nat} (v : Int32) (hj : j ∈ ([2, 3, 4, 5] : List Nat)) : cX c (pU c 1 j v) := ⟨fun _ h => pU_n h, rfl, fun i hi => by rw [pU_1, pk_un (show i ≠ j from fun e => hi (by rw [e]; exact hj))]⟩
theorem mX_U (c : PS) {j : Nat} (v : Int32) (hj : j ∈ ([2, 3, 4, 5] : List Nat)) : mX c (pU c 0 j v) := ⟨fun _ h => pU_n h, rfl, fun i hi => by rw [pU_1, pk_un (show i ≠ j from fun e => hi (by rw [e]; exact hj))]⟩
theorem txC_X {c c' : PS} {nb : Nat} {T : Nat → Nat} (h : txC c nb T) (x : cX c c') : txC c' nb T := by
  unfold txC at h ⊢
  rw [x.2.2 1 (by decide), x.1 2 (by decide)]; exact h
theorem txM_X {c c' : PS} {nb : Nat} {T : Nat → Nat} (h : txM c nb T) (x : mX c c') : txM c' nb T := by
  unfold txM at h ⊢
  rw [x.2.2 0 (by decide), x.1 1 (by decide)]; exact h
def Lp (v : Nat) : Bool := decide (97 ≤ v ∧ v ≤ 122)
def Fp (v : Nat) : Bool := decide (48 ≤ v ∧ v ≤ 57)
theorem q_isLet {N nb i : Nat} {T : Nat → Nat} {c : PS} (h : txC c nb T) (hi : i < nb) : jm_X6_isLetter N (nI i) c = some (zB (Lp (T i)), c) := by
  obtain ⟨-, h2, h3⟩ := h
  obtain ⟨h4, h5⟩ := h3 i hi
  unfold jm_X6_isLetter
  rw [inB_nI (show i < 170 by omega) (by omega), gd_t, gd_t, cl (by omega), h4]
  by_cases a : 97 ≤ T i
  · rw [if_neg (show ¬ nI (T i) < 97 from nI_nlt (b := 97) a (by omega))]
    by_cases b : T i ≤ 122
    · rw [if_neg (show ¬ (122 : Int32) < nI (T i) from nI_nlt (a := 122) b (by omega)), show Lp (T i) = true from decide_eq_true ⟨a, b⟩]; rfl
    · rw [if_pos (show (122 : Int32) < nI (T i) from nI_lt (a := 122) (by omega) (by omega)), show Lp (T i) = false from decide_eq_false (fun e => b e.2)]; rfl
  · rw [if_pos (show nI (T i) < 97 from nI_lt (b := 97) (by omega) (by omega)), show Lp (T i) = false from decide_eq_false (fun e => a e.1)]; rfl
theorem q_isDig {N nb i : Nat} {T : Nat → Nat} {c : PS} (h : txC c nb T) (hi : i < nb) : jm_X6_isDigit N (nI i) c = some (zB (Fp (T i)), c) := by
  obtain ⟨-, h2, h3⟩ := h
  obtain ⟨h4, h5⟩ := h3 i hi
  unfold jm_X6_isDigit
  rw [inB_nI (show i < 170 by omega) (by omega), gd_t, gd_t, cl (by omega), h4]
  by_cases a : 48 ≤ T i
  · rw [if_neg (show ¬ nI (T i) < 48 from nI_nlt (b := 48) a (by omega))]
    by_cases b : T i ≤ 57
    · rw [if_neg (show ¬ (57 : Int32) < nI (T i) from nI_nlt (a := 57) b (by omega)), show Fp (T i) = true from decide_eq_true ⟨a, b⟩]; rfl
    · rw [if_pos (show (57 : Int32) < nI (T i) from nI_lt (a := 57) (by omega) (by omega)), show Fp (T i) = false from decide_eq_false (fun e => b e.2)]; rfl
  · rw [if_pos (show nI (T i) < 48 from nI_lt (b := 48) (by omega) (by omega)), show Fp (T i) = false from decide_eq_false (fun e => a e.1)]; rfl
theorem q_isLet9 {N v : Nat} {m : PS} (hv : v < 256) : jm_X9_isLetter N (nI v) m = some (zB (Lp v), m) := by
  unfold jm_X9_isLetter
  by_cases a : 97 ≤ v ∧ v ≤ 122
  · rw [in_y (show ¬ nI v < 97 from nI_nlt (b := 97) a.1 (by omega)) (show ¬ (122 : Int32) < nI v from nI_nlt (a := 122) a.2 (by omega)), show Lp v = true from decide_eq_true a]; rfl
  · rw [in_n (show nI v < 97 ∨ (122 : Int32) < nI v by
      by_cases b : 97 ≤ v
      · exact Or.inr (nI_lt (a := 122) (by omega) (by omega))
      · exact Or.inl (nI_lt (b := 97) (by omega) (by omega))), show Lp v = false from decide_eq_false a]; rfl
theorem q_isDig9 {N v : Nat} {m : PS} (hv : v < 256) : jm_X9_isFigure N (nI v) m = some (zB (Fp v), m) := by
  unfold jm_X9_isFigure
  by_cases a : 48 ≤ v ∧ v ≤ 57
  · rw [in_y (show ¬ nI v < 48 from nI_nlt (b := 48) a.1 (by omega)) (show ¬ (57 : Int32) < nI v from nI_nlt (a := 57) a.2 (by omega)), show Fp v = true from decide_eq_true a]; rfl
  · rw [in_n (show nI v < 48 ∨ (57 : Int32) < nI v by
      by_cases b : 48 ≤ v
      · exact Or.inr (nI_lt (a := 57) (by omega) (by omega))
      · exact Or.inl (nI_lt (b := 48) (by omega) (by omega))), show Fp v = false from decide_eq_false a]; rfl
def at0 (T : Nat → Nat) (nb i : Nat) : Nat := if i < nb then T i else 0
theorem at0_lt {T : Nat → Nat} {nb i : Nat} {m : PS} (h : txM m nb T) : at0 T nb i < 256 := by
  unfold at0
  split
  · rename_i g; exact (h.2.2 i g).2
  · omega
theorem q_byteAt {N nb i : Nat} {T : Nat → Nat} {m : PS} (h : txM m nb T) (hi : i ≤ nb) : jm_X9_byteAt N (nI i) m = some (nI (at0 T nb i), m) := by
  obtain ⟨h1, h2, h3⟩ := h
  unfold jm_X9_byteAt at0
  rw [h1]
  by_cases z : i < nb
  · rw [if_neg (nle z (by omega)), inB_nI (show i < 170 by omega) (by omega), gd_t, cl (by omega), (h3 i z).1, if_pos z]
  · rw [if_pos (yle (by omega) (by omega)), if_neg z]; rfl
/-! the class: letters -/
theorem q_takeLetters {N nb b e : Nat} {T : Nat → Nat} {c : PS} (h : txC c nb T) (h4 : c.1 1 4 = nI b) (hr : run (fun i => Lp (T i)) nb b e) (hN : 2000 ≤ N) : ∃ c', jm_X6_takeLetters N c = some ((), c') ∧ (cX c c' ∧ c'.1 1 2 = 1 ∧ c'.1 1 3 = c.1 1 3 ∧ c'.1 1 4 = nI e ∧ c'.1 1 5 = c.1 1 5) := by
  obtain ⟨r1, r2, r3, r4⟩ := hr
  have hnb := h.2.1
  unfold jm_X6_takeLetters
  rw [nm_d]
  refine ex_el (iter_inv (f := fun q => jm_X6_takeLetters_L5 N q) (fun i st => cX c st ∧ st.1 1 2 = 1 ∧ st.1 1 3 = c.1 1 3 ∧ st.1 1 4 = nI (b + i) ∧ st.1 1 5 = c.1 1 5) (fun r : Unit × PS => cX c r.2 ∧ r.2.1 1 2 = 1 ∧ r.2.1 1 3 = c.1 1 3 ∧ r.2.1 1 4 = nI e ∧ r.2.1 1 5 = c.1 1 5) (e - b) ?_ ?_ (by omega) ?_) (fun r g1 g2 => ⟨r.2, g1, g2⟩)
  · rintro i st hi ⟨x, s2, s3, s4, s5⟩
    have tx := txC_X h x
    refine ⟨pU st 1 4 (nI (b + i + 1)), ?_, cX_t x (cX_U _ _ (by decide)), ?_, ?_, ?_, ?_⟩
    · show jm_X6_takeLetters_L5 N st = _
      unfold jm_X6_takeLetters_L5
      rw [tx.1, s4, if_neg (nle (show b + i < nb by omega) (by omega)), q_isLet tx (by omega), bd_s, show Lp (T (b + i)) = true from r3 (b + i) (by omega) (by omega), if_neg (show ¬ zB true = 0 from n10), nm_d, s4, nI_1]
    · rw [pU_1, pk_un (by decide)]; exact s2
    · rw [pU_1, pk_un (by decide)]; exact s3
    · rw [pU_1, pk_us]; rfl
    · rw [pU_1, pk_un (by decide)]; exact s5
  · rintro st ⟨x, s2, s3, s4, s5⟩
    have tx := txC_X h x
    rw [show b + (e - b) = e by omega] at s4
    refine ⟨((), st), ?_, x, s2, s3, s4, s5⟩
    show jm_X6_takeLetters_L5 N st = _
    unfold jm_X6_takeLetters_L5
    rw [tx.1, s4]
    by_cases z : e < nb
    · rw [if_neg (nle z (by omega)), q_isLet tx z, bd_s, show Lp (T e) = false from r4 z, if_pos (show zB false = 0 from rfl)]
    · rw [if_pos (yle (by omega) (by omega))]
  · exact ⟨cX_U _ _ (by decide), by rw [pU_1, pk_us], by rw [pU_1, pk_un (by decide)], by rw [pU_1, pk_un (by decide), h4]; rfl, by rw [pU_1, pk_un (by decide)]⟩
/-! the class: numbers -/
def vN (T : Nat → Nat) (b : Nat) : Nat → Nat
  | 0 => 0
  | j + 1 => if vN T b j ≤ 99 then 10 * vN T b j + (T (b + j) - 48) else vN T b j
theorem vN_le {T : Nat → Nat} {b : Nat} (h : ∀ i, T i < 256) : ∀ j, vN T b j ≤ 1300
  | 0 => by unfold vN; omega
  | j + 1 => by
    have ih := vN_le (b := b) h j
    have := h (b + j)
    rw [vN]; split <;> omega
def nS (T : Nat → Nat) (b e : Nat) : Bool := decide ((T b = 48 ∧ 1 < e - b) ∨ 99 < vN T b (e - b))
theorem tn_tail {nb b e v : Nat} {T : Nat → Nat} {st : PS} (h : txC st nb T) (hb : b < nb) (hbe : b ≤ e) (he : e ≤ nb) (hv : v ≤ 1000) (s3 : st.1 1 3 = nI b) (s4 : st.1 1 4 = nI e) (s5 : st.1 1 5 = nI v) : (gd (inB (st.1 1 3) 170) (if (st.1 2 ((st.1 1 3)).toNatClampNeg) = (48 : Int32) then (if ((st.1 1 4) - (st.1 1 3)) ≤ (1 : Int32) then (if (st.1 1 5) ≤ (99 : Int32) then (nm (pU st 1 2 (2 : Int32)) (fun st11 => some (.inr (((), st11))))) else (nm (pU st 1 2 (4 : Int32)) (fun st12 => some (.inr (((), st12)))))) else (nm (pU st 1 2 (4 : Int32)) (fun st13 => some (.inr (((), st13)))))) else (if (st.1 1 5) ≤ (99 : Int32) then (nm (pU st 1 2 (2 : Int32)) (fun st7 => some (.inr (((), st7))))) else (nm (pU st 1 2 (4 : Int32)) (fun st8 => some (.inr (((), st8))))))) : Option (PS ⊕ (Unit × PS))) = some (.inr ((), pU st 1 2 (if (T b = 48 ∧ 1 < e - b) ∨ 99 < v then 4 else 2))) := by
  have hnb := h.2.1
  have hT := (h.2.2 b hb).2
  rw [s3, s4, s5, inB_nI (show b < 170 by omega) (by omega), gd_t, cl (by omega), (h.2.2 b hb).1, pk_sub hbe, nm_d, nm_d]
  by_cases z1 : T b = 48
  · rw [if_pos (show nI (T b) = 48 by rw [z1]; rfl)]
    by_cases z2 : 1 < e - b
    · rw [if_neg (show ¬ nI (e - b) ≤ 1 from nle (b := 1) z2 (by omega)), if_pos (Or.inl ⟨z1, z2⟩)]
    · rw [if_pos (show nI (e - b) ≤ 1 from yle (b := 1) (by omega) (by omega))]
      by_cases z3 : 99 < v
      · rw [if_neg (show ¬ nI v ≤ 99 from nle (b := 99) z3 (by omega)), if_pos (Or.inr z3)]
      · rw [if_pos (show nI v ≤ 99 from yle (b := 99) (by omega) (by omega)), if_neg (by omega)]
  · rw [if_neg (show ¬ nI (T b) = 48 from fun q => z1 ((nI_eq (a := T b) (b := 48) (by omega) (by omega)).mp q))]
    by_cases z3 : 99 < v
    · rw [if_neg (show ¬ nI v ≤ 99 from nle (b := 99) z3 (by omega)), if_pos (Or.inr z3)]
    · rw [if_pos (show nI v ≤ 99 from yle (b := 99) (by omega) (by omega)), if_neg (by omega)]
theorem q_takeNumber {N nb b e : Nat} {T : Nat → Nat} {c : PS} (h : txC c nb T) (h3 : c.1 1 3 = nI b) (h4 : c.1 1 4 = nI b) (hb : b < nb) (hr : run (fun i => Fp (T i)) nb b e) (hN : 2000 ≤ N) : ∃ c', jm_X6_takeNumber N c = some ((), c') ∧ (cX c c' ∧ c'.1 1 2 = (if nS T b e = true then 4 else 2) ∧ c'.1 1 3 = nI b ∧ c'.1 1 4 = nI e ∧ c'.1 1 5 = nI (min (vN T b (e - b)) 100)) := by
  obtain ⟨r1, r2, r3, r4⟩ := hr
  have hnb := h.2.1
  have eS : (if (T b = 48 ∧ 1 < e - b) ∨ 99 < min (vN T b (e - b)) 100 then (4 : Int32) else 2) = if nS T b e = true then 4 else 2 := by
    unfold nS
    by_cases z : (T b = 48 ∧ 1 < e - b) ∨ 99 < vN T b (e - b)
    · rw [if_pos (by omega), if_pos (decide_eq_true z)]
    · rw [if_neg (by omega), if_neg (by simpa using z)]
  unfold jm_X6_takeNumber
  rw [nm_d]
  refine ex_el (iter_inv (f := fun q => jm_X6_takeNumber_L5 N q) (fun i st => cX c st ∧ st.1 1 3 = nI b ∧ st.1 1 4 = nI (b + i) ∧ st.1 1 5 = nI (min (vN T b i) 100)) (fun r : Unit × PS => cX c r.2 ∧ r.2.1 1 2 = (if nS T b e = true then 4 else 2) ∧ r.2.1 1 3 = nI b ∧ r.2.1 1 4 = nI e ∧ r.2.1 1 5 = nI (min (vN T b (e - b)) 100)) (e - b) ?_ ?_ (by omega) ?_) (fun r g1 g2 => ⟨r.2, g1, g2⟩)
  · rintro i st hi ⟨x, s3, s4, s5⟩
    have tx := txC_X h x
    have hf : Fp (T (b + i)) = true := r3 (b + i) (by omega) (by omega)
    have hf' : 48 ≤ T (b + i) ∧ T (b + i) ≤ 57 := of_decide_eq_true hf
    refine ⟨pU (pU st 1 5 (nI (min (vN T b (i + 1)) 100))) 1 4 (nI (b + i + 1)), ?_, cX_t x (cX_t (cX_U _ _ (by decide)) (cX_U _ _ (by decide))), ?_, ?_, ?_⟩
    · show jm_X6_takeNumber_L5 N st = _
      unfold jm_X6_takeNumber_L5
      rw [if_neg (show ¬ st.1 1 1 ≤ st.1 1 4 by rw [tx.1, s4]; exact nle (show b + i < nb by omega) (by omega)), s4, q_isDig tx (by omega), bd_s, hf, if_neg (show ¬ zB true = 0 from n10), s4, inB_nI (show b + i < 170 by omega) (by omega), gd_t, cl (by omega), (tx.2.2 (b + i) (by omega)).1, s5, show (10 : Int32) = nI 10 from rfl, show (48 : Int32) = nI 48 from rfl, pk_mul, nI_add, pk_sub (by omega), nm_d, nm_d, nm_d, pU_1, pk_un (by decide), s4, nI_1]
      have ev : (if (100 : Int32) < nI (min (vN T b i) 100 * 10 + T (b + i) - 48) then (100 : Int32) else nI (min (vN T b i) 100 * 10 + T (b + i) - 48)) = nI (min (vN T b (i + 1)) 100) := by
        rw [vN]
        by_cases z : 100 < min (vN T b i) 100 * 10 + T (b + i) - 48
        · rw [if_pos (show (100 : Int32) < _ from nI_lt (a := 100) z (by omega)), show (100 : Int32) = nI 100 from rfl]
          congr 1
          split <;> omega
        · rw [if_neg (show ¬ (100 : Int32) < _ from nI_nlt (a := 100) (by omega) (by omega))]
          congr 1
          split <;> omega
      rw [ev]
    · rw [pU_1, pk_un (by decide), pU_1, pk_un (by decide)]; exact s3
    · rw [pU_1, pk_us]; rfl
    · rw [pU_1, pk_un (by decide), pU_1, pk_us]
  · rintro st ⟨x, s3, s4, s5⟩
    have tx := txC_X h x
    rw [show b + (e - b) = e by omega] at s4
    refine ⟨((), pU st 1 2 (if nS T b e = true then 4 else 2)), ?_, cX_t x (cX_U _ _ (by decide)), ?_, ?_, ?_, ?_⟩
    · show jm_X6_takeNumber_L5 N st = _
      unfold jm_X6_takeNumber_L5
      rw [tn_tail tx hb r1 r2 (by omega) s3 s4 s5, eS]
      by_cases z : e < nb
      · rw [if_neg (show ¬ st.1 1 1 ≤ st.1 1 4 by rw [tx.1, s4]; exact nle z (by omega)), s4, q_isDig tx z, bd_s, show Fp (T e) = false from r4 z, if_pos (show zB false = 0 from rfl)]
        rw [tn_tail tx hb r1 r2 (by omega) s3 s4 s5, eS]
      · rw [if_pos (show st.1 1 1 ≤ st.1 1 4 by rw [tx.1, s4]; exact yle (by omega) (by omega))]
    · rw [pU_1, pk_us]
    · rw [pU_1, pk_un (by decide)]; exact s3
    · rw [pU_1, pk_un (by decide)]; exact s4
    · rw [pU_1, pk_un (by decide)]; exact s5
  · exact ⟨cX_U _ _ (by decide), by rw [pU_1, pk_un (by decide)]; exact h3, by rw [pU_1, pk_un (by decide), h4]; rfl, by rw [pU_1, pk_us]; rfl⟩
/-! the class: the next token -/
def tkC (c : PS) (T : Nat → Nat) (nb b e : Nat) : Prop := c.1 1 3 = nI b ∧ c.1 1 4 = nI e ∧ b ≤ e ∧ e ≤ nb ∧ ((b = nb ∧ c.1 1 2 = 0) ∨ (b < nb ∧ Lp (T b) = true ∧ c.1 1 2 = 1 ∧ b < e) ∨ (b < nb ∧ Fp (T b) = true ∧ nS T b e = false ∧ c.1 1 2 = 2 ∧ c.1 1 5 = nI (vN T b (e - b)) ∧ vN T b (e - b) ≤ 99) ∨ (b < nb ∧ Fp (T b) = true ∧ nS T b e = true ∧ c.1 1 2 = 4) ∨ (b < nb ∧ Lp (T b) = false ∧ Fp (T b) = false ∧ T b = 59 ∧ c.1 1 2 = 3) ∨ (b < nb ∧ Lp (T b) = false ∧ Fp (T b) = false ∧ T b ≠ 59 ∧ c.1 1 2 = 4))
def stop (T : Nat → Nat) (nb b e : Nat) : Prop := (b = nb ∧ e = b) ∨ (b < nb ∧ Lp (T b) = true ∧ run (fun i => Lp (T i)) nb b e) ∨ (b < nb ∧ Lp (T b) = false ∧ Fp (T b) = true ∧ run (fun i => Fp (T i)) nb b e) ∨ (b < nb ∧ Lp (T b) = false ∧ Fp (T b) = false ∧ e = b + 1)
theorem stop_ex (T : Nat → Nat) {nb b : Nat} (hb : b ≤ nb) : ∃ e, stop T nb b e := by
  by_cases z : b < nb
  · cases h1 : Lp (T b) with
    | true =>
      obtain ⟨e, he⟩ := run_ex (fun i => Lp (T i)) nb (nb - b) b (by omega)
      exact ⟨e, Or.inr (Or.inl ⟨z, h1, he⟩)⟩
    | false =>
      cases h2 : Fp (T b) with
      | true =>
        obtain ⟨e, he⟩ := run_ex (fun i => Fp (T i)) nb (nb - b) b (by omega)
        exact ⟨e, Or.inr (Or.inr (Or.inl ⟨z, h1, h2, he⟩))⟩
      | false => exact ⟨b + 1, Or.inr (Or.inr (Or.inr ⟨z, h1, h2, rfl⟩))⟩
  · exact ⟨b, Or.inl ⟨by omega, rfl⟩⟩
theorem run_lt {P : Nat → Bool} {nb b e : Nat} (h : run P nb b e) (hb : b < nb) (hp : P b = true) : b < e := by
  obtain ⟨r1, r2, r3, r4⟩ := h
  by_cases z : b < e
  · exact z
  · have : e = b := by omega
    subst this
    rw [r4 hb] at hp
    exact absurd hp (by decide)
theorem nx_tail {N nb b e : Nat} {T : Nat → Nat} {c st : PS} (h : txC c nb T) (x : cX c st) (s3 : st.1 1 3 = nI b) (hs : stop T nb b e) (hN : 2000 ≤ N) : ∃ r : Unit × PS, (nm (pU st 1 4 (st.1 1 3)) (fun st4 => if (st4.1 1 3) < (st4.1 1 1) then (bd (jm_X6_isLetter N (st4.1 1 3) st4) (fun v6 st7 => if v6 = 0 then (bd (jm_X6_isDigit N (st7.1 1 3) st7) (fun v9 st10 => if v9 = 0 then (gd (inB (st10.1 1 3) 170) (if (st10.1 2 ((st10.1 1 3)).toNatClampNeg) = (59 : Int32) then (nm (pU st10 1 2 (3 : Int32)) (fun st16 => nm (pU st16 1 4 ((st16.1 1 4) + (1 : Int32))) (fun st17 => some (.inr (((), st17)))))) else (nm (pU st10 1 2 (4 : Int32)) (fun st14 => nm (pU st14 1 4 ((st14.1 1 4) + (1 : Int32))) (fun st15 => some (.inr (((), st15)))))))) else (bd (jm_X6_takeNumber N st10) (fun v18 st19 => some (.inr (((), st19))))))) else (bd (jm_X6_takeLetters N st7) (fun v20 st21 => some (.inr (((), st21))))))) else (nm (pU st4 1 2 (0 : Int32)) (fun st22 => some (.inr (((), st22)))))) : Option (PS ⊕ (Unit × PS))) = some (.inr r) ∧ (cX c r.2 ∧ tkC r.2 T nb b e) := by
  rw [nm_d]
  have x2 : cX c (pU st 1 4 (st.1 1 3)) := cX_t x (cX_U _ _ (by decide))
  have z3 : (pU st 1 4 (st.1 1 3)).1 1 3 = nI b := by rw [pU_1, pk_un (by decide)]; exact s3
  have z4 : (pU st 1 4 (st.1 1 3)).1 1 4 = nI b := by rw [pU_1, pk_us]; exact s3
  generalize pU st 1 4 (st.1 1 3) = s at x2 z3 z4 ⊢
  have tx := txC_X h x2
  have hnb := tx.2.1
  rw [z3, tx.1]
  rcases hs with ⟨rfl, rfl⟩ | ⟨hb, hL, hr⟩ | ⟨hb, hL, hF, hr⟩ | ⟨hb, hL, hF, rfl⟩
  · rw [if_neg (nI_nlt (Nat.le_refl _) (by omega)), nm_d]
    refine ⟨_, rfl, cX_t x2 (cX_U _ _ (by decide)), ?_, ?_, Nat.le_refl _, Nat.le_refl _, Or.inl ⟨rfl, ?_⟩⟩
    · rw [pU_1, pk_un (by decide)]; exact z3
    · rw [pU_1, pk_un (by decide)]; exact z4
    · rw [pU_1, pk_us]
  · obtain ⟨c', g1, g2, g3, g4, g5, g6⟩ := q_takeLetters (N := N) tx z4 hr hN
    rw [if_pos (nI_lt hb (by omega)), q_isLet tx hb, bd_s, hL, if_neg (show ¬ zB true = 0 from n10), g1, bd_s]
    exact ⟨_, rfl, cX_t x2 g2, g4.trans z3, g5, hr.1, hr.2.1, Or.inr (Or.inl ⟨hb, hL, g3, run_lt hr hb hL⟩)⟩
  · obtain ⟨c', g1, g2, g3, g4, g5, g6⟩ := q_takeNumber (N := N) tx z3 z4 hb hr hN
    rw [if_pos (nI_lt hb (by omega)), q_isLet tx hb, bd_s, hL, if_pos (show zB false = 0 from rfl), z3, q_isDig tx hb, bd_s, hF, if_neg (show ¬ zB true = 0 from n10), g1, bd_s]
    refine ⟨_, rfl, cX_t x2 g2, g4, g5, hr.1, hr.2.1, Or.inr (Or.inr ?_)⟩
    cases hS : nS T b e with
    | true =>
      rw [hS, if_pos rfl] at g3
      exact Or.inr (Or.inl ⟨hb, hF, rfl, g3⟩)
    | false =>
      rw [hS, if_neg (by decide)] at g3
      have hS' := of_decide_eq_false hS
      have hv : vN T b (e - b) ≤ 99 := by omega
      exact Or.inl ⟨hb, hF, rfl, g3, by rw [g6, show min (vN T b (e - b)) 100 = vN T b (e - b) by omega], hv⟩
  · have hT := (tx.2.2 b hb).2
    rw [if_pos (nI_lt hb (by omega)), q_isLet tx hb, bd_s, hL, if_pos (show zB false = 0 from rfl), z3, q_isDig tx hb, bd_s, hF, if_pos (show zB false = 0 from rfl), z3, inB_nI (show b < 170 by omega) (by omega), gd_t, cl (by omega), (tx.2.2 b hb).1, nm_d, nm_d, nm_d, nm_d]
    by_cases y : T b = 59
    · rw [if_pos (show nI (T b) = 59 by rw [y]; rfl), pU_1, pk_un (show (4 : Nat) ≠ 2 by decide), z4, nI_1]
      refine ⟨_, rfl, cX_t x2 (cX_t (cX_U _ _ (by decide)) (cX_U _ _ (by decide))), ?_, ?_, by omega, by omega, Or.inr (Or.inr (Or.inr (Or.inr (Or.inl ⟨hb, hL, hF, y, ?_⟩))))⟩
      · rw [pU_1, pk_un (by decide), pU_1, pk_un (by decide)]; exact z3
      · rw [pU_1, pk_us]
      · rw [pU_1, pk_un (by decide), pU_1, pk_us]
    · rw [if_neg (show ¬ nI (T b) = 59 from fun q => y ((nI_eq (a := T b) (b := 59) (by omega) (by omega)).mp q)), pU_1, pk_un (show (4 : Nat) ≠ 2 by decide), z4, nI_1]
      refine ⟨_, rfl, cX_t x2 (cX_t (cX_U _ _ (by decide)) (cX_U _ _ (by decide))), ?_, ?_, by omega, by omega, Or.inr (Or.inr (Or.inr (Or.inr (Or.inr ⟨hb, hL, hF, y, ?_⟩))))⟩
      · rw [pU_1, pk_un (by decide), pU_1, pk_un (by decide)]; exact z3
      · rw [pU_1, pk_us]
      · rw [pU_1, pk_un (by decide), pU_1, pk_us]
theorem q_next {N nb e0 b e : Nat} {T : Nat → Nat} {c : PS} (h : txC c nb T) (h4 : c.1 1 4 = nI e0) (hb : run (fun i => decide (T i = 32)) nb e0 b) (hs : stop T nb b e) (hN : 2000 ≤ N) : ∃ c', jm_X6_nextToken N c = some ((), c') ∧ (cX c c' ∧ tkC c' T nb b e) := by
  obtain ⟨r1, r2, r3, r4⟩ := hb
  have hnb := h.2.1
  unfold jm_X6_nextToken
  rw [nm_d]
  refine ex_el (iter_inv (f := fun q => jm_X6_nextToken_L8 N q) (fun i st => cX c st ∧ st.1 1 3 = nI (e0 + i)) (fun r : Unit × PS => cX c r.2 ∧ tkC r.2 T nb b e) (b - e0) ?_ ?_ (by omega) ?_) (fun r g1 g2 => ⟨r.2, g1, g2⟩)
  · rintro i st hi ⟨x, s3⟩
    have tx := txC_X h x
    have h32 : T (e0 + i) = 32 := of_decide_eq_true (r3 (e0 + i) (by omega) (by omega))
    refine ⟨pU st 1 3 (nI (e0 + i + 1)), ?_, cX_t x (cX_U _ _ (by decide)), by rw [pU_1, pk_us]; rfl⟩
    show jm_X6_nextToken_L8 N st = _
    unfold jm_X6_nextToken_L8
    rw [if_neg (show ¬ st.1 1 1 ≤ st.1 1 3 by rw [tx.1, s3]; exact nle (show e0 + i < nb by omega) (by omega)), if_pos (show st.1 2 (st.1 1 3).toNatClampNeg = 32 by rw [s3, cl (by omega), (tx.2.2 (e0 + i) (by omega)).1, h32]; rfl), s3, inB_nI (show e0 + i < 170 by omega) (by omega), gd_t, nm_d, nI_1]
  · rintro st ⟨x, s3⟩
    have tx := txC_X h x
    rw [show e0 + (b - e0) = b by omega] at s3
    obtain ⟨r, g1, g2⟩ := nx_tail h x s3 hs hN
    refine ⟨r, ?_, g2⟩
    show jm_X6_nextToken_L8 N st = _
    unfold jm_X6_nextToken_L8
    by_cases z : b < nb
    · have n32 : ¬ T b = 32 := of_decide_eq_false (r4 z)
      have hT := (tx.2.2 b z).2
      rw [if_neg (show ¬ st.1 1 1 ≤ st.1 1 3 by rw [tx.1, s3]; exact nle z (by omega)), if_neg (show ¬ st.1 2 (st.1 1 3).toNatClampNeg = 32 by
        rw [s3, cl (by omega), (tx.2.2 b z).1]
        exact fun q => n32 ((nI_eq (a := T b) (b := 32) (by omega) (by omega)).mp q))]
      have ib : inB (st.1 1 3) 170 = true := by rw [s3]; exact inB_nI (by omega) (by omega)
      rw [ib, gd_t]
      exact g1
    · rw [if_pos (show st.1 1 1 ≤ st.1 1 3 by rw [tx.1, s3]; exact yle (by omega) (by omega))]
      exact g1
  · exact ⟨cX_U _ _ (by decide), by rw [pU_1, pk_us, h4]; rfl⟩
