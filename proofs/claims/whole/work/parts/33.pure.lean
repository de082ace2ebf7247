/-! PURE: PLAY of the reference -/
/-- from where: a beat, or NOW (-1) -/
def fP (m : PS) (b : Nat) (bl bt : Nat → Nat) (x : Int32) (p : Nat × Nat) : Prop := p.1 ≤ 40 ∧ p.2 ≤ 6 ∧ ((∃ j, j < b ∧ x = nI j ∧ p = (bl j, bt j)) ∨ (x = -1 ∧ m.1 13 0 = nI p.1 ∧ m.1 13 1 = tI p.2))
theorem fP_E {m m' : PS} {b : Nat} {bl bt : Nat → Nat} {x : Int32} {p : Nat × Nat} (h : fP m b bl bt x p) (e : mE m m') : fP m' b bl bt x p := by
  obtain ⟨h1, h2, h3⟩ := h
  refine ⟨h1, h2, h3.imp id (fun z => ?_)⟩
  rw [e.1 13 (by decide)]; exact z
theorem q_moves9 {N b x : Nat} {f : Int32} {m : PS} {bl bt : Nat → Nat} {p : Nat × Nat} (hB : mB m b bl bt) (hf : fP m b bl bt f p) (hx : x < b) : jm_X9_moves N f (nI x) m = some (nI (Dq bl bt p x), m) := by
  obtain ⟨-, hb, h3⟩ := hB
  obtain ⟨e1, e2, e3, e4⟩ := h3 x hx
  obtain ⟨p1, p2, hf⟩ := hf
  have dd : nI (dN p.1 (bl x)) + nI (dN p.2 (bt x)) = nI (Dq bl bt p x) := by
    rw [nI_add]; unfold Dq; rw [dN_c p.1, dN_c p.2]
  unfold jm_X9_moves
  rcases hf with ⟨j, hj, rfl, rfl⟩ | ⟨rfl, z1, z2⟩
  · obtain ⟨g1, g2, g3, g4⟩ := h3 j hj
    rw [if_pos (nI_pos' (by omega)), inB_nI (show j < 7 by omega) (by omega), gd_t, if_pos (nI_pos' (by omega)), gd_t, inB_nI (show x < 7 by omega) (by omega), gd_t, cl (by omega), cl (by omega), g1, e1, q_apart9, bd_s, gd_t, g2, e2, q_apart9, bd_s, ap_all ⟨bl j, by omega⟩ ⟨bl x, by omega⟩, apt_all ⟨bt j, by omega⟩ ⟨bt x, by omega⟩]
    rw [← dd]
  · rw [if_neg (by decide), if_neg (by decide), inB_nI (show x < 7 by omega) (by omega), gd_t, cl (by omega), z1, e1, q_apart9, bd_s, gd_t, z2, e2, q_apart9, bd_s, ap_all ⟨p.1, by omega⟩ ⟨bl x, by omega⟩, apt_all ⟨p.2, by omega⟩ ⟨bt x, by omega⟩]
    rw [← dd]
def mT (m : PS) (Dp : Nat → Nat → Nat) (b i : Nat) : Prop := ∀ L, L < i → ∀ j, j < b → m.1 16 (8 * L + j) = nI (Yv Dp b L j)
def lfE (o : Option (Nat × Nat)) (z : Int32) : Int32 := match o with
  | none => z
  | some q => nI q.2
theorem Cq_le9 {Dp : Nat → Nat → Nat} (hD : ∀ i j, Dp i j ≤ 46) {b j L : Nat} {m : PS} {bl bt : Nat → Nat} {p : Nat × Nat} (hB : mB m b bl bt) (hp : p.1 ≤ 40 ∧ p.2 ≤ 6) (hL : L < 2 ^ b) (hj : j < b) : Cq Dp bl bt b L p j ≤ 6000 := by
  obtain ⟨-, hb, h3⟩ := hB
  obtain ⟨-, -, e3, e4⟩ := h3 j hj
  have h128 := p7 hb
  have h2 := Y_le hD (b := b) (j := j) (rm_all ⟨L, by omega⟩ ⟨j, by omega⟩).2.1
  have h2 : Yv Dp b (rm L j) j ≤ 5888 := h2
  have h1 : Dq bl bt p j ≤ 46 := by
    unfold Dq dN
    omega
  unfold Cq
  omega
theorem q_cost9 {N b i L j : Nat} {f : Int32} {m : PS} {bl bt : Nat → Nat} {Dp : Nat → Nat → Nat} {p : Nat × Nat} (hB : mB m b bl bt) (hT : mT m Dp b i) (hf : fP m b bl bt f p) (hL : L < 2 ^ b) (hLi : L ≤ i) (hj : j < b) (htb : L.testBit j = true) : jm_X9_moves N f (nI j) m = some (nI (Dq bl bt p j), m) ∧ inB ((8 * (nI L &&& (((1 : Int32) <<< (nI j &&& 31)) ^^^ (-1)))) + nI j) 1024 = true ∧ nI (Dq bl bt p j) + m.1 16 ((8 * (nI L &&& (((1 : Int32) <<< (nI j &&& 31)) ^^^ (-1)))) + nI j).toNatClampNeg = nI (Cq Dp bl bt b L p j) := by
  have hb := hB.2.1
  have h128 := p7 hb
  have hr := rm_all ⟨L, by omega⟩ ⟨j, by omega⟩
  have hr0 : (nI L &&& (((1 : Int32) <<< (nI j &&& 31)) ^^^ (-1))) = nI (rm L j) := hr.1
  have hr1 : rm L j < L := hr.2.2 htb
  refine ⟨q_moves9 hB hf hj, ?_, ?_⟩
  · rw [hr0, m8', inB_nI (by omega) (by omega)]
  · rw [hr0, m8', cl (by omega), hT (rm L j) (by omega) j hj, nI_add]; rfl
theorem q_leastFrom {N b i L : Nat} {f : Int32} {m : PS} {bl bt : Nat → Nat} {Dp : Nat → Nat → Nat} {p : Nat × Nat} (hD : ∀ i j, Dp i j ≤ 46) (hB : mB m b bl bt) (hT : mT m Dp b i) (hf : fP m b bl bt f p) (hL : L < 2 ^ b) (hLi : L ≤ i) (hN : 2000 ≤ N) : jm_X9_leastFrom N (nI L) f m = some (nI (lfV (bnF (Cq Dp bl bt b L p) L b)), m) := by
  have hb := hB.2.1
  have h128 := p7 hb
  have hp : p.1 ≤ 40 ∧ p.2 ≤ 6 := ⟨hf.1, hf.2.1⟩
  unfold jm_X9_leastFrom
  by_cases h0 : L = 0
  · subst h0
    have hno : ∀ j, bnF (Cq Dp bl bt b 0 p) 0 j = none := by
      intro j
      induction j with
      | zero => rfl
      | succ j ih => rw [bnF, if_neg (by simp), ih]
    rw [if_pos (show nI 0 = 0 from nI_0), hno]
    refine iter_for (fun j => (0, nI j, m)) b (fun j hj => ?_) ?_ (by omega)
    · show jm_X9_leastFrom_L15_2 N (nI 0) f 0 (nI j) m = _
      unfold jm_X9_leastFrom_L15_2
      rw [hB.1, if_neg (nle hj (by omega)), has_N (by omega) (by omega), bd_s, if_pos (show (if (0 : Nat).testBit j = true then (1 : Int32) else 0) = 0 by simp), nI_1]
    · show jm_X9_leastFrom_L15_2 N (nI 0) f 0 (nI b) m = _
      unfold jm_X9_leastFrom_L15_2
      rw [hB.1, if_pos (Int32.le_refl _)]
      rfl
  · rw [if_neg (nI_ne0 (by omega) (by omega))]
    have hsome : ∃ q, bnF (Cq Dp bl bt b L p) L b = some q := by
      have hin := bnF_inv (C := Cq Dp bl bt b L p) (L := L) b
      cases ho : bnF (Cq Dp bl bt b L p) L b with
      | some q => exact ⟨q, rfl⟩
      | none =>
        rw [ho] at hin
        exact absurd (Nat.eq_of_testBit_eq (x := L) (y := 0) (fun i => by
          by_cases hi : i < b
          · have := hin i hi
            simp at this
            simp [this]
          · rw [Nat.testBit_lt_two_pow (Nat.lt_of_lt_of_le hL (Nat.pow_le_pow_right (by omega) (by omega)))]; simp)) h0
    obtain ⟨q, hq⟩ := hsome
    have e : nI (lfV (bnF (Cq Dp bl bt b L p) L b)) = lfE (bnF (Cq Dp bl bt b L p) L b) 1000000 := by rw [hq]; rfl
    rw [e]
    refine iter_for (fun j => (lfE (bnF (Cq Dp bl bt b L p) L j) 1000000, nI j, m)) b (fun j hj => ?_) ?_ (by omega)
    · show jm_X9_leastFrom_L15 N (nI L) f (lfE (bnF (Cq Dp bl bt b L p) L j) 1000000) (nI j) m = some (.inl (lfE (bnF (Cq Dp bl bt b L p) L (j + 1)) 1000000, nI (j + 1), m))
      unfold jm_X9_leastFrom_L15
      rw [hB.1, if_neg (nle hj (by omega)), has_N (by omega) (by omega), bd_s, nI_1, bnF]
      by_cases htb : L.testBit j = true
      · obtain ⟨k1, k2, k3⟩ := q_cost9 (N := N) hB hT hf hL hLi hj htb
        have hC := Cq_le9 hD hB hp hL hj
        rw [if_pos htb, if_neg (by decide), k1, bd_s, k2, gd_t, nm_d, k3, if_pos htb]
        cases hbn : bnF (Cq Dp bl bt b L p) L j with
        | none =>
          rw [if_neg (show ¬ lfE none 1000000 ≤ nI (Cq Dp bl bt b L p j) from nI_ge (a := Cq Dp bl bt b L p j) (b := 1000000) (by omega) (by omega))]
          rfl
        | some r =>
          obtain ⟨r2, r1⟩ := bnF_le (M := 6000) j (fun x hx _ => Cq_le9 hD hB hp hL (by omega)) r hbn
          by_cases z : r.2 ≤ Cq Dp bl bt b L p j
          · rw [if_pos (show lfE (some r) 1000000 ≤ nI (Cq Dp bl bt b L p j) from yle z (by omega))]
            simp only [if_pos z]
          · rw [if_neg (show ¬ lfE (some r) 1000000 ≤ nI (Cq Dp bl bt b L p j) from nle (by omega) (by omega))]
            simp only [if_neg z]; rfl
      · rw [if_neg htb, if_pos rfl, if_neg htb]
    · show jm_X9_leastFrom_L15 N (nI L) f (lfE (bnF (Cq Dp bl bt b L p) L b) 1000000) (nI b) m = _
      unfold jm_X9_leastFrom_L15
      rw [hB.1, if_pos (Int32.le_refl _)]
theorem Db_le9 {b : Nat} {m : PS} {bl bt : Nat → Nat} (hB : mB m b bl bt) (i j : Nat) : Db bl bt b i j ≤ 46 := by
  unfold Db
  split
  · rename_i h
    obtain ⟨-, -, e3, e4⟩ := hB.2.2 i h.1
    obtain ⟨-, -, e5, e6⟩ := hB.2.2 j h.2
    unfold Dq dN
    show bl j - bl i + (bl i - bl j) + (bt j - bt i + (bt i - bt j)) ≤ 46
    omega
  · omega
/-- the answer of play(), both ways -/
def plA (bl bt : Nat → Nat) (b : Nat) (p0 : Nat × Nat) (x : Int32) : Int32 := if x < 0 then nI (lfV (sqB bl bt b p0 0)) else if x < nI b then bnA (sqB bl bt b p0 x.toNatClampNeg) else -9
theorem q_play9 {N b : Nat} {x : Int32} {m : PS} {bl bt : Nat → Nat} {p0 : Nat × Nat} (hB : mB m b bl bt) (h0 : p0.1 ≤ 40 ∧ p0.2 ≤ 6) (hl : m.1 13 0 = nI p0.1) (ht : m.1 13 1 = tI p0.2) (hx : x = -1 ∨ ∃ i, i < 7 ∧ x = nI i) (hcB : ∀ c : PS, c.1 17 9 = nI b → (∀ i, i < b → c.1 22 i = nI (bl i) ∧ c.1 23 i = tI (bt i)) → cB c b bl bt) (hN : 2000 ≤ N) : ∃ m', jm_X9_play N x m = some (plA bl bt b p0 x, m') ∧ mE m m' := by
  have hb := hB.2.1
  have h128 := p7 hb
  have hpos : 0 < 2 ^ b := Nat.two_pow_pos b
  have hD := Db_le9 hB
  -- a class state with these beats, for what was shown of the way
  have hC : cB ((fun a j => if a = 17 then nI b else if a = 22 then nI (bl j) else tI (bt j)), 0) b bl bt := hcB _ rfl (fun i hi => ⟨rfl, rfl⟩)
  have e0 : ((1 : Int32) <<< (nI b &&& 31)) - 1 = nI (2 ^ b - 1) := all_all ⟨b, by omega⟩
  have i1 : jm_X9_in N x (-1) 6 m = some (1, m) := by
    unfold jm_X9_in
    rcases hx with rfl | ⟨i, hi, rfl⟩
    · rfl
    · have e1 : (nI i).toInt = (i : Int) := nI_toInt (by omega)
      rw [if_neg (by rw [i_lt, e1]; have : (-1 : Int32).toInt = -1 := rfl; omega), if_neg (show ¬ (6 : Int32) < nI i from nI_nlt (a := 6) (by omega) (by omega))]
  unfold jm_X9_play
  rw [i1, bd_s, if_neg (by decide), hB.1, e0, nm_d]
  refine ex_el (iter_inv (f := fun q => jm_X9_play_L23 N x (nI (2 ^ b - 1)) q.1 q.2) (fun i q => q.1 = nI i ∧ mE m q.2 ∧ mT q.2 (Db bl bt b) b i) (fun r => r.1 = plA bl bt b p0 x ∧ mE m r.2) (2 ^ b) (fun i s hi hI => ?_) (fun s hI => ?_) (N := N) (by omega) (s0 := (0, m)) ⟨rfl, mE_r m, fun L hL => absurd hL (by omega)⟩) (fun r h1 h2 => ?_)
  · obtain ⟨w6, st⟩ := s
    obtain ⟨i1, i2, i3⟩ := hI
    have i1 : w6 = nI i := i1
    subst i1
    show ∃ s', jm_X9_play_L23 N x (nI (2 ^ b - 1)) (nI i) st = some (.inl s') ∧ _
    unfold jm_X9_play_L23
    rw [if_neg (nI_nlt (by omega) (by omega))]
    have inner : ∃ r, iter (fun q => jm_X9_play_L31 N (nI i) q.1 q.2) N (0, st) = some r ∧ ∃ st', r = .inl (nI (i + 1), st') ∧ mE m st' ∧ mT st' (Db bl bt b) b (i + 1) := by
      refine iter_inv (fun j q => q.1 = nI j ∧ mE m q.2 ∧ mT q.2 (Db bl bt b) b i ∧ ∀ x, x < j → q.2.1 16 (8 * i + x) = nI (Yv (Db bl bt b) b i x)) _ b (fun j s hj hI => ?_) (fun s hI => ?_) (by omega) ⟨rfl, i2, i3, fun x hx => absurd hx (by omega)⟩
      · obtain ⟨w32, st⟩ := s
        obtain ⟨i1, i2, i3, i4⟩ := hI
        have i1 : w32 = nI j := i1
        have i2 : mE m st := i2
        have i3 : mT st (Db bl bt b) b i := i3
        have i4 : ∀ x, x < j → st.1 16 (8 * i + x) = nI (Yv (Db bl bt b) b i x) := i4
        subst i1
        have B2 := mB_E hB i2
        obtain ⟨e1, e2, e3, e4⟩ := B2.2.2 j hj
        show ∃ s', jm_X9_play_L31 N (nI i) (nI j) st = some (.inl s') ∧ _
        unfold jm_X9_play_L31
        rw [B2.1, if_neg (nle hj (by omega)), q_leastFrom (p := (bl j, bt j)) hD B2 i3 ⟨e3, e4, Or.inl ⟨j, hj, rfl, rfl⟩⟩ hi (Nat.le_refl i) hN, bd_s, m8', inB_nI (show 8 * i + j < 1024 by omega) (by omega), gd_t, nm_d, cl (by omega), nI_1]
        refine ⟨_, rfl, rfl, mE_t i2 (mE_U _ _ (by decide)), fun L hL y hy => ?_, fun y hy => ?_⟩
        · show (pU st 16 (8 * i + j) _).1 16 _ = _
          rw [pU_1, pk_un (by omega)]; exact i3 L hL y hy
        · show (pU st 16 (8 * i + j) _).1 16 _ = _
          rw [pU_1]
          by_cases e : y = j
          · subst e; rw [pk_us, Y_beat hb (by omega) hj]
          · rw [pk_un (by omega)]; exact i4 y (by omega)
      · obtain ⟨w32, st⟩ := s
        obtain ⟨i1, i2, i3, i4⟩ := hI
        have i1 : w32 = nI b := i1
        have i2 : mE m st := i2
        have i3 : mT st (Db bl bt b) b i := i3
        have i4 : ∀ x, x < b → st.1 16 (8 * i + x) = nI (Yv (Db bl bt b) b i x) := i4
        subst i1
        refine ⟨.inl (nI (i + 1), st), ?_, st, rfl, i2, fun L hL y hy => ?_⟩
        · show jm_X9_play_L31 N (nI i) (nI b) st = _
          unfold jm_X9_play_L31
          rw [(mB_E hB i2).1, if_pos (Int32.le_refl _), nI_1]
        · rcases Nat.lt_succ_iff_lt_or_eq.mp hL with z | z
          · exact i3 L z y hy
          · rw [z]; exact i4 y hy
    obtain ⟨r, hr, st', er, e1, e2⟩ := inner
    subst er
    exact ⟨_, hr, rfl, e1, e2⟩
  · obtain ⟨w6, st⟩ := s
    obtain ⟨i1, i2, i3⟩ := hI
    have i1 : w6 = nI (2 ^ b) := i1
    have i2 : mE m st := i2
    have i3 : mT st (Db bl bt b) b (2 ^ b) := i3
    subst i1
    have B2 := mB_E hB i2
    have F0 : fP st b bl bt (-1) p0 := ⟨h0.1, h0.2, Or.inr ⟨rfl, by rw [i2.1 13 (by decide)]; exact hl, by rw [i2.1 13 (by decide)]; exact ht⟩⟩
    have hls : lfV (bnF (Cq (Db bl bt b) bl bt b (2 ^ b - 1) p0) (2 ^ b - 1) b) = lfV (sqB bl bt b p0 0) := rfl
    show ∃ r, jm_X9_play_L23 N x (nI (2 ^ b - 1)) (nI (2 ^ b)) st = some (.inr r) ∧ _
    unfold jm_X9_play_L23
    rw [if_pos (nI_lt (by omega) (by omega)), q_leastFrom hD B2 i3 F0 (by omega) (by omega) hN, bd_s]
    rcases hx with rfl | ⟨i, hi, rfl⟩
    · rw [if_neg (by decide)]
      refine ⟨_, rfl, ?_, i2⟩
      show nI _ = plA bl bt b p0 (-1)
      rw [plA, if_pos (by decide), hls]
    · rw [if_pos (nI_pos' (by omega)), B2.1]
      by_cases hib : i < b
      · rw [if_pos (nI_lt hib (by omega))]
        have way : ∃ r, iter (fun q => jm_X9_play_L104 N (nI i) q.1 q.2.1 q.2.2.1 q.2.2.2) N (nI (2 ^ b - 1), -1, 0, st) = some r ∧ r = .inr (bnA (sqB bl bt b p0 i), st) := by
          refine iter_inv (fun k q => q.1 = nI (sq bl bt b p0 k).1 ∧ fP st b bl bt q.2.1 (sq bl bt b p0 k).2.1 ∧ (k = i + 1 → q.2.1 = bnA (sqB bl bt b p0 i)) ∧ q.2.2.1 = nI k ∧ q.2.2.2 = st) _ (i + 1) (fun k s hk hI => ?_) (fun s hI => ?_) (by omega) ⟨rfl, F0, fun h => by omega, rfl, rfl⟩
          · obtain ⟨w13, w14, w15, st'⟩ := s
            obtain ⟨j1, j2, j3, j4, j5⟩ := hI
            have j1 : w13 = nI (sq bl bt b p0 k).1 := j1
            have j2 : fP st b bl bt w14 (sq bl bt b p0 k).2.1 := j2
            have j4 : w15 = nI k := j4
            have j5 : st' = st := j5
            subst j1 j4 j5
            obtain ⟨a1, a2, a3, a4, a5⟩ := sq_inv hC h0 k (by omega)
            obtain ⟨q, ho⟩ := sq_some hC h0 (show k < b by omega)
            have ho' : bnF (Cq (Db bl bt b) bl bt b (sq bl bt b p0 k).1 (sq bl bt b p0 k).2.1) (sq bl bt b p0 k).1 b = some q := ho
            have hin := bnF_inv (C := Cq (Db bl bt b) bl bt b (sq bl bt b p0 k).1 (sq bl bt b p0 k).2.1) (L := (sq bl bt b p0 k).1) b
            rw [ho'] at hin
            obtain ⟨g1, g2, g3, g4, g5⟩ := hin
            have es : sq bl bt b p0 (k + 1) = (rm (sq bl bt b p0 k).1 q.1, (bl q.1, bt q.1), (sq bl bt b p0 k).2.2 + Dq bl bt (sq bl bt b p0 k).2.1 q.1) := by rw [sq, ho']
            obtain ⟨-, -, f3, f4⟩ := B2.2.2 q.1 g1
            have hq2 : q.2 ≤ 6000 := by rw [← g3]; exact Cq_le9 hD B2 ⟨a3, a4⟩ a1 g1
            show ∃ s', jm_X9_play_L104 N (nI i) (nI (sq bl bt b p0 k).1) w14 (nI k) st' = some (.inl s') ∧ _
            unfold jm_X9_play_L104
            rw [if_neg (nI_nlt (by omega) (by omega)), q_leastFrom hD B2 i3 j2 a1 (by omega) hN, bd_s, ho', B2.1, cd_0, show lfV (some q) = q.2 from rfl]
            have hdn : dn (fun j => (sq bl bt b p0 k).1.testBit j && decide (Cq (Db bl bt b) bl bt b (sq bl bt b p0 k).1 (sq bl bt b p0 k).2.1 j = q.2)) b b = nI q.1 := by
              refine dn_low g1 ?_ (fun u hu h => ?_) b (Nat.le_refl b) (by omega)
              · rw [g2, decide_eq_true g3]; rfl
              · rw [Bool.and_eq_true] at h
                have := g5 u hu h.1
                have := of_decide_eq_true h.2
                omega
            refine ⟨(nI (rm (sq bl bt b p0 k).1 q.1), nI q.1, nI (k + 1), st'), ?_, ?_, ?_, fun hk1 => ?_, rfl, rfl⟩
            · refine iter_for (fun j => (dn (fun j => (sq bl bt b p0 k).1.testBit j && decide (Cq (Db bl bt b) bl bt b (sq bl bt b p0 k).1 (sq bl bt b p0 k).2.1 j = q.2)) b j, cd b j, st')) b (fun j hj => ?_) ?_ (by omega)
              · show jm_X9_play_L132 N (nI (sq bl bt b p0 k).1) w14 (nI k) (nI q.2) (dn _ b j) (cd b j) st' = some (.inl (dn _ b (j + 1), cd b (j + 1), st'))
                unfold jm_X9_play_L132
                rw [if_neg (cd_nn hj (by omega)), cd_s hj, cd_in hj, has_N (by omega) (by omega), bd_s, dn]
                by_cases htb : (sq bl bt b p0 k).1.testBit (b - 1 - j) = true
                · obtain ⟨k1, k2, k3⟩ := q_cost9 (N := N) B2 i3 j2 a1 (by omega) (show b - 1 - j < b by omega) htb
                  have hCl := Cq_le9 hD B2 ⟨a3, a4⟩ a1 (show b - 1 - j < b by omega)
                  rw [if_pos htb, if_neg (by decide), k1, bd_s, k2, gd_t, k3]
                  by_cases z : Cq (Db bl bt b) bl bt b (sq bl bt b p0 k).1 (sq bl bt b p0 k).2.1 (b - 1 - j) = q.2
                  · rw [if_pos (by rw [z]), if_pos (by rw [htb, decide_eq_true z]; rfl)]
                  · rw [if_neg (fun e => z ((nI_eq (by omega) (by omega)).mp e)), if_neg (by rw [decide_eq_false z]; simp)]
                · rw [if_neg htb, if_pos rfl, if_neg (by simp [htb])]
              · show jm_X9_play_L132 N (nI (sq bl bt b p0 k).1) w14 (nI k) (nI q.2) (dn _ b b) (cd b b) st' = _
                unfold jm_X9_play_L132
                have hr0 := (rm_all ⟨(sq bl bt b p0 k).1, by omega⟩ ⟨q.1, by omega⟩).1
                have hr0 : (nI (sq bl bt b p0 k).1 &&& (((1 : Int32) <<< (nI q.1 &&& 31)) ^^^ (-1))) = nI (rm (sq bl bt b p0 k).1 q.1) := hr0
                rw [if_pos (cd_end b), hdn, hr0, nm_d, nI_1]
            · show _ = nI (sq bl bt b p0 (k + 1)).1
              rw [es]
            · show fP st' b bl bt (nI q.1) (sq bl bt b p0 (k + 1)).2.1
              rw [es]
              exact ⟨f3, f4, Or.inl ⟨q.1, g1, rfl, rfl⟩⟩
            · have : k = i := by omega
              subst this
              show nI q.1 = bnA (sqB bl bt b p0 k)
              rw [ho]; rfl
          · obtain ⟨w13, w14, w15, st'⟩ := s
            obtain ⟨j1, j2, j3, j4, j5⟩ := hI
            have j3 : w14 = bnA (sqB bl bt b p0 i) := j3 rfl
            have j4 : w15 = nI (i + 1) := j4
            have j5 : st' = st := j5
            subst j3 j4 j5
            refine ⟨.inr (bnA (sqB bl bt b p0 i), st'), ?_, rfl⟩
            show jm_X9_play_L104 N (nI i) w13 (bnA (sqB bl bt b p0 i)) (nI (i + 1)) st' = _
            unfold jm_X9_play_L104
            rw [if_pos (nI_lt (by omega) (by omega))]
        obtain ⟨r, hr, er⟩ := way
        subst er
        refine ⟨_, hr, ?_, i2⟩
        show bnA _ = plA bl bt b p0 (nI i)
        rw [plA, if_neg (nI_pos (by omega)), if_pos (nI_lt hib (by omega)), cl (by omega)]
      · rw [if_neg (nI_nlt (by omega) (by omega))]
        refine ⟨_, rfl, ?_, i2⟩
        show (-9 : Int32) = plA bl bt b p0 (nI i)
        rw [plA, if_neg (nI_pos (by omega)), if_neg (nI_nlt (by omega) (by omega))]
  · exact ⟨r.2, by rw [h1, ← h2.1], h2.2⟩
