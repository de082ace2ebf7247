/-! PURE: deeds -/
theorem iter_s {σ τ : Type} {f : σ → Option (σ ⊕ τ)} {n : Nat} {s s' : σ} (h : f s = some (.inl s')) : iter f (n + 1) s = iter f n s' := by
  rw [iter, h]
theorem iter_e {σ τ : Type} {f : σ → Option (σ ⊕ τ)} {n : Nat} {s : σ} {r : τ} (h : f s = some (.inr r)) : iter f (n + 1) s = some r := by
  rw [iter, h]
def dC (c1 c2 : PS) : Prop := (∀ a, a ≠ 39 → c2.1 a = c1.1 a) ∧ c2.2 = c1.2
def dM (m1 m2 : PS) : Prop := (∀ a, a ≠ 13 → m2.1 a = m1.1 a) ∧ m2.2 = m1.2
theorem dC_U (c : PS) (j : Nat) (v : Int32) : dC c (pU c 39 j v) := ⟨fun _ h => pU_n h, rfl⟩
theorem dM_U (c : PS) (j : Nat) (v : Int32) : dM c (pU c 13 j v) := ⟨fun _ h => pU_n h, rfl⟩
theorem dC_t {a b c : PS} (h1 : dC a b) (h2 : dC b c) : dC a c := ⟨fun x hx => (h2.1 x hx).trans (h1.1 x hx), h2.2.trans h1.2⟩
theorem dM_t {a b c : PS} (h1 : dM a b) (h2 : dM b c) : dM a c := ⟨fun x hx => (h2.1 x hx).trans (h1.1 x hx), h2.2.trans h1.2⟩
theorem cV_d {c c' : PS} {n k : Nat} {F : Nat → Int32} (h : cV c 17 n k F) (e1 : c'.1 17 = c.1 17) (e2 : c'.1 24 = c.1 24) : cV c' 17 n k F := by
  obtain ⟨a1, a2, a3, a4, a5⟩ := h
  exact ⟨by rw [e1]; exact a1, by rw [e1]; exact a2, a3, a4, fun a ha l hl => by rw [show 17 + 7 = 24 from rfl, e2]; exact a5 a ha l hl⟩
theorem mV_d {c c' : PS} {n k : Nat} {F : Nat → Int32} (h : mV c n k F) (e1 : c'.1 0 18 = c.1 0 18) (e3 : c'.1 0 19 = c.1 0 19) (e2 : c'.1 12 = c.1 12) : mV c' n k F := by
  obtain ⟨a1, a2, a3, a4, a5⟩ := h
  exact ⟨by rw [e1]; exact a1, by rw [e3]; exact a2, a3, a4, fun a ha l hl => by rw [e2]; exact a5 a ha l hl⟩
theorem deed {N n k b : Nat} {c m : PS} {F Wt Sg : Nat → Int32} {bl bt : Nat → Nat} (hD : relD c m n k b F Wt Sg bl bt) (hT : relT c m) (hI : relI c m n k) (hS : relS c m n) (hN : relN c m n k) (ht : c.2 = m.2) (hN2 : 2000 ≤ N) : ∃ c1 m1, jm_X5_remember N 37 c = some ((), c1) ∧ jm_X9_remember N m = some ((), m1) ∧ (∀ a, a ≠ 40 → a ≠ 41 → c1.1 a = c.1 a) ∧ (∀ a, a ≠ 0 → a ≠ 15 → m1.1 a = m.1 a) ∧ (∀ c2 m2, dC c1 c2 → dM m1 m2 → cV c2 17 n k F ∧ mV m2 n k F) ∧ ∀ c2 m2 R', dC c1 c2 → dM m1 m2 → rowOk n k R' → rV (c2.1 39) R' → rV (m2.1 13) R' → Rel c2 m2 := by
  obtain ⟨R, u, p, q, hR, r1, r2, u1, p1, q1, n1, n2, n3, n4, hr⟩ := hN
  obtain ⟨c1, a1, a2, a3, a4, a5, a6⟩ := q_remember (N := N) n1 u1 n2 p1
  obtain ⟨m1, b1, b2, b3, b4, b5, b6, b7⟩ := q_remember9 (N := N) n3 u1 n4 q1 hN2
  refine ⟨c1, m1, a1, b1, a2, b2, fun c2 m2 d1 d2 => ⟨cV_d hD.1 ?_ ?_, mV_d hD.2.1 ?_ ?_ ?_⟩, fun c2 m2 R' d1 d2 hR' s1 s2 => ?_⟩
  · rw [d1.1 17 (by decide), a2 17 (by decide) (by decide)]
  · rw [d1.1 24 (by decide), a2 24 (by decide) (by decide)]
  · rw [d2.1 0 (by decide), b4 18 (by decide) (by decide)]
  · rw [d2.1 0 (by decide), b4 19 (by decide) (by decide)]
  · rw [d2.1 12 (by decide), b2 12 (by decide) (by decide)]
  · refine Rel_N hD hT hI hS ht (fun a ha => ?_) (d1.2.trans a3) (fun a ha => ?_) (fun j h1 h2 => ?_) (d2.2.trans b3) ⟨R', min (u + 1) 10, (p + 1) % 10, (q + 1) % 10, hR', s1, s2, by omega, by omega, by omega, ?_, ?_, ?_, ?_, ?_⟩
    · simp at ha
      rw [d1.1 a (by omega), a2 a (by omega) (by omega)]
    · simp at ha
      rw [d2.1 a (by omega), b2 a (by omega) (by omega)]
    · rw [d2.1 0 (by decide), b4 j h1 h2]
    · rw [d1.1 40 (by decide), a4]
    · rw [d1.1 40 (by decide), a5]
    · rw [d2.1 0 (by decide), b5]
    · rw [d2.1 0 (by decide), b6]
    · rw [d1.1 41 (by decide), d2.1 15 (by decide), a6, b7]
      exact ring_add hr u1 p1 q1 hR r1 r2
theorem q_hmg {N n k : Nat} {st : PS} {F R : Nat → Int32} (hV : cV st 17 n k F) (hR : rV (st.1 39) R) (hA : aN n k R) (hN : 2000 ≤ N) : jm_X8_howManyGrounded N st = some (nI (pop (bN (gdP F R k) n)), st) := by
  have hn : n ≤ 8 := hV.2.2.1
  unfold jm_X8_howManyGrounded
  rw [q_grounded hV hR hA hN, bd_s, bitsF_N _ n (by omega), q_bitCount (Nat.lt_of_lt_of_le (bN_lt _ n) (pow8 hn)), bd_s]
theorem q_hmg9 {N n k : Nat} {st : PS} {F R : Nat → Int32} (hV : mV st n k F) (hR : rV (st.1 13) R) (hA : aN n k R) (hN : 2000 ≤ N) : bd (jm_X9_ground N 13 st) (fun v10 st11 => bd (jm_X9_bits N v10 st11) (fun v12 st13 => some ((v12, st13)))) = some (nI (pop (bN (gdP F R k) n)), st) := by
  have hn : n ≤ 8 := hV.2.2.1
  rw [q_ground hV hR hA hN, bd_s, bitsF_N _ n (by omega), q_bits (Nat.lt_of_lt_of_le (bN_lt _ n) (pow8 hn)) hN, bd_s]
theorem rV_u {f R : Nat → Int32} (h : rV f R) (j : Nat) (v : Int32) : rV (upd f j v) (upd R j v) := rV_upd (rV_ne h j)
theorem rk_0 {n k : Nat} {R : Nat → Int32} (h : rowOk n k R) {v : Nat} (hv : v ≤ 40) : rowOk n k (upd R 0 (nI v)) := by
  obtain ⟨⟨v0, hv0, e0⟩, ⟨t0, ht0, e1⟩, ⟨cu, hcu, e2⟩, hA⟩ := h
  exact ⟨⟨v, hv, pk_us ..⟩, ⟨t0, ht0, by rw [pk_un (by decide)]; exact e1⟩, ⟨cu, hcu, by rw [pk_un (by decide)]; exact e2⟩, aN_upd hA (Or.inl (by omega))⟩
theorem rk_1 {n k : Nat} {R : Nat → Int32} (h : rowOk n k R) {v : Nat} (hv : v ≤ 6) : rowOk n k (upd R 1 (tI v)) := by
  obtain ⟨⟨v0, hv0, e0⟩, ⟨t0, ht0, e1⟩, ⟨cu, hcu, e2⟩, hA⟩ := h
  exact ⟨⟨v0, hv0, by rw [pk_un (by decide)]; exact e0⟩, ⟨v, hv, pk_us ..⟩, ⟨cu, hcu, by rw [pk_un (by decide)]; exact e2⟩, aN_upd hA (Or.inl (by omega))⟩
theorem rk_2 {n k : Nat} {R : Nat → Int32} (h : rowOk n k R) {v : Nat} (hv : v < 2 ^ k) : rowOk n k (upd R 2 (nI v)) := by
  obtain ⟨⟨v0, hv0, e0⟩, ⟨t0, ht0, e1⟩, ⟨cu, hcu, e2⟩, hA⟩ := h
  exact ⟨⟨v0, hv0, by rw [pk_un (by decide)]; exact e0⟩, ⟨t0, ht0, by rw [pk_un (by decide)]; exact e1⟩, ⟨v, hv, pk_us ..⟩, aN_upd hA (Or.inl (by omega))⟩
theorem rk_3 {n k s l : Nat} {R : Nat → Int32} (h : rowOk n k R) (hl : l < n) : rowOk n k (upd R (3 + s) (nI l)) := by
  obtain ⟨⟨v0, hv0, e0⟩, ⟨t0, ht0, e1⟩, ⟨cu, hcu, e2⟩, hA⟩ := h
  refine ⟨⟨v0, hv0, by rw [pk_un (by omega)]; exact e0⟩, ⟨t0, ht0, by rw [pk_un (by omega)]; exact e1⟩, ⟨cu, hcu, by rw [pk_un (by omega)]; exact e2⟩, fun i hi => ?_⟩
  by_cases e : i = s
  · subst e
    exact ⟨l, hl, pk_us ..⟩
  · obtain ⟨a, ha, ea⟩ := hA i hi
    exact ⟨a, ha, by rw [pk_un (by omega)]; exact ea⟩
theorem rk_9 {n k j : Nat} {v : Int32} {R : Nat → Int32} (h : rowOk n k R) (hk : k ≤ 6) (hj : 9 ≤ j) : rowOk n k (upd R j v) := by
  obtain ⟨⟨v0, hv0, e0⟩, ⟨t0, ht0, e1⟩, ⟨cu, hcu, e2⟩, hA⟩ := h
  exact ⟨⟨v0, hv0, by rw [pk_un (by omega)]; exact e0⟩, ⟨t0, ht0, by rw [pk_un (by omega)]; exact e1⟩, ⟨cu, hcu, by rw [pk_un (by omega)]; exact e2⟩, aN_upd hA (Or.inr (by omega))⟩
theorem op_lifts {N : Nat} {x : Int32} (hN : 2000 ≤ N) : same1 (jm_X8_lifts N x) (jm_X9_lifts N x) := by
  intro c m h
  have h' := h
  obtain ⟨n, k, b, F, Wt, Sg, bl, bt, hD, hT, hI, hSe, hNN, ht⟩ := h'
  have hNN' := hNN
  obtain ⟨R, u, p, q, hR, r1, r2, -, -, -, -, -, -, -, -⟩ := hNN'
  by_cases a1 : x < -5
  · unfold jm_X8_lifts jm_X9_lifts
    rw [if_pos a1, in_n (Or.inl a1), bd_s, if_pos p00]
    exact qs h rfl rfl
  by_cases a2 : 5 < x
  · unfold jm_X8_lifts jm_X9_lifts
    rw [if_neg a1, if_pos a2, in_n (Or.inr a2), bd_s, if_pos p00]
    exact qs h rfl rfl
  by_cases a3 : x = 0
  · unfold jm_X8_lifts jm_X9_lifts
    rw [if_neg a1, if_neg a2, if_pos a3, in_y a1 a2, bd_s, if_neg n10, if_pos a3]
    exact qs h rfl rfl
  have eq0 : jm_X4_lift N 38 c = some (R 0, c) := by
    show some (c.1 39 0, c) = _
    rw [r1 0 (by omega)]
  have eq1 : m.1 13 0 = R 0 := r2 0 (by omega)
  rcases rng (R 0 + x) (M := 40) (by omega) with h1 | ⟨h1, h2⟩ | ⟨v, hv, ev⟩
  · unfold jm_X8_lifts jm_X9_lifts
    rw [if_neg a1, if_neg a2, if_neg a3, in_y a1 a2, bd_s, if_neg n10, if_neg a3, eq0, bd_s, eq1, if_pos h1, in_n (Or.inl h1), bd_s, if_pos p00]
    exact qs h rfl rfl
  · unfold jm_X8_lifts jm_X9_lifts
    rw [if_neg a1, if_neg a2, if_neg a3, in_y a1 a2, bd_s, if_neg n10, if_neg a3, eq0, bd_s, eq1, if_neg h1, if_neg (show ¬ R 0 + x ≤ 40 from nlt_le h2), in_n (b := 40) (Or.inr h2), bd_s, if_pos p00]
    exact qs h rfl rfl
  · obtain ⟨c1, m1, d1, d2, d3, d4, d5, d6⟩ := deed (N := N) hD hT hI hSe hNN ht hN
    refine ⟨nI v, pU c1 39 0 (nI v), pU m1 13 0 (nI v), ?_, ?_, d6 _ _ (upd R 0 (nI v)) (dC_U ..) (dM_U ..) (rk_0 hR hv) ?_ ?_⟩
    · unfold jm_X8_lifts
      rw [if_neg a1, if_neg a2, if_neg a3, eq0, bd_s, ev, if_neg (nI_pos (by omega)), if_pos (show nI v ≤ 40 from yle (b := 40) hv (by omega)), d1, bd_s]
      rfl
    · unfold jm_X9_lifts
      rw [in_y a1 a2, bd_s, if_neg n10, if_neg a3, eq1, ev, show jm_X9_in N (nI v) 0 40 m = some (1, m) from rng_i (M := 40) hv (by omega), bd_s, if_neg n10, d2, bd_s, d4 13 (by decide) (by decide), eq1, ev, nm_d, pU_1, pk_us]
    · rw [pU_1, d3 39 (by decide) (by decide)]; exact rV_u r1 _ _
    · rw [pU_1, d4 13 (by decide) (by decide)]; exact rV_u r2 _ _
theorem op_tilts {N : Nat} {x : Int32} (hN : 2000 ≤ N) : same1 (jm_X8_tilts N x) (jm_X9_tilts N x) := by
  intro c m h
  have h' := h
  obtain ⟨n, k, b, F, Wt, Sg, bl, bt, hD, hT, hI, hSe, hNN, ht⟩ := h'
  have hNN' := hNN
  obtain ⟨R, u, p, q, hR, r1, r2, -, -, -, -, -, -, -, -⟩ := hNN'
  have eq0 : jm_X4_tilt N 38 c = some (R 1, c) := by
    show some (c.1 39 1, c) = _
    rw [r1 1 (by omega)]
  have eq1 : m.1 13 1 = R 1 := r2 1 (by omega)
  by_cases a1 : x < -3
  · unfold jm_X8_tilts jm_X9_tilts
    rw [eq0, bd_s, if_pos a1, in_n (Or.inl a1), bd_s, if_pos p00]
    exact qs h rfl rfl
  by_cases a2 : 3 < x
  · unfold jm_X8_tilts jm_X9_tilts
    rw [eq0, bd_s, if_neg a1, if_pos a2, in_n (Or.inr a2), bd_s, if_pos p00]
    exact qs h rfl rfl
  by_cases a3 : x = R 1
  · unfold jm_X8_tilts jm_X9_tilts
    rw [eq0, bd_s, if_neg a1, if_neg a2, if_pos a3, in_y a1 a2, bd_s, if_neg n10, eq1, if_pos a3]
    exact qs h rfl rfl
  have ex : ∃ t, t ≤ 6 ∧ x = tI t := by
    have b1 : (-3 : Int32).toInt = -3 := rfl
    have b2 : (3 : Int32).toInt = 3 := rfl
    rw [i_lt, b1] at a1
    rw [i_lt, b2] at a2
    have tt : ∀ t : Fin 7, (tI t.val).toInt = (t.val : Int) - 3 := by decide +kernel
    refine ⟨(x.toInt + 3).toNat, by omega, ?_⟩
    have g := tt ⟨(x.toInt + 3).toNat, by omega⟩
    rw [i_eq, g]
    show x.toInt = ((x.toInt + 3).toNat : Int) - 3
    omega
  obtain ⟨t, hv, rfl⟩ := ex
  obtain ⟨c1, m1, d1, d2, d3, d4, d5, d6⟩ := deed (N := N) hD hT hI hSe hNN ht hN
  refine ⟨R 1, pU c1 39 1 (tI t), pU m1 13 1 (tI t), ?_, ?_, d6 _ _ (upd R 1 (tI t)) (dC_U ..) (dM_U ..) (rk_1 hR hv) ?_ ?_⟩
  · unfold jm_X8_tilts
    rw [eq0, bd_s, if_neg a1, if_neg a2, if_neg a3, d1, bd_s]
    rfl
  · unfold jm_X9_tilts
    rw [in_y a1 a2, bd_s, if_neg n10, eq1, if_neg a3, d2, bd_s, d4 13 (by decide) (by decide), eq1, nm_d]
  · rw [pU_1, d3 39 (by decide) (by decide)]; exact rV_u r1 _ _
  · rw [pU_1, d4 13 (by decide) (by decide)]; exact rV_u r2 _ _
theorem or_N {s cu : Nat} (hs : s < 16) : nI cu ||| ((1 : Int32) <<< (nI s &&& 31)) = nI (cu ||| 2 ^ s) := by
  rw [show (1 : Int32) <<< (nI s &&& 31) = nI (2 ^ s) from b1 hs, nI_or]
theorem op_cuts {N : Nat} {x : Int32} (hN : 2000 ≤ N) : same1 (jm_X8_cuts N x) (jm_X9_cuts N x) := by
  intro c m h
  have h' := h
  obtain ⟨n, k, b, F, Wt, Sg, bl, bt, hD, hT, hI, hSe, hNN, ht⟩ := h'
  have hNN' := hNN
  obtain ⟨R, u, p, q, hR, r1, r2, -, -, -, -, -, -, -, -⟩ := hNN'
  have hR' := hR
  obtain ⟨-, -, ⟨cu, hcu, e2⟩, hA⟩ := hR'
  have hk : k ≤ 6 := hD.1.2.2.2.1
  rcases isS (N := N) (x := x) hD.1.2.1 hD.2.1.2.1 (by omega) with ⟨⟨s, hs, rfl⟩, i1, i2⟩ | ⟨i1, i2⟩
  · by_cases z : cutP R s
    · unfold jm_X8_cuts jm_X9_cuts
      rw [i1, i2, bd_s, bd_s, if_neg n10, if_neg n10, q_isCut r1, q_has, r2 2 (by omega), if_pos z, bd_s, bd_s, if_neg n10, if_neg n10]
      exact qs h rfl rfl
    · obtain ⟨c1, m1, d1, d2, d3, d4, d5, d6⟩ := deed (N := N) hD hT hI hSe hNN ht hN
      have hw : cu ||| 2 ^ s < 2 ^ k := Nat.or_lt_two_pow hcu (Nat.pow_lt_pow_right (by omega) hs)
      have hO : rowOk n k (upd R 2 (nI (cu ||| 2 ^ s))) := rk_2 hR hw
      have s1 : rV ((pU c1 39 2 (nI (cu ||| 2 ^ s))).1 39) (upd R 2 (nI (cu ||| 2 ^ s))) := by
        rw [pU_1, d3 39 (by decide) (by decide)]; exact rV_u r1 _ _
      have s2 : rV ((pU m1 13 2 (nI (cu ||| 2 ^ s))).1 13) (upd R 2 (nI (cu ||| 2 ^ s))) := by
        rw [pU_1, d4 13 (by decide) (by decide)]; exact rV_u r2 _ _
      obtain ⟨v1, v2⟩ := d5 (pU c1 39 2 (nI (cu ||| 2 ^ s))) (pU m1 13 2 (nI (cu ||| 2 ^ s))) (dC_U ..) (dM_U ..)
      refine ⟨nI (pop (bN (gdP F (upd R 2 (nI (cu ||| 2 ^ s))) k) n)), _, _, ?_, ?_, d6 _ _ (upd R 2 (nI (cu ||| 2 ^ s))) (dC_U ..) (dM_U ..) hO s1 s2⟩
      · unfold jm_X8_cuts jm_X4_cut jm_X4_setCut
        rw [i1, bd_s, if_neg n10, q_isCut r1, if_neg z, bd_s, if_pos p00, d1, bd_s, bd_s, show 38 + 1 = 39 from rfl, d3 39 (by decide) (by decide), r1 2 (by omega), e2, or_N (by omega), nm_d, bd_s]
        exact bd_e (q_hmg v1 s1 hO.2.2.2 hN)
      · unfold jm_X9_cuts
        rw [i2, bd_s, if_neg n10, q_has, r2 2 (by omega), if_neg z, bd_s, if_pos p00, d2, bd_s, d4 13 (by decide) (by decide), r2 2 (by omega), e2, or_N (by omega), nm_d]
        exact q_hmg9 v2 s2 hO.2.2.2 hN
  · unfold jm_X8_cuts jm_X9_cuts
    rw [i1, i2, bd_s, bd_s, if_pos p00, if_pos p00]
    exact qs h rfl rfl
theorem op_ties {N : Nat} {x y z : Int32} (hN : 2000 ≤ N) : same1 (jm_X8_ties N x y z) (jm_X9_ties N x y z) := by
  intro c m h
  have h' := h
  obtain ⟨n, k, b, F, Wt, Sg, bl, bt, hD, hT, hI, hSe, hNN, ht⟩ := h'
  have hNN' := hNN
  obtain ⟨R, u, p, q, hR, r1, r2, -, -, -, -, -, -, -, -⟩ := hNN'
  have hR' := hR
  obtain ⟨-, -, ⟨cu, hcu, e2⟩, hA⟩ := hR'
  have hk : k ≤ 6 := hD.1.2.2.2.1
  have hcu' : cu < 64 := Nat.lt_of_lt_of_le hcu (pow6 hk)
  rcases isS (N := N) (x := x) hD.1.2.1 hD.2.1.2.1 (by omega) with ⟨⟨s, hs, rfl⟩, i1, i2⟩ | ⟨i1, i2⟩
  · rcases isL (N := N) (x := y) hD.1.1 hD.2.1.1 hD.1.2.2.1 with ⟨⟨l, hl, rfl⟩, j1, j2⟩ | ⟨j1, j2⟩
    · rcases rng z (M := 40) (by omega) with h1 | ⟨h1, h2⟩ | ⟨v, hv, rfl⟩
      · unfold jm_X8_ties jm_X9_ties
        rw [i1, i2, bd_s, bd_s, if_neg n10, if_neg n10, j1, j2, bd_s, bd_s, if_neg n10, if_neg n10, if_pos h1, in_n (Or.inl h1), bd_s, if_pos p00]
        exact qs h rfl rfl
      · unfold jm_X8_ties jm_X9_ties
        rw [i1, i2, bd_s, bd_s, if_neg n10, if_neg n10, j1, j2, bd_s, bd_s, if_neg n10, if_neg n10, if_neg h1, if_neg (show ¬ z ≤ 40 from nlt_le h2), in_n (b := 40) (Or.inr h2), bd_s, if_pos p00]
        exact qs h rfl rfl
      · have ci : jm_X9_in N (nI v) 0 40 m = some (1, m) := rng_i (M := 40) hv (by omega)
        have cn : nI v ≤ 40 := yle (b := 40) hv (by omega)
        by_cases z : cutP R s
        · obtain ⟨c1, m1, d1, d2, d3, d4, d5, d6⟩ := deed (N := N) hD hT hI hSe hNN ht hN
          have er := (rm_all ⟨cu, by omega⟩ ⟨s, by omega⟩).1
          simp only [] at er
          generalize eR' : upd (upd (upd R 2 (nI (rm cu s))) (3 + s) (nI l)) (15 + s) (nI v) = R'
          have hO : rowOk n k R' := by rw [← eR']; exact rk_9 (rk_3 (rk_2 hR (rm_lt hcu)) hl) hk (by omega)
          generalize ec2 : pU (pU (pU c1 39 2 (nI (rm cu s))) 39 (3 + s) (nI l)) 39 (15 + s) (nI v) = c2
          generalize em2 : pU (pU (pU m1 13 2 (nI (rm cu s))) 13 (3 + s) (nI l)) 13 (15 + s) (nI v) = m2
          have k1 : dC c1 c2 := by rw [← ec2]; exact dC_t (dC_t (dC_U ..) (dC_U ..)) (dC_U ..)
          have k2 : dM m1 m2 := by rw [← em2]; exact dM_t (dM_t (dM_U ..) (dM_U ..)) (dM_U ..)
          have s1 : rV (c2.1 39) R' := by
            rw [← ec2, ← eR', pU_1, pU_1, pU_1, d3 39 (by decide) (by decide)]; exact rV_u (rV_u (rV_u r1 _ _) _ _) _ _
          have s2 : rV (m2.1 13) R' := by
            rw [← em2, ← eR', pU_1, pU_1, pU_1, d4 13 (by decide) (by decide)]; exact rV_u (rV_u (rV_u r2 _ _) _ _) _ _
          obtain ⟨v1, v2⟩ := d5 c2 m2 k1 k2
          refine ⟨nI (pop (bN (gdP F R' k) n)), c2, m2, ?_, ?_, d6 _ _ R' k1 k2 hO s1 s2⟩
          · unfold jm_X8_ties jm_X4_cut jm_X4_setCut jm_X4_setLimb jm_X4_setLength
            rw [i1, bd_s, if_neg n10, j1, bd_s, if_neg n10, if_neg (nI_pos (by omega)), if_pos cn, q_isCut r1, if_pos z, bd_s, if_neg n10, d1, bd_s, bd_s, show 38 + 1 = 39 from rfl, d3 39 (by decide) (by decide), r1 2 (by omega), e2, er, nm_d, bd_s, a3, inB_nI (by omega) (by omega), gd_t, nm_d, bd_s, a15, inB_nI (by omega) (by omega), gd_t, nm_d, bd_s, cl (by omega), cl (by omega), ec2]
            exact bd_e (q_hmg v1 s1 hO.2.2.2 hN)
          · unfold jm_X9_ties
            rw [i2, bd_s, if_neg n10, j2, bd_s, if_neg n10, ci, bd_s, if_neg n10, q_has, r2 2 (by omega), if_pos z, bd_s, if_neg n10, d2, bd_s, d4 13 (by decide) (by decide), r2 2 (by omega), e2, er, nm_d, a3, inB_nI (by omega) (by omega), gd_t, nm_d, a15, inB_nI (by omega) (by omega), gd_t, nm_d, cl (by omega), cl (by omega), em2]
            exact q_hmg9 v2 s2 hO.2.2.2 hN
        · unfold jm_X8_ties jm_X9_ties
          rw [i1, i2, bd_s, bd_s, if_neg n10, if_neg n10, j1, j2, bd_s, bd_s, if_neg n10, if_neg n10, if_neg (nI_pos (by omega)), if_pos cn, ci, bd_s, if_neg n10, q_isCut r1, q_has, r2 2 (by omega), if_neg z, bd_s, bd_s, if_pos p00, if_pos p00]
          exact qs h rfl rfl
    · unfold jm_X8_ties jm_X9_ties
      rw [i1, i2, bd_s, bd_s, if_neg n10, if_neg n10, j1, j2, bd_s, bd_s, if_pos p00, if_pos p00]
      exact qs h rfl rfl
  · unfold jm_X8_ties jm_X9_ties
    rw [i1, i2, bd_s, bd_s, if_pos p00, if_pos p00]
    exact qs h rfl rfl
theorem op_hangs {N : Nat} {x y : Int32} (hN : 2000 ≤ N) : same1 (jm_X8_hangs N x y) (jm_X9_hangs N x y) := by
  intro c m h
  have h' := h
  obtain ⟨n, k, b, F, Wt, Sg, bl, bt, hD, hT, hI, hSe, hNN, ht⟩ := h'
  have hNN' := hNN
  obtain ⟨R, u, p, q, hR, r1, r2, -, -, -, -, -, -, -, -⟩ := hNN'
  have hk : k ≤ 6 := hD.1.2.2.2.1
  rcases isS (N := N) (x := x) hD.1.2.1 hD.2.1.2.1 (by omega) with ⟨⟨s, hs, rfl⟩, i1, i2⟩ | ⟨i1, i2⟩
  · rcases rng y (M := 6) (by omega) with h1 | ⟨h1, h2⟩ | ⟨v, hv, rfl⟩
    · unfold jm_X8_hangs jm_X9_hangs
      rw [i1, i2, bd_s, bd_s, if_neg n10, if_neg n10, if_pos h1, in_n (Or.inl h1), bd_s, if_pos p00]
      exact qs h rfl rfl
    · unfold jm_X8_hangs jm_X9_hangs
      rw [i1, i2, bd_s, bd_s, if_neg n10, if_neg n10, if_neg h1, if_neg (show ¬ y ≤ 6 from nlt_le h2), in_n (b := 6) (Or.inr h2), bd_s, if_pos p00]
      exact qs h rfl rfl
    · have ci : jm_X9_in N (nI v) 0 6 m = some (1, m) := rng_i (M := 6) hv (by omega)
      have cn : nI v ≤ 6 := yle (b := 6) hv (by omega)
      by_cases z : R (9 + s) = nI v
      · refine qs h (r := -2) ?_ ?_
        · unfold jm_X8_hangs
          rw [i1, bd_s, if_neg n10, if_neg (nI_pos (by omega)), if_pos cn, q_holeOf r1 (by omega), bd_s, if_pos z]
        · unfold jm_X9_hangs
          rw [i2, bd_s, if_neg n10, ci, bd_s, if_neg n10, a9, inB_nI (by omega) (by omega), gd_t, nm_d, cl (by omega), r2 (9 + s) (by omega), if_pos z]
      · obtain ⟨c1, m1, d1, d2, d3, d4, d5, d6⟩ := deed (N := N) hD hT hI hSe hNN ht hN
        refine ⟨R (9 + s), pU c1 39 (9 + s) (nI v), pU m1 13 (9 + s) (nI v), ?_, ?_, d6 _ _ (upd R (9 + s) (nI v)) (dC_U ..) (dM_U ..) (rk_9 hR hk (by omega)) ?_ ?_⟩
        · unfold jm_X8_hangs jm_X4_setHole
          rw [i1, bd_s, if_neg n10, if_neg (nI_pos (by omega)), if_pos cn, q_holeOf r1 (by omega), bd_s, if_neg z, d1, bd_s, a9, inB_nI (by omega) (by omega), gd_t, nm_d, bd_s, cl (by omega)]
        · unfold jm_X9_hangs
          rw [i2, bd_s, if_neg n10, ci, bd_s, if_neg n10, a9, inB_nI (by omega) (by omega), gd_t, nm_d, cl (by omega), r2 (9 + s) (by omega), if_neg z, d2, bd_s, gd_t, nm_d]
        · rw [pU_1, d3 39 (by decide) (by decide)]; exact rV_u r1 _ _
        · rw [pU_1, d4 13 (by decide) (by decide)]; exact rV_u r2 _ _
  · unfold jm_X8_hangs jm_X9_hangs
    rw [i1, i2, bd_s, bd_s, if_pos p00, if_pos p00]
    exact qs h rfl rfl
theorem op_beats {N : Nat} {x : Int32} (hN : 2000 ≤ N) : same1 (jm_X8_beats N x) (jm_X9_beats N x) := by
  intro c m h
  have h' := h
  obtain ⟨n, k, b, F, Wt, Sg, bl, bt, hD, hT, hI, hSe, hNN, ht⟩ := h'
  have hNN' := hNN
  obtain ⟨R, u, p, q, hR, r1, r2, -, -, -, -, -, -, -, -⟩ := hNN'
  have hD' := hD
  obtain ⟨-, -, -, -, -, hB, hB'⟩ := hD'
  have hb := hB.2.1
  rcases isB (N := N) (x := x) hB.1 hB'.1 (by omega) with ⟨⟨i, hi, rfl⟩, i1, i2⟩ | ⟨i1, i2⟩
  · obtain ⟨c1, m1, d1, d2, d3, d4, d5, d6⟩ := deed (N := N) hD hT hI hSe hNN ht hN
    obtain ⟨g1, g2, g3, g4⟩ := hB.2.2 i hi
    obtain ⟨f1, f2, -, -⟩ := hB'.2.2 i hi
    generalize eR' : upd (upd R 0 (nI (bl i))) 1 (tI (bt i)) = R'
    have hO : rowOk n k R' := by rw [← eR']; exact rk_1 (rk_0 hR g3) g4
    generalize ec2 : pU (pU c1 39 0 (nI (bl i))) 39 1 (tI (bt i)) = c2
    generalize em2 : pU (pU m1 13 0 (nI (bl i))) 13 1 (tI (bt i)) = m2
    have k1 : dC c1 c2 := by rw [← ec2]; exact dC_t (dC_U ..) (dC_U ..)
    have k2 : dM m1 m2 := by rw [← em2]; exact dM_t (dM_U ..) (dM_U ..)
    have s1 : rV (c2.1 39) R' := by
      rw [← ec2, ← eR', pU_1, pU_1, d3 39 (by decide) (by decide)]; exact rV_u (rV_u r1 _ _) _ _
    have s2 : rV (m2.1 13) R' := by
      rw [← em2, ← eR', pU_1, pU_1, d4 13 (by decide) (by decide)]; exact rV_u (rV_u r2 _ _) _ _
    obtain ⟨v1, v2⟩ := d5 c2 m2 k1 k2
    refine ⟨nI (pop (bN (gdP F R' k) n)), c2, m2, ?_, ?_, d6 _ _ R' k1 k2 hO s1 s2⟩
    · unfold jm_X8_beats
      rw [i1, bd_s, if_neg n10, d1, bd_s, q_move (p := 38) (BL := fun i => nI (bl i)) (BT := fun i => tI (bt i)) hi hb (fun j hj => by rw [d3 22 (by decide) (by decide)]; exact (hB.2.2 j hj).1) (fun j hj => by rw [d3 23 (by decide) (by decide)]; exact (hB.2.2 j hj).2.1) (by decide) (by decide), bd_s, show 38 + 1 = 39 from rfl, ec2]
      exact bd_e (q_hmg v1 s1 hO.2.2.2 hN)
    · unfold jm_X9_beats
      rw [i2, bd_s, if_neg n10, d2, bd_s, inB_nI (by omega) (by omega), gd_t, cl (by omega), d4 10 (by decide) (by decide), f1, nm_d, pU_n (show ¬ 11 = 13 by decide), d4 11 (by decide) (by decide), f2, gd_t, nm_d, em2]
      exact q_hmg9 v2 s2 hO.2.2.2 hN
  · unfold jm_X8_beats jm_X9_beats
    rw [i1, i2, bd_s, bd_s, if_pos p00, if_pos p00]
    exact qs h rfl rfl
