/-! PURE: an item; all items -/
theorem rdItem {N b nn : Nat} {T : Nat → Nat} {nb : Nat} {c : PS} (hc : txC c nb T) (hb : b < nb) (s2 : c.1 1 2 = 1) (s3 : c.1 1 3 = nI b) (s4 : c.1 1 4 = nI (b + 1)) (hm : jm_X6_mayBegin N (nI (T b)) 27 c = some (1, c)) (hh : ∀ s, jm_X6_howManyNumbers N (nI (T b)) s = some (nI nn, s)) : jm_X6_readItem N 27 c = clP N (nI (T b)) nn 0 N c := by
  have hnb := hc.2.1
  unfold jm_X6_readItem clP
  rw [if_pos s2, if_pos (show c.1 1 4 - c.1 1 3 = 1 by rw [s4, s3, pk_sub (by omega), show b + 1 - b = 1 by omega]; rfl), s3, inB_nI (show b < 170 by omega) (by omega), gd_t, cl (by omega), (hc.2.2 b hb).1, hm, bd_s, if_neg n10]
  cases jm_X6_nextToken N c with
  | none => rfl
  | some z =>
    obtain ⟨z1, z2⟩ := z
    rw [bd_s, bd_s, hh, bd_s, nm_d]
    rfl
theorem rdItem_no {N b : Nat} {T : Nat → Nat} {nb : Nat} {c : PS} (hc : txC c nb T) (hb : b < nb) (s2 : c.1 1 2 = 1) (s3 : c.1 1 3 = nI b) (s4 : c.1 1 4 = nI (b + 1)) (hm : jm_X6_mayBegin N (nI (T b)) 27 c = some (0, c)) : jm_X6_readItem N 27 c = some (0, c) := by
  have hnb := hc.2.1
  unfold jm_X6_readItem
  rw [if_pos s2, if_pos (show c.1 1 4 - c.1 1 3 = 1 by rw [s4, s3, pk_sub (by omega), show b + 1 - b = 1 by omega]; rfl), s3, inB_nI (show b < 170 by omega) (by omega), gd_t, cl (by omega), (hc.2.2 b hb).1, hm, bd_s, if_pos p00]
theorem bdz {x : Option (Int32 × PS)} {r : Int32} {s : PS} (h : x = some (r, s)) (hr : isZ r = true) : bd x (fun v2 st3 => gd (isZ v2) (some ((v2, st3)))) = some (r, s) := by rw [h, bd_s, hr, gd_t]
theorem itemR_z {N nb it : Nat} {c m : PS} {T : Nat → Nat} {rd8 rd8' rd9 rd9' : Option (Int32 × PS)} (h : itemR N c m T nb it rd8 rd9) (e8 : rd8' = rd8) (e9 : rd9' = bd rd9 (fun v2 st3 => gd (isZ v2) (some ((v2, st3))))) : itemR N c m T nb it rd8' rd9' := by
  subst e8; subst e9
  rcases h with ⟨c1, m1, h1, h2, h3⟩ | ⟨c1, m0, m1, h1, h2, h3⟩
  · exact Or.inl ⟨c1, m1, h1, bdz h2 rfl, h3⟩
  · exact Or.inr ⟨c1, m0, m1, h1, bdz h2 rfl, h3⟩
theorem nIn {a b : Nat} (ha : a < 100000) (hb : b < 100000) (h : a ≠ b) : ¬ nI a = nI b := fun e => h ((nI_eq (by omega) (by omega)).mp e)
theorem item {N nb it b e : Nat} {T : Nat → Nat} {c m : PS} (hc : txC c nb T) (hm : txM m nb T) (hb : b < nb) (he : e = b + 1) (henb : e ≤ nb) (s2 : c.1 1 2 = 1) (s3 : c.1 1 3 = nI b) (s4 : c.1 1 4 = nI e) (t2 : m.1 0 2 = nI e) (t4 : m.1 0 4 = nI (T b)) (hh : hand c m T nb) (hR : rdR c m it) (hN : 2000 ≤ N) : itemR N c m T nb it (jm_X6_readItem N 27 c) (jm_X9_readsItem N m) := by
  subst he
  obtain ⟨n, k, bb, z1, z2, hL, hS, hB, hU, h9, hit⟩ := hR
  have hp : pre c m T nb := ⟨hc, hm, b + 1, henb, s4, t2⟩
  have hTb := (hc.2.2 b hb).2
  have hn8 := hL.2.2.1
  have hk6 := hS.2.2.1
  have hb7 := hB.2.2.1
  obtain ⟨M, hM⟩ : ∃ M, N = M + 5 := ⟨N - 5, by omega⟩
  have no : jm_X6_mayBegin N (nI (T b)) 27 c = some (0, c) → jm_X9_readsItem N m = some (0, m) → itemR N c m T nb it (jm_X6_readItem N 27 c) (jm_X9_readsItem N m) := fun q1 q2 => Or.inl ⟨c, m, rdItem_no hc hb s2 s3 s4 q1, q2, hh, cF_r c, mF_r m⟩
  by_cases y1 : T b = 98
  · have ey : nI (T b) = 98 := by rw [y1]; rfl
    by_cases z : bb = 7
    · refine no ?_ ?_
      · unfold jm_X6_mayBegin
        rw [if_pos ey, hB.1, z, if_pos (show (7 : Int32) ≤ nI 7 by decide)]
      · unfold jm_X9_readsItem jm_X9_readsBeat
        rw [t4, if_pos ey, hB.2.1, z, if_pos (show nI 7 = 7 by rfl)]; rfl
    · have hlt : bb < 7 := by omega
      have q := beat2 (N := N) (M := M + 2) hp hL hS hB hU h9 hit hlt (fun s hs => rfl) (fun s hs => rfl) (fun s hs => rfl) (fun s hs => rfl) hN
      refine itemR_z q ?_ ?_
      · rw [rdItem (nn := 2) hc hb s2 s3 s4 (by
          unfold jm_X6_mayBegin
          rw [if_pos ey, hB.1, if_neg (show ¬ (7 : Int32) ≤ nI bb from nle (a := 7) hlt (by omega))]) (fun s => by
          unfold jm_X6_howManyNumbers
          rw [if_pos ey]; rfl), ey, show M + 2 + 3 = M + 5 by omega, ← hM]
      · unfold jm_X9_readsItem jm_X9_readsBeat
        rw [t4, if_pos ey, hB.2.1, if_neg (show ¬ nI bb = 7 from nIn (b := 7) (by omega) (by omega) z)]
  have ny1 : ¬ nI (T b) = 98 := nIn (b := 98) (by omega) (by omega) y1
  by_cases y2 : T b = 108
  · have ey : nI (T b) = 108 := by rw [y2]; rfl
    by_cases z : n = 8
    · refine no ?_ ?_
      · unfold jm_X6_mayBegin
        rw [if_neg ny1, if_pos ey, hL.1, z, if_pos (show (8 : Int32) ≤ nI 8 by decide)]
      · unfold jm_X9_readsItem jm_X9_readsLimb
        rw [t4, if_neg ny1, if_pos ey, hL.2.1, z, if_pos (show nI 8 = 8 by rfl)]; rfl
    · have hlt : n < 8 := by omega
      have e8 : jm_X6_readItem N 27 c = clP N 108 3 0 (M + 1 + 4) c := by
        rw [rdItem (nn := 3) hc hb s2 s3 s4 (by
          unfold jm_X6_mayBegin
          rw [if_neg ny1, if_pos ey, hL.1, if_neg (show ¬ (8 : Int32) ≤ nI n from nle (a := 8) hlt (by omega))]) (fun s => by
          unfold jm_X6_howManyNumbers
          rw [if_neg ny1, if_pos ey]; rfl), ey, show M + 1 + 4 = M + 5 by omega, ← hM]
      have k7 : ∀ s : PS, s.1 27 = c.1 27 → s.1 27 7 = nI n := fun s hs => by rw [hs]; exact hL.1
      by_cases z0 : n = 0
      · have q := limb3 (N := N) (M := M + 1) (lo0 := 0) (hi0 := 0) (lo1 := 0) (hi1 := 0) hp hL hS hB hU h9 hit hlt
          (fun s hs => by unfold jm_X6_least; rw [if_pos rfl, if_neg (show ¬ nI 0 = 1 by decide), if_pos (show nI 0 = 0 from rfl)])
          (fun s hs => by
            unfold jm_X6_most jm_X6_mostOfLimb
            rw [if_neg (show ¬ (108 : Int32) = 98 by decide), if_pos rfl, if_neg (show ¬ nI 0 = 2 by decide), k7 s hs, z0, if_pos (show nI 0 = 0 from rfl), bd_s])
          (fun s hs => by unfold jm_X6_least; rw [if_pos rfl, if_pos (show nI 1 = 1 from rfl), k7 s hs, z0, if_pos (show nI 0 = 0 from rfl), if_neg (show ¬ nI 1 = 0 by decide)])
          (fun s hs => by
            unfold jm_X6_most jm_X6_mostOfLimb
            rw [if_neg (show ¬ (108 : Int32) = 98 by decide), if_pos rfl, if_neg (show ¬ nI 1 = 2 by decide), k7 s hs, z0, if_pos (show nI 0 = 0 from rfl), bd_s])
          (fun s hs => by unfold jm_X6_least; rw [if_pos rfl, if_neg (show ¬ nI 2 = 1 by decide), if_neg (show ¬ nI 2 = 0 by decide)])
          (fun s hs => by
            unfold jm_X6_most jm_X6_mostOfLimb
            rw [if_neg (show ¬ (108 : Int32) = 98 by decide), if_pos rfl, if_pos (show nI 2 = 2 from rfl), bd_s])
          (fun v hv q => by
            have := v_le (n := 0) hv (by omega) q
            exact Or.inr ⟨z0, by omega⟩) hN
        refine itemR_z q e8 ?_
        unfold jm_X9_readsItem jm_X9_readsLimb
        rw [t4, if_neg ny1, if_pos ey, hL.2.1, if_neg (show ¬ nI n = 8 from nIn (b := 8) (by omega) (by omega) z), if_pos (show nI n = 0 by rw [z0]; rfl)]
      · have nz : ¬ nI n = 0 := nIn (b := 0) (by omega) (by omega) z0
        have q := limb3 (N := N) (M := M + 1) (lo0 := 0) (hi0 := nI n - 1) (lo1 := 1) (hi1 := 9) hp hL hS hB hU h9 hit hlt
          (fun s hs => by unfold jm_X6_least; rw [if_pos rfl, if_neg (show ¬ nI 0 = 1 by decide), if_pos (show nI 0 = 0 from rfl)])
          (fun s hs => by
            unfold jm_X6_most jm_X6_mostOfLimb
            rw [if_neg (show ¬ (108 : Int32) = 98 by decide), if_pos rfl, if_neg (show ¬ nI 0 = 2 by decide), k7 s hs, if_neg nz, if_pos (show nI 0 = 0 from rfl), bd_s])
          (fun s hs => by unfold jm_X6_least; rw [if_pos rfl, if_pos (show nI 1 = 1 from rfl), k7 s hs, if_neg nz, if_neg (show ¬ nI 1 = 0 by decide)])
          (fun s hs => by
            unfold jm_X6_most jm_X6_mostOfLimb
            rw [if_neg (show ¬ (108 : Int32) = 98 by decide), if_pos rfl, if_neg (show ¬ nI 1 = 2 by decide), k7 s hs, if_neg nz, if_neg (show ¬ nI 1 = 0 by decide), bd_s])
          (fun s hs => by unfold jm_X6_least; rw [if_pos rfl, if_neg (show ¬ nI 2 = 1 by decide), if_neg (show ¬ nI 2 = 0 by decide)])
          (fun s hs => by
            unfold jm_X6_most jm_X6_mostOfLimb
            rw [if_neg (show ¬ (108 : Int32) = 98 by decide), if_pos rfl, if_pos (show nI 2 = 2 from rfl), bd_s])
          (fun v hv q => by
            have := v_le (n := n - 1) hv (by omega) (by rw [← pk_sub (by omega)]; exact q)
            exact Or.inl (by omega)) hN
        refine itemR_z q e8 ?_
        unfold jm_X9_readsItem jm_X9_readsLimb
        rw [t4, if_neg ny1, if_pos ey, hL.2.1, if_neg (show ¬ nI n = 8 from nIn (b := 8) (by omega) (by omega) z), if_neg nz]
  have ny2 : ¬ nI (T b) = 108 := nIn (b := 108) (by omega) (by omega) y2
  by_cases y3 : T b = 115
  · have ey : nI (T b) = 115 := by rw [y3]; rfl
    by_cases z : k = 6
    · refine no ?_ ?_
      · unfold jm_X6_mayBegin
        rw [if_neg ny1, if_neg ny2, if_pos ey, hS.1, z, if_pos (show (6 : Int32) ≤ nI 6 by decide)]
      · unfold jm_X9_readsItem jm_X9_readsString
        rw [t4, if_neg ny1, if_neg ny2, if_pos ey, hS.2.1, z, if_pos (show nI 6 = 6 by rfl)]; rfl
    · have hlt : k < 6 := by omega
      have k7 : ∀ s : PS, s.1 27 = c.1 27 → s.1 27 7 = nI n := fun s hs => by rw [hs]; exact hL.1
      have q := string4 (N := N) (M := M) hp hL hS hB hU h9 hit hlt (fun s hs => rfl)
        (fun s hs => by
          unfold jm_X6_most jm_X6_mostOfString
          rw [if_neg (show ¬ (115 : Int32) = 98 by decide), if_neg (show ¬ (115 : Int32) = 108 by decide), if_pos rfl, if_pos (show nI 0 = 0 from rfl), k7 s hs, bd_s])
        (fun s hs => rfl) (fun s hs => rfl) (fun s hs => rfl) (fun s hs => rfl) (fun s hs => rfl) (fun s hs => rfl) hN
      refine itemR_z q ?_ ?_
      · rw [rdItem (nn := 4) hc hb s2 s3 s4 (by
          unfold jm_X6_mayBegin
          rw [if_neg ny1, if_neg ny2, if_pos ey, hS.1, if_neg (show ¬ (6 : Int32) ≤ nI k from nle (a := 6) hlt (by omega))]) (fun s => by
          unfold jm_X6_howManyNumbers
          rw [if_neg ny1, if_neg ny2, if_pos ey]; rfl), ey, ← hM]
      · unfold jm_X9_readsItem jm_X9_readsString
        rw [t4, if_neg ny1, if_neg ny2, if_pos ey, hS.2.1, if_neg (show ¬ nI k = 6 from nIn (b := 6) (by omega) (by omega) z), hL.2.1]
  have ny3 : ¬ nI (T b) = 115 := nIn (b := 115) (by omega) (by omega) y3
  by_cases y4 : T b = 116
  · have ey : nI (T b) = 116 := by rw [y4]; rfl
    have ny5 : ¬ nI (T b) = 117 := nIn (b := 117) (by omega) (by omega) (by omega)
    cases z : z2 with
    | true =>
      subst z
      refine no ?_ ?_
      · unfold jm_X6_mayBegin
        rw [if_neg ny1, if_neg ny2, if_neg ny3, if_pos ey, hU.2.2.1, if_neg (show ¬ zB true = 0 from n10)]
      · unfold jm_X9_readsItem jm_X9_readsTilt
        rw [t4, if_neg ny1, if_neg ny2, if_neg ny3, if_pos ey, hU.2.2.2.1, if_neg (show ¬ zB true = 0 from n10)]; rfl
    | false =>
      subst z
      have q := tilt1 (N := N) (M := M + 3) hp hL hS hB hU h9 hit rfl (fun s hs => rfl) (fun s hs => rfl) hN
      refine itemR_z q ?_ ?_
      · rw [rdItem (nn := 1) hc hb s2 s3 s4 (by
          unfold jm_X6_mayBegin
          rw [if_neg ny1, if_neg ny2, if_neg ny3, if_pos ey, hU.2.2.1, if_pos (show zB false = 0 from rfl)]) (fun s => by
          unfold jm_X6_howManyNumbers
          rw [if_neg ny1, if_neg ny2, if_neg ny3]; rfl), ey, show M + 3 + 2 = M + 5 by omega, ← hM]
      · unfold jm_X9_readsItem jm_X9_readsTilt
        rw [t4, if_neg ny1, if_neg ny2, if_neg ny3, if_pos ey, hU.2.2.2.1, if_pos (show zB false = 0 from rfl)]
  have ny4 : ¬ nI (T b) = 116 := nIn (b := 116) (by omega) (by omega) y4
  by_cases y5 : T b = 117
  · have ey : nI (T b) = 117 := by rw [y5]; rfl
    cases z : z1 with
    | true =>
      subst z
      refine no ?_ ?_
      · unfold jm_X6_mayBegin
        rw [if_neg ny1, if_neg ny2, if_neg ny3, if_neg ny4, if_pos ey, hU.1, if_neg (show ¬ zB true = 0 from n10)]
      · unfold jm_X9_readsItem jm_X9_readsLift
        rw [t4, if_neg ny1, if_neg ny2, if_neg ny3, if_neg ny4, if_pos ey, hU.2.1, if_neg (show ¬ zB true = 0 from n10)]; rfl
    | false =>
      subst z
      have q := lift1 (N := N) (M := M + 3) hp hL hS hB hU h9 hit rfl (fun s hs => rfl) (fun s hs => rfl) hN
      refine itemR_z q ?_ ?_
      · rw [rdItem (nn := 1) hc hb s2 s3 s4 (by
          unfold jm_X6_mayBegin
          rw [if_neg ny1, if_neg ny2, if_neg ny3, if_neg ny4, if_pos ey, hU.1, if_pos (show zB false = 0 from rfl)]) (fun s => by
          unfold jm_X6_howManyNumbers
          rw [if_neg ny1, if_neg ny2, if_neg ny3]; rfl), ey, show M + 3 + 2 = M + 5 by omega, ← hM]
      · unfold jm_X9_readsItem jm_X9_readsLift
        rw [t4, if_neg ny1, if_neg ny2, if_neg ny3, if_neg ny4, if_pos ey, hU.2.1, if_pos (show zB false = 0 from rfl)]
  have ny5 : ¬ nI (T b) = 117 := nIn (b := 117) (by omega) (by omega) y5
  refine no ?_ ?_
  · unfold jm_X6_mayBegin
    rw [if_neg ny1, if_neg ny2, if_neg ny3, if_neg ny4, if_neg ny5]
  · unfold jm_X9_readsItem
    rw [t4, if_neg ny1, if_neg ny2, if_neg ny3, if_neg ny4, if_neg ny5]
