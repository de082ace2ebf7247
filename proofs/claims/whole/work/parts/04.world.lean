theorem aD_of {am : Nat → Nat} {n : Nat} {ws : va_W} (hj : ∀ i j, i < n → j < n → am i = am j → i = j) (hm : ws.map Prod.fst = (List.range n).map am) : va_D (fun q => ∃ k, k < n ∧ q = am k) ws := by
  have key : ∀ (k : Nat) (q : Nat × va_E), ws[k]? = some q → k < n ∧ q.1 = am k := by
    intro k q hq
    have h1 : (ws.map Prod.fst)[k]? = some q.1 := by rw [List.getElem?_map, hq]; rfl
    rw [hm, List.getElem?_map] at h1
    have hk : k < n := by
      rcases Nat.lt_or_ge k n with h | h
      · exact h
      · rw [List.getElem?_eq_none (by simpa using h)] at h1; cases h1
    rw [List.getElem?_range hk] at h1
    exact ⟨hk, (Option.some.inj h1).symm⟩
  refine ⟨fun i j p q hp hq e => ?_, fun k q hq => ⟨k, (key k q hq).1, (key k q hq).2⟩⟩
  obtain ⟨h1, h2⟩ := key i p hp
  obtain ⟨h3, h4⟩ := key j q hq
  exact hj i j h1 h3 (by rw [← h2, ← h4]; exact e)
/-! the worlds of the class and of the reference, printed by wip/gen/world.py -/
def cW (am : Nat → Nat) (cI cC cS : ClassId) (st : PS) : va_W := [(am 0, .inr (8, [.ref (am 1), .ref (am 17), .ref (am 27), .ref (am 37), .ref (am 4), .ref (am 9), .ref (am 6), .ref (am 5), .ref (am 15)])),
  (am 1, .inr (6, [.ref (am 2), .int (st.1 1 1), .int (st.1 1 2), .int (st.1 1 3), .int (st.1 1 4), .int (st.1 1 5), .ref (am 3), .int (st.1 1 7), .int (st.1 1 8)])),
  (am 2, .inl (cC, 170, .inl (st.1 2))),
  (am 3, .inl (cI, 4, .inl (st.1 3))),
  (am 4, .inl (cS, 2, .inr (.inr (.inr (.inr (fun j => if j = 0 then some (am 42) else some (am 47))))))),
  (am 5, .inr (1, [.long st.2])),
  (am 6, .inr (2, [.ref (am 7), .ref (am 8), .int (st.1 6 2)])),
  (am 7, .inl (cI, 896, .inl (st.1 7))),
  (am 8, .inl (cI, 7, .inl (st.1 8))),
  (am 9, .inr (7, [.ref (am 10), .ref (am 11), .ref (am 12), .ref (am 13), .int (st.1 9 4)])),
  (am 10, .inl (cI, 6, .inl (st.1 10))),
  (am 11, .inl (cI, 6, .inl (st.1 11))),
  (am 12, .inl (cI, 7, .inl (st.1 12))),
  (am 13, .inr (4, [.ref (am 14)])),
  (am 14, .inl (cI, 21, .inl (st.1 14))),
  (am 15, .inr (4, [.ref (am 16)])),
  (am 16, .inl (cI, 21, .inl (st.1 16))),
  (am 17, .inr (0, [.ref (am 18), .ref (am 19), .ref (am 20), .ref (am 21), .ref (am 22), .ref (am 23), .ref (am 25), .int (st.1 17 7), .int (st.1 17 8), .int (st.1 17 9), .ref (am 24)])),
  (am 18, .inl (cI, 8, .inl (st.1 18))),
  (am 19, .inl (cI, 8, .inl (st.1 19))),
  (am 20, .inl (cI, 8, .inl (st.1 20))),
  (am 21, .inl (cI, 6, .inl (st.1 21))),
  (am 22, .inl (cI, 7, .inl (st.1 22))),
  (am 23, .inl (cI, 7, .inl (st.1 23))),
  (am 24, .inl (cI, 64, .inl (st.1 24))),
  (am 25, .inr (4, [.ref (am 26)])),
  (am 26, .inl (cI, 21, .inl (st.1 26))),
  (am 27, .inr (0, [.ref (am 28), .ref (am 29), .ref (am 30), .ref (am 31), .ref (am 32), .ref (am 33), .ref (am 35), .int (st.1 27 7), .int (st.1 27 8), .int (st.1 27 9), .ref (am 34)])),
  (am 28, .inl (cI, 8, .inl (st.1 28))),
  (am 29, .inl (cI, 8, .inl (st.1 29))),
  (am 30, .inl (cI, 8, .inl (st.1 30))),
  (am 31, .inl (cI, 6, .inl (st.1 31))),
  (am 32, .inl (cI, 7, .inl (st.1 32))),
  (am 33, .inl (cI, 7, .inl (st.1 33))),
  (am 34, .inl (cI, 64, .inl (st.1 34))),
  (am 35, .inr (4, [.ref (am 36)])),
  (am 36, .inl (cI, 21, .inl (st.1 36))),
  (am 37, .inr (5, [.ref (am 38), .ref (am 40), .int (st.1 37 2)])),
  (am 38, .inr (4, [.ref (am 39)])),
  (am 39, .inl (cI, 21, .inl (st.1 39))),
  (am 40, .inr (3, [.ref (am 41), .int (st.1 40 1), .int (st.1 40 2)])),
  (am 41, .inl (cI, 210, .inl (st.1 41))),
  (am 42, .inr (5, [.ref (am 43), .ref (am 45), .int (st.1 42 2)])),
  (am 43, .inr (4, [.ref (am 44)])),
  (am 44, .inl (cI, 21, .inl (st.1 44))),
  (am 45, .inr (3, [.ref (am 46), .int (st.1 45 1), .int (st.1 45 2)])),
  (am 46, .inl (cI, 210, .inl (st.1 46))),
  (am 47, .inr (5, [.ref (am 48), .ref (am 50), .int (st.1 47 2)])),
  (am 48, .inr (4, [.ref (am 49)])),
  (am 49, .inl (cI, 21, .inl (st.1 49))),
  (am 50, .inr (3, [.ref (am 51), .int (st.1 50 1), .int (st.1 50 2)])),
  (am 51, .inl (cI, 210, .inl (st.1 51)))]
def mW (am : Nat → Nat) (cI cZ : ClassId) (st : PS) : va_W := [(am 0, .inr (9, [.int (st.1 0 0), .ref (am 1), .int (st.1 0 2), .int (st.1 0 3), .int (st.1 0 4), .int (st.1 0 5), .int (st.1 0 6), .int (st.1 0 7), .int (st.1 0 8), .int (st.1 0 9), .int (st.1 0 10), .int (st.1 0 11), .int (st.1 0 12), .int (st.1 0 13), .ref (am 2), .ref (am 3), .ref (am 4), .ref (am 5), .int (st.1 0 18), .int (st.1 0 19), .int (st.1 0 20), .ref (am 6), .ref (am 7), .ref (am 8), .ref (am 9), .ref (am 10), .ref (am 11), .ref (am 12), .ref (am 13), .ref (am 14), .int (st.1 0 30), .int (st.1 0 31), .ref (am 15), .ref (am 16), .int (st.1 0 34), .ref (am 17), .ref (am 18), .long st.2, .ref (am 19), .ref (am 20), .ref (am 21), .ref (am 22), .ref (am 23)])),
  (am 1, .inl (cI, 170, .inl (st.1 1))),
  (am 2, .inl (cI, 24, .inl (st.1 2))),
  (am 3, .inl (cI, 24, .inl (st.1 3))),
  (am 4, .inl (cI, 14, .inl (st.1 4))),
  (am 5, .inl (cI, 1, .inl (st.1 5))),
  (am 6, .inl (cI, 8, .inl (st.1 6))),
  (am 7, .inl (cI, 8, .inl (st.1 7))),
  (am 8, .inl (cI, 8, .inl (st.1 8))),
  (am 9, .inl (cI, 6, .inl (st.1 9))),
  (am 10, .inl (cI, 7, .inl (st.1 10))),
  (am 11, .inl (cI, 7, .inl (st.1 11))),
  (am 12, .inl (cI, 64, .inl (st.1 12))),
  (am 13, .inl (cI, 21, .inl (st.1 13))),
  (am 14, .inl (cI, 21, .inl (st.1 14))),
  (am 15, .inl (cI, 210, .inl (st.1 15))),
  (am 16, .inl (cI, 1024, .inl (st.1 16))),
  (am 17, .inl (cI, 6, .inl (st.1 17))),
  (am 18, .inl (cI, 6, .inl (st.1 18))),
  (am 19, .inl (cZ, 2, .inl (st.1 19))),
  (am 20, .inl (cI, 42, .inl (st.1 20))),
  (am 21, .inl (cI, 420, .inl (st.1 21))),
  (am 22, .inl (cI, 2, .inl (st.1 22))),
  (am 23, .inl (cI, 2, .inl (st.1 23)))]
abbrev cTy (cI cC cS : ClassId) : List (ClassId × FieldType) := [(cI, .int), (cC, .char), (cS, .object "PuppetBar$Scene")]
abbrev mTy (cI cZ : ClassId) : List (ClassId × FieldType) := [(cI, .int), (cZ, .boolean)]
def aA (am : Nat → Nat) (n : Nat) : Nat → Prop := fun q => ∃ k, k < n ∧ q = am k
def aJ (am : Nat → Nat) (n : Nat) : Prop := ∀ i j, i < n → j < n → am i = am j → i = j
theorem cW_map (am : Nat → Nat) (cI cC cS : ClassId) (st : PS) : (cW am cI cC cS st).map Prod.fst = (List.range 52).map am := rfl
theorem cD {am : Nat → Nat} {cI cC cS : ClassId} (hj : aJ am 52) (st : PS) : va_D (aA am 52) (cW am cI cC cS st) := aD_of hj (cW_map am cI cC cS st)
theorem mW_map (am : Nat → Nat) (cI cZ : ClassId) (st : PS) : (mW am cI cZ st).map Prod.fst = (List.range 24).map am := rfl
theorem mD {am : Nat → Nat} {cI cZ : ClassId} (hj : aJ am 24) (st : PS) : va_D (aA am 24) (mW am cI cZ st) := aD_of hj (mW_map am cI cZ st)
theorem cg_0 (am : Nat → Nat) (cI cC cS : ClassId) (st : PS) : (cW am cI cC cS st)[0]? = some (am 0, .inr (8, [.ref (am 1), .ref (am 17), .ref (am 27), .ref (am 37), .ref (am 4), .ref (am 9), .ref (am 6), .ref (am 5), .ref (am 15)])) := rfl
theorem cg_1 (am : Nat → Nat) (cI cC cS : ClassId) (st : PS) : (cW am cI cC cS st)[1]? = some (am 1, .inr (6, [.ref (am 2), .int (st.1 1 1), .int (st.1 1 2), .int (st.1 1 3), .int (st.1 1 4), .int (st.1 1 5), .ref (am 3), .int (st.1 1 7), .int (st.1 1 8)])) := rfl
theorem cg_2 (am : Nat → Nat) (cI cC cS : ClassId) (st : PS) : (cW am cI cC cS st)[2]? = some (am 2, .inl (cC, 170, .inl (st.1 2))) := rfl
theorem cg_3 (am : Nat → Nat) (cI cC cS : ClassId) (st : PS) : (cW am cI cC cS st)[3]? = some (am 3, .inl (cI, 4, .inl (st.1 3))) := rfl
theorem cg_4 (am : Nat → Nat) (cI cC cS : ClassId) (st : PS) : (cW am cI cC cS st)[4]? = some (am 4, .inl (cS, 2, .inr (.inr (.inr (.inr (fun j => if j = 0 then some (am 42) else some (am 47))))))) := rfl
theorem cg_5 (am : Nat → Nat) (cI cC cS : ClassId) (st : PS) : (cW am cI cC cS st)[5]? = some (am 5, .inr (1, [.long st.2])) := rfl
theorem cg_6 (am : Nat → Nat) (cI cC cS : ClassId) (st : PS) : (cW am cI cC cS st)[6]? = some (am 6, .inr (2, [.ref (am 7), .ref (am 8), .int (st.1 6 2)])) := rfl
theorem cg_7 (am : Nat → Nat) (cI cC cS : ClassId) (st : PS) : (cW am cI cC cS st)[7]? = some (am 7, .inl (cI, 896, .inl (st.1 7))) := rfl
theorem cg_8 (am : Nat → Nat) (cI cC cS : ClassId) (st : PS) : (cW am cI cC cS st)[8]? = some (am 8, .inl (cI, 7, .inl (st.1 8))) := rfl
theorem cg_9 (am : Nat → Nat) (cI cC cS : ClassId) (st : PS) : (cW am cI cC cS st)[9]? = some (am 9, .inr (7, [.ref (am 10), .ref (am 11), .ref (am 12), .ref (am 13), .int (st.1 9 4)])) := rfl
theorem cg_10 (am : Nat → Nat) (cI cC cS : ClassId) (st : PS) : (cW am cI cC cS st)[10]? = some (am 10, .inl (cI, 6, .inl (st.1 10))) := rfl
theorem cg_11 (am : Nat → Nat) (cI cC cS : ClassId) (st : PS) : (cW am cI cC cS st)[11]? = some (am 11, .inl (cI, 6, .inl (st.1 11))) := rfl
theorem cg_12 (am : Nat → Nat) (cI cC cS : ClassId) (st : PS) : (cW am cI cC cS st)[12]? = some (am 12, .inl (cI, 7, .inl (st.1 12))) := rfl
theorem cg_13 (am : Nat → Nat) (cI cC cS : ClassId) (st : PS) : (cW am cI cC cS st)[13]? = some (am 13, .inr (4, [.ref (am 14)])) := rfl
theorem cg_14 (am : Nat → Nat) (cI cC cS : ClassId) (st : PS) : (cW am cI cC cS st)[14]? = some (am 14, .inl (cI, 21, .inl (st.1 14))) := rfl
theorem cg_15 (am : Nat → Nat) (cI cC cS : ClassId) (st : PS) : (cW am cI cC cS st)[15]? = some (am 15, .inr (4, [.ref (am 16)])) := rfl
theorem cg_16 (am : Nat → Nat) (cI cC cS : ClassId) (st : PS) : (cW am cI cC cS st)[16]? = some (am 16, .inl (cI, 21, .inl (st.1 16))) := rfl
theorem cg_17 (am : Nat → Nat) (cI cC cS : ClassId) (st : PS) : (cW am cI cC cS st)[17]? = some (am 17, .inr (0, [.ref (am 18), .ref (am 19), .ref (am 20), .ref (am 21), .ref (am 22), .ref (am 23), .ref (am 25), .int (st.1 17 7), .int (st.1 17 8), .int (st.1 17 9), .ref (am 24)])) := rfl
theorem cg_18 (am : Nat → Nat) (cI cC cS : ClassId) (st : PS) : (cW am cI cC cS st)[18]? = some (am 18, .inl (cI, 8, .inl (st.1 18))) := rfl
theorem cg_19 (am : Nat → Nat) (cI cC cS : ClassId) (st : PS) : (cW am cI cC cS st)[19]? = some (am 19, .inl (cI, 8, .inl (st.1 19))) := rfl
theorem cg_20 (am : Nat → Nat) (cI cC cS : ClassId) (st : PS) : (cW am cI cC cS st)[20]? = some (am 20, .inl (cI, 8, .inl (st.1 20))) := rfl
theorem cg_21 (am : Nat → Nat) (cI cC cS : ClassId) (st : PS) : (cW am cI cC cS st)[21]? = some (am 21, .inl (cI, 6, .inl (st.1 21))) := rfl
theorem cg_22 (am : Nat → Nat) (cI cC cS : ClassId) (st : PS) : (cW am cI cC cS st)[22]? = some (am 22, .inl (cI, 7, .inl (st.1 22))) := rfl
theorem cg_23 (am : Nat → Nat) (cI cC cS : ClassId) (st : PS) : (cW am cI cC cS st)[23]? = some (am 23, .inl (cI, 7, .inl (st.1 23))) := rfl
theorem cg_24 (am : Nat → Nat) (cI cC cS : ClassId) (st : PS) : (cW am cI cC cS st)[24]? = some (am 24, .inl (cI, 64, .inl (st.1 24))) := rfl
theorem cg_25 (am : Nat → Nat) (cI cC cS : ClassId) (st : PS) : (cW am cI cC cS st)[25]? = some (am 25, .inr (4, [.ref (am 26)])) := rfl
theorem cg_26 (am : Nat → Nat) (cI cC cS : ClassId) (st : PS) : (cW am cI cC cS st)[26]? = some (am 26, .inl (cI, 21, .inl (st.1 26))) := rfl
theorem cg_27 (am : Nat → Nat) (cI cC cS : ClassId) (st : PS) : (cW am cI cC cS st)[27]? = some (am 27, .inr (0, [.ref (am 28), .ref (am 29), .ref (am 30), .ref (am 31), .ref (am 32), .ref (am 33), .ref (am 35), .int (st.1 27 7), .int (st.1 27 8), .int (st.1 27 9), .ref (am 34)])) := rfl
theorem cg_28 (am : Nat → Nat) (cI cC cS : ClassId) (st : PS) : (cW am cI cC cS st)[28]? = some (am 28, .inl (cI, 8, .inl (st.1 28))) := rfl
theorem cg_29 (am : Nat → Nat) (cI cC cS : ClassId) (st : PS) : (cW am cI cC cS st)[29]? = some (am 29, .inl (cI, 8, .inl (st.1 29))) := rfl
theorem cg_30 (am : Nat → Nat) (cI cC cS : ClassId) (st : PS) : (cW am cI cC cS st)[30]? = some (am 30, .inl (cI, 8, .inl (st.1 30))) := rfl
theorem cg_31 (am : Nat → Nat) (cI cC cS : ClassId) (st : PS) : (cW am cI cC cS st)[31]? = some (am 31, .inl (cI, 6, .inl (st.1 31))) := rfl
theorem cg_32 (am : Nat → Nat) (cI cC cS : ClassId) (st : PS) : (cW am cI cC cS st)[32]? = some (am 32, .inl (cI, 7, .inl (st.1 32))) := rfl
theorem cg_33 (am : Nat → Nat) (cI cC cS : ClassId) (st : PS) : (cW am cI cC cS st)[33]? = some (am 33, .inl (cI, 7, .inl (st.1 33))) := rfl
theorem cg_34 (am : Nat → Nat) (cI cC cS : ClassId) (st : PS) : (cW am cI cC cS st)[34]? = some (am 34, .inl (cI, 64, .inl (st.1 34))) := rfl
theorem cg_35 (am : Nat → Nat) (cI cC cS : ClassId) (st : PS) : (cW am cI cC cS st)[35]? = some (am 35, .inr (4, [.ref (am 36)])) := rfl
theorem cg_36 (am : Nat → Nat) (cI cC cS : ClassId) (st : PS) : (cW am cI cC cS st)[36]? = some (am 36, .inl (cI, 21, .inl (st.1 36))) := rfl
theorem cg_37 (am : Nat → Nat) (cI cC cS : ClassId) (st : PS) : (cW am cI cC cS st)[37]? = some (am 37, .inr (5, [.ref (am 38), .ref (am 40), .int (st.1 37 2)])) := rfl
theorem cg_38 (am : Nat → Nat) (cI cC cS : ClassId) (st : PS) : (cW am cI cC cS st)[38]? = some (am 38, .inr (4, [.ref (am 39)])) := rfl
theorem cg_39 (am : Nat → Nat) (cI cC cS : ClassId) (st : PS) : (cW am cI cC cS st)[39]? = some (am 39, .inl (cI, 21, .inl (st.1 39))) := rfl
theorem cg_40 (am : Nat → Nat) (cI cC cS : ClassId) (st : PS) : (cW am cI cC cS st)[40]? = some (am 40, .inr (3, [.ref (am 41), .int (st.1 40 1), .int (st.1 40 2)])) := rfl
theorem cg_41 (am : Nat → Nat) (cI cC cS : ClassId) (st : PS) : (cW am cI cC cS st)[41]? = some (am 41, .inl (cI, 210, .inl (st.1 41))) := rfl
theorem cg_42 (am : Nat → Nat) (cI cC cS : ClassId) (st : PS) : (cW am cI cC cS st)[42]? = some (am 42, .inr (5, [.ref (am 43), .ref (am 45), .int (st.1 42 2)])) := rfl
theorem cg_43 (am : Nat → Nat) (cI cC cS : ClassId) (st : PS) : (cW am cI cC cS st)[43]? = some (am 43, .inr (4, [.ref (am 44)])) := rfl
theorem cg_44 (am : Nat → Nat) (cI cC cS : ClassId) (st : PS) : (cW am cI cC cS st)[44]? = some (am 44, .inl (cI, 21, .inl (st.1 44))) := rfl
theorem cg_45 (am : Nat → Nat) (cI cC cS : ClassId) (st : PS) : (cW am cI cC cS st)[45]? = some (am 45, .inr (3, [.ref (am 46), .int (st.1 45 1), .int (st.1 45 2)])) := rfl
theorem cg_46 (am : Nat → Nat) (cI cC cS : ClassId) (st : PS) : (cW am cI cC cS st)[46]? = some (am 46, .inl (cI, 210, .inl (st.1 46))) := rfl
theorem cg_47 (am : Nat → Nat) (cI cC cS : ClassId) (st : PS) : (cW am cI cC cS st)[47]? = some (am 47, .inr (5, [.ref (am 48), .ref (am 50), .int (st.1 47 2)])) := rfl
theorem cg_48 (am : Nat → Nat) (cI cC cS : ClassId) (st : PS) : (cW am cI cC cS st)[48]? = some (am 48, .inr (4, [.ref (am 49)])) := rfl
theorem cg_49 (am : Nat → Nat) (cI cC cS : ClassId) (st : PS) : (cW am cI cC cS st)[49]? = some (am 49, .inl (cI, 21, .inl (st.1 49))) := rfl
theorem cg_50 (am : Nat → Nat) (cI cC cS : ClassId) (st : PS) : (cW am cI cC cS st)[50]? = some (am 50, .inr (3, [.ref (am 51), .int (st.1 50 1), .int (st.1 50 2)])) := rfl
theorem cg_51 (am : Nat → Nat) (cI cC cS : ClassId) (st : PS) : (cW am cI cC cS st)[51]? = some (am 51, .inl (cI, 210, .inl (st.1 51))) := rfl
theorem cs_1_1 (am : Nat → Nat) (cI cC cS : ClassId) (st : PS) (v : Int32) : (cW am cI cC cS st).set 1 (am 1, .inr (6, [.ref (am 2), .int (st.1 1 1), .int (st.1 1 2), .int (st.1 1 3), .int (st.1 1 4), .int (st.1 1 5), .ref (am 3), .int (st.1 1 7), .int (st.1 1 8)].set 1 (.int v))) = cW am cI cC cS (pU st 1 1 v) := rfl
theorem cs_1_2 (am : Nat → Nat) (cI cC cS : ClassId) (st : PS) (v : Int32) : (cW am cI cC cS st).set 1 (am 1, .inr (6, [.ref (am 2), .int (st.1 1 1), .int (st.1 1 2), .int (st.1 1 3), .int (st.1 1 4), .int (st.1 1 5), .ref (am 3), .int (st.1 1 7), .int (st.1 1 8)].set 2 (.int v))) = cW am cI cC cS (pU st 1 2 v) := rfl
theorem cs_1_3 (am : Nat → Nat) (cI cC cS : ClassId) (st : PS) (v : Int32) : (cW am cI cC cS st).set 1 (am 1, .inr (6, [.ref (am 2), .int (st.1 1 1), .int (st.1 1 2), .int (st.1 1 3), .int (st.1 1 4), .int (st.1 1 5), .ref (am 3), .int (st.1 1 7), .int (st.1 1 8)].set 3 (.int v))) = cW am cI cC cS (pU st 1 3 v) := rfl
theorem cs_1_4 (am : Nat → Nat) (cI cC cS : ClassId) (st : PS) (v : Int32) : (cW am cI cC cS st).set 1 (am 1, .inr (6, [.ref (am 2), .int (st.1 1 1), .int (st.1 1 2), .int (st.1 1 3), .int (st.1 1 4), .int (st.1 1 5), .ref (am 3), .int (st.1 1 7), .int (st.1 1 8)].set 4 (.int v))) = cW am cI cC cS (pU st 1 4 v) := rfl
theorem cs_1_5 (am : Nat → Nat) (cI cC cS : ClassId) (st : PS) (v : Int32) : (cW am cI cC cS st).set 1 (am 1, .inr (6, [.ref (am 2), .int (st.1 1 1), .int (st.1 1 2), .int (st.1 1 3), .int (st.1 1 4), .int (st.1 1 5), .ref (am 3), .int (st.1 1 7), .int (st.1 1 8)].set 5 (.int v))) = cW am cI cC cS (pU st 1 5 v) := rfl
theorem cs_1_7 (am : Nat → Nat) (cI cC cS : ClassId) (st : PS) (v : Int32) : (cW am cI cC cS st).set 1 (am 1, .inr (6, [.ref (am 2), .int (st.1 1 1), .int (st.1 1 2), .int (st.1 1 3), .int (st.1 1 4), .int (st.1 1 5), .ref (am 3), .int (st.1 1 7), .int (st.1 1 8)].set 7 (.int v))) = cW am cI cC cS (pU st 1 7 v) := rfl
theorem cs_1_8 (am : Nat → Nat) (cI cC cS : ClassId) (st : PS) (v : Int32) : (cW am cI cC cS st).set 1 (am 1, .inr (6, [.ref (am 2), .int (st.1 1 1), .int (st.1 1 2), .int (st.1 1 3), .int (st.1 1 4), .int (st.1 1 5), .ref (am 3), .int (st.1 1 7), .int (st.1 1 8)].set 8 (.int v))) = cW am cI cC cS (pU st 1 8 v) := rfl
theorem cs_2 (am : Nat → Nat) (cI cC cS : ClassId) (st : PS) (g : Nat → Int32) : (cW am cI cC cS st).set 2 (am 2, .inl (cC, 170, .inl g)) = cW am cI cC cS (pC st 2 g) := rfl
theorem cs_3 (am : Nat → Nat) (cI cC cS : ClassId) (st : PS) (g : Nat → Int32) : (cW am cI cC cS st).set 3 (am 3, .inl (cI, 4, .inl g)) = cW am cI cC cS (pC st 3 g) := rfl
theorem cs_5_0 (am : Nat → Nat) (cI cC cS : ClassId) (st : PS) (v : Int64) : (cW am cI cC cS st).set 5 (am 5, .inr (1, [.long st.2].set 0 (.long v))) = cW am cI cC cS (pT st v) := rfl
theorem cs_6_2 (am : Nat → Nat) (cI cC cS : ClassId) (st : PS) (v : Int32) : (cW am cI cC cS st).set 6 (am 6, .inr (2, [.ref (am 7), .ref (am 8), .int (st.1 6 2)].set 2 (.int v))) = cW am cI cC cS (pU st 6 2 v) := rfl
theorem cs_7 (am : Nat → Nat) (cI cC cS : ClassId) (st : PS) (g : Nat → Int32) : (cW am cI cC cS st).set 7 (am 7, .inl (cI, 896, .inl g)) = cW am cI cC cS (pC st 7 g) := rfl
theorem cs_8 (am : Nat → Nat) (cI cC cS : ClassId) (st : PS) (g : Nat → Int32) : (cW am cI cC cS st).set 8 (am 8, .inl (cI, 7, .inl g)) = cW am cI cC cS (pC st 8 g) := rfl
theorem cs_9_4 (am : Nat → Nat) (cI cC cS : ClassId) (st : PS) (v : Int32) : (cW am cI cC cS st).set 9 (am 9, .inr (7, [.ref (am 10), .ref (am 11), .ref (am 12), .ref (am 13), .int (st.1 9 4)].set 4 (.int v))) = cW am cI cC cS (pU st 9 4 v) := rfl
theorem cs_10 (am : Nat → Nat) (cI cC cS : ClassId) (st : PS) (g : Nat → Int32) : (cW am cI cC cS st).set 10 (am 10, .inl (cI, 6, .inl g)) = cW am cI cC cS (pC st 10 g) := rfl
theorem cs_11 (am : Nat → Nat) (cI cC cS : ClassId) (st : PS) (g : Nat → Int32) : (cW am cI cC cS st).set 11 (am 11, .inl (cI, 6, .inl g)) = cW am cI cC cS (pC st 11 g) := rfl
theorem cs_12 (am : Nat → Nat) (cI cC cS : ClassId) (st : PS) (g : Nat → Int32) : (cW am cI cC cS st).set 12 (am 12, .inl (cI, 7, .inl g)) = cW am cI cC cS (pC st 12 g) := rfl
theorem cs_14 (am : Nat → Nat) (cI cC cS : ClassId) (st : PS) (g : Nat → Int32) : (cW am cI cC cS st).set 14 (am 14, .inl (cI, 21, .inl g)) = cW am cI cC cS (pC st 14 g) := rfl
theorem cs_16 (am : Nat → Nat) (cI cC cS : ClassId) (st : PS) (g : Nat → Int32) : (cW am cI cC cS st).set 16 (am 16, .inl (cI, 21, .inl g)) = cW am cI cC cS (pC st 16 g) := rfl
theorem cs_17_7 (am : Nat → Nat) (cI cC cS : ClassId) (st : PS) (v : Int32) : (cW am cI cC cS st).set 17 (am 17, .inr (0, [.ref (am 18), .ref (am 19), .ref (am 20), .ref (am 21), .ref (am 22), .ref (am 23), .ref (am 25), .int (st.1 17 7), .int (st.1 17 8), .int (st.1 17 9), .ref (am 24)].set 7 (.int v))) = cW am cI cC cS (pU st 17 7 v) := rfl
theorem cs_17_8 (am : Nat → Nat) (cI cC cS : ClassId) (st : PS) (v : Int32) : (cW am cI cC cS st).set 17 (am 17, .inr (0, [.ref (am 18), .ref (am 19), .ref (am 20), .ref (am 21), .ref (am 22), .ref (am 23), .ref (am 25), .int (st.1 17 7), .int (st.1 17 8), .int (st.1 17 9), .ref (am 24)].set 8 (.int v))) = cW am cI cC cS (pU st 17 8 v) := rfl
theorem cs_17_9 (am : Nat → Nat) (cI cC cS : ClassId) (st : PS) (v : Int32) : (cW am cI cC cS st).set 17 (am 17, .inr (0, [.ref (am 18), .ref (am 19), .ref (am 20), .ref (am 21), .ref (am 22), .ref (am 23), .ref (am 25), .int (st.1 17 7), .int (st.1 17 8), .int (st.1 17 9), .ref (am 24)].set 9 (.int v))) = cW am cI cC cS (pU st 17 9 v) := rfl
theorem cs_18 (am : Nat → Nat) (cI cC cS : ClassId) (st : PS) (g : Nat → Int32) : (cW am cI cC cS st).set 18 (am 18, .inl (cI, 8, .inl g)) = cW am cI cC cS (pC st 18 g) := rfl
theorem cs_19 (am : Nat → Nat) (cI cC cS : ClassId) (st : PS) (g : Nat → Int32) : (cW am cI cC cS st).set 19 (am 19, .inl (cI, 8, .inl g)) = cW am cI cC cS (pC st 19 g) := rfl
theorem cs_20 (am : Nat → Nat) (cI cC cS : ClassId) (st : PS) (g : Nat → Int32) : (cW am cI cC cS st).set 20 (am 20, .inl (cI, 8, .inl g)) = cW am cI cC cS (pC st 20 g) := rfl
theorem cs_21 (am : Nat → Nat) (cI cC cS : ClassId) (st : PS) (g : Nat → Int32) : (cW am cI cC cS st).set 21 (am 21, .inl (cI, 6, .inl g)) = cW am cI cC cS (pC st 21 g) := rfl
theorem cs_22 (am : Nat → Nat) (cI cC cS : ClassId) (st : PS) (g : Nat → Int32) : (cW am cI cC cS st).set 22 (am 22, .inl (cI, 7, .inl g)) = cW am cI cC cS (pC st 22 g) := rfl
theorem cs_23 (am : Nat → Nat) (cI cC cS : ClassId) (st : PS) (g : Nat → Int32) : (cW am cI cC cS st).set 23 (am 23, .inl (cI, 7, .inl g)) = cW am cI cC cS (pC st 23 g) := rfl
theorem cs_24 (am : Nat → Nat) (cI cC cS : ClassId) (st : PS) (g : Nat → Int32) : (cW am cI cC cS st).set 24 (am 24, .inl (cI, 64, .inl g)) = cW am cI cC cS (pC st 24 g) := rfl
theorem cs_26 (am : Nat → Nat) (cI cC cS : ClassId) (st : PS) (g : Nat → Int32) : (cW am cI cC cS st).set 26 (am 26, .inl (cI, 21, .inl g)) = cW am cI cC cS (pC st 26 g) := rfl
theorem cs_27_7 (am : Nat → Nat) (cI cC cS : ClassId) (st : PS) (v : Int32) : (cW am cI cC cS st).set 27 (am 27, .inr (0, [.ref (am 28), .ref (am 29), .ref (am 30), .ref (am 31), .ref (am 32), .ref (am 33), .ref (am 35), .int (st.1 27 7), .int (st.1 27 8), .int (st.1 27 9), .ref (am 34)].set 7 (.int v))) = cW am cI cC cS (pU st 27 7 v) := rfl
theorem cs_27_8 (am : Nat → Nat) (cI cC cS : ClassId) (st : PS) (v : Int32) : (cW am cI cC cS st).set 27 (am 27, .inr (0, [.ref (am 28), .ref (am 29), .ref (am 30), .ref (am 31), .ref (am 32), .ref (am 33), .ref (am 35), .int (st.1 27 7), .int (st.1 27 8), .int (st.1 27 9), .ref (am 34)].set 8 (.int v))) = cW am cI cC cS (pU st 27 8 v) := rfl
theorem cs_27_9 (am : Nat → Nat) (cI cC cS : ClassId) (st : PS) (v : Int32) : (cW am cI cC cS st).set 27 (am 27, .inr (0, [.ref (am 28), .ref (am 29), .ref (am 30), .ref (am 31), .ref (am 32), .ref (am 33), .ref (am 35), .int (st.1 27 7), .int (st.1 27 8), .int (st.1 27 9), .ref (am 34)].set 9 (.int v))) = cW am cI cC cS (pU st 27 9 v) := rfl
theorem cs_28 (am : Nat → Nat) (cI cC cS : ClassId) (st : PS) (g : Nat → Int32) : (cW am cI cC cS st).set 28 (am 28, .inl (cI, 8, .inl g)) = cW am cI cC cS (pC st 28 g) := rfl
theorem cs_29 (am : Nat → Nat) (cI cC cS : ClassId) (st : PS) (g : Nat → Int32) : (cW am cI cC cS st).set 29 (am 29, .inl (cI, 8, .inl g)) = cW am cI cC cS (pC st 29 g) := rfl
theorem cs_30 (am : Nat → Nat) (cI cC cS : ClassId) (st : PS) (g : Nat → Int32) : (cW am cI cC cS st).set 30 (am 30, .inl (cI, 8, .inl g)) = cW am cI cC cS (pC st 30 g) := rfl
theorem cs_31 (am : Nat → Nat) (cI cC cS : ClassId) (st : PS) (g : Nat → Int32) : (cW am cI cC cS st).set 31 (am 31, .inl (cI, 6, .inl g)) = cW am cI cC cS (pC st 31 g) := rfl
theorem cs_32 (am : Nat → Nat) (cI cC cS : ClassId) (st : PS) (g : Nat → Int32) : (cW am cI cC cS st).set 32 (am 32, .inl (cI, 7, .inl g)) = cW am cI cC cS (pC st 32 g) := rfl
theorem cs_33 (am : Nat → Nat) (cI cC cS : ClassId) (st : PS) (g : Nat → Int32) : (cW am cI cC cS st).set 33 (am 33, .inl (cI, 7, .inl g)) = cW am cI cC cS (pC st 33 g) := rfl
theorem cs_34 (am : Nat → Nat) (cI cC cS : ClassId) (st : PS) (g : Nat → Int32) : (cW am cI cC cS st).set 34 (am 34, .inl (cI, 64, .inl g)) = cW am cI cC cS (pC st 34 g) := rfl
theorem cs_36 (am : Nat → Nat) (cI cC cS : ClassId) (st : PS) (g : Nat → Int32) : (cW am cI cC cS st).set 36 (am 36, .inl (cI, 21, .inl g)) = cW am cI cC cS (pC st 36 g) := rfl
theorem cs_37_2 (am : Nat → Nat) (cI cC cS : ClassId) (st : PS) (v : Int32) : (cW am cI cC cS st).set 37 (am 37, .inr (5, [.ref (am 38), .ref (am 40), .int (st.1 37 2)].set 2 (.int v))) = cW am cI cC cS (pU st 37 2 v) := rfl
theorem cs_39 (am : Nat → Nat) (cI cC cS : ClassId) (st : PS) (g : Nat → Int32) : (cW am cI cC cS st).set 39 (am 39, .inl (cI, 21, .inl g)) = cW am cI cC cS (pC st 39 g) := rfl
theorem cs_40_1 (am : Nat → Nat) (cI cC cS : ClassId) (st : PS) (v : Int32) : (cW am cI cC cS st).set 40 (am 40, .inr (3, [.ref (am 41), .int (st.1 40 1), .int (st.1 40 2)].set 1 (.int v))) = cW am cI cC cS (pU st 40 1 v) := rfl
theorem cs_40_2 (am : Nat → Nat) (cI cC cS : ClassId) (st : PS) (v : Int32) : (cW am cI cC cS st).set 40 (am 40, .inr (3, [.ref (am 41), .int (st.1 40 1), .int (st.1 40 2)].set 2 (.int v))) = cW am cI cC cS (pU st 40 2 v) := rfl
theorem cs_41 (am : Nat → Nat) (cI cC cS : ClassId) (st : PS) (g : Nat → Int32) : (cW am cI cC cS st).set 41 (am 41, .inl (cI, 210, .inl g)) = cW am cI cC cS (pC st 41 g) := rfl
theorem cs_42_2 (am : Nat → Nat) (cI cC cS : ClassId) (st : PS) (v : Int32) : (cW am cI cC cS st).set 42 (am 42, .inr (5, [.ref (am 43), .ref (am 45), .int (st.1 42 2)].set 2 (.int v))) = cW am cI cC cS (pU st 42 2 v) := rfl
theorem cs_44 (am : Nat → Nat) (cI cC cS : ClassId) (st : PS) (g : Nat → Int32) : (cW am cI cC cS st).set 44 (am 44, .inl (cI, 21, .inl g)) = cW am cI cC cS (pC st 44 g) := rfl
theorem cs_45_1 (am : Nat → Nat) (cI cC cS : ClassId) (st : PS) (v : Int32) : (cW am cI cC cS st).set 45 (am 45, .inr (3, [.ref (am 46), .int (st.1 45 1), .int (st.1 45 2)].set 1 (.int v))) = cW am cI cC cS (pU st 45 1 v) := rfl
theorem cs_45_2 (am : Nat → Nat) (cI cC cS : ClassId) (st : PS) (v : Int32) : (cW am cI cC cS st).set 45 (am 45, .inr (3, [.ref (am 46), .int (st.1 45 1), .int (st.1 45 2)].set 2 (.int v))) = cW am cI cC cS (pU st 45 2 v) := rfl
theorem cs_46 (am : Nat → Nat) (cI cC cS : ClassId) (st : PS) (g : Nat → Int32) : (cW am cI cC cS st).set 46 (am 46, .inl (cI, 210, .inl g)) = cW am cI cC cS (pC st 46 g) := rfl
theorem cs_47_2 (am : Nat → Nat) (cI cC cS : ClassId) (st : PS) (v : Int32) : (cW am cI cC cS st).set 47 (am 47, .inr (5, [.ref (am 48), .ref (am 50), .int (st.1 47 2)].set 2 (.int v))) = cW am cI cC cS (pU st 47 2 v) := rfl
theorem cs_49 (am : Nat → Nat) (cI cC cS : ClassId) (st : PS) (g : Nat → Int32) : (cW am cI cC cS st).set 49 (am 49, .inl (cI, 21, .inl g)) = cW am cI cC cS (pC st 49 g) := rfl
theorem cs_50_1 (am : Nat → Nat) (cI cC cS : ClassId) (st : PS) (v : Int32) : (cW am cI cC cS st).set 50 (am 50, .inr (3, [.ref (am 51), .int (st.1 50 1), .int (st.1 50 2)].set 1 (.int v))) = cW am cI cC cS (pU st 50 1 v) := rfl
theorem cs_50_2 (am : Nat → Nat) (cI cC cS : ClassId) (st : PS) (v : Int32) : (cW am cI cC cS st).set 50 (am 50, .inr (3, [.ref (am 51), .int (st.1 50 1), .int (st.1 50 2)].set 2 (.int v))) = cW am cI cC cS (pU st 50 2 v) := rfl
theorem cs_51 (am : Nat → Nat) (cI cC cS : ClassId) (st : PS) (g : Nat → Int32) : (cW am cI cC cS st).set 51 (am 51, .inl (cI, 210, .inl g)) = cW am cI cC cS (pC st 51 g) := rfl
abbrev ck_Pose (r : Nat) : Prop := r = 13 ∨ r = 15 ∨ r = 25 ∨ r = 35 ∨ r = 38 ∨ r = 43 ∨ r = 48
abbrev ck_Doll (r : Nat) : Prop := r = 17 ∨ r = 27
abbrev ck_Scene (r : Nat) : Prop := r = 37 ∨ r = 42 ∨ r = 47
abbrev ck_Past (r : Nat) : Prop := r = 40 ∨ r = 45 ∨ r = 50
abbrev ck_Row (r : Nat) : Prop := r = 14 ∨ r = 16 ∨ r = 26 ∨ r = 36 ∨ r = 39 ∨ r = 44 ∨ r = 49
abbrev ck_Rows (r : Nat) : Prop := r = 41 ∨ r = 46 ∨ r = 51
theorem mg_0 (am : Nat → Nat) (cI cZ : ClassId) (st : PS) : (mW am cI cZ st)[0]? = some (am 0, .inr (9, [.int (st.1 0 0), .ref (am 1), .int (st.1 0 2), .int (st.1 0 3), .int (st.1 0 4), .int (st.1 0 5), .int (st.1 0 6), .int (st.1 0 7), .int (st.1 0 8), .int (st.1 0 9), .int (st.1 0 10), .int (st.1 0 11), .int (st.1 0 12), .int (st.1 0 13), .ref (am 2), .ref (am 3), .ref (am 4), .ref (am 5), .int (st.1 0 18), .int (st.1 0 19), .int (st.1 0 20), .ref (am 6), .ref (am 7), .ref (am 8), .ref (am 9), .ref (am 10), .ref (am 11), .ref (am 12), .ref (am 13), .ref (am 14), .int (st.1 0 30), .int (st.1 0 31), .ref (am 15), .ref (am 16), .int (st.1 0 34), .ref (am 17), .ref (am 18), .long st.2, .ref (am 19), .ref (am 20), .ref (am 21), .ref (am 22), .ref (am 23)])) := rfl
theorem mg_1 (am : Nat → Nat) (cI cZ : ClassId) (st : PS) : (mW am cI cZ st)[1]? = some (am 1, .inl (cI, 170, .inl (st.1 1))) := rfl
theorem mg_2 (am : Nat → Nat) (cI cZ : ClassId) (st : PS) : (mW am cI cZ st)[2]? = some (am 2, .inl (cI, 24, .inl (st.1 2))) := rfl
theorem mg_3 (am : Nat → Nat) (cI cZ : ClassId) (st : PS) : (mW am cI cZ st)[3]? = some (am 3, .inl (cI, 24, .inl (st.1 3))) := rfl
theorem mg_4 (am : Nat → Nat) (cI cZ : ClassId) (st : PS) : (mW am cI cZ st)[4]? = some (am 4, .inl (cI, 14, .inl (st.1 4))) := rfl
theorem mg_5 (am : Nat → Nat) (cI cZ : ClassId) (st : PS) : (mW am cI cZ st)[5]? = some (am 5, .inl (cI, 1, .inl (st.1 5))) := rfl
theorem mg_6 (am : Nat → Nat) (cI cZ : ClassId) (st : PS) : (mW am cI cZ st)[6]? = some (am 6, .inl (cI, 8, .inl (st.1 6))) := rfl
theorem mg_7 (am : Nat → Nat) (cI cZ : ClassId) (st : PS) : (mW am cI cZ st)[7]? = some (am 7, .inl (cI, 8, .inl (st.1 7))) := rfl
theorem mg_8 (am : Nat → Nat) (cI cZ : ClassId) (st : PS) : (mW am cI cZ st)[8]? = some (am 8, .inl (cI, 8, .inl (st.1 8))) := rfl
theorem mg_9 (am : Nat → Nat) (cI cZ : ClassId) (st : PS) : (mW am cI cZ st)[9]? = some (am 9, .inl (cI, 6, .inl (st.1 9))) := rfl
theorem mg_10 (am : Nat → Nat) (cI cZ : ClassId) (st : PS) : (mW am cI cZ st)[10]? = some (am 10, .inl (cI, 7, .inl (st.1 10))) := rfl
theorem mg_11 (am : Nat → Nat) (cI cZ : ClassId) (st : PS) : (mW am cI cZ st)[11]? = some (am 11, .inl (cI, 7, .inl (st.1 11))) := rfl
theorem mg_12 (am : Nat → Nat) (cI cZ : ClassId) (st : PS) : (mW am cI cZ st)[12]? = some (am 12, .inl (cI, 64, .inl (st.1 12))) := rfl
theorem mg_13 (am : Nat → Nat) (cI cZ : ClassId) (st : PS) : (mW am cI cZ st)[13]? = some (am 13, .inl (cI, 21, .inl (st.1 13))) := rfl
theorem mg_14 (am : Nat → Nat) (cI cZ : ClassId) (st : PS) : (mW am cI cZ st)[14]? = some (am 14, .inl (cI, 21, .inl (st.1 14))) := rfl
theorem mg_15 (am : Nat → Nat) (cI cZ : ClassId) (st : PS) : (mW am cI cZ st)[15]? = some (am 15, .inl (cI, 210, .inl (st.1 15))) := rfl
theorem mg_16 (am : Nat → Nat) (cI cZ : ClassId) (st : PS) : (mW am cI cZ st)[16]? = some (am 16, .inl (cI, 1024, .inl (st.1 16))) := rfl
theorem mg_17 (am : Nat → Nat) (cI cZ : ClassId) (st : PS) : (mW am cI cZ st)[17]? = some (am 17, .inl (cI, 6, .inl (st.1 17))) := rfl
theorem mg_18 (am : Nat → Nat) (cI cZ : ClassId) (st : PS) : (mW am cI cZ st)[18]? = some (am 18, .inl (cI, 6, .inl (st.1 18))) := rfl
theorem mg_19 (am : Nat → Nat) (cI cZ : ClassId) (st : PS) : (mW am cI cZ st)[19]? = some (am 19, .inl (cZ, 2, .inl (st.1 19))) := rfl
theorem mg_20 (am : Nat → Nat) (cI cZ : ClassId) (st : PS) : (mW am cI cZ st)[20]? = some (am 20, .inl (cI, 42, .inl (st.1 20))) := rfl
theorem mg_21 (am : Nat → Nat) (cI cZ : ClassId) (st : PS) : (mW am cI cZ st)[21]? = some (am 21, .inl (cI, 420, .inl (st.1 21))) := rfl
theorem mg_22 (am : Nat → Nat) (cI cZ : ClassId) (st : PS) : (mW am cI cZ st)[22]? = some (am 22, .inl (cI, 2, .inl (st.1 22))) := rfl
theorem mg_23 (am : Nat → Nat) (cI cZ : ClassId) (st : PS) : (mW am cI cZ st)[23]? = some (am 23, .inl (cI, 2, .inl (st.1 23))) := rfl
theorem ms_0_0 (am : Nat → Nat) (cI cZ : ClassId) (st : PS) (v : Int32) : (mW am cI cZ st).set 0 (am 0, .inr (9, [.int (st.1 0 0), .ref (am 1), .int (st.1 0 2), .int (st.1 0 3), .int (st.1 0 4), .int (st.1 0 5), .int (st.1 0 6), .int (st.1 0 7), .int (st.1 0 8), .int (st.1 0 9), .int (st.1 0 10), .int (st.1 0 11), .int (st.1 0 12), .int (st.1 0 13), .ref (am 2), .ref (am 3), .ref (am 4), .ref (am 5), .int (st.1 0 18), .int (st.1 0 19), .int (st.1 0 20), .ref (am 6), .ref (am 7), .ref (am 8), .ref (am 9), .ref (am 10), .ref (am 11), .ref (am 12), .ref (am 13), .ref (am 14), .int (st.1 0 30), .int (st.1 0 31), .ref (am 15), .ref (am 16), .int (st.1 0 34), .ref (am 17), .ref (am 18), .long st.2, .ref (am 19), .ref (am 20), .ref (am 21), .ref (am 22), .ref (am 23)].set 0 (.int v))) = mW am cI cZ (pU st 0 0 v) := rfl
theorem ms_0_2 (am : Nat → Nat) (cI cZ : ClassId) (st : PS) (v : Int32) : (mW am cI cZ st).set 0 (am 0, .inr (9, [.int (st.1 0 0), .ref (am 1), .int (st.1 0 2), .int (st.1 0 3), .int (st.1 0 4), .int (st.1 0 5), .int (st.1 0 6), .int (st.1 0 7), .int (st.1 0 8), .int (st.1 0 9), .int (st.1 0 10), .int (st.1 0 11), .int (st.1 0 12), .int (st.1 0 13), .ref (am 2), .ref (am 3), .ref (am 4), .ref (am 5), .int (st.1 0 18), .int (st.1 0 19), .int (st.1 0 20), .ref (am 6), .ref (am 7), .ref (am 8), .ref (am 9), .ref (am 10), .ref (am 11), .ref (am 12), .ref (am 13), .ref (am 14), .int (st.1 0 30), .int (st.1 0 31), .ref (am 15), .ref (am 16), .int (st.1 0 34), .ref (am 17), .ref (am 18), .long st.2, .ref (am 19), .ref (am 20), .ref (am 21), .ref (am 22), .ref (am 23)].set 2 (.int v))) = mW am cI cZ (pU st 0 2 v) := rfl
theorem ms_0_3 (am : Nat → Nat) (cI cZ : ClassId) (st : PS) (v : Int32) : (mW am cI cZ st).set 0 (am 0, .inr (9, [.int (st.1 0 0), .ref (am 1), .int (st.1 0 2), .int (st.1 0 3), .int (st.1 0 4), .int (st.1 0 5), .int (st.1 0 6), .int (st.1 0 7), .int (st.1 0 8), .int (st.1 0 9), .int (st.1 0 10), .int (st.1 0 11), .int (st.1 0 12), .int (st.1 0 13), .ref (am 2), .ref (am 3), .ref (am 4), .ref (am 5), .int (st.1 0 18), .int (st.1 0 19), .int (st.1 0 20), .ref (am 6), .ref (am 7), .ref (am 8), .ref (am 9), .ref (am 10), .ref (am 11), .ref (am 12), .ref (am 13), .ref (am 14), .int (st.1 0 30), .int (st.1 0 31), .ref (am 15), .ref (am 16), .int (st.1 0 34), .ref (am 17), .ref (am 18), .long st.2, .ref (am 19), .ref (am 20), .ref (am 21), .ref (am 22), .ref (am 23)].set 3 (.int v))) = mW am cI cZ (pU st 0 3 v) := rfl
theorem ms_0_4 (am : Nat → Nat) (cI cZ : ClassId) (st : PS) (v : Int32) : (mW am cI cZ st).set 0 (am 0, .inr (9, [.int (st.1 0 0), .ref (am 1), .int (st.1 0 2), .int (st.1 0 3), .int (st.1 0 4), .int (st.1 0 5), .int (st.1 0 6), .int (st.1 0 7), .int (st.1 0 8), .int (st.1 0 9), .int (st.1 0 10), .int (st.1 0 11), .int (st.1 0 12), .int (st.1 0 13), .ref (am 2), .ref (am 3), .ref (am 4), .ref (am 5), .int (st.1 0 18), .int (st.1 0 19), .int (st.1 0 20), .ref (am 6), .ref (am 7), .ref (am 8), .ref (am 9), .ref (am 10), .ref (am 11), .ref (am 12), .ref (am 13), .ref (am 14), .int (st.1 0 30), .int (st.1 0 31), .ref (am 15), .ref (am 16), .int (st.1 0 34), .ref (am 17), .ref (am 18), .long st.2, .ref (am 19), .ref (am 20), .ref (am 21), .ref (am 22), .ref (am 23)].set 4 (.int v))) = mW am cI cZ (pU st 0 4 v) := rfl
theorem ms_0_5 (am : Nat → Nat) (cI cZ : ClassId) (st : PS) (v : Int32) : (mW am cI cZ st).set 0 (am 0, .inr (9, [.int (st.1 0 0), .ref (am 1), .int (st.1 0 2), .int (st.1 0 3), .int (st.1 0 4), .int (st.1 0 5), .int (st.1 0 6), .int (st.1 0 7), .int (st.1 0 8), .int (st.1 0 9), .int (st.1 0 10), .int (st.1 0 11), .int (st.1 0 12), .int (st.1 0 13), .ref (am 2), .ref (am 3), .ref (am 4), .ref (am 5), .int (st.1 0 18), .int (st.1 0 19), .int (st.1 0 20), .ref (am 6), .ref (am 7), .ref (am 8), .ref (am 9), .ref (am 10), .ref (am 11), .ref (am 12), .ref (am 13), .ref (am 14), .int (st.1 0 30), .int (st.1 0 31), .ref (am 15), .ref (am 16), .int (st.1 0 34), .ref (am 17), .ref (am 18), .long st.2, .ref (am 19), .ref (am 20), .ref (am 21), .ref (am 22), .ref (am 23)].set 5 (.int v))) = mW am cI cZ (pU st 0 5 v) := rfl
theorem ms_0_6 (am : Nat → Nat) (cI cZ : ClassId) (st : PS) (v : Int32) : (mW am cI cZ st).set 0 (am 0, .inr (9, [.int (st.1 0 0), .ref (am 1), .int (st.1 0 2), .int (st.1 0 3), .int (st.1 0 4), .int (st.1 0 5), .int (st.1 0 6), .int (st.1 0 7), .int (st.1 0 8), .int (st.1 0 9), .int (st.1 0 10), .int (st.1 0 11), .int (st.1 0 12), .int (st.1 0 13), .ref (am 2), .ref (am 3), .ref (am 4), .ref (am 5), .int (st.1 0 18), .int (st.1 0 19), .int (st.1 0 20), .ref (am 6), .ref (am 7), .ref (am 8), .ref (am 9), .ref (am 10), .ref (am 11), .ref (am 12), .ref (am 13), .ref (am 14), .int (st.1 0 30), .int (st.1 0 31), .ref (am 15), .ref (am 16), .int (st.1 0 34), .ref (am 17), .ref (am 18), .long st.2, .ref (am 19), .ref (am 20), .ref (am 21), .ref (am 22), .ref (am 23)].set 6 (.int v))) = mW am cI cZ (pU st 0 6 v) := rfl
theorem ms_0_7 (am : Nat → Nat) (cI cZ : ClassId) (st : PS) (v : Int32) : (mW am cI cZ st).set 0 (am 0, .inr (9, [.int (st.1 0 0), .ref (am 1), .int (st.1 0 2), .int (st.1 0 3), .int (st.1 0 4), .int (st.1 0 5), .int (st.1 0 6), .int (st.1 0 7), .int (st.1 0 8), .int (st.1 0 9), .int (st.1 0 10), .int (st.1 0 11), .int (st.1 0 12), .int (st.1 0 13), .ref (am 2), .ref (am 3), .ref (am 4), .ref (am 5), .int (st.1 0 18), .int (st.1 0 19), .int (st.1 0 20), .ref (am 6), .ref (am 7), .ref (am 8), .ref (am 9), .ref (am 10), .ref (am 11), .ref (am 12), .ref (am 13), .ref (am 14), .int (st.1 0 30), .int (st.1 0 31), .ref (am 15), .ref (am 16), .int (st.1 0 34), .ref (am 17), .ref (am 18), .long st.2, .ref (am 19), .ref (am 20), .ref (am 21), .ref (am 22), .ref (am 23)].set 7 (.int v))) = mW am cI cZ (pU st 0 7 v) := rfl
theorem ms_0_8 (am : Nat → Nat) (cI cZ : ClassId) (st : PS) (v : Int32) : (mW am cI cZ st).set 0 (am 0, .inr (9, [.int (st.1 0 0), .ref (am 1), .int (st.1 0 2), .int (st.1 0 3), .int (st.1 0 4), .int (st.1 0 5), .int (st.1 0 6), .int (st.1 0 7), .int (st.1 0 8), .int (st.1 0 9), .int (st.1 0 10), .int (st.1 0 11), .int (st.1 0 12), .int (st.1 0 13), .ref (am 2), .ref (am 3), .ref (am 4), .ref (am 5), .int (st.1 0 18), .int (st.1 0 19), .int (st.1 0 20), .ref (am 6), .ref (am 7), .ref (am 8), .ref (am 9), .ref (am 10), .ref (am 11), .ref (am 12), .ref (am 13), .ref (am 14), .int (st.1 0 30), .int (st.1 0 31), .ref (am 15), .ref (am 16), .int (st.1 0 34), .ref (am 17), .ref (am 18), .long st.2, .ref (am 19), .ref (am 20), .ref (am 21), .ref (am 22), .ref (am 23)].set 8 (.int v))) = mW am cI cZ (pU st 0 8 v) := rfl
theorem ms_0_9 (am : Nat → Nat) (cI cZ : ClassId) (st : PS) (v : Int32) : (mW am cI cZ st).set 0 (am 0, .inr (9, [.int (st.1 0 0), .ref (am 1), .int (st.1 0 2), .int (st.1 0 3), .int (st.1 0 4), .int (st.1 0 5), .int (st.1 0 6), .int (st.1 0 7), .int (st.1 0 8), .int (st.1 0 9), .int (st.1 0 10), .int (st.1 0 11), .int (st.1 0 12), .int (st.1 0 13), .ref (am 2), .ref (am 3), .ref (am 4), .ref (am 5), .int (st.1 0 18), .int (st.1 0 19), .int (st.1 0 20), .ref (am 6), .ref (am 7), .ref (am 8), .ref (am 9), .ref (am 10), .ref (am 11), .ref (am 12), .ref (am 13), .ref (am 14), .int (st.1 0 30), .int (st.1 0 31), .ref (am 15), .ref (am 16), .int (st.1 0 34), .ref (am 17), .ref (am 18), .long st.2, .ref (am 19), .ref (am 20), .ref (am 21), .ref (am 22), .ref (am 23)].set 9 (.int v))) = mW am cI cZ (pU st 0 9 v) := rfl
theorem ms_0_10 (am : Nat → Nat) (cI cZ : ClassId) (st : PS) (v : Int32) : (mW am cI cZ st).set 0 (am 0, .inr (9, [.int (st.1 0 0), .ref (am 1), .int (st.1 0 2), .int (st.1 0 3), .int (st.1 0 4), .int (st.1 0 5), .int (st.1 0 6), .int (st.1 0 7), .int (st.1 0 8), .int (st.1 0 9), .int (st.1 0 10), .int (st.1 0 11), .int (st.1 0 12), .int (st.1 0 13), .ref (am 2), .ref (am 3), .ref (am 4), .ref (am 5), .int (st.1 0 18), .int (st.1 0 19), .int (st.1 0 20), .ref (am 6), .ref (am 7), .ref (am 8), .ref (am 9), .ref (am 10), .ref (am 11), .ref (am 12), .ref (am 13), .ref (am 14), .int (st.1 0 30), .int (st.1 0 31), .ref (am 15), .ref (am 16), .int (st.1 0 34), .ref (am 17), .ref (am 18), .long st.2, .ref (am 19), .ref (am 20), .ref (am 21), .ref (am 22), .ref (am 23)].set 10 (.int v))) = mW am cI cZ (pU st 0 10 v) := rfl
theorem ms_0_11 (am : Nat → Nat) (cI cZ : ClassId) (st : PS) (v : Int32) : (mW am cI cZ st).set 0 (am 0, .inr (9, [.int (st.1 0 0), .ref (am 1), .int (st.1 0 2), .int (st.1 0 3), .int (st.1 0 4), .int (st.1 0 5), .int (st.1 0 6), .int (st.1 0 7), .int (st.1 0 8), .int (st.1 0 9), .int (st.1 0 10), .int (st.1 0 11), .int (st.1 0 12), .int (st.1 0 13), .ref (am 2), .ref (am 3), .ref (am 4), .ref (am 5), .int (st.1 0 18), .int (st.1 0 19), .int (st.1 0 20), .ref (am 6), .ref (am 7), .ref (am 8), .ref (am 9), .ref (am 10), .ref (am 11), .ref (am 12), .ref (am 13), .ref (am 14), .int (st.1 0 30), .int (st.1 0 31), .ref (am 15), .ref (am 16), .int (st.1 0 34), .ref (am 17), .ref (am 18), .long st.2, .ref (am 19), .ref (am 20), .ref (am 21), .ref (am 22), .ref (am 23)].set 11 (.int v))) = mW am cI cZ (pU st 0 11 v) := rfl
theorem ms_0_12 (am : Nat → Nat) (cI cZ : ClassId) (st : PS) (v : Int32) : (mW am cI cZ st).set 0 (am 0, .inr (9, [.int (st.1 0 0), .ref (am 1), .int (st.1 0 2), .int (st.1 0 3), .int (st.1 0 4), .int (st.1 0 5), .int (st.1 0 6), .int (st.1 0 7), .int (st.1 0 8), .int (st.1 0 9), .int (st.1 0 10), .int (st.1 0 11), .int (st.1 0 12), .int (st.1 0 13), .ref (am 2), .ref (am 3), .ref (am 4), .ref (am 5), .int (st.1 0 18), .int (st.1 0 19), .int (st.1 0 20), .ref (am 6), .ref (am 7), .ref (am 8), .ref (am 9), .ref (am 10), .ref (am 11), .ref (am 12), .ref (am 13), .ref (am 14), .int (st.1 0 30), .int (st.1 0 31), .ref (am 15), .ref (am 16), .int (st.1 0 34), .ref (am 17), .ref (am 18), .long st.2, .ref (am 19), .ref (am 20), .ref (am 21), .ref (am 22), .ref (am 23)].set 12 (.int v))) = mW am cI cZ (pU st 0 12 v) := rfl
theorem ms_0_13 (am : Nat → Nat) (cI cZ : ClassId) (st : PS) (v : Int32) : (mW am cI cZ st).set 0 (am 0, .inr (9, [.int (st.1 0 0), .ref (am 1), .int (st.1 0 2), .int (st.1 0 3), .int (st.1 0 4), .int (st.1 0 5), .int (st.1 0 6), .int (st.1 0 7), .int (st.1 0 8), .int (st.1 0 9), .int (st.1 0 10), .int (st.1 0 11), .int (st.1 0 12), .int (st.1 0 13), .ref (am 2), .ref (am 3), .ref (am 4), .ref (am 5), .int (st.1 0 18), .int (st.1 0 19), .int (st.1 0 20), .ref (am 6), .ref (am 7), .ref (am 8), .ref (am 9), .ref (am 10), .ref (am 11), .ref (am 12), .ref (am 13), .ref (am 14), .int (st.1 0 30), .int (st.1 0 31), .ref (am 15), .ref (am 16), .int (st.1 0 34), .ref (am 17), .ref (am 18), .long st.2, .ref (am 19), .ref (am 20), .ref (am 21), .ref (am 22), .ref (am 23)].set 13 (.int v))) = mW am cI cZ (pU st 0 13 v) := rfl
theorem ms_0_18 (am : Nat → Nat) (cI cZ : ClassId) (st : PS) (v : Int32) : (mW am cI cZ st).set 0 (am 0, .inr (9, [.int (st.1 0 0), .ref (am 1), .int (st.1 0 2), .int (st.1 0 3), .int (st.1 0 4), .int (st.1 0 5), .int (st.1 0 6), .int (st.1 0 7), .int (st.1 0 8), .int (st.1 0 9), .int (st.1 0 10), .int (st.1 0 11), .int (st.1 0 12), .int (st.1 0 13), .ref (am 2), .ref (am 3), .ref (am 4), .ref (am 5), .int (st.1 0 18), .int (st.1 0 19), .int (st.1 0 20), .ref (am 6), .ref (am 7), .ref (am 8), .ref (am 9), .ref (am 10), .ref (am 11), .ref (am 12), .ref (am 13), .ref (am 14), .int (st.1 0 30), .int (st.1 0 31), .ref (am 15), .ref (am 16), .int (st.1 0 34), .ref (am 17), .ref (am 18), .long st.2, .ref (am 19), .ref (am 20), .ref (am 21), .ref (am 22), .ref (am 23)].set 18 (.int v))) = mW am cI cZ (pU st 0 18 v) := rfl
theorem ms_0_19 (am : Nat → Nat) (cI cZ : ClassId) (st : PS) (v : Int32) : (mW am cI cZ st).set 0 (am 0, .inr (9, [.int (st.1 0 0), .ref (am 1), .int (st.1 0 2), .int (st.1 0 3), .int (st.1 0 4), .int (st.1 0 5), .int (st.1 0 6), .int (st.1 0 7), .int (st.1 0 8), .int (st.1 0 9), .int (st.1 0 10), .int (st.1 0 11), .int (st.1 0 12), .int (st.1 0 13), .ref (am 2), .ref (am 3), .ref (am 4), .ref (am 5), .int (st.1 0 18), .int (st.1 0 19), .int (st.1 0 20), .ref (am 6), .ref (am 7), .ref (am 8), .ref (am 9), .ref (am 10), .ref (am 11), .ref (am 12), .ref (am 13), .ref (am 14), .int (st.1 0 30), .int (st.1 0 31), .ref (am 15), .ref (am 16), .int (st.1 0 34), .ref (am 17), .ref (am 18), .long st.2, .ref (am 19), .ref (am 20), .ref (am 21), .ref (am 22), .ref (am 23)].set 19 (.int v))) = mW am cI cZ (pU st 0 19 v) := rfl
theorem ms_0_20 (am : Nat → Nat) (cI cZ : ClassId) (st : PS) (v : Int32) : (mW am cI cZ st).set 0 (am 0, .inr (9, [.int (st.1 0 0), .ref (am 1), .int (st.1 0 2), .int (st.1 0 3), .int (st.1 0 4), .int (st.1 0 5), .int (st.1 0 6), .int (st.1 0 7), .int (st.1 0 8), .int (st.1 0 9), .int (st.1 0 10), .int (st.1 0 11), .int (st.1 0 12), .int (st.1 0 13), .ref (am 2), .ref (am 3), .ref (am 4), .ref (am 5), .int (st.1 0 18), .int (st.1 0 19), .int (st.1 0 20), .ref (am 6), .ref (am 7), .ref (am 8), .ref (am 9), .ref (am 10), .ref (am 11), .ref (am 12), .ref (am 13), .ref (am 14), .int (st.1 0 30), .int (st.1 0 31), .ref (am 15), .ref (am 16), .int (st.1 0 34), .ref (am 17), .ref (am 18), .long st.2, .ref (am 19), .ref (am 20), .ref (am 21), .ref (am 22), .ref (am 23)].set 20 (.int v))) = mW am cI cZ (pU st 0 20 v) := rfl
theorem ms_0_30 (am : Nat → Nat) (cI cZ : ClassId) (st : PS) (v : Int32) : (mW am cI cZ st).set 0 (am 0, .inr (9, [.int (st.1 0 0), .ref (am 1), .int (st.1 0 2), .int (st.1 0 3), .int (st.1 0 4), .int (st.1 0 5), .int (st.1 0 6), .int (st.1 0 7), .int (st.1 0 8), .int (st.1 0 9), .int (st.1 0 10), .int (st.1 0 11), .int (st.1 0 12), .int (st.1 0 13), .ref (am 2), .ref (am 3), .ref (am 4), .ref (am 5), .int (st.1 0 18), .int (st.1 0 19), .int (st.1 0 20), .ref (am 6), .ref (am 7), .ref (am 8), .ref (am 9), .ref (am 10), .ref (am 11), .ref (am 12), .ref (am 13), .ref (am 14), .int (st.1 0 30), .int (st.1 0 31), .ref (am 15), .ref (am 16), .int (st.1 0 34), .ref (am 17), .ref (am 18), .long st.2, .ref (am 19), .ref (am 20), .ref (am 21), .ref (am 22), .ref (am 23)].set 30 (.int v))) = mW am cI cZ (pU st 0 30 v) := rfl
theorem ms_0_31 (am : Nat → Nat) (cI cZ : ClassId) (st : PS) (v : Int32) : (mW am cI cZ st).set 0 (am 0, .inr (9, [.int (st.1 0 0), .ref (am 1), .int (st.1 0 2), .int (st.1 0 3), .int (st.1 0 4), .int (st.1 0 5), .int (st.1 0 6), .int (st.1 0 7), .int (st.1 0 8), .int (st.1 0 9), .int (st.1 0 10), .int (st.1 0 11), .int (st.1 0 12), .int (st.1 0 13), .ref (am 2), .ref (am 3), .ref (am 4), .ref (am 5), .int (st.1 0 18), .int (st.1 0 19), .int (st.1 0 20), .ref (am 6), .ref (am 7), .ref (am 8), .ref (am 9), .ref (am 10), .ref (am 11), .ref (am 12), .ref (am 13), .ref (am 14), .int (st.1 0 30), .int (st.1 0 31), .ref (am 15), .ref (am 16), .int (st.1 0 34), .ref (am 17), .ref (am 18), .long st.2, .ref (am 19), .ref (am 20), .ref (am 21), .ref (am 22), .ref (am 23)].set 31 (.int v))) = mW am cI cZ (pU st 0 31 v) := rfl
theorem ms_0_34 (am : Nat → Nat) (cI cZ : ClassId) (st : PS) (v : Int32) : (mW am cI cZ st).set 0 (am 0, .inr (9, [.int (st.1 0 0), .ref (am 1), .int (st.1 0 2), .int (st.1 0 3), .int (st.1 0 4), .int (st.1 0 5), .int (st.1 0 6), .int (st.1 0 7), .int (st.1 0 8), .int (st.1 0 9), .int (st.1 0 10), .int (st.1 0 11), .int (st.1 0 12), .int (st.1 0 13), .ref (am 2), .ref (am 3), .ref (am 4), .ref (am 5), .int (st.1 0 18), .int (st.1 0 19), .int (st.1 0 20), .ref (am 6), .ref (am 7), .ref (am 8), .ref (am 9), .ref (am 10), .ref (am 11), .ref (am 12), .ref (am 13), .ref (am 14), .int (st.1 0 30), .int (st.1 0 31), .ref (am 15), .ref (am 16), .int (st.1 0 34), .ref (am 17), .ref (am 18), .long st.2, .ref (am 19), .ref (am 20), .ref (am 21), .ref (am 22), .ref (am 23)].set 34 (.int v))) = mW am cI cZ (pU st 0 34 v) := rfl
theorem ms_0_37 (am : Nat → Nat) (cI cZ : ClassId) (st : PS) (v : Int64) : (mW am cI cZ st).set 0 (am 0, .inr (9, [.int (st.1 0 0), .ref (am 1), .int (st.1 0 2), .int (st.1 0 3), .int (st.1 0 4), .int (st.1 0 5), .int (st.1 0 6), .int (st.1 0 7), .int (st.1 0 8), .int (st.1 0 9), .int (st.1 0 10), .int (st.1 0 11), .int (st.1 0 12), .int (st.1 0 13), .ref (am 2), .ref (am 3), .ref (am 4), .ref (am 5), .int (st.1 0 18), .int (st.1 0 19), .int (st.1 0 20), .ref (am 6), .ref (am 7), .ref (am 8), .ref (am 9), .ref (am 10), .ref (am 11), .ref (am 12), .ref (am 13), .ref (am 14), .int (st.1 0 30), .int (st.1 0 31), .ref (am 15), .ref (am 16), .int (st.1 0 34), .ref (am 17), .ref (am 18), .long st.2, .ref (am 19), .ref (am 20), .ref (am 21), .ref (am 22), .ref (am 23)].set 37 (.long v))) = mW am cI cZ (pT st v) := rfl
theorem ms_1 (am : Nat → Nat) (cI cZ : ClassId) (st : PS) (g : Nat → Int32) : (mW am cI cZ st).set 1 (am 1, .inl (cI, 170, .inl g)) = mW am cI cZ (pC st 1 g) := rfl
theorem ms_2 (am : Nat → Nat) (cI cZ : ClassId) (st : PS) (g : Nat → Int32) : (mW am cI cZ st).set 2 (am 2, .inl (cI, 24, .inl g)) = mW am cI cZ (pC st 2 g) := rfl
theorem ms_3 (am : Nat → Nat) (cI cZ : ClassId) (st : PS) (g : Nat → Int32) : (mW am cI cZ st).set 3 (am 3, .inl (cI, 24, .inl g)) = mW am cI cZ (pC st 3 g) := rfl
theorem ms_4 (am : Nat → Nat) (cI cZ : ClassId) (st : PS) (g : Nat → Int32) : (mW am cI cZ st).set 4 (am 4, .inl (cI, 14, .inl g)) = mW am cI cZ (pC st 4 g) := rfl
theorem ms_5 (am : Nat → Nat) (cI cZ : ClassId) (st : PS) (g : Nat → Int32) : (mW am cI cZ st).set 5 (am 5, .inl (cI, 1, .inl g)) = mW am cI cZ (pC st 5 g) := rfl
theorem ms_6 (am : Nat → Nat) (cI cZ : ClassId) (st : PS) (g : Nat → Int32) : (mW am cI cZ st).set 6 (am 6, .inl (cI, 8, .inl g)) = mW am cI cZ (pC st 6 g) := rfl
theorem ms_7 (am : Nat → Nat) (cI cZ : ClassId) (st : PS) (g : Nat → Int32) : (mW am cI cZ st).set 7 (am 7, .inl (cI, 8, .inl g)) = mW am cI cZ (pC st 7 g) := rfl
theorem ms_8 (am : Nat → Nat) (cI cZ : ClassId) (st : PS) (g : Nat → Int32) : (mW am cI cZ st).set 8 (am 8, .inl (cI, 8, .inl g)) = mW am cI cZ (pC st 8 g) := rfl
theorem ms_9 (am : Nat → Nat) (cI cZ : ClassId) (st : PS) (g : Nat → Int32) : (mW am cI cZ st).set 9 (am 9, .inl (cI, 6, .inl g)) = mW am cI cZ (pC st 9 g) := rfl
theorem ms_10 (am : Nat → Nat) (cI cZ : ClassId) (st : PS) (g : Nat → Int32) : (mW am cI cZ st).set 10 (am 10, .inl (cI, 7, .inl g)) = mW am cI cZ (pC st 10 g) := rfl
theorem ms_11 (am : Nat → Nat) (cI cZ : ClassId) (st : PS) (g : Nat → Int32) : (mW am cI cZ st).set 11 (am 11, .inl (cI, 7, .inl g)) = mW am cI cZ (pC st 11 g) := rfl
theorem ms_12 (am : Nat → Nat) (cI cZ : ClassId) (st : PS) (g : Nat → Int32) : (mW am cI cZ st).set 12 (am 12, .inl (cI, 64, .inl g)) = mW am cI cZ (pC st 12 g) := rfl
theorem ms_13 (am : Nat → Nat) (cI cZ : ClassId) (st : PS) (g : Nat → Int32) : (mW am cI cZ st).set 13 (am 13, .inl (cI, 21, .inl g)) = mW am cI cZ (pC st 13 g) := rfl
theorem ms_14 (am : Nat → Nat) (cI cZ : ClassId) (st : PS) (g : Nat → Int32) : (mW am cI cZ st).set 14 (am 14, .inl (cI, 21, .inl g)) = mW am cI cZ (pC st 14 g) := rfl
theorem ms_15 (am : Nat → Nat) (cI cZ : ClassId) (st : PS) (g : Nat → Int32) : (mW am cI cZ st).set 15 (am 15, .inl (cI, 210, .inl g)) = mW am cI cZ (pC st 15 g) := rfl
theorem ms_16 (am : Nat → Nat) (cI cZ : ClassId) (st : PS) (g : Nat → Int32) : (mW am cI cZ st).set 16 (am 16, .inl (cI, 1024, .inl g)) = mW am cI cZ (pC st 16 g) := rfl
theorem ms_17 (am : Nat → Nat) (cI cZ : ClassId) (st : PS) (g : Nat → Int32) : (mW am cI cZ st).set 17 (am 17, .inl (cI, 6, .inl g)) = mW am cI cZ (pC st 17 g) := rfl
theorem ms_18 (am : Nat → Nat) (cI cZ : ClassId) (st : PS) (g : Nat → Int32) : (mW am cI cZ st).set 18 (am 18, .inl (cI, 6, .inl g)) = mW am cI cZ (pC st 18 g) := rfl
theorem ms_19 (am : Nat → Nat) (cI cZ : ClassId) (st : PS) (g : Nat → Int32) : (mW am cI cZ st).set 19 (am 19, .inl (cZ, 2, .inl g)) = mW am cI cZ (pC st 19 g) := rfl
theorem ms_20 (am : Nat → Nat) (cI cZ : ClassId) (st : PS) (g : Nat → Int32) : (mW am cI cZ st).set 20 (am 20, .inl (cI, 42, .inl g)) = mW am cI cZ (pC st 20 g) := rfl
theorem ms_21 (am : Nat → Nat) (cI cZ : ClassId) (st : PS) (g : Nat → Int32) : (mW am cI cZ st).set 21 (am 21, .inl (cI, 420, .inl g)) = mW am cI cZ (pC st 21 g) := rfl
theorem ms_22 (am : Nat → Nat) (cI cZ : ClassId) (st : PS) (g : Nat → Int32) : (mW am cI cZ st).set 22 (am 22, .inl (cI, 2, .inl g)) = mW am cI cZ (pC st 22 g) := rfl
theorem ms_23 (am : Nat → Nat) (cI cZ : ClassId) (st : PS) (g : Nat → Int32) : (mW am cI cZ st).set 23 (am 23, .inl (cI, 2, .inl g)) = mW am cI cZ (pC st 23 g) := rfl
abbrev mk_Of (r : Nat) : Prop := r = 13 ∨ r = 14
abbrev mk_To (r : Nat) : Prop := r = 2 ∨ r = 3 ∨ r = 4 ∨ r = 5
theorem cg_Pose (am : Nat → Nat) (cI cC cS : ClassId) (st : PS) {r : Nat} (h : ck_Pose r) : (cW am cI cC cS st)[r]? = some (am r, .inr (4, [.ref (am (r + 1))])) := by rcases h with rfl | rfl | rfl | rfl | rfl | rfl | rfl <;> rfl
theorem cg_Pose_row (am : Nat → Nat) (cI cC cS : ClassId) (st : PS) {r : Nat} (h : ck_Pose r) : (cW am cI cC cS st)[r + 1]? = some (am (r + 1), .inl (cI, 21, .inl (st.1 (r + 1)))) := by rcases h with rfl | rfl | rfl | rfl | rfl | rfl | rfl <;> rfl
theorem cs_Pose_row (am : Nat → Nat) (cI cC cS : ClassId) (st : PS) {r : Nat} (h : ck_Pose r) (g : Nat → Int32) : (cW am cI cC cS st).set (r + 1) (am (r + 1), .inl (cI, 21, .inl g)) = cW am cI cC cS (pC st (r + 1) g) := by rcases h with rfl | rfl | rfl | rfl | rfl | rfl | rfl <;> rfl
theorem cg_Doll (am : Nat → Nat) (cI cC cS : ClassId) (st : PS) {r : Nat} (h : ck_Doll r) : (cW am cI cC cS st)[r]? = some (am r, .inr (0, [.ref (am (r + 1)), .ref (am (r + 2)), .ref (am (r + 3)), .ref (am (r + 4)), .ref (am (r + 5)), .ref (am (r + 6)), .ref (am (r + 8)), .int (st.1 r 7), .int (st.1 r 8), .int (st.1 r 9), .ref (am (r + 7))])) := by rcases h with rfl | rfl <;> rfl
theorem cg_Doll_parent (am : Nat → Nat) (cI cC cS : ClassId) (st : PS) {r : Nat} (h : ck_Doll r) : (cW am cI cC cS st)[r + 1]? = some (am (r + 1), .inl (cI, 8, .inl (st.1 (r + 1)))) := by rcases h with rfl | rfl <;> rfl
theorem cs_Doll_parent (am : Nat → Nat) (cI cC cS : ClassId) (st : PS) {r : Nat} (h : ck_Doll r) (g : Nat → Int32) : (cW am cI cC cS st).set (r + 1) (am (r + 1), .inl (cI, 8, .inl g)) = cW am cI cC cS (pC st (r + 1) g) := by rcases h with rfl | rfl <;> rfl
theorem cg_Doll_bone (am : Nat → Nat) (cI cC cS : ClassId) (st : PS) {r : Nat} (h : ck_Doll r) : (cW am cI cC cS st)[r + 2]? = some (am (r + 2), .inl (cI, 8, .inl (st.1 (r + 2)))) := by rcases h with rfl | rfl <;> rfl
theorem cs_Doll_bone (am : Nat → Nat) (cI cC cS : ClassId) (st : PS) {r : Nat} (h : ck_Doll r) (g : Nat → Int32) : (cW am cI cC cS st).set (r + 2) (am (r + 2), .inl (cI, 8, .inl g)) = cW am cI cC cS (pC st (r + 2) g) := by rcases h with rfl | rfl <;> rfl
theorem cg_Doll_weight (am : Nat → Nat) (cI cC cS : ClassId) (st : PS) {r : Nat} (h : ck_Doll r) : (cW am cI cC cS st)[r + 3]? = some (am (r + 3), .inl (cI, 8, .inl (st.1 (r + 3)))) := by rcases h with rfl | rfl <;> rfl
theorem cs_Doll_weight (am : Nat → Nat) (cI cC cS : ClassId) (st : PS) {r : Nat} (h : ck_Doll r) (g : Nat → Int32) : (cW am cI cC cS st).set (r + 3) (am (r + 3), .inl (cI, 8, .inl g)) = cW am cI cC cS (pC st (r + 3) g) := by rcases h with rfl | rfl <;> rfl
theorem cg_Doll_strength (am : Nat → Nat) (cI cC cS : ClassId) (st : PS) {r : Nat} (h : ck_Doll r) : (cW am cI cC cS st)[r + 4]? = some (am (r + 4), .inl (cI, 6, .inl (st.1 (r + 4)))) := by rcases h with rfl | rfl <;> rfl
theorem cs_Doll_strength (am : Nat → Nat) (cI cC cS : ClassId) (st : PS) {r : Nat} (h : ck_Doll r) (g : Nat → Int32) : (cW am cI cC cS st).set (r + 4) (am (r + 4), .inl (cI, 6, .inl g)) = cW am cI cC cS (pC st (r + 4) g) := by rcases h with rfl | rfl <;> rfl
theorem cg_Doll_beatLift (am : Nat → Nat) (cI cC cS : ClassId) (st : PS) {r : Nat} (h : ck_Doll r) : (cW am cI cC cS st)[r + 5]? = some (am (r + 5), .inl (cI, 7, .inl (st.1 (r + 5)))) := by rcases h with rfl | rfl <;> rfl
theorem cs_Doll_beatLift (am : Nat → Nat) (cI cC cS : ClassId) (st : PS) {r : Nat} (h : ck_Doll r) (g : Nat → Int32) : (cW am cI cC cS st).set (r + 5) (am (r + 5), .inl (cI, 7, .inl g)) = cW am cI cC cS (pC st (r + 5) g) := by rcases h with rfl | rfl <;> rfl
theorem cg_Doll_beatTilt (am : Nat → Nat) (cI cC cS : ClassId) (st : PS) {r : Nat} (h : ck_Doll r) : (cW am cI cC cS st)[r + 6]? = some (am (r + 6), .inl (cI, 7, .inl (st.1 (r + 6)))) := by rcases h with rfl | rfl <;> rfl
theorem cs_Doll_beatTilt (am : Nat → Nat) (cI cC cS : ClassId) (st : PS) {r : Nat} (h : ck_Doll r) (g : Nat → Int32) : (cW am cI cC cS st).set (r + 6) (am (r + 6), .inl (cI, 7, .inl g)) = cW am cI cC cS (pC st (r + 6) g) := by rcases h with rfl | rfl <;> rfl
theorem cg_Doll_bonesBetween (am : Nat → Nat) (cI cC cS : ClassId) (st : PS) {r : Nat} (h : ck_Doll r) : (cW am cI cC cS st)[r + 7]? = some (am (r + 7), .inl (cI, 64, .inl (st.1 (r + 7)))) := by rcases h with rfl | rfl <;> rfl
theorem cs_Doll_bonesBetween (am : Nat → Nat) (cI cC cS : ClassId) (st : PS) {r : Nat} (h : ck_Doll r) (g : Nat → Int32) : (cW am cI cC cS st).set (r + 7) (am (r + 7), .inl (cI, 64, .inl g)) = cW am cI cC cS (pC st (r + 7) g) := by rcases h with rfl | rfl <;> rfl
theorem cs_Doll_7 (am : Nat → Nat) (cI cC cS : ClassId) (st : PS) {r : Nat} (h : ck_Doll r) (v : Int32) : (cW am cI cC cS st).set r (am r, .inr (0, [.ref (am (r + 1)), .ref (am (r + 2)), .ref (am (r + 3)), .ref (am (r + 4)), .ref (am (r + 5)), .ref (am (r + 6)), .ref (am (r + 8)), .int (st.1 r 7), .int (st.1 r 8), .int (st.1 r 9), .ref (am (r + 7))].set 7 (.int v))) = cW am cI cC cS (pU st r 7 v) := by rcases h with rfl | rfl <;> rfl
theorem cs_Doll_8 (am : Nat → Nat) (cI cC cS : ClassId) (st : PS) {r : Nat} (h : ck_Doll r) (v : Int32) : (cW am cI cC cS st).set r (am r, .inr (0, [.ref (am (r + 1)), .ref (am (r + 2)), .ref (am (r + 3)), .ref (am (r + 4)), .ref (am (r + 5)), .ref (am (r + 6)), .ref (am (r + 8)), .int (st.1 r 7), .int (st.1 r 8), .int (st.1 r 9), .ref (am (r + 7))].set 8 (.int v))) = cW am cI cC cS (pU st r 8 v) := by rcases h with rfl | rfl <;> rfl
theorem cs_Doll_9 (am : Nat → Nat) (cI cC cS : ClassId) (st : PS) {r : Nat} (h : ck_Doll r) (v : Int32) : (cW am cI cC cS st).set r (am r, .inr (0, [.ref (am (r + 1)), .ref (am (r + 2)), .ref (am (r + 3)), .ref (am (r + 4)), .ref (am (r + 5)), .ref (am (r + 6)), .ref (am (r + 8)), .int (st.1 r 7), .int (st.1 r 8), .int (st.1 r 9), .ref (am (r + 7))].set 9 (.int v))) = cW am cI cC cS (pU st r 9 v) := by rcases h with rfl | rfl <;> rfl
theorem cg_Scene (am : Nat → Nat) (cI cC cS : ClassId) (st : PS) {r : Nat} (h : ck_Scene r) : (cW am cI cC cS st)[r]? = some (am r, .inr (5, [.ref (am (r + 1)), .ref (am (r + 3)), .int (st.1 r 2)])) := by rcases h with rfl | rfl | rfl <;> rfl
theorem cs_Scene_2 (am : Nat → Nat) (cI cC cS : ClassId) (st : PS) {r : Nat} (h : ck_Scene r) (v : Int32) : (cW am cI cC cS st).set r (am r, .inr (5, [.ref (am (r + 1)), .ref (am (r + 3)), .int (st.1 r 2)].set 2 (.int v))) = cW am cI cC cS (pU st r 2 v) := by rcases h with rfl | rfl | rfl <;> rfl
theorem cg_Past (am : Nat → Nat) (cI cC cS : ClassId) (st : PS) {r : Nat} (h : ck_Past r) : (cW am cI cC cS st)[r]? = some (am r, .inr (3, [.ref (am (r + 1)), .int (st.1 r 1), .int (st.1 r 2)])) := by rcases h with rfl | rfl | rfl <;> rfl
theorem cg_Past_rows (am : Nat → Nat) (cI cC cS : ClassId) (st : PS) {r : Nat} (h : ck_Past r) : (cW am cI cC cS st)[r + 1]? = some (am (r + 1), .inl (cI, 210, .inl (st.1 (r + 1)))) := by rcases h with rfl | rfl | rfl <;> rfl
theorem cs_Past_rows (am : Nat → Nat) (cI cC cS : ClassId) (st : PS) {r : Nat} (h : ck_Past r) (g : Nat → Int32) : (cW am cI cC cS st).set (r + 1) (am (r + 1), .inl (cI, 210, .inl g)) = cW am cI cC cS (pC st (r + 1) g) := by rcases h with rfl | rfl | rfl <;> rfl
theorem cs_Past_1 (am : Nat → Nat) (cI cC cS : ClassId) (st : PS) {r : Nat} (h : ck_Past r) (v : Int32) : (cW am cI cC cS st).set r (am r, .inr (3, [.ref (am (r + 1)), .int (st.1 r 1), .int (st.1 r 2)].set 1 (.int v))) = cW am cI cC cS (pU st r 1 v) := by rcases h with rfl | rfl | rfl <;> rfl
theorem cs_Past_2 (am : Nat → Nat) (cI cC cS : ClassId) (st : PS) {r : Nat} (h : ck_Past r) (v : Int32) : (cW am cI cC cS st).set r (am r, .inr (3, [.ref (am (r + 1)), .int (st.1 r 1), .int (st.1 r 2)].set 2 (.int v))) = cW am cI cC cS (pU st r 2 v) := by rcases h with rfl | rfl | rfl <;> rfl
theorem cg_Row (am : Nat → Nat) (cI cC cS : ClassId) (st : PS) {r : Nat} (h : ck_Row r) : (cW am cI cC cS st)[r]? = some (am r, .inl (cI, 21, .inl (st.1 r))) := by rcases h with rfl | rfl | rfl | rfl | rfl | rfl | rfl <;> rfl
theorem cs_Row (am : Nat → Nat) (cI cC cS : ClassId) (st : PS) {r : Nat} (h : ck_Row r) (g : Nat → Int32) : (cW am cI cC cS st).set r (am r, .inl (cI, 21, .inl g)) = cW am cI cC cS (pC st r g) := by rcases h with rfl | rfl | rfl | rfl | rfl | rfl | rfl <;> rfl
theorem cg_Rows (am : Nat → Nat) (cI cC cS : ClassId) (st : PS) {r : Nat} (h : ck_Rows r) : (cW am cI cC cS st)[r]? = some (am r, .inl (cI, 210, .inl (st.1 r))) := by rcases h with rfl | rfl | rfl <;> rfl
theorem cs_Rows (am : Nat → Nat) (cI cC cS : ClassId) (st : PS) {r : Nat} (h : ck_Rows r) (g : Nat → Int32) : (cW am cI cC cS st).set r (am r, .inl (cI, 210, .inl g)) = cW am cI cC cS (pC st r g) := by rcases h with rfl | rfl | rfl <;> rfl
theorem ck_Scene_Pose {r : Nat} (h : ck_Scene r) : ck_Pose (r + 1) := by rcases h with rfl | rfl | rfl <;> decide
theorem ck_Scene_Past {r : Nat} (h : ck_Scene r) : ck_Past (r + 3) := by rcases h with rfl | rfl | rfl <;> decide
theorem ck_Doll_Pose {r : Nat} (h : ck_Doll r) : ck_Pose (r + 8) := by rcases h with rfl | rfl <;> decide
theorem ck_Pose_Row {r : Nat} (h : ck_Pose r) : ck_Row (r + 1) := by rcases h with rfl | rfl | rfl | rfl | rfl | rfl | rfl <;> decide
theorem ck_Past_Rows {r : Nat} (h : ck_Past r) : ck_Rows (r + 1) := by rcases h with rfl | rfl | rfl <;> decide
def mL (r : Nat) : Nat := match r with
  | 2 => 24
  | 3 => 24
  | 4 => 14
  | 5 => 1
  | _ => 0
theorem mg_Of (am : Nat → Nat) (cI cZ : ClassId) (st : PS) {r : Nat} (h : mk_Of r) : (mW am cI cZ st)[r]? = some (am r, .inl (cI, 21, .inl (st.1 r))) := by rcases h with rfl | rfl <;> rfl
theorem mg_To (am : Nat → Nat) (cI cZ : ClassId) (st : PS) {r : Nat} (h : mk_To r) : (mW am cI cZ st)[r]? = some (am r, .inl (cI, mL r, .inl (st.1 r))) := by rcases h with rfl | rfl | rfl | rfl <;> rfl
theorem ms_To (am : Nat → Nat) (cI cZ : ClassId) (st : PS) {r : Nat} (h : mk_To r) (g : Nat → Int32) : (mW am cI cZ st).set r (am r, .inl (cI, mL r, .inl g)) = mW am cI cZ (pC st r g) := by rcases h with rfl | rfl | rfl | rfl <;> rfl
