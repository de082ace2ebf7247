/-! the two made states agree -/
theorem st_one {N : Nat} (hN : 2000 ≤ N) : ∃ st1, jm_X4_empty N 38 zS = some ((), st1) ∧ Rel st1 (pU zS 13 0 20) := by
  obtain ⟨c', e1, h1, h2, h3⟩ := q_fill0 (N := N) (r := 39) (c := zS) hN
  refine ⟨pU c' 39 0 20, ?_, ?_⟩
  · unfold jm_X4_empty
    rw [show 38 + 1 = 39 from rfl, e1]
    rfl
  have C : ∀ a, a ≠ 39 → (pU c' 39 0 20).1 a = fun _ => 0 := fun a ha => by
    show (if a = 39 then _ else c'.1 a) = _
    rw [if_neg ha, h1 a ha]
  have C39 : ∀ j, j < 21 → (pU c' 39 0 20).1 39 j = if j = 0 then 20 else 0 := fun j hj => by
    show (if 39 = 39 then upd (c'.1 39) 0 20 else c'.1 39) j = _
    rw [if_pos rfl]
    by_cases z : j = 0
    · subst z; simp [upd]
    · simp [upd, z, h3 j hj]
  have M : ∀ a, a ≠ 13 → (pU zS 13 0 20).1 a = fun _ => 0 := fun a ha => by
    show (if a = 13 then _ else zS.1 a) = _
    rw [if_neg ha]
  have M13 : ∀ j, (pU zS 13 0 20).1 13 j = if j = 0 then 20 else 0 := fun j => by
    show (if 13 = 13 then upd (fun _ => 0) 0 20 else (fun _ => 0)) j = _
    rw [if_pos rfl]
    by_cases z : j = 0
    · subst z; simp [upd]
    · simp [upd, z]
  have hm2 : (pU zS 13 0 20).2 = 0 := rfl
  generalize pU zS 13 0 20 = m at M M13 hm2 ⊢
  have h2' : (pU c' 39 0 20).2 = 0 := h2
  generalize pU c' 39 0 20 = c at C C39 h2' ⊢
  have c9 : ∀ a j, a ≠ 39 → c.1 a j = 0 := fun a j ha => by rw [C a ha]
  have m9 : ∀ a j, a ≠ 13 → m.1 a j = 0 := fun a j ha => by rw [M a ha]
  have z0 : (0 : Int32) = nI 0 := nI_0.symm
  refine ⟨0, 0, 0, fun _ => 0, fun _ => 0, fun _ => 0, fun _ => 0, fun _ => 0, ⟨⟨?_, ?_, by omega, by omega, fun a h => absurd h (Nat.not_lt_zero a)⟩, ⟨?_, ?_, by omega, by omega, fun a h => absurd h (Nat.not_lt_zero a)⟩, fun a h => absurd h (Nat.not_lt_zero a), fun a h => absurd h (Nat.not_lt_zero a), fun a h => absurd h (Nat.not_lt_zero a), ⟨?_, by omega, fun a h => absurd h (Nat.not_lt_zero a)⟩, ⟨?_, by omega, fun a h => absurd h (Nat.not_lt_zero a)⟩⟩, ⟨0, by omega, ?_, ?_, fun a h => absurd h (Nat.not_lt_zero a)⟩, ⟨Or.inl ⟨?_, ?_⟩, Or.inl ⟨?_, ?_⟩⟩, ⟨0, fun _ => 0, fun _ => 0, ⟨?_, by omega, fun a h => absurd h (Nat.not_lt_zero a)⟩, ⟨?_, by omega, fun a h => absurd h (Nat.not_lt_zero a)⟩⟩, ⟨fun j => if j = 0 then 20 else 0, 0, 0, 0, ⟨⟨20, by omega, by decide⟩, ⟨3, by omega, by decide⟩, ⟨0, by decide, by decide⟩, fun a h => absurd h (Nat.not_lt_zero a)⟩, fun j hj => C39 j hj, fun j _ => M13 j, by omega, by omega, by omega, ?_, ?_, ?_, ?_, fun a h => absurd h (Nat.not_lt_zero a)⟩, ?_⟩
  · rw [c9 _ _ (by decide)]; exact z0
  · rw [c9 _ _ (by decide)]; exact z0
  · rw [m9 _ _ (by decide)]; exact z0
  · rw [m9 _ _ (by decide)]; exact z0
  · rw [c9 _ _ (by decide)]; exact z0
  · rw [m9 _ _ (by decide)]; exact z0
  · rw [c9 _ _ (by decide)]; exact z0
  · rw [m9 _ _ (by decide)]; exact z0
  · rw [c9 _ _ (by decide)]
  · rw [m9 _ _ (by decide)]
  · rw [c9 _ _ (by decide)]
  · rw [m9 _ _ (by decide)]
  · rw [c9 _ _ (by decide)]; exact z0
  · rw [m9 _ _ (by decide)]; exact z0
  · rw [c9 _ _ (by decide)]; exact z0
  · rw [c9 _ _ (by decide)]; exact z0
  · rw [m9 _ _ (by decide)]; exact z0
  · rw [m9 _ _ (by decide)]; exact z0
  · rw [h2', hm2]
