/-! the reference's shop, a measure or a hand set -/
theorem RepL0_sPe {cy : Nat → ClassId} {ad ad1 : Nat → Nat} {ct ct1 : Nat → Option va_E} {M : tM} (h : RepL0 cy ad ct M) (ho : okM M) {i : Nat} (hi : i < mP M) (f : Nat → Nat) (hx : ∀ j, j < 200 → ad1 j = ad j ∧ (j ≠ 130 + i → ct1 j = ct j)) (h1 : ct1 (130 + i) = some (.inl (cy 1, 4, aI (fI4 f)))) : RepL0 cy ad1 ct1 (sPe M i f) := by
  obtain ⟨⟨a1, a2, a3, a4⟩, ⟨b1, b2⟩, c1, c2, c3, c4, c5, c6, c7⟩ := h
  obtain ⟨⟨hb1, hb2, hb3, hb4, hb5⟩, -, -, hk3, -, hk5⟩ := ho
  have g : ∀ j, j < 200 → j ≠ 130 + i → ct1 j = ct j := fun j hj a => (hx j hj).2 a
  refine ⟨⟨a1.mvg (hx 0 (by omega)).1 (hx _ (by omega)).1 (g _ (by omega) (by omega)) (g _ (by omega) (by omega)) (fun j hj => (hx _ (by omega)).1), a2.mvg (hx 0 (by omega)).1 (hx _ (by omega)).1 (g _ (by omega) (by omega)) (g _ (by omega) (by omega)) (fun j hj => (hx _ (by omega)).1), a3.mvg (hx 0 (by omega)).1 (hx _ (by omega)).1 (g _ (by omega) (by omega)) (g _ (by omega) (by omega)) (fun j hj => (hx _ (by omega)).1), a4.mvg (hx 0 (by omega)).1 (hx _ (by omega)).1 (g _ (by omega) (by omega)) (g _ (by omega) (by omega)) (fun j hj => (hx _ (by omega)).1)⟩, ⟨(g _ (by omega) (by omega)).trans b1, (g _ (by omega) (by omega)).trans b2⟩, fun j (hj : j < mC M) => (g _ (by omega) (by omega)).trans (c1 j hj), fun j (hj : j < mP M) => ?_, fun j (hj : j < mS M) => ?_, fun j (hj : j < mS M) k hk => ?_, fun j (hj : j < mO M) => ?_, fun j (hj : j < mO M) => ⟨fun z => (g _ (by omega) (by omega)).trans ((c6 j hj).1 z), fun z => (g _ (by omega) (by omega)).trans ((c6 j hj).2 z)⟩, (g 0 (by omega) (by omega)).trans c7⟩
  · show ct1 (130 + j) = some (.inl (cy 1, 4, aI (fI4 (vf_upd (mpe M) i f j))))
    by_cases e : j = i
    · subst e
      rw [vu_s]
      exact h1
    · rw [vu_n e]
      exact (g _ (by omega) (by omega)).trans (c2 j hj)
  · have hz := (hk3 j hj).1
    exact (c3 j hj).mvg (hx 0 (by omega)).1 (hx _ (by omega)).1 (g _ (by omega) (by omega)) (g _ (by omega) (by omega)) (fun k hk => (hx _ (by omega)).1)
  · have hz := (hk3 j hj).1
    have hk2 : k < (mst M j).1 := hk
    exact (g _ (by omega) (by omega)).trans (c4 j hj k hk)
  · refine (g _ (by omega) (by omega)).trans ((c5 j hj).trans (congrArg some ?_))
    have e9 : ad1 (if oState (mod M j) = 0 then 180 + j else 190 + j) = ad (if oState (mod M j) = 0 then 180 + j else 190 + j) := (hx _ (by split <;> omega)).1
    show rOr ad j (mod M j) = rOr ad1 j (mod M j)
    unfold rOr
    rw [e9]
theorem RepL0_sHa {cy : Nat → ClassId} {ad : Nat → Nat} {ct ct1 : Nat → Option va_E} {M : tM} (h : RepL0 cy ad ct M) (ho : okM M) (i : Nat) (f : tHa) (hx : ∀ j, j < 200 → j ≠ 105 → j ≠ 106 → ct1 j = ct j) (h1 : ct1 105 = some (.inl (cy 0, 3, aD (fF (sHa M i f))))) (h2 : ct1 106 = some (.inl (cy 2, 3, aF (fP (sHa M i f))))) : RepL0 cy ad ct1 (sHa M i f) := by
  obtain ⟨⟨a1, a2, a3, a4⟩, -, c1, c2, c3, c4, c5, c6, c7⟩ := h
  obtain ⟨⟨hb1, hb2, hb3, hb4, hb5⟩, -, -, hk3, -, hk5⟩ := ho
  have g : ∀ j, j < 200 → j ≠ 105 → j ≠ 106 → ct1 j = ct j := hx
  refine ⟨⟨a1.mvg rfl rfl (g _ (by omega) (by omega) (by omega)) (g _ (by omega) (by omega) (by omega)) (fun _ _ => rfl), a2.mvg rfl rfl (g _ (by omega) (by omega) (by omega)) (g _ (by omega) (by omega) (by omega)) (fun _ _ => rfl), a3.mvg rfl rfl (g _ (by omega) (by omega) (by omega)) (g _ (by omega) (by omega) (by omega)) (fun _ _ => rfl), a4.mvg rfl rfl (g _ (by omega) (by omega) (by omega)) (g _ (by omega) (by omega) (by omega)) (fun _ _ => rfl)⟩, ⟨h1, h2⟩, fun j (hj : j < mC M) => (g _ (by omega) (by omega) (by omega)).trans (c1 j hj), fun j (hj : j < mP M) => (g _ (by omega) (by omega) (by omega)).trans (c2 j hj), fun j (hj : j < mS M) => ?_, fun j (hj : j < mS M) k hk => ?_, fun j (hj : j < mO M) => (g _ (by omega) (by omega) (by omega)).trans (c5 j hj), fun j (hj : j < mO M) => ⟨fun z => (g _ (by omega) (by omega) (by omega)).trans ((c6 j hj).1 z), fun z => (g _ (by omega) (by omega) (by omega)).trans ((c6 j hj).2 z)⟩, (g 0 (by omega) (by omega) (by omega)).trans c7⟩
  · have hz := (hk3 j hj).1
    exact (c3 j hj).mvg rfl rfl (g _ (by omega) (by omega) (by omega)) (g _ (by omega) (by omega) (by omega)) (fun _ _ => rfl)
  · have hz := (hk3 j hj).1
    have hk2 : k < (mst M j).1 := hk
    exact (g _ (by omega) (by omega) (by omega)).trans (c4 j hj k hk)
