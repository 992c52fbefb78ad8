/-! the reference's shop, one cloth, one person more -/
theorem RepL0_aCl {cy : Nat → ClassId} {ad ad1 : Nat → Nat} {ct ct1 : Nat → Option va_E} {M : tM} (h : RepL0 cy ad ct M) (ho : okM M) (c : tCl) (hm : mC M < 4) (ha : ∀ j, j < 200 → j ≠ 111 → j ≠ 120 + mC M → ad1 j = ad j) (hl : rLst cy ad1 ct1 101 111 120 (mC M + 1)) (h1 : ct1 (120 + mC M) = some (rCl c)) (hx : ∀ j, j < 200 → j ≠ 100 → j ≠ 101 → j ≠ 111 → j ≠ 120 + mC M → ct1 j = ct j) : RepL0 cy ad1 ct1 (aCl M c) := by
  obtain ⟨⟨a1, a2, a3, a4⟩, ⟨b1, b2⟩, c1, c2, c3, c4, c5, c6, c7⟩ := h
  obtain ⟨⟨hb1, hb2, hb3, hb4, hb5⟩, -, -, hk3, -, hk5⟩ := ho
  have g : ∀ j, j < 200 → (j < 100 ∨ (101 < j ∧ j < 111) ∨ (111 < j ∧ j < 120) ∨ 123 < j) → ct1 j = ct j ∧ ad1 j = ad j := fun j hj a => ⟨hx j hj (by omega) (by omega) (by omega) (by omega), ha j hj (by omega) (by omega)⟩
  refine ⟨⟨hl, a2.mvg (g 0 (by omega) (by omega)).2 (g _ (by omega) (by omega)).2 (g _ (by omega) (by omega)).1 (g _ (by omega) (by omega)).1 (fun j hj => (g _ (by omega) (by omega)).2), a3.mvg (g 0 (by omega) (by omega)).2 (g _ (by omega) (by omega)).2 (g _ (by omega) (by omega)).1 (g _ (by omega) (by omega)).1 (fun j hj => (g _ (by omega) (by omega)).2), a4.mvg (g 0 (by omega) (by omega)).2 (g _ (by omega) (by omega)).2 (g _ (by omega) (by omega)).1 (g _ (by omega) (by omega)).1 (fun j hj => (g _ (by omega) (by omega)).2)⟩, ⟨(g _ (by omega) (by omega)).1.trans b1, (g _ (by omega) (by omega)).1.trans b2⟩, fun j (hj : j < mC M + 1) => ?_, fun j (hj : j < mP M) => (g _ (by omega) (by omega)).1.trans (c2 j hj), fun j (hj : j < mS M) => ?_, fun j (hj : j < mS M) k hk => ?_, fun j (hj : j < mO M) => ?_, fun j (hj : j < mO M) => ⟨fun z => (g _ (by omega) (by omega)).1.trans ((c6 j hj).1 z), fun z => (g _ (by omega) (by omega)).1.trans ((c6 j hj).2 z)⟩, (g 0 (by omega) (by omega)).1.trans c7⟩
  · show ct1 (120 + j) = some (rCl (vf_upd (mcl M) (mC M) c j))
    by_cases e : j = mC M
    · subst e
      rw [vu_s]
      exact h1
    · rw [vu_n e]
      exact (hx _ (by omega) (by omega) (by omega) (by omega) (by omega)).trans (c1 j (by omega))
  · have hz := (hk3 j hj).1
    exact (c3 j hj).mvg (g 0 (by omega) (by omega)).2 (g _ (by omega) (by omega)).2 (g _ (by omega) (by omega)).1 (g _ (by omega) (by omega)).1 (fun k hk => (g _ (by omega) (by omega)).2)
  · have hz := (hk3 j hj).1
    have hk2 : k < (mst M j).1 := hk
    exact (g _ (by omega) (by omega)).1.trans (c4 j hj k hk)
  · refine (g _ (by omega) (by omega)).1.trans ((c5 j hj).trans (congrArg some ?_))
    have e9 : ad1 (if oState (mod M j) = 0 then 180 + j else 190 + j) = ad (if oState (mod M j) = 0 then 180 + j else 190 + j) := (g _ (by split <;> omega) (by split <;> omega)).2
    show rOr ad j (mod M j) = rOr ad1 j (mod M j)
    unfold rOr
    rw [e9]
theorem RepL0_aPe {cy : Nat → ClassId} {ad ad1 : Nat → Nat} {ct ct1 : Nat → Option va_E} {M : tM} (h : RepL0 cy ad ct M) (ho : okM M) (f : Nat → Nat) (hm : mP M < 6) (ha : ∀ j, j < 200 → j ≠ 112 → j ≠ 130 + mP M → ad1 j = ad j) (hl : rLst cy ad1 ct1 102 112 130 (mP M + 1)) (h1 : ct1 (130 + mP M) = some (.inl (cy 1, 4, aI (fI4 f)))) (hx : ∀ j, j < 200 → j ≠ 100 → j ≠ 102 → j ≠ 112 → j ≠ 130 + mP M → ct1 j = ct j) : RepL0 cy ad1 ct1 (aPe M f) := by
  obtain ⟨⟨a1, a2, a3, a4⟩, ⟨b1, b2⟩, c1, c2, c3, c4, c5, c6, c7⟩ := h
  obtain ⟨⟨hb1, hb2, hb3, hb4, hb5⟩, -, -, hk3, -, hk5⟩ := ho
  have g : ∀ j, j < 200 → (j < 100 ∨ j = 101 ∨ (102 < j ∧ j < 112) ∨ (112 < j ∧ j < 130) ∨ 135 < j) → ct1 j = ct j ∧ ad1 j = ad j := fun j hj a => ⟨hx j hj (by omega) (by omega) (by omega) (by omega), ha j hj (by omega) (by omega)⟩
  refine ⟨⟨a1.mvg (g 0 (by omega) (by omega)).2 (g _ (by omega) (by omega)).2 (g _ (by omega) (by omega)).1 (g _ (by omega) (by omega)).1 (fun j hj => (g _ (by omega) (by omega)).2), hl, a3.mvg (g 0 (by omega) (by omega)).2 (g _ (by omega) (by omega)).2 (g _ (by omega) (by omega)).1 (g _ (by omega) (by omega)).1 (fun j hj => (g _ (by omega) (by omega)).2), a4.mvg (g 0 (by omega) (by omega)).2 (g _ (by omega) (by omega)).2 (g _ (by omega) (by omega)).1 (g _ (by omega) (by omega)).1 (fun j hj => (g _ (by omega) (by omega)).2)⟩, ⟨(g _ (by omega) (by omega)).1.trans b1, (g _ (by omega) (by omega)).1.trans b2⟩, fun j (hj : j < mC M) => (g _ (by omega) (by omega)).1.trans (c1 j hj), fun j (hj : j < mP M + 1) => ?_, fun j (hj : j < mS M) => ?_, fun j (hj : j < mS M) k hk => ?_, fun j (hj : j < mO M) => ?_, fun j (hj : j < mO M) => ⟨fun z => (g _ (by omega) (by omega)).1.trans ((c6 j hj).1 z), fun z => (g _ (by omega) (by omega)).1.trans ((c6 j hj).2 z)⟩, (g 0 (by omega) (by omega)).1.trans c7⟩
  · show ct1 (130 + j) = some (.inl (cy 1, 4, aI (fI4 (vf_upd (mpe M) (mP M) f j))))
    by_cases e : j = mP M
    · subst e
      rw [vu_s]
      exact h1
    · rw [vu_n e]
      exact (hx _ (by omega) (by omega) (by omega) (by omega) (by omega)).trans (c2 j (by omega))
  · have hz := (hk3 j hj).1
    exact (c3 j hj).mvg (g 0 (by omega) (by omega)).2 (g _ (by omega) (by omega)).2 (g _ (by omega) (by omega)).1 (g _ (by omega) (by omega)).1 (fun k hk => (g _ (by omega) (by omega)).2)
  · have hz := (hk3 j hj).1
    have hk2 : k < (mst M j).1 := hk
    exact (g _ (by omega) (by omega)).1.trans (c4 j hj k hk)
  · refine (g _ (by omega) (by omega)).1.trans ((c5 j hj).trans (congrArg some ?_))
    have e9 : ad1 (if oState (mod M j) = 0 then 180 + j else 190 + j) = ad (if oState (mod M j) = 0 then 180 + j else 190 + j) := (g _ (by split <;> omega) (by split <;> omega)).2
    show rOr ad j (mod M j) = rOr ad1 j (mod M j)
    unfold rOr
    rw [e9]
