/-! the reference's shop, one style more -/
theorem RepL0_aSt {cy : Nat → ClassId} {ad ad1 : Nat → Nat} {ct ct1 : Nat → Option va_E} {M : tM} (h : RepL0 cy ad ct M) (ho : okM M) (f : tSt) (hf : f.1 = 0) (hm : mS M < 3) (ha : ∀ j, j < 200 → j ≠ 113 → j ≠ 140 + mS M → ad1 j = ad j) (hl : rLst cy ad1 ct1 103 113 140 (mS M + 1)) (h1 : ct1 (140 + mS M) = some (oLs (ad1 0) 0)) (h2 : ct1 (144 + mS M) = none) (hx : ∀ j, j < 200 → j ≠ 100 → j ≠ 103 → j ≠ 113 → j ≠ 140 + mS M → ct1 j = ct j) : RepL0 cy ad1 ct1 (aSt M f) := by
  obtain ⟨⟨a1, a2, a3, a4⟩, ⟨b1, b2⟩, c1, c2, c3, c4, c5, c6, c7⟩ := h
  obtain ⟨⟨hb1, hb2, hb3, hb4, hb5⟩, -, -, hk3, -, hk5⟩ := ho
  have g : ∀ j, j < 200 → (j < 100 ∨ (100 < j ∧ j < 103) ∨ (103 < j ∧ j < 113) ∨ (113 < j ∧ j < 140) ∨ 142 < j) → ct1 j = ct j ∧ ad1 j = ad j := fun j hj a => ⟨hx j hj (by omega) (by omega) (by omega) (by omega), ha j hj (by omega) (by omega)⟩
  refine ⟨⟨a1.mvg (g 0 (by omega) (by omega)).2 (g _ (by omega) (by omega)).2 (g _ (by omega) (by omega)).1 (g _ (by omega) (by omega)).1 (fun j hj => (g _ (by omega) (by omega)).2), a2.mvg (g 0 (by omega) (by omega)).2 (g _ (by omega) (by omega)).2 (g _ (by omega) (by omega)).1 (g _ (by omega) (by omega)).1 (fun j hj => (g _ (by omega) (by omega)).2), hl, a4.mvg (g 0 (by omega) (by omega)).2 (g _ (by omega) (by omega)).2 (g _ (by omega) (by omega)).1 (g _ (by omega) (by omega)).1 (fun j hj => (g _ (by omega) (by omega)).2)⟩, ⟨(g _ (by omega) (by omega)).1.trans b1, (g _ (by omega) (by omega)).1.trans b2⟩, fun j (hj : j < mC M) => (g _ (by omega) (by omega)).1.trans (c1 j hj), fun j (hj : j < mP M) => (g _ (by omega) (by omega)).1.trans (c2 j hj), fun j (hj : j < mS M + 1) => ?_, fun j (hj : j < mS M + 1) k => ?_, fun j (hj : j < mO M) => ?_, fun j (hj : j < mO M) => ?_, (g 0 (by omega) (by omega)).1.trans c7⟩
  · show rLst cy ad1 ct1 (140 + j) (144 + j) (150 + 5 * j) (vf_upd (mst M) (mS M) f j).1
    by_cases e : j = mS M
    · subst e
      rw [vu_s, hf]
      exact ⟨h1, fun z => absurd z (Nat.lt_irrefl _), fun _ => h2⟩
    · rw [vu_n e]
      have hz := (hk3 j (by omega)).1
      exact (c3 j (by omega)).mvg (g 0 (by omega) (by omega)).2 (g _ (by omega) (by omega)).2 (hx _ (by omega) (by omega) (by omega) (by omega) (by omega)) (g _ (by omega) (by omega)).1 (fun k hk => (g _ (by omega) (by omega)).2)
  · show k < (vf_upd (mst M) (mS M) f j).1 → ct1 (150 + 5 * j + k) = some (.inl (cy 1, 4, aI (fI4 (fPc4 ((vf_upd (mst M) (mS M) f j).2.1 k)))))
    by_cases e : j = mS M
    · subst e
      rw [vu_s, hf]
      exact fun z => absurd z (Nat.not_lt_zero _)
    · rw [vu_n e]
      intro hk
      have hz := (hk3 j (by omega)).1
      exact (g _ (by omega) (by omega)).1.trans (c4 j (by omega) k hk)
  · refine (g _ (by omega) (by omega)).1.trans ((c5 j hj).trans (congrArg some ?_))
    have e9 : ad1 (if oState (mod M j) = 0 then 180 + j else 190 + j) = ad (if oState (mod M j) = 0 then 180 + j else 190 + j) := (g _ (by split <;> omega) (by split <;> omega)).2
    show rOr ad j (mod M j) = rOr ad1 j (mod M j)
    unfold rOr
    rw [e9]
  · show (oState (mod M j) = 0 → _) ∧ (oState (mod M j) ≠ 0 → ct1 (190 + j) = some (.inl (cy 0, (vf_upd (mst M) (mS M) f (oS (mod M j))).1, aD (oBod (mod M j)))))
    have hs := (hk5 j hj).2.1
    rw [vu_n (show oS (mod M j) ≠ mS M by omega)]
    exact ⟨fun z => (g _ (by omega) (by omega)).1.trans ((c6 j hj).1 z), fun z => (g _ (by omega) (by omega)).1.trans ((c6 j hj).2 z)⟩
