/-! the reference's shop, one order more -/
theorem RepL0_aOr {cy : Nat → ClassId} {ad ad1 : Nat → Nat} {ct ct1 : Nat → Option va_E} {M : tM} (h : RepL0 cy ad ct M) (ho : okM M) (o : tOr) (hm : mO M < 8) (hst : oState o = 0) (ha : ∀ j, j < 200 → j ≠ 114 → j ≠ 170 + mO M → j ≠ 180 + mO M → ad1 j = ad j) (hl : rLst cy ad1 ct1 104 114 170 (mO M + 1)) (h1 : ct1 (170 + mO M) = some (rOr ad1 (mO M) o)) (h2 : ct1 (180 + mO M) = some (.inl (cy 0, 0, aD (fun _ => 0)))) (hx : ∀ j, j < 200 → j ≠ 100 → j ≠ 104 → j ≠ 114 → j ≠ 170 + mO M → j ≠ 180 + mO M → ct1 j = ct j) : RepL0 cy ad1 ct1 (aOr M o) := by
  obtain ⟨⟨a1, a2, a3, a4⟩, ⟨b1, b2⟩, c1, c2, c3, c4, c5, c6, c7⟩ := h
  obtain ⟨⟨hb1, hb2, hb3, hb4, hb5⟩, -, -, hk3, -, hk5⟩ := ho
  have g : ∀ j, j < 170 → (j < 100 ∨ (100 < j ∧ j < 104) ∨ (104 < j ∧ j < 114) ∨ 114 < j) → ct1 j = ct j ∧ ad1 j = ad j := fun j hj a => ⟨hx j (by omega) (by omega) (by omega) (by omega) (by omega) (by omega), ha j (by omega) (by omega) (by omega) (by omega)⟩
  refine ⟨⟨a1.mvg (g 0 (by omega) (by omega)).2 (g _ (by omega) (by omega)).2 (g _ (by omega) (by omega)).1 (g _ (by omega) (by omega)).1 (fun j hj => (g _ (by omega) (by omega)).2), a2.mvg (g 0 (by omega) (by omega)).2 (g _ (by omega) (by omega)).2 (g _ (by omega) (by omega)).1 (g _ (by omega) (by omega)).1 (fun j hj => (g _ (by omega) (by omega)).2), a3.mvg (g 0 (by omega) (by omega)).2 (g _ (by omega) (by omega)).2 (g _ (by omega) (by omega)).1 (g _ (by omega) (by omega)).1 (fun j hj => (g _ (by omega) (by omega)).2), hl⟩, ⟨(g _ (by omega) (by omega)).1.trans b1, (g _ (by omega) (by omega)).1.trans b2⟩, fun j (hj : j < mC M) => (g _ (by omega) (by omega)).1.trans (c1 j hj), fun j (hj : j < mP M) => (g _ (by omega) (by omega)).1.trans (c2 j hj), fun j (hj : j < mS M) => ?_, fun j (hj : j < mS M) k hk => ?_, fun j (hj : j < mO M + 1) => ?_, fun j (hj : j < mO M + 1) => ?_, (g 0 (by omega) (by omega)).1.trans c7⟩
  · have hz := (hk3 j hj).1
    exact (c3 j hj).mvg (g 0 (by omega) (by omega)).2 (g _ (by omega) (by omega)).2 (g _ (by omega) (by omega)).1 (g _ (by omega) (by omega)).1 (fun k hk => (g _ (by omega) (by omega)).2)
  · have hz := (hk3 j hj).1
    have hk2 : k < (mst M j).1 := hk
    exact (g _ (by omega) (by omega)).1.trans (c4 j hj k hk)
  · show ct1 (170 + j) = some (rOr ad1 j (vf_upd (mod M) (mO M) o j))
    by_cases e : j = mO M
    · subst e
      rw [vu_s]
      exact h1
    · rw [vu_n e]
      refine (hx _ (by omega) (by omega) (by omega) (by omega) (by omega) (by omega)).trans ((c5 j (by omega)).trans (congrArg some ?_))
      have e9 : ad1 (if oState (mod M j) = 0 then 180 + j else 190 + j) = ad (if oState (mod M j) = 0 then 180 + j else 190 + j) := ha _ (by split <;> omega) (by split <;> omega) (by split <;> omega) (by split <;> omega)
      unfold rOr
      rw [e9]
  · show (oState (vf_upd (mod M) (mO M) o j) = 0 → _) ∧ (oState (vf_upd (mod M) (mO M) o j) ≠ 0 → ct1 (190 + j) = some (.inl (cy 0, (mst M (oS (vf_upd (mod M) (mO M) o j))).1, aD (oBod (vf_upd (mod M) (mO M) o j)))))
    by_cases e : j = mO M
    · subst e
      rw [vu_s]
      exact ⟨fun _ => h2, fun z => absurd hst z⟩
    · rw [vu_n e]
      exact ⟨fun z => (hx _ (by omega) (by omega) (by omega) (by omega) (by omega) (by omega)).trans ((c6 j (by omega)).1 z), fun z => (hx _ (by omega) (by omega) (by omega) (by omega) (by omega) (by omega)).trans ((c6 j (by omega)).2 z)⟩
