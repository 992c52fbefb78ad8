/-! the reference's shop: the mark of a style doesn't count -/
theorem RepL0_flag {cy : Nat → ClassId} {ad : Nat → Nat} {ct : Nat → Option va_E} {M : tM} (h : RepL0 cy ad ct M) (i : Nat) (f : tSt) (h1 : f.1 = (mst M i).1) (h2 : f.2.1 = (mst M i).2.1) : RepL0 cy ad ct (sSt M i f) := by
  have e1 : ∀ j, (vf_upd (mst M) i f j).1 = (mst M j).1 := fun j => by
    by_cases e : j = i
    · rw [e, vu_s, h1]
    · rw [vu_n e]
  have e2 : ∀ j, (vf_upd (mst M) i f j).2.1 = (mst M j).2.1 := fun j => by
    by_cases e : j = i
    · rw [e, vu_s, h2]
    · rw [vu_n e]
  obtain ⟨a, b, c1, c2, c3, c4, c5, c6, c7⟩ := h
  refine ⟨a, b, c1, c2, fun j hj => ?_, fun j hj k => ?_, c5, fun j hj => ⟨(c6 j hj).1, ?_⟩, c7⟩
  · show rLst cy ad ct (140 + j) (144 + j) (150 + 5 * j) (vf_upd (mst M) i f j).1
    rw [e1]
    exact c3 j hj
  · show k < (vf_upd (mst M) i f j).1 → ct (150 + 5 * j + k) = some (.inl (cy 1, 4, aI (fI4 (fPc4 ((vf_upd (mst M) i f j).2.1 k)))))
    rw [e1, e2]
    exact c4 j hj k
  · show oState (mod M j) ≠ 0 → ct (190 + j) = some (.inl (cy 0, (vf_upd (mst M) i f (oS (mod M j))).1, aD (oBod (mod M j))))
    rw [e1]
    exact (c6 j hj).2
