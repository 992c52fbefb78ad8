/-! the shop changed, as numbers -/
theorem kIn_btw {x : Int32} {a b : Nat} (h : ¬ (x < nI a ∨ nI b < x)) (hb : a < 2 ^ 20 ∧ b < 2 ^ 20) : ∃ k, a ≤ k ∧ k ≤ b ∧ x = nI k := by
  have h0 : ¬ x < 0 := by
    intro z
    refine h (Or.inl ?_)
    have h1 := Int32.lt_iff_toInt_lt.mp z
    refine Int32.lt_iff_toInt_lt.mpr ?_
    rw [nI_toInt (by omega)]
    have : (0 : Int32).toInt = 0 := rfl
    omega
  obtain ⟨j, hj, rfl⟩ := nI_of h0
  refine ⟨j, ?_, ?_, rfl⟩
  · rcases Nat.lt_or_ge j a with q | q
    · exact absurd (Or.inl (nI_lt q (by omega))) h
    · exact q
  · rcases Nat.lt_or_ge b j with q | q
    · exact absurd (Or.inr (nI_lt q hj)) h
    · exact q
/-- a washed cloth -/
def fWash (c : tCl) : tCl := (FP.dmul c.1 (fLeft c.2.2.1), FP.dmul c.2.1 (fLeft c.2.2.1), 0, c.2.2.2)
theorem fShr0 : fShr 0 = 0 := by decide +kernel
