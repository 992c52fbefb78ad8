/-! what is asked, as numbers -/
theorem tsw6 (x : Int32) : x = 0 ∨ x = 1 ∨ x = 2 ∨ x = 3 ∨ x = 4 ∨ x = 5 ∨ (x.toInt < 0 ∨ 5 < x.toInt) := by
  by_cases h : x < 0
  · have := Int32.lt_iff_toInt_lt.mp h
    exact Or.inr (Or.inr (Or.inr (Or.inr (Or.inr (Or.inr (Or.inl this))))))
  · obtain ⟨j, hj, rfl⟩ := nI_of h
    rcases (show j = 0 ∨ j = 1 ∨ j = 2 ∨ j = 3 ∨ j = 4 ∨ j = 5 ∨ 5 < j by omega) with q | q | q | q | q | q | q
    iterate 6 (· subst q; repeat (first | exact Or.inl rfl | refine Or.inr ?_))
    exact Or.inr (Or.inr (Or.inr (Or.inr (Or.inr (Or.inr (Or.inr (by rw [nI_toInt hj]; omega)))))))
theorem tsw8 (x : Int32) : x = 0 ∨ x = 1 ∨ x = 2 ∨ x = 3 ∨ x = 4 ∨ x = 5 ∨ x = 6 ∨ x = 7 ∨ (x.toInt < 0 ∨ 7 < x.toInt) := by
  by_cases h : x < 0
  · have := Int32.lt_iff_toInt_lt.mp h
    exact Or.inr (Or.inr (Or.inr (Or.inr (Or.inr (Or.inr (Or.inr (Or.inr (Or.inl this))))))))
  · obtain ⟨j, hj, rfl⟩ := nI_of h
    rcases (show j = 0 ∨ j = 1 ∨ j = 2 ∨ j = 3 ∨ j = 4 ∨ j = 5 ∨ j = 6 ∨ j = 7 ∨ 7 < j by omega) with q | q | q | q | q | q | q | q | q
    iterate 8 (· subst q; repeat (first | exact Or.inl rfl | refine Or.inr ?_))
    exact Or.inr (Or.inr (Or.inr (Or.inr (Or.inr (Or.inr (Or.inr (Or.inr (Or.inr (by rw [nI_toInt hj]; omega)))))))))
theorem tsw14 (x : Int32) : x = 0 ∨ x = 1 ∨ x = 2 ∨ x = 3 ∨ x = 4 ∨ x = 5 ∨ x = 6 ∨ x = 7 ∨ x = 8 ∨ x = 9 ∨ x = 10 ∨ x = 11 ∨ x = 12 ∨ x = 13 ∨ (x.toInt < 0 ∨ 13 < x.toInt) := by
  by_cases h : x < 0
  · have := Int32.lt_iff_toInt_lt.mp h
    iterate 14 refine Or.inr ?_
    exact Or.inl this
  · obtain ⟨j, hj, rfl⟩ := nI_of h
    rcases (show j = 0 ∨ j = 1 ∨ j = 2 ∨ j = 3 ∨ j = 4 ∨ j = 5 ∨ j = 6 ∨ j = 7 ∨ j = 8 ∨ j = 9 ∨ j = 10 ∨ j = 11 ∨ j = 12 ∨ j = 13 ∨ 13 < j by omega) with q | q | q | q | q | q | q | q | q | q | q | q | q | q | q
    iterate 14 (· subst q; repeat (first | exact Or.inl rfl | refine Or.inr ?_))
    iterate 14 refine Or.inr ?_
    exact Or.inr (by rw [nI_toInt hj]; omega)
theorem kIn_out {x : Int32} {n : Nat} (h : x.toInt < 0 ∨ (n : Int) < x.toInt) (hn : n < 2 ^ 20) : ¬ kIn x (n + 1) := by
  rintro ⟨j, hj, rfl⟩
  rw [nI_toInt (by omega)] at h
  omega
def fOC (c : tCl) : Nat → UInt64
  | 0 => c.1
  | 1 => c.2.1
  | 2 => FP.f2d (fShr c.2.2.1)
  | 3 => FP.i2d (nI c.2.2.2.1)
  | 4 => if c.2.2.2.2.1 = 0 then cD0 else cD1
  | _ => FP.i2d (nI c.2.2.2.2.2)
def fOO (M : tM) (i : Nat) : Nat → Int32
  | 0 => nI (oP (mod M i))
  | 1 => nI (oS (mod M i))
  | 2 => oDue (mod M i)
  | 3 => nI (oState (mod M i))
  | 4 => oCloth (mod M i)
  | 5 => nI (mCnt M i)
  | 6 => oFit (mod M i)
  | _ => oHand (mod M i)
def fMany (M : tM) : Nat → Int32
  | 0 => nI (mC M)
  | 1 => nI (mP M)
  | 2 => nI (mS M)
  | 3 => nI (mH M)
  | 4 => nI (mO M)
  | 11 => mPur M
  | 12 => if mShut M = 0 then 0 else 1
  | 13 => mRef M
  | w => nI (fCS M (w - 5) (mO M) 0 0)
theorem fMany_st {M : tM} {st : Nat} (h : st < 6) : fMany M (st + 5) = nI (fCS M st (mO M) 0 0) := by
  rcases (show st = 0 ∨ st = 1 ∨ st = 2 ∨ st = 3 ∨ st = 4 ∨ st = 5 by omega) with rfl | rfl | rfl | rfl | rfl | rfl <;> rfl
