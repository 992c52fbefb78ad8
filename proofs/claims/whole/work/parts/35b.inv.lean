/-! the shop's bounds, kept -/
theorem okM_sSh {M : tM} (h : okM M) (x : tSh) : okM (sSh M x) := h
theorem okM_sCl {M : tM} (h : okM M) (k : Nat) (c : tCl) (hc : c.2.2.1 ≤ 8 ∧ c.2.2.2.1 ≤ 20 ∧ (c.2.2.2.2.1 = 0 ∨ c.2.2.2.2.1 = 1) ∧ 1 ≤ c.2.2.2.2.2 ∧ c.2.2.2.2.2 ≤ 9) : okM (sCl M k c) := by
  obtain ⟨h0, h1, h2, h3, h4, h5⟩ := h
  refine ⟨h0, fun i hi => ?_, h2, h3, h4, h5⟩
  by_cases e : i = k
  · subst e
    have e2 : mcl (sCl M i c) i = c := vu_s
    rw [e2]; exact hc
  · have e2 : mcl (sCl M k c) i = mcl M i := vu_n e
    rw [e2]; exact h1 i hi
theorem okM_sPe {M : tM} (h : okM M) (k : Nat) (f : Nat → Nat) (hc : okMs f) : okM (sPe M k f) := by
  obtain ⟨h0, h1, h2, h3, h4, h5⟩ := h
  refine ⟨h0, h1, fun i hi => ?_, h3, h4, h5⟩
  by_cases e : i = k
  · subst e
    have e2 : mpe (sPe M i f) i = f := vu_s
    rw [e2]; exact hc
  · have e2 : mpe (sPe M k f) i = mpe M i := vu_n e
    rw [e2]; exact h2 i hi
theorem okM_sHa {M : tM} (h : okM M) (k : Nat) (f : tHa) (hc : 1 ≤ f.1 ∧ f.1 ≤ 16) : okM (sHa M k f) := by
  obtain ⟨h0, h1, h2, h3, h4, h5⟩ := h
  refine ⟨h0, h1, h2, h3, fun i hi => ?_, h5⟩
  by_cases e : i = k
  · subst e
    have e2 : mha (sHa M i f) i = f := vu_s
    rw [e2]; exact hc
  · have e2 : mha (sHa M k f) i = mha M i := vu_n e
    rw [e2]; exact h4 i hi
theorem okM_sOr {M : tM} (h : okM M) {k : Nat} (hk : k < mO M) (f : tOr) (h1 : oP f = oP (mod M k)) (h2 : oS f = oS (mod M k)) (h3 : oState f ≤ 5) : okM (sOr M k f) := by
  obtain ⟨g0, g1, g2, g3, g4, g5⟩ := h
  refine ⟨g0, g1, g2, g3, g4, fun i hi => ?_⟩
  by_cases e : i = k
  · subst e
    have e2 : mod (sOr M i f) i = f := vu_s
    rw [e2, h1, h2]
    obtain ⟨q1, q2, q3, -⟩ := g5 i hi
    exact ⟨q1, q2, q3, h3⟩
  · have e2 : mod (sOr M k f) i = mod M i := vu_n e
    rw [e2]; exact g5 i hi
theorem okM_sSt {M : tM} (h : okM M) {k : Nat} (f : tSt) (h1 : f.1 = (mst M k).1) (h2 : f.2.1 = (mst M k).2.1) (h3 : f.2.2 = 0 ∨ f.2.2 = 1) : okM (sSt M k f) := by
  obtain ⟨g0, g1, g2, g3, g4, g5⟩ := h
  have n1 : ∀ i, (mst (sSt M k f) i).1 = (mst M i).1 := by
    intro i
    by_cases e : i = k
    · subst e
      have e2 : mst (sSt M i f) i = f := vu_s
      rw [e2, h1]
    · have e2 : mst (sSt M k f) i = mst M i := vu_n e
      rw [e2]
  refine ⟨g0, g1, g2, fun i hi => ?_, g4, fun i hi => ?_⟩
  · by_cases e : i = k
    · subst e
      have e2 : mst (sSt M i f) i = f := vu_s
      rw [e2, h1, h2]
      exact ⟨(g3 i hi).1, h3, (g3 i hi).2.2⟩
    · have e2 : mst (sSt M k f) i = mst M i := vu_n e
      rw [e2]; exact g3 i hi
  · obtain ⟨q1, q2, q3, q4⟩ := g5 i hi
    refine ⟨q1, q2, ?_, q4⟩
    rw [n1]; exact q3
theorem okM_aCl {M : tM} (h : okM M) (hlt : mC M < 4) (c : tCl) (hc : c.2.2.1 ≤ 8 ∧ c.2.2.2.1 ≤ 20 ∧ (c.2.2.2.2.1 = 0 ∨ c.2.2.2.2.1 = 1) ∧ 1 ≤ c.2.2.2.2.2 ∧ c.2.2.2.2.2 ≤ 9) : okM (aCl M c) := by
  obtain ⟨h0, h1, h2, h3, h4, h5⟩ := h
  refine ⟨⟨hlt, h0.2⟩, fun i (hi : i < mC M + 1) => ?_, h2, h3, h4, h5⟩
  by_cases e : i = mC M
  · subst e
    have e2 : mcl (aCl M c) (mC M) = c := vu_s
    rw [e2]; exact hc
  · have e2 : mcl (aCl M c) i = mcl M i := vu_n e
    rw [e2]; exact h1 i (by omega)
theorem okM_aPe {M : tM} (h : okM M) (hlt : mP M < 6) (f : Nat → Nat) (hc : okMs f) : okM (aPe M f) := by
  obtain ⟨h0, h1, h2, h3, h4, h5⟩ := h
  refine ⟨⟨h0.1, hlt, h0.2.2⟩, h1, fun i (hi : i < mP M + 1) => ?_, h3, h4, fun i hi => ?_⟩
  · by_cases e : i = mP M
    · subst e
      have e2 : mpe (aPe M f) (mP M) = f := vu_s
      rw [e2]; exact hc
    · have e2 : mpe (aPe M f) i = mpe M i := vu_n e
      rw [e2]; exact h2 i (by omega)
  · obtain ⟨q1, q2⟩ := h5 i hi
    exact ⟨Nat.lt_succ_of_lt q1, q2⟩
theorem okM_aHa {M : tM} (h : okM M) (hlt : mH M < 3) (f : tHa) (hc : 1 ≤ f.1 ∧ f.1 ≤ 16) : okM (aHa M f) := by
  obtain ⟨h0, h1, h2, h3, h4, h5⟩ := h
  refine ⟨⟨h0.1, h0.2.1, h0.2.2.1, hlt, h0.2.2.2.2⟩, h1, h2, h3, fun i (hi : i < mH M + 1) => ?_, h5⟩
  by_cases e : i = mH M
  · subst e
    have e2 : mha (aHa M f) (mH M) = f := vu_s
    rw [e2]; exact hc
  · have e2 : mha (aHa M f) i = mha M i := vu_n e
    rw [e2]; exact h4 i (by omega)
theorem okM_aSt {M : tM} (h : okM M) (hlt : mS M < 3) : okM (aSt M zSt) := by
  obtain ⟨h0, h1, h2, h3, h4, h5⟩ := h
  refine ⟨⟨h0.1, h0.2.1, hlt, h0.2.2.2⟩, h1, h2, fun i (hi : i < mS M + 1) => ?_, h4, fun i hi => ?_⟩
  · by_cases e : i = mS M
    · subst e
      have e2 : mst (aSt M zSt) (mS M) = zSt := vu_s
      rw [e2]
      exact ⟨Nat.zero_le _, Or.inl rfl, fun j hj => absurd hj (Nat.not_lt_zero _)⟩
    · have e2 : mst (aSt M zSt) i = mst M i := vu_n e
      rw [e2]; exact h3 i (by omega)
  · obtain ⟨q1, q2, q3, q4⟩ := h5 i hi
    have q5 : oS (mod M i) < mS M := q2
    have e2 : mst (aSt M zSt) (oS (mod M i)) = mst M (oS (mod M i)) := vu_n (by omega)
    refine ⟨q1, Nat.lt_succ_of_lt q2, ?_, q4⟩
    show 0 < (mst (aSt M zSt) (oS (mod M i))).1
    rw [e2]; exact q3
theorem okM_aOr {M : tM} (h : okM M) (hlt : mO M < 8) (f : tOr) (h1 : oP f < mP M) (h2 : oS f < mS M) (h3 : 0 < (mst M (oS f)).1) (h4 : oState f ≤ 5) : okM (aOr M f) := by
  obtain ⟨g0, g1, g2, g3, g4, g5⟩ := h
  refine ⟨⟨g0.1, g0.2.1, g0.2.2.1, g0.2.2.2.1, hlt⟩, g1, g2, g3, g4, fun i (hi : i < mO M + 1) => ?_⟩
  by_cases e : i = mO M
  · subst e
    have e2 : mod (aOr M f) (mO M) = f := vu_s
    rw [e2]; exact ⟨h1, h2, h3, h4⟩
  · have e2 : mod (aOr M f) i = mod M i := vu_n e
    rw [e2]; exact g5 i (by omega)
theorem okM_aPc {M : tM} (h : okM M) {k : Nat} (hlt : (mst M k).1 < 5) (pc : tPc) (hp : okPc pc) : okM (sSt M k (zPc (mst M k) pc)) := by
  obtain ⟨g0, g1, g2, g3, g4, g5⟩ := h
  refine ⟨g0, g1, g2, fun i hi => ?_, g4, fun i hi => ?_⟩
  · by_cases e : i = k
    · subst e
      have e2 : mst (sSt M i (zPc (mst M i) pc)) i = zPc (mst M i) pc := vu_s
      rw [e2]
      obtain ⟨q1, q2, q3⟩ := g3 i hi
      refine ⟨hlt, q2, fun j hj => ?_⟩
      have hj' : j < (mst M i).1 + 1 := hj
      show okPc (vf_upd (mst M i).2.1 (mst M i).1 pc j)
      by_cases e3 : j = (mst M i).1
      · rw [e3, vu_s]; exact hp
      · rw [vu_n e3]; exact q3 j (by omega)
    · have e2 : mst (sSt M k (zPc (mst M k) pc)) i = mst M i := vu_n e
      rw [e2]; exact g3 i hi
  · obtain ⟨q1, q2, q3, q4⟩ := g5 i hi
    refine ⟨q1, q2, ?_, q4⟩
    show 0 < (mst (sSt M k (zPc (mst M k) pc)) (oS (mod M i))).1
    by_cases e : oS (mod M i) = k
    · rw [e]
      have e2 : mst (sSt M k (zPc (mst M k) pc)) k = zPc (mst M k) pc := vu_s
      rw [e2]
      exact Nat.succ_pos _
    · have e2 : mst (sSt M k (zPc (mst M k) pc)) (oS (mod M i)) = mst M (oS (mod M i)) := vu_n e
      rw [e2]; exact q3
