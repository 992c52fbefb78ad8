/-! the numbers' bounds and the rest are kept by each call -/
section INVN
theorem dP_spend {a b : Nat} {clk x : UInt64} (h : dP 0 128000 clk) (hx : dP a b x) (hb : b < 2 ^ 50) : dP 0 128000 (fSpend clk x) := by
  have hs : dP 0 (128000 + b) (FP.dadd clk x) := (dP_add h hx (by omega)).wk (Nat.zero_le _) (Nat.le_refl _)
  by_cases q : FP.dcmp (FP.dadd clk x) cD2000 = some .gt
  · rw [fSpend_f q]; exact dP_c2000.wk (Nat.zero_le _) (Nat.le_refl _)
  · rw [fSpend_t q]
    refine ⟨hs.1, by rw [Nat.zero_mul]; exact Nat.zero_le _, ?_⟩
    rw [dP_cmp hs dP_c2000] at q
    have h1 : fM (FP.dadd clk x) ≤ fM cD2000 := by
      rcases Nat.lt_or_ge (fM cD2000) (fM (FP.dadd clk x)) with z | z
      · exact absurd (congrArg some (Nat.compare_eq_gt.mpr z)) q
      · exact z
    exact Nat.le_trans h1 dP_c2000.2.2
theorem okN_sSh {nb : Nat} {M : tM} (h : okN nb M) (s : tSh) (hc : dP 0 128000 s.1) : okN nb (sSh M s) := ⟨h.1, hc, h.2.2.1, h.2.2.2⟩
theorem okN_sOr {nb : Nat} {M : tM} (h : okN nb M) {i : Nat} (o : tOr) (hr : oReady o = cM1 ∨ dP 0 (128000 + 5120 * nb) (oReady o)) (hb : oState o ≠ 0 → ∀ j, j < (mst M (oS o)).1 → dP 400 13440 (oBod o j)) : okN nb (sOr M i o) := by
  refine ⟨h.1, h.2.1, h.2.2.1, fun j hj => ?_⟩
  show (oReady (vf_upd (mod M) i o j) = cM1 ∨ dP 0 (128000 + 5120 * nb) (oReady (vf_upd (mod M) i o j))) ∧ (oState (vf_upd (mod M) i o j) ≠ 0 → ∀ k, k < (mst M (oS (vf_upd (mod M) i o j))).1 → dP 400 13440 (oBod (vf_upd (mod M) i o j) k))
  by_cases e : j = i
  · rw [e, vu_s]; exact ⟨hr, hb⟩
  · rw [vu_n e]; exact h.2.2.2 j hj
theorem okN_sHa {nb : Nat} {M : tM} (h : okN nb M) {k : Nat} (f : tHa) (hf : dP 0 (128000 + 5120 * nb) f.2) : okN nb (sHa M k f) := by
  refine ⟨h.1, h.2.1, fun j hj => ?_, h.2.2.2⟩
  show dP 0 (128000 + 5120 * nb) (vf_upd (mha M) k f j).2
  by_cases e : j = k
  · rw [e, vu_s]; exact hf
  · rw [vu_n e]; exact h.2.2.1 j hj
theorem okN_sCl {nb : Nat} {M : tM} (h : okN nb M) {k : Nat} (c : tCl) (hc : okCl c) : okN nb (sCl M k c) := by
  refine ⟨fun j hj => ?_, h.2.1, h.2.2.1, h.2.2.2⟩
  show okCl (vf_upd (mcl M) k c j)
  by_cases e : j = k
  · rw [e, vu_s]; exact hc
  · rw [vu_n e]; exact h.1 j hj
theorem okN_sPe {nb : Nat} {M : tM} (h : okN nb M) (k : Nat) (f : Nat → Nat) : okN nb (sPe M k f) := h
theorem okN_aPe {nb : Nat} {M : tM} (h : okN nb M) (f : Nat → Nat) : okN nb (aPe M f) := h
theorem okN_aCl {nb : Nat} {M : tM} (h : okN nb M) (c : tCl) (hc : okCl c) : okN nb (aCl M c) := by
  refine ⟨fun j hj => ?_, h.2.1, h.2.2.1, h.2.2.2⟩
  show okCl (vf_upd (mcl M) (mC M) c j)
  by_cases e : j = mC M
  · rw [e, vu_s]; exact hc
  · have hj2 : j < mC M + 1 := hj
    rw [vu_n e]; exact h.1 j (by omega)
theorem okN_aHa {nb : Nat} {M : tM} (h : okN nb M) (f : tHa) (hf : dP 0 (128000 + 5120 * nb) f.2) : okN nb (aHa M f) := by
  refine ⟨h.1, h.2.1, fun j hj => ?_, h.2.2.2⟩
  show dP 0 (128000 + 5120 * nb) (vf_upd (mha M) (mH M) f j).2
  by_cases e : j = mH M
  · rw [e, vu_s]; exact hf
  · have hj2 : j < mH M + 1 := hj
    rw [vu_n e]; exact h.2.2.1 j (by omega)
theorem okN_aSt {nb : Nat} {M : tM} (ho : okM M) (h : okN nb M) (f : tSt) : okN nb (aSt M f) := by
  refine ⟨h.1, h.2.1, h.2.2.1, fun j hj => ⟨(h.2.2.2 j hj).1, fun hs k hk => ?_⟩⟩
  have hlt := (ho.2.2.2.2.2 j hj).2.1
  have hk2 : k < (vf_upd (mst M) (mS M) f (oS (mod M j))).1 := hk
  rw [vu_n (by omega)] at hk2
  exact (h.2.2.2 j hj).2 hs k hk2
theorem okN_aOr {nb : Nat} {M : tM} (h : okN nb M) (o : tOr) (hr : oReady o = cM1) (hs : oState o = 0) : okN nb (aOr M o) := by
  refine ⟨h.1, h.2.1, h.2.2.1, fun j hj => ?_⟩
  show (oReady (vf_upd (mod M) (mO M) o j) = cM1 ∨ dP 0 (128000 + 5120 * nb) (oReady (vf_upd (mod M) (mO M) o j))) ∧ (oState (vf_upd (mod M) (mO M) o j) ≠ 0 → ∀ k, k < (mst M (oS (vf_upd (mod M) (mO M) o j))).1 → dP 400 13440 (oBod (vf_upd (mod M) (mO M) o j) k))
  by_cases e : j = mO M
  · rw [e, vu_s]; exact ⟨Or.inl hr, fun z => absurd hs z⟩
  · have hj2 : j < mO M + 1 := hj
    rw [vu_n e]; exact h.2.2.2 j (by omega)
/-- a style's pieces are as many as before, or it isn't ordered -/
theorem okN_sSt {nb : Nat} {M : tM} (h : okN nb M) {i : Nat} (f : tSt) (hf : f.1 = (mst M i).1 ∨ ∀ j, j < mO M → ¬ oS (mod M j) = i) : okN nb (sSt M i f) := by
  refine ⟨h.1, h.2.1, h.2.2.1, fun j hj => ⟨(h.2.2.2 j hj).1, fun hs k hk => ?_⟩⟩
  have hk2 : k < (vf_upd (mst M) i f (oS (mod M j))).1 := hk
  refine (h.2.2.2 j hj).2 hs k ?_
  by_cases e : oS (mod M j) = i
  · rcases hf with q | q
    · rw [e, vu_s, q] at hk2
      show k < (mst M (oS (mod M j))).1
      rw [e]; exact hk2
    · exact absurd e (q j hj)
  · rw [vu_n e] at hk2; exact hk2
theorem okX_sSh {M : tM} (h : okX M) (s : tSh) (hs : s.2.2.2 = 0 ∨ s.2.2.2 = 1) : okX (sSh M s) := ⟨hs, h.2.1, h.2.2⟩
theorem okX_sHa {M : tM} (h : okX M) (k : Nat) (f : tHa) : okX (sHa M k f) := h
theorem okX_aHa {M : tM} (h : okX M) (f : tHa) : okX (aHa M f) := h
theorem okX_sPe {M : tM} (h : okX M) (k : Nat) (f : Nat → Nat) : okX (sPe M k f) := h
theorem okX_aPe {M : tM} (h : okX M) (f : Nat → Nat) : okX (aPe M f) := h
theorem okX_sCl {M : tM} (h : okX M) (k : Nat) (c : tCl) (hc : c.2.2.2.2.2 = (mcl M k).2.2.2.2.2) : okX (sCl M k c) := by
  refine ⟨h.1, fun i hi => ⟨(h.2.1 i hi).1, fun hs => ?_⟩, h.2.2⟩
  obtain ⟨jc, h1, h2, h3, h4⟩ := (h.2.1 i hi).2 hs
  refine ⟨jc, h1, h2, ?_, h4⟩
  show oCost (mod M i) = fCost (vf_upd (mcl M) k c jc).2.2.2.2.2 (oNeeds (mod M i))
  by_cases e : jc = k
  · rw [e, vu_s, hc, ← e]; exact h3
  · rw [vu_n e]; exact h3
theorem okX_aCl {M : tM} (h : okX M) (c : tCl) : okX (aCl M c) := by
  refine ⟨h.1, fun i hi => ⟨(h.2.1 i hi).1, fun hs => ?_⟩, h.2.2⟩
  obtain ⟨jc, h1, h2, h3, h4⟩ := (h.2.1 i hi).2 hs
  refine ⟨jc, Nat.lt_succ_of_lt h1, h2, ?_, h4⟩
  show oCost (mod M i) = fCost (vf_upd (mcl M) (mC M) c jc).2.2.2.2.2 (oNeeds (mod M i))
  rw [vu_n (by omega)]; exact h3
theorem okX_sOr {M : tM} (h : okX M) {i : Nat} (hi : i < mO M) (o : tOr) (h0 : oState o = 0 → oBod o = fun _ => 0) (h1 : oState o ≠ 0 → ∃ jc, jc < mC M ∧ oCloth o = nI jc ∧ oCost o = fCost (mcl M jc).2.2.2.2.2 (oNeeds o) ∧ dP 0 675200 (oNeeds o)) (hS : oS o = oS (mod M i)) : okX (sOr M i o) := by
  refine ⟨h.1, fun j hj => ?_, fun k hk => (h.2.2 k hk).trans ⟨fun z j hj => ?_, fun z j hj => ?_⟩⟩
  · show (oState (vf_upd (mod M) i o j) = 0 → oBod (vf_upd (mod M) i o j) = fun _ => 0) ∧ (oState (vf_upd (mod M) i o j) ≠ 0 → ∃ jc, jc < mC M ∧ oCloth (vf_upd (mod M) i o j) = nI jc ∧ oCost (vf_upd (mod M) i o j) = fCost (mcl M jc).2.2.2.2.2 (oNeeds (vf_upd (mod M) i o j)) ∧ dP 0 675200 (oNeeds (vf_upd (mod M) i o j)))
    by_cases e : j = i
    · rw [e, vu_s]; exact ⟨h0, h1⟩
    · rw [vu_n e]; exact h.2.1 j hj
  · show ¬ oS (vf_upd (mod M) i o j) = k
    by_cases e : j = i
    · rw [e, vu_s, hS]; exact z i hi
    · rw [vu_n e]; exact z j hj
  · have z2 : ¬ oS (vf_upd (mod M) i o j) = k := z j hj
    by_cases e : j = i
    · rw [e, vu_s, hS] at z2; rw [e]; exact z2
    · rw [vu_n e] at z2; exact z2
theorem okX_aSt {M : tM} (ho : okM M) (h : okX M) : okX (aSt M zSt) := by
  refine ⟨h.1, h.2.1, fun k hk => ?_⟩
  show ((vf_upd (mst M) (mS M) zSt k).2.2 = 0 ↔ ∀ j, j < mO M → ¬ oS (mod M j) = k)
  by_cases e : k = mS M
  · rw [e, vu_s]
    refine ⟨fun _ j hj z => ?_, fun _ => rfl⟩
    have := (ho.2.2.2.2.2 j hj).2.1
    omega
  · have hk2 : k < mS M + 1 := hk
    rw [vu_n e]; exact h.2.2 k (by omega)
theorem okX_sSt {M : tM} (h : okX M) {i : Nat} (f : tSt) (hf : f.2.2 = (mst M i).2.2) : okX (sSt M i f) := by
  refine ⟨h.1, h.2.1, fun k hk => ?_⟩
  show ((vf_upd (mst M) i f k).2.2 = 0 ↔ ∀ j, j < mO M → ¬ oS (mod M j) = k)
  by_cases e : k = i
  · rw [e, vu_s, hf, ← e]; exact h.2.2 k hk
  · rw [vu_n e]; exact h.2.2 k hk
theorem okX_order {M : tM} (h : okX M) (o : tOr) (h0 : oState o = 0) (hb : oBod o = fun _ => 0) : okX (sSt (aOr M o) (oS o) ((mst M (oS o)).1, (mst M (oS o)).2.1, 1)) := by
  refine ⟨h.1, fun j hj => ?_, fun k hk => ?_⟩
  · show (oState (vf_upd (mod M) (mO M) o j) = 0 → oBod (vf_upd (mod M) (mO M) o j) = fun _ => 0) ∧ (oState (vf_upd (mod M) (mO M) o j) ≠ 0 → ∃ jc, jc < mC M ∧ oCloth (vf_upd (mod M) (mO M) o j) = nI jc ∧ oCost (vf_upd (mod M) (mO M) o j) = fCost (mcl M jc).2.2.2.2.2 (oNeeds (vf_upd (mod M) (mO M) o j)) ∧ dP 0 675200 (oNeeds (vf_upd (mod M) (mO M) o j)))
    by_cases e : j = mO M
    · rw [e, vu_s]; exact ⟨fun _ => hb, fun z => absurd h0 z⟩
    · have hj2 : j < mO M + 1 := hj
      rw [vu_n e]; exact h.2.1 j (by omega)
  · show ((vf_upd (mst M) (oS o) ((mst M (oS o)).1, (mst M (oS o)).2.1, 1) k).2.2 = 0 ↔ ∀ j, j < mO M + 1 → ¬ oS (vf_upd (mod M) (mO M) o j) = k)
    by_cases e : k = oS o
    · rw [e, vu_s]
      refine ⟨fun z => absurd z (show ¬ (1 : Int32) = 0 by decide), fun z => absurd (z (mO M) (Nat.lt_succ_self _)) ?_⟩
      rw [vu_s]
      exact fun y => y rfl
    · rw [vu_n e]
      refine (h.2.2 k hk).trans ⟨fun z j hj => ?_, fun z j hj => ?_⟩
      · by_cases e2 : j = mO M
        · rw [e2, vu_s]; exact fun y => e y.symm
        · rw [vu_n e2]; exact z j (by omega)
      · have := z j (by omega)
        rw [vu_n (by omega)] at this
        exact this
end INVN
